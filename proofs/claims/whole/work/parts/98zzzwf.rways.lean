/-! WAYS of the reference's statements: every call is a hypothesis -/
theorem ml_338 : sm_ml 338 = 6 := by decide +kernel
theorem dc_338_0 : decode (sm_cc 338) 0 = .ok (.iload_n 1, 1) := by decide +kernel
theorem dc_338_1 : decode (sm_cc 338) 1 = .ok (.istore_n 3, 1) := by decide +kernel
theorem dc_338_2 : decode (sm_cc 338) 2 = .ok (.iconst (-1), 1) := by decide +kernel
theorem dc_338_3 : decode (sm_cc 338) 3 = .ok (.istore 4, 2) := by decide +kernel
theorem dc_338_5 : decode (sm_cc 338) 5 = .ok (.aload_n 0, 1) := by decide +kernel
theorem dc_338_6 : decode (sm_cc 338) 6 = .ok (.getfield 129, 3) := by decide +kernel
theorem fr_338_129 : sm_at mt_f (sm_ow 338) 129 = some (129, 14, 6, 0, 2079) := by decide +kernel
theorem dc_338_9 : decode (sm_cc 338) 9 = .ok (.iload_n 3, 1) := by decide +kernel
theorem dc_338_10 : decode (sm_cc 338) 10 = .ok (.iaload, 1) := by decide +kernel
theorem dc_338_11 : decode (sm_cc 338) 11 = .ok (.bipush (7), 2) := by decide +kernel
theorem dc_338_13 : decode (sm_cc 338) 13 = .ok (.if_icmp .eq (341), 3) := by decide +kernel
theorem dc_338_16 : decode (sm_cc 338) 16 = .ok (.aload_n 0, 1) := by decide +kernel
theorem dc_338_17 : decode (sm_cc 338) 17 = .ok (.getfield 141, 3) := by decide +kernel
theorem fr_338_141 : sm_at mt_f (sm_ow 338) 141 = some (141, 14, 9, 0, 2082) := by decide +kernel
theorem dc_338_20 : decode (sm_cc 338) 20 = .ok (.iload_n 3, 1) := by decide +kernel
theorem dc_338_21 : decode (sm_cc 338) 21 = .ok (.iaload, 1) := by decide +kernel
theorem dc_338_22 : decode (sm_cc 338) 22 = .ok (.iload_n 2, 1) := by decide +kernel
theorem dc_338_23 : decode (sm_cc 338) 23 = .ok (.if_icmp .le (331), 3) := by decide +kernel
theorem dc_338_26 : decode (sm_cc 338) 26 = .ok (.iload 4, 2) := by decide +kernel
theorem dc_338_28 : decode (sm_cc 338) 28 = .ok (.ifCond .lt (17), 3) := by decide +kernel
theorem dc_338_31 : decode (sm_cc 338) 31 = .ok (.aload_n 0, 1) := by decide +kernel
theorem dc_338_32 : decode (sm_cc 338) 32 = .ok (.getfield 141, 3) := by decide +kernel
theorem dc_338_35 : decode (sm_cc 338) 35 = .ok (.iload_n 3, 1) := by decide +kernel
theorem dc_338_36 : decode (sm_cc 338) 36 = .ok (.iaload, 1) := by decide +kernel
theorem dc_338_37 : decode (sm_cc 338) 37 = .ok (.iload 4, 2) := by decide +kernel
theorem dc_338_39 : decode (sm_cc 338) 39 = .ok (.if_icmp .gt (6), 3) := by decide +kernel
theorem dc_338_42 : decode (sm_cc 338) 42 = .ok (.iconst (-1), 1) := by decide +kernel
theorem dc_338_43 : decode (sm_cc 338) 43 = .ok (.istore 4, 2) := by decide +kernel
theorem dc_338_45 : decode (sm_cc 338) 45 = .ok (.iload 4, 2) := by decide +kernel
theorem dc_338_47 : decode (sm_cc 338) 47 = .ok (.ifCond .ge (284), 3) := by decide +kernel
theorem dc_338_50 : decode (sm_cc 338) 50 = .ok (.aload_n 0, 1) := by decide +kernel
theorem dc_338_51 : decode (sm_cc 338) 51 = .ok (.getfield 129, 3) := by decide +kernel
theorem dc_338_54 : decode (sm_cc 338) 54 = .ok (.iload_n 3, 1) := by decide +kernel
theorem dc_338_55 : decode (sm_cc 338) 55 = .ok (.iconst 1, 1) := by decide +kernel
theorem dc_338_56 : decode (sm_cc 338) 56 = .ok (.iadd, 1) := by decide +kernel
theorem dc_338_57 : decode (sm_cc 338) 57 = .ok (.iaload, 1) := by decide +kernel
theorem dc_338_58 : decode (sm_cc 338) 58 = .ok (.iconst 1, 1) := by decide +kernel
theorem dc_338_59 : decode (sm_cc 338) 59 = .ok (.if_icmp .ne (7), 3) := by decide +kernel
theorem dc_338_66 : decode (sm_cc 338) 66 = .ok (.iconst 0, 1) := by decide +kernel
theorem dc_338_67 : decode (sm_cc 338) 67 = .ok (.istore 5, 2) := by decide +kernel
theorem dc_338_62 : decode (sm_cc 338) 62 = .ok (.iconst 1, 1) := by decide +kernel
theorem dc_338_63 : decode (sm_cc 338) 63 = .ok (.goto (4), 3) := by decide +kernel
theorem dc_338_69 : decode (sm_cc 338) 69 = .ok (.aload_n 0, 1) := by decide +kernel
theorem dc_338_70 : decode (sm_cc 338) 70 = .ok (.getfield 129, 3) := by decide +kernel
theorem dc_338_73 : decode (sm_cc 338) 73 = .ok (.iload_n 3, 1) := by decide +kernel
theorem dc_338_74 : decode (sm_cc 338) 74 = .ok (.iaload, 1) := by decide +kernel
theorem dc_338_75 : decode (sm_cc 338) 75 = .ok (.iconst 2, 1) := by decide +kernel
theorem dc_338_76 : decode (sm_cc 338) 76 = .ok (.if_icmp .ne (53), 3) := by decide +kernel
theorem dc_338_129 : decode (sm_cc 338) 129 = .ok (.aload_n 0, 1) := by decide +kernel
theorem dc_338_130 : decode (sm_cc 338) 130 = .ok (.getfield 129, 3) := by decide +kernel
theorem dc_338_133 : decode (sm_cc 338) 133 = .ok (.iload_n 3, 1) := by decide +kernel
theorem dc_338_134 : decode (sm_cc 338) 134 = .ok (.iaload, 1) := by decide +kernel
theorem dc_338_135 : decode (sm_cc 338) 135 = .ok (.iconst 2, 1) := by decide +kernel
theorem dc_338_136 : decode (sm_cc 338) 136 = .ok (.if_icmp .ne (68), 3) := by decide +kernel
theorem dc_338_79 : decode (sm_cc 338) 79 = .ok (.aload_n 0, 1) := by decide +kernel
theorem dc_338_80 : decode (sm_cc 338) 80 = .ok (.getfield 135, 3) := by decide +kernel
theorem fr_338_135 : sm_at mt_f (sm_ow 338) 135 = some (135, 14, 7, 0, 2080) := by decide +kernel
theorem dc_338_83 : decode (sm_cc 338) 83 = .ok (.iload_n 3, 1) := by decide +kernel
theorem dc_338_84 : decode (sm_cc 338) 84 = .ok (.iaload, 1) := by decide +kernel
theorem dc_338_85 : decode (sm_cc 338) 85 = .ok (.bipush (6), 2) := by decide +kernel
theorem dc_338_87 : decode (sm_cc 338) 87 = .ok (.if_icmp .eq (14), 3) := by decide +kernel
theorem dc_338_101 : decode (sm_cc 338) 101 = .ok (.iload 5, 2) := by decide +kernel
theorem dc_338_103 : decode (sm_cc 338) 103 = .ok (.ifCond .eq (15), 3) := by decide +kernel
theorem dc_338_118 : decode (sm_cc 338) 118 = .ok (.aload_n 0, 1) := by decide +kernel
theorem dc_338_119 : decode (sm_cc 338) 119 = .ok (.getfield 141, 3) := by decide +kernel
theorem dc_338_122 : decode (sm_cc 338) 122 = .ok (.iload_n 3, 1) := by decide +kernel
theorem dc_338_123 : decode (sm_cc 338) 123 = .ok (.iaload, 1) := by decide +kernel
theorem dc_338_124 : decode (sm_cc 338) 124 = .ok (.istore 4, 2) := by decide +kernel
theorem dc_338_126 : decode (sm_cc 338) 126 = .ok (.goto (205), 3) := by decide +kernel
theorem dc_338_106 : decode (sm_cc 338) 106 = .ok (.aload_n 0, 1) := by decide +kernel
theorem dc_338_107 : decode (sm_cc 338) 107 = .ok (.aload_n 0, 1) := by decide +kernel
theorem dc_338_108 : decode (sm_cc 338) 108 = .ok (.getfield 135, 3) := by decide +kernel
theorem dc_338_111 : decode (sm_cc 338) 111 = .ok (.iload_n 3, 1) := by decide +kernel
theorem dc_338_112 : decode (sm_cc 338) 112 = .ok (.iconst 1, 1) := by decide +kernel
theorem dc_338_113 : decode (sm_cc 338) 113 = .ok (.iadd, 1) := by decide +kernel
theorem dc_338_114 : decode (sm_cc 338) 114 = .ok (.iaload, 1) := by decide +kernel
theorem dc_338_115 : decode (sm_cc 338) 115 = .ok (.invokevirtual 356, 3) := by decide +kernel
theorem ow_339 : 14 = sm_ow 339 := by decide +kernel
theorem kr_338_356 : sm_at mt_k (sm_ow 338) 356 = some (356, 0, 339, 0, 2615) := by decide +kernel
theorem np_339 : sm_np 339 = 1 := by decide +kernel
theorem dc_338_90 : decode (sm_cc 338) 90 = .ok (.aload_n 0, 1) := by decide +kernel
theorem dc_338_91 : decode (sm_cc 338) 91 = .ok (.getfield 135, 3) := by decide +kernel
theorem dc_338_94 : decode (sm_cc 338) 94 = .ok (.iload_n 3, 1) := by decide +kernel
theorem dc_338_95 : decode (sm_cc 338) 95 = .ok (.iaload, 1) := by decide +kernel
theorem dc_338_96 : decode (sm_cc 338) 96 = .ok (.bipush (7), 2) := by decide +kernel
theorem dc_338_98 : decode (sm_cc 338) 98 = .ok (.if_icmp .ne (31), 3) := by decide +kernel
theorem dc_338_139 : decode (sm_cc 338) 139 = .ok (.iload 5, 2) := by decide +kernel
theorem dc_338_141 : decode (sm_cc 338) 141 = .ok (.ifCond .eq (63), 3) := by decide +kernel
theorem dc_338_144 : decode (sm_cc 338) 144 = .ok (.aload_n 0, 1) := by decide +kernel
theorem dc_338_145 : decode (sm_cc 338) 145 = .ok (.getfield 135, 3) := by decide +kernel
theorem dc_338_148 : decode (sm_cc 338) 148 = .ok (.iload_n 3, 1) := by decide +kernel
theorem dc_338_149 : decode (sm_cc 338) 149 = .ok (.iaload, 1) := by decide +kernel
theorem dc_338_150 : decode (sm_cc 338) 150 = .ok (.iconst 4, 1) := by decide +kernel
theorem dc_338_151 : decode (sm_cc 338) 151 = .ok (.if_icmp .eq (38), 3) := by decide +kernel
theorem dc_338_189 : decode (sm_cc 338) 189 = .ok (.aload_n 0, 1) := by decide +kernel
theorem dc_338_190 : decode (sm_cc 338) 190 = .ok (.aload_n 0, 1) := by decide +kernel
theorem dc_338_191 : decode (sm_cc 338) 191 = .ok (.getfield 135, 3) := by decide +kernel
theorem dc_338_194 : decode (sm_cc 338) 194 = .ok (.iload_n 3, 1) := by decide +kernel
theorem dc_338_195 : decode (sm_cc 338) 195 = .ok (.iconst 1, 1) := by decide +kernel
theorem dc_338_196 : decode (sm_cc 338) 196 = .ok (.iadd, 1) := by decide +kernel
theorem dc_338_197 : decode (sm_cc 338) 197 = .ok (.iaload, 1) := by decide +kernel
theorem dc_338_198 : decode (sm_cc 338) 198 = .ok (.invokevirtual 356, 3) := by decide +kernel
theorem dc_338_201 : decode (sm_cc 338) 201 = .ok (.goto (130), 3) := by decide +kernel
theorem dc_338_154 : decode (sm_cc 338) 154 = .ok (.aload_n 0, 1) := by decide +kernel
theorem dc_338_155 : decode (sm_cc 338) 155 = .ok (.getfield 135, 3) := by decide +kernel
theorem dc_338_158 : decode (sm_cc 338) 158 = .ok (.iload_n 3, 1) := by decide +kernel
theorem dc_338_159 : decode (sm_cc 338) 159 = .ok (.iaload, 1) := by decide +kernel
theorem dc_338_160 : decode (sm_cc 338) 160 = .ok (.bipush (15), 2) := by decide +kernel
theorem dc_338_162 : decode (sm_cc 338) 162 = .ok (.if_icmp .eq (27), 3) := by decide +kernel
theorem dc_338_165 : decode (sm_cc 338) 165 = .ok (.aload_n 0, 1) := by decide +kernel
theorem dc_338_166 : decode (sm_cc 338) 166 = .ok (.getfield 135, 3) := by decide +kernel
theorem dc_338_169 : decode (sm_cc 338) 169 = .ok (.iload_n 3, 1) := by decide +kernel
theorem dc_338_170 : decode (sm_cc 338) 170 = .ok (.iaload, 1) := by decide +kernel
theorem dc_338_171 : decode (sm_cc 338) 171 = .ok (.bipush (12), 2) := by decide +kernel
theorem dc_338_173 : decode (sm_cc 338) 173 = .ok (.if_icmp .ne (31), 3) := by decide +kernel
theorem dc_338_176 : decode (sm_cc 338) 176 = .ok (.aload_n 0, 1) := by decide +kernel
theorem dc_338_177 : decode (sm_cc 338) 177 = .ok (.getfield 129, 3) := by decide +kernel
theorem dc_338_180 : decode (sm_cc 338) 180 = .ok (.iload_n 3, 1) := by decide +kernel
theorem dc_338_181 : decode (sm_cc 338) 181 = .ok (.iconst 2, 1) := by decide +kernel
theorem dc_338_182 : decode (sm_cc 338) 182 = .ok (.iadd, 1) := by decide +kernel
theorem dc_338_183 : decode (sm_cc 338) 183 = .ok (.iaload, 1) := by decide +kernel
theorem dc_338_184 : decode (sm_cc 338) 184 = .ok (.bipush (6), 2) := by decide +kernel
theorem dc_338_186 : decode (sm_cc 338) 186 = .ok (.if_icmp .ne (18), 3) := by decide +kernel
theorem dc_338_204 : decode (sm_cc 338) 204 = .ok (.aload_n 0, 1) := by decide +kernel
theorem dc_338_205 : decode (sm_cc 338) 205 = .ok (.getfield 129, 3) := by decide +kernel
theorem dc_338_208 : decode (sm_cc 338) 208 = .ok (.iload_n 3, 1) := by decide +kernel
theorem dc_338_209 : decode (sm_cc 338) 209 = .ok (.iaload, 1) := by decide +kernel
theorem dc_338_210 : decode (sm_cc 338) 210 = .ok (.iconst 1, 1) := by decide +kernel
theorem dc_338_211 : decode (sm_cc 338) 211 = .ok (.if_icmp .ne (120), 3) := by decide +kernel
theorem dc_338_214 : decode (sm_cc 338) 214 = .ok (.aload_n 0, 1) := by decide +kernel
theorem dc_338_215 : decode (sm_cc 338) 215 = .ok (.getfield 129, 3) := by decide +kernel
theorem dc_338_218 : decode (sm_cc 338) 218 = .ok (.iload_n 3, 1) := by decide +kernel
theorem dc_338_219 : decode (sm_cc 338) 219 = .ok (.iconst 1, 1) := by decide +kernel
theorem dc_338_220 : decode (sm_cc 338) 220 = .ok (.iadd, 1) := by decide +kernel
theorem dc_338_221 : decode (sm_cc 338) 221 = .ok (.iaload, 1) := by decide +kernel
theorem dc_338_222 : decode (sm_cc 338) 222 = .ok (.iconst 5, 1) := by decide +kernel
theorem dc_338_223 : decode (sm_cc 338) 223 = .ok (.if_icmp .ne (108), 3) := by decide +kernel
theorem dc_338_226 : decode (sm_cc 338) 226 = .ok (.aload_n 0, 1) := by decide +kernel
theorem dc_338_227 : decode (sm_cc 338) 227 = .ok (.getfield 135, 3) := by decide +kernel
theorem dc_338_230 : decode (sm_cc 338) 230 = .ok (.iload_n 3, 1) := by decide +kernel
theorem dc_338_231 : decode (sm_cc 338) 231 = .ok (.iconst 1, 1) := by decide +kernel
theorem dc_338_232 : decode (sm_cc 338) 232 = .ok (.iadd, 1) := by decide +kernel
theorem dc_338_233 : decode (sm_cc 338) 233 = .ok (.iaload, 1) := by decide +kernel
theorem dc_338_234 : decode (sm_cc 338) 234 = .ok (.bipush (61), 2) := by decide +kernel
theorem dc_338_236 : decode (sm_cc 338) 236 = .ok (.if_icmp .eq (85), 3) := by decide +kernel
theorem dc_338_321 : decode (sm_cc 338) 321 = .ok (.aload_n 0, 1) := by decide +kernel
theorem dc_338_322 : decode (sm_cc 338) 322 = .ok (.aload_n 0, 1) := by decide +kernel
theorem dc_338_323 : decode (sm_cc 338) 323 = .ok (.getfield 135, 3) := by decide +kernel
theorem dc_338_326 : decode (sm_cc 338) 326 = .ok (.iload_n 3, 1) := by decide +kernel
theorem dc_338_327 : decode (sm_cc 338) 327 = .ok (.iaload, 1) := by decide +kernel
theorem dc_338_328 : decode (sm_cc 338) 328 = .ok (.invokevirtual 356, 3) := by decide +kernel
theorem dc_338_239 : decode (sm_cc 338) 239 = .ok (.aload_n 0, 1) := by decide +kernel
theorem dc_338_240 : decode (sm_cc 338) 240 = .ok (.getfield 135, 3) := by decide +kernel
theorem dc_338_243 : decode (sm_cc 338) 243 = .ok (.iload_n 3, 1) := by decide +kernel
theorem dc_338_244 : decode (sm_cc 338) 244 = .ok (.iconst 1, 1) := by decide +kernel
theorem dc_338_245 : decode (sm_cc 338) 245 = .ok (.iadd, 1) := by decide +kernel
theorem dc_338_246 : decode (sm_cc 338) 246 = .ok (.iaload, 1) := by decide +kernel
theorem dc_338_247 : decode (sm_cc 338) 247 = .ok (.sipush (256), 3) := by decide +kernel
theorem dc_338_250 : decode (sm_cc 338) 250 = .ok (.if_icmp .le (81), 3) := by decide +kernel
theorem dc_338_253 : decode (sm_cc 338) 253 = .ok (.aload_n 0, 1) := by decide +kernel
theorem dc_338_254 : decode (sm_cc 338) 254 = .ok (.getfield 135, 3) := by decide +kernel
theorem dc_338_257 : decode (sm_cc 338) 257 = .ok (.iload_n 3, 1) := by decide +kernel
theorem dc_338_258 : decode (sm_cc 338) 258 = .ok (.iconst 1, 1) := by decide +kernel
theorem dc_338_259 : decode (sm_cc 338) 259 = .ok (.iadd, 1) := by decide +kernel
theorem dc_338_260 : decode (sm_cc 338) 260 = .ok (.iaload, 1) := by decide +kernel
theorem dc_338_261 : decode (sm_cc 338) 261 = .ok (.sipush (256), 3) := by decide +kernel
theorem dc_338_264 : decode (sm_cc 338) 264 = .ok (.irem, 1) := by decide +kernel
theorem dc_338_265 : decode (sm_cc 338) 265 = .ok (.bipush (61), 2) := by decide +kernel
theorem dc_338_267 : decode (sm_cc 338) 267 = .ok (.if_icmp .ne (64), 3) := by decide +kernel
theorem dc_338_270 : decode (sm_cc 338) 270 = .ok (.aload_n 0, 1) := by decide +kernel
theorem dc_338_271 : decode (sm_cc 338) 271 = .ok (.getfield 135, 3) := by decide +kernel
theorem dc_338_274 : decode (sm_cc 338) 274 = .ok (.iload_n 3, 1) := by decide +kernel
theorem dc_338_275 : decode (sm_cc 338) 275 = .ok (.iconst 1, 1) := by decide +kernel
theorem dc_338_276 : decode (sm_cc 338) 276 = .ok (.iadd, 1) := by decide +kernel
theorem dc_338_277 : decode (sm_cc 338) 277 = .ok (.iaload, 1) := by decide +kernel
theorem dc_338_278 : decode (sm_cc 338) 278 = .ok (.sipush (256), 3) := by decide +kernel
theorem dc_338_281 : decode (sm_cc 338) 281 = .ok (.idiv, 1) := by decide +kernel
theorem dc_338_282 : decode (sm_cc 338) 282 = .ok (.bipush (43), 2) := by decide +kernel
theorem dc_338_284 : decode (sm_cc 338) 284 = .ok (.if_icmp .eq (37), 3) := by decide +kernel
theorem dc_338_287 : decode (sm_cc 338) 287 = .ok (.aload_n 0, 1) := by decide +kernel
theorem dc_338_288 : decode (sm_cc 338) 288 = .ok (.getfield 135, 3) := by decide +kernel
theorem dc_338_291 : decode (sm_cc 338) 291 = .ok (.iload_n 3, 1) := by decide +kernel
theorem dc_338_292 : decode (sm_cc 338) 292 = .ok (.iconst 1, 1) := by decide +kernel
theorem dc_338_293 : decode (sm_cc 338) 293 = .ok (.iadd, 1) := by decide +kernel
theorem dc_338_294 : decode (sm_cc 338) 294 = .ok (.iaload, 1) := by decide +kernel
theorem dc_338_295 : decode (sm_cc 338) 295 = .ok (.sipush (256), 3) := by decide +kernel
theorem dc_338_298 : decode (sm_cc 338) 298 = .ok (.idiv, 1) := by decide +kernel
theorem dc_338_299 : decode (sm_cc 338) 299 = .ok (.bipush (45), 2) := by decide +kernel
theorem dc_338_301 : decode (sm_cc 338) 301 = .ok (.if_icmp .eq (20), 3) := by decide +kernel
theorem dc_338_304 : decode (sm_cc 338) 304 = .ok (.aload_n 0, 1) := by decide +kernel
theorem dc_338_305 : decode (sm_cc 338) 305 = .ok (.getfield 135, 3) := by decide +kernel
theorem dc_338_308 : decode (sm_cc 338) 308 = .ok (.iload_n 3, 1) := by decide +kernel
theorem dc_338_309 : decode (sm_cc 338) 309 = .ok (.iconst 1, 1) := by decide +kernel
theorem dc_338_310 : decode (sm_cc 338) 310 = .ok (.iadd, 1) := by decide +kernel
theorem dc_338_311 : decode (sm_cc 338) 311 = .ok (.iaload, 1) := by decide +kernel
theorem dc_338_312 : decode (sm_cc 338) 312 = .ok (.sipush (256), 3) := by decide +kernel
theorem dc_338_315 : decode (sm_cc 338) 315 = .ok (.idiv, 1) := by decide +kernel
theorem dc_338_316 : decode (sm_cc 338) 316 = .ok (.bipush (42), 2) := by decide +kernel
theorem dc_338_318 : decode (sm_cc 338) 318 = .ok (.if_icmp .ne (13), 3) := by decide +kernel
theorem dc_338_331 : decode (sm_cc 338) 331 = .ok (.aload_n 0, 1) := by decide +kernel
theorem dc_338_332 : decode (sm_cc 338) 332 = .ok (.getfield 129, 3) := by decide +kernel
theorem dc_338_335 : decode (sm_cc 338) 335 = .ok (.iload_n 3, 1) := by decide +kernel
theorem dc_338_336 : decode (sm_cc 338) 336 = .ok (.iaload, 1) := by decide +kernel
theorem dc_338_337 : decode (sm_cc 338) 337 = .ok (.bipush (6), 2) := by decide +kernel
theorem dc_338_339 : decode (sm_cc 338) 339 = .ok (.if_icmp .eq (9), 3) := by decide +kernel
theorem dc_338_348 : decode (sm_cc 338) 348 = .ok (.iinc 3 (1), 3) := by decide +kernel
theorem dc_338_351 : decode (sm_cc 338) 351 = .ok (.goto (-346), 3) := by decide +kernel
theorem dc_338_342 : decode (sm_cc 338) 342 = .ok (.iinc 3 (1), 3) := by decide +kernel
theorem dc_338_345 : decode (sm_cc 338) 345 = .ok (.goto (-14), 3) := by decide +kernel
theorem dc_338_354 : decode (sm_cc 338) 354 = .ok (.iload_n 1, 1) := by decide +kernel
theorem dc_338_355 : decode (sm_cc 338) 355 = .ok (.istore_n 3, 1) := by decide +kernel
theorem dc_338_356 : decode (sm_cc 338) 356 = .ok (.iconst (-1), 1) := by decide +kernel
theorem dc_338_357 : decode (sm_cc 338) 357 = .ok (.istore 4, 2) := by decide +kernel
theorem dc_338_359 : decode (sm_cc 338) 359 = .ok (.aload_n 0, 1) := by decide +kernel
theorem dc_338_360 : decode (sm_cc 338) 360 = .ok (.getfield 129, 3) := by decide +kernel
theorem dc_338_363 : decode (sm_cc 338) 363 = .ok (.iload_n 3, 1) := by decide +kernel
theorem dc_338_364 : decode (sm_cc 338) 364 = .ok (.iaload, 1) := by decide +kernel
theorem dc_338_365 : decode (sm_cc 338) 365 = .ok (.bipush (7), 2) := by decide +kernel
theorem dc_338_367 : decode (sm_cc 338) 367 = .ok (.if_icmp .eq (174), 3) := by decide +kernel
theorem dc_338_541 : decode (sm_cc 338) 541 = .ok (.return_, 1) := by decide +kernel
theorem rt_338 : sm_rt 338 = none := by decide +kernel
theorem dc_338_370 : decode (sm_cc 338) 370 = .ok (.aload_n 0, 1) := by decide +kernel
theorem dc_338_371 : decode (sm_cc 338) 371 = .ok (.getfield 141, 3) := by decide +kernel
theorem dc_338_374 : decode (sm_cc 338) 374 = .ok (.iload_n 3, 1) := by decide +kernel
theorem dc_338_375 : decode (sm_cc 338) 375 = .ok (.iaload, 1) := by decide +kernel
theorem dc_338_376 : decode (sm_cc 338) 376 = .ok (.iload_n 2, 1) := by decide +kernel
theorem dc_338_377 : decode (sm_cc 338) 377 = .ok (.if_icmp .le (164), 3) := by decide +kernel
theorem dc_338_380 : decode (sm_cc 338) 380 = .ok (.iload 4, 2) := by decide +kernel
theorem dc_338_382 : decode (sm_cc 338) 382 = .ok (.ifCond .lt (17), 3) := by decide +kernel
theorem dc_338_385 : decode (sm_cc 338) 385 = .ok (.aload_n 0, 1) := by decide +kernel
theorem dc_338_386 : decode (sm_cc 338) 386 = .ok (.getfield 141, 3) := by decide +kernel
theorem dc_338_389 : decode (sm_cc 338) 389 = .ok (.iload_n 3, 1) := by decide +kernel
theorem dc_338_390 : decode (sm_cc 338) 390 = .ok (.iaload, 1) := by decide +kernel
theorem dc_338_391 : decode (sm_cc 338) 391 = .ok (.iload 4, 2) := by decide +kernel
theorem dc_338_393 : decode (sm_cc 338) 393 = .ok (.if_icmp .gt (6), 3) := by decide +kernel
theorem dc_338_396 : decode (sm_cc 338) 396 = .ok (.iconst (-1), 1) := by decide +kernel
theorem dc_338_397 : decode (sm_cc 338) 397 = .ok (.istore 4, 2) := by decide +kernel
theorem dc_338_399 : decode (sm_cc 338) 399 = .ok (.iload 4, 2) := by decide +kernel
theorem dc_338_401 : decode (sm_cc 338) 401 = .ok (.ifCond .ge (46), 3) := by decide +kernel
theorem dc_338_447 : decode (sm_cc 338) 447 = .ok (.iload 4, 2) := by decide +kernel
theorem dc_338_449 : decode (sm_cc 338) 449 = .ok (.ifCond .ge (69), 3) := by decide +kernel
theorem dc_338_404 : decode (sm_cc 338) 404 = .ok (.aload_n 0, 1) := by decide +kernel
theorem dc_338_405 : decode (sm_cc 338) 405 = .ok (.getfield 129, 3) := by decide +kernel
theorem dc_338_408 : decode (sm_cc 338) 408 = .ok (.iload_n 3, 1) := by decide +kernel
theorem dc_338_409 : decode (sm_cc 338) 409 = .ok (.iaload, 1) := by decide +kernel
theorem dc_338_410 : decode (sm_cc 338) 410 = .ok (.iconst 2, 1) := by decide +kernel
theorem dc_338_411 : decode (sm_cc 338) 411 = .ok (.if_icmp .ne (36), 3) := by decide +kernel
theorem dc_338_452 : decode (sm_cc 338) 452 = .ok (.aload_n 0, 1) := by decide +kernel
theorem dc_338_453 : decode (sm_cc 338) 453 = .ok (.getfield 129, 3) := by decide +kernel
theorem dc_338_456 : decode (sm_cc 338) 456 = .ok (.iload_n 3, 1) := by decide +kernel
theorem dc_338_457 : decode (sm_cc 338) 457 = .ok (.iaload, 1) := by decide +kernel
theorem dc_338_458 : decode (sm_cc 338) 458 = .ok (.iconst 2, 1) := by decide +kernel
theorem dc_338_459 : decode (sm_cc 338) 459 = .ok (.if_icmp .ne (59), 3) := by decide +kernel
theorem dc_338_414 : decode (sm_cc 338) 414 = .ok (.aload_n 0, 1) := by decide +kernel
theorem dc_338_415 : decode (sm_cc 338) 415 = .ok (.getfield 135, 3) := by decide +kernel
theorem dc_338_418 : decode (sm_cc 338) 418 = .ok (.iload_n 3, 1) := by decide +kernel
theorem dc_338_419 : decode (sm_cc 338) 419 = .ok (.iaload, 1) := by decide +kernel
theorem dc_338_420 : decode (sm_cc 338) 420 = .ok (.bipush (6), 2) := by decide +kernel
theorem dc_338_422 : decode (sm_cc 338) 422 = .ok (.if_icmp .eq (14), 3) := by decide +kernel
theorem dc_338_436 : decode (sm_cc 338) 436 = .ok (.aload_n 0, 1) := by decide +kernel
theorem dc_338_437 : decode (sm_cc 338) 437 = .ok (.getfield 141, 3) := by decide +kernel
theorem dc_338_440 : decode (sm_cc 338) 440 = .ok (.iload_n 3, 1) := by decide +kernel
theorem dc_338_441 : decode (sm_cc 338) 441 = .ok (.iaload, 1) := by decide +kernel
theorem dc_338_442 : decode (sm_cc 338) 442 = .ok (.istore 4, 2) := by decide +kernel
theorem dc_338_444 : decode (sm_cc 338) 444 = .ok (.goto (74), 3) := by decide +kernel
theorem dc_338_425 : decode (sm_cc 338) 425 = .ok (.aload_n 0, 1) := by decide +kernel
theorem dc_338_426 : decode (sm_cc 338) 426 = .ok (.getfield 135, 3) := by decide +kernel
theorem dc_338_429 : decode (sm_cc 338) 429 = .ok (.iload_n 3, 1) := by decide +kernel
theorem dc_338_430 : decode (sm_cc 338) 430 = .ok (.iaload, 1) := by decide +kernel
theorem dc_338_431 : decode (sm_cc 338) 431 = .ok (.bipush (7), 2) := by decide +kernel
theorem dc_338_433 : decode (sm_cc 338) 433 = .ok (.if_icmp .ne (14), 3) := by decide +kernel
theorem dc_338_462 : decode (sm_cc 338) 462 = .ok (.aload_n 0, 1) := by decide +kernel
theorem dc_338_463 : decode (sm_cc 338) 463 = .ok (.getfield 135, 3) := by decide +kernel
theorem dc_338_466 : decode (sm_cc 338) 466 = .ok (.iload_n 3, 1) := by decide +kernel
theorem dc_338_467 : decode (sm_cc 338) 467 = .ok (.iaload, 1) := by decide +kernel
theorem dc_338_468 : decode (sm_cc 338) 468 = .ok (.bipush (13), 2) := by decide +kernel
theorem dc_338_470 : decode (sm_cc 338) 470 = .ok (.if_icmp .ne (48), 3) := by decide +kernel
theorem dc_338_473 : decode (sm_cc 338) 473 = .ok (.iload_n 3, 1) := by decide +kernel
theorem dc_338_474 : decode (sm_cc 338) 474 = .ok (.iconst 1, 1) := by decide +kernel
theorem dc_338_475 : decode (sm_cc 338) 475 = .ok (.iadd, 1) := by decide +kernel
theorem dc_338_476 : decode (sm_cc 338) 476 = .ok (.istore 5, 2) := by decide +kernel
theorem dc_338_478 : decode (sm_cc 338) 478 = .ok (.aload_n 0, 1) := by decide +kernel
theorem dc_338_479 : decode (sm_cc 338) 479 = .ok (.getfield 129, 3) := by decide +kernel
theorem dc_338_482 : decode (sm_cc 338) 482 = .ok (.iload 5, 2) := by decide +kernel
theorem dc_338_484 : decode (sm_cc 338) 484 = .ok (.iaload, 1) := by decide +kernel
theorem dc_338_485 : decode (sm_cc 338) 485 = .ok (.bipush (6), 2) := by decide +kernel
theorem dc_338_487 : decode (sm_cc 338) 487 = .ok (.if_icmp .eq (31), 3) := by decide +kernel
theorem dc_338_490 : decode (sm_cc 338) 490 = .ok (.aload_n 0, 1) := by decide +kernel
theorem dc_338_491 : decode (sm_cc 338) 491 = .ok (.getfield 129, 3) := by decide +kernel
theorem dc_338_494 : decode (sm_cc 338) 494 = .ok (.iload 5, 2) := by decide +kernel
theorem dc_338_496 : decode (sm_cc 338) 496 = .ok (.iaload, 1) := by decide +kernel
theorem dc_338_497 : decode (sm_cc 338) 497 = .ok (.iconst 1, 1) := by decide +kernel
theorem dc_338_498 : decode (sm_cc 338) 498 = .ok (.if_icmp .ne (14), 3) := by decide +kernel
theorem dc_338_512 : decode (sm_cc 338) 512 = .ok (.iinc 5 (1), 3) := by decide +kernel
theorem dc_338_515 : decode (sm_cc 338) 515 = .ok (.goto (-37), 3) := by decide +kernel
theorem dc_338_501 : decode (sm_cc 338) 501 = .ok (.aload_n 0, 1) := by decide +kernel
theorem dc_338_502 : decode (sm_cc 338) 502 = .ok (.aload_n 0, 1) := by decide +kernel
theorem dc_338_503 : decode (sm_cc 338) 503 = .ok (.getfield 135, 3) := by decide +kernel
theorem dc_338_506 : decode (sm_cc 338) 506 = .ok (.iload 5, 2) := by decide +kernel
theorem dc_338_508 : decode (sm_cc 338) 508 = .ok (.iaload, 1) := by decide +kernel
theorem dc_338_509 : decode (sm_cc 338) 509 = .ok (.invokevirtual 359, 3) := by decide +kernel
theorem ow_340 : 14 = sm_ow 340 := by decide +kernel
theorem kr_338_359 : sm_at mt_k (sm_ow 338) 359 = some (359, 0, 340, 0, 2619) := by decide +kernel
theorem np_340 : sm_np 340 = 1 := by decide +kernel
theorem dc_338_518 : decode (sm_cc 338) 518 = .ok (.aload_n 0, 1) := by decide +kernel
theorem dc_338_519 : decode (sm_cc 338) 519 = .ok (.getfield 129, 3) := by decide +kernel
theorem dc_338_522 : decode (sm_cc 338) 522 = .ok (.iload_n 3, 1) := by decide +kernel
theorem dc_338_523 : decode (sm_cc 338) 523 = .ok (.iaload, 1) := by decide +kernel
theorem dc_338_524 : decode (sm_cc 338) 524 = .ok (.bipush (6), 2) := by decide +kernel
theorem dc_338_526 : decode (sm_cc 338) 526 = .ok (.if_icmp .eq (9), 3) := by decide +kernel
theorem dc_338_535 : decode (sm_cc 338) 535 = .ok (.iinc 3 (1), 3) := by decide +kernel
theorem dc_338_538 : decode (sm_cc 338) 538 = .ok (.goto (-179), 3) := by decide +kernel
theorem dc_338_529 : decode (sm_cc 338) 529 = .ok (.iinc 3 (1), 3) := by decide +kernel
theorem dc_338_532 : decode (sm_cc 338) 532 = .ok (.goto (-14), 3) := by decide +kernel
theorem zSc_1 {d : Nat} {S Sf : cS} {v : Option Value} {la : Nat} {lw : Nat} (mla : la < 2 ^ 20) (mlw : lw < 2 ^ 20) (hB : ∀ lv1 : sm_L, sm_get lv1 0 = some (.ref 61) → sm_get lv1 1 = some (.int (nI la)) → sm_get lv1 2 = some (.int (nI lw)) → sm_get lv1 3 = some (.int (nI la)) → sm_get lv1 4 = some (.int (Int32.ofInt (-1))) → Bod (d + 8) 338 5 lv1 [] (S) v Sf) : Bod (d + 8) 338 0 [(0, .ref 61), (1, .int (nI la)), (2, .int (nI lw))] [] S v Sf := by
  refine Bod.go dc_338_0 rfl ?_
  refine Bod.istn dc_338_1 (by rw [ml_338]; exact Nat.le_of_ble_eq_true rfl) ?_
  refine Bod.go dc_338_2 rfl ?_
  refine Bod.ist dc_338_3 (by rw [ml_338]; exact Nat.le_of_ble_eq_true rfl) ?_
  exact hB _ (by first | rfl | exact (by repeat (first | exact rfl | exact sm_get_p1 | exact sm_get_p2e | refine sm_get_p1m (by decide) (by decide) ?_ | refine sm_get_p1n (by decide) rfl ?_ | refine sm_get_p2n (by decide) (by decide) rfl ?_))) (by first | rfl | exact (by repeat (first | exact rfl | exact sm_get_p1 | exact sm_get_p2e | refine sm_get_p1m (by decide) (by decide) ?_ | refine sm_get_p1n (by decide) rfl ?_ | refine sm_get_p2n (by decide) (by decide) rfl ?_))) (by first | rfl | exact (by repeat (first | exact rfl | exact sm_get_p1 | exact sm_get_p2e | refine sm_get_p1m (by decide) (by decide) ?_ | refine sm_get_p1n (by decide) rfl ?_ | refine sm_get_p2n (by decide) (by decide) rfl ?_))) (by first | rfl | exact (by repeat (first | exact rfl | exact sm_get_p1 | exact sm_get_p2e | refine sm_get_p1m (by decide) (by decide) ?_ | refine sm_get_p1n (by decide) rfl ?_ | refine sm_get_p2n (by decide) (by decide) rfl ?_))) (by first | rfl | exact (by repeat (first | exact rfl | exact sm_get_p1 | exact sm_get_p2e | refine sm_get_p1m (by decide) (by decide) ?_ | refine sm_get_p1n (by decide) rfl ?_ | refine sm_get_p2n (by decide) (by decide) rfl ?_)))
theorem zSa_1 {d : Nat} {S Sf : cS} {v : Option Value} {lv : sm_L} {la : Nat} {lw : Nat} {li : Nat} {ly : Nat} {e67 : Nat} (q0 : sm_get lv 0 = some (.ref 61)) (q1 : sm_get lv 1 = some (.int (nI la))) (q2 : sm_get lv 2 = some (.int (nI lw))) (q3 : sm_get lv 3 = some (.int (nI li))) (q4 : sm_get lv 4 = some (.int (nI ly))) (mla : la < 2 ^ 20) (mlw : lw < 2 ^ 20) (mli : li < 2 ^ 20) (mly : ly < 2 ^ 20) (b1 : li < 6002) (he67 : sA S 67 li = nI e67) (me67 : e67 < 2 ^ 20) (b2 : e67 = 7) (hB : ∀ lv1 : sm_L, sm_get lv1 0 = some (.ref 61) → sm_get lv1 1 = some (.int (nI la)) → sm_get lv1 2 = some (.int (nI lw)) → Bod (d + 8) 338 354 lv1 [] (S) v Sf) : Bod (d + 8) 338 5 lv [] S v Sf := by
  refine Bod.aldnG dc_338_5 (by repeat (first | exact q0 | exact sm_get_p1 | exact sm_get_p2e | refine sm_get_p1m (by decide) (by decide) ?_ | refine sm_get_p1n (by decide) rfl ?_ | refine sm_get_p2n (by decide) (by decide) rfl ?_)) ?_
  refine Bod.get dc_338_6 fr_338_129 (mk_61 _) rfl ?_
  refine Bod.ildnG dc_338_9 (by repeat (first | exact q3 | exact sm_get_p1 | exact sm_get_p2e | refine sm_get_p1m (by decide) (by decide) ?_ | refine sm_get_p1n (by decide) rfl ?_ | refine sm_get_p2n (by decide) (by decide) rfl ?_)) ?_
  refine Bod.ialdN li rfl (by omega) (by omega) dc_338_10 (mk_67 _) ?_
  refine Bod.eqI (nI e67) (by first | assumption | rfl | exact congrArg nI (by omega) | (simp (disch := omega) only [rI, rIe, rA, rIA, rLA, rJA, rVI, rQI, rVA, rQA, upd_at,  rAI, rLI, rJI, nI_add, pk_sub, kc_0, kc_1, kc_2, kc_3, kc_4, kc_5, reduceIte, Nat.reduceEqDiff, Nat.add_zero, rI_hold, rI_hold, rL_hold, he67]; done)) ?_
  refine Bod.bip 7 (by decide) dc_338_11 ?_
  refine Bod.icT dc_338_13 rfl (k2_eq_T (k_eq e67 7 rfl rfl (by omega))) ?_
  exact hB _ (by repeat (first | exact q0 | exact sm_get_p1 | exact sm_get_p2e | refine sm_get_p1m (by decide) (by decide) ?_ | refine sm_get_p1n (by decide) rfl ?_ | refine sm_get_p2n (by decide) (by decide) rfl ?_)) (by repeat (first | exact q1 | exact sm_get_p1 | exact sm_get_p2e | refine sm_get_p1m (by decide) (by decide) ?_ | refine sm_get_p1n (by decide) rfl ?_ | refine sm_get_p2n (by decide) (by decide) rfl ?_)) (by repeat (first | exact q2 | exact sm_get_p1 | exact sm_get_p2e | refine sm_get_p1m (by decide) (by decide) ?_ | refine sm_get_p1n (by decide) rfl ?_ | refine sm_get_p2n (by decide) (by decide) rfl ?_))
theorem zSa_2 {d : Nat} {S Sf : cS} {v : Option Value} {lv : sm_L} {la : Nat} {lw : Nat} {li : Nat} {ly : Nat} {e67 : Nat} {e70 : Nat} (q0 : sm_get lv 0 = some (.ref 61)) (q1 : sm_get lv 1 = some (.int (nI la))) (q2 : sm_get lv 2 = some (.int (nI lw))) (q3 : sm_get lv 3 = some (.int (nI li))) (q4 : sm_get lv 4 = some (.int (nI ly))) (mla : la < 2 ^ 20) (mlw : lw < 2 ^ 20) (mli : li < 2 ^ 20) (mly : ly < 2 ^ 20) (b1 : li < 6002) (he67 : sA S 67 li = nI e67) (me67 : e67 < 2 ^ 20) (b2 : e67 ≠ 7) (he70 : sA S 70 li = nI e70) (me70 : e70 < 2 ^ 20) (b3 : e70 ≤ lw) (hB : ∀ lv1 : sm_L, sm_get lv1 0 = some (.ref 61) → sm_get lv1 1 = some (.int (nI la)) → sm_get lv1 2 = some (.int (nI lw)) → Bod (d + 8) 338 354 lv1 [] (S) v Sf) : Bod (d + 8) 338 5 lv [] S v Sf := by
  refine Bod.aldnG dc_338_5 (by repeat (first | exact q0 | exact sm_get_p1 | exact sm_get_p2e | refine sm_get_p1m (by decide) (by decide) ?_ | refine sm_get_p1n (by decide) rfl ?_ | refine sm_get_p2n (by decide) (by decide) rfl ?_)) ?_
  refine Bod.get dc_338_6 fr_338_129 (mk_61 _) rfl ?_
  refine Bod.ildnG dc_338_9 (by repeat (first | exact q3 | exact sm_get_p1 | exact sm_get_p2e | refine sm_get_p1m (by decide) (by decide) ?_ | refine sm_get_p1n (by decide) rfl ?_ | refine sm_get_p2n (by decide) (by decide) rfl ?_)) ?_
  refine Bod.ialdN li rfl (by omega) (by omega) dc_338_10 (mk_67 _) ?_
  refine Bod.eqI (nI e67) (by first | assumption | rfl | exact congrArg nI (by omega) | (simp (disch := omega) only [rI, rIe, rA, rIA, rLA, rJA, rVI, rQI, rVA, rQA, upd_at,  rAI, rLI, rJI, nI_add, pk_sub, kc_0, kc_1, kc_2, kc_3, kc_4, kc_5, reduceIte, Nat.reduceEqDiff, Nat.add_zero, rI_hold, rI_hold, rL_hold, he67]; done)) ?_
  refine Bod.bip 7 (by decide) dc_338_11 ?_
  refine Bod.icF dc_338_13 rfl (k2_eq_F (k_ne e67 7 rfl rfl (by omega) (by omega) (by omega))) ?_
  refine Bod.aldnG dc_338_16 (by repeat (first | exact q0 | exact sm_get_p1 | exact sm_get_p2e | refine sm_get_p1m (by decide) (by decide) ?_ | refine sm_get_p1n (by decide) rfl ?_ | refine sm_get_p2n (by decide) (by decide) rfl ?_)) ?_
  refine Bod.get dc_338_17 fr_338_141 (mk_61 _) rfl ?_
  refine Bod.ildnG dc_338_20 (by repeat (first | exact q3 | exact sm_get_p1 | exact sm_get_p2e | refine sm_get_p1m (by decide) (by decide) ?_ | refine sm_get_p1n (by decide) rfl ?_ | refine sm_get_p2n (by decide) (by decide) rfl ?_)) ?_
  refine Bod.ialdN li rfl (by omega) (by omega) dc_338_21 (mk_70 _) ?_
  refine Bod.eqI (nI e70) (by first | assumption | rfl | exact congrArg nI (by omega) | (simp (disch := omega) only [rI, rIe, rA, rIA, rLA, rJA, rVI, rQI, rVA, rQA, upd_at,  rAI, rLI, rJI, nI_add, pk_sub, kc_0, kc_1, kc_2, kc_3, kc_4, kc_5, reduceIte, Nat.reduceEqDiff, Nat.add_zero, rI_hold, rI_hold, rL_hold, he67, he70]; done)) ?_
  refine Bod.ildnG dc_338_22 (by repeat (first | exact q2 | exact sm_get_p1 | exact sm_get_p2e | refine sm_get_p1m (by decide) (by decide) ?_ | refine sm_get_p1n (by decide) rfl ?_ | refine sm_get_p2n (by decide) (by decide) rfl ?_)) ?_
  refine Bod.icT dc_338_23 rfl (k2_le_T e70 lw rfl rfl (by omega) (by omega)) ?_
  exact hB _ (by repeat (first | exact q0 | exact sm_get_p1 | exact sm_get_p2e | refine sm_get_p1m (by decide) (by decide) ?_ | refine sm_get_p1n (by decide) rfl ?_ | refine sm_get_p2n (by decide) (by decide) rfl ?_)) (by repeat (first | exact q1 | exact sm_get_p1 | exact sm_get_p2e | refine sm_get_p1m (by decide) (by decide) ?_ | refine sm_get_p1n (by decide) rfl ?_ | refine sm_get_p2n (by decide) (by decide) rfl ?_)) (by repeat (first | exact q2 | exact sm_get_p1 | exact sm_get_p2e | refine sm_get_p1m (by decide) (by decide) ?_ | refine sm_get_p1n (by decide) rfl ?_ | refine sm_get_p2n (by decide) (by decide) rfl ?_))
theorem zSa_3 {d : Nat} {S Sf : cS} {v : Option Value} {lv : sm_L} {la : Nat} {lw : Nat} {li : Nat} {ly : Nat} {e67 : Nat} {e70 : Nat} (q0 : sm_get lv 0 = some (.ref 61)) (q1 : sm_get lv 1 = some (.int (nI la))) (q2 : sm_get lv 2 = some (.int (nI lw))) (q3 : sm_get lv 3 = some (.int (nI li))) (q4 : sm_get lv 4 = some (.int (nI ly))) (mla : la < 2 ^ 20) (mlw : lw < 2 ^ 20) (mli : li < 2 ^ 20) (mly : ly < 2 ^ 20) (b1 : li < 6002) (he67 : sA S 67 li = nI e67) (me67 : e67 < 2 ^ 20) (b2 : e67 ≠ 7) (he70 : sA S 70 li = nI e70) (me70 : e70 < 2 ^ 20) (b3 : lw < e70) (b4 : ly < e70) (hB : ∀ lv1 : sm_L, sm_get lv1 0 = some (.ref 61) → sm_get lv1 1 = some (.int (nI la)) → sm_get lv1 2 = some (.int (nI lw)) → sm_get lv1 3 = some (.int (nI li)) → sm_get lv1 4 = some (.int (nI ly)) → Bod (d + 8) 338 45 lv1 [] (S) v Sf) : Bod (d + 8) 338 5 lv [] S v Sf := by
  refine Bod.aldnG dc_338_5 (by repeat (first | exact q0 | exact sm_get_p1 | exact sm_get_p2e | refine sm_get_p1m (by decide) (by decide) ?_ | refine sm_get_p1n (by decide) rfl ?_ | refine sm_get_p2n (by decide) (by decide) rfl ?_)) ?_
  refine Bod.get dc_338_6 fr_338_129 (mk_61 _) rfl ?_
  refine Bod.ildnG dc_338_9 (by repeat (first | exact q3 | exact sm_get_p1 | exact sm_get_p2e | refine sm_get_p1m (by decide) (by decide) ?_ | refine sm_get_p1n (by decide) rfl ?_ | refine sm_get_p2n (by decide) (by decide) rfl ?_)) ?_
  refine Bod.ialdN li rfl (by omega) (by omega) dc_338_10 (mk_67 _) ?_
  refine Bod.eqI (nI e67) (by first | assumption | rfl | exact congrArg nI (by omega) | (simp (disch := omega) only [rI, rIe, rA, rIA, rLA, rJA, rVI, rQI, rVA, rQA, upd_at,  rAI, rLI, rJI, nI_add, pk_sub, kc_0, kc_1, kc_2, kc_3, kc_4, kc_5, reduceIte, Nat.reduceEqDiff, Nat.add_zero, rI_hold, rI_hold, rL_hold, he67]; done)) ?_
  refine Bod.bip 7 (by decide) dc_338_11 ?_
  refine Bod.icF dc_338_13 rfl (k2_eq_F (k_ne e67 7 rfl rfl (by omega) (by omega) (by omega))) ?_
  refine Bod.aldnG dc_338_16 (by repeat (first | exact q0 | exact sm_get_p1 | exact sm_get_p2e | refine sm_get_p1m (by decide) (by decide) ?_ | refine sm_get_p1n (by decide) rfl ?_ | refine sm_get_p2n (by decide) (by decide) rfl ?_)) ?_
  refine Bod.get dc_338_17 fr_338_141 (mk_61 _) rfl ?_
  refine Bod.ildnG dc_338_20 (by repeat (first | exact q3 | exact sm_get_p1 | exact sm_get_p2e | refine sm_get_p1m (by decide) (by decide) ?_ | refine sm_get_p1n (by decide) rfl ?_ | refine sm_get_p2n (by decide) (by decide) rfl ?_)) ?_
  refine Bod.ialdN li rfl (by omega) (by omega) dc_338_21 (mk_70 _) ?_
  refine Bod.eqI (nI e70) (by first | assumption | rfl | exact congrArg nI (by omega) | (simp (disch := omega) only [rI, rIe, rA, rIA, rLA, rJA, rVI, rQI, rVA, rQA, upd_at,  rAI, rLI, rJI, nI_add, pk_sub, kc_0, kc_1, kc_2, kc_3, kc_4, kc_5, reduceIte, Nat.reduceEqDiff, Nat.add_zero, rI_hold, rI_hold, rL_hold, he67, he70]; done)) ?_
  refine Bod.ildnG dc_338_22 (by repeat (first | exact q2 | exact sm_get_p1 | exact sm_get_p2e | refine sm_get_p1m (by decide) (by decide) ?_ | refine sm_get_p1n (by decide) rfl ?_ | refine sm_get_p2n (by decide) (by decide) rfl ?_)) ?_
  refine Bod.icF dc_338_23 rfl (k2_le_F e70 lw rfl rfl (by omega) (by omega)) ?_
  refine Bod.ildG dc_338_26 (by repeat (first | exact q4 | exact sm_get_p1 | exact sm_get_p2e | refine sm_get_p1m (by decide) (by decide) ?_ | refine sm_get_p1n (by decide) rfl ?_ | refine sm_get_p2n (by decide) (by decide) rfl ?_)) ?_
  refine Bod.ifF dc_338_28 rfl (k1_lt_F ly rfl (by omega)) ?_
  refine Bod.aldnG dc_338_31 (by repeat (first | exact q0 | exact sm_get_p1 | exact sm_get_p2e | refine sm_get_p1m (by decide) (by decide) ?_ | refine sm_get_p1n (by decide) rfl ?_ | refine sm_get_p2n (by decide) (by decide) rfl ?_)) ?_
  refine Bod.get dc_338_32 fr_338_141 (mk_61 _) rfl ?_
  refine Bod.ildnG dc_338_35 (by repeat (first | exact q3 | exact sm_get_p1 | exact sm_get_p2e | refine sm_get_p1m (by decide) (by decide) ?_ | refine sm_get_p1n (by decide) rfl ?_ | refine sm_get_p2n (by decide) (by decide) rfl ?_)) ?_
  refine Bod.ialdN li rfl (by omega) (by omega) dc_338_36 (mk_70 _) ?_
  refine Bod.eqI (nI e70) (by first | assumption | rfl | exact congrArg nI (by omega) | (simp (disch := omega) only [rI, rIe, rA, rIA, rLA, rJA, rVI, rQI, rVA, rQA, upd_at,  rAI, rLI, rJI, nI_add, pk_sub, kc_0, kc_1, kc_2, kc_3, kc_4, kc_5, reduceIte, Nat.reduceEqDiff, Nat.add_zero, rI_hold, rI_hold, rL_hold, he67, he70]; done)) ?_
  refine Bod.ildG dc_338_37 (by repeat (first | exact q4 | exact sm_get_p1 | exact sm_get_p2e | refine sm_get_p1m (by decide) (by decide) ?_ | refine sm_get_p1n (by decide) rfl ?_ | refine sm_get_p2n (by decide) (by decide) rfl ?_)) ?_
  refine Bod.icT dc_338_39 rfl (k2_gt_T e70 ly rfl rfl (by omega) (by omega)) ?_
  exact hB _ (by repeat (first | exact q0 | exact sm_get_p1 | exact sm_get_p2e | refine sm_get_p1m (by decide) (by decide) ?_ | refine sm_get_p1n (by decide) rfl ?_ | refine sm_get_p2n (by decide) (by decide) rfl ?_)) (by repeat (first | exact q1 | exact sm_get_p1 | exact sm_get_p2e | refine sm_get_p1m (by decide) (by decide) ?_ | refine sm_get_p1n (by decide) rfl ?_ | refine sm_get_p2n (by decide) (by decide) rfl ?_)) (by repeat (first | exact q2 | exact sm_get_p1 | exact sm_get_p2e | refine sm_get_p1m (by decide) (by decide) ?_ | refine sm_get_p1n (by decide) rfl ?_ | refine sm_get_p2n (by decide) (by decide) rfl ?_)) (by repeat (first | exact q3 | exact sm_get_p1 | exact sm_get_p2e | refine sm_get_p1m (by decide) (by decide) ?_ | refine sm_get_p1n (by decide) rfl ?_ | refine sm_get_p2n (by decide) (by decide) rfl ?_)) (by repeat (first | exact q4 | exact sm_get_p1 | exact sm_get_p2e | refine sm_get_p1m (by decide) (by decide) ?_ | refine sm_get_p1n (by decide) rfl ?_ | refine sm_get_p2n (by decide) (by decide) rfl ?_))
theorem zSa_4 {d : Nat} {S Sf : cS} {v : Option Value} {lv : sm_L} {la : Nat} {lw : Nat} {li : Nat} {ly : Nat} {e67 : Nat} {e70 : Nat} (q0 : sm_get lv 0 = some (.ref 61)) (q1 : sm_get lv 1 = some (.int (nI la))) (q2 : sm_get lv 2 = some (.int (nI lw))) (q3 : sm_get lv 3 = some (.int (nI li))) (q4 : sm_get lv 4 = some (.int (nI ly))) (mla : la < 2 ^ 20) (mlw : lw < 2 ^ 20) (mli : li < 2 ^ 20) (mly : ly < 2 ^ 20) (b1 : li < 6002) (he67 : sA S 67 li = nI e67) (me67 : e67 < 2 ^ 20) (b2 : e67 ≠ 7) (he70 : sA S 70 li = nI e70) (me70 : e70 < 2 ^ 20) (b3 : lw < e70) (b4 : e70 ≤ ly) (hB : ∀ lv1 : sm_L, sm_get lv1 0 = some (.ref 61) → sm_get lv1 1 = some (.int (nI la)) → sm_get lv1 2 = some (.int (nI lw)) → sm_get lv1 3 = some (.int (nI li)) → sm_get lv1 4 = some (.int (Int32.ofInt (-1))) → Bod (d + 8) 338 45 lv1 [] (S) v Sf) : Bod (d + 8) 338 5 lv [] S v Sf := by
  refine Bod.aldnG dc_338_5 (by repeat (first | exact q0 | exact sm_get_p1 | exact sm_get_p2e | refine sm_get_p1m (by decide) (by decide) ?_ | refine sm_get_p1n (by decide) rfl ?_ | refine sm_get_p2n (by decide) (by decide) rfl ?_)) ?_
  refine Bod.get dc_338_6 fr_338_129 (mk_61 _) rfl ?_
  refine Bod.ildnG dc_338_9 (by repeat (first | exact q3 | exact sm_get_p1 | exact sm_get_p2e | refine sm_get_p1m (by decide) (by decide) ?_ | refine sm_get_p1n (by decide) rfl ?_ | refine sm_get_p2n (by decide) (by decide) rfl ?_)) ?_
  refine Bod.ialdN li rfl (by omega) (by omega) dc_338_10 (mk_67 _) ?_
  refine Bod.eqI (nI e67) (by first | assumption | rfl | exact congrArg nI (by omega) | (simp (disch := omega) only [rI, rIe, rA, rIA, rLA, rJA, rVI, rQI, rVA, rQA, upd_at,  rAI, rLI, rJI, nI_add, pk_sub, kc_0, kc_1, kc_2, kc_3, kc_4, kc_5, reduceIte, Nat.reduceEqDiff, Nat.add_zero, rI_hold, rI_hold, rL_hold, he67]; done)) ?_
  refine Bod.bip 7 (by decide) dc_338_11 ?_
  refine Bod.icF dc_338_13 rfl (k2_eq_F (k_ne e67 7 rfl rfl (by omega) (by omega) (by omega))) ?_
  refine Bod.aldnG dc_338_16 (by repeat (first | exact q0 | exact sm_get_p1 | exact sm_get_p2e | refine sm_get_p1m (by decide) (by decide) ?_ | refine sm_get_p1n (by decide) rfl ?_ | refine sm_get_p2n (by decide) (by decide) rfl ?_)) ?_
  refine Bod.get dc_338_17 fr_338_141 (mk_61 _) rfl ?_
  refine Bod.ildnG dc_338_20 (by repeat (first | exact q3 | exact sm_get_p1 | exact sm_get_p2e | refine sm_get_p1m (by decide) (by decide) ?_ | refine sm_get_p1n (by decide) rfl ?_ | refine sm_get_p2n (by decide) (by decide) rfl ?_)) ?_
  refine Bod.ialdN li rfl (by omega) (by omega) dc_338_21 (mk_70 _) ?_
  refine Bod.eqI (nI e70) (by first | assumption | rfl | exact congrArg nI (by omega) | (simp (disch := omega) only [rI, rIe, rA, rIA, rLA, rJA, rVI, rQI, rVA, rQA, upd_at,  rAI, rLI, rJI, nI_add, pk_sub, kc_0, kc_1, kc_2, kc_3, kc_4, kc_5, reduceIte, Nat.reduceEqDiff, Nat.add_zero, rI_hold, rI_hold, rL_hold, he67, he70]; done)) ?_
  refine Bod.ildnG dc_338_22 (by repeat (first | exact q2 | exact sm_get_p1 | exact sm_get_p2e | refine sm_get_p1m (by decide) (by decide) ?_ | refine sm_get_p1n (by decide) rfl ?_ | refine sm_get_p2n (by decide) (by decide) rfl ?_)) ?_
  refine Bod.icF dc_338_23 rfl (k2_le_F e70 lw rfl rfl (by omega) (by omega)) ?_
  refine Bod.ildG dc_338_26 (by repeat (first | exact q4 | exact sm_get_p1 | exact sm_get_p2e | refine sm_get_p1m (by decide) (by decide) ?_ | refine sm_get_p1n (by decide) rfl ?_ | refine sm_get_p2n (by decide) (by decide) rfl ?_)) ?_
  refine Bod.ifF dc_338_28 rfl (k1_lt_F ly rfl (by omega)) ?_
  refine Bod.aldnG dc_338_31 (by repeat (first | exact q0 | exact sm_get_p1 | exact sm_get_p2e | refine sm_get_p1m (by decide) (by decide) ?_ | refine sm_get_p1n (by decide) rfl ?_ | refine sm_get_p2n (by decide) (by decide) rfl ?_)) ?_
  refine Bod.get dc_338_32 fr_338_141 (mk_61 _) rfl ?_
  refine Bod.ildnG dc_338_35 (by repeat (first | exact q3 | exact sm_get_p1 | exact sm_get_p2e | refine sm_get_p1m (by decide) (by decide) ?_ | refine sm_get_p1n (by decide) rfl ?_ | refine sm_get_p2n (by decide) (by decide) rfl ?_)) ?_
  refine Bod.ialdN li rfl (by omega) (by omega) dc_338_36 (mk_70 _) ?_
  refine Bod.eqI (nI e70) (by first | assumption | rfl | exact congrArg nI (by omega) | (simp (disch := omega) only [rI, rIe, rA, rIA, rLA, rJA, rVI, rQI, rVA, rQA, upd_at,  rAI, rLI, rJI, nI_add, pk_sub, kc_0, kc_1, kc_2, kc_3, kc_4, kc_5, reduceIte, Nat.reduceEqDiff, Nat.add_zero, rI_hold, rI_hold, rL_hold, he67, he70]; done)) ?_
  refine Bod.ildG dc_338_37 (by repeat (first | exact q4 | exact sm_get_p1 | exact sm_get_p2e | refine sm_get_p1m (by decide) (by decide) ?_ | refine sm_get_p1n (by decide) rfl ?_ | refine sm_get_p2n (by decide) (by decide) rfl ?_)) ?_
  refine Bod.icF dc_338_39 rfl (k2_gt_F e70 ly rfl rfl (by omega) (by omega)) ?_
  refine Bod.go dc_338_42 rfl ?_
  refine Bod.ist dc_338_43 (by rw [ml_338]; exact Nat.le_of_ble_eq_true rfl) ?_
  exact hB _ (by repeat (first | exact q0 | exact sm_get_p1 | exact sm_get_p2e | refine sm_get_p1m (by decide) (by decide) ?_ | refine sm_get_p1n (by decide) rfl ?_ | refine sm_get_p2n (by decide) (by decide) rfl ?_)) (by repeat (first | exact q1 | exact sm_get_p1 | exact sm_get_p2e | refine sm_get_p1m (by decide) (by decide) ?_ | refine sm_get_p1n (by decide) rfl ?_ | refine sm_get_p2n (by decide) (by decide) rfl ?_)) (by repeat (first | exact q2 | exact sm_get_p1 | exact sm_get_p2e | refine sm_get_p1m (by decide) (by decide) ?_ | refine sm_get_p1n (by decide) rfl ?_ | refine sm_get_p2n (by decide) (by decide) rfl ?_)) (by repeat (first | exact q3 | exact sm_get_p1 | exact sm_get_p2e | refine sm_get_p1m (by decide) (by decide) ?_ | refine sm_get_p1n (by decide) rfl ?_ | refine sm_get_p2n (by decide) (by decide) rfl ?_)) (by repeat (first | exact q0 | exact sm_get_p1 | exact sm_get_p2e | refine sm_get_p1m (by decide) (by decide) ?_ | refine sm_get_p1n (by decide) rfl ?_ | refine sm_get_p2n (by decide) (by decide) rfl ?_))
theorem zSb_1 {d : Nat} {S Sf : cS} {v : Option Value} {lv : sm_L} {la : Nat} {lw : Nat} {li : Nat} {e67 : Nat} (q0 : sm_get lv 0 = some (.ref 61)) (q1 : sm_get lv 1 = some (.int (nI la))) (q2 : sm_get lv 2 = some (.int (nI lw))) (q3 : sm_get lv 3 = some (.int (nI li))) (q4 : sm_get lv 4 = some (.int (Int32.ofInt (-1)))) (mla : la < 2 ^ 20) (mlw : lw < 2 ^ 20) (mli : li < 2 ^ 20) (b1 : li < 6002) (he67 : sA S 67 li = nI e67) (me67 : e67 < 2 ^ 20) (b2 : e67 = 7) (hB : ∀ lv1 : sm_L, sm_get lv1 0 = some (.ref 61) → sm_get lv1 1 = some (.int (nI la)) → sm_get lv1 2 = some (.int (nI lw)) → Bod (d + 8) 338 354 lv1 [] (S) v Sf) : Bod (d + 8) 338 5 lv [] S v Sf := by
  refine Bod.aldnG dc_338_5 (by repeat (first | exact q0 | exact sm_get_p1 | exact sm_get_p2e | refine sm_get_p1m (by decide) (by decide) ?_ | refine sm_get_p1n (by decide) rfl ?_ | refine sm_get_p2n (by decide) (by decide) rfl ?_)) ?_
  refine Bod.get dc_338_6 fr_338_129 (mk_61 _) rfl ?_
  refine Bod.ildnG dc_338_9 (by repeat (first | exact q3 | exact sm_get_p1 | exact sm_get_p2e | refine sm_get_p1m (by decide) (by decide) ?_ | refine sm_get_p1n (by decide) rfl ?_ | refine sm_get_p2n (by decide) (by decide) rfl ?_)) ?_
  refine Bod.ialdN li rfl (by omega) (by omega) dc_338_10 (mk_67 _) ?_
  refine Bod.eqI (nI e67) (by first | assumption | rfl | exact congrArg nI (by omega) | (simp (disch := omega) only [rI, rIe, rA, rIA, rLA, rJA, rVI, rQI, rVA, rQA, upd_at,  rAI, rLI, rJI, nI_add, pk_sub, kc_0, kc_1, kc_2, kc_3, kc_4, kc_5, reduceIte, Nat.reduceEqDiff, Nat.add_zero, rI_hold, rI_hold, rL_hold, he67]; done)) ?_
  refine Bod.bip 7 (by decide) dc_338_11 ?_
  refine Bod.icT dc_338_13 rfl (k2_eq_T (k_eq e67 7 rfl rfl (by omega))) ?_
  exact hB _ (by repeat (first | exact q0 | exact sm_get_p1 | exact sm_get_p2e | refine sm_get_p1m (by decide) (by decide) ?_ | refine sm_get_p1n (by decide) rfl ?_ | refine sm_get_p2n (by decide) (by decide) rfl ?_)) (by repeat (first | exact q1 | exact sm_get_p1 | exact sm_get_p2e | refine sm_get_p1m (by decide) (by decide) ?_ | refine sm_get_p1n (by decide) rfl ?_ | refine sm_get_p2n (by decide) (by decide) rfl ?_)) (by repeat (first | exact q2 | exact sm_get_p1 | exact sm_get_p2e | refine sm_get_p1m (by decide) (by decide) ?_ | refine sm_get_p1n (by decide) rfl ?_ | refine sm_get_p2n (by decide) (by decide) rfl ?_))
theorem zSb_2 {d : Nat} {S Sf : cS} {v : Option Value} {lv : sm_L} {la : Nat} {lw : Nat} {li : Nat} {e67 : Nat} {e70 : Nat} (q0 : sm_get lv 0 = some (.ref 61)) (q1 : sm_get lv 1 = some (.int (nI la))) (q2 : sm_get lv 2 = some (.int (nI lw))) (q3 : sm_get lv 3 = some (.int (nI li))) (q4 : sm_get lv 4 = some (.int (Int32.ofInt (-1)))) (mla : la < 2 ^ 20) (mlw : lw < 2 ^ 20) (mli : li < 2 ^ 20) (b1 : li < 6002) (he67 : sA S 67 li = nI e67) (me67 : e67 < 2 ^ 20) (b2 : e67 ≠ 7) (he70 : sA S 70 li = nI e70) (me70 : e70 < 2 ^ 20) (b3 : e70 ≤ lw) (hB : ∀ lv1 : sm_L, sm_get lv1 0 = some (.ref 61) → sm_get lv1 1 = some (.int (nI la)) → sm_get lv1 2 = some (.int (nI lw)) → Bod (d + 8) 338 354 lv1 [] (S) v Sf) : Bod (d + 8) 338 5 lv [] S v Sf := by
  refine Bod.aldnG dc_338_5 (by repeat (first | exact q0 | exact sm_get_p1 | exact sm_get_p2e | refine sm_get_p1m (by decide) (by decide) ?_ | refine sm_get_p1n (by decide) rfl ?_ | refine sm_get_p2n (by decide) (by decide) rfl ?_)) ?_
  refine Bod.get dc_338_6 fr_338_129 (mk_61 _) rfl ?_
  refine Bod.ildnG dc_338_9 (by repeat (first | exact q3 | exact sm_get_p1 | exact sm_get_p2e | refine sm_get_p1m (by decide) (by decide) ?_ | refine sm_get_p1n (by decide) rfl ?_ | refine sm_get_p2n (by decide) (by decide) rfl ?_)) ?_
  refine Bod.ialdN li rfl (by omega) (by omega) dc_338_10 (mk_67 _) ?_
  refine Bod.eqI (nI e67) (by first | assumption | rfl | exact congrArg nI (by omega) | (simp (disch := omega) only [rI, rIe, rA, rIA, rLA, rJA, rVI, rQI, rVA, rQA, upd_at,  rAI, rLI, rJI, nI_add, pk_sub, kc_0, kc_1, kc_2, kc_3, kc_4, kc_5, reduceIte, Nat.reduceEqDiff, Nat.add_zero, rI_hold, rI_hold, rL_hold, he67]; done)) ?_
  refine Bod.bip 7 (by decide) dc_338_11 ?_
  refine Bod.icF dc_338_13 rfl (k2_eq_F (k_ne e67 7 rfl rfl (by omega) (by omega) (by omega))) ?_
  refine Bod.aldnG dc_338_16 (by repeat (first | exact q0 | exact sm_get_p1 | exact sm_get_p2e | refine sm_get_p1m (by decide) (by decide) ?_ | refine sm_get_p1n (by decide) rfl ?_ | refine sm_get_p2n (by decide) (by decide) rfl ?_)) ?_
  refine Bod.get dc_338_17 fr_338_141 (mk_61 _) rfl ?_
  refine Bod.ildnG dc_338_20 (by repeat (first | exact q3 | exact sm_get_p1 | exact sm_get_p2e | refine sm_get_p1m (by decide) (by decide) ?_ | refine sm_get_p1n (by decide) rfl ?_ | refine sm_get_p2n (by decide) (by decide) rfl ?_)) ?_
  refine Bod.ialdN li rfl (by omega) (by omega) dc_338_21 (mk_70 _) ?_
  refine Bod.eqI (nI e70) (by first | assumption | rfl | exact congrArg nI (by omega) | (simp (disch := omega) only [rI, rIe, rA, rIA, rLA, rJA, rVI, rQI, rVA, rQA, upd_at,  rAI, rLI, rJI, nI_add, pk_sub, kc_0, kc_1, kc_2, kc_3, kc_4, kc_5, reduceIte, Nat.reduceEqDiff, Nat.add_zero, rI_hold, rI_hold, rL_hold, he67, he70]; done)) ?_
  refine Bod.ildnG dc_338_22 (by repeat (first | exact q2 | exact sm_get_p1 | exact sm_get_p2e | refine sm_get_p1m (by decide) (by decide) ?_ | refine sm_get_p1n (by decide) rfl ?_ | refine sm_get_p2n (by decide) (by decide) rfl ?_)) ?_
  refine Bod.icT dc_338_23 rfl (k2_le_T e70 lw rfl rfl (by omega) (by omega)) ?_
  exact hB _ (by repeat (first | exact q0 | exact sm_get_p1 | exact sm_get_p2e | refine sm_get_p1m (by decide) (by decide) ?_ | refine sm_get_p1n (by decide) rfl ?_ | refine sm_get_p2n (by decide) (by decide) rfl ?_)) (by repeat (first | exact q1 | exact sm_get_p1 | exact sm_get_p2e | refine sm_get_p1m (by decide) (by decide) ?_ | refine sm_get_p1n (by decide) rfl ?_ | refine sm_get_p2n (by decide) (by decide) rfl ?_)) (by repeat (first | exact q2 | exact sm_get_p1 | exact sm_get_p2e | refine sm_get_p1m (by decide) (by decide) ?_ | refine sm_get_p1n (by decide) rfl ?_ | refine sm_get_p2n (by decide) (by decide) rfl ?_))
theorem zSb_3 {d : Nat} {S Sf : cS} {v : Option Value} {lv : sm_L} {la : Nat} {lw : Nat} {li : Nat} {e67 : Nat} {e70 : Nat} (q0 : sm_get lv 0 = some (.ref 61)) (q1 : sm_get lv 1 = some (.int (nI la))) (q2 : sm_get lv 2 = some (.int (nI lw))) (q3 : sm_get lv 3 = some (.int (nI li))) (q4 : sm_get lv 4 = some (.int (Int32.ofInt (-1)))) (mla : la < 2 ^ 20) (mlw : lw < 2 ^ 20) (mli : li < 2 ^ 20) (b1 : li < 6002) (he67 : sA S 67 li = nI e67) (me67 : e67 < 2 ^ 20) (b2 : e67 ≠ 7) (he70 : sA S 70 li = nI e70) (me70 : e70 < 2 ^ 20) (b3 : lw < e70) (hB : ∀ lv1 : sm_L, sm_get lv1 0 = some (.ref 61) → sm_get lv1 1 = some (.int (nI la)) → sm_get lv1 2 = some (.int (nI lw)) → sm_get lv1 3 = some (.int (nI li)) → sm_get lv1 4 = some (.int (Int32.ofInt (-1))) → Bod (d + 8) 338 45 lv1 [] (S) v Sf) : Bod (d + 8) 338 5 lv [] S v Sf := by
  refine Bod.aldnG dc_338_5 (by repeat (first | exact q0 | exact sm_get_p1 | exact sm_get_p2e | refine sm_get_p1m (by decide) (by decide) ?_ | refine sm_get_p1n (by decide) rfl ?_ | refine sm_get_p2n (by decide) (by decide) rfl ?_)) ?_
  refine Bod.get dc_338_6 fr_338_129 (mk_61 _) rfl ?_
  refine Bod.ildnG dc_338_9 (by repeat (first | exact q3 | exact sm_get_p1 | exact sm_get_p2e | refine sm_get_p1m (by decide) (by decide) ?_ | refine sm_get_p1n (by decide) rfl ?_ | refine sm_get_p2n (by decide) (by decide) rfl ?_)) ?_
  refine Bod.ialdN li rfl (by omega) (by omega) dc_338_10 (mk_67 _) ?_
  refine Bod.eqI (nI e67) (by first | assumption | rfl | exact congrArg nI (by omega) | (simp (disch := omega) only [rI, rIe, rA, rIA, rLA, rJA, rVI, rQI, rVA, rQA, upd_at,  rAI, rLI, rJI, nI_add, pk_sub, kc_0, kc_1, kc_2, kc_3, kc_4, kc_5, reduceIte, Nat.reduceEqDiff, Nat.add_zero, rI_hold, rI_hold, rL_hold, he67]; done)) ?_
  refine Bod.bip 7 (by decide) dc_338_11 ?_
  refine Bod.icF dc_338_13 rfl (k2_eq_F (k_ne e67 7 rfl rfl (by omega) (by omega) (by omega))) ?_
  refine Bod.aldnG dc_338_16 (by repeat (first | exact q0 | exact sm_get_p1 | exact sm_get_p2e | refine sm_get_p1m (by decide) (by decide) ?_ | refine sm_get_p1n (by decide) rfl ?_ | refine sm_get_p2n (by decide) (by decide) rfl ?_)) ?_
  refine Bod.get dc_338_17 fr_338_141 (mk_61 _) rfl ?_
  refine Bod.ildnG dc_338_20 (by repeat (first | exact q3 | exact sm_get_p1 | exact sm_get_p2e | refine sm_get_p1m (by decide) (by decide) ?_ | refine sm_get_p1n (by decide) rfl ?_ | refine sm_get_p2n (by decide) (by decide) rfl ?_)) ?_
  refine Bod.ialdN li rfl (by omega) (by omega) dc_338_21 (mk_70 _) ?_
  refine Bod.eqI (nI e70) (by first | assumption | rfl | exact congrArg nI (by omega) | (simp (disch := omega) only [rI, rIe, rA, rIA, rLA, rJA, rVI, rQI, rVA, rQA, upd_at,  rAI, rLI, rJI, nI_add, pk_sub, kc_0, kc_1, kc_2, kc_3, kc_4, kc_5, reduceIte, Nat.reduceEqDiff, Nat.add_zero, rI_hold, rI_hold, rL_hold, he67, he70]; done)) ?_
  refine Bod.ildnG dc_338_22 (by repeat (first | exact q2 | exact sm_get_p1 | exact sm_get_p2e | refine sm_get_p1m (by decide) (by decide) ?_ | refine sm_get_p1n (by decide) rfl ?_ | refine sm_get_p2n (by decide) (by decide) rfl ?_)) ?_
  refine Bod.icF dc_338_23 rfl (k2_le_F e70 lw rfl rfl (by omega) (by omega)) ?_
  refine Bod.ildG dc_338_26 (by repeat (first | exact q4 | exact sm_get_p1 | exact sm_get_p2e | refine sm_get_p1m (by decide) (by decide) ?_ | refine sm_get_p1n (by decide) rfl ?_ | refine sm_get_p2n (by decide) (by decide) rfl ?_)) ?_
  refine Bod.ifT dc_338_28 rfl (by decide) ?_
  exact hB _ (by repeat (first | exact q0 | exact sm_get_p1 | exact sm_get_p2e | refine sm_get_p1m (by decide) (by decide) ?_ | refine sm_get_p1n (by decide) rfl ?_ | refine sm_get_p2n (by decide) (by decide) rfl ?_)) (by repeat (first | exact q1 | exact sm_get_p1 | exact sm_get_p2e | refine sm_get_p1m (by decide) (by decide) ?_ | refine sm_get_p1n (by decide) rfl ?_ | refine sm_get_p2n (by decide) (by decide) rfl ?_)) (by repeat (first | exact q2 | exact sm_get_p1 | exact sm_get_p2e | refine sm_get_p1m (by decide) (by decide) ?_ | refine sm_get_p1n (by decide) rfl ?_ | refine sm_get_p2n (by decide) (by decide) rfl ?_)) (by repeat (first | exact q3 | exact sm_get_p1 | exact sm_get_p2e | refine sm_get_p1m (by decide) (by decide) ?_ | refine sm_get_p1n (by decide) rfl ?_ | refine sm_get_p2n (by decide) (by decide) rfl ?_)) (by repeat (first | exact q4 | exact sm_get_p1 | exact sm_get_p2e | refine sm_get_p1m (by decide) (by decide) ?_ | refine sm_get_p1n (by decide) rfl ?_ | refine sm_get_p2n (by decide) (by decide) rfl ?_))
theorem zSu_1 {d : Nat} {S Sf : cS} {v : Option Value} {lv : sm_L} {la : Nat} {lw : Nat} {li : Nat} {ly : Nat} (q0 : sm_get lv 0 = some (.ref 61)) (q1 : sm_get lv 1 = some (.int (nI la))) (q2 : sm_get lv 2 = some (.int (nI lw))) (q3 : sm_get lv 3 = some (.int (nI li))) (q4 : sm_get lv 4 = some (.int (nI ly))) (mla : la < 2 ^ 20) (mlw : lw < 2 ^ 20) (mli : li < 2 ^ 20) (mly : ly < 2 ^ 20) (hB : ∀ lv1 : sm_L, sm_get lv1 0 = some (.ref 61) → sm_get lv1 1 = some (.int (nI la)) → sm_get lv1 2 = some (.int (nI lw)) → sm_get lv1 3 = some (.int (nI li)) → sm_get lv1 4 = some (.int (nI ly)) → Bod (d + 8) 338 331 lv1 [] (S) v Sf) : Bod (d + 8) 338 45 lv [] S v Sf := by
  refine Bod.ildG dc_338_45 (by repeat (first | exact q4 | exact sm_get_p1 | exact sm_get_p2e | refine sm_get_p1m (by decide) (by decide) ?_ | refine sm_get_p1n (by decide) rfl ?_ | refine sm_get_p2n (by decide) (by decide) rfl ?_)) ?_
  refine Bod.ifT dc_338_47 rfl (k1_ge_T ly rfl (by omega)) ?_
  exact hB _ (by repeat (first | exact q0 | exact sm_get_p1 | exact sm_get_p2e | refine sm_get_p1m (by decide) (by decide) ?_ | refine sm_get_p1n (by decide) rfl ?_ | refine sm_get_p2n (by decide) (by decide) rfl ?_)) (by repeat (first | exact q1 | exact sm_get_p1 | exact sm_get_p2e | refine sm_get_p1m (by decide) (by decide) ?_ | refine sm_get_p1n (by decide) rfl ?_ | refine sm_get_p2n (by decide) (by decide) rfl ?_)) (by repeat (first | exact q2 | exact sm_get_p1 | exact sm_get_p2e | refine sm_get_p1m (by decide) (by decide) ?_ | refine sm_get_p1n (by decide) rfl ?_ | refine sm_get_p2n (by decide) (by decide) rfl ?_)) (by repeat (first | exact q3 | exact sm_get_p1 | exact sm_get_p2e | refine sm_get_p1m (by decide) (by decide) ?_ | refine sm_get_p1n (by decide) rfl ?_ | refine sm_get_p2n (by decide) (by decide) rfl ?_)) (by repeat (first | exact q4 | exact sm_get_p1 | exact sm_get_p2e | refine sm_get_p1m (by decide) (by decide) ?_ | refine sm_get_p1n (by decide) rfl ?_ | refine sm_get_p2n (by decide) (by decide) rfl ?_))
theorem zSv_1 {d : Nat} {S Sf : cS} {v : Option Value} {lv : sm_L} {la : Nat} {lw : Nat} {li : Nat} {e67 : Nat} (q0 : sm_get lv 0 = some (.ref 61)) (q1 : sm_get lv 1 = some (.int (nI la))) (q2 : sm_get lv 2 = some (.int (nI lw))) (q3 : sm_get lv 3 = some (.int (nI li))) (q4 : sm_get lv 4 = some (.int (Int32.ofInt (-1)))) (mla : la < 2 ^ 20) (mlw : lw < 2 ^ 20) (mli : li < 2 ^ 20) (b1 : li + 1 < 6002) (he67 : sA S 67 (li + 1) = nI e67) (me67 : e67 < 2 ^ 20) (b2 : e67 ≠ 1) (hB : ∀ lv1 : sm_L, sm_get lv1 0 = some (.ref 61) → sm_get lv1 1 = some (.int (nI la)) → sm_get lv1 2 = some (.int (nI lw)) → sm_get lv1 3 = some (.int (nI li)) → sm_get lv1 4 = some (.int (Int32.ofInt (-1))) → sm_get lv1 5 = some (.int (nI 0)) → Bod (d + 8) 338 69 lv1 [] (S) v Sf) : Bod (d + 8) 338 45 lv [] S v Sf := by
  refine Bod.ildG dc_338_45 (by repeat (first | exact q4 | exact sm_get_p1 | exact sm_get_p2e | refine sm_get_p1m (by decide) (by decide) ?_ | refine sm_get_p1n (by decide) rfl ?_ | refine sm_get_p2n (by decide) (by decide) rfl ?_)) ?_
  refine Bod.ifF dc_338_47 rfl (by decide) ?_
  refine Bod.aldnG dc_338_50 (by repeat (first | exact q0 | exact sm_get_p1 | exact sm_get_p2e | refine sm_get_p1m (by decide) (by decide) ?_ | refine sm_get_p1n (by decide) rfl ?_ | refine sm_get_p2n (by decide) (by decide) rfl ?_)) ?_
  refine Bod.get dc_338_51 fr_338_129 (mk_61 _) rfl ?_
  refine Bod.ildnG dc_338_54 (by repeat (first | exact q3 | exact sm_get_p1 | exact sm_get_p2e | refine sm_get_p1m (by decide) (by decide) ?_ | refine sm_get_p1n (by decide) rfl ?_ | refine sm_get_p2n (by decide) (by decide) rfl ?_)) ?_
  refine Bod.ic 1 (by decide) dc_338_55 ?_
  refine Bod.addN (li + 1) (by omega) dc_338_56 ?_
  refine Bod.ialdN (li + 1) rfl (by omega) (by omega) dc_338_57 (mk_67 _) ?_
  refine Bod.eqI (nI e67) (by first | assumption | rfl | exact congrArg nI (by omega) | (simp (disch := omega) only [rI, rIe, rA, rIA, rLA, rJA, rVI, rQI, rVA, rQA, upd_at,  rAI, rLI, rJI, nI_add, pk_sub, kc_0, kc_1, kc_2, kc_3, kc_4, kc_5, reduceIte, Nat.reduceEqDiff, Nat.add_zero, rI_hold, rI_hold, rL_hold, he67]; done)) ?_
  refine Bod.ic 1 (by decide) dc_338_58 ?_
  refine Bod.icT dc_338_59 rfl (k2_ne_T (k_ne e67 1 rfl rfl (by omega) (by omega) (by omega))) ?_
  refine Bod.ic 0 (by decide) dc_338_66 ?_
  refine Bod.ist dc_338_67 (by rw [ml_338]; exact Nat.le_of_ble_eq_true rfl) ?_
  exact hB _ (by repeat (first | exact q0 | exact sm_get_p1 | exact sm_get_p2e | refine sm_get_p1m (by decide) (by decide) ?_ | refine sm_get_p1n (by decide) rfl ?_ | refine sm_get_p2n (by decide) (by decide) rfl ?_)) (by repeat (first | exact q1 | exact sm_get_p1 | exact sm_get_p2e | refine sm_get_p1m (by decide) (by decide) ?_ | refine sm_get_p1n (by decide) rfl ?_ | refine sm_get_p2n (by decide) (by decide) rfl ?_)) (by repeat (first | exact q2 | exact sm_get_p1 | exact sm_get_p2e | refine sm_get_p1m (by decide) (by decide) ?_ | refine sm_get_p1n (by decide) rfl ?_ | refine sm_get_p2n (by decide) (by decide) rfl ?_)) (by repeat (first | exact q3 | exact sm_get_p1 | exact sm_get_p2e | refine sm_get_p1m (by decide) (by decide) ?_ | refine sm_get_p1n (by decide) rfl ?_ | refine sm_get_p2n (by decide) (by decide) rfl ?_)) (by repeat (first | exact q4 | exact sm_get_p1 | exact sm_get_p2e | refine sm_get_p1m (by decide) (by decide) ?_ | refine sm_get_p1n (by decide) rfl ?_ | refine sm_get_p2n (by decide) (by decide) rfl ?_)) (by repeat (first | exact q0 | exact sm_get_p1 | exact sm_get_p2e | refine sm_get_p1m (by decide) (by decide) ?_ | refine sm_get_p1n (by decide) rfl ?_ | refine sm_get_p2n (by decide) (by decide) rfl ?_))
theorem zSv_2 {d : Nat} {S Sf : cS} {v : Option Value} {lv : sm_L} {la : Nat} {lw : Nat} {li : Nat} {e67 : Nat} (q0 : sm_get lv 0 = some (.ref 61)) (q1 : sm_get lv 1 = some (.int (nI la))) (q2 : sm_get lv 2 = some (.int (nI lw))) (q3 : sm_get lv 3 = some (.int (nI li))) (q4 : sm_get lv 4 = some (.int (Int32.ofInt (-1)))) (mla : la < 2 ^ 20) (mlw : lw < 2 ^ 20) (mli : li < 2 ^ 20) (b1 : li + 1 < 6002) (he67 : sA S 67 (li + 1) = nI e67) (me67 : e67 < 2 ^ 20) (b2 : e67 = 1) (hB : ∀ lv1 : sm_L, sm_get lv1 0 = some (.ref 61) → sm_get lv1 1 = some (.int (nI la)) → sm_get lv1 2 = some (.int (nI lw)) → sm_get lv1 3 = some (.int (nI li)) → sm_get lv1 4 = some (.int (Int32.ofInt (-1))) → sm_get lv1 5 = some (.int (nI 1)) → Bod (d + 8) 338 69 lv1 [] (S) v Sf) : Bod (d + 8) 338 45 lv [] S v Sf := by
  refine Bod.ildG dc_338_45 (by repeat (first | exact q4 | exact sm_get_p1 | exact sm_get_p2e | refine sm_get_p1m (by decide) (by decide) ?_ | refine sm_get_p1n (by decide) rfl ?_ | refine sm_get_p2n (by decide) (by decide) rfl ?_)) ?_
  refine Bod.ifF dc_338_47 rfl (by decide) ?_
  refine Bod.aldnG dc_338_50 (by repeat (first | exact q0 | exact sm_get_p1 | exact sm_get_p2e | refine sm_get_p1m (by decide) (by decide) ?_ | refine sm_get_p1n (by decide) rfl ?_ | refine sm_get_p2n (by decide) (by decide) rfl ?_)) ?_
  refine Bod.get dc_338_51 fr_338_129 (mk_61 _) rfl ?_
  refine Bod.ildnG dc_338_54 (by repeat (first | exact q3 | exact sm_get_p1 | exact sm_get_p2e | refine sm_get_p1m (by decide) (by decide) ?_ | refine sm_get_p1n (by decide) rfl ?_ | refine sm_get_p2n (by decide) (by decide) rfl ?_)) ?_
  refine Bod.ic 1 (by decide) dc_338_55 ?_
  refine Bod.addN (li + 1) (by omega) dc_338_56 ?_
  refine Bod.ialdN (li + 1) rfl (by omega) (by omega) dc_338_57 (mk_67 _) ?_
  refine Bod.eqI (nI e67) (by first | assumption | rfl | exact congrArg nI (by omega) | (simp (disch := omega) only [rI, rIe, rA, rIA, rLA, rJA, rVI, rQI, rVA, rQA, upd_at,  rAI, rLI, rJI, nI_add, pk_sub, kc_0, kc_1, kc_2, kc_3, kc_4, kc_5, reduceIte, Nat.reduceEqDiff, Nat.add_zero, rI_hold, rI_hold, rL_hold, he67]; done)) ?_
  refine Bod.ic 1 (by decide) dc_338_58 ?_
  refine Bod.icF dc_338_59 rfl (k2_ne_F (k_eq e67 1 rfl rfl (by omega))) ?_
  refine Bod.ic 1 (by decide) dc_338_62 ?_
  refine Bod.go dc_338_63 rfl ?_
  refine Bod.ist dc_338_67 (by rw [ml_338]; exact Nat.le_of_ble_eq_true rfl) ?_
  exact hB _ (by repeat (first | exact q0 | exact sm_get_p1 | exact sm_get_p2e | refine sm_get_p1m (by decide) (by decide) ?_ | refine sm_get_p1n (by decide) rfl ?_ | refine sm_get_p2n (by decide) (by decide) rfl ?_)) (by repeat (first | exact q1 | exact sm_get_p1 | exact sm_get_p2e | refine sm_get_p1m (by decide) (by decide) ?_ | refine sm_get_p1n (by decide) rfl ?_ | refine sm_get_p2n (by decide) (by decide) rfl ?_)) (by repeat (first | exact q2 | exact sm_get_p1 | exact sm_get_p2e | refine sm_get_p1m (by decide) (by decide) ?_ | refine sm_get_p1n (by decide) rfl ?_ | refine sm_get_p2n (by decide) (by decide) rfl ?_)) (by repeat (first | exact q3 | exact sm_get_p1 | exact sm_get_p2e | refine sm_get_p1m (by decide) (by decide) ?_ | refine sm_get_p1n (by decide) rfl ?_ | refine sm_get_p2n (by decide) (by decide) rfl ?_)) (by repeat (first | exact q4 | exact sm_get_p1 | exact sm_get_p2e | refine sm_get_p1m (by decide) (by decide) ?_ | refine sm_get_p1n (by decide) rfl ?_ | refine sm_get_p2n (by decide) (by decide) rfl ?_)) (by repeat (first | exact q0 | exact sm_get_p1 | exact sm_get_p2e | refine sm_get_p1m (by decide) (by decide) ?_ | refine sm_get_p1n (by decide) rfl ?_ | refine sm_get_p2n (by decide) (by decide) rfl ?_))
theorem zSw_1 {d : Nat} {S Sf : cS} {v : Option Value} {lv : sm_L} {la : Nat} {lw : Nat} {li : Nat} {lq : Nat} {e67 : Nat} (q0 : sm_get lv 0 = some (.ref 61)) (q1 : sm_get lv 1 = some (.int (nI la))) (q2 : sm_get lv 2 = some (.int (nI lw))) (q3 : sm_get lv 3 = some (.int (nI li))) (q4 : sm_get lv 4 = some (.int (Int32.ofInt (-1)))) (q5 : sm_get lv 5 = some (.int (nI lq))) (mla : la < 2 ^ 20) (mlw : lw < 2 ^ 20) (mli : li < 2 ^ 20) (mlq : lq < 2 ^ 20) (b1 : li < 6002) (he67 : sA S 67 li = nI e67) (me67 : e67 < 2 ^ 20) (b2 : e67 ≠ 2) (hB : ∀ lv1 : sm_L, sm_get lv1 0 = some (.ref 61) → sm_get lv1 1 = some (.int (nI la)) → sm_get lv1 2 = some (.int (nI lw)) → sm_get lv1 3 = some (.int (nI li)) → sm_get lv1 4 = some (.int (Int32.ofInt (-1))) → Bod (d + 8) 338 204 lv1 [] (S) v Sf) : Bod (d + 8) 338 69 lv [] S v Sf := by
  refine Bod.aldnG dc_338_69 (by repeat (first | exact q0 | exact sm_get_p1 | exact sm_get_p2e | refine sm_get_p1m (by decide) (by decide) ?_ | refine sm_get_p1n (by decide) rfl ?_ | refine sm_get_p2n (by decide) (by decide) rfl ?_)) ?_
  refine Bod.get dc_338_70 fr_338_129 (mk_61 _) rfl ?_
  refine Bod.ildnG dc_338_73 (by repeat (first | exact q3 | exact sm_get_p1 | exact sm_get_p2e | refine sm_get_p1m (by decide) (by decide) ?_ | refine sm_get_p1n (by decide) rfl ?_ | refine sm_get_p2n (by decide) (by decide) rfl ?_)) ?_
  refine Bod.ialdN li rfl (by omega) (by omega) dc_338_74 (mk_67 _) ?_
  refine Bod.eqI (nI e67) (by first | assumption | rfl | exact congrArg nI (by omega) | (simp (disch := omega) only [rI, rIe, rA, rIA, rLA, rJA, rVI, rQI, rVA, rQA, upd_at,  rAI, rLI, rJI, nI_add, pk_sub, kc_0, kc_1, kc_2, kc_3, kc_4, kc_5, reduceIte, Nat.reduceEqDiff, Nat.add_zero, rI_hold, rI_hold, rL_hold, he67]; done)) ?_
  refine Bod.ic 2 (by decide) dc_338_75 ?_
  refine Bod.icT dc_338_76 rfl (k2_ne_T (k_ne e67 2 rfl rfl (by omega) (by omega) (by omega))) ?_
  refine Bod.aldnG dc_338_129 (by repeat (first | exact q0 | exact sm_get_p1 | exact sm_get_p2e | refine sm_get_p1m (by decide) (by decide) ?_ | refine sm_get_p1n (by decide) rfl ?_ | refine sm_get_p2n (by decide) (by decide) rfl ?_)) ?_
  refine Bod.get dc_338_130 fr_338_129 (mk_61 _) rfl ?_
  refine Bod.ildnG dc_338_133 (by repeat (first | exact q3 | exact sm_get_p1 | exact sm_get_p2e | refine sm_get_p1m (by decide) (by decide) ?_ | refine sm_get_p1n (by decide) rfl ?_ | refine sm_get_p2n (by decide) (by decide) rfl ?_)) ?_
  refine Bod.ialdN li rfl (by omega) (by omega) dc_338_134 (mk_67 _) ?_
  refine Bod.eqI (nI e67) (by first | assumption | rfl | exact congrArg nI (by omega) | (simp (disch := omega) only [rI, rIe, rA, rIA, rLA, rJA, rVI, rQI, rVA, rQA, upd_at,  rAI, rLI, rJI, nI_add, pk_sub, kc_0, kc_1, kc_2, kc_3, kc_4, kc_5, reduceIte, Nat.reduceEqDiff, Nat.add_zero, rI_hold, rI_hold, rL_hold, he67]; done)) ?_
  refine Bod.ic 2 (by decide) dc_338_135 ?_
  refine Bod.icT dc_338_136 rfl (k2_ne_T (k_ne e67 2 rfl rfl (by omega) (by omega) (by omega))) ?_
  exact hB _ (by repeat (first | exact q0 | exact sm_get_p1 | exact sm_get_p2e | refine sm_get_p1m (by decide) (by decide) ?_ | refine sm_get_p1n (by decide) rfl ?_ | refine sm_get_p2n (by decide) (by decide) rfl ?_)) (by repeat (first | exact q1 | exact sm_get_p1 | exact sm_get_p2e | refine sm_get_p1m (by decide) (by decide) ?_ | refine sm_get_p1n (by decide) rfl ?_ | refine sm_get_p2n (by decide) (by decide) rfl ?_)) (by repeat (first | exact q2 | exact sm_get_p1 | exact sm_get_p2e | refine sm_get_p1m (by decide) (by decide) ?_ | refine sm_get_p1n (by decide) rfl ?_ | refine sm_get_p2n (by decide) (by decide) rfl ?_)) (by repeat (first | exact q3 | exact sm_get_p1 | exact sm_get_p2e | refine sm_get_p1m (by decide) (by decide) ?_ | refine sm_get_p1n (by decide) rfl ?_ | refine sm_get_p2n (by decide) (by decide) rfl ?_)) (by repeat (first | exact q4 | exact sm_get_p1 | exact sm_get_p2e | refine sm_get_p1m (by decide) (by decide) ?_ | refine sm_get_p1n (by decide) rfl ?_ | refine sm_get_p2n (by decide) (by decide) rfl ?_))
theorem zSw_2 {d : Nat} {S Sf : cS} {v : Option Value} {lv : sm_L} {la : Nat} {lw : Nat} {li : Nat} {lq : Nat} {e67 : Nat} {e68 : Nat} {e70 : Nat} (q0 : sm_get lv 0 = some (.ref 61)) (q1 : sm_get lv 1 = some (.int (nI la))) (q2 : sm_get lv 2 = some (.int (nI lw))) (q3 : sm_get lv 3 = some (.int (nI li))) (q4 : sm_get lv 4 = some (.int (Int32.ofInt (-1)))) (q5 : sm_get lv 5 = some (.int (nI lq))) (mla : la < 2 ^ 20) (mlw : lw < 2 ^ 20) (mli : li < 2 ^ 20) (mlq : lq < 2 ^ 20) (b1 : li < 6002) (he67 : sA S 67 li = nI e67) (me67 : e67 < 2 ^ 20) (b2 : e67 = 2) (he68 : sA S 68 li = nI e68) (me68 : e68 < 2 ^ 20) (b3 : e68 = 6) (b4 : lq = 0) (he70 : sA S 70 li = nI e70) (me70 : e70 < 2 ^ 20) (hB : ∀ lv1 : sm_L, sm_get lv1 0 = some (.ref 61) → sm_get lv1 1 = some (.int (nI la)) → sm_get lv1 2 = some (.int (nI lw)) → sm_get lv1 3 = some (.int (nI li)) → sm_get lv1 4 = some (.int (nI e70)) → Bod (d + 8) 338 331 lv1 [] (S) v Sf) : Bod (d + 8) 338 69 lv [] S v Sf := by
  refine Bod.aldnG dc_338_69 (by repeat (first | exact q0 | exact sm_get_p1 | exact sm_get_p2e | refine sm_get_p1m (by decide) (by decide) ?_ | refine sm_get_p1n (by decide) rfl ?_ | refine sm_get_p2n (by decide) (by decide) rfl ?_)) ?_
  refine Bod.get dc_338_70 fr_338_129 (mk_61 _) rfl ?_
  refine Bod.ildnG dc_338_73 (by repeat (first | exact q3 | exact sm_get_p1 | exact sm_get_p2e | refine sm_get_p1m (by decide) (by decide) ?_ | refine sm_get_p1n (by decide) rfl ?_ | refine sm_get_p2n (by decide) (by decide) rfl ?_)) ?_
  refine Bod.ialdN li rfl (by omega) (by omega) dc_338_74 (mk_67 _) ?_
  refine Bod.eqI (nI e67) (by first | assumption | rfl | exact congrArg nI (by omega) | (simp (disch := omega) only [rI, rIe, rA, rIA, rLA, rJA, rVI, rQI, rVA, rQA, upd_at,  rAI, rLI, rJI, nI_add, pk_sub, kc_0, kc_1, kc_2, kc_3, kc_4, kc_5, reduceIte, Nat.reduceEqDiff, Nat.add_zero, rI_hold, rI_hold, rL_hold, he67]; done)) ?_
  refine Bod.ic 2 (by decide) dc_338_75 ?_
  refine Bod.icF dc_338_76 rfl (k2_ne_F (k_eq e67 2 rfl rfl (by omega))) ?_
  refine Bod.aldnG dc_338_79 (by repeat (first | exact q0 | exact sm_get_p1 | exact sm_get_p2e | refine sm_get_p1m (by decide) (by decide) ?_ | refine sm_get_p1n (by decide) rfl ?_ | refine sm_get_p2n (by decide) (by decide) rfl ?_)) ?_
  refine Bod.get dc_338_80 fr_338_135 (mk_61 _) rfl ?_
  refine Bod.ildnG dc_338_83 (by repeat (first | exact q3 | exact sm_get_p1 | exact sm_get_p2e | refine sm_get_p1m (by decide) (by decide) ?_ | refine sm_get_p1n (by decide) rfl ?_ | refine sm_get_p2n (by decide) (by decide) rfl ?_)) ?_
  refine Bod.ialdN li rfl (by omega) (by omega) dc_338_84 (mk_68 _) ?_
  refine Bod.eqI (nI e68) (by first | assumption | rfl | exact congrArg nI (by omega) | (simp (disch := omega) only [rI, rIe, rA, rIA, rLA, rJA, rVI, rQI, rVA, rQA, upd_at,  rAI, rLI, rJI, nI_add, pk_sub, kc_0, kc_1, kc_2, kc_3, kc_4, kc_5, reduceIte, Nat.reduceEqDiff, Nat.add_zero, rI_hold, rI_hold, rL_hold, he67, he68]; done)) ?_
  refine Bod.bip 6 (by decide) dc_338_85 ?_
  refine Bod.icT dc_338_87 rfl (k2_eq_T (k_eq e68 6 rfl rfl (by omega))) ?_
  refine Bod.ildG dc_338_101 (by repeat (first | exact q5 | exact sm_get_p1 | exact sm_get_p2e | refine sm_get_p1m (by decide) (by decide) ?_ | refine sm_get_p1n (by decide) rfl ?_ | refine sm_get_p2n (by decide) (by decide) rfl ?_)) ?_
  refine Bod.ifT dc_338_103 rfl (k1_eq_T (k_eq lq 0 rfl rfl (by omega))) ?_
  refine Bod.aldnG dc_338_118 (by repeat (first | exact q0 | exact sm_get_p1 | exact sm_get_p2e | refine sm_get_p1m (by decide) (by decide) ?_ | refine sm_get_p1n (by decide) rfl ?_ | refine sm_get_p2n (by decide) (by decide) rfl ?_)) ?_
  refine Bod.get dc_338_119 fr_338_141 (mk_61 _) rfl ?_
  refine Bod.ildnG dc_338_122 (by repeat (first | exact q3 | exact sm_get_p1 | exact sm_get_p2e | refine sm_get_p1m (by decide) (by decide) ?_ | refine sm_get_p1n (by decide) rfl ?_ | refine sm_get_p2n (by decide) (by decide) rfl ?_)) ?_
  refine Bod.ialdN li rfl (by omega) (by omega) dc_338_123 (mk_70 _) ?_
  refine Bod.eqI (nI e70) (by first | assumption | rfl | exact congrArg nI (by omega) | (simp (disch := omega) only [rI, rIe, rA, rIA, rLA, rJA, rVI, rQI, rVA, rQA, upd_at,  rAI, rLI, rJI, nI_add, pk_sub, kc_0, kc_1, kc_2, kc_3, kc_4, kc_5, reduceIte, Nat.reduceEqDiff, Nat.add_zero, rI_hold, rI_hold, rL_hold, he67, he68, he70]; done)) ?_
  refine Bod.ist dc_338_124 (by rw [ml_338]; exact Nat.le_of_ble_eq_true rfl) ?_
  refine Bod.go dc_338_126 rfl ?_
  exact hB _ (by repeat (first | exact q0 | exact sm_get_p1 | exact sm_get_p2e | refine sm_get_p1m (by decide) (by decide) ?_ | refine sm_get_p1n (by decide) rfl ?_ | refine sm_get_p2n (by decide) (by decide) rfl ?_)) (by repeat (first | exact q1 | exact sm_get_p1 | exact sm_get_p2e | refine sm_get_p1m (by decide) (by decide) ?_ | refine sm_get_p1n (by decide) rfl ?_ | refine sm_get_p2n (by decide) (by decide) rfl ?_)) (by repeat (first | exact q2 | exact sm_get_p1 | exact sm_get_p2e | refine sm_get_p1m (by decide) (by decide) ?_ | refine sm_get_p1n (by decide) rfl ?_ | refine sm_get_p2n (by decide) (by decide) rfl ?_)) (by repeat (first | exact q3 | exact sm_get_p1 | exact sm_get_p2e | refine sm_get_p1m (by decide) (by decide) ?_ | refine sm_get_p1n (by decide) rfl ?_ | refine sm_get_p2n (by decide) (by decide) rfl ?_)) (by repeat (first | exact q0 | exact sm_get_p1 | exact sm_get_p2e | refine sm_get_p1m (by decide) (by decide) ?_ | refine sm_get_p1n (by decide) rfl ?_ | refine sm_get_p2n (by decide) (by decide) rfl ?_))
theorem zSw_3 {d : Nat} {S Sf : cS} {v : Option Value} {lv : sm_L} {la : Nat} {lw : Nat} {li : Nat} {lq : Nat} {e67 : Nat} {e68 : Nat} {e681 : Nat} {S1 : cS} {e70 : Nat} (q0 : sm_get lv 0 = some (.ref 61)) (q1 : sm_get lv 1 = some (.int (nI la))) (q2 : sm_get lv 2 = some (.int (nI lw))) (q3 : sm_get lv 3 = some (.int (nI li))) (q4 : sm_get lv 4 = some (.int (Int32.ofInt (-1)))) (q5 : sm_get lv 5 = some (.int (nI lq))) (mla : la < 2 ^ 20) (mlw : lw < 2 ^ 20) (mli : li < 2 ^ 20) (mlq : lq < 2 ^ 20) (b1 : li < 6002) (he67 : sA S 67 li = nI e67) (me67 : e67 < 2 ^ 20) (b2 : e67 = 2) (he68 : sA S 68 li = nI e68) (me68 : e68 < 2 ^ 20) (b3 : e68 = 6) (b4 : lq ≠ 0) (b5 : li + 1 < 6002) (he681 : sA S 68 (li + 1) = nI e681) (me681 : e681 < 2 ^ 20) (c1 : Ans (d + 8) 339 [.ref 61, .int (nI e681)] S none S1) (he70 : sA S1 70 li = nI e70) (me70 : e70 < 2 ^ 20) (hB : ∀ lv1 : sm_L, sm_get lv1 0 = some (.ref 61) → sm_get lv1 1 = some (.int (nI la)) → sm_get lv1 2 = some (.int (nI lw)) → sm_get lv1 3 = some (.int (nI li)) → sm_get lv1 4 = some (.int (nI e70)) → Bod (d + 8) 338 331 lv1 [] (S1) v Sf) : Bod (d + 8) 338 69 lv [] S v Sf := by
  refine Bod.aldnG dc_338_69 (by repeat (first | exact q0 | exact sm_get_p1 | exact sm_get_p2e | refine sm_get_p1m (by decide) (by decide) ?_ | refine sm_get_p1n (by decide) rfl ?_ | refine sm_get_p2n (by decide) (by decide) rfl ?_)) ?_
  refine Bod.get dc_338_70 fr_338_129 (mk_61 _) rfl ?_
  refine Bod.ildnG dc_338_73 (by repeat (first | exact q3 | exact sm_get_p1 | exact sm_get_p2e | refine sm_get_p1m (by decide) (by decide) ?_ | refine sm_get_p1n (by decide) rfl ?_ | refine sm_get_p2n (by decide) (by decide) rfl ?_)) ?_
  refine Bod.ialdN li rfl (by omega) (by omega) dc_338_74 (mk_67 _) ?_
  refine Bod.eqI (nI e67) (by first | assumption | rfl | exact congrArg nI (by omega) | (simp (disch := omega) only [rI, rIe, rA, rIA, rLA, rJA, rVI, rQI, rVA, rQA, upd_at,  rAI, rLI, rJI, nI_add, pk_sub, kc_0, kc_1, kc_2, kc_3, kc_4, kc_5, reduceIte, Nat.reduceEqDiff, Nat.add_zero, rI_hold, rI_hold, rL_hold, he67]; done)) ?_
  refine Bod.ic 2 (by decide) dc_338_75 ?_
  refine Bod.icF dc_338_76 rfl (k2_ne_F (k_eq e67 2 rfl rfl (by omega))) ?_
  refine Bod.aldnG dc_338_79 (by repeat (first | exact q0 | exact sm_get_p1 | exact sm_get_p2e | refine sm_get_p1m (by decide) (by decide) ?_ | refine sm_get_p1n (by decide) rfl ?_ | refine sm_get_p2n (by decide) (by decide) rfl ?_)) ?_
  refine Bod.get dc_338_80 fr_338_135 (mk_61 _) rfl ?_
  refine Bod.ildnG dc_338_83 (by repeat (first | exact q3 | exact sm_get_p1 | exact sm_get_p2e | refine sm_get_p1m (by decide) (by decide) ?_ | refine sm_get_p1n (by decide) rfl ?_ | refine sm_get_p2n (by decide) (by decide) rfl ?_)) ?_
  refine Bod.ialdN li rfl (by omega) (by omega) dc_338_84 (mk_68 _) ?_
  refine Bod.eqI (nI e68) (by first | assumption | rfl | exact congrArg nI (by omega) | (simp (disch := omega) only [rI, rIe, rA, rIA, rLA, rJA, rVI, rQI, rVA, rQA, upd_at,  rAI, rLI, rJI, nI_add, pk_sub, kc_0, kc_1, kc_2, kc_3, kc_4, kc_5, reduceIte, Nat.reduceEqDiff, Nat.add_zero, rI_hold, rI_hold, rL_hold, he67, he68]; done)) ?_
  refine Bod.bip 6 (by decide) dc_338_85 ?_
  refine Bod.icT dc_338_87 rfl (k2_eq_T (k_eq e68 6 rfl rfl (by omega))) ?_
  refine Bod.ildG dc_338_101 (by repeat (first | exact q5 | exact sm_get_p1 | exact sm_get_p2e | refine sm_get_p1m (by decide) (by decide) ?_ | refine sm_get_p1n (by decide) rfl ?_ | refine sm_get_p2n (by decide) (by decide) rfl ?_)) ?_
  refine Bod.ifF dc_338_103 rfl (k1_eq_F (k_ne lq 0 rfl rfl (by omega) (by omega) (by omega))) ?_
  refine Bod.aldnG dc_338_106 (by repeat (first | exact q0 | exact sm_get_p1 | exact sm_get_p2e | refine sm_get_p1m (by decide) (by decide) ?_ | refine sm_get_p1n (by decide) rfl ?_ | refine sm_get_p2n (by decide) (by decide) rfl ?_)) ?_
  refine Bod.aldnG dc_338_107 (by repeat (first | exact q0 | exact sm_get_p1 | exact sm_get_p2e | refine sm_get_p1m (by decide) (by decide) ?_ | refine sm_get_p1n (by decide) rfl ?_ | refine sm_get_p2n (by decide) (by decide) rfl ?_)) ?_
  refine Bod.get dc_338_108 fr_338_135 (mk_61 _) rfl ?_
  refine Bod.ildnG dc_338_111 (by repeat (first | exact q3 | exact sm_get_p1 | exact sm_get_p2e | refine sm_get_p1m (by decide) (by decide) ?_ | refine sm_get_p1n (by decide) rfl ?_ | refine sm_get_p2n (by decide) (by decide) rfl ?_)) ?_
  refine Bod.ic 1 (by decide) dc_338_112 ?_
  refine Bod.addN (li + 1) (by omega) dc_338_113 ?_
  refine Bod.ialdN (li + 1) rfl (by omega) (by omega) dc_338_114 (mk_68 _) ?_
  refine Bod.eqI (nI e681) (by first | assumption | rfl | exact congrArg nI (by omega) | (simp (disch := omega) only [rI, rIe, rA, rIA, rLA, rJA, rVI, rQI, rVA, rQA, upd_at,  rAI, rLI, rJI, nI_add, pk_sub, kc_0, kc_1, kc_2, kc_3, kc_4, kc_5, reduceIte, Nat.reduceEqDiff, Nat.add_zero, rI_hold, rI_hold, rL_hold, he67, he68, he681]; done)) ?_
  refine Bod.virt (r := []) dc_338_115 kr_338_356 ⟨Or.inl rfl, ow_339, cl_14⟩ (by rw [np_339]; rfl) (by rw [np_339]; rfl) (ob_of (mk_61 _)) (Nat.le_of_ble_eq_true rfl) (c1  ) ?_
  show Bod _ _ _ _ [] _ _ _
  refine Bod.aldnG dc_338_118 (by repeat (first | exact q0 | exact sm_get_p1 | exact sm_get_p2e | refine sm_get_p1m (by decide) (by decide) ?_ | refine sm_get_p1n (by decide) rfl ?_ | refine sm_get_p2n (by decide) (by decide) rfl ?_)) ?_
  refine Bod.get dc_338_119 fr_338_141 (mk_61 _) rfl ?_
  refine Bod.ildnG dc_338_122 (by repeat (first | exact q3 | exact sm_get_p1 | exact sm_get_p2e | refine sm_get_p1m (by decide) (by decide) ?_ | refine sm_get_p1n (by decide) rfl ?_ | refine sm_get_p2n (by decide) (by decide) rfl ?_)) ?_
  refine Bod.ialdN li rfl (by omega) (by omega) dc_338_123 (mk_70 _) ?_
  refine Bod.eqI (nI e70) (by first | (simp (disch := omega) only [rI, rIe, rA, rIA, rLA, rJA, rVI, rQI, rVA, rQA, upd_at,  rAI, rLI, rJI, nI_add, pk_sub, kc_0, kc_1, kc_2, kc_3, kc_4, kc_5, reduceIte, Nat.reduceEqDiff, Nat.add_zero, rI_hold, rI_hold, rL_hold, he67, he68, he681, he70]; done) | (simp (disch := omega) only [rI, rIe, rA, rIA, rLA, rJA, rVI, rQI, rVA, rQA, upd_at,  rAI, rLI, rJI, nI_add, pk_sub, kc_0, kc_1, kc_2, kc_3, kc_4, kc_5, reduceIte, Nat.reduceEqDiff, Nat.add_zero, rI_hold, rI_hold, rL_hold, he67, he68, he681, he70]; exact congrArg nI (by omega))) ?_
  refine Bod.ist dc_338_124 (by rw [ml_338]; exact Nat.le_of_ble_eq_true rfl) ?_
  refine Bod.go dc_338_126 rfl ?_
  exact hB _ (by repeat (first | exact q0 | exact sm_get_p1 | exact sm_get_p2e | refine sm_get_p1m (by decide) (by decide) ?_ | refine sm_get_p1n (by decide) rfl ?_ | refine sm_get_p2n (by decide) (by decide) rfl ?_)) (by repeat (first | exact q1 | exact sm_get_p1 | exact sm_get_p2e | refine sm_get_p1m (by decide) (by decide) ?_ | refine sm_get_p1n (by decide) rfl ?_ | refine sm_get_p2n (by decide) (by decide) rfl ?_)) (by repeat (first | exact q2 | exact sm_get_p1 | exact sm_get_p2e | refine sm_get_p1m (by decide) (by decide) ?_ | refine sm_get_p1n (by decide) rfl ?_ | refine sm_get_p2n (by decide) (by decide) rfl ?_)) (by repeat (first | exact q3 | exact sm_get_p1 | exact sm_get_p2e | refine sm_get_p1m (by decide) (by decide) ?_ | refine sm_get_p1n (by decide) rfl ?_ | refine sm_get_p2n (by decide) (by decide) rfl ?_)) (by repeat (first | exact q0 | exact sm_get_p1 | exact sm_get_p2e | refine sm_get_p1m (by decide) (by decide) ?_ | refine sm_get_p1n (by decide) rfl ?_ | refine sm_get_p2n (by decide) (by decide) rfl ?_))
theorem zSw_4 {d : Nat} {S Sf : cS} {v : Option Value} {lv : sm_L} {la : Nat} {lw : Nat} {li : Nat} {lq : Nat} {e67 : Nat} {e68 : Nat} (q0 : sm_get lv 0 = some (.ref 61)) (q1 : sm_get lv 1 = some (.int (nI la))) (q2 : sm_get lv 2 = some (.int (nI lw))) (q3 : sm_get lv 3 = some (.int (nI li))) (q4 : sm_get lv 4 = some (.int (Int32.ofInt (-1)))) (q5 : sm_get lv 5 = some (.int (nI lq))) (mla : la < 2 ^ 20) (mlw : lw < 2 ^ 20) (mli : li < 2 ^ 20) (mlq : lq < 2 ^ 20) (b1 : li < 6002) (he67 : sA S 67 li = nI e67) (me67 : e67 < 2 ^ 20) (b2 : e67 = 2) (he68 : sA S 68 li = nI e68) (me68 : e68 < 2 ^ 20) (b3 : e68 ≠ 6) (b4 : e68 ≠ 7) (b5 : lq = 0) (hB : ∀ lv1 : sm_L, sm_get lv1 0 = some (.ref 61) → sm_get lv1 1 = some (.int (nI la)) → sm_get lv1 2 = some (.int (nI lw)) → sm_get lv1 3 = some (.int (nI li)) → sm_get lv1 4 = some (.int (Int32.ofInt (-1))) → Bod (d + 8) 338 204 lv1 [] (S) v Sf) : Bod (d + 8) 338 69 lv [] S v Sf := by
  refine Bod.aldnG dc_338_69 (by repeat (first | exact q0 | exact sm_get_p1 | exact sm_get_p2e | refine sm_get_p1m (by decide) (by decide) ?_ | refine sm_get_p1n (by decide) rfl ?_ | refine sm_get_p2n (by decide) (by decide) rfl ?_)) ?_
  refine Bod.get dc_338_70 fr_338_129 (mk_61 _) rfl ?_
  refine Bod.ildnG dc_338_73 (by repeat (first | exact q3 | exact sm_get_p1 | exact sm_get_p2e | refine sm_get_p1m (by decide) (by decide) ?_ | refine sm_get_p1n (by decide) rfl ?_ | refine sm_get_p2n (by decide) (by decide) rfl ?_)) ?_
  refine Bod.ialdN li rfl (by omega) (by omega) dc_338_74 (mk_67 _) ?_
  refine Bod.eqI (nI e67) (by first | assumption | rfl | exact congrArg nI (by omega) | (simp (disch := omega) only [rI, rIe, rA, rIA, rLA, rJA, rVI, rQI, rVA, rQA, upd_at,  rAI, rLI, rJI, nI_add, pk_sub, kc_0, kc_1, kc_2, kc_3, kc_4, kc_5, reduceIte, Nat.reduceEqDiff, Nat.add_zero, rI_hold, rI_hold, rL_hold, he67]; done)) ?_
  refine Bod.ic 2 (by decide) dc_338_75 ?_
  refine Bod.icF dc_338_76 rfl (k2_ne_F (k_eq e67 2 rfl rfl (by omega))) ?_
  refine Bod.aldnG dc_338_79 (by repeat (first | exact q0 | exact sm_get_p1 | exact sm_get_p2e | refine sm_get_p1m (by decide) (by decide) ?_ | refine sm_get_p1n (by decide) rfl ?_ | refine sm_get_p2n (by decide) (by decide) rfl ?_)) ?_
  refine Bod.get dc_338_80 fr_338_135 (mk_61 _) rfl ?_
  refine Bod.ildnG dc_338_83 (by repeat (first | exact q3 | exact sm_get_p1 | exact sm_get_p2e | refine sm_get_p1m (by decide) (by decide) ?_ | refine sm_get_p1n (by decide) rfl ?_ | refine sm_get_p2n (by decide) (by decide) rfl ?_)) ?_
  refine Bod.ialdN li rfl (by omega) (by omega) dc_338_84 (mk_68 _) ?_
  refine Bod.eqI (nI e68) (by first | assumption | rfl | exact congrArg nI (by omega) | (simp (disch := omega) only [rI, rIe, rA, rIA, rLA, rJA, rVI, rQI, rVA, rQA, upd_at,  rAI, rLI, rJI, nI_add, pk_sub, kc_0, kc_1, kc_2, kc_3, kc_4, kc_5, reduceIte, Nat.reduceEqDiff, Nat.add_zero, rI_hold, rI_hold, rL_hold, he67, he68]; done)) ?_
  refine Bod.bip 6 (by decide) dc_338_85 ?_
  refine Bod.icF dc_338_87 rfl (k2_eq_F (k_ne e68 6 rfl rfl (by omega) (by omega) (by omega))) ?_
  refine Bod.aldnG dc_338_90 (by repeat (first | exact q0 | exact sm_get_p1 | exact sm_get_p2e | refine sm_get_p1m (by decide) (by decide) ?_ | refine sm_get_p1n (by decide) rfl ?_ | refine sm_get_p2n (by decide) (by decide) rfl ?_)) ?_
  refine Bod.get dc_338_91 fr_338_135 (mk_61 _) rfl ?_
  refine Bod.ildnG dc_338_94 (by repeat (first | exact q3 | exact sm_get_p1 | exact sm_get_p2e | refine sm_get_p1m (by decide) (by decide) ?_ | refine sm_get_p1n (by decide) rfl ?_ | refine sm_get_p2n (by decide) (by decide) rfl ?_)) ?_
  refine Bod.ialdN li rfl (by omega) (by omega) dc_338_95 (mk_68 _) ?_
  refine Bod.eqI (nI e68) (by first | assumption | rfl | exact congrArg nI (by omega) | (simp (disch := omega) only [rI, rIe, rA, rIA, rLA, rJA, rVI, rQI, rVA, rQA, upd_at,  rAI, rLI, rJI, nI_add, pk_sub, kc_0, kc_1, kc_2, kc_3, kc_4, kc_5, reduceIte, Nat.reduceEqDiff, Nat.add_zero, rI_hold, rI_hold, rL_hold, he67, he68]; done)) ?_
  refine Bod.bip 7 (by decide) dc_338_96 ?_
  refine Bod.icT dc_338_98 rfl (k2_ne_T (k_ne e68 7 rfl rfl (by omega) (by omega) (by omega))) ?_
  refine Bod.aldnG dc_338_129 (by repeat (first | exact q0 | exact sm_get_p1 | exact sm_get_p2e | refine sm_get_p1m (by decide) (by decide) ?_ | refine sm_get_p1n (by decide) rfl ?_ | refine sm_get_p2n (by decide) (by decide) rfl ?_)) ?_
  refine Bod.get dc_338_130 fr_338_129 (mk_61 _) rfl ?_
  refine Bod.ildnG dc_338_133 (by repeat (first | exact q3 | exact sm_get_p1 | exact sm_get_p2e | refine sm_get_p1m (by decide) (by decide) ?_ | refine sm_get_p1n (by decide) rfl ?_ | refine sm_get_p2n (by decide) (by decide) rfl ?_)) ?_
  refine Bod.ialdN li rfl (by omega) (by omega) dc_338_134 (mk_67 _) ?_
  refine Bod.eqI (nI e67) (by first | assumption | rfl | exact congrArg nI (by omega) | (simp (disch := omega) only [rI, rIe, rA, rIA, rLA, rJA, rVI, rQI, rVA, rQA, upd_at,  rAI, rLI, rJI, nI_add, pk_sub, kc_0, kc_1, kc_2, kc_3, kc_4, kc_5, reduceIte, Nat.reduceEqDiff, Nat.add_zero, rI_hold, rI_hold, rL_hold, he67, he68]; done)) ?_
  refine Bod.ic 2 (by decide) dc_338_135 ?_
  refine Bod.icF dc_338_136 rfl (k2_ne_F (k_eq e67 2 rfl rfl (by omega))) ?_
  refine Bod.ildG dc_338_139 (by repeat (first | exact q5 | exact sm_get_p1 | exact sm_get_p2e | refine sm_get_p1m (by decide) (by decide) ?_ | refine sm_get_p1n (by decide) rfl ?_ | refine sm_get_p2n (by decide) (by decide) rfl ?_)) ?_
  refine Bod.ifT dc_338_141 rfl (k1_eq_T (k_eq lq 0 rfl rfl (by omega))) ?_
  exact hB _ (by repeat (first | exact q0 | exact sm_get_p1 | exact sm_get_p2e | refine sm_get_p1m (by decide) (by decide) ?_ | refine sm_get_p1n (by decide) rfl ?_ | refine sm_get_p2n (by decide) (by decide) rfl ?_)) (by repeat (first | exact q1 | exact sm_get_p1 | exact sm_get_p2e | refine sm_get_p1m (by decide) (by decide) ?_ | refine sm_get_p1n (by decide) rfl ?_ | refine sm_get_p2n (by decide) (by decide) rfl ?_)) (by repeat (first | exact q2 | exact sm_get_p1 | exact sm_get_p2e | refine sm_get_p1m (by decide) (by decide) ?_ | refine sm_get_p1n (by decide) rfl ?_ | refine sm_get_p2n (by decide) (by decide) rfl ?_)) (by repeat (first | exact q3 | exact sm_get_p1 | exact sm_get_p2e | refine sm_get_p1m (by decide) (by decide) ?_ | refine sm_get_p1n (by decide) rfl ?_ | refine sm_get_p2n (by decide) (by decide) rfl ?_)) (by repeat (first | exact q4 | exact sm_get_p1 | exact sm_get_p2e | refine sm_get_p1m (by decide) (by decide) ?_ | refine sm_get_p1n (by decide) rfl ?_ | refine sm_get_p2n (by decide) (by decide) rfl ?_))
theorem zSw_5 {d : Nat} {S Sf : cS} {v : Option Value} {lv : sm_L} {la : Nat} {lw : Nat} {li : Nat} {lq : Nat} {e67 : Nat} {e68 : Nat} {e681 : Nat} {S1 : cS} (q0 : sm_get lv 0 = some (.ref 61)) (q1 : sm_get lv 1 = some (.int (nI la))) (q2 : sm_get lv 2 = some (.int (nI lw))) (q3 : sm_get lv 3 = some (.int (nI li))) (q4 : sm_get lv 4 = some (.int (Int32.ofInt (-1)))) (q5 : sm_get lv 5 = some (.int (nI lq))) (mla : la < 2 ^ 20) (mlw : lw < 2 ^ 20) (mli : li < 2 ^ 20) (mlq : lq < 2 ^ 20) (b1 : li < 6002) (he67 : sA S 67 li = nI e67) (me67 : e67 < 2 ^ 20) (b2 : e67 = 2) (he68 : sA S 68 li = nI e68) (me68 : e68 < 2 ^ 20) (b3 : e68 ≠ 6) (b4 : e68 ≠ 7) (b5 : lq ≠ 0) (b6 : e68 = 4) (b7 : li + 1 < 6002) (he681 : sA S 68 (li + 1) = nI e681) (me681 : e681 < 2 ^ 20) (c1 : Ans (d + 8) 339 [.ref 61, .int (nI e681)] S none S1) (hB : ∀ lv1 : sm_L, sm_get lv1 0 = some (.ref 61) → sm_get lv1 1 = some (.int (nI la)) → sm_get lv1 2 = some (.int (nI lw)) → sm_get lv1 3 = some (.int (nI li)) → sm_get lv1 4 = some (.int (Int32.ofInt (-1))) → Bod (d + 8) 338 331 lv1 [] (S1) v Sf) : Bod (d + 8) 338 69 lv [] S v Sf := by
  refine Bod.aldnG dc_338_69 (by repeat (first | exact q0 | exact sm_get_p1 | exact sm_get_p2e | refine sm_get_p1m (by decide) (by decide) ?_ | refine sm_get_p1n (by decide) rfl ?_ | refine sm_get_p2n (by decide) (by decide) rfl ?_)) ?_
  refine Bod.get dc_338_70 fr_338_129 (mk_61 _) rfl ?_
  refine Bod.ildnG dc_338_73 (by repeat (first | exact q3 | exact sm_get_p1 | exact sm_get_p2e | refine sm_get_p1m (by decide) (by decide) ?_ | refine sm_get_p1n (by decide) rfl ?_ | refine sm_get_p2n (by decide) (by decide) rfl ?_)) ?_
  refine Bod.ialdN li rfl (by omega) (by omega) dc_338_74 (mk_67 _) ?_
  refine Bod.eqI (nI e67) (by first | assumption | rfl | exact congrArg nI (by omega) | (simp (disch := omega) only [rI, rIe, rA, rIA, rLA, rJA, rVI, rQI, rVA, rQA, upd_at,  rAI, rLI, rJI, nI_add, pk_sub, kc_0, kc_1, kc_2, kc_3, kc_4, kc_5, reduceIte, Nat.reduceEqDiff, Nat.add_zero, rI_hold, rI_hold, rL_hold, he67]; done)) ?_
  refine Bod.ic 2 (by decide) dc_338_75 ?_
  refine Bod.icF dc_338_76 rfl (k2_ne_F (k_eq e67 2 rfl rfl (by omega))) ?_
  refine Bod.aldnG dc_338_79 (by repeat (first | exact q0 | exact sm_get_p1 | exact sm_get_p2e | refine sm_get_p1m (by decide) (by decide) ?_ | refine sm_get_p1n (by decide) rfl ?_ | refine sm_get_p2n (by decide) (by decide) rfl ?_)) ?_
  refine Bod.get dc_338_80 fr_338_135 (mk_61 _) rfl ?_
  refine Bod.ildnG dc_338_83 (by repeat (first | exact q3 | exact sm_get_p1 | exact sm_get_p2e | refine sm_get_p1m (by decide) (by decide) ?_ | refine sm_get_p1n (by decide) rfl ?_ | refine sm_get_p2n (by decide) (by decide) rfl ?_)) ?_
  refine Bod.ialdN li rfl (by omega) (by omega) dc_338_84 (mk_68 _) ?_
  refine Bod.eqI (nI e68) (by first | assumption | rfl | exact congrArg nI (by omega) | (simp (disch := omega) only [rI, rIe, rA, rIA, rLA, rJA, rVI, rQI, rVA, rQA, upd_at,  rAI, rLI, rJI, nI_add, pk_sub, kc_0, kc_1, kc_2, kc_3, kc_4, kc_5, reduceIte, Nat.reduceEqDiff, Nat.add_zero, rI_hold, rI_hold, rL_hold, he67, he68]; done)) ?_
  refine Bod.bip 6 (by decide) dc_338_85 ?_
  refine Bod.icF dc_338_87 rfl (k2_eq_F (k_ne e68 6 rfl rfl (by omega) (by omega) (by omega))) ?_
  refine Bod.aldnG dc_338_90 (by repeat (first | exact q0 | exact sm_get_p1 | exact sm_get_p2e | refine sm_get_p1m (by decide) (by decide) ?_ | refine sm_get_p1n (by decide) rfl ?_ | refine sm_get_p2n (by decide) (by decide) rfl ?_)) ?_
  refine Bod.get dc_338_91 fr_338_135 (mk_61 _) rfl ?_
  refine Bod.ildnG dc_338_94 (by repeat (first | exact q3 | exact sm_get_p1 | exact sm_get_p2e | refine sm_get_p1m (by decide) (by decide) ?_ | refine sm_get_p1n (by decide) rfl ?_ | refine sm_get_p2n (by decide) (by decide) rfl ?_)) ?_
  refine Bod.ialdN li rfl (by omega) (by omega) dc_338_95 (mk_68 _) ?_
  refine Bod.eqI (nI e68) (by first | assumption | rfl | exact congrArg nI (by omega) | (simp (disch := omega) only [rI, rIe, rA, rIA, rLA, rJA, rVI, rQI, rVA, rQA, upd_at,  rAI, rLI, rJI, nI_add, pk_sub, kc_0, kc_1, kc_2, kc_3, kc_4, kc_5, reduceIte, Nat.reduceEqDiff, Nat.add_zero, rI_hold, rI_hold, rL_hold, he67, he68]; done)) ?_
  refine Bod.bip 7 (by decide) dc_338_96 ?_
  refine Bod.icT dc_338_98 rfl (k2_ne_T (k_ne e68 7 rfl rfl (by omega) (by omega) (by omega))) ?_
  refine Bod.aldnG dc_338_129 (by repeat (first | exact q0 | exact sm_get_p1 | exact sm_get_p2e | refine sm_get_p1m (by decide) (by decide) ?_ | refine sm_get_p1n (by decide) rfl ?_ | refine sm_get_p2n (by decide) (by decide) rfl ?_)) ?_
  refine Bod.get dc_338_130 fr_338_129 (mk_61 _) rfl ?_
  refine Bod.ildnG dc_338_133 (by repeat (first | exact q3 | exact sm_get_p1 | exact sm_get_p2e | refine sm_get_p1m (by decide) (by decide) ?_ | refine sm_get_p1n (by decide) rfl ?_ | refine sm_get_p2n (by decide) (by decide) rfl ?_)) ?_
  refine Bod.ialdN li rfl (by omega) (by omega) dc_338_134 (mk_67 _) ?_
  refine Bod.eqI (nI e67) (by first | assumption | rfl | exact congrArg nI (by omega) | (simp (disch := omega) only [rI, rIe, rA, rIA, rLA, rJA, rVI, rQI, rVA, rQA, upd_at,  rAI, rLI, rJI, nI_add, pk_sub, kc_0, kc_1, kc_2, kc_3, kc_4, kc_5, reduceIte, Nat.reduceEqDiff, Nat.add_zero, rI_hold, rI_hold, rL_hold, he67, he68]; done)) ?_
  refine Bod.ic 2 (by decide) dc_338_135 ?_
  refine Bod.icF dc_338_136 rfl (k2_ne_F (k_eq e67 2 rfl rfl (by omega))) ?_
  refine Bod.ildG dc_338_139 (by repeat (first | exact q5 | exact sm_get_p1 | exact sm_get_p2e | refine sm_get_p1m (by decide) (by decide) ?_ | refine sm_get_p1n (by decide) rfl ?_ | refine sm_get_p2n (by decide) (by decide) rfl ?_)) ?_
  refine Bod.ifF dc_338_141 rfl (k1_eq_F (k_ne lq 0 rfl rfl (by omega) (by omega) (by omega))) ?_
  refine Bod.aldnG dc_338_144 (by repeat (first | exact q0 | exact sm_get_p1 | exact sm_get_p2e | refine sm_get_p1m (by decide) (by decide) ?_ | refine sm_get_p1n (by decide) rfl ?_ | refine sm_get_p2n (by decide) (by decide) rfl ?_)) ?_
  refine Bod.get dc_338_145 fr_338_135 (mk_61 _) rfl ?_
  refine Bod.ildnG dc_338_148 (by repeat (first | exact q3 | exact sm_get_p1 | exact sm_get_p2e | refine sm_get_p1m (by decide) (by decide) ?_ | refine sm_get_p1n (by decide) rfl ?_ | refine sm_get_p2n (by decide) (by decide) rfl ?_)) ?_
  refine Bod.ialdN li rfl (by omega) (by omega) dc_338_149 (mk_68 _) ?_
  refine Bod.eqI (nI e68) (by first | assumption | rfl | exact congrArg nI (by omega) | (simp (disch := omega) only [rI, rIe, rA, rIA, rLA, rJA, rVI, rQI, rVA, rQA, upd_at,  rAI, rLI, rJI, nI_add, pk_sub, kc_0, kc_1, kc_2, kc_3, kc_4, kc_5, reduceIte, Nat.reduceEqDiff, Nat.add_zero, rI_hold, rI_hold, rL_hold, he67, he68]; done)) ?_
  refine Bod.ic 4 (by decide) dc_338_150 ?_
  refine Bod.icT dc_338_151 rfl (k2_eq_T (k_eq e68 4 rfl rfl (by omega))) ?_
  refine Bod.aldnG dc_338_189 (by repeat (first | exact q0 | exact sm_get_p1 | exact sm_get_p2e | refine sm_get_p1m (by decide) (by decide) ?_ | refine sm_get_p1n (by decide) rfl ?_ | refine sm_get_p2n (by decide) (by decide) rfl ?_)) ?_
  refine Bod.aldnG dc_338_190 (by repeat (first | exact q0 | exact sm_get_p1 | exact sm_get_p2e | refine sm_get_p1m (by decide) (by decide) ?_ | refine sm_get_p1n (by decide) rfl ?_ | refine sm_get_p2n (by decide) (by decide) rfl ?_)) ?_
  refine Bod.get dc_338_191 fr_338_135 (mk_61 _) rfl ?_
  refine Bod.ildnG dc_338_194 (by repeat (first | exact q3 | exact sm_get_p1 | exact sm_get_p2e | refine sm_get_p1m (by decide) (by decide) ?_ | refine sm_get_p1n (by decide) rfl ?_ | refine sm_get_p2n (by decide) (by decide) rfl ?_)) ?_
  refine Bod.ic 1 (by decide) dc_338_195 ?_
  refine Bod.addN (li + 1) (by omega) dc_338_196 ?_
  refine Bod.ialdN (li + 1) rfl (by omega) (by omega) dc_338_197 (mk_68 _) ?_
  refine Bod.eqI (nI e681) (by first | assumption | rfl | exact congrArg nI (by omega) | (simp (disch := omega) only [rI, rIe, rA, rIA, rLA, rJA, rVI, rQI, rVA, rQA, upd_at,  rAI, rLI, rJI, nI_add, pk_sub, kc_0, kc_1, kc_2, kc_3, kc_4, kc_5, reduceIte, Nat.reduceEqDiff, Nat.add_zero, rI_hold, rI_hold, rL_hold, he67, he68, he681]; done)) ?_
  refine Bod.virt (r := []) dc_338_198 kr_338_356 ⟨Or.inl rfl, ow_339, cl_14⟩ (by rw [np_339]; rfl) (by rw [np_339]; rfl) (ob_of (mk_61 _)) (Nat.le_of_ble_eq_true rfl) (c1  ) ?_
  show Bod _ _ _ _ [] _ _ _
  refine Bod.go dc_338_201 rfl ?_
  exact hB _ (by repeat (first | exact q0 | exact sm_get_p1 | exact sm_get_p2e | refine sm_get_p1m (by decide) (by decide) ?_ | refine sm_get_p1n (by decide) rfl ?_ | refine sm_get_p2n (by decide) (by decide) rfl ?_)) (by repeat (first | exact q1 | exact sm_get_p1 | exact sm_get_p2e | refine sm_get_p1m (by decide) (by decide) ?_ | refine sm_get_p1n (by decide) rfl ?_ | refine sm_get_p2n (by decide) (by decide) rfl ?_)) (by repeat (first | exact q2 | exact sm_get_p1 | exact sm_get_p2e | refine sm_get_p1m (by decide) (by decide) ?_ | refine sm_get_p1n (by decide) rfl ?_ | refine sm_get_p2n (by decide) (by decide) rfl ?_)) (by repeat (first | exact q3 | exact sm_get_p1 | exact sm_get_p2e | refine sm_get_p1m (by decide) (by decide) ?_ | refine sm_get_p1n (by decide) rfl ?_ | refine sm_get_p2n (by decide) (by decide) rfl ?_)) (by repeat (first | exact q4 | exact sm_get_p1 | exact sm_get_p2e | refine sm_get_p1m (by decide) (by decide) ?_ | refine sm_get_p1n (by decide) rfl ?_ | refine sm_get_p2n (by decide) (by decide) rfl ?_))
theorem zSw_6 {d : Nat} {S Sf : cS} {v : Option Value} {lv : sm_L} {la : Nat} {lw : Nat} {li : Nat} {lq : Nat} {e67 : Nat} {e68 : Nat} {e681 : Nat} {S1 : cS} (q0 : sm_get lv 0 = some (.ref 61)) (q1 : sm_get lv 1 = some (.int (nI la))) (q2 : sm_get lv 2 = some (.int (nI lw))) (q3 : sm_get lv 3 = some (.int (nI li))) (q4 : sm_get lv 4 = some (.int (Int32.ofInt (-1)))) (q5 : sm_get lv 5 = some (.int (nI lq))) (mla : la < 2 ^ 20) (mlw : lw < 2 ^ 20) (mli : li < 2 ^ 20) (mlq : lq < 2 ^ 20) (b1 : li < 6002) (he67 : sA S 67 li = nI e67) (me67 : e67 < 2 ^ 20) (b2 : e67 = 2) (he68 : sA S 68 li = nI e68) (me68 : e68 < 2 ^ 20) (b3 : e68 ≠ 6) (b4 : e68 ≠ 7) (b5 : lq ≠ 0) (b6 : e68 ≠ 4) (b7 : e68 = 15) (b8 : li + 1 < 6002) (he681 : sA S 68 (li + 1) = nI e681) (me681 : e681 < 2 ^ 20) (c1 : Ans (d + 8) 339 [.ref 61, .int (nI e681)] S none S1) (hB : ∀ lv1 : sm_L, sm_get lv1 0 = some (.ref 61) → sm_get lv1 1 = some (.int (nI la)) → sm_get lv1 2 = some (.int (nI lw)) → sm_get lv1 3 = some (.int (nI li)) → sm_get lv1 4 = some (.int (Int32.ofInt (-1))) → Bod (d + 8) 338 331 lv1 [] (S1) v Sf) : Bod (d + 8) 338 69 lv [] S v Sf := by
  refine Bod.aldnG dc_338_69 (by repeat (first | exact q0 | exact sm_get_p1 | exact sm_get_p2e | refine sm_get_p1m (by decide) (by decide) ?_ | refine sm_get_p1n (by decide) rfl ?_ | refine sm_get_p2n (by decide) (by decide) rfl ?_)) ?_
  refine Bod.get dc_338_70 fr_338_129 (mk_61 _) rfl ?_
  refine Bod.ildnG dc_338_73 (by repeat (first | exact q3 | exact sm_get_p1 | exact sm_get_p2e | refine sm_get_p1m (by decide) (by decide) ?_ | refine sm_get_p1n (by decide) rfl ?_ | refine sm_get_p2n (by decide) (by decide) rfl ?_)) ?_
  refine Bod.ialdN li rfl (by omega) (by omega) dc_338_74 (mk_67 _) ?_
  refine Bod.eqI (nI e67) (by first | assumption | rfl | exact congrArg nI (by omega) | (simp (disch := omega) only [rI, rIe, rA, rIA, rLA, rJA, rVI, rQI, rVA, rQA, upd_at,  rAI, rLI, rJI, nI_add, pk_sub, kc_0, kc_1, kc_2, kc_3, kc_4, kc_5, reduceIte, Nat.reduceEqDiff, Nat.add_zero, rI_hold, rI_hold, rL_hold, he67]; done)) ?_
  refine Bod.ic 2 (by decide) dc_338_75 ?_
  refine Bod.icF dc_338_76 rfl (k2_ne_F (k_eq e67 2 rfl rfl (by omega))) ?_
  refine Bod.aldnG dc_338_79 (by repeat (first | exact q0 | exact sm_get_p1 | exact sm_get_p2e | refine sm_get_p1m (by decide) (by decide) ?_ | refine sm_get_p1n (by decide) rfl ?_ | refine sm_get_p2n (by decide) (by decide) rfl ?_)) ?_
  refine Bod.get dc_338_80 fr_338_135 (mk_61 _) rfl ?_
  refine Bod.ildnG dc_338_83 (by repeat (first | exact q3 | exact sm_get_p1 | exact sm_get_p2e | refine sm_get_p1m (by decide) (by decide) ?_ | refine sm_get_p1n (by decide) rfl ?_ | refine sm_get_p2n (by decide) (by decide) rfl ?_)) ?_
  refine Bod.ialdN li rfl (by omega) (by omega) dc_338_84 (mk_68 _) ?_
  refine Bod.eqI (nI e68) (by first | assumption | rfl | exact congrArg nI (by omega) | (simp (disch := omega) only [rI, rIe, rA, rIA, rLA, rJA, rVI, rQI, rVA, rQA, upd_at,  rAI, rLI, rJI, nI_add, pk_sub, kc_0, kc_1, kc_2, kc_3, kc_4, kc_5, reduceIte, Nat.reduceEqDiff, Nat.add_zero, rI_hold, rI_hold, rL_hold, he67, he68]; done)) ?_
  refine Bod.bip 6 (by decide) dc_338_85 ?_
  refine Bod.icF dc_338_87 rfl (k2_eq_F (k_ne e68 6 rfl rfl (by omega) (by omega) (by omega))) ?_
  refine Bod.aldnG dc_338_90 (by repeat (first | exact q0 | exact sm_get_p1 | exact sm_get_p2e | refine sm_get_p1m (by decide) (by decide) ?_ | refine sm_get_p1n (by decide) rfl ?_ | refine sm_get_p2n (by decide) (by decide) rfl ?_)) ?_
  refine Bod.get dc_338_91 fr_338_135 (mk_61 _) rfl ?_
  refine Bod.ildnG dc_338_94 (by repeat (first | exact q3 | exact sm_get_p1 | exact sm_get_p2e | refine sm_get_p1m (by decide) (by decide) ?_ | refine sm_get_p1n (by decide) rfl ?_ | refine sm_get_p2n (by decide) (by decide) rfl ?_)) ?_
  refine Bod.ialdN li rfl (by omega) (by omega) dc_338_95 (mk_68 _) ?_
  refine Bod.eqI (nI e68) (by first | assumption | rfl | exact congrArg nI (by omega) | (simp (disch := omega) only [rI, rIe, rA, rIA, rLA, rJA, rVI, rQI, rVA, rQA, upd_at,  rAI, rLI, rJI, nI_add, pk_sub, kc_0, kc_1, kc_2, kc_3, kc_4, kc_5, reduceIte, Nat.reduceEqDiff, Nat.add_zero, rI_hold, rI_hold, rL_hold, he67, he68]; done)) ?_
  refine Bod.bip 7 (by decide) dc_338_96 ?_
  refine Bod.icT dc_338_98 rfl (k2_ne_T (k_ne e68 7 rfl rfl (by omega) (by omega) (by omega))) ?_
  refine Bod.aldnG dc_338_129 (by repeat (first | exact q0 | exact sm_get_p1 | exact sm_get_p2e | refine sm_get_p1m (by decide) (by decide) ?_ | refine sm_get_p1n (by decide) rfl ?_ | refine sm_get_p2n (by decide) (by decide) rfl ?_)) ?_
  refine Bod.get dc_338_130 fr_338_129 (mk_61 _) rfl ?_
  refine Bod.ildnG dc_338_133 (by repeat (first | exact q3 | exact sm_get_p1 | exact sm_get_p2e | refine sm_get_p1m (by decide) (by decide) ?_ | refine sm_get_p1n (by decide) rfl ?_ | refine sm_get_p2n (by decide) (by decide) rfl ?_)) ?_
  refine Bod.ialdN li rfl (by omega) (by omega) dc_338_134 (mk_67 _) ?_
  refine Bod.eqI (nI e67) (by first | assumption | rfl | exact congrArg nI (by omega) | (simp (disch := omega) only [rI, rIe, rA, rIA, rLA, rJA, rVI, rQI, rVA, rQA, upd_at,  rAI, rLI, rJI, nI_add, pk_sub, kc_0, kc_1, kc_2, kc_3, kc_4, kc_5, reduceIte, Nat.reduceEqDiff, Nat.add_zero, rI_hold, rI_hold, rL_hold, he67, he68]; done)) ?_
  refine Bod.ic 2 (by decide) dc_338_135 ?_
  refine Bod.icF dc_338_136 rfl (k2_ne_F (k_eq e67 2 rfl rfl (by omega))) ?_
  refine Bod.ildG dc_338_139 (by repeat (first | exact q5 | exact sm_get_p1 | exact sm_get_p2e | refine sm_get_p1m (by decide) (by decide) ?_ | refine sm_get_p1n (by decide) rfl ?_ | refine sm_get_p2n (by decide) (by decide) rfl ?_)) ?_
  refine Bod.ifF dc_338_141 rfl (k1_eq_F (k_ne lq 0 rfl rfl (by omega) (by omega) (by omega))) ?_
  refine Bod.aldnG dc_338_144 (by repeat (first | exact q0 | exact sm_get_p1 | exact sm_get_p2e | refine sm_get_p1m (by decide) (by decide) ?_ | refine sm_get_p1n (by decide) rfl ?_ | refine sm_get_p2n (by decide) (by decide) rfl ?_)) ?_
  refine Bod.get dc_338_145 fr_338_135 (mk_61 _) rfl ?_
  refine Bod.ildnG dc_338_148 (by repeat (first | exact q3 | exact sm_get_p1 | exact sm_get_p2e | refine sm_get_p1m (by decide) (by decide) ?_ | refine sm_get_p1n (by decide) rfl ?_ | refine sm_get_p2n (by decide) (by decide) rfl ?_)) ?_
  refine Bod.ialdN li rfl (by omega) (by omega) dc_338_149 (mk_68 _) ?_
  refine Bod.eqI (nI e68) (by first | assumption | rfl | exact congrArg nI (by omega) | (simp (disch := omega) only [rI, rIe, rA, rIA, rLA, rJA, rVI, rQI, rVA, rQA, upd_at,  rAI, rLI, rJI, nI_add, pk_sub, kc_0, kc_1, kc_2, kc_3, kc_4, kc_5, reduceIte, Nat.reduceEqDiff, Nat.add_zero, rI_hold, rI_hold, rL_hold, he67, he68]; done)) ?_
  refine Bod.ic 4 (by decide) dc_338_150 ?_
  refine Bod.icF dc_338_151 rfl (k2_eq_F (k_ne e68 4 rfl rfl (by omega) (by omega) (by omega))) ?_
  refine Bod.aldnG dc_338_154 (by repeat (first | exact q0 | exact sm_get_p1 | exact sm_get_p2e | refine sm_get_p1m (by decide) (by decide) ?_ | refine sm_get_p1n (by decide) rfl ?_ | refine sm_get_p2n (by decide) (by decide) rfl ?_)) ?_
  refine Bod.get dc_338_155 fr_338_135 (mk_61 _) rfl ?_
  refine Bod.ildnG dc_338_158 (by repeat (first | exact q3 | exact sm_get_p1 | exact sm_get_p2e | refine sm_get_p1m (by decide) (by decide) ?_ | refine sm_get_p1n (by decide) rfl ?_ | refine sm_get_p2n (by decide) (by decide) rfl ?_)) ?_
  refine Bod.ialdN li rfl (by omega) (by omega) dc_338_159 (mk_68 _) ?_
  refine Bod.eqI (nI e68) (by first | assumption | rfl | exact congrArg nI (by omega) | (simp (disch := omega) only [rI, rIe, rA, rIA, rLA, rJA, rVI, rQI, rVA, rQA, upd_at,  rAI, rLI, rJI, nI_add, pk_sub, kc_0, kc_1, kc_2, kc_3, kc_4, kc_5, reduceIte, Nat.reduceEqDiff, Nat.add_zero, rI_hold, rI_hold, rL_hold, he67, he68]; done)) ?_
  refine Bod.bip 15 (by decide) dc_338_160 ?_
  refine Bod.icT dc_338_162 rfl (k2_eq_T (k_eq e68 15 rfl rfl (by omega))) ?_
  refine Bod.aldnG dc_338_189 (by repeat (first | exact q0 | exact sm_get_p1 | exact sm_get_p2e | refine sm_get_p1m (by decide) (by decide) ?_ | refine sm_get_p1n (by decide) rfl ?_ | refine sm_get_p2n (by decide) (by decide) rfl ?_)) ?_
  refine Bod.aldnG dc_338_190 (by repeat (first | exact q0 | exact sm_get_p1 | exact sm_get_p2e | refine sm_get_p1m (by decide) (by decide) ?_ | refine sm_get_p1n (by decide) rfl ?_ | refine sm_get_p2n (by decide) (by decide) rfl ?_)) ?_
  refine Bod.get dc_338_191 fr_338_135 (mk_61 _) rfl ?_
  refine Bod.ildnG dc_338_194 (by repeat (first | exact q3 | exact sm_get_p1 | exact sm_get_p2e | refine sm_get_p1m (by decide) (by decide) ?_ | refine sm_get_p1n (by decide) rfl ?_ | refine sm_get_p2n (by decide) (by decide) rfl ?_)) ?_
  refine Bod.ic 1 (by decide) dc_338_195 ?_
  refine Bod.addN (li + 1) (by omega) dc_338_196 ?_
  refine Bod.ialdN (li + 1) rfl (by omega) (by omega) dc_338_197 (mk_68 _) ?_
  refine Bod.eqI (nI e681) (by first | assumption | rfl | exact congrArg nI (by omega) | (simp (disch := omega) only [rI, rIe, rA, rIA, rLA, rJA, rVI, rQI, rVA, rQA, upd_at,  rAI, rLI, rJI, nI_add, pk_sub, kc_0, kc_1, kc_2, kc_3, kc_4, kc_5, reduceIte, Nat.reduceEqDiff, Nat.add_zero, rI_hold, rI_hold, rL_hold, he67, he68, he681]; done)) ?_
  refine Bod.virt (r := []) dc_338_198 kr_338_356 ⟨Or.inl rfl, ow_339, cl_14⟩ (by rw [np_339]; rfl) (by rw [np_339]; rfl) (ob_of (mk_61 _)) (Nat.le_of_ble_eq_true rfl) (c1  ) ?_
  show Bod _ _ _ _ [] _ _ _
  refine Bod.go dc_338_201 rfl ?_
  exact hB _ (by repeat (first | exact q0 | exact sm_get_p1 | exact sm_get_p2e | refine sm_get_p1m (by decide) (by decide) ?_ | refine sm_get_p1n (by decide) rfl ?_ | refine sm_get_p2n (by decide) (by decide) rfl ?_)) (by repeat (first | exact q1 | exact sm_get_p1 | exact sm_get_p2e | refine sm_get_p1m (by decide) (by decide) ?_ | refine sm_get_p1n (by decide) rfl ?_ | refine sm_get_p2n (by decide) (by decide) rfl ?_)) (by repeat (first | exact q2 | exact sm_get_p1 | exact sm_get_p2e | refine sm_get_p1m (by decide) (by decide) ?_ | refine sm_get_p1n (by decide) rfl ?_ | refine sm_get_p2n (by decide) (by decide) rfl ?_)) (by repeat (first | exact q3 | exact sm_get_p1 | exact sm_get_p2e | refine sm_get_p1m (by decide) (by decide) ?_ | refine sm_get_p1n (by decide) rfl ?_ | refine sm_get_p2n (by decide) (by decide) rfl ?_)) (by repeat (first | exact q4 | exact sm_get_p1 | exact sm_get_p2e | refine sm_get_p1m (by decide) (by decide) ?_ | refine sm_get_p1n (by decide) rfl ?_ | refine sm_get_p2n (by decide) (by decide) rfl ?_))
theorem zSw_7 {d : Nat} {S Sf : cS} {v : Option Value} {lv : sm_L} {la : Nat} {lw : Nat} {li : Nat} {lq : Nat} {e67 : Nat} {e68 : Nat} (q0 : sm_get lv 0 = some (.ref 61)) (q1 : sm_get lv 1 = some (.int (nI la))) (q2 : sm_get lv 2 = some (.int (nI lw))) (q3 : sm_get lv 3 = some (.int (nI li))) (q4 : sm_get lv 4 = some (.int (Int32.ofInt (-1)))) (q5 : sm_get lv 5 = some (.int (nI lq))) (mla : la < 2 ^ 20) (mlw : lw < 2 ^ 20) (mli : li < 2 ^ 20) (mlq : lq < 2 ^ 20) (b1 : li < 6002) (he67 : sA S 67 li = nI e67) (me67 : e67 < 2 ^ 20) (b2 : e67 = 2) (he68 : sA S 68 li = nI e68) (me68 : e68 < 2 ^ 20) (b3 : e68 ≠ 6) (b4 : e68 ≠ 7) (b5 : lq ≠ 0) (b6 : e68 ≠ 4) (b7 : e68 ≠ 15) (b8 : e68 ≠ 12) (hB : ∀ lv1 : sm_L, sm_get lv1 0 = some (.ref 61) → sm_get lv1 1 = some (.int (nI la)) → sm_get lv1 2 = some (.int (nI lw)) → sm_get lv1 3 = some (.int (nI li)) → sm_get lv1 4 = some (.int (Int32.ofInt (-1))) → Bod (d + 8) 338 204 lv1 [] (S) v Sf) : Bod (d + 8) 338 69 lv [] S v Sf := by
  refine Bod.aldnG dc_338_69 (by repeat (first | exact q0 | exact sm_get_p1 | exact sm_get_p2e | refine sm_get_p1m (by decide) (by decide) ?_ | refine sm_get_p1n (by decide) rfl ?_ | refine sm_get_p2n (by decide) (by decide) rfl ?_)) ?_
  refine Bod.get dc_338_70 fr_338_129 (mk_61 _) rfl ?_
  refine Bod.ildnG dc_338_73 (by repeat (first | exact q3 | exact sm_get_p1 | exact sm_get_p2e | refine sm_get_p1m (by decide) (by decide) ?_ | refine sm_get_p1n (by decide) rfl ?_ | refine sm_get_p2n (by decide) (by decide) rfl ?_)) ?_
  refine Bod.ialdN li rfl (by omega) (by omega) dc_338_74 (mk_67 _) ?_
  refine Bod.eqI (nI e67) (by first | assumption | rfl | exact congrArg nI (by omega) | (simp (disch := omega) only [rI, rIe, rA, rIA, rLA, rJA, rVI, rQI, rVA, rQA, upd_at,  rAI, rLI, rJI, nI_add, pk_sub, kc_0, kc_1, kc_2, kc_3, kc_4, kc_5, reduceIte, Nat.reduceEqDiff, Nat.add_zero, rI_hold, rI_hold, rL_hold, he67]; done)) ?_
  refine Bod.ic 2 (by decide) dc_338_75 ?_
  refine Bod.icF dc_338_76 rfl (k2_ne_F (k_eq e67 2 rfl rfl (by omega))) ?_
  refine Bod.aldnG dc_338_79 (by repeat (first | exact q0 | exact sm_get_p1 | exact sm_get_p2e | refine sm_get_p1m (by decide) (by decide) ?_ | refine sm_get_p1n (by decide) rfl ?_ | refine sm_get_p2n (by decide) (by decide) rfl ?_)) ?_
  refine Bod.get dc_338_80 fr_338_135 (mk_61 _) rfl ?_
  refine Bod.ildnG dc_338_83 (by repeat (first | exact q3 | exact sm_get_p1 | exact sm_get_p2e | refine sm_get_p1m (by decide) (by decide) ?_ | refine sm_get_p1n (by decide) rfl ?_ | refine sm_get_p2n (by decide) (by decide) rfl ?_)) ?_
  refine Bod.ialdN li rfl (by omega) (by omega) dc_338_84 (mk_68 _) ?_
  refine Bod.eqI (nI e68) (by first | assumption | rfl | exact congrArg nI (by omega) | (simp (disch := omega) only [rI, rIe, rA, rIA, rLA, rJA, rVI, rQI, rVA, rQA, upd_at,  rAI, rLI, rJI, nI_add, pk_sub, kc_0, kc_1, kc_2, kc_3, kc_4, kc_5, reduceIte, Nat.reduceEqDiff, Nat.add_zero, rI_hold, rI_hold, rL_hold, he67, he68]; done)) ?_
  refine Bod.bip 6 (by decide) dc_338_85 ?_
  refine Bod.icF dc_338_87 rfl (k2_eq_F (k_ne e68 6 rfl rfl (by omega) (by omega) (by omega))) ?_
  refine Bod.aldnG dc_338_90 (by repeat (first | exact q0 | exact sm_get_p1 | exact sm_get_p2e | refine sm_get_p1m (by decide) (by decide) ?_ | refine sm_get_p1n (by decide) rfl ?_ | refine sm_get_p2n (by decide) (by decide) rfl ?_)) ?_
  refine Bod.get dc_338_91 fr_338_135 (mk_61 _) rfl ?_
  refine Bod.ildnG dc_338_94 (by repeat (first | exact q3 | exact sm_get_p1 | exact sm_get_p2e | refine sm_get_p1m (by decide) (by decide) ?_ | refine sm_get_p1n (by decide) rfl ?_ | refine sm_get_p2n (by decide) (by decide) rfl ?_)) ?_
  refine Bod.ialdN li rfl (by omega) (by omega) dc_338_95 (mk_68 _) ?_
  refine Bod.eqI (nI e68) (by first | assumption | rfl | exact congrArg nI (by omega) | (simp (disch := omega) only [rI, rIe, rA, rIA, rLA, rJA, rVI, rQI, rVA, rQA, upd_at,  rAI, rLI, rJI, nI_add, pk_sub, kc_0, kc_1, kc_2, kc_3, kc_4, kc_5, reduceIte, Nat.reduceEqDiff, Nat.add_zero, rI_hold, rI_hold, rL_hold, he67, he68]; done)) ?_
  refine Bod.bip 7 (by decide) dc_338_96 ?_
  refine Bod.icT dc_338_98 rfl (k2_ne_T (k_ne e68 7 rfl rfl (by omega) (by omega) (by omega))) ?_
  refine Bod.aldnG dc_338_129 (by repeat (first | exact q0 | exact sm_get_p1 | exact sm_get_p2e | refine sm_get_p1m (by decide) (by decide) ?_ | refine sm_get_p1n (by decide) rfl ?_ | refine sm_get_p2n (by decide) (by decide) rfl ?_)) ?_
  refine Bod.get dc_338_130 fr_338_129 (mk_61 _) rfl ?_
  refine Bod.ildnG dc_338_133 (by repeat (first | exact q3 | exact sm_get_p1 | exact sm_get_p2e | refine sm_get_p1m (by decide) (by decide) ?_ | refine sm_get_p1n (by decide) rfl ?_ | refine sm_get_p2n (by decide) (by decide) rfl ?_)) ?_
  refine Bod.ialdN li rfl (by omega) (by omega) dc_338_134 (mk_67 _) ?_
  refine Bod.eqI (nI e67) (by first | assumption | rfl | exact congrArg nI (by omega) | (simp (disch := omega) only [rI, rIe, rA, rIA, rLA, rJA, rVI, rQI, rVA, rQA, upd_at,  rAI, rLI, rJI, nI_add, pk_sub, kc_0, kc_1, kc_2, kc_3, kc_4, kc_5, reduceIte, Nat.reduceEqDiff, Nat.add_zero, rI_hold, rI_hold, rL_hold, he67, he68]; done)) ?_
  refine Bod.ic 2 (by decide) dc_338_135 ?_
  refine Bod.icF dc_338_136 rfl (k2_ne_F (k_eq e67 2 rfl rfl (by omega))) ?_
  refine Bod.ildG dc_338_139 (by repeat (first | exact q5 | exact sm_get_p1 | exact sm_get_p2e | refine sm_get_p1m (by decide) (by decide) ?_ | refine sm_get_p1n (by decide) rfl ?_ | refine sm_get_p2n (by decide) (by decide) rfl ?_)) ?_
  refine Bod.ifF dc_338_141 rfl (k1_eq_F (k_ne lq 0 rfl rfl (by omega) (by omega) (by omega))) ?_
  refine Bod.aldnG dc_338_144 (by repeat (first | exact q0 | exact sm_get_p1 | exact sm_get_p2e | refine sm_get_p1m (by decide) (by decide) ?_ | refine sm_get_p1n (by decide) rfl ?_ | refine sm_get_p2n (by decide) (by decide) rfl ?_)) ?_
  refine Bod.get dc_338_145 fr_338_135 (mk_61 _) rfl ?_
  refine Bod.ildnG dc_338_148 (by repeat (first | exact q3 | exact sm_get_p1 | exact sm_get_p2e | refine sm_get_p1m (by decide) (by decide) ?_ | refine sm_get_p1n (by decide) rfl ?_ | refine sm_get_p2n (by decide) (by decide) rfl ?_)) ?_
  refine Bod.ialdN li rfl (by omega) (by omega) dc_338_149 (mk_68 _) ?_
  refine Bod.eqI (nI e68) (by first | assumption | rfl | exact congrArg nI (by omega) | (simp (disch := omega) only [rI, rIe, rA, rIA, rLA, rJA, rVI, rQI, rVA, rQA, upd_at,  rAI, rLI, rJI, nI_add, pk_sub, kc_0, kc_1, kc_2, kc_3, kc_4, kc_5, reduceIte, Nat.reduceEqDiff, Nat.add_zero, rI_hold, rI_hold, rL_hold, he67, he68]; done)) ?_
  refine Bod.ic 4 (by decide) dc_338_150 ?_
  refine Bod.icF dc_338_151 rfl (k2_eq_F (k_ne e68 4 rfl rfl (by omega) (by omega) (by omega))) ?_
  refine Bod.aldnG dc_338_154 (by repeat (first | exact q0 | exact sm_get_p1 | exact sm_get_p2e | refine sm_get_p1m (by decide) (by decide) ?_ | refine sm_get_p1n (by decide) rfl ?_ | refine sm_get_p2n (by decide) (by decide) rfl ?_)) ?_
  refine Bod.get dc_338_155 fr_338_135 (mk_61 _) rfl ?_
  refine Bod.ildnG dc_338_158 (by repeat (first | exact q3 | exact sm_get_p1 | exact sm_get_p2e | refine sm_get_p1m (by decide) (by decide) ?_ | refine sm_get_p1n (by decide) rfl ?_ | refine sm_get_p2n (by decide) (by decide) rfl ?_)) ?_
  refine Bod.ialdN li rfl (by omega) (by omega) dc_338_159 (mk_68 _) ?_
  refine Bod.eqI (nI e68) (by first | assumption | rfl | exact congrArg nI (by omega) | (simp (disch := omega) only [rI, rIe, rA, rIA, rLA, rJA, rVI, rQI, rVA, rQA, upd_at,  rAI, rLI, rJI, nI_add, pk_sub, kc_0, kc_1, kc_2, kc_3, kc_4, kc_5, reduceIte, Nat.reduceEqDiff, Nat.add_zero, rI_hold, rI_hold, rL_hold, he67, he68]; done)) ?_
  refine Bod.bip 15 (by decide) dc_338_160 ?_
  refine Bod.icF dc_338_162 rfl (k2_eq_F (k_ne e68 15 rfl rfl (by omega) (by omega) (by omega))) ?_
  refine Bod.aldnG dc_338_165 (by repeat (first | exact q0 | exact sm_get_p1 | exact sm_get_p2e | refine sm_get_p1m (by decide) (by decide) ?_ | refine sm_get_p1n (by decide) rfl ?_ | refine sm_get_p2n (by decide) (by decide) rfl ?_)) ?_
  refine Bod.get dc_338_166 fr_338_135 (mk_61 _) rfl ?_
  refine Bod.ildnG dc_338_169 (by repeat (first | exact q3 | exact sm_get_p1 | exact sm_get_p2e | refine sm_get_p1m (by decide) (by decide) ?_ | refine sm_get_p1n (by decide) rfl ?_ | refine sm_get_p2n (by decide) (by decide) rfl ?_)) ?_
  refine Bod.ialdN li rfl (by omega) (by omega) dc_338_170 (mk_68 _) ?_
  refine Bod.eqI (nI e68) (by first | assumption | rfl | exact congrArg nI (by omega) | (simp (disch := omega) only [rI, rIe, rA, rIA, rLA, rJA, rVI, rQI, rVA, rQA, upd_at,  rAI, rLI, rJI, nI_add, pk_sub, kc_0, kc_1, kc_2, kc_3, kc_4, kc_5, reduceIte, Nat.reduceEqDiff, Nat.add_zero, rI_hold, rI_hold, rL_hold, he67, he68]; done)) ?_
  refine Bod.bip 12 (by decide) dc_338_171 ?_
  refine Bod.icT dc_338_173 rfl (k2_ne_T (k_ne e68 12 rfl rfl (by omega) (by omega) (by omega))) ?_
  exact hB _ (by repeat (first | exact q0 | exact sm_get_p1 | exact sm_get_p2e | refine sm_get_p1m (by decide) (by decide) ?_ | refine sm_get_p1n (by decide) rfl ?_ | refine sm_get_p2n (by decide) (by decide) rfl ?_)) (by repeat (first | exact q1 | exact sm_get_p1 | exact sm_get_p2e | refine sm_get_p1m (by decide) (by decide) ?_ | refine sm_get_p1n (by decide) rfl ?_ | refine sm_get_p2n (by decide) (by decide) rfl ?_)) (by repeat (first | exact q2 | exact sm_get_p1 | exact sm_get_p2e | refine sm_get_p1m (by decide) (by decide) ?_ | refine sm_get_p1n (by decide) rfl ?_ | refine sm_get_p2n (by decide) (by decide) rfl ?_)) (by repeat (first | exact q3 | exact sm_get_p1 | exact sm_get_p2e | refine sm_get_p1m (by decide) (by decide) ?_ | refine sm_get_p1n (by decide) rfl ?_ | refine sm_get_p2n (by decide) (by decide) rfl ?_)) (by repeat (first | exact q4 | exact sm_get_p1 | exact sm_get_p2e | refine sm_get_p1m (by decide) (by decide) ?_ | refine sm_get_p1n (by decide) rfl ?_ | refine sm_get_p2n (by decide) (by decide) rfl ?_))
theorem zSw_8 {d : Nat} {S Sf : cS} {v : Option Value} {lv : sm_L} {la : Nat} {lw : Nat} {li : Nat} {lq : Nat} {e67 : Nat} {e68 : Nat} {e671 : Nat} (q0 : sm_get lv 0 = some (.ref 61)) (q1 : sm_get lv 1 = some (.int (nI la))) (q2 : sm_get lv 2 = some (.int (nI lw))) (q3 : sm_get lv 3 = some (.int (nI li))) (q4 : sm_get lv 4 = some (.int (Int32.ofInt (-1)))) (q5 : sm_get lv 5 = some (.int (nI lq))) (mla : la < 2 ^ 20) (mlw : lw < 2 ^ 20) (mli : li < 2 ^ 20) (mlq : lq < 2 ^ 20) (b1 : li < 6002) (he67 : sA S 67 li = nI e67) (me67 : e67 < 2 ^ 20) (b2 : e67 = 2) (he68 : sA S 68 li = nI e68) (me68 : e68 < 2 ^ 20) (b3 : e68 ≠ 6) (b4 : e68 ≠ 7) (b5 : lq ≠ 0) (b6 : e68 ≠ 4) (b7 : e68 ≠ 15) (b8 : e68 = 12) (b9 : li + 2 < 6002) (he671 : sA S 67 (li + 2) = nI e671) (me671 : e671 < 2 ^ 20) (b10 : e671 ≠ 6) (hB : ∀ lv1 : sm_L, sm_get lv1 0 = some (.ref 61) → sm_get lv1 1 = some (.int (nI la)) → sm_get lv1 2 = some (.int (nI lw)) → sm_get lv1 3 = some (.int (nI li)) → sm_get lv1 4 = some (.int (Int32.ofInt (-1))) → Bod (d + 8) 338 204 lv1 [] (S) v Sf) : Bod (d + 8) 338 69 lv [] S v Sf := by
  refine Bod.aldnG dc_338_69 (by repeat (first | exact q0 | exact sm_get_p1 | exact sm_get_p2e | refine sm_get_p1m (by decide) (by decide) ?_ | refine sm_get_p1n (by decide) rfl ?_ | refine sm_get_p2n (by decide) (by decide) rfl ?_)) ?_
  refine Bod.get dc_338_70 fr_338_129 (mk_61 _) rfl ?_
  refine Bod.ildnG dc_338_73 (by repeat (first | exact q3 | exact sm_get_p1 | exact sm_get_p2e | refine sm_get_p1m (by decide) (by decide) ?_ | refine sm_get_p1n (by decide) rfl ?_ | refine sm_get_p2n (by decide) (by decide) rfl ?_)) ?_
  refine Bod.ialdN li rfl (by omega) (by omega) dc_338_74 (mk_67 _) ?_
  refine Bod.eqI (nI e67) (by first | assumption | rfl | exact congrArg nI (by omega) | (simp (disch := omega) only [rI, rIe, rA, rIA, rLA, rJA, rVI, rQI, rVA, rQA, upd_at,  rAI, rLI, rJI, nI_add, pk_sub, kc_0, kc_1, kc_2, kc_3, kc_4, kc_5, reduceIte, Nat.reduceEqDiff, Nat.add_zero, rI_hold, rI_hold, rL_hold, he67]; done)) ?_
  refine Bod.ic 2 (by decide) dc_338_75 ?_
  refine Bod.icF dc_338_76 rfl (k2_ne_F (k_eq e67 2 rfl rfl (by omega))) ?_
  refine Bod.aldnG dc_338_79 (by repeat (first | exact q0 | exact sm_get_p1 | exact sm_get_p2e | refine sm_get_p1m (by decide) (by decide) ?_ | refine sm_get_p1n (by decide) rfl ?_ | refine sm_get_p2n (by decide) (by decide) rfl ?_)) ?_
  refine Bod.get dc_338_80 fr_338_135 (mk_61 _) rfl ?_
  refine Bod.ildnG dc_338_83 (by repeat (first | exact q3 | exact sm_get_p1 | exact sm_get_p2e | refine sm_get_p1m (by decide) (by decide) ?_ | refine sm_get_p1n (by decide) rfl ?_ | refine sm_get_p2n (by decide) (by decide) rfl ?_)) ?_
  refine Bod.ialdN li rfl (by omega) (by omega) dc_338_84 (mk_68 _) ?_
  refine Bod.eqI (nI e68) (by first | assumption | rfl | exact congrArg nI (by omega) | (simp (disch := omega) only [rI, rIe, rA, rIA, rLA, rJA, rVI, rQI, rVA, rQA, upd_at,  rAI, rLI, rJI, nI_add, pk_sub, kc_0, kc_1, kc_2, kc_3, kc_4, kc_5, reduceIte, Nat.reduceEqDiff, Nat.add_zero, rI_hold, rI_hold, rL_hold, he67, he68]; done)) ?_
  refine Bod.bip 6 (by decide) dc_338_85 ?_
  refine Bod.icF dc_338_87 rfl (k2_eq_F (k_ne e68 6 rfl rfl (by omega) (by omega) (by omega))) ?_
  refine Bod.aldnG dc_338_90 (by repeat (first | exact q0 | exact sm_get_p1 | exact sm_get_p2e | refine sm_get_p1m (by decide) (by decide) ?_ | refine sm_get_p1n (by decide) rfl ?_ | refine sm_get_p2n (by decide) (by decide) rfl ?_)) ?_
  refine Bod.get dc_338_91 fr_338_135 (mk_61 _) rfl ?_
  refine Bod.ildnG dc_338_94 (by repeat (first | exact q3 | exact sm_get_p1 | exact sm_get_p2e | refine sm_get_p1m (by decide) (by decide) ?_ | refine sm_get_p1n (by decide) rfl ?_ | refine sm_get_p2n (by decide) (by decide) rfl ?_)) ?_
  refine Bod.ialdN li rfl (by omega) (by omega) dc_338_95 (mk_68 _) ?_
  refine Bod.eqI (nI e68) (by first | assumption | rfl | exact congrArg nI (by omega) | (simp (disch := omega) only [rI, rIe, rA, rIA, rLA, rJA, rVI, rQI, rVA, rQA, upd_at,  rAI, rLI, rJI, nI_add, pk_sub, kc_0, kc_1, kc_2, kc_3, kc_4, kc_5, reduceIte, Nat.reduceEqDiff, Nat.add_zero, rI_hold, rI_hold, rL_hold, he67, he68]; done)) ?_
  refine Bod.bip 7 (by decide) dc_338_96 ?_
  refine Bod.icT dc_338_98 rfl (k2_ne_T (k_ne e68 7 rfl rfl (by omega) (by omega) (by omega))) ?_
  refine Bod.aldnG dc_338_129 (by repeat (first | exact q0 | exact sm_get_p1 | exact sm_get_p2e | refine sm_get_p1m (by decide) (by decide) ?_ | refine sm_get_p1n (by decide) rfl ?_ | refine sm_get_p2n (by decide) (by decide) rfl ?_)) ?_
  refine Bod.get dc_338_130 fr_338_129 (mk_61 _) rfl ?_
  refine Bod.ildnG dc_338_133 (by repeat (first | exact q3 | exact sm_get_p1 | exact sm_get_p2e | refine sm_get_p1m (by decide) (by decide) ?_ | refine sm_get_p1n (by decide) rfl ?_ | refine sm_get_p2n (by decide) (by decide) rfl ?_)) ?_
  refine Bod.ialdN li rfl (by omega) (by omega) dc_338_134 (mk_67 _) ?_
  refine Bod.eqI (nI e67) (by first | assumption | rfl | exact congrArg nI (by omega) | (simp (disch := omega) only [rI, rIe, rA, rIA, rLA, rJA, rVI, rQI, rVA, rQA, upd_at,  rAI, rLI, rJI, nI_add, pk_sub, kc_0, kc_1, kc_2, kc_3, kc_4, kc_5, reduceIte, Nat.reduceEqDiff, Nat.add_zero, rI_hold, rI_hold, rL_hold, he67, he68]; done)) ?_
  refine Bod.ic 2 (by decide) dc_338_135 ?_
  refine Bod.icF dc_338_136 rfl (k2_ne_F (k_eq e67 2 rfl rfl (by omega))) ?_
  refine Bod.ildG dc_338_139 (by repeat (first | exact q5 | exact sm_get_p1 | exact sm_get_p2e | refine sm_get_p1m (by decide) (by decide) ?_ | refine sm_get_p1n (by decide) rfl ?_ | refine sm_get_p2n (by decide) (by decide) rfl ?_)) ?_
  refine Bod.ifF dc_338_141 rfl (k1_eq_F (k_ne lq 0 rfl rfl (by omega) (by omega) (by omega))) ?_
  refine Bod.aldnG dc_338_144 (by repeat (first | exact q0 | exact sm_get_p1 | exact sm_get_p2e | refine sm_get_p1m (by decide) (by decide) ?_ | refine sm_get_p1n (by decide) rfl ?_ | refine sm_get_p2n (by decide) (by decide) rfl ?_)) ?_
  refine Bod.get dc_338_145 fr_338_135 (mk_61 _) rfl ?_
  refine Bod.ildnG dc_338_148 (by repeat (first | exact q3 | exact sm_get_p1 | exact sm_get_p2e | refine sm_get_p1m (by decide) (by decide) ?_ | refine sm_get_p1n (by decide) rfl ?_ | refine sm_get_p2n (by decide) (by decide) rfl ?_)) ?_
  refine Bod.ialdN li rfl (by omega) (by omega) dc_338_149 (mk_68 _) ?_
  refine Bod.eqI (nI e68) (by first | assumption | rfl | exact congrArg nI (by omega) | (simp (disch := omega) only [rI, rIe, rA, rIA, rLA, rJA, rVI, rQI, rVA, rQA, upd_at,  rAI, rLI, rJI, nI_add, pk_sub, kc_0, kc_1, kc_2, kc_3, kc_4, kc_5, reduceIte, Nat.reduceEqDiff, Nat.add_zero, rI_hold, rI_hold, rL_hold, he67, he68]; done)) ?_
  refine Bod.ic 4 (by decide) dc_338_150 ?_
  refine Bod.icF dc_338_151 rfl (k2_eq_F (k_ne e68 4 rfl rfl (by omega) (by omega) (by omega))) ?_
  refine Bod.aldnG dc_338_154 (by repeat (first | exact q0 | exact sm_get_p1 | exact sm_get_p2e | refine sm_get_p1m (by decide) (by decide) ?_ | refine sm_get_p1n (by decide) rfl ?_ | refine sm_get_p2n (by decide) (by decide) rfl ?_)) ?_
  refine Bod.get dc_338_155 fr_338_135 (mk_61 _) rfl ?_
  refine Bod.ildnG dc_338_158 (by repeat (first | exact q3 | exact sm_get_p1 | exact sm_get_p2e | refine sm_get_p1m (by decide) (by decide) ?_ | refine sm_get_p1n (by decide) rfl ?_ | refine sm_get_p2n (by decide) (by decide) rfl ?_)) ?_
  refine Bod.ialdN li rfl (by omega) (by omega) dc_338_159 (mk_68 _) ?_
  refine Bod.eqI (nI e68) (by first | assumption | rfl | exact congrArg nI (by omega) | (simp (disch := omega) only [rI, rIe, rA, rIA, rLA, rJA, rVI, rQI, rVA, rQA, upd_at,  rAI, rLI, rJI, nI_add, pk_sub, kc_0, kc_1, kc_2, kc_3, kc_4, kc_5, reduceIte, Nat.reduceEqDiff, Nat.add_zero, rI_hold, rI_hold, rL_hold, he67, he68]; done)) ?_
  refine Bod.bip 15 (by decide) dc_338_160 ?_
  refine Bod.icF dc_338_162 rfl (k2_eq_F (k_ne e68 15 rfl rfl (by omega) (by omega) (by omega))) ?_
  refine Bod.aldnG dc_338_165 (by repeat (first | exact q0 | exact sm_get_p1 | exact sm_get_p2e | refine sm_get_p1m (by decide) (by decide) ?_ | refine sm_get_p1n (by decide) rfl ?_ | refine sm_get_p2n (by decide) (by decide) rfl ?_)) ?_
  refine Bod.get dc_338_166 fr_338_135 (mk_61 _) rfl ?_
  refine Bod.ildnG dc_338_169 (by repeat (first | exact q3 | exact sm_get_p1 | exact sm_get_p2e | refine sm_get_p1m (by decide) (by decide) ?_ | refine sm_get_p1n (by decide) rfl ?_ | refine sm_get_p2n (by decide) (by decide) rfl ?_)) ?_
  refine Bod.ialdN li rfl (by omega) (by omega) dc_338_170 (mk_68 _) ?_
  refine Bod.eqI (nI e68) (by first | assumption | rfl | exact congrArg nI (by omega) | (simp (disch := omega) only [rI, rIe, rA, rIA, rLA, rJA, rVI, rQI, rVA, rQA, upd_at,  rAI, rLI, rJI, nI_add, pk_sub, kc_0, kc_1, kc_2, kc_3, kc_4, kc_5, reduceIte, Nat.reduceEqDiff, Nat.add_zero, rI_hold, rI_hold, rL_hold, he67, he68]; done)) ?_
  refine Bod.bip 12 (by decide) dc_338_171 ?_
  refine Bod.icF dc_338_173 rfl (k2_ne_F (k_eq e68 12 rfl rfl (by omega))) ?_
  refine Bod.aldnG dc_338_176 (by repeat (first | exact q0 | exact sm_get_p1 | exact sm_get_p2e | refine sm_get_p1m (by decide) (by decide) ?_ | refine sm_get_p1n (by decide) rfl ?_ | refine sm_get_p2n (by decide) (by decide) rfl ?_)) ?_
  refine Bod.get dc_338_177 fr_338_129 (mk_61 _) rfl ?_
  refine Bod.ildnG dc_338_180 (by repeat (first | exact q3 | exact sm_get_p1 | exact sm_get_p2e | refine sm_get_p1m (by decide) (by decide) ?_ | refine sm_get_p1n (by decide) rfl ?_ | refine sm_get_p2n (by decide) (by decide) rfl ?_)) ?_
  refine Bod.ic 2 (by decide) dc_338_181 ?_
  refine Bod.addN (li + 2) (by omega) dc_338_182 ?_
  refine Bod.ialdN (li + 2) rfl (by omega) (by omega) dc_338_183 (mk_67 _) ?_
  refine Bod.eqI (nI e671) (by first | assumption | rfl | exact congrArg nI (by omega) | (simp (disch := omega) only [rI, rIe, rA, rIA, rLA, rJA, rVI, rQI, rVA, rQA, upd_at,  rAI, rLI, rJI, nI_add, pk_sub, kc_0, kc_1, kc_2, kc_3, kc_4, kc_5, reduceIte, Nat.reduceEqDiff, Nat.add_zero, rI_hold, rI_hold, rL_hold, he67, he68, he671]; done)) ?_
  refine Bod.bip 6 (by decide) dc_338_184 ?_
  refine Bod.icT dc_338_186 rfl (k2_ne_T (k_ne e671 6 rfl rfl (by omega) (by omega) (by omega))) ?_
  exact hB _ (by repeat (first | exact q0 | exact sm_get_p1 | exact sm_get_p2e | refine sm_get_p1m (by decide) (by decide) ?_ | refine sm_get_p1n (by decide) rfl ?_ | refine sm_get_p2n (by decide) (by decide) rfl ?_)) (by repeat (first | exact q1 | exact sm_get_p1 | exact sm_get_p2e | refine sm_get_p1m (by decide) (by decide) ?_ | refine sm_get_p1n (by decide) rfl ?_ | refine sm_get_p2n (by decide) (by decide) rfl ?_)) (by repeat (first | exact q2 | exact sm_get_p1 | exact sm_get_p2e | refine sm_get_p1m (by decide) (by decide) ?_ | refine sm_get_p1n (by decide) rfl ?_ | refine sm_get_p2n (by decide) (by decide) rfl ?_)) (by repeat (first | exact q3 | exact sm_get_p1 | exact sm_get_p2e | refine sm_get_p1m (by decide) (by decide) ?_ | refine sm_get_p1n (by decide) rfl ?_ | refine sm_get_p2n (by decide) (by decide) rfl ?_)) (by repeat (first | exact q4 | exact sm_get_p1 | exact sm_get_p2e | refine sm_get_p1m (by decide) (by decide) ?_ | refine sm_get_p1n (by decide) rfl ?_ | refine sm_get_p2n (by decide) (by decide) rfl ?_))
theorem zSw_9 {d : Nat} {S Sf : cS} {v : Option Value} {lv : sm_L} {la : Nat} {lw : Nat} {li : Nat} {lq : Nat} {e67 : Nat} {e68 : Nat} {e671 : Nat} {e681 : Nat} {S1 : cS} (q0 : sm_get lv 0 = some (.ref 61)) (q1 : sm_get lv 1 = some (.int (nI la))) (q2 : sm_get lv 2 = some (.int (nI lw))) (q3 : sm_get lv 3 = some (.int (nI li))) (q4 : sm_get lv 4 = some (.int (Int32.ofInt (-1)))) (q5 : sm_get lv 5 = some (.int (nI lq))) (mla : la < 2 ^ 20) (mlw : lw < 2 ^ 20) (mli : li < 2 ^ 20) (mlq : lq < 2 ^ 20) (b1 : li < 6002) (he67 : sA S 67 li = nI e67) (me67 : e67 < 2 ^ 20) (b2 : e67 = 2) (he68 : sA S 68 li = nI e68) (me68 : e68 < 2 ^ 20) (b3 : e68 ≠ 6) (b4 : e68 ≠ 7) (b5 : lq ≠ 0) (b6 : e68 ≠ 4) (b7 : e68 ≠ 15) (b8 : e68 = 12) (b9 : li + 2 < 6002) (he671 : sA S 67 (li + 2) = nI e671) (me671 : e671 < 2 ^ 20) (b10 : e671 = 6) (b11 : li + 1 < 6002) (he681 : sA S 68 (li + 1) = nI e681) (me681 : e681 < 2 ^ 20) (c1 : Ans (d + 8) 339 [.ref 61, .int (nI e681)] S none S1) (hB : ∀ lv1 : sm_L, sm_get lv1 0 = some (.ref 61) → sm_get lv1 1 = some (.int (nI la)) → sm_get lv1 2 = some (.int (nI lw)) → sm_get lv1 3 = some (.int (nI li)) → sm_get lv1 4 = some (.int (Int32.ofInt (-1))) → Bod (d + 8) 338 331 lv1 [] (S1) v Sf) : Bod (d + 8) 338 69 lv [] S v Sf := by
  refine Bod.aldnG dc_338_69 (by repeat (first | exact q0 | exact sm_get_p1 | exact sm_get_p2e | refine sm_get_p1m (by decide) (by decide) ?_ | refine sm_get_p1n (by decide) rfl ?_ | refine sm_get_p2n (by decide) (by decide) rfl ?_)) ?_
  refine Bod.get dc_338_70 fr_338_129 (mk_61 _) rfl ?_
  refine Bod.ildnG dc_338_73 (by repeat (first | exact q3 | exact sm_get_p1 | exact sm_get_p2e | refine sm_get_p1m (by decide) (by decide) ?_ | refine sm_get_p1n (by decide) rfl ?_ | refine sm_get_p2n (by decide) (by decide) rfl ?_)) ?_
  refine Bod.ialdN li rfl (by omega) (by omega) dc_338_74 (mk_67 _) ?_
  refine Bod.eqI (nI e67) (by first | assumption | rfl | exact congrArg nI (by omega) | (simp (disch := omega) only [rI, rIe, rA, rIA, rLA, rJA, rVI, rQI, rVA, rQA, upd_at,  rAI, rLI, rJI, nI_add, pk_sub, kc_0, kc_1, kc_2, kc_3, kc_4, kc_5, reduceIte, Nat.reduceEqDiff, Nat.add_zero, rI_hold, rI_hold, rL_hold, he67]; done)) ?_
  refine Bod.ic 2 (by decide) dc_338_75 ?_
  refine Bod.icF dc_338_76 rfl (k2_ne_F (k_eq e67 2 rfl rfl (by omega))) ?_
  refine Bod.aldnG dc_338_79 (by repeat (first | exact q0 | exact sm_get_p1 | exact sm_get_p2e | refine sm_get_p1m (by decide) (by decide) ?_ | refine sm_get_p1n (by decide) rfl ?_ | refine sm_get_p2n (by decide) (by decide) rfl ?_)) ?_
  refine Bod.get dc_338_80 fr_338_135 (mk_61 _) rfl ?_
  refine Bod.ildnG dc_338_83 (by repeat (first | exact q3 | exact sm_get_p1 | exact sm_get_p2e | refine sm_get_p1m (by decide) (by decide) ?_ | refine sm_get_p1n (by decide) rfl ?_ | refine sm_get_p2n (by decide) (by decide) rfl ?_)) ?_
  refine Bod.ialdN li rfl (by omega) (by omega) dc_338_84 (mk_68 _) ?_
  refine Bod.eqI (nI e68) (by first | assumption | rfl | exact congrArg nI (by omega) | (simp (disch := omega) only [rI, rIe, rA, rIA, rLA, rJA, rVI, rQI, rVA, rQA, upd_at,  rAI, rLI, rJI, nI_add, pk_sub, kc_0, kc_1, kc_2, kc_3, kc_4, kc_5, reduceIte, Nat.reduceEqDiff, Nat.add_zero, rI_hold, rI_hold, rL_hold, he67, he68]; done)) ?_
  refine Bod.bip 6 (by decide) dc_338_85 ?_
  refine Bod.icF dc_338_87 rfl (k2_eq_F (k_ne e68 6 rfl rfl (by omega) (by omega) (by omega))) ?_
  refine Bod.aldnG dc_338_90 (by repeat (first | exact q0 | exact sm_get_p1 | exact sm_get_p2e | refine sm_get_p1m (by decide) (by decide) ?_ | refine sm_get_p1n (by decide) rfl ?_ | refine sm_get_p2n (by decide) (by decide) rfl ?_)) ?_
  refine Bod.get dc_338_91 fr_338_135 (mk_61 _) rfl ?_
  refine Bod.ildnG dc_338_94 (by repeat (first | exact q3 | exact sm_get_p1 | exact sm_get_p2e | refine sm_get_p1m (by decide) (by decide) ?_ | refine sm_get_p1n (by decide) rfl ?_ | refine sm_get_p2n (by decide) (by decide) rfl ?_)) ?_
  refine Bod.ialdN li rfl (by omega) (by omega) dc_338_95 (mk_68 _) ?_
  refine Bod.eqI (nI e68) (by first | assumption | rfl | exact congrArg nI (by omega) | (simp (disch := omega) only [rI, rIe, rA, rIA, rLA, rJA, rVI, rQI, rVA, rQA, upd_at,  rAI, rLI, rJI, nI_add, pk_sub, kc_0, kc_1, kc_2, kc_3, kc_4, kc_5, reduceIte, Nat.reduceEqDiff, Nat.add_zero, rI_hold, rI_hold, rL_hold, he67, he68]; done)) ?_
  refine Bod.bip 7 (by decide) dc_338_96 ?_
  refine Bod.icT dc_338_98 rfl (k2_ne_T (k_ne e68 7 rfl rfl (by omega) (by omega) (by omega))) ?_
  refine Bod.aldnG dc_338_129 (by repeat (first | exact q0 | exact sm_get_p1 | exact sm_get_p2e | refine sm_get_p1m (by decide) (by decide) ?_ | refine sm_get_p1n (by decide) rfl ?_ | refine sm_get_p2n (by decide) (by decide) rfl ?_)) ?_
  refine Bod.get dc_338_130 fr_338_129 (mk_61 _) rfl ?_
  refine Bod.ildnG dc_338_133 (by repeat (first | exact q3 | exact sm_get_p1 | exact sm_get_p2e | refine sm_get_p1m (by decide) (by decide) ?_ | refine sm_get_p1n (by decide) rfl ?_ | refine sm_get_p2n (by decide) (by decide) rfl ?_)) ?_
  refine Bod.ialdN li rfl (by omega) (by omega) dc_338_134 (mk_67 _) ?_
  refine Bod.eqI (nI e67) (by first | assumption | rfl | exact congrArg nI (by omega) | (simp (disch := omega) only [rI, rIe, rA, rIA, rLA, rJA, rVI, rQI, rVA, rQA, upd_at,  rAI, rLI, rJI, nI_add, pk_sub, kc_0, kc_1, kc_2, kc_3, kc_4, kc_5, reduceIte, Nat.reduceEqDiff, Nat.add_zero, rI_hold, rI_hold, rL_hold, he67, he68]; done)) ?_
  refine Bod.ic 2 (by decide) dc_338_135 ?_
  refine Bod.icF dc_338_136 rfl (k2_ne_F (k_eq e67 2 rfl rfl (by omega))) ?_
  refine Bod.ildG dc_338_139 (by repeat (first | exact q5 | exact sm_get_p1 | exact sm_get_p2e | refine sm_get_p1m (by decide) (by decide) ?_ | refine sm_get_p1n (by decide) rfl ?_ | refine sm_get_p2n (by decide) (by decide) rfl ?_)) ?_
  refine Bod.ifF dc_338_141 rfl (k1_eq_F (k_ne lq 0 rfl rfl (by omega) (by omega) (by omega))) ?_
  refine Bod.aldnG dc_338_144 (by repeat (first | exact q0 | exact sm_get_p1 | exact sm_get_p2e | refine sm_get_p1m (by decide) (by decide) ?_ | refine sm_get_p1n (by decide) rfl ?_ | refine sm_get_p2n (by decide) (by decide) rfl ?_)) ?_
  refine Bod.get dc_338_145 fr_338_135 (mk_61 _) rfl ?_
  refine Bod.ildnG dc_338_148 (by repeat (first | exact q3 | exact sm_get_p1 | exact sm_get_p2e | refine sm_get_p1m (by decide) (by decide) ?_ | refine sm_get_p1n (by decide) rfl ?_ | refine sm_get_p2n (by decide) (by decide) rfl ?_)) ?_
  refine Bod.ialdN li rfl (by omega) (by omega) dc_338_149 (mk_68 _) ?_
  refine Bod.eqI (nI e68) (by first | assumption | rfl | exact congrArg nI (by omega) | (simp (disch := omega) only [rI, rIe, rA, rIA, rLA, rJA, rVI, rQI, rVA, rQA, upd_at,  rAI, rLI, rJI, nI_add, pk_sub, kc_0, kc_1, kc_2, kc_3, kc_4, kc_5, reduceIte, Nat.reduceEqDiff, Nat.add_zero, rI_hold, rI_hold, rL_hold, he67, he68]; done)) ?_
  refine Bod.ic 4 (by decide) dc_338_150 ?_
  refine Bod.icF dc_338_151 rfl (k2_eq_F (k_ne e68 4 rfl rfl (by omega) (by omega) (by omega))) ?_
  refine Bod.aldnG dc_338_154 (by repeat (first | exact q0 | exact sm_get_p1 | exact sm_get_p2e | refine sm_get_p1m (by decide) (by decide) ?_ | refine sm_get_p1n (by decide) rfl ?_ | refine sm_get_p2n (by decide) (by decide) rfl ?_)) ?_
  refine Bod.get dc_338_155 fr_338_135 (mk_61 _) rfl ?_
  refine Bod.ildnG dc_338_158 (by repeat (first | exact q3 | exact sm_get_p1 | exact sm_get_p2e | refine sm_get_p1m (by decide) (by decide) ?_ | refine sm_get_p1n (by decide) rfl ?_ | refine sm_get_p2n (by decide) (by decide) rfl ?_)) ?_
  refine Bod.ialdN li rfl (by omega) (by omega) dc_338_159 (mk_68 _) ?_
  refine Bod.eqI (nI e68) (by first | assumption | rfl | exact congrArg nI (by omega) | (simp (disch := omega) only [rI, rIe, rA, rIA, rLA, rJA, rVI, rQI, rVA, rQA, upd_at,  rAI, rLI, rJI, nI_add, pk_sub, kc_0, kc_1, kc_2, kc_3, kc_4, kc_5, reduceIte, Nat.reduceEqDiff, Nat.add_zero, rI_hold, rI_hold, rL_hold, he67, he68]; done)) ?_
  refine Bod.bip 15 (by decide) dc_338_160 ?_
  refine Bod.icF dc_338_162 rfl (k2_eq_F (k_ne e68 15 rfl rfl (by omega) (by omega) (by omega))) ?_
  refine Bod.aldnG dc_338_165 (by repeat (first | exact q0 | exact sm_get_p1 | exact sm_get_p2e | refine sm_get_p1m (by decide) (by decide) ?_ | refine sm_get_p1n (by decide) rfl ?_ | refine sm_get_p2n (by decide) (by decide) rfl ?_)) ?_
  refine Bod.get dc_338_166 fr_338_135 (mk_61 _) rfl ?_
  refine Bod.ildnG dc_338_169 (by repeat (first | exact q3 | exact sm_get_p1 | exact sm_get_p2e | refine sm_get_p1m (by decide) (by decide) ?_ | refine sm_get_p1n (by decide) rfl ?_ | refine sm_get_p2n (by decide) (by decide) rfl ?_)) ?_
  refine Bod.ialdN li rfl (by omega) (by omega) dc_338_170 (mk_68 _) ?_
  refine Bod.eqI (nI e68) (by first | assumption | rfl | exact congrArg nI (by omega) | (simp (disch := omega) only [rI, rIe, rA, rIA, rLA, rJA, rVI, rQI, rVA, rQA, upd_at,  rAI, rLI, rJI, nI_add, pk_sub, kc_0, kc_1, kc_2, kc_3, kc_4, kc_5, reduceIte, Nat.reduceEqDiff, Nat.add_zero, rI_hold, rI_hold, rL_hold, he67, he68]; done)) ?_
  refine Bod.bip 12 (by decide) dc_338_171 ?_
  refine Bod.icF dc_338_173 rfl (k2_ne_F (k_eq e68 12 rfl rfl (by omega))) ?_
  refine Bod.aldnG dc_338_176 (by repeat (first | exact q0 | exact sm_get_p1 | exact sm_get_p2e | refine sm_get_p1m (by decide) (by decide) ?_ | refine sm_get_p1n (by decide) rfl ?_ | refine sm_get_p2n (by decide) (by decide) rfl ?_)) ?_
  refine Bod.get dc_338_177 fr_338_129 (mk_61 _) rfl ?_
  refine Bod.ildnG dc_338_180 (by repeat (first | exact q3 | exact sm_get_p1 | exact sm_get_p2e | refine sm_get_p1m (by decide) (by decide) ?_ | refine sm_get_p1n (by decide) rfl ?_ | refine sm_get_p2n (by decide) (by decide) rfl ?_)) ?_
  refine Bod.ic 2 (by decide) dc_338_181 ?_
  refine Bod.addN (li + 2) (by omega) dc_338_182 ?_
  refine Bod.ialdN (li + 2) rfl (by omega) (by omega) dc_338_183 (mk_67 _) ?_
  refine Bod.eqI (nI e671) (by first | assumption | rfl | exact congrArg nI (by omega) | (simp (disch := omega) only [rI, rIe, rA, rIA, rLA, rJA, rVI, rQI, rVA, rQA, upd_at,  rAI, rLI, rJI, nI_add, pk_sub, kc_0, kc_1, kc_2, kc_3, kc_4, kc_5, reduceIte, Nat.reduceEqDiff, Nat.add_zero, rI_hold, rI_hold, rL_hold, he67, he68, he671]; done)) ?_
  refine Bod.bip 6 (by decide) dc_338_184 ?_
  refine Bod.icF dc_338_186 rfl (k2_ne_F (k_eq e671 6 rfl rfl (by omega))) ?_
  refine Bod.aldnG dc_338_189 (by repeat (first | exact q0 | exact sm_get_p1 | exact sm_get_p2e | refine sm_get_p1m (by decide) (by decide) ?_ | refine sm_get_p1n (by decide) rfl ?_ | refine sm_get_p2n (by decide) (by decide) rfl ?_)) ?_
  refine Bod.aldnG dc_338_190 (by repeat (first | exact q0 | exact sm_get_p1 | exact sm_get_p2e | refine sm_get_p1m (by decide) (by decide) ?_ | refine sm_get_p1n (by decide) rfl ?_ | refine sm_get_p2n (by decide) (by decide) rfl ?_)) ?_
  refine Bod.get dc_338_191 fr_338_135 (mk_61 _) rfl ?_
  refine Bod.ildnG dc_338_194 (by repeat (first | exact q3 | exact sm_get_p1 | exact sm_get_p2e | refine sm_get_p1m (by decide) (by decide) ?_ | refine sm_get_p1n (by decide) rfl ?_ | refine sm_get_p2n (by decide) (by decide) rfl ?_)) ?_
  refine Bod.ic 1 (by decide) dc_338_195 ?_
  refine Bod.addN (li + 1) (by omega) dc_338_196 ?_
  refine Bod.ialdN (li + 1) rfl (by omega) (by omega) dc_338_197 (mk_68 _) ?_
  refine Bod.eqI (nI e681) (by first | assumption | rfl | exact congrArg nI (by omega) | (simp (disch := omega) only [rI, rIe, rA, rIA, rLA, rJA, rVI, rQI, rVA, rQA, upd_at,  rAI, rLI, rJI, nI_add, pk_sub, kc_0, kc_1, kc_2, kc_3, kc_4, kc_5, reduceIte, Nat.reduceEqDiff, Nat.add_zero, rI_hold, rI_hold, rL_hold, he67, he68, he671, he681]; done)) ?_
  refine Bod.virt (r := []) dc_338_198 kr_338_356 ⟨Or.inl rfl, ow_339, cl_14⟩ (by rw [np_339]; rfl) (by rw [np_339]; rfl) (ob_of (mk_61 _)) (Nat.le_of_ble_eq_true rfl) (c1  ) ?_
  show Bod _ _ _ _ [] _ _ _
  refine Bod.go dc_338_201 rfl ?_
  exact hB _ (by repeat (first | exact q0 | exact sm_get_p1 | exact sm_get_p2e | refine sm_get_p1m (by decide) (by decide) ?_ | refine sm_get_p1n (by decide) rfl ?_ | refine sm_get_p2n (by decide) (by decide) rfl ?_)) (by repeat (first | exact q1 | exact sm_get_p1 | exact sm_get_p2e | refine sm_get_p1m (by decide) (by decide) ?_ | refine sm_get_p1n (by decide) rfl ?_ | refine sm_get_p2n (by decide) (by decide) rfl ?_)) (by repeat (first | exact q2 | exact sm_get_p1 | exact sm_get_p2e | refine sm_get_p1m (by decide) (by decide) ?_ | refine sm_get_p1n (by decide) rfl ?_ | refine sm_get_p2n (by decide) (by decide) rfl ?_)) (by repeat (first | exact q3 | exact sm_get_p1 | exact sm_get_p2e | refine sm_get_p1m (by decide) (by decide) ?_ | refine sm_get_p1n (by decide) rfl ?_ | refine sm_get_p2n (by decide) (by decide) rfl ?_)) (by repeat (first | exact q4 | exact sm_get_p1 | exact sm_get_p2e | refine sm_get_p1m (by decide) (by decide) ?_ | refine sm_get_p1n (by decide) rfl ?_ | refine sm_get_p2n (by decide) (by decide) rfl ?_))
theorem zSw_10 {d : Nat} {S Sf : cS} {v : Option Value} {lv : sm_L} {la : Nat} {lw : Nat} {li : Nat} {lq : Nat} {e67 : Nat} {e68 : Nat} {e70 : Nat} (q0 : sm_get lv 0 = some (.ref 61)) (q1 : sm_get lv 1 = some (.int (nI la))) (q2 : sm_get lv 2 = some (.int (nI lw))) (q3 : sm_get lv 3 = some (.int (nI li))) (q4 : sm_get lv 4 = some (.int (Int32.ofInt (-1)))) (q5 : sm_get lv 5 = some (.int (nI lq))) (mla : la < 2 ^ 20) (mlw : lw < 2 ^ 20) (mli : li < 2 ^ 20) (mlq : lq < 2 ^ 20) (b1 : li < 6002) (he67 : sA S 67 li = nI e67) (me67 : e67 < 2 ^ 20) (b2 : e67 = 2) (he68 : sA S 68 li = nI e68) (me68 : e68 < 2 ^ 20) (b3 : e68 ≠ 6) (b4 : e68 = 7) (b5 : lq = 0) (he70 : sA S 70 li = nI e70) (me70 : e70 < 2 ^ 20) (hB : ∀ lv1 : sm_L, sm_get lv1 0 = some (.ref 61) → sm_get lv1 1 = some (.int (nI la)) → sm_get lv1 2 = some (.int (nI lw)) → sm_get lv1 3 = some (.int (nI li)) → sm_get lv1 4 = some (.int (nI e70)) → Bod (d + 8) 338 331 lv1 [] (S) v Sf) : Bod (d + 8) 338 69 lv [] S v Sf := by
  refine Bod.aldnG dc_338_69 (by repeat (first | exact q0 | exact sm_get_p1 | exact sm_get_p2e | refine sm_get_p1m (by decide) (by decide) ?_ | refine sm_get_p1n (by decide) rfl ?_ | refine sm_get_p2n (by decide) (by decide) rfl ?_)) ?_
  refine Bod.get dc_338_70 fr_338_129 (mk_61 _) rfl ?_
  refine Bod.ildnG dc_338_73 (by repeat (first | exact q3 | exact sm_get_p1 | exact sm_get_p2e | refine sm_get_p1m (by decide) (by decide) ?_ | refine sm_get_p1n (by decide) rfl ?_ | refine sm_get_p2n (by decide) (by decide) rfl ?_)) ?_
  refine Bod.ialdN li rfl (by omega) (by omega) dc_338_74 (mk_67 _) ?_
  refine Bod.eqI (nI e67) (by first | assumption | rfl | exact congrArg nI (by omega) | (simp (disch := omega) only [rI, rIe, rA, rIA, rLA, rJA, rVI, rQI, rVA, rQA, upd_at,  rAI, rLI, rJI, nI_add, pk_sub, kc_0, kc_1, kc_2, kc_3, kc_4, kc_5, reduceIte, Nat.reduceEqDiff, Nat.add_zero, rI_hold, rI_hold, rL_hold, he67]; done)) ?_
  refine Bod.ic 2 (by decide) dc_338_75 ?_
  refine Bod.icF dc_338_76 rfl (k2_ne_F (k_eq e67 2 rfl rfl (by omega))) ?_
  refine Bod.aldnG dc_338_79 (by repeat (first | exact q0 | exact sm_get_p1 | exact sm_get_p2e | refine sm_get_p1m (by decide) (by decide) ?_ | refine sm_get_p1n (by decide) rfl ?_ | refine sm_get_p2n (by decide) (by decide) rfl ?_)) ?_
  refine Bod.get dc_338_80 fr_338_135 (mk_61 _) rfl ?_
  refine Bod.ildnG dc_338_83 (by repeat (first | exact q3 | exact sm_get_p1 | exact sm_get_p2e | refine sm_get_p1m (by decide) (by decide) ?_ | refine sm_get_p1n (by decide) rfl ?_ | refine sm_get_p2n (by decide) (by decide) rfl ?_)) ?_
  refine Bod.ialdN li rfl (by omega) (by omega) dc_338_84 (mk_68 _) ?_
  refine Bod.eqI (nI e68) (by first | assumption | rfl | exact congrArg nI (by omega) | (simp (disch := omega) only [rI, rIe, rA, rIA, rLA, rJA, rVI, rQI, rVA, rQA, upd_at,  rAI, rLI, rJI, nI_add, pk_sub, kc_0, kc_1, kc_2, kc_3, kc_4, kc_5, reduceIte, Nat.reduceEqDiff, Nat.add_zero, rI_hold, rI_hold, rL_hold, he67, he68]; done)) ?_
  refine Bod.bip 6 (by decide) dc_338_85 ?_
  refine Bod.icF dc_338_87 rfl (k2_eq_F (k_ne e68 6 rfl rfl (by omega) (by omega) (by omega))) ?_
  refine Bod.aldnG dc_338_90 (by repeat (first | exact q0 | exact sm_get_p1 | exact sm_get_p2e | refine sm_get_p1m (by decide) (by decide) ?_ | refine sm_get_p1n (by decide) rfl ?_ | refine sm_get_p2n (by decide) (by decide) rfl ?_)) ?_
  refine Bod.get dc_338_91 fr_338_135 (mk_61 _) rfl ?_
  refine Bod.ildnG dc_338_94 (by repeat (first | exact q3 | exact sm_get_p1 | exact sm_get_p2e | refine sm_get_p1m (by decide) (by decide) ?_ | refine sm_get_p1n (by decide) rfl ?_ | refine sm_get_p2n (by decide) (by decide) rfl ?_)) ?_
  refine Bod.ialdN li rfl (by omega) (by omega) dc_338_95 (mk_68 _) ?_
  refine Bod.eqI (nI e68) (by first | assumption | rfl | exact congrArg nI (by omega) | (simp (disch := omega) only [rI, rIe, rA, rIA, rLA, rJA, rVI, rQI, rVA, rQA, upd_at,  rAI, rLI, rJI, nI_add, pk_sub, kc_0, kc_1, kc_2, kc_3, kc_4, kc_5, reduceIte, Nat.reduceEqDiff, Nat.add_zero, rI_hold, rI_hold, rL_hold, he67, he68]; done)) ?_
  refine Bod.bip 7 (by decide) dc_338_96 ?_
  refine Bod.icF dc_338_98 rfl (k2_ne_F (k_eq e68 7 rfl rfl (by omega))) ?_
  refine Bod.ildG dc_338_101 (by repeat (first | exact q5 | exact sm_get_p1 | exact sm_get_p2e | refine sm_get_p1m (by decide) (by decide) ?_ | refine sm_get_p1n (by decide) rfl ?_ | refine sm_get_p2n (by decide) (by decide) rfl ?_)) ?_
  refine Bod.ifT dc_338_103 rfl (k1_eq_T (k_eq lq 0 rfl rfl (by omega))) ?_
  refine Bod.aldnG dc_338_118 (by repeat (first | exact q0 | exact sm_get_p1 | exact sm_get_p2e | refine sm_get_p1m (by decide) (by decide) ?_ | refine sm_get_p1n (by decide) rfl ?_ | refine sm_get_p2n (by decide) (by decide) rfl ?_)) ?_
  refine Bod.get dc_338_119 fr_338_141 (mk_61 _) rfl ?_
  refine Bod.ildnG dc_338_122 (by repeat (first | exact q3 | exact sm_get_p1 | exact sm_get_p2e | refine sm_get_p1m (by decide) (by decide) ?_ | refine sm_get_p1n (by decide) rfl ?_ | refine sm_get_p2n (by decide) (by decide) rfl ?_)) ?_
  refine Bod.ialdN li rfl (by omega) (by omega) dc_338_123 (mk_70 _) ?_
  refine Bod.eqI (nI e70) (by first | assumption | rfl | exact congrArg nI (by omega) | (simp (disch := omega) only [rI, rIe, rA, rIA, rLA, rJA, rVI, rQI, rVA, rQA, upd_at,  rAI, rLI, rJI, nI_add, pk_sub, kc_0, kc_1, kc_2, kc_3, kc_4, kc_5, reduceIte, Nat.reduceEqDiff, Nat.add_zero, rI_hold, rI_hold, rL_hold, he67, he68, he70]; done)) ?_
  refine Bod.ist dc_338_124 (by rw [ml_338]; exact Nat.le_of_ble_eq_true rfl) ?_
  refine Bod.go dc_338_126 rfl ?_
  exact hB _ (by repeat (first | exact q0 | exact sm_get_p1 | exact sm_get_p2e | refine sm_get_p1m (by decide) (by decide) ?_ | refine sm_get_p1n (by decide) rfl ?_ | refine sm_get_p2n (by decide) (by decide) rfl ?_)) (by repeat (first | exact q1 | exact sm_get_p1 | exact sm_get_p2e | refine sm_get_p1m (by decide) (by decide) ?_ | refine sm_get_p1n (by decide) rfl ?_ | refine sm_get_p2n (by decide) (by decide) rfl ?_)) (by repeat (first | exact q2 | exact sm_get_p1 | exact sm_get_p2e | refine sm_get_p1m (by decide) (by decide) ?_ | refine sm_get_p1n (by decide) rfl ?_ | refine sm_get_p2n (by decide) (by decide) rfl ?_)) (by repeat (first | exact q3 | exact sm_get_p1 | exact sm_get_p2e | refine sm_get_p1m (by decide) (by decide) ?_ | refine sm_get_p1n (by decide) rfl ?_ | refine sm_get_p2n (by decide) (by decide) rfl ?_)) (by repeat (first | exact q0 | exact sm_get_p1 | exact sm_get_p2e | refine sm_get_p1m (by decide) (by decide) ?_ | refine sm_get_p1n (by decide) rfl ?_ | refine sm_get_p2n (by decide) (by decide) rfl ?_))
theorem zSw_11 {d : Nat} {S Sf : cS} {v : Option Value} {lv : sm_L} {la : Nat} {lw : Nat} {li : Nat} {lq : Nat} {e67 : Nat} {e68 : Nat} {e681 : Nat} {S1 : cS} {e70 : Nat} (q0 : sm_get lv 0 = some (.ref 61)) (q1 : sm_get lv 1 = some (.int (nI la))) (q2 : sm_get lv 2 = some (.int (nI lw))) (q3 : sm_get lv 3 = some (.int (nI li))) (q4 : sm_get lv 4 = some (.int (Int32.ofInt (-1)))) (q5 : sm_get lv 5 = some (.int (nI lq))) (mla : la < 2 ^ 20) (mlw : lw < 2 ^ 20) (mli : li < 2 ^ 20) (mlq : lq < 2 ^ 20) (b1 : li < 6002) (he67 : sA S 67 li = nI e67) (me67 : e67 < 2 ^ 20) (b2 : e67 = 2) (he68 : sA S 68 li = nI e68) (me68 : e68 < 2 ^ 20) (b3 : e68 ≠ 6) (b4 : e68 = 7) (b5 : lq ≠ 0) (b6 : li + 1 < 6002) (he681 : sA S 68 (li + 1) = nI e681) (me681 : e681 < 2 ^ 20) (c1 : Ans (d + 8) 339 [.ref 61, .int (nI e681)] S none S1) (he70 : sA S1 70 li = nI e70) (me70 : e70 < 2 ^ 20) (hB : ∀ lv1 : sm_L, sm_get lv1 0 = some (.ref 61) → sm_get lv1 1 = some (.int (nI la)) → sm_get lv1 2 = some (.int (nI lw)) → sm_get lv1 3 = some (.int (nI li)) → sm_get lv1 4 = some (.int (nI e70)) → Bod (d + 8) 338 331 lv1 [] (S1) v Sf) : Bod (d + 8) 338 69 lv [] S v Sf := by
  refine Bod.aldnG dc_338_69 (by repeat (first | exact q0 | exact sm_get_p1 | exact sm_get_p2e | refine sm_get_p1m (by decide) (by decide) ?_ | refine sm_get_p1n (by decide) rfl ?_ | refine sm_get_p2n (by decide) (by decide) rfl ?_)) ?_
  refine Bod.get dc_338_70 fr_338_129 (mk_61 _) rfl ?_
  refine Bod.ildnG dc_338_73 (by repeat (first | exact q3 | exact sm_get_p1 | exact sm_get_p2e | refine sm_get_p1m (by decide) (by decide) ?_ | refine sm_get_p1n (by decide) rfl ?_ | refine sm_get_p2n (by decide) (by decide) rfl ?_)) ?_
  refine Bod.ialdN li rfl (by omega) (by omega) dc_338_74 (mk_67 _) ?_
  refine Bod.eqI (nI e67) (by first | assumption | rfl | exact congrArg nI (by omega) | (simp (disch := omega) only [rI, rIe, rA, rIA, rLA, rJA, rVI, rQI, rVA, rQA, upd_at,  rAI, rLI, rJI, nI_add, pk_sub, kc_0, kc_1, kc_2, kc_3, kc_4, kc_5, reduceIte, Nat.reduceEqDiff, Nat.add_zero, rI_hold, rI_hold, rL_hold, he67]; done)) ?_
  refine Bod.ic 2 (by decide) dc_338_75 ?_
  refine Bod.icF dc_338_76 rfl (k2_ne_F (k_eq e67 2 rfl rfl (by omega))) ?_
  refine Bod.aldnG dc_338_79 (by repeat (first | exact q0 | exact sm_get_p1 | exact sm_get_p2e | refine sm_get_p1m (by decide) (by decide) ?_ | refine sm_get_p1n (by decide) rfl ?_ | refine sm_get_p2n (by decide) (by decide) rfl ?_)) ?_
  refine Bod.get dc_338_80 fr_338_135 (mk_61 _) rfl ?_
  refine Bod.ildnG dc_338_83 (by repeat (first | exact q3 | exact sm_get_p1 | exact sm_get_p2e | refine sm_get_p1m (by decide) (by decide) ?_ | refine sm_get_p1n (by decide) rfl ?_ | refine sm_get_p2n (by decide) (by decide) rfl ?_)) ?_
  refine Bod.ialdN li rfl (by omega) (by omega) dc_338_84 (mk_68 _) ?_
  refine Bod.eqI (nI e68) (by first | assumption | rfl | exact congrArg nI (by omega) | (simp (disch := omega) only [rI, rIe, rA, rIA, rLA, rJA, rVI, rQI, rVA, rQA, upd_at,  rAI, rLI, rJI, nI_add, pk_sub, kc_0, kc_1, kc_2, kc_3, kc_4, kc_5, reduceIte, Nat.reduceEqDiff, Nat.add_zero, rI_hold, rI_hold, rL_hold, he67, he68]; done)) ?_
  refine Bod.bip 6 (by decide) dc_338_85 ?_
  refine Bod.icF dc_338_87 rfl (k2_eq_F (k_ne e68 6 rfl rfl (by omega) (by omega) (by omega))) ?_
  refine Bod.aldnG dc_338_90 (by repeat (first | exact q0 | exact sm_get_p1 | exact sm_get_p2e | refine sm_get_p1m (by decide) (by decide) ?_ | refine sm_get_p1n (by decide) rfl ?_ | refine sm_get_p2n (by decide) (by decide) rfl ?_)) ?_
  refine Bod.get dc_338_91 fr_338_135 (mk_61 _) rfl ?_
  refine Bod.ildnG dc_338_94 (by repeat (first | exact q3 | exact sm_get_p1 | exact sm_get_p2e | refine sm_get_p1m (by decide) (by decide) ?_ | refine sm_get_p1n (by decide) rfl ?_ | refine sm_get_p2n (by decide) (by decide) rfl ?_)) ?_
  refine Bod.ialdN li rfl (by omega) (by omega) dc_338_95 (mk_68 _) ?_
  refine Bod.eqI (nI e68) (by first | assumption | rfl | exact congrArg nI (by omega) | (simp (disch := omega) only [rI, rIe, rA, rIA, rLA, rJA, rVI, rQI, rVA, rQA, upd_at,  rAI, rLI, rJI, nI_add, pk_sub, kc_0, kc_1, kc_2, kc_3, kc_4, kc_5, reduceIte, Nat.reduceEqDiff, Nat.add_zero, rI_hold, rI_hold, rL_hold, he67, he68]; done)) ?_
  refine Bod.bip 7 (by decide) dc_338_96 ?_
  refine Bod.icF dc_338_98 rfl (k2_ne_F (k_eq e68 7 rfl rfl (by omega))) ?_
  refine Bod.ildG dc_338_101 (by repeat (first | exact q5 | exact sm_get_p1 | exact sm_get_p2e | refine sm_get_p1m (by decide) (by decide) ?_ | refine sm_get_p1n (by decide) rfl ?_ | refine sm_get_p2n (by decide) (by decide) rfl ?_)) ?_
  refine Bod.ifF dc_338_103 rfl (k1_eq_F (k_ne lq 0 rfl rfl (by omega) (by omega) (by omega))) ?_
  refine Bod.aldnG dc_338_106 (by repeat (first | exact q0 | exact sm_get_p1 | exact sm_get_p2e | refine sm_get_p1m (by decide) (by decide) ?_ | refine sm_get_p1n (by decide) rfl ?_ | refine sm_get_p2n (by decide) (by decide) rfl ?_)) ?_
  refine Bod.aldnG dc_338_107 (by repeat (first | exact q0 | exact sm_get_p1 | exact sm_get_p2e | refine sm_get_p1m (by decide) (by decide) ?_ | refine sm_get_p1n (by decide) rfl ?_ | refine sm_get_p2n (by decide) (by decide) rfl ?_)) ?_
  refine Bod.get dc_338_108 fr_338_135 (mk_61 _) rfl ?_
  refine Bod.ildnG dc_338_111 (by repeat (first | exact q3 | exact sm_get_p1 | exact sm_get_p2e | refine sm_get_p1m (by decide) (by decide) ?_ | refine sm_get_p1n (by decide) rfl ?_ | refine sm_get_p2n (by decide) (by decide) rfl ?_)) ?_
  refine Bod.ic 1 (by decide) dc_338_112 ?_
  refine Bod.addN (li + 1) (by omega) dc_338_113 ?_
  refine Bod.ialdN (li + 1) rfl (by omega) (by omega) dc_338_114 (mk_68 _) ?_
  refine Bod.eqI (nI e681) (by first | assumption | rfl | exact congrArg nI (by omega) | (simp (disch := omega) only [rI, rIe, rA, rIA, rLA, rJA, rVI, rQI, rVA, rQA, upd_at,  rAI, rLI, rJI, nI_add, pk_sub, kc_0, kc_1, kc_2, kc_3, kc_4, kc_5, reduceIte, Nat.reduceEqDiff, Nat.add_zero, rI_hold, rI_hold, rL_hold, he67, he68, he681]; done)) ?_
  refine Bod.virt (r := []) dc_338_115 kr_338_356 ⟨Or.inl rfl, ow_339, cl_14⟩ (by rw [np_339]; rfl) (by rw [np_339]; rfl) (ob_of (mk_61 _)) (Nat.le_of_ble_eq_true rfl) (c1  ) ?_
  show Bod _ _ _ _ [] _ _ _
  refine Bod.aldnG dc_338_118 (by repeat (first | exact q0 | exact sm_get_p1 | exact sm_get_p2e | refine sm_get_p1m (by decide) (by decide) ?_ | refine sm_get_p1n (by decide) rfl ?_ | refine sm_get_p2n (by decide) (by decide) rfl ?_)) ?_
  refine Bod.get dc_338_119 fr_338_141 (mk_61 _) rfl ?_
  refine Bod.ildnG dc_338_122 (by repeat (first | exact q3 | exact sm_get_p1 | exact sm_get_p2e | refine sm_get_p1m (by decide) (by decide) ?_ | refine sm_get_p1n (by decide) rfl ?_ | refine sm_get_p2n (by decide) (by decide) rfl ?_)) ?_
  refine Bod.ialdN li rfl (by omega) (by omega) dc_338_123 (mk_70 _) ?_
  refine Bod.eqI (nI e70) (by first | (simp (disch := omega) only [rI, rIe, rA, rIA, rLA, rJA, rVI, rQI, rVA, rQA, upd_at,  rAI, rLI, rJI, nI_add, pk_sub, kc_0, kc_1, kc_2, kc_3, kc_4, kc_5, reduceIte, Nat.reduceEqDiff, Nat.add_zero, rI_hold, rI_hold, rL_hold, he67, he68, he681, he70]; done) | (simp (disch := omega) only [rI, rIe, rA, rIA, rLA, rJA, rVI, rQI, rVA, rQA, upd_at,  rAI, rLI, rJI, nI_add, pk_sub, kc_0, kc_1, kc_2, kc_3, kc_4, kc_5, reduceIte, Nat.reduceEqDiff, Nat.add_zero, rI_hold, rI_hold, rL_hold, he67, he68, he681, he70]; exact congrArg nI (by omega))) ?_
  refine Bod.ist dc_338_124 (by rw [ml_338]; exact Nat.le_of_ble_eq_true rfl) ?_
  refine Bod.go dc_338_126 rfl ?_
  exact hB _ (by repeat (first | exact q0 | exact sm_get_p1 | exact sm_get_p2e | refine sm_get_p1m (by decide) (by decide) ?_ | refine sm_get_p1n (by decide) rfl ?_ | refine sm_get_p2n (by decide) (by decide) rfl ?_)) (by repeat (first | exact q1 | exact sm_get_p1 | exact sm_get_p2e | refine sm_get_p1m (by decide) (by decide) ?_ | refine sm_get_p1n (by decide) rfl ?_ | refine sm_get_p2n (by decide) (by decide) rfl ?_)) (by repeat (first | exact q2 | exact sm_get_p1 | exact sm_get_p2e | refine sm_get_p1m (by decide) (by decide) ?_ | refine sm_get_p1n (by decide) rfl ?_ | refine sm_get_p2n (by decide) (by decide) rfl ?_)) (by repeat (first | exact q3 | exact sm_get_p1 | exact sm_get_p2e | refine sm_get_p1m (by decide) (by decide) ?_ | refine sm_get_p1n (by decide) rfl ?_ | refine sm_get_p2n (by decide) (by decide) rfl ?_)) (by repeat (first | exact q0 | exact sm_get_p1 | exact sm_get_p2e | refine sm_get_p1m (by decide) (by decide) ?_ | refine sm_get_p1n (by decide) rfl ?_ | refine sm_get_p2n (by decide) (by decide) rfl ?_))
theorem zSx_1 {d : Nat} {S Sf : cS} {v : Option Value} {lv : sm_L} {la : Nat} {lw : Nat} {li : Nat} {e67 : Nat} (q0 : sm_get lv 0 = some (.ref 61)) (q1 : sm_get lv 1 = some (.int (nI la))) (q2 : sm_get lv 2 = some (.int (nI lw))) (q3 : sm_get lv 3 = some (.int (nI li))) (q4 : sm_get lv 4 = some (.int (Int32.ofInt (-1)))) (mla : la < 2 ^ 20) (mlw : lw < 2 ^ 20) (mli : li < 2 ^ 20) (b1 : li < 6002) (he67 : sA S 67 li = nI e67) (me67 : e67 < 2 ^ 20) (b2 : e67 ≠ 1) (hB : ∀ lv1 : sm_L, sm_get lv1 0 = some (.ref 61) → sm_get lv1 1 = some (.int (nI la)) → sm_get lv1 2 = some (.int (nI lw)) → sm_get lv1 3 = some (.int (nI li)) → sm_get lv1 4 = some (.int (Int32.ofInt (-1))) → Bod (d + 8) 338 331 lv1 [] (S) v Sf) : Bod (d + 8) 338 204 lv [] S v Sf := by
  refine Bod.aldnG dc_338_204 (by repeat (first | exact q0 | exact sm_get_p1 | exact sm_get_p2e | refine sm_get_p1m (by decide) (by decide) ?_ | refine sm_get_p1n (by decide) rfl ?_ | refine sm_get_p2n (by decide) (by decide) rfl ?_)) ?_
  refine Bod.get dc_338_205 fr_338_129 (mk_61 _) rfl ?_
  refine Bod.ildnG dc_338_208 (by repeat (first | exact q3 | exact sm_get_p1 | exact sm_get_p2e | refine sm_get_p1m (by decide) (by decide) ?_ | refine sm_get_p1n (by decide) rfl ?_ | refine sm_get_p2n (by decide) (by decide) rfl ?_)) ?_
  refine Bod.ialdN li rfl (by omega) (by omega) dc_338_209 (mk_67 _) ?_
  refine Bod.eqI (nI e67) (by first | assumption | rfl | exact congrArg nI (by omega) | (simp (disch := omega) only [rI, rIe, rA, rIA, rLA, rJA, rVI, rQI, rVA, rQA, upd_at,  rAI, rLI, rJI, nI_add, pk_sub, kc_0, kc_1, kc_2, kc_3, kc_4, kc_5, reduceIte, Nat.reduceEqDiff, Nat.add_zero, rI_hold, rI_hold, rL_hold, he67]; done)) ?_
  refine Bod.ic 1 (by decide) dc_338_210 ?_
  refine Bod.icT dc_338_211 rfl (k2_ne_T (k_ne e67 1 rfl rfl (by omega) (by omega) (by omega))) ?_
  exact hB _ (by repeat (first | exact q0 | exact sm_get_p1 | exact sm_get_p2e | refine sm_get_p1m (by decide) (by decide) ?_ | refine sm_get_p1n (by decide) rfl ?_ | refine sm_get_p2n (by decide) (by decide) rfl ?_)) (by repeat (first | exact q1 | exact sm_get_p1 | exact sm_get_p2e | refine sm_get_p1m (by decide) (by decide) ?_ | refine sm_get_p1n (by decide) rfl ?_ | refine sm_get_p2n (by decide) (by decide) rfl ?_)) (by repeat (first | exact q2 | exact sm_get_p1 | exact sm_get_p2e | refine sm_get_p1m (by decide) (by decide) ?_ | refine sm_get_p1n (by decide) rfl ?_ | refine sm_get_p2n (by decide) (by decide) rfl ?_)) (by repeat (first | exact q3 | exact sm_get_p1 | exact sm_get_p2e | refine sm_get_p1m (by decide) (by decide) ?_ | refine sm_get_p1n (by decide) rfl ?_ | refine sm_get_p2n (by decide) (by decide) rfl ?_)) (by repeat (first | exact q4 | exact sm_get_p1 | exact sm_get_p2e | refine sm_get_p1m (by decide) (by decide) ?_ | refine sm_get_p1n (by decide) rfl ?_ | refine sm_get_p2n (by decide) (by decide) rfl ?_))
theorem zSx_2 {d : Nat} {S Sf : cS} {v : Option Value} {lv : sm_L} {la : Nat} {lw : Nat} {li : Nat} {e67 : Nat} {e671 : Nat} (q0 : sm_get lv 0 = some (.ref 61)) (q1 : sm_get lv 1 = some (.int (nI la))) (q2 : sm_get lv 2 = some (.int (nI lw))) (q3 : sm_get lv 3 = some (.int (nI li))) (q4 : sm_get lv 4 = some (.int (Int32.ofInt (-1)))) (mla : la < 2 ^ 20) (mlw : lw < 2 ^ 20) (mli : li < 2 ^ 20) (b1 : li < 6002) (he67 : sA S 67 li = nI e67) (me67 : e67 < 2 ^ 20) (b2 : e67 = 1) (b3 : li + 1 < 6002) (he671 : sA S 67 (li + 1) = nI e671) (me671 : e671 < 2 ^ 20) (b4 : e671 ≠ 5) (hB : ∀ lv1 : sm_L, sm_get lv1 0 = some (.ref 61) → sm_get lv1 1 = some (.int (nI la)) → sm_get lv1 2 = some (.int (nI lw)) → sm_get lv1 3 = some (.int (nI li)) → sm_get lv1 4 = some (.int (Int32.ofInt (-1))) → Bod (d + 8) 338 331 lv1 [] (S) v Sf) : Bod (d + 8) 338 204 lv [] S v Sf := by
  refine Bod.aldnG dc_338_204 (by repeat (first | exact q0 | exact sm_get_p1 | exact sm_get_p2e | refine sm_get_p1m (by decide) (by decide) ?_ | refine sm_get_p1n (by decide) rfl ?_ | refine sm_get_p2n (by decide) (by decide) rfl ?_)) ?_
  refine Bod.get dc_338_205 fr_338_129 (mk_61 _) rfl ?_
  refine Bod.ildnG dc_338_208 (by repeat (first | exact q3 | exact sm_get_p1 | exact sm_get_p2e | refine sm_get_p1m (by decide) (by decide) ?_ | refine sm_get_p1n (by decide) rfl ?_ | refine sm_get_p2n (by decide) (by decide) rfl ?_)) ?_
  refine Bod.ialdN li rfl (by omega) (by omega) dc_338_209 (mk_67 _) ?_
  refine Bod.eqI (nI e67) (by first | assumption | rfl | exact congrArg nI (by omega) | (simp (disch := omega) only [rI, rIe, rA, rIA, rLA, rJA, rVI, rQI, rVA, rQA, upd_at,  rAI, rLI, rJI, nI_add, pk_sub, kc_0, kc_1, kc_2, kc_3, kc_4, kc_5, reduceIte, Nat.reduceEqDiff, Nat.add_zero, rI_hold, rI_hold, rL_hold, he67]; done)) ?_
  refine Bod.ic 1 (by decide) dc_338_210 ?_
  refine Bod.icF dc_338_211 rfl (k2_ne_F (k_eq e67 1 rfl rfl (by omega))) ?_
  refine Bod.aldnG dc_338_214 (by repeat (first | exact q0 | exact sm_get_p1 | exact sm_get_p2e | refine sm_get_p1m (by decide) (by decide) ?_ | refine sm_get_p1n (by decide) rfl ?_ | refine sm_get_p2n (by decide) (by decide) rfl ?_)) ?_
  refine Bod.get dc_338_215 fr_338_129 (mk_61 _) rfl ?_
  refine Bod.ildnG dc_338_218 (by repeat (first | exact q3 | exact sm_get_p1 | exact sm_get_p2e | refine sm_get_p1m (by decide) (by decide) ?_ | refine sm_get_p1n (by decide) rfl ?_ | refine sm_get_p2n (by decide) (by decide) rfl ?_)) ?_
  refine Bod.ic 1 (by decide) dc_338_219 ?_
  refine Bod.addN (li + 1) (by omega) dc_338_220 ?_
  refine Bod.ialdN (li + 1) rfl (by omega) (by omega) dc_338_221 (mk_67 _) ?_
  refine Bod.eqI (nI e671) (by first | assumption | rfl | exact congrArg nI (by omega) | (simp (disch := omega) only [rI, rIe, rA, rIA, rLA, rJA, rVI, rQI, rVA, rQA, upd_at,  rAI, rLI, rJI, nI_add, pk_sub, kc_0, kc_1, kc_2, kc_3, kc_4, kc_5, reduceIte, Nat.reduceEqDiff, Nat.add_zero, rI_hold, rI_hold, rL_hold, he67, he671]; done)) ?_
  refine Bod.ic 5 (by decide) dc_338_222 ?_
  refine Bod.icT dc_338_223 rfl (k2_ne_T (k_ne e671 5 rfl rfl (by omega) (by omega) (by omega))) ?_
  exact hB _ (by repeat (first | exact q0 | exact sm_get_p1 | exact sm_get_p2e | refine sm_get_p1m (by decide) (by decide) ?_ | refine sm_get_p1n (by decide) rfl ?_ | refine sm_get_p2n (by decide) (by decide) rfl ?_)) (by repeat (first | exact q1 | exact sm_get_p1 | exact sm_get_p2e | refine sm_get_p1m (by decide) (by decide) ?_ | refine sm_get_p1n (by decide) rfl ?_ | refine sm_get_p2n (by decide) (by decide) rfl ?_)) (by repeat (first | exact q2 | exact sm_get_p1 | exact sm_get_p2e | refine sm_get_p1m (by decide) (by decide) ?_ | refine sm_get_p1n (by decide) rfl ?_ | refine sm_get_p2n (by decide) (by decide) rfl ?_)) (by repeat (first | exact q3 | exact sm_get_p1 | exact sm_get_p2e | refine sm_get_p1m (by decide) (by decide) ?_ | refine sm_get_p1n (by decide) rfl ?_ | refine sm_get_p2n (by decide) (by decide) rfl ?_)) (by repeat (first | exact q4 | exact sm_get_p1 | exact sm_get_p2e | refine sm_get_p1m (by decide) (by decide) ?_ | refine sm_get_p1n (by decide) rfl ?_ | refine sm_get_p2n (by decide) (by decide) rfl ?_))
theorem zSx_3 {d : Nat} {S Sf : cS} {v : Option Value} {lv : sm_L} {la : Nat} {lw : Nat} {li : Nat} {e67 : Nat} {e671 : Nat} {e68 : Nat} {e681 : Nat} {S1 : cS} (q0 : sm_get lv 0 = some (.ref 61)) (q1 : sm_get lv 1 = some (.int (nI la))) (q2 : sm_get lv 2 = some (.int (nI lw))) (q3 : sm_get lv 3 = some (.int (nI li))) (q4 : sm_get lv 4 = some (.int (Int32.ofInt (-1)))) (mla : la < 2 ^ 20) (mlw : lw < 2 ^ 20) (mli : li < 2 ^ 20) (b1 : li < 6002) (he67 : sA S 67 li = nI e67) (me67 : e67 < 2 ^ 20) (b2 : e67 = 1) (b3 : li + 1 < 6002) (he671 : sA S 67 (li + 1) = nI e671) (me671 : e671 < 2 ^ 20) (b4 : e671 = 5) (he68 : sA S 68 (li + 1) = nI e68) (me68 : e68 < 2 ^ 20) (b5 : e68 = 61) (he681 : sA S 68 li = nI e681) (me681 : e681 < 2 ^ 20) (c1 : Ans (d + 8) 339 [.ref 61, .int (nI e681)] S none S1) (hB : ∀ lv1 : sm_L, sm_get lv1 0 = some (.ref 61) → sm_get lv1 1 = some (.int (nI la)) → sm_get lv1 2 = some (.int (nI lw)) → sm_get lv1 3 = some (.int (nI li)) → sm_get lv1 4 = some (.int (Int32.ofInt (-1))) → Bod (d + 8) 338 331 lv1 [] (S1) v Sf) : Bod (d + 8) 338 204 lv [] S v Sf := by
  refine Bod.aldnG dc_338_204 (by repeat (first | exact q0 | exact sm_get_p1 | exact sm_get_p2e | refine sm_get_p1m (by decide) (by decide) ?_ | refine sm_get_p1n (by decide) rfl ?_ | refine sm_get_p2n (by decide) (by decide) rfl ?_)) ?_
  refine Bod.get dc_338_205 fr_338_129 (mk_61 _) rfl ?_
  refine Bod.ildnG dc_338_208 (by repeat (first | exact q3 | exact sm_get_p1 | exact sm_get_p2e | refine sm_get_p1m (by decide) (by decide) ?_ | refine sm_get_p1n (by decide) rfl ?_ | refine sm_get_p2n (by decide) (by decide) rfl ?_)) ?_
  refine Bod.ialdN li rfl (by omega) (by omega) dc_338_209 (mk_67 _) ?_
  refine Bod.eqI (nI e67) (by first | assumption | rfl | exact congrArg nI (by omega) | (simp (disch := omega) only [rI, rIe, rA, rIA, rLA, rJA, rVI, rQI, rVA, rQA, upd_at,  rAI, rLI, rJI, nI_add, pk_sub, kc_0, kc_1, kc_2, kc_3, kc_4, kc_5, reduceIte, Nat.reduceEqDiff, Nat.add_zero, rI_hold, rI_hold, rL_hold, he67]; done)) ?_
  refine Bod.ic 1 (by decide) dc_338_210 ?_
  refine Bod.icF dc_338_211 rfl (k2_ne_F (k_eq e67 1 rfl rfl (by omega))) ?_
  refine Bod.aldnG dc_338_214 (by repeat (first | exact q0 | exact sm_get_p1 | exact sm_get_p2e | refine sm_get_p1m (by decide) (by decide) ?_ | refine sm_get_p1n (by decide) rfl ?_ | refine sm_get_p2n (by decide) (by decide) rfl ?_)) ?_
  refine Bod.get dc_338_215 fr_338_129 (mk_61 _) rfl ?_
  refine Bod.ildnG dc_338_218 (by repeat (first | exact q3 | exact sm_get_p1 | exact sm_get_p2e | refine sm_get_p1m (by decide) (by decide) ?_ | refine sm_get_p1n (by decide) rfl ?_ | refine sm_get_p2n (by decide) (by decide) rfl ?_)) ?_
  refine Bod.ic 1 (by decide) dc_338_219 ?_
  refine Bod.addN (li + 1) (by omega) dc_338_220 ?_
  refine Bod.ialdN (li + 1) rfl (by omega) (by omega) dc_338_221 (mk_67 _) ?_
  refine Bod.eqI (nI e671) (by first | assumption | rfl | exact congrArg nI (by omega) | (simp (disch := omega) only [rI, rIe, rA, rIA, rLA, rJA, rVI, rQI, rVA, rQA, upd_at,  rAI, rLI, rJI, nI_add, pk_sub, kc_0, kc_1, kc_2, kc_3, kc_4, kc_5, reduceIte, Nat.reduceEqDiff, Nat.add_zero, rI_hold, rI_hold, rL_hold, he67, he671]; done)) ?_
  refine Bod.ic 5 (by decide) dc_338_222 ?_
  refine Bod.icF dc_338_223 rfl (k2_ne_F (k_eq e671 5 rfl rfl (by omega))) ?_
  refine Bod.aldnG dc_338_226 (by repeat (first | exact q0 | exact sm_get_p1 | exact sm_get_p2e | refine sm_get_p1m (by decide) (by decide) ?_ | refine sm_get_p1n (by decide) rfl ?_ | refine sm_get_p2n (by decide) (by decide) rfl ?_)) ?_
  refine Bod.get dc_338_227 fr_338_135 (mk_61 _) rfl ?_
  refine Bod.ildnG dc_338_230 (by repeat (first | exact q3 | exact sm_get_p1 | exact sm_get_p2e | refine sm_get_p1m (by decide) (by decide) ?_ | refine sm_get_p1n (by decide) rfl ?_ | refine sm_get_p2n (by decide) (by decide) rfl ?_)) ?_
  refine Bod.ic 1 (by decide) dc_338_231 ?_
  refine Bod.addN (li + 1) (by omega) dc_338_232 ?_
  refine Bod.ialdN (li + 1) rfl (by omega) (by omega) dc_338_233 (mk_68 _) ?_
  refine Bod.eqI (nI e68) (by first | assumption | rfl | exact congrArg nI (by omega) | (simp (disch := omega) only [rI, rIe, rA, rIA, rLA, rJA, rVI, rQI, rVA, rQA, upd_at,  rAI, rLI, rJI, nI_add, pk_sub, kc_0, kc_1, kc_2, kc_3, kc_4, kc_5, reduceIte, Nat.reduceEqDiff, Nat.add_zero, rI_hold, rI_hold, rL_hold, he67, he671, he68]; done)) ?_
  refine Bod.bip 61 (by decide) dc_338_234 ?_
  refine Bod.icT dc_338_236 rfl (k2_eq_T (k_eq e68 61 rfl rfl (by omega))) ?_
  refine Bod.aldnG dc_338_321 (by repeat (first | exact q0 | exact sm_get_p1 | exact sm_get_p2e | refine sm_get_p1m (by decide) (by decide) ?_ | refine sm_get_p1n (by decide) rfl ?_ | refine sm_get_p2n (by decide) (by decide) rfl ?_)) ?_
  refine Bod.aldnG dc_338_322 (by repeat (first | exact q0 | exact sm_get_p1 | exact sm_get_p2e | refine sm_get_p1m (by decide) (by decide) ?_ | refine sm_get_p1n (by decide) rfl ?_ | refine sm_get_p2n (by decide) (by decide) rfl ?_)) ?_
  refine Bod.get dc_338_323 fr_338_135 (mk_61 _) rfl ?_
  refine Bod.ildnG dc_338_326 (by repeat (first | exact q3 | exact sm_get_p1 | exact sm_get_p2e | refine sm_get_p1m (by decide) (by decide) ?_ | refine sm_get_p1n (by decide) rfl ?_ | refine sm_get_p2n (by decide) (by decide) rfl ?_)) ?_
  refine Bod.ialdN li rfl (by omega) (by omega) dc_338_327 (mk_68 _) ?_
  refine Bod.eqI (nI e681) (by first | assumption | rfl | exact congrArg nI (by omega) | (simp (disch := omega) only [rI, rIe, rA, rIA, rLA, rJA, rVI, rQI, rVA, rQA, upd_at,  rAI, rLI, rJI, nI_add, pk_sub, kc_0, kc_1, kc_2, kc_3, kc_4, kc_5, reduceIte, Nat.reduceEqDiff, Nat.add_zero, rI_hold, rI_hold, rL_hold, he67, he671, he68, he681]; done)) ?_
  refine Bod.virt (r := []) dc_338_328 kr_338_356 ⟨Or.inl rfl, ow_339, cl_14⟩ (by rw [np_339]; rfl) (by rw [np_339]; rfl) (ob_of (mk_61 _)) (Nat.le_of_ble_eq_true rfl) (c1  ) ?_
  show Bod _ _ _ _ [] _ _ _
  exact hB _ (by repeat (first | exact q0 | exact sm_get_p1 | exact sm_get_p2e | refine sm_get_p1m (by decide) (by decide) ?_ | refine sm_get_p1n (by decide) rfl ?_ | refine sm_get_p2n (by decide) (by decide) rfl ?_)) (by repeat (first | exact q1 | exact sm_get_p1 | exact sm_get_p2e | refine sm_get_p1m (by decide) (by decide) ?_ | refine sm_get_p1n (by decide) rfl ?_ | refine sm_get_p2n (by decide) (by decide) rfl ?_)) (by repeat (first | exact q2 | exact sm_get_p1 | exact sm_get_p2e | refine sm_get_p1m (by decide) (by decide) ?_ | refine sm_get_p1n (by decide) rfl ?_ | refine sm_get_p2n (by decide) (by decide) rfl ?_)) (by repeat (first | exact q3 | exact sm_get_p1 | exact sm_get_p2e | refine sm_get_p1m (by decide) (by decide) ?_ | refine sm_get_p1n (by decide) rfl ?_ | refine sm_get_p2n (by decide) (by decide) rfl ?_)) (by repeat (first | exact q4 | exact sm_get_p1 | exact sm_get_p2e | refine sm_get_p1m (by decide) (by decide) ?_ | refine sm_get_p1n (by decide) rfl ?_ | refine sm_get_p2n (by decide) (by decide) rfl ?_))
theorem zSx_4 {d : Nat} {S Sf : cS} {v : Option Value} {lv : sm_L} {la : Nat} {lw : Nat} {li : Nat} {e67 : Nat} {e671 : Nat} {e68 : Nat} (q0 : sm_get lv 0 = some (.ref 61)) (q1 : sm_get lv 1 = some (.int (nI la))) (q2 : sm_get lv 2 = some (.int (nI lw))) (q3 : sm_get lv 3 = some (.int (nI li))) (q4 : sm_get lv 4 = some (.int (Int32.ofInt (-1)))) (mla : la < 2 ^ 20) (mlw : lw < 2 ^ 20) (mli : li < 2 ^ 20) (b1 : li < 6002) (he67 : sA S 67 li = nI e67) (me67 : e67 < 2 ^ 20) (b2 : e67 = 1) (b3 : li + 1 < 6002) (he671 : sA S 67 (li + 1) = nI e671) (me671 : e671 < 2 ^ 20) (b4 : e671 = 5) (he68 : sA S 68 (li + 1) = nI e68) (me68 : e68 < 2 ^ 20) (b5 : e68 ≠ 61) (b6 : e68 ≤ 256) (hB : ∀ lv1 : sm_L, sm_get lv1 0 = some (.ref 61) → sm_get lv1 1 = some (.int (nI la)) → sm_get lv1 2 = some (.int (nI lw)) → sm_get lv1 3 = some (.int (nI li)) → sm_get lv1 4 = some (.int (Int32.ofInt (-1))) → Bod (d + 8) 338 331 lv1 [] (S) v Sf) : Bod (d + 8) 338 204 lv [] S v Sf := by
  refine Bod.aldnG dc_338_204 (by repeat (first | exact q0 | exact sm_get_p1 | exact sm_get_p2e | refine sm_get_p1m (by decide) (by decide) ?_ | refine sm_get_p1n (by decide) rfl ?_ | refine sm_get_p2n (by decide) (by decide) rfl ?_)) ?_
  refine Bod.get dc_338_205 fr_338_129 (mk_61 _) rfl ?_
  refine Bod.ildnG dc_338_208 (by repeat (first | exact q3 | exact sm_get_p1 | exact sm_get_p2e | refine sm_get_p1m (by decide) (by decide) ?_ | refine sm_get_p1n (by decide) rfl ?_ | refine sm_get_p2n (by decide) (by decide) rfl ?_)) ?_
  refine Bod.ialdN li rfl (by omega) (by omega) dc_338_209 (mk_67 _) ?_
  refine Bod.eqI (nI e67) (by first | assumption | rfl | exact congrArg nI (by omega) | (simp (disch := omega) only [rI, rIe, rA, rIA, rLA, rJA, rVI, rQI, rVA, rQA, upd_at,  rAI, rLI, rJI, nI_add, pk_sub, kc_0, kc_1, kc_2, kc_3, kc_4, kc_5, reduceIte, Nat.reduceEqDiff, Nat.add_zero, rI_hold, rI_hold, rL_hold, he67]; done)) ?_
  refine Bod.ic 1 (by decide) dc_338_210 ?_
  refine Bod.icF dc_338_211 rfl (k2_ne_F (k_eq e67 1 rfl rfl (by omega))) ?_
  refine Bod.aldnG dc_338_214 (by repeat (first | exact q0 | exact sm_get_p1 | exact sm_get_p2e | refine sm_get_p1m (by decide) (by decide) ?_ | refine sm_get_p1n (by decide) rfl ?_ | refine sm_get_p2n (by decide) (by decide) rfl ?_)) ?_
  refine Bod.get dc_338_215 fr_338_129 (mk_61 _) rfl ?_
  refine Bod.ildnG dc_338_218 (by repeat (first | exact q3 | exact sm_get_p1 | exact sm_get_p2e | refine sm_get_p1m (by decide) (by decide) ?_ | refine sm_get_p1n (by decide) rfl ?_ | refine sm_get_p2n (by decide) (by decide) rfl ?_)) ?_
  refine Bod.ic 1 (by decide) dc_338_219 ?_
  refine Bod.addN (li + 1) (by omega) dc_338_220 ?_
  refine Bod.ialdN (li + 1) rfl (by omega) (by omega) dc_338_221 (mk_67 _) ?_
  refine Bod.eqI (nI e671) (by first | assumption | rfl | exact congrArg nI (by omega) | (simp (disch := omega) only [rI, rIe, rA, rIA, rLA, rJA, rVI, rQI, rVA, rQA, upd_at,  rAI, rLI, rJI, nI_add, pk_sub, kc_0, kc_1, kc_2, kc_3, kc_4, kc_5, reduceIte, Nat.reduceEqDiff, Nat.add_zero, rI_hold, rI_hold, rL_hold, he67, he671]; done)) ?_
  refine Bod.ic 5 (by decide) dc_338_222 ?_
  refine Bod.icF dc_338_223 rfl (k2_ne_F (k_eq e671 5 rfl rfl (by omega))) ?_
  refine Bod.aldnG dc_338_226 (by repeat (first | exact q0 | exact sm_get_p1 | exact sm_get_p2e | refine sm_get_p1m (by decide) (by decide) ?_ | refine sm_get_p1n (by decide) rfl ?_ | refine sm_get_p2n (by decide) (by decide) rfl ?_)) ?_
  refine Bod.get dc_338_227 fr_338_135 (mk_61 _) rfl ?_
  refine Bod.ildnG dc_338_230 (by repeat (first | exact q3 | exact sm_get_p1 | exact sm_get_p2e | refine sm_get_p1m (by decide) (by decide) ?_ | refine sm_get_p1n (by decide) rfl ?_ | refine sm_get_p2n (by decide) (by decide) rfl ?_)) ?_
  refine Bod.ic 1 (by decide) dc_338_231 ?_
  refine Bod.addN (li + 1) (by omega) dc_338_232 ?_
  refine Bod.ialdN (li + 1) rfl (by omega) (by omega) dc_338_233 (mk_68 _) ?_
  refine Bod.eqI (nI e68) (by first | assumption | rfl | exact congrArg nI (by omega) | (simp (disch := omega) only [rI, rIe, rA, rIA, rLA, rJA, rVI, rQI, rVA, rQA, upd_at,  rAI, rLI, rJI, nI_add, pk_sub, kc_0, kc_1, kc_2, kc_3, kc_4, kc_5, reduceIte, Nat.reduceEqDiff, Nat.add_zero, rI_hold, rI_hold, rL_hold, he67, he671, he68]; done)) ?_
  refine Bod.bip 61 (by decide) dc_338_234 ?_
  refine Bod.icF dc_338_236 rfl (k2_eq_F (k_ne e68 61 rfl rfl (by omega) (by omega) (by omega))) ?_
  refine Bod.aldnG dc_338_239 (by repeat (first | exact q0 | exact sm_get_p1 | exact sm_get_p2e | refine sm_get_p1m (by decide) (by decide) ?_ | refine sm_get_p1n (by decide) rfl ?_ | refine sm_get_p2n (by decide) (by decide) rfl ?_)) ?_
  refine Bod.get dc_338_240 fr_338_135 (mk_61 _) rfl ?_
  refine Bod.ildnG dc_338_243 (by repeat (first | exact q3 | exact sm_get_p1 | exact sm_get_p2e | refine sm_get_p1m (by decide) (by decide) ?_ | refine sm_get_p1n (by decide) rfl ?_ | refine sm_get_p2n (by decide) (by decide) rfl ?_)) ?_
  refine Bod.ic 1 (by decide) dc_338_244 ?_
  refine Bod.addN (li + 1) (by omega) dc_338_245 ?_
  refine Bod.ialdN (li + 1) rfl (by omega) (by omega) dc_338_246 (mk_68 _) ?_
  refine Bod.eqI (nI e68) (by first | assumption | rfl | exact congrArg nI (by omega) | (simp (disch := omega) only [rI, rIe, rA, rIA, rLA, rJA, rVI, rQI, rVA, rQA, upd_at,  rAI, rLI, rJI, nI_add, pk_sub, kc_0, kc_1, kc_2, kc_3, kc_4, kc_5, reduceIte, Nat.reduceEqDiff, Nat.add_zero, rI_hold, rI_hold, rL_hold, he67, he671, he68]; done)) ?_
  refine Bod.sip 256 (by decide) dc_338_247 ?_
  refine Bod.icT dc_338_250 rfl (k2_le_T e68 256 rfl rfl (by omega) (by omega)) ?_
  exact hB _ (by repeat (first | exact q0 | exact sm_get_p1 | exact sm_get_p2e | refine sm_get_p1m (by decide) (by decide) ?_ | refine sm_get_p1n (by decide) rfl ?_ | refine sm_get_p2n (by decide) (by decide) rfl ?_)) (by repeat (first | exact q1 | exact sm_get_p1 | exact sm_get_p2e | refine sm_get_p1m (by decide) (by decide) ?_ | refine sm_get_p1n (by decide) rfl ?_ | refine sm_get_p2n (by decide) (by decide) rfl ?_)) (by repeat (first | exact q2 | exact sm_get_p1 | exact sm_get_p2e | refine sm_get_p1m (by decide) (by decide) ?_ | refine sm_get_p1n (by decide) rfl ?_ | refine sm_get_p2n (by decide) (by decide) rfl ?_)) (by repeat (first | exact q3 | exact sm_get_p1 | exact sm_get_p2e | refine sm_get_p1m (by decide) (by decide) ?_ | refine sm_get_p1n (by decide) rfl ?_ | refine sm_get_p2n (by decide) (by decide) rfl ?_)) (by repeat (first | exact q4 | exact sm_get_p1 | exact sm_get_p2e | refine sm_get_p1m (by decide) (by decide) ?_ | refine sm_get_p1n (by decide) rfl ?_ | refine sm_get_p2n (by decide) (by decide) rfl ?_))
theorem zSx_5 {d : Nat} {S Sf : cS} {v : Option Value} {lv : sm_L} {la : Nat} {lw : Nat} {li : Nat} {e67 : Nat} {e671 : Nat} {e68 : Nat} (q0 : sm_get lv 0 = some (.ref 61)) (q1 : sm_get lv 1 = some (.int (nI la))) (q2 : sm_get lv 2 = some (.int (nI lw))) (q3 : sm_get lv 3 = some (.int (nI li))) (q4 : sm_get lv 4 = some (.int (Int32.ofInt (-1)))) (mla : la < 2 ^ 20) (mlw : lw < 2 ^ 20) (mli : li < 2 ^ 20) (b1 : li < 6002) (he67 : sA S 67 li = nI e67) (me67 : e67 < 2 ^ 20) (b2 : e67 = 1) (b3 : li + 1 < 6002) (he671 : sA S 67 (li + 1) = nI e671) (me671 : e671 < 2 ^ 20) (b4 : e671 = 5) (he68 : sA S 68 (li + 1) = nI e68) (me68 : e68 < 2 ^ 20) (b5 : e68 ≠ 61) (b6 : 256 < e68) (b7 : (e68 % 256) ≠ 61) (hB : ∀ lv1 : sm_L, sm_get lv1 0 = some (.ref 61) → sm_get lv1 1 = some (.int (nI la)) → sm_get lv1 2 = some (.int (nI lw)) → sm_get lv1 3 = some (.int (nI li)) → sm_get lv1 4 = some (.int (Int32.ofInt (-1))) → Bod (d + 8) 338 331 lv1 [] (S) v Sf) : Bod (d + 8) 338 204 lv [] S v Sf := by
  refine Bod.aldnG dc_338_204 (by repeat (first | exact q0 | exact sm_get_p1 | exact sm_get_p2e | refine sm_get_p1m (by decide) (by decide) ?_ | refine sm_get_p1n (by decide) rfl ?_ | refine sm_get_p2n (by decide) (by decide) rfl ?_)) ?_
  refine Bod.get dc_338_205 fr_338_129 (mk_61 _) rfl ?_
  refine Bod.ildnG dc_338_208 (by repeat (first | exact q3 | exact sm_get_p1 | exact sm_get_p2e | refine sm_get_p1m (by decide) (by decide) ?_ | refine sm_get_p1n (by decide) rfl ?_ | refine sm_get_p2n (by decide) (by decide) rfl ?_)) ?_
  refine Bod.ialdN li rfl (by omega) (by omega) dc_338_209 (mk_67 _) ?_
  refine Bod.eqI (nI e67) (by first | assumption | rfl | exact congrArg nI (by omega) | (simp (disch := omega) only [rI, rIe, rA, rIA, rLA, rJA, rVI, rQI, rVA, rQA, upd_at,  rAI, rLI, rJI, nI_add, pk_sub, kc_0, kc_1, kc_2, kc_3, kc_4, kc_5, reduceIte, Nat.reduceEqDiff, Nat.add_zero, rI_hold, rI_hold, rL_hold, he67]; done)) ?_
  refine Bod.ic 1 (by decide) dc_338_210 ?_
  refine Bod.icF dc_338_211 rfl (k2_ne_F (k_eq e67 1 rfl rfl (by omega))) ?_
  refine Bod.aldnG dc_338_214 (by repeat (first | exact q0 | exact sm_get_p1 | exact sm_get_p2e | refine sm_get_p1m (by decide) (by decide) ?_ | refine sm_get_p1n (by decide) rfl ?_ | refine sm_get_p2n (by decide) (by decide) rfl ?_)) ?_
  refine Bod.get dc_338_215 fr_338_129 (mk_61 _) rfl ?_
  refine Bod.ildnG dc_338_218 (by repeat (first | exact q3 | exact sm_get_p1 | exact sm_get_p2e | refine sm_get_p1m (by decide) (by decide) ?_ | refine sm_get_p1n (by decide) rfl ?_ | refine sm_get_p2n (by decide) (by decide) rfl ?_)) ?_
  refine Bod.ic 1 (by decide) dc_338_219 ?_
  refine Bod.addN (li + 1) (by omega) dc_338_220 ?_
  refine Bod.ialdN (li + 1) rfl (by omega) (by omega) dc_338_221 (mk_67 _) ?_
  refine Bod.eqI (nI e671) (by first | assumption | rfl | exact congrArg nI (by omega) | (simp (disch := omega) only [rI, rIe, rA, rIA, rLA, rJA, rVI, rQI, rVA, rQA, upd_at,  rAI, rLI, rJI, nI_add, pk_sub, kc_0, kc_1, kc_2, kc_3, kc_4, kc_5, reduceIte, Nat.reduceEqDiff, Nat.add_zero, rI_hold, rI_hold, rL_hold, he67, he671]; done)) ?_
  refine Bod.ic 5 (by decide) dc_338_222 ?_
  refine Bod.icF dc_338_223 rfl (k2_ne_F (k_eq e671 5 rfl rfl (by omega))) ?_
  refine Bod.aldnG dc_338_226 (by repeat (first | exact q0 | exact sm_get_p1 | exact sm_get_p2e | refine sm_get_p1m (by decide) (by decide) ?_ | refine sm_get_p1n (by decide) rfl ?_ | refine sm_get_p2n (by decide) (by decide) rfl ?_)) ?_
  refine Bod.get dc_338_227 fr_338_135 (mk_61 _) rfl ?_
  refine Bod.ildnG dc_338_230 (by repeat (first | exact q3 | exact sm_get_p1 | exact sm_get_p2e | refine sm_get_p1m (by decide) (by decide) ?_ | refine sm_get_p1n (by decide) rfl ?_ | refine sm_get_p2n (by decide) (by decide) rfl ?_)) ?_
  refine Bod.ic 1 (by decide) dc_338_231 ?_
  refine Bod.addN (li + 1) (by omega) dc_338_232 ?_
  refine Bod.ialdN (li + 1) rfl (by omega) (by omega) dc_338_233 (mk_68 _) ?_
  refine Bod.eqI (nI e68) (by first | assumption | rfl | exact congrArg nI (by omega) | (simp (disch := omega) only [rI, rIe, rA, rIA, rLA, rJA, rVI, rQI, rVA, rQA, upd_at,  rAI, rLI, rJI, nI_add, pk_sub, kc_0, kc_1, kc_2, kc_3, kc_4, kc_5, reduceIte, Nat.reduceEqDiff, Nat.add_zero, rI_hold, rI_hold, rL_hold, he67, he671, he68]; done)) ?_
  refine Bod.bip 61 (by decide) dc_338_234 ?_
  refine Bod.icF dc_338_236 rfl (k2_eq_F (k_ne e68 61 rfl rfl (by omega) (by omega) (by omega))) ?_
  refine Bod.aldnG dc_338_239 (by repeat (first | exact q0 | exact sm_get_p1 | exact sm_get_p2e | refine sm_get_p1m (by decide) (by decide) ?_ | refine sm_get_p1n (by decide) rfl ?_ | refine sm_get_p2n (by decide) (by decide) rfl ?_)) ?_
  refine Bod.get dc_338_240 fr_338_135 (mk_61 _) rfl ?_
  refine Bod.ildnG dc_338_243 (by repeat (first | exact q3 | exact sm_get_p1 | exact sm_get_p2e | refine sm_get_p1m (by decide) (by decide) ?_ | refine sm_get_p1n (by decide) rfl ?_ | refine sm_get_p2n (by decide) (by decide) rfl ?_)) ?_
  refine Bod.ic 1 (by decide) dc_338_244 ?_
  refine Bod.addN (li + 1) (by omega) dc_338_245 ?_
  refine Bod.ialdN (li + 1) rfl (by omega) (by omega) dc_338_246 (mk_68 _) ?_
  refine Bod.eqI (nI e68) (by first | assumption | rfl | exact congrArg nI (by omega) | (simp (disch := omega) only [rI, rIe, rA, rIA, rLA, rJA, rVI, rQI, rVA, rQA, upd_at,  rAI, rLI, rJI, nI_add, pk_sub, kc_0, kc_1, kc_2, kc_3, kc_4, kc_5, reduceIte, Nat.reduceEqDiff, Nat.add_zero, rI_hold, rI_hold, rL_hold, he67, he671, he68]; done)) ?_
  refine Bod.sip 256 (by decide) dc_338_247 ?_
  refine Bod.icF dc_338_250 rfl (k2_le_F e68 256 rfl rfl (by omega) (by omega)) ?_
  refine Bod.aldnG dc_338_253 (by repeat (first | exact q0 | exact sm_get_p1 | exact sm_get_p2e | refine sm_get_p1m (by decide) (by decide) ?_ | refine sm_get_p1n (by decide) rfl ?_ | refine sm_get_p2n (by decide) (by decide) rfl ?_)) ?_
  refine Bod.get dc_338_254 fr_338_135 (mk_61 _) rfl ?_
  refine Bod.ildnG dc_338_257 (by repeat (first | exact q3 | exact sm_get_p1 | exact sm_get_p2e | refine sm_get_p1m (by decide) (by decide) ?_ | refine sm_get_p1n (by decide) rfl ?_ | refine sm_get_p2n (by decide) (by decide) rfl ?_)) ?_
  refine Bod.ic 1 (by decide) dc_338_258 ?_
  refine Bod.addN (li + 1) (by omega) dc_338_259 ?_
  refine Bod.ialdN (li + 1) rfl (by omega) (by omega) dc_338_260 (mk_68 _) ?_
  refine Bod.eqI (nI e68) (by first | assumption | rfl | exact congrArg nI (by omega) | (simp (disch := omega) only [rI, rIe, rA, rIA, rLA, rJA, rVI, rQI, rVA, rQA, upd_at,  rAI, rLI, rJI, nI_add, pk_sub, kc_0, kc_1, kc_2, kc_3, kc_4, kc_5, reduceIte, Nat.reduceEqDiff, Nat.add_zero, rI_hold, rI_hold, rL_hold, he67, he671, he68]; done)) ?_
  refine Bod.sip 256 (by decide) dc_338_261 ?_
  refine Bod.iremN (e68 % 256) (by omega) (by omega) (by omega) rfl dc_338_264 ?_
  refine Bod.bip 61 (by decide) dc_338_265 ?_
  refine Bod.icT dc_338_267 rfl (k2_ne_T (k_ne (e68 % 256) 61 rfl rfl (by omega) (by omega) (by omega))) ?_
  exact hB _ (by repeat (first | exact q0 | exact sm_get_p1 | exact sm_get_p2e | refine sm_get_p1m (by decide) (by decide) ?_ | refine sm_get_p1n (by decide) rfl ?_ | refine sm_get_p2n (by decide) (by decide) rfl ?_)) (by repeat (first | exact q1 | exact sm_get_p1 | exact sm_get_p2e | refine sm_get_p1m (by decide) (by decide) ?_ | refine sm_get_p1n (by decide) rfl ?_ | refine sm_get_p2n (by decide) (by decide) rfl ?_)) (by repeat (first | exact q2 | exact sm_get_p1 | exact sm_get_p2e | refine sm_get_p1m (by decide) (by decide) ?_ | refine sm_get_p1n (by decide) rfl ?_ | refine sm_get_p2n (by decide) (by decide) rfl ?_)) (by repeat (first | exact q3 | exact sm_get_p1 | exact sm_get_p2e | refine sm_get_p1m (by decide) (by decide) ?_ | refine sm_get_p1n (by decide) rfl ?_ | refine sm_get_p2n (by decide) (by decide) rfl ?_)) (by repeat (first | exact q4 | exact sm_get_p1 | exact sm_get_p2e | refine sm_get_p1m (by decide) (by decide) ?_ | refine sm_get_p1n (by decide) rfl ?_ | refine sm_get_p2n (by decide) (by decide) rfl ?_))
theorem zSx_6 {d : Nat} {S Sf : cS} {v : Option Value} {lv : sm_L} {la : Nat} {lw : Nat} {li : Nat} {e67 : Nat} {e671 : Nat} {e68 : Nat} {e681 : Nat} {S1 : cS} (q0 : sm_get lv 0 = some (.ref 61)) (q1 : sm_get lv 1 = some (.int (nI la))) (q2 : sm_get lv 2 = some (.int (nI lw))) (q3 : sm_get lv 3 = some (.int (nI li))) (q4 : sm_get lv 4 = some (.int (Int32.ofInt (-1)))) (mla : la < 2 ^ 20) (mlw : lw < 2 ^ 20) (mli : li < 2 ^ 20) (b1 : li < 6002) (he67 : sA S 67 li = nI e67) (me67 : e67 < 2 ^ 20) (b2 : e67 = 1) (b3 : li + 1 < 6002) (he671 : sA S 67 (li + 1) = nI e671) (me671 : e671 < 2 ^ 20) (b4 : e671 = 5) (he68 : sA S 68 (li + 1) = nI e68) (me68 : e68 < 2 ^ 20) (b5 : e68 ≠ 61) (b6 : 256 < e68) (b7 : (e68 % 256) = 61) (b8 : (e68 / 256) = 43) (he681 : sA S 68 li = nI e681) (me681 : e681 < 2 ^ 20) (c1 : Ans (d + 8) 339 [.ref 61, .int (nI e681)] S none S1) (hB : ∀ lv1 : sm_L, sm_get lv1 0 = some (.ref 61) → sm_get lv1 1 = some (.int (nI la)) → sm_get lv1 2 = some (.int (nI lw)) → sm_get lv1 3 = some (.int (nI li)) → sm_get lv1 4 = some (.int (Int32.ofInt (-1))) → Bod (d + 8) 338 331 lv1 [] (S1) v Sf) : Bod (d + 8) 338 204 lv [] S v Sf := by
  refine Bod.aldnG dc_338_204 (by repeat (first | exact q0 | exact sm_get_p1 | exact sm_get_p2e | refine sm_get_p1m (by decide) (by decide) ?_ | refine sm_get_p1n (by decide) rfl ?_ | refine sm_get_p2n (by decide) (by decide) rfl ?_)) ?_
  refine Bod.get dc_338_205 fr_338_129 (mk_61 _) rfl ?_
  refine Bod.ildnG dc_338_208 (by repeat (first | exact q3 | exact sm_get_p1 | exact sm_get_p2e | refine sm_get_p1m (by decide) (by decide) ?_ | refine sm_get_p1n (by decide) rfl ?_ | refine sm_get_p2n (by decide) (by decide) rfl ?_)) ?_
  refine Bod.ialdN li rfl (by omega) (by omega) dc_338_209 (mk_67 _) ?_
  refine Bod.eqI (nI e67) (by first | assumption | rfl | exact congrArg nI (by omega) | (simp (disch := omega) only [rI, rIe, rA, rIA, rLA, rJA, rVI, rQI, rVA, rQA, upd_at,  rAI, rLI, rJI, nI_add, pk_sub, kc_0, kc_1, kc_2, kc_3, kc_4, kc_5, reduceIte, Nat.reduceEqDiff, Nat.add_zero, rI_hold, rI_hold, rL_hold, he67]; done)) ?_
  refine Bod.ic 1 (by decide) dc_338_210 ?_
  refine Bod.icF dc_338_211 rfl (k2_ne_F (k_eq e67 1 rfl rfl (by omega))) ?_
  refine Bod.aldnG dc_338_214 (by repeat (first | exact q0 | exact sm_get_p1 | exact sm_get_p2e | refine sm_get_p1m (by decide) (by decide) ?_ | refine sm_get_p1n (by decide) rfl ?_ | refine sm_get_p2n (by decide) (by decide) rfl ?_)) ?_
  refine Bod.get dc_338_215 fr_338_129 (mk_61 _) rfl ?_
  refine Bod.ildnG dc_338_218 (by repeat (first | exact q3 | exact sm_get_p1 | exact sm_get_p2e | refine sm_get_p1m (by decide) (by decide) ?_ | refine sm_get_p1n (by decide) rfl ?_ | refine sm_get_p2n (by decide) (by decide) rfl ?_)) ?_
  refine Bod.ic 1 (by decide) dc_338_219 ?_
  refine Bod.addN (li + 1) (by omega) dc_338_220 ?_
  refine Bod.ialdN (li + 1) rfl (by omega) (by omega) dc_338_221 (mk_67 _) ?_
  refine Bod.eqI (nI e671) (by first | assumption | rfl | exact congrArg nI (by omega) | (simp (disch := omega) only [rI, rIe, rA, rIA, rLA, rJA, rVI, rQI, rVA, rQA, upd_at,  rAI, rLI, rJI, nI_add, pk_sub, kc_0, kc_1, kc_2, kc_3, kc_4, kc_5, reduceIte, Nat.reduceEqDiff, Nat.add_zero, rI_hold, rI_hold, rL_hold, he67, he671]; done)) ?_
  refine Bod.ic 5 (by decide) dc_338_222 ?_
  refine Bod.icF dc_338_223 rfl (k2_ne_F (k_eq e671 5 rfl rfl (by omega))) ?_
  refine Bod.aldnG dc_338_226 (by repeat (first | exact q0 | exact sm_get_p1 | exact sm_get_p2e | refine sm_get_p1m (by decide) (by decide) ?_ | refine sm_get_p1n (by decide) rfl ?_ | refine sm_get_p2n (by decide) (by decide) rfl ?_)) ?_
  refine Bod.get dc_338_227 fr_338_135 (mk_61 _) rfl ?_
  refine Bod.ildnG dc_338_230 (by repeat (first | exact q3 | exact sm_get_p1 | exact sm_get_p2e | refine sm_get_p1m (by decide) (by decide) ?_ | refine sm_get_p1n (by decide) rfl ?_ | refine sm_get_p2n (by decide) (by decide) rfl ?_)) ?_
  refine Bod.ic 1 (by decide) dc_338_231 ?_
  refine Bod.addN (li + 1) (by omega) dc_338_232 ?_
  refine Bod.ialdN (li + 1) rfl (by omega) (by omega) dc_338_233 (mk_68 _) ?_
  refine Bod.eqI (nI e68) (by first | assumption | rfl | exact congrArg nI (by omega) | (simp (disch := omega) only [rI, rIe, rA, rIA, rLA, rJA, rVI, rQI, rVA, rQA, upd_at,  rAI, rLI, rJI, nI_add, pk_sub, kc_0, kc_1, kc_2, kc_3, kc_4, kc_5, reduceIte, Nat.reduceEqDiff, Nat.add_zero, rI_hold, rI_hold, rL_hold, he67, he671, he68]; done)) ?_
  refine Bod.bip 61 (by decide) dc_338_234 ?_
  refine Bod.icF dc_338_236 rfl (k2_eq_F (k_ne e68 61 rfl rfl (by omega) (by omega) (by omega))) ?_
  refine Bod.aldnG dc_338_239 (by repeat (first | exact q0 | exact sm_get_p1 | exact sm_get_p2e | refine sm_get_p1m (by decide) (by decide) ?_ | refine sm_get_p1n (by decide) rfl ?_ | refine sm_get_p2n (by decide) (by decide) rfl ?_)) ?_
  refine Bod.get dc_338_240 fr_338_135 (mk_61 _) rfl ?_
  refine Bod.ildnG dc_338_243 (by repeat (first | exact q3 | exact sm_get_p1 | exact sm_get_p2e | refine sm_get_p1m (by decide) (by decide) ?_ | refine sm_get_p1n (by decide) rfl ?_ | refine sm_get_p2n (by decide) (by decide) rfl ?_)) ?_
  refine Bod.ic 1 (by decide) dc_338_244 ?_
  refine Bod.addN (li + 1) (by omega) dc_338_245 ?_
  refine Bod.ialdN (li + 1) rfl (by omega) (by omega) dc_338_246 (mk_68 _) ?_
  refine Bod.eqI (nI e68) (by first | assumption | rfl | exact congrArg nI (by omega) | (simp (disch := omega) only [rI, rIe, rA, rIA, rLA, rJA, rVI, rQI, rVA, rQA, upd_at,  rAI, rLI, rJI, nI_add, pk_sub, kc_0, kc_1, kc_2, kc_3, kc_4, kc_5, reduceIte, Nat.reduceEqDiff, Nat.add_zero, rI_hold, rI_hold, rL_hold, he67, he671, he68]; done)) ?_
  refine Bod.sip 256 (by decide) dc_338_247 ?_
  refine Bod.icF dc_338_250 rfl (k2_le_F e68 256 rfl rfl (by omega) (by omega)) ?_
  refine Bod.aldnG dc_338_253 (by repeat (first | exact q0 | exact sm_get_p1 | exact sm_get_p2e | refine sm_get_p1m (by decide) (by decide) ?_ | refine sm_get_p1n (by decide) rfl ?_ | refine sm_get_p2n (by decide) (by decide) rfl ?_)) ?_
  refine Bod.get dc_338_254 fr_338_135 (mk_61 _) rfl ?_
  refine Bod.ildnG dc_338_257 (by repeat (first | exact q3 | exact sm_get_p1 | exact sm_get_p2e | refine sm_get_p1m (by decide) (by decide) ?_ | refine sm_get_p1n (by decide) rfl ?_ | refine sm_get_p2n (by decide) (by decide) rfl ?_)) ?_
  refine Bod.ic 1 (by decide) dc_338_258 ?_
  refine Bod.addN (li + 1) (by omega) dc_338_259 ?_
  refine Bod.ialdN (li + 1) rfl (by omega) (by omega) dc_338_260 (mk_68 _) ?_
  refine Bod.eqI (nI e68) (by first | assumption | rfl | exact congrArg nI (by omega) | (simp (disch := omega) only [rI, rIe, rA, rIA, rLA, rJA, rVI, rQI, rVA, rQA, upd_at,  rAI, rLI, rJI, nI_add, pk_sub, kc_0, kc_1, kc_2, kc_3, kc_4, kc_5, reduceIte, Nat.reduceEqDiff, Nat.add_zero, rI_hold, rI_hold, rL_hold, he67, he671, he68]; done)) ?_
  refine Bod.sip 256 (by decide) dc_338_261 ?_
  refine Bod.iremN (e68 % 256) (by omega) (by omega) (by omega) rfl dc_338_264 ?_
  refine Bod.bip 61 (by decide) dc_338_265 ?_
  refine Bod.icF dc_338_267 rfl (k2_ne_F (k_eq (e68 % 256) 61 rfl rfl (by omega))) ?_
  refine Bod.aldnG dc_338_270 (by repeat (first | exact q0 | exact sm_get_p1 | exact sm_get_p2e | refine sm_get_p1m (by decide) (by decide) ?_ | refine sm_get_p1n (by decide) rfl ?_ | refine sm_get_p2n (by decide) (by decide) rfl ?_)) ?_
  refine Bod.get dc_338_271 fr_338_135 (mk_61 _) rfl ?_
  refine Bod.ildnG dc_338_274 (by repeat (first | exact q3 | exact sm_get_p1 | exact sm_get_p2e | refine sm_get_p1m (by decide) (by decide) ?_ | refine sm_get_p1n (by decide) rfl ?_ | refine sm_get_p2n (by decide) (by decide) rfl ?_)) ?_
  refine Bod.ic 1 (by decide) dc_338_275 ?_
  refine Bod.addN (li + 1) (by omega) dc_338_276 ?_
  refine Bod.ialdN (li + 1) rfl (by omega) (by omega) dc_338_277 (mk_68 _) ?_
  refine Bod.eqI (nI e68) (by first | assumption | rfl | exact congrArg nI (by omega) | (simp (disch := omega) only [rI, rIe, rA, rIA, rLA, rJA, rVI, rQI, rVA, rQA, upd_at,  rAI, rLI, rJI, nI_add, pk_sub, kc_0, kc_1, kc_2, kc_3, kc_4, kc_5, reduceIte, Nat.reduceEqDiff, Nat.add_zero, rI_hold, rI_hold, rL_hold, he67, he671, he68]; done)) ?_
  refine Bod.sip 256 (by decide) dc_338_278 ?_
  refine Bod.idivN (e68 / 256) (by omega) (by omega) (by omega) rfl dc_338_281 ?_
  refine Bod.bip 43 (by decide) dc_338_282 ?_
  refine Bod.icT dc_338_284 rfl (k2_eq_T (k_eq (e68 / 256) 43 rfl rfl (by omega))) ?_
  refine Bod.aldnG dc_338_321 (by repeat (first | exact q0 | exact sm_get_p1 | exact sm_get_p2e | refine sm_get_p1m (by decide) (by decide) ?_ | refine sm_get_p1n (by decide) rfl ?_ | refine sm_get_p2n (by decide) (by decide) rfl ?_)) ?_
  refine Bod.aldnG dc_338_322 (by repeat (first | exact q0 | exact sm_get_p1 | exact sm_get_p2e | refine sm_get_p1m (by decide) (by decide) ?_ | refine sm_get_p1n (by decide) rfl ?_ | refine sm_get_p2n (by decide) (by decide) rfl ?_)) ?_
  refine Bod.get dc_338_323 fr_338_135 (mk_61 _) rfl ?_
  refine Bod.ildnG dc_338_326 (by repeat (first | exact q3 | exact sm_get_p1 | exact sm_get_p2e | refine sm_get_p1m (by decide) (by decide) ?_ | refine sm_get_p1n (by decide) rfl ?_ | refine sm_get_p2n (by decide) (by decide) rfl ?_)) ?_
  refine Bod.ialdN li rfl (by omega) (by omega) dc_338_327 (mk_68 _) ?_
  refine Bod.eqI (nI e681) (by first | assumption | rfl | exact congrArg nI (by omega) | (simp (disch := omega) only [rI, rIe, rA, rIA, rLA, rJA, rVI, rQI, rVA, rQA, upd_at,  rAI, rLI, rJI, nI_add, pk_sub, kc_0, kc_1, kc_2, kc_3, kc_4, kc_5, reduceIte, Nat.reduceEqDiff, Nat.add_zero, rI_hold, rI_hold, rL_hold, he67, he671, he68, he681]; done)) ?_
  refine Bod.virt (r := []) dc_338_328 kr_338_356 ⟨Or.inl rfl, ow_339, cl_14⟩ (by rw [np_339]; rfl) (by rw [np_339]; rfl) (ob_of (mk_61 _)) (Nat.le_of_ble_eq_true rfl) (c1  ) ?_
  show Bod _ _ _ _ [] _ _ _
  exact hB _ (by repeat (first | exact q0 | exact sm_get_p1 | exact sm_get_p2e | refine sm_get_p1m (by decide) (by decide) ?_ | refine sm_get_p1n (by decide) rfl ?_ | refine sm_get_p2n (by decide) (by decide) rfl ?_)) (by repeat (first | exact q1 | exact sm_get_p1 | exact sm_get_p2e | refine sm_get_p1m (by decide) (by decide) ?_ | refine sm_get_p1n (by decide) rfl ?_ | refine sm_get_p2n (by decide) (by decide) rfl ?_)) (by repeat (first | exact q2 | exact sm_get_p1 | exact sm_get_p2e | refine sm_get_p1m (by decide) (by decide) ?_ | refine sm_get_p1n (by decide) rfl ?_ | refine sm_get_p2n (by decide) (by decide) rfl ?_)) (by repeat (first | exact q3 | exact sm_get_p1 | exact sm_get_p2e | refine sm_get_p1m (by decide) (by decide) ?_ | refine sm_get_p1n (by decide) rfl ?_ | refine sm_get_p2n (by decide) (by decide) rfl ?_)) (by repeat (first | exact q4 | exact sm_get_p1 | exact sm_get_p2e | refine sm_get_p1m (by decide) (by decide) ?_ | refine sm_get_p1n (by decide) rfl ?_ | refine sm_get_p2n (by decide) (by decide) rfl ?_))
theorem zSx_7 {d : Nat} {S Sf : cS} {v : Option Value} {lv : sm_L} {la : Nat} {lw : Nat} {li : Nat} {e67 : Nat} {e671 : Nat} {e68 : Nat} {e681 : Nat} {S1 : cS} (q0 : sm_get lv 0 = some (.ref 61)) (q1 : sm_get lv 1 = some (.int (nI la))) (q2 : sm_get lv 2 = some (.int (nI lw))) (q3 : sm_get lv 3 = some (.int (nI li))) (q4 : sm_get lv 4 = some (.int (Int32.ofInt (-1)))) (mla : la < 2 ^ 20) (mlw : lw < 2 ^ 20) (mli : li < 2 ^ 20) (b1 : li < 6002) (he67 : sA S 67 li = nI e67) (me67 : e67 < 2 ^ 20) (b2 : e67 = 1) (b3 : li + 1 < 6002) (he671 : sA S 67 (li + 1) = nI e671) (me671 : e671 < 2 ^ 20) (b4 : e671 = 5) (he68 : sA S 68 (li + 1) = nI e68) (me68 : e68 < 2 ^ 20) (b5 : e68 ≠ 61) (b6 : 256 < e68) (b7 : (e68 % 256) = 61) (b8 : (e68 / 256) ≠ 43) (b9 : (e68 / 256) = 45) (he681 : sA S 68 li = nI e681) (me681 : e681 < 2 ^ 20) (c1 : Ans (d + 8) 339 [.ref 61, .int (nI e681)] S none S1) (hB : ∀ lv1 : sm_L, sm_get lv1 0 = some (.ref 61) → sm_get lv1 1 = some (.int (nI la)) → sm_get lv1 2 = some (.int (nI lw)) → sm_get lv1 3 = some (.int (nI li)) → sm_get lv1 4 = some (.int (Int32.ofInt (-1))) → Bod (d + 8) 338 331 lv1 [] (S1) v Sf) : Bod (d + 8) 338 204 lv [] S v Sf := by
  refine Bod.aldnG dc_338_204 (by repeat (first | exact q0 | exact sm_get_p1 | exact sm_get_p2e | refine sm_get_p1m (by decide) (by decide) ?_ | refine sm_get_p1n (by decide) rfl ?_ | refine sm_get_p2n (by decide) (by decide) rfl ?_)) ?_
  refine Bod.get dc_338_205 fr_338_129 (mk_61 _) rfl ?_
  refine Bod.ildnG dc_338_208 (by repeat (first | exact q3 | exact sm_get_p1 | exact sm_get_p2e | refine sm_get_p1m (by decide) (by decide) ?_ | refine sm_get_p1n (by decide) rfl ?_ | refine sm_get_p2n (by decide) (by decide) rfl ?_)) ?_
  refine Bod.ialdN li rfl (by omega) (by omega) dc_338_209 (mk_67 _) ?_
  refine Bod.eqI (nI e67) (by first | assumption | rfl | exact congrArg nI (by omega) | (simp (disch := omega) only [rI, rIe, rA, rIA, rLA, rJA, rVI, rQI, rVA, rQA, upd_at,  rAI, rLI, rJI, nI_add, pk_sub, kc_0, kc_1, kc_2, kc_3, kc_4, kc_5, reduceIte, Nat.reduceEqDiff, Nat.add_zero, rI_hold, rI_hold, rL_hold, he67]; done)) ?_
  refine Bod.ic 1 (by decide) dc_338_210 ?_
  refine Bod.icF dc_338_211 rfl (k2_ne_F (k_eq e67 1 rfl rfl (by omega))) ?_
  refine Bod.aldnG dc_338_214 (by repeat (first | exact q0 | exact sm_get_p1 | exact sm_get_p2e | refine sm_get_p1m (by decide) (by decide) ?_ | refine sm_get_p1n (by decide) rfl ?_ | refine sm_get_p2n (by decide) (by decide) rfl ?_)) ?_
  refine Bod.get dc_338_215 fr_338_129 (mk_61 _) rfl ?_
  refine Bod.ildnG dc_338_218 (by repeat (first | exact q3 | exact sm_get_p1 | exact sm_get_p2e | refine sm_get_p1m (by decide) (by decide) ?_ | refine sm_get_p1n (by decide) rfl ?_ | refine sm_get_p2n (by decide) (by decide) rfl ?_)) ?_
  refine Bod.ic 1 (by decide) dc_338_219 ?_
  refine Bod.addN (li + 1) (by omega) dc_338_220 ?_
  refine Bod.ialdN (li + 1) rfl (by omega) (by omega) dc_338_221 (mk_67 _) ?_
  refine Bod.eqI (nI e671) (by first | assumption | rfl | exact congrArg nI (by omega) | (simp (disch := omega) only [rI, rIe, rA, rIA, rLA, rJA, rVI, rQI, rVA, rQA, upd_at,  rAI, rLI, rJI, nI_add, pk_sub, kc_0, kc_1, kc_2, kc_3, kc_4, kc_5, reduceIte, Nat.reduceEqDiff, Nat.add_zero, rI_hold, rI_hold, rL_hold, he67, he671]; done)) ?_
  refine Bod.ic 5 (by decide) dc_338_222 ?_
  refine Bod.icF dc_338_223 rfl (k2_ne_F (k_eq e671 5 rfl rfl (by omega))) ?_
  refine Bod.aldnG dc_338_226 (by repeat (first | exact q0 | exact sm_get_p1 | exact sm_get_p2e | refine sm_get_p1m (by decide) (by decide) ?_ | refine sm_get_p1n (by decide) rfl ?_ | refine sm_get_p2n (by decide) (by decide) rfl ?_)) ?_
  refine Bod.get dc_338_227 fr_338_135 (mk_61 _) rfl ?_
  refine Bod.ildnG dc_338_230 (by repeat (first | exact q3 | exact sm_get_p1 | exact sm_get_p2e | refine sm_get_p1m (by decide) (by decide) ?_ | refine sm_get_p1n (by decide) rfl ?_ | refine sm_get_p2n (by decide) (by decide) rfl ?_)) ?_
  refine Bod.ic 1 (by decide) dc_338_231 ?_
  refine Bod.addN (li + 1) (by omega) dc_338_232 ?_
  refine Bod.ialdN (li + 1) rfl (by omega) (by omega) dc_338_233 (mk_68 _) ?_
  refine Bod.eqI (nI e68) (by first | assumption | rfl | exact congrArg nI (by omega) | (simp (disch := omega) only [rI, rIe, rA, rIA, rLA, rJA, rVI, rQI, rVA, rQA, upd_at,  rAI, rLI, rJI, nI_add, pk_sub, kc_0, kc_1, kc_2, kc_3, kc_4, kc_5, reduceIte, Nat.reduceEqDiff, Nat.add_zero, rI_hold, rI_hold, rL_hold, he67, he671, he68]; done)) ?_
  refine Bod.bip 61 (by decide) dc_338_234 ?_
  refine Bod.icF dc_338_236 rfl (k2_eq_F (k_ne e68 61 rfl rfl (by omega) (by omega) (by omega))) ?_
  refine Bod.aldnG dc_338_239 (by repeat (first | exact q0 | exact sm_get_p1 | exact sm_get_p2e | refine sm_get_p1m (by decide) (by decide) ?_ | refine sm_get_p1n (by decide) rfl ?_ | refine sm_get_p2n (by decide) (by decide) rfl ?_)) ?_
  refine Bod.get dc_338_240 fr_338_135 (mk_61 _) rfl ?_
  refine Bod.ildnG dc_338_243 (by repeat (first | exact q3 | exact sm_get_p1 | exact sm_get_p2e | refine sm_get_p1m (by decide) (by decide) ?_ | refine sm_get_p1n (by decide) rfl ?_ | refine sm_get_p2n (by decide) (by decide) rfl ?_)) ?_
  refine Bod.ic 1 (by decide) dc_338_244 ?_
  refine Bod.addN (li + 1) (by omega) dc_338_245 ?_
  refine Bod.ialdN (li + 1) rfl (by omega) (by omega) dc_338_246 (mk_68 _) ?_
  refine Bod.eqI (nI e68) (by first | assumption | rfl | exact congrArg nI (by omega) | (simp (disch := omega) only [rI, rIe, rA, rIA, rLA, rJA, rVI, rQI, rVA, rQA, upd_at,  rAI, rLI, rJI, nI_add, pk_sub, kc_0, kc_1, kc_2, kc_3, kc_4, kc_5, reduceIte, Nat.reduceEqDiff, Nat.add_zero, rI_hold, rI_hold, rL_hold, he67, he671, he68]; done)) ?_
  refine Bod.sip 256 (by decide) dc_338_247 ?_
  refine Bod.icF dc_338_250 rfl (k2_le_F e68 256 rfl rfl (by omega) (by omega)) ?_
  refine Bod.aldnG dc_338_253 (by repeat (first | exact q0 | exact sm_get_p1 | exact sm_get_p2e | refine sm_get_p1m (by decide) (by decide) ?_ | refine sm_get_p1n (by decide) rfl ?_ | refine sm_get_p2n (by decide) (by decide) rfl ?_)) ?_
  refine Bod.get dc_338_254 fr_338_135 (mk_61 _) rfl ?_
  refine Bod.ildnG dc_338_257 (by repeat (first | exact q3 | exact sm_get_p1 | exact sm_get_p2e | refine sm_get_p1m (by decide) (by decide) ?_ | refine sm_get_p1n (by decide) rfl ?_ | refine sm_get_p2n (by decide) (by decide) rfl ?_)) ?_
  refine Bod.ic 1 (by decide) dc_338_258 ?_
  refine Bod.addN (li + 1) (by omega) dc_338_259 ?_
  refine Bod.ialdN (li + 1) rfl (by omega) (by omega) dc_338_260 (mk_68 _) ?_
  refine Bod.eqI (nI e68) (by first | assumption | rfl | exact congrArg nI (by omega) | (simp (disch := omega) only [rI, rIe, rA, rIA, rLA, rJA, rVI, rQI, rVA, rQA, upd_at,  rAI, rLI, rJI, nI_add, pk_sub, kc_0, kc_1, kc_2, kc_3, kc_4, kc_5, reduceIte, Nat.reduceEqDiff, Nat.add_zero, rI_hold, rI_hold, rL_hold, he67, he671, he68]; done)) ?_
  refine Bod.sip 256 (by decide) dc_338_261 ?_
  refine Bod.iremN (e68 % 256) (by omega) (by omega) (by omega) rfl dc_338_264 ?_
  refine Bod.bip 61 (by decide) dc_338_265 ?_
  refine Bod.icF dc_338_267 rfl (k2_ne_F (k_eq (e68 % 256) 61 rfl rfl (by omega))) ?_
  refine Bod.aldnG dc_338_270 (by repeat (first | exact q0 | exact sm_get_p1 | exact sm_get_p2e | refine sm_get_p1m (by decide) (by decide) ?_ | refine sm_get_p1n (by decide) rfl ?_ | refine sm_get_p2n (by decide) (by decide) rfl ?_)) ?_
  refine Bod.get dc_338_271 fr_338_135 (mk_61 _) rfl ?_
  refine Bod.ildnG dc_338_274 (by repeat (first | exact q3 | exact sm_get_p1 | exact sm_get_p2e | refine sm_get_p1m (by decide) (by decide) ?_ | refine sm_get_p1n (by decide) rfl ?_ | refine sm_get_p2n (by decide) (by decide) rfl ?_)) ?_
  refine Bod.ic 1 (by decide) dc_338_275 ?_
  refine Bod.addN (li + 1) (by omega) dc_338_276 ?_
  refine Bod.ialdN (li + 1) rfl (by omega) (by omega) dc_338_277 (mk_68 _) ?_
  refine Bod.eqI (nI e68) (by first | assumption | rfl | exact congrArg nI (by omega) | (simp (disch := omega) only [rI, rIe, rA, rIA, rLA, rJA, rVI, rQI, rVA, rQA, upd_at,  rAI, rLI, rJI, nI_add, pk_sub, kc_0, kc_1, kc_2, kc_3, kc_4, kc_5, reduceIte, Nat.reduceEqDiff, Nat.add_zero, rI_hold, rI_hold, rL_hold, he67, he671, he68]; done)) ?_
  refine Bod.sip 256 (by decide) dc_338_278 ?_
  refine Bod.idivN (e68 / 256) (by omega) (by omega) (by omega) rfl dc_338_281 ?_
  refine Bod.bip 43 (by decide) dc_338_282 ?_
  refine Bod.icF dc_338_284 rfl (k2_eq_F (k_ne (e68 / 256) 43 rfl rfl (by omega) (by omega) (by omega))) ?_
  refine Bod.aldnG dc_338_287 (by repeat (first | exact q0 | exact sm_get_p1 | exact sm_get_p2e | refine sm_get_p1m (by decide) (by decide) ?_ | refine sm_get_p1n (by decide) rfl ?_ | refine sm_get_p2n (by decide) (by decide) rfl ?_)) ?_
  refine Bod.get dc_338_288 fr_338_135 (mk_61 _) rfl ?_
  refine Bod.ildnG dc_338_291 (by repeat (first | exact q3 | exact sm_get_p1 | exact sm_get_p2e | refine sm_get_p1m (by decide) (by decide) ?_ | refine sm_get_p1n (by decide) rfl ?_ | refine sm_get_p2n (by decide) (by decide) rfl ?_)) ?_
  refine Bod.ic 1 (by decide) dc_338_292 ?_
  refine Bod.addN (li + 1) (by omega) dc_338_293 ?_
  refine Bod.ialdN (li + 1) rfl (by omega) (by omega) dc_338_294 (mk_68 _) ?_
  refine Bod.eqI (nI e68) (by first | assumption | rfl | exact congrArg nI (by omega) | (simp (disch := omega) only [rI, rIe, rA, rIA, rLA, rJA, rVI, rQI, rVA, rQA, upd_at,  rAI, rLI, rJI, nI_add, pk_sub, kc_0, kc_1, kc_2, kc_3, kc_4, kc_5, reduceIte, Nat.reduceEqDiff, Nat.add_zero, rI_hold, rI_hold, rL_hold, he67, he671, he68]; done)) ?_
  refine Bod.sip 256 (by decide) dc_338_295 ?_
  refine Bod.idivN (e68 / 256) (by omega) (by omega) (by omega) rfl dc_338_298 ?_
  refine Bod.bip 45 (by decide) dc_338_299 ?_
  refine Bod.icT dc_338_301 rfl (k2_eq_T (k_eq (e68 / 256) 45 rfl rfl (by omega))) ?_
  refine Bod.aldnG dc_338_321 (by repeat (first | exact q0 | exact sm_get_p1 | exact sm_get_p2e | refine sm_get_p1m (by decide) (by decide) ?_ | refine sm_get_p1n (by decide) rfl ?_ | refine sm_get_p2n (by decide) (by decide) rfl ?_)) ?_
  refine Bod.aldnG dc_338_322 (by repeat (first | exact q0 | exact sm_get_p1 | exact sm_get_p2e | refine sm_get_p1m (by decide) (by decide) ?_ | refine sm_get_p1n (by decide) rfl ?_ | refine sm_get_p2n (by decide) (by decide) rfl ?_)) ?_
  refine Bod.get dc_338_323 fr_338_135 (mk_61 _) rfl ?_
  refine Bod.ildnG dc_338_326 (by repeat (first | exact q3 | exact sm_get_p1 | exact sm_get_p2e | refine sm_get_p1m (by decide) (by decide) ?_ | refine sm_get_p1n (by decide) rfl ?_ | refine sm_get_p2n (by decide) (by decide) rfl ?_)) ?_
  refine Bod.ialdN li rfl (by omega) (by omega) dc_338_327 (mk_68 _) ?_
  refine Bod.eqI (nI e681) (by first | assumption | rfl | exact congrArg nI (by omega) | (simp (disch := omega) only [rI, rIe, rA, rIA, rLA, rJA, rVI, rQI, rVA, rQA, upd_at,  rAI, rLI, rJI, nI_add, pk_sub, kc_0, kc_1, kc_2, kc_3, kc_4, kc_5, reduceIte, Nat.reduceEqDiff, Nat.add_zero, rI_hold, rI_hold, rL_hold, he67, he671, he68, he681]; done)) ?_
  refine Bod.virt (r := []) dc_338_328 kr_338_356 ⟨Or.inl rfl, ow_339, cl_14⟩ (by rw [np_339]; rfl) (by rw [np_339]; rfl) (ob_of (mk_61 _)) (Nat.le_of_ble_eq_true rfl) (c1  ) ?_
  show Bod _ _ _ _ [] _ _ _
  exact hB _ (by repeat (first | exact q0 | exact sm_get_p1 | exact sm_get_p2e | refine sm_get_p1m (by decide) (by decide) ?_ | refine sm_get_p1n (by decide) rfl ?_ | refine sm_get_p2n (by decide) (by decide) rfl ?_)) (by repeat (first | exact q1 | exact sm_get_p1 | exact sm_get_p2e | refine sm_get_p1m (by decide) (by decide) ?_ | refine sm_get_p1n (by decide) rfl ?_ | refine sm_get_p2n (by decide) (by decide) rfl ?_)) (by repeat (first | exact q2 | exact sm_get_p1 | exact sm_get_p2e | refine sm_get_p1m (by decide) (by decide) ?_ | refine sm_get_p1n (by decide) rfl ?_ | refine sm_get_p2n (by decide) (by decide) rfl ?_)) (by repeat (first | exact q3 | exact sm_get_p1 | exact sm_get_p2e | refine sm_get_p1m (by decide) (by decide) ?_ | refine sm_get_p1n (by decide) rfl ?_ | refine sm_get_p2n (by decide) (by decide) rfl ?_)) (by repeat (first | exact q4 | exact sm_get_p1 | exact sm_get_p2e | refine sm_get_p1m (by decide) (by decide) ?_ | refine sm_get_p1n (by decide) rfl ?_ | refine sm_get_p2n (by decide) (by decide) rfl ?_))
theorem zSx_8 {d : Nat} {S Sf : cS} {v : Option Value} {lv : sm_L} {la : Nat} {lw : Nat} {li : Nat} {e67 : Nat} {e671 : Nat} {e68 : Nat} (q0 : sm_get lv 0 = some (.ref 61)) (q1 : sm_get lv 1 = some (.int (nI la))) (q2 : sm_get lv 2 = some (.int (nI lw))) (q3 : sm_get lv 3 = some (.int (nI li))) (q4 : sm_get lv 4 = some (.int (Int32.ofInt (-1)))) (mla : la < 2 ^ 20) (mlw : lw < 2 ^ 20) (mli : li < 2 ^ 20) (b1 : li < 6002) (he67 : sA S 67 li = nI e67) (me67 : e67 < 2 ^ 20) (b2 : e67 = 1) (b3 : li + 1 < 6002) (he671 : sA S 67 (li + 1) = nI e671) (me671 : e671 < 2 ^ 20) (b4 : e671 = 5) (he68 : sA S 68 (li + 1) = nI e68) (me68 : e68 < 2 ^ 20) (b5 : e68 ≠ 61) (b6 : 256 < e68) (b7 : (e68 % 256) = 61) (b8 : (e68 / 256) ≠ 43) (b9 : (e68 / 256) ≠ 45) (b10 : (e68 / 256) ≠ 42) (hB : ∀ lv1 : sm_L, sm_get lv1 0 = some (.ref 61) → sm_get lv1 1 = some (.int (nI la)) → sm_get lv1 2 = some (.int (nI lw)) → sm_get lv1 3 = some (.int (nI li)) → sm_get lv1 4 = some (.int (Int32.ofInt (-1))) → Bod (d + 8) 338 331 lv1 [] (S) v Sf) : Bod (d + 8) 338 204 lv [] S v Sf := by
  refine Bod.aldnG dc_338_204 (by repeat (first | exact q0 | exact sm_get_p1 | exact sm_get_p2e | refine sm_get_p1m (by decide) (by decide) ?_ | refine sm_get_p1n (by decide) rfl ?_ | refine sm_get_p2n (by decide) (by decide) rfl ?_)) ?_
  refine Bod.get dc_338_205 fr_338_129 (mk_61 _) rfl ?_
  refine Bod.ildnG dc_338_208 (by repeat (first | exact q3 | exact sm_get_p1 | exact sm_get_p2e | refine sm_get_p1m (by decide) (by decide) ?_ | refine sm_get_p1n (by decide) rfl ?_ | refine sm_get_p2n (by decide) (by decide) rfl ?_)) ?_
  refine Bod.ialdN li rfl (by omega) (by omega) dc_338_209 (mk_67 _) ?_
  refine Bod.eqI (nI e67) (by first | assumption | rfl | exact congrArg nI (by omega) | (simp (disch := omega) only [rI, rIe, rA, rIA, rLA, rJA, rVI, rQI, rVA, rQA, upd_at,  rAI, rLI, rJI, nI_add, pk_sub, kc_0, kc_1, kc_2, kc_3, kc_4, kc_5, reduceIte, Nat.reduceEqDiff, Nat.add_zero, rI_hold, rI_hold, rL_hold, he67]; done)) ?_
  refine Bod.ic 1 (by decide) dc_338_210 ?_
  refine Bod.icF dc_338_211 rfl (k2_ne_F (k_eq e67 1 rfl rfl (by omega))) ?_
  refine Bod.aldnG dc_338_214 (by repeat (first | exact q0 | exact sm_get_p1 | exact sm_get_p2e | refine sm_get_p1m (by decide) (by decide) ?_ | refine sm_get_p1n (by decide) rfl ?_ | refine sm_get_p2n (by decide) (by decide) rfl ?_)) ?_
  refine Bod.get dc_338_215 fr_338_129 (mk_61 _) rfl ?_
  refine Bod.ildnG dc_338_218 (by repeat (first | exact q3 | exact sm_get_p1 | exact sm_get_p2e | refine sm_get_p1m (by decide) (by decide) ?_ | refine sm_get_p1n (by decide) rfl ?_ | refine sm_get_p2n (by decide) (by decide) rfl ?_)) ?_
  refine Bod.ic 1 (by decide) dc_338_219 ?_
  refine Bod.addN (li + 1) (by omega) dc_338_220 ?_
  refine Bod.ialdN (li + 1) rfl (by omega) (by omega) dc_338_221 (mk_67 _) ?_
  refine Bod.eqI (nI e671) (by first | assumption | rfl | exact congrArg nI (by omega) | (simp (disch := omega) only [rI, rIe, rA, rIA, rLA, rJA, rVI, rQI, rVA, rQA, upd_at,  rAI, rLI, rJI, nI_add, pk_sub, kc_0, kc_1, kc_2, kc_3, kc_4, kc_5, reduceIte, Nat.reduceEqDiff, Nat.add_zero, rI_hold, rI_hold, rL_hold, he67, he671]; done)) ?_
  refine Bod.ic 5 (by decide) dc_338_222 ?_
  refine Bod.icF dc_338_223 rfl (k2_ne_F (k_eq e671 5 rfl rfl (by omega))) ?_
  refine Bod.aldnG dc_338_226 (by repeat (first | exact q0 | exact sm_get_p1 | exact sm_get_p2e | refine sm_get_p1m (by decide) (by decide) ?_ | refine sm_get_p1n (by decide) rfl ?_ | refine sm_get_p2n (by decide) (by decide) rfl ?_)) ?_
  refine Bod.get dc_338_227 fr_338_135 (mk_61 _) rfl ?_
  refine Bod.ildnG dc_338_230 (by repeat (first | exact q3 | exact sm_get_p1 | exact sm_get_p2e | refine sm_get_p1m (by decide) (by decide) ?_ | refine sm_get_p1n (by decide) rfl ?_ | refine sm_get_p2n (by decide) (by decide) rfl ?_)) ?_
  refine Bod.ic 1 (by decide) dc_338_231 ?_
  refine Bod.addN (li + 1) (by omega) dc_338_232 ?_
  refine Bod.ialdN (li + 1) rfl (by omega) (by omega) dc_338_233 (mk_68 _) ?_
  refine Bod.eqI (nI e68) (by first | assumption | rfl | exact congrArg nI (by omega) | (simp (disch := omega) only [rI, rIe, rA, rIA, rLA, rJA, rVI, rQI, rVA, rQA, upd_at,  rAI, rLI, rJI, nI_add, pk_sub, kc_0, kc_1, kc_2, kc_3, kc_4, kc_5, reduceIte, Nat.reduceEqDiff, Nat.add_zero, rI_hold, rI_hold, rL_hold, he67, he671, he68]; done)) ?_
  refine Bod.bip 61 (by decide) dc_338_234 ?_
  refine Bod.icF dc_338_236 rfl (k2_eq_F (k_ne e68 61 rfl rfl (by omega) (by omega) (by omega))) ?_
  refine Bod.aldnG dc_338_239 (by repeat (first | exact q0 | exact sm_get_p1 | exact sm_get_p2e | refine sm_get_p1m (by decide) (by decide) ?_ | refine sm_get_p1n (by decide) rfl ?_ | refine sm_get_p2n (by decide) (by decide) rfl ?_)) ?_
  refine Bod.get dc_338_240 fr_338_135 (mk_61 _) rfl ?_
  refine Bod.ildnG dc_338_243 (by repeat (first | exact q3 | exact sm_get_p1 | exact sm_get_p2e | refine sm_get_p1m (by decide) (by decide) ?_ | refine sm_get_p1n (by decide) rfl ?_ | refine sm_get_p2n (by decide) (by decide) rfl ?_)) ?_
  refine Bod.ic 1 (by decide) dc_338_244 ?_
  refine Bod.addN (li + 1) (by omega) dc_338_245 ?_
  refine Bod.ialdN (li + 1) rfl (by omega) (by omega) dc_338_246 (mk_68 _) ?_
  refine Bod.eqI (nI e68) (by first | assumption | rfl | exact congrArg nI (by omega) | (simp (disch := omega) only [rI, rIe, rA, rIA, rLA, rJA, rVI, rQI, rVA, rQA, upd_at,  rAI, rLI, rJI, nI_add, pk_sub, kc_0, kc_1, kc_2, kc_3, kc_4, kc_5, reduceIte, Nat.reduceEqDiff, Nat.add_zero, rI_hold, rI_hold, rL_hold, he67, he671, he68]; done)) ?_
  refine Bod.sip 256 (by decide) dc_338_247 ?_
  refine Bod.icF dc_338_250 rfl (k2_le_F e68 256 rfl rfl (by omega) (by omega)) ?_
  refine Bod.aldnG dc_338_253 (by repeat (first | exact q0 | exact sm_get_p1 | exact sm_get_p2e | refine sm_get_p1m (by decide) (by decide) ?_ | refine sm_get_p1n (by decide) rfl ?_ | refine sm_get_p2n (by decide) (by decide) rfl ?_)) ?_
  refine Bod.get dc_338_254 fr_338_135 (mk_61 _) rfl ?_
  refine Bod.ildnG dc_338_257 (by repeat (first | exact q3 | exact sm_get_p1 | exact sm_get_p2e | refine sm_get_p1m (by decide) (by decide) ?_ | refine sm_get_p1n (by decide) rfl ?_ | refine sm_get_p2n (by decide) (by decide) rfl ?_)) ?_
  refine Bod.ic 1 (by decide) dc_338_258 ?_
  refine Bod.addN (li + 1) (by omega) dc_338_259 ?_
  refine Bod.ialdN (li + 1) rfl (by omega) (by omega) dc_338_260 (mk_68 _) ?_
  refine Bod.eqI (nI e68) (by first | assumption | rfl | exact congrArg nI (by omega) | (simp (disch := omega) only [rI, rIe, rA, rIA, rLA, rJA, rVI, rQI, rVA, rQA, upd_at,  rAI, rLI, rJI, nI_add, pk_sub, kc_0, kc_1, kc_2, kc_3, kc_4, kc_5, reduceIte, Nat.reduceEqDiff, Nat.add_zero, rI_hold, rI_hold, rL_hold, he67, he671, he68]; done)) ?_
  refine Bod.sip 256 (by decide) dc_338_261 ?_
  refine Bod.iremN (e68 % 256) (by omega) (by omega) (by omega) rfl dc_338_264 ?_
  refine Bod.bip 61 (by decide) dc_338_265 ?_
  refine Bod.icF dc_338_267 rfl (k2_ne_F (k_eq (e68 % 256) 61 rfl rfl (by omega))) ?_
  refine Bod.aldnG dc_338_270 (by repeat (first | exact q0 | exact sm_get_p1 | exact sm_get_p2e | refine sm_get_p1m (by decide) (by decide) ?_ | refine sm_get_p1n (by decide) rfl ?_ | refine sm_get_p2n (by decide) (by decide) rfl ?_)) ?_
  refine Bod.get dc_338_271 fr_338_135 (mk_61 _) rfl ?_
  refine Bod.ildnG dc_338_274 (by repeat (first | exact q3 | exact sm_get_p1 | exact sm_get_p2e | refine sm_get_p1m (by decide) (by decide) ?_ | refine sm_get_p1n (by decide) rfl ?_ | refine sm_get_p2n (by decide) (by decide) rfl ?_)) ?_
  refine Bod.ic 1 (by decide) dc_338_275 ?_
  refine Bod.addN (li + 1) (by omega) dc_338_276 ?_
  refine Bod.ialdN (li + 1) rfl (by omega) (by omega) dc_338_277 (mk_68 _) ?_
  refine Bod.eqI (nI e68) (by first | assumption | rfl | exact congrArg nI (by omega) | (simp (disch := omega) only [rI, rIe, rA, rIA, rLA, rJA, rVI, rQI, rVA, rQA, upd_at,  rAI, rLI, rJI, nI_add, pk_sub, kc_0, kc_1, kc_2, kc_3, kc_4, kc_5, reduceIte, Nat.reduceEqDiff, Nat.add_zero, rI_hold, rI_hold, rL_hold, he67, he671, he68]; done)) ?_
  refine Bod.sip 256 (by decide) dc_338_278 ?_
  refine Bod.idivN (e68 / 256) (by omega) (by omega) (by omega) rfl dc_338_281 ?_
  refine Bod.bip 43 (by decide) dc_338_282 ?_
  refine Bod.icF dc_338_284 rfl (k2_eq_F (k_ne (e68 / 256) 43 rfl rfl (by omega) (by omega) (by omega))) ?_
  refine Bod.aldnG dc_338_287 (by repeat (first | exact q0 | exact sm_get_p1 | exact sm_get_p2e | refine sm_get_p1m (by decide) (by decide) ?_ | refine sm_get_p1n (by decide) rfl ?_ | refine sm_get_p2n (by decide) (by decide) rfl ?_)) ?_
  refine Bod.get dc_338_288 fr_338_135 (mk_61 _) rfl ?_
  refine Bod.ildnG dc_338_291 (by repeat (first | exact q3 | exact sm_get_p1 | exact sm_get_p2e | refine sm_get_p1m (by decide) (by decide) ?_ | refine sm_get_p1n (by decide) rfl ?_ | refine sm_get_p2n (by decide) (by decide) rfl ?_)) ?_
  refine Bod.ic 1 (by decide) dc_338_292 ?_
  refine Bod.addN (li + 1) (by omega) dc_338_293 ?_
  refine Bod.ialdN (li + 1) rfl (by omega) (by omega) dc_338_294 (mk_68 _) ?_
  refine Bod.eqI (nI e68) (by first | assumption | rfl | exact congrArg nI (by omega) | (simp (disch := omega) only [rI, rIe, rA, rIA, rLA, rJA, rVI, rQI, rVA, rQA, upd_at,  rAI, rLI, rJI, nI_add, pk_sub, kc_0, kc_1, kc_2, kc_3, kc_4, kc_5, reduceIte, Nat.reduceEqDiff, Nat.add_zero, rI_hold, rI_hold, rL_hold, he67, he671, he68]; done)) ?_
  refine Bod.sip 256 (by decide) dc_338_295 ?_
  refine Bod.idivN (e68 / 256) (by omega) (by omega) (by omega) rfl dc_338_298 ?_
  refine Bod.bip 45 (by decide) dc_338_299 ?_
  refine Bod.icF dc_338_301 rfl (k2_eq_F (k_ne (e68 / 256) 45 rfl rfl (by omega) (by omega) (by omega))) ?_
  refine Bod.aldnG dc_338_304 (by repeat (first | exact q0 | exact sm_get_p1 | exact sm_get_p2e | refine sm_get_p1m (by decide) (by decide) ?_ | refine sm_get_p1n (by decide) rfl ?_ | refine sm_get_p2n (by decide) (by decide) rfl ?_)) ?_
  refine Bod.get dc_338_305 fr_338_135 (mk_61 _) rfl ?_
  refine Bod.ildnG dc_338_308 (by repeat (first | exact q3 | exact sm_get_p1 | exact sm_get_p2e | refine sm_get_p1m (by decide) (by decide) ?_ | refine sm_get_p1n (by decide) rfl ?_ | refine sm_get_p2n (by decide) (by decide) rfl ?_)) ?_
  refine Bod.ic 1 (by decide) dc_338_309 ?_
  refine Bod.addN (li + 1) (by omega) dc_338_310 ?_
  refine Bod.ialdN (li + 1) rfl (by omega) (by omega) dc_338_311 (mk_68 _) ?_
  refine Bod.eqI (nI e68) (by first | assumption | rfl | exact congrArg nI (by omega) | (simp (disch := omega) only [rI, rIe, rA, rIA, rLA, rJA, rVI, rQI, rVA, rQA, upd_at,  rAI, rLI, rJI, nI_add, pk_sub, kc_0, kc_1, kc_2, kc_3, kc_4, kc_5, reduceIte, Nat.reduceEqDiff, Nat.add_zero, rI_hold, rI_hold, rL_hold, he67, he671, he68]; done)) ?_
  refine Bod.sip 256 (by decide) dc_338_312 ?_
  refine Bod.idivN (e68 / 256) (by omega) (by omega) (by omega) rfl dc_338_315 ?_
  refine Bod.bip 42 (by decide) dc_338_316 ?_
  refine Bod.icT dc_338_318 rfl (k2_ne_T (k_ne (e68 / 256) 42 rfl rfl (by omega) (by omega) (by omega))) ?_
  exact hB _ (by repeat (first | exact q0 | exact sm_get_p1 | exact sm_get_p2e | refine sm_get_p1m (by decide) (by decide) ?_ | refine sm_get_p1n (by decide) rfl ?_ | refine sm_get_p2n (by decide) (by decide) rfl ?_)) (by repeat (first | exact q1 | exact sm_get_p1 | exact sm_get_p2e | refine sm_get_p1m (by decide) (by decide) ?_ | refine sm_get_p1n (by decide) rfl ?_ | refine sm_get_p2n (by decide) (by decide) rfl ?_)) (by repeat (first | exact q2 | exact sm_get_p1 | exact sm_get_p2e | refine sm_get_p1m (by decide) (by decide) ?_ | refine sm_get_p1n (by decide) rfl ?_ | refine sm_get_p2n (by decide) (by decide) rfl ?_)) (by repeat (first | exact q3 | exact sm_get_p1 | exact sm_get_p2e | refine sm_get_p1m (by decide) (by decide) ?_ | refine sm_get_p1n (by decide) rfl ?_ | refine sm_get_p2n (by decide) (by decide) rfl ?_)) (by repeat (first | exact q4 | exact sm_get_p1 | exact sm_get_p2e | refine sm_get_p1m (by decide) (by decide) ?_ | refine sm_get_p1n (by decide) rfl ?_ | refine sm_get_p2n (by decide) (by decide) rfl ?_))
theorem zSx_9 {d : Nat} {S Sf : cS} {v : Option Value} {lv : sm_L} {la : Nat} {lw : Nat} {li : Nat} {e67 : Nat} {e671 : Nat} {e68 : Nat} {e681 : Nat} {S1 : cS} (q0 : sm_get lv 0 = some (.ref 61)) (q1 : sm_get lv 1 = some (.int (nI la))) (q2 : sm_get lv 2 = some (.int (nI lw))) (q3 : sm_get lv 3 = some (.int (nI li))) (q4 : sm_get lv 4 = some (.int (Int32.ofInt (-1)))) (mla : la < 2 ^ 20) (mlw : lw < 2 ^ 20) (mli : li < 2 ^ 20) (b1 : li < 6002) (he67 : sA S 67 li = nI e67) (me67 : e67 < 2 ^ 20) (b2 : e67 = 1) (b3 : li + 1 < 6002) (he671 : sA S 67 (li + 1) = nI e671) (me671 : e671 < 2 ^ 20) (b4 : e671 = 5) (he68 : sA S 68 (li + 1) = nI e68) (me68 : e68 < 2 ^ 20) (b5 : e68 ≠ 61) (b6 : 256 < e68) (b7 : (e68 % 256) = 61) (b8 : (e68 / 256) ≠ 43) (b9 : (e68 / 256) ≠ 45) (b10 : (e68 / 256) = 42) (he681 : sA S 68 li = nI e681) (me681 : e681 < 2 ^ 20) (c1 : Ans (d + 8) 339 [.ref 61, .int (nI e681)] S none S1) (hB : ∀ lv1 : sm_L, sm_get lv1 0 = some (.ref 61) → sm_get lv1 1 = some (.int (nI la)) → sm_get lv1 2 = some (.int (nI lw)) → sm_get lv1 3 = some (.int (nI li)) → sm_get lv1 4 = some (.int (Int32.ofInt (-1))) → Bod (d + 8) 338 331 lv1 [] (S1) v Sf) : Bod (d + 8) 338 204 lv [] S v Sf := by
  refine Bod.aldnG dc_338_204 (by repeat (first | exact q0 | exact sm_get_p1 | exact sm_get_p2e | refine sm_get_p1m (by decide) (by decide) ?_ | refine sm_get_p1n (by decide) rfl ?_ | refine sm_get_p2n (by decide) (by decide) rfl ?_)) ?_
  refine Bod.get dc_338_205 fr_338_129 (mk_61 _) rfl ?_
  refine Bod.ildnG dc_338_208 (by repeat (first | exact q3 | exact sm_get_p1 | exact sm_get_p2e | refine sm_get_p1m (by decide) (by decide) ?_ | refine sm_get_p1n (by decide) rfl ?_ | refine sm_get_p2n (by decide) (by decide) rfl ?_)) ?_
  refine Bod.ialdN li rfl (by omega) (by omega) dc_338_209 (mk_67 _) ?_
  refine Bod.eqI (nI e67) (by first | assumption | rfl | exact congrArg nI (by omega) | (simp (disch := omega) only [rI, rIe, rA, rIA, rLA, rJA, rVI, rQI, rVA, rQA, upd_at,  rAI, rLI, rJI, nI_add, pk_sub, kc_0, kc_1, kc_2, kc_3, kc_4, kc_5, reduceIte, Nat.reduceEqDiff, Nat.add_zero, rI_hold, rI_hold, rL_hold, he67]; done)) ?_
  refine Bod.ic 1 (by decide) dc_338_210 ?_
  refine Bod.icF dc_338_211 rfl (k2_ne_F (k_eq e67 1 rfl rfl (by omega))) ?_
  refine Bod.aldnG dc_338_214 (by repeat (first | exact q0 | exact sm_get_p1 | exact sm_get_p2e | refine sm_get_p1m (by decide) (by decide) ?_ | refine sm_get_p1n (by decide) rfl ?_ | refine sm_get_p2n (by decide) (by decide) rfl ?_)) ?_
  refine Bod.get dc_338_215 fr_338_129 (mk_61 _) rfl ?_
  refine Bod.ildnG dc_338_218 (by repeat (first | exact q3 | exact sm_get_p1 | exact sm_get_p2e | refine sm_get_p1m (by decide) (by decide) ?_ | refine sm_get_p1n (by decide) rfl ?_ | refine sm_get_p2n (by decide) (by decide) rfl ?_)) ?_
  refine Bod.ic 1 (by decide) dc_338_219 ?_
  refine Bod.addN (li + 1) (by omega) dc_338_220 ?_
  refine Bod.ialdN (li + 1) rfl (by omega) (by omega) dc_338_221 (mk_67 _) ?_
  refine Bod.eqI (nI e671) (by first | assumption | rfl | exact congrArg nI (by omega) | (simp (disch := omega) only [rI, rIe, rA, rIA, rLA, rJA, rVI, rQI, rVA, rQA, upd_at,  rAI, rLI, rJI, nI_add, pk_sub, kc_0, kc_1, kc_2, kc_3, kc_4, kc_5, reduceIte, Nat.reduceEqDiff, Nat.add_zero, rI_hold, rI_hold, rL_hold, he67, he671]; done)) ?_
  refine Bod.ic 5 (by decide) dc_338_222 ?_
  refine Bod.icF dc_338_223 rfl (k2_ne_F (k_eq e671 5 rfl rfl (by omega))) ?_
  refine Bod.aldnG dc_338_226 (by repeat (first | exact q0 | exact sm_get_p1 | exact sm_get_p2e | refine sm_get_p1m (by decide) (by decide) ?_ | refine sm_get_p1n (by decide) rfl ?_ | refine sm_get_p2n (by decide) (by decide) rfl ?_)) ?_
  refine Bod.get dc_338_227 fr_338_135 (mk_61 _) rfl ?_
  refine Bod.ildnG dc_338_230 (by repeat (first | exact q3 | exact sm_get_p1 | exact sm_get_p2e | refine sm_get_p1m (by decide) (by decide) ?_ | refine sm_get_p1n (by decide) rfl ?_ | refine sm_get_p2n (by decide) (by decide) rfl ?_)) ?_
  refine Bod.ic 1 (by decide) dc_338_231 ?_
  refine Bod.addN (li + 1) (by omega) dc_338_232 ?_
  refine Bod.ialdN (li + 1) rfl (by omega) (by omega) dc_338_233 (mk_68 _) ?_
  refine Bod.eqI (nI e68) (by first | assumption | rfl | exact congrArg nI (by omega) | (simp (disch := omega) only [rI, rIe, rA, rIA, rLA, rJA, rVI, rQI, rVA, rQA, upd_at,  rAI, rLI, rJI, nI_add, pk_sub, kc_0, kc_1, kc_2, kc_3, kc_4, kc_5, reduceIte, Nat.reduceEqDiff, Nat.add_zero, rI_hold, rI_hold, rL_hold, he67, he671, he68]; done)) ?_
  refine Bod.bip 61 (by decide) dc_338_234 ?_
  refine Bod.icF dc_338_236 rfl (k2_eq_F (k_ne e68 61 rfl rfl (by omega) (by omega) (by omega))) ?_
  refine Bod.aldnG dc_338_239 (by repeat (first | exact q0 | exact sm_get_p1 | exact sm_get_p2e | refine sm_get_p1m (by decide) (by decide) ?_ | refine sm_get_p1n (by decide) rfl ?_ | refine sm_get_p2n (by decide) (by decide) rfl ?_)) ?_
  refine Bod.get dc_338_240 fr_338_135 (mk_61 _) rfl ?_
  refine Bod.ildnG dc_338_243 (by repeat (first | exact q3 | exact sm_get_p1 | exact sm_get_p2e | refine sm_get_p1m (by decide) (by decide) ?_ | refine sm_get_p1n (by decide) rfl ?_ | refine sm_get_p2n (by decide) (by decide) rfl ?_)) ?_
  refine Bod.ic 1 (by decide) dc_338_244 ?_
  refine Bod.addN (li + 1) (by omega) dc_338_245 ?_
  refine Bod.ialdN (li + 1) rfl (by omega) (by omega) dc_338_246 (mk_68 _) ?_
  refine Bod.eqI (nI e68) (by first | assumption | rfl | exact congrArg nI (by omega) | (simp (disch := omega) only [rI, rIe, rA, rIA, rLA, rJA, rVI, rQI, rVA, rQA, upd_at,  rAI, rLI, rJI, nI_add, pk_sub, kc_0, kc_1, kc_2, kc_3, kc_4, kc_5, reduceIte, Nat.reduceEqDiff, Nat.add_zero, rI_hold, rI_hold, rL_hold, he67, he671, he68]; done)) ?_
  refine Bod.sip 256 (by decide) dc_338_247 ?_
  refine Bod.icF dc_338_250 rfl (k2_le_F e68 256 rfl rfl (by omega) (by omega)) ?_
  refine Bod.aldnG dc_338_253 (by repeat (first | exact q0 | exact sm_get_p1 | exact sm_get_p2e | refine sm_get_p1m (by decide) (by decide) ?_ | refine sm_get_p1n (by decide) rfl ?_ | refine sm_get_p2n (by decide) (by decide) rfl ?_)) ?_
  refine Bod.get dc_338_254 fr_338_135 (mk_61 _) rfl ?_
  refine Bod.ildnG dc_338_257 (by repeat (first | exact q3 | exact sm_get_p1 | exact sm_get_p2e | refine sm_get_p1m (by decide) (by decide) ?_ | refine sm_get_p1n (by decide) rfl ?_ | refine sm_get_p2n (by decide) (by decide) rfl ?_)) ?_
  refine Bod.ic 1 (by decide) dc_338_258 ?_
  refine Bod.addN (li + 1) (by omega) dc_338_259 ?_
  refine Bod.ialdN (li + 1) rfl (by omega) (by omega) dc_338_260 (mk_68 _) ?_
  refine Bod.eqI (nI e68) (by first | assumption | rfl | exact congrArg nI (by omega) | (simp (disch := omega) only [rI, rIe, rA, rIA, rLA, rJA, rVI, rQI, rVA, rQA, upd_at,  rAI, rLI, rJI, nI_add, pk_sub, kc_0, kc_1, kc_2, kc_3, kc_4, kc_5, reduceIte, Nat.reduceEqDiff, Nat.add_zero, rI_hold, rI_hold, rL_hold, he67, he671, he68]; done)) ?_
  refine Bod.sip 256 (by decide) dc_338_261 ?_
  refine Bod.iremN (e68 % 256) (by omega) (by omega) (by omega) rfl dc_338_264 ?_
  refine Bod.bip 61 (by decide) dc_338_265 ?_
  refine Bod.icF dc_338_267 rfl (k2_ne_F (k_eq (e68 % 256) 61 rfl rfl (by omega))) ?_
  refine Bod.aldnG dc_338_270 (by repeat (first | exact q0 | exact sm_get_p1 | exact sm_get_p2e | refine sm_get_p1m (by decide) (by decide) ?_ | refine sm_get_p1n (by decide) rfl ?_ | refine sm_get_p2n (by decide) (by decide) rfl ?_)) ?_
  refine Bod.get dc_338_271 fr_338_135 (mk_61 _) rfl ?_
  refine Bod.ildnG dc_338_274 (by repeat (first | exact q3 | exact sm_get_p1 | exact sm_get_p2e | refine sm_get_p1m (by decide) (by decide) ?_ | refine sm_get_p1n (by decide) rfl ?_ | refine sm_get_p2n (by decide) (by decide) rfl ?_)) ?_
  refine Bod.ic 1 (by decide) dc_338_275 ?_
  refine Bod.addN (li + 1) (by omega) dc_338_276 ?_
  refine Bod.ialdN (li + 1) rfl (by omega) (by omega) dc_338_277 (mk_68 _) ?_
  refine Bod.eqI (nI e68) (by first | assumption | rfl | exact congrArg nI (by omega) | (simp (disch := omega) only [rI, rIe, rA, rIA, rLA, rJA, rVI, rQI, rVA, rQA, upd_at,  rAI, rLI, rJI, nI_add, pk_sub, kc_0, kc_1, kc_2, kc_3, kc_4, kc_5, reduceIte, Nat.reduceEqDiff, Nat.add_zero, rI_hold, rI_hold, rL_hold, he67, he671, he68]; done)) ?_
  refine Bod.sip 256 (by decide) dc_338_278 ?_
  refine Bod.idivN (e68 / 256) (by omega) (by omega) (by omega) rfl dc_338_281 ?_
  refine Bod.bip 43 (by decide) dc_338_282 ?_
  refine Bod.icF dc_338_284 rfl (k2_eq_F (k_ne (e68 / 256) 43 rfl rfl (by omega) (by omega) (by omega))) ?_
  refine Bod.aldnG dc_338_287 (by repeat (first | exact q0 | exact sm_get_p1 | exact sm_get_p2e | refine sm_get_p1m (by decide) (by decide) ?_ | refine sm_get_p1n (by decide) rfl ?_ | refine sm_get_p2n (by decide) (by decide) rfl ?_)) ?_
  refine Bod.get dc_338_288 fr_338_135 (mk_61 _) rfl ?_
  refine Bod.ildnG dc_338_291 (by repeat (first | exact q3 | exact sm_get_p1 | exact sm_get_p2e | refine sm_get_p1m (by decide) (by decide) ?_ | refine sm_get_p1n (by decide) rfl ?_ | refine sm_get_p2n (by decide) (by decide) rfl ?_)) ?_
  refine Bod.ic 1 (by decide) dc_338_292 ?_
  refine Bod.addN (li + 1) (by omega) dc_338_293 ?_
  refine Bod.ialdN (li + 1) rfl (by omega) (by omega) dc_338_294 (mk_68 _) ?_
  refine Bod.eqI (nI e68) (by first | assumption | rfl | exact congrArg nI (by omega) | (simp (disch := omega) only [rI, rIe, rA, rIA, rLA, rJA, rVI, rQI, rVA, rQA, upd_at,  rAI, rLI, rJI, nI_add, pk_sub, kc_0, kc_1, kc_2, kc_3, kc_4, kc_5, reduceIte, Nat.reduceEqDiff, Nat.add_zero, rI_hold, rI_hold, rL_hold, he67, he671, he68]; done)) ?_
  refine Bod.sip 256 (by decide) dc_338_295 ?_
  refine Bod.idivN (e68 / 256) (by omega) (by omega) (by omega) rfl dc_338_298 ?_
  refine Bod.bip 45 (by decide) dc_338_299 ?_
  refine Bod.icF dc_338_301 rfl (k2_eq_F (k_ne (e68 / 256) 45 rfl rfl (by omega) (by omega) (by omega))) ?_
  refine Bod.aldnG dc_338_304 (by repeat (first | exact q0 | exact sm_get_p1 | exact sm_get_p2e | refine sm_get_p1m (by decide) (by decide) ?_ | refine sm_get_p1n (by decide) rfl ?_ | refine sm_get_p2n (by decide) (by decide) rfl ?_)) ?_
  refine Bod.get dc_338_305 fr_338_135 (mk_61 _) rfl ?_
  refine Bod.ildnG dc_338_308 (by repeat (first | exact q3 | exact sm_get_p1 | exact sm_get_p2e | refine sm_get_p1m (by decide) (by decide) ?_ | refine sm_get_p1n (by decide) rfl ?_ | refine sm_get_p2n (by decide) (by decide) rfl ?_)) ?_
  refine Bod.ic 1 (by decide) dc_338_309 ?_
  refine Bod.addN (li + 1) (by omega) dc_338_310 ?_
  refine Bod.ialdN (li + 1) rfl (by omega) (by omega) dc_338_311 (mk_68 _) ?_
  refine Bod.eqI (nI e68) (by first | assumption | rfl | exact congrArg nI (by omega) | (simp (disch := omega) only [rI, rIe, rA, rIA, rLA, rJA, rVI, rQI, rVA, rQA, upd_at,  rAI, rLI, rJI, nI_add, pk_sub, kc_0, kc_1, kc_2, kc_3, kc_4, kc_5, reduceIte, Nat.reduceEqDiff, Nat.add_zero, rI_hold, rI_hold, rL_hold, he67, he671, he68]; done)) ?_
  refine Bod.sip 256 (by decide) dc_338_312 ?_
  refine Bod.idivN (e68 / 256) (by omega) (by omega) (by omega) rfl dc_338_315 ?_
  refine Bod.bip 42 (by decide) dc_338_316 ?_
  refine Bod.icF dc_338_318 rfl (k2_ne_F (k_eq (e68 / 256) 42 rfl rfl (by omega))) ?_
  refine Bod.aldnG dc_338_321 (by repeat (first | exact q0 | exact sm_get_p1 | exact sm_get_p2e | refine sm_get_p1m (by decide) (by decide) ?_ | refine sm_get_p1n (by decide) rfl ?_ | refine sm_get_p2n (by decide) (by decide) rfl ?_)) ?_
  refine Bod.aldnG dc_338_322 (by repeat (first | exact q0 | exact sm_get_p1 | exact sm_get_p2e | refine sm_get_p1m (by decide) (by decide) ?_ | refine sm_get_p1n (by decide) rfl ?_ | refine sm_get_p2n (by decide) (by decide) rfl ?_)) ?_
  refine Bod.get dc_338_323 fr_338_135 (mk_61 _) rfl ?_
  refine Bod.ildnG dc_338_326 (by repeat (first | exact q3 | exact sm_get_p1 | exact sm_get_p2e | refine sm_get_p1m (by decide) (by decide) ?_ | refine sm_get_p1n (by decide) rfl ?_ | refine sm_get_p2n (by decide) (by decide) rfl ?_)) ?_
  refine Bod.ialdN li rfl (by omega) (by omega) dc_338_327 (mk_68 _) ?_
  refine Bod.eqI (nI e681) (by first | assumption | rfl | exact congrArg nI (by omega) | (simp (disch := omega) only [rI, rIe, rA, rIA, rLA, rJA, rVI, rQI, rVA, rQA, upd_at,  rAI, rLI, rJI, nI_add, pk_sub, kc_0, kc_1, kc_2, kc_3, kc_4, kc_5, reduceIte, Nat.reduceEqDiff, Nat.add_zero, rI_hold, rI_hold, rL_hold, he67, he671, he68, he681]; done)) ?_
  refine Bod.virt (r := []) dc_338_328 kr_338_356 ⟨Or.inl rfl, ow_339, cl_14⟩ (by rw [np_339]; rfl) (by rw [np_339]; rfl) (ob_of (mk_61 _)) (Nat.le_of_ble_eq_true rfl) (c1  ) ?_
  show Bod _ _ _ _ [] _ _ _
  exact hB _ (by repeat (first | exact q0 | exact sm_get_p1 | exact sm_get_p2e | refine sm_get_p1m (by decide) (by decide) ?_ | refine sm_get_p1n (by decide) rfl ?_ | refine sm_get_p2n (by decide) (by decide) rfl ?_)) (by repeat (first | exact q1 | exact sm_get_p1 | exact sm_get_p2e | refine sm_get_p1m (by decide) (by decide) ?_ | refine sm_get_p1n (by decide) rfl ?_ | refine sm_get_p2n (by decide) (by decide) rfl ?_)) (by repeat (first | exact q2 | exact sm_get_p1 | exact sm_get_p2e | refine sm_get_p1m (by decide) (by decide) ?_ | refine sm_get_p1n (by decide) rfl ?_ | refine sm_get_p2n (by decide) (by decide) rfl ?_)) (by repeat (first | exact q3 | exact sm_get_p1 | exact sm_get_p2e | refine sm_get_p1m (by decide) (by decide) ?_ | refine sm_get_p1n (by decide) rfl ?_ | refine sm_get_p2n (by decide) (by decide) rfl ?_)) (by repeat (first | exact q4 | exact sm_get_p1 | exact sm_get_p2e | refine sm_get_p1m (by decide) (by decide) ?_ | refine sm_get_p1n (by decide) rfl ?_ | refine sm_get_p2n (by decide) (by decide) rfl ?_))
theorem zSc2_1 {d : Nat} {S Sf : cS} {v : Option Value} {lv : sm_L} {la : Nat} {lw : Nat} {li : Nat} {ly : Nat} {e67 : Nat} (q0 : sm_get lv 0 = some (.ref 61)) (q1 : sm_get lv 1 = some (.int (nI la))) (q2 : sm_get lv 2 = some (.int (nI lw))) (q3 : sm_get lv 3 = some (.int (nI li))) (q4 : sm_get lv 4 = some (.int (nI ly))) (mla : la < 2 ^ 20) (mlw : lw < 2 ^ 20) (mli : li < 2 ^ 20) (mly : ly < 2 ^ 20) (b1 : li < 6002) (he67 : sA S 67 li = nI e67) (me67 : e67 < 2 ^ 20) (b2 : e67 = 6) (hB : ∀ lv1 : sm_L, sm_get lv1 0 = some (.ref 61) → sm_get lv1 1 = some (.int (nI la)) → sm_get lv1 2 = some (.int (nI lw)) → sm_get lv1 3 = some (.int (nI (li + 1))) → sm_get lv1 4 = some (.int (nI ly)) → Bod (d + 8) 338 5 lv1 [] (S) v Sf) : Bod (d + 8) 338 331 lv [] S v Sf := by
  refine Bod.aldnG dc_338_331 (by repeat (first | exact q0 | exact sm_get_p1 | exact sm_get_p2e | refine sm_get_p1m (by decide) (by decide) ?_ | refine sm_get_p1n (by decide) rfl ?_ | refine sm_get_p2n (by decide) (by decide) rfl ?_)) ?_
  refine Bod.get dc_338_332 fr_338_129 (mk_61 _) rfl ?_
  refine Bod.ildnG dc_338_335 (by repeat (first | exact q3 | exact sm_get_p1 | exact sm_get_p2e | refine sm_get_p1m (by decide) (by decide) ?_ | refine sm_get_p1n (by decide) rfl ?_ | refine sm_get_p2n (by decide) (by decide) rfl ?_)) ?_
  refine Bod.ialdN li rfl (by omega) (by omega) dc_338_336 (mk_67 _) ?_
  refine Bod.eqI (nI e67) (by first | assumption | rfl | exact congrArg nI (by omega) | (simp (disch := omega) only [rI, rIe, rA, rIA, rLA, rJA, rVI, rQI, rVA, rQA, upd_at,  rAI, rLI, rJI, nI_add, pk_sub, kc_0, kc_1, kc_2, kc_3, kc_4, kc_5, reduceIte, Nat.reduceEqDiff, Nat.add_zero, rI_hold, rI_hold, rL_hold, he67]; done)) ?_
  refine Bod.bip 6 (by decide) dc_338_337 ?_
  refine Bod.icT dc_338_339 rfl (k2_eq_T (k_eq e67 6 rfl rfl (by omega))) ?_
  refine Bod.incN (li + 1) (by rw [kc_1, nI_add]) dc_338_348 (by rw [ml_338]; exact Nat.le_of_ble_eq_true rfl) (by repeat (first | exact q3 | exact sm_get_p1 | exact sm_get_p2e | refine sm_get_p1m (by decide) (by decide) ?_ | refine sm_get_p1n (by decide) rfl ?_ | refine sm_get_p2n (by decide) (by decide) rfl ?_)) ?_
  refine Bod.go dc_338_351 rfl ?_
  exact hB _ (by repeat (first | exact q0 | exact sm_get_p1 | exact sm_get_p2e | refine sm_get_p1m (by decide) (by decide) ?_ | refine sm_get_p1n (by decide) rfl ?_ | refine sm_get_p2n (by decide) (by decide) rfl ?_)) (by repeat (first | exact q1 | exact sm_get_p1 | exact sm_get_p2e | refine sm_get_p1m (by decide) (by decide) ?_ | refine sm_get_p1n (by decide) rfl ?_ | refine sm_get_p2n (by decide) (by decide) rfl ?_)) (by repeat (first | exact q2 | exact sm_get_p1 | exact sm_get_p2e | refine sm_get_p1m (by decide) (by decide) ?_ | refine sm_get_p1n (by decide) rfl ?_ | refine sm_get_p2n (by decide) (by decide) rfl ?_)) (by repeat (first | exact q0 | exact sm_get_p1 | exact sm_get_p2e | refine sm_get_p1m (by decide) (by decide) ?_ | refine sm_get_p1n (by decide) rfl ?_ | refine sm_get_p2n (by decide) (by decide) rfl ?_)) (by repeat (first | exact q4 | exact sm_get_p1 | exact sm_get_p2e | refine sm_get_p1m (by decide) (by decide) ?_ | refine sm_get_p1n (by decide) rfl ?_ | refine sm_get_p2n (by decide) (by decide) rfl ?_))
theorem zSc2_2 {d : Nat} {S Sf : cS} {v : Option Value} {lv : sm_L} {la : Nat} {lw : Nat} {li : Nat} {ly : Nat} {e67 : Nat} (q0 : sm_get lv 0 = some (.ref 61)) (q1 : sm_get lv 1 = some (.int (nI la))) (q2 : sm_get lv 2 = some (.int (nI lw))) (q3 : sm_get lv 3 = some (.int (nI li))) (q4 : sm_get lv 4 = some (.int (nI ly))) (mla : la < 2 ^ 20) (mlw : lw < 2 ^ 20) (mli : li < 2 ^ 20) (mly : ly < 2 ^ 20) (b1 : li < 6002) (he67 : sA S 67 li = nI e67) (me67 : e67 < 2 ^ 20) (b2 : e67 ≠ 6) (hB : ∀ lv1 : sm_L, sm_get lv1 0 = some (.ref 61) → sm_get lv1 1 = some (.int (nI la)) → sm_get lv1 2 = some (.int (nI lw)) → sm_get lv1 3 = some (.int (nI (li + 1))) → sm_get lv1 4 = some (.int (nI ly)) → Bod (d + 8) 338 331 lv1 [] (S) v Sf) : Bod (d + 8) 338 331 lv [] S v Sf := by
  refine Bod.aldnG dc_338_331 (by repeat (first | exact q0 | exact sm_get_p1 | exact sm_get_p2e | refine sm_get_p1m (by decide) (by decide) ?_ | refine sm_get_p1n (by decide) rfl ?_ | refine sm_get_p2n (by decide) (by decide) rfl ?_)) ?_
  refine Bod.get dc_338_332 fr_338_129 (mk_61 _) rfl ?_
  refine Bod.ildnG dc_338_335 (by repeat (first | exact q3 | exact sm_get_p1 | exact sm_get_p2e | refine sm_get_p1m (by decide) (by decide) ?_ | refine sm_get_p1n (by decide) rfl ?_ | refine sm_get_p2n (by decide) (by decide) rfl ?_)) ?_
  refine Bod.ialdN li rfl (by omega) (by omega) dc_338_336 (mk_67 _) ?_
  refine Bod.eqI (nI e67) (by first | assumption | rfl | exact congrArg nI (by omega) | (simp (disch := omega) only [rI, rIe, rA, rIA, rLA, rJA, rVI, rQI, rVA, rQA, upd_at,  rAI, rLI, rJI, nI_add, pk_sub, kc_0, kc_1, kc_2, kc_3, kc_4, kc_5, reduceIte, Nat.reduceEqDiff, Nat.add_zero, rI_hold, rI_hold, rL_hold, he67]; done)) ?_
  refine Bod.bip 6 (by decide) dc_338_337 ?_
  refine Bod.icF dc_338_339 rfl (k2_eq_F (k_ne e67 6 rfl rfl (by omega) (by omega) (by omega))) ?_
  refine Bod.incN (li + 1) (by rw [kc_1, nI_add]) dc_338_342 (by rw [ml_338]; exact Nat.le_of_ble_eq_true rfl) (by repeat (first | exact q3 | exact sm_get_p1 | exact sm_get_p2e | refine sm_get_p1m (by decide) (by decide) ?_ | refine sm_get_p1n (by decide) rfl ?_ | refine sm_get_p2n (by decide) (by decide) rfl ?_)) ?_
  refine Bod.go dc_338_345 rfl ?_
  exact hB _ (by repeat (first | exact q0 | exact sm_get_p1 | exact sm_get_p2e | refine sm_get_p1m (by decide) (by decide) ?_ | refine sm_get_p1n (by decide) rfl ?_ | refine sm_get_p2n (by decide) (by decide) rfl ?_)) (by repeat (first | exact q1 | exact sm_get_p1 | exact sm_get_p2e | refine sm_get_p1m (by decide) (by decide) ?_ | refine sm_get_p1n (by decide) rfl ?_ | refine sm_get_p2n (by decide) (by decide) rfl ?_)) (by repeat (first | exact q2 | exact sm_get_p1 | exact sm_get_p2e | refine sm_get_p1m (by decide) (by decide) ?_ | refine sm_get_p1n (by decide) rfl ?_ | refine sm_get_p2n (by decide) (by decide) rfl ?_)) (by repeat (first | exact q0 | exact sm_get_p1 | exact sm_get_p2e | refine sm_get_p1m (by decide) (by decide) ?_ | refine sm_get_p1n (by decide) rfl ?_ | refine sm_get_p2n (by decide) (by decide) rfl ?_)) (by repeat (first | exact q4 | exact sm_get_p1 | exact sm_get_p2e | refine sm_get_p1m (by decide) (by decide) ?_ | refine sm_get_p1n (by decide) rfl ?_ | refine sm_get_p2n (by decide) (by decide) rfl ?_))
theorem zSc3_1 {d : Nat} {S Sf : cS} {v : Option Value} {lv : sm_L} {la : Nat} {lw : Nat} {li : Nat} {e67 : Nat} (q0 : sm_get lv 0 = some (.ref 61)) (q1 : sm_get lv 1 = some (.int (nI la))) (q2 : sm_get lv 2 = some (.int (nI lw))) (q3 : sm_get lv 3 = some (.int (nI li))) (q4 : sm_get lv 4 = some (.int (Int32.ofInt (-1)))) (mla : la < 2 ^ 20) (mlw : lw < 2 ^ 20) (mli : li < 2 ^ 20) (b1 : li < 6002) (he67 : sA S 67 li = nI e67) (me67 : e67 < 2 ^ 20) (b2 : e67 = 6) (hB : ∀ lv1 : sm_L, sm_get lv1 0 = some (.ref 61) → sm_get lv1 1 = some (.int (nI la)) → sm_get lv1 2 = some (.int (nI lw)) → sm_get lv1 3 = some (.int (nI (li + 1))) → sm_get lv1 4 = some (.int (Int32.ofInt (-1))) → Bod (d + 8) 338 5 lv1 [] (S) v Sf) : Bod (d + 8) 338 331 lv [] S v Sf := by
  refine Bod.aldnG dc_338_331 (by repeat (first | exact q0 | exact sm_get_p1 | exact sm_get_p2e | refine sm_get_p1m (by decide) (by decide) ?_ | refine sm_get_p1n (by decide) rfl ?_ | refine sm_get_p2n (by decide) (by decide) rfl ?_)) ?_
  refine Bod.get dc_338_332 fr_338_129 (mk_61 _) rfl ?_
  refine Bod.ildnG dc_338_335 (by repeat (first | exact q3 | exact sm_get_p1 | exact sm_get_p2e | refine sm_get_p1m (by decide) (by decide) ?_ | refine sm_get_p1n (by decide) rfl ?_ | refine sm_get_p2n (by decide) (by decide) rfl ?_)) ?_
  refine Bod.ialdN li rfl (by omega) (by omega) dc_338_336 (mk_67 _) ?_
  refine Bod.eqI (nI e67) (by first | assumption | rfl | exact congrArg nI (by omega) | (simp (disch := omega) only [rI, rIe, rA, rIA, rLA, rJA, rVI, rQI, rVA, rQA, upd_at,  rAI, rLI, rJI, nI_add, pk_sub, kc_0, kc_1, kc_2, kc_3, kc_4, kc_5, reduceIte, Nat.reduceEqDiff, Nat.add_zero, rI_hold, rI_hold, rL_hold, he67]; done)) ?_
  refine Bod.bip 6 (by decide) dc_338_337 ?_
  refine Bod.icT dc_338_339 rfl (k2_eq_T (k_eq e67 6 rfl rfl (by omega))) ?_
  refine Bod.incN (li + 1) (by rw [kc_1, nI_add]) dc_338_348 (by rw [ml_338]; exact Nat.le_of_ble_eq_true rfl) (by repeat (first | exact q3 | exact sm_get_p1 | exact sm_get_p2e | refine sm_get_p1m (by decide) (by decide) ?_ | refine sm_get_p1n (by decide) rfl ?_ | refine sm_get_p2n (by decide) (by decide) rfl ?_)) ?_
  refine Bod.go dc_338_351 rfl ?_
  exact hB _ (by repeat (first | exact q0 | exact sm_get_p1 | exact sm_get_p2e | refine sm_get_p1m (by decide) (by decide) ?_ | refine sm_get_p1n (by decide) rfl ?_ | refine sm_get_p2n (by decide) (by decide) rfl ?_)) (by repeat (first | exact q1 | exact sm_get_p1 | exact sm_get_p2e | refine sm_get_p1m (by decide) (by decide) ?_ | refine sm_get_p1n (by decide) rfl ?_ | refine sm_get_p2n (by decide) (by decide) rfl ?_)) (by repeat (first | exact q2 | exact sm_get_p1 | exact sm_get_p2e | refine sm_get_p1m (by decide) (by decide) ?_ | refine sm_get_p1n (by decide) rfl ?_ | refine sm_get_p2n (by decide) (by decide) rfl ?_)) (by repeat (first | exact q0 | exact sm_get_p1 | exact sm_get_p2e | refine sm_get_p1m (by decide) (by decide) ?_ | refine sm_get_p1n (by decide) rfl ?_ | refine sm_get_p2n (by decide) (by decide) rfl ?_)) (by repeat (first | exact q4 | exact sm_get_p1 | exact sm_get_p2e | refine sm_get_p1m (by decide) (by decide) ?_ | refine sm_get_p1n (by decide) rfl ?_ | refine sm_get_p2n (by decide) (by decide) rfl ?_))
theorem zSc3_2 {d : Nat} {S Sf : cS} {v : Option Value} {lv : sm_L} {la : Nat} {lw : Nat} {li : Nat} {e67 : Nat} (q0 : sm_get lv 0 = some (.ref 61)) (q1 : sm_get lv 1 = some (.int (nI la))) (q2 : sm_get lv 2 = some (.int (nI lw))) (q3 : sm_get lv 3 = some (.int (nI li))) (q4 : sm_get lv 4 = some (.int (Int32.ofInt (-1)))) (mla : la < 2 ^ 20) (mlw : lw < 2 ^ 20) (mli : li < 2 ^ 20) (b1 : li < 6002) (he67 : sA S 67 li = nI e67) (me67 : e67 < 2 ^ 20) (b2 : e67 ≠ 6) (hB : ∀ lv1 : sm_L, sm_get lv1 0 = some (.ref 61) → sm_get lv1 1 = some (.int (nI la)) → sm_get lv1 2 = some (.int (nI lw)) → sm_get lv1 3 = some (.int (nI (li + 1))) → sm_get lv1 4 = some (.int (Int32.ofInt (-1))) → Bod (d + 8) 338 331 lv1 [] (S) v Sf) : Bod (d + 8) 338 331 lv [] S v Sf := by
  refine Bod.aldnG dc_338_331 (by repeat (first | exact q0 | exact sm_get_p1 | exact sm_get_p2e | refine sm_get_p1m (by decide) (by decide) ?_ | refine sm_get_p1n (by decide) rfl ?_ | refine sm_get_p2n (by decide) (by decide) rfl ?_)) ?_
  refine Bod.get dc_338_332 fr_338_129 (mk_61 _) rfl ?_
  refine Bod.ildnG dc_338_335 (by repeat (first | exact q3 | exact sm_get_p1 | exact sm_get_p2e | refine sm_get_p1m (by decide) (by decide) ?_ | refine sm_get_p1n (by decide) rfl ?_ | refine sm_get_p2n (by decide) (by decide) rfl ?_)) ?_
  refine Bod.ialdN li rfl (by omega) (by omega) dc_338_336 (mk_67 _) ?_
  refine Bod.eqI (nI e67) (by first | assumption | rfl | exact congrArg nI (by omega) | (simp (disch := omega) only [rI, rIe, rA, rIA, rLA, rJA, rVI, rQI, rVA, rQA, upd_at,  rAI, rLI, rJI, nI_add, pk_sub, kc_0, kc_1, kc_2, kc_3, kc_4, kc_5, reduceIte, Nat.reduceEqDiff, Nat.add_zero, rI_hold, rI_hold, rL_hold, he67]; done)) ?_
  refine Bod.bip 6 (by decide) dc_338_337 ?_
  refine Bod.icF dc_338_339 rfl (k2_eq_F (k_ne e67 6 rfl rfl (by omega) (by omega) (by omega))) ?_
  refine Bod.incN (li + 1) (by rw [kc_1, nI_add]) dc_338_342 (by rw [ml_338]; exact Nat.le_of_ble_eq_true rfl) (by repeat (first | exact q3 | exact sm_get_p1 | exact sm_get_p2e | refine sm_get_p1m (by decide) (by decide) ?_ | refine sm_get_p1n (by decide) rfl ?_ | refine sm_get_p2n (by decide) (by decide) rfl ?_)) ?_
  refine Bod.go dc_338_345 rfl ?_
  exact hB _ (by repeat (first | exact q0 | exact sm_get_p1 | exact sm_get_p2e | refine sm_get_p1m (by decide) (by decide) ?_ | refine sm_get_p1n (by decide) rfl ?_ | refine sm_get_p2n (by decide) (by decide) rfl ?_)) (by repeat (first | exact q1 | exact sm_get_p1 | exact sm_get_p2e | refine sm_get_p1m (by decide) (by decide) ?_ | refine sm_get_p1n (by decide) rfl ?_ | refine sm_get_p2n (by decide) (by decide) rfl ?_)) (by repeat (first | exact q2 | exact sm_get_p1 | exact sm_get_p2e | refine sm_get_p1m (by decide) (by decide) ?_ | refine sm_get_p1n (by decide) rfl ?_ | refine sm_get_p2n (by decide) (by decide) rfl ?_)) (by repeat (first | exact q0 | exact sm_get_p1 | exact sm_get_p2e | refine sm_get_p1m (by decide) (by decide) ?_ | refine sm_get_p1n (by decide) rfl ?_ | refine sm_get_p2n (by decide) (by decide) rfl ?_)) (by repeat (first | exact q4 | exact sm_get_p1 | exact sm_get_p2e | refine sm_get_p1m (by decide) (by decide) ?_ | refine sm_get_p1n (by decide) rfl ?_ | refine sm_get_p2n (by decide) (by decide) rfl ?_))
theorem zSd_1 {d : Nat} {S Sf : cS} {v : Option Value} {lv : sm_L} {la : Nat} {lw : Nat} (q0 : sm_get lv 0 = some (.ref 61)) (q1 : sm_get lv 1 = some (.int (nI la))) (q2 : sm_get lv 2 = some (.int (nI lw))) (mla : la < 2 ^ 20) (mlw : lw < 2 ^ 20) (hB : ∀ lv1 : sm_L, sm_get lv1 0 = some (.ref 61) → sm_get lv1 2 = some (.int (nI lw)) → sm_get lv1 3 = some (.int (nI la)) → sm_get lv1 4 = some (.int (Int32.ofInt (-1))) → Bod (d + 8) 338 359 lv1 [] (S) v Sf) : Bod (d + 8) 338 354 lv [] S v Sf := by
  refine Bod.ildnG dc_338_354 (by repeat (first | exact q1 | exact sm_get_p1 | exact sm_get_p2e | refine sm_get_p1m (by decide) (by decide) ?_ | refine sm_get_p1n (by decide) rfl ?_ | refine sm_get_p2n (by decide) (by decide) rfl ?_)) ?_
  refine Bod.istn dc_338_355 (by rw [ml_338]; exact Nat.le_of_ble_eq_true rfl) ?_
  refine Bod.go dc_338_356 rfl ?_
  refine Bod.ist dc_338_357 (by rw [ml_338]; exact Nat.le_of_ble_eq_true rfl) ?_
  exact hB _ (by repeat (first | exact q0 | exact sm_get_p1 | exact sm_get_p2e | refine sm_get_p1m (by decide) (by decide) ?_ | refine sm_get_p1n (by decide) rfl ?_ | refine sm_get_p2n (by decide) (by decide) rfl ?_)) (by repeat (first | exact q2 | exact sm_get_p1 | exact sm_get_p2e | refine sm_get_p1m (by decide) (by decide) ?_ | refine sm_get_p1n (by decide) rfl ?_ | refine sm_get_p2n (by decide) (by decide) rfl ?_)) (by repeat (first | exact q0 | exact sm_get_p1 | exact sm_get_p2e | refine sm_get_p1m (by decide) (by decide) ?_ | refine sm_get_p1n (by decide) rfl ?_ | refine sm_get_p2n (by decide) (by decide) rfl ?_)) (by repeat (first | exact q0 | exact sm_get_p1 | exact sm_get_p2e | refine sm_get_p1m (by decide) (by decide) ?_ | refine sm_get_p1n (by decide) rfl ?_ | refine sm_get_p2n (by decide) (by decide) rfl ?_))
theorem zSe_1 {d : Nat} {S : cS} {lv : sm_L} {lw : Nat} {li : Nat} {ly : Nat} {e67 : Nat} (q0 : sm_get lv 0 = some (.ref 61)) (q2 : sm_get lv 2 = some (.int (nI lw))) (q3 : sm_get lv 3 = some (.int (nI li))) (q4 : sm_get lv 4 = some (.int (nI ly))) (mlw : lw < 2 ^ 20) (mli : li < 2 ^ 20) (mly : ly < 2 ^ 20) (b1 : li < 6002) (he67 : sA S 67 li = nI e67) (me67 : e67 < 2 ^ 20) (b2 : e67 = 7) : Bod (d + 8) 338 359 lv [] S none (S) := by
  refine Bod.aldnG dc_338_359 (by repeat (first | exact q0 | exact sm_get_p1 | exact sm_get_p2e | refine sm_get_p1m (by decide) (by decide) ?_ | refine sm_get_p1n (by decide) rfl ?_ | refine sm_get_p2n (by decide) (by decide) rfl ?_)) ?_
  refine Bod.get dc_338_360 fr_338_129 (mk_61 _) rfl ?_
  refine Bod.ildnG dc_338_363 (by repeat (first | exact q3 | exact sm_get_p1 | exact sm_get_p2e | refine sm_get_p1m (by decide) (by decide) ?_ | refine sm_get_p1n (by decide) rfl ?_ | refine sm_get_p2n (by decide) (by decide) rfl ?_)) ?_
  refine Bod.ialdN li rfl (by omega) (by omega) dc_338_364 (mk_67 _) ?_
  refine Bod.eqI (nI e67) (by first | assumption | rfl | exact congrArg nI (by omega) | (simp (disch := omega) only [rI, rIe, rA, rIA, rLA, rJA, rVI, rQI, rVA, rQA, upd_at,  rAI, rLI, rJI, nI_add, pk_sub, kc_0, kc_1, kc_2, kc_3, kc_4, kc_5, reduceIte, Nat.reduceEqDiff, Nat.add_zero, rI_hold, rI_hold, rL_hold, he67]; done)) ?_
  refine Bod.bip 7 (by decide) dc_338_365 ?_
  refine Bod.icT dc_338_367 rfl (k2_eq_T (k_eq e67 7 rfl rfl (by omega))) ?_
  exact Bod.retV dc_338_541 rt_338
theorem zSe_2 {d : Nat} {S : cS} {lv : sm_L} {lw : Nat} {li : Nat} {ly : Nat} {e67 : Nat} {e70 : Nat} (q0 : sm_get lv 0 = some (.ref 61)) (q2 : sm_get lv 2 = some (.int (nI lw))) (q3 : sm_get lv 3 = some (.int (nI li))) (q4 : sm_get lv 4 = some (.int (nI ly))) (mlw : lw < 2 ^ 20) (mli : li < 2 ^ 20) (mly : ly < 2 ^ 20) (b1 : li < 6002) (he67 : sA S 67 li = nI e67) (me67 : e67 < 2 ^ 20) (b2 : e67 ≠ 7) (he70 : sA S 70 li = nI e70) (me70 : e70 < 2 ^ 20) (b3 : e70 ≤ lw) : Bod (d + 8) 338 359 lv [] S none (S) := by
  refine Bod.aldnG dc_338_359 (by repeat (first | exact q0 | exact sm_get_p1 | exact sm_get_p2e | refine sm_get_p1m (by decide) (by decide) ?_ | refine sm_get_p1n (by decide) rfl ?_ | refine sm_get_p2n (by decide) (by decide) rfl ?_)) ?_
  refine Bod.get dc_338_360 fr_338_129 (mk_61 _) rfl ?_
  refine Bod.ildnG dc_338_363 (by repeat (first | exact q3 | exact sm_get_p1 | exact sm_get_p2e | refine sm_get_p1m (by decide) (by decide) ?_ | refine sm_get_p1n (by decide) rfl ?_ | refine sm_get_p2n (by decide) (by decide) rfl ?_)) ?_
  refine Bod.ialdN li rfl (by omega) (by omega) dc_338_364 (mk_67 _) ?_
  refine Bod.eqI (nI e67) (by first | assumption | rfl | exact congrArg nI (by omega) | (simp (disch := omega) only [rI, rIe, rA, rIA, rLA, rJA, rVI, rQI, rVA, rQA, upd_at,  rAI, rLI, rJI, nI_add, pk_sub, kc_0, kc_1, kc_2, kc_3, kc_4, kc_5, reduceIte, Nat.reduceEqDiff, Nat.add_zero, rI_hold, rI_hold, rL_hold, he67]; done)) ?_
  refine Bod.bip 7 (by decide) dc_338_365 ?_
  refine Bod.icF dc_338_367 rfl (k2_eq_F (k_ne e67 7 rfl rfl (by omega) (by omega) (by omega))) ?_
  refine Bod.aldnG dc_338_370 (by repeat (first | exact q0 | exact sm_get_p1 | exact sm_get_p2e | refine sm_get_p1m (by decide) (by decide) ?_ | refine sm_get_p1n (by decide) rfl ?_ | refine sm_get_p2n (by decide) (by decide) rfl ?_)) ?_
  refine Bod.get dc_338_371 fr_338_141 (mk_61 _) rfl ?_
  refine Bod.ildnG dc_338_374 (by repeat (first | exact q3 | exact sm_get_p1 | exact sm_get_p2e | refine sm_get_p1m (by decide) (by decide) ?_ | refine sm_get_p1n (by decide) rfl ?_ | refine sm_get_p2n (by decide) (by decide) rfl ?_)) ?_
  refine Bod.ialdN li rfl (by omega) (by omega) dc_338_375 (mk_70 _) ?_
  refine Bod.eqI (nI e70) (by first | assumption | rfl | exact congrArg nI (by omega) | (simp (disch := omega) only [rI, rIe, rA, rIA, rLA, rJA, rVI, rQI, rVA, rQA, upd_at,  rAI, rLI, rJI, nI_add, pk_sub, kc_0, kc_1, kc_2, kc_3, kc_4, kc_5, reduceIte, Nat.reduceEqDiff, Nat.add_zero, rI_hold, rI_hold, rL_hold, he67, he70]; done)) ?_
  refine Bod.ildnG dc_338_376 (by repeat (first | exact q2 | exact sm_get_p1 | exact sm_get_p2e | refine sm_get_p1m (by decide) (by decide) ?_ | refine sm_get_p1n (by decide) rfl ?_ | refine sm_get_p2n (by decide) (by decide) rfl ?_)) ?_
  refine Bod.icT dc_338_377 rfl (k2_le_T e70 lw rfl rfl (by omega) (by omega)) ?_
  exact Bod.retV dc_338_541 rt_338
theorem zSe_3 {d : Nat} {S Sf : cS} {v : Option Value} {lv : sm_L} {lw : Nat} {li : Nat} {ly : Nat} {e67 : Nat} {e70 : Nat} (q0 : sm_get lv 0 = some (.ref 61)) (q2 : sm_get lv 2 = some (.int (nI lw))) (q3 : sm_get lv 3 = some (.int (nI li))) (q4 : sm_get lv 4 = some (.int (nI ly))) (mlw : lw < 2 ^ 20) (mli : li < 2 ^ 20) (mly : ly < 2 ^ 20) (b1 : li < 6002) (he67 : sA S 67 li = nI e67) (me67 : e67 < 2 ^ 20) (b2 : e67 ≠ 7) (he70 : sA S 70 li = nI e70) (me70 : e70 < 2 ^ 20) (b3 : lw < e70) (b4 : ly < e70) (hB : ∀ lv1 : sm_L, sm_get lv1 0 = some (.ref 61) → sm_get lv1 2 = some (.int (nI lw)) → sm_get lv1 3 = some (.int (nI li)) → sm_get lv1 4 = some (.int (nI ly)) → Bod (d + 8) 338 399 lv1 [] (S) v Sf) : Bod (d + 8) 338 359 lv [] S v Sf := by
  refine Bod.aldnG dc_338_359 (by repeat (first | exact q0 | exact sm_get_p1 | exact sm_get_p2e | refine sm_get_p1m (by decide) (by decide) ?_ | refine sm_get_p1n (by decide) rfl ?_ | refine sm_get_p2n (by decide) (by decide) rfl ?_)) ?_
  refine Bod.get dc_338_360 fr_338_129 (mk_61 _) rfl ?_
  refine Bod.ildnG dc_338_363 (by repeat (first | exact q3 | exact sm_get_p1 | exact sm_get_p2e | refine sm_get_p1m (by decide) (by decide) ?_ | refine sm_get_p1n (by decide) rfl ?_ | refine sm_get_p2n (by decide) (by decide) rfl ?_)) ?_
  refine Bod.ialdN li rfl (by omega) (by omega) dc_338_364 (mk_67 _) ?_
  refine Bod.eqI (nI e67) (by first | assumption | rfl | exact congrArg nI (by omega) | (simp (disch := omega) only [rI, rIe, rA, rIA, rLA, rJA, rVI, rQI, rVA, rQA, upd_at,  rAI, rLI, rJI, nI_add, pk_sub, kc_0, kc_1, kc_2, kc_3, kc_4, kc_5, reduceIte, Nat.reduceEqDiff, Nat.add_zero, rI_hold, rI_hold, rL_hold, he67]; done)) ?_
  refine Bod.bip 7 (by decide) dc_338_365 ?_
  refine Bod.icF dc_338_367 rfl (k2_eq_F (k_ne e67 7 rfl rfl (by omega) (by omega) (by omega))) ?_
  refine Bod.aldnG dc_338_370 (by repeat (first | exact q0 | exact sm_get_p1 | exact sm_get_p2e | refine sm_get_p1m (by decide) (by decide) ?_ | refine sm_get_p1n (by decide) rfl ?_ | refine sm_get_p2n (by decide) (by decide) rfl ?_)) ?_
  refine Bod.get dc_338_371 fr_338_141 (mk_61 _) rfl ?_
  refine Bod.ildnG dc_338_374 (by repeat (first | exact q3 | exact sm_get_p1 | exact sm_get_p2e | refine sm_get_p1m (by decide) (by decide) ?_ | refine sm_get_p1n (by decide) rfl ?_ | refine sm_get_p2n (by decide) (by decide) rfl ?_)) ?_
  refine Bod.ialdN li rfl (by omega) (by omega) dc_338_375 (mk_70 _) ?_
  refine Bod.eqI (nI e70) (by first | assumption | rfl | exact congrArg nI (by omega) | (simp (disch := omega) only [rI, rIe, rA, rIA, rLA, rJA, rVI, rQI, rVA, rQA, upd_at,  rAI, rLI, rJI, nI_add, pk_sub, kc_0, kc_1, kc_2, kc_3, kc_4, kc_5, reduceIte, Nat.reduceEqDiff, Nat.add_zero, rI_hold, rI_hold, rL_hold, he67, he70]; done)) ?_
  refine Bod.ildnG dc_338_376 (by repeat (first | exact q2 | exact sm_get_p1 | exact sm_get_p2e | refine sm_get_p1m (by decide) (by decide) ?_ | refine sm_get_p1n (by decide) rfl ?_ | refine sm_get_p2n (by decide) (by decide) rfl ?_)) ?_
  refine Bod.icF dc_338_377 rfl (k2_le_F e70 lw rfl rfl (by omega) (by omega)) ?_
  refine Bod.ildG dc_338_380 (by repeat (first | exact q4 | exact sm_get_p1 | exact sm_get_p2e | refine sm_get_p1m (by decide) (by decide) ?_ | refine sm_get_p1n (by decide) rfl ?_ | refine sm_get_p2n (by decide) (by decide) rfl ?_)) ?_
  refine Bod.ifF dc_338_382 rfl (k1_lt_F ly rfl (by omega)) ?_
  refine Bod.aldnG dc_338_385 (by repeat (first | exact q0 | exact sm_get_p1 | exact sm_get_p2e | refine sm_get_p1m (by decide) (by decide) ?_ | refine sm_get_p1n (by decide) rfl ?_ | refine sm_get_p2n (by decide) (by decide) rfl ?_)) ?_
  refine Bod.get dc_338_386 fr_338_141 (mk_61 _) rfl ?_
  refine Bod.ildnG dc_338_389 (by repeat (first | exact q3 | exact sm_get_p1 | exact sm_get_p2e | refine sm_get_p1m (by decide) (by decide) ?_ | refine sm_get_p1n (by decide) rfl ?_ | refine sm_get_p2n (by decide) (by decide) rfl ?_)) ?_
  refine Bod.ialdN li rfl (by omega) (by omega) dc_338_390 (mk_70 _) ?_
  refine Bod.eqI (nI e70) (by first | assumption | rfl | exact congrArg nI (by omega) | (simp (disch := omega) only [rI, rIe, rA, rIA, rLA, rJA, rVI, rQI, rVA, rQA, upd_at,  rAI, rLI, rJI, nI_add, pk_sub, kc_0, kc_1, kc_2, kc_3, kc_4, kc_5, reduceIte, Nat.reduceEqDiff, Nat.add_zero, rI_hold, rI_hold, rL_hold, he67, he70]; done)) ?_
  refine Bod.ildG dc_338_391 (by repeat (first | exact q4 | exact sm_get_p1 | exact sm_get_p2e | refine sm_get_p1m (by decide) (by decide) ?_ | refine sm_get_p1n (by decide) rfl ?_ | refine sm_get_p2n (by decide) (by decide) rfl ?_)) ?_
  refine Bod.icT dc_338_393 rfl (k2_gt_T e70 ly rfl rfl (by omega) (by omega)) ?_
  exact hB _ (by repeat (first | exact q0 | exact sm_get_p1 | exact sm_get_p2e | refine sm_get_p1m (by decide) (by decide) ?_ | refine sm_get_p1n (by decide) rfl ?_ | refine sm_get_p2n (by decide) (by decide) rfl ?_)) (by repeat (first | exact q2 | exact sm_get_p1 | exact sm_get_p2e | refine sm_get_p1m (by decide) (by decide) ?_ | refine sm_get_p1n (by decide) rfl ?_ | refine sm_get_p2n (by decide) (by decide) rfl ?_)) (by repeat (first | exact q3 | exact sm_get_p1 | exact sm_get_p2e | refine sm_get_p1m (by decide) (by decide) ?_ | refine sm_get_p1n (by decide) rfl ?_ | refine sm_get_p2n (by decide) (by decide) rfl ?_)) (by repeat (first | exact q4 | exact sm_get_p1 | exact sm_get_p2e | refine sm_get_p1m (by decide) (by decide) ?_ | refine sm_get_p1n (by decide) rfl ?_ | refine sm_get_p2n (by decide) (by decide) rfl ?_))
theorem zSe_4 {d : Nat} {S Sf : cS} {v : Option Value} {lv : sm_L} {lw : Nat} {li : Nat} {ly : Nat} {e67 : Nat} {e70 : Nat} (q0 : sm_get lv 0 = some (.ref 61)) (q2 : sm_get lv 2 = some (.int (nI lw))) (q3 : sm_get lv 3 = some (.int (nI li))) (q4 : sm_get lv 4 = some (.int (nI ly))) (mlw : lw < 2 ^ 20) (mli : li < 2 ^ 20) (mly : ly < 2 ^ 20) (b1 : li < 6002) (he67 : sA S 67 li = nI e67) (me67 : e67 < 2 ^ 20) (b2 : e67 ≠ 7) (he70 : sA S 70 li = nI e70) (me70 : e70 < 2 ^ 20) (b3 : lw < e70) (b4 : e70 ≤ ly) (hB : ∀ lv1 : sm_L, sm_get lv1 0 = some (.ref 61) → sm_get lv1 2 = some (.int (nI lw)) → sm_get lv1 3 = some (.int (nI li)) → sm_get lv1 4 = some (.int (Int32.ofInt (-1))) → Bod (d + 8) 338 399 lv1 [] (S) v Sf) : Bod (d + 8) 338 359 lv [] S v Sf := by
  refine Bod.aldnG dc_338_359 (by repeat (first | exact q0 | exact sm_get_p1 | exact sm_get_p2e | refine sm_get_p1m (by decide) (by decide) ?_ | refine sm_get_p1n (by decide) rfl ?_ | refine sm_get_p2n (by decide) (by decide) rfl ?_)) ?_
  refine Bod.get dc_338_360 fr_338_129 (mk_61 _) rfl ?_
  refine Bod.ildnG dc_338_363 (by repeat (first | exact q3 | exact sm_get_p1 | exact sm_get_p2e | refine sm_get_p1m (by decide) (by decide) ?_ | refine sm_get_p1n (by decide) rfl ?_ | refine sm_get_p2n (by decide) (by decide) rfl ?_)) ?_
  refine Bod.ialdN li rfl (by omega) (by omega) dc_338_364 (mk_67 _) ?_
  refine Bod.eqI (nI e67) (by first | assumption | rfl | exact congrArg nI (by omega) | (simp (disch := omega) only [rI, rIe, rA, rIA, rLA, rJA, rVI, rQI, rVA, rQA, upd_at,  rAI, rLI, rJI, nI_add, pk_sub, kc_0, kc_1, kc_2, kc_3, kc_4, kc_5, reduceIte, Nat.reduceEqDiff, Nat.add_zero, rI_hold, rI_hold, rL_hold, he67]; done)) ?_
  refine Bod.bip 7 (by decide) dc_338_365 ?_
  refine Bod.icF dc_338_367 rfl (k2_eq_F (k_ne e67 7 rfl rfl (by omega) (by omega) (by omega))) ?_
  refine Bod.aldnG dc_338_370 (by repeat (first | exact q0 | exact sm_get_p1 | exact sm_get_p2e | refine sm_get_p1m (by decide) (by decide) ?_ | refine sm_get_p1n (by decide) rfl ?_ | refine sm_get_p2n (by decide) (by decide) rfl ?_)) ?_
  refine Bod.get dc_338_371 fr_338_141 (mk_61 _) rfl ?_
  refine Bod.ildnG dc_338_374 (by repeat (first | exact q3 | exact sm_get_p1 | exact sm_get_p2e | refine sm_get_p1m (by decide) (by decide) ?_ | refine sm_get_p1n (by decide) rfl ?_ | refine sm_get_p2n (by decide) (by decide) rfl ?_)) ?_
  refine Bod.ialdN li rfl (by omega) (by omega) dc_338_375 (mk_70 _) ?_
  refine Bod.eqI (nI e70) (by first | assumption | rfl | exact congrArg nI (by omega) | (simp (disch := omega) only [rI, rIe, rA, rIA, rLA, rJA, rVI, rQI, rVA, rQA, upd_at,  rAI, rLI, rJI, nI_add, pk_sub, kc_0, kc_1, kc_2, kc_3, kc_4, kc_5, reduceIte, Nat.reduceEqDiff, Nat.add_zero, rI_hold, rI_hold, rL_hold, he67, he70]; done)) ?_
  refine Bod.ildnG dc_338_376 (by repeat (first | exact q2 | exact sm_get_p1 | exact sm_get_p2e | refine sm_get_p1m (by decide) (by decide) ?_ | refine sm_get_p1n (by decide) rfl ?_ | refine sm_get_p2n (by decide) (by decide) rfl ?_)) ?_
  refine Bod.icF dc_338_377 rfl (k2_le_F e70 lw rfl rfl (by omega) (by omega)) ?_
  refine Bod.ildG dc_338_380 (by repeat (first | exact q4 | exact sm_get_p1 | exact sm_get_p2e | refine sm_get_p1m (by decide) (by decide) ?_ | refine sm_get_p1n (by decide) rfl ?_ | refine sm_get_p2n (by decide) (by decide) rfl ?_)) ?_
  refine Bod.ifF dc_338_382 rfl (k1_lt_F ly rfl (by omega)) ?_
  refine Bod.aldnG dc_338_385 (by repeat (first | exact q0 | exact sm_get_p1 | exact sm_get_p2e | refine sm_get_p1m (by decide) (by decide) ?_ | refine sm_get_p1n (by decide) rfl ?_ | refine sm_get_p2n (by decide) (by decide) rfl ?_)) ?_
  refine Bod.get dc_338_386 fr_338_141 (mk_61 _) rfl ?_
  refine Bod.ildnG dc_338_389 (by repeat (first | exact q3 | exact sm_get_p1 | exact sm_get_p2e | refine sm_get_p1m (by decide) (by decide) ?_ | refine sm_get_p1n (by decide) rfl ?_ | refine sm_get_p2n (by decide) (by decide) rfl ?_)) ?_
  refine Bod.ialdN li rfl (by omega) (by omega) dc_338_390 (mk_70 _) ?_
  refine Bod.eqI (nI e70) (by first | assumption | rfl | exact congrArg nI (by omega) | (simp (disch := omega) only [rI, rIe, rA, rIA, rLA, rJA, rVI, rQI, rVA, rQA, upd_at,  rAI, rLI, rJI, nI_add, pk_sub, kc_0, kc_1, kc_2, kc_3, kc_4, kc_5, reduceIte, Nat.reduceEqDiff, Nat.add_zero, rI_hold, rI_hold, rL_hold, he67, he70]; done)) ?_
  refine Bod.ildG dc_338_391 (by repeat (first | exact q4 | exact sm_get_p1 | exact sm_get_p2e | refine sm_get_p1m (by decide) (by decide) ?_ | refine sm_get_p1n (by decide) rfl ?_ | refine sm_get_p2n (by decide) (by decide) rfl ?_)) ?_
  refine Bod.icF dc_338_393 rfl (k2_gt_F e70 ly rfl rfl (by omega) (by omega)) ?_
  refine Bod.go dc_338_396 rfl ?_
  refine Bod.ist dc_338_397 (by rw [ml_338]; exact Nat.le_of_ble_eq_true rfl) ?_
  exact hB _ (by repeat (first | exact q0 | exact sm_get_p1 | exact sm_get_p2e | refine sm_get_p1m (by decide) (by decide) ?_ | refine sm_get_p1n (by decide) rfl ?_ | refine sm_get_p2n (by decide) (by decide) rfl ?_)) (by repeat (first | exact q2 | exact sm_get_p1 | exact sm_get_p2e | refine sm_get_p1m (by decide) (by decide) ?_ | refine sm_get_p1n (by decide) rfl ?_ | refine sm_get_p2n (by decide) (by decide) rfl ?_)) (by repeat (first | exact q3 | exact sm_get_p1 | exact sm_get_p2e | refine sm_get_p1m (by decide) (by decide) ?_ | refine sm_get_p1n (by decide) rfl ?_ | refine sm_get_p2n (by decide) (by decide) rfl ?_)) (by repeat (first | exact q0 | exact sm_get_p1 | exact sm_get_p2e | refine sm_get_p1m (by decide) (by decide) ?_ | refine sm_get_p1n (by decide) rfl ?_ | refine sm_get_p2n (by decide) (by decide) rfl ?_))
theorem zSf_1 {d : Nat} {S : cS} {lv : sm_L} {lw : Nat} {li : Nat} {e67 : Nat} (q0 : sm_get lv 0 = some (.ref 61)) (q2 : sm_get lv 2 = some (.int (nI lw))) (q3 : sm_get lv 3 = some (.int (nI li))) (q4 : sm_get lv 4 = some (.int (Int32.ofInt (-1)))) (mlw : lw < 2 ^ 20) (mli : li < 2 ^ 20) (b1 : li < 6002) (he67 : sA S 67 li = nI e67) (me67 : e67 < 2 ^ 20) (b2 : e67 = 7) : Bod (d + 8) 338 359 lv [] S none (S) := by
  refine Bod.aldnG dc_338_359 (by repeat (first | exact q0 | exact sm_get_p1 | exact sm_get_p2e | refine sm_get_p1m (by decide) (by decide) ?_ | refine sm_get_p1n (by decide) rfl ?_ | refine sm_get_p2n (by decide) (by decide) rfl ?_)) ?_
  refine Bod.get dc_338_360 fr_338_129 (mk_61 _) rfl ?_
  refine Bod.ildnG dc_338_363 (by repeat (first | exact q3 | exact sm_get_p1 | exact sm_get_p2e | refine sm_get_p1m (by decide) (by decide) ?_ | refine sm_get_p1n (by decide) rfl ?_ | refine sm_get_p2n (by decide) (by decide) rfl ?_)) ?_
  refine Bod.ialdN li rfl (by omega) (by omega) dc_338_364 (mk_67 _) ?_
  refine Bod.eqI (nI e67) (by first | assumption | rfl | exact congrArg nI (by omega) | (simp (disch := omega) only [rI, rIe, rA, rIA, rLA, rJA, rVI, rQI, rVA, rQA, upd_at,  rAI, rLI, rJI, nI_add, pk_sub, kc_0, kc_1, kc_2, kc_3, kc_4, kc_5, reduceIte, Nat.reduceEqDiff, Nat.add_zero, rI_hold, rI_hold, rL_hold, he67]; done)) ?_
  refine Bod.bip 7 (by decide) dc_338_365 ?_
  refine Bod.icT dc_338_367 rfl (k2_eq_T (k_eq e67 7 rfl rfl (by omega))) ?_
  exact Bod.retV dc_338_541 rt_338
theorem zSf_2 {d : Nat} {S : cS} {lv : sm_L} {lw : Nat} {li : Nat} {e67 : Nat} {e70 : Nat} (q0 : sm_get lv 0 = some (.ref 61)) (q2 : sm_get lv 2 = some (.int (nI lw))) (q3 : sm_get lv 3 = some (.int (nI li))) (q4 : sm_get lv 4 = some (.int (Int32.ofInt (-1)))) (mlw : lw < 2 ^ 20) (mli : li < 2 ^ 20) (b1 : li < 6002) (he67 : sA S 67 li = nI e67) (me67 : e67 < 2 ^ 20) (b2 : e67 ≠ 7) (he70 : sA S 70 li = nI e70) (me70 : e70 < 2 ^ 20) (b3 : e70 ≤ lw) : Bod (d + 8) 338 359 lv [] S none (S) := by
  refine Bod.aldnG dc_338_359 (by repeat (first | exact q0 | exact sm_get_p1 | exact sm_get_p2e | refine sm_get_p1m (by decide) (by decide) ?_ | refine sm_get_p1n (by decide) rfl ?_ | refine sm_get_p2n (by decide) (by decide) rfl ?_)) ?_
  refine Bod.get dc_338_360 fr_338_129 (mk_61 _) rfl ?_
  refine Bod.ildnG dc_338_363 (by repeat (first | exact q3 | exact sm_get_p1 | exact sm_get_p2e | refine sm_get_p1m (by decide) (by decide) ?_ | refine sm_get_p1n (by decide) rfl ?_ | refine sm_get_p2n (by decide) (by decide) rfl ?_)) ?_
  refine Bod.ialdN li rfl (by omega) (by omega) dc_338_364 (mk_67 _) ?_
  refine Bod.eqI (nI e67) (by first | assumption | rfl | exact congrArg nI (by omega) | (simp (disch := omega) only [rI, rIe, rA, rIA, rLA, rJA, rVI, rQI, rVA, rQA, upd_at,  rAI, rLI, rJI, nI_add, pk_sub, kc_0, kc_1, kc_2, kc_3, kc_4, kc_5, reduceIte, Nat.reduceEqDiff, Nat.add_zero, rI_hold, rI_hold, rL_hold, he67]; done)) ?_
  refine Bod.bip 7 (by decide) dc_338_365 ?_
  refine Bod.icF dc_338_367 rfl (k2_eq_F (k_ne e67 7 rfl rfl (by omega) (by omega) (by omega))) ?_
  refine Bod.aldnG dc_338_370 (by repeat (first | exact q0 | exact sm_get_p1 | exact sm_get_p2e | refine sm_get_p1m (by decide) (by decide) ?_ | refine sm_get_p1n (by decide) rfl ?_ | refine sm_get_p2n (by decide) (by decide) rfl ?_)) ?_
  refine Bod.get dc_338_371 fr_338_141 (mk_61 _) rfl ?_
  refine Bod.ildnG dc_338_374 (by repeat (first | exact q3 | exact sm_get_p1 | exact sm_get_p2e | refine sm_get_p1m (by decide) (by decide) ?_ | refine sm_get_p1n (by decide) rfl ?_ | refine sm_get_p2n (by decide) (by decide) rfl ?_)) ?_
  refine Bod.ialdN li rfl (by omega) (by omega) dc_338_375 (mk_70 _) ?_
  refine Bod.eqI (nI e70) (by first | assumption | rfl | exact congrArg nI (by omega) | (simp (disch := omega) only [rI, rIe, rA, rIA, rLA, rJA, rVI, rQI, rVA, rQA, upd_at,  rAI, rLI, rJI, nI_add, pk_sub, kc_0, kc_1, kc_2, kc_3, kc_4, kc_5, reduceIte, Nat.reduceEqDiff, Nat.add_zero, rI_hold, rI_hold, rL_hold, he67, he70]; done)) ?_
  refine Bod.ildnG dc_338_376 (by repeat (first | exact q2 | exact sm_get_p1 | exact sm_get_p2e | refine sm_get_p1m (by decide) (by decide) ?_ | refine sm_get_p1n (by decide) rfl ?_ | refine sm_get_p2n (by decide) (by decide) rfl ?_)) ?_
  refine Bod.icT dc_338_377 rfl (k2_le_T e70 lw rfl rfl (by omega) (by omega)) ?_
  exact Bod.retV dc_338_541 rt_338
theorem zSf_3 {d : Nat} {S Sf : cS} {v : Option Value} {lv : sm_L} {lw : Nat} {li : Nat} {e67 : Nat} {e70 : Nat} (q0 : sm_get lv 0 = some (.ref 61)) (q2 : sm_get lv 2 = some (.int (nI lw))) (q3 : sm_get lv 3 = some (.int (nI li))) (q4 : sm_get lv 4 = some (.int (Int32.ofInt (-1)))) (mlw : lw < 2 ^ 20) (mli : li < 2 ^ 20) (b1 : li < 6002) (he67 : sA S 67 li = nI e67) (me67 : e67 < 2 ^ 20) (b2 : e67 ≠ 7) (he70 : sA S 70 li = nI e70) (me70 : e70 < 2 ^ 20) (b3 : lw < e70) (hB : ∀ lv1 : sm_L, sm_get lv1 0 = some (.ref 61) → sm_get lv1 2 = some (.int (nI lw)) → sm_get lv1 3 = some (.int (nI li)) → sm_get lv1 4 = some (.int (Int32.ofInt (-1))) → Bod (d + 8) 338 399 lv1 [] (S) v Sf) : Bod (d + 8) 338 359 lv [] S v Sf := by
  refine Bod.aldnG dc_338_359 (by repeat (first | exact q0 | exact sm_get_p1 | exact sm_get_p2e | refine sm_get_p1m (by decide) (by decide) ?_ | refine sm_get_p1n (by decide) rfl ?_ | refine sm_get_p2n (by decide) (by decide) rfl ?_)) ?_
  refine Bod.get dc_338_360 fr_338_129 (mk_61 _) rfl ?_
  refine Bod.ildnG dc_338_363 (by repeat (first | exact q3 | exact sm_get_p1 | exact sm_get_p2e | refine sm_get_p1m (by decide) (by decide) ?_ | refine sm_get_p1n (by decide) rfl ?_ | refine sm_get_p2n (by decide) (by decide) rfl ?_)) ?_
  refine Bod.ialdN li rfl (by omega) (by omega) dc_338_364 (mk_67 _) ?_
  refine Bod.eqI (nI e67) (by first | assumption | rfl | exact congrArg nI (by omega) | (simp (disch := omega) only [rI, rIe, rA, rIA, rLA, rJA, rVI, rQI, rVA, rQA, upd_at,  rAI, rLI, rJI, nI_add, pk_sub, kc_0, kc_1, kc_2, kc_3, kc_4, kc_5, reduceIte, Nat.reduceEqDiff, Nat.add_zero, rI_hold, rI_hold, rL_hold, he67]; done)) ?_
  refine Bod.bip 7 (by decide) dc_338_365 ?_
  refine Bod.icF dc_338_367 rfl (k2_eq_F (k_ne e67 7 rfl rfl (by omega) (by omega) (by omega))) ?_
  refine Bod.aldnG dc_338_370 (by repeat (first | exact q0 | exact sm_get_p1 | exact sm_get_p2e | refine sm_get_p1m (by decide) (by decide) ?_ | refine sm_get_p1n (by decide) rfl ?_ | refine sm_get_p2n (by decide) (by decide) rfl ?_)) ?_
  refine Bod.get dc_338_371 fr_338_141 (mk_61 _) rfl ?_
  refine Bod.ildnG dc_338_374 (by repeat (first | exact q3 | exact sm_get_p1 | exact sm_get_p2e | refine sm_get_p1m (by decide) (by decide) ?_ | refine sm_get_p1n (by decide) rfl ?_ | refine sm_get_p2n (by decide) (by decide) rfl ?_)) ?_
  refine Bod.ialdN li rfl (by omega) (by omega) dc_338_375 (mk_70 _) ?_
  refine Bod.eqI (nI e70) (by first | assumption | rfl | exact congrArg nI (by omega) | (simp (disch := omega) only [rI, rIe, rA, rIA, rLA, rJA, rVI, rQI, rVA, rQA, upd_at,  rAI, rLI, rJI, nI_add, pk_sub, kc_0, kc_1, kc_2, kc_3, kc_4, kc_5, reduceIte, Nat.reduceEqDiff, Nat.add_zero, rI_hold, rI_hold, rL_hold, he67, he70]; done)) ?_
  refine Bod.ildnG dc_338_376 (by repeat (first | exact q2 | exact sm_get_p1 | exact sm_get_p2e | refine sm_get_p1m (by decide) (by decide) ?_ | refine sm_get_p1n (by decide) rfl ?_ | refine sm_get_p2n (by decide) (by decide) rfl ?_)) ?_
  refine Bod.icF dc_338_377 rfl (k2_le_F e70 lw rfl rfl (by omega) (by omega)) ?_
  refine Bod.ildG dc_338_380 (by repeat (first | exact q4 | exact sm_get_p1 | exact sm_get_p2e | refine sm_get_p1m (by decide) (by decide) ?_ | refine sm_get_p1n (by decide) rfl ?_ | refine sm_get_p2n (by decide) (by decide) rfl ?_)) ?_
  refine Bod.ifT dc_338_382 rfl (by decide) ?_
  exact hB _ (by repeat (first | exact q0 | exact sm_get_p1 | exact sm_get_p2e | refine sm_get_p1m (by decide) (by decide) ?_ | refine sm_get_p1n (by decide) rfl ?_ | refine sm_get_p2n (by decide) (by decide) rfl ?_)) (by repeat (first | exact q2 | exact sm_get_p1 | exact sm_get_p2e | refine sm_get_p1m (by decide) (by decide) ?_ | refine sm_get_p1n (by decide) rfl ?_ | refine sm_get_p2n (by decide) (by decide) rfl ?_)) (by repeat (first | exact q3 | exact sm_get_p1 | exact sm_get_p2e | refine sm_get_p1m (by decide) (by decide) ?_ | refine sm_get_p1n (by decide) rfl ?_ | refine sm_get_p2n (by decide) (by decide) rfl ?_)) (by repeat (first | exact q4 | exact sm_get_p1 | exact sm_get_p2e | refine sm_get_p1m (by decide) (by decide) ?_ | refine sm_get_p1n (by decide) rfl ?_ | refine sm_get_p2n (by decide) (by decide) rfl ?_))
theorem zSk_1 {d : Nat} {S Sf : cS} {v : Option Value} {lv : sm_L} {lw : Nat} {li : Nat} {ly : Nat} (q0 : sm_get lv 0 = some (.ref 61)) (q2 : sm_get lv 2 = some (.int (nI lw))) (q3 : sm_get lv 3 = some (.int (nI li))) (q4 : sm_get lv 4 = some (.int (nI ly))) (mlw : lw < 2 ^ 20) (mli : li < 2 ^ 20) (mly : ly < 2 ^ 20) (hB : ∀ lv1 : sm_L, sm_get lv1 0 = some (.ref 61) → sm_get lv1 2 = some (.int (nI lw)) → sm_get lv1 3 = some (.int (nI li)) → sm_get lv1 4 = some (.int (nI ly)) → Bod (d + 8) 338 518 lv1 [] (S) v Sf) : Bod (d + 8) 338 399 lv [] S v Sf := by
  refine Bod.ildG dc_338_399 (by repeat (first | exact q4 | exact sm_get_p1 | exact sm_get_p2e | refine sm_get_p1m (by decide) (by decide) ?_ | refine sm_get_p1n (by decide) rfl ?_ | refine sm_get_p2n (by decide) (by decide) rfl ?_)) ?_
  refine Bod.ifT dc_338_401 rfl (k1_ge_T ly rfl (by omega)) ?_
  refine Bod.ildG dc_338_447 (by repeat (first | exact q4 | exact sm_get_p1 | exact sm_get_p2e | refine sm_get_p1m (by decide) (by decide) ?_ | refine sm_get_p1n (by decide) rfl ?_ | refine sm_get_p2n (by decide) (by decide) rfl ?_)) ?_
  refine Bod.ifT dc_338_449 rfl (k1_ge_T ly rfl (by omega)) ?_
  exact hB _ (by repeat (first | exact q0 | exact sm_get_p1 | exact sm_get_p2e | refine sm_get_p1m (by decide) (by decide) ?_ | refine sm_get_p1n (by decide) rfl ?_ | refine sm_get_p2n (by decide) (by decide) rfl ?_)) (by repeat (first | exact q2 | exact sm_get_p1 | exact sm_get_p2e | refine sm_get_p1m (by decide) (by decide) ?_ | refine sm_get_p1n (by decide) rfl ?_ | refine sm_get_p2n (by decide) (by decide) rfl ?_)) (by repeat (first | exact q3 | exact sm_get_p1 | exact sm_get_p2e | refine sm_get_p1m (by decide) (by decide) ?_ | refine sm_get_p1n (by decide) rfl ?_ | refine sm_get_p2n (by decide) (by decide) rfl ?_)) (by repeat (first | exact q4 | exact sm_get_p1 | exact sm_get_p2e | refine sm_get_p1m (by decide) (by decide) ?_ | refine sm_get_p1n (by decide) rfl ?_ | refine sm_get_p2n (by decide) (by decide) rfl ?_))
theorem zSl_1 {d : Nat} {S Sf : cS} {v : Option Value} {lv : sm_L} {lw : Nat} {li : Nat} {e67 : Nat} (q0 : sm_get lv 0 = some (.ref 61)) (q2 : sm_get lv 2 = some (.int (nI lw))) (q3 : sm_get lv 3 = some (.int (nI li))) (q4 : sm_get lv 4 = some (.int (Int32.ofInt (-1)))) (mlw : lw < 2 ^ 20) (mli : li < 2 ^ 20) (b1 : li < 6002) (he67 : sA S 67 li = nI e67) (me67 : e67 < 2 ^ 20) (b2 : e67 ≠ 2) (hB : ∀ lv1 : sm_L, sm_get lv1 0 = some (.ref 61) → sm_get lv1 2 = some (.int (nI lw)) → sm_get lv1 3 = some (.int (nI li)) → sm_get lv1 4 = some (.int (Int32.ofInt (-1))) → Bod (d + 8) 338 518 lv1 [] (S) v Sf) : Bod (d + 8) 338 399 lv [] S v Sf := by
  refine Bod.ildG dc_338_399 (by repeat (first | exact q4 | exact sm_get_p1 | exact sm_get_p2e | refine sm_get_p1m (by decide) (by decide) ?_ | refine sm_get_p1n (by decide) rfl ?_ | refine sm_get_p2n (by decide) (by decide) rfl ?_)) ?_
  refine Bod.ifF dc_338_401 rfl (by decide) ?_
  refine Bod.aldnG dc_338_404 (by repeat (first | exact q0 | exact sm_get_p1 | exact sm_get_p2e | refine sm_get_p1m (by decide) (by decide) ?_ | refine sm_get_p1n (by decide) rfl ?_ | refine sm_get_p2n (by decide) (by decide) rfl ?_)) ?_
  refine Bod.get dc_338_405 fr_338_129 (mk_61 _) rfl ?_
  refine Bod.ildnG dc_338_408 (by repeat (first | exact q3 | exact sm_get_p1 | exact sm_get_p2e | refine sm_get_p1m (by decide) (by decide) ?_ | refine sm_get_p1n (by decide) rfl ?_ | refine sm_get_p2n (by decide) (by decide) rfl ?_)) ?_
  refine Bod.ialdN li rfl (by omega) (by omega) dc_338_409 (mk_67 _) ?_
  refine Bod.eqI (nI e67) (by first | assumption | rfl | exact congrArg nI (by omega) | (simp (disch := omega) only [rI, rIe, rA, rIA, rLA, rJA, rVI, rQI, rVA, rQA, upd_at,  rAI, rLI, rJI, nI_add, pk_sub, kc_0, kc_1, kc_2, kc_3, kc_4, kc_5, reduceIte, Nat.reduceEqDiff, Nat.add_zero, rI_hold, rI_hold, rL_hold, he67]; done)) ?_
  refine Bod.ic 2 (by decide) dc_338_410 ?_
  refine Bod.icT dc_338_411 rfl (k2_ne_T (k_ne e67 2 rfl rfl (by omega) (by omega) (by omega))) ?_
  refine Bod.ildG dc_338_447 (by repeat (first | exact q4 | exact sm_get_p1 | exact sm_get_p2e | refine sm_get_p1m (by decide) (by decide) ?_ | refine sm_get_p1n (by decide) rfl ?_ | refine sm_get_p2n (by decide) (by decide) rfl ?_)) ?_
  refine Bod.ifF dc_338_449 rfl (by decide) ?_
  refine Bod.aldnG dc_338_452 (by repeat (first | exact q0 | exact sm_get_p1 | exact sm_get_p2e | refine sm_get_p1m (by decide) (by decide) ?_ | refine sm_get_p1n (by decide) rfl ?_ | refine sm_get_p2n (by decide) (by decide) rfl ?_)) ?_
  refine Bod.get dc_338_453 fr_338_129 (mk_61 _) rfl ?_
  refine Bod.ildnG dc_338_456 (by repeat (first | exact q3 | exact sm_get_p1 | exact sm_get_p2e | refine sm_get_p1m (by decide) (by decide) ?_ | refine sm_get_p1n (by decide) rfl ?_ | refine sm_get_p2n (by decide) (by decide) rfl ?_)) ?_
  refine Bod.ialdN li rfl (by omega) (by omega) dc_338_457 (mk_67 _) ?_
  refine Bod.eqI (nI e67) (by first | assumption | rfl | exact congrArg nI (by omega) | (simp (disch := omega) only [rI, rIe, rA, rIA, rLA, rJA, rVI, rQI, rVA, rQA, upd_at,  rAI, rLI, rJI, nI_add, pk_sub, kc_0, kc_1, kc_2, kc_3, kc_4, kc_5, reduceIte, Nat.reduceEqDiff, Nat.add_zero, rI_hold, rI_hold, rL_hold, he67]; done)) ?_
  refine Bod.ic 2 (by decide) dc_338_458 ?_
  refine Bod.icT dc_338_459 rfl (k2_ne_T (k_ne e67 2 rfl rfl (by omega) (by omega) (by omega))) ?_
  exact hB _ (by repeat (first | exact q0 | exact sm_get_p1 | exact sm_get_p2e | refine sm_get_p1m (by decide) (by decide) ?_ | refine sm_get_p1n (by decide) rfl ?_ | refine sm_get_p2n (by decide) (by decide) rfl ?_)) (by repeat (first | exact q2 | exact sm_get_p1 | exact sm_get_p2e | refine sm_get_p1m (by decide) (by decide) ?_ | refine sm_get_p1n (by decide) rfl ?_ | refine sm_get_p2n (by decide) (by decide) rfl ?_)) (by repeat (first | exact q3 | exact sm_get_p1 | exact sm_get_p2e | refine sm_get_p1m (by decide) (by decide) ?_ | refine sm_get_p1n (by decide) rfl ?_ | refine sm_get_p2n (by decide) (by decide) rfl ?_)) (by repeat (first | exact q4 | exact sm_get_p1 | exact sm_get_p2e | refine sm_get_p1m (by decide) (by decide) ?_ | refine sm_get_p1n (by decide) rfl ?_ | refine sm_get_p2n (by decide) (by decide) rfl ?_))
theorem zSl_2 {d : Nat} {S Sf : cS} {v : Option Value} {lv : sm_L} {lw : Nat} {li : Nat} {e67 : Nat} {e68 : Nat} {e70 : Nat} (q0 : sm_get lv 0 = some (.ref 61)) (q2 : sm_get lv 2 = some (.int (nI lw))) (q3 : sm_get lv 3 = some (.int (nI li))) (q4 : sm_get lv 4 = some (.int (Int32.ofInt (-1)))) (mlw : lw < 2 ^ 20) (mli : li < 2 ^ 20) (b1 : li < 6002) (he67 : sA S 67 li = nI e67) (me67 : e67 < 2 ^ 20) (b2 : e67 = 2) (he68 : sA S 68 li = nI e68) (me68 : e68 < 2 ^ 20) (b3 : e68 = 6) (he70 : sA S 70 li = nI e70) (me70 : e70 < 2 ^ 20) (hB : ∀ lv1 : sm_L, sm_get lv1 0 = some (.ref 61) → sm_get lv1 2 = some (.int (nI lw)) → sm_get lv1 3 = some (.int (nI li)) → sm_get lv1 4 = some (.int (nI e70)) → Bod (d + 8) 338 518 lv1 [] (S) v Sf) : Bod (d + 8) 338 399 lv [] S v Sf := by
  refine Bod.ildG dc_338_399 (by repeat (first | exact q4 | exact sm_get_p1 | exact sm_get_p2e | refine sm_get_p1m (by decide) (by decide) ?_ | refine sm_get_p1n (by decide) rfl ?_ | refine sm_get_p2n (by decide) (by decide) rfl ?_)) ?_
  refine Bod.ifF dc_338_401 rfl (by decide) ?_
  refine Bod.aldnG dc_338_404 (by repeat (first | exact q0 | exact sm_get_p1 | exact sm_get_p2e | refine sm_get_p1m (by decide) (by decide) ?_ | refine sm_get_p1n (by decide) rfl ?_ | refine sm_get_p2n (by decide) (by decide) rfl ?_)) ?_
  refine Bod.get dc_338_405 fr_338_129 (mk_61 _) rfl ?_
  refine Bod.ildnG dc_338_408 (by repeat (first | exact q3 | exact sm_get_p1 | exact sm_get_p2e | refine sm_get_p1m (by decide) (by decide) ?_ | refine sm_get_p1n (by decide) rfl ?_ | refine sm_get_p2n (by decide) (by decide) rfl ?_)) ?_
  refine Bod.ialdN li rfl (by omega) (by omega) dc_338_409 (mk_67 _) ?_
  refine Bod.eqI (nI e67) (by first | assumption | rfl | exact congrArg nI (by omega) | (simp (disch := omega) only [rI, rIe, rA, rIA, rLA, rJA, rVI, rQI, rVA, rQA, upd_at,  rAI, rLI, rJI, nI_add, pk_sub, kc_0, kc_1, kc_2, kc_3, kc_4, kc_5, reduceIte, Nat.reduceEqDiff, Nat.add_zero, rI_hold, rI_hold, rL_hold, he67]; done)) ?_
  refine Bod.ic 2 (by decide) dc_338_410 ?_
  refine Bod.icF dc_338_411 rfl (k2_ne_F (k_eq e67 2 rfl rfl (by omega))) ?_
  refine Bod.aldnG dc_338_414 (by repeat (first | exact q0 | exact sm_get_p1 | exact sm_get_p2e | refine sm_get_p1m (by decide) (by decide) ?_ | refine sm_get_p1n (by decide) rfl ?_ | refine sm_get_p2n (by decide) (by decide) rfl ?_)) ?_
  refine Bod.get dc_338_415 fr_338_135 (mk_61 _) rfl ?_
  refine Bod.ildnG dc_338_418 (by repeat (first | exact q3 | exact sm_get_p1 | exact sm_get_p2e | refine sm_get_p1m (by decide) (by decide) ?_ | refine sm_get_p1n (by decide) rfl ?_ | refine sm_get_p2n (by decide) (by decide) rfl ?_)) ?_
  refine Bod.ialdN li rfl (by omega) (by omega) dc_338_419 (mk_68 _) ?_
  refine Bod.eqI (nI e68) (by first | assumption | rfl | exact congrArg nI (by omega) | (simp (disch := omega) only [rI, rIe, rA, rIA, rLA, rJA, rVI, rQI, rVA, rQA, upd_at,  rAI, rLI, rJI, nI_add, pk_sub, kc_0, kc_1, kc_2, kc_3, kc_4, kc_5, reduceIte, Nat.reduceEqDiff, Nat.add_zero, rI_hold, rI_hold, rL_hold, he67, he68]; done)) ?_
  refine Bod.bip 6 (by decide) dc_338_420 ?_
  refine Bod.icT dc_338_422 rfl (k2_eq_T (k_eq e68 6 rfl rfl (by omega))) ?_
  refine Bod.aldnG dc_338_436 (by repeat (first | exact q0 | exact sm_get_p1 | exact sm_get_p2e | refine sm_get_p1m (by decide) (by decide) ?_ | refine sm_get_p1n (by decide) rfl ?_ | refine sm_get_p2n (by decide) (by decide) rfl ?_)) ?_
  refine Bod.get dc_338_437 fr_338_141 (mk_61 _) rfl ?_
  refine Bod.ildnG dc_338_440 (by repeat (first | exact q3 | exact sm_get_p1 | exact sm_get_p2e | refine sm_get_p1m (by decide) (by decide) ?_ | refine sm_get_p1n (by decide) rfl ?_ | refine sm_get_p2n (by decide) (by decide) rfl ?_)) ?_
  refine Bod.ialdN li rfl (by omega) (by omega) dc_338_441 (mk_70 _) ?_
  refine Bod.eqI (nI e70) (by first | assumption | rfl | exact congrArg nI (by omega) | (simp (disch := omega) only [rI, rIe, rA, rIA, rLA, rJA, rVI, rQI, rVA, rQA, upd_at,  rAI, rLI, rJI, nI_add, pk_sub, kc_0, kc_1, kc_2, kc_3, kc_4, kc_5, reduceIte, Nat.reduceEqDiff, Nat.add_zero, rI_hold, rI_hold, rL_hold, he67, he68, he70]; done)) ?_
  refine Bod.ist dc_338_442 (by rw [ml_338]; exact Nat.le_of_ble_eq_true rfl) ?_
  refine Bod.go dc_338_444 rfl ?_
  exact hB _ (by repeat (first | exact q0 | exact sm_get_p1 | exact sm_get_p2e | refine sm_get_p1m (by decide) (by decide) ?_ | refine sm_get_p1n (by decide) rfl ?_ | refine sm_get_p2n (by decide) (by decide) rfl ?_)) (by repeat (first | exact q2 | exact sm_get_p1 | exact sm_get_p2e | refine sm_get_p1m (by decide) (by decide) ?_ | refine sm_get_p1n (by decide) rfl ?_ | refine sm_get_p2n (by decide) (by decide) rfl ?_)) (by repeat (first | exact q3 | exact sm_get_p1 | exact sm_get_p2e | refine sm_get_p1m (by decide) (by decide) ?_ | refine sm_get_p1n (by decide) rfl ?_ | refine sm_get_p2n (by decide) (by decide) rfl ?_)) (by repeat (first | exact q0 | exact sm_get_p1 | exact sm_get_p2e | refine sm_get_p1m (by decide) (by decide) ?_ | refine sm_get_p1n (by decide) rfl ?_ | refine sm_get_p2n (by decide) (by decide) rfl ?_))
theorem zSl_3 {d : Nat} {S Sf : cS} {v : Option Value} {lv : sm_L} {lw : Nat} {li : Nat} {e67 : Nat} {e68 : Nat} (q0 : sm_get lv 0 = some (.ref 61)) (q2 : sm_get lv 2 = some (.int (nI lw))) (q3 : sm_get lv 3 = some (.int (nI li))) (q4 : sm_get lv 4 = some (.int (Int32.ofInt (-1)))) (mlw : lw < 2 ^ 20) (mli : li < 2 ^ 20) (b1 : li < 6002) (he67 : sA S 67 li = nI e67) (me67 : e67 < 2 ^ 20) (b2 : e67 = 2) (he68 : sA S 68 li = nI e68) (me68 : e68 < 2 ^ 20) (b3 : e68 ≠ 6) (b4 : e68 ≠ 7) (b5 : e68 ≠ 13) (hB : ∀ lv1 : sm_L, sm_get lv1 0 = some (.ref 61) → sm_get lv1 2 = some (.int (nI lw)) → sm_get lv1 3 = some (.int (nI li)) → sm_get lv1 4 = some (.int (Int32.ofInt (-1))) → Bod (d + 8) 338 518 lv1 [] (S) v Sf) : Bod (d + 8) 338 399 lv [] S v Sf := by
  refine Bod.ildG dc_338_399 (by repeat (first | exact q4 | exact sm_get_p1 | exact sm_get_p2e | refine sm_get_p1m (by decide) (by decide) ?_ | refine sm_get_p1n (by decide) rfl ?_ | refine sm_get_p2n (by decide) (by decide) rfl ?_)) ?_
  refine Bod.ifF dc_338_401 rfl (by decide) ?_
  refine Bod.aldnG dc_338_404 (by repeat (first | exact q0 | exact sm_get_p1 | exact sm_get_p2e | refine sm_get_p1m (by decide) (by decide) ?_ | refine sm_get_p1n (by decide) rfl ?_ | refine sm_get_p2n (by decide) (by decide) rfl ?_)) ?_
  refine Bod.get dc_338_405 fr_338_129 (mk_61 _) rfl ?_
  refine Bod.ildnG dc_338_408 (by repeat (first | exact q3 | exact sm_get_p1 | exact sm_get_p2e | refine sm_get_p1m (by decide) (by decide) ?_ | refine sm_get_p1n (by decide) rfl ?_ | refine sm_get_p2n (by decide) (by decide) rfl ?_)) ?_
  refine Bod.ialdN li rfl (by omega) (by omega) dc_338_409 (mk_67 _) ?_
  refine Bod.eqI (nI e67) (by first | assumption | rfl | exact congrArg nI (by omega) | (simp (disch := omega) only [rI, rIe, rA, rIA, rLA, rJA, rVI, rQI, rVA, rQA, upd_at,  rAI, rLI, rJI, nI_add, pk_sub, kc_0, kc_1, kc_2, kc_3, kc_4, kc_5, reduceIte, Nat.reduceEqDiff, Nat.add_zero, rI_hold, rI_hold, rL_hold, he67]; done)) ?_
  refine Bod.ic 2 (by decide) dc_338_410 ?_
  refine Bod.icF dc_338_411 rfl (k2_ne_F (k_eq e67 2 rfl rfl (by omega))) ?_
  refine Bod.aldnG dc_338_414 (by repeat (first | exact q0 | exact sm_get_p1 | exact sm_get_p2e | refine sm_get_p1m (by decide) (by decide) ?_ | refine sm_get_p1n (by decide) rfl ?_ | refine sm_get_p2n (by decide) (by decide) rfl ?_)) ?_
  refine Bod.get dc_338_415 fr_338_135 (mk_61 _) rfl ?_
  refine Bod.ildnG dc_338_418 (by repeat (first | exact q3 | exact sm_get_p1 | exact sm_get_p2e | refine sm_get_p1m (by decide) (by decide) ?_ | refine sm_get_p1n (by decide) rfl ?_ | refine sm_get_p2n (by decide) (by decide) rfl ?_)) ?_
  refine Bod.ialdN li rfl (by omega) (by omega) dc_338_419 (mk_68 _) ?_
  refine Bod.eqI (nI e68) (by first | assumption | rfl | exact congrArg nI (by omega) | (simp (disch := omega) only [rI, rIe, rA, rIA, rLA, rJA, rVI, rQI, rVA, rQA, upd_at,  rAI, rLI, rJI, nI_add, pk_sub, kc_0, kc_1, kc_2, kc_3, kc_4, kc_5, reduceIte, Nat.reduceEqDiff, Nat.add_zero, rI_hold, rI_hold, rL_hold, he67, he68]; done)) ?_
  refine Bod.bip 6 (by decide) dc_338_420 ?_
  refine Bod.icF dc_338_422 rfl (k2_eq_F (k_ne e68 6 rfl rfl (by omega) (by omega) (by omega))) ?_
  refine Bod.aldnG dc_338_425 (by repeat (first | exact q0 | exact sm_get_p1 | exact sm_get_p2e | refine sm_get_p1m (by decide) (by decide) ?_ | refine sm_get_p1n (by decide) rfl ?_ | refine sm_get_p2n (by decide) (by decide) rfl ?_)) ?_
  refine Bod.get dc_338_426 fr_338_135 (mk_61 _) rfl ?_
  refine Bod.ildnG dc_338_429 (by repeat (first | exact q3 | exact sm_get_p1 | exact sm_get_p2e | refine sm_get_p1m (by decide) (by decide) ?_ | refine sm_get_p1n (by decide) rfl ?_ | refine sm_get_p2n (by decide) (by decide) rfl ?_)) ?_
  refine Bod.ialdN li rfl (by omega) (by omega) dc_338_430 (mk_68 _) ?_
  refine Bod.eqI (nI e68) (by first | assumption | rfl | exact congrArg nI (by omega) | (simp (disch := omega) only [rI, rIe, rA, rIA, rLA, rJA, rVI, rQI, rVA, rQA, upd_at,  rAI, rLI, rJI, nI_add, pk_sub, kc_0, kc_1, kc_2, kc_3, kc_4, kc_5, reduceIte, Nat.reduceEqDiff, Nat.add_zero, rI_hold, rI_hold, rL_hold, he67, he68]; done)) ?_
  refine Bod.bip 7 (by decide) dc_338_431 ?_
  refine Bod.icT dc_338_433 rfl (k2_ne_T (k_ne e68 7 rfl rfl (by omega) (by omega) (by omega))) ?_
  refine Bod.ildG dc_338_447 (by repeat (first | exact q4 | exact sm_get_p1 | exact sm_get_p2e | refine sm_get_p1m (by decide) (by decide) ?_ | refine sm_get_p1n (by decide) rfl ?_ | refine sm_get_p2n (by decide) (by decide) rfl ?_)) ?_
  refine Bod.ifF dc_338_449 rfl (by decide) ?_
  refine Bod.aldnG dc_338_452 (by repeat (first | exact q0 | exact sm_get_p1 | exact sm_get_p2e | refine sm_get_p1m (by decide) (by decide) ?_ | refine sm_get_p1n (by decide) rfl ?_ | refine sm_get_p2n (by decide) (by decide) rfl ?_)) ?_
  refine Bod.get dc_338_453 fr_338_129 (mk_61 _) rfl ?_
  refine Bod.ildnG dc_338_456 (by repeat (first | exact q3 | exact sm_get_p1 | exact sm_get_p2e | refine sm_get_p1m (by decide) (by decide) ?_ | refine sm_get_p1n (by decide) rfl ?_ | refine sm_get_p2n (by decide) (by decide) rfl ?_)) ?_
  refine Bod.ialdN li rfl (by omega) (by omega) dc_338_457 (mk_67 _) ?_
  refine Bod.eqI (nI e67) (by first | assumption | rfl | exact congrArg nI (by omega) | (simp (disch := omega) only [rI, rIe, rA, rIA, rLA, rJA, rVI, rQI, rVA, rQA, upd_at,  rAI, rLI, rJI, nI_add, pk_sub, kc_0, kc_1, kc_2, kc_3, kc_4, kc_5, reduceIte, Nat.reduceEqDiff, Nat.add_zero, rI_hold, rI_hold, rL_hold, he67, he68]; done)) ?_
  refine Bod.ic 2 (by decide) dc_338_458 ?_
  refine Bod.icF dc_338_459 rfl (k2_ne_F (k_eq e67 2 rfl rfl (by omega))) ?_
  refine Bod.aldnG dc_338_462 (by repeat (first | exact q0 | exact sm_get_p1 | exact sm_get_p2e | refine sm_get_p1m (by decide) (by decide) ?_ | refine sm_get_p1n (by decide) rfl ?_ | refine sm_get_p2n (by decide) (by decide) rfl ?_)) ?_
  refine Bod.get dc_338_463 fr_338_135 (mk_61 _) rfl ?_
  refine Bod.ildnG dc_338_466 (by repeat (first | exact q3 | exact sm_get_p1 | exact sm_get_p2e | refine sm_get_p1m (by decide) (by decide) ?_ | refine sm_get_p1n (by decide) rfl ?_ | refine sm_get_p2n (by decide) (by decide) rfl ?_)) ?_
  refine Bod.ialdN li rfl (by omega) (by omega) dc_338_467 (mk_68 _) ?_
  refine Bod.eqI (nI e68) (by first | assumption | rfl | exact congrArg nI (by omega) | (simp (disch := omega) only [rI, rIe, rA, rIA, rLA, rJA, rVI, rQI, rVA, rQA, upd_at,  rAI, rLI, rJI, nI_add, pk_sub, kc_0, kc_1, kc_2, kc_3, kc_4, kc_5, reduceIte, Nat.reduceEqDiff, Nat.add_zero, rI_hold, rI_hold, rL_hold, he67, he68]; done)) ?_
  refine Bod.bip 13 (by decide) dc_338_468 ?_
  refine Bod.icT dc_338_470 rfl (k2_ne_T (k_ne e68 13 rfl rfl (by omega) (by omega) (by omega))) ?_
  exact hB _ (by repeat (first | exact q0 | exact sm_get_p1 | exact sm_get_p2e | refine sm_get_p1m (by decide) (by decide) ?_ | refine sm_get_p1n (by decide) rfl ?_ | refine sm_get_p2n (by decide) (by decide) rfl ?_)) (by repeat (first | exact q2 | exact sm_get_p1 | exact sm_get_p2e | refine sm_get_p1m (by decide) (by decide) ?_ | refine sm_get_p1n (by decide) rfl ?_ | refine sm_get_p2n (by decide) (by decide) rfl ?_)) (by repeat (first | exact q3 | exact sm_get_p1 | exact sm_get_p2e | refine sm_get_p1m (by decide) (by decide) ?_ | refine sm_get_p1n (by decide) rfl ?_ | refine sm_get_p2n (by decide) (by decide) rfl ?_)) (by repeat (first | exact q4 | exact sm_get_p1 | exact sm_get_p2e | refine sm_get_p1m (by decide) (by decide) ?_ | refine sm_get_p1n (by decide) rfl ?_ | refine sm_get_p2n (by decide) (by decide) rfl ?_))
theorem zSl_4 {d : Nat} {S Sf : cS} {v : Option Value} {lv : sm_L} {lw : Nat} {li : Nat} {e67 : Nat} {e68 : Nat} (q0 : sm_get lv 0 = some (.ref 61)) (q2 : sm_get lv 2 = some (.int (nI lw))) (q3 : sm_get lv 3 = some (.int (nI li))) (q4 : sm_get lv 4 = some (.int (Int32.ofInt (-1)))) (mlw : lw < 2 ^ 20) (mli : li < 2 ^ 20) (b1 : li < 6002) (he67 : sA S 67 li = nI e67) (me67 : e67 < 2 ^ 20) (b2 : e67 = 2) (he68 : sA S 68 li = nI e68) (me68 : e68 < 2 ^ 20) (b3 : e68 ≠ 6) (b4 : e68 ≠ 7) (b5 : e68 = 13) (hB : ∀ lv1 : sm_L, sm_get lv1 0 = some (.ref 61) → sm_get lv1 2 = some (.int (nI lw)) → sm_get lv1 3 = some (.int (nI li)) → sm_get lv1 4 = some (.int (Int32.ofInt (-1))) → sm_get lv1 5 = some (.int (nI (li + 1))) → Bod (d + 8) 338 478 lv1 [] (S) v Sf) : Bod (d + 8) 338 399 lv [] S v Sf := by
  refine Bod.ildG dc_338_399 (by repeat (first | exact q4 | exact sm_get_p1 | exact sm_get_p2e | refine sm_get_p1m (by decide) (by decide) ?_ | refine sm_get_p1n (by decide) rfl ?_ | refine sm_get_p2n (by decide) (by decide) rfl ?_)) ?_
  refine Bod.ifF dc_338_401 rfl (by decide) ?_
  refine Bod.aldnG dc_338_404 (by repeat (first | exact q0 | exact sm_get_p1 | exact sm_get_p2e | refine sm_get_p1m (by decide) (by decide) ?_ | refine sm_get_p1n (by decide) rfl ?_ | refine sm_get_p2n (by decide) (by decide) rfl ?_)) ?_
  refine Bod.get dc_338_405 fr_338_129 (mk_61 _) rfl ?_
  refine Bod.ildnG dc_338_408 (by repeat (first | exact q3 | exact sm_get_p1 | exact sm_get_p2e | refine sm_get_p1m (by decide) (by decide) ?_ | refine sm_get_p1n (by decide) rfl ?_ | refine sm_get_p2n (by decide) (by decide) rfl ?_)) ?_
  refine Bod.ialdN li rfl (by omega) (by omega) dc_338_409 (mk_67 _) ?_
  refine Bod.eqI (nI e67) (by first | assumption | rfl | exact congrArg nI (by omega) | (simp (disch := omega) only [rI, rIe, rA, rIA, rLA, rJA, rVI, rQI, rVA, rQA, upd_at,  rAI, rLI, rJI, nI_add, pk_sub, kc_0, kc_1, kc_2, kc_3, kc_4, kc_5, reduceIte, Nat.reduceEqDiff, Nat.add_zero, rI_hold, rI_hold, rL_hold, he67]; done)) ?_
  refine Bod.ic 2 (by decide) dc_338_410 ?_
  refine Bod.icF dc_338_411 rfl (k2_ne_F (k_eq e67 2 rfl rfl (by omega))) ?_
  refine Bod.aldnG dc_338_414 (by repeat (first | exact q0 | exact sm_get_p1 | exact sm_get_p2e | refine sm_get_p1m (by decide) (by decide) ?_ | refine sm_get_p1n (by decide) rfl ?_ | refine sm_get_p2n (by decide) (by decide) rfl ?_)) ?_
  refine Bod.get dc_338_415 fr_338_135 (mk_61 _) rfl ?_
  refine Bod.ildnG dc_338_418 (by repeat (first | exact q3 | exact sm_get_p1 | exact sm_get_p2e | refine sm_get_p1m (by decide) (by decide) ?_ | refine sm_get_p1n (by decide) rfl ?_ | refine sm_get_p2n (by decide) (by decide) rfl ?_)) ?_
  refine Bod.ialdN li rfl (by omega) (by omega) dc_338_419 (mk_68 _) ?_
  refine Bod.eqI (nI e68) (by first | assumption | rfl | exact congrArg nI (by omega) | (simp (disch := omega) only [rI, rIe, rA, rIA, rLA, rJA, rVI, rQI, rVA, rQA, upd_at,  rAI, rLI, rJI, nI_add, pk_sub, kc_0, kc_1, kc_2, kc_3, kc_4, kc_5, reduceIte, Nat.reduceEqDiff, Nat.add_zero, rI_hold, rI_hold, rL_hold, he67, he68]; done)) ?_
  refine Bod.bip 6 (by decide) dc_338_420 ?_
  refine Bod.icF dc_338_422 rfl (k2_eq_F (k_ne e68 6 rfl rfl (by omega) (by omega) (by omega))) ?_
  refine Bod.aldnG dc_338_425 (by repeat (first | exact q0 | exact sm_get_p1 | exact sm_get_p2e | refine sm_get_p1m (by decide) (by decide) ?_ | refine sm_get_p1n (by decide) rfl ?_ | refine sm_get_p2n (by decide) (by decide) rfl ?_)) ?_
  refine Bod.get dc_338_426 fr_338_135 (mk_61 _) rfl ?_
  refine Bod.ildnG dc_338_429 (by repeat (first | exact q3 | exact sm_get_p1 | exact sm_get_p2e | refine sm_get_p1m (by decide) (by decide) ?_ | refine sm_get_p1n (by decide) rfl ?_ | refine sm_get_p2n (by decide) (by decide) rfl ?_)) ?_
  refine Bod.ialdN li rfl (by omega) (by omega) dc_338_430 (mk_68 _) ?_
  refine Bod.eqI (nI e68) (by first | assumption | rfl | exact congrArg nI (by omega) | (simp (disch := omega) only [rI, rIe, rA, rIA, rLA, rJA, rVI, rQI, rVA, rQA, upd_at,  rAI, rLI, rJI, nI_add, pk_sub, kc_0, kc_1, kc_2, kc_3, kc_4, kc_5, reduceIte, Nat.reduceEqDiff, Nat.add_zero, rI_hold, rI_hold, rL_hold, he67, he68]; done)) ?_
  refine Bod.bip 7 (by decide) dc_338_431 ?_
  refine Bod.icT dc_338_433 rfl (k2_ne_T (k_ne e68 7 rfl rfl (by omega) (by omega) (by omega))) ?_
  refine Bod.ildG dc_338_447 (by repeat (first | exact q4 | exact sm_get_p1 | exact sm_get_p2e | refine sm_get_p1m (by decide) (by decide) ?_ | refine sm_get_p1n (by decide) rfl ?_ | refine sm_get_p2n (by decide) (by decide) rfl ?_)) ?_
  refine Bod.ifF dc_338_449 rfl (by decide) ?_
  refine Bod.aldnG dc_338_452 (by repeat (first | exact q0 | exact sm_get_p1 | exact sm_get_p2e | refine sm_get_p1m (by decide) (by decide) ?_ | refine sm_get_p1n (by decide) rfl ?_ | refine sm_get_p2n (by decide) (by decide) rfl ?_)) ?_
  refine Bod.get dc_338_453 fr_338_129 (mk_61 _) rfl ?_
  refine Bod.ildnG dc_338_456 (by repeat (first | exact q3 | exact sm_get_p1 | exact sm_get_p2e | refine sm_get_p1m (by decide) (by decide) ?_ | refine sm_get_p1n (by decide) rfl ?_ | refine sm_get_p2n (by decide) (by decide) rfl ?_)) ?_
  refine Bod.ialdN li rfl (by omega) (by omega) dc_338_457 (mk_67 _) ?_
  refine Bod.eqI (nI e67) (by first | assumption | rfl | exact congrArg nI (by omega) | (simp (disch := omega) only [rI, rIe, rA, rIA, rLA, rJA, rVI, rQI, rVA, rQA, upd_at,  rAI, rLI, rJI, nI_add, pk_sub, kc_0, kc_1, kc_2, kc_3, kc_4, kc_5, reduceIte, Nat.reduceEqDiff, Nat.add_zero, rI_hold, rI_hold, rL_hold, he67, he68]; done)) ?_
  refine Bod.ic 2 (by decide) dc_338_458 ?_
  refine Bod.icF dc_338_459 rfl (k2_ne_F (k_eq e67 2 rfl rfl (by omega))) ?_
  refine Bod.aldnG dc_338_462 (by repeat (first | exact q0 | exact sm_get_p1 | exact sm_get_p2e | refine sm_get_p1m (by decide) (by decide) ?_ | refine sm_get_p1n (by decide) rfl ?_ | refine sm_get_p2n (by decide) (by decide) rfl ?_)) ?_
  refine Bod.get dc_338_463 fr_338_135 (mk_61 _) rfl ?_
  refine Bod.ildnG dc_338_466 (by repeat (first | exact q3 | exact sm_get_p1 | exact sm_get_p2e | refine sm_get_p1m (by decide) (by decide) ?_ | refine sm_get_p1n (by decide) rfl ?_ | refine sm_get_p2n (by decide) (by decide) rfl ?_)) ?_
  refine Bod.ialdN li rfl (by omega) (by omega) dc_338_467 (mk_68 _) ?_
  refine Bod.eqI (nI e68) (by first | assumption | rfl | exact congrArg nI (by omega) | (simp (disch := omega) only [rI, rIe, rA, rIA, rLA, rJA, rVI, rQI, rVA, rQA, upd_at,  rAI, rLI, rJI, nI_add, pk_sub, kc_0, kc_1, kc_2, kc_3, kc_4, kc_5, reduceIte, Nat.reduceEqDiff, Nat.add_zero, rI_hold, rI_hold, rL_hold, he67, he68]; done)) ?_
  refine Bod.bip 13 (by decide) dc_338_468 ?_
  refine Bod.icF dc_338_470 rfl (k2_ne_F (k_eq e68 13 rfl rfl (by omega))) ?_
  refine Bod.ildnG dc_338_473 (by repeat (first | exact q3 | exact sm_get_p1 | exact sm_get_p2e | refine sm_get_p1m (by decide) (by decide) ?_ | refine sm_get_p1n (by decide) rfl ?_ | refine sm_get_p2n (by decide) (by decide) rfl ?_)) ?_
  refine Bod.ic 1 (by decide) dc_338_474 ?_
  refine Bod.addN (li + 1) (by omega) dc_338_475 ?_
  refine Bod.ist dc_338_476 (by rw [ml_338]; exact Nat.le_of_ble_eq_true rfl) ?_
  exact hB _ (by repeat (first | exact q0 | exact sm_get_p1 | exact sm_get_p2e | refine sm_get_p1m (by decide) (by decide) ?_ | refine sm_get_p1n (by decide) rfl ?_ | refine sm_get_p2n (by decide) (by decide) rfl ?_)) (by repeat (first | exact q2 | exact sm_get_p1 | exact sm_get_p2e | refine sm_get_p1m (by decide) (by decide) ?_ | refine sm_get_p1n (by decide) rfl ?_ | refine sm_get_p2n (by decide) (by decide) rfl ?_)) (by repeat (first | exact q3 | exact sm_get_p1 | exact sm_get_p2e | refine sm_get_p1m (by decide) (by decide) ?_ | refine sm_get_p1n (by decide) rfl ?_ | refine sm_get_p2n (by decide) (by decide) rfl ?_)) (by repeat (first | exact q4 | exact sm_get_p1 | exact sm_get_p2e | refine sm_get_p1m (by decide) (by decide) ?_ | refine sm_get_p1n (by decide) rfl ?_ | refine sm_get_p2n (by decide) (by decide) rfl ?_)) (by repeat (first | exact q0 | exact sm_get_p1 | exact sm_get_p2e | refine sm_get_p1m (by decide) (by decide) ?_ | refine sm_get_p1n (by decide) rfl ?_ | refine sm_get_p2n (by decide) (by decide) rfl ?_))
theorem zSl_5 {d : Nat} {S Sf : cS} {v : Option Value} {lv : sm_L} {lw : Nat} {li : Nat} {e67 : Nat} {e68 : Nat} {e70 : Nat} (q0 : sm_get lv 0 = some (.ref 61)) (q2 : sm_get lv 2 = some (.int (nI lw))) (q3 : sm_get lv 3 = some (.int (nI li))) (q4 : sm_get lv 4 = some (.int (Int32.ofInt (-1)))) (mlw : lw < 2 ^ 20) (mli : li < 2 ^ 20) (b1 : li < 6002) (he67 : sA S 67 li = nI e67) (me67 : e67 < 2 ^ 20) (b2 : e67 = 2) (he68 : sA S 68 li = nI e68) (me68 : e68 < 2 ^ 20) (b3 : e68 ≠ 6) (b4 : e68 = 7) (he70 : sA S 70 li = nI e70) (me70 : e70 < 2 ^ 20) (hB : ∀ lv1 : sm_L, sm_get lv1 0 = some (.ref 61) → sm_get lv1 2 = some (.int (nI lw)) → sm_get lv1 3 = some (.int (nI li)) → sm_get lv1 4 = some (.int (nI e70)) → Bod (d + 8) 338 518 lv1 [] (S) v Sf) : Bod (d + 8) 338 399 lv [] S v Sf := by
  refine Bod.ildG dc_338_399 (by repeat (first | exact q4 | exact sm_get_p1 | exact sm_get_p2e | refine sm_get_p1m (by decide) (by decide) ?_ | refine sm_get_p1n (by decide) rfl ?_ | refine sm_get_p2n (by decide) (by decide) rfl ?_)) ?_
  refine Bod.ifF dc_338_401 rfl (by decide) ?_
  refine Bod.aldnG dc_338_404 (by repeat (first | exact q0 | exact sm_get_p1 | exact sm_get_p2e | refine sm_get_p1m (by decide) (by decide) ?_ | refine sm_get_p1n (by decide) rfl ?_ | refine sm_get_p2n (by decide) (by decide) rfl ?_)) ?_
  refine Bod.get dc_338_405 fr_338_129 (mk_61 _) rfl ?_
  refine Bod.ildnG dc_338_408 (by repeat (first | exact q3 | exact sm_get_p1 | exact sm_get_p2e | refine sm_get_p1m (by decide) (by decide) ?_ | refine sm_get_p1n (by decide) rfl ?_ | refine sm_get_p2n (by decide) (by decide) rfl ?_)) ?_
  refine Bod.ialdN li rfl (by omega) (by omega) dc_338_409 (mk_67 _) ?_
  refine Bod.eqI (nI e67) (by first | assumption | rfl | exact congrArg nI (by omega) | (simp (disch := omega) only [rI, rIe, rA, rIA, rLA, rJA, rVI, rQI, rVA, rQA, upd_at,  rAI, rLI, rJI, nI_add, pk_sub, kc_0, kc_1, kc_2, kc_3, kc_4, kc_5, reduceIte, Nat.reduceEqDiff, Nat.add_zero, rI_hold, rI_hold, rL_hold, he67]; done)) ?_
  refine Bod.ic 2 (by decide) dc_338_410 ?_
  refine Bod.icF dc_338_411 rfl (k2_ne_F (k_eq e67 2 rfl rfl (by omega))) ?_
  refine Bod.aldnG dc_338_414 (by repeat (first | exact q0 | exact sm_get_p1 | exact sm_get_p2e | refine sm_get_p1m (by decide) (by decide) ?_ | refine sm_get_p1n (by decide) rfl ?_ | refine sm_get_p2n (by decide) (by decide) rfl ?_)) ?_
  refine Bod.get dc_338_415 fr_338_135 (mk_61 _) rfl ?_
  refine Bod.ildnG dc_338_418 (by repeat (first | exact q3 | exact sm_get_p1 | exact sm_get_p2e | refine sm_get_p1m (by decide) (by decide) ?_ | refine sm_get_p1n (by decide) rfl ?_ | refine sm_get_p2n (by decide) (by decide) rfl ?_)) ?_
  refine Bod.ialdN li rfl (by omega) (by omega) dc_338_419 (mk_68 _) ?_
  refine Bod.eqI (nI e68) (by first | assumption | rfl | exact congrArg nI (by omega) | (simp (disch := omega) only [rI, rIe, rA, rIA, rLA, rJA, rVI, rQI, rVA, rQA, upd_at,  rAI, rLI, rJI, nI_add, pk_sub, kc_0, kc_1, kc_2, kc_3, kc_4, kc_5, reduceIte, Nat.reduceEqDiff, Nat.add_zero, rI_hold, rI_hold, rL_hold, he67, he68]; done)) ?_
  refine Bod.bip 6 (by decide) dc_338_420 ?_
  refine Bod.icF dc_338_422 rfl (k2_eq_F (k_ne e68 6 rfl rfl (by omega) (by omega) (by omega))) ?_
  refine Bod.aldnG dc_338_425 (by repeat (first | exact q0 | exact sm_get_p1 | exact sm_get_p2e | refine sm_get_p1m (by decide) (by decide) ?_ | refine sm_get_p1n (by decide) rfl ?_ | refine sm_get_p2n (by decide) (by decide) rfl ?_)) ?_
  refine Bod.get dc_338_426 fr_338_135 (mk_61 _) rfl ?_
  refine Bod.ildnG dc_338_429 (by repeat (first | exact q3 | exact sm_get_p1 | exact sm_get_p2e | refine sm_get_p1m (by decide) (by decide) ?_ | refine sm_get_p1n (by decide) rfl ?_ | refine sm_get_p2n (by decide) (by decide) rfl ?_)) ?_
  refine Bod.ialdN li rfl (by omega) (by omega) dc_338_430 (mk_68 _) ?_
  refine Bod.eqI (nI e68) (by first | assumption | rfl | exact congrArg nI (by omega) | (simp (disch := omega) only [rI, rIe, rA, rIA, rLA, rJA, rVI, rQI, rVA, rQA, upd_at,  rAI, rLI, rJI, nI_add, pk_sub, kc_0, kc_1, kc_2, kc_3, kc_4, kc_5, reduceIte, Nat.reduceEqDiff, Nat.add_zero, rI_hold, rI_hold, rL_hold, he67, he68]; done)) ?_
  refine Bod.bip 7 (by decide) dc_338_431 ?_
  refine Bod.icF dc_338_433 rfl (k2_ne_F (k_eq e68 7 rfl rfl (by omega))) ?_
  refine Bod.aldnG dc_338_436 (by repeat (first | exact q0 | exact sm_get_p1 | exact sm_get_p2e | refine sm_get_p1m (by decide) (by decide) ?_ | refine sm_get_p1n (by decide) rfl ?_ | refine sm_get_p2n (by decide) (by decide) rfl ?_)) ?_
  refine Bod.get dc_338_437 fr_338_141 (mk_61 _) rfl ?_
  refine Bod.ildnG dc_338_440 (by repeat (first | exact q3 | exact sm_get_p1 | exact sm_get_p2e | refine sm_get_p1m (by decide) (by decide) ?_ | refine sm_get_p1n (by decide) rfl ?_ | refine sm_get_p2n (by decide) (by decide) rfl ?_)) ?_
  refine Bod.ialdN li rfl (by omega) (by omega) dc_338_441 (mk_70 _) ?_
  refine Bod.eqI (nI e70) (by first | assumption | rfl | exact congrArg nI (by omega) | (simp (disch := omega) only [rI, rIe, rA, rIA, rLA, rJA, rVI, rQI, rVA, rQA, upd_at,  rAI, rLI, rJI, nI_add, pk_sub, kc_0, kc_1, kc_2, kc_3, kc_4, kc_5, reduceIte, Nat.reduceEqDiff, Nat.add_zero, rI_hold, rI_hold, rL_hold, he67, he68, he70]; done)) ?_
  refine Bod.ist dc_338_442 (by rw [ml_338]; exact Nat.le_of_ble_eq_true rfl) ?_
  refine Bod.go dc_338_444 rfl ?_
  exact hB _ (by repeat (first | exact q0 | exact sm_get_p1 | exact sm_get_p2e | refine sm_get_p1m (by decide) (by decide) ?_ | refine sm_get_p1n (by decide) rfl ?_ | refine sm_get_p2n (by decide) (by decide) rfl ?_)) (by repeat (first | exact q2 | exact sm_get_p1 | exact sm_get_p2e | refine sm_get_p1m (by decide) (by decide) ?_ | refine sm_get_p1n (by decide) rfl ?_ | refine sm_get_p2n (by decide) (by decide) rfl ?_)) (by repeat (first | exact q3 | exact sm_get_p1 | exact sm_get_p2e | refine sm_get_p1m (by decide) (by decide) ?_ | refine sm_get_p1n (by decide) rfl ?_ | refine sm_get_p2n (by decide) (by decide) rfl ?_)) (by repeat (first | exact q0 | exact sm_get_p1 | exact sm_get_p2e | refine sm_get_p1m (by decide) (by decide) ?_ | refine sm_get_p1n (by decide) rfl ?_ | refine sm_get_p2n (by decide) (by decide) rfl ?_))
theorem zSg_1 {d : Nat} {S Sf : cS} {v : Option Value} {lv : sm_L} {lw : Nat} {li : Nat} {lh : Nat} {e67 : Nat} (q0 : sm_get lv 0 = some (.ref 61)) (q2 : sm_get lv 2 = some (.int (nI lw))) (q3 : sm_get lv 3 = some (.int (nI li))) (q4 : sm_get lv 4 = some (.int (Int32.ofInt (-1)))) (q5 : sm_get lv 5 = some (.int (nI lh))) (mlw : lw < 2 ^ 20) (mli : li < 2 ^ 20) (mlh : lh < 2 ^ 20) (b1 : lh < 6002) (he67 : sA S 67 lh = nI e67) (me67 : e67 < 2 ^ 20) (b2 : e67 = 6) (hB : ∀ lv1 : sm_L, sm_get lv1 0 = some (.ref 61) → sm_get lv1 2 = some (.int (nI lw)) → sm_get lv1 3 = some (.int (nI li)) → sm_get lv1 4 = some (.int (Int32.ofInt (-1))) → Bod (d + 8) 338 518 lv1 [] (S) v Sf) : Bod (d + 8) 338 478 lv [] S v Sf := by
  refine Bod.aldnG dc_338_478 (by repeat (first | exact q0 | exact sm_get_p1 | exact sm_get_p2e | refine sm_get_p1m (by decide) (by decide) ?_ | refine sm_get_p1n (by decide) rfl ?_ | refine sm_get_p2n (by decide) (by decide) rfl ?_)) ?_
  refine Bod.get dc_338_479 fr_338_129 (mk_61 _) rfl ?_
  refine Bod.ildG dc_338_482 (by repeat (first | exact q5 | exact sm_get_p1 | exact sm_get_p2e | refine sm_get_p1m (by decide) (by decide) ?_ | refine sm_get_p1n (by decide) rfl ?_ | refine sm_get_p2n (by decide) (by decide) rfl ?_)) ?_
  refine Bod.ialdN lh rfl (by omega) (by omega) dc_338_484 (mk_67 _) ?_
  refine Bod.eqI (nI e67) (by first | assumption | rfl | exact congrArg nI (by omega) | (simp (disch := omega) only [rI, rIe, rA, rIA, rLA, rJA, rVI, rQI, rVA, rQA, upd_at,  rAI, rLI, rJI, nI_add, pk_sub, kc_0, kc_1, kc_2, kc_3, kc_4, kc_5, reduceIte, Nat.reduceEqDiff, Nat.add_zero, rI_hold, rI_hold, rL_hold, he67]; done)) ?_
  refine Bod.bip 6 (by decide) dc_338_485 ?_
  refine Bod.icT dc_338_487 rfl (k2_eq_T (k_eq e67 6 rfl rfl (by omega))) ?_
  exact hB _ (by repeat (first | exact q0 | exact sm_get_p1 | exact sm_get_p2e | refine sm_get_p1m (by decide) (by decide) ?_ | refine sm_get_p1n (by decide) rfl ?_ | refine sm_get_p2n (by decide) (by decide) rfl ?_)) (by repeat (first | exact q2 | exact sm_get_p1 | exact sm_get_p2e | refine sm_get_p1m (by decide) (by decide) ?_ | refine sm_get_p1n (by decide) rfl ?_ | refine sm_get_p2n (by decide) (by decide) rfl ?_)) (by repeat (first | exact q3 | exact sm_get_p1 | exact sm_get_p2e | refine sm_get_p1m (by decide) (by decide) ?_ | refine sm_get_p1n (by decide) rfl ?_ | refine sm_get_p2n (by decide) (by decide) rfl ?_)) (by repeat (first | exact q4 | exact sm_get_p1 | exact sm_get_p2e | refine sm_get_p1m (by decide) (by decide) ?_ | refine sm_get_p1n (by decide) rfl ?_ | refine sm_get_p2n (by decide) (by decide) rfl ?_))
theorem zSg_2 {d : Nat} {S Sf : cS} {v : Option Value} {lv : sm_L} {lw : Nat} {li : Nat} {lh : Nat} {e67 : Nat} (q0 : sm_get lv 0 = some (.ref 61)) (q2 : sm_get lv 2 = some (.int (nI lw))) (q3 : sm_get lv 3 = some (.int (nI li))) (q4 : sm_get lv 4 = some (.int (Int32.ofInt (-1)))) (q5 : sm_get lv 5 = some (.int (nI lh))) (mlw : lw < 2 ^ 20) (mli : li < 2 ^ 20) (mlh : lh < 2 ^ 20) (b1 : lh < 6002) (he67 : sA S 67 lh = nI e67) (me67 : e67 < 2 ^ 20) (b2 : e67 ≠ 6) (b3 : e67 ≠ 1) (hB : ∀ lv1 : sm_L, sm_get lv1 0 = some (.ref 61) → sm_get lv1 2 = some (.int (nI lw)) → sm_get lv1 3 = some (.int (nI li)) → sm_get lv1 4 = some (.int (Int32.ofInt (-1))) → sm_get lv1 5 = some (.int (nI (lh + 1))) → Bod (d + 8) 338 478 lv1 [] (S) v Sf) : Bod (d + 8) 338 478 lv [] S v Sf := by
  refine Bod.aldnG dc_338_478 (by repeat (first | exact q0 | exact sm_get_p1 | exact sm_get_p2e | refine sm_get_p1m (by decide) (by decide) ?_ | refine sm_get_p1n (by decide) rfl ?_ | refine sm_get_p2n (by decide) (by decide) rfl ?_)) ?_
  refine Bod.get dc_338_479 fr_338_129 (mk_61 _) rfl ?_
  refine Bod.ildG dc_338_482 (by repeat (first | exact q5 | exact sm_get_p1 | exact sm_get_p2e | refine sm_get_p1m (by decide) (by decide) ?_ | refine sm_get_p1n (by decide) rfl ?_ | refine sm_get_p2n (by decide) (by decide) rfl ?_)) ?_
  refine Bod.ialdN lh rfl (by omega) (by omega) dc_338_484 (mk_67 _) ?_
  refine Bod.eqI (nI e67) (by first | assumption | rfl | exact congrArg nI (by omega) | (simp (disch := omega) only [rI, rIe, rA, rIA, rLA, rJA, rVI, rQI, rVA, rQA, upd_at,  rAI, rLI, rJI, nI_add, pk_sub, kc_0, kc_1, kc_2, kc_3, kc_4, kc_5, reduceIte, Nat.reduceEqDiff, Nat.add_zero, rI_hold, rI_hold, rL_hold, he67]; done)) ?_
  refine Bod.bip 6 (by decide) dc_338_485 ?_
  refine Bod.icF dc_338_487 rfl (k2_eq_F (k_ne e67 6 rfl rfl (by omega) (by omega) (by omega))) ?_
  refine Bod.aldnG dc_338_490 (by repeat (first | exact q0 | exact sm_get_p1 | exact sm_get_p2e | refine sm_get_p1m (by decide) (by decide) ?_ | refine sm_get_p1n (by decide) rfl ?_ | refine sm_get_p2n (by decide) (by decide) rfl ?_)) ?_
  refine Bod.get dc_338_491 fr_338_129 (mk_61 _) rfl ?_
  refine Bod.ildG dc_338_494 (by repeat (first | exact q5 | exact sm_get_p1 | exact sm_get_p2e | refine sm_get_p1m (by decide) (by decide) ?_ | refine sm_get_p1n (by decide) rfl ?_ | refine sm_get_p2n (by decide) (by decide) rfl ?_)) ?_
  refine Bod.ialdN lh rfl (by omega) (by omega) dc_338_496 (mk_67 _) ?_
  refine Bod.eqI (nI e67) (by first | assumption | rfl | exact congrArg nI (by omega) | (simp (disch := omega) only [rI, rIe, rA, rIA, rLA, rJA, rVI, rQI, rVA, rQA, upd_at,  rAI, rLI, rJI, nI_add, pk_sub, kc_0, kc_1, kc_2, kc_3, kc_4, kc_5, reduceIte, Nat.reduceEqDiff, Nat.add_zero, rI_hold, rI_hold, rL_hold, he67]; done)) ?_
  refine Bod.ic 1 (by decide) dc_338_497 ?_
  refine Bod.icT dc_338_498 rfl (k2_ne_T (k_ne e67 1 rfl rfl (by omega) (by omega) (by omega))) ?_
  refine Bod.incN (lh + 1) (by rw [kc_1, nI_add]) dc_338_512 (by rw [ml_338]; exact Nat.le_of_ble_eq_true rfl) (by repeat (first | exact q5 | exact sm_get_p1 | exact sm_get_p2e | refine sm_get_p1m (by decide) (by decide) ?_ | refine sm_get_p1n (by decide) rfl ?_ | refine sm_get_p2n (by decide) (by decide) rfl ?_)) ?_
  refine Bod.go dc_338_515 rfl ?_
  exact hB _ (by repeat (first | exact q0 | exact sm_get_p1 | exact sm_get_p2e | refine sm_get_p1m (by decide) (by decide) ?_ | refine sm_get_p1n (by decide) rfl ?_ | refine sm_get_p2n (by decide) (by decide) rfl ?_)) (by repeat (first | exact q2 | exact sm_get_p1 | exact sm_get_p2e | refine sm_get_p1m (by decide) (by decide) ?_ | refine sm_get_p1n (by decide) rfl ?_ | refine sm_get_p2n (by decide) (by decide) rfl ?_)) (by repeat (first | exact q3 | exact sm_get_p1 | exact sm_get_p2e | refine sm_get_p1m (by decide) (by decide) ?_ | refine sm_get_p1n (by decide) rfl ?_ | refine sm_get_p2n (by decide) (by decide) rfl ?_)) (by repeat (first | exact q4 | exact sm_get_p1 | exact sm_get_p2e | refine sm_get_p1m (by decide) (by decide) ?_ | refine sm_get_p1n (by decide) rfl ?_ | refine sm_get_p2n (by decide) (by decide) rfl ?_)) (by repeat (first | exact q0 | exact sm_get_p1 | exact sm_get_p2e | refine sm_get_p1m (by decide) (by decide) ?_ | refine sm_get_p1n (by decide) rfl ?_ | refine sm_get_p2n (by decide) (by decide) rfl ?_))
theorem zSg_3 {d : Nat} {S Sf : cS} {v : Option Value} {lv : sm_L} {lw : Nat} {li : Nat} {lh : Nat} {e67 : Nat} {e68 : Nat} {S1 : cS} (q0 : sm_get lv 0 = some (.ref 61)) (q2 : sm_get lv 2 = some (.int (nI lw))) (q3 : sm_get lv 3 = some (.int (nI li))) (q4 : sm_get lv 4 = some (.int (Int32.ofInt (-1)))) (q5 : sm_get lv 5 = some (.int (nI lh))) (mlw : lw < 2 ^ 20) (mli : li < 2 ^ 20) (mlh : lh < 2 ^ 20) (b1 : lh < 6002) (he67 : sA S 67 lh = nI e67) (me67 : e67 < 2 ^ 20) (b2 : e67 ≠ 6) (b3 : e67 = 1) (he68 : sA S 68 lh = nI e68) (me68 : e68 < 2 ^ 20) (c1 : Ans (d + 8) 340 [.ref 61, .int (nI e68)] S none S1) (hB : ∀ lv1 : sm_L, sm_get lv1 0 = some (.ref 61) → sm_get lv1 2 = some (.int (nI lw)) → sm_get lv1 3 = some (.int (nI li)) → sm_get lv1 4 = some (.int (Int32.ofInt (-1))) → sm_get lv1 5 = some (.int (nI (lh + 1))) → Bod (d + 8) 338 478 lv1 [] (S1) v Sf) : Bod (d + 8) 338 478 lv [] S v Sf := by
  refine Bod.aldnG dc_338_478 (by repeat (first | exact q0 | exact sm_get_p1 | exact sm_get_p2e | refine sm_get_p1m (by decide) (by decide) ?_ | refine sm_get_p1n (by decide) rfl ?_ | refine sm_get_p2n (by decide) (by decide) rfl ?_)) ?_
  refine Bod.get dc_338_479 fr_338_129 (mk_61 _) rfl ?_
  refine Bod.ildG dc_338_482 (by repeat (first | exact q5 | exact sm_get_p1 | exact sm_get_p2e | refine sm_get_p1m (by decide) (by decide) ?_ | refine sm_get_p1n (by decide) rfl ?_ | refine sm_get_p2n (by decide) (by decide) rfl ?_)) ?_
  refine Bod.ialdN lh rfl (by omega) (by omega) dc_338_484 (mk_67 _) ?_
  refine Bod.eqI (nI e67) (by first | assumption | rfl | exact congrArg nI (by omega) | (simp (disch := omega) only [rI, rIe, rA, rIA, rLA, rJA, rVI, rQI, rVA, rQA, upd_at,  rAI, rLI, rJI, nI_add, pk_sub, kc_0, kc_1, kc_2, kc_3, kc_4, kc_5, reduceIte, Nat.reduceEqDiff, Nat.add_zero, rI_hold, rI_hold, rL_hold, he67]; done)) ?_
  refine Bod.bip 6 (by decide) dc_338_485 ?_
  refine Bod.icF dc_338_487 rfl (k2_eq_F (k_ne e67 6 rfl rfl (by omega) (by omega) (by omega))) ?_
  refine Bod.aldnG dc_338_490 (by repeat (first | exact q0 | exact sm_get_p1 | exact sm_get_p2e | refine sm_get_p1m (by decide) (by decide) ?_ | refine sm_get_p1n (by decide) rfl ?_ | refine sm_get_p2n (by decide) (by decide) rfl ?_)) ?_
  refine Bod.get dc_338_491 fr_338_129 (mk_61 _) rfl ?_
  refine Bod.ildG dc_338_494 (by repeat (first | exact q5 | exact sm_get_p1 | exact sm_get_p2e | refine sm_get_p1m (by decide) (by decide) ?_ | refine sm_get_p1n (by decide) rfl ?_ | refine sm_get_p2n (by decide) (by decide) rfl ?_)) ?_
  refine Bod.ialdN lh rfl (by omega) (by omega) dc_338_496 (mk_67 _) ?_
  refine Bod.eqI (nI e67) (by first | assumption | rfl | exact congrArg nI (by omega) | (simp (disch := omega) only [rI, rIe, rA, rIA, rLA, rJA, rVI, rQI, rVA, rQA, upd_at,  rAI, rLI, rJI, nI_add, pk_sub, kc_0, kc_1, kc_2, kc_3, kc_4, kc_5, reduceIte, Nat.reduceEqDiff, Nat.add_zero, rI_hold, rI_hold, rL_hold, he67]; done)) ?_
  refine Bod.ic 1 (by decide) dc_338_497 ?_
  refine Bod.icF dc_338_498 rfl (k2_ne_F (k_eq e67 1 rfl rfl (by omega))) ?_
  refine Bod.aldnG dc_338_501 (by repeat (first | exact q0 | exact sm_get_p1 | exact sm_get_p2e | refine sm_get_p1m (by decide) (by decide) ?_ | refine sm_get_p1n (by decide) rfl ?_ | refine sm_get_p2n (by decide) (by decide) rfl ?_)) ?_
  refine Bod.aldnG dc_338_502 (by repeat (first | exact q0 | exact sm_get_p1 | exact sm_get_p2e | refine sm_get_p1m (by decide) (by decide) ?_ | refine sm_get_p1n (by decide) rfl ?_ | refine sm_get_p2n (by decide) (by decide) rfl ?_)) ?_
  refine Bod.get dc_338_503 fr_338_135 (mk_61 _) rfl ?_
  refine Bod.ildG dc_338_506 (by repeat (first | exact q5 | exact sm_get_p1 | exact sm_get_p2e | refine sm_get_p1m (by decide) (by decide) ?_ | refine sm_get_p1n (by decide) rfl ?_ | refine sm_get_p2n (by decide) (by decide) rfl ?_)) ?_
  refine Bod.ialdN lh rfl (by omega) (by omega) dc_338_508 (mk_68 _) ?_
  refine Bod.eqI (nI e68) (by first | assumption | rfl | exact congrArg nI (by omega) | (simp (disch := omega) only [rI, rIe, rA, rIA, rLA, rJA, rVI, rQI, rVA, rQA, upd_at,  rAI, rLI, rJI, nI_add, pk_sub, kc_0, kc_1, kc_2, kc_3, kc_4, kc_5, reduceIte, Nat.reduceEqDiff, Nat.add_zero, rI_hold, rI_hold, rL_hold, he67, he68]; done)) ?_
  refine Bod.virt (r := []) dc_338_509 kr_338_359 ⟨Or.inl rfl, ow_340, cl_14⟩ (by rw [np_340]; rfl) (by rw [np_340]; rfl) (ob_of (mk_61 _)) (Nat.le_of_ble_eq_true rfl) (c1  ) ?_
  show Bod _ _ _ _ [] _ _ _
  refine Bod.incN (lh + 1) (by rw [kc_1, nI_add]) dc_338_512 (by rw [ml_338]; exact Nat.le_of_ble_eq_true rfl) (by repeat (first | exact q5 | exact sm_get_p1 | exact sm_get_p2e | refine sm_get_p1m (by decide) (by decide) ?_ | refine sm_get_p1n (by decide) rfl ?_ | refine sm_get_p2n (by decide) (by decide) rfl ?_)) ?_
  refine Bod.go dc_338_515 rfl ?_
  exact hB _ (by repeat (first | exact q0 | exact sm_get_p1 | exact sm_get_p2e | refine sm_get_p1m (by decide) (by decide) ?_ | refine sm_get_p1n (by decide) rfl ?_ | refine sm_get_p2n (by decide) (by decide) rfl ?_)) (by repeat (first | exact q2 | exact sm_get_p1 | exact sm_get_p2e | refine sm_get_p1m (by decide) (by decide) ?_ | refine sm_get_p1n (by decide) rfl ?_ | refine sm_get_p2n (by decide) (by decide) rfl ?_)) (by repeat (first | exact q3 | exact sm_get_p1 | exact sm_get_p2e | refine sm_get_p1m (by decide) (by decide) ?_ | refine sm_get_p1n (by decide) rfl ?_ | refine sm_get_p2n (by decide) (by decide) rfl ?_)) (by repeat (first | exact q4 | exact sm_get_p1 | exact sm_get_p2e | refine sm_get_p1m (by decide) (by decide) ?_ | refine sm_get_p1n (by decide) rfl ?_ | refine sm_get_p2n (by decide) (by decide) rfl ?_)) (by repeat (first | exact q0 | exact sm_get_p1 | exact sm_get_p2e | refine sm_get_p1m (by decide) (by decide) ?_ | refine sm_get_p1n (by decide) rfl ?_ | refine sm_get_p2n (by decide) (by decide) rfl ?_))
theorem zSh_1 {d : Nat} {S Sf : cS} {v : Option Value} {lv : sm_L} {lw : Nat} {li : Nat} {ly : Nat} {e67 : Nat} (q0 : sm_get lv 0 = some (.ref 61)) (q2 : sm_get lv 2 = some (.int (nI lw))) (q3 : sm_get lv 3 = some (.int (nI li))) (q4 : sm_get lv 4 = some (.int (nI ly))) (mlw : lw < 2 ^ 20) (mli : li < 2 ^ 20) (mly : ly < 2 ^ 20) (b1 : li < 6002) (he67 : sA S 67 li = nI e67) (me67 : e67 < 2 ^ 20) (b2 : e67 = 6) (hB : ∀ lv1 : sm_L, sm_get lv1 0 = some (.ref 61) → sm_get lv1 2 = some (.int (nI lw)) → sm_get lv1 3 = some (.int (nI (li + 1))) → sm_get lv1 4 = some (.int (nI ly)) → Bod (d + 8) 338 359 lv1 [] (S) v Sf) : Bod (d + 8) 338 518 lv [] S v Sf := by
  refine Bod.aldnG dc_338_518 (by repeat (first | exact q0 | exact sm_get_p1 | exact sm_get_p2e | refine sm_get_p1m (by decide) (by decide) ?_ | refine sm_get_p1n (by decide) rfl ?_ | refine sm_get_p2n (by decide) (by decide) rfl ?_)) ?_
  refine Bod.get dc_338_519 fr_338_129 (mk_61 _) rfl ?_
  refine Bod.ildnG dc_338_522 (by repeat (first | exact q3 | exact sm_get_p1 | exact sm_get_p2e | refine sm_get_p1m (by decide) (by decide) ?_ | refine sm_get_p1n (by decide) rfl ?_ | refine sm_get_p2n (by decide) (by decide) rfl ?_)) ?_
  refine Bod.ialdN li rfl (by omega) (by omega) dc_338_523 (mk_67 _) ?_
  refine Bod.eqI (nI e67) (by first | assumption | rfl | exact congrArg nI (by omega) | (simp (disch := omega) only [rI, rIe, rA, rIA, rLA, rJA, rVI, rQI, rVA, rQA, upd_at,  rAI, rLI, rJI, nI_add, pk_sub, kc_0, kc_1, kc_2, kc_3, kc_4, kc_5, reduceIte, Nat.reduceEqDiff, Nat.add_zero, rI_hold, rI_hold, rL_hold, he67]; done)) ?_
  refine Bod.bip 6 (by decide) dc_338_524 ?_
  refine Bod.icT dc_338_526 rfl (k2_eq_T (k_eq e67 6 rfl rfl (by omega))) ?_
  refine Bod.incN (li + 1) (by rw [kc_1, nI_add]) dc_338_535 (by rw [ml_338]; exact Nat.le_of_ble_eq_true rfl) (by repeat (first | exact q3 | exact sm_get_p1 | exact sm_get_p2e | refine sm_get_p1m (by decide) (by decide) ?_ | refine sm_get_p1n (by decide) rfl ?_ | refine sm_get_p2n (by decide) (by decide) rfl ?_)) ?_
  refine Bod.go dc_338_538 rfl ?_
  exact hB _ (by repeat (first | exact q0 | exact sm_get_p1 | exact sm_get_p2e | refine sm_get_p1m (by decide) (by decide) ?_ | refine sm_get_p1n (by decide) rfl ?_ | refine sm_get_p2n (by decide) (by decide) rfl ?_)) (by repeat (first | exact q2 | exact sm_get_p1 | exact sm_get_p2e | refine sm_get_p1m (by decide) (by decide) ?_ | refine sm_get_p1n (by decide) rfl ?_ | refine sm_get_p2n (by decide) (by decide) rfl ?_)) (by repeat (first | exact q0 | exact sm_get_p1 | exact sm_get_p2e | refine sm_get_p1m (by decide) (by decide) ?_ | refine sm_get_p1n (by decide) rfl ?_ | refine sm_get_p2n (by decide) (by decide) rfl ?_)) (by repeat (first | exact q4 | exact sm_get_p1 | exact sm_get_p2e | refine sm_get_p1m (by decide) (by decide) ?_ | refine sm_get_p1n (by decide) rfl ?_ | refine sm_get_p2n (by decide) (by decide) rfl ?_))
theorem zSh_2 {d : Nat} {S Sf : cS} {v : Option Value} {lv : sm_L} {lw : Nat} {li : Nat} {ly : Nat} {e67 : Nat} (q0 : sm_get lv 0 = some (.ref 61)) (q2 : sm_get lv 2 = some (.int (nI lw))) (q3 : sm_get lv 3 = some (.int (nI li))) (q4 : sm_get lv 4 = some (.int (nI ly))) (mlw : lw < 2 ^ 20) (mli : li < 2 ^ 20) (mly : ly < 2 ^ 20) (b1 : li < 6002) (he67 : sA S 67 li = nI e67) (me67 : e67 < 2 ^ 20) (b2 : e67 ≠ 6) (hB : ∀ lv1 : sm_L, sm_get lv1 0 = some (.ref 61) → sm_get lv1 2 = some (.int (nI lw)) → sm_get lv1 3 = some (.int (nI (li + 1))) → sm_get lv1 4 = some (.int (nI ly)) → Bod (d + 8) 338 518 lv1 [] (S) v Sf) : Bod (d + 8) 338 518 lv [] S v Sf := by
  refine Bod.aldnG dc_338_518 (by repeat (first | exact q0 | exact sm_get_p1 | exact sm_get_p2e | refine sm_get_p1m (by decide) (by decide) ?_ | refine sm_get_p1n (by decide) rfl ?_ | refine sm_get_p2n (by decide) (by decide) rfl ?_)) ?_
  refine Bod.get dc_338_519 fr_338_129 (mk_61 _) rfl ?_
  refine Bod.ildnG dc_338_522 (by repeat (first | exact q3 | exact sm_get_p1 | exact sm_get_p2e | refine sm_get_p1m (by decide) (by decide) ?_ | refine sm_get_p1n (by decide) rfl ?_ | refine sm_get_p2n (by decide) (by decide) rfl ?_)) ?_
  refine Bod.ialdN li rfl (by omega) (by omega) dc_338_523 (mk_67 _) ?_
  refine Bod.eqI (nI e67) (by first | assumption | rfl | exact congrArg nI (by omega) | (simp (disch := omega) only [rI, rIe, rA, rIA, rLA, rJA, rVI, rQI, rVA, rQA, upd_at,  rAI, rLI, rJI, nI_add, pk_sub, kc_0, kc_1, kc_2, kc_3, kc_4, kc_5, reduceIte, Nat.reduceEqDiff, Nat.add_zero, rI_hold, rI_hold, rL_hold, he67]; done)) ?_
  refine Bod.bip 6 (by decide) dc_338_524 ?_
  refine Bod.icF dc_338_526 rfl (k2_eq_F (k_ne e67 6 rfl rfl (by omega) (by omega) (by omega))) ?_
  refine Bod.incN (li + 1) (by rw [kc_1, nI_add]) dc_338_529 (by rw [ml_338]; exact Nat.le_of_ble_eq_true rfl) (by repeat (first | exact q3 | exact sm_get_p1 | exact sm_get_p2e | refine sm_get_p1m (by decide) (by decide) ?_ | refine sm_get_p1n (by decide) rfl ?_ | refine sm_get_p2n (by decide) (by decide) rfl ?_)) ?_
  refine Bod.go dc_338_532 rfl ?_
  exact hB _ (by repeat (first | exact q0 | exact sm_get_p1 | exact sm_get_p2e | refine sm_get_p1m (by decide) (by decide) ?_ | refine sm_get_p1n (by decide) rfl ?_ | refine sm_get_p2n (by decide) (by decide) rfl ?_)) (by repeat (first | exact q2 | exact sm_get_p1 | exact sm_get_p2e | refine sm_get_p1m (by decide) (by decide) ?_ | refine sm_get_p1n (by decide) rfl ?_ | refine sm_get_p2n (by decide) (by decide) rfl ?_)) (by repeat (first | exact q0 | exact sm_get_p1 | exact sm_get_p2e | refine sm_get_p1m (by decide) (by decide) ?_ | refine sm_get_p1n (by decide) rfl ?_ | refine sm_get_p2n (by decide) (by decide) rfl ?_)) (by repeat (first | exact q4 | exact sm_get_p1 | exact sm_get_p2e | refine sm_get_p1m (by decide) (by decide) ?_ | refine sm_get_p1n (by decide) rfl ?_ | refine sm_get_p2n (by decide) (by decide) rfl ?_))
theorem zSi2_1 {d : Nat} {S Sf : cS} {v : Option Value} {lv : sm_L} {lw : Nat} {li : Nat} {e67 : Nat} (q0 : sm_get lv 0 = some (.ref 61)) (q2 : sm_get lv 2 = some (.int (nI lw))) (q3 : sm_get lv 3 = some (.int (nI li))) (q4 : sm_get lv 4 = some (.int (Int32.ofInt (-1)))) (mlw : lw < 2 ^ 20) (mli : li < 2 ^ 20) (b1 : li < 6002) (he67 : sA S 67 li = nI e67) (me67 : e67 < 2 ^ 20) (b2 : e67 = 6) (hB : ∀ lv1 : sm_L, sm_get lv1 0 = some (.ref 61) → sm_get lv1 2 = some (.int (nI lw)) → sm_get lv1 3 = some (.int (nI (li + 1))) → sm_get lv1 4 = some (.int (Int32.ofInt (-1))) → Bod (d + 8) 338 359 lv1 [] (S) v Sf) : Bod (d + 8) 338 518 lv [] S v Sf := by
  refine Bod.aldnG dc_338_518 (by repeat (first | exact q0 | exact sm_get_p1 | exact sm_get_p2e | refine sm_get_p1m (by decide) (by decide) ?_ | refine sm_get_p1n (by decide) rfl ?_ | refine sm_get_p2n (by decide) (by decide) rfl ?_)) ?_
  refine Bod.get dc_338_519 fr_338_129 (mk_61 _) rfl ?_
  refine Bod.ildnG dc_338_522 (by repeat (first | exact q3 | exact sm_get_p1 | exact sm_get_p2e | refine sm_get_p1m (by decide) (by decide) ?_ | refine sm_get_p1n (by decide) rfl ?_ | refine sm_get_p2n (by decide) (by decide) rfl ?_)) ?_
  refine Bod.ialdN li rfl (by omega) (by omega) dc_338_523 (mk_67 _) ?_
  refine Bod.eqI (nI e67) (by first | assumption | rfl | exact congrArg nI (by omega) | (simp (disch := omega) only [rI, rIe, rA, rIA, rLA, rJA, rVI, rQI, rVA, rQA, upd_at,  rAI, rLI, rJI, nI_add, pk_sub, kc_0, kc_1, kc_2, kc_3, kc_4, kc_5, reduceIte, Nat.reduceEqDiff, Nat.add_zero, rI_hold, rI_hold, rL_hold, he67]; done)) ?_
  refine Bod.bip 6 (by decide) dc_338_524 ?_
  refine Bod.icT dc_338_526 rfl (k2_eq_T (k_eq e67 6 rfl rfl (by omega))) ?_
  refine Bod.incN (li + 1) (by rw [kc_1, nI_add]) dc_338_535 (by rw [ml_338]; exact Nat.le_of_ble_eq_true rfl) (by repeat (first | exact q3 | exact sm_get_p1 | exact sm_get_p2e | refine sm_get_p1m (by decide) (by decide) ?_ | refine sm_get_p1n (by decide) rfl ?_ | refine sm_get_p2n (by decide) (by decide) rfl ?_)) ?_
  refine Bod.go dc_338_538 rfl ?_
  exact hB _ (by repeat (first | exact q0 | exact sm_get_p1 | exact sm_get_p2e | refine sm_get_p1m (by decide) (by decide) ?_ | refine sm_get_p1n (by decide) rfl ?_ | refine sm_get_p2n (by decide) (by decide) rfl ?_)) (by repeat (first | exact q2 | exact sm_get_p1 | exact sm_get_p2e | refine sm_get_p1m (by decide) (by decide) ?_ | refine sm_get_p1n (by decide) rfl ?_ | refine sm_get_p2n (by decide) (by decide) rfl ?_)) (by repeat (first | exact q0 | exact sm_get_p1 | exact sm_get_p2e | refine sm_get_p1m (by decide) (by decide) ?_ | refine sm_get_p1n (by decide) rfl ?_ | refine sm_get_p2n (by decide) (by decide) rfl ?_)) (by repeat (first | exact q4 | exact sm_get_p1 | exact sm_get_p2e | refine sm_get_p1m (by decide) (by decide) ?_ | refine sm_get_p1n (by decide) rfl ?_ | refine sm_get_p2n (by decide) (by decide) rfl ?_))
theorem zSi2_2 {d : Nat} {S Sf : cS} {v : Option Value} {lv : sm_L} {lw : Nat} {li : Nat} {e67 : Nat} (q0 : sm_get lv 0 = some (.ref 61)) (q2 : sm_get lv 2 = some (.int (nI lw))) (q3 : sm_get lv 3 = some (.int (nI li))) (q4 : sm_get lv 4 = some (.int (Int32.ofInt (-1)))) (mlw : lw < 2 ^ 20) (mli : li < 2 ^ 20) (b1 : li < 6002) (he67 : sA S 67 li = nI e67) (me67 : e67 < 2 ^ 20) (b2 : e67 ≠ 6) (hB : ∀ lv1 : sm_L, sm_get lv1 0 = some (.ref 61) → sm_get lv1 2 = some (.int (nI lw)) → sm_get lv1 3 = some (.int (nI (li + 1))) → sm_get lv1 4 = some (.int (Int32.ofInt (-1))) → Bod (d + 8) 338 518 lv1 [] (S) v Sf) : Bod (d + 8) 338 518 lv [] S v Sf := by
  refine Bod.aldnG dc_338_518 (by repeat (first | exact q0 | exact sm_get_p1 | exact sm_get_p2e | refine sm_get_p1m (by decide) (by decide) ?_ | refine sm_get_p1n (by decide) rfl ?_ | refine sm_get_p2n (by decide) (by decide) rfl ?_)) ?_
  refine Bod.get dc_338_519 fr_338_129 (mk_61 _) rfl ?_
  refine Bod.ildnG dc_338_522 (by repeat (first | exact q3 | exact sm_get_p1 | exact sm_get_p2e | refine sm_get_p1m (by decide) (by decide) ?_ | refine sm_get_p1n (by decide) rfl ?_ | refine sm_get_p2n (by decide) (by decide) rfl ?_)) ?_
  refine Bod.ialdN li rfl (by omega) (by omega) dc_338_523 (mk_67 _) ?_
  refine Bod.eqI (nI e67) (by first | assumption | rfl | exact congrArg nI (by omega) | (simp (disch := omega) only [rI, rIe, rA, rIA, rLA, rJA, rVI, rQI, rVA, rQA, upd_at,  rAI, rLI, rJI, nI_add, pk_sub, kc_0, kc_1, kc_2, kc_3, kc_4, kc_5, reduceIte, Nat.reduceEqDiff, Nat.add_zero, rI_hold, rI_hold, rL_hold, he67]; done)) ?_
  refine Bod.bip 6 (by decide) dc_338_524 ?_
  refine Bod.icF dc_338_526 rfl (k2_eq_F (k_ne e67 6 rfl rfl (by omega) (by omega) (by omega))) ?_
  refine Bod.incN (li + 1) (by rw [kc_1, nI_add]) dc_338_529 (by rw [ml_338]; exact Nat.le_of_ble_eq_true rfl) (by repeat (first | exact q3 | exact sm_get_p1 | exact sm_get_p2e | refine sm_get_p1m (by decide) (by decide) ?_ | refine sm_get_p1n (by decide) rfl ?_ | refine sm_get_p2n (by decide) (by decide) rfl ?_)) ?_
  refine Bod.go dc_338_532 rfl ?_
  exact hB _ (by repeat (first | exact q0 | exact sm_get_p1 | exact sm_get_p2e | refine sm_get_p1m (by decide) (by decide) ?_ | refine sm_get_p1n (by decide) rfl ?_ | refine sm_get_p2n (by decide) (by decide) rfl ?_)) (by repeat (first | exact q2 | exact sm_get_p1 | exact sm_get_p2e | refine sm_get_p1m (by decide) (by decide) ?_ | refine sm_get_p1n (by decide) rfl ?_ | refine sm_get_p2n (by decide) (by decide) rfl ?_)) (by repeat (first | exact q0 | exact sm_get_p1 | exact sm_get_p2e | refine sm_get_p1m (by decide) (by decide) ?_ | refine sm_get_p1n (by decide) rfl ?_ | refine sm_get_p2n (by decide) (by decide) rfl ?_)) (by repeat (first | exact q4 | exact sm_get_p1 | exact sm_get_p2e | refine sm_get_p1m (by decide) (by decide) ?_ | refine sm_get_p1n (by decide) rfl ?_ | refine sm_get_p2n (by decide) (by decide) rfl ?_))
