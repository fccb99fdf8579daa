/-! WAYS of the reference's statements: every call is a hypothesis -/
theorem ml_336 : sm_ml 336 = 9 := by decide +kernel
theorem dc_336_0 : decode (sm_cc 336) 0 = .ok (.aload_n 0, 1) := by decide +kernel
theorem dc_336_1 : decode (sm_cc 336) 1 = .ok (.dup, 1) := by decide +kernel
theorem dc_336_2 : decode (sm_cc 336) 2 = .ok (.getfield 190, 3) := by decide +kernel
theorem fr_336_190 : sm_at mt_f (sm_ow 336) 190 = some (190, 14, 15, 0, 2088) := by decide +kernel
theorem dc_336_5 : decode (sm_cc 336) 5 = .ok (.iconst 1, 1) := by decide +kernel
theorem dc_336_6 : decode (sm_cc 336) 6 = .ok (.iadd, 1) := by decide +kernel
theorem dc_336_7 : decode (sm_cc 336) 7 = .ok (.putfield 190, 3) := by decide +kernel
theorem dc_336_10 : decode (sm_cc 336) 10 = .ok (.aload_n 0, 1) := by decide +kernel
theorem dc_336_11 : decode (sm_cc 336) 11 = .ok (.getfield 129, 3) := by decide +kernel
theorem fr_336_129 : sm_at mt_f (sm_ow 336) 129 = some (129, 14, 6, 0, 2079) := by decide +kernel
theorem dc_336_14 : decode (sm_cc 336) 14 = .ok (.aload_n 0, 1) := by decide +kernel
theorem dc_336_15 : decode (sm_cc 336) 15 = .ok (.getfield 190, 3) := by decide +kernel
theorem dc_336_18 : decode (sm_cc 336) 18 = .ok (.iaload, 1) := by decide +kernel
theorem dc_336_19 : decode (sm_cc 336) 19 = .ok (.iconst 1, 1) := by decide +kernel
theorem dc_336_20 : decode (sm_cc 336) 20 = .ok (.if_icmp .eq (8), 3) := by decide +kernel
theorem dc_336_28 : decode (sm_cc 336) 28 = .ok (.aload_n 0, 1) := by decide +kernel
theorem dc_336_29 : decode (sm_cc 336) 29 = .ok (.getfield 135, 3) := by decide +kernel
theorem fr_336_135 : sm_at mt_f (sm_ow 336) 135 = some (135, 14, 7, 0, 2080) := by decide +kernel
theorem dc_336_32 : decode (sm_cc 336) 32 = .ok (.aload_n 0, 1) := by decide +kernel
theorem dc_336_33 : decode (sm_cc 336) 33 = .ok (.getfield 190, 3) := by decide +kernel
theorem dc_336_36 : decode (sm_cc 336) 36 = .ok (.iaload, 1) := by decide +kernel
theorem dc_336_37 : decode (sm_cc 336) 37 = .ok (.istore_n 3, 1) := by decide +kernel
theorem dc_336_38 : decode (sm_cc 336) 38 = .ok (.aload_n 0, 1) := by decide +kernel
theorem dc_336_39 : decode (sm_cc 336) 39 = .ok (.getfield 206, 3) := by decide +kernel
theorem fr_336_206 : sm_at mt_f (sm_ow 336) 206 = some (206, 14, 14, 0, 2087) := by decide +kernel
theorem dc_336_42 : decode (sm_cc 336) 42 = .ok (.iload_n 3, 1) := by decide +kernel
theorem dc_336_43 : decode (sm_cc 336) 43 = .ok (.invokevirtual 368, 3) := by decide +kernel
theorem ow_337 : 12 = sm_ow 337 := by decide +kernel
theorem kr_336_368 : sm_at mt_k (sm_ow 336) 368 = some (368, 0, 337, 0, 2607) := by decide +kernel
theorem np_337 : sm_np 337 = 1 := by decide +kernel
theorem dc_336_46 : decode (sm_cc 336) 46 = .ok (.istore 4, 2) := by decide +kernel
theorem dc_336_48 : decode (sm_cc 336) 48 = .ok (.aload_n 0, 1) := by decide +kernel
theorem dc_336_49 : decode (sm_cc 336) 49 = .ok (.dup, 1) := by decide +kernel
theorem dc_336_50 : decode (sm_cc 336) 50 = .ok (.getfield 190, 3) := by decide +kernel
theorem dc_336_53 : decode (sm_cc 336) 53 = .ok (.iconst 1, 1) := by decide +kernel
theorem dc_336_54 : decode (sm_cc 336) 54 = .ok (.iadd, 1) := by decide +kernel
theorem dc_336_55 : decode (sm_cc 336) 55 = .ok (.putfield 190, 3) := by decide +kernel
theorem dc_336_58 : decode (sm_cc 336) 58 = .ok (.aload_n 0, 1) := by decide +kernel
theorem dc_336_59 : decode (sm_cc 336) 59 = .ok (.bipush (40), 2) := by decide +kernel
theorem dc_336_61 : decode (sm_cc 336) 61 = .ok (.invokevirtual 270, 3) := by decide +kernel
theorem kr_336_270 : sm_at mt_k (sm_ow 336) 270 = some (270, 0, 323, 0, 2551) := by decide +kernel
theorem dc_336_64 : decode (sm_cc 336) 64 = .ok (.ifCond .ne (5), 3) := by decide +kernel
theorem dc_336_69 : decode (sm_cc 336) 69 = .ok (.aload_n 0, 1) := by decide +kernel
theorem dc_336_70 : decode (sm_cc 336) 70 = .ok (.dup, 1) := by decide +kernel
theorem dc_336_71 : decode (sm_cc 336) 71 = .ok (.getfield 236, 3) := by decide +kernel
theorem fr_336_236 : sm_at mt_f (sm_ow 336) 236 = some (236, 14, 22, 0, 2095) := by decide +kernel
theorem dc_336_74 : decode (sm_cc 336) 74 = .ok (.iconst 1, 1) := by decide +kernel
theorem dc_336_75 : decode (sm_cc 336) 75 = .ok (.iadd, 1) := by decide +kernel
theorem dc_336_76 : decode (sm_cc 336) 76 = .ok (.putfield 236, 3) := by decide +kernel
theorem dc_336_79 : decode (sm_cc 336) 79 = .ok (.aload_n 0, 1) := by decide +kernel
theorem dc_336_80 : decode (sm_cc 336) 80 = .ok (.getfield 350, 3) := by decide +kernel
theorem fr_336_350 : sm_at mt_f (sm_ow 336) 350 = some (350, 14, 20, 0, 2093) := by decide +kernel
theorem dc_336_83 : decode (sm_cc 336) 83 = .ok (.aload_n 0, 1) := by decide +kernel
theorem dc_336_84 : decode (sm_cc 336) 84 = .ok (.getfield 236, 3) := by decide +kernel
theorem dc_336_87 : decode (sm_cc 336) 87 = .ok (.aload_n 0, 1) := by decide +kernel
theorem dc_336_88 : decode (sm_cc 336) 88 = .ok (.getfield 239, 3) := by decide +kernel
theorem fr_336_239 : sm_at mt_f (sm_ow 336) 239 = some (239, 14, 23, 0, 2096) := by decide +kernel
theorem dc_336_91 : decode (sm_cc 336) 91 = .ok (.iastore, 1) := by decide +kernel
theorem dc_336_92 : decode (sm_cc 336) 92 = .ok (.aload_n 0, 1) := by decide +kernel
theorem dc_336_93 : decode (sm_cc 336) 93 = .ok (.getfield 362, 3) := by decide +kernel
theorem fr_336_362 : sm_at mt_f (sm_ow 336) 362 = some (362, 14, 36, 0, 2109) := by decide +kernel
theorem dc_336_96 : decode (sm_cc 336) 96 = .ok (.aload_n 0, 1) := by decide +kernel
theorem dc_336_97 : decode (sm_cc 336) 97 = .ok (.getfield 236, 3) := by decide +kernel
theorem dc_336_100 : decode (sm_cc 336) 100 = .ok (.aload_n 0, 1) := by decide +kernel
theorem dc_336_101 : decode (sm_cc 336) 101 = .ok (.getfield 254, 3) := by decide +kernel
theorem fr_336_254 : sm_at mt_f (sm_ow 336) 254 = some (254, 14, 37, 0, 2110) := by decide +kernel
theorem dc_336_104 : decode (sm_cc 336) 104 = .ok (.iastore, 1) := by decide +kernel
theorem dc_336_105 : decode (sm_cc 336) 105 = .ok (.aload_n 0, 1) := by decide +kernel
theorem dc_336_106 : decode (sm_cc 336) 106 = .ok (.getfield 344, 3) := by decide +kernel
theorem fr_336_344 : sm_at mt_f (sm_ow 336) 344 = some (344, 14, 21, 0, 2094) := by decide +kernel
theorem dc_336_109 : decode (sm_cc 336) 109 = .ok (.aload_n 0, 1) := by decide +kernel
theorem dc_336_110 : decode (sm_cc 336) 110 = .ok (.getfield 236, 3) := by decide +kernel
theorem dc_336_113 : decode (sm_cc 336) 113 = .ok (.iconst 0, 1) := by decide +kernel
theorem dc_336_114 : decode (sm_cc 336) 114 = .ok (.iastore, 1) := by decide +kernel
theorem dc_336_115 : decode (sm_cc 336) 115 = .ok (.aload_n 0, 1) := by decide +kernel
theorem dc_336_116 : decode (sm_cc 336) 116 = .ok (.bipush (41), 2) := by decide +kernel
theorem dc_336_118 : decode (sm_cc 336) 118 = .ok (.invokevirtual 199, 3) := by decide +kernel
theorem kr_336_199 : sm_at mt_k (sm_ow 336) 199 = some (199, 0, 314, 0, 2514) := by decide +kernel
theorem dc_336_121 : decode (sm_cc 336) 121 = .ok (.ifCond .ne (7), 3) := by decide +kernel
theorem dc_336_128 : decode (sm_cc 336) 128 = .ok (.iconst 0, 1) := by decide +kernel
theorem dc_336_129 : decode (sm_cc 336) 129 = .ok (.istore 5, 2) := by decide +kernel
theorem dc_336_124 : decode (sm_cc 336) 124 = .ok (.iconst 1, 1) := by decide +kernel
theorem dc_336_125 : decode (sm_cc 336) 125 = .ok (.goto (4), 3) := by decide +kernel
theorem dc_336_67 : decode (sm_cc 336) 67 = .ok (.iconst 0, 1) := by decide +kernel
theorem dc_336_68 : decode (sm_cc 336) 68 = .ok (.ireturn, 1) := by decide +kernel
theorem rt_336 : sm_rt 336 = some .boolean := by decide +kernel
theorem dc_336_23 : decode (sm_cc 336) 23 = .ok (.aload_n 0, 1) := by decide +kernel
theorem dc_336_24 : decode (sm_cc 336) 24 = .ok (.invokevirtual 202, 3) := by decide +kernel
theorem kr_336_202 : sm_at mt_k (sm_ow 336) 202 = some (202, 0, 299, 0, 2454) := by decide +kernel
theorem dc_336_27 : decode (sm_cc 336) 27 = .ok (.ireturn, 1) := by decide +kernel
theorem dc_336_131 : decode (sm_cc 336) 131 = .ok (.iload 5, 2) := by decide +kernel
theorem dc_336_133 : decode (sm_cc 336) 133 = .ok (.ifCond .eq (132), 3) := by decide +kernel
theorem dc_336_136 : decode (sm_cc 336) 136 = .ok (.aload_n 0, 1) := by decide +kernel
theorem dc_336_137 : decode (sm_cc 336) 137 = .ok (.getfield 129, 3) := by decide +kernel
theorem dc_336_140 : decode (sm_cc 336) 140 = .ok (.aload_n 0, 1) := by decide +kernel
theorem dc_336_141 : decode (sm_cc 336) 141 = .ok (.getfield 190, 3) := by decide +kernel
theorem dc_336_144 : decode (sm_cc 336) 144 = .ok (.iaload, 1) := by decide +kernel
theorem dc_336_145 : decode (sm_cc 336) 145 = .ok (.iconst 1, 1) := by decide +kernel
theorem dc_336_146 : decode (sm_cc 336) 146 = .ok (.if_icmp .ne (37), 3) := by decide +kernel
theorem dc_336_183 : decode (sm_cc 336) 183 = .ok (.aload_n 0, 1) := by decide +kernel
theorem dc_336_184 : decode (sm_cc 336) 184 = .ok (.invokevirtual 202, 3) := by decide +kernel
theorem dc_336_187 : decode (sm_cc 336) 187 = .ok (.ireturn, 1) := by decide +kernel
theorem dc_336_149 : decode (sm_cc 336) 149 = .ok (.aload_n 0, 1) := by decide +kernel
theorem dc_336_150 : decode (sm_cc 336) 150 = .ok (.getfield 344, 3) := by decide +kernel
theorem dc_336_153 : decode (sm_cc 336) 153 = .ok (.aload_n 0, 1) := by decide +kernel
theorem dc_336_154 : decode (sm_cc 336) 154 = .ok (.getfield 236, 3) := by decide +kernel
theorem dc_336_157 : decode (sm_cc 336) 157 = .ok (.iaload, 1) := by decide +kernel
theorem dc_336_158 : decode (sm_cc 336) 158 = .ok (.bipush (8), 2) := by decide +kernel
theorem dc_336_160 : decode (sm_cc 336) 160 = .ok (.if_icmp .eq (23), 3) := by decide +kernel
theorem dc_336_163 : decode (sm_cc 336) 163 = .ok (.aload_n 0, 1) := by decide +kernel
theorem dc_336_164 : decode (sm_cc 336) 164 = .ok (.aload_n 0, 1) := by decide +kernel
theorem dc_336_165 : decode (sm_cc 336) 165 = .ok (.getfield 236, 3) := by decide +kernel
theorem dc_336_168 : decode (sm_cc 336) 168 = .ok (.aload_n 0, 1) := by decide +kernel
theorem dc_336_169 : decode (sm_cc 336) 169 = .ok (.getfield 135, 3) := by decide +kernel
theorem dc_336_172 : decode (sm_cc 336) 172 = .ok (.aload_n 0, 1) := by decide +kernel
theorem dc_336_173 : decode (sm_cc 336) 173 = .ok (.getfield 190, 3) := by decide +kernel
theorem dc_336_176 : decode (sm_cc 336) 176 = .ok (.iaload, 1) := by decide +kernel
theorem dc_336_177 : decode (sm_cc 336) 177 = .ok (.invokevirtual 353, 3) := by decide +kernel
theorem kr_336_353 : sm_at mt_k (sm_ow 336) 353 = some (353, 0, 319, 0, 2534) := by decide +kernel
theorem dc_336_180 : decode (sm_cc 336) 180 = .ok (.ifCond .lt (8), 3) := by decide +kernel
theorem dc_336_188 : decode (sm_cc 336) 188 = .ok (.aload_n 0, 1) := by decide +kernel
theorem dc_336_189 : decode (sm_cc 336) 189 = .ok (.getfield 347, 3) := by decide +kernel
theorem fr_336_347 : sm_at mt_f (sm_ow 336) 347 = some (347, 14, 19, 0, 2092) := by decide +kernel
theorem dc_336_192 : decode (sm_cc 336) 192 = .ok (.aload_n 0, 1) := by decide +kernel
theorem dc_336_193 : decode (sm_cc 336) 193 = .ok (.getfield 239, 3) := by decide +kernel
theorem dc_336_196 : decode (sm_cc 336) 196 = .ok (.aload_n 0, 1) := by decide +kernel
theorem dc_336_197 : decode (sm_cc 336) 197 = .ok (.getfield 135, 3) := by decide +kernel
theorem dc_336_200 : decode (sm_cc 336) 200 = .ok (.aload_n 0, 1) := by decide +kernel
theorem dc_336_201 : decode (sm_cc 336) 201 = .ok (.getfield 190, 3) := by decide +kernel
theorem dc_336_204 : decode (sm_cc 336) 204 = .ok (.iaload, 1) := by decide +kernel
theorem dc_336_205 : decode (sm_cc 336) 205 = .ok (.iastore, 1) := by decide +kernel
theorem dc_336_206 : decode (sm_cc 336) 206 = .ok (.aload_n 0, 1) := by decide +kernel
theorem dc_336_207 : decode (sm_cc 336) 207 = .ok (.dup, 1) := by decide +kernel
theorem dc_336_208 : decode (sm_cc 336) 208 = .ok (.getfield 239, 3) := by decide +kernel
theorem dc_336_211 : decode (sm_cc 336) 211 = .ok (.iconst 1, 1) := by decide +kernel
theorem dc_336_212 : decode (sm_cc 336) 212 = .ok (.iadd, 1) := by decide +kernel
theorem dc_336_213 : decode (sm_cc 336) 213 = .ok (.putfield 239, 3) := by decide +kernel
theorem dc_336_216 : decode (sm_cc 336) 216 = .ok (.aload_n 0, 1) := by decide +kernel
theorem dc_336_217 : decode (sm_cc 336) 217 = .ok (.getfield 344, 3) := by decide +kernel
theorem dc_336_220 : decode (sm_cc 336) 220 = .ok (.aload_n 0, 1) := by decide +kernel
theorem dc_336_221 : decode (sm_cc 336) 221 = .ok (.getfield 236, 3) := by decide +kernel
theorem dc_336_224 : decode (sm_cc 336) 224 = .ok (.dup2, 1) := by decide +kernel
theorem dc_336_225 : decode (sm_cc 336) 225 = .ok (.iaload, 1) := by decide +kernel
theorem dc_336_226 : decode (sm_cc 336) 226 = .ok (.iconst 1, 1) := by decide +kernel
theorem dc_336_227 : decode (sm_cc 336) 227 = .ok (.iadd, 1) := by decide +kernel
theorem dc_336_228 : decode (sm_cc 336) 228 = .ok (.iastore, 1) := by decide +kernel
theorem dc_336_229 : decode (sm_cc 336) 229 = .ok (.aload_n 0, 1) := by decide +kernel
theorem dc_336_230 : decode (sm_cc 336) 230 = .ok (.dup, 1) := by decide +kernel
theorem dc_336_231 : decode (sm_cc 336) 231 = .ok (.getfield 190, 3) := by decide +kernel
theorem dc_336_234 : decode (sm_cc 336) 234 = .ok (.iconst 1, 1) := by decide +kernel
theorem dc_336_235 : decode (sm_cc 336) 235 = .ok (.iadd, 1) := by decide +kernel
theorem dc_336_236 : decode (sm_cc 336) 236 = .ok (.putfield 190, 3) := by decide +kernel
theorem dc_336_239 : decode (sm_cc 336) 239 = .ok (.aload_n 0, 1) := by decide +kernel
theorem dc_336_240 : decode (sm_cc 336) 240 = .ok (.bipush (44), 2) := by decide +kernel
theorem dc_336_242 : decode (sm_cc 336) 242 = .ok (.invokevirtual 199, 3) := by decide +kernel
theorem dc_336_245 : decode (sm_cc 336) 245 = .ok (.istore 5, 2) := by decide +kernel
theorem dc_336_247 : decode (sm_cc 336) 247 = .ok (.iload 5, 2) := by decide +kernel
theorem dc_336_249 : decode (sm_cc 336) 249 = .ok (.ifCond .eq (-118), 3) := by decide +kernel
theorem dc_336_252 : decode (sm_cc 336) 252 = .ok (.aload_n 0, 1) := by decide +kernel
theorem dc_336_253 : decode (sm_cc 336) 253 = .ok (.dup, 1) := by decide +kernel
theorem dc_336_254 : decode (sm_cc 336) 254 = .ok (.getfield 190, 3) := by decide +kernel
theorem dc_336_257 : decode (sm_cc 336) 257 = .ok (.iconst 1, 1) := by decide +kernel
theorem dc_336_258 : decode (sm_cc 336) 258 = .ok (.iadd, 1) := by decide +kernel
theorem dc_336_259 : decode (sm_cc 336) 259 = .ok (.putfield 190, 3) := by decide +kernel
theorem dc_336_262 : decode (sm_cc 336) 262 = .ok (.goto (-131), 3) := by decide +kernel
theorem dc_336_265 : decode (sm_cc 336) 265 = .ok (.aload_n 0, 1) := by decide +kernel
theorem dc_336_266 : decode (sm_cc 336) 266 = .ok (.bipush (41), 2) := by decide +kernel
theorem dc_336_268 : decode (sm_cc 336) 268 = .ok (.invokevirtual 270, 3) := by decide +kernel
theorem dc_336_271 : decode (sm_cc 336) 271 = .ok (.ifCond .ne (5), 3) := by decide +kernel
theorem dc_336_276 : decode (sm_cc 336) 276 = .ok (.aload_n 0, 1) := by decide +kernel
theorem dc_336_277 : decode (sm_cc 336) 277 = .ok (.bipush (11), 2) := by decide +kernel
theorem dc_336_279 : decode (sm_cc 336) 279 = .ok (.invokevirtual 305, 3) := by decide +kernel
theorem kr_336_305 : sm_at mt_k (sm_ow 336) 305 = some (305, 0, 325, 0, 2559) := by decide +kernel
theorem dc_336_282 : decode (sm_cc 336) 282 = .ok (.istore 6, 2) := by decide +kernel
theorem dc_336_284 : decode (sm_cc 336) 284 = .ok (.aload_n 0, 1) := by decide +kernel
theorem dc_336_285 : decode (sm_cc 336) 285 = .ok (.getfield 206, 3) := by decide +kernel
theorem dc_336_288 : decode (sm_cc 336) 288 = .ok (.getfield 370, 3) := by decide +kernel
theorem fr_336_370 : sm_at mt_f (sm_ow 336) 370 = some (370, 12, 8, 0, 2423) := by decide +kernel
theorem dc_336_291 : decode (sm_cc 336) 291 = .ok (.iload 4, 2) := by decide +kernel
theorem dc_336_293 : decode (sm_cc 336) 293 = .ok (.aload_n 0, 1) := by decide +kernel
theorem dc_336_294 : decode (sm_cc 336) 294 = .ok (.getfield 206, 3) := by decide +kernel
theorem dc_336_297 : decode (sm_cc 336) 297 = .ok (.getfield 219, 3) := by decide +kernel
theorem fr_336_219 : sm_at mt_f (sm_ow 336) 219 = some (219, 12, 1, 0, 2411) := by decide +kernel
theorem dc_336_300 : decode (sm_cc 336) 300 = .ok (.iastore, 1) := by decide +kernel
theorem dc_336_301 : decode (sm_cc 336) 301 = .ok (.aload_n 0, 1) := by decide +kernel
theorem dc_336_302 : decode (sm_cc 336) 302 = .ok (.getfield 206, 3) := by decide +kernel
theorem dc_336_305 : decode (sm_cc 336) 305 = .ok (.getfield 373, 3) := by decide +kernel
theorem fr_336_373 : sm_at mt_f (sm_ow 336) 373 = some (373, 12, 9, 0, 2425) := by decide +kernel
theorem dc_336_308 : decode (sm_cc 336) 308 = .ok (.iload 4, 2) := by decide +kernel
theorem dc_336_310 : decode (sm_cc 336) 310 = .ok (.aload_n 0, 1) := by decide +kernel
theorem dc_336_311 : decode (sm_cc 336) 311 = .ok (.getfield 344, 3) := by decide +kernel
theorem dc_336_314 : decode (sm_cc 336) 314 = .ok (.aload_n 0, 1) := by decide +kernel
theorem dc_336_315 : decode (sm_cc 336) 315 = .ok (.getfield 236, 3) := by decide +kernel
theorem dc_336_318 : decode (sm_cc 336) 318 = .ok (.iaload, 1) := by decide +kernel
theorem dc_336_319 : decode (sm_cc 336) 319 = .ok (.iastore, 1) := by decide +kernel
theorem dc_336_320 : decode (sm_cc 336) 320 = .ok (.aload_n 0, 1) := by decide +kernel
theorem dc_336_321 : decode (sm_cc 336) 321 = .ok (.getfield 129, 3) := by decide +kernel
theorem dc_336_324 : decode (sm_cc 336) 324 = .ok (.aload_n 0, 1) := by decide +kernel
theorem dc_336_325 : decode (sm_cc 336) 325 = .ok (.getfield 190, 3) := by decide +kernel
theorem dc_336_328 : decode (sm_cc 336) 328 = .ok (.iaload, 1) := by decide +kernel
theorem dc_336_329 : decode (sm_cc 336) 329 = .ok (.iconst 5, 1) := by decide +kernel
theorem dc_336_330 : decode (sm_cc 336) 330 = .ok (.if_icmp .ne (30), 3) := by decide +kernel
theorem dc_336_333 : decode (sm_cc 336) 333 = .ok (.aload_n 0, 1) := by decide +kernel
theorem dc_336_334 : decode (sm_cc 336) 334 = .ok (.getfield 129, 3) := by decide +kernel
theorem dc_336_337 : decode (sm_cc 336) 337 = .ok (.aload_n 0, 1) := by decide +kernel
theorem dc_336_338 : decode (sm_cc 336) 338 = .ok (.getfield 190, 3) := by decide +kernel
theorem dc_336_341 : decode (sm_cc 336) 341 = .ok (.iconst 1, 1) := by decide +kernel
theorem dc_336_342 : decode (sm_cc 336) 342 = .ok (.iadd, 1) := by decide +kernel
theorem dc_336_343 : decode (sm_cc 336) 343 = .ok (.iaload, 1) := by decide +kernel
theorem dc_336_344 : decode (sm_cc 336) 344 = .ok (.bipush (6), 2) := by decide +kernel
theorem dc_336_346 : decode (sm_cc 336) 346 = .ok (.if_icmp .ne (14), 3) := by decide +kernel
theorem dc_336_349 : decode (sm_cc 336) 349 = .ok (.aload_n 0, 1) := by decide +kernel
theorem dc_336_350 : decode (sm_cc 336) 350 = .ok (.aload_n 0, 1) := by decide +kernel
theorem dc_336_351 : decode (sm_cc 336) 351 = .ok (.getfield 190, 3) := by decide +kernel
theorem dc_336_354 : decode (sm_cc 336) 354 = .ok (.iconst 2, 1) := by decide +kernel
theorem dc_336_355 : decode (sm_cc 336) 355 = .ok (.iadd, 1) := by decide +kernel
theorem dc_336_356 : decode (sm_cc 336) 356 = .ok (.iload_n 1, 1) := by decide +kernel
theorem dc_336_357 : decode (sm_cc 336) 357 = .ok (.invokevirtual 376, 3) := by decide +kernel
theorem ow_338 : 14 = sm_ow 338 := by decide +kernel
theorem kr_336_376 : sm_at mt_k (sm_ow 336) 376 = some (376, 0, 338, 0, 2611) := by decide +kernel
theorem np_338 : sm_np 338 = 2 := by decide +kernel
theorem dc_336_274 : decode (sm_cc 336) 274 = .ok (.iconst 0, 1) := by decide +kernel
theorem dc_336_275 : decode (sm_cc 336) 275 = .ok (.ireturn, 1) := by decide +kernel
theorem dc_336_360 : decode (sm_cc 336) 360 = .ok (.aload_n 0, 1) := by decide +kernel
theorem dc_336_361 : decode (sm_cc 336) 361 = .ok (.getfield 206, 3) := by decide +kernel
theorem dc_336_364 : decode (sm_cc 336) 364 = .ok (.getfield 379, 3) := by decide +kernel
theorem fr_336_379 : sm_at mt_f (sm_ow 336) 379 = some (379, 12, 10, 0, 2427) := by decide +kernel
theorem dc_336_367 : decode (sm_cc 336) 367 = .ok (.iload 4, 2) := by decide +kernel
theorem dc_336_369 : decode (sm_cc 336) 369 = .ok (.aload_n 0, 1) := by decide +kernel
theorem dc_336_370 : decode (sm_cc 336) 370 = .ok (.getfield 239, 3) := by decide +kernel
theorem dc_336_373 : decode (sm_cc 336) 373 = .ok (.aload_n 0, 1) := by decide +kernel
theorem dc_336_374 : decode (sm_cc 336) 374 = .ok (.getfield 350, 3) := by decide +kernel
theorem dc_336_377 : decode (sm_cc 336) 377 = .ok (.aload_n 0, 1) := by decide +kernel
theorem dc_336_378 : decode (sm_cc 336) 378 = .ok (.getfield 236, 3) := by decide +kernel
theorem dc_336_381 : decode (sm_cc 336) 381 = .ok (.iaload, 1) := by decide +kernel
theorem dc_336_382 : decode (sm_cc 336) 382 = .ok (.isub, 1) := by decide +kernel
theorem dc_336_383 : decode (sm_cc 336) 383 = .ok (.iastore, 1) := by decide +kernel
theorem dc_336_384 : decode (sm_cc 336) 384 = .ok (.aload_n 0, 1) := by decide +kernel
theorem dc_336_385 : decode (sm_cc 336) 385 = .ok (.getfield 245, 3) := by decide +kernel
theorem fr_336_245 : sm_at mt_f (sm_ow 336) 245 = some (245, 14, 27, 0, 2100) := by decide +kernel
theorem dc_336_388 : decode (sm_cc 336) 388 = .ok (.istore 7, 2) := by decide +kernel
theorem dc_336_390 : decode (sm_cc 336) 390 = .ok (.aload_n 0, 1) := by decide +kernel
theorem dc_336_391 : decode (sm_cc 336) 391 = .ok (.getfield 242, 3) := by decide +kernel
theorem fr_336_242 : sm_at mt_f (sm_ow 336) 242 = some (242, 14, 26, 0, 2099) := by decide +kernel
theorem dc_336_394 : decode (sm_cc 336) 394 = .ok (.istore 8, 2) := by decide +kernel
theorem dc_336_396 : decode (sm_cc 336) 396 = .ok (.aload_n 0, 1) := by decide +kernel
theorem dc_336_397 : decode (sm_cc 336) 397 = .ok (.iconst 0, 1) := by decide +kernel
theorem dc_336_398 : decode (sm_cc 336) 398 = .ok (.putfield 245, 3) := by decide +kernel
theorem dc_336_401 : decode (sm_cc 336) 401 = .ok (.aload_n 0, 1) := by decide +kernel
theorem dc_336_402 : decode (sm_cc 336) 402 = .ok (.getfield 320, 3) := by decide +kernel
theorem fr_336_320 : sm_at mt_f (sm_ow 336) 320 = some (320, 14, 24, 0, 2097) := by decide +kernel
theorem dc_336_405 : decode (sm_cc 336) 405 = .ok (.aload_n 0, 1) := by decide +kernel
theorem dc_336_406 : decode (sm_cc 336) 406 = .ok (.getfield 242, 3) := by decide +kernel
theorem dc_336_409 : decode (sm_cc 336) 409 = .ok (.iconst (-1), 1) := by decide +kernel
theorem dc_336_410 : decode (sm_cc 336) 410 = .ok (.iastore, 1) := by decide +kernel
theorem dc_336_411 : decode (sm_cc 336) 411 = .ok (.aload_n 0, 1) := by decide +kernel
theorem dc_336_412 : decode (sm_cc 336) 412 = .ok (.dup, 1) := by decide +kernel
theorem dc_336_413 : decode (sm_cc 336) 413 = .ok (.getfield 242, 3) := by decide +kernel
theorem dc_336_416 : decode (sm_cc 336) 416 = .ok (.iconst 1, 1) := by decide +kernel
theorem dc_336_417 : decode (sm_cc 336) 417 = .ok (.iadd, 1) := by decide +kernel
theorem dc_336_418 : decode (sm_cc 336) 418 = .ok (.putfield 242, 3) := by decide +kernel
theorem dc_336_421 : decode (sm_cc 336) 421 = .ok (.aload_n 0, 1) := by decide +kernel
theorem dc_336_422 : decode (sm_cc 336) 422 = .ok (.iload_n 1, 1) := by decide +kernel
theorem dc_336_423 : decode (sm_cc 336) 423 = .ok (.iconst 0, 1) := by decide +kernel
theorem dc_336_424 : decode (sm_cc 336) 424 = .ok (.invokevirtual 309, 3) := by decide +kernel
theorem kr_336_309 : sm_at mt_k (sm_ow 336) 309 = some (309, 0, 334, 0, 2595) := by decide +kernel
theorem dc_336_427 : decode (sm_cc 336) 427 = .ok (.ifCond .ne (5), 3) := by decide +kernel
theorem dc_336_432 : decode (sm_cc 336) 432 = .ok (.aload_n 0, 1) := by decide +kernel
theorem dc_336_433 : decode (sm_cc 336) 433 = .ok (.iload 8, 2) := by decide +kernel
theorem dc_336_435 : decode (sm_cc 336) 435 = .ok (.putfield 242, 3) := by decide +kernel
theorem dc_336_438 : decode (sm_cc 336) 438 = .ok (.aload_n 0, 1) := by decide +kernel
theorem dc_336_439 : decode (sm_cc 336) 439 = .ok (.iload 7, 2) := by decide +kernel
theorem dc_336_441 : decode (sm_cc 336) 441 = .ok (.putfield 245, 3) := by decide +kernel
theorem dc_336_444 : decode (sm_cc 336) 444 = .ok (.aload_n 0, 1) := by decide +kernel
theorem dc_336_445 : decode (sm_cc 336) 445 = .ok (.iconst 1, 1) := by decide +kernel
theorem dc_336_446 : decode (sm_cc 336) 446 = .ok (.invokevirtual 269, 3) := by decide +kernel
theorem kr_336_269 : sm_at mt_k (sm_ow 336) 269 = some (269, 0, 322, 0, 2547) := by decide +kernel
theorem dc_336_449 : decode (sm_cc 336) 449 = .ok (.aload_n 0, 1) := by decide +kernel
theorem dc_336_450 : decode (sm_cc 336) 450 = .ok (.bipush (29), 2) := by decide +kernel
theorem dc_336_452 : decode (sm_cc 336) 452 = .ok (.invokevirtual 269, 3) := by decide +kernel
theorem dc_336_455 : decode (sm_cc 336) 455 = .ok (.aload_n 0, 1) := by decide +kernel
theorem dc_336_456 : decode (sm_cc 336) 456 = .ok (.iload 6, 2) := by decide +kernel
theorem dc_336_458 : decode (sm_cc 336) 458 = .ok (.invokevirtual 317, 3) := by decide +kernel
theorem kr_336_317 : sm_at mt_k (sm_ow 336) 317 = some (317, 0, 326, 0, 2563) := by decide +kernel
theorem dc_336_461 : decode (sm_cc 336) 461 = .ok (.aload_n 0, 1) := by decide +kernel
theorem dc_336_462 : decode (sm_cc 336) 462 = .ok (.aload_n 0, 1) := by decide +kernel
theorem dc_336_463 : decode (sm_cc 336) 463 = .ok (.getfield 350, 3) := by decide +kernel
theorem dc_336_466 : decode (sm_cc 336) 466 = .ok (.aload_n 0, 1) := by decide +kernel
theorem dc_336_467 : decode (sm_cc 336) 467 = .ok (.getfield 236, 3) := by decide +kernel
theorem dc_336_470 : decode (sm_cc 336) 470 = .ok (.iaload, 1) := by decide +kernel
theorem dc_336_471 : decode (sm_cc 336) 471 = .ok (.putfield 239, 3) := by decide +kernel
theorem dc_336_474 : decode (sm_cc 336) 474 = .ok (.aload_n 0, 1) := by decide +kernel
theorem dc_336_475 : decode (sm_cc 336) 475 = .ok (.aload_n 0, 1) := by decide +kernel
theorem dc_336_476 : decode (sm_cc 336) 476 = .ok (.getfield 362, 3) := by decide +kernel
theorem dc_336_479 : decode (sm_cc 336) 479 = .ok (.aload_n 0, 1) := by decide +kernel
theorem dc_336_480 : decode (sm_cc 336) 480 = .ok (.getfield 236, 3) := by decide +kernel
theorem dc_336_483 : decode (sm_cc 336) 483 = .ok (.iaload, 1) := by decide +kernel
theorem dc_336_484 : decode (sm_cc 336) 484 = .ok (.putfield 254, 3) := by decide +kernel
theorem dc_336_487 : decode (sm_cc 336) 487 = .ok (.aload_n 0, 1) := by decide +kernel
theorem dc_336_488 : decode (sm_cc 336) 488 = .ok (.dup, 1) := by decide +kernel
theorem dc_336_489 : decode (sm_cc 336) 489 = .ok (.getfield 236, 3) := by decide +kernel
theorem dc_336_492 : decode (sm_cc 336) 492 = .ok (.iconst 1, 1) := by decide +kernel
theorem dc_336_493 : decode (sm_cc 336) 493 = .ok (.isub, 1) := by decide +kernel
theorem dc_336_494 : decode (sm_cc 336) 494 = .ok (.putfield 236, 3) := by decide +kernel
theorem dc_336_497 : decode (sm_cc 336) 497 = .ok (.aload_n 0, 1) := by decide +kernel
theorem dc_336_498 : decode (sm_cc 336) 498 = .ok (.bipush (37), 2) := by decide +kernel
theorem dc_336_500 : decode (sm_cc 336) 500 = .ok (.iload 4, 2) := by decide +kernel
theorem dc_336_502 : decode (sm_cc 336) 502 = .ok (.invokevirtual 216, 3) := by decide +kernel
theorem kr_336_216 : sm_at mt_k (sm_ow 336) 216 = some (216, 0, 302, 0, 2465) := by decide +kernel
theorem dc_336_505 : decode (sm_cc 336) 505 = .ok (.iload_n 2, 1) := by decide +kernel
theorem dc_336_506 : decode (sm_cc 336) 506 = .ok (.ifCond .eq (10), 3) := by decide +kernel
theorem dc_336_516 : decode (sm_cc 336) 516 = .ok (.iconst 1, 1) := by decide +kernel
theorem dc_336_517 : decode (sm_cc 336) 517 = .ok (.ireturn, 1) := by decide +kernel
theorem dc_336_509 : decode (sm_cc 336) 509 = .ok (.aload_n 0, 1) := by decide +kernel
theorem dc_336_510 : decode (sm_cc 336) 510 = .ok (.bipush (6), 2) := by decide +kernel
theorem dc_336_512 : decode (sm_cc 336) 512 = .ok (.iload_n 3, 1) := by decide +kernel
theorem dc_336_513 : decode (sm_cc 336) 513 = .ok (.invokevirtual 341, 3) := by decide +kernel
theorem kr_336_341 : sm_at mt_k (sm_ow 336) 341 = some (341, 0, 317, 0, 2526) := by decide +kernel
theorem dc_336_430 : decode (sm_cc 336) 430 = .ok (.iconst 0, 1) := by decide +kernel
theorem dc_336_431 : decode (sm_cc 336) 431 = .ok (.ireturn, 1) := by decide +kernel
theorem ml_346 : sm_ml 346 = 7 := by decide +kernel
theorem dc_346_0 : decode (sm_cc 346) 0 = .ok (.aload_n 0, 1) := by decide +kernel
theorem dc_346_1 : decode (sm_cc 346) 1 = .ok (.getfield 138, 3) := by decide +kernel
theorem fr_346_138 : sm_at mt_f (sm_ow 346) 138 = some (138, 14, 8, 0, 2081) := by decide +kernel
theorem dc_346_4 : decode (sm_cc 346) 4 = .ok (.aload_n 0, 1) := by decide +kernel
theorem dc_346_5 : decode (sm_cc 346) 5 = .ok (.getfield 190, 3) := by decide +kernel
theorem fr_346_190 : sm_at mt_f (sm_ow 346) 190 = some (190, 14, 15, 0, 2088) := by decide +kernel
theorem dc_346_8 : decode (sm_cc 346) 8 = .ok (.iaload, 1) := by decide +kernel
theorem dc_346_9 : decode (sm_cc 346) 9 = .ok (.istore_n 2, 1) := by decide +kernel
theorem dc_346_10 : decode (sm_cc 346) 10 = .ok (.aload_n 0, 1) := by decide +kernel
theorem dc_346_11 : decode (sm_cc 346) 11 = .ok (.dup, 1) := by decide +kernel
theorem dc_346_12 : decode (sm_cc 346) 12 = .ok (.getfield 190, 3) := by decide +kernel
theorem dc_346_15 : decode (sm_cc 346) 15 = .ok (.iconst 1, 1) := by decide +kernel
theorem dc_346_16 : decode (sm_cc 346) 16 = .ok (.iadd, 1) := by decide +kernel
theorem dc_346_17 : decode (sm_cc 346) 17 = .ok (.putfield 190, 3) := by decide +kernel
theorem dc_346_20 : decode (sm_cc 346) 20 = .ok (.aload_n 0, 1) := by decide +kernel
theorem dc_346_21 : decode (sm_cc 346) 21 = .ok (.getfield 129, 3) := by decide +kernel
theorem fr_346_129 : sm_at mt_f (sm_ow 346) 129 = some (129, 14, 6, 0, 2079) := by decide +kernel
theorem dc_346_24 : decode (sm_cc 346) 24 = .ok (.aload_n 0, 1) := by decide +kernel
theorem dc_346_25 : decode (sm_cc 346) 25 = .ok (.getfield 190, 3) := by decide +kernel
theorem dc_346_28 : decode (sm_cc 346) 28 = .ok (.iaload, 1) := by decide +kernel
theorem dc_346_29 : decode (sm_cc 346) 29 = .ok (.iconst 1, 1) := by decide +kernel
theorem dc_346_30 : decode (sm_cc 346) 30 = .ok (.if_icmp .eq (8), 3) := by decide +kernel
theorem dc_346_38 : decode (sm_cc 346) 38 = .ok (.aload_n 0, 1) := by decide +kernel
theorem dc_346_39 : decode (sm_cc 346) 39 = .ok (.getfield 135, 3) := by decide +kernel
theorem fr_346_135 : sm_at mt_f (sm_ow 346) 135 = some (135, 14, 7, 0, 2080) := by decide +kernel
theorem dc_346_42 : decode (sm_cc 346) 42 = .ok (.aload_n 0, 1) := by decide +kernel
theorem dc_346_43 : decode (sm_cc 346) 43 = .ok (.getfield 190, 3) := by decide +kernel
theorem dc_346_46 : decode (sm_cc 346) 46 = .ok (.iaload, 1) := by decide +kernel
theorem dc_346_47 : decode (sm_cc 346) 47 = .ok (.istore_n 3, 1) := by decide +kernel
theorem dc_346_48 : decode (sm_cc 346) 48 = .ok (.iconst (-1), 1) := by decide +kernel
theorem dc_346_49 : decode (sm_cc 346) 49 = .ok (.istore 4, 2) := by decide +kernel
theorem dc_346_51 : decode (sm_cc 346) 51 = .ok (.aload_n 0, 1) := by decide +kernel
theorem dc_346_52 : decode (sm_cc 346) 52 = .ok (.getfield 260, 3) := by decide +kernel
theorem fr_346_260 : sm_at mt_f (sm_ow 346) 260 = some (260, 14, 40, 0, 2113) := by decide +kernel
theorem dc_346_55 : decode (sm_cc 346) 55 = .ok (.istore 5, 2) := by decide +kernel
theorem dc_346_57 : decode (sm_cc 346) 57 = .ok (.aload_n 0, 1) := by decide +kernel
theorem dc_346_58 : decode (sm_cc 346) 58 = .ok (.dup, 1) := by decide +kernel
theorem dc_346_59 : decode (sm_cc 346) 59 = .ok (.getfield 190, 3) := by decide +kernel
theorem dc_346_62 : decode (sm_cc 346) 62 = .ok (.iconst 1, 1) := by decide +kernel
theorem dc_346_63 : decode (sm_cc 346) 63 = .ok (.iadd, 1) := by decide +kernel
theorem dc_346_64 : decode (sm_cc 346) 64 = .ok (.putfield 190, 3) := by decide +kernel
theorem dc_346_67 : decode (sm_cc 346) 67 = .ok (.aload_n 0, 1) := by decide +kernel
theorem dc_346_68 : decode (sm_cc 346) 68 = .ok (.bipush (40), 2) := by decide +kernel
theorem dc_346_70 : decode (sm_cc 346) 70 = .ok (.invokevirtual 199, 3) := by decide +kernel
theorem kr_346_199 : sm_at mt_k (sm_ow 346) 199 = some (199, 0, 314, 0, 2514) := by decide +kernel
theorem dc_346_73 : decode (sm_cc 346) 73 = .ok (.ifCond .eq (63), 3) := by decide +kernel
theorem dc_346_76 : decode (sm_cc 346) 76 = .ok (.aload_n 0, 1) := by decide +kernel
theorem dc_346_77 : decode (sm_cc 346) 77 = .ok (.dup, 1) := by decide +kernel
theorem dc_346_78 : decode (sm_cc 346) 78 = .ok (.getfield 190, 3) := by decide +kernel
theorem dc_346_81 : decode (sm_cc 346) 81 = .ok (.iconst 1, 1) := by decide +kernel
theorem dc_346_82 : decode (sm_cc 346) 82 = .ok (.iadd, 1) := by decide +kernel
theorem dc_346_83 : decode (sm_cc 346) 83 = .ok (.putfield 190, 3) := by decide +kernel
theorem dc_346_86 : decode (sm_cc 346) 86 = .ok (.aload_n 0, 1) := by decide +kernel
theorem dc_346_87 : decode (sm_cc 346) 87 = .ok (.getfield 129, 3) := by decide +kernel
theorem dc_346_90 : decode (sm_cc 346) 90 = .ok (.aload_n 0, 1) := by decide +kernel
theorem dc_346_91 : decode (sm_cc 346) 91 = .ok (.getfield 190, 3) := by decide +kernel
theorem dc_346_94 : decode (sm_cc 346) 94 = .ok (.iaload, 1) := by decide +kernel
theorem dc_346_95 : decode (sm_cc 346) 95 = .ok (.iconst 1, 1) := by decide +kernel
theorem dc_346_96 : decode (sm_cc 346) 96 = .ok (.if_icmp .eq (8), 3) := by decide +kernel
theorem dc_346_104 : decode (sm_cc 346) 104 = .ok (.aload_n 0, 1) := by decide +kernel
theorem dc_346_105 : decode (sm_cc 346) 105 = .ok (.getfield 135, 3) := by decide +kernel
theorem dc_346_108 : decode (sm_cc 346) 108 = .ok (.aload_n 0, 1) := by decide +kernel
theorem dc_346_109 : decode (sm_cc 346) 109 = .ok (.getfield 190, 3) := by decide +kernel
theorem dc_346_112 : decode (sm_cc 346) 112 = .ok (.iaload, 1) := by decide +kernel
theorem dc_346_113 : decode (sm_cc 346) 113 = .ok (.istore 4, 2) := by decide +kernel
theorem dc_346_115 : decode (sm_cc 346) 115 = .ok (.aload_n 0, 1) := by decide +kernel
theorem dc_346_116 : decode (sm_cc 346) 116 = .ok (.dup, 1) := by decide +kernel
theorem dc_346_117 : decode (sm_cc 346) 117 = .ok (.getfield 190, 3) := by decide +kernel
theorem dc_346_120 : decode (sm_cc 346) 120 = .ok (.iconst 1, 1) := by decide +kernel
theorem dc_346_121 : decode (sm_cc 346) 121 = .ok (.iadd, 1) := by decide +kernel
theorem dc_346_122 : decode (sm_cc 346) 122 = .ok (.putfield 190, 3) := by decide +kernel
theorem dc_346_125 : decode (sm_cc 346) 125 = .ok (.aload_n 0, 1) := by decide +kernel
theorem dc_346_126 : decode (sm_cc 346) 126 = .ok (.bipush (41), 2) := by decide +kernel
theorem dc_346_128 : decode (sm_cc 346) 128 = .ok (.invokevirtual 270, 3) := by decide +kernel
theorem kr_346_270 : sm_at mt_k (sm_ow 346) 270 = some (270, 0, 323, 0, 2551) := by decide +kernel
theorem dc_346_131 : decode (sm_cc 346) 131 = .ok (.ifCond .ne (5), 3) := by decide +kernel
theorem dc_346_134 : decode (sm_cc 346) 134 = .ok (.iconst 0, 1) := by decide +kernel
theorem dc_346_135 : decode (sm_cc 346) 135 = .ok (.ireturn, 1) := by decide +kernel
theorem rt_346 : sm_rt 346 = some .boolean := by decide +kernel
theorem dc_346_99 : decode (sm_cc 346) 99 = .ok (.aload_n 0, 1) := by decide +kernel
theorem dc_346_100 : decode (sm_cc 346) 100 = .ok (.invokevirtual 202, 3) := by decide +kernel
theorem kr_346_202 : sm_at mt_k (sm_ow 346) 202 = some (202, 0, 299, 0, 2454) := by decide +kernel
theorem dc_346_103 : decode (sm_cc 346) 103 = .ok (.ireturn, 1) := by decide +kernel
theorem dc_346_33 : decode (sm_cc 346) 33 = .ok (.aload_n 0, 1) := by decide +kernel
theorem dc_346_34 : decode (sm_cc 346) 34 = .ok (.invokevirtual 202, 3) := by decide +kernel
theorem dc_346_37 : decode (sm_cc 346) 37 = .ok (.ireturn, 1) := by decide +kernel
theorem dc_346_136 : decode (sm_cc 346) 136 = .ok (.aload_n 0, 1) := by decide +kernel
theorem dc_346_137 : decode (sm_cc 346) 137 = .ok (.aload_n 0, 1) := by decide +kernel
theorem dc_346_138 : decode (sm_cc 346) 138 = .ok (.getfield 257, 3) := by decide +kernel
theorem fr_346_257 : sm_at mt_f (sm_ow 346) 257 = some (257, 14, 39, 0, 2112) := by decide +kernel
theorem dc_346_141 : decode (sm_cc 346) 141 = .ok (.putfield 260, 3) := by decide +kernel
theorem dc_346_144 : decode (sm_cc 346) 144 = .ok (.aload_n 0, 1) := by decide +kernel
theorem dc_346_145 : decode (sm_cc 346) 145 = .ok (.iload_n 1, 1) := by decide +kernel
theorem dc_346_146 : decode (sm_cc 346) 146 = .ok (.iconst 1, 1) := by decide +kernel
theorem dc_346_147 : decode (sm_cc 346) 147 = .ok (.invokevirtual 309, 3) := by decide +kernel
theorem kr_346_309 : sm_at mt_k (sm_ow 346) 309 = some (309, 0, 334, 0, 2595) := by decide +kernel
theorem dc_346_150 : decode (sm_cc 346) 150 = .ok (.ifCond .ne (5), 3) := by decide +kernel
theorem dc_346_155 : decode (sm_cc 346) 155 = .ok (.aload_n 0, 1) := by decide +kernel
theorem dc_346_156 : decode (sm_cc 346) 156 = .ok (.bipush (42), 2) := by decide +kernel
theorem dc_346_158 : decode (sm_cc 346) 158 = .ok (.iload_n 2, 1) := by decide +kernel
theorem dc_346_159 : decode (sm_cc 346) 159 = .ok (.invokevirtual 216, 3) := by decide +kernel
theorem kr_346_216 : sm_at mt_k (sm_ow 346) 216 = some (216, 0, 302, 0, 2465) := by decide +kernel
theorem dc_346_162 : decode (sm_cc 346) 162 = .ok (.iload 4, 2) := by decide +kernel
theorem dc_346_164 : decode (sm_cc 346) 164 = .ok (.ifCond .lt (10), 3) := by decide +kernel
theorem dc_346_167 : decode (sm_cc 346) 167 = .ok (.aload_n 0, 1) := by decide +kernel
theorem dc_346_168 : decode (sm_cc 346) 168 = .ok (.iconst 4, 1) := by decide +kernel
theorem dc_346_169 : decode (sm_cc 346) 169 = .ok (.iload 4, 2) := by decide +kernel
theorem dc_346_171 : decode (sm_cc 346) 171 = .ok (.invokevirtual 341, 3) := by decide +kernel
theorem kr_346_341 : sm_at mt_k (sm_ow 346) 341 = some (341, 0, 317, 0, 2526) := by decide +kernel
theorem dc_346_174 : decode (sm_cc 346) 174 = .ok (.aload_n 0, 1) := by decide +kernel
theorem dc_346_175 : decode (sm_cc 346) 175 = .ok (.bipush (40), 2) := by decide +kernel
theorem dc_346_177 : decode (sm_cc 346) 177 = .ok (.iload_n 3, 1) := by decide +kernel
theorem dc_346_178 : decode (sm_cc 346) 178 = .ok (.invokevirtual 216, 3) := by decide +kernel
theorem dc_346_181 : decode (sm_cc 346) 181 = .ok (.aload_n 0, 1) := by decide +kernel
theorem dc_346_182 : decode (sm_cc 346) 182 = .ok (.getfield 206, 3) := by decide +kernel
theorem fr_346_206 : sm_at mt_f (sm_ow 346) 206 = some (206, 14, 14, 0, 2087) := by decide +kernel
theorem dc_346_185 : decode (sm_cc 346) 185 = .ok (.iload 4, 2) := by decide +kernel
theorem dc_346_187 : decode (sm_cc 346) 187 = .ok (.ifCond .lt (7), 3) := by decide +kernel
theorem dc_346_190 : decode (sm_cc 346) 190 = .ok (.iconst 1, 1) := by decide +kernel
theorem dc_346_191 : decode (sm_cc 346) 191 = .ok (.goto (4), 3) := by decide +kernel
theorem dc_346_195 : decode (sm_cc 346) 195 = .ok (.invokevirtual 210, 3) := by decide +kernel
theorem kr_346_210 : sm_at mt_k (sm_ow 346) 210 = some (210, 0, 303, 0, 2469) := by decide +kernel
theorem dc_346_198 : decode (sm_cc 346) 198 = .ok (.aload_n 0, 1) := by decide +kernel
theorem dc_346_199 : decode (sm_cc 346) 199 = .ok (.getfield 206, 3) := by decide +kernel
theorem dc_346_202 : decode (sm_cc 346) 202 = .ok (.bipush (40), 2) := by decide +kernel
theorem dc_346_204 : decode (sm_cc 346) 204 = .ok (.aload_n 0, 1) := by decide +kernel
theorem dc_346_205 : decode (sm_cc 346) 205 = .ok (.getfield 257, 3) := by decide +kernel
theorem dc_346_208 : decode (sm_cc 346) 208 = .ok (.aload_n 0, 1) := by decide +kernel
theorem dc_346_209 : decode (sm_cc 346) 209 = .ok (.getfield 260, 3) := by decide +kernel
theorem dc_346_212 : decode (sm_cc 346) 212 = .ok (.isub, 1) := by decide +kernel
theorem dc_346_213 : decode (sm_cc 346) 213 = .ok (.invokestatic 382, 3) := by decide +kernel
theorem kr_346_382 : sm_at mt_k (sm_ow 346) 382 = some (382, 2, 187, 0, 2647) := by decide +kernel
theorem dc_346_216 : decode (sm_cc 346) 216 = .ok (.invokevirtual 210, 3) := by decide +kernel
theorem dc_346_219 : decode (sm_cc 346) 219 = .ok (.aload_n 0, 1) := by decide +kernel
theorem dc_346_220 : decode (sm_cc 346) 220 = .ok (.getfield 260, 3) := by decide +kernel
theorem dc_346_223 : decode (sm_cc 346) 223 = .ok (.istore 6, 2) := by decide +kernel
theorem dc_346_153 : decode (sm_cc 346) 153 = .ok (.iconst 0, 1) := by decide +kernel
theorem dc_346_154 : decode (sm_cc 346) 154 = .ok (.ireturn, 1) := by decide +kernel
theorem dc_346_194 : decode (sm_cc 346) 194 = .ok (.iconst 0, 1) := by decide +kernel
theorem dc_346_225 : decode (sm_cc 346) 225 = .ok (.iload 6, 2) := by decide +kernel
theorem dc_346_227 : decode (sm_cc 346) 227 = .ok (.aload_n 0, 1) := by decide +kernel
theorem dc_346_228 : decode (sm_cc 346) 228 = .ok (.getfield 257, 3) := by decide +kernel
theorem dc_346_231 : decode (sm_cc 346) 231 = .ok (.if_icmp .ge (35), 3) := by decide +kernel
theorem dc_346_266 : decode (sm_cc 346) 266 = .ok (.aload_n 0, 1) := by decide +kernel
theorem dc_346_267 : decode (sm_cc 346) 267 = .ok (.aload_n 0, 1) := by decide +kernel
theorem dc_346_268 : decode (sm_cc 346) 268 = .ok (.getfield 260, 3) := by decide +kernel
theorem dc_346_271 : decode (sm_cc 346) 271 = .ok (.putfield 257, 3) := by decide +kernel
theorem dc_346_274 : decode (sm_cc 346) 274 = .ok (.aload_n 0, 1) := by decide +kernel
theorem dc_346_275 : decode (sm_cc 346) 275 = .ok (.iload 5, 2) := by decide +kernel
theorem dc_346_277 : decode (sm_cc 346) 277 = .ok (.putfield 260, 3) := by decide +kernel
theorem dc_346_280 : decode (sm_cc 346) 280 = .ok (.aload_n 0, 1) := by decide +kernel
theorem dc_346_281 : decode (sm_cc 346) 281 = .ok (.bipush (6), 2) := by decide +kernel
theorem dc_346_283 : decode (sm_cc 346) 283 = .ok (.iload_n 3, 1) := by decide +kernel
theorem dc_346_284 : decode (sm_cc 346) 284 = .ok (.invokevirtual 341, 3) := by decide +kernel
theorem dc_346_287 : decode (sm_cc 346) 287 = .ok (.iconst 1, 1) := by decide +kernel
theorem dc_346_288 : decode (sm_cc 346) 288 = .ok (.ireturn, 1) := by decide +kernel
theorem dc_346_234 : decode (sm_cc 346) 234 = .ok (.iload 6, 2) := by decide +kernel
theorem dc_346_236 : decode (sm_cc 346) 236 = .ok (.aload_n 0, 1) := by decide +kernel
theorem dc_346_237 : decode (sm_cc 346) 237 = .ok (.getfield 260, 3) := by decide +kernel
theorem dc_346_240 : decode (sm_cc 346) 240 = .ok (.bipush (40), 2) := by decide +kernel
theorem dc_346_242 : decode (sm_cc 346) 242 = .ok (.iadd, 1) := by decide +kernel
theorem dc_346_243 : decode (sm_cc 346) 243 = .ok (.if_icmp .ge (23), 3) := by decide +kernel
theorem dc_346_246 : decode (sm_cc 346) 246 = .ok (.aload_n 0, 1) := by decide +kernel
theorem dc_346_247 : decode (sm_cc 346) 247 = .ok (.getfield 206, 3) := by decide +kernel
theorem dc_346_250 : decode (sm_cc 346) 250 = .ok (.aload_n 0, 1) := by decide +kernel
theorem dc_346_251 : decode (sm_cc 346) 251 = .ok (.getfield 385, 3) := by decide +kernel
theorem fr_346_385 : sm_at mt_f (sm_ow 346) 385 = some (385, 14, 38, 0, 2111) := by decide +kernel
theorem dc_346_254 : decode (sm_cc 346) 254 = .ok (.iload 6, 2) := by decide +kernel
theorem dc_346_256 : decode (sm_cc 346) 256 = .ok (.iaload, 1) := by decide +kernel
theorem dc_346_257 : decode (sm_cc 346) 257 = .ok (.invokevirtual 210, 3) := by decide +kernel
theorem dc_346_260 : decode (sm_cc 346) 260 = .ok (.iinc 6 (1), 3) := by decide +kernel
theorem dc_346_263 : decode (sm_cc 346) 263 = .ok (.goto (-38), 3) := by decide +kernel
theorem zDf_1 {d : Nat} {S Sf : cS} {v : Option Value} {la : Nat} {lb : Nat} {k : Nat} {e67 : Nat} {e68 : Nat} {m : Nat} {u : Nat} {S1 : cS} {a : Nat} {k1 : Nat} {S2 : cS} {F : Nat} {nl : Nat} {no : Nat} {S3 : cS} (mla : la < 2 ^ 20) (mlb : lb < 2 ^ 20) (hk : sI S 6115 = nI k) (mk : k < 6001) (he67 : sA (wI 6115 (nI (k + 1)) S) 67 (k + 1) = nI e67) (me67 : e67 < 2 ^ 20) (b1 : e67 = 1) (he68 : sA (wI 6115 (nI (k + 1)) S) 68 (k + 1) = nI e68) (me68 : e68 < 2 ^ 20) (hm : 108 ≤ m) (hv1 : sV S 6114 = .ref m) (ma : a < 2 ^ 20) (c1 : Ans (d + 8) 337 [.ref m, .int (nI e68)] (wI 6115 (nI (k + 1)) S) (some (.int (nI a))) S1) (hz2 : (sS S)[m - 108]? = some (12, u)) (hk1 : sI S1 6115 = nI k1) (mk1 : k1 < 6001) (c2 : Ans (d + 8) 323 [.ref 61, .int (nI 40)] (wI 6115 (nI (k1 + 1)) S1) (some (.int (nI 1))) S2) (hF : sI S2 6122 = nI F) (mF : F < 15) (hnl : sI (wI 6122 (nI (F + 1)) S2) 6123 = nI nl) (mnl : nl < 6000) (hno : sI (wA 75 (F + 1) (nI nl) (wI 6122 (nI (F + 1)) S2)) 6137 = nI no) (mno : no < 6000) (c3 : Ans (d + 8) 314 [.ref 61, .int (nI 41)] (wA 76 (F + 1) (nI 0) (wA 83 (F + 1) (nI no) (wA 75 (F + 1) (nI nl) (wI 6122 (nI (F + 1)) S2)))) (some (.int (nI 1))) S3) (hB : ∀ lv1 : sm_L, sm_get lv1 0 = some (.ref 61) → sm_get lv1 1 = some (.int (nI la)) → sm_get lv1 2 = some (.int (nI lb)) → sm_get lv1 3 = some (.int (nI e68)) → sm_get lv1 4 = some (.int (nI a)) → sm_get lv1 5 = some (.int (nI 0)) → Bod (d + 8) 336 131 lv1 [] (S3) v Sf) : Bod (d + 8) 336 0 [(0, .ref 61), (1, .int (nI la)), (2, .int (nI lb))] [] S v Sf := by
  refine Bod.go dc_336_0 rfl ?_
  refine Bod.go dc_336_1 rfl ?_
  refine Bod.get dc_336_2 fr_336_190 (mk_61 _) rfl ?_
  refine Bod.eqI (nI k) (by first | assumption | rfl | exact congrArg nI (by omega) | (simp (disch := omega) only [rI, rIe, rA, rIA, rLA, rJA, rVI, rQI, rVA, rQA, upd_at,  rAI, rLI, rJI, nI_add, pk_sub, kc_0, kc_1, kc_2, kc_3, kc_4, kc_5, reduceIte, Nat.reduceEqDiff, Nat.add_zero, rI_hold, rI_hold, rL_hold, hk]; done)) ?_
  refine Bod.ic 1 (by decide) dc_336_5 ?_
  refine Bod.addN (k + 1) (by omega) dc_336_6 ?_
  refine Bod.put dc_336_7 fr_336_190 (mk_61 _) (Nat.le_of_ble_eq_true rfl) pf_14_15 (st_6115 _ _) (mu_I _ _ _) ?_
  refine Bod.go dc_336_10 rfl ?_
  refine Bod.get dc_336_11 fr_336_129 (mk_61 _) rfl ?_
  refine Bod.go dc_336_14 rfl ?_
  refine Bod.get dc_336_15 fr_336_190 (mk_61 _) rfl ?_
  refine Bod.eqI (nI (k + 1)) (by first | (simp (disch := omega) only [rI, rIe, rA, rIA, rLA, rJA, rVI, rQI, rVA, rQA, upd_at,  rAI, rLI, rJI, nI_add, pk_sub, kc_0, kc_1, kc_2, kc_3, kc_4, kc_5, reduceIte, Nat.reduceEqDiff, Nat.add_zero, rI_hold, rI_hold, rL_hold, hk]; done) | (simp (disch := omega) only [rI, rIe, rA, rIA, rLA, rJA, rVI, rQI, rVA, rQA, upd_at,  rAI, rLI, rJI, nI_add, pk_sub, kc_0, kc_1, kc_2, kc_3, kc_4, kc_5, reduceIte, Nat.reduceEqDiff, Nat.add_zero, rI_hold, rI_hold, rL_hold, hk]; exact congrArg nI (by omega))) ?_
  refine Bod.ialdN (k + 1) rfl (by omega) (by omega) dc_336_18 (mk_67 _) ?_
  refine Bod.eqI (nI e67) (by first | (simp (disch := omega) only [rI, rIe, rA, rIA, rLA, rJA, rVI, rQI, rVA, rQA, upd_at,  rAI, rLI, rJI, nI_add, pk_sub, kc_0, kc_1, kc_2, kc_3, kc_4, kc_5, reduceIte, Nat.reduceEqDiff, Nat.add_zero, rI_hold, rI_hold, rL_hold, hk, he67]; done) | (simp (disch := omega) only [rI, rIe, rA, rIA, rLA, rJA, rVI, rQI, rVA, rQA, upd_at,  rAI, rLI, rJI, nI_add, pk_sub, kc_0, kc_1, kc_2, kc_3, kc_4, kc_5, reduceIte, Nat.reduceEqDiff, Nat.add_zero, rI_hold, rI_hold, rL_hold, hk, he67]; exact congrArg nI (by omega))) ?_
  refine Bod.ic 1 (by decide) dc_336_19 ?_
  refine Bod.icT dc_336_20 rfl (k2_eq_T (k_eq e67 1 rfl rfl (by omega))) ?_
  refine Bod.go dc_336_28 rfl ?_
  refine Bod.get dc_336_29 fr_336_135 (mk_61 _) rfl ?_
  refine Bod.go dc_336_32 rfl ?_
  refine Bod.get dc_336_33 fr_336_190 (mk_61 _) rfl ?_
  refine Bod.eqI (nI (k + 1)) (by first | (simp (disch := omega) only [rI, rIe, rA, rIA, rLA, rJA, rVI, rQI, rVA, rQA, upd_at,  rAI, rLI, rJI, nI_add, pk_sub, kc_0, kc_1, kc_2, kc_3, kc_4, kc_5, reduceIte, Nat.reduceEqDiff, Nat.add_zero, rI_hold, rI_hold, rL_hold, hk, he67]; done) | (simp (disch := omega) only [rI, rIe, rA, rIA, rLA, rJA, rVI, rQI, rVA, rQA, upd_at,  rAI, rLI, rJI, nI_add, pk_sub, kc_0, kc_1, kc_2, kc_3, kc_4, kc_5, reduceIte, Nat.reduceEqDiff, Nat.add_zero, rI_hold, rI_hold, rL_hold, hk, he67]; exact congrArg nI (by omega))) ?_
  refine Bod.ialdN (k + 1) rfl (by omega) (by omega) dc_336_36 (mk_68 _) ?_
  refine Bod.eqI (nI e68) (by first | (simp (disch := omega) only [rI, rIe, rA, rIA, rLA, rJA, rVI, rQI, rVA, rQA, upd_at,  rAI, rLI, rJI, nI_add, pk_sub, kc_0, kc_1, kc_2, kc_3, kc_4, kc_5, reduceIte, Nat.reduceEqDiff, Nat.add_zero, rI_hold, rI_hold, rL_hold, hk, he67, he68]; done) | (simp (disch := omega) only [rI, rIe, rA, rIA, rLA, rJA, rVI, rQI, rVA, rQA, upd_at,  rAI, rLI, rJI, nI_add, pk_sub, kc_0, kc_1, kc_2, kc_3, kc_4, kc_5, reduceIte, Nat.reduceEqDiff, Nat.add_zero, rI_hold, rI_hold, rL_hold, hk, he67, he68]; exact congrArg nI (by omega))) ?_
  refine Bod.istn dc_336_37 (by rw [ml_336]; exact Nat.le_of_ble_eq_true rfl) ?_
  refine Bod.go dc_336_38 rfl ?_
  refine Bod.get dc_336_39 fr_336_206 (mk_61 _) rfl ?_
  refine Bod.eqV (.ref m) (by first | exact hv1 | (simp only [rIV, rJV, rAV, rLV, rQV, rV, reduceIte, Nat.reduceEqDiff]; exact hv1)) ?_
  refine Bod.go dc_336_42 rfl ?_
  refine Bod.virt (r := []) dc_336_43 kr_336_368 ⟨Or.inl rfl, ow_337, cl_12⟩ (by rw [np_337]; rfl) (by rw [np_337]; rfl) (ob_of (mk_code hm (by first | exact hz2 | (simp only [rIS, rJS, rAS, rLS, rVS, rQS, rS_hold]; exact hz2)))) (Nat.le_of_ble_eq_true rfl) (c1  ) ?_
  show Bod _ _ _ _ [_] _ _ _
  refine Bod.ist dc_336_46 (by rw [ml_336]; exact Nat.le_of_ble_eq_true rfl) ?_
  refine Bod.go dc_336_48 rfl ?_
  refine Bod.go dc_336_49 rfl ?_
  refine Bod.get dc_336_50 fr_336_190 (mk_61 _) rfl ?_
  refine Bod.eqI (nI k1) (by first | (simp (disch := omega) only [rI, rIe, rA, rIA, rLA, rJA, rVI, rQI, rVA, rQA, upd_at,  rAI, rLI, rJI, nI_add, pk_sub, kc_0, kc_1, kc_2, kc_3, kc_4, kc_5, reduceIte, Nat.reduceEqDiff, Nat.add_zero, rI_hold, rI_hold, rL_hold, hk, he67, he68, hk1]; done) | (simp (disch := omega) only [rI, rIe, rA, rIA, rLA, rJA, rVI, rQI, rVA, rQA, upd_at,  rAI, rLI, rJI, nI_add, pk_sub, kc_0, kc_1, kc_2, kc_3, kc_4, kc_5, reduceIte, Nat.reduceEqDiff, Nat.add_zero, rI_hold, rI_hold, rL_hold, hk, he67, he68, hk1]; exact congrArg nI (by omega))) ?_
  refine Bod.ic 1 (by decide) dc_336_53 ?_
  refine Bod.addN (k1 + 1) (by omega) dc_336_54 ?_
  refine Bod.put dc_336_55 fr_336_190 (mk_61 _) (Nat.le_of_ble_eq_true rfl) pf_14_15 (st_6115 _ _) (mu_I _ _ _) ?_
  refine Bod.go dc_336_58 rfl ?_
  refine Bod.bip 40 (by decide) dc_336_59 ?_
  refine Bod.virt (r := []) dc_336_61 kr_336_270 ⟨Or.inl rfl, ow_323, cl_14⟩ (by rw [np_323]; rfl) (by rw [np_323]; rfl) (ob_of (mk_61 _)) (Nat.le_of_ble_eq_true rfl) (c2  ) ?_
  show Bod _ _ _ _ [_] _ _ _
  refine Bod.ifT dc_336_64 rfl (k1_ne_T (k_ne 1 0 rfl rfl (by omega) (by omega) (by omega))) ?_
  refine Bod.go dc_336_69 rfl ?_
  refine Bod.go dc_336_70 rfl ?_
  refine Bod.get dc_336_71 fr_336_236 (mk_61 _) rfl ?_
  refine Bod.eqI (nI F) (by first | (simp (disch := omega) only [rI, rIe, rA, rIA, rLA, rJA, rVI, rQI, rVA, rQA, upd_at,  rAI, rLI, rJI, nI_add, pk_sub, kc_0, kc_1, kc_2, kc_3, kc_4, kc_5, reduceIte, Nat.reduceEqDiff, Nat.add_zero, rI_hold, rI_hold, rL_hold, hk, he67, he68, hk1, hF]; done) | (simp (disch := omega) only [rI, rIe, rA, rIA, rLA, rJA, rVI, rQI, rVA, rQA, upd_at,  rAI, rLI, rJI, nI_add, pk_sub, kc_0, kc_1, kc_2, kc_3, kc_4, kc_5, reduceIte, Nat.reduceEqDiff, Nat.add_zero, rI_hold, rI_hold, rL_hold, hk, he67, he68, hk1, hF]; exact congrArg nI (by omega))) ?_
  refine Bod.ic 1 (by decide) dc_336_74 ?_
  refine Bod.addN (F + 1) (by omega) dc_336_75 ?_
  refine Bod.put dc_336_76 fr_336_236 (mk_61 _) (Nat.le_of_ble_eq_true rfl) pf_14_22 (st_6122 _ _) (mu_I _ _ _) ?_
  refine Bod.go dc_336_79 rfl ?_
  refine Bod.get dc_336_80 fr_336_350 (mk_61 _) rfl ?_
  refine Bod.go dc_336_83 rfl ?_
  refine Bod.get dc_336_84 fr_336_236 (mk_61 _) rfl ?_
  refine Bod.eqI (nI (F + 1)) (by first | (simp (disch := omega) only [rI, rIe, rA, rIA, rLA, rJA, rVI, rQI, rVA, rQA, upd_at,  rAI, rLI, rJI, nI_add, pk_sub, kc_0, kc_1, kc_2, kc_3, kc_4, kc_5, reduceIte, Nat.reduceEqDiff, Nat.add_zero, rI_hold, rI_hold, rL_hold, hk, he67, he68, hk1, hF]; done) | (simp (disch := omega) only [rI, rIe, rA, rIA, rLA, rJA, rVI, rQI, rVA, rQA, upd_at,  rAI, rLI, rJI, nI_add, pk_sub, kc_0, kc_1, kc_2, kc_3, kc_4, kc_5, reduceIte, Nat.reduceEqDiff, Nat.add_zero, rI_hold, rI_hold, rL_hold, hk, he67, he68, hk1, hF]; exact congrArg nI (by omega))) ?_
  refine Bod.go dc_336_87 rfl ?_
  refine Bod.get dc_336_88 fr_336_239 (mk_61 _) rfl ?_
  refine Bod.eqI (nI nl) (by first | (simp (disch := omega) only [rI, rIe, rA, rIA, rLA, rJA, rVI, rQI, rVA, rQA, upd_at,  rAI, rLI, rJI, nI_add, pk_sub, kc_0, kc_1, kc_2, kc_3, kc_4, kc_5, reduceIte, Nat.reduceEqDiff, Nat.add_zero, rI_hold, rI_hold, rL_hold, hk, he67, he68, hk1, hF, hnl]; done) | (simp (disch := omega) only [rI, rIe, rA, rIA, rLA, rJA, rVI, rQI, rVA, rQA, upd_at,  rAI, rLI, rJI, nI_add, pk_sub, kc_0, kc_1, kc_2, kc_3, kc_4, kc_5, reduceIte, Nat.reduceEqDiff, Nat.add_zero, rI_hold, rI_hold, rL_hold, hk, he67, he68, hk1, hF, hnl]; exact congrArg nI (by omega))) ?_
  refine Bod.iastN (F + 1) rfl (by omega) (by omega) dc_336_91 (mk_75 _) (sa_75 _ _ _) (mu_A _ _ _ _) ?_
  refine Bod.go dc_336_92 rfl ?_
  refine Bod.get dc_336_93 fr_336_362 (mk_61 _) rfl ?_
  refine Bod.go dc_336_96 rfl ?_
  refine Bod.get dc_336_97 fr_336_236 (mk_61 _) rfl ?_
  refine Bod.eqI (nI (F + 1)) (by first | (simp (disch := omega) only [rI, rIe, rA, rIA, rLA, rJA, rVI, rQI, rVA, rQA, upd_at,  rAI, rLI, rJI, nI_add, pk_sub, kc_0, kc_1, kc_2, kc_3, kc_4, kc_5, reduceIte, Nat.reduceEqDiff, Nat.add_zero, rI_hold, rI_hold, rL_hold, hk, he67, he68, hk1, hF, hnl]; done) | (simp (disch := omega) only [rI, rIe, rA, rIA, rLA, rJA, rVI, rQI, rVA, rQA, upd_at,  rAI, rLI, rJI, nI_add, pk_sub, kc_0, kc_1, kc_2, kc_3, kc_4, kc_5, reduceIte, Nat.reduceEqDiff, Nat.add_zero, rI_hold, rI_hold, rL_hold, hk, he67, he68, hk1, hF, hnl]; exact congrArg nI (by omega))) ?_
  refine Bod.go dc_336_100 rfl ?_
  refine Bod.get dc_336_101 fr_336_254 (mk_61 _) rfl ?_
  refine Bod.eqI (nI no) (by first | (simp (disch := omega) only [rI, rIe, rA, rIA, rLA, rJA, rVI, rQI, rVA, rQA, upd_at,  rAI, rLI, rJI, nI_add, pk_sub, kc_0, kc_1, kc_2, kc_3, kc_4, kc_5, reduceIte, Nat.reduceEqDiff, Nat.add_zero, rI_hold, rI_hold, rL_hold, hk, he67, he68, hk1, hF, hnl, hno]; done) | (simp (disch := omega) only [rI, rIe, rA, rIA, rLA, rJA, rVI, rQI, rVA, rQA, upd_at,  rAI, rLI, rJI, nI_add, pk_sub, kc_0, kc_1, kc_2, kc_3, kc_4, kc_5, reduceIte, Nat.reduceEqDiff, Nat.add_zero, rI_hold, rI_hold, rL_hold, hk, he67, he68, hk1, hF, hnl, hno]; exact congrArg nI (by omega))) ?_
  refine Bod.iastN (F + 1) rfl (by omega) (by omega) dc_336_104 (mk_83 _) (sa_83 _ _ _) (mu_A _ _ _ _) ?_
  refine Bod.go dc_336_105 rfl ?_
  refine Bod.get dc_336_106 fr_336_344 (mk_61 _) rfl ?_
  refine Bod.go dc_336_109 rfl ?_
  refine Bod.get dc_336_110 fr_336_236 (mk_61 _) rfl ?_
  refine Bod.eqI (nI (F + 1)) (by first | (simp (disch := omega) only [rI, rIe, rA, rIA, rLA, rJA, rVI, rQI, rVA, rQA, upd_at,  rAI, rLI, rJI, nI_add, pk_sub, kc_0, kc_1, kc_2, kc_3, kc_4, kc_5, reduceIte, Nat.reduceEqDiff, Nat.add_zero, rI_hold, rI_hold, rL_hold, hk, he67, he68, hk1, hF, hnl, hno]; done) | (simp (disch := omega) only [rI, rIe, rA, rIA, rLA, rJA, rVI, rQI, rVA, rQA, upd_at,  rAI, rLI, rJI, nI_add, pk_sub, kc_0, kc_1, kc_2, kc_3, kc_4, kc_5, reduceIte, Nat.reduceEqDiff, Nat.add_zero, rI_hold, rI_hold, rL_hold, hk, he67, he68, hk1, hF, hnl, hno]; exact congrArg nI (by omega))) ?_
  refine Bod.ic 0 (by decide) dc_336_113 ?_
  refine Bod.iastN (F + 1) rfl (by omega) (by omega) dc_336_114 (mk_76 _) (sa_76 _ _ _) (mu_A _ _ _ _) ?_
  refine Bod.go dc_336_115 rfl ?_
  refine Bod.bip 41 (by decide) dc_336_116 ?_
  refine Bod.virt (r := []) dc_336_118 kr_336_199 ⟨Or.inl rfl, ow_314, cl_14⟩ (by rw [np_314]; rfl) (by rw [np_314]; rfl) (ob_of (mk_61 _)) (Nat.le_of_ble_eq_true rfl) (c3  ) ?_
  show Bod _ _ _ _ [_] _ _ _
  refine Bod.ifT dc_336_121 rfl (k1_ne_T (k_ne 1 0 rfl rfl (by omega) (by omega) (by omega))) ?_
  refine Bod.ic 0 (by decide) dc_336_128 ?_
  refine Bod.ist dc_336_129 (by rw [ml_336]; exact Nat.le_of_ble_eq_true rfl) ?_
  exact hB _ (by first | rfl | exact (by repeat (first | exact rfl | exact sm_get_p1 | exact sm_get_p2e | refine sm_get_p1m (by decide) (by decide) ?_ | refine sm_get_p1n (by decide) rfl ?_ | refine sm_get_p2n (by decide) (by decide) rfl ?_))) (by first | rfl | exact (by repeat (first | exact rfl | exact sm_get_p1 | exact sm_get_p2e | refine sm_get_p1m (by decide) (by decide) ?_ | refine sm_get_p1n (by decide) rfl ?_ | refine sm_get_p2n (by decide) (by decide) rfl ?_))) (by first | rfl | exact (by repeat (first | exact rfl | exact sm_get_p1 | exact sm_get_p2e | refine sm_get_p1m (by decide) (by decide) ?_ | refine sm_get_p1n (by decide) rfl ?_ | refine sm_get_p2n (by decide) (by decide) rfl ?_))) (by first | rfl | exact (by repeat (first | exact rfl | exact sm_get_p1 | exact sm_get_p2e | refine sm_get_p1m (by decide) (by decide) ?_ | refine sm_get_p1n (by decide) rfl ?_ | refine sm_get_p2n (by decide) (by decide) rfl ?_))) (by first | rfl | exact (by repeat (first | exact rfl | exact sm_get_p1 | exact sm_get_p2e | refine sm_get_p1m (by decide) (by decide) ?_ | refine sm_get_p1n (by decide) rfl ?_ | refine sm_get_p2n (by decide) (by decide) rfl ?_))) (by first | rfl | exact (by repeat (first | exact rfl | exact sm_get_p1 | exact sm_get_p2e | refine sm_get_p1m (by decide) (by decide) ?_ | refine sm_get_p1n (by decide) rfl ?_ | refine sm_get_p2n (by decide) (by decide) rfl ?_)))
theorem zDf_2 {d : Nat} {S Sf : cS} {v : Option Value} {la : Nat} {lb : Nat} {k : Nat} {e67 : Nat} {e68 : Nat} {m : Nat} {u : Nat} {S1 : cS} {a : Nat} {k1 : Nat} {S2 : cS} {F : Nat} {nl : Nat} {no : Nat} {S3 : cS} (mla : la < 2 ^ 20) (mlb : lb < 2 ^ 20) (hk : sI S 6115 = nI k) (mk : k < 6001) (he67 : sA (wI 6115 (nI (k + 1)) S) 67 (k + 1) = nI e67) (me67 : e67 < 2 ^ 20) (b1 : e67 = 1) (he68 : sA (wI 6115 (nI (k + 1)) S) 68 (k + 1) = nI e68) (me68 : e68 < 2 ^ 20) (hm : 108 ≤ m) (hv1 : sV S 6114 = .ref m) (ma : a < 2 ^ 20) (c1 : Ans (d + 8) 337 [.ref m, .int (nI e68)] (wI 6115 (nI (k + 1)) S) (some (.int (nI a))) S1) (hz2 : (sS S)[m - 108]? = some (12, u)) (hk1 : sI S1 6115 = nI k1) (mk1 : k1 < 6001) (c2 : Ans (d + 8) 323 [.ref 61, .int (nI 40)] (wI 6115 (nI (k1 + 1)) S1) (some (.int (nI 1))) S2) (hF : sI S2 6122 = nI F) (mF : F < 15) (hnl : sI (wI 6122 (nI (F + 1)) S2) 6123 = nI nl) (mnl : nl < 6000) (hno : sI (wA 75 (F + 1) (nI nl) (wI 6122 (nI (F + 1)) S2)) 6137 = nI no) (mno : no < 6000) (c3 : Ans (d + 8) 314 [.ref 61, .int (nI 41)] (wA 76 (F + 1) (nI 0) (wA 83 (F + 1) (nI no) (wA 75 (F + 1) (nI nl) (wI 6122 (nI (F + 1)) S2)))) (some (.int (nI 0))) S3) (hB : ∀ lv1 : sm_L, sm_get lv1 0 = some (.ref 61) → sm_get lv1 1 = some (.int (nI la)) → sm_get lv1 2 = some (.int (nI lb)) → sm_get lv1 3 = some (.int (nI e68)) → sm_get lv1 4 = some (.int (nI a)) → sm_get lv1 5 = some (.int (nI 1)) → Bod (d + 8) 336 131 lv1 [] (S3) v Sf) : Bod (d + 8) 336 0 [(0, .ref 61), (1, .int (nI la)), (2, .int (nI lb))] [] S v Sf := by
  refine Bod.go dc_336_0 rfl ?_
  refine Bod.go dc_336_1 rfl ?_
  refine Bod.get dc_336_2 fr_336_190 (mk_61 _) rfl ?_
  refine Bod.eqI (nI k) (by first | assumption | rfl | exact congrArg nI (by omega) | (simp (disch := omega) only [rI, rIe, rA, rIA, rLA, rJA, rVI, rQI, rVA, rQA, upd_at,  rAI, rLI, rJI, nI_add, pk_sub, kc_0, kc_1, kc_2, kc_3, kc_4, kc_5, reduceIte, Nat.reduceEqDiff, Nat.add_zero, rI_hold, rI_hold, rL_hold, hk]; done)) ?_
  refine Bod.ic 1 (by decide) dc_336_5 ?_
  refine Bod.addN (k + 1) (by omega) dc_336_6 ?_
  refine Bod.put dc_336_7 fr_336_190 (mk_61 _) (Nat.le_of_ble_eq_true rfl) pf_14_15 (st_6115 _ _) (mu_I _ _ _) ?_
  refine Bod.go dc_336_10 rfl ?_
  refine Bod.get dc_336_11 fr_336_129 (mk_61 _) rfl ?_
  refine Bod.go dc_336_14 rfl ?_
  refine Bod.get dc_336_15 fr_336_190 (mk_61 _) rfl ?_
  refine Bod.eqI (nI (k + 1)) (by first | (simp (disch := omega) only [rI, rIe, rA, rIA, rLA, rJA, rVI, rQI, rVA, rQA, upd_at,  rAI, rLI, rJI, nI_add, pk_sub, kc_0, kc_1, kc_2, kc_3, kc_4, kc_5, reduceIte, Nat.reduceEqDiff, Nat.add_zero, rI_hold, rI_hold, rL_hold, hk]; done) | (simp (disch := omega) only [rI, rIe, rA, rIA, rLA, rJA, rVI, rQI, rVA, rQA, upd_at,  rAI, rLI, rJI, nI_add, pk_sub, kc_0, kc_1, kc_2, kc_3, kc_4, kc_5, reduceIte, Nat.reduceEqDiff, Nat.add_zero, rI_hold, rI_hold, rL_hold, hk]; exact congrArg nI (by omega))) ?_
  refine Bod.ialdN (k + 1) rfl (by omega) (by omega) dc_336_18 (mk_67 _) ?_
  refine Bod.eqI (nI e67) (by first | (simp (disch := omega) only [rI, rIe, rA, rIA, rLA, rJA, rVI, rQI, rVA, rQA, upd_at,  rAI, rLI, rJI, nI_add, pk_sub, kc_0, kc_1, kc_2, kc_3, kc_4, kc_5, reduceIte, Nat.reduceEqDiff, Nat.add_zero, rI_hold, rI_hold, rL_hold, hk, he67]; done) | (simp (disch := omega) only [rI, rIe, rA, rIA, rLA, rJA, rVI, rQI, rVA, rQA, upd_at,  rAI, rLI, rJI, nI_add, pk_sub, kc_0, kc_1, kc_2, kc_3, kc_4, kc_5, reduceIte, Nat.reduceEqDiff, Nat.add_zero, rI_hold, rI_hold, rL_hold, hk, he67]; exact congrArg nI (by omega))) ?_
  refine Bod.ic 1 (by decide) dc_336_19 ?_
  refine Bod.icT dc_336_20 rfl (k2_eq_T (k_eq e67 1 rfl rfl (by omega))) ?_
  refine Bod.go dc_336_28 rfl ?_
  refine Bod.get dc_336_29 fr_336_135 (mk_61 _) rfl ?_
  refine Bod.go dc_336_32 rfl ?_
  refine Bod.get dc_336_33 fr_336_190 (mk_61 _) rfl ?_
  refine Bod.eqI (nI (k + 1)) (by first | (simp (disch := omega) only [rI, rIe, rA, rIA, rLA, rJA, rVI, rQI, rVA, rQA, upd_at,  rAI, rLI, rJI, nI_add, pk_sub, kc_0, kc_1, kc_2, kc_3, kc_4, kc_5, reduceIte, Nat.reduceEqDiff, Nat.add_zero, rI_hold, rI_hold, rL_hold, hk, he67]; done) | (simp (disch := omega) only [rI, rIe, rA, rIA, rLA, rJA, rVI, rQI, rVA, rQA, upd_at,  rAI, rLI, rJI, nI_add, pk_sub, kc_0, kc_1, kc_2, kc_3, kc_4, kc_5, reduceIte, Nat.reduceEqDiff, Nat.add_zero, rI_hold, rI_hold, rL_hold, hk, he67]; exact congrArg nI (by omega))) ?_
  refine Bod.ialdN (k + 1) rfl (by omega) (by omega) dc_336_36 (mk_68 _) ?_
  refine Bod.eqI (nI e68) (by first | (simp (disch := omega) only [rI, rIe, rA, rIA, rLA, rJA, rVI, rQI, rVA, rQA, upd_at,  rAI, rLI, rJI, nI_add, pk_sub, kc_0, kc_1, kc_2, kc_3, kc_4, kc_5, reduceIte, Nat.reduceEqDiff, Nat.add_zero, rI_hold, rI_hold, rL_hold, hk, he67, he68]; done) | (simp (disch := omega) only [rI, rIe, rA, rIA, rLA, rJA, rVI, rQI, rVA, rQA, upd_at,  rAI, rLI, rJI, nI_add, pk_sub, kc_0, kc_1, kc_2, kc_3, kc_4, kc_5, reduceIte, Nat.reduceEqDiff, Nat.add_zero, rI_hold, rI_hold, rL_hold, hk, he67, he68]; exact congrArg nI (by omega))) ?_
  refine Bod.istn dc_336_37 (by rw [ml_336]; exact Nat.le_of_ble_eq_true rfl) ?_
  refine Bod.go dc_336_38 rfl ?_
  refine Bod.get dc_336_39 fr_336_206 (mk_61 _) rfl ?_
  refine Bod.eqV (.ref m) (by first | exact hv1 | (simp only [rIV, rJV, rAV, rLV, rQV, rV, reduceIte, Nat.reduceEqDiff]; exact hv1)) ?_
  refine Bod.go dc_336_42 rfl ?_
  refine Bod.virt (r := []) dc_336_43 kr_336_368 ⟨Or.inl rfl, ow_337, cl_12⟩ (by rw [np_337]; rfl) (by rw [np_337]; rfl) (ob_of (mk_code hm (by first | exact hz2 | (simp only [rIS, rJS, rAS, rLS, rVS, rQS, rS_hold]; exact hz2)))) (Nat.le_of_ble_eq_true rfl) (c1  ) ?_
  show Bod _ _ _ _ [_] _ _ _
  refine Bod.ist dc_336_46 (by rw [ml_336]; exact Nat.le_of_ble_eq_true rfl) ?_
  refine Bod.go dc_336_48 rfl ?_
  refine Bod.go dc_336_49 rfl ?_
  refine Bod.get dc_336_50 fr_336_190 (mk_61 _) rfl ?_
  refine Bod.eqI (nI k1) (by first | (simp (disch := omega) only [rI, rIe, rA, rIA, rLA, rJA, rVI, rQI, rVA, rQA, upd_at,  rAI, rLI, rJI, nI_add, pk_sub, kc_0, kc_1, kc_2, kc_3, kc_4, kc_5, reduceIte, Nat.reduceEqDiff, Nat.add_zero, rI_hold, rI_hold, rL_hold, hk, he67, he68, hk1]; done) | (simp (disch := omega) only [rI, rIe, rA, rIA, rLA, rJA, rVI, rQI, rVA, rQA, upd_at,  rAI, rLI, rJI, nI_add, pk_sub, kc_0, kc_1, kc_2, kc_3, kc_4, kc_5, reduceIte, Nat.reduceEqDiff, Nat.add_zero, rI_hold, rI_hold, rL_hold, hk, he67, he68, hk1]; exact congrArg nI (by omega))) ?_
  refine Bod.ic 1 (by decide) dc_336_53 ?_
  refine Bod.addN (k1 + 1) (by omega) dc_336_54 ?_
  refine Bod.put dc_336_55 fr_336_190 (mk_61 _) (Nat.le_of_ble_eq_true rfl) pf_14_15 (st_6115 _ _) (mu_I _ _ _) ?_
  refine Bod.go dc_336_58 rfl ?_
  refine Bod.bip 40 (by decide) dc_336_59 ?_
  refine Bod.virt (r := []) dc_336_61 kr_336_270 ⟨Or.inl rfl, ow_323, cl_14⟩ (by rw [np_323]; rfl) (by rw [np_323]; rfl) (ob_of (mk_61 _)) (Nat.le_of_ble_eq_true rfl) (c2  ) ?_
  show Bod _ _ _ _ [_] _ _ _
  refine Bod.ifT dc_336_64 rfl (k1_ne_T (k_ne 1 0 rfl rfl (by omega) (by omega) (by omega))) ?_
  refine Bod.go dc_336_69 rfl ?_
  refine Bod.go dc_336_70 rfl ?_
  refine Bod.get dc_336_71 fr_336_236 (mk_61 _) rfl ?_
  refine Bod.eqI (nI F) (by first | (simp (disch := omega) only [rI, rIe, rA, rIA, rLA, rJA, rVI, rQI, rVA, rQA, upd_at,  rAI, rLI, rJI, nI_add, pk_sub, kc_0, kc_1, kc_2, kc_3, kc_4, kc_5, reduceIte, Nat.reduceEqDiff, Nat.add_zero, rI_hold, rI_hold, rL_hold, hk, he67, he68, hk1, hF]; done) | (simp (disch := omega) only [rI, rIe, rA, rIA, rLA, rJA, rVI, rQI, rVA, rQA, upd_at,  rAI, rLI, rJI, nI_add, pk_sub, kc_0, kc_1, kc_2, kc_3, kc_4, kc_5, reduceIte, Nat.reduceEqDiff, Nat.add_zero, rI_hold, rI_hold, rL_hold, hk, he67, he68, hk1, hF]; exact congrArg nI (by omega))) ?_
  refine Bod.ic 1 (by decide) dc_336_74 ?_
  refine Bod.addN (F + 1) (by omega) dc_336_75 ?_
  refine Bod.put dc_336_76 fr_336_236 (mk_61 _) (Nat.le_of_ble_eq_true rfl) pf_14_22 (st_6122 _ _) (mu_I _ _ _) ?_
  refine Bod.go dc_336_79 rfl ?_
  refine Bod.get dc_336_80 fr_336_350 (mk_61 _) rfl ?_
  refine Bod.go dc_336_83 rfl ?_
  refine Bod.get dc_336_84 fr_336_236 (mk_61 _) rfl ?_
  refine Bod.eqI (nI (F + 1)) (by first | (simp (disch := omega) only [rI, rIe, rA, rIA, rLA, rJA, rVI, rQI, rVA, rQA, upd_at,  rAI, rLI, rJI, nI_add, pk_sub, kc_0, kc_1, kc_2, kc_3, kc_4, kc_5, reduceIte, Nat.reduceEqDiff, Nat.add_zero, rI_hold, rI_hold, rL_hold, hk, he67, he68, hk1, hF]; done) | (simp (disch := omega) only [rI, rIe, rA, rIA, rLA, rJA, rVI, rQI, rVA, rQA, upd_at,  rAI, rLI, rJI, nI_add, pk_sub, kc_0, kc_1, kc_2, kc_3, kc_4, kc_5, reduceIte, Nat.reduceEqDiff, Nat.add_zero, rI_hold, rI_hold, rL_hold, hk, he67, he68, hk1, hF]; exact congrArg nI (by omega))) ?_
  refine Bod.go dc_336_87 rfl ?_
  refine Bod.get dc_336_88 fr_336_239 (mk_61 _) rfl ?_
  refine Bod.eqI (nI nl) (by first | (simp (disch := omega) only [rI, rIe, rA, rIA, rLA, rJA, rVI, rQI, rVA, rQA, upd_at,  rAI, rLI, rJI, nI_add, pk_sub, kc_0, kc_1, kc_2, kc_3, kc_4, kc_5, reduceIte, Nat.reduceEqDiff, Nat.add_zero, rI_hold, rI_hold, rL_hold, hk, he67, he68, hk1, hF, hnl]; done) | (simp (disch := omega) only [rI, rIe, rA, rIA, rLA, rJA, rVI, rQI, rVA, rQA, upd_at,  rAI, rLI, rJI, nI_add, pk_sub, kc_0, kc_1, kc_2, kc_3, kc_4, kc_5, reduceIte, Nat.reduceEqDiff, Nat.add_zero, rI_hold, rI_hold, rL_hold, hk, he67, he68, hk1, hF, hnl]; exact congrArg nI (by omega))) ?_
  refine Bod.iastN (F + 1) rfl (by omega) (by omega) dc_336_91 (mk_75 _) (sa_75 _ _ _) (mu_A _ _ _ _) ?_
  refine Bod.go dc_336_92 rfl ?_
  refine Bod.get dc_336_93 fr_336_362 (mk_61 _) rfl ?_
  refine Bod.go dc_336_96 rfl ?_
  refine Bod.get dc_336_97 fr_336_236 (mk_61 _) rfl ?_
  refine Bod.eqI (nI (F + 1)) (by first | (simp (disch := omega) only [rI, rIe, rA, rIA, rLA, rJA, rVI, rQI, rVA, rQA, upd_at,  rAI, rLI, rJI, nI_add, pk_sub, kc_0, kc_1, kc_2, kc_3, kc_4, kc_5, reduceIte, Nat.reduceEqDiff, Nat.add_zero, rI_hold, rI_hold, rL_hold, hk, he67, he68, hk1, hF, hnl]; done) | (simp (disch := omega) only [rI, rIe, rA, rIA, rLA, rJA, rVI, rQI, rVA, rQA, upd_at,  rAI, rLI, rJI, nI_add, pk_sub, kc_0, kc_1, kc_2, kc_3, kc_4, kc_5, reduceIte, Nat.reduceEqDiff, Nat.add_zero, rI_hold, rI_hold, rL_hold, hk, he67, he68, hk1, hF, hnl]; exact congrArg nI (by omega))) ?_
  refine Bod.go dc_336_100 rfl ?_
  refine Bod.get dc_336_101 fr_336_254 (mk_61 _) rfl ?_
  refine Bod.eqI (nI no) (by first | (simp (disch := omega) only [rI, rIe, rA, rIA, rLA, rJA, rVI, rQI, rVA, rQA, upd_at,  rAI, rLI, rJI, nI_add, pk_sub, kc_0, kc_1, kc_2, kc_3, kc_4, kc_5, reduceIte, Nat.reduceEqDiff, Nat.add_zero, rI_hold, rI_hold, rL_hold, hk, he67, he68, hk1, hF, hnl, hno]; done) | (simp (disch := omega) only [rI, rIe, rA, rIA, rLA, rJA, rVI, rQI, rVA, rQA, upd_at,  rAI, rLI, rJI, nI_add, pk_sub, kc_0, kc_1, kc_2, kc_3, kc_4, kc_5, reduceIte, Nat.reduceEqDiff, Nat.add_zero, rI_hold, rI_hold, rL_hold, hk, he67, he68, hk1, hF, hnl, hno]; exact congrArg nI (by omega))) ?_
  refine Bod.iastN (F + 1) rfl (by omega) (by omega) dc_336_104 (mk_83 _) (sa_83 _ _ _) (mu_A _ _ _ _) ?_
  refine Bod.go dc_336_105 rfl ?_
  refine Bod.get dc_336_106 fr_336_344 (mk_61 _) rfl ?_
  refine Bod.go dc_336_109 rfl ?_
  refine Bod.get dc_336_110 fr_336_236 (mk_61 _) rfl ?_
  refine Bod.eqI (nI (F + 1)) (by first | (simp (disch := omega) only [rI, rIe, rA, rIA, rLA, rJA, rVI, rQI, rVA, rQA, upd_at,  rAI, rLI, rJI, nI_add, pk_sub, kc_0, kc_1, kc_2, kc_3, kc_4, kc_5, reduceIte, Nat.reduceEqDiff, Nat.add_zero, rI_hold, rI_hold, rL_hold, hk, he67, he68, hk1, hF, hnl, hno]; done) | (simp (disch := omega) only [rI, rIe, rA, rIA, rLA, rJA, rVI, rQI, rVA, rQA, upd_at,  rAI, rLI, rJI, nI_add, pk_sub, kc_0, kc_1, kc_2, kc_3, kc_4, kc_5, reduceIte, Nat.reduceEqDiff, Nat.add_zero, rI_hold, rI_hold, rL_hold, hk, he67, he68, hk1, hF, hnl, hno]; exact congrArg nI (by omega))) ?_
  refine Bod.ic 0 (by decide) dc_336_113 ?_
  refine Bod.iastN (F + 1) rfl (by omega) (by omega) dc_336_114 (mk_76 _) (sa_76 _ _ _) (mu_A _ _ _ _) ?_
  refine Bod.go dc_336_115 rfl ?_
  refine Bod.bip 41 (by decide) dc_336_116 ?_
  refine Bod.virt (r := []) dc_336_118 kr_336_199 ⟨Or.inl rfl, ow_314, cl_14⟩ (by rw [np_314]; rfl) (by rw [np_314]; rfl) (ob_of (mk_61 _)) (Nat.le_of_ble_eq_true rfl) (c3  ) ?_
  show Bod _ _ _ _ [_] _ _ _
  refine Bod.ifF dc_336_121 rfl (k1_ne_F (k_eq 0 0 rfl rfl (by omega))) ?_
  refine Bod.ic 1 (by decide) dc_336_124 ?_
  refine Bod.go dc_336_125 rfl ?_
  refine Bod.ist dc_336_129 (by rw [ml_336]; exact Nat.le_of_ble_eq_true rfl) ?_
  exact hB _ (by first | rfl | exact (by repeat (first | exact rfl | exact sm_get_p1 | exact sm_get_p2e | refine sm_get_p1m (by decide) (by decide) ?_ | refine sm_get_p1n (by decide) rfl ?_ | refine sm_get_p2n (by decide) (by decide) rfl ?_))) (by first | rfl | exact (by repeat (first | exact rfl | exact sm_get_p1 | exact sm_get_p2e | refine sm_get_p1m (by decide) (by decide) ?_ | refine sm_get_p1n (by decide) rfl ?_ | refine sm_get_p2n (by decide) (by decide) rfl ?_))) (by first | rfl | exact (by repeat (first | exact rfl | exact sm_get_p1 | exact sm_get_p2e | refine sm_get_p1m (by decide) (by decide) ?_ | refine sm_get_p1n (by decide) rfl ?_ | refine sm_get_p2n (by decide) (by decide) rfl ?_))) (by first | rfl | exact (by repeat (first | exact rfl | exact sm_get_p1 | exact sm_get_p2e | refine sm_get_p1m (by decide) (by decide) ?_ | refine sm_get_p1n (by decide) rfl ?_ | refine sm_get_p2n (by decide) (by decide) rfl ?_))) (by first | rfl | exact (by repeat (first | exact rfl | exact sm_get_p1 | exact sm_get_p2e | refine sm_get_p1m (by decide) (by decide) ?_ | refine sm_get_p1n (by decide) rfl ?_ | refine sm_get_p2n (by decide) (by decide) rfl ?_))) (by first | rfl | exact (by repeat (first | exact rfl | exact sm_get_p1 | exact sm_get_p2e | refine sm_get_p1m (by decide) (by decide) ?_ | refine sm_get_p1n (by decide) rfl ?_ | refine sm_get_p2n (by decide) (by decide) rfl ?_)))
theorem zDf_3 {d : Nat} {S : cS} {la : Nat} {lb : Nat} {k : Nat} {e67 : Nat} {e68 : Nat} {m : Nat} {u : Nat} {S1 : cS} {a : Nat} {k1 : Nat} {S2 : cS} (mla : la < 2 ^ 20) (mlb : lb < 2 ^ 20) (hk : sI S 6115 = nI k) (mk : k < 6001) (he67 : sA (wI 6115 (nI (k + 1)) S) 67 (k + 1) = nI e67) (me67 : e67 < 2 ^ 20) (b1 : e67 = 1) (he68 : sA (wI 6115 (nI (k + 1)) S) 68 (k + 1) = nI e68) (me68 : e68 < 2 ^ 20) (hm : 108 ≤ m) (hv1 : sV S 6114 = .ref m) (ma : a < 2 ^ 20) (c1 : Ans (d + 8) 337 [.ref m, .int (nI e68)] (wI 6115 (nI (k + 1)) S) (some (.int (nI a))) S1) (hz2 : (sS S)[m - 108]? = some (12, u)) (hk1 : sI S1 6115 = nI k1) (mk1 : k1 < 6001) (c2 : Ans (d + 8) 323 [.ref 61, .int (nI 40)] (wI 6115 (nI (k1 + 1)) S1) (some (.int (nI 0))) S2) : Bod (d + 8) 336 0 [(0, .ref 61), (1, .int (nI la)), (2, .int (nI lb))] [] S (some (.int 0)) (S2) := by
  refine Bod.go dc_336_0 rfl ?_
  refine Bod.go dc_336_1 rfl ?_
  refine Bod.get dc_336_2 fr_336_190 (mk_61 _) rfl ?_
  refine Bod.eqI (nI k) (by first | assumption | rfl | exact congrArg nI (by omega) | (simp (disch := omega) only [rI, rIe, rA, rIA, rLA, rJA, rVI, rQI, rVA, rQA, upd_at,  rAI, rLI, rJI, nI_add, pk_sub, kc_0, kc_1, kc_2, kc_3, kc_4, kc_5, reduceIte, Nat.reduceEqDiff, Nat.add_zero, rI_hold, rI_hold, rL_hold, hk]; done)) ?_
  refine Bod.ic 1 (by decide) dc_336_5 ?_
  refine Bod.addN (k + 1) (by omega) dc_336_6 ?_
  refine Bod.put dc_336_7 fr_336_190 (mk_61 _) (Nat.le_of_ble_eq_true rfl) pf_14_15 (st_6115 _ _) (mu_I _ _ _) ?_
  refine Bod.go dc_336_10 rfl ?_
  refine Bod.get dc_336_11 fr_336_129 (mk_61 _) rfl ?_
  refine Bod.go dc_336_14 rfl ?_
  refine Bod.get dc_336_15 fr_336_190 (mk_61 _) rfl ?_
  refine Bod.eqI (nI (k + 1)) (by first | (simp (disch := omega) only [rI, rIe, rA, rIA, rLA, rJA, rVI, rQI, rVA, rQA, upd_at,  rAI, rLI, rJI, nI_add, pk_sub, kc_0, kc_1, kc_2, kc_3, kc_4, kc_5, reduceIte, Nat.reduceEqDiff, Nat.add_zero, rI_hold, rI_hold, rL_hold, hk]; done) | (simp (disch := omega) only [rI, rIe, rA, rIA, rLA, rJA, rVI, rQI, rVA, rQA, upd_at,  rAI, rLI, rJI, nI_add, pk_sub, kc_0, kc_1, kc_2, kc_3, kc_4, kc_5, reduceIte, Nat.reduceEqDiff, Nat.add_zero, rI_hold, rI_hold, rL_hold, hk]; exact congrArg nI (by omega))) ?_
  refine Bod.ialdN (k + 1) rfl (by omega) (by omega) dc_336_18 (mk_67 _) ?_
  refine Bod.eqI (nI e67) (by first | (simp (disch := omega) only [rI, rIe, rA, rIA, rLA, rJA, rVI, rQI, rVA, rQA, upd_at,  rAI, rLI, rJI, nI_add, pk_sub, kc_0, kc_1, kc_2, kc_3, kc_4, kc_5, reduceIte, Nat.reduceEqDiff, Nat.add_zero, rI_hold, rI_hold, rL_hold, hk, he67]; done) | (simp (disch := omega) only [rI, rIe, rA, rIA, rLA, rJA, rVI, rQI, rVA, rQA, upd_at,  rAI, rLI, rJI, nI_add, pk_sub, kc_0, kc_1, kc_2, kc_3, kc_4, kc_5, reduceIte, Nat.reduceEqDiff, Nat.add_zero, rI_hold, rI_hold, rL_hold, hk, he67]; exact congrArg nI (by omega))) ?_
  refine Bod.ic 1 (by decide) dc_336_19 ?_
  refine Bod.icT dc_336_20 rfl (k2_eq_T (k_eq e67 1 rfl rfl (by omega))) ?_
  refine Bod.go dc_336_28 rfl ?_
  refine Bod.get dc_336_29 fr_336_135 (mk_61 _) rfl ?_
  refine Bod.go dc_336_32 rfl ?_
  refine Bod.get dc_336_33 fr_336_190 (mk_61 _) rfl ?_
  refine Bod.eqI (nI (k + 1)) (by first | (simp (disch := omega) only [rI, rIe, rA, rIA, rLA, rJA, rVI, rQI, rVA, rQA, upd_at,  rAI, rLI, rJI, nI_add, pk_sub, kc_0, kc_1, kc_2, kc_3, kc_4, kc_5, reduceIte, Nat.reduceEqDiff, Nat.add_zero, rI_hold, rI_hold, rL_hold, hk, he67]; done) | (simp (disch := omega) only [rI, rIe, rA, rIA, rLA, rJA, rVI, rQI, rVA, rQA, upd_at,  rAI, rLI, rJI, nI_add, pk_sub, kc_0, kc_1, kc_2, kc_3, kc_4, kc_5, reduceIte, Nat.reduceEqDiff, Nat.add_zero, rI_hold, rI_hold, rL_hold, hk, he67]; exact congrArg nI (by omega))) ?_
  refine Bod.ialdN (k + 1) rfl (by omega) (by omega) dc_336_36 (mk_68 _) ?_
  refine Bod.eqI (nI e68) (by first | (simp (disch := omega) only [rI, rIe, rA, rIA, rLA, rJA, rVI, rQI, rVA, rQA, upd_at,  rAI, rLI, rJI, nI_add, pk_sub, kc_0, kc_1, kc_2, kc_3, kc_4, kc_5, reduceIte, Nat.reduceEqDiff, Nat.add_zero, rI_hold, rI_hold, rL_hold, hk, he67, he68]; done) | (simp (disch := omega) only [rI, rIe, rA, rIA, rLA, rJA, rVI, rQI, rVA, rQA, upd_at,  rAI, rLI, rJI, nI_add, pk_sub, kc_0, kc_1, kc_2, kc_3, kc_4, kc_5, reduceIte, Nat.reduceEqDiff, Nat.add_zero, rI_hold, rI_hold, rL_hold, hk, he67, he68]; exact congrArg nI (by omega))) ?_
  refine Bod.istn dc_336_37 (by rw [ml_336]; exact Nat.le_of_ble_eq_true rfl) ?_
  refine Bod.go dc_336_38 rfl ?_
  refine Bod.get dc_336_39 fr_336_206 (mk_61 _) rfl ?_
  refine Bod.eqV (.ref m) (by first | exact hv1 | (simp only [rIV, rJV, rAV, rLV, rQV, rV, reduceIte, Nat.reduceEqDiff]; exact hv1)) ?_
  refine Bod.go dc_336_42 rfl ?_
  refine Bod.virt (r := []) dc_336_43 kr_336_368 ⟨Or.inl rfl, ow_337, cl_12⟩ (by rw [np_337]; rfl) (by rw [np_337]; rfl) (ob_of (mk_code hm (by first | exact hz2 | (simp only [rIS, rJS, rAS, rLS, rVS, rQS, rS_hold]; exact hz2)))) (Nat.le_of_ble_eq_true rfl) (c1  ) ?_
  show Bod _ _ _ _ [_] _ _ _
  refine Bod.ist dc_336_46 (by rw [ml_336]; exact Nat.le_of_ble_eq_true rfl) ?_
  refine Bod.go dc_336_48 rfl ?_
  refine Bod.go dc_336_49 rfl ?_
  refine Bod.get dc_336_50 fr_336_190 (mk_61 _) rfl ?_
  refine Bod.eqI (nI k1) (by first | (simp (disch := omega) only [rI, rIe, rA, rIA, rLA, rJA, rVI, rQI, rVA, rQA, upd_at,  rAI, rLI, rJI, nI_add, pk_sub, kc_0, kc_1, kc_2, kc_3, kc_4, kc_5, reduceIte, Nat.reduceEqDiff, Nat.add_zero, rI_hold, rI_hold, rL_hold, hk, he67, he68, hk1]; done) | (simp (disch := omega) only [rI, rIe, rA, rIA, rLA, rJA, rVI, rQI, rVA, rQA, upd_at,  rAI, rLI, rJI, nI_add, pk_sub, kc_0, kc_1, kc_2, kc_3, kc_4, kc_5, reduceIte, Nat.reduceEqDiff, Nat.add_zero, rI_hold, rI_hold, rL_hold, hk, he67, he68, hk1]; exact congrArg nI (by omega))) ?_
  refine Bod.ic 1 (by decide) dc_336_53 ?_
  refine Bod.addN (k1 + 1) (by omega) dc_336_54 ?_
  refine Bod.put dc_336_55 fr_336_190 (mk_61 _) (Nat.le_of_ble_eq_true rfl) pf_14_15 (st_6115 _ _) (mu_I _ _ _) ?_
  refine Bod.go dc_336_58 rfl ?_
  refine Bod.bip 40 (by decide) dc_336_59 ?_
  refine Bod.virt (r := []) dc_336_61 kr_336_270 ⟨Or.inl rfl, ow_323, cl_14⟩ (by rw [np_323]; rfl) (by rw [np_323]; rfl) (ob_of (mk_61 _)) (Nat.le_of_ble_eq_true rfl) (c2  ) ?_
  show Bod _ _ _ _ [_] _ _ _
  refine Bod.ifF dc_336_64 rfl (k1_ne_F (k_eq 0 0 rfl rfl (by omega))) ?_
  refine Bod.ic 0 (by decide) dc_336_67 ?_
  exact Bod.retZ dc_336_68 rt_336 (Or.inl rfl)
theorem zDf_4 {d : Nat} {S : cS} {la : Nat} {lb : Nat} {k : Nat} {e67 : Nat} {S1 : cS} (mla : la < 2 ^ 20) (mlb : lb < 2 ^ 20) (hk : sI S 6115 = nI k) (mk : k < 6001) (he67 : sA (wI 6115 (nI (k + 1)) S) 67 (k + 1) = nI e67) (me67 : e67 < 2 ^ 20) (b1 : e67 ≠ 1) (c1 : Ans (d + 8) 299 [.ref 61] (wI 6115 (nI (k + 1)) S) (some (.int (nI 0))) S1) : Bod (d + 8) 336 0 [(0, .ref 61), (1, .int (nI la)), (2, .int (nI lb))] [] S (some (.int 0)) (S1) := by
  refine Bod.go dc_336_0 rfl ?_
  refine Bod.go dc_336_1 rfl ?_
  refine Bod.get dc_336_2 fr_336_190 (mk_61 _) rfl ?_
  refine Bod.eqI (nI k) (by first | assumption | rfl | exact congrArg nI (by omega) | (simp (disch := omega) only [rI, rIe, rA, rIA, rLA, rJA, rVI, rQI, rVA, rQA, upd_at,  rAI, rLI, rJI, nI_add, pk_sub, kc_0, kc_1, kc_2, kc_3, kc_4, kc_5, reduceIte, Nat.reduceEqDiff, Nat.add_zero, rI_hold, rI_hold, rL_hold, hk]; done)) ?_
  refine Bod.ic 1 (by decide) dc_336_5 ?_
  refine Bod.addN (k + 1) (by omega) dc_336_6 ?_
  refine Bod.put dc_336_7 fr_336_190 (mk_61 _) (Nat.le_of_ble_eq_true rfl) pf_14_15 (st_6115 _ _) (mu_I _ _ _) ?_
  refine Bod.go dc_336_10 rfl ?_
  refine Bod.get dc_336_11 fr_336_129 (mk_61 _) rfl ?_
  refine Bod.go dc_336_14 rfl ?_
  refine Bod.get dc_336_15 fr_336_190 (mk_61 _) rfl ?_
  refine Bod.eqI (nI (k + 1)) (by first | (simp (disch := omega) only [rI, rIe, rA, rIA, rLA, rJA, rVI, rQI, rVA, rQA, upd_at,  rAI, rLI, rJI, nI_add, pk_sub, kc_0, kc_1, kc_2, kc_3, kc_4, kc_5, reduceIte, Nat.reduceEqDiff, Nat.add_zero, rI_hold, rI_hold, rL_hold, hk]; done) | (simp (disch := omega) only [rI, rIe, rA, rIA, rLA, rJA, rVI, rQI, rVA, rQA, upd_at,  rAI, rLI, rJI, nI_add, pk_sub, kc_0, kc_1, kc_2, kc_3, kc_4, kc_5, reduceIte, Nat.reduceEqDiff, Nat.add_zero, rI_hold, rI_hold, rL_hold, hk]; exact congrArg nI (by omega))) ?_
  refine Bod.ialdN (k + 1) rfl (by omega) (by omega) dc_336_18 (mk_67 _) ?_
  refine Bod.eqI (nI e67) (by first | (simp (disch := omega) only [rI, rIe, rA, rIA, rLA, rJA, rVI, rQI, rVA, rQA, upd_at,  rAI, rLI, rJI, nI_add, pk_sub, kc_0, kc_1, kc_2, kc_3, kc_4, kc_5, reduceIte, Nat.reduceEqDiff, Nat.add_zero, rI_hold, rI_hold, rL_hold, hk, he67]; done) | (simp (disch := omega) only [rI, rIe, rA, rIA, rLA, rJA, rVI, rQI, rVA, rQA, upd_at,  rAI, rLI, rJI, nI_add, pk_sub, kc_0, kc_1, kc_2, kc_3, kc_4, kc_5, reduceIte, Nat.reduceEqDiff, Nat.add_zero, rI_hold, rI_hold, rL_hold, hk, he67]; exact congrArg nI (by omega))) ?_
  refine Bod.ic 1 (by decide) dc_336_19 ?_
  refine Bod.icF dc_336_20 rfl (k2_eq_F (k_ne e67 1 rfl rfl (by omega) (by omega) (by omega))) ?_
  refine Bod.go dc_336_23 rfl ?_
  refine Bod.virt (r := []) dc_336_24 kr_336_202 ⟨Or.inl rfl, ow_299, cl_14⟩ (by rw [np_299]; rfl) (by rw [np_299]; rfl) (ob_of (mk_61 _)) (Nat.le_of_ble_eq_true rfl) (c1  ) ?_
  show Bod _ _ _ _ [_] _ _ _
  exact Bod.retZ dc_336_27 rt_336 (Or.inl rfl)
theorem zDp_1 {d : Nat} {S : cS} {lv : sm_L} {la : Nat} {lb : Nat} {lnm : Nat} {lf : Nat} {k : Nat} {e67 : Nat} {S1 : cS} (q0 : sm_get lv 0 = some (.ref 61)) (q1 : sm_get lv 1 = some (.int (nI la))) (q2 : sm_get lv 2 = some (.int (nI lb))) (q3 : sm_get lv 3 = some (.int (nI lnm))) (q4 : sm_get lv 4 = some (.int (nI lf))) (q5 : sm_get lv 5 = some (.int (nI 1))) (mla : la < 2 ^ 20) (mlb : lb < 2 ^ 20) (mlnm : lnm < 2 ^ 20) (mlf : lf < 2 ^ 20) (hk : sI S 6115 = nI k) (mk : k < 6001) (he67 : sA S 67 k = nI e67) (me67 : e67 < 2 ^ 20) (b1 : e67 ≠ 1) (c1 : Ans (d + 8) 299 [.ref 61] S (some (.int (nI 0))) S1) : Bod (d + 8) 336 131 lv [] S (some (.int 0)) (S1) := by
  refine Bod.ildG dc_336_131 (by repeat (first | exact q5 | exact sm_get_p1 | exact sm_get_p2e | refine sm_get_p1m (by decide) (by decide) ?_ | refine sm_get_p1n (by decide) rfl ?_ | refine sm_get_p2n (by decide) (by decide) rfl ?_)) ?_
  refine Bod.ifF dc_336_133 rfl (k1_eq_F (k_ne 1 0 rfl rfl (by omega) (by omega) (by omega))) ?_
  refine Bod.aldnG dc_336_136 (by repeat (first | exact q0 | exact sm_get_p1 | exact sm_get_p2e | refine sm_get_p1m (by decide) (by decide) ?_ | refine sm_get_p1n (by decide) rfl ?_ | refine sm_get_p2n (by decide) (by decide) rfl ?_)) ?_
  refine Bod.get dc_336_137 fr_336_129 (mk_61 _) rfl ?_
  refine Bod.aldnG dc_336_140 (by repeat (first | exact q0 | exact sm_get_p1 | exact sm_get_p2e | refine sm_get_p1m (by decide) (by decide) ?_ | refine sm_get_p1n (by decide) rfl ?_ | refine sm_get_p2n (by decide) (by decide) rfl ?_)) ?_
  refine Bod.get dc_336_141 fr_336_190 (mk_61 _) rfl ?_
  refine Bod.eqI (nI k) (by first | assumption | rfl | exact congrArg nI (by omega) | (simp (disch := omega) only [rI, rIe, rA, rIA, rLA, rJA, rVI, rQI, rVA, rQA, upd_at,  rAI, rLI, rJI, nI_add, pk_sub, kc_0, kc_1, kc_2, kc_3, kc_4, kc_5, reduceIte, Nat.reduceEqDiff, Nat.add_zero, rI_hold, rI_hold, rL_hold, hk]; done)) ?_
  refine Bod.ialdN k rfl (by omega) (by omega) dc_336_144 (mk_67 _) ?_
  refine Bod.eqI (nI e67) (by first | assumption | rfl | exact congrArg nI (by omega) | (simp (disch := omega) only [rI, rIe, rA, rIA, rLA, rJA, rVI, rQI, rVA, rQA, upd_at,  rAI, rLI, rJI, nI_add, pk_sub, kc_0, kc_1, kc_2, kc_3, kc_4, kc_5, reduceIte, Nat.reduceEqDiff, Nat.add_zero, rI_hold, rI_hold, rL_hold, hk, he67]; done)) ?_
  refine Bod.ic 1 (by decide) dc_336_145 ?_
  refine Bod.icT dc_336_146 rfl (k2_ne_T (k_ne e67 1 rfl rfl (by omega) (by omega) (by omega))) ?_
  refine Bod.aldnG dc_336_183 (by repeat (first | exact q0 | exact sm_get_p1 | exact sm_get_p2e | refine sm_get_p1m (by decide) (by decide) ?_ | refine sm_get_p1n (by decide) rfl ?_ | refine sm_get_p2n (by decide) (by decide) rfl ?_)) ?_
  refine Bod.virt (r := []) dc_336_184 kr_336_202 ⟨Or.inl rfl, ow_299, cl_14⟩ (by rw [np_299]; rfl) (by rw [np_299]; rfl) (ob_of (mk_61 _)) (Nat.le_of_ble_eq_true rfl) (c1  ) ?_
  show Bod _ _ _ _ [_] _ _ _
  exact Bod.retZ dc_336_187 rt_336 (Or.inl rfl)
theorem zDp_2 {d : Nat} {S : cS} {lv : sm_L} {la : Nat} {lb : Nat} {lnm : Nat} {lf : Nat} {k : Nat} {e67 : Nat} {F : Nat} {e76 : Nat} {S1 : cS} (q0 : sm_get lv 0 = some (.ref 61)) (q1 : sm_get lv 1 = some (.int (nI la))) (q2 : sm_get lv 2 = some (.int (nI lb))) (q3 : sm_get lv 3 = some (.int (nI lnm))) (q4 : sm_get lv 4 = some (.int (nI lf))) (q5 : sm_get lv 5 = some (.int (nI 1))) (mla : la < 2 ^ 20) (mlb : lb < 2 ^ 20) (mlnm : lnm < 2 ^ 20) (mlf : lf < 2 ^ 20) (hk : sI S 6115 = nI k) (mk : k < 6001) (he67 : sA S 67 k = nI e67) (me67 : e67 < 2 ^ 20) (b1 : e67 = 1) (hF : sI S 6122 = nI F) (mF : F < 15) (he76 : sA S 76 F = nI e76) (me76 : e76 < 2 ^ 20) (b2 : e76 = 8) (c1 : Ans (d + 8) 299 [.ref 61] S (some (.int (nI 0))) S1) : Bod (d + 8) 336 131 lv [] S (some (.int 0)) (S1) := by
  refine Bod.ildG dc_336_131 (by repeat (first | exact q5 | exact sm_get_p1 | exact sm_get_p2e | refine sm_get_p1m (by decide) (by decide) ?_ | refine sm_get_p1n (by decide) rfl ?_ | refine sm_get_p2n (by decide) (by decide) rfl ?_)) ?_
  refine Bod.ifF dc_336_133 rfl (k1_eq_F (k_ne 1 0 rfl rfl (by omega) (by omega) (by omega))) ?_
  refine Bod.aldnG dc_336_136 (by repeat (first | exact q0 | exact sm_get_p1 | exact sm_get_p2e | refine sm_get_p1m (by decide) (by decide) ?_ | refine sm_get_p1n (by decide) rfl ?_ | refine sm_get_p2n (by decide) (by decide) rfl ?_)) ?_
  refine Bod.get dc_336_137 fr_336_129 (mk_61 _) rfl ?_
  refine Bod.aldnG dc_336_140 (by repeat (first | exact q0 | exact sm_get_p1 | exact sm_get_p2e | refine sm_get_p1m (by decide) (by decide) ?_ | refine sm_get_p1n (by decide) rfl ?_ | refine sm_get_p2n (by decide) (by decide) rfl ?_)) ?_
  refine Bod.get dc_336_141 fr_336_190 (mk_61 _) rfl ?_
  refine Bod.eqI (nI k) (by first | assumption | rfl | exact congrArg nI (by omega) | (simp (disch := omega) only [rI, rIe, rA, rIA, rLA, rJA, rVI, rQI, rVA, rQA, upd_at,  rAI, rLI, rJI, nI_add, pk_sub, kc_0, kc_1, kc_2, kc_3, kc_4, kc_5, reduceIte, Nat.reduceEqDiff, Nat.add_zero, rI_hold, rI_hold, rL_hold, hk]; done)) ?_
  refine Bod.ialdN k rfl (by omega) (by omega) dc_336_144 (mk_67 _) ?_
  refine Bod.eqI (nI e67) (by first | assumption | rfl | exact congrArg nI (by omega) | (simp (disch := omega) only [rI, rIe, rA, rIA, rLA, rJA, rVI, rQI, rVA, rQA, upd_at,  rAI, rLI, rJI, nI_add, pk_sub, kc_0, kc_1, kc_2, kc_3, kc_4, kc_5, reduceIte, Nat.reduceEqDiff, Nat.add_zero, rI_hold, rI_hold, rL_hold, hk, he67]; done)) ?_
  refine Bod.ic 1 (by decide) dc_336_145 ?_
  refine Bod.icF dc_336_146 rfl (k2_ne_F (k_eq e67 1 rfl rfl (by omega))) ?_
  refine Bod.aldnG dc_336_149 (by repeat (first | exact q0 | exact sm_get_p1 | exact sm_get_p2e | refine sm_get_p1m (by decide) (by decide) ?_ | refine sm_get_p1n (by decide) rfl ?_ | refine sm_get_p2n (by decide) (by decide) rfl ?_)) ?_
  refine Bod.get dc_336_150 fr_336_344 (mk_61 _) rfl ?_
  refine Bod.aldnG dc_336_153 (by repeat (first | exact q0 | exact sm_get_p1 | exact sm_get_p2e | refine sm_get_p1m (by decide) (by decide) ?_ | refine sm_get_p1n (by decide) rfl ?_ | refine sm_get_p2n (by decide) (by decide) rfl ?_)) ?_
  refine Bod.get dc_336_154 fr_336_236 (mk_61 _) rfl ?_
  refine Bod.eqI (nI F) (by first | assumption | rfl | exact congrArg nI (by omega) | (simp (disch := omega) only [rI, rIe, rA, rIA, rLA, rJA, rVI, rQI, rVA, rQA, upd_at,  rAI, rLI, rJI, nI_add, pk_sub, kc_0, kc_1, kc_2, kc_3, kc_4, kc_5, reduceIte, Nat.reduceEqDiff, Nat.add_zero, rI_hold, rI_hold, rL_hold, hk, he67, hF]; done)) ?_
  refine Bod.ialdN F rfl (by omega) (by omega) dc_336_157 (mk_76 _) ?_
  refine Bod.eqI (nI e76) (by first | assumption | rfl | exact congrArg nI (by omega) | (simp (disch := omega) only [rI, rIe, rA, rIA, rLA, rJA, rVI, rQI, rVA, rQA, upd_at,  rAI, rLI, rJI, nI_add, pk_sub, kc_0, kc_1, kc_2, kc_3, kc_4, kc_5, reduceIte, Nat.reduceEqDiff, Nat.add_zero, rI_hold, rI_hold, rL_hold, hk, he67, hF, he76]; done)) ?_
  refine Bod.bip 8 (by decide) dc_336_158 ?_
  refine Bod.icT dc_336_160 rfl (k2_eq_T (k_eq e76 8 rfl rfl (by omega))) ?_
  refine Bod.aldnG dc_336_183 (by repeat (first | exact q0 | exact sm_get_p1 | exact sm_get_p2e | refine sm_get_p1m (by decide) (by decide) ?_ | refine sm_get_p1n (by decide) rfl ?_ | refine sm_get_p2n (by decide) (by decide) rfl ?_)) ?_
  refine Bod.virt (r := []) dc_336_184 kr_336_202 ⟨Or.inl rfl, ow_299, cl_14⟩ (by rw [np_299]; rfl) (by rw [np_299]; rfl) (ob_of (mk_61 _)) (Nat.le_of_ble_eq_true rfl) (c1  ) ?_
  show Bod _ _ _ _ [_] _ _ _
  exact Bod.retZ dc_336_187 rt_336 (Or.inl rfl)
theorem zDp_3 {d : Nat} {S : cS} {lv : sm_L} {la : Nat} {lb : Nat} {lnm : Nat} {lf : Nat} {k : Nat} {e67 : Nat} {F : Nat} {e76 : Nat} {e68 : Nat} {S1 : cS} {a : Nat} {S2 : cS} (q0 : sm_get lv 0 = some (.ref 61)) (q1 : sm_get lv 1 = some (.int (nI la))) (q2 : sm_get lv 2 = some (.int (nI lb))) (q3 : sm_get lv 3 = some (.int (nI lnm))) (q4 : sm_get lv 4 = some (.int (nI lf))) (q5 : sm_get lv 5 = some (.int (nI 1))) (mla : la < 2 ^ 20) (mlb : lb < 2 ^ 20) (mlnm : lnm < 2 ^ 20) (mlf : lf < 2 ^ 20) (hk : sI S 6115 = nI k) (mk : k < 6001) (he67 : sA S 67 k = nI e67) (me67 : e67 < 2 ^ 20) (b1 : e67 = 1) (hF : sI S 6122 = nI F) (mF : F < 15) (he76 : sA S 76 F = nI e76) (me76 : e76 < 2 ^ 20) (b2 : e76 ≠ 8) (he68 : sA S 68 k = nI e68) (me68 : e68 < 2 ^ 20) (ma : a < 2 ^ 20) (c1 : Ans (d + 8) 319 [.ref 61, .int (nI F), .int (nI e68)] S (some (.int (nI a))) S1) (c2 : Ans (d + 8) 299 [.ref 61] S1 (some (.int (nI 0))) S2) : Bod (d + 8) 336 131 lv [] S (some (.int 0)) (S2) := by
  refine Bod.ildG dc_336_131 (by repeat (first | exact q5 | exact sm_get_p1 | exact sm_get_p2e | refine sm_get_p1m (by decide) (by decide) ?_ | refine sm_get_p1n (by decide) rfl ?_ | refine sm_get_p2n (by decide) (by decide) rfl ?_)) ?_
  refine Bod.ifF dc_336_133 rfl (k1_eq_F (k_ne 1 0 rfl rfl (by omega) (by omega) (by omega))) ?_
  refine Bod.aldnG dc_336_136 (by repeat (first | exact q0 | exact sm_get_p1 | exact sm_get_p2e | refine sm_get_p1m (by decide) (by decide) ?_ | refine sm_get_p1n (by decide) rfl ?_ | refine sm_get_p2n (by decide) (by decide) rfl ?_)) ?_
  refine Bod.get dc_336_137 fr_336_129 (mk_61 _) rfl ?_
  refine Bod.aldnG dc_336_140 (by repeat (first | exact q0 | exact sm_get_p1 | exact sm_get_p2e | refine sm_get_p1m (by decide) (by decide) ?_ | refine sm_get_p1n (by decide) rfl ?_ | refine sm_get_p2n (by decide) (by decide) rfl ?_)) ?_
  refine Bod.get dc_336_141 fr_336_190 (mk_61 _) rfl ?_
  refine Bod.eqI (nI k) (by first | assumption | rfl | exact congrArg nI (by omega) | (simp (disch := omega) only [rI, rIe, rA, rIA, rLA, rJA, rVI, rQI, rVA, rQA, upd_at,  rAI, rLI, rJI, nI_add, pk_sub, kc_0, kc_1, kc_2, kc_3, kc_4, kc_5, reduceIte, Nat.reduceEqDiff, Nat.add_zero, rI_hold, rI_hold, rL_hold, hk]; done)) ?_
  refine Bod.ialdN k rfl (by omega) (by omega) dc_336_144 (mk_67 _) ?_
  refine Bod.eqI (nI e67) (by first | assumption | rfl | exact congrArg nI (by omega) | (simp (disch := omega) only [rI, rIe, rA, rIA, rLA, rJA, rVI, rQI, rVA, rQA, upd_at,  rAI, rLI, rJI, nI_add, pk_sub, kc_0, kc_1, kc_2, kc_3, kc_4, kc_5, reduceIte, Nat.reduceEqDiff, Nat.add_zero, rI_hold, rI_hold, rL_hold, hk, he67]; done)) ?_
  refine Bod.ic 1 (by decide) dc_336_145 ?_
  refine Bod.icF dc_336_146 rfl (k2_ne_F (k_eq e67 1 rfl rfl (by omega))) ?_
  refine Bod.aldnG dc_336_149 (by repeat (first | exact q0 | exact sm_get_p1 | exact sm_get_p2e | refine sm_get_p1m (by decide) (by decide) ?_ | refine sm_get_p1n (by decide) rfl ?_ | refine sm_get_p2n (by decide) (by decide) rfl ?_)) ?_
  refine Bod.get dc_336_150 fr_336_344 (mk_61 _) rfl ?_
  refine Bod.aldnG dc_336_153 (by repeat (first | exact q0 | exact sm_get_p1 | exact sm_get_p2e | refine sm_get_p1m (by decide) (by decide) ?_ | refine sm_get_p1n (by decide) rfl ?_ | refine sm_get_p2n (by decide) (by decide) rfl ?_)) ?_
  refine Bod.get dc_336_154 fr_336_236 (mk_61 _) rfl ?_
  refine Bod.eqI (nI F) (by first | assumption | rfl | exact congrArg nI (by omega) | (simp (disch := omega) only [rI, rIe, rA, rIA, rLA, rJA, rVI, rQI, rVA, rQA, upd_at,  rAI, rLI, rJI, nI_add, pk_sub, kc_0, kc_1, kc_2, kc_3, kc_4, kc_5, reduceIte, Nat.reduceEqDiff, Nat.add_zero, rI_hold, rI_hold, rL_hold, hk, he67, hF]; done)) ?_
  refine Bod.ialdN F rfl (by omega) (by omega) dc_336_157 (mk_76 _) ?_
  refine Bod.eqI (nI e76) (by first | assumption | rfl | exact congrArg nI (by omega) | (simp (disch := omega) only [rI, rIe, rA, rIA, rLA, rJA, rVI, rQI, rVA, rQA, upd_at,  rAI, rLI, rJI, nI_add, pk_sub, kc_0, kc_1, kc_2, kc_3, kc_4, kc_5, reduceIte, Nat.reduceEqDiff, Nat.add_zero, rI_hold, rI_hold, rL_hold, hk, he67, hF, he76]; done)) ?_
  refine Bod.bip 8 (by decide) dc_336_158 ?_
  refine Bod.icF dc_336_160 rfl (k2_eq_F (k_ne e76 8 rfl rfl (by omega) (by omega) (by omega))) ?_
  refine Bod.aldnG dc_336_163 (by repeat (first | exact q0 | exact sm_get_p1 | exact sm_get_p2e | refine sm_get_p1m (by decide) (by decide) ?_ | refine sm_get_p1n (by decide) rfl ?_ | refine sm_get_p2n (by decide) (by decide) rfl ?_)) ?_
  refine Bod.aldnG dc_336_164 (by repeat (first | exact q0 | exact sm_get_p1 | exact sm_get_p2e | refine sm_get_p1m (by decide) (by decide) ?_ | refine sm_get_p1n (by decide) rfl ?_ | refine sm_get_p2n (by decide) (by decide) rfl ?_)) ?_
  refine Bod.get dc_336_165 fr_336_236 (mk_61 _) rfl ?_
  refine Bod.eqI (nI F) (by first | assumption | rfl | exact congrArg nI (by omega) | (simp (disch := omega) only [rI, rIe, rA, rIA, rLA, rJA, rVI, rQI, rVA, rQA, upd_at,  rAI, rLI, rJI, nI_add, pk_sub, kc_0, kc_1, kc_2, kc_3, kc_4, kc_5, reduceIte, Nat.reduceEqDiff, Nat.add_zero, rI_hold, rI_hold, rL_hold, hk, he67, hF, he76]; done)) ?_
  refine Bod.aldnG dc_336_168 (by repeat (first | exact q0 | exact sm_get_p1 | exact sm_get_p2e | refine sm_get_p1m (by decide) (by decide) ?_ | refine sm_get_p1n (by decide) rfl ?_ | refine sm_get_p2n (by decide) (by decide) rfl ?_)) ?_
  refine Bod.get dc_336_169 fr_336_135 (mk_61 _) rfl ?_
  refine Bod.aldnG dc_336_172 (by repeat (first | exact q0 | exact sm_get_p1 | exact sm_get_p2e | refine sm_get_p1m (by decide) (by decide) ?_ | refine sm_get_p1n (by decide) rfl ?_ | refine sm_get_p2n (by decide) (by decide) rfl ?_)) ?_
  refine Bod.get dc_336_173 fr_336_190 (mk_61 _) rfl ?_
  refine Bod.eqI (nI k) (by first | assumption | rfl | exact congrArg nI (by omega) | (simp (disch := omega) only [rI, rIe, rA, rIA, rLA, rJA, rVI, rQI, rVA, rQA, upd_at,  rAI, rLI, rJI, nI_add, pk_sub, kc_0, kc_1, kc_2, kc_3, kc_4, kc_5, reduceIte, Nat.reduceEqDiff, Nat.add_zero, rI_hold, rI_hold, rL_hold, hk, he67, hF, he76]; done)) ?_
  refine Bod.ialdN k rfl (by omega) (by omega) dc_336_176 (mk_68 _) ?_
  refine Bod.eqI (nI e68) (by first | assumption | rfl | exact congrArg nI (by omega) | (simp (disch := omega) only [rI, rIe, rA, rIA, rLA, rJA, rVI, rQI, rVA, rQA, upd_at,  rAI, rLI, rJI, nI_add, pk_sub, kc_0, kc_1, kc_2, kc_3, kc_4, kc_5, reduceIte, Nat.reduceEqDiff, Nat.add_zero, rI_hold, rI_hold, rL_hold, hk, he67, hF, he76, he68]; done)) ?_
  refine Bod.virt (r := []) dc_336_177 kr_336_353 ⟨Or.inl rfl, ow_319, cl_14⟩ (by rw [np_319]; rfl) (by rw [np_319]; rfl) (ob_of (mk_61 _)) (Nat.le_of_ble_eq_true rfl) (c1  ) ?_
  show Bod _ _ _ _ [_] _ _ _
  refine Bod.ifF dc_336_180 rfl (k1_lt_F a rfl (by omega)) ?_
  refine Bod.aldnG dc_336_183 (by repeat (first | exact q0 | exact sm_get_p1 | exact sm_get_p2e | refine sm_get_p1m (by decide) (by decide) ?_ | refine sm_get_p1n (by decide) rfl ?_ | refine sm_get_p2n (by decide) (by decide) rfl ?_)) ?_
  refine Bod.virt (r := []) dc_336_184 kr_336_202 ⟨Or.inl rfl, ow_299, cl_14⟩ (by rw [np_299]; rfl) (by rw [np_299]; rfl) (ob_of (mk_61 _)) (Nat.le_of_ble_eq_true rfl) (c2  ) ?_
  show Bod _ _ _ _ [_] _ _ _
  exact Bod.retZ dc_336_187 rt_336 (Or.inl rfl)
theorem zDp_4 {d : Nat} {S Sf : cS} {v : Option Value} {lv : sm_L} {la : Nat} {lb : Nat} {lnm : Nat} {lf : Nat} {k : Nat} {e67 : Nat} {F : Nat} {e76 : Nat} {e68 : Nat} {S1 : cS} {nl : Nat} {k1 : Nat} {e681 : Nat} {F1 : Nat} {e761 : Nat} {S2 : cS} {k2 : Nat} (q0 : sm_get lv 0 = some (.ref 61)) (q1 : sm_get lv 1 = some (.int (nI la))) (q2 : sm_get lv 2 = some (.int (nI lb))) (q3 : sm_get lv 3 = some (.int (nI lnm))) (q4 : sm_get lv 4 = some (.int (nI lf))) (q5 : sm_get lv 5 = some (.int (nI 1))) (mla : la < 2 ^ 20) (mlb : lb < 2 ^ 20) (mlnm : lnm < 2 ^ 20) (mlf : lf < 2 ^ 20) (hk : sI S 6115 = nI k) (mk : k < 6001) (he67 : sA S 67 k = nI e67) (me67 : e67 < 2 ^ 20) (b1 : e67 = 1) (hF : sI S 6122 = nI F) (mF : F < 15) (he76 : sA S 76 F = nI e76) (me76 : e76 < 2 ^ 20) (b2 : e76 ≠ 8) (he68 : sA S 68 k = nI e68) (me68 : e68 < 2 ^ 20) (c1 : Ans (d + 8) 319 [.ref 61, .int (nI F), .int (nI e68)] S (some (.int (Int32.ofInt (-1)))) S1) (hnl : sI S1 6123 = nI nl) (mnl : nl < 6000) (hk1 : sI S1 6115 = nI k1) (mk1 : k1 < 6001) (he681 : sA S1 68 k1 = nI e681) (me681 : e681 < 2 ^ 20) (hF1 : sI (wI 6123 (nI (nl + 1)) (wA 74 nl (nI e681) S1)) 6122 = nI F1) (mF1 : F1 < 15) (he761 : sA (wI 6123 (nI (nl + 1)) (wA 74 nl (nI e681) S1)) 76 F1 = nI e761) (me761 : e761 < 2 ^ 20) (c2 : Ans (d + 8) 314 [.ref 61, .int (nI 44)] (wI 6115 (nI (k1 + 1)) (wA 76 F1 (nI (e761 + 1)) (wI 6123 (nI (nl + 1)) (wA 74 nl (nI e681) S1)))) (some (.int (nI 1))) S2) (hk2 : sI S2 6115 = nI k2) (mk2 : k2 < 6001) (hB : ∀ lv1 : sm_L, sm_get lv1 0 = some (.ref 61) → sm_get lv1 1 = some (.int (nI la)) → sm_get lv1 2 = some (.int (nI lb)) → sm_get lv1 3 = some (.int (nI lnm)) → sm_get lv1 4 = some (.int (nI lf)) → sm_get lv1 5 = some (.int (nI 1)) → Bod (d + 8) 336 131 lv1 [] (wI 6115 (nI (k2 + 1)) S2) v Sf) : Bod (d + 8) 336 131 lv [] S v Sf := by
  refine Bod.ildG dc_336_131 (by repeat (first | exact q5 | exact sm_get_p1 | exact sm_get_p2e | refine sm_get_p1m (by decide) (by decide) ?_ | refine sm_get_p1n (by decide) rfl ?_ | refine sm_get_p2n (by decide) (by decide) rfl ?_)) ?_
  refine Bod.ifF dc_336_133 rfl (k1_eq_F (k_ne 1 0 rfl rfl (by omega) (by omega) (by omega))) ?_
  refine Bod.aldnG dc_336_136 (by repeat (first | exact q0 | exact sm_get_p1 | exact sm_get_p2e | refine sm_get_p1m (by decide) (by decide) ?_ | refine sm_get_p1n (by decide) rfl ?_ | refine sm_get_p2n (by decide) (by decide) rfl ?_)) ?_
  refine Bod.get dc_336_137 fr_336_129 (mk_61 _) rfl ?_
  refine Bod.aldnG dc_336_140 (by repeat (first | exact q0 | exact sm_get_p1 | exact sm_get_p2e | refine sm_get_p1m (by decide) (by decide) ?_ | refine sm_get_p1n (by decide) rfl ?_ | refine sm_get_p2n (by decide) (by decide) rfl ?_)) ?_
  refine Bod.get dc_336_141 fr_336_190 (mk_61 _) rfl ?_
  refine Bod.eqI (nI k) (by first | assumption | rfl | exact congrArg nI (by omega) | (simp (disch := omega) only [rI, rIe, rA, rIA, rLA, rJA, rVI, rQI, rVA, rQA, upd_at,  rAI, rLI, rJI, nI_add, pk_sub, kc_0, kc_1, kc_2, kc_3, kc_4, kc_5, reduceIte, Nat.reduceEqDiff, Nat.add_zero, rI_hold, rI_hold, rL_hold, hk]; done)) ?_
  refine Bod.ialdN k rfl (by omega) (by omega) dc_336_144 (mk_67 _) ?_
  refine Bod.eqI (nI e67) (by first | assumption | rfl | exact congrArg nI (by omega) | (simp (disch := omega) only [rI, rIe, rA, rIA, rLA, rJA, rVI, rQI, rVA, rQA, upd_at,  rAI, rLI, rJI, nI_add, pk_sub, kc_0, kc_1, kc_2, kc_3, kc_4, kc_5, reduceIte, Nat.reduceEqDiff, Nat.add_zero, rI_hold, rI_hold, rL_hold, hk, he67]; done)) ?_
  refine Bod.ic 1 (by decide) dc_336_145 ?_
  refine Bod.icF dc_336_146 rfl (k2_ne_F (k_eq e67 1 rfl rfl (by omega))) ?_
  refine Bod.aldnG dc_336_149 (by repeat (first | exact q0 | exact sm_get_p1 | exact sm_get_p2e | refine sm_get_p1m (by decide) (by decide) ?_ | refine sm_get_p1n (by decide) rfl ?_ | refine sm_get_p2n (by decide) (by decide) rfl ?_)) ?_
  refine Bod.get dc_336_150 fr_336_344 (mk_61 _) rfl ?_
  refine Bod.aldnG dc_336_153 (by repeat (first | exact q0 | exact sm_get_p1 | exact sm_get_p2e | refine sm_get_p1m (by decide) (by decide) ?_ | refine sm_get_p1n (by decide) rfl ?_ | refine sm_get_p2n (by decide) (by decide) rfl ?_)) ?_
  refine Bod.get dc_336_154 fr_336_236 (mk_61 _) rfl ?_
  refine Bod.eqI (nI F) (by first | assumption | rfl | exact congrArg nI (by omega) | (simp (disch := omega) only [rI, rIe, rA, rIA, rLA, rJA, rVI, rQI, rVA, rQA, upd_at,  rAI, rLI, rJI, nI_add, pk_sub, kc_0, kc_1, kc_2, kc_3, kc_4, kc_5, reduceIte, Nat.reduceEqDiff, Nat.add_zero, rI_hold, rI_hold, rL_hold, hk, he67, hF]; done)) ?_
  refine Bod.ialdN F rfl (by omega) (by omega) dc_336_157 (mk_76 _) ?_
  refine Bod.eqI (nI e76) (by first | assumption | rfl | exact congrArg nI (by omega) | (simp (disch := omega) only [rI, rIe, rA, rIA, rLA, rJA, rVI, rQI, rVA, rQA, upd_at,  rAI, rLI, rJI, nI_add, pk_sub, kc_0, kc_1, kc_2, kc_3, kc_4, kc_5, reduceIte, Nat.reduceEqDiff, Nat.add_zero, rI_hold, rI_hold, rL_hold, hk, he67, hF, he76]; done)) ?_
  refine Bod.bip 8 (by decide) dc_336_158 ?_
  refine Bod.icF dc_336_160 rfl (k2_eq_F (k_ne e76 8 rfl rfl (by omega) (by omega) (by omega))) ?_
  refine Bod.aldnG dc_336_163 (by repeat (first | exact q0 | exact sm_get_p1 | exact sm_get_p2e | refine sm_get_p1m (by decide) (by decide) ?_ | refine sm_get_p1n (by decide) rfl ?_ | refine sm_get_p2n (by decide) (by decide) rfl ?_)) ?_
  refine Bod.aldnG dc_336_164 (by repeat (first | exact q0 | exact sm_get_p1 | exact sm_get_p2e | refine sm_get_p1m (by decide) (by decide) ?_ | refine sm_get_p1n (by decide) rfl ?_ | refine sm_get_p2n (by decide) (by decide) rfl ?_)) ?_
  refine Bod.get dc_336_165 fr_336_236 (mk_61 _) rfl ?_
  refine Bod.eqI (nI F) (by first | assumption | rfl | exact congrArg nI (by omega) | (simp (disch := omega) only [rI, rIe, rA, rIA, rLA, rJA, rVI, rQI, rVA, rQA, upd_at,  rAI, rLI, rJI, nI_add, pk_sub, kc_0, kc_1, kc_2, kc_3, kc_4, kc_5, reduceIte, Nat.reduceEqDiff, Nat.add_zero, rI_hold, rI_hold, rL_hold, hk, he67, hF, he76]; done)) ?_
  refine Bod.aldnG dc_336_168 (by repeat (first | exact q0 | exact sm_get_p1 | exact sm_get_p2e | refine sm_get_p1m (by decide) (by decide) ?_ | refine sm_get_p1n (by decide) rfl ?_ | refine sm_get_p2n (by decide) (by decide) rfl ?_)) ?_
  refine Bod.get dc_336_169 fr_336_135 (mk_61 _) rfl ?_
  refine Bod.aldnG dc_336_172 (by repeat (first | exact q0 | exact sm_get_p1 | exact sm_get_p2e | refine sm_get_p1m (by decide) (by decide) ?_ | refine sm_get_p1n (by decide) rfl ?_ | refine sm_get_p2n (by decide) (by decide) rfl ?_)) ?_
  refine Bod.get dc_336_173 fr_336_190 (mk_61 _) rfl ?_
  refine Bod.eqI (nI k) (by first | assumption | rfl | exact congrArg nI (by omega) | (simp (disch := omega) only [rI, rIe, rA, rIA, rLA, rJA, rVI, rQI, rVA, rQA, upd_at,  rAI, rLI, rJI, nI_add, pk_sub, kc_0, kc_1, kc_2, kc_3, kc_4, kc_5, reduceIte, Nat.reduceEqDiff, Nat.add_zero, rI_hold, rI_hold, rL_hold, hk, he67, hF, he76]; done)) ?_
  refine Bod.ialdN k rfl (by omega) (by omega) dc_336_176 (mk_68 _) ?_
  refine Bod.eqI (nI e68) (by first | assumption | rfl | exact congrArg nI (by omega) | (simp (disch := omega) only [rI, rIe, rA, rIA, rLA, rJA, rVI, rQI, rVA, rQA, upd_at,  rAI, rLI, rJI, nI_add, pk_sub, kc_0, kc_1, kc_2, kc_3, kc_4, kc_5, reduceIte, Nat.reduceEqDiff, Nat.add_zero, rI_hold, rI_hold, rL_hold, hk, he67, hF, he76, he68]; done)) ?_
  refine Bod.virt (r := []) dc_336_177 kr_336_353 ⟨Or.inl rfl, ow_319, cl_14⟩ (by rw [np_319]; rfl) (by rw [np_319]; rfl) (ob_of (mk_61 _)) (Nat.le_of_ble_eq_true rfl) (c1  ) ?_
  show Bod _ _ _ _ [_] _ _ _
  refine Bod.ifT dc_336_180 rfl (by decide) ?_
  refine Bod.aldnG dc_336_188 (by repeat (first | exact q0 | exact sm_get_p1 | exact sm_get_p2e | refine sm_get_p1m (by decide) (by decide) ?_ | refine sm_get_p1n (by decide) rfl ?_ | refine sm_get_p2n (by decide) (by decide) rfl ?_)) ?_
  refine Bod.get dc_336_189 fr_336_347 (mk_61 _) rfl ?_
  refine Bod.aldnG dc_336_192 (by repeat (first | exact q0 | exact sm_get_p1 | exact sm_get_p2e | refine sm_get_p1m (by decide) (by decide) ?_ | refine sm_get_p1n (by decide) rfl ?_ | refine sm_get_p2n (by decide) (by decide) rfl ?_)) ?_
  refine Bod.get dc_336_193 fr_336_239 (mk_61 _) rfl ?_
  refine Bod.eqI (nI nl) (by first | (simp (disch := omega) only [rI, rIe, rA, rIA, rLA, rJA, rVI, rQI, rVA, rQA, upd_at,  rAI, rLI, rJI, nI_add, pk_sub, kc_0, kc_1, kc_2, kc_3, kc_4, kc_5, reduceIte, Nat.reduceEqDiff, Nat.add_zero, rI_hold, rI_hold, rL_hold, hk, he67, hF, he76, he68, hnl]; done) | (simp (disch := omega) only [rI, rIe, rA, rIA, rLA, rJA, rVI, rQI, rVA, rQA, upd_at,  rAI, rLI, rJI, nI_add, pk_sub, kc_0, kc_1, kc_2, kc_3, kc_4, kc_5, reduceIte, Nat.reduceEqDiff, Nat.add_zero, rI_hold, rI_hold, rL_hold, hk, he67, hF, he76, he68, hnl]; exact congrArg nI (by omega))) ?_
  refine Bod.aldnG dc_336_196 (by repeat (first | exact q0 | exact sm_get_p1 | exact sm_get_p2e | refine sm_get_p1m (by decide) (by decide) ?_ | refine sm_get_p1n (by decide) rfl ?_ | refine sm_get_p2n (by decide) (by decide) rfl ?_)) ?_
  refine Bod.get dc_336_197 fr_336_135 (mk_61 _) rfl ?_
  refine Bod.aldnG dc_336_200 (by repeat (first | exact q0 | exact sm_get_p1 | exact sm_get_p2e | refine sm_get_p1m (by decide) (by decide) ?_ | refine sm_get_p1n (by decide) rfl ?_ | refine sm_get_p2n (by decide) (by decide) rfl ?_)) ?_
  refine Bod.get dc_336_201 fr_336_190 (mk_61 _) rfl ?_
  refine Bod.eqI (nI k1) (by first | (simp (disch := omega) only [rI, rIe, rA, rIA, rLA, rJA, rVI, rQI, rVA, rQA, upd_at,  rAI, rLI, rJI, nI_add, pk_sub, kc_0, kc_1, kc_2, kc_3, kc_4, kc_5, reduceIte, Nat.reduceEqDiff, Nat.add_zero, rI_hold, rI_hold, rL_hold, hk, he67, hF, he76, he68, hnl, hk1]; done) | (simp (disch := omega) only [rI, rIe, rA, rIA, rLA, rJA, rVI, rQI, rVA, rQA, upd_at,  rAI, rLI, rJI, nI_add, pk_sub, kc_0, kc_1, kc_2, kc_3, kc_4, kc_5, reduceIte, Nat.reduceEqDiff, Nat.add_zero, rI_hold, rI_hold, rL_hold, hk, he67, hF, he76, he68, hnl, hk1]; exact congrArg nI (by omega))) ?_
  refine Bod.ialdN k1 rfl (by omega) (by omega) dc_336_204 (mk_68 _) ?_
  refine Bod.eqI (nI e681) (by first | (simp (disch := omega) only [rI, rIe, rA, rIA, rLA, rJA, rVI, rQI, rVA, rQA, upd_at,  rAI, rLI, rJI, nI_add, pk_sub, kc_0, kc_1, kc_2, kc_3, kc_4, kc_5, reduceIte, Nat.reduceEqDiff, Nat.add_zero, rI_hold, rI_hold, rL_hold, hk, he67, hF, he76, he68, hnl, hk1, he681]; done) | (simp (disch := omega) only [rI, rIe, rA, rIA, rLA, rJA, rVI, rQI, rVA, rQA, upd_at,  rAI, rLI, rJI, nI_add, pk_sub, kc_0, kc_1, kc_2, kc_3, kc_4, kc_5, reduceIte, Nat.reduceEqDiff, Nat.add_zero, rI_hold, rI_hold, rL_hold, hk, he67, hF, he76, he68, hnl, hk1, he681]; exact congrArg nI (by omega))) ?_
  refine Bod.iastN nl rfl (by omega) (by omega) dc_336_205 (mk_74 _) (sa_74 _ _ _) (mu_A _ _ _ _) ?_
  refine Bod.aldnG dc_336_206 (by repeat (first | exact q0 | exact sm_get_p1 | exact sm_get_p2e | refine sm_get_p1m (by decide) (by decide) ?_ | refine sm_get_p1n (by decide) rfl ?_ | refine sm_get_p2n (by decide) (by decide) rfl ?_)) ?_
  refine Bod.go dc_336_207 rfl ?_
  refine Bod.get dc_336_208 fr_336_239 (mk_61 _) rfl ?_
  refine Bod.eqI (nI nl) (by first | (simp (disch := omega) only [rI, rIe, rA, rIA, rLA, rJA, rVI, rQI, rVA, rQA, upd_at,  rAI, rLI, rJI, nI_add, pk_sub, kc_0, kc_1, kc_2, kc_3, kc_4, kc_5, reduceIte, Nat.reduceEqDiff, Nat.add_zero, rI_hold, rI_hold, rL_hold, hk, he67, hF, he76, he68, hnl, hk1, he681]; done) | (simp (disch := omega) only [rI, rIe, rA, rIA, rLA, rJA, rVI, rQI, rVA, rQA, upd_at,  rAI, rLI, rJI, nI_add, pk_sub, kc_0, kc_1, kc_2, kc_3, kc_4, kc_5, reduceIte, Nat.reduceEqDiff, Nat.add_zero, rI_hold, rI_hold, rL_hold, hk, he67, hF, he76, he68, hnl, hk1, he681]; exact congrArg nI (by omega))) ?_
  refine Bod.ic 1 (by decide) dc_336_211 ?_
  refine Bod.addN (nl + 1) (by omega) dc_336_212 ?_
  refine Bod.put dc_336_213 fr_336_239 (mk_61 _) (Nat.le_of_ble_eq_true rfl) pf_14_23 (st_6123 _ _) (mu_I _ _ _) ?_
  refine Bod.aldnG dc_336_216 (by repeat (first | exact q0 | exact sm_get_p1 | exact sm_get_p2e | refine sm_get_p1m (by decide) (by decide) ?_ | refine sm_get_p1n (by decide) rfl ?_ | refine sm_get_p2n (by decide) (by decide) rfl ?_)) ?_
  refine Bod.get dc_336_217 fr_336_344 (mk_61 _) rfl ?_
  refine Bod.aldnG dc_336_220 (by repeat (first | exact q0 | exact sm_get_p1 | exact sm_get_p2e | refine sm_get_p1m (by decide) (by decide) ?_ | refine sm_get_p1n (by decide) rfl ?_ | refine sm_get_p2n (by decide) (by decide) rfl ?_)) ?_
  refine Bod.get dc_336_221 fr_336_236 (mk_61 _) rfl ?_
  refine Bod.eqI (nI F1) (by first | (simp (disch := omega) only [rI, rIe, rA, rIA, rLA, rJA, rVI, rQI, rVA, rQA, upd_at,  rAI, rLI, rJI, nI_add, pk_sub, kc_0, kc_1, kc_2, kc_3, kc_4, kc_5, reduceIte, Nat.reduceEqDiff, Nat.add_zero, rI_hold, rI_hold, rL_hold, hk, he67, hF, he76, he68, hnl, hk1, he681, hF1]; done) | (simp (disch := omega) only [rI, rIe, rA, rIA, rLA, rJA, rVI, rQI, rVA, rQA, upd_at,  rAI, rLI, rJI, nI_add, pk_sub, kc_0, kc_1, kc_2, kc_3, kc_4, kc_5, reduceIte, Nat.reduceEqDiff, Nat.add_zero, rI_hold, rI_hold, rL_hold, hk, he67, hF, he76, he68, hnl, hk1, he681, hF1]; exact congrArg nI (by omega))) ?_
  refine Bod.go dc_336_224 rfl ?_
  refine Bod.ialdN F1 rfl (by omega) (by omega) dc_336_225 (mk_76 _) ?_
  refine Bod.eqI (nI e761) (by first | (simp (disch := omega) only [rI, rIe, rA, rIA, rLA, rJA, rVI, rQI, rVA, rQA, upd_at,  rAI, rLI, rJI, nI_add, pk_sub, kc_0, kc_1, kc_2, kc_3, kc_4, kc_5, reduceIte, Nat.reduceEqDiff, Nat.add_zero, rI_hold, rI_hold, rL_hold, hk, he67, hF, he76, he68, hnl, hk1, he681, hF1, he761]; done) | (simp (disch := omega) only [rI, rIe, rA, rIA, rLA, rJA, rVI, rQI, rVA, rQA, upd_at,  rAI, rLI, rJI, nI_add, pk_sub, kc_0, kc_1, kc_2, kc_3, kc_4, kc_5, reduceIte, Nat.reduceEqDiff, Nat.add_zero, rI_hold, rI_hold, rL_hold, hk, he67, hF, he76, he68, hnl, hk1, he681, hF1, he761]; exact congrArg nI (by omega))) ?_
  refine Bod.ic 1 (by decide) dc_336_226 ?_
  refine Bod.addN (e761 + 1) (by omega) dc_336_227 ?_
  refine Bod.iastN F1 rfl (by omega) (by omega) dc_336_228 (mk_76 _) (sa_76 _ _ _) (mu_A _ _ _ _) ?_
  refine Bod.aldnG dc_336_229 (by repeat (first | exact q0 | exact sm_get_p1 | exact sm_get_p2e | refine sm_get_p1m (by decide) (by decide) ?_ | refine sm_get_p1n (by decide) rfl ?_ | refine sm_get_p2n (by decide) (by decide) rfl ?_)) ?_
  refine Bod.go dc_336_230 rfl ?_
  refine Bod.get dc_336_231 fr_336_190 (mk_61 _) rfl ?_
  refine Bod.eqI (nI k1) (by first | (simp (disch := omega) only [rI, rIe, rA, rIA, rLA, rJA, rVI, rQI, rVA, rQA, upd_at,  rAI, rLI, rJI, nI_add, pk_sub, kc_0, kc_1, kc_2, kc_3, kc_4, kc_5, reduceIte, Nat.reduceEqDiff, Nat.add_zero, rI_hold, rI_hold, rL_hold, hk, he67, hF, he76, he68, hnl, hk1, he681, hF1, he761]; done) | (simp (disch := omega) only [rI, rIe, rA, rIA, rLA, rJA, rVI, rQI, rVA, rQA, upd_at,  rAI, rLI, rJI, nI_add, pk_sub, kc_0, kc_1, kc_2, kc_3, kc_4, kc_5, reduceIte, Nat.reduceEqDiff, Nat.add_zero, rI_hold, rI_hold, rL_hold, hk, he67, hF, he76, he68, hnl, hk1, he681, hF1, he761]; exact congrArg nI (by omega))) ?_
  refine Bod.ic 1 (by decide) dc_336_234 ?_
  refine Bod.addN (k1 + 1) (by omega) dc_336_235 ?_
  refine Bod.put dc_336_236 fr_336_190 (mk_61 _) (Nat.le_of_ble_eq_true rfl) pf_14_15 (st_6115 _ _) (mu_I _ _ _) ?_
  refine Bod.aldnG dc_336_239 (by repeat (first | exact q0 | exact sm_get_p1 | exact sm_get_p2e | refine sm_get_p1m (by decide) (by decide) ?_ | refine sm_get_p1n (by decide) rfl ?_ | refine sm_get_p2n (by decide) (by decide) rfl ?_)) ?_
  refine Bod.bip 44 (by decide) dc_336_240 ?_
  refine Bod.virt (r := []) dc_336_242 kr_336_199 ⟨Or.inl rfl, ow_314, cl_14⟩ (by rw [np_314]; rfl) (by rw [np_314]; rfl) (ob_of (mk_61 _)) (Nat.le_of_ble_eq_true rfl) (c2  ) ?_
  show Bod _ _ _ _ [_] _ _ _
  refine Bod.ist dc_336_245 (by rw [ml_336]; exact Nat.le_of_ble_eq_true rfl) ?_
  refine Bod.ildG dc_336_247 (by repeat (first | exact q0 | exact sm_get_p1 | exact sm_get_p2e | refine sm_get_p1m (by decide) (by decide) ?_ | refine sm_get_p1n (by decide) rfl ?_ | refine sm_get_p2n (by decide) (by decide) rfl ?_)) ?_
  refine Bod.ifF dc_336_249 rfl (k1_eq_F (k_ne 1 0 rfl rfl (by omega) (by omega) (by omega))) ?_
  refine Bod.aldnG dc_336_252 (by repeat (first | exact q0 | exact sm_get_p1 | exact sm_get_p2e | refine sm_get_p1m (by decide) (by decide) ?_ | refine sm_get_p1n (by decide) rfl ?_ | refine sm_get_p2n (by decide) (by decide) rfl ?_)) ?_
  refine Bod.go dc_336_253 rfl ?_
  refine Bod.get dc_336_254 fr_336_190 (mk_61 _) rfl ?_
  refine Bod.eqI (nI k2) (by first | (simp (disch := omega) only [rI, rIe, rA, rIA, rLA, rJA, rVI, rQI, rVA, rQA, upd_at,  rAI, rLI, rJI, nI_add, pk_sub, kc_0, kc_1, kc_2, kc_3, kc_4, kc_5, reduceIte, Nat.reduceEqDiff, Nat.add_zero, rI_hold, rI_hold, rL_hold, hk, he67, hF, he76, he68, hnl, hk1, he681, hF1, he761, hk2]; done) | (simp (disch := omega) only [rI, rIe, rA, rIA, rLA, rJA, rVI, rQI, rVA, rQA, upd_at,  rAI, rLI, rJI, nI_add, pk_sub, kc_0, kc_1, kc_2, kc_3, kc_4, kc_5, reduceIte, Nat.reduceEqDiff, Nat.add_zero, rI_hold, rI_hold, rL_hold, hk, he67, hF, he76, he68, hnl, hk1, he681, hF1, he761, hk2]; exact congrArg nI (by omega))) ?_
  refine Bod.ic 1 (by decide) dc_336_257 ?_
  refine Bod.addN (k2 + 1) (by omega) dc_336_258 ?_
  refine Bod.put dc_336_259 fr_336_190 (mk_61 _) (Nat.le_of_ble_eq_true rfl) pf_14_15 (st_6115 _ _) (mu_I _ _ _) ?_
  refine Bod.go dc_336_262 rfl ?_
  exact hB _ (by repeat (first | exact q0 | exact sm_get_p1 | exact sm_get_p2e | refine sm_get_p1m (by decide) (by decide) ?_ | refine sm_get_p1n (by decide) rfl ?_ | refine sm_get_p2n (by decide) (by decide) rfl ?_)) (by repeat (first | exact q1 | exact sm_get_p1 | exact sm_get_p2e | refine sm_get_p1m (by decide) (by decide) ?_ | refine sm_get_p1n (by decide) rfl ?_ | refine sm_get_p2n (by decide) (by decide) rfl ?_)) (by repeat (first | exact q2 | exact sm_get_p1 | exact sm_get_p2e | refine sm_get_p1m (by decide) (by decide) ?_ | refine sm_get_p1n (by decide) rfl ?_ | refine sm_get_p2n (by decide) (by decide) rfl ?_)) (by repeat (first | exact q3 | exact sm_get_p1 | exact sm_get_p2e | refine sm_get_p1m (by decide) (by decide) ?_ | refine sm_get_p1n (by decide) rfl ?_ | refine sm_get_p2n (by decide) (by decide) rfl ?_)) (by repeat (first | exact q4 | exact sm_get_p1 | exact sm_get_p2e | refine sm_get_p1m (by decide) (by decide) ?_ | refine sm_get_p1n (by decide) rfl ?_ | refine sm_get_p2n (by decide) (by decide) rfl ?_)) (by repeat (first | exact q0 | exact sm_get_p1 | exact sm_get_p2e | refine sm_get_p1m (by decide) (by decide) ?_ | refine sm_get_p1n (by decide) rfl ?_ | refine sm_get_p2n (by decide) (by decide) rfl ?_))
theorem zDp_5 {d : Nat} {S Sf : cS} {v : Option Value} {lv : sm_L} {la : Nat} {lb : Nat} {lnm : Nat} {lf : Nat} {k : Nat} {e67 : Nat} {F : Nat} {e76 : Nat} {e68 : Nat} {S1 : cS} {nl : Nat} {k1 : Nat} {e681 : Nat} {F1 : Nat} {e761 : Nat} {S2 : cS} (q0 : sm_get lv 0 = some (.ref 61)) (q1 : sm_get lv 1 = some (.int (nI la))) (q2 : sm_get lv 2 = some (.int (nI lb))) (q3 : sm_get lv 3 = some (.int (nI lnm))) (q4 : sm_get lv 4 = some (.int (nI lf))) (q5 : sm_get lv 5 = some (.int (nI 1))) (mla : la < 2 ^ 20) (mlb : lb < 2 ^ 20) (mlnm : lnm < 2 ^ 20) (mlf : lf < 2 ^ 20) (hk : sI S 6115 = nI k) (mk : k < 6001) (he67 : sA S 67 k = nI e67) (me67 : e67 < 2 ^ 20) (b1 : e67 = 1) (hF : sI S 6122 = nI F) (mF : F < 15) (he76 : sA S 76 F = nI e76) (me76 : e76 < 2 ^ 20) (b2 : e76 ≠ 8) (he68 : sA S 68 k = nI e68) (me68 : e68 < 2 ^ 20) (c1 : Ans (d + 8) 319 [.ref 61, .int (nI F), .int (nI e68)] S (some (.int (Int32.ofInt (-1)))) S1) (hnl : sI S1 6123 = nI nl) (mnl : nl < 6000) (hk1 : sI S1 6115 = nI k1) (mk1 : k1 < 6001) (he681 : sA S1 68 k1 = nI e681) (me681 : e681 < 2 ^ 20) (hF1 : sI (wI 6123 (nI (nl + 1)) (wA 74 nl (nI e681) S1)) 6122 = nI F1) (mF1 : F1 < 15) (he761 : sA (wI 6123 (nI (nl + 1)) (wA 74 nl (nI e681) S1)) 76 F1 = nI e761) (me761 : e761 < 2 ^ 20) (c2 : Ans (d + 8) 314 [.ref 61, .int (nI 44)] (wI 6115 (nI (k1 + 1)) (wA 76 F1 (nI (e761 + 1)) (wI 6123 (nI (nl + 1)) (wA 74 nl (nI e681) S1)))) (some (.int (nI 0))) S2) (hB : ∀ lv1 : sm_L, sm_get lv1 0 = some (.ref 61) → sm_get lv1 1 = some (.int (nI la)) → sm_get lv1 2 = some (.int (nI lb)) → sm_get lv1 3 = some (.int (nI lnm)) → sm_get lv1 4 = some (.int (nI lf)) → sm_get lv1 5 = some (.int (nI 0)) → Bod (d + 8) 336 131 lv1 [] (S2) v Sf) : Bod (d + 8) 336 131 lv [] S v Sf := by
  refine Bod.ildG dc_336_131 (by repeat (first | exact q5 | exact sm_get_p1 | exact sm_get_p2e | refine sm_get_p1m (by decide) (by decide) ?_ | refine sm_get_p1n (by decide) rfl ?_ | refine sm_get_p2n (by decide) (by decide) rfl ?_)) ?_
  refine Bod.ifF dc_336_133 rfl (k1_eq_F (k_ne 1 0 rfl rfl (by omega) (by omega) (by omega))) ?_
  refine Bod.aldnG dc_336_136 (by repeat (first | exact q0 | exact sm_get_p1 | exact sm_get_p2e | refine sm_get_p1m (by decide) (by decide) ?_ | refine sm_get_p1n (by decide) rfl ?_ | refine sm_get_p2n (by decide) (by decide) rfl ?_)) ?_
  refine Bod.get dc_336_137 fr_336_129 (mk_61 _) rfl ?_
  refine Bod.aldnG dc_336_140 (by repeat (first | exact q0 | exact sm_get_p1 | exact sm_get_p2e | refine sm_get_p1m (by decide) (by decide) ?_ | refine sm_get_p1n (by decide) rfl ?_ | refine sm_get_p2n (by decide) (by decide) rfl ?_)) ?_
  refine Bod.get dc_336_141 fr_336_190 (mk_61 _) rfl ?_
  refine Bod.eqI (nI k) (by first | assumption | rfl | exact congrArg nI (by omega) | (simp (disch := omega) only [rI, rIe, rA, rIA, rLA, rJA, rVI, rQI, rVA, rQA, upd_at,  rAI, rLI, rJI, nI_add, pk_sub, kc_0, kc_1, kc_2, kc_3, kc_4, kc_5, reduceIte, Nat.reduceEqDiff, Nat.add_zero, rI_hold, rI_hold, rL_hold, hk]; done)) ?_
  refine Bod.ialdN k rfl (by omega) (by omega) dc_336_144 (mk_67 _) ?_
  refine Bod.eqI (nI e67) (by first | assumption | rfl | exact congrArg nI (by omega) | (simp (disch := omega) only [rI, rIe, rA, rIA, rLA, rJA, rVI, rQI, rVA, rQA, upd_at,  rAI, rLI, rJI, nI_add, pk_sub, kc_0, kc_1, kc_2, kc_3, kc_4, kc_5, reduceIte, Nat.reduceEqDiff, Nat.add_zero, rI_hold, rI_hold, rL_hold, hk, he67]; done)) ?_
  refine Bod.ic 1 (by decide) dc_336_145 ?_
  refine Bod.icF dc_336_146 rfl (k2_ne_F (k_eq e67 1 rfl rfl (by omega))) ?_
  refine Bod.aldnG dc_336_149 (by repeat (first | exact q0 | exact sm_get_p1 | exact sm_get_p2e | refine sm_get_p1m (by decide) (by decide) ?_ | refine sm_get_p1n (by decide) rfl ?_ | refine sm_get_p2n (by decide) (by decide) rfl ?_)) ?_
  refine Bod.get dc_336_150 fr_336_344 (mk_61 _) rfl ?_
  refine Bod.aldnG dc_336_153 (by repeat (first | exact q0 | exact sm_get_p1 | exact sm_get_p2e | refine sm_get_p1m (by decide) (by decide) ?_ | refine sm_get_p1n (by decide) rfl ?_ | refine sm_get_p2n (by decide) (by decide) rfl ?_)) ?_
  refine Bod.get dc_336_154 fr_336_236 (mk_61 _) rfl ?_
  refine Bod.eqI (nI F) (by first | assumption | rfl | exact congrArg nI (by omega) | (simp (disch := omega) only [rI, rIe, rA, rIA, rLA, rJA, rVI, rQI, rVA, rQA, upd_at,  rAI, rLI, rJI, nI_add, pk_sub, kc_0, kc_1, kc_2, kc_3, kc_4, kc_5, reduceIte, Nat.reduceEqDiff, Nat.add_zero, rI_hold, rI_hold, rL_hold, hk, he67, hF]; done)) ?_
  refine Bod.ialdN F rfl (by omega) (by omega) dc_336_157 (mk_76 _) ?_
  refine Bod.eqI (nI e76) (by first | assumption | rfl | exact congrArg nI (by omega) | (simp (disch := omega) only [rI, rIe, rA, rIA, rLA, rJA, rVI, rQI, rVA, rQA, upd_at,  rAI, rLI, rJI, nI_add, pk_sub, kc_0, kc_1, kc_2, kc_3, kc_4, kc_5, reduceIte, Nat.reduceEqDiff, Nat.add_zero, rI_hold, rI_hold, rL_hold, hk, he67, hF, he76]; done)) ?_
  refine Bod.bip 8 (by decide) dc_336_158 ?_
  refine Bod.icF dc_336_160 rfl (k2_eq_F (k_ne e76 8 rfl rfl (by omega) (by omega) (by omega))) ?_
  refine Bod.aldnG dc_336_163 (by repeat (first | exact q0 | exact sm_get_p1 | exact sm_get_p2e | refine sm_get_p1m (by decide) (by decide) ?_ | refine sm_get_p1n (by decide) rfl ?_ | refine sm_get_p2n (by decide) (by decide) rfl ?_)) ?_
  refine Bod.aldnG dc_336_164 (by repeat (first | exact q0 | exact sm_get_p1 | exact sm_get_p2e | refine sm_get_p1m (by decide) (by decide) ?_ | refine sm_get_p1n (by decide) rfl ?_ | refine sm_get_p2n (by decide) (by decide) rfl ?_)) ?_
  refine Bod.get dc_336_165 fr_336_236 (mk_61 _) rfl ?_
  refine Bod.eqI (nI F) (by first | assumption | rfl | exact congrArg nI (by omega) | (simp (disch := omega) only [rI, rIe, rA, rIA, rLA, rJA, rVI, rQI, rVA, rQA, upd_at,  rAI, rLI, rJI, nI_add, pk_sub, kc_0, kc_1, kc_2, kc_3, kc_4, kc_5, reduceIte, Nat.reduceEqDiff, Nat.add_zero, rI_hold, rI_hold, rL_hold, hk, he67, hF, he76]; done)) ?_
  refine Bod.aldnG dc_336_168 (by repeat (first | exact q0 | exact sm_get_p1 | exact sm_get_p2e | refine sm_get_p1m (by decide) (by decide) ?_ | refine sm_get_p1n (by decide) rfl ?_ | refine sm_get_p2n (by decide) (by decide) rfl ?_)) ?_
  refine Bod.get dc_336_169 fr_336_135 (mk_61 _) rfl ?_
  refine Bod.aldnG dc_336_172 (by repeat (first | exact q0 | exact sm_get_p1 | exact sm_get_p2e | refine sm_get_p1m (by decide) (by decide) ?_ | refine sm_get_p1n (by decide) rfl ?_ | refine sm_get_p2n (by decide) (by decide) rfl ?_)) ?_
  refine Bod.get dc_336_173 fr_336_190 (mk_61 _) rfl ?_
  refine Bod.eqI (nI k) (by first | assumption | rfl | exact congrArg nI (by omega) | (simp (disch := omega) only [rI, rIe, rA, rIA, rLA, rJA, rVI, rQI, rVA, rQA, upd_at,  rAI, rLI, rJI, nI_add, pk_sub, kc_0, kc_1, kc_2, kc_3, kc_4, kc_5, reduceIte, Nat.reduceEqDiff, Nat.add_zero, rI_hold, rI_hold, rL_hold, hk, he67, hF, he76]; done)) ?_
  refine Bod.ialdN k rfl (by omega) (by omega) dc_336_176 (mk_68 _) ?_
  refine Bod.eqI (nI e68) (by first | assumption | rfl | exact congrArg nI (by omega) | (simp (disch := omega) only [rI, rIe, rA, rIA, rLA, rJA, rVI, rQI, rVA, rQA, upd_at,  rAI, rLI, rJI, nI_add, pk_sub, kc_0, kc_1, kc_2, kc_3, kc_4, kc_5, reduceIte, Nat.reduceEqDiff, Nat.add_zero, rI_hold, rI_hold, rL_hold, hk, he67, hF, he76, he68]; done)) ?_
  refine Bod.virt (r := []) dc_336_177 kr_336_353 ⟨Or.inl rfl, ow_319, cl_14⟩ (by rw [np_319]; rfl) (by rw [np_319]; rfl) (ob_of (mk_61 _)) (Nat.le_of_ble_eq_true rfl) (c1  ) ?_
  show Bod _ _ _ _ [_] _ _ _
  refine Bod.ifT dc_336_180 rfl (by decide) ?_
  refine Bod.aldnG dc_336_188 (by repeat (first | exact q0 | exact sm_get_p1 | exact sm_get_p2e | refine sm_get_p1m (by decide) (by decide) ?_ | refine sm_get_p1n (by decide) rfl ?_ | refine sm_get_p2n (by decide) (by decide) rfl ?_)) ?_
  refine Bod.get dc_336_189 fr_336_347 (mk_61 _) rfl ?_
  refine Bod.aldnG dc_336_192 (by repeat (first | exact q0 | exact sm_get_p1 | exact sm_get_p2e | refine sm_get_p1m (by decide) (by decide) ?_ | refine sm_get_p1n (by decide) rfl ?_ | refine sm_get_p2n (by decide) (by decide) rfl ?_)) ?_
  refine Bod.get dc_336_193 fr_336_239 (mk_61 _) rfl ?_
  refine Bod.eqI (nI nl) (by first | (simp (disch := omega) only [rI, rIe, rA, rIA, rLA, rJA, rVI, rQI, rVA, rQA, upd_at,  rAI, rLI, rJI, nI_add, pk_sub, kc_0, kc_1, kc_2, kc_3, kc_4, kc_5, reduceIte, Nat.reduceEqDiff, Nat.add_zero, rI_hold, rI_hold, rL_hold, hk, he67, hF, he76, he68, hnl]; done) | (simp (disch := omega) only [rI, rIe, rA, rIA, rLA, rJA, rVI, rQI, rVA, rQA, upd_at,  rAI, rLI, rJI, nI_add, pk_sub, kc_0, kc_1, kc_2, kc_3, kc_4, kc_5, reduceIte, Nat.reduceEqDiff, Nat.add_zero, rI_hold, rI_hold, rL_hold, hk, he67, hF, he76, he68, hnl]; exact congrArg nI (by omega))) ?_
  refine Bod.aldnG dc_336_196 (by repeat (first | exact q0 | exact sm_get_p1 | exact sm_get_p2e | refine sm_get_p1m (by decide) (by decide) ?_ | refine sm_get_p1n (by decide) rfl ?_ | refine sm_get_p2n (by decide) (by decide) rfl ?_)) ?_
  refine Bod.get dc_336_197 fr_336_135 (mk_61 _) rfl ?_
  refine Bod.aldnG dc_336_200 (by repeat (first | exact q0 | exact sm_get_p1 | exact sm_get_p2e | refine sm_get_p1m (by decide) (by decide) ?_ | refine sm_get_p1n (by decide) rfl ?_ | refine sm_get_p2n (by decide) (by decide) rfl ?_)) ?_
  refine Bod.get dc_336_201 fr_336_190 (mk_61 _) rfl ?_
  refine Bod.eqI (nI k1) (by first | (simp (disch := omega) only [rI, rIe, rA, rIA, rLA, rJA, rVI, rQI, rVA, rQA, upd_at,  rAI, rLI, rJI, nI_add, pk_sub, kc_0, kc_1, kc_2, kc_3, kc_4, kc_5, reduceIte, Nat.reduceEqDiff, Nat.add_zero, rI_hold, rI_hold, rL_hold, hk, he67, hF, he76, he68, hnl, hk1]; done) | (simp (disch := omega) only [rI, rIe, rA, rIA, rLA, rJA, rVI, rQI, rVA, rQA, upd_at,  rAI, rLI, rJI, nI_add, pk_sub, kc_0, kc_1, kc_2, kc_3, kc_4, kc_5, reduceIte, Nat.reduceEqDiff, Nat.add_zero, rI_hold, rI_hold, rL_hold, hk, he67, hF, he76, he68, hnl, hk1]; exact congrArg nI (by omega))) ?_
  refine Bod.ialdN k1 rfl (by omega) (by omega) dc_336_204 (mk_68 _) ?_
  refine Bod.eqI (nI e681) (by first | (simp (disch := omega) only [rI, rIe, rA, rIA, rLA, rJA, rVI, rQI, rVA, rQA, upd_at,  rAI, rLI, rJI, nI_add, pk_sub, kc_0, kc_1, kc_2, kc_3, kc_4, kc_5, reduceIte, Nat.reduceEqDiff, Nat.add_zero, rI_hold, rI_hold, rL_hold, hk, he67, hF, he76, he68, hnl, hk1, he681]; done) | (simp (disch := omega) only [rI, rIe, rA, rIA, rLA, rJA, rVI, rQI, rVA, rQA, upd_at,  rAI, rLI, rJI, nI_add, pk_sub, kc_0, kc_1, kc_2, kc_3, kc_4, kc_5, reduceIte, Nat.reduceEqDiff, Nat.add_zero, rI_hold, rI_hold, rL_hold, hk, he67, hF, he76, he68, hnl, hk1, he681]; exact congrArg nI (by omega))) ?_
  refine Bod.iastN nl rfl (by omega) (by omega) dc_336_205 (mk_74 _) (sa_74 _ _ _) (mu_A _ _ _ _) ?_
  refine Bod.aldnG dc_336_206 (by repeat (first | exact q0 | exact sm_get_p1 | exact sm_get_p2e | refine sm_get_p1m (by decide) (by decide) ?_ | refine sm_get_p1n (by decide) rfl ?_ | refine sm_get_p2n (by decide) (by decide) rfl ?_)) ?_
  refine Bod.go dc_336_207 rfl ?_
  refine Bod.get dc_336_208 fr_336_239 (mk_61 _) rfl ?_
  refine Bod.eqI (nI nl) (by first | (simp (disch := omega) only [rI, rIe, rA, rIA, rLA, rJA, rVI, rQI, rVA, rQA, upd_at,  rAI, rLI, rJI, nI_add, pk_sub, kc_0, kc_1, kc_2, kc_3, kc_4, kc_5, reduceIte, Nat.reduceEqDiff, Nat.add_zero, rI_hold, rI_hold, rL_hold, hk, he67, hF, he76, he68, hnl, hk1, he681]; done) | (simp (disch := omega) only [rI, rIe, rA, rIA, rLA, rJA, rVI, rQI, rVA, rQA, upd_at,  rAI, rLI, rJI, nI_add, pk_sub, kc_0, kc_1, kc_2, kc_3, kc_4, kc_5, reduceIte, Nat.reduceEqDiff, Nat.add_zero, rI_hold, rI_hold, rL_hold, hk, he67, hF, he76, he68, hnl, hk1, he681]; exact congrArg nI (by omega))) ?_
  refine Bod.ic 1 (by decide) dc_336_211 ?_
  refine Bod.addN (nl + 1) (by omega) dc_336_212 ?_
  refine Bod.put dc_336_213 fr_336_239 (mk_61 _) (Nat.le_of_ble_eq_true rfl) pf_14_23 (st_6123 _ _) (mu_I _ _ _) ?_
  refine Bod.aldnG dc_336_216 (by repeat (first | exact q0 | exact sm_get_p1 | exact sm_get_p2e | refine sm_get_p1m (by decide) (by decide) ?_ | refine sm_get_p1n (by decide) rfl ?_ | refine sm_get_p2n (by decide) (by decide) rfl ?_)) ?_
  refine Bod.get dc_336_217 fr_336_344 (mk_61 _) rfl ?_
  refine Bod.aldnG dc_336_220 (by repeat (first | exact q0 | exact sm_get_p1 | exact sm_get_p2e | refine sm_get_p1m (by decide) (by decide) ?_ | refine sm_get_p1n (by decide) rfl ?_ | refine sm_get_p2n (by decide) (by decide) rfl ?_)) ?_
  refine Bod.get dc_336_221 fr_336_236 (mk_61 _) rfl ?_
  refine Bod.eqI (nI F1) (by first | (simp (disch := omega) only [rI, rIe, rA, rIA, rLA, rJA, rVI, rQI, rVA, rQA, upd_at,  rAI, rLI, rJI, nI_add, pk_sub, kc_0, kc_1, kc_2, kc_3, kc_4, kc_5, reduceIte, Nat.reduceEqDiff, Nat.add_zero, rI_hold, rI_hold, rL_hold, hk, he67, hF, he76, he68, hnl, hk1, he681, hF1]; done) | (simp (disch := omega) only [rI, rIe, rA, rIA, rLA, rJA, rVI, rQI, rVA, rQA, upd_at,  rAI, rLI, rJI, nI_add, pk_sub, kc_0, kc_1, kc_2, kc_3, kc_4, kc_5, reduceIte, Nat.reduceEqDiff, Nat.add_zero, rI_hold, rI_hold, rL_hold, hk, he67, hF, he76, he68, hnl, hk1, he681, hF1]; exact congrArg nI (by omega))) ?_
  refine Bod.go dc_336_224 rfl ?_
  refine Bod.ialdN F1 rfl (by omega) (by omega) dc_336_225 (mk_76 _) ?_
  refine Bod.eqI (nI e761) (by first | (simp (disch := omega) only [rI, rIe, rA, rIA, rLA, rJA, rVI, rQI, rVA, rQA, upd_at,  rAI, rLI, rJI, nI_add, pk_sub, kc_0, kc_1, kc_2, kc_3, kc_4, kc_5, reduceIte, Nat.reduceEqDiff, Nat.add_zero, rI_hold, rI_hold, rL_hold, hk, he67, hF, he76, he68, hnl, hk1, he681, hF1, he761]; done) | (simp (disch := omega) only [rI, rIe, rA, rIA, rLA, rJA, rVI, rQI, rVA, rQA, upd_at,  rAI, rLI, rJI, nI_add, pk_sub, kc_0, kc_1, kc_2, kc_3, kc_4, kc_5, reduceIte, Nat.reduceEqDiff, Nat.add_zero, rI_hold, rI_hold, rL_hold, hk, he67, hF, he76, he68, hnl, hk1, he681, hF1, he761]; exact congrArg nI (by omega))) ?_
  refine Bod.ic 1 (by decide) dc_336_226 ?_
  refine Bod.addN (e761 + 1) (by omega) dc_336_227 ?_
  refine Bod.iastN F1 rfl (by omega) (by omega) dc_336_228 (mk_76 _) (sa_76 _ _ _) (mu_A _ _ _ _) ?_
  refine Bod.aldnG dc_336_229 (by repeat (first | exact q0 | exact sm_get_p1 | exact sm_get_p2e | refine sm_get_p1m (by decide) (by decide) ?_ | refine sm_get_p1n (by decide) rfl ?_ | refine sm_get_p2n (by decide) (by decide) rfl ?_)) ?_
  refine Bod.go dc_336_230 rfl ?_
  refine Bod.get dc_336_231 fr_336_190 (mk_61 _) rfl ?_
  refine Bod.eqI (nI k1) (by first | (simp (disch := omega) only [rI, rIe, rA, rIA, rLA, rJA, rVI, rQI, rVA, rQA, upd_at,  rAI, rLI, rJI, nI_add, pk_sub, kc_0, kc_1, kc_2, kc_3, kc_4, kc_5, reduceIte, Nat.reduceEqDiff, Nat.add_zero, rI_hold, rI_hold, rL_hold, hk, he67, hF, he76, he68, hnl, hk1, he681, hF1, he761]; done) | (simp (disch := omega) only [rI, rIe, rA, rIA, rLA, rJA, rVI, rQI, rVA, rQA, upd_at,  rAI, rLI, rJI, nI_add, pk_sub, kc_0, kc_1, kc_2, kc_3, kc_4, kc_5, reduceIte, Nat.reduceEqDiff, Nat.add_zero, rI_hold, rI_hold, rL_hold, hk, he67, hF, he76, he68, hnl, hk1, he681, hF1, he761]; exact congrArg nI (by omega))) ?_
  refine Bod.ic 1 (by decide) dc_336_234 ?_
  refine Bod.addN (k1 + 1) (by omega) dc_336_235 ?_
  refine Bod.put dc_336_236 fr_336_190 (mk_61 _) (Nat.le_of_ble_eq_true rfl) pf_14_15 (st_6115 _ _) (mu_I _ _ _) ?_
  refine Bod.aldnG dc_336_239 (by repeat (first | exact q0 | exact sm_get_p1 | exact sm_get_p2e | refine sm_get_p1m (by decide) (by decide) ?_ | refine sm_get_p1n (by decide) rfl ?_ | refine sm_get_p2n (by decide) (by decide) rfl ?_)) ?_
  refine Bod.bip 44 (by decide) dc_336_240 ?_
  refine Bod.virt (r := []) dc_336_242 kr_336_199 ⟨Or.inl rfl, ow_314, cl_14⟩ (by rw [np_314]; rfl) (by rw [np_314]; rfl) (ob_of (mk_61 _)) (Nat.le_of_ble_eq_true rfl) (c2  ) ?_
  show Bod _ _ _ _ [_] _ _ _
  refine Bod.ist dc_336_245 (by rw [ml_336]; exact Nat.le_of_ble_eq_true rfl) ?_
  refine Bod.ildG dc_336_247 (by repeat (first | exact q0 | exact sm_get_p1 | exact sm_get_p2e | refine sm_get_p1m (by decide) (by decide) ?_ | refine sm_get_p1n (by decide) rfl ?_ | refine sm_get_p2n (by decide) (by decide) rfl ?_)) ?_
  refine Bod.ifT dc_336_249 rfl (k1_eq_T (k_eq 0 0 rfl rfl (by omega))) ?_
  exact hB _ (by repeat (first | exact q0 | exact sm_get_p1 | exact sm_get_p2e | refine sm_get_p1m (by decide) (by decide) ?_ | refine sm_get_p1n (by decide) rfl ?_ | refine sm_get_p2n (by decide) (by decide) rfl ?_)) (by repeat (first | exact q1 | exact sm_get_p1 | exact sm_get_p2e | refine sm_get_p1m (by decide) (by decide) ?_ | refine sm_get_p1n (by decide) rfl ?_ | refine sm_get_p2n (by decide) (by decide) rfl ?_)) (by repeat (first | exact q2 | exact sm_get_p1 | exact sm_get_p2e | refine sm_get_p1m (by decide) (by decide) ?_ | refine sm_get_p1n (by decide) rfl ?_ | refine sm_get_p2n (by decide) (by decide) rfl ?_)) (by repeat (first | exact q3 | exact sm_get_p1 | exact sm_get_p2e | refine sm_get_p1m (by decide) (by decide) ?_ | refine sm_get_p1n (by decide) rfl ?_ | refine sm_get_p2n (by decide) (by decide) rfl ?_)) (by repeat (first | exact q4 | exact sm_get_p1 | exact sm_get_p2e | refine sm_get_p1m (by decide) (by decide) ?_ | refine sm_get_p1n (by decide) rfl ?_ | refine sm_get_p2n (by decide) (by decide) rfl ?_)) (by repeat (first | exact q0 | exact sm_get_p1 | exact sm_get_p2e | refine sm_get_p1m (by decide) (by decide) ?_ | refine sm_get_p1n (by decide) rfl ?_ | refine sm_get_p2n (by decide) (by decide) rfl ?_))
theorem zDq_1 {d : Nat} {S Sf : cS} {v : Option Value} {lv : sm_L} {la : Nat} {lb : Nat} {lnm : Nat} {lf : Nat} {S1 : cS} {S2 : cS} {a : Nat} {m : Nat} {u : Nat} {g : Nat} {N : Nat} {n1 : Nat} {g1 : Nat} {N1 : Nat} {F : Nat} {e76 : Nat} {k : Nat} {e67 : Nat} (q0 : sm_get lv 0 = some (.ref 61)) (q1 : sm_get lv 1 = some (.int (nI la))) (q2 : sm_get lv 2 = some (.int (nI lb))) (q3 : sm_get lv 3 = some (.int (nI lnm))) (q4 : sm_get lv 4 = some (.int (nI lf))) (q5 : sm_get lv 5 = some (.int (nI 0))) (mla : la < 2 ^ 20) (mlb : lb < 2 ^ 20) (mlnm : lnm < 2 ^ 20) (mlf : lf < 2 ^ 20) (c1 : Ans (d + 8) 323 [.ref 61, .int (nI 41)] S (some (.int (nI 1))) S1) (ma : a < 2 ^ 20) (c2 : Ans (d + 8) 325 [.ref 61, .int (nI 11)] S1 (some (.int (nI a))) S2) (hm : 108 ≤ m) (hv1 : sV S2 6114 = .ref m) (hz2 : (sS S2)[m - 108]? = some (12, u)) (hv3 : sV S2 (100 * m + 8) = .ref g) (hg3 : isK S2 g 0 N) (mN : N < 2 ^ 20) (hn1 : sI S2 (100 * m + 1) = nI n1) (mn1 : n1 < 2 ^ 20) (b1 : lf < N) (hv4 : sV S2 (100 * m + 9) = .ref g1) (hg4 : isK S2 g1 0 N1) (mN1 : N1 < 2 ^ 20) (hd419 : g ≠ g1) (hF : sI (wA g lf (nI n1) S2) 6122 = nI F) (mF : F < 15) (he76 : sA (wA g lf (nI n1) S2) 76 F = nI e76) (me76 : e76 < 2 ^ 20) (b2 : lf < N1) (hk : sI (wA g1 lf (nI e76) (wA g lf (nI n1) S2)) 6115 = nI k) (mk : k < 6001) (he67 : sA (wA g1 lf (nI e76) (wA g lf (nI n1) S2)) 67 k = nI e67) (me67 : e67 < 2 ^ 20) (b3 : e67 ≠ 5) (hB : ∀ lv1 : sm_L, sm_get lv1 0 = some (.ref 61) → sm_get lv1 1 = some (.int (nI la)) → sm_get lv1 2 = some (.int (nI lb)) → sm_get lv1 3 = some (.int (nI lnm)) → sm_get lv1 4 = some (.int (nI lf)) → sm_get lv1 6 = some (.int (nI a)) → Bod (d + 8) 336 360 lv1 [] (wA g1 lf (nI e76) (wA g lf (nI n1) S2)) v Sf) : Bod (d + 8) 336 131 lv [] S v Sf := by
  refine Bod.ildG dc_336_131 (by repeat (first | exact q5 | exact sm_get_p1 | exact sm_get_p2e | refine sm_get_p1m (by decide) (by decide) ?_ | refine sm_get_p1n (by decide) rfl ?_ | refine sm_get_p2n (by decide) (by decide) rfl ?_)) ?_
  refine Bod.ifT dc_336_133 rfl (k1_eq_T (k_eq 0 0 rfl rfl (by omega))) ?_
  refine Bod.aldnG dc_336_265 (by repeat (first | exact q0 | exact sm_get_p1 | exact sm_get_p2e | refine sm_get_p1m (by decide) (by decide) ?_ | refine sm_get_p1n (by decide) rfl ?_ | refine sm_get_p2n (by decide) (by decide) rfl ?_)) ?_
  refine Bod.bip 41 (by decide) dc_336_266 ?_
  refine Bod.virt (r := []) dc_336_268 kr_336_270 ⟨Or.inl rfl, ow_323, cl_14⟩ (by rw [np_323]; rfl) (by rw [np_323]; rfl) (ob_of (mk_61 _)) (Nat.le_of_ble_eq_true rfl) (c1  ) ?_
  show Bod _ _ _ _ [_] _ _ _
  refine Bod.ifT dc_336_271 rfl (k1_ne_T (k_ne 1 0 rfl rfl (by omega) (by omega) (by omega))) ?_
  refine Bod.aldnG dc_336_276 (by repeat (first | exact q0 | exact sm_get_p1 | exact sm_get_p2e | refine sm_get_p1m (by decide) (by decide) ?_ | refine sm_get_p1n (by decide) rfl ?_ | refine sm_get_p2n (by decide) (by decide) rfl ?_)) ?_
  refine Bod.bip 11 (by decide) dc_336_277 ?_
  refine Bod.virt (r := []) dc_336_279 kr_336_305 ⟨Or.inl rfl, ow_325, cl_14⟩ (by rw [np_325]; rfl) (by rw [np_325]; rfl) (ob_of (mk_61 _)) (Nat.le_of_ble_eq_true rfl) (c2  ) ?_
  show Bod _ _ _ _ [_] _ _ _
  refine Bod.ist dc_336_282 (by rw [ml_336]; exact Nat.le_of_ble_eq_true rfl) ?_
  refine Bod.aldnG dc_336_284 (by repeat (first | exact q0 | exact sm_get_p1 | exact sm_get_p2e | refine sm_get_p1m (by decide) (by decide) ?_ | refine sm_get_p1n (by decide) rfl ?_ | refine sm_get_p2n (by decide) (by decide) rfl ?_)) ?_
  refine Bod.get dc_336_285 fr_336_206 (mk_61 _) rfl ?_
  refine Bod.eqV (.ref m) (by first | exact hv1 | (simp only [rIV, rJV, rAV, rLV, rQV, rV, reduceIte, Nat.reduceEqDiff]; exact hv1)) ?_
  refine Bod.get dc_336_288 fr_336_370 (mk_code hm (by first | exact hz2 | (simp only [rIS, rJS, rAS, rLS, rVS, rQS, rS_hold]; exact hz2))) rfl ?_
  refine Bod.eqV (.ref g) (by first | exact hv3 | (simp only [rIV, rJV, rAV, rLV, rQV, rV, reduceIte, Nat.reduceEqDiff]; exact hv3)) ?_
  refine Bod.ildG dc_336_291 (by repeat (first | exact q4 | exact sm_get_p1 | exact sm_get_p2e | refine sm_get_p1m (by decide) (by decide) ?_ | refine sm_get_p1n (by decide) rfl ?_ | refine sm_get_p2n (by decide) (by decide) rfl ?_)) ?_
  refine Bod.aldnG dc_336_293 (by repeat (first | exact q0 | exact sm_get_p1 | exact sm_get_p2e | refine sm_get_p1m (by decide) (by decide) ?_ | refine sm_get_p1n (by decide) rfl ?_ | refine sm_get_p2n (by decide) (by decide) rfl ?_)) ?_
  refine Bod.get dc_336_294 fr_336_206 (mk_61 _) rfl ?_
  refine Bod.eqV (.ref m) (by first | exact hv1 | (simp only [rIV, rJV, rAV, rLV, rQV, rV, reduceIte, Nat.reduceEqDiff]; exact hv1)) ?_
  refine Bod.get dc_336_297 fr_336_219 (mk_code hm (by first | exact hz2 | (simp only [rIS, rJS, rAS, rLS, rVS, rQS, rS_hold]; exact hz2))) rfl ?_
  refine Bod.eqI (nI n1) (by first | (simp (disch := omega) only [rI, rIe, rA, rIA, rLA, rJA, rVI, rQI, rVA, rQA, upd_at,  rAI, rLI, rJI, nI_add, pk_sub, kc_0, kc_1, kc_2, kc_3, kc_4, kc_5, reduceIte, Nat.reduceEqDiff, Nat.add_zero, rI_hold, rI_hold, rL_hold, hn1]; done) | (simp (disch := omega) only [rI, rIe, rA, rIA, rLA, rJA, rVI, rQI, rVA, rQA, upd_at,  rAI, rLI, rJI, nI_add, pk_sub, kc_0, kc_1, kc_2, kc_3, kc_4, kc_5, reduceIte, Nat.reduceEqDiff, Nat.add_zero, rI_hold, rI_hold, rL_hold, hn1]; exact congrArg nI (by omega))) ?_
  refine Bod.iastN (N := N) lf rfl (by omega) (by omega) dc_336_300 (mk_isI (by first | exact hg3 | exact isK_S (by simp only [rIS, rJS, rAS, rLS, rVS, rQS, rS_hold]) hg3)) (sa_isI (by first | exact hg3 | exact isK_S (by simp only [rIS, rJS, rAS, rLS, rVS, rQS, rS_hold]) hg3)) (mu_A _ _ _ _) ?_
  refine Bod.aldnG dc_336_301 (by repeat (first | exact q0 | exact sm_get_p1 | exact sm_get_p2e | refine sm_get_p1m (by decide) (by decide) ?_ | refine sm_get_p1n (by decide) rfl ?_ | refine sm_get_p2n (by decide) (by decide) rfl ?_)) ?_
  refine Bod.get dc_336_302 fr_336_206 (mk_61 _) rfl ?_
  refine Bod.eqV (.ref m) (by first | exact hv1 | (simp only [rIV, rJV, rAV, rLV, rQV, rV, reduceIte, Nat.reduceEqDiff]; exact hv1)) ?_
  refine Bod.get dc_336_305 fr_336_373 (mk_code hm (by first | exact hz2 | (simp only [rIS, rJS, rAS, rLS, rVS, rQS, rS_hold]; exact hz2))) rfl ?_
  refine Bod.eqV (.ref g1) (by first | exact hv4 | (simp only [rIV, rJV, rAV, rLV, rQV, rV, reduceIte, Nat.reduceEqDiff]; exact hv4)) ?_
  refine Bod.ildG dc_336_308 (by repeat (first | exact q4 | exact sm_get_p1 | exact sm_get_p2e | refine sm_get_p1m (by decide) (by decide) ?_ | refine sm_get_p1n (by decide) rfl ?_ | refine sm_get_p2n (by decide) (by decide) rfl ?_)) ?_
  refine Bod.aldnG dc_336_310 (by repeat (first | exact q0 | exact sm_get_p1 | exact sm_get_p2e | refine sm_get_p1m (by decide) (by decide) ?_ | refine sm_get_p1n (by decide) rfl ?_ | refine sm_get_p2n (by decide) (by decide) rfl ?_)) ?_
  refine Bod.get dc_336_311 fr_336_344 (mk_61 _) rfl ?_
  refine Bod.aldnG dc_336_314 (by repeat (first | exact q0 | exact sm_get_p1 | exact sm_get_p2e | refine sm_get_p1m (by decide) (by decide) ?_ | refine sm_get_p1n (by decide) rfl ?_ | refine sm_get_p2n (by decide) (by decide) rfl ?_)) ?_
  refine Bod.get dc_336_315 fr_336_236 (mk_61 _) rfl ?_
  refine Bod.eqI (nI F) (by first | (simp (disch := omega) only [rI, rIe, rA, rIA, rLA, rJA, rVI, rQI, rVA, rQA, upd_at,  rAI, rLI, rJI, nI_add, pk_sub, kc_0, kc_1, kc_2, kc_3, kc_4, kc_5, reduceIte, Nat.reduceEqDiff, Nat.add_zero, rI_hold, rI_hold, rL_hold, hn1, hd419, Ne.symm hd419, hF]; done) | (simp (disch := omega) only [rI, rIe, rA, rIA, rLA, rJA, rVI, rQI, rVA, rQA, upd_at,  rAI, rLI, rJI, nI_add, pk_sub, kc_0, kc_1, kc_2, kc_3, kc_4, kc_5, reduceIte, Nat.reduceEqDiff, Nat.add_zero, rI_hold, rI_hold, rL_hold, hn1, hd419, Ne.symm hd419, hF]; exact congrArg nI (by omega))) ?_
  refine Bod.ialdN F rfl (by omega) (by omega) dc_336_318 (mk_76 _) ?_
  refine Bod.eqI (nI e76) (by first | (simp (disch := omega) only [rI, rIe, rA, rIA, rLA, rJA, rVI, rQI, rVA, rQA, upd_at,  rAI, rLI, rJI, nI_add, pk_sub, kc_0, kc_1, kc_2, kc_3, kc_4, kc_5, reduceIte, Nat.reduceEqDiff, Nat.add_zero, rI_hold, rI_hold, rL_hold, hn1, hd419, Ne.symm hd419, hF, he76]; done) | (simp (disch := omega) only [rI, rIe, rA, rIA, rLA, rJA, rVI, rQI, rVA, rQA, upd_at,  rAI, rLI, rJI, nI_add, pk_sub, kc_0, kc_1, kc_2, kc_3, kc_4, kc_5, reduceIte, Nat.reduceEqDiff, Nat.add_zero, rI_hold, rI_hold, rL_hold, hn1, hd419, Ne.symm hd419, hF, he76]; exact congrArg nI (by omega))) ?_
  refine Bod.iastN (N := N1) lf rfl (by omega) (by omega) dc_336_319 (mk_isI (by first | exact hg4 | exact isK_S (by simp only [rIS, rJS, rAS, rLS, rVS, rQS, rS_hold]) hg4)) (sa_isI (by first | exact hg4 | exact isK_S (by simp only [rIS, rJS, rAS, rLS, rVS, rQS, rS_hold]) hg4)) (mu_A _ _ _ _) ?_
  refine Bod.aldnG dc_336_320 (by repeat (first | exact q0 | exact sm_get_p1 | exact sm_get_p2e | refine sm_get_p1m (by decide) (by decide) ?_ | refine sm_get_p1n (by decide) rfl ?_ | refine sm_get_p2n (by decide) (by decide) rfl ?_)) ?_
  refine Bod.get dc_336_321 fr_336_129 (mk_61 _) rfl ?_
  refine Bod.aldnG dc_336_324 (by repeat (first | exact q0 | exact sm_get_p1 | exact sm_get_p2e | refine sm_get_p1m (by decide) (by decide) ?_ | refine sm_get_p1n (by decide) rfl ?_ | refine sm_get_p2n (by decide) (by decide) rfl ?_)) ?_
  refine Bod.get dc_336_325 fr_336_190 (mk_61 _) rfl ?_
  refine Bod.eqI (nI k) (by first | (simp (disch := omega) only [rI, rIe, rA, rIA, rLA, rJA, rVI, rQI, rVA, rQA, upd_at,  rAI, rLI, rJI, nI_add, pk_sub, kc_0, kc_1, kc_2, kc_3, kc_4, kc_5, reduceIte, Nat.reduceEqDiff, Nat.add_zero, rI_hold, rI_hold, rL_hold, hn1, hd419, Ne.symm hd419, hF, he76, hk]; done) | (simp (disch := omega) only [rI, rIe, rA, rIA, rLA, rJA, rVI, rQI, rVA, rQA, upd_at,  rAI, rLI, rJI, nI_add, pk_sub, kc_0, kc_1, kc_2, kc_3, kc_4, kc_5, reduceIte, Nat.reduceEqDiff, Nat.add_zero, rI_hold, rI_hold, rL_hold, hn1, hd419, Ne.symm hd419, hF, he76, hk]; exact congrArg nI (by omega))) ?_
  refine Bod.ialdN k rfl (by omega) (by omega) dc_336_328 (mk_67 _) ?_
  refine Bod.eqI (nI e67) (by first | (simp (disch := omega) only [rI, rIe, rA, rIA, rLA, rJA, rVI, rQI, rVA, rQA, upd_at,  rAI, rLI, rJI, nI_add, pk_sub, kc_0, kc_1, kc_2, kc_3, kc_4, kc_5, reduceIte, Nat.reduceEqDiff, Nat.add_zero, rI_hold, rI_hold, rL_hold, hn1, hd419, Ne.symm hd419, hF, he76, hk, he67]; done) | (simp (disch := omega) only [rI, rIe, rA, rIA, rLA, rJA, rVI, rQI, rVA, rQA, upd_at,  rAI, rLI, rJI, nI_add, pk_sub, kc_0, kc_1, kc_2, kc_3, kc_4, kc_5, reduceIte, Nat.reduceEqDiff, Nat.add_zero, rI_hold, rI_hold, rL_hold, hn1, hd419, Ne.symm hd419, hF, he76, hk, he67]; exact congrArg nI (by omega))) ?_
  refine Bod.ic 5 (by decide) dc_336_329 ?_
  refine Bod.icT dc_336_330 rfl (k2_ne_T (k_ne e67 5 rfl rfl (by omega) (by omega) (by omega))) ?_
  exact hB _ (by repeat (first | exact q0 | exact sm_get_p1 | exact sm_get_p2e | refine sm_get_p1m (by decide) (by decide) ?_ | refine sm_get_p1n (by decide) rfl ?_ | refine sm_get_p2n (by decide) (by decide) rfl ?_)) (by repeat (first | exact q1 | exact sm_get_p1 | exact sm_get_p2e | refine sm_get_p1m (by decide) (by decide) ?_ | refine sm_get_p1n (by decide) rfl ?_ | refine sm_get_p2n (by decide) (by decide) rfl ?_)) (by repeat (first | exact q2 | exact sm_get_p1 | exact sm_get_p2e | refine sm_get_p1m (by decide) (by decide) ?_ | refine sm_get_p1n (by decide) rfl ?_ | refine sm_get_p2n (by decide) (by decide) rfl ?_)) (by repeat (first | exact q3 | exact sm_get_p1 | exact sm_get_p2e | refine sm_get_p1m (by decide) (by decide) ?_ | refine sm_get_p1n (by decide) rfl ?_ | refine sm_get_p2n (by decide) (by decide) rfl ?_)) (by repeat (first | exact q4 | exact sm_get_p1 | exact sm_get_p2e | refine sm_get_p1m (by decide) (by decide) ?_ | refine sm_get_p1n (by decide) rfl ?_ | refine sm_get_p2n (by decide) (by decide) rfl ?_)) (by repeat (first | exact q0 | exact sm_get_p1 | exact sm_get_p2e | refine sm_get_p1m (by decide) (by decide) ?_ | refine sm_get_p1n (by decide) rfl ?_ | refine sm_get_p2n (by decide) (by decide) rfl ?_))
theorem zDq_2 {d : Nat} {S Sf : cS} {v : Option Value} {lv : sm_L} {la : Nat} {lb : Nat} {lnm : Nat} {lf : Nat} {S1 : cS} {S2 : cS} {a : Nat} {m : Nat} {u : Nat} {g : Nat} {N : Nat} {n1 : Nat} {g1 : Nat} {N1 : Nat} {F : Nat} {e76 : Nat} {k : Nat} {e67 : Nat} {e671 : Nat} (q0 : sm_get lv 0 = some (.ref 61)) (q1 : sm_get lv 1 = some (.int (nI la))) (q2 : sm_get lv 2 = some (.int (nI lb))) (q3 : sm_get lv 3 = some (.int (nI lnm))) (q4 : sm_get lv 4 = some (.int (nI lf))) (q5 : sm_get lv 5 = some (.int (nI 0))) (mla : la < 2 ^ 20) (mlb : lb < 2 ^ 20) (mlnm : lnm < 2 ^ 20) (mlf : lf < 2 ^ 20) (c1 : Ans (d + 8) 323 [.ref 61, .int (nI 41)] S (some (.int (nI 1))) S1) (ma : a < 2 ^ 20) (c2 : Ans (d + 8) 325 [.ref 61, .int (nI 11)] S1 (some (.int (nI a))) S2) (hm : 108 ≤ m) (hv1 : sV S2 6114 = .ref m) (hz2 : (sS S2)[m - 108]? = some (12, u)) (hv3 : sV S2 (100 * m + 8) = .ref g) (hg3 : isK S2 g 0 N) (mN : N < 2 ^ 20) (hn1 : sI S2 (100 * m + 1) = nI n1) (mn1 : n1 < 2 ^ 20) (b1 : lf < N) (hv4 : sV S2 (100 * m + 9) = .ref g1) (hg4 : isK S2 g1 0 N1) (mN1 : N1 < 2 ^ 20) (hd419 : g ≠ g1) (hF : sI (wA g lf (nI n1) S2) 6122 = nI F) (mF : F < 15) (he76 : sA (wA g lf (nI n1) S2) 76 F = nI e76) (me76 : e76 < 2 ^ 20) (b2 : lf < N1) (hk : sI (wA g1 lf (nI e76) (wA g lf (nI n1) S2)) 6115 = nI k) (mk : k < 6001) (he67 : sA (wA g1 lf (nI e76) (wA g lf (nI n1) S2)) 67 k = nI e67) (me67 : e67 < 2 ^ 20) (b3 : e67 = 5) (he671 : sA (wA g1 lf (nI e76) (wA g lf (nI n1) S2)) 67 (k + 1) = nI e671) (me671 : e671 < 2 ^ 20) (b4 : e671 ≠ 6) (hB : ∀ lv1 : sm_L, sm_get lv1 0 = some (.ref 61) → sm_get lv1 1 = some (.int (nI la)) → sm_get lv1 2 = some (.int (nI lb)) → sm_get lv1 3 = some (.int (nI lnm)) → sm_get lv1 4 = some (.int (nI lf)) → sm_get lv1 6 = some (.int (nI a)) → Bod (d + 8) 336 360 lv1 [] (wA g1 lf (nI e76) (wA g lf (nI n1) S2)) v Sf) : Bod (d + 8) 336 131 lv [] S v Sf := by
  refine Bod.ildG dc_336_131 (by repeat (first | exact q5 | exact sm_get_p1 | exact sm_get_p2e | refine sm_get_p1m (by decide) (by decide) ?_ | refine sm_get_p1n (by decide) rfl ?_ | refine sm_get_p2n (by decide) (by decide) rfl ?_)) ?_
  refine Bod.ifT dc_336_133 rfl (k1_eq_T (k_eq 0 0 rfl rfl (by omega))) ?_
  refine Bod.aldnG dc_336_265 (by repeat (first | exact q0 | exact sm_get_p1 | exact sm_get_p2e | refine sm_get_p1m (by decide) (by decide) ?_ | refine sm_get_p1n (by decide) rfl ?_ | refine sm_get_p2n (by decide) (by decide) rfl ?_)) ?_
  refine Bod.bip 41 (by decide) dc_336_266 ?_
  refine Bod.virt (r := []) dc_336_268 kr_336_270 ⟨Or.inl rfl, ow_323, cl_14⟩ (by rw [np_323]; rfl) (by rw [np_323]; rfl) (ob_of (mk_61 _)) (Nat.le_of_ble_eq_true rfl) (c1  ) ?_
  show Bod _ _ _ _ [_] _ _ _
  refine Bod.ifT dc_336_271 rfl (k1_ne_T (k_ne 1 0 rfl rfl (by omega) (by omega) (by omega))) ?_
  refine Bod.aldnG dc_336_276 (by repeat (first | exact q0 | exact sm_get_p1 | exact sm_get_p2e | refine sm_get_p1m (by decide) (by decide) ?_ | refine sm_get_p1n (by decide) rfl ?_ | refine sm_get_p2n (by decide) (by decide) rfl ?_)) ?_
  refine Bod.bip 11 (by decide) dc_336_277 ?_
  refine Bod.virt (r := []) dc_336_279 kr_336_305 ⟨Or.inl rfl, ow_325, cl_14⟩ (by rw [np_325]; rfl) (by rw [np_325]; rfl) (ob_of (mk_61 _)) (Nat.le_of_ble_eq_true rfl) (c2  ) ?_
  show Bod _ _ _ _ [_] _ _ _
  refine Bod.ist dc_336_282 (by rw [ml_336]; exact Nat.le_of_ble_eq_true rfl) ?_
  refine Bod.aldnG dc_336_284 (by repeat (first | exact q0 | exact sm_get_p1 | exact sm_get_p2e | refine sm_get_p1m (by decide) (by decide) ?_ | refine sm_get_p1n (by decide) rfl ?_ | refine sm_get_p2n (by decide) (by decide) rfl ?_)) ?_
  refine Bod.get dc_336_285 fr_336_206 (mk_61 _) rfl ?_
  refine Bod.eqV (.ref m) (by first | exact hv1 | (simp only [rIV, rJV, rAV, rLV, rQV, rV, reduceIte, Nat.reduceEqDiff]; exact hv1)) ?_
  refine Bod.get dc_336_288 fr_336_370 (mk_code hm (by first | exact hz2 | (simp only [rIS, rJS, rAS, rLS, rVS, rQS, rS_hold]; exact hz2))) rfl ?_
  refine Bod.eqV (.ref g) (by first | exact hv3 | (simp only [rIV, rJV, rAV, rLV, rQV, rV, reduceIte, Nat.reduceEqDiff]; exact hv3)) ?_
  refine Bod.ildG dc_336_291 (by repeat (first | exact q4 | exact sm_get_p1 | exact sm_get_p2e | refine sm_get_p1m (by decide) (by decide) ?_ | refine sm_get_p1n (by decide) rfl ?_ | refine sm_get_p2n (by decide) (by decide) rfl ?_)) ?_
  refine Bod.aldnG dc_336_293 (by repeat (first | exact q0 | exact sm_get_p1 | exact sm_get_p2e | refine sm_get_p1m (by decide) (by decide) ?_ | refine sm_get_p1n (by decide) rfl ?_ | refine sm_get_p2n (by decide) (by decide) rfl ?_)) ?_
  refine Bod.get dc_336_294 fr_336_206 (mk_61 _) rfl ?_
  refine Bod.eqV (.ref m) (by first | exact hv1 | (simp only [rIV, rJV, rAV, rLV, rQV, rV, reduceIte, Nat.reduceEqDiff]; exact hv1)) ?_
  refine Bod.get dc_336_297 fr_336_219 (mk_code hm (by first | exact hz2 | (simp only [rIS, rJS, rAS, rLS, rVS, rQS, rS_hold]; exact hz2))) rfl ?_
  refine Bod.eqI (nI n1) (by first | (simp (disch := omega) only [rI, rIe, rA, rIA, rLA, rJA, rVI, rQI, rVA, rQA, upd_at,  rAI, rLI, rJI, nI_add, pk_sub, kc_0, kc_1, kc_2, kc_3, kc_4, kc_5, reduceIte, Nat.reduceEqDiff, Nat.add_zero, rI_hold, rI_hold, rL_hold, hn1]; done) | (simp (disch := omega) only [rI, rIe, rA, rIA, rLA, rJA, rVI, rQI, rVA, rQA, upd_at,  rAI, rLI, rJI, nI_add, pk_sub, kc_0, kc_1, kc_2, kc_3, kc_4, kc_5, reduceIte, Nat.reduceEqDiff, Nat.add_zero, rI_hold, rI_hold, rL_hold, hn1]; exact congrArg nI (by omega))) ?_
  refine Bod.iastN (N := N) lf rfl (by omega) (by omega) dc_336_300 (mk_isI (by first | exact hg3 | exact isK_S (by simp only [rIS, rJS, rAS, rLS, rVS, rQS, rS_hold]) hg3)) (sa_isI (by first | exact hg3 | exact isK_S (by simp only [rIS, rJS, rAS, rLS, rVS, rQS, rS_hold]) hg3)) (mu_A _ _ _ _) ?_
  refine Bod.aldnG dc_336_301 (by repeat (first | exact q0 | exact sm_get_p1 | exact sm_get_p2e | refine sm_get_p1m (by decide) (by decide) ?_ | refine sm_get_p1n (by decide) rfl ?_ | refine sm_get_p2n (by decide) (by decide) rfl ?_)) ?_
  refine Bod.get dc_336_302 fr_336_206 (mk_61 _) rfl ?_
  refine Bod.eqV (.ref m) (by first | exact hv1 | (simp only [rIV, rJV, rAV, rLV, rQV, rV, reduceIte, Nat.reduceEqDiff]; exact hv1)) ?_
  refine Bod.get dc_336_305 fr_336_373 (mk_code hm (by first | exact hz2 | (simp only [rIS, rJS, rAS, rLS, rVS, rQS, rS_hold]; exact hz2))) rfl ?_
  refine Bod.eqV (.ref g1) (by first | exact hv4 | (simp only [rIV, rJV, rAV, rLV, rQV, rV, reduceIte, Nat.reduceEqDiff]; exact hv4)) ?_
  refine Bod.ildG dc_336_308 (by repeat (first | exact q4 | exact sm_get_p1 | exact sm_get_p2e | refine sm_get_p1m (by decide) (by decide) ?_ | refine sm_get_p1n (by decide) rfl ?_ | refine sm_get_p2n (by decide) (by decide) rfl ?_)) ?_
  refine Bod.aldnG dc_336_310 (by repeat (first | exact q0 | exact sm_get_p1 | exact sm_get_p2e | refine sm_get_p1m (by decide) (by decide) ?_ | refine sm_get_p1n (by decide) rfl ?_ | refine sm_get_p2n (by decide) (by decide) rfl ?_)) ?_
  refine Bod.get dc_336_311 fr_336_344 (mk_61 _) rfl ?_
  refine Bod.aldnG dc_336_314 (by repeat (first | exact q0 | exact sm_get_p1 | exact sm_get_p2e | refine sm_get_p1m (by decide) (by decide) ?_ | refine sm_get_p1n (by decide) rfl ?_ | refine sm_get_p2n (by decide) (by decide) rfl ?_)) ?_
  refine Bod.get dc_336_315 fr_336_236 (mk_61 _) rfl ?_
  refine Bod.eqI (nI F) (by first | (simp (disch := omega) only [rI, rIe, rA, rIA, rLA, rJA, rVI, rQI, rVA, rQA, upd_at,  rAI, rLI, rJI, nI_add, pk_sub, kc_0, kc_1, kc_2, kc_3, kc_4, kc_5, reduceIte, Nat.reduceEqDiff, Nat.add_zero, rI_hold, rI_hold, rL_hold, hn1, hd419, Ne.symm hd419, hF]; done) | (simp (disch := omega) only [rI, rIe, rA, rIA, rLA, rJA, rVI, rQI, rVA, rQA, upd_at,  rAI, rLI, rJI, nI_add, pk_sub, kc_0, kc_1, kc_2, kc_3, kc_4, kc_5, reduceIte, Nat.reduceEqDiff, Nat.add_zero, rI_hold, rI_hold, rL_hold, hn1, hd419, Ne.symm hd419, hF]; exact congrArg nI (by omega))) ?_
  refine Bod.ialdN F rfl (by omega) (by omega) dc_336_318 (mk_76 _) ?_
  refine Bod.eqI (nI e76) (by first | (simp (disch := omega) only [rI, rIe, rA, rIA, rLA, rJA, rVI, rQI, rVA, rQA, upd_at,  rAI, rLI, rJI, nI_add, pk_sub, kc_0, kc_1, kc_2, kc_3, kc_4, kc_5, reduceIte, Nat.reduceEqDiff, Nat.add_zero, rI_hold, rI_hold, rL_hold, hn1, hd419, Ne.symm hd419, hF, he76]; done) | (simp (disch := omega) only [rI, rIe, rA, rIA, rLA, rJA, rVI, rQI, rVA, rQA, upd_at,  rAI, rLI, rJI, nI_add, pk_sub, kc_0, kc_1, kc_2, kc_3, kc_4, kc_5, reduceIte, Nat.reduceEqDiff, Nat.add_zero, rI_hold, rI_hold, rL_hold, hn1, hd419, Ne.symm hd419, hF, he76]; exact congrArg nI (by omega))) ?_
  refine Bod.iastN (N := N1) lf rfl (by omega) (by omega) dc_336_319 (mk_isI (by first | exact hg4 | exact isK_S (by simp only [rIS, rJS, rAS, rLS, rVS, rQS, rS_hold]) hg4)) (sa_isI (by first | exact hg4 | exact isK_S (by simp only [rIS, rJS, rAS, rLS, rVS, rQS, rS_hold]) hg4)) (mu_A _ _ _ _) ?_
  refine Bod.aldnG dc_336_320 (by repeat (first | exact q0 | exact sm_get_p1 | exact sm_get_p2e | refine sm_get_p1m (by decide) (by decide) ?_ | refine sm_get_p1n (by decide) rfl ?_ | refine sm_get_p2n (by decide) (by decide) rfl ?_)) ?_
  refine Bod.get dc_336_321 fr_336_129 (mk_61 _) rfl ?_
  refine Bod.aldnG dc_336_324 (by repeat (first | exact q0 | exact sm_get_p1 | exact sm_get_p2e | refine sm_get_p1m (by decide) (by decide) ?_ | refine sm_get_p1n (by decide) rfl ?_ | refine sm_get_p2n (by decide) (by decide) rfl ?_)) ?_
  refine Bod.get dc_336_325 fr_336_190 (mk_61 _) rfl ?_
  refine Bod.eqI (nI k) (by first | (simp (disch := omega) only [rI, rIe, rA, rIA, rLA, rJA, rVI, rQI, rVA, rQA, upd_at,  rAI, rLI, rJI, nI_add, pk_sub, kc_0, kc_1, kc_2, kc_3, kc_4, kc_5, reduceIte, Nat.reduceEqDiff, Nat.add_zero, rI_hold, rI_hold, rL_hold, hn1, hd419, Ne.symm hd419, hF, he76, hk]; done) | (simp (disch := omega) only [rI, rIe, rA, rIA, rLA, rJA, rVI, rQI, rVA, rQA, upd_at,  rAI, rLI, rJI, nI_add, pk_sub, kc_0, kc_1, kc_2, kc_3, kc_4, kc_5, reduceIte, Nat.reduceEqDiff, Nat.add_zero, rI_hold, rI_hold, rL_hold, hn1, hd419, Ne.symm hd419, hF, he76, hk]; exact congrArg nI (by omega))) ?_
  refine Bod.ialdN k rfl (by omega) (by omega) dc_336_328 (mk_67 _) ?_
  refine Bod.eqI (nI e67) (by first | (simp (disch := omega) only [rI, rIe, rA, rIA, rLA, rJA, rVI, rQI, rVA, rQA, upd_at,  rAI, rLI, rJI, nI_add, pk_sub, kc_0, kc_1, kc_2, kc_3, kc_4, kc_5, reduceIte, Nat.reduceEqDiff, Nat.add_zero, rI_hold, rI_hold, rL_hold, hn1, hd419, Ne.symm hd419, hF, he76, hk, he67]; done) | (simp (disch := omega) only [rI, rIe, rA, rIA, rLA, rJA, rVI, rQI, rVA, rQA, upd_at,  rAI, rLI, rJI, nI_add, pk_sub, kc_0, kc_1, kc_2, kc_3, kc_4, kc_5, reduceIte, Nat.reduceEqDiff, Nat.add_zero, rI_hold, rI_hold, rL_hold, hn1, hd419, Ne.symm hd419, hF, he76, hk, he67]; exact congrArg nI (by omega))) ?_
  refine Bod.ic 5 (by decide) dc_336_329 ?_
  refine Bod.icF dc_336_330 rfl (k2_ne_F (k_eq e67 5 rfl rfl (by omega))) ?_
  refine Bod.aldnG dc_336_333 (by repeat (first | exact q0 | exact sm_get_p1 | exact sm_get_p2e | refine sm_get_p1m (by decide) (by decide) ?_ | refine sm_get_p1n (by decide) rfl ?_ | refine sm_get_p2n (by decide) (by decide) rfl ?_)) ?_
  refine Bod.get dc_336_334 fr_336_129 (mk_61 _) rfl ?_
  refine Bod.aldnG dc_336_337 (by repeat (first | exact q0 | exact sm_get_p1 | exact sm_get_p2e | refine sm_get_p1m (by decide) (by decide) ?_ | refine sm_get_p1n (by decide) rfl ?_ | refine sm_get_p2n (by decide) (by decide) rfl ?_)) ?_
  refine Bod.get dc_336_338 fr_336_190 (mk_61 _) rfl ?_
  refine Bod.eqI (nI k) (by first | (simp (disch := omega) only [rI, rIe, rA, rIA, rLA, rJA, rVI, rQI, rVA, rQA, upd_at,  rAI, rLI, rJI, nI_add, pk_sub, kc_0, kc_1, kc_2, kc_3, kc_4, kc_5, reduceIte, Nat.reduceEqDiff, Nat.add_zero, rI_hold, rI_hold, rL_hold, hn1, hd419, Ne.symm hd419, hF, he76, hk, he67]; done) | (simp (disch := omega) only [rI, rIe, rA, rIA, rLA, rJA, rVI, rQI, rVA, rQA, upd_at,  rAI, rLI, rJI, nI_add, pk_sub, kc_0, kc_1, kc_2, kc_3, kc_4, kc_5, reduceIte, Nat.reduceEqDiff, Nat.add_zero, rI_hold, rI_hold, rL_hold, hn1, hd419, Ne.symm hd419, hF, he76, hk, he67]; exact congrArg nI (by omega))) ?_
  refine Bod.ic 1 (by decide) dc_336_341 ?_
  refine Bod.addN (k + 1) (by omega) dc_336_342 ?_
  refine Bod.ialdN (k + 1) rfl (by omega) (by omega) dc_336_343 (mk_67 _) ?_
  refine Bod.eqI (nI e671) (by first | (simp (disch := omega) only [rI, rIe, rA, rIA, rLA, rJA, rVI, rQI, rVA, rQA, upd_at,  rAI, rLI, rJI, nI_add, pk_sub, kc_0, kc_1, kc_2, kc_3, kc_4, kc_5, reduceIte, Nat.reduceEqDiff, Nat.add_zero, rI_hold, rI_hold, rL_hold, hn1, hd419, Ne.symm hd419, hF, he76, hk, he67, he671]; done) | (simp (disch := omega) only [rI, rIe, rA, rIA, rLA, rJA, rVI, rQI, rVA, rQA, upd_at,  rAI, rLI, rJI, nI_add, pk_sub, kc_0, kc_1, kc_2, kc_3, kc_4, kc_5, reduceIte, Nat.reduceEqDiff, Nat.add_zero, rI_hold, rI_hold, rL_hold, hn1, hd419, Ne.symm hd419, hF, he76, hk, he67, he671]; exact congrArg nI (by omega))) ?_
  refine Bod.bip 6 (by decide) dc_336_344 ?_
  refine Bod.icT dc_336_346 rfl (k2_ne_T (k_ne e671 6 rfl rfl (by omega) (by omega) (by omega))) ?_
  exact hB _ (by repeat (first | exact q0 | exact sm_get_p1 | exact sm_get_p2e | refine sm_get_p1m (by decide) (by decide) ?_ | refine sm_get_p1n (by decide) rfl ?_ | refine sm_get_p2n (by decide) (by decide) rfl ?_)) (by repeat (first | exact q1 | exact sm_get_p1 | exact sm_get_p2e | refine sm_get_p1m (by decide) (by decide) ?_ | refine sm_get_p1n (by decide) rfl ?_ | refine sm_get_p2n (by decide) (by decide) rfl ?_)) (by repeat (first | exact q2 | exact sm_get_p1 | exact sm_get_p2e | refine sm_get_p1m (by decide) (by decide) ?_ | refine sm_get_p1n (by decide) rfl ?_ | refine sm_get_p2n (by decide) (by decide) rfl ?_)) (by repeat (first | exact q3 | exact sm_get_p1 | exact sm_get_p2e | refine sm_get_p1m (by decide) (by decide) ?_ | refine sm_get_p1n (by decide) rfl ?_ | refine sm_get_p2n (by decide) (by decide) rfl ?_)) (by repeat (first | exact q4 | exact sm_get_p1 | exact sm_get_p2e | refine sm_get_p1m (by decide) (by decide) ?_ | refine sm_get_p1n (by decide) rfl ?_ | refine sm_get_p2n (by decide) (by decide) rfl ?_)) (by repeat (first | exact q0 | exact sm_get_p1 | exact sm_get_p2e | refine sm_get_p1m (by decide) (by decide) ?_ | refine sm_get_p1n (by decide) rfl ?_ | refine sm_get_p2n (by decide) (by decide) rfl ?_))
theorem zDq_3 {d : Nat} {S Sf : cS} {v : Option Value} {lv : sm_L} {la : Nat} {lb : Nat} {lnm : Nat} {lf : Nat} {S1 : cS} {S2 : cS} {a : Nat} {m : Nat} {u : Nat} {g : Nat} {N : Nat} {n1 : Nat} {g1 : Nat} {N1 : Nat} {F : Nat} {e76 : Nat} {k : Nat} {e67 : Nat} {e671 : Nat} {S3 : cS} (q0 : sm_get lv 0 = some (.ref 61)) (q1 : sm_get lv 1 = some (.int (nI la))) (q2 : sm_get lv 2 = some (.int (nI lb))) (q3 : sm_get lv 3 = some (.int (nI lnm))) (q4 : sm_get lv 4 = some (.int (nI lf))) (q5 : sm_get lv 5 = some (.int (nI 0))) (mla : la < 2 ^ 20) (mlb : lb < 2 ^ 20) (mlnm : lnm < 2 ^ 20) (mlf : lf < 2 ^ 20) (c1 : Ans (d + 8) 323 [.ref 61, .int (nI 41)] S (some (.int (nI 1))) S1) (ma : a < 2 ^ 20) (c2 : Ans (d + 8) 325 [.ref 61, .int (nI 11)] S1 (some (.int (nI a))) S2) (hm : 108 ≤ m) (hv1 : sV S2 6114 = .ref m) (hz2 : (sS S2)[m - 108]? = some (12, u)) (hv3 : sV S2 (100 * m + 8) = .ref g) (hg3 : isK S2 g 0 N) (mN : N < 2 ^ 20) (hn1 : sI S2 (100 * m + 1) = nI n1) (mn1 : n1 < 2 ^ 20) (b1 : lf < N) (hv4 : sV S2 (100 * m + 9) = .ref g1) (hg4 : isK S2 g1 0 N1) (mN1 : N1 < 2 ^ 20) (hd419 : g ≠ g1) (hF : sI (wA g lf (nI n1) S2) 6122 = nI F) (mF : F < 15) (he76 : sA (wA g lf (nI n1) S2) 76 F = nI e76) (me76 : e76 < 2 ^ 20) (b2 : lf < N1) (hk : sI (wA g1 lf (nI e76) (wA g lf (nI n1) S2)) 6115 = nI k) (mk : k < 6001) (he67 : sA (wA g1 lf (nI e76) (wA g lf (nI n1) S2)) 67 k = nI e67) (me67 : e67 < 2 ^ 20) (b3 : e67 = 5) (he671 : sA (wA g1 lf (nI e76) (wA g lf (nI n1) S2)) 67 (k + 1) = nI e671) (me671 : e671 < 2 ^ 20) (b4 : e671 = 6) (c3 : Ans (d + 8) 338 [.ref 61, .int (nI (k + 2)), .int (nI la)] (wA g1 lf (nI e76) (wA g lf (nI n1) S2)) none S3) (hB : ∀ lv1 : sm_L, sm_get lv1 0 = some (.ref 61) → sm_get lv1 1 = some (.int (nI la)) → sm_get lv1 2 = some (.int (nI lb)) → sm_get lv1 3 = some (.int (nI lnm)) → sm_get lv1 4 = some (.int (nI lf)) → sm_get lv1 6 = some (.int (nI a)) → Bod (d + 8) 336 360 lv1 [] (S3) v Sf) : Bod (d + 8) 336 131 lv [] S v Sf := by
  refine Bod.ildG dc_336_131 (by repeat (first | exact q5 | exact sm_get_p1 | exact sm_get_p2e | refine sm_get_p1m (by decide) (by decide) ?_ | refine sm_get_p1n (by decide) rfl ?_ | refine sm_get_p2n (by decide) (by decide) rfl ?_)) ?_
  refine Bod.ifT dc_336_133 rfl (k1_eq_T (k_eq 0 0 rfl rfl (by omega))) ?_
  refine Bod.aldnG dc_336_265 (by repeat (first | exact q0 | exact sm_get_p1 | exact sm_get_p2e | refine sm_get_p1m (by decide) (by decide) ?_ | refine sm_get_p1n (by decide) rfl ?_ | refine sm_get_p2n (by decide) (by decide) rfl ?_)) ?_
  refine Bod.bip 41 (by decide) dc_336_266 ?_
  refine Bod.virt (r := []) dc_336_268 kr_336_270 ⟨Or.inl rfl, ow_323, cl_14⟩ (by rw [np_323]; rfl) (by rw [np_323]; rfl) (ob_of (mk_61 _)) (Nat.le_of_ble_eq_true rfl) (c1  ) ?_
  show Bod _ _ _ _ [_] _ _ _
  refine Bod.ifT dc_336_271 rfl (k1_ne_T (k_ne 1 0 rfl rfl (by omega) (by omega) (by omega))) ?_
  refine Bod.aldnG dc_336_276 (by repeat (first | exact q0 | exact sm_get_p1 | exact sm_get_p2e | refine sm_get_p1m (by decide) (by decide) ?_ | refine sm_get_p1n (by decide) rfl ?_ | refine sm_get_p2n (by decide) (by decide) rfl ?_)) ?_
  refine Bod.bip 11 (by decide) dc_336_277 ?_
  refine Bod.virt (r := []) dc_336_279 kr_336_305 ⟨Or.inl rfl, ow_325, cl_14⟩ (by rw [np_325]; rfl) (by rw [np_325]; rfl) (ob_of (mk_61 _)) (Nat.le_of_ble_eq_true rfl) (c2  ) ?_
  show Bod _ _ _ _ [_] _ _ _
  refine Bod.ist dc_336_282 (by rw [ml_336]; exact Nat.le_of_ble_eq_true rfl) ?_
  refine Bod.aldnG dc_336_284 (by repeat (first | exact q0 | exact sm_get_p1 | exact sm_get_p2e | refine sm_get_p1m (by decide) (by decide) ?_ | refine sm_get_p1n (by decide) rfl ?_ | refine sm_get_p2n (by decide) (by decide) rfl ?_)) ?_
  refine Bod.get dc_336_285 fr_336_206 (mk_61 _) rfl ?_
  refine Bod.eqV (.ref m) (by first | exact hv1 | (simp only [rIV, rJV, rAV, rLV, rQV, rV, reduceIte, Nat.reduceEqDiff]; exact hv1)) ?_
  refine Bod.get dc_336_288 fr_336_370 (mk_code hm (by first | exact hz2 | (simp only [rIS, rJS, rAS, rLS, rVS, rQS, rS_hold]; exact hz2))) rfl ?_
  refine Bod.eqV (.ref g) (by first | exact hv3 | (simp only [rIV, rJV, rAV, rLV, rQV, rV, reduceIte, Nat.reduceEqDiff]; exact hv3)) ?_
  refine Bod.ildG dc_336_291 (by repeat (first | exact q4 | exact sm_get_p1 | exact sm_get_p2e | refine sm_get_p1m (by decide) (by decide) ?_ | refine sm_get_p1n (by decide) rfl ?_ | refine sm_get_p2n (by decide) (by decide) rfl ?_)) ?_
  refine Bod.aldnG dc_336_293 (by repeat (first | exact q0 | exact sm_get_p1 | exact sm_get_p2e | refine sm_get_p1m (by decide) (by decide) ?_ | refine sm_get_p1n (by decide) rfl ?_ | refine sm_get_p2n (by decide) (by decide) rfl ?_)) ?_
  refine Bod.get dc_336_294 fr_336_206 (mk_61 _) rfl ?_
  refine Bod.eqV (.ref m) (by first | exact hv1 | (simp only [rIV, rJV, rAV, rLV, rQV, rV, reduceIte, Nat.reduceEqDiff]; exact hv1)) ?_
  refine Bod.get dc_336_297 fr_336_219 (mk_code hm (by first | exact hz2 | (simp only [rIS, rJS, rAS, rLS, rVS, rQS, rS_hold]; exact hz2))) rfl ?_
  refine Bod.eqI (nI n1) (by first | (simp (disch := omega) only [rI, rIe, rA, rIA, rLA, rJA, rVI, rQI, rVA, rQA, upd_at,  rAI, rLI, rJI, nI_add, pk_sub, kc_0, kc_1, kc_2, kc_3, kc_4, kc_5, reduceIte, Nat.reduceEqDiff, Nat.add_zero, rI_hold, rI_hold, rL_hold, hn1]; done) | (simp (disch := omega) only [rI, rIe, rA, rIA, rLA, rJA, rVI, rQI, rVA, rQA, upd_at,  rAI, rLI, rJI, nI_add, pk_sub, kc_0, kc_1, kc_2, kc_3, kc_4, kc_5, reduceIte, Nat.reduceEqDiff, Nat.add_zero, rI_hold, rI_hold, rL_hold, hn1]; exact congrArg nI (by omega))) ?_
  refine Bod.iastN (N := N) lf rfl (by omega) (by omega) dc_336_300 (mk_isI (by first | exact hg3 | exact isK_S (by simp only [rIS, rJS, rAS, rLS, rVS, rQS, rS_hold]) hg3)) (sa_isI (by first | exact hg3 | exact isK_S (by simp only [rIS, rJS, rAS, rLS, rVS, rQS, rS_hold]) hg3)) (mu_A _ _ _ _) ?_
  refine Bod.aldnG dc_336_301 (by repeat (first | exact q0 | exact sm_get_p1 | exact sm_get_p2e | refine sm_get_p1m (by decide) (by decide) ?_ | refine sm_get_p1n (by decide) rfl ?_ | refine sm_get_p2n (by decide) (by decide) rfl ?_)) ?_
  refine Bod.get dc_336_302 fr_336_206 (mk_61 _) rfl ?_
  refine Bod.eqV (.ref m) (by first | exact hv1 | (simp only [rIV, rJV, rAV, rLV, rQV, rV, reduceIte, Nat.reduceEqDiff]; exact hv1)) ?_
  refine Bod.get dc_336_305 fr_336_373 (mk_code hm (by first | exact hz2 | (simp only [rIS, rJS, rAS, rLS, rVS, rQS, rS_hold]; exact hz2))) rfl ?_
  refine Bod.eqV (.ref g1) (by first | exact hv4 | (simp only [rIV, rJV, rAV, rLV, rQV, rV, reduceIte, Nat.reduceEqDiff]; exact hv4)) ?_
  refine Bod.ildG dc_336_308 (by repeat (first | exact q4 | exact sm_get_p1 | exact sm_get_p2e | refine sm_get_p1m (by decide) (by decide) ?_ | refine sm_get_p1n (by decide) rfl ?_ | refine sm_get_p2n (by decide) (by decide) rfl ?_)) ?_
  refine Bod.aldnG dc_336_310 (by repeat (first | exact q0 | exact sm_get_p1 | exact sm_get_p2e | refine sm_get_p1m (by decide) (by decide) ?_ | refine sm_get_p1n (by decide) rfl ?_ | refine sm_get_p2n (by decide) (by decide) rfl ?_)) ?_
  refine Bod.get dc_336_311 fr_336_344 (mk_61 _) rfl ?_
  refine Bod.aldnG dc_336_314 (by repeat (first | exact q0 | exact sm_get_p1 | exact sm_get_p2e | refine sm_get_p1m (by decide) (by decide) ?_ | refine sm_get_p1n (by decide) rfl ?_ | refine sm_get_p2n (by decide) (by decide) rfl ?_)) ?_
  refine Bod.get dc_336_315 fr_336_236 (mk_61 _) rfl ?_
  refine Bod.eqI (nI F) (by first | (simp (disch := omega) only [rI, rIe, rA, rIA, rLA, rJA, rVI, rQI, rVA, rQA, upd_at,  rAI, rLI, rJI, nI_add, pk_sub, kc_0, kc_1, kc_2, kc_3, kc_4, kc_5, reduceIte, Nat.reduceEqDiff, Nat.add_zero, rI_hold, rI_hold, rL_hold, hn1, hd419, Ne.symm hd419, hF]; done) | (simp (disch := omega) only [rI, rIe, rA, rIA, rLA, rJA, rVI, rQI, rVA, rQA, upd_at,  rAI, rLI, rJI, nI_add, pk_sub, kc_0, kc_1, kc_2, kc_3, kc_4, kc_5, reduceIte, Nat.reduceEqDiff, Nat.add_zero, rI_hold, rI_hold, rL_hold, hn1, hd419, Ne.symm hd419, hF]; exact congrArg nI (by omega))) ?_
  refine Bod.ialdN F rfl (by omega) (by omega) dc_336_318 (mk_76 _) ?_
  refine Bod.eqI (nI e76) (by first | (simp (disch := omega) only [rI, rIe, rA, rIA, rLA, rJA, rVI, rQI, rVA, rQA, upd_at,  rAI, rLI, rJI, nI_add, pk_sub, kc_0, kc_1, kc_2, kc_3, kc_4, kc_5, reduceIte, Nat.reduceEqDiff, Nat.add_zero, rI_hold, rI_hold, rL_hold, hn1, hd419, Ne.symm hd419, hF, he76]; done) | (simp (disch := omega) only [rI, rIe, rA, rIA, rLA, rJA, rVI, rQI, rVA, rQA, upd_at,  rAI, rLI, rJI, nI_add, pk_sub, kc_0, kc_1, kc_2, kc_3, kc_4, kc_5, reduceIte, Nat.reduceEqDiff, Nat.add_zero, rI_hold, rI_hold, rL_hold, hn1, hd419, Ne.symm hd419, hF, he76]; exact congrArg nI (by omega))) ?_
  refine Bod.iastN (N := N1) lf rfl (by omega) (by omega) dc_336_319 (mk_isI (by first | exact hg4 | exact isK_S (by simp only [rIS, rJS, rAS, rLS, rVS, rQS, rS_hold]) hg4)) (sa_isI (by first | exact hg4 | exact isK_S (by simp only [rIS, rJS, rAS, rLS, rVS, rQS, rS_hold]) hg4)) (mu_A _ _ _ _) ?_
  refine Bod.aldnG dc_336_320 (by repeat (first | exact q0 | exact sm_get_p1 | exact sm_get_p2e | refine sm_get_p1m (by decide) (by decide) ?_ | refine sm_get_p1n (by decide) rfl ?_ | refine sm_get_p2n (by decide) (by decide) rfl ?_)) ?_
  refine Bod.get dc_336_321 fr_336_129 (mk_61 _) rfl ?_
  refine Bod.aldnG dc_336_324 (by repeat (first | exact q0 | exact sm_get_p1 | exact sm_get_p2e | refine sm_get_p1m (by decide) (by decide) ?_ | refine sm_get_p1n (by decide) rfl ?_ | refine sm_get_p2n (by decide) (by decide) rfl ?_)) ?_
  refine Bod.get dc_336_325 fr_336_190 (mk_61 _) rfl ?_
  refine Bod.eqI (nI k) (by first | (simp (disch := omega) only [rI, rIe, rA, rIA, rLA, rJA, rVI, rQI, rVA, rQA, upd_at,  rAI, rLI, rJI, nI_add, pk_sub, kc_0, kc_1, kc_2, kc_3, kc_4, kc_5, reduceIte, Nat.reduceEqDiff, Nat.add_zero, rI_hold, rI_hold, rL_hold, hn1, hd419, Ne.symm hd419, hF, he76, hk]; done) | (simp (disch := omega) only [rI, rIe, rA, rIA, rLA, rJA, rVI, rQI, rVA, rQA, upd_at,  rAI, rLI, rJI, nI_add, pk_sub, kc_0, kc_1, kc_2, kc_3, kc_4, kc_5, reduceIte, Nat.reduceEqDiff, Nat.add_zero, rI_hold, rI_hold, rL_hold, hn1, hd419, Ne.symm hd419, hF, he76, hk]; exact congrArg nI (by omega))) ?_
  refine Bod.ialdN k rfl (by omega) (by omega) dc_336_328 (mk_67 _) ?_
  refine Bod.eqI (nI e67) (by first | (simp (disch := omega) only [rI, rIe, rA, rIA, rLA, rJA, rVI, rQI, rVA, rQA, upd_at,  rAI, rLI, rJI, nI_add, pk_sub, kc_0, kc_1, kc_2, kc_3, kc_4, kc_5, reduceIte, Nat.reduceEqDiff, Nat.add_zero, rI_hold, rI_hold, rL_hold, hn1, hd419, Ne.symm hd419, hF, he76, hk, he67]; done) | (simp (disch := omega) only [rI, rIe, rA, rIA, rLA, rJA, rVI, rQI, rVA, rQA, upd_at,  rAI, rLI, rJI, nI_add, pk_sub, kc_0, kc_1, kc_2, kc_3, kc_4, kc_5, reduceIte, Nat.reduceEqDiff, Nat.add_zero, rI_hold, rI_hold, rL_hold, hn1, hd419, Ne.symm hd419, hF, he76, hk, he67]; exact congrArg nI (by omega))) ?_
  refine Bod.ic 5 (by decide) dc_336_329 ?_
  refine Bod.icF dc_336_330 rfl (k2_ne_F (k_eq e67 5 rfl rfl (by omega))) ?_
  refine Bod.aldnG dc_336_333 (by repeat (first | exact q0 | exact sm_get_p1 | exact sm_get_p2e | refine sm_get_p1m (by decide) (by decide) ?_ | refine sm_get_p1n (by decide) rfl ?_ | refine sm_get_p2n (by decide) (by decide) rfl ?_)) ?_
  refine Bod.get dc_336_334 fr_336_129 (mk_61 _) rfl ?_
  refine Bod.aldnG dc_336_337 (by repeat (first | exact q0 | exact sm_get_p1 | exact sm_get_p2e | refine sm_get_p1m (by decide) (by decide) ?_ | refine sm_get_p1n (by decide) rfl ?_ | refine sm_get_p2n (by decide) (by decide) rfl ?_)) ?_
  refine Bod.get dc_336_338 fr_336_190 (mk_61 _) rfl ?_
  refine Bod.eqI (nI k) (by first | (simp (disch := omega) only [rI, rIe, rA, rIA, rLA, rJA, rVI, rQI, rVA, rQA, upd_at,  rAI, rLI, rJI, nI_add, pk_sub, kc_0, kc_1, kc_2, kc_3, kc_4, kc_5, reduceIte, Nat.reduceEqDiff, Nat.add_zero, rI_hold, rI_hold, rL_hold, hn1, hd419, Ne.symm hd419, hF, he76, hk, he67]; done) | (simp (disch := omega) only [rI, rIe, rA, rIA, rLA, rJA, rVI, rQI, rVA, rQA, upd_at,  rAI, rLI, rJI, nI_add, pk_sub, kc_0, kc_1, kc_2, kc_3, kc_4, kc_5, reduceIte, Nat.reduceEqDiff, Nat.add_zero, rI_hold, rI_hold, rL_hold, hn1, hd419, Ne.symm hd419, hF, he76, hk, he67]; exact congrArg nI (by omega))) ?_
  refine Bod.ic 1 (by decide) dc_336_341 ?_
  refine Bod.addN (k + 1) (by omega) dc_336_342 ?_
  refine Bod.ialdN (k + 1) rfl (by omega) (by omega) dc_336_343 (mk_67 _) ?_
  refine Bod.eqI (nI e671) (by first | (simp (disch := omega) only [rI, rIe, rA, rIA, rLA, rJA, rVI, rQI, rVA, rQA, upd_at,  rAI, rLI, rJI, nI_add, pk_sub, kc_0, kc_1, kc_2, kc_3, kc_4, kc_5, reduceIte, Nat.reduceEqDiff, Nat.add_zero, rI_hold, rI_hold, rL_hold, hn1, hd419, Ne.symm hd419, hF, he76, hk, he67, he671]; done) | (simp (disch := omega) only [rI, rIe, rA, rIA, rLA, rJA, rVI, rQI, rVA, rQA, upd_at,  rAI, rLI, rJI, nI_add, pk_sub, kc_0, kc_1, kc_2, kc_3, kc_4, kc_5, reduceIte, Nat.reduceEqDiff, Nat.add_zero, rI_hold, rI_hold, rL_hold, hn1, hd419, Ne.symm hd419, hF, he76, hk, he67, he671]; exact congrArg nI (by omega))) ?_
  refine Bod.bip 6 (by decide) dc_336_344 ?_
  refine Bod.icF dc_336_346 rfl (k2_ne_F (k_eq e671 6 rfl rfl (by omega))) ?_
  refine Bod.aldnG dc_336_349 (by repeat (first | exact q0 | exact sm_get_p1 | exact sm_get_p2e | refine sm_get_p1m (by decide) (by decide) ?_ | refine sm_get_p1n (by decide) rfl ?_ | refine sm_get_p2n (by decide) (by decide) rfl ?_)) ?_
  refine Bod.aldnG dc_336_350 (by repeat (first | exact q0 | exact sm_get_p1 | exact sm_get_p2e | refine sm_get_p1m (by decide) (by decide) ?_ | refine sm_get_p1n (by decide) rfl ?_ | refine sm_get_p2n (by decide) (by decide) rfl ?_)) ?_
  refine Bod.get dc_336_351 fr_336_190 (mk_61 _) rfl ?_
  refine Bod.eqI (nI k) (by first | (simp (disch := omega) only [rI, rIe, rA, rIA, rLA, rJA, rVI, rQI, rVA, rQA, upd_at,  rAI, rLI, rJI, nI_add, pk_sub, kc_0, kc_1, kc_2, kc_3, kc_4, kc_5, reduceIte, Nat.reduceEqDiff, Nat.add_zero, rI_hold, rI_hold, rL_hold, hn1, hd419, Ne.symm hd419, hF, he76, hk, he67, he671]; done) | (simp (disch := omega) only [rI, rIe, rA, rIA, rLA, rJA, rVI, rQI, rVA, rQA, upd_at,  rAI, rLI, rJI, nI_add, pk_sub, kc_0, kc_1, kc_2, kc_3, kc_4, kc_5, reduceIte, Nat.reduceEqDiff, Nat.add_zero, rI_hold, rI_hold, rL_hold, hn1, hd419, Ne.symm hd419, hF, he76, hk, he67, he671]; exact congrArg nI (by omega))) ?_
  refine Bod.ic 2 (by decide) dc_336_354 ?_
  refine Bod.addN (k + 2) (by omega) dc_336_355 ?_
  refine Bod.ildnG dc_336_356 (by repeat (first | exact q1 | exact sm_get_p1 | exact sm_get_p2e | refine sm_get_p1m (by decide) (by decide) ?_ | refine sm_get_p1n (by decide) rfl ?_ | refine sm_get_p2n (by decide) (by decide) rfl ?_)) ?_
  refine Bod.virt (r := []) dc_336_357 kr_336_376 ⟨Or.inl rfl, ow_338, cl_14⟩ (by rw [np_338]; rfl) (by rw [np_338]; rfl) (ob_of (mk_61 _)) (Nat.le_of_ble_eq_true rfl) (c3  ) ?_
  show Bod _ _ _ _ [] _ _ _
  exact hB _ (by repeat (first | exact q0 | exact sm_get_p1 | exact sm_get_p2e | refine sm_get_p1m (by decide) (by decide) ?_ | refine sm_get_p1n (by decide) rfl ?_ | refine sm_get_p2n (by decide) (by decide) rfl ?_)) (by repeat (first | exact q1 | exact sm_get_p1 | exact sm_get_p2e | refine sm_get_p1m (by decide) (by decide) ?_ | refine sm_get_p1n (by decide) rfl ?_ | refine sm_get_p2n (by decide) (by decide) rfl ?_)) (by repeat (first | exact q2 | exact sm_get_p1 | exact sm_get_p2e | refine sm_get_p1m (by decide) (by decide) ?_ | refine sm_get_p1n (by decide) rfl ?_ | refine sm_get_p2n (by decide) (by decide) rfl ?_)) (by repeat (first | exact q3 | exact sm_get_p1 | exact sm_get_p2e | refine sm_get_p1m (by decide) (by decide) ?_ | refine sm_get_p1n (by decide) rfl ?_ | refine sm_get_p2n (by decide) (by decide) rfl ?_)) (by repeat (first | exact q4 | exact sm_get_p1 | exact sm_get_p2e | refine sm_get_p1m (by decide) (by decide) ?_ | refine sm_get_p1n (by decide) rfl ?_ | refine sm_get_p2n (by decide) (by decide) rfl ?_)) (by repeat (first | exact q0 | exact sm_get_p1 | exact sm_get_p2e | refine sm_get_p1m (by decide) (by decide) ?_ | refine sm_get_p1n (by decide) rfl ?_ | refine sm_get_p2n (by decide) (by decide) rfl ?_))
theorem zDq_4 {d : Nat} {S : cS} {lv : sm_L} {la : Nat} {lb : Nat} {lnm : Nat} {lf : Nat} {S1 : cS} (q0 : sm_get lv 0 = some (.ref 61)) (q1 : sm_get lv 1 = some (.int (nI la))) (q2 : sm_get lv 2 = some (.int (nI lb))) (q3 : sm_get lv 3 = some (.int (nI lnm))) (q4 : sm_get lv 4 = some (.int (nI lf))) (q5 : sm_get lv 5 = some (.int (nI 0))) (mla : la < 2 ^ 20) (mlb : lb < 2 ^ 20) (mlnm : lnm < 2 ^ 20) (mlf : lf < 2 ^ 20) (c1 : Ans (d + 8) 323 [.ref 61, .int (nI 41)] S (some (.int (nI 0))) S1) : Bod (d + 8) 336 131 lv [] S (some (.int 0)) (S1) := by
  refine Bod.ildG dc_336_131 (by repeat (first | exact q5 | exact sm_get_p1 | exact sm_get_p2e | refine sm_get_p1m (by decide) (by decide) ?_ | refine sm_get_p1n (by decide) rfl ?_ | refine sm_get_p2n (by decide) (by decide) rfl ?_)) ?_
  refine Bod.ifT dc_336_133 rfl (k1_eq_T (k_eq 0 0 rfl rfl (by omega))) ?_
  refine Bod.aldnG dc_336_265 (by repeat (first | exact q0 | exact sm_get_p1 | exact sm_get_p2e | refine sm_get_p1m (by decide) (by decide) ?_ | refine sm_get_p1n (by decide) rfl ?_ | refine sm_get_p2n (by decide) (by decide) rfl ?_)) ?_
  refine Bod.bip 41 (by decide) dc_336_266 ?_
  refine Bod.virt (r := []) dc_336_268 kr_336_270 ⟨Or.inl rfl, ow_323, cl_14⟩ (by rw [np_323]; rfl) (by rw [np_323]; rfl) (ob_of (mk_61 _)) (Nat.le_of_ble_eq_true rfl) (c1  ) ?_
  show Bod _ _ _ _ [_] _ _ _
  refine Bod.ifF dc_336_271 rfl (k1_ne_F (k_eq 0 0 rfl rfl (by omega))) ?_
  refine Bod.ic 0 (by decide) dc_336_274 ?_
  exact Bod.retZ dc_336_275 rt_336 (Or.inl rfl)
theorem zDr_1 {d : Nat} {S : cS} {lv : sm_L} {la : Nat} {lb : Nat} {lnm : Nat} {lf : Nat} {lh : Nat} {m : Nat} {u : Nat} {g : Nat} {N : Nat} {nl : Nat} {F : Nat} {e75 : Nat} {tr : Nat} {L : Nat} {S1 : cS} {S2 : cS} {S3 : cS} {S4 : cS} {F1 : Nat} {e751 : Nat} {e83 : Nat} {S5 : cS} (q0 : sm_get lv 0 = some (.ref 61)) (q1 : sm_get lv 1 = some (.int (nI la))) (q2 : sm_get lv 2 = some (.int (nI lb))) (q3 : sm_get lv 3 = some (.int (nI lnm))) (q4 : sm_get lv 4 = some (.int (nI lf))) (q6 : sm_get lv 6 = some (.int (nI lh))) (mla : la < 2 ^ 20) (mlb : lb < 2 ^ 20) (mlnm : lnm < 2 ^ 20) (mlf : lf < 2 ^ 20) (mlh : lh < 2 ^ 20) (hm : 108 ≤ m) (hv1 : sV S 6114 = .ref m) (hz2 : (sS S)[m - 108]? = some (12, u)) (hv3 : sV S (100 * m + 10) = .ref g) (hg3 : isK S g 0 N) (mN : N < 2 ^ 20) (hnl : sI S 6123 = nI nl) (mnl : nl < 6000) (hF : sI S 6122 = nI F) (mF : F < 15) (he75 : sA S 75 F = nI e75) (me75 : e75 < 2 ^ 20) (b1 : e75 ≤ nl) (b2 : lf < N) (htr : sI (wA g lf (nI (nl - e75)) S) 6127 = nI tr) (mtr : tr < 14) (hL : sI (wA g lf (nI (nl - e75)) S) 6126 = nI L) (mL : L < 30) (c1 : Ans (d + 8) 334 [.ref 61, .int (nI la), .int (nI 0)] (wI 6126 (nI (L + 1)) (wA 77 L (Int32.ofInt (-1)) (wI 6127 (nI 0) (wA g lf (nI (nl - e75)) S)))) (some (.int (nI 1))) S1) (c2 : Ans (d + 8) 322 [.ref 61, .int (nI 1)] (wI 6127 (nI tr) (wI 6126 (nI L) S1)) none S2) (c3 : Ans (d + 8) 322 [.ref 61, .int (nI 29)] S2 none S3) (c4 : Ans (d + 8) 326 [.ref 61, .int (nI lh)] S3 none S4) (hF1 : sI S4 6122 = nI F1) (mF1 : F1 < 15) (he751 : sA S4 75 F1 = nI e751) (me751 : e751 < 2 ^ 20) (he83 : sA (wI 6123 (nI e751) S4) 83 F1 = nI e83) (me83 : e83 < 2 ^ 20) (b3 : 1 ≤ F1) (c5 : Ans (d + 8) 302 [.ref 61, .int (nI 37), .int (nI lf)] (wI 6122 (nI (F1 - 1)) (wI 6137 (nI e83) (wI 6123 (nI e751) S4))) none S5) (b4 : lb = 0) : Bod (d + 8) 336 360 lv [] S (some (.int 1)) (S5) := by
  refine Bod.aldnG dc_336_360 (by repeat (first | exact q0 | exact sm_get_p1 | exact sm_get_p2e | refine sm_get_p1m (by decide) (by decide) ?_ | refine sm_get_p1n (by decide) rfl ?_ | refine sm_get_p2n (by decide) (by decide) rfl ?_)) ?_
  refine Bod.get dc_336_361 fr_336_206 (mk_61 _) rfl ?_
  refine Bod.eqV (.ref m) (by first | exact hv1 | (simp only [rIV, rJV, rAV, rLV, rQV, rV, reduceIte, Nat.reduceEqDiff]; exact hv1)) ?_
  refine Bod.get dc_336_364 fr_336_379 (mk_code hm (by first | exact hz2 | (simp only [rIS, rJS, rAS, rLS, rVS, rQS, rS_hold]; exact hz2))) rfl ?_
  refine Bod.eqV (.ref g) (by first | exact hv3 | (simp only [rIV, rJV, rAV, rLV, rQV, rV, reduceIte, Nat.reduceEqDiff]; exact hv3)) ?_
  refine Bod.ildG dc_336_367 (by repeat (first | exact q4 | exact sm_get_p1 | exact sm_get_p2e | refine sm_get_p1m (by decide) (by decide) ?_ | refine sm_get_p1n (by decide) rfl ?_ | refine sm_get_p2n (by decide) (by decide) rfl ?_)) ?_
  refine Bod.aldnG dc_336_369 (by repeat (first | exact q0 | exact sm_get_p1 | exact sm_get_p2e | refine sm_get_p1m (by decide) (by decide) ?_ | refine sm_get_p1n (by decide) rfl ?_ | refine sm_get_p2n (by decide) (by decide) rfl ?_)) ?_
  refine Bod.get dc_336_370 fr_336_239 (mk_61 _) rfl ?_
  refine Bod.eqI (nI nl) (by first | assumption | rfl | exact congrArg nI (by omega) | (simp (disch := omega) only [rI, rIe, rA, rIA, rLA, rJA, rVI, rQI, rVA, rQA, upd_at,  rAI, rLI, rJI, nI_add, pk_sub, kc_0, kc_1, kc_2, kc_3, kc_4, kc_5, reduceIte, Nat.reduceEqDiff, Nat.add_zero, rI_hold, rI_hold, rL_hold, hnl]; done)) ?_
  refine Bod.aldnG dc_336_373 (by repeat (first | exact q0 | exact sm_get_p1 | exact sm_get_p2e | refine sm_get_p1m (by decide) (by decide) ?_ | refine sm_get_p1n (by decide) rfl ?_ | refine sm_get_p2n (by decide) (by decide) rfl ?_)) ?_
  refine Bod.get dc_336_374 fr_336_350 (mk_61 _) rfl ?_
  refine Bod.aldnG dc_336_377 (by repeat (first | exact q0 | exact sm_get_p1 | exact sm_get_p2e | refine sm_get_p1m (by decide) (by decide) ?_ | refine sm_get_p1n (by decide) rfl ?_ | refine sm_get_p2n (by decide) (by decide) rfl ?_)) ?_
  refine Bod.get dc_336_378 fr_336_236 (mk_61 _) rfl ?_
  refine Bod.eqI (nI F) (by first | assumption | rfl | exact congrArg nI (by omega) | (simp (disch := omega) only [rI, rIe, rA, rIA, rLA, rJA, rVI, rQI, rVA, rQA, upd_at,  rAI, rLI, rJI, nI_add, pk_sub, kc_0, kc_1, kc_2, kc_3, kc_4, kc_5, reduceIte, Nat.reduceEqDiff, Nat.add_zero, rI_hold, rI_hold, rL_hold, hnl, hF]; done)) ?_
  refine Bod.ialdN F rfl (by omega) (by omega) dc_336_381 (mk_75 _) ?_
  refine Bod.eqI (nI e75) (by first | assumption | rfl | exact congrArg nI (by omega) | (simp (disch := omega) only [rI, rIe, rA, rIA, rLA, rJA, rVI, rQI, rVA, rQA, upd_at,  rAI, rLI, rJI, nI_add, pk_sub, kc_0, kc_1, kc_2, kc_3, kc_4, kc_5, reduceIte, Nat.reduceEqDiff, Nat.add_zero, rI_hold, rI_hold, rL_hold, hnl, hF, he75]; done)) ?_
  refine Bod.subN (nl - e75) (by omega) (by omega) dc_336_382 ?_
  refine Bod.iastN (N := N) lf rfl (by omega) (by omega) dc_336_383 (mk_isI (by first | exact hg3 | exact isK_S (by simp only [rIS, rJS, rAS, rLS, rVS, rQS, rS_hold]) hg3)) (sa_isI (by first | exact hg3 | exact isK_S (by simp only [rIS, rJS, rAS, rLS, rVS, rQS, rS_hold]) hg3)) (mu_A _ _ _ _) ?_
  refine Bod.aldnG dc_336_384 (by repeat (first | exact q0 | exact sm_get_p1 | exact sm_get_p2e | refine sm_get_p1m (by decide) (by decide) ?_ | refine sm_get_p1n (by decide) rfl ?_ | refine sm_get_p2n (by decide) (by decide) rfl ?_)) ?_
  refine Bod.get dc_336_385 fr_336_245 (mk_61 _) rfl ?_
  refine Bod.eqI (nI tr) (by first | (simp (disch := omega) only [rI, rIe, rA, rIA, rLA, rJA, rVI, rQI, rVA, rQA, upd_at,  rAI, rLI, rJI, nI_add, pk_sub, kc_0, kc_1, kc_2, kc_3, kc_4, kc_5, reduceIte, Nat.reduceEqDiff, Nat.add_zero, rI_hold, rI_hold, rL_hold, hnl, hF, he75, htr]; done) | (simp (disch := omega) only [rI, rIe, rA, rIA, rLA, rJA, rVI, rQI, rVA, rQA, upd_at,  rAI, rLI, rJI, nI_add, pk_sub, kc_0, kc_1, kc_2, kc_3, kc_4, kc_5, reduceIte, Nat.reduceEqDiff, Nat.add_zero, rI_hold, rI_hold, rL_hold, hnl, hF, he75, htr]; exact congrArg nI (by omega))) ?_
  refine Bod.ist dc_336_388 (by rw [ml_336]; exact Nat.le_of_ble_eq_true rfl) ?_
  refine Bod.aldnG dc_336_390 (by repeat (first | exact q0 | exact sm_get_p1 | exact sm_get_p2e | refine sm_get_p1m (by decide) (by decide) ?_ | refine sm_get_p1n (by decide) rfl ?_ | refine sm_get_p2n (by decide) (by decide) rfl ?_)) ?_
  refine Bod.get dc_336_391 fr_336_242 (mk_61 _) rfl ?_
  refine Bod.eqI (nI L) (by first | (simp (disch := omega) only [rI, rIe, rA, rIA, rLA, rJA, rVI, rQI, rVA, rQA, upd_at,  rAI, rLI, rJI, nI_add, pk_sub, kc_0, kc_1, kc_2, kc_3, kc_4, kc_5, reduceIte, Nat.reduceEqDiff, Nat.add_zero, rI_hold, rI_hold, rL_hold, hnl, hF, he75, htr, hL]; done) | (simp (disch := omega) only [rI, rIe, rA, rIA, rLA, rJA, rVI, rQI, rVA, rQA, upd_at,  rAI, rLI, rJI, nI_add, pk_sub, kc_0, kc_1, kc_2, kc_3, kc_4, kc_5, reduceIte, Nat.reduceEqDiff, Nat.add_zero, rI_hold, rI_hold, rL_hold, hnl, hF, he75, htr, hL]; exact congrArg nI (by omega))) ?_
  refine Bod.ist dc_336_394 (by rw [ml_336]; exact Nat.le_of_ble_eq_true rfl) ?_
  refine Bod.aldnG dc_336_396 (by repeat (first | exact q0 | exact sm_get_p1 | exact sm_get_p2e | refine sm_get_p1m (by decide) (by decide) ?_ | refine sm_get_p1n (by decide) rfl ?_ | refine sm_get_p2n (by decide) (by decide) rfl ?_)) ?_
  refine Bod.ic 0 (by decide) dc_336_397 ?_
  refine Bod.put dc_336_398 fr_336_245 (mk_61 _) (Nat.le_of_ble_eq_true rfl) pf_14_27 (st_6127 _ _) (mu_I _ _ _) ?_
  refine Bod.aldnG dc_336_401 (by repeat (first | exact q0 | exact sm_get_p1 | exact sm_get_p2e | refine sm_get_p1m (by decide) (by decide) ?_ | refine sm_get_p1n (by decide) rfl ?_ | refine sm_get_p2n (by decide) (by decide) rfl ?_)) ?_
  refine Bod.get dc_336_402 fr_336_320 (mk_61 _) rfl ?_
  refine Bod.aldnG dc_336_405 (by repeat (first | exact q0 | exact sm_get_p1 | exact sm_get_p2e | refine sm_get_p1m (by decide) (by decide) ?_ | refine sm_get_p1n (by decide) rfl ?_ | refine sm_get_p2n (by decide) (by decide) rfl ?_)) ?_
  refine Bod.get dc_336_406 fr_336_242 (mk_61 _) rfl ?_
  refine Bod.eqI (nI L) (by first | (simp (disch := omega) only [rI, rIe, rA, rIA, rLA, rJA, rVI, rQI, rVA, rQA, upd_at,  rAI, rLI, rJI, nI_add, pk_sub, kc_0, kc_1, kc_2, kc_3, kc_4, kc_5, reduceIte, Nat.reduceEqDiff, Nat.add_zero, rI_hold, rI_hold, rL_hold, hnl, hF, he75, htr, hL]; done) | (simp (disch := omega) only [rI, rIe, rA, rIA, rLA, rJA, rVI, rQI, rVA, rQA, upd_at,  rAI, rLI, rJI, nI_add, pk_sub, kc_0, kc_1, kc_2, kc_3, kc_4, kc_5, reduceIte, Nat.reduceEqDiff, Nat.add_zero, rI_hold, rI_hold, rL_hold, hnl, hF, he75, htr, hL]; exact congrArg nI (by omega))) ?_
  refine Bod.go dc_336_409 rfl ?_
  refine Bod.iastN L rfl (by omega) (by omega) dc_336_410 (mk_77 _) (sa_77 _ _ _) (mu_A _ _ _ _) ?_
  refine Bod.aldnG dc_336_411 (by repeat (first | exact q0 | exact sm_get_p1 | exact sm_get_p2e | refine sm_get_p1m (by decide) (by decide) ?_ | refine sm_get_p1n (by decide) rfl ?_ | refine sm_get_p2n (by decide) (by decide) rfl ?_)) ?_
  refine Bod.go dc_336_412 rfl ?_
  refine Bod.get dc_336_413 fr_336_242 (mk_61 _) rfl ?_
  refine Bod.eqI (nI L) (by first | (simp (disch := omega) only [rI, rIe, rA, rIA, rLA, rJA, rVI, rQI, rVA, rQA, upd_at,  rAI, rLI, rJI, nI_add, pk_sub, kc_0, kc_1, kc_2, kc_3, kc_4, kc_5, reduceIte, Nat.reduceEqDiff, Nat.add_zero, rI_hold, rI_hold, rL_hold, hnl, hF, he75, htr, hL]; done) | (simp (disch := omega) only [rI, rIe, rA, rIA, rLA, rJA, rVI, rQI, rVA, rQA, upd_at,  rAI, rLI, rJI, nI_add, pk_sub, kc_0, kc_1, kc_2, kc_3, kc_4, kc_5, reduceIte, Nat.reduceEqDiff, Nat.add_zero, rI_hold, rI_hold, rL_hold, hnl, hF, he75, htr, hL]; exact congrArg nI (by omega))) ?_
  refine Bod.ic 1 (by decide) dc_336_416 ?_
  refine Bod.addN (L + 1) (by omega) dc_336_417 ?_
  refine Bod.put dc_336_418 fr_336_242 (mk_61 _) (Nat.le_of_ble_eq_true rfl) pf_14_26 (st_6126 _ _) (mu_I _ _ _) ?_
  refine Bod.aldnG dc_336_421 (by repeat (first | exact q0 | exact sm_get_p1 | exact sm_get_p2e | refine sm_get_p1m (by decide) (by decide) ?_ | refine sm_get_p1n (by decide) rfl ?_ | refine sm_get_p2n (by decide) (by decide) rfl ?_)) ?_
  refine Bod.ildnG dc_336_422 (by repeat (first | exact q1 | exact sm_get_p1 | exact sm_get_p2e | refine sm_get_p1m (by decide) (by decide) ?_ | refine sm_get_p1n (by decide) rfl ?_ | refine sm_get_p2n (by decide) (by decide) rfl ?_)) ?_
  refine Bod.ic 0 (by decide) dc_336_423 ?_
  refine Bod.virt (r := []) dc_336_424 kr_336_309 ⟨Or.inl rfl, ow_334, cl_14⟩ (by rw [np_334]; rfl) (by rw [np_334]; rfl) (ob_of (mk_61 _)) (Nat.le_of_ble_eq_true rfl) (c1  ) ?_
  show Bod _ _ _ _ [_] _ _ _
  refine Bod.ifT dc_336_427 rfl (k1_ne_T (k_ne 1 0 rfl rfl (by omega) (by omega) (by omega))) ?_
  refine Bod.aldnG dc_336_432 (by repeat (first | exact q0 | exact sm_get_p1 | exact sm_get_p2e | refine sm_get_p1m (by decide) (by decide) ?_ | refine sm_get_p1n (by decide) rfl ?_ | refine sm_get_p2n (by decide) (by decide) rfl ?_)) ?_
  refine Bod.ildG dc_336_433 (by repeat (first | exact q0 | exact sm_get_p1 | exact sm_get_p2e | refine sm_get_p1m (by decide) (by decide) ?_ | refine sm_get_p1n (by decide) rfl ?_ | refine sm_get_p2n (by decide) (by decide) rfl ?_)) ?_
  refine Bod.put dc_336_435 fr_336_242 (mk_61 _) (Nat.le_of_ble_eq_true rfl) pf_14_26 (st_6126 _ _) (mu_I _ _ _) ?_
  refine Bod.aldnG dc_336_438 (by repeat (first | exact q0 | exact sm_get_p1 | exact sm_get_p2e | refine sm_get_p1m (by decide) (by decide) ?_ | refine sm_get_p1n (by decide) rfl ?_ | refine sm_get_p2n (by decide) (by decide) rfl ?_)) ?_
  refine Bod.ildG dc_336_439 (by repeat (first | exact q0 | exact sm_get_p1 | exact sm_get_p2e | refine sm_get_p1m (by decide) (by decide) ?_ | refine sm_get_p1n (by decide) rfl ?_ | refine sm_get_p2n (by decide) (by decide) rfl ?_)) ?_
  refine Bod.put dc_336_441 fr_336_245 (mk_61 _) (Nat.le_of_ble_eq_true rfl) pf_14_27 (st_6127 _ _) (mu_I _ _ _) ?_
  refine Bod.aldnG dc_336_444 (by repeat (first | exact q0 | exact sm_get_p1 | exact sm_get_p2e | refine sm_get_p1m (by decide) (by decide) ?_ | refine sm_get_p1n (by decide) rfl ?_ | refine sm_get_p2n (by decide) (by decide) rfl ?_)) ?_
  refine Bod.ic 1 (by decide) dc_336_445 ?_
  refine Bod.virt (r := []) dc_336_446 kr_336_269 ⟨Or.inl rfl, ow_322, cl_14⟩ (by rw [np_322]; rfl) (by rw [np_322]; rfl) (ob_of (mk_61 _)) (Nat.le_of_ble_eq_true rfl) (c2  ) ?_
  show Bod _ _ _ _ [] _ _ _
  refine Bod.aldnG dc_336_449 (by repeat (first | exact q0 | exact sm_get_p1 | exact sm_get_p2e | refine sm_get_p1m (by decide) (by decide) ?_ | refine sm_get_p1n (by decide) rfl ?_ | refine sm_get_p2n (by decide) (by decide) rfl ?_)) ?_
  refine Bod.bip 29 (by decide) dc_336_450 ?_
  refine Bod.virt (r := []) dc_336_452 kr_336_269 ⟨Or.inl rfl, ow_322, cl_14⟩ (by rw [np_322]; rfl) (by rw [np_322]; rfl) (ob_of (mk_61 _)) (Nat.le_of_ble_eq_true rfl) (c3  ) ?_
  show Bod _ _ _ _ [] _ _ _
  refine Bod.aldnG dc_336_455 (by repeat (first | exact q0 | exact sm_get_p1 | exact sm_get_p2e | refine sm_get_p1m (by decide) (by decide) ?_ | refine sm_get_p1n (by decide) rfl ?_ | refine sm_get_p2n (by decide) (by decide) rfl ?_)) ?_
  refine Bod.ildG dc_336_456 (by repeat (first | exact q6 | exact sm_get_p1 | exact sm_get_p2e | refine sm_get_p1m (by decide) (by decide) ?_ | refine sm_get_p1n (by decide) rfl ?_ | refine sm_get_p2n (by decide) (by decide) rfl ?_)) ?_
  refine Bod.virt (r := []) dc_336_458 kr_336_317 ⟨Or.inl rfl, ow_326, cl_14⟩ (by rw [np_326]; rfl) (by rw [np_326]; rfl) (ob_of (mk_61 _)) (Nat.le_of_ble_eq_true rfl) (c4  ) ?_
  show Bod _ _ _ _ [] _ _ _
  refine Bod.aldnG dc_336_461 (by repeat (first | exact q0 | exact sm_get_p1 | exact sm_get_p2e | refine sm_get_p1m (by decide) (by decide) ?_ | refine sm_get_p1n (by decide) rfl ?_ | refine sm_get_p2n (by decide) (by decide) rfl ?_)) ?_
  refine Bod.aldnG dc_336_462 (by repeat (first | exact q0 | exact sm_get_p1 | exact sm_get_p2e | refine sm_get_p1m (by decide) (by decide) ?_ | refine sm_get_p1n (by decide) rfl ?_ | refine sm_get_p2n (by decide) (by decide) rfl ?_)) ?_
  refine Bod.get dc_336_463 fr_336_350 (mk_61 _) rfl ?_
  refine Bod.aldnG dc_336_466 (by repeat (first | exact q0 | exact sm_get_p1 | exact sm_get_p2e | refine sm_get_p1m (by decide) (by decide) ?_ | refine sm_get_p1n (by decide) rfl ?_ | refine sm_get_p2n (by decide) (by decide) rfl ?_)) ?_
  refine Bod.get dc_336_467 fr_336_236 (mk_61 _) rfl ?_
  refine Bod.eqI (nI F1) (by first | (simp (disch := omega) only [rI, rIe, rA, rIA, rLA, rJA, rVI, rQI, rVA, rQA, upd_at,  rAI, rLI, rJI, nI_add, pk_sub, kc_0, kc_1, kc_2, kc_3, kc_4, kc_5, reduceIte, Nat.reduceEqDiff, Nat.add_zero, rI_hold, rI_hold, rL_hold, hnl, hF, he75, htr, hL, hF1]; done) | (simp (disch := omega) only [rI, rIe, rA, rIA, rLA, rJA, rVI, rQI, rVA, rQA, upd_at,  rAI, rLI, rJI, nI_add, pk_sub, kc_0, kc_1, kc_2, kc_3, kc_4, kc_5, reduceIte, Nat.reduceEqDiff, Nat.add_zero, rI_hold, rI_hold, rL_hold, hnl, hF, he75, htr, hL, hF1]; exact congrArg nI (by omega))) ?_
  refine Bod.ialdN F1 rfl (by omega) (by omega) dc_336_470 (mk_75 _) ?_
  refine Bod.eqI (nI e751) (by first | (simp (disch := omega) only [rI, rIe, rA, rIA, rLA, rJA, rVI, rQI, rVA, rQA, upd_at,  rAI, rLI, rJI, nI_add, pk_sub, kc_0, kc_1, kc_2, kc_3, kc_4, kc_5, reduceIte, Nat.reduceEqDiff, Nat.add_zero, rI_hold, rI_hold, rL_hold, hnl, hF, he75, htr, hL, hF1, he751]; done) | (simp (disch := omega) only [rI, rIe, rA, rIA, rLA, rJA, rVI, rQI, rVA, rQA, upd_at,  rAI, rLI, rJI, nI_add, pk_sub, kc_0, kc_1, kc_2, kc_3, kc_4, kc_5, reduceIte, Nat.reduceEqDiff, Nat.add_zero, rI_hold, rI_hold, rL_hold, hnl, hF, he75, htr, hL, hF1, he751]; exact congrArg nI (by omega))) ?_
  refine Bod.put dc_336_471 fr_336_239 (mk_61 _) (Nat.le_of_ble_eq_true rfl) pf_14_23 (st_6123 _ _) (mu_I _ _ _) ?_
  refine Bod.aldnG dc_336_474 (by repeat (first | exact q0 | exact sm_get_p1 | exact sm_get_p2e | refine sm_get_p1m (by decide) (by decide) ?_ | refine sm_get_p1n (by decide) rfl ?_ | refine sm_get_p2n (by decide) (by decide) rfl ?_)) ?_
  refine Bod.aldnG dc_336_475 (by repeat (first | exact q0 | exact sm_get_p1 | exact sm_get_p2e | refine sm_get_p1m (by decide) (by decide) ?_ | refine sm_get_p1n (by decide) rfl ?_ | refine sm_get_p2n (by decide) (by decide) rfl ?_)) ?_
  refine Bod.get dc_336_476 fr_336_362 (mk_61 _) rfl ?_
  refine Bod.aldnG dc_336_479 (by repeat (first | exact q0 | exact sm_get_p1 | exact sm_get_p2e | refine sm_get_p1m (by decide) (by decide) ?_ | refine sm_get_p1n (by decide) rfl ?_ | refine sm_get_p2n (by decide) (by decide) rfl ?_)) ?_
  refine Bod.get dc_336_480 fr_336_236 (mk_61 _) rfl ?_
  refine Bod.eqI (nI F1) (by first | (simp (disch := omega) only [rI, rIe, rA, rIA, rLA, rJA, rVI, rQI, rVA, rQA, upd_at,  rAI, rLI, rJI, nI_add, pk_sub, kc_0, kc_1, kc_2, kc_3, kc_4, kc_5, reduceIte, Nat.reduceEqDiff, Nat.add_zero, rI_hold, rI_hold, rL_hold, hnl, hF, he75, htr, hL, hF1, he751]; done) | (simp (disch := omega) only [rI, rIe, rA, rIA, rLA, rJA, rVI, rQI, rVA, rQA, upd_at,  rAI, rLI, rJI, nI_add, pk_sub, kc_0, kc_1, kc_2, kc_3, kc_4, kc_5, reduceIte, Nat.reduceEqDiff, Nat.add_zero, rI_hold, rI_hold, rL_hold, hnl, hF, he75, htr, hL, hF1, he751]; exact congrArg nI (by omega))) ?_
  refine Bod.ialdN F1 rfl (by omega) (by omega) dc_336_483 (mk_83 _) ?_
  refine Bod.eqI (nI e83) (by first | (simp (disch := omega) only [rI, rIe, rA, rIA, rLA, rJA, rVI, rQI, rVA, rQA, upd_at,  rAI, rLI, rJI, nI_add, pk_sub, kc_0, kc_1, kc_2, kc_3, kc_4, kc_5, reduceIte, Nat.reduceEqDiff, Nat.add_zero, rI_hold, rI_hold, rL_hold, hnl, hF, he75, htr, hL, hF1, he751, he83]; done) | (simp (disch := omega) only [rI, rIe, rA, rIA, rLA, rJA, rVI, rQI, rVA, rQA, upd_at,  rAI, rLI, rJI, nI_add, pk_sub, kc_0, kc_1, kc_2, kc_3, kc_4, kc_5, reduceIte, Nat.reduceEqDiff, Nat.add_zero, rI_hold, rI_hold, rL_hold, hnl, hF, he75, htr, hL, hF1, he751, he83]; exact congrArg nI (by omega))) ?_
  refine Bod.put dc_336_484 fr_336_254 (mk_61 _) (Nat.le_of_ble_eq_true rfl) pf_14_37 (st_6137 _ _) (mu_I _ _ _) ?_
  refine Bod.aldnG dc_336_487 (by repeat (first | exact q0 | exact sm_get_p1 | exact sm_get_p2e | refine sm_get_p1m (by decide) (by decide) ?_ | refine sm_get_p1n (by decide) rfl ?_ | refine sm_get_p2n (by decide) (by decide) rfl ?_)) ?_
  refine Bod.go dc_336_488 rfl ?_
  refine Bod.get dc_336_489 fr_336_236 (mk_61 _) rfl ?_
  refine Bod.eqI (nI F1) (by first | (simp (disch := omega) only [rI, rIe, rA, rIA, rLA, rJA, rVI, rQI, rVA, rQA, upd_at,  rAI, rLI, rJI, nI_add, pk_sub, kc_0, kc_1, kc_2, kc_3, kc_4, kc_5, reduceIte, Nat.reduceEqDiff, Nat.add_zero, rI_hold, rI_hold, rL_hold, hnl, hF, he75, htr, hL, hF1, he751, he83]; done) | (simp (disch := omega) only [rI, rIe, rA, rIA, rLA, rJA, rVI, rQI, rVA, rQA, upd_at,  rAI, rLI, rJI, nI_add, pk_sub, kc_0, kc_1, kc_2, kc_3, kc_4, kc_5, reduceIte, Nat.reduceEqDiff, Nat.add_zero, rI_hold, rI_hold, rL_hold, hnl, hF, he75, htr, hL, hF1, he751, he83]; exact congrArg nI (by omega))) ?_
  refine Bod.ic 1 (by decide) dc_336_492 ?_
  refine Bod.subN (F1 - 1) (by omega) (by omega) dc_336_493 ?_
  refine Bod.put dc_336_494 fr_336_236 (mk_61 _) (Nat.le_of_ble_eq_true rfl) pf_14_22 (st_6122 _ _) (mu_I _ _ _) ?_
  refine Bod.aldnG dc_336_497 (by repeat (first | exact q0 | exact sm_get_p1 | exact sm_get_p2e | refine sm_get_p1m (by decide) (by decide) ?_ | refine sm_get_p1n (by decide) rfl ?_ | refine sm_get_p2n (by decide) (by decide) rfl ?_)) ?_
  refine Bod.bip 37 (by decide) dc_336_498 ?_
  refine Bod.ildG dc_336_500 (by repeat (first | exact q4 | exact sm_get_p1 | exact sm_get_p2e | refine sm_get_p1m (by decide) (by decide) ?_ | refine sm_get_p1n (by decide) rfl ?_ | refine sm_get_p2n (by decide) (by decide) rfl ?_)) ?_
  refine Bod.virt (r := []) dc_336_502 kr_336_216 ⟨Or.inl rfl, ow_302, cl_14⟩ (by rw [np_302]; rfl) (by rw [np_302]; rfl) (ob_of (mk_61 _)) (Nat.le_of_ble_eq_true rfl) (c5  ) ?_
  show Bod _ _ _ _ [] _ _ _
  refine Bod.ildnG dc_336_505 (by repeat (first | exact q2 | exact sm_get_p1 | exact sm_get_p2e | refine sm_get_p1m (by decide) (by decide) ?_ | refine sm_get_p1n (by decide) rfl ?_ | refine sm_get_p2n (by decide) (by decide) rfl ?_)) ?_
  refine Bod.ifT dc_336_506 rfl (k1_eq_T (k_eq lb 0 rfl rfl (by omega))) ?_
  refine Bod.ic 1 (by decide) dc_336_516 ?_
  exact Bod.retZ dc_336_517 rt_336 (Or.inr rfl)
theorem zDr_2 {d : Nat} {S : cS} {lv : sm_L} {la : Nat} {lb : Nat} {lnm : Nat} {lf : Nat} {lh : Nat} {m : Nat} {u : Nat} {g : Nat} {N : Nat} {nl : Nat} {F : Nat} {e75 : Nat} {tr : Nat} {L : Nat} {S1 : cS} {S2 : cS} {S3 : cS} {S4 : cS} {F1 : Nat} {e751 : Nat} {e83 : Nat} {S5 : cS} {S6 : cS} (q0 : sm_get lv 0 = some (.ref 61)) (q1 : sm_get lv 1 = some (.int (nI la))) (q2 : sm_get lv 2 = some (.int (nI lb))) (q3 : sm_get lv 3 = some (.int (nI lnm))) (q4 : sm_get lv 4 = some (.int (nI lf))) (q6 : sm_get lv 6 = some (.int (nI lh))) (mla : la < 2 ^ 20) (mlb : lb < 2 ^ 20) (mlnm : lnm < 2 ^ 20) (mlf : lf < 2 ^ 20) (mlh : lh < 2 ^ 20) (hm : 108 ≤ m) (hv1 : sV S 6114 = .ref m) (hz2 : (sS S)[m - 108]? = some (12, u)) (hv3 : sV S (100 * m + 10) = .ref g) (hg3 : isK S g 0 N) (mN : N < 2 ^ 20) (hnl : sI S 6123 = nI nl) (mnl : nl < 6000) (hF : sI S 6122 = nI F) (mF : F < 15) (he75 : sA S 75 F = nI e75) (me75 : e75 < 2 ^ 20) (b1 : e75 ≤ nl) (b2 : lf < N) (htr : sI (wA g lf (nI (nl - e75)) S) 6127 = nI tr) (mtr : tr < 14) (hL : sI (wA g lf (nI (nl - e75)) S) 6126 = nI L) (mL : L < 30) (c1 : Ans (d + 8) 334 [.ref 61, .int (nI la), .int (nI 0)] (wI 6126 (nI (L + 1)) (wA 77 L (Int32.ofInt (-1)) (wI 6127 (nI 0) (wA g lf (nI (nl - e75)) S)))) (some (.int (nI 1))) S1) (c2 : Ans (d + 8) 322 [.ref 61, .int (nI 1)] (wI 6127 (nI tr) (wI 6126 (nI L) S1)) none S2) (c3 : Ans (d + 8) 322 [.ref 61, .int (nI 29)] S2 none S3) (c4 : Ans (d + 8) 326 [.ref 61, .int (nI lh)] S3 none S4) (hF1 : sI S4 6122 = nI F1) (mF1 : F1 < 15) (he751 : sA S4 75 F1 = nI e751) (me751 : e751 < 2 ^ 20) (he83 : sA (wI 6123 (nI e751) S4) 83 F1 = nI e83) (me83 : e83 < 2 ^ 20) (b3 : 1 ≤ F1) (c5 : Ans (d + 8) 302 [.ref 61, .int (nI 37), .int (nI lf)] (wI 6122 (nI (F1 - 1)) (wI 6137 (nI e83) (wI 6123 (nI e751) S4))) none S5) (b4 : lb ≠ 0) (c6 : Ans (d + 8) 317 [.ref 61, .int (nI 6), .int (nI lnm)] S5 none S6) : Bod (d + 8) 336 360 lv [] S (some (.int 1)) (S6) := by
  refine Bod.aldnG dc_336_360 (by repeat (first | exact q0 | exact sm_get_p1 | exact sm_get_p2e | refine sm_get_p1m (by decide) (by decide) ?_ | refine sm_get_p1n (by decide) rfl ?_ | refine sm_get_p2n (by decide) (by decide) rfl ?_)) ?_
  refine Bod.get dc_336_361 fr_336_206 (mk_61 _) rfl ?_
  refine Bod.eqV (.ref m) (by first | exact hv1 | (simp only [rIV, rJV, rAV, rLV, rQV, rV, reduceIte, Nat.reduceEqDiff]; exact hv1)) ?_
  refine Bod.get dc_336_364 fr_336_379 (mk_code hm (by first | exact hz2 | (simp only [rIS, rJS, rAS, rLS, rVS, rQS, rS_hold]; exact hz2))) rfl ?_
  refine Bod.eqV (.ref g) (by first | exact hv3 | (simp only [rIV, rJV, rAV, rLV, rQV, rV, reduceIte, Nat.reduceEqDiff]; exact hv3)) ?_
  refine Bod.ildG dc_336_367 (by repeat (first | exact q4 | exact sm_get_p1 | exact sm_get_p2e | refine sm_get_p1m (by decide) (by decide) ?_ | refine sm_get_p1n (by decide) rfl ?_ | refine sm_get_p2n (by decide) (by decide) rfl ?_)) ?_
  refine Bod.aldnG dc_336_369 (by repeat (first | exact q0 | exact sm_get_p1 | exact sm_get_p2e | refine sm_get_p1m (by decide) (by decide) ?_ | refine sm_get_p1n (by decide) rfl ?_ | refine sm_get_p2n (by decide) (by decide) rfl ?_)) ?_
  refine Bod.get dc_336_370 fr_336_239 (mk_61 _) rfl ?_
  refine Bod.eqI (nI nl) (by first | assumption | rfl | exact congrArg nI (by omega) | (simp (disch := omega) only [rI, rIe, rA, rIA, rLA, rJA, rVI, rQI, rVA, rQA, upd_at,  rAI, rLI, rJI, nI_add, pk_sub, kc_0, kc_1, kc_2, kc_3, kc_4, kc_5, reduceIte, Nat.reduceEqDiff, Nat.add_zero, rI_hold, rI_hold, rL_hold, hnl]; done)) ?_
  refine Bod.aldnG dc_336_373 (by repeat (first | exact q0 | exact sm_get_p1 | exact sm_get_p2e | refine sm_get_p1m (by decide) (by decide) ?_ | refine sm_get_p1n (by decide) rfl ?_ | refine sm_get_p2n (by decide) (by decide) rfl ?_)) ?_
  refine Bod.get dc_336_374 fr_336_350 (mk_61 _) rfl ?_
  refine Bod.aldnG dc_336_377 (by repeat (first | exact q0 | exact sm_get_p1 | exact sm_get_p2e | refine sm_get_p1m (by decide) (by decide) ?_ | refine sm_get_p1n (by decide) rfl ?_ | refine sm_get_p2n (by decide) (by decide) rfl ?_)) ?_
  refine Bod.get dc_336_378 fr_336_236 (mk_61 _) rfl ?_
  refine Bod.eqI (nI F) (by first | assumption | rfl | exact congrArg nI (by omega) | (simp (disch := omega) only [rI, rIe, rA, rIA, rLA, rJA, rVI, rQI, rVA, rQA, upd_at,  rAI, rLI, rJI, nI_add, pk_sub, kc_0, kc_1, kc_2, kc_3, kc_4, kc_5, reduceIte, Nat.reduceEqDiff, Nat.add_zero, rI_hold, rI_hold, rL_hold, hnl, hF]; done)) ?_
  refine Bod.ialdN F rfl (by omega) (by omega) dc_336_381 (mk_75 _) ?_
  refine Bod.eqI (nI e75) (by first | assumption | rfl | exact congrArg nI (by omega) | (simp (disch := omega) only [rI, rIe, rA, rIA, rLA, rJA, rVI, rQI, rVA, rQA, upd_at,  rAI, rLI, rJI, nI_add, pk_sub, kc_0, kc_1, kc_2, kc_3, kc_4, kc_5, reduceIte, Nat.reduceEqDiff, Nat.add_zero, rI_hold, rI_hold, rL_hold, hnl, hF, he75]; done)) ?_
  refine Bod.subN (nl - e75) (by omega) (by omega) dc_336_382 ?_
  refine Bod.iastN (N := N) lf rfl (by omega) (by omega) dc_336_383 (mk_isI (by first | exact hg3 | exact isK_S (by simp only [rIS, rJS, rAS, rLS, rVS, rQS, rS_hold]) hg3)) (sa_isI (by first | exact hg3 | exact isK_S (by simp only [rIS, rJS, rAS, rLS, rVS, rQS, rS_hold]) hg3)) (mu_A _ _ _ _) ?_
  refine Bod.aldnG dc_336_384 (by repeat (first | exact q0 | exact sm_get_p1 | exact sm_get_p2e | refine sm_get_p1m (by decide) (by decide) ?_ | refine sm_get_p1n (by decide) rfl ?_ | refine sm_get_p2n (by decide) (by decide) rfl ?_)) ?_
  refine Bod.get dc_336_385 fr_336_245 (mk_61 _) rfl ?_
  refine Bod.eqI (nI tr) (by first | (simp (disch := omega) only [rI, rIe, rA, rIA, rLA, rJA, rVI, rQI, rVA, rQA, upd_at,  rAI, rLI, rJI, nI_add, pk_sub, kc_0, kc_1, kc_2, kc_3, kc_4, kc_5, reduceIte, Nat.reduceEqDiff, Nat.add_zero, rI_hold, rI_hold, rL_hold, hnl, hF, he75, htr]; done) | (simp (disch := omega) only [rI, rIe, rA, rIA, rLA, rJA, rVI, rQI, rVA, rQA, upd_at,  rAI, rLI, rJI, nI_add, pk_sub, kc_0, kc_1, kc_2, kc_3, kc_4, kc_5, reduceIte, Nat.reduceEqDiff, Nat.add_zero, rI_hold, rI_hold, rL_hold, hnl, hF, he75, htr]; exact congrArg nI (by omega))) ?_
  refine Bod.ist dc_336_388 (by rw [ml_336]; exact Nat.le_of_ble_eq_true rfl) ?_
  refine Bod.aldnG dc_336_390 (by repeat (first | exact q0 | exact sm_get_p1 | exact sm_get_p2e | refine sm_get_p1m (by decide) (by decide) ?_ | refine sm_get_p1n (by decide) rfl ?_ | refine sm_get_p2n (by decide) (by decide) rfl ?_)) ?_
  refine Bod.get dc_336_391 fr_336_242 (mk_61 _) rfl ?_
  refine Bod.eqI (nI L) (by first | (simp (disch := omega) only [rI, rIe, rA, rIA, rLA, rJA, rVI, rQI, rVA, rQA, upd_at,  rAI, rLI, rJI, nI_add, pk_sub, kc_0, kc_1, kc_2, kc_3, kc_4, kc_5, reduceIte, Nat.reduceEqDiff, Nat.add_zero, rI_hold, rI_hold, rL_hold, hnl, hF, he75, htr, hL]; done) | (simp (disch := omega) only [rI, rIe, rA, rIA, rLA, rJA, rVI, rQI, rVA, rQA, upd_at,  rAI, rLI, rJI, nI_add, pk_sub, kc_0, kc_1, kc_2, kc_3, kc_4, kc_5, reduceIte, Nat.reduceEqDiff, Nat.add_zero, rI_hold, rI_hold, rL_hold, hnl, hF, he75, htr, hL]; exact congrArg nI (by omega))) ?_
  refine Bod.ist dc_336_394 (by rw [ml_336]; exact Nat.le_of_ble_eq_true rfl) ?_
  refine Bod.aldnG dc_336_396 (by repeat (first | exact q0 | exact sm_get_p1 | exact sm_get_p2e | refine sm_get_p1m (by decide) (by decide) ?_ | refine sm_get_p1n (by decide) rfl ?_ | refine sm_get_p2n (by decide) (by decide) rfl ?_)) ?_
  refine Bod.ic 0 (by decide) dc_336_397 ?_
  refine Bod.put dc_336_398 fr_336_245 (mk_61 _) (Nat.le_of_ble_eq_true rfl) pf_14_27 (st_6127 _ _) (mu_I _ _ _) ?_
  refine Bod.aldnG dc_336_401 (by repeat (first | exact q0 | exact sm_get_p1 | exact sm_get_p2e | refine sm_get_p1m (by decide) (by decide) ?_ | refine sm_get_p1n (by decide) rfl ?_ | refine sm_get_p2n (by decide) (by decide) rfl ?_)) ?_
  refine Bod.get dc_336_402 fr_336_320 (mk_61 _) rfl ?_
  refine Bod.aldnG dc_336_405 (by repeat (first | exact q0 | exact sm_get_p1 | exact sm_get_p2e | refine sm_get_p1m (by decide) (by decide) ?_ | refine sm_get_p1n (by decide) rfl ?_ | refine sm_get_p2n (by decide) (by decide) rfl ?_)) ?_
  refine Bod.get dc_336_406 fr_336_242 (mk_61 _) rfl ?_
  refine Bod.eqI (nI L) (by first | (simp (disch := omega) only [rI, rIe, rA, rIA, rLA, rJA, rVI, rQI, rVA, rQA, upd_at,  rAI, rLI, rJI, nI_add, pk_sub, kc_0, kc_1, kc_2, kc_3, kc_4, kc_5, reduceIte, Nat.reduceEqDiff, Nat.add_zero, rI_hold, rI_hold, rL_hold, hnl, hF, he75, htr, hL]; done) | (simp (disch := omega) only [rI, rIe, rA, rIA, rLA, rJA, rVI, rQI, rVA, rQA, upd_at,  rAI, rLI, rJI, nI_add, pk_sub, kc_0, kc_1, kc_2, kc_3, kc_4, kc_5, reduceIte, Nat.reduceEqDiff, Nat.add_zero, rI_hold, rI_hold, rL_hold, hnl, hF, he75, htr, hL]; exact congrArg nI (by omega))) ?_
  refine Bod.go dc_336_409 rfl ?_
  refine Bod.iastN L rfl (by omega) (by omega) dc_336_410 (mk_77 _) (sa_77 _ _ _) (mu_A _ _ _ _) ?_
  refine Bod.aldnG dc_336_411 (by repeat (first | exact q0 | exact sm_get_p1 | exact sm_get_p2e | refine sm_get_p1m (by decide) (by decide) ?_ | refine sm_get_p1n (by decide) rfl ?_ | refine sm_get_p2n (by decide) (by decide) rfl ?_)) ?_
  refine Bod.go dc_336_412 rfl ?_
  refine Bod.get dc_336_413 fr_336_242 (mk_61 _) rfl ?_
  refine Bod.eqI (nI L) (by first | (simp (disch := omega) only [rI, rIe, rA, rIA, rLA, rJA, rVI, rQI, rVA, rQA, upd_at,  rAI, rLI, rJI, nI_add, pk_sub, kc_0, kc_1, kc_2, kc_3, kc_4, kc_5, reduceIte, Nat.reduceEqDiff, Nat.add_zero, rI_hold, rI_hold, rL_hold, hnl, hF, he75, htr, hL]; done) | (simp (disch := omega) only [rI, rIe, rA, rIA, rLA, rJA, rVI, rQI, rVA, rQA, upd_at,  rAI, rLI, rJI, nI_add, pk_sub, kc_0, kc_1, kc_2, kc_3, kc_4, kc_5, reduceIte, Nat.reduceEqDiff, Nat.add_zero, rI_hold, rI_hold, rL_hold, hnl, hF, he75, htr, hL]; exact congrArg nI (by omega))) ?_
  refine Bod.ic 1 (by decide) dc_336_416 ?_
  refine Bod.addN (L + 1) (by omega) dc_336_417 ?_
  refine Bod.put dc_336_418 fr_336_242 (mk_61 _) (Nat.le_of_ble_eq_true rfl) pf_14_26 (st_6126 _ _) (mu_I _ _ _) ?_
  refine Bod.aldnG dc_336_421 (by repeat (first | exact q0 | exact sm_get_p1 | exact sm_get_p2e | refine sm_get_p1m (by decide) (by decide) ?_ | refine sm_get_p1n (by decide) rfl ?_ | refine sm_get_p2n (by decide) (by decide) rfl ?_)) ?_
  refine Bod.ildnG dc_336_422 (by repeat (first | exact q1 | exact sm_get_p1 | exact sm_get_p2e | refine sm_get_p1m (by decide) (by decide) ?_ | refine sm_get_p1n (by decide) rfl ?_ | refine sm_get_p2n (by decide) (by decide) rfl ?_)) ?_
  refine Bod.ic 0 (by decide) dc_336_423 ?_
  refine Bod.virt (r := []) dc_336_424 kr_336_309 ⟨Or.inl rfl, ow_334, cl_14⟩ (by rw [np_334]; rfl) (by rw [np_334]; rfl) (ob_of (mk_61 _)) (Nat.le_of_ble_eq_true rfl) (c1  ) ?_
  show Bod _ _ _ _ [_] _ _ _
  refine Bod.ifT dc_336_427 rfl (k1_ne_T (k_ne 1 0 rfl rfl (by omega) (by omega) (by omega))) ?_
  refine Bod.aldnG dc_336_432 (by repeat (first | exact q0 | exact sm_get_p1 | exact sm_get_p2e | refine sm_get_p1m (by decide) (by decide) ?_ | refine sm_get_p1n (by decide) rfl ?_ | refine sm_get_p2n (by decide) (by decide) rfl ?_)) ?_
  refine Bod.ildG dc_336_433 (by repeat (first | exact q0 | exact sm_get_p1 | exact sm_get_p2e | refine sm_get_p1m (by decide) (by decide) ?_ | refine sm_get_p1n (by decide) rfl ?_ | refine sm_get_p2n (by decide) (by decide) rfl ?_)) ?_
  refine Bod.put dc_336_435 fr_336_242 (mk_61 _) (Nat.le_of_ble_eq_true rfl) pf_14_26 (st_6126 _ _) (mu_I _ _ _) ?_
  refine Bod.aldnG dc_336_438 (by repeat (first | exact q0 | exact sm_get_p1 | exact sm_get_p2e | refine sm_get_p1m (by decide) (by decide) ?_ | refine sm_get_p1n (by decide) rfl ?_ | refine sm_get_p2n (by decide) (by decide) rfl ?_)) ?_
  refine Bod.ildG dc_336_439 (by repeat (first | exact q0 | exact sm_get_p1 | exact sm_get_p2e | refine sm_get_p1m (by decide) (by decide) ?_ | refine sm_get_p1n (by decide) rfl ?_ | refine sm_get_p2n (by decide) (by decide) rfl ?_)) ?_
  refine Bod.put dc_336_441 fr_336_245 (mk_61 _) (Nat.le_of_ble_eq_true rfl) pf_14_27 (st_6127 _ _) (mu_I _ _ _) ?_
  refine Bod.aldnG dc_336_444 (by repeat (first | exact q0 | exact sm_get_p1 | exact sm_get_p2e | refine sm_get_p1m (by decide) (by decide) ?_ | refine sm_get_p1n (by decide) rfl ?_ | refine sm_get_p2n (by decide) (by decide) rfl ?_)) ?_
  refine Bod.ic 1 (by decide) dc_336_445 ?_
  refine Bod.virt (r := []) dc_336_446 kr_336_269 ⟨Or.inl rfl, ow_322, cl_14⟩ (by rw [np_322]; rfl) (by rw [np_322]; rfl) (ob_of (mk_61 _)) (Nat.le_of_ble_eq_true rfl) (c2  ) ?_
  show Bod _ _ _ _ [] _ _ _
  refine Bod.aldnG dc_336_449 (by repeat (first | exact q0 | exact sm_get_p1 | exact sm_get_p2e | refine sm_get_p1m (by decide) (by decide) ?_ | refine sm_get_p1n (by decide) rfl ?_ | refine sm_get_p2n (by decide) (by decide) rfl ?_)) ?_
  refine Bod.bip 29 (by decide) dc_336_450 ?_
  refine Bod.virt (r := []) dc_336_452 kr_336_269 ⟨Or.inl rfl, ow_322, cl_14⟩ (by rw [np_322]; rfl) (by rw [np_322]; rfl) (ob_of (mk_61 _)) (Nat.le_of_ble_eq_true rfl) (c3  ) ?_
  show Bod _ _ _ _ [] _ _ _
  refine Bod.aldnG dc_336_455 (by repeat (first | exact q0 | exact sm_get_p1 | exact sm_get_p2e | refine sm_get_p1m (by decide) (by decide) ?_ | refine sm_get_p1n (by decide) rfl ?_ | refine sm_get_p2n (by decide) (by decide) rfl ?_)) ?_
  refine Bod.ildG dc_336_456 (by repeat (first | exact q6 | exact sm_get_p1 | exact sm_get_p2e | refine sm_get_p1m (by decide) (by decide) ?_ | refine sm_get_p1n (by decide) rfl ?_ | refine sm_get_p2n (by decide) (by decide) rfl ?_)) ?_
  refine Bod.virt (r := []) dc_336_458 kr_336_317 ⟨Or.inl rfl, ow_326, cl_14⟩ (by rw [np_326]; rfl) (by rw [np_326]; rfl) (ob_of (mk_61 _)) (Nat.le_of_ble_eq_true rfl) (c4  ) ?_
  show Bod _ _ _ _ [] _ _ _
  refine Bod.aldnG dc_336_461 (by repeat (first | exact q0 | exact sm_get_p1 | exact sm_get_p2e | refine sm_get_p1m (by decide) (by decide) ?_ | refine sm_get_p1n (by decide) rfl ?_ | refine sm_get_p2n (by decide) (by decide) rfl ?_)) ?_
  refine Bod.aldnG dc_336_462 (by repeat (first | exact q0 | exact sm_get_p1 | exact sm_get_p2e | refine sm_get_p1m (by decide) (by decide) ?_ | refine sm_get_p1n (by decide) rfl ?_ | refine sm_get_p2n (by decide) (by decide) rfl ?_)) ?_
  refine Bod.get dc_336_463 fr_336_350 (mk_61 _) rfl ?_
  refine Bod.aldnG dc_336_466 (by repeat (first | exact q0 | exact sm_get_p1 | exact sm_get_p2e | refine sm_get_p1m (by decide) (by decide) ?_ | refine sm_get_p1n (by decide) rfl ?_ | refine sm_get_p2n (by decide) (by decide) rfl ?_)) ?_
  refine Bod.get dc_336_467 fr_336_236 (mk_61 _) rfl ?_
  refine Bod.eqI (nI F1) (by first | (simp (disch := omega) only [rI, rIe, rA, rIA, rLA, rJA, rVI, rQI, rVA, rQA, upd_at,  rAI, rLI, rJI, nI_add, pk_sub, kc_0, kc_1, kc_2, kc_3, kc_4, kc_5, reduceIte, Nat.reduceEqDiff, Nat.add_zero, rI_hold, rI_hold, rL_hold, hnl, hF, he75, htr, hL, hF1]; done) | (simp (disch := omega) only [rI, rIe, rA, rIA, rLA, rJA, rVI, rQI, rVA, rQA, upd_at,  rAI, rLI, rJI, nI_add, pk_sub, kc_0, kc_1, kc_2, kc_3, kc_4, kc_5, reduceIte, Nat.reduceEqDiff, Nat.add_zero, rI_hold, rI_hold, rL_hold, hnl, hF, he75, htr, hL, hF1]; exact congrArg nI (by omega))) ?_
  refine Bod.ialdN F1 rfl (by omega) (by omega) dc_336_470 (mk_75 _) ?_
  refine Bod.eqI (nI e751) (by first | (simp (disch := omega) only [rI, rIe, rA, rIA, rLA, rJA, rVI, rQI, rVA, rQA, upd_at,  rAI, rLI, rJI, nI_add, pk_sub, kc_0, kc_1, kc_2, kc_3, kc_4, kc_5, reduceIte, Nat.reduceEqDiff, Nat.add_zero, rI_hold, rI_hold, rL_hold, hnl, hF, he75, htr, hL, hF1, he751]; done) | (simp (disch := omega) only [rI, rIe, rA, rIA, rLA, rJA, rVI, rQI, rVA, rQA, upd_at,  rAI, rLI, rJI, nI_add, pk_sub, kc_0, kc_1, kc_2, kc_3, kc_4, kc_5, reduceIte, Nat.reduceEqDiff, Nat.add_zero, rI_hold, rI_hold, rL_hold, hnl, hF, he75, htr, hL, hF1, he751]; exact congrArg nI (by omega))) ?_
  refine Bod.put dc_336_471 fr_336_239 (mk_61 _) (Nat.le_of_ble_eq_true rfl) pf_14_23 (st_6123 _ _) (mu_I _ _ _) ?_
  refine Bod.aldnG dc_336_474 (by repeat (first | exact q0 | exact sm_get_p1 | exact sm_get_p2e | refine sm_get_p1m (by decide) (by decide) ?_ | refine sm_get_p1n (by decide) rfl ?_ | refine sm_get_p2n (by decide) (by decide) rfl ?_)) ?_
  refine Bod.aldnG dc_336_475 (by repeat (first | exact q0 | exact sm_get_p1 | exact sm_get_p2e | refine sm_get_p1m (by decide) (by decide) ?_ | refine sm_get_p1n (by decide) rfl ?_ | refine sm_get_p2n (by decide) (by decide) rfl ?_)) ?_
  refine Bod.get dc_336_476 fr_336_362 (mk_61 _) rfl ?_
  refine Bod.aldnG dc_336_479 (by repeat (first | exact q0 | exact sm_get_p1 | exact sm_get_p2e | refine sm_get_p1m (by decide) (by decide) ?_ | refine sm_get_p1n (by decide) rfl ?_ | refine sm_get_p2n (by decide) (by decide) rfl ?_)) ?_
  refine Bod.get dc_336_480 fr_336_236 (mk_61 _) rfl ?_
  refine Bod.eqI (nI F1) (by first | (simp (disch := omega) only [rI, rIe, rA, rIA, rLA, rJA, rVI, rQI, rVA, rQA, upd_at,  rAI, rLI, rJI, nI_add, pk_sub, kc_0, kc_1, kc_2, kc_3, kc_4, kc_5, reduceIte, Nat.reduceEqDiff, Nat.add_zero, rI_hold, rI_hold, rL_hold, hnl, hF, he75, htr, hL, hF1, he751]; done) | (simp (disch := omega) only [rI, rIe, rA, rIA, rLA, rJA, rVI, rQI, rVA, rQA, upd_at,  rAI, rLI, rJI, nI_add, pk_sub, kc_0, kc_1, kc_2, kc_3, kc_4, kc_5, reduceIte, Nat.reduceEqDiff, Nat.add_zero, rI_hold, rI_hold, rL_hold, hnl, hF, he75, htr, hL, hF1, he751]; exact congrArg nI (by omega))) ?_
  refine Bod.ialdN F1 rfl (by omega) (by omega) dc_336_483 (mk_83 _) ?_
  refine Bod.eqI (nI e83) (by first | (simp (disch := omega) only [rI, rIe, rA, rIA, rLA, rJA, rVI, rQI, rVA, rQA, upd_at,  rAI, rLI, rJI, nI_add, pk_sub, kc_0, kc_1, kc_2, kc_3, kc_4, kc_5, reduceIte, Nat.reduceEqDiff, Nat.add_zero, rI_hold, rI_hold, rL_hold, hnl, hF, he75, htr, hL, hF1, he751, he83]; done) | (simp (disch := omega) only [rI, rIe, rA, rIA, rLA, rJA, rVI, rQI, rVA, rQA, upd_at,  rAI, rLI, rJI, nI_add, pk_sub, kc_0, kc_1, kc_2, kc_3, kc_4, kc_5, reduceIte, Nat.reduceEqDiff, Nat.add_zero, rI_hold, rI_hold, rL_hold, hnl, hF, he75, htr, hL, hF1, he751, he83]; exact congrArg nI (by omega))) ?_
  refine Bod.put dc_336_484 fr_336_254 (mk_61 _) (Nat.le_of_ble_eq_true rfl) pf_14_37 (st_6137 _ _) (mu_I _ _ _) ?_
  refine Bod.aldnG dc_336_487 (by repeat (first | exact q0 | exact sm_get_p1 | exact sm_get_p2e | refine sm_get_p1m (by decide) (by decide) ?_ | refine sm_get_p1n (by decide) rfl ?_ | refine sm_get_p2n (by decide) (by decide) rfl ?_)) ?_
  refine Bod.go dc_336_488 rfl ?_
  refine Bod.get dc_336_489 fr_336_236 (mk_61 _) rfl ?_
  refine Bod.eqI (nI F1) (by first | (simp (disch := omega) only [rI, rIe, rA, rIA, rLA, rJA, rVI, rQI, rVA, rQA, upd_at,  rAI, rLI, rJI, nI_add, pk_sub, kc_0, kc_1, kc_2, kc_3, kc_4, kc_5, reduceIte, Nat.reduceEqDiff, Nat.add_zero, rI_hold, rI_hold, rL_hold, hnl, hF, he75, htr, hL, hF1, he751, he83]; done) | (simp (disch := omega) only [rI, rIe, rA, rIA, rLA, rJA, rVI, rQI, rVA, rQA, upd_at,  rAI, rLI, rJI, nI_add, pk_sub, kc_0, kc_1, kc_2, kc_3, kc_4, kc_5, reduceIte, Nat.reduceEqDiff, Nat.add_zero, rI_hold, rI_hold, rL_hold, hnl, hF, he75, htr, hL, hF1, he751, he83]; exact congrArg nI (by omega))) ?_
  refine Bod.ic 1 (by decide) dc_336_492 ?_
  refine Bod.subN (F1 - 1) (by omega) (by omega) dc_336_493 ?_
  refine Bod.put dc_336_494 fr_336_236 (mk_61 _) (Nat.le_of_ble_eq_true rfl) pf_14_22 (st_6122 _ _) (mu_I _ _ _) ?_
  refine Bod.aldnG dc_336_497 (by repeat (first | exact q0 | exact sm_get_p1 | exact sm_get_p2e | refine sm_get_p1m (by decide) (by decide) ?_ | refine sm_get_p1n (by decide) rfl ?_ | refine sm_get_p2n (by decide) (by decide) rfl ?_)) ?_
  refine Bod.bip 37 (by decide) dc_336_498 ?_
  refine Bod.ildG dc_336_500 (by repeat (first | exact q4 | exact sm_get_p1 | exact sm_get_p2e | refine sm_get_p1m (by decide) (by decide) ?_ | refine sm_get_p1n (by decide) rfl ?_ | refine sm_get_p2n (by decide) (by decide) rfl ?_)) ?_
  refine Bod.virt (r := []) dc_336_502 kr_336_216 ⟨Or.inl rfl, ow_302, cl_14⟩ (by rw [np_302]; rfl) (by rw [np_302]; rfl) (ob_of (mk_61 _)) (Nat.le_of_ble_eq_true rfl) (c5  ) ?_
  show Bod _ _ _ _ [] _ _ _
  refine Bod.ildnG dc_336_505 (by repeat (first | exact q2 | exact sm_get_p1 | exact sm_get_p2e | refine sm_get_p1m (by decide) (by decide) ?_ | refine sm_get_p1n (by decide) rfl ?_ | refine sm_get_p2n (by decide) (by decide) rfl ?_)) ?_
  refine Bod.ifF dc_336_506 rfl (k1_eq_F (k_ne lb 0 rfl rfl (by omega) (by omega) (by omega))) ?_
  refine Bod.aldnG dc_336_509 (by repeat (first | exact q0 | exact sm_get_p1 | exact sm_get_p2e | refine sm_get_p1m (by decide) (by decide) ?_ | refine sm_get_p1n (by decide) rfl ?_ | refine sm_get_p2n (by decide) (by decide) rfl ?_)) ?_
  refine Bod.bip 6 (by decide) dc_336_510 ?_
  refine Bod.ildnG dc_336_512 (by repeat (first | exact q3 | exact sm_get_p1 | exact sm_get_p2e | refine sm_get_p1m (by decide) (by decide) ?_ | refine sm_get_p1n (by decide) rfl ?_ | refine sm_get_p2n (by decide) (by decide) rfl ?_)) ?_
  refine Bod.virt (r := []) dc_336_513 kr_336_341 ⟨Or.inl rfl, ow_317, cl_14⟩ (by rw [np_317]; rfl) (by rw [np_317]; rfl) (ob_of (mk_61 _)) (Nat.le_of_ble_eq_true rfl) (c6  ) ?_
  show Bod _ _ _ _ [] _ _ _
  refine Bod.ic 1 (by decide) dc_336_516 ?_
  exact Bod.retZ dc_336_517 rt_336 (Or.inr rfl)
theorem zDr_3 {d : Nat} {S : cS} {lv : sm_L} {la : Nat} {lb : Nat} {lnm : Nat} {lf : Nat} {lh : Nat} {m : Nat} {u : Nat} {g : Nat} {N : Nat} {nl : Nat} {F : Nat} {e75 : Nat} {tr : Nat} {L : Nat} {S1 : cS} (q0 : sm_get lv 0 = some (.ref 61)) (q1 : sm_get lv 1 = some (.int (nI la))) (q2 : sm_get lv 2 = some (.int (nI lb))) (q3 : sm_get lv 3 = some (.int (nI lnm))) (q4 : sm_get lv 4 = some (.int (nI lf))) (q6 : sm_get lv 6 = some (.int (nI lh))) (mla : la < 2 ^ 20) (mlb : lb < 2 ^ 20) (mlnm : lnm < 2 ^ 20) (mlf : lf < 2 ^ 20) (mlh : lh < 2 ^ 20) (hm : 108 ≤ m) (hv1 : sV S 6114 = .ref m) (hz2 : (sS S)[m - 108]? = some (12, u)) (hv3 : sV S (100 * m + 10) = .ref g) (hg3 : isK S g 0 N) (mN : N < 2 ^ 20) (hnl : sI S 6123 = nI nl) (mnl : nl < 6000) (hF : sI S 6122 = nI F) (mF : F < 15) (he75 : sA S 75 F = nI e75) (me75 : e75 < 2 ^ 20) (b1 : e75 ≤ nl) (b2 : lf < N) (htr : sI (wA g lf (nI (nl - e75)) S) 6127 = nI tr) (mtr : tr < 14) (hL : sI (wA g lf (nI (nl - e75)) S) 6126 = nI L) (mL : L < 30) (c1 : Ans (d + 8) 334 [.ref 61, .int (nI la), .int (nI 0)] (wI 6126 (nI (L + 1)) (wA 77 L (Int32.ofInt (-1)) (wI 6127 (nI 0) (wA g lf (nI (nl - e75)) S)))) (some (.int (nI 0))) S1) : Bod (d + 8) 336 360 lv [] S (some (.int 0)) (S1) := by
  refine Bod.aldnG dc_336_360 (by repeat (first | exact q0 | exact sm_get_p1 | exact sm_get_p2e | refine sm_get_p1m (by decide) (by decide) ?_ | refine sm_get_p1n (by decide) rfl ?_ | refine sm_get_p2n (by decide) (by decide) rfl ?_)) ?_
  refine Bod.get dc_336_361 fr_336_206 (mk_61 _) rfl ?_
  refine Bod.eqV (.ref m) (by first | exact hv1 | (simp only [rIV, rJV, rAV, rLV, rQV, rV, reduceIte, Nat.reduceEqDiff]; exact hv1)) ?_
  refine Bod.get dc_336_364 fr_336_379 (mk_code hm (by first | exact hz2 | (simp only [rIS, rJS, rAS, rLS, rVS, rQS, rS_hold]; exact hz2))) rfl ?_
  refine Bod.eqV (.ref g) (by first | exact hv3 | (simp only [rIV, rJV, rAV, rLV, rQV, rV, reduceIte, Nat.reduceEqDiff]; exact hv3)) ?_
  refine Bod.ildG dc_336_367 (by repeat (first | exact q4 | exact sm_get_p1 | exact sm_get_p2e | refine sm_get_p1m (by decide) (by decide) ?_ | refine sm_get_p1n (by decide) rfl ?_ | refine sm_get_p2n (by decide) (by decide) rfl ?_)) ?_
  refine Bod.aldnG dc_336_369 (by repeat (first | exact q0 | exact sm_get_p1 | exact sm_get_p2e | refine sm_get_p1m (by decide) (by decide) ?_ | refine sm_get_p1n (by decide) rfl ?_ | refine sm_get_p2n (by decide) (by decide) rfl ?_)) ?_
  refine Bod.get dc_336_370 fr_336_239 (mk_61 _) rfl ?_
  refine Bod.eqI (nI nl) (by first | assumption | rfl | exact congrArg nI (by omega) | (simp (disch := omega) only [rI, rIe, rA, rIA, rLA, rJA, rVI, rQI, rVA, rQA, upd_at,  rAI, rLI, rJI, nI_add, pk_sub, kc_0, kc_1, kc_2, kc_3, kc_4, kc_5, reduceIte, Nat.reduceEqDiff, Nat.add_zero, rI_hold, rI_hold, rL_hold, hnl]; done)) ?_
  refine Bod.aldnG dc_336_373 (by repeat (first | exact q0 | exact sm_get_p1 | exact sm_get_p2e | refine sm_get_p1m (by decide) (by decide) ?_ | refine sm_get_p1n (by decide) rfl ?_ | refine sm_get_p2n (by decide) (by decide) rfl ?_)) ?_
  refine Bod.get dc_336_374 fr_336_350 (mk_61 _) rfl ?_
  refine Bod.aldnG dc_336_377 (by repeat (first | exact q0 | exact sm_get_p1 | exact sm_get_p2e | refine sm_get_p1m (by decide) (by decide) ?_ | refine sm_get_p1n (by decide) rfl ?_ | refine sm_get_p2n (by decide) (by decide) rfl ?_)) ?_
  refine Bod.get dc_336_378 fr_336_236 (mk_61 _) rfl ?_
  refine Bod.eqI (nI F) (by first | assumption | rfl | exact congrArg nI (by omega) | (simp (disch := omega) only [rI, rIe, rA, rIA, rLA, rJA, rVI, rQI, rVA, rQA, upd_at,  rAI, rLI, rJI, nI_add, pk_sub, kc_0, kc_1, kc_2, kc_3, kc_4, kc_5, reduceIte, Nat.reduceEqDiff, Nat.add_zero, rI_hold, rI_hold, rL_hold, hnl, hF]; done)) ?_
  refine Bod.ialdN F rfl (by omega) (by omega) dc_336_381 (mk_75 _) ?_
  refine Bod.eqI (nI e75) (by first | assumption | rfl | exact congrArg nI (by omega) | (simp (disch := omega) only [rI, rIe, rA, rIA, rLA, rJA, rVI, rQI, rVA, rQA, upd_at,  rAI, rLI, rJI, nI_add, pk_sub, kc_0, kc_1, kc_2, kc_3, kc_4, kc_5, reduceIte, Nat.reduceEqDiff, Nat.add_zero, rI_hold, rI_hold, rL_hold, hnl, hF, he75]; done)) ?_
  refine Bod.subN (nl - e75) (by omega) (by omega) dc_336_382 ?_
  refine Bod.iastN (N := N) lf rfl (by omega) (by omega) dc_336_383 (mk_isI (by first | exact hg3 | exact isK_S (by simp only [rIS, rJS, rAS, rLS, rVS, rQS, rS_hold]) hg3)) (sa_isI (by first | exact hg3 | exact isK_S (by simp only [rIS, rJS, rAS, rLS, rVS, rQS, rS_hold]) hg3)) (mu_A _ _ _ _) ?_
  refine Bod.aldnG dc_336_384 (by repeat (first | exact q0 | exact sm_get_p1 | exact sm_get_p2e | refine sm_get_p1m (by decide) (by decide) ?_ | refine sm_get_p1n (by decide) rfl ?_ | refine sm_get_p2n (by decide) (by decide) rfl ?_)) ?_
  refine Bod.get dc_336_385 fr_336_245 (mk_61 _) rfl ?_
  refine Bod.eqI (nI tr) (by first | (simp (disch := omega) only [rI, rIe, rA, rIA, rLA, rJA, rVI, rQI, rVA, rQA, upd_at,  rAI, rLI, rJI, nI_add, pk_sub, kc_0, kc_1, kc_2, kc_3, kc_4, kc_5, reduceIte, Nat.reduceEqDiff, Nat.add_zero, rI_hold, rI_hold, rL_hold, hnl, hF, he75, htr]; done) | (simp (disch := omega) only [rI, rIe, rA, rIA, rLA, rJA, rVI, rQI, rVA, rQA, upd_at,  rAI, rLI, rJI, nI_add, pk_sub, kc_0, kc_1, kc_2, kc_3, kc_4, kc_5, reduceIte, Nat.reduceEqDiff, Nat.add_zero, rI_hold, rI_hold, rL_hold, hnl, hF, he75, htr]; exact congrArg nI (by omega))) ?_
  refine Bod.ist dc_336_388 (by rw [ml_336]; exact Nat.le_of_ble_eq_true rfl) ?_
  refine Bod.aldnG dc_336_390 (by repeat (first | exact q0 | exact sm_get_p1 | exact sm_get_p2e | refine sm_get_p1m (by decide) (by decide) ?_ | refine sm_get_p1n (by decide) rfl ?_ | refine sm_get_p2n (by decide) (by decide) rfl ?_)) ?_
  refine Bod.get dc_336_391 fr_336_242 (mk_61 _) rfl ?_
  refine Bod.eqI (nI L) (by first | (simp (disch := omega) only [rI, rIe, rA, rIA, rLA, rJA, rVI, rQI, rVA, rQA, upd_at,  rAI, rLI, rJI, nI_add, pk_sub, kc_0, kc_1, kc_2, kc_3, kc_4, kc_5, reduceIte, Nat.reduceEqDiff, Nat.add_zero, rI_hold, rI_hold, rL_hold, hnl, hF, he75, htr, hL]; done) | (simp (disch := omega) only [rI, rIe, rA, rIA, rLA, rJA, rVI, rQI, rVA, rQA, upd_at,  rAI, rLI, rJI, nI_add, pk_sub, kc_0, kc_1, kc_2, kc_3, kc_4, kc_5, reduceIte, Nat.reduceEqDiff, Nat.add_zero, rI_hold, rI_hold, rL_hold, hnl, hF, he75, htr, hL]; exact congrArg nI (by omega))) ?_
  refine Bod.ist dc_336_394 (by rw [ml_336]; exact Nat.le_of_ble_eq_true rfl) ?_
  refine Bod.aldnG dc_336_396 (by repeat (first | exact q0 | exact sm_get_p1 | exact sm_get_p2e | refine sm_get_p1m (by decide) (by decide) ?_ | refine sm_get_p1n (by decide) rfl ?_ | refine sm_get_p2n (by decide) (by decide) rfl ?_)) ?_
  refine Bod.ic 0 (by decide) dc_336_397 ?_
  refine Bod.put dc_336_398 fr_336_245 (mk_61 _) (Nat.le_of_ble_eq_true rfl) pf_14_27 (st_6127 _ _) (mu_I _ _ _) ?_
  refine Bod.aldnG dc_336_401 (by repeat (first | exact q0 | exact sm_get_p1 | exact sm_get_p2e | refine sm_get_p1m (by decide) (by decide) ?_ | refine sm_get_p1n (by decide) rfl ?_ | refine sm_get_p2n (by decide) (by decide) rfl ?_)) ?_
  refine Bod.get dc_336_402 fr_336_320 (mk_61 _) rfl ?_
  refine Bod.aldnG dc_336_405 (by repeat (first | exact q0 | exact sm_get_p1 | exact sm_get_p2e | refine sm_get_p1m (by decide) (by decide) ?_ | refine sm_get_p1n (by decide) rfl ?_ | refine sm_get_p2n (by decide) (by decide) rfl ?_)) ?_
  refine Bod.get dc_336_406 fr_336_242 (mk_61 _) rfl ?_
  refine Bod.eqI (nI L) (by first | (simp (disch := omega) only [rI, rIe, rA, rIA, rLA, rJA, rVI, rQI, rVA, rQA, upd_at,  rAI, rLI, rJI, nI_add, pk_sub, kc_0, kc_1, kc_2, kc_3, kc_4, kc_5, reduceIte, Nat.reduceEqDiff, Nat.add_zero, rI_hold, rI_hold, rL_hold, hnl, hF, he75, htr, hL]; done) | (simp (disch := omega) only [rI, rIe, rA, rIA, rLA, rJA, rVI, rQI, rVA, rQA, upd_at,  rAI, rLI, rJI, nI_add, pk_sub, kc_0, kc_1, kc_2, kc_3, kc_4, kc_5, reduceIte, Nat.reduceEqDiff, Nat.add_zero, rI_hold, rI_hold, rL_hold, hnl, hF, he75, htr, hL]; exact congrArg nI (by omega))) ?_
  refine Bod.go dc_336_409 rfl ?_
  refine Bod.iastN L rfl (by omega) (by omega) dc_336_410 (mk_77 _) (sa_77 _ _ _) (mu_A _ _ _ _) ?_
  refine Bod.aldnG dc_336_411 (by repeat (first | exact q0 | exact sm_get_p1 | exact sm_get_p2e | refine sm_get_p1m (by decide) (by decide) ?_ | refine sm_get_p1n (by decide) rfl ?_ | refine sm_get_p2n (by decide) (by decide) rfl ?_)) ?_
  refine Bod.go dc_336_412 rfl ?_
  refine Bod.get dc_336_413 fr_336_242 (mk_61 _) rfl ?_
  refine Bod.eqI (nI L) (by first | (simp (disch := omega) only [rI, rIe, rA, rIA, rLA, rJA, rVI, rQI, rVA, rQA, upd_at,  rAI, rLI, rJI, nI_add, pk_sub, kc_0, kc_1, kc_2, kc_3, kc_4, kc_5, reduceIte, Nat.reduceEqDiff, Nat.add_zero, rI_hold, rI_hold, rL_hold, hnl, hF, he75, htr, hL]; done) | (simp (disch := omega) only [rI, rIe, rA, rIA, rLA, rJA, rVI, rQI, rVA, rQA, upd_at,  rAI, rLI, rJI, nI_add, pk_sub, kc_0, kc_1, kc_2, kc_3, kc_4, kc_5, reduceIte, Nat.reduceEqDiff, Nat.add_zero, rI_hold, rI_hold, rL_hold, hnl, hF, he75, htr, hL]; exact congrArg nI (by omega))) ?_
  refine Bod.ic 1 (by decide) dc_336_416 ?_
  refine Bod.addN (L + 1) (by omega) dc_336_417 ?_
  refine Bod.put dc_336_418 fr_336_242 (mk_61 _) (Nat.le_of_ble_eq_true rfl) pf_14_26 (st_6126 _ _) (mu_I _ _ _) ?_
  refine Bod.aldnG dc_336_421 (by repeat (first | exact q0 | exact sm_get_p1 | exact sm_get_p2e | refine sm_get_p1m (by decide) (by decide) ?_ | refine sm_get_p1n (by decide) rfl ?_ | refine sm_get_p2n (by decide) (by decide) rfl ?_)) ?_
  refine Bod.ildnG dc_336_422 (by repeat (first | exact q1 | exact sm_get_p1 | exact sm_get_p2e | refine sm_get_p1m (by decide) (by decide) ?_ | refine sm_get_p1n (by decide) rfl ?_ | refine sm_get_p2n (by decide) (by decide) rfl ?_)) ?_
  refine Bod.ic 0 (by decide) dc_336_423 ?_
  refine Bod.virt (r := []) dc_336_424 kr_336_309 ⟨Or.inl rfl, ow_334, cl_14⟩ (by rw [np_334]; rfl) (by rw [np_334]; rfl) (ob_of (mk_61 _)) (Nat.le_of_ble_eq_true rfl) (c1  ) ?_
  show Bod _ _ _ _ [_] _ _ _
  refine Bod.ifF dc_336_427 rfl (k1_ne_F (k_eq 0 0 rfl rfl (by omega))) ?_
  refine Bod.ic 0 (by decide) dc_336_430 ?_
  exact Bod.retZ dc_336_431 rt_336 (Or.inl rfl)
theorem zCl_1 {d : Nat} {S Sf : cS} {v : Option Value} {la : Nat} {k : Nat} {e69 : Nat} {e67 : Nat} {e68 : Nat} {af : Nat} {S1 : cS} {k1 : Nat} {e671 : Nat} {e681 : Nat} {S2 : cS} (mla : la < 2 ^ 20) (hk : sI S 6115 = nI k) (mk : k < 6001) (he69 : sA S 69 k = nI e69) (me69 : e69 < 2 ^ 20) (he67 : sA (wI 6115 (nI (k + 1)) S) 67 (k + 1) = nI e67) (me67 : e67 < 2 ^ 20) (b1 : e67 = 1) (he68 : sA (wI 6115 (nI (k + 1)) S) 68 (k + 1) = nI e68) (me68 : e68 < 2 ^ 20) (haf : sI (wI 6115 (nI (k + 1)) S) 6140 = nI af) (maf : af < 6000) (c1 : Ans (d + 8) 314 [.ref 61, .int (nI 40)] (wI 6115 (nI (k + 2)) (wI 6115 (nI (k + 1)) S)) (some (.int (nI 1))) S1) (hk1 : sI S1 6115 = nI k1) (mk1 : k1 < 6001) (he671 : sA (wI 6115 (nI (k1 + 1)) S1) 67 (k1 + 1) = nI e671) (me671 : e671 < 2 ^ 20) (b2 : e671 = 1) (he681 : sA (wI 6115 (nI (k1 + 1)) S1) 68 (k1 + 1) = nI e681) (me681 : e681 < 2 ^ 20) (c2 : Ans (d + 8) 323 [.ref 61, .int (nI 41)] (wI 6115 (nI (k1 + 2)) (wI 6115 (nI (k1 + 1)) S1)) (some (.int (nI 1))) S2) (hB : ∀ lv1 : sm_L, sm_get lv1 0 = some (.ref 61) → sm_get lv1 1 = some (.int (nI la)) → sm_get lv1 2 = some (.int (nI e69)) → sm_get lv1 3 = some (.int (nI e68)) → sm_get lv1 4 = some (.int (nI e681)) → sm_get lv1 5 = some (.int (nI af)) → Bod (d + 8) 346 136 lv1 [] (S2) v Sf) : Bod (d + 8) 346 0 [(0, .ref 61), (1, .int (nI la))] [] S v Sf := by
  refine Bod.go dc_346_0 rfl ?_
  refine Bod.get dc_346_1 fr_346_138 (mk_61 _) rfl ?_
  refine Bod.go dc_346_4 rfl ?_
  refine Bod.get dc_346_5 fr_346_190 (mk_61 _) rfl ?_
  refine Bod.eqI (nI k) (by first | assumption | rfl | exact congrArg nI (by omega) | (simp (disch := omega) only [rI, rIe, rA, rIA, rLA, rJA, rVI, rQI, rVA, rQA, upd_at,  rAI, rLI, rJI, nI_add, pk_sub, kc_0, kc_1, kc_2, kc_3, kc_4, kc_5, reduceIte, Nat.reduceEqDiff, Nat.add_zero, rI_hold, rI_hold, rL_hold, hk]; done)) ?_
  refine Bod.ialdN k rfl (by omega) (by omega) dc_346_8 (mk_69 _) ?_
  refine Bod.eqI (nI e69) (by first | assumption | rfl | exact congrArg nI (by omega) | (simp (disch := omega) only [rI, rIe, rA, rIA, rLA, rJA, rVI, rQI, rVA, rQA, upd_at,  rAI, rLI, rJI, nI_add, pk_sub, kc_0, kc_1, kc_2, kc_3, kc_4, kc_5, reduceIte, Nat.reduceEqDiff, Nat.add_zero, rI_hold, rI_hold, rL_hold, hk, he69]; done)) ?_
  refine Bod.istn dc_346_9 (by rw [ml_346]; exact Nat.le_of_ble_eq_true rfl) ?_
  refine Bod.go dc_346_10 rfl ?_
  refine Bod.go dc_346_11 rfl ?_
  refine Bod.get dc_346_12 fr_346_190 (mk_61 _) rfl ?_
  refine Bod.eqI (nI k) (by first | assumption | rfl | exact congrArg nI (by omega) | (simp (disch := omega) only [rI, rIe, rA, rIA, rLA, rJA, rVI, rQI, rVA, rQA, upd_at,  rAI, rLI, rJI, nI_add, pk_sub, kc_0, kc_1, kc_2, kc_3, kc_4, kc_5, reduceIte, Nat.reduceEqDiff, Nat.add_zero, rI_hold, rI_hold, rL_hold, hk, he69]; done)) ?_
  refine Bod.ic 1 (by decide) dc_346_15 ?_
  refine Bod.addN (k + 1) (by omega) dc_346_16 ?_
  refine Bod.put dc_346_17 fr_346_190 (mk_61 _) (Nat.le_of_ble_eq_true rfl) pf_14_15 (st_6115 _ _) (mu_I _ _ _) ?_
  refine Bod.go dc_346_20 rfl ?_
  refine Bod.get dc_346_21 fr_346_129 (mk_61 _) rfl ?_
  refine Bod.go dc_346_24 rfl ?_
  refine Bod.get dc_346_25 fr_346_190 (mk_61 _) rfl ?_
  refine Bod.eqI (nI (k + 1)) (by first | (simp (disch := omega) only [rI, rIe, rA, rIA, rLA, rJA, rVI, rQI, rVA, rQA, upd_at,  rAI, rLI, rJI, nI_add, pk_sub, kc_0, kc_1, kc_2, kc_3, kc_4, kc_5, reduceIte, Nat.reduceEqDiff, Nat.add_zero, rI_hold, rI_hold, rL_hold, hk, he69]; done) | (simp (disch := omega) only [rI, rIe, rA, rIA, rLA, rJA, rVI, rQI, rVA, rQA, upd_at,  rAI, rLI, rJI, nI_add, pk_sub, kc_0, kc_1, kc_2, kc_3, kc_4, kc_5, reduceIte, Nat.reduceEqDiff, Nat.add_zero, rI_hold, rI_hold, rL_hold, hk, he69]; exact congrArg nI (by omega))) ?_
  refine Bod.ialdN (k + 1) rfl (by omega) (by omega) dc_346_28 (mk_67 _) ?_
  refine Bod.eqI (nI e67) (by first | (simp (disch := omega) only [rI, rIe, rA, rIA, rLA, rJA, rVI, rQI, rVA, rQA, upd_at,  rAI, rLI, rJI, nI_add, pk_sub, kc_0, kc_1, kc_2, kc_3, kc_4, kc_5, reduceIte, Nat.reduceEqDiff, Nat.add_zero, rI_hold, rI_hold, rL_hold, hk, he69, he67]; done) | (simp (disch := omega) only [rI, rIe, rA, rIA, rLA, rJA, rVI, rQI, rVA, rQA, upd_at,  rAI, rLI, rJI, nI_add, pk_sub, kc_0, kc_1, kc_2, kc_3, kc_4, kc_5, reduceIte, Nat.reduceEqDiff, Nat.add_zero, rI_hold, rI_hold, rL_hold, hk, he69, he67]; exact congrArg nI (by omega))) ?_
  refine Bod.ic 1 (by decide) dc_346_29 ?_
  refine Bod.icT dc_346_30 rfl (k2_eq_T (k_eq e67 1 rfl rfl (by omega))) ?_
  refine Bod.go dc_346_38 rfl ?_
  refine Bod.get dc_346_39 fr_346_135 (mk_61 _) rfl ?_
  refine Bod.go dc_346_42 rfl ?_
  refine Bod.get dc_346_43 fr_346_190 (mk_61 _) rfl ?_
  refine Bod.eqI (nI (k + 1)) (by first | (simp (disch := omega) only [rI, rIe, rA, rIA, rLA, rJA, rVI, rQI, rVA, rQA, upd_at,  rAI, rLI, rJI, nI_add, pk_sub, kc_0, kc_1, kc_2, kc_3, kc_4, kc_5, reduceIte, Nat.reduceEqDiff, Nat.add_zero, rI_hold, rI_hold, rL_hold, hk, he69, he67]; done) | (simp (disch := omega) only [rI, rIe, rA, rIA, rLA, rJA, rVI, rQI, rVA, rQA, upd_at,  rAI, rLI, rJI, nI_add, pk_sub, kc_0, kc_1, kc_2, kc_3, kc_4, kc_5, reduceIte, Nat.reduceEqDiff, Nat.add_zero, rI_hold, rI_hold, rL_hold, hk, he69, he67]; exact congrArg nI (by omega))) ?_
  refine Bod.ialdN (k + 1) rfl (by omega) (by omega) dc_346_46 (mk_68 _) ?_
  refine Bod.eqI (nI e68) (by first | (simp (disch := omega) only [rI, rIe, rA, rIA, rLA, rJA, rVI, rQI, rVA, rQA, upd_at,  rAI, rLI, rJI, nI_add, pk_sub, kc_0, kc_1, kc_2, kc_3, kc_4, kc_5, reduceIte, Nat.reduceEqDiff, Nat.add_zero, rI_hold, rI_hold, rL_hold, hk, he69, he67, he68]; done) | (simp (disch := omega) only [rI, rIe, rA, rIA, rLA, rJA, rVI, rQI, rVA, rQA, upd_at,  rAI, rLI, rJI, nI_add, pk_sub, kc_0, kc_1, kc_2, kc_3, kc_4, kc_5, reduceIte, Nat.reduceEqDiff, Nat.add_zero, rI_hold, rI_hold, rL_hold, hk, he69, he67, he68]; exact congrArg nI (by omega))) ?_
  refine Bod.istn dc_346_47 (by rw [ml_346]; exact Nat.le_of_ble_eq_true rfl) ?_
  refine Bod.go dc_346_48 rfl ?_
  refine Bod.ist dc_346_49 (by rw [ml_346]; exact Nat.le_of_ble_eq_true rfl) ?_
  refine Bod.go dc_346_51 rfl ?_
  refine Bod.get dc_346_52 fr_346_260 (mk_61 _) rfl ?_
  refine Bod.eqI (nI af) (by first | (simp (disch := omega) only [rI, rIe, rA, rIA, rLA, rJA, rVI, rQI, rVA, rQA, upd_at,  rAI, rLI, rJI, nI_add, pk_sub, kc_0, kc_1, kc_2, kc_3, kc_4, kc_5, reduceIte, Nat.reduceEqDiff, Nat.add_zero, rI_hold, rI_hold, rL_hold, hk, he69, he67, he68, haf]; done) | (simp (disch := omega) only [rI, rIe, rA, rIA, rLA, rJA, rVI, rQI, rVA, rQA, upd_at,  rAI, rLI, rJI, nI_add, pk_sub, kc_0, kc_1, kc_2, kc_3, kc_4, kc_5, reduceIte, Nat.reduceEqDiff, Nat.add_zero, rI_hold, rI_hold, rL_hold, hk, he69, he67, he68, haf]; exact congrArg nI (by omega))) ?_
  refine Bod.ist dc_346_55 (by rw [ml_346]; exact Nat.le_of_ble_eq_true rfl) ?_
  refine Bod.go dc_346_57 rfl ?_
  refine Bod.go dc_346_58 rfl ?_
  refine Bod.get dc_346_59 fr_346_190 (mk_61 _) rfl ?_
  refine Bod.eqI (nI (k + 1)) (by first | (simp (disch := omega) only [rI, rIe, rA, rIA, rLA, rJA, rVI, rQI, rVA, rQA, upd_at,  rAI, rLI, rJI, nI_add, pk_sub, kc_0, kc_1, kc_2, kc_3, kc_4, kc_5, reduceIte, Nat.reduceEqDiff, Nat.add_zero, rI_hold, rI_hold, rL_hold, hk, he69, he67, he68, haf]; done) | (simp (disch := omega) only [rI, rIe, rA, rIA, rLA, rJA, rVI, rQI, rVA, rQA, upd_at,  rAI, rLI, rJI, nI_add, pk_sub, kc_0, kc_1, kc_2, kc_3, kc_4, kc_5, reduceIte, Nat.reduceEqDiff, Nat.add_zero, rI_hold, rI_hold, rL_hold, hk, he69, he67, he68, haf]; exact congrArg nI (by omega))) ?_
  refine Bod.ic 1 (by decide) dc_346_62 ?_
  refine Bod.addN (k + 2) (by omega) dc_346_63 ?_
  refine Bod.put dc_346_64 fr_346_190 (mk_61 _) (Nat.le_of_ble_eq_true rfl) pf_14_15 (st_6115 _ _) (mu_I _ _ _) ?_
  refine Bod.go dc_346_67 rfl ?_
  refine Bod.bip 40 (by decide) dc_346_68 ?_
  refine Bod.virt (r := []) dc_346_70 kr_346_199 ⟨Or.inl rfl, ow_314, cl_14⟩ (by rw [np_314]; rfl) (by rw [np_314]; rfl) (ob_of (mk_61 _)) (Nat.le_of_ble_eq_true rfl) (c1  ) ?_
  show Bod _ _ _ _ [_] _ _ _
  refine Bod.ifF dc_346_73 rfl (k1_eq_F (k_ne 1 0 rfl rfl (by omega) (by omega) (by omega))) ?_
  refine Bod.go dc_346_76 rfl ?_
  refine Bod.go dc_346_77 rfl ?_
  refine Bod.get dc_346_78 fr_346_190 (mk_61 _) rfl ?_
  refine Bod.eqI (nI k1) (by first | (simp (disch := omega) only [rI, rIe, rA, rIA, rLA, rJA, rVI, rQI, rVA, rQA, upd_at,  rAI, rLI, rJI, nI_add, pk_sub, kc_0, kc_1, kc_2, kc_3, kc_4, kc_5, reduceIte, Nat.reduceEqDiff, Nat.add_zero, rI_hold, rI_hold, rL_hold, hk, he69, he67, he68, haf, hk1]; done) | (simp (disch := omega) only [rI, rIe, rA, rIA, rLA, rJA, rVI, rQI, rVA, rQA, upd_at,  rAI, rLI, rJI, nI_add, pk_sub, kc_0, kc_1, kc_2, kc_3, kc_4, kc_5, reduceIte, Nat.reduceEqDiff, Nat.add_zero, rI_hold, rI_hold, rL_hold, hk, he69, he67, he68, haf, hk1]; exact congrArg nI (by omega))) ?_
  refine Bod.ic 1 (by decide) dc_346_81 ?_
  refine Bod.addN (k1 + 1) (by omega) dc_346_82 ?_
  refine Bod.put dc_346_83 fr_346_190 (mk_61 _) (Nat.le_of_ble_eq_true rfl) pf_14_15 (st_6115 _ _) (mu_I _ _ _) ?_
  refine Bod.go dc_346_86 rfl ?_
  refine Bod.get dc_346_87 fr_346_129 (mk_61 _) rfl ?_
  refine Bod.go dc_346_90 rfl ?_
  refine Bod.get dc_346_91 fr_346_190 (mk_61 _) rfl ?_
  refine Bod.eqI (nI (k1 + 1)) (by first | (simp (disch := omega) only [rI, rIe, rA, rIA, rLA, rJA, rVI, rQI, rVA, rQA, upd_at,  rAI, rLI, rJI, nI_add, pk_sub, kc_0, kc_1, kc_2, kc_3, kc_4, kc_5, reduceIte, Nat.reduceEqDiff, Nat.add_zero, rI_hold, rI_hold, rL_hold, hk, he69, he67, he68, haf, hk1]; done) | (simp (disch := omega) only [rI, rIe, rA, rIA, rLA, rJA, rVI, rQI, rVA, rQA, upd_at,  rAI, rLI, rJI, nI_add, pk_sub, kc_0, kc_1, kc_2, kc_3, kc_4, kc_5, reduceIte, Nat.reduceEqDiff, Nat.add_zero, rI_hold, rI_hold, rL_hold, hk, he69, he67, he68, haf, hk1]; exact congrArg nI (by omega))) ?_
  refine Bod.ialdN (k1 + 1) rfl (by omega) (by omega) dc_346_94 (mk_67 _) ?_
  refine Bod.eqI (nI e671) (by first | (simp (disch := omega) only [rI, rIe, rA, rIA, rLA, rJA, rVI, rQI, rVA, rQA, upd_at,  rAI, rLI, rJI, nI_add, pk_sub, kc_0, kc_1, kc_2, kc_3, kc_4, kc_5, reduceIte, Nat.reduceEqDiff, Nat.add_zero, rI_hold, rI_hold, rL_hold, hk, he69, he67, he68, haf, hk1, he671]; done) | (simp (disch := omega) only [rI, rIe, rA, rIA, rLA, rJA, rVI, rQI, rVA, rQA, upd_at,  rAI, rLI, rJI, nI_add, pk_sub, kc_0, kc_1, kc_2, kc_3, kc_4, kc_5, reduceIte, Nat.reduceEqDiff, Nat.add_zero, rI_hold, rI_hold, rL_hold, hk, he69, he67, he68, haf, hk1, he671]; exact congrArg nI (by omega))) ?_
  refine Bod.ic 1 (by decide) dc_346_95 ?_
  refine Bod.icT dc_346_96 rfl (k2_eq_T (k_eq e671 1 rfl rfl (by omega))) ?_
  refine Bod.go dc_346_104 rfl ?_
  refine Bod.get dc_346_105 fr_346_135 (mk_61 _) rfl ?_
  refine Bod.go dc_346_108 rfl ?_
  refine Bod.get dc_346_109 fr_346_190 (mk_61 _) rfl ?_
  refine Bod.eqI (nI (k1 + 1)) (by first | (simp (disch := omega) only [rI, rIe, rA, rIA, rLA, rJA, rVI, rQI, rVA, rQA, upd_at,  rAI, rLI, rJI, nI_add, pk_sub, kc_0, kc_1, kc_2, kc_3, kc_4, kc_5, reduceIte, Nat.reduceEqDiff, Nat.add_zero, rI_hold, rI_hold, rL_hold, hk, he69, he67, he68, haf, hk1, he671]; done) | (simp (disch := omega) only [rI, rIe, rA, rIA, rLA, rJA, rVI, rQI, rVA, rQA, upd_at,  rAI, rLI, rJI, nI_add, pk_sub, kc_0, kc_1, kc_2, kc_3, kc_4, kc_5, reduceIte, Nat.reduceEqDiff, Nat.add_zero, rI_hold, rI_hold, rL_hold, hk, he69, he67, he68, haf, hk1, he671]; exact congrArg nI (by omega))) ?_
  refine Bod.ialdN (k1 + 1) rfl (by omega) (by omega) dc_346_112 (mk_68 _) ?_
  refine Bod.eqI (nI e681) (by first | (simp (disch := omega) only [rI, rIe, rA, rIA, rLA, rJA, rVI, rQI, rVA, rQA, upd_at,  rAI, rLI, rJI, nI_add, pk_sub, kc_0, kc_1, kc_2, kc_3, kc_4, kc_5, reduceIte, Nat.reduceEqDiff, Nat.add_zero, rI_hold, rI_hold, rL_hold, hk, he69, he67, he68, haf, hk1, he671, he681]; done) | (simp (disch := omega) only [rI, rIe, rA, rIA, rLA, rJA, rVI, rQI, rVA, rQA, upd_at,  rAI, rLI, rJI, nI_add, pk_sub, kc_0, kc_1, kc_2, kc_3, kc_4, kc_5, reduceIte, Nat.reduceEqDiff, Nat.add_zero, rI_hold, rI_hold, rL_hold, hk, he69, he67, he68, haf, hk1, he671, he681]; exact congrArg nI (by omega))) ?_
  refine Bod.ist dc_346_113 (by rw [ml_346]; exact Nat.le_of_ble_eq_true rfl) ?_
  refine Bod.go dc_346_115 rfl ?_
  refine Bod.go dc_346_116 rfl ?_
  refine Bod.get dc_346_117 fr_346_190 (mk_61 _) rfl ?_
  refine Bod.eqI (nI (k1 + 1)) (by first | (simp (disch := omega) only [rI, rIe, rA, rIA, rLA, rJA, rVI, rQI, rVA, rQA, upd_at,  rAI, rLI, rJI, nI_add, pk_sub, kc_0, kc_1, kc_2, kc_3, kc_4, kc_5, reduceIte, Nat.reduceEqDiff, Nat.add_zero, rI_hold, rI_hold, rL_hold, hk, he69, he67, he68, haf, hk1, he671, he681]; done) | (simp (disch := omega) only [rI, rIe, rA, rIA, rLA, rJA, rVI, rQI, rVA, rQA, upd_at,  rAI, rLI, rJI, nI_add, pk_sub, kc_0, kc_1, kc_2, kc_3, kc_4, kc_5, reduceIte, Nat.reduceEqDiff, Nat.add_zero, rI_hold, rI_hold, rL_hold, hk, he69, he67, he68, haf, hk1, he671, he681]; exact congrArg nI (by omega))) ?_
  refine Bod.ic 1 (by decide) dc_346_120 ?_
  refine Bod.addN (k1 + 2) (by omega) dc_346_121 ?_
  refine Bod.put dc_346_122 fr_346_190 (mk_61 _) (Nat.le_of_ble_eq_true rfl) pf_14_15 (st_6115 _ _) (mu_I _ _ _) ?_
  refine Bod.go dc_346_125 rfl ?_
  refine Bod.bip 41 (by decide) dc_346_126 ?_
  refine Bod.virt (r := []) dc_346_128 kr_346_270 ⟨Or.inl rfl, ow_323, cl_14⟩ (by rw [np_323]; rfl) (by rw [np_323]; rfl) (ob_of (mk_61 _)) (Nat.le_of_ble_eq_true rfl) (c2  ) ?_
  show Bod _ _ _ _ [_] _ _ _
  refine Bod.ifT dc_346_131 rfl (k1_ne_T (k_ne 1 0 rfl rfl (by omega) (by omega) (by omega))) ?_
  exact hB _ (by first | rfl | exact (by repeat (first | exact rfl | exact sm_get_p1 | exact sm_get_p2e | refine sm_get_p1m (by decide) (by decide) ?_ | refine sm_get_p1n (by decide) rfl ?_ | refine sm_get_p2n (by decide) (by decide) rfl ?_))) (by first | rfl | exact (by repeat (first | exact rfl | exact sm_get_p1 | exact sm_get_p2e | refine sm_get_p1m (by decide) (by decide) ?_ | refine sm_get_p1n (by decide) rfl ?_ | refine sm_get_p2n (by decide) (by decide) rfl ?_))) (by first | rfl | exact (by repeat (first | exact rfl | exact sm_get_p1 | exact sm_get_p2e | refine sm_get_p1m (by decide) (by decide) ?_ | refine sm_get_p1n (by decide) rfl ?_ | refine sm_get_p2n (by decide) (by decide) rfl ?_))) (by first | rfl | exact (by repeat (first | exact rfl | exact sm_get_p1 | exact sm_get_p2e | refine sm_get_p1m (by decide) (by decide) ?_ | refine sm_get_p1n (by decide) rfl ?_ | refine sm_get_p2n (by decide) (by decide) rfl ?_))) (by first | rfl | exact (by repeat (first | exact rfl | exact sm_get_p1 | exact sm_get_p2e | refine sm_get_p1m (by decide) (by decide) ?_ | refine sm_get_p1n (by decide) rfl ?_ | refine sm_get_p2n (by decide) (by decide) rfl ?_))) (by first | rfl | exact (by repeat (first | exact rfl | exact sm_get_p1 | exact sm_get_p2e | refine sm_get_p1m (by decide) (by decide) ?_ | refine sm_get_p1n (by decide) rfl ?_ | refine sm_get_p2n (by decide) (by decide) rfl ?_)))
theorem zCl_2 {d : Nat} {S : cS} {la : Nat} {k : Nat} {e69 : Nat} {e67 : Nat} {e68 : Nat} {af : Nat} {S1 : cS} {k1 : Nat} {e671 : Nat} {e681 : Nat} {S2 : cS} (mla : la < 2 ^ 20) (hk : sI S 6115 = nI k) (mk : k < 6001) (he69 : sA S 69 k = nI e69) (me69 : e69 < 2 ^ 20) (he67 : sA (wI 6115 (nI (k + 1)) S) 67 (k + 1) = nI e67) (me67 : e67 < 2 ^ 20) (b1 : e67 = 1) (he68 : sA (wI 6115 (nI (k + 1)) S) 68 (k + 1) = nI e68) (me68 : e68 < 2 ^ 20) (haf : sI (wI 6115 (nI (k + 1)) S) 6140 = nI af) (maf : af < 6000) (c1 : Ans (d + 8) 314 [.ref 61, .int (nI 40)] (wI 6115 (nI (k + 2)) (wI 6115 (nI (k + 1)) S)) (some (.int (nI 1))) S1) (hk1 : sI S1 6115 = nI k1) (mk1 : k1 < 6001) (he671 : sA (wI 6115 (nI (k1 + 1)) S1) 67 (k1 + 1) = nI e671) (me671 : e671 < 2 ^ 20) (b2 : e671 = 1) (he681 : sA (wI 6115 (nI (k1 + 1)) S1) 68 (k1 + 1) = nI e681) (me681 : e681 < 2 ^ 20) (c2 : Ans (d + 8) 323 [.ref 61, .int (nI 41)] (wI 6115 (nI (k1 + 2)) (wI 6115 (nI (k1 + 1)) S1)) (some (.int (nI 0))) S2) : Bod (d + 8) 346 0 [(0, .ref 61), (1, .int (nI la))] [] S (some (.int 0)) (S2) := by
  refine Bod.go dc_346_0 rfl ?_
  refine Bod.get dc_346_1 fr_346_138 (mk_61 _) rfl ?_
  refine Bod.go dc_346_4 rfl ?_
  refine Bod.get dc_346_5 fr_346_190 (mk_61 _) rfl ?_
  refine Bod.eqI (nI k) (by first | assumption | rfl | exact congrArg nI (by omega) | (simp (disch := omega) only [rI, rIe, rA, rIA, rLA, rJA, rVI, rQI, rVA, rQA, upd_at,  rAI, rLI, rJI, nI_add, pk_sub, kc_0, kc_1, kc_2, kc_3, kc_4, kc_5, reduceIte, Nat.reduceEqDiff, Nat.add_zero, rI_hold, rI_hold, rL_hold, hk]; done)) ?_
  refine Bod.ialdN k rfl (by omega) (by omega) dc_346_8 (mk_69 _) ?_
  refine Bod.eqI (nI e69) (by first | assumption | rfl | exact congrArg nI (by omega) | (simp (disch := omega) only [rI, rIe, rA, rIA, rLA, rJA, rVI, rQI, rVA, rQA, upd_at,  rAI, rLI, rJI, nI_add, pk_sub, kc_0, kc_1, kc_2, kc_3, kc_4, kc_5, reduceIte, Nat.reduceEqDiff, Nat.add_zero, rI_hold, rI_hold, rL_hold, hk, he69]; done)) ?_
  refine Bod.istn dc_346_9 (by rw [ml_346]; exact Nat.le_of_ble_eq_true rfl) ?_
  refine Bod.go dc_346_10 rfl ?_
  refine Bod.go dc_346_11 rfl ?_
  refine Bod.get dc_346_12 fr_346_190 (mk_61 _) rfl ?_
  refine Bod.eqI (nI k) (by first | assumption | rfl | exact congrArg nI (by omega) | (simp (disch := omega) only [rI, rIe, rA, rIA, rLA, rJA, rVI, rQI, rVA, rQA, upd_at,  rAI, rLI, rJI, nI_add, pk_sub, kc_0, kc_1, kc_2, kc_3, kc_4, kc_5, reduceIte, Nat.reduceEqDiff, Nat.add_zero, rI_hold, rI_hold, rL_hold, hk, he69]; done)) ?_
  refine Bod.ic 1 (by decide) dc_346_15 ?_
  refine Bod.addN (k + 1) (by omega) dc_346_16 ?_
  refine Bod.put dc_346_17 fr_346_190 (mk_61 _) (Nat.le_of_ble_eq_true rfl) pf_14_15 (st_6115 _ _) (mu_I _ _ _) ?_
  refine Bod.go dc_346_20 rfl ?_
  refine Bod.get dc_346_21 fr_346_129 (mk_61 _) rfl ?_
  refine Bod.go dc_346_24 rfl ?_
  refine Bod.get dc_346_25 fr_346_190 (mk_61 _) rfl ?_
  refine Bod.eqI (nI (k + 1)) (by first | (simp (disch := omega) only [rI, rIe, rA, rIA, rLA, rJA, rVI, rQI, rVA, rQA, upd_at,  rAI, rLI, rJI, nI_add, pk_sub, kc_0, kc_1, kc_2, kc_3, kc_4, kc_5, reduceIte, Nat.reduceEqDiff, Nat.add_zero, rI_hold, rI_hold, rL_hold, hk, he69]; done) | (simp (disch := omega) only [rI, rIe, rA, rIA, rLA, rJA, rVI, rQI, rVA, rQA, upd_at,  rAI, rLI, rJI, nI_add, pk_sub, kc_0, kc_1, kc_2, kc_3, kc_4, kc_5, reduceIte, Nat.reduceEqDiff, Nat.add_zero, rI_hold, rI_hold, rL_hold, hk, he69]; exact congrArg nI (by omega))) ?_
  refine Bod.ialdN (k + 1) rfl (by omega) (by omega) dc_346_28 (mk_67 _) ?_
  refine Bod.eqI (nI e67) (by first | (simp (disch := omega) only [rI, rIe, rA, rIA, rLA, rJA, rVI, rQI, rVA, rQA, upd_at,  rAI, rLI, rJI, nI_add, pk_sub, kc_0, kc_1, kc_2, kc_3, kc_4, kc_5, reduceIte, Nat.reduceEqDiff, Nat.add_zero, rI_hold, rI_hold, rL_hold, hk, he69, he67]; done) | (simp (disch := omega) only [rI, rIe, rA, rIA, rLA, rJA, rVI, rQI, rVA, rQA, upd_at,  rAI, rLI, rJI, nI_add, pk_sub, kc_0, kc_1, kc_2, kc_3, kc_4, kc_5, reduceIte, Nat.reduceEqDiff, Nat.add_zero, rI_hold, rI_hold, rL_hold, hk, he69, he67]; exact congrArg nI (by omega))) ?_
  refine Bod.ic 1 (by decide) dc_346_29 ?_
  refine Bod.icT dc_346_30 rfl (k2_eq_T (k_eq e67 1 rfl rfl (by omega))) ?_
  refine Bod.go dc_346_38 rfl ?_
  refine Bod.get dc_346_39 fr_346_135 (mk_61 _) rfl ?_
  refine Bod.go dc_346_42 rfl ?_
  refine Bod.get dc_346_43 fr_346_190 (mk_61 _) rfl ?_
  refine Bod.eqI (nI (k + 1)) (by first | (simp (disch := omega) only [rI, rIe, rA, rIA, rLA, rJA, rVI, rQI, rVA, rQA, upd_at,  rAI, rLI, rJI, nI_add, pk_sub, kc_0, kc_1, kc_2, kc_3, kc_4, kc_5, reduceIte, Nat.reduceEqDiff, Nat.add_zero, rI_hold, rI_hold, rL_hold, hk, he69, he67]; done) | (simp (disch := omega) only [rI, rIe, rA, rIA, rLA, rJA, rVI, rQI, rVA, rQA, upd_at,  rAI, rLI, rJI, nI_add, pk_sub, kc_0, kc_1, kc_2, kc_3, kc_4, kc_5, reduceIte, Nat.reduceEqDiff, Nat.add_zero, rI_hold, rI_hold, rL_hold, hk, he69, he67]; exact congrArg nI (by omega))) ?_
  refine Bod.ialdN (k + 1) rfl (by omega) (by omega) dc_346_46 (mk_68 _) ?_
  refine Bod.eqI (nI e68) (by first | (simp (disch := omega) only [rI, rIe, rA, rIA, rLA, rJA, rVI, rQI, rVA, rQA, upd_at,  rAI, rLI, rJI, nI_add, pk_sub, kc_0, kc_1, kc_2, kc_3, kc_4, kc_5, reduceIte, Nat.reduceEqDiff, Nat.add_zero, rI_hold, rI_hold, rL_hold, hk, he69, he67, he68]; done) | (simp (disch := omega) only [rI, rIe, rA, rIA, rLA, rJA, rVI, rQI, rVA, rQA, upd_at,  rAI, rLI, rJI, nI_add, pk_sub, kc_0, kc_1, kc_2, kc_3, kc_4, kc_5, reduceIte, Nat.reduceEqDiff, Nat.add_zero, rI_hold, rI_hold, rL_hold, hk, he69, he67, he68]; exact congrArg nI (by omega))) ?_
  refine Bod.istn dc_346_47 (by rw [ml_346]; exact Nat.le_of_ble_eq_true rfl) ?_
  refine Bod.go dc_346_48 rfl ?_
  refine Bod.ist dc_346_49 (by rw [ml_346]; exact Nat.le_of_ble_eq_true rfl) ?_
  refine Bod.go dc_346_51 rfl ?_
  refine Bod.get dc_346_52 fr_346_260 (mk_61 _) rfl ?_
  refine Bod.eqI (nI af) (by first | (simp (disch := omega) only [rI, rIe, rA, rIA, rLA, rJA, rVI, rQI, rVA, rQA, upd_at,  rAI, rLI, rJI, nI_add, pk_sub, kc_0, kc_1, kc_2, kc_3, kc_4, kc_5, reduceIte, Nat.reduceEqDiff, Nat.add_zero, rI_hold, rI_hold, rL_hold, hk, he69, he67, he68, haf]; done) | (simp (disch := omega) only [rI, rIe, rA, rIA, rLA, rJA, rVI, rQI, rVA, rQA, upd_at,  rAI, rLI, rJI, nI_add, pk_sub, kc_0, kc_1, kc_2, kc_3, kc_4, kc_5, reduceIte, Nat.reduceEqDiff, Nat.add_zero, rI_hold, rI_hold, rL_hold, hk, he69, he67, he68, haf]; exact congrArg nI (by omega))) ?_
  refine Bod.ist dc_346_55 (by rw [ml_346]; exact Nat.le_of_ble_eq_true rfl) ?_
  refine Bod.go dc_346_57 rfl ?_
  refine Bod.go dc_346_58 rfl ?_
  refine Bod.get dc_346_59 fr_346_190 (mk_61 _) rfl ?_
  refine Bod.eqI (nI (k + 1)) (by first | (simp (disch := omega) only [rI, rIe, rA, rIA, rLA, rJA, rVI, rQI, rVA, rQA, upd_at,  rAI, rLI, rJI, nI_add, pk_sub, kc_0, kc_1, kc_2, kc_3, kc_4, kc_5, reduceIte, Nat.reduceEqDiff, Nat.add_zero, rI_hold, rI_hold, rL_hold, hk, he69, he67, he68, haf]; done) | (simp (disch := omega) only [rI, rIe, rA, rIA, rLA, rJA, rVI, rQI, rVA, rQA, upd_at,  rAI, rLI, rJI, nI_add, pk_sub, kc_0, kc_1, kc_2, kc_3, kc_4, kc_5, reduceIte, Nat.reduceEqDiff, Nat.add_zero, rI_hold, rI_hold, rL_hold, hk, he69, he67, he68, haf]; exact congrArg nI (by omega))) ?_
  refine Bod.ic 1 (by decide) dc_346_62 ?_
  refine Bod.addN (k + 2) (by omega) dc_346_63 ?_
  refine Bod.put dc_346_64 fr_346_190 (mk_61 _) (Nat.le_of_ble_eq_true rfl) pf_14_15 (st_6115 _ _) (mu_I _ _ _) ?_
  refine Bod.go dc_346_67 rfl ?_
  refine Bod.bip 40 (by decide) dc_346_68 ?_
  refine Bod.virt (r := []) dc_346_70 kr_346_199 ⟨Or.inl rfl, ow_314, cl_14⟩ (by rw [np_314]; rfl) (by rw [np_314]; rfl) (ob_of (mk_61 _)) (Nat.le_of_ble_eq_true rfl) (c1  ) ?_
  show Bod _ _ _ _ [_] _ _ _
  refine Bod.ifF dc_346_73 rfl (k1_eq_F (k_ne 1 0 rfl rfl (by omega) (by omega) (by omega))) ?_
  refine Bod.go dc_346_76 rfl ?_
  refine Bod.go dc_346_77 rfl ?_
  refine Bod.get dc_346_78 fr_346_190 (mk_61 _) rfl ?_
  refine Bod.eqI (nI k1) (by first | (simp (disch := omega) only [rI, rIe, rA, rIA, rLA, rJA, rVI, rQI, rVA, rQA, upd_at,  rAI, rLI, rJI, nI_add, pk_sub, kc_0, kc_1, kc_2, kc_3, kc_4, kc_5, reduceIte, Nat.reduceEqDiff, Nat.add_zero, rI_hold, rI_hold, rL_hold, hk, he69, he67, he68, haf, hk1]; done) | (simp (disch := omega) only [rI, rIe, rA, rIA, rLA, rJA, rVI, rQI, rVA, rQA, upd_at,  rAI, rLI, rJI, nI_add, pk_sub, kc_0, kc_1, kc_2, kc_3, kc_4, kc_5, reduceIte, Nat.reduceEqDiff, Nat.add_zero, rI_hold, rI_hold, rL_hold, hk, he69, he67, he68, haf, hk1]; exact congrArg nI (by omega))) ?_
  refine Bod.ic 1 (by decide) dc_346_81 ?_
  refine Bod.addN (k1 + 1) (by omega) dc_346_82 ?_
  refine Bod.put dc_346_83 fr_346_190 (mk_61 _) (Nat.le_of_ble_eq_true rfl) pf_14_15 (st_6115 _ _) (mu_I _ _ _) ?_
  refine Bod.go dc_346_86 rfl ?_
  refine Bod.get dc_346_87 fr_346_129 (mk_61 _) rfl ?_
  refine Bod.go dc_346_90 rfl ?_
  refine Bod.get dc_346_91 fr_346_190 (mk_61 _) rfl ?_
  refine Bod.eqI (nI (k1 + 1)) (by first | (simp (disch := omega) only [rI, rIe, rA, rIA, rLA, rJA, rVI, rQI, rVA, rQA, upd_at,  rAI, rLI, rJI, nI_add, pk_sub, kc_0, kc_1, kc_2, kc_3, kc_4, kc_5, reduceIte, Nat.reduceEqDiff, Nat.add_zero, rI_hold, rI_hold, rL_hold, hk, he69, he67, he68, haf, hk1]; done) | (simp (disch := omega) only [rI, rIe, rA, rIA, rLA, rJA, rVI, rQI, rVA, rQA, upd_at,  rAI, rLI, rJI, nI_add, pk_sub, kc_0, kc_1, kc_2, kc_3, kc_4, kc_5, reduceIte, Nat.reduceEqDiff, Nat.add_zero, rI_hold, rI_hold, rL_hold, hk, he69, he67, he68, haf, hk1]; exact congrArg nI (by omega))) ?_
  refine Bod.ialdN (k1 + 1) rfl (by omega) (by omega) dc_346_94 (mk_67 _) ?_
  refine Bod.eqI (nI e671) (by first | (simp (disch := omega) only [rI, rIe, rA, rIA, rLA, rJA, rVI, rQI, rVA, rQA, upd_at,  rAI, rLI, rJI, nI_add, pk_sub, kc_0, kc_1, kc_2, kc_3, kc_4, kc_5, reduceIte, Nat.reduceEqDiff, Nat.add_zero, rI_hold, rI_hold, rL_hold, hk, he69, he67, he68, haf, hk1, he671]; done) | (simp (disch := omega) only [rI, rIe, rA, rIA, rLA, rJA, rVI, rQI, rVA, rQA, upd_at,  rAI, rLI, rJI, nI_add, pk_sub, kc_0, kc_1, kc_2, kc_3, kc_4, kc_5, reduceIte, Nat.reduceEqDiff, Nat.add_zero, rI_hold, rI_hold, rL_hold, hk, he69, he67, he68, haf, hk1, he671]; exact congrArg nI (by omega))) ?_
  refine Bod.ic 1 (by decide) dc_346_95 ?_
  refine Bod.icT dc_346_96 rfl (k2_eq_T (k_eq e671 1 rfl rfl (by omega))) ?_
  refine Bod.go dc_346_104 rfl ?_
  refine Bod.get dc_346_105 fr_346_135 (mk_61 _) rfl ?_
  refine Bod.go dc_346_108 rfl ?_
  refine Bod.get dc_346_109 fr_346_190 (mk_61 _) rfl ?_
  refine Bod.eqI (nI (k1 + 1)) (by first | (simp (disch := omega) only [rI, rIe, rA, rIA, rLA, rJA, rVI, rQI, rVA, rQA, upd_at,  rAI, rLI, rJI, nI_add, pk_sub, kc_0, kc_1, kc_2, kc_3, kc_4, kc_5, reduceIte, Nat.reduceEqDiff, Nat.add_zero, rI_hold, rI_hold, rL_hold, hk, he69, he67, he68, haf, hk1, he671]; done) | (simp (disch := omega) only [rI, rIe, rA, rIA, rLA, rJA, rVI, rQI, rVA, rQA, upd_at,  rAI, rLI, rJI, nI_add, pk_sub, kc_0, kc_1, kc_2, kc_3, kc_4, kc_5, reduceIte, Nat.reduceEqDiff, Nat.add_zero, rI_hold, rI_hold, rL_hold, hk, he69, he67, he68, haf, hk1, he671]; exact congrArg nI (by omega))) ?_
  refine Bod.ialdN (k1 + 1) rfl (by omega) (by omega) dc_346_112 (mk_68 _) ?_
  refine Bod.eqI (nI e681) (by first | (simp (disch := omega) only [rI, rIe, rA, rIA, rLA, rJA, rVI, rQI, rVA, rQA, upd_at,  rAI, rLI, rJI, nI_add, pk_sub, kc_0, kc_1, kc_2, kc_3, kc_4, kc_5, reduceIte, Nat.reduceEqDiff, Nat.add_zero, rI_hold, rI_hold, rL_hold, hk, he69, he67, he68, haf, hk1, he671, he681]; done) | (simp (disch := omega) only [rI, rIe, rA, rIA, rLA, rJA, rVI, rQI, rVA, rQA, upd_at,  rAI, rLI, rJI, nI_add, pk_sub, kc_0, kc_1, kc_2, kc_3, kc_4, kc_5, reduceIte, Nat.reduceEqDiff, Nat.add_zero, rI_hold, rI_hold, rL_hold, hk, he69, he67, he68, haf, hk1, he671, he681]; exact congrArg nI (by omega))) ?_
  refine Bod.ist dc_346_113 (by rw [ml_346]; exact Nat.le_of_ble_eq_true rfl) ?_
  refine Bod.go dc_346_115 rfl ?_
  refine Bod.go dc_346_116 rfl ?_
  refine Bod.get dc_346_117 fr_346_190 (mk_61 _) rfl ?_
  refine Bod.eqI (nI (k1 + 1)) (by first | (simp (disch := omega) only [rI, rIe, rA, rIA, rLA, rJA, rVI, rQI, rVA, rQA, upd_at,  rAI, rLI, rJI, nI_add, pk_sub, kc_0, kc_1, kc_2, kc_3, kc_4, kc_5, reduceIte, Nat.reduceEqDiff, Nat.add_zero, rI_hold, rI_hold, rL_hold, hk, he69, he67, he68, haf, hk1, he671, he681]; done) | (simp (disch := omega) only [rI, rIe, rA, rIA, rLA, rJA, rVI, rQI, rVA, rQA, upd_at,  rAI, rLI, rJI, nI_add, pk_sub, kc_0, kc_1, kc_2, kc_3, kc_4, kc_5, reduceIte, Nat.reduceEqDiff, Nat.add_zero, rI_hold, rI_hold, rL_hold, hk, he69, he67, he68, haf, hk1, he671, he681]; exact congrArg nI (by omega))) ?_
  refine Bod.ic 1 (by decide) dc_346_120 ?_
  refine Bod.addN (k1 + 2) (by omega) dc_346_121 ?_
  refine Bod.put dc_346_122 fr_346_190 (mk_61 _) (Nat.le_of_ble_eq_true rfl) pf_14_15 (st_6115 _ _) (mu_I _ _ _) ?_
  refine Bod.go dc_346_125 rfl ?_
  refine Bod.bip 41 (by decide) dc_346_126 ?_
  refine Bod.virt (r := []) dc_346_128 kr_346_270 ⟨Or.inl rfl, ow_323, cl_14⟩ (by rw [np_323]; rfl) (by rw [np_323]; rfl) (ob_of (mk_61 _)) (Nat.le_of_ble_eq_true rfl) (c2  ) ?_
  show Bod _ _ _ _ [_] _ _ _
  refine Bod.ifF dc_346_131 rfl (k1_ne_F (k_eq 0 0 rfl rfl (by omega))) ?_
  refine Bod.ic 0 (by decide) dc_346_134 ?_
  exact Bod.retZ dc_346_135 rt_346 (Or.inl rfl)
theorem zCl_3 {d : Nat} {S : cS} {la : Nat} {k : Nat} {e69 : Nat} {e67 : Nat} {e68 : Nat} {af : Nat} {S1 : cS} {k1 : Nat} {e671 : Nat} {S2 : cS} (mla : la < 2 ^ 20) (hk : sI S 6115 = nI k) (mk : k < 6001) (he69 : sA S 69 k = nI e69) (me69 : e69 < 2 ^ 20) (he67 : sA (wI 6115 (nI (k + 1)) S) 67 (k + 1) = nI e67) (me67 : e67 < 2 ^ 20) (b1 : e67 = 1) (he68 : sA (wI 6115 (nI (k + 1)) S) 68 (k + 1) = nI e68) (me68 : e68 < 2 ^ 20) (haf : sI (wI 6115 (nI (k + 1)) S) 6140 = nI af) (maf : af < 6000) (c1 : Ans (d + 8) 314 [.ref 61, .int (nI 40)] (wI 6115 (nI (k + 2)) (wI 6115 (nI (k + 1)) S)) (some (.int (nI 1))) S1) (hk1 : sI S1 6115 = nI k1) (mk1 : k1 < 6001) (he671 : sA (wI 6115 (nI (k1 + 1)) S1) 67 (k1 + 1) = nI e671) (me671 : e671 < 2 ^ 20) (b2 : e671 ≠ 1) (c2 : Ans (d + 8) 299 [.ref 61] (wI 6115 (nI (k1 + 1)) S1) (some (.int (nI 0))) S2) : Bod (d + 8) 346 0 [(0, .ref 61), (1, .int (nI la))] [] S (some (.int 0)) (S2) := by
  refine Bod.go dc_346_0 rfl ?_
  refine Bod.get dc_346_1 fr_346_138 (mk_61 _) rfl ?_
  refine Bod.go dc_346_4 rfl ?_
  refine Bod.get dc_346_5 fr_346_190 (mk_61 _) rfl ?_
  refine Bod.eqI (nI k) (by first | assumption | rfl | exact congrArg nI (by omega) | (simp (disch := omega) only [rI, rIe, rA, rIA, rLA, rJA, rVI, rQI, rVA, rQA, upd_at,  rAI, rLI, rJI, nI_add, pk_sub, kc_0, kc_1, kc_2, kc_3, kc_4, kc_5, reduceIte, Nat.reduceEqDiff, Nat.add_zero, rI_hold, rI_hold, rL_hold, hk]; done)) ?_
  refine Bod.ialdN k rfl (by omega) (by omega) dc_346_8 (mk_69 _) ?_
  refine Bod.eqI (nI e69) (by first | assumption | rfl | exact congrArg nI (by omega) | (simp (disch := omega) only [rI, rIe, rA, rIA, rLA, rJA, rVI, rQI, rVA, rQA, upd_at,  rAI, rLI, rJI, nI_add, pk_sub, kc_0, kc_1, kc_2, kc_3, kc_4, kc_5, reduceIte, Nat.reduceEqDiff, Nat.add_zero, rI_hold, rI_hold, rL_hold, hk, he69]; done)) ?_
  refine Bod.istn dc_346_9 (by rw [ml_346]; exact Nat.le_of_ble_eq_true rfl) ?_
  refine Bod.go dc_346_10 rfl ?_
  refine Bod.go dc_346_11 rfl ?_
  refine Bod.get dc_346_12 fr_346_190 (mk_61 _) rfl ?_
  refine Bod.eqI (nI k) (by first | assumption | rfl | exact congrArg nI (by omega) | (simp (disch := omega) only [rI, rIe, rA, rIA, rLA, rJA, rVI, rQI, rVA, rQA, upd_at,  rAI, rLI, rJI, nI_add, pk_sub, kc_0, kc_1, kc_2, kc_3, kc_4, kc_5, reduceIte, Nat.reduceEqDiff, Nat.add_zero, rI_hold, rI_hold, rL_hold, hk, he69]; done)) ?_
  refine Bod.ic 1 (by decide) dc_346_15 ?_
  refine Bod.addN (k + 1) (by omega) dc_346_16 ?_
  refine Bod.put dc_346_17 fr_346_190 (mk_61 _) (Nat.le_of_ble_eq_true rfl) pf_14_15 (st_6115 _ _) (mu_I _ _ _) ?_
  refine Bod.go dc_346_20 rfl ?_
  refine Bod.get dc_346_21 fr_346_129 (mk_61 _) rfl ?_
  refine Bod.go dc_346_24 rfl ?_
  refine Bod.get dc_346_25 fr_346_190 (mk_61 _) rfl ?_
  refine Bod.eqI (nI (k + 1)) (by first | (simp (disch := omega) only [rI, rIe, rA, rIA, rLA, rJA, rVI, rQI, rVA, rQA, upd_at,  rAI, rLI, rJI, nI_add, pk_sub, kc_0, kc_1, kc_2, kc_3, kc_4, kc_5, reduceIte, Nat.reduceEqDiff, Nat.add_zero, rI_hold, rI_hold, rL_hold, hk, he69]; done) | (simp (disch := omega) only [rI, rIe, rA, rIA, rLA, rJA, rVI, rQI, rVA, rQA, upd_at,  rAI, rLI, rJI, nI_add, pk_sub, kc_0, kc_1, kc_2, kc_3, kc_4, kc_5, reduceIte, Nat.reduceEqDiff, Nat.add_zero, rI_hold, rI_hold, rL_hold, hk, he69]; exact congrArg nI (by omega))) ?_
  refine Bod.ialdN (k + 1) rfl (by omega) (by omega) dc_346_28 (mk_67 _) ?_
  refine Bod.eqI (nI e67) (by first | (simp (disch := omega) only [rI, rIe, rA, rIA, rLA, rJA, rVI, rQI, rVA, rQA, upd_at,  rAI, rLI, rJI, nI_add, pk_sub, kc_0, kc_1, kc_2, kc_3, kc_4, kc_5, reduceIte, Nat.reduceEqDiff, Nat.add_zero, rI_hold, rI_hold, rL_hold, hk, he69, he67]; done) | (simp (disch := omega) only [rI, rIe, rA, rIA, rLA, rJA, rVI, rQI, rVA, rQA, upd_at,  rAI, rLI, rJI, nI_add, pk_sub, kc_0, kc_1, kc_2, kc_3, kc_4, kc_5, reduceIte, Nat.reduceEqDiff, Nat.add_zero, rI_hold, rI_hold, rL_hold, hk, he69, he67]; exact congrArg nI (by omega))) ?_
  refine Bod.ic 1 (by decide) dc_346_29 ?_
  refine Bod.icT dc_346_30 rfl (k2_eq_T (k_eq e67 1 rfl rfl (by omega))) ?_
  refine Bod.go dc_346_38 rfl ?_
  refine Bod.get dc_346_39 fr_346_135 (mk_61 _) rfl ?_
  refine Bod.go dc_346_42 rfl ?_
  refine Bod.get dc_346_43 fr_346_190 (mk_61 _) rfl ?_
  refine Bod.eqI (nI (k + 1)) (by first | (simp (disch := omega) only [rI, rIe, rA, rIA, rLA, rJA, rVI, rQI, rVA, rQA, upd_at,  rAI, rLI, rJI, nI_add, pk_sub, kc_0, kc_1, kc_2, kc_3, kc_4, kc_5, reduceIte, Nat.reduceEqDiff, Nat.add_zero, rI_hold, rI_hold, rL_hold, hk, he69, he67]; done) | (simp (disch := omega) only [rI, rIe, rA, rIA, rLA, rJA, rVI, rQI, rVA, rQA, upd_at,  rAI, rLI, rJI, nI_add, pk_sub, kc_0, kc_1, kc_2, kc_3, kc_4, kc_5, reduceIte, Nat.reduceEqDiff, Nat.add_zero, rI_hold, rI_hold, rL_hold, hk, he69, he67]; exact congrArg nI (by omega))) ?_
  refine Bod.ialdN (k + 1) rfl (by omega) (by omega) dc_346_46 (mk_68 _) ?_
  refine Bod.eqI (nI e68) (by first | (simp (disch := omega) only [rI, rIe, rA, rIA, rLA, rJA, rVI, rQI, rVA, rQA, upd_at,  rAI, rLI, rJI, nI_add, pk_sub, kc_0, kc_1, kc_2, kc_3, kc_4, kc_5, reduceIte, Nat.reduceEqDiff, Nat.add_zero, rI_hold, rI_hold, rL_hold, hk, he69, he67, he68]; done) | (simp (disch := omega) only [rI, rIe, rA, rIA, rLA, rJA, rVI, rQI, rVA, rQA, upd_at,  rAI, rLI, rJI, nI_add, pk_sub, kc_0, kc_1, kc_2, kc_3, kc_4, kc_5, reduceIte, Nat.reduceEqDiff, Nat.add_zero, rI_hold, rI_hold, rL_hold, hk, he69, he67, he68]; exact congrArg nI (by omega))) ?_
  refine Bod.istn dc_346_47 (by rw [ml_346]; exact Nat.le_of_ble_eq_true rfl) ?_
  refine Bod.go dc_346_48 rfl ?_
  refine Bod.ist dc_346_49 (by rw [ml_346]; exact Nat.le_of_ble_eq_true rfl) ?_
  refine Bod.go dc_346_51 rfl ?_
  refine Bod.get dc_346_52 fr_346_260 (mk_61 _) rfl ?_
  refine Bod.eqI (nI af) (by first | (simp (disch := omega) only [rI, rIe, rA, rIA, rLA, rJA, rVI, rQI, rVA, rQA, upd_at,  rAI, rLI, rJI, nI_add, pk_sub, kc_0, kc_1, kc_2, kc_3, kc_4, kc_5, reduceIte, Nat.reduceEqDiff, Nat.add_zero, rI_hold, rI_hold, rL_hold, hk, he69, he67, he68, haf]; done) | (simp (disch := omega) only [rI, rIe, rA, rIA, rLA, rJA, rVI, rQI, rVA, rQA, upd_at,  rAI, rLI, rJI, nI_add, pk_sub, kc_0, kc_1, kc_2, kc_3, kc_4, kc_5, reduceIte, Nat.reduceEqDiff, Nat.add_zero, rI_hold, rI_hold, rL_hold, hk, he69, he67, he68, haf]; exact congrArg nI (by omega))) ?_
  refine Bod.ist dc_346_55 (by rw [ml_346]; exact Nat.le_of_ble_eq_true rfl) ?_
  refine Bod.go dc_346_57 rfl ?_
  refine Bod.go dc_346_58 rfl ?_
  refine Bod.get dc_346_59 fr_346_190 (mk_61 _) rfl ?_
  refine Bod.eqI (nI (k + 1)) (by first | (simp (disch := omega) only [rI, rIe, rA, rIA, rLA, rJA, rVI, rQI, rVA, rQA, upd_at,  rAI, rLI, rJI, nI_add, pk_sub, kc_0, kc_1, kc_2, kc_3, kc_4, kc_5, reduceIte, Nat.reduceEqDiff, Nat.add_zero, rI_hold, rI_hold, rL_hold, hk, he69, he67, he68, haf]; done) | (simp (disch := omega) only [rI, rIe, rA, rIA, rLA, rJA, rVI, rQI, rVA, rQA, upd_at,  rAI, rLI, rJI, nI_add, pk_sub, kc_0, kc_1, kc_2, kc_3, kc_4, kc_5, reduceIte, Nat.reduceEqDiff, Nat.add_zero, rI_hold, rI_hold, rL_hold, hk, he69, he67, he68, haf]; exact congrArg nI (by omega))) ?_
  refine Bod.ic 1 (by decide) dc_346_62 ?_
  refine Bod.addN (k + 2) (by omega) dc_346_63 ?_
  refine Bod.put dc_346_64 fr_346_190 (mk_61 _) (Nat.le_of_ble_eq_true rfl) pf_14_15 (st_6115 _ _) (mu_I _ _ _) ?_
  refine Bod.go dc_346_67 rfl ?_
  refine Bod.bip 40 (by decide) dc_346_68 ?_
  refine Bod.virt (r := []) dc_346_70 kr_346_199 ⟨Or.inl rfl, ow_314, cl_14⟩ (by rw [np_314]; rfl) (by rw [np_314]; rfl) (ob_of (mk_61 _)) (Nat.le_of_ble_eq_true rfl) (c1  ) ?_
  show Bod _ _ _ _ [_] _ _ _
  refine Bod.ifF dc_346_73 rfl (k1_eq_F (k_ne 1 0 rfl rfl (by omega) (by omega) (by omega))) ?_
  refine Bod.go dc_346_76 rfl ?_
  refine Bod.go dc_346_77 rfl ?_
  refine Bod.get dc_346_78 fr_346_190 (mk_61 _) rfl ?_
  refine Bod.eqI (nI k1) (by first | (simp (disch := omega) only [rI, rIe, rA, rIA, rLA, rJA, rVI, rQI, rVA, rQA, upd_at,  rAI, rLI, rJI, nI_add, pk_sub, kc_0, kc_1, kc_2, kc_3, kc_4, kc_5, reduceIte, Nat.reduceEqDiff, Nat.add_zero, rI_hold, rI_hold, rL_hold, hk, he69, he67, he68, haf, hk1]; done) | (simp (disch := omega) only [rI, rIe, rA, rIA, rLA, rJA, rVI, rQI, rVA, rQA, upd_at,  rAI, rLI, rJI, nI_add, pk_sub, kc_0, kc_1, kc_2, kc_3, kc_4, kc_5, reduceIte, Nat.reduceEqDiff, Nat.add_zero, rI_hold, rI_hold, rL_hold, hk, he69, he67, he68, haf, hk1]; exact congrArg nI (by omega))) ?_
  refine Bod.ic 1 (by decide) dc_346_81 ?_
  refine Bod.addN (k1 + 1) (by omega) dc_346_82 ?_
  refine Bod.put dc_346_83 fr_346_190 (mk_61 _) (Nat.le_of_ble_eq_true rfl) pf_14_15 (st_6115 _ _) (mu_I _ _ _) ?_
  refine Bod.go dc_346_86 rfl ?_
  refine Bod.get dc_346_87 fr_346_129 (mk_61 _) rfl ?_
  refine Bod.go dc_346_90 rfl ?_
  refine Bod.get dc_346_91 fr_346_190 (mk_61 _) rfl ?_
  refine Bod.eqI (nI (k1 + 1)) (by first | (simp (disch := omega) only [rI, rIe, rA, rIA, rLA, rJA, rVI, rQI, rVA, rQA, upd_at,  rAI, rLI, rJI, nI_add, pk_sub, kc_0, kc_1, kc_2, kc_3, kc_4, kc_5, reduceIte, Nat.reduceEqDiff, Nat.add_zero, rI_hold, rI_hold, rL_hold, hk, he69, he67, he68, haf, hk1]; done) | (simp (disch := omega) only [rI, rIe, rA, rIA, rLA, rJA, rVI, rQI, rVA, rQA, upd_at,  rAI, rLI, rJI, nI_add, pk_sub, kc_0, kc_1, kc_2, kc_3, kc_4, kc_5, reduceIte, Nat.reduceEqDiff, Nat.add_zero, rI_hold, rI_hold, rL_hold, hk, he69, he67, he68, haf, hk1]; exact congrArg nI (by omega))) ?_
  refine Bod.ialdN (k1 + 1) rfl (by omega) (by omega) dc_346_94 (mk_67 _) ?_
  refine Bod.eqI (nI e671) (by first | (simp (disch := omega) only [rI, rIe, rA, rIA, rLA, rJA, rVI, rQI, rVA, rQA, upd_at,  rAI, rLI, rJI, nI_add, pk_sub, kc_0, kc_1, kc_2, kc_3, kc_4, kc_5, reduceIte, Nat.reduceEqDiff, Nat.add_zero, rI_hold, rI_hold, rL_hold, hk, he69, he67, he68, haf, hk1, he671]; done) | (simp (disch := omega) only [rI, rIe, rA, rIA, rLA, rJA, rVI, rQI, rVA, rQA, upd_at,  rAI, rLI, rJI, nI_add, pk_sub, kc_0, kc_1, kc_2, kc_3, kc_4, kc_5, reduceIte, Nat.reduceEqDiff, Nat.add_zero, rI_hold, rI_hold, rL_hold, hk, he69, he67, he68, haf, hk1, he671]; exact congrArg nI (by omega))) ?_
  refine Bod.ic 1 (by decide) dc_346_95 ?_
  refine Bod.icF dc_346_96 rfl (k2_eq_F (k_ne e671 1 rfl rfl (by omega) (by omega) (by omega))) ?_
  refine Bod.go dc_346_99 rfl ?_
  refine Bod.virt (r := []) dc_346_100 kr_346_202 ⟨Or.inl rfl, ow_299, cl_14⟩ (by rw [np_299]; rfl) (by rw [np_299]; rfl) (ob_of (mk_61 _)) (Nat.le_of_ble_eq_true rfl) (c2  ) ?_
  show Bod _ _ _ _ [_] _ _ _
  exact Bod.retZ dc_346_103 rt_346 (Or.inl rfl)
theorem zCl_4 {d : Nat} {S Sf : cS} {v : Option Value} {la : Nat} {k : Nat} {e69 : Nat} {e67 : Nat} {e68 : Nat} {af : Nat} {S1 : cS} (mla : la < 2 ^ 20) (hk : sI S 6115 = nI k) (mk : k < 6001) (he69 : sA S 69 k = nI e69) (me69 : e69 < 2 ^ 20) (he67 : sA (wI 6115 (nI (k + 1)) S) 67 (k + 1) = nI e67) (me67 : e67 < 2 ^ 20) (b1 : e67 = 1) (he68 : sA (wI 6115 (nI (k + 1)) S) 68 (k + 1) = nI e68) (me68 : e68 < 2 ^ 20) (haf : sI (wI 6115 (nI (k + 1)) S) 6140 = nI af) (maf : af < 6000) (c1 : Ans (d + 8) 314 [.ref 61, .int (nI 40)] (wI 6115 (nI (k + 2)) (wI 6115 (nI (k + 1)) S)) (some (.int (nI 0))) S1) (hB : ∀ lv1 : sm_L, sm_get lv1 0 = some (.ref 61) → sm_get lv1 1 = some (.int (nI la)) → sm_get lv1 2 = some (.int (nI e69)) → sm_get lv1 3 = some (.int (nI e68)) → sm_get lv1 4 = some (.int (Int32.ofInt (-1))) → sm_get lv1 5 = some (.int (nI af)) → Bod (d + 8) 346 136 lv1 [] (S1) v Sf) : Bod (d + 8) 346 0 [(0, .ref 61), (1, .int (nI la))] [] S v Sf := by
  refine Bod.go dc_346_0 rfl ?_
  refine Bod.get dc_346_1 fr_346_138 (mk_61 _) rfl ?_
  refine Bod.go dc_346_4 rfl ?_
  refine Bod.get dc_346_5 fr_346_190 (mk_61 _) rfl ?_
  refine Bod.eqI (nI k) (by first | assumption | rfl | exact congrArg nI (by omega) | (simp (disch := omega) only [rI, rIe, rA, rIA, rLA, rJA, rVI, rQI, rVA, rQA, upd_at,  rAI, rLI, rJI, nI_add, pk_sub, kc_0, kc_1, kc_2, kc_3, kc_4, kc_5, reduceIte, Nat.reduceEqDiff, Nat.add_zero, rI_hold, rI_hold, rL_hold, hk]; done)) ?_
  refine Bod.ialdN k rfl (by omega) (by omega) dc_346_8 (mk_69 _) ?_
  refine Bod.eqI (nI e69) (by first | assumption | rfl | exact congrArg nI (by omega) | (simp (disch := omega) only [rI, rIe, rA, rIA, rLA, rJA, rVI, rQI, rVA, rQA, upd_at,  rAI, rLI, rJI, nI_add, pk_sub, kc_0, kc_1, kc_2, kc_3, kc_4, kc_5, reduceIte, Nat.reduceEqDiff, Nat.add_zero, rI_hold, rI_hold, rL_hold, hk, he69]; done)) ?_
  refine Bod.istn dc_346_9 (by rw [ml_346]; exact Nat.le_of_ble_eq_true rfl) ?_
  refine Bod.go dc_346_10 rfl ?_
  refine Bod.go dc_346_11 rfl ?_
  refine Bod.get dc_346_12 fr_346_190 (mk_61 _) rfl ?_
  refine Bod.eqI (nI k) (by first | assumption | rfl | exact congrArg nI (by omega) | (simp (disch := omega) only [rI, rIe, rA, rIA, rLA, rJA, rVI, rQI, rVA, rQA, upd_at,  rAI, rLI, rJI, nI_add, pk_sub, kc_0, kc_1, kc_2, kc_3, kc_4, kc_5, reduceIte, Nat.reduceEqDiff, Nat.add_zero, rI_hold, rI_hold, rL_hold, hk, he69]; done)) ?_
  refine Bod.ic 1 (by decide) dc_346_15 ?_
  refine Bod.addN (k + 1) (by omega) dc_346_16 ?_
  refine Bod.put dc_346_17 fr_346_190 (mk_61 _) (Nat.le_of_ble_eq_true rfl) pf_14_15 (st_6115 _ _) (mu_I _ _ _) ?_
  refine Bod.go dc_346_20 rfl ?_
  refine Bod.get dc_346_21 fr_346_129 (mk_61 _) rfl ?_
  refine Bod.go dc_346_24 rfl ?_
  refine Bod.get dc_346_25 fr_346_190 (mk_61 _) rfl ?_
  refine Bod.eqI (nI (k + 1)) (by first | (simp (disch := omega) only [rI, rIe, rA, rIA, rLA, rJA, rVI, rQI, rVA, rQA, upd_at,  rAI, rLI, rJI, nI_add, pk_sub, kc_0, kc_1, kc_2, kc_3, kc_4, kc_5, reduceIte, Nat.reduceEqDiff, Nat.add_zero, rI_hold, rI_hold, rL_hold, hk, he69]; done) | (simp (disch := omega) only [rI, rIe, rA, rIA, rLA, rJA, rVI, rQI, rVA, rQA, upd_at,  rAI, rLI, rJI, nI_add, pk_sub, kc_0, kc_1, kc_2, kc_3, kc_4, kc_5, reduceIte, Nat.reduceEqDiff, Nat.add_zero, rI_hold, rI_hold, rL_hold, hk, he69]; exact congrArg nI (by omega))) ?_
  refine Bod.ialdN (k + 1) rfl (by omega) (by omega) dc_346_28 (mk_67 _) ?_
  refine Bod.eqI (nI e67) (by first | (simp (disch := omega) only [rI, rIe, rA, rIA, rLA, rJA, rVI, rQI, rVA, rQA, upd_at,  rAI, rLI, rJI, nI_add, pk_sub, kc_0, kc_1, kc_2, kc_3, kc_4, kc_5, reduceIte, Nat.reduceEqDiff, Nat.add_zero, rI_hold, rI_hold, rL_hold, hk, he69, he67]; done) | (simp (disch := omega) only [rI, rIe, rA, rIA, rLA, rJA, rVI, rQI, rVA, rQA, upd_at,  rAI, rLI, rJI, nI_add, pk_sub, kc_0, kc_1, kc_2, kc_3, kc_4, kc_5, reduceIte, Nat.reduceEqDiff, Nat.add_zero, rI_hold, rI_hold, rL_hold, hk, he69, he67]; exact congrArg nI (by omega))) ?_
  refine Bod.ic 1 (by decide) dc_346_29 ?_
  refine Bod.icT dc_346_30 rfl (k2_eq_T (k_eq e67 1 rfl rfl (by omega))) ?_
  refine Bod.go dc_346_38 rfl ?_
  refine Bod.get dc_346_39 fr_346_135 (mk_61 _) rfl ?_
  refine Bod.go dc_346_42 rfl ?_
  refine Bod.get dc_346_43 fr_346_190 (mk_61 _) rfl ?_
  refine Bod.eqI (nI (k + 1)) (by first | (simp (disch := omega) only [rI, rIe, rA, rIA, rLA, rJA, rVI, rQI, rVA, rQA, upd_at,  rAI, rLI, rJI, nI_add, pk_sub, kc_0, kc_1, kc_2, kc_3, kc_4, kc_5, reduceIte, Nat.reduceEqDiff, Nat.add_zero, rI_hold, rI_hold, rL_hold, hk, he69, he67]; done) | (simp (disch := omega) only [rI, rIe, rA, rIA, rLA, rJA, rVI, rQI, rVA, rQA, upd_at,  rAI, rLI, rJI, nI_add, pk_sub, kc_0, kc_1, kc_2, kc_3, kc_4, kc_5, reduceIte, Nat.reduceEqDiff, Nat.add_zero, rI_hold, rI_hold, rL_hold, hk, he69, he67]; exact congrArg nI (by omega))) ?_
  refine Bod.ialdN (k + 1) rfl (by omega) (by omega) dc_346_46 (mk_68 _) ?_
  refine Bod.eqI (nI e68) (by first | (simp (disch := omega) only [rI, rIe, rA, rIA, rLA, rJA, rVI, rQI, rVA, rQA, upd_at,  rAI, rLI, rJI, nI_add, pk_sub, kc_0, kc_1, kc_2, kc_3, kc_4, kc_5, reduceIte, Nat.reduceEqDiff, Nat.add_zero, rI_hold, rI_hold, rL_hold, hk, he69, he67, he68]; done) | (simp (disch := omega) only [rI, rIe, rA, rIA, rLA, rJA, rVI, rQI, rVA, rQA, upd_at,  rAI, rLI, rJI, nI_add, pk_sub, kc_0, kc_1, kc_2, kc_3, kc_4, kc_5, reduceIte, Nat.reduceEqDiff, Nat.add_zero, rI_hold, rI_hold, rL_hold, hk, he69, he67, he68]; exact congrArg nI (by omega))) ?_
  refine Bod.istn dc_346_47 (by rw [ml_346]; exact Nat.le_of_ble_eq_true rfl) ?_
  refine Bod.go dc_346_48 rfl ?_
  refine Bod.ist dc_346_49 (by rw [ml_346]; exact Nat.le_of_ble_eq_true rfl) ?_
  refine Bod.go dc_346_51 rfl ?_
  refine Bod.get dc_346_52 fr_346_260 (mk_61 _) rfl ?_
  refine Bod.eqI (nI af) (by first | (simp (disch := omega) only [rI, rIe, rA, rIA, rLA, rJA, rVI, rQI, rVA, rQA, upd_at,  rAI, rLI, rJI, nI_add, pk_sub, kc_0, kc_1, kc_2, kc_3, kc_4, kc_5, reduceIte, Nat.reduceEqDiff, Nat.add_zero, rI_hold, rI_hold, rL_hold, hk, he69, he67, he68, haf]; done) | (simp (disch := omega) only [rI, rIe, rA, rIA, rLA, rJA, rVI, rQI, rVA, rQA, upd_at,  rAI, rLI, rJI, nI_add, pk_sub, kc_0, kc_1, kc_2, kc_3, kc_4, kc_5, reduceIte, Nat.reduceEqDiff, Nat.add_zero, rI_hold, rI_hold, rL_hold, hk, he69, he67, he68, haf]; exact congrArg nI (by omega))) ?_
  refine Bod.ist dc_346_55 (by rw [ml_346]; exact Nat.le_of_ble_eq_true rfl) ?_
  refine Bod.go dc_346_57 rfl ?_
  refine Bod.go dc_346_58 rfl ?_
  refine Bod.get dc_346_59 fr_346_190 (mk_61 _) rfl ?_
  refine Bod.eqI (nI (k + 1)) (by first | (simp (disch := omega) only [rI, rIe, rA, rIA, rLA, rJA, rVI, rQI, rVA, rQA, upd_at,  rAI, rLI, rJI, nI_add, pk_sub, kc_0, kc_1, kc_2, kc_3, kc_4, kc_5, reduceIte, Nat.reduceEqDiff, Nat.add_zero, rI_hold, rI_hold, rL_hold, hk, he69, he67, he68, haf]; done) | (simp (disch := omega) only [rI, rIe, rA, rIA, rLA, rJA, rVI, rQI, rVA, rQA, upd_at,  rAI, rLI, rJI, nI_add, pk_sub, kc_0, kc_1, kc_2, kc_3, kc_4, kc_5, reduceIte, Nat.reduceEqDiff, Nat.add_zero, rI_hold, rI_hold, rL_hold, hk, he69, he67, he68, haf]; exact congrArg nI (by omega))) ?_
  refine Bod.ic 1 (by decide) dc_346_62 ?_
  refine Bod.addN (k + 2) (by omega) dc_346_63 ?_
  refine Bod.put dc_346_64 fr_346_190 (mk_61 _) (Nat.le_of_ble_eq_true rfl) pf_14_15 (st_6115 _ _) (mu_I _ _ _) ?_
  refine Bod.go dc_346_67 rfl ?_
  refine Bod.bip 40 (by decide) dc_346_68 ?_
  refine Bod.virt (r := []) dc_346_70 kr_346_199 ⟨Or.inl rfl, ow_314, cl_14⟩ (by rw [np_314]; rfl) (by rw [np_314]; rfl) (ob_of (mk_61 _)) (Nat.le_of_ble_eq_true rfl) (c1  ) ?_
  show Bod _ _ _ _ [_] _ _ _
  refine Bod.ifT dc_346_73 rfl (k1_eq_T (k_eq 0 0 rfl rfl (by omega))) ?_
  exact hB _ (by first | rfl | exact (by repeat (first | exact rfl | exact sm_get_p1 | exact sm_get_p2e | refine sm_get_p1m (by decide) (by decide) ?_ | refine sm_get_p1n (by decide) rfl ?_ | refine sm_get_p2n (by decide) (by decide) rfl ?_))) (by first | rfl | exact (by repeat (first | exact rfl | exact sm_get_p1 | exact sm_get_p2e | refine sm_get_p1m (by decide) (by decide) ?_ | refine sm_get_p1n (by decide) rfl ?_ | refine sm_get_p2n (by decide) (by decide) rfl ?_))) (by first | rfl | exact (by repeat (first | exact rfl | exact sm_get_p1 | exact sm_get_p2e | refine sm_get_p1m (by decide) (by decide) ?_ | refine sm_get_p1n (by decide) rfl ?_ | refine sm_get_p2n (by decide) (by decide) rfl ?_))) (by first | rfl | exact (by repeat (first | exact rfl | exact sm_get_p1 | exact sm_get_p2e | refine sm_get_p1m (by decide) (by decide) ?_ | refine sm_get_p1n (by decide) rfl ?_ | refine sm_get_p2n (by decide) (by decide) rfl ?_))) (by first | rfl | exact (by repeat (first | exact rfl | exact sm_get_p1 | exact sm_get_p2e | refine sm_get_p1m (by decide) (by decide) ?_ | refine sm_get_p1n (by decide) rfl ?_ | refine sm_get_p2n (by decide) (by decide) rfl ?_))) (by first | rfl | exact (by repeat (first | exact rfl | exact sm_get_p1 | exact sm_get_p2e | refine sm_get_p1m (by decide) (by decide) ?_ | refine sm_get_p1n (by decide) rfl ?_ | refine sm_get_p2n (by decide) (by decide) rfl ?_)))
theorem zCl_5 {d : Nat} {S : cS} {la : Nat} {k : Nat} {e69 : Nat} {e67 : Nat} {S1 : cS} (mla : la < 2 ^ 20) (hk : sI S 6115 = nI k) (mk : k < 6001) (he69 : sA S 69 k = nI e69) (me69 : e69 < 2 ^ 20) (he67 : sA (wI 6115 (nI (k + 1)) S) 67 (k + 1) = nI e67) (me67 : e67 < 2 ^ 20) (b1 : e67 ≠ 1) (c1 : Ans (d + 8) 299 [.ref 61] (wI 6115 (nI (k + 1)) S) (some (.int (nI 0))) S1) : Bod (d + 8) 346 0 [(0, .ref 61), (1, .int (nI la))] [] S (some (.int 0)) (S1) := by
  refine Bod.go dc_346_0 rfl ?_
  refine Bod.get dc_346_1 fr_346_138 (mk_61 _) rfl ?_
  refine Bod.go dc_346_4 rfl ?_
  refine Bod.get dc_346_5 fr_346_190 (mk_61 _) rfl ?_
  refine Bod.eqI (nI k) (by first | assumption | rfl | exact congrArg nI (by omega) | (simp (disch := omega) only [rI, rIe, rA, rIA, rLA, rJA, rVI, rQI, rVA, rQA, upd_at,  rAI, rLI, rJI, nI_add, pk_sub, kc_0, kc_1, kc_2, kc_3, kc_4, kc_5, reduceIte, Nat.reduceEqDiff, Nat.add_zero, rI_hold, rI_hold, rL_hold, hk]; done)) ?_
  refine Bod.ialdN k rfl (by omega) (by omega) dc_346_8 (mk_69 _) ?_
  refine Bod.eqI (nI e69) (by first | assumption | rfl | exact congrArg nI (by omega) | (simp (disch := omega) only [rI, rIe, rA, rIA, rLA, rJA, rVI, rQI, rVA, rQA, upd_at,  rAI, rLI, rJI, nI_add, pk_sub, kc_0, kc_1, kc_2, kc_3, kc_4, kc_5, reduceIte, Nat.reduceEqDiff, Nat.add_zero, rI_hold, rI_hold, rL_hold, hk, he69]; done)) ?_
  refine Bod.istn dc_346_9 (by rw [ml_346]; exact Nat.le_of_ble_eq_true rfl) ?_
  refine Bod.go dc_346_10 rfl ?_
  refine Bod.go dc_346_11 rfl ?_
  refine Bod.get dc_346_12 fr_346_190 (mk_61 _) rfl ?_
  refine Bod.eqI (nI k) (by first | assumption | rfl | exact congrArg nI (by omega) | (simp (disch := omega) only [rI, rIe, rA, rIA, rLA, rJA, rVI, rQI, rVA, rQA, upd_at,  rAI, rLI, rJI, nI_add, pk_sub, kc_0, kc_1, kc_2, kc_3, kc_4, kc_5, reduceIte, Nat.reduceEqDiff, Nat.add_zero, rI_hold, rI_hold, rL_hold, hk, he69]; done)) ?_
  refine Bod.ic 1 (by decide) dc_346_15 ?_
  refine Bod.addN (k + 1) (by omega) dc_346_16 ?_
  refine Bod.put dc_346_17 fr_346_190 (mk_61 _) (Nat.le_of_ble_eq_true rfl) pf_14_15 (st_6115 _ _) (mu_I _ _ _) ?_
  refine Bod.go dc_346_20 rfl ?_
  refine Bod.get dc_346_21 fr_346_129 (mk_61 _) rfl ?_
  refine Bod.go dc_346_24 rfl ?_
  refine Bod.get dc_346_25 fr_346_190 (mk_61 _) rfl ?_
  refine Bod.eqI (nI (k + 1)) (by first | (simp (disch := omega) only [rI, rIe, rA, rIA, rLA, rJA, rVI, rQI, rVA, rQA, upd_at,  rAI, rLI, rJI, nI_add, pk_sub, kc_0, kc_1, kc_2, kc_3, kc_4, kc_5, reduceIte, Nat.reduceEqDiff, Nat.add_zero, rI_hold, rI_hold, rL_hold, hk, he69]; done) | (simp (disch := omega) only [rI, rIe, rA, rIA, rLA, rJA, rVI, rQI, rVA, rQA, upd_at,  rAI, rLI, rJI, nI_add, pk_sub, kc_0, kc_1, kc_2, kc_3, kc_4, kc_5, reduceIte, Nat.reduceEqDiff, Nat.add_zero, rI_hold, rI_hold, rL_hold, hk, he69]; exact congrArg nI (by omega))) ?_
  refine Bod.ialdN (k + 1) rfl (by omega) (by omega) dc_346_28 (mk_67 _) ?_
  refine Bod.eqI (nI e67) (by first | (simp (disch := omega) only [rI, rIe, rA, rIA, rLA, rJA, rVI, rQI, rVA, rQA, upd_at,  rAI, rLI, rJI, nI_add, pk_sub, kc_0, kc_1, kc_2, kc_3, kc_4, kc_5, reduceIte, Nat.reduceEqDiff, Nat.add_zero, rI_hold, rI_hold, rL_hold, hk, he69, he67]; done) | (simp (disch := omega) only [rI, rIe, rA, rIA, rLA, rJA, rVI, rQI, rVA, rQA, upd_at,  rAI, rLI, rJI, nI_add, pk_sub, kc_0, kc_1, kc_2, kc_3, kc_4, kc_5, reduceIte, Nat.reduceEqDiff, Nat.add_zero, rI_hold, rI_hold, rL_hold, hk, he69, he67]; exact congrArg nI (by omega))) ?_
  refine Bod.ic 1 (by decide) dc_346_29 ?_
  refine Bod.icF dc_346_30 rfl (k2_eq_F (k_ne e67 1 rfl rfl (by omega) (by omega) (by omega))) ?_
  refine Bod.go dc_346_33 rfl ?_
  refine Bod.virt (r := []) dc_346_34 kr_346_202 ⟨Or.inl rfl, ow_299, cl_14⟩ (by rw [np_299]; rfl) (by rw [np_299]; rfl) (ob_of (mk_61 _)) (Nat.le_of_ble_eq_true rfl) (c1  ) ?_
  show Bod _ _ _ _ [_] _ _ _
  exact Bod.retZ dc_346_37 rt_346 (Or.inl rfl)
theorem zCb_1 {d : Nat} {S Sf : cS} {v : Option Value} {lv : sm_L} {la : Nat} {ll : Nat} {lnm : Nat} {lw : Nat} {ly : Nat} {na : Nat} {S1 : cS} {S2 : cS} {S3 : cS} {S4 : cS} {m : Nat} {u : Nat} {S5 : cS} {na1 : Nat} {af : Nat} {S6 : cS} {a : Nat} {S7 : cS} {af1 : Nat} (q0 : sm_get lv 0 = some (.ref 61)) (q1 : sm_get lv 1 = some (.int (nI la))) (q2 : sm_get lv 2 = some (.int (nI ll))) (q3 : sm_get lv 3 = some (.int (nI lnm))) (q4 : sm_get lv 4 = some (.int (nI lw))) (q5 : sm_get lv 5 = some (.int (nI ly))) (mla : la < 2 ^ 20) (mll : ll < 2 ^ 20) (mlnm : lnm < 2 ^ 20) (mlw : lw < 2 ^ 20) (mly : ly < 2 ^ 20) (hna : sI S 6139 = nI na) (mna : na < 6000) (c1 : Ans (d + 8) 334 [.ref 61, .int (nI la), .int (nI 1)] (wI 6140 (nI na) S) (some (.int (nI 1))) S1) (c2 : Ans (d + 8) 302 [.ref 61, .int (nI 42), .int (nI ll)] S1 none S2) (c3 : Ans (d + 8) 317 [.ref 61, .int (nI 4), .int (nI lw)] S2 none S3) (c4 : Ans (d + 8) 302 [.ref 61, .int (nI 40), .int (nI lnm)] S3 none S4) (hm : 108 ≤ m) (hv1 : sV S4 6114 = .ref m) (c5 : Ans (d + 8) 303 [.ref m, .int (nI 1)] S4 none S5) (hz2 : (sS S4)[m - 108]? = some (12, u)) (hv3 : sV S5 6114 = .ref m) (hna1 : sI S5 6139 = nI na1) (mna1 : na1 < 6000) (haf : sI S5 6140 = nI af) (maf : af < 6000) (b1 : af ≤ na1) (ma : a < 2 ^ 20) (c6 : Ans (d + 8) 187 [.int (nI 40), .int (nI (na1 - af))] S5 (some (.int (nI a))) S6) (c7 : Ans (d + 8) 303 [.ref m, .int (nI a)] S6 none S7) (hz4 : (sS S6)[m - 108]? = some (12, u)) (haf1 : sI S7 6140 = nI af1) (maf1 : af1 < 6000) (hB : ∀ lv1 : sm_L, sm_get lv1 0 = some (.ref 61) → sm_get lv1 3 = some (.int (nI lnm)) → sm_get lv1 5 = some (.int (nI ly)) → sm_get lv1 6 = some (.int (nI af1)) → Bod (d + 8) 346 225 lv1 [] (S7) v Sf) : Bod (d + 8) 346 136 lv [] S v Sf := by
  refine Bod.aldnG dc_346_136 (by repeat (first | exact q0 | exact sm_get_p1 | exact sm_get_p2e | refine sm_get_p1m (by decide) (by decide) ?_ | refine sm_get_p1n (by decide) rfl ?_ | refine sm_get_p2n (by decide) (by decide) rfl ?_)) ?_
  refine Bod.aldnG dc_346_137 (by repeat (first | exact q0 | exact sm_get_p1 | exact sm_get_p2e | refine sm_get_p1m (by decide) (by decide) ?_ | refine sm_get_p1n (by decide) rfl ?_ | refine sm_get_p2n (by decide) (by decide) rfl ?_)) ?_
  refine Bod.get dc_346_138 fr_346_257 (mk_61 _) rfl ?_
  refine Bod.eqI (nI na) (by first | assumption | rfl | exact congrArg nI (by omega) | (simp (disch := omega) only [rI, rIe, rA, rIA, rLA, rJA, rVI, rQI, rVA, rQA, upd_at,  rAI, rLI, rJI, nI_add, pk_sub, kc_0, kc_1, kc_2, kc_3, kc_4, kc_5, reduceIte, Nat.reduceEqDiff, Nat.add_zero, rI_hold, rI_hold, rL_hold, hna]; done)) ?_
  refine Bod.put dc_346_141 fr_346_260 (mk_61 _) (Nat.le_of_ble_eq_true rfl) pf_14_40 (st_6140 _ _) (mu_I _ _ _) ?_
  refine Bod.aldnG dc_346_144 (by repeat (first | exact q0 | exact sm_get_p1 | exact sm_get_p2e | refine sm_get_p1m (by decide) (by decide) ?_ | refine sm_get_p1n (by decide) rfl ?_ | refine sm_get_p2n (by decide) (by decide) rfl ?_)) ?_
  refine Bod.ildnG dc_346_145 (by repeat (first | exact q1 | exact sm_get_p1 | exact sm_get_p2e | refine sm_get_p1m (by decide) (by decide) ?_ | refine sm_get_p1n (by decide) rfl ?_ | refine sm_get_p2n (by decide) (by decide) rfl ?_)) ?_
  refine Bod.ic 1 (by decide) dc_346_146 ?_
  refine Bod.virt (r := []) dc_346_147 kr_346_309 ⟨Or.inl rfl, ow_334, cl_14⟩ (by rw [np_334]; rfl) (by rw [np_334]; rfl) (ob_of (mk_61 _)) (Nat.le_of_ble_eq_true rfl) (c1  ) ?_
  show Bod _ _ _ _ [_] _ _ _
  refine Bod.ifT dc_346_150 rfl (k1_ne_T (k_ne 1 0 rfl rfl (by omega) (by omega) (by omega))) ?_
  refine Bod.aldnG dc_346_155 (by repeat (first | exact q0 | exact sm_get_p1 | exact sm_get_p2e | refine sm_get_p1m (by decide) (by decide) ?_ | refine sm_get_p1n (by decide) rfl ?_ | refine sm_get_p2n (by decide) (by decide) rfl ?_)) ?_
  refine Bod.bip 42 (by decide) dc_346_156 ?_
  refine Bod.ildnG dc_346_158 (by repeat (first | exact q2 | exact sm_get_p1 | exact sm_get_p2e | refine sm_get_p1m (by decide) (by decide) ?_ | refine sm_get_p1n (by decide) rfl ?_ | refine sm_get_p2n (by decide) (by decide) rfl ?_)) ?_
  refine Bod.virt (r := []) dc_346_159 kr_346_216 ⟨Or.inl rfl, ow_302, cl_14⟩ (by rw [np_302]; rfl) (by rw [np_302]; rfl) (ob_of (mk_61 _)) (Nat.le_of_ble_eq_true rfl) (c2  ) ?_
  show Bod _ _ _ _ [] _ _ _
  refine Bod.ildG dc_346_162 (by repeat (first | exact q4 | exact sm_get_p1 | exact sm_get_p2e | refine sm_get_p1m (by decide) (by decide) ?_ | refine sm_get_p1n (by decide) rfl ?_ | refine sm_get_p2n (by decide) (by decide) rfl ?_)) ?_
  refine Bod.ifF dc_346_164 rfl (k1_lt_F lw rfl (by omega)) ?_
  refine Bod.aldnG dc_346_167 (by repeat (first | exact q0 | exact sm_get_p1 | exact sm_get_p2e | refine sm_get_p1m (by decide) (by decide) ?_ | refine sm_get_p1n (by decide) rfl ?_ | refine sm_get_p2n (by decide) (by decide) rfl ?_)) ?_
  refine Bod.ic 4 (by decide) dc_346_168 ?_
  refine Bod.ildG dc_346_169 (by repeat (first | exact q4 | exact sm_get_p1 | exact sm_get_p2e | refine sm_get_p1m (by decide) (by decide) ?_ | refine sm_get_p1n (by decide) rfl ?_ | refine sm_get_p2n (by decide) (by decide) rfl ?_)) ?_
  refine Bod.virt (r := []) dc_346_171 kr_346_341 ⟨Or.inl rfl, ow_317, cl_14⟩ (by rw [np_317]; rfl) (by rw [np_317]; rfl) (ob_of (mk_61 _)) (Nat.le_of_ble_eq_true rfl) (c3  ) ?_
  show Bod _ _ _ _ [] _ _ _
  refine Bod.aldnG dc_346_174 (by repeat (first | exact q0 | exact sm_get_p1 | exact sm_get_p2e | refine sm_get_p1m (by decide) (by decide) ?_ | refine sm_get_p1n (by decide) rfl ?_ | refine sm_get_p2n (by decide) (by decide) rfl ?_)) ?_
  refine Bod.bip 40 (by decide) dc_346_175 ?_
  refine Bod.ildnG dc_346_177 (by repeat (first | exact q3 | exact sm_get_p1 | exact sm_get_p2e | refine sm_get_p1m (by decide) (by decide) ?_ | refine sm_get_p1n (by decide) rfl ?_ | refine sm_get_p2n (by decide) (by decide) rfl ?_)) ?_
  refine Bod.virt (r := []) dc_346_178 kr_346_216 ⟨Or.inl rfl, ow_302, cl_14⟩ (by rw [np_302]; rfl) (by rw [np_302]; rfl) (ob_of (mk_61 _)) (Nat.le_of_ble_eq_true rfl) (c4  ) ?_
  show Bod _ _ _ _ [] _ _ _
  refine Bod.aldnG dc_346_181 (by repeat (first | exact q0 | exact sm_get_p1 | exact sm_get_p2e | refine sm_get_p1m (by decide) (by decide) ?_ | refine sm_get_p1n (by decide) rfl ?_ | refine sm_get_p2n (by decide) (by decide) rfl ?_)) ?_
  refine Bod.get dc_346_182 fr_346_206 (mk_61 _) rfl ?_
  refine Bod.eqV (.ref m) (by first | exact hv1 | (simp only [rIV, rJV, rAV, rLV, rQV, rV, reduceIte, Nat.reduceEqDiff]; exact hv1)) ?_
  refine Bod.ildG dc_346_185 (by repeat (first | exact q4 | exact sm_get_p1 | exact sm_get_p2e | refine sm_get_p1m (by decide) (by decide) ?_ | refine sm_get_p1n (by decide) rfl ?_ | refine sm_get_p2n (by decide) (by decide) rfl ?_)) ?_
  refine Bod.ifF dc_346_187 rfl (k1_lt_F lw rfl (by omega)) ?_
  refine Bod.ic 1 (by decide) dc_346_190 ?_
  refine Bod.go dc_346_191 rfl ?_
  refine Bod.virt (r := []) dc_346_195 kr_346_210 ⟨Or.inl rfl, ow_303, cl_12⟩ (by rw [np_303]; rfl) (by rw [np_303]; rfl) (ob_of (mk_code hm (by first | exact hz2 | (simp only [rIS, rJS, rAS, rLS, rVS, rQS, rS_hold]; exact hz2)))) (Nat.le_of_ble_eq_true rfl) (c5  ) ?_
  show Bod _ _ _ _ [] _ _ _
  refine Bod.aldnG dc_346_198 (by repeat (first | exact q0 | exact sm_get_p1 | exact sm_get_p2e | refine sm_get_p1m (by decide) (by decide) ?_ | refine sm_get_p1n (by decide) rfl ?_ | refine sm_get_p2n (by decide) (by decide) rfl ?_)) ?_
  refine Bod.get dc_346_199 fr_346_206 (mk_61 _) rfl ?_
  refine Bod.eqV (.ref m) (by first | exact hv3 | (simp only [rIV, rJV, rAV, rLV, rQV, rV, reduceIte, Nat.reduceEqDiff]; exact hv3)) ?_
  refine Bod.bip 40 (by decide) dc_346_202 ?_
  refine Bod.aldnG dc_346_204 (by repeat (first | exact q0 | exact sm_get_p1 | exact sm_get_p2e | refine sm_get_p1m (by decide) (by decide) ?_ | refine sm_get_p1n (by decide) rfl ?_ | refine sm_get_p2n (by decide) (by decide) rfl ?_)) ?_
  refine Bod.get dc_346_205 fr_346_257 (mk_61 _) rfl ?_
  refine Bod.eqI (nI na1) (by first | (simp (disch := omega) only [rI, rIe, rA, rIA, rLA, rJA, rVI, rQI, rVA, rQA, upd_at,  rAI, rLI, rJI, nI_add, pk_sub, kc_0, kc_1, kc_2, kc_3, kc_4, kc_5, reduceIte, Nat.reduceEqDiff, Nat.add_zero, rI_hold, rI_hold, rL_hold, hna, hna1]; done) | (simp (disch := omega) only [rI, rIe, rA, rIA, rLA, rJA, rVI, rQI, rVA, rQA, upd_at,  rAI, rLI, rJI, nI_add, pk_sub, kc_0, kc_1, kc_2, kc_3, kc_4, kc_5, reduceIte, Nat.reduceEqDiff, Nat.add_zero, rI_hold, rI_hold, rL_hold, hna, hna1]; exact congrArg nI (by omega))) ?_
  refine Bod.aldnG dc_346_208 (by repeat (first | exact q0 | exact sm_get_p1 | exact sm_get_p2e | refine sm_get_p1m (by decide) (by decide) ?_ | refine sm_get_p1n (by decide) rfl ?_ | refine sm_get_p2n (by decide) (by decide) rfl ?_)) ?_
  refine Bod.get dc_346_209 fr_346_260 (mk_61 _) rfl ?_
  refine Bod.eqI (nI af) (by first | (simp (disch := omega) only [rI, rIe, rA, rIA, rLA, rJA, rVI, rQI, rVA, rQA, upd_at,  rAI, rLI, rJI, nI_add, pk_sub, kc_0, kc_1, kc_2, kc_3, kc_4, kc_5, reduceIte, Nat.reduceEqDiff, Nat.add_zero, rI_hold, rI_hold, rL_hold, hna, hna1, haf]; done) | (simp (disch := omega) only [rI, rIe, rA, rIA, rLA, rJA, rVI, rQI, rVA, rQA, upd_at,  rAI, rLI, rJI, nI_add, pk_sub, kc_0, kc_1, kc_2, kc_3, kc_4, kc_5, reduceIte, Nat.reduceEqDiff, Nat.add_zero, rI_hold, rI_hold, rL_hold, hna, hna1, haf]; exact congrArg nI (by omega))) ?_
  refine Bod.subN (na1 - af) (by omega) (by omega) dc_346_212 ?_
  refine Bod.stat (r := [_]) dc_346_213 kr_346_382 (Or.inl rfl) (by rw [np_187]; rfl) (by rw [np_187]; rfl) (by rw [np_187]; exact Nat.le_of_ble_eq_true rfl) (Nat.le_of_ble_eq_true rfl) (c6  ) ?_
  show Bod _ _ _ _ [_, _] _ _ _
  refine Bod.virt (r := []) dc_346_216 kr_346_210 ⟨Or.inl rfl, ow_303, cl_12⟩ (by rw [np_303]; rfl) (by rw [np_303]; rfl) (ob_of (mk_code hm (by first | exact hz4 | (simp only [rIS, rJS, rAS, rLS, rVS, rQS, rS_hold]; exact hz4)))) (Nat.le_of_ble_eq_true rfl) (c7  ) ?_
  show Bod _ _ _ _ [] _ _ _
  refine Bod.aldnG dc_346_219 (by repeat (first | exact q0 | exact sm_get_p1 | exact sm_get_p2e | refine sm_get_p1m (by decide) (by decide) ?_ | refine sm_get_p1n (by decide) rfl ?_ | refine sm_get_p2n (by decide) (by decide) rfl ?_)) ?_
  refine Bod.get dc_346_220 fr_346_260 (mk_61 _) rfl ?_
  refine Bod.eqI (nI af1) (by first | (simp (disch := omega) only [rI, rIe, rA, rIA, rLA, rJA, rVI, rQI, rVA, rQA, upd_at,  rAI, rLI, rJI, nI_add, pk_sub, kc_0, kc_1, kc_2, kc_3, kc_4, kc_5, reduceIte, Nat.reduceEqDiff, Nat.add_zero, rI_hold, rI_hold, rL_hold, hna, hna1, haf, haf1]; done) | (simp (disch := omega) only [rI, rIe, rA, rIA, rLA, rJA, rVI, rQI, rVA, rQA, upd_at,  rAI, rLI, rJI, nI_add, pk_sub, kc_0, kc_1, kc_2, kc_3, kc_4, kc_5, reduceIte, Nat.reduceEqDiff, Nat.add_zero, rI_hold, rI_hold, rL_hold, hna, hna1, haf, haf1]; exact congrArg nI (by omega))) ?_
  refine Bod.ist dc_346_223 (by rw [ml_346]; exact Nat.le_of_ble_eq_true rfl) ?_
  exact hB _ (by repeat (first | exact q0 | exact sm_get_p1 | exact sm_get_p2e | refine sm_get_p1m (by decide) (by decide) ?_ | refine sm_get_p1n (by decide) rfl ?_ | refine sm_get_p2n (by decide) (by decide) rfl ?_)) (by repeat (first | exact q3 | exact sm_get_p1 | exact sm_get_p2e | refine sm_get_p1m (by decide) (by decide) ?_ | refine sm_get_p1n (by decide) rfl ?_ | refine sm_get_p2n (by decide) (by decide) rfl ?_)) (by repeat (first | exact q5 | exact sm_get_p1 | exact sm_get_p2e | refine sm_get_p1m (by decide) (by decide) ?_ | refine sm_get_p1n (by decide) rfl ?_ | refine sm_get_p2n (by decide) (by decide) rfl ?_)) (by repeat (first | exact q0 | exact sm_get_p1 | exact sm_get_p2e | refine sm_get_p1m (by decide) (by decide) ?_ | refine sm_get_p1n (by decide) rfl ?_ | refine sm_get_p2n (by decide) (by decide) rfl ?_))
theorem zCb_2 {d : Nat} {S : cS} {lv : sm_L} {la : Nat} {ll : Nat} {lnm : Nat} {lw : Nat} {ly : Nat} {na : Nat} {S1 : cS} (q0 : sm_get lv 0 = some (.ref 61)) (q1 : sm_get lv 1 = some (.int (nI la))) (q2 : sm_get lv 2 = some (.int (nI ll))) (q3 : sm_get lv 3 = some (.int (nI lnm))) (q4 : sm_get lv 4 = some (.int (nI lw))) (q5 : sm_get lv 5 = some (.int (nI ly))) (mla : la < 2 ^ 20) (mll : ll < 2 ^ 20) (mlnm : lnm < 2 ^ 20) (mlw : lw < 2 ^ 20) (mly : ly < 2 ^ 20) (hna : sI S 6139 = nI na) (mna : na < 6000) (c1 : Ans (d + 8) 334 [.ref 61, .int (nI la), .int (nI 1)] (wI 6140 (nI na) S) (some (.int (nI 0))) S1) : Bod (d + 8) 346 136 lv [] S (some (.int 0)) (S1) := by
  refine Bod.aldnG dc_346_136 (by repeat (first | exact q0 | exact sm_get_p1 | exact sm_get_p2e | refine sm_get_p1m (by decide) (by decide) ?_ | refine sm_get_p1n (by decide) rfl ?_ | refine sm_get_p2n (by decide) (by decide) rfl ?_)) ?_
  refine Bod.aldnG dc_346_137 (by repeat (first | exact q0 | exact sm_get_p1 | exact sm_get_p2e | refine sm_get_p1m (by decide) (by decide) ?_ | refine sm_get_p1n (by decide) rfl ?_ | refine sm_get_p2n (by decide) (by decide) rfl ?_)) ?_
  refine Bod.get dc_346_138 fr_346_257 (mk_61 _) rfl ?_
  refine Bod.eqI (nI na) (by first | assumption | rfl | exact congrArg nI (by omega) | (simp (disch := omega) only [rI, rIe, rA, rIA, rLA, rJA, rVI, rQI, rVA, rQA, upd_at,  rAI, rLI, rJI, nI_add, pk_sub, kc_0, kc_1, kc_2, kc_3, kc_4, kc_5, reduceIte, Nat.reduceEqDiff, Nat.add_zero, rI_hold, rI_hold, rL_hold, hna]; done)) ?_
  refine Bod.put dc_346_141 fr_346_260 (mk_61 _) (Nat.le_of_ble_eq_true rfl) pf_14_40 (st_6140 _ _) (mu_I _ _ _) ?_
  refine Bod.aldnG dc_346_144 (by repeat (first | exact q0 | exact sm_get_p1 | exact sm_get_p2e | refine sm_get_p1m (by decide) (by decide) ?_ | refine sm_get_p1n (by decide) rfl ?_ | refine sm_get_p2n (by decide) (by decide) rfl ?_)) ?_
  refine Bod.ildnG dc_346_145 (by repeat (first | exact q1 | exact sm_get_p1 | exact sm_get_p2e | refine sm_get_p1m (by decide) (by decide) ?_ | refine sm_get_p1n (by decide) rfl ?_ | refine sm_get_p2n (by decide) (by decide) rfl ?_)) ?_
  refine Bod.ic 1 (by decide) dc_346_146 ?_
  refine Bod.virt (r := []) dc_346_147 kr_346_309 ⟨Or.inl rfl, ow_334, cl_14⟩ (by rw [np_334]; rfl) (by rw [np_334]; rfl) (ob_of (mk_61 _)) (Nat.le_of_ble_eq_true rfl) (c1  ) ?_
  show Bod _ _ _ _ [_] _ _ _
  refine Bod.ifF dc_346_150 rfl (k1_ne_F (k_eq 0 0 rfl rfl (by omega))) ?_
  refine Bod.ic 0 (by decide) dc_346_153 ?_
  exact Bod.retZ dc_346_154 rt_346 (Or.inl rfl)
theorem zCn_1 {d : Nat} {S Sf : cS} {v : Option Value} {lv : sm_L} {la : Nat} {ll : Nat} {lnm : Nat} {ly : Nat} {na : Nat} {S1 : cS} {S2 : cS} {S3 : cS} {m : Nat} {u : Nat} {S4 : cS} {na1 : Nat} {af : Nat} {S5 : cS} {a : Nat} {S6 : cS} {af1 : Nat} (q0 : sm_get lv 0 = some (.ref 61)) (q1 : sm_get lv 1 = some (.int (nI la))) (q2 : sm_get lv 2 = some (.int (nI ll))) (q3 : sm_get lv 3 = some (.int (nI lnm))) (q4 : sm_get lv 4 = some (.int (Int32.ofInt (-1)))) (q5 : sm_get lv 5 = some (.int (nI ly))) (mla : la < 2 ^ 20) (mll : ll < 2 ^ 20) (mlnm : lnm < 2 ^ 20) (mly : ly < 2 ^ 20) (hna : sI S 6139 = nI na) (mna : na < 6000) (c1 : Ans (d + 8) 334 [.ref 61, .int (nI la), .int (nI 1)] (wI 6140 (nI na) S) (some (.int (nI 1))) S1) (c2 : Ans (d + 8) 302 [.ref 61, .int (nI 42), .int (nI ll)] S1 none S2) (c3 : Ans (d + 8) 302 [.ref 61, .int (nI 40), .int (nI lnm)] S2 none S3) (hm : 108 ≤ m) (hv1 : sV S3 6114 = .ref m) (c4 : Ans (d + 8) 303 [.ref m, .int (nI 0)] S3 none S4) (hz2 : (sS S3)[m - 108]? = some (12, u)) (hv3 : sV S4 6114 = .ref m) (hna1 : sI S4 6139 = nI na1) (mna1 : na1 < 6000) (haf : sI S4 6140 = nI af) (maf : af < 6000) (b1 : af ≤ na1) (ma : a < 2 ^ 20) (c5 : Ans (d + 8) 187 [.int (nI 40), .int (nI (na1 - af))] S4 (some (.int (nI a))) S5) (c6 : Ans (d + 8) 303 [.ref m, .int (nI a)] S5 none S6) (hz4 : (sS S5)[m - 108]? = some (12, u)) (haf1 : sI S6 6140 = nI af1) (maf1 : af1 < 6000) (hB : ∀ lv1 : sm_L, sm_get lv1 0 = some (.ref 61) → sm_get lv1 3 = some (.int (nI lnm)) → sm_get lv1 5 = some (.int (nI ly)) → sm_get lv1 6 = some (.int (nI af1)) → Bod (d + 8) 346 225 lv1 [] (S6) v Sf) : Bod (d + 8) 346 136 lv [] S v Sf := by
  refine Bod.aldnG dc_346_136 (by repeat (first | exact q0 | exact sm_get_p1 | exact sm_get_p2e | refine sm_get_p1m (by decide) (by decide) ?_ | refine sm_get_p1n (by decide) rfl ?_ | refine sm_get_p2n (by decide) (by decide) rfl ?_)) ?_
  refine Bod.aldnG dc_346_137 (by repeat (first | exact q0 | exact sm_get_p1 | exact sm_get_p2e | refine sm_get_p1m (by decide) (by decide) ?_ | refine sm_get_p1n (by decide) rfl ?_ | refine sm_get_p2n (by decide) (by decide) rfl ?_)) ?_
  refine Bod.get dc_346_138 fr_346_257 (mk_61 _) rfl ?_
  refine Bod.eqI (nI na) (by first | assumption | rfl | exact congrArg nI (by omega) | (simp (disch := omega) only [rI, rIe, rA, rIA, rLA, rJA, rVI, rQI, rVA, rQA, upd_at,  rAI, rLI, rJI, nI_add, pk_sub, kc_0, kc_1, kc_2, kc_3, kc_4, kc_5, reduceIte, Nat.reduceEqDiff, Nat.add_zero, rI_hold, rI_hold, rL_hold, hna]; done)) ?_
  refine Bod.put dc_346_141 fr_346_260 (mk_61 _) (Nat.le_of_ble_eq_true rfl) pf_14_40 (st_6140 _ _) (mu_I _ _ _) ?_
  refine Bod.aldnG dc_346_144 (by repeat (first | exact q0 | exact sm_get_p1 | exact sm_get_p2e | refine sm_get_p1m (by decide) (by decide) ?_ | refine sm_get_p1n (by decide) rfl ?_ | refine sm_get_p2n (by decide) (by decide) rfl ?_)) ?_
  refine Bod.ildnG dc_346_145 (by repeat (first | exact q1 | exact sm_get_p1 | exact sm_get_p2e | refine sm_get_p1m (by decide) (by decide) ?_ | refine sm_get_p1n (by decide) rfl ?_ | refine sm_get_p2n (by decide) (by decide) rfl ?_)) ?_
  refine Bod.ic 1 (by decide) dc_346_146 ?_
  refine Bod.virt (r := []) dc_346_147 kr_346_309 ⟨Or.inl rfl, ow_334, cl_14⟩ (by rw [np_334]; rfl) (by rw [np_334]; rfl) (ob_of (mk_61 _)) (Nat.le_of_ble_eq_true rfl) (c1  ) ?_
  show Bod _ _ _ _ [_] _ _ _
  refine Bod.ifT dc_346_150 rfl (k1_ne_T (k_ne 1 0 rfl rfl (by omega) (by omega) (by omega))) ?_
  refine Bod.aldnG dc_346_155 (by repeat (first | exact q0 | exact sm_get_p1 | exact sm_get_p2e | refine sm_get_p1m (by decide) (by decide) ?_ | refine sm_get_p1n (by decide) rfl ?_ | refine sm_get_p2n (by decide) (by decide) rfl ?_)) ?_
  refine Bod.bip 42 (by decide) dc_346_156 ?_
  refine Bod.ildnG dc_346_158 (by repeat (first | exact q2 | exact sm_get_p1 | exact sm_get_p2e | refine sm_get_p1m (by decide) (by decide) ?_ | refine sm_get_p1n (by decide) rfl ?_ | refine sm_get_p2n (by decide) (by decide) rfl ?_)) ?_
  refine Bod.virt (r := []) dc_346_159 kr_346_216 ⟨Or.inl rfl, ow_302, cl_14⟩ (by rw [np_302]; rfl) (by rw [np_302]; rfl) (ob_of (mk_61 _)) (Nat.le_of_ble_eq_true rfl) (c2  ) ?_
  show Bod _ _ _ _ [] _ _ _
  refine Bod.ildG dc_346_162 (by repeat (first | exact q4 | exact sm_get_p1 | exact sm_get_p2e | refine sm_get_p1m (by decide) (by decide) ?_ | refine sm_get_p1n (by decide) rfl ?_ | refine sm_get_p2n (by decide) (by decide) rfl ?_)) ?_
  refine Bod.ifT dc_346_164 rfl (by decide) ?_
  refine Bod.aldnG dc_346_174 (by repeat (first | exact q0 | exact sm_get_p1 | exact sm_get_p2e | refine sm_get_p1m (by decide) (by decide) ?_ | refine sm_get_p1n (by decide) rfl ?_ | refine sm_get_p2n (by decide) (by decide) rfl ?_)) ?_
  refine Bod.bip 40 (by decide) dc_346_175 ?_
  refine Bod.ildnG dc_346_177 (by repeat (first | exact q3 | exact sm_get_p1 | exact sm_get_p2e | refine sm_get_p1m (by decide) (by decide) ?_ | refine sm_get_p1n (by decide) rfl ?_ | refine sm_get_p2n (by decide) (by decide) rfl ?_)) ?_
  refine Bod.virt (r := []) dc_346_178 kr_346_216 ⟨Or.inl rfl, ow_302, cl_14⟩ (by rw [np_302]; rfl) (by rw [np_302]; rfl) (ob_of (mk_61 _)) (Nat.le_of_ble_eq_true rfl) (c3  ) ?_
  show Bod _ _ _ _ [] _ _ _
  refine Bod.aldnG dc_346_181 (by repeat (first | exact q0 | exact sm_get_p1 | exact sm_get_p2e | refine sm_get_p1m (by decide) (by decide) ?_ | refine sm_get_p1n (by decide) rfl ?_ | refine sm_get_p2n (by decide) (by decide) rfl ?_)) ?_
  refine Bod.get dc_346_182 fr_346_206 (mk_61 _) rfl ?_
  refine Bod.eqV (.ref m) (by first | exact hv1 | (simp only [rIV, rJV, rAV, rLV, rQV, rV, reduceIte, Nat.reduceEqDiff]; exact hv1)) ?_
  refine Bod.ildG dc_346_185 (by repeat (first | exact q4 | exact sm_get_p1 | exact sm_get_p2e | refine sm_get_p1m (by decide) (by decide) ?_ | refine sm_get_p1n (by decide) rfl ?_ | refine sm_get_p2n (by decide) (by decide) rfl ?_)) ?_
  refine Bod.ifT dc_346_187 rfl (by decide) ?_
  refine Bod.ic 0 (by decide) dc_346_194 ?_
  refine Bod.virt (r := []) dc_346_195 kr_346_210 ⟨Or.inl rfl, ow_303, cl_12⟩ (by rw [np_303]; rfl) (by rw [np_303]; rfl) (ob_of (mk_code hm (by first | exact hz2 | (simp only [rIS, rJS, rAS, rLS, rVS, rQS, rS_hold]; exact hz2)))) (Nat.le_of_ble_eq_true rfl) (c4  ) ?_
  show Bod _ _ _ _ [] _ _ _
  refine Bod.aldnG dc_346_198 (by repeat (first | exact q0 | exact sm_get_p1 | exact sm_get_p2e | refine sm_get_p1m (by decide) (by decide) ?_ | refine sm_get_p1n (by decide) rfl ?_ | refine sm_get_p2n (by decide) (by decide) rfl ?_)) ?_
  refine Bod.get dc_346_199 fr_346_206 (mk_61 _) rfl ?_
  refine Bod.eqV (.ref m) (by first | exact hv3 | (simp only [rIV, rJV, rAV, rLV, rQV, rV, reduceIte, Nat.reduceEqDiff]; exact hv3)) ?_
  refine Bod.bip 40 (by decide) dc_346_202 ?_
  refine Bod.aldnG dc_346_204 (by repeat (first | exact q0 | exact sm_get_p1 | exact sm_get_p2e | refine sm_get_p1m (by decide) (by decide) ?_ | refine sm_get_p1n (by decide) rfl ?_ | refine sm_get_p2n (by decide) (by decide) rfl ?_)) ?_
  refine Bod.get dc_346_205 fr_346_257 (mk_61 _) rfl ?_
  refine Bod.eqI (nI na1) (by first | (simp (disch := omega) only [rI, rIe, rA, rIA, rLA, rJA, rVI, rQI, rVA, rQA, upd_at,  rAI, rLI, rJI, nI_add, pk_sub, kc_0, kc_1, kc_2, kc_3, kc_4, kc_5, reduceIte, Nat.reduceEqDiff, Nat.add_zero, rI_hold, rI_hold, rL_hold, hna, hna1]; done) | (simp (disch := omega) only [rI, rIe, rA, rIA, rLA, rJA, rVI, rQI, rVA, rQA, upd_at,  rAI, rLI, rJI, nI_add, pk_sub, kc_0, kc_1, kc_2, kc_3, kc_4, kc_5, reduceIte, Nat.reduceEqDiff, Nat.add_zero, rI_hold, rI_hold, rL_hold, hna, hna1]; exact congrArg nI (by omega))) ?_
  refine Bod.aldnG dc_346_208 (by repeat (first | exact q0 | exact sm_get_p1 | exact sm_get_p2e | refine sm_get_p1m (by decide) (by decide) ?_ | refine sm_get_p1n (by decide) rfl ?_ | refine sm_get_p2n (by decide) (by decide) rfl ?_)) ?_
  refine Bod.get dc_346_209 fr_346_260 (mk_61 _) rfl ?_
  refine Bod.eqI (nI af) (by first | (simp (disch := omega) only [rI, rIe, rA, rIA, rLA, rJA, rVI, rQI, rVA, rQA, upd_at,  rAI, rLI, rJI, nI_add, pk_sub, kc_0, kc_1, kc_2, kc_3, kc_4, kc_5, reduceIte, Nat.reduceEqDiff, Nat.add_zero, rI_hold, rI_hold, rL_hold, hna, hna1, haf]; done) | (simp (disch := omega) only [rI, rIe, rA, rIA, rLA, rJA, rVI, rQI, rVA, rQA, upd_at,  rAI, rLI, rJI, nI_add, pk_sub, kc_0, kc_1, kc_2, kc_3, kc_4, kc_5, reduceIte, Nat.reduceEqDiff, Nat.add_zero, rI_hold, rI_hold, rL_hold, hna, hna1, haf]; exact congrArg nI (by omega))) ?_
  refine Bod.subN (na1 - af) (by omega) (by omega) dc_346_212 ?_
  refine Bod.stat (r := [_]) dc_346_213 kr_346_382 (Or.inl rfl) (by rw [np_187]; rfl) (by rw [np_187]; rfl) (by rw [np_187]; exact Nat.le_of_ble_eq_true rfl) (Nat.le_of_ble_eq_true rfl) (c5  ) ?_
  show Bod _ _ _ _ [_, _] _ _ _
  refine Bod.virt (r := []) dc_346_216 kr_346_210 ⟨Or.inl rfl, ow_303, cl_12⟩ (by rw [np_303]; rfl) (by rw [np_303]; rfl) (ob_of (mk_code hm (by first | exact hz4 | (simp only [rIS, rJS, rAS, rLS, rVS, rQS, rS_hold]; exact hz4)))) (Nat.le_of_ble_eq_true rfl) (c6  ) ?_
  show Bod _ _ _ _ [] _ _ _
  refine Bod.aldnG dc_346_219 (by repeat (first | exact q0 | exact sm_get_p1 | exact sm_get_p2e | refine sm_get_p1m (by decide) (by decide) ?_ | refine sm_get_p1n (by decide) rfl ?_ | refine sm_get_p2n (by decide) (by decide) rfl ?_)) ?_
  refine Bod.get dc_346_220 fr_346_260 (mk_61 _) rfl ?_
  refine Bod.eqI (nI af1) (by first | (simp (disch := omega) only [rI, rIe, rA, rIA, rLA, rJA, rVI, rQI, rVA, rQA, upd_at,  rAI, rLI, rJI, nI_add, pk_sub, kc_0, kc_1, kc_2, kc_3, kc_4, kc_5, reduceIte, Nat.reduceEqDiff, Nat.add_zero, rI_hold, rI_hold, rL_hold, hna, hna1, haf, haf1]; done) | (simp (disch := omega) only [rI, rIe, rA, rIA, rLA, rJA, rVI, rQI, rVA, rQA, upd_at,  rAI, rLI, rJI, nI_add, pk_sub, kc_0, kc_1, kc_2, kc_3, kc_4, kc_5, reduceIte, Nat.reduceEqDiff, Nat.add_zero, rI_hold, rI_hold, rL_hold, hna, hna1, haf, haf1]; exact congrArg nI (by omega))) ?_
  refine Bod.ist dc_346_223 (by rw [ml_346]; exact Nat.le_of_ble_eq_true rfl) ?_
  exact hB _ (by repeat (first | exact q0 | exact sm_get_p1 | exact sm_get_p2e | refine sm_get_p1m (by decide) (by decide) ?_ | refine sm_get_p1n (by decide) rfl ?_ | refine sm_get_p2n (by decide) (by decide) rfl ?_)) (by repeat (first | exact q3 | exact sm_get_p1 | exact sm_get_p2e | refine sm_get_p1m (by decide) (by decide) ?_ | refine sm_get_p1n (by decide) rfl ?_ | refine sm_get_p2n (by decide) (by decide) rfl ?_)) (by repeat (first | exact q5 | exact sm_get_p1 | exact sm_get_p2e | refine sm_get_p1m (by decide) (by decide) ?_ | refine sm_get_p1n (by decide) rfl ?_ | refine sm_get_p2n (by decide) (by decide) rfl ?_)) (by repeat (first | exact q0 | exact sm_get_p1 | exact sm_get_p2e | refine sm_get_p1m (by decide) (by decide) ?_ | refine sm_get_p1n (by decide) rfl ?_ | refine sm_get_p2n (by decide) (by decide) rfl ?_))
theorem zCn_2 {d : Nat} {S : cS} {lv : sm_L} {la : Nat} {ll : Nat} {lnm : Nat} {ly : Nat} {na : Nat} {S1 : cS} (q0 : sm_get lv 0 = some (.ref 61)) (q1 : sm_get lv 1 = some (.int (nI la))) (q2 : sm_get lv 2 = some (.int (nI ll))) (q3 : sm_get lv 3 = some (.int (nI lnm))) (q4 : sm_get lv 4 = some (.int (Int32.ofInt (-1)))) (q5 : sm_get lv 5 = some (.int (nI ly))) (mla : la < 2 ^ 20) (mll : ll < 2 ^ 20) (mlnm : lnm < 2 ^ 20) (mly : ly < 2 ^ 20) (hna : sI S 6139 = nI na) (mna : na < 6000) (c1 : Ans (d + 8) 334 [.ref 61, .int (nI la), .int (nI 1)] (wI 6140 (nI na) S) (some (.int (nI 0))) S1) : Bod (d + 8) 346 136 lv [] S (some (.int 0)) (S1) := by
  refine Bod.aldnG dc_346_136 (by repeat (first | exact q0 | exact sm_get_p1 | exact sm_get_p2e | refine sm_get_p1m (by decide) (by decide) ?_ | refine sm_get_p1n (by decide) rfl ?_ | refine sm_get_p2n (by decide) (by decide) rfl ?_)) ?_
  refine Bod.aldnG dc_346_137 (by repeat (first | exact q0 | exact sm_get_p1 | exact sm_get_p2e | refine sm_get_p1m (by decide) (by decide) ?_ | refine sm_get_p1n (by decide) rfl ?_ | refine sm_get_p2n (by decide) (by decide) rfl ?_)) ?_
  refine Bod.get dc_346_138 fr_346_257 (mk_61 _) rfl ?_
  refine Bod.eqI (nI na) (by first | assumption | rfl | exact congrArg nI (by omega) | (simp (disch := omega) only [rI, rIe, rA, rIA, rLA, rJA, rVI, rQI, rVA, rQA, upd_at,  rAI, rLI, rJI, nI_add, pk_sub, kc_0, kc_1, kc_2, kc_3, kc_4, kc_5, reduceIte, Nat.reduceEqDiff, Nat.add_zero, rI_hold, rI_hold, rL_hold, hna]; done)) ?_
  refine Bod.put dc_346_141 fr_346_260 (mk_61 _) (Nat.le_of_ble_eq_true rfl) pf_14_40 (st_6140 _ _) (mu_I _ _ _) ?_
  refine Bod.aldnG dc_346_144 (by repeat (first | exact q0 | exact sm_get_p1 | exact sm_get_p2e | refine sm_get_p1m (by decide) (by decide) ?_ | refine sm_get_p1n (by decide) rfl ?_ | refine sm_get_p2n (by decide) (by decide) rfl ?_)) ?_
  refine Bod.ildnG dc_346_145 (by repeat (first | exact q1 | exact sm_get_p1 | exact sm_get_p2e | refine sm_get_p1m (by decide) (by decide) ?_ | refine sm_get_p1n (by decide) rfl ?_ | refine sm_get_p2n (by decide) (by decide) rfl ?_)) ?_
  refine Bod.ic 1 (by decide) dc_346_146 ?_
  refine Bod.virt (r := []) dc_346_147 kr_346_309 ⟨Or.inl rfl, ow_334, cl_14⟩ (by rw [np_334]; rfl) (by rw [np_334]; rfl) (ob_of (mk_61 _)) (Nat.le_of_ble_eq_true rfl) (c1  ) ?_
  show Bod _ _ _ _ [_] _ _ _
  refine Bod.ifF dc_346_150 rfl (k1_ne_F (k_eq 0 0 rfl rfl (by omega))) ?_
  refine Bod.ic 0 (by decide) dc_346_153 ?_
  exact Bod.retZ dc_346_154 rt_346 (Or.inl rfl)
theorem zCL_1 {d : Nat} {S : cS} {lv : sm_L} {lnm : Nat} {ly : Nat} {li : Nat} {na : Nat} {af : Nat} {S1 : cS} (q0 : sm_get lv 0 = some (.ref 61)) (q3 : sm_get lv 3 = some (.int (nI lnm))) (q5 : sm_get lv 5 = some (.int (nI ly))) (q6 : sm_get lv 6 = some (.int (nI li))) (mlnm : lnm < 2 ^ 20) (mly : ly < 2 ^ 20) (mli : li < 2 ^ 20) (hna : sI S 6139 = nI na) (mna : na < 6000) (b1 : na ≤ li) (haf : sI S 6140 = nI af) (maf : af < 6000) (c1 : Ans (d + 8) 317 [.ref 61, .int (nI 6), .int (nI lnm)] (wI 6140 (nI ly) (wI 6139 (nI af) S)) none S1) : Bod (d + 8) 346 225 lv [] S (some (.int 1)) (S1) := by
  refine Bod.ildG dc_346_225 (by repeat (first | exact q6 | exact sm_get_p1 | exact sm_get_p2e | refine sm_get_p1m (by decide) (by decide) ?_ | refine sm_get_p1n (by decide) rfl ?_ | refine sm_get_p2n (by decide) (by decide) rfl ?_)) ?_
  refine Bod.aldnG dc_346_227 (by repeat (first | exact q0 | exact sm_get_p1 | exact sm_get_p2e | refine sm_get_p1m (by decide) (by decide) ?_ | refine sm_get_p1n (by decide) rfl ?_ | refine sm_get_p2n (by decide) (by decide) rfl ?_)) ?_
  refine Bod.get dc_346_228 fr_346_257 (mk_61 _) rfl ?_
  refine Bod.eqI (nI na) (by first | assumption | rfl | exact congrArg nI (by omega) | (simp (disch := omega) only [rI, rIe, rA, rIA, rLA, rJA, rVI, rQI, rVA, rQA, upd_at,  rAI, rLI, rJI, nI_add, pk_sub, kc_0, kc_1, kc_2, kc_3, kc_4, kc_5, reduceIte, Nat.reduceEqDiff, Nat.add_zero, rI_hold, rI_hold, rL_hold, hna]; done)) ?_
  refine Bod.icT dc_346_231 rfl (k2_ge_T li na rfl rfl (by omega) (by omega)) ?_
  refine Bod.aldnG dc_346_266 (by repeat (first | exact q0 | exact sm_get_p1 | exact sm_get_p2e | refine sm_get_p1m (by decide) (by decide) ?_ | refine sm_get_p1n (by decide) rfl ?_ | refine sm_get_p2n (by decide) (by decide) rfl ?_)) ?_
  refine Bod.aldnG dc_346_267 (by repeat (first | exact q0 | exact sm_get_p1 | exact sm_get_p2e | refine sm_get_p1m (by decide) (by decide) ?_ | refine sm_get_p1n (by decide) rfl ?_ | refine sm_get_p2n (by decide) (by decide) rfl ?_)) ?_
  refine Bod.get dc_346_268 fr_346_260 (mk_61 _) rfl ?_
  refine Bod.eqI (nI af) (by first | assumption | rfl | exact congrArg nI (by omega) | (simp (disch := omega) only [rI, rIe, rA, rIA, rLA, rJA, rVI, rQI, rVA, rQA, upd_at,  rAI, rLI, rJI, nI_add, pk_sub, kc_0, kc_1, kc_2, kc_3, kc_4, kc_5, reduceIte, Nat.reduceEqDiff, Nat.add_zero, rI_hold, rI_hold, rL_hold, hna, haf]; done)) ?_
  refine Bod.put dc_346_271 fr_346_257 (mk_61 _) (Nat.le_of_ble_eq_true rfl) pf_14_39 (st_6139 _ _) (mu_I _ _ _) ?_
  refine Bod.aldnG dc_346_274 (by repeat (first | exact q0 | exact sm_get_p1 | exact sm_get_p2e | refine sm_get_p1m (by decide) (by decide) ?_ | refine sm_get_p1n (by decide) rfl ?_ | refine sm_get_p2n (by decide) (by decide) rfl ?_)) ?_
  refine Bod.ildG dc_346_275 (by repeat (first | exact q5 | exact sm_get_p1 | exact sm_get_p2e | refine sm_get_p1m (by decide) (by decide) ?_ | refine sm_get_p1n (by decide) rfl ?_ | refine sm_get_p2n (by decide) (by decide) rfl ?_)) ?_
  refine Bod.put dc_346_277 fr_346_260 (mk_61 _) (Nat.le_of_ble_eq_true rfl) pf_14_40 (st_6140 _ _) (mu_I _ _ _) ?_
  refine Bod.aldnG dc_346_280 (by repeat (first | exact q0 | exact sm_get_p1 | exact sm_get_p2e | refine sm_get_p1m (by decide) (by decide) ?_ | refine sm_get_p1n (by decide) rfl ?_ | refine sm_get_p2n (by decide) (by decide) rfl ?_)) ?_
  refine Bod.bip 6 (by decide) dc_346_281 ?_
  refine Bod.ildnG dc_346_283 (by repeat (first | exact q3 | exact sm_get_p1 | exact sm_get_p2e | refine sm_get_p1m (by decide) (by decide) ?_ | refine sm_get_p1n (by decide) rfl ?_ | refine sm_get_p2n (by decide) (by decide) rfl ?_)) ?_
  refine Bod.virt (r := []) dc_346_284 kr_346_341 ⟨Or.inl rfl, ow_317, cl_14⟩ (by rw [np_317]; rfl) (by rw [np_317]; rfl) (ob_of (mk_61 _)) (Nat.le_of_ble_eq_true rfl) (c1  ) ?_
  show Bod _ _ _ _ [] _ _ _
  refine Bod.ic 1 (by decide) dc_346_287 ?_
  exact Bod.retZ dc_346_288 rt_346 (Or.inr rfl)
theorem zCL_2 {d : Nat} {S : cS} {lv : sm_L} {lnm : Nat} {ly : Nat} {li : Nat} {na : Nat} {af : Nat} {S1 : cS} (q0 : sm_get lv 0 = some (.ref 61)) (q3 : sm_get lv 3 = some (.int (nI lnm))) (q5 : sm_get lv 5 = some (.int (nI ly))) (q6 : sm_get lv 6 = some (.int (nI li))) (mlnm : lnm < 2 ^ 20) (mly : ly < 2 ^ 20) (mli : li < 2 ^ 20) (hna : sI S 6139 = nI na) (mna : na < 6000) (b1 : li < na) (haf : sI S 6140 = nI af) (maf : af < 6000) (b2 : (af + 40) ≤ li) (c1 : Ans (d + 8) 317 [.ref 61, .int (nI 6), .int (nI lnm)] (wI 6140 (nI ly) (wI 6139 (nI af) S)) none S1) : Bod (d + 8) 346 225 lv [] S (some (.int 1)) (S1) := by
  refine Bod.ildG dc_346_225 (by repeat (first | exact q6 | exact sm_get_p1 | exact sm_get_p2e | refine sm_get_p1m (by decide) (by decide) ?_ | refine sm_get_p1n (by decide) rfl ?_ | refine sm_get_p2n (by decide) (by decide) rfl ?_)) ?_
  refine Bod.aldnG dc_346_227 (by repeat (first | exact q0 | exact sm_get_p1 | exact sm_get_p2e | refine sm_get_p1m (by decide) (by decide) ?_ | refine sm_get_p1n (by decide) rfl ?_ | refine sm_get_p2n (by decide) (by decide) rfl ?_)) ?_
  refine Bod.get dc_346_228 fr_346_257 (mk_61 _) rfl ?_
  refine Bod.eqI (nI na) (by first | assumption | rfl | exact congrArg nI (by omega) | (simp (disch := omega) only [rI, rIe, rA, rIA, rLA, rJA, rVI, rQI, rVA, rQA, upd_at,  rAI, rLI, rJI, nI_add, pk_sub, kc_0, kc_1, kc_2, kc_3, kc_4, kc_5, reduceIte, Nat.reduceEqDiff, Nat.add_zero, rI_hold, rI_hold, rL_hold, hna]; done)) ?_
  refine Bod.icF dc_346_231 rfl (k2_ge_F li na rfl rfl (by omega) (by omega)) ?_
  refine Bod.ildG dc_346_234 (by repeat (first | exact q6 | exact sm_get_p1 | exact sm_get_p2e | refine sm_get_p1m (by decide) (by decide) ?_ | refine sm_get_p1n (by decide) rfl ?_ | refine sm_get_p2n (by decide) (by decide) rfl ?_)) ?_
  refine Bod.aldnG dc_346_236 (by repeat (first | exact q0 | exact sm_get_p1 | exact sm_get_p2e | refine sm_get_p1m (by decide) (by decide) ?_ | refine sm_get_p1n (by decide) rfl ?_ | refine sm_get_p2n (by decide) (by decide) rfl ?_)) ?_
  refine Bod.get dc_346_237 fr_346_260 (mk_61 _) rfl ?_
  refine Bod.eqI (nI af) (by first | assumption | rfl | exact congrArg nI (by omega) | (simp (disch := omega) only [rI, rIe, rA, rIA, rLA, rJA, rVI, rQI, rVA, rQA, upd_at,  rAI, rLI, rJI, nI_add, pk_sub, kc_0, kc_1, kc_2, kc_3, kc_4, kc_5, reduceIte, Nat.reduceEqDiff, Nat.add_zero, rI_hold, rI_hold, rL_hold, hna, haf]; done)) ?_
  refine Bod.bip 40 (by decide) dc_346_240 ?_
  refine Bod.addN (af + 40) (by omega) dc_346_242 ?_
  refine Bod.icT dc_346_243 rfl (k2_ge_T li (af + 40) rfl rfl (by omega) (by omega)) ?_
  refine Bod.aldnG dc_346_266 (by repeat (first | exact q0 | exact sm_get_p1 | exact sm_get_p2e | refine sm_get_p1m (by decide) (by decide) ?_ | refine sm_get_p1n (by decide) rfl ?_ | refine sm_get_p2n (by decide) (by decide) rfl ?_)) ?_
  refine Bod.aldnG dc_346_267 (by repeat (first | exact q0 | exact sm_get_p1 | exact sm_get_p2e | refine sm_get_p1m (by decide) (by decide) ?_ | refine sm_get_p1n (by decide) rfl ?_ | refine sm_get_p2n (by decide) (by decide) rfl ?_)) ?_
  refine Bod.get dc_346_268 fr_346_260 (mk_61 _) rfl ?_
  refine Bod.eqI (nI af) (by first | assumption | rfl | exact congrArg nI (by omega) | (simp (disch := omega) only [rI, rIe, rA, rIA, rLA, rJA, rVI, rQI, rVA, rQA, upd_at,  rAI, rLI, rJI, nI_add, pk_sub, kc_0, kc_1, kc_2, kc_3, kc_4, kc_5, reduceIte, Nat.reduceEqDiff, Nat.add_zero, rI_hold, rI_hold, rL_hold, hna, haf]; done)) ?_
  refine Bod.put dc_346_271 fr_346_257 (mk_61 _) (Nat.le_of_ble_eq_true rfl) pf_14_39 (st_6139 _ _) (mu_I _ _ _) ?_
  refine Bod.aldnG dc_346_274 (by repeat (first | exact q0 | exact sm_get_p1 | exact sm_get_p2e | refine sm_get_p1m (by decide) (by decide) ?_ | refine sm_get_p1n (by decide) rfl ?_ | refine sm_get_p2n (by decide) (by decide) rfl ?_)) ?_
  refine Bod.ildG dc_346_275 (by repeat (first | exact q5 | exact sm_get_p1 | exact sm_get_p2e | refine sm_get_p1m (by decide) (by decide) ?_ | refine sm_get_p1n (by decide) rfl ?_ | refine sm_get_p2n (by decide) (by decide) rfl ?_)) ?_
  refine Bod.put dc_346_277 fr_346_260 (mk_61 _) (Nat.le_of_ble_eq_true rfl) pf_14_40 (st_6140 _ _) (mu_I _ _ _) ?_
  refine Bod.aldnG dc_346_280 (by repeat (first | exact q0 | exact sm_get_p1 | exact sm_get_p2e | refine sm_get_p1m (by decide) (by decide) ?_ | refine sm_get_p1n (by decide) rfl ?_ | refine sm_get_p2n (by decide) (by decide) rfl ?_)) ?_
  refine Bod.bip 6 (by decide) dc_346_281 ?_
  refine Bod.ildnG dc_346_283 (by repeat (first | exact q3 | exact sm_get_p1 | exact sm_get_p2e | refine sm_get_p1m (by decide) (by decide) ?_ | refine sm_get_p1n (by decide) rfl ?_ | refine sm_get_p2n (by decide) (by decide) rfl ?_)) ?_
  refine Bod.virt (r := []) dc_346_284 kr_346_341 ⟨Or.inl rfl, ow_317, cl_14⟩ (by rw [np_317]; rfl) (by rw [np_317]; rfl) (ob_of (mk_61 _)) (Nat.le_of_ble_eq_true rfl) (c1  ) ?_
  show Bod _ _ _ _ [] _ _ _
  refine Bod.ic 1 (by decide) dc_346_287 ?_
  exact Bod.retZ dc_346_288 rt_346 (Or.inr rfl)
theorem zCL_3 {d : Nat} {S Sf : cS} {v : Option Value} {lv : sm_L} {lnm : Nat} {ly : Nat} {li : Nat} {na : Nat} {af : Nat} {m : Nat} {u : Nat} {e84 : Nat} {S1 : cS} (q0 : sm_get lv 0 = some (.ref 61)) (q3 : sm_get lv 3 = some (.int (nI lnm))) (q5 : sm_get lv 5 = some (.int (nI ly))) (q6 : sm_get lv 6 = some (.int (nI li))) (mlnm : lnm < 2 ^ 20) (mly : ly < 2 ^ 20) (mli : li < 2 ^ 20) (hna : sI S 6139 = nI na) (mna : na < 6000) (b1 : li < na) (haf : sI S 6140 = nI af) (maf : af < 6000) (b2 : li < (af + 40)) (hm : 108 ≤ m) (hv1 : sV S 6114 = .ref m) (b3 : li < 6000) (he84 : sA S 84 li = nI e84) (me84 : e84 < 2 ^ 20) (c1 : Ans (d + 8) 303 [.ref m, .int (nI e84)] S none S1) (hz2 : (sS S)[m - 108]? = some (12, u)) (hB : ∀ lv1 : sm_L, sm_get lv1 0 = some (.ref 61) → sm_get lv1 3 = some (.int (nI lnm)) → sm_get lv1 5 = some (.int (nI ly)) → sm_get lv1 6 = some (.int (nI (li + 1))) → Bod (d + 8) 346 225 lv1 [] (S1) v Sf) : Bod (d + 8) 346 225 lv [] S v Sf := by
  refine Bod.ildG dc_346_225 (by repeat (first | exact q6 | exact sm_get_p1 | exact sm_get_p2e | refine sm_get_p1m (by decide) (by decide) ?_ | refine sm_get_p1n (by decide) rfl ?_ | refine sm_get_p2n (by decide) (by decide) rfl ?_)) ?_
  refine Bod.aldnG dc_346_227 (by repeat (first | exact q0 | exact sm_get_p1 | exact sm_get_p2e | refine sm_get_p1m (by decide) (by decide) ?_ | refine sm_get_p1n (by decide) rfl ?_ | refine sm_get_p2n (by decide) (by decide) rfl ?_)) ?_
  refine Bod.get dc_346_228 fr_346_257 (mk_61 _) rfl ?_
  refine Bod.eqI (nI na) (by first | assumption | rfl | exact congrArg nI (by omega) | (simp (disch := omega) only [rI, rIe, rA, rIA, rLA, rJA, rVI, rQI, rVA, rQA, upd_at,  rAI, rLI, rJI, nI_add, pk_sub, kc_0, kc_1, kc_2, kc_3, kc_4, kc_5, reduceIte, Nat.reduceEqDiff, Nat.add_zero, rI_hold, rI_hold, rL_hold, hna]; done)) ?_
  refine Bod.icF dc_346_231 rfl (k2_ge_F li na rfl rfl (by omega) (by omega)) ?_
  refine Bod.ildG dc_346_234 (by repeat (first | exact q6 | exact sm_get_p1 | exact sm_get_p2e | refine sm_get_p1m (by decide) (by decide) ?_ | refine sm_get_p1n (by decide) rfl ?_ | refine sm_get_p2n (by decide) (by decide) rfl ?_)) ?_
  refine Bod.aldnG dc_346_236 (by repeat (first | exact q0 | exact sm_get_p1 | exact sm_get_p2e | refine sm_get_p1m (by decide) (by decide) ?_ | refine sm_get_p1n (by decide) rfl ?_ | refine sm_get_p2n (by decide) (by decide) rfl ?_)) ?_
  refine Bod.get dc_346_237 fr_346_260 (mk_61 _) rfl ?_
  refine Bod.eqI (nI af) (by first | assumption | rfl | exact congrArg nI (by omega) | (simp (disch := omega) only [rI, rIe, rA, rIA, rLA, rJA, rVI, rQI, rVA, rQA, upd_at,  rAI, rLI, rJI, nI_add, pk_sub, kc_0, kc_1, kc_2, kc_3, kc_4, kc_5, reduceIte, Nat.reduceEqDiff, Nat.add_zero, rI_hold, rI_hold, rL_hold, hna, haf]; done)) ?_
  refine Bod.bip 40 (by decide) dc_346_240 ?_
  refine Bod.addN (af + 40) (by omega) dc_346_242 ?_
  refine Bod.icF dc_346_243 rfl (k2_ge_F li (af + 40) rfl rfl (by omega) (by omega)) ?_
  refine Bod.aldnG dc_346_246 (by repeat (first | exact q0 | exact sm_get_p1 | exact sm_get_p2e | refine sm_get_p1m (by decide) (by decide) ?_ | refine sm_get_p1n (by decide) rfl ?_ | refine sm_get_p2n (by decide) (by decide) rfl ?_)) ?_
  refine Bod.get dc_346_247 fr_346_206 (mk_61 _) rfl ?_
  refine Bod.eqV (.ref m) (by first | exact hv1 | (simp only [rIV, rJV, rAV, rLV, rQV, rV, reduceIte, Nat.reduceEqDiff]; exact hv1)) ?_
  refine Bod.aldnG dc_346_250 (by repeat (first | exact q0 | exact sm_get_p1 | exact sm_get_p2e | refine sm_get_p1m (by decide) (by decide) ?_ | refine sm_get_p1n (by decide) rfl ?_ | refine sm_get_p2n (by decide) (by decide) rfl ?_)) ?_
  refine Bod.get dc_346_251 fr_346_385 (mk_61 _) rfl ?_
  refine Bod.ildG dc_346_254 (by repeat (first | exact q6 | exact sm_get_p1 | exact sm_get_p2e | refine sm_get_p1m (by decide) (by decide) ?_ | refine sm_get_p1n (by decide) rfl ?_ | refine sm_get_p2n (by decide) (by decide) rfl ?_)) ?_
  refine Bod.ialdN li rfl (by omega) (by omega) dc_346_256 (mk_84 _) ?_
  refine Bod.eqI (nI e84) (by first | assumption | rfl | exact congrArg nI (by omega) | (simp (disch := omega) only [rI, rIe, rA, rIA, rLA, rJA, rVI, rQI, rVA, rQA, upd_at,  rAI, rLI, rJI, nI_add, pk_sub, kc_0, kc_1, kc_2, kc_3, kc_4, kc_5, reduceIte, Nat.reduceEqDiff, Nat.add_zero, rI_hold, rI_hold, rL_hold, hna, haf, he84]; done)) ?_
  refine Bod.virt (r := []) dc_346_257 kr_346_210 ⟨Or.inl rfl, ow_303, cl_12⟩ (by rw [np_303]; rfl) (by rw [np_303]; rfl) (ob_of (mk_code hm (by first | exact hz2 | (simp only [rIS, rJS, rAS, rLS, rVS, rQS, rS_hold]; exact hz2)))) (Nat.le_of_ble_eq_true rfl) (c1  ) ?_
  show Bod _ _ _ _ [] _ _ _
  refine Bod.incN (li + 1) (by rw [kc_1, nI_add]) dc_346_260 (by rw [ml_346]; exact Nat.le_of_ble_eq_true rfl) (by repeat (first | exact q6 | exact sm_get_p1 | exact sm_get_p2e | refine sm_get_p1m (by decide) (by decide) ?_ | refine sm_get_p1n (by decide) rfl ?_ | refine sm_get_p2n (by decide) (by decide) rfl ?_)) ?_
  refine Bod.go dc_346_263 rfl ?_
  exact hB _ (by repeat (first | exact q0 | exact sm_get_p1 | exact sm_get_p2e | refine sm_get_p1m (by decide) (by decide) ?_ | refine sm_get_p1n (by decide) rfl ?_ | refine sm_get_p2n (by decide) (by decide) rfl ?_)) (by repeat (first | exact q3 | exact sm_get_p1 | exact sm_get_p2e | refine sm_get_p1m (by decide) (by decide) ?_ | refine sm_get_p1n (by decide) rfl ?_ | refine sm_get_p2n (by decide) (by decide) rfl ?_)) (by repeat (first | exact q5 | exact sm_get_p1 | exact sm_get_p2e | refine sm_get_p1m (by decide) (by decide) ?_ | refine sm_get_p1n (by decide) rfl ?_ | refine sm_get_p2n (by decide) (by decide) rfl ?_)) (by repeat (first | exact q0 | exact sm_get_p1 | exact sm_get_p2e | refine sm_get_p1m (by decide) (by decide) ?_ | refine sm_get_p1n (by decide) rfl ?_ | refine sm_get_p2n (by decide) (by decide) rfl ?_))
