/-! WAYS of the reference through a line: names, numbers, strings -/
theorem dc_293_0 : decode (sm_cc 293) 0 = .ok (.aload_n 0, 1) := by decide +kernel
theorem dc_293_1 : decode (sm_cc 293) 1 = .ok (.getfield 129, 3) := by decide +kernel
theorem fr_293_129 : sm_at mt_f (sm_ow 293) 129 = some (129, 14, 6, 0, 2079) := by decide +kernel
theorem dc_293_4 : decode (sm_cc 293) 4 = .ok (.aload_n 0, 1) := by decide +kernel
theorem dc_293_5 : decode (sm_cc 293) 5 = .ok (.getfield 132, 3) := by decide +kernel
theorem fr_293_132 : sm_at mt_f (sm_ow 293) 132 = some (132, 14, 12, 0, 2085) := by decide +kernel
theorem dc_293_8 : decode (sm_cc 293) 8 = .ok (.iload_n 1, 1) := by decide +kernel
theorem dc_293_9 : decode (sm_cc 293) 9 = .ok (.iastore, 1) := by decide +kernel
theorem dc_293_10 : decode (sm_cc 293) 10 = .ok (.aload_n 0, 1) := by decide +kernel
theorem dc_293_11 : decode (sm_cc 293) 11 = .ok (.getfield 135, 3) := by decide +kernel
theorem fr_293_135 : sm_at mt_f (sm_ow 293) 135 = some (135, 14, 7, 0, 2080) := by decide +kernel
theorem dc_293_14 : decode (sm_cc 293) 14 = .ok (.aload_n 0, 1) := by decide +kernel
theorem dc_293_15 : decode (sm_cc 293) 15 = .ok (.getfield 132, 3) := by decide +kernel
theorem dc_293_18 : decode (sm_cc 293) 18 = .ok (.iload_n 2, 1) := by decide +kernel
theorem dc_293_19 : decode (sm_cc 293) 19 = .ok (.iastore, 1) := by decide +kernel
theorem dc_293_20 : decode (sm_cc 293) 20 = .ok (.aload_n 0, 1) := by decide +kernel
theorem dc_293_21 : decode (sm_cc 293) 21 = .ok (.getfield 138, 3) := by decide +kernel
theorem fr_293_138 : sm_at mt_f (sm_ow 293) 138 = some (138, 14, 8, 0, 2081) := by decide +kernel
theorem dc_293_24 : decode (sm_cc 293) 24 = .ok (.aload_n 0, 1) := by decide +kernel
theorem dc_293_25 : decode (sm_cc 293) 25 = .ok (.getfield 132, 3) := by decide +kernel
theorem dc_293_28 : decode (sm_cc 293) 28 = .ok (.iload_n 3, 1) := by decide +kernel
theorem dc_293_29 : decode (sm_cc 293) 29 = .ok (.iastore, 1) := by decide +kernel
theorem dc_293_30 : decode (sm_cc 293) 30 = .ok (.aload_n 0, 1) := by decide +kernel
theorem dc_293_31 : decode (sm_cc 293) 31 = .ok (.getfield 141, 3) := by decide +kernel
theorem fr_293_141 : sm_at mt_f (sm_ow 293) 141 = some (141, 14, 9, 0, 2082) := by decide +kernel
theorem dc_293_34 : decode (sm_cc 293) 34 = .ok (.aload_n 0, 1) := by decide +kernel
theorem dc_293_35 : decode (sm_cc 293) 35 = .ok (.getfield 132, 3) := by decide +kernel
theorem dc_293_38 : decode (sm_cc 293) 38 = .ok (.iload 4, 2) := by decide +kernel
theorem dc_293_40 : decode (sm_cc 293) 40 = .ok (.iastore, 1) := by decide +kernel
theorem dc_293_41 : decode (sm_cc 293) 41 = .ok (.aload_n 0, 1) := by decide +kernel
theorem dc_293_42 : decode (sm_cc 293) 42 = .ok (.dup, 1) := by decide +kernel
theorem dc_293_43 : decode (sm_cc 293) 43 = .ok (.getfield 132, 3) := by decide +kernel
theorem dc_293_46 : decode (sm_cc 293) 46 = .ok (.iconst 1, 1) := by decide +kernel
theorem dc_293_47 : decode (sm_cc 293) 47 = .ok (.iadd, 1) := by decide +kernel
theorem dc_293_48 : decode (sm_cc 293) 48 = .ok (.putfield 132, 3) := by decide +kernel
theorem dc_293_51 : decode (sm_cc 293) 51 = .ok (.return_, 1) := by decide +kernel
theorem rt_293 : sm_rt 293 = none := by decide +kernel
theorem ml_293 : sm_ml 293 = 5 := by decide +kernel
theorem dc_288_3 : decode (sm_cc 288) 3 = .ok (.iload 6, 2) := by decide +kernel
theorem dc_288_5 : decode (sm_cc 288) 5 = .ok (.iload_n 3, 1) := by decide +kernel
theorem dc_288_6 : decode (sm_cc 288) 6 = .ok (.if_icmp .ge (727), 3) := by decide +kernel
theorem dc_288_733 : decode (sm_cc 288) 733 = .ok (.return_, 1) := by decide +kernel
theorem rt_288 : sm_rt 288 = none := by decide +kernel
theorem dc_288_9 : decode (sm_cc 288) 9 = .ok (.aload_n 1, 1) := by decide +kernel
theorem dc_288_10 : decode (sm_cc 288) 10 = .ok (.iload 6, 2) := by decide +kernel
theorem dc_288_12 : decode (sm_cc 288) 12 = .ok (.baload, 1) := by decide +kernel
theorem dc_288_13 : decode (sm_cc 288) 13 = .ok (.bipush (35), 2) := by decide +kernel
theorem dc_288_15 : decode (sm_cc 288) 15 = .ok (.if_icmp .eq (718), 3) := by decide +kernel
theorem dc_288_18 : decode (sm_cc 288) 18 = .ok (.aload_n 1, 1) := by decide +kernel
theorem dc_288_19 : decode (sm_cc 288) 19 = .ok (.iload 6, 2) := by decide +kernel
theorem dc_288_21 : decode (sm_cc 288) 21 = .ok (.baload, 1) := by decide +kernel
theorem dc_288_22 : decode (sm_cc 288) 22 = .ok (.istore 7, 2) := by decide +kernel
theorem ml_288 : sm_ml 288 = 12 := by decide +kernel
theorem dc_288_24 : decode (sm_cc 288) 24 = .ok (.iload 6, 2) := by decide +kernel
theorem dc_288_26 : decode (sm_cc 288) 26 = .ok (.istore 8, 2) := by decide +kernel
theorem dc_288_28 : decode (sm_cc 288) 28 = .ok (.iload 7, 2) := by decide +kernel
theorem dc_288_30 : decode (sm_cc 288) 30 = .ok (.bipush (32), 2) := by decide +kernel
theorem dc_288_32 : decode (sm_cc 288) 32 = .ok (.if_icmp .ne (9), 3) := by decide +kernel
theorem dc_288_35 : decode (sm_cc 288) 35 = .ok (.iinc 6 (1), 3) := by decide +kernel
theorem dc_288_38 : decode (sm_cc 288) 38 = .ok (.goto (-35), 3) := by decide +kernel
theorem dc_288_41 : decode (sm_cc 288) 41 = .ok (.iload 7, 2) := by decide +kernel
theorem dc_288_43 : decode (sm_cc 288) 43 = .ok (.invokestatic 155, 3) := by decide +kernel
theorem kr_288_155 : sm_at mt_k (sm_ow 288) 155 = some (155, 2, 289, 0, 2333) := by decide +kernel
theorem dc_288_46 : decode (sm_cc 288) 46 = .ok (.ifCond .eq (115), 3) := by decide +kernel
theorem dc_288_49 : decode (sm_cc 288) 49 = .ok (.iload 6, 2) := by decide +kernel
theorem dc_288_51 : decode (sm_cc 288) 51 = .ok (.iload_n 3, 1) := by decide +kernel
theorem dc_288_52 : decode (sm_cc 288) 52 = .ok (.if_icmp .ge (29), 3) := by decide +kernel
theorem dc_288_55 : decode (sm_cc 288) 55 = .ok (.aload_n 1, 1) := by decide +kernel
theorem dc_288_56 : decode (sm_cc 288) 56 = .ok (.iload 6, 2) := by decide +kernel
theorem dc_288_58 : decode (sm_cc 288) 58 = .ok (.baload, 1) := by decide +kernel
theorem dc_288_59 : decode (sm_cc 288) 59 = .ok (.invokestatic 155, 3) := by decide +kernel
theorem dc_288_62 : decode (sm_cc 288) 62 = .ok (.ifCond .ne (13), 3) := by decide +kernel
theorem dc_288_75 : decode (sm_cc 288) 75 = .ok (.iinc 6 (1), 3) := by decide +kernel
theorem dc_288_78 : decode (sm_cc 288) 78 = .ok (.goto (-29), 3) := by decide +kernel
theorem dc_288_65 : decode (sm_cc 288) 65 = .ok (.aload_n 1, 1) := by decide +kernel
theorem dc_288_66 : decode (sm_cc 288) 66 = .ok (.iload 6, 2) := by decide +kernel
theorem dc_288_68 : decode (sm_cc 288) 68 = .ok (.baload, 1) := by decide +kernel
theorem dc_288_69 : decode (sm_cc 288) 69 = .ok (.invokestatic 159, 3) := by decide +kernel
theorem kr_288_159 : sm_at mt_k (sm_ow 288) 159 = some (159, 2, 290, 0, 2336) := by decide +kernel
theorem dc_288_72 : decode (sm_cc 288) 72 = .ok (.ifCond .eq (9), 3) := by decide +kernel
theorem dc_288_81 : decode (sm_cc 288) 81 = .ok (.aload_n 1, 1) := by decide +kernel
theorem dc_288_82 : decode (sm_cc 288) 82 = .ok (.iload 8, 2) := by decide +kernel
theorem dc_288_84 : decode (sm_cc 288) 84 = .ok (.iload 6, 2) := by decide +kernel
theorem dc_288_86 : decode (sm_cc 288) 86 = .ok (.iload 8, 2) := by decide +kernel
theorem dc_288_88 : decode (sm_cc 288) 88 = .ok (.isub, 1) := by decide +kernel
theorem dc_288_89 : decode (sm_cc 288) 89 = .ok (.invokestatic 162, 3) := by decide +kernel
theorem kr_288_162 : sm_at mt_k (sm_ow 288) 162 = some (162, 2, 291, 0, 2339) := by decide +kernel
theorem dc_288_92 : decode (sm_cc 288) 92 = .ok (.istore 9, 2) := by decide +kernel
theorem dc_288_94 : decode (sm_cc 288) 94 = .ok (.iload 9, 2) := by decide +kernel
theorem dc_288_96 : decode (sm_cc 288) 96 = .ok (.ifCond .lt (17), 3) := by decide +kernel
theorem dc_288_99 : decode (sm_cc 288) 99 = .ok (.aload_n 0, 1) := by decide +kernel
theorem dc_288_100 : decode (sm_cc 288) 100 = .ok (.iconst 2, 1) := by decide +kernel
theorem dc_288_101 : decode (sm_cc 288) 101 = .ok (.iload 9, 2) := by decide +kernel
theorem dc_288_103 : decode (sm_cc 288) 103 = .ok (.iload 4, 2) := by decide +kernel
theorem dc_288_105 : decode (sm_cc 288) 105 = .ok (.iload 5, 2) := by decide +kernel
theorem dc_288_107 : decode (sm_cc 288) 107 = .ok (.invokevirtual 151, 3) := by decide +kernel
theorem ow_293 : 14 = sm_ow 293 := by decide +kernel
theorem kr_288_151 : sm_at mt_k (sm_ow 288) 151 = some (151, 0, 293, 0, 2371) := by decide +kernel
theorem np_293 : sm_np 293 = 4 := by decide +kernel
theorem dc_288_110 : decode (sm_cc 288) 110 = .ok (.goto (48), 3) := by decide +kernel
theorem dc_288_158 : decode (sm_cc 288) 158 = .ok (.goto (572), 3) := by decide +kernel
theorem dc_288_730 : decode (sm_cc 288) 730 = .ok (.goto (-727), 3) := by decide +kernel
theorem dc_288_113 : decode (sm_cc 288) 113 = .ok (.iload 6, 2) := by decide +kernel
theorem dc_288_115 : decode (sm_cc 288) 115 = .ok (.iload 8, 2) := by decide +kernel
theorem dc_288_117 : decode (sm_cc 288) 117 = .ok (.isub, 1) := by decide +kernel
theorem dc_288_118 : decode (sm_cc 288) 118 = .ok (.bipush (12), 2) := by decide +kernel
theorem dc_288_120 : decode (sm_cc 288) 120 = .ok (.if_icmp .le (17), 3) := by decide +kernel
theorem dc_288_123 : decode (sm_cc 288) 123 = .ok (.aload_n 0, 1) := by decide +kernel
theorem dc_288_124 : decode (sm_cc 288) 124 = .ok (.bipush (8), 2) := by decide +kernel
theorem dc_288_126 : decode (sm_cc 288) 126 = .ok (.iconst 0, 1) := by decide +kernel
theorem dc_288_127 : decode (sm_cc 288) 127 = .ok (.iload 4, 2) := by decide +kernel
theorem dc_288_129 : decode (sm_cc 288) 129 = .ok (.iload 5, 2) := by decide +kernel
theorem dc_288_131 : decode (sm_cc 288) 131 = .ok (.invokevirtual 151, 3) := by decide +kernel
theorem dc_288_134 : decode (sm_cc 288) 134 = .ok (.goto (24), 3) := by decide +kernel
theorem dc_288_137 : decode (sm_cc 288) 137 = .ok (.aload_n 0, 1) := by decide +kernel
theorem dc_288_138 : decode (sm_cc 288) 138 = .ok (.iconst 1, 1) := by decide +kernel
theorem dc_288_139 : decode (sm_cc 288) 139 = .ok (.aload_n 0, 1) := by decide +kernel
theorem dc_288_140 : decode (sm_cc 288) 140 = .ok (.aload_n 1, 1) := by decide +kernel
theorem dc_288_141 : decode (sm_cc 288) 141 = .ok (.iload 8, 2) := by decide +kernel
theorem dc_288_143 : decode (sm_cc 288) 143 = .ok (.iload 6, 2) := by decide +kernel
theorem dc_288_145 : decode (sm_cc 288) 145 = .ok (.iload 8, 2) := by decide +kernel
theorem dc_288_147 : decode (sm_cc 288) 147 = .ok (.isub, 1) := by decide +kernel
theorem dc_288_148 : decode (sm_cc 288) 148 = .ok (.invokevirtual 166, 3) := by decide +kernel
theorem kr_288_166 : sm_at mt_k (sm_ow 288) 166 = some (166, 0, 294, 0, 2375) := by decide +kernel
theorem dc_288_151 : decode (sm_cc 288) 151 = .ok (.iload 4, 2) := by decide +kernel
theorem dc_288_153 : decode (sm_cc 288) 153 = .ok (.iload 5, 2) := by decide +kernel
theorem dc_288_155 : decode (sm_cc 288) 155 = .ok (.invokevirtual 151, 3) := by decide +kernel
theorem dc_288_161 : decode (sm_cc 288) 161 = .ok (.iload 7, 2) := by decide +kernel
theorem dc_288_163 : decode (sm_cc 288) 163 = .ok (.invokestatic 159, 3) := by decide +kernel
theorem dc_288_166 : decode (sm_cc 288) 166 = .ok (.ifCond .eq (120), 3) := by decide +kernel
theorem dc_288_169 : decode (sm_cc 288) 169 = .ok (.lconst 0, 1) := by decide +kernel
theorem dc_288_170 : decode (sm_cc 288) 170 = .ok (.lstore 9, 2) := by decide +kernel
theorem dc_288_172 : decode (sm_cc 288) 172 = .ok (.iconst 1, 1) := by decide +kernel
theorem dc_288_173 : decode (sm_cc 288) 173 = .ok (.istore 11, 2) := by decide +kernel
theorem dc_288_175 : decode (sm_cc 288) 175 = .ok (.iload 6, 2) := by decide +kernel
theorem dc_288_177 : decode (sm_cc 288) 177 = .ok (.iload_n 3, 1) := by decide +kernel
theorem dc_288_178 : decode (sm_cc 288) 178 = .ok (.if_icmp .ge (74), 3) := by decide +kernel
theorem dc_288_181 : decode (sm_cc 288) 181 = .ok (.aload_n 1, 1) := by decide +kernel
theorem dc_288_182 : decode (sm_cc 288) 182 = .ok (.iload 6, 2) := by decide +kernel
theorem dc_288_184 : decode (sm_cc 288) 184 = .ok (.baload, 1) := by decide +kernel
theorem dc_288_185 : decode (sm_cc 288) 185 = .ok (.invokestatic 159, 3) := by decide +kernel
theorem dc_288_188 : decode (sm_cc 288) 188 = .ok (.ifCond .eq (64), 3) := by decide +kernel
theorem dc_288_191 : decode (sm_cc 288) 191 = .ok (.iload 11, 2) := by decide +kernel
theorem dc_288_193 : decode (sm_cc 288) 193 = .ok (.lload 9, 2) := by decide +kernel
theorem dc_288_195 : decode (sm_cc 288) 195 = .ok (.ldc2_w 169, 3) := by decide +kernel
theorem cj_288_169 : sm_at mt_cj (sm_ow 288) 169 = some (169, (922337203685477580), 2397) := by decide +kernel
theorem dc_288_198 : decode (sm_cc 288) 198 = .ok (.lcmp, 1) := by decide +kernel
theorem dc_288_199 : decode (sm_cc 288) 199 = .ok (.ifCond .lt (21), 3) := by decide +kernel
theorem dc_288_220 : decode (sm_cc 288) 220 = .ok (.iconst 1, 1) := by decide +kernel
theorem dc_288_221 : decode (sm_cc 288) 221 = .ok (.goto (4), 3) := by decide +kernel
theorem dc_288_225 : decode (sm_cc 288) 225 = .ok (.iand, 1) := by decide +kernel
theorem dc_288_226 : decode (sm_cc 288) 226 = .ok (.istore 11, 2) := by decide +kernel
theorem dc_288_228 : decode (sm_cc 288) 228 = .ok (.ldc2_w 171, 3) := by decide +kernel
theorem cj_288_171 : sm_at mt_cj (sm_ow 288) 171 = some (171, (10), 2398) := by decide +kernel
theorem dc_288_231 : decode (sm_cc 288) 231 = .ok (.lload 9, 2) := by decide +kernel
theorem dc_288_233 : decode (sm_cc 288) 233 = .ok (.lmul, 1) := by decide +kernel
theorem dc_288_234 : decode (sm_cc 288) 234 = .ok (.aload_n 1, 1) := by decide +kernel
theorem dc_288_235 : decode (sm_cc 288) 235 = .ok (.iload 6, 2) := by decide +kernel
theorem dc_288_237 : decode (sm_cc 288) 237 = .ok (.baload, 1) := by decide +kernel
theorem dc_288_238 : decode (sm_cc 288) 238 = .ok (.i2l, 1) := by decide +kernel
theorem dc_288_239 : decode (sm_cc 288) 239 = .ok (.ladd, 1) := by decide +kernel
theorem dc_288_240 : decode (sm_cc 288) 240 = .ok (.ldc2_w 173, 3) := by decide +kernel
theorem cj_288_173 : sm_at mt_cj (sm_ow 288) 173 = some (173, (48), 2399) := by decide +kernel
theorem dc_288_243 : decode (sm_cc 288) 243 = .ok (.lsub, 1) := by decide +kernel
theorem dc_288_244 : decode (sm_cc 288) 244 = .ok (.lstore 9, 2) := by decide +kernel
theorem dc_288_246 : decode (sm_cc 288) 246 = .ok (.iinc 6 (1), 3) := by decide +kernel
theorem dc_288_249 : decode (sm_cc 288) 249 = .ok (.goto (-74), 3) := by decide +kernel
theorem dc_288_202 : decode (sm_cc 288) 202 = .ok (.lload 9, 2) := by decide +kernel
theorem dc_288_204 : decode (sm_cc 288) 204 = .ok (.ldc2_w 169, 3) := by decide +kernel
theorem dc_288_207 : decode (sm_cc 288) 207 = .ok (.lcmp, 1) := by decide +kernel
theorem dc_288_208 : decode (sm_cc 288) 208 = .ok (.ifCond .ne (16), 3) := by decide +kernel
theorem dc_288_211 : decode (sm_cc 288) 211 = .ok (.aload_n 1, 1) := by decide +kernel
theorem dc_288_212 : decode (sm_cc 288) 212 = .ok (.iload 6, 2) := by decide +kernel
theorem dc_288_214 : decode (sm_cc 288) 214 = .ok (.baload, 1) := by decide +kernel
theorem dc_288_215 : decode (sm_cc 288) 215 = .ok (.bipush (55), 2) := by decide +kernel
theorem dc_288_217 : decode (sm_cc 288) 217 = .ok (.if_icmp .gt (7), 3) := by decide +kernel
theorem dc_288_224 : decode (sm_cc 288) 224 = .ok (.iconst 0, 1) := by decide +kernel
theorem dc_288_252 : decode (sm_cc 288) 252 = .ok (.aload_n 0, 1) := by decide +kernel
theorem dc_288_253 : decode (sm_cc 288) 253 = .ok (.getfield 175, 3) := by decide +kernel
theorem fr_288_175 : sm_at mt_f (sm_ow 288) 175 = some (175, 14, 10, 0, 2083) := by decide +kernel
theorem dc_288_256 : decode (sm_cc 288) 256 = .ok (.aload_n 0, 1) := by decide +kernel
theorem dc_288_257 : decode (sm_cc 288) 257 = .ok (.getfield 132, 3) := by decide +kernel
theorem fr_288_132 : sm_at mt_f (sm_ow 288) 132 = some (132, 14, 12, 0, 2085) := by decide +kernel
theorem dc_288_260 : decode (sm_cc 288) 260 = .ok (.lload 9, 2) := by decide +kernel
theorem dc_288_262 : decode (sm_cc 288) 262 = .ok (.lastore, 1) := by decide +kernel
theorem dc_288_263 : decode (sm_cc 288) 263 = .ok (.aload_n 0, 1) := by decide +kernel
theorem dc_288_264 : decode (sm_cc 288) 264 = .ok (.iload 11, 2) := by decide +kernel
theorem dc_288_266 : decode (sm_cc 288) 266 = .ok (.ifCond .eq (7), 3) := by decide +kernel
theorem dc_288_269 : decode (sm_cc 288) 269 = .ok (.iconst 3, 1) := by decide +kernel
theorem dc_288_270 : decode (sm_cc 288) 270 = .ok (.goto (5), 3) := by decide +kernel
theorem dc_288_275 : decode (sm_cc 288) 275 = .ok (.iconst 0, 1) := by decide +kernel
theorem dc_288_276 : decode (sm_cc 288) 276 = .ok (.iload 4, 2) := by decide +kernel
theorem dc_288_278 : decode (sm_cc 288) 278 = .ok (.iload 5, 2) := by decide +kernel
theorem dc_288_280 : decode (sm_cc 288) 280 = .ok (.invokevirtual 151, 3) := by decide +kernel
theorem dc_288_283 : decode (sm_cc 288) 283 = .ok (.goto (447), 3) := by decide +kernel
theorem dc_288_273 : decode (sm_cc 288) 273 = .ok (.bipush (8), 2) := by decide +kernel
theorem dc_288_286 : decode (sm_cc 288) 286 = .ok (.iload 7, 2) := by decide +kernel
theorem dc_288_288 : decode (sm_cc 288) 288 = .ok (.bipush (39), 2) := by decide +kernel
theorem dc_288_290 : decode (sm_cc 288) 290 = .ok (.if_icmp .ne (166), 3) := by decide +kernel
theorem dc_288_293 : decode (sm_cc 288) 293 = .ok (.iinc 6 (1), 3) := by decide +kernel
theorem dc_288_296 : decode (sm_cc 288) 296 = .ok (.iload 6, 2) := by decide +kernel
theorem dc_288_298 : decode (sm_cc 288) 298 = .ok (.iload_n 3, 1) := by decide +kernel
theorem dc_288_299 : decode (sm_cc 288) 299 = .ok (.if_icmp .ge (36), 3) := by decide +kernel
theorem dc_288_302 : decode (sm_cc 288) 302 = .ok (.aload_n 1, 1) := by decide +kernel
theorem dc_288_303 : decode (sm_cc 288) 303 = .ok (.iload 6, 2) := by decide +kernel
theorem dc_288_305 : decode (sm_cc 288) 305 = .ok (.baload, 1) := by decide +kernel
theorem dc_288_306 : decode (sm_cc 288) 306 = .ok (.bipush (39), 2) := by decide +kernel
theorem dc_288_308 : decode (sm_cc 288) 308 = .ok (.if_icmp .eq (27), 3) := by decide +kernel
theorem dc_288_311 : decode (sm_cc 288) 311 = .ok (.aload_n 1, 1) := by decide +kernel
theorem dc_288_312 : decode (sm_cc 288) 312 = .ok (.iload 6, 2) := by decide +kernel
theorem dc_288_314 : decode (sm_cc 288) 314 = .ok (.baload, 1) := by decide +kernel
theorem dc_288_315 : decode (sm_cc 288) 315 = .ok (.bipush (32), 2) := by decide +kernel
theorem dc_288_317 : decode (sm_cc 288) 317 = .ok (.if_icmp .lt (18), 3) := by decide +kernel
theorem dc_288_320 : decode (sm_cc 288) 320 = .ok (.aload_n 1, 1) := by decide +kernel
theorem dc_288_321 : decode (sm_cc 288) 321 = .ok (.iload 6, 2) := by decide +kernel
theorem dc_288_323 : decode (sm_cc 288) 323 = .ok (.baload, 1) := by decide +kernel
theorem dc_288_324 : decode (sm_cc 288) 324 = .ok (.bipush (126), 2) := by decide +kernel
theorem dc_288_326 : decode (sm_cc 288) 326 = .ok (.if_icmp .gt (9), 3) := by decide +kernel
theorem dc_288_329 : decode (sm_cc 288) 329 = .ok (.iinc 6 (1), 3) := by decide +kernel
theorem dc_288_332 : decode (sm_cc 288) 332 = .ok (.goto (-36), 3) := by decide +kernel
theorem dc_288_335 : decode (sm_cc 288) 335 = .ok (.iload 6, 2) := by decide +kernel
theorem dc_288_337 : decode (sm_cc 288) 337 = .ok (.iload_n 3, 1) := by decide +kernel
theorem dc_288_338 : decode (sm_cc 288) 338 = .ok (.if_icmp .ge (28), 3) := by decide +kernel
theorem dc_288_341 : decode (sm_cc 288) 341 = .ok (.aload_n 1, 1) := by decide +kernel
theorem dc_288_342 : decode (sm_cc 288) 342 = .ok (.iload 6, 2) := by decide +kernel
theorem dc_288_344 : decode (sm_cc 288) 344 = .ok (.baload, 1) := by decide +kernel
theorem dc_288_345 : decode (sm_cc 288) 345 = .ok (.bipush (39), 2) := by decide +kernel
theorem dc_288_347 : decode (sm_cc 288) 347 = .ok (.if_icmp .ne (19), 3) := by decide +kernel
theorem dc_288_350 : decode (sm_cc 288) 350 = .ok (.iload 6, 2) := by decide +kernel
theorem dc_288_352 : decode (sm_cc 288) 352 = .ok (.iload 8, 2) := by decide +kernel
theorem dc_288_354 : decode (sm_cc 288) 354 = .ok (.isub, 1) := by decide +kernel
theorem dc_288_355 : decode (sm_cc 288) 355 = .ok (.iconst 1, 1) := by decide +kernel
theorem dc_288_356 : decode (sm_cc 288) 356 = .ok (.isub, 1) := by decide +kernel
theorem dc_288_357 : decode (sm_cc 288) 357 = .ok (.bipush (15), 2) := by decide +kernel
theorem dc_288_359 : decode (sm_cc 288) 359 = .ok (.if_icmp .gt (7), 3) := by decide +kernel
theorem dc_288_362 : decode (sm_cc 288) 362 = .ok (.iconst 1, 1) := by decide +kernel
theorem dc_288_363 : decode (sm_cc 288) 363 = .ok (.goto (4), 3) := by decide +kernel
theorem dc_288_367 : decode (sm_cc 288) 367 = .ok (.istore 9, 2) := by decide +kernel
theorem dc_288_369 : decode (sm_cc 288) 369 = .ok (.iload 9, 2) := by decide +kernel
theorem dc_288_371 : decode (sm_cc 288) 371 = .ok (.ifCond .eq (53), 3) := by decide +kernel
theorem dc_288_374 : decode (sm_cc 288) 374 = .ok (.aload_n 0, 1) := by decide +kernel
theorem dc_288_375 : decode (sm_cc 288) 375 = .ok (.getfield 175, 3) := by decide +kernel
theorem dc_288_378 : decode (sm_cc 288) 378 = .ok (.aload_n 0, 1) := by decide +kernel
theorem dc_288_379 : decode (sm_cc 288) 379 = .ok (.getfield 132, 3) := by decide +kernel
theorem dc_288_382 : decode (sm_cc 288) 382 = .ok (.aload_n 1, 1) := by decide +kernel
theorem dc_288_383 : decode (sm_cc 288) 383 = .ok (.iload 8, 2) := by decide +kernel
theorem dc_288_385 : decode (sm_cc 288) 385 = .ok (.iconst 1, 1) := by decide +kernel
theorem dc_288_386 : decode (sm_cc 288) 386 = .ok (.iadd, 1) := by decide +kernel
theorem dc_288_387 : decode (sm_cc 288) 387 = .ok (.iload 6, 2) := by decide +kernel
theorem dc_288_389 : decode (sm_cc 288) 389 = .ok (.iload 8, 2) := by decide +kernel
theorem dc_288_391 : decode (sm_cc 288) 391 = .ok (.isub, 1) := by decide +kernel
theorem dc_288_392 : decode (sm_cc 288) 392 = .ok (.iconst 1, 1) := by decide +kernel
theorem dc_288_393 : decode (sm_cc 288) 393 = .ok (.isub, 1) := by decide +kernel
theorem dc_288_394 : decode (sm_cc 288) 394 = .ok (.iconst 0, 1) := by decide +kernel
theorem dc_288_395 : decode (sm_cc 288) 395 = .ok (.invokestatic 178, 3) := by decide +kernel
theorem kr_288_178 : sm_at mt_k (sm_ow 288) 178 = some (178, 2, 297, 0, 2400) := by decide +kernel
theorem np_297 : sm_np 297 = 4 := by decide +kernel
theorem dc_288_398 : decode (sm_cc 288) 398 = .ok (.lastore, 1) := by decide +kernel
theorem dc_288_399 : decode (sm_cc 288) 399 = .ok (.aload_n 0, 1) := by decide +kernel
theorem dc_288_400 : decode (sm_cc 288) 400 = .ok (.getfield 182, 3) := by decide +kernel
theorem fr_288_182 : sm_at mt_f (sm_ow 288) 182 = some (182, 14, 11, 0, 2084) := by decide +kernel
theorem dc_288_403 : decode (sm_cc 288) 403 = .ok (.aload_n 0, 1) := by decide +kernel
theorem dc_288_404 : decode (sm_cc 288) 404 = .ok (.getfield 132, 3) := by decide +kernel
theorem dc_288_407 : decode (sm_cc 288) 407 = .ok (.aload_n 1, 1) := by decide +kernel
theorem dc_288_408 : decode (sm_cc 288) 408 = .ok (.iload 8, 2) := by decide +kernel
theorem dc_288_410 : decode (sm_cc 288) 410 = .ok (.iconst 1, 1) := by decide +kernel
theorem dc_288_411 : decode (sm_cc 288) 411 = .ok (.iadd, 1) := by decide +kernel
theorem dc_288_412 : decode (sm_cc 288) 412 = .ok (.iload 6, 2) := by decide +kernel
theorem dc_288_414 : decode (sm_cc 288) 414 = .ok (.iload 8, 2) := by decide +kernel
theorem dc_288_416 : decode (sm_cc 288) 416 = .ok (.isub, 1) := by decide +kernel
theorem dc_288_417 : decode (sm_cc 288) 417 = .ok (.iconst 1, 1) := by decide +kernel
theorem dc_288_418 : decode (sm_cc 288) 418 = .ok (.isub, 1) := by decide +kernel
theorem dc_288_419 : decode (sm_cc 288) 419 = .ok (.iconst 1, 1) := by decide +kernel
theorem dc_288_420 : decode (sm_cc 288) 420 = .ok (.invokestatic 178, 3) := by decide +kernel
theorem dc_288_423 : decode (sm_cc 288) 423 = .ok (.lastore, 1) := by decide +kernel
theorem dc_288_424 : decode (sm_cc 288) 424 = .ok (.aload_n 0, 1) := by decide +kernel
theorem dc_288_425 : decode (sm_cc 288) 425 = .ok (.iload 9, 2) := by decide +kernel
theorem dc_288_427 : decode (sm_cc 288) 427 = .ok (.ifCond .eq (7), 3) := by decide +kernel
theorem dc_288_430 : decode (sm_cc 288) 430 = .ok (.iconst 4, 1) := by decide +kernel
theorem dc_288_431 : decode (sm_cc 288) 431 = .ok (.goto (5), 3) := by decide +kernel
theorem dc_288_436 : decode (sm_cc 288) 436 = .ok (.iconst 0, 1) := by decide +kernel
theorem dc_288_437 : decode (sm_cc 288) 437 = .ok (.iload 4, 2) := by decide +kernel
theorem dc_288_439 : decode (sm_cc 288) 439 = .ok (.iload 5, 2) := by decide +kernel
theorem dc_288_441 : decode (sm_cc 288) 441 = .ok (.invokevirtual 151, 3) := by decide +kernel
theorem dc_288_444 : decode (sm_cc 288) 444 = .ok (.iload 9, 2) := by decide +kernel
theorem dc_288_446 : decode (sm_cc 288) 446 = .ok (.ifCond .ne (4), 3) := by decide +kernel
theorem dc_288_450 : decode (sm_cc 288) 450 = .ok (.iinc 6 (1), 3) := by decide +kernel
theorem dc_288_453 : decode (sm_cc 288) 453 = .ok (.goto (277), 3) := by decide +kernel
theorem dc_288_366 : decode (sm_cc 288) 366 = .ok (.iconst 0, 1) := by decide +kernel
theorem dc_288_434 : decode (sm_cc 288) 434 = .ok (.bipush (8), 2) := by decide +kernel
theorem dc_288_449 : decode (sm_cc 288) 449 = .ok (.return_, 1) := by decide +kernel
theorem Bod.ildG {d j pc : Nat} {lv : sm_L} {st : List Value} {S Sf : cS} {v : Option Value} {q : Nat} {x : Int32} (hd : decode (sm_cc j) pc = .ok (.iload q, 2)) (hg : sm_get lv q = some (.int x)) (h : Bod d j (pc + 2) lv (.int x :: st) S v Sf) : Bod d j pc lv st S v Sf := Bod.of (fun _ _ => sx_go hd (sd_loc (by rcases st with _ | ⟨a, _ | ⟨b, st⟩⟩ <;> rfl) (by
  unfold sm_loc
  rcases st with _ | ⟨a, st⟩ <;> simp only [hg]))) h
theorem Bod.ildnG {d j pc : Nat} {lv : sm_L} {st : List Value} {S Sf : cS} {v : Option Value} {q : Fin 4} {x : Int32} (hd : decode (sm_cc j) pc = .ok (.iload_n q, 1)) (hg : sm_get lv q = some (.int x)) (h : Bod d j (pc + 1) lv (.int x :: st) S v Sf) : Bod d j pc lv st S v Sf := Bod.of (fun _ _ => sx_go hd (sd_loc (by rcases st with _ | ⟨a, _ | ⟨b, st⟩⟩ <;> rfl) (by
  unfold sm_loc
  rcases st with _ | ⟨a, st⟩ <;> simp only [hg]))) h
theorem Bod.lldG {d j pc : Nat} {lv : sm_L} {st : List Value} {S Sf : cS} {v : Option Value} {q : Nat} {x : Int64} (hd : decode (sm_cc j) pc = .ok (.lload q, 2)) (hg : sm_get lv q = some (.long x)) (h : Bod d j (pc + 2) lv (.long x :: st) S v Sf) : Bod d j pc lv st S v Sf := Bod.of (fun _ _ => sx_go hd (sd_loc (by rcases st with _ | ⟨a, _ | ⟨b, st⟩⟩ <;> rfl) (by
  unfold sm_loc
  rcases st with _ | ⟨a, st⟩ <;> simp only [hg]))) h
theorem Bod.aldnG {d j pc : Nat} {lv : sm_L} {st : List Value} {S Sf : cS} {v : Option Value} {q : Fin 4} {x : Nat} (hd : decode (sm_cc j) pc = .ok (.aload_n q, 1)) (hg : sm_get lv q = some (.ref x)) (h : Bod d j (pc + 1) lv (.ref x :: st) S v Sf) : Bod d j pc lv st S v Sf := Bod.of (fun _ _ => sx_go hd (sd_loc (by rcases st with _ | ⟨a, _ | ⟨b, st⟩⟩ <;> rfl) (by
  unfold sm_loc
  rcases st with _ | ⟨a, st⟩ <;> simp only [hg]))) h
theorem sm_get_p2e {lv : sm_L} {q : Nat} {v : Value} : sm_get (sm_p2 lv q v) q = some v := by
  unfold sm_get sm_p2
  rw [List.find?_cons]
  simp
theorem sm_get_p1m {lv : sm_L} {q p : Nat} {v w : Value} (h : p ≠ q) (hp : p + 1 ≠ q) : sm_get lv p = some w → sm_get (sm_p1 lv q v) p = some w := by
  unfold sm_get sm_p1
  intro h1
  have h2 : (q == p) = false := by
    rw [beq_eq_false_iff_ne]
    exact fun e => h e.symm
  rw [List.find?_cons]
  simp only [h2]
  induction lv with
  | nil => cases h1
  | cons e lv ih =>
    rw [List.find?_cons] at h1
    cases he : e.1 == p with
    | true =>
      rw [he] at h1
      have h3 : e.2 = w := Option.some.inj h1
      have h4 : (e.1 == q) = false := by
        rw [beq_eq_false_iff_ne, eq_of_beq he]
        exact h
      have h6 : (e.1 + 1 == q) = false := by
        rw [beq_eq_false_iff_ne, eq_of_beq he]
        exact hp
      have h5 : (!(e.1 == q) && !(e.1 + 1 == q && e.2.category == 2)) = true := by
        rw [h4, h6]
        rfl
      rw [List.filter_cons, if_pos h5, List.find?_cons, he]
      exact h1
    | false =>
      rw [he] at h1
      rw [List.filter_cons]
      split
      · rw [List.find?_cons, he]
        exact ih h1
      · exact ih h1
theorem sm_get_p2n {lv : sm_L} {q p : Nat} {v w : Value} (h : p ≠ q) (hp : p ≠ q + 1) (hw : w.category = 1) : sm_get lv p = some w → sm_get (sm_p2 lv q v) p = some w := by
  unfold sm_get sm_p2
  intro h1
  have h2 : (q == p) = false := by
    rw [beq_eq_false_iff_ne]
    exact fun e => h e.symm
  rw [List.find?_cons]
  simp only [h2]
  induction lv with
  | nil => cases h1
  | cons e lv ih =>
    rw [List.find?_cons] at h1
    cases he : e.1 == p with
    | true =>
      rw [he] at h1
      have h3 : e.2 = w := Option.some.inj h1
      have h4 : (e.1 == q) = false := by
        rw [beq_eq_false_iff_ne, eq_of_beq he]
        exact h
      have h6 : (e.1 == q + 1) = false := by
        rw [beq_eq_false_iff_ne, eq_of_beq he]
        exact hp
      have h5 : (!(e.1 == q) && (!(e.1 == q + 1) && !(e.1 + 1 == q && e.2.category == 2))) = true := by
        rw [h4, h6, h3, hw]
        simp
      rw [List.filter_cons, if_pos h5, List.find?_cons, he]
      exact h1
    | false =>
      rw [he] at h1
      rw [List.filter_cons]
      split
      · rw [List.find?_cons, he]
        exact ih h1
      · exact ih h1
theorem tok_ev {d : Nat} {S : cS} {t : Nat} {kd : Int32} {vl : Int32} {ln : Int32} {bl : Int32} (ht : sI S 6112 = nI t) (htM : t < 6002) : Ans (d + 1) 293 [.ref 61, .int kd, .int vl, .int ln, .int bl] S (none) (wI 6112 (nI (t + 1)) (wA 70 t bl (wA 69 t ln (wA 68 t vl (wA 67 t kd S))))) := by
  refine Ans.of (by rw [ml_293]; exact Nat.le_of_ble_eq_true rfl) ?_
  refine Bod.go dc_293_0 rfl ?_
  refine Bod.get dc_293_1 fr_293_129 (mk_61 _) rfl ?_
  refine Bod.go dc_293_4 rfl ?_
  refine Bod.get dc_293_5 fr_293_132 (mk_61 _) rfl ?_
  refine Bod.eqI (nI t) (by first | assumption | rfl | exact congrArg nI (by omega) | (simp (disch := omega) only [rI, rIe, rA, rIA, rLA, rJA, rVI, rQI, rVA, rQA, upd_at,  rAI, rLI, rJI, nI_add, pk_sub, kc_0, kc_1, kc_2, kc_3, kc_4, kc_5, reduceIte, Nat.reduceEqDiff, Nat.add_zero, rI_hold, rI_hold, rL_hold, ht]; done)) ?_
  refine Bod.go dc_293_8 rfl ?_
  refine Bod.iastN t rfl (by omega) (by omega) dc_293_9 (mk_67 _) (sa_67 _ _ _) (mu_A _ _ _ _) ?_
  refine Bod.go dc_293_10 rfl ?_
  refine Bod.get dc_293_11 fr_293_135 (mk_61 _) rfl ?_
  refine Bod.go dc_293_14 rfl ?_
  refine Bod.get dc_293_15 fr_293_132 (mk_61 _) rfl ?_
  refine Bod.eqI (nI t) (by first | (simp (disch := omega) only [rI, rIe, rA, rIA, rLA, rJA, rVI, rQI, rVA, rQA, upd_at,  rAI, rLI, rJI, nI_add, pk_sub, kc_0, kc_1, kc_2, kc_3, kc_4, kc_5, reduceIte, Nat.reduceEqDiff, Nat.add_zero, rI_hold, rI_hold, rL_hold, ht]; done) | (simp (disch := omega) only [rI, rIe, rA, rIA, rLA, rJA, rVI, rQI, rVA, rQA, upd_at,  rAI, rLI, rJI, nI_add, pk_sub, kc_0, kc_1, kc_2, kc_3, kc_4, kc_5, reduceIte, Nat.reduceEqDiff, Nat.add_zero, rI_hold, rI_hold, rL_hold, ht]; exact congrArg nI (by omega))) ?_
  refine Bod.go dc_293_18 rfl ?_
  refine Bod.iastN t rfl (by omega) (by omega) dc_293_19 (mk_68 _) (sa_68 _ _ _) (mu_A _ _ _ _) ?_
  refine Bod.go dc_293_20 rfl ?_
  refine Bod.get dc_293_21 fr_293_138 (mk_61 _) rfl ?_
  refine Bod.go dc_293_24 rfl ?_
  refine Bod.get dc_293_25 fr_293_132 (mk_61 _) rfl ?_
  refine Bod.eqI (nI t) (by first | (simp (disch := omega) only [rI, rIe, rA, rIA, rLA, rJA, rVI, rQI, rVA, rQA, upd_at,  rAI, rLI, rJI, nI_add, pk_sub, kc_0, kc_1, kc_2, kc_3, kc_4, kc_5, reduceIte, Nat.reduceEqDiff, Nat.add_zero, rI_hold, rI_hold, rL_hold, ht]; done) | (simp (disch := omega) only [rI, rIe, rA, rIA, rLA, rJA, rVI, rQI, rVA, rQA, upd_at,  rAI, rLI, rJI, nI_add, pk_sub, kc_0, kc_1, kc_2, kc_3, kc_4, kc_5, reduceIte, Nat.reduceEqDiff, Nat.add_zero, rI_hold, rI_hold, rL_hold, ht]; exact congrArg nI (by omega))) ?_
  refine Bod.go dc_293_28 rfl ?_
  refine Bod.iastN t rfl (by omega) (by omega) dc_293_29 (mk_69 _) (sa_69 _ _ _) (mu_A _ _ _ _) ?_
  refine Bod.go dc_293_30 rfl ?_
  refine Bod.get dc_293_31 fr_293_141 (mk_61 _) rfl ?_
  refine Bod.go dc_293_34 rfl ?_
  refine Bod.get dc_293_35 fr_293_132 (mk_61 _) rfl ?_
  refine Bod.eqI (nI t) (by first | (simp (disch := omega) only [rI, rIe, rA, rIA, rLA, rJA, rVI, rQI, rVA, rQA, upd_at,  rAI, rLI, rJI, nI_add, pk_sub, kc_0, kc_1, kc_2, kc_3, kc_4, kc_5, reduceIte, Nat.reduceEqDiff, Nat.add_zero, rI_hold, rI_hold, rL_hold, ht]; done) | (simp (disch := omega) only [rI, rIe, rA, rIA, rLA, rJA, rVI, rQI, rVA, rQA, upd_at,  rAI, rLI, rJI, nI_add, pk_sub, kc_0, kc_1, kc_2, kc_3, kc_4, kc_5, reduceIte, Nat.reduceEqDiff, Nat.add_zero, rI_hold, rI_hold, rL_hold, ht]; exact congrArg nI (by omega))) ?_
  refine Bod.go dc_293_38 rfl ?_
  refine Bod.iastN t rfl (by omega) (by omega) dc_293_40 (mk_70 _) (sa_70 _ _ _) (mu_A _ _ _ _) ?_
  refine Bod.go dc_293_41 rfl ?_
  refine Bod.go dc_293_42 rfl ?_
  refine Bod.get dc_293_43 fr_293_132 (mk_61 _) rfl ?_
  refine Bod.eqI (nI t) (by first | (simp (disch := omega) only [rI, rIe, rA, rIA, rLA, rJA, rVI, rQI, rVA, rQA, upd_at,  rAI, rLI, rJI, nI_add, pk_sub, kc_0, kc_1, kc_2, kc_3, kc_4, kc_5, reduceIte, Nat.reduceEqDiff, Nat.add_zero, rI_hold, rI_hold, rL_hold, ht]; done) | (simp (disch := omega) only [rI, rIe, rA, rIA, rLA, rJA, rVI, rQI, rVA, rQA, upd_at,  rAI, rLI, rJI, nI_add, pk_sub, kc_0, kc_1, kc_2, kc_3, kc_4, kc_5, reduceIte, Nat.reduceEqDiff, Nat.add_zero, rI_hold, rI_hold, rL_hold, ht]; exact congrArg nI (by omega))) ?_
  refine Bod.ic 1 (by decide) dc_293_46 ?_
  refine Bod.addN (t + 1) (by omega) dc_293_47 ?_
  refine Bod.put dc_293_48 fr_293_132 (mk_61 _) (Nat.le_of_ble_eq_true rfl) pf_14_12 (st_6112 _ _) (mu_I _ _ _) ?_
  exact Bod.retV dc_293_51 rt_293
theorem rl_end {d : Nat} {S : cS} {lv : sm_L} {e : Nat} {l : Nat} {bl : Nat} {p : Nat} (heM : e ≤ 3000) (hp : p ≤ e) (h0 : sm_get lv 0 = some (.ref 61)) (h1 : sm_get lv 1 = some (.ref 107)) (h3 : sm_get lv 3 = some (.int (nI e))) (h4 : sm_get lv 4 = some (.int (nI l))) (h5 : sm_get lv 5 = some (.int (nI bl))) (h6 : sm_get lv 6 = some (.int (nI p))) (hin : p = e) : Bod (d + 8) 288 3 lv [] S none (S) := by
  refine Bod.ildG dc_288_3 (by repeat (first | exact h6 | exact sm_get_p1 | exact sm_get_p2e | refine sm_get_p1m (by decide) (by decide) ?_ | refine sm_get_p1n (by decide) rfl ?_ | refine sm_get_p2n (by decide) (by decide) rfl ?_)) ?_
  refine Bod.ildnG dc_288_5 (by repeat (first | exact h3 | exact sm_get_p1 | exact sm_get_p2e | refine sm_get_p1m (by decide) (by decide) ?_ | refine sm_get_p1n (by decide) rfl ?_ | refine sm_get_p2n (by decide) (by decide) rfl ?_)) ?_
  refine Bod.icT dc_288_6 rfl (k2_ge_T p e rfl rfl (by omega) (by omega)) ?_
  exact Bod.retV dc_288_733 rt_288
theorem rl_hash {d : Nat} {S : cS} {lv : sm_L} {e : Nat} {l : Nat} {bl : Nat} {p : Nat} (heM : e ≤ 3000) (hp : p ≤ e) (h0 : sm_get lv 0 = some (.ref 61)) (h1 : sm_get lv 1 = some (.ref 107)) (h3 : sm_get lv 3 = some (.int (nI e))) (h4 : sm_get lv 4 = some (.int (nI l))) (h5 : sm_get lv 5 = some (.int (nI bl))) (h6 : sm_get lv 6 = some (.int (nI p))) (hin : p < e) (hx : sA S 107 p = nI 35) : Bod (d + 8) 288 3 lv [] S none (S) := by
  refine Bod.ildG dc_288_3 (by repeat (first | exact h6 | exact sm_get_p1 | exact sm_get_p2e | refine sm_get_p1m (by decide) (by decide) ?_ | refine sm_get_p1n (by decide) rfl ?_ | refine sm_get_p2n (by decide) (by decide) rfl ?_)) ?_
  refine Bod.ildnG dc_288_5 (by repeat (first | exact h3 | exact sm_get_p1 | exact sm_get_p2e | refine sm_get_p1m (by decide) (by decide) ?_ | refine sm_get_p1n (by decide) rfl ?_ | refine sm_get_p2n (by decide) (by decide) rfl ?_)) ?_
  refine Bod.icF dc_288_6 rfl (k2_ge_F p e rfl rfl (by omega) (by omega)) ?_
  refine Bod.aldnG dc_288_9 (by repeat (first | exact h1 | exact sm_get_p1 | exact sm_get_p2e | refine sm_get_p1m (by decide) (by decide) ?_ | refine sm_get_p1n (by decide) rfl ?_ | refine sm_get_p2n (by decide) (by decide) rfl ?_)) ?_
  refine Bod.ildG dc_288_10 (by repeat (first | exact h6 | exact sm_get_p1 | exact sm_get_p2e | refine sm_get_p1m (by decide) (by decide) ?_ | refine sm_get_p1n (by decide) rfl ?_ | refine sm_get_p2n (by decide) (by decide) rfl ?_)) ?_
  refine Bod.baldN p rfl (by omega) (by omega) dc_288_12 (mk_107 _) (Or.inl rfl) ?_
  refine Bod.eqI (nI 35) (by first | assumption | rfl | exact congrArg nI (by omega) | (simp (disch := omega) only [rI, rIe, rA, rIA, rLA, rJA, rVI, rQI, rVA, rQA, upd_at,  rAI, rLI, rJI, nI_add, pk_sub, kc_0, kc_1, kc_2, kc_3, kc_4, kc_5, reduceIte, Nat.reduceEqDiff, Nat.add_zero, rI_hold, rI_hold, rL_hold, hx]; done)) ?_
  refine Bod.bip 35 (by decide) dc_288_13 ?_
  refine Bod.icT dc_288_15 rfl (k2_eq_T (k_eq 35 35 rfl rfl (by omega))) ?_
  exact Bod.retV dc_288_733 rt_288
theorem rl_blank {d : Nat} {S Sf : cS} {lv : sm_L} {v : Option Value} {e : Nat} {l : Nat} {bl : Nat} {p : Nat} (heM : e ≤ 3000) (hp : p ≤ e) (h0 : sm_get lv 0 = some (.ref 61)) (h1 : sm_get lv 1 = some (.ref 107)) (h3 : sm_get lv 3 = some (.int (nI e))) (h4 : sm_get lv 4 = some (.int (nI l))) (h5 : sm_get lv 5 = some (.int (nI bl))) (h6 : sm_get lv 6 = some (.int (nI p))) (hin : p < e) (hx : sA S 107 p = nI 32) (hB : ∀ lv1 : sm_L, sm_get lv1 0 = some (.ref 61) → sm_get lv1 1 = some (.ref 107) → sm_get lv1 3 = some (.int (nI e)) → sm_get lv1 4 = some (.int (nI l)) → sm_get lv1 5 = some (.int (nI bl)) → sm_get lv1 6 = some (.int (nI (p + 1))) → Bod (d + 8) 288 3 lv1 [] (S) v Sf) : Bod (d + 8) 288 3 lv [] S v Sf := by
  refine Bod.ildG dc_288_3 (by repeat (first | exact h6 | exact sm_get_p1 | exact sm_get_p2e | refine sm_get_p1m (by decide) (by decide) ?_ | refine sm_get_p1n (by decide) rfl ?_ | refine sm_get_p2n (by decide) (by decide) rfl ?_)) ?_
  refine Bod.ildnG dc_288_5 (by repeat (first | exact h3 | exact sm_get_p1 | exact sm_get_p2e | refine sm_get_p1m (by decide) (by decide) ?_ | refine sm_get_p1n (by decide) rfl ?_ | refine sm_get_p2n (by decide) (by decide) rfl ?_)) ?_
  refine Bod.icF dc_288_6 rfl (k2_ge_F p e rfl rfl (by omega) (by omega)) ?_
  refine Bod.aldnG dc_288_9 (by repeat (first | exact h1 | exact sm_get_p1 | exact sm_get_p2e | refine sm_get_p1m (by decide) (by decide) ?_ | refine sm_get_p1n (by decide) rfl ?_ | refine sm_get_p2n (by decide) (by decide) rfl ?_)) ?_
  refine Bod.ildG dc_288_10 (by repeat (first | exact h6 | exact sm_get_p1 | exact sm_get_p2e | refine sm_get_p1m (by decide) (by decide) ?_ | refine sm_get_p1n (by decide) rfl ?_ | refine sm_get_p2n (by decide) (by decide) rfl ?_)) ?_
  refine Bod.baldN p rfl (by omega) (by omega) dc_288_12 (mk_107 _) (Or.inl rfl) ?_
  refine Bod.eqI (nI 32) (by first | assumption | rfl | exact congrArg nI (by omega) | (simp (disch := omega) only [rI, rIe, rA, rIA, rLA, rJA, rVI, rQI, rVA, rQA, upd_at,  rAI, rLI, rJI, nI_add, pk_sub, kc_0, kc_1, kc_2, kc_3, kc_4, kc_5, reduceIte, Nat.reduceEqDiff, Nat.add_zero, rI_hold, rI_hold, rL_hold, hx]; done)) ?_
  refine Bod.bip 35 (by decide) dc_288_13 ?_
  refine Bod.icF dc_288_15 rfl (k2_eq_F (k_ne 32 35 rfl rfl (by omega) (by omega) (by omega))) ?_
  refine Bod.aldnG dc_288_18 (by repeat (first | exact h1 | exact sm_get_p1 | exact sm_get_p2e | refine sm_get_p1m (by decide) (by decide) ?_ | refine sm_get_p1n (by decide) rfl ?_ | refine sm_get_p2n (by decide) (by decide) rfl ?_)) ?_
  refine Bod.ildG dc_288_19 (by repeat (first | exact h6 | exact sm_get_p1 | exact sm_get_p2e | refine sm_get_p1m (by decide) (by decide) ?_ | refine sm_get_p1n (by decide) rfl ?_ | refine sm_get_p2n (by decide) (by decide) rfl ?_)) ?_
  refine Bod.baldN p rfl (by omega) (by omega) dc_288_21 (mk_107 _) (Or.inl rfl) ?_
  refine Bod.eqI (nI 32) (by first | assumption | rfl | exact congrArg nI (by omega) | (simp (disch := omega) only [rI, rIe, rA, rIA, rLA, rJA, rVI, rQI, rVA, rQA, upd_at,  rAI, rLI, rJI, nI_add, pk_sub, kc_0, kc_1, kc_2, kc_3, kc_4, kc_5, reduceIte, Nat.reduceEqDiff, Nat.add_zero, rI_hold, rI_hold, rL_hold, hx]; done)) ?_
  refine Bod.ist dc_288_22 (by rw [ml_288]; exact Nat.le_of_ble_eq_true rfl) ?_
  refine Bod.ildG dc_288_24 (by repeat (first | exact h6 | exact sm_get_p1 | exact sm_get_p2e | refine sm_get_p1m (by decide) (by decide) ?_ | refine sm_get_p1n (by decide) rfl ?_ | refine sm_get_p2n (by decide) (by decide) rfl ?_)) ?_
  refine Bod.ist dc_288_26 (by rw [ml_288]; exact Nat.le_of_ble_eq_true rfl) ?_
  refine Bod.go dc_288_28 rfl ?_
  refine Bod.bip 32 (by decide) dc_288_30 ?_
  refine Bod.icF dc_288_32 rfl (k2_ne_F (k_eq 32 32 rfl rfl (by omega))) ?_
  refine Bod.incN (p + 1) (by rw [kc_1, nI_add]) dc_288_35 (by rw [ml_288]; exact Nat.le_of_ble_eq_true rfl) (by repeat (first | exact h6 | exact sm_get_p1 | exact sm_get_p2e | refine sm_get_p1m (by decide) (by decide) ?_ | refine sm_get_p1n (by decide) rfl ?_ | refine sm_get_p2n (by decide) (by decide) rfl ?_)) ?_
  refine Bod.go dc_288_38 rfl ?_
  exact hB _ (by repeat (first | exact h0 | exact sm_get_p1 | exact sm_get_p2e | refine sm_get_p1m (by decide) (by decide) ?_ | refine sm_get_p1n (by decide) rfl ?_ | refine sm_get_p2n (by decide) (by decide) rfl ?_)) (by repeat (first | exact h1 | exact sm_get_p1 | exact sm_get_p2e | refine sm_get_p1m (by decide) (by decide) ?_ | refine sm_get_p1n (by decide) rfl ?_ | refine sm_get_p2n (by decide) (by decide) rfl ?_)) (by repeat (first | exact h3 | exact sm_get_p1 | exact sm_get_p2e | refine sm_get_p1m (by decide) (by decide) ?_ | refine sm_get_p1n (by decide) rfl ?_ | refine sm_get_p2n (by decide) (by decide) rfl ?_)) (by repeat (first | exact h4 | exact sm_get_p1 | exact sm_get_p2e | refine sm_get_p1m (by decide) (by decide) ?_ | refine sm_get_p1n (by decide) rfl ?_ | refine sm_get_p2n (by decide) (by decide) rfl ?_)) (by repeat (first | exact h5 | exact sm_get_p1 | exact sm_get_p2e | refine sm_get_p1m (by decide) (by decide) ?_ | refine sm_get_p1n (by decide) rfl ?_ | refine sm_get_p2n (by decide) (by decide) rfl ?_)) (by repeat (first | exact h6 | exact sm_get_p1 | exact sm_get_p2e | refine sm_get_p1m (by decide) (by decide) ?_ | refine sm_get_p1n (by decide) rfl ?_ | refine sm_get_p2n (by decide) (by decide) rfl ?_))
theorem rl_let {d : Nat} {S Sf : cS} {lv : sm_L} {v : Option Value} {e : Nat} {l : Nat} {bl : Nat} {p : Nat} (heM : e ≤ 3000) (hp : p ≤ e) (h0 : sm_get lv 0 = some (.ref 61)) (h1 : sm_get lv 1 = some (.ref 107)) (h3 : sm_get lv 3 = some (.int (nI e))) (h4 : sm_get lv 4 = some (.int (nI l))) (h5 : sm_get lv 5 = some (.int (nI bl))) (h6 : sm_get lv 6 = some (.int (nI p))) (hin : p < e) (n35 : sA S 107 p ≠ nI 35) (n32 : sA S 107 p ≠ nI 32) (hf : fits .byte (.int (sA S 107 p)) = true) (hL : c_let (ub (sA S 107 p)) = true) (hB : ∀ lv1 : sm_L, sm_get lv1 0 = some (.ref 61) → sm_get lv1 1 = some (.ref 107) → sm_get lv1 3 = some (.int (nI e)) → sm_get lv1 4 = some (.int (nI l)) → sm_get lv1 5 = some (.int (nI bl)) → sm_get lv1 6 = some (.int (nI (p))) → sm_get lv1 7 = some (.int (sA S 107 p)) → sm_get lv1 8 = some (.int (nI p)) → Bod (d + 8) 288 49 lv1 [] (S) v Sf) : Bod (d + 8) 288 3 lv [] S v Sf := by
  refine Bod.ildG dc_288_3 (by repeat (first | exact h6 | exact sm_get_p1 | exact sm_get_p2e | refine sm_get_p1m (by decide) (by decide) ?_ | refine sm_get_p1n (by decide) rfl ?_ | refine sm_get_p2n (by decide) (by decide) rfl ?_)) ?_
  refine Bod.ildnG dc_288_5 (by repeat (first | exact h3 | exact sm_get_p1 | exact sm_get_p2e | refine sm_get_p1m (by decide) (by decide) ?_ | refine sm_get_p1n (by decide) rfl ?_ | refine sm_get_p2n (by decide) (by decide) rfl ?_)) ?_
  refine Bod.icF dc_288_6 rfl (k2_ge_F p e rfl rfl (by omega) (by omega)) ?_
  refine Bod.aldnG dc_288_9 (by repeat (first | exact h1 | exact sm_get_p1 | exact sm_get_p2e | refine sm_get_p1m (by decide) (by decide) ?_ | refine sm_get_p1n (by decide) rfl ?_ | refine sm_get_p2n (by decide) (by decide) rfl ?_)) ?_
  refine Bod.ildG dc_288_10 (by repeat (first | exact h6 | exact sm_get_p1 | exact sm_get_p2e | refine sm_get_p1m (by decide) (by decide) ?_ | refine sm_get_p1n (by decide) rfl ?_ | refine sm_get_p2n (by decide) (by decide) rfl ?_)) ?_
  refine Bod.baldN p rfl (by omega) (by omega) dc_288_12 (mk_107 _) (Or.inl rfl) ?_
  refine Bod.bip 35 (by decide) dc_288_13 ?_
  refine Bod.icF dc_288_15 rfl (k2_eq_F n35) ?_
  refine Bod.aldnG dc_288_18 (by repeat (first | exact h1 | exact sm_get_p1 | exact sm_get_p2e | refine sm_get_p1m (by decide) (by decide) ?_ | refine sm_get_p1n (by decide) rfl ?_ | refine sm_get_p2n (by decide) (by decide) rfl ?_)) ?_
  refine Bod.ildG dc_288_19 (by repeat (first | exact h6 | exact sm_get_p1 | exact sm_get_p2e | refine sm_get_p1m (by decide) (by decide) ?_ | refine sm_get_p1n (by decide) rfl ?_ | refine sm_get_p2n (by decide) (by decide) rfl ?_)) ?_
  refine Bod.baldN p rfl (by omega) (by omega) dc_288_21 (mk_107 _) (Or.inl rfl) ?_
  refine Bod.ist dc_288_22 (by rw [ml_288]; exact Nat.le_of_ble_eq_true rfl) ?_
  refine Bod.ildG dc_288_24 (by repeat (first | exact h6 | exact sm_get_p1 | exact sm_get_p2e | refine sm_get_p1m (by decide) (by decide) ?_ | refine sm_get_p1n (by decide) rfl ?_ | refine sm_get_p2n (by decide) (by decide) rfl ?_)) ?_
  refine Bod.ist dc_288_26 (by rw [ml_288]; exact Nat.le_of_ble_eq_true rfl) ?_
  refine Bod.go dc_288_28 rfl ?_
  refine Bod.bip 32 (by decide) dc_288_30 ?_
  refine Bod.icT dc_288_32 rfl (k2_ne_T n32) ?_
  refine Bod.go dc_288_41 rfl ?_
  refine Bod.stat (r := []) dc_288_43 kr_288_155 (Or.inl rfl) (by rw [np_289]; rfl) (by rw [np_289]; rfl) (by rw [np_289]; exact Nat.le_of_ble_eq_true rfl) (Nat.le_of_ble_eq_true rfl) (rLet_T (x := (sA S 107 p)) hf hL) ?_
  show Bod _ _ _ _ [_] _ _ _
  refine Bod.ifF dc_288_46 rfl (k1_eq_F (k_ne 1 0 rfl rfl (by omega) (by omega) (by omega))) ?_
  exact hB _ (by repeat (first | exact h0 | exact sm_get_p1 | exact sm_get_p2e | refine sm_get_p1m (by decide) (by decide) ?_ | refine sm_get_p1n (by decide) rfl ?_ | refine sm_get_p2n (by decide) (by decide) rfl ?_)) (by repeat (first | exact h1 | exact sm_get_p1 | exact sm_get_p2e | refine sm_get_p1m (by decide) (by decide) ?_ | refine sm_get_p1n (by decide) rfl ?_ | refine sm_get_p2n (by decide) (by decide) rfl ?_)) (by repeat (first | exact h3 | exact sm_get_p1 | exact sm_get_p2e | refine sm_get_p1m (by decide) (by decide) ?_ | refine sm_get_p1n (by decide) rfl ?_ | refine sm_get_p2n (by decide) (by decide) rfl ?_)) (by repeat (first | exact h4 | exact sm_get_p1 | exact sm_get_p2e | refine sm_get_p1m (by decide) (by decide) ?_ | refine sm_get_p1n (by decide) rfl ?_ | refine sm_get_p2n (by decide) (by decide) rfl ?_)) (by repeat (first | exact h5 | exact sm_get_p1 | exact sm_get_p2e | refine sm_get_p1m (by decide) (by decide) ?_ | refine sm_get_p1n (by decide) rfl ?_ | refine sm_get_p2n (by decide) (by decide) rfl ?_)) (by repeat (first | exact h6 | exact sm_get_p1 | exact sm_get_p2e | refine sm_get_p1m (by decide) (by decide) ?_ | refine sm_get_p1n (by decide) rfl ?_ | refine sm_get_p2n (by decide) (by decide) rfl ?_)) (by repeat (first | exact sm_get_p1 | exact sm_get_p2e | refine sm_get_p1m (by decide) (by decide) ?_ | refine sm_get_p1n (by decide) rfl ?_ | refine sm_get_p2n (by decide) (by decide) rfl ?_ | rfl)) (by repeat (first | exact sm_get_p1 | exact sm_get_p2e | refine sm_get_p1m (by decide) (by decide) ?_ | refine sm_get_p1n (by decide) rfl ?_ | refine sm_get_p2n (by decide) (by decide) rfl ?_ | rfl))
theorem rl_let1 {d : Nat} {S Sf : cS} {lv : sm_L} {v : Option Value} {e : Nat} {l : Nat} {bl : Nat} {p : Nat} {x : Int32} {st : Nat} (heM : e ≤ 3000) (hp : p ≤ e) (h0 : sm_get lv 0 = some (.ref 61)) (h1 : sm_get lv 1 = some (.ref 107)) (h3 : sm_get lv 3 = some (.int (nI e))) (h4 : sm_get lv 4 = some (.int (nI l))) (h5 : sm_get lv 5 = some (.int (nI bl))) (h6 : sm_get lv 6 = some (.int (nI p))) (h7 : sm_get lv 7 = some (.int x)) (h8 : sm_get lv 8 = some (.int (nI st))) (hin : p < e) (hf : fits .byte (.int (sA S 107 p)) = true) (hL : c_let (ub (sA S 107 p)) = true) (hB : ∀ lv1 : sm_L, sm_get lv1 0 = some (.ref 61) → sm_get lv1 1 = some (.ref 107) → sm_get lv1 3 = some (.int (nI e)) → sm_get lv1 4 = some (.int (nI l)) → sm_get lv1 5 = some (.int (nI bl)) → sm_get lv1 6 = some (.int (nI (p + 1))) → sm_get lv1 7 = some (.int x) → sm_get lv1 8 = some (.int (nI st)) → Bod (d + 8) 288 49 lv1 [] (S) v Sf) : Bod (d + 8) 288 49 lv [] S v Sf := by
  refine Bod.ildG dc_288_49 (by repeat (first | exact h6 | exact sm_get_p1 | exact sm_get_p2e | refine sm_get_p1m (by decide) (by decide) ?_ | refine sm_get_p1n (by decide) rfl ?_ | refine sm_get_p2n (by decide) (by decide) rfl ?_)) ?_
  refine Bod.ildnG dc_288_51 (by repeat (first | exact h3 | exact sm_get_p1 | exact sm_get_p2e | refine sm_get_p1m (by decide) (by decide) ?_ | refine sm_get_p1n (by decide) rfl ?_ | refine sm_get_p2n (by decide) (by decide) rfl ?_)) ?_
  refine Bod.icF dc_288_52 rfl (k2_ge_F p e rfl rfl (by omega) (by omega)) ?_
  refine Bod.aldnG dc_288_55 (by repeat (first | exact h1 | exact sm_get_p1 | exact sm_get_p2e | refine sm_get_p1m (by decide) (by decide) ?_ | refine sm_get_p1n (by decide) rfl ?_ | refine sm_get_p2n (by decide) (by decide) rfl ?_)) ?_
  refine Bod.ildG dc_288_56 (by repeat (first | exact h6 | exact sm_get_p1 | exact sm_get_p2e | refine sm_get_p1m (by decide) (by decide) ?_ | refine sm_get_p1n (by decide) rfl ?_ | refine sm_get_p2n (by decide) (by decide) rfl ?_)) ?_
  refine Bod.baldN p rfl (by omega) (by omega) dc_288_58 (mk_107 _) (Or.inl rfl) ?_
  refine Bod.stat (r := []) dc_288_59 kr_288_155 (Or.inl rfl) (by rw [np_289]; rfl) (by rw [np_289]; rfl) (by rw [np_289]; exact Nat.le_of_ble_eq_true rfl) (Nat.le_of_ble_eq_true rfl) (rLet_T (x := (sA S 107 p)) hf hL) ?_
  show Bod _ _ _ _ [_] _ _ _
  refine Bod.ifT dc_288_62 rfl (k1_ne_T (k_ne 1 0 rfl rfl (by omega) (by omega) (by omega))) ?_
  refine Bod.incN (p + 1) (by rw [kc_1, nI_add]) dc_288_75 (by rw [ml_288]; exact Nat.le_of_ble_eq_true rfl) (by repeat (first | exact h6 | exact sm_get_p1 | exact sm_get_p2e | refine sm_get_p1m (by decide) (by decide) ?_ | refine sm_get_p1n (by decide) rfl ?_ | refine sm_get_p2n (by decide) (by decide) rfl ?_)) ?_
  refine Bod.go dc_288_78 rfl ?_
  exact hB _ (by repeat (first | exact h0 | exact sm_get_p1 | exact sm_get_p2e | refine sm_get_p1m (by decide) (by decide) ?_ | refine sm_get_p1n (by decide) rfl ?_ | refine sm_get_p2n (by decide) (by decide) rfl ?_)) (by repeat (first | exact h1 | exact sm_get_p1 | exact sm_get_p2e | refine sm_get_p1m (by decide) (by decide) ?_ | refine sm_get_p1n (by decide) rfl ?_ | refine sm_get_p2n (by decide) (by decide) rfl ?_)) (by repeat (first | exact h3 | exact sm_get_p1 | exact sm_get_p2e | refine sm_get_p1m (by decide) (by decide) ?_ | refine sm_get_p1n (by decide) rfl ?_ | refine sm_get_p2n (by decide) (by decide) rfl ?_)) (by repeat (first | exact h4 | exact sm_get_p1 | exact sm_get_p2e | refine sm_get_p1m (by decide) (by decide) ?_ | refine sm_get_p1n (by decide) rfl ?_ | refine sm_get_p2n (by decide) (by decide) rfl ?_)) (by repeat (first | exact h5 | exact sm_get_p1 | exact sm_get_p2e | refine sm_get_p1m (by decide) (by decide) ?_ | refine sm_get_p1n (by decide) rfl ?_ | refine sm_get_p2n (by decide) (by decide) rfl ?_)) (by repeat (first | exact h6 | exact sm_get_p1 | exact sm_get_p2e | refine sm_get_p1m (by decide) (by decide) ?_ | refine sm_get_p1n (by decide) rfl ?_ | refine sm_get_p2n (by decide) (by decide) rfl ?_)) (by repeat (first | exact h7 | exact sm_get_p1 | exact sm_get_p2e | refine sm_get_p1m (by decide) (by decide) ?_ | refine sm_get_p1n (by decide) rfl ?_ | refine sm_get_p2n (by decide) (by decide) rfl ?_)) (by repeat (first | exact h8 | exact sm_get_p1 | exact sm_get_p2e | refine sm_get_p1m (by decide) (by decide) ?_ | refine sm_get_p1n (by decide) rfl ?_ | refine sm_get_p2n (by decide) (by decide) rfl ?_))
theorem rl_let2 {d : Nat} {S Sf : cS} {lv : sm_L} {v : Option Value} {e : Nat} {l : Nat} {bl : Nat} {p : Nat} {x : Int32} {st : Nat} (heM : e ≤ 3000) (hp : p ≤ e) (h0 : sm_get lv 0 = some (.ref 61)) (h1 : sm_get lv 1 = some (.ref 107)) (h3 : sm_get lv 3 = some (.int (nI e))) (h4 : sm_get lv 4 = some (.int (nI l))) (h5 : sm_get lv 5 = some (.int (nI bl))) (h6 : sm_get lv 6 = some (.int (nI p))) (h7 : sm_get lv 7 = some (.int x)) (h8 : sm_get lv 8 = some (.int (nI st))) (hin : p < e) (hf : fits .byte (.int (sA S 107 p)) = true) (hL : c_let (ub (sA S 107 p)) = false) (hG : c_dig (ub (sA S 107 p)) = true) (hB : ∀ lv1 : sm_L, sm_get lv1 0 = some (.ref 61) → sm_get lv1 1 = some (.ref 107) → sm_get lv1 3 = some (.int (nI e)) → sm_get lv1 4 = some (.int (nI l)) → sm_get lv1 5 = some (.int (nI bl)) → sm_get lv1 6 = some (.int (nI (p + 1))) → sm_get lv1 7 = some (.int x) → sm_get lv1 8 = some (.int (nI st)) → Bod (d + 8) 288 49 lv1 [] (S) v Sf) : Bod (d + 8) 288 49 lv [] S v Sf := by
  refine Bod.ildG dc_288_49 (by repeat (first | exact h6 | exact sm_get_p1 | exact sm_get_p2e | refine sm_get_p1m (by decide) (by decide) ?_ | refine sm_get_p1n (by decide) rfl ?_ | refine sm_get_p2n (by decide) (by decide) rfl ?_)) ?_
  refine Bod.ildnG dc_288_51 (by repeat (first | exact h3 | exact sm_get_p1 | exact sm_get_p2e | refine sm_get_p1m (by decide) (by decide) ?_ | refine sm_get_p1n (by decide) rfl ?_ | refine sm_get_p2n (by decide) (by decide) rfl ?_)) ?_
  refine Bod.icF dc_288_52 rfl (k2_ge_F p e rfl rfl (by omega) (by omega)) ?_
  refine Bod.aldnG dc_288_55 (by repeat (first | exact h1 | exact sm_get_p1 | exact sm_get_p2e | refine sm_get_p1m (by decide) (by decide) ?_ | refine sm_get_p1n (by decide) rfl ?_ | refine sm_get_p2n (by decide) (by decide) rfl ?_)) ?_
  refine Bod.ildG dc_288_56 (by repeat (first | exact h6 | exact sm_get_p1 | exact sm_get_p2e | refine sm_get_p1m (by decide) (by decide) ?_ | refine sm_get_p1n (by decide) rfl ?_ | refine sm_get_p2n (by decide) (by decide) rfl ?_)) ?_
  refine Bod.baldN p rfl (by omega) (by omega) dc_288_58 (mk_107 _) (Or.inl rfl) ?_
  refine Bod.stat (r := []) dc_288_59 kr_288_155 (Or.inl rfl) (by rw [np_289]; rfl) (by rw [np_289]; rfl) (by rw [np_289]; exact Nat.le_of_ble_eq_true rfl) (Nat.le_of_ble_eq_true rfl) (rLet_F (x := (sA S 107 p)) hf hL) ?_
  show Bod _ _ _ _ [_] _ _ _
  refine Bod.ifF dc_288_62 rfl (k1_ne_F (k_eq 0 0 rfl rfl (by omega))) ?_
  refine Bod.aldnG dc_288_65 (by repeat (first | exact h1 | exact sm_get_p1 | exact sm_get_p2e | refine sm_get_p1m (by decide) (by decide) ?_ | refine sm_get_p1n (by decide) rfl ?_ | refine sm_get_p2n (by decide) (by decide) rfl ?_)) ?_
  refine Bod.ildG dc_288_66 (by repeat (first | exact h6 | exact sm_get_p1 | exact sm_get_p2e | refine sm_get_p1m (by decide) (by decide) ?_ | refine sm_get_p1n (by decide) rfl ?_ | refine sm_get_p2n (by decide) (by decide) rfl ?_)) ?_
  refine Bod.baldN p rfl (by omega) (by omega) dc_288_68 (mk_107 _) (Or.inl rfl) ?_
  refine Bod.stat (r := []) dc_288_69 kr_288_159 (Or.inl rfl) (by rw [np_290]; rfl) (by rw [np_290]; rfl) (by rw [np_290]; exact Nat.le_of_ble_eq_true rfl) (Nat.le_of_ble_eq_true rfl) (rDig_T (x := (sA S 107 p)) hf hG) ?_
  show Bod _ _ _ _ [_] _ _ _
  refine Bod.ifF dc_288_72 rfl (k1_eq_F (k_ne 1 0 rfl rfl (by omega) (by omega) (by omega))) ?_
  refine Bod.incN (p + 1) (by rw [kc_1, nI_add]) dc_288_75 (by rw [ml_288]; exact Nat.le_of_ble_eq_true rfl) (by repeat (first | exact h6 | exact sm_get_p1 | exact sm_get_p2e | refine sm_get_p1m (by decide) (by decide) ?_ | refine sm_get_p1n (by decide) rfl ?_ | refine sm_get_p2n (by decide) (by decide) rfl ?_)) ?_
  refine Bod.go dc_288_78 rfl ?_
  exact hB _ (by repeat (first | exact h0 | exact sm_get_p1 | exact sm_get_p2e | refine sm_get_p1m (by decide) (by decide) ?_ | refine sm_get_p1n (by decide) rfl ?_ | refine sm_get_p2n (by decide) (by decide) rfl ?_)) (by repeat (first | exact h1 | exact sm_get_p1 | exact sm_get_p2e | refine sm_get_p1m (by decide) (by decide) ?_ | refine sm_get_p1n (by decide) rfl ?_ | refine sm_get_p2n (by decide) (by decide) rfl ?_)) (by repeat (first | exact h3 | exact sm_get_p1 | exact sm_get_p2e | refine sm_get_p1m (by decide) (by decide) ?_ | refine sm_get_p1n (by decide) rfl ?_ | refine sm_get_p2n (by decide) (by decide) rfl ?_)) (by repeat (first | exact h4 | exact sm_get_p1 | exact sm_get_p2e | refine sm_get_p1m (by decide) (by decide) ?_ | refine sm_get_p1n (by decide) rfl ?_ | refine sm_get_p2n (by decide) (by decide) rfl ?_)) (by repeat (first | exact h5 | exact sm_get_p1 | exact sm_get_p2e | refine sm_get_p1m (by decide) (by decide) ?_ | refine sm_get_p1n (by decide) rfl ?_ | refine sm_get_p2n (by decide) (by decide) rfl ?_)) (by repeat (first | exact h6 | exact sm_get_p1 | exact sm_get_p2e | refine sm_get_p1m (by decide) (by decide) ?_ | refine sm_get_p1n (by decide) rfl ?_ | refine sm_get_p2n (by decide) (by decide) rfl ?_)) (by repeat (first | exact h7 | exact sm_get_p1 | exact sm_get_p2e | refine sm_get_p1m (by decide) (by decide) ?_ | refine sm_get_p1n (by decide) rfl ?_ | refine sm_get_p2n (by decide) (by decide) rfl ?_)) (by repeat (first | exact h8 | exact sm_get_p1 | exact sm_get_p2e | refine sm_get_p1m (by decide) (by decide) ?_ | refine sm_get_p1n (by decide) rfl ?_ | refine sm_get_p2n (by decide) (by decide) rfl ?_))
theorem rl_let3 {d : Nat} {S Sf : cS} {lv : sm_L} {v : Option Value} {e : Nat} {l : Nat} {bl : Nat} {p : Nat} {x : Int32} {st : Nat} (heM : e ≤ 3000) (hp : p ≤ e) (h0 : sm_get lv 0 = some (.ref 61)) (h1 : sm_get lv 1 = some (.ref 107)) (h3 : sm_get lv 3 = some (.int (nI e))) (h4 : sm_get lv 4 = some (.int (nI l))) (h5 : sm_get lv 5 = some (.int (nI bl))) (h6 : sm_get lv 6 = some (.int (nI p))) (h7 : sm_get lv 7 = some (.int x)) (h8 : sm_get lv 8 = some (.int (nI st))) (hin : p = e) (hB : ∀ lv1 : sm_L, sm_get lv1 0 = some (.ref 61) → sm_get lv1 1 = some (.ref 107) → sm_get lv1 3 = some (.int (nI e)) → sm_get lv1 4 = some (.int (nI l)) → sm_get lv1 5 = some (.int (nI bl)) → sm_get lv1 6 = some (.int (nI (p))) → sm_get lv1 7 = some (.int x) → sm_get lv1 8 = some (.int (nI st)) → Bod (d + 8) 288 81 lv1 [] (S) v Sf) : Bod (d + 8) 288 49 lv [] S v Sf := by
  refine Bod.ildG dc_288_49 (by repeat (first | exact h6 | exact sm_get_p1 | exact sm_get_p2e | refine sm_get_p1m (by decide) (by decide) ?_ | refine sm_get_p1n (by decide) rfl ?_ | refine sm_get_p2n (by decide) (by decide) rfl ?_)) ?_
  refine Bod.ildnG dc_288_51 (by repeat (first | exact h3 | exact sm_get_p1 | exact sm_get_p2e | refine sm_get_p1m (by decide) (by decide) ?_ | refine sm_get_p1n (by decide) rfl ?_ | refine sm_get_p2n (by decide) (by decide) rfl ?_)) ?_
  refine Bod.icT dc_288_52 rfl (k2_ge_T p e rfl rfl (by omega) (by omega)) ?_
  exact hB _ (by repeat (first | exact h0 | exact sm_get_p1 | exact sm_get_p2e | refine sm_get_p1m (by decide) (by decide) ?_ | refine sm_get_p1n (by decide) rfl ?_ | refine sm_get_p2n (by decide) (by decide) rfl ?_)) (by repeat (first | exact h1 | exact sm_get_p1 | exact sm_get_p2e | refine sm_get_p1m (by decide) (by decide) ?_ | refine sm_get_p1n (by decide) rfl ?_ | refine sm_get_p2n (by decide) (by decide) rfl ?_)) (by repeat (first | exact h3 | exact sm_get_p1 | exact sm_get_p2e | refine sm_get_p1m (by decide) (by decide) ?_ | refine sm_get_p1n (by decide) rfl ?_ | refine sm_get_p2n (by decide) (by decide) rfl ?_)) (by repeat (first | exact h4 | exact sm_get_p1 | exact sm_get_p2e | refine sm_get_p1m (by decide) (by decide) ?_ | refine sm_get_p1n (by decide) rfl ?_ | refine sm_get_p2n (by decide) (by decide) rfl ?_)) (by repeat (first | exact h5 | exact sm_get_p1 | exact sm_get_p2e | refine sm_get_p1m (by decide) (by decide) ?_ | refine sm_get_p1n (by decide) rfl ?_ | refine sm_get_p2n (by decide) (by decide) rfl ?_)) (by repeat (first | exact h6 | exact sm_get_p1 | exact sm_get_p2e | refine sm_get_p1m (by decide) (by decide) ?_ | refine sm_get_p1n (by decide) rfl ?_ | refine sm_get_p2n (by decide) (by decide) rfl ?_)) (by repeat (first | exact h7 | exact sm_get_p1 | exact sm_get_p2e | refine sm_get_p1m (by decide) (by decide) ?_ | refine sm_get_p1n (by decide) rfl ?_ | refine sm_get_p2n (by decide) (by decide) rfl ?_)) (by repeat (first | exact h8 | exact sm_get_p1 | exact sm_get_p2e | refine sm_get_p1m (by decide) (by decide) ?_ | refine sm_get_p1n (by decide) rfl ?_ | refine sm_get_p2n (by decide) (by decide) rfl ?_))
theorem rl_let4 {d : Nat} {S Sf : cS} {lv : sm_L} {v : Option Value} {e : Nat} {l : Nat} {bl : Nat} {p : Nat} {x : Int32} {st : Nat} (heM : e ≤ 3000) (hp : p ≤ e) (h0 : sm_get lv 0 = some (.ref 61)) (h1 : sm_get lv 1 = some (.ref 107)) (h3 : sm_get lv 3 = some (.int (nI e))) (h4 : sm_get lv 4 = some (.int (nI l))) (h5 : sm_get lv 5 = some (.int (nI bl))) (h6 : sm_get lv 6 = some (.int (nI p))) (h7 : sm_get lv 7 = some (.int x)) (h8 : sm_get lv 8 = some (.int (nI st))) (hin : p < e) (hf : fits .byte (.int (sA S 107 p)) = true) (hL : c_let (ub (sA S 107 p)) = false) (hG : c_dig (ub (sA S 107 p)) = false) (hB : ∀ lv1 : sm_L, sm_get lv1 0 = some (.ref 61) → sm_get lv1 1 = some (.ref 107) → sm_get lv1 3 = some (.int (nI e)) → sm_get lv1 4 = some (.int (nI l)) → sm_get lv1 5 = some (.int (nI bl)) → sm_get lv1 6 = some (.int (nI (p))) → sm_get lv1 7 = some (.int x) → sm_get lv1 8 = some (.int (nI st)) → Bod (d + 8) 288 81 lv1 [] (S) v Sf) : Bod (d + 8) 288 49 lv [] S v Sf := by
  refine Bod.ildG dc_288_49 (by repeat (first | exact h6 | exact sm_get_p1 | exact sm_get_p2e | refine sm_get_p1m (by decide) (by decide) ?_ | refine sm_get_p1n (by decide) rfl ?_ | refine sm_get_p2n (by decide) (by decide) rfl ?_)) ?_
  refine Bod.ildnG dc_288_51 (by repeat (first | exact h3 | exact sm_get_p1 | exact sm_get_p2e | refine sm_get_p1m (by decide) (by decide) ?_ | refine sm_get_p1n (by decide) rfl ?_ | refine sm_get_p2n (by decide) (by decide) rfl ?_)) ?_
  refine Bod.icF dc_288_52 rfl (k2_ge_F p e rfl rfl (by omega) (by omega)) ?_
  refine Bod.aldnG dc_288_55 (by repeat (first | exact h1 | exact sm_get_p1 | exact sm_get_p2e | refine sm_get_p1m (by decide) (by decide) ?_ | refine sm_get_p1n (by decide) rfl ?_ | refine sm_get_p2n (by decide) (by decide) rfl ?_)) ?_
  refine Bod.ildG dc_288_56 (by repeat (first | exact h6 | exact sm_get_p1 | exact sm_get_p2e | refine sm_get_p1m (by decide) (by decide) ?_ | refine sm_get_p1n (by decide) rfl ?_ | refine sm_get_p2n (by decide) (by decide) rfl ?_)) ?_
  refine Bod.baldN p rfl (by omega) (by omega) dc_288_58 (mk_107 _) (Or.inl rfl) ?_
  refine Bod.stat (r := []) dc_288_59 kr_288_155 (Or.inl rfl) (by rw [np_289]; rfl) (by rw [np_289]; rfl) (by rw [np_289]; exact Nat.le_of_ble_eq_true rfl) (Nat.le_of_ble_eq_true rfl) (rLet_F (x := (sA S 107 p)) hf hL) ?_
  show Bod _ _ _ _ [_] _ _ _
  refine Bod.ifF dc_288_62 rfl (k1_ne_F (k_eq 0 0 rfl rfl (by omega))) ?_
  refine Bod.aldnG dc_288_65 (by repeat (first | exact h1 | exact sm_get_p1 | exact sm_get_p2e | refine sm_get_p1m (by decide) (by decide) ?_ | refine sm_get_p1n (by decide) rfl ?_ | refine sm_get_p2n (by decide) (by decide) rfl ?_)) ?_
  refine Bod.ildG dc_288_66 (by repeat (first | exact h6 | exact sm_get_p1 | exact sm_get_p2e | refine sm_get_p1m (by decide) (by decide) ?_ | refine sm_get_p1n (by decide) rfl ?_ | refine sm_get_p2n (by decide) (by decide) rfl ?_)) ?_
  refine Bod.baldN p rfl (by omega) (by omega) dc_288_68 (mk_107 _) (Or.inl rfl) ?_
  refine Bod.stat (r := []) dc_288_69 kr_288_159 (Or.inl rfl) (by rw [np_290]; rfl) (by rw [np_290]; rfl) (by rw [np_290]; exact Nat.le_of_ble_eq_true rfl) (Nat.le_of_ble_eq_true rfl) (rDig_F (x := (sA S 107 p)) hf hG) ?_
  show Bod _ _ _ _ [_] _ _ _
  refine Bod.ifT dc_288_72 rfl (k1_eq_T (k_eq 0 0 rfl rfl (by omega))) ?_
  exact hB _ (by repeat (first | exact h0 | exact sm_get_p1 | exact sm_get_p2e | refine sm_get_p1m (by decide) (by decide) ?_ | refine sm_get_p1n (by decide) rfl ?_ | refine sm_get_p2n (by decide) (by decide) rfl ?_)) (by repeat (first | exact h1 | exact sm_get_p1 | exact sm_get_p2e | refine sm_get_p1m (by decide) (by decide) ?_ | refine sm_get_p1n (by decide) rfl ?_ | refine sm_get_p2n (by decide) (by decide) rfl ?_)) (by repeat (first | exact h3 | exact sm_get_p1 | exact sm_get_p2e | refine sm_get_p1m (by decide) (by decide) ?_ | refine sm_get_p1n (by decide) rfl ?_ | refine sm_get_p2n (by decide) (by decide) rfl ?_)) (by repeat (first | exact h4 | exact sm_get_p1 | exact sm_get_p2e | refine sm_get_p1m (by decide) (by decide) ?_ | refine sm_get_p1n (by decide) rfl ?_ | refine sm_get_p2n (by decide) (by decide) rfl ?_)) (by repeat (first | exact h5 | exact sm_get_p1 | exact sm_get_p2e | refine sm_get_p1m (by decide) (by decide) ?_ | refine sm_get_p1n (by decide) rfl ?_ | refine sm_get_p2n (by decide) (by decide) rfl ?_)) (by repeat (first | exact h6 | exact sm_get_p1 | exact sm_get_p2e | refine sm_get_p1m (by decide) (by decide) ?_ | refine sm_get_p1n (by decide) rfl ?_ | refine sm_get_p2n (by decide) (by decide) rfl ?_)) (by repeat (first | exact h7 | exact sm_get_p1 | exact sm_get_p2e | refine sm_get_p1m (by decide) (by decide) ?_ | refine sm_get_p1n (by decide) rfl ?_ | refine sm_get_p2n (by decide) (by decide) rfl ?_)) (by repeat (first | exact h8 | exact sm_get_p1 | exact sm_get_p2e | refine sm_get_p1m (by decide) (by decide) ?_ | refine sm_get_p1n (by decide) rfl ?_ | refine sm_get_p2n (by decide) (by decide) rfl ?_))
theorem rl_word {d : Nat} {S Sf : cS} {lv : sm_L} {v : Option Value} {e : Nat} {l : Nat} {bl : Nat} {p : Nat} {x : Int32} {st : Nat} {q : Nat} {t : Nat} (heM : e ≤ 3000) (hp : p ≤ e) (h0 : sm_get lv 0 = some (.ref 61)) (h1 : sm_get lv 1 = some (.ref 107)) (h3 : sm_get lv 3 = some (.int (nI e))) (h4 : sm_get lv 4 = some (.int (nI l))) (h5 : sm_get lv 5 = some (.int (nI bl))) (h6 : sm_get lv 6 = some (.int (nI p))) (h7 : sm_get lv 7 = some (.int x)) (h8 : sm_get lv 8 = some (.int (nI st))) (hst : st ≤ p) (hW : Ans (d + 8) 291 [.ref 107, .int (nI st), .int (nI (p - st))] S (some (.int (nI q))) S) (hq : q < 24) (ht : sI S 6112 = nI t) (htM : t < 6002) (hB : ∀ lv1 : sm_L, sm_get lv1 0 = some (.ref 61) → sm_get lv1 1 = some (.ref 107) → sm_get lv1 3 = some (.int (nI e)) → sm_get lv1 4 = some (.int (nI l)) → sm_get lv1 5 = some (.int (nI bl)) → sm_get lv1 6 = some (.int (nI (p))) → Bod (d + 8) 288 3 lv1 [] (wI 6112 (nI (t + 1)) (wA 70 t ((nI bl)) (wA 69 t ((nI l)) (wA 68 t ((nI q)) (wA 67 t ((nI 2)) S))))) v Sf) : Bod (d + 8) 288 81 lv [] S v Sf := by
  refine Bod.aldnG dc_288_81 (by repeat (first | exact h1 | exact sm_get_p1 | exact sm_get_p2e | refine sm_get_p1m (by decide) (by decide) ?_ | refine sm_get_p1n (by decide) rfl ?_ | refine sm_get_p2n (by decide) (by decide) rfl ?_)) ?_
  refine Bod.ildG dc_288_82 (by repeat (first | exact h8 | exact sm_get_p1 | exact sm_get_p2e | refine sm_get_p1m (by decide) (by decide) ?_ | refine sm_get_p1n (by decide) rfl ?_ | refine sm_get_p2n (by decide) (by decide) rfl ?_)) ?_
  refine Bod.ildG dc_288_84 (by repeat (first | exact h6 | exact sm_get_p1 | exact sm_get_p2e | refine sm_get_p1m (by decide) (by decide) ?_ | refine sm_get_p1n (by decide) rfl ?_ | refine sm_get_p2n (by decide) (by decide) rfl ?_)) ?_
  refine Bod.ildG dc_288_86 (by repeat (first | exact h8 | exact sm_get_p1 | exact sm_get_p2e | refine sm_get_p1m (by decide) (by decide) ?_ | refine sm_get_p1n (by decide) rfl ?_ | refine sm_get_p2n (by decide) (by decide) rfl ?_)) ?_
  refine Bod.subN (p - st) (by omega) (by omega) dc_288_88 ?_
  refine Bod.stat (r := []) dc_288_89 kr_288_162 (Or.inl rfl) (by rw [np_291]; rfl) (by rw [np_291]; rfl) (by rw [np_291]; exact Nat.le_of_ble_eq_true rfl) (Nat.le_of_ble_eq_true rfl) (hW  ) ?_
  show Bod _ _ _ _ [_] _ _ _
  refine Bod.ist dc_288_92 (by rw [ml_288]; exact Nat.le_of_ble_eq_true rfl) ?_
  refine Bod.go dc_288_94 rfl ?_
  refine Bod.ifF dc_288_96 rfl (k1_lt_F q rfl (by omega)) ?_
  refine Bod.aldnG dc_288_99 (by repeat (first | exact h0 | exact sm_get_p1 | exact sm_get_p2e | refine sm_get_p1m (by decide) (by decide) ?_ | refine sm_get_p1n (by decide) rfl ?_ | refine sm_get_p2n (by decide) (by decide) rfl ?_)) ?_
  refine Bod.ic 2 (by decide) dc_288_100 ?_
  refine Bod.go dc_288_101 rfl ?_
  refine Bod.ildG dc_288_103 (by repeat (first | exact h4 | exact sm_get_p1 | exact sm_get_p2e | refine sm_get_p1m (by decide) (by decide) ?_ | refine sm_get_p1n (by decide) rfl ?_ | refine sm_get_p2n (by decide) (by decide) rfl ?_)) ?_
  refine Bod.ildG dc_288_105 (by repeat (first | exact h5 | exact sm_get_p1 | exact sm_get_p2e | refine sm_get_p1m (by decide) (by decide) ?_ | refine sm_get_p1n (by decide) rfl ?_ | refine sm_get_p2n (by decide) (by decide) rfl ?_)) ?_
  refine Bod.virt (r := []) dc_288_107 kr_288_151 ⟨Or.inl rfl, ow_293, cl_14⟩ (by rw [np_293]; rfl) (by rw [np_293]; rfl) (ob_of (mk_61 _)) (Nat.le_of_ble_eq_true rfl) (tok_ev (t := t) (kd := (nI 2)) (vl := (nI q)) (ln := (nI l)) (bl := (nI bl)) (by first | assumption | rfl | exact congrArg nI (by omega) | (simp (disch := omega) only [rI, rIe, rA, rIA, rLA, rJA, rVI, rQI, rVA, rQA, upd_at,  rAI, rLI, rJI, nI_add, pk_sub, kc_0, kc_1, kc_2, kc_3, kc_4, kc_5, reduceIte, Nat.reduceEqDiff, Nat.add_zero, rI_hold, rI_hold, rL_hold, ht]; done)) (by omega)) ?_
  show Bod _ _ _ _ [] _ _ _
  refine Bod.go dc_288_110 rfl ?_
  refine Bod.go dc_288_158 rfl ?_
  refine Bod.go dc_288_730 rfl ?_
  exact hB _ (by repeat (first | exact h0 | exact sm_get_p1 | exact sm_get_p2e | refine sm_get_p1m (by decide) (by decide) ?_ | refine sm_get_p1n (by decide) rfl ?_ | refine sm_get_p2n (by decide) (by decide) rfl ?_)) (by repeat (first | exact h1 | exact sm_get_p1 | exact sm_get_p2e | refine sm_get_p1m (by decide) (by decide) ?_ | refine sm_get_p1n (by decide) rfl ?_ | refine sm_get_p2n (by decide) (by decide) rfl ?_)) (by repeat (first | exact h3 | exact sm_get_p1 | exact sm_get_p2e | refine sm_get_p1m (by decide) (by decide) ?_ | refine sm_get_p1n (by decide) rfl ?_ | refine sm_get_p2n (by decide) (by decide) rfl ?_)) (by repeat (first | exact h4 | exact sm_get_p1 | exact sm_get_p2e | refine sm_get_p1m (by decide) (by decide) ?_ | refine sm_get_p1n (by decide) rfl ?_ | refine sm_get_p2n (by decide) (by decide) rfl ?_)) (by repeat (first | exact h5 | exact sm_get_p1 | exact sm_get_p2e | refine sm_get_p1m (by decide) (by decide) ?_ | refine sm_get_p1n (by decide) rfl ?_ | refine sm_get_p2n (by decide) (by decide) rfl ?_)) (by repeat (first | exact h6 | exact sm_get_p1 | exact sm_get_p2e | refine sm_get_p1m (by decide) (by decide) ?_ | refine sm_get_p1n (by decide) rfl ?_ | refine sm_get_p2n (by decide) (by decide) rfl ?_))
theorem rl_long {d : Nat} {S Sf : cS} {lv : sm_L} {v : Option Value} {e : Nat} {l : Nat} {bl : Nat} {p : Nat} {x : Int32} {st : Nat} {t : Nat} (heM : e ≤ 3000) (hp : p ≤ e) (h0 : sm_get lv 0 = some (.ref 61)) (h1 : sm_get lv 1 = some (.ref 107)) (h3 : sm_get lv 3 = some (.int (nI e))) (h4 : sm_get lv 4 = some (.int (nI l))) (h5 : sm_get lv 5 = some (.int (nI bl))) (h6 : sm_get lv 6 = some (.int (nI p))) (h7 : sm_get lv 7 = some (.int x)) (h8 : sm_get lv 8 = some (.int (nI st))) (hst : st ≤ p) (hW : Ans (d + 8) 291 [.ref 107, .int (nI st), .int (nI (p - st))] S (some (.int (Int32.ofInt (-1)))) S) (hl : 12 < p - st) (ht : sI S 6112 = nI t) (htM : t < 6002) (hB : ∀ lv1 : sm_L, sm_get lv1 0 = some (.ref 61) → sm_get lv1 1 = some (.ref 107) → sm_get lv1 3 = some (.int (nI e)) → sm_get lv1 4 = some (.int (nI l)) → sm_get lv1 5 = some (.int (nI bl)) → sm_get lv1 6 = some (.int (nI (p))) → Bod (d + 8) 288 3 lv1 [] (wI 6112 (nI (t + 1)) (wA 70 t ((nI bl)) (wA 69 t ((nI l)) (wA 68 t ((nI 0)) (wA 67 t ((nI 8)) S))))) v Sf) : Bod (d + 8) 288 81 lv [] S v Sf := by
  refine Bod.aldnG dc_288_81 (by repeat (first | exact h1 | exact sm_get_p1 | exact sm_get_p2e | refine sm_get_p1m (by decide) (by decide) ?_ | refine sm_get_p1n (by decide) rfl ?_ | refine sm_get_p2n (by decide) (by decide) rfl ?_)) ?_
  refine Bod.ildG dc_288_82 (by repeat (first | exact h8 | exact sm_get_p1 | exact sm_get_p2e | refine sm_get_p1m (by decide) (by decide) ?_ | refine sm_get_p1n (by decide) rfl ?_ | refine sm_get_p2n (by decide) (by decide) rfl ?_)) ?_
  refine Bod.ildG dc_288_84 (by repeat (first | exact h6 | exact sm_get_p1 | exact sm_get_p2e | refine sm_get_p1m (by decide) (by decide) ?_ | refine sm_get_p1n (by decide) rfl ?_ | refine sm_get_p2n (by decide) (by decide) rfl ?_)) ?_
  refine Bod.ildG dc_288_86 (by repeat (first | exact h8 | exact sm_get_p1 | exact sm_get_p2e | refine sm_get_p1m (by decide) (by decide) ?_ | refine sm_get_p1n (by decide) rfl ?_ | refine sm_get_p2n (by decide) (by decide) rfl ?_)) ?_
  refine Bod.subN (p - st) (by omega) (by omega) dc_288_88 ?_
  refine Bod.stat (r := []) dc_288_89 kr_288_162 (Or.inl rfl) (by rw [np_291]; rfl) (by rw [np_291]; rfl) (by rw [np_291]; exact Nat.le_of_ble_eq_true rfl) (Nat.le_of_ble_eq_true rfl) (hW  ) ?_
  show Bod _ _ _ _ [_] _ _ _
  refine Bod.ist dc_288_92 (by rw [ml_288]; exact Nat.le_of_ble_eq_true rfl) ?_
  refine Bod.go dc_288_94 rfl ?_
  refine Bod.ifT dc_288_96 rfl (by decide) ?_
  refine Bod.ildG dc_288_113 (by repeat (first | exact h6 | exact sm_get_p1 | exact sm_get_p2e | refine sm_get_p1m (by decide) (by decide) ?_ | refine sm_get_p1n (by decide) rfl ?_ | refine sm_get_p2n (by decide) (by decide) rfl ?_)) ?_
  refine Bod.ildG dc_288_115 (by repeat (first | exact h8 | exact sm_get_p1 | exact sm_get_p2e | refine sm_get_p1m (by decide) (by decide) ?_ | refine sm_get_p1n (by decide) rfl ?_ | refine sm_get_p2n (by decide) (by decide) rfl ?_)) ?_
  refine Bod.subN (p - st) (by omega) (by omega) dc_288_117 ?_
  refine Bod.bip 12 (by decide) dc_288_118 ?_
  refine Bod.icF dc_288_120 rfl (k2_le_F (p - st) 12 rfl rfl (by omega) (by omega)) ?_
  refine Bod.aldnG dc_288_123 (by repeat (first | exact h0 | exact sm_get_p1 | exact sm_get_p2e | refine sm_get_p1m (by decide) (by decide) ?_ | refine sm_get_p1n (by decide) rfl ?_ | refine sm_get_p2n (by decide) (by decide) rfl ?_)) ?_
  refine Bod.bip 8 (by decide) dc_288_124 ?_
  refine Bod.ic 0 (by decide) dc_288_126 ?_
  refine Bod.ildG dc_288_127 (by repeat (first | exact h4 | exact sm_get_p1 | exact sm_get_p2e | refine sm_get_p1m (by decide) (by decide) ?_ | refine sm_get_p1n (by decide) rfl ?_ | refine sm_get_p2n (by decide) (by decide) rfl ?_)) ?_
  refine Bod.ildG dc_288_129 (by repeat (first | exact h5 | exact sm_get_p1 | exact sm_get_p2e | refine sm_get_p1m (by decide) (by decide) ?_ | refine sm_get_p1n (by decide) rfl ?_ | refine sm_get_p2n (by decide) (by decide) rfl ?_)) ?_
  refine Bod.virt (r := []) dc_288_131 kr_288_151 ⟨Or.inl rfl, ow_293, cl_14⟩ (by rw [np_293]; rfl) (by rw [np_293]; rfl) (ob_of (mk_61 _)) (Nat.le_of_ble_eq_true rfl) (tok_ev (t := t) (kd := (nI 8)) (vl := (nI 0)) (ln := (nI l)) (bl := (nI bl)) (by first | assumption | rfl | exact congrArg nI (by omega) | (simp (disch := omega) only [rI, rIe, rA, rIA, rLA, rJA, rVI, rQI, rVA, rQA, upd_at,  rAI, rLI, rJI, nI_add, pk_sub, kc_0, kc_1, kc_2, kc_3, kc_4, kc_5, reduceIte, Nat.reduceEqDiff, Nat.add_zero, rI_hold, rI_hold, rL_hold, ht]; done)) (by omega)) ?_
  show Bod _ _ _ _ [] _ _ _
  refine Bod.go dc_288_134 rfl ?_
  refine Bod.go dc_288_158 rfl ?_
  refine Bod.go dc_288_730 rfl ?_
  exact hB _ (by repeat (first | exact h0 | exact sm_get_p1 | exact sm_get_p2e | refine sm_get_p1m (by decide) (by decide) ?_ | refine sm_get_p1n (by decide) rfl ?_ | refine sm_get_p2n (by decide) (by decide) rfl ?_)) (by repeat (first | exact h1 | exact sm_get_p1 | exact sm_get_p2e | refine sm_get_p1m (by decide) (by decide) ?_ | refine sm_get_p1n (by decide) rfl ?_ | refine sm_get_p2n (by decide) (by decide) rfl ?_)) (by repeat (first | exact h3 | exact sm_get_p1 | exact sm_get_p2e | refine sm_get_p1m (by decide) (by decide) ?_ | refine sm_get_p1n (by decide) rfl ?_ | refine sm_get_p2n (by decide) (by decide) rfl ?_)) (by repeat (first | exact h4 | exact sm_get_p1 | exact sm_get_p2e | refine sm_get_p1m (by decide) (by decide) ?_ | refine sm_get_p1n (by decide) rfl ?_ | refine sm_get_p2n (by decide) (by decide) rfl ?_)) (by repeat (first | exact h5 | exact sm_get_p1 | exact sm_get_p2e | refine sm_get_p1m (by decide) (by decide) ?_ | refine sm_get_p1n (by decide) rfl ?_ | refine sm_get_p2n (by decide) (by decide) rfl ?_)) (by repeat (first | exact h6 | exact sm_get_p1 | exact sm_get_p2e | refine sm_get_p1m (by decide) (by decide) ?_ | refine sm_get_p1n (by decide) rfl ?_ | refine sm_get_p2n (by decide) (by decide) rfl ?_))
theorem rl_name {d : Nat} {S Sf : cS} {lv : sm_L} {v : Option Value} {e : Nat} {l : Nat} {bl : Nat} {p : Nat} {x : Int32} {st : Nat} {t : Nat} {r : Nat} {S1 : cS} (heM : e ≤ 3000) (hp : p ≤ e) (h0 : sm_get lv 0 = some (.ref 61)) (h1 : sm_get lv 1 = some (.ref 107)) (h3 : sm_get lv 3 = some (.int (nI e))) (h4 : sm_get lv 4 = some (.int (nI l))) (h5 : sm_get lv 5 = some (.int (nI bl))) (h6 : sm_get lv 6 = some (.int (nI p))) (h7 : sm_get lv 7 = some (.int x)) (h8 : sm_get lv 8 = some (.int (nI st))) (hst : st ≤ p) (hW : Ans (d + 8) 291 [.ref 107, .int (nI st), .int (nI (p - st))] S (some (.int (Int32.ofInt (-1)))) S) (hl : p - st ≤ 12) (hN : Ans (d + 8) 294 [.ref 61, .ref 107, .int (nI st), .int (nI (p - st))] S (some (.int (nI r))) S1) (ht : sI S1 6112 = nI t) (htM : t < 6002) (hB : ∀ lv1 : sm_L, sm_get lv1 0 = some (.ref 61) → sm_get lv1 1 = some (.ref 107) → sm_get lv1 3 = some (.int (nI e)) → sm_get lv1 4 = some (.int (nI l)) → sm_get lv1 5 = some (.int (nI bl)) → sm_get lv1 6 = some (.int (nI (p))) → Bod (d + 8) 288 3 lv1 [] (wI 6112 (nI (t + 1)) (wA 70 t ((nI bl)) (wA 69 t ((nI l)) (wA 68 t ((nI r)) (wA 67 t ((nI 1)) S1))))) v Sf) : Bod (d + 8) 288 81 lv [] S v Sf := by
  refine Bod.aldnG dc_288_81 (by repeat (first | exact h1 | exact sm_get_p1 | exact sm_get_p2e | refine sm_get_p1m (by decide) (by decide) ?_ | refine sm_get_p1n (by decide) rfl ?_ | refine sm_get_p2n (by decide) (by decide) rfl ?_)) ?_
  refine Bod.ildG dc_288_82 (by repeat (first | exact h8 | exact sm_get_p1 | exact sm_get_p2e | refine sm_get_p1m (by decide) (by decide) ?_ | refine sm_get_p1n (by decide) rfl ?_ | refine sm_get_p2n (by decide) (by decide) rfl ?_)) ?_
  refine Bod.ildG dc_288_84 (by repeat (first | exact h6 | exact sm_get_p1 | exact sm_get_p2e | refine sm_get_p1m (by decide) (by decide) ?_ | refine sm_get_p1n (by decide) rfl ?_ | refine sm_get_p2n (by decide) (by decide) rfl ?_)) ?_
  refine Bod.ildG dc_288_86 (by repeat (first | exact h8 | exact sm_get_p1 | exact sm_get_p2e | refine sm_get_p1m (by decide) (by decide) ?_ | refine sm_get_p1n (by decide) rfl ?_ | refine sm_get_p2n (by decide) (by decide) rfl ?_)) ?_
  refine Bod.subN (p - st) (by omega) (by omega) dc_288_88 ?_
  refine Bod.stat (r := []) dc_288_89 kr_288_162 (Or.inl rfl) (by rw [np_291]; rfl) (by rw [np_291]; rfl) (by rw [np_291]; exact Nat.le_of_ble_eq_true rfl) (Nat.le_of_ble_eq_true rfl) (hW  ) ?_
  show Bod _ _ _ _ [_] _ _ _
  refine Bod.ist dc_288_92 (by rw [ml_288]; exact Nat.le_of_ble_eq_true rfl) ?_
  refine Bod.go dc_288_94 rfl ?_
  refine Bod.ifT dc_288_96 rfl (by decide) ?_
  refine Bod.ildG dc_288_113 (by repeat (first | exact h6 | exact sm_get_p1 | exact sm_get_p2e | refine sm_get_p1m (by decide) (by decide) ?_ | refine sm_get_p1n (by decide) rfl ?_ | refine sm_get_p2n (by decide) (by decide) rfl ?_)) ?_
  refine Bod.ildG dc_288_115 (by repeat (first | exact h8 | exact sm_get_p1 | exact sm_get_p2e | refine sm_get_p1m (by decide) (by decide) ?_ | refine sm_get_p1n (by decide) rfl ?_ | refine sm_get_p2n (by decide) (by decide) rfl ?_)) ?_
  refine Bod.subN (p - st) (by omega) (by omega) dc_288_117 ?_
  refine Bod.bip 12 (by decide) dc_288_118 ?_
  refine Bod.icT dc_288_120 rfl (k2_le_T (p - st) 12 rfl rfl (by omega) (by omega)) ?_
  refine Bod.aldnG dc_288_137 (by repeat (first | exact h0 | exact sm_get_p1 | exact sm_get_p2e | refine sm_get_p1m (by decide) (by decide) ?_ | refine sm_get_p1n (by decide) rfl ?_ | refine sm_get_p2n (by decide) (by decide) rfl ?_)) ?_
  refine Bod.ic 1 (by decide) dc_288_138 ?_
  refine Bod.aldnG dc_288_139 (by repeat (first | exact h0 | exact sm_get_p1 | exact sm_get_p2e | refine sm_get_p1m (by decide) (by decide) ?_ | refine sm_get_p1n (by decide) rfl ?_ | refine sm_get_p2n (by decide) (by decide) rfl ?_)) ?_
  refine Bod.aldnG dc_288_140 (by repeat (first | exact h1 | exact sm_get_p1 | exact sm_get_p2e | refine sm_get_p1m (by decide) (by decide) ?_ | refine sm_get_p1n (by decide) rfl ?_ | refine sm_get_p2n (by decide) (by decide) rfl ?_)) ?_
  refine Bod.ildG dc_288_141 (by repeat (first | exact h8 | exact sm_get_p1 | exact sm_get_p2e | refine sm_get_p1m (by decide) (by decide) ?_ | refine sm_get_p1n (by decide) rfl ?_ | refine sm_get_p2n (by decide) (by decide) rfl ?_)) ?_
  refine Bod.ildG dc_288_143 (by repeat (first | exact h6 | exact sm_get_p1 | exact sm_get_p2e | refine sm_get_p1m (by decide) (by decide) ?_ | refine sm_get_p1n (by decide) rfl ?_ | refine sm_get_p2n (by decide) (by decide) rfl ?_)) ?_
  refine Bod.ildG dc_288_145 (by repeat (first | exact h8 | exact sm_get_p1 | exact sm_get_p2e | refine sm_get_p1m (by decide) (by decide) ?_ | refine sm_get_p1n (by decide) rfl ?_ | refine sm_get_p2n (by decide) (by decide) rfl ?_)) ?_
  refine Bod.subN (p - st) (by omega) (by omega) dc_288_147 ?_
  refine Bod.virt (r := [_, _]) dc_288_148 kr_288_166 ⟨Or.inl rfl, ow_294, cl_14⟩ (by rw [np_294]; rfl) (by rw [np_294]; rfl) (ob_of (mk_61 _)) (Nat.le_of_ble_eq_true rfl) (hN  ) ?_
  show Bod _ _ _ _ [_, _, _] _ _ _
  refine Bod.ildG dc_288_151 (by repeat (first | exact h4 | exact sm_get_p1 | exact sm_get_p2e | refine sm_get_p1m (by decide) (by decide) ?_ | refine sm_get_p1n (by decide) rfl ?_ | refine sm_get_p2n (by decide) (by decide) rfl ?_)) ?_
  refine Bod.ildG dc_288_153 (by repeat (first | exact h5 | exact sm_get_p1 | exact sm_get_p2e | refine sm_get_p1m (by decide) (by decide) ?_ | refine sm_get_p1n (by decide) rfl ?_ | refine sm_get_p2n (by decide) (by decide) rfl ?_)) ?_
  refine Bod.virt (r := []) dc_288_155 kr_288_151 ⟨Or.inl rfl, ow_293, cl_14⟩ (by rw [np_293]; rfl) (by rw [np_293]; rfl) (ob_of (mk_61 _)) (Nat.le_of_ble_eq_true rfl) (tok_ev (t := t) (kd := (nI 1)) (vl := (nI r)) (ln := (nI l)) (bl := (nI bl)) (by first | (simp (disch := omega) only [rI, rIe, rA, rIA, rLA, rJA, rVI, rQI, rVA, rQA, upd_at,  rAI, rLI, rJI, nI_add, pk_sub, kc_0, kc_1, kc_2, kc_3, kc_4, kc_5, reduceIte, Nat.reduceEqDiff, Nat.add_zero, rI_hold, rI_hold, rL_hold, ht]; done) | (simp (disch := omega) only [rI, rIe, rA, rIA, rLA, rJA, rVI, rQI, rVA, rQA, upd_at,  rAI, rLI, rJI, nI_add, pk_sub, kc_0, kc_1, kc_2, kc_3, kc_4, kc_5, reduceIte, Nat.reduceEqDiff, Nat.add_zero, rI_hold, rI_hold, rL_hold, ht]; exact congrArg nI (by omega))) (by omega)) ?_
  show Bod _ _ _ _ [] _ _ _
  refine Bod.go dc_288_158 rfl ?_
  refine Bod.go dc_288_730 rfl ?_
  exact hB _ (by repeat (first | exact h0 | exact sm_get_p1 | exact sm_get_p2e | refine sm_get_p1m (by decide) (by decide) ?_ | refine sm_get_p1n (by decide) rfl ?_ | refine sm_get_p2n (by decide) (by decide) rfl ?_)) (by repeat (first | exact h1 | exact sm_get_p1 | exact sm_get_p2e | refine sm_get_p1m (by decide) (by decide) ?_ | refine sm_get_p1n (by decide) rfl ?_ | refine sm_get_p2n (by decide) (by decide) rfl ?_)) (by repeat (first | exact h3 | exact sm_get_p1 | exact sm_get_p2e | refine sm_get_p1m (by decide) (by decide) ?_ | refine sm_get_p1n (by decide) rfl ?_ | refine sm_get_p2n (by decide) (by decide) rfl ?_)) (by repeat (first | exact h4 | exact sm_get_p1 | exact sm_get_p2e | refine sm_get_p1m (by decide) (by decide) ?_ | refine sm_get_p1n (by decide) rfl ?_ | refine sm_get_p2n (by decide) (by decide) rfl ?_)) (by repeat (first | exact h5 | exact sm_get_p1 | exact sm_get_p2e | refine sm_get_p1m (by decide) (by decide) ?_ | refine sm_get_p1n (by decide) rfl ?_ | refine sm_get_p2n (by decide) (by decide) rfl ?_)) (by repeat (first | exact h6 | exact sm_get_p1 | exact sm_get_p2e | refine sm_get_p1m (by decide) (by decide) ?_ | refine sm_get_p1n (by decide) rfl ?_ | refine sm_get_p2n (by decide) (by decide) rfl ?_))
theorem rl_dig {d : Nat} {S Sf : cS} {lv : sm_L} {v : Option Value} {e : Nat} {l : Nat} {bl : Nat} {p : Nat} (heM : e ≤ 3000) (hp : p ≤ e) (h0 : sm_get lv 0 = some (.ref 61)) (h1 : sm_get lv 1 = some (.ref 107)) (h3 : sm_get lv 3 = some (.int (nI e))) (h4 : sm_get lv 4 = some (.int (nI l))) (h5 : sm_get lv 5 = some (.int (nI bl))) (h6 : sm_get lv 6 = some (.int (nI p))) (hin : p < e) (n35 : sA S 107 p ≠ nI 35) (n32 : sA S 107 p ≠ nI 32) (hf : fits .byte (.int (sA S 107 p)) = true) (hL : c_let (ub (sA S 107 p)) = false) (hG : c_dig (ub (sA S 107 p)) = true) (hB : ∀ lv1 : sm_L, sm_get lv1 0 = some (.ref 61) → sm_get lv1 1 = some (.ref 107) → sm_get lv1 3 = some (.int (nI e)) → sm_get lv1 4 = some (.int (nI l)) → sm_get lv1 5 = some (.int (nI bl)) → sm_get lv1 6 = some (.int (nI (p))) → sm_get lv1 7 = some (.int (sA S 107 p)) → sm_get lv1 8 = some (.int (nI p)) → sm_get lv1 9 = some (.long 0) → sm_get lv1 11 = some (.int (nI 1)) → Bod (d + 8) 288 175 lv1 [] (S) v Sf) : Bod (d + 8) 288 3 lv [] S v Sf := by
  refine Bod.ildG dc_288_3 (by repeat (first | exact h6 | exact sm_get_p1 | exact sm_get_p2e | refine sm_get_p1m (by decide) (by decide) ?_ | refine sm_get_p1n (by decide) rfl ?_ | refine sm_get_p2n (by decide) (by decide) rfl ?_)) ?_
  refine Bod.ildnG dc_288_5 (by repeat (first | exact h3 | exact sm_get_p1 | exact sm_get_p2e | refine sm_get_p1m (by decide) (by decide) ?_ | refine sm_get_p1n (by decide) rfl ?_ | refine sm_get_p2n (by decide) (by decide) rfl ?_)) ?_
  refine Bod.icF dc_288_6 rfl (k2_ge_F p e rfl rfl (by omega) (by omega)) ?_
  refine Bod.aldnG dc_288_9 (by repeat (first | exact h1 | exact sm_get_p1 | exact sm_get_p2e | refine sm_get_p1m (by decide) (by decide) ?_ | refine sm_get_p1n (by decide) rfl ?_ | refine sm_get_p2n (by decide) (by decide) rfl ?_)) ?_
  refine Bod.ildG dc_288_10 (by repeat (first | exact h6 | exact sm_get_p1 | exact sm_get_p2e | refine sm_get_p1m (by decide) (by decide) ?_ | refine sm_get_p1n (by decide) rfl ?_ | refine sm_get_p2n (by decide) (by decide) rfl ?_)) ?_
  refine Bod.baldN p rfl (by omega) (by omega) dc_288_12 (mk_107 _) (Or.inl rfl) ?_
  refine Bod.bip 35 (by decide) dc_288_13 ?_
  refine Bod.icF dc_288_15 rfl (k2_eq_F n35) ?_
  refine Bod.aldnG dc_288_18 (by repeat (first | exact h1 | exact sm_get_p1 | exact sm_get_p2e | refine sm_get_p1m (by decide) (by decide) ?_ | refine sm_get_p1n (by decide) rfl ?_ | refine sm_get_p2n (by decide) (by decide) rfl ?_)) ?_
  refine Bod.ildG dc_288_19 (by repeat (first | exact h6 | exact sm_get_p1 | exact sm_get_p2e | refine sm_get_p1m (by decide) (by decide) ?_ | refine sm_get_p1n (by decide) rfl ?_ | refine sm_get_p2n (by decide) (by decide) rfl ?_)) ?_
  refine Bod.baldN p rfl (by omega) (by omega) dc_288_21 (mk_107 _) (Or.inl rfl) ?_
  refine Bod.ist dc_288_22 (by rw [ml_288]; exact Nat.le_of_ble_eq_true rfl) ?_
  refine Bod.ildG dc_288_24 (by repeat (first | exact h6 | exact sm_get_p1 | exact sm_get_p2e | refine sm_get_p1m (by decide) (by decide) ?_ | refine sm_get_p1n (by decide) rfl ?_ | refine sm_get_p2n (by decide) (by decide) rfl ?_)) ?_
  refine Bod.ist dc_288_26 (by rw [ml_288]; exact Nat.le_of_ble_eq_true rfl) ?_
  refine Bod.go dc_288_28 rfl ?_
  refine Bod.bip 32 (by decide) dc_288_30 ?_
  refine Bod.icT dc_288_32 rfl (k2_ne_T n32) ?_
  refine Bod.go dc_288_41 rfl ?_
  refine Bod.stat (r := []) dc_288_43 kr_288_155 (Or.inl rfl) (by rw [np_289]; rfl) (by rw [np_289]; rfl) (by rw [np_289]; exact Nat.le_of_ble_eq_true rfl) (Nat.le_of_ble_eq_true rfl) (rLet_F (x := (sA S 107 p)) hf hL) ?_
  show Bod _ _ _ _ [_] _ _ _
  refine Bod.ifT dc_288_46 rfl (k1_eq_T (k_eq 0 0 rfl rfl (by omega))) ?_
  refine Bod.go dc_288_161 rfl ?_
  refine Bod.stat (r := []) dc_288_163 kr_288_159 (Or.inl rfl) (by rw [np_290]; rfl) (by rw [np_290]; rfl) (by rw [np_290]; exact Nat.le_of_ble_eq_true rfl) (Nat.le_of_ble_eq_true rfl) (rDig_T (x := (sA S 107 p)) hf hG) ?_
  show Bod _ _ _ _ [_] _ _ _
  refine Bod.ifF dc_288_166 rfl (k1_eq_F (k_ne 1 0 rfl rfl (by omega) (by omega) (by omega))) ?_
  refine Bod.go dc_288_169 rfl ?_
  refine Bod.lst dc_288_170 (by rw [ml_288]; exact Nat.le_of_ble_eq_true rfl) ?_
  refine Bod.ic 1 (by decide) dc_288_172 ?_
  refine Bod.ist dc_288_173 (by rw [ml_288]; exact Nat.le_of_ble_eq_true rfl) ?_
  exact hB _ (by repeat (first | exact h0 | exact sm_get_p1 | exact sm_get_p2e | refine sm_get_p1m (by decide) (by decide) ?_ | refine sm_get_p1n (by decide) rfl ?_ | refine sm_get_p2n (by decide) (by decide) rfl ?_)) (by repeat (first | exact h1 | exact sm_get_p1 | exact sm_get_p2e | refine sm_get_p1m (by decide) (by decide) ?_ | refine sm_get_p1n (by decide) rfl ?_ | refine sm_get_p2n (by decide) (by decide) rfl ?_)) (by repeat (first | exact h3 | exact sm_get_p1 | exact sm_get_p2e | refine sm_get_p1m (by decide) (by decide) ?_ | refine sm_get_p1n (by decide) rfl ?_ | refine sm_get_p2n (by decide) (by decide) rfl ?_)) (by repeat (first | exact h4 | exact sm_get_p1 | exact sm_get_p2e | refine sm_get_p1m (by decide) (by decide) ?_ | refine sm_get_p1n (by decide) rfl ?_ | refine sm_get_p2n (by decide) (by decide) rfl ?_)) (by repeat (first | exact h5 | exact sm_get_p1 | exact sm_get_p2e | refine sm_get_p1m (by decide) (by decide) ?_ | refine sm_get_p1n (by decide) rfl ?_ | refine sm_get_p2n (by decide) (by decide) rfl ?_)) (by repeat (first | exact h6 | exact sm_get_p1 | exact sm_get_p2e | refine sm_get_p1m (by decide) (by decide) ?_ | refine sm_get_p1n (by decide) rfl ?_ | refine sm_get_p2n (by decide) (by decide) rfl ?_)) (by repeat (first | exact sm_get_p1 | exact sm_get_p2e | refine sm_get_p1m (by decide) (by decide) ?_ | refine sm_get_p1n (by decide) rfl ?_ | refine sm_get_p2n (by decide) (by decide) rfl ?_ | rfl)) (by repeat (first | exact sm_get_p1 | exact sm_get_p2e | refine sm_get_p1m (by decide) (by decide) ?_ | refine sm_get_p1n (by decide) rfl ?_ | refine sm_get_p2n (by decide) (by decide) rfl ?_ | rfl)) (by repeat (first | exact sm_get_p1 | exact sm_get_p2e | refine sm_get_p1m (by decide) (by decide) ?_ | refine sm_get_p1n (by decide) rfl ?_ | refine sm_get_p2n (by decide) (by decide) rfl ?_ | rfl)) (by repeat (first | exact sm_get_p1 | exact sm_get_p2e | refine sm_get_p1m (by decide) (by decide) ?_ | refine sm_get_p1n (by decide) rfl ?_ | refine sm_get_p2n (by decide) (by decide) rfl ?_ | rfl))
theorem rl_dig_lt {d : Nat} {S Sf : cS} {lv : sm_L} {v : Option Value} {e : Nat} {l : Nat} {bl : Nat} {p : Nat} {x : Int32} {st : Nat} {w : Int64} {fi : Int32} (heM : e ≤ 3000) (hp : p ≤ e) (h0 : sm_get lv 0 = some (.ref 61)) (h1 : sm_get lv 1 = some (.ref 107)) (h3 : sm_get lv 3 = some (.int (nI e))) (h4 : sm_get lv 4 = some (.int (nI l))) (h5 : sm_get lv 5 = some (.int (nI bl))) (h6 : sm_get lv 6 = some (.int (nI p))) (h7 : sm_get lv 7 = some (.int x)) (h8 : sm_get lv 8 = some (.int (nI st))) (h9 : sm_get lv 9 = some (.long w)) (h11 : sm_get lv 11 = some (.int fi)) (hin : p < e) (hf : fits .byte (.int (sA S 107 p)) = true) (hG : c_dig (ub (sA S 107 p)) = true) (hw : lg_cmp w 922337203685477580 < 0) (hB : ∀ lv1 : sm_L, sm_get lv1 0 = some (.ref 61) → sm_get lv1 1 = some (.ref 107) → sm_get lv1 3 = some (.int (nI e)) → sm_get lv1 4 = some (.int (nI l)) → sm_get lv1 5 = some (.int (nI bl)) → sm_get lv1 6 = some (.int (nI (p + 1))) → sm_get lv1 7 = some (.int x) → sm_get lv1 8 = some (.int (nI st)) → sm_get lv1 9 = some (.long (((10 * w) + (sA S 107 p).toInt64) - 48)) → sm_get lv1 11 = some (.int (fi &&& nI 1)) → Bod (d + 8) 288 175 lv1 [] (S) v Sf) : Bod (d + 8) 288 175 lv [] S v Sf := by
  refine Bod.ildG dc_288_175 (by repeat (first | exact h6 | exact sm_get_p1 | exact sm_get_p2e | refine sm_get_p1m (by decide) (by decide) ?_ | refine sm_get_p1n (by decide) rfl ?_ | refine sm_get_p2n (by decide) (by decide) rfl ?_)) ?_
  refine Bod.ildnG dc_288_177 (by repeat (first | exact h3 | exact sm_get_p1 | exact sm_get_p2e | refine sm_get_p1m (by decide) (by decide) ?_ | refine sm_get_p1n (by decide) rfl ?_ | refine sm_get_p2n (by decide) (by decide) rfl ?_)) ?_
  refine Bod.icF dc_288_178 rfl (k2_ge_F p e rfl rfl (by omega) (by omega)) ?_
  refine Bod.aldnG dc_288_181 (by repeat (first | exact h1 | exact sm_get_p1 | exact sm_get_p2e | refine sm_get_p1m (by decide) (by decide) ?_ | refine sm_get_p1n (by decide) rfl ?_ | refine sm_get_p2n (by decide) (by decide) rfl ?_)) ?_
  refine Bod.ildG dc_288_182 (by repeat (first | exact h6 | exact sm_get_p1 | exact sm_get_p2e | refine sm_get_p1m (by decide) (by decide) ?_ | refine sm_get_p1n (by decide) rfl ?_ | refine sm_get_p2n (by decide) (by decide) rfl ?_)) ?_
  refine Bod.baldN p rfl (by omega) (by omega) dc_288_184 (mk_107 _) (Or.inl rfl) ?_
  refine Bod.stat (r := []) dc_288_185 kr_288_159 (Or.inl rfl) (by rw [np_290]; rfl) (by rw [np_290]; rfl) (by rw [np_290]; exact Nat.le_of_ble_eq_true rfl) (Nat.le_of_ble_eq_true rfl) (rDig_T (x := (sA S 107 p)) hf hG) ?_
  show Bod _ _ _ _ [_] _ _ _
  refine Bod.ifF dc_288_188 rfl (k1_eq_F (k_ne 1 0 rfl rfl (by omega) (by omega) (by omega))) ?_
  refine Bod.ildG dc_288_191 (by repeat (first | exact h11 | exact sm_get_p1 | exact sm_get_p2e | refine sm_get_p1m (by decide) (by decide) ?_ | refine sm_get_p1n (by decide) rfl ?_ | refine sm_get_p2n (by decide) (by decide) rfl ?_)) ?_
  refine Bod.lldG dc_288_193 (by repeat (first | exact h9 | exact sm_get_p1 | exact sm_get_p2e | refine sm_get_p1m (by decide) (by decide) ?_ | refine sm_get_p1n (by decide) rfl ?_ | refine sm_get_p2n (by decide) (by decide) rfl ?_)) ?_
  refine Bod.ldc2 dc_288_195 cj_288_169 ?_
  refine Bod.go dc_288_198 rfl ?_
  refine Bod.ifT dc_288_199 rfl (if_pos hw) ?_
  refine Bod.ic 1 (by decide) dc_288_220 ?_
  refine Bod.go dc_288_221 rfl ?_
  refine Bod.go dc_288_225 rfl ?_
  refine Bod.ist dc_288_226 (by rw [ml_288]; exact Nat.le_of_ble_eq_true rfl) ?_
  refine Bod.ldc2 dc_288_228 cj_288_171 ?_
  refine Bod.lldG dc_288_231 (by repeat (first | exact h9 | exact sm_get_p1 | exact sm_get_p2e | refine sm_get_p1m (by decide) (by decide) ?_ | refine sm_get_p1n (by decide) rfl ?_ | refine sm_get_p2n (by decide) (by decide) rfl ?_)) ?_
  refine Bod.go dc_288_233 rfl ?_
  refine Bod.aldnG dc_288_234 (by repeat (first | exact h1 | exact sm_get_p1 | exact sm_get_p2e | refine sm_get_p1m (by decide) (by decide) ?_ | refine sm_get_p1n (by decide) rfl ?_ | refine sm_get_p2n (by decide) (by decide) rfl ?_)) ?_
  refine Bod.ildG dc_288_235 (by repeat (first | exact h6 | exact sm_get_p1 | exact sm_get_p2e | refine sm_get_p1m (by decide) (by decide) ?_ | refine sm_get_p1n (by decide) rfl ?_ | refine sm_get_p2n (by decide) (by decide) rfl ?_)) ?_
  refine Bod.baldN p rfl (by omega) (by omega) dc_288_237 (mk_107 _) (Or.inl rfl) ?_
  refine Bod.go dc_288_238 rfl ?_
  refine Bod.go dc_288_239 rfl ?_
  refine Bod.ldc2 dc_288_240 cj_288_173 ?_
  refine Bod.go dc_288_243 rfl ?_
  refine Bod.lst dc_288_244 (by rw [ml_288]; exact Nat.le_of_ble_eq_true rfl) ?_
  refine Bod.incN (p + 1) (by rw [kc_1, nI_add]) dc_288_246 (by rw [ml_288]; exact Nat.le_of_ble_eq_true rfl) (by repeat (first | exact h6 | exact sm_get_p1 | exact sm_get_p2e | refine sm_get_p1m (by decide) (by decide) ?_ | refine sm_get_p1n (by decide) rfl ?_ | refine sm_get_p2n (by decide) (by decide) rfl ?_)) ?_
  refine Bod.go dc_288_249 rfl ?_
  exact hB _ (by repeat (first | exact h0 | exact sm_get_p1 | exact sm_get_p2e | refine sm_get_p1m (by decide) (by decide) ?_ | refine sm_get_p1n (by decide) rfl ?_ | refine sm_get_p2n (by decide) (by decide) rfl ?_)) (by repeat (first | exact h1 | exact sm_get_p1 | exact sm_get_p2e | refine sm_get_p1m (by decide) (by decide) ?_ | refine sm_get_p1n (by decide) rfl ?_ | refine sm_get_p2n (by decide) (by decide) rfl ?_)) (by repeat (first | exact h3 | exact sm_get_p1 | exact sm_get_p2e | refine sm_get_p1m (by decide) (by decide) ?_ | refine sm_get_p1n (by decide) rfl ?_ | refine sm_get_p2n (by decide) (by decide) rfl ?_)) (by repeat (first | exact h4 | exact sm_get_p1 | exact sm_get_p2e | refine sm_get_p1m (by decide) (by decide) ?_ | refine sm_get_p1n (by decide) rfl ?_ | refine sm_get_p2n (by decide) (by decide) rfl ?_)) (by repeat (first | exact h5 | exact sm_get_p1 | exact sm_get_p2e | refine sm_get_p1m (by decide) (by decide) ?_ | refine sm_get_p1n (by decide) rfl ?_ | refine sm_get_p2n (by decide) (by decide) rfl ?_)) (by repeat (first | exact h6 | exact sm_get_p1 | exact sm_get_p2e | refine sm_get_p1m (by decide) (by decide) ?_ | refine sm_get_p1n (by decide) rfl ?_ | refine sm_get_p2n (by decide) (by decide) rfl ?_)) (by repeat (first | exact h7 | exact sm_get_p1 | exact sm_get_p2e | refine sm_get_p1m (by decide) (by decide) ?_ | refine sm_get_p1n (by decide) rfl ?_ | refine sm_get_p2n (by decide) (by decide) rfl ?_)) (by repeat (first | exact h8 | exact sm_get_p1 | exact sm_get_p2e | refine sm_get_p1m (by decide) (by decide) ?_ | refine sm_get_p1n (by decide) rfl ?_ | refine sm_get_p2n (by decide) (by decide) rfl ?_)) (by repeat (first | exact h9 | exact sm_get_p1 | exact sm_get_p2e | refine sm_get_p1m (by decide) (by decide) ?_ | refine sm_get_p1n (by decide) rfl ?_ | refine sm_get_p2n (by decide) (by decide) rfl ?_)) (by repeat (first | exact h11 | exact sm_get_p1 | exact sm_get_p2e | refine sm_get_p1m (by decide) (by decide) ?_ | refine sm_get_p1n (by decide) rfl ?_ | refine sm_get_p2n (by decide) (by decide) rfl ?_))
theorem rl_dig_eq {d : Nat} {S Sf : cS} {lv : sm_L} {v : Option Value} {e : Nat} {l : Nat} {bl : Nat} {p : Nat} {x : Int32} {st : Nat} {w : Int64} {fi : Int32} {b : Nat} (heM : e ≤ 3000) (hp : p ≤ e) (h0 : sm_get lv 0 = some (.ref 61)) (h1 : sm_get lv 1 = some (.ref 107)) (h3 : sm_get lv 3 = some (.int (nI e))) (h4 : sm_get lv 4 = some (.int (nI l))) (h5 : sm_get lv 5 = some (.int (nI bl))) (h6 : sm_get lv 6 = some (.int (nI p))) (h7 : sm_get lv 7 = some (.int x)) (h8 : sm_get lv 8 = some (.int (nI st))) (h9 : sm_get lv 9 = some (.long w)) (h11 : sm_get lv 11 = some (.int fi)) (hin : p < e) (hf : fits .byte (.int (sA S 107 p)) = true) (hG : c_dig (ub (sA S 107 p)) = true) (hw : ¬ lg_cmp w 922337203685477580 < 0) (hw2 : lg_cmp w 922337203685477580 = 0) (hx : sA S 107 p = nI b) (hb : b ≤ 55) (hB : ∀ lv1 : sm_L, sm_get lv1 0 = some (.ref 61) → sm_get lv1 1 = some (.ref 107) → sm_get lv1 3 = some (.int (nI e)) → sm_get lv1 4 = some (.int (nI l)) → sm_get lv1 5 = some (.int (nI bl)) → sm_get lv1 6 = some (.int (nI (p + 1))) → sm_get lv1 7 = some (.int x) → sm_get lv1 8 = some (.int (nI st)) → sm_get lv1 9 = some (.long (((10 * w) + (sA S 107 p).toInt64) - 48)) → sm_get lv1 11 = some (.int (fi &&& nI 1)) → Bod (d + 8) 288 175 lv1 [] (S) v Sf) : Bod (d + 8) 288 175 lv [] S v Sf := by
  refine Bod.ildG dc_288_175 (by repeat (first | exact h6 | exact sm_get_p1 | exact sm_get_p2e | refine sm_get_p1m (by decide) (by decide) ?_ | refine sm_get_p1n (by decide) rfl ?_ | refine sm_get_p2n (by decide) (by decide) rfl ?_)) ?_
  refine Bod.ildnG dc_288_177 (by repeat (first | exact h3 | exact sm_get_p1 | exact sm_get_p2e | refine sm_get_p1m (by decide) (by decide) ?_ | refine sm_get_p1n (by decide) rfl ?_ | refine sm_get_p2n (by decide) (by decide) rfl ?_)) ?_
  refine Bod.icF dc_288_178 rfl (k2_ge_F p e rfl rfl (by omega) (by omega)) ?_
  refine Bod.aldnG dc_288_181 (by repeat (first | exact h1 | exact sm_get_p1 | exact sm_get_p2e | refine sm_get_p1m (by decide) (by decide) ?_ | refine sm_get_p1n (by decide) rfl ?_ | refine sm_get_p2n (by decide) (by decide) rfl ?_)) ?_
  refine Bod.ildG dc_288_182 (by repeat (first | exact h6 | exact sm_get_p1 | exact sm_get_p2e | refine sm_get_p1m (by decide) (by decide) ?_ | refine sm_get_p1n (by decide) rfl ?_ | refine sm_get_p2n (by decide) (by decide) rfl ?_)) ?_
  refine Bod.baldN p rfl (by omega) (by omega) dc_288_184 (mk_107 _) (Or.inl rfl) ?_
  refine Bod.stat (r := []) dc_288_185 kr_288_159 (Or.inl rfl) (by rw [np_290]; rfl) (by rw [np_290]; rfl) (by rw [np_290]; exact Nat.le_of_ble_eq_true rfl) (Nat.le_of_ble_eq_true rfl) (rDig_T (x := (sA S 107 p)) hf hG) ?_
  show Bod _ _ _ _ [_] _ _ _
  refine Bod.ifF dc_288_188 rfl (k1_eq_F (k_ne 1 0 rfl rfl (by omega) (by omega) (by omega))) ?_
  refine Bod.ildG dc_288_191 (by repeat (first | exact h11 | exact sm_get_p1 | exact sm_get_p2e | refine sm_get_p1m (by decide) (by decide) ?_ | refine sm_get_p1n (by decide) rfl ?_ | refine sm_get_p2n (by decide) (by decide) rfl ?_)) ?_
  refine Bod.lldG dc_288_193 (by repeat (first | exact h9 | exact sm_get_p1 | exact sm_get_p2e | refine sm_get_p1m (by decide) (by decide) ?_ | refine sm_get_p1n (by decide) rfl ?_ | refine sm_get_p2n (by decide) (by decide) rfl ?_)) ?_
  refine Bod.ldc2 dc_288_195 cj_288_169 ?_
  refine Bod.go dc_288_198 rfl ?_
  refine Bod.ifF dc_288_199 rfl (if_neg hw) ?_
  refine Bod.lldG dc_288_202 (by repeat (first | exact h9 | exact sm_get_p1 | exact sm_get_p2e | refine sm_get_p1m (by decide) (by decide) ?_ | refine sm_get_p1n (by decide) rfl ?_ | refine sm_get_p2n (by decide) (by decide) rfl ?_)) ?_
  refine Bod.ldc2 dc_288_204 cj_288_169 ?_
  refine Bod.go dc_288_207 rfl ?_
  refine Bod.ifF dc_288_208 rfl (k1_ne_F hw2) ?_
  refine Bod.aldnG dc_288_211 (by repeat (first | exact h1 | exact sm_get_p1 | exact sm_get_p2e | refine sm_get_p1m (by decide) (by decide) ?_ | refine sm_get_p1n (by decide) rfl ?_ | refine sm_get_p2n (by decide) (by decide) rfl ?_)) ?_
  refine Bod.ildG dc_288_212 (by repeat (first | exact h6 | exact sm_get_p1 | exact sm_get_p2e | refine sm_get_p1m (by decide) (by decide) ?_ | refine sm_get_p1n (by decide) rfl ?_ | refine sm_get_p2n (by decide) (by decide) rfl ?_)) ?_
  refine Bod.baldN p rfl (by omega) (by omega) dc_288_214 (mk_107 _) (Or.inl rfl) ?_
  refine Bod.bip 55 (by decide) dc_288_215 ?_
  refine Bod.icF dc_288_217 rfl (by rw [hx]; exact k2_gt_F b 55 rfl rfl (by omega) (by omega)) ?_
  refine Bod.ic 1 (by decide) dc_288_220 ?_
  refine Bod.go dc_288_221 rfl ?_
  refine Bod.go dc_288_225 rfl ?_
  refine Bod.ist dc_288_226 (by rw [ml_288]; exact Nat.le_of_ble_eq_true rfl) ?_
  refine Bod.ldc2 dc_288_228 cj_288_171 ?_
  refine Bod.lldG dc_288_231 (by repeat (first | exact h9 | exact sm_get_p1 | exact sm_get_p2e | refine sm_get_p1m (by decide) (by decide) ?_ | refine sm_get_p1n (by decide) rfl ?_ | refine sm_get_p2n (by decide) (by decide) rfl ?_)) ?_
  refine Bod.go dc_288_233 rfl ?_
  refine Bod.aldnG dc_288_234 (by repeat (first | exact h1 | exact sm_get_p1 | exact sm_get_p2e | refine sm_get_p1m (by decide) (by decide) ?_ | refine sm_get_p1n (by decide) rfl ?_ | refine sm_get_p2n (by decide) (by decide) rfl ?_)) ?_
  refine Bod.ildG dc_288_235 (by repeat (first | exact h6 | exact sm_get_p1 | exact sm_get_p2e | refine sm_get_p1m (by decide) (by decide) ?_ | refine sm_get_p1n (by decide) rfl ?_ | refine sm_get_p2n (by decide) (by decide) rfl ?_)) ?_
  refine Bod.baldN p rfl (by omega) (by omega) dc_288_237 (mk_107 _) (Or.inl rfl) ?_
  refine Bod.go dc_288_238 rfl ?_
  refine Bod.go dc_288_239 rfl ?_
  refine Bod.ldc2 dc_288_240 cj_288_173 ?_
  refine Bod.go dc_288_243 rfl ?_
  refine Bod.lst dc_288_244 (by rw [ml_288]; exact Nat.le_of_ble_eq_true rfl) ?_
  refine Bod.incN (p + 1) (by rw [kc_1, nI_add]) dc_288_246 (by rw [ml_288]; exact Nat.le_of_ble_eq_true rfl) (by repeat (first | exact h6 | exact sm_get_p1 | exact sm_get_p2e | refine sm_get_p1m (by decide) (by decide) ?_ | refine sm_get_p1n (by decide) rfl ?_ | refine sm_get_p2n (by decide) (by decide) rfl ?_)) ?_
  refine Bod.go dc_288_249 rfl ?_
  exact hB _ (by repeat (first | exact h0 | exact sm_get_p1 | exact sm_get_p2e | refine sm_get_p1m (by decide) (by decide) ?_ | refine sm_get_p1n (by decide) rfl ?_ | refine sm_get_p2n (by decide) (by decide) rfl ?_)) (by repeat (first | exact h1 | exact sm_get_p1 | exact sm_get_p2e | refine sm_get_p1m (by decide) (by decide) ?_ | refine sm_get_p1n (by decide) rfl ?_ | refine sm_get_p2n (by decide) (by decide) rfl ?_)) (by repeat (first | exact h3 | exact sm_get_p1 | exact sm_get_p2e | refine sm_get_p1m (by decide) (by decide) ?_ | refine sm_get_p1n (by decide) rfl ?_ | refine sm_get_p2n (by decide) (by decide) rfl ?_)) (by repeat (first | exact h4 | exact sm_get_p1 | exact sm_get_p2e | refine sm_get_p1m (by decide) (by decide) ?_ | refine sm_get_p1n (by decide) rfl ?_ | refine sm_get_p2n (by decide) (by decide) rfl ?_)) (by repeat (first | exact h5 | exact sm_get_p1 | exact sm_get_p2e | refine sm_get_p1m (by decide) (by decide) ?_ | refine sm_get_p1n (by decide) rfl ?_ | refine sm_get_p2n (by decide) (by decide) rfl ?_)) (by repeat (first | exact h6 | exact sm_get_p1 | exact sm_get_p2e | refine sm_get_p1m (by decide) (by decide) ?_ | refine sm_get_p1n (by decide) rfl ?_ | refine sm_get_p2n (by decide) (by decide) rfl ?_)) (by repeat (first | exact h7 | exact sm_get_p1 | exact sm_get_p2e | refine sm_get_p1m (by decide) (by decide) ?_ | refine sm_get_p1n (by decide) rfl ?_ | refine sm_get_p2n (by decide) (by decide) rfl ?_)) (by repeat (first | exact h8 | exact sm_get_p1 | exact sm_get_p2e | refine sm_get_p1m (by decide) (by decide) ?_ | refine sm_get_p1n (by decide) rfl ?_ | refine sm_get_p2n (by decide) (by decide) rfl ?_)) (by repeat (first | exact h9 | exact sm_get_p1 | exact sm_get_p2e | refine sm_get_p1m (by decide) (by decide) ?_ | refine sm_get_p1n (by decide) rfl ?_ | refine sm_get_p2n (by decide) (by decide) rfl ?_)) (by repeat (first | exact h11 | exact sm_get_p1 | exact sm_get_p2e | refine sm_get_p1m (by decide) (by decide) ?_ | refine sm_get_p1n (by decide) rfl ?_ | refine sm_get_p2n (by decide) (by decide) rfl ?_))
theorem rl_dig_ne {d : Nat} {S Sf : cS} {lv : sm_L} {v : Option Value} {e : Nat} {l : Nat} {bl : Nat} {p : Nat} {x : Int32} {st : Nat} {w : Int64} {fi : Int32} (heM : e ≤ 3000) (hp : p ≤ e) (h0 : sm_get lv 0 = some (.ref 61)) (h1 : sm_get lv 1 = some (.ref 107)) (h3 : sm_get lv 3 = some (.int (nI e))) (h4 : sm_get lv 4 = some (.int (nI l))) (h5 : sm_get lv 5 = some (.int (nI bl))) (h6 : sm_get lv 6 = some (.int (nI p))) (h7 : sm_get lv 7 = some (.int x)) (h8 : sm_get lv 8 = some (.int (nI st))) (h9 : sm_get lv 9 = some (.long w)) (h11 : sm_get lv 11 = some (.int fi)) (hin : p < e) (hf : fits .byte (.int (sA S 107 p)) = true) (hG : c_dig (ub (sA S 107 p)) = true) (hw : ¬ lg_cmp w 922337203685477580 < 0) (hw2 : lg_cmp w 922337203685477580 ≠ 0) (hB : ∀ lv1 : sm_L, sm_get lv1 0 = some (.ref 61) → sm_get lv1 1 = some (.ref 107) → sm_get lv1 3 = some (.int (nI e)) → sm_get lv1 4 = some (.int (nI l)) → sm_get lv1 5 = some (.int (nI bl)) → sm_get lv1 6 = some (.int (nI (p + 1))) → sm_get lv1 7 = some (.int x) → sm_get lv1 8 = some (.int (nI st)) → sm_get lv1 9 = some (.long (((10 * w) + (sA S 107 p).toInt64) - 48)) → sm_get lv1 11 = some (.int (fi &&& nI 0)) → Bod (d + 8) 288 175 lv1 [] (S) v Sf) : Bod (d + 8) 288 175 lv [] S v Sf := by
  refine Bod.ildG dc_288_175 (by repeat (first | exact h6 | exact sm_get_p1 | exact sm_get_p2e | refine sm_get_p1m (by decide) (by decide) ?_ | refine sm_get_p1n (by decide) rfl ?_ | refine sm_get_p2n (by decide) (by decide) rfl ?_)) ?_
  refine Bod.ildnG dc_288_177 (by repeat (first | exact h3 | exact sm_get_p1 | exact sm_get_p2e | refine sm_get_p1m (by decide) (by decide) ?_ | refine sm_get_p1n (by decide) rfl ?_ | refine sm_get_p2n (by decide) (by decide) rfl ?_)) ?_
  refine Bod.icF dc_288_178 rfl (k2_ge_F p e rfl rfl (by omega) (by omega)) ?_
  refine Bod.aldnG dc_288_181 (by repeat (first | exact h1 | exact sm_get_p1 | exact sm_get_p2e | refine sm_get_p1m (by decide) (by decide) ?_ | refine sm_get_p1n (by decide) rfl ?_ | refine sm_get_p2n (by decide) (by decide) rfl ?_)) ?_
  refine Bod.ildG dc_288_182 (by repeat (first | exact h6 | exact sm_get_p1 | exact sm_get_p2e | refine sm_get_p1m (by decide) (by decide) ?_ | refine sm_get_p1n (by decide) rfl ?_ | refine sm_get_p2n (by decide) (by decide) rfl ?_)) ?_
  refine Bod.baldN p rfl (by omega) (by omega) dc_288_184 (mk_107 _) (Or.inl rfl) ?_
  refine Bod.stat (r := []) dc_288_185 kr_288_159 (Or.inl rfl) (by rw [np_290]; rfl) (by rw [np_290]; rfl) (by rw [np_290]; exact Nat.le_of_ble_eq_true rfl) (Nat.le_of_ble_eq_true rfl) (rDig_T (x := (sA S 107 p)) hf hG) ?_
  show Bod _ _ _ _ [_] _ _ _
  refine Bod.ifF dc_288_188 rfl (k1_eq_F (k_ne 1 0 rfl rfl (by omega) (by omega) (by omega))) ?_
  refine Bod.ildG dc_288_191 (by repeat (first | exact h11 | exact sm_get_p1 | exact sm_get_p2e | refine sm_get_p1m (by decide) (by decide) ?_ | refine sm_get_p1n (by decide) rfl ?_ | refine sm_get_p2n (by decide) (by decide) rfl ?_)) ?_
  refine Bod.lldG dc_288_193 (by repeat (first | exact h9 | exact sm_get_p1 | exact sm_get_p2e | refine sm_get_p1m (by decide) (by decide) ?_ | refine sm_get_p1n (by decide) rfl ?_ | refine sm_get_p2n (by decide) (by decide) rfl ?_)) ?_
  refine Bod.ldc2 dc_288_195 cj_288_169 ?_
  refine Bod.go dc_288_198 rfl ?_
  refine Bod.ifF dc_288_199 rfl (if_neg hw) ?_
  refine Bod.lldG dc_288_202 (by repeat (first | exact h9 | exact sm_get_p1 | exact sm_get_p2e | refine sm_get_p1m (by decide) (by decide) ?_ | refine sm_get_p1n (by decide) rfl ?_ | refine sm_get_p2n (by decide) (by decide) rfl ?_)) ?_
  refine Bod.ldc2 dc_288_204 cj_288_169 ?_
  refine Bod.go dc_288_207 rfl ?_
  refine Bod.ifT dc_288_208 rfl (k1_ne_T hw2) ?_
  refine Bod.ic 0 (by decide) dc_288_224 ?_
  refine Bod.go dc_288_225 rfl ?_
  refine Bod.ist dc_288_226 (by rw [ml_288]; exact Nat.le_of_ble_eq_true rfl) ?_
  refine Bod.ldc2 dc_288_228 cj_288_171 ?_
  refine Bod.lldG dc_288_231 (by repeat (first | exact h9 | exact sm_get_p1 | exact sm_get_p2e | refine sm_get_p1m (by decide) (by decide) ?_ | refine sm_get_p1n (by decide) rfl ?_ | refine sm_get_p2n (by decide) (by decide) rfl ?_)) ?_
  refine Bod.go dc_288_233 rfl ?_
  refine Bod.aldnG dc_288_234 (by repeat (first | exact h1 | exact sm_get_p1 | exact sm_get_p2e | refine sm_get_p1m (by decide) (by decide) ?_ | refine sm_get_p1n (by decide) rfl ?_ | refine sm_get_p2n (by decide) (by decide) rfl ?_)) ?_
  refine Bod.ildG dc_288_235 (by repeat (first | exact h6 | exact sm_get_p1 | exact sm_get_p2e | refine sm_get_p1m (by decide) (by decide) ?_ | refine sm_get_p1n (by decide) rfl ?_ | refine sm_get_p2n (by decide) (by decide) rfl ?_)) ?_
  refine Bod.baldN p rfl (by omega) (by omega) dc_288_237 (mk_107 _) (Or.inl rfl) ?_
  refine Bod.go dc_288_238 rfl ?_
  refine Bod.go dc_288_239 rfl ?_
  refine Bod.ldc2 dc_288_240 cj_288_173 ?_
  refine Bod.go dc_288_243 rfl ?_
  refine Bod.lst dc_288_244 (by rw [ml_288]; exact Nat.le_of_ble_eq_true rfl) ?_
  refine Bod.incN (p + 1) (by rw [kc_1, nI_add]) dc_288_246 (by rw [ml_288]; exact Nat.le_of_ble_eq_true rfl) (by repeat (first | exact h6 | exact sm_get_p1 | exact sm_get_p2e | refine sm_get_p1m (by decide) (by decide) ?_ | refine sm_get_p1n (by decide) rfl ?_ | refine sm_get_p2n (by decide) (by decide) rfl ?_)) ?_
  refine Bod.go dc_288_249 rfl ?_
  exact hB _ (by repeat (first | exact h0 | exact sm_get_p1 | exact sm_get_p2e | refine sm_get_p1m (by decide) (by decide) ?_ | refine sm_get_p1n (by decide) rfl ?_ | refine sm_get_p2n (by decide) (by decide) rfl ?_)) (by repeat (first | exact h1 | exact sm_get_p1 | exact sm_get_p2e | refine sm_get_p1m (by decide) (by decide) ?_ | refine sm_get_p1n (by decide) rfl ?_ | refine sm_get_p2n (by decide) (by decide) rfl ?_)) (by repeat (first | exact h3 | exact sm_get_p1 | exact sm_get_p2e | refine sm_get_p1m (by decide) (by decide) ?_ | refine sm_get_p1n (by decide) rfl ?_ | refine sm_get_p2n (by decide) (by decide) rfl ?_)) (by repeat (first | exact h4 | exact sm_get_p1 | exact sm_get_p2e | refine sm_get_p1m (by decide) (by decide) ?_ | refine sm_get_p1n (by decide) rfl ?_ | refine sm_get_p2n (by decide) (by decide) rfl ?_)) (by repeat (first | exact h5 | exact sm_get_p1 | exact sm_get_p2e | refine sm_get_p1m (by decide) (by decide) ?_ | refine sm_get_p1n (by decide) rfl ?_ | refine sm_get_p2n (by decide) (by decide) rfl ?_)) (by repeat (first | exact h6 | exact sm_get_p1 | exact sm_get_p2e | refine sm_get_p1m (by decide) (by decide) ?_ | refine sm_get_p1n (by decide) rfl ?_ | refine sm_get_p2n (by decide) (by decide) rfl ?_)) (by repeat (first | exact h7 | exact sm_get_p1 | exact sm_get_p2e | refine sm_get_p1m (by decide) (by decide) ?_ | refine sm_get_p1n (by decide) rfl ?_ | refine sm_get_p2n (by decide) (by decide) rfl ?_)) (by repeat (first | exact h8 | exact sm_get_p1 | exact sm_get_p2e | refine sm_get_p1m (by decide) (by decide) ?_ | refine sm_get_p1n (by decide) rfl ?_ | refine sm_get_p2n (by decide) (by decide) rfl ?_)) (by repeat (first | exact h9 | exact sm_get_p1 | exact sm_get_p2e | refine sm_get_p1m (by decide) (by decide) ?_ | refine sm_get_p1n (by decide) rfl ?_ | refine sm_get_p2n (by decide) (by decide) rfl ?_)) (by repeat (first | exact h11 | exact sm_get_p1 | exact sm_get_p2e | refine sm_get_p1m (by decide) (by decide) ?_ | refine sm_get_p1n (by decide) rfl ?_ | refine sm_get_p2n (by decide) (by decide) rfl ?_))
theorem rl_dig_gt {d : Nat} {S Sf : cS} {lv : sm_L} {v : Option Value} {e : Nat} {l : Nat} {bl : Nat} {p : Nat} {x : Int32} {st : Nat} {w : Int64} {fi : Int32} {b : Nat} (heM : e ≤ 3000) (hp : p ≤ e) (h0 : sm_get lv 0 = some (.ref 61)) (h1 : sm_get lv 1 = some (.ref 107)) (h3 : sm_get lv 3 = some (.int (nI e))) (h4 : sm_get lv 4 = some (.int (nI l))) (h5 : sm_get lv 5 = some (.int (nI bl))) (h6 : sm_get lv 6 = some (.int (nI p))) (h7 : sm_get lv 7 = some (.int x)) (h8 : sm_get lv 8 = some (.int (nI st))) (h9 : sm_get lv 9 = some (.long w)) (h11 : sm_get lv 11 = some (.int fi)) (hin : p < e) (hf : fits .byte (.int (sA S 107 p)) = true) (hG : c_dig (ub (sA S 107 p)) = true) (hw : ¬ lg_cmp w 922337203685477580 < 0) (hw2 : lg_cmp w 922337203685477580 = 0) (hx : sA S 107 p = nI b) (hb : 55 < b) (hb2 : b < 128) (hB : ∀ lv1 : sm_L, sm_get lv1 0 = some (.ref 61) → sm_get lv1 1 = some (.ref 107) → sm_get lv1 3 = some (.int (nI e)) → sm_get lv1 4 = some (.int (nI l)) → sm_get lv1 5 = some (.int (nI bl)) → sm_get lv1 6 = some (.int (nI (p + 1))) → sm_get lv1 7 = some (.int x) → sm_get lv1 8 = some (.int (nI st)) → sm_get lv1 9 = some (.long (((10 * w) + (sA S 107 p).toInt64) - 48)) → sm_get lv1 11 = some (.int (fi &&& nI 0)) → Bod (d + 8) 288 175 lv1 [] (S) v Sf) : Bod (d + 8) 288 175 lv [] S v Sf := by
  refine Bod.ildG dc_288_175 (by repeat (first | exact h6 | exact sm_get_p1 | exact sm_get_p2e | refine sm_get_p1m (by decide) (by decide) ?_ | refine sm_get_p1n (by decide) rfl ?_ | refine sm_get_p2n (by decide) (by decide) rfl ?_)) ?_
  refine Bod.ildnG dc_288_177 (by repeat (first | exact h3 | exact sm_get_p1 | exact sm_get_p2e | refine sm_get_p1m (by decide) (by decide) ?_ | refine sm_get_p1n (by decide) rfl ?_ | refine sm_get_p2n (by decide) (by decide) rfl ?_)) ?_
  refine Bod.icF dc_288_178 rfl (k2_ge_F p e rfl rfl (by omega) (by omega)) ?_
  refine Bod.aldnG dc_288_181 (by repeat (first | exact h1 | exact sm_get_p1 | exact sm_get_p2e | refine sm_get_p1m (by decide) (by decide) ?_ | refine sm_get_p1n (by decide) rfl ?_ | refine sm_get_p2n (by decide) (by decide) rfl ?_)) ?_
  refine Bod.ildG dc_288_182 (by repeat (first | exact h6 | exact sm_get_p1 | exact sm_get_p2e | refine sm_get_p1m (by decide) (by decide) ?_ | refine sm_get_p1n (by decide) rfl ?_ | refine sm_get_p2n (by decide) (by decide) rfl ?_)) ?_
  refine Bod.baldN p rfl (by omega) (by omega) dc_288_184 (mk_107 _) (Or.inl rfl) ?_
  refine Bod.stat (r := []) dc_288_185 kr_288_159 (Or.inl rfl) (by rw [np_290]; rfl) (by rw [np_290]; rfl) (by rw [np_290]; exact Nat.le_of_ble_eq_true rfl) (Nat.le_of_ble_eq_true rfl) (rDig_T (x := (sA S 107 p)) hf hG) ?_
  show Bod _ _ _ _ [_] _ _ _
  refine Bod.ifF dc_288_188 rfl (k1_eq_F (k_ne 1 0 rfl rfl (by omega) (by omega) (by omega))) ?_
  refine Bod.ildG dc_288_191 (by repeat (first | exact h11 | exact sm_get_p1 | exact sm_get_p2e | refine sm_get_p1m (by decide) (by decide) ?_ | refine sm_get_p1n (by decide) rfl ?_ | refine sm_get_p2n (by decide) (by decide) rfl ?_)) ?_
  refine Bod.lldG dc_288_193 (by repeat (first | exact h9 | exact sm_get_p1 | exact sm_get_p2e | refine sm_get_p1m (by decide) (by decide) ?_ | refine sm_get_p1n (by decide) rfl ?_ | refine sm_get_p2n (by decide) (by decide) rfl ?_)) ?_
  refine Bod.ldc2 dc_288_195 cj_288_169 ?_
  refine Bod.go dc_288_198 rfl ?_
  refine Bod.ifF dc_288_199 rfl (if_neg hw) ?_
  refine Bod.lldG dc_288_202 (by repeat (first | exact h9 | exact sm_get_p1 | exact sm_get_p2e | refine sm_get_p1m (by decide) (by decide) ?_ | refine sm_get_p1n (by decide) rfl ?_ | refine sm_get_p2n (by decide) (by decide) rfl ?_)) ?_
  refine Bod.ldc2 dc_288_204 cj_288_169 ?_
  refine Bod.go dc_288_207 rfl ?_
  refine Bod.ifF dc_288_208 rfl (k1_ne_F hw2) ?_
  refine Bod.aldnG dc_288_211 (by repeat (first | exact h1 | exact sm_get_p1 | exact sm_get_p2e | refine sm_get_p1m (by decide) (by decide) ?_ | refine sm_get_p1n (by decide) rfl ?_ | refine sm_get_p2n (by decide) (by decide) rfl ?_)) ?_
  refine Bod.ildG dc_288_212 (by repeat (first | exact h6 | exact sm_get_p1 | exact sm_get_p2e | refine sm_get_p1m (by decide) (by decide) ?_ | refine sm_get_p1n (by decide) rfl ?_ | refine sm_get_p2n (by decide) (by decide) rfl ?_)) ?_
  refine Bod.baldN p rfl (by omega) (by omega) dc_288_214 (mk_107 _) (Or.inl rfl) ?_
  refine Bod.bip 55 (by decide) dc_288_215 ?_
  refine Bod.icT dc_288_217 rfl (by rw [hx]; exact k2_gt_T b 55 rfl rfl (by omega) (by omega)) ?_
  refine Bod.ic 0 (by decide) dc_288_224 ?_
  refine Bod.go dc_288_225 rfl ?_
  refine Bod.ist dc_288_226 (by rw [ml_288]; exact Nat.le_of_ble_eq_true rfl) ?_
  refine Bod.ldc2 dc_288_228 cj_288_171 ?_
  refine Bod.lldG dc_288_231 (by repeat (first | exact h9 | exact sm_get_p1 | exact sm_get_p2e | refine sm_get_p1m (by decide) (by decide) ?_ | refine sm_get_p1n (by decide) rfl ?_ | refine sm_get_p2n (by decide) (by decide) rfl ?_)) ?_
  refine Bod.go dc_288_233 rfl ?_
  refine Bod.aldnG dc_288_234 (by repeat (first | exact h1 | exact sm_get_p1 | exact sm_get_p2e | refine sm_get_p1m (by decide) (by decide) ?_ | refine sm_get_p1n (by decide) rfl ?_ | refine sm_get_p2n (by decide) (by decide) rfl ?_)) ?_
  refine Bod.ildG dc_288_235 (by repeat (first | exact h6 | exact sm_get_p1 | exact sm_get_p2e | refine sm_get_p1m (by decide) (by decide) ?_ | refine sm_get_p1n (by decide) rfl ?_ | refine sm_get_p2n (by decide) (by decide) rfl ?_)) ?_
  refine Bod.baldN p rfl (by omega) (by omega) dc_288_237 (mk_107 _) (Or.inl rfl) ?_
  refine Bod.go dc_288_238 rfl ?_
  refine Bod.go dc_288_239 rfl ?_
  refine Bod.ldc2 dc_288_240 cj_288_173 ?_
  refine Bod.go dc_288_243 rfl ?_
  refine Bod.lst dc_288_244 (by rw [ml_288]; exact Nat.le_of_ble_eq_true rfl) ?_
  refine Bod.incN (p + 1) (by rw [kc_1, nI_add]) dc_288_246 (by rw [ml_288]; exact Nat.le_of_ble_eq_true rfl) (by repeat (first | exact h6 | exact sm_get_p1 | exact sm_get_p2e | refine sm_get_p1m (by decide) (by decide) ?_ | refine sm_get_p1n (by decide) rfl ?_ | refine sm_get_p2n (by decide) (by decide) rfl ?_)) ?_
  refine Bod.go dc_288_249 rfl ?_
  exact hB _ (by repeat (first | exact h0 | exact sm_get_p1 | exact sm_get_p2e | refine sm_get_p1m (by decide) (by decide) ?_ | refine sm_get_p1n (by decide) rfl ?_ | refine sm_get_p2n (by decide) (by decide) rfl ?_)) (by repeat (first | exact h1 | exact sm_get_p1 | exact sm_get_p2e | refine sm_get_p1m (by decide) (by decide) ?_ | refine sm_get_p1n (by decide) rfl ?_ | refine sm_get_p2n (by decide) (by decide) rfl ?_)) (by repeat (first | exact h3 | exact sm_get_p1 | exact sm_get_p2e | refine sm_get_p1m (by decide) (by decide) ?_ | refine sm_get_p1n (by decide) rfl ?_ | refine sm_get_p2n (by decide) (by decide) rfl ?_)) (by repeat (first | exact h4 | exact sm_get_p1 | exact sm_get_p2e | refine sm_get_p1m (by decide) (by decide) ?_ | refine sm_get_p1n (by decide) rfl ?_ | refine sm_get_p2n (by decide) (by decide) rfl ?_)) (by repeat (first | exact h5 | exact sm_get_p1 | exact sm_get_p2e | refine sm_get_p1m (by decide) (by decide) ?_ | refine sm_get_p1n (by decide) rfl ?_ | refine sm_get_p2n (by decide) (by decide) rfl ?_)) (by repeat (first | exact h6 | exact sm_get_p1 | exact sm_get_p2e | refine sm_get_p1m (by decide) (by decide) ?_ | refine sm_get_p1n (by decide) rfl ?_ | refine sm_get_p2n (by decide) (by decide) rfl ?_)) (by repeat (first | exact h7 | exact sm_get_p1 | exact sm_get_p2e | refine sm_get_p1m (by decide) (by decide) ?_ | refine sm_get_p1n (by decide) rfl ?_ | refine sm_get_p2n (by decide) (by decide) rfl ?_)) (by repeat (first | exact h8 | exact sm_get_p1 | exact sm_get_p2e | refine sm_get_p1m (by decide) (by decide) ?_ | refine sm_get_p1n (by decide) rfl ?_ | refine sm_get_p2n (by decide) (by decide) rfl ?_)) (by repeat (first | exact h9 | exact sm_get_p1 | exact sm_get_p2e | refine sm_get_p1m (by decide) (by decide) ?_ | refine sm_get_p1n (by decide) rfl ?_ | refine sm_get_p2n (by decide) (by decide) rfl ?_)) (by repeat (first | exact h11 | exact sm_get_p1 | exact sm_get_p2e | refine sm_get_p1m (by decide) (by decide) ?_ | refine sm_get_p1n (by decide) rfl ?_ | refine sm_get_p2n (by decide) (by decide) rfl ?_))
theorem rl_dig3 {d : Nat} {S Sf : cS} {lv : sm_L} {v : Option Value} {e : Nat} {l : Nat} {bl : Nat} {p : Nat} {x : Int32} {st : Nat} {w : Int64} {fi : Int32} (heM : e ≤ 3000) (hp : p ≤ e) (h0 : sm_get lv 0 = some (.ref 61)) (h1 : sm_get lv 1 = some (.ref 107)) (h3 : sm_get lv 3 = some (.int (nI e))) (h4 : sm_get lv 4 = some (.int (nI l))) (h5 : sm_get lv 5 = some (.int (nI bl))) (h6 : sm_get lv 6 = some (.int (nI p))) (h7 : sm_get lv 7 = some (.int x)) (h8 : sm_get lv 8 = some (.int (nI st))) (h9 : sm_get lv 9 = some (.long w)) (h11 : sm_get lv 11 = some (.int fi)) (hin : p = e) (hB : ∀ lv1 : sm_L, sm_get lv1 0 = some (.ref 61) → sm_get lv1 1 = some (.ref 107) → sm_get lv1 3 = some (.int (nI e)) → sm_get lv1 4 = some (.int (nI l)) → sm_get lv1 5 = some (.int (nI bl)) → sm_get lv1 6 = some (.int (nI (p))) → sm_get lv1 7 = some (.int x) → sm_get lv1 8 = some (.int (nI st)) → sm_get lv1 9 = some (.long w) → sm_get lv1 11 = some (.int fi) → Bod (d + 8) 288 252 lv1 [] (S) v Sf) : Bod (d + 8) 288 175 lv [] S v Sf := by
  refine Bod.ildG dc_288_175 (by repeat (first | exact h6 | exact sm_get_p1 | exact sm_get_p2e | refine sm_get_p1m (by decide) (by decide) ?_ | refine sm_get_p1n (by decide) rfl ?_ | refine sm_get_p2n (by decide) (by decide) rfl ?_)) ?_
  refine Bod.ildnG dc_288_177 (by repeat (first | exact h3 | exact sm_get_p1 | exact sm_get_p2e | refine sm_get_p1m (by decide) (by decide) ?_ | refine sm_get_p1n (by decide) rfl ?_ | refine sm_get_p2n (by decide) (by decide) rfl ?_)) ?_
  refine Bod.icT dc_288_178 rfl (k2_ge_T p e rfl rfl (by omega) (by omega)) ?_
  exact hB _ (by repeat (first | exact h0 | exact sm_get_p1 | exact sm_get_p2e | refine sm_get_p1m (by decide) (by decide) ?_ | refine sm_get_p1n (by decide) rfl ?_ | refine sm_get_p2n (by decide) (by decide) rfl ?_)) (by repeat (first | exact h1 | exact sm_get_p1 | exact sm_get_p2e | refine sm_get_p1m (by decide) (by decide) ?_ | refine sm_get_p1n (by decide) rfl ?_ | refine sm_get_p2n (by decide) (by decide) rfl ?_)) (by repeat (first | exact h3 | exact sm_get_p1 | exact sm_get_p2e | refine sm_get_p1m (by decide) (by decide) ?_ | refine sm_get_p1n (by decide) rfl ?_ | refine sm_get_p2n (by decide) (by decide) rfl ?_)) (by repeat (first | exact h4 | exact sm_get_p1 | exact sm_get_p2e | refine sm_get_p1m (by decide) (by decide) ?_ | refine sm_get_p1n (by decide) rfl ?_ | refine sm_get_p2n (by decide) (by decide) rfl ?_)) (by repeat (first | exact h5 | exact sm_get_p1 | exact sm_get_p2e | refine sm_get_p1m (by decide) (by decide) ?_ | refine sm_get_p1n (by decide) rfl ?_ | refine sm_get_p2n (by decide) (by decide) rfl ?_)) (by repeat (first | exact h6 | exact sm_get_p1 | exact sm_get_p2e | refine sm_get_p1m (by decide) (by decide) ?_ | refine sm_get_p1n (by decide) rfl ?_ | refine sm_get_p2n (by decide) (by decide) rfl ?_)) (by repeat (first | exact h7 | exact sm_get_p1 | exact sm_get_p2e | refine sm_get_p1m (by decide) (by decide) ?_ | refine sm_get_p1n (by decide) rfl ?_ | refine sm_get_p2n (by decide) (by decide) rfl ?_)) (by repeat (first | exact h8 | exact sm_get_p1 | exact sm_get_p2e | refine sm_get_p1m (by decide) (by decide) ?_ | refine sm_get_p1n (by decide) rfl ?_ | refine sm_get_p2n (by decide) (by decide) rfl ?_)) (by repeat (first | exact h9 | exact sm_get_p1 | exact sm_get_p2e | refine sm_get_p1m (by decide) (by decide) ?_ | refine sm_get_p1n (by decide) rfl ?_ | refine sm_get_p2n (by decide) (by decide) rfl ?_)) (by repeat (first | exact h11 | exact sm_get_p1 | exact sm_get_p2e | refine sm_get_p1m (by decide) (by decide) ?_ | refine sm_get_p1n (by decide) rfl ?_ | refine sm_get_p2n (by decide) (by decide) rfl ?_))
theorem rl_dig4 {d : Nat} {S Sf : cS} {lv : sm_L} {v : Option Value} {e : Nat} {l : Nat} {bl : Nat} {p : Nat} {x : Int32} {st : Nat} {w : Int64} {fi : Int32} (heM : e ≤ 3000) (hp : p ≤ e) (h0 : sm_get lv 0 = some (.ref 61)) (h1 : sm_get lv 1 = some (.ref 107)) (h3 : sm_get lv 3 = some (.int (nI e))) (h4 : sm_get lv 4 = some (.int (nI l))) (h5 : sm_get lv 5 = some (.int (nI bl))) (h6 : sm_get lv 6 = some (.int (nI p))) (h7 : sm_get lv 7 = some (.int x)) (h8 : sm_get lv 8 = some (.int (nI st))) (h9 : sm_get lv 9 = some (.long w)) (h11 : sm_get lv 11 = some (.int fi)) (hin : p < e) (hf : fits .byte (.int (sA S 107 p)) = true) (hG : c_dig (ub (sA S 107 p)) = false) (hB : ∀ lv1 : sm_L, sm_get lv1 0 = some (.ref 61) → sm_get lv1 1 = some (.ref 107) → sm_get lv1 3 = some (.int (nI e)) → sm_get lv1 4 = some (.int (nI l)) → sm_get lv1 5 = some (.int (nI bl)) → sm_get lv1 6 = some (.int (nI (p))) → sm_get lv1 7 = some (.int x) → sm_get lv1 8 = some (.int (nI st)) → sm_get lv1 9 = some (.long w) → sm_get lv1 11 = some (.int fi) → Bod (d + 8) 288 252 lv1 [] (S) v Sf) : Bod (d + 8) 288 175 lv [] S v Sf := by
  refine Bod.ildG dc_288_175 (by repeat (first | exact h6 | exact sm_get_p1 | exact sm_get_p2e | refine sm_get_p1m (by decide) (by decide) ?_ | refine sm_get_p1n (by decide) rfl ?_ | refine sm_get_p2n (by decide) (by decide) rfl ?_)) ?_
  refine Bod.ildnG dc_288_177 (by repeat (first | exact h3 | exact sm_get_p1 | exact sm_get_p2e | refine sm_get_p1m (by decide) (by decide) ?_ | refine sm_get_p1n (by decide) rfl ?_ | refine sm_get_p2n (by decide) (by decide) rfl ?_)) ?_
  refine Bod.icF dc_288_178 rfl (k2_ge_F p e rfl rfl (by omega) (by omega)) ?_
  refine Bod.aldnG dc_288_181 (by repeat (first | exact h1 | exact sm_get_p1 | exact sm_get_p2e | refine sm_get_p1m (by decide) (by decide) ?_ | refine sm_get_p1n (by decide) rfl ?_ | refine sm_get_p2n (by decide) (by decide) rfl ?_)) ?_
  refine Bod.ildG dc_288_182 (by repeat (first | exact h6 | exact sm_get_p1 | exact sm_get_p2e | refine sm_get_p1m (by decide) (by decide) ?_ | refine sm_get_p1n (by decide) rfl ?_ | refine sm_get_p2n (by decide) (by decide) rfl ?_)) ?_
  refine Bod.baldN p rfl (by omega) (by omega) dc_288_184 (mk_107 _) (Or.inl rfl) ?_
  refine Bod.stat (r := []) dc_288_185 kr_288_159 (Or.inl rfl) (by rw [np_290]; rfl) (by rw [np_290]; rfl) (by rw [np_290]; exact Nat.le_of_ble_eq_true rfl) (Nat.le_of_ble_eq_true rfl) (rDig_F (x := (sA S 107 p)) hf hG) ?_
  show Bod _ _ _ _ [_] _ _ _
  refine Bod.ifT dc_288_188 rfl (k1_eq_T (k_eq 0 0 rfl rfl (by omega))) ?_
  exact hB _ (by repeat (first | exact h0 | exact sm_get_p1 | exact sm_get_p2e | refine sm_get_p1m (by decide) (by decide) ?_ | refine sm_get_p1n (by decide) rfl ?_ | refine sm_get_p2n (by decide) (by decide) rfl ?_)) (by repeat (first | exact h1 | exact sm_get_p1 | exact sm_get_p2e | refine sm_get_p1m (by decide) (by decide) ?_ | refine sm_get_p1n (by decide) rfl ?_ | refine sm_get_p2n (by decide) (by decide) rfl ?_)) (by repeat (first | exact h3 | exact sm_get_p1 | exact sm_get_p2e | refine sm_get_p1m (by decide) (by decide) ?_ | refine sm_get_p1n (by decide) rfl ?_ | refine sm_get_p2n (by decide) (by decide) rfl ?_)) (by repeat (first | exact h4 | exact sm_get_p1 | exact sm_get_p2e | refine sm_get_p1m (by decide) (by decide) ?_ | refine sm_get_p1n (by decide) rfl ?_ | refine sm_get_p2n (by decide) (by decide) rfl ?_)) (by repeat (first | exact h5 | exact sm_get_p1 | exact sm_get_p2e | refine sm_get_p1m (by decide) (by decide) ?_ | refine sm_get_p1n (by decide) rfl ?_ | refine sm_get_p2n (by decide) (by decide) rfl ?_)) (by repeat (first | exact h6 | exact sm_get_p1 | exact sm_get_p2e | refine sm_get_p1m (by decide) (by decide) ?_ | refine sm_get_p1n (by decide) rfl ?_ | refine sm_get_p2n (by decide) (by decide) rfl ?_)) (by repeat (first | exact h7 | exact sm_get_p1 | exact sm_get_p2e | refine sm_get_p1m (by decide) (by decide) ?_ | refine sm_get_p1n (by decide) rfl ?_ | refine sm_get_p2n (by decide) (by decide) rfl ?_)) (by repeat (first | exact h8 | exact sm_get_p1 | exact sm_get_p2e | refine sm_get_p1m (by decide) (by decide) ?_ | refine sm_get_p1n (by decide) rfl ?_ | refine sm_get_p2n (by decide) (by decide) rfl ?_)) (by repeat (first | exact h9 | exact sm_get_p1 | exact sm_get_p2e | refine sm_get_p1m (by decide) (by decide) ?_ | refine sm_get_p1n (by decide) rfl ?_ | refine sm_get_p2n (by decide) (by decide) rfl ?_)) (by repeat (first | exact h11 | exact sm_get_p1 | exact sm_get_p2e | refine sm_get_p1m (by decide) (by decide) ?_ | refine sm_get_p1n (by decide) rfl ?_ | refine sm_get_p2n (by decide) (by decide) rfl ?_))
theorem rl_num {d : Nat} {S Sf : cS} {lv : sm_L} {v : Option Value} {e : Nat} {l : Nat} {bl : Nat} {p : Nat} {x : Int32} {st : Nat} {w : Int64} {fi : Int32} {t : Nat} (heM : e ≤ 3000) (hp : p ≤ e) (h0 : sm_get lv 0 = some (.ref 61)) (h1 : sm_get lv 1 = some (.ref 107)) (h3 : sm_get lv 3 = some (.int (nI e))) (h4 : sm_get lv 4 = some (.int (nI l))) (h5 : sm_get lv 5 = some (.int (nI bl))) (h6 : sm_get lv 6 = some (.int (nI p))) (h7 : sm_get lv 7 = some (.int x)) (h8 : sm_get lv 8 = some (.int (nI st))) (h9 : sm_get lv 9 = some (.long w)) (h11 : sm_get lv 11 = some (.int fi)) (hfi : fi = nI 1) (ht : sI S 6112 = nI t) (htM : t < 6002) (hB : ∀ lv1 : sm_L, sm_get lv1 0 = some (.ref 61) → sm_get lv1 1 = some (.ref 107) → sm_get lv1 3 = some (.int (nI e)) → sm_get lv1 4 = some (.int (nI l)) → sm_get lv1 5 = some (.int (nI bl)) → sm_get lv1 6 = some (.int (nI (p))) → Bod (d + 8) 288 3 lv1 [] (wI 6112 (nI (t + 1)) (wA 70 t ((nI bl)) (wA 69 t ((nI l)) (wA 68 t ((nI 0)) (wA 67 t ((nI 3)) (wL 71 t w S)))))) v Sf) : Bod (d + 8) 288 252 lv [] S v Sf := by
  refine Bod.aldnG dc_288_252 (by repeat (first | exact h0 | exact sm_get_p1 | exact sm_get_p2e | refine sm_get_p1m (by decide) (by decide) ?_ | refine sm_get_p1n (by decide) rfl ?_ | refine sm_get_p2n (by decide) (by decide) rfl ?_)) ?_
  refine Bod.get dc_288_253 fr_288_175 (mk_61 _) rfl ?_
  refine Bod.aldnG dc_288_256 (by repeat (first | exact h0 | exact sm_get_p1 | exact sm_get_p2e | refine sm_get_p1m (by decide) (by decide) ?_ | refine sm_get_p1n (by decide) rfl ?_ | refine sm_get_p2n (by decide) (by decide) rfl ?_)) ?_
  refine Bod.get dc_288_257 fr_288_132 (mk_61 _) rfl ?_
  refine Bod.eqI (nI t) (by first | assumption | rfl | exact congrArg nI (by omega) | (simp (disch := omega) only [rI, rIe, rA, rIA, rLA, rJA, rVI, rQI, rVA, rQA, upd_at,  rAI, rLI, rJI, nI_add, pk_sub, kc_0, kc_1, kc_2, kc_3, kc_4, kc_5, reduceIte, Nat.reduceEqDiff, Nat.add_zero, rI_hold, rI_hold, rL_hold, ht]; done)) ?_
  refine Bod.lldG dc_288_260 (by repeat (first | exact h9 | exact sm_get_p1 | exact sm_get_p2e | refine sm_get_p1m (by decide) (by decide) ?_ | refine sm_get_p1n (by decide) rfl ?_ | refine sm_get_p2n (by decide) (by decide) rfl ?_)) ?_
  refine Bod.lastN t rfl (by omega) (by omega) dc_288_262 (mk_71 _) (sa_71 _ _ _) (mu_L _ _ _ _) ?_
  refine Bod.aldnG dc_288_263 (by repeat (first | exact h0 | exact sm_get_p1 | exact sm_get_p2e | refine sm_get_p1m (by decide) (by decide) ?_ | refine sm_get_p1n (by decide) rfl ?_ | refine sm_get_p2n (by decide) (by decide) rfl ?_)) ?_
  refine Bod.ildG dc_288_264 (by repeat (first | exact h11 | exact sm_get_p1 | exact sm_get_p2e | refine sm_get_p1m (by decide) (by decide) ?_ | refine sm_get_p1n (by decide) rfl ?_ | refine sm_get_p2n (by decide) (by decide) rfl ?_)) ?_
  refine Bod.ifF dc_288_266 rfl (by rw [hfi]; decide) ?_
  refine Bod.ic 3 (by decide) dc_288_269 ?_
  refine Bod.go dc_288_270 rfl ?_
  refine Bod.ic 0 (by decide) dc_288_275 ?_
  refine Bod.ildG dc_288_276 (by repeat (first | exact h4 | exact sm_get_p1 | exact sm_get_p2e | refine sm_get_p1m (by decide) (by decide) ?_ | refine sm_get_p1n (by decide) rfl ?_ | refine sm_get_p2n (by decide) (by decide) rfl ?_)) ?_
  refine Bod.ildG dc_288_278 (by repeat (first | exact h5 | exact sm_get_p1 | exact sm_get_p2e | refine sm_get_p1m (by decide) (by decide) ?_ | refine sm_get_p1n (by decide) rfl ?_ | refine sm_get_p2n (by decide) (by decide) rfl ?_)) ?_
  refine Bod.virt (r := []) dc_288_280 kr_288_151 ⟨Or.inl rfl, ow_293, cl_14⟩ (by rw [np_293]; rfl) (by rw [np_293]; rfl) (ob_of (mk_61 _)) (Nat.le_of_ble_eq_true rfl) (tok_ev (t := t) (kd := (nI 3)) (vl := (nI 0)) (ln := (nI l)) (bl := (nI bl)) (by first | (simp (disch := omega) only [rI, rIe, rA, rIA, rLA, rJA, rVI, rQI, rVA, rQA, upd_at,  rAI, rLI, rJI, nI_add, pk_sub, kc_0, kc_1, kc_2, kc_3, kc_4, kc_5, reduceIte, Nat.reduceEqDiff, Nat.add_zero, rI_hold, rI_hold, rL_hold, ht]; done) | (simp (disch := omega) only [rI, rIe, rA, rIA, rLA, rJA, rVI, rQI, rVA, rQA, upd_at,  rAI, rLI, rJI, nI_add, pk_sub, kc_0, kc_1, kc_2, kc_3, kc_4, kc_5, reduceIte, Nat.reduceEqDiff, Nat.add_zero, rI_hold, rI_hold, rL_hold, ht]; exact congrArg nI (by omega))) (by omega)) ?_
  show Bod _ _ _ _ [] _ _ _
  refine Bod.go dc_288_283 rfl ?_
  refine Bod.go dc_288_730 rfl ?_
  exact hB _ (by repeat (first | exact h0 | exact sm_get_p1 | exact sm_get_p2e | refine sm_get_p1m (by decide) (by decide) ?_ | refine sm_get_p1n (by decide) rfl ?_ | refine sm_get_p2n (by decide) (by decide) rfl ?_)) (by repeat (first | exact h1 | exact sm_get_p1 | exact sm_get_p2e | refine sm_get_p1m (by decide) (by decide) ?_ | refine sm_get_p1n (by decide) rfl ?_ | refine sm_get_p2n (by decide) (by decide) rfl ?_)) (by repeat (first | exact h3 | exact sm_get_p1 | exact sm_get_p2e | refine sm_get_p1m (by decide) (by decide) ?_ | refine sm_get_p1n (by decide) rfl ?_ | refine sm_get_p2n (by decide) (by decide) rfl ?_)) (by repeat (first | exact h4 | exact sm_get_p1 | exact sm_get_p2e | refine sm_get_p1m (by decide) (by decide) ?_ | refine sm_get_p1n (by decide) rfl ?_ | refine sm_get_p2n (by decide) (by decide) rfl ?_)) (by repeat (first | exact h5 | exact sm_get_p1 | exact sm_get_p2e | refine sm_get_p1m (by decide) (by decide) ?_ | refine sm_get_p1n (by decide) rfl ?_ | refine sm_get_p2n (by decide) (by decide) rfl ?_)) (by repeat (first | exact h6 | exact sm_get_p1 | exact sm_get_p2e | refine sm_get_p1m (by decide) (by decide) ?_ | refine sm_get_p1n (by decide) rfl ?_ | refine sm_get_p2n (by decide) (by decide) rfl ?_))
theorem rl_nobad {d : Nat} {S Sf : cS} {lv : sm_L} {v : Option Value} {e : Nat} {l : Nat} {bl : Nat} {p : Nat} {x : Int32} {st : Nat} {w : Int64} {fi : Int32} {t : Nat} (heM : e ≤ 3000) (hp : p ≤ e) (h0 : sm_get lv 0 = some (.ref 61)) (h1 : sm_get lv 1 = some (.ref 107)) (h3 : sm_get lv 3 = some (.int (nI e))) (h4 : sm_get lv 4 = some (.int (nI l))) (h5 : sm_get lv 5 = some (.int (nI bl))) (h6 : sm_get lv 6 = some (.int (nI p))) (h7 : sm_get lv 7 = some (.int x)) (h8 : sm_get lv 8 = some (.int (nI st))) (h9 : sm_get lv 9 = some (.long w)) (h11 : sm_get lv 11 = some (.int fi)) (hfi : fi = nI 0) (ht : sI S 6112 = nI t) (htM : t < 6002) (hB : ∀ lv1 : sm_L, sm_get lv1 0 = some (.ref 61) → sm_get lv1 1 = some (.ref 107) → sm_get lv1 3 = some (.int (nI e)) → sm_get lv1 4 = some (.int (nI l)) → sm_get lv1 5 = some (.int (nI bl)) → sm_get lv1 6 = some (.int (nI (p))) → Bod (d + 8) 288 3 lv1 [] (wI 6112 (nI (t + 1)) (wA 70 t ((nI bl)) (wA 69 t ((nI l)) (wA 68 t ((nI 0)) (wA 67 t ((nI 8)) (wL 71 t w S)))))) v Sf) : Bod (d + 8) 288 252 lv [] S v Sf := by
  refine Bod.aldnG dc_288_252 (by repeat (first | exact h0 | exact sm_get_p1 | exact sm_get_p2e | refine sm_get_p1m (by decide) (by decide) ?_ | refine sm_get_p1n (by decide) rfl ?_ | refine sm_get_p2n (by decide) (by decide) rfl ?_)) ?_
  refine Bod.get dc_288_253 fr_288_175 (mk_61 _) rfl ?_
  refine Bod.aldnG dc_288_256 (by repeat (first | exact h0 | exact sm_get_p1 | exact sm_get_p2e | refine sm_get_p1m (by decide) (by decide) ?_ | refine sm_get_p1n (by decide) rfl ?_ | refine sm_get_p2n (by decide) (by decide) rfl ?_)) ?_
  refine Bod.get dc_288_257 fr_288_132 (mk_61 _) rfl ?_
  refine Bod.eqI (nI t) (by first | assumption | rfl | exact congrArg nI (by omega) | (simp (disch := omega) only [rI, rIe, rA, rIA, rLA, rJA, rVI, rQI, rVA, rQA, upd_at,  rAI, rLI, rJI, nI_add, pk_sub, kc_0, kc_1, kc_2, kc_3, kc_4, kc_5, reduceIte, Nat.reduceEqDiff, Nat.add_zero, rI_hold, rI_hold, rL_hold, ht]; done)) ?_
  refine Bod.lldG dc_288_260 (by repeat (first | exact h9 | exact sm_get_p1 | exact sm_get_p2e | refine sm_get_p1m (by decide) (by decide) ?_ | refine sm_get_p1n (by decide) rfl ?_ | refine sm_get_p2n (by decide) (by decide) rfl ?_)) ?_
  refine Bod.lastN t rfl (by omega) (by omega) dc_288_262 (mk_71 _) (sa_71 _ _ _) (mu_L _ _ _ _) ?_
  refine Bod.aldnG dc_288_263 (by repeat (first | exact h0 | exact sm_get_p1 | exact sm_get_p2e | refine sm_get_p1m (by decide) (by decide) ?_ | refine sm_get_p1n (by decide) rfl ?_ | refine sm_get_p2n (by decide) (by decide) rfl ?_)) ?_
  refine Bod.ildG dc_288_264 (by repeat (first | exact h11 | exact sm_get_p1 | exact sm_get_p2e | refine sm_get_p1m (by decide) (by decide) ?_ | refine sm_get_p1n (by decide) rfl ?_ | refine sm_get_p2n (by decide) (by decide) rfl ?_)) ?_
  refine Bod.ifT dc_288_266 rfl (by rw [hfi]; decide) ?_
  refine Bod.bip 8 (by decide) dc_288_273 ?_
  refine Bod.ic 0 (by decide) dc_288_275 ?_
  refine Bod.ildG dc_288_276 (by repeat (first | exact h4 | exact sm_get_p1 | exact sm_get_p2e | refine sm_get_p1m (by decide) (by decide) ?_ | refine sm_get_p1n (by decide) rfl ?_ | refine sm_get_p2n (by decide) (by decide) rfl ?_)) ?_
  refine Bod.ildG dc_288_278 (by repeat (first | exact h5 | exact sm_get_p1 | exact sm_get_p2e | refine sm_get_p1m (by decide) (by decide) ?_ | refine sm_get_p1n (by decide) rfl ?_ | refine sm_get_p2n (by decide) (by decide) rfl ?_)) ?_
  refine Bod.virt (r := []) dc_288_280 kr_288_151 ⟨Or.inl rfl, ow_293, cl_14⟩ (by rw [np_293]; rfl) (by rw [np_293]; rfl) (ob_of (mk_61 _)) (Nat.le_of_ble_eq_true rfl) (tok_ev (t := t) (kd := (nI 8)) (vl := (nI 0)) (ln := (nI l)) (bl := (nI bl)) (by first | (simp (disch := omega) only [rI, rIe, rA, rIA, rLA, rJA, rVI, rQI, rVA, rQA, upd_at,  rAI, rLI, rJI, nI_add, pk_sub, kc_0, kc_1, kc_2, kc_3, kc_4, kc_5, reduceIte, Nat.reduceEqDiff, Nat.add_zero, rI_hold, rI_hold, rL_hold, ht]; done) | (simp (disch := omega) only [rI, rIe, rA, rIA, rLA, rJA, rVI, rQI, rVA, rQA, upd_at,  rAI, rLI, rJI, nI_add, pk_sub, kc_0, kc_1, kc_2, kc_3, kc_4, kc_5, reduceIte, Nat.reduceEqDiff, Nat.add_zero, rI_hold, rI_hold, rL_hold, ht]; exact congrArg nI (by omega))) (by omega)) ?_
  show Bod _ _ _ _ [] _ _ _
  refine Bod.go dc_288_283 rfl ?_
  refine Bod.go dc_288_730 rfl ?_
  exact hB _ (by repeat (first | exact h0 | exact sm_get_p1 | exact sm_get_p2e | refine sm_get_p1m (by decide) (by decide) ?_ | refine sm_get_p1n (by decide) rfl ?_ | refine sm_get_p2n (by decide) (by decide) rfl ?_)) (by repeat (first | exact h1 | exact sm_get_p1 | exact sm_get_p2e | refine sm_get_p1m (by decide) (by decide) ?_ | refine sm_get_p1n (by decide) rfl ?_ | refine sm_get_p2n (by decide) (by decide) rfl ?_)) (by repeat (first | exact h3 | exact sm_get_p1 | exact sm_get_p2e | refine sm_get_p1m (by decide) (by decide) ?_ | refine sm_get_p1n (by decide) rfl ?_ | refine sm_get_p2n (by decide) (by decide) rfl ?_)) (by repeat (first | exact h4 | exact sm_get_p1 | exact sm_get_p2e | refine sm_get_p1m (by decide) (by decide) ?_ | refine sm_get_p1n (by decide) rfl ?_ | refine sm_get_p2n (by decide) (by decide) rfl ?_)) (by repeat (first | exact h5 | exact sm_get_p1 | exact sm_get_p2e | refine sm_get_p1m (by decide) (by decide) ?_ | refine sm_get_p1n (by decide) rfl ?_ | refine sm_get_p2n (by decide) (by decide) rfl ?_)) (by repeat (first | exact h6 | exact sm_get_p1 | exact sm_get_p2e | refine sm_get_p1m (by decide) (by decide) ?_ | refine sm_get_p1n (by decide) rfl ?_ | refine sm_get_p2n (by decide) (by decide) rfl ?_))
theorem rl_str {d : Nat} {S Sf : cS} {lv : sm_L} {v : Option Value} {e : Nat} {l : Nat} {bl : Nat} {p : Nat} (heM : e ≤ 3000) (hp : p ≤ e) (h0 : sm_get lv 0 = some (.ref 61)) (h1 : sm_get lv 1 = some (.ref 107)) (h3 : sm_get lv 3 = some (.int (nI e))) (h4 : sm_get lv 4 = some (.int (nI l))) (h5 : sm_get lv 5 = some (.int (nI bl))) (h6 : sm_get lv 6 = some (.int (nI p))) (hin : p < e) (hx : sA S 107 p = nI 39) (hf : fits .byte (.int (sA S 107 p)) = true) (hL : c_let (ub (sA S 107 p)) = false) (hG : c_dig (ub (sA S 107 p)) = false) (hB : ∀ lv1 : sm_L, sm_get lv1 0 = some (.ref 61) → sm_get lv1 1 = some (.ref 107) → sm_get lv1 3 = some (.int (nI e)) → sm_get lv1 4 = some (.int (nI l)) → sm_get lv1 5 = some (.int (nI bl)) → sm_get lv1 6 = some (.int (nI (p + 1))) → sm_get lv1 7 = some (.int (nI 39)) → sm_get lv1 8 = some (.int (nI p)) → Bod (d + 8) 288 296 lv1 [] (S) v Sf) : Bod (d + 8) 288 3 lv [] S v Sf := by
  refine Bod.ildG dc_288_3 (by repeat (first | exact h6 | exact sm_get_p1 | exact sm_get_p2e | refine sm_get_p1m (by decide) (by decide) ?_ | refine sm_get_p1n (by decide) rfl ?_ | refine sm_get_p2n (by decide) (by decide) rfl ?_)) ?_
  refine Bod.ildnG dc_288_5 (by repeat (first | exact h3 | exact sm_get_p1 | exact sm_get_p2e | refine sm_get_p1m (by decide) (by decide) ?_ | refine sm_get_p1n (by decide) rfl ?_ | refine sm_get_p2n (by decide) (by decide) rfl ?_)) ?_
  refine Bod.icF dc_288_6 rfl (k2_ge_F p e rfl rfl (by omega) (by omega)) ?_
  refine Bod.aldnG dc_288_9 (by repeat (first | exact h1 | exact sm_get_p1 | exact sm_get_p2e | refine sm_get_p1m (by decide) (by decide) ?_ | refine sm_get_p1n (by decide) rfl ?_ | refine sm_get_p2n (by decide) (by decide) rfl ?_)) ?_
  refine Bod.ildG dc_288_10 (by repeat (first | exact h6 | exact sm_get_p1 | exact sm_get_p2e | refine sm_get_p1m (by decide) (by decide) ?_ | refine sm_get_p1n (by decide) rfl ?_ | refine sm_get_p2n (by decide) (by decide) rfl ?_)) ?_
  refine Bod.baldN p rfl (by omega) (by omega) dc_288_12 (mk_107 _) (Or.inl rfl) ?_
  refine Bod.eqI (nI 39) (by first | assumption | rfl | exact congrArg nI (by omega) | (simp (disch := omega) only [rI, rIe, rA, rIA, rLA, rJA, rVI, rQI, rVA, rQA, upd_at,  rAI, rLI, rJI, nI_add, pk_sub, kc_0, kc_1, kc_2, kc_3, kc_4, kc_5, reduceIte, Nat.reduceEqDiff, Nat.add_zero, rI_hold, rI_hold, rL_hold, hx]; done)) ?_
  refine Bod.bip 35 (by decide) dc_288_13 ?_
  refine Bod.icF dc_288_15 rfl (k2_eq_F (k_ne 39 35 rfl rfl (by omega) (by omega) (by omega))) ?_
  refine Bod.aldnG dc_288_18 (by repeat (first | exact h1 | exact sm_get_p1 | exact sm_get_p2e | refine sm_get_p1m (by decide) (by decide) ?_ | refine sm_get_p1n (by decide) rfl ?_ | refine sm_get_p2n (by decide) (by decide) rfl ?_)) ?_
  refine Bod.ildG dc_288_19 (by repeat (first | exact h6 | exact sm_get_p1 | exact sm_get_p2e | refine sm_get_p1m (by decide) (by decide) ?_ | refine sm_get_p1n (by decide) rfl ?_ | refine sm_get_p2n (by decide) (by decide) rfl ?_)) ?_
  refine Bod.baldN p rfl (by omega) (by omega) dc_288_21 (mk_107 _) (Or.inl rfl) ?_
  refine Bod.eqI (nI 39) (by first | assumption | rfl | exact congrArg nI (by omega) | (simp (disch := omega) only [rI, rIe, rA, rIA, rLA, rJA, rVI, rQI, rVA, rQA, upd_at,  rAI, rLI, rJI, nI_add, pk_sub, kc_0, kc_1, kc_2, kc_3, kc_4, kc_5, reduceIte, Nat.reduceEqDiff, Nat.add_zero, rI_hold, rI_hold, rL_hold, hx]; done)) ?_
  refine Bod.ist dc_288_22 (by rw [ml_288]; exact Nat.le_of_ble_eq_true rfl) ?_
  refine Bod.ildG dc_288_24 (by repeat (first | exact h6 | exact sm_get_p1 | exact sm_get_p2e | refine sm_get_p1m (by decide) (by decide) ?_ | refine sm_get_p1n (by decide) rfl ?_ | refine sm_get_p2n (by decide) (by decide) rfl ?_)) ?_
  refine Bod.ist dc_288_26 (by rw [ml_288]; exact Nat.le_of_ble_eq_true rfl) ?_
  refine Bod.go dc_288_28 rfl ?_
  refine Bod.bip 32 (by decide) dc_288_30 ?_
  refine Bod.icT dc_288_32 rfl (k2_ne_T (k_ne 39 32 rfl rfl (by omega) (by omega) (by omega))) ?_
  refine Bod.go dc_288_41 rfl ?_
  refine Bod.stat (r := []) dc_288_43 kr_288_155 (Or.inl rfl) (by rw [np_289]; rfl) (by rw [np_289]; rfl) (by rw [np_289]; exact Nat.le_of_ble_eq_true rfl) (Nat.le_of_ble_eq_true rfl) (rLet_F (x := (nI 39)) (by decide) (by decide)) ?_
  show Bod _ _ _ _ [_] _ _ _
  refine Bod.ifT dc_288_46 rfl (k1_eq_T (k_eq 0 0 rfl rfl (by omega))) ?_
  refine Bod.go dc_288_161 rfl ?_
  refine Bod.stat (r := []) dc_288_163 kr_288_159 (Or.inl rfl) (by rw [np_290]; rfl) (by rw [np_290]; rfl) (by rw [np_290]; exact Nat.le_of_ble_eq_true rfl) (Nat.le_of_ble_eq_true rfl) (rDig_F (x := (nI 39)) (by decide) (by decide)) ?_
  show Bod _ _ _ _ [_] _ _ _
  refine Bod.ifT dc_288_166 rfl (k1_eq_T (k_eq 0 0 rfl rfl (by omega))) ?_
  refine Bod.go dc_288_286 rfl ?_
  refine Bod.bip 39 (by decide) dc_288_288 ?_
  refine Bod.icF dc_288_290 rfl (k2_ne_F (k_eq 39 39 rfl rfl (by omega))) ?_
  refine Bod.incN (p + 1) (by rw [kc_1, nI_add]) dc_288_293 (by rw [ml_288]; exact Nat.le_of_ble_eq_true rfl) (by repeat (first | exact h6 | exact sm_get_p1 | exact sm_get_p2e | refine sm_get_p1m (by decide) (by decide) ?_ | refine sm_get_p1n (by decide) rfl ?_ | refine sm_get_p2n (by decide) (by decide) rfl ?_)) ?_
  exact hB _ (by repeat (first | exact h0 | exact sm_get_p1 | exact sm_get_p2e | refine sm_get_p1m (by decide) (by decide) ?_ | refine sm_get_p1n (by decide) rfl ?_ | refine sm_get_p2n (by decide) (by decide) rfl ?_)) (by repeat (first | exact h1 | exact sm_get_p1 | exact sm_get_p2e | refine sm_get_p1m (by decide) (by decide) ?_ | refine sm_get_p1n (by decide) rfl ?_ | refine sm_get_p2n (by decide) (by decide) rfl ?_)) (by repeat (first | exact h3 | exact sm_get_p1 | exact sm_get_p2e | refine sm_get_p1m (by decide) (by decide) ?_ | refine sm_get_p1n (by decide) rfl ?_ | refine sm_get_p2n (by decide) (by decide) rfl ?_)) (by repeat (first | exact h4 | exact sm_get_p1 | exact sm_get_p2e | refine sm_get_p1m (by decide) (by decide) ?_ | refine sm_get_p1n (by decide) rfl ?_ | refine sm_get_p2n (by decide) (by decide) rfl ?_)) (by repeat (first | exact h5 | exact sm_get_p1 | exact sm_get_p2e | refine sm_get_p1m (by decide) (by decide) ?_ | refine sm_get_p1n (by decide) rfl ?_ | refine sm_get_p2n (by decide) (by decide) rfl ?_)) (by repeat (first | exact h6 | exact sm_get_p1 | exact sm_get_p2e | refine sm_get_p1m (by decide) (by decide) ?_ | refine sm_get_p1n (by decide) rfl ?_ | refine sm_get_p2n (by decide) (by decide) rfl ?_)) (by repeat (first | exact sm_get_p1 | exact sm_get_p2e | refine sm_get_p1m (by decide) (by decide) ?_ | refine sm_get_p1n (by decide) rfl ?_ | refine sm_get_p2n (by decide) (by decide) rfl ?_ | rfl)) (by repeat (first | exact sm_get_p1 | exact sm_get_p2e | refine sm_get_p1m (by decide) (by decide) ?_ | refine sm_get_p1n (by decide) rfl ?_ | refine sm_get_p2n (by decide) (by decide) rfl ?_ | rfl))
theorem rl_str1 {d : Nat} {S Sf : cS} {lv : sm_L} {v : Option Value} {e : Nat} {l : Nat} {bl : Nat} {p : Nat} {x : Int32} {st : Nat} {b : Nat} (heM : e ≤ 3000) (hp : p ≤ e) (h0 : sm_get lv 0 = some (.ref 61)) (h1 : sm_get lv 1 = some (.ref 107)) (h3 : sm_get lv 3 = some (.int (nI e))) (h4 : sm_get lv 4 = some (.int (nI l))) (h5 : sm_get lv 5 = some (.int (nI bl))) (h6 : sm_get lv 6 = some (.int (nI p))) (h7 : sm_get lv 7 = some (.int x)) (h8 : sm_get lv 8 = some (.int (nI st))) (hin : p < e) (hx : sA S 107 p = nI b) (b39 : b ≠ 39) (b32 : 32 ≤ b) (b126 : b ≤ 126) (hB : ∀ lv1 : sm_L, sm_get lv1 0 = some (.ref 61) → sm_get lv1 1 = some (.ref 107) → sm_get lv1 3 = some (.int (nI e)) → sm_get lv1 4 = some (.int (nI l)) → sm_get lv1 5 = some (.int (nI bl)) → sm_get lv1 6 = some (.int (nI (p + 1))) → sm_get lv1 7 = some (.int x) → sm_get lv1 8 = some (.int (nI st)) → Bod (d + 8) 288 296 lv1 [] (S) v Sf) : Bod (d + 8) 288 296 lv [] S v Sf := by
  refine Bod.ildG dc_288_296 (by repeat (first | exact h6 | exact sm_get_p1 | exact sm_get_p2e | refine sm_get_p1m (by decide) (by decide) ?_ | refine sm_get_p1n (by decide) rfl ?_ | refine sm_get_p2n (by decide) (by decide) rfl ?_)) ?_
  refine Bod.ildnG dc_288_298 (by repeat (first | exact h3 | exact sm_get_p1 | exact sm_get_p2e | refine sm_get_p1m (by decide) (by decide) ?_ | refine sm_get_p1n (by decide) rfl ?_ | refine sm_get_p2n (by decide) (by decide) rfl ?_)) ?_
  refine Bod.icF dc_288_299 rfl (k2_ge_F p e rfl rfl (by omega) (by omega)) ?_
  refine Bod.aldnG dc_288_302 (by repeat (first | exact h1 | exact sm_get_p1 | exact sm_get_p2e | refine sm_get_p1m (by decide) (by decide) ?_ | refine sm_get_p1n (by decide) rfl ?_ | refine sm_get_p2n (by decide) (by decide) rfl ?_)) ?_
  refine Bod.ildG dc_288_303 (by repeat (first | exact h6 | exact sm_get_p1 | exact sm_get_p2e | refine sm_get_p1m (by decide) (by decide) ?_ | refine sm_get_p1n (by decide) rfl ?_ | refine sm_get_p2n (by decide) (by decide) rfl ?_)) ?_
  refine Bod.baldN p rfl (by omega) (by omega) dc_288_305 (mk_107 _) (Or.inl rfl) ?_
  refine Bod.eqI (nI b) (by first | assumption | rfl | exact congrArg nI (by omega) | (simp (disch := omega) only [rI, rIe, rA, rIA, rLA, rJA, rVI, rQI, rVA, rQA, upd_at,  rAI, rLI, rJI, nI_add, pk_sub, kc_0, kc_1, kc_2, kc_3, kc_4, kc_5, reduceIte, Nat.reduceEqDiff, Nat.add_zero, rI_hold, rI_hold, rL_hold, hx]; done)) ?_
  refine Bod.bip 39 (by decide) dc_288_306 ?_
  refine Bod.icF dc_288_308 rfl (k2_eq_F (k_ne b 39 rfl rfl (by omega) (by omega) (by omega))) ?_
  refine Bod.aldnG dc_288_311 (by repeat (first | exact h1 | exact sm_get_p1 | exact sm_get_p2e | refine sm_get_p1m (by decide) (by decide) ?_ | refine sm_get_p1n (by decide) rfl ?_ | refine sm_get_p2n (by decide) (by decide) rfl ?_)) ?_
  refine Bod.ildG dc_288_312 (by repeat (first | exact h6 | exact sm_get_p1 | exact sm_get_p2e | refine sm_get_p1m (by decide) (by decide) ?_ | refine sm_get_p1n (by decide) rfl ?_ | refine sm_get_p2n (by decide) (by decide) rfl ?_)) ?_
  refine Bod.baldN p rfl (by omega) (by omega) dc_288_314 (mk_107 _) (Or.inl rfl) ?_
  refine Bod.eqI (nI b) (by first | assumption | rfl | exact congrArg nI (by omega) | (simp (disch := omega) only [rI, rIe, rA, rIA, rLA, rJA, rVI, rQI, rVA, rQA, upd_at,  rAI, rLI, rJI, nI_add, pk_sub, kc_0, kc_1, kc_2, kc_3, kc_4, kc_5, reduceIte, Nat.reduceEqDiff, Nat.add_zero, rI_hold, rI_hold, rL_hold, hx]; done)) ?_
  refine Bod.bip 32 (by decide) dc_288_315 ?_
  refine Bod.icF dc_288_317 rfl (k2_lt_F b 32 rfl rfl (by omega) (by omega)) ?_
  refine Bod.aldnG dc_288_320 (by repeat (first | exact h1 | exact sm_get_p1 | exact sm_get_p2e | refine sm_get_p1m (by decide) (by decide) ?_ | refine sm_get_p1n (by decide) rfl ?_ | refine sm_get_p2n (by decide) (by decide) rfl ?_)) ?_
  refine Bod.ildG dc_288_321 (by repeat (first | exact h6 | exact sm_get_p1 | exact sm_get_p2e | refine sm_get_p1m (by decide) (by decide) ?_ | refine sm_get_p1n (by decide) rfl ?_ | refine sm_get_p2n (by decide) (by decide) rfl ?_)) ?_
  refine Bod.baldN p rfl (by omega) (by omega) dc_288_323 (mk_107 _) (Or.inl rfl) ?_
  refine Bod.eqI (nI b) (by first | assumption | rfl | exact congrArg nI (by omega) | (simp (disch := omega) only [rI, rIe, rA, rIA, rLA, rJA, rVI, rQI, rVA, rQA, upd_at,  rAI, rLI, rJI, nI_add, pk_sub, kc_0, kc_1, kc_2, kc_3, kc_4, kc_5, reduceIte, Nat.reduceEqDiff, Nat.add_zero, rI_hold, rI_hold, rL_hold, hx]; done)) ?_
  refine Bod.bip 126 (by decide) dc_288_324 ?_
  refine Bod.icF dc_288_326 rfl (k2_gt_F b 126 rfl rfl (by omega) (by omega)) ?_
  refine Bod.incN (p + 1) (by rw [kc_1, nI_add]) dc_288_329 (by rw [ml_288]; exact Nat.le_of_ble_eq_true rfl) (by repeat (first | exact h6 | exact sm_get_p1 | exact sm_get_p2e | refine sm_get_p1m (by decide) (by decide) ?_ | refine sm_get_p1n (by decide) rfl ?_ | refine sm_get_p2n (by decide) (by decide) rfl ?_)) ?_
  refine Bod.go dc_288_332 rfl ?_
  exact hB _ (by repeat (first | exact h0 | exact sm_get_p1 | exact sm_get_p2e | refine sm_get_p1m (by decide) (by decide) ?_ | refine sm_get_p1n (by decide) rfl ?_ | refine sm_get_p2n (by decide) (by decide) rfl ?_)) (by repeat (first | exact h1 | exact sm_get_p1 | exact sm_get_p2e | refine sm_get_p1m (by decide) (by decide) ?_ | refine sm_get_p1n (by decide) rfl ?_ | refine sm_get_p2n (by decide) (by decide) rfl ?_)) (by repeat (first | exact h3 | exact sm_get_p1 | exact sm_get_p2e | refine sm_get_p1m (by decide) (by decide) ?_ | refine sm_get_p1n (by decide) rfl ?_ | refine sm_get_p2n (by decide) (by decide) rfl ?_)) (by repeat (first | exact h4 | exact sm_get_p1 | exact sm_get_p2e | refine sm_get_p1m (by decide) (by decide) ?_ | refine sm_get_p1n (by decide) rfl ?_ | refine sm_get_p2n (by decide) (by decide) rfl ?_)) (by repeat (first | exact h5 | exact sm_get_p1 | exact sm_get_p2e | refine sm_get_p1m (by decide) (by decide) ?_ | refine sm_get_p1n (by decide) rfl ?_ | refine sm_get_p2n (by decide) (by decide) rfl ?_)) (by repeat (first | exact h6 | exact sm_get_p1 | exact sm_get_p2e | refine sm_get_p1m (by decide) (by decide) ?_ | refine sm_get_p1n (by decide) rfl ?_ | refine sm_get_p2n (by decide) (by decide) rfl ?_)) (by repeat (first | exact h7 | exact sm_get_p1 | exact sm_get_p2e | refine sm_get_p1m (by decide) (by decide) ?_ | refine sm_get_p1n (by decide) rfl ?_ | refine sm_get_p2n (by decide) (by decide) rfl ?_)) (by repeat (first | exact h8 | exact sm_get_p1 | exact sm_get_p2e | refine sm_get_p1m (by decide) (by decide) ?_ | refine sm_get_p1n (by decide) rfl ?_ | refine sm_get_p2n (by decide) (by decide) rfl ?_))
theorem rl_str2 {d : Nat} {S Sf : cS} {lv : sm_L} {v : Option Value} {e : Nat} {l : Nat} {bl : Nat} {p : Nat} {x : Int32} {st : Nat} (heM : e ≤ 3000) (hp : p ≤ e) (h0 : sm_get lv 0 = some (.ref 61)) (h1 : sm_get lv 1 = some (.ref 107)) (h3 : sm_get lv 3 = some (.int (nI e))) (h4 : sm_get lv 4 = some (.int (nI l))) (h5 : sm_get lv 5 = some (.int (nI bl))) (h6 : sm_get lv 6 = some (.int (nI p))) (h7 : sm_get lv 7 = some (.int x)) (h8 : sm_get lv 8 = some (.int (nI st))) (hin : p = e) (hB : ∀ lv1 : sm_L, sm_get lv1 0 = some (.ref 61) → sm_get lv1 1 = some (.ref 107) → sm_get lv1 3 = some (.int (nI e)) → sm_get lv1 4 = some (.int (nI l)) → sm_get lv1 5 = some (.int (nI bl)) → sm_get lv1 6 = some (.int (nI (p))) → sm_get lv1 7 = some (.int x) → sm_get lv1 8 = some (.int (nI st)) → Bod (d + 8) 288 335 lv1 [] (S) v Sf) : Bod (d + 8) 288 296 lv [] S v Sf := by
  refine Bod.ildG dc_288_296 (by repeat (first | exact h6 | exact sm_get_p1 | exact sm_get_p2e | refine sm_get_p1m (by decide) (by decide) ?_ | refine sm_get_p1n (by decide) rfl ?_ | refine sm_get_p2n (by decide) (by decide) rfl ?_)) ?_
  refine Bod.ildnG dc_288_298 (by repeat (first | exact h3 | exact sm_get_p1 | exact sm_get_p2e | refine sm_get_p1m (by decide) (by decide) ?_ | refine sm_get_p1n (by decide) rfl ?_ | refine sm_get_p2n (by decide) (by decide) rfl ?_)) ?_
  refine Bod.icT dc_288_299 rfl (k2_ge_T p e rfl rfl (by omega) (by omega)) ?_
  exact hB _ (by repeat (first | exact h0 | exact sm_get_p1 | exact sm_get_p2e | refine sm_get_p1m (by decide) (by decide) ?_ | refine sm_get_p1n (by decide) rfl ?_ | refine sm_get_p2n (by decide) (by decide) rfl ?_)) (by repeat (first | exact h1 | exact sm_get_p1 | exact sm_get_p2e | refine sm_get_p1m (by decide) (by decide) ?_ | refine sm_get_p1n (by decide) rfl ?_ | refine sm_get_p2n (by decide) (by decide) rfl ?_)) (by repeat (first | exact h3 | exact sm_get_p1 | exact sm_get_p2e | refine sm_get_p1m (by decide) (by decide) ?_ | refine sm_get_p1n (by decide) rfl ?_ | refine sm_get_p2n (by decide) (by decide) rfl ?_)) (by repeat (first | exact h4 | exact sm_get_p1 | exact sm_get_p2e | refine sm_get_p1m (by decide) (by decide) ?_ | refine sm_get_p1n (by decide) rfl ?_ | refine sm_get_p2n (by decide) (by decide) rfl ?_)) (by repeat (first | exact h5 | exact sm_get_p1 | exact sm_get_p2e | refine sm_get_p1m (by decide) (by decide) ?_ | refine sm_get_p1n (by decide) rfl ?_ | refine sm_get_p2n (by decide) (by decide) rfl ?_)) (by repeat (first | exact h6 | exact sm_get_p1 | exact sm_get_p2e | refine sm_get_p1m (by decide) (by decide) ?_ | refine sm_get_p1n (by decide) rfl ?_ | refine sm_get_p2n (by decide) (by decide) rfl ?_)) (by repeat (first | exact h7 | exact sm_get_p1 | exact sm_get_p2e | refine sm_get_p1m (by decide) (by decide) ?_ | refine sm_get_p1n (by decide) rfl ?_ | refine sm_get_p2n (by decide) (by decide) rfl ?_)) (by repeat (first | exact h8 | exact sm_get_p1 | exact sm_get_p2e | refine sm_get_p1m (by decide) (by decide) ?_ | refine sm_get_p1n (by decide) rfl ?_ | refine sm_get_p2n (by decide) (by decide) rfl ?_))
theorem rl_str3 {d : Nat} {S Sf : cS} {lv : sm_L} {v : Option Value} {e : Nat} {l : Nat} {bl : Nat} {p : Nat} {x : Int32} {st : Nat} (heM : e ≤ 3000) (hp : p ≤ e) (h0 : sm_get lv 0 = some (.ref 61)) (h1 : sm_get lv 1 = some (.ref 107)) (h3 : sm_get lv 3 = some (.int (nI e))) (h4 : sm_get lv 4 = some (.int (nI l))) (h5 : sm_get lv 5 = some (.int (nI bl))) (h6 : sm_get lv 6 = some (.int (nI p))) (h7 : sm_get lv 7 = some (.int x)) (h8 : sm_get lv 8 = some (.int (nI st))) (hin : p < e) (hx : sA S 107 p = nI 39) (hB : ∀ lv1 : sm_L, sm_get lv1 0 = some (.ref 61) → sm_get lv1 1 = some (.ref 107) → sm_get lv1 3 = some (.int (nI e)) → sm_get lv1 4 = some (.int (nI l)) → sm_get lv1 5 = some (.int (nI bl)) → sm_get lv1 6 = some (.int (nI (p))) → sm_get lv1 7 = some (.int x) → sm_get lv1 8 = some (.int (nI st)) → Bod (d + 8) 288 335 lv1 [] (S) v Sf) : Bod (d + 8) 288 296 lv [] S v Sf := by
  refine Bod.ildG dc_288_296 (by repeat (first | exact h6 | exact sm_get_p1 | exact sm_get_p2e | refine sm_get_p1m (by decide) (by decide) ?_ | refine sm_get_p1n (by decide) rfl ?_ | refine sm_get_p2n (by decide) (by decide) rfl ?_)) ?_
  refine Bod.ildnG dc_288_298 (by repeat (first | exact h3 | exact sm_get_p1 | exact sm_get_p2e | refine sm_get_p1m (by decide) (by decide) ?_ | refine sm_get_p1n (by decide) rfl ?_ | refine sm_get_p2n (by decide) (by decide) rfl ?_)) ?_
  refine Bod.icF dc_288_299 rfl (k2_ge_F p e rfl rfl (by omega) (by omega)) ?_
  refine Bod.aldnG dc_288_302 (by repeat (first | exact h1 | exact sm_get_p1 | exact sm_get_p2e | refine sm_get_p1m (by decide) (by decide) ?_ | refine sm_get_p1n (by decide) rfl ?_ | refine sm_get_p2n (by decide) (by decide) rfl ?_)) ?_
  refine Bod.ildG dc_288_303 (by repeat (first | exact h6 | exact sm_get_p1 | exact sm_get_p2e | refine sm_get_p1m (by decide) (by decide) ?_ | refine sm_get_p1n (by decide) rfl ?_ | refine sm_get_p2n (by decide) (by decide) rfl ?_)) ?_
  refine Bod.baldN p rfl (by omega) (by omega) dc_288_305 (mk_107 _) (Or.inl rfl) ?_
  refine Bod.eqI (nI 39) (by first | assumption | rfl | exact congrArg nI (by omega) | (simp (disch := omega) only [rI, rIe, rA, rIA, rLA, rJA, rVI, rQI, rVA, rQA, upd_at,  rAI, rLI, rJI, nI_add, pk_sub, kc_0, kc_1, kc_2, kc_3, kc_4, kc_5, reduceIte, Nat.reduceEqDiff, Nat.add_zero, rI_hold, rI_hold, rL_hold, hx]; done)) ?_
  refine Bod.bip 39 (by decide) dc_288_306 ?_
  refine Bod.icT dc_288_308 rfl (k2_eq_T (k_eq 39 39 rfl rfl (by omega))) ?_
  exact hB _ (by repeat (first | exact h0 | exact sm_get_p1 | exact sm_get_p2e | refine sm_get_p1m (by decide) (by decide) ?_ | refine sm_get_p1n (by decide) rfl ?_ | refine sm_get_p2n (by decide) (by decide) rfl ?_)) (by repeat (first | exact h1 | exact sm_get_p1 | exact sm_get_p2e | refine sm_get_p1m (by decide) (by decide) ?_ | refine sm_get_p1n (by decide) rfl ?_ | refine sm_get_p2n (by decide) (by decide) rfl ?_)) (by repeat (first | exact h3 | exact sm_get_p1 | exact sm_get_p2e | refine sm_get_p1m (by decide) (by decide) ?_ | refine sm_get_p1n (by decide) rfl ?_ | refine sm_get_p2n (by decide) (by decide) rfl ?_)) (by repeat (first | exact h4 | exact sm_get_p1 | exact sm_get_p2e | refine sm_get_p1m (by decide) (by decide) ?_ | refine sm_get_p1n (by decide) rfl ?_ | refine sm_get_p2n (by decide) (by decide) rfl ?_)) (by repeat (first | exact h5 | exact sm_get_p1 | exact sm_get_p2e | refine sm_get_p1m (by decide) (by decide) ?_ | refine sm_get_p1n (by decide) rfl ?_ | refine sm_get_p2n (by decide) (by decide) rfl ?_)) (by repeat (first | exact h6 | exact sm_get_p1 | exact sm_get_p2e | refine sm_get_p1m (by decide) (by decide) ?_ | refine sm_get_p1n (by decide) rfl ?_ | refine sm_get_p2n (by decide) (by decide) rfl ?_)) (by repeat (first | exact h7 | exact sm_get_p1 | exact sm_get_p2e | refine sm_get_p1m (by decide) (by decide) ?_ | refine sm_get_p1n (by decide) rfl ?_ | refine sm_get_p2n (by decide) (by decide) rfl ?_)) (by repeat (first | exact h8 | exact sm_get_p1 | exact sm_get_p2e | refine sm_get_p1m (by decide) (by decide) ?_ | refine sm_get_p1n (by decide) rfl ?_ | refine sm_get_p2n (by decide) (by decide) rfl ?_))
theorem rl_str4 {d : Nat} {S Sf : cS} {lv : sm_L} {v : Option Value} {e : Nat} {l : Nat} {bl : Nat} {p : Nat} {x : Int32} {st : Nat} {b : Nat} (heM : e ≤ 3000) (hp : p ≤ e) (h0 : sm_get lv 0 = some (.ref 61)) (h1 : sm_get lv 1 = some (.ref 107)) (h3 : sm_get lv 3 = some (.int (nI e))) (h4 : sm_get lv 4 = some (.int (nI l))) (h5 : sm_get lv 5 = some (.int (nI bl))) (h6 : sm_get lv 6 = some (.int (nI p))) (h7 : sm_get lv 7 = some (.int x)) (h8 : sm_get lv 8 = some (.int (nI st))) (hin : p < e) (hx : sA S 107 p = nI b) (b32 : b < 32) (hB : ∀ lv1 : sm_L, sm_get lv1 0 = some (.ref 61) → sm_get lv1 1 = some (.ref 107) → sm_get lv1 3 = some (.int (nI e)) → sm_get lv1 4 = some (.int (nI l)) → sm_get lv1 5 = some (.int (nI bl)) → sm_get lv1 6 = some (.int (nI (p))) → sm_get lv1 7 = some (.int x) → sm_get lv1 8 = some (.int (nI st)) → Bod (d + 8) 288 335 lv1 [] (S) v Sf) : Bod (d + 8) 288 296 lv [] S v Sf := by
  refine Bod.ildG dc_288_296 (by repeat (first | exact h6 | exact sm_get_p1 | exact sm_get_p2e | refine sm_get_p1m (by decide) (by decide) ?_ | refine sm_get_p1n (by decide) rfl ?_ | refine sm_get_p2n (by decide) (by decide) rfl ?_)) ?_
  refine Bod.ildnG dc_288_298 (by repeat (first | exact h3 | exact sm_get_p1 | exact sm_get_p2e | refine sm_get_p1m (by decide) (by decide) ?_ | refine sm_get_p1n (by decide) rfl ?_ | refine sm_get_p2n (by decide) (by decide) rfl ?_)) ?_
  refine Bod.icF dc_288_299 rfl (k2_ge_F p e rfl rfl (by omega) (by omega)) ?_
  refine Bod.aldnG dc_288_302 (by repeat (first | exact h1 | exact sm_get_p1 | exact sm_get_p2e | refine sm_get_p1m (by decide) (by decide) ?_ | refine sm_get_p1n (by decide) rfl ?_ | refine sm_get_p2n (by decide) (by decide) rfl ?_)) ?_
  refine Bod.ildG dc_288_303 (by repeat (first | exact h6 | exact sm_get_p1 | exact sm_get_p2e | refine sm_get_p1m (by decide) (by decide) ?_ | refine sm_get_p1n (by decide) rfl ?_ | refine sm_get_p2n (by decide) (by decide) rfl ?_)) ?_
  refine Bod.baldN p rfl (by omega) (by omega) dc_288_305 (mk_107 _) (Or.inl rfl) ?_
  refine Bod.eqI (nI b) (by first | assumption | rfl | exact congrArg nI (by omega) | (simp (disch := omega) only [rI, rIe, rA, rIA, rLA, rJA, rVI, rQI, rVA, rQA, upd_at,  rAI, rLI, rJI, nI_add, pk_sub, kc_0, kc_1, kc_2, kc_3, kc_4, kc_5, reduceIte, Nat.reduceEqDiff, Nat.add_zero, rI_hold, rI_hold, rL_hold, hx]; done)) ?_
  refine Bod.bip 39 (by decide) dc_288_306 ?_
  refine Bod.icF dc_288_308 rfl (k2_eq_F (k_ne b 39 rfl rfl (by omega) (by omega) (by omega))) ?_
  refine Bod.aldnG dc_288_311 (by repeat (first | exact h1 | exact sm_get_p1 | exact sm_get_p2e | refine sm_get_p1m (by decide) (by decide) ?_ | refine sm_get_p1n (by decide) rfl ?_ | refine sm_get_p2n (by decide) (by decide) rfl ?_)) ?_
  refine Bod.ildG dc_288_312 (by repeat (first | exact h6 | exact sm_get_p1 | exact sm_get_p2e | refine sm_get_p1m (by decide) (by decide) ?_ | refine sm_get_p1n (by decide) rfl ?_ | refine sm_get_p2n (by decide) (by decide) rfl ?_)) ?_
  refine Bod.baldN p rfl (by omega) (by omega) dc_288_314 (mk_107 _) (Or.inl rfl) ?_
  refine Bod.eqI (nI b) (by first | assumption | rfl | exact congrArg nI (by omega) | (simp (disch := omega) only [rI, rIe, rA, rIA, rLA, rJA, rVI, rQI, rVA, rQA, upd_at,  rAI, rLI, rJI, nI_add, pk_sub, kc_0, kc_1, kc_2, kc_3, kc_4, kc_5, reduceIte, Nat.reduceEqDiff, Nat.add_zero, rI_hold, rI_hold, rL_hold, hx]; done)) ?_
  refine Bod.bip 32 (by decide) dc_288_315 ?_
  refine Bod.icT dc_288_317 rfl (k2_lt_T b 32 rfl rfl (by omega) (by omega)) ?_
  exact hB _ (by repeat (first | exact h0 | exact sm_get_p1 | exact sm_get_p2e | refine sm_get_p1m (by decide) (by decide) ?_ | refine sm_get_p1n (by decide) rfl ?_ | refine sm_get_p2n (by decide) (by decide) rfl ?_)) (by repeat (first | exact h1 | exact sm_get_p1 | exact sm_get_p2e | refine sm_get_p1m (by decide) (by decide) ?_ | refine sm_get_p1n (by decide) rfl ?_ | refine sm_get_p2n (by decide) (by decide) rfl ?_)) (by repeat (first | exact h3 | exact sm_get_p1 | exact sm_get_p2e | refine sm_get_p1m (by decide) (by decide) ?_ | refine sm_get_p1n (by decide) rfl ?_ | refine sm_get_p2n (by decide) (by decide) rfl ?_)) (by repeat (first | exact h4 | exact sm_get_p1 | exact sm_get_p2e | refine sm_get_p1m (by decide) (by decide) ?_ | refine sm_get_p1n (by decide) rfl ?_ | refine sm_get_p2n (by decide) (by decide) rfl ?_)) (by repeat (first | exact h5 | exact sm_get_p1 | exact sm_get_p2e | refine sm_get_p1m (by decide) (by decide) ?_ | refine sm_get_p1n (by decide) rfl ?_ | refine sm_get_p2n (by decide) (by decide) rfl ?_)) (by repeat (first | exact h6 | exact sm_get_p1 | exact sm_get_p2e | refine sm_get_p1m (by decide) (by decide) ?_ | refine sm_get_p1n (by decide) rfl ?_ | refine sm_get_p2n (by decide) (by decide) rfl ?_)) (by repeat (first | exact h7 | exact sm_get_p1 | exact sm_get_p2e | refine sm_get_p1m (by decide) (by decide) ?_ | refine sm_get_p1n (by decide) rfl ?_ | refine sm_get_p2n (by decide) (by decide) rfl ?_)) (by repeat (first | exact h8 | exact sm_get_p1 | exact sm_get_p2e | refine sm_get_p1m (by decide) (by decide) ?_ | refine sm_get_p1n (by decide) rfl ?_ | refine sm_get_p2n (by decide) (by decide) rfl ?_))
theorem rl_str5 {d : Nat} {S Sf : cS} {lv : sm_L} {v : Option Value} {e : Nat} {l : Nat} {bl : Nat} {p : Nat} {x : Int32} {st : Nat} {b : Nat} (heM : e ≤ 3000) (hp : p ≤ e) (h0 : sm_get lv 0 = some (.ref 61)) (h1 : sm_get lv 1 = some (.ref 107)) (h3 : sm_get lv 3 = some (.int (nI e))) (h4 : sm_get lv 4 = some (.int (nI l))) (h5 : sm_get lv 5 = some (.int (nI bl))) (h6 : sm_get lv 6 = some (.int (nI p))) (h7 : sm_get lv 7 = some (.int x)) (h8 : sm_get lv 8 = some (.int (nI st))) (hin : p < e) (hx : sA S 107 p = nI b) (b126 : 126 < b) (b128 : b < 128) (hB : ∀ lv1 : sm_L, sm_get lv1 0 = some (.ref 61) → sm_get lv1 1 = some (.ref 107) → sm_get lv1 3 = some (.int (nI e)) → sm_get lv1 4 = some (.int (nI l)) → sm_get lv1 5 = some (.int (nI bl)) → sm_get lv1 6 = some (.int (nI (p))) → sm_get lv1 7 = some (.int x) → sm_get lv1 8 = some (.int (nI st)) → Bod (d + 8) 288 335 lv1 [] (S) v Sf) : Bod (d + 8) 288 296 lv [] S v Sf := by
  refine Bod.ildG dc_288_296 (by repeat (first | exact h6 | exact sm_get_p1 | exact sm_get_p2e | refine sm_get_p1m (by decide) (by decide) ?_ | refine sm_get_p1n (by decide) rfl ?_ | refine sm_get_p2n (by decide) (by decide) rfl ?_)) ?_
  refine Bod.ildnG dc_288_298 (by repeat (first | exact h3 | exact sm_get_p1 | exact sm_get_p2e | refine sm_get_p1m (by decide) (by decide) ?_ | refine sm_get_p1n (by decide) rfl ?_ | refine sm_get_p2n (by decide) (by decide) rfl ?_)) ?_
  refine Bod.icF dc_288_299 rfl (k2_ge_F p e rfl rfl (by omega) (by omega)) ?_
  refine Bod.aldnG dc_288_302 (by repeat (first | exact h1 | exact sm_get_p1 | exact sm_get_p2e | refine sm_get_p1m (by decide) (by decide) ?_ | refine sm_get_p1n (by decide) rfl ?_ | refine sm_get_p2n (by decide) (by decide) rfl ?_)) ?_
  refine Bod.ildG dc_288_303 (by repeat (first | exact h6 | exact sm_get_p1 | exact sm_get_p2e | refine sm_get_p1m (by decide) (by decide) ?_ | refine sm_get_p1n (by decide) rfl ?_ | refine sm_get_p2n (by decide) (by decide) rfl ?_)) ?_
  refine Bod.baldN p rfl (by omega) (by omega) dc_288_305 (mk_107 _) (Or.inl rfl) ?_
  refine Bod.eqI (nI b) (by first | assumption | rfl | exact congrArg nI (by omega) | (simp (disch := omega) only [rI, rIe, rA, rIA, rLA, rJA, rVI, rQI, rVA, rQA, upd_at,  rAI, rLI, rJI, nI_add, pk_sub, kc_0, kc_1, kc_2, kc_3, kc_4, kc_5, reduceIte, Nat.reduceEqDiff, Nat.add_zero, rI_hold, rI_hold, rL_hold, hx]; done)) ?_
  refine Bod.bip 39 (by decide) dc_288_306 ?_
  refine Bod.icF dc_288_308 rfl (k2_eq_F (k_ne b 39 rfl rfl (by omega) (by omega) (by omega))) ?_
  refine Bod.aldnG dc_288_311 (by repeat (first | exact h1 | exact sm_get_p1 | exact sm_get_p2e | refine sm_get_p1m (by decide) (by decide) ?_ | refine sm_get_p1n (by decide) rfl ?_ | refine sm_get_p2n (by decide) (by decide) rfl ?_)) ?_
  refine Bod.ildG dc_288_312 (by repeat (first | exact h6 | exact sm_get_p1 | exact sm_get_p2e | refine sm_get_p1m (by decide) (by decide) ?_ | refine sm_get_p1n (by decide) rfl ?_ | refine sm_get_p2n (by decide) (by decide) rfl ?_)) ?_
  refine Bod.baldN p rfl (by omega) (by omega) dc_288_314 (mk_107 _) (Or.inl rfl) ?_
  refine Bod.eqI (nI b) (by first | assumption | rfl | exact congrArg nI (by omega) | (simp (disch := omega) only [rI, rIe, rA, rIA, rLA, rJA, rVI, rQI, rVA, rQA, upd_at,  rAI, rLI, rJI, nI_add, pk_sub, kc_0, kc_1, kc_2, kc_3, kc_4, kc_5, reduceIte, Nat.reduceEqDiff, Nat.add_zero, rI_hold, rI_hold, rL_hold, hx]; done)) ?_
  refine Bod.bip 32 (by decide) dc_288_315 ?_
  refine Bod.icF dc_288_317 rfl (k2_lt_F b 32 rfl rfl (by omega) (by omega)) ?_
  refine Bod.aldnG dc_288_320 (by repeat (first | exact h1 | exact sm_get_p1 | exact sm_get_p2e | refine sm_get_p1m (by decide) (by decide) ?_ | refine sm_get_p1n (by decide) rfl ?_ | refine sm_get_p2n (by decide) (by decide) rfl ?_)) ?_
  refine Bod.ildG dc_288_321 (by repeat (first | exact h6 | exact sm_get_p1 | exact sm_get_p2e | refine sm_get_p1m (by decide) (by decide) ?_ | refine sm_get_p1n (by decide) rfl ?_ | refine sm_get_p2n (by decide) (by decide) rfl ?_)) ?_
  refine Bod.baldN p rfl (by omega) (by omega) dc_288_323 (mk_107 _) (Or.inl rfl) ?_
  refine Bod.eqI (nI b) (by first | assumption | rfl | exact congrArg nI (by omega) | (simp (disch := omega) only [rI, rIe, rA, rIA, rLA, rJA, rVI, rQI, rVA, rQA, upd_at,  rAI, rLI, rJI, nI_add, pk_sub, kc_0, kc_1, kc_2, kc_3, kc_4, kc_5, reduceIte, Nat.reduceEqDiff, Nat.add_zero, rI_hold, rI_hold, rL_hold, hx]; done)) ?_
  refine Bod.bip 126 (by decide) dc_288_324 ?_
  refine Bod.icT dc_288_326 rfl (k2_gt_T b 126 rfl rfl (by omega) (by omega)) ?_
  exact hB _ (by repeat (first | exact h0 | exact sm_get_p1 | exact sm_get_p2e | refine sm_get_p1m (by decide) (by decide) ?_ | refine sm_get_p1n (by decide) rfl ?_ | refine sm_get_p2n (by decide) (by decide) rfl ?_)) (by repeat (first | exact h1 | exact sm_get_p1 | exact sm_get_p2e | refine sm_get_p1m (by decide) (by decide) ?_ | refine sm_get_p1n (by decide) rfl ?_ | refine sm_get_p2n (by decide) (by decide) rfl ?_)) (by repeat (first | exact h3 | exact sm_get_p1 | exact sm_get_p2e | refine sm_get_p1m (by decide) (by decide) ?_ | refine sm_get_p1n (by decide) rfl ?_ | refine sm_get_p2n (by decide) (by decide) rfl ?_)) (by repeat (first | exact h4 | exact sm_get_p1 | exact sm_get_p2e | refine sm_get_p1m (by decide) (by decide) ?_ | refine sm_get_p1n (by decide) rfl ?_ | refine sm_get_p2n (by decide) (by decide) rfl ?_)) (by repeat (first | exact h5 | exact sm_get_p1 | exact sm_get_p2e | refine sm_get_p1m (by decide) (by decide) ?_ | refine sm_get_p1n (by decide) rfl ?_ | refine sm_get_p2n (by decide) (by decide) rfl ?_)) (by repeat (first | exact h6 | exact sm_get_p1 | exact sm_get_p2e | refine sm_get_p1m (by decide) (by decide) ?_ | refine sm_get_p1n (by decide) rfl ?_ | refine sm_get_p2n (by decide) (by decide) rfl ?_)) (by repeat (first | exact h7 | exact sm_get_p1 | exact sm_get_p2e | refine sm_get_p1m (by decide) (by decide) ?_ | refine sm_get_p1n (by decide) rfl ?_ | refine sm_get_p2n (by decide) (by decide) rfl ?_)) (by repeat (first | exact h8 | exact sm_get_p1 | exact sm_get_p2e | refine sm_get_p1m (by decide) (by decide) ?_ | refine sm_get_p1n (by decide) rfl ?_ | refine sm_get_p2n (by decide) (by decide) rfl ?_))
theorem rl_str6 {d : Nat} {S Sf : cS} {lv : sm_L} {v : Option Value} {e : Nat} {l : Nat} {bl : Nat} {p : Nat} {x : Int32} {st : Nat} (heM : e ≤ 3000) (hp : p ≤ e) (h0 : sm_get lv 0 = some (.ref 61)) (h1 : sm_get lv 1 = some (.ref 107)) (h3 : sm_get lv 3 = some (.int (nI e))) (h4 : sm_get lv 4 = some (.int (nI l))) (h5 : sm_get lv 5 = some (.int (nI bl))) (h6 : sm_get lv 6 = some (.int (nI p))) (h7 : sm_get lv 7 = some (.int x)) (h8 : sm_get lv 8 = some (.int (nI st))) (hin : p < e) (hx39 : sA S 107 p ≠ nI 39) (hneg : sm_c2 .lt (sA S 107 p) (nI 32) true false = true) (hB : ∀ lv1 : sm_L, sm_get lv1 0 = some (.ref 61) → sm_get lv1 1 = some (.ref 107) → sm_get lv1 3 = some (.int (nI e)) → sm_get lv1 4 = some (.int (nI l)) → sm_get lv1 5 = some (.int (nI bl)) → sm_get lv1 6 = some (.int (nI (p))) → sm_get lv1 7 = some (.int x) → sm_get lv1 8 = some (.int (nI st)) → Bod (d + 8) 288 335 lv1 [] (S) v Sf) : Bod (d + 8) 288 296 lv [] S v Sf := by
  refine Bod.ildG dc_288_296 (by repeat (first | exact h6 | exact sm_get_p1 | exact sm_get_p2e | refine sm_get_p1m (by decide) (by decide) ?_ | refine sm_get_p1n (by decide) rfl ?_ | refine sm_get_p2n (by decide) (by decide) rfl ?_)) ?_
  refine Bod.ildnG dc_288_298 (by repeat (first | exact h3 | exact sm_get_p1 | exact sm_get_p2e | refine sm_get_p1m (by decide) (by decide) ?_ | refine sm_get_p1n (by decide) rfl ?_ | refine sm_get_p2n (by decide) (by decide) rfl ?_)) ?_
  refine Bod.icF dc_288_299 rfl (k2_ge_F p e rfl rfl (by omega) (by omega)) ?_
  refine Bod.aldnG dc_288_302 (by repeat (first | exact h1 | exact sm_get_p1 | exact sm_get_p2e | refine sm_get_p1m (by decide) (by decide) ?_ | refine sm_get_p1n (by decide) rfl ?_ | refine sm_get_p2n (by decide) (by decide) rfl ?_)) ?_
  refine Bod.ildG dc_288_303 (by repeat (first | exact h6 | exact sm_get_p1 | exact sm_get_p2e | refine sm_get_p1m (by decide) (by decide) ?_ | refine sm_get_p1n (by decide) rfl ?_ | refine sm_get_p2n (by decide) (by decide) rfl ?_)) ?_
  refine Bod.baldN p rfl (by omega) (by omega) dc_288_305 (mk_107 _) (Or.inl rfl) ?_
  refine Bod.bip 39 (by decide) dc_288_306 ?_
  refine Bod.icF dc_288_308 rfl (k2_eq_F hx39) ?_
  refine Bod.aldnG dc_288_311 (by repeat (first | exact h1 | exact sm_get_p1 | exact sm_get_p2e | refine sm_get_p1m (by decide) (by decide) ?_ | refine sm_get_p1n (by decide) rfl ?_ | refine sm_get_p2n (by decide) (by decide) rfl ?_)) ?_
  refine Bod.ildG dc_288_312 (by repeat (first | exact h6 | exact sm_get_p1 | exact sm_get_p2e | refine sm_get_p1m (by decide) (by decide) ?_ | refine sm_get_p1n (by decide) rfl ?_ | refine sm_get_p2n (by decide) (by decide) rfl ?_)) ?_
  refine Bod.baldN p rfl (by omega) (by omega) dc_288_314 (mk_107 _) (Or.inl rfl) ?_
  refine Bod.bip 32 (by decide) dc_288_315 ?_
  refine Bod.icT dc_288_317 rfl hneg ?_
  exact hB _ (by repeat (first | exact h0 | exact sm_get_p1 | exact sm_get_p2e | refine sm_get_p1m (by decide) (by decide) ?_ | refine sm_get_p1n (by decide) rfl ?_ | refine sm_get_p2n (by decide) (by decide) rfl ?_)) (by repeat (first | exact h1 | exact sm_get_p1 | exact sm_get_p2e | refine sm_get_p1m (by decide) (by decide) ?_ | refine sm_get_p1n (by decide) rfl ?_ | refine sm_get_p2n (by decide) (by decide) rfl ?_)) (by repeat (first | exact h3 | exact sm_get_p1 | exact sm_get_p2e | refine sm_get_p1m (by decide) (by decide) ?_ | refine sm_get_p1n (by decide) rfl ?_ | refine sm_get_p2n (by decide) (by decide) rfl ?_)) (by repeat (first | exact h4 | exact sm_get_p1 | exact sm_get_p2e | refine sm_get_p1m (by decide) (by decide) ?_ | refine sm_get_p1n (by decide) rfl ?_ | refine sm_get_p2n (by decide) (by decide) rfl ?_)) (by repeat (first | exact h5 | exact sm_get_p1 | exact sm_get_p2e | refine sm_get_p1m (by decide) (by decide) ?_ | refine sm_get_p1n (by decide) rfl ?_ | refine sm_get_p2n (by decide) (by decide) rfl ?_)) (by repeat (first | exact h6 | exact sm_get_p1 | exact sm_get_p2e | refine sm_get_p1m (by decide) (by decide) ?_ | refine sm_get_p1n (by decide) rfl ?_ | refine sm_get_p2n (by decide) (by decide) rfl ?_)) (by repeat (first | exact h7 | exact sm_get_p1 | exact sm_get_p2e | refine sm_get_p1m (by decide) (by decide) ?_ | refine sm_get_p1n (by decide) rfl ?_ | refine sm_get_p2n (by decide) (by decide) rfl ?_)) (by repeat (first | exact h8 | exact sm_get_p1 | exact sm_get_p2e | refine sm_get_p1m (by decide) (by decide) ?_ | refine sm_get_p1n (by decide) rfl ?_ | refine sm_get_p2n (by decide) (by decide) rfl ?_))
theorem rl_text {d : Nat} {S Sf : cS} {lv : sm_L} {v : Option Value} {e : Nat} {l : Nat} {bl : Nat} {p : Nat} {x : Int32} {st : Nat} {t : Nat} {k1 : Int64} {k2 : Int64} (heM : e ≤ 3000) (hp : p ≤ e) (h0 : sm_get lv 0 = some (.ref 61)) (h1 : sm_get lv 1 = some (.ref 107)) (h3 : sm_get lv 3 = some (.int (nI e))) (h4 : sm_get lv 4 = some (.int (nI l))) (h5 : sm_get lv 5 = some (.int (nI bl))) (h6 : sm_get lv 6 = some (.int (nI p))) (h7 : sm_get lv 7 = some (.int x)) (h8 : sm_get lv 8 = some (.int (nI st))) (hin : p < e) (hst : st + 1 ≤ p) (hx : sA S 107 p = nI 39) (hl : p - 1 - st ≤ 15) (ht : sI S 6112 = nI t) (htM : t < 6002) (hK1 : Ans (d + 8) 297 [.ref 107, .int (nI (st + 1)), .int (nI (p - 1 - st)), .int (nI 0)] S (some (.long k1)) S) (hK2 : Ans (d + 8) 297 [.ref 107, .int (nI (st + 1)), .int (nI (p - 1 - st)), .int (nI 1)] (wL 71 t k1 S) (some (.long k2)) (wL 71 t k1 S)) (hB : ∀ lv1 : sm_L, sm_get lv1 0 = some (.ref 61) → sm_get lv1 1 = some (.ref 107) → sm_get lv1 3 = some (.int (nI e)) → sm_get lv1 4 = some (.int (nI l)) → sm_get lv1 5 = some (.int (nI bl)) → sm_get lv1 6 = some (.int (nI (p + 1))) → Bod (d + 8) 288 3 lv1 [] (wI 6112 (nI (t + 1)) (wA 70 t ((nI bl)) (wA 69 t ((nI l)) (wA 68 t ((nI 0)) (wA 67 t ((nI 4)) (wL 72 t k2 (wL 71 t k1 S))))))) v Sf) : Bod (d + 8) 288 335 lv [] S v Sf := by
  refine Bod.ildG dc_288_335 (by repeat (first | exact h6 | exact sm_get_p1 | exact sm_get_p2e | refine sm_get_p1m (by decide) (by decide) ?_ | refine sm_get_p1n (by decide) rfl ?_ | refine sm_get_p2n (by decide) (by decide) rfl ?_)) ?_
  refine Bod.ildnG dc_288_337 (by repeat (first | exact h3 | exact sm_get_p1 | exact sm_get_p2e | refine sm_get_p1m (by decide) (by decide) ?_ | refine sm_get_p1n (by decide) rfl ?_ | refine sm_get_p2n (by decide) (by decide) rfl ?_)) ?_
  refine Bod.icF dc_288_338 rfl (k2_ge_F p e rfl rfl (by omega) (by omega)) ?_
  refine Bod.aldnG dc_288_341 (by repeat (first | exact h1 | exact sm_get_p1 | exact sm_get_p2e | refine sm_get_p1m (by decide) (by decide) ?_ | refine sm_get_p1n (by decide) rfl ?_ | refine sm_get_p2n (by decide) (by decide) rfl ?_)) ?_
  refine Bod.ildG dc_288_342 (by repeat (first | exact h6 | exact sm_get_p1 | exact sm_get_p2e | refine sm_get_p1m (by decide) (by decide) ?_ | refine sm_get_p1n (by decide) rfl ?_ | refine sm_get_p2n (by decide) (by decide) rfl ?_)) ?_
  refine Bod.baldN p rfl (by omega) (by omega) dc_288_344 (mk_107 _) (Or.inl rfl) ?_
  refine Bod.eqI (nI 39) (by first | assumption | rfl | exact congrArg nI (by omega) | (simp (disch := omega) only [rI, rIe, rA, rIA, rLA, rJA, rVI, rQI, rVA, rQA, upd_at,  rAI, rLI, rJI, nI_add, pk_sub, kc_0, kc_1, kc_2, kc_3, kc_4, kc_5, reduceIte, Nat.reduceEqDiff, Nat.add_zero, rI_hold, rI_hold, rL_hold, hx, ht]; done)) ?_
  refine Bod.bip 39 (by decide) dc_288_345 ?_
  refine Bod.icF dc_288_347 rfl (k2_ne_F (k_eq 39 39 rfl rfl (by omega))) ?_
  refine Bod.ildG dc_288_350 (by repeat (first | exact h6 | exact sm_get_p1 | exact sm_get_p2e | refine sm_get_p1m (by decide) (by decide) ?_ | refine sm_get_p1n (by decide) rfl ?_ | refine sm_get_p2n (by decide) (by decide) rfl ?_)) ?_
  refine Bod.ildG dc_288_352 (by repeat (first | exact h8 | exact sm_get_p1 | exact sm_get_p2e | refine sm_get_p1m (by decide) (by decide) ?_ | refine sm_get_p1n (by decide) rfl ?_ | refine sm_get_p2n (by decide) (by decide) rfl ?_)) ?_
  refine Bod.subN (p - st) (by omega) (by omega) dc_288_354 ?_
  refine Bod.ic 1 (by decide) dc_288_355 ?_
  refine Bod.subN (p - 1 - st) (by omega) (by omega) dc_288_356 ?_
  refine Bod.bip 15 (by decide) dc_288_357 ?_
  refine Bod.icF dc_288_359 rfl (k2_gt_F (p - 1 - st) 15 rfl rfl (by omega) (by omega)) ?_
  refine Bod.ic 1 (by decide) dc_288_362 ?_
  refine Bod.go dc_288_363 rfl ?_
  refine Bod.ist dc_288_367 (by rw [ml_288]; exact Nat.le_of_ble_eq_true rfl) ?_
  refine Bod.go dc_288_369 rfl ?_
  refine Bod.ifF dc_288_371 rfl (k1_eq_F (k_ne 1 0 rfl rfl (by omega) (by omega) (by omega))) ?_
  refine Bod.aldnG dc_288_374 (by repeat (first | exact h0 | exact sm_get_p1 | exact sm_get_p2e | refine sm_get_p1m (by decide) (by decide) ?_ | refine sm_get_p1n (by decide) rfl ?_ | refine sm_get_p2n (by decide) (by decide) rfl ?_)) ?_
  refine Bod.get dc_288_375 fr_288_175 (mk_61 _) rfl ?_
  refine Bod.aldnG dc_288_378 (by repeat (first | exact h0 | exact sm_get_p1 | exact sm_get_p2e | refine sm_get_p1m (by decide) (by decide) ?_ | refine sm_get_p1n (by decide) rfl ?_ | refine sm_get_p2n (by decide) (by decide) rfl ?_)) ?_
  refine Bod.get dc_288_379 fr_288_132 (mk_61 _) rfl ?_
  refine Bod.eqI (nI t) (by first | assumption | rfl | exact congrArg nI (by omega) | (simp (disch := omega) only [rI, rIe, rA, rIA, rLA, rJA, rVI, rQI, rVA, rQA, upd_at,  rAI, rLI, rJI, nI_add, pk_sub, kc_0, kc_1, kc_2, kc_3, kc_4, kc_5, reduceIte, Nat.reduceEqDiff, Nat.add_zero, rI_hold, rI_hold, rL_hold, hx, ht]; done)) ?_
  refine Bod.aldnG dc_288_382 (by repeat (first | exact h1 | exact sm_get_p1 | exact sm_get_p2e | refine sm_get_p1m (by decide) (by decide) ?_ | refine sm_get_p1n (by decide) rfl ?_ | refine sm_get_p2n (by decide) (by decide) rfl ?_)) ?_
  refine Bod.ildG dc_288_383 (by repeat (first | exact h8 | exact sm_get_p1 | exact sm_get_p2e | refine sm_get_p1m (by decide) (by decide) ?_ | refine sm_get_p1n (by decide) rfl ?_ | refine sm_get_p2n (by decide) (by decide) rfl ?_)) ?_
  refine Bod.ic 1 (by decide) dc_288_385 ?_
  refine Bod.addN (st + 1) (by omega) dc_288_386 ?_
  refine Bod.ildG dc_288_387 (by repeat (first | exact h6 | exact sm_get_p1 | exact sm_get_p2e | refine sm_get_p1m (by decide) (by decide) ?_ | refine sm_get_p1n (by decide) rfl ?_ | refine sm_get_p2n (by decide) (by decide) rfl ?_)) ?_
  refine Bod.ildG dc_288_389 (by repeat (first | exact h8 | exact sm_get_p1 | exact sm_get_p2e | refine sm_get_p1m (by decide) (by decide) ?_ | refine sm_get_p1n (by decide) rfl ?_ | refine sm_get_p2n (by decide) (by decide) rfl ?_)) ?_
  refine Bod.subN (p - st) (by omega) (by omega) dc_288_391 ?_
  refine Bod.ic 1 (by decide) dc_288_392 ?_
  refine Bod.subN (p - 1 - st) (by omega) (by omega) dc_288_393 ?_
  refine Bod.ic 0 (by decide) dc_288_394 ?_
  refine Bod.stat (r := [_, _]) dc_288_395 kr_288_178 (Or.inl rfl) (by rw [np_297]; rfl) (by rw [np_297]; rfl) (by rw [np_297]; exact Nat.le_of_ble_eq_true rfl) (Nat.le_of_ble_eq_true rfl) (hK1  ) ?_
  show Bod _ _ _ _ [_, _, _] _ _ _
  refine Bod.lastN t rfl (by omega) (by omega) dc_288_398 (mk_71 _) (sa_71 _ _ _) (mu_L _ _ _ _) ?_
  refine Bod.aldnG dc_288_399 (by repeat (first | exact h0 | exact sm_get_p1 | exact sm_get_p2e | refine sm_get_p1m (by decide) (by decide) ?_ | refine sm_get_p1n (by decide) rfl ?_ | refine sm_get_p2n (by decide) (by decide) rfl ?_)) ?_
  refine Bod.get dc_288_400 fr_288_182 (mk_61 _) rfl ?_
  refine Bod.aldnG dc_288_403 (by repeat (first | exact h0 | exact sm_get_p1 | exact sm_get_p2e | refine sm_get_p1m (by decide) (by decide) ?_ | refine sm_get_p1n (by decide) rfl ?_ | refine sm_get_p2n (by decide) (by decide) rfl ?_)) ?_
  refine Bod.get dc_288_404 fr_288_132 (mk_61 _) rfl ?_
  refine Bod.eqI (nI t) (by first | (simp (disch := omega) only [rI, rIe, rA, rIA, rLA, rJA, rVI, rQI, rVA, rQA, upd_at,  rAI, rLI, rJI, nI_add, pk_sub, kc_0, kc_1, kc_2, kc_3, kc_4, kc_5, reduceIte, Nat.reduceEqDiff, Nat.add_zero, rI_hold, rI_hold, rL_hold, hx, ht]; done) | (simp (disch := omega) only [rI, rIe, rA, rIA, rLA, rJA, rVI, rQI, rVA, rQA, upd_at,  rAI, rLI, rJI, nI_add, pk_sub, kc_0, kc_1, kc_2, kc_3, kc_4, kc_5, reduceIte, Nat.reduceEqDiff, Nat.add_zero, rI_hold, rI_hold, rL_hold, hx, ht]; exact congrArg nI (by omega))) ?_
  refine Bod.aldnG dc_288_407 (by repeat (first | exact h1 | exact sm_get_p1 | exact sm_get_p2e | refine sm_get_p1m (by decide) (by decide) ?_ | refine sm_get_p1n (by decide) rfl ?_ | refine sm_get_p2n (by decide) (by decide) rfl ?_)) ?_
  refine Bod.ildG dc_288_408 (by repeat (first | exact h8 | exact sm_get_p1 | exact sm_get_p2e | refine sm_get_p1m (by decide) (by decide) ?_ | refine sm_get_p1n (by decide) rfl ?_ | refine sm_get_p2n (by decide) (by decide) rfl ?_)) ?_
  refine Bod.ic 1 (by decide) dc_288_410 ?_
  refine Bod.addN (st + 1) (by omega) dc_288_411 ?_
  refine Bod.ildG dc_288_412 (by repeat (first | exact h6 | exact sm_get_p1 | exact sm_get_p2e | refine sm_get_p1m (by decide) (by decide) ?_ | refine sm_get_p1n (by decide) rfl ?_ | refine sm_get_p2n (by decide) (by decide) rfl ?_)) ?_
  refine Bod.ildG dc_288_414 (by repeat (first | exact h8 | exact sm_get_p1 | exact sm_get_p2e | refine sm_get_p1m (by decide) (by decide) ?_ | refine sm_get_p1n (by decide) rfl ?_ | refine sm_get_p2n (by decide) (by decide) rfl ?_)) ?_
  refine Bod.subN (p - st) (by omega) (by omega) dc_288_416 ?_
  refine Bod.ic 1 (by decide) dc_288_417 ?_
  refine Bod.subN (p - 1 - st) (by omega) (by omega) dc_288_418 ?_
  refine Bod.ic 1 (by decide) dc_288_419 ?_
  refine Bod.stat (r := [_, _]) dc_288_420 kr_288_178 (Or.inl rfl) (by rw [np_297]; rfl) (by rw [np_297]; rfl) (by rw [np_297]; exact Nat.le_of_ble_eq_true rfl) (Nat.le_of_ble_eq_true rfl) (hK2  ) ?_
  show Bod _ _ _ _ [_, _, _] _ _ _
  refine Bod.lastN t rfl (by omega) (by omega) dc_288_423 (mk_72 _) (sa_72 _ _ _) (mu_L _ _ _ _) ?_
  refine Bod.aldnG dc_288_424 (by repeat (first | exact h0 | exact sm_get_p1 | exact sm_get_p2e | refine sm_get_p1m (by decide) (by decide) ?_ | refine sm_get_p1n (by decide) rfl ?_ | refine sm_get_p2n (by decide) (by decide) rfl ?_)) ?_
  refine Bod.go dc_288_425 rfl ?_
  refine Bod.ifF dc_288_427 rfl (k1_eq_F (k_ne 1 0 rfl rfl (by omega) (by omega) (by omega))) ?_
  refine Bod.ic 4 (by decide) dc_288_430 ?_
  refine Bod.go dc_288_431 rfl ?_
  refine Bod.ic 0 (by decide) dc_288_436 ?_
  refine Bod.ildG dc_288_437 (by repeat (first | exact h4 | exact sm_get_p1 | exact sm_get_p2e | refine sm_get_p1m (by decide) (by decide) ?_ | refine sm_get_p1n (by decide) rfl ?_ | refine sm_get_p2n (by decide) (by decide) rfl ?_)) ?_
  refine Bod.ildG dc_288_439 (by repeat (first | exact h5 | exact sm_get_p1 | exact sm_get_p2e | refine sm_get_p1m (by decide) (by decide) ?_ | refine sm_get_p1n (by decide) rfl ?_ | refine sm_get_p2n (by decide) (by decide) rfl ?_)) ?_
  refine Bod.virt (r := []) dc_288_441 kr_288_151 ⟨Or.inl rfl, ow_293, cl_14⟩ (by rw [np_293]; rfl) (by rw [np_293]; rfl) (ob_of (mk_61 _)) (Nat.le_of_ble_eq_true rfl) (tok_ev (t := t) (kd := (nI 4)) (vl := (nI 0)) (ln := (nI l)) (bl := (nI bl)) (by first | (simp (disch := omega) only [rI, rIe, rA, rIA, rLA, rJA, rVI, rQI, rVA, rQA, upd_at,  rAI, rLI, rJI, nI_add, pk_sub, kc_0, kc_1, kc_2, kc_3, kc_4, kc_5, reduceIte, Nat.reduceEqDiff, Nat.add_zero, rI_hold, rI_hold, rL_hold, hx, ht]; done) | (simp (disch := omega) only [rI, rIe, rA, rIA, rLA, rJA, rVI, rQI, rVA, rQA, upd_at,  rAI, rLI, rJI, nI_add, pk_sub, kc_0, kc_1, kc_2, kc_3, kc_4, kc_5, reduceIte, Nat.reduceEqDiff, Nat.add_zero, rI_hold, rI_hold, rL_hold, hx, ht]; exact congrArg nI (by omega))) (by omega)) ?_
  show Bod _ _ _ _ [] _ _ _
  refine Bod.go dc_288_444 rfl ?_
  refine Bod.ifT dc_288_446 rfl (k1_ne_T (k_ne 1 0 rfl rfl (by omega) (by omega) (by omega))) ?_
  refine Bod.incN (p + 1) (by rw [kc_1, nI_add]) dc_288_450 (by rw [ml_288]; exact Nat.le_of_ble_eq_true rfl) (by repeat (first | exact h6 | exact sm_get_p1 | exact sm_get_p2e | refine sm_get_p1m (by decide) (by decide) ?_ | refine sm_get_p1n (by decide) rfl ?_ | refine sm_get_p2n (by decide) (by decide) rfl ?_)) ?_
  refine Bod.go dc_288_453 rfl ?_
  refine Bod.go dc_288_730 rfl ?_
  exact hB _ (by repeat (first | exact h0 | exact sm_get_p1 | exact sm_get_p2e | refine sm_get_p1m (by decide) (by decide) ?_ | refine sm_get_p1n (by decide) rfl ?_ | refine sm_get_p2n (by decide) (by decide) rfl ?_)) (by repeat (first | exact h1 | exact sm_get_p1 | exact sm_get_p2e | refine sm_get_p1m (by decide) (by decide) ?_ | refine sm_get_p1n (by decide) rfl ?_ | refine sm_get_p2n (by decide) (by decide) rfl ?_)) (by repeat (first | exact h3 | exact sm_get_p1 | exact sm_get_p2e | refine sm_get_p1m (by decide) (by decide) ?_ | refine sm_get_p1n (by decide) rfl ?_ | refine sm_get_p2n (by decide) (by decide) rfl ?_)) (by repeat (first | exact h4 | exact sm_get_p1 | exact sm_get_p2e | refine sm_get_p1m (by decide) (by decide) ?_ | refine sm_get_p1n (by decide) rfl ?_ | refine sm_get_p2n (by decide) (by decide) rfl ?_)) (by repeat (first | exact h5 | exact sm_get_p1 | exact sm_get_p2e | refine sm_get_p1m (by decide) (by decide) ?_ | refine sm_get_p1n (by decide) rfl ?_ | refine sm_get_p2n (by decide) (by decide) rfl ?_)) (by repeat (first | exact h6 | exact sm_get_p1 | exact sm_get_p2e | refine sm_get_p1m (by decide) (by decide) ?_ | refine sm_get_p1n (by decide) rfl ?_ | refine sm_get_p2n (by decide) (by decide) rfl ?_))
theorem rl_tbad1 {d : Nat} {S : cS} {lv : sm_L} {e : Nat} {l : Nat} {bl : Nat} {p : Nat} {x : Int32} {st : Nat} {t : Nat} (heM : e ≤ 3000) (hp : p ≤ e) (h0 : sm_get lv 0 = some (.ref 61)) (h1 : sm_get lv 1 = some (.ref 107)) (h3 : sm_get lv 3 = some (.int (nI e))) (h4 : sm_get lv 4 = some (.int (nI l))) (h5 : sm_get lv 5 = some (.int (nI bl))) (h6 : sm_get lv 6 = some (.int (nI p))) (h7 : sm_get lv 7 = some (.int x)) (h8 : sm_get lv 8 = some (.int (nI st))) (hin : p = e) (ht : sI S 6112 = nI t) (htM : t < 6002) : Bod (d + 8) 288 335 lv [] S none (wI 6112 (nI (t + 1)) (wA 70 t ((nI bl)) (wA 69 t ((nI l)) (wA 68 t ((nI 0)) (wA 67 t ((nI 8)) S))))) := by
  refine Bod.ildG dc_288_335 (by repeat (first | exact h6 | exact sm_get_p1 | exact sm_get_p2e | refine sm_get_p1m (by decide) (by decide) ?_ | refine sm_get_p1n (by decide) rfl ?_ | refine sm_get_p2n (by decide) (by decide) rfl ?_)) ?_
  refine Bod.ildnG dc_288_337 (by repeat (first | exact h3 | exact sm_get_p1 | exact sm_get_p2e | refine sm_get_p1m (by decide) (by decide) ?_ | refine sm_get_p1n (by decide) rfl ?_ | refine sm_get_p2n (by decide) (by decide) rfl ?_)) ?_
  refine Bod.icT dc_288_338 rfl (k2_ge_T p e rfl rfl (by omega) (by omega)) ?_
  refine Bod.ic 0 (by decide) dc_288_366 ?_
  refine Bod.ist dc_288_367 (by rw [ml_288]; exact Nat.le_of_ble_eq_true rfl) ?_
  refine Bod.go dc_288_369 rfl ?_
  refine Bod.ifT dc_288_371 rfl (k1_eq_T (k_eq 0 0 rfl rfl (by omega))) ?_
  refine Bod.aldnG dc_288_424 (by repeat (first | exact h0 | exact sm_get_p1 | exact sm_get_p2e | refine sm_get_p1m (by decide) (by decide) ?_ | refine sm_get_p1n (by decide) rfl ?_ | refine sm_get_p2n (by decide) (by decide) rfl ?_)) ?_
  refine Bod.go dc_288_425 rfl ?_
  refine Bod.ifT dc_288_427 rfl (k1_eq_T (k_eq 0 0 rfl rfl (by omega))) ?_
  refine Bod.bip 8 (by decide) dc_288_434 ?_
  refine Bod.ic 0 (by decide) dc_288_436 ?_
  refine Bod.ildG dc_288_437 (by repeat (first | exact h4 | exact sm_get_p1 | exact sm_get_p2e | refine sm_get_p1m (by decide) (by decide) ?_ | refine sm_get_p1n (by decide) rfl ?_ | refine sm_get_p2n (by decide) (by decide) rfl ?_)) ?_
  refine Bod.ildG dc_288_439 (by repeat (first | exact h5 | exact sm_get_p1 | exact sm_get_p2e | refine sm_get_p1m (by decide) (by decide) ?_ | refine sm_get_p1n (by decide) rfl ?_ | refine sm_get_p2n (by decide) (by decide) rfl ?_)) ?_
  refine Bod.virt (r := []) dc_288_441 kr_288_151 ⟨Or.inl rfl, ow_293, cl_14⟩ (by rw [np_293]; rfl) (by rw [np_293]; rfl) (ob_of (mk_61 _)) (Nat.le_of_ble_eq_true rfl) (tok_ev (t := t) (kd := (nI 8)) (vl := (nI 0)) (ln := (nI l)) (bl := (nI bl)) (by first | assumption | rfl | exact congrArg nI (by omega) | (simp (disch := omega) only [rI, rIe, rA, rIA, rLA, rJA, rVI, rQI, rVA, rQA, upd_at,  rAI, rLI, rJI, nI_add, pk_sub, kc_0, kc_1, kc_2, kc_3, kc_4, kc_5, reduceIte, Nat.reduceEqDiff, Nat.add_zero, rI_hold, rI_hold, rL_hold, ht]; done)) (by omega)) ?_
  show Bod _ _ _ _ [] _ _ _
  refine Bod.go dc_288_444 rfl ?_
  refine Bod.ifF dc_288_446 rfl (k1_ne_F (k_eq 0 0 rfl rfl (by omega))) ?_
  exact Bod.retV dc_288_449 rt_288
theorem rl_tbad2 {d : Nat} {S : cS} {lv : sm_L} {e : Nat} {l : Nat} {bl : Nat} {p : Nat} {x : Int32} {st : Nat} {t : Nat} (heM : e ≤ 3000) (hp : p ≤ e) (h0 : sm_get lv 0 = some (.ref 61)) (h1 : sm_get lv 1 = some (.ref 107)) (h3 : sm_get lv 3 = some (.int (nI e))) (h4 : sm_get lv 4 = some (.int (nI l))) (h5 : sm_get lv 5 = some (.int (nI bl))) (h6 : sm_get lv 6 = some (.int (nI p))) (h7 : sm_get lv 7 = some (.int x)) (h8 : sm_get lv 8 = some (.int (nI st))) (hin : p < e) (hx39 : sA S 107 p ≠ nI 39) (ht : sI S 6112 = nI t) (htM : t < 6002) : Bod (d + 8) 288 335 lv [] S none (wI 6112 (nI (t + 1)) (wA 70 t ((nI bl)) (wA 69 t ((nI l)) (wA 68 t ((nI 0)) (wA 67 t ((nI 8)) S))))) := by
  refine Bod.ildG dc_288_335 (by repeat (first | exact h6 | exact sm_get_p1 | exact sm_get_p2e | refine sm_get_p1m (by decide) (by decide) ?_ | refine sm_get_p1n (by decide) rfl ?_ | refine sm_get_p2n (by decide) (by decide) rfl ?_)) ?_
  refine Bod.ildnG dc_288_337 (by repeat (first | exact h3 | exact sm_get_p1 | exact sm_get_p2e | refine sm_get_p1m (by decide) (by decide) ?_ | refine sm_get_p1n (by decide) rfl ?_ | refine sm_get_p2n (by decide) (by decide) rfl ?_)) ?_
  refine Bod.icF dc_288_338 rfl (k2_ge_F p e rfl rfl (by omega) (by omega)) ?_
  refine Bod.aldnG dc_288_341 (by repeat (first | exact h1 | exact sm_get_p1 | exact sm_get_p2e | refine sm_get_p1m (by decide) (by decide) ?_ | refine sm_get_p1n (by decide) rfl ?_ | refine sm_get_p2n (by decide) (by decide) rfl ?_)) ?_
  refine Bod.ildG dc_288_342 (by repeat (first | exact h6 | exact sm_get_p1 | exact sm_get_p2e | refine sm_get_p1m (by decide) (by decide) ?_ | refine sm_get_p1n (by decide) rfl ?_ | refine sm_get_p2n (by decide) (by decide) rfl ?_)) ?_
  refine Bod.baldN p rfl (by omega) (by omega) dc_288_344 (mk_107 _) (Or.inl rfl) ?_
  refine Bod.bip 39 (by decide) dc_288_345 ?_
  refine Bod.icT dc_288_347 rfl (k2_ne_T hx39) ?_
  refine Bod.ic 0 (by decide) dc_288_366 ?_
  refine Bod.ist dc_288_367 (by rw [ml_288]; exact Nat.le_of_ble_eq_true rfl) ?_
  refine Bod.go dc_288_369 rfl ?_
  refine Bod.ifT dc_288_371 rfl (k1_eq_T (k_eq 0 0 rfl rfl (by omega))) ?_
  refine Bod.aldnG dc_288_424 (by repeat (first | exact h0 | exact sm_get_p1 | exact sm_get_p2e | refine sm_get_p1m (by decide) (by decide) ?_ | refine sm_get_p1n (by decide) rfl ?_ | refine sm_get_p2n (by decide) (by decide) rfl ?_)) ?_
  refine Bod.go dc_288_425 rfl ?_
  refine Bod.ifT dc_288_427 rfl (k1_eq_T (k_eq 0 0 rfl rfl (by omega))) ?_
  refine Bod.bip 8 (by decide) dc_288_434 ?_
  refine Bod.ic 0 (by decide) dc_288_436 ?_
  refine Bod.ildG dc_288_437 (by repeat (first | exact h4 | exact sm_get_p1 | exact sm_get_p2e | refine sm_get_p1m (by decide) (by decide) ?_ | refine sm_get_p1n (by decide) rfl ?_ | refine sm_get_p2n (by decide) (by decide) rfl ?_)) ?_
  refine Bod.ildG dc_288_439 (by repeat (first | exact h5 | exact sm_get_p1 | exact sm_get_p2e | refine sm_get_p1m (by decide) (by decide) ?_ | refine sm_get_p1n (by decide) rfl ?_ | refine sm_get_p2n (by decide) (by decide) rfl ?_)) ?_
  refine Bod.virt (r := []) dc_288_441 kr_288_151 ⟨Or.inl rfl, ow_293, cl_14⟩ (by rw [np_293]; rfl) (by rw [np_293]; rfl) (ob_of (mk_61 _)) (Nat.le_of_ble_eq_true rfl) (tok_ev (t := t) (kd := (nI 8)) (vl := (nI 0)) (ln := (nI l)) (bl := (nI bl)) (by first | assumption | rfl | exact congrArg nI (by omega) | (simp (disch := omega) only [rI, rIe, rA, rIA, rLA, rJA, rVI, rQI, rVA, rQA, upd_at,  rAI, rLI, rJI, nI_add, pk_sub, kc_0, kc_1, kc_2, kc_3, kc_4, kc_5, reduceIte, Nat.reduceEqDiff, Nat.add_zero, rI_hold, rI_hold, rL_hold, ht]; done)) (by omega)) ?_
  show Bod _ _ _ _ [] _ _ _
  refine Bod.go dc_288_444 rfl ?_
  refine Bod.ifF dc_288_446 rfl (k1_ne_F (k_eq 0 0 rfl rfl (by omega))) ?_
  exact Bod.retV dc_288_449 rt_288
theorem rl_tbad3 {d : Nat} {S : cS} {lv : sm_L} {e : Nat} {l : Nat} {bl : Nat} {p : Nat} {x : Int32} {st : Nat} {t : Nat} (heM : e ≤ 3000) (hp : p ≤ e) (h0 : sm_get lv 0 = some (.ref 61)) (h1 : sm_get lv 1 = some (.ref 107)) (h3 : sm_get lv 3 = some (.int (nI e))) (h4 : sm_get lv 4 = some (.int (nI l))) (h5 : sm_get lv 5 = some (.int (nI bl))) (h6 : sm_get lv 6 = some (.int (nI p))) (h7 : sm_get lv 7 = some (.int x)) (h8 : sm_get lv 8 = some (.int (nI st))) (hin : p < e) (hst : st + 1 ≤ p) (hx : sA S 107 p = nI 39) (hl : 15 < p - 1 - st) (ht : sI S 6112 = nI t) (htM : t < 6002) : Bod (d + 8) 288 335 lv [] S none (wI 6112 (nI (t + 1)) (wA 70 t ((nI bl)) (wA 69 t ((nI l)) (wA 68 t ((nI 0)) (wA 67 t ((nI 8)) S))))) := by
  refine Bod.ildG dc_288_335 (by repeat (first | exact h6 | exact sm_get_p1 | exact sm_get_p2e | refine sm_get_p1m (by decide) (by decide) ?_ | refine sm_get_p1n (by decide) rfl ?_ | refine sm_get_p2n (by decide) (by decide) rfl ?_)) ?_
  refine Bod.ildnG dc_288_337 (by repeat (first | exact h3 | exact sm_get_p1 | exact sm_get_p2e | refine sm_get_p1m (by decide) (by decide) ?_ | refine sm_get_p1n (by decide) rfl ?_ | refine sm_get_p2n (by decide) (by decide) rfl ?_)) ?_
  refine Bod.icF dc_288_338 rfl (k2_ge_F p e rfl rfl (by omega) (by omega)) ?_
  refine Bod.aldnG dc_288_341 (by repeat (first | exact h1 | exact sm_get_p1 | exact sm_get_p2e | refine sm_get_p1m (by decide) (by decide) ?_ | refine sm_get_p1n (by decide) rfl ?_ | refine sm_get_p2n (by decide) (by decide) rfl ?_)) ?_
  refine Bod.ildG dc_288_342 (by repeat (first | exact h6 | exact sm_get_p1 | exact sm_get_p2e | refine sm_get_p1m (by decide) (by decide) ?_ | refine sm_get_p1n (by decide) rfl ?_ | refine sm_get_p2n (by decide) (by decide) rfl ?_)) ?_
  refine Bod.baldN p rfl (by omega) (by omega) dc_288_344 (mk_107 _) (Or.inl rfl) ?_
  refine Bod.eqI (nI 39) (by first | assumption | rfl | exact congrArg nI (by omega) | (simp (disch := omega) only [rI, rIe, rA, rIA, rLA, rJA, rVI, rQI, rVA, rQA, upd_at,  rAI, rLI, rJI, nI_add, pk_sub, kc_0, kc_1, kc_2, kc_3, kc_4, kc_5, reduceIte, Nat.reduceEqDiff, Nat.add_zero, rI_hold, rI_hold, rL_hold, hx, ht]; done)) ?_
  refine Bod.bip 39 (by decide) dc_288_345 ?_
  refine Bod.icF dc_288_347 rfl (k2_ne_F (k_eq 39 39 rfl rfl (by omega))) ?_
  refine Bod.ildG dc_288_350 (by repeat (first | exact h6 | exact sm_get_p1 | exact sm_get_p2e | refine sm_get_p1m (by decide) (by decide) ?_ | refine sm_get_p1n (by decide) rfl ?_ | refine sm_get_p2n (by decide) (by decide) rfl ?_)) ?_
  refine Bod.ildG dc_288_352 (by repeat (first | exact h8 | exact sm_get_p1 | exact sm_get_p2e | refine sm_get_p1m (by decide) (by decide) ?_ | refine sm_get_p1n (by decide) rfl ?_ | refine sm_get_p2n (by decide) (by decide) rfl ?_)) ?_
  refine Bod.subN (p - st) (by omega) (by omega) dc_288_354 ?_
  refine Bod.ic 1 (by decide) dc_288_355 ?_
  refine Bod.subN (p - 1 - st) (by omega) (by omega) dc_288_356 ?_
  refine Bod.bip 15 (by decide) dc_288_357 ?_
  refine Bod.icT dc_288_359 rfl (k2_gt_T (p - 1 - st) 15 rfl rfl (by omega) (by omega)) ?_
  refine Bod.ic 0 (by decide) dc_288_366 ?_
  refine Bod.ist dc_288_367 (by rw [ml_288]; exact Nat.le_of_ble_eq_true rfl) ?_
  refine Bod.go dc_288_369 rfl ?_
  refine Bod.ifT dc_288_371 rfl (k1_eq_T (k_eq 0 0 rfl rfl (by omega))) ?_
  refine Bod.aldnG dc_288_424 (by repeat (first | exact h0 | exact sm_get_p1 | exact sm_get_p2e | refine sm_get_p1m (by decide) (by decide) ?_ | refine sm_get_p1n (by decide) rfl ?_ | refine sm_get_p2n (by decide) (by decide) rfl ?_)) ?_
  refine Bod.go dc_288_425 rfl ?_
  refine Bod.ifT dc_288_427 rfl (k1_eq_T (k_eq 0 0 rfl rfl (by omega))) ?_
  refine Bod.bip 8 (by decide) dc_288_434 ?_
  refine Bod.ic 0 (by decide) dc_288_436 ?_
  refine Bod.ildG dc_288_437 (by repeat (first | exact h4 | exact sm_get_p1 | exact sm_get_p2e | refine sm_get_p1m (by decide) (by decide) ?_ | refine sm_get_p1n (by decide) rfl ?_ | refine sm_get_p2n (by decide) (by decide) rfl ?_)) ?_
  refine Bod.ildG dc_288_439 (by repeat (first | exact h5 | exact sm_get_p1 | exact sm_get_p2e | refine sm_get_p1m (by decide) (by decide) ?_ | refine sm_get_p1n (by decide) rfl ?_ | refine sm_get_p2n (by decide) (by decide) rfl ?_)) ?_
  refine Bod.virt (r := []) dc_288_441 kr_288_151 ⟨Or.inl rfl, ow_293, cl_14⟩ (by rw [np_293]; rfl) (by rw [np_293]; rfl) (ob_of (mk_61 _)) (Nat.le_of_ble_eq_true rfl) (tok_ev (t := t) (kd := (nI 8)) (vl := (nI 0)) (ln := (nI l)) (bl := (nI bl)) (by first | assumption | rfl | exact congrArg nI (by omega) | (simp (disch := omega) only [rI, rIe, rA, rIA, rLA, rJA, rVI, rQI, rVA, rQA, upd_at,  rAI, rLI, rJI, nI_add, pk_sub, kc_0, kc_1, kc_2, kc_3, kc_4, kc_5, reduceIte, Nat.reduceEqDiff, Nat.add_zero, rI_hold, rI_hold, rL_hold, hx, ht]; done)) (by omega)) ?_
  show Bod _ _ _ _ [] _ _ _
  refine Bod.go dc_288_444 rfl ?_
  refine Bod.ifF dc_288_446 rfl (k1_ne_F (k_eq 0 0 rfl rfl (by omega))) ?_
  exact Bod.retV dc_288_449 rt_288
