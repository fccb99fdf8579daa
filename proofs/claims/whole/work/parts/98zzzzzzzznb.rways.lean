/-! WAYS of the reference's machine: every call is a hypothesis -/
theorem ml_354 : sm_ml 354 = 7 := by decide +kernel
theorem dc_354_0 : decode (sm_cc 354) 0 = .ok (.iload_n 3, 1) := by decide +kernel
theorem dc_354_1 : decode (sm_cc 354) 1 = .ok (.ifCond .ge (123), 3) := by decide +kernel
theorem dc_354_4 : decode (sm_cc 354) 4 = .ok (.iload_n 1, 1) := by decide +kernel
theorem dc_354_5 : decode (sm_cc 354) 5 = .ok (.bipush (6), 2) := by decide +kernel
theorem dc_354_7 : decode (sm_cc 354) 7 = .ok (.if_icmp .ne (60), 3) := by decide +kernel
theorem dc_354_67 : decode (sm_cc 354) 67 = .ok (.aload_n 0, 1) := by decide +kernel
theorem dc_354_68 : decode (sm_cc 354) 68 = .ok (.getfield 24, 3) := by decide +kernel
theorem fr_354_24 : sm_at mt_f (sm_ow 354) 24 = some (24, 14, 3, 0, 2076) := by decide +kernel
theorem dc_354_71 : decode (sm_cc 354) 71 = .ok (.iload_n 2, 1) := by decide +kernel
theorem dc_354_72 : decode (sm_cc 354) 72 = .ok (.iaload, 1) := by decide +kernel
theorem dc_354_73 : decode (sm_cc 354) 73 = .ok (.iconst (-1), 1) := by decide +kernel
theorem dc_354_74 : decode (sm_cc 354) 74 = .ok (.if_icmp .ne (10), 3) := by decide +kernel
theorem dc_354_84 : decode (sm_cc 354) 84 = .ok (.iload_n 1, 1) := by decide +kernel
theorem dc_354_85 : decode (sm_cc 354) 85 = .ok (.bipush (7), 2) := by decide +kernel
theorem dc_354_87 : decode (sm_cc 354) 87 = .ok (.if_icmp .ne (13), 3) := by decide +kernel
theorem dc_354_100 : decode (sm_cc 354) 100 = .ok (.aload_n 0, 1) := by decide +kernel
theorem dc_354_101 : decode (sm_cc 354) 101 = .ok (.aload_n 0, 1) := by decide +kernel
theorem dc_354_102 : decode (sm_cc 354) 102 = .ok (.getfield 24, 3) := by decide +kernel
theorem dc_354_105 : decode (sm_cc 354) 105 = .ok (.iload_n 2, 1) := by decide +kernel
theorem dc_354_106 : decode (sm_cc 354) 106 = .ok (.iaload, 1) := by decide +kernel
theorem dc_354_107 : decode (sm_cc 354) 107 = .ok (.aload_n 0, 1) := by decide +kernel
theorem dc_354_108 : decode (sm_cc 354) 108 = .ok (.getfield 27, 3) := by decide +kernel
theorem fr_354_27 : sm_at mt_f (sm_ow 354) 27 = some (27, 14, 4, 0, 2077) := by decide +kernel
theorem dc_354_111 : decode (sm_cc 354) 111 = .ok (.iload_n 2, 1) := by decide +kernel
theorem dc_354_112 : decode (sm_cc 354) 112 = .ok (.laload, 1) := by decide +kernel
theorem dc_354_113 : decode (sm_cc 354) 113 = .ok (.aload_n 0, 1) := by decide +kernel
theorem dc_354_114 : decode (sm_cc 354) 114 = .ok (.getfield 34, 3) := by decide +kernel
theorem fr_354_34 : sm_at mt_f (sm_ow 354) 34 = some (34, 14, 5, 0, 2078) := by decide +kernel
theorem dc_354_117 : decode (sm_cc 354) 117 = .ok (.iload_n 2, 1) := by decide +kernel
theorem dc_354_118 : decode (sm_cc 354) 118 = .ok (.laload, 1) := by decide +kernel
theorem dc_354_119 : decode (sm_cc 354) 119 = .ok (.invokevirtual 549, 3) := by decide +kernel
theorem kr_354_549 : sm_at mt_k (sm_ow 354) 549 = some (549, 0, 352, 0, 2668) := by decide +kernel
theorem dc_354_122 : decode (sm_cc 354) 122 = .ok (.iconst 1, 1) := by decide +kernel
theorem dc_354_123 : decode (sm_cc 354) 123 = .ok (.ireturn, 1) := by decide +kernel
theorem rt_354 : sm_rt 354 = some .boolean := by decide +kernel
theorem dc_354_90 : decode (sm_cc 354) 90 = .ok (.aload_n 0, 1) := by decide +kernel
theorem dc_354_91 : decode (sm_cc 354) 91 = .ok (.getfield 24, 3) := by decide +kernel
theorem dc_354_94 : decode (sm_cc 354) 94 = .ok (.iload_n 2, 1) := by decide +kernel
theorem dc_354_95 : decode (sm_cc 354) 95 = .ok (.iconst (-1), 1) := by decide +kernel
theorem dc_354_96 : decode (sm_cc 354) 96 = .ok (.iastore, 1) := by decide +kernel
theorem dc_354_97 : decode (sm_cc 354) 97 = .ok (.goto (25), 3) := by decide +kernel
theorem dc_354_77 : decode (sm_cc 354) 77 = .ok (.aload_n 0, 1) := by decide +kernel
theorem dc_354_78 : decode (sm_cc 354) 78 = .ok (.iload_n 1, 1) := by decide +kernel
theorem dc_354_79 : decode (sm_cc 354) 79 = .ok (.iload_n 2, 1) := by decide +kernel
theorem dc_354_80 : decode (sm_cc 354) 80 = .ok (.invokevirtual 696, 3) := by decide +kernel
theorem ow_355 : 14 = sm_ow 355 := by decide +kernel
theorem kr_354_696 : sm_at mt_k (sm_ow 354) 696 = some (696, 0, 355, 0, 2680) := by decide +kernel
theorem np_355 : sm_np 355 = 2 := by decide +kernel
theorem dc_354_83 : decode (sm_cc 354) 83 = .ok (.ireturn, 1) := by decide +kernel
theorem dc_354_10 : decode (sm_cc 354) 10 = .ok (.aload_n 0, 1) := by decide +kernel
theorem dc_354_11 : decode (sm_cc 354) 11 = .ok (.dup, 1) := by decide +kernel
theorem dc_354_12 : decode (sm_cc 354) 12 = .ok (.getfield 493, 3) := by decide +kernel
theorem fr_354_493 : sm_at mt_f (sm_ow 354) 493 = some (493, 14, 51, 0, 2124) := by decide +kernel
theorem dc_354_15 : decode (sm_cc 354) 15 = .ok (.iconst 1, 1) := by decide +kernel
theorem dc_354_16 : decode (sm_cc 354) 16 = .ok (.isub, 1) := by decide +kernel
theorem dc_354_17 : decode (sm_cc 354) 17 = .ok (.putfield 493, 3) := by decide +kernel
theorem dc_354_20 : decode (sm_cc 354) 20 = .ok (.aload_n 0, 1) := by decide +kernel
theorem dc_354_21 : decode (sm_cc 354) 21 = .ok (.getfield 24, 3) := by decide +kernel
theorem dc_354_24 : decode (sm_cc 354) 24 = .ok (.iload_n 2, 1) := by decide +kernel
theorem dc_354_25 : decode (sm_cc 354) 25 = .ok (.aload_n 0, 1) := by decide +kernel
theorem dc_354_26 : decode (sm_cc 354) 26 = .ok (.getfield 496, 3) := by decide +kernel
theorem fr_354_496 : sm_at mt_f (sm_ow 354) 496 = some (496, 14, 48, 0, 2121) := by decide +kernel
theorem dc_354_29 : decode (sm_cc 354) 29 = .ok (.aload_n 0, 1) := by decide +kernel
theorem dc_354_30 : decode (sm_cc 354) 30 = .ok (.getfield 493, 3) := by decide +kernel
theorem dc_354_33 : decode (sm_cc 354) 33 = .ok (.iaload, 1) := by decide +kernel
theorem dc_354_34 : decode (sm_cc 354) 34 = .ok (.iastore, 1) := by decide +kernel
theorem dc_354_35 : decode (sm_cc 354) 35 = .ok (.aload_n 0, 1) := by decide +kernel
theorem dc_354_36 : decode (sm_cc 354) 36 = .ok (.getfield 27, 3) := by decide +kernel
theorem dc_354_39 : decode (sm_cc 354) 39 = .ok (.iload_n 2, 1) := by decide +kernel
theorem dc_354_40 : decode (sm_cc 354) 40 = .ok (.aload_n 0, 1) := by decide +kernel
theorem dc_354_41 : decode (sm_cc 354) 41 = .ok (.getfield 499, 3) := by decide +kernel
theorem fr_354_499 : sm_at mt_f (sm_ow 354) 499 = some (499, 14, 49, 0, 2122) := by decide +kernel
theorem dc_354_44 : decode (sm_cc 354) 44 = .ok (.aload_n 0, 1) := by decide +kernel
theorem dc_354_45 : decode (sm_cc 354) 45 = .ok (.getfield 493, 3) := by decide +kernel
theorem dc_354_48 : decode (sm_cc 354) 48 = .ok (.laload, 1) := by decide +kernel
theorem dc_354_49 : decode (sm_cc 354) 49 = .ok (.lastore, 1) := by decide +kernel
theorem dc_354_50 : decode (sm_cc 354) 50 = .ok (.aload_n 0, 1) := by decide +kernel
theorem dc_354_51 : decode (sm_cc 354) 51 = .ok (.getfield 34, 3) := by decide +kernel
theorem dc_354_54 : decode (sm_cc 354) 54 = .ok (.iload_n 2, 1) := by decide +kernel
theorem dc_354_55 : decode (sm_cc 354) 55 = .ok (.aload_n 0, 1) := by decide +kernel
theorem dc_354_56 : decode (sm_cc 354) 56 = .ok (.getfield 546, 3) := by decide +kernel
theorem fr_354_546 : sm_at mt_f (sm_ow 354) 546 = some (546, 14, 50, 0, 2123) := by decide +kernel
theorem dc_354_59 : decode (sm_cc 354) 59 = .ok (.aload_n 0, 1) := by decide +kernel
theorem dc_354_60 : decode (sm_cc 354) 60 = .ok (.getfield 493, 3) := by decide +kernel
theorem dc_354_63 : decode (sm_cc 354) 63 = .ok (.laload, 1) := by decide +kernel
theorem dc_354_64 : decode (sm_cc 354) 64 = .ok (.lastore, 1) := by decide +kernel
theorem dc_354_65 : decode (sm_cc 354) 65 = .ok (.iconst 1, 1) := by decide +kernel
theorem dc_354_66 : decode (sm_cc 354) 66 = .ok (.ireturn, 1) := by decide +kernel
theorem dc_354_124 : decode (sm_cc 354) 124 = .ok (.aload_n 0, 1) := by decide +kernel
theorem dc_354_125 : decode (sm_cc 354) 125 = .ok (.getfield 505, 3) := by decide +kernel
theorem fr_354_505 : sm_at mt_f (sm_ow 354) 505 = some (505, 14, 54, 0, 2127) := by decide +kernel
theorem dc_354_128 : decode (sm_cc 354) 128 = .ok (.aload_n 0, 1) := by decide +kernel
theorem dc_354_129 : decode (sm_cc 354) 129 = .ok (.getfield 502, 3) := by decide +kernel
theorem fr_354_502 : sm_at mt_f (sm_ow 354) 502 = some (502, 14, 59, 0, 2132) := by decide +kernel
theorem dc_354_132 : decode (sm_cc 354) 132 = .ok (.iconst 1, 1) := by decide +kernel
theorem dc_354_133 : decode (sm_cc 354) 133 = .ok (.isub, 1) := by decide +kernel
theorem dc_354_134 : decode (sm_cc 354) 134 = .ok (.iaload, 1) := by decide +kernel
theorem dc_354_135 : decode (sm_cc 354) 135 = .ok (.istore 5, 2) := by decide +kernel
theorem dc_354_137 : decode (sm_cc 354) 137 = .ok (.iconst 0, 1) := by decide +kernel
theorem dc_354_138 : decode (sm_cc 354) 138 = .ok (.istore 6, 2) := by decide +kernel
theorem dc_354_140 : decode (sm_cc 354) 140 = .ok (.iload 6, 2) := by decide +kernel
theorem dc_354_142 : decode (sm_cc 354) 142 = .ok (.iload_n 3, 1) := by decide +kernel
theorem dc_354_143 : decode (sm_cc 354) 143 = .ok (.if_icmp .ge (21), 3) := by decide +kernel
theorem dc_354_164 : decode (sm_cc 354) 164 = .ok (.aload_n 0, 1) := by decide +kernel
theorem dc_354_165 : decode (sm_cc 354) 165 = .ok (.getfield 485, 3) := by decide +kernel
theorem fr_354_485 : sm_at mt_f (sm_ow 354) 485 = some (485, 14, 42, 0, 2115) := by decide +kernel
theorem dc_354_168 : decode (sm_cc 354) 168 = .ok (.iload 5, 2) := by decide +kernel
theorem dc_354_170 : decode (sm_cc 354) 170 = .ok (.aaload, 1) := by decide +kernel
theorem dc_354_171 : decode (sm_cc 354) 171 = .ok (.astore 6, 2) := by decide +kernel
theorem dc_354_173 : decode (sm_cc 354) 173 = .ok (.iload_n 1, 1) := by decide +kernel
theorem dc_354_174 : decode (sm_cc 354) 174 = .ok (.bipush (6), 2) := by decide +kernel
theorem dc_354_176 : decode (sm_cc 354) 176 = .ok (.if_icmp .ne (49), 3) := by decide +kernel
theorem dc_354_225 : decode (sm_cc 354) 225 = .ok (.aload 6, 2) := by decide +kernel
theorem dc_354_227 : decode (sm_cc 354) 227 = .ok (.getfield 462, 3) := by decide +kernel
theorem fr_354_462 : sm_at mt_f (sm_ow 354) 462 = some (462, 13, 2, 0, 2774) := by decide +kernel
theorem dc_354_230 : decode (sm_cc 354) 230 = .ok (.iload 4, 2) := by decide +kernel
theorem dc_354_232 : decode (sm_cc 354) 232 = .ok (.iaload, 1) := by decide +kernel
theorem dc_354_233 : decode (sm_cc 354) 233 = .ok (.iconst (-1), 1) := by decide +kernel
theorem dc_354_234 : decode (sm_cc 354) 234 = .ok (.if_icmp .ne (10), 3) := by decide +kernel
theorem dc_354_244 : decode (sm_cc 354) 244 = .ok (.iload_n 1, 1) := by decide +kernel
theorem dc_354_245 : decode (sm_cc 354) 245 = .ok (.bipush (7), 2) := by decide +kernel
theorem dc_354_247 : decode (sm_cc 354) 247 = .ok (.if_icmp .ne (15), 3) := by decide +kernel
theorem dc_354_262 : decode (sm_cc 354) 262 = .ok (.aload_n 0, 1) := by decide +kernel
theorem dc_354_263 : decode (sm_cc 354) 263 = .ok (.aload 6, 2) := by decide +kernel
theorem dc_354_265 : decode (sm_cc 354) 265 = .ok (.getfield 462, 3) := by decide +kernel
theorem dc_354_268 : decode (sm_cc 354) 268 = .ok (.iload 4, 2) := by decide +kernel
theorem dc_354_270 : decode (sm_cc 354) 270 = .ok (.iaload, 1) := by decide +kernel
theorem dc_354_271 : decode (sm_cc 354) 271 = .ok (.aload 6, 2) := by decide +kernel
theorem dc_354_273 : decode (sm_cc 354) 273 = .ok (.getfield 465, 3) := by decide +kernel
theorem fr_354_465 : sm_at mt_f (sm_ow 354) 465 = some (465, 13, 4, 0, 2778) := by decide +kernel
theorem dc_354_276 : decode (sm_cc 354) 276 = .ok (.iload 4, 2) := by decide +kernel
theorem dc_354_278 : decode (sm_cc 354) 278 = .ok (.laload, 1) := by decide +kernel
theorem dc_354_279 : decode (sm_cc 354) 279 = .ok (.aload 6, 2) := by decide +kernel
theorem dc_354_281 : decode (sm_cc 354) 281 = .ok (.getfield 627, 3) := by decide +kernel
theorem fr_354_627 : sm_at mt_f (sm_ow 354) 627 = some (627, 13, 5, 0, 2780) := by decide +kernel
theorem dc_354_284 : decode (sm_cc 354) 284 = .ok (.iload 4, 2) := by decide +kernel
theorem dc_354_286 : decode (sm_cc 354) 286 = .ok (.laload, 1) := by decide +kernel
theorem dc_354_287 : decode (sm_cc 354) 287 = .ok (.invokevirtual 549, 3) := by decide +kernel
theorem dc_354_290 : decode (sm_cc 354) 290 = .ok (.iconst 1, 1) := by decide +kernel
theorem dc_354_291 : decode (sm_cc 354) 291 = .ok (.ireturn, 1) := by decide +kernel
theorem dc_354_250 : decode (sm_cc 354) 250 = .ok (.aload 6, 2) := by decide +kernel
theorem dc_354_252 : decode (sm_cc 354) 252 = .ok (.getfield 462, 3) := by decide +kernel
theorem dc_354_255 : decode (sm_cc 354) 255 = .ok (.iload 4, 2) := by decide +kernel
theorem dc_354_257 : decode (sm_cc 354) 257 = .ok (.iconst (-1), 1) := by decide +kernel
theorem dc_354_258 : decode (sm_cc 354) 258 = .ok (.iastore, 1) := by decide +kernel
theorem dc_354_259 : decode (sm_cc 354) 259 = .ok (.goto (31), 3) := by decide +kernel
theorem dc_354_237 : decode (sm_cc 354) 237 = .ok (.aload_n 0, 1) := by decide +kernel
theorem dc_354_238 : decode (sm_cc 354) 238 = .ok (.iload_n 1, 1) := by decide +kernel
theorem dc_354_239 : decode (sm_cc 354) 239 = .ok (.iload_n 2, 1) := by decide +kernel
theorem dc_354_240 : decode (sm_cc 354) 240 = .ok (.invokevirtual 696, 3) := by decide +kernel
theorem dc_354_243 : decode (sm_cc 354) 243 = .ok (.ireturn, 1) := by decide +kernel
theorem dc_354_179 : decode (sm_cc 354) 179 = .ok (.aload_n 0, 1) := by decide +kernel
theorem dc_354_180 : decode (sm_cc 354) 180 = .ok (.dup, 1) := by decide +kernel
theorem dc_354_181 : decode (sm_cc 354) 181 = .ok (.getfield 493, 3) := by decide +kernel
theorem dc_354_184 : decode (sm_cc 354) 184 = .ok (.iconst 1, 1) := by decide +kernel
theorem dc_354_185 : decode (sm_cc 354) 185 = .ok (.isub, 1) := by decide +kernel
theorem dc_354_186 : decode (sm_cc 354) 186 = .ok (.putfield 493, 3) := by decide +kernel
theorem dc_354_189 : decode (sm_cc 354) 189 = .ok (.aload 6, 2) := by decide +kernel
theorem dc_354_191 : decode (sm_cc 354) 191 = .ok (.iload 4, 2) := by decide +kernel
theorem dc_354_193 : decode (sm_cc 354) 193 = .ok (.aload_n 0, 1) := by decide +kernel
theorem dc_354_194 : decode (sm_cc 354) 194 = .ok (.getfield 496, 3) := by decide +kernel
theorem dc_354_197 : decode (sm_cc 354) 197 = .ok (.aload_n 0, 1) := by decide +kernel
theorem dc_354_198 : decode (sm_cc 354) 198 = .ok (.getfield 493, 3) := by decide +kernel
theorem dc_354_201 : decode (sm_cc 354) 201 = .ok (.iaload, 1) := by decide +kernel
theorem dc_354_202 : decode (sm_cc 354) 202 = .ok (.aload_n 0, 1) := by decide +kernel
theorem dc_354_203 : decode (sm_cc 354) 203 = .ok (.getfield 499, 3) := by decide +kernel
theorem dc_354_206 : decode (sm_cc 354) 206 = .ok (.aload_n 0, 1) := by decide +kernel
theorem dc_354_207 : decode (sm_cc 354) 207 = .ok (.getfield 493, 3) := by decide +kernel
theorem dc_354_210 : decode (sm_cc 354) 210 = .ok (.laload, 1) := by decide +kernel
theorem dc_354_211 : decode (sm_cc 354) 211 = .ok (.aload_n 0, 1) := by decide +kernel
theorem dc_354_212 : decode (sm_cc 354) 212 = .ok (.getfield 546, 3) := by decide +kernel
theorem dc_354_215 : decode (sm_cc 354) 215 = .ok (.aload_n 0, 1) := by decide +kernel
theorem dc_354_216 : decode (sm_cc 354) 216 = .ok (.getfield 493, 3) := by decide +kernel
theorem dc_354_219 : decode (sm_cc 354) 219 = .ok (.laload, 1) := by decide +kernel
theorem dc_354_220 : decode (sm_cc 354) 220 = .ok (.invokevirtual 699, 3) := by decide +kernel
theorem ow_358 : 13 = sm_ow 358 := by decide +kernel
theorem cl_13 : 13 < mt_cl.length := by decide +kernel
theorem kr_354_699 : sm_at mt_k (sm_ow 354) 699 = some (699, 0, 358, 0, 2702) := by decide +kernel
theorem np_358 : sm_np 358 = 4 := by decide +kernel
theorem dc_354_223 : decode (sm_cc 354) 223 = .ok (.iconst 1, 1) := by decide +kernel
theorem dc_354_224 : decode (sm_cc 354) 224 = .ok (.ireturn, 1) := by decide +kernel
theorem dc_354_146 : decode (sm_cc 354) 146 = .ok (.aload_n 0, 1) := by decide +kernel
theorem dc_354_147 : decode (sm_cc 354) 147 = .ok (.getfield 485, 3) := by decide +kernel
theorem dc_354_150 : decode (sm_cc 354) 150 = .ok (.iload 5, 2) := by decide +kernel
theorem dc_354_152 : decode (sm_cc 354) 152 = .ok (.aaload, 1) := by decide +kernel
theorem dc_354_153 : decode (sm_cc 354) 153 = .ok (.getfield 472, 3) := by decide +kernel
theorem fr_354_472 : sm_at mt_f (sm_ow 354) 472 = some (472, 13, 11, 0, 2788) := by decide +kernel
theorem dc_354_156 : decode (sm_cc 354) 156 = .ok (.istore 5, 2) := by decide +kernel
theorem dc_354_158 : decode (sm_cc 354) 158 = .ok (.iinc 6 (1), 3) := by decide +kernel
theorem dc_354_161 : decode (sm_cc 354) 161 = .ok (.goto (-21), 3) := by decide +kernel
theorem ml_355 : sm_ml 355 = 4 := by decide +kernel
theorem dc_355_0 : decode (sm_cc 355) 0 = .ok (.iload_n 1, 1) := by decide +kernel
theorem dc_355_1 : decode (sm_cc 355) 1 = .ok (.iconst 5, 1) := by decide +kernel
theorem dc_355_2 : decode (sm_cc 355) 2 = .ok (.if_icmp .ne (11), 3) := by decide +kernel
theorem dc_355_13 : decode (sm_cc 355) 13 = .ok (.iconst (-1), 1) := by decide +kernel
theorem dc_355_14 : decode (sm_cc 355) 14 = .ok (.istore_n 3, 1) := by decide +kernel
theorem dc_355_15 : decode (sm_cc 355) 15 = .ok (.iload_n 3, 1) := by decide +kernel
theorem dc_355_16 : decode (sm_cc 355) 16 = .ok (.ifCond .ge (9), 3) := by decide +kernel
theorem dc_355_19 : decode (sm_cc 355) 19 = .ok (.aload_n 0, 1) := by decide +kernel
theorem dc_355_20 : decode (sm_cc 355) 20 = .ok (.iconst 1, 1) := by decide +kernel
theorem dc_355_21 : decode (sm_cc 355) 21 = .ok (.invokevirtual 608, 3) := by decide +kernel
theorem kr_355_608 : sm_at mt_k (sm_ow 355) 608 = some (608, 0, 351, 0, 2664) := by decide +kernel
theorem dc_355_24 : decode (sm_cc 355) 24 = .ok (.ireturn, 1) := by decide +kernel
theorem rt_355 : sm_rt 355 = some .boolean := by decide +kernel
theorem dc_355_5 : decode (sm_cc 355) 5 = .ok (.aload_n 0, 1) := by decide +kernel
theorem dc_355_6 : decode (sm_cc 355) 6 = .ok (.iload_n 2, 1) := by decide +kernel
theorem dc_355_7 : decode (sm_cc 355) 7 = .ok (.invokevirtual 703, 3) := by decide +kernel
theorem ow_356 : 14 = sm_ow 356 := by decide +kernel
theorem kr_355_703 : sm_at mt_k (sm_ow 355) 703 = some (703, 0, 356, 0, 2684) := by decide +kernel
theorem np_356 : sm_np 356 = 1 := by decide +kernel
theorem dc_355_10 : decode (sm_cc 355) 10 = .ok (.goto (4), 3) := by decide +kernel
theorem dc_355_25 : decode (sm_cc 355) 25 = .ok (.aload_n 0, 1) := by decide +kernel
theorem dc_355_26 : decode (sm_cc 355) 26 = .ok (.iconst 4, 1) := by decide +kernel
theorem dc_355_27 : decode (sm_cc 355) 27 = .ok (.iload_n 3, 1) := by decide +kernel
theorem dc_355_28 : decode (sm_cc 355) 28 = .ok (.i2l, 1) := by decide +kernel
theorem dc_355_29 : decode (sm_cc 355) 29 = .ok (.lconst 0, 1) := by decide +kernel
theorem dc_355_30 : decode (sm_cc 355) 30 = .ok (.invokevirtual 549, 3) := by decide +kernel
theorem kr_355_549 : sm_at mt_k (sm_ow 355) 549 = some (549, 0, 352, 0, 2668) := by decide +kernel
theorem dc_355_33 : decode (sm_cc 355) 33 = .ok (.iconst 1, 1) := by decide +kernel
theorem dc_355_34 : decode (sm_cc 355) 34 = .ok (.ireturn, 1) := by decide +kernel
theorem ml_359 : sm_ml 359 = 3 := by decide +kernel
theorem dc_359_0 : decode (sm_cc 359) 0 = .ok (.aload_n 0, 1) := by decide +kernel
theorem dc_359_1 : decode (sm_cc 359) 1 = .ok (.getfield 496, 3) := by decide +kernel
theorem fr_359_496 : sm_at mt_f (sm_ow 359) 496 = some (496, 14, 48, 0, 2121) := by decide +kernel
theorem dc_359_4 : decode (sm_cc 359) 4 = .ok (.iload_n 1, 1) := by decide +kernel
theorem dc_359_5 : decode (sm_cc 359) 5 = .ok (.iaload, 1) := by decide +kernel
theorem dc_359_6 : decode (sm_cc 359) 6 = .ok (.tableswitch (63) 0 2 #[26, 28, 45], 26) := by decide +kernel
theorem dc_359_32 : decode (sm_cc 359) 32 = .ok (.iconst 0, 1) := by decide +kernel
theorem dc_359_33 : decode (sm_cc 359) 33 = .ok (.ireturn, 1) := by decide +kernel
theorem rt_359 : sm_rt 359 = some .boolean := by decide +kernel
theorem dc_359_34 : decode (sm_cc 359) 34 = .ok (.aload_n 0, 1) := by decide +kernel
theorem dc_359_35 : decode (sm_cc 359) 35 = .ok (.getfield 499, 3) := by decide +kernel
theorem fr_359_499 : sm_at mt_f (sm_ow 359) 499 = some (499, 14, 49, 0, 2122) := by decide +kernel
theorem dc_359_38 : decode (sm_cc 359) 38 = .ok (.iload_n 1, 1) := by decide +kernel
theorem dc_359_39 : decode (sm_cc 359) 39 = .ok (.laload, 1) := by decide +kernel
theorem dc_359_40 : decode (sm_cc 359) 40 = .ok (.lconst 0, 1) := by decide +kernel
theorem dc_359_41 : decode (sm_cc 359) 41 = .ok (.lcmp, 1) := by decide +kernel
theorem dc_359_42 : decode (sm_cc 359) 42 = .ok (.ifCond .eq (7), 3) := by decide +kernel
theorem dc_359_49 : decode (sm_cc 359) 49 = .ok (.iconst 0, 1) := by decide +kernel
theorem dc_359_50 : decode (sm_cc 359) 50 = .ok (.ireturn, 1) := by decide +kernel
theorem dc_359_45 : decode (sm_cc 359) 45 = .ok (.iconst 1, 1) := by decide +kernel
theorem dc_359_46 : decode (sm_cc 359) 46 = .ok (.goto (4), 3) := by decide +kernel
theorem dc_359_51 : decode (sm_cc 359) 51 = .ok (.aload_n 0, 1) := by decide +kernel
theorem dc_359_52 : decode (sm_cc 359) 52 = .ok (.getfield 546, 3) := by decide +kernel
theorem fr_359_546 : sm_at mt_f (sm_ow 359) 546 = some (546, 14, 50, 0, 2123) := by decide +kernel
theorem dc_359_55 : decode (sm_cc 359) 55 = .ok (.iload_n 1, 1) := by decide +kernel
theorem dc_359_56 : decode (sm_cc 359) 56 = .ok (.laload, 1) := by decide +kernel
theorem dc_359_57 : decode (sm_cc 359) 57 = .ok (.invokestatic 552, 3) := by decide +kernel
theorem kr_359_552 : sm_at mt_k (sm_ow 359) 552 = some (552, 2, 360, 0, 2710) := by decide +kernel
theorem np_360 : sm_np 360 = 1 := by decide +kernel
theorem dc_359_60 : decode (sm_cc 359) 60 = .ok (.ifCond .le (7), 3) := by decide +kernel
theorem dc_359_67 : decode (sm_cc 359) 67 = .ok (.iconst 0, 1) := by decide +kernel
theorem dc_359_68 : decode (sm_cc 359) 68 = .ok (.ireturn, 1) := by decide +kernel
theorem dc_359_63 : decode (sm_cc 359) 63 = .ok (.iconst 1, 1) := by decide +kernel
theorem dc_359_64 : decode (sm_cc 359) 64 = .ok (.goto (4), 3) := by decide +kernel
theorem dc_359_69 : decode (sm_cc 359) 69 = .ok (.aload_n 0, 1) := by decide +kernel
theorem dc_359_70 : decode (sm_cc 359) 70 = .ok (.iload_n 1, 1) := by decide +kernel
theorem dc_359_71 : decode (sm_cc 359) 71 = .ok (.invokevirtual 554, 3) := by decide +kernel
theorem kr_359_554 : sm_at mt_k (sm_ow 359) 554 = some (554, 0, 361, 0, 2714) := by decide +kernel
theorem dc_359_74 : decode (sm_cc 359) 74 = .ok (.astore_n 2, 1) := by decide +kernel
theorem dc_359_75 : decode (sm_cc 359) 75 = .ok (.aload_n 2, 1) := by decide +kernel
theorem dc_359_76 : decode (sm_cc 359) 76 = .ok (.ifnull (26), 3) := by decide +kernel
theorem dc_359_79 : decode (sm_cc 359) 79 = .ok (.aload_n 2, 1) := by decide +kernel
theorem dc_359_80 : decode (sm_cc 359) 80 = .ok (.getfield 531, 3) := by decide +kernel
theorem fr_359_531 : sm_at mt_f (sm_ow 359) 531 = some (531, 13, 0, 0, 2770) := by decide +kernel
theorem dc_359_83 : decode (sm_cc 359) 83 = .ok (.iconst 1, 1) := by decide +kernel
theorem dc_359_84 : decode (sm_cc 359) 84 = .ok (.if_icmp .eq (11), 3) := by decide +kernel
theorem dc_359_95 : decode (sm_cc 359) 95 = .ok (.aload_n 2, 1) := by decide +kernel
theorem dc_359_96 : decode (sm_cc 359) 96 = .ok (.getfield 459, 3) := by decide +kernel
theorem fr_359_459 : sm_at mt_f (sm_ow 359) 459 = some (459, 13, 1, 0, 2772) := by decide +kernel
theorem dc_359_99 : decode (sm_cc 359) 99 = .ok (.ifCond .le (7), 3) := by decide +kernel
theorem dc_359_106 : decode (sm_cc 359) 106 = .ok (.iconst 0, 1) := by decide +kernel
theorem dc_359_107 : decode (sm_cc 359) 107 = .ok (.ireturn, 1) := by decide +kernel
theorem dc_359_102 : decode (sm_cc 359) 102 = .ok (.iconst 1, 1) := by decide +kernel
theorem dc_359_103 : decode (sm_cc 359) 103 = .ok (.goto (4), 3) := by decide +kernel
theorem dc_359_87 : decode (sm_cc 359) 87 = .ok (.aload_n 2, 1) := by decide +kernel
theorem dc_359_88 : decode (sm_cc 359) 88 = .ok (.getfield 531, 3) := by decide +kernel
theorem dc_359_91 : decode (sm_cc 359) 91 = .ok (.iconst 2, 1) := by decide +kernel
theorem dc_359_92 : decode (sm_cc 359) 92 = .ok (.if_icmp .ne (10), 3) := by decide +kernel
theorem ml_402 : sm_ml 402 = 7 := by decide +kernel
theorem dc_402_0 : decode (sm_cc 402) 0 = .ok (.aload_n 0, 1) := by decide +kernel
theorem dc_402_1 : decode (sm_cc 402) 1 = .ok (.getfield 496, 3) := by decide +kernel
theorem fr_402_496 : sm_at mt_f (sm_ow 402) 496 = some (496, 14, 48, 0, 2121) := by decide +kernel
theorem dc_402_4 : decode (sm_cc 402) 4 = .ok (.iload_n 1, 1) := by decide +kernel
theorem dc_402_5 : decode (sm_cc 402) 5 = .ok (.iaload, 1) := by decide +kernel
theorem dc_402_6 : decode (sm_cc 402) 6 = .ok (.iload_n 2, 1) := by decide +kernel
theorem dc_402_7 : decode (sm_cc 402) 7 = .ok (.if_icmp .eq (5), 3) := by decide +kernel
theorem dc_402_12 : decode (sm_cc 402) 12 = .ok (.iload_n 2, 1) := by decide +kernel
theorem dc_402_13 : decode (sm_cc 402) 13 = .ok (.ifCond .eq (31), 3) := by decide +kernel
theorem dc_402_44 : decode (sm_cc 402) 44 = .ok (.iconst 1, 1) := by decide +kernel
theorem dc_402_45 : decode (sm_cc 402) 45 = .ok (.goto (4), 3) := by decide +kernel
theorem dc_402_49 : decode (sm_cc 402) 49 = .ok (.ireturn, 1) := by decide +kernel
theorem rt_402 : sm_rt 402 = some .boolean := by decide +kernel
theorem dc_402_16 : decode (sm_cc 402) 16 = .ok (.aload_n 0, 1) := by decide +kernel
theorem dc_402_17 : decode (sm_cc 402) 17 = .ok (.getfield 499, 3) := by decide +kernel
theorem fr_402_499 : sm_at mt_f (sm_ow 402) 499 = some (499, 14, 49, 0, 2122) := by decide +kernel
theorem dc_402_20 : decode (sm_cc 402) 20 = .ok (.iload_n 1, 1) := by decide +kernel
theorem dc_402_21 : decode (sm_cc 402) 21 = .ok (.laload, 1) := by decide +kernel
theorem dc_402_22 : decode (sm_cc 402) 22 = .ok (.lload_n 3, 1) := by decide +kernel
theorem dc_402_23 : decode (sm_cc 402) 23 = .ok (.lcmp, 1) := by decide +kernel
theorem dc_402_24 : decode (sm_cc 402) 24 = .ok (.ifCond .ne (24), 3) := by decide +kernel
theorem dc_402_48 : decode (sm_cc 402) 48 = .ok (.iconst 0, 1) := by decide +kernel
theorem dc_402_27 : decode (sm_cc 402) 27 = .ok (.iload_n 2, 1) := by decide +kernel
theorem dc_402_28 : decode (sm_cc 402) 28 = .ok (.iconst 2, 1) := by decide +kernel
theorem dc_402_29 : decode (sm_cc 402) 29 = .ok (.if_icmp .ne (15), 3) := by decide +kernel
theorem dc_402_32 : decode (sm_cc 402) 32 = .ok (.aload_n 0, 1) := by decide +kernel
theorem dc_402_33 : decode (sm_cc 402) 33 = .ok (.getfield 546, 3) := by decide +kernel
theorem fr_402_546 : sm_at mt_f (sm_ow 402) 546 = some (546, 14, 50, 0, 2123) := by decide +kernel
theorem dc_402_36 : decode (sm_cc 402) 36 = .ok (.iload_n 1, 1) := by decide +kernel
theorem dc_402_37 : decode (sm_cc 402) 37 = .ok (.laload, 1) := by decide +kernel
theorem dc_402_38 : decode (sm_cc 402) 38 = .ok (.lload 5, 2) := by decide +kernel
theorem dc_402_40 : decode (sm_cc 402) 40 = .ok (.lcmp, 1) := by decide +kernel
theorem dc_402_41 : decode (sm_cc 402) 41 = .ok (.ifCond .ne (7), 3) := by decide +kernel
theorem dc_402_10 : decode (sm_cc 402) 10 = .ok (.iconst 0, 1) := by decide +kernel
theorem dc_402_11 : decode (sm_cc 402) 11 = .ok (.ireturn, 1) := by decide +kernel
theorem ml_404 : sm_ml 404 = 4 := by decide +kernel
theorem dc_404_0 : decode (sm_cc 404) 0 = .ok (.aload_n 0, 1) := by decide +kernel
theorem dc_404_1 : decode (sm_cc 404) 1 = .ok (.getfield 496, 3) := by decide +kernel
theorem fr_404_496 : sm_at mt_f (sm_ow 404) 496 = some (496, 14, 48, 0, 2121) := by decide +kernel
theorem dc_404_4 : decode (sm_cc 404) 4 = .ok (.iload_n 1, 1) := by decide +kernel
theorem dc_404_5 : decode (sm_cc 404) 5 = .ok (.iaload, 1) := by decide +kernel
theorem dc_404_6 : decode (sm_cc 404) 6 = .ok (.iconst 1, 1) := by decide +kernel
theorem dc_404_7 : decode (sm_cc 404) 7 = .ok (.if_icmp .ne (19), 3) := by decide +kernel
theorem dc_404_26 : decode (sm_cc 404) 26 = .ok (.aload_n 0, 1) := by decide +kernel
theorem dc_404_27 : decode (sm_cc 404) 27 = .ok (.getfield 499, 3) := by decide +kernel
theorem fr_404_499 : sm_at mt_f (sm_ow 404) 499 = some (499, 14, 49, 0, 2122) := by decide +kernel
theorem dc_404_30 : decode (sm_cc 404) 30 = .ok (.iload_n 1, 1) := by decide +kernel
theorem dc_404_31 : decode (sm_cc 404) 31 = .ok (.laload, 1) := by decide +kernel
theorem dc_404_32 : decode (sm_cc 404) 32 = .ok (.aload_n 0, 1) := by decide +kernel
theorem dc_404_33 : decode (sm_cc 404) 33 = .ok (.getfield 499, 3) := by decide +kernel
theorem dc_404_36 : decode (sm_cc 404) 36 = .ok (.iload_n 2, 1) := by decide +kernel
theorem dc_404_37 : decode (sm_cc 404) 37 = .ok (.laload, 1) := by decide +kernel
theorem dc_404_38 : decode (sm_cc 404) 38 = .ok (.invokestatic 709, 3) := by decide +kernel
theorem kr_404_709 : sm_at mt_k (sm_ow 404) 709 = some (709, 2, 389, 0, 2884) := by decide +kernel
theorem np_389 : sm_np 389 = 2 := by decide +kernel
theorem dc_404_41 : decode (sm_cc 404) 41 = .ok (.istore_n 3, 1) := by decide +kernel
theorem dc_404_42 : decode (sm_cc 404) 42 = .ok (.iload_n 3, 1) := by decide +kernel
theorem dc_404_43 : decode (sm_cc 404) 43 = .ok (.ifCond .eq (7), 3) := by decide +kernel
theorem dc_404_50 : decode (sm_cc 404) 50 = .ok (.aload_n 0, 1) := by decide +kernel
theorem dc_404_51 : decode (sm_cc 404) 51 = .ok (.getfield 546, 3) := by decide +kernel
theorem fr_404_546 : sm_at mt_f (sm_ow 404) 546 = some (546, 14, 50, 0, 2123) := by decide +kernel
theorem dc_404_54 : decode (sm_cc 404) 54 = .ok (.iload_n 1, 1) := by decide +kernel
theorem dc_404_55 : decode (sm_cc 404) 55 = .ok (.laload, 1) := by decide +kernel
theorem dc_404_56 : decode (sm_cc 404) 56 = .ok (.aload_n 0, 1) := by decide +kernel
theorem dc_404_57 : decode (sm_cc 404) 57 = .ok (.getfield 546, 3) := by decide +kernel
theorem dc_404_60 : decode (sm_cc 404) 60 = .ok (.iload_n 2, 1) := by decide +kernel
theorem dc_404_61 : decode (sm_cc 404) 61 = .ok (.laload, 1) := by decide +kernel
theorem dc_404_62 : decode (sm_cc 404) 62 = .ok (.invokestatic 709, 3) := by decide +kernel
theorem dc_404_65 : decode (sm_cc 404) 65 = .ok (.ireturn, 1) := by decide +kernel
theorem rt_404 : sm_rt 404 = some .int := by decide +kernel
theorem dc_404_46 : decode (sm_cc 404) 46 = .ok (.iload_n 3, 1) := by decide +kernel
theorem dc_404_47 : decode (sm_cc 404) 47 = .ok (.goto (18), 3) := by decide +kernel
theorem dc_404_10 : decode (sm_cc 404) 10 = .ok (.aload_n 0, 1) := by decide +kernel
theorem dc_404_11 : decode (sm_cc 404) 11 = .ok (.getfield 499, 3) := by decide +kernel
theorem dc_404_14 : decode (sm_cc 404) 14 = .ok (.iload_n 1, 1) := by decide +kernel
theorem dc_404_15 : decode (sm_cc 404) 15 = .ok (.laload, 1) := by decide +kernel
theorem dc_404_16 : decode (sm_cc 404) 16 = .ok (.aload_n 0, 1) := by decide +kernel
theorem dc_404_17 : decode (sm_cc 404) 17 = .ok (.getfield 499, 3) := by decide +kernel
theorem dc_404_20 : decode (sm_cc 404) 20 = .ok (.iload_n 2, 1) := by decide +kernel
theorem dc_404_21 : decode (sm_cc 404) 21 = .ok (.laload, 1) := by decide +kernel
theorem dc_404_22 : decode (sm_cc 404) 22 = .ok (.invokestatic 706, 3) := by decide +kernel
theorem kr_404_706 : sm_at mt_k (sm_ow 404) 706 = some (706, 2, 215, 0, 2948) := by decide +kernel
theorem dc_404_25 : decode (sm_cc 404) 25 = .ok (.ireturn, 1) := by decide +kernel
theorem ml_409 : sm_ml 409 = 6 := by decide +kernel
theorem dc_409_0 : decode (sm_cc 409) 0 = .ok (.aload_n 0, 1) := by decide +kernel
theorem dc_409_1 : decode (sm_cc 409) 1 = .ok (.getfield 493, 3) := by decide +kernel
theorem fr_409_493 : sm_at mt_f (sm_ow 409) 493 = some (493, 14, 51, 0, 2124) := by decide +kernel
theorem dc_409_4 : decode (sm_cc 409) 4 = .ok (.iconst 2, 1) := by decide +kernel
theorem dc_409_5 : decode (sm_cc 409) 5 = .ok (.isub, 1) := by decide +kernel
theorem dc_409_6 : decode (sm_cc 409) 6 = .ok (.istore_n 1, 1) := by decide +kernel
theorem dc_409_7 : decode (sm_cc 409) 7 = .ok (.aload_n 0, 1) := by decide +kernel
theorem dc_409_8 : decode (sm_cc 409) 8 = .ok (.getfield 493, 3) := by decide +kernel
theorem dc_409_11 : decode (sm_cc 409) 11 = .ok (.iconst 1, 1) := by decide +kernel
theorem dc_409_12 : decode (sm_cc 409) 12 = .ok (.isub, 1) := by decide +kernel
theorem dc_409_13 : decode (sm_cc 409) 13 = .ok (.istore_n 2, 1) := by decide +kernel
theorem dc_409_14 : decode (sm_cc 409) 14 = .ok (.aload_n 0, 1) := by decide +kernel
theorem dc_409_15 : decode (sm_cc 409) 15 = .ok (.getfield 496, 3) := by decide +kernel
theorem fr_409_496 : sm_at mt_f (sm_ow 409) 496 = some (496, 14, 48, 0, 2121) := by decide +kernel
theorem dc_409_18 : decode (sm_cc 409) 18 = .ok (.iload_n 1, 1) := by decide +kernel
theorem dc_409_19 : decode (sm_cc 409) 19 = .ok (.iaload, 1) := by decide +kernel
theorem dc_409_20 : decode (sm_cc 409) 20 = .ok (.iconst 2, 1) := by decide +kernel
theorem dc_409_21 : decode (sm_cc 409) 21 = .ok (.if_icmp .ne (141), 3) := by decide +kernel
theorem dc_409_162 : decode (sm_cc 409) 162 = .ok (.aload_n 0, 1) := by decide +kernel
theorem dc_409_163 : decode (sm_cc 409) 163 = .ok (.iload_n 1, 1) := by decide +kernel
theorem dc_409_164 : decode (sm_cc 409) 164 = .ok (.iconst 1, 1) := by decide +kernel
theorem dc_409_165 : decode (sm_cc 409) 165 = .ok (.invokevirtual 683, 3) := by decide +kernel
theorem kr_409_683 : sm_at mt_k (sm_ow 409) 683 = some (683, 0, 363, 0, 2722) := by decide +kernel
theorem dc_409_168 : decode (sm_cc 409) 168 = .ok (.ifCond .ne (18), 3) := by decide +kernel
theorem dc_409_186 : decode (sm_cc 409) 186 = .ok (.aload_n 0, 1) := by decide +kernel
theorem dc_409_187 : decode (sm_cc 409) 187 = .ok (.iload_n 1, 1) := by decide +kernel
theorem dc_409_188 : decode (sm_cc 409) 188 = .ok (.invokevirtual 554, 3) := by decide +kernel
theorem kr_409_554 : sm_at mt_k (sm_ow 409) 554 = some (554, 0, 361, 0, 2714) := by decide +kernel
theorem dc_409_191 : decode (sm_cc 409) 191 = .ok (.astore_n 3, 1) := by decide +kernel
theorem dc_409_192 : decode (sm_cc 409) 192 = .ok (.aload_n 0, 1) := by decide +kernel
theorem dc_409_193 : decode (sm_cc 409) 193 = .ok (.aload_n 3, 1) := by decide +kernel
theorem dc_409_194 : decode (sm_cc 409) 194 = .ok (.iload_n 2, 1) := by decide +kernel
theorem dc_409_195 : decode (sm_cc 409) 195 = .ok (.invokevirtual 768, 3) := by decide +kernel
theorem ow_410 : 14 = sm_ow 410 := by decide +kernel
theorem kr_409_768 : sm_at mt_k (sm_ow 409) 768 = some (768, 0, 410, 0, 2973) := by decide +kernel
theorem np_410 : sm_np 410 = 2 := by decide +kernel
theorem dc_409_198 : decode (sm_cc 409) 198 = .ok (.istore 4, 2) := by decide +kernel
theorem dc_409_200 : decode (sm_cc 409) 200 = .ok (.iload 4, 2) := by decide +kernel
theorem dc_409_202 : decode (sm_cc 409) 202 = .ok (.ifCond .ge (5), 3) := by decide +kernel
theorem dc_409_207 : decode (sm_cc 409) 207 = .ok (.aload_n 0, 1) := by decide +kernel
theorem dc_409_208 : decode (sm_cc 409) 208 = .ok (.dup, 1) := by decide +kernel
theorem dc_409_209 : decode (sm_cc 409) 209 = .ok (.getfield 493, 3) := by decide +kernel
theorem dc_409_212 : decode (sm_cc 409) 212 = .ok (.iconst 2, 1) := by decide +kernel
theorem dc_409_213 : decode (sm_cc 409) 213 = .ok (.isub, 1) := by decide +kernel
theorem dc_409_214 : decode (sm_cc 409) 214 = .ok (.putfield 493, 3) := by decide +kernel
theorem dc_409_217 : decode (sm_cc 409) 217 = .ok (.aload_n 0, 1) := by decide +kernel
theorem dc_409_218 : decode (sm_cc 409) 218 = .ok (.aload_n 3, 1) := by decide +kernel
theorem dc_409_219 : decode (sm_cc 409) 219 = .ok (.getfield 462, 3) := by decide +kernel
theorem fr_409_462 : sm_at mt_f (sm_ow 409) 462 = some (462, 13, 2, 0, 2774) := by decide +kernel
theorem dc_409_222 : decode (sm_cc 409) 222 = .ok (.iload 4, 2) := by decide +kernel
theorem dc_409_224 : decode (sm_cc 409) 224 = .ok (.iaload, 1) := by decide +kernel
theorem dc_409_225 : decode (sm_cc 409) 225 = .ok (.aload_n 3, 1) := by decide +kernel
theorem dc_409_226 : decode (sm_cc 409) 226 = .ok (.getfield 465, 3) := by decide +kernel
theorem fr_409_465 : sm_at mt_f (sm_ow 409) 465 = some (465, 13, 4, 0, 2778) := by decide +kernel
theorem dc_409_229 : decode (sm_cc 409) 229 = .ok (.iload 4, 2) := by decide +kernel
theorem dc_409_231 : decode (sm_cc 409) 231 = .ok (.laload, 1) := by decide +kernel
theorem dc_409_232 : decode (sm_cc 409) 232 = .ok (.aload_n 3, 1) := by decide +kernel
theorem dc_409_233 : decode (sm_cc 409) 233 = .ok (.getfield 627, 3) := by decide +kernel
theorem fr_409_627 : sm_at mt_f (sm_ow 409) 627 = some (627, 13, 5, 0, 2780) := by decide +kernel
theorem dc_409_236 : decode (sm_cc 409) 236 = .ok (.iload 4, 2) := by decide +kernel
theorem dc_409_238 : decode (sm_cc 409) 238 = .ok (.laload, 1) := by decide +kernel
theorem dc_409_239 : decode (sm_cc 409) 239 = .ok (.invokevirtual 549, 3) := by decide +kernel
theorem kr_409_549 : sm_at mt_k (sm_ow 409) 549 = some (549, 0, 352, 0, 2668) := by decide +kernel
theorem dc_409_242 : decode (sm_cc 409) 242 = .ok (.iconst 1, 1) := by decide +kernel
theorem dc_409_243 : decode (sm_cc 409) 243 = .ok (.ireturn, 1) := by decide +kernel
theorem rt_409 : sm_rt 409 = some .boolean := by decide +kernel
theorem dc_409_205 : decode (sm_cc 409) 205 = .ok (.iconst 0, 1) := by decide +kernel
theorem dc_409_206 : decode (sm_cc 409) 206 = .ok (.ireturn, 1) := by decide +kernel
theorem dc_409_171 : decode (sm_cc 409) 171 = .ok (.aload_n 0, 1) := by decide +kernel
theorem dc_409_172 : decode (sm_cc 409) 172 = .ok (.iload_n 1, 1) := by decide +kernel
theorem dc_409_173 : decode (sm_cc 409) 173 = .ok (.iconst 2, 1) := by decide +kernel
theorem dc_409_174 : decode (sm_cc 409) 174 = .ok (.invokevirtual 683, 3) := by decide +kernel
theorem dc_409_177 : decode (sm_cc 409) 177 = .ok (.ifCond .ne (9), 3) := by decide +kernel
theorem dc_409_180 : decode (sm_cc 409) 180 = .ok (.aload_n 0, 1) := by decide +kernel
theorem dc_409_181 : decode (sm_cc 409) 181 = .ok (.iconst 2, 1) := by decide +kernel
theorem dc_409_182 : decode (sm_cc 409) 182 = .ok (.invokevirtual 608, 3) := by decide +kernel
theorem kr_409_608 : sm_at mt_k (sm_ow 409) 608 = some (608, 0, 351, 0, 2664) := by decide +kernel
theorem dc_409_185 : decode (sm_cc 409) 185 = .ok (.ireturn, 1) := by decide +kernel
theorem dc_409_24 : decode (sm_cc 409) 24 = .ok (.aload_n 0, 1) := by decide +kernel
theorem dc_409_25 : decode (sm_cc 409) 25 = .ok (.getfield 496, 3) := by decide +kernel
theorem dc_409_28 : decode (sm_cc 409) 28 = .ok (.iload_n 2, 1) := by decide +kernel
theorem dc_409_29 : decode (sm_cc 409) 29 = .ok (.iaload, 1) := by decide +kernel
theorem dc_409_30 : decode (sm_cc 409) 30 = .ok (.iconst 1, 1) := by decide +kernel
theorem dc_409_31 : decode (sm_cc 409) 31 = .ok (.if_icmp .eq (9), 3) := by decide +kernel
theorem dc_409_40 : decode (sm_cc 409) 40 = .ok (.aload_n 0, 1) := by decide +kernel
theorem dc_409_41 : decode (sm_cc 409) 41 = .ok (.getfield 546, 3) := by decide +kernel
theorem fr_409_546 : sm_at mt_f (sm_ow 409) 546 = some (546, 14, 50, 0, 2123) := by decide +kernel
theorem dc_409_44 : decode (sm_cc 409) 44 = .ok (.iload_n 1, 1) := by decide +kernel
theorem dc_409_45 : decode (sm_cc 409) 45 = .ok (.laload, 1) := by decide +kernel
theorem dc_409_46 : decode (sm_cc 409) 46 = .ok (.invokestatic 552, 3) := by decide +kernel
theorem kr_409_552 : sm_at mt_k (sm_ow 409) 552 = some (552, 2, 360, 0, 2710) := by decide +kernel
theorem dc_409_49 : decode (sm_cc 409) 49 = .ok (.istore_n 3, 1) := by decide +kernel
theorem dc_409_50 : decode (sm_cc 409) 50 = .ok (.aload_n 0, 1) := by decide +kernel
theorem dc_409_51 : decode (sm_cc 409) 51 = .ok (.getfield 499, 3) := by decide +kernel
theorem fr_409_499 : sm_at mt_f (sm_ow 409) 499 = some (499, 14, 49, 0, 2122) := by decide +kernel
theorem dc_409_54 : decode (sm_cc 409) 54 = .ok (.iload_n 2, 1) := by decide +kernel
theorem dc_409_55 : decode (sm_cc 409) 55 = .ok (.laload, 1) := by decide +kernel
theorem dc_409_56 : decode (sm_cc 409) 56 = .ok (.lconst 0, 1) := by decide +kernel
theorem dc_409_57 : decode (sm_cc 409) 57 = .ok (.lcmp, 1) := by decide +kernel
theorem dc_409_58 : decode (sm_cc 409) 58 = .ok (.ifCond .ge (15), 3) := by decide +kernel
theorem dc_409_73 : decode (sm_cc 409) 73 = .ok (.aload_n 0, 1) := by decide +kernel
theorem dc_409_74 : decode (sm_cc 409) 74 = .ok (.getfield 499, 3) := by decide +kernel
theorem dc_409_77 : decode (sm_cc 409) 77 = .ok (.iload_n 2, 1) := by decide +kernel
theorem dc_409_78 : decode (sm_cc 409) 78 = .ok (.laload, 1) := by decide +kernel
theorem dc_409_79 : decode (sm_cc 409) 79 = .ok (.lstore 4, 2) := by decide +kernel
theorem dc_409_81 : decode (sm_cc 409) 81 = .ok (.lload 4, 2) := by decide +kernel
theorem dc_409_83 : decode (sm_cc 409) 83 = .ok (.lconst 0, 1) := by decide +kernel
theorem dc_409_84 : decode (sm_cc 409) 84 = .ok (.iload_n 3, 1) := by decide +kernel
theorem dc_409_85 : decode (sm_cc 409) 85 = .ok (.iconst 1, 1) := by decide +kernel
theorem dc_409_86 : decode (sm_cc 409) 86 = .ok (.isub, 1) := by decide +kernel
theorem dc_409_87 : decode (sm_cc 409) 87 = .ok (.i2l, 1) := by decide +kernel
theorem dc_409_88 : decode (sm_cc 409) 88 = .ok (.invokestatic 680, 3) := by decide +kernel
theorem kr_409_680 : sm_at mt_k (sm_ow 409) 680 = some (680, 2, 284, 0, 2313) := by decide +kernel
theorem dc_409_91 : decode (sm_cc 409) 91 = .ok (.ifCond .ne (9), 3) := by decide +kernel
theorem dc_409_100 : decode (sm_cc 409) 100 = .ok (.aload_n 0, 1) := by decide +kernel
theorem dc_409_101 : decode (sm_cc 409) 101 = .ok (.getfield 752, 3) := by decide +kernel
theorem fr_409_752 : sm_at mt_f (sm_ow 409) 752 = some (752, 14, 69, 0, 2142) := by decide +kernel
theorem dc_409_104 : decode (sm_cc 409) 104 = .ok (.iconst 0, 1) := by decide +kernel
theorem dc_409_105 : decode (sm_cc 409) 105 = .ok (.aload_n 0, 1) := by decide +kernel
theorem dc_409_106 : decode (sm_cc 409) 106 = .ok (.getfield 499, 3) := by decide +kernel
theorem dc_409_109 : decode (sm_cc 409) 109 = .ok (.iload_n 1, 1) := by decide +kernel
theorem dc_409_110 : decode (sm_cc 409) 110 = .ok (.laload, 1) := by decide +kernel
theorem dc_409_111 : decode (sm_cc 409) 111 = .ok (.aload_n 0, 1) := by decide +kernel
theorem dc_409_112 : decode (sm_cc 409) 112 = .ok (.getfield 546, 3) := by decide +kernel
theorem dc_409_115 : decode (sm_cc 409) 115 = .ok (.iload_n 1, 1) := by decide +kernel
theorem dc_409_116 : decode (sm_cc 409) 116 = .ok (.laload, 1) := by decide +kernel
theorem dc_409_117 : decode (sm_cc 409) 117 = .ok (.lload 4, 2) := by decide +kernel
theorem dc_409_119 : decode (sm_cc 409) 119 = .ok (.l2i, 1) := by decide +kernel
theorem dc_409_120 : decode (sm_cc 409) 120 = .ok (.invokestatic 755, 3) := by decide +kernel
theorem kr_409_755 : sm_at mt_k (sm_ow 409) 755 = some (755, 2, 386, 0, 2864) := by decide +kernel
theorem np_386 : sm_np 386 = 3 := by decide +kernel
theorem dc_409_123 : decode (sm_cc 409) 123 = .ok (.i2b, 1) := by decide +kernel
theorem dc_409_124 : decode (sm_cc 409) 124 = .ok (.bastore, 1) := by decide +kernel
theorem dc_409_125 : decode (sm_cc 409) 125 = .ok (.aload_n 0, 1) := by decide +kernel
theorem dc_409_126 : decode (sm_cc 409) 126 = .ok (.dup, 1) := by decide +kernel
theorem dc_409_127 : decode (sm_cc 409) 127 = .ok (.getfield 493, 3) := by decide +kernel
theorem dc_409_130 : decode (sm_cc 409) 130 = .ok (.iconst 2, 1) := by decide +kernel
theorem dc_409_131 : decode (sm_cc 409) 131 = .ok (.isub, 1) := by decide +kernel
theorem dc_409_132 : decode (sm_cc 409) 132 = .ok (.putfield 493, 3) := by decide +kernel
theorem dc_409_135 : decode (sm_cc 409) 135 = .ok (.aload_n 0, 1) := by decide +kernel
theorem dc_409_136 : decode (sm_cc 409) 136 = .ok (.iconst 2, 1) := by decide +kernel
theorem dc_409_137 : decode (sm_cc 409) 137 = .ok (.aload_n 0, 1) := by decide +kernel
theorem dc_409_138 : decode (sm_cc 409) 138 = .ok (.getfield 752, 3) := by decide +kernel
theorem dc_409_141 : decode (sm_cc 409) 141 = .ok (.iconst 0, 1) := by decide +kernel
theorem dc_409_142 : decode (sm_cc 409) 142 = .ok (.iconst 1, 1) := by decide +kernel
theorem dc_409_143 : decode (sm_cc 409) 143 = .ok (.iconst 0, 1) := by decide +kernel
theorem dc_409_144 : decode (sm_cc 409) 144 = .ok (.invokestatic 178, 3) := by decide +kernel
theorem kr_409_178 : sm_at mt_k (sm_ow 409) 178 = some (178, 2, 297, 0, 2400) := by decide +kernel
theorem dc_409_147 : decode (sm_cc 409) 147 = .ok (.aload_n 0, 1) := by decide +kernel
theorem dc_409_148 : decode (sm_cc 409) 148 = .ok (.getfield 752, 3) := by decide +kernel
theorem dc_409_151 : decode (sm_cc 409) 151 = .ok (.iconst 0, 1) := by decide +kernel
theorem dc_409_152 : decode (sm_cc 409) 152 = .ok (.iconst 1, 1) := by decide +kernel
theorem dc_409_153 : decode (sm_cc 409) 153 = .ok (.iconst 1, 1) := by decide +kernel
theorem dc_409_154 : decode (sm_cc 409) 154 = .ok (.invokestatic 178, 3) := by decide +kernel
theorem dc_409_157 : decode (sm_cc 409) 157 = .ok (.invokevirtual 549, 3) := by decide +kernel
theorem dc_409_160 : decode (sm_cc 409) 160 = .ok (.iconst 1, 1) := by decide +kernel
theorem dc_409_161 : decode (sm_cc 409) 161 = .ok (.ireturn, 1) := by decide +kernel
theorem dc_409_94 : decode (sm_cc 409) 94 = .ok (.aload_n 0, 1) := by decide +kernel
theorem dc_409_95 : decode (sm_cc 409) 95 = .ok (.iconst 3, 1) := by decide +kernel
theorem dc_409_96 : decode (sm_cc 409) 96 = .ok (.invokevirtual 608, 3) := by decide +kernel
theorem dc_409_99 : decode (sm_cc 409) 99 = .ok (.ireturn, 1) := by decide +kernel
theorem dc_409_61 : decode (sm_cc 409) 61 = .ok (.aload_n 0, 1) := by decide +kernel
theorem dc_409_62 : decode (sm_cc 409) 62 = .ok (.getfield 499, 3) := by decide +kernel
theorem dc_409_65 : decode (sm_cc 409) 65 = .ok (.iload_n 2, 1) := by decide +kernel
theorem dc_409_66 : decode (sm_cc 409) 66 = .ok (.laload, 1) := by decide +kernel
theorem dc_409_67 : decode (sm_cc 409) 67 = .ok (.iload_n 3, 1) := by decide +kernel
theorem dc_409_68 : decode (sm_cc 409) 68 = .ok (.i2l, 1) := by decide +kernel
theorem dc_409_69 : decode (sm_cc 409) 69 = .ok (.ladd, 1) := by decide +kernel
theorem dc_409_70 : decode (sm_cc 409) 70 = .ok (.goto (9), 3) := by decide +kernel
theorem dc_409_34 : decode (sm_cc 409) 34 = .ok (.aload_n 0, 1) := by decide +kernel
theorem dc_409_35 : decode (sm_cc 409) 35 = .ok (.iconst 2, 1) := by decide +kernel
theorem dc_409_36 : decode (sm_cc 409) 36 = .ok (.invokevirtual 608, 3) := by decide +kernel
theorem dc_409_39 : decode (sm_cc 409) 39 = .ok (.ireturn, 1) := by decide +kernel
theorem ml_415 : sm_ml 415 = 6 := by decide +kernel
theorem dc_415_0 : decode (sm_cc 415) 0 = .ok (.aload_n 0, 1) := by decide +kernel
theorem dc_415_1 : decode (sm_cc 415) 1 = .ok (.iload_n 1, 1) := by decide +kernel
theorem dc_415_2 : decode (sm_cc 415) 2 = .ok (.iconst 1, 1) := by decide +kernel
theorem dc_415_3 : decode (sm_cc 415) 3 = .ok (.invokevirtual 683, 3) := by decide +kernel
theorem kr_415_683 : sm_at mt_k (sm_ow 415) 683 = some (683, 0, 363, 0, 2722) := by decide +kernel
theorem dc_415_6 : decode (sm_cc 415) 6 = .ok (.ifCond .ne (18), 3) := by decide +kernel
theorem dc_415_24 : decode (sm_cc 415) 24 = .ok (.aload_n 0, 1) := by decide +kernel
theorem dc_415_25 : decode (sm_cc 415) 25 = .ok (.iload_n 1, 1) := by decide +kernel
theorem dc_415_26 : decode (sm_cc 415) 26 = .ok (.invokevirtual 554, 3) := by decide +kernel
theorem kr_415_554 : sm_at mt_k (sm_ow 415) 554 = some (554, 0, 361, 0, 2714) := by decide +kernel
theorem dc_415_29 : decode (sm_cc 415) 29 = .ok (.astore 4, 2) := by decide +kernel
theorem dc_415_31 : decode (sm_cc 415) 31 = .ok (.aload_n 0, 1) := by decide +kernel
theorem dc_415_32 : decode (sm_cc 415) 32 = .ok (.aload 4, 2) := by decide +kernel
theorem dc_415_34 : decode (sm_cc 415) 34 = .ok (.iload_n 2, 1) := by decide +kernel
theorem dc_415_35 : decode (sm_cc 415) 35 = .ok (.invokevirtual 768, 3) := by decide +kernel
theorem kr_415_768 : sm_at mt_k (sm_ow 415) 768 = some (768, 0, 410, 0, 2973) := by decide +kernel
theorem dc_415_38 : decode (sm_cc 415) 38 = .ok (.istore 5, 2) := by decide +kernel
theorem dc_415_40 : decode (sm_cc 415) 40 = .ok (.iload 5, 2) := by decide +kernel
theorem dc_415_42 : decode (sm_cc 415) 42 = .ok (.ifCond .ge (22), 3) := by decide +kernel
theorem dc_415_64 : decode (sm_cc 415) 64 = .ok (.iload 5, 2) := by decide +kernel
theorem dc_415_66 : decode (sm_cc 415) 66 = .ok (.ifCond .ge (74), 3) := by decide +kernel
theorem dc_415_140 : decode (sm_cc 415) 140 = .ok (.aload 4, 2) := by decide +kernel
theorem dc_415_142 : decode (sm_cc 415) 142 = .ok (.iload 5, 2) := by decide +kernel
theorem dc_415_144 : decode (sm_cc 415) 144 = .ok (.aload_n 0, 1) := by decide +kernel
theorem dc_415_145 : decode (sm_cc 415) 145 = .ok (.getfield 496, 3) := by decide +kernel
theorem fr_415_496 : sm_at mt_f (sm_ow 415) 496 = some (496, 14, 48, 0, 2121) := by decide +kernel
theorem dc_415_148 : decode (sm_cc 415) 148 = .ok (.iload_n 3, 1) := by decide +kernel
theorem dc_415_149 : decode (sm_cc 415) 149 = .ok (.iaload, 1) := by decide +kernel
theorem dc_415_150 : decode (sm_cc 415) 150 = .ok (.aload_n 0, 1) := by decide +kernel
theorem dc_415_151 : decode (sm_cc 415) 151 = .ok (.getfield 499, 3) := by decide +kernel
theorem fr_415_499 : sm_at mt_f (sm_ow 415) 499 = some (499, 14, 49, 0, 2122) := by decide +kernel
theorem dc_415_154 : decode (sm_cc 415) 154 = .ok (.iload_n 3, 1) := by decide +kernel
theorem dc_415_155 : decode (sm_cc 415) 155 = .ok (.laload, 1) := by decide +kernel
theorem dc_415_156 : decode (sm_cc 415) 156 = .ok (.aload_n 0, 1) := by decide +kernel
theorem dc_415_157 : decode (sm_cc 415) 157 = .ok (.getfield 546, 3) := by decide +kernel
theorem fr_415_546 : sm_at mt_f (sm_ow 415) 546 = some (546, 14, 50, 0, 2123) := by decide +kernel
theorem dc_415_160 : decode (sm_cc 415) 160 = .ok (.iload_n 3, 1) := by decide +kernel
theorem dc_415_161 : decode (sm_cc 415) 161 = .ok (.laload, 1) := by decide +kernel
theorem dc_415_162 : decode (sm_cc 415) 162 = .ok (.invokevirtual 699, 3) := by decide +kernel
theorem kr_415_699 : sm_at mt_k (sm_ow 415) 699 = some (699, 0, 358, 0, 2702) := by decide +kernel
theorem dc_415_165 : decode (sm_cc 415) 165 = .ok (.aload_n 0, 1) := by decide +kernel
theorem dc_415_166 : decode (sm_cc 415) 166 = .ok (.dup, 1) := by decide +kernel
theorem dc_415_167 : decode (sm_cc 415) 167 = .ok (.getfield 493, 3) := by decide +kernel
theorem fr_415_493 : sm_at mt_f (sm_ow 415) 493 = some (493, 14, 51, 0, 2124) := by decide +kernel
theorem dc_415_170 : decode (sm_cc 415) 170 = .ok (.iconst 3, 1) := by decide +kernel
theorem dc_415_171 : decode (sm_cc 415) 171 = .ok (.isub, 1) := by decide +kernel
theorem dc_415_172 : decode (sm_cc 415) 172 = .ok (.putfield 493, 3) := by decide +kernel
theorem dc_415_175 : decode (sm_cc 415) 175 = .ok (.iconst 1, 1) := by decide +kernel
theorem dc_415_176 : decode (sm_cc 415) 176 = .ok (.ireturn, 1) := by decide +kernel
theorem rt_415 : sm_rt 415 = some .boolean := by decide +kernel
theorem dc_415_45 : decode (sm_cc 415) 45 = .ok (.aload 4, 2) := by decide +kernel
theorem dc_415_47 : decode (sm_cc 415) 47 = .ok (.getfield 531, 3) := by decide +kernel
theorem fr_415_531 : sm_at mt_f (sm_ow 415) 531 = some (531, 13, 0, 0, 2770) := by decide +kernel
theorem dc_415_50 : decode (sm_cc 415) 50 = .ok (.iconst 1, 1) := by decide +kernel
theorem dc_415_51 : decode (sm_cc 415) 51 = .ok (.if_icmp .eq (11), 3) := by decide +kernel
theorem dc_415_62 : decode (sm_cc 415) 62 = .ok (.iconst 0, 1) := by decide +kernel
theorem dc_415_63 : decode (sm_cc 415) 63 = .ok (.ireturn, 1) := by decide +kernel
theorem dc_415_54 : decode (sm_cc 415) 54 = .ok (.aload_n 0, 1) := by decide +kernel
theorem dc_415_55 : decode (sm_cc 415) 55 = .ok (.getfield 453, 3) := by decide +kernel
theorem fr_415_453 : sm_at mt_f (sm_ow 415) 453 = some (453, 14, 64, 0, 2137) := by decide +kernel
theorem dc_415_58 : decode (sm_cc 415) 58 = .ok (.iconst 4, 1) := by decide +kernel
theorem dc_415_59 : decode (sm_cc 415) 59 = .ok (.if_icmp .eq (5), 3) := by decide +kernel
theorem dc_415_69 : decode (sm_cc 415) 69 = .ok (.aload 4, 2) := by decide +kernel
theorem dc_415_71 : decode (sm_cc 415) 71 = .ok (.getfield 459, 3) := by decide +kernel
theorem fr_415_459 : sm_at mt_f (sm_ow 415) 459 = some (459, 13, 1, 0, 2772) := by decide +kernel
theorem dc_415_74 : decode (sm_cc 415) 74 = .ok (.bipush (100), 2) := by decide +kernel
theorem dc_415_76 : decode (sm_cc 415) 76 = .ok (.if_icmp .ne (10), 3) := by decide +kernel
theorem dc_415_86 : decode (sm_cc 415) 86 = .ok (.aload 4, 2) := by decide +kernel
theorem dc_415_88 : decode (sm_cc 415) 88 = .ok (.getfield 459, 3) := by decide +kernel
theorem dc_415_91 : decode (sm_cc 415) 91 = .ok (.istore 5, 2) := by decide +kernel
theorem dc_415_93 : decode (sm_cc 415) 93 = .ok (.aload 4, 2) := by decide +kernel
theorem dc_415_95 : decode (sm_cc 415) 95 = .ok (.iconst 0, 1) := by decide +kernel
theorem dc_415_96 : decode (sm_cc 415) 96 = .ok (.lconst 0, 1) := by decide +kernel
theorem dc_415_97 : decode (sm_cc 415) 97 = .ok (.lconst 0, 1) := by decide +kernel
theorem dc_415_98 : decode (sm_cc 415) 98 = .ok (.invokevirtual 759, 3) := by decide +kernel
theorem ow_375 : 13 = sm_ow 375 := by decide +kernel
theorem kr_415_759 : sm_at mt_k (sm_ow 415) 759 = some (759, 0, 375, 0, 2817) := by decide +kernel
theorem np_375 : sm_np 375 = 3 := by decide +kernel
theorem dc_415_101 : decode (sm_cc 415) 101 = .ok (.aload 4, 2) := by decide +kernel
theorem dc_415_103 : decode (sm_cc 415) 103 = .ok (.iload 5, 2) := by decide +kernel
theorem dc_415_105 : decode (sm_cc 415) 105 = .ok (.aload_n 0, 1) := by decide +kernel
theorem dc_415_106 : decode (sm_cc 415) 106 = .ok (.getfield 496, 3) := by decide +kernel
theorem dc_415_109 : decode (sm_cc 415) 109 = .ok (.iload_n 2, 1) := by decide +kernel
theorem dc_415_110 : decode (sm_cc 415) 110 = .ok (.iaload, 1) := by decide +kernel
theorem dc_415_111 : decode (sm_cc 415) 111 = .ok (.aload_n 0, 1) := by decide +kernel
theorem dc_415_112 : decode (sm_cc 415) 112 = .ok (.getfield 499, 3) := by decide +kernel
theorem dc_415_115 : decode (sm_cc 415) 115 = .ok (.iload_n 2, 1) := by decide +kernel
theorem dc_415_116 : decode (sm_cc 415) 116 = .ok (.laload, 1) := by decide +kernel
theorem dc_415_117 : decode (sm_cc 415) 117 = .ok (.aload_n 0, 1) := by decide +kernel
theorem dc_415_118 : decode (sm_cc 415) 118 = .ok (.getfield 496, 3) := by decide +kernel
theorem dc_415_121 : decode (sm_cc 415) 121 = .ok (.iload_n 2, 1) := by decide +kernel
theorem dc_415_122 : decode (sm_cc 415) 122 = .ok (.iaload, 1) := by decide +kernel
theorem dc_415_123 : decode (sm_cc 415) 123 = .ok (.iconst 1, 1) := by decide +kernel
theorem dc_415_124 : decode (sm_cc 415) 124 = .ok (.if_icmp .ne (7), 3) := by decide +kernel
theorem dc_415_131 : decode (sm_cc 415) 131 = .ok (.aload_n 0, 1) := by decide +kernel
theorem dc_415_132 : decode (sm_cc 415) 132 = .ok (.getfield 546, 3) := by decide +kernel
theorem dc_415_135 : decode (sm_cc 415) 135 = .ok (.iload_n 2, 1) := by decide +kernel
theorem dc_415_136 : decode (sm_cc 415) 136 = .ok (.laload, 1) := by decide +kernel
theorem dc_415_137 : decode (sm_cc 415) 137 = .ok (.invokevirtual 771, 3) := by decide +kernel
theorem ow_377 : 13 = sm_ow 377 := by decide +kernel
theorem kr_415_771 : sm_at mt_k (sm_ow 415) 771 = some (771, 0, 377, 0, 2828) := by decide +kernel
theorem np_377 : sm_np 377 = 4 := by decide +kernel
theorem dc_415_127 : decode (sm_cc 415) 127 = .ok (.lconst 0, 1) := by decide +kernel
theorem dc_415_128 : decode (sm_cc 415) 128 = .ok (.goto (9), 3) := by decide +kernel
theorem dc_415_79 : decode (sm_cc 415) 79 = .ok (.aload_n 0, 1) := by decide +kernel
theorem dc_415_80 : decode (sm_cc 415) 80 = .ok (.bipush (8), 2) := by decide +kernel
theorem dc_415_82 : decode (sm_cc 415) 82 = .ok (.invokevirtual 608, 3) := by decide +kernel
theorem kr_415_608 : sm_at mt_k (sm_ow 415) 608 = some (608, 0, 351, 0, 2664) := by decide +kernel
theorem dc_415_85 : decode (sm_cc 415) 85 = .ok (.ireturn, 1) := by decide +kernel
theorem dc_415_9 : decode (sm_cc 415) 9 = .ok (.aload_n 0, 1) := by decide +kernel
theorem dc_415_10 : decode (sm_cc 415) 10 = .ok (.iload_n 1, 1) := by decide +kernel
theorem dc_415_11 : decode (sm_cc 415) 11 = .ok (.iconst 2, 1) := by decide +kernel
theorem dc_415_12 : decode (sm_cc 415) 12 = .ok (.invokevirtual 683, 3) := by decide +kernel
theorem dc_415_15 : decode (sm_cc 415) 15 = .ok (.ifCond .ne (9), 3) := by decide +kernel
theorem dc_415_18 : decode (sm_cc 415) 18 = .ok (.aload_n 0, 1) := by decide +kernel
theorem dc_415_19 : decode (sm_cc 415) 19 = .ok (.iconst 2, 1) := by decide +kernel
theorem dc_415_20 : decode (sm_cc 415) 20 = .ok (.invokevirtual 608, 3) := by decide +kernel
theorem dc_415_23 : decode (sm_cc 415) 23 = .ok (.ireturn, 1) := by decide +kernel
theorem ml_416 : sm_ml 416 = 6 := by decide +kernel
theorem dc_416_0 : decode (sm_cc 416) 0 = .ok (.aload_n 0, 1) := by decide +kernel
theorem dc_416_1 : decode (sm_cc 416) 1 = .ok (.iload_n 2, 1) := by decide +kernel
theorem dc_416_2 : decode (sm_cc 416) 2 = .ok (.iconst 5, 1) := by decide +kernel
theorem dc_416_3 : decode (sm_cc 416) 3 = .ok (.invokevirtual 683, 3) := by decide +kernel
theorem kr_416_683 : sm_at mt_k (sm_ow 416) 683 = some (683, 0, 363, 0, 2722) := by decide +kernel
theorem dc_416_6 : decode (sm_cc 416) 6 = .ok (.ifCond .ne (18), 3) := by decide +kernel
theorem dc_416_24 : decode (sm_cc 416) 24 = .ok (.aload_n 0, 1) := by decide +kernel
theorem dc_416_25 : decode (sm_cc 416) 25 = .ok (.iload_n 2, 1) := by decide +kernel
theorem dc_416_26 : decode (sm_cc 416) 26 = .ok (.invokevirtual 554, 3) := by decide +kernel
theorem kr_416_554 : sm_at mt_k (sm_ow 416) 554 = some (554, 0, 361, 0, 2714) := by decide +kernel
theorem dc_416_29 : decode (sm_cc 416) 29 = .ok (.astore 4, 2) := by decide +kernel
theorem dc_416_31 : decode (sm_cc 416) 31 = .ok (.aload 4, 2) := by decide +kernel
theorem dc_416_33 : decode (sm_cc 416) 33 = .ok (.iconst 0, 1) := by decide +kernel
theorem dc_416_34 : decode (sm_cc 416) 34 = .ok (.iload_n 1, 1) := by decide +kernel
theorem dc_416_35 : decode (sm_cc 416) 35 = .ok (.i2l, 1) := by decide +kernel
theorem dc_416_36 : decode (sm_cc 416) 36 = .ok (.lconst 0, 1) := by decide +kernel
theorem dc_416_37 : decode (sm_cc 416) 37 = .ok (.invokevirtual 764, 3) := by decide +kernel
theorem ow_399 : 13 = sm_ow 399 := by decide +kernel
theorem kr_416_764 : sm_at mt_k (sm_ow 416) 764 = some (764, 0, 399, 0, 2924) := by decide +kernel
theorem np_399 : sm_np 399 = 3 := by decide +kernel
theorem dc_416_40 : decode (sm_cc 416) 40 = .ok (.istore 5, 2) := by decide +kernel
theorem dc_416_42 : decode (sm_cc 416) 42 = .ok (.iload 5, 2) := by decide +kernel
theorem dc_416_44 : decode (sm_cc 416) 44 = .ok (.ifCond .ge (46), 3) := by decide +kernel
theorem dc_416_90 : decode (sm_cc 416) 90 = .ok (.aload 4, 2) := by decide +kernel
theorem dc_416_92 : decode (sm_cc 416) 92 = .ok (.iload 5, 2) := by decide +kernel
theorem dc_416_94 : decode (sm_cc 416) 94 = .ok (.aload_n 0, 1) := by decide +kernel
theorem dc_416_95 : decode (sm_cc 416) 95 = .ok (.getfield 496, 3) := by decide +kernel
theorem fr_416_496 : sm_at mt_f (sm_ow 416) 496 = some (496, 14, 48, 0, 2121) := by decide +kernel
theorem dc_416_98 : decode (sm_cc 416) 98 = .ok (.iload_n 3, 1) := by decide +kernel
theorem dc_416_99 : decode (sm_cc 416) 99 = .ok (.iaload, 1) := by decide +kernel
theorem dc_416_100 : decode (sm_cc 416) 100 = .ok (.aload_n 0, 1) := by decide +kernel
theorem dc_416_101 : decode (sm_cc 416) 101 = .ok (.getfield 499, 3) := by decide +kernel
theorem fr_416_499 : sm_at mt_f (sm_ow 416) 499 = some (499, 14, 49, 0, 2122) := by decide +kernel
theorem dc_416_104 : decode (sm_cc 416) 104 = .ok (.iload_n 3, 1) := by decide +kernel
theorem dc_416_105 : decode (sm_cc 416) 105 = .ok (.laload, 1) := by decide +kernel
theorem dc_416_106 : decode (sm_cc 416) 106 = .ok (.aload_n 0, 1) := by decide +kernel
theorem dc_416_107 : decode (sm_cc 416) 107 = .ok (.getfield 546, 3) := by decide +kernel
theorem fr_416_546 : sm_at mt_f (sm_ow 416) 546 = some (546, 14, 50, 0, 2123) := by decide +kernel
theorem dc_416_110 : decode (sm_cc 416) 110 = .ok (.iload_n 3, 1) := by decide +kernel
theorem dc_416_111 : decode (sm_cc 416) 111 = .ok (.laload, 1) := by decide +kernel
theorem dc_416_112 : decode (sm_cc 416) 112 = .ok (.invokevirtual 699, 3) := by decide +kernel
theorem kr_416_699 : sm_at mt_k (sm_ow 416) 699 = some (699, 0, 358, 0, 2702) := by decide +kernel
theorem dc_416_115 : decode (sm_cc 416) 115 = .ok (.aload_n 0, 1) := by decide +kernel
theorem dc_416_116 : decode (sm_cc 416) 116 = .ok (.dup, 1) := by decide +kernel
theorem dc_416_117 : decode (sm_cc 416) 117 = .ok (.getfield 493, 3) := by decide +kernel
theorem fr_416_493 : sm_at mt_f (sm_ow 416) 493 = some (493, 14, 51, 0, 2124) := by decide +kernel
theorem dc_416_120 : decode (sm_cc 416) 120 = .ok (.iconst 2, 1) := by decide +kernel
theorem dc_416_121 : decode (sm_cc 416) 121 = .ok (.isub, 1) := by decide +kernel
theorem dc_416_122 : decode (sm_cc 416) 122 = .ok (.putfield 493, 3) := by decide +kernel
theorem dc_416_125 : decode (sm_cc 416) 125 = .ok (.iconst 1, 1) := by decide +kernel
theorem dc_416_126 : decode (sm_cc 416) 126 = .ok (.ireturn, 1) := by decide +kernel
theorem rt_416 : sm_rt 416 = some .boolean := by decide +kernel
theorem dc_416_47 : decode (sm_cc 416) 47 = .ok (.aload 4, 2) := by decide +kernel
theorem dc_416_49 : decode (sm_cc 416) 49 = .ok (.getfield 459, 3) := by decide +kernel
theorem fr_416_459 : sm_at mt_f (sm_ow 416) 459 = some (459, 13, 1, 0, 2772) := by decide +kernel
theorem dc_416_52 : decode (sm_cc 416) 52 = .ok (.bipush (40), 2) := by decide +kernel
theorem dc_416_54 : decode (sm_cc 416) 54 = .ok (.if_icmp .ne (10), 3) := by decide +kernel
theorem dc_416_64 : decode (sm_cc 416) 64 = .ok (.aload 4, 2) := by decide +kernel
theorem dc_416_66 : decode (sm_cc 416) 66 = .ok (.getfield 459, 3) := by decide +kernel
theorem dc_416_69 : decode (sm_cc 416) 69 = .ok (.istore 5, 2) := by decide +kernel
theorem dc_416_71 : decode (sm_cc 416) 71 = .ok (.aload 4, 2) := by decide +kernel
theorem dc_416_73 : decode (sm_cc 416) 73 = .ok (.iconst 0, 1) := by decide +kernel
theorem dc_416_74 : decode (sm_cc 416) 74 = .ok (.lconst 0, 1) := by decide +kernel
theorem dc_416_75 : decode (sm_cc 416) 75 = .ok (.lconst 0, 1) := by decide +kernel
theorem dc_416_76 : decode (sm_cc 416) 76 = .ok (.invokevirtual 759, 3) := by decide +kernel
theorem kr_416_759 : sm_at mt_k (sm_ow 416) 759 = some (759, 0, 375, 0, 2817) := by decide +kernel
theorem dc_416_79 : decode (sm_cc 416) 79 = .ok (.aload 4, 2) := by decide +kernel
theorem dc_416_81 : decode (sm_cc 416) 81 = .ok (.iload 5, 2) := by decide +kernel
theorem dc_416_83 : decode (sm_cc 416) 83 = .ok (.iconst 0, 1) := by decide +kernel
theorem dc_416_84 : decode (sm_cc 416) 84 = .ok (.iload_n 1, 1) := by decide +kernel
theorem dc_416_85 : decode (sm_cc 416) 85 = .ok (.i2l, 1) := by decide +kernel
theorem dc_416_86 : decode (sm_cc 416) 86 = .ok (.lconst 0, 1) := by decide +kernel
theorem dc_416_87 : decode (sm_cc 416) 87 = .ok (.invokevirtual 771, 3) := by decide +kernel
theorem kr_416_771 : sm_at mt_k (sm_ow 416) 771 = some (771, 0, 377, 0, 2828) := by decide +kernel
theorem dc_416_57 : decode (sm_cc 416) 57 = .ok (.aload_n 0, 1) := by decide +kernel
theorem dc_416_58 : decode (sm_cc 416) 58 = .ok (.bipush (8), 2) := by decide +kernel
theorem dc_416_60 : decode (sm_cc 416) 60 = .ok (.invokevirtual 608, 3) := by decide +kernel
theorem kr_416_608 : sm_at mt_k (sm_ow 416) 608 = some (608, 0, 351, 0, 2664) := by decide +kernel
theorem dc_416_63 : decode (sm_cc 416) 63 = .ok (.ireturn, 1) := by decide +kernel
theorem dc_416_9 : decode (sm_cc 416) 9 = .ok (.aload_n 0, 1) := by decide +kernel
theorem dc_416_10 : decode (sm_cc 416) 10 = .ok (.iload_n 2, 1) := by decide +kernel
theorem dc_416_11 : decode (sm_cc 416) 11 = .ok (.iconst 4, 1) := by decide +kernel
theorem dc_416_12 : decode (sm_cc 416) 12 = .ok (.invokevirtual 683, 3) := by decide +kernel
theorem dc_416_15 : decode (sm_cc 416) 15 = .ok (.ifCond .ne (9), 3) := by decide +kernel
theorem dc_416_18 : decode (sm_cc 416) 18 = .ok (.aload_n 0, 1) := by decide +kernel
theorem dc_416_19 : decode (sm_cc 416) 19 = .ok (.iconst 2, 1) := by decide +kernel
theorem dc_416_20 : decode (sm_cc 416) 20 = .ok (.invokevirtual 608, 3) := by decide +kernel
theorem dc_416_23 : decode (sm_cc 416) 23 = .ok (.ireturn, 1) := by decide +kernel
theorem ml_417 : sm_ml 417 = 3 := by decide +kernel
theorem dc_417_0 : decode (sm_cc 417) 0 = .ok (.aload_n 0, 1) := by decide +kernel
theorem dc_417_1 : decode (sm_cc 417) 1 = .ok (.getfield 493, 3) := by decide +kernel
theorem fr_417_493 : sm_at mt_f (sm_ow 417) 493 = some (493, 14, 51, 0, 2124) := by decide +kernel
theorem dc_417_4 : decode (sm_cc 417) 4 = .ok (.iconst 2, 1) := by decide +kernel
theorem dc_417_5 : decode (sm_cc 417) 5 = .ok (.isub, 1) := by decide +kernel
theorem dc_417_6 : decode (sm_cc 417) 6 = .ok (.istore_n 1, 1) := by decide +kernel
theorem dc_417_7 : decode (sm_cc 417) 7 = .ok (.aload_n 0, 1) := by decide +kernel
theorem dc_417_8 : decode (sm_cc 417) 8 = .ok (.iload_n 1, 1) := by decide +kernel
theorem dc_417_9 : decode (sm_cc 417) 9 = .ok (.iconst 1, 1) := by decide +kernel
theorem dc_417_10 : decode (sm_cc 417) 10 = .ok (.invokevirtual 683, 3) := by decide +kernel
theorem kr_417_683 : sm_at mt_k (sm_ow 417) 683 = some (683, 0, 363, 0, 2722) := by decide +kernel
theorem dc_417_13 : decode (sm_cc 417) 13 = .ok (.ifCond .ne (18), 3) := by decide +kernel
theorem dc_417_31 : decode (sm_cc 417) 31 = .ok (.aload_n 0, 1) := by decide +kernel
theorem dc_417_32 : decode (sm_cc 417) 32 = .ok (.aload_n 0, 1) := by decide +kernel
theorem dc_417_33 : decode (sm_cc 417) 33 = .ok (.iload_n 1, 1) := by decide +kernel
theorem dc_417_34 : decode (sm_cc 417) 34 = .ok (.invokevirtual 554, 3) := by decide +kernel
theorem kr_417_554 : sm_at mt_k (sm_ow 417) 554 = some (554, 0, 361, 0, 2714) := by decide +kernel
theorem dc_417_37 : decode (sm_cc 417) 37 = .ok (.aload_n 0, 1) := by decide +kernel
theorem dc_417_38 : decode (sm_cc 417) 38 = .ok (.getfield 493, 3) := by decide +kernel
theorem dc_417_41 : decode (sm_cc 417) 41 = .ok (.iconst 1, 1) := by decide +kernel
theorem dc_417_42 : decode (sm_cc 417) 42 = .ok (.isub, 1) := by decide +kernel
theorem dc_417_43 : decode (sm_cc 417) 43 = .ok (.invokevirtual 768, 3) := by decide +kernel
theorem kr_417_768 : sm_at mt_k (sm_ow 417) 768 = some (768, 0, 410, 0, 2973) := by decide +kernel
theorem dc_417_46 : decode (sm_cc 417) 46 = .ok (.istore_n 2, 1) := by decide +kernel
theorem dc_417_47 : decode (sm_cc 417) 47 = .ok (.iload_n 2, 1) := by decide +kernel
theorem dc_417_48 : decode (sm_cc 417) 48 = .ok (.ifCond .ge (5), 3) := by decide +kernel
theorem dc_417_53 : decode (sm_cc 417) 53 = .ok (.aload_n 0, 1) := by decide +kernel
theorem dc_417_54 : decode (sm_cc 417) 54 = .ok (.iload_n 1, 1) := by decide +kernel
theorem dc_417_55 : decode (sm_cc 417) 55 = .ok (.invokevirtual 554, 3) := by decide +kernel
theorem dc_417_58 : decode (sm_cc 417) 58 = .ok (.iload_n 2, 1) := by decide +kernel
theorem dc_417_59 : decode (sm_cc 417) 59 = .ok (.invokevirtual 774, 3) := by decide +kernel
theorem ow_418 : 13 = sm_ow 418 := by decide +kernel
theorem kr_417_774 : sm_at mt_k (sm_ow 417) 774 = some (774, 0, 418, 0, 3005) := by decide +kernel
theorem np_418 : sm_np 418 = 1 := by decide +kernel
theorem dc_417_62 : decode (sm_cc 417) 62 = .ok (.aload_n 0, 1) := by decide +kernel
theorem dc_417_63 : decode (sm_cc 417) 63 = .ok (.dup, 1) := by decide +kernel
theorem dc_417_64 : decode (sm_cc 417) 64 = .ok (.getfield 493, 3) := by decide +kernel
theorem dc_417_67 : decode (sm_cc 417) 67 = .ok (.iconst 2, 1) := by decide +kernel
theorem dc_417_68 : decode (sm_cc 417) 68 = .ok (.isub, 1) := by decide +kernel
theorem dc_417_69 : decode (sm_cc 417) 69 = .ok (.putfield 493, 3) := by decide +kernel
theorem dc_417_72 : decode (sm_cc 417) 72 = .ok (.iconst 1, 1) := by decide +kernel
theorem dc_417_73 : decode (sm_cc 417) 73 = .ok (.ireturn, 1) := by decide +kernel
theorem rt_417 : sm_rt 417 = some .boolean := by decide +kernel
theorem dc_417_51 : decode (sm_cc 417) 51 = .ok (.iconst 0, 1) := by decide +kernel
theorem dc_417_52 : decode (sm_cc 417) 52 = .ok (.ireturn, 1) := by decide +kernel
theorem dc_417_16 : decode (sm_cc 417) 16 = .ok (.aload_n 0, 1) := by decide +kernel
theorem dc_417_17 : decode (sm_cc 417) 17 = .ok (.iload_n 1, 1) := by decide +kernel
theorem dc_417_18 : decode (sm_cc 417) 18 = .ok (.iconst 2, 1) := by decide +kernel
theorem dc_417_19 : decode (sm_cc 417) 19 = .ok (.invokevirtual 683, 3) := by decide +kernel
theorem dc_417_22 : decode (sm_cc 417) 22 = .ok (.ifCond .ne (9), 3) := by decide +kernel
theorem dc_417_25 : decode (sm_cc 417) 25 = .ok (.aload_n 0, 1) := by decide +kernel
theorem dc_417_26 : decode (sm_cc 417) 26 = .ok (.iconst 2, 1) := by decide +kernel
theorem dc_417_27 : decode (sm_cc 417) 27 = .ok (.invokevirtual 608, 3) := by decide +kernel
theorem kr_417_608 : sm_at mt_k (sm_ow 417) 608 = some (608, 0, 351, 0, 2664) := by decide +kernel
theorem dc_417_30 : decode (sm_cc 417) 30 = .ok (.ireturn, 1) := by decide +kernel
theorem ml_419 : sm_ml 419 = 4 := by decide +kernel
theorem dc_419_0 : decode (sm_cc 419) 0 = .ok (.aload_n 0, 1) := by decide +kernel
theorem dc_419_1 : decode (sm_cc 419) 1 = .ok (.getfield 493, 3) := by decide +kernel
theorem fr_419_493 : sm_at mt_f (sm_ow 419) 493 = some (493, 14, 51, 0, 2124) := by decide +kernel
theorem dc_419_4 : decode (sm_cc 419) 4 = .ok (.iconst 1, 1) := by decide +kernel
theorem dc_419_5 : decode (sm_cc 419) 5 = .ok (.isub, 1) := by decide +kernel
theorem dc_419_6 : decode (sm_cc 419) 6 = .ok (.istore_n 2, 1) := by decide +kernel
theorem dc_419_7 : decode (sm_cc 419) 7 = .ok (.aload_n 0, 1) := by decide +kernel
theorem dc_419_8 : decode (sm_cc 419) 8 = .ok (.iload_n 2, 1) := by decide +kernel
theorem dc_419_9 : decode (sm_cc 419) 9 = .ok (.iconst 5, 1) := by decide +kernel
theorem dc_419_10 : decode (sm_cc 419) 10 = .ok (.invokevirtual 683, 3) := by decide +kernel
theorem kr_419_683 : sm_at mt_k (sm_ow 419) 683 = some (683, 0, 363, 0, 2722) := by decide +kernel
theorem dc_419_13 : decode (sm_cc 419) 13 = .ok (.ifCond .ne (18), 3) := by decide +kernel
theorem dc_419_31 : decode (sm_cc 419) 31 = .ok (.aload_n 0, 1) := by decide +kernel
theorem dc_419_32 : decode (sm_cc 419) 32 = .ok (.iload_n 2, 1) := by decide +kernel
theorem dc_419_33 : decode (sm_cc 419) 33 = .ok (.invokevirtual 554, 3) := by decide +kernel
theorem kr_419_554 : sm_at mt_k (sm_ow 419) 554 = some (554, 0, 361, 0, 2714) := by decide +kernel
theorem dc_419_36 : decode (sm_cc 419) 36 = .ok (.iconst 0, 1) := by decide +kernel
theorem dc_419_37 : decode (sm_cc 419) 37 = .ok (.iload_n 1, 1) := by decide +kernel
theorem dc_419_38 : decode (sm_cc 419) 38 = .ok (.i2l, 1) := by decide +kernel
theorem dc_419_39 : decode (sm_cc 419) 39 = .ok (.lconst 0, 1) := by decide +kernel
theorem dc_419_40 : decode (sm_cc 419) 40 = .ok (.invokevirtual 764, 3) := by decide +kernel
theorem kr_419_764 : sm_at mt_k (sm_ow 419) 764 = some (764, 0, 399, 0, 2924) := by decide +kernel
theorem dc_419_43 : decode (sm_cc 419) 43 = .ok (.istore_n 3, 1) := by decide +kernel
theorem dc_419_44 : decode (sm_cc 419) 44 = .ok (.iload_n 3, 1) := by decide +kernel
theorem dc_419_45 : decode (sm_cc 419) 45 = .ok (.ifCond .ge (10), 3) := by decide +kernel
theorem dc_419_55 : decode (sm_cc 419) 55 = .ok (.aload_n 0, 1) := by decide +kernel
theorem dc_419_56 : decode (sm_cc 419) 56 = .ok (.iload_n 2, 1) := by decide +kernel
theorem dc_419_57 : decode (sm_cc 419) 57 = .ok (.invokevirtual 554, 3) := by decide +kernel
theorem dc_419_60 : decode (sm_cc 419) 60 = .ok (.iload_n 3, 1) := by decide +kernel
theorem dc_419_61 : decode (sm_cc 419) 61 = .ok (.invokevirtual 774, 3) := by decide +kernel
theorem kr_419_774 : sm_at mt_k (sm_ow 419) 774 = some (774, 0, 418, 0, 3005) := by decide +kernel
theorem dc_419_64 : decode (sm_cc 419) 64 = .ok (.aload_n 0, 1) := by decide +kernel
theorem dc_419_65 : decode (sm_cc 419) 65 = .ok (.dup, 1) := by decide +kernel
theorem dc_419_66 : decode (sm_cc 419) 66 = .ok (.getfield 493, 3) := by decide +kernel
theorem dc_419_69 : decode (sm_cc 419) 69 = .ok (.iconst 1, 1) := by decide +kernel
theorem dc_419_70 : decode (sm_cc 419) 70 = .ok (.isub, 1) := by decide +kernel
theorem dc_419_71 : decode (sm_cc 419) 71 = .ok (.putfield 493, 3) := by decide +kernel
theorem dc_419_74 : decode (sm_cc 419) 74 = .ok (.iconst 1, 1) := by decide +kernel
theorem dc_419_75 : decode (sm_cc 419) 75 = .ok (.ireturn, 1) := by decide +kernel
theorem rt_419 : sm_rt 419 = some .boolean := by decide +kernel
theorem dc_419_48 : decode (sm_cc 419) 48 = .ok (.aload_n 0, 1) := by decide +kernel
theorem dc_419_49 : decode (sm_cc 419) 49 = .ok (.bipush (9), 2) := by decide +kernel
theorem dc_419_51 : decode (sm_cc 419) 51 = .ok (.invokevirtual 608, 3) := by decide +kernel
theorem kr_419_608 : sm_at mt_k (sm_ow 419) 608 = some (608, 0, 351, 0, 2664) := by decide +kernel
theorem dc_419_54 : decode (sm_cc 419) 54 = .ok (.ireturn, 1) := by decide +kernel
theorem dc_419_16 : decode (sm_cc 419) 16 = .ok (.aload_n 0, 1) := by decide +kernel
theorem dc_419_17 : decode (sm_cc 419) 17 = .ok (.iload_n 2, 1) := by decide +kernel
theorem dc_419_18 : decode (sm_cc 419) 18 = .ok (.iconst 4, 1) := by decide +kernel
theorem dc_419_19 : decode (sm_cc 419) 19 = .ok (.invokevirtual 683, 3) := by decide +kernel
theorem dc_419_22 : decode (sm_cc 419) 22 = .ok (.ifCond .ne (9), 3) := by decide +kernel
theorem dc_419_25 : decode (sm_cc 419) 25 = .ok (.aload_n 0, 1) := by decide +kernel
theorem dc_419_26 : decode (sm_cc 419) 26 = .ok (.iconst 2, 1) := by decide +kernel
theorem dc_419_27 : decode (sm_cc 419) 27 = .ok (.invokevirtual 608, 3) := by decide +kernel
theorem dc_419_30 : decode (sm_cc 419) 30 = .ok (.ireturn, 1) := by decide +kernel
theorem ml_420 : sm_ml 420 = 3 := by decide +kernel
theorem dc_420_0 : decode (sm_cc 420) 0 = .ok (.aload_n 0, 1) := by decide +kernel
theorem dc_420_1 : decode (sm_cc 420) 1 = .ok (.dup, 1) := by decide +kernel
theorem dc_420_2 : decode (sm_cc 420) 2 = .ok (.getfield 502, 3) := by decide +kernel
theorem fr_420_502 : sm_at mt_f (sm_ow 420) 502 = some (502, 14, 59, 0, 2132) := by decide +kernel
theorem dc_420_5 : decode (sm_cc 420) 5 = .ok (.iconst 1, 1) := by decide +kernel
theorem dc_420_6 : decode (sm_cc 420) 6 = .ok (.isub, 1) := by decide +kernel
theorem dc_420_7 : decode (sm_cc 420) 7 = .ok (.putfield 502, 3) := by decide +kernel
theorem dc_420_10 : decode (sm_cc 420) 10 = .ok (.aload_n 0, 1) := by decide +kernel
theorem dc_420_11 : decode (sm_cc 420) 11 = .ok (.getfield 596, 3) := by decide +kernel
theorem fr_420_596 : sm_at mt_f (sm_ow 420) 596 = some (596, 14, 55, 0, 2128) := by decide +kernel
theorem dc_420_14 : decode (sm_cc 420) 14 = .ok (.aload_n 0, 1) := by decide +kernel
theorem dc_420_15 : decode (sm_cc 420) 15 = .ok (.getfield 502, 3) := by decide +kernel
theorem dc_420_18 : decode (sm_cc 420) 18 = .ok (.iaload, 1) := by decide +kernel
theorem dc_420_19 : decode (sm_cc 420) 19 = .ok (.istore_n 1, 1) := by decide +kernel
theorem dc_420_20 : decode (sm_cc 420) 20 = .ok (.aload_n 0, 1) := by decide +kernel
theorem dc_420_21 : decode (sm_cc 420) 21 = .ok (.getfield 602, 3) := by decide +kernel
theorem fr_420_602 : sm_at mt_f (sm_ow 420) 602 = some (602, 14, 58, 0, 2131) := by decide +kernel
theorem dc_420_24 : decode (sm_cc 420) 24 = .ok (.aload_n 0, 1) := by decide +kernel
theorem dc_420_25 : decode (sm_cc 420) 25 = .ok (.getfield 502, 3) := by decide +kernel
theorem dc_420_28 : decode (sm_cc 420) 28 = .ok (.baload, 1) := by decide +kernel
theorem dc_420_29 : decode (sm_cc 420) 29 = .ok (.ifCond .eq (9), 3) := by decide +kernel
theorem dc_420_38 : decode (sm_cc 420) 38 = .ok (.aload_n 0, 1) := by decide +kernel
theorem dc_420_39 : decode (sm_cc 420) 39 = .ok (.getfield 493, 3) := by decide +kernel
theorem fr_420_493 : sm_at mt_f (sm_ow 420) 493 = some (493, 14, 51, 0, 2124) := by decide +kernel
theorem dc_420_42 : decode (sm_cc 420) 42 = .ok (.iconst 1, 1) := by decide +kernel
theorem dc_420_43 : decode (sm_cc 420) 43 = .ok (.isub, 1) := by decide +kernel
theorem dc_420_44 : decode (sm_cc 420) 44 = .ok (.istore_n 2, 1) := by decide +kernel
theorem dc_420_45 : decode (sm_cc 420) 45 = .ok (.aload_n 0, 1) := by decide +kernel
theorem dc_420_46 : decode (sm_cc 420) 46 = .ok (.aload_n 0, 1) := by decide +kernel
theorem dc_420_47 : decode (sm_cc 420) 47 = .ok (.getfield 599, 3) := by decide +kernel
theorem fr_420_599 : sm_at mt_f (sm_ow 420) 599 = some (599, 14, 57, 0, 2130) := by decide +kernel
theorem dc_420_50 : decode (sm_cc 420) 50 = .ok (.aload_n 0, 1) := by decide +kernel
theorem dc_420_51 : decode (sm_cc 420) 51 = .ok (.getfield 502, 3) := by decide +kernel
theorem dc_420_54 : decode (sm_cc 420) 54 = .ok (.iaload, 1) := by decide +kernel
theorem dc_420_55 : decode (sm_cc 420) 55 = .ok (.putfield 558, 3) := by decide +kernel
theorem fr_420_558 : sm_at mt_f (sm_ow 420) 558 = some (558, 14, 63, 0, 2136) := by decide +kernel
theorem dc_420_58 : decode (sm_cc 420) 58 = .ok (.aload_n 0, 1) := by decide +kernel
theorem dc_420_59 : decode (sm_cc 420) 59 = .ok (.iload_n 2, 1) := by decide +kernel
theorem dc_420_60 : decode (sm_cc 420) 60 = .ok (.iload_n 1, 1) := by decide +kernel
theorem dc_420_61 : decode (sm_cc 420) 61 = .ok (.invokevirtual 672, 3) := by decide +kernel
theorem kr_420_672 : sm_at mt_k (sm_ow 420) 672 = some (672, 0, 391, 0, 2893) := by decide +kernel
theorem dc_420_64 : decode (sm_cc 420) 64 = .ok (.aload_n 0, 1) := by decide +kernel
theorem dc_420_65 : decode (sm_cc 420) 65 = .ok (.iload_n 1, 1) := by decide +kernel
theorem dc_420_66 : decode (sm_cc 420) 66 = .ok (.iconst 1, 1) := by decide +kernel
theorem dc_420_67 : decode (sm_cc 420) 67 = .ok (.iadd, 1) := by decide +kernel
theorem dc_420_68 : decode (sm_cc 420) 68 = .ok (.putfield 493, 3) := by decide +kernel
theorem dc_420_71 : decode (sm_cc 420) 71 = .ok (.iconst 1, 1) := by decide +kernel
theorem dc_420_72 : decode (sm_cc 420) 72 = .ok (.ireturn, 1) := by decide +kernel
theorem rt_420 : sm_rt 420 = some .boolean := by decide +kernel
theorem dc_420_32 : decode (sm_cc 420) 32 = .ok (.iload_n 1, 1) := by decide +kernel
theorem dc_420_33 : decode (sm_cc 420) 33 = .ok (.iconst 1, 1) := by decide +kernel
theorem dc_420_34 : decode (sm_cc 420) 34 = .ok (.iadd, 1) := by decide +kernel
theorem dc_420_35 : decode (sm_cc 420) 35 = .ok (.goto (9), 3) := by decide +kernel
theorem Bod.aldG {d j pc : Nat} {lv : sm_L} {st : List Value} {S Sf : cS} {v : Option Value} {q : Nat} {x : Nat} (hd : decode (sm_cc j) pc = .ok (.aload q, 2)) (hg : sm_get lv q = some (.ref x)) (h : Bod d j (pc + 2) lv (.ref x :: st) S v Sf) : Bod d j pc lv st S v Sf := Bod.of (fun _ _ => sx_go hd (sd_loc (by rcases st with _ | ⟨a, _ | ⟨b, st⟩⟩ <;> rfl) (by
  unfold sm_loc
  rcases st with _ | ⟨a, st⟩ <;> simp only [hg]))) h
theorem rNg_1 {d : Nat} {S : cS} {op : Nat} {nm : Nat} {sl : Nat} {r : Nat} {N : Nat} {e : Nat} {r1 : Nat} {N1 : Nat} {r2 : Nat} {N2 : Nat} {S1 : cS} (mop : op < 2 ^ 20) (mnm : nm < 2 ^ 20) (msl : sl < 2 ^ 20) (b1 : op ≠ 6) (hv1 : sV S (6103) = .ref r) (hg1 : isK S r 0 N) (mN : N < 2 ^ 20) (b2 : nm < N) (he : sA S r nm = nI e) (me : e < 2 ^ 20) (b3 : op ≠ 7) (hv2 : sV S (6104) = .ref r1) (hg2 : isK S r1 1 N1) (mN1 : N1 < 2 ^ 20) (b4 : nm < N1) (hv3 : sV S (6105) = .ref r2) (hg3 : isK S r2 1 N2) (mN2 : N2 < 2 ^ 20) (b5 : nm < N2) (c1 : Ans (d + 8) 352 [.ref 61, .int (nI e), .long (sL S r1 nm), .long (sL S r2 nm)] S none S1) : Bod (d + 8) 354 0 [(0, .ref 61), (1, .int (nI op)), (2, .int (nI nm)), (3, .int (Int32.ofInt (-1))), (4, .int (nI sl))] [] S (some (.int 1)) (S1) := by
  refine Bod.go dc_354_0 rfl ?_
  refine Bod.ifF dc_354_1 rfl (by decide) ?_
  refine Bod.go dc_354_4 rfl ?_
  refine Bod.bip 6 (by decide) dc_354_5 ?_
  refine Bod.icT dc_354_7 rfl (k2_ne_T (k_ne op 6 rfl rfl (by omega) (by omega) (by omega))) ?_
  refine Bod.go dc_354_67 rfl ?_
  refine Bod.get dc_354_68 fr_354_24 (mk_61 _) rfl ?_
  refine Bod.eqV (.ref r) (by first | exact hv1 | (simp only [rIV, rJV, rAV, rLV, rQV, rV, reduceIte, Nat.reduceEqDiff]; exact hv1)) ?_
  refine Bod.go dc_354_71 rfl ?_
  refine Bod.ialdN (N := N) nm rfl (by omega) (by omega) dc_354_72 (mk_isI (by first | exact hg1 | exact isK_S (by simp only [rIS, rJS, rAS, rLS, rVS, rQS, rS_hold]) hg1)) ?_
  refine Bod.eqI (nI e) (by first | assumption | rfl | exact congrArg nI (by omega) | (simp (disch := omega) only [rI, rIe, rA, rIA, rLA, rJA, rVI, rQI, rVA, rQA, upd_at,  rAI, rLI, rJI, nI_add, pk_sub, kc_0, kc_1, kc_2, kc_3, kc_4, kc_5, reduceIte, Nat.reduceEqDiff, Nat.add_zero, rI_hold, rI_hold, rL_hold, he]; done)) ?_
  refine Bod.go dc_354_73 rfl ?_
  refine Bod.icT dc_354_74 rfl (mr_ne (by omega)) ?_
  refine Bod.go dc_354_84 rfl ?_
  refine Bod.bip 7 (by decide) dc_354_85 ?_
  refine Bod.icT dc_354_87 rfl (k2_ne_T (k_ne op 7 rfl rfl (by omega) (by omega) (by omega))) ?_
  refine Bod.go dc_354_100 rfl ?_
  refine Bod.go dc_354_101 rfl ?_
  refine Bod.get dc_354_102 fr_354_24 (mk_61 _) rfl ?_
  refine Bod.eqV (.ref r) (by first | exact hv1 | (simp only [rIV, rJV, rAV, rLV, rQV, rV, reduceIte, Nat.reduceEqDiff]; exact hv1)) ?_
  refine Bod.go dc_354_105 rfl ?_
  refine Bod.ialdN (N := N) nm rfl (by omega) (by omega) dc_354_106 (mk_isI (by first | exact hg1 | exact isK_S (by simp only [rIS, rJS, rAS, rLS, rVS, rQS, rS_hold]) hg1)) ?_
  refine Bod.eqI (nI e) (by first | assumption | rfl | exact congrArg nI (by omega) | (simp (disch := omega) only [rI, rIe, rA, rIA, rLA, rJA, rVI, rQI, rVA, rQA, upd_at,  rAI, rLI, rJI, nI_add, pk_sub, kc_0, kc_1, kc_2, kc_3, kc_4, kc_5, reduceIte, Nat.reduceEqDiff, Nat.add_zero, rI_hold, rI_hold, rL_hold, he]; done)) ?_
  refine Bod.go dc_354_107 rfl ?_
  refine Bod.get dc_354_108 fr_354_27 (mk_61 _) rfl ?_
  refine Bod.eqV (.ref r1) (by first | exact hv2 | (simp only [rIV, rJV, rAV, rLV, rQV, rV, reduceIte, Nat.reduceEqDiff]; exact hv2)) ?_
  refine Bod.go dc_354_111 rfl ?_
  refine Bod.laldN (N := N1) nm rfl (by omega) (by omega) dc_354_112 (mk_isL (by first | exact hg2 | exact isK_S (by simp only [rIS, rJS, rAS, rLS, rVS, rQS, rS_hold]) hg2)) ?_
  refine Bod.go dc_354_113 rfl ?_
  refine Bod.get dc_354_114 fr_354_34 (mk_61 _) rfl ?_
  refine Bod.eqV (.ref r2) (by first | exact hv3 | (simp only [rIV, rJV, rAV, rLV, rQV, rV, reduceIte, Nat.reduceEqDiff]; exact hv3)) ?_
  refine Bod.go dc_354_117 rfl ?_
  refine Bod.laldN (N := N2) nm rfl (by omega) (by omega) dc_354_118 (mk_isL (by first | exact hg3 | exact isK_S (by simp only [rIS, rJS, rAS, rLS, rVS, rQS, rS_hold]) hg3)) ?_
  refine Bod.virt (r := []) dc_354_119 kr_354_549 ⟨Or.inl rfl, ow_352, cl_14⟩ (by rw [np_352]; rfl) (by rw [np_352]; rfl) (ob_of (mk_61 _)) (Nat.le_of_ble_eq_true rfl) (c1  ) ?_
  show Bod _ _ _ _ [] _ _ _
  refine Bod.ic 1 (by decide) dc_354_122 ?_
  exact Bod.retZ dc_354_123 rt_354 (Or.inr rfl)
theorem rNg_2 {d : Nat} {S : cS} {op : Nat} {nm : Nat} {sl : Nat} {r : Nat} {N : Nat} {e : Nat} (mop : op < 2 ^ 20) (mnm : nm < 2 ^ 20) (msl : sl < 2 ^ 20) (b1 : op ≠ 6) (hv1 : sV S (6103) = .ref r) (hg1 : isK S r 0 N) (mN : N < 2 ^ 20) (b2 : nm < N) (he : sA S r nm = nI e) (me : e < 2 ^ 20) (b3 : op = 7) : Bod (d + 8) 354 0 [(0, .ref 61), (1, .int (nI op)), (2, .int (nI nm)), (3, .int (Int32.ofInt (-1))), (4, .int (nI sl))] [] S (some (.int 1)) (wA r nm (Int32.ofInt (-1)) S) := by
  refine Bod.go dc_354_0 rfl ?_
  refine Bod.ifF dc_354_1 rfl (by decide) ?_
  refine Bod.go dc_354_4 rfl ?_
  refine Bod.bip 6 (by decide) dc_354_5 ?_
  refine Bod.icT dc_354_7 rfl (k2_ne_T (k_ne op 6 rfl rfl (by omega) (by omega) (by omega))) ?_
  refine Bod.go dc_354_67 rfl ?_
  refine Bod.get dc_354_68 fr_354_24 (mk_61 _) rfl ?_
  refine Bod.eqV (.ref r) (by first | exact hv1 | (simp only [rIV, rJV, rAV, rLV, rQV, rV, reduceIte, Nat.reduceEqDiff]; exact hv1)) ?_
  refine Bod.go dc_354_71 rfl ?_
  refine Bod.ialdN (N := N) nm rfl (by omega) (by omega) dc_354_72 (mk_isI (by first | exact hg1 | exact isK_S (by simp only [rIS, rJS, rAS, rLS, rVS, rQS, rS_hold]) hg1)) ?_
  refine Bod.eqI (nI e) (by first | assumption | rfl | exact congrArg nI (by omega) | (simp (disch := omega) only [rI, rIe, rA, rIA, rLA, rJA, rVI, rQI, rVA, rQA, upd_at,  rAI, rLI, rJI, nI_add, pk_sub, kc_0, kc_1, kc_2, kc_3, kc_4, kc_5, reduceIte, Nat.reduceEqDiff, Nat.add_zero, rI_hold, rI_hold, rL_hold, he]; done)) ?_
  refine Bod.go dc_354_73 rfl ?_
  refine Bod.icT dc_354_74 rfl (mr_ne (by omega)) ?_
  refine Bod.go dc_354_84 rfl ?_
  refine Bod.bip 7 (by decide) dc_354_85 ?_
  refine Bod.icF dc_354_87 rfl (k2_ne_F (k_eq op 7 rfl rfl (by omega))) ?_
  refine Bod.go dc_354_90 rfl ?_
  refine Bod.get dc_354_91 fr_354_24 (mk_61 _) rfl ?_
  refine Bod.eqV (.ref r) (by first | exact hv1 | (simp only [rIV, rJV, rAV, rLV, rQV, rV, reduceIte, Nat.reduceEqDiff]; exact hv1)) ?_
  refine Bod.go dc_354_94 rfl ?_
  refine Bod.go dc_354_95 rfl ?_
  refine Bod.iastN (N := N) nm rfl (by omega) (by omega) dc_354_96 (mk_isI (by first | exact hg1 | exact isK_S (by simp only [rIS, rJS, rAS, rLS, rVS, rQS, rS_hold]) hg1)) (sa_isI (by first | exact hg1 | exact isK_S (by simp only [rIS, rJS, rAS, rLS, rVS, rQS, rS_hold]) hg1)) (mu_A _ _ _ _) ?_
  refine Bod.go dc_354_97 rfl ?_
  refine Bod.ic 1 (by decide) dc_354_122 ?_
  exact Bod.retZ dc_354_123 rt_354 (Or.inr rfl)
theorem rNg_3 {d : Nat} {S : cS} {op : Nat} {nm : Nat} {sl : Nat} {r : Nat} {N : Nat} {S1 : cS} (mop : op < 2 ^ 20) (mnm : nm < 2 ^ 20) (msl : sl < 2 ^ 20) (b1 : op ≠ 6) (hv1 : sV S (6103) = .ref r) (hg1 : isK S r 0 N) (mN : N < 2 ^ 20) (b2 : nm < N) (n3 : sA S r nm = Int32.ofInt (-1)) (c1 : Ans (d + 8) 355 [.ref 61, .int (nI op), .int (nI nm)] S (some (.int (nI 1))) S1) : Bod (d + 8) 354 0 [(0, .ref 61), (1, .int (nI op)), (2, .int (nI nm)), (3, .int (Int32.ofInt (-1))), (4, .int (nI sl))] [] S (some (.int 1)) (S1) := by
  refine Bod.go dc_354_0 rfl ?_
  refine Bod.ifF dc_354_1 rfl (by decide) ?_
  refine Bod.go dc_354_4 rfl ?_
  refine Bod.bip 6 (by decide) dc_354_5 ?_
  refine Bod.icT dc_354_7 rfl (k2_ne_T (k_ne op 6 rfl rfl (by omega) (by omega) (by omega))) ?_
  refine Bod.go dc_354_67 rfl ?_
  refine Bod.get dc_354_68 fr_354_24 (mk_61 _) rfl ?_
  refine Bod.eqV (.ref r) (by first | exact hv1 | (simp only [rIV, rJV, rAV, rLV, rQV, rV, reduceIte, Nat.reduceEqDiff]; exact hv1)) ?_
  refine Bod.go dc_354_71 rfl ?_
  refine Bod.ialdN (N := N) nm rfl (by omega) (by omega) dc_354_72 (mk_isI (by first | exact hg1 | exact isK_S (by simp only [rIS, rJS, rAS, rLS, rVS, rQS, rS_hold]) hg1)) ?_
  refine Bod.eqI (Int32.ofInt (-1)) (by first | assumption | rfl | exact congrArg nI (by omega) | (simp (disch := omega) only [rI, rIe, rA, rIA, rLA, rJA, rVI, rQI, rVA, rQA, upd_at,  rAI, rLI, rJI, nI_add, pk_sub, kc_0, kc_1, kc_2, kc_3, kc_4, kc_5, reduceIte, Nat.reduceEqDiff, Nat.add_zero, rI_hold, rI_hold, rL_hold, n3]; done)) ?_
  refine Bod.go dc_354_73 rfl ?_
  refine Bod.icF dc_354_74 rfl (by decide) ?_
  refine Bod.go dc_354_77 rfl ?_
  refine Bod.go dc_354_78 rfl ?_
  refine Bod.go dc_354_79 rfl ?_
  refine Bod.virt (r := []) dc_354_80 kr_354_696 ⟨Or.inl rfl, ow_355, cl_14⟩ (by rw [np_355]; rfl) (by rw [np_355]; rfl) (ob_of (mk_61 _)) (Nat.le_of_ble_eq_true rfl) (c1  ) ?_
  show Bod _ _ _ _ [_] _ _ _
  exact Bod.retZ dc_354_83 rt_354 (Or.inr rfl)
theorem rNg_4 {d : Nat} {S : cS} {op : Nat} {nm : Nat} {sl : Nat} {r : Nat} {N : Nat} {S1 : cS} (mop : op < 2 ^ 20) (mnm : nm < 2 ^ 20) (msl : sl < 2 ^ 20) (b1 : op ≠ 6) (hv1 : sV S (6103) = .ref r) (hg1 : isK S r 0 N) (mN : N < 2 ^ 20) (b2 : nm < N) (n3 : sA S r nm = Int32.ofInt (-1)) (c1 : Ans (d + 8) 355 [.ref 61, .int (nI op), .int (nI nm)] S (some (.int (nI 0))) S1) : Bod (d + 8) 354 0 [(0, .ref 61), (1, .int (nI op)), (2, .int (nI nm)), (3, .int (Int32.ofInt (-1))), (4, .int (nI sl))] [] S (some (.int 0)) (S1) := by
  refine Bod.go dc_354_0 rfl ?_
  refine Bod.ifF dc_354_1 rfl (by decide) ?_
  refine Bod.go dc_354_4 rfl ?_
  refine Bod.bip 6 (by decide) dc_354_5 ?_
  refine Bod.icT dc_354_7 rfl (k2_ne_T (k_ne op 6 rfl rfl (by omega) (by omega) (by omega))) ?_
  refine Bod.go dc_354_67 rfl ?_
  refine Bod.get dc_354_68 fr_354_24 (mk_61 _) rfl ?_
  refine Bod.eqV (.ref r) (by first | exact hv1 | (simp only [rIV, rJV, rAV, rLV, rQV, rV, reduceIte, Nat.reduceEqDiff]; exact hv1)) ?_
  refine Bod.go dc_354_71 rfl ?_
  refine Bod.ialdN (N := N) nm rfl (by omega) (by omega) dc_354_72 (mk_isI (by first | exact hg1 | exact isK_S (by simp only [rIS, rJS, rAS, rLS, rVS, rQS, rS_hold]) hg1)) ?_
  refine Bod.eqI (Int32.ofInt (-1)) (by first | assumption | rfl | exact congrArg nI (by omega) | (simp (disch := omega) only [rI, rIe, rA, rIA, rLA, rJA, rVI, rQI, rVA, rQA, upd_at,  rAI, rLI, rJI, nI_add, pk_sub, kc_0, kc_1, kc_2, kc_3, kc_4, kc_5, reduceIte, Nat.reduceEqDiff, Nat.add_zero, rI_hold, rI_hold, rL_hold, n3]; done)) ?_
  refine Bod.go dc_354_73 rfl ?_
  refine Bod.icF dc_354_74 rfl (by decide) ?_
  refine Bod.go dc_354_77 rfl ?_
  refine Bod.go dc_354_78 rfl ?_
  refine Bod.go dc_354_79 rfl ?_
  refine Bod.virt (r := []) dc_354_80 kr_354_696 ⟨Or.inl rfl, ow_355, cl_14⟩ (by rw [np_355]; rfl) (by rw [np_355]; rfl) (ob_of (mk_61 _)) (Nat.le_of_ble_eq_true rfl) (c1  ) ?_
  show Bod _ _ _ _ [_] _ _ _
  exact Bod.retZ dc_354_83 rt_354 (Or.inl rfl)
theorem rNg_5 {d : Nat} {S : cS} {op : Nat} {nm : Nat} {sl : Nat} {t : Nat} {r : Nat} {N : Nat} {e91 : Nat} {r1 : Nat} {N1 : Nat} {r2 : Nat} {N2 : Nat} (mop : op < 2 ^ 20) (mnm : nm < 2 ^ 20) (msl : sl < 2 ^ 20) (b1 : op = 6) (ht : sI S 6151 = nI t) (mt : t < 20481) (b2 : 1 ≤ t) (hv1 : sV S (6103) = .ref r) (hg1 : isK S r 0 N) (mN : N < 2 ^ 20) (he91 : sA (wI 6151 (nI (t - 1)) S) 91 (t - 1) = nI e91) (me91 : e91 < 2 ^ 20) (b3 : nm < N) (hv2 : sV S (6104) = .ref r1) (hg2 : isK S r1 1 N1) (mN1 : N1 < 2 ^ 20) (b4 : nm < N1) (hv3 : sV S (6105) = .ref r2) (hg3 : isK S r2 1 N2) (mN2 : N2 < 2 ^ 20) (b5 : nm < N2) : Bod (d + 8) 354 0 [(0, .ref 61), (1, .int (nI op)), (2, .int (nI nm)), (3, .int (Int32.ofInt (-1))), (4, .int (nI sl))] [] S (some (.int 1)) (wL r2 nm (sL (wL r1 nm (sL (wA r nm (nI e91) (wI 6151 (nI (t - 1)) S)) 92 (t - 1)) (wA r nm (nI e91) (wI 6151 (nI (t - 1)) S))) 93 (t - 1)) (wL r1 nm (sL (wA r nm (nI e91) (wI 6151 (nI (t - 1)) S)) 92 (t - 1)) (wA r nm (nI e91) (wI 6151 (nI (t - 1)) S)))) := by
  refine Bod.go dc_354_0 rfl ?_
  refine Bod.ifF dc_354_1 rfl (by decide) ?_
  refine Bod.go dc_354_4 rfl ?_
  refine Bod.bip 6 (by decide) dc_354_5 ?_
  refine Bod.icF dc_354_7 rfl (k2_ne_F (k_eq op 6 rfl rfl (by omega))) ?_
  refine Bod.go dc_354_10 rfl ?_
  refine Bod.go dc_354_11 rfl ?_
  refine Bod.get dc_354_12 fr_354_493 (mk_61 _) rfl ?_
  refine Bod.eqI (nI t) (by first | assumption | rfl | exact congrArg nI (by omega) | (simp (disch := omega) only [rI, rIe, rA, rIA, rLA, rJA, rVI, rQI, rVA, rQA, upd_at,  rAI, rLI, rJI, nI_add, pk_sub, kc_0, kc_1, kc_2, kc_3, kc_4, kc_5, reduceIte, Nat.reduceEqDiff, Nat.add_zero, rI_hold, rI_hold, rL_hold, ht]; done)) ?_
  refine Bod.ic 1 (by decide) dc_354_15 ?_
  refine Bod.subN (t - 1) (by omega) (by omega) dc_354_16 ?_
  refine Bod.put dc_354_17 fr_354_493 (mk_61 _) (Nat.le_of_ble_eq_true rfl) pf_14_51 (st_6151 _ _) (mu_I _ _ _) ?_
  refine Bod.go dc_354_20 rfl ?_
  refine Bod.get dc_354_21 fr_354_24 (mk_61 _) rfl ?_
  refine Bod.eqV (.ref r) (by first | exact hv1 | (simp only [rIV, rJV, rAV, rLV, rQV, rV, reduceIte, Nat.reduceEqDiff]; exact hv1)) ?_
  refine Bod.go dc_354_24 rfl ?_
  refine Bod.go dc_354_25 rfl ?_
  refine Bod.get dc_354_26 fr_354_496 (mk_61 _) rfl ?_
  refine Bod.go dc_354_29 rfl ?_
  refine Bod.get dc_354_30 fr_354_493 (mk_61 _) rfl ?_
  refine Bod.eqI (nI (t - 1)) (by first | assumption | (simp (disch := omega) only [rI, rIe, rA, rIA, rLA, rJA, rVI, rQI, rVA, rQA, upd_at,  rAI, rLI, rJI, nI_add, pk_sub, kc_0, kc_1, kc_2, kc_3, kc_4, kc_5, reduceIte, Nat.reduceEqDiff, Nat.add_zero, rI_hold, rI_hold, rL_hold, ht]; done) | (simp (disch := omega) only [rI, rIe, rA, rIA, rLA, rJA, rVI, rQI, rVA, rQA, upd_at,  rAI, rLI, rJI, nI_add, pk_sub, kc_0, kc_1, kc_2, kc_3, kc_4, kc_5, reduceIte, Nat.reduceEqDiff, Nat.add_zero, rI_hold, rI_hold, rL_hold, ht]; exact congrArg nI (by omega))) ?_
  refine Bod.ialdN (t - 1) rfl (by omega) (by omega) dc_354_33 (mk_91 _) ?_
  refine Bod.eqI (nI e91) (by first | assumption | (simp (disch := omega) only [rI, rIe, rA, rIA, rLA, rJA, rVI, rQI, rVA, rQA, upd_at,  rAI, rLI, rJI, nI_add, pk_sub, kc_0, kc_1, kc_2, kc_3, kc_4, kc_5, reduceIte, Nat.reduceEqDiff, Nat.add_zero, rI_hold, rI_hold, rL_hold, ht, he91]; done) | (simp (disch := omega) only [rI, rIe, rA, rIA, rLA, rJA, rVI, rQI, rVA, rQA, upd_at,  rAI, rLI, rJI, nI_add, pk_sub, kc_0, kc_1, kc_2, kc_3, kc_4, kc_5, reduceIte, Nat.reduceEqDiff, Nat.add_zero, rI_hold, rI_hold, rL_hold, ht, he91]; exact congrArg nI (by omega))) ?_
  refine Bod.iastN (N := N) nm rfl (by omega) (by omega) dc_354_34 (mk_isI (by first | exact hg1 | exact isK_S (by simp only [rIS, rJS, rAS, rLS, rVS, rQS, rS_hold]) hg1)) (sa_isI (by first | exact hg1 | exact isK_S (by simp only [rIS, rJS, rAS, rLS, rVS, rQS, rS_hold]) hg1)) (mu_A _ _ _ _) ?_
  refine Bod.go dc_354_35 rfl ?_
  refine Bod.get dc_354_36 fr_354_27 (mk_61 _) rfl ?_
  refine Bod.eqV (.ref r1) (by first | exact hv2 | (simp only [rIV, rJV, rAV, rLV, rQV, rV, reduceIte, Nat.reduceEqDiff]; exact hv2)) ?_
  refine Bod.go dc_354_39 rfl ?_
  refine Bod.go dc_354_40 rfl ?_
  refine Bod.get dc_354_41 fr_354_499 (mk_61 _) rfl ?_
  refine Bod.go dc_354_44 rfl ?_
  refine Bod.get dc_354_45 fr_354_493 (mk_61 _) rfl ?_
  refine Bod.eqI (nI (t - 1)) (by first | assumption | (simp (disch := omega) only [rI, rIe, rA, rIA, rLA, rJA, rVI, rQI, rVA, rQA, upd_at,  rAI, rLI, rJI, nI_add, pk_sub, kc_0, kc_1, kc_2, kc_3, kc_4, kc_5, reduceIte, Nat.reduceEqDiff, Nat.add_zero, rI_hold, rI_hold, rL_hold, ht, he91]; done) | (simp (disch := omega) only [rI, rIe, rA, rIA, rLA, rJA, rVI, rQI, rVA, rQA, upd_at,  rAI, rLI, rJI, nI_add, pk_sub, kc_0, kc_1, kc_2, kc_3, kc_4, kc_5, reduceIte, Nat.reduceEqDiff, Nat.add_zero, rI_hold, rI_hold, rL_hold, ht, he91]; exact congrArg nI (by omega))) ?_
  refine Bod.laldN (t - 1) rfl (by omega) (by omega) dc_354_48 (mk_92 _) ?_
  refine Bod.lastN (N := N1) nm rfl (by omega) (by omega) dc_354_49 (mk_isL (by first | exact hg2 | exact isK_S (by simp only [rIS, rJS, rAS, rLS, rVS, rQS, rS_hold]) hg2)) (sa_isL (by first | exact hg2 | exact isK_S (by simp only [rIS, rJS, rAS, rLS, rVS, rQS, rS_hold]) hg2)) (mu_L _ _ _ _) ?_
  refine Bod.go dc_354_50 rfl ?_
  refine Bod.get dc_354_51 fr_354_34 (mk_61 _) rfl ?_
  refine Bod.eqV (.ref r2) (by first | exact hv3 | (simp only [rIV, rJV, rAV, rLV, rQV, rV, reduceIte, Nat.reduceEqDiff]; exact hv3)) ?_
  refine Bod.go dc_354_54 rfl ?_
  refine Bod.go dc_354_55 rfl ?_
  refine Bod.get dc_354_56 fr_354_546 (mk_61 _) rfl ?_
  refine Bod.go dc_354_59 rfl ?_
  refine Bod.get dc_354_60 fr_354_493 (mk_61 _) rfl ?_
  refine Bod.eqI (nI (t - 1)) (by first | assumption | (simp (disch := omega) only [rI, rIe, rA, rIA, rLA, rJA, rVI, rQI, rVA, rQA, upd_at,  rAI, rLI, rJI, nI_add, pk_sub, kc_0, kc_1, kc_2, kc_3, kc_4, kc_5, reduceIte, Nat.reduceEqDiff, Nat.add_zero, rI_hold, rI_hold, rL_hold, ht, he91]; done) | (simp (disch := omega) only [rI, rIe, rA, rIA, rLA, rJA, rVI, rQI, rVA, rQA, upd_at,  rAI, rLI, rJI, nI_add, pk_sub, kc_0, kc_1, kc_2, kc_3, kc_4, kc_5, reduceIte, Nat.reduceEqDiff, Nat.add_zero, rI_hold, rI_hold, rL_hold, ht, he91]; exact congrArg nI (by omega))) ?_
  refine Bod.laldN (t - 1) rfl (by omega) (by omega) dc_354_63 (mk_93 _) ?_
  refine Bod.lastN (N := N2) nm rfl (by omega) (by omega) dc_354_64 (mk_isL (by first | exact hg3 | exact isK_S (by simp only [rIS, rJS, rAS, rLS, rVS, rQS, rS_hold]) hg3)) (sa_isL (by first | exact hg3 | exact isK_S (by simp only [rIS, rJS, rAS, rLS, rVS, rQS, rS_hold]) hg3)) (mu_L _ _ _ _) ?_
  refine Bod.ic 1 (by decide) dc_354_65 ?_
  exact Bod.retZ dc_354_66 rt_354 (Or.inr rfl)
theorem rNl_1 {d : Nat} {S Sf : cS} {v : Option Value} {op : Nat} {nm : Nat} {dp : Nat} {sl : Nat} {cl : Nat} {e96 : Nat} (mop : op < 2 ^ 20) (mnm : nm < 2 ^ 20) (mdp : dp < 2 ^ 20) (msl : sl < 2 ^ 20) (hcl : sI S 6159 = nI cl) (mcl : cl < 32) (b1 : 1 ≤ cl) (he96 : sA S 96 (cl - 1) = nI e96) (me96 : e96 < 2 ^ 20) (hB : ∀ lv1 : sm_L, sm_get lv1 0 = some (.ref 61) → sm_get lv1 1 = some (.int (nI op)) → sm_get lv1 2 = some (.int (nI nm)) → sm_get lv1 3 = some (.int (nI dp)) → sm_get lv1 4 = some (.int (nI sl)) → sm_get lv1 5 = some (.int (nI e96)) → sm_get lv1 6 = some (.int (nI 0)) → Bod (d + 8) 354 140 lv1 [] (S) v Sf) : Bod (d + 8) 354 0 [(0, .ref 61), (1, .int (nI op)), (2, .int (nI nm)), (3, .int (nI dp)), (4, .int (nI sl))] [] S v Sf := by
  refine Bod.go dc_354_0 rfl ?_
  refine Bod.ifT dc_354_1 rfl (k1_ge_T dp rfl (by omega)) ?_
  refine Bod.go dc_354_124 rfl ?_
  refine Bod.get dc_354_125 fr_354_505 (mk_61 _) rfl ?_
  refine Bod.go dc_354_128 rfl ?_
  refine Bod.get dc_354_129 fr_354_502 (mk_61 _) rfl ?_
  refine Bod.eqI (nI cl) (by first | assumption | rfl | exact congrArg nI (by omega) | (simp (disch := omega) only [rI, rIe, rA, rIA, rLA, rJA, rVI, rQI, rVA, rQA, upd_at,  rAI, rLI, rJI, nI_add, pk_sub, kc_0, kc_1, kc_2, kc_3, kc_4, kc_5, reduceIte, Nat.reduceEqDiff, Nat.add_zero, rI_hold, rI_hold, rL_hold, hcl]; done)) ?_
  refine Bod.ic 1 (by decide) dc_354_132 ?_
  refine Bod.subN (cl - 1) (by omega) (by omega) dc_354_133 ?_
  refine Bod.ialdN (cl - 1) rfl (by omega) (by omega) dc_354_134 (mk_96 _) ?_
  refine Bod.eqI (nI e96) (by first | assumption | rfl | exact congrArg nI (by omega) | (simp (disch := omega) only [rI, rIe, rA, rIA, rLA, rJA, rVI, rQI, rVA, rQA, upd_at,  rAI, rLI, rJI, nI_add, pk_sub, kc_0, kc_1, kc_2, kc_3, kc_4, kc_5, reduceIte, Nat.reduceEqDiff, Nat.add_zero, rI_hold, rI_hold, rL_hold, hcl, he96]; done)) ?_
  refine Bod.ist dc_354_135 (by rw [ml_354]; exact Nat.le_of_ble_eq_true rfl) ?_
  refine Bod.ic 0 (by decide) dc_354_137 ?_
  refine Bod.ist dc_354_138 (by rw [ml_354]; exact Nat.le_of_ble_eq_true rfl) ?_
  exact hB _ (by first | rfl | exact (by repeat (first | exact rfl | exact sm_get_p1 | exact sm_get_p2e | refine sm_get_p1m (by decide) (by decide) ?_ | refine sm_get_p1n (by decide) rfl ?_ | refine sm_get_p2n (by decide) (by decide) rfl ?_ | refine sm_get_p2m (by decide) (by decide) (by decide) ?_))) (by first | rfl | exact (by repeat (first | exact rfl | exact sm_get_p1 | exact sm_get_p2e | refine sm_get_p1m (by decide) (by decide) ?_ | refine sm_get_p1n (by decide) rfl ?_ | refine sm_get_p2n (by decide) (by decide) rfl ?_ | refine sm_get_p2m (by decide) (by decide) (by decide) ?_))) (by first | rfl | exact (by repeat (first | exact rfl | exact sm_get_p1 | exact sm_get_p2e | refine sm_get_p1m (by decide) (by decide) ?_ | refine sm_get_p1n (by decide) rfl ?_ | refine sm_get_p2n (by decide) (by decide) rfl ?_ | refine sm_get_p2m (by decide) (by decide) (by decide) ?_))) (by first | rfl | exact (by repeat (first | exact rfl | exact sm_get_p1 | exact sm_get_p2e | refine sm_get_p1m (by decide) (by decide) ?_ | refine sm_get_p1n (by decide) rfl ?_ | refine sm_get_p2n (by decide) (by decide) rfl ?_ | refine sm_get_p2m (by decide) (by decide) (by decide) ?_))) (by first | rfl | exact (by repeat (first | exact rfl | exact sm_get_p1 | exact sm_get_p2e | refine sm_get_p1m (by decide) (by decide) ?_ | refine sm_get_p1n (by decide) rfl ?_ | refine sm_get_p2n (by decide) (by decide) rfl ?_ | refine sm_get_p2m (by decide) (by decide) (by decide) ?_))) (by first | rfl | exact (by repeat (first | exact rfl | exact sm_get_p1 | exact sm_get_p2e | refine sm_get_p1m (by decide) (by decide) ?_ | refine sm_get_p1n (by decide) rfl ?_ | refine sm_get_p2n (by decide) (by decide) rfl ?_ | refine sm_get_p2m (by decide) (by decide) (by decide) ?_))) (by first | rfl | exact (by repeat (first | exact rfl | exact sm_get_p1 | exact sm_get_p2e | refine sm_get_p1m (by decide) (by decide) ?_ | refine sm_get_p1n (by decide) rfl ?_ | refine sm_get_p2n (by decide) (by decide) rfl ?_ | refine sm_get_p2m (by decide) (by decide) (by decide) ?_)))
theorem rNl_2 {d : Nat} {S Sf : cS} {v : Option Value} {op : Nat} {nm : Nat} {dp : Nat} {sl : Nat} {cl : Nat} (mop : op < 2 ^ 20) (mnm : nm < 2 ^ 20) (mdp : dp < 2 ^ 20) (msl : sl < 2 ^ 20) (hcl : sI S 6159 = nI cl) (mcl : cl < 32) (b1 : 1 ≤ cl) (n2 : sA S 96 (cl - 1) = Int32.ofInt (-1)) (hB : ∀ lv1 : sm_L, sm_get lv1 0 = some (.ref 61) → sm_get lv1 1 = some (.int (nI op)) → sm_get lv1 2 = some (.int (nI nm)) → sm_get lv1 3 = some (.int (nI dp)) → sm_get lv1 4 = some (.int (nI sl)) → sm_get lv1 5 = some (.int (Int32.ofInt (-1))) → sm_get lv1 6 = some (.int (nI 0)) → Bod (d + 8) 354 140 lv1 [] (S) v Sf) : Bod (d + 8) 354 0 [(0, .ref 61), (1, .int (nI op)), (2, .int (nI nm)), (3, .int (nI dp)), (4, .int (nI sl))] [] S v Sf := by
  refine Bod.go dc_354_0 rfl ?_
  refine Bod.ifT dc_354_1 rfl (k1_ge_T dp rfl (by omega)) ?_
  refine Bod.go dc_354_124 rfl ?_
  refine Bod.get dc_354_125 fr_354_505 (mk_61 _) rfl ?_
  refine Bod.go dc_354_128 rfl ?_
  refine Bod.get dc_354_129 fr_354_502 (mk_61 _) rfl ?_
  refine Bod.eqI (nI cl) (by first | assumption | rfl | exact congrArg nI (by omega) | (simp (disch := omega) only [rI, rIe, rA, rIA, rLA, rJA, rVI, rQI, rVA, rQA, upd_at,  rAI, rLI, rJI, nI_add, pk_sub, kc_0, kc_1, kc_2, kc_3, kc_4, kc_5, reduceIte, Nat.reduceEqDiff, Nat.add_zero, rI_hold, rI_hold, rL_hold, hcl]; done)) ?_
  refine Bod.ic 1 (by decide) dc_354_132 ?_
  refine Bod.subN (cl - 1) (by omega) (by omega) dc_354_133 ?_
  refine Bod.ialdN (cl - 1) rfl (by omega) (by omega) dc_354_134 (mk_96 _) ?_
  refine Bod.eqI (Int32.ofInt (-1)) (by first | assumption | rfl | exact congrArg nI (by omega) | (simp (disch := omega) only [rI, rIe, rA, rIA, rLA, rJA, rVI, rQI, rVA, rQA, upd_at,  rAI, rLI, rJI, nI_add, pk_sub, kc_0, kc_1, kc_2, kc_3, kc_4, kc_5, reduceIte, Nat.reduceEqDiff, Nat.add_zero, rI_hold, rI_hold, rL_hold, hcl, n2]; done)) ?_
  refine Bod.ist dc_354_135 (by rw [ml_354]; exact Nat.le_of_ble_eq_true rfl) ?_
  refine Bod.ic 0 (by decide) dc_354_137 ?_
  refine Bod.ist dc_354_138 (by rw [ml_354]; exact Nat.le_of_ble_eq_true rfl) ?_
  exact hB _ (by first | rfl | exact (by repeat (first | exact rfl | exact sm_get_p1 | exact sm_get_p2e | refine sm_get_p1m (by decide) (by decide) ?_ | refine sm_get_p1n (by decide) rfl ?_ | refine sm_get_p2n (by decide) (by decide) rfl ?_ | refine sm_get_p2m (by decide) (by decide) (by decide) ?_))) (by first | rfl | exact (by repeat (first | exact rfl | exact sm_get_p1 | exact sm_get_p2e | refine sm_get_p1m (by decide) (by decide) ?_ | refine sm_get_p1n (by decide) rfl ?_ | refine sm_get_p2n (by decide) (by decide) rfl ?_ | refine sm_get_p2m (by decide) (by decide) (by decide) ?_))) (by first | rfl | exact (by repeat (first | exact rfl | exact sm_get_p1 | exact sm_get_p2e | refine sm_get_p1m (by decide) (by decide) ?_ | refine sm_get_p1n (by decide) rfl ?_ | refine sm_get_p2n (by decide) (by decide) rfl ?_ | refine sm_get_p2m (by decide) (by decide) (by decide) ?_))) (by first | rfl | exact (by repeat (first | exact rfl | exact sm_get_p1 | exact sm_get_p2e | refine sm_get_p1m (by decide) (by decide) ?_ | refine sm_get_p1n (by decide) rfl ?_ | refine sm_get_p2n (by decide) (by decide) rfl ?_ | refine sm_get_p2m (by decide) (by decide) (by decide) ?_))) (by first | rfl | exact (by repeat (first | exact rfl | exact sm_get_p1 | exact sm_get_p2e | refine sm_get_p1m (by decide) (by decide) ?_ | refine sm_get_p1n (by decide) rfl ?_ | refine sm_get_p2n (by decide) (by decide) rfl ?_ | refine sm_get_p2m (by decide) (by decide) (by decide) ?_))) (by first | rfl | exact (by repeat (first | exact rfl | exact sm_get_p1 | exact sm_get_p2e | refine sm_get_p1m (by decide) (by decide) ?_ | refine sm_get_p1n (by decide) rfl ?_ | refine sm_get_p2n (by decide) (by decide) rfl ?_ | refine sm_get_p2m (by decide) (by decide) (by decide) ?_))) (by first | rfl | exact (by repeat (first | exact rfl | exact sm_get_p1 | exact sm_get_p2e | refine sm_get_p1m (by decide) (by decide) ?_ | refine sm_get_p1n (by decide) rfl ?_ | refine sm_get_p2n (by decide) (by decide) rfl ?_ | refine sm_get_p2m (by decide) (by decide) (by decide) ?_)))
theorem rNlL_1 {d : Nat} {S : cS} {lv : sm_L} {op : Nat} {nm : Nat} {dp : Nat} {sl : Nat} {f : Nat} {ni : Nat} {g : Nat} {zg : Nat} {r : Nat} {N : Nat} {e : Nat} {r1 : Nat} {N1 : Nat} {r2 : Nat} {N2 : Nat} {S1 : cS} (q0 : sm_get lv 0 = some (.ref 61)) (q1 : sm_get lv 1 = some (.int (nI op))) (q2 : sm_get lv 2 = some (.int (nI nm))) (q3 : sm_get lv 3 = some (.int (nI dp))) (q4 : sm_get lv 4 = some (.int (nI sl))) (q5 : sm_get lv 5 = some (.int (nI f))) (q6 : sm_get lv 6 = some (.int (nI ni))) (mop : op < 2 ^ 20) (mnm : nm < 2 ^ 20) (mdp : dp < 2 ^ 20) (msl : sl < 2 ^ 20) (mf : f < 2 ^ 20) (mni : ni < 2 ^ 20) (b1 : dp ≤ ni) (b2 : f < 1500) (ag : 108 ≤ g) (hq2 : sQ S 86 f = some g) (b3 : op ≠ 6) (hz1 : (sS S)[g - 108]? = some (13, zg)) (hv1 : sV S (100 * g + 2) = .ref r) (hg1 : isK S r 0 N) (mN : N < 2 ^ 20) (b4 : sl < N) (he : sA S r sl = nI e) (me : e < 2 ^ 20) (b5 : op ≠ 7) (hv2 : sV S (100 * g + 4) = .ref r1) (hg2 : isK S r1 1 N1) (mN1 : N1 < 2 ^ 20) (b6 : sl < N1) (hv3 : sV S (100 * g + 5) = .ref r2) (hg3 : isK S r2 1 N2) (mN2 : N2 < 2 ^ 20) (b7 : sl < N2) (c1 : Ans (d + 8) 352 [.ref 61, .int (nI e), .long (sL S r1 sl), .long (sL S r2 sl)] S none S1) : Bod (d + 8) 354 140 lv [] S (some (.int 1)) (S1) := by
  refine Bod.ildG dc_354_140 (by repeat (first | exact q6 | exact sm_get_p1 | exact sm_get_p2e | refine sm_get_p1m (by decide) (by decide) ?_ | refine sm_get_p1n (by decide) rfl ?_ | refine sm_get_p2n (by decide) (by decide) rfl ?_ | refine sm_get_p2m (by decide) (by decide) (by decide) ?_)) ?_
  refine Bod.ildnG dc_354_142 (by repeat (first | exact q3 | exact sm_get_p1 | exact sm_get_p2e | refine sm_get_p1m (by decide) (by decide) ?_ | refine sm_get_p1n (by decide) rfl ?_ | refine sm_get_p2n (by decide) (by decide) rfl ?_ | refine sm_get_p2m (by decide) (by decide) (by decide) ?_)) ?_
  refine Bod.icT dc_354_143 rfl (k2_ge_T ni dp rfl rfl (by omega) (by omega)) ?_
  refine Bod.aldnG dc_354_164 (by repeat (first | exact q0 | exact sm_get_p1 | exact sm_get_p2e | refine sm_get_p1m (by decide) (by decide) ?_ | refine sm_get_p1n (by decide) rfl ?_ | refine sm_get_p2n (by decide) (by decide) rfl ?_ | refine sm_get_p2m (by decide) (by decide) (by decide) ?_)) ?_
  refine Bod.get dc_354_165 fr_354_485 (mk_61 _) rfl ?_
  refine Bod.ildG dc_354_168 (by repeat (first | exact q5 | exact sm_get_p1 | exact sm_get_p2e | refine sm_get_p1m (by decide) (by decide) ?_ | refine sm_get_p1n (by decide) rfl ?_ | refine sm_get_p2n (by decide) (by decide) rfl ?_ | refine sm_get_p2m (by decide) (by decide) (by decide) ?_)) ?_
  refine Bod.aaldR (N := 1500) (b := g) f rfl (by omega) (by omega) (by first | exact hq2 | (simp only [rIQ, rJQ, rAQ, rLQ, rVQ, rQ_holdE]; exact hq2)) dc_354_170 (mk_86 _) ht_5 ?_
  refine Bod.ast dc_354_171 (by rw [ml_354]; exact Nat.le_of_ble_eq_true rfl) ?_
  refine Bod.ildnG dc_354_173 (by repeat (first | exact q1 | exact sm_get_p1 | exact sm_get_p2e | refine sm_get_p1m (by decide) (by decide) ?_ | refine sm_get_p1n (by decide) rfl ?_ | refine sm_get_p2n (by decide) (by decide) rfl ?_ | refine sm_get_p2m (by decide) (by decide) (by decide) ?_)) ?_
  refine Bod.bip 6 (by decide) dc_354_174 ?_
  refine Bod.icT dc_354_176 rfl (k2_ne_T (k_ne op 6 rfl rfl (by omega) (by omega) (by omega))) ?_
  refine Bod.aldG dc_354_225 (by repeat (first | exact q0 | exact sm_get_p1 | exact sm_get_p2e | refine sm_get_p1m (by decide) (by decide) ?_ | refine sm_get_p1n (by decide) rfl ?_ | refine sm_get_p2n (by decide) (by decide) rfl ?_ | refine sm_get_p2m (by decide) (by decide) (by decide) ?_)) ?_
  refine Bod.get dc_354_227 fr_354_462 (mk_thing ag (by first | exact hz1 | (simp only [rIS, rJS, rAS, rLS, rVS, rQS, rS_hold]; exact hz1))) rfl ?_
  refine Bod.eqV (.ref r) (by first | exact hv1 | (simp only [rIV, rJV, rAV, rLV, rQV, rV, reduceIte, Nat.reduceEqDiff]; exact hv1)) ?_
  refine Bod.ildG dc_354_230 (by repeat (first | exact q4 | exact sm_get_p1 | exact sm_get_p2e | refine sm_get_p1m (by decide) (by decide) ?_ | refine sm_get_p1n (by decide) rfl ?_ | refine sm_get_p2n (by decide) (by decide) rfl ?_ | refine sm_get_p2m (by decide) (by decide) (by decide) ?_)) ?_
  refine Bod.ialdN (N := N) sl rfl (by omega) (by omega) dc_354_232 (mk_isI (by first | exact hg1 | exact isK_S (by simp only [rIS, rJS, rAS, rLS, rVS, rQS, rS_hold]) hg1)) ?_
  refine Bod.eqI (nI e) (by first | assumption | rfl | exact congrArg nI (by omega) | (simp (disch := omega) only [rI, rIe, rA, rIA, rLA, rJA, rVI, rQI, rVA, rQA, upd_at,  rAI, rLI, rJI, nI_add, pk_sub, kc_0, kc_1, kc_2, kc_3, kc_4, kc_5, reduceIte, Nat.reduceEqDiff, Nat.add_zero, rI_hold, rI_hold, rL_hold, he]; done)) ?_
  refine Bod.go dc_354_233 rfl ?_
  refine Bod.icT dc_354_234 rfl (mr_ne (by omega)) ?_
  refine Bod.ildnG dc_354_244 (by repeat (first | exact q1 | exact sm_get_p1 | exact sm_get_p2e | refine sm_get_p1m (by decide) (by decide) ?_ | refine sm_get_p1n (by decide) rfl ?_ | refine sm_get_p2n (by decide) (by decide) rfl ?_ | refine sm_get_p2m (by decide) (by decide) (by decide) ?_)) ?_
  refine Bod.bip 7 (by decide) dc_354_245 ?_
  refine Bod.icT dc_354_247 rfl (k2_ne_T (k_ne op 7 rfl rfl (by omega) (by omega) (by omega))) ?_
  refine Bod.aldnG dc_354_262 (by repeat (first | exact q0 | exact sm_get_p1 | exact sm_get_p2e | refine sm_get_p1m (by decide) (by decide) ?_ | refine sm_get_p1n (by decide) rfl ?_ | refine sm_get_p2n (by decide) (by decide) rfl ?_ | refine sm_get_p2m (by decide) (by decide) (by decide) ?_)) ?_
  refine Bod.aldG dc_354_263 (by repeat (first | exact q0 | exact sm_get_p1 | exact sm_get_p2e | refine sm_get_p1m (by decide) (by decide) ?_ | refine sm_get_p1n (by decide) rfl ?_ | refine sm_get_p2n (by decide) (by decide) rfl ?_ | refine sm_get_p2m (by decide) (by decide) (by decide) ?_)) ?_
  refine Bod.get dc_354_265 fr_354_462 (mk_thing ag (by first | exact hz1 | (simp only [rIS, rJS, rAS, rLS, rVS, rQS, rS_hold]; exact hz1))) rfl ?_
  refine Bod.eqV (.ref r) (by first | exact hv1 | (simp only [rIV, rJV, rAV, rLV, rQV, rV, reduceIte, Nat.reduceEqDiff]; exact hv1)) ?_
  refine Bod.ildG dc_354_268 (by repeat (first | exact q4 | exact sm_get_p1 | exact sm_get_p2e | refine sm_get_p1m (by decide) (by decide) ?_ | refine sm_get_p1n (by decide) rfl ?_ | refine sm_get_p2n (by decide) (by decide) rfl ?_ | refine sm_get_p2m (by decide) (by decide) (by decide) ?_)) ?_
  refine Bod.ialdN (N := N) sl rfl (by omega) (by omega) dc_354_270 (mk_isI (by first | exact hg1 | exact isK_S (by simp only [rIS, rJS, rAS, rLS, rVS, rQS, rS_hold]) hg1)) ?_
  refine Bod.eqI (nI e) (by first | assumption | rfl | exact congrArg nI (by omega) | (simp (disch := omega) only [rI, rIe, rA, rIA, rLA, rJA, rVI, rQI, rVA, rQA, upd_at,  rAI, rLI, rJI, nI_add, pk_sub, kc_0, kc_1, kc_2, kc_3, kc_4, kc_5, reduceIte, Nat.reduceEqDiff, Nat.add_zero, rI_hold, rI_hold, rL_hold, he]; done)) ?_
  refine Bod.aldG dc_354_271 (by repeat (first | exact q0 | exact sm_get_p1 | exact sm_get_p2e | refine sm_get_p1m (by decide) (by decide) ?_ | refine sm_get_p1n (by decide) rfl ?_ | refine sm_get_p2n (by decide) (by decide) rfl ?_ | refine sm_get_p2m (by decide) (by decide) (by decide) ?_)) ?_
  refine Bod.get dc_354_273 fr_354_465 (mk_thing ag (by first | exact hz1 | (simp only [rIS, rJS, rAS, rLS, rVS, rQS, rS_hold]; exact hz1))) rfl ?_
  refine Bod.eqV (.ref r1) (by first | exact hv2 | (simp only [rIV, rJV, rAV, rLV, rQV, rV, reduceIte, Nat.reduceEqDiff]; exact hv2)) ?_
  refine Bod.ildG dc_354_276 (by repeat (first | exact q4 | exact sm_get_p1 | exact sm_get_p2e | refine sm_get_p1m (by decide) (by decide) ?_ | refine sm_get_p1n (by decide) rfl ?_ | refine sm_get_p2n (by decide) (by decide) rfl ?_ | refine sm_get_p2m (by decide) (by decide) (by decide) ?_)) ?_
  refine Bod.laldN (N := N1) sl rfl (by omega) (by omega) dc_354_278 (mk_isL (by first | exact hg2 | exact isK_S (by simp only [rIS, rJS, rAS, rLS, rVS, rQS, rS_hold]) hg2)) ?_
  refine Bod.aldG dc_354_279 (by repeat (first | exact q0 | exact sm_get_p1 | exact sm_get_p2e | refine sm_get_p1m (by decide) (by decide) ?_ | refine sm_get_p1n (by decide) rfl ?_ | refine sm_get_p2n (by decide) (by decide) rfl ?_ | refine sm_get_p2m (by decide) (by decide) (by decide) ?_)) ?_
  refine Bod.get dc_354_281 fr_354_627 (mk_thing ag (by first | exact hz1 | (simp only [rIS, rJS, rAS, rLS, rVS, rQS, rS_hold]; exact hz1))) rfl ?_
  refine Bod.eqV (.ref r2) (by first | exact hv3 | (simp only [rIV, rJV, rAV, rLV, rQV, rV, reduceIte, Nat.reduceEqDiff]; exact hv3)) ?_
  refine Bod.ildG dc_354_284 (by repeat (first | exact q4 | exact sm_get_p1 | exact sm_get_p2e | refine sm_get_p1m (by decide) (by decide) ?_ | refine sm_get_p1n (by decide) rfl ?_ | refine sm_get_p2n (by decide) (by decide) rfl ?_ | refine sm_get_p2m (by decide) (by decide) (by decide) ?_)) ?_
  refine Bod.laldN (N := N2) sl rfl (by omega) (by omega) dc_354_286 (mk_isL (by first | exact hg3 | exact isK_S (by simp only [rIS, rJS, rAS, rLS, rVS, rQS, rS_hold]) hg3)) ?_
  refine Bod.virt (r := []) dc_354_287 kr_354_549 ⟨Or.inl rfl, ow_352, cl_14⟩ (by rw [np_352]; rfl) (by rw [np_352]; rfl) (ob_of (mk_61 _)) (Nat.le_of_ble_eq_true rfl) (c1  ) ?_
  show Bod _ _ _ _ [] _ _ _
  refine Bod.ic 1 (by decide) dc_354_290 ?_
  exact Bod.retZ dc_354_291 rt_354 (Or.inr rfl)
theorem rNlL_2 {d : Nat} {S : cS} {lv : sm_L} {op : Nat} {nm : Nat} {dp : Nat} {sl : Nat} {f : Nat} {ni : Nat} {g : Nat} {zg : Nat} {r : Nat} {N : Nat} {e : Nat} (q0 : sm_get lv 0 = some (.ref 61)) (q1 : sm_get lv 1 = some (.int (nI op))) (q2 : sm_get lv 2 = some (.int (nI nm))) (q3 : sm_get lv 3 = some (.int (nI dp))) (q4 : sm_get lv 4 = some (.int (nI sl))) (q5 : sm_get lv 5 = some (.int (nI f))) (q6 : sm_get lv 6 = some (.int (nI ni))) (mop : op < 2 ^ 20) (mnm : nm < 2 ^ 20) (mdp : dp < 2 ^ 20) (msl : sl < 2 ^ 20) (mf : f < 2 ^ 20) (mni : ni < 2 ^ 20) (b1 : dp ≤ ni) (b2 : f < 1500) (ag : 108 ≤ g) (hq2 : sQ S 86 f = some g) (b3 : op ≠ 6) (hz1 : (sS S)[g - 108]? = some (13, zg)) (hv1 : sV S (100 * g + 2) = .ref r) (hg1 : isK S r 0 N) (mN : N < 2 ^ 20) (b4 : sl < N) (he : sA S r sl = nI e) (me : e < 2 ^ 20) (b5 : op = 7) : Bod (d + 8) 354 140 lv [] S (some (.int 1)) (wA r sl (Int32.ofInt (-1)) S) := by
  refine Bod.ildG dc_354_140 (by repeat (first | exact q6 | exact sm_get_p1 | exact sm_get_p2e | refine sm_get_p1m (by decide) (by decide) ?_ | refine sm_get_p1n (by decide) rfl ?_ | refine sm_get_p2n (by decide) (by decide) rfl ?_ | refine sm_get_p2m (by decide) (by decide) (by decide) ?_)) ?_
  refine Bod.ildnG dc_354_142 (by repeat (first | exact q3 | exact sm_get_p1 | exact sm_get_p2e | refine sm_get_p1m (by decide) (by decide) ?_ | refine sm_get_p1n (by decide) rfl ?_ | refine sm_get_p2n (by decide) (by decide) rfl ?_ | refine sm_get_p2m (by decide) (by decide) (by decide) ?_)) ?_
  refine Bod.icT dc_354_143 rfl (k2_ge_T ni dp rfl rfl (by omega) (by omega)) ?_
  refine Bod.aldnG dc_354_164 (by repeat (first | exact q0 | exact sm_get_p1 | exact sm_get_p2e | refine sm_get_p1m (by decide) (by decide) ?_ | refine sm_get_p1n (by decide) rfl ?_ | refine sm_get_p2n (by decide) (by decide) rfl ?_ | refine sm_get_p2m (by decide) (by decide) (by decide) ?_)) ?_
  refine Bod.get dc_354_165 fr_354_485 (mk_61 _) rfl ?_
  refine Bod.ildG dc_354_168 (by repeat (first | exact q5 | exact sm_get_p1 | exact sm_get_p2e | refine sm_get_p1m (by decide) (by decide) ?_ | refine sm_get_p1n (by decide) rfl ?_ | refine sm_get_p2n (by decide) (by decide) rfl ?_ | refine sm_get_p2m (by decide) (by decide) (by decide) ?_)) ?_
  refine Bod.aaldR (N := 1500) (b := g) f rfl (by omega) (by omega) (by first | exact hq2 | (simp only [rIQ, rJQ, rAQ, rLQ, rVQ, rQ_holdE]; exact hq2)) dc_354_170 (mk_86 _) ht_5 ?_
  refine Bod.ast dc_354_171 (by rw [ml_354]; exact Nat.le_of_ble_eq_true rfl) ?_
  refine Bod.ildnG dc_354_173 (by repeat (first | exact q1 | exact sm_get_p1 | exact sm_get_p2e | refine sm_get_p1m (by decide) (by decide) ?_ | refine sm_get_p1n (by decide) rfl ?_ | refine sm_get_p2n (by decide) (by decide) rfl ?_ | refine sm_get_p2m (by decide) (by decide) (by decide) ?_)) ?_
  refine Bod.bip 6 (by decide) dc_354_174 ?_
  refine Bod.icT dc_354_176 rfl (k2_ne_T (k_ne op 6 rfl rfl (by omega) (by omega) (by omega))) ?_
  refine Bod.aldG dc_354_225 (by repeat (first | exact q0 | exact sm_get_p1 | exact sm_get_p2e | refine sm_get_p1m (by decide) (by decide) ?_ | refine sm_get_p1n (by decide) rfl ?_ | refine sm_get_p2n (by decide) (by decide) rfl ?_ | refine sm_get_p2m (by decide) (by decide) (by decide) ?_)) ?_
  refine Bod.get dc_354_227 fr_354_462 (mk_thing ag (by first | exact hz1 | (simp only [rIS, rJS, rAS, rLS, rVS, rQS, rS_hold]; exact hz1))) rfl ?_
  refine Bod.eqV (.ref r) (by first | exact hv1 | (simp only [rIV, rJV, rAV, rLV, rQV, rV, reduceIte, Nat.reduceEqDiff]; exact hv1)) ?_
  refine Bod.ildG dc_354_230 (by repeat (first | exact q4 | exact sm_get_p1 | exact sm_get_p2e | refine sm_get_p1m (by decide) (by decide) ?_ | refine sm_get_p1n (by decide) rfl ?_ | refine sm_get_p2n (by decide) (by decide) rfl ?_ | refine sm_get_p2m (by decide) (by decide) (by decide) ?_)) ?_
  refine Bod.ialdN (N := N) sl rfl (by omega) (by omega) dc_354_232 (mk_isI (by first | exact hg1 | exact isK_S (by simp only [rIS, rJS, rAS, rLS, rVS, rQS, rS_hold]) hg1)) ?_
  refine Bod.eqI (nI e) (by first | assumption | rfl | exact congrArg nI (by omega) | (simp (disch := omega) only [rI, rIe, rA, rIA, rLA, rJA, rVI, rQI, rVA, rQA, upd_at,  rAI, rLI, rJI, nI_add, pk_sub, kc_0, kc_1, kc_2, kc_3, kc_4, kc_5, reduceIte, Nat.reduceEqDiff, Nat.add_zero, rI_hold, rI_hold, rL_hold, he]; done)) ?_
  refine Bod.go dc_354_233 rfl ?_
  refine Bod.icT dc_354_234 rfl (mr_ne (by omega)) ?_
  refine Bod.ildnG dc_354_244 (by repeat (first | exact q1 | exact sm_get_p1 | exact sm_get_p2e | refine sm_get_p1m (by decide) (by decide) ?_ | refine sm_get_p1n (by decide) rfl ?_ | refine sm_get_p2n (by decide) (by decide) rfl ?_ | refine sm_get_p2m (by decide) (by decide) (by decide) ?_)) ?_
  refine Bod.bip 7 (by decide) dc_354_245 ?_
  refine Bod.icF dc_354_247 rfl (k2_ne_F (k_eq op 7 rfl rfl (by omega))) ?_
  refine Bod.aldG dc_354_250 (by repeat (first | exact q0 | exact sm_get_p1 | exact sm_get_p2e | refine sm_get_p1m (by decide) (by decide) ?_ | refine sm_get_p1n (by decide) rfl ?_ | refine sm_get_p2n (by decide) (by decide) rfl ?_ | refine sm_get_p2m (by decide) (by decide) (by decide) ?_)) ?_
  refine Bod.get dc_354_252 fr_354_462 (mk_thing ag (by first | exact hz1 | (simp only [rIS, rJS, rAS, rLS, rVS, rQS, rS_hold]; exact hz1))) rfl ?_
  refine Bod.eqV (.ref r) (by first | exact hv1 | (simp only [rIV, rJV, rAV, rLV, rQV, rV, reduceIte, Nat.reduceEqDiff]; exact hv1)) ?_
  refine Bod.ildG dc_354_255 (by repeat (first | exact q4 | exact sm_get_p1 | exact sm_get_p2e | refine sm_get_p1m (by decide) (by decide) ?_ | refine sm_get_p1n (by decide) rfl ?_ | refine sm_get_p2n (by decide) (by decide) rfl ?_ | refine sm_get_p2m (by decide) (by decide) (by decide) ?_)) ?_
  refine Bod.go dc_354_257 rfl ?_
  refine Bod.iastN (N := N) sl rfl (by omega) (by omega) dc_354_258 (mk_isI (by first | exact hg1 | exact isK_S (by simp only [rIS, rJS, rAS, rLS, rVS, rQS, rS_hold]) hg1)) (sa_isI (by first | exact hg1 | exact isK_S (by simp only [rIS, rJS, rAS, rLS, rVS, rQS, rS_hold]) hg1)) (mu_A _ _ _ _) ?_
  refine Bod.go dc_354_259 rfl ?_
  refine Bod.ic 1 (by decide) dc_354_290 ?_
  exact Bod.retZ dc_354_291 rt_354 (Or.inr rfl)
theorem rNlL_3 {d : Nat} {S : cS} {lv : sm_L} {op : Nat} {nm : Nat} {dp : Nat} {sl : Nat} {f : Nat} {ni : Nat} {g : Nat} {zg : Nat} {r : Nat} {N : Nat} {S1 : cS} (q0 : sm_get lv 0 = some (.ref 61)) (q1 : sm_get lv 1 = some (.int (nI op))) (q2 : sm_get lv 2 = some (.int (nI nm))) (q3 : sm_get lv 3 = some (.int (nI dp))) (q4 : sm_get lv 4 = some (.int (nI sl))) (q5 : sm_get lv 5 = some (.int (nI f))) (q6 : sm_get lv 6 = some (.int (nI ni))) (mop : op < 2 ^ 20) (mnm : nm < 2 ^ 20) (mdp : dp < 2 ^ 20) (msl : sl < 2 ^ 20) (mf : f < 2 ^ 20) (mni : ni < 2 ^ 20) (b1 : dp ≤ ni) (b2 : f < 1500) (ag : 108 ≤ g) (hq2 : sQ S 86 f = some g) (b3 : op ≠ 6) (hz1 : (sS S)[g - 108]? = some (13, zg)) (hv1 : sV S (100 * g + 2) = .ref r) (hg1 : isK S r 0 N) (mN : N < 2 ^ 20) (b4 : sl < N) (n5 : sA S r sl = Int32.ofInt (-1)) (c1 : Ans (d + 8) 355 [.ref 61, .int (nI op), .int (nI nm)] S (some (.int (nI 1))) S1) : Bod (d + 8) 354 140 lv [] S (some (.int 1)) (S1) := by
  refine Bod.ildG dc_354_140 (by repeat (first | exact q6 | exact sm_get_p1 | exact sm_get_p2e | refine sm_get_p1m (by decide) (by decide) ?_ | refine sm_get_p1n (by decide) rfl ?_ | refine sm_get_p2n (by decide) (by decide) rfl ?_ | refine sm_get_p2m (by decide) (by decide) (by decide) ?_)) ?_
  refine Bod.ildnG dc_354_142 (by repeat (first | exact q3 | exact sm_get_p1 | exact sm_get_p2e | refine sm_get_p1m (by decide) (by decide) ?_ | refine sm_get_p1n (by decide) rfl ?_ | refine sm_get_p2n (by decide) (by decide) rfl ?_ | refine sm_get_p2m (by decide) (by decide) (by decide) ?_)) ?_
  refine Bod.icT dc_354_143 rfl (k2_ge_T ni dp rfl rfl (by omega) (by omega)) ?_
  refine Bod.aldnG dc_354_164 (by repeat (first | exact q0 | exact sm_get_p1 | exact sm_get_p2e | refine sm_get_p1m (by decide) (by decide) ?_ | refine sm_get_p1n (by decide) rfl ?_ | refine sm_get_p2n (by decide) (by decide) rfl ?_ | refine sm_get_p2m (by decide) (by decide) (by decide) ?_)) ?_
  refine Bod.get dc_354_165 fr_354_485 (mk_61 _) rfl ?_
  refine Bod.ildG dc_354_168 (by repeat (first | exact q5 | exact sm_get_p1 | exact sm_get_p2e | refine sm_get_p1m (by decide) (by decide) ?_ | refine sm_get_p1n (by decide) rfl ?_ | refine sm_get_p2n (by decide) (by decide) rfl ?_ | refine sm_get_p2m (by decide) (by decide) (by decide) ?_)) ?_
  refine Bod.aaldR (N := 1500) (b := g) f rfl (by omega) (by omega) (by first | exact hq2 | (simp only [rIQ, rJQ, rAQ, rLQ, rVQ, rQ_holdE]; exact hq2)) dc_354_170 (mk_86 _) ht_5 ?_
  refine Bod.ast dc_354_171 (by rw [ml_354]; exact Nat.le_of_ble_eq_true rfl) ?_
  refine Bod.ildnG dc_354_173 (by repeat (first | exact q1 | exact sm_get_p1 | exact sm_get_p2e | refine sm_get_p1m (by decide) (by decide) ?_ | refine sm_get_p1n (by decide) rfl ?_ | refine sm_get_p2n (by decide) (by decide) rfl ?_ | refine sm_get_p2m (by decide) (by decide) (by decide) ?_)) ?_
  refine Bod.bip 6 (by decide) dc_354_174 ?_
  refine Bod.icT dc_354_176 rfl (k2_ne_T (k_ne op 6 rfl rfl (by omega) (by omega) (by omega))) ?_
  refine Bod.aldG dc_354_225 (by repeat (first | exact q0 | exact sm_get_p1 | exact sm_get_p2e | refine sm_get_p1m (by decide) (by decide) ?_ | refine sm_get_p1n (by decide) rfl ?_ | refine sm_get_p2n (by decide) (by decide) rfl ?_ | refine sm_get_p2m (by decide) (by decide) (by decide) ?_)) ?_
  refine Bod.get dc_354_227 fr_354_462 (mk_thing ag (by first | exact hz1 | (simp only [rIS, rJS, rAS, rLS, rVS, rQS, rS_hold]; exact hz1))) rfl ?_
  refine Bod.eqV (.ref r) (by first | exact hv1 | (simp only [rIV, rJV, rAV, rLV, rQV, rV, reduceIte, Nat.reduceEqDiff]; exact hv1)) ?_
  refine Bod.ildG dc_354_230 (by repeat (first | exact q4 | exact sm_get_p1 | exact sm_get_p2e | refine sm_get_p1m (by decide) (by decide) ?_ | refine sm_get_p1n (by decide) rfl ?_ | refine sm_get_p2n (by decide) (by decide) rfl ?_ | refine sm_get_p2m (by decide) (by decide) (by decide) ?_)) ?_
  refine Bod.ialdN (N := N) sl rfl (by omega) (by omega) dc_354_232 (mk_isI (by first | exact hg1 | exact isK_S (by simp only [rIS, rJS, rAS, rLS, rVS, rQS, rS_hold]) hg1)) ?_
  refine Bod.eqI (Int32.ofInt (-1)) (by first | assumption | rfl | exact congrArg nI (by omega) | (simp (disch := omega) only [rI, rIe, rA, rIA, rLA, rJA, rVI, rQI, rVA, rQA, upd_at,  rAI, rLI, rJI, nI_add, pk_sub, kc_0, kc_1, kc_2, kc_3, kc_4, kc_5, reduceIte, Nat.reduceEqDiff, Nat.add_zero, rI_hold, rI_hold, rL_hold, n5]; done)) ?_
  refine Bod.go dc_354_233 rfl ?_
  refine Bod.icF dc_354_234 rfl (by decide) ?_
  refine Bod.aldnG dc_354_237 (by repeat (first | exact q0 | exact sm_get_p1 | exact sm_get_p2e | refine sm_get_p1m (by decide) (by decide) ?_ | refine sm_get_p1n (by decide) rfl ?_ | refine sm_get_p2n (by decide) (by decide) rfl ?_ | refine sm_get_p2m (by decide) (by decide) (by decide) ?_)) ?_
  refine Bod.ildnG dc_354_238 (by repeat (first | exact q1 | exact sm_get_p1 | exact sm_get_p2e | refine sm_get_p1m (by decide) (by decide) ?_ | refine sm_get_p1n (by decide) rfl ?_ | refine sm_get_p2n (by decide) (by decide) rfl ?_ | refine sm_get_p2m (by decide) (by decide) (by decide) ?_)) ?_
  refine Bod.ildnG dc_354_239 (by repeat (first | exact q2 | exact sm_get_p1 | exact sm_get_p2e | refine sm_get_p1m (by decide) (by decide) ?_ | refine sm_get_p1n (by decide) rfl ?_ | refine sm_get_p2n (by decide) (by decide) rfl ?_ | refine sm_get_p2m (by decide) (by decide) (by decide) ?_)) ?_
  refine Bod.virt (r := []) dc_354_240 kr_354_696 ⟨Or.inl rfl, ow_355, cl_14⟩ (by rw [np_355]; rfl) (by rw [np_355]; rfl) (ob_of (mk_61 _)) (Nat.le_of_ble_eq_true rfl) (c1  ) ?_
  show Bod _ _ _ _ [_] _ _ _
  exact Bod.retZ dc_354_243 rt_354 (Or.inr rfl)
theorem rNlL_4 {d : Nat} {S : cS} {lv : sm_L} {op : Nat} {nm : Nat} {dp : Nat} {sl : Nat} {f : Nat} {ni : Nat} {g : Nat} {zg : Nat} {r : Nat} {N : Nat} {S1 : cS} (q0 : sm_get lv 0 = some (.ref 61)) (q1 : sm_get lv 1 = some (.int (nI op))) (q2 : sm_get lv 2 = some (.int (nI nm))) (q3 : sm_get lv 3 = some (.int (nI dp))) (q4 : sm_get lv 4 = some (.int (nI sl))) (q5 : sm_get lv 5 = some (.int (nI f))) (q6 : sm_get lv 6 = some (.int (nI ni))) (mop : op < 2 ^ 20) (mnm : nm < 2 ^ 20) (mdp : dp < 2 ^ 20) (msl : sl < 2 ^ 20) (mf : f < 2 ^ 20) (mni : ni < 2 ^ 20) (b1 : dp ≤ ni) (b2 : f < 1500) (ag : 108 ≤ g) (hq2 : sQ S 86 f = some g) (b3 : op ≠ 6) (hz1 : (sS S)[g - 108]? = some (13, zg)) (hv1 : sV S (100 * g + 2) = .ref r) (hg1 : isK S r 0 N) (mN : N < 2 ^ 20) (b4 : sl < N) (n5 : sA S r sl = Int32.ofInt (-1)) (c1 : Ans (d + 8) 355 [.ref 61, .int (nI op), .int (nI nm)] S (some (.int (nI 0))) S1) : Bod (d + 8) 354 140 lv [] S (some (.int 0)) (S1) := by
  refine Bod.ildG dc_354_140 (by repeat (first | exact q6 | exact sm_get_p1 | exact sm_get_p2e | refine sm_get_p1m (by decide) (by decide) ?_ | refine sm_get_p1n (by decide) rfl ?_ | refine sm_get_p2n (by decide) (by decide) rfl ?_ | refine sm_get_p2m (by decide) (by decide) (by decide) ?_)) ?_
  refine Bod.ildnG dc_354_142 (by repeat (first | exact q3 | exact sm_get_p1 | exact sm_get_p2e | refine sm_get_p1m (by decide) (by decide) ?_ | refine sm_get_p1n (by decide) rfl ?_ | refine sm_get_p2n (by decide) (by decide) rfl ?_ | refine sm_get_p2m (by decide) (by decide) (by decide) ?_)) ?_
  refine Bod.icT dc_354_143 rfl (k2_ge_T ni dp rfl rfl (by omega) (by omega)) ?_
  refine Bod.aldnG dc_354_164 (by repeat (first | exact q0 | exact sm_get_p1 | exact sm_get_p2e | refine sm_get_p1m (by decide) (by decide) ?_ | refine sm_get_p1n (by decide) rfl ?_ | refine sm_get_p2n (by decide) (by decide) rfl ?_ | refine sm_get_p2m (by decide) (by decide) (by decide) ?_)) ?_
  refine Bod.get dc_354_165 fr_354_485 (mk_61 _) rfl ?_
  refine Bod.ildG dc_354_168 (by repeat (first | exact q5 | exact sm_get_p1 | exact sm_get_p2e | refine sm_get_p1m (by decide) (by decide) ?_ | refine sm_get_p1n (by decide) rfl ?_ | refine sm_get_p2n (by decide) (by decide) rfl ?_ | refine sm_get_p2m (by decide) (by decide) (by decide) ?_)) ?_
  refine Bod.aaldR (N := 1500) (b := g) f rfl (by omega) (by omega) (by first | exact hq2 | (simp only [rIQ, rJQ, rAQ, rLQ, rVQ, rQ_holdE]; exact hq2)) dc_354_170 (mk_86 _) ht_5 ?_
  refine Bod.ast dc_354_171 (by rw [ml_354]; exact Nat.le_of_ble_eq_true rfl) ?_
  refine Bod.ildnG dc_354_173 (by repeat (first | exact q1 | exact sm_get_p1 | exact sm_get_p2e | refine sm_get_p1m (by decide) (by decide) ?_ | refine sm_get_p1n (by decide) rfl ?_ | refine sm_get_p2n (by decide) (by decide) rfl ?_ | refine sm_get_p2m (by decide) (by decide) (by decide) ?_)) ?_
  refine Bod.bip 6 (by decide) dc_354_174 ?_
  refine Bod.icT dc_354_176 rfl (k2_ne_T (k_ne op 6 rfl rfl (by omega) (by omega) (by omega))) ?_
  refine Bod.aldG dc_354_225 (by repeat (first | exact q0 | exact sm_get_p1 | exact sm_get_p2e | refine sm_get_p1m (by decide) (by decide) ?_ | refine sm_get_p1n (by decide) rfl ?_ | refine sm_get_p2n (by decide) (by decide) rfl ?_ | refine sm_get_p2m (by decide) (by decide) (by decide) ?_)) ?_
  refine Bod.get dc_354_227 fr_354_462 (mk_thing ag (by first | exact hz1 | (simp only [rIS, rJS, rAS, rLS, rVS, rQS, rS_hold]; exact hz1))) rfl ?_
  refine Bod.eqV (.ref r) (by first | exact hv1 | (simp only [rIV, rJV, rAV, rLV, rQV, rV, reduceIte, Nat.reduceEqDiff]; exact hv1)) ?_
  refine Bod.ildG dc_354_230 (by repeat (first | exact q4 | exact sm_get_p1 | exact sm_get_p2e | refine sm_get_p1m (by decide) (by decide) ?_ | refine sm_get_p1n (by decide) rfl ?_ | refine sm_get_p2n (by decide) (by decide) rfl ?_ | refine sm_get_p2m (by decide) (by decide) (by decide) ?_)) ?_
  refine Bod.ialdN (N := N) sl rfl (by omega) (by omega) dc_354_232 (mk_isI (by first | exact hg1 | exact isK_S (by simp only [rIS, rJS, rAS, rLS, rVS, rQS, rS_hold]) hg1)) ?_
  refine Bod.eqI (Int32.ofInt (-1)) (by first | assumption | rfl | exact congrArg nI (by omega) | (simp (disch := omega) only [rI, rIe, rA, rIA, rLA, rJA, rVI, rQI, rVA, rQA, upd_at,  rAI, rLI, rJI, nI_add, pk_sub, kc_0, kc_1, kc_2, kc_3, kc_4, kc_5, reduceIte, Nat.reduceEqDiff, Nat.add_zero, rI_hold, rI_hold, rL_hold, n5]; done)) ?_
  refine Bod.go dc_354_233 rfl ?_
  refine Bod.icF dc_354_234 rfl (by decide) ?_
  refine Bod.aldnG dc_354_237 (by repeat (first | exact q0 | exact sm_get_p1 | exact sm_get_p2e | refine sm_get_p1m (by decide) (by decide) ?_ | refine sm_get_p1n (by decide) rfl ?_ | refine sm_get_p2n (by decide) (by decide) rfl ?_ | refine sm_get_p2m (by decide) (by decide) (by decide) ?_)) ?_
  refine Bod.ildnG dc_354_238 (by repeat (first | exact q1 | exact sm_get_p1 | exact sm_get_p2e | refine sm_get_p1m (by decide) (by decide) ?_ | refine sm_get_p1n (by decide) rfl ?_ | refine sm_get_p2n (by decide) (by decide) rfl ?_ | refine sm_get_p2m (by decide) (by decide) (by decide) ?_)) ?_
  refine Bod.ildnG dc_354_239 (by repeat (first | exact q2 | exact sm_get_p1 | exact sm_get_p2e | refine sm_get_p1m (by decide) (by decide) ?_ | refine sm_get_p1n (by decide) rfl ?_ | refine sm_get_p2n (by decide) (by decide) rfl ?_ | refine sm_get_p2m (by decide) (by decide) (by decide) ?_)) ?_
  refine Bod.virt (r := []) dc_354_240 kr_354_696 ⟨Or.inl rfl, ow_355, cl_14⟩ (by rw [np_355]; rfl) (by rw [np_355]; rfl) (ob_of (mk_61 _)) (Nat.le_of_ble_eq_true rfl) (c1  ) ?_
  show Bod _ _ _ _ [_] _ _ _
  exact Bod.retZ dc_354_243 rt_354 (Or.inl rfl)
theorem rNlL_5 {d : Nat} {S : cS} {lv : sm_L} {op : Nat} {nm : Nat} {dp : Nat} {sl : Nat} {f : Nat} {ni : Nat} {g : Nat} {zg : Nat} {t : Nat} {e91 : Nat} {S1 : cS} (q0 : sm_get lv 0 = some (.ref 61)) (q1 : sm_get lv 1 = some (.int (nI op))) (q2 : sm_get lv 2 = some (.int (nI nm))) (q3 : sm_get lv 3 = some (.int (nI dp))) (q4 : sm_get lv 4 = some (.int (nI sl))) (q5 : sm_get lv 5 = some (.int (nI f))) (q6 : sm_get lv 6 = some (.int (nI ni))) (mop : op < 2 ^ 20) (mnm : nm < 2 ^ 20) (mdp : dp < 2 ^ 20) (msl : sl < 2 ^ 20) (mf : f < 2 ^ 20) (mni : ni < 2 ^ 20) (b1 : dp ≤ ni) (b2 : f < 1500) (ag : 108 ≤ g) (hq2 : sQ S 86 f = some g) (b3 : op = 6) (ht : sI S 6151 = nI t) (mt : t < 20481) (b4 : 1 ≤ t) (he91 : sA (wI 6151 (nI (t - 1)) S) 91 (t - 1) = nI e91) (me91 : e91 < 2 ^ 20) (c1 : Ans (d + 8) 358 [.ref g, .int (nI sl), .int (nI e91), .long (sL (wI 6151 (nI (t - 1)) S) 92 (t - 1)), .long (sL (wI 6151 (nI (t - 1)) S) 93 (t - 1))] (wI 6151 (nI (t - 1)) S) none S1) (hz1 : (sS S)[g - 108]? = some (13, zg)) : Bod (d + 8) 354 140 lv [] S (some (.int 1)) (S1) := by
  refine Bod.ildG dc_354_140 (by repeat (first | exact q6 | exact sm_get_p1 | exact sm_get_p2e | refine sm_get_p1m (by decide) (by decide) ?_ | refine sm_get_p1n (by decide) rfl ?_ | refine sm_get_p2n (by decide) (by decide) rfl ?_ | refine sm_get_p2m (by decide) (by decide) (by decide) ?_)) ?_
  refine Bod.ildnG dc_354_142 (by repeat (first | exact q3 | exact sm_get_p1 | exact sm_get_p2e | refine sm_get_p1m (by decide) (by decide) ?_ | refine sm_get_p1n (by decide) rfl ?_ | refine sm_get_p2n (by decide) (by decide) rfl ?_ | refine sm_get_p2m (by decide) (by decide) (by decide) ?_)) ?_
  refine Bod.icT dc_354_143 rfl (k2_ge_T ni dp rfl rfl (by omega) (by omega)) ?_
  refine Bod.aldnG dc_354_164 (by repeat (first | exact q0 | exact sm_get_p1 | exact sm_get_p2e | refine sm_get_p1m (by decide) (by decide) ?_ | refine sm_get_p1n (by decide) rfl ?_ | refine sm_get_p2n (by decide) (by decide) rfl ?_ | refine sm_get_p2m (by decide) (by decide) (by decide) ?_)) ?_
  refine Bod.get dc_354_165 fr_354_485 (mk_61 _) rfl ?_
  refine Bod.ildG dc_354_168 (by repeat (first | exact q5 | exact sm_get_p1 | exact sm_get_p2e | refine sm_get_p1m (by decide) (by decide) ?_ | refine sm_get_p1n (by decide) rfl ?_ | refine sm_get_p2n (by decide) (by decide) rfl ?_ | refine sm_get_p2m (by decide) (by decide) (by decide) ?_)) ?_
  refine Bod.aaldR (N := 1500) (b := g) f rfl (by omega) (by omega) (by first | exact hq2 | (simp only [rIQ, rJQ, rAQ, rLQ, rVQ, rQ_holdE]; exact hq2)) dc_354_170 (mk_86 _) ht_5 ?_
  refine Bod.ast dc_354_171 (by rw [ml_354]; exact Nat.le_of_ble_eq_true rfl) ?_
  refine Bod.ildnG dc_354_173 (by repeat (first | exact q1 | exact sm_get_p1 | exact sm_get_p2e | refine sm_get_p1m (by decide) (by decide) ?_ | refine sm_get_p1n (by decide) rfl ?_ | refine sm_get_p2n (by decide) (by decide) rfl ?_ | refine sm_get_p2m (by decide) (by decide) (by decide) ?_)) ?_
  refine Bod.bip 6 (by decide) dc_354_174 ?_
  refine Bod.icF dc_354_176 rfl (k2_ne_F (k_eq op 6 rfl rfl (by omega))) ?_
  refine Bod.aldnG dc_354_179 (by repeat (first | exact q0 | exact sm_get_p1 | exact sm_get_p2e | refine sm_get_p1m (by decide) (by decide) ?_ | refine sm_get_p1n (by decide) rfl ?_ | refine sm_get_p2n (by decide) (by decide) rfl ?_ | refine sm_get_p2m (by decide) (by decide) (by decide) ?_)) ?_
  refine Bod.go dc_354_180 rfl ?_
  refine Bod.get dc_354_181 fr_354_493 (mk_61 _) rfl ?_
  refine Bod.eqI (nI t) (by first | assumption | rfl | exact congrArg nI (by omega) | (simp (disch := omega) only [rI, rIe, rA, rIA, rLA, rJA, rVI, rQI, rVA, rQA, upd_at,  rAI, rLI, rJI, nI_add, pk_sub, kc_0, kc_1, kc_2, kc_3, kc_4, kc_5, reduceIte, Nat.reduceEqDiff, Nat.add_zero, rI_hold, rI_hold, rL_hold, ht]; done)) ?_
  refine Bod.ic 1 (by decide) dc_354_184 ?_
  refine Bod.subN (t - 1) (by omega) (by omega) dc_354_185 ?_
  refine Bod.put dc_354_186 fr_354_493 (mk_61 _) (Nat.le_of_ble_eq_true rfl) pf_14_51 (st_6151 _ _) (mu_I _ _ _) ?_
  refine Bod.aldG dc_354_189 (by repeat (first | exact q0 | exact sm_get_p1 | exact sm_get_p2e | refine sm_get_p1m (by decide) (by decide) ?_ | refine sm_get_p1n (by decide) rfl ?_ | refine sm_get_p2n (by decide) (by decide) rfl ?_ | refine sm_get_p2m (by decide) (by decide) (by decide) ?_)) ?_
  refine Bod.ildG dc_354_191 (by repeat (first | exact q4 | exact sm_get_p1 | exact sm_get_p2e | refine sm_get_p1m (by decide) (by decide) ?_ | refine sm_get_p1n (by decide) rfl ?_ | refine sm_get_p2n (by decide) (by decide) rfl ?_ | refine sm_get_p2m (by decide) (by decide) (by decide) ?_)) ?_
  refine Bod.aldnG dc_354_193 (by repeat (first | exact q0 | exact sm_get_p1 | exact sm_get_p2e | refine sm_get_p1m (by decide) (by decide) ?_ | refine sm_get_p1n (by decide) rfl ?_ | refine sm_get_p2n (by decide) (by decide) rfl ?_ | refine sm_get_p2m (by decide) (by decide) (by decide) ?_)) ?_
  refine Bod.get dc_354_194 fr_354_496 (mk_61 _) rfl ?_
  refine Bod.aldnG dc_354_197 (by repeat (first | exact q0 | exact sm_get_p1 | exact sm_get_p2e | refine sm_get_p1m (by decide) (by decide) ?_ | refine sm_get_p1n (by decide) rfl ?_ | refine sm_get_p2n (by decide) (by decide) rfl ?_ | refine sm_get_p2m (by decide) (by decide) (by decide) ?_)) ?_
  refine Bod.get dc_354_198 fr_354_493 (mk_61 _) rfl ?_
  refine Bod.eqI (nI (t - 1)) (by first | assumption | (simp (disch := omega) only [rI, rIe, rA, rIA, rLA, rJA, rVI, rQI, rVA, rQA, upd_at,  rAI, rLI, rJI, nI_add, pk_sub, kc_0, kc_1, kc_2, kc_3, kc_4, kc_5, reduceIte, Nat.reduceEqDiff, Nat.add_zero, rI_hold, rI_hold, rL_hold, ht]; done) | (simp (disch := omega) only [rI, rIe, rA, rIA, rLA, rJA, rVI, rQI, rVA, rQA, upd_at,  rAI, rLI, rJI, nI_add, pk_sub, kc_0, kc_1, kc_2, kc_3, kc_4, kc_5, reduceIte, Nat.reduceEqDiff, Nat.add_zero, rI_hold, rI_hold, rL_hold, ht]; exact congrArg nI (by omega))) ?_
  refine Bod.ialdN (t - 1) rfl (by omega) (by omega) dc_354_201 (mk_91 _) ?_
  refine Bod.eqI (nI e91) (by first | assumption | (simp (disch := omega) only [rI, rIe, rA, rIA, rLA, rJA, rVI, rQI, rVA, rQA, upd_at,  rAI, rLI, rJI, nI_add, pk_sub, kc_0, kc_1, kc_2, kc_3, kc_4, kc_5, reduceIte, Nat.reduceEqDiff, Nat.add_zero, rI_hold, rI_hold, rL_hold, ht, he91]; done) | (simp (disch := omega) only [rI, rIe, rA, rIA, rLA, rJA, rVI, rQI, rVA, rQA, upd_at,  rAI, rLI, rJI, nI_add, pk_sub, kc_0, kc_1, kc_2, kc_3, kc_4, kc_5, reduceIte, Nat.reduceEqDiff, Nat.add_zero, rI_hold, rI_hold, rL_hold, ht, he91]; exact congrArg nI (by omega))) ?_
  refine Bod.aldnG dc_354_202 (by repeat (first | exact q0 | exact sm_get_p1 | exact sm_get_p2e | refine sm_get_p1m (by decide) (by decide) ?_ | refine sm_get_p1n (by decide) rfl ?_ | refine sm_get_p2n (by decide) (by decide) rfl ?_ | refine sm_get_p2m (by decide) (by decide) (by decide) ?_)) ?_
  refine Bod.get dc_354_203 fr_354_499 (mk_61 _) rfl ?_
  refine Bod.aldnG dc_354_206 (by repeat (first | exact q0 | exact sm_get_p1 | exact sm_get_p2e | refine sm_get_p1m (by decide) (by decide) ?_ | refine sm_get_p1n (by decide) rfl ?_ | refine sm_get_p2n (by decide) (by decide) rfl ?_ | refine sm_get_p2m (by decide) (by decide) (by decide) ?_)) ?_
  refine Bod.get dc_354_207 fr_354_493 (mk_61 _) rfl ?_
  refine Bod.eqI (nI (t - 1)) (by first | assumption | (simp (disch := omega) only [rI, rIe, rA, rIA, rLA, rJA, rVI, rQI, rVA, rQA, upd_at,  rAI, rLI, rJI, nI_add, pk_sub, kc_0, kc_1, kc_2, kc_3, kc_4, kc_5, reduceIte, Nat.reduceEqDiff, Nat.add_zero, rI_hold, rI_hold, rL_hold, ht, he91]; done) | (simp (disch := omega) only [rI, rIe, rA, rIA, rLA, rJA, rVI, rQI, rVA, rQA, upd_at,  rAI, rLI, rJI, nI_add, pk_sub, kc_0, kc_1, kc_2, kc_3, kc_4, kc_5, reduceIte, Nat.reduceEqDiff, Nat.add_zero, rI_hold, rI_hold, rL_hold, ht, he91]; exact congrArg nI (by omega))) ?_
  refine Bod.laldN (t - 1) rfl (by omega) (by omega) dc_354_210 (mk_92 _) ?_
  refine Bod.aldnG dc_354_211 (by repeat (first | exact q0 | exact sm_get_p1 | exact sm_get_p2e | refine sm_get_p1m (by decide) (by decide) ?_ | refine sm_get_p1n (by decide) rfl ?_ | refine sm_get_p2n (by decide) (by decide) rfl ?_ | refine sm_get_p2m (by decide) (by decide) (by decide) ?_)) ?_
  refine Bod.get dc_354_212 fr_354_546 (mk_61 _) rfl ?_
  refine Bod.aldnG dc_354_215 (by repeat (first | exact q0 | exact sm_get_p1 | exact sm_get_p2e | refine sm_get_p1m (by decide) (by decide) ?_ | refine sm_get_p1n (by decide) rfl ?_ | refine sm_get_p2n (by decide) (by decide) rfl ?_ | refine sm_get_p2m (by decide) (by decide) (by decide) ?_)) ?_
  refine Bod.get dc_354_216 fr_354_493 (mk_61 _) rfl ?_
  refine Bod.eqI (nI (t - 1)) (by first | assumption | (simp (disch := omega) only [rI, rIe, rA, rIA, rLA, rJA, rVI, rQI, rVA, rQA, upd_at,  rAI, rLI, rJI, nI_add, pk_sub, kc_0, kc_1, kc_2, kc_3, kc_4, kc_5, reduceIte, Nat.reduceEqDiff, Nat.add_zero, rI_hold, rI_hold, rL_hold, ht, he91]; done) | (simp (disch := omega) only [rI, rIe, rA, rIA, rLA, rJA, rVI, rQI, rVA, rQA, upd_at,  rAI, rLI, rJI, nI_add, pk_sub, kc_0, kc_1, kc_2, kc_3, kc_4, kc_5, reduceIte, Nat.reduceEqDiff, Nat.add_zero, rI_hold, rI_hold, rL_hold, ht, he91]; exact congrArg nI (by omega))) ?_
  refine Bod.laldN (t - 1) rfl (by omega) (by omega) dc_354_219 (mk_93 _) ?_
  refine Bod.virt (r := []) dc_354_220 kr_354_699 ⟨Or.inl rfl, ow_358, cl_13⟩ (by rw [np_358]; rfl) (by rw [np_358]; rfl) (ob_of (mk_thing ag (by first | exact hz1 | (simp only [rIS, rJS, rAS, rLS, rVS, rQS, rS_hold]; exact hz1)))) (Nat.le_of_ble_eq_true rfl) (c1  ) ?_
  show Bod _ _ _ _ [] _ _ _
  refine Bod.ic 1 (by decide) dc_354_223 ?_
  exact Bod.retZ dc_354_224 rt_354 (Or.inr rfl)
theorem rNlL_6 {d : Nat} {S Sf : cS} {v : Option Value} {lv : sm_L} {op : Nat} {nm : Nat} {dp : Nat} {sl : Nat} {f : Nat} {ni : Nat} {g : Nat} {zg : Nat} {fd11 : Nat} (q0 : sm_get lv 0 = some (.ref 61)) (q1 : sm_get lv 1 = some (.int (nI op))) (q2 : sm_get lv 2 = some (.int (nI nm))) (q3 : sm_get lv 3 = some (.int (nI dp))) (q4 : sm_get lv 4 = some (.int (nI sl))) (q5 : sm_get lv 5 = some (.int (nI f))) (q6 : sm_get lv 6 = some (.int (nI ni))) (mop : op < 2 ^ 20) (mnm : nm < 2 ^ 20) (mdp : dp < 2 ^ 20) (msl : sl < 2 ^ 20) (mf : f < 2 ^ 20) (mni : ni < 2 ^ 20) (b1 : ni < dp) (b2 : f < 1500) (ag : 108 ≤ g) (hq2 : sQ S 86 f = some g) (hz1 : (sS S)[g - 108]? = some (13, zg)) (hfd11 : sI S (100 * g + 11) = nI fd11) (mfd11 : fd11 < 2 ^ 20) (hB : ∀ lv1 : sm_L, sm_get lv1 0 = some (.ref 61) → sm_get lv1 1 = some (.int (nI op)) → sm_get lv1 2 = some (.int (nI nm)) → sm_get lv1 3 = some (.int (nI dp)) → sm_get lv1 4 = some (.int (nI sl)) → sm_get lv1 5 = some (.int (nI fd11)) → sm_get lv1 6 = some (.int (nI (ni + 1))) → Bod (d + 8) 354 140 lv1 [] (S) v Sf) : Bod (d + 8) 354 140 lv [] S v Sf := by
  refine Bod.ildG dc_354_140 (by repeat (first | exact q6 | exact sm_get_p1 | exact sm_get_p2e | refine sm_get_p1m (by decide) (by decide) ?_ | refine sm_get_p1n (by decide) rfl ?_ | refine sm_get_p2n (by decide) (by decide) rfl ?_ | refine sm_get_p2m (by decide) (by decide) (by decide) ?_)) ?_
  refine Bod.ildnG dc_354_142 (by repeat (first | exact q3 | exact sm_get_p1 | exact sm_get_p2e | refine sm_get_p1m (by decide) (by decide) ?_ | refine sm_get_p1n (by decide) rfl ?_ | refine sm_get_p2n (by decide) (by decide) rfl ?_ | refine sm_get_p2m (by decide) (by decide) (by decide) ?_)) ?_
  refine Bod.icF dc_354_143 rfl (k2_ge_F ni dp rfl rfl (by omega) (by omega)) ?_
  refine Bod.aldnG dc_354_146 (by repeat (first | exact q0 | exact sm_get_p1 | exact sm_get_p2e | refine sm_get_p1m (by decide) (by decide) ?_ | refine sm_get_p1n (by decide) rfl ?_ | refine sm_get_p2n (by decide) (by decide) rfl ?_ | refine sm_get_p2m (by decide) (by decide) (by decide) ?_)) ?_
  refine Bod.get dc_354_147 fr_354_485 (mk_61 _) rfl ?_
  refine Bod.ildG dc_354_150 (by repeat (first | exact q5 | exact sm_get_p1 | exact sm_get_p2e | refine sm_get_p1m (by decide) (by decide) ?_ | refine sm_get_p1n (by decide) rfl ?_ | refine sm_get_p2n (by decide) (by decide) rfl ?_ | refine sm_get_p2m (by decide) (by decide) (by decide) ?_)) ?_
  refine Bod.aaldR (N := 1500) (b := g) f rfl (by omega) (by omega) (by first | exact hq2 | (simp only [rIQ, rJQ, rAQ, rLQ, rVQ, rQ_holdE]; exact hq2)) dc_354_152 (mk_86 _) ht_5 ?_
  refine Bod.get dc_354_153 fr_354_472 (mk_thing ag (by first | exact hz1 | (simp only [rIS, rJS, rAS, rLS, rVS, rQS, rS_hold]; exact hz1))) rfl ?_
  refine Bod.eqI (nI fd11) (by first | assumption | rfl | exact congrArg nI (by omega) | (simp (disch := omega) only [rI, rIe, rA, rIA, rLA, rJA, rVI, rQI, rVA, rQA, upd_at,  rAI, rLI, rJI, nI_add, pk_sub, kc_0, kc_1, kc_2, kc_3, kc_4, kc_5, reduceIte, Nat.reduceEqDiff, Nat.add_zero, rI_hold, rI_hold, rL_hold, hfd11]; done)) ?_
  refine Bod.ist dc_354_156 (by rw [ml_354]; exact Nat.le_of_ble_eq_true rfl) ?_
  refine Bod.incN (ni + 1) (by rw [kc_1, nI_add]) dc_354_158 (by rw [ml_354]; exact Nat.le_of_ble_eq_true rfl) (by repeat (first | exact q6 | exact sm_get_p1 | exact sm_get_p2e | refine sm_get_p1m (by decide) (by decide) ?_ | refine sm_get_p1n (by decide) rfl ?_ | refine sm_get_p2n (by decide) (by decide) rfl ?_ | refine sm_get_p2m (by decide) (by decide) (by decide) ?_)) ?_
  refine Bod.go dc_354_161 rfl ?_
  exact hB _ (by repeat (first | exact q0 | exact sm_get_p1 | exact sm_get_p2e | refine sm_get_p1m (by decide) (by decide) ?_ | refine sm_get_p1n (by decide) rfl ?_ | refine sm_get_p2n (by decide) (by decide) rfl ?_ | refine sm_get_p2m (by decide) (by decide) (by decide) ?_)) (by repeat (first | exact q1 | exact sm_get_p1 | exact sm_get_p2e | refine sm_get_p1m (by decide) (by decide) ?_ | refine sm_get_p1n (by decide) rfl ?_ | refine sm_get_p2n (by decide) (by decide) rfl ?_ | refine sm_get_p2m (by decide) (by decide) (by decide) ?_)) (by repeat (first | exact q2 | exact sm_get_p1 | exact sm_get_p2e | refine sm_get_p1m (by decide) (by decide) ?_ | refine sm_get_p1n (by decide) rfl ?_ | refine sm_get_p2n (by decide) (by decide) rfl ?_ | refine sm_get_p2m (by decide) (by decide) (by decide) ?_)) (by repeat (first | exact q3 | exact sm_get_p1 | exact sm_get_p2e | refine sm_get_p1m (by decide) (by decide) ?_ | refine sm_get_p1n (by decide) rfl ?_ | refine sm_get_p2n (by decide) (by decide) rfl ?_ | refine sm_get_p2m (by decide) (by decide) (by decide) ?_)) (by repeat (first | exact q4 | exact sm_get_p1 | exact sm_get_p2e | refine sm_get_p1m (by decide) (by decide) ?_ | refine sm_get_p1n (by decide) rfl ?_ | refine sm_get_p2n (by decide) (by decide) rfl ?_ | refine sm_get_p2m (by decide) (by decide) (by decide) ?_)) (by repeat (first | exact q0 | exact sm_get_p1 | exact sm_get_p2e | refine sm_get_p1m (by decide) (by decide) ?_ | refine sm_get_p1n (by decide) rfl ?_ | refine sm_get_p2n (by decide) (by decide) rfl ?_ | refine sm_get_p2m (by decide) (by decide) (by decide) ?_)) (by repeat (first | exact q0 | exact sm_get_p1 | exact sm_get_p2e | refine sm_get_p1m (by decide) (by decide) ?_ | refine sm_get_p1n (by decide) rfl ?_ | refine sm_get_p2n (by decide) (by decide) rfl ?_ | refine sm_get_p2m (by decide) (by decide) (by decide) ?_))
theorem rNb_1 {d : Nat} {S : cS} {op : Nat} {nm : Nat} {S1 : cS} (mop : op < 2 ^ 20) (mnm : nm < 2 ^ 20) (b1 : op ≠ 5) (c1 : Ans (d + 8) 351 [.ref 61, .int (nI 1)] S (some (.int (nI 0))) S1) : Bod (d + 8) 355 0 [(0, .ref 61), (1, .int (nI op)), (2, .int (nI nm))] [] S (some (.int 0)) (S1) := by
  refine Bod.go dc_355_0 rfl ?_
  refine Bod.ic 5 (by decide) dc_355_1 ?_
  refine Bod.icT dc_355_2 rfl (k2_ne_T (k_ne op 5 rfl rfl (by omega) (by omega) (by omega))) ?_
  refine Bod.go dc_355_13 rfl ?_
  refine Bod.istn dc_355_14 (by rw [ml_355]; exact Nat.le_of_ble_eq_true rfl) ?_
  refine Bod.go dc_355_15 rfl ?_
  refine Bod.ifF dc_355_16 rfl (by decide) ?_
  refine Bod.go dc_355_19 rfl ?_
  refine Bod.ic 1 (by decide) dc_355_20 ?_
  refine Bod.virt (r := []) dc_355_21 kr_355_608 ⟨Or.inl rfl, ow_351, cl_14⟩ (by rw [np_351]; rfl) (by rw [np_351]; rfl) (ob_of (mk_61 _)) (Nat.le_of_ble_eq_true rfl) (c1  ) ?_
  show Bod _ _ _ _ [_] _ _ _
  exact Bod.retZ dc_355_24 rt_355 (Or.inl rfl)
theorem rNb_2 {d : Nat} {S : cS} {op : Nat} {nm : Nat} {S1 : cS} {a : Nat} {S2 : cS} (mop : op < 2 ^ 20) (mnm : nm < 2 ^ 20) (b1 : op = 5) (ma : a < 2 ^ 20) (c1 : Ans (d + 8) 356 [.ref 61, .int (nI nm)] S (some (.int (nI a))) S1) (c2 : Ans (d + 8) 352 [.ref 61, .int (nI 4), .long ((nI a).toInt64), .long 0] S1 none S2) : Bod (d + 8) 355 0 [(0, .ref 61), (1, .int (nI op)), (2, .int (nI nm))] [] S (some (.int 1)) (S2) := by
  refine Bod.go dc_355_0 rfl ?_
  refine Bod.ic 5 (by decide) dc_355_1 ?_
  refine Bod.icF dc_355_2 rfl (k2_ne_F (k_eq op 5 rfl rfl (by omega))) ?_
  refine Bod.go dc_355_5 rfl ?_
  refine Bod.go dc_355_6 rfl ?_
  refine Bod.virt (r := []) dc_355_7 kr_355_703 ⟨Or.inl rfl, ow_356, cl_14⟩ (by rw [np_356]; rfl) (by rw [np_356]; rfl) (ob_of (mk_61 _)) (Nat.le_of_ble_eq_true rfl) (c1  ) ?_
  show Bod _ _ _ _ [_] _ _ _
  refine Bod.go dc_355_10 rfl ?_
  refine Bod.istn dc_355_14 (by rw [ml_355]; exact Nat.le_of_ble_eq_true rfl) ?_
  refine Bod.go dc_355_15 rfl ?_
  refine Bod.ifT dc_355_16 rfl (k1_ge_T a rfl (by omega)) ?_
  refine Bod.go dc_355_25 rfl ?_
  refine Bod.ic 4 (by decide) dc_355_26 ?_
  refine Bod.go dc_355_27 rfl ?_
  refine Bod.go dc_355_28 rfl ?_
  refine Bod.go dc_355_29 rfl ?_
  refine Bod.virt (r := []) dc_355_30 kr_355_549 ⟨Or.inl rfl, ow_352, cl_14⟩ (by rw [np_352]; rfl) (by rw [np_352]; rfl) (ob_of (mk_61 _)) (Nat.le_of_ble_eq_true rfl) (c2  ) ?_
  show Bod _ _ _ _ [] _ _ _
  refine Bod.ic 1 (by decide) dc_355_33 ?_
  exact Bod.retZ dc_355_34 rt_355 (Or.inr rfl)
theorem rNb_3 {d : Nat} {S : cS} {op : Nat} {nm : Nat} {S1 : cS} {S2 : cS} (mop : op < 2 ^ 20) (mnm : nm < 2 ^ 20) (b1 : op = 5) (c1 : Ans (d + 8) 356 [.ref 61, .int (nI nm)] S (some (.int (Int32.ofInt (-1)))) S1) (c2 : Ans (d + 8) 351 [.ref 61, .int (nI 1)] S1 (some (.int (nI 0))) S2) : Bod (d + 8) 355 0 [(0, .ref 61), (1, .int (nI op)), (2, .int (nI nm))] [] S (some (.int 0)) (S2) := by
  refine Bod.go dc_355_0 rfl ?_
  refine Bod.ic 5 (by decide) dc_355_1 ?_
  refine Bod.icF dc_355_2 rfl (k2_ne_F (k_eq op 5 rfl rfl (by omega))) ?_
  refine Bod.go dc_355_5 rfl ?_
  refine Bod.go dc_355_6 rfl ?_
  refine Bod.virt (r := []) dc_355_7 kr_355_703 ⟨Or.inl rfl, ow_356, cl_14⟩ (by rw [np_356]; rfl) (by rw [np_356]; rfl) (ob_of (mk_61 _)) (Nat.le_of_ble_eq_true rfl) (c1  ) ?_
  show Bod _ _ _ _ [_] _ _ _
  refine Bod.go dc_355_10 rfl ?_
  refine Bod.istn dc_355_14 (by rw [ml_355]; exact Nat.le_of_ble_eq_true rfl) ?_
  refine Bod.go dc_355_15 rfl ?_
  refine Bod.ifF dc_355_16 rfl (by decide) ?_
  refine Bod.go dc_355_19 rfl ?_
  refine Bod.ic 1 (by decide) dc_355_20 ?_
  refine Bod.virt (r := []) dc_355_21 kr_355_608 ⟨Or.inl rfl, ow_351, cl_14⟩ (by rw [np_351]; rfl) (by rw [np_351]; rfl) (ob_of (mk_61 _)) (Nat.le_of_ble_eq_true rfl) (c2  ) ?_
  show Bod _ _ _ _ [_] _ _ _
  exact Bod.retZ dc_355_24 rt_355 (Or.inl rfl)
theorem xsw_359_6 : ∀ b, b < 64 → (b = 0 ∨ b = 1 ∨ b = 2 ∨ sm_br (.tableswitch (63) 0 2 #[26, 28, 45]) 26 6 [.int (nI b)] = some (69, [])) := by decide +kernel
theorem rTu_1 {d : Nat} {S : cS} {k : Nat} {e91 : Nat} (mk : k < 2 ^ 20) (b1 : k < 20480) (he91 : sA S 91 k = nI e91) (me91 : e91 < 2 ^ 20) (sw5 : e91 = 0) : Bod (d + 8) 359 0 [(0, .ref 61), (1, .int (nI k))] [] S (some (.int 0)) (S) := by
  refine Bod.go dc_359_0 rfl ?_
  refine Bod.get dc_359_1 fr_359_496 (mk_61 _) rfl ?_
  refine Bod.go dc_359_4 rfl ?_
  refine Bod.ialdN k rfl (by omega) (by omega) dc_359_5 (mk_91 _) ?_
  refine Bod.eqI (nI e91) (by first | assumption | rfl | exact congrArg nI (by omega) | (simp (disch := omega) only [rI, rIe, rA, rIA, rLA, rJA, rVI, rQI, rVA, rQA, upd_at,  rAI, rLI, rJI, nI_add, pk_sub, kc_0, kc_1, kc_2, kc_3, kc_4, kc_5, reduceIte, Nat.reduceEqDiff, Nat.add_zero, rI_hold, rI_hold, rL_hold, he91]; done)) ?_
  refine Bod.sw (t := 32) dc_359_6 rfl rfl (by rw [sw5]; decide +kernel) ?_
  refine Bod.ic 0 (by decide) dc_359_32 ?_
  exact Bod.retZ dc_359_33 rt_359 (Or.inl rfl)
theorem rTu_2 {d : Nat} {S : cS} {k : Nat} {e91 : Nat} (mk : k < 2 ^ 20) (b1 : k < 20480) (he91 : sA S 91 k = nI e91) (me91 : e91 < 2 ^ 20) (sw5 : e91 = 1) (w6 : sm_c1 .eq (lg_cmp (sL S 92 k) 0) true false = true) : Bod (d + 8) 359 0 [(0, .ref 61), (1, .int (nI k))] [] S (some (.int 0)) (S) := by
  refine Bod.go dc_359_0 rfl ?_
  refine Bod.get dc_359_1 fr_359_496 (mk_61 _) rfl ?_
  refine Bod.go dc_359_4 rfl ?_
  refine Bod.ialdN k rfl (by omega) (by omega) dc_359_5 (mk_91 _) ?_
  refine Bod.eqI (nI e91) (by first | assumption | rfl | exact congrArg nI (by omega) | (simp (disch := omega) only [rI, rIe, rA, rIA, rLA, rJA, rVI, rQI, rVA, rQA, upd_at,  rAI, rLI, rJI, nI_add, pk_sub, kc_0, kc_1, kc_2, kc_3, kc_4, kc_5, reduceIte, Nat.reduceEqDiff, Nat.add_zero, rI_hold, rI_hold, rL_hold, he91]; done)) ?_
  refine Bod.sw (t := 34) dc_359_6 rfl rfl (by rw [sw5]; decide +kernel) ?_
  refine Bod.go dc_359_34 rfl ?_
  refine Bod.get dc_359_35 fr_359_499 (mk_61 _) rfl ?_
  refine Bod.go dc_359_38 rfl ?_
  refine Bod.laldN k rfl (by omega) (by omega) dc_359_39 (mk_92 _) ?_
  refine Bod.go dc_359_40 rfl ?_
  refine Bod.go dc_359_41 rfl ?_
  refine Bod.ifT dc_359_42 rfl w6 ?_
  refine Bod.ic 0 (by decide) dc_359_49 ?_
  exact Bod.retZ dc_359_50 rt_359 (Or.inl rfl)
theorem rTu_3 {d : Nat} {S : cS} {k : Nat} {e91 : Nat} (mk : k < 2 ^ 20) (b1 : k < 20480) (he91 : sA S 91 k = nI e91) (me91 : e91 < 2 ^ 20) (sw5 : e91 = 1) (w6 : sm_c1 .eq (lg_cmp (sL S 92 k) 0) true false = false) : Bod (d + 8) 359 0 [(0, .ref 61), (1, .int (nI k))] [] S (some (.int 1)) (S) := by
  refine Bod.go dc_359_0 rfl ?_
  refine Bod.get dc_359_1 fr_359_496 (mk_61 _) rfl ?_
  refine Bod.go dc_359_4 rfl ?_
  refine Bod.ialdN k rfl (by omega) (by omega) dc_359_5 (mk_91 _) ?_
  refine Bod.eqI (nI e91) (by first | assumption | rfl | exact congrArg nI (by omega) | (simp (disch := omega) only [rI, rIe, rA, rIA, rLA, rJA, rVI, rQI, rVA, rQA, upd_at,  rAI, rLI, rJI, nI_add, pk_sub, kc_0, kc_1, kc_2, kc_3, kc_4, kc_5, reduceIte, Nat.reduceEqDiff, Nat.add_zero, rI_hold, rI_hold, rL_hold, he91]; done)) ?_
  refine Bod.sw (t := 34) dc_359_6 rfl rfl (by rw [sw5]; decide +kernel) ?_
  refine Bod.go dc_359_34 rfl ?_
  refine Bod.get dc_359_35 fr_359_499 (mk_61 _) rfl ?_
  refine Bod.go dc_359_38 rfl ?_
  refine Bod.laldN k rfl (by omega) (by omega) dc_359_39 (mk_92 _) ?_
  refine Bod.go dc_359_40 rfl ?_
  refine Bod.go dc_359_41 rfl ?_
  refine Bod.ifF dc_359_42 rfl w6 ?_
  refine Bod.ic 1 (by decide) dc_359_45 ?_
  refine Bod.go dc_359_46 rfl ?_
  exact Bod.retZ dc_359_50 rt_359 (Or.inr rfl)
theorem rTu_4 {d : Nat} {S : cS} {k : Nat} {e91 : Nat} {S1 : cS} {a : Nat} (mk : k < 2 ^ 20) (b1 : k < 20480) (he91 : sA S 91 k = nI e91) (me91 : e91 < 2 ^ 20) (sw5 : e91 = 2) (ma : a < 2 ^ 20) (c1 : Ans (d + 8) 360 [.long (sL S 93 k)] S (some (.int (nI a))) S1) (b2 : a ≤ 0) : Bod (d + 8) 359 0 [(0, .ref 61), (1, .int (nI k))] [] S (some (.int 0)) (S1) := by
  refine Bod.go dc_359_0 rfl ?_
  refine Bod.get dc_359_1 fr_359_496 (mk_61 _) rfl ?_
  refine Bod.go dc_359_4 rfl ?_
  refine Bod.ialdN k rfl (by omega) (by omega) dc_359_5 (mk_91 _) ?_
  refine Bod.eqI (nI e91) (by first | assumption | rfl | exact congrArg nI (by omega) | (simp (disch := omega) only [rI, rIe, rA, rIA, rLA, rJA, rVI, rQI, rVA, rQA, upd_at,  rAI, rLI, rJI, nI_add, pk_sub, kc_0, kc_1, kc_2, kc_3, kc_4, kc_5, reduceIte, Nat.reduceEqDiff, Nat.add_zero, rI_hold, rI_hold, rL_hold, he91]; done)) ?_
  refine Bod.sw (t := 51) dc_359_6 rfl rfl (by rw [sw5]; decide +kernel) ?_
  refine Bod.go dc_359_51 rfl ?_
  refine Bod.get dc_359_52 fr_359_546 (mk_61 _) rfl ?_
  refine Bod.go dc_359_55 rfl ?_
  refine Bod.laldN k rfl (by omega) (by omega) dc_359_56 (mk_93 _) ?_
  refine Bod.stat (r := []) dc_359_57 kr_359_552 (Or.inl rfl) (by rw [np_360]; rfl) (by rw [np_360]; rfl) (by rw [np_360]; exact Nat.le_of_ble_eq_true rfl) (Nat.le_of_ble_eq_true rfl) (c1  ) ?_
  show Bod _ _ _ _ [_] _ _ _
  refine Bod.ifT dc_359_60 rfl (k1_le_T (k_eq a 0 (by first | assumption | (simp (disch := omega) only [rI, rIe, rA, rIA, rLA, rJA, rVI, rQI, rVA, rQA, upd_at,  rAI, rLI, rJI, nI_add, pk_sub, kc_0, kc_1, kc_2, kc_3, kc_4, kc_5, reduceIte, Nat.reduceEqDiff, Nat.add_zero, rI_hold, rI_hold, rL_hold, he91]; done) | (simp (disch := omega) only [rI, rIe, rA, rIA, rLA, rJA, rVI, rQI, rVA, rQA, upd_at,  rAI, rLI, rJI, nI_add, pk_sub, kc_0, kc_1, kc_2, kc_3, kc_4, kc_5, reduceIte, Nat.reduceEqDiff, Nat.add_zero, rI_hold, rI_hold, rL_hold, he91]; exact congrArg nI (by omega))) rfl (by omega))) ?_
  refine Bod.ic 0 (by decide) dc_359_67 ?_
  exact Bod.retZ dc_359_68 rt_359 (Or.inl rfl)
theorem rTu_5 {d : Nat} {S : cS} {k : Nat} {e91 : Nat} {S1 : cS} {a : Nat} (mk : k < 2 ^ 20) (b1 : k < 20480) (he91 : sA S 91 k = nI e91) (me91 : e91 < 2 ^ 20) (sw5 : e91 = 2) (ma : a < 2 ^ 20) (c1 : Ans (d + 8) 360 [.long (sL S 93 k)] S (some (.int (nI a))) S1) (b2 : 0 < a) : Bod (d + 8) 359 0 [(0, .ref 61), (1, .int (nI k))] [] S (some (.int 1)) (S1) := by
  refine Bod.go dc_359_0 rfl ?_
  refine Bod.get dc_359_1 fr_359_496 (mk_61 _) rfl ?_
  refine Bod.go dc_359_4 rfl ?_
  refine Bod.ialdN k rfl (by omega) (by omega) dc_359_5 (mk_91 _) ?_
  refine Bod.eqI (nI e91) (by first | assumption | rfl | exact congrArg nI (by omega) | (simp (disch := omega) only [rI, rIe, rA, rIA, rLA, rJA, rVI, rQI, rVA, rQA, upd_at,  rAI, rLI, rJI, nI_add, pk_sub, kc_0, kc_1, kc_2, kc_3, kc_4, kc_5, reduceIte, Nat.reduceEqDiff, Nat.add_zero, rI_hold, rI_hold, rL_hold, he91]; done)) ?_
  refine Bod.sw (t := 51) dc_359_6 rfl rfl (by rw [sw5]; decide +kernel) ?_
  refine Bod.go dc_359_51 rfl ?_
  refine Bod.get dc_359_52 fr_359_546 (mk_61 _) rfl ?_
  refine Bod.go dc_359_55 rfl ?_
  refine Bod.laldN k rfl (by omega) (by omega) dc_359_56 (mk_93 _) ?_
  refine Bod.stat (r := []) dc_359_57 kr_359_552 (Or.inl rfl) (by rw [np_360]; rfl) (by rw [np_360]; rfl) (by rw [np_360]; exact Nat.le_of_ble_eq_true rfl) (Nat.le_of_ble_eq_true rfl) (c1  ) ?_
  show Bod _ _ _ _ [_] _ _ _
  refine Bod.ifF dc_359_60 rfl (k1_le_F a rfl (by omega) (by omega)) ?_
  refine Bod.ic 1 (by decide) dc_359_63 ?_
  refine Bod.go dc_359_64 rfl ?_
  exact Bod.retZ dc_359_68 rt_359 (Or.inr rfl)
theorem rTu_6 {d : Nat} {S : cS} {k : Nat} {e91 : Nat} {S1 : cS} {g : Nat} {zg : Nat} {fd0 : Nat} {fd1 : Nat} (mk : k < 2 ^ 20) (b1 : k < 20480) (he91 : sA S 91 k = nI e91) (me91 : e91 < 2 ^ 20) (b64 : e91 < 64) (n0 : e91 ≠ 0) (n1 : e91 ≠ 1) (n2 : e91 ≠ 2) (ag : 108 ≤ g) (c1 : Ans (d + 8) 361 [.ref 61, .int (nI k)] S (some (.ref g)) S1) (hz1 : (sS S1)[g - 108]? = some (13, zg)) (hfd0 : sI S1 (100 * g + 0) = nI fd0) (mfd0 : fd0 < 2 ^ 20) (b2 : fd0 = 1) (hfd1 : sI S1 (100 * g + 1) = nI fd1) (mfd1 : fd1 < 2 ^ 20) (b3 : fd1 ≤ 0) : Bod (d + 8) 359 0 [(0, .ref 61), (1, .int (nI k))] [] S (some (.int 0)) (S1) := by
  refine Bod.go dc_359_0 rfl ?_
  refine Bod.get dc_359_1 fr_359_496 (mk_61 _) rfl ?_
  refine Bod.go dc_359_4 rfl ?_
  refine Bod.ialdN k rfl (by omega) (by omega) dc_359_5 (mk_91 _) ?_
  refine Bod.eqI (nI e91) (by first | assumption | rfl | exact congrArg nI (by omega) | (simp (disch := omega) only [rI, rIe, rA, rIA, rLA, rJA, rVI, rQI, rVA, rQA, upd_at,  rAI, rLI, rJI, nI_add, pk_sub, kc_0, kc_1, kc_2, kc_3, kc_4, kc_5, reduceIte, Nat.reduceEqDiff, Nat.add_zero, rI_hold, rI_hold, rL_hold, he91]; done)) ?_
  refine Bod.sw (t := 69) dc_359_6 rfl rfl (((((xsw_359_6 e91 b64).resolve_left n0).resolve_left n1).resolve_left n2)) ?_
  refine Bod.go dc_359_69 rfl ?_
  refine Bod.go dc_359_70 rfl ?_
  refine Bod.virt (r := []) dc_359_71 kr_359_554 ⟨Or.inl rfl, ow_361, cl_14⟩ (by rw [np_361]; rfl) (by rw [np_361]; rfl) (ob_of (mk_61 _)) (Nat.le_of_ble_eq_true rfl) (c1  ) ?_
  show Bod _ _ _ _ [_] _ _ _
  refine Bod.astn dc_359_74 (by rw [ml_359]; exact Nat.le_of_ble_eq_true rfl) ?_
  refine Bod.go dc_359_75 rfl ?_
  refine Bod.go dc_359_76 rfl ?_
  refine Bod.go dc_359_79 rfl ?_
  refine Bod.get dc_359_80 fr_359_531 (mk_thing ag (by first | exact hz1 | (simp only [rIS, rJS, rAS, rLS, rVS, rQS, rS_hold]; exact hz1))) rfl ?_
  refine Bod.eqI (nI fd0) (by first | assumption | (simp (disch := omega) only [rI, rIe, rA, rIA, rLA, rJA, rVI, rQI, rVA, rQA, upd_at,  rAI, rLI, rJI, nI_add, pk_sub, kc_0, kc_1, kc_2, kc_3, kc_4, kc_5, reduceIte, Nat.reduceEqDiff, Nat.add_zero, rI_hold, rI_hold, rL_hold, he91, hfd0]; done) | (simp (disch := omega) only [rI, rIe, rA, rIA, rLA, rJA, rVI, rQI, rVA, rQA, upd_at,  rAI, rLI, rJI, nI_add, pk_sub, kc_0, kc_1, kc_2, kc_3, kc_4, kc_5, reduceIte, Nat.reduceEqDiff, Nat.add_zero, rI_hold, rI_hold, rL_hold, he91, hfd0]; exact congrArg nI (by omega))) ?_
  refine Bod.ic 1 (by decide) dc_359_83 ?_
  refine Bod.icT dc_359_84 rfl (k2_eq_T (k_eq fd0 1 rfl rfl (by omega))) ?_
  refine Bod.go dc_359_95 rfl ?_
  refine Bod.get dc_359_96 fr_359_459 (mk_thing ag (by first | exact hz1 | (simp only [rIS, rJS, rAS, rLS, rVS, rQS, rS_hold]; exact hz1))) rfl ?_
  refine Bod.eqI (nI fd1) (by first | assumption | (simp (disch := omega) only [rI, rIe, rA, rIA, rLA, rJA, rVI, rQI, rVA, rQA, upd_at,  rAI, rLI, rJI, nI_add, pk_sub, kc_0, kc_1, kc_2, kc_3, kc_4, kc_5, reduceIte, Nat.reduceEqDiff, Nat.add_zero, rI_hold, rI_hold, rL_hold, he91, hfd0, hfd1]; done) | (simp (disch := omega) only [rI, rIe, rA, rIA, rLA, rJA, rVI, rQI, rVA, rQA, upd_at,  rAI, rLI, rJI, nI_add, pk_sub, kc_0, kc_1, kc_2, kc_3, kc_4, kc_5, reduceIte, Nat.reduceEqDiff, Nat.add_zero, rI_hold, rI_hold, rL_hold, he91, hfd0, hfd1]; exact congrArg nI (by omega))) ?_
  refine Bod.ifT dc_359_99 rfl (k1_le_T (k_eq fd1 0 (by first | assumption | (simp (disch := omega) only [rI, rIe, rA, rIA, rLA, rJA, rVI, rQI, rVA, rQA, upd_at,  rAI, rLI, rJI, nI_add, pk_sub, kc_0, kc_1, kc_2, kc_3, kc_4, kc_5, reduceIte, Nat.reduceEqDiff, Nat.add_zero, rI_hold, rI_hold, rL_hold, he91, hfd0, hfd1]; done) | (simp (disch := omega) only [rI, rIe, rA, rIA, rLA, rJA, rVI, rQI, rVA, rQA, upd_at,  rAI, rLI, rJI, nI_add, pk_sub, kc_0, kc_1, kc_2, kc_3, kc_4, kc_5, reduceIte, Nat.reduceEqDiff, Nat.add_zero, rI_hold, rI_hold, rL_hold, he91, hfd0, hfd1]; exact congrArg nI (by omega))) rfl (by omega))) ?_
  refine Bod.ic 0 (by decide) dc_359_106 ?_
  exact Bod.retZ dc_359_107 rt_359 (Or.inl rfl)
theorem rTu_7 {d : Nat} {S : cS} {k : Nat} {e91 : Nat} {S1 : cS} {g : Nat} {zg : Nat} {fd0 : Nat} {fd1 : Nat} (mk : k < 2 ^ 20) (b1 : k < 20480) (he91 : sA S 91 k = nI e91) (me91 : e91 < 2 ^ 20) (b64 : e91 < 64) (n0 : e91 ≠ 0) (n1 : e91 ≠ 1) (n2 : e91 ≠ 2) (ag : 108 ≤ g) (c1 : Ans (d + 8) 361 [.ref 61, .int (nI k)] S (some (.ref g)) S1) (hz1 : (sS S1)[g - 108]? = some (13, zg)) (hfd0 : sI S1 (100 * g + 0) = nI fd0) (mfd0 : fd0 < 2 ^ 20) (b2 : fd0 = 1) (hfd1 : sI S1 (100 * g + 1) = nI fd1) (mfd1 : fd1 < 2 ^ 20) (b3 : 0 < fd1) : Bod (d + 8) 359 0 [(0, .ref 61), (1, .int (nI k))] [] S (some (.int 1)) (S1) := by
  refine Bod.go dc_359_0 rfl ?_
  refine Bod.get dc_359_1 fr_359_496 (mk_61 _) rfl ?_
  refine Bod.go dc_359_4 rfl ?_
  refine Bod.ialdN k rfl (by omega) (by omega) dc_359_5 (mk_91 _) ?_
  refine Bod.eqI (nI e91) (by first | assumption | rfl | exact congrArg nI (by omega) | (simp (disch := omega) only [rI, rIe, rA, rIA, rLA, rJA, rVI, rQI, rVA, rQA, upd_at,  rAI, rLI, rJI, nI_add, pk_sub, kc_0, kc_1, kc_2, kc_3, kc_4, kc_5, reduceIte, Nat.reduceEqDiff, Nat.add_zero, rI_hold, rI_hold, rL_hold, he91]; done)) ?_
  refine Bod.sw (t := 69) dc_359_6 rfl rfl (((((xsw_359_6 e91 b64).resolve_left n0).resolve_left n1).resolve_left n2)) ?_
  refine Bod.go dc_359_69 rfl ?_
  refine Bod.go dc_359_70 rfl ?_
  refine Bod.virt (r := []) dc_359_71 kr_359_554 ⟨Or.inl rfl, ow_361, cl_14⟩ (by rw [np_361]; rfl) (by rw [np_361]; rfl) (ob_of (mk_61 _)) (Nat.le_of_ble_eq_true rfl) (c1  ) ?_
  show Bod _ _ _ _ [_] _ _ _
  refine Bod.astn dc_359_74 (by rw [ml_359]; exact Nat.le_of_ble_eq_true rfl) ?_
  refine Bod.go dc_359_75 rfl ?_
  refine Bod.go dc_359_76 rfl ?_
  refine Bod.go dc_359_79 rfl ?_
  refine Bod.get dc_359_80 fr_359_531 (mk_thing ag (by first | exact hz1 | (simp only [rIS, rJS, rAS, rLS, rVS, rQS, rS_hold]; exact hz1))) rfl ?_
  refine Bod.eqI (nI fd0) (by first | assumption | (simp (disch := omega) only [rI, rIe, rA, rIA, rLA, rJA, rVI, rQI, rVA, rQA, upd_at,  rAI, rLI, rJI, nI_add, pk_sub, kc_0, kc_1, kc_2, kc_3, kc_4, kc_5, reduceIte, Nat.reduceEqDiff, Nat.add_zero, rI_hold, rI_hold, rL_hold, he91, hfd0]; done) | (simp (disch := omega) only [rI, rIe, rA, rIA, rLA, rJA, rVI, rQI, rVA, rQA, upd_at,  rAI, rLI, rJI, nI_add, pk_sub, kc_0, kc_1, kc_2, kc_3, kc_4, kc_5, reduceIte, Nat.reduceEqDiff, Nat.add_zero, rI_hold, rI_hold, rL_hold, he91, hfd0]; exact congrArg nI (by omega))) ?_
  refine Bod.ic 1 (by decide) dc_359_83 ?_
  refine Bod.icT dc_359_84 rfl (k2_eq_T (k_eq fd0 1 rfl rfl (by omega))) ?_
  refine Bod.go dc_359_95 rfl ?_
  refine Bod.get dc_359_96 fr_359_459 (mk_thing ag (by first | exact hz1 | (simp only [rIS, rJS, rAS, rLS, rVS, rQS, rS_hold]; exact hz1))) rfl ?_
  refine Bod.eqI (nI fd1) (by first | assumption | (simp (disch := omega) only [rI, rIe, rA, rIA, rLA, rJA, rVI, rQI, rVA, rQA, upd_at,  rAI, rLI, rJI, nI_add, pk_sub, kc_0, kc_1, kc_2, kc_3, kc_4, kc_5, reduceIte, Nat.reduceEqDiff, Nat.add_zero, rI_hold, rI_hold, rL_hold, he91, hfd0, hfd1]; done) | (simp (disch := omega) only [rI, rIe, rA, rIA, rLA, rJA, rVI, rQI, rVA, rQA, upd_at,  rAI, rLI, rJI, nI_add, pk_sub, kc_0, kc_1, kc_2, kc_3, kc_4, kc_5, reduceIte, Nat.reduceEqDiff, Nat.add_zero, rI_hold, rI_hold, rL_hold, he91, hfd0, hfd1]; exact congrArg nI (by omega))) ?_
  refine Bod.ifF dc_359_99 rfl (k1_le_F fd1 rfl (by omega) (by omega)) ?_
  refine Bod.ic 1 (by decide) dc_359_102 ?_
  refine Bod.go dc_359_103 rfl ?_
  exact Bod.retZ dc_359_107 rt_359 (Or.inr rfl)
theorem rTu_8 {d : Nat} {S : cS} {k : Nat} {e91 : Nat} {S1 : cS} {g : Nat} {zg : Nat} {fd0 : Nat} (mk : k < 2 ^ 20) (b1 : k < 20480) (he91 : sA S 91 k = nI e91) (me91 : e91 < 2 ^ 20) (b64 : e91 < 64) (n0 : e91 ≠ 0) (n1 : e91 ≠ 1) (n2 : e91 ≠ 2) (ag : 108 ≤ g) (c1 : Ans (d + 8) 361 [.ref 61, .int (nI k)] S (some (.ref g)) S1) (hz1 : (sS S1)[g - 108]? = some (13, zg)) (hfd0 : sI S1 (100 * g + 0) = nI fd0) (mfd0 : fd0 < 2 ^ 20) (b2 : fd0 ≠ 1) (b3 : fd0 ≠ 2) : Bod (d + 8) 359 0 [(0, .ref 61), (1, .int (nI k))] [] S (some (.int 1)) (S1) := by
  refine Bod.go dc_359_0 rfl ?_
  refine Bod.get dc_359_1 fr_359_496 (mk_61 _) rfl ?_
  refine Bod.go dc_359_4 rfl ?_
  refine Bod.ialdN k rfl (by omega) (by omega) dc_359_5 (mk_91 _) ?_
  refine Bod.eqI (nI e91) (by first | assumption | rfl | exact congrArg nI (by omega) | (simp (disch := omega) only [rI, rIe, rA, rIA, rLA, rJA, rVI, rQI, rVA, rQA, upd_at,  rAI, rLI, rJI, nI_add, pk_sub, kc_0, kc_1, kc_2, kc_3, kc_4, kc_5, reduceIte, Nat.reduceEqDiff, Nat.add_zero, rI_hold, rI_hold, rL_hold, he91]; done)) ?_
  refine Bod.sw (t := 69) dc_359_6 rfl rfl (((((xsw_359_6 e91 b64).resolve_left n0).resolve_left n1).resolve_left n2)) ?_
  refine Bod.go dc_359_69 rfl ?_
  refine Bod.go dc_359_70 rfl ?_
  refine Bod.virt (r := []) dc_359_71 kr_359_554 ⟨Or.inl rfl, ow_361, cl_14⟩ (by rw [np_361]; rfl) (by rw [np_361]; rfl) (ob_of (mk_61 _)) (Nat.le_of_ble_eq_true rfl) (c1  ) ?_
  show Bod _ _ _ _ [_] _ _ _
  refine Bod.astn dc_359_74 (by rw [ml_359]; exact Nat.le_of_ble_eq_true rfl) ?_
  refine Bod.go dc_359_75 rfl ?_
  refine Bod.go dc_359_76 rfl ?_
  refine Bod.go dc_359_79 rfl ?_
  refine Bod.get dc_359_80 fr_359_531 (mk_thing ag (by first | exact hz1 | (simp only [rIS, rJS, rAS, rLS, rVS, rQS, rS_hold]; exact hz1))) rfl ?_
  refine Bod.eqI (nI fd0) (by first | assumption | (simp (disch := omega) only [rI, rIe, rA, rIA, rLA, rJA, rVI, rQI, rVA, rQA, upd_at,  rAI, rLI, rJI, nI_add, pk_sub, kc_0, kc_1, kc_2, kc_3, kc_4, kc_5, reduceIte, Nat.reduceEqDiff, Nat.add_zero, rI_hold, rI_hold, rL_hold, he91, hfd0]; done) | (simp (disch := omega) only [rI, rIe, rA, rIA, rLA, rJA, rVI, rQI, rVA, rQA, upd_at,  rAI, rLI, rJI, nI_add, pk_sub, kc_0, kc_1, kc_2, kc_3, kc_4, kc_5, reduceIte, Nat.reduceEqDiff, Nat.add_zero, rI_hold, rI_hold, rL_hold, he91, hfd0]; exact congrArg nI (by omega))) ?_
  refine Bod.ic 1 (by decide) dc_359_83 ?_
  refine Bod.icF dc_359_84 rfl (k2_eq_F (k_ne fd0 1 rfl rfl (by omega) (by omega) (by omega))) ?_
  refine Bod.go dc_359_87 rfl ?_
  refine Bod.get dc_359_88 fr_359_531 (mk_thing ag (by first | exact hz1 | (simp only [rIS, rJS, rAS, rLS, rVS, rQS, rS_hold]; exact hz1))) rfl ?_
  refine Bod.eqI (nI fd0) (by first | assumption | (simp (disch := omega) only [rI, rIe, rA, rIA, rLA, rJA, rVI, rQI, rVA, rQA, upd_at,  rAI, rLI, rJI, nI_add, pk_sub, kc_0, kc_1, kc_2, kc_3, kc_4, kc_5, reduceIte, Nat.reduceEqDiff, Nat.add_zero, rI_hold, rI_hold, rL_hold, he91, hfd0]; done) | (simp (disch := omega) only [rI, rIe, rA, rIA, rLA, rJA, rVI, rQI, rVA, rQA, upd_at,  rAI, rLI, rJI, nI_add, pk_sub, kc_0, kc_1, kc_2, kc_3, kc_4, kc_5, reduceIte, Nat.reduceEqDiff, Nat.add_zero, rI_hold, rI_hold, rL_hold, he91, hfd0]; exact congrArg nI (by omega))) ?_
  refine Bod.ic 2 (by decide) dc_359_91 ?_
  refine Bod.icT dc_359_92 rfl (k2_ne_T (k_ne fd0 2 rfl rfl (by omega) (by omega) (by omega))) ?_
  refine Bod.ic 1 (by decide) dc_359_102 ?_
  refine Bod.go dc_359_103 rfl ?_
  exact Bod.retZ dc_359_107 rt_359 (Or.inr rfl)
theorem rTu_9 {d : Nat} {S : cS} {k : Nat} {e91 : Nat} {S1 : cS} {g : Nat} {zg : Nat} {fd0 : Nat} {fd1 : Nat} (mk : k < 2 ^ 20) (b1 : k < 20480) (he91 : sA S 91 k = nI e91) (me91 : e91 < 2 ^ 20) (b64 : e91 < 64) (n0 : e91 ≠ 0) (n1 : e91 ≠ 1) (n2 : e91 ≠ 2) (ag : 108 ≤ g) (c1 : Ans (d + 8) 361 [.ref 61, .int (nI k)] S (some (.ref g)) S1) (hz1 : (sS S1)[g - 108]? = some (13, zg)) (hfd0 : sI S1 (100 * g + 0) = nI fd0) (mfd0 : fd0 < 2 ^ 20) (b2 : fd0 ≠ 1) (b3 : fd0 = 2) (hfd1 : sI S1 (100 * g + 1) = nI fd1) (mfd1 : fd1 < 2 ^ 20) (b4 : fd1 ≤ 0) : Bod (d + 8) 359 0 [(0, .ref 61), (1, .int (nI k))] [] S (some (.int 0)) (S1) := by
  refine Bod.go dc_359_0 rfl ?_
  refine Bod.get dc_359_1 fr_359_496 (mk_61 _) rfl ?_
  refine Bod.go dc_359_4 rfl ?_
  refine Bod.ialdN k rfl (by omega) (by omega) dc_359_5 (mk_91 _) ?_
  refine Bod.eqI (nI e91) (by first | assumption | rfl | exact congrArg nI (by omega) | (simp (disch := omega) only [rI, rIe, rA, rIA, rLA, rJA, rVI, rQI, rVA, rQA, upd_at,  rAI, rLI, rJI, nI_add, pk_sub, kc_0, kc_1, kc_2, kc_3, kc_4, kc_5, reduceIte, Nat.reduceEqDiff, Nat.add_zero, rI_hold, rI_hold, rL_hold, he91]; done)) ?_
  refine Bod.sw (t := 69) dc_359_6 rfl rfl (((((xsw_359_6 e91 b64).resolve_left n0).resolve_left n1).resolve_left n2)) ?_
  refine Bod.go dc_359_69 rfl ?_
  refine Bod.go dc_359_70 rfl ?_
  refine Bod.virt (r := []) dc_359_71 kr_359_554 ⟨Or.inl rfl, ow_361, cl_14⟩ (by rw [np_361]; rfl) (by rw [np_361]; rfl) (ob_of (mk_61 _)) (Nat.le_of_ble_eq_true rfl) (c1  ) ?_
  show Bod _ _ _ _ [_] _ _ _
  refine Bod.astn dc_359_74 (by rw [ml_359]; exact Nat.le_of_ble_eq_true rfl) ?_
  refine Bod.go dc_359_75 rfl ?_
  refine Bod.go dc_359_76 rfl ?_
  refine Bod.go dc_359_79 rfl ?_
  refine Bod.get dc_359_80 fr_359_531 (mk_thing ag (by first | exact hz1 | (simp only [rIS, rJS, rAS, rLS, rVS, rQS, rS_hold]; exact hz1))) rfl ?_
  refine Bod.eqI (nI fd0) (by first | assumption | (simp (disch := omega) only [rI, rIe, rA, rIA, rLA, rJA, rVI, rQI, rVA, rQA, upd_at,  rAI, rLI, rJI, nI_add, pk_sub, kc_0, kc_1, kc_2, kc_3, kc_4, kc_5, reduceIte, Nat.reduceEqDiff, Nat.add_zero, rI_hold, rI_hold, rL_hold, he91, hfd0]; done) | (simp (disch := omega) only [rI, rIe, rA, rIA, rLA, rJA, rVI, rQI, rVA, rQA, upd_at,  rAI, rLI, rJI, nI_add, pk_sub, kc_0, kc_1, kc_2, kc_3, kc_4, kc_5, reduceIte, Nat.reduceEqDiff, Nat.add_zero, rI_hold, rI_hold, rL_hold, he91, hfd0]; exact congrArg nI (by omega))) ?_
  refine Bod.ic 1 (by decide) dc_359_83 ?_
  refine Bod.icF dc_359_84 rfl (k2_eq_F (k_ne fd0 1 rfl rfl (by omega) (by omega) (by omega))) ?_
  refine Bod.go dc_359_87 rfl ?_
  refine Bod.get dc_359_88 fr_359_531 (mk_thing ag (by first | exact hz1 | (simp only [rIS, rJS, rAS, rLS, rVS, rQS, rS_hold]; exact hz1))) rfl ?_
  refine Bod.eqI (nI fd0) (by first | assumption | (simp (disch := omega) only [rI, rIe, rA, rIA, rLA, rJA, rVI, rQI, rVA, rQA, upd_at,  rAI, rLI, rJI, nI_add, pk_sub, kc_0, kc_1, kc_2, kc_3, kc_4, kc_5, reduceIte, Nat.reduceEqDiff, Nat.add_zero, rI_hold, rI_hold, rL_hold, he91, hfd0]; done) | (simp (disch := omega) only [rI, rIe, rA, rIA, rLA, rJA, rVI, rQI, rVA, rQA, upd_at,  rAI, rLI, rJI, nI_add, pk_sub, kc_0, kc_1, kc_2, kc_3, kc_4, kc_5, reduceIte, Nat.reduceEqDiff, Nat.add_zero, rI_hold, rI_hold, rL_hold, he91, hfd0]; exact congrArg nI (by omega))) ?_
  refine Bod.ic 2 (by decide) dc_359_91 ?_
  refine Bod.icF dc_359_92 rfl (k2_ne_F (k_eq fd0 2 rfl rfl (by omega))) ?_
  refine Bod.go dc_359_95 rfl ?_
  refine Bod.get dc_359_96 fr_359_459 (mk_thing ag (by first | exact hz1 | (simp only [rIS, rJS, rAS, rLS, rVS, rQS, rS_hold]; exact hz1))) rfl ?_
  refine Bod.eqI (nI fd1) (by first | assumption | (simp (disch := omega) only [rI, rIe, rA, rIA, rLA, rJA, rVI, rQI, rVA, rQA, upd_at,  rAI, rLI, rJI, nI_add, pk_sub, kc_0, kc_1, kc_2, kc_3, kc_4, kc_5, reduceIte, Nat.reduceEqDiff, Nat.add_zero, rI_hold, rI_hold, rL_hold, he91, hfd0, hfd1]; done) | (simp (disch := omega) only [rI, rIe, rA, rIA, rLA, rJA, rVI, rQI, rVA, rQA, upd_at,  rAI, rLI, rJI, nI_add, pk_sub, kc_0, kc_1, kc_2, kc_3, kc_4, kc_5, reduceIte, Nat.reduceEqDiff, Nat.add_zero, rI_hold, rI_hold, rL_hold, he91, hfd0, hfd1]; exact congrArg nI (by omega))) ?_
  refine Bod.ifT dc_359_99 rfl (k1_le_T (k_eq fd1 0 (by first | assumption | (simp (disch := omega) only [rI, rIe, rA, rIA, rLA, rJA, rVI, rQI, rVA, rQA, upd_at,  rAI, rLI, rJI, nI_add, pk_sub, kc_0, kc_1, kc_2, kc_3, kc_4, kc_5, reduceIte, Nat.reduceEqDiff, Nat.add_zero, rI_hold, rI_hold, rL_hold, he91, hfd0, hfd1]; done) | (simp (disch := omega) only [rI, rIe, rA, rIA, rLA, rJA, rVI, rQI, rVA, rQA, upd_at,  rAI, rLI, rJI, nI_add, pk_sub, kc_0, kc_1, kc_2, kc_3, kc_4, kc_5, reduceIte, Nat.reduceEqDiff, Nat.add_zero, rI_hold, rI_hold, rL_hold, he91, hfd0, hfd1]; exact congrArg nI (by omega))) rfl (by omega))) ?_
  refine Bod.ic 0 (by decide) dc_359_106 ?_
  exact Bod.retZ dc_359_107 rt_359 (Or.inl rfl)
theorem rTu_10 {d : Nat} {S : cS} {k : Nat} {e91 : Nat} {S1 : cS} {g : Nat} {zg : Nat} {fd0 : Nat} {fd1 : Nat} (mk : k < 2 ^ 20) (b1 : k < 20480) (he91 : sA S 91 k = nI e91) (me91 : e91 < 2 ^ 20) (b64 : e91 < 64) (n0 : e91 ≠ 0) (n1 : e91 ≠ 1) (n2 : e91 ≠ 2) (ag : 108 ≤ g) (c1 : Ans (d + 8) 361 [.ref 61, .int (nI k)] S (some (.ref g)) S1) (hz1 : (sS S1)[g - 108]? = some (13, zg)) (hfd0 : sI S1 (100 * g + 0) = nI fd0) (mfd0 : fd0 < 2 ^ 20) (b2 : fd0 ≠ 1) (b3 : fd0 = 2) (hfd1 : sI S1 (100 * g + 1) = nI fd1) (mfd1 : fd1 < 2 ^ 20) (b4 : 0 < fd1) : Bod (d + 8) 359 0 [(0, .ref 61), (1, .int (nI k))] [] S (some (.int 1)) (S1) := by
  refine Bod.go dc_359_0 rfl ?_
  refine Bod.get dc_359_1 fr_359_496 (mk_61 _) rfl ?_
  refine Bod.go dc_359_4 rfl ?_
  refine Bod.ialdN k rfl (by omega) (by omega) dc_359_5 (mk_91 _) ?_
  refine Bod.eqI (nI e91) (by first | assumption | rfl | exact congrArg nI (by omega) | (simp (disch := omega) only [rI, rIe, rA, rIA, rLA, rJA, rVI, rQI, rVA, rQA, upd_at,  rAI, rLI, rJI, nI_add, pk_sub, kc_0, kc_1, kc_2, kc_3, kc_4, kc_5, reduceIte, Nat.reduceEqDiff, Nat.add_zero, rI_hold, rI_hold, rL_hold, he91]; done)) ?_
  refine Bod.sw (t := 69) dc_359_6 rfl rfl (((((xsw_359_6 e91 b64).resolve_left n0).resolve_left n1).resolve_left n2)) ?_
  refine Bod.go dc_359_69 rfl ?_
  refine Bod.go dc_359_70 rfl ?_
  refine Bod.virt (r := []) dc_359_71 kr_359_554 ⟨Or.inl rfl, ow_361, cl_14⟩ (by rw [np_361]; rfl) (by rw [np_361]; rfl) (ob_of (mk_61 _)) (Nat.le_of_ble_eq_true rfl) (c1  ) ?_
  show Bod _ _ _ _ [_] _ _ _
  refine Bod.astn dc_359_74 (by rw [ml_359]; exact Nat.le_of_ble_eq_true rfl) ?_
  refine Bod.go dc_359_75 rfl ?_
  refine Bod.go dc_359_76 rfl ?_
  refine Bod.go dc_359_79 rfl ?_
  refine Bod.get dc_359_80 fr_359_531 (mk_thing ag (by first | exact hz1 | (simp only [rIS, rJS, rAS, rLS, rVS, rQS, rS_hold]; exact hz1))) rfl ?_
  refine Bod.eqI (nI fd0) (by first | assumption | (simp (disch := omega) only [rI, rIe, rA, rIA, rLA, rJA, rVI, rQI, rVA, rQA, upd_at,  rAI, rLI, rJI, nI_add, pk_sub, kc_0, kc_1, kc_2, kc_3, kc_4, kc_5, reduceIte, Nat.reduceEqDiff, Nat.add_zero, rI_hold, rI_hold, rL_hold, he91, hfd0]; done) | (simp (disch := omega) only [rI, rIe, rA, rIA, rLA, rJA, rVI, rQI, rVA, rQA, upd_at,  rAI, rLI, rJI, nI_add, pk_sub, kc_0, kc_1, kc_2, kc_3, kc_4, kc_5, reduceIte, Nat.reduceEqDiff, Nat.add_zero, rI_hold, rI_hold, rL_hold, he91, hfd0]; exact congrArg nI (by omega))) ?_
  refine Bod.ic 1 (by decide) dc_359_83 ?_
  refine Bod.icF dc_359_84 rfl (k2_eq_F (k_ne fd0 1 rfl rfl (by omega) (by omega) (by omega))) ?_
  refine Bod.go dc_359_87 rfl ?_
  refine Bod.get dc_359_88 fr_359_531 (mk_thing ag (by first | exact hz1 | (simp only [rIS, rJS, rAS, rLS, rVS, rQS, rS_hold]; exact hz1))) rfl ?_
  refine Bod.eqI (nI fd0) (by first | assumption | (simp (disch := omega) only [rI, rIe, rA, rIA, rLA, rJA, rVI, rQI, rVA, rQA, upd_at,  rAI, rLI, rJI, nI_add, pk_sub, kc_0, kc_1, kc_2, kc_3, kc_4, kc_5, reduceIte, Nat.reduceEqDiff, Nat.add_zero, rI_hold, rI_hold, rL_hold, he91, hfd0]; done) | (simp (disch := omega) only [rI, rIe, rA, rIA, rLA, rJA, rVI, rQI, rVA, rQA, upd_at,  rAI, rLI, rJI, nI_add, pk_sub, kc_0, kc_1, kc_2, kc_3, kc_4, kc_5, reduceIte, Nat.reduceEqDiff, Nat.add_zero, rI_hold, rI_hold, rL_hold, he91, hfd0]; exact congrArg nI (by omega))) ?_
  refine Bod.ic 2 (by decide) dc_359_91 ?_
  refine Bod.icF dc_359_92 rfl (k2_ne_F (k_eq fd0 2 rfl rfl (by omega))) ?_
  refine Bod.go dc_359_95 rfl ?_
  refine Bod.get dc_359_96 fr_359_459 (mk_thing ag (by first | exact hz1 | (simp only [rIS, rJS, rAS, rLS, rVS, rQS, rS_hold]; exact hz1))) rfl ?_
  refine Bod.eqI (nI fd1) (by first | assumption | (simp (disch := omega) only [rI, rIe, rA, rIA, rLA, rJA, rVI, rQI, rVA, rQA, upd_at,  rAI, rLI, rJI, nI_add, pk_sub, kc_0, kc_1, kc_2, kc_3, kc_4, kc_5, reduceIte, Nat.reduceEqDiff, Nat.add_zero, rI_hold, rI_hold, rL_hold, he91, hfd0, hfd1]; done) | (simp (disch := omega) only [rI, rIe, rA, rIA, rLA, rJA, rVI, rQI, rVA, rQA, upd_at,  rAI, rLI, rJI, nI_add, pk_sub, kc_0, kc_1, kc_2, kc_3, kc_4, kc_5, reduceIte, Nat.reduceEqDiff, Nat.add_zero, rI_hold, rI_hold, rL_hold, he91, hfd0, hfd1]; exact congrArg nI (by omega))) ?_
  refine Bod.ifF dc_359_99 rfl (k1_le_F fd1 rfl (by omega) (by omega)) ?_
  refine Bod.ic 1 (by decide) dc_359_102 ?_
  refine Bod.go dc_359_103 rfl ?_
  exact Bod.retZ dc_359_107 rt_359 (Or.inr rfl)
theorem rTu_11 {d : Nat} {S : cS} {k : Nat} {e91 : Nat} {S1 : cS} (mk : k < 2 ^ 20) (b1 : k < 20480) (he91 : sA S 91 k = nI e91) (me91 : e91 < 2 ^ 20) (b64 : e91 < 64) (n0 : e91 ≠ 0) (n1 : e91 ≠ 1) (n2 : e91 ≠ 2) (c1 : Ans (d + 8) 361 [.ref 61, .int (nI k)] S (some (.null)) S1) : Bod (d + 8) 359 0 [(0, .ref 61), (1, .int (nI k))] [] S (some (.int 1)) (S1) := by
  refine Bod.go dc_359_0 rfl ?_
  refine Bod.get dc_359_1 fr_359_496 (mk_61 _) rfl ?_
  refine Bod.go dc_359_4 rfl ?_
  refine Bod.ialdN k rfl (by omega) (by omega) dc_359_5 (mk_91 _) ?_
  refine Bod.eqI (nI e91) (by first | assumption | rfl | exact congrArg nI (by omega) | (simp (disch := omega) only [rI, rIe, rA, rIA, rLA, rJA, rVI, rQI, rVA, rQA, upd_at,  rAI, rLI, rJI, nI_add, pk_sub, kc_0, kc_1, kc_2, kc_3, kc_4, kc_5, reduceIte, Nat.reduceEqDiff, Nat.add_zero, rI_hold, rI_hold, rL_hold, he91]; done)) ?_
  refine Bod.sw (t := 69) dc_359_6 rfl rfl (((((xsw_359_6 e91 b64).resolve_left n0).resolve_left n1).resolve_left n2)) ?_
  refine Bod.go dc_359_69 rfl ?_
  refine Bod.go dc_359_70 rfl ?_
  refine Bod.virt (r := []) dc_359_71 kr_359_554 ⟨Or.inl rfl, ow_361, cl_14⟩ (by rw [np_361]; rfl) (by rw [np_361]; rfl) (ob_of (mk_61 _)) (Nat.le_of_ble_eq_true rfl) (c1  ) ?_
  show Bod _ _ _ _ [_] _ _ _
  refine Bod.astn0 dc_359_74 (by rw [ml_359]; exact Nat.le_of_ble_eq_true rfl) ?_
  refine Bod.go dc_359_75 rfl ?_
  refine Bod.go dc_359_76 rfl ?_
  refine Bod.ic 1 (by decide) dc_359_102 ?_
  refine Bod.go dc_359_103 rfl ?_
  exact Bod.retZ dc_359_107 rt_359 (Or.inr rfl)
theorem rEq_1 {d : Nat} {S : cS} {k : Nat} {kd : Nat} {xa : Int64} {xb : Int64} {e91 : Nat} (mk : k < 2 ^ 20) (mkd : kd < 2 ^ 20) (b1 : k < 20480) (he91 : sA S 91 k = nI e91) (me91 : e91 < 2 ^ 20) (b2 : e91 = kd) (b3 : kd = 0) : Bod (d + 8) 402 0 [(0, .ref 61), (1, .int (nI k)), (2, .int (nI kd)), (3, .long xa), (5, .long xb)] [] S (some (.int 1)) (S) := by
  refine Bod.go dc_402_0 rfl ?_
  refine Bod.get dc_402_1 fr_402_496 (mk_61 _) rfl ?_
  refine Bod.go dc_402_4 rfl ?_
  refine Bod.ialdN k rfl (by omega) (by omega) dc_402_5 (mk_91 _) ?_
  refine Bod.eqI (nI e91) (by first | assumption | rfl | exact congrArg nI (by omega) | (simp (disch := omega) only [rI, rIe, rA, rIA, rLA, rJA, rVI, rQI, rVA, rQA, upd_at,  rAI, rLI, rJI, nI_add, pk_sub, kc_0, kc_1, kc_2, kc_3, kc_4, kc_5, reduceIte, Nat.reduceEqDiff, Nat.add_zero, rI_hold, rI_hold, rL_hold, he91]; done)) ?_
  refine Bod.go dc_402_6 rfl ?_
  refine Bod.icT dc_402_7 rfl (k2_eq_T (k_eq e91 kd rfl rfl (by omega))) ?_
  refine Bod.go dc_402_12 rfl ?_
  refine Bod.ifT dc_402_13 rfl (k1_eq_T (k_eq kd 0 rfl rfl (by omega))) ?_
  refine Bod.ic 1 (by decide) dc_402_44 ?_
  refine Bod.go dc_402_45 rfl ?_
  exact Bod.retZ dc_402_49 rt_402 (Or.inr rfl)
theorem rEq_2 {d : Nat} {S : cS} {k : Nat} {kd : Nat} {xa : Int64} {xb : Int64} {e91 : Nat} (mk : k < 2 ^ 20) (mkd : kd < 2 ^ 20) (b1 : k < 20480) (he91 : sA S 91 k = nI e91) (me91 : e91 < 2 ^ 20) (b2 : e91 = kd) (b3 : kd ≠ 0) (w8 : sm_c1 .ne (lg_cmp (sL S 92 k) xa) true false = true) : Bod (d + 8) 402 0 [(0, .ref 61), (1, .int (nI k)), (2, .int (nI kd)), (3, .long xa), (5, .long xb)] [] S (some (.int 0)) (S) := by
  refine Bod.go dc_402_0 rfl ?_
  refine Bod.get dc_402_1 fr_402_496 (mk_61 _) rfl ?_
  refine Bod.go dc_402_4 rfl ?_
  refine Bod.ialdN k rfl (by omega) (by omega) dc_402_5 (mk_91 _) ?_
  refine Bod.eqI (nI e91) (by first | assumption | rfl | exact congrArg nI (by omega) | (simp (disch := omega) only [rI, rIe, rA, rIA, rLA, rJA, rVI, rQI, rVA, rQA, upd_at,  rAI, rLI, rJI, nI_add, pk_sub, kc_0, kc_1, kc_2, kc_3, kc_4, kc_5, reduceIte, Nat.reduceEqDiff, Nat.add_zero, rI_hold, rI_hold, rL_hold, he91]; done)) ?_
  refine Bod.go dc_402_6 rfl ?_
  refine Bod.icT dc_402_7 rfl (k2_eq_T (k_eq e91 kd rfl rfl (by omega))) ?_
  refine Bod.go dc_402_12 rfl ?_
  refine Bod.ifF dc_402_13 rfl (k1_eq_F (k_ne kd 0 rfl rfl (by omega) (by omega) (by omega))) ?_
  refine Bod.go dc_402_16 rfl ?_
  refine Bod.get dc_402_17 fr_402_499 (mk_61 _) rfl ?_
  refine Bod.go dc_402_20 rfl ?_
  refine Bod.laldN k rfl (by omega) (by omega) dc_402_21 (mk_92 _) ?_
  refine Bod.go dc_402_22 rfl ?_
  refine Bod.go dc_402_23 rfl ?_
  refine Bod.ifT dc_402_24 rfl w8 ?_
  refine Bod.ic 0 (by decide) dc_402_48 ?_
  exact Bod.retZ dc_402_49 rt_402 (Or.inl rfl)
theorem rEq_3 {d : Nat} {S : cS} {k : Nat} {kd : Nat} {xa : Int64} {xb : Int64} {e91 : Nat} (mk : k < 2 ^ 20) (mkd : kd < 2 ^ 20) (b1 : k < 20480) (he91 : sA S 91 k = nI e91) (me91 : e91 < 2 ^ 20) (b2 : e91 = kd) (b3 : kd ≠ 0) (w8 : sm_c1 .ne (lg_cmp (sL S 92 k) xa) true false = false) (b4 : kd ≠ 2) : Bod (d + 8) 402 0 [(0, .ref 61), (1, .int (nI k)), (2, .int (nI kd)), (3, .long xa), (5, .long xb)] [] S (some (.int 1)) (S) := by
  refine Bod.go dc_402_0 rfl ?_
  refine Bod.get dc_402_1 fr_402_496 (mk_61 _) rfl ?_
  refine Bod.go dc_402_4 rfl ?_
  refine Bod.ialdN k rfl (by omega) (by omega) dc_402_5 (mk_91 _) ?_
  refine Bod.eqI (nI e91) (by first | assumption | rfl | exact congrArg nI (by omega) | (simp (disch := omega) only [rI, rIe, rA, rIA, rLA, rJA, rVI, rQI, rVA, rQA, upd_at,  rAI, rLI, rJI, nI_add, pk_sub, kc_0, kc_1, kc_2, kc_3, kc_4, kc_5, reduceIte, Nat.reduceEqDiff, Nat.add_zero, rI_hold, rI_hold, rL_hold, he91]; done)) ?_
  refine Bod.go dc_402_6 rfl ?_
  refine Bod.icT dc_402_7 rfl (k2_eq_T (k_eq e91 kd rfl rfl (by omega))) ?_
  refine Bod.go dc_402_12 rfl ?_
  refine Bod.ifF dc_402_13 rfl (k1_eq_F (k_ne kd 0 rfl rfl (by omega) (by omega) (by omega))) ?_
  refine Bod.go dc_402_16 rfl ?_
  refine Bod.get dc_402_17 fr_402_499 (mk_61 _) rfl ?_
  refine Bod.go dc_402_20 rfl ?_
  refine Bod.laldN k rfl (by omega) (by omega) dc_402_21 (mk_92 _) ?_
  refine Bod.go dc_402_22 rfl ?_
  refine Bod.go dc_402_23 rfl ?_
  refine Bod.ifF dc_402_24 rfl w8 ?_
  refine Bod.go dc_402_27 rfl ?_
  refine Bod.ic 2 (by decide) dc_402_28 ?_
  refine Bod.icT dc_402_29 rfl (k2_ne_T (k_ne kd 2 rfl rfl (by omega) (by omega) (by omega))) ?_
  refine Bod.ic 1 (by decide) dc_402_44 ?_
  refine Bod.go dc_402_45 rfl ?_
  exact Bod.retZ dc_402_49 rt_402 (Or.inr rfl)
theorem rEq_4 {d : Nat} {S : cS} {k : Nat} {kd : Nat} {xa : Int64} {xb : Int64} {e91 : Nat} (mk : k < 2 ^ 20) (mkd : kd < 2 ^ 20) (b1 : k < 20480) (he91 : sA S 91 k = nI e91) (me91 : e91 < 2 ^ 20) (b2 : e91 = kd) (b3 : kd ≠ 0) (w8 : sm_c1 .ne (lg_cmp (sL S 92 k) xa) true false = false) (b4 : kd = 2) (w10 : sm_c1 .ne (lg_cmp (sL S 93 k) xb) true false = true) : Bod (d + 8) 402 0 [(0, .ref 61), (1, .int (nI k)), (2, .int (nI kd)), (3, .long xa), (5, .long xb)] [] S (some (.int 0)) (S) := by
  refine Bod.go dc_402_0 rfl ?_
  refine Bod.get dc_402_1 fr_402_496 (mk_61 _) rfl ?_
  refine Bod.go dc_402_4 rfl ?_
  refine Bod.ialdN k rfl (by omega) (by omega) dc_402_5 (mk_91 _) ?_
  refine Bod.eqI (nI e91) (by first | assumption | rfl | exact congrArg nI (by omega) | (simp (disch := omega) only [rI, rIe, rA, rIA, rLA, rJA, rVI, rQI, rVA, rQA, upd_at,  rAI, rLI, rJI, nI_add, pk_sub, kc_0, kc_1, kc_2, kc_3, kc_4, kc_5, reduceIte, Nat.reduceEqDiff, Nat.add_zero, rI_hold, rI_hold, rL_hold, he91]; done)) ?_
  refine Bod.go dc_402_6 rfl ?_
  refine Bod.icT dc_402_7 rfl (k2_eq_T (k_eq e91 kd rfl rfl (by omega))) ?_
  refine Bod.go dc_402_12 rfl ?_
  refine Bod.ifF dc_402_13 rfl (k1_eq_F (k_ne kd 0 rfl rfl (by omega) (by omega) (by omega))) ?_
  refine Bod.go dc_402_16 rfl ?_
  refine Bod.get dc_402_17 fr_402_499 (mk_61 _) rfl ?_
  refine Bod.go dc_402_20 rfl ?_
  refine Bod.laldN k rfl (by omega) (by omega) dc_402_21 (mk_92 _) ?_
  refine Bod.go dc_402_22 rfl ?_
  refine Bod.go dc_402_23 rfl ?_
  refine Bod.ifF dc_402_24 rfl w8 ?_
  refine Bod.go dc_402_27 rfl ?_
  refine Bod.ic 2 (by decide) dc_402_28 ?_
  refine Bod.icF dc_402_29 rfl (k2_ne_F (k_eq kd 2 rfl rfl (by omega))) ?_
  refine Bod.go dc_402_32 rfl ?_
  refine Bod.get dc_402_33 fr_402_546 (mk_61 _) rfl ?_
  refine Bod.go dc_402_36 rfl ?_
  refine Bod.laldN k rfl (by omega) (by omega) dc_402_37 (mk_93 _) ?_
  refine Bod.go dc_402_38 rfl ?_
  refine Bod.go dc_402_40 rfl ?_
  refine Bod.ifT dc_402_41 rfl w10 ?_
  refine Bod.ic 0 (by decide) dc_402_48 ?_
  exact Bod.retZ dc_402_49 rt_402 (Or.inl rfl)
theorem rEq_5 {d : Nat} {S : cS} {k : Nat} {kd : Nat} {xa : Int64} {xb : Int64} {e91 : Nat} (mk : k < 2 ^ 20) (mkd : kd < 2 ^ 20) (b1 : k < 20480) (he91 : sA S 91 k = nI e91) (me91 : e91 < 2 ^ 20) (b2 : e91 = kd) (b3 : kd ≠ 0) (w8 : sm_c1 .ne (lg_cmp (sL S 92 k) xa) true false = false) (b4 : kd = 2) (w10 : sm_c1 .ne (lg_cmp (sL S 93 k) xb) true false = false) : Bod (d + 8) 402 0 [(0, .ref 61), (1, .int (nI k)), (2, .int (nI kd)), (3, .long xa), (5, .long xb)] [] S (some (.int 1)) (S) := by
  refine Bod.go dc_402_0 rfl ?_
  refine Bod.get dc_402_1 fr_402_496 (mk_61 _) rfl ?_
  refine Bod.go dc_402_4 rfl ?_
  refine Bod.ialdN k rfl (by omega) (by omega) dc_402_5 (mk_91 _) ?_
  refine Bod.eqI (nI e91) (by first | assumption | rfl | exact congrArg nI (by omega) | (simp (disch := omega) only [rI, rIe, rA, rIA, rLA, rJA, rVI, rQI, rVA, rQA, upd_at,  rAI, rLI, rJI, nI_add, pk_sub, kc_0, kc_1, kc_2, kc_3, kc_4, kc_5, reduceIte, Nat.reduceEqDiff, Nat.add_zero, rI_hold, rI_hold, rL_hold, he91]; done)) ?_
  refine Bod.go dc_402_6 rfl ?_
  refine Bod.icT dc_402_7 rfl (k2_eq_T (k_eq e91 kd rfl rfl (by omega))) ?_
  refine Bod.go dc_402_12 rfl ?_
  refine Bod.ifF dc_402_13 rfl (k1_eq_F (k_ne kd 0 rfl rfl (by omega) (by omega) (by omega))) ?_
  refine Bod.go dc_402_16 rfl ?_
  refine Bod.get dc_402_17 fr_402_499 (mk_61 _) rfl ?_
  refine Bod.go dc_402_20 rfl ?_
  refine Bod.laldN k rfl (by omega) (by omega) dc_402_21 (mk_92 _) ?_
  refine Bod.go dc_402_22 rfl ?_
  refine Bod.go dc_402_23 rfl ?_
  refine Bod.ifF dc_402_24 rfl w8 ?_
  refine Bod.go dc_402_27 rfl ?_
  refine Bod.ic 2 (by decide) dc_402_28 ?_
  refine Bod.icF dc_402_29 rfl (k2_ne_F (k_eq kd 2 rfl rfl (by omega))) ?_
  refine Bod.go dc_402_32 rfl ?_
  refine Bod.get dc_402_33 fr_402_546 (mk_61 _) rfl ?_
  refine Bod.go dc_402_36 rfl ?_
  refine Bod.laldN k rfl (by omega) (by omega) dc_402_37 (mk_93 _) ?_
  refine Bod.go dc_402_38 rfl ?_
  refine Bod.go dc_402_40 rfl ?_
  refine Bod.ifF dc_402_41 rfl w10 ?_
  refine Bod.ic 1 (by decide) dc_402_44 ?_
  refine Bod.go dc_402_45 rfl ?_
  exact Bod.retZ dc_402_49 rt_402 (Or.inr rfl)
theorem rEq_6 {d : Nat} {S : cS} {k : Nat} {kd : Nat} {xa : Int64} {xb : Int64} {e91 : Nat} (mk : k < 2 ^ 20) (mkd : kd < 2 ^ 20) (b1 : k < 20480) (he91 : sA S 91 k = nI e91) (me91 : e91 < 2 ^ 20) (b2 : e91 ≠ kd) : Bod (d + 8) 402 0 [(0, .ref 61), (1, .int (nI k)), (2, .int (nI kd)), (3, .long xa), (5, .long xb)] [] S (some (.int 0)) (S) := by
  refine Bod.go dc_402_0 rfl ?_
  refine Bod.get dc_402_1 fr_402_496 (mk_61 _) rfl ?_
  refine Bod.go dc_402_4 rfl ?_
  refine Bod.ialdN k rfl (by omega) (by omega) dc_402_5 (mk_91 _) ?_
  refine Bod.eqI (nI e91) (by first | assumption | rfl | exact congrArg nI (by omega) | (simp (disch := omega) only [rI, rIe, rA, rIA, rLA, rJA, rVI, rQI, rVA, rQA, upd_at,  rAI, rLI, rJI, nI_add, pk_sub, kc_0, kc_1, kc_2, kc_3, kc_4, kc_5, reduceIte, Nat.reduceEqDiff, Nat.add_zero, rI_hold, rI_hold, rL_hold, he91]; done)) ?_
  refine Bod.go dc_402_6 rfl ?_
  refine Bod.icF dc_402_7 rfl (k2_eq_F (k_ne e91 kd rfl rfl (by omega) (by omega) (by omega))) ?_
  refine Bod.ic 0 (by decide) dc_402_10 ?_
  exact Bod.retZ dc_402_11 rt_402 (Or.inl rfl)
theorem rOo_1 {d : Nat} {S : cS} {k : Nat} {ky : Nat} {e91 : Nat} {S1 : cS} {rb : Int32} {S2 : cS} {rb1 : Int32} (mk : k < 2 ^ 20) (mky : ky < 2 ^ 20) (b1 : k < 20480) (he91 : sA S 91 k = nI e91) (me91 : e91 < 2 ^ 20) (b2 : e91 ≠ 1) (b3 : ky < 20480) (c1 : Ans (d + 8) 389 [.long (sL S 92 k), .long (sL S 92 ky)] S (some (.int rb)) S1) (w9 : sm_c1 .eq rb true false = true) (c2 : Ans (d + 8) 389 [.long (sL S1 93 k), .long (sL S1 93 ky)] S1 (some (.int rb1)) S2) : Bod (d + 8) 404 0 [(0, .ref 61), (1, .int (nI k)), (2, .int (nI ky))] [] S (some (.int rb1)) (S2) := by
  refine Bod.go dc_404_0 rfl ?_
  refine Bod.get dc_404_1 fr_404_496 (mk_61 _) rfl ?_
  refine Bod.go dc_404_4 rfl ?_
  refine Bod.ialdN k rfl (by omega) (by omega) dc_404_5 (mk_91 _) ?_
  refine Bod.eqI (nI e91) (by first | assumption | rfl | exact congrArg nI (by omega) | (simp (disch := omega) only [rI, rIe, rA, rIA, rLA, rJA, rVI, rQI, rVA, rQA, upd_at,  rAI, rLI, rJI, nI_add, pk_sub, kc_0, kc_1, kc_2, kc_3, kc_4, kc_5, reduceIte, Nat.reduceEqDiff, Nat.add_zero, rI_hold, rI_hold, rL_hold, he91]; done)) ?_
  refine Bod.ic 1 (by decide) dc_404_6 ?_
  refine Bod.icT dc_404_7 rfl (k2_ne_T (k_ne e91 1 rfl rfl (by omega) (by omega) (by omega))) ?_
  refine Bod.go dc_404_26 rfl ?_
  refine Bod.get dc_404_27 fr_404_499 (mk_61 _) rfl ?_
  refine Bod.go dc_404_30 rfl ?_
  refine Bod.laldN k rfl (by omega) (by omega) dc_404_31 (mk_92 _) ?_
  refine Bod.go dc_404_32 rfl ?_
  refine Bod.get dc_404_33 fr_404_499 (mk_61 _) rfl ?_
  refine Bod.go dc_404_36 rfl ?_
  refine Bod.laldN ky rfl (by omega) (by omega) dc_404_37 (mk_92 _) ?_
  refine Bod.stat (r := []) dc_404_38 kr_404_709 (Or.inl rfl) (by rw [np_389]; rfl) (by rw [np_389]; rfl) (by rw [np_389]; exact Nat.le_of_ble_eq_true rfl) (Nat.le_of_ble_eq_true rfl) (c1  ) ?_
  show Bod _ _ _ _ [_] _ _ _
  refine Bod.istn dc_404_41 (by rw [ml_404]; exact Nat.le_of_ble_eq_true rfl) ?_
  refine Bod.go dc_404_42 rfl ?_
  refine Bod.ifT dc_404_43 rfl w9 ?_
  refine Bod.go dc_404_50 rfl ?_
  refine Bod.get dc_404_51 fr_404_546 (mk_61 _) rfl ?_
  refine Bod.go dc_404_54 rfl ?_
  refine Bod.laldN k rfl (by omega) (by omega) dc_404_55 (mk_93 _) ?_
  refine Bod.go dc_404_56 rfl ?_
  refine Bod.get dc_404_57 fr_404_546 (mk_61 _) rfl ?_
  refine Bod.go dc_404_60 rfl ?_
  refine Bod.laldN ky rfl (by omega) (by omega) dc_404_61 (mk_93 _) ?_
  refine Bod.stat (r := []) dc_404_62 kr_404_709 (Or.inl rfl) (by rw [np_389]; rfl) (by rw [np_389]; rfl) (by rw [np_389]; exact Nat.le_of_ble_eq_true rfl) (Nat.le_of_ble_eq_true rfl) (c2  ) ?_
  show Bod _ _ _ _ [_] _ _ _
  exact Bod.retI dc_404_65 rt_404
theorem rOo_2 {d : Nat} {S : cS} {k : Nat} {ky : Nat} {e91 : Nat} {S1 : cS} {rb : Int32} (mk : k < 2 ^ 20) (mky : ky < 2 ^ 20) (b1 : k < 20480) (he91 : sA S 91 k = nI e91) (me91 : e91 < 2 ^ 20) (b2 : e91 ≠ 1) (b3 : ky < 20480) (c1 : Ans (d + 8) 389 [.long (sL S 92 k), .long (sL S 92 ky)] S (some (.int rb)) S1) (w9 : sm_c1 .eq rb true false = false) : Bod (d + 8) 404 0 [(0, .ref 61), (1, .int (nI k)), (2, .int (nI ky))] [] S (some (.int rb)) (S1) := by
  refine Bod.go dc_404_0 rfl ?_
  refine Bod.get dc_404_1 fr_404_496 (mk_61 _) rfl ?_
  refine Bod.go dc_404_4 rfl ?_
  refine Bod.ialdN k rfl (by omega) (by omega) dc_404_5 (mk_91 _) ?_
  refine Bod.eqI (nI e91) (by first | assumption | rfl | exact congrArg nI (by omega) | (simp (disch := omega) only [rI, rIe, rA, rIA, rLA, rJA, rVI, rQI, rVA, rQA, upd_at,  rAI, rLI, rJI, nI_add, pk_sub, kc_0, kc_1, kc_2, kc_3, kc_4, kc_5, reduceIte, Nat.reduceEqDiff, Nat.add_zero, rI_hold, rI_hold, rL_hold, he91]; done)) ?_
  refine Bod.ic 1 (by decide) dc_404_6 ?_
  refine Bod.icT dc_404_7 rfl (k2_ne_T (k_ne e91 1 rfl rfl (by omega) (by omega) (by omega))) ?_
  refine Bod.go dc_404_26 rfl ?_
  refine Bod.get dc_404_27 fr_404_499 (mk_61 _) rfl ?_
  refine Bod.go dc_404_30 rfl ?_
  refine Bod.laldN k rfl (by omega) (by omega) dc_404_31 (mk_92 _) ?_
  refine Bod.go dc_404_32 rfl ?_
  refine Bod.get dc_404_33 fr_404_499 (mk_61 _) rfl ?_
  refine Bod.go dc_404_36 rfl ?_
  refine Bod.laldN ky rfl (by omega) (by omega) dc_404_37 (mk_92 _) ?_
  refine Bod.stat (r := []) dc_404_38 kr_404_709 (Or.inl rfl) (by rw [np_389]; rfl) (by rw [np_389]; rfl) (by rw [np_389]; exact Nat.le_of_ble_eq_true rfl) (Nat.le_of_ble_eq_true rfl) (c1  ) ?_
  show Bod _ _ _ _ [_] _ _ _
  refine Bod.istn dc_404_41 (by rw [ml_404]; exact Nat.le_of_ble_eq_true rfl) ?_
  refine Bod.go dc_404_42 rfl ?_
  refine Bod.ifF dc_404_43 rfl w9 ?_
  refine Bod.go dc_404_46 rfl ?_
  refine Bod.go dc_404_47 rfl ?_
  exact Bod.retI dc_404_65 rt_404
theorem rOo_3 {d : Nat} {S : cS} {k : Nat} {ky : Nat} {e91 : Nat} {S1 : cS} {rb : Int32} (mk : k < 2 ^ 20) (mky : ky < 2 ^ 20) (b1 : k < 20480) (he91 : sA S 91 k = nI e91) (me91 : e91 < 2 ^ 20) (b2 : e91 = 1) (b3 : ky < 20480) (c1 : Ans (d + 8) 215 [.long (sL S 92 k), .long (sL S 92 ky)] S (some (.int rb)) S1) : Bod (d + 8) 404 0 [(0, .ref 61), (1, .int (nI k)), (2, .int (nI ky))] [] S (some (.int rb)) (S1) := by
  refine Bod.go dc_404_0 rfl ?_
  refine Bod.get dc_404_1 fr_404_496 (mk_61 _) rfl ?_
  refine Bod.go dc_404_4 rfl ?_
  refine Bod.ialdN k rfl (by omega) (by omega) dc_404_5 (mk_91 _) ?_
  refine Bod.eqI (nI e91) (by first | assumption | rfl | exact congrArg nI (by omega) | (simp (disch := omega) only [rI, rIe, rA, rIA, rLA, rJA, rVI, rQI, rVA, rQA, upd_at,  rAI, rLI, rJI, nI_add, pk_sub, kc_0, kc_1, kc_2, kc_3, kc_4, kc_5, reduceIte, Nat.reduceEqDiff, Nat.add_zero, rI_hold, rI_hold, rL_hold, he91]; done)) ?_
  refine Bod.ic 1 (by decide) dc_404_6 ?_
  refine Bod.icF dc_404_7 rfl (k2_ne_F (k_eq e91 1 rfl rfl (by omega))) ?_
  refine Bod.go dc_404_10 rfl ?_
  refine Bod.get dc_404_11 fr_404_499 (mk_61 _) rfl ?_
  refine Bod.go dc_404_14 rfl ?_
  refine Bod.laldN k rfl (by omega) (by omega) dc_404_15 (mk_92 _) ?_
  refine Bod.go dc_404_16 rfl ?_
  refine Bod.get dc_404_17 fr_404_499 (mk_61 _) rfl ?_
  refine Bod.go dc_404_20 rfl ?_
  refine Bod.laldN ky rfl (by omega) (by omega) dc_404_21 (mk_92 _) ?_
  refine Bod.stat (r := []) dc_404_22 kr_404_706 (Or.inl rfl) (by rw [np_215]; rfl) (by rw [np_215]; rfl) (by rw [np_215]; exact Nat.le_of_ble_eq_true rfl) (Nat.le_of_ble_eq_true rfl) (c1  ) ?_
  show Bod _ _ _ _ [_] _ _ _
  exact Bod.retI dc_404_25 rt_404
theorem rGi_1 {d : Nat} {S : cS} {t : Nat} {e91 : Nat} {S1 : cS} {S2 : cS} {g : Nat} {zg : Nat} {S3 : cS} {a : Nat} {t1 : Nat} {r : Nat} {N : Nat} {e : Nat} {r1 : Nat} {N1 : Nat} {r2 : Nat} {N2 : Nat} {S4 : cS} (ht : sI S 6151 = nI t) (mt : t < 20481) (b1 : 2 ≤ t) (b2 : 1 ≤ t) (he91 : sA S 91 (t - 2) = nI e91) (me91 : e91 < 2 ^ 20) (b3 : e91 ≠ 2) (c1 : Ans (d + 8) 363 [.ref 61, .int (nI (t - 2)), .int (nI 1)] S (some (.int (nI 1))) S1) (ag : 108 ≤ g) (c2 : Ans (d + 8) 361 [.ref 61, .int (nI (t - 2))] S1 (some (.ref g)) S2) (ma : a < 2 ^ 20) (c3 : Ans (d + 8) 410 [.ref 61, .ref g, .int (nI (t - 1))] S2 (some (.int (nI a))) S3) (ht1 : sI S3 6151 = nI t1) (mt1 : t1 < 20481) (b4 : 2 ≤ t1) (hz1 : (sS S3)[g - 108]? = some (13, zg)) (hv1 : sV S3 (100 * g + 2) = .ref r) (hg1 : isK S3 r 0 N) (mN : N < 2 ^ 20) (b5 : a < N) (he : sA (wI 6151 (nI (t1 - 2)) S3) r a = nI e) (me : e < 2 ^ 20) (hv2 : sV S3 (100 * g + 4) = .ref r1) (hg2 : isK S3 r1 1 N1) (mN1 : N1 < 2 ^ 20) (b6 : a < N1) (hv3 : sV S3 (100 * g + 5) = .ref r2) (hg3 : isK S3 r2 1 N2) (mN2 : N2 < 2 ^ 20) (b7 : a < N2) (c4 : Ans (d + 8) 352 [.ref 61, .int (nI e), .long (sL (wI 6151 (nI (t1 - 2)) S3) r1 a), .long (sL (wI 6151 (nI (t1 - 2)) S3) r2 a)] (wI 6151 (nI (t1 - 2)) S3) none S4) : Bod (d + 8) 409 0 [(0, .ref 61)] [] S (some (.int 1)) (S4) := by
  refine Bod.go dc_409_0 rfl ?_
  refine Bod.get dc_409_1 fr_409_493 (mk_61 _) rfl ?_
  refine Bod.eqI (nI t) (by first | assumption | rfl | exact congrArg nI (by omega) | (simp (disch := omega) only [rI, rIe, rA, rIA, rLA, rJA, rVI, rQI, rVA, rQA, upd_at,  rAI, rLI, rJI, nI_add, pk_sub, kc_0, kc_1, kc_2, kc_3, kc_4, kc_5, reduceIte, Nat.reduceEqDiff, Nat.add_zero, rI_hold, rI_hold, rL_hold, ht]; done)) ?_
  refine Bod.ic 2 (by decide) dc_409_4 ?_
  refine Bod.subN (t - 2) (by omega) (by omega) dc_409_5 ?_
  refine Bod.istn dc_409_6 (by rw [ml_409]; exact Nat.le_of_ble_eq_true rfl) ?_
  refine Bod.go dc_409_7 rfl ?_
  refine Bod.get dc_409_8 fr_409_493 (mk_61 _) rfl ?_
  refine Bod.eqI (nI t) (by first | assumption | rfl | exact congrArg nI (by omega) | (simp (disch := omega) only [rI, rIe, rA, rIA, rLA, rJA, rVI, rQI, rVA, rQA, upd_at,  rAI, rLI, rJI, nI_add, pk_sub, kc_0, kc_1, kc_2, kc_3, kc_4, kc_5, reduceIte, Nat.reduceEqDiff, Nat.add_zero, rI_hold, rI_hold, rL_hold, ht]; done)) ?_
  refine Bod.ic 1 (by decide) dc_409_11 ?_
  refine Bod.subN (t - 1) (by omega) (by omega) dc_409_12 ?_
  refine Bod.istn dc_409_13 (by rw [ml_409]; exact Nat.le_of_ble_eq_true rfl) ?_
  refine Bod.go dc_409_14 rfl ?_
  refine Bod.get dc_409_15 fr_409_496 (mk_61 _) rfl ?_
  refine Bod.go dc_409_18 rfl ?_
  refine Bod.ialdN (t - 2) rfl (by omega) (by omega) dc_409_19 (mk_91 _) ?_
  refine Bod.eqI (nI e91) (by first | assumption | rfl | exact congrArg nI (by omega) | (simp (disch := omega) only [rI, rIe, rA, rIA, rLA, rJA, rVI, rQI, rVA, rQA, upd_at,  rAI, rLI, rJI, nI_add, pk_sub, kc_0, kc_1, kc_2, kc_3, kc_4, kc_5, reduceIte, Nat.reduceEqDiff, Nat.add_zero, rI_hold, rI_hold, rL_hold, ht, he91]; done)) ?_
  refine Bod.ic 2 (by decide) dc_409_20 ?_
  refine Bod.icT dc_409_21 rfl (k2_ne_T (k_ne e91 2 rfl rfl (by omega) (by omega) (by omega))) ?_
  refine Bod.go dc_409_162 rfl ?_
  refine Bod.go dc_409_163 rfl ?_
  refine Bod.ic 1 (by decide) dc_409_164 ?_
  refine Bod.virt (r := []) dc_409_165 kr_409_683 ⟨Or.inl rfl, ow_363, cl_14⟩ (by rw [np_363]; rfl) (by rw [np_363]; rfl) (ob_of (mk_61 _)) (Nat.le_of_ble_eq_true rfl) (c1  ) ?_
  show Bod _ _ _ _ [_] _ _ _
  refine Bod.ifT dc_409_168 rfl (k1_ne_T (k_ne 1 0 rfl rfl (by omega) (by omega) (by omega))) ?_
  refine Bod.go dc_409_186 rfl ?_
  refine Bod.go dc_409_187 rfl ?_
  refine Bod.virt (r := []) dc_409_188 kr_409_554 ⟨Or.inl rfl, ow_361, cl_14⟩ (by rw [np_361]; rfl) (by rw [np_361]; rfl) (ob_of (mk_61 _)) (Nat.le_of_ble_eq_true rfl) (c2  ) ?_
  show Bod _ _ _ _ [_] _ _ _
  refine Bod.astn dc_409_191 (by rw [ml_409]; exact Nat.le_of_ble_eq_true rfl) ?_
  refine Bod.go dc_409_192 rfl ?_
  refine Bod.go dc_409_193 rfl ?_
  refine Bod.go dc_409_194 rfl ?_
  refine Bod.virt (r := []) dc_409_195 kr_409_768 ⟨Or.inl rfl, ow_410, cl_14⟩ (by rw [np_410]; rfl) (by rw [np_410]; rfl) (ob_of (mk_61 _)) (Nat.le_of_ble_eq_true rfl) (c3  ) ?_
  show Bod _ _ _ _ [_] _ _ _
  refine Bod.ist dc_409_198 (by rw [ml_409]; exact Nat.le_of_ble_eq_true rfl) ?_
  refine Bod.go dc_409_200 rfl ?_
  refine Bod.ifT dc_409_202 rfl (k1_ge_T a rfl (by omega)) ?_
  refine Bod.go dc_409_207 rfl ?_
  refine Bod.go dc_409_208 rfl ?_
  refine Bod.get dc_409_209 fr_409_493 (mk_61 _) rfl ?_
  refine Bod.eqI (nI t1) (by first | assumption | (simp (disch := omega) only [rI, rIe, rA, rIA, rLA, rJA, rVI, rQI, rVA, rQA, upd_at,  rAI, rLI, rJI, nI_add, pk_sub, kc_0, kc_1, kc_2, kc_3, kc_4, kc_5, reduceIte, Nat.reduceEqDiff, Nat.add_zero, rI_hold, rI_hold, rL_hold, ht, he91, ht1]; done) | (simp (disch := omega) only [rI, rIe, rA, rIA, rLA, rJA, rVI, rQI, rVA, rQA, upd_at,  rAI, rLI, rJI, nI_add, pk_sub, kc_0, kc_1, kc_2, kc_3, kc_4, kc_5, reduceIte, Nat.reduceEqDiff, Nat.add_zero, rI_hold, rI_hold, rL_hold, ht, he91, ht1]; exact congrArg nI (by omega))) ?_
  refine Bod.ic 2 (by decide) dc_409_212 ?_
  refine Bod.subN (t1 - 2) (by omega) (by omega) dc_409_213 ?_
  refine Bod.put dc_409_214 fr_409_493 (mk_61 _) (Nat.le_of_ble_eq_true rfl) pf_14_51 (st_6151 _ _) (mu_I _ _ _) ?_
  refine Bod.go dc_409_217 rfl ?_
  refine Bod.go dc_409_218 rfl ?_
  refine Bod.get dc_409_219 fr_409_462 (mk_thing ag (by first | exact hz1 | (simp only [rIS, rJS, rAS, rLS, rVS, rQS, rS_hold]; exact hz1))) rfl ?_
  refine Bod.eqV (.ref r) (by first | exact hv1 | (simp only [rIV, rJV, rAV, rLV, rQV, rV, reduceIte, Nat.reduceEqDiff]; exact hv1)) ?_
  refine Bod.go dc_409_222 rfl ?_
  refine Bod.ialdN (N := N) a rfl (by omega) (by omega) dc_409_224 (mk_isI (by first | exact hg1 | exact isK_S (by simp only [rIS, rJS, rAS, rLS, rVS, rQS, rS_hold]) hg1)) ?_
  refine Bod.eqI (nI e) (by first | assumption | (simp (disch := omega) only [rI, rIe, rA, rIA, rLA, rJA, rVI, rQI, rVA, rQA, upd_at,  rAI, rLI, rJI, nI_add, pk_sub, kc_0, kc_1, kc_2, kc_3, kc_4, kc_5, reduceIte, Nat.reduceEqDiff, Nat.add_zero, rI_hold, rI_hold, rL_hold, ht, he91, ht1, he]; done) | (simp (disch := omega) only [rI, rIe, rA, rIA, rLA, rJA, rVI, rQI, rVA, rQA, upd_at,  rAI, rLI, rJI, nI_add, pk_sub, kc_0, kc_1, kc_2, kc_3, kc_4, kc_5, reduceIte, Nat.reduceEqDiff, Nat.add_zero, rI_hold, rI_hold, rL_hold, ht, he91, ht1, he]; exact congrArg nI (by omega))) ?_
  refine Bod.go dc_409_225 rfl ?_
  refine Bod.get dc_409_226 fr_409_465 (mk_thing ag (by first | exact hz1 | (simp only [rIS, rJS, rAS, rLS, rVS, rQS, rS_hold]; exact hz1))) rfl ?_
  refine Bod.eqV (.ref r1) (by first | exact hv2 | (simp only [rIV, rJV, rAV, rLV, rQV, rV, reduceIte, Nat.reduceEqDiff]; exact hv2)) ?_
  refine Bod.go dc_409_229 rfl ?_
  refine Bod.laldN (N := N1) a rfl (by omega) (by omega) dc_409_231 (mk_isL (by first | exact hg2 | exact isK_S (by simp only [rIS, rJS, rAS, rLS, rVS, rQS, rS_hold]) hg2)) ?_
  refine Bod.go dc_409_232 rfl ?_
  refine Bod.get dc_409_233 fr_409_627 (mk_thing ag (by first | exact hz1 | (simp only [rIS, rJS, rAS, rLS, rVS, rQS, rS_hold]; exact hz1))) rfl ?_
  refine Bod.eqV (.ref r2) (by first | exact hv3 | (simp only [rIV, rJV, rAV, rLV, rQV, rV, reduceIte, Nat.reduceEqDiff]; exact hv3)) ?_
  refine Bod.go dc_409_236 rfl ?_
  refine Bod.laldN (N := N2) a rfl (by omega) (by omega) dc_409_238 (mk_isL (by first | exact hg3 | exact isK_S (by simp only [rIS, rJS, rAS, rLS, rVS, rQS, rS_hold]) hg3)) ?_
  refine Bod.virt (r := []) dc_409_239 kr_409_549 ⟨Or.inl rfl, ow_352, cl_14⟩ (by rw [np_352]; rfl) (by rw [np_352]; rfl) (ob_of (mk_61 _)) (Nat.le_of_ble_eq_true rfl) (c4  ) ?_
  show Bod _ _ _ _ [] _ _ _
  refine Bod.ic 1 (by decide) dc_409_242 ?_
  exact Bod.retZ dc_409_243 rt_409 (Or.inr rfl)
theorem rGi_2 {d : Nat} {S : cS} {t : Nat} {e91 : Nat} {S1 : cS} {S2 : cS} {g : Nat} {zg : Nat} {S3 : cS} (ht : sI S 6151 = nI t) (mt : t < 20481) (b1 : 2 ≤ t) (b2 : 1 ≤ t) (he91 : sA S 91 (t - 2) = nI e91) (me91 : e91 < 2 ^ 20) (b3 : e91 ≠ 2) (c1 : Ans (d + 8) 363 [.ref 61, .int (nI (t - 2)), .int (nI 1)] S (some (.int (nI 1))) S1) (ag : 108 ≤ g) (c2 : Ans (d + 8) 361 [.ref 61, .int (nI (t - 2))] S1 (some (.ref g)) S2) (c3 : Ans (d + 8) 410 [.ref 61, .ref g, .int (nI (t - 1))] S2 (some (.int (Int32.ofInt (-1)))) S3) : Bod (d + 8) 409 0 [(0, .ref 61)] [] S (some (.int 0)) (S3) := by
  refine Bod.go dc_409_0 rfl ?_
  refine Bod.get dc_409_1 fr_409_493 (mk_61 _) rfl ?_
  refine Bod.eqI (nI t) (by first | assumption | rfl | exact congrArg nI (by omega) | (simp (disch := omega) only [rI, rIe, rA, rIA, rLA, rJA, rVI, rQI, rVA, rQA, upd_at,  rAI, rLI, rJI, nI_add, pk_sub, kc_0, kc_1, kc_2, kc_3, kc_4, kc_5, reduceIte, Nat.reduceEqDiff, Nat.add_zero, rI_hold, rI_hold, rL_hold, ht]; done)) ?_
  refine Bod.ic 2 (by decide) dc_409_4 ?_
  refine Bod.subN (t - 2) (by omega) (by omega) dc_409_5 ?_
  refine Bod.istn dc_409_6 (by rw [ml_409]; exact Nat.le_of_ble_eq_true rfl) ?_
  refine Bod.go dc_409_7 rfl ?_
  refine Bod.get dc_409_8 fr_409_493 (mk_61 _) rfl ?_
  refine Bod.eqI (nI t) (by first | assumption | rfl | exact congrArg nI (by omega) | (simp (disch := omega) only [rI, rIe, rA, rIA, rLA, rJA, rVI, rQI, rVA, rQA, upd_at,  rAI, rLI, rJI, nI_add, pk_sub, kc_0, kc_1, kc_2, kc_3, kc_4, kc_5, reduceIte, Nat.reduceEqDiff, Nat.add_zero, rI_hold, rI_hold, rL_hold, ht]; done)) ?_
  refine Bod.ic 1 (by decide) dc_409_11 ?_
  refine Bod.subN (t - 1) (by omega) (by omega) dc_409_12 ?_
  refine Bod.istn dc_409_13 (by rw [ml_409]; exact Nat.le_of_ble_eq_true rfl) ?_
  refine Bod.go dc_409_14 rfl ?_
  refine Bod.get dc_409_15 fr_409_496 (mk_61 _) rfl ?_
  refine Bod.go dc_409_18 rfl ?_
  refine Bod.ialdN (t - 2) rfl (by omega) (by omega) dc_409_19 (mk_91 _) ?_
  refine Bod.eqI (nI e91) (by first | assumption | rfl | exact congrArg nI (by omega) | (simp (disch := omega) only [rI, rIe, rA, rIA, rLA, rJA, rVI, rQI, rVA, rQA, upd_at,  rAI, rLI, rJI, nI_add, pk_sub, kc_0, kc_1, kc_2, kc_3, kc_4, kc_5, reduceIte, Nat.reduceEqDiff, Nat.add_zero, rI_hold, rI_hold, rL_hold, ht, he91]; done)) ?_
  refine Bod.ic 2 (by decide) dc_409_20 ?_
  refine Bod.icT dc_409_21 rfl (k2_ne_T (k_ne e91 2 rfl rfl (by omega) (by omega) (by omega))) ?_
  refine Bod.go dc_409_162 rfl ?_
  refine Bod.go dc_409_163 rfl ?_
  refine Bod.ic 1 (by decide) dc_409_164 ?_
  refine Bod.virt (r := []) dc_409_165 kr_409_683 ⟨Or.inl rfl, ow_363, cl_14⟩ (by rw [np_363]; rfl) (by rw [np_363]; rfl) (ob_of (mk_61 _)) (Nat.le_of_ble_eq_true rfl) (c1  ) ?_
  show Bod _ _ _ _ [_] _ _ _
  refine Bod.ifT dc_409_168 rfl (k1_ne_T (k_ne 1 0 rfl rfl (by omega) (by omega) (by omega))) ?_
  refine Bod.go dc_409_186 rfl ?_
  refine Bod.go dc_409_187 rfl ?_
  refine Bod.virt (r := []) dc_409_188 kr_409_554 ⟨Or.inl rfl, ow_361, cl_14⟩ (by rw [np_361]; rfl) (by rw [np_361]; rfl) (ob_of (mk_61 _)) (Nat.le_of_ble_eq_true rfl) (c2  ) ?_
  show Bod _ _ _ _ [_] _ _ _
  refine Bod.astn dc_409_191 (by rw [ml_409]; exact Nat.le_of_ble_eq_true rfl) ?_
  refine Bod.go dc_409_192 rfl ?_
  refine Bod.go dc_409_193 rfl ?_
  refine Bod.go dc_409_194 rfl ?_
  refine Bod.virt (r := []) dc_409_195 kr_409_768 ⟨Or.inl rfl, ow_410, cl_14⟩ (by rw [np_410]; rfl) (by rw [np_410]; rfl) (ob_of (mk_61 _)) (Nat.le_of_ble_eq_true rfl) (c3  ) ?_
  show Bod _ _ _ _ [_] _ _ _
  refine Bod.ist dc_409_198 (by rw [ml_409]; exact Nat.le_of_ble_eq_true rfl) ?_
  refine Bod.go dc_409_200 rfl ?_
  refine Bod.ifF dc_409_202 rfl (by decide) ?_
  refine Bod.ic 0 (by decide) dc_409_205 ?_
  exact Bod.retZ dc_409_206 rt_409 (Or.inl rfl)
theorem rGi_3 {d : Nat} {S : cS} {t : Nat} {e91 : Nat} {S1 : cS} {S2 : cS} {S3 : cS} {g : Nat} {zg : Nat} {S4 : cS} {a : Nat} {t1 : Nat} {r : Nat} {N : Nat} {e : Nat} {r1 : Nat} {N1 : Nat} {r2 : Nat} {N2 : Nat} {S5 : cS} (ht : sI S 6151 = nI t) (mt : t < 20481) (b1 : 2 ≤ t) (b2 : 1 ≤ t) (he91 : sA S 91 (t - 2) = nI e91) (me91 : e91 < 2 ^ 20) (b3 : e91 ≠ 2) (c1 : Ans (d + 8) 363 [.ref 61, .int (nI (t - 2)), .int (nI 1)] S (some (.int (nI 0))) S1) (c2 : Ans (d + 8) 363 [.ref 61, .int (nI (t - 2)), .int (nI 2)] S1 (some (.int (nI 1))) S2) (ag : 108 ≤ g) (c3 : Ans (d + 8) 361 [.ref 61, .int (nI (t - 2))] S2 (some (.ref g)) S3) (ma : a < 2 ^ 20) (c4 : Ans (d + 8) 410 [.ref 61, .ref g, .int (nI (t - 1))] S3 (some (.int (nI a))) S4) (ht1 : sI S4 6151 = nI t1) (mt1 : t1 < 20481) (b4 : 2 ≤ t1) (hz1 : (sS S4)[g - 108]? = some (13, zg)) (hv1 : sV S4 (100 * g + 2) = .ref r) (hg1 : isK S4 r 0 N) (mN : N < 2 ^ 20) (b5 : a < N) (he : sA (wI 6151 (nI (t1 - 2)) S4) r a = nI e) (me : e < 2 ^ 20) (hv2 : sV S4 (100 * g + 4) = .ref r1) (hg2 : isK S4 r1 1 N1) (mN1 : N1 < 2 ^ 20) (b6 : a < N1) (hv3 : sV S4 (100 * g + 5) = .ref r2) (hg3 : isK S4 r2 1 N2) (mN2 : N2 < 2 ^ 20) (b7 : a < N2) (c5 : Ans (d + 8) 352 [.ref 61, .int (nI e), .long (sL (wI 6151 (nI (t1 - 2)) S4) r1 a), .long (sL (wI 6151 (nI (t1 - 2)) S4) r2 a)] (wI 6151 (nI (t1 - 2)) S4) none S5) : Bod (d + 8) 409 0 [(0, .ref 61)] [] S (some (.int 1)) (S5) := by
  refine Bod.go dc_409_0 rfl ?_
  refine Bod.get dc_409_1 fr_409_493 (mk_61 _) rfl ?_
  refine Bod.eqI (nI t) (by first | assumption | rfl | exact congrArg nI (by omega) | (simp (disch := omega) only [rI, rIe, rA, rIA, rLA, rJA, rVI, rQI, rVA, rQA, upd_at,  rAI, rLI, rJI, nI_add, pk_sub, kc_0, kc_1, kc_2, kc_3, kc_4, kc_5, reduceIte, Nat.reduceEqDiff, Nat.add_zero, rI_hold, rI_hold, rL_hold, ht]; done)) ?_
  refine Bod.ic 2 (by decide) dc_409_4 ?_
  refine Bod.subN (t - 2) (by omega) (by omega) dc_409_5 ?_
  refine Bod.istn dc_409_6 (by rw [ml_409]; exact Nat.le_of_ble_eq_true rfl) ?_
  refine Bod.go dc_409_7 rfl ?_
  refine Bod.get dc_409_8 fr_409_493 (mk_61 _) rfl ?_
  refine Bod.eqI (nI t) (by first | assumption | rfl | exact congrArg nI (by omega) | (simp (disch := omega) only [rI, rIe, rA, rIA, rLA, rJA, rVI, rQI, rVA, rQA, upd_at,  rAI, rLI, rJI, nI_add, pk_sub, kc_0, kc_1, kc_2, kc_3, kc_4, kc_5, reduceIte, Nat.reduceEqDiff, Nat.add_zero, rI_hold, rI_hold, rL_hold, ht]; done)) ?_
  refine Bod.ic 1 (by decide) dc_409_11 ?_
  refine Bod.subN (t - 1) (by omega) (by omega) dc_409_12 ?_
  refine Bod.istn dc_409_13 (by rw [ml_409]; exact Nat.le_of_ble_eq_true rfl) ?_
  refine Bod.go dc_409_14 rfl ?_
  refine Bod.get dc_409_15 fr_409_496 (mk_61 _) rfl ?_
  refine Bod.go dc_409_18 rfl ?_
  refine Bod.ialdN (t - 2) rfl (by omega) (by omega) dc_409_19 (mk_91 _) ?_
  refine Bod.eqI (nI e91) (by first | assumption | rfl | exact congrArg nI (by omega) | (simp (disch := omega) only [rI, rIe, rA, rIA, rLA, rJA, rVI, rQI, rVA, rQA, upd_at,  rAI, rLI, rJI, nI_add, pk_sub, kc_0, kc_1, kc_2, kc_3, kc_4, kc_5, reduceIte, Nat.reduceEqDiff, Nat.add_zero, rI_hold, rI_hold, rL_hold, ht, he91]; done)) ?_
  refine Bod.ic 2 (by decide) dc_409_20 ?_
  refine Bod.icT dc_409_21 rfl (k2_ne_T (k_ne e91 2 rfl rfl (by omega) (by omega) (by omega))) ?_
  refine Bod.go dc_409_162 rfl ?_
  refine Bod.go dc_409_163 rfl ?_
  refine Bod.ic 1 (by decide) dc_409_164 ?_
  refine Bod.virt (r := []) dc_409_165 kr_409_683 ⟨Or.inl rfl, ow_363, cl_14⟩ (by rw [np_363]; rfl) (by rw [np_363]; rfl) (ob_of (mk_61 _)) (Nat.le_of_ble_eq_true rfl) (c1  ) ?_
  show Bod _ _ _ _ [_] _ _ _
  refine Bod.ifF dc_409_168 rfl (k1_ne_F (k_eq 0 0 rfl rfl (by omega))) ?_
  refine Bod.go dc_409_171 rfl ?_
  refine Bod.go dc_409_172 rfl ?_
  refine Bod.ic 2 (by decide) dc_409_173 ?_
  refine Bod.virt (r := []) dc_409_174 kr_409_683 ⟨Or.inl rfl, ow_363, cl_14⟩ (by rw [np_363]; rfl) (by rw [np_363]; rfl) (ob_of (mk_61 _)) (Nat.le_of_ble_eq_true rfl) (c2  ) ?_
  show Bod _ _ _ _ [_] _ _ _
  refine Bod.ifT dc_409_177 rfl (k1_ne_T (k_ne 1 0 rfl rfl (by omega) (by omega) (by omega))) ?_
  refine Bod.go dc_409_186 rfl ?_
  refine Bod.go dc_409_187 rfl ?_
  refine Bod.virt (r := []) dc_409_188 kr_409_554 ⟨Or.inl rfl, ow_361, cl_14⟩ (by rw [np_361]; rfl) (by rw [np_361]; rfl) (ob_of (mk_61 _)) (Nat.le_of_ble_eq_true rfl) (c3  ) ?_
  show Bod _ _ _ _ [_] _ _ _
  refine Bod.astn dc_409_191 (by rw [ml_409]; exact Nat.le_of_ble_eq_true rfl) ?_
  refine Bod.go dc_409_192 rfl ?_
  refine Bod.go dc_409_193 rfl ?_
  refine Bod.go dc_409_194 rfl ?_
  refine Bod.virt (r := []) dc_409_195 kr_409_768 ⟨Or.inl rfl, ow_410, cl_14⟩ (by rw [np_410]; rfl) (by rw [np_410]; rfl) (ob_of (mk_61 _)) (Nat.le_of_ble_eq_true rfl) (c4  ) ?_
  show Bod _ _ _ _ [_] _ _ _
  refine Bod.ist dc_409_198 (by rw [ml_409]; exact Nat.le_of_ble_eq_true rfl) ?_
  refine Bod.go dc_409_200 rfl ?_
  refine Bod.ifT dc_409_202 rfl (k1_ge_T a rfl (by omega)) ?_
  refine Bod.go dc_409_207 rfl ?_
  refine Bod.go dc_409_208 rfl ?_
  refine Bod.get dc_409_209 fr_409_493 (mk_61 _) rfl ?_
  refine Bod.eqI (nI t1) (by first | assumption | (simp (disch := omega) only [rI, rIe, rA, rIA, rLA, rJA, rVI, rQI, rVA, rQA, upd_at,  rAI, rLI, rJI, nI_add, pk_sub, kc_0, kc_1, kc_2, kc_3, kc_4, kc_5, reduceIte, Nat.reduceEqDiff, Nat.add_zero, rI_hold, rI_hold, rL_hold, ht, he91, ht1]; done) | (simp (disch := omega) only [rI, rIe, rA, rIA, rLA, rJA, rVI, rQI, rVA, rQA, upd_at,  rAI, rLI, rJI, nI_add, pk_sub, kc_0, kc_1, kc_2, kc_3, kc_4, kc_5, reduceIte, Nat.reduceEqDiff, Nat.add_zero, rI_hold, rI_hold, rL_hold, ht, he91, ht1]; exact congrArg nI (by omega))) ?_
  refine Bod.ic 2 (by decide) dc_409_212 ?_
  refine Bod.subN (t1 - 2) (by omega) (by omega) dc_409_213 ?_
  refine Bod.put dc_409_214 fr_409_493 (mk_61 _) (Nat.le_of_ble_eq_true rfl) pf_14_51 (st_6151 _ _) (mu_I _ _ _) ?_
  refine Bod.go dc_409_217 rfl ?_
  refine Bod.go dc_409_218 rfl ?_
  refine Bod.get dc_409_219 fr_409_462 (mk_thing ag (by first | exact hz1 | (simp only [rIS, rJS, rAS, rLS, rVS, rQS, rS_hold]; exact hz1))) rfl ?_
  refine Bod.eqV (.ref r) (by first | exact hv1 | (simp only [rIV, rJV, rAV, rLV, rQV, rV, reduceIte, Nat.reduceEqDiff]; exact hv1)) ?_
  refine Bod.go dc_409_222 rfl ?_
  refine Bod.ialdN (N := N) a rfl (by omega) (by omega) dc_409_224 (mk_isI (by first | exact hg1 | exact isK_S (by simp only [rIS, rJS, rAS, rLS, rVS, rQS, rS_hold]) hg1)) ?_
  refine Bod.eqI (nI e) (by first | assumption | (simp (disch := omega) only [rI, rIe, rA, rIA, rLA, rJA, rVI, rQI, rVA, rQA, upd_at,  rAI, rLI, rJI, nI_add, pk_sub, kc_0, kc_1, kc_2, kc_3, kc_4, kc_5, reduceIte, Nat.reduceEqDiff, Nat.add_zero, rI_hold, rI_hold, rL_hold, ht, he91, ht1, he]; done) | (simp (disch := omega) only [rI, rIe, rA, rIA, rLA, rJA, rVI, rQI, rVA, rQA, upd_at,  rAI, rLI, rJI, nI_add, pk_sub, kc_0, kc_1, kc_2, kc_3, kc_4, kc_5, reduceIte, Nat.reduceEqDiff, Nat.add_zero, rI_hold, rI_hold, rL_hold, ht, he91, ht1, he]; exact congrArg nI (by omega))) ?_
  refine Bod.go dc_409_225 rfl ?_
  refine Bod.get dc_409_226 fr_409_465 (mk_thing ag (by first | exact hz1 | (simp only [rIS, rJS, rAS, rLS, rVS, rQS, rS_hold]; exact hz1))) rfl ?_
  refine Bod.eqV (.ref r1) (by first | exact hv2 | (simp only [rIV, rJV, rAV, rLV, rQV, rV, reduceIte, Nat.reduceEqDiff]; exact hv2)) ?_
  refine Bod.go dc_409_229 rfl ?_
  refine Bod.laldN (N := N1) a rfl (by omega) (by omega) dc_409_231 (mk_isL (by first | exact hg2 | exact isK_S (by simp only [rIS, rJS, rAS, rLS, rVS, rQS, rS_hold]) hg2)) ?_
  refine Bod.go dc_409_232 rfl ?_
  refine Bod.get dc_409_233 fr_409_627 (mk_thing ag (by first | exact hz1 | (simp only [rIS, rJS, rAS, rLS, rVS, rQS, rS_hold]; exact hz1))) rfl ?_
  refine Bod.eqV (.ref r2) (by first | exact hv3 | (simp only [rIV, rJV, rAV, rLV, rQV, rV, reduceIte, Nat.reduceEqDiff]; exact hv3)) ?_
  refine Bod.go dc_409_236 rfl ?_
  refine Bod.laldN (N := N2) a rfl (by omega) (by omega) dc_409_238 (mk_isL (by first | exact hg3 | exact isK_S (by simp only [rIS, rJS, rAS, rLS, rVS, rQS, rS_hold]) hg3)) ?_
  refine Bod.virt (r := []) dc_409_239 kr_409_549 ⟨Or.inl rfl, ow_352, cl_14⟩ (by rw [np_352]; rfl) (by rw [np_352]; rfl) (ob_of (mk_61 _)) (Nat.le_of_ble_eq_true rfl) (c5  ) ?_
  show Bod _ _ _ _ [] _ _ _
  refine Bod.ic 1 (by decide) dc_409_242 ?_
  exact Bod.retZ dc_409_243 rt_409 (Or.inr rfl)
theorem rGi_4 {d : Nat} {S : cS} {t : Nat} {e91 : Nat} {S1 : cS} {S2 : cS} {S3 : cS} {g : Nat} {zg : Nat} {S4 : cS} (ht : sI S 6151 = nI t) (mt : t < 20481) (b1 : 2 ≤ t) (b2 : 1 ≤ t) (he91 : sA S 91 (t - 2) = nI e91) (me91 : e91 < 2 ^ 20) (b3 : e91 ≠ 2) (c1 : Ans (d + 8) 363 [.ref 61, .int (nI (t - 2)), .int (nI 1)] S (some (.int (nI 0))) S1) (c2 : Ans (d + 8) 363 [.ref 61, .int (nI (t - 2)), .int (nI 2)] S1 (some (.int (nI 1))) S2) (ag : 108 ≤ g) (c3 : Ans (d + 8) 361 [.ref 61, .int (nI (t - 2))] S2 (some (.ref g)) S3) (c4 : Ans (d + 8) 410 [.ref 61, .ref g, .int (nI (t - 1))] S3 (some (.int (Int32.ofInt (-1)))) S4) : Bod (d + 8) 409 0 [(0, .ref 61)] [] S (some (.int 0)) (S4) := by
  refine Bod.go dc_409_0 rfl ?_
  refine Bod.get dc_409_1 fr_409_493 (mk_61 _) rfl ?_
  refine Bod.eqI (nI t) (by first | assumption | rfl | exact congrArg nI (by omega) | (simp (disch := omega) only [rI, rIe, rA, rIA, rLA, rJA, rVI, rQI, rVA, rQA, upd_at,  rAI, rLI, rJI, nI_add, pk_sub, kc_0, kc_1, kc_2, kc_3, kc_4, kc_5, reduceIte, Nat.reduceEqDiff, Nat.add_zero, rI_hold, rI_hold, rL_hold, ht]; done)) ?_
  refine Bod.ic 2 (by decide) dc_409_4 ?_
  refine Bod.subN (t - 2) (by omega) (by omega) dc_409_5 ?_
  refine Bod.istn dc_409_6 (by rw [ml_409]; exact Nat.le_of_ble_eq_true rfl) ?_
  refine Bod.go dc_409_7 rfl ?_
  refine Bod.get dc_409_8 fr_409_493 (mk_61 _) rfl ?_
  refine Bod.eqI (nI t) (by first | assumption | rfl | exact congrArg nI (by omega) | (simp (disch := omega) only [rI, rIe, rA, rIA, rLA, rJA, rVI, rQI, rVA, rQA, upd_at,  rAI, rLI, rJI, nI_add, pk_sub, kc_0, kc_1, kc_2, kc_3, kc_4, kc_5, reduceIte, Nat.reduceEqDiff, Nat.add_zero, rI_hold, rI_hold, rL_hold, ht]; done)) ?_
  refine Bod.ic 1 (by decide) dc_409_11 ?_
  refine Bod.subN (t - 1) (by omega) (by omega) dc_409_12 ?_
  refine Bod.istn dc_409_13 (by rw [ml_409]; exact Nat.le_of_ble_eq_true rfl) ?_
  refine Bod.go dc_409_14 rfl ?_
  refine Bod.get dc_409_15 fr_409_496 (mk_61 _) rfl ?_
  refine Bod.go dc_409_18 rfl ?_
  refine Bod.ialdN (t - 2) rfl (by omega) (by omega) dc_409_19 (mk_91 _) ?_
  refine Bod.eqI (nI e91) (by first | assumption | rfl | exact congrArg nI (by omega) | (simp (disch := omega) only [rI, rIe, rA, rIA, rLA, rJA, rVI, rQI, rVA, rQA, upd_at,  rAI, rLI, rJI, nI_add, pk_sub, kc_0, kc_1, kc_2, kc_3, kc_4, kc_5, reduceIte, Nat.reduceEqDiff, Nat.add_zero, rI_hold, rI_hold, rL_hold, ht, he91]; done)) ?_
  refine Bod.ic 2 (by decide) dc_409_20 ?_
  refine Bod.icT dc_409_21 rfl (k2_ne_T (k_ne e91 2 rfl rfl (by omega) (by omega) (by omega))) ?_
  refine Bod.go dc_409_162 rfl ?_
  refine Bod.go dc_409_163 rfl ?_
  refine Bod.ic 1 (by decide) dc_409_164 ?_
  refine Bod.virt (r := []) dc_409_165 kr_409_683 ⟨Or.inl rfl, ow_363, cl_14⟩ (by rw [np_363]; rfl) (by rw [np_363]; rfl) (ob_of (mk_61 _)) (Nat.le_of_ble_eq_true rfl) (c1  ) ?_
  show Bod _ _ _ _ [_] _ _ _
  refine Bod.ifF dc_409_168 rfl (k1_ne_F (k_eq 0 0 rfl rfl (by omega))) ?_
  refine Bod.go dc_409_171 rfl ?_
  refine Bod.go dc_409_172 rfl ?_
  refine Bod.ic 2 (by decide) dc_409_173 ?_
  refine Bod.virt (r := []) dc_409_174 kr_409_683 ⟨Or.inl rfl, ow_363, cl_14⟩ (by rw [np_363]; rfl) (by rw [np_363]; rfl) (ob_of (mk_61 _)) (Nat.le_of_ble_eq_true rfl) (c2  ) ?_
  show Bod _ _ _ _ [_] _ _ _
  refine Bod.ifT dc_409_177 rfl (k1_ne_T (k_ne 1 0 rfl rfl (by omega) (by omega) (by omega))) ?_
  refine Bod.go dc_409_186 rfl ?_
  refine Bod.go dc_409_187 rfl ?_
  refine Bod.virt (r := []) dc_409_188 kr_409_554 ⟨Or.inl rfl, ow_361, cl_14⟩ (by rw [np_361]; rfl) (by rw [np_361]; rfl) (ob_of (mk_61 _)) (Nat.le_of_ble_eq_true rfl) (c3  ) ?_
  show Bod _ _ _ _ [_] _ _ _
  refine Bod.astn dc_409_191 (by rw [ml_409]; exact Nat.le_of_ble_eq_true rfl) ?_
  refine Bod.go dc_409_192 rfl ?_
  refine Bod.go dc_409_193 rfl ?_
  refine Bod.go dc_409_194 rfl ?_
  refine Bod.virt (r := []) dc_409_195 kr_409_768 ⟨Or.inl rfl, ow_410, cl_14⟩ (by rw [np_410]; rfl) (by rw [np_410]; rfl) (ob_of (mk_61 _)) (Nat.le_of_ble_eq_true rfl) (c4  ) ?_
  show Bod _ _ _ _ [_] _ _ _
  refine Bod.ist dc_409_198 (by rw [ml_409]; exact Nat.le_of_ble_eq_true rfl) ?_
  refine Bod.go dc_409_200 rfl ?_
  refine Bod.ifF dc_409_202 rfl (by decide) ?_
  refine Bod.ic 0 (by decide) dc_409_205 ?_
  exact Bod.retZ dc_409_206 rt_409 (Or.inl rfl)
theorem rGi_5 {d : Nat} {S : cS} {t : Nat} {e91 : Nat} {S1 : cS} {S2 : cS} {S3 : cS} (ht : sI S 6151 = nI t) (mt : t < 20481) (b1 : 2 ≤ t) (b2 : 1 ≤ t) (he91 : sA S 91 (t - 2) = nI e91) (me91 : e91 < 2 ^ 20) (b3 : e91 ≠ 2) (c1 : Ans (d + 8) 363 [.ref 61, .int (nI (t - 2)), .int (nI 1)] S (some (.int (nI 0))) S1) (c2 : Ans (d + 8) 363 [.ref 61, .int (nI (t - 2)), .int (nI 2)] S1 (some (.int (nI 0))) S2) (c3 : Ans (d + 8) 351 [.ref 61, .int (nI 2)] S2 (some (.int (nI 0))) S3) : Bod (d + 8) 409 0 [(0, .ref 61)] [] S (some (.int 0)) (S3) := by
  refine Bod.go dc_409_0 rfl ?_
  refine Bod.get dc_409_1 fr_409_493 (mk_61 _) rfl ?_
  refine Bod.eqI (nI t) (by first | assumption | rfl | exact congrArg nI (by omega) | (simp (disch := omega) only [rI, rIe, rA, rIA, rLA, rJA, rVI, rQI, rVA, rQA, upd_at,  rAI, rLI, rJI, nI_add, pk_sub, kc_0, kc_1, kc_2, kc_3, kc_4, kc_5, reduceIte, Nat.reduceEqDiff, Nat.add_zero, rI_hold, rI_hold, rL_hold, ht]; done)) ?_
  refine Bod.ic 2 (by decide) dc_409_4 ?_
  refine Bod.subN (t - 2) (by omega) (by omega) dc_409_5 ?_
  refine Bod.istn dc_409_6 (by rw [ml_409]; exact Nat.le_of_ble_eq_true rfl) ?_
  refine Bod.go dc_409_7 rfl ?_
  refine Bod.get dc_409_8 fr_409_493 (mk_61 _) rfl ?_
  refine Bod.eqI (nI t) (by first | assumption | rfl | exact congrArg nI (by omega) | (simp (disch := omega) only [rI, rIe, rA, rIA, rLA, rJA, rVI, rQI, rVA, rQA, upd_at,  rAI, rLI, rJI, nI_add, pk_sub, kc_0, kc_1, kc_2, kc_3, kc_4, kc_5, reduceIte, Nat.reduceEqDiff, Nat.add_zero, rI_hold, rI_hold, rL_hold, ht]; done)) ?_
  refine Bod.ic 1 (by decide) dc_409_11 ?_
  refine Bod.subN (t - 1) (by omega) (by omega) dc_409_12 ?_
  refine Bod.istn dc_409_13 (by rw [ml_409]; exact Nat.le_of_ble_eq_true rfl) ?_
  refine Bod.go dc_409_14 rfl ?_
  refine Bod.get dc_409_15 fr_409_496 (mk_61 _) rfl ?_
  refine Bod.go dc_409_18 rfl ?_
  refine Bod.ialdN (t - 2) rfl (by omega) (by omega) dc_409_19 (mk_91 _) ?_
  refine Bod.eqI (nI e91) (by first | assumption | rfl | exact congrArg nI (by omega) | (simp (disch := omega) only [rI, rIe, rA, rIA, rLA, rJA, rVI, rQI, rVA, rQA, upd_at,  rAI, rLI, rJI, nI_add, pk_sub, kc_0, kc_1, kc_2, kc_3, kc_4, kc_5, reduceIte, Nat.reduceEqDiff, Nat.add_zero, rI_hold, rI_hold, rL_hold, ht, he91]; done)) ?_
  refine Bod.ic 2 (by decide) dc_409_20 ?_
  refine Bod.icT dc_409_21 rfl (k2_ne_T (k_ne e91 2 rfl rfl (by omega) (by omega) (by omega))) ?_
  refine Bod.go dc_409_162 rfl ?_
  refine Bod.go dc_409_163 rfl ?_
  refine Bod.ic 1 (by decide) dc_409_164 ?_
  refine Bod.virt (r := []) dc_409_165 kr_409_683 ⟨Or.inl rfl, ow_363, cl_14⟩ (by rw [np_363]; rfl) (by rw [np_363]; rfl) (ob_of (mk_61 _)) (Nat.le_of_ble_eq_true rfl) (c1  ) ?_
  show Bod _ _ _ _ [_] _ _ _
  refine Bod.ifF dc_409_168 rfl (k1_ne_F (k_eq 0 0 rfl rfl (by omega))) ?_
  refine Bod.go dc_409_171 rfl ?_
  refine Bod.go dc_409_172 rfl ?_
  refine Bod.ic 2 (by decide) dc_409_173 ?_
  refine Bod.virt (r := []) dc_409_174 kr_409_683 ⟨Or.inl rfl, ow_363, cl_14⟩ (by rw [np_363]; rfl) (by rw [np_363]; rfl) (ob_of (mk_61 _)) (Nat.le_of_ble_eq_true rfl) (c2  ) ?_
  show Bod _ _ _ _ [_] _ _ _
  refine Bod.ifF dc_409_177 rfl (k1_ne_F (k_eq 0 0 rfl rfl (by omega))) ?_
  refine Bod.go dc_409_180 rfl ?_
  refine Bod.ic 2 (by decide) dc_409_181 ?_
  refine Bod.virt (r := []) dc_409_182 kr_409_608 ⟨Or.inl rfl, ow_351, cl_14⟩ (by rw [np_351]; rfl) (by rw [np_351]; rfl) (ob_of (mk_61 _)) (Nat.le_of_ble_eq_true rfl) (c3  ) ?_
  show Bod _ _ _ _ [_] _ _ _
  exact Bod.retZ dc_409_185 rt_409 (Or.inl rfl)
theorem rGi_6 {d : Nat} {S : cS} {t : Nat} {e91 : Nat} {e911 : Nat} {S1 : cS} {a : Nat} {S2 : cS} {o : Nat} {S3 : cS} {a1 : Nat} {t1 : Nat} {S4 : cS} {u : Int64} {S5 : cS} {u1 : Int64} {S6 : cS} (ht : sI S 6151 = nI t) (mt : t < 20481) (b1 : 2 ≤ t) (b2 : 1 ≤ t) (he91 : sA S 91 (t - 2) = nI e91) (me91 : e91 < 2 ^ 20) (b3 : e91 = 2) (he911 : sA S 91 (t - 1) = nI e911) (me911 : e911 < 2 ^ 20) (b4 : e911 = 1) (ma : a < 2 ^ 20) (c1 : Ans (d + 8) 360 [.long (sL S 93 (t - 2))] S (some (.int (nI a))) S1) (w13 : sm_c1 .ge (lg_cmp (sL S1 92 (t - 1)) 0) true false = true) (b5 : 1 ≤ a) (c2 : Ans (d + 8) 284 [.long (sL S1 92 (t - 1)), .long 0, .long ((nI (a - 1)).toInt64)] S1 (some (.int (nI 1))) S2) (ho : (sL S1 92 (t - 1)).toInt32 = nI o) (mo : o < 1500) (ma1 : a1 < 2 ^ 20) (c3 : Ans (d + 8) 386 [.long (sL S2 92 (t - 2)), .long (sL S2 93 (t - 2)), .int (nI o)] S2 (some (.int (nI a1))) S3) (ht1 : sI (wA 104 0 (vp_nar .byte ((nI a1).toInt8.toInt32)) S3) 6151 = nI t1) (mt1 : t1 < 20481) (b6 : 2 ≤ t1) (c4 : Ans (d + 8) 297 [.ref 104, .int (nI 0), .int (nI 1), .int (nI 0)] (wI 6151 (nI (t1 - 2)) (wA 104 0 (vp_nar .byte ((nI a1).toInt8.toInt32)) S3)) (some (.long u)) S4) (c5 : Ans (d + 8) 297 [.ref 104, .int (nI 0), .int (nI 1), .int (nI 1)] S4 (some (.long u1)) S5) (c6 : Ans (d + 8) 352 [.ref 61, .int (nI 2), .long u, .long u1] S5 none S6) : Bod (d + 8) 409 0 [(0, .ref 61)] [] S (some (.int 1)) (S6) := by
  refine Bod.go dc_409_0 rfl ?_
  refine Bod.get dc_409_1 fr_409_493 (mk_61 _) rfl ?_
  refine Bod.eqI (nI t) (by first | assumption | rfl | exact congrArg nI (by omega) | (simp (disch := omega) only [rI, rIe, rA, rIA, rLA, rJA, rVI, rQI, rVA, rQA, upd_at,  rAI, rLI, rJI, nI_add, pk_sub, kc_0, kc_1, kc_2, kc_3, kc_4, kc_5, reduceIte, Nat.reduceEqDiff, Nat.add_zero, rI_hold, rI_hold, rL_hold, ht]; done)) ?_
  refine Bod.ic 2 (by decide) dc_409_4 ?_
  refine Bod.subN (t - 2) (by omega) (by omega) dc_409_5 ?_
  refine Bod.istn dc_409_6 (by rw [ml_409]; exact Nat.le_of_ble_eq_true rfl) ?_
  refine Bod.go dc_409_7 rfl ?_
  refine Bod.get dc_409_8 fr_409_493 (mk_61 _) rfl ?_
  refine Bod.eqI (nI t) (by first | assumption | rfl | exact congrArg nI (by omega) | (simp (disch := omega) only [rI, rIe, rA, rIA, rLA, rJA, rVI, rQI, rVA, rQA, upd_at,  rAI, rLI, rJI, nI_add, pk_sub, kc_0, kc_1, kc_2, kc_3, kc_4, kc_5, reduceIte, Nat.reduceEqDiff, Nat.add_zero, rI_hold, rI_hold, rL_hold, ht]; done)) ?_
  refine Bod.ic 1 (by decide) dc_409_11 ?_
  refine Bod.subN (t - 1) (by omega) (by omega) dc_409_12 ?_
  refine Bod.istn dc_409_13 (by rw [ml_409]; exact Nat.le_of_ble_eq_true rfl) ?_
  refine Bod.go dc_409_14 rfl ?_
  refine Bod.get dc_409_15 fr_409_496 (mk_61 _) rfl ?_
  refine Bod.go dc_409_18 rfl ?_
  refine Bod.ialdN (t - 2) rfl (by omega) (by omega) dc_409_19 (mk_91 _) ?_
  refine Bod.eqI (nI e91) (by first | assumption | rfl | exact congrArg nI (by omega) | (simp (disch := omega) only [rI, rIe, rA, rIA, rLA, rJA, rVI, rQI, rVA, rQA, upd_at,  rAI, rLI, rJI, nI_add, pk_sub, kc_0, kc_1, kc_2, kc_3, kc_4, kc_5, reduceIte, Nat.reduceEqDiff, Nat.add_zero, rI_hold, rI_hold, rL_hold, ht, he91]; done)) ?_
  refine Bod.ic 2 (by decide) dc_409_20 ?_
  refine Bod.icF dc_409_21 rfl (k2_ne_F (k_eq e91 2 rfl rfl (by omega))) ?_
  refine Bod.go dc_409_24 rfl ?_
  refine Bod.get dc_409_25 fr_409_496 (mk_61 _) rfl ?_
  refine Bod.go dc_409_28 rfl ?_
  refine Bod.ialdN (t - 1) rfl (by omega) (by omega) dc_409_29 (mk_91 _) ?_
  refine Bod.eqI (nI e911) (by first | assumption | rfl | exact congrArg nI (by omega) | (simp (disch := omega) only [rI, rIe, rA, rIA, rLA, rJA, rVI, rQI, rVA, rQA, upd_at,  rAI, rLI, rJI, nI_add, pk_sub, kc_0, kc_1, kc_2, kc_3, kc_4, kc_5, reduceIte, Nat.reduceEqDiff, Nat.add_zero, rI_hold, rI_hold, rL_hold, ht, he91, he911]; done)) ?_
  refine Bod.ic 1 (by decide) dc_409_30 ?_
  refine Bod.icT dc_409_31 rfl (k2_eq_T (k_eq e911 1 rfl rfl (by omega))) ?_
  refine Bod.go dc_409_40 rfl ?_
  refine Bod.get dc_409_41 fr_409_546 (mk_61 _) rfl ?_
  refine Bod.go dc_409_44 rfl ?_
  refine Bod.laldN (t - 2) rfl (by omega) (by omega) dc_409_45 (mk_93 _) ?_
  refine Bod.stat (r := []) dc_409_46 kr_409_552 (Or.inl rfl) (by rw [np_360]; rfl) (by rw [np_360]; rfl) (by rw [np_360]; exact Nat.le_of_ble_eq_true rfl) (Nat.le_of_ble_eq_true rfl) (c1  ) ?_
  show Bod _ _ _ _ [_] _ _ _
  refine Bod.istn dc_409_49 (by rw [ml_409]; exact Nat.le_of_ble_eq_true rfl) ?_
  refine Bod.go dc_409_50 rfl ?_
  refine Bod.get dc_409_51 fr_409_499 (mk_61 _) rfl ?_
  refine Bod.go dc_409_54 rfl ?_
  refine Bod.laldN (t - 1) rfl (by omega) (by omega) dc_409_55 (mk_92 _) ?_
  refine Bod.go dc_409_56 rfl ?_
  refine Bod.go dc_409_57 rfl ?_
  refine Bod.ifT dc_409_58 rfl w13 ?_
  refine Bod.go dc_409_73 rfl ?_
  refine Bod.get dc_409_74 fr_409_499 (mk_61 _) rfl ?_
  refine Bod.go dc_409_77 rfl ?_
  refine Bod.laldN (t - 1) rfl (by omega) (by omega) dc_409_78 (mk_92 _) ?_
  refine Bod.lst dc_409_79 (by rw [ml_409]; exact Nat.le_of_ble_eq_true rfl) ?_
  refine Bod.go dc_409_81 rfl ?_
  refine Bod.go dc_409_83 rfl ?_
  refine Bod.go dc_409_84 rfl ?_
  refine Bod.ic 1 (by decide) dc_409_85 ?_
  refine Bod.subN (a - 1) (by omega) (by omega) dc_409_86 ?_
  refine Bod.go dc_409_87 rfl ?_
  refine Bod.stat (r := []) dc_409_88 kr_409_680 (Or.inl rfl) (by rw [np_284]; rfl) (by rw [np_284]; rfl) (by rw [np_284]; exact Nat.le_of_ble_eq_true rfl) (Nat.le_of_ble_eq_true rfl) (c2  ) ?_
  show Bod _ _ _ _ [_] _ _ _
  refine Bod.ifT dc_409_91 rfl (k1_ne_T (k_ne 1 0 rfl rfl (by omega) (by omega) (by omega))) ?_
  refine Bod.go dc_409_100 rfl ?_
  refine Bod.get dc_409_101 fr_409_752 (mk_61 _) rfl ?_
  refine Bod.ic 0 (by decide) dc_409_104 ?_
  refine Bod.go dc_409_105 rfl ?_
  refine Bod.get dc_409_106 fr_409_499 (mk_61 _) rfl ?_
  refine Bod.go dc_409_109 rfl ?_
  refine Bod.laldN (t - 2) rfl (by omega) (by omega) dc_409_110 (mk_92 _) ?_
  refine Bod.go dc_409_111 rfl ?_
  refine Bod.get dc_409_112 fr_409_546 (mk_61 _) rfl ?_
  refine Bod.go dc_409_115 rfl ?_
  refine Bod.laldN (t - 2) rfl (by omega) (by omega) dc_409_116 (mk_93 _) ?_
  refine Bod.go dc_409_117 rfl ?_
  refine Bod.go dc_409_119 rfl ?_
  refine Bod.eqI (nI o) (by first | exact ho | (simp only [rI, rIe, rA, rIA, rLA, rJA, rVI, rQI, rVA, rQA, upd_at,  rAI, rLI, rJI, nI_add, pk_sub, kc_0, kc_1, kc_2, kc_3, kc_4, kc_5, reduceIte, Nat.reduceEqDiff, Nat.add_zero, rI_hold, rI_hold, rL_hold]; exact ho)) ?_
  refine Bod.stat (r := [_, _]) dc_409_120 kr_409_755 (Or.inl rfl) (by rw [np_386]; rfl) (by rw [np_386]; rfl) (by rw [np_386]; exact Nat.le_of_ble_eq_true rfl) (Nat.le_of_ble_eq_true rfl) (c3  ) ?_
  show Bod _ _ _ _ [_, _, _] _ _ _
  refine Bod.go dc_409_123 rfl ?_
  refine Bod.bastN 0 rfl (by omega) (by omega) dc_409_124 (mk_104 _) (sa_104 _ _ _) (mu_A _ _ _ _) ?_
  refine Bod.go dc_409_125 rfl ?_
  refine Bod.go dc_409_126 rfl ?_
  refine Bod.get dc_409_127 fr_409_493 (mk_61 _) rfl ?_
  refine Bod.eqI (nI t1) (by first | assumption | (simp (disch := omega) only [rI, rIe, rA, rIA, rLA, rJA, rVI, rQI, rVA, rQA, upd_at,  rAI, rLI, rJI, nI_add, pk_sub, kc_0, kc_1, kc_2, kc_3, kc_4, kc_5, reduceIte, Nat.reduceEqDiff, Nat.add_zero, rI_hold, rI_hold, rL_hold, ht, he91, he911, ht1]; done) | (simp (disch := omega) only [rI, rIe, rA, rIA, rLA, rJA, rVI, rQI, rVA, rQA, upd_at,  rAI, rLI, rJI, nI_add, pk_sub, kc_0, kc_1, kc_2, kc_3, kc_4, kc_5, reduceIte, Nat.reduceEqDiff, Nat.add_zero, rI_hold, rI_hold, rL_hold, ht, he91, he911, ht1]; exact congrArg nI (by omega))) ?_
  refine Bod.ic 2 (by decide) dc_409_130 ?_
  refine Bod.subN (t1 - 2) (by omega) (by omega) dc_409_131 ?_
  refine Bod.put dc_409_132 fr_409_493 (mk_61 _) (Nat.le_of_ble_eq_true rfl) pf_14_51 (st_6151 _ _) (mu_I _ _ _) ?_
  refine Bod.go dc_409_135 rfl ?_
  refine Bod.ic 2 (by decide) dc_409_136 ?_
  refine Bod.go dc_409_137 rfl ?_
  refine Bod.get dc_409_138 fr_409_752 (mk_61 _) rfl ?_
  refine Bod.ic 0 (by decide) dc_409_141 ?_
  refine Bod.ic 1 (by decide) dc_409_142 ?_
  refine Bod.ic 0 (by decide) dc_409_143 ?_
  refine Bod.stat (r := [_, _]) dc_409_144 kr_409_178 (Or.inl rfl) (by rw [np_297]; rfl) (by rw [np_297]; rfl) (by rw [np_297]; exact Nat.le_of_ble_eq_true rfl) (Nat.le_of_ble_eq_true rfl) (c4  ) ?_
  show Bod _ _ _ _ [_, _, _] _ _ _
  refine Bod.go dc_409_147 rfl ?_
  refine Bod.get dc_409_148 fr_409_752 (mk_61 _) rfl ?_
  refine Bod.ic 0 (by decide) dc_409_151 ?_
  refine Bod.ic 1 (by decide) dc_409_152 ?_
  refine Bod.ic 1 (by decide) dc_409_153 ?_
  refine Bod.stat (r := [_, _, _]) dc_409_154 kr_409_178 (Or.inl rfl) (by rw [np_297]; rfl) (by rw [np_297]; rfl) (by rw [np_297]; exact Nat.le_of_ble_eq_true rfl) (Nat.le_of_ble_eq_true rfl) (c5  ) ?_
  show Bod _ _ _ _ [_, _, _, _] _ _ _
  refine Bod.virt (r := []) dc_409_157 kr_409_549 ⟨Or.inl rfl, ow_352, cl_14⟩ (by rw [np_352]; rfl) (by rw [np_352]; rfl) (ob_of (mk_61 _)) (Nat.le_of_ble_eq_true rfl) (c6  ) ?_
  show Bod _ _ _ _ [] _ _ _
  refine Bod.ic 1 (by decide) dc_409_160 ?_
  exact Bod.retZ dc_409_161 rt_409 (Or.inr rfl)
theorem rGi_7 {d : Nat} {S : cS} {t : Nat} {e91 : Nat} {e911 : Nat} {S1 : cS} {a : Nat} {S2 : cS} {S3 : cS} (ht : sI S 6151 = nI t) (mt : t < 20481) (b1 : 2 ≤ t) (b2 : 1 ≤ t) (he91 : sA S 91 (t - 2) = nI e91) (me91 : e91 < 2 ^ 20) (b3 : e91 = 2) (he911 : sA S 91 (t - 1) = nI e911) (me911 : e911 < 2 ^ 20) (b4 : e911 = 1) (ma : a < 2 ^ 20) (c1 : Ans (d + 8) 360 [.long (sL S 93 (t - 2))] S (some (.int (nI a))) S1) (w13 : sm_c1 .ge (lg_cmp (sL S1 92 (t - 1)) 0) true false = true) (b5 : 1 ≤ a) (c2 : Ans (d + 8) 284 [.long (sL S1 92 (t - 1)), .long 0, .long ((nI (a - 1)).toInt64)] S1 (some (.int (nI 0))) S2) (c3 : Ans (d + 8) 351 [.ref 61, .int (nI 3)] S2 (some (.int (nI 0))) S3) : Bod (d + 8) 409 0 [(0, .ref 61)] [] S (some (.int 0)) (S3) := by
  refine Bod.go dc_409_0 rfl ?_
  refine Bod.get dc_409_1 fr_409_493 (mk_61 _) rfl ?_
  refine Bod.eqI (nI t) (by first | assumption | rfl | exact congrArg nI (by omega) | (simp (disch := omega) only [rI, rIe, rA, rIA, rLA, rJA, rVI, rQI, rVA, rQA, upd_at,  rAI, rLI, rJI, nI_add, pk_sub, kc_0, kc_1, kc_2, kc_3, kc_4, kc_5, reduceIte, Nat.reduceEqDiff, Nat.add_zero, rI_hold, rI_hold, rL_hold, ht]; done)) ?_
  refine Bod.ic 2 (by decide) dc_409_4 ?_
  refine Bod.subN (t - 2) (by omega) (by omega) dc_409_5 ?_
  refine Bod.istn dc_409_6 (by rw [ml_409]; exact Nat.le_of_ble_eq_true rfl) ?_
  refine Bod.go dc_409_7 rfl ?_
  refine Bod.get dc_409_8 fr_409_493 (mk_61 _) rfl ?_
  refine Bod.eqI (nI t) (by first | assumption | rfl | exact congrArg nI (by omega) | (simp (disch := omega) only [rI, rIe, rA, rIA, rLA, rJA, rVI, rQI, rVA, rQA, upd_at,  rAI, rLI, rJI, nI_add, pk_sub, kc_0, kc_1, kc_2, kc_3, kc_4, kc_5, reduceIte, Nat.reduceEqDiff, Nat.add_zero, rI_hold, rI_hold, rL_hold, ht]; done)) ?_
  refine Bod.ic 1 (by decide) dc_409_11 ?_
  refine Bod.subN (t - 1) (by omega) (by omega) dc_409_12 ?_
  refine Bod.istn dc_409_13 (by rw [ml_409]; exact Nat.le_of_ble_eq_true rfl) ?_
  refine Bod.go dc_409_14 rfl ?_
  refine Bod.get dc_409_15 fr_409_496 (mk_61 _) rfl ?_
  refine Bod.go dc_409_18 rfl ?_
  refine Bod.ialdN (t - 2) rfl (by omega) (by omega) dc_409_19 (mk_91 _) ?_
  refine Bod.eqI (nI e91) (by first | assumption | rfl | exact congrArg nI (by omega) | (simp (disch := omega) only [rI, rIe, rA, rIA, rLA, rJA, rVI, rQI, rVA, rQA, upd_at,  rAI, rLI, rJI, nI_add, pk_sub, kc_0, kc_1, kc_2, kc_3, kc_4, kc_5, reduceIte, Nat.reduceEqDiff, Nat.add_zero, rI_hold, rI_hold, rL_hold, ht, he91]; done)) ?_
  refine Bod.ic 2 (by decide) dc_409_20 ?_
  refine Bod.icF dc_409_21 rfl (k2_ne_F (k_eq e91 2 rfl rfl (by omega))) ?_
  refine Bod.go dc_409_24 rfl ?_
  refine Bod.get dc_409_25 fr_409_496 (mk_61 _) rfl ?_
  refine Bod.go dc_409_28 rfl ?_
  refine Bod.ialdN (t - 1) rfl (by omega) (by omega) dc_409_29 (mk_91 _) ?_
  refine Bod.eqI (nI e911) (by first | assumption | rfl | exact congrArg nI (by omega) | (simp (disch := omega) only [rI, rIe, rA, rIA, rLA, rJA, rVI, rQI, rVA, rQA, upd_at,  rAI, rLI, rJI, nI_add, pk_sub, kc_0, kc_1, kc_2, kc_3, kc_4, kc_5, reduceIte, Nat.reduceEqDiff, Nat.add_zero, rI_hold, rI_hold, rL_hold, ht, he91, he911]; done)) ?_
  refine Bod.ic 1 (by decide) dc_409_30 ?_
  refine Bod.icT dc_409_31 rfl (k2_eq_T (k_eq e911 1 rfl rfl (by omega))) ?_
  refine Bod.go dc_409_40 rfl ?_
  refine Bod.get dc_409_41 fr_409_546 (mk_61 _) rfl ?_
  refine Bod.go dc_409_44 rfl ?_
  refine Bod.laldN (t - 2) rfl (by omega) (by omega) dc_409_45 (mk_93 _) ?_
  refine Bod.stat (r := []) dc_409_46 kr_409_552 (Or.inl rfl) (by rw [np_360]; rfl) (by rw [np_360]; rfl) (by rw [np_360]; exact Nat.le_of_ble_eq_true rfl) (Nat.le_of_ble_eq_true rfl) (c1  ) ?_
  show Bod _ _ _ _ [_] _ _ _
  refine Bod.istn dc_409_49 (by rw [ml_409]; exact Nat.le_of_ble_eq_true rfl) ?_
  refine Bod.go dc_409_50 rfl ?_
  refine Bod.get dc_409_51 fr_409_499 (mk_61 _) rfl ?_
  refine Bod.go dc_409_54 rfl ?_
  refine Bod.laldN (t - 1) rfl (by omega) (by omega) dc_409_55 (mk_92 _) ?_
  refine Bod.go dc_409_56 rfl ?_
  refine Bod.go dc_409_57 rfl ?_
  refine Bod.ifT dc_409_58 rfl w13 ?_
  refine Bod.go dc_409_73 rfl ?_
  refine Bod.get dc_409_74 fr_409_499 (mk_61 _) rfl ?_
  refine Bod.go dc_409_77 rfl ?_
  refine Bod.laldN (t - 1) rfl (by omega) (by omega) dc_409_78 (mk_92 _) ?_
  refine Bod.lst dc_409_79 (by rw [ml_409]; exact Nat.le_of_ble_eq_true rfl) ?_
  refine Bod.go dc_409_81 rfl ?_
  refine Bod.go dc_409_83 rfl ?_
  refine Bod.go dc_409_84 rfl ?_
  refine Bod.ic 1 (by decide) dc_409_85 ?_
  refine Bod.subN (a - 1) (by omega) (by omega) dc_409_86 ?_
  refine Bod.go dc_409_87 rfl ?_
  refine Bod.stat (r := []) dc_409_88 kr_409_680 (Or.inl rfl) (by rw [np_284]; rfl) (by rw [np_284]; rfl) (by rw [np_284]; exact Nat.le_of_ble_eq_true rfl) (Nat.le_of_ble_eq_true rfl) (c2  ) ?_
  show Bod _ _ _ _ [_] _ _ _
  refine Bod.ifF dc_409_91 rfl (k1_ne_F (k_eq 0 0 rfl rfl (by omega))) ?_
  refine Bod.go dc_409_94 rfl ?_
  refine Bod.ic 3 (by decide) dc_409_95 ?_
  refine Bod.virt (r := []) dc_409_96 kr_409_608 ⟨Or.inl rfl, ow_351, cl_14⟩ (by rw [np_351]; rfl) (by rw [np_351]; rfl) (ob_of (mk_61 _)) (Nat.le_of_ble_eq_true rfl) (c3  ) ?_
  show Bod _ _ _ _ [_] _ _ _
  exact Bod.retZ dc_409_99 rt_409 (Or.inl rfl)
theorem rGi_8 {d : Nat} {S : cS} {t : Nat} {e91 : Nat} {e911 : Nat} {S1 : cS} {a : Nat} {S2 : cS} {o : Nat} {S3 : cS} {a1 : Nat} {t1 : Nat} {S4 : cS} {u : Int64} {S5 : cS} {u1 : Int64} {S6 : cS} (ht : sI S 6151 = nI t) (mt : t < 20481) (b1 : 2 ≤ t) (b2 : 1 ≤ t) (he91 : sA S 91 (t - 2) = nI e91) (me91 : e91 < 2 ^ 20) (b3 : e91 = 2) (he911 : sA S 91 (t - 1) = nI e911) (me911 : e911 < 2 ^ 20) (b4 : e911 = 1) (ma : a < 2 ^ 20) (c1 : Ans (d + 8) 360 [.long (sL S 93 (t - 2))] S (some (.int (nI a))) S1) (w13 : sm_c1 .ge (lg_cmp (sL S1 92 (t - 1)) 0) true false = false) (b5 : 1 ≤ a) (c2 : Ans (d + 8) 284 [.long ((sL S1 92 (t - 1)) + ((nI a).toInt64)), .long 0, .long ((nI (a - 1)).toInt64)] S1 (some (.int (nI 1))) S2) (ho : ((sL S1 92 (t - 1)) + ((nI a).toInt64)).toInt32 = nI o) (mo : o < 1500) (ma1 : a1 < 2 ^ 20) (c3 : Ans (d + 8) 386 [.long (sL S2 92 (t - 2)), .long (sL S2 93 (t - 2)), .int (nI o)] S2 (some (.int (nI a1))) S3) (ht1 : sI (wA 104 0 (vp_nar .byte ((nI a1).toInt8.toInt32)) S3) 6151 = nI t1) (mt1 : t1 < 20481) (b6 : 2 ≤ t1) (c4 : Ans (d + 8) 297 [.ref 104, .int (nI 0), .int (nI 1), .int (nI 0)] (wI 6151 (nI (t1 - 2)) (wA 104 0 (vp_nar .byte ((nI a1).toInt8.toInt32)) S3)) (some (.long u)) S4) (c5 : Ans (d + 8) 297 [.ref 104, .int (nI 0), .int (nI 1), .int (nI 1)] S4 (some (.long u1)) S5) (c6 : Ans (d + 8) 352 [.ref 61, .int (nI 2), .long u, .long u1] S5 none S6) : Bod (d + 8) 409 0 [(0, .ref 61)] [] S (some (.int 1)) (S6) := by
  refine Bod.go dc_409_0 rfl ?_
  refine Bod.get dc_409_1 fr_409_493 (mk_61 _) rfl ?_
  refine Bod.eqI (nI t) (by first | assumption | rfl | exact congrArg nI (by omega) | (simp (disch := omega) only [rI, rIe, rA, rIA, rLA, rJA, rVI, rQI, rVA, rQA, upd_at,  rAI, rLI, rJI, nI_add, pk_sub, kc_0, kc_1, kc_2, kc_3, kc_4, kc_5, reduceIte, Nat.reduceEqDiff, Nat.add_zero, rI_hold, rI_hold, rL_hold, ht]; done)) ?_
  refine Bod.ic 2 (by decide) dc_409_4 ?_
  refine Bod.subN (t - 2) (by omega) (by omega) dc_409_5 ?_
  refine Bod.istn dc_409_6 (by rw [ml_409]; exact Nat.le_of_ble_eq_true rfl) ?_
  refine Bod.go dc_409_7 rfl ?_
  refine Bod.get dc_409_8 fr_409_493 (mk_61 _) rfl ?_
  refine Bod.eqI (nI t) (by first | assumption | rfl | exact congrArg nI (by omega) | (simp (disch := omega) only [rI, rIe, rA, rIA, rLA, rJA, rVI, rQI, rVA, rQA, upd_at,  rAI, rLI, rJI, nI_add, pk_sub, kc_0, kc_1, kc_2, kc_3, kc_4, kc_5, reduceIte, Nat.reduceEqDiff, Nat.add_zero, rI_hold, rI_hold, rL_hold, ht]; done)) ?_
  refine Bod.ic 1 (by decide) dc_409_11 ?_
  refine Bod.subN (t - 1) (by omega) (by omega) dc_409_12 ?_
  refine Bod.istn dc_409_13 (by rw [ml_409]; exact Nat.le_of_ble_eq_true rfl) ?_
  refine Bod.go dc_409_14 rfl ?_
  refine Bod.get dc_409_15 fr_409_496 (mk_61 _) rfl ?_
  refine Bod.go dc_409_18 rfl ?_
  refine Bod.ialdN (t - 2) rfl (by omega) (by omega) dc_409_19 (mk_91 _) ?_
  refine Bod.eqI (nI e91) (by first | assumption | rfl | exact congrArg nI (by omega) | (simp (disch := omega) only [rI, rIe, rA, rIA, rLA, rJA, rVI, rQI, rVA, rQA, upd_at,  rAI, rLI, rJI, nI_add, pk_sub, kc_0, kc_1, kc_2, kc_3, kc_4, kc_5, reduceIte, Nat.reduceEqDiff, Nat.add_zero, rI_hold, rI_hold, rL_hold, ht, he91]; done)) ?_
  refine Bod.ic 2 (by decide) dc_409_20 ?_
  refine Bod.icF dc_409_21 rfl (k2_ne_F (k_eq e91 2 rfl rfl (by omega))) ?_
  refine Bod.go dc_409_24 rfl ?_
  refine Bod.get dc_409_25 fr_409_496 (mk_61 _) rfl ?_
  refine Bod.go dc_409_28 rfl ?_
  refine Bod.ialdN (t - 1) rfl (by omega) (by omega) dc_409_29 (mk_91 _) ?_
  refine Bod.eqI (nI e911) (by first | assumption | rfl | exact congrArg nI (by omega) | (simp (disch := omega) only [rI, rIe, rA, rIA, rLA, rJA, rVI, rQI, rVA, rQA, upd_at,  rAI, rLI, rJI, nI_add, pk_sub, kc_0, kc_1, kc_2, kc_3, kc_4, kc_5, reduceIte, Nat.reduceEqDiff, Nat.add_zero, rI_hold, rI_hold, rL_hold, ht, he91, he911]; done)) ?_
  refine Bod.ic 1 (by decide) dc_409_30 ?_
  refine Bod.icT dc_409_31 rfl (k2_eq_T (k_eq e911 1 rfl rfl (by omega))) ?_
  refine Bod.go dc_409_40 rfl ?_
  refine Bod.get dc_409_41 fr_409_546 (mk_61 _) rfl ?_
  refine Bod.go dc_409_44 rfl ?_
  refine Bod.laldN (t - 2) rfl (by omega) (by omega) dc_409_45 (mk_93 _) ?_
  refine Bod.stat (r := []) dc_409_46 kr_409_552 (Or.inl rfl) (by rw [np_360]; rfl) (by rw [np_360]; rfl) (by rw [np_360]; exact Nat.le_of_ble_eq_true rfl) (Nat.le_of_ble_eq_true rfl) (c1  ) ?_
  show Bod _ _ _ _ [_] _ _ _
  refine Bod.istn dc_409_49 (by rw [ml_409]; exact Nat.le_of_ble_eq_true rfl) ?_
  refine Bod.go dc_409_50 rfl ?_
  refine Bod.get dc_409_51 fr_409_499 (mk_61 _) rfl ?_
  refine Bod.go dc_409_54 rfl ?_
  refine Bod.laldN (t - 1) rfl (by omega) (by omega) dc_409_55 (mk_92 _) ?_
  refine Bod.go dc_409_56 rfl ?_
  refine Bod.go dc_409_57 rfl ?_
  refine Bod.ifF dc_409_58 rfl w13 ?_
  refine Bod.go dc_409_61 rfl ?_
  refine Bod.get dc_409_62 fr_409_499 (mk_61 _) rfl ?_
  refine Bod.go dc_409_65 rfl ?_
  refine Bod.laldN (t - 1) rfl (by omega) (by omega) dc_409_66 (mk_92 _) ?_
  refine Bod.go dc_409_67 rfl ?_
  refine Bod.go dc_409_68 rfl ?_
  refine Bod.go dc_409_69 rfl ?_
  refine Bod.go dc_409_70 rfl ?_
  refine Bod.lst dc_409_79 (by rw [ml_409]; exact Nat.le_of_ble_eq_true rfl) ?_
  refine Bod.go dc_409_81 rfl ?_
  refine Bod.go dc_409_83 rfl ?_
  refine Bod.go dc_409_84 rfl ?_
  refine Bod.ic 1 (by decide) dc_409_85 ?_
  refine Bod.subN (a - 1) (by omega) (by omega) dc_409_86 ?_
  refine Bod.go dc_409_87 rfl ?_
  refine Bod.stat (r := []) dc_409_88 kr_409_680 (Or.inl rfl) (by rw [np_284]; rfl) (by rw [np_284]; rfl) (by rw [np_284]; exact Nat.le_of_ble_eq_true rfl) (Nat.le_of_ble_eq_true rfl) (c2  ) ?_
  show Bod _ _ _ _ [_] _ _ _
  refine Bod.ifT dc_409_91 rfl (k1_ne_T (k_ne 1 0 rfl rfl (by omega) (by omega) (by omega))) ?_
  refine Bod.go dc_409_100 rfl ?_
  refine Bod.get dc_409_101 fr_409_752 (mk_61 _) rfl ?_
  refine Bod.ic 0 (by decide) dc_409_104 ?_
  refine Bod.go dc_409_105 rfl ?_
  refine Bod.get dc_409_106 fr_409_499 (mk_61 _) rfl ?_
  refine Bod.go dc_409_109 rfl ?_
  refine Bod.laldN (t - 2) rfl (by omega) (by omega) dc_409_110 (mk_92 _) ?_
  refine Bod.go dc_409_111 rfl ?_
  refine Bod.get dc_409_112 fr_409_546 (mk_61 _) rfl ?_
  refine Bod.go dc_409_115 rfl ?_
  refine Bod.laldN (t - 2) rfl (by omega) (by omega) dc_409_116 (mk_93 _) ?_
  refine Bod.go dc_409_117 rfl ?_
  refine Bod.go dc_409_119 rfl ?_
  refine Bod.eqI (nI o) (by first | exact ho | (simp only [rI, rIe, rA, rIA, rLA, rJA, rVI, rQI, rVA, rQA, upd_at,  rAI, rLI, rJI, nI_add, pk_sub, kc_0, kc_1, kc_2, kc_3, kc_4, kc_5, reduceIte, Nat.reduceEqDiff, Nat.add_zero, rI_hold, rI_hold, rL_hold]; exact ho)) ?_
  refine Bod.stat (r := [_, _]) dc_409_120 kr_409_755 (Or.inl rfl) (by rw [np_386]; rfl) (by rw [np_386]; rfl) (by rw [np_386]; exact Nat.le_of_ble_eq_true rfl) (Nat.le_of_ble_eq_true rfl) (c3  ) ?_
  show Bod _ _ _ _ [_, _, _] _ _ _
  refine Bod.go dc_409_123 rfl ?_
  refine Bod.bastN 0 rfl (by omega) (by omega) dc_409_124 (mk_104 _) (sa_104 _ _ _) (mu_A _ _ _ _) ?_
  refine Bod.go dc_409_125 rfl ?_
  refine Bod.go dc_409_126 rfl ?_
  refine Bod.get dc_409_127 fr_409_493 (mk_61 _) rfl ?_
  refine Bod.eqI (nI t1) (by first | assumption | (simp (disch := omega) only [rI, rIe, rA, rIA, rLA, rJA, rVI, rQI, rVA, rQA, upd_at,  rAI, rLI, rJI, nI_add, pk_sub, kc_0, kc_1, kc_2, kc_3, kc_4, kc_5, reduceIte, Nat.reduceEqDiff, Nat.add_zero, rI_hold, rI_hold, rL_hold, ht, he91, he911, ht1]; done) | (simp (disch := omega) only [rI, rIe, rA, rIA, rLA, rJA, rVI, rQI, rVA, rQA, upd_at,  rAI, rLI, rJI, nI_add, pk_sub, kc_0, kc_1, kc_2, kc_3, kc_4, kc_5, reduceIte, Nat.reduceEqDiff, Nat.add_zero, rI_hold, rI_hold, rL_hold, ht, he91, he911, ht1]; exact congrArg nI (by omega))) ?_
  refine Bod.ic 2 (by decide) dc_409_130 ?_
  refine Bod.subN (t1 - 2) (by omega) (by omega) dc_409_131 ?_
  refine Bod.put dc_409_132 fr_409_493 (mk_61 _) (Nat.le_of_ble_eq_true rfl) pf_14_51 (st_6151 _ _) (mu_I _ _ _) ?_
  refine Bod.go dc_409_135 rfl ?_
  refine Bod.ic 2 (by decide) dc_409_136 ?_
  refine Bod.go dc_409_137 rfl ?_
  refine Bod.get dc_409_138 fr_409_752 (mk_61 _) rfl ?_
  refine Bod.ic 0 (by decide) dc_409_141 ?_
  refine Bod.ic 1 (by decide) dc_409_142 ?_
  refine Bod.ic 0 (by decide) dc_409_143 ?_
  refine Bod.stat (r := [_, _]) dc_409_144 kr_409_178 (Or.inl rfl) (by rw [np_297]; rfl) (by rw [np_297]; rfl) (by rw [np_297]; exact Nat.le_of_ble_eq_true rfl) (Nat.le_of_ble_eq_true rfl) (c4  ) ?_
  show Bod _ _ _ _ [_, _, _] _ _ _
  refine Bod.go dc_409_147 rfl ?_
  refine Bod.get dc_409_148 fr_409_752 (mk_61 _) rfl ?_
  refine Bod.ic 0 (by decide) dc_409_151 ?_
  refine Bod.ic 1 (by decide) dc_409_152 ?_
  refine Bod.ic 1 (by decide) dc_409_153 ?_
  refine Bod.stat (r := [_, _, _]) dc_409_154 kr_409_178 (Or.inl rfl) (by rw [np_297]; rfl) (by rw [np_297]; rfl) (by rw [np_297]; exact Nat.le_of_ble_eq_true rfl) (Nat.le_of_ble_eq_true rfl) (c5  ) ?_
  show Bod _ _ _ _ [_, _, _, _] _ _ _
  refine Bod.virt (r := []) dc_409_157 kr_409_549 ⟨Or.inl rfl, ow_352, cl_14⟩ (by rw [np_352]; rfl) (by rw [np_352]; rfl) (ob_of (mk_61 _)) (Nat.le_of_ble_eq_true rfl) (c6  ) ?_
  show Bod _ _ _ _ [] _ _ _
  refine Bod.ic 1 (by decide) dc_409_160 ?_
  exact Bod.retZ dc_409_161 rt_409 (Or.inr rfl)
theorem rGi_9 {d : Nat} {S : cS} {t : Nat} {e91 : Nat} {e911 : Nat} {S1 : cS} {a : Nat} {S2 : cS} {S3 : cS} (ht : sI S 6151 = nI t) (mt : t < 20481) (b1 : 2 ≤ t) (b2 : 1 ≤ t) (he91 : sA S 91 (t - 2) = nI e91) (me91 : e91 < 2 ^ 20) (b3 : e91 = 2) (he911 : sA S 91 (t - 1) = nI e911) (me911 : e911 < 2 ^ 20) (b4 : e911 = 1) (ma : a < 2 ^ 20) (c1 : Ans (d + 8) 360 [.long (sL S 93 (t - 2))] S (some (.int (nI a))) S1) (w13 : sm_c1 .ge (lg_cmp (sL S1 92 (t - 1)) 0) true false = false) (b5 : 1 ≤ a) (c2 : Ans (d + 8) 284 [.long ((sL S1 92 (t - 1)) + ((nI a).toInt64)), .long 0, .long ((nI (a - 1)).toInt64)] S1 (some (.int (nI 0))) S2) (c3 : Ans (d + 8) 351 [.ref 61, .int (nI 3)] S2 (some (.int (nI 0))) S3) : Bod (d + 8) 409 0 [(0, .ref 61)] [] S (some (.int 0)) (S3) := by
  refine Bod.go dc_409_0 rfl ?_
  refine Bod.get dc_409_1 fr_409_493 (mk_61 _) rfl ?_
  refine Bod.eqI (nI t) (by first | assumption | rfl | exact congrArg nI (by omega) | (simp (disch := omega) only [rI, rIe, rA, rIA, rLA, rJA, rVI, rQI, rVA, rQA, upd_at,  rAI, rLI, rJI, nI_add, pk_sub, kc_0, kc_1, kc_2, kc_3, kc_4, kc_5, reduceIte, Nat.reduceEqDiff, Nat.add_zero, rI_hold, rI_hold, rL_hold, ht]; done)) ?_
  refine Bod.ic 2 (by decide) dc_409_4 ?_
  refine Bod.subN (t - 2) (by omega) (by omega) dc_409_5 ?_
  refine Bod.istn dc_409_6 (by rw [ml_409]; exact Nat.le_of_ble_eq_true rfl) ?_
  refine Bod.go dc_409_7 rfl ?_
  refine Bod.get dc_409_8 fr_409_493 (mk_61 _) rfl ?_
  refine Bod.eqI (nI t) (by first | assumption | rfl | exact congrArg nI (by omega) | (simp (disch := omega) only [rI, rIe, rA, rIA, rLA, rJA, rVI, rQI, rVA, rQA, upd_at,  rAI, rLI, rJI, nI_add, pk_sub, kc_0, kc_1, kc_2, kc_3, kc_4, kc_5, reduceIte, Nat.reduceEqDiff, Nat.add_zero, rI_hold, rI_hold, rL_hold, ht]; done)) ?_
  refine Bod.ic 1 (by decide) dc_409_11 ?_
  refine Bod.subN (t - 1) (by omega) (by omega) dc_409_12 ?_
  refine Bod.istn dc_409_13 (by rw [ml_409]; exact Nat.le_of_ble_eq_true rfl) ?_
  refine Bod.go dc_409_14 rfl ?_
  refine Bod.get dc_409_15 fr_409_496 (mk_61 _) rfl ?_
  refine Bod.go dc_409_18 rfl ?_
  refine Bod.ialdN (t - 2) rfl (by omega) (by omega) dc_409_19 (mk_91 _) ?_
  refine Bod.eqI (nI e91) (by first | assumption | rfl | exact congrArg nI (by omega) | (simp (disch := omega) only [rI, rIe, rA, rIA, rLA, rJA, rVI, rQI, rVA, rQA, upd_at,  rAI, rLI, rJI, nI_add, pk_sub, kc_0, kc_1, kc_2, kc_3, kc_4, kc_5, reduceIte, Nat.reduceEqDiff, Nat.add_zero, rI_hold, rI_hold, rL_hold, ht, he91]; done)) ?_
  refine Bod.ic 2 (by decide) dc_409_20 ?_
  refine Bod.icF dc_409_21 rfl (k2_ne_F (k_eq e91 2 rfl rfl (by omega))) ?_
  refine Bod.go dc_409_24 rfl ?_
  refine Bod.get dc_409_25 fr_409_496 (mk_61 _) rfl ?_
  refine Bod.go dc_409_28 rfl ?_
  refine Bod.ialdN (t - 1) rfl (by omega) (by omega) dc_409_29 (mk_91 _) ?_
  refine Bod.eqI (nI e911) (by first | assumption | rfl | exact congrArg nI (by omega) | (simp (disch := omega) only [rI, rIe, rA, rIA, rLA, rJA, rVI, rQI, rVA, rQA, upd_at,  rAI, rLI, rJI, nI_add, pk_sub, kc_0, kc_1, kc_2, kc_3, kc_4, kc_5, reduceIte, Nat.reduceEqDiff, Nat.add_zero, rI_hold, rI_hold, rL_hold, ht, he91, he911]; done)) ?_
  refine Bod.ic 1 (by decide) dc_409_30 ?_
  refine Bod.icT dc_409_31 rfl (k2_eq_T (k_eq e911 1 rfl rfl (by omega))) ?_
  refine Bod.go dc_409_40 rfl ?_
  refine Bod.get dc_409_41 fr_409_546 (mk_61 _) rfl ?_
  refine Bod.go dc_409_44 rfl ?_
  refine Bod.laldN (t - 2) rfl (by omega) (by omega) dc_409_45 (mk_93 _) ?_
  refine Bod.stat (r := []) dc_409_46 kr_409_552 (Or.inl rfl) (by rw [np_360]; rfl) (by rw [np_360]; rfl) (by rw [np_360]; exact Nat.le_of_ble_eq_true rfl) (Nat.le_of_ble_eq_true rfl) (c1  ) ?_
  show Bod _ _ _ _ [_] _ _ _
  refine Bod.istn dc_409_49 (by rw [ml_409]; exact Nat.le_of_ble_eq_true rfl) ?_
  refine Bod.go dc_409_50 rfl ?_
  refine Bod.get dc_409_51 fr_409_499 (mk_61 _) rfl ?_
  refine Bod.go dc_409_54 rfl ?_
  refine Bod.laldN (t - 1) rfl (by omega) (by omega) dc_409_55 (mk_92 _) ?_
  refine Bod.go dc_409_56 rfl ?_
  refine Bod.go dc_409_57 rfl ?_
  refine Bod.ifF dc_409_58 rfl w13 ?_
  refine Bod.go dc_409_61 rfl ?_
  refine Bod.get dc_409_62 fr_409_499 (mk_61 _) rfl ?_
  refine Bod.go dc_409_65 rfl ?_
  refine Bod.laldN (t - 1) rfl (by omega) (by omega) dc_409_66 (mk_92 _) ?_
  refine Bod.go dc_409_67 rfl ?_
  refine Bod.go dc_409_68 rfl ?_
  refine Bod.go dc_409_69 rfl ?_
  refine Bod.go dc_409_70 rfl ?_
  refine Bod.lst dc_409_79 (by rw [ml_409]; exact Nat.le_of_ble_eq_true rfl) ?_
  refine Bod.go dc_409_81 rfl ?_
  refine Bod.go dc_409_83 rfl ?_
  refine Bod.go dc_409_84 rfl ?_
  refine Bod.ic 1 (by decide) dc_409_85 ?_
  refine Bod.subN (a - 1) (by omega) (by omega) dc_409_86 ?_
  refine Bod.go dc_409_87 rfl ?_
  refine Bod.stat (r := []) dc_409_88 kr_409_680 (Or.inl rfl) (by rw [np_284]; rfl) (by rw [np_284]; rfl) (by rw [np_284]; exact Nat.le_of_ble_eq_true rfl) (Nat.le_of_ble_eq_true rfl) (c2  ) ?_
  show Bod _ _ _ _ [_] _ _ _
  refine Bod.ifF dc_409_91 rfl (k1_ne_F (k_eq 0 0 rfl rfl (by omega))) ?_
  refine Bod.go dc_409_94 rfl ?_
  refine Bod.ic 3 (by decide) dc_409_95 ?_
  refine Bod.virt (r := []) dc_409_96 kr_409_608 ⟨Or.inl rfl, ow_351, cl_14⟩ (by rw [np_351]; rfl) (by rw [np_351]; rfl) (ob_of (mk_61 _)) (Nat.le_of_ble_eq_true rfl) (c3  ) ?_
  show Bod _ _ _ _ [_] _ _ _
  exact Bod.retZ dc_409_99 rt_409 (Or.inl rfl)
theorem rGi_10 {d : Nat} {S : cS} {t : Nat} {e91 : Nat} {e911 : Nat} {S1 : cS} (ht : sI S 6151 = nI t) (mt : t < 20481) (b1 : 2 ≤ t) (b2 : 1 ≤ t) (he91 : sA S 91 (t - 2) = nI e91) (me91 : e91 < 2 ^ 20) (b3 : e91 = 2) (he911 : sA S 91 (t - 1) = nI e911) (me911 : e911 < 2 ^ 20) (b4 : e911 ≠ 1) (c1 : Ans (d + 8) 351 [.ref 61, .int (nI 2)] S (some (.int (nI 0))) S1) : Bod (d + 8) 409 0 [(0, .ref 61)] [] S (some (.int 0)) (S1) := by
  refine Bod.go dc_409_0 rfl ?_
  refine Bod.get dc_409_1 fr_409_493 (mk_61 _) rfl ?_
  refine Bod.eqI (nI t) (by first | assumption | rfl | exact congrArg nI (by omega) | (simp (disch := omega) only [rI, rIe, rA, rIA, rLA, rJA, rVI, rQI, rVA, rQA, upd_at,  rAI, rLI, rJI, nI_add, pk_sub, kc_0, kc_1, kc_2, kc_3, kc_4, kc_5, reduceIte, Nat.reduceEqDiff, Nat.add_zero, rI_hold, rI_hold, rL_hold, ht]; done)) ?_
  refine Bod.ic 2 (by decide) dc_409_4 ?_
  refine Bod.subN (t - 2) (by omega) (by omega) dc_409_5 ?_
  refine Bod.istn dc_409_6 (by rw [ml_409]; exact Nat.le_of_ble_eq_true rfl) ?_
  refine Bod.go dc_409_7 rfl ?_
  refine Bod.get dc_409_8 fr_409_493 (mk_61 _) rfl ?_
  refine Bod.eqI (nI t) (by first | assumption | rfl | exact congrArg nI (by omega) | (simp (disch := omega) only [rI, rIe, rA, rIA, rLA, rJA, rVI, rQI, rVA, rQA, upd_at,  rAI, rLI, rJI, nI_add, pk_sub, kc_0, kc_1, kc_2, kc_3, kc_4, kc_5, reduceIte, Nat.reduceEqDiff, Nat.add_zero, rI_hold, rI_hold, rL_hold, ht]; done)) ?_
  refine Bod.ic 1 (by decide) dc_409_11 ?_
  refine Bod.subN (t - 1) (by omega) (by omega) dc_409_12 ?_
  refine Bod.istn dc_409_13 (by rw [ml_409]; exact Nat.le_of_ble_eq_true rfl) ?_
  refine Bod.go dc_409_14 rfl ?_
  refine Bod.get dc_409_15 fr_409_496 (mk_61 _) rfl ?_
  refine Bod.go dc_409_18 rfl ?_
  refine Bod.ialdN (t - 2) rfl (by omega) (by omega) dc_409_19 (mk_91 _) ?_
  refine Bod.eqI (nI e91) (by first | assumption | rfl | exact congrArg nI (by omega) | (simp (disch := omega) only [rI, rIe, rA, rIA, rLA, rJA, rVI, rQI, rVA, rQA, upd_at,  rAI, rLI, rJI, nI_add, pk_sub, kc_0, kc_1, kc_2, kc_3, kc_4, kc_5, reduceIte, Nat.reduceEqDiff, Nat.add_zero, rI_hold, rI_hold, rL_hold, ht, he91]; done)) ?_
  refine Bod.ic 2 (by decide) dc_409_20 ?_
  refine Bod.icF dc_409_21 rfl (k2_ne_F (k_eq e91 2 rfl rfl (by omega))) ?_
  refine Bod.go dc_409_24 rfl ?_
  refine Bod.get dc_409_25 fr_409_496 (mk_61 _) rfl ?_
  refine Bod.go dc_409_28 rfl ?_
  refine Bod.ialdN (t - 1) rfl (by omega) (by omega) dc_409_29 (mk_91 _) ?_
  refine Bod.eqI (nI e911) (by first | assumption | rfl | exact congrArg nI (by omega) | (simp (disch := omega) only [rI, rIe, rA, rIA, rLA, rJA, rVI, rQI, rVA, rQA, upd_at,  rAI, rLI, rJI, nI_add, pk_sub, kc_0, kc_1, kc_2, kc_3, kc_4, kc_5, reduceIte, Nat.reduceEqDiff, Nat.add_zero, rI_hold, rI_hold, rL_hold, ht, he91, he911]; done)) ?_
  refine Bod.ic 1 (by decide) dc_409_30 ?_
  refine Bod.icF dc_409_31 rfl (k2_eq_F (k_ne e911 1 rfl rfl (by omega) (by omega) (by omega))) ?_
  refine Bod.go dc_409_34 rfl ?_
  refine Bod.ic 2 (by decide) dc_409_35 ?_
  refine Bod.virt (r := []) dc_409_36 kr_409_608 ⟨Or.inl rfl, ow_351, cl_14⟩ (by rw [np_351]; rfl) (by rw [np_351]; rfl) (ob_of (mk_61 _)) (Nat.le_of_ble_eq_true rfl) (c1  ) ?_
  show Bod _ _ _ _ [_] _ _ _
  exact Bod.retZ dc_409_39 rt_409 (Or.inl rfl)
theorem rSi_1 {d : Nat} {S : cS} {x : Nat} {i0 : Nat} {vv : Nat} {S1 : cS} {S2 : cS} {g : Nat} {zg : Nat} {S3 : cS} {a : Nat} {e91 : Nat} {S4 : cS} {t : Nat} (mx : x < 2 ^ 20) (mi0 : i0 < 2 ^ 20) (mvv : vv < 2 ^ 20) (c1 : Ans (d + 8) 363 [.ref 61, .int (nI x), .int (nI 1)] S (some (.int (nI 1))) S1) (ag : 108 ≤ g) (c2 : Ans (d + 8) 361 [.ref 61, .int (nI x)] S1 (some (.ref g)) S2) (ma : a < 2 ^ 20) (c3 : Ans (d + 8) 410 [.ref 61, .ref g, .int (nI i0)] S2 (some (.int (nI a))) S3) (b1 : vv < 20480) (he91 : sA S3 91 vv = nI e91) (me91 : e91 < 2 ^ 20) (c4 : Ans (d + 8) 358 [.ref g, .int (nI a), .int (nI e91), .long (sL S3 92 vv), .long (sL S3 93 vv)] S3 none S4) (hz1 : (sS S3)[g - 108]? = some (13, zg)) (ht : sI S4 6151 = nI t) (mt : t < 20481) (b2 : 3 ≤ t) : Bod (d + 8) 415 0 [(0, .ref 61), (1, .int (nI x)), (2, .int (nI i0)), (3, .int (nI vv))] [] S (some (.int 1)) (wI 6151 (nI (t - 3)) S4) := by
  refine Bod.go dc_415_0 rfl ?_
  refine Bod.go dc_415_1 rfl ?_
  refine Bod.ic 1 (by decide) dc_415_2 ?_
  refine Bod.virt (r := []) dc_415_3 kr_415_683 ⟨Or.inl rfl, ow_363, cl_14⟩ (by rw [np_363]; rfl) (by rw [np_363]; rfl) (ob_of (mk_61 _)) (Nat.le_of_ble_eq_true rfl) (c1  ) ?_
  show Bod _ _ _ _ [_] _ _ _
  refine Bod.ifT dc_415_6 rfl (k1_ne_T (k_ne 1 0 rfl rfl (by omega) (by omega) (by omega))) ?_
  refine Bod.go dc_415_24 rfl ?_
  refine Bod.go dc_415_25 rfl ?_
  refine Bod.virt (r := []) dc_415_26 kr_415_554 ⟨Or.inl rfl, ow_361, cl_14⟩ (by rw [np_361]; rfl) (by rw [np_361]; rfl) (ob_of (mk_61 _)) (Nat.le_of_ble_eq_true rfl) (c2  ) ?_
  show Bod _ _ _ _ [_] _ _ _
  refine Bod.ast dc_415_29 (by rw [ml_415]; exact Nat.le_of_ble_eq_true rfl) ?_
  refine Bod.go dc_415_31 rfl ?_
  refine Bod.go dc_415_32 rfl ?_
  refine Bod.go dc_415_34 rfl ?_
  refine Bod.virt (r := []) dc_415_35 kr_415_768 ⟨Or.inl rfl, ow_410, cl_14⟩ (by rw [np_410]; rfl) (by rw [np_410]; rfl) (ob_of (mk_61 _)) (Nat.le_of_ble_eq_true rfl) (c3  ) ?_
  show Bod _ _ _ _ [_] _ _ _
  refine Bod.ist dc_415_38 (by rw [ml_415]; exact Nat.le_of_ble_eq_true rfl) ?_
  refine Bod.go dc_415_40 rfl ?_
  refine Bod.ifT dc_415_42 rfl (k1_ge_T a rfl (by omega)) ?_
  refine Bod.go dc_415_64 rfl ?_
  refine Bod.ifT dc_415_66 rfl (k1_ge_T a rfl (by omega)) ?_
  refine Bod.go dc_415_140 rfl ?_
  refine Bod.go dc_415_142 rfl ?_
  refine Bod.go dc_415_144 rfl ?_
  refine Bod.get dc_415_145 fr_415_496 (mk_61 _) rfl ?_
  refine Bod.go dc_415_148 rfl ?_
  refine Bod.ialdN vv rfl (by omega) (by omega) dc_415_149 (mk_91 _) ?_
  refine Bod.eqI (nI e91) (by first | assumption | (simp (disch := omega) only [rI, rIe, rA, rIA, rLA, rJA, rVI, rQI, rVA, rQA, upd_at,  rAI, rLI, rJI, nI_add, pk_sub, kc_0, kc_1, kc_2, kc_3, kc_4, kc_5, reduceIte, Nat.reduceEqDiff, Nat.add_zero, rI_hold, rI_hold, rL_hold, he91]; done) | (simp (disch := omega) only [rI, rIe, rA, rIA, rLA, rJA, rVI, rQI, rVA, rQA, upd_at,  rAI, rLI, rJI, nI_add, pk_sub, kc_0, kc_1, kc_2, kc_3, kc_4, kc_5, reduceIte, Nat.reduceEqDiff, Nat.add_zero, rI_hold, rI_hold, rL_hold, he91]; exact congrArg nI (by omega))) ?_
  refine Bod.go dc_415_150 rfl ?_
  refine Bod.get dc_415_151 fr_415_499 (mk_61 _) rfl ?_
  refine Bod.go dc_415_154 rfl ?_
  refine Bod.laldN vv rfl (by omega) (by omega) dc_415_155 (mk_92 _) ?_
  refine Bod.go dc_415_156 rfl ?_
  refine Bod.get dc_415_157 fr_415_546 (mk_61 _) rfl ?_
  refine Bod.go dc_415_160 rfl ?_
  refine Bod.laldN vv rfl (by omega) (by omega) dc_415_161 (mk_93 _) ?_
  refine Bod.virt (r := []) dc_415_162 kr_415_699 ⟨Or.inl rfl, ow_358, cl_13⟩ (by rw [np_358]; rfl) (by rw [np_358]; rfl) (ob_of (mk_thing ag (by first | exact hz1 | (simp only [rIS, rJS, rAS, rLS, rVS, rQS, rS_hold]; exact hz1)))) (Nat.le_of_ble_eq_true rfl) (c4  ) ?_
  show Bod _ _ _ _ [] _ _ _
  refine Bod.go dc_415_165 rfl ?_
  refine Bod.go dc_415_166 rfl ?_
  refine Bod.get dc_415_167 fr_415_493 (mk_61 _) rfl ?_
  refine Bod.eqI (nI t) (by first | assumption | (simp (disch := omega) only [rI, rIe, rA, rIA, rLA, rJA, rVI, rQI, rVA, rQA, upd_at,  rAI, rLI, rJI, nI_add, pk_sub, kc_0, kc_1, kc_2, kc_3, kc_4, kc_5, reduceIte, Nat.reduceEqDiff, Nat.add_zero, rI_hold, rI_hold, rL_hold, he91, ht]; done) | (simp (disch := omega) only [rI, rIe, rA, rIA, rLA, rJA, rVI, rQI, rVA, rQA, upd_at,  rAI, rLI, rJI, nI_add, pk_sub, kc_0, kc_1, kc_2, kc_3, kc_4, kc_5, reduceIte, Nat.reduceEqDiff, Nat.add_zero, rI_hold, rI_hold, rL_hold, he91, ht]; exact congrArg nI (by omega))) ?_
  refine Bod.ic 3 (by decide) dc_415_170 ?_
  refine Bod.subN (t - 3) (by omega) (by omega) dc_415_171 ?_
  refine Bod.put dc_415_172 fr_415_493 (mk_61 _) (Nat.le_of_ble_eq_true rfl) pf_14_51 (st_6151 _ _) (mu_I _ _ _) ?_
  refine Bod.ic 1 (by decide) dc_415_175 ?_
  exact Bod.retZ dc_415_176 rt_415 (Or.inr rfl)
theorem rSi_2 {d : Nat} {S : cS} {x : Nat} {i0 : Nat} {vv : Nat} {S1 : cS} {S2 : cS} {g : Nat} {zg : Nat} {S3 : cS} {fd0 : Nat} (mx : x < 2 ^ 20) (mi0 : i0 < 2 ^ 20) (mvv : vv < 2 ^ 20) (c1 : Ans (d + 8) 363 [.ref 61, .int (nI x), .int (nI 1)] S (some (.int (nI 1))) S1) (ag : 108 ≤ g) (c2 : Ans (d + 8) 361 [.ref 61, .int (nI x)] S1 (some (.ref g)) S2) (c3 : Ans (d + 8) 410 [.ref 61, .ref g, .int (nI i0)] S2 (some (.int (Int32.ofInt (-1)))) S3) (hz1 : (sS S3)[g - 108]? = some (13, zg)) (hfd0 : sI S3 (100 * g + 0) = nI fd0) (mfd0 : fd0 < 2 ^ 20) (b1 : fd0 = 1) : Bod (d + 8) 415 0 [(0, .ref 61), (1, .int (nI x)), (2, .int (nI i0)), (3, .int (nI vv))] [] S (some (.int 0)) (S3) := by
  refine Bod.go dc_415_0 rfl ?_
  refine Bod.go dc_415_1 rfl ?_
  refine Bod.ic 1 (by decide) dc_415_2 ?_
  refine Bod.virt (r := []) dc_415_3 kr_415_683 ⟨Or.inl rfl, ow_363, cl_14⟩ (by rw [np_363]; rfl) (by rw [np_363]; rfl) (ob_of (mk_61 _)) (Nat.le_of_ble_eq_true rfl) (c1  ) ?_
  show Bod _ _ _ _ [_] _ _ _
  refine Bod.ifT dc_415_6 rfl (k1_ne_T (k_ne 1 0 rfl rfl (by omega) (by omega) (by omega))) ?_
  refine Bod.go dc_415_24 rfl ?_
  refine Bod.go dc_415_25 rfl ?_
  refine Bod.virt (r := []) dc_415_26 kr_415_554 ⟨Or.inl rfl, ow_361, cl_14⟩ (by rw [np_361]; rfl) (by rw [np_361]; rfl) (ob_of (mk_61 _)) (Nat.le_of_ble_eq_true rfl) (c2  ) ?_
  show Bod _ _ _ _ [_] _ _ _
  refine Bod.ast dc_415_29 (by rw [ml_415]; exact Nat.le_of_ble_eq_true rfl) ?_
  refine Bod.go dc_415_31 rfl ?_
  refine Bod.go dc_415_32 rfl ?_
  refine Bod.go dc_415_34 rfl ?_
  refine Bod.virt (r := []) dc_415_35 kr_415_768 ⟨Or.inl rfl, ow_410, cl_14⟩ (by rw [np_410]; rfl) (by rw [np_410]; rfl) (ob_of (mk_61 _)) (Nat.le_of_ble_eq_true rfl) (c3  ) ?_
  show Bod _ _ _ _ [_] _ _ _
  refine Bod.ist dc_415_38 (by rw [ml_415]; exact Nat.le_of_ble_eq_true rfl) ?_
  refine Bod.go dc_415_40 rfl ?_
  refine Bod.ifF dc_415_42 rfl (by decide) ?_
  refine Bod.go dc_415_45 rfl ?_
  refine Bod.get dc_415_47 fr_415_531 (mk_thing ag (by first | exact hz1 | (simp only [rIS, rJS, rAS, rLS, rVS, rQS, rS_hold]; exact hz1))) rfl ?_
  refine Bod.eqI (nI fd0) (by first | assumption | (simp (disch := omega) only [rI, rIe, rA, rIA, rLA, rJA, rVI, rQI, rVA, rQA, upd_at,  rAI, rLI, rJI, nI_add, pk_sub, kc_0, kc_1, kc_2, kc_3, kc_4, kc_5, reduceIte, Nat.reduceEqDiff, Nat.add_zero, rI_hold, rI_hold, rL_hold, hfd0]; done) | (simp (disch := omega) only [rI, rIe, rA, rIA, rLA, rJA, rVI, rQI, rVA, rQA, upd_at,  rAI, rLI, rJI, nI_add, pk_sub, kc_0, kc_1, kc_2, kc_3, kc_4, kc_5, reduceIte, Nat.reduceEqDiff, Nat.add_zero, rI_hold, rI_hold, rL_hold, hfd0]; exact congrArg nI (by omega))) ?_
  refine Bod.ic 1 (by decide) dc_415_50 ?_
  refine Bod.icT dc_415_51 rfl (k2_eq_T (k_eq fd0 1 rfl rfl (by omega))) ?_
  refine Bod.ic 0 (by decide) dc_415_62 ?_
  exact Bod.retZ dc_415_63 rt_415 (Or.inl rfl)
theorem rSi_3 {d : Nat} {S : cS} {x : Nat} {i0 : Nat} {vv : Nat} {S1 : cS} {S2 : cS} {g : Nat} {zg : Nat} {S3 : cS} {fd0 : Nat} {er : Nat} {fd1 : Nat} {S4 : cS} {e91 : Nat} {S5 : cS} {e911 : Nat} {S6 : cS} {t : Nat} (mx : x < 2 ^ 20) (mi0 : i0 < 2 ^ 20) (mvv : vv < 2 ^ 20) (c1 : Ans (d + 8) 363 [.ref 61, .int (nI x), .int (nI 1)] S (some (.int (nI 1))) S1) (ag : 108 ≤ g) (c2 : Ans (d + 8) 361 [.ref 61, .int (nI x)] S1 (some (.ref g)) S2) (c3 : Ans (d + 8) 410 [.ref 61, .ref g, .int (nI i0)] S2 (some (.int (Int32.ofInt (-1)))) S3) (hz1 : (sS S3)[g - 108]? = some (13, zg)) (hfd0 : sI S3 (100 * g + 0) = nI fd0) (mfd0 : fd0 < 2 ^ 20) (b1 : fd0 ≠ 1) (her : sI S3 6164 = nI er) (mer : er < 2 ^ 20) (b2 : er = 4) (hfd1 : sI S3 (100 * g + 1) = nI fd1) (mfd1 : fd1 < 2 ^ 20) (b3 : fd1 ≠ 100) (c4 : Ans (d + 8) 375 [.ref g, .int (nI 0), .long 0, .long 0] S3 none S4) (b4 : i0 < 20480) (he91 : sA S4 91 i0 = nI e91) (me91 : e91 < 2 ^ 20) (b5 : e91 ≠ 1) (c5 : Ans (d + 8) 377 [.ref g, .int (nI fd1), .int (nI e91), .long (sL S4 92 i0), .long (sL S4 93 i0)] S4 none S5) (hz2 : (sS S4)[g - 108]? = some (13, zg)) (b6 : vv < 20480) (he911 : sA S5 91 vv = nI e911) (me911 : e911 < 2 ^ 20) (c6 : Ans (d + 8) 358 [.ref g, .int (nI fd1), .int (nI e911), .long (sL S5 92 vv), .long (sL S5 93 vv)] S5 none S6) (hz3 : (sS S5)[g - 108]? = some (13, zg)) (ht : sI S6 6151 = nI t) (mt : t < 20481) (b7 : 3 ≤ t) : Bod (d + 8) 415 0 [(0, .ref 61), (1, .int (nI x)), (2, .int (nI i0)), (3, .int (nI vv))] [] S (some (.int 1)) (wI 6151 (nI (t - 3)) S6) := by
  refine Bod.go dc_415_0 rfl ?_
  refine Bod.go dc_415_1 rfl ?_
  refine Bod.ic 1 (by decide) dc_415_2 ?_
  refine Bod.virt (r := []) dc_415_3 kr_415_683 ⟨Or.inl rfl, ow_363, cl_14⟩ (by rw [np_363]; rfl) (by rw [np_363]; rfl) (ob_of (mk_61 _)) (Nat.le_of_ble_eq_true rfl) (c1  ) ?_
  show Bod _ _ _ _ [_] _ _ _
  refine Bod.ifT dc_415_6 rfl (k1_ne_T (k_ne 1 0 rfl rfl (by omega) (by omega) (by omega))) ?_
  refine Bod.go dc_415_24 rfl ?_
  refine Bod.go dc_415_25 rfl ?_
  refine Bod.virt (r := []) dc_415_26 kr_415_554 ⟨Or.inl rfl, ow_361, cl_14⟩ (by rw [np_361]; rfl) (by rw [np_361]; rfl) (ob_of (mk_61 _)) (Nat.le_of_ble_eq_true rfl) (c2  ) ?_
  show Bod _ _ _ _ [_] _ _ _
  refine Bod.ast dc_415_29 (by rw [ml_415]; exact Nat.le_of_ble_eq_true rfl) ?_
  refine Bod.go dc_415_31 rfl ?_
  refine Bod.go dc_415_32 rfl ?_
  refine Bod.go dc_415_34 rfl ?_
  refine Bod.virt (r := []) dc_415_35 kr_415_768 ⟨Or.inl rfl, ow_410, cl_14⟩ (by rw [np_410]; rfl) (by rw [np_410]; rfl) (ob_of (mk_61 _)) (Nat.le_of_ble_eq_true rfl) (c3  ) ?_
  show Bod _ _ _ _ [_] _ _ _
  refine Bod.ist dc_415_38 (by rw [ml_415]; exact Nat.le_of_ble_eq_true rfl) ?_
  refine Bod.go dc_415_40 rfl ?_
  refine Bod.ifF dc_415_42 rfl (by decide) ?_
  refine Bod.go dc_415_45 rfl ?_
  refine Bod.get dc_415_47 fr_415_531 (mk_thing ag (by first | exact hz1 | (simp only [rIS, rJS, rAS, rLS, rVS, rQS, rS_hold]; exact hz1))) rfl ?_
  refine Bod.eqI (nI fd0) (by first | assumption | (simp (disch := omega) only [rI, rIe, rA, rIA, rLA, rJA, rVI, rQI, rVA, rQA, upd_at,  rAI, rLI, rJI, nI_add, pk_sub, kc_0, kc_1, kc_2, kc_3, kc_4, kc_5, reduceIte, Nat.reduceEqDiff, Nat.add_zero, rI_hold, rI_hold, rL_hold, hfd0]; done) | (simp (disch := omega) only [rI, rIe, rA, rIA, rLA, rJA, rVI, rQI, rVA, rQA, upd_at,  rAI, rLI, rJI, nI_add, pk_sub, kc_0, kc_1, kc_2, kc_3, kc_4, kc_5, reduceIte, Nat.reduceEqDiff, Nat.add_zero, rI_hold, rI_hold, rL_hold, hfd0]; exact congrArg nI (by omega))) ?_
  refine Bod.ic 1 (by decide) dc_415_50 ?_
  refine Bod.icF dc_415_51 rfl (k2_eq_F (k_ne fd0 1 rfl rfl (by omega) (by omega) (by omega))) ?_
  refine Bod.go dc_415_54 rfl ?_
  refine Bod.get dc_415_55 fr_415_453 (mk_61 _) rfl ?_
  refine Bod.eqI (nI er) (by first | assumption | (simp (disch := omega) only [rI, rIe, rA, rIA, rLA, rJA, rVI, rQI, rVA, rQA, upd_at,  rAI, rLI, rJI, nI_add, pk_sub, kc_0, kc_1, kc_2, kc_3, kc_4, kc_5, reduceIte, Nat.reduceEqDiff, Nat.add_zero, rI_hold, rI_hold, rL_hold, hfd0, her]; done) | (simp (disch := omega) only [rI, rIe, rA, rIA, rLA, rJA, rVI, rQI, rVA, rQA, upd_at,  rAI, rLI, rJI, nI_add, pk_sub, kc_0, kc_1, kc_2, kc_3, kc_4, kc_5, reduceIte, Nat.reduceEqDiff, Nat.add_zero, rI_hold, rI_hold, rL_hold, hfd0, her]; exact congrArg nI (by omega))) ?_
  refine Bod.ic 4 (by decide) dc_415_58 ?_
  refine Bod.icT dc_415_59 rfl (k2_eq_T (k_eq er 4 rfl rfl (by omega))) ?_
  refine Bod.go dc_415_64 rfl ?_
  refine Bod.ifF dc_415_66 rfl (by decide) ?_
  refine Bod.go dc_415_69 rfl ?_
  refine Bod.get dc_415_71 fr_415_459 (mk_thing ag (by first | exact hz1 | (simp only [rIS, rJS, rAS, rLS, rVS, rQS, rS_hold]; exact hz1))) rfl ?_
  refine Bod.eqI (nI fd1) (by first | assumption | (simp (disch := omega) only [rI, rIe, rA, rIA, rLA, rJA, rVI, rQI, rVA, rQA, upd_at,  rAI, rLI, rJI, nI_add, pk_sub, kc_0, kc_1, kc_2, kc_3, kc_4, kc_5, reduceIte, Nat.reduceEqDiff, Nat.add_zero, rI_hold, rI_hold, rL_hold, hfd0, her, hfd1]; done) | (simp (disch := omega) only [rI, rIe, rA, rIA, rLA, rJA, rVI, rQI, rVA, rQA, upd_at,  rAI, rLI, rJI, nI_add, pk_sub, kc_0, kc_1, kc_2, kc_3, kc_4, kc_5, reduceIte, Nat.reduceEqDiff, Nat.add_zero, rI_hold, rI_hold, rL_hold, hfd0, her, hfd1]; exact congrArg nI (by omega))) ?_
  refine Bod.bip 100 (by decide) dc_415_74 ?_
  refine Bod.icT dc_415_76 rfl (k2_ne_T (k_ne fd1 100 rfl rfl (by omega) (by omega) (by omega))) ?_
  refine Bod.go dc_415_86 rfl ?_
  refine Bod.get dc_415_88 fr_415_459 (mk_thing ag (by first | exact hz1 | (simp only [rIS, rJS, rAS, rLS, rVS, rQS, rS_hold]; exact hz1))) rfl ?_
  refine Bod.eqI (nI fd1) (by first | assumption | (simp (disch := omega) only [rI, rIe, rA, rIA, rLA, rJA, rVI, rQI, rVA, rQA, upd_at,  rAI, rLI, rJI, nI_add, pk_sub, kc_0, kc_1, kc_2, kc_3, kc_4, kc_5, reduceIte, Nat.reduceEqDiff, Nat.add_zero, rI_hold, rI_hold, rL_hold, hfd0, her, hfd1]; done) | (simp (disch := omega) only [rI, rIe, rA, rIA, rLA, rJA, rVI, rQI, rVA, rQA, upd_at,  rAI, rLI, rJI, nI_add, pk_sub, kc_0, kc_1, kc_2, kc_3, kc_4, kc_5, reduceIte, Nat.reduceEqDiff, Nat.add_zero, rI_hold, rI_hold, rL_hold, hfd0, her, hfd1]; exact congrArg nI (by omega))) ?_
  refine Bod.ist dc_415_91 (by rw [ml_415]; exact Nat.le_of_ble_eq_true rfl) ?_
  refine Bod.go dc_415_93 rfl ?_
  refine Bod.ic 0 (by decide) dc_415_95 ?_
  refine Bod.go dc_415_96 rfl ?_
  refine Bod.go dc_415_97 rfl ?_
  refine Bod.virt (r := []) dc_415_98 kr_415_759 ⟨Or.inl rfl, ow_375, cl_13⟩ (by rw [np_375]; rfl) (by rw [np_375]; rfl) (ob_of (mk_thing ag (by first | exact hz1 | (simp only [rIS, rJS, rAS, rLS, rVS, rQS, rS_hold]; exact hz1)))) (Nat.le_of_ble_eq_true rfl) (c4  ) ?_
  show Bod _ _ _ _ [] _ _ _
  refine Bod.go dc_415_101 rfl ?_
  refine Bod.go dc_415_103 rfl ?_
  refine Bod.go dc_415_105 rfl ?_
  refine Bod.get dc_415_106 fr_415_496 (mk_61 _) rfl ?_
  refine Bod.go dc_415_109 rfl ?_
  refine Bod.ialdN i0 rfl (by omega) (by omega) dc_415_110 (mk_91 _) ?_
  refine Bod.eqI (nI e91) (by first | assumption | (simp (disch := omega) only [rI, rIe, rA, rIA, rLA, rJA, rVI, rQI, rVA, rQA, upd_at,  rAI, rLI, rJI, nI_add, pk_sub, kc_0, kc_1, kc_2, kc_3, kc_4, kc_5, reduceIte, Nat.reduceEqDiff, Nat.add_zero, rI_hold, rI_hold, rL_hold, hfd0, her, hfd1, he91]; done) | (simp (disch := omega) only [rI, rIe, rA, rIA, rLA, rJA, rVI, rQI, rVA, rQA, upd_at,  rAI, rLI, rJI, nI_add, pk_sub, kc_0, kc_1, kc_2, kc_3, kc_4, kc_5, reduceIte, Nat.reduceEqDiff, Nat.add_zero, rI_hold, rI_hold, rL_hold, hfd0, her, hfd1, he91]; exact congrArg nI (by omega))) ?_
  refine Bod.go dc_415_111 rfl ?_
  refine Bod.get dc_415_112 fr_415_499 (mk_61 _) rfl ?_
  refine Bod.go dc_415_115 rfl ?_
  refine Bod.laldN i0 rfl (by omega) (by omega) dc_415_116 (mk_92 _) ?_
  refine Bod.go dc_415_117 rfl ?_
  refine Bod.get dc_415_118 fr_415_496 (mk_61 _) rfl ?_
  refine Bod.go dc_415_121 rfl ?_
  refine Bod.ialdN i0 rfl (by omega) (by omega) dc_415_122 (mk_91 _) ?_
  refine Bod.eqI (nI e91) (by first | assumption | (simp (disch := omega) only [rI, rIe, rA, rIA, rLA, rJA, rVI, rQI, rVA, rQA, upd_at,  rAI, rLI, rJI, nI_add, pk_sub, kc_0, kc_1, kc_2, kc_3, kc_4, kc_5, reduceIte, Nat.reduceEqDiff, Nat.add_zero, rI_hold, rI_hold, rL_hold, hfd0, her, hfd1, he91]; done) | (simp (disch := omega) only [rI, rIe, rA, rIA, rLA, rJA, rVI, rQI, rVA, rQA, upd_at,  rAI, rLI, rJI, nI_add, pk_sub, kc_0, kc_1, kc_2, kc_3, kc_4, kc_5, reduceIte, Nat.reduceEqDiff, Nat.add_zero, rI_hold, rI_hold, rL_hold, hfd0, her, hfd1, he91]; exact congrArg nI (by omega))) ?_
  refine Bod.ic 1 (by decide) dc_415_123 ?_
  refine Bod.icT dc_415_124 rfl (k2_ne_T (k_ne e91 1 rfl rfl (by omega) (by omega) (by omega))) ?_
  refine Bod.go dc_415_131 rfl ?_
  refine Bod.get dc_415_132 fr_415_546 (mk_61 _) rfl ?_
  refine Bod.go dc_415_135 rfl ?_
  refine Bod.laldN i0 rfl (by omega) (by omega) dc_415_136 (mk_93 _) ?_
  refine Bod.virt (r := []) dc_415_137 kr_415_771 ⟨Or.inl rfl, ow_377, cl_13⟩ (by rw [np_377]; rfl) (by rw [np_377]; rfl) (ob_of (mk_thing ag (by first | exact hz2 | (simp only [rIS, rJS, rAS, rLS, rVS, rQS, rS_hold]; exact hz2)))) (Nat.le_of_ble_eq_true rfl) (c5  ) ?_
  show Bod _ _ _ _ [] _ _ _
  refine Bod.go dc_415_140 rfl ?_
  refine Bod.go dc_415_142 rfl ?_
  refine Bod.go dc_415_144 rfl ?_
  refine Bod.get dc_415_145 fr_415_496 (mk_61 _) rfl ?_
  refine Bod.go dc_415_148 rfl ?_
  refine Bod.ialdN vv rfl (by omega) (by omega) dc_415_149 (mk_91 _) ?_
  refine Bod.eqI (nI e911) (by first | assumption | (simp (disch := omega) only [rI, rIe, rA, rIA, rLA, rJA, rVI, rQI, rVA, rQA, upd_at,  rAI, rLI, rJI, nI_add, pk_sub, kc_0, kc_1, kc_2, kc_3, kc_4, kc_5, reduceIte, Nat.reduceEqDiff, Nat.add_zero, rI_hold, rI_hold, rL_hold, hfd0, her, hfd1, he91, he911]; done) | (simp (disch := omega) only [rI, rIe, rA, rIA, rLA, rJA, rVI, rQI, rVA, rQA, upd_at,  rAI, rLI, rJI, nI_add, pk_sub, kc_0, kc_1, kc_2, kc_3, kc_4, kc_5, reduceIte, Nat.reduceEqDiff, Nat.add_zero, rI_hold, rI_hold, rL_hold, hfd0, her, hfd1, he91, he911]; exact congrArg nI (by omega))) ?_
  refine Bod.go dc_415_150 rfl ?_
  refine Bod.get dc_415_151 fr_415_499 (mk_61 _) rfl ?_
  refine Bod.go dc_415_154 rfl ?_
  refine Bod.laldN vv rfl (by omega) (by omega) dc_415_155 (mk_92 _) ?_
  refine Bod.go dc_415_156 rfl ?_
  refine Bod.get dc_415_157 fr_415_546 (mk_61 _) rfl ?_
  refine Bod.go dc_415_160 rfl ?_
  refine Bod.laldN vv rfl (by omega) (by omega) dc_415_161 (mk_93 _) ?_
  refine Bod.virt (r := []) dc_415_162 kr_415_699 ⟨Or.inl rfl, ow_358, cl_13⟩ (by rw [np_358]; rfl) (by rw [np_358]; rfl) (ob_of (mk_thing ag (by first | exact hz3 | (simp only [rIS, rJS, rAS, rLS, rVS, rQS, rS_hold]; exact hz3)))) (Nat.le_of_ble_eq_true rfl) (c6  ) ?_
  show Bod _ _ _ _ [] _ _ _
  refine Bod.go dc_415_165 rfl ?_
  refine Bod.go dc_415_166 rfl ?_
  refine Bod.get dc_415_167 fr_415_493 (mk_61 _) rfl ?_
  refine Bod.eqI (nI t) (by first | assumption | (simp (disch := omega) only [rI, rIe, rA, rIA, rLA, rJA, rVI, rQI, rVA, rQA, upd_at,  rAI, rLI, rJI, nI_add, pk_sub, kc_0, kc_1, kc_2, kc_3, kc_4, kc_5, reduceIte, Nat.reduceEqDiff, Nat.add_zero, rI_hold, rI_hold, rL_hold, hfd0, her, hfd1, he91, he911, ht]; done) | (simp (disch := omega) only [rI, rIe, rA, rIA, rLA, rJA, rVI, rQI, rVA, rQA, upd_at,  rAI, rLI, rJI, nI_add, pk_sub, kc_0, kc_1, kc_2, kc_3, kc_4, kc_5, reduceIte, Nat.reduceEqDiff, Nat.add_zero, rI_hold, rI_hold, rL_hold, hfd0, her, hfd1, he91, he911, ht]; exact congrArg nI (by omega))) ?_
  refine Bod.ic 3 (by decide) dc_415_170 ?_
  refine Bod.subN (t - 3) (by omega) (by omega) dc_415_171 ?_
  refine Bod.put dc_415_172 fr_415_493 (mk_61 _) (Nat.le_of_ble_eq_true rfl) pf_14_51 (st_6151 _ _) (mu_I _ _ _) ?_
  refine Bod.ic 1 (by decide) dc_415_175 ?_
  exact Bod.retZ dc_415_176 rt_415 (Or.inr rfl)
theorem rSi_4 {d : Nat} {S : cS} {x : Nat} {i0 : Nat} {vv : Nat} {S1 : cS} {S2 : cS} {g : Nat} {zg : Nat} {S3 : cS} {fd0 : Nat} {er : Nat} {fd1 : Nat} {S4 : cS} {e91 : Nat} {S5 : cS} {e911 : Nat} {S6 : cS} {t : Nat} (mx : x < 2 ^ 20) (mi0 : i0 < 2 ^ 20) (mvv : vv < 2 ^ 20) (c1 : Ans (d + 8) 363 [.ref 61, .int (nI x), .int (nI 1)] S (some (.int (nI 1))) S1) (ag : 108 ≤ g) (c2 : Ans (d + 8) 361 [.ref 61, .int (nI x)] S1 (some (.ref g)) S2) (c3 : Ans (d + 8) 410 [.ref 61, .ref g, .int (nI i0)] S2 (some (.int (Int32.ofInt (-1)))) S3) (hz1 : (sS S3)[g - 108]? = some (13, zg)) (hfd0 : sI S3 (100 * g + 0) = nI fd0) (mfd0 : fd0 < 2 ^ 20) (b1 : fd0 ≠ 1) (her : sI S3 6164 = nI er) (mer : er < 2 ^ 20) (b2 : er = 4) (hfd1 : sI S3 (100 * g + 1) = nI fd1) (mfd1 : fd1 < 2 ^ 20) (b3 : fd1 ≠ 100) (c4 : Ans (d + 8) 375 [.ref g, .int (nI 0), .long 0, .long 0] S3 none S4) (b4 : i0 < 20480) (he91 : sA S4 91 i0 = nI e91) (me91 : e91 < 2 ^ 20) (b5 : e91 = 1) (c5 : Ans (d + 8) 377 [.ref g, .int (nI fd1), .int (nI e91), .long (sL S4 92 i0), .long 0] S4 none S5) (hz2 : (sS S4)[g - 108]? = some (13, zg)) (b6 : vv < 20480) (he911 : sA S5 91 vv = nI e911) (me911 : e911 < 2 ^ 20) (c6 : Ans (d + 8) 358 [.ref g, .int (nI fd1), .int (nI e911), .long (sL S5 92 vv), .long (sL S5 93 vv)] S5 none S6) (hz3 : (sS S5)[g - 108]? = some (13, zg)) (ht : sI S6 6151 = nI t) (mt : t < 20481) (b7 : 3 ≤ t) : Bod (d + 8) 415 0 [(0, .ref 61), (1, .int (nI x)), (2, .int (nI i0)), (3, .int (nI vv))] [] S (some (.int 1)) (wI 6151 (nI (t - 3)) S6) := by
  refine Bod.go dc_415_0 rfl ?_
  refine Bod.go dc_415_1 rfl ?_
  refine Bod.ic 1 (by decide) dc_415_2 ?_
  refine Bod.virt (r := []) dc_415_3 kr_415_683 ⟨Or.inl rfl, ow_363, cl_14⟩ (by rw [np_363]; rfl) (by rw [np_363]; rfl) (ob_of (mk_61 _)) (Nat.le_of_ble_eq_true rfl) (c1  ) ?_
  show Bod _ _ _ _ [_] _ _ _
  refine Bod.ifT dc_415_6 rfl (k1_ne_T (k_ne 1 0 rfl rfl (by omega) (by omega) (by omega))) ?_
  refine Bod.go dc_415_24 rfl ?_
  refine Bod.go dc_415_25 rfl ?_
  refine Bod.virt (r := []) dc_415_26 kr_415_554 ⟨Or.inl rfl, ow_361, cl_14⟩ (by rw [np_361]; rfl) (by rw [np_361]; rfl) (ob_of (mk_61 _)) (Nat.le_of_ble_eq_true rfl) (c2  ) ?_
  show Bod _ _ _ _ [_] _ _ _
  refine Bod.ast dc_415_29 (by rw [ml_415]; exact Nat.le_of_ble_eq_true rfl) ?_
  refine Bod.go dc_415_31 rfl ?_
  refine Bod.go dc_415_32 rfl ?_
  refine Bod.go dc_415_34 rfl ?_
  refine Bod.virt (r := []) dc_415_35 kr_415_768 ⟨Or.inl rfl, ow_410, cl_14⟩ (by rw [np_410]; rfl) (by rw [np_410]; rfl) (ob_of (mk_61 _)) (Nat.le_of_ble_eq_true rfl) (c3  ) ?_
  show Bod _ _ _ _ [_] _ _ _
  refine Bod.ist dc_415_38 (by rw [ml_415]; exact Nat.le_of_ble_eq_true rfl) ?_
  refine Bod.go dc_415_40 rfl ?_
  refine Bod.ifF dc_415_42 rfl (by decide) ?_
  refine Bod.go dc_415_45 rfl ?_
  refine Bod.get dc_415_47 fr_415_531 (mk_thing ag (by first | exact hz1 | (simp only [rIS, rJS, rAS, rLS, rVS, rQS, rS_hold]; exact hz1))) rfl ?_
  refine Bod.eqI (nI fd0) (by first | assumption | (simp (disch := omega) only [rI, rIe, rA, rIA, rLA, rJA, rVI, rQI, rVA, rQA, upd_at,  rAI, rLI, rJI, nI_add, pk_sub, kc_0, kc_1, kc_2, kc_3, kc_4, kc_5, reduceIte, Nat.reduceEqDiff, Nat.add_zero, rI_hold, rI_hold, rL_hold, hfd0]; done) | (simp (disch := omega) only [rI, rIe, rA, rIA, rLA, rJA, rVI, rQI, rVA, rQA, upd_at,  rAI, rLI, rJI, nI_add, pk_sub, kc_0, kc_1, kc_2, kc_3, kc_4, kc_5, reduceIte, Nat.reduceEqDiff, Nat.add_zero, rI_hold, rI_hold, rL_hold, hfd0]; exact congrArg nI (by omega))) ?_
  refine Bod.ic 1 (by decide) dc_415_50 ?_
  refine Bod.icF dc_415_51 rfl (k2_eq_F (k_ne fd0 1 rfl rfl (by omega) (by omega) (by omega))) ?_
  refine Bod.go dc_415_54 rfl ?_
  refine Bod.get dc_415_55 fr_415_453 (mk_61 _) rfl ?_
  refine Bod.eqI (nI er) (by first | assumption | (simp (disch := omega) only [rI, rIe, rA, rIA, rLA, rJA, rVI, rQI, rVA, rQA, upd_at,  rAI, rLI, rJI, nI_add, pk_sub, kc_0, kc_1, kc_2, kc_3, kc_4, kc_5, reduceIte, Nat.reduceEqDiff, Nat.add_zero, rI_hold, rI_hold, rL_hold, hfd0, her]; done) | (simp (disch := omega) only [rI, rIe, rA, rIA, rLA, rJA, rVI, rQI, rVA, rQA, upd_at,  rAI, rLI, rJI, nI_add, pk_sub, kc_0, kc_1, kc_2, kc_3, kc_4, kc_5, reduceIte, Nat.reduceEqDiff, Nat.add_zero, rI_hold, rI_hold, rL_hold, hfd0, her]; exact congrArg nI (by omega))) ?_
  refine Bod.ic 4 (by decide) dc_415_58 ?_
  refine Bod.icT dc_415_59 rfl (k2_eq_T (k_eq er 4 rfl rfl (by omega))) ?_
  refine Bod.go dc_415_64 rfl ?_
  refine Bod.ifF dc_415_66 rfl (by decide) ?_
  refine Bod.go dc_415_69 rfl ?_
  refine Bod.get dc_415_71 fr_415_459 (mk_thing ag (by first | exact hz1 | (simp only [rIS, rJS, rAS, rLS, rVS, rQS, rS_hold]; exact hz1))) rfl ?_
  refine Bod.eqI (nI fd1) (by first | assumption | (simp (disch := omega) only [rI, rIe, rA, rIA, rLA, rJA, rVI, rQI, rVA, rQA, upd_at,  rAI, rLI, rJI, nI_add, pk_sub, kc_0, kc_1, kc_2, kc_3, kc_4, kc_5, reduceIte, Nat.reduceEqDiff, Nat.add_zero, rI_hold, rI_hold, rL_hold, hfd0, her, hfd1]; done) | (simp (disch := omega) only [rI, rIe, rA, rIA, rLA, rJA, rVI, rQI, rVA, rQA, upd_at,  rAI, rLI, rJI, nI_add, pk_sub, kc_0, kc_1, kc_2, kc_3, kc_4, kc_5, reduceIte, Nat.reduceEqDiff, Nat.add_zero, rI_hold, rI_hold, rL_hold, hfd0, her, hfd1]; exact congrArg nI (by omega))) ?_
  refine Bod.bip 100 (by decide) dc_415_74 ?_
  refine Bod.icT dc_415_76 rfl (k2_ne_T (k_ne fd1 100 rfl rfl (by omega) (by omega) (by omega))) ?_
  refine Bod.go dc_415_86 rfl ?_
  refine Bod.get dc_415_88 fr_415_459 (mk_thing ag (by first | exact hz1 | (simp only [rIS, rJS, rAS, rLS, rVS, rQS, rS_hold]; exact hz1))) rfl ?_
  refine Bod.eqI (nI fd1) (by first | assumption | (simp (disch := omega) only [rI, rIe, rA, rIA, rLA, rJA, rVI, rQI, rVA, rQA, upd_at,  rAI, rLI, rJI, nI_add, pk_sub, kc_0, kc_1, kc_2, kc_3, kc_4, kc_5, reduceIte, Nat.reduceEqDiff, Nat.add_zero, rI_hold, rI_hold, rL_hold, hfd0, her, hfd1]; done) | (simp (disch := omega) only [rI, rIe, rA, rIA, rLA, rJA, rVI, rQI, rVA, rQA, upd_at,  rAI, rLI, rJI, nI_add, pk_sub, kc_0, kc_1, kc_2, kc_3, kc_4, kc_5, reduceIte, Nat.reduceEqDiff, Nat.add_zero, rI_hold, rI_hold, rL_hold, hfd0, her, hfd1]; exact congrArg nI (by omega))) ?_
  refine Bod.ist dc_415_91 (by rw [ml_415]; exact Nat.le_of_ble_eq_true rfl) ?_
  refine Bod.go dc_415_93 rfl ?_
  refine Bod.ic 0 (by decide) dc_415_95 ?_
  refine Bod.go dc_415_96 rfl ?_
  refine Bod.go dc_415_97 rfl ?_
  refine Bod.virt (r := []) dc_415_98 kr_415_759 ⟨Or.inl rfl, ow_375, cl_13⟩ (by rw [np_375]; rfl) (by rw [np_375]; rfl) (ob_of (mk_thing ag (by first | exact hz1 | (simp only [rIS, rJS, rAS, rLS, rVS, rQS, rS_hold]; exact hz1)))) (Nat.le_of_ble_eq_true rfl) (c4  ) ?_
  show Bod _ _ _ _ [] _ _ _
  refine Bod.go dc_415_101 rfl ?_
  refine Bod.go dc_415_103 rfl ?_
  refine Bod.go dc_415_105 rfl ?_
  refine Bod.get dc_415_106 fr_415_496 (mk_61 _) rfl ?_
  refine Bod.go dc_415_109 rfl ?_
  refine Bod.ialdN i0 rfl (by omega) (by omega) dc_415_110 (mk_91 _) ?_
  refine Bod.eqI (nI e91) (by first | assumption | (simp (disch := omega) only [rI, rIe, rA, rIA, rLA, rJA, rVI, rQI, rVA, rQA, upd_at,  rAI, rLI, rJI, nI_add, pk_sub, kc_0, kc_1, kc_2, kc_3, kc_4, kc_5, reduceIte, Nat.reduceEqDiff, Nat.add_zero, rI_hold, rI_hold, rL_hold, hfd0, her, hfd1, he91]; done) | (simp (disch := omega) only [rI, rIe, rA, rIA, rLA, rJA, rVI, rQI, rVA, rQA, upd_at,  rAI, rLI, rJI, nI_add, pk_sub, kc_0, kc_1, kc_2, kc_3, kc_4, kc_5, reduceIte, Nat.reduceEqDiff, Nat.add_zero, rI_hold, rI_hold, rL_hold, hfd0, her, hfd1, he91]; exact congrArg nI (by omega))) ?_
  refine Bod.go dc_415_111 rfl ?_
  refine Bod.get dc_415_112 fr_415_499 (mk_61 _) rfl ?_
  refine Bod.go dc_415_115 rfl ?_
  refine Bod.laldN i0 rfl (by omega) (by omega) dc_415_116 (mk_92 _) ?_
  refine Bod.go dc_415_117 rfl ?_
  refine Bod.get dc_415_118 fr_415_496 (mk_61 _) rfl ?_
  refine Bod.go dc_415_121 rfl ?_
  refine Bod.ialdN i0 rfl (by omega) (by omega) dc_415_122 (mk_91 _) ?_
  refine Bod.eqI (nI e91) (by first | assumption | (simp (disch := omega) only [rI, rIe, rA, rIA, rLA, rJA, rVI, rQI, rVA, rQA, upd_at,  rAI, rLI, rJI, nI_add, pk_sub, kc_0, kc_1, kc_2, kc_3, kc_4, kc_5, reduceIte, Nat.reduceEqDiff, Nat.add_zero, rI_hold, rI_hold, rL_hold, hfd0, her, hfd1, he91]; done) | (simp (disch := omega) only [rI, rIe, rA, rIA, rLA, rJA, rVI, rQI, rVA, rQA, upd_at,  rAI, rLI, rJI, nI_add, pk_sub, kc_0, kc_1, kc_2, kc_3, kc_4, kc_5, reduceIte, Nat.reduceEqDiff, Nat.add_zero, rI_hold, rI_hold, rL_hold, hfd0, her, hfd1, he91]; exact congrArg nI (by omega))) ?_
  refine Bod.ic 1 (by decide) dc_415_123 ?_
  refine Bod.icF dc_415_124 rfl (k2_ne_F (k_eq e91 1 rfl rfl (by omega))) ?_
  refine Bod.go dc_415_127 rfl ?_
  refine Bod.go dc_415_128 rfl ?_
  refine Bod.virt (r := []) dc_415_137 kr_415_771 ⟨Or.inl rfl, ow_377, cl_13⟩ (by rw [np_377]; rfl) (by rw [np_377]; rfl) (ob_of (mk_thing ag (by first | exact hz2 | (simp only [rIS, rJS, rAS, rLS, rVS, rQS, rS_hold]; exact hz2)))) (Nat.le_of_ble_eq_true rfl) (c5  ) ?_
  show Bod _ _ _ _ [] _ _ _
  refine Bod.go dc_415_140 rfl ?_
  refine Bod.go dc_415_142 rfl ?_
  refine Bod.go dc_415_144 rfl ?_
  refine Bod.get dc_415_145 fr_415_496 (mk_61 _) rfl ?_
  refine Bod.go dc_415_148 rfl ?_
  refine Bod.ialdN vv rfl (by omega) (by omega) dc_415_149 (mk_91 _) ?_
  refine Bod.eqI (nI e911) (by first | assumption | (simp (disch := omega) only [rI, rIe, rA, rIA, rLA, rJA, rVI, rQI, rVA, rQA, upd_at,  rAI, rLI, rJI, nI_add, pk_sub, kc_0, kc_1, kc_2, kc_3, kc_4, kc_5, reduceIte, Nat.reduceEqDiff, Nat.add_zero, rI_hold, rI_hold, rL_hold, hfd0, her, hfd1, he91, he911]; done) | (simp (disch := omega) only [rI, rIe, rA, rIA, rLA, rJA, rVI, rQI, rVA, rQA, upd_at,  rAI, rLI, rJI, nI_add, pk_sub, kc_0, kc_1, kc_2, kc_3, kc_4, kc_5, reduceIte, Nat.reduceEqDiff, Nat.add_zero, rI_hold, rI_hold, rL_hold, hfd0, her, hfd1, he91, he911]; exact congrArg nI (by omega))) ?_
  refine Bod.go dc_415_150 rfl ?_
  refine Bod.get dc_415_151 fr_415_499 (mk_61 _) rfl ?_
  refine Bod.go dc_415_154 rfl ?_
  refine Bod.laldN vv rfl (by omega) (by omega) dc_415_155 (mk_92 _) ?_
  refine Bod.go dc_415_156 rfl ?_
  refine Bod.get dc_415_157 fr_415_546 (mk_61 _) rfl ?_
  refine Bod.go dc_415_160 rfl ?_
  refine Bod.laldN vv rfl (by omega) (by omega) dc_415_161 (mk_93 _) ?_
  refine Bod.virt (r := []) dc_415_162 kr_415_699 ⟨Or.inl rfl, ow_358, cl_13⟩ (by rw [np_358]; rfl) (by rw [np_358]; rfl) (ob_of (mk_thing ag (by first | exact hz3 | (simp only [rIS, rJS, rAS, rLS, rVS, rQS, rS_hold]; exact hz3)))) (Nat.le_of_ble_eq_true rfl) (c6  ) ?_
  show Bod _ _ _ _ [] _ _ _
  refine Bod.go dc_415_165 rfl ?_
  refine Bod.go dc_415_166 rfl ?_
  refine Bod.get dc_415_167 fr_415_493 (mk_61 _) rfl ?_
  refine Bod.eqI (nI t) (by first | assumption | (simp (disch := omega) only [rI, rIe, rA, rIA, rLA, rJA, rVI, rQI, rVA, rQA, upd_at,  rAI, rLI, rJI, nI_add, pk_sub, kc_0, kc_1, kc_2, kc_3, kc_4, kc_5, reduceIte, Nat.reduceEqDiff, Nat.add_zero, rI_hold, rI_hold, rL_hold, hfd0, her, hfd1, he91, he911, ht]; done) | (simp (disch := omega) only [rI, rIe, rA, rIA, rLA, rJA, rVI, rQI, rVA, rQA, upd_at,  rAI, rLI, rJI, nI_add, pk_sub, kc_0, kc_1, kc_2, kc_3, kc_4, kc_5, reduceIte, Nat.reduceEqDiff, Nat.add_zero, rI_hold, rI_hold, rL_hold, hfd0, her, hfd1, he91, he911, ht]; exact congrArg nI (by omega))) ?_
  refine Bod.ic 3 (by decide) dc_415_170 ?_
  refine Bod.subN (t - 3) (by omega) (by omega) dc_415_171 ?_
  refine Bod.put dc_415_172 fr_415_493 (mk_61 _) (Nat.le_of_ble_eq_true rfl) pf_14_51 (st_6151 _ _) (mu_I _ _ _) ?_
  refine Bod.ic 1 (by decide) dc_415_175 ?_
  exact Bod.retZ dc_415_176 rt_415 (Or.inr rfl)
theorem rSi_5 {d : Nat} {S : cS} {x : Nat} {i0 : Nat} {vv : Nat} {S1 : cS} {S2 : cS} {g : Nat} {zg : Nat} {S3 : cS} {fd0 : Nat} {er : Nat} {fd1 : Nat} {S4 : cS} (mx : x < 2 ^ 20) (mi0 : i0 < 2 ^ 20) (mvv : vv < 2 ^ 20) (c1 : Ans (d + 8) 363 [.ref 61, .int (nI x), .int (nI 1)] S (some (.int (nI 1))) S1) (ag : 108 ≤ g) (c2 : Ans (d + 8) 361 [.ref 61, .int (nI x)] S1 (some (.ref g)) S2) (c3 : Ans (d + 8) 410 [.ref 61, .ref g, .int (nI i0)] S2 (some (.int (Int32.ofInt (-1)))) S3) (hz1 : (sS S3)[g - 108]? = some (13, zg)) (hfd0 : sI S3 (100 * g + 0) = nI fd0) (mfd0 : fd0 < 2 ^ 20) (b1 : fd0 ≠ 1) (her : sI S3 6164 = nI er) (mer : er < 2 ^ 20) (b2 : er = 4) (hfd1 : sI S3 (100 * g + 1) = nI fd1) (mfd1 : fd1 < 2 ^ 20) (b3 : fd1 = 100) (c4 : Ans (d + 8) 351 [.ref 61, .int (nI 8)] S3 (some (.int (nI 0))) S4) : Bod (d + 8) 415 0 [(0, .ref 61), (1, .int (nI x)), (2, .int (nI i0)), (3, .int (nI vv))] [] S (some (.int 0)) (S4) := by
  refine Bod.go dc_415_0 rfl ?_
  refine Bod.go dc_415_1 rfl ?_
  refine Bod.ic 1 (by decide) dc_415_2 ?_
  refine Bod.virt (r := []) dc_415_3 kr_415_683 ⟨Or.inl rfl, ow_363, cl_14⟩ (by rw [np_363]; rfl) (by rw [np_363]; rfl) (ob_of (mk_61 _)) (Nat.le_of_ble_eq_true rfl) (c1  ) ?_
  show Bod _ _ _ _ [_] _ _ _
  refine Bod.ifT dc_415_6 rfl (k1_ne_T (k_ne 1 0 rfl rfl (by omega) (by omega) (by omega))) ?_
  refine Bod.go dc_415_24 rfl ?_
  refine Bod.go dc_415_25 rfl ?_
  refine Bod.virt (r := []) dc_415_26 kr_415_554 ⟨Or.inl rfl, ow_361, cl_14⟩ (by rw [np_361]; rfl) (by rw [np_361]; rfl) (ob_of (mk_61 _)) (Nat.le_of_ble_eq_true rfl) (c2  ) ?_
  show Bod _ _ _ _ [_] _ _ _
  refine Bod.ast dc_415_29 (by rw [ml_415]; exact Nat.le_of_ble_eq_true rfl) ?_
  refine Bod.go dc_415_31 rfl ?_
  refine Bod.go dc_415_32 rfl ?_
  refine Bod.go dc_415_34 rfl ?_
  refine Bod.virt (r := []) dc_415_35 kr_415_768 ⟨Or.inl rfl, ow_410, cl_14⟩ (by rw [np_410]; rfl) (by rw [np_410]; rfl) (ob_of (mk_61 _)) (Nat.le_of_ble_eq_true rfl) (c3  ) ?_
  show Bod _ _ _ _ [_] _ _ _
  refine Bod.ist dc_415_38 (by rw [ml_415]; exact Nat.le_of_ble_eq_true rfl) ?_
  refine Bod.go dc_415_40 rfl ?_
  refine Bod.ifF dc_415_42 rfl (by decide) ?_
  refine Bod.go dc_415_45 rfl ?_
  refine Bod.get dc_415_47 fr_415_531 (mk_thing ag (by first | exact hz1 | (simp only [rIS, rJS, rAS, rLS, rVS, rQS, rS_hold]; exact hz1))) rfl ?_
  refine Bod.eqI (nI fd0) (by first | assumption | (simp (disch := omega) only [rI, rIe, rA, rIA, rLA, rJA, rVI, rQI, rVA, rQA, upd_at,  rAI, rLI, rJI, nI_add, pk_sub, kc_0, kc_1, kc_2, kc_3, kc_4, kc_5, reduceIte, Nat.reduceEqDiff, Nat.add_zero, rI_hold, rI_hold, rL_hold, hfd0]; done) | (simp (disch := omega) only [rI, rIe, rA, rIA, rLA, rJA, rVI, rQI, rVA, rQA, upd_at,  rAI, rLI, rJI, nI_add, pk_sub, kc_0, kc_1, kc_2, kc_3, kc_4, kc_5, reduceIte, Nat.reduceEqDiff, Nat.add_zero, rI_hold, rI_hold, rL_hold, hfd0]; exact congrArg nI (by omega))) ?_
  refine Bod.ic 1 (by decide) dc_415_50 ?_
  refine Bod.icF dc_415_51 rfl (k2_eq_F (k_ne fd0 1 rfl rfl (by omega) (by omega) (by omega))) ?_
  refine Bod.go dc_415_54 rfl ?_
  refine Bod.get dc_415_55 fr_415_453 (mk_61 _) rfl ?_
  refine Bod.eqI (nI er) (by first | assumption | (simp (disch := omega) only [rI, rIe, rA, rIA, rLA, rJA, rVI, rQI, rVA, rQA, upd_at,  rAI, rLI, rJI, nI_add, pk_sub, kc_0, kc_1, kc_2, kc_3, kc_4, kc_5, reduceIte, Nat.reduceEqDiff, Nat.add_zero, rI_hold, rI_hold, rL_hold, hfd0, her]; done) | (simp (disch := omega) only [rI, rIe, rA, rIA, rLA, rJA, rVI, rQI, rVA, rQA, upd_at,  rAI, rLI, rJI, nI_add, pk_sub, kc_0, kc_1, kc_2, kc_3, kc_4, kc_5, reduceIte, Nat.reduceEqDiff, Nat.add_zero, rI_hold, rI_hold, rL_hold, hfd0, her]; exact congrArg nI (by omega))) ?_
  refine Bod.ic 4 (by decide) dc_415_58 ?_
  refine Bod.icT dc_415_59 rfl (k2_eq_T (k_eq er 4 rfl rfl (by omega))) ?_
  refine Bod.go dc_415_64 rfl ?_
  refine Bod.ifF dc_415_66 rfl (by decide) ?_
  refine Bod.go dc_415_69 rfl ?_
  refine Bod.get dc_415_71 fr_415_459 (mk_thing ag (by first | exact hz1 | (simp only [rIS, rJS, rAS, rLS, rVS, rQS, rS_hold]; exact hz1))) rfl ?_
  refine Bod.eqI (nI fd1) (by first | assumption | (simp (disch := omega) only [rI, rIe, rA, rIA, rLA, rJA, rVI, rQI, rVA, rQA, upd_at,  rAI, rLI, rJI, nI_add, pk_sub, kc_0, kc_1, kc_2, kc_3, kc_4, kc_5, reduceIte, Nat.reduceEqDiff, Nat.add_zero, rI_hold, rI_hold, rL_hold, hfd0, her, hfd1]; done) | (simp (disch := omega) only [rI, rIe, rA, rIA, rLA, rJA, rVI, rQI, rVA, rQA, upd_at,  rAI, rLI, rJI, nI_add, pk_sub, kc_0, kc_1, kc_2, kc_3, kc_4, kc_5, reduceIte, Nat.reduceEqDiff, Nat.add_zero, rI_hold, rI_hold, rL_hold, hfd0, her, hfd1]; exact congrArg nI (by omega))) ?_
  refine Bod.bip 100 (by decide) dc_415_74 ?_
  refine Bod.icF dc_415_76 rfl (k2_ne_F (k_eq fd1 100 rfl rfl (by omega))) ?_
  refine Bod.go dc_415_79 rfl ?_
  refine Bod.bip 8 (by decide) dc_415_80 ?_
  refine Bod.virt (r := []) dc_415_82 kr_415_608 ⟨Or.inl rfl, ow_351, cl_14⟩ (by rw [np_351]; rfl) (by rw [np_351]; rfl) (ob_of (mk_61 _)) (Nat.le_of_ble_eq_true rfl) (c4  ) ?_
  show Bod _ _ _ _ [_] _ _ _
  exact Bod.retZ dc_415_85 rt_415 (Or.inl rfl)
theorem rSi_6 {d : Nat} {S : cS} {x : Nat} {i0 : Nat} {vv : Nat} {S1 : cS} {S2 : cS} {g : Nat} {zg : Nat} {S3 : cS} {fd0 : Nat} {er : Nat} (mx : x < 2 ^ 20) (mi0 : i0 < 2 ^ 20) (mvv : vv < 2 ^ 20) (c1 : Ans (d + 8) 363 [.ref 61, .int (nI x), .int (nI 1)] S (some (.int (nI 1))) S1) (ag : 108 ≤ g) (c2 : Ans (d + 8) 361 [.ref 61, .int (nI x)] S1 (some (.ref g)) S2) (c3 : Ans (d + 8) 410 [.ref 61, .ref g, .int (nI i0)] S2 (some (.int (Int32.ofInt (-1)))) S3) (hz1 : (sS S3)[g - 108]? = some (13, zg)) (hfd0 : sI S3 (100 * g + 0) = nI fd0) (mfd0 : fd0 < 2 ^ 20) (b1 : fd0 ≠ 1) (her : sI S3 6164 = nI er) (mer : er < 2 ^ 20) (b2 : er ≠ 4) : Bod (d + 8) 415 0 [(0, .ref 61), (1, .int (nI x)), (2, .int (nI i0)), (3, .int (nI vv))] [] S (some (.int 0)) (S3) := by
  refine Bod.go dc_415_0 rfl ?_
  refine Bod.go dc_415_1 rfl ?_
  refine Bod.ic 1 (by decide) dc_415_2 ?_
  refine Bod.virt (r := []) dc_415_3 kr_415_683 ⟨Or.inl rfl, ow_363, cl_14⟩ (by rw [np_363]; rfl) (by rw [np_363]; rfl) (ob_of (mk_61 _)) (Nat.le_of_ble_eq_true rfl) (c1  ) ?_
  show Bod _ _ _ _ [_] _ _ _
  refine Bod.ifT dc_415_6 rfl (k1_ne_T (k_ne 1 0 rfl rfl (by omega) (by omega) (by omega))) ?_
  refine Bod.go dc_415_24 rfl ?_
  refine Bod.go dc_415_25 rfl ?_
  refine Bod.virt (r := []) dc_415_26 kr_415_554 ⟨Or.inl rfl, ow_361, cl_14⟩ (by rw [np_361]; rfl) (by rw [np_361]; rfl) (ob_of (mk_61 _)) (Nat.le_of_ble_eq_true rfl) (c2  ) ?_
  show Bod _ _ _ _ [_] _ _ _
  refine Bod.ast dc_415_29 (by rw [ml_415]; exact Nat.le_of_ble_eq_true rfl) ?_
  refine Bod.go dc_415_31 rfl ?_
  refine Bod.go dc_415_32 rfl ?_
  refine Bod.go dc_415_34 rfl ?_
  refine Bod.virt (r := []) dc_415_35 kr_415_768 ⟨Or.inl rfl, ow_410, cl_14⟩ (by rw [np_410]; rfl) (by rw [np_410]; rfl) (ob_of (mk_61 _)) (Nat.le_of_ble_eq_true rfl) (c3  ) ?_
  show Bod _ _ _ _ [_] _ _ _
  refine Bod.ist dc_415_38 (by rw [ml_415]; exact Nat.le_of_ble_eq_true rfl) ?_
  refine Bod.go dc_415_40 rfl ?_
  refine Bod.ifF dc_415_42 rfl (by decide) ?_
  refine Bod.go dc_415_45 rfl ?_
  refine Bod.get dc_415_47 fr_415_531 (mk_thing ag (by first | exact hz1 | (simp only [rIS, rJS, rAS, rLS, rVS, rQS, rS_hold]; exact hz1))) rfl ?_
  refine Bod.eqI (nI fd0) (by first | assumption | (simp (disch := omega) only [rI, rIe, rA, rIA, rLA, rJA, rVI, rQI, rVA, rQA, upd_at,  rAI, rLI, rJI, nI_add, pk_sub, kc_0, kc_1, kc_2, kc_3, kc_4, kc_5, reduceIte, Nat.reduceEqDiff, Nat.add_zero, rI_hold, rI_hold, rL_hold, hfd0]; done) | (simp (disch := omega) only [rI, rIe, rA, rIA, rLA, rJA, rVI, rQI, rVA, rQA, upd_at,  rAI, rLI, rJI, nI_add, pk_sub, kc_0, kc_1, kc_2, kc_3, kc_4, kc_5, reduceIte, Nat.reduceEqDiff, Nat.add_zero, rI_hold, rI_hold, rL_hold, hfd0]; exact congrArg nI (by omega))) ?_
  refine Bod.ic 1 (by decide) dc_415_50 ?_
  refine Bod.icF dc_415_51 rfl (k2_eq_F (k_ne fd0 1 rfl rfl (by omega) (by omega) (by omega))) ?_
  refine Bod.go dc_415_54 rfl ?_
  refine Bod.get dc_415_55 fr_415_453 (mk_61 _) rfl ?_
  refine Bod.eqI (nI er) (by first | assumption | (simp (disch := omega) only [rI, rIe, rA, rIA, rLA, rJA, rVI, rQI, rVA, rQA, upd_at,  rAI, rLI, rJI, nI_add, pk_sub, kc_0, kc_1, kc_2, kc_3, kc_4, kc_5, reduceIte, Nat.reduceEqDiff, Nat.add_zero, rI_hold, rI_hold, rL_hold, hfd0, her]; done) | (simp (disch := omega) only [rI, rIe, rA, rIA, rLA, rJA, rVI, rQI, rVA, rQA, upd_at,  rAI, rLI, rJI, nI_add, pk_sub, kc_0, kc_1, kc_2, kc_3, kc_4, kc_5, reduceIte, Nat.reduceEqDiff, Nat.add_zero, rI_hold, rI_hold, rL_hold, hfd0, her]; exact congrArg nI (by omega))) ?_
  refine Bod.ic 4 (by decide) dc_415_58 ?_
  refine Bod.icF dc_415_59 rfl (k2_eq_F (k_ne er 4 rfl rfl (by omega) (by omega) (by omega))) ?_
  refine Bod.ic 0 (by decide) dc_415_62 ?_
  exact Bod.retZ dc_415_63 rt_415 (Or.inl rfl)
theorem rSi_7 {d : Nat} {S : cS} {x : Nat} {i0 : Nat} {vv : Nat} {S1 : cS} {S2 : cS} {S3 : cS} {g : Nat} {zg : Nat} {S4 : cS} {a : Nat} {e91 : Nat} {S5 : cS} {t : Nat} (mx : x < 2 ^ 20) (mi0 : i0 < 2 ^ 20) (mvv : vv < 2 ^ 20) (c1 : Ans (d + 8) 363 [.ref 61, .int (nI x), .int (nI 1)] S (some (.int (nI 0))) S1) (c2 : Ans (d + 8) 363 [.ref 61, .int (nI x), .int (nI 2)] S1 (some (.int (nI 1))) S2) (ag : 108 ≤ g) (c3 : Ans (d + 8) 361 [.ref 61, .int (nI x)] S2 (some (.ref g)) S3) (ma : a < 2 ^ 20) (c4 : Ans (d + 8) 410 [.ref 61, .ref g, .int (nI i0)] S3 (some (.int (nI a))) S4) (b1 : vv < 20480) (he91 : sA S4 91 vv = nI e91) (me91 : e91 < 2 ^ 20) (c5 : Ans (d + 8) 358 [.ref g, .int (nI a), .int (nI e91), .long (sL S4 92 vv), .long (sL S4 93 vv)] S4 none S5) (hz1 : (sS S4)[g - 108]? = some (13, zg)) (ht : sI S5 6151 = nI t) (mt : t < 20481) (b2 : 3 ≤ t) : Bod (d + 8) 415 0 [(0, .ref 61), (1, .int (nI x)), (2, .int (nI i0)), (3, .int (nI vv))] [] S (some (.int 1)) (wI 6151 (nI (t - 3)) S5) := by
  refine Bod.go dc_415_0 rfl ?_
  refine Bod.go dc_415_1 rfl ?_
  refine Bod.ic 1 (by decide) dc_415_2 ?_
  refine Bod.virt (r := []) dc_415_3 kr_415_683 ⟨Or.inl rfl, ow_363, cl_14⟩ (by rw [np_363]; rfl) (by rw [np_363]; rfl) (ob_of (mk_61 _)) (Nat.le_of_ble_eq_true rfl) (c1  ) ?_
  show Bod _ _ _ _ [_] _ _ _
  refine Bod.ifF dc_415_6 rfl (k1_ne_F (k_eq 0 0 rfl rfl (by omega))) ?_
  refine Bod.go dc_415_9 rfl ?_
  refine Bod.go dc_415_10 rfl ?_
  refine Bod.ic 2 (by decide) dc_415_11 ?_
  refine Bod.virt (r := []) dc_415_12 kr_415_683 ⟨Or.inl rfl, ow_363, cl_14⟩ (by rw [np_363]; rfl) (by rw [np_363]; rfl) (ob_of (mk_61 _)) (Nat.le_of_ble_eq_true rfl) (c2  ) ?_
  show Bod _ _ _ _ [_] _ _ _
  refine Bod.ifT dc_415_15 rfl (k1_ne_T (k_ne 1 0 rfl rfl (by omega) (by omega) (by omega))) ?_
  refine Bod.go dc_415_24 rfl ?_
  refine Bod.go dc_415_25 rfl ?_
  refine Bod.virt (r := []) dc_415_26 kr_415_554 ⟨Or.inl rfl, ow_361, cl_14⟩ (by rw [np_361]; rfl) (by rw [np_361]; rfl) (ob_of (mk_61 _)) (Nat.le_of_ble_eq_true rfl) (c3  ) ?_
  show Bod _ _ _ _ [_] _ _ _
  refine Bod.ast dc_415_29 (by rw [ml_415]; exact Nat.le_of_ble_eq_true rfl) ?_
  refine Bod.go dc_415_31 rfl ?_
  refine Bod.go dc_415_32 rfl ?_
  refine Bod.go dc_415_34 rfl ?_
  refine Bod.virt (r := []) dc_415_35 kr_415_768 ⟨Or.inl rfl, ow_410, cl_14⟩ (by rw [np_410]; rfl) (by rw [np_410]; rfl) (ob_of (mk_61 _)) (Nat.le_of_ble_eq_true rfl) (c4  ) ?_
  show Bod _ _ _ _ [_] _ _ _
  refine Bod.ist dc_415_38 (by rw [ml_415]; exact Nat.le_of_ble_eq_true rfl) ?_
  refine Bod.go dc_415_40 rfl ?_
  refine Bod.ifT dc_415_42 rfl (k1_ge_T a rfl (by omega)) ?_
  refine Bod.go dc_415_64 rfl ?_
  refine Bod.ifT dc_415_66 rfl (k1_ge_T a rfl (by omega)) ?_
  refine Bod.go dc_415_140 rfl ?_
  refine Bod.go dc_415_142 rfl ?_
  refine Bod.go dc_415_144 rfl ?_
  refine Bod.get dc_415_145 fr_415_496 (mk_61 _) rfl ?_
  refine Bod.go dc_415_148 rfl ?_
  refine Bod.ialdN vv rfl (by omega) (by omega) dc_415_149 (mk_91 _) ?_
  refine Bod.eqI (nI e91) (by first | assumption | (simp (disch := omega) only [rI, rIe, rA, rIA, rLA, rJA, rVI, rQI, rVA, rQA, upd_at,  rAI, rLI, rJI, nI_add, pk_sub, kc_0, kc_1, kc_2, kc_3, kc_4, kc_5, reduceIte, Nat.reduceEqDiff, Nat.add_zero, rI_hold, rI_hold, rL_hold, he91]; done) | (simp (disch := omega) only [rI, rIe, rA, rIA, rLA, rJA, rVI, rQI, rVA, rQA, upd_at,  rAI, rLI, rJI, nI_add, pk_sub, kc_0, kc_1, kc_2, kc_3, kc_4, kc_5, reduceIte, Nat.reduceEqDiff, Nat.add_zero, rI_hold, rI_hold, rL_hold, he91]; exact congrArg nI (by omega))) ?_
  refine Bod.go dc_415_150 rfl ?_
  refine Bod.get dc_415_151 fr_415_499 (mk_61 _) rfl ?_
  refine Bod.go dc_415_154 rfl ?_
  refine Bod.laldN vv rfl (by omega) (by omega) dc_415_155 (mk_92 _) ?_
  refine Bod.go dc_415_156 rfl ?_
  refine Bod.get dc_415_157 fr_415_546 (mk_61 _) rfl ?_
  refine Bod.go dc_415_160 rfl ?_
  refine Bod.laldN vv rfl (by omega) (by omega) dc_415_161 (mk_93 _) ?_
  refine Bod.virt (r := []) dc_415_162 kr_415_699 ⟨Or.inl rfl, ow_358, cl_13⟩ (by rw [np_358]; rfl) (by rw [np_358]; rfl) (ob_of (mk_thing ag (by first | exact hz1 | (simp only [rIS, rJS, rAS, rLS, rVS, rQS, rS_hold]; exact hz1)))) (Nat.le_of_ble_eq_true rfl) (c5  ) ?_
  show Bod _ _ _ _ [] _ _ _
  refine Bod.go dc_415_165 rfl ?_
  refine Bod.go dc_415_166 rfl ?_
  refine Bod.get dc_415_167 fr_415_493 (mk_61 _) rfl ?_
  refine Bod.eqI (nI t) (by first | assumption | (simp (disch := omega) only [rI, rIe, rA, rIA, rLA, rJA, rVI, rQI, rVA, rQA, upd_at,  rAI, rLI, rJI, nI_add, pk_sub, kc_0, kc_1, kc_2, kc_3, kc_4, kc_5, reduceIte, Nat.reduceEqDiff, Nat.add_zero, rI_hold, rI_hold, rL_hold, he91, ht]; done) | (simp (disch := omega) only [rI, rIe, rA, rIA, rLA, rJA, rVI, rQI, rVA, rQA, upd_at,  rAI, rLI, rJI, nI_add, pk_sub, kc_0, kc_1, kc_2, kc_3, kc_4, kc_5, reduceIte, Nat.reduceEqDiff, Nat.add_zero, rI_hold, rI_hold, rL_hold, he91, ht]; exact congrArg nI (by omega))) ?_
  refine Bod.ic 3 (by decide) dc_415_170 ?_
  refine Bod.subN (t - 3) (by omega) (by omega) dc_415_171 ?_
  refine Bod.put dc_415_172 fr_415_493 (mk_61 _) (Nat.le_of_ble_eq_true rfl) pf_14_51 (st_6151 _ _) (mu_I _ _ _) ?_
  refine Bod.ic 1 (by decide) dc_415_175 ?_
  exact Bod.retZ dc_415_176 rt_415 (Or.inr rfl)
theorem rSi_8 {d : Nat} {S : cS} {x : Nat} {i0 : Nat} {vv : Nat} {S1 : cS} {S2 : cS} {S3 : cS} {g : Nat} {zg : Nat} {S4 : cS} {fd0 : Nat} (mx : x < 2 ^ 20) (mi0 : i0 < 2 ^ 20) (mvv : vv < 2 ^ 20) (c1 : Ans (d + 8) 363 [.ref 61, .int (nI x), .int (nI 1)] S (some (.int (nI 0))) S1) (c2 : Ans (d + 8) 363 [.ref 61, .int (nI x), .int (nI 2)] S1 (some (.int (nI 1))) S2) (ag : 108 ≤ g) (c3 : Ans (d + 8) 361 [.ref 61, .int (nI x)] S2 (some (.ref g)) S3) (c4 : Ans (d + 8) 410 [.ref 61, .ref g, .int (nI i0)] S3 (some (.int (Int32.ofInt (-1)))) S4) (hz1 : (sS S4)[g - 108]? = some (13, zg)) (hfd0 : sI S4 (100 * g + 0) = nI fd0) (mfd0 : fd0 < 2 ^ 20) (b1 : fd0 = 1) : Bod (d + 8) 415 0 [(0, .ref 61), (1, .int (nI x)), (2, .int (nI i0)), (3, .int (nI vv))] [] S (some (.int 0)) (S4) := by
  refine Bod.go dc_415_0 rfl ?_
  refine Bod.go dc_415_1 rfl ?_
  refine Bod.ic 1 (by decide) dc_415_2 ?_
  refine Bod.virt (r := []) dc_415_3 kr_415_683 ⟨Or.inl rfl, ow_363, cl_14⟩ (by rw [np_363]; rfl) (by rw [np_363]; rfl) (ob_of (mk_61 _)) (Nat.le_of_ble_eq_true rfl) (c1  ) ?_
  show Bod _ _ _ _ [_] _ _ _
  refine Bod.ifF dc_415_6 rfl (k1_ne_F (k_eq 0 0 rfl rfl (by omega))) ?_
  refine Bod.go dc_415_9 rfl ?_
  refine Bod.go dc_415_10 rfl ?_
  refine Bod.ic 2 (by decide) dc_415_11 ?_
  refine Bod.virt (r := []) dc_415_12 kr_415_683 ⟨Or.inl rfl, ow_363, cl_14⟩ (by rw [np_363]; rfl) (by rw [np_363]; rfl) (ob_of (mk_61 _)) (Nat.le_of_ble_eq_true rfl) (c2  ) ?_
  show Bod _ _ _ _ [_] _ _ _
  refine Bod.ifT dc_415_15 rfl (k1_ne_T (k_ne 1 0 rfl rfl (by omega) (by omega) (by omega))) ?_
  refine Bod.go dc_415_24 rfl ?_
  refine Bod.go dc_415_25 rfl ?_
  refine Bod.virt (r := []) dc_415_26 kr_415_554 ⟨Or.inl rfl, ow_361, cl_14⟩ (by rw [np_361]; rfl) (by rw [np_361]; rfl) (ob_of (mk_61 _)) (Nat.le_of_ble_eq_true rfl) (c3  ) ?_
  show Bod _ _ _ _ [_] _ _ _
  refine Bod.ast dc_415_29 (by rw [ml_415]; exact Nat.le_of_ble_eq_true rfl) ?_
  refine Bod.go dc_415_31 rfl ?_
  refine Bod.go dc_415_32 rfl ?_
  refine Bod.go dc_415_34 rfl ?_
  refine Bod.virt (r := []) dc_415_35 kr_415_768 ⟨Or.inl rfl, ow_410, cl_14⟩ (by rw [np_410]; rfl) (by rw [np_410]; rfl) (ob_of (mk_61 _)) (Nat.le_of_ble_eq_true rfl) (c4  ) ?_
  show Bod _ _ _ _ [_] _ _ _
  refine Bod.ist dc_415_38 (by rw [ml_415]; exact Nat.le_of_ble_eq_true rfl) ?_
  refine Bod.go dc_415_40 rfl ?_
  refine Bod.ifF dc_415_42 rfl (by decide) ?_
  refine Bod.go dc_415_45 rfl ?_
  refine Bod.get dc_415_47 fr_415_531 (mk_thing ag (by first | exact hz1 | (simp only [rIS, rJS, rAS, rLS, rVS, rQS, rS_hold]; exact hz1))) rfl ?_
  refine Bod.eqI (nI fd0) (by first | assumption | (simp (disch := omega) only [rI, rIe, rA, rIA, rLA, rJA, rVI, rQI, rVA, rQA, upd_at,  rAI, rLI, rJI, nI_add, pk_sub, kc_0, kc_1, kc_2, kc_3, kc_4, kc_5, reduceIte, Nat.reduceEqDiff, Nat.add_zero, rI_hold, rI_hold, rL_hold, hfd0]; done) | (simp (disch := omega) only [rI, rIe, rA, rIA, rLA, rJA, rVI, rQI, rVA, rQA, upd_at,  rAI, rLI, rJI, nI_add, pk_sub, kc_0, kc_1, kc_2, kc_3, kc_4, kc_5, reduceIte, Nat.reduceEqDiff, Nat.add_zero, rI_hold, rI_hold, rL_hold, hfd0]; exact congrArg nI (by omega))) ?_
  refine Bod.ic 1 (by decide) dc_415_50 ?_
  refine Bod.icT dc_415_51 rfl (k2_eq_T (k_eq fd0 1 rfl rfl (by omega))) ?_
  refine Bod.ic 0 (by decide) dc_415_62 ?_
  exact Bod.retZ dc_415_63 rt_415 (Or.inl rfl)
theorem rSi_9 {d : Nat} {S : cS} {x : Nat} {i0 : Nat} {vv : Nat} {S1 : cS} {S2 : cS} {S3 : cS} {g : Nat} {zg : Nat} {S4 : cS} {fd0 : Nat} {er : Nat} {fd1 : Nat} {S5 : cS} {e91 : Nat} {S6 : cS} {e911 : Nat} {S7 : cS} {t : Nat} (mx : x < 2 ^ 20) (mi0 : i0 < 2 ^ 20) (mvv : vv < 2 ^ 20) (c1 : Ans (d + 8) 363 [.ref 61, .int (nI x), .int (nI 1)] S (some (.int (nI 0))) S1) (c2 : Ans (d + 8) 363 [.ref 61, .int (nI x), .int (nI 2)] S1 (some (.int (nI 1))) S2) (ag : 108 ≤ g) (c3 : Ans (d + 8) 361 [.ref 61, .int (nI x)] S2 (some (.ref g)) S3) (c4 : Ans (d + 8) 410 [.ref 61, .ref g, .int (nI i0)] S3 (some (.int (Int32.ofInt (-1)))) S4) (hz1 : (sS S4)[g - 108]? = some (13, zg)) (hfd0 : sI S4 (100 * g + 0) = nI fd0) (mfd0 : fd0 < 2 ^ 20) (b1 : fd0 ≠ 1) (her : sI S4 6164 = nI er) (mer : er < 2 ^ 20) (b2 : er = 4) (hfd1 : sI S4 (100 * g + 1) = nI fd1) (mfd1 : fd1 < 2 ^ 20) (b3 : fd1 ≠ 100) (c5 : Ans (d + 8) 375 [.ref g, .int (nI 0), .long 0, .long 0] S4 none S5) (b4 : i0 < 20480) (he91 : sA S5 91 i0 = nI e91) (me91 : e91 < 2 ^ 20) (b5 : e91 ≠ 1) (c6 : Ans (d + 8) 377 [.ref g, .int (nI fd1), .int (nI e91), .long (sL S5 92 i0), .long (sL S5 93 i0)] S5 none S6) (hz2 : (sS S5)[g - 108]? = some (13, zg)) (b6 : vv < 20480) (he911 : sA S6 91 vv = nI e911) (me911 : e911 < 2 ^ 20) (c7 : Ans (d + 8) 358 [.ref g, .int (nI fd1), .int (nI e911), .long (sL S6 92 vv), .long (sL S6 93 vv)] S6 none S7) (hz3 : (sS S6)[g - 108]? = some (13, zg)) (ht : sI S7 6151 = nI t) (mt : t < 20481) (b7 : 3 ≤ t) : Bod (d + 8) 415 0 [(0, .ref 61), (1, .int (nI x)), (2, .int (nI i0)), (3, .int (nI vv))] [] S (some (.int 1)) (wI 6151 (nI (t - 3)) S7) := by
  refine Bod.go dc_415_0 rfl ?_
  refine Bod.go dc_415_1 rfl ?_
  refine Bod.ic 1 (by decide) dc_415_2 ?_
  refine Bod.virt (r := []) dc_415_3 kr_415_683 ⟨Or.inl rfl, ow_363, cl_14⟩ (by rw [np_363]; rfl) (by rw [np_363]; rfl) (ob_of (mk_61 _)) (Nat.le_of_ble_eq_true rfl) (c1  ) ?_
  show Bod _ _ _ _ [_] _ _ _
  refine Bod.ifF dc_415_6 rfl (k1_ne_F (k_eq 0 0 rfl rfl (by omega))) ?_
  refine Bod.go dc_415_9 rfl ?_
  refine Bod.go dc_415_10 rfl ?_
  refine Bod.ic 2 (by decide) dc_415_11 ?_
  refine Bod.virt (r := []) dc_415_12 kr_415_683 ⟨Or.inl rfl, ow_363, cl_14⟩ (by rw [np_363]; rfl) (by rw [np_363]; rfl) (ob_of (mk_61 _)) (Nat.le_of_ble_eq_true rfl) (c2  ) ?_
  show Bod _ _ _ _ [_] _ _ _
  refine Bod.ifT dc_415_15 rfl (k1_ne_T (k_ne 1 0 rfl rfl (by omega) (by omega) (by omega))) ?_
  refine Bod.go dc_415_24 rfl ?_
  refine Bod.go dc_415_25 rfl ?_
  refine Bod.virt (r := []) dc_415_26 kr_415_554 ⟨Or.inl rfl, ow_361, cl_14⟩ (by rw [np_361]; rfl) (by rw [np_361]; rfl) (ob_of (mk_61 _)) (Nat.le_of_ble_eq_true rfl) (c3  ) ?_
  show Bod _ _ _ _ [_] _ _ _
  refine Bod.ast dc_415_29 (by rw [ml_415]; exact Nat.le_of_ble_eq_true rfl) ?_
  refine Bod.go dc_415_31 rfl ?_
  refine Bod.go dc_415_32 rfl ?_
  refine Bod.go dc_415_34 rfl ?_
  refine Bod.virt (r := []) dc_415_35 kr_415_768 ⟨Or.inl rfl, ow_410, cl_14⟩ (by rw [np_410]; rfl) (by rw [np_410]; rfl) (ob_of (mk_61 _)) (Nat.le_of_ble_eq_true rfl) (c4  ) ?_
  show Bod _ _ _ _ [_] _ _ _
  refine Bod.ist dc_415_38 (by rw [ml_415]; exact Nat.le_of_ble_eq_true rfl) ?_
  refine Bod.go dc_415_40 rfl ?_
  refine Bod.ifF dc_415_42 rfl (by decide) ?_
  refine Bod.go dc_415_45 rfl ?_
  refine Bod.get dc_415_47 fr_415_531 (mk_thing ag (by first | exact hz1 | (simp only [rIS, rJS, rAS, rLS, rVS, rQS, rS_hold]; exact hz1))) rfl ?_
  refine Bod.eqI (nI fd0) (by first | assumption | (simp (disch := omega) only [rI, rIe, rA, rIA, rLA, rJA, rVI, rQI, rVA, rQA, upd_at,  rAI, rLI, rJI, nI_add, pk_sub, kc_0, kc_1, kc_2, kc_3, kc_4, kc_5, reduceIte, Nat.reduceEqDiff, Nat.add_zero, rI_hold, rI_hold, rL_hold, hfd0]; done) | (simp (disch := omega) only [rI, rIe, rA, rIA, rLA, rJA, rVI, rQI, rVA, rQA, upd_at,  rAI, rLI, rJI, nI_add, pk_sub, kc_0, kc_1, kc_2, kc_3, kc_4, kc_5, reduceIte, Nat.reduceEqDiff, Nat.add_zero, rI_hold, rI_hold, rL_hold, hfd0]; exact congrArg nI (by omega))) ?_
  refine Bod.ic 1 (by decide) dc_415_50 ?_
  refine Bod.icF dc_415_51 rfl (k2_eq_F (k_ne fd0 1 rfl rfl (by omega) (by omega) (by omega))) ?_
  refine Bod.go dc_415_54 rfl ?_
  refine Bod.get dc_415_55 fr_415_453 (mk_61 _) rfl ?_
  refine Bod.eqI (nI er) (by first | assumption | (simp (disch := omega) only [rI, rIe, rA, rIA, rLA, rJA, rVI, rQI, rVA, rQA, upd_at,  rAI, rLI, rJI, nI_add, pk_sub, kc_0, kc_1, kc_2, kc_3, kc_4, kc_5, reduceIte, Nat.reduceEqDiff, Nat.add_zero, rI_hold, rI_hold, rL_hold, hfd0, her]; done) | (simp (disch := omega) only [rI, rIe, rA, rIA, rLA, rJA, rVI, rQI, rVA, rQA, upd_at,  rAI, rLI, rJI, nI_add, pk_sub, kc_0, kc_1, kc_2, kc_3, kc_4, kc_5, reduceIte, Nat.reduceEqDiff, Nat.add_zero, rI_hold, rI_hold, rL_hold, hfd0, her]; exact congrArg nI (by omega))) ?_
  refine Bod.ic 4 (by decide) dc_415_58 ?_
  refine Bod.icT dc_415_59 rfl (k2_eq_T (k_eq er 4 rfl rfl (by omega))) ?_
  refine Bod.go dc_415_64 rfl ?_
  refine Bod.ifF dc_415_66 rfl (by decide) ?_
  refine Bod.go dc_415_69 rfl ?_
  refine Bod.get dc_415_71 fr_415_459 (mk_thing ag (by first | exact hz1 | (simp only [rIS, rJS, rAS, rLS, rVS, rQS, rS_hold]; exact hz1))) rfl ?_
  refine Bod.eqI (nI fd1) (by first | assumption | (simp (disch := omega) only [rI, rIe, rA, rIA, rLA, rJA, rVI, rQI, rVA, rQA, upd_at,  rAI, rLI, rJI, nI_add, pk_sub, kc_0, kc_1, kc_2, kc_3, kc_4, kc_5, reduceIte, Nat.reduceEqDiff, Nat.add_zero, rI_hold, rI_hold, rL_hold, hfd0, her, hfd1]; done) | (simp (disch := omega) only [rI, rIe, rA, rIA, rLA, rJA, rVI, rQI, rVA, rQA, upd_at,  rAI, rLI, rJI, nI_add, pk_sub, kc_0, kc_1, kc_2, kc_3, kc_4, kc_5, reduceIte, Nat.reduceEqDiff, Nat.add_zero, rI_hold, rI_hold, rL_hold, hfd0, her, hfd1]; exact congrArg nI (by omega))) ?_
  refine Bod.bip 100 (by decide) dc_415_74 ?_
  refine Bod.icT dc_415_76 rfl (k2_ne_T (k_ne fd1 100 rfl rfl (by omega) (by omega) (by omega))) ?_
  refine Bod.go dc_415_86 rfl ?_
  refine Bod.get dc_415_88 fr_415_459 (mk_thing ag (by first | exact hz1 | (simp only [rIS, rJS, rAS, rLS, rVS, rQS, rS_hold]; exact hz1))) rfl ?_
  refine Bod.eqI (nI fd1) (by first | assumption | (simp (disch := omega) only [rI, rIe, rA, rIA, rLA, rJA, rVI, rQI, rVA, rQA, upd_at,  rAI, rLI, rJI, nI_add, pk_sub, kc_0, kc_1, kc_2, kc_3, kc_4, kc_5, reduceIte, Nat.reduceEqDiff, Nat.add_zero, rI_hold, rI_hold, rL_hold, hfd0, her, hfd1]; done) | (simp (disch := omega) only [rI, rIe, rA, rIA, rLA, rJA, rVI, rQI, rVA, rQA, upd_at,  rAI, rLI, rJI, nI_add, pk_sub, kc_0, kc_1, kc_2, kc_3, kc_4, kc_5, reduceIte, Nat.reduceEqDiff, Nat.add_zero, rI_hold, rI_hold, rL_hold, hfd0, her, hfd1]; exact congrArg nI (by omega))) ?_
  refine Bod.ist dc_415_91 (by rw [ml_415]; exact Nat.le_of_ble_eq_true rfl) ?_
  refine Bod.go dc_415_93 rfl ?_
  refine Bod.ic 0 (by decide) dc_415_95 ?_
  refine Bod.go dc_415_96 rfl ?_
  refine Bod.go dc_415_97 rfl ?_
  refine Bod.virt (r := []) dc_415_98 kr_415_759 ⟨Or.inl rfl, ow_375, cl_13⟩ (by rw [np_375]; rfl) (by rw [np_375]; rfl) (ob_of (mk_thing ag (by first | exact hz1 | (simp only [rIS, rJS, rAS, rLS, rVS, rQS, rS_hold]; exact hz1)))) (Nat.le_of_ble_eq_true rfl) (c5  ) ?_
  show Bod _ _ _ _ [] _ _ _
  refine Bod.go dc_415_101 rfl ?_
  refine Bod.go dc_415_103 rfl ?_
  refine Bod.go dc_415_105 rfl ?_
  refine Bod.get dc_415_106 fr_415_496 (mk_61 _) rfl ?_
  refine Bod.go dc_415_109 rfl ?_
  refine Bod.ialdN i0 rfl (by omega) (by omega) dc_415_110 (mk_91 _) ?_
  refine Bod.eqI (nI e91) (by first | assumption | (simp (disch := omega) only [rI, rIe, rA, rIA, rLA, rJA, rVI, rQI, rVA, rQA, upd_at,  rAI, rLI, rJI, nI_add, pk_sub, kc_0, kc_1, kc_2, kc_3, kc_4, kc_5, reduceIte, Nat.reduceEqDiff, Nat.add_zero, rI_hold, rI_hold, rL_hold, hfd0, her, hfd1, he91]; done) | (simp (disch := omega) only [rI, rIe, rA, rIA, rLA, rJA, rVI, rQI, rVA, rQA, upd_at,  rAI, rLI, rJI, nI_add, pk_sub, kc_0, kc_1, kc_2, kc_3, kc_4, kc_5, reduceIte, Nat.reduceEqDiff, Nat.add_zero, rI_hold, rI_hold, rL_hold, hfd0, her, hfd1, he91]; exact congrArg nI (by omega))) ?_
  refine Bod.go dc_415_111 rfl ?_
  refine Bod.get dc_415_112 fr_415_499 (mk_61 _) rfl ?_
  refine Bod.go dc_415_115 rfl ?_
  refine Bod.laldN i0 rfl (by omega) (by omega) dc_415_116 (mk_92 _) ?_
  refine Bod.go dc_415_117 rfl ?_
  refine Bod.get dc_415_118 fr_415_496 (mk_61 _) rfl ?_
  refine Bod.go dc_415_121 rfl ?_
  refine Bod.ialdN i0 rfl (by omega) (by omega) dc_415_122 (mk_91 _) ?_
  refine Bod.eqI (nI e91) (by first | assumption | (simp (disch := omega) only [rI, rIe, rA, rIA, rLA, rJA, rVI, rQI, rVA, rQA, upd_at,  rAI, rLI, rJI, nI_add, pk_sub, kc_0, kc_1, kc_2, kc_3, kc_4, kc_5, reduceIte, Nat.reduceEqDiff, Nat.add_zero, rI_hold, rI_hold, rL_hold, hfd0, her, hfd1, he91]; done) | (simp (disch := omega) only [rI, rIe, rA, rIA, rLA, rJA, rVI, rQI, rVA, rQA, upd_at,  rAI, rLI, rJI, nI_add, pk_sub, kc_0, kc_1, kc_2, kc_3, kc_4, kc_5, reduceIte, Nat.reduceEqDiff, Nat.add_zero, rI_hold, rI_hold, rL_hold, hfd0, her, hfd1, he91]; exact congrArg nI (by omega))) ?_
  refine Bod.ic 1 (by decide) dc_415_123 ?_
  refine Bod.icT dc_415_124 rfl (k2_ne_T (k_ne e91 1 rfl rfl (by omega) (by omega) (by omega))) ?_
  refine Bod.go dc_415_131 rfl ?_
  refine Bod.get dc_415_132 fr_415_546 (mk_61 _) rfl ?_
  refine Bod.go dc_415_135 rfl ?_
  refine Bod.laldN i0 rfl (by omega) (by omega) dc_415_136 (mk_93 _) ?_
  refine Bod.virt (r := []) dc_415_137 kr_415_771 ⟨Or.inl rfl, ow_377, cl_13⟩ (by rw [np_377]; rfl) (by rw [np_377]; rfl) (ob_of (mk_thing ag (by first | exact hz2 | (simp only [rIS, rJS, rAS, rLS, rVS, rQS, rS_hold]; exact hz2)))) (Nat.le_of_ble_eq_true rfl) (c6  ) ?_
  show Bod _ _ _ _ [] _ _ _
  refine Bod.go dc_415_140 rfl ?_
  refine Bod.go dc_415_142 rfl ?_
  refine Bod.go dc_415_144 rfl ?_
  refine Bod.get dc_415_145 fr_415_496 (mk_61 _) rfl ?_
  refine Bod.go dc_415_148 rfl ?_
  refine Bod.ialdN vv rfl (by omega) (by omega) dc_415_149 (mk_91 _) ?_
  refine Bod.eqI (nI e911) (by first | assumption | (simp (disch := omega) only [rI, rIe, rA, rIA, rLA, rJA, rVI, rQI, rVA, rQA, upd_at,  rAI, rLI, rJI, nI_add, pk_sub, kc_0, kc_1, kc_2, kc_3, kc_4, kc_5, reduceIte, Nat.reduceEqDiff, Nat.add_zero, rI_hold, rI_hold, rL_hold, hfd0, her, hfd1, he91, he911]; done) | (simp (disch := omega) only [rI, rIe, rA, rIA, rLA, rJA, rVI, rQI, rVA, rQA, upd_at,  rAI, rLI, rJI, nI_add, pk_sub, kc_0, kc_1, kc_2, kc_3, kc_4, kc_5, reduceIte, Nat.reduceEqDiff, Nat.add_zero, rI_hold, rI_hold, rL_hold, hfd0, her, hfd1, he91, he911]; exact congrArg nI (by omega))) ?_
  refine Bod.go dc_415_150 rfl ?_
  refine Bod.get dc_415_151 fr_415_499 (mk_61 _) rfl ?_
  refine Bod.go dc_415_154 rfl ?_
  refine Bod.laldN vv rfl (by omega) (by omega) dc_415_155 (mk_92 _) ?_
  refine Bod.go dc_415_156 rfl ?_
  refine Bod.get dc_415_157 fr_415_546 (mk_61 _) rfl ?_
  refine Bod.go dc_415_160 rfl ?_
  refine Bod.laldN vv rfl (by omega) (by omega) dc_415_161 (mk_93 _) ?_
  refine Bod.virt (r := []) dc_415_162 kr_415_699 ⟨Or.inl rfl, ow_358, cl_13⟩ (by rw [np_358]; rfl) (by rw [np_358]; rfl) (ob_of (mk_thing ag (by first | exact hz3 | (simp only [rIS, rJS, rAS, rLS, rVS, rQS, rS_hold]; exact hz3)))) (Nat.le_of_ble_eq_true rfl) (c7  ) ?_
  show Bod _ _ _ _ [] _ _ _
  refine Bod.go dc_415_165 rfl ?_
  refine Bod.go dc_415_166 rfl ?_
  refine Bod.get dc_415_167 fr_415_493 (mk_61 _) rfl ?_
  refine Bod.eqI (nI t) (by first | assumption | (simp (disch := omega) only [rI, rIe, rA, rIA, rLA, rJA, rVI, rQI, rVA, rQA, upd_at,  rAI, rLI, rJI, nI_add, pk_sub, kc_0, kc_1, kc_2, kc_3, kc_4, kc_5, reduceIte, Nat.reduceEqDiff, Nat.add_zero, rI_hold, rI_hold, rL_hold, hfd0, her, hfd1, he91, he911, ht]; done) | (simp (disch := omega) only [rI, rIe, rA, rIA, rLA, rJA, rVI, rQI, rVA, rQA, upd_at,  rAI, rLI, rJI, nI_add, pk_sub, kc_0, kc_1, kc_2, kc_3, kc_4, kc_5, reduceIte, Nat.reduceEqDiff, Nat.add_zero, rI_hold, rI_hold, rL_hold, hfd0, her, hfd1, he91, he911, ht]; exact congrArg nI (by omega))) ?_
  refine Bod.ic 3 (by decide) dc_415_170 ?_
  refine Bod.subN (t - 3) (by omega) (by omega) dc_415_171 ?_
  refine Bod.put dc_415_172 fr_415_493 (mk_61 _) (Nat.le_of_ble_eq_true rfl) pf_14_51 (st_6151 _ _) (mu_I _ _ _) ?_
  refine Bod.ic 1 (by decide) dc_415_175 ?_
  exact Bod.retZ dc_415_176 rt_415 (Or.inr rfl)
theorem rSi_10 {d : Nat} {S : cS} {x : Nat} {i0 : Nat} {vv : Nat} {S1 : cS} {S2 : cS} {S3 : cS} {g : Nat} {zg : Nat} {S4 : cS} {fd0 : Nat} {er : Nat} {fd1 : Nat} {S5 : cS} {e91 : Nat} {S6 : cS} {e911 : Nat} {S7 : cS} {t : Nat} (mx : x < 2 ^ 20) (mi0 : i0 < 2 ^ 20) (mvv : vv < 2 ^ 20) (c1 : Ans (d + 8) 363 [.ref 61, .int (nI x), .int (nI 1)] S (some (.int (nI 0))) S1) (c2 : Ans (d + 8) 363 [.ref 61, .int (nI x), .int (nI 2)] S1 (some (.int (nI 1))) S2) (ag : 108 ≤ g) (c3 : Ans (d + 8) 361 [.ref 61, .int (nI x)] S2 (some (.ref g)) S3) (c4 : Ans (d + 8) 410 [.ref 61, .ref g, .int (nI i0)] S3 (some (.int (Int32.ofInt (-1)))) S4) (hz1 : (sS S4)[g - 108]? = some (13, zg)) (hfd0 : sI S4 (100 * g + 0) = nI fd0) (mfd0 : fd0 < 2 ^ 20) (b1 : fd0 ≠ 1) (her : sI S4 6164 = nI er) (mer : er < 2 ^ 20) (b2 : er = 4) (hfd1 : sI S4 (100 * g + 1) = nI fd1) (mfd1 : fd1 < 2 ^ 20) (b3 : fd1 ≠ 100) (c5 : Ans (d + 8) 375 [.ref g, .int (nI 0), .long 0, .long 0] S4 none S5) (b4 : i0 < 20480) (he91 : sA S5 91 i0 = nI e91) (me91 : e91 < 2 ^ 20) (b5 : e91 = 1) (c6 : Ans (d + 8) 377 [.ref g, .int (nI fd1), .int (nI e91), .long (sL S5 92 i0), .long 0] S5 none S6) (hz2 : (sS S5)[g - 108]? = some (13, zg)) (b6 : vv < 20480) (he911 : sA S6 91 vv = nI e911) (me911 : e911 < 2 ^ 20) (c7 : Ans (d + 8) 358 [.ref g, .int (nI fd1), .int (nI e911), .long (sL S6 92 vv), .long (sL S6 93 vv)] S6 none S7) (hz3 : (sS S6)[g - 108]? = some (13, zg)) (ht : sI S7 6151 = nI t) (mt : t < 20481) (b7 : 3 ≤ t) : Bod (d + 8) 415 0 [(0, .ref 61), (1, .int (nI x)), (2, .int (nI i0)), (3, .int (nI vv))] [] S (some (.int 1)) (wI 6151 (nI (t - 3)) S7) := by
  refine Bod.go dc_415_0 rfl ?_
  refine Bod.go dc_415_1 rfl ?_
  refine Bod.ic 1 (by decide) dc_415_2 ?_
  refine Bod.virt (r := []) dc_415_3 kr_415_683 ⟨Or.inl rfl, ow_363, cl_14⟩ (by rw [np_363]; rfl) (by rw [np_363]; rfl) (ob_of (mk_61 _)) (Nat.le_of_ble_eq_true rfl) (c1  ) ?_
  show Bod _ _ _ _ [_] _ _ _
  refine Bod.ifF dc_415_6 rfl (k1_ne_F (k_eq 0 0 rfl rfl (by omega))) ?_
  refine Bod.go dc_415_9 rfl ?_
  refine Bod.go dc_415_10 rfl ?_
  refine Bod.ic 2 (by decide) dc_415_11 ?_
  refine Bod.virt (r := []) dc_415_12 kr_415_683 ⟨Or.inl rfl, ow_363, cl_14⟩ (by rw [np_363]; rfl) (by rw [np_363]; rfl) (ob_of (mk_61 _)) (Nat.le_of_ble_eq_true rfl) (c2  ) ?_
  show Bod _ _ _ _ [_] _ _ _
  refine Bod.ifT dc_415_15 rfl (k1_ne_T (k_ne 1 0 rfl rfl (by omega) (by omega) (by omega))) ?_
  refine Bod.go dc_415_24 rfl ?_
  refine Bod.go dc_415_25 rfl ?_
  refine Bod.virt (r := []) dc_415_26 kr_415_554 ⟨Or.inl rfl, ow_361, cl_14⟩ (by rw [np_361]; rfl) (by rw [np_361]; rfl) (ob_of (mk_61 _)) (Nat.le_of_ble_eq_true rfl) (c3  ) ?_
  show Bod _ _ _ _ [_] _ _ _
  refine Bod.ast dc_415_29 (by rw [ml_415]; exact Nat.le_of_ble_eq_true rfl) ?_
  refine Bod.go dc_415_31 rfl ?_
  refine Bod.go dc_415_32 rfl ?_
  refine Bod.go dc_415_34 rfl ?_
  refine Bod.virt (r := []) dc_415_35 kr_415_768 ⟨Or.inl rfl, ow_410, cl_14⟩ (by rw [np_410]; rfl) (by rw [np_410]; rfl) (ob_of (mk_61 _)) (Nat.le_of_ble_eq_true rfl) (c4  ) ?_
  show Bod _ _ _ _ [_] _ _ _
  refine Bod.ist dc_415_38 (by rw [ml_415]; exact Nat.le_of_ble_eq_true rfl) ?_
  refine Bod.go dc_415_40 rfl ?_
  refine Bod.ifF dc_415_42 rfl (by decide) ?_
  refine Bod.go dc_415_45 rfl ?_
  refine Bod.get dc_415_47 fr_415_531 (mk_thing ag (by first | exact hz1 | (simp only [rIS, rJS, rAS, rLS, rVS, rQS, rS_hold]; exact hz1))) rfl ?_
  refine Bod.eqI (nI fd0) (by first | assumption | (simp (disch := omega) only [rI, rIe, rA, rIA, rLA, rJA, rVI, rQI, rVA, rQA, upd_at,  rAI, rLI, rJI, nI_add, pk_sub, kc_0, kc_1, kc_2, kc_3, kc_4, kc_5, reduceIte, Nat.reduceEqDiff, Nat.add_zero, rI_hold, rI_hold, rL_hold, hfd0]; done) | (simp (disch := omega) only [rI, rIe, rA, rIA, rLA, rJA, rVI, rQI, rVA, rQA, upd_at,  rAI, rLI, rJI, nI_add, pk_sub, kc_0, kc_1, kc_2, kc_3, kc_4, kc_5, reduceIte, Nat.reduceEqDiff, Nat.add_zero, rI_hold, rI_hold, rL_hold, hfd0]; exact congrArg nI (by omega))) ?_
  refine Bod.ic 1 (by decide) dc_415_50 ?_
  refine Bod.icF dc_415_51 rfl (k2_eq_F (k_ne fd0 1 rfl rfl (by omega) (by omega) (by omega))) ?_
  refine Bod.go dc_415_54 rfl ?_
  refine Bod.get dc_415_55 fr_415_453 (mk_61 _) rfl ?_
  refine Bod.eqI (nI er) (by first | assumption | (simp (disch := omega) only [rI, rIe, rA, rIA, rLA, rJA, rVI, rQI, rVA, rQA, upd_at,  rAI, rLI, rJI, nI_add, pk_sub, kc_0, kc_1, kc_2, kc_3, kc_4, kc_5, reduceIte, Nat.reduceEqDiff, Nat.add_zero, rI_hold, rI_hold, rL_hold, hfd0, her]; done) | (simp (disch := omega) only [rI, rIe, rA, rIA, rLA, rJA, rVI, rQI, rVA, rQA, upd_at,  rAI, rLI, rJI, nI_add, pk_sub, kc_0, kc_1, kc_2, kc_3, kc_4, kc_5, reduceIte, Nat.reduceEqDiff, Nat.add_zero, rI_hold, rI_hold, rL_hold, hfd0, her]; exact congrArg nI (by omega))) ?_
  refine Bod.ic 4 (by decide) dc_415_58 ?_
  refine Bod.icT dc_415_59 rfl (k2_eq_T (k_eq er 4 rfl rfl (by omega))) ?_
  refine Bod.go dc_415_64 rfl ?_
  refine Bod.ifF dc_415_66 rfl (by decide) ?_
  refine Bod.go dc_415_69 rfl ?_
  refine Bod.get dc_415_71 fr_415_459 (mk_thing ag (by first | exact hz1 | (simp only [rIS, rJS, rAS, rLS, rVS, rQS, rS_hold]; exact hz1))) rfl ?_
  refine Bod.eqI (nI fd1) (by first | assumption | (simp (disch := omega) only [rI, rIe, rA, rIA, rLA, rJA, rVI, rQI, rVA, rQA, upd_at,  rAI, rLI, rJI, nI_add, pk_sub, kc_0, kc_1, kc_2, kc_3, kc_4, kc_5, reduceIte, Nat.reduceEqDiff, Nat.add_zero, rI_hold, rI_hold, rL_hold, hfd0, her, hfd1]; done) | (simp (disch := omega) only [rI, rIe, rA, rIA, rLA, rJA, rVI, rQI, rVA, rQA, upd_at,  rAI, rLI, rJI, nI_add, pk_sub, kc_0, kc_1, kc_2, kc_3, kc_4, kc_5, reduceIte, Nat.reduceEqDiff, Nat.add_zero, rI_hold, rI_hold, rL_hold, hfd0, her, hfd1]; exact congrArg nI (by omega))) ?_
  refine Bod.bip 100 (by decide) dc_415_74 ?_
  refine Bod.icT dc_415_76 rfl (k2_ne_T (k_ne fd1 100 rfl rfl (by omega) (by omega) (by omega))) ?_
  refine Bod.go dc_415_86 rfl ?_
  refine Bod.get dc_415_88 fr_415_459 (mk_thing ag (by first | exact hz1 | (simp only [rIS, rJS, rAS, rLS, rVS, rQS, rS_hold]; exact hz1))) rfl ?_
  refine Bod.eqI (nI fd1) (by first | assumption | (simp (disch := omega) only [rI, rIe, rA, rIA, rLA, rJA, rVI, rQI, rVA, rQA, upd_at,  rAI, rLI, rJI, nI_add, pk_sub, kc_0, kc_1, kc_2, kc_3, kc_4, kc_5, reduceIte, Nat.reduceEqDiff, Nat.add_zero, rI_hold, rI_hold, rL_hold, hfd0, her, hfd1]; done) | (simp (disch := omega) only [rI, rIe, rA, rIA, rLA, rJA, rVI, rQI, rVA, rQA, upd_at,  rAI, rLI, rJI, nI_add, pk_sub, kc_0, kc_1, kc_2, kc_3, kc_4, kc_5, reduceIte, Nat.reduceEqDiff, Nat.add_zero, rI_hold, rI_hold, rL_hold, hfd0, her, hfd1]; exact congrArg nI (by omega))) ?_
  refine Bod.ist dc_415_91 (by rw [ml_415]; exact Nat.le_of_ble_eq_true rfl) ?_
  refine Bod.go dc_415_93 rfl ?_
  refine Bod.ic 0 (by decide) dc_415_95 ?_
  refine Bod.go dc_415_96 rfl ?_
  refine Bod.go dc_415_97 rfl ?_
  refine Bod.virt (r := []) dc_415_98 kr_415_759 ⟨Or.inl rfl, ow_375, cl_13⟩ (by rw [np_375]; rfl) (by rw [np_375]; rfl) (ob_of (mk_thing ag (by first | exact hz1 | (simp only [rIS, rJS, rAS, rLS, rVS, rQS, rS_hold]; exact hz1)))) (Nat.le_of_ble_eq_true rfl) (c5  ) ?_
  show Bod _ _ _ _ [] _ _ _
  refine Bod.go dc_415_101 rfl ?_
  refine Bod.go dc_415_103 rfl ?_
  refine Bod.go dc_415_105 rfl ?_
  refine Bod.get dc_415_106 fr_415_496 (mk_61 _) rfl ?_
  refine Bod.go dc_415_109 rfl ?_
  refine Bod.ialdN i0 rfl (by omega) (by omega) dc_415_110 (mk_91 _) ?_
  refine Bod.eqI (nI e91) (by first | assumption | (simp (disch := omega) only [rI, rIe, rA, rIA, rLA, rJA, rVI, rQI, rVA, rQA, upd_at,  rAI, rLI, rJI, nI_add, pk_sub, kc_0, kc_1, kc_2, kc_3, kc_4, kc_5, reduceIte, Nat.reduceEqDiff, Nat.add_zero, rI_hold, rI_hold, rL_hold, hfd0, her, hfd1, he91]; done) | (simp (disch := omega) only [rI, rIe, rA, rIA, rLA, rJA, rVI, rQI, rVA, rQA, upd_at,  rAI, rLI, rJI, nI_add, pk_sub, kc_0, kc_1, kc_2, kc_3, kc_4, kc_5, reduceIte, Nat.reduceEqDiff, Nat.add_zero, rI_hold, rI_hold, rL_hold, hfd0, her, hfd1, he91]; exact congrArg nI (by omega))) ?_
  refine Bod.go dc_415_111 rfl ?_
  refine Bod.get dc_415_112 fr_415_499 (mk_61 _) rfl ?_
  refine Bod.go dc_415_115 rfl ?_
  refine Bod.laldN i0 rfl (by omega) (by omega) dc_415_116 (mk_92 _) ?_
  refine Bod.go dc_415_117 rfl ?_
  refine Bod.get dc_415_118 fr_415_496 (mk_61 _) rfl ?_
  refine Bod.go dc_415_121 rfl ?_
  refine Bod.ialdN i0 rfl (by omega) (by omega) dc_415_122 (mk_91 _) ?_
  refine Bod.eqI (nI e91) (by first | assumption | (simp (disch := omega) only [rI, rIe, rA, rIA, rLA, rJA, rVI, rQI, rVA, rQA, upd_at,  rAI, rLI, rJI, nI_add, pk_sub, kc_0, kc_1, kc_2, kc_3, kc_4, kc_5, reduceIte, Nat.reduceEqDiff, Nat.add_zero, rI_hold, rI_hold, rL_hold, hfd0, her, hfd1, he91]; done) | (simp (disch := omega) only [rI, rIe, rA, rIA, rLA, rJA, rVI, rQI, rVA, rQA, upd_at,  rAI, rLI, rJI, nI_add, pk_sub, kc_0, kc_1, kc_2, kc_3, kc_4, kc_5, reduceIte, Nat.reduceEqDiff, Nat.add_zero, rI_hold, rI_hold, rL_hold, hfd0, her, hfd1, he91]; exact congrArg nI (by omega))) ?_
  refine Bod.ic 1 (by decide) dc_415_123 ?_
  refine Bod.icF dc_415_124 rfl (k2_ne_F (k_eq e91 1 rfl rfl (by omega))) ?_
  refine Bod.go dc_415_127 rfl ?_
  refine Bod.go dc_415_128 rfl ?_
  refine Bod.virt (r := []) dc_415_137 kr_415_771 ⟨Or.inl rfl, ow_377, cl_13⟩ (by rw [np_377]; rfl) (by rw [np_377]; rfl) (ob_of (mk_thing ag (by first | exact hz2 | (simp only [rIS, rJS, rAS, rLS, rVS, rQS, rS_hold]; exact hz2)))) (Nat.le_of_ble_eq_true rfl) (c6  ) ?_
  show Bod _ _ _ _ [] _ _ _
  refine Bod.go dc_415_140 rfl ?_
  refine Bod.go dc_415_142 rfl ?_
  refine Bod.go dc_415_144 rfl ?_
  refine Bod.get dc_415_145 fr_415_496 (mk_61 _) rfl ?_
  refine Bod.go dc_415_148 rfl ?_
  refine Bod.ialdN vv rfl (by omega) (by omega) dc_415_149 (mk_91 _) ?_
  refine Bod.eqI (nI e911) (by first | assumption | (simp (disch := omega) only [rI, rIe, rA, rIA, rLA, rJA, rVI, rQI, rVA, rQA, upd_at,  rAI, rLI, rJI, nI_add, pk_sub, kc_0, kc_1, kc_2, kc_3, kc_4, kc_5, reduceIte, Nat.reduceEqDiff, Nat.add_zero, rI_hold, rI_hold, rL_hold, hfd0, her, hfd1, he91, he911]; done) | (simp (disch := omega) only [rI, rIe, rA, rIA, rLA, rJA, rVI, rQI, rVA, rQA, upd_at,  rAI, rLI, rJI, nI_add, pk_sub, kc_0, kc_1, kc_2, kc_3, kc_4, kc_5, reduceIte, Nat.reduceEqDiff, Nat.add_zero, rI_hold, rI_hold, rL_hold, hfd0, her, hfd1, he91, he911]; exact congrArg nI (by omega))) ?_
  refine Bod.go dc_415_150 rfl ?_
  refine Bod.get dc_415_151 fr_415_499 (mk_61 _) rfl ?_
  refine Bod.go dc_415_154 rfl ?_
  refine Bod.laldN vv rfl (by omega) (by omega) dc_415_155 (mk_92 _) ?_
  refine Bod.go dc_415_156 rfl ?_
  refine Bod.get dc_415_157 fr_415_546 (mk_61 _) rfl ?_
  refine Bod.go dc_415_160 rfl ?_
  refine Bod.laldN vv rfl (by omega) (by omega) dc_415_161 (mk_93 _) ?_
  refine Bod.virt (r := []) dc_415_162 kr_415_699 ⟨Or.inl rfl, ow_358, cl_13⟩ (by rw [np_358]; rfl) (by rw [np_358]; rfl) (ob_of (mk_thing ag (by first | exact hz3 | (simp only [rIS, rJS, rAS, rLS, rVS, rQS, rS_hold]; exact hz3)))) (Nat.le_of_ble_eq_true rfl) (c7  ) ?_
  show Bod _ _ _ _ [] _ _ _
  refine Bod.go dc_415_165 rfl ?_
  refine Bod.go dc_415_166 rfl ?_
  refine Bod.get dc_415_167 fr_415_493 (mk_61 _) rfl ?_
  refine Bod.eqI (nI t) (by first | assumption | (simp (disch := omega) only [rI, rIe, rA, rIA, rLA, rJA, rVI, rQI, rVA, rQA, upd_at,  rAI, rLI, rJI, nI_add, pk_sub, kc_0, kc_1, kc_2, kc_3, kc_4, kc_5, reduceIte, Nat.reduceEqDiff, Nat.add_zero, rI_hold, rI_hold, rL_hold, hfd0, her, hfd1, he91, he911, ht]; done) | (simp (disch := omega) only [rI, rIe, rA, rIA, rLA, rJA, rVI, rQI, rVA, rQA, upd_at,  rAI, rLI, rJI, nI_add, pk_sub, kc_0, kc_1, kc_2, kc_3, kc_4, kc_5, reduceIte, Nat.reduceEqDiff, Nat.add_zero, rI_hold, rI_hold, rL_hold, hfd0, her, hfd1, he91, he911, ht]; exact congrArg nI (by omega))) ?_
  refine Bod.ic 3 (by decide) dc_415_170 ?_
  refine Bod.subN (t - 3) (by omega) (by omega) dc_415_171 ?_
  refine Bod.put dc_415_172 fr_415_493 (mk_61 _) (Nat.le_of_ble_eq_true rfl) pf_14_51 (st_6151 _ _) (mu_I _ _ _) ?_
  refine Bod.ic 1 (by decide) dc_415_175 ?_
  exact Bod.retZ dc_415_176 rt_415 (Or.inr rfl)
theorem rSi_11 {d : Nat} {S : cS} {x : Nat} {i0 : Nat} {vv : Nat} {S1 : cS} {S2 : cS} {S3 : cS} {g : Nat} {zg : Nat} {S4 : cS} {fd0 : Nat} {er : Nat} {fd1 : Nat} {S5 : cS} (mx : x < 2 ^ 20) (mi0 : i0 < 2 ^ 20) (mvv : vv < 2 ^ 20) (c1 : Ans (d + 8) 363 [.ref 61, .int (nI x), .int (nI 1)] S (some (.int (nI 0))) S1) (c2 : Ans (d + 8) 363 [.ref 61, .int (nI x), .int (nI 2)] S1 (some (.int (nI 1))) S2) (ag : 108 ≤ g) (c3 : Ans (d + 8) 361 [.ref 61, .int (nI x)] S2 (some (.ref g)) S3) (c4 : Ans (d + 8) 410 [.ref 61, .ref g, .int (nI i0)] S3 (some (.int (Int32.ofInt (-1)))) S4) (hz1 : (sS S4)[g - 108]? = some (13, zg)) (hfd0 : sI S4 (100 * g + 0) = nI fd0) (mfd0 : fd0 < 2 ^ 20) (b1 : fd0 ≠ 1) (her : sI S4 6164 = nI er) (mer : er < 2 ^ 20) (b2 : er = 4) (hfd1 : sI S4 (100 * g + 1) = nI fd1) (mfd1 : fd1 < 2 ^ 20) (b3 : fd1 = 100) (c5 : Ans (d + 8) 351 [.ref 61, .int (nI 8)] S4 (some (.int (nI 0))) S5) : Bod (d + 8) 415 0 [(0, .ref 61), (1, .int (nI x)), (2, .int (nI i0)), (3, .int (nI vv))] [] S (some (.int 0)) (S5) := by
  refine Bod.go dc_415_0 rfl ?_
  refine Bod.go dc_415_1 rfl ?_
  refine Bod.ic 1 (by decide) dc_415_2 ?_
  refine Bod.virt (r := []) dc_415_3 kr_415_683 ⟨Or.inl rfl, ow_363, cl_14⟩ (by rw [np_363]; rfl) (by rw [np_363]; rfl) (ob_of (mk_61 _)) (Nat.le_of_ble_eq_true rfl) (c1  ) ?_
  show Bod _ _ _ _ [_] _ _ _
  refine Bod.ifF dc_415_6 rfl (k1_ne_F (k_eq 0 0 rfl rfl (by omega))) ?_
  refine Bod.go dc_415_9 rfl ?_
  refine Bod.go dc_415_10 rfl ?_
  refine Bod.ic 2 (by decide) dc_415_11 ?_
  refine Bod.virt (r := []) dc_415_12 kr_415_683 ⟨Or.inl rfl, ow_363, cl_14⟩ (by rw [np_363]; rfl) (by rw [np_363]; rfl) (ob_of (mk_61 _)) (Nat.le_of_ble_eq_true rfl) (c2  ) ?_
  show Bod _ _ _ _ [_] _ _ _
  refine Bod.ifT dc_415_15 rfl (k1_ne_T (k_ne 1 0 rfl rfl (by omega) (by omega) (by omega))) ?_
  refine Bod.go dc_415_24 rfl ?_
  refine Bod.go dc_415_25 rfl ?_
  refine Bod.virt (r := []) dc_415_26 kr_415_554 ⟨Or.inl rfl, ow_361, cl_14⟩ (by rw [np_361]; rfl) (by rw [np_361]; rfl) (ob_of (mk_61 _)) (Nat.le_of_ble_eq_true rfl) (c3  ) ?_
  show Bod _ _ _ _ [_] _ _ _
  refine Bod.ast dc_415_29 (by rw [ml_415]; exact Nat.le_of_ble_eq_true rfl) ?_
  refine Bod.go dc_415_31 rfl ?_
  refine Bod.go dc_415_32 rfl ?_
  refine Bod.go dc_415_34 rfl ?_
  refine Bod.virt (r := []) dc_415_35 kr_415_768 ⟨Or.inl rfl, ow_410, cl_14⟩ (by rw [np_410]; rfl) (by rw [np_410]; rfl) (ob_of (mk_61 _)) (Nat.le_of_ble_eq_true rfl) (c4  ) ?_
  show Bod _ _ _ _ [_] _ _ _
  refine Bod.ist dc_415_38 (by rw [ml_415]; exact Nat.le_of_ble_eq_true rfl) ?_
  refine Bod.go dc_415_40 rfl ?_
  refine Bod.ifF dc_415_42 rfl (by decide) ?_
  refine Bod.go dc_415_45 rfl ?_
  refine Bod.get dc_415_47 fr_415_531 (mk_thing ag (by first | exact hz1 | (simp only [rIS, rJS, rAS, rLS, rVS, rQS, rS_hold]; exact hz1))) rfl ?_
  refine Bod.eqI (nI fd0) (by first | assumption | (simp (disch := omega) only [rI, rIe, rA, rIA, rLA, rJA, rVI, rQI, rVA, rQA, upd_at,  rAI, rLI, rJI, nI_add, pk_sub, kc_0, kc_1, kc_2, kc_3, kc_4, kc_5, reduceIte, Nat.reduceEqDiff, Nat.add_zero, rI_hold, rI_hold, rL_hold, hfd0]; done) | (simp (disch := omega) only [rI, rIe, rA, rIA, rLA, rJA, rVI, rQI, rVA, rQA, upd_at,  rAI, rLI, rJI, nI_add, pk_sub, kc_0, kc_1, kc_2, kc_3, kc_4, kc_5, reduceIte, Nat.reduceEqDiff, Nat.add_zero, rI_hold, rI_hold, rL_hold, hfd0]; exact congrArg nI (by omega))) ?_
  refine Bod.ic 1 (by decide) dc_415_50 ?_
  refine Bod.icF dc_415_51 rfl (k2_eq_F (k_ne fd0 1 rfl rfl (by omega) (by omega) (by omega))) ?_
  refine Bod.go dc_415_54 rfl ?_
  refine Bod.get dc_415_55 fr_415_453 (mk_61 _) rfl ?_
  refine Bod.eqI (nI er) (by first | assumption | (simp (disch := omega) only [rI, rIe, rA, rIA, rLA, rJA, rVI, rQI, rVA, rQA, upd_at,  rAI, rLI, rJI, nI_add, pk_sub, kc_0, kc_1, kc_2, kc_3, kc_4, kc_5, reduceIte, Nat.reduceEqDiff, Nat.add_zero, rI_hold, rI_hold, rL_hold, hfd0, her]; done) | (simp (disch := omega) only [rI, rIe, rA, rIA, rLA, rJA, rVI, rQI, rVA, rQA, upd_at,  rAI, rLI, rJI, nI_add, pk_sub, kc_0, kc_1, kc_2, kc_3, kc_4, kc_5, reduceIte, Nat.reduceEqDiff, Nat.add_zero, rI_hold, rI_hold, rL_hold, hfd0, her]; exact congrArg nI (by omega))) ?_
  refine Bod.ic 4 (by decide) dc_415_58 ?_
  refine Bod.icT dc_415_59 rfl (k2_eq_T (k_eq er 4 rfl rfl (by omega))) ?_
  refine Bod.go dc_415_64 rfl ?_
  refine Bod.ifF dc_415_66 rfl (by decide) ?_
  refine Bod.go dc_415_69 rfl ?_
  refine Bod.get dc_415_71 fr_415_459 (mk_thing ag (by first | exact hz1 | (simp only [rIS, rJS, rAS, rLS, rVS, rQS, rS_hold]; exact hz1))) rfl ?_
  refine Bod.eqI (nI fd1) (by first | assumption | (simp (disch := omega) only [rI, rIe, rA, rIA, rLA, rJA, rVI, rQI, rVA, rQA, upd_at,  rAI, rLI, rJI, nI_add, pk_sub, kc_0, kc_1, kc_2, kc_3, kc_4, kc_5, reduceIte, Nat.reduceEqDiff, Nat.add_zero, rI_hold, rI_hold, rL_hold, hfd0, her, hfd1]; done) | (simp (disch := omega) only [rI, rIe, rA, rIA, rLA, rJA, rVI, rQI, rVA, rQA, upd_at,  rAI, rLI, rJI, nI_add, pk_sub, kc_0, kc_1, kc_2, kc_3, kc_4, kc_5, reduceIte, Nat.reduceEqDiff, Nat.add_zero, rI_hold, rI_hold, rL_hold, hfd0, her, hfd1]; exact congrArg nI (by omega))) ?_
  refine Bod.bip 100 (by decide) dc_415_74 ?_
  refine Bod.icF dc_415_76 rfl (k2_ne_F (k_eq fd1 100 rfl rfl (by omega))) ?_
  refine Bod.go dc_415_79 rfl ?_
  refine Bod.bip 8 (by decide) dc_415_80 ?_
  refine Bod.virt (r := []) dc_415_82 kr_415_608 ⟨Or.inl rfl, ow_351, cl_14⟩ (by rw [np_351]; rfl) (by rw [np_351]; rfl) (ob_of (mk_61 _)) (Nat.le_of_ble_eq_true rfl) (c5  ) ?_
  show Bod _ _ _ _ [_] _ _ _
  exact Bod.retZ dc_415_85 rt_415 (Or.inl rfl)
theorem rSi_12 {d : Nat} {S : cS} {x : Nat} {i0 : Nat} {vv : Nat} {S1 : cS} {S2 : cS} {S3 : cS} {g : Nat} {zg : Nat} {S4 : cS} {fd0 : Nat} {er : Nat} (mx : x < 2 ^ 20) (mi0 : i0 < 2 ^ 20) (mvv : vv < 2 ^ 20) (c1 : Ans (d + 8) 363 [.ref 61, .int (nI x), .int (nI 1)] S (some (.int (nI 0))) S1) (c2 : Ans (d + 8) 363 [.ref 61, .int (nI x), .int (nI 2)] S1 (some (.int (nI 1))) S2) (ag : 108 ≤ g) (c3 : Ans (d + 8) 361 [.ref 61, .int (nI x)] S2 (some (.ref g)) S3) (c4 : Ans (d + 8) 410 [.ref 61, .ref g, .int (nI i0)] S3 (some (.int (Int32.ofInt (-1)))) S4) (hz1 : (sS S4)[g - 108]? = some (13, zg)) (hfd0 : sI S4 (100 * g + 0) = nI fd0) (mfd0 : fd0 < 2 ^ 20) (b1 : fd0 ≠ 1) (her : sI S4 6164 = nI er) (mer : er < 2 ^ 20) (b2 : er ≠ 4) : Bod (d + 8) 415 0 [(0, .ref 61), (1, .int (nI x)), (2, .int (nI i0)), (3, .int (nI vv))] [] S (some (.int 0)) (S4) := by
  refine Bod.go dc_415_0 rfl ?_
  refine Bod.go dc_415_1 rfl ?_
  refine Bod.ic 1 (by decide) dc_415_2 ?_
  refine Bod.virt (r := []) dc_415_3 kr_415_683 ⟨Or.inl rfl, ow_363, cl_14⟩ (by rw [np_363]; rfl) (by rw [np_363]; rfl) (ob_of (mk_61 _)) (Nat.le_of_ble_eq_true rfl) (c1  ) ?_
  show Bod _ _ _ _ [_] _ _ _
  refine Bod.ifF dc_415_6 rfl (k1_ne_F (k_eq 0 0 rfl rfl (by omega))) ?_
  refine Bod.go dc_415_9 rfl ?_
  refine Bod.go dc_415_10 rfl ?_
  refine Bod.ic 2 (by decide) dc_415_11 ?_
  refine Bod.virt (r := []) dc_415_12 kr_415_683 ⟨Or.inl rfl, ow_363, cl_14⟩ (by rw [np_363]; rfl) (by rw [np_363]; rfl) (ob_of (mk_61 _)) (Nat.le_of_ble_eq_true rfl) (c2  ) ?_
  show Bod _ _ _ _ [_] _ _ _
  refine Bod.ifT dc_415_15 rfl (k1_ne_T (k_ne 1 0 rfl rfl (by omega) (by omega) (by omega))) ?_
  refine Bod.go dc_415_24 rfl ?_
  refine Bod.go dc_415_25 rfl ?_
  refine Bod.virt (r := []) dc_415_26 kr_415_554 ⟨Or.inl rfl, ow_361, cl_14⟩ (by rw [np_361]; rfl) (by rw [np_361]; rfl) (ob_of (mk_61 _)) (Nat.le_of_ble_eq_true rfl) (c3  ) ?_
  show Bod _ _ _ _ [_] _ _ _
  refine Bod.ast dc_415_29 (by rw [ml_415]; exact Nat.le_of_ble_eq_true rfl) ?_
  refine Bod.go dc_415_31 rfl ?_
  refine Bod.go dc_415_32 rfl ?_
  refine Bod.go dc_415_34 rfl ?_
  refine Bod.virt (r := []) dc_415_35 kr_415_768 ⟨Or.inl rfl, ow_410, cl_14⟩ (by rw [np_410]; rfl) (by rw [np_410]; rfl) (ob_of (mk_61 _)) (Nat.le_of_ble_eq_true rfl) (c4  ) ?_
  show Bod _ _ _ _ [_] _ _ _
  refine Bod.ist dc_415_38 (by rw [ml_415]; exact Nat.le_of_ble_eq_true rfl) ?_
  refine Bod.go dc_415_40 rfl ?_
  refine Bod.ifF dc_415_42 rfl (by decide) ?_
  refine Bod.go dc_415_45 rfl ?_
  refine Bod.get dc_415_47 fr_415_531 (mk_thing ag (by first | exact hz1 | (simp only [rIS, rJS, rAS, rLS, rVS, rQS, rS_hold]; exact hz1))) rfl ?_
  refine Bod.eqI (nI fd0) (by first | assumption | (simp (disch := omega) only [rI, rIe, rA, rIA, rLA, rJA, rVI, rQI, rVA, rQA, upd_at,  rAI, rLI, rJI, nI_add, pk_sub, kc_0, kc_1, kc_2, kc_3, kc_4, kc_5, reduceIte, Nat.reduceEqDiff, Nat.add_zero, rI_hold, rI_hold, rL_hold, hfd0]; done) | (simp (disch := omega) only [rI, rIe, rA, rIA, rLA, rJA, rVI, rQI, rVA, rQA, upd_at,  rAI, rLI, rJI, nI_add, pk_sub, kc_0, kc_1, kc_2, kc_3, kc_4, kc_5, reduceIte, Nat.reduceEqDiff, Nat.add_zero, rI_hold, rI_hold, rL_hold, hfd0]; exact congrArg nI (by omega))) ?_
  refine Bod.ic 1 (by decide) dc_415_50 ?_
  refine Bod.icF dc_415_51 rfl (k2_eq_F (k_ne fd0 1 rfl rfl (by omega) (by omega) (by omega))) ?_
  refine Bod.go dc_415_54 rfl ?_
  refine Bod.get dc_415_55 fr_415_453 (mk_61 _) rfl ?_
  refine Bod.eqI (nI er) (by first | assumption | (simp (disch := omega) only [rI, rIe, rA, rIA, rLA, rJA, rVI, rQI, rVA, rQA, upd_at,  rAI, rLI, rJI, nI_add, pk_sub, kc_0, kc_1, kc_2, kc_3, kc_4, kc_5, reduceIte, Nat.reduceEqDiff, Nat.add_zero, rI_hold, rI_hold, rL_hold, hfd0, her]; done) | (simp (disch := omega) only [rI, rIe, rA, rIA, rLA, rJA, rVI, rQI, rVA, rQA, upd_at,  rAI, rLI, rJI, nI_add, pk_sub, kc_0, kc_1, kc_2, kc_3, kc_4, kc_5, reduceIte, Nat.reduceEqDiff, Nat.add_zero, rI_hold, rI_hold, rL_hold, hfd0, her]; exact congrArg nI (by omega))) ?_
  refine Bod.ic 4 (by decide) dc_415_58 ?_
  refine Bod.icF dc_415_59 rfl (k2_eq_F (k_ne er 4 rfl rfl (by omega) (by omega) (by omega))) ?_
  refine Bod.ic 0 (by decide) dc_415_62 ?_
  exact Bod.retZ dc_415_63 rt_415 (Or.inl rfl)
theorem rSi_13 {d : Nat} {S : cS} {x : Nat} {i0 : Nat} {vv : Nat} {S1 : cS} {S2 : cS} {S3 : cS} (mx : x < 2 ^ 20) (mi0 : i0 < 2 ^ 20) (mvv : vv < 2 ^ 20) (c1 : Ans (d + 8) 363 [.ref 61, .int (nI x), .int (nI 1)] S (some (.int (nI 0))) S1) (c2 : Ans (d + 8) 363 [.ref 61, .int (nI x), .int (nI 2)] S1 (some (.int (nI 0))) S2) (c3 : Ans (d + 8) 351 [.ref 61, .int (nI 2)] S2 (some (.int (nI 0))) S3) : Bod (d + 8) 415 0 [(0, .ref 61), (1, .int (nI x)), (2, .int (nI i0)), (3, .int (nI vv))] [] S (some (.int 0)) (S3) := by
  refine Bod.go dc_415_0 rfl ?_
  refine Bod.go dc_415_1 rfl ?_
  refine Bod.ic 1 (by decide) dc_415_2 ?_
  refine Bod.virt (r := []) dc_415_3 kr_415_683 ⟨Or.inl rfl, ow_363, cl_14⟩ (by rw [np_363]; rfl) (by rw [np_363]; rfl) (ob_of (mk_61 _)) (Nat.le_of_ble_eq_true rfl) (c1  ) ?_
  show Bod _ _ _ _ [_] _ _ _
  refine Bod.ifF dc_415_6 rfl (k1_ne_F (k_eq 0 0 rfl rfl (by omega))) ?_
  refine Bod.go dc_415_9 rfl ?_
  refine Bod.go dc_415_10 rfl ?_
  refine Bod.ic 2 (by decide) dc_415_11 ?_
  refine Bod.virt (r := []) dc_415_12 kr_415_683 ⟨Or.inl rfl, ow_363, cl_14⟩ (by rw [np_363]; rfl) (by rw [np_363]; rfl) (ob_of (mk_61 _)) (Nat.le_of_ble_eq_true rfl) (c2  ) ?_
  show Bod _ _ _ _ [_] _ _ _
  refine Bod.ifF dc_415_15 rfl (k1_ne_F (k_eq 0 0 rfl rfl (by omega))) ?_
  refine Bod.go dc_415_18 rfl ?_
  refine Bod.ic 2 (by decide) dc_415_19 ?_
  refine Bod.virt (r := []) dc_415_20 kr_415_608 ⟨Or.inl rfl, ow_351, cl_14⟩ (by rw [np_351]; rfl) (by rw [np_351]; rfl) (ob_of (mk_61 _)) (Nat.le_of_ble_eq_true rfl) (c3  ) ?_
  show Bod _ _ _ _ [_] _ _ _
  exact Bod.retZ dc_415_23 rt_415 (Or.inl rfl)
theorem rSa_1 {d : Nat} {S : cS} {nm : Nat} {x : Nat} {vv : Nat} {S1 : cS} {S2 : cS} {g : Nat} {zg : Nat} {S3 : cS} {a : Nat} {e91 : Nat} {S4 : cS} {t : Nat} (mnm : nm < 2 ^ 20) (mx : x < 2 ^ 20) (mvv : vv < 2 ^ 20) (c1 : Ans (d + 8) 363 [.ref 61, .int (nI x), .int (nI 5)] S (some (.int (nI 1))) S1) (ag : 108 ≤ g) (c2 : Ans (d + 8) 361 [.ref 61, .int (nI x)] S1 (some (.ref g)) S2) (ma : a < 2 ^ 20) (c3 : Ans (d + 8) 399 [.ref g, .int (nI 0), .long ((nI nm).toInt64), .long 0] S2 (some (.int (nI a))) S3) (hz1 : (sS S2)[g - 108]? = some (13, zg)) (b1 : vv < 20480) (he91 : sA S3 91 vv = nI e91) (me91 : e91 < 2 ^ 20) (c4 : Ans (d + 8) 358 [.ref g, .int (nI a), .int (nI e91), .long (sL S3 92 vv), .long (sL S3 93 vv)] S3 none S4) (hz2 : (sS S3)[g - 108]? = some (13, zg)) (ht : sI S4 6151 = nI t) (mt : t < 20481) (b2 : 2 ≤ t) : Bod (d + 8) 416 0 [(0, .ref 61), (1, .int (nI nm)), (2, .int (nI x)), (3, .int (nI vv))] [] S (some (.int 1)) (wI 6151 (nI (t - 2)) S4) := by
  refine Bod.go dc_416_0 rfl ?_
  refine Bod.go dc_416_1 rfl ?_
  refine Bod.ic 5 (by decide) dc_416_2 ?_
  refine Bod.virt (r := []) dc_416_3 kr_416_683 ⟨Or.inl rfl, ow_363, cl_14⟩ (by rw [np_363]; rfl) (by rw [np_363]; rfl) (ob_of (mk_61 _)) (Nat.le_of_ble_eq_true rfl) (c1  ) ?_
  show Bod _ _ _ _ [_] _ _ _
  refine Bod.ifT dc_416_6 rfl (k1_ne_T (k_ne 1 0 rfl rfl (by omega) (by omega) (by omega))) ?_
  refine Bod.go dc_416_24 rfl ?_
  refine Bod.go dc_416_25 rfl ?_
  refine Bod.virt (r := []) dc_416_26 kr_416_554 ⟨Or.inl rfl, ow_361, cl_14⟩ (by rw [np_361]; rfl) (by rw [np_361]; rfl) (ob_of (mk_61 _)) (Nat.le_of_ble_eq_true rfl) (c2  ) ?_
  show Bod _ _ _ _ [_] _ _ _
  refine Bod.ast dc_416_29 (by rw [ml_416]; exact Nat.le_of_ble_eq_true rfl) ?_
  refine Bod.go dc_416_31 rfl ?_
  refine Bod.ic 0 (by decide) dc_416_33 ?_
  refine Bod.go dc_416_34 rfl ?_
  refine Bod.go dc_416_35 rfl ?_
  refine Bod.go dc_416_36 rfl ?_
  refine Bod.virt (r := []) dc_416_37 kr_416_764 ⟨Or.inl rfl, ow_399, cl_13⟩ (by rw [np_399]; rfl) (by rw [np_399]; rfl) (ob_of (mk_thing ag (by first | exact hz1 | (simp only [rIS, rJS, rAS, rLS, rVS, rQS, rS_hold]; exact hz1)))) (Nat.le_of_ble_eq_true rfl) (c3  ) ?_
  show Bod _ _ _ _ [_] _ _ _
  refine Bod.ist dc_416_40 (by rw [ml_416]; exact Nat.le_of_ble_eq_true rfl) ?_
  refine Bod.go dc_416_42 rfl ?_
  refine Bod.ifT dc_416_44 rfl (k1_ge_T a rfl (by omega)) ?_
  refine Bod.go dc_416_90 rfl ?_
  refine Bod.go dc_416_92 rfl ?_
  refine Bod.go dc_416_94 rfl ?_
  refine Bod.get dc_416_95 fr_416_496 (mk_61 _) rfl ?_
  refine Bod.go dc_416_98 rfl ?_
  refine Bod.ialdN vv rfl (by omega) (by omega) dc_416_99 (mk_91 _) ?_
  refine Bod.eqI (nI e91) (by first | assumption | (simp (disch := omega) only [rI, rIe, rA, rIA, rLA, rJA, rVI, rQI, rVA, rQA, upd_at,  rAI, rLI, rJI, nI_add, pk_sub, kc_0, kc_1, kc_2, kc_3, kc_4, kc_5, reduceIte, Nat.reduceEqDiff, Nat.add_zero, rI_hold, rI_hold, rL_hold, he91]; done) | (simp (disch := omega) only [rI, rIe, rA, rIA, rLA, rJA, rVI, rQI, rVA, rQA, upd_at,  rAI, rLI, rJI, nI_add, pk_sub, kc_0, kc_1, kc_2, kc_3, kc_4, kc_5, reduceIte, Nat.reduceEqDiff, Nat.add_zero, rI_hold, rI_hold, rL_hold, he91]; exact congrArg nI (by omega))) ?_
  refine Bod.go dc_416_100 rfl ?_
  refine Bod.get dc_416_101 fr_416_499 (mk_61 _) rfl ?_
  refine Bod.go dc_416_104 rfl ?_
  refine Bod.laldN vv rfl (by omega) (by omega) dc_416_105 (mk_92 _) ?_
  refine Bod.go dc_416_106 rfl ?_
  refine Bod.get dc_416_107 fr_416_546 (mk_61 _) rfl ?_
  refine Bod.go dc_416_110 rfl ?_
  refine Bod.laldN vv rfl (by omega) (by omega) dc_416_111 (mk_93 _) ?_
  refine Bod.virt (r := []) dc_416_112 kr_416_699 ⟨Or.inl rfl, ow_358, cl_13⟩ (by rw [np_358]; rfl) (by rw [np_358]; rfl) (ob_of (mk_thing ag (by first | exact hz2 | (simp only [rIS, rJS, rAS, rLS, rVS, rQS, rS_hold]; exact hz2)))) (Nat.le_of_ble_eq_true rfl) (c4  ) ?_
  show Bod _ _ _ _ [] _ _ _
  refine Bod.go dc_416_115 rfl ?_
  refine Bod.go dc_416_116 rfl ?_
  refine Bod.get dc_416_117 fr_416_493 (mk_61 _) rfl ?_
  refine Bod.eqI (nI t) (by first | assumption | (simp (disch := omega) only [rI, rIe, rA, rIA, rLA, rJA, rVI, rQI, rVA, rQA, upd_at,  rAI, rLI, rJI, nI_add, pk_sub, kc_0, kc_1, kc_2, kc_3, kc_4, kc_5, reduceIte, Nat.reduceEqDiff, Nat.add_zero, rI_hold, rI_hold, rL_hold, he91, ht]; done) | (simp (disch := omega) only [rI, rIe, rA, rIA, rLA, rJA, rVI, rQI, rVA, rQA, upd_at,  rAI, rLI, rJI, nI_add, pk_sub, kc_0, kc_1, kc_2, kc_3, kc_4, kc_5, reduceIte, Nat.reduceEqDiff, Nat.add_zero, rI_hold, rI_hold, rL_hold, he91, ht]; exact congrArg nI (by omega))) ?_
  refine Bod.ic 2 (by decide) dc_416_120 ?_
  refine Bod.subN (t - 2) (by omega) (by omega) dc_416_121 ?_
  refine Bod.put dc_416_122 fr_416_493 (mk_61 _) (Nat.le_of_ble_eq_true rfl) pf_14_51 (st_6151 _ _) (mu_I _ _ _) ?_
  refine Bod.ic 1 (by decide) dc_416_125 ?_
  exact Bod.retZ dc_416_126 rt_416 (Or.inr rfl)
theorem rSa_2 {d : Nat} {S : cS} {nm : Nat} {x : Nat} {vv : Nat} {S1 : cS} {S2 : cS} {g : Nat} {zg : Nat} {S3 : cS} {fd1 : Nat} {S4 : cS} {S5 : cS} {e91 : Nat} {S6 : cS} {t : Nat} (mnm : nm < 2 ^ 20) (mx : x < 2 ^ 20) (mvv : vv < 2 ^ 20) (c1 : Ans (d + 8) 363 [.ref 61, .int (nI x), .int (nI 5)] S (some (.int (nI 1))) S1) (ag : 108 ≤ g) (c2 : Ans (d + 8) 361 [.ref 61, .int (nI x)] S1 (some (.ref g)) S2) (c3 : Ans (d + 8) 399 [.ref g, .int (nI 0), .long ((nI nm).toInt64), .long 0] S2 (some (.int (Int32.ofInt (-1)))) S3) (hz1 : (sS S2)[g - 108]? = some (13, zg)) (hz2 : (sS S3)[g - 108]? = some (13, zg)) (hfd1 : sI S3 (100 * g + 1) = nI fd1) (mfd1 : fd1 < 2 ^ 20) (b1 : fd1 ≠ 40) (c4 : Ans (d + 8) 375 [.ref g, .int (nI 0), .long 0, .long 0] S3 none S4) (c5 : Ans (d + 8) 377 [.ref g, .int (nI fd1), .int (nI 0), .long ((nI nm).toInt64), .long 0] S4 none S5) (hz3 : (sS S4)[g - 108]? = some (13, zg)) (b2 : vv < 20480) (he91 : sA S5 91 vv = nI e91) (me91 : e91 < 2 ^ 20) (c6 : Ans (d + 8) 358 [.ref g, .int (nI fd1), .int (nI e91), .long (sL S5 92 vv), .long (sL S5 93 vv)] S5 none S6) (hz4 : (sS S5)[g - 108]? = some (13, zg)) (ht : sI S6 6151 = nI t) (mt : t < 20481) (b3 : 2 ≤ t) : Bod (d + 8) 416 0 [(0, .ref 61), (1, .int (nI nm)), (2, .int (nI x)), (3, .int (nI vv))] [] S (some (.int 1)) (wI 6151 (nI (t - 2)) S6) := by
  refine Bod.go dc_416_0 rfl ?_
  refine Bod.go dc_416_1 rfl ?_
  refine Bod.ic 5 (by decide) dc_416_2 ?_
  refine Bod.virt (r := []) dc_416_3 kr_416_683 ⟨Or.inl rfl, ow_363, cl_14⟩ (by rw [np_363]; rfl) (by rw [np_363]; rfl) (ob_of (mk_61 _)) (Nat.le_of_ble_eq_true rfl) (c1  ) ?_
  show Bod _ _ _ _ [_] _ _ _
  refine Bod.ifT dc_416_6 rfl (k1_ne_T (k_ne 1 0 rfl rfl (by omega) (by omega) (by omega))) ?_
  refine Bod.go dc_416_24 rfl ?_
  refine Bod.go dc_416_25 rfl ?_
  refine Bod.virt (r := []) dc_416_26 kr_416_554 ⟨Or.inl rfl, ow_361, cl_14⟩ (by rw [np_361]; rfl) (by rw [np_361]; rfl) (ob_of (mk_61 _)) (Nat.le_of_ble_eq_true rfl) (c2  ) ?_
  show Bod _ _ _ _ [_] _ _ _
  refine Bod.ast dc_416_29 (by rw [ml_416]; exact Nat.le_of_ble_eq_true rfl) ?_
  refine Bod.go dc_416_31 rfl ?_
  refine Bod.ic 0 (by decide) dc_416_33 ?_
  refine Bod.go dc_416_34 rfl ?_
  refine Bod.go dc_416_35 rfl ?_
  refine Bod.go dc_416_36 rfl ?_
  refine Bod.virt (r := []) dc_416_37 kr_416_764 ⟨Or.inl rfl, ow_399, cl_13⟩ (by rw [np_399]; rfl) (by rw [np_399]; rfl) (ob_of (mk_thing ag (by first | exact hz1 | (simp only [rIS, rJS, rAS, rLS, rVS, rQS, rS_hold]; exact hz1)))) (Nat.le_of_ble_eq_true rfl) (c3  ) ?_
  show Bod _ _ _ _ [_] _ _ _
  refine Bod.ist dc_416_40 (by rw [ml_416]; exact Nat.le_of_ble_eq_true rfl) ?_
  refine Bod.go dc_416_42 rfl ?_
  refine Bod.ifF dc_416_44 rfl (by decide) ?_
  refine Bod.go dc_416_47 rfl ?_
  refine Bod.get dc_416_49 fr_416_459 (mk_thing ag (by first | exact hz2 | (simp only [rIS, rJS, rAS, rLS, rVS, rQS, rS_hold]; exact hz2))) rfl ?_
  refine Bod.eqI (nI fd1) (by first | assumption | (simp (disch := omega) only [rI, rIe, rA, rIA, rLA, rJA, rVI, rQI, rVA, rQA, upd_at,  rAI, rLI, rJI, nI_add, pk_sub, kc_0, kc_1, kc_2, kc_3, kc_4, kc_5, reduceIte, Nat.reduceEqDiff, Nat.add_zero, rI_hold, rI_hold, rL_hold, hfd1]; done) | (simp (disch := omega) only [rI, rIe, rA, rIA, rLA, rJA, rVI, rQI, rVA, rQA, upd_at,  rAI, rLI, rJI, nI_add, pk_sub, kc_0, kc_1, kc_2, kc_3, kc_4, kc_5, reduceIte, Nat.reduceEqDiff, Nat.add_zero, rI_hold, rI_hold, rL_hold, hfd1]; exact congrArg nI (by omega))) ?_
  refine Bod.bip 40 (by decide) dc_416_52 ?_
  refine Bod.icT dc_416_54 rfl (k2_ne_T (k_ne fd1 40 rfl rfl (by omega) (by omega) (by omega))) ?_
  refine Bod.go dc_416_64 rfl ?_
  refine Bod.get dc_416_66 fr_416_459 (mk_thing ag (by first | exact hz2 | (simp only [rIS, rJS, rAS, rLS, rVS, rQS, rS_hold]; exact hz2))) rfl ?_
  refine Bod.eqI (nI fd1) (by first | assumption | (simp (disch := omega) only [rI, rIe, rA, rIA, rLA, rJA, rVI, rQI, rVA, rQA, upd_at,  rAI, rLI, rJI, nI_add, pk_sub, kc_0, kc_1, kc_2, kc_3, kc_4, kc_5, reduceIte, Nat.reduceEqDiff, Nat.add_zero, rI_hold, rI_hold, rL_hold, hfd1]; done) | (simp (disch := omega) only [rI, rIe, rA, rIA, rLA, rJA, rVI, rQI, rVA, rQA, upd_at,  rAI, rLI, rJI, nI_add, pk_sub, kc_0, kc_1, kc_2, kc_3, kc_4, kc_5, reduceIte, Nat.reduceEqDiff, Nat.add_zero, rI_hold, rI_hold, rL_hold, hfd1]; exact congrArg nI (by omega))) ?_
  refine Bod.ist dc_416_69 (by rw [ml_416]; exact Nat.le_of_ble_eq_true rfl) ?_
  refine Bod.go dc_416_71 rfl ?_
  refine Bod.ic 0 (by decide) dc_416_73 ?_
  refine Bod.go dc_416_74 rfl ?_
  refine Bod.go dc_416_75 rfl ?_
  refine Bod.virt (r := []) dc_416_76 kr_416_759 ⟨Or.inl rfl, ow_375, cl_13⟩ (by rw [np_375]; rfl) (by rw [np_375]; rfl) (ob_of (mk_thing ag (by first | exact hz2 | (simp only [rIS, rJS, rAS, rLS, rVS, rQS, rS_hold]; exact hz2)))) (Nat.le_of_ble_eq_true rfl) (c4  ) ?_
  show Bod _ _ _ _ [] _ _ _
  refine Bod.go dc_416_79 rfl ?_
  refine Bod.go dc_416_81 rfl ?_
  refine Bod.ic 0 (by decide) dc_416_83 ?_
  refine Bod.go dc_416_84 rfl ?_
  refine Bod.go dc_416_85 rfl ?_
  refine Bod.go dc_416_86 rfl ?_
  refine Bod.virt (r := []) dc_416_87 kr_416_771 ⟨Or.inl rfl, ow_377, cl_13⟩ (by rw [np_377]; rfl) (by rw [np_377]; rfl) (ob_of (mk_thing ag (by first | exact hz3 | (simp only [rIS, rJS, rAS, rLS, rVS, rQS, rS_hold]; exact hz3)))) (Nat.le_of_ble_eq_true rfl) (c5  ) ?_
  show Bod _ _ _ _ [] _ _ _
  refine Bod.go dc_416_90 rfl ?_
  refine Bod.go dc_416_92 rfl ?_
  refine Bod.go dc_416_94 rfl ?_
  refine Bod.get dc_416_95 fr_416_496 (mk_61 _) rfl ?_
  refine Bod.go dc_416_98 rfl ?_
  refine Bod.ialdN vv rfl (by omega) (by omega) dc_416_99 (mk_91 _) ?_
  refine Bod.eqI (nI e91) (by first | assumption | (simp (disch := omega) only [rI, rIe, rA, rIA, rLA, rJA, rVI, rQI, rVA, rQA, upd_at,  rAI, rLI, rJI, nI_add, pk_sub, kc_0, kc_1, kc_2, kc_3, kc_4, kc_5, reduceIte, Nat.reduceEqDiff, Nat.add_zero, rI_hold, rI_hold, rL_hold, hfd1, he91]; done) | (simp (disch := omega) only [rI, rIe, rA, rIA, rLA, rJA, rVI, rQI, rVA, rQA, upd_at,  rAI, rLI, rJI, nI_add, pk_sub, kc_0, kc_1, kc_2, kc_3, kc_4, kc_5, reduceIte, Nat.reduceEqDiff, Nat.add_zero, rI_hold, rI_hold, rL_hold, hfd1, he91]; exact congrArg nI (by omega))) ?_
  refine Bod.go dc_416_100 rfl ?_
  refine Bod.get dc_416_101 fr_416_499 (mk_61 _) rfl ?_
  refine Bod.go dc_416_104 rfl ?_
  refine Bod.laldN vv rfl (by omega) (by omega) dc_416_105 (mk_92 _) ?_
  refine Bod.go dc_416_106 rfl ?_
  refine Bod.get dc_416_107 fr_416_546 (mk_61 _) rfl ?_
  refine Bod.go dc_416_110 rfl ?_
  refine Bod.laldN vv rfl (by omega) (by omega) dc_416_111 (mk_93 _) ?_
  refine Bod.virt (r := []) dc_416_112 kr_416_699 ⟨Or.inl rfl, ow_358, cl_13⟩ (by rw [np_358]; rfl) (by rw [np_358]; rfl) (ob_of (mk_thing ag (by first | exact hz4 | (simp only [rIS, rJS, rAS, rLS, rVS, rQS, rS_hold]; exact hz4)))) (Nat.le_of_ble_eq_true rfl) (c6  ) ?_
  show Bod _ _ _ _ [] _ _ _
  refine Bod.go dc_416_115 rfl ?_
  refine Bod.go dc_416_116 rfl ?_
  refine Bod.get dc_416_117 fr_416_493 (mk_61 _) rfl ?_
  refine Bod.eqI (nI t) (by first | assumption | (simp (disch := omega) only [rI, rIe, rA, rIA, rLA, rJA, rVI, rQI, rVA, rQA, upd_at,  rAI, rLI, rJI, nI_add, pk_sub, kc_0, kc_1, kc_2, kc_3, kc_4, kc_5, reduceIte, Nat.reduceEqDiff, Nat.add_zero, rI_hold, rI_hold, rL_hold, hfd1, he91, ht]; done) | (simp (disch := omega) only [rI, rIe, rA, rIA, rLA, rJA, rVI, rQI, rVA, rQA, upd_at,  rAI, rLI, rJI, nI_add, pk_sub, kc_0, kc_1, kc_2, kc_3, kc_4, kc_5, reduceIte, Nat.reduceEqDiff, Nat.add_zero, rI_hold, rI_hold, rL_hold, hfd1, he91, ht]; exact congrArg nI (by omega))) ?_
  refine Bod.ic 2 (by decide) dc_416_120 ?_
  refine Bod.subN (t - 2) (by omega) (by omega) dc_416_121 ?_
  refine Bod.put dc_416_122 fr_416_493 (mk_61 _) (Nat.le_of_ble_eq_true rfl) pf_14_51 (st_6151 _ _) (mu_I _ _ _) ?_
  refine Bod.ic 1 (by decide) dc_416_125 ?_
  exact Bod.retZ dc_416_126 rt_416 (Or.inr rfl)
theorem rSa_3 {d : Nat} {S : cS} {nm : Nat} {x : Nat} {vv : Nat} {S1 : cS} {S2 : cS} {g : Nat} {zg : Nat} {S3 : cS} {fd1 : Nat} {S4 : cS} (mnm : nm < 2 ^ 20) (mx : x < 2 ^ 20) (mvv : vv < 2 ^ 20) (c1 : Ans (d + 8) 363 [.ref 61, .int (nI x), .int (nI 5)] S (some (.int (nI 1))) S1) (ag : 108 ≤ g) (c2 : Ans (d + 8) 361 [.ref 61, .int (nI x)] S1 (some (.ref g)) S2) (c3 : Ans (d + 8) 399 [.ref g, .int (nI 0), .long ((nI nm).toInt64), .long 0] S2 (some (.int (Int32.ofInt (-1)))) S3) (hz1 : (sS S2)[g - 108]? = some (13, zg)) (hz2 : (sS S3)[g - 108]? = some (13, zg)) (hfd1 : sI S3 (100 * g + 1) = nI fd1) (mfd1 : fd1 < 2 ^ 20) (b1 : fd1 = 40) (c4 : Ans (d + 8) 351 [.ref 61, .int (nI 8)] S3 (some (.int (nI 0))) S4) : Bod (d + 8) 416 0 [(0, .ref 61), (1, .int (nI nm)), (2, .int (nI x)), (3, .int (nI vv))] [] S (some (.int 0)) (S4) := by
  refine Bod.go dc_416_0 rfl ?_
  refine Bod.go dc_416_1 rfl ?_
  refine Bod.ic 5 (by decide) dc_416_2 ?_
  refine Bod.virt (r := []) dc_416_3 kr_416_683 ⟨Or.inl rfl, ow_363, cl_14⟩ (by rw [np_363]; rfl) (by rw [np_363]; rfl) (ob_of (mk_61 _)) (Nat.le_of_ble_eq_true rfl) (c1  ) ?_
  show Bod _ _ _ _ [_] _ _ _
  refine Bod.ifT dc_416_6 rfl (k1_ne_T (k_ne 1 0 rfl rfl (by omega) (by omega) (by omega))) ?_
  refine Bod.go dc_416_24 rfl ?_
  refine Bod.go dc_416_25 rfl ?_
  refine Bod.virt (r := []) dc_416_26 kr_416_554 ⟨Or.inl rfl, ow_361, cl_14⟩ (by rw [np_361]; rfl) (by rw [np_361]; rfl) (ob_of (mk_61 _)) (Nat.le_of_ble_eq_true rfl) (c2  ) ?_
  show Bod _ _ _ _ [_] _ _ _
  refine Bod.ast dc_416_29 (by rw [ml_416]; exact Nat.le_of_ble_eq_true rfl) ?_
  refine Bod.go dc_416_31 rfl ?_
  refine Bod.ic 0 (by decide) dc_416_33 ?_
  refine Bod.go dc_416_34 rfl ?_
  refine Bod.go dc_416_35 rfl ?_
  refine Bod.go dc_416_36 rfl ?_
  refine Bod.virt (r := []) dc_416_37 kr_416_764 ⟨Or.inl rfl, ow_399, cl_13⟩ (by rw [np_399]; rfl) (by rw [np_399]; rfl) (ob_of (mk_thing ag (by first | exact hz1 | (simp only [rIS, rJS, rAS, rLS, rVS, rQS, rS_hold]; exact hz1)))) (Nat.le_of_ble_eq_true rfl) (c3  ) ?_
  show Bod _ _ _ _ [_] _ _ _
  refine Bod.ist dc_416_40 (by rw [ml_416]; exact Nat.le_of_ble_eq_true rfl) ?_
  refine Bod.go dc_416_42 rfl ?_
  refine Bod.ifF dc_416_44 rfl (by decide) ?_
  refine Bod.go dc_416_47 rfl ?_
  refine Bod.get dc_416_49 fr_416_459 (mk_thing ag (by first | exact hz2 | (simp only [rIS, rJS, rAS, rLS, rVS, rQS, rS_hold]; exact hz2))) rfl ?_
  refine Bod.eqI (nI fd1) (by first | assumption | (simp (disch := omega) only [rI, rIe, rA, rIA, rLA, rJA, rVI, rQI, rVA, rQA, upd_at,  rAI, rLI, rJI, nI_add, pk_sub, kc_0, kc_1, kc_2, kc_3, kc_4, kc_5, reduceIte, Nat.reduceEqDiff, Nat.add_zero, rI_hold, rI_hold, rL_hold, hfd1]; done) | (simp (disch := omega) only [rI, rIe, rA, rIA, rLA, rJA, rVI, rQI, rVA, rQA, upd_at,  rAI, rLI, rJI, nI_add, pk_sub, kc_0, kc_1, kc_2, kc_3, kc_4, kc_5, reduceIte, Nat.reduceEqDiff, Nat.add_zero, rI_hold, rI_hold, rL_hold, hfd1]; exact congrArg nI (by omega))) ?_
  refine Bod.bip 40 (by decide) dc_416_52 ?_
  refine Bod.icF dc_416_54 rfl (k2_ne_F (k_eq fd1 40 rfl rfl (by omega))) ?_
  refine Bod.go dc_416_57 rfl ?_
  refine Bod.bip 8 (by decide) dc_416_58 ?_
  refine Bod.virt (r := []) dc_416_60 kr_416_608 ⟨Or.inl rfl, ow_351, cl_14⟩ (by rw [np_351]; rfl) (by rw [np_351]; rfl) (ob_of (mk_61 _)) (Nat.le_of_ble_eq_true rfl) (c4  ) ?_
  show Bod _ _ _ _ [_] _ _ _
  exact Bod.retZ dc_416_63 rt_416 (Or.inl rfl)
theorem rSa_4 {d : Nat} {S : cS} {nm : Nat} {x : Nat} {vv : Nat} {S1 : cS} {S2 : cS} {S3 : cS} {g : Nat} {zg : Nat} {S4 : cS} {a : Nat} {e91 : Nat} {S5 : cS} {t : Nat} (mnm : nm < 2 ^ 20) (mx : x < 2 ^ 20) (mvv : vv < 2 ^ 20) (c1 : Ans (d + 8) 363 [.ref 61, .int (nI x), .int (nI 5)] S (some (.int (nI 0))) S1) (c2 : Ans (d + 8) 363 [.ref 61, .int (nI x), .int (nI 4)] S1 (some (.int (nI 1))) S2) (ag : 108 ≤ g) (c3 : Ans (d + 8) 361 [.ref 61, .int (nI x)] S2 (some (.ref g)) S3) (ma : a < 2 ^ 20) (c4 : Ans (d + 8) 399 [.ref g, .int (nI 0), .long ((nI nm).toInt64), .long 0] S3 (some (.int (nI a))) S4) (hz1 : (sS S3)[g - 108]? = some (13, zg)) (b1 : vv < 20480) (he91 : sA S4 91 vv = nI e91) (me91 : e91 < 2 ^ 20) (c5 : Ans (d + 8) 358 [.ref g, .int (nI a), .int (nI e91), .long (sL S4 92 vv), .long (sL S4 93 vv)] S4 none S5) (hz2 : (sS S4)[g - 108]? = some (13, zg)) (ht : sI S5 6151 = nI t) (mt : t < 20481) (b2 : 2 ≤ t) : Bod (d + 8) 416 0 [(0, .ref 61), (1, .int (nI nm)), (2, .int (nI x)), (3, .int (nI vv))] [] S (some (.int 1)) (wI 6151 (nI (t - 2)) S5) := by
  refine Bod.go dc_416_0 rfl ?_
  refine Bod.go dc_416_1 rfl ?_
  refine Bod.ic 5 (by decide) dc_416_2 ?_
  refine Bod.virt (r := []) dc_416_3 kr_416_683 ⟨Or.inl rfl, ow_363, cl_14⟩ (by rw [np_363]; rfl) (by rw [np_363]; rfl) (ob_of (mk_61 _)) (Nat.le_of_ble_eq_true rfl) (c1  ) ?_
  show Bod _ _ _ _ [_] _ _ _
  refine Bod.ifF dc_416_6 rfl (k1_ne_F (k_eq 0 0 rfl rfl (by omega))) ?_
  refine Bod.go dc_416_9 rfl ?_
  refine Bod.go dc_416_10 rfl ?_
  refine Bod.ic 4 (by decide) dc_416_11 ?_
  refine Bod.virt (r := []) dc_416_12 kr_416_683 ⟨Or.inl rfl, ow_363, cl_14⟩ (by rw [np_363]; rfl) (by rw [np_363]; rfl) (ob_of (mk_61 _)) (Nat.le_of_ble_eq_true rfl) (c2  ) ?_
  show Bod _ _ _ _ [_] _ _ _
  refine Bod.ifT dc_416_15 rfl (k1_ne_T (k_ne 1 0 rfl rfl (by omega) (by omega) (by omega))) ?_
  refine Bod.go dc_416_24 rfl ?_
  refine Bod.go dc_416_25 rfl ?_
  refine Bod.virt (r := []) dc_416_26 kr_416_554 ⟨Or.inl rfl, ow_361, cl_14⟩ (by rw [np_361]; rfl) (by rw [np_361]; rfl) (ob_of (mk_61 _)) (Nat.le_of_ble_eq_true rfl) (c3  ) ?_
  show Bod _ _ _ _ [_] _ _ _
  refine Bod.ast dc_416_29 (by rw [ml_416]; exact Nat.le_of_ble_eq_true rfl) ?_
  refine Bod.go dc_416_31 rfl ?_
  refine Bod.ic 0 (by decide) dc_416_33 ?_
  refine Bod.go dc_416_34 rfl ?_
  refine Bod.go dc_416_35 rfl ?_
  refine Bod.go dc_416_36 rfl ?_
  refine Bod.virt (r := []) dc_416_37 kr_416_764 ⟨Or.inl rfl, ow_399, cl_13⟩ (by rw [np_399]; rfl) (by rw [np_399]; rfl) (ob_of (mk_thing ag (by first | exact hz1 | (simp only [rIS, rJS, rAS, rLS, rVS, rQS, rS_hold]; exact hz1)))) (Nat.le_of_ble_eq_true rfl) (c4  ) ?_
  show Bod _ _ _ _ [_] _ _ _
  refine Bod.ist dc_416_40 (by rw [ml_416]; exact Nat.le_of_ble_eq_true rfl) ?_
  refine Bod.go dc_416_42 rfl ?_
  refine Bod.ifT dc_416_44 rfl (k1_ge_T a rfl (by omega)) ?_
  refine Bod.go dc_416_90 rfl ?_
  refine Bod.go dc_416_92 rfl ?_
  refine Bod.go dc_416_94 rfl ?_
  refine Bod.get dc_416_95 fr_416_496 (mk_61 _) rfl ?_
  refine Bod.go dc_416_98 rfl ?_
  refine Bod.ialdN vv rfl (by omega) (by omega) dc_416_99 (mk_91 _) ?_
  refine Bod.eqI (nI e91) (by first | assumption | (simp (disch := omega) only [rI, rIe, rA, rIA, rLA, rJA, rVI, rQI, rVA, rQA, upd_at,  rAI, rLI, rJI, nI_add, pk_sub, kc_0, kc_1, kc_2, kc_3, kc_4, kc_5, reduceIte, Nat.reduceEqDiff, Nat.add_zero, rI_hold, rI_hold, rL_hold, he91]; done) | (simp (disch := omega) only [rI, rIe, rA, rIA, rLA, rJA, rVI, rQI, rVA, rQA, upd_at,  rAI, rLI, rJI, nI_add, pk_sub, kc_0, kc_1, kc_2, kc_3, kc_4, kc_5, reduceIte, Nat.reduceEqDiff, Nat.add_zero, rI_hold, rI_hold, rL_hold, he91]; exact congrArg nI (by omega))) ?_
  refine Bod.go dc_416_100 rfl ?_
  refine Bod.get dc_416_101 fr_416_499 (mk_61 _) rfl ?_
  refine Bod.go dc_416_104 rfl ?_
  refine Bod.laldN vv rfl (by omega) (by omega) dc_416_105 (mk_92 _) ?_
  refine Bod.go dc_416_106 rfl ?_
  refine Bod.get dc_416_107 fr_416_546 (mk_61 _) rfl ?_
  refine Bod.go dc_416_110 rfl ?_
  refine Bod.laldN vv rfl (by omega) (by omega) dc_416_111 (mk_93 _) ?_
  refine Bod.virt (r := []) dc_416_112 kr_416_699 ⟨Or.inl rfl, ow_358, cl_13⟩ (by rw [np_358]; rfl) (by rw [np_358]; rfl) (ob_of (mk_thing ag (by first | exact hz2 | (simp only [rIS, rJS, rAS, rLS, rVS, rQS, rS_hold]; exact hz2)))) (Nat.le_of_ble_eq_true rfl) (c5  ) ?_
  show Bod _ _ _ _ [] _ _ _
  refine Bod.go dc_416_115 rfl ?_
  refine Bod.go dc_416_116 rfl ?_
  refine Bod.get dc_416_117 fr_416_493 (mk_61 _) rfl ?_
  refine Bod.eqI (nI t) (by first | assumption | (simp (disch := omega) only [rI, rIe, rA, rIA, rLA, rJA, rVI, rQI, rVA, rQA, upd_at,  rAI, rLI, rJI, nI_add, pk_sub, kc_0, kc_1, kc_2, kc_3, kc_4, kc_5, reduceIte, Nat.reduceEqDiff, Nat.add_zero, rI_hold, rI_hold, rL_hold, he91, ht]; done) | (simp (disch := omega) only [rI, rIe, rA, rIA, rLA, rJA, rVI, rQI, rVA, rQA, upd_at,  rAI, rLI, rJI, nI_add, pk_sub, kc_0, kc_1, kc_2, kc_3, kc_4, kc_5, reduceIte, Nat.reduceEqDiff, Nat.add_zero, rI_hold, rI_hold, rL_hold, he91, ht]; exact congrArg nI (by omega))) ?_
  refine Bod.ic 2 (by decide) dc_416_120 ?_
  refine Bod.subN (t - 2) (by omega) (by omega) dc_416_121 ?_
  refine Bod.put dc_416_122 fr_416_493 (mk_61 _) (Nat.le_of_ble_eq_true rfl) pf_14_51 (st_6151 _ _) (mu_I _ _ _) ?_
  refine Bod.ic 1 (by decide) dc_416_125 ?_
  exact Bod.retZ dc_416_126 rt_416 (Or.inr rfl)
theorem rSa_5 {d : Nat} {S : cS} {nm : Nat} {x : Nat} {vv : Nat} {S1 : cS} {S2 : cS} {S3 : cS} {g : Nat} {zg : Nat} {S4 : cS} {fd1 : Nat} {S5 : cS} {S6 : cS} {e91 : Nat} {S7 : cS} {t : Nat} (mnm : nm < 2 ^ 20) (mx : x < 2 ^ 20) (mvv : vv < 2 ^ 20) (c1 : Ans (d + 8) 363 [.ref 61, .int (nI x), .int (nI 5)] S (some (.int (nI 0))) S1) (c2 : Ans (d + 8) 363 [.ref 61, .int (nI x), .int (nI 4)] S1 (some (.int (nI 1))) S2) (ag : 108 ≤ g) (c3 : Ans (d + 8) 361 [.ref 61, .int (nI x)] S2 (some (.ref g)) S3) (c4 : Ans (d + 8) 399 [.ref g, .int (nI 0), .long ((nI nm).toInt64), .long 0] S3 (some (.int (Int32.ofInt (-1)))) S4) (hz1 : (sS S3)[g - 108]? = some (13, zg)) (hz2 : (sS S4)[g - 108]? = some (13, zg)) (hfd1 : sI S4 (100 * g + 1) = nI fd1) (mfd1 : fd1 < 2 ^ 20) (b1 : fd1 ≠ 40) (c5 : Ans (d + 8) 375 [.ref g, .int (nI 0), .long 0, .long 0] S4 none S5) (c6 : Ans (d + 8) 377 [.ref g, .int (nI fd1), .int (nI 0), .long ((nI nm).toInt64), .long 0] S5 none S6) (hz3 : (sS S5)[g - 108]? = some (13, zg)) (b2 : vv < 20480) (he91 : sA S6 91 vv = nI e91) (me91 : e91 < 2 ^ 20) (c7 : Ans (d + 8) 358 [.ref g, .int (nI fd1), .int (nI e91), .long (sL S6 92 vv), .long (sL S6 93 vv)] S6 none S7) (hz4 : (sS S6)[g - 108]? = some (13, zg)) (ht : sI S7 6151 = nI t) (mt : t < 20481) (b3 : 2 ≤ t) : Bod (d + 8) 416 0 [(0, .ref 61), (1, .int (nI nm)), (2, .int (nI x)), (3, .int (nI vv))] [] S (some (.int 1)) (wI 6151 (nI (t - 2)) S7) := by
  refine Bod.go dc_416_0 rfl ?_
  refine Bod.go dc_416_1 rfl ?_
  refine Bod.ic 5 (by decide) dc_416_2 ?_
  refine Bod.virt (r := []) dc_416_3 kr_416_683 ⟨Or.inl rfl, ow_363, cl_14⟩ (by rw [np_363]; rfl) (by rw [np_363]; rfl) (ob_of (mk_61 _)) (Nat.le_of_ble_eq_true rfl) (c1  ) ?_
  show Bod _ _ _ _ [_] _ _ _
  refine Bod.ifF dc_416_6 rfl (k1_ne_F (k_eq 0 0 rfl rfl (by omega))) ?_
  refine Bod.go dc_416_9 rfl ?_
  refine Bod.go dc_416_10 rfl ?_
  refine Bod.ic 4 (by decide) dc_416_11 ?_
  refine Bod.virt (r := []) dc_416_12 kr_416_683 ⟨Or.inl rfl, ow_363, cl_14⟩ (by rw [np_363]; rfl) (by rw [np_363]; rfl) (ob_of (mk_61 _)) (Nat.le_of_ble_eq_true rfl) (c2  ) ?_
  show Bod _ _ _ _ [_] _ _ _
  refine Bod.ifT dc_416_15 rfl (k1_ne_T (k_ne 1 0 rfl rfl (by omega) (by omega) (by omega))) ?_
  refine Bod.go dc_416_24 rfl ?_
  refine Bod.go dc_416_25 rfl ?_
  refine Bod.virt (r := []) dc_416_26 kr_416_554 ⟨Or.inl rfl, ow_361, cl_14⟩ (by rw [np_361]; rfl) (by rw [np_361]; rfl) (ob_of (mk_61 _)) (Nat.le_of_ble_eq_true rfl) (c3  ) ?_
  show Bod _ _ _ _ [_] _ _ _
  refine Bod.ast dc_416_29 (by rw [ml_416]; exact Nat.le_of_ble_eq_true rfl) ?_
  refine Bod.go dc_416_31 rfl ?_
  refine Bod.ic 0 (by decide) dc_416_33 ?_
  refine Bod.go dc_416_34 rfl ?_
  refine Bod.go dc_416_35 rfl ?_
  refine Bod.go dc_416_36 rfl ?_
  refine Bod.virt (r := []) dc_416_37 kr_416_764 ⟨Or.inl rfl, ow_399, cl_13⟩ (by rw [np_399]; rfl) (by rw [np_399]; rfl) (ob_of (mk_thing ag (by first | exact hz1 | (simp only [rIS, rJS, rAS, rLS, rVS, rQS, rS_hold]; exact hz1)))) (Nat.le_of_ble_eq_true rfl) (c4  ) ?_
  show Bod _ _ _ _ [_] _ _ _
  refine Bod.ist dc_416_40 (by rw [ml_416]; exact Nat.le_of_ble_eq_true rfl) ?_
  refine Bod.go dc_416_42 rfl ?_
  refine Bod.ifF dc_416_44 rfl (by decide) ?_
  refine Bod.go dc_416_47 rfl ?_
  refine Bod.get dc_416_49 fr_416_459 (mk_thing ag (by first | exact hz2 | (simp only [rIS, rJS, rAS, rLS, rVS, rQS, rS_hold]; exact hz2))) rfl ?_
  refine Bod.eqI (nI fd1) (by first | assumption | (simp (disch := omega) only [rI, rIe, rA, rIA, rLA, rJA, rVI, rQI, rVA, rQA, upd_at,  rAI, rLI, rJI, nI_add, pk_sub, kc_0, kc_1, kc_2, kc_3, kc_4, kc_5, reduceIte, Nat.reduceEqDiff, Nat.add_zero, rI_hold, rI_hold, rL_hold, hfd1]; done) | (simp (disch := omega) only [rI, rIe, rA, rIA, rLA, rJA, rVI, rQI, rVA, rQA, upd_at,  rAI, rLI, rJI, nI_add, pk_sub, kc_0, kc_1, kc_2, kc_3, kc_4, kc_5, reduceIte, Nat.reduceEqDiff, Nat.add_zero, rI_hold, rI_hold, rL_hold, hfd1]; exact congrArg nI (by omega))) ?_
  refine Bod.bip 40 (by decide) dc_416_52 ?_
  refine Bod.icT dc_416_54 rfl (k2_ne_T (k_ne fd1 40 rfl rfl (by omega) (by omega) (by omega))) ?_
  refine Bod.go dc_416_64 rfl ?_
  refine Bod.get dc_416_66 fr_416_459 (mk_thing ag (by first | exact hz2 | (simp only [rIS, rJS, rAS, rLS, rVS, rQS, rS_hold]; exact hz2))) rfl ?_
  refine Bod.eqI (nI fd1) (by first | assumption | (simp (disch := omega) only [rI, rIe, rA, rIA, rLA, rJA, rVI, rQI, rVA, rQA, upd_at,  rAI, rLI, rJI, nI_add, pk_sub, kc_0, kc_1, kc_2, kc_3, kc_4, kc_5, reduceIte, Nat.reduceEqDiff, Nat.add_zero, rI_hold, rI_hold, rL_hold, hfd1]; done) | (simp (disch := omega) only [rI, rIe, rA, rIA, rLA, rJA, rVI, rQI, rVA, rQA, upd_at,  rAI, rLI, rJI, nI_add, pk_sub, kc_0, kc_1, kc_2, kc_3, kc_4, kc_5, reduceIte, Nat.reduceEqDiff, Nat.add_zero, rI_hold, rI_hold, rL_hold, hfd1]; exact congrArg nI (by omega))) ?_
  refine Bod.ist dc_416_69 (by rw [ml_416]; exact Nat.le_of_ble_eq_true rfl) ?_
  refine Bod.go dc_416_71 rfl ?_
  refine Bod.ic 0 (by decide) dc_416_73 ?_
  refine Bod.go dc_416_74 rfl ?_
  refine Bod.go dc_416_75 rfl ?_
  refine Bod.virt (r := []) dc_416_76 kr_416_759 ⟨Or.inl rfl, ow_375, cl_13⟩ (by rw [np_375]; rfl) (by rw [np_375]; rfl) (ob_of (mk_thing ag (by first | exact hz2 | (simp only [rIS, rJS, rAS, rLS, rVS, rQS, rS_hold]; exact hz2)))) (Nat.le_of_ble_eq_true rfl) (c5  ) ?_
  show Bod _ _ _ _ [] _ _ _
  refine Bod.go dc_416_79 rfl ?_
  refine Bod.go dc_416_81 rfl ?_
  refine Bod.ic 0 (by decide) dc_416_83 ?_
  refine Bod.go dc_416_84 rfl ?_
  refine Bod.go dc_416_85 rfl ?_
  refine Bod.go dc_416_86 rfl ?_
  refine Bod.virt (r := []) dc_416_87 kr_416_771 ⟨Or.inl rfl, ow_377, cl_13⟩ (by rw [np_377]; rfl) (by rw [np_377]; rfl) (ob_of (mk_thing ag (by first | exact hz3 | (simp only [rIS, rJS, rAS, rLS, rVS, rQS, rS_hold]; exact hz3)))) (Nat.le_of_ble_eq_true rfl) (c6  ) ?_
  show Bod _ _ _ _ [] _ _ _
  refine Bod.go dc_416_90 rfl ?_
  refine Bod.go dc_416_92 rfl ?_
  refine Bod.go dc_416_94 rfl ?_
  refine Bod.get dc_416_95 fr_416_496 (mk_61 _) rfl ?_
  refine Bod.go dc_416_98 rfl ?_
  refine Bod.ialdN vv rfl (by omega) (by omega) dc_416_99 (mk_91 _) ?_
  refine Bod.eqI (nI e91) (by first | assumption | (simp (disch := omega) only [rI, rIe, rA, rIA, rLA, rJA, rVI, rQI, rVA, rQA, upd_at,  rAI, rLI, rJI, nI_add, pk_sub, kc_0, kc_1, kc_2, kc_3, kc_4, kc_5, reduceIte, Nat.reduceEqDiff, Nat.add_zero, rI_hold, rI_hold, rL_hold, hfd1, he91]; done) | (simp (disch := omega) only [rI, rIe, rA, rIA, rLA, rJA, rVI, rQI, rVA, rQA, upd_at,  rAI, rLI, rJI, nI_add, pk_sub, kc_0, kc_1, kc_2, kc_3, kc_4, kc_5, reduceIte, Nat.reduceEqDiff, Nat.add_zero, rI_hold, rI_hold, rL_hold, hfd1, he91]; exact congrArg nI (by omega))) ?_
  refine Bod.go dc_416_100 rfl ?_
  refine Bod.get dc_416_101 fr_416_499 (mk_61 _) rfl ?_
  refine Bod.go dc_416_104 rfl ?_
  refine Bod.laldN vv rfl (by omega) (by omega) dc_416_105 (mk_92 _) ?_
  refine Bod.go dc_416_106 rfl ?_
  refine Bod.get dc_416_107 fr_416_546 (mk_61 _) rfl ?_
  refine Bod.go dc_416_110 rfl ?_
  refine Bod.laldN vv rfl (by omega) (by omega) dc_416_111 (mk_93 _) ?_
  refine Bod.virt (r := []) dc_416_112 kr_416_699 ⟨Or.inl rfl, ow_358, cl_13⟩ (by rw [np_358]; rfl) (by rw [np_358]; rfl) (ob_of (mk_thing ag (by first | exact hz4 | (simp only [rIS, rJS, rAS, rLS, rVS, rQS, rS_hold]; exact hz4)))) (Nat.le_of_ble_eq_true rfl) (c7  ) ?_
  show Bod _ _ _ _ [] _ _ _
  refine Bod.go dc_416_115 rfl ?_
  refine Bod.go dc_416_116 rfl ?_
  refine Bod.get dc_416_117 fr_416_493 (mk_61 _) rfl ?_
  refine Bod.eqI (nI t) (by first | assumption | (simp (disch := omega) only [rI, rIe, rA, rIA, rLA, rJA, rVI, rQI, rVA, rQA, upd_at,  rAI, rLI, rJI, nI_add, pk_sub, kc_0, kc_1, kc_2, kc_3, kc_4, kc_5, reduceIte, Nat.reduceEqDiff, Nat.add_zero, rI_hold, rI_hold, rL_hold, hfd1, he91, ht]; done) | (simp (disch := omega) only [rI, rIe, rA, rIA, rLA, rJA, rVI, rQI, rVA, rQA, upd_at,  rAI, rLI, rJI, nI_add, pk_sub, kc_0, kc_1, kc_2, kc_3, kc_4, kc_5, reduceIte, Nat.reduceEqDiff, Nat.add_zero, rI_hold, rI_hold, rL_hold, hfd1, he91, ht]; exact congrArg nI (by omega))) ?_
  refine Bod.ic 2 (by decide) dc_416_120 ?_
  refine Bod.subN (t - 2) (by omega) (by omega) dc_416_121 ?_
  refine Bod.put dc_416_122 fr_416_493 (mk_61 _) (Nat.le_of_ble_eq_true rfl) pf_14_51 (st_6151 _ _) (mu_I _ _ _) ?_
  refine Bod.ic 1 (by decide) dc_416_125 ?_
  exact Bod.retZ dc_416_126 rt_416 (Or.inr rfl)
theorem rSa_6 {d : Nat} {S : cS} {nm : Nat} {x : Nat} {vv : Nat} {S1 : cS} {S2 : cS} {S3 : cS} {g : Nat} {zg : Nat} {S4 : cS} {fd1 : Nat} {S5 : cS} (mnm : nm < 2 ^ 20) (mx : x < 2 ^ 20) (mvv : vv < 2 ^ 20) (c1 : Ans (d + 8) 363 [.ref 61, .int (nI x), .int (nI 5)] S (some (.int (nI 0))) S1) (c2 : Ans (d + 8) 363 [.ref 61, .int (nI x), .int (nI 4)] S1 (some (.int (nI 1))) S2) (ag : 108 ≤ g) (c3 : Ans (d + 8) 361 [.ref 61, .int (nI x)] S2 (some (.ref g)) S3) (c4 : Ans (d + 8) 399 [.ref g, .int (nI 0), .long ((nI nm).toInt64), .long 0] S3 (some (.int (Int32.ofInt (-1)))) S4) (hz1 : (sS S3)[g - 108]? = some (13, zg)) (hz2 : (sS S4)[g - 108]? = some (13, zg)) (hfd1 : sI S4 (100 * g + 1) = nI fd1) (mfd1 : fd1 < 2 ^ 20) (b1 : fd1 = 40) (c5 : Ans (d + 8) 351 [.ref 61, .int (nI 8)] S4 (some (.int (nI 0))) S5) : Bod (d + 8) 416 0 [(0, .ref 61), (1, .int (nI nm)), (2, .int (nI x)), (3, .int (nI vv))] [] S (some (.int 0)) (S5) := by
  refine Bod.go dc_416_0 rfl ?_
  refine Bod.go dc_416_1 rfl ?_
  refine Bod.ic 5 (by decide) dc_416_2 ?_
  refine Bod.virt (r := []) dc_416_3 kr_416_683 ⟨Or.inl rfl, ow_363, cl_14⟩ (by rw [np_363]; rfl) (by rw [np_363]; rfl) (ob_of (mk_61 _)) (Nat.le_of_ble_eq_true rfl) (c1  ) ?_
  show Bod _ _ _ _ [_] _ _ _
  refine Bod.ifF dc_416_6 rfl (k1_ne_F (k_eq 0 0 rfl rfl (by omega))) ?_
  refine Bod.go dc_416_9 rfl ?_
  refine Bod.go dc_416_10 rfl ?_
  refine Bod.ic 4 (by decide) dc_416_11 ?_
  refine Bod.virt (r := []) dc_416_12 kr_416_683 ⟨Or.inl rfl, ow_363, cl_14⟩ (by rw [np_363]; rfl) (by rw [np_363]; rfl) (ob_of (mk_61 _)) (Nat.le_of_ble_eq_true rfl) (c2  ) ?_
  show Bod _ _ _ _ [_] _ _ _
  refine Bod.ifT dc_416_15 rfl (k1_ne_T (k_ne 1 0 rfl rfl (by omega) (by omega) (by omega))) ?_
  refine Bod.go dc_416_24 rfl ?_
  refine Bod.go dc_416_25 rfl ?_
  refine Bod.virt (r := []) dc_416_26 kr_416_554 ⟨Or.inl rfl, ow_361, cl_14⟩ (by rw [np_361]; rfl) (by rw [np_361]; rfl) (ob_of (mk_61 _)) (Nat.le_of_ble_eq_true rfl) (c3  ) ?_
  show Bod _ _ _ _ [_] _ _ _
  refine Bod.ast dc_416_29 (by rw [ml_416]; exact Nat.le_of_ble_eq_true rfl) ?_
  refine Bod.go dc_416_31 rfl ?_
  refine Bod.ic 0 (by decide) dc_416_33 ?_
  refine Bod.go dc_416_34 rfl ?_
  refine Bod.go dc_416_35 rfl ?_
  refine Bod.go dc_416_36 rfl ?_
  refine Bod.virt (r := []) dc_416_37 kr_416_764 ⟨Or.inl rfl, ow_399, cl_13⟩ (by rw [np_399]; rfl) (by rw [np_399]; rfl) (ob_of (mk_thing ag (by first | exact hz1 | (simp only [rIS, rJS, rAS, rLS, rVS, rQS, rS_hold]; exact hz1)))) (Nat.le_of_ble_eq_true rfl) (c4  ) ?_
  show Bod _ _ _ _ [_] _ _ _
  refine Bod.ist dc_416_40 (by rw [ml_416]; exact Nat.le_of_ble_eq_true rfl) ?_
  refine Bod.go dc_416_42 rfl ?_
  refine Bod.ifF dc_416_44 rfl (by decide) ?_
  refine Bod.go dc_416_47 rfl ?_
  refine Bod.get dc_416_49 fr_416_459 (mk_thing ag (by first | exact hz2 | (simp only [rIS, rJS, rAS, rLS, rVS, rQS, rS_hold]; exact hz2))) rfl ?_
  refine Bod.eqI (nI fd1) (by first | assumption | (simp (disch := omega) only [rI, rIe, rA, rIA, rLA, rJA, rVI, rQI, rVA, rQA, upd_at,  rAI, rLI, rJI, nI_add, pk_sub, kc_0, kc_1, kc_2, kc_3, kc_4, kc_5, reduceIte, Nat.reduceEqDiff, Nat.add_zero, rI_hold, rI_hold, rL_hold, hfd1]; done) | (simp (disch := omega) only [rI, rIe, rA, rIA, rLA, rJA, rVI, rQI, rVA, rQA, upd_at,  rAI, rLI, rJI, nI_add, pk_sub, kc_0, kc_1, kc_2, kc_3, kc_4, kc_5, reduceIte, Nat.reduceEqDiff, Nat.add_zero, rI_hold, rI_hold, rL_hold, hfd1]; exact congrArg nI (by omega))) ?_
  refine Bod.bip 40 (by decide) dc_416_52 ?_
  refine Bod.icF dc_416_54 rfl (k2_ne_F (k_eq fd1 40 rfl rfl (by omega))) ?_
  refine Bod.go dc_416_57 rfl ?_
  refine Bod.bip 8 (by decide) dc_416_58 ?_
  refine Bod.virt (r := []) dc_416_60 kr_416_608 ⟨Or.inl rfl, ow_351, cl_14⟩ (by rw [np_351]; rfl) (by rw [np_351]; rfl) (ob_of (mk_61 _)) (Nat.le_of_ble_eq_true rfl) (c5  ) ?_
  show Bod _ _ _ _ [_] _ _ _
  exact Bod.retZ dc_416_63 rt_416 (Or.inl rfl)
theorem rSa_7 {d : Nat} {S : cS} {nm : Nat} {x : Nat} {vv : Nat} {S1 : cS} {S2 : cS} {S3 : cS} (mnm : nm < 2 ^ 20) (mx : x < 2 ^ 20) (mvv : vv < 2 ^ 20) (c1 : Ans (d + 8) 363 [.ref 61, .int (nI x), .int (nI 5)] S (some (.int (nI 0))) S1) (c2 : Ans (d + 8) 363 [.ref 61, .int (nI x), .int (nI 4)] S1 (some (.int (nI 0))) S2) (c3 : Ans (d + 8) 351 [.ref 61, .int (nI 2)] S2 (some (.int (nI 0))) S3) : Bod (d + 8) 416 0 [(0, .ref 61), (1, .int (nI nm)), (2, .int (nI x)), (3, .int (nI vv))] [] S (some (.int 0)) (S3) := by
  refine Bod.go dc_416_0 rfl ?_
  refine Bod.go dc_416_1 rfl ?_
  refine Bod.ic 5 (by decide) dc_416_2 ?_
  refine Bod.virt (r := []) dc_416_3 kr_416_683 ⟨Or.inl rfl, ow_363, cl_14⟩ (by rw [np_363]; rfl) (by rw [np_363]; rfl) (ob_of (mk_61 _)) (Nat.le_of_ble_eq_true rfl) (c1  ) ?_
  show Bod _ _ _ _ [_] _ _ _
  refine Bod.ifF dc_416_6 rfl (k1_ne_F (k_eq 0 0 rfl rfl (by omega))) ?_
  refine Bod.go dc_416_9 rfl ?_
  refine Bod.go dc_416_10 rfl ?_
  refine Bod.ic 4 (by decide) dc_416_11 ?_
  refine Bod.virt (r := []) dc_416_12 kr_416_683 ⟨Or.inl rfl, ow_363, cl_14⟩ (by rw [np_363]; rfl) (by rw [np_363]; rfl) (ob_of (mk_61 _)) (Nat.le_of_ble_eq_true rfl) (c2  ) ?_
  show Bod _ _ _ _ [_] _ _ _
  refine Bod.ifF dc_416_15 rfl (k1_ne_F (k_eq 0 0 rfl rfl (by omega))) ?_
  refine Bod.go dc_416_18 rfl ?_
  refine Bod.ic 2 (by decide) dc_416_19 ?_
  refine Bod.virt (r := []) dc_416_20 kr_416_608 ⟨Or.inl rfl, ow_351, cl_14⟩ (by rw [np_351]; rfl) (by rw [np_351]; rfl) (ob_of (mk_61 _)) (Nat.le_of_ble_eq_true rfl) (c3  ) ?_
  show Bod _ _ _ _ [_] _ _ _
  exact Bod.retZ dc_416_23 rt_416 (Or.inl rfl)
theorem rDi_1 {d : Nat} {S : cS} {t : Nat} {S1 : cS} {S2 : cS} {g : Nat} {zg : Nat} {t1 : Nat} {S3 : cS} {a : Nat} {S4 : cS} {g1 : Nat} {zg1 : Nat} {S5 : cS} {t2 : Nat} (ht : sI S 6151 = nI t) (mt : t < 20481) (b1 : 2 ≤ t) (c1 : Ans (d + 8) 363 [.ref 61, .int (nI (t - 2)), .int (nI 1)] S (some (.int (nI 1))) S1) (ag : 108 ≤ g) (c2 : Ans (d + 8) 361 [.ref 61, .int (nI (t - 2))] S1 (some (.ref g)) S2) (ht1 : sI S2 6151 = nI t1) (mt1 : t1 < 20481) (b2 : 1 ≤ t1) (ma : a < 2 ^ 20) (c3 : Ans (d + 8) 410 [.ref 61, .ref g, .int (nI (t1 - 1))] S2 (some (.int (nI a))) S3) (ag1 : 108 ≤ g1) (c4 : Ans (d + 8) 361 [.ref 61, .int (nI (t - 2))] S3 (some (.ref g1)) S4) (c5 : Ans (d + 8) 418 [.ref g1, .int (nI a)] S4 none S5) (hz1 : (sS S4)[g1 - 108]? = some (13, zg1)) (ht2 : sI S5 6151 = nI t2) (mt2 : t2 < 20481) (b3 : 2 ≤ t2) : Bod (d + 8) 417 0 [(0, .ref 61)] [] S (some (.int 1)) (wI 6151 (nI (t2 - 2)) S5) := by
  refine Bod.go dc_417_0 rfl ?_
  refine Bod.get dc_417_1 fr_417_493 (mk_61 _) rfl ?_
  refine Bod.eqI (nI t) (by first | assumption | rfl | exact congrArg nI (by omega) | (simp (disch := omega) only [rI, rIe, rA, rIA, rLA, rJA, rVI, rQI, rVA, rQA, upd_at,  rAI, rLI, rJI, nI_add, pk_sub, kc_0, kc_1, kc_2, kc_3, kc_4, kc_5, reduceIte, Nat.reduceEqDiff, Nat.add_zero, rI_hold, rI_hold, rL_hold, ht]; done)) ?_
  refine Bod.ic 2 (by decide) dc_417_4 ?_
  refine Bod.subN (t - 2) (by omega) (by omega) dc_417_5 ?_
  refine Bod.istn dc_417_6 (by rw [ml_417]; exact Nat.le_of_ble_eq_true rfl) ?_
  refine Bod.go dc_417_7 rfl ?_
  refine Bod.go dc_417_8 rfl ?_
  refine Bod.ic 1 (by decide) dc_417_9 ?_
  refine Bod.virt (r := []) dc_417_10 kr_417_683 ⟨Or.inl rfl, ow_363, cl_14⟩ (by rw [np_363]; rfl) (by rw [np_363]; rfl) (ob_of (mk_61 _)) (Nat.le_of_ble_eq_true rfl) (c1  ) ?_
  show Bod _ _ _ _ [_] _ _ _
  refine Bod.ifT dc_417_13 rfl (k1_ne_T (k_ne 1 0 rfl rfl (by omega) (by omega) (by omega))) ?_
  refine Bod.go dc_417_31 rfl ?_
  refine Bod.go dc_417_32 rfl ?_
  refine Bod.go dc_417_33 rfl ?_
  refine Bod.virt (r := [_]) dc_417_34 kr_417_554 ⟨Or.inl rfl, ow_361, cl_14⟩ (by rw [np_361]; rfl) (by rw [np_361]; rfl) (ob_of (mk_61 _)) (Nat.le_of_ble_eq_true rfl) (c2  ) ?_
  show Bod _ _ _ _ [_, _] _ _ _
  refine Bod.go dc_417_37 rfl ?_
  refine Bod.get dc_417_38 fr_417_493 (mk_61 _) rfl ?_
  refine Bod.eqI (nI t1) (by first | assumption | (simp (disch := omega) only [rI, rIe, rA, rIA, rLA, rJA, rVI, rQI, rVA, rQA, upd_at,  rAI, rLI, rJI, nI_add, pk_sub, kc_0, kc_1, kc_2, kc_3, kc_4, kc_5, reduceIte, Nat.reduceEqDiff, Nat.add_zero, rI_hold, rI_hold, rL_hold, ht, ht1]; done) | (simp (disch := omega) only [rI, rIe, rA, rIA, rLA, rJA, rVI, rQI, rVA, rQA, upd_at,  rAI, rLI, rJI, nI_add, pk_sub, kc_0, kc_1, kc_2, kc_3, kc_4, kc_5, reduceIte, Nat.reduceEqDiff, Nat.add_zero, rI_hold, rI_hold, rL_hold, ht, ht1]; exact congrArg nI (by omega))) ?_
  refine Bod.ic 1 (by decide) dc_417_41 ?_
  refine Bod.subN (t1 - 1) (by omega) (by omega) dc_417_42 ?_
  refine Bod.virt (r := []) dc_417_43 kr_417_768 ⟨Or.inl rfl, ow_410, cl_14⟩ (by rw [np_410]; rfl) (by rw [np_410]; rfl) (ob_of (mk_61 _)) (Nat.le_of_ble_eq_true rfl) (c3  ) ?_
  show Bod _ _ _ _ [_] _ _ _
  refine Bod.istn dc_417_46 (by rw [ml_417]; exact Nat.le_of_ble_eq_true rfl) ?_
  refine Bod.go dc_417_47 rfl ?_
  refine Bod.ifT dc_417_48 rfl (k1_ge_T a rfl (by omega)) ?_
  refine Bod.go dc_417_53 rfl ?_
  refine Bod.go dc_417_54 rfl ?_
  refine Bod.virt (r := []) dc_417_55 kr_417_554 ⟨Or.inl rfl, ow_361, cl_14⟩ (by rw [np_361]; rfl) (by rw [np_361]; rfl) (ob_of (mk_61 _)) (Nat.le_of_ble_eq_true rfl) (c4  ) ?_
  show Bod _ _ _ _ [_] _ _ _
  refine Bod.go dc_417_58 rfl ?_
  refine Bod.virt (r := []) dc_417_59 kr_417_774 ⟨Or.inl rfl, ow_418, cl_13⟩ (by rw [np_418]; rfl) (by rw [np_418]; rfl) (ob_of (mk_thing ag1 (by first | exact hz1 | (simp only [rIS, rJS, rAS, rLS, rVS, rQS, rS_hold]; exact hz1)))) (Nat.le_of_ble_eq_true rfl) (c5  ) ?_
  show Bod _ _ _ _ [] _ _ _
  refine Bod.go dc_417_62 rfl ?_
  refine Bod.go dc_417_63 rfl ?_
  refine Bod.get dc_417_64 fr_417_493 (mk_61 _) rfl ?_
  refine Bod.eqI (nI t2) (by first | assumption | (simp (disch := omega) only [rI, rIe, rA, rIA, rLA, rJA, rVI, rQI, rVA, rQA, upd_at,  rAI, rLI, rJI, nI_add, pk_sub, kc_0, kc_1, kc_2, kc_3, kc_4, kc_5, reduceIte, Nat.reduceEqDiff, Nat.add_zero, rI_hold, rI_hold, rL_hold, ht, ht1, ht2]; done) | (simp (disch := omega) only [rI, rIe, rA, rIA, rLA, rJA, rVI, rQI, rVA, rQA, upd_at,  rAI, rLI, rJI, nI_add, pk_sub, kc_0, kc_1, kc_2, kc_3, kc_4, kc_5, reduceIte, Nat.reduceEqDiff, Nat.add_zero, rI_hold, rI_hold, rL_hold, ht, ht1, ht2]; exact congrArg nI (by omega))) ?_
  refine Bod.ic 2 (by decide) dc_417_67 ?_
  refine Bod.subN (t2 - 2) (by omega) (by omega) dc_417_68 ?_
  refine Bod.put dc_417_69 fr_417_493 (mk_61 _) (Nat.le_of_ble_eq_true rfl) pf_14_51 (st_6151 _ _) (mu_I _ _ _) ?_
  refine Bod.ic 1 (by decide) dc_417_72 ?_
  exact Bod.retZ dc_417_73 rt_417 (Or.inr rfl)
theorem rDi_2 {d : Nat} {S : cS} {t : Nat} {S1 : cS} {S2 : cS} {g : Nat} {zg : Nat} {t1 : Nat} {S3 : cS} (ht : sI S 6151 = nI t) (mt : t < 20481) (b1 : 2 ≤ t) (c1 : Ans (d + 8) 363 [.ref 61, .int (nI (t - 2)), .int (nI 1)] S (some (.int (nI 1))) S1) (ag : 108 ≤ g) (c2 : Ans (d + 8) 361 [.ref 61, .int (nI (t - 2))] S1 (some (.ref g)) S2) (ht1 : sI S2 6151 = nI t1) (mt1 : t1 < 20481) (b2 : 1 ≤ t1) (c3 : Ans (d + 8) 410 [.ref 61, .ref g, .int (nI (t1 - 1))] S2 (some (.int (Int32.ofInt (-1)))) S3) : Bod (d + 8) 417 0 [(0, .ref 61)] [] S (some (.int 0)) (S3) := by
  refine Bod.go dc_417_0 rfl ?_
  refine Bod.get dc_417_1 fr_417_493 (mk_61 _) rfl ?_
  refine Bod.eqI (nI t) (by first | assumption | rfl | exact congrArg nI (by omega) | (simp (disch := omega) only [rI, rIe, rA, rIA, rLA, rJA, rVI, rQI, rVA, rQA, upd_at,  rAI, rLI, rJI, nI_add, pk_sub, kc_0, kc_1, kc_2, kc_3, kc_4, kc_5, reduceIte, Nat.reduceEqDiff, Nat.add_zero, rI_hold, rI_hold, rL_hold, ht]; done)) ?_
  refine Bod.ic 2 (by decide) dc_417_4 ?_
  refine Bod.subN (t - 2) (by omega) (by omega) dc_417_5 ?_
  refine Bod.istn dc_417_6 (by rw [ml_417]; exact Nat.le_of_ble_eq_true rfl) ?_
  refine Bod.go dc_417_7 rfl ?_
  refine Bod.go dc_417_8 rfl ?_
  refine Bod.ic 1 (by decide) dc_417_9 ?_
  refine Bod.virt (r := []) dc_417_10 kr_417_683 ⟨Or.inl rfl, ow_363, cl_14⟩ (by rw [np_363]; rfl) (by rw [np_363]; rfl) (ob_of (mk_61 _)) (Nat.le_of_ble_eq_true rfl) (c1  ) ?_
  show Bod _ _ _ _ [_] _ _ _
  refine Bod.ifT dc_417_13 rfl (k1_ne_T (k_ne 1 0 rfl rfl (by omega) (by omega) (by omega))) ?_
  refine Bod.go dc_417_31 rfl ?_
  refine Bod.go dc_417_32 rfl ?_
  refine Bod.go dc_417_33 rfl ?_
  refine Bod.virt (r := [_]) dc_417_34 kr_417_554 ⟨Or.inl rfl, ow_361, cl_14⟩ (by rw [np_361]; rfl) (by rw [np_361]; rfl) (ob_of (mk_61 _)) (Nat.le_of_ble_eq_true rfl) (c2  ) ?_
  show Bod _ _ _ _ [_, _] _ _ _
  refine Bod.go dc_417_37 rfl ?_
  refine Bod.get dc_417_38 fr_417_493 (mk_61 _) rfl ?_
  refine Bod.eqI (nI t1) (by first | assumption | (simp (disch := omega) only [rI, rIe, rA, rIA, rLA, rJA, rVI, rQI, rVA, rQA, upd_at,  rAI, rLI, rJI, nI_add, pk_sub, kc_0, kc_1, kc_2, kc_3, kc_4, kc_5, reduceIte, Nat.reduceEqDiff, Nat.add_zero, rI_hold, rI_hold, rL_hold, ht, ht1]; done) | (simp (disch := omega) only [rI, rIe, rA, rIA, rLA, rJA, rVI, rQI, rVA, rQA, upd_at,  rAI, rLI, rJI, nI_add, pk_sub, kc_0, kc_1, kc_2, kc_3, kc_4, kc_5, reduceIte, Nat.reduceEqDiff, Nat.add_zero, rI_hold, rI_hold, rL_hold, ht, ht1]; exact congrArg nI (by omega))) ?_
  refine Bod.ic 1 (by decide) dc_417_41 ?_
  refine Bod.subN (t1 - 1) (by omega) (by omega) dc_417_42 ?_
  refine Bod.virt (r := []) dc_417_43 kr_417_768 ⟨Or.inl rfl, ow_410, cl_14⟩ (by rw [np_410]; rfl) (by rw [np_410]; rfl) (ob_of (mk_61 _)) (Nat.le_of_ble_eq_true rfl) (c3  ) ?_
  show Bod _ _ _ _ [_] _ _ _
  refine Bod.istn dc_417_46 (by rw [ml_417]; exact Nat.le_of_ble_eq_true rfl) ?_
  refine Bod.go dc_417_47 rfl ?_
  refine Bod.ifF dc_417_48 rfl (by decide) ?_
  refine Bod.ic 0 (by decide) dc_417_51 ?_
  exact Bod.retZ dc_417_52 rt_417 (Or.inl rfl)
theorem rDi_3 {d : Nat} {S : cS} {t : Nat} {S1 : cS} {S2 : cS} {S3 : cS} {g : Nat} {zg : Nat} {t1 : Nat} {S4 : cS} {a : Nat} {S5 : cS} {g1 : Nat} {zg1 : Nat} {S6 : cS} {t2 : Nat} (ht : sI S 6151 = nI t) (mt : t < 20481) (b1 : 2 ≤ t) (c1 : Ans (d + 8) 363 [.ref 61, .int (nI (t - 2)), .int (nI 1)] S (some (.int (nI 0))) S1) (c2 : Ans (d + 8) 363 [.ref 61, .int (nI (t - 2)), .int (nI 2)] S1 (some (.int (nI 1))) S2) (ag : 108 ≤ g) (c3 : Ans (d + 8) 361 [.ref 61, .int (nI (t - 2))] S2 (some (.ref g)) S3) (ht1 : sI S3 6151 = nI t1) (mt1 : t1 < 20481) (b2 : 1 ≤ t1) (ma : a < 2 ^ 20) (c4 : Ans (d + 8) 410 [.ref 61, .ref g, .int (nI (t1 - 1))] S3 (some (.int (nI a))) S4) (ag1 : 108 ≤ g1) (c5 : Ans (d + 8) 361 [.ref 61, .int (nI (t - 2))] S4 (some (.ref g1)) S5) (c6 : Ans (d + 8) 418 [.ref g1, .int (nI a)] S5 none S6) (hz1 : (sS S5)[g1 - 108]? = some (13, zg1)) (ht2 : sI S6 6151 = nI t2) (mt2 : t2 < 20481) (b3 : 2 ≤ t2) : Bod (d + 8) 417 0 [(0, .ref 61)] [] S (some (.int 1)) (wI 6151 (nI (t2 - 2)) S6) := by
  refine Bod.go dc_417_0 rfl ?_
  refine Bod.get dc_417_1 fr_417_493 (mk_61 _) rfl ?_
  refine Bod.eqI (nI t) (by first | assumption | rfl | exact congrArg nI (by omega) | (simp (disch := omega) only [rI, rIe, rA, rIA, rLA, rJA, rVI, rQI, rVA, rQA, upd_at,  rAI, rLI, rJI, nI_add, pk_sub, kc_0, kc_1, kc_2, kc_3, kc_4, kc_5, reduceIte, Nat.reduceEqDiff, Nat.add_zero, rI_hold, rI_hold, rL_hold, ht]; done)) ?_
  refine Bod.ic 2 (by decide) dc_417_4 ?_
  refine Bod.subN (t - 2) (by omega) (by omega) dc_417_5 ?_
  refine Bod.istn dc_417_6 (by rw [ml_417]; exact Nat.le_of_ble_eq_true rfl) ?_
  refine Bod.go dc_417_7 rfl ?_
  refine Bod.go dc_417_8 rfl ?_
  refine Bod.ic 1 (by decide) dc_417_9 ?_
  refine Bod.virt (r := []) dc_417_10 kr_417_683 ⟨Or.inl rfl, ow_363, cl_14⟩ (by rw [np_363]; rfl) (by rw [np_363]; rfl) (ob_of (mk_61 _)) (Nat.le_of_ble_eq_true rfl) (c1  ) ?_
  show Bod _ _ _ _ [_] _ _ _
  refine Bod.ifF dc_417_13 rfl (k1_ne_F (k_eq 0 0 rfl rfl (by omega))) ?_
  refine Bod.go dc_417_16 rfl ?_
  refine Bod.go dc_417_17 rfl ?_
  refine Bod.ic 2 (by decide) dc_417_18 ?_
  refine Bod.virt (r := []) dc_417_19 kr_417_683 ⟨Or.inl rfl, ow_363, cl_14⟩ (by rw [np_363]; rfl) (by rw [np_363]; rfl) (ob_of (mk_61 _)) (Nat.le_of_ble_eq_true rfl) (c2  ) ?_
  show Bod _ _ _ _ [_] _ _ _
  refine Bod.ifT dc_417_22 rfl (k1_ne_T (k_ne 1 0 rfl rfl (by omega) (by omega) (by omega))) ?_
  refine Bod.go dc_417_31 rfl ?_
  refine Bod.go dc_417_32 rfl ?_
  refine Bod.go dc_417_33 rfl ?_
  refine Bod.virt (r := [_]) dc_417_34 kr_417_554 ⟨Or.inl rfl, ow_361, cl_14⟩ (by rw [np_361]; rfl) (by rw [np_361]; rfl) (ob_of (mk_61 _)) (Nat.le_of_ble_eq_true rfl) (c3  ) ?_
  show Bod _ _ _ _ [_, _] _ _ _
  refine Bod.go dc_417_37 rfl ?_
  refine Bod.get dc_417_38 fr_417_493 (mk_61 _) rfl ?_
  refine Bod.eqI (nI t1) (by first | assumption | (simp (disch := omega) only [rI, rIe, rA, rIA, rLA, rJA, rVI, rQI, rVA, rQA, upd_at,  rAI, rLI, rJI, nI_add, pk_sub, kc_0, kc_1, kc_2, kc_3, kc_4, kc_5, reduceIte, Nat.reduceEqDiff, Nat.add_zero, rI_hold, rI_hold, rL_hold, ht, ht1]; done) | (simp (disch := omega) only [rI, rIe, rA, rIA, rLA, rJA, rVI, rQI, rVA, rQA, upd_at,  rAI, rLI, rJI, nI_add, pk_sub, kc_0, kc_1, kc_2, kc_3, kc_4, kc_5, reduceIte, Nat.reduceEqDiff, Nat.add_zero, rI_hold, rI_hold, rL_hold, ht, ht1]; exact congrArg nI (by omega))) ?_
  refine Bod.ic 1 (by decide) dc_417_41 ?_
  refine Bod.subN (t1 - 1) (by omega) (by omega) dc_417_42 ?_
  refine Bod.virt (r := []) dc_417_43 kr_417_768 ⟨Or.inl rfl, ow_410, cl_14⟩ (by rw [np_410]; rfl) (by rw [np_410]; rfl) (ob_of (mk_61 _)) (Nat.le_of_ble_eq_true rfl) (c4  ) ?_
  show Bod _ _ _ _ [_] _ _ _
  refine Bod.istn dc_417_46 (by rw [ml_417]; exact Nat.le_of_ble_eq_true rfl) ?_
  refine Bod.go dc_417_47 rfl ?_
  refine Bod.ifT dc_417_48 rfl (k1_ge_T a rfl (by omega)) ?_
  refine Bod.go dc_417_53 rfl ?_
  refine Bod.go dc_417_54 rfl ?_
  refine Bod.virt (r := []) dc_417_55 kr_417_554 ⟨Or.inl rfl, ow_361, cl_14⟩ (by rw [np_361]; rfl) (by rw [np_361]; rfl) (ob_of (mk_61 _)) (Nat.le_of_ble_eq_true rfl) (c5  ) ?_
  show Bod _ _ _ _ [_] _ _ _
  refine Bod.go dc_417_58 rfl ?_
  refine Bod.virt (r := []) dc_417_59 kr_417_774 ⟨Or.inl rfl, ow_418, cl_13⟩ (by rw [np_418]; rfl) (by rw [np_418]; rfl) (ob_of (mk_thing ag1 (by first | exact hz1 | (simp only [rIS, rJS, rAS, rLS, rVS, rQS, rS_hold]; exact hz1)))) (Nat.le_of_ble_eq_true rfl) (c6  ) ?_
  show Bod _ _ _ _ [] _ _ _
  refine Bod.go dc_417_62 rfl ?_
  refine Bod.go dc_417_63 rfl ?_
  refine Bod.get dc_417_64 fr_417_493 (mk_61 _) rfl ?_
  refine Bod.eqI (nI t2) (by first | assumption | (simp (disch := omega) only [rI, rIe, rA, rIA, rLA, rJA, rVI, rQI, rVA, rQA, upd_at,  rAI, rLI, rJI, nI_add, pk_sub, kc_0, kc_1, kc_2, kc_3, kc_4, kc_5, reduceIte, Nat.reduceEqDiff, Nat.add_zero, rI_hold, rI_hold, rL_hold, ht, ht1, ht2]; done) | (simp (disch := omega) only [rI, rIe, rA, rIA, rLA, rJA, rVI, rQI, rVA, rQA, upd_at,  rAI, rLI, rJI, nI_add, pk_sub, kc_0, kc_1, kc_2, kc_3, kc_4, kc_5, reduceIte, Nat.reduceEqDiff, Nat.add_zero, rI_hold, rI_hold, rL_hold, ht, ht1, ht2]; exact congrArg nI (by omega))) ?_
  refine Bod.ic 2 (by decide) dc_417_67 ?_
  refine Bod.subN (t2 - 2) (by omega) (by omega) dc_417_68 ?_
  refine Bod.put dc_417_69 fr_417_493 (mk_61 _) (Nat.le_of_ble_eq_true rfl) pf_14_51 (st_6151 _ _) (mu_I _ _ _) ?_
  refine Bod.ic 1 (by decide) dc_417_72 ?_
  exact Bod.retZ dc_417_73 rt_417 (Or.inr rfl)
theorem rDi_4 {d : Nat} {S : cS} {t : Nat} {S1 : cS} {S2 : cS} {S3 : cS} {g : Nat} {zg : Nat} {t1 : Nat} {S4 : cS} (ht : sI S 6151 = nI t) (mt : t < 20481) (b1 : 2 ≤ t) (c1 : Ans (d + 8) 363 [.ref 61, .int (nI (t - 2)), .int (nI 1)] S (some (.int (nI 0))) S1) (c2 : Ans (d + 8) 363 [.ref 61, .int (nI (t - 2)), .int (nI 2)] S1 (some (.int (nI 1))) S2) (ag : 108 ≤ g) (c3 : Ans (d + 8) 361 [.ref 61, .int (nI (t - 2))] S2 (some (.ref g)) S3) (ht1 : sI S3 6151 = nI t1) (mt1 : t1 < 20481) (b2 : 1 ≤ t1) (c4 : Ans (d + 8) 410 [.ref 61, .ref g, .int (nI (t1 - 1))] S3 (some (.int (Int32.ofInt (-1)))) S4) : Bod (d + 8) 417 0 [(0, .ref 61)] [] S (some (.int 0)) (S4) := by
  refine Bod.go dc_417_0 rfl ?_
  refine Bod.get dc_417_1 fr_417_493 (mk_61 _) rfl ?_
  refine Bod.eqI (nI t) (by first | assumption | rfl | exact congrArg nI (by omega) | (simp (disch := omega) only [rI, rIe, rA, rIA, rLA, rJA, rVI, rQI, rVA, rQA, upd_at,  rAI, rLI, rJI, nI_add, pk_sub, kc_0, kc_1, kc_2, kc_3, kc_4, kc_5, reduceIte, Nat.reduceEqDiff, Nat.add_zero, rI_hold, rI_hold, rL_hold, ht]; done)) ?_
  refine Bod.ic 2 (by decide) dc_417_4 ?_
  refine Bod.subN (t - 2) (by omega) (by omega) dc_417_5 ?_
  refine Bod.istn dc_417_6 (by rw [ml_417]; exact Nat.le_of_ble_eq_true rfl) ?_
  refine Bod.go dc_417_7 rfl ?_
  refine Bod.go dc_417_8 rfl ?_
  refine Bod.ic 1 (by decide) dc_417_9 ?_
  refine Bod.virt (r := []) dc_417_10 kr_417_683 ⟨Or.inl rfl, ow_363, cl_14⟩ (by rw [np_363]; rfl) (by rw [np_363]; rfl) (ob_of (mk_61 _)) (Nat.le_of_ble_eq_true rfl) (c1  ) ?_
  show Bod _ _ _ _ [_] _ _ _
  refine Bod.ifF dc_417_13 rfl (k1_ne_F (k_eq 0 0 rfl rfl (by omega))) ?_
  refine Bod.go dc_417_16 rfl ?_
  refine Bod.go dc_417_17 rfl ?_
  refine Bod.ic 2 (by decide) dc_417_18 ?_
  refine Bod.virt (r := []) dc_417_19 kr_417_683 ⟨Or.inl rfl, ow_363, cl_14⟩ (by rw [np_363]; rfl) (by rw [np_363]; rfl) (ob_of (mk_61 _)) (Nat.le_of_ble_eq_true rfl) (c2  ) ?_
  show Bod _ _ _ _ [_] _ _ _
  refine Bod.ifT dc_417_22 rfl (k1_ne_T (k_ne 1 0 rfl rfl (by omega) (by omega) (by omega))) ?_
  refine Bod.go dc_417_31 rfl ?_
  refine Bod.go dc_417_32 rfl ?_
  refine Bod.go dc_417_33 rfl ?_
  refine Bod.virt (r := [_]) dc_417_34 kr_417_554 ⟨Or.inl rfl, ow_361, cl_14⟩ (by rw [np_361]; rfl) (by rw [np_361]; rfl) (ob_of (mk_61 _)) (Nat.le_of_ble_eq_true rfl) (c3  ) ?_
  show Bod _ _ _ _ [_, _] _ _ _
  refine Bod.go dc_417_37 rfl ?_
  refine Bod.get dc_417_38 fr_417_493 (mk_61 _) rfl ?_
  refine Bod.eqI (nI t1) (by first | assumption | (simp (disch := omega) only [rI, rIe, rA, rIA, rLA, rJA, rVI, rQI, rVA, rQA, upd_at,  rAI, rLI, rJI, nI_add, pk_sub, kc_0, kc_1, kc_2, kc_3, kc_4, kc_5, reduceIte, Nat.reduceEqDiff, Nat.add_zero, rI_hold, rI_hold, rL_hold, ht, ht1]; done) | (simp (disch := omega) only [rI, rIe, rA, rIA, rLA, rJA, rVI, rQI, rVA, rQA, upd_at,  rAI, rLI, rJI, nI_add, pk_sub, kc_0, kc_1, kc_2, kc_3, kc_4, kc_5, reduceIte, Nat.reduceEqDiff, Nat.add_zero, rI_hold, rI_hold, rL_hold, ht, ht1]; exact congrArg nI (by omega))) ?_
  refine Bod.ic 1 (by decide) dc_417_41 ?_
  refine Bod.subN (t1 - 1) (by omega) (by omega) dc_417_42 ?_
  refine Bod.virt (r := []) dc_417_43 kr_417_768 ⟨Or.inl rfl, ow_410, cl_14⟩ (by rw [np_410]; rfl) (by rw [np_410]; rfl) (ob_of (mk_61 _)) (Nat.le_of_ble_eq_true rfl) (c4  ) ?_
  show Bod _ _ _ _ [_] _ _ _
  refine Bod.istn dc_417_46 (by rw [ml_417]; exact Nat.le_of_ble_eq_true rfl) ?_
  refine Bod.go dc_417_47 rfl ?_
  refine Bod.ifF dc_417_48 rfl (by decide) ?_
  refine Bod.ic 0 (by decide) dc_417_51 ?_
  exact Bod.retZ dc_417_52 rt_417 (Or.inl rfl)
theorem rDi_5 {d : Nat} {S : cS} {t : Nat} {S1 : cS} {S2 : cS} {S3 : cS} (ht : sI S 6151 = nI t) (mt : t < 20481) (b1 : 2 ≤ t) (c1 : Ans (d + 8) 363 [.ref 61, .int (nI (t - 2)), .int (nI 1)] S (some (.int (nI 0))) S1) (c2 : Ans (d + 8) 363 [.ref 61, .int (nI (t - 2)), .int (nI 2)] S1 (some (.int (nI 0))) S2) (c3 : Ans (d + 8) 351 [.ref 61, .int (nI 2)] S2 (some (.int (nI 0))) S3) : Bod (d + 8) 417 0 [(0, .ref 61)] [] S (some (.int 0)) (S3) := by
  refine Bod.go dc_417_0 rfl ?_
  refine Bod.get dc_417_1 fr_417_493 (mk_61 _) rfl ?_
  refine Bod.eqI (nI t) (by first | assumption | rfl | exact congrArg nI (by omega) | (simp (disch := omega) only [rI, rIe, rA, rIA, rLA, rJA, rVI, rQI, rVA, rQA, upd_at,  rAI, rLI, rJI, nI_add, pk_sub, kc_0, kc_1, kc_2, kc_3, kc_4, kc_5, reduceIte, Nat.reduceEqDiff, Nat.add_zero, rI_hold, rI_hold, rL_hold, ht]; done)) ?_
  refine Bod.ic 2 (by decide) dc_417_4 ?_
  refine Bod.subN (t - 2) (by omega) (by omega) dc_417_5 ?_
  refine Bod.istn dc_417_6 (by rw [ml_417]; exact Nat.le_of_ble_eq_true rfl) ?_
  refine Bod.go dc_417_7 rfl ?_
  refine Bod.go dc_417_8 rfl ?_
  refine Bod.ic 1 (by decide) dc_417_9 ?_
  refine Bod.virt (r := []) dc_417_10 kr_417_683 ⟨Or.inl rfl, ow_363, cl_14⟩ (by rw [np_363]; rfl) (by rw [np_363]; rfl) (ob_of (mk_61 _)) (Nat.le_of_ble_eq_true rfl) (c1  ) ?_
  show Bod _ _ _ _ [_] _ _ _
  refine Bod.ifF dc_417_13 rfl (k1_ne_F (k_eq 0 0 rfl rfl (by omega))) ?_
  refine Bod.go dc_417_16 rfl ?_
  refine Bod.go dc_417_17 rfl ?_
  refine Bod.ic 2 (by decide) dc_417_18 ?_
  refine Bod.virt (r := []) dc_417_19 kr_417_683 ⟨Or.inl rfl, ow_363, cl_14⟩ (by rw [np_363]; rfl) (by rw [np_363]; rfl) (ob_of (mk_61 _)) (Nat.le_of_ble_eq_true rfl) (c2  ) ?_
  show Bod _ _ _ _ [_] _ _ _
  refine Bod.ifF dc_417_22 rfl (k1_ne_F (k_eq 0 0 rfl rfl (by omega))) ?_
  refine Bod.go dc_417_25 rfl ?_
  refine Bod.ic 2 (by decide) dc_417_26 ?_
  refine Bod.virt (r := []) dc_417_27 kr_417_608 ⟨Or.inl rfl, ow_351, cl_14⟩ (by rw [np_351]; rfl) (by rw [np_351]; rfl) (ob_of (mk_61 _)) (Nat.le_of_ble_eq_true rfl) (c3  ) ?_
  show Bod _ _ _ _ [_] _ _ _
  exact Bod.retZ dc_417_30 rt_417 (Or.inl rfl)
theorem rDa_1 {d : Nat} {S : cS} {nm : Nat} {t : Nat} {S1 : cS} {S2 : cS} {g : Nat} {zg : Nat} {S3 : cS} {a : Nat} {S4 : cS} {g1 : Nat} {zg1 : Nat} {S5 : cS} {t1 : Nat} (mnm : nm < 2 ^ 20) (ht : sI S 6151 = nI t) (mt : t < 20481) (b1 : 1 ≤ t) (c1 : Ans (d + 8) 363 [.ref 61, .int (nI (t - 1)), .int (nI 5)] S (some (.int (nI 1))) S1) (ag : 108 ≤ g) (c2 : Ans (d + 8) 361 [.ref 61, .int (nI (t - 1))] S1 (some (.ref g)) S2) (ma : a < 2 ^ 20) (c3 : Ans (d + 8) 399 [.ref g, .int (nI 0), .long ((nI nm).toInt64), .long 0] S2 (some (.int (nI a))) S3) (hz1 : (sS S2)[g - 108]? = some (13, zg)) (ag1 : 108 ≤ g1) (c4 : Ans (d + 8) 361 [.ref 61, .int (nI (t - 1))] S3 (some (.ref g1)) S4) (c5 : Ans (d + 8) 418 [.ref g1, .int (nI a)] S4 none S5) (hz2 : (sS S4)[g1 - 108]? = some (13, zg1)) (ht1 : sI S5 6151 = nI t1) (mt1 : t1 < 20481) (b2 : 1 ≤ t1) : Bod (d + 8) 419 0 [(0, .ref 61), (1, .int (nI nm))] [] S (some (.int 1)) (wI 6151 (nI (t1 - 1)) S5) := by
  refine Bod.go dc_419_0 rfl ?_
  refine Bod.get dc_419_1 fr_419_493 (mk_61 _) rfl ?_
  refine Bod.eqI (nI t) (by first | assumption | rfl | exact congrArg nI (by omega) | (simp (disch := omega) only [rI, rIe, rA, rIA, rLA, rJA, rVI, rQI, rVA, rQA, upd_at,  rAI, rLI, rJI, nI_add, pk_sub, kc_0, kc_1, kc_2, kc_3, kc_4, kc_5, reduceIte, Nat.reduceEqDiff, Nat.add_zero, rI_hold, rI_hold, rL_hold, ht]; done)) ?_
  refine Bod.ic 1 (by decide) dc_419_4 ?_
  refine Bod.subN (t - 1) (by omega) (by omega) dc_419_5 ?_
  refine Bod.istn dc_419_6 (by rw [ml_419]; exact Nat.le_of_ble_eq_true rfl) ?_
  refine Bod.go dc_419_7 rfl ?_
  refine Bod.go dc_419_8 rfl ?_
  refine Bod.ic 5 (by decide) dc_419_9 ?_
  refine Bod.virt (r := []) dc_419_10 kr_419_683 ⟨Or.inl rfl, ow_363, cl_14⟩ (by rw [np_363]; rfl) (by rw [np_363]; rfl) (ob_of (mk_61 _)) (Nat.le_of_ble_eq_true rfl) (c1  ) ?_
  show Bod _ _ _ _ [_] _ _ _
  refine Bod.ifT dc_419_13 rfl (k1_ne_T (k_ne 1 0 rfl rfl (by omega) (by omega) (by omega))) ?_
  refine Bod.go dc_419_31 rfl ?_
  refine Bod.go dc_419_32 rfl ?_
  refine Bod.virt (r := []) dc_419_33 kr_419_554 ⟨Or.inl rfl, ow_361, cl_14⟩ (by rw [np_361]; rfl) (by rw [np_361]; rfl) (ob_of (mk_61 _)) (Nat.le_of_ble_eq_true rfl) (c2  ) ?_
  show Bod _ _ _ _ [_] _ _ _
  refine Bod.ic 0 (by decide) dc_419_36 ?_
  refine Bod.go dc_419_37 rfl ?_
  refine Bod.go dc_419_38 rfl ?_
  refine Bod.go dc_419_39 rfl ?_
  refine Bod.virt (r := []) dc_419_40 kr_419_764 ⟨Or.inl rfl, ow_399, cl_13⟩ (by rw [np_399]; rfl) (by rw [np_399]; rfl) (ob_of (mk_thing ag (by first | exact hz1 | (simp only [rIS, rJS, rAS, rLS, rVS, rQS, rS_hold]; exact hz1)))) (Nat.le_of_ble_eq_true rfl) (c3  ) ?_
  show Bod _ _ _ _ [_] _ _ _
  refine Bod.istn dc_419_43 (by rw [ml_419]; exact Nat.le_of_ble_eq_true rfl) ?_
  refine Bod.go dc_419_44 rfl ?_
  refine Bod.ifT dc_419_45 rfl (k1_ge_T a rfl (by omega)) ?_
  refine Bod.go dc_419_55 rfl ?_
  refine Bod.go dc_419_56 rfl ?_
  refine Bod.virt (r := []) dc_419_57 kr_419_554 ⟨Or.inl rfl, ow_361, cl_14⟩ (by rw [np_361]; rfl) (by rw [np_361]; rfl) (ob_of (mk_61 _)) (Nat.le_of_ble_eq_true rfl) (c4  ) ?_
  show Bod _ _ _ _ [_] _ _ _
  refine Bod.go dc_419_60 rfl ?_
  refine Bod.virt (r := []) dc_419_61 kr_419_774 ⟨Or.inl rfl, ow_418, cl_13⟩ (by rw [np_418]; rfl) (by rw [np_418]; rfl) (ob_of (mk_thing ag1 (by first | exact hz2 | (simp only [rIS, rJS, rAS, rLS, rVS, rQS, rS_hold]; exact hz2)))) (Nat.le_of_ble_eq_true rfl) (c5  ) ?_
  show Bod _ _ _ _ [] _ _ _
  refine Bod.go dc_419_64 rfl ?_
  refine Bod.go dc_419_65 rfl ?_
  refine Bod.get dc_419_66 fr_419_493 (mk_61 _) rfl ?_
  refine Bod.eqI (nI t1) (by first | assumption | (simp (disch := omega) only [rI, rIe, rA, rIA, rLA, rJA, rVI, rQI, rVA, rQA, upd_at,  rAI, rLI, rJI, nI_add, pk_sub, kc_0, kc_1, kc_2, kc_3, kc_4, kc_5, reduceIte, Nat.reduceEqDiff, Nat.add_zero, rI_hold, rI_hold, rL_hold, ht, ht1]; done) | (simp (disch := omega) only [rI, rIe, rA, rIA, rLA, rJA, rVI, rQI, rVA, rQA, upd_at,  rAI, rLI, rJI, nI_add, pk_sub, kc_0, kc_1, kc_2, kc_3, kc_4, kc_5, reduceIte, Nat.reduceEqDiff, Nat.add_zero, rI_hold, rI_hold, rL_hold, ht, ht1]; exact congrArg nI (by omega))) ?_
  refine Bod.ic 1 (by decide) dc_419_69 ?_
  refine Bod.subN (t1 - 1) (by omega) (by omega) dc_419_70 ?_
  refine Bod.put dc_419_71 fr_419_493 (mk_61 _) (Nat.le_of_ble_eq_true rfl) pf_14_51 (st_6151 _ _) (mu_I _ _ _) ?_
  refine Bod.ic 1 (by decide) dc_419_74 ?_
  exact Bod.retZ dc_419_75 rt_419 (Or.inr rfl)
theorem rDa_2 {d : Nat} {S : cS} {nm : Nat} {t : Nat} {S1 : cS} {S2 : cS} {g : Nat} {zg : Nat} {S3 : cS} {S4 : cS} (mnm : nm < 2 ^ 20) (ht : sI S 6151 = nI t) (mt : t < 20481) (b1 : 1 ≤ t) (c1 : Ans (d + 8) 363 [.ref 61, .int (nI (t - 1)), .int (nI 5)] S (some (.int (nI 1))) S1) (ag : 108 ≤ g) (c2 : Ans (d + 8) 361 [.ref 61, .int (nI (t - 1))] S1 (some (.ref g)) S2) (c3 : Ans (d + 8) 399 [.ref g, .int (nI 0), .long ((nI nm).toInt64), .long 0] S2 (some (.int (Int32.ofInt (-1)))) S3) (hz1 : (sS S2)[g - 108]? = some (13, zg)) (c4 : Ans (d + 8) 351 [.ref 61, .int (nI 9)] S3 (some (.int (nI 0))) S4) : Bod (d + 8) 419 0 [(0, .ref 61), (1, .int (nI nm))] [] S (some (.int 0)) (S4) := by
  refine Bod.go dc_419_0 rfl ?_
  refine Bod.get dc_419_1 fr_419_493 (mk_61 _) rfl ?_
  refine Bod.eqI (nI t) (by first | assumption | rfl | exact congrArg nI (by omega) | (simp (disch := omega) only [rI, rIe, rA, rIA, rLA, rJA, rVI, rQI, rVA, rQA, upd_at,  rAI, rLI, rJI, nI_add, pk_sub, kc_0, kc_1, kc_2, kc_3, kc_4, kc_5, reduceIte, Nat.reduceEqDiff, Nat.add_zero, rI_hold, rI_hold, rL_hold, ht]; done)) ?_
  refine Bod.ic 1 (by decide) dc_419_4 ?_
  refine Bod.subN (t - 1) (by omega) (by omega) dc_419_5 ?_
  refine Bod.istn dc_419_6 (by rw [ml_419]; exact Nat.le_of_ble_eq_true rfl) ?_
  refine Bod.go dc_419_7 rfl ?_
  refine Bod.go dc_419_8 rfl ?_
  refine Bod.ic 5 (by decide) dc_419_9 ?_
  refine Bod.virt (r := []) dc_419_10 kr_419_683 ⟨Or.inl rfl, ow_363, cl_14⟩ (by rw [np_363]; rfl) (by rw [np_363]; rfl) (ob_of (mk_61 _)) (Nat.le_of_ble_eq_true rfl) (c1  ) ?_
  show Bod _ _ _ _ [_] _ _ _
  refine Bod.ifT dc_419_13 rfl (k1_ne_T (k_ne 1 0 rfl rfl (by omega) (by omega) (by omega))) ?_
  refine Bod.go dc_419_31 rfl ?_
  refine Bod.go dc_419_32 rfl ?_
  refine Bod.virt (r := []) dc_419_33 kr_419_554 ⟨Or.inl rfl, ow_361, cl_14⟩ (by rw [np_361]; rfl) (by rw [np_361]; rfl) (ob_of (mk_61 _)) (Nat.le_of_ble_eq_true rfl) (c2  ) ?_
  show Bod _ _ _ _ [_] _ _ _
  refine Bod.ic 0 (by decide) dc_419_36 ?_
  refine Bod.go dc_419_37 rfl ?_
  refine Bod.go dc_419_38 rfl ?_
  refine Bod.go dc_419_39 rfl ?_
  refine Bod.virt (r := []) dc_419_40 kr_419_764 ⟨Or.inl rfl, ow_399, cl_13⟩ (by rw [np_399]; rfl) (by rw [np_399]; rfl) (ob_of (mk_thing ag (by first | exact hz1 | (simp only [rIS, rJS, rAS, rLS, rVS, rQS, rS_hold]; exact hz1)))) (Nat.le_of_ble_eq_true rfl) (c3  ) ?_
  show Bod _ _ _ _ [_] _ _ _
  refine Bod.istn dc_419_43 (by rw [ml_419]; exact Nat.le_of_ble_eq_true rfl) ?_
  refine Bod.go dc_419_44 rfl ?_
  refine Bod.ifF dc_419_45 rfl (by decide) ?_
  refine Bod.go dc_419_48 rfl ?_
  refine Bod.bip 9 (by decide) dc_419_49 ?_
  refine Bod.virt (r := []) dc_419_51 kr_419_608 ⟨Or.inl rfl, ow_351, cl_14⟩ (by rw [np_351]; rfl) (by rw [np_351]; rfl) (ob_of (mk_61 _)) (Nat.le_of_ble_eq_true rfl) (c4  ) ?_
  show Bod _ _ _ _ [_] _ _ _
  exact Bod.retZ dc_419_54 rt_419 (Or.inl rfl)
theorem rDa_3 {d : Nat} {S : cS} {nm : Nat} {t : Nat} {S1 : cS} {S2 : cS} {S3 : cS} {g : Nat} {zg : Nat} {S4 : cS} {a : Nat} {S5 : cS} {g1 : Nat} {zg1 : Nat} {S6 : cS} {t1 : Nat} (mnm : nm < 2 ^ 20) (ht : sI S 6151 = nI t) (mt : t < 20481) (b1 : 1 ≤ t) (c1 : Ans (d + 8) 363 [.ref 61, .int (nI (t - 1)), .int (nI 5)] S (some (.int (nI 0))) S1) (c2 : Ans (d + 8) 363 [.ref 61, .int (nI (t - 1)), .int (nI 4)] S1 (some (.int (nI 1))) S2) (ag : 108 ≤ g) (c3 : Ans (d + 8) 361 [.ref 61, .int (nI (t - 1))] S2 (some (.ref g)) S3) (ma : a < 2 ^ 20) (c4 : Ans (d + 8) 399 [.ref g, .int (nI 0), .long ((nI nm).toInt64), .long 0] S3 (some (.int (nI a))) S4) (hz1 : (sS S3)[g - 108]? = some (13, zg)) (ag1 : 108 ≤ g1) (c5 : Ans (d + 8) 361 [.ref 61, .int (nI (t - 1))] S4 (some (.ref g1)) S5) (c6 : Ans (d + 8) 418 [.ref g1, .int (nI a)] S5 none S6) (hz2 : (sS S5)[g1 - 108]? = some (13, zg1)) (ht1 : sI S6 6151 = nI t1) (mt1 : t1 < 20481) (b2 : 1 ≤ t1) : Bod (d + 8) 419 0 [(0, .ref 61), (1, .int (nI nm))] [] S (some (.int 1)) (wI 6151 (nI (t1 - 1)) S6) := by
  refine Bod.go dc_419_0 rfl ?_
  refine Bod.get dc_419_1 fr_419_493 (mk_61 _) rfl ?_
  refine Bod.eqI (nI t) (by first | assumption | rfl | exact congrArg nI (by omega) | (simp (disch := omega) only [rI, rIe, rA, rIA, rLA, rJA, rVI, rQI, rVA, rQA, upd_at,  rAI, rLI, rJI, nI_add, pk_sub, kc_0, kc_1, kc_2, kc_3, kc_4, kc_5, reduceIte, Nat.reduceEqDiff, Nat.add_zero, rI_hold, rI_hold, rL_hold, ht]; done)) ?_
  refine Bod.ic 1 (by decide) dc_419_4 ?_
  refine Bod.subN (t - 1) (by omega) (by omega) dc_419_5 ?_
  refine Bod.istn dc_419_6 (by rw [ml_419]; exact Nat.le_of_ble_eq_true rfl) ?_
  refine Bod.go dc_419_7 rfl ?_
  refine Bod.go dc_419_8 rfl ?_
  refine Bod.ic 5 (by decide) dc_419_9 ?_
  refine Bod.virt (r := []) dc_419_10 kr_419_683 ⟨Or.inl rfl, ow_363, cl_14⟩ (by rw [np_363]; rfl) (by rw [np_363]; rfl) (ob_of (mk_61 _)) (Nat.le_of_ble_eq_true rfl) (c1  ) ?_
  show Bod _ _ _ _ [_] _ _ _
  refine Bod.ifF dc_419_13 rfl (k1_ne_F (k_eq 0 0 rfl rfl (by omega))) ?_
  refine Bod.go dc_419_16 rfl ?_
  refine Bod.go dc_419_17 rfl ?_
  refine Bod.ic 4 (by decide) dc_419_18 ?_
  refine Bod.virt (r := []) dc_419_19 kr_419_683 ⟨Or.inl rfl, ow_363, cl_14⟩ (by rw [np_363]; rfl) (by rw [np_363]; rfl) (ob_of (mk_61 _)) (Nat.le_of_ble_eq_true rfl) (c2  ) ?_
  show Bod _ _ _ _ [_] _ _ _
  refine Bod.ifT dc_419_22 rfl (k1_ne_T (k_ne 1 0 rfl rfl (by omega) (by omega) (by omega))) ?_
  refine Bod.go dc_419_31 rfl ?_
  refine Bod.go dc_419_32 rfl ?_
  refine Bod.virt (r := []) dc_419_33 kr_419_554 ⟨Or.inl rfl, ow_361, cl_14⟩ (by rw [np_361]; rfl) (by rw [np_361]; rfl) (ob_of (mk_61 _)) (Nat.le_of_ble_eq_true rfl) (c3  ) ?_
  show Bod _ _ _ _ [_] _ _ _
  refine Bod.ic 0 (by decide) dc_419_36 ?_
  refine Bod.go dc_419_37 rfl ?_
  refine Bod.go dc_419_38 rfl ?_
  refine Bod.go dc_419_39 rfl ?_
  refine Bod.virt (r := []) dc_419_40 kr_419_764 ⟨Or.inl rfl, ow_399, cl_13⟩ (by rw [np_399]; rfl) (by rw [np_399]; rfl) (ob_of (mk_thing ag (by first | exact hz1 | (simp only [rIS, rJS, rAS, rLS, rVS, rQS, rS_hold]; exact hz1)))) (Nat.le_of_ble_eq_true rfl) (c4  ) ?_
  show Bod _ _ _ _ [_] _ _ _
  refine Bod.istn dc_419_43 (by rw [ml_419]; exact Nat.le_of_ble_eq_true rfl) ?_
  refine Bod.go dc_419_44 rfl ?_
  refine Bod.ifT dc_419_45 rfl (k1_ge_T a rfl (by omega)) ?_
  refine Bod.go dc_419_55 rfl ?_
  refine Bod.go dc_419_56 rfl ?_
  refine Bod.virt (r := []) dc_419_57 kr_419_554 ⟨Or.inl rfl, ow_361, cl_14⟩ (by rw [np_361]; rfl) (by rw [np_361]; rfl) (ob_of (mk_61 _)) (Nat.le_of_ble_eq_true rfl) (c5  ) ?_
  show Bod _ _ _ _ [_] _ _ _
  refine Bod.go dc_419_60 rfl ?_
  refine Bod.virt (r := []) dc_419_61 kr_419_774 ⟨Or.inl rfl, ow_418, cl_13⟩ (by rw [np_418]; rfl) (by rw [np_418]; rfl) (ob_of (mk_thing ag1 (by first | exact hz2 | (simp only [rIS, rJS, rAS, rLS, rVS, rQS, rS_hold]; exact hz2)))) (Nat.le_of_ble_eq_true rfl) (c6  ) ?_
  show Bod _ _ _ _ [] _ _ _
  refine Bod.go dc_419_64 rfl ?_
  refine Bod.go dc_419_65 rfl ?_
  refine Bod.get dc_419_66 fr_419_493 (mk_61 _) rfl ?_
  refine Bod.eqI (nI t1) (by first | assumption | (simp (disch := omega) only [rI, rIe, rA, rIA, rLA, rJA, rVI, rQI, rVA, rQA, upd_at,  rAI, rLI, rJI, nI_add, pk_sub, kc_0, kc_1, kc_2, kc_3, kc_4, kc_5, reduceIte, Nat.reduceEqDiff, Nat.add_zero, rI_hold, rI_hold, rL_hold, ht, ht1]; done) | (simp (disch := omega) only [rI, rIe, rA, rIA, rLA, rJA, rVI, rQI, rVA, rQA, upd_at,  rAI, rLI, rJI, nI_add, pk_sub, kc_0, kc_1, kc_2, kc_3, kc_4, kc_5, reduceIte, Nat.reduceEqDiff, Nat.add_zero, rI_hold, rI_hold, rL_hold, ht, ht1]; exact congrArg nI (by omega))) ?_
  refine Bod.ic 1 (by decide) dc_419_69 ?_
  refine Bod.subN (t1 - 1) (by omega) (by omega) dc_419_70 ?_
  refine Bod.put dc_419_71 fr_419_493 (mk_61 _) (Nat.le_of_ble_eq_true rfl) pf_14_51 (st_6151 _ _) (mu_I _ _ _) ?_
  refine Bod.ic 1 (by decide) dc_419_74 ?_
  exact Bod.retZ dc_419_75 rt_419 (Or.inr rfl)
theorem rDa_4 {d : Nat} {S : cS} {nm : Nat} {t : Nat} {S1 : cS} {S2 : cS} {S3 : cS} {g : Nat} {zg : Nat} {S4 : cS} {S5 : cS} (mnm : nm < 2 ^ 20) (ht : sI S 6151 = nI t) (mt : t < 20481) (b1 : 1 ≤ t) (c1 : Ans (d + 8) 363 [.ref 61, .int (nI (t - 1)), .int (nI 5)] S (some (.int (nI 0))) S1) (c2 : Ans (d + 8) 363 [.ref 61, .int (nI (t - 1)), .int (nI 4)] S1 (some (.int (nI 1))) S2) (ag : 108 ≤ g) (c3 : Ans (d + 8) 361 [.ref 61, .int (nI (t - 1))] S2 (some (.ref g)) S3) (c4 : Ans (d + 8) 399 [.ref g, .int (nI 0), .long ((nI nm).toInt64), .long 0] S3 (some (.int (Int32.ofInt (-1)))) S4) (hz1 : (sS S3)[g - 108]? = some (13, zg)) (c5 : Ans (d + 8) 351 [.ref 61, .int (nI 9)] S4 (some (.int (nI 0))) S5) : Bod (d + 8) 419 0 [(0, .ref 61), (1, .int (nI nm))] [] S (some (.int 0)) (S5) := by
  refine Bod.go dc_419_0 rfl ?_
  refine Bod.get dc_419_1 fr_419_493 (mk_61 _) rfl ?_
  refine Bod.eqI (nI t) (by first | assumption | rfl | exact congrArg nI (by omega) | (simp (disch := omega) only [rI, rIe, rA, rIA, rLA, rJA, rVI, rQI, rVA, rQA, upd_at,  rAI, rLI, rJI, nI_add, pk_sub, kc_0, kc_1, kc_2, kc_3, kc_4, kc_5, reduceIte, Nat.reduceEqDiff, Nat.add_zero, rI_hold, rI_hold, rL_hold, ht]; done)) ?_
  refine Bod.ic 1 (by decide) dc_419_4 ?_
  refine Bod.subN (t - 1) (by omega) (by omega) dc_419_5 ?_
  refine Bod.istn dc_419_6 (by rw [ml_419]; exact Nat.le_of_ble_eq_true rfl) ?_
  refine Bod.go dc_419_7 rfl ?_
  refine Bod.go dc_419_8 rfl ?_
  refine Bod.ic 5 (by decide) dc_419_9 ?_
  refine Bod.virt (r := []) dc_419_10 kr_419_683 ⟨Or.inl rfl, ow_363, cl_14⟩ (by rw [np_363]; rfl) (by rw [np_363]; rfl) (ob_of (mk_61 _)) (Nat.le_of_ble_eq_true rfl) (c1  ) ?_
  show Bod _ _ _ _ [_] _ _ _
  refine Bod.ifF dc_419_13 rfl (k1_ne_F (k_eq 0 0 rfl rfl (by omega))) ?_
  refine Bod.go dc_419_16 rfl ?_
  refine Bod.go dc_419_17 rfl ?_
  refine Bod.ic 4 (by decide) dc_419_18 ?_
  refine Bod.virt (r := []) dc_419_19 kr_419_683 ⟨Or.inl rfl, ow_363, cl_14⟩ (by rw [np_363]; rfl) (by rw [np_363]; rfl) (ob_of (mk_61 _)) (Nat.le_of_ble_eq_true rfl) (c2  ) ?_
  show Bod _ _ _ _ [_] _ _ _
  refine Bod.ifT dc_419_22 rfl (k1_ne_T (k_ne 1 0 rfl rfl (by omega) (by omega) (by omega))) ?_
  refine Bod.go dc_419_31 rfl ?_
  refine Bod.go dc_419_32 rfl ?_
  refine Bod.virt (r := []) dc_419_33 kr_419_554 ⟨Or.inl rfl, ow_361, cl_14⟩ (by rw [np_361]; rfl) (by rw [np_361]; rfl) (ob_of (mk_61 _)) (Nat.le_of_ble_eq_true rfl) (c3  ) ?_
  show Bod _ _ _ _ [_] _ _ _
  refine Bod.ic 0 (by decide) dc_419_36 ?_
  refine Bod.go dc_419_37 rfl ?_
  refine Bod.go dc_419_38 rfl ?_
  refine Bod.go dc_419_39 rfl ?_
  refine Bod.virt (r := []) dc_419_40 kr_419_764 ⟨Or.inl rfl, ow_399, cl_13⟩ (by rw [np_399]; rfl) (by rw [np_399]; rfl) (ob_of (mk_thing ag (by first | exact hz1 | (simp only [rIS, rJS, rAS, rLS, rVS, rQS, rS_hold]; exact hz1)))) (Nat.le_of_ble_eq_true rfl) (c4  ) ?_
  show Bod _ _ _ _ [_] _ _ _
  refine Bod.istn dc_419_43 (by rw [ml_419]; exact Nat.le_of_ble_eq_true rfl) ?_
  refine Bod.go dc_419_44 rfl ?_
  refine Bod.ifF dc_419_45 rfl (by decide) ?_
  refine Bod.go dc_419_48 rfl ?_
  refine Bod.bip 9 (by decide) dc_419_49 ?_
  refine Bod.virt (r := []) dc_419_51 kr_419_608 ⟨Or.inl rfl, ow_351, cl_14⟩ (by rw [np_351]; rfl) (by rw [np_351]; rfl) (ob_of (mk_61 _)) (Nat.le_of_ble_eq_true rfl) (c5  ) ?_
  show Bod _ _ _ _ [_] _ _ _
  exact Bod.retZ dc_419_54 rt_419 (Or.inl rfl)
theorem rDa_5 {d : Nat} {S : cS} {nm : Nat} {t : Nat} {S1 : cS} {S2 : cS} {S3 : cS} (mnm : nm < 2 ^ 20) (ht : sI S 6151 = nI t) (mt : t < 20481) (b1 : 1 ≤ t) (c1 : Ans (d + 8) 363 [.ref 61, .int (nI (t - 1)), .int (nI 5)] S (some (.int (nI 0))) S1) (c2 : Ans (d + 8) 363 [.ref 61, .int (nI (t - 1)), .int (nI 4)] S1 (some (.int (nI 0))) S2) (c3 : Ans (d + 8) 351 [.ref 61, .int (nI 2)] S2 (some (.int (nI 0))) S3) : Bod (d + 8) 419 0 [(0, .ref 61), (1, .int (nI nm))] [] S (some (.int 0)) (S3) := by
  refine Bod.go dc_419_0 rfl ?_
  refine Bod.get dc_419_1 fr_419_493 (mk_61 _) rfl ?_
  refine Bod.eqI (nI t) (by first | assumption | rfl | exact congrArg nI (by omega) | (simp (disch := omega) only [rI, rIe, rA, rIA, rLA, rJA, rVI, rQI, rVA, rQA, upd_at,  rAI, rLI, rJI, nI_add, pk_sub, kc_0, kc_1, kc_2, kc_3, kc_4, kc_5, reduceIte, Nat.reduceEqDiff, Nat.add_zero, rI_hold, rI_hold, rL_hold, ht]; done)) ?_
  refine Bod.ic 1 (by decide) dc_419_4 ?_
  refine Bod.subN (t - 1) (by omega) (by omega) dc_419_5 ?_
  refine Bod.istn dc_419_6 (by rw [ml_419]; exact Nat.le_of_ble_eq_true rfl) ?_
  refine Bod.go dc_419_7 rfl ?_
  refine Bod.go dc_419_8 rfl ?_
  refine Bod.ic 5 (by decide) dc_419_9 ?_
  refine Bod.virt (r := []) dc_419_10 kr_419_683 ⟨Or.inl rfl, ow_363, cl_14⟩ (by rw [np_363]; rfl) (by rw [np_363]; rfl) (ob_of (mk_61 _)) (Nat.le_of_ble_eq_true rfl) (c1  ) ?_
  show Bod _ _ _ _ [_] _ _ _
  refine Bod.ifF dc_419_13 rfl (k1_ne_F (k_eq 0 0 rfl rfl (by omega))) ?_
  refine Bod.go dc_419_16 rfl ?_
  refine Bod.go dc_419_17 rfl ?_
  refine Bod.ic 4 (by decide) dc_419_18 ?_
  refine Bod.virt (r := []) dc_419_19 kr_419_683 ⟨Or.inl rfl, ow_363, cl_14⟩ (by rw [np_363]; rfl) (by rw [np_363]; rfl) (ob_of (mk_61 _)) (Nat.le_of_ble_eq_true rfl) (c2  ) ?_
  show Bod _ _ _ _ [_] _ _ _
  refine Bod.ifF dc_419_22 rfl (k1_ne_F (k_eq 0 0 rfl rfl (by omega))) ?_
  refine Bod.go dc_419_25 rfl ?_
  refine Bod.ic 2 (by decide) dc_419_26 ?_
  refine Bod.virt (r := []) dc_419_27 kr_419_608 ⟨Or.inl rfl, ow_351, cl_14⟩ (by rw [np_351]; rfl) (by rw [np_351]; rfl) (ob_of (mk_61 _)) (Nat.le_of_ble_eq_true rfl) (c3  ) ?_
  show Bod _ _ _ _ [_] _ _ _
  exact Bod.retZ dc_419_30 rt_419 (Or.inl rfl)
theorem rLe_1 {d : Nat} {S : cS} {cl : Nat} {e97 : Nat} {e100 : Nat} {t : Nat} {e99 : Nat} {S1 : cS} (hcl : sI S 6159 = nI cl) (mcl : cl < 32) (b1 : 1 ≤ cl) (he97 : sA (wI 6159 (nI (cl - 1)) S) 97 (cl - 1) = nI e97) (me97 : e97 < 2 ^ 20) (he100 : sA (wI 6159 (nI (cl - 1)) S) 100 (cl - 1) = nI e100) (me100 : e100 < 2 ^ 20) (b2 : e100 = 0) (ht : sI (wI 6159 (nI (cl - 1)) S) 6151 = nI t) (mt : t < 20481) (b3 : 1 ≤ t) (he99 : sA (wI 6159 (nI (cl - 1)) S) 99 (cl - 1) = nI e99) (me99 : e99 < 2 ^ 20) (c1 : Ans (d + 8) 391 [.ref 61, .int (nI (t - 1)), .int (nI e97)] (wI 6163 (nI e99) (wI 6159 (nI (cl - 1)) S)) none S1) : Bod (d + 8) 420 0 [(0, .ref 61)] [] S (some (.int 1)) (wI 6151 (nI (e97 + 1)) S1) := by
  refine Bod.go dc_420_0 rfl ?_
  refine Bod.go dc_420_1 rfl ?_
  refine Bod.get dc_420_2 fr_420_502 (mk_61 _) rfl ?_
  refine Bod.eqI (nI cl) (by first | assumption | rfl | exact congrArg nI (by omega) | (simp (disch := omega) only [rI, rIe, rA, rIA, rLA, rJA, rVI, rQI, rVA, rQA, upd_at,  rAI, rLI, rJI, nI_add, pk_sub, kc_0, kc_1, kc_2, kc_3, kc_4, kc_5, reduceIte, Nat.reduceEqDiff, Nat.add_zero, rI_hold, rI_hold, rL_hold, hcl]; done)) ?_
  refine Bod.ic 1 (by decide) dc_420_5 ?_
  refine Bod.subN (cl - 1) (by omega) (by omega) dc_420_6 ?_
  refine Bod.put dc_420_7 fr_420_502 (mk_61 _) (Nat.le_of_ble_eq_true rfl) pf_14_59 (st_6159 _ _) (mu_I _ _ _) ?_
  refine Bod.go dc_420_10 rfl ?_
  refine Bod.get dc_420_11 fr_420_596 (mk_61 _) rfl ?_
  refine Bod.go dc_420_14 rfl ?_
  refine Bod.get dc_420_15 fr_420_502 (mk_61 _) rfl ?_
  refine Bod.eqI (nI (cl - 1)) (by first | assumption | (simp (disch := omega) only [rI, rIe, rA, rIA, rLA, rJA, rVI, rQI, rVA, rQA, upd_at,  rAI, rLI, rJI, nI_add, pk_sub, kc_0, kc_1, kc_2, kc_3, kc_4, kc_5, reduceIte, Nat.reduceEqDiff, Nat.add_zero, rI_hold, rI_hold, rL_hold, hcl]; done) | (simp (disch := omega) only [rI, rIe, rA, rIA, rLA, rJA, rVI, rQI, rVA, rQA, upd_at,  rAI, rLI, rJI, nI_add, pk_sub, kc_0, kc_1, kc_2, kc_3, kc_4, kc_5, reduceIte, Nat.reduceEqDiff, Nat.add_zero, rI_hold, rI_hold, rL_hold, hcl]; exact congrArg nI (by omega))) ?_
  refine Bod.ialdN (cl - 1) rfl (by omega) (by omega) dc_420_18 (mk_97 _) ?_
  refine Bod.eqI (nI e97) (by first | assumption | (simp (disch := omega) only [rI, rIe, rA, rIA, rLA, rJA, rVI, rQI, rVA, rQA, upd_at,  rAI, rLI, rJI, nI_add, pk_sub, kc_0, kc_1, kc_2, kc_3, kc_4, kc_5, reduceIte, Nat.reduceEqDiff, Nat.add_zero, rI_hold, rI_hold, rL_hold, hcl, he97]; done) | (simp (disch := omega) only [rI, rIe, rA, rIA, rLA, rJA, rVI, rQI, rVA, rQA, upd_at,  rAI, rLI, rJI, nI_add, pk_sub, kc_0, kc_1, kc_2, kc_3, kc_4, kc_5, reduceIte, Nat.reduceEqDiff, Nat.add_zero, rI_hold, rI_hold, rL_hold, hcl, he97]; exact congrArg nI (by omega))) ?_
  refine Bod.istn dc_420_19 (by rw [ml_420]; exact Nat.le_of_ble_eq_true rfl) ?_
  refine Bod.go dc_420_20 rfl ?_
  refine Bod.get dc_420_21 fr_420_602 (mk_61 _) rfl ?_
  refine Bod.go dc_420_24 rfl ?_
  refine Bod.get dc_420_25 fr_420_502 (mk_61 _) rfl ?_
  refine Bod.eqI (nI (cl - 1)) (by first | assumption | (simp (disch := omega) only [rI, rIe, rA, rIA, rLA, rJA, rVI, rQI, rVA, rQA, upd_at,  rAI, rLI, rJI, nI_add, pk_sub, kc_0, kc_1, kc_2, kc_3, kc_4, kc_5, reduceIte, Nat.reduceEqDiff, Nat.add_zero, rI_hold, rI_hold, rL_hold, hcl, he97]; done) | (simp (disch := omega) only [rI, rIe, rA, rIA, rLA, rJA, rVI, rQI, rVA, rQA, upd_at,  rAI, rLI, rJI, nI_add, pk_sub, kc_0, kc_1, kc_2, kc_3, kc_4, kc_5, reduceIte, Nat.reduceEqDiff, Nat.add_zero, rI_hold, rI_hold, rL_hold, hcl, he97]; exact congrArg nI (by omega))) ?_
  refine Bod.baldN (cl - 1) rfl (by omega) (by omega) dc_420_28 (mk_100 _) (Or.inr rfl) ?_
  refine Bod.eqI (nI e100) (by first | assumption | (simp (disch := omega) only [rI, rIe, rA, rIA, rLA, rJA, rVI, rQI, rVA, rQA, upd_at,  rAI, rLI, rJI, nI_add, pk_sub, kc_0, kc_1, kc_2, kc_3, kc_4, kc_5, reduceIte, Nat.reduceEqDiff, Nat.add_zero, rI_hold, rI_hold, rL_hold, hcl, he97, he100]; done) | (simp (disch := omega) only [rI, rIe, rA, rIA, rLA, rJA, rVI, rQI, rVA, rQA, upd_at,  rAI, rLI, rJI, nI_add, pk_sub, kc_0, kc_1, kc_2, kc_3, kc_4, kc_5, reduceIte, Nat.reduceEqDiff, Nat.add_zero, rI_hold, rI_hold, rL_hold, hcl, he97, he100]; exact congrArg nI (by omega))) ?_
  refine Bod.ifT dc_420_29 rfl (k1_eq_T (k_eq e100 0 rfl rfl (by omega))) ?_
  refine Bod.go dc_420_38 rfl ?_
  refine Bod.get dc_420_39 fr_420_493 (mk_61 _) rfl ?_
  refine Bod.eqI (nI t) (by first | assumption | (simp (disch := omega) only [rI, rIe, rA, rIA, rLA, rJA, rVI, rQI, rVA, rQA, upd_at,  rAI, rLI, rJI, nI_add, pk_sub, kc_0, kc_1, kc_2, kc_3, kc_4, kc_5, reduceIte, Nat.reduceEqDiff, Nat.add_zero, rI_hold, rI_hold, rL_hold, hcl, he97, he100, ht]; done) | (simp (disch := omega) only [rI, rIe, rA, rIA, rLA, rJA, rVI, rQI, rVA, rQA, upd_at,  rAI, rLI, rJI, nI_add, pk_sub, kc_0, kc_1, kc_2, kc_3, kc_4, kc_5, reduceIte, Nat.reduceEqDiff, Nat.add_zero, rI_hold, rI_hold, rL_hold, hcl, he97, he100, ht]; exact congrArg nI (by omega))) ?_
  refine Bod.ic 1 (by decide) dc_420_42 ?_
  refine Bod.subN (t - 1) (by omega) (by omega) dc_420_43 ?_
  refine Bod.istn dc_420_44 (by rw [ml_420]; exact Nat.le_of_ble_eq_true rfl) ?_
  refine Bod.go dc_420_45 rfl ?_
  refine Bod.go dc_420_46 rfl ?_
  refine Bod.get dc_420_47 fr_420_599 (mk_61 _) rfl ?_
  refine Bod.go dc_420_50 rfl ?_
  refine Bod.get dc_420_51 fr_420_502 (mk_61 _) rfl ?_
  refine Bod.eqI (nI (cl - 1)) (by first | assumption | (simp (disch := omega) only [rI, rIe, rA, rIA, rLA, rJA, rVI, rQI, rVA, rQA, upd_at,  rAI, rLI, rJI, nI_add, pk_sub, kc_0, kc_1, kc_2, kc_3, kc_4, kc_5, reduceIte, Nat.reduceEqDiff, Nat.add_zero, rI_hold, rI_hold, rL_hold, hcl, he97, he100, ht]; done) | (simp (disch := omega) only [rI, rIe, rA, rIA, rLA, rJA, rVI, rQI, rVA, rQA, upd_at,  rAI, rLI, rJI, nI_add, pk_sub, kc_0, kc_1, kc_2, kc_3, kc_4, kc_5, reduceIte, Nat.reduceEqDiff, Nat.add_zero, rI_hold, rI_hold, rL_hold, hcl, he97, he100, ht]; exact congrArg nI (by omega))) ?_
  refine Bod.ialdN (cl - 1) rfl (by omega) (by omega) dc_420_54 (mk_99 _) ?_
  refine Bod.eqI (nI e99) (by first | assumption | (simp (disch := omega) only [rI, rIe, rA, rIA, rLA, rJA, rVI, rQI, rVA, rQA, upd_at,  rAI, rLI, rJI, nI_add, pk_sub, kc_0, kc_1, kc_2, kc_3, kc_4, kc_5, reduceIte, Nat.reduceEqDiff, Nat.add_zero, rI_hold, rI_hold, rL_hold, hcl, he97, he100, ht, he99]; done) | (simp (disch := omega) only [rI, rIe, rA, rIA, rLA, rJA, rVI, rQI, rVA, rQA, upd_at,  rAI, rLI, rJI, nI_add, pk_sub, kc_0, kc_1, kc_2, kc_3, kc_4, kc_5, reduceIte, Nat.reduceEqDiff, Nat.add_zero, rI_hold, rI_hold, rL_hold, hcl, he97, he100, ht, he99]; exact congrArg nI (by omega))) ?_
  refine Bod.put dc_420_55 fr_420_558 (mk_61 _) (Nat.le_of_ble_eq_true rfl) pf_14_63 (st_6163 _ _) (mu_I _ _ _) ?_
  refine Bod.go dc_420_58 rfl ?_
  refine Bod.go dc_420_59 rfl ?_
  refine Bod.go dc_420_60 rfl ?_
  refine Bod.virt (r := []) dc_420_61 kr_420_672 ⟨Or.inl rfl, ow_391, cl_14⟩ (by rw [np_391]; rfl) (by rw [np_391]; rfl) (ob_of (mk_61 _)) (Nat.le_of_ble_eq_true rfl) (c1  ) ?_
  show Bod _ _ _ _ [] _ _ _
  refine Bod.go dc_420_64 rfl ?_
  refine Bod.go dc_420_65 rfl ?_
  refine Bod.ic 1 (by decide) dc_420_66 ?_
  refine Bod.addN (e97 + 1) (by omega) dc_420_67 ?_
  refine Bod.put dc_420_68 fr_420_493 (mk_61 _) (Nat.le_of_ble_eq_true rfl) pf_14_51 (st_6151 _ _) (mu_I _ _ _) ?_
  refine Bod.ic 1 (by decide) dc_420_71 ?_
  exact Bod.retZ dc_420_72 rt_420 (Or.inr rfl)
theorem rLe_2 {d : Nat} {S : cS} {cl : Nat} {e97 : Nat} {e100 : Nat} {e99 : Nat} {S1 : cS} (hcl : sI S 6159 = nI cl) (mcl : cl < 32) (b1 : 1 ≤ cl) (he97 : sA (wI 6159 (nI (cl - 1)) S) 97 (cl - 1) = nI e97) (me97 : e97 < 2 ^ 20) (he100 : sA (wI 6159 (nI (cl - 1)) S) 100 (cl - 1) = nI e100) (me100 : e100 < 2 ^ 20) (b2 : e100 ≠ 0) (he99 : sA (wI 6159 (nI (cl - 1)) S) 99 (cl - 1) = nI e99) (me99 : e99 < 2 ^ 20) (c1 : Ans (d + 8) 391 [.ref 61, .int (nI (e97 + 1)), .int (nI e97)] (wI 6163 (nI e99) (wI 6159 (nI (cl - 1)) S)) none S1) : Bod (d + 8) 420 0 [(0, .ref 61)] [] S (some (.int 1)) (wI 6151 (nI (e97 + 1)) S1) := by
  refine Bod.go dc_420_0 rfl ?_
  refine Bod.go dc_420_1 rfl ?_
  refine Bod.get dc_420_2 fr_420_502 (mk_61 _) rfl ?_
  refine Bod.eqI (nI cl) (by first | assumption | rfl | exact congrArg nI (by omega) | (simp (disch := omega) only [rI, rIe, rA, rIA, rLA, rJA, rVI, rQI, rVA, rQA, upd_at,  rAI, rLI, rJI, nI_add, pk_sub, kc_0, kc_1, kc_2, kc_3, kc_4, kc_5, reduceIte, Nat.reduceEqDiff, Nat.add_zero, rI_hold, rI_hold, rL_hold, hcl]; done)) ?_
  refine Bod.ic 1 (by decide) dc_420_5 ?_
  refine Bod.subN (cl - 1) (by omega) (by omega) dc_420_6 ?_
  refine Bod.put dc_420_7 fr_420_502 (mk_61 _) (Nat.le_of_ble_eq_true rfl) pf_14_59 (st_6159 _ _) (mu_I _ _ _) ?_
  refine Bod.go dc_420_10 rfl ?_
  refine Bod.get dc_420_11 fr_420_596 (mk_61 _) rfl ?_
  refine Bod.go dc_420_14 rfl ?_
  refine Bod.get dc_420_15 fr_420_502 (mk_61 _) rfl ?_
  refine Bod.eqI (nI (cl - 1)) (by first | assumption | (simp (disch := omega) only [rI, rIe, rA, rIA, rLA, rJA, rVI, rQI, rVA, rQA, upd_at,  rAI, rLI, rJI, nI_add, pk_sub, kc_0, kc_1, kc_2, kc_3, kc_4, kc_5, reduceIte, Nat.reduceEqDiff, Nat.add_zero, rI_hold, rI_hold, rL_hold, hcl]; done) | (simp (disch := omega) only [rI, rIe, rA, rIA, rLA, rJA, rVI, rQI, rVA, rQA, upd_at,  rAI, rLI, rJI, nI_add, pk_sub, kc_0, kc_1, kc_2, kc_3, kc_4, kc_5, reduceIte, Nat.reduceEqDiff, Nat.add_zero, rI_hold, rI_hold, rL_hold, hcl]; exact congrArg nI (by omega))) ?_
  refine Bod.ialdN (cl - 1) rfl (by omega) (by omega) dc_420_18 (mk_97 _) ?_
  refine Bod.eqI (nI e97) (by first | assumption | (simp (disch := omega) only [rI, rIe, rA, rIA, rLA, rJA, rVI, rQI, rVA, rQA, upd_at,  rAI, rLI, rJI, nI_add, pk_sub, kc_0, kc_1, kc_2, kc_3, kc_4, kc_5, reduceIte, Nat.reduceEqDiff, Nat.add_zero, rI_hold, rI_hold, rL_hold, hcl, he97]; done) | (simp (disch := omega) only [rI, rIe, rA, rIA, rLA, rJA, rVI, rQI, rVA, rQA, upd_at,  rAI, rLI, rJI, nI_add, pk_sub, kc_0, kc_1, kc_2, kc_3, kc_4, kc_5, reduceIte, Nat.reduceEqDiff, Nat.add_zero, rI_hold, rI_hold, rL_hold, hcl, he97]; exact congrArg nI (by omega))) ?_
  refine Bod.istn dc_420_19 (by rw [ml_420]; exact Nat.le_of_ble_eq_true rfl) ?_
  refine Bod.go dc_420_20 rfl ?_
  refine Bod.get dc_420_21 fr_420_602 (mk_61 _) rfl ?_
  refine Bod.go dc_420_24 rfl ?_
  refine Bod.get dc_420_25 fr_420_502 (mk_61 _) rfl ?_
  refine Bod.eqI (nI (cl - 1)) (by first | assumption | (simp (disch := omega) only [rI, rIe, rA, rIA, rLA, rJA, rVI, rQI, rVA, rQA, upd_at,  rAI, rLI, rJI, nI_add, pk_sub, kc_0, kc_1, kc_2, kc_3, kc_4, kc_5, reduceIte, Nat.reduceEqDiff, Nat.add_zero, rI_hold, rI_hold, rL_hold, hcl, he97]; done) | (simp (disch := omega) only [rI, rIe, rA, rIA, rLA, rJA, rVI, rQI, rVA, rQA, upd_at,  rAI, rLI, rJI, nI_add, pk_sub, kc_0, kc_1, kc_2, kc_3, kc_4, kc_5, reduceIte, Nat.reduceEqDiff, Nat.add_zero, rI_hold, rI_hold, rL_hold, hcl, he97]; exact congrArg nI (by omega))) ?_
  refine Bod.baldN (cl - 1) rfl (by omega) (by omega) dc_420_28 (mk_100 _) (Or.inr rfl) ?_
  refine Bod.eqI (nI e100) (by first | assumption | (simp (disch := omega) only [rI, rIe, rA, rIA, rLA, rJA, rVI, rQI, rVA, rQA, upd_at,  rAI, rLI, rJI, nI_add, pk_sub, kc_0, kc_1, kc_2, kc_3, kc_4, kc_5, reduceIte, Nat.reduceEqDiff, Nat.add_zero, rI_hold, rI_hold, rL_hold, hcl, he97, he100]; done) | (simp (disch := omega) only [rI, rIe, rA, rIA, rLA, rJA, rVI, rQI, rVA, rQA, upd_at,  rAI, rLI, rJI, nI_add, pk_sub, kc_0, kc_1, kc_2, kc_3, kc_4, kc_5, reduceIte, Nat.reduceEqDiff, Nat.add_zero, rI_hold, rI_hold, rL_hold, hcl, he97, he100]; exact congrArg nI (by omega))) ?_
  refine Bod.ifF dc_420_29 rfl (k1_eq_F (k_ne e100 0 rfl rfl (by omega) (by omega) (by omega))) ?_
  refine Bod.go dc_420_32 rfl ?_
  refine Bod.ic 1 (by decide) dc_420_33 ?_
  refine Bod.addN (e97 + 1) (by omega) dc_420_34 ?_
  refine Bod.go dc_420_35 rfl ?_
  refine Bod.istn dc_420_44 (by rw [ml_420]; exact Nat.le_of_ble_eq_true rfl) ?_
  refine Bod.go dc_420_45 rfl ?_
  refine Bod.go dc_420_46 rfl ?_
  refine Bod.get dc_420_47 fr_420_599 (mk_61 _) rfl ?_
  refine Bod.go dc_420_50 rfl ?_
  refine Bod.get dc_420_51 fr_420_502 (mk_61 _) rfl ?_
  refine Bod.eqI (nI (cl - 1)) (by first | assumption | (simp (disch := omega) only [rI, rIe, rA, rIA, rLA, rJA, rVI, rQI, rVA, rQA, upd_at,  rAI, rLI, rJI, nI_add, pk_sub, kc_0, kc_1, kc_2, kc_3, kc_4, kc_5, reduceIte, Nat.reduceEqDiff, Nat.add_zero, rI_hold, rI_hold, rL_hold, hcl, he97, he100]; done) | (simp (disch := omega) only [rI, rIe, rA, rIA, rLA, rJA, rVI, rQI, rVA, rQA, upd_at,  rAI, rLI, rJI, nI_add, pk_sub, kc_0, kc_1, kc_2, kc_3, kc_4, kc_5, reduceIte, Nat.reduceEqDiff, Nat.add_zero, rI_hold, rI_hold, rL_hold, hcl, he97, he100]; exact congrArg nI (by omega))) ?_
  refine Bod.ialdN (cl - 1) rfl (by omega) (by omega) dc_420_54 (mk_99 _) ?_
  refine Bod.eqI (nI e99) (by first | assumption | (simp (disch := omega) only [rI, rIe, rA, rIA, rLA, rJA, rVI, rQI, rVA, rQA, upd_at,  rAI, rLI, rJI, nI_add, pk_sub, kc_0, kc_1, kc_2, kc_3, kc_4, kc_5, reduceIte, Nat.reduceEqDiff, Nat.add_zero, rI_hold, rI_hold, rL_hold, hcl, he97, he100, he99]; done) | (simp (disch := omega) only [rI, rIe, rA, rIA, rLA, rJA, rVI, rQI, rVA, rQA, upd_at,  rAI, rLI, rJI, nI_add, pk_sub, kc_0, kc_1, kc_2, kc_3, kc_4, kc_5, reduceIte, Nat.reduceEqDiff, Nat.add_zero, rI_hold, rI_hold, rL_hold, hcl, he97, he100, he99]; exact congrArg nI (by omega))) ?_
  refine Bod.put dc_420_55 fr_420_558 (mk_61 _) (Nat.le_of_ble_eq_true rfl) pf_14_63 (st_6163 _ _) (mu_I _ _ _) ?_
  refine Bod.go dc_420_58 rfl ?_
  refine Bod.go dc_420_59 rfl ?_
  refine Bod.go dc_420_60 rfl ?_
  refine Bod.virt (r := []) dc_420_61 kr_420_672 ⟨Or.inl rfl, ow_391, cl_14⟩ (by rw [np_391]; rfl) (by rw [np_391]; rfl) (ob_of (mk_61 _)) (Nat.le_of_ble_eq_true rfl) (c1  ) ?_
  show Bod _ _ _ _ [] _ _ _
  refine Bod.go dc_420_64 rfl ?_
  refine Bod.go dc_420_65 rfl ?_
  refine Bod.ic 1 (by decide) dc_420_66 ?_
  refine Bod.addN (e97 + 1) (by omega) dc_420_67 ?_
  refine Bod.put dc_420_68 fr_420_493 (mk_61 _) (Nat.le_of_ble_eq_true rfl) pf_14_51 (st_6151 _ _) (mu_I _ _ _) ?_
  refine Bod.ic 1 (by decide) dc_420_71 ?_
  exact Bod.retZ dc_420_72 rt_420 (Or.inr rfl)
