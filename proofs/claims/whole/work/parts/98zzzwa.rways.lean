/-! WAYS of the reference's statements: every call is a hypothesis -/
theorem ml_329 : sm_ml 329 = 3 := by decide +kernel
theorem dc_329_0 : decode (sm_cc 329) 0 = .ok (.aload_n 0, 1) := by decide +kernel
theorem dc_329_1 : decode (sm_cc 329) 1 = .ok (.iload_n 1, 1) := by decide +kernel
theorem dc_329_2 : decode (sm_cc 329) 2 = .ok (.iconst 0, 1) := by decide +kernel
theorem dc_329_3 : decode (sm_cc 329) 3 = .ok (.invokevirtual 216, 3) := by decide +kernel
theorem kr_329_216 : sm_at mt_k (sm_ow 329) 216 = some (216, 0, 302, 0, 2465) := by decide +kernel
theorem dc_329_6 : decode (sm_cc 329) 6 = .ok (.aload_n 0, 1) := by decide +kernel
theorem dc_329_7 : decode (sm_cc 329) 7 = .ok (.getfield 206, 3) := by decide +kernel
theorem fr_329_206 : sm_at mt_f (sm_ow 329) 206 = some (206, 14, 14, 0, 2087) := by decide +kernel
theorem dc_329_10 : decode (sm_cc 329) 10 = .ok (.getfield 222, 3) := by decide +kernel
theorem fr_329_222 : sm_at mt_f (sm_ow 329) 222 = some (222, 12, 0, 0, 2409) := by decide +kernel
theorem dc_329_13 : decode (sm_cc 329) 13 = .ok (.aload_n 0, 1) := by decide +kernel
theorem dc_329_14 : decode (sm_cc 329) 14 = .ok (.getfield 206, 3) := by decide +kernel
theorem dc_329_17 : decode (sm_cc 329) 17 = .ok (.getfield 219, 3) := by decide +kernel
theorem fr_329_219 : sm_at mt_f (sm_ow 329) 219 = some (219, 12, 1, 0, 2411) := by decide +kernel
theorem dc_329_20 : decode (sm_cc 329) 20 = .ok (.iconst 1, 1) := by decide +kernel
theorem dc_329_21 : decode (sm_cc 329) 21 = .ok (.isub, 1) := by decide +kernel
theorem dc_329_22 : decode (sm_cc 329) 22 = .ok (.iload_n 2, 1) := by decide +kernel
theorem dc_329_23 : decode (sm_cc 329) 23 = .ok (.aload_n 0, 1) := by decide +kernel
theorem dc_329_24 : decode (sm_cc 329) 24 = .ok (.getfield 206, 3) := by decide +kernel
theorem dc_329_27 : decode (sm_cc 329) 27 = .ok (.getfield 219, 3) := by decide +kernel
theorem dc_329_30 : decode (sm_cc 329) 30 = .ok (.iconst 1, 1) := by decide +kernel
theorem dc_329_31 : decode (sm_cc 329) 31 = .ok (.isub, 1) := by decide +kernel
theorem dc_329_32 : decode (sm_cc 329) 32 = .ok (.isub, 1) := by decide +kernel
theorem dc_329_33 : decode (sm_cc 329) 33 = .ok (.iastore, 1) := by decide +kernel
theorem dc_329_34 : decode (sm_cc 329) 34 = .ok (.return_, 1) := by decide +kernel
theorem rt_329 : sm_rt 329 = none := by decide +kernel
theorem ml_332 : sm_ml 332 = 1 := by decide +kernel
theorem dc_332_0 : decode (sm_cc 332) 0 = .ok (.aload_n 0, 1) := by decide +kernel
theorem dc_332_1 : decode (sm_cc 332) 1 = .ok (.getfield 129, 3) := by decide +kernel
theorem fr_332_129 : sm_at mt_f (sm_ow 332) 129 = some (129, 14, 6, 0, 2079) := by decide +kernel
theorem dc_332_4 : decode (sm_cc 332) 4 = .ok (.aload_n 0, 1) := by decide +kernel
theorem dc_332_5 : decode (sm_cc 332) 5 = .ok (.getfield 190, 3) := by decide +kernel
theorem fr_332_190 : sm_at mt_f (sm_ow 332) 190 = some (190, 14, 15, 0, 2088) := by decide +kernel
theorem dc_332_8 : decode (sm_cc 332) 8 = .ok (.iaload, 1) := by decide +kernel
theorem dc_332_9 : decode (sm_cc 332) 9 = .ok (.bipush (6), 2) := by decide +kernel
theorem dc_332_11 : decode (sm_cc 332) 11 = .ok (.if_icmp .eq (8), 3) := by decide +kernel
theorem dc_332_19 : decode (sm_cc 332) 19 = .ok (.aload_n 0, 1) := by decide +kernel
theorem dc_332_20 : decode (sm_cc 332) 20 = .ok (.dup, 1) := by decide +kernel
theorem dc_332_21 : decode (sm_cc 332) 21 = .ok (.getfield 190, 3) := by decide +kernel
theorem dc_332_24 : decode (sm_cc 332) 24 = .ok (.iconst 1, 1) := by decide +kernel
theorem dc_332_25 : decode (sm_cc 332) 25 = .ok (.iadd, 1) := by decide +kernel
theorem dc_332_26 : decode (sm_cc 332) 26 = .ok (.putfield 190, 3) := by decide +kernel
theorem dc_332_29 : decode (sm_cc 332) 29 = .ok (.iconst 1, 1) := by decide +kernel
theorem dc_332_30 : decode (sm_cc 332) 30 = .ok (.ireturn, 1) := by decide +kernel
theorem rt_332 : sm_rt 332 = some .boolean := by decide +kernel
theorem dc_332_14 : decode (sm_cc 332) 14 = .ok (.aload_n 0, 1) := by decide +kernel
theorem dc_332_15 : decode (sm_cc 332) 15 = .ok (.invokevirtual 202, 3) := by decide +kernel
theorem kr_332_202 : sm_at mt_k (sm_ow 332) 202 = some (202, 0, 299, 0, 2454) := by decide +kernel
theorem dc_332_18 : decode (sm_cc 332) 18 = .ok (.ireturn, 1) := by decide +kernel
theorem ml_343 : sm_ml 343 = 2 := by decide +kernel
theorem dc_343_0 : decode (sm_cc 343) 0 = .ok (.aload_n 0, 1) := by decide +kernel
theorem dc_343_1 : decode (sm_cc 343) 1 = .ok (.getfield 320, 3) := by decide +kernel
theorem fr_343_320 : sm_at mt_f (sm_ow 343) 320 = some (320, 14, 24, 0, 2097) := by decide +kernel
theorem dc_343_4 : decode (sm_cc 343) 4 = .ok (.aload_n 0, 1) := by decide +kernel
theorem dc_343_5 : decode (sm_cc 343) 5 = .ok (.getfield 242, 3) := by decide +kernel
theorem fr_343_242 : sm_at mt_f (sm_ow 343) 242 = some (242, 14, 26, 0, 2099) := by decide +kernel
theorem dc_343_8 : decode (sm_cc 343) 8 = .ok (.iload_n 1, 1) := by decide +kernel
theorem dc_343_9 : decode (sm_cc 343) 9 = .ok (.iastore, 1) := by decide +kernel
theorem dc_343_10 : decode (sm_cc 343) 10 = .ok (.aload_n 0, 1) := by decide +kernel
theorem dc_343_11 : decode (sm_cc 343) 11 = .ok (.getfield 323, 3) := by decide +kernel
theorem fr_343_323 : sm_at mt_f (sm_ow 343) 323 = some (323, 14, 25, 0, 2098) := by decide +kernel
theorem dc_343_14 : decode (sm_cc 343) 14 = .ok (.aload_n 0, 1) := by decide +kernel
theorem dc_343_15 : decode (sm_cc 343) 15 = .ok (.getfield 242, 3) := by decide +kernel
theorem dc_343_18 : decode (sm_cc 343) 18 = .ok (.aload_n 0, 1) := by decide +kernel
theorem dc_343_19 : decode (sm_cc 343) 19 = .ok (.getfield 245, 3) := by decide +kernel
theorem fr_343_245 : sm_at mt_f (sm_ow 343) 245 = some (245, 14, 27, 0, 2100) := by decide +kernel
theorem dc_343_22 : decode (sm_cc 343) 22 = .ok (.iastore, 1) := by decide +kernel
theorem dc_343_23 : decode (sm_cc 343) 23 = .ok (.aload_n 0, 1) := by decide +kernel
theorem dc_343_24 : decode (sm_cc 343) 24 = .ok (.dup, 1) := by decide +kernel
theorem dc_343_25 : decode (sm_cc 343) 25 = .ok (.getfield 242, 3) := by decide +kernel
theorem dc_343_28 : decode (sm_cc 343) 28 = .ok (.iconst 1, 1) := by decide +kernel
theorem dc_343_29 : decode (sm_cc 343) 29 = .ok (.iadd, 1) := by decide +kernel
theorem dc_343_30 : decode (sm_cc 343) 30 = .ok (.putfield 242, 3) := by decide +kernel
theorem dc_343_33 : decode (sm_cc 343) 33 = .ok (.return_, 1) := by decide +kernel
theorem rt_343 : sm_rt 343 = none := by decide +kernel
theorem ml_344 : sm_ml 344 = 3 := by decide +kernel
theorem dc_344_0 : decode (sm_cc 344) 0 = .ok (.aload_n 0, 1) := by decide +kernel
theorem dc_344_1 : decode (sm_cc 344) 1 = .ok (.dup, 1) := by decide +kernel
theorem dc_344_2 : decode (sm_cc 344) 2 = .ok (.getfield 242, 3) := by decide +kernel
theorem fr_344_242 : sm_at mt_f (sm_ow 344) 242 = some (242, 14, 26, 0, 2099) := by decide +kernel
theorem dc_344_5 : decode (sm_cc 344) 5 = .ok (.iconst 1, 1) := by decide +kernel
theorem dc_344_6 : decode (sm_cc 344) 6 = .ok (.isub, 1) := by decide +kernel
theorem dc_344_7 : decode (sm_cc 344) 7 = .ok (.putfield 242, 3) := by decide +kernel
theorem dc_344_10 : decode (sm_cc 344) 10 = .ok (.iconst 0, 1) := by decide +kernel
theorem dc_344_11 : decode (sm_cc 344) 11 = .ok (.istore_n 1, 1) := by decide +kernel
theorem dc_344_12 : decode (sm_cc 344) 12 = .ok (.iconst 0, 1) := by decide +kernel
theorem dc_344_13 : decode (sm_cc 344) 13 = .ok (.istore_n 2, 1) := by decide +kernel
theorem dc_344_14 : decode (sm_cc 344) 14 = .ok (.iload_n 2, 1) := by decide +kernel
theorem dc_344_15 : decode (sm_cc 344) 15 = .ok (.aload_n 0, 1) := by decide +kernel
theorem dc_344_16 : decode (sm_cc 344) 16 = .ok (.getfield 248, 3) := by decide +kernel
theorem fr_344_248 : sm_at mt_f (sm_ow 344) 248 = some (248, 14, 30, 0, 2103) := by decide +kernel
theorem dc_344_19 : decode (sm_cc 344) 19 = .ok (.if_icmp .ge (62), 3) := by decide +kernel
theorem dc_344_81 : decode (sm_cc 344) 81 = .ok (.aload_n 0, 1) := by decide +kernel
theorem dc_344_82 : decode (sm_cc 344) 82 = .ok (.iload_n 1, 1) := by decide +kernel
theorem dc_344_83 : decode (sm_cc 344) 83 = .ok (.putfield 248, 3) := by decide +kernel
theorem dc_344_86 : decode (sm_cc 344) 86 = .ok (.return_, 1) := by decide +kernel
theorem rt_344 : sm_rt 344 = none := by decide +kernel
theorem dc_344_22 : decode (sm_cc 344) 22 = .ok (.aload_n 0, 1) := by decide +kernel
theorem dc_344_23 : decode (sm_cc 344) 23 = .ok (.getfield 326, 3) := by decide +kernel
theorem fr_344_326 : sm_at mt_f (sm_ow 344) 326 = some (326, 14, 29, 0, 2102) := by decide +kernel
theorem dc_344_26 : decode (sm_cc 344) 26 = .ok (.iload_n 2, 1) := by decide +kernel
theorem dc_344_27 : decode (sm_cc 344) 27 = .ok (.iaload, 1) := by decide +kernel
theorem dc_344_28 : decode (sm_cc 344) 28 = .ok (.aload_n 0, 1) := by decide +kernel
theorem dc_344_29 : decode (sm_cc 344) 29 = .ok (.getfield 242, 3) := by decide +kernel
theorem dc_344_32 : decode (sm_cc 344) 32 = .ok (.if_icmp .ne (16), 3) := by decide +kernel
theorem dc_344_48 : decode (sm_cc 344) 48 = .ok (.aload_n 0, 1) := by decide +kernel
theorem dc_344_49 : decode (sm_cc 344) 49 = .ok (.getfield 329, 3) := by decide +kernel
theorem fr_344_329 : sm_at mt_f (sm_ow 344) 329 = some (329, 14, 28, 0, 2101) := by decide +kernel
theorem dc_344_52 : decode (sm_cc 344) 52 = .ok (.iload_n 1, 1) := by decide +kernel
theorem dc_344_53 : decode (sm_cc 344) 53 = .ok (.aload_n 0, 1) := by decide +kernel
theorem dc_344_54 : decode (sm_cc 344) 54 = .ok (.getfield 329, 3) := by decide +kernel
theorem dc_344_57 : decode (sm_cc 344) 57 = .ok (.iload_n 2, 1) := by decide +kernel
theorem dc_344_58 : decode (sm_cc 344) 58 = .ok (.iaload, 1) := by decide +kernel
theorem dc_344_59 : decode (sm_cc 344) 59 = .ok (.iastore, 1) := by decide +kernel
theorem dc_344_60 : decode (sm_cc 344) 60 = .ok (.aload_n 0, 1) := by decide +kernel
theorem dc_344_61 : decode (sm_cc 344) 61 = .ok (.getfield 326, 3) := by decide +kernel
theorem dc_344_64 : decode (sm_cc 344) 64 = .ok (.iload_n 1, 1) := by decide +kernel
theorem dc_344_65 : decode (sm_cc 344) 65 = .ok (.aload_n 0, 1) := by decide +kernel
theorem dc_344_66 : decode (sm_cc 344) 66 = .ok (.getfield 326, 3) := by decide +kernel
theorem dc_344_69 : decode (sm_cc 344) 69 = .ok (.iload_n 2, 1) := by decide +kernel
theorem dc_344_70 : decode (sm_cc 344) 70 = .ok (.iaload, 1) := by decide +kernel
theorem dc_344_71 : decode (sm_cc 344) 71 = .ok (.iastore, 1) := by decide +kernel
theorem dc_344_72 : decode (sm_cc 344) 72 = .ok (.iinc 1 (1), 3) := by decide +kernel
theorem dc_344_75 : decode (sm_cc 344) 75 = .ok (.iinc 2 (1), 3) := by decide +kernel
theorem dc_344_78 : decode (sm_cc 344) 78 = .ok (.goto (-64), 3) := by decide +kernel
theorem dc_344_35 : decode (sm_cc 344) 35 = .ok (.aload_n 0, 1) := by decide +kernel
theorem dc_344_36 : decode (sm_cc 344) 36 = .ok (.aload_n 0, 1) := by decide +kernel
theorem dc_344_37 : decode (sm_cc 344) 37 = .ok (.getfield 329, 3) := by decide +kernel
theorem dc_344_40 : decode (sm_cc 344) 40 = .ok (.iload_n 2, 1) := by decide +kernel
theorem dc_344_41 : decode (sm_cc 344) 41 = .ok (.iaload, 1) := by decide +kernel
theorem dc_344_42 : decode (sm_cc 344) 42 = .ok (.invokevirtual 317, 3) := by decide +kernel
theorem kr_344_317 : sm_at mt_k (sm_ow 344) 317 = some (317, 0, 326, 0, 2563) := by decide +kernel
theorem dc_344_45 : decode (sm_cc 344) 45 = .ok (.goto (30), 3) := by decide +kernel
theorem ml_301 : sm_ml 301 = 3 := by decide +kernel
theorem dc_301_0 : decode (sm_cc 301) 0 = .ok (.aload_n 0, 1) := by decide +kernel
theorem dc_301_1 : decode (sm_cc 301) 1 = .ok (.getfield 138, 3) := by decide +kernel
theorem fr_301_138 : sm_at mt_f (sm_ow 301) 138 = some (138, 14, 8, 0, 2081) := by decide +kernel
theorem dc_301_4 : decode (sm_cc 301) 4 = .ok (.aload_n 0, 1) := by decide +kernel
theorem dc_301_5 : decode (sm_cc 301) 5 = .ok (.getfield 190, 3) := by decide +kernel
theorem fr_301_190 : sm_at mt_f (sm_ow 301) 190 = some (190, 14, 15, 0, 2088) := by decide +kernel
theorem dc_301_8 : decode (sm_cc 301) 8 = .ok (.iaload, 1) := by decide +kernel
theorem dc_301_9 : decode (sm_cc 301) 9 = .ok (.istore_n 1, 1) := by decide +kernel
theorem dc_301_10 : decode (sm_cc 301) 10 = .ok (.aload_n 0, 1) := by decide +kernel
theorem dc_301_11 : decode (sm_cc 301) 11 = .ok (.getfield 141, 3) := by decide +kernel
theorem fr_301_141 : sm_at mt_f (sm_ow 301) 141 = some (141, 14, 9, 0, 2082) := by decide +kernel
theorem dc_301_14 : decode (sm_cc 301) 14 = .ok (.aload_n 0, 1) := by decide +kernel
theorem dc_301_15 : decode (sm_cc 301) 15 = .ok (.getfield 190, 3) := by decide +kernel
theorem dc_301_18 : decode (sm_cc 301) 18 = .ok (.iaload, 1) := by decide +kernel
theorem dc_301_19 : decode (sm_cc 301) 19 = .ok (.istore_n 2, 1) := by decide +kernel
theorem dc_301_20 : decode (sm_cc 301) 20 = .ok (.aload_n 0, 1) := by decide +kernel
theorem dc_301_21 : decode (sm_cc 301) 21 = .ok (.iconst 0, 1) := by decide +kernel
theorem dc_301_22 : decode (sm_cc 301) 22 = .ok (.iload_n 1, 1) := by decide +kernel
theorem dc_301_23 : decode (sm_cc 301) 23 = .ok (.invokevirtual 216, 3) := by decide +kernel
theorem kr_301_216 : sm_at mt_k (sm_ow 301) 216 = some (216, 0, 302, 0, 2465) := by decide +kernel
theorem dc_301_26 : decode (sm_cc 301) 26 = .ok (.aload_n 0, 1) := by decide +kernel
theorem dc_301_27 : decode (sm_cc 301) 27 = .ok (.getfield 129, 3) := by decide +kernel
theorem fr_301_129 : sm_at mt_f (sm_ow 301) 129 = some (129, 14, 6, 0, 2079) := by decide +kernel
theorem dc_301_30 : decode (sm_cc 301) 30 = .ok (.aload_n 0, 1) := by decide +kernel
theorem dc_301_31 : decode (sm_cc 301) 31 = .ok (.getfield 190, 3) := by decide +kernel
theorem dc_301_34 : decode (sm_cc 301) 34 = .ok (.iaload, 1) := by decide +kernel
theorem dc_301_35 : decode (sm_cc 301) 35 = .ok (.iconst 2, 1) := by decide +kernel
theorem dc_301_36 : decode (sm_cc 301) 36 = .ok (.if_icmp .eq (23), 3) := by decide +kernel
theorem dc_301_59 : decode (sm_cc 301) 59 = .ok (.aload_n 0, 1) := by decide +kernel
theorem dc_301_60 : decode (sm_cc 301) 60 = .ok (.getfield 135, 3) := by decide +kernel
theorem fr_301_135 : sm_at mt_f (sm_ow 301) 135 = some (135, 14, 7, 0, 2080) := by decide +kernel
theorem dc_301_63 : decode (sm_cc 301) 63 = .ok (.aload_n 0, 1) := by decide +kernel
theorem dc_301_64 : decode (sm_cc 301) 64 = .ok (.getfield 190, 3) := by decide +kernel
theorem dc_301_67 : decode (sm_cc 301) 67 = .ok (.iaload, 1) := by decide +kernel
theorem dc_301_68 : decode (sm_cc 301) 68 = .ok (.tableswitch (115) 0 14 #[76, 115, 115, 82, 89, 115, 96, 103, 115, 115, 115, 115, 115, 115, 109], 76) := by decide +kernel
theorem dc_301_144 : decode (sm_cc 301) 144 = .ok (.aload_n 0, 1) := by decide +kernel
theorem dc_301_145 : decode (sm_cc 301) 145 = .ok (.iload_n 2, 1) := by decide +kernel
theorem dc_301_146 : decode (sm_cc 301) 146 = .ok (.invokevirtual 282, 3) := by decide +kernel
theorem ow_333 : 14 = sm_ow 333 := by decide +kernel
theorem kr_301_282 : sm_at mt_k (sm_ow 301) 282 = some (282, 0, 333, 0, 2591) := by decide +kernel
theorem np_333 : sm_np 333 = 1 := by decide +kernel
theorem dc_301_149 : decode (sm_cc 301) 149 = .ok (.ireturn, 1) := by decide +kernel
theorem rt_301 : sm_rt 301 = some .boolean := by decide +kernel
theorem dc_301_150 : decode (sm_cc 301) 150 = .ok (.aload_n 0, 1) := by decide +kernel
theorem dc_301_151 : decode (sm_cc 301) 151 = .ok (.iload_n 2, 1) := by decide +kernel
theorem dc_301_152 : decode (sm_cc 301) 152 = .ok (.iload_n 1, 1) := by decide +kernel
theorem dc_301_153 : decode (sm_cc 301) 153 = .ok (.invokevirtual 285, 3) := by decide +kernel
theorem ow_342 : 14 = sm_ow 342 := by decide +kernel
theorem kr_301_285 : sm_at mt_k (sm_ow 301) 285 = some (285, 0, 342, 0, 2627) := by decide +kernel
theorem np_342 : sm_np 342 = 2 := by decide +kernel
theorem dc_301_156 : decode (sm_cc 301) 156 = .ok (.ireturn, 1) := by decide +kernel
theorem dc_301_157 : decode (sm_cc 301) 157 = .ok (.aload_n 0, 1) := by decide +kernel
theorem dc_301_158 : decode (sm_cc 301) 158 = .ok (.iload_n 2, 1) := by decide +kernel
theorem dc_301_159 : decode (sm_cc 301) 159 = .ok (.iload_n 1, 1) := by decide +kernel
theorem dc_301_160 : decode (sm_cc 301) 160 = .ok (.invokevirtual 289, 3) := by decide +kernel
theorem ow_345 : 14 = sm_ow 345 := by decide +kernel
theorem kr_301_289 : sm_at mt_k (sm_ow 301) 289 = some (289, 0, 345, 0, 2639) := by decide +kernel
theorem np_345 : sm_np 345 = 2 := by decide +kernel
theorem dc_301_163 : decode (sm_cc 301) 163 = .ok (.ireturn, 1) := by decide +kernel
theorem dc_301_164 : decode (sm_cc 301) 164 = .ok (.aload_n 0, 1) := by decide +kernel
theorem dc_301_165 : decode (sm_cc 301) 165 = .ok (.iload_n 2, 1) := by decide +kernel
theorem dc_301_166 : decode (sm_cc 301) 166 = .ok (.iconst 1, 1) := by decide +kernel
theorem dc_301_167 : decode (sm_cc 301) 167 = .ok (.invokevirtual 292, 3) := by decide +kernel
theorem ow_336 : 14 = sm_ow 336 := by decide +kernel
theorem kr_301_292 : sm_at mt_k (sm_ow 301) 292 = some (292, 0, 336, 0, 2603) := by decide +kernel
theorem np_336 : sm_np 336 = 2 := by decide +kernel
theorem dc_301_170 : decode (sm_cc 301) 170 = .ok (.ireturn, 1) := by decide +kernel
theorem dc_301_171 : decode (sm_cc 301) 171 = .ok (.aload_n 0, 1) := by decide +kernel
theorem dc_301_172 : decode (sm_cc 301) 172 = .ok (.iload_n 2, 1) := by decide +kernel
theorem dc_301_173 : decode (sm_cc 301) 173 = .ok (.invokevirtual 296, 3) := by decide +kernel
theorem ow_346 : 14 = sm_ow 346 := by decide +kernel
theorem kr_301_296 : sm_at mt_k (sm_ow 301) 296 = some (296, 0, 346, 0, 2643) := by decide +kernel
theorem np_346 : sm_np 346 = 1 := by decide +kernel
theorem dc_301_176 : decode (sm_cc 301) 176 = .ok (.ireturn, 1) := by decide +kernel
theorem dc_301_177 : decode (sm_cc 301) 177 = .ok (.aload_n 0, 1) := by decide +kernel
theorem dc_301_178 : decode (sm_cc 301) 178 = .ok (.iload_n 2, 1) := by decide +kernel
theorem dc_301_179 : decode (sm_cc 301) 179 = .ok (.invokevirtual 299, 3) := by decide +kernel
theorem ow_347 : 14 = sm_ow 347 := by decide +kernel
theorem kr_301_299 : sm_at mt_k (sm_ow 301) 299 = some (299, 0, 347, 0, 2648) := by decide +kernel
theorem np_347 : sm_np 347 = 1 := by decide +kernel
theorem dc_301_182 : decode (sm_cc 301) 182 = .ok (.ireturn, 1) := by decide +kernel
theorem dc_301_183 : decode (sm_cc 301) 183 = .ok (.aload_n 0, 1) := by decide +kernel
theorem dc_301_184 : decode (sm_cc 301) 184 = .ok (.invokevirtual 279, 3) := by decide +kernel
theorem ow_304 : 14 = sm_ow 304 := by decide +kernel
theorem kr_301_279 : sm_at mt_k (sm_ow 301) 279 = some (279, 0, 304, 0, 2474) := by decide +kernel
theorem np_304 : sm_np 304 = 0 := by decide +kernel
theorem dc_301_187 : decode (sm_cc 301) 187 = .ok (.ifCond .eq (14), 3) := by decide +kernel
theorem dc_301_190 : decode (sm_cc 301) 190 = .ok (.aload_n 0, 1) := by decide +kernel
theorem dc_301_191 : decode (sm_cc 301) 191 = .ok (.invokevirtual 273, 3) := by decide +kernel
theorem ow_332 : 14 = sm_ow 332 := by decide +kernel
theorem kr_301_273 : sm_at mt_k (sm_ow 301) 273 = some (273, 0, 332, 0, 2587) := by decide +kernel
theorem np_332 : sm_np 332 = 0 := by decide +kernel
theorem dc_301_194 : decode (sm_cc 301) 194 = .ok (.ifCond .eq (7), 3) := by decide +kernel
theorem dc_301_197 : decode (sm_cc 301) 197 = .ok (.iconst 1, 1) := by decide +kernel
theorem dc_301_198 : decode (sm_cc 301) 198 = .ok (.goto (4), 3) := by decide +kernel
theorem dc_301_202 : decode (sm_cc 301) 202 = .ok (.ireturn, 1) := by decide +kernel
theorem dc_301_201 : decode (sm_cc 301) 201 = .ok (.iconst 0, 1) := by decide +kernel
theorem dc_301_39 : decode (sm_cc 301) 39 = .ok (.aload_n 0, 1) := by decide +kernel
theorem dc_301_40 : decode (sm_cc 301) 40 = .ok (.invokevirtual 279, 3) := by decide +kernel
theorem dc_301_43 : decode (sm_cc 301) 43 = .ok (.ifCond .eq (14), 3) := by decide +kernel
theorem dc_301_46 : decode (sm_cc 301) 46 = .ok (.aload_n 0, 1) := by decide +kernel
theorem dc_301_47 : decode (sm_cc 301) 47 = .ok (.invokevirtual 273, 3) := by decide +kernel
theorem dc_301_50 : decode (sm_cc 301) 50 = .ok (.ifCond .eq (7), 3) := by decide +kernel
theorem dc_301_53 : decode (sm_cc 301) 53 = .ok (.iconst 1, 1) := by decide +kernel
theorem dc_301_54 : decode (sm_cc 301) 54 = .ok (.goto (4), 3) := by decide +kernel
theorem dc_301_58 : decode (sm_cc 301) 58 = .ok (.ireturn, 1) := by decide +kernel
theorem dc_301_57 : decode (sm_cc 301) 57 = .ok (.iconst 0, 1) := by decide +kernel
theorem ml_304 : sm_ml 304 = 3 := by decide +kernel
theorem dc_304_0 : decode (sm_cc 304) 0 = .ok (.aload_n 0, 1) := by decide +kernel
theorem dc_304_1 : decode (sm_cc 304) 1 = .ok (.getfield 129, 3) := by decide +kernel
theorem fr_304_129 : sm_at mt_f (sm_ow 304) 129 = some (129, 14, 6, 0, 2079) := by decide +kernel
theorem dc_304_4 : decode (sm_cc 304) 4 = .ok (.aload_n 0, 1) := by decide +kernel
theorem dc_304_5 : decode (sm_cc 304) 5 = .ok (.getfield 190, 3) := by decide +kernel
theorem fr_304_190 : sm_at mt_f (sm_ow 304) 190 = some (190, 14, 15, 0, 2088) := by decide +kernel
theorem dc_304_8 : decode (sm_cc 304) 8 = .ok (.iaload, 1) := by decide +kernel
theorem dc_304_9 : decode (sm_cc 304) 9 = .ok (.iconst 2, 1) := by decide +kernel
theorem dc_304_10 : decode (sm_cc 304) 10 = .ok (.if_icmp .eq (8), 3) := by decide +kernel
theorem dc_304_18 : decode (sm_cc 304) 18 = .ok (.aload_n 0, 1) := by decide +kernel
theorem dc_304_19 : decode (sm_cc 304) 19 = .ok (.getfield 135, 3) := by decide +kernel
theorem fr_304_135 : sm_at mt_f (sm_ow 304) 135 = some (135, 14, 7, 0, 2080) := by decide +kernel
theorem dc_304_22 : decode (sm_cc 304) 22 = .ok (.aload_n 0, 1) := by decide +kernel
theorem dc_304_23 : decode (sm_cc 304) 23 = .ok (.getfield 190, 3) := by decide +kernel
theorem dc_304_26 : decode (sm_cc 304) 26 = .ok (.iaload, 1) := by decide +kernel
theorem dc_304_27 : decode (sm_cc 304) 27 = .ok (.istore_n 1, 1) := by decide +kernel
theorem dc_304_28 : decode (sm_cc 304) 28 = .ok (.iload_n 1, 1) := by decide +kernel
theorem dc_304_29 : decode (sm_cc 304) 29 = .ok (.tableswitch (377) 8 23 #[96, 186, 186, 79, 91, 367, 377, 377, 158, 377, 377, 372, 377, 372, 372, 372], 79) := by decide +kernel
theorem dc_304_125 : decode (sm_cc 304) 125 = .ok (.aload_n 0, 1) := by decide +kernel
theorem dc_304_126 : decode (sm_cc 304) 126 = .ok (.getfield 236, 3) := by decide +kernel
theorem fr_304_236 : sm_at mt_f (sm_ow 304) 236 = some (236, 14, 22, 0, 2095) := by decide +kernel
theorem dc_304_129 : decode (sm_cc 304) 129 = .ok (.ifCond .ne (8), 3) := by decide +kernel
theorem dc_304_137 : decode (sm_cc 304) 137 = .ok (.aload_n 0, 1) := by decide +kernel
theorem dc_304_138 : decode (sm_cc 304) 138 = .ok (.dup, 1) := by decide +kernel
theorem dc_304_139 : decode (sm_cc 304) 139 = .ok (.getfield 190, 3) := by decide +kernel
theorem dc_304_142 : decode (sm_cc 304) 142 = .ok (.iconst 1, 1) := by decide +kernel
theorem dc_304_143 : decode (sm_cc 304) 143 = .ok (.iadd, 1) := by decide +kernel
theorem dc_304_144 : decode (sm_cc 304) 144 = .ok (.putfield 190, 3) := by decide +kernel
theorem dc_304_147 : decode (sm_cc 304) 147 = .ok (.aload_n 0, 1) := by decide +kernel
theorem dc_304_148 : decode (sm_cc 304) 148 = .ok (.getfield 129, 3) := by decide +kernel
theorem dc_304_151 : decode (sm_cc 304) 151 = .ok (.aload_n 0, 1) := by decide +kernel
theorem dc_304_152 : decode (sm_cc 304) 152 = .ok (.getfield 190, 3) := by decide +kernel
theorem dc_304_155 : decode (sm_cc 304) 155 = .ok (.iaload, 1) := by decide +kernel
theorem dc_304_156 : decode (sm_cc 304) 156 = .ok (.bipush (6), 2) := by decide +kernel
theorem dc_304_158 : decode (sm_cc 304) 158 = .ok (.if_icmp .ne (11), 3) := by decide +kernel
theorem dc_304_169 : decode (sm_cc 304) 169 = .ok (.aload_n 0, 1) := by decide +kernel
theorem dc_304_170 : decode (sm_cc 304) 170 = .ok (.iconst 0, 1) := by decide +kernel
theorem dc_304_171 : decode (sm_cc 304) 171 = .ok (.invokevirtual 302, 3) := by decide +kernel
theorem kr_304_302 : sm_at mt_k (sm_ow 304) 302 = some (302, 0, 306, 0, 2482) := by decide +kernel
theorem dc_304_174 : decode (sm_cc 304) 174 = .ok (.ifCond .ne (5), 3) := by decide +kernel
theorem dc_304_179 : decode (sm_cc 304) 179 = .ok (.aload_n 0, 1) := by decide +kernel
theorem dc_304_180 : decode (sm_cc 304) 180 = .ok (.bipush (29), 2) := by decide +kernel
theorem dc_304_182 : decode (sm_cc 304) 182 = .ok (.invokevirtual 269, 3) := by decide +kernel
theorem kr_304_269 : sm_at mt_k (sm_ow 304) 269 = some (269, 0, 322, 0, 2547) := by decide +kernel
theorem dc_304_185 : decode (sm_cc 304) 185 = .ok (.iconst 1, 1) := by decide +kernel
theorem dc_304_186 : decode (sm_cc 304) 186 = .ok (.ireturn, 1) := by decide +kernel
theorem rt_304 : sm_rt 304 = some .boolean := by decide +kernel
theorem dc_304_177 : decode (sm_cc 304) 177 = .ok (.iconst 0, 1) := by decide +kernel
theorem dc_304_178 : decode (sm_cc 304) 178 = .ok (.ireturn, 1) := by decide +kernel
theorem dc_304_161 : decode (sm_cc 304) 161 = .ok (.aload_n 0, 1) := by decide +kernel
theorem dc_304_162 : decode (sm_cc 304) 162 = .ok (.iconst 1, 1) := by decide +kernel
theorem dc_304_163 : decode (sm_cc 304) 163 = .ok (.invokevirtual 269, 3) := by decide +kernel
theorem dc_304_166 : decode (sm_cc 304) 166 = .ok (.goto (13), 3) := by decide +kernel
theorem dc_304_132 : decode (sm_cc 304) 132 = .ok (.aload_n 0, 1) := by decide +kernel
theorem dc_304_133 : decode (sm_cc 304) 133 = .ok (.invokevirtual 202, 3) := by decide +kernel
theorem kr_304_202 : sm_at mt_k (sm_ow 304) 202 = some (202, 0, 299, 0, 2454) := by decide +kernel
theorem dc_304_136 : decode (sm_cc 304) 136 = .ok (.ireturn, 1) := by decide +kernel
theorem dc_304_215 : decode (sm_cc 304) 215 = .ok (.aload_n 0, 1) := by decide +kernel
theorem dc_304_216 : decode (sm_cc 304) 216 = .ok (.getfield 242, 3) := by decide +kernel
theorem fr_304_242 : sm_at mt_f (sm_ow 304) 242 = some (242, 14, 26, 0, 2099) := by decide +kernel
theorem dc_304_219 : decode (sm_cc 304) 219 = .ok (.ifCond .eq (17), 3) := by decide +kernel
theorem dc_304_236 : decode (sm_cc 304) 236 = .ok (.aload_n 0, 1) := by decide +kernel
theorem dc_304_237 : decode (sm_cc 304) 237 = .ok (.invokevirtual 202, 3) := by decide +kernel
theorem dc_304_240 : decode (sm_cc 304) 240 = .ok (.ireturn, 1) := by decide +kernel
theorem dc_304_222 : decode (sm_cc 304) 222 = .ok (.aload_n 0, 1) := by decide +kernel
theorem dc_304_223 : decode (sm_cc 304) 223 = .ok (.getfield 320, 3) := by decide +kernel
theorem fr_304_320 : sm_at mt_f (sm_ow 304) 320 = some (320, 14, 24, 0, 2097) := by decide +kernel
theorem dc_304_226 : decode (sm_cc 304) 226 = .ok (.aload_n 0, 1) := by decide +kernel
theorem dc_304_227 : decode (sm_cc 304) 227 = .ok (.getfield 242, 3) := by decide +kernel
theorem dc_304_230 : decode (sm_cc 304) 230 = .ok (.iconst 1, 1) := by decide +kernel
theorem dc_304_231 : decode (sm_cc 304) 231 = .ok (.isub, 1) := by decide +kernel
theorem dc_304_232 : decode (sm_cc 304) 232 = .ok (.iaload, 1) := by decide +kernel
theorem dc_304_233 : decode (sm_cc 304) 233 = .ok (.ifCond .ge (8), 3) := by decide +kernel
theorem dc_304_241 : decode (sm_cc 304) 241 = .ok (.aload_n 0, 1) := by decide +kernel
theorem dc_304_242 : decode (sm_cc 304) 242 = .ok (.dup, 1) := by decide +kernel
theorem dc_304_243 : decode (sm_cc 304) 243 = .ok (.getfield 190, 3) := by decide +kernel
theorem dc_304_246 : decode (sm_cc 304) 246 = .ok (.iconst 1, 1) := by decide +kernel
theorem dc_304_247 : decode (sm_cc 304) 247 = .ok (.iadd, 1) := by decide +kernel
theorem dc_304_248 : decode (sm_cc 304) 248 = .ok (.putfield 190, 3) := by decide +kernel
theorem dc_304_251 : decode (sm_cc 304) 251 = .ok (.aload_n 0, 1) := by decide +kernel
theorem dc_304_252 : decode (sm_cc 304) 252 = .ok (.getfield 323, 3) := by decide +kernel
theorem fr_304_323 : sm_at mt_f (sm_ow 304) 323 = some (323, 14, 25, 0, 2098) := by decide +kernel
theorem dc_304_255 : decode (sm_cc 304) 255 = .ok (.aload_n 0, 1) := by decide +kernel
theorem dc_304_256 : decode (sm_cc 304) 256 = .ok (.getfield 242, 3) := by decide +kernel
theorem dc_304_259 : decode (sm_cc 304) 259 = .ok (.iconst 1, 1) := by decide +kernel
theorem dc_304_260 : decode (sm_cc 304) 260 = .ok (.isub, 1) := by decide +kernel
theorem dc_304_261 : decode (sm_cc 304) 261 = .ok (.iaload, 1) := by decide +kernel
theorem dc_304_262 : decode (sm_cc 304) 262 = .ok (.istore_n 2, 1) := by decide +kernel
theorem dc_304_108 : decode (sm_cc 304) 108 = .ok (.aload_n 0, 1) := by decide +kernel
theorem dc_304_109 : decode (sm_cc 304) 109 = .ok (.dup, 1) := by decide +kernel
theorem dc_304_110 : decode (sm_cc 304) 110 = .ok (.getfield 190, 3) := by decide +kernel
theorem dc_304_113 : decode (sm_cc 304) 113 = .ok (.iconst 1, 1) := by decide +kernel
theorem dc_304_114 : decode (sm_cc 304) 114 = .ok (.iadd, 1) := by decide +kernel
theorem dc_304_115 : decode (sm_cc 304) 115 = .ok (.putfield 190, 3) := by decide +kernel
theorem dc_304_118 : decode (sm_cc 304) 118 = .ok (.iconst 1, 1) := by decide +kernel
theorem dc_304_119 : decode (sm_cc 304) 119 = .ok (.ireturn, 1) := by decide +kernel
theorem dc_304_120 : decode (sm_cc 304) 120 = .ok (.aload_n 0, 1) := by decide +kernel
theorem dc_304_121 : decode (sm_cc 304) 121 = .ok (.invokevirtual 439, 3) := by decide +kernel
theorem ow_328 : 14 = sm_ow 328 := by decide +kernel
theorem kr_304_439 : sm_at mt_k (sm_ow 304) 439 = some (439, 0, 328, 0, 2571) := by decide +kernel
theorem np_328 : sm_np 328 = 0 := by decide +kernel
theorem dc_304_124 : decode (sm_cc 304) 124 = .ok (.ireturn, 1) := by decide +kernel
theorem dc_304_396 : decode (sm_cc 304) 396 = .ok (.aload_n 0, 1) := by decide +kernel
theorem dc_304_397 : decode (sm_cc 304) 397 = .ok (.invokevirtual 442, 3) := by decide +kernel
theorem ow_330 : 14 = sm_ow 330 := by decide +kernel
theorem kr_304_442 : sm_at mt_k (sm_ow 304) 442 = some (442, 0, 330, 0, 2579) := by decide +kernel
theorem np_330 : sm_np 330 = 0 := by decide +kernel
theorem dc_304_400 : decode (sm_cc 304) 400 = .ok (.ireturn, 1) := by decide +kernel
theorem dc_304_187 : decode (sm_cc 304) 187 = .ok (.aload_n 0, 1) := by decide +kernel
theorem dc_304_188 : decode (sm_cc 304) 188 = .ok (.dup, 1) := by decide +kernel
theorem dc_304_189 : decode (sm_cc 304) 189 = .ok (.getfield 190, 3) := by decide +kernel
theorem dc_304_192 : decode (sm_cc 304) 192 = .ok (.iconst 1, 1) := by decide +kernel
theorem dc_304_193 : decode (sm_cc 304) 193 = .ok (.iadd, 1) := by decide +kernel
theorem dc_304_194 : decode (sm_cc 304) 194 = .ok (.putfield 190, 3) := by decide +kernel
theorem dc_304_197 : decode (sm_cc 304) 197 = .ok (.aload_n 0, 1) := by decide +kernel
theorem dc_304_198 : decode (sm_cc 304) 198 = .ok (.iconst 0, 1) := by decide +kernel
theorem dc_304_199 : decode (sm_cc 304) 199 = .ok (.invokevirtual 302, 3) := by decide +kernel
theorem dc_304_202 : decode (sm_cc 304) 202 = .ok (.ifCond .ne (5), 3) := by decide +kernel
theorem dc_304_207 : decode (sm_cc 304) 207 = .ok (.aload_n 0, 1) := by decide +kernel
theorem dc_304_208 : decode (sm_cc 304) 208 = .ok (.bipush (30), 2) := by decide +kernel
theorem dc_304_210 : decode (sm_cc 304) 210 = .ok (.invokevirtual 269, 3) := by decide +kernel
theorem dc_304_213 : decode (sm_cc 304) 213 = .ok (.iconst 1, 1) := by decide +kernel
theorem dc_304_214 : decode (sm_cc 304) 214 = .ok (.ireturn, 1) := by decide +kernel
theorem dc_304_205 : decode (sm_cc 304) 205 = .ok (.iconst 0, 1) := by decide +kernel
theorem dc_304_206 : decode (sm_cc 304) 206 = .ok (.ireturn, 1) := by decide +kernel
theorem dc_304_401 : decode (sm_cc 304) 401 = .ok (.aload_n 0, 1) := by decide +kernel
theorem dc_304_402 : decode (sm_cc 304) 402 = .ok (.invokevirtual 436, 3) := by decide +kernel
theorem ow_305 : 14 = sm_ow 305 := by decide +kernel
theorem kr_304_436 : sm_at mt_k (sm_ow 304) 436 = some (436, 0, 305, 0, 2478) := by decide +kernel
theorem np_305 : sm_np 305 = 0 := by decide +kernel
theorem dc_304_405 : decode (sm_cc 304) 405 = .ok (.ireturn, 1) := by decide +kernel
theorem dc_304_406 : decode (sm_cc 304) 406 = .ok (.aload_n 0, 1) := by decide +kernel
theorem dc_304_407 : decode (sm_cc 304) 407 = .ok (.invokevirtual 202, 3) := by decide +kernel
theorem dc_304_410 : decode (sm_cc 304) 410 = .ok (.ireturn, 1) := by decide +kernel
theorem dc_304_13 : decode (sm_cc 304) 13 = .ok (.aload_n 0, 1) := by decide +kernel
theorem dc_304_14 : decode (sm_cc 304) 14 = .ok (.invokevirtual 436, 3) := by decide +kernel
theorem dc_304_17 : decode (sm_cc 304) 17 = .ok (.ireturn, 1) := by decide +kernel
theorem dc_304_263 : decode (sm_cc 304) 263 = .ok (.iload_n 2, 1) := by decide +kernel
theorem dc_304_264 : decode (sm_cc 304) 264 = .ok (.aload_n 0, 1) := by decide +kernel
theorem dc_304_265 : decode (sm_cc 304) 265 = .ok (.getfield 245, 3) := by decide +kernel
theorem fr_304_245 : sm_at mt_f (sm_ow 304) 245 = some (245, 14, 27, 0, 2100) := by decide +kernel
theorem dc_304_268 : decode (sm_cc 304) 268 = .ok (.if_icmp .ge (15), 3) := by decide +kernel
theorem dc_304_283 : decode (sm_cc 304) 283 = .ok (.iload_n 1, 1) := by decide +kernel
theorem dc_304_284 : decode (sm_cc 304) 284 = .ok (.bipush (10), 2) := by decide +kernel
theorem dc_304_286 : decode (sm_cc 304) 286 = .ok (.if_icmp .ne (22), 3) := by decide +kernel
theorem dc_304_289 : decode (sm_cc 304) 289 = .ok (.aload_n 0, 1) := by decide +kernel
theorem dc_304_290 : decode (sm_cc 304) 290 = .ok (.bipush (11), 2) := by decide +kernel
theorem dc_304_292 : decode (sm_cc 304) 292 = .ok (.aload_n 0, 1) := by decide +kernel
theorem dc_304_293 : decode (sm_cc 304) 293 = .ok (.getfield 320, 3) := by decide +kernel
theorem dc_304_296 : decode (sm_cc 304) 296 = .ok (.aload_n 0, 1) := by decide +kernel
theorem dc_304_297 : decode (sm_cc 304) 297 = .ok (.getfield 242, 3) := by decide +kernel
theorem dc_304_300 : decode (sm_cc 304) 300 = .ok (.iconst 1, 1) := by decide +kernel
theorem dc_304_301 : decode (sm_cc 304) 301 = .ok (.isub, 1) := by decide +kernel
theorem dc_304_302 : decode (sm_cc 304) 302 = .ok (.iaload, 1) := by decide +kernel
theorem dc_304_303 : decode (sm_cc 304) 303 = .ok (.invokevirtual 335, 3) := by decide +kernel
theorem ow_329 : 14 = sm_ow 329 := by decide +kernel
theorem kr_304_335 : sm_at mt_k (sm_ow 304) 335 = some (335, 0, 329, 0, 2575) := by decide +kernel
theorem np_329 : sm_np 329 = 2 := by decide +kernel
theorem dc_304_306 : decode (sm_cc 304) 306 = .ok (.iconst 1, 1) := by decide +kernel
theorem dc_304_307 : decode (sm_cc 304) 307 = .ok (.ireturn, 1) := by decide +kernel
theorem dc_304_271 : decode (sm_cc 304) 271 = .ok (.aload_n 0, 1) := by decide +kernel
theorem dc_304_272 : decode (sm_cc 304) 272 = .ok (.bipush (35), 2) := by decide +kernel
theorem dc_304_274 : decode (sm_cc 304) 274 = .ok (.invokevirtual 269, 3) := by decide +kernel
theorem dc_304_277 : decode (sm_cc 304) 277 = .ok (.iinc 2 (1), 3) := by decide +kernel
theorem dc_304_280 : decode (sm_cc 304) 280 = .ok (.goto (-17), 3) := by decide +kernel
theorem dc_304_308 : decode (sm_cc 304) 308 = .ok (.aload_n 0, 1) := by decide +kernel
theorem dc_304_309 : decode (sm_cc 304) 309 = .ok (.getfield 248, 3) := by decide +kernel
theorem fr_304_248 : sm_at mt_f (sm_ow 304) 248 = some (248, 14, 30, 0, 2103) := by decide +kernel
theorem dc_304_312 : decode (sm_cc 304) 312 = .ok (.aload_n 0, 1) := by decide +kernel
theorem dc_304_313 : decode (sm_cc 304) 313 = .ok (.getfield 329, 3) := by decide +kernel
theorem fr_304_329 : sm_at mt_f (sm_ow 304) 329 = some (329, 14, 28, 0, 2101) := by decide +kernel
theorem dc_304_316 : decode (sm_cc 304) 316 = .ok (.arraylength, 1) := by decide +kernel
theorem dc_304_317 : decode (sm_cc 304) 317 = .ok (.if_icmp .ne (37), 3) := by decide +kernel
theorem dc_304_320 : decode (sm_cc 304) 320 = .ok (.aload_n 0, 1) := by decide +kernel
theorem dc_304_321 : decode (sm_cc 304) 321 = .ok (.aload_n 0, 1) := by decide +kernel
theorem dc_304_322 : decode (sm_cc 304) 322 = .ok (.getfield 329, 3) := by decide +kernel
theorem dc_304_325 : decode (sm_cc 304) 325 = .ok (.iconst 2, 1) := by decide +kernel
theorem dc_304_326 : decode (sm_cc 304) 326 = .ok (.aload_n 0, 1) := by decide +kernel
theorem dc_304_327 : decode (sm_cc 304) 327 = .ok (.getfield 248, 3) := by decide +kernel
theorem dc_304_330 : decode (sm_cc 304) 330 = .ok (.imul, 1) := by decide +kernel
theorem dc_304_331 : decode (sm_cc 304) 331 = .ok (.invokestatic 21, 3) := by decide +kernel
theorem kr_304_21 : sm_at mt_k (sm_ow 304) 21 = some (21, 2, 296, 0, 2387) := by decide +kernel
theorem dc_304_334 : decode (sm_cc 304) 334 = .ok (.putfield 329, 3) := by decide +kernel
theorem dc_304_337 : decode (sm_cc 304) 337 = .ok (.aload_n 0, 1) := by decide +kernel
theorem dc_304_338 : decode (sm_cc 304) 338 = .ok (.aload_n 0, 1) := by decide +kernel
theorem dc_304_339 : decode (sm_cc 304) 339 = .ok (.getfield 326, 3) := by decide +kernel
theorem fr_304_326 : sm_at mt_f (sm_ow 304) 326 = some (326, 14, 29, 0, 2102) := by decide +kernel
theorem dc_304_342 : decode (sm_cc 304) 342 = .ok (.iconst 2, 1) := by decide +kernel
theorem dc_304_343 : decode (sm_cc 304) 343 = .ok (.aload_n 0, 1) := by decide +kernel
theorem dc_304_344 : decode (sm_cc 304) 344 = .ok (.getfield 248, 3) := by decide +kernel
theorem dc_304_347 : decode (sm_cc 304) 347 = .ok (.imul, 1) := by decide +kernel
theorem dc_304_348 : decode (sm_cc 304) 348 = .ok (.invokestatic 21, 3) := by decide +kernel
theorem dc_304_351 : decode (sm_cc 304) 351 = .ok (.putfield 326, 3) := by decide +kernel
theorem dc_304_354 : decode (sm_cc 304) 354 = .ok (.aload_n 0, 1) := by decide +kernel
theorem dc_304_355 : decode (sm_cc 304) 355 = .ok (.getfield 329, 3) := by decide +kernel
theorem dc_304_358 : decode (sm_cc 304) 358 = .ok (.aload_n 0, 1) := by decide +kernel
theorem dc_304_359 : decode (sm_cc 304) 359 = .ok (.getfield 248, 3) := by decide +kernel
theorem dc_304_362 : decode (sm_cc 304) 362 = .ok (.aload_n 0, 1) := by decide +kernel
theorem dc_304_363 : decode (sm_cc 304) 363 = .ok (.bipush (11), 2) := by decide +kernel
theorem dc_304_365 : decode (sm_cc 304) 365 = .ok (.invokevirtual 305, 3) := by decide +kernel
theorem kr_304_305 : sm_at mt_k (sm_ow 304) 305 = some (305, 0, 325, 0, 2559) := by decide +kernel
theorem dc_304_368 : decode (sm_cc 304) 368 = .ok (.iastore, 1) := by decide +kernel
theorem dc_304_369 : decode (sm_cc 304) 369 = .ok (.aload_n 0, 1) := by decide +kernel
theorem dc_304_370 : decode (sm_cc 304) 370 = .ok (.getfield 326, 3) := by decide +kernel
theorem dc_304_373 : decode (sm_cc 304) 373 = .ok (.aload_n 0, 1) := by decide +kernel
theorem dc_304_374 : decode (sm_cc 304) 374 = .ok (.getfield 248, 3) := by decide +kernel
theorem dc_304_377 : decode (sm_cc 304) 377 = .ok (.aload_n 0, 1) := by decide +kernel
theorem dc_304_378 : decode (sm_cc 304) 378 = .ok (.getfield 242, 3) := by decide +kernel
theorem dc_304_381 : decode (sm_cc 304) 381 = .ok (.iconst 1, 1) := by decide +kernel
theorem dc_304_382 : decode (sm_cc 304) 382 = .ok (.isub, 1) := by decide +kernel
theorem dc_304_383 : decode (sm_cc 304) 383 = .ok (.iastore, 1) := by decide +kernel
theorem dc_304_384 : decode (sm_cc 304) 384 = .ok (.aload_n 0, 1) := by decide +kernel
theorem dc_304_385 : decode (sm_cc 304) 385 = .ok (.dup, 1) := by decide +kernel
theorem dc_304_386 : decode (sm_cc 304) 386 = .ok (.getfield 248, 3) := by decide +kernel
theorem dc_304_389 : decode (sm_cc 304) 389 = .ok (.iconst 1, 1) := by decide +kernel
theorem dc_304_390 : decode (sm_cc 304) 390 = .ok (.iadd, 1) := by decide +kernel
theorem dc_304_391 : decode (sm_cc 304) 391 = .ok (.putfield 248, 3) := by decide +kernel
theorem dc_304_394 : decode (sm_cc 304) 394 = .ok (.iconst 1, 1) := by decide +kernel
theorem dc_304_395 : decode (sm_cc 304) 395 = .ok (.ireturn, 1) := by decide +kernel
theorem ml_305 : sm_ml 305 = 7 := by decide +kernel
theorem dc_305_0 : decode (sm_cc 305) 0 = .ok (.aload_n 0, 1) := by decide +kernel
theorem dc_305_1 : decode (sm_cc 305) 1 = .ok (.getfield 206, 3) := by decide +kernel
theorem fr_305_206 : sm_at mt_f (sm_ow 305) 206 = some (206, 14, 14, 0, 2087) := by decide +kernel
theorem dc_305_4 : decode (sm_cc 305) 4 = .ok (.getfield 219, 3) := by decide +kernel
theorem fr_305_219 : sm_at mt_f (sm_ow 305) 219 = some (219, 12, 1, 0, 2411) := by decide +kernel
theorem dc_305_7 : decode (sm_cc 305) 7 = .ok (.istore_n 1, 1) := by decide +kernel
theorem dc_305_8 : decode (sm_cc 305) 8 = .ok (.aload_n 0, 1) := by decide +kernel
theorem dc_305_9 : decode (sm_cc 305) 9 = .ok (.iconst 0, 1) := by decide +kernel
theorem dc_305_10 : decode (sm_cc 305) 10 = .ok (.invokevirtual 302, 3) := by decide +kernel
theorem kr_305_302 : sm_at mt_k (sm_ow 305) 302 = some (302, 0, 306, 0, 2482) := by decide +kernel
theorem dc_305_13 : decode (sm_cc 305) 13 = .ok (.ifCond .ne (5), 3) := by decide +kernel
theorem dc_305_18 : decode (sm_cc 305) 18 = .ok (.aload_n 0, 1) := by decide +kernel
theorem dc_305_19 : decode (sm_cc 305) 19 = .ok (.getfield 397, 3) := by decide +kernel
theorem fr_305_397 : sm_at mt_f (sm_ow 305) 397 = some (397, 14, 31, 0, 2104) := by decide +kernel
theorem dc_305_22 : decode (sm_cc 305) 22 = .ok (.istore_n 2, 1) := by decide +kernel
theorem dc_305_23 : decode (sm_cc 305) 23 = .ok (.aload_n 0, 1) := by decide +kernel
theorem dc_305_24 : decode (sm_cc 305) 24 = .ok (.getfield 135, 3) := by decide +kernel
theorem fr_305_135 : sm_at mt_f (sm_ow 305) 135 = some (135, 14, 7, 0, 2080) := by decide +kernel
theorem dc_305_27 : decode (sm_cc 305) 27 = .ok (.aload_n 0, 1) := by decide +kernel
theorem dc_305_28 : decode (sm_cc 305) 28 = .ok (.getfield 190, 3) := by decide +kernel
theorem fr_305_190 : sm_at mt_f (sm_ow 305) 190 = some (190, 14, 15, 0, 2088) := by decide +kernel
theorem dc_305_31 : decode (sm_cc 305) 31 = .ok (.iconst 1, 1) := by decide +kernel
theorem dc_305_32 : decode (sm_cc 305) 32 = .ok (.isub, 1) := by decide +kernel
theorem dc_305_33 : decode (sm_cc 305) 33 = .ok (.iaload, 1) := by decide +kernel
theorem dc_305_34 : decode (sm_cc 305) 34 = .ok (.istore_n 3, 1) := by decide +kernel
theorem dc_305_16 : decode (sm_cc 305) 16 = .ok (.iconst 0, 1) := by decide +kernel
theorem dc_305_17 : decode (sm_cc 305) 17 = .ok (.ireturn, 1) := by decide +kernel
theorem rt_305 : sm_rt 305 = some .boolean := by decide +kernel
theorem ml_328 : sm_ml 328 = 3 := by decide +kernel
theorem dc_328_0 : decode (sm_cc 328) 0 = .ok (.aload_n 0, 1) := by decide +kernel
theorem dc_328_1 : decode (sm_cc 328) 1 = .ok (.dup, 1) := by decide +kernel
theorem dc_328_2 : decode (sm_cc 328) 2 = .ok (.getfield 190, 3) := by decide +kernel
theorem fr_328_190 : sm_at mt_f (sm_ow 328) 190 = some (190, 14, 15, 0, 2088) := by decide +kernel
theorem dc_328_5 : decode (sm_cc 328) 5 = .ok (.iconst 1, 1) := by decide +kernel
theorem dc_328_6 : decode (sm_cc 328) 6 = .ok (.iadd, 1) := by decide +kernel
theorem dc_328_7 : decode (sm_cc 328) 7 = .ok (.putfield 190, 3) := by decide +kernel
theorem dc_328_10 : decode (sm_cc 328) 10 = .ok (.aload_n 0, 1) := by decide +kernel
theorem dc_328_11 : decode (sm_cc 328) 11 = .ok (.iconst 0, 1) := by decide +kernel
theorem dc_328_12 : decode (sm_cc 328) 12 = .ok (.invokevirtual 302, 3) := by decide +kernel
theorem kr_328_302 : sm_at mt_k (sm_ow 328) 302 = some (302, 0, 306, 0, 2482) := by decide +kernel
theorem dc_328_15 : decode (sm_cc 328) 15 = .ok (.ifCond .ne (5), 3) := by decide +kernel
theorem dc_328_20 : decode (sm_cc 328) 20 = .ok (.aload_n 0, 1) := by decide +kernel
theorem dc_328_21 : decode (sm_cc 328) 21 = .ok (.getfield 135, 3) := by decide +kernel
theorem fr_328_135 : sm_at mt_f (sm_ow 328) 135 = some (135, 14, 7, 0, 2080) := by decide +kernel
theorem dc_328_24 : decode (sm_cc 328) 24 = .ok (.aload_n 0, 1) := by decide +kernel
theorem dc_328_25 : decode (sm_cc 328) 25 = .ok (.getfield 190, 3) := by decide +kernel
theorem dc_328_28 : decode (sm_cc 328) 28 = .ok (.iconst 1, 1) := by decide +kernel
theorem dc_328_29 : decode (sm_cc 328) 29 = .ok (.isub, 1) := by decide +kernel
theorem dc_328_30 : decode (sm_cc 328) 30 = .ok (.iaload, 1) := by decide +kernel
theorem dc_328_31 : decode (sm_cc 328) 31 = .ok (.istore_n 1, 1) := by decide +kernel
theorem dc_328_32 : decode (sm_cc 328) 32 = .ok (.aload_n 0, 1) := by decide +kernel
theorem dc_328_33 : decode (sm_cc 328) 33 = .ok (.getfield 397, 3) := by decide +kernel
theorem fr_328_397 : sm_at mt_f (sm_ow 328) 397 = some (397, 14, 31, 0, 2104) := by decide +kernel
theorem dc_328_36 : decode (sm_cc 328) 36 = .ok (.ifCond .ne (8), 3) := by decide +kernel
theorem dc_328_44 : decode (sm_cc 328) 44 = .ok (.aload_n 0, 1) := by decide +kernel
theorem dc_328_45 : decode (sm_cc 328) 45 = .ok (.getfield 397, 3) := by decide +kernel
theorem dc_328_48 : decode (sm_cc 328) 48 = .ok (.istore_n 2, 1) := by decide +kernel
theorem dc_328_49 : decode (sm_cc 328) 49 = .ok (.aload_n 0, 1) := by decide +kernel
theorem dc_328_50 : decode (sm_cc 328) 50 = .ok (.invokevirtual 447, 3) := by decide +kernel
theorem ow_327 : 14 = sm_ow 327 := by decide +kernel
theorem kr_328_447 : sm_at mt_k (sm_ow 328) 447 = some (447, 0, 327, 0, 2567) := by decide +kernel
theorem np_327 : sm_np 327 = 0 := by decide +kernel
theorem dc_328_53 : decode (sm_cc 328) 53 = .ok (.iload_n 2, 1) := by decide +kernel
theorem dc_328_54 : decode (sm_cc 328) 54 = .ok (.iconst 1, 1) := by decide +kernel
theorem dc_328_55 : decode (sm_cc 328) 55 = .ok (.if_icmp .ne (13), 3) := by decide +kernel
theorem dc_328_68 : decode (sm_cc 328) 68 = .ok (.iload_n 2, 1) := by decide +kernel
theorem dc_328_69 : decode (sm_cc 328) 69 = .ok (.iconst 2, 1) := by decide +kernel
theorem dc_328_70 : decode (sm_cc 328) 70 = .ok (.if_icmp .ne (12), 3) := by decide +kernel
theorem dc_328_82 : decode (sm_cc 328) 82 = .ok (.aload_n 0, 1) := by decide +kernel
theorem dc_328_83 : decode (sm_cc 328) 83 = .ok (.bipush (26), 2) := by decide +kernel
theorem dc_328_85 : decode (sm_cc 328) 85 = .ok (.iload_n 1, 1) := by decide +kernel
theorem dc_328_86 : decode (sm_cc 328) 86 = .ok (.invokevirtual 216, 3) := by decide +kernel
theorem kr_328_216 : sm_at mt_k (sm_ow 328) 216 = some (216, 0, 302, 0, 2465) := by decide +kernel
theorem dc_328_89 : decode (sm_cc 328) 89 = .ok (.iconst 1, 1) := by decide +kernel
theorem dc_328_90 : decode (sm_cc 328) 90 = .ok (.ireturn, 1) := by decide +kernel
theorem rt_328 : sm_rt 328 = some .boolean := by decide +kernel
theorem dc_328_73 : decode (sm_cc 328) 73 = .ok (.aload_n 0, 1) := by decide +kernel
theorem dc_328_74 : decode (sm_cc 328) 74 = .ok (.bipush (25), 2) := by decide +kernel
theorem dc_328_76 : decode (sm_cc 328) 76 = .ok (.invokevirtual 269, 3) := by decide +kernel
theorem kr_328_269 : sm_at mt_k (sm_ow 328) 269 = some (269, 0, 322, 0, 2547) := by decide +kernel
theorem dc_328_79 : decode (sm_cc 328) 79 = .ok (.goto (10), 3) := by decide +kernel
theorem dc_328_58 : decode (sm_cc 328) 58 = .ok (.aload_n 0, 1) := by decide +kernel
theorem dc_328_59 : decode (sm_cc 328) 59 = .ok (.bipush (7), 2) := by decide +kernel
theorem dc_328_61 : decode (sm_cc 328) 61 = .ok (.iload_n 1, 1) := by decide +kernel
theorem dc_328_62 : decode (sm_cc 328) 62 = .ok (.invokevirtual 341, 3) := by decide +kernel
theorem kr_328_341 : sm_at mt_k (sm_ow 328) 341 = some (341, 0, 317, 0, 2526) := by decide +kernel
theorem dc_328_65 : decode (sm_cc 328) 65 = .ok (.goto (24), 3) := by decide +kernel
theorem dc_328_39 : decode (sm_cc 328) 39 = .ok (.aload_n 0, 1) := by decide +kernel
theorem dc_328_40 : decode (sm_cc 328) 40 = .ok (.invokevirtual 202, 3) := by decide +kernel
theorem kr_328_202 : sm_at mt_k (sm_ow 328) 202 = some (202, 0, 299, 0, 2454) := by decide +kernel
theorem dc_328_43 : decode (sm_cc 328) 43 = .ok (.ireturn, 1) := by decide +kernel
theorem dc_328_18 : decode (sm_cc 328) 18 = .ok (.iconst 0, 1) := by decide +kernel
theorem dc_328_19 : decode (sm_cc 328) 19 = .ok (.ireturn, 1) := by decide +kernel
theorem dc_305_35 : decode (sm_cc 305) 35 = .ok (.aload_n 0, 1) := by decide +kernel
theorem dc_305_36 : decode (sm_cc 305) 36 = .ok (.getfield 129, 3) := by decide +kernel
theorem fr_305_129 : sm_at mt_f (sm_ow 305) 129 = some (129, 14, 6, 0, 2079) := by decide +kernel
theorem dc_305_39 : decode (sm_cc 305) 39 = .ok (.aload_n 0, 1) := by decide +kernel
theorem dc_305_40 : decode (sm_cc 305) 40 = .ok (.getfield 190, 3) := by decide +kernel
theorem dc_305_43 : decode (sm_cc 305) 43 = .ok (.iaload, 1) := by decide +kernel
theorem dc_305_44 : decode (sm_cc 305) 44 = .ok (.iconst 5, 1) := by decide +kernel
theorem dc_305_45 : decode (sm_cc 305) 45 = .ok (.if_icmp .ne (15), 3) := by decide +kernel
theorem dc_305_60 : decode (sm_cc 305) 60 = .ok (.iconst 0, 1) := by decide +kernel
theorem dc_305_61 : decode (sm_cc 305) 61 = .ok (.istore 4, 2) := by decide +kernel
theorem dc_305_63 : decode (sm_cc 305) 63 = .ok (.iload 4, 2) := by decide +kernel
theorem dc_305_65 : decode (sm_cc 305) 65 = .ok (.bipush (61), 2) := by decide +kernel
theorem dc_305_67 : decode (sm_cc 305) 67 = .ok (.if_icmp .ne (138), 3) := by decide +kernel
theorem dc_305_205 : decode (sm_cc 305) 205 = .ok (.iload 4, 2) := by decide +kernel
theorem dc_305_207 : decode (sm_cc 305) 207 = .ok (.sipush (256), 3) := by decide +kernel
theorem dc_305_210 : decode (sm_cc 305) 210 = .ok (.if_icmp .le (177), 3) := by decide +kernel
theorem dc_305_387 : decode (sm_cc 305) 387 = .ok (.aload_n 0, 1) := by decide +kernel
theorem dc_305_388 : decode (sm_cc 305) 388 = .ok (.bipush (20), 2) := by decide +kernel
theorem dc_305_390 : decode (sm_cc 305) 390 = .ok (.invokevirtual 269, 3) := by decide +kernel
theorem kr_305_269 : sm_at mt_k (sm_ow 305) 269 = some (269, 0, 322, 0, 2547) := by decide +kernel
theorem dc_305_393 : decode (sm_cc 305) 393 = .ok (.iconst 1, 1) := by decide +kernel
theorem dc_305_394 : decode (sm_cc 305) 394 = .ok (.ireturn, 1) := by decide +kernel
theorem dc_305_48 : decode (sm_cc 305) 48 = .ok (.aload_n 0, 1) := by decide +kernel
theorem dc_305_49 : decode (sm_cc 305) 49 = .ok (.getfield 135, 3) := by decide +kernel
theorem dc_305_52 : decode (sm_cc 305) 52 = .ok (.aload_n 0, 1) := by decide +kernel
theorem dc_305_53 : decode (sm_cc 305) 53 = .ok (.getfield 190, 3) := by decide +kernel
theorem dc_305_56 : decode (sm_cc 305) 56 = .ok (.iaload, 1) := by decide +kernel
theorem dc_305_57 : decode (sm_cc 305) 57 = .ok (.goto (4), 3) := by decide +kernel
theorem dc_305_213 : decode (sm_cc 305) 213 = .ok (.iload 4, 2) := by decide +kernel
theorem dc_305_215 : decode (sm_cc 305) 215 = .ok (.sipush (256), 3) := by decide +kernel
theorem dc_305_218 : decode (sm_cc 305) 218 = .ok (.irem, 1) := by decide +kernel
theorem dc_305_219 : decode (sm_cc 305) 219 = .ok (.bipush (61), 2) := by decide +kernel
theorem dc_305_221 : decode (sm_cc 305) 221 = .ok (.if_icmp .ne (166), 3) := by decide +kernel
theorem dc_305_224 : decode (sm_cc 305) 224 = .ok (.iload 4, 2) := by decide +kernel
theorem dc_305_226 : decode (sm_cc 305) 226 = .ok (.sipush (256), 3) := by decide +kernel
theorem dc_305_229 : decode (sm_cc 305) 229 = .ok (.idiv, 1) := by decide +kernel
theorem dc_305_230 : decode (sm_cc 305) 230 = .ok (.bipush (43), 2) := by decide +kernel
theorem dc_305_232 : decode (sm_cc 305) 232 = .ok (.if_icmp .eq (25), 3) := by decide +kernel
theorem dc_305_235 : decode (sm_cc 305) 235 = .ok (.iload 4, 2) := by decide +kernel
theorem dc_305_237 : decode (sm_cc 305) 237 = .ok (.sipush (256), 3) := by decide +kernel
theorem dc_305_240 : decode (sm_cc 305) 240 = .ok (.idiv, 1) := by decide +kernel
theorem dc_305_241 : decode (sm_cc 305) 241 = .ok (.bipush (45), 2) := by decide +kernel
theorem dc_305_243 : decode (sm_cc 305) 243 = .ok (.if_icmp .eq (14), 3) := by decide +kernel
theorem dc_305_246 : decode (sm_cc 305) 246 = .ok (.iload 4, 2) := by decide +kernel
theorem dc_305_248 : decode (sm_cc 305) 248 = .ok (.sipush (256), 3) := by decide +kernel
theorem dc_305_251 : decode (sm_cc 305) 251 = .ok (.idiv, 1) := by decide +kernel
theorem dc_305_252 : decode (sm_cc 305) 252 = .ok (.bipush (42), 2) := by decide +kernel
theorem dc_305_254 : decode (sm_cc 305) 254 = .ok (.if_icmp .ne (133), 3) := by decide +kernel
theorem dc_305_70 : decode (sm_cc 305) 70 = .ok (.iload_n 2, 1) := by decide +kernel
theorem dc_305_71 : decode (sm_cc 305) 71 = .ok (.ifCond .ne (8), 3) := by decide +kernel
theorem dc_305_79 : decode (sm_cc 305) 79 = .ok (.aload_n 0, 1) := by decide +kernel
theorem dc_305_80 : decode (sm_cc 305) 80 = .ok (.invokevirtual 447, 3) := by decide +kernel
theorem kr_305_447 : sm_at mt_k (sm_ow 305) 447 = some (447, 0, 327, 0, 2567) := by decide +kernel
theorem dc_305_83 : decode (sm_cc 305) 83 = .ok (.aload_n 0, 1) := by decide +kernel
theorem dc_305_84 : decode (sm_cc 305) 84 = .ok (.getfield 206, 3) := by decide +kernel
theorem dc_305_87 : decode (sm_cc 305) 87 = .ok (.getfield 219, 3) := by decide +kernel
theorem dc_305_90 : decode (sm_cc 305) 90 = .ok (.iload_n 1, 1) := by decide +kernel
theorem dc_305_91 : decode (sm_cc 305) 91 = .ok (.isub, 1) := by decide +kernel
theorem dc_305_92 : decode (sm_cc 305) 92 = .ok (.istore 5, 2) := by decide +kernel
theorem dc_305_94 : decode (sm_cc 305) 94 = .ok (.aload_n 0, 1) := by decide +kernel
theorem dc_305_95 : decode (sm_cc 305) 95 = .ok (.getfield 206, 3) := by decide +kernel
theorem dc_305_98 : decode (sm_cc 305) 98 = .ok (.getfield 222, 3) := by decide +kernel
theorem fr_305_222 : sm_at mt_f (sm_ow 305) 222 = some (222, 12, 0, 0, 2409) := by decide +kernel
theorem dc_305_101 : decode (sm_cc 305) 101 = .ok (.iload_n 1, 1) := by decide +kernel
theorem dc_305_102 : decode (sm_cc 305) 102 = .ok (.aload_n 0, 1) := by decide +kernel
theorem dc_305_103 : decode (sm_cc 305) 103 = .ok (.getfield 450, 3) := by decide +kernel
theorem fr_305_450 : sm_at mt_f (sm_ow 305) 450 = some (450, 14, 41, 0, 2114) := by decide +kernel
theorem dc_305_106 : decode (sm_cc 305) 106 = .ok (.iconst 0, 1) := by decide +kernel
theorem dc_305_107 : decode (sm_cc 305) 107 = .ok (.iload 5, 2) := by decide +kernel
theorem dc_305_109 : decode (sm_cc 305) 109 = .ok (.invokestatic 37, 3) := by decide +kernel
theorem kr_305_37 : sm_at mt_k (sm_ow 305) 37 = some (37, 7, 0, 0, 2396) := by decide +kernel
theorem dc_305_112 : decode (sm_cc 305) 112 = .ok (.aload_n 0, 1) := by decide +kernel
theorem dc_305_113 : decode (sm_cc 305) 113 = .ok (.getfield 206, 3) := by decide +kernel
theorem dc_305_116 : decode (sm_cc 305) 116 = .ok (.iload_n 1, 1) := by decide +kernel
theorem dc_305_117 : decode (sm_cc 305) 117 = .ok (.putfield 219, 3) := by decide +kernel
theorem dc_305_120 : decode (sm_cc 305) 120 = .ok (.aload_n 0, 1) := by decide +kernel
theorem dc_305_121 : decode (sm_cc 305) 121 = .ok (.dup, 1) := by decide +kernel
theorem dc_305_122 : decode (sm_cc 305) 122 = .ok (.getfield 190, 3) := by decide +kernel
theorem dc_305_125 : decode (sm_cc 305) 125 = .ok (.iconst 1, 1) := by decide +kernel
theorem dc_305_126 : decode (sm_cc 305) 126 = .ok (.iadd, 1) := by decide +kernel
theorem dc_305_127 : decode (sm_cc 305) 127 = .ok (.putfield 190, 3) := by decide +kernel
theorem dc_305_130 : decode (sm_cc 305) 130 = .ok (.aload_n 0, 1) := by decide +kernel
theorem dc_305_131 : decode (sm_cc 305) 131 = .ok (.iconst 0, 1) := by decide +kernel
theorem dc_305_132 : decode (sm_cc 305) 132 = .ok (.invokevirtual 302, 3) := by decide +kernel
theorem dc_305_135 : decode (sm_cc 305) 135 = .ok (.ifCond .ne (5), 3) := by decide +kernel
theorem dc_305_138 : decode (sm_cc 305) 138 = .ok (.iconst 0, 1) := by decide +kernel
theorem dc_305_139 : decode (sm_cc 305) 139 = .ok (.ireturn, 1) := by decide +kernel
theorem dc_305_74 : decode (sm_cc 305) 74 = .ok (.aload_n 0, 1) := by decide +kernel
theorem dc_305_75 : decode (sm_cc 305) 75 = .ok (.invokevirtual 202, 3) := by decide +kernel
theorem kr_305_202 : sm_at mt_k (sm_ow 305) 202 = some (202, 0, 299, 0, 2454) := by decide +kernel
theorem dc_305_78 : decode (sm_cc 305) 78 = .ok (.ireturn, 1) := by decide +kernel
theorem dc_305_140 : decode (sm_cc 305) 140 = .ok (.iconst 0, 1) := by decide +kernel
theorem dc_305_141 : decode (sm_cc 305) 141 = .ok (.istore 6, 2) := by decide +kernel
theorem dc_305_143 : decode (sm_cc 305) 143 = .ok (.iload 6, 2) := by decide +kernel
theorem dc_305_145 : decode (sm_cc 305) 145 = .ok (.iload 5, 2) := by decide +kernel
theorem dc_305_147 : decode (sm_cc 305) 147 = .ok (.if_icmp .ge (20), 3) := by decide +kernel
theorem dc_305_150 : decode (sm_cc 305) 150 = .ok (.aload_n 0, 1) := by decide +kernel
theorem dc_305_151 : decode (sm_cc 305) 151 = .ok (.aload_n 0, 1) := by decide +kernel
theorem dc_305_152 : decode (sm_cc 305) 152 = .ok (.getfield 450, 3) := by decide +kernel
theorem dc_305_155 : decode (sm_cc 305) 155 = .ok (.iload 6, 2) := by decide +kernel
theorem dc_305_157 : decode (sm_cc 305) 157 = .ok (.iaload, 1) := by decide +kernel
theorem dc_305_158 : decode (sm_cc 305) 158 = .ok (.invokevirtual 269, 3) := by decide +kernel
theorem dc_305_161 : decode (sm_cc 305) 161 = .ok (.iinc 6 (1), 3) := by decide +kernel
theorem dc_305_164 : decode (sm_cc 305) 164 = .ok (.goto (-21), 3) := by decide +kernel
theorem dc_305_167 : decode (sm_cc 305) 167 = .ok (.iload_n 2, 1) := by decide +kernel
theorem dc_305_168 : decode (sm_cc 305) 168 = .ok (.iconst 1, 1) := by decide +kernel
theorem dc_305_169 : decode (sm_cc 305) 169 = .ok (.if_icmp .ne (13), 3) := by decide +kernel
theorem dc_305_182 : decode (sm_cc 305) 182 = .ok (.iload_n 2, 1) := by decide +kernel
theorem dc_305_183 : decode (sm_cc 305) 183 = .ok (.iconst 2, 1) := by decide +kernel
theorem dc_305_184 : decode (sm_cc 305) 184 = .ok (.if_icmp .ne (12), 3) := by decide +kernel
theorem dc_305_196 : decode (sm_cc 305) 196 = .ok (.aload_n 0, 1) := by decide +kernel
theorem dc_305_197 : decode (sm_cc 305) 197 = .ok (.bipush (22), 2) := by decide +kernel
theorem dc_305_199 : decode (sm_cc 305) 199 = .ok (.iload_n 3, 1) := by decide +kernel
theorem dc_305_200 : decode (sm_cc 305) 200 = .ok (.invokevirtual 216, 3) := by decide +kernel
theorem kr_305_216 : sm_at mt_k (sm_ow 305) 216 = some (216, 0, 302, 0, 2465) := by decide +kernel
theorem dc_305_203 : decode (sm_cc 305) 203 = .ok (.iconst 1, 1) := by decide +kernel
theorem dc_305_204 : decode (sm_cc 305) 204 = .ok (.ireturn, 1) := by decide +kernel
theorem dc_305_187 : decode (sm_cc 305) 187 = .ok (.aload_n 0, 1) := by decide +kernel
theorem dc_305_188 : decode (sm_cc 305) 188 = .ok (.bipush (21), 2) := by decide +kernel
theorem dc_305_190 : decode (sm_cc 305) 190 = .ok (.invokevirtual 269, 3) := by decide +kernel
theorem dc_305_193 : decode (sm_cc 305) 193 = .ok (.goto (10), 3) := by decide +kernel
theorem dc_305_172 : decode (sm_cc 305) 172 = .ok (.aload_n 0, 1) := by decide +kernel
theorem dc_305_173 : decode (sm_cc 305) 173 = .ok (.bipush (6), 2) := by decide +kernel
theorem dc_305_175 : decode (sm_cc 305) 175 = .ok (.iload_n 3, 1) := by decide +kernel
theorem dc_305_176 : decode (sm_cc 305) 176 = .ok (.invokevirtual 341, 3) := by decide +kernel
theorem kr_305_341 : sm_at mt_k (sm_ow 305) 341 = some (341, 0, 317, 0, 2526) := by decide +kernel
theorem dc_305_179 : decode (sm_cc 305) 179 = .ok (.goto (24), 3) := by decide +kernel
theorem dc_305_257 : decode (sm_cc 305) 257 = .ok (.iload_n 2, 1) := by decide +kernel
theorem dc_305_258 : decode (sm_cc 305) 258 = .ok (.ifCond .ne (8), 3) := by decide +kernel
theorem dc_305_266 : decode (sm_cc 305) 266 = .ok (.aload_n 0, 1) := by decide +kernel
theorem dc_305_267 : decode (sm_cc 305) 267 = .ok (.invokevirtual 447, 3) := by decide +kernel
theorem dc_305_270 : decode (sm_cc 305) 270 = .ok (.aload_n 0, 1) := by decide +kernel
theorem dc_305_271 : decode (sm_cc 305) 271 = .ok (.dup, 1) := by decide +kernel
theorem dc_305_272 : decode (sm_cc 305) 272 = .ok (.getfield 190, 3) := by decide +kernel
theorem dc_305_275 : decode (sm_cc 305) 275 = .ok (.iconst 1, 1) := by decide +kernel
theorem dc_305_276 : decode (sm_cc 305) 276 = .ok (.iadd, 1) := by decide +kernel
theorem dc_305_277 : decode (sm_cc 305) 277 = .ok (.putfield 190, 3) := by decide +kernel
theorem dc_305_280 : decode (sm_cc 305) 280 = .ok (.iload_n 2, 1) := by decide +kernel
theorem dc_305_281 : decode (sm_cc 305) 281 = .ok (.iconst 1, 1) := by decide +kernel
theorem dc_305_282 : decode (sm_cc 305) 282 = .ok (.if_icmp .ne (12), 3) := by decide +kernel
theorem dc_305_294 : decode (sm_cc 305) 294 = .ok (.iload_n 2, 1) := by decide +kernel
theorem dc_305_295 : decode (sm_cc 305) 295 = .ok (.iconst 2, 1) := by decide +kernel
theorem dc_305_296 : decode (sm_cc 305) 296 = .ok (.if_icmp .ne (18), 3) := by decide +kernel
theorem dc_305_314 : decode (sm_cc 305) 314 = .ok (.aload_n 0, 1) := by decide +kernel
theorem dc_305_315 : decode (sm_cc 305) 315 = .ok (.bipush (27), 2) := by decide +kernel
theorem dc_305_317 : decode (sm_cc 305) 317 = .ok (.invokevirtual 269, 3) := by decide +kernel
theorem dc_305_320 : decode (sm_cc 305) 320 = .ok (.aload_n 0, 1) := by decide +kernel
theorem dc_305_321 : decode (sm_cc 305) 321 = .ok (.bipush (16), 2) := by decide +kernel
theorem dc_305_323 : decode (sm_cc 305) 323 = .ok (.iload_n 3, 1) := by decide +kernel
theorem dc_305_324 : decode (sm_cc 305) 324 = .ok (.invokevirtual 216, 3) := by decide +kernel
theorem dc_305_299 : decode (sm_cc 305) 299 = .ok (.aload_n 0, 1) := by decide +kernel
theorem dc_305_300 : decode (sm_cc 305) 300 = .ok (.bipush (28), 2) := by decide +kernel
theorem dc_305_302 : decode (sm_cc 305) 302 = .ok (.invokevirtual 269, 3) := by decide +kernel
theorem dc_305_305 : decode (sm_cc 305) 305 = .ok (.aload_n 0, 1) := by decide +kernel
theorem dc_305_306 : decode (sm_cc 305) 306 = .ok (.bipush (15), 2) := by decide +kernel
theorem dc_305_308 : decode (sm_cc 305) 308 = .ok (.invokevirtual 269, 3) := by decide +kernel
theorem dc_305_311 : decode (sm_cc 305) 311 = .ok (.goto (16), 3) := by decide +kernel
theorem dc_305_285 : decode (sm_cc 305) 285 = .ok (.aload_n 0, 1) := by decide +kernel
theorem dc_305_286 : decode (sm_cc 305) 286 = .ok (.iconst 4, 1) := by decide +kernel
theorem dc_305_287 : decode (sm_cc 305) 287 = .ok (.iload_n 3, 1) := by decide +kernel
theorem dc_305_288 : decode (sm_cc 305) 288 = .ok (.invokevirtual 341, 3) := by decide +kernel
theorem dc_305_291 : decode (sm_cc 305) 291 = .ok (.goto (36), 3) := by decide +kernel
theorem dc_305_261 : decode (sm_cc 305) 261 = .ok (.aload_n 0, 1) := by decide +kernel
theorem dc_305_262 : decode (sm_cc 305) 262 = .ok (.invokevirtual 202, 3) := by decide +kernel
theorem dc_305_265 : decode (sm_cc 305) 265 = .ok (.ireturn, 1) := by decide +kernel
theorem dc_305_327 : decode (sm_cc 305) 327 = .ok (.aload_n 0, 1) := by decide +kernel
theorem dc_305_328 : decode (sm_cc 305) 328 = .ok (.iconst 0, 1) := by decide +kernel
theorem dc_305_329 : decode (sm_cc 305) 329 = .ok (.invokevirtual 302, 3) := by decide +kernel
theorem dc_305_332 : decode (sm_cc 305) 332 = .ok (.ifCond .ne (5), 3) := by decide +kernel
theorem dc_305_337 : decode (sm_cc 305) 337 = .ok (.aload_n 0, 1) := by decide +kernel
theorem dc_305_338 : decode (sm_cc 305) 338 = .ok (.bipush (8), 2) := by decide +kernel
theorem dc_305_340 : decode (sm_cc 305) 340 = .ok (.iload 4, 2) := by decide +kernel
theorem dc_305_342 : decode (sm_cc 305) 342 = .ok (.sipush (256), 3) := by decide +kernel
theorem dc_305_345 : decode (sm_cc 305) 345 = .ok (.idiv, 1) := by decide +kernel
theorem dc_305_346 : decode (sm_cc 305) 346 = .ok (.invokevirtual 216, 3) := by decide +kernel
theorem dc_305_335 : decode (sm_cc 305) 335 = .ok (.iconst 0, 1) := by decide +kernel
theorem dc_305_336 : decode (sm_cc 305) 336 = .ok (.ireturn, 1) := by decide +kernel
theorem dc_305_349 : decode (sm_cc 305) 349 = .ok (.iload_n 2, 1) := by decide +kernel
theorem dc_305_350 : decode (sm_cc 305) 350 = .ok (.iconst 1, 1) := by decide +kernel
theorem dc_305_351 : decode (sm_cc 305) 351 = .ok (.if_icmp .ne (13), 3) := by decide +kernel
theorem dc_305_364 : decode (sm_cc 305) 364 = .ok (.iload_n 2, 1) := by decide +kernel
theorem dc_305_365 : decode (sm_cc 305) 365 = .ok (.iconst 2, 1) := by decide +kernel
theorem dc_305_366 : decode (sm_cc 305) 366 = .ok (.if_icmp .ne (12), 3) := by decide +kernel
theorem dc_305_378 : decode (sm_cc 305) 378 = .ok (.aload_n 0, 1) := by decide +kernel
theorem dc_305_379 : decode (sm_cc 305) 379 = .ok (.bipush (24), 2) := by decide +kernel
theorem dc_305_381 : decode (sm_cc 305) 381 = .ok (.iload_n 3, 1) := by decide +kernel
theorem dc_305_382 : decode (sm_cc 305) 382 = .ok (.invokevirtual 216, 3) := by decide +kernel
theorem dc_305_385 : decode (sm_cc 305) 385 = .ok (.iconst 1, 1) := by decide +kernel
theorem dc_305_386 : decode (sm_cc 305) 386 = .ok (.ireturn, 1) := by decide +kernel
theorem dc_305_369 : decode (sm_cc 305) 369 = .ok (.aload_n 0, 1) := by decide +kernel
theorem dc_305_370 : decode (sm_cc 305) 370 = .ok (.bipush (23), 2) := by decide +kernel
theorem dc_305_372 : decode (sm_cc 305) 372 = .ok (.invokevirtual 269, 3) := by decide +kernel
theorem dc_305_375 : decode (sm_cc 305) 375 = .ok (.goto (10), 3) := by decide +kernel
theorem dc_305_354 : decode (sm_cc 305) 354 = .ok (.aload_n 0, 1) := by decide +kernel
theorem dc_305_355 : decode (sm_cc 305) 355 = .ok (.bipush (6), 2) := by decide +kernel
theorem dc_305_357 : decode (sm_cc 305) 357 = .ok (.iload_n 3, 1) := by decide +kernel
theorem dc_305_358 : decode (sm_cc 305) 358 = .ok (.invokevirtual 341, 3) := by decide +kernel
theorem dc_305_361 : decode (sm_cc 305) 361 = .ok (.goto (24), 3) := by decide +kernel
theorem zJt_1 {d : Nat} {S : cS} {lx : Int32} {lz : Int32} {S1 : cS} {m : Nat} {u : Nat} {g : Nat} {N : Nat} {n1 : Nat} (c1 : Ans (d + 8) 302 [.ref 61, .int lx, .int (nI 0)] S none S1) (hm : 108 ≤ m) (hv1 : sV S1 6114 = .ref m) (hz2 : (sS S1)[m - 108]? = some (12, u)) (hv3 : sV S1 (100 * m + 0) = .ref g) (hg3 : isK S1 g 0 N) (mN : N < 2 ^ 20) (hn1 : sI S1 (100 * m + 1) = nI n1) (mn1 : n1 < 2 ^ 20) (b1 : 1 ≤ n1) (b2 : (n1 - 1) < N) : Bod (d + 8) 329 0 [(0, .ref 61), (1, .int lx), (2, .int lz)] [] S none (wA g (n1 - 1) (lz - (nI (n1 - 1))) S1) := by
  refine Bod.go dc_329_0 rfl ?_
  refine Bod.go dc_329_1 rfl ?_
  refine Bod.ic 0 (by decide) dc_329_2 ?_
  refine Bod.virt (r := []) dc_329_3 kr_329_216 ⟨Or.inl rfl, ow_302, cl_14⟩ (by rw [np_302]; rfl) (by rw [np_302]; rfl) (ob_of (mk_61 _)) (Nat.le_of_ble_eq_true rfl) (c1  ) ?_
  show Bod _ _ _ _ [] _ _ _
  refine Bod.go dc_329_6 rfl ?_
  refine Bod.get dc_329_7 fr_329_206 (mk_61 _) rfl ?_
  refine Bod.eqV (.ref m) (by first | exact hv1 | (simp only [rIV, rJV, rAV, rLV, rQV, rV, reduceIte, Nat.reduceEqDiff]; exact hv1)) ?_
  refine Bod.get dc_329_10 fr_329_222 (mk_code hm (by first | exact hz2 | (simp only [rIS, rJS, rAS, rLS, rVS, rQS, rS_hold]; exact hz2))) rfl ?_
  refine Bod.eqV (.ref g) (by first | exact hv3 | (simp only [rIV, rJV, rAV, rLV, rQV, rV, reduceIte, Nat.reduceEqDiff]; exact hv3)) ?_
  refine Bod.go dc_329_13 rfl ?_
  refine Bod.get dc_329_14 fr_329_206 (mk_61 _) rfl ?_
  refine Bod.eqV (.ref m) (by first | exact hv1 | (simp only [rIV, rJV, rAV, rLV, rQV, rV, reduceIte, Nat.reduceEqDiff]; exact hv1)) ?_
  refine Bod.get dc_329_17 fr_329_219 (mk_code hm (by first | exact hz2 | (simp only [rIS, rJS, rAS, rLS, rVS, rQS, rS_hold]; exact hz2))) rfl ?_
  refine Bod.eqI (nI n1) (by first | (simp (disch := omega) only [rI, rIe, rA, rIA, rLA, rJA, rVI, rQI, rVA, rQA, upd_at,  rAI, rLI, rJI, nI_add, pk_sub, kc_0, kc_1, kc_2, kc_3, kc_4, kc_5, reduceIte, Nat.reduceEqDiff, Nat.add_zero, rI_hold, rI_hold, rL_hold, hn1]; done) | (simp (disch := omega) only [rI, rIe, rA, rIA, rLA, rJA, rVI, rQI, rVA, rQA, upd_at,  rAI, rLI, rJI, nI_add, pk_sub, kc_0, kc_1, kc_2, kc_3, kc_4, kc_5, reduceIte, Nat.reduceEqDiff, Nat.add_zero, rI_hold, rI_hold, rL_hold, hn1]; exact congrArg nI (by omega))) ?_
  refine Bod.ic 1 (by decide) dc_329_20 ?_
  refine Bod.subN (n1 - 1) (by omega) (by omega) dc_329_21 ?_
  refine Bod.go dc_329_22 rfl ?_
  refine Bod.go dc_329_23 rfl ?_
  refine Bod.get dc_329_24 fr_329_206 (mk_61 _) rfl ?_
  refine Bod.eqV (.ref m) (by first | exact hv1 | (simp only [rIV, rJV, rAV, rLV, rQV, rV, reduceIte, Nat.reduceEqDiff]; exact hv1)) ?_
  refine Bod.get dc_329_27 fr_329_219 (mk_code hm (by first | exact hz2 | (simp only [rIS, rJS, rAS, rLS, rVS, rQS, rS_hold]; exact hz2))) rfl ?_
  refine Bod.eqI (nI n1) (by first | (simp (disch := omega) only [rI, rIe, rA, rIA, rLA, rJA, rVI, rQI, rVA, rQA, upd_at,  rAI, rLI, rJI, nI_add, pk_sub, kc_0, kc_1, kc_2, kc_3, kc_4, kc_5, reduceIte, Nat.reduceEqDiff, Nat.add_zero, rI_hold, rI_hold, rL_hold, hn1]; done) | (simp (disch := omega) only [rI, rIe, rA, rIA, rLA, rJA, rVI, rQI, rVA, rQA, upd_at,  rAI, rLI, rJI, nI_add, pk_sub, kc_0, kc_1, kc_2, kc_3, kc_4, kc_5, reduceIte, Nat.reduceEqDiff, Nat.add_zero, rI_hold, rI_hold, rL_hold, hn1]; exact congrArg nI (by omega))) ?_
  refine Bod.ic 1 (by decide) dc_329_30 ?_
  refine Bod.subN (n1 - 1) (by omega) (by omega) dc_329_31 ?_
  refine Bod.go dc_329_32 rfl ?_
  refine Bod.iastN (N := N) (n1 - 1) rfl (by omega) (by omega) dc_329_33 (mk_isI (by first | exact hg3 | exact isK_S (by simp only [rIS, rJS, rAS, rLS, rVS, rQS, rS_hold]) hg3)) (sa_isI (by first | exact hg3 | exact isK_S (by simp only [rIS, rJS, rAS, rLS, rVS, rQS, rS_hold]) hg3)) (mu_A _ _ _ _) ?_
  exact Bod.retV dc_329_34 rt_329
theorem zNl_1 {d : Nat} {S : cS} {k : Nat} {e67 : Nat} (hk : sI S 6115 = nI k) (mk : k < 6001) (he67 : sA S 67 k = nI e67) (me67 : e67 < 2 ^ 20) (b1 : e67 = 6) : Bod (d + 8) 332 0 [(0, .ref 61)] [] S (some (.int 1)) (wI 6115 (nI (k + 1)) S) := by
  refine Bod.go dc_332_0 rfl ?_
  refine Bod.get dc_332_1 fr_332_129 (mk_61 _) rfl ?_
  refine Bod.go dc_332_4 rfl ?_
  refine Bod.get dc_332_5 fr_332_190 (mk_61 _) rfl ?_
  refine Bod.eqI (nI k) (by first | assumption | rfl | exact congrArg nI (by omega) | (simp (disch := omega) only [rI, rIe, rA, rIA, rLA, rJA, rVI, rQI, rVA, rQA, upd_at,  rAI, rLI, rJI, nI_add, pk_sub, kc_0, kc_1, kc_2, kc_3, kc_4, kc_5, reduceIte, Nat.reduceEqDiff, Nat.add_zero, rI_hold, rI_hold, rL_hold, hk]; done)) ?_
  refine Bod.ialdN k rfl (by omega) (by omega) dc_332_8 (mk_67 _) ?_
  refine Bod.eqI (nI e67) (by first | assumption | rfl | exact congrArg nI (by omega) | (simp (disch := omega) only [rI, rIe, rA, rIA, rLA, rJA, rVI, rQI, rVA, rQA, upd_at,  rAI, rLI, rJI, nI_add, pk_sub, kc_0, kc_1, kc_2, kc_3, kc_4, kc_5, reduceIte, Nat.reduceEqDiff, Nat.add_zero, rI_hold, rI_hold, rL_hold, hk, he67]; done)) ?_
  refine Bod.bip 6 (by decide) dc_332_9 ?_
  refine Bod.icT dc_332_11 rfl (k2_eq_T (k_eq e67 6 rfl rfl (by omega))) ?_
  refine Bod.go dc_332_19 rfl ?_
  refine Bod.go dc_332_20 rfl ?_
  refine Bod.get dc_332_21 fr_332_190 (mk_61 _) rfl ?_
  refine Bod.eqI (nI k) (by first | assumption | rfl | exact congrArg nI (by omega) | (simp (disch := omega) only [rI, rIe, rA, rIA, rLA, rJA, rVI, rQI, rVA, rQA, upd_at,  rAI, rLI, rJI, nI_add, pk_sub, kc_0, kc_1, kc_2, kc_3, kc_4, kc_5, reduceIte, Nat.reduceEqDiff, Nat.add_zero, rI_hold, rI_hold, rL_hold, hk, he67]; done)) ?_
  refine Bod.ic 1 (by decide) dc_332_24 ?_
  refine Bod.addN (k + 1) (by omega) dc_332_25 ?_
  refine Bod.put dc_332_26 fr_332_190 (mk_61 _) (Nat.le_of_ble_eq_true rfl) pf_14_15 (st_6115 _ _) (mu_I _ _ _) ?_
  refine Bod.ic 1 (by decide) dc_332_29 ?_
  exact Bod.retZ dc_332_30 rt_332 (Or.inr rfl)
theorem zNl_2 {d : Nat} {S : cS} {k : Nat} {e67 : Nat} {S1 : cS} (hk : sI S 6115 = nI k) (mk : k < 6001) (he67 : sA S 67 k = nI e67) (me67 : e67 < 2 ^ 20) (b1 : e67 ≠ 6) (c1 : Ans (d + 8) 299 [.ref 61] S (some (.int (nI 0))) S1) : Bod (d + 8) 332 0 [(0, .ref 61)] [] S (some (.int 0)) (S1) := by
  refine Bod.go dc_332_0 rfl ?_
  refine Bod.get dc_332_1 fr_332_129 (mk_61 _) rfl ?_
  refine Bod.go dc_332_4 rfl ?_
  refine Bod.get dc_332_5 fr_332_190 (mk_61 _) rfl ?_
  refine Bod.eqI (nI k) (by first | assumption | rfl | exact congrArg nI (by omega) | (simp (disch := omega) only [rI, rIe, rA, rIA, rLA, rJA, rVI, rQI, rVA, rQA, upd_at,  rAI, rLI, rJI, nI_add, pk_sub, kc_0, kc_1, kc_2, kc_3, kc_4, kc_5, reduceIte, Nat.reduceEqDiff, Nat.add_zero, rI_hold, rI_hold, rL_hold, hk]; done)) ?_
  refine Bod.ialdN k rfl (by omega) (by omega) dc_332_8 (mk_67 _) ?_
  refine Bod.eqI (nI e67) (by first | assumption | rfl | exact congrArg nI (by omega) | (simp (disch := omega) only [rI, rIe, rA, rIA, rLA, rJA, rVI, rQI, rVA, rQA, upd_at,  rAI, rLI, rJI, nI_add, pk_sub, kc_0, kc_1, kc_2, kc_3, kc_4, kc_5, reduceIte, Nat.reduceEqDiff, Nat.add_zero, rI_hold, rI_hold, rL_hold, hk, he67]; done)) ?_
  refine Bod.bip 6 (by decide) dc_332_9 ?_
  refine Bod.icF dc_332_11 rfl (k2_eq_F (k_ne e67 6 rfl rfl (by omega) (by omega) (by omega))) ?_
  refine Bod.go dc_332_14 rfl ?_
  refine Bod.virt (r := []) dc_332_15 kr_332_202 ⟨Or.inl rfl, ow_299, cl_14⟩ (by rw [np_299]; rfl) (by rw [np_299]; rfl) (ob_of (mk_61 _)) (Nat.le_of_ble_eq_true rfl) (c1  ) ?_
  show Bod _ _ _ _ [_] _ _ _
  exact Bod.retZ dc_332_18 rt_332 (Or.inl rfl)
theorem zBg_1 {d : Nat} {S : cS} {lx : Int32} {L : Nat} {tr : Nat} (hL : sI S 6126 = nI L) (mL : L < 30) (htr : sI (wA 77 L lx S) 6127 = nI tr) (mtr : tr < 14) : Bod (d + 8) 343 0 [(0, .ref 61), (1, .int lx)] [] S none (wI 6126 (nI (L + 1)) (wA 78 L (nI tr) (wA 77 L lx S))) := by
  refine Bod.go dc_343_0 rfl ?_
  refine Bod.get dc_343_1 fr_343_320 (mk_61 _) rfl ?_
  refine Bod.go dc_343_4 rfl ?_
  refine Bod.get dc_343_5 fr_343_242 (mk_61 _) rfl ?_
  refine Bod.eqI (nI L) (by first | assumption | rfl | exact congrArg nI (by omega) | (simp (disch := omega) only [rI, rIe, rA, rIA, rLA, rJA, rVI, rQI, rVA, rQA, upd_at,  rAI, rLI, rJI, nI_add, pk_sub, kc_0, kc_1, kc_2, kc_3, kc_4, kc_5, reduceIte, Nat.reduceEqDiff, Nat.add_zero, rI_hold, rI_hold, rL_hold, hL]; done)) ?_
  refine Bod.go dc_343_8 rfl ?_
  refine Bod.iastN L rfl (by omega) (by omega) dc_343_9 (mk_77 _) (sa_77 _ _ _) (mu_A _ _ _ _) ?_
  refine Bod.go dc_343_10 rfl ?_
  refine Bod.get dc_343_11 fr_343_323 (mk_61 _) rfl ?_
  refine Bod.go dc_343_14 rfl ?_
  refine Bod.get dc_343_15 fr_343_242 (mk_61 _) rfl ?_
  refine Bod.eqI (nI L) (by first | (simp (disch := omega) only [rI, rIe, rA, rIA, rLA, rJA, rVI, rQI, rVA, rQA, upd_at,  rAI, rLI, rJI, nI_add, pk_sub, kc_0, kc_1, kc_2, kc_3, kc_4, kc_5, reduceIte, Nat.reduceEqDiff, Nat.add_zero, rI_hold, rI_hold, rL_hold, hL]; done) | (simp (disch := omega) only [rI, rIe, rA, rIA, rLA, rJA, rVI, rQI, rVA, rQA, upd_at,  rAI, rLI, rJI, nI_add, pk_sub, kc_0, kc_1, kc_2, kc_3, kc_4, kc_5, reduceIte, Nat.reduceEqDiff, Nat.add_zero, rI_hold, rI_hold, rL_hold, hL]; exact congrArg nI (by omega))) ?_
  refine Bod.go dc_343_18 rfl ?_
  refine Bod.get dc_343_19 fr_343_245 (mk_61 _) rfl ?_
  refine Bod.eqI (nI tr) (by first | (simp (disch := omega) only [rI, rIe, rA, rIA, rLA, rJA, rVI, rQI, rVA, rQA, upd_at,  rAI, rLI, rJI, nI_add, pk_sub, kc_0, kc_1, kc_2, kc_3, kc_4, kc_5, reduceIte, Nat.reduceEqDiff, Nat.add_zero, rI_hold, rI_hold, rL_hold, hL, htr]; done) | (simp (disch := omega) only [rI, rIe, rA, rIA, rLA, rJA, rVI, rQI, rVA, rQA, upd_at,  rAI, rLI, rJI, nI_add, pk_sub, kc_0, kc_1, kc_2, kc_3, kc_4, kc_5, reduceIte, Nat.reduceEqDiff, Nat.add_zero, rI_hold, rI_hold, rL_hold, hL, htr]; exact congrArg nI (by omega))) ?_
  refine Bod.iastN L rfl (by omega) (by omega) dc_343_22 (mk_78 _) (sa_78 _ _ _) (mu_A _ _ _ _) ?_
  refine Bod.go dc_343_23 rfl ?_
  refine Bod.go dc_343_24 rfl ?_
  refine Bod.get dc_343_25 fr_343_242 (mk_61 _) rfl ?_
  refine Bod.eqI (nI L) (by first | (simp (disch := omega) only [rI, rIe, rA, rIA, rLA, rJA, rVI, rQI, rVA, rQA, upd_at,  rAI, rLI, rJI, nI_add, pk_sub, kc_0, kc_1, kc_2, kc_3, kc_4, kc_5, reduceIte, Nat.reduceEqDiff, Nat.add_zero, rI_hold, rI_hold, rL_hold, hL, htr]; done) | (simp (disch := omega) only [rI, rIe, rA, rIA, rLA, rJA, rVI, rQI, rVA, rQA, upd_at,  rAI, rLI, rJI, nI_add, pk_sub, kc_0, kc_1, kc_2, kc_3, kc_4, kc_5, reduceIte, Nat.reduceEqDiff, Nat.add_zero, rI_hold, rI_hold, rL_hold, hL, htr]; exact congrArg nI (by omega))) ?_
  refine Bod.ic 1 (by decide) dc_343_28 ?_
  refine Bod.addN (L + 1) (by omega) dc_343_29 ?_
  refine Bod.put dc_343_30 fr_343_242 (mk_61 _) (Nat.le_of_ble_eq_true rfl) pf_14_26 (st_6126 _ _) (mu_I _ _ _) ?_
  exact Bod.retV dc_343_33 rt_343
theorem zEl_1 {d : Nat} {S Sf : cS} {v : Option Value} {L : Nat} (hL : sI S 6126 = nI L) (mL : L < 30) (b1 : 1 ≤ L) (hB : ∀ lv1 : sm_L, sm_get lv1 0 = some (.ref 61) → sm_get lv1 1 = some (.int (nI 0)) → sm_get lv1 2 = some (.int (nI 0)) → Bod (d + 8) 344 14 lv1 [] (wI 6126 (nI (L - 1)) S) v Sf) : Bod (d + 8) 344 0 [(0, .ref 61)] [] S v Sf := by
  refine Bod.go dc_344_0 rfl ?_
  refine Bod.go dc_344_1 rfl ?_
  refine Bod.get dc_344_2 fr_344_242 (mk_61 _) rfl ?_
  refine Bod.eqI (nI L) (by first | assumption | rfl | exact congrArg nI (by omega) | (simp (disch := omega) only [rI, rIe, rA, rIA, rLA, rJA, rVI, rQI, rVA, rQA, upd_at,  rAI, rLI, rJI, nI_add, pk_sub, kc_0, kc_1, kc_2, kc_3, kc_4, kc_5, reduceIte, Nat.reduceEqDiff, Nat.add_zero, rI_hold, rI_hold, rL_hold, hL]; done)) ?_
  refine Bod.ic 1 (by decide) dc_344_5 ?_
  refine Bod.subN (L - 1) (by omega) (by omega) dc_344_6 ?_
  refine Bod.put dc_344_7 fr_344_242 (mk_61 _) (Nat.le_of_ble_eq_true rfl) pf_14_26 (st_6126 _ _) (mu_I _ _ _) ?_
  refine Bod.ic 0 (by decide) dc_344_10 ?_
  refine Bod.istn dc_344_11 (by rw [ml_344]; exact Nat.le_of_ble_eq_true rfl) ?_
  refine Bod.ic 0 (by decide) dc_344_12 ?_
  refine Bod.istn dc_344_13 (by rw [ml_344]; exact Nat.le_of_ble_eq_true rfl) ?_
  exact hB _ (by first | rfl | exact (by repeat (first | exact rfl | exact sm_get_p1 | exact sm_get_p2e | refine sm_get_p1m (by decide) (by decide) ?_ | refine sm_get_p1n (by decide) rfl ?_ | refine sm_get_p2n (by decide) (by decide) rfl ?_))) (by first | rfl | exact (by repeat (first | exact rfl | exact sm_get_p1 | exact sm_get_p2e | refine sm_get_p1m (by decide) (by decide) ?_ | refine sm_get_p1n (by decide) rfl ?_ | refine sm_get_p2n (by decide) (by decide) rfl ?_))) (by first | rfl | exact (by repeat (first | exact rfl | exact sm_get_p1 | exact sm_get_p2e | refine sm_get_p1m (by decide) (by decide) ?_ | refine sm_get_p1n (by decide) rfl ?_ | refine sm_get_p2n (by decide) (by decide) rfl ?_)))
theorem zElL_1 {d : Nat} {S : cS} {lv : sm_L} {lp : Nat} {li : Nat} {nb : Nat} (q0 : sm_get lv 0 = some (.ref 61)) (q1 : sm_get lv 1 = some (.int (nI lp))) (q2 : sm_get lv 2 = some (.int (nI li))) (mlp : lp < 2 ^ 20) (mli : li < 2 ^ 20) (hnb : sI S 6130 = nI nb) (mnb : nb < 3000) (b1 : nb ≤ li) : Bod (d + 8) 344 14 lv [] S none (wI 6130 (nI lp) S) := by
  refine Bod.ildnG dc_344_14 (by repeat (first | exact q2 | exact sm_get_p1 | exact sm_get_p2e | refine sm_get_p1m (by decide) (by decide) ?_ | refine sm_get_p1n (by decide) rfl ?_ | refine sm_get_p2n (by decide) (by decide) rfl ?_)) ?_
  refine Bod.aldnG dc_344_15 (by repeat (first | exact q0 | exact sm_get_p1 | exact sm_get_p2e | refine sm_get_p1m (by decide) (by decide) ?_ | refine sm_get_p1n (by decide) rfl ?_ | refine sm_get_p2n (by decide) (by decide) rfl ?_)) ?_
  refine Bod.get dc_344_16 fr_344_248 (mk_61 _) rfl ?_
  refine Bod.eqI (nI nb) (by first | assumption | rfl | exact congrArg nI (by omega) | (simp (disch := omega) only [rI, rIe, rA, rIA, rLA, rJA, rVI, rQI, rVA, rQA, upd_at,  rAI, rLI, rJI, nI_add, pk_sub, kc_0, kc_1, kc_2, kc_3, kc_4, kc_5, reduceIte, Nat.reduceEqDiff, Nat.add_zero, rI_hold, rI_hold, rL_hold, hnb]; done)) ?_
  refine Bod.icT dc_344_19 rfl (k2_ge_T li nb rfl rfl (by omega) (by omega)) ?_
  refine Bod.aldnG dc_344_81 (by repeat (first | exact q0 | exact sm_get_p1 | exact sm_get_p2e | refine sm_get_p1m (by decide) (by decide) ?_ | refine sm_get_p1n (by decide) rfl ?_ | refine sm_get_p2n (by decide) (by decide) rfl ?_)) ?_
  refine Bod.ildnG dc_344_82 (by repeat (first | exact q1 | exact sm_get_p1 | exact sm_get_p2e | refine sm_get_p1m (by decide) (by decide) ?_ | refine sm_get_p1n (by decide) rfl ?_ | refine sm_get_p2n (by decide) (by decide) rfl ?_)) ?_
  refine Bod.put dc_344_83 fr_344_248 (mk_61 _) (Nat.le_of_ble_eq_true rfl) pf_14_30 (st_6130 _ _) (mu_I _ _ _) ?_
  exact Bod.retV dc_344_86 rt_344
theorem zElL_2 {d : Nat} {S Sf : cS} {v : Option Value} {lv : sm_L} {lp : Nat} {li : Nat} {nb : Nat} {g : Nat} {N : Nat} {e : Nat} {L : Nat} {g1 : Nat} {N1 : Nat} {e1 : Nat} (q0 : sm_get lv 0 = some (.ref 61)) (q1 : sm_get lv 1 = some (.int (nI lp))) (q2 : sm_get lv 2 = some (.int (nI li))) (mlp : lp < 2 ^ 20) (mli : li < 2 ^ 20) (hnb : sI S 6130 = nI nb) (mnb : nb < 3000) (b1 : li < nb) (hv1 : sV S (6129) = .ref g) (hg1 : isK S g 0 N) (mN : N < 2 ^ 20) (b2 : li < N) (he : sA S g li = nI e) (me : e < 2 ^ 20) (hL : sI S 6126 = nI L) (mL : L < 30) (b3 : e ≠ L) (hv2 : sV S (6128) = .ref g1) (hg2 : isK S g1 0 N1) (mN1 : N1 < 2 ^ 20) (hd217 : g ≠ g1) (b4 : li < N1) (he1 : sA S g1 li = nI e1) (me1 : e1 < 2 ^ 20) (b5 : lp < N1) (b6 : lp < N) (hB : ∀ lv1 : sm_L, sm_get lv1 0 = some (.ref 61) → sm_get lv1 1 = some (.int (nI (lp + 1))) → sm_get lv1 2 = some (.int (nI (li + 1))) → Bod (d + 8) 344 14 lv1 [] (wA g lp (nI e) (wA g1 lp (nI e1) S)) v Sf) : Bod (d + 8) 344 14 lv [] S v Sf := by
  refine Bod.ildnG dc_344_14 (by repeat (first | exact q2 | exact sm_get_p1 | exact sm_get_p2e | refine sm_get_p1m (by decide) (by decide) ?_ | refine sm_get_p1n (by decide) rfl ?_ | refine sm_get_p2n (by decide) (by decide) rfl ?_)) ?_
  refine Bod.aldnG dc_344_15 (by repeat (first | exact q0 | exact sm_get_p1 | exact sm_get_p2e | refine sm_get_p1m (by decide) (by decide) ?_ | refine sm_get_p1n (by decide) rfl ?_ | refine sm_get_p2n (by decide) (by decide) rfl ?_)) ?_
  refine Bod.get dc_344_16 fr_344_248 (mk_61 _) rfl ?_
  refine Bod.eqI (nI nb) (by first | assumption | rfl | exact congrArg nI (by omega) | (simp (disch := omega) only [rI, rIe, rA, rIA, rLA, rJA, rVI, rQI, rVA, rQA, upd_at,  rAI, rLI, rJI, nI_add, pk_sub, kc_0, kc_1, kc_2, kc_3, kc_4, kc_5, reduceIte, Nat.reduceEqDiff, Nat.add_zero, rI_hold, rI_hold, rL_hold, hnb]; done)) ?_
  refine Bod.icF dc_344_19 rfl (k2_ge_F li nb rfl rfl (by omega) (by omega)) ?_
  refine Bod.aldnG dc_344_22 (by repeat (first | exact q0 | exact sm_get_p1 | exact sm_get_p2e | refine sm_get_p1m (by decide) (by decide) ?_ | refine sm_get_p1n (by decide) rfl ?_ | refine sm_get_p2n (by decide) (by decide) rfl ?_)) ?_
  refine Bod.get dc_344_23 fr_344_326 (mk_61 _) rfl ?_
  refine Bod.eqV (.ref g) (by first | exact hv1 | (simp only [rIV, rJV, rAV, rLV, rQV, rV, reduceIte, Nat.reduceEqDiff]; exact hv1)) ?_
  refine Bod.ildnG dc_344_26 (by repeat (first | exact q2 | exact sm_get_p1 | exact sm_get_p2e | refine sm_get_p1m (by decide) (by decide) ?_ | refine sm_get_p1n (by decide) rfl ?_ | refine sm_get_p2n (by decide) (by decide) rfl ?_)) ?_
  refine Bod.ialdN (N := N) li rfl (by omega) (by omega) dc_344_27 (mk_isI (by first | exact hg1 | exact isK_S (by simp only [rIS, rJS, rAS, rLS, rVS, rQS, rS_hold]) hg1)) ?_
  refine Bod.eqI (nI e) (by first | assumption | rfl | exact congrArg nI (by omega) | (simp (disch := omega) only [rI, rIe, rA, rIA, rLA, rJA, rVI, rQI, rVA, rQA, upd_at,  rAI, rLI, rJI, nI_add, pk_sub, kc_0, kc_1, kc_2, kc_3, kc_4, kc_5, reduceIte, Nat.reduceEqDiff, Nat.add_zero, rI_hold, rI_hold, rL_hold, hnb, he]; done)) ?_
  refine Bod.aldnG dc_344_28 (by repeat (first | exact q0 | exact sm_get_p1 | exact sm_get_p2e | refine sm_get_p1m (by decide) (by decide) ?_ | refine sm_get_p1n (by decide) rfl ?_ | refine sm_get_p2n (by decide) (by decide) rfl ?_)) ?_
  refine Bod.get dc_344_29 fr_344_242 (mk_61 _) rfl ?_
  refine Bod.eqI (nI L) (by first | assumption | rfl | exact congrArg nI (by omega) | (simp (disch := omega) only [rI, rIe, rA, rIA, rLA, rJA, rVI, rQI, rVA, rQA, upd_at,  rAI, rLI, rJI, nI_add, pk_sub, kc_0, kc_1, kc_2, kc_3, kc_4, kc_5, reduceIte, Nat.reduceEqDiff, Nat.add_zero, rI_hold, rI_hold, rL_hold, hnb, he, hL]; done)) ?_
  refine Bod.icT dc_344_32 rfl (k2_ne_T (k_ne e L rfl rfl (by omega) (by omega) (by omega))) ?_
  refine Bod.aldnG dc_344_48 (by repeat (first | exact q0 | exact sm_get_p1 | exact sm_get_p2e | refine sm_get_p1m (by decide) (by decide) ?_ | refine sm_get_p1n (by decide) rfl ?_ | refine sm_get_p2n (by decide) (by decide) rfl ?_)) ?_
  refine Bod.get dc_344_49 fr_344_329 (mk_61 _) rfl ?_
  refine Bod.eqV (.ref g1) (by first | exact hv2 | (simp only [rIV, rJV, rAV, rLV, rQV, rV, reduceIte, Nat.reduceEqDiff]; exact hv2)) ?_
  refine Bod.ildnG dc_344_52 (by repeat (first | exact q1 | exact sm_get_p1 | exact sm_get_p2e | refine sm_get_p1m (by decide) (by decide) ?_ | refine sm_get_p1n (by decide) rfl ?_ | refine sm_get_p2n (by decide) (by decide) rfl ?_)) ?_
  refine Bod.aldnG dc_344_53 (by repeat (first | exact q0 | exact sm_get_p1 | exact sm_get_p2e | refine sm_get_p1m (by decide) (by decide) ?_ | refine sm_get_p1n (by decide) rfl ?_ | refine sm_get_p2n (by decide) (by decide) rfl ?_)) ?_
  refine Bod.get dc_344_54 fr_344_329 (mk_61 _) rfl ?_
  refine Bod.eqV (.ref g1) (by first | exact hv2 | (simp only [rIV, rJV, rAV, rLV, rQV, rV, reduceIte, Nat.reduceEqDiff]; exact hv2)) ?_
  refine Bod.ildnG dc_344_57 (by repeat (first | exact q2 | exact sm_get_p1 | exact sm_get_p2e | refine sm_get_p1m (by decide) (by decide) ?_ | refine sm_get_p1n (by decide) rfl ?_ | refine sm_get_p2n (by decide) (by decide) rfl ?_)) ?_
  refine Bod.ialdN (N := N1) li rfl (by omega) (by omega) dc_344_58 (mk_isI (by first | exact hg2 | exact isK_S (by simp only [rIS, rJS, rAS, rLS, rVS, rQS, rS_hold]) hg2)) ?_
  refine Bod.eqI (nI e1) (by first | assumption | rfl | exact congrArg nI (by omega) | (simp (disch := omega) only [rI, rIe, rA, rIA, rLA, rJA, rVI, rQI, rVA, rQA, upd_at,  rAI, rLI, rJI, nI_add, pk_sub, kc_0, kc_1, kc_2, kc_3, kc_4, kc_5, reduceIte, Nat.reduceEqDiff, Nat.add_zero, rI_hold, rI_hold, rL_hold, hnb, he, hL, hd217, Ne.symm hd217, he1]; done)) ?_
  refine Bod.iastN (N := N1) lp rfl (by omega) (by omega) dc_344_59 (mk_isI (by first | exact hg2 | exact isK_S (by simp only [rIS, rJS, rAS, rLS, rVS, rQS, rS_hold]) hg2)) (sa_isI (by first | exact hg2 | exact isK_S (by simp only [rIS, rJS, rAS, rLS, rVS, rQS, rS_hold]) hg2)) (mu_A _ _ _ _) ?_
  refine Bod.aldnG dc_344_60 (by repeat (first | exact q0 | exact sm_get_p1 | exact sm_get_p2e | refine sm_get_p1m (by decide) (by decide) ?_ | refine sm_get_p1n (by decide) rfl ?_ | refine sm_get_p2n (by decide) (by decide) rfl ?_)) ?_
  refine Bod.get dc_344_61 fr_344_326 (mk_61 _) rfl ?_
  refine Bod.eqV (.ref g) (by first | exact hv1 | (simp only [rIV, rJV, rAV, rLV, rQV, rV, reduceIte, Nat.reduceEqDiff]; exact hv1)) ?_
  refine Bod.ildnG dc_344_64 (by repeat (first | exact q1 | exact sm_get_p1 | exact sm_get_p2e | refine sm_get_p1m (by decide) (by decide) ?_ | refine sm_get_p1n (by decide) rfl ?_ | refine sm_get_p2n (by decide) (by decide) rfl ?_)) ?_
  refine Bod.aldnG dc_344_65 (by repeat (first | exact q0 | exact sm_get_p1 | exact sm_get_p2e | refine sm_get_p1m (by decide) (by decide) ?_ | refine sm_get_p1n (by decide) rfl ?_ | refine sm_get_p2n (by decide) (by decide) rfl ?_)) ?_
  refine Bod.get dc_344_66 fr_344_326 (mk_61 _) rfl ?_
  refine Bod.eqV (.ref g) (by first | exact hv1 | (simp only [rIV, rJV, rAV, rLV, rQV, rV, reduceIte, Nat.reduceEqDiff]; exact hv1)) ?_
  refine Bod.ildnG dc_344_69 (by repeat (first | exact q2 | exact sm_get_p1 | exact sm_get_p2e | refine sm_get_p1m (by decide) (by decide) ?_ | refine sm_get_p1n (by decide) rfl ?_ | refine sm_get_p2n (by decide) (by decide) rfl ?_)) ?_
  refine Bod.ialdN (N := N) li rfl (by omega) (by omega) dc_344_70 (mk_isI (by first | exact hg1 | exact isK_S (by simp only [rIS, rJS, rAS, rLS, rVS, rQS, rS_hold]) hg1)) ?_
  refine Bod.eqI (nI e) (by first | (simp (disch := omega) only [rI, rIe, rA, rIA, rLA, rJA, rVI, rQI, rVA, rQA, upd_at,  rAI, rLI, rJI, nI_add, pk_sub, kc_0, kc_1, kc_2, kc_3, kc_4, kc_5, reduceIte, Nat.reduceEqDiff, Nat.add_zero, rI_hold, rI_hold, rL_hold, hnb, he, hL, hd217, Ne.symm hd217, he1]; done) | (simp (disch := omega) only [rI, rIe, rA, rIA, rLA, rJA, rVI, rQI, rVA, rQA, upd_at,  rAI, rLI, rJI, nI_add, pk_sub, kc_0, kc_1, kc_2, kc_3, kc_4, kc_5, reduceIte, Nat.reduceEqDiff, Nat.add_zero, rI_hold, rI_hold, rL_hold, hnb, he, hL, hd217, Ne.symm hd217, he1]; exact congrArg nI (by omega))) ?_
  refine Bod.iastN (N := N) lp rfl (by omega) (by omega) dc_344_71 (mk_isI (by first | exact hg1 | exact isK_S (by simp only [rIS, rJS, rAS, rLS, rVS, rQS, rS_hold]) hg1)) (sa_isI (by first | exact hg1 | exact isK_S (by simp only [rIS, rJS, rAS, rLS, rVS, rQS, rS_hold]) hg1)) (mu_A _ _ _ _) ?_
  refine Bod.incN (lp + 1) (by rw [kc_1, nI_add]) dc_344_72 (by rw [ml_344]; exact Nat.le_of_ble_eq_true rfl) (by repeat (first | exact q1 | exact sm_get_p1 | exact sm_get_p2e | refine sm_get_p1m (by decide) (by decide) ?_ | refine sm_get_p1n (by decide) rfl ?_ | refine sm_get_p2n (by decide) (by decide) rfl ?_)) ?_
  refine Bod.incN (li + 1) (by rw [kc_1, nI_add]) dc_344_75 (by rw [ml_344]; exact Nat.le_of_ble_eq_true rfl) (by repeat (first | exact q2 | exact sm_get_p1 | exact sm_get_p2e | refine sm_get_p1m (by decide) (by decide) ?_ | refine sm_get_p1n (by decide) rfl ?_ | refine sm_get_p2n (by decide) (by decide) rfl ?_)) ?_
  refine Bod.go dc_344_78 rfl ?_
  exact hB _ (by repeat (first | exact q0 | exact sm_get_p1 | exact sm_get_p2e | refine sm_get_p1m (by decide) (by decide) ?_ | refine sm_get_p1n (by decide) rfl ?_ | refine sm_get_p2n (by decide) (by decide) rfl ?_)) (by repeat (first | exact q0 | exact sm_get_p1 | exact sm_get_p2e | refine sm_get_p1m (by decide) (by decide) ?_ | refine sm_get_p1n (by decide) rfl ?_ | refine sm_get_p2n (by decide) (by decide) rfl ?_)) (by repeat (first | exact q0 | exact sm_get_p1 | exact sm_get_p2e | refine sm_get_p1m (by decide) (by decide) ?_ | refine sm_get_p1n (by decide) rfl ?_ | refine sm_get_p2n (by decide) (by decide) rfl ?_))
theorem zElL_3 {d : Nat} {S Sf : cS} {v : Option Value} {lv : sm_L} {lp : Nat} {li : Nat} {nb : Nat} {g : Nat} {N : Nat} {e : Nat} {L : Nat} {g1 : Nat} {N1 : Nat} {e1 : Nat} {S1 : cS} (q0 : sm_get lv 0 = some (.ref 61)) (q1 : sm_get lv 1 = some (.int (nI lp))) (q2 : sm_get lv 2 = some (.int (nI li))) (mlp : lp < 2 ^ 20) (mli : li < 2 ^ 20) (hnb : sI S 6130 = nI nb) (mnb : nb < 3000) (b1 : li < nb) (hv1 : sV S (6129) = .ref g) (hg1 : isK S g 0 N) (mN : N < 2 ^ 20) (b2 : li < N) (he : sA S g li = nI e) (me : e < 2 ^ 20) (hL : sI S 6126 = nI L) (mL : L < 30) (b3 : e = L) (hv2 : sV S (6128) = .ref g1) (hg2 : isK S g1 0 N1) (mN1 : N1 < 2 ^ 20) (hd217 : g ≠ g1) (b4 : li < N1) (he1 : sA S g1 li = nI e1) (me1 : e1 < 2 ^ 20) (c1 : Ans (d + 8) 326 [.ref 61, .int (nI e1)] S none S1) (hB : ∀ lv1 : sm_L, sm_get lv1 0 = some (.ref 61) → sm_get lv1 1 = some (.int (nI lp)) → sm_get lv1 2 = some (.int (nI (li + 1))) → Bod (d + 8) 344 14 lv1 [] (S1) v Sf) : Bod (d + 8) 344 14 lv [] S v Sf := by
  refine Bod.ildnG dc_344_14 (by repeat (first | exact q2 | exact sm_get_p1 | exact sm_get_p2e | refine sm_get_p1m (by decide) (by decide) ?_ | refine sm_get_p1n (by decide) rfl ?_ | refine sm_get_p2n (by decide) (by decide) rfl ?_)) ?_
  refine Bod.aldnG dc_344_15 (by repeat (first | exact q0 | exact sm_get_p1 | exact sm_get_p2e | refine sm_get_p1m (by decide) (by decide) ?_ | refine sm_get_p1n (by decide) rfl ?_ | refine sm_get_p2n (by decide) (by decide) rfl ?_)) ?_
  refine Bod.get dc_344_16 fr_344_248 (mk_61 _) rfl ?_
  refine Bod.eqI (nI nb) (by first | assumption | rfl | exact congrArg nI (by omega) | (simp (disch := omega) only [rI, rIe, rA, rIA, rLA, rJA, rVI, rQI, rVA, rQA, upd_at,  rAI, rLI, rJI, nI_add, pk_sub, kc_0, kc_1, kc_2, kc_3, kc_4, kc_5, reduceIte, Nat.reduceEqDiff, Nat.add_zero, rI_hold, rI_hold, rL_hold, hnb]; done)) ?_
  refine Bod.icF dc_344_19 rfl (k2_ge_F li nb rfl rfl (by omega) (by omega)) ?_
  refine Bod.aldnG dc_344_22 (by repeat (first | exact q0 | exact sm_get_p1 | exact sm_get_p2e | refine sm_get_p1m (by decide) (by decide) ?_ | refine sm_get_p1n (by decide) rfl ?_ | refine sm_get_p2n (by decide) (by decide) rfl ?_)) ?_
  refine Bod.get dc_344_23 fr_344_326 (mk_61 _) rfl ?_
  refine Bod.eqV (.ref g) (by first | exact hv1 | (simp only [rIV, rJV, rAV, rLV, rQV, rV, reduceIte, Nat.reduceEqDiff]; exact hv1)) ?_
  refine Bod.ildnG dc_344_26 (by repeat (first | exact q2 | exact sm_get_p1 | exact sm_get_p2e | refine sm_get_p1m (by decide) (by decide) ?_ | refine sm_get_p1n (by decide) rfl ?_ | refine sm_get_p2n (by decide) (by decide) rfl ?_)) ?_
  refine Bod.ialdN (N := N) li rfl (by omega) (by omega) dc_344_27 (mk_isI (by first | exact hg1 | exact isK_S (by simp only [rIS, rJS, rAS, rLS, rVS, rQS, rS_hold]) hg1)) ?_
  refine Bod.eqI (nI e) (by first | assumption | rfl | exact congrArg nI (by omega) | (simp (disch := omega) only [rI, rIe, rA, rIA, rLA, rJA, rVI, rQI, rVA, rQA, upd_at,  rAI, rLI, rJI, nI_add, pk_sub, kc_0, kc_1, kc_2, kc_3, kc_4, kc_5, reduceIte, Nat.reduceEqDiff, Nat.add_zero, rI_hold, rI_hold, rL_hold, hnb, he]; done)) ?_
  refine Bod.aldnG dc_344_28 (by repeat (first | exact q0 | exact sm_get_p1 | exact sm_get_p2e | refine sm_get_p1m (by decide) (by decide) ?_ | refine sm_get_p1n (by decide) rfl ?_ | refine sm_get_p2n (by decide) (by decide) rfl ?_)) ?_
  refine Bod.get dc_344_29 fr_344_242 (mk_61 _) rfl ?_
  refine Bod.eqI (nI L) (by first | assumption | rfl | exact congrArg nI (by omega) | (simp (disch := omega) only [rI, rIe, rA, rIA, rLA, rJA, rVI, rQI, rVA, rQA, upd_at,  rAI, rLI, rJI, nI_add, pk_sub, kc_0, kc_1, kc_2, kc_3, kc_4, kc_5, reduceIte, Nat.reduceEqDiff, Nat.add_zero, rI_hold, rI_hold, rL_hold, hnb, he, hL]; done)) ?_
  refine Bod.icF dc_344_32 rfl (k2_ne_F (k_eq e L rfl rfl (by omega))) ?_
  refine Bod.aldnG dc_344_35 (by repeat (first | exact q0 | exact sm_get_p1 | exact sm_get_p2e | refine sm_get_p1m (by decide) (by decide) ?_ | refine sm_get_p1n (by decide) rfl ?_ | refine sm_get_p2n (by decide) (by decide) rfl ?_)) ?_
  refine Bod.aldnG dc_344_36 (by repeat (first | exact q0 | exact sm_get_p1 | exact sm_get_p2e | refine sm_get_p1m (by decide) (by decide) ?_ | refine sm_get_p1n (by decide) rfl ?_ | refine sm_get_p2n (by decide) (by decide) rfl ?_)) ?_
  refine Bod.get dc_344_37 fr_344_329 (mk_61 _) rfl ?_
  refine Bod.eqV (.ref g1) (by first | exact hv2 | (simp only [rIV, rJV, rAV, rLV, rQV, rV, reduceIte, Nat.reduceEqDiff]; exact hv2)) ?_
  refine Bod.ildnG dc_344_40 (by repeat (first | exact q2 | exact sm_get_p1 | exact sm_get_p2e | refine sm_get_p1m (by decide) (by decide) ?_ | refine sm_get_p1n (by decide) rfl ?_ | refine sm_get_p2n (by decide) (by decide) rfl ?_)) ?_
  refine Bod.ialdN (N := N1) li rfl (by omega) (by omega) dc_344_41 (mk_isI (by first | exact hg2 | exact isK_S (by simp only [rIS, rJS, rAS, rLS, rVS, rQS, rS_hold]) hg2)) ?_
  refine Bod.eqI (nI e1) (by first | assumption | rfl | exact congrArg nI (by omega) | (simp (disch := omega) only [rI, rIe, rA, rIA, rLA, rJA, rVI, rQI, rVA, rQA, upd_at,  rAI, rLI, rJI, nI_add, pk_sub, kc_0, kc_1, kc_2, kc_3, kc_4, kc_5, reduceIte, Nat.reduceEqDiff, Nat.add_zero, rI_hold, rI_hold, rL_hold, hnb, he, hL, hd217, Ne.symm hd217, he1]; done)) ?_
  refine Bod.virt (r := []) dc_344_42 kr_344_317 ⟨Or.inl rfl, ow_326, cl_14⟩ (by rw [np_326]; rfl) (by rw [np_326]; rfl) (ob_of (mk_61 _)) (Nat.le_of_ble_eq_true rfl) (c1  ) ?_
  show Bod _ _ _ _ [] _ _ _
  refine Bod.go dc_344_45 rfl ?_
  refine Bod.incN (li + 1) (by rw [kc_1, nI_add]) dc_344_75 (by rw [ml_344]; exact Nat.le_of_ble_eq_true rfl) (by repeat (first | exact q2 | exact sm_get_p1 | exact sm_get_p2e | refine sm_get_p1m (by decide) (by decide) ?_ | refine sm_get_p1n (by decide) rfl ?_ | refine sm_get_p2n (by decide) (by decide) rfl ?_)) ?_
  refine Bod.go dc_344_78 rfl ?_
  exact hB _ (by repeat (first | exact q0 | exact sm_get_p1 | exact sm_get_p2e | refine sm_get_p1m (by decide) (by decide) ?_ | refine sm_get_p1n (by decide) rfl ?_ | refine sm_get_p2n (by decide) (by decide) rfl ?_)) (by repeat (first | exact q1 | exact sm_get_p1 | exact sm_get_p2e | refine sm_get_p1m (by decide) (by decide) ?_ | refine sm_get_p1n (by decide) rfl ?_ | refine sm_get_p2n (by decide) (by decide) rfl ?_)) (by repeat (first | exact q0 | exact sm_get_p1 | exact sm_get_p2e | refine sm_get_p1m (by decide) (by decide) ?_ | refine sm_get_p1n (by decide) rfl ?_ | refine sm_get_p2n (by decide) (by decide) rfl ?_))
theorem xsw_301_68 : ∀ b, b < 64 → (b = 0 ∨ b = 3 ∨ b = 4 ∨ b = 6 ∨ b = 7 ∨ b = 14 ∨ sm_br (.tableswitch (115) 0 14 #[76, 115, 115, 82, 89, 115, 96, 103, 115, 115, 115, 115, 115, 115, 109]) 76 68 [.int (nI b)] = some (183, [])) := by decide +kernel
theorem zSt_1 {d : Nat} {S : cS} {k : Nat} {e69 : Nat} {e70 : Nat} {S1 : cS} {k1 : Nat} {e67 : Nat} {e68 : Nat} {S2 : cS} (hk : sI S 6115 = nI k) (mk : k < 6001) (he69 : sA S 69 k = nI e69) (me69 : e69 < 2 ^ 20) (he70 : sA S 70 k = nI e70) (me70 : e70 < 2 ^ 20) (c1 : Ans (d + 8) 302 [.ref 61, .int (nI 0), .int (nI e69)] S none S1) (hk1 : sI S1 6115 = nI k1) (mk1 : k1 < 6001) (he67 : sA S1 67 k1 = nI e67) (me67 : e67 < 2 ^ 20) (b1 : e67 = 2) (he68 : sA S1 68 k1 = nI e68) (me68 : e68 < 2 ^ 20) (sw15 : e68 = 0) (c2 : Ans (d + 8) 333 [.ref 61, .int (nI e70)] S1 (some (.int (nI 1))) S2) : Bod (d + 8) 301 0 [(0, .ref 61)] [] S (some (.int 1)) (S2) := by
  refine Bod.go dc_301_0 rfl ?_
  refine Bod.get dc_301_1 fr_301_138 (mk_61 _) rfl ?_
  refine Bod.go dc_301_4 rfl ?_
  refine Bod.get dc_301_5 fr_301_190 (mk_61 _) rfl ?_
  refine Bod.eqI (nI k) (by first | assumption | rfl | exact congrArg nI (by omega) | (simp (disch := omega) only [rI, rIe, rA, rIA, rLA, rJA, rVI, rQI, rVA, rQA, upd_at,  rAI, rLI, rJI, nI_add, pk_sub, kc_0, kc_1, kc_2, kc_3, kc_4, kc_5, reduceIte, Nat.reduceEqDiff, Nat.add_zero, rI_hold, rI_hold, rL_hold, hk]; done)) ?_
  refine Bod.ialdN k rfl (by omega) (by omega) dc_301_8 (mk_69 _) ?_
  refine Bod.eqI (nI e69) (by first | assumption | rfl | exact congrArg nI (by omega) | (simp (disch := omega) only [rI, rIe, rA, rIA, rLA, rJA, rVI, rQI, rVA, rQA, upd_at,  rAI, rLI, rJI, nI_add, pk_sub, kc_0, kc_1, kc_2, kc_3, kc_4, kc_5, reduceIte, Nat.reduceEqDiff, Nat.add_zero, rI_hold, rI_hold, rL_hold, hk, he69]; done)) ?_
  refine Bod.istn dc_301_9 (by rw [ml_301]; exact Nat.le_of_ble_eq_true rfl) ?_
  refine Bod.go dc_301_10 rfl ?_
  refine Bod.get dc_301_11 fr_301_141 (mk_61 _) rfl ?_
  refine Bod.go dc_301_14 rfl ?_
  refine Bod.get dc_301_15 fr_301_190 (mk_61 _) rfl ?_
  refine Bod.eqI (nI k) (by first | assumption | rfl | exact congrArg nI (by omega) | (simp (disch := omega) only [rI, rIe, rA, rIA, rLA, rJA, rVI, rQI, rVA, rQA, upd_at,  rAI, rLI, rJI, nI_add, pk_sub, kc_0, kc_1, kc_2, kc_3, kc_4, kc_5, reduceIte, Nat.reduceEqDiff, Nat.add_zero, rI_hold, rI_hold, rL_hold, hk, he69]; done)) ?_
  refine Bod.ialdN k rfl (by omega) (by omega) dc_301_18 (mk_70 _) ?_
  refine Bod.eqI (nI e70) (by first | assumption | rfl | exact congrArg nI (by omega) | (simp (disch := omega) only [rI, rIe, rA, rIA, rLA, rJA, rVI, rQI, rVA, rQA, upd_at,  rAI, rLI, rJI, nI_add, pk_sub, kc_0, kc_1, kc_2, kc_3, kc_4, kc_5, reduceIte, Nat.reduceEqDiff, Nat.add_zero, rI_hold, rI_hold, rL_hold, hk, he69, he70]; done)) ?_
  refine Bod.istn dc_301_19 (by rw [ml_301]; exact Nat.le_of_ble_eq_true rfl) ?_
  refine Bod.go dc_301_20 rfl ?_
  refine Bod.ic 0 (by decide) dc_301_21 ?_
  refine Bod.go dc_301_22 rfl ?_
  refine Bod.virt (r := []) dc_301_23 kr_301_216 ⟨Or.inl rfl, ow_302, cl_14⟩ (by rw [np_302]; rfl) (by rw [np_302]; rfl) (ob_of (mk_61 _)) (Nat.le_of_ble_eq_true rfl) (c1  ) ?_
  show Bod _ _ _ _ [] _ _ _
  refine Bod.go dc_301_26 rfl ?_
  refine Bod.get dc_301_27 fr_301_129 (mk_61 _) rfl ?_
  refine Bod.go dc_301_30 rfl ?_
  refine Bod.get dc_301_31 fr_301_190 (mk_61 _) rfl ?_
  refine Bod.eqI (nI k1) (by first | (simp (disch := omega) only [rI, rIe, rA, rIA, rLA, rJA, rVI, rQI, rVA, rQA, upd_at,  rAI, rLI, rJI, nI_add, pk_sub, kc_0, kc_1, kc_2, kc_3, kc_4, kc_5, reduceIte, Nat.reduceEqDiff, Nat.add_zero, rI_hold, rI_hold, rL_hold, hk, he69, he70, hk1]; done) | (simp (disch := omega) only [rI, rIe, rA, rIA, rLA, rJA, rVI, rQI, rVA, rQA, upd_at,  rAI, rLI, rJI, nI_add, pk_sub, kc_0, kc_1, kc_2, kc_3, kc_4, kc_5, reduceIte, Nat.reduceEqDiff, Nat.add_zero, rI_hold, rI_hold, rL_hold, hk, he69, he70, hk1]; exact congrArg nI (by omega))) ?_
  refine Bod.ialdN k1 rfl (by omega) (by omega) dc_301_34 (mk_67 _) ?_
  refine Bod.eqI (nI e67) (by first | (simp (disch := omega) only [rI, rIe, rA, rIA, rLA, rJA, rVI, rQI, rVA, rQA, upd_at,  rAI, rLI, rJI, nI_add, pk_sub, kc_0, kc_1, kc_2, kc_3, kc_4, kc_5, reduceIte, Nat.reduceEqDiff, Nat.add_zero, rI_hold, rI_hold, rL_hold, hk, he69, he70, hk1, he67]; done) | (simp (disch := omega) only [rI, rIe, rA, rIA, rLA, rJA, rVI, rQI, rVA, rQA, upd_at,  rAI, rLI, rJI, nI_add, pk_sub, kc_0, kc_1, kc_2, kc_3, kc_4, kc_5, reduceIte, Nat.reduceEqDiff, Nat.add_zero, rI_hold, rI_hold, rL_hold, hk, he69, he70, hk1, he67]; exact congrArg nI (by omega))) ?_
  refine Bod.ic 2 (by decide) dc_301_35 ?_
  refine Bod.icT dc_301_36 rfl (k2_eq_T (k_eq e67 2 rfl rfl (by omega))) ?_
  refine Bod.go dc_301_59 rfl ?_
  refine Bod.get dc_301_60 fr_301_135 (mk_61 _) rfl ?_
  refine Bod.go dc_301_63 rfl ?_
  refine Bod.get dc_301_64 fr_301_190 (mk_61 _) rfl ?_
  refine Bod.eqI (nI k1) (by first | (simp (disch := omega) only [rI, rIe, rA, rIA, rLA, rJA, rVI, rQI, rVA, rQA, upd_at,  rAI, rLI, rJI, nI_add, pk_sub, kc_0, kc_1, kc_2, kc_3, kc_4, kc_5, reduceIte, Nat.reduceEqDiff, Nat.add_zero, rI_hold, rI_hold, rL_hold, hk, he69, he70, hk1, he67]; done) | (simp (disch := omega) only [rI, rIe, rA, rIA, rLA, rJA, rVI, rQI, rVA, rQA, upd_at,  rAI, rLI, rJI, nI_add, pk_sub, kc_0, kc_1, kc_2, kc_3, kc_4, kc_5, reduceIte, Nat.reduceEqDiff, Nat.add_zero, rI_hold, rI_hold, rL_hold, hk, he69, he70, hk1, he67]; exact congrArg nI (by omega))) ?_
  refine Bod.ialdN k1 rfl (by omega) (by omega) dc_301_67 (mk_68 _) ?_
  refine Bod.eqI (nI e68) (by first | (simp (disch := omega) only [rI, rIe, rA, rIA, rLA, rJA, rVI, rQI, rVA, rQA, upd_at,  rAI, rLI, rJI, nI_add, pk_sub, kc_0, kc_1, kc_2, kc_3, kc_4, kc_5, reduceIte, Nat.reduceEqDiff, Nat.add_zero, rI_hold, rI_hold, rL_hold, hk, he69, he70, hk1, he67, he68]; done) | (simp (disch := omega) only [rI, rIe, rA, rIA, rLA, rJA, rVI, rQI, rVA, rQA, upd_at,  rAI, rLI, rJI, nI_add, pk_sub, kc_0, kc_1, kc_2, kc_3, kc_4, kc_5, reduceIte, Nat.reduceEqDiff, Nat.add_zero, rI_hold, rI_hold, rL_hold, hk, he69, he70, hk1, he67, he68]; exact congrArg nI (by omega))) ?_
  refine Bod.sw (t := 144) dc_301_68 rfl rfl (by rw [sw15]; decide +kernel) ?_
  refine Bod.go dc_301_144 rfl ?_
  refine Bod.go dc_301_145 rfl ?_
  refine Bod.virt (r := []) dc_301_146 kr_301_282 ⟨Or.inl rfl, ow_333, cl_14⟩ (by rw [np_333]; rfl) (by rw [np_333]; rfl) (ob_of (mk_61 _)) (Nat.le_of_ble_eq_true rfl) (c2  ) ?_
  show Bod _ _ _ _ [_] _ _ _
  exact Bod.retZ dc_301_149 rt_301 (Or.inr rfl)
theorem zSt_2 {d : Nat} {S : cS} {k : Nat} {e69 : Nat} {e70 : Nat} {S1 : cS} {k1 : Nat} {e67 : Nat} {e68 : Nat} {S2 : cS} (hk : sI S 6115 = nI k) (mk : k < 6001) (he69 : sA S 69 k = nI e69) (me69 : e69 < 2 ^ 20) (he70 : sA S 70 k = nI e70) (me70 : e70 < 2 ^ 20) (c1 : Ans (d + 8) 302 [.ref 61, .int (nI 0), .int (nI e69)] S none S1) (hk1 : sI S1 6115 = nI k1) (mk1 : k1 < 6001) (he67 : sA S1 67 k1 = nI e67) (me67 : e67 < 2 ^ 20) (b1 : e67 = 2) (he68 : sA S1 68 k1 = nI e68) (me68 : e68 < 2 ^ 20) (sw15 : e68 = 0) (c2 : Ans (d + 8) 333 [.ref 61, .int (nI e70)] S1 (some (.int (nI 0))) S2) : Bod (d + 8) 301 0 [(0, .ref 61)] [] S (some (.int 0)) (S2) := by
  refine Bod.go dc_301_0 rfl ?_
  refine Bod.get dc_301_1 fr_301_138 (mk_61 _) rfl ?_
  refine Bod.go dc_301_4 rfl ?_
  refine Bod.get dc_301_5 fr_301_190 (mk_61 _) rfl ?_
  refine Bod.eqI (nI k) (by first | assumption | rfl | exact congrArg nI (by omega) | (simp (disch := omega) only [rI, rIe, rA, rIA, rLA, rJA, rVI, rQI, rVA, rQA, upd_at,  rAI, rLI, rJI, nI_add, pk_sub, kc_0, kc_1, kc_2, kc_3, kc_4, kc_5, reduceIte, Nat.reduceEqDiff, Nat.add_zero, rI_hold, rI_hold, rL_hold, hk]; done)) ?_
  refine Bod.ialdN k rfl (by omega) (by omega) dc_301_8 (mk_69 _) ?_
  refine Bod.eqI (nI e69) (by first | assumption | rfl | exact congrArg nI (by omega) | (simp (disch := omega) only [rI, rIe, rA, rIA, rLA, rJA, rVI, rQI, rVA, rQA, upd_at,  rAI, rLI, rJI, nI_add, pk_sub, kc_0, kc_1, kc_2, kc_3, kc_4, kc_5, reduceIte, Nat.reduceEqDiff, Nat.add_zero, rI_hold, rI_hold, rL_hold, hk, he69]; done)) ?_
  refine Bod.istn dc_301_9 (by rw [ml_301]; exact Nat.le_of_ble_eq_true rfl) ?_
  refine Bod.go dc_301_10 rfl ?_
  refine Bod.get dc_301_11 fr_301_141 (mk_61 _) rfl ?_
  refine Bod.go dc_301_14 rfl ?_
  refine Bod.get dc_301_15 fr_301_190 (mk_61 _) rfl ?_
  refine Bod.eqI (nI k) (by first | assumption | rfl | exact congrArg nI (by omega) | (simp (disch := omega) only [rI, rIe, rA, rIA, rLA, rJA, rVI, rQI, rVA, rQA, upd_at,  rAI, rLI, rJI, nI_add, pk_sub, kc_0, kc_1, kc_2, kc_3, kc_4, kc_5, reduceIte, Nat.reduceEqDiff, Nat.add_zero, rI_hold, rI_hold, rL_hold, hk, he69]; done)) ?_
  refine Bod.ialdN k rfl (by omega) (by omega) dc_301_18 (mk_70 _) ?_
  refine Bod.eqI (nI e70) (by first | assumption | rfl | exact congrArg nI (by omega) | (simp (disch := omega) only [rI, rIe, rA, rIA, rLA, rJA, rVI, rQI, rVA, rQA, upd_at,  rAI, rLI, rJI, nI_add, pk_sub, kc_0, kc_1, kc_2, kc_3, kc_4, kc_5, reduceIte, Nat.reduceEqDiff, Nat.add_zero, rI_hold, rI_hold, rL_hold, hk, he69, he70]; done)) ?_
  refine Bod.istn dc_301_19 (by rw [ml_301]; exact Nat.le_of_ble_eq_true rfl) ?_
  refine Bod.go dc_301_20 rfl ?_
  refine Bod.ic 0 (by decide) dc_301_21 ?_
  refine Bod.go dc_301_22 rfl ?_
  refine Bod.virt (r := []) dc_301_23 kr_301_216 ⟨Or.inl rfl, ow_302, cl_14⟩ (by rw [np_302]; rfl) (by rw [np_302]; rfl) (ob_of (mk_61 _)) (Nat.le_of_ble_eq_true rfl) (c1  ) ?_
  show Bod _ _ _ _ [] _ _ _
  refine Bod.go dc_301_26 rfl ?_
  refine Bod.get dc_301_27 fr_301_129 (mk_61 _) rfl ?_
  refine Bod.go dc_301_30 rfl ?_
  refine Bod.get dc_301_31 fr_301_190 (mk_61 _) rfl ?_
  refine Bod.eqI (nI k1) (by first | (simp (disch := omega) only [rI, rIe, rA, rIA, rLA, rJA, rVI, rQI, rVA, rQA, upd_at,  rAI, rLI, rJI, nI_add, pk_sub, kc_0, kc_1, kc_2, kc_3, kc_4, kc_5, reduceIte, Nat.reduceEqDiff, Nat.add_zero, rI_hold, rI_hold, rL_hold, hk, he69, he70, hk1]; done) | (simp (disch := omega) only [rI, rIe, rA, rIA, rLA, rJA, rVI, rQI, rVA, rQA, upd_at,  rAI, rLI, rJI, nI_add, pk_sub, kc_0, kc_1, kc_2, kc_3, kc_4, kc_5, reduceIte, Nat.reduceEqDiff, Nat.add_zero, rI_hold, rI_hold, rL_hold, hk, he69, he70, hk1]; exact congrArg nI (by omega))) ?_
  refine Bod.ialdN k1 rfl (by omega) (by omega) dc_301_34 (mk_67 _) ?_
  refine Bod.eqI (nI e67) (by first | (simp (disch := omega) only [rI, rIe, rA, rIA, rLA, rJA, rVI, rQI, rVA, rQA, upd_at,  rAI, rLI, rJI, nI_add, pk_sub, kc_0, kc_1, kc_2, kc_3, kc_4, kc_5, reduceIte, Nat.reduceEqDiff, Nat.add_zero, rI_hold, rI_hold, rL_hold, hk, he69, he70, hk1, he67]; done) | (simp (disch := omega) only [rI, rIe, rA, rIA, rLA, rJA, rVI, rQI, rVA, rQA, upd_at,  rAI, rLI, rJI, nI_add, pk_sub, kc_0, kc_1, kc_2, kc_3, kc_4, kc_5, reduceIte, Nat.reduceEqDiff, Nat.add_zero, rI_hold, rI_hold, rL_hold, hk, he69, he70, hk1, he67]; exact congrArg nI (by omega))) ?_
  refine Bod.ic 2 (by decide) dc_301_35 ?_
  refine Bod.icT dc_301_36 rfl (k2_eq_T (k_eq e67 2 rfl rfl (by omega))) ?_
  refine Bod.go dc_301_59 rfl ?_
  refine Bod.get dc_301_60 fr_301_135 (mk_61 _) rfl ?_
  refine Bod.go dc_301_63 rfl ?_
  refine Bod.get dc_301_64 fr_301_190 (mk_61 _) rfl ?_
  refine Bod.eqI (nI k1) (by first | (simp (disch := omega) only [rI, rIe, rA, rIA, rLA, rJA, rVI, rQI, rVA, rQA, upd_at,  rAI, rLI, rJI, nI_add, pk_sub, kc_0, kc_1, kc_2, kc_3, kc_4, kc_5, reduceIte, Nat.reduceEqDiff, Nat.add_zero, rI_hold, rI_hold, rL_hold, hk, he69, he70, hk1, he67]; done) | (simp (disch := omega) only [rI, rIe, rA, rIA, rLA, rJA, rVI, rQI, rVA, rQA, upd_at,  rAI, rLI, rJI, nI_add, pk_sub, kc_0, kc_1, kc_2, kc_3, kc_4, kc_5, reduceIte, Nat.reduceEqDiff, Nat.add_zero, rI_hold, rI_hold, rL_hold, hk, he69, he70, hk1, he67]; exact congrArg nI (by omega))) ?_
  refine Bod.ialdN k1 rfl (by omega) (by omega) dc_301_67 (mk_68 _) ?_
  refine Bod.eqI (nI e68) (by first | (simp (disch := omega) only [rI, rIe, rA, rIA, rLA, rJA, rVI, rQI, rVA, rQA, upd_at,  rAI, rLI, rJI, nI_add, pk_sub, kc_0, kc_1, kc_2, kc_3, kc_4, kc_5, reduceIte, Nat.reduceEqDiff, Nat.add_zero, rI_hold, rI_hold, rL_hold, hk, he69, he70, hk1, he67, he68]; done) | (simp (disch := omega) only [rI, rIe, rA, rIA, rLA, rJA, rVI, rQI, rVA, rQA, upd_at,  rAI, rLI, rJI, nI_add, pk_sub, kc_0, kc_1, kc_2, kc_3, kc_4, kc_5, reduceIte, Nat.reduceEqDiff, Nat.add_zero, rI_hold, rI_hold, rL_hold, hk, he69, he70, hk1, he67, he68]; exact congrArg nI (by omega))) ?_
  refine Bod.sw (t := 144) dc_301_68 rfl rfl (by rw [sw15]; decide +kernel) ?_
  refine Bod.go dc_301_144 rfl ?_
  refine Bod.go dc_301_145 rfl ?_
  refine Bod.virt (r := []) dc_301_146 kr_301_282 ⟨Or.inl rfl, ow_333, cl_14⟩ (by rw [np_333]; rfl) (by rw [np_333]; rfl) (ob_of (mk_61 _)) (Nat.le_of_ble_eq_true rfl) (c2  ) ?_
  show Bod _ _ _ _ [_] _ _ _
  exact Bod.retZ dc_301_149 rt_301 (Or.inl rfl)
theorem zSt_3 {d : Nat} {S : cS} {k : Nat} {e69 : Nat} {e70 : Nat} {S1 : cS} {k1 : Nat} {e67 : Nat} {e68 : Nat} {S2 : cS} (hk : sI S 6115 = nI k) (mk : k < 6001) (he69 : sA S 69 k = nI e69) (me69 : e69 < 2 ^ 20) (he70 : sA S 70 k = nI e70) (me70 : e70 < 2 ^ 20) (c1 : Ans (d + 8) 302 [.ref 61, .int (nI 0), .int (nI e69)] S none S1) (hk1 : sI S1 6115 = nI k1) (mk1 : k1 < 6001) (he67 : sA S1 67 k1 = nI e67) (me67 : e67 < 2 ^ 20) (b1 : e67 = 2) (he68 : sA S1 68 k1 = nI e68) (me68 : e68 < 2 ^ 20) (sw15 : e68 = 3) (c2 : Ans (d + 8) 342 [.ref 61, .int (nI e70), .int (nI e69)] S1 (some (.int (nI 1))) S2) : Bod (d + 8) 301 0 [(0, .ref 61)] [] S (some (.int 1)) (S2) := by
  refine Bod.go dc_301_0 rfl ?_
  refine Bod.get dc_301_1 fr_301_138 (mk_61 _) rfl ?_
  refine Bod.go dc_301_4 rfl ?_
  refine Bod.get dc_301_5 fr_301_190 (mk_61 _) rfl ?_
  refine Bod.eqI (nI k) (by first | assumption | rfl | exact congrArg nI (by omega) | (simp (disch := omega) only [rI, rIe, rA, rIA, rLA, rJA, rVI, rQI, rVA, rQA, upd_at,  rAI, rLI, rJI, nI_add, pk_sub, kc_0, kc_1, kc_2, kc_3, kc_4, kc_5, reduceIte, Nat.reduceEqDiff, Nat.add_zero, rI_hold, rI_hold, rL_hold, hk]; done)) ?_
  refine Bod.ialdN k rfl (by omega) (by omega) dc_301_8 (mk_69 _) ?_
  refine Bod.eqI (nI e69) (by first | assumption | rfl | exact congrArg nI (by omega) | (simp (disch := omega) only [rI, rIe, rA, rIA, rLA, rJA, rVI, rQI, rVA, rQA, upd_at,  rAI, rLI, rJI, nI_add, pk_sub, kc_0, kc_1, kc_2, kc_3, kc_4, kc_5, reduceIte, Nat.reduceEqDiff, Nat.add_zero, rI_hold, rI_hold, rL_hold, hk, he69]; done)) ?_
  refine Bod.istn dc_301_9 (by rw [ml_301]; exact Nat.le_of_ble_eq_true rfl) ?_
  refine Bod.go dc_301_10 rfl ?_
  refine Bod.get dc_301_11 fr_301_141 (mk_61 _) rfl ?_
  refine Bod.go dc_301_14 rfl ?_
  refine Bod.get dc_301_15 fr_301_190 (mk_61 _) rfl ?_
  refine Bod.eqI (nI k) (by first | assumption | rfl | exact congrArg nI (by omega) | (simp (disch := omega) only [rI, rIe, rA, rIA, rLA, rJA, rVI, rQI, rVA, rQA, upd_at,  rAI, rLI, rJI, nI_add, pk_sub, kc_0, kc_1, kc_2, kc_3, kc_4, kc_5, reduceIte, Nat.reduceEqDiff, Nat.add_zero, rI_hold, rI_hold, rL_hold, hk, he69]; done)) ?_
  refine Bod.ialdN k rfl (by omega) (by omega) dc_301_18 (mk_70 _) ?_
  refine Bod.eqI (nI e70) (by first | assumption | rfl | exact congrArg nI (by omega) | (simp (disch := omega) only [rI, rIe, rA, rIA, rLA, rJA, rVI, rQI, rVA, rQA, upd_at,  rAI, rLI, rJI, nI_add, pk_sub, kc_0, kc_1, kc_2, kc_3, kc_4, kc_5, reduceIte, Nat.reduceEqDiff, Nat.add_zero, rI_hold, rI_hold, rL_hold, hk, he69, he70]; done)) ?_
  refine Bod.istn dc_301_19 (by rw [ml_301]; exact Nat.le_of_ble_eq_true rfl) ?_
  refine Bod.go dc_301_20 rfl ?_
  refine Bod.ic 0 (by decide) dc_301_21 ?_
  refine Bod.go dc_301_22 rfl ?_
  refine Bod.virt (r := []) dc_301_23 kr_301_216 ⟨Or.inl rfl, ow_302, cl_14⟩ (by rw [np_302]; rfl) (by rw [np_302]; rfl) (ob_of (mk_61 _)) (Nat.le_of_ble_eq_true rfl) (c1  ) ?_
  show Bod _ _ _ _ [] _ _ _
  refine Bod.go dc_301_26 rfl ?_
  refine Bod.get dc_301_27 fr_301_129 (mk_61 _) rfl ?_
  refine Bod.go dc_301_30 rfl ?_
  refine Bod.get dc_301_31 fr_301_190 (mk_61 _) rfl ?_
  refine Bod.eqI (nI k1) (by first | (simp (disch := omega) only [rI, rIe, rA, rIA, rLA, rJA, rVI, rQI, rVA, rQA, upd_at,  rAI, rLI, rJI, nI_add, pk_sub, kc_0, kc_1, kc_2, kc_3, kc_4, kc_5, reduceIte, Nat.reduceEqDiff, Nat.add_zero, rI_hold, rI_hold, rL_hold, hk, he69, he70, hk1]; done) | (simp (disch := omega) only [rI, rIe, rA, rIA, rLA, rJA, rVI, rQI, rVA, rQA, upd_at,  rAI, rLI, rJI, nI_add, pk_sub, kc_0, kc_1, kc_2, kc_3, kc_4, kc_5, reduceIte, Nat.reduceEqDiff, Nat.add_zero, rI_hold, rI_hold, rL_hold, hk, he69, he70, hk1]; exact congrArg nI (by omega))) ?_
  refine Bod.ialdN k1 rfl (by omega) (by omega) dc_301_34 (mk_67 _) ?_
  refine Bod.eqI (nI e67) (by first | (simp (disch := omega) only [rI, rIe, rA, rIA, rLA, rJA, rVI, rQI, rVA, rQA, upd_at,  rAI, rLI, rJI, nI_add, pk_sub, kc_0, kc_1, kc_2, kc_3, kc_4, kc_5, reduceIte, Nat.reduceEqDiff, Nat.add_zero, rI_hold, rI_hold, rL_hold, hk, he69, he70, hk1, he67]; done) | (simp (disch := omega) only [rI, rIe, rA, rIA, rLA, rJA, rVI, rQI, rVA, rQA, upd_at,  rAI, rLI, rJI, nI_add, pk_sub, kc_0, kc_1, kc_2, kc_3, kc_4, kc_5, reduceIte, Nat.reduceEqDiff, Nat.add_zero, rI_hold, rI_hold, rL_hold, hk, he69, he70, hk1, he67]; exact congrArg nI (by omega))) ?_
  refine Bod.ic 2 (by decide) dc_301_35 ?_
  refine Bod.icT dc_301_36 rfl (k2_eq_T (k_eq e67 2 rfl rfl (by omega))) ?_
  refine Bod.go dc_301_59 rfl ?_
  refine Bod.get dc_301_60 fr_301_135 (mk_61 _) rfl ?_
  refine Bod.go dc_301_63 rfl ?_
  refine Bod.get dc_301_64 fr_301_190 (mk_61 _) rfl ?_
  refine Bod.eqI (nI k1) (by first | (simp (disch := omega) only [rI, rIe, rA, rIA, rLA, rJA, rVI, rQI, rVA, rQA, upd_at,  rAI, rLI, rJI, nI_add, pk_sub, kc_0, kc_1, kc_2, kc_3, kc_4, kc_5, reduceIte, Nat.reduceEqDiff, Nat.add_zero, rI_hold, rI_hold, rL_hold, hk, he69, he70, hk1, he67]; done) | (simp (disch := omega) only [rI, rIe, rA, rIA, rLA, rJA, rVI, rQI, rVA, rQA, upd_at,  rAI, rLI, rJI, nI_add, pk_sub, kc_0, kc_1, kc_2, kc_3, kc_4, kc_5, reduceIte, Nat.reduceEqDiff, Nat.add_zero, rI_hold, rI_hold, rL_hold, hk, he69, he70, hk1, he67]; exact congrArg nI (by omega))) ?_
  refine Bod.ialdN k1 rfl (by omega) (by omega) dc_301_67 (mk_68 _) ?_
  refine Bod.eqI (nI e68) (by first | (simp (disch := omega) only [rI, rIe, rA, rIA, rLA, rJA, rVI, rQI, rVA, rQA, upd_at,  rAI, rLI, rJI, nI_add, pk_sub, kc_0, kc_1, kc_2, kc_3, kc_4, kc_5, reduceIte, Nat.reduceEqDiff, Nat.add_zero, rI_hold, rI_hold, rL_hold, hk, he69, he70, hk1, he67, he68]; done) | (simp (disch := omega) only [rI, rIe, rA, rIA, rLA, rJA, rVI, rQI, rVA, rQA, upd_at,  rAI, rLI, rJI, nI_add, pk_sub, kc_0, kc_1, kc_2, kc_3, kc_4, kc_5, reduceIte, Nat.reduceEqDiff, Nat.add_zero, rI_hold, rI_hold, rL_hold, hk, he69, he70, hk1, he67, he68]; exact congrArg nI (by omega))) ?_
  refine Bod.sw (t := 150) dc_301_68 rfl rfl (by rw [sw15]; decide +kernel) ?_
  refine Bod.go dc_301_150 rfl ?_
  refine Bod.go dc_301_151 rfl ?_
  refine Bod.go dc_301_152 rfl ?_
  refine Bod.virt (r := []) dc_301_153 kr_301_285 ⟨Or.inl rfl, ow_342, cl_14⟩ (by rw [np_342]; rfl) (by rw [np_342]; rfl) (ob_of (mk_61 _)) (Nat.le_of_ble_eq_true rfl) (c2  ) ?_
  show Bod _ _ _ _ [_] _ _ _
  exact Bod.retZ dc_301_156 rt_301 (Or.inr rfl)
theorem zSt_4 {d : Nat} {S : cS} {k : Nat} {e69 : Nat} {e70 : Nat} {S1 : cS} {k1 : Nat} {e67 : Nat} {e68 : Nat} {S2 : cS} (hk : sI S 6115 = nI k) (mk : k < 6001) (he69 : sA S 69 k = nI e69) (me69 : e69 < 2 ^ 20) (he70 : sA S 70 k = nI e70) (me70 : e70 < 2 ^ 20) (c1 : Ans (d + 8) 302 [.ref 61, .int (nI 0), .int (nI e69)] S none S1) (hk1 : sI S1 6115 = nI k1) (mk1 : k1 < 6001) (he67 : sA S1 67 k1 = nI e67) (me67 : e67 < 2 ^ 20) (b1 : e67 = 2) (he68 : sA S1 68 k1 = nI e68) (me68 : e68 < 2 ^ 20) (sw15 : e68 = 3) (c2 : Ans (d + 8) 342 [.ref 61, .int (nI e70), .int (nI e69)] S1 (some (.int (nI 0))) S2) : Bod (d + 8) 301 0 [(0, .ref 61)] [] S (some (.int 0)) (S2) := by
  refine Bod.go dc_301_0 rfl ?_
  refine Bod.get dc_301_1 fr_301_138 (mk_61 _) rfl ?_
  refine Bod.go dc_301_4 rfl ?_
  refine Bod.get dc_301_5 fr_301_190 (mk_61 _) rfl ?_
  refine Bod.eqI (nI k) (by first | assumption | rfl | exact congrArg nI (by omega) | (simp (disch := omega) only [rI, rIe, rA, rIA, rLA, rJA, rVI, rQI, rVA, rQA, upd_at,  rAI, rLI, rJI, nI_add, pk_sub, kc_0, kc_1, kc_2, kc_3, kc_4, kc_5, reduceIte, Nat.reduceEqDiff, Nat.add_zero, rI_hold, rI_hold, rL_hold, hk]; done)) ?_
  refine Bod.ialdN k rfl (by omega) (by omega) dc_301_8 (mk_69 _) ?_
  refine Bod.eqI (nI e69) (by first | assumption | rfl | exact congrArg nI (by omega) | (simp (disch := omega) only [rI, rIe, rA, rIA, rLA, rJA, rVI, rQI, rVA, rQA, upd_at,  rAI, rLI, rJI, nI_add, pk_sub, kc_0, kc_1, kc_2, kc_3, kc_4, kc_5, reduceIte, Nat.reduceEqDiff, Nat.add_zero, rI_hold, rI_hold, rL_hold, hk, he69]; done)) ?_
  refine Bod.istn dc_301_9 (by rw [ml_301]; exact Nat.le_of_ble_eq_true rfl) ?_
  refine Bod.go dc_301_10 rfl ?_
  refine Bod.get dc_301_11 fr_301_141 (mk_61 _) rfl ?_
  refine Bod.go dc_301_14 rfl ?_
  refine Bod.get dc_301_15 fr_301_190 (mk_61 _) rfl ?_
  refine Bod.eqI (nI k) (by first | assumption | rfl | exact congrArg nI (by omega) | (simp (disch := omega) only [rI, rIe, rA, rIA, rLA, rJA, rVI, rQI, rVA, rQA, upd_at,  rAI, rLI, rJI, nI_add, pk_sub, kc_0, kc_1, kc_2, kc_3, kc_4, kc_5, reduceIte, Nat.reduceEqDiff, Nat.add_zero, rI_hold, rI_hold, rL_hold, hk, he69]; done)) ?_
  refine Bod.ialdN k rfl (by omega) (by omega) dc_301_18 (mk_70 _) ?_
  refine Bod.eqI (nI e70) (by first | assumption | rfl | exact congrArg nI (by omega) | (simp (disch := omega) only [rI, rIe, rA, rIA, rLA, rJA, rVI, rQI, rVA, rQA, upd_at,  rAI, rLI, rJI, nI_add, pk_sub, kc_0, kc_1, kc_2, kc_3, kc_4, kc_5, reduceIte, Nat.reduceEqDiff, Nat.add_zero, rI_hold, rI_hold, rL_hold, hk, he69, he70]; done)) ?_
  refine Bod.istn dc_301_19 (by rw [ml_301]; exact Nat.le_of_ble_eq_true rfl) ?_
  refine Bod.go dc_301_20 rfl ?_
  refine Bod.ic 0 (by decide) dc_301_21 ?_
  refine Bod.go dc_301_22 rfl ?_
  refine Bod.virt (r := []) dc_301_23 kr_301_216 ⟨Or.inl rfl, ow_302, cl_14⟩ (by rw [np_302]; rfl) (by rw [np_302]; rfl) (ob_of (mk_61 _)) (Nat.le_of_ble_eq_true rfl) (c1  ) ?_
  show Bod _ _ _ _ [] _ _ _
  refine Bod.go dc_301_26 rfl ?_
  refine Bod.get dc_301_27 fr_301_129 (mk_61 _) rfl ?_
  refine Bod.go dc_301_30 rfl ?_
  refine Bod.get dc_301_31 fr_301_190 (mk_61 _) rfl ?_
  refine Bod.eqI (nI k1) (by first | (simp (disch := omega) only [rI, rIe, rA, rIA, rLA, rJA, rVI, rQI, rVA, rQA, upd_at,  rAI, rLI, rJI, nI_add, pk_sub, kc_0, kc_1, kc_2, kc_3, kc_4, kc_5, reduceIte, Nat.reduceEqDiff, Nat.add_zero, rI_hold, rI_hold, rL_hold, hk, he69, he70, hk1]; done) | (simp (disch := omega) only [rI, rIe, rA, rIA, rLA, rJA, rVI, rQI, rVA, rQA, upd_at,  rAI, rLI, rJI, nI_add, pk_sub, kc_0, kc_1, kc_2, kc_3, kc_4, kc_5, reduceIte, Nat.reduceEqDiff, Nat.add_zero, rI_hold, rI_hold, rL_hold, hk, he69, he70, hk1]; exact congrArg nI (by omega))) ?_
  refine Bod.ialdN k1 rfl (by omega) (by omega) dc_301_34 (mk_67 _) ?_
  refine Bod.eqI (nI e67) (by first | (simp (disch := omega) only [rI, rIe, rA, rIA, rLA, rJA, rVI, rQI, rVA, rQA, upd_at,  rAI, rLI, rJI, nI_add, pk_sub, kc_0, kc_1, kc_2, kc_3, kc_4, kc_5, reduceIte, Nat.reduceEqDiff, Nat.add_zero, rI_hold, rI_hold, rL_hold, hk, he69, he70, hk1, he67]; done) | (simp (disch := omega) only [rI, rIe, rA, rIA, rLA, rJA, rVI, rQI, rVA, rQA, upd_at,  rAI, rLI, rJI, nI_add, pk_sub, kc_0, kc_1, kc_2, kc_3, kc_4, kc_5, reduceIte, Nat.reduceEqDiff, Nat.add_zero, rI_hold, rI_hold, rL_hold, hk, he69, he70, hk1, he67]; exact congrArg nI (by omega))) ?_
  refine Bod.ic 2 (by decide) dc_301_35 ?_
  refine Bod.icT dc_301_36 rfl (k2_eq_T (k_eq e67 2 rfl rfl (by omega))) ?_
  refine Bod.go dc_301_59 rfl ?_
  refine Bod.get dc_301_60 fr_301_135 (mk_61 _) rfl ?_
  refine Bod.go dc_301_63 rfl ?_
  refine Bod.get dc_301_64 fr_301_190 (mk_61 _) rfl ?_
  refine Bod.eqI (nI k1) (by first | (simp (disch := omega) only [rI, rIe, rA, rIA, rLA, rJA, rVI, rQI, rVA, rQA, upd_at,  rAI, rLI, rJI, nI_add, pk_sub, kc_0, kc_1, kc_2, kc_3, kc_4, kc_5, reduceIte, Nat.reduceEqDiff, Nat.add_zero, rI_hold, rI_hold, rL_hold, hk, he69, he70, hk1, he67]; done) | (simp (disch := omega) only [rI, rIe, rA, rIA, rLA, rJA, rVI, rQI, rVA, rQA, upd_at,  rAI, rLI, rJI, nI_add, pk_sub, kc_0, kc_1, kc_2, kc_3, kc_4, kc_5, reduceIte, Nat.reduceEqDiff, Nat.add_zero, rI_hold, rI_hold, rL_hold, hk, he69, he70, hk1, he67]; exact congrArg nI (by omega))) ?_
  refine Bod.ialdN k1 rfl (by omega) (by omega) dc_301_67 (mk_68 _) ?_
  refine Bod.eqI (nI e68) (by first | (simp (disch := omega) only [rI, rIe, rA, rIA, rLA, rJA, rVI, rQI, rVA, rQA, upd_at,  rAI, rLI, rJI, nI_add, pk_sub, kc_0, kc_1, kc_2, kc_3, kc_4, kc_5, reduceIte, Nat.reduceEqDiff, Nat.add_zero, rI_hold, rI_hold, rL_hold, hk, he69, he70, hk1, he67, he68]; done) | (simp (disch := omega) only [rI, rIe, rA, rIA, rLA, rJA, rVI, rQI, rVA, rQA, upd_at,  rAI, rLI, rJI, nI_add, pk_sub, kc_0, kc_1, kc_2, kc_3, kc_4, kc_5, reduceIte, Nat.reduceEqDiff, Nat.add_zero, rI_hold, rI_hold, rL_hold, hk, he69, he70, hk1, he67, he68]; exact congrArg nI (by omega))) ?_
  refine Bod.sw (t := 150) dc_301_68 rfl rfl (by rw [sw15]; decide +kernel) ?_
  refine Bod.go dc_301_150 rfl ?_
  refine Bod.go dc_301_151 rfl ?_
  refine Bod.go dc_301_152 rfl ?_
  refine Bod.virt (r := []) dc_301_153 kr_301_285 ⟨Or.inl rfl, ow_342, cl_14⟩ (by rw [np_342]; rfl) (by rw [np_342]; rfl) (ob_of (mk_61 _)) (Nat.le_of_ble_eq_true rfl) (c2  ) ?_
  show Bod _ _ _ _ [_] _ _ _
  exact Bod.retZ dc_301_156 rt_301 (Or.inl rfl)
theorem zSt_5 {d : Nat} {S : cS} {k : Nat} {e69 : Nat} {e70 : Nat} {S1 : cS} {k1 : Nat} {e67 : Nat} {e68 : Nat} {S2 : cS} (hk : sI S 6115 = nI k) (mk : k < 6001) (he69 : sA S 69 k = nI e69) (me69 : e69 < 2 ^ 20) (he70 : sA S 70 k = nI e70) (me70 : e70 < 2 ^ 20) (c1 : Ans (d + 8) 302 [.ref 61, .int (nI 0), .int (nI e69)] S none S1) (hk1 : sI S1 6115 = nI k1) (mk1 : k1 < 6001) (he67 : sA S1 67 k1 = nI e67) (me67 : e67 < 2 ^ 20) (b1 : e67 = 2) (he68 : sA S1 68 k1 = nI e68) (me68 : e68 < 2 ^ 20) (sw15 : e68 = 4) (c2 : Ans (d + 8) 345 [.ref 61, .int (nI e70), .int (nI e69)] S1 (some (.int (nI 1))) S2) : Bod (d + 8) 301 0 [(0, .ref 61)] [] S (some (.int 1)) (S2) := by
  refine Bod.go dc_301_0 rfl ?_
  refine Bod.get dc_301_1 fr_301_138 (mk_61 _) rfl ?_
  refine Bod.go dc_301_4 rfl ?_
  refine Bod.get dc_301_5 fr_301_190 (mk_61 _) rfl ?_
  refine Bod.eqI (nI k) (by first | assumption | rfl | exact congrArg nI (by omega) | (simp (disch := omega) only [rI, rIe, rA, rIA, rLA, rJA, rVI, rQI, rVA, rQA, upd_at,  rAI, rLI, rJI, nI_add, pk_sub, kc_0, kc_1, kc_2, kc_3, kc_4, kc_5, reduceIte, Nat.reduceEqDiff, Nat.add_zero, rI_hold, rI_hold, rL_hold, hk]; done)) ?_
  refine Bod.ialdN k rfl (by omega) (by omega) dc_301_8 (mk_69 _) ?_
  refine Bod.eqI (nI e69) (by first | assumption | rfl | exact congrArg nI (by omega) | (simp (disch := omega) only [rI, rIe, rA, rIA, rLA, rJA, rVI, rQI, rVA, rQA, upd_at,  rAI, rLI, rJI, nI_add, pk_sub, kc_0, kc_1, kc_2, kc_3, kc_4, kc_5, reduceIte, Nat.reduceEqDiff, Nat.add_zero, rI_hold, rI_hold, rL_hold, hk, he69]; done)) ?_
  refine Bod.istn dc_301_9 (by rw [ml_301]; exact Nat.le_of_ble_eq_true rfl) ?_
  refine Bod.go dc_301_10 rfl ?_
  refine Bod.get dc_301_11 fr_301_141 (mk_61 _) rfl ?_
  refine Bod.go dc_301_14 rfl ?_
  refine Bod.get dc_301_15 fr_301_190 (mk_61 _) rfl ?_
  refine Bod.eqI (nI k) (by first | assumption | rfl | exact congrArg nI (by omega) | (simp (disch := omega) only [rI, rIe, rA, rIA, rLA, rJA, rVI, rQI, rVA, rQA, upd_at,  rAI, rLI, rJI, nI_add, pk_sub, kc_0, kc_1, kc_2, kc_3, kc_4, kc_5, reduceIte, Nat.reduceEqDiff, Nat.add_zero, rI_hold, rI_hold, rL_hold, hk, he69]; done)) ?_
  refine Bod.ialdN k rfl (by omega) (by omega) dc_301_18 (mk_70 _) ?_
  refine Bod.eqI (nI e70) (by first | assumption | rfl | exact congrArg nI (by omega) | (simp (disch := omega) only [rI, rIe, rA, rIA, rLA, rJA, rVI, rQI, rVA, rQA, upd_at,  rAI, rLI, rJI, nI_add, pk_sub, kc_0, kc_1, kc_2, kc_3, kc_4, kc_5, reduceIte, Nat.reduceEqDiff, Nat.add_zero, rI_hold, rI_hold, rL_hold, hk, he69, he70]; done)) ?_
  refine Bod.istn dc_301_19 (by rw [ml_301]; exact Nat.le_of_ble_eq_true rfl) ?_
  refine Bod.go dc_301_20 rfl ?_
  refine Bod.ic 0 (by decide) dc_301_21 ?_
  refine Bod.go dc_301_22 rfl ?_
  refine Bod.virt (r := []) dc_301_23 kr_301_216 ⟨Or.inl rfl, ow_302, cl_14⟩ (by rw [np_302]; rfl) (by rw [np_302]; rfl) (ob_of (mk_61 _)) (Nat.le_of_ble_eq_true rfl) (c1  ) ?_
  show Bod _ _ _ _ [] _ _ _
  refine Bod.go dc_301_26 rfl ?_
  refine Bod.get dc_301_27 fr_301_129 (mk_61 _) rfl ?_
  refine Bod.go dc_301_30 rfl ?_
  refine Bod.get dc_301_31 fr_301_190 (mk_61 _) rfl ?_
  refine Bod.eqI (nI k1) (by first | (simp (disch := omega) only [rI, rIe, rA, rIA, rLA, rJA, rVI, rQI, rVA, rQA, upd_at,  rAI, rLI, rJI, nI_add, pk_sub, kc_0, kc_1, kc_2, kc_3, kc_4, kc_5, reduceIte, Nat.reduceEqDiff, Nat.add_zero, rI_hold, rI_hold, rL_hold, hk, he69, he70, hk1]; done) | (simp (disch := omega) only [rI, rIe, rA, rIA, rLA, rJA, rVI, rQI, rVA, rQA, upd_at,  rAI, rLI, rJI, nI_add, pk_sub, kc_0, kc_1, kc_2, kc_3, kc_4, kc_5, reduceIte, Nat.reduceEqDiff, Nat.add_zero, rI_hold, rI_hold, rL_hold, hk, he69, he70, hk1]; exact congrArg nI (by omega))) ?_
  refine Bod.ialdN k1 rfl (by omega) (by omega) dc_301_34 (mk_67 _) ?_
  refine Bod.eqI (nI e67) (by first | (simp (disch := omega) only [rI, rIe, rA, rIA, rLA, rJA, rVI, rQI, rVA, rQA, upd_at,  rAI, rLI, rJI, nI_add, pk_sub, kc_0, kc_1, kc_2, kc_3, kc_4, kc_5, reduceIte, Nat.reduceEqDiff, Nat.add_zero, rI_hold, rI_hold, rL_hold, hk, he69, he70, hk1, he67]; done) | (simp (disch := omega) only [rI, rIe, rA, rIA, rLA, rJA, rVI, rQI, rVA, rQA, upd_at,  rAI, rLI, rJI, nI_add, pk_sub, kc_0, kc_1, kc_2, kc_3, kc_4, kc_5, reduceIte, Nat.reduceEqDiff, Nat.add_zero, rI_hold, rI_hold, rL_hold, hk, he69, he70, hk1, he67]; exact congrArg nI (by omega))) ?_
  refine Bod.ic 2 (by decide) dc_301_35 ?_
  refine Bod.icT dc_301_36 rfl (k2_eq_T (k_eq e67 2 rfl rfl (by omega))) ?_
  refine Bod.go dc_301_59 rfl ?_
  refine Bod.get dc_301_60 fr_301_135 (mk_61 _) rfl ?_
  refine Bod.go dc_301_63 rfl ?_
  refine Bod.get dc_301_64 fr_301_190 (mk_61 _) rfl ?_
  refine Bod.eqI (nI k1) (by first | (simp (disch := omega) only [rI, rIe, rA, rIA, rLA, rJA, rVI, rQI, rVA, rQA, upd_at,  rAI, rLI, rJI, nI_add, pk_sub, kc_0, kc_1, kc_2, kc_3, kc_4, kc_5, reduceIte, Nat.reduceEqDiff, Nat.add_zero, rI_hold, rI_hold, rL_hold, hk, he69, he70, hk1, he67]; done) | (simp (disch := omega) only [rI, rIe, rA, rIA, rLA, rJA, rVI, rQI, rVA, rQA, upd_at,  rAI, rLI, rJI, nI_add, pk_sub, kc_0, kc_1, kc_2, kc_3, kc_4, kc_5, reduceIte, Nat.reduceEqDiff, Nat.add_zero, rI_hold, rI_hold, rL_hold, hk, he69, he70, hk1, he67]; exact congrArg nI (by omega))) ?_
  refine Bod.ialdN k1 rfl (by omega) (by omega) dc_301_67 (mk_68 _) ?_
  refine Bod.eqI (nI e68) (by first | (simp (disch := omega) only [rI, rIe, rA, rIA, rLA, rJA, rVI, rQI, rVA, rQA, upd_at,  rAI, rLI, rJI, nI_add, pk_sub, kc_0, kc_1, kc_2, kc_3, kc_4, kc_5, reduceIte, Nat.reduceEqDiff, Nat.add_zero, rI_hold, rI_hold, rL_hold, hk, he69, he70, hk1, he67, he68]; done) | (simp (disch := omega) only [rI, rIe, rA, rIA, rLA, rJA, rVI, rQI, rVA, rQA, upd_at,  rAI, rLI, rJI, nI_add, pk_sub, kc_0, kc_1, kc_2, kc_3, kc_4, kc_5, reduceIte, Nat.reduceEqDiff, Nat.add_zero, rI_hold, rI_hold, rL_hold, hk, he69, he70, hk1, he67, he68]; exact congrArg nI (by omega))) ?_
  refine Bod.sw (t := 157) dc_301_68 rfl rfl (by rw [sw15]; decide +kernel) ?_
  refine Bod.go dc_301_157 rfl ?_
  refine Bod.go dc_301_158 rfl ?_
  refine Bod.go dc_301_159 rfl ?_
  refine Bod.virt (r := []) dc_301_160 kr_301_289 ⟨Or.inl rfl, ow_345, cl_14⟩ (by rw [np_345]; rfl) (by rw [np_345]; rfl) (ob_of (mk_61 _)) (Nat.le_of_ble_eq_true rfl) (c2  ) ?_
  show Bod _ _ _ _ [_] _ _ _
  exact Bod.retZ dc_301_163 rt_301 (Or.inr rfl)
theorem zSt_6 {d : Nat} {S : cS} {k : Nat} {e69 : Nat} {e70 : Nat} {S1 : cS} {k1 : Nat} {e67 : Nat} {e68 : Nat} {S2 : cS} (hk : sI S 6115 = nI k) (mk : k < 6001) (he69 : sA S 69 k = nI e69) (me69 : e69 < 2 ^ 20) (he70 : sA S 70 k = nI e70) (me70 : e70 < 2 ^ 20) (c1 : Ans (d + 8) 302 [.ref 61, .int (nI 0), .int (nI e69)] S none S1) (hk1 : sI S1 6115 = nI k1) (mk1 : k1 < 6001) (he67 : sA S1 67 k1 = nI e67) (me67 : e67 < 2 ^ 20) (b1 : e67 = 2) (he68 : sA S1 68 k1 = nI e68) (me68 : e68 < 2 ^ 20) (sw15 : e68 = 4) (c2 : Ans (d + 8) 345 [.ref 61, .int (nI e70), .int (nI e69)] S1 (some (.int (nI 0))) S2) : Bod (d + 8) 301 0 [(0, .ref 61)] [] S (some (.int 0)) (S2) := by
  refine Bod.go dc_301_0 rfl ?_
  refine Bod.get dc_301_1 fr_301_138 (mk_61 _) rfl ?_
  refine Bod.go dc_301_4 rfl ?_
  refine Bod.get dc_301_5 fr_301_190 (mk_61 _) rfl ?_
  refine Bod.eqI (nI k) (by first | assumption | rfl | exact congrArg nI (by omega) | (simp (disch := omega) only [rI, rIe, rA, rIA, rLA, rJA, rVI, rQI, rVA, rQA, upd_at,  rAI, rLI, rJI, nI_add, pk_sub, kc_0, kc_1, kc_2, kc_3, kc_4, kc_5, reduceIte, Nat.reduceEqDiff, Nat.add_zero, rI_hold, rI_hold, rL_hold, hk]; done)) ?_
  refine Bod.ialdN k rfl (by omega) (by omega) dc_301_8 (mk_69 _) ?_
  refine Bod.eqI (nI e69) (by first | assumption | rfl | exact congrArg nI (by omega) | (simp (disch := omega) only [rI, rIe, rA, rIA, rLA, rJA, rVI, rQI, rVA, rQA, upd_at,  rAI, rLI, rJI, nI_add, pk_sub, kc_0, kc_1, kc_2, kc_3, kc_4, kc_5, reduceIte, Nat.reduceEqDiff, Nat.add_zero, rI_hold, rI_hold, rL_hold, hk, he69]; done)) ?_
  refine Bod.istn dc_301_9 (by rw [ml_301]; exact Nat.le_of_ble_eq_true rfl) ?_
  refine Bod.go dc_301_10 rfl ?_
  refine Bod.get dc_301_11 fr_301_141 (mk_61 _) rfl ?_
  refine Bod.go dc_301_14 rfl ?_
  refine Bod.get dc_301_15 fr_301_190 (mk_61 _) rfl ?_
  refine Bod.eqI (nI k) (by first | assumption | rfl | exact congrArg nI (by omega) | (simp (disch := omega) only [rI, rIe, rA, rIA, rLA, rJA, rVI, rQI, rVA, rQA, upd_at,  rAI, rLI, rJI, nI_add, pk_sub, kc_0, kc_1, kc_2, kc_3, kc_4, kc_5, reduceIte, Nat.reduceEqDiff, Nat.add_zero, rI_hold, rI_hold, rL_hold, hk, he69]; done)) ?_
  refine Bod.ialdN k rfl (by omega) (by omega) dc_301_18 (mk_70 _) ?_
  refine Bod.eqI (nI e70) (by first | assumption | rfl | exact congrArg nI (by omega) | (simp (disch := omega) only [rI, rIe, rA, rIA, rLA, rJA, rVI, rQI, rVA, rQA, upd_at,  rAI, rLI, rJI, nI_add, pk_sub, kc_0, kc_1, kc_2, kc_3, kc_4, kc_5, reduceIte, Nat.reduceEqDiff, Nat.add_zero, rI_hold, rI_hold, rL_hold, hk, he69, he70]; done)) ?_
  refine Bod.istn dc_301_19 (by rw [ml_301]; exact Nat.le_of_ble_eq_true rfl) ?_
  refine Bod.go dc_301_20 rfl ?_
  refine Bod.ic 0 (by decide) dc_301_21 ?_
  refine Bod.go dc_301_22 rfl ?_
  refine Bod.virt (r := []) dc_301_23 kr_301_216 ⟨Or.inl rfl, ow_302, cl_14⟩ (by rw [np_302]; rfl) (by rw [np_302]; rfl) (ob_of (mk_61 _)) (Nat.le_of_ble_eq_true rfl) (c1  ) ?_
  show Bod _ _ _ _ [] _ _ _
  refine Bod.go dc_301_26 rfl ?_
  refine Bod.get dc_301_27 fr_301_129 (mk_61 _) rfl ?_
  refine Bod.go dc_301_30 rfl ?_
  refine Bod.get dc_301_31 fr_301_190 (mk_61 _) rfl ?_
  refine Bod.eqI (nI k1) (by first | (simp (disch := omega) only [rI, rIe, rA, rIA, rLA, rJA, rVI, rQI, rVA, rQA, upd_at,  rAI, rLI, rJI, nI_add, pk_sub, kc_0, kc_1, kc_2, kc_3, kc_4, kc_5, reduceIte, Nat.reduceEqDiff, Nat.add_zero, rI_hold, rI_hold, rL_hold, hk, he69, he70, hk1]; done) | (simp (disch := omega) only [rI, rIe, rA, rIA, rLA, rJA, rVI, rQI, rVA, rQA, upd_at,  rAI, rLI, rJI, nI_add, pk_sub, kc_0, kc_1, kc_2, kc_3, kc_4, kc_5, reduceIte, Nat.reduceEqDiff, Nat.add_zero, rI_hold, rI_hold, rL_hold, hk, he69, he70, hk1]; exact congrArg nI (by omega))) ?_
  refine Bod.ialdN k1 rfl (by omega) (by omega) dc_301_34 (mk_67 _) ?_
  refine Bod.eqI (nI e67) (by first | (simp (disch := omega) only [rI, rIe, rA, rIA, rLA, rJA, rVI, rQI, rVA, rQA, upd_at,  rAI, rLI, rJI, nI_add, pk_sub, kc_0, kc_1, kc_2, kc_3, kc_4, kc_5, reduceIte, Nat.reduceEqDiff, Nat.add_zero, rI_hold, rI_hold, rL_hold, hk, he69, he70, hk1, he67]; done) | (simp (disch := omega) only [rI, rIe, rA, rIA, rLA, rJA, rVI, rQI, rVA, rQA, upd_at,  rAI, rLI, rJI, nI_add, pk_sub, kc_0, kc_1, kc_2, kc_3, kc_4, kc_5, reduceIte, Nat.reduceEqDiff, Nat.add_zero, rI_hold, rI_hold, rL_hold, hk, he69, he70, hk1, he67]; exact congrArg nI (by omega))) ?_
  refine Bod.ic 2 (by decide) dc_301_35 ?_
  refine Bod.icT dc_301_36 rfl (k2_eq_T (k_eq e67 2 rfl rfl (by omega))) ?_
  refine Bod.go dc_301_59 rfl ?_
  refine Bod.get dc_301_60 fr_301_135 (mk_61 _) rfl ?_
  refine Bod.go dc_301_63 rfl ?_
  refine Bod.get dc_301_64 fr_301_190 (mk_61 _) rfl ?_
  refine Bod.eqI (nI k1) (by first | (simp (disch := omega) only [rI, rIe, rA, rIA, rLA, rJA, rVI, rQI, rVA, rQA, upd_at,  rAI, rLI, rJI, nI_add, pk_sub, kc_0, kc_1, kc_2, kc_3, kc_4, kc_5, reduceIte, Nat.reduceEqDiff, Nat.add_zero, rI_hold, rI_hold, rL_hold, hk, he69, he70, hk1, he67]; done) | (simp (disch := omega) only [rI, rIe, rA, rIA, rLA, rJA, rVI, rQI, rVA, rQA, upd_at,  rAI, rLI, rJI, nI_add, pk_sub, kc_0, kc_1, kc_2, kc_3, kc_4, kc_5, reduceIte, Nat.reduceEqDiff, Nat.add_zero, rI_hold, rI_hold, rL_hold, hk, he69, he70, hk1, he67]; exact congrArg nI (by omega))) ?_
  refine Bod.ialdN k1 rfl (by omega) (by omega) dc_301_67 (mk_68 _) ?_
  refine Bod.eqI (nI e68) (by first | (simp (disch := omega) only [rI, rIe, rA, rIA, rLA, rJA, rVI, rQI, rVA, rQA, upd_at,  rAI, rLI, rJI, nI_add, pk_sub, kc_0, kc_1, kc_2, kc_3, kc_4, kc_5, reduceIte, Nat.reduceEqDiff, Nat.add_zero, rI_hold, rI_hold, rL_hold, hk, he69, he70, hk1, he67, he68]; done) | (simp (disch := omega) only [rI, rIe, rA, rIA, rLA, rJA, rVI, rQI, rVA, rQA, upd_at,  rAI, rLI, rJI, nI_add, pk_sub, kc_0, kc_1, kc_2, kc_3, kc_4, kc_5, reduceIte, Nat.reduceEqDiff, Nat.add_zero, rI_hold, rI_hold, rL_hold, hk, he69, he70, hk1, he67, he68]; exact congrArg nI (by omega))) ?_
  refine Bod.sw (t := 157) dc_301_68 rfl rfl (by rw [sw15]; decide +kernel) ?_
  refine Bod.go dc_301_157 rfl ?_
  refine Bod.go dc_301_158 rfl ?_
  refine Bod.go dc_301_159 rfl ?_
  refine Bod.virt (r := []) dc_301_160 kr_301_289 ⟨Or.inl rfl, ow_345, cl_14⟩ (by rw [np_345]; rfl) (by rw [np_345]; rfl) (ob_of (mk_61 _)) (Nat.le_of_ble_eq_true rfl) (c2  ) ?_
  show Bod _ _ _ _ [_] _ _ _
  exact Bod.retZ dc_301_163 rt_301 (Or.inl rfl)
theorem zSt_7 {d : Nat} {S : cS} {k : Nat} {e69 : Nat} {e70 : Nat} {S1 : cS} {k1 : Nat} {e67 : Nat} {e68 : Nat} {S2 : cS} (hk : sI S 6115 = nI k) (mk : k < 6001) (he69 : sA S 69 k = nI e69) (me69 : e69 < 2 ^ 20) (he70 : sA S 70 k = nI e70) (me70 : e70 < 2 ^ 20) (c1 : Ans (d + 8) 302 [.ref 61, .int (nI 0), .int (nI e69)] S none S1) (hk1 : sI S1 6115 = nI k1) (mk1 : k1 < 6001) (he67 : sA S1 67 k1 = nI e67) (me67 : e67 < 2 ^ 20) (b1 : e67 = 2) (he68 : sA S1 68 k1 = nI e68) (me68 : e68 < 2 ^ 20) (sw15 : e68 = 6) (c2 : Ans (d + 8) 336 [.ref 61, .int (nI e70), .int (nI 1)] S1 (some (.int (nI 1))) S2) : Bod (d + 8) 301 0 [(0, .ref 61)] [] S (some (.int 1)) (S2) := by
  refine Bod.go dc_301_0 rfl ?_
  refine Bod.get dc_301_1 fr_301_138 (mk_61 _) rfl ?_
  refine Bod.go dc_301_4 rfl ?_
  refine Bod.get dc_301_5 fr_301_190 (mk_61 _) rfl ?_
  refine Bod.eqI (nI k) (by first | assumption | rfl | exact congrArg nI (by omega) | (simp (disch := omega) only [rI, rIe, rA, rIA, rLA, rJA, rVI, rQI, rVA, rQA, upd_at,  rAI, rLI, rJI, nI_add, pk_sub, kc_0, kc_1, kc_2, kc_3, kc_4, kc_5, reduceIte, Nat.reduceEqDiff, Nat.add_zero, rI_hold, rI_hold, rL_hold, hk]; done)) ?_
  refine Bod.ialdN k rfl (by omega) (by omega) dc_301_8 (mk_69 _) ?_
  refine Bod.eqI (nI e69) (by first | assumption | rfl | exact congrArg nI (by omega) | (simp (disch := omega) only [rI, rIe, rA, rIA, rLA, rJA, rVI, rQI, rVA, rQA, upd_at,  rAI, rLI, rJI, nI_add, pk_sub, kc_0, kc_1, kc_2, kc_3, kc_4, kc_5, reduceIte, Nat.reduceEqDiff, Nat.add_zero, rI_hold, rI_hold, rL_hold, hk, he69]; done)) ?_
  refine Bod.istn dc_301_9 (by rw [ml_301]; exact Nat.le_of_ble_eq_true rfl) ?_
  refine Bod.go dc_301_10 rfl ?_
  refine Bod.get dc_301_11 fr_301_141 (mk_61 _) rfl ?_
  refine Bod.go dc_301_14 rfl ?_
  refine Bod.get dc_301_15 fr_301_190 (mk_61 _) rfl ?_
  refine Bod.eqI (nI k) (by first | assumption | rfl | exact congrArg nI (by omega) | (simp (disch := omega) only [rI, rIe, rA, rIA, rLA, rJA, rVI, rQI, rVA, rQA, upd_at,  rAI, rLI, rJI, nI_add, pk_sub, kc_0, kc_1, kc_2, kc_3, kc_4, kc_5, reduceIte, Nat.reduceEqDiff, Nat.add_zero, rI_hold, rI_hold, rL_hold, hk, he69]; done)) ?_
  refine Bod.ialdN k rfl (by omega) (by omega) dc_301_18 (mk_70 _) ?_
  refine Bod.eqI (nI e70) (by first | assumption | rfl | exact congrArg nI (by omega) | (simp (disch := omega) only [rI, rIe, rA, rIA, rLA, rJA, rVI, rQI, rVA, rQA, upd_at,  rAI, rLI, rJI, nI_add, pk_sub, kc_0, kc_1, kc_2, kc_3, kc_4, kc_5, reduceIte, Nat.reduceEqDiff, Nat.add_zero, rI_hold, rI_hold, rL_hold, hk, he69, he70]; done)) ?_
  refine Bod.istn dc_301_19 (by rw [ml_301]; exact Nat.le_of_ble_eq_true rfl) ?_
  refine Bod.go dc_301_20 rfl ?_
  refine Bod.ic 0 (by decide) dc_301_21 ?_
  refine Bod.go dc_301_22 rfl ?_
  refine Bod.virt (r := []) dc_301_23 kr_301_216 ⟨Or.inl rfl, ow_302, cl_14⟩ (by rw [np_302]; rfl) (by rw [np_302]; rfl) (ob_of (mk_61 _)) (Nat.le_of_ble_eq_true rfl) (c1  ) ?_
  show Bod _ _ _ _ [] _ _ _
  refine Bod.go dc_301_26 rfl ?_
  refine Bod.get dc_301_27 fr_301_129 (mk_61 _) rfl ?_
  refine Bod.go dc_301_30 rfl ?_
  refine Bod.get dc_301_31 fr_301_190 (mk_61 _) rfl ?_
  refine Bod.eqI (nI k1) (by first | (simp (disch := omega) only [rI, rIe, rA, rIA, rLA, rJA, rVI, rQI, rVA, rQA, upd_at,  rAI, rLI, rJI, nI_add, pk_sub, kc_0, kc_1, kc_2, kc_3, kc_4, kc_5, reduceIte, Nat.reduceEqDiff, Nat.add_zero, rI_hold, rI_hold, rL_hold, hk, he69, he70, hk1]; done) | (simp (disch := omega) only [rI, rIe, rA, rIA, rLA, rJA, rVI, rQI, rVA, rQA, upd_at,  rAI, rLI, rJI, nI_add, pk_sub, kc_0, kc_1, kc_2, kc_3, kc_4, kc_5, reduceIte, Nat.reduceEqDiff, Nat.add_zero, rI_hold, rI_hold, rL_hold, hk, he69, he70, hk1]; exact congrArg nI (by omega))) ?_
  refine Bod.ialdN k1 rfl (by omega) (by omega) dc_301_34 (mk_67 _) ?_
  refine Bod.eqI (nI e67) (by first | (simp (disch := omega) only [rI, rIe, rA, rIA, rLA, rJA, rVI, rQI, rVA, rQA, upd_at,  rAI, rLI, rJI, nI_add, pk_sub, kc_0, kc_1, kc_2, kc_3, kc_4, kc_5, reduceIte, Nat.reduceEqDiff, Nat.add_zero, rI_hold, rI_hold, rL_hold, hk, he69, he70, hk1, he67]; done) | (simp (disch := omega) only [rI, rIe, rA, rIA, rLA, rJA, rVI, rQI, rVA, rQA, upd_at,  rAI, rLI, rJI, nI_add, pk_sub, kc_0, kc_1, kc_2, kc_3, kc_4, kc_5, reduceIte, Nat.reduceEqDiff, Nat.add_zero, rI_hold, rI_hold, rL_hold, hk, he69, he70, hk1, he67]; exact congrArg nI (by omega))) ?_
  refine Bod.ic 2 (by decide) dc_301_35 ?_
  refine Bod.icT dc_301_36 rfl (k2_eq_T (k_eq e67 2 rfl rfl (by omega))) ?_
  refine Bod.go dc_301_59 rfl ?_
  refine Bod.get dc_301_60 fr_301_135 (mk_61 _) rfl ?_
  refine Bod.go dc_301_63 rfl ?_
  refine Bod.get dc_301_64 fr_301_190 (mk_61 _) rfl ?_
  refine Bod.eqI (nI k1) (by first | (simp (disch := omega) only [rI, rIe, rA, rIA, rLA, rJA, rVI, rQI, rVA, rQA, upd_at,  rAI, rLI, rJI, nI_add, pk_sub, kc_0, kc_1, kc_2, kc_3, kc_4, kc_5, reduceIte, Nat.reduceEqDiff, Nat.add_zero, rI_hold, rI_hold, rL_hold, hk, he69, he70, hk1, he67]; done) | (simp (disch := omega) only [rI, rIe, rA, rIA, rLA, rJA, rVI, rQI, rVA, rQA, upd_at,  rAI, rLI, rJI, nI_add, pk_sub, kc_0, kc_1, kc_2, kc_3, kc_4, kc_5, reduceIte, Nat.reduceEqDiff, Nat.add_zero, rI_hold, rI_hold, rL_hold, hk, he69, he70, hk1, he67]; exact congrArg nI (by omega))) ?_
  refine Bod.ialdN k1 rfl (by omega) (by omega) dc_301_67 (mk_68 _) ?_
  refine Bod.eqI (nI e68) (by first | (simp (disch := omega) only [rI, rIe, rA, rIA, rLA, rJA, rVI, rQI, rVA, rQA, upd_at,  rAI, rLI, rJI, nI_add, pk_sub, kc_0, kc_1, kc_2, kc_3, kc_4, kc_5, reduceIte, Nat.reduceEqDiff, Nat.add_zero, rI_hold, rI_hold, rL_hold, hk, he69, he70, hk1, he67, he68]; done) | (simp (disch := omega) only [rI, rIe, rA, rIA, rLA, rJA, rVI, rQI, rVA, rQA, upd_at,  rAI, rLI, rJI, nI_add, pk_sub, kc_0, kc_1, kc_2, kc_3, kc_4, kc_5, reduceIte, Nat.reduceEqDiff, Nat.add_zero, rI_hold, rI_hold, rL_hold, hk, he69, he70, hk1, he67, he68]; exact congrArg nI (by omega))) ?_
  refine Bod.sw (t := 164) dc_301_68 rfl rfl (by rw [sw15]; decide +kernel) ?_
  refine Bod.go dc_301_164 rfl ?_
  refine Bod.go dc_301_165 rfl ?_
  refine Bod.ic 1 (by decide) dc_301_166 ?_
  refine Bod.virt (r := []) dc_301_167 kr_301_292 ⟨Or.inl rfl, ow_336, cl_14⟩ (by rw [np_336]; rfl) (by rw [np_336]; rfl) (ob_of (mk_61 _)) (Nat.le_of_ble_eq_true rfl) (c2  ) ?_
  show Bod _ _ _ _ [_] _ _ _
  exact Bod.retZ dc_301_170 rt_301 (Or.inr rfl)
theorem zSt_8 {d : Nat} {S : cS} {k : Nat} {e69 : Nat} {e70 : Nat} {S1 : cS} {k1 : Nat} {e67 : Nat} {e68 : Nat} {S2 : cS} (hk : sI S 6115 = nI k) (mk : k < 6001) (he69 : sA S 69 k = nI e69) (me69 : e69 < 2 ^ 20) (he70 : sA S 70 k = nI e70) (me70 : e70 < 2 ^ 20) (c1 : Ans (d + 8) 302 [.ref 61, .int (nI 0), .int (nI e69)] S none S1) (hk1 : sI S1 6115 = nI k1) (mk1 : k1 < 6001) (he67 : sA S1 67 k1 = nI e67) (me67 : e67 < 2 ^ 20) (b1 : e67 = 2) (he68 : sA S1 68 k1 = nI e68) (me68 : e68 < 2 ^ 20) (sw15 : e68 = 6) (c2 : Ans (d + 8) 336 [.ref 61, .int (nI e70), .int (nI 1)] S1 (some (.int (nI 0))) S2) : Bod (d + 8) 301 0 [(0, .ref 61)] [] S (some (.int 0)) (S2) := by
  refine Bod.go dc_301_0 rfl ?_
  refine Bod.get dc_301_1 fr_301_138 (mk_61 _) rfl ?_
  refine Bod.go dc_301_4 rfl ?_
  refine Bod.get dc_301_5 fr_301_190 (mk_61 _) rfl ?_
  refine Bod.eqI (nI k) (by first | assumption | rfl | exact congrArg nI (by omega) | (simp (disch := omega) only [rI, rIe, rA, rIA, rLA, rJA, rVI, rQI, rVA, rQA, upd_at,  rAI, rLI, rJI, nI_add, pk_sub, kc_0, kc_1, kc_2, kc_3, kc_4, kc_5, reduceIte, Nat.reduceEqDiff, Nat.add_zero, rI_hold, rI_hold, rL_hold, hk]; done)) ?_
  refine Bod.ialdN k rfl (by omega) (by omega) dc_301_8 (mk_69 _) ?_
  refine Bod.eqI (nI e69) (by first | assumption | rfl | exact congrArg nI (by omega) | (simp (disch := omega) only [rI, rIe, rA, rIA, rLA, rJA, rVI, rQI, rVA, rQA, upd_at,  rAI, rLI, rJI, nI_add, pk_sub, kc_0, kc_1, kc_2, kc_3, kc_4, kc_5, reduceIte, Nat.reduceEqDiff, Nat.add_zero, rI_hold, rI_hold, rL_hold, hk, he69]; done)) ?_
  refine Bod.istn dc_301_9 (by rw [ml_301]; exact Nat.le_of_ble_eq_true rfl) ?_
  refine Bod.go dc_301_10 rfl ?_
  refine Bod.get dc_301_11 fr_301_141 (mk_61 _) rfl ?_
  refine Bod.go dc_301_14 rfl ?_
  refine Bod.get dc_301_15 fr_301_190 (mk_61 _) rfl ?_
  refine Bod.eqI (nI k) (by first | assumption | rfl | exact congrArg nI (by omega) | (simp (disch := omega) only [rI, rIe, rA, rIA, rLA, rJA, rVI, rQI, rVA, rQA, upd_at,  rAI, rLI, rJI, nI_add, pk_sub, kc_0, kc_1, kc_2, kc_3, kc_4, kc_5, reduceIte, Nat.reduceEqDiff, Nat.add_zero, rI_hold, rI_hold, rL_hold, hk, he69]; done)) ?_
  refine Bod.ialdN k rfl (by omega) (by omega) dc_301_18 (mk_70 _) ?_
  refine Bod.eqI (nI e70) (by first | assumption | rfl | exact congrArg nI (by omega) | (simp (disch := omega) only [rI, rIe, rA, rIA, rLA, rJA, rVI, rQI, rVA, rQA, upd_at,  rAI, rLI, rJI, nI_add, pk_sub, kc_0, kc_1, kc_2, kc_3, kc_4, kc_5, reduceIte, Nat.reduceEqDiff, Nat.add_zero, rI_hold, rI_hold, rL_hold, hk, he69, he70]; done)) ?_
  refine Bod.istn dc_301_19 (by rw [ml_301]; exact Nat.le_of_ble_eq_true rfl) ?_
  refine Bod.go dc_301_20 rfl ?_
  refine Bod.ic 0 (by decide) dc_301_21 ?_
  refine Bod.go dc_301_22 rfl ?_
  refine Bod.virt (r := []) dc_301_23 kr_301_216 ⟨Or.inl rfl, ow_302, cl_14⟩ (by rw [np_302]; rfl) (by rw [np_302]; rfl) (ob_of (mk_61 _)) (Nat.le_of_ble_eq_true rfl) (c1  ) ?_
  show Bod _ _ _ _ [] _ _ _
  refine Bod.go dc_301_26 rfl ?_
  refine Bod.get dc_301_27 fr_301_129 (mk_61 _) rfl ?_
  refine Bod.go dc_301_30 rfl ?_
  refine Bod.get dc_301_31 fr_301_190 (mk_61 _) rfl ?_
  refine Bod.eqI (nI k1) (by first | (simp (disch := omega) only [rI, rIe, rA, rIA, rLA, rJA, rVI, rQI, rVA, rQA, upd_at,  rAI, rLI, rJI, nI_add, pk_sub, kc_0, kc_1, kc_2, kc_3, kc_4, kc_5, reduceIte, Nat.reduceEqDiff, Nat.add_zero, rI_hold, rI_hold, rL_hold, hk, he69, he70, hk1]; done) | (simp (disch := omega) only [rI, rIe, rA, rIA, rLA, rJA, rVI, rQI, rVA, rQA, upd_at,  rAI, rLI, rJI, nI_add, pk_sub, kc_0, kc_1, kc_2, kc_3, kc_4, kc_5, reduceIte, Nat.reduceEqDiff, Nat.add_zero, rI_hold, rI_hold, rL_hold, hk, he69, he70, hk1]; exact congrArg nI (by omega))) ?_
  refine Bod.ialdN k1 rfl (by omega) (by omega) dc_301_34 (mk_67 _) ?_
  refine Bod.eqI (nI e67) (by first | (simp (disch := omega) only [rI, rIe, rA, rIA, rLA, rJA, rVI, rQI, rVA, rQA, upd_at,  rAI, rLI, rJI, nI_add, pk_sub, kc_0, kc_1, kc_2, kc_3, kc_4, kc_5, reduceIte, Nat.reduceEqDiff, Nat.add_zero, rI_hold, rI_hold, rL_hold, hk, he69, he70, hk1, he67]; done) | (simp (disch := omega) only [rI, rIe, rA, rIA, rLA, rJA, rVI, rQI, rVA, rQA, upd_at,  rAI, rLI, rJI, nI_add, pk_sub, kc_0, kc_1, kc_2, kc_3, kc_4, kc_5, reduceIte, Nat.reduceEqDiff, Nat.add_zero, rI_hold, rI_hold, rL_hold, hk, he69, he70, hk1, he67]; exact congrArg nI (by omega))) ?_
  refine Bod.ic 2 (by decide) dc_301_35 ?_
  refine Bod.icT dc_301_36 rfl (k2_eq_T (k_eq e67 2 rfl rfl (by omega))) ?_
  refine Bod.go dc_301_59 rfl ?_
  refine Bod.get dc_301_60 fr_301_135 (mk_61 _) rfl ?_
  refine Bod.go dc_301_63 rfl ?_
  refine Bod.get dc_301_64 fr_301_190 (mk_61 _) rfl ?_
  refine Bod.eqI (nI k1) (by first | (simp (disch := omega) only [rI, rIe, rA, rIA, rLA, rJA, rVI, rQI, rVA, rQA, upd_at,  rAI, rLI, rJI, nI_add, pk_sub, kc_0, kc_1, kc_2, kc_3, kc_4, kc_5, reduceIte, Nat.reduceEqDiff, Nat.add_zero, rI_hold, rI_hold, rL_hold, hk, he69, he70, hk1, he67]; done) | (simp (disch := omega) only [rI, rIe, rA, rIA, rLA, rJA, rVI, rQI, rVA, rQA, upd_at,  rAI, rLI, rJI, nI_add, pk_sub, kc_0, kc_1, kc_2, kc_3, kc_4, kc_5, reduceIte, Nat.reduceEqDiff, Nat.add_zero, rI_hold, rI_hold, rL_hold, hk, he69, he70, hk1, he67]; exact congrArg nI (by omega))) ?_
  refine Bod.ialdN k1 rfl (by omega) (by omega) dc_301_67 (mk_68 _) ?_
  refine Bod.eqI (nI e68) (by first | (simp (disch := omega) only [rI, rIe, rA, rIA, rLA, rJA, rVI, rQI, rVA, rQA, upd_at,  rAI, rLI, rJI, nI_add, pk_sub, kc_0, kc_1, kc_2, kc_3, kc_4, kc_5, reduceIte, Nat.reduceEqDiff, Nat.add_zero, rI_hold, rI_hold, rL_hold, hk, he69, he70, hk1, he67, he68]; done) | (simp (disch := omega) only [rI, rIe, rA, rIA, rLA, rJA, rVI, rQI, rVA, rQA, upd_at,  rAI, rLI, rJI, nI_add, pk_sub, kc_0, kc_1, kc_2, kc_3, kc_4, kc_5, reduceIte, Nat.reduceEqDiff, Nat.add_zero, rI_hold, rI_hold, rL_hold, hk, he69, he70, hk1, he67, he68]; exact congrArg nI (by omega))) ?_
  refine Bod.sw (t := 164) dc_301_68 rfl rfl (by rw [sw15]; decide +kernel) ?_
  refine Bod.go dc_301_164 rfl ?_
  refine Bod.go dc_301_165 rfl ?_
  refine Bod.ic 1 (by decide) dc_301_166 ?_
  refine Bod.virt (r := []) dc_301_167 kr_301_292 ⟨Or.inl rfl, ow_336, cl_14⟩ (by rw [np_336]; rfl) (by rw [np_336]; rfl) (ob_of (mk_61 _)) (Nat.le_of_ble_eq_true rfl) (c2  ) ?_
  show Bod _ _ _ _ [_] _ _ _
  exact Bod.retZ dc_301_170 rt_301 (Or.inl rfl)
theorem zSt_9 {d : Nat} {S : cS} {k : Nat} {e69 : Nat} {e70 : Nat} {S1 : cS} {k1 : Nat} {e67 : Nat} {e68 : Nat} {S2 : cS} (hk : sI S 6115 = nI k) (mk : k < 6001) (he69 : sA S 69 k = nI e69) (me69 : e69 < 2 ^ 20) (he70 : sA S 70 k = nI e70) (me70 : e70 < 2 ^ 20) (c1 : Ans (d + 8) 302 [.ref 61, .int (nI 0), .int (nI e69)] S none S1) (hk1 : sI S1 6115 = nI k1) (mk1 : k1 < 6001) (he67 : sA S1 67 k1 = nI e67) (me67 : e67 < 2 ^ 20) (b1 : e67 = 2) (he68 : sA S1 68 k1 = nI e68) (me68 : e68 < 2 ^ 20) (sw15 : e68 = 7) (c2 : Ans (d + 8) 346 [.ref 61, .int (nI e70)] S1 (some (.int (nI 1))) S2) : Bod (d + 8) 301 0 [(0, .ref 61)] [] S (some (.int 1)) (S2) := by
  refine Bod.go dc_301_0 rfl ?_
  refine Bod.get dc_301_1 fr_301_138 (mk_61 _) rfl ?_
  refine Bod.go dc_301_4 rfl ?_
  refine Bod.get dc_301_5 fr_301_190 (mk_61 _) rfl ?_
  refine Bod.eqI (nI k) (by first | assumption | rfl | exact congrArg nI (by omega) | (simp (disch := omega) only [rI, rIe, rA, rIA, rLA, rJA, rVI, rQI, rVA, rQA, upd_at,  rAI, rLI, rJI, nI_add, pk_sub, kc_0, kc_1, kc_2, kc_3, kc_4, kc_5, reduceIte, Nat.reduceEqDiff, Nat.add_zero, rI_hold, rI_hold, rL_hold, hk]; done)) ?_
  refine Bod.ialdN k rfl (by omega) (by omega) dc_301_8 (mk_69 _) ?_
  refine Bod.eqI (nI e69) (by first | assumption | rfl | exact congrArg nI (by omega) | (simp (disch := omega) only [rI, rIe, rA, rIA, rLA, rJA, rVI, rQI, rVA, rQA, upd_at,  rAI, rLI, rJI, nI_add, pk_sub, kc_0, kc_1, kc_2, kc_3, kc_4, kc_5, reduceIte, Nat.reduceEqDiff, Nat.add_zero, rI_hold, rI_hold, rL_hold, hk, he69]; done)) ?_
  refine Bod.istn dc_301_9 (by rw [ml_301]; exact Nat.le_of_ble_eq_true rfl) ?_
  refine Bod.go dc_301_10 rfl ?_
  refine Bod.get dc_301_11 fr_301_141 (mk_61 _) rfl ?_
  refine Bod.go dc_301_14 rfl ?_
  refine Bod.get dc_301_15 fr_301_190 (mk_61 _) rfl ?_
  refine Bod.eqI (nI k) (by first | assumption | rfl | exact congrArg nI (by omega) | (simp (disch := omega) only [rI, rIe, rA, rIA, rLA, rJA, rVI, rQI, rVA, rQA, upd_at,  rAI, rLI, rJI, nI_add, pk_sub, kc_0, kc_1, kc_2, kc_3, kc_4, kc_5, reduceIte, Nat.reduceEqDiff, Nat.add_zero, rI_hold, rI_hold, rL_hold, hk, he69]; done)) ?_
  refine Bod.ialdN k rfl (by omega) (by omega) dc_301_18 (mk_70 _) ?_
  refine Bod.eqI (nI e70) (by first | assumption | rfl | exact congrArg nI (by omega) | (simp (disch := omega) only [rI, rIe, rA, rIA, rLA, rJA, rVI, rQI, rVA, rQA, upd_at,  rAI, rLI, rJI, nI_add, pk_sub, kc_0, kc_1, kc_2, kc_3, kc_4, kc_5, reduceIte, Nat.reduceEqDiff, Nat.add_zero, rI_hold, rI_hold, rL_hold, hk, he69, he70]; done)) ?_
  refine Bod.istn dc_301_19 (by rw [ml_301]; exact Nat.le_of_ble_eq_true rfl) ?_
  refine Bod.go dc_301_20 rfl ?_
  refine Bod.ic 0 (by decide) dc_301_21 ?_
  refine Bod.go dc_301_22 rfl ?_
  refine Bod.virt (r := []) dc_301_23 kr_301_216 ⟨Or.inl rfl, ow_302, cl_14⟩ (by rw [np_302]; rfl) (by rw [np_302]; rfl) (ob_of (mk_61 _)) (Nat.le_of_ble_eq_true rfl) (c1  ) ?_
  show Bod _ _ _ _ [] _ _ _
  refine Bod.go dc_301_26 rfl ?_
  refine Bod.get dc_301_27 fr_301_129 (mk_61 _) rfl ?_
  refine Bod.go dc_301_30 rfl ?_
  refine Bod.get dc_301_31 fr_301_190 (mk_61 _) rfl ?_
  refine Bod.eqI (nI k1) (by first | (simp (disch := omega) only [rI, rIe, rA, rIA, rLA, rJA, rVI, rQI, rVA, rQA, upd_at,  rAI, rLI, rJI, nI_add, pk_sub, kc_0, kc_1, kc_2, kc_3, kc_4, kc_5, reduceIte, Nat.reduceEqDiff, Nat.add_zero, rI_hold, rI_hold, rL_hold, hk, he69, he70, hk1]; done) | (simp (disch := omega) only [rI, rIe, rA, rIA, rLA, rJA, rVI, rQI, rVA, rQA, upd_at,  rAI, rLI, rJI, nI_add, pk_sub, kc_0, kc_1, kc_2, kc_3, kc_4, kc_5, reduceIte, Nat.reduceEqDiff, Nat.add_zero, rI_hold, rI_hold, rL_hold, hk, he69, he70, hk1]; exact congrArg nI (by omega))) ?_
  refine Bod.ialdN k1 rfl (by omega) (by omega) dc_301_34 (mk_67 _) ?_
  refine Bod.eqI (nI e67) (by first | (simp (disch := omega) only [rI, rIe, rA, rIA, rLA, rJA, rVI, rQI, rVA, rQA, upd_at,  rAI, rLI, rJI, nI_add, pk_sub, kc_0, kc_1, kc_2, kc_3, kc_4, kc_5, reduceIte, Nat.reduceEqDiff, Nat.add_zero, rI_hold, rI_hold, rL_hold, hk, he69, he70, hk1, he67]; done) | (simp (disch := omega) only [rI, rIe, rA, rIA, rLA, rJA, rVI, rQI, rVA, rQA, upd_at,  rAI, rLI, rJI, nI_add, pk_sub, kc_0, kc_1, kc_2, kc_3, kc_4, kc_5, reduceIte, Nat.reduceEqDiff, Nat.add_zero, rI_hold, rI_hold, rL_hold, hk, he69, he70, hk1, he67]; exact congrArg nI (by omega))) ?_
  refine Bod.ic 2 (by decide) dc_301_35 ?_
  refine Bod.icT dc_301_36 rfl (k2_eq_T (k_eq e67 2 rfl rfl (by omega))) ?_
  refine Bod.go dc_301_59 rfl ?_
  refine Bod.get dc_301_60 fr_301_135 (mk_61 _) rfl ?_
  refine Bod.go dc_301_63 rfl ?_
  refine Bod.get dc_301_64 fr_301_190 (mk_61 _) rfl ?_
  refine Bod.eqI (nI k1) (by first | (simp (disch := omega) only [rI, rIe, rA, rIA, rLA, rJA, rVI, rQI, rVA, rQA, upd_at,  rAI, rLI, rJI, nI_add, pk_sub, kc_0, kc_1, kc_2, kc_3, kc_4, kc_5, reduceIte, Nat.reduceEqDiff, Nat.add_zero, rI_hold, rI_hold, rL_hold, hk, he69, he70, hk1, he67]; done) | (simp (disch := omega) only [rI, rIe, rA, rIA, rLA, rJA, rVI, rQI, rVA, rQA, upd_at,  rAI, rLI, rJI, nI_add, pk_sub, kc_0, kc_1, kc_2, kc_3, kc_4, kc_5, reduceIte, Nat.reduceEqDiff, Nat.add_zero, rI_hold, rI_hold, rL_hold, hk, he69, he70, hk1, he67]; exact congrArg nI (by omega))) ?_
  refine Bod.ialdN k1 rfl (by omega) (by omega) dc_301_67 (mk_68 _) ?_
  refine Bod.eqI (nI e68) (by first | (simp (disch := omega) only [rI, rIe, rA, rIA, rLA, rJA, rVI, rQI, rVA, rQA, upd_at,  rAI, rLI, rJI, nI_add, pk_sub, kc_0, kc_1, kc_2, kc_3, kc_4, kc_5, reduceIte, Nat.reduceEqDiff, Nat.add_zero, rI_hold, rI_hold, rL_hold, hk, he69, he70, hk1, he67, he68]; done) | (simp (disch := omega) only [rI, rIe, rA, rIA, rLA, rJA, rVI, rQI, rVA, rQA, upd_at,  rAI, rLI, rJI, nI_add, pk_sub, kc_0, kc_1, kc_2, kc_3, kc_4, kc_5, reduceIte, Nat.reduceEqDiff, Nat.add_zero, rI_hold, rI_hold, rL_hold, hk, he69, he70, hk1, he67, he68]; exact congrArg nI (by omega))) ?_
  refine Bod.sw (t := 171) dc_301_68 rfl rfl (by rw [sw15]; decide +kernel) ?_
  refine Bod.go dc_301_171 rfl ?_
  refine Bod.go dc_301_172 rfl ?_
  refine Bod.virt (r := []) dc_301_173 kr_301_296 ⟨Or.inl rfl, ow_346, cl_14⟩ (by rw [np_346]; rfl) (by rw [np_346]; rfl) (ob_of (mk_61 _)) (Nat.le_of_ble_eq_true rfl) (c2  ) ?_
  show Bod _ _ _ _ [_] _ _ _
  exact Bod.retZ dc_301_176 rt_301 (Or.inr rfl)
theorem zSt_10 {d : Nat} {S : cS} {k : Nat} {e69 : Nat} {e70 : Nat} {S1 : cS} {k1 : Nat} {e67 : Nat} {e68 : Nat} {S2 : cS} (hk : sI S 6115 = nI k) (mk : k < 6001) (he69 : sA S 69 k = nI e69) (me69 : e69 < 2 ^ 20) (he70 : sA S 70 k = nI e70) (me70 : e70 < 2 ^ 20) (c1 : Ans (d + 8) 302 [.ref 61, .int (nI 0), .int (nI e69)] S none S1) (hk1 : sI S1 6115 = nI k1) (mk1 : k1 < 6001) (he67 : sA S1 67 k1 = nI e67) (me67 : e67 < 2 ^ 20) (b1 : e67 = 2) (he68 : sA S1 68 k1 = nI e68) (me68 : e68 < 2 ^ 20) (sw15 : e68 = 7) (c2 : Ans (d + 8) 346 [.ref 61, .int (nI e70)] S1 (some (.int (nI 0))) S2) : Bod (d + 8) 301 0 [(0, .ref 61)] [] S (some (.int 0)) (S2) := by
  refine Bod.go dc_301_0 rfl ?_
  refine Bod.get dc_301_1 fr_301_138 (mk_61 _) rfl ?_
  refine Bod.go dc_301_4 rfl ?_
  refine Bod.get dc_301_5 fr_301_190 (mk_61 _) rfl ?_
  refine Bod.eqI (nI k) (by first | assumption | rfl | exact congrArg nI (by omega) | (simp (disch := omega) only [rI, rIe, rA, rIA, rLA, rJA, rVI, rQI, rVA, rQA, upd_at,  rAI, rLI, rJI, nI_add, pk_sub, kc_0, kc_1, kc_2, kc_3, kc_4, kc_5, reduceIte, Nat.reduceEqDiff, Nat.add_zero, rI_hold, rI_hold, rL_hold, hk]; done)) ?_
  refine Bod.ialdN k rfl (by omega) (by omega) dc_301_8 (mk_69 _) ?_
  refine Bod.eqI (nI e69) (by first | assumption | rfl | exact congrArg nI (by omega) | (simp (disch := omega) only [rI, rIe, rA, rIA, rLA, rJA, rVI, rQI, rVA, rQA, upd_at,  rAI, rLI, rJI, nI_add, pk_sub, kc_0, kc_1, kc_2, kc_3, kc_4, kc_5, reduceIte, Nat.reduceEqDiff, Nat.add_zero, rI_hold, rI_hold, rL_hold, hk, he69]; done)) ?_
  refine Bod.istn dc_301_9 (by rw [ml_301]; exact Nat.le_of_ble_eq_true rfl) ?_
  refine Bod.go dc_301_10 rfl ?_
  refine Bod.get dc_301_11 fr_301_141 (mk_61 _) rfl ?_
  refine Bod.go dc_301_14 rfl ?_
  refine Bod.get dc_301_15 fr_301_190 (mk_61 _) rfl ?_
  refine Bod.eqI (nI k) (by first | assumption | rfl | exact congrArg nI (by omega) | (simp (disch := omega) only [rI, rIe, rA, rIA, rLA, rJA, rVI, rQI, rVA, rQA, upd_at,  rAI, rLI, rJI, nI_add, pk_sub, kc_0, kc_1, kc_2, kc_3, kc_4, kc_5, reduceIte, Nat.reduceEqDiff, Nat.add_zero, rI_hold, rI_hold, rL_hold, hk, he69]; done)) ?_
  refine Bod.ialdN k rfl (by omega) (by omega) dc_301_18 (mk_70 _) ?_
  refine Bod.eqI (nI e70) (by first | assumption | rfl | exact congrArg nI (by omega) | (simp (disch := omega) only [rI, rIe, rA, rIA, rLA, rJA, rVI, rQI, rVA, rQA, upd_at,  rAI, rLI, rJI, nI_add, pk_sub, kc_0, kc_1, kc_2, kc_3, kc_4, kc_5, reduceIte, Nat.reduceEqDiff, Nat.add_zero, rI_hold, rI_hold, rL_hold, hk, he69, he70]; done)) ?_
  refine Bod.istn dc_301_19 (by rw [ml_301]; exact Nat.le_of_ble_eq_true rfl) ?_
  refine Bod.go dc_301_20 rfl ?_
  refine Bod.ic 0 (by decide) dc_301_21 ?_
  refine Bod.go dc_301_22 rfl ?_
  refine Bod.virt (r := []) dc_301_23 kr_301_216 ⟨Or.inl rfl, ow_302, cl_14⟩ (by rw [np_302]; rfl) (by rw [np_302]; rfl) (ob_of (mk_61 _)) (Nat.le_of_ble_eq_true rfl) (c1  ) ?_
  show Bod _ _ _ _ [] _ _ _
  refine Bod.go dc_301_26 rfl ?_
  refine Bod.get dc_301_27 fr_301_129 (mk_61 _) rfl ?_
  refine Bod.go dc_301_30 rfl ?_
  refine Bod.get dc_301_31 fr_301_190 (mk_61 _) rfl ?_
  refine Bod.eqI (nI k1) (by first | (simp (disch := omega) only [rI, rIe, rA, rIA, rLA, rJA, rVI, rQI, rVA, rQA, upd_at,  rAI, rLI, rJI, nI_add, pk_sub, kc_0, kc_1, kc_2, kc_3, kc_4, kc_5, reduceIte, Nat.reduceEqDiff, Nat.add_zero, rI_hold, rI_hold, rL_hold, hk, he69, he70, hk1]; done) | (simp (disch := omega) only [rI, rIe, rA, rIA, rLA, rJA, rVI, rQI, rVA, rQA, upd_at,  rAI, rLI, rJI, nI_add, pk_sub, kc_0, kc_1, kc_2, kc_3, kc_4, kc_5, reduceIte, Nat.reduceEqDiff, Nat.add_zero, rI_hold, rI_hold, rL_hold, hk, he69, he70, hk1]; exact congrArg nI (by omega))) ?_
  refine Bod.ialdN k1 rfl (by omega) (by omega) dc_301_34 (mk_67 _) ?_
  refine Bod.eqI (nI e67) (by first | (simp (disch := omega) only [rI, rIe, rA, rIA, rLA, rJA, rVI, rQI, rVA, rQA, upd_at,  rAI, rLI, rJI, nI_add, pk_sub, kc_0, kc_1, kc_2, kc_3, kc_4, kc_5, reduceIte, Nat.reduceEqDiff, Nat.add_zero, rI_hold, rI_hold, rL_hold, hk, he69, he70, hk1, he67]; done) | (simp (disch := omega) only [rI, rIe, rA, rIA, rLA, rJA, rVI, rQI, rVA, rQA, upd_at,  rAI, rLI, rJI, nI_add, pk_sub, kc_0, kc_1, kc_2, kc_3, kc_4, kc_5, reduceIte, Nat.reduceEqDiff, Nat.add_zero, rI_hold, rI_hold, rL_hold, hk, he69, he70, hk1, he67]; exact congrArg nI (by omega))) ?_
  refine Bod.ic 2 (by decide) dc_301_35 ?_
  refine Bod.icT dc_301_36 rfl (k2_eq_T (k_eq e67 2 rfl rfl (by omega))) ?_
  refine Bod.go dc_301_59 rfl ?_
  refine Bod.get dc_301_60 fr_301_135 (mk_61 _) rfl ?_
  refine Bod.go dc_301_63 rfl ?_
  refine Bod.get dc_301_64 fr_301_190 (mk_61 _) rfl ?_
  refine Bod.eqI (nI k1) (by first | (simp (disch := omega) only [rI, rIe, rA, rIA, rLA, rJA, rVI, rQI, rVA, rQA, upd_at,  rAI, rLI, rJI, nI_add, pk_sub, kc_0, kc_1, kc_2, kc_3, kc_4, kc_5, reduceIte, Nat.reduceEqDiff, Nat.add_zero, rI_hold, rI_hold, rL_hold, hk, he69, he70, hk1, he67]; done) | (simp (disch := omega) only [rI, rIe, rA, rIA, rLA, rJA, rVI, rQI, rVA, rQA, upd_at,  rAI, rLI, rJI, nI_add, pk_sub, kc_0, kc_1, kc_2, kc_3, kc_4, kc_5, reduceIte, Nat.reduceEqDiff, Nat.add_zero, rI_hold, rI_hold, rL_hold, hk, he69, he70, hk1, he67]; exact congrArg nI (by omega))) ?_
  refine Bod.ialdN k1 rfl (by omega) (by omega) dc_301_67 (mk_68 _) ?_
  refine Bod.eqI (nI e68) (by first | (simp (disch := omega) only [rI, rIe, rA, rIA, rLA, rJA, rVI, rQI, rVA, rQA, upd_at,  rAI, rLI, rJI, nI_add, pk_sub, kc_0, kc_1, kc_2, kc_3, kc_4, kc_5, reduceIte, Nat.reduceEqDiff, Nat.add_zero, rI_hold, rI_hold, rL_hold, hk, he69, he70, hk1, he67, he68]; done) | (simp (disch := omega) only [rI, rIe, rA, rIA, rLA, rJA, rVI, rQI, rVA, rQA, upd_at,  rAI, rLI, rJI, nI_add, pk_sub, kc_0, kc_1, kc_2, kc_3, kc_4, kc_5, reduceIte, Nat.reduceEqDiff, Nat.add_zero, rI_hold, rI_hold, rL_hold, hk, he69, he70, hk1, he67, he68]; exact congrArg nI (by omega))) ?_
  refine Bod.sw (t := 171) dc_301_68 rfl rfl (by rw [sw15]; decide +kernel) ?_
  refine Bod.go dc_301_171 rfl ?_
  refine Bod.go dc_301_172 rfl ?_
  refine Bod.virt (r := []) dc_301_173 kr_301_296 ⟨Or.inl rfl, ow_346, cl_14⟩ (by rw [np_346]; rfl) (by rw [np_346]; rfl) (ob_of (mk_61 _)) (Nat.le_of_ble_eq_true rfl) (c2  ) ?_
  show Bod _ _ _ _ [_] _ _ _
  exact Bod.retZ dc_301_176 rt_301 (Or.inl rfl)
theorem zSt_11 {d : Nat} {S : cS} {k : Nat} {e69 : Nat} {e70 : Nat} {S1 : cS} {k1 : Nat} {e67 : Nat} {e68 : Nat} {S2 : cS} (hk : sI S 6115 = nI k) (mk : k < 6001) (he69 : sA S 69 k = nI e69) (me69 : e69 < 2 ^ 20) (he70 : sA S 70 k = nI e70) (me70 : e70 < 2 ^ 20) (c1 : Ans (d + 8) 302 [.ref 61, .int (nI 0), .int (nI e69)] S none S1) (hk1 : sI S1 6115 = nI k1) (mk1 : k1 < 6001) (he67 : sA S1 67 k1 = nI e67) (me67 : e67 < 2 ^ 20) (b1 : e67 = 2) (he68 : sA S1 68 k1 = nI e68) (me68 : e68 < 2 ^ 20) (sw15 : e68 = 14) (c2 : Ans (d + 8) 347 [.ref 61, .int (nI e70)] S1 (some (.int (nI 1))) S2) : Bod (d + 8) 301 0 [(0, .ref 61)] [] S (some (.int 1)) (S2) := by
  refine Bod.go dc_301_0 rfl ?_
  refine Bod.get dc_301_1 fr_301_138 (mk_61 _) rfl ?_
  refine Bod.go dc_301_4 rfl ?_
  refine Bod.get dc_301_5 fr_301_190 (mk_61 _) rfl ?_
  refine Bod.eqI (nI k) (by first | assumption | rfl | exact congrArg nI (by omega) | (simp (disch := omega) only [rI, rIe, rA, rIA, rLA, rJA, rVI, rQI, rVA, rQA, upd_at,  rAI, rLI, rJI, nI_add, pk_sub, kc_0, kc_1, kc_2, kc_3, kc_4, kc_5, reduceIte, Nat.reduceEqDiff, Nat.add_zero, rI_hold, rI_hold, rL_hold, hk]; done)) ?_
  refine Bod.ialdN k rfl (by omega) (by omega) dc_301_8 (mk_69 _) ?_
  refine Bod.eqI (nI e69) (by first | assumption | rfl | exact congrArg nI (by omega) | (simp (disch := omega) only [rI, rIe, rA, rIA, rLA, rJA, rVI, rQI, rVA, rQA, upd_at,  rAI, rLI, rJI, nI_add, pk_sub, kc_0, kc_1, kc_2, kc_3, kc_4, kc_5, reduceIte, Nat.reduceEqDiff, Nat.add_zero, rI_hold, rI_hold, rL_hold, hk, he69]; done)) ?_
  refine Bod.istn dc_301_9 (by rw [ml_301]; exact Nat.le_of_ble_eq_true rfl) ?_
  refine Bod.go dc_301_10 rfl ?_
  refine Bod.get dc_301_11 fr_301_141 (mk_61 _) rfl ?_
  refine Bod.go dc_301_14 rfl ?_
  refine Bod.get dc_301_15 fr_301_190 (mk_61 _) rfl ?_
  refine Bod.eqI (nI k) (by first | assumption | rfl | exact congrArg nI (by omega) | (simp (disch := omega) only [rI, rIe, rA, rIA, rLA, rJA, rVI, rQI, rVA, rQA, upd_at,  rAI, rLI, rJI, nI_add, pk_sub, kc_0, kc_1, kc_2, kc_3, kc_4, kc_5, reduceIte, Nat.reduceEqDiff, Nat.add_zero, rI_hold, rI_hold, rL_hold, hk, he69]; done)) ?_
  refine Bod.ialdN k rfl (by omega) (by omega) dc_301_18 (mk_70 _) ?_
  refine Bod.eqI (nI e70) (by first | assumption | rfl | exact congrArg nI (by omega) | (simp (disch := omega) only [rI, rIe, rA, rIA, rLA, rJA, rVI, rQI, rVA, rQA, upd_at,  rAI, rLI, rJI, nI_add, pk_sub, kc_0, kc_1, kc_2, kc_3, kc_4, kc_5, reduceIte, Nat.reduceEqDiff, Nat.add_zero, rI_hold, rI_hold, rL_hold, hk, he69, he70]; done)) ?_
  refine Bod.istn dc_301_19 (by rw [ml_301]; exact Nat.le_of_ble_eq_true rfl) ?_
  refine Bod.go dc_301_20 rfl ?_
  refine Bod.ic 0 (by decide) dc_301_21 ?_
  refine Bod.go dc_301_22 rfl ?_
  refine Bod.virt (r := []) dc_301_23 kr_301_216 ⟨Or.inl rfl, ow_302, cl_14⟩ (by rw [np_302]; rfl) (by rw [np_302]; rfl) (ob_of (mk_61 _)) (Nat.le_of_ble_eq_true rfl) (c1  ) ?_
  show Bod _ _ _ _ [] _ _ _
  refine Bod.go dc_301_26 rfl ?_
  refine Bod.get dc_301_27 fr_301_129 (mk_61 _) rfl ?_
  refine Bod.go dc_301_30 rfl ?_
  refine Bod.get dc_301_31 fr_301_190 (mk_61 _) rfl ?_
  refine Bod.eqI (nI k1) (by first | (simp (disch := omega) only [rI, rIe, rA, rIA, rLA, rJA, rVI, rQI, rVA, rQA, upd_at,  rAI, rLI, rJI, nI_add, pk_sub, kc_0, kc_1, kc_2, kc_3, kc_4, kc_5, reduceIte, Nat.reduceEqDiff, Nat.add_zero, rI_hold, rI_hold, rL_hold, hk, he69, he70, hk1]; done) | (simp (disch := omega) only [rI, rIe, rA, rIA, rLA, rJA, rVI, rQI, rVA, rQA, upd_at,  rAI, rLI, rJI, nI_add, pk_sub, kc_0, kc_1, kc_2, kc_3, kc_4, kc_5, reduceIte, Nat.reduceEqDiff, Nat.add_zero, rI_hold, rI_hold, rL_hold, hk, he69, he70, hk1]; exact congrArg nI (by omega))) ?_
  refine Bod.ialdN k1 rfl (by omega) (by omega) dc_301_34 (mk_67 _) ?_
  refine Bod.eqI (nI e67) (by first | (simp (disch := omega) only [rI, rIe, rA, rIA, rLA, rJA, rVI, rQI, rVA, rQA, upd_at,  rAI, rLI, rJI, nI_add, pk_sub, kc_0, kc_1, kc_2, kc_3, kc_4, kc_5, reduceIte, Nat.reduceEqDiff, Nat.add_zero, rI_hold, rI_hold, rL_hold, hk, he69, he70, hk1, he67]; done) | (simp (disch := omega) only [rI, rIe, rA, rIA, rLA, rJA, rVI, rQI, rVA, rQA, upd_at,  rAI, rLI, rJI, nI_add, pk_sub, kc_0, kc_1, kc_2, kc_3, kc_4, kc_5, reduceIte, Nat.reduceEqDiff, Nat.add_zero, rI_hold, rI_hold, rL_hold, hk, he69, he70, hk1, he67]; exact congrArg nI (by omega))) ?_
  refine Bod.ic 2 (by decide) dc_301_35 ?_
  refine Bod.icT dc_301_36 rfl (k2_eq_T (k_eq e67 2 rfl rfl (by omega))) ?_
  refine Bod.go dc_301_59 rfl ?_
  refine Bod.get dc_301_60 fr_301_135 (mk_61 _) rfl ?_
  refine Bod.go dc_301_63 rfl ?_
  refine Bod.get dc_301_64 fr_301_190 (mk_61 _) rfl ?_
  refine Bod.eqI (nI k1) (by first | (simp (disch := omega) only [rI, rIe, rA, rIA, rLA, rJA, rVI, rQI, rVA, rQA, upd_at,  rAI, rLI, rJI, nI_add, pk_sub, kc_0, kc_1, kc_2, kc_3, kc_4, kc_5, reduceIte, Nat.reduceEqDiff, Nat.add_zero, rI_hold, rI_hold, rL_hold, hk, he69, he70, hk1, he67]; done) | (simp (disch := omega) only [rI, rIe, rA, rIA, rLA, rJA, rVI, rQI, rVA, rQA, upd_at,  rAI, rLI, rJI, nI_add, pk_sub, kc_0, kc_1, kc_2, kc_3, kc_4, kc_5, reduceIte, Nat.reduceEqDiff, Nat.add_zero, rI_hold, rI_hold, rL_hold, hk, he69, he70, hk1, he67]; exact congrArg nI (by omega))) ?_
  refine Bod.ialdN k1 rfl (by omega) (by omega) dc_301_67 (mk_68 _) ?_
  refine Bod.eqI (nI e68) (by first | (simp (disch := omega) only [rI, rIe, rA, rIA, rLA, rJA, rVI, rQI, rVA, rQA, upd_at,  rAI, rLI, rJI, nI_add, pk_sub, kc_0, kc_1, kc_2, kc_3, kc_4, kc_5, reduceIte, Nat.reduceEqDiff, Nat.add_zero, rI_hold, rI_hold, rL_hold, hk, he69, he70, hk1, he67, he68]; done) | (simp (disch := omega) only [rI, rIe, rA, rIA, rLA, rJA, rVI, rQI, rVA, rQA, upd_at,  rAI, rLI, rJI, nI_add, pk_sub, kc_0, kc_1, kc_2, kc_3, kc_4, kc_5, reduceIte, Nat.reduceEqDiff, Nat.add_zero, rI_hold, rI_hold, rL_hold, hk, he69, he70, hk1, he67, he68]; exact congrArg nI (by omega))) ?_
  refine Bod.sw (t := 177) dc_301_68 rfl rfl (by rw [sw15]; decide +kernel) ?_
  refine Bod.go dc_301_177 rfl ?_
  refine Bod.go dc_301_178 rfl ?_
  refine Bod.virt (r := []) dc_301_179 kr_301_299 ⟨Or.inl rfl, ow_347, cl_14⟩ (by rw [np_347]; rfl) (by rw [np_347]; rfl) (ob_of (mk_61 _)) (Nat.le_of_ble_eq_true rfl) (c2  ) ?_
  show Bod _ _ _ _ [_] _ _ _
  exact Bod.retZ dc_301_182 rt_301 (Or.inr rfl)
theorem zSt_12 {d : Nat} {S : cS} {k : Nat} {e69 : Nat} {e70 : Nat} {S1 : cS} {k1 : Nat} {e67 : Nat} {e68 : Nat} {S2 : cS} (hk : sI S 6115 = nI k) (mk : k < 6001) (he69 : sA S 69 k = nI e69) (me69 : e69 < 2 ^ 20) (he70 : sA S 70 k = nI e70) (me70 : e70 < 2 ^ 20) (c1 : Ans (d + 8) 302 [.ref 61, .int (nI 0), .int (nI e69)] S none S1) (hk1 : sI S1 6115 = nI k1) (mk1 : k1 < 6001) (he67 : sA S1 67 k1 = nI e67) (me67 : e67 < 2 ^ 20) (b1 : e67 = 2) (he68 : sA S1 68 k1 = nI e68) (me68 : e68 < 2 ^ 20) (sw15 : e68 = 14) (c2 : Ans (d + 8) 347 [.ref 61, .int (nI e70)] S1 (some (.int (nI 0))) S2) : Bod (d + 8) 301 0 [(0, .ref 61)] [] S (some (.int 0)) (S2) := by
  refine Bod.go dc_301_0 rfl ?_
  refine Bod.get dc_301_1 fr_301_138 (mk_61 _) rfl ?_
  refine Bod.go dc_301_4 rfl ?_
  refine Bod.get dc_301_5 fr_301_190 (mk_61 _) rfl ?_
  refine Bod.eqI (nI k) (by first | assumption | rfl | exact congrArg nI (by omega) | (simp (disch := omega) only [rI, rIe, rA, rIA, rLA, rJA, rVI, rQI, rVA, rQA, upd_at,  rAI, rLI, rJI, nI_add, pk_sub, kc_0, kc_1, kc_2, kc_3, kc_4, kc_5, reduceIte, Nat.reduceEqDiff, Nat.add_zero, rI_hold, rI_hold, rL_hold, hk]; done)) ?_
  refine Bod.ialdN k rfl (by omega) (by omega) dc_301_8 (mk_69 _) ?_
  refine Bod.eqI (nI e69) (by first | assumption | rfl | exact congrArg nI (by omega) | (simp (disch := omega) only [rI, rIe, rA, rIA, rLA, rJA, rVI, rQI, rVA, rQA, upd_at,  rAI, rLI, rJI, nI_add, pk_sub, kc_0, kc_1, kc_2, kc_3, kc_4, kc_5, reduceIte, Nat.reduceEqDiff, Nat.add_zero, rI_hold, rI_hold, rL_hold, hk, he69]; done)) ?_
  refine Bod.istn dc_301_9 (by rw [ml_301]; exact Nat.le_of_ble_eq_true rfl) ?_
  refine Bod.go dc_301_10 rfl ?_
  refine Bod.get dc_301_11 fr_301_141 (mk_61 _) rfl ?_
  refine Bod.go dc_301_14 rfl ?_
  refine Bod.get dc_301_15 fr_301_190 (mk_61 _) rfl ?_
  refine Bod.eqI (nI k) (by first | assumption | rfl | exact congrArg nI (by omega) | (simp (disch := omega) only [rI, rIe, rA, rIA, rLA, rJA, rVI, rQI, rVA, rQA, upd_at,  rAI, rLI, rJI, nI_add, pk_sub, kc_0, kc_1, kc_2, kc_3, kc_4, kc_5, reduceIte, Nat.reduceEqDiff, Nat.add_zero, rI_hold, rI_hold, rL_hold, hk, he69]; done)) ?_
  refine Bod.ialdN k rfl (by omega) (by omega) dc_301_18 (mk_70 _) ?_
  refine Bod.eqI (nI e70) (by first | assumption | rfl | exact congrArg nI (by omega) | (simp (disch := omega) only [rI, rIe, rA, rIA, rLA, rJA, rVI, rQI, rVA, rQA, upd_at,  rAI, rLI, rJI, nI_add, pk_sub, kc_0, kc_1, kc_2, kc_3, kc_4, kc_5, reduceIte, Nat.reduceEqDiff, Nat.add_zero, rI_hold, rI_hold, rL_hold, hk, he69, he70]; done)) ?_
  refine Bod.istn dc_301_19 (by rw [ml_301]; exact Nat.le_of_ble_eq_true rfl) ?_
  refine Bod.go dc_301_20 rfl ?_
  refine Bod.ic 0 (by decide) dc_301_21 ?_
  refine Bod.go dc_301_22 rfl ?_
  refine Bod.virt (r := []) dc_301_23 kr_301_216 ⟨Or.inl rfl, ow_302, cl_14⟩ (by rw [np_302]; rfl) (by rw [np_302]; rfl) (ob_of (mk_61 _)) (Nat.le_of_ble_eq_true rfl) (c1  ) ?_
  show Bod _ _ _ _ [] _ _ _
  refine Bod.go dc_301_26 rfl ?_
  refine Bod.get dc_301_27 fr_301_129 (mk_61 _) rfl ?_
  refine Bod.go dc_301_30 rfl ?_
  refine Bod.get dc_301_31 fr_301_190 (mk_61 _) rfl ?_
  refine Bod.eqI (nI k1) (by first | (simp (disch := omega) only [rI, rIe, rA, rIA, rLA, rJA, rVI, rQI, rVA, rQA, upd_at,  rAI, rLI, rJI, nI_add, pk_sub, kc_0, kc_1, kc_2, kc_3, kc_4, kc_5, reduceIte, Nat.reduceEqDiff, Nat.add_zero, rI_hold, rI_hold, rL_hold, hk, he69, he70, hk1]; done) | (simp (disch := omega) only [rI, rIe, rA, rIA, rLA, rJA, rVI, rQI, rVA, rQA, upd_at,  rAI, rLI, rJI, nI_add, pk_sub, kc_0, kc_1, kc_2, kc_3, kc_4, kc_5, reduceIte, Nat.reduceEqDiff, Nat.add_zero, rI_hold, rI_hold, rL_hold, hk, he69, he70, hk1]; exact congrArg nI (by omega))) ?_
  refine Bod.ialdN k1 rfl (by omega) (by omega) dc_301_34 (mk_67 _) ?_
  refine Bod.eqI (nI e67) (by first | (simp (disch := omega) only [rI, rIe, rA, rIA, rLA, rJA, rVI, rQI, rVA, rQA, upd_at,  rAI, rLI, rJI, nI_add, pk_sub, kc_0, kc_1, kc_2, kc_3, kc_4, kc_5, reduceIte, Nat.reduceEqDiff, Nat.add_zero, rI_hold, rI_hold, rL_hold, hk, he69, he70, hk1, he67]; done) | (simp (disch := omega) only [rI, rIe, rA, rIA, rLA, rJA, rVI, rQI, rVA, rQA, upd_at,  rAI, rLI, rJI, nI_add, pk_sub, kc_0, kc_1, kc_2, kc_3, kc_4, kc_5, reduceIte, Nat.reduceEqDiff, Nat.add_zero, rI_hold, rI_hold, rL_hold, hk, he69, he70, hk1, he67]; exact congrArg nI (by omega))) ?_
  refine Bod.ic 2 (by decide) dc_301_35 ?_
  refine Bod.icT dc_301_36 rfl (k2_eq_T (k_eq e67 2 rfl rfl (by omega))) ?_
  refine Bod.go dc_301_59 rfl ?_
  refine Bod.get dc_301_60 fr_301_135 (mk_61 _) rfl ?_
  refine Bod.go dc_301_63 rfl ?_
  refine Bod.get dc_301_64 fr_301_190 (mk_61 _) rfl ?_
  refine Bod.eqI (nI k1) (by first | (simp (disch := omega) only [rI, rIe, rA, rIA, rLA, rJA, rVI, rQI, rVA, rQA, upd_at,  rAI, rLI, rJI, nI_add, pk_sub, kc_0, kc_1, kc_2, kc_3, kc_4, kc_5, reduceIte, Nat.reduceEqDiff, Nat.add_zero, rI_hold, rI_hold, rL_hold, hk, he69, he70, hk1, he67]; done) | (simp (disch := omega) only [rI, rIe, rA, rIA, rLA, rJA, rVI, rQI, rVA, rQA, upd_at,  rAI, rLI, rJI, nI_add, pk_sub, kc_0, kc_1, kc_2, kc_3, kc_4, kc_5, reduceIte, Nat.reduceEqDiff, Nat.add_zero, rI_hold, rI_hold, rL_hold, hk, he69, he70, hk1, he67]; exact congrArg nI (by omega))) ?_
  refine Bod.ialdN k1 rfl (by omega) (by omega) dc_301_67 (mk_68 _) ?_
  refine Bod.eqI (nI e68) (by first | (simp (disch := omega) only [rI, rIe, rA, rIA, rLA, rJA, rVI, rQI, rVA, rQA, upd_at,  rAI, rLI, rJI, nI_add, pk_sub, kc_0, kc_1, kc_2, kc_3, kc_4, kc_5, reduceIte, Nat.reduceEqDiff, Nat.add_zero, rI_hold, rI_hold, rL_hold, hk, he69, he70, hk1, he67, he68]; done) | (simp (disch := omega) only [rI, rIe, rA, rIA, rLA, rJA, rVI, rQI, rVA, rQA, upd_at,  rAI, rLI, rJI, nI_add, pk_sub, kc_0, kc_1, kc_2, kc_3, kc_4, kc_5, reduceIte, Nat.reduceEqDiff, Nat.add_zero, rI_hold, rI_hold, rL_hold, hk, he69, he70, hk1, he67, he68]; exact congrArg nI (by omega))) ?_
  refine Bod.sw (t := 177) dc_301_68 rfl rfl (by rw [sw15]; decide +kernel) ?_
  refine Bod.go dc_301_177 rfl ?_
  refine Bod.go dc_301_178 rfl ?_
  refine Bod.virt (r := []) dc_301_179 kr_301_299 ⟨Or.inl rfl, ow_347, cl_14⟩ (by rw [np_347]; rfl) (by rw [np_347]; rfl) (ob_of (mk_61 _)) (Nat.le_of_ble_eq_true rfl) (c2  ) ?_
  show Bod _ _ _ _ [_] _ _ _
  exact Bod.retZ dc_301_182 rt_301 (Or.inl rfl)
theorem zSt_13 {d : Nat} {S : cS} {k : Nat} {e69 : Nat} {e70 : Nat} {S1 : cS} {k1 : Nat} {e67 : Nat} {e68 : Nat} {S2 : cS} {S3 : cS} (hk : sI S 6115 = nI k) (mk : k < 6001) (he69 : sA S 69 k = nI e69) (me69 : e69 < 2 ^ 20) (he70 : sA S 70 k = nI e70) (me70 : e70 < 2 ^ 20) (c1 : Ans (d + 8) 302 [.ref 61, .int (nI 0), .int (nI e69)] S none S1) (hk1 : sI S1 6115 = nI k1) (mk1 : k1 < 6001) (he67 : sA S1 67 k1 = nI e67) (me67 : e67 < 2 ^ 20) (b1 : e67 = 2) (he68 : sA S1 68 k1 = nI e68) (me68 : e68 < 2 ^ 20) (b64 : e68 < 64) (n0 : e68 ≠ 0) (n3 : e68 ≠ 3) (n4 : e68 ≠ 4) (n6 : e68 ≠ 6) (n7 : e68 ≠ 7) (n14 : e68 ≠ 14) (c2 : Ans (d + 8) 304 [.ref 61] S1 (some (.int (nI 1))) S2) (c3 : Ans (d + 8) 332 [.ref 61] S2 (some (.int (nI 1))) S3) : Bod (d + 8) 301 0 [(0, .ref 61)] [] S (some (.int 1)) (S3) := by
  refine Bod.go dc_301_0 rfl ?_
  refine Bod.get dc_301_1 fr_301_138 (mk_61 _) rfl ?_
  refine Bod.go dc_301_4 rfl ?_
  refine Bod.get dc_301_5 fr_301_190 (mk_61 _) rfl ?_
  refine Bod.eqI (nI k) (by first | assumption | rfl | exact congrArg nI (by omega) | (simp (disch := omega) only [rI, rIe, rA, rIA, rLA, rJA, rVI, rQI, rVA, rQA, upd_at,  rAI, rLI, rJI, nI_add, pk_sub, kc_0, kc_1, kc_2, kc_3, kc_4, kc_5, reduceIte, Nat.reduceEqDiff, Nat.add_zero, rI_hold, rI_hold, rL_hold, hk]; done)) ?_
  refine Bod.ialdN k rfl (by omega) (by omega) dc_301_8 (mk_69 _) ?_
  refine Bod.eqI (nI e69) (by first | assumption | rfl | exact congrArg nI (by omega) | (simp (disch := omega) only [rI, rIe, rA, rIA, rLA, rJA, rVI, rQI, rVA, rQA, upd_at,  rAI, rLI, rJI, nI_add, pk_sub, kc_0, kc_1, kc_2, kc_3, kc_4, kc_5, reduceIte, Nat.reduceEqDiff, Nat.add_zero, rI_hold, rI_hold, rL_hold, hk, he69]; done)) ?_
  refine Bod.istn dc_301_9 (by rw [ml_301]; exact Nat.le_of_ble_eq_true rfl) ?_
  refine Bod.go dc_301_10 rfl ?_
  refine Bod.get dc_301_11 fr_301_141 (mk_61 _) rfl ?_
  refine Bod.go dc_301_14 rfl ?_
  refine Bod.get dc_301_15 fr_301_190 (mk_61 _) rfl ?_
  refine Bod.eqI (nI k) (by first | assumption | rfl | exact congrArg nI (by omega) | (simp (disch := omega) only [rI, rIe, rA, rIA, rLA, rJA, rVI, rQI, rVA, rQA, upd_at,  rAI, rLI, rJI, nI_add, pk_sub, kc_0, kc_1, kc_2, kc_3, kc_4, kc_5, reduceIte, Nat.reduceEqDiff, Nat.add_zero, rI_hold, rI_hold, rL_hold, hk, he69]; done)) ?_
  refine Bod.ialdN k rfl (by omega) (by omega) dc_301_18 (mk_70 _) ?_
  refine Bod.eqI (nI e70) (by first | assumption | rfl | exact congrArg nI (by omega) | (simp (disch := omega) only [rI, rIe, rA, rIA, rLA, rJA, rVI, rQI, rVA, rQA, upd_at,  rAI, rLI, rJI, nI_add, pk_sub, kc_0, kc_1, kc_2, kc_3, kc_4, kc_5, reduceIte, Nat.reduceEqDiff, Nat.add_zero, rI_hold, rI_hold, rL_hold, hk, he69, he70]; done)) ?_
  refine Bod.istn dc_301_19 (by rw [ml_301]; exact Nat.le_of_ble_eq_true rfl) ?_
  refine Bod.go dc_301_20 rfl ?_
  refine Bod.ic 0 (by decide) dc_301_21 ?_
  refine Bod.go dc_301_22 rfl ?_
  refine Bod.virt (r := []) dc_301_23 kr_301_216 ⟨Or.inl rfl, ow_302, cl_14⟩ (by rw [np_302]; rfl) (by rw [np_302]; rfl) (ob_of (mk_61 _)) (Nat.le_of_ble_eq_true rfl) (c1  ) ?_
  show Bod _ _ _ _ [] _ _ _
  refine Bod.go dc_301_26 rfl ?_
  refine Bod.get dc_301_27 fr_301_129 (mk_61 _) rfl ?_
  refine Bod.go dc_301_30 rfl ?_
  refine Bod.get dc_301_31 fr_301_190 (mk_61 _) rfl ?_
  refine Bod.eqI (nI k1) (by first | (simp (disch := omega) only [rI, rIe, rA, rIA, rLA, rJA, rVI, rQI, rVA, rQA, upd_at,  rAI, rLI, rJI, nI_add, pk_sub, kc_0, kc_1, kc_2, kc_3, kc_4, kc_5, reduceIte, Nat.reduceEqDiff, Nat.add_zero, rI_hold, rI_hold, rL_hold, hk, he69, he70, hk1]; done) | (simp (disch := omega) only [rI, rIe, rA, rIA, rLA, rJA, rVI, rQI, rVA, rQA, upd_at,  rAI, rLI, rJI, nI_add, pk_sub, kc_0, kc_1, kc_2, kc_3, kc_4, kc_5, reduceIte, Nat.reduceEqDiff, Nat.add_zero, rI_hold, rI_hold, rL_hold, hk, he69, he70, hk1]; exact congrArg nI (by omega))) ?_
  refine Bod.ialdN k1 rfl (by omega) (by omega) dc_301_34 (mk_67 _) ?_
  refine Bod.eqI (nI e67) (by first | (simp (disch := omega) only [rI, rIe, rA, rIA, rLA, rJA, rVI, rQI, rVA, rQA, upd_at,  rAI, rLI, rJI, nI_add, pk_sub, kc_0, kc_1, kc_2, kc_3, kc_4, kc_5, reduceIte, Nat.reduceEqDiff, Nat.add_zero, rI_hold, rI_hold, rL_hold, hk, he69, he70, hk1, he67]; done) | (simp (disch := omega) only [rI, rIe, rA, rIA, rLA, rJA, rVI, rQI, rVA, rQA, upd_at,  rAI, rLI, rJI, nI_add, pk_sub, kc_0, kc_1, kc_2, kc_3, kc_4, kc_5, reduceIte, Nat.reduceEqDiff, Nat.add_zero, rI_hold, rI_hold, rL_hold, hk, he69, he70, hk1, he67]; exact congrArg nI (by omega))) ?_
  refine Bod.ic 2 (by decide) dc_301_35 ?_
  refine Bod.icT dc_301_36 rfl (k2_eq_T (k_eq e67 2 rfl rfl (by omega))) ?_
  refine Bod.go dc_301_59 rfl ?_
  refine Bod.get dc_301_60 fr_301_135 (mk_61 _) rfl ?_
  refine Bod.go dc_301_63 rfl ?_
  refine Bod.get dc_301_64 fr_301_190 (mk_61 _) rfl ?_
  refine Bod.eqI (nI k1) (by first | (simp (disch := omega) only [rI, rIe, rA, rIA, rLA, rJA, rVI, rQI, rVA, rQA, upd_at,  rAI, rLI, rJI, nI_add, pk_sub, kc_0, kc_1, kc_2, kc_3, kc_4, kc_5, reduceIte, Nat.reduceEqDiff, Nat.add_zero, rI_hold, rI_hold, rL_hold, hk, he69, he70, hk1, he67]; done) | (simp (disch := omega) only [rI, rIe, rA, rIA, rLA, rJA, rVI, rQI, rVA, rQA, upd_at,  rAI, rLI, rJI, nI_add, pk_sub, kc_0, kc_1, kc_2, kc_3, kc_4, kc_5, reduceIte, Nat.reduceEqDiff, Nat.add_zero, rI_hold, rI_hold, rL_hold, hk, he69, he70, hk1, he67]; exact congrArg nI (by omega))) ?_
  refine Bod.ialdN k1 rfl (by omega) (by omega) dc_301_67 (mk_68 _) ?_
  refine Bod.eqI (nI e68) (by first | (simp (disch := omega) only [rI, rIe, rA, rIA, rLA, rJA, rVI, rQI, rVA, rQA, upd_at,  rAI, rLI, rJI, nI_add, pk_sub, kc_0, kc_1, kc_2, kc_3, kc_4, kc_5, reduceIte, Nat.reduceEqDiff, Nat.add_zero, rI_hold, rI_hold, rL_hold, hk, he69, he70, hk1, he67, he68]; done) | (simp (disch := omega) only [rI, rIe, rA, rIA, rLA, rJA, rVI, rQI, rVA, rQA, upd_at,  rAI, rLI, rJI, nI_add, pk_sub, kc_0, kc_1, kc_2, kc_3, kc_4, kc_5, reduceIte, Nat.reduceEqDiff, Nat.add_zero, rI_hold, rI_hold, rL_hold, hk, he69, he70, hk1, he67, he68]; exact congrArg nI (by omega))) ?_
  refine Bod.sw (t := 183) dc_301_68 rfl rfl ((((((((xsw_301_68 e68 b64).resolve_left n0).resolve_left n3).resolve_left n4).resolve_left n6).resolve_left n7).resolve_left n14)) ?_
  refine Bod.go dc_301_183 rfl ?_
  refine Bod.virt (r := []) dc_301_184 kr_301_279 ⟨Or.inl rfl, ow_304, cl_14⟩ (by rw [np_304]; rfl) (by rw [np_304]; rfl) (ob_of (mk_61 _)) (Nat.le_of_ble_eq_true rfl) (c2  ) ?_
  show Bod _ _ _ _ [_] _ _ _
  refine Bod.ifF dc_301_187 rfl (k1_eq_F (k_ne 1 0 rfl rfl (by omega) (by omega) (by omega))) ?_
  refine Bod.go dc_301_190 rfl ?_
  refine Bod.virt (r := []) dc_301_191 kr_301_273 ⟨Or.inl rfl, ow_332, cl_14⟩ (by rw [np_332]; rfl) (by rw [np_332]; rfl) (ob_of (mk_61 _)) (Nat.le_of_ble_eq_true rfl) (c3  ) ?_
  show Bod _ _ _ _ [_] _ _ _
  refine Bod.ifF dc_301_194 rfl (k1_eq_F (k_ne 1 0 rfl rfl (by omega) (by omega) (by omega))) ?_
  refine Bod.ic 1 (by decide) dc_301_197 ?_
  refine Bod.go dc_301_198 rfl ?_
  exact Bod.retZ dc_301_202 rt_301 (Or.inr rfl)
theorem zSt_14 {d : Nat} {S : cS} {k : Nat} {e69 : Nat} {e70 : Nat} {S1 : cS} {k1 : Nat} {e67 : Nat} {e68 : Nat} {S2 : cS} {S3 : cS} (hk : sI S 6115 = nI k) (mk : k < 6001) (he69 : sA S 69 k = nI e69) (me69 : e69 < 2 ^ 20) (he70 : sA S 70 k = nI e70) (me70 : e70 < 2 ^ 20) (c1 : Ans (d + 8) 302 [.ref 61, .int (nI 0), .int (nI e69)] S none S1) (hk1 : sI S1 6115 = nI k1) (mk1 : k1 < 6001) (he67 : sA S1 67 k1 = nI e67) (me67 : e67 < 2 ^ 20) (b1 : e67 = 2) (he68 : sA S1 68 k1 = nI e68) (me68 : e68 < 2 ^ 20) (b64 : e68 < 64) (n0 : e68 ≠ 0) (n3 : e68 ≠ 3) (n4 : e68 ≠ 4) (n6 : e68 ≠ 6) (n7 : e68 ≠ 7) (n14 : e68 ≠ 14) (c2 : Ans (d + 8) 304 [.ref 61] S1 (some (.int (nI 1))) S2) (c3 : Ans (d + 8) 332 [.ref 61] S2 (some (.int (nI 0))) S3) : Bod (d + 8) 301 0 [(0, .ref 61)] [] S (some (.int 0)) (S3) := by
  refine Bod.go dc_301_0 rfl ?_
  refine Bod.get dc_301_1 fr_301_138 (mk_61 _) rfl ?_
  refine Bod.go dc_301_4 rfl ?_
  refine Bod.get dc_301_5 fr_301_190 (mk_61 _) rfl ?_
  refine Bod.eqI (nI k) (by first | assumption | rfl | exact congrArg nI (by omega) | (simp (disch := omega) only [rI, rIe, rA, rIA, rLA, rJA, rVI, rQI, rVA, rQA, upd_at,  rAI, rLI, rJI, nI_add, pk_sub, kc_0, kc_1, kc_2, kc_3, kc_4, kc_5, reduceIte, Nat.reduceEqDiff, Nat.add_zero, rI_hold, rI_hold, rL_hold, hk]; done)) ?_
  refine Bod.ialdN k rfl (by omega) (by omega) dc_301_8 (mk_69 _) ?_
  refine Bod.eqI (nI e69) (by first | assumption | rfl | exact congrArg nI (by omega) | (simp (disch := omega) only [rI, rIe, rA, rIA, rLA, rJA, rVI, rQI, rVA, rQA, upd_at,  rAI, rLI, rJI, nI_add, pk_sub, kc_0, kc_1, kc_2, kc_3, kc_4, kc_5, reduceIte, Nat.reduceEqDiff, Nat.add_zero, rI_hold, rI_hold, rL_hold, hk, he69]; done)) ?_
  refine Bod.istn dc_301_9 (by rw [ml_301]; exact Nat.le_of_ble_eq_true rfl) ?_
  refine Bod.go dc_301_10 rfl ?_
  refine Bod.get dc_301_11 fr_301_141 (mk_61 _) rfl ?_
  refine Bod.go dc_301_14 rfl ?_
  refine Bod.get dc_301_15 fr_301_190 (mk_61 _) rfl ?_
  refine Bod.eqI (nI k) (by first | assumption | rfl | exact congrArg nI (by omega) | (simp (disch := omega) only [rI, rIe, rA, rIA, rLA, rJA, rVI, rQI, rVA, rQA, upd_at,  rAI, rLI, rJI, nI_add, pk_sub, kc_0, kc_1, kc_2, kc_3, kc_4, kc_5, reduceIte, Nat.reduceEqDiff, Nat.add_zero, rI_hold, rI_hold, rL_hold, hk, he69]; done)) ?_
  refine Bod.ialdN k rfl (by omega) (by omega) dc_301_18 (mk_70 _) ?_
  refine Bod.eqI (nI e70) (by first | assumption | rfl | exact congrArg nI (by omega) | (simp (disch := omega) only [rI, rIe, rA, rIA, rLA, rJA, rVI, rQI, rVA, rQA, upd_at,  rAI, rLI, rJI, nI_add, pk_sub, kc_0, kc_1, kc_2, kc_3, kc_4, kc_5, reduceIte, Nat.reduceEqDiff, Nat.add_zero, rI_hold, rI_hold, rL_hold, hk, he69, he70]; done)) ?_
  refine Bod.istn dc_301_19 (by rw [ml_301]; exact Nat.le_of_ble_eq_true rfl) ?_
  refine Bod.go dc_301_20 rfl ?_
  refine Bod.ic 0 (by decide) dc_301_21 ?_
  refine Bod.go dc_301_22 rfl ?_
  refine Bod.virt (r := []) dc_301_23 kr_301_216 ⟨Or.inl rfl, ow_302, cl_14⟩ (by rw [np_302]; rfl) (by rw [np_302]; rfl) (ob_of (mk_61 _)) (Nat.le_of_ble_eq_true rfl) (c1  ) ?_
  show Bod _ _ _ _ [] _ _ _
  refine Bod.go dc_301_26 rfl ?_
  refine Bod.get dc_301_27 fr_301_129 (mk_61 _) rfl ?_
  refine Bod.go dc_301_30 rfl ?_
  refine Bod.get dc_301_31 fr_301_190 (mk_61 _) rfl ?_
  refine Bod.eqI (nI k1) (by first | (simp (disch := omega) only [rI, rIe, rA, rIA, rLA, rJA, rVI, rQI, rVA, rQA, upd_at,  rAI, rLI, rJI, nI_add, pk_sub, kc_0, kc_1, kc_2, kc_3, kc_4, kc_5, reduceIte, Nat.reduceEqDiff, Nat.add_zero, rI_hold, rI_hold, rL_hold, hk, he69, he70, hk1]; done) | (simp (disch := omega) only [rI, rIe, rA, rIA, rLA, rJA, rVI, rQI, rVA, rQA, upd_at,  rAI, rLI, rJI, nI_add, pk_sub, kc_0, kc_1, kc_2, kc_3, kc_4, kc_5, reduceIte, Nat.reduceEqDiff, Nat.add_zero, rI_hold, rI_hold, rL_hold, hk, he69, he70, hk1]; exact congrArg nI (by omega))) ?_
  refine Bod.ialdN k1 rfl (by omega) (by omega) dc_301_34 (mk_67 _) ?_
  refine Bod.eqI (nI e67) (by first | (simp (disch := omega) only [rI, rIe, rA, rIA, rLA, rJA, rVI, rQI, rVA, rQA, upd_at,  rAI, rLI, rJI, nI_add, pk_sub, kc_0, kc_1, kc_2, kc_3, kc_4, kc_5, reduceIte, Nat.reduceEqDiff, Nat.add_zero, rI_hold, rI_hold, rL_hold, hk, he69, he70, hk1, he67]; done) | (simp (disch := omega) only [rI, rIe, rA, rIA, rLA, rJA, rVI, rQI, rVA, rQA, upd_at,  rAI, rLI, rJI, nI_add, pk_sub, kc_0, kc_1, kc_2, kc_3, kc_4, kc_5, reduceIte, Nat.reduceEqDiff, Nat.add_zero, rI_hold, rI_hold, rL_hold, hk, he69, he70, hk1, he67]; exact congrArg nI (by omega))) ?_
  refine Bod.ic 2 (by decide) dc_301_35 ?_
  refine Bod.icT dc_301_36 rfl (k2_eq_T (k_eq e67 2 rfl rfl (by omega))) ?_
  refine Bod.go dc_301_59 rfl ?_
  refine Bod.get dc_301_60 fr_301_135 (mk_61 _) rfl ?_
  refine Bod.go dc_301_63 rfl ?_
  refine Bod.get dc_301_64 fr_301_190 (mk_61 _) rfl ?_
  refine Bod.eqI (nI k1) (by first | (simp (disch := omega) only [rI, rIe, rA, rIA, rLA, rJA, rVI, rQI, rVA, rQA, upd_at,  rAI, rLI, rJI, nI_add, pk_sub, kc_0, kc_1, kc_2, kc_3, kc_4, kc_5, reduceIte, Nat.reduceEqDiff, Nat.add_zero, rI_hold, rI_hold, rL_hold, hk, he69, he70, hk1, he67]; done) | (simp (disch := omega) only [rI, rIe, rA, rIA, rLA, rJA, rVI, rQI, rVA, rQA, upd_at,  rAI, rLI, rJI, nI_add, pk_sub, kc_0, kc_1, kc_2, kc_3, kc_4, kc_5, reduceIte, Nat.reduceEqDiff, Nat.add_zero, rI_hold, rI_hold, rL_hold, hk, he69, he70, hk1, he67]; exact congrArg nI (by omega))) ?_
  refine Bod.ialdN k1 rfl (by omega) (by omega) dc_301_67 (mk_68 _) ?_
  refine Bod.eqI (nI e68) (by first | (simp (disch := omega) only [rI, rIe, rA, rIA, rLA, rJA, rVI, rQI, rVA, rQA, upd_at,  rAI, rLI, rJI, nI_add, pk_sub, kc_0, kc_1, kc_2, kc_3, kc_4, kc_5, reduceIte, Nat.reduceEqDiff, Nat.add_zero, rI_hold, rI_hold, rL_hold, hk, he69, he70, hk1, he67, he68]; done) | (simp (disch := omega) only [rI, rIe, rA, rIA, rLA, rJA, rVI, rQI, rVA, rQA, upd_at,  rAI, rLI, rJI, nI_add, pk_sub, kc_0, kc_1, kc_2, kc_3, kc_4, kc_5, reduceIte, Nat.reduceEqDiff, Nat.add_zero, rI_hold, rI_hold, rL_hold, hk, he69, he70, hk1, he67, he68]; exact congrArg nI (by omega))) ?_
  refine Bod.sw (t := 183) dc_301_68 rfl rfl ((((((((xsw_301_68 e68 b64).resolve_left n0).resolve_left n3).resolve_left n4).resolve_left n6).resolve_left n7).resolve_left n14)) ?_
  refine Bod.go dc_301_183 rfl ?_
  refine Bod.virt (r := []) dc_301_184 kr_301_279 ⟨Or.inl rfl, ow_304, cl_14⟩ (by rw [np_304]; rfl) (by rw [np_304]; rfl) (ob_of (mk_61 _)) (Nat.le_of_ble_eq_true rfl) (c2  ) ?_
  show Bod _ _ _ _ [_] _ _ _
  refine Bod.ifF dc_301_187 rfl (k1_eq_F (k_ne 1 0 rfl rfl (by omega) (by omega) (by omega))) ?_
  refine Bod.go dc_301_190 rfl ?_
  refine Bod.virt (r := []) dc_301_191 kr_301_273 ⟨Or.inl rfl, ow_332, cl_14⟩ (by rw [np_332]; rfl) (by rw [np_332]; rfl) (ob_of (mk_61 _)) (Nat.le_of_ble_eq_true rfl) (c3  ) ?_
  show Bod _ _ _ _ [_] _ _ _
  refine Bod.ifT dc_301_194 rfl (k1_eq_T (k_eq 0 0 rfl rfl (by omega))) ?_
  refine Bod.ic 0 (by decide) dc_301_201 ?_
  exact Bod.retZ dc_301_202 rt_301 (Or.inl rfl)
theorem zSt_15 {d : Nat} {S : cS} {k : Nat} {e69 : Nat} {e70 : Nat} {S1 : cS} {k1 : Nat} {e67 : Nat} {e68 : Nat} {S2 : cS} (hk : sI S 6115 = nI k) (mk : k < 6001) (he69 : sA S 69 k = nI e69) (me69 : e69 < 2 ^ 20) (he70 : sA S 70 k = nI e70) (me70 : e70 < 2 ^ 20) (c1 : Ans (d + 8) 302 [.ref 61, .int (nI 0), .int (nI e69)] S none S1) (hk1 : sI S1 6115 = nI k1) (mk1 : k1 < 6001) (he67 : sA S1 67 k1 = nI e67) (me67 : e67 < 2 ^ 20) (b1 : e67 = 2) (he68 : sA S1 68 k1 = nI e68) (me68 : e68 < 2 ^ 20) (b64 : e68 < 64) (n0 : e68 ≠ 0) (n3 : e68 ≠ 3) (n4 : e68 ≠ 4) (n6 : e68 ≠ 6) (n7 : e68 ≠ 7) (n14 : e68 ≠ 14) (c2 : Ans (d + 8) 304 [.ref 61] S1 (some (.int (nI 0))) S2) : Bod (d + 8) 301 0 [(0, .ref 61)] [] S (some (.int 0)) (S2) := by
  refine Bod.go dc_301_0 rfl ?_
  refine Bod.get dc_301_1 fr_301_138 (mk_61 _) rfl ?_
  refine Bod.go dc_301_4 rfl ?_
  refine Bod.get dc_301_5 fr_301_190 (mk_61 _) rfl ?_
  refine Bod.eqI (nI k) (by first | assumption | rfl | exact congrArg nI (by omega) | (simp (disch := omega) only [rI, rIe, rA, rIA, rLA, rJA, rVI, rQI, rVA, rQA, upd_at,  rAI, rLI, rJI, nI_add, pk_sub, kc_0, kc_1, kc_2, kc_3, kc_4, kc_5, reduceIte, Nat.reduceEqDiff, Nat.add_zero, rI_hold, rI_hold, rL_hold, hk]; done)) ?_
  refine Bod.ialdN k rfl (by omega) (by omega) dc_301_8 (mk_69 _) ?_
  refine Bod.eqI (nI e69) (by first | assumption | rfl | exact congrArg nI (by omega) | (simp (disch := omega) only [rI, rIe, rA, rIA, rLA, rJA, rVI, rQI, rVA, rQA, upd_at,  rAI, rLI, rJI, nI_add, pk_sub, kc_0, kc_1, kc_2, kc_3, kc_4, kc_5, reduceIte, Nat.reduceEqDiff, Nat.add_zero, rI_hold, rI_hold, rL_hold, hk, he69]; done)) ?_
  refine Bod.istn dc_301_9 (by rw [ml_301]; exact Nat.le_of_ble_eq_true rfl) ?_
  refine Bod.go dc_301_10 rfl ?_
  refine Bod.get dc_301_11 fr_301_141 (mk_61 _) rfl ?_
  refine Bod.go dc_301_14 rfl ?_
  refine Bod.get dc_301_15 fr_301_190 (mk_61 _) rfl ?_
  refine Bod.eqI (nI k) (by first | assumption | rfl | exact congrArg nI (by omega) | (simp (disch := omega) only [rI, rIe, rA, rIA, rLA, rJA, rVI, rQI, rVA, rQA, upd_at,  rAI, rLI, rJI, nI_add, pk_sub, kc_0, kc_1, kc_2, kc_3, kc_4, kc_5, reduceIte, Nat.reduceEqDiff, Nat.add_zero, rI_hold, rI_hold, rL_hold, hk, he69]; done)) ?_
  refine Bod.ialdN k rfl (by omega) (by omega) dc_301_18 (mk_70 _) ?_
  refine Bod.eqI (nI e70) (by first | assumption | rfl | exact congrArg nI (by omega) | (simp (disch := omega) only [rI, rIe, rA, rIA, rLA, rJA, rVI, rQI, rVA, rQA, upd_at,  rAI, rLI, rJI, nI_add, pk_sub, kc_0, kc_1, kc_2, kc_3, kc_4, kc_5, reduceIte, Nat.reduceEqDiff, Nat.add_zero, rI_hold, rI_hold, rL_hold, hk, he69, he70]; done)) ?_
  refine Bod.istn dc_301_19 (by rw [ml_301]; exact Nat.le_of_ble_eq_true rfl) ?_
  refine Bod.go dc_301_20 rfl ?_
  refine Bod.ic 0 (by decide) dc_301_21 ?_
  refine Bod.go dc_301_22 rfl ?_
  refine Bod.virt (r := []) dc_301_23 kr_301_216 ⟨Or.inl rfl, ow_302, cl_14⟩ (by rw [np_302]; rfl) (by rw [np_302]; rfl) (ob_of (mk_61 _)) (Nat.le_of_ble_eq_true rfl) (c1  ) ?_
  show Bod _ _ _ _ [] _ _ _
  refine Bod.go dc_301_26 rfl ?_
  refine Bod.get dc_301_27 fr_301_129 (mk_61 _) rfl ?_
  refine Bod.go dc_301_30 rfl ?_
  refine Bod.get dc_301_31 fr_301_190 (mk_61 _) rfl ?_
  refine Bod.eqI (nI k1) (by first | (simp (disch := omega) only [rI, rIe, rA, rIA, rLA, rJA, rVI, rQI, rVA, rQA, upd_at,  rAI, rLI, rJI, nI_add, pk_sub, kc_0, kc_1, kc_2, kc_3, kc_4, kc_5, reduceIte, Nat.reduceEqDiff, Nat.add_zero, rI_hold, rI_hold, rL_hold, hk, he69, he70, hk1]; done) | (simp (disch := omega) only [rI, rIe, rA, rIA, rLA, rJA, rVI, rQI, rVA, rQA, upd_at,  rAI, rLI, rJI, nI_add, pk_sub, kc_0, kc_1, kc_2, kc_3, kc_4, kc_5, reduceIte, Nat.reduceEqDiff, Nat.add_zero, rI_hold, rI_hold, rL_hold, hk, he69, he70, hk1]; exact congrArg nI (by omega))) ?_
  refine Bod.ialdN k1 rfl (by omega) (by omega) dc_301_34 (mk_67 _) ?_
  refine Bod.eqI (nI e67) (by first | (simp (disch := omega) only [rI, rIe, rA, rIA, rLA, rJA, rVI, rQI, rVA, rQA, upd_at,  rAI, rLI, rJI, nI_add, pk_sub, kc_0, kc_1, kc_2, kc_3, kc_4, kc_5, reduceIte, Nat.reduceEqDiff, Nat.add_zero, rI_hold, rI_hold, rL_hold, hk, he69, he70, hk1, he67]; done) | (simp (disch := omega) only [rI, rIe, rA, rIA, rLA, rJA, rVI, rQI, rVA, rQA, upd_at,  rAI, rLI, rJI, nI_add, pk_sub, kc_0, kc_1, kc_2, kc_3, kc_4, kc_5, reduceIte, Nat.reduceEqDiff, Nat.add_zero, rI_hold, rI_hold, rL_hold, hk, he69, he70, hk1, he67]; exact congrArg nI (by omega))) ?_
  refine Bod.ic 2 (by decide) dc_301_35 ?_
  refine Bod.icT dc_301_36 rfl (k2_eq_T (k_eq e67 2 rfl rfl (by omega))) ?_
  refine Bod.go dc_301_59 rfl ?_
  refine Bod.get dc_301_60 fr_301_135 (mk_61 _) rfl ?_
  refine Bod.go dc_301_63 rfl ?_
  refine Bod.get dc_301_64 fr_301_190 (mk_61 _) rfl ?_
  refine Bod.eqI (nI k1) (by first | (simp (disch := omega) only [rI, rIe, rA, rIA, rLA, rJA, rVI, rQI, rVA, rQA, upd_at,  rAI, rLI, rJI, nI_add, pk_sub, kc_0, kc_1, kc_2, kc_3, kc_4, kc_5, reduceIte, Nat.reduceEqDiff, Nat.add_zero, rI_hold, rI_hold, rL_hold, hk, he69, he70, hk1, he67]; done) | (simp (disch := omega) only [rI, rIe, rA, rIA, rLA, rJA, rVI, rQI, rVA, rQA, upd_at,  rAI, rLI, rJI, nI_add, pk_sub, kc_0, kc_1, kc_2, kc_3, kc_4, kc_5, reduceIte, Nat.reduceEqDiff, Nat.add_zero, rI_hold, rI_hold, rL_hold, hk, he69, he70, hk1, he67]; exact congrArg nI (by omega))) ?_
  refine Bod.ialdN k1 rfl (by omega) (by omega) dc_301_67 (mk_68 _) ?_
  refine Bod.eqI (nI e68) (by first | (simp (disch := omega) only [rI, rIe, rA, rIA, rLA, rJA, rVI, rQI, rVA, rQA, upd_at,  rAI, rLI, rJI, nI_add, pk_sub, kc_0, kc_1, kc_2, kc_3, kc_4, kc_5, reduceIte, Nat.reduceEqDiff, Nat.add_zero, rI_hold, rI_hold, rL_hold, hk, he69, he70, hk1, he67, he68]; done) | (simp (disch := omega) only [rI, rIe, rA, rIA, rLA, rJA, rVI, rQI, rVA, rQA, upd_at,  rAI, rLI, rJI, nI_add, pk_sub, kc_0, kc_1, kc_2, kc_3, kc_4, kc_5, reduceIte, Nat.reduceEqDiff, Nat.add_zero, rI_hold, rI_hold, rL_hold, hk, he69, he70, hk1, he67, he68]; exact congrArg nI (by omega))) ?_
  refine Bod.sw (t := 183) dc_301_68 rfl rfl ((((((((xsw_301_68 e68 b64).resolve_left n0).resolve_left n3).resolve_left n4).resolve_left n6).resolve_left n7).resolve_left n14)) ?_
  refine Bod.go dc_301_183 rfl ?_
  refine Bod.virt (r := []) dc_301_184 kr_301_279 ⟨Or.inl rfl, ow_304, cl_14⟩ (by rw [np_304]; rfl) (by rw [np_304]; rfl) (ob_of (mk_61 _)) (Nat.le_of_ble_eq_true rfl) (c2  ) ?_
  show Bod _ _ _ _ [_] _ _ _
  refine Bod.ifT dc_301_187 rfl (k1_eq_T (k_eq 0 0 rfl rfl (by omega))) ?_
  refine Bod.ic 0 (by decide) dc_301_201 ?_
  exact Bod.retZ dc_301_202 rt_301 (Or.inl rfl)
theorem zSt_16 {d : Nat} {S : cS} {k : Nat} {e69 : Nat} {e70 : Nat} {S1 : cS} {k1 : Nat} {e67 : Nat} {S2 : cS} {S3 : cS} (hk : sI S 6115 = nI k) (mk : k < 6001) (he69 : sA S 69 k = nI e69) (me69 : e69 < 2 ^ 20) (he70 : sA S 70 k = nI e70) (me70 : e70 < 2 ^ 20) (c1 : Ans (d + 8) 302 [.ref 61, .int (nI 0), .int (nI e69)] S none S1) (hk1 : sI S1 6115 = nI k1) (mk1 : k1 < 6001) (he67 : sA S1 67 k1 = nI e67) (me67 : e67 < 2 ^ 20) (b1 : e67 ≠ 2) (c2 : Ans (d + 8) 304 [.ref 61] S1 (some (.int (nI 1))) S2) (c3 : Ans (d + 8) 332 [.ref 61] S2 (some (.int (nI 1))) S3) : Bod (d + 8) 301 0 [(0, .ref 61)] [] S (some (.int 1)) (S3) := by
  refine Bod.go dc_301_0 rfl ?_
  refine Bod.get dc_301_1 fr_301_138 (mk_61 _) rfl ?_
  refine Bod.go dc_301_4 rfl ?_
  refine Bod.get dc_301_5 fr_301_190 (mk_61 _) rfl ?_
  refine Bod.eqI (nI k) (by first | assumption | rfl | exact congrArg nI (by omega) | (simp (disch := omega) only [rI, rIe, rA, rIA, rLA, rJA, rVI, rQI, rVA, rQA, upd_at,  rAI, rLI, rJI, nI_add, pk_sub, kc_0, kc_1, kc_2, kc_3, kc_4, kc_5, reduceIte, Nat.reduceEqDiff, Nat.add_zero, rI_hold, rI_hold, rL_hold, hk]; done)) ?_
  refine Bod.ialdN k rfl (by omega) (by omega) dc_301_8 (mk_69 _) ?_
  refine Bod.eqI (nI e69) (by first | assumption | rfl | exact congrArg nI (by omega) | (simp (disch := omega) only [rI, rIe, rA, rIA, rLA, rJA, rVI, rQI, rVA, rQA, upd_at,  rAI, rLI, rJI, nI_add, pk_sub, kc_0, kc_1, kc_2, kc_3, kc_4, kc_5, reduceIte, Nat.reduceEqDiff, Nat.add_zero, rI_hold, rI_hold, rL_hold, hk, he69]; done)) ?_
  refine Bod.istn dc_301_9 (by rw [ml_301]; exact Nat.le_of_ble_eq_true rfl) ?_
  refine Bod.go dc_301_10 rfl ?_
  refine Bod.get dc_301_11 fr_301_141 (mk_61 _) rfl ?_
  refine Bod.go dc_301_14 rfl ?_
  refine Bod.get dc_301_15 fr_301_190 (mk_61 _) rfl ?_
  refine Bod.eqI (nI k) (by first | assumption | rfl | exact congrArg nI (by omega) | (simp (disch := omega) only [rI, rIe, rA, rIA, rLA, rJA, rVI, rQI, rVA, rQA, upd_at,  rAI, rLI, rJI, nI_add, pk_sub, kc_0, kc_1, kc_2, kc_3, kc_4, kc_5, reduceIte, Nat.reduceEqDiff, Nat.add_zero, rI_hold, rI_hold, rL_hold, hk, he69]; done)) ?_
  refine Bod.ialdN k rfl (by omega) (by omega) dc_301_18 (mk_70 _) ?_
  refine Bod.eqI (nI e70) (by first | assumption | rfl | exact congrArg nI (by omega) | (simp (disch := omega) only [rI, rIe, rA, rIA, rLA, rJA, rVI, rQI, rVA, rQA, upd_at,  rAI, rLI, rJI, nI_add, pk_sub, kc_0, kc_1, kc_2, kc_3, kc_4, kc_5, reduceIte, Nat.reduceEqDiff, Nat.add_zero, rI_hold, rI_hold, rL_hold, hk, he69, he70]; done)) ?_
  refine Bod.istn dc_301_19 (by rw [ml_301]; exact Nat.le_of_ble_eq_true rfl) ?_
  refine Bod.go dc_301_20 rfl ?_
  refine Bod.ic 0 (by decide) dc_301_21 ?_
  refine Bod.go dc_301_22 rfl ?_
  refine Bod.virt (r := []) dc_301_23 kr_301_216 ⟨Or.inl rfl, ow_302, cl_14⟩ (by rw [np_302]; rfl) (by rw [np_302]; rfl) (ob_of (mk_61 _)) (Nat.le_of_ble_eq_true rfl) (c1  ) ?_
  show Bod _ _ _ _ [] _ _ _
  refine Bod.go dc_301_26 rfl ?_
  refine Bod.get dc_301_27 fr_301_129 (mk_61 _) rfl ?_
  refine Bod.go dc_301_30 rfl ?_
  refine Bod.get dc_301_31 fr_301_190 (mk_61 _) rfl ?_
  refine Bod.eqI (nI k1) (by first | (simp (disch := omega) only [rI, rIe, rA, rIA, rLA, rJA, rVI, rQI, rVA, rQA, upd_at,  rAI, rLI, rJI, nI_add, pk_sub, kc_0, kc_1, kc_2, kc_3, kc_4, kc_5, reduceIte, Nat.reduceEqDiff, Nat.add_zero, rI_hold, rI_hold, rL_hold, hk, he69, he70, hk1]; done) | (simp (disch := omega) only [rI, rIe, rA, rIA, rLA, rJA, rVI, rQI, rVA, rQA, upd_at,  rAI, rLI, rJI, nI_add, pk_sub, kc_0, kc_1, kc_2, kc_3, kc_4, kc_5, reduceIte, Nat.reduceEqDiff, Nat.add_zero, rI_hold, rI_hold, rL_hold, hk, he69, he70, hk1]; exact congrArg nI (by omega))) ?_
  refine Bod.ialdN k1 rfl (by omega) (by omega) dc_301_34 (mk_67 _) ?_
  refine Bod.eqI (nI e67) (by first | (simp (disch := omega) only [rI, rIe, rA, rIA, rLA, rJA, rVI, rQI, rVA, rQA, upd_at,  rAI, rLI, rJI, nI_add, pk_sub, kc_0, kc_1, kc_2, kc_3, kc_4, kc_5, reduceIte, Nat.reduceEqDiff, Nat.add_zero, rI_hold, rI_hold, rL_hold, hk, he69, he70, hk1, he67]; done) | (simp (disch := omega) only [rI, rIe, rA, rIA, rLA, rJA, rVI, rQI, rVA, rQA, upd_at,  rAI, rLI, rJI, nI_add, pk_sub, kc_0, kc_1, kc_2, kc_3, kc_4, kc_5, reduceIte, Nat.reduceEqDiff, Nat.add_zero, rI_hold, rI_hold, rL_hold, hk, he69, he70, hk1, he67]; exact congrArg nI (by omega))) ?_
  refine Bod.ic 2 (by decide) dc_301_35 ?_
  refine Bod.icF dc_301_36 rfl (k2_eq_F (k_ne e67 2 rfl rfl (by omega) (by omega) (by omega))) ?_
  refine Bod.go dc_301_39 rfl ?_
  refine Bod.virt (r := []) dc_301_40 kr_301_279 ⟨Or.inl rfl, ow_304, cl_14⟩ (by rw [np_304]; rfl) (by rw [np_304]; rfl) (ob_of (mk_61 _)) (Nat.le_of_ble_eq_true rfl) (c2  ) ?_
  show Bod _ _ _ _ [_] _ _ _
  refine Bod.ifF dc_301_43 rfl (k1_eq_F (k_ne 1 0 rfl rfl (by omega) (by omega) (by omega))) ?_
  refine Bod.go dc_301_46 rfl ?_
  refine Bod.virt (r := []) dc_301_47 kr_301_273 ⟨Or.inl rfl, ow_332, cl_14⟩ (by rw [np_332]; rfl) (by rw [np_332]; rfl) (ob_of (mk_61 _)) (Nat.le_of_ble_eq_true rfl) (c3  ) ?_
  show Bod _ _ _ _ [_] _ _ _
  refine Bod.ifF dc_301_50 rfl (k1_eq_F (k_ne 1 0 rfl rfl (by omega) (by omega) (by omega))) ?_
  refine Bod.ic 1 (by decide) dc_301_53 ?_
  refine Bod.go dc_301_54 rfl ?_
  exact Bod.retZ dc_301_58 rt_301 (Or.inr rfl)
theorem zSt_17 {d : Nat} {S : cS} {k : Nat} {e69 : Nat} {e70 : Nat} {S1 : cS} {k1 : Nat} {e67 : Nat} {S2 : cS} {S3 : cS} (hk : sI S 6115 = nI k) (mk : k < 6001) (he69 : sA S 69 k = nI e69) (me69 : e69 < 2 ^ 20) (he70 : sA S 70 k = nI e70) (me70 : e70 < 2 ^ 20) (c1 : Ans (d + 8) 302 [.ref 61, .int (nI 0), .int (nI e69)] S none S1) (hk1 : sI S1 6115 = nI k1) (mk1 : k1 < 6001) (he67 : sA S1 67 k1 = nI e67) (me67 : e67 < 2 ^ 20) (b1 : e67 ≠ 2) (c2 : Ans (d + 8) 304 [.ref 61] S1 (some (.int (nI 1))) S2) (c3 : Ans (d + 8) 332 [.ref 61] S2 (some (.int (nI 0))) S3) : Bod (d + 8) 301 0 [(0, .ref 61)] [] S (some (.int 0)) (S3) := by
  refine Bod.go dc_301_0 rfl ?_
  refine Bod.get dc_301_1 fr_301_138 (mk_61 _) rfl ?_
  refine Bod.go dc_301_4 rfl ?_
  refine Bod.get dc_301_5 fr_301_190 (mk_61 _) rfl ?_
  refine Bod.eqI (nI k) (by first | assumption | rfl | exact congrArg nI (by omega) | (simp (disch := omega) only [rI, rIe, rA, rIA, rLA, rJA, rVI, rQI, rVA, rQA, upd_at,  rAI, rLI, rJI, nI_add, pk_sub, kc_0, kc_1, kc_2, kc_3, kc_4, kc_5, reduceIte, Nat.reduceEqDiff, Nat.add_zero, rI_hold, rI_hold, rL_hold, hk]; done)) ?_
  refine Bod.ialdN k rfl (by omega) (by omega) dc_301_8 (mk_69 _) ?_
  refine Bod.eqI (nI e69) (by first | assumption | rfl | exact congrArg nI (by omega) | (simp (disch := omega) only [rI, rIe, rA, rIA, rLA, rJA, rVI, rQI, rVA, rQA, upd_at,  rAI, rLI, rJI, nI_add, pk_sub, kc_0, kc_1, kc_2, kc_3, kc_4, kc_5, reduceIte, Nat.reduceEqDiff, Nat.add_zero, rI_hold, rI_hold, rL_hold, hk, he69]; done)) ?_
  refine Bod.istn dc_301_9 (by rw [ml_301]; exact Nat.le_of_ble_eq_true rfl) ?_
  refine Bod.go dc_301_10 rfl ?_
  refine Bod.get dc_301_11 fr_301_141 (mk_61 _) rfl ?_
  refine Bod.go dc_301_14 rfl ?_
  refine Bod.get dc_301_15 fr_301_190 (mk_61 _) rfl ?_
  refine Bod.eqI (nI k) (by first | assumption | rfl | exact congrArg nI (by omega) | (simp (disch := omega) only [rI, rIe, rA, rIA, rLA, rJA, rVI, rQI, rVA, rQA, upd_at,  rAI, rLI, rJI, nI_add, pk_sub, kc_0, kc_1, kc_2, kc_3, kc_4, kc_5, reduceIte, Nat.reduceEqDiff, Nat.add_zero, rI_hold, rI_hold, rL_hold, hk, he69]; done)) ?_
  refine Bod.ialdN k rfl (by omega) (by omega) dc_301_18 (mk_70 _) ?_
  refine Bod.eqI (nI e70) (by first | assumption | rfl | exact congrArg nI (by omega) | (simp (disch := omega) only [rI, rIe, rA, rIA, rLA, rJA, rVI, rQI, rVA, rQA, upd_at,  rAI, rLI, rJI, nI_add, pk_sub, kc_0, kc_1, kc_2, kc_3, kc_4, kc_5, reduceIte, Nat.reduceEqDiff, Nat.add_zero, rI_hold, rI_hold, rL_hold, hk, he69, he70]; done)) ?_
  refine Bod.istn dc_301_19 (by rw [ml_301]; exact Nat.le_of_ble_eq_true rfl) ?_
  refine Bod.go dc_301_20 rfl ?_
  refine Bod.ic 0 (by decide) dc_301_21 ?_
  refine Bod.go dc_301_22 rfl ?_
  refine Bod.virt (r := []) dc_301_23 kr_301_216 ⟨Or.inl rfl, ow_302, cl_14⟩ (by rw [np_302]; rfl) (by rw [np_302]; rfl) (ob_of (mk_61 _)) (Nat.le_of_ble_eq_true rfl) (c1  ) ?_
  show Bod _ _ _ _ [] _ _ _
  refine Bod.go dc_301_26 rfl ?_
  refine Bod.get dc_301_27 fr_301_129 (mk_61 _) rfl ?_
  refine Bod.go dc_301_30 rfl ?_
  refine Bod.get dc_301_31 fr_301_190 (mk_61 _) rfl ?_
  refine Bod.eqI (nI k1) (by first | (simp (disch := omega) only [rI, rIe, rA, rIA, rLA, rJA, rVI, rQI, rVA, rQA, upd_at,  rAI, rLI, rJI, nI_add, pk_sub, kc_0, kc_1, kc_2, kc_3, kc_4, kc_5, reduceIte, Nat.reduceEqDiff, Nat.add_zero, rI_hold, rI_hold, rL_hold, hk, he69, he70, hk1]; done) | (simp (disch := omega) only [rI, rIe, rA, rIA, rLA, rJA, rVI, rQI, rVA, rQA, upd_at,  rAI, rLI, rJI, nI_add, pk_sub, kc_0, kc_1, kc_2, kc_3, kc_4, kc_5, reduceIte, Nat.reduceEqDiff, Nat.add_zero, rI_hold, rI_hold, rL_hold, hk, he69, he70, hk1]; exact congrArg nI (by omega))) ?_
  refine Bod.ialdN k1 rfl (by omega) (by omega) dc_301_34 (mk_67 _) ?_
  refine Bod.eqI (nI e67) (by first | (simp (disch := omega) only [rI, rIe, rA, rIA, rLA, rJA, rVI, rQI, rVA, rQA, upd_at,  rAI, rLI, rJI, nI_add, pk_sub, kc_0, kc_1, kc_2, kc_3, kc_4, kc_5, reduceIte, Nat.reduceEqDiff, Nat.add_zero, rI_hold, rI_hold, rL_hold, hk, he69, he70, hk1, he67]; done) | (simp (disch := omega) only [rI, rIe, rA, rIA, rLA, rJA, rVI, rQI, rVA, rQA, upd_at,  rAI, rLI, rJI, nI_add, pk_sub, kc_0, kc_1, kc_2, kc_3, kc_4, kc_5, reduceIte, Nat.reduceEqDiff, Nat.add_zero, rI_hold, rI_hold, rL_hold, hk, he69, he70, hk1, he67]; exact congrArg nI (by omega))) ?_
  refine Bod.ic 2 (by decide) dc_301_35 ?_
  refine Bod.icF dc_301_36 rfl (k2_eq_F (k_ne e67 2 rfl rfl (by omega) (by omega) (by omega))) ?_
  refine Bod.go dc_301_39 rfl ?_
  refine Bod.virt (r := []) dc_301_40 kr_301_279 ⟨Or.inl rfl, ow_304, cl_14⟩ (by rw [np_304]; rfl) (by rw [np_304]; rfl) (ob_of (mk_61 _)) (Nat.le_of_ble_eq_true rfl) (c2  ) ?_
  show Bod _ _ _ _ [_] _ _ _
  refine Bod.ifF dc_301_43 rfl (k1_eq_F (k_ne 1 0 rfl rfl (by omega) (by omega) (by omega))) ?_
  refine Bod.go dc_301_46 rfl ?_
  refine Bod.virt (r := []) dc_301_47 kr_301_273 ⟨Or.inl rfl, ow_332, cl_14⟩ (by rw [np_332]; rfl) (by rw [np_332]; rfl) (ob_of (mk_61 _)) (Nat.le_of_ble_eq_true rfl) (c3  ) ?_
  show Bod _ _ _ _ [_] _ _ _
  refine Bod.ifT dc_301_50 rfl (k1_eq_T (k_eq 0 0 rfl rfl (by omega))) ?_
  refine Bod.ic 0 (by decide) dc_301_57 ?_
  exact Bod.retZ dc_301_58 rt_301 (Or.inl rfl)
theorem zSt_18 {d : Nat} {S : cS} {k : Nat} {e69 : Nat} {e70 : Nat} {S1 : cS} {k1 : Nat} {e67 : Nat} {S2 : cS} (hk : sI S 6115 = nI k) (mk : k < 6001) (he69 : sA S 69 k = nI e69) (me69 : e69 < 2 ^ 20) (he70 : sA S 70 k = nI e70) (me70 : e70 < 2 ^ 20) (c1 : Ans (d + 8) 302 [.ref 61, .int (nI 0), .int (nI e69)] S none S1) (hk1 : sI S1 6115 = nI k1) (mk1 : k1 < 6001) (he67 : sA S1 67 k1 = nI e67) (me67 : e67 < 2 ^ 20) (b1 : e67 ≠ 2) (c2 : Ans (d + 8) 304 [.ref 61] S1 (some (.int (nI 0))) S2) : Bod (d + 8) 301 0 [(0, .ref 61)] [] S (some (.int 0)) (S2) := by
  refine Bod.go dc_301_0 rfl ?_
  refine Bod.get dc_301_1 fr_301_138 (mk_61 _) rfl ?_
  refine Bod.go dc_301_4 rfl ?_
  refine Bod.get dc_301_5 fr_301_190 (mk_61 _) rfl ?_
  refine Bod.eqI (nI k) (by first | assumption | rfl | exact congrArg nI (by omega) | (simp (disch := omega) only [rI, rIe, rA, rIA, rLA, rJA, rVI, rQI, rVA, rQA, upd_at,  rAI, rLI, rJI, nI_add, pk_sub, kc_0, kc_1, kc_2, kc_3, kc_4, kc_5, reduceIte, Nat.reduceEqDiff, Nat.add_zero, rI_hold, rI_hold, rL_hold, hk]; done)) ?_
  refine Bod.ialdN k rfl (by omega) (by omega) dc_301_8 (mk_69 _) ?_
  refine Bod.eqI (nI e69) (by first | assumption | rfl | exact congrArg nI (by omega) | (simp (disch := omega) only [rI, rIe, rA, rIA, rLA, rJA, rVI, rQI, rVA, rQA, upd_at,  rAI, rLI, rJI, nI_add, pk_sub, kc_0, kc_1, kc_2, kc_3, kc_4, kc_5, reduceIte, Nat.reduceEqDiff, Nat.add_zero, rI_hold, rI_hold, rL_hold, hk, he69]; done)) ?_
  refine Bod.istn dc_301_9 (by rw [ml_301]; exact Nat.le_of_ble_eq_true rfl) ?_
  refine Bod.go dc_301_10 rfl ?_
  refine Bod.get dc_301_11 fr_301_141 (mk_61 _) rfl ?_
  refine Bod.go dc_301_14 rfl ?_
  refine Bod.get dc_301_15 fr_301_190 (mk_61 _) rfl ?_
  refine Bod.eqI (nI k) (by first | assumption | rfl | exact congrArg nI (by omega) | (simp (disch := omega) only [rI, rIe, rA, rIA, rLA, rJA, rVI, rQI, rVA, rQA, upd_at,  rAI, rLI, rJI, nI_add, pk_sub, kc_0, kc_1, kc_2, kc_3, kc_4, kc_5, reduceIte, Nat.reduceEqDiff, Nat.add_zero, rI_hold, rI_hold, rL_hold, hk, he69]; done)) ?_
  refine Bod.ialdN k rfl (by omega) (by omega) dc_301_18 (mk_70 _) ?_
  refine Bod.eqI (nI e70) (by first | assumption | rfl | exact congrArg nI (by omega) | (simp (disch := omega) only [rI, rIe, rA, rIA, rLA, rJA, rVI, rQI, rVA, rQA, upd_at,  rAI, rLI, rJI, nI_add, pk_sub, kc_0, kc_1, kc_2, kc_3, kc_4, kc_5, reduceIte, Nat.reduceEqDiff, Nat.add_zero, rI_hold, rI_hold, rL_hold, hk, he69, he70]; done)) ?_
  refine Bod.istn dc_301_19 (by rw [ml_301]; exact Nat.le_of_ble_eq_true rfl) ?_
  refine Bod.go dc_301_20 rfl ?_
  refine Bod.ic 0 (by decide) dc_301_21 ?_
  refine Bod.go dc_301_22 rfl ?_
  refine Bod.virt (r := []) dc_301_23 kr_301_216 ⟨Or.inl rfl, ow_302, cl_14⟩ (by rw [np_302]; rfl) (by rw [np_302]; rfl) (ob_of (mk_61 _)) (Nat.le_of_ble_eq_true rfl) (c1  ) ?_
  show Bod _ _ _ _ [] _ _ _
  refine Bod.go dc_301_26 rfl ?_
  refine Bod.get dc_301_27 fr_301_129 (mk_61 _) rfl ?_
  refine Bod.go dc_301_30 rfl ?_
  refine Bod.get dc_301_31 fr_301_190 (mk_61 _) rfl ?_
  refine Bod.eqI (nI k1) (by first | (simp (disch := omega) only [rI, rIe, rA, rIA, rLA, rJA, rVI, rQI, rVA, rQA, upd_at,  rAI, rLI, rJI, nI_add, pk_sub, kc_0, kc_1, kc_2, kc_3, kc_4, kc_5, reduceIte, Nat.reduceEqDiff, Nat.add_zero, rI_hold, rI_hold, rL_hold, hk, he69, he70, hk1]; done) | (simp (disch := omega) only [rI, rIe, rA, rIA, rLA, rJA, rVI, rQI, rVA, rQA, upd_at,  rAI, rLI, rJI, nI_add, pk_sub, kc_0, kc_1, kc_2, kc_3, kc_4, kc_5, reduceIte, Nat.reduceEqDiff, Nat.add_zero, rI_hold, rI_hold, rL_hold, hk, he69, he70, hk1]; exact congrArg nI (by omega))) ?_
  refine Bod.ialdN k1 rfl (by omega) (by omega) dc_301_34 (mk_67 _) ?_
  refine Bod.eqI (nI e67) (by first | (simp (disch := omega) only [rI, rIe, rA, rIA, rLA, rJA, rVI, rQI, rVA, rQA, upd_at,  rAI, rLI, rJI, nI_add, pk_sub, kc_0, kc_1, kc_2, kc_3, kc_4, kc_5, reduceIte, Nat.reduceEqDiff, Nat.add_zero, rI_hold, rI_hold, rL_hold, hk, he69, he70, hk1, he67]; done) | (simp (disch := omega) only [rI, rIe, rA, rIA, rLA, rJA, rVI, rQI, rVA, rQA, upd_at,  rAI, rLI, rJI, nI_add, pk_sub, kc_0, kc_1, kc_2, kc_3, kc_4, kc_5, reduceIte, Nat.reduceEqDiff, Nat.add_zero, rI_hold, rI_hold, rL_hold, hk, he69, he70, hk1, he67]; exact congrArg nI (by omega))) ?_
  refine Bod.ic 2 (by decide) dc_301_35 ?_
  refine Bod.icF dc_301_36 rfl (k2_eq_F (k_ne e67 2 rfl rfl (by omega) (by omega) (by omega))) ?_
  refine Bod.go dc_301_39 rfl ?_
  refine Bod.virt (r := []) dc_301_40 kr_301_279 ⟨Or.inl rfl, ow_304, cl_14⟩ (by rw [np_304]; rfl) (by rw [np_304]; rfl) (ob_of (mk_61 _)) (Nat.le_of_ble_eq_true rfl) (c2  ) ?_
  show Bod _ _ _ _ [_] _ _ _
  refine Bod.ifT dc_301_43 rfl (k1_eq_T (k_eq 0 0 rfl rfl (by omega))) ?_
  refine Bod.ic 0 (by decide) dc_301_57 ?_
  exact Bod.retZ dc_301_58 rt_301 (Or.inl rfl)
theorem xsw_304_29 : ∀ b, b < 64 → (b = 8 ∨ b = 9 ∨ b = 10 ∨ b = 11 ∨ b = 12 ∨ b = 13 ∨ b = 16 ∨ b = 19 ∨ b = 21 ∨ b = 22 ∨ b = 23 ∨ sm_br (.tableswitch (377) 8 23 #[96, 186, 186, 79, 91, 367, 377, 377, 158, 377, 377, 372, 377, 372, 372, 372]) 79 29 [.int (nI b)] = some (406, [])) := by decide +kernel
theorem zSi_1 {d : Nat} {S : cS} {k : Nat} {e67 : Nat} {e68 : Nat} {F : Nat} {e671 : Nat} {S1 : cS} {S2 : cS} (hk : sI S 6115 = nI k) (mk : k < 6001) (he67 : sA S 67 k = nI e67) (me67 : e67 < 2 ^ 20) (b1 : e67 = 2) (he68 : sA S 68 k = nI e68) (me68 : e68 < 2 ^ 20) (sw8 : e68 = 8) (hF : sI S 6122 = nI F) (mF : F < 15) (b2 : F ≠ 0) (he671 : sA (wI 6115 (nI (k + 1)) S) 67 (k + 1) = nI e671) (me671 : e671 < 2 ^ 20) (b3 : e671 ≠ 6) (c1 : Ans (d + 8) 306 [.ref 61, .int (nI 0)] (wI 6115 (nI (k + 1)) S) (some (.int (nI 1))) S1) (c2 : Ans (d + 8) 322 [.ref 61, .int (nI 29)] S1 none S2) : Bod (d + 8) 304 0 [(0, .ref 61)] [] S (some (.int 1)) (S2) := by
  refine Bod.go dc_304_0 rfl ?_
  refine Bod.get dc_304_1 fr_304_129 (mk_61 _) rfl ?_
  refine Bod.go dc_304_4 rfl ?_
  refine Bod.get dc_304_5 fr_304_190 (mk_61 _) rfl ?_
  refine Bod.eqI (nI k) (by first | assumption | rfl | exact congrArg nI (by omega) | (simp (disch := omega) only [rI, rIe, rA, rIA, rLA, rJA, rVI, rQI, rVA, rQA, upd_at,  rAI, rLI, rJI, nI_add, pk_sub, kc_0, kc_1, kc_2, kc_3, kc_4, kc_5, reduceIte, Nat.reduceEqDiff, Nat.add_zero, rI_hold, rI_hold, rL_hold, hk]; done)) ?_
  refine Bod.ialdN k rfl (by omega) (by omega) dc_304_8 (mk_67 _) ?_
  refine Bod.eqI (nI e67) (by first | assumption | rfl | exact congrArg nI (by omega) | (simp (disch := omega) only [rI, rIe, rA, rIA, rLA, rJA, rVI, rQI, rVA, rQA, upd_at,  rAI, rLI, rJI, nI_add, pk_sub, kc_0, kc_1, kc_2, kc_3, kc_4, kc_5, reduceIte, Nat.reduceEqDiff, Nat.add_zero, rI_hold, rI_hold, rL_hold, hk, he67]; done)) ?_
  refine Bod.ic 2 (by decide) dc_304_9 ?_
  refine Bod.icT dc_304_10 rfl (k2_eq_T (k_eq e67 2 rfl rfl (by omega))) ?_
  refine Bod.go dc_304_18 rfl ?_
  refine Bod.get dc_304_19 fr_304_135 (mk_61 _) rfl ?_
  refine Bod.go dc_304_22 rfl ?_
  refine Bod.get dc_304_23 fr_304_190 (mk_61 _) rfl ?_
  refine Bod.eqI (nI k) (by first | assumption | rfl | exact congrArg nI (by omega) | (simp (disch := omega) only [rI, rIe, rA, rIA, rLA, rJA, rVI, rQI, rVA, rQA, upd_at,  rAI, rLI, rJI, nI_add, pk_sub, kc_0, kc_1, kc_2, kc_3, kc_4, kc_5, reduceIte, Nat.reduceEqDiff, Nat.add_zero, rI_hold, rI_hold, rL_hold, hk, he67]; done)) ?_
  refine Bod.ialdN k rfl (by omega) (by omega) dc_304_26 (mk_68 _) ?_
  refine Bod.eqI (nI e68) (by first | assumption | rfl | exact congrArg nI (by omega) | (simp (disch := omega) only [rI, rIe, rA, rIA, rLA, rJA, rVI, rQI, rVA, rQA, upd_at,  rAI, rLI, rJI, nI_add, pk_sub, kc_0, kc_1, kc_2, kc_3, kc_4, kc_5, reduceIte, Nat.reduceEqDiff, Nat.add_zero, rI_hold, rI_hold, rL_hold, hk, he67, he68]; done)) ?_
  refine Bod.istn dc_304_27 (by rw [ml_304]; exact Nat.le_of_ble_eq_true rfl) ?_
  refine Bod.go dc_304_28 rfl ?_
  refine Bod.sw (t := 125) dc_304_29 rfl rfl (by rw [sw8]; decide +kernel) ?_
  refine Bod.go dc_304_125 rfl ?_
  refine Bod.get dc_304_126 fr_304_236 (mk_61 _) rfl ?_
  refine Bod.eqI (nI F) (by first | assumption | rfl | exact congrArg nI (by omega) | (simp (disch := omega) only [rI, rIe, rA, rIA, rLA, rJA, rVI, rQI, rVA, rQA, upd_at,  rAI, rLI, rJI, nI_add, pk_sub, kc_0, kc_1, kc_2, kc_3, kc_4, kc_5, reduceIte, Nat.reduceEqDiff, Nat.add_zero, rI_hold, rI_hold, rL_hold, hk, he67, he68, hF]; done)) ?_
  refine Bod.ifT dc_304_129 rfl (k1_ne_T (k_ne F 0 rfl rfl (by omega) (by omega) (by omega))) ?_
  refine Bod.go dc_304_137 rfl ?_
  refine Bod.go dc_304_138 rfl ?_
  refine Bod.get dc_304_139 fr_304_190 (mk_61 _) rfl ?_
  refine Bod.eqI (nI k) (by first | assumption | rfl | exact congrArg nI (by omega) | (simp (disch := omega) only [rI, rIe, rA, rIA, rLA, rJA, rVI, rQI, rVA, rQA, upd_at,  rAI, rLI, rJI, nI_add, pk_sub, kc_0, kc_1, kc_2, kc_3, kc_4, kc_5, reduceIte, Nat.reduceEqDiff, Nat.add_zero, rI_hold, rI_hold, rL_hold, hk, he67, he68, hF]; done)) ?_
  refine Bod.ic 1 (by decide) dc_304_142 ?_
  refine Bod.addN (k + 1) (by omega) dc_304_143 ?_
  refine Bod.put dc_304_144 fr_304_190 (mk_61 _) (Nat.le_of_ble_eq_true rfl) pf_14_15 (st_6115 _ _) (mu_I _ _ _) ?_
  refine Bod.go dc_304_147 rfl ?_
  refine Bod.get dc_304_148 fr_304_129 (mk_61 _) rfl ?_
  refine Bod.go dc_304_151 rfl ?_
  refine Bod.get dc_304_152 fr_304_190 (mk_61 _) rfl ?_
  refine Bod.eqI (nI (k + 1)) (by first | (simp (disch := omega) only [rI, rIe, rA, rIA, rLA, rJA, rVI, rQI, rVA, rQA, upd_at,  rAI, rLI, rJI, nI_add, pk_sub, kc_0, kc_1, kc_2, kc_3, kc_4, kc_5, reduceIte, Nat.reduceEqDiff, Nat.add_zero, rI_hold, rI_hold, rL_hold, hk, he67, he68, hF]; done) | (simp (disch := omega) only [rI, rIe, rA, rIA, rLA, rJA, rVI, rQI, rVA, rQA, upd_at,  rAI, rLI, rJI, nI_add, pk_sub, kc_0, kc_1, kc_2, kc_3, kc_4, kc_5, reduceIte, Nat.reduceEqDiff, Nat.add_zero, rI_hold, rI_hold, rL_hold, hk, he67, he68, hF]; exact congrArg nI (by omega))) ?_
  refine Bod.ialdN (k + 1) rfl (by omega) (by omega) dc_304_155 (mk_67 _) ?_
  refine Bod.eqI (nI e671) (by first | (simp (disch := omega) only [rI, rIe, rA, rIA, rLA, rJA, rVI, rQI, rVA, rQA, upd_at,  rAI, rLI, rJI, nI_add, pk_sub, kc_0, kc_1, kc_2, kc_3, kc_4, kc_5, reduceIte, Nat.reduceEqDiff, Nat.add_zero, rI_hold, rI_hold, rL_hold, hk, he67, he68, hF, he671]; done) | (simp (disch := omega) only [rI, rIe, rA, rIA, rLA, rJA, rVI, rQI, rVA, rQA, upd_at,  rAI, rLI, rJI, nI_add, pk_sub, kc_0, kc_1, kc_2, kc_3, kc_4, kc_5, reduceIte, Nat.reduceEqDiff, Nat.add_zero, rI_hold, rI_hold, rL_hold, hk, he67, he68, hF, he671]; exact congrArg nI (by omega))) ?_
  refine Bod.bip 6 (by decide) dc_304_156 ?_
  refine Bod.icT dc_304_158 rfl (k2_ne_T (k_ne e671 6 rfl rfl (by omega) (by omega) (by omega))) ?_
  refine Bod.go dc_304_169 rfl ?_
  refine Bod.ic 0 (by decide) dc_304_170 ?_
  refine Bod.virt (r := []) dc_304_171 kr_304_302 ⟨Or.inl rfl, ow_306, cl_14⟩ (by rw [np_306]; rfl) (by rw [np_306]; rfl) (ob_of (mk_61 _)) (Nat.le_of_ble_eq_true rfl) (c1  ) ?_
  show Bod _ _ _ _ [_] _ _ _
  refine Bod.ifT dc_304_174 rfl (k1_ne_T (k_ne 1 0 rfl rfl (by omega) (by omega) (by omega))) ?_
  refine Bod.go dc_304_179 rfl ?_
  refine Bod.bip 29 (by decide) dc_304_180 ?_
  refine Bod.virt (r := []) dc_304_182 kr_304_269 ⟨Or.inl rfl, ow_322, cl_14⟩ (by rw [np_322]; rfl) (by rw [np_322]; rfl) (ob_of (mk_61 _)) (Nat.le_of_ble_eq_true rfl) (c2  ) ?_
  show Bod _ _ _ _ [] _ _ _
  refine Bod.ic 1 (by decide) dc_304_185 ?_
  exact Bod.retZ dc_304_186 rt_304 (Or.inr rfl)
theorem zSi_2 {d : Nat} {S : cS} {k : Nat} {e67 : Nat} {e68 : Nat} {F : Nat} {e671 : Nat} {S1 : cS} (hk : sI S 6115 = nI k) (mk : k < 6001) (he67 : sA S 67 k = nI e67) (me67 : e67 < 2 ^ 20) (b1 : e67 = 2) (he68 : sA S 68 k = nI e68) (me68 : e68 < 2 ^ 20) (sw8 : e68 = 8) (hF : sI S 6122 = nI F) (mF : F < 15) (b2 : F ≠ 0) (he671 : sA (wI 6115 (nI (k + 1)) S) 67 (k + 1) = nI e671) (me671 : e671 < 2 ^ 20) (b3 : e671 ≠ 6) (c1 : Ans (d + 8) 306 [.ref 61, .int (nI 0)] (wI 6115 (nI (k + 1)) S) (some (.int (nI 0))) S1) : Bod (d + 8) 304 0 [(0, .ref 61)] [] S (some (.int 0)) (S1) := by
  refine Bod.go dc_304_0 rfl ?_
  refine Bod.get dc_304_1 fr_304_129 (mk_61 _) rfl ?_
  refine Bod.go dc_304_4 rfl ?_
  refine Bod.get dc_304_5 fr_304_190 (mk_61 _) rfl ?_
  refine Bod.eqI (nI k) (by first | assumption | rfl | exact congrArg nI (by omega) | (simp (disch := omega) only [rI, rIe, rA, rIA, rLA, rJA, rVI, rQI, rVA, rQA, upd_at,  rAI, rLI, rJI, nI_add, pk_sub, kc_0, kc_1, kc_2, kc_3, kc_4, kc_5, reduceIte, Nat.reduceEqDiff, Nat.add_zero, rI_hold, rI_hold, rL_hold, hk]; done)) ?_
  refine Bod.ialdN k rfl (by omega) (by omega) dc_304_8 (mk_67 _) ?_
  refine Bod.eqI (nI e67) (by first | assumption | rfl | exact congrArg nI (by omega) | (simp (disch := omega) only [rI, rIe, rA, rIA, rLA, rJA, rVI, rQI, rVA, rQA, upd_at,  rAI, rLI, rJI, nI_add, pk_sub, kc_0, kc_1, kc_2, kc_3, kc_4, kc_5, reduceIte, Nat.reduceEqDiff, Nat.add_zero, rI_hold, rI_hold, rL_hold, hk, he67]; done)) ?_
  refine Bod.ic 2 (by decide) dc_304_9 ?_
  refine Bod.icT dc_304_10 rfl (k2_eq_T (k_eq e67 2 rfl rfl (by omega))) ?_
  refine Bod.go dc_304_18 rfl ?_
  refine Bod.get dc_304_19 fr_304_135 (mk_61 _) rfl ?_
  refine Bod.go dc_304_22 rfl ?_
  refine Bod.get dc_304_23 fr_304_190 (mk_61 _) rfl ?_
  refine Bod.eqI (nI k) (by first | assumption | rfl | exact congrArg nI (by omega) | (simp (disch := omega) only [rI, rIe, rA, rIA, rLA, rJA, rVI, rQI, rVA, rQA, upd_at,  rAI, rLI, rJI, nI_add, pk_sub, kc_0, kc_1, kc_2, kc_3, kc_4, kc_5, reduceIte, Nat.reduceEqDiff, Nat.add_zero, rI_hold, rI_hold, rL_hold, hk, he67]; done)) ?_
  refine Bod.ialdN k rfl (by omega) (by omega) dc_304_26 (mk_68 _) ?_
  refine Bod.eqI (nI e68) (by first | assumption | rfl | exact congrArg nI (by omega) | (simp (disch := omega) only [rI, rIe, rA, rIA, rLA, rJA, rVI, rQI, rVA, rQA, upd_at,  rAI, rLI, rJI, nI_add, pk_sub, kc_0, kc_1, kc_2, kc_3, kc_4, kc_5, reduceIte, Nat.reduceEqDiff, Nat.add_zero, rI_hold, rI_hold, rL_hold, hk, he67, he68]; done)) ?_
  refine Bod.istn dc_304_27 (by rw [ml_304]; exact Nat.le_of_ble_eq_true rfl) ?_
  refine Bod.go dc_304_28 rfl ?_
  refine Bod.sw (t := 125) dc_304_29 rfl rfl (by rw [sw8]; decide +kernel) ?_
  refine Bod.go dc_304_125 rfl ?_
  refine Bod.get dc_304_126 fr_304_236 (mk_61 _) rfl ?_
  refine Bod.eqI (nI F) (by first | assumption | rfl | exact congrArg nI (by omega) | (simp (disch := omega) only [rI, rIe, rA, rIA, rLA, rJA, rVI, rQI, rVA, rQA, upd_at,  rAI, rLI, rJI, nI_add, pk_sub, kc_0, kc_1, kc_2, kc_3, kc_4, kc_5, reduceIte, Nat.reduceEqDiff, Nat.add_zero, rI_hold, rI_hold, rL_hold, hk, he67, he68, hF]; done)) ?_
  refine Bod.ifT dc_304_129 rfl (k1_ne_T (k_ne F 0 rfl rfl (by omega) (by omega) (by omega))) ?_
  refine Bod.go dc_304_137 rfl ?_
  refine Bod.go dc_304_138 rfl ?_
  refine Bod.get dc_304_139 fr_304_190 (mk_61 _) rfl ?_
  refine Bod.eqI (nI k) (by first | assumption | rfl | exact congrArg nI (by omega) | (simp (disch := omega) only [rI, rIe, rA, rIA, rLA, rJA, rVI, rQI, rVA, rQA, upd_at,  rAI, rLI, rJI, nI_add, pk_sub, kc_0, kc_1, kc_2, kc_3, kc_4, kc_5, reduceIte, Nat.reduceEqDiff, Nat.add_zero, rI_hold, rI_hold, rL_hold, hk, he67, he68, hF]; done)) ?_
  refine Bod.ic 1 (by decide) dc_304_142 ?_
  refine Bod.addN (k + 1) (by omega) dc_304_143 ?_
  refine Bod.put dc_304_144 fr_304_190 (mk_61 _) (Nat.le_of_ble_eq_true rfl) pf_14_15 (st_6115 _ _) (mu_I _ _ _) ?_
  refine Bod.go dc_304_147 rfl ?_
  refine Bod.get dc_304_148 fr_304_129 (mk_61 _) rfl ?_
  refine Bod.go dc_304_151 rfl ?_
  refine Bod.get dc_304_152 fr_304_190 (mk_61 _) rfl ?_
  refine Bod.eqI (nI (k + 1)) (by first | (simp (disch := omega) only [rI, rIe, rA, rIA, rLA, rJA, rVI, rQI, rVA, rQA, upd_at,  rAI, rLI, rJI, nI_add, pk_sub, kc_0, kc_1, kc_2, kc_3, kc_4, kc_5, reduceIte, Nat.reduceEqDiff, Nat.add_zero, rI_hold, rI_hold, rL_hold, hk, he67, he68, hF]; done) | (simp (disch := omega) only [rI, rIe, rA, rIA, rLA, rJA, rVI, rQI, rVA, rQA, upd_at,  rAI, rLI, rJI, nI_add, pk_sub, kc_0, kc_1, kc_2, kc_3, kc_4, kc_5, reduceIte, Nat.reduceEqDiff, Nat.add_zero, rI_hold, rI_hold, rL_hold, hk, he67, he68, hF]; exact congrArg nI (by omega))) ?_
  refine Bod.ialdN (k + 1) rfl (by omega) (by omega) dc_304_155 (mk_67 _) ?_
  refine Bod.eqI (nI e671) (by first | (simp (disch := omega) only [rI, rIe, rA, rIA, rLA, rJA, rVI, rQI, rVA, rQA, upd_at,  rAI, rLI, rJI, nI_add, pk_sub, kc_0, kc_1, kc_2, kc_3, kc_4, kc_5, reduceIte, Nat.reduceEqDiff, Nat.add_zero, rI_hold, rI_hold, rL_hold, hk, he67, he68, hF, he671]; done) | (simp (disch := omega) only [rI, rIe, rA, rIA, rLA, rJA, rVI, rQI, rVA, rQA, upd_at,  rAI, rLI, rJI, nI_add, pk_sub, kc_0, kc_1, kc_2, kc_3, kc_4, kc_5, reduceIte, Nat.reduceEqDiff, Nat.add_zero, rI_hold, rI_hold, rL_hold, hk, he67, he68, hF, he671]; exact congrArg nI (by omega))) ?_
  refine Bod.bip 6 (by decide) dc_304_156 ?_
  refine Bod.icT dc_304_158 rfl (k2_ne_T (k_ne e671 6 rfl rfl (by omega) (by omega) (by omega))) ?_
  refine Bod.go dc_304_169 rfl ?_
  refine Bod.ic 0 (by decide) dc_304_170 ?_
  refine Bod.virt (r := []) dc_304_171 kr_304_302 ⟨Or.inl rfl, ow_306, cl_14⟩ (by rw [np_306]; rfl) (by rw [np_306]; rfl) (ob_of (mk_61 _)) (Nat.le_of_ble_eq_true rfl) (c1  ) ?_
  show Bod _ _ _ _ [_] _ _ _
  refine Bod.ifF dc_304_174 rfl (k1_ne_F (k_eq 0 0 rfl rfl (by omega))) ?_
  refine Bod.ic 0 (by decide) dc_304_177 ?_
  exact Bod.retZ dc_304_178 rt_304 (Or.inl rfl)
theorem zSi_3 {d : Nat} {S : cS} {k : Nat} {e67 : Nat} {e68 : Nat} {F : Nat} {e671 : Nat} {S1 : cS} {S2 : cS} (hk : sI S 6115 = nI k) (mk : k < 6001) (he67 : sA S 67 k = nI e67) (me67 : e67 < 2 ^ 20) (b1 : e67 = 2) (he68 : sA S 68 k = nI e68) (me68 : e68 < 2 ^ 20) (sw8 : e68 = 8) (hF : sI S 6122 = nI F) (mF : F < 15) (b2 : F ≠ 0) (he671 : sA (wI 6115 (nI (k + 1)) S) 67 (k + 1) = nI e671) (me671 : e671 < 2 ^ 20) (b3 : e671 = 6) (c1 : Ans (d + 8) 322 [.ref 61, .int (nI 1)] (wI 6115 (nI (k + 1)) S) none S1) (c2 : Ans (d + 8) 322 [.ref 61, .int (nI 29)] S1 none S2) : Bod (d + 8) 304 0 [(0, .ref 61)] [] S (some (.int 1)) (S2) := by
  refine Bod.go dc_304_0 rfl ?_
  refine Bod.get dc_304_1 fr_304_129 (mk_61 _) rfl ?_
  refine Bod.go dc_304_4 rfl ?_
  refine Bod.get dc_304_5 fr_304_190 (mk_61 _) rfl ?_
  refine Bod.eqI (nI k) (by first | assumption | rfl | exact congrArg nI (by omega) | (simp (disch := omega) only [rI, rIe, rA, rIA, rLA, rJA, rVI, rQI, rVA, rQA, upd_at,  rAI, rLI, rJI, nI_add, pk_sub, kc_0, kc_1, kc_2, kc_3, kc_4, kc_5, reduceIte, Nat.reduceEqDiff, Nat.add_zero, rI_hold, rI_hold, rL_hold, hk]; done)) ?_
  refine Bod.ialdN k rfl (by omega) (by omega) dc_304_8 (mk_67 _) ?_
  refine Bod.eqI (nI e67) (by first | assumption | rfl | exact congrArg nI (by omega) | (simp (disch := omega) only [rI, rIe, rA, rIA, rLA, rJA, rVI, rQI, rVA, rQA, upd_at,  rAI, rLI, rJI, nI_add, pk_sub, kc_0, kc_1, kc_2, kc_3, kc_4, kc_5, reduceIte, Nat.reduceEqDiff, Nat.add_zero, rI_hold, rI_hold, rL_hold, hk, he67]; done)) ?_
  refine Bod.ic 2 (by decide) dc_304_9 ?_
  refine Bod.icT dc_304_10 rfl (k2_eq_T (k_eq e67 2 rfl rfl (by omega))) ?_
  refine Bod.go dc_304_18 rfl ?_
  refine Bod.get dc_304_19 fr_304_135 (mk_61 _) rfl ?_
  refine Bod.go dc_304_22 rfl ?_
  refine Bod.get dc_304_23 fr_304_190 (mk_61 _) rfl ?_
  refine Bod.eqI (nI k) (by first | assumption | rfl | exact congrArg nI (by omega) | (simp (disch := omega) only [rI, rIe, rA, rIA, rLA, rJA, rVI, rQI, rVA, rQA, upd_at,  rAI, rLI, rJI, nI_add, pk_sub, kc_0, kc_1, kc_2, kc_3, kc_4, kc_5, reduceIte, Nat.reduceEqDiff, Nat.add_zero, rI_hold, rI_hold, rL_hold, hk, he67]; done)) ?_
  refine Bod.ialdN k rfl (by omega) (by omega) dc_304_26 (mk_68 _) ?_
  refine Bod.eqI (nI e68) (by first | assumption | rfl | exact congrArg nI (by omega) | (simp (disch := omega) only [rI, rIe, rA, rIA, rLA, rJA, rVI, rQI, rVA, rQA, upd_at,  rAI, rLI, rJI, nI_add, pk_sub, kc_0, kc_1, kc_2, kc_3, kc_4, kc_5, reduceIte, Nat.reduceEqDiff, Nat.add_zero, rI_hold, rI_hold, rL_hold, hk, he67, he68]; done)) ?_
  refine Bod.istn dc_304_27 (by rw [ml_304]; exact Nat.le_of_ble_eq_true rfl) ?_
  refine Bod.go dc_304_28 rfl ?_
  refine Bod.sw (t := 125) dc_304_29 rfl rfl (by rw [sw8]; decide +kernel) ?_
  refine Bod.go dc_304_125 rfl ?_
  refine Bod.get dc_304_126 fr_304_236 (mk_61 _) rfl ?_
  refine Bod.eqI (nI F) (by first | assumption | rfl | exact congrArg nI (by omega) | (simp (disch := omega) only [rI, rIe, rA, rIA, rLA, rJA, rVI, rQI, rVA, rQA, upd_at,  rAI, rLI, rJI, nI_add, pk_sub, kc_0, kc_1, kc_2, kc_3, kc_4, kc_5, reduceIte, Nat.reduceEqDiff, Nat.add_zero, rI_hold, rI_hold, rL_hold, hk, he67, he68, hF]; done)) ?_
  refine Bod.ifT dc_304_129 rfl (k1_ne_T (k_ne F 0 rfl rfl (by omega) (by omega) (by omega))) ?_
  refine Bod.go dc_304_137 rfl ?_
  refine Bod.go dc_304_138 rfl ?_
  refine Bod.get dc_304_139 fr_304_190 (mk_61 _) rfl ?_
  refine Bod.eqI (nI k) (by first | assumption | rfl | exact congrArg nI (by omega) | (simp (disch := omega) only [rI, rIe, rA, rIA, rLA, rJA, rVI, rQI, rVA, rQA, upd_at,  rAI, rLI, rJI, nI_add, pk_sub, kc_0, kc_1, kc_2, kc_3, kc_4, kc_5, reduceIte, Nat.reduceEqDiff, Nat.add_zero, rI_hold, rI_hold, rL_hold, hk, he67, he68, hF]; done)) ?_
  refine Bod.ic 1 (by decide) dc_304_142 ?_
  refine Bod.addN (k + 1) (by omega) dc_304_143 ?_
  refine Bod.put dc_304_144 fr_304_190 (mk_61 _) (Nat.le_of_ble_eq_true rfl) pf_14_15 (st_6115 _ _) (mu_I _ _ _) ?_
  refine Bod.go dc_304_147 rfl ?_
  refine Bod.get dc_304_148 fr_304_129 (mk_61 _) rfl ?_
  refine Bod.go dc_304_151 rfl ?_
  refine Bod.get dc_304_152 fr_304_190 (mk_61 _) rfl ?_
  refine Bod.eqI (nI (k + 1)) (by first | (simp (disch := omega) only [rI, rIe, rA, rIA, rLA, rJA, rVI, rQI, rVA, rQA, upd_at,  rAI, rLI, rJI, nI_add, pk_sub, kc_0, kc_1, kc_2, kc_3, kc_4, kc_5, reduceIte, Nat.reduceEqDiff, Nat.add_zero, rI_hold, rI_hold, rL_hold, hk, he67, he68, hF]; done) | (simp (disch := omega) only [rI, rIe, rA, rIA, rLA, rJA, rVI, rQI, rVA, rQA, upd_at,  rAI, rLI, rJI, nI_add, pk_sub, kc_0, kc_1, kc_2, kc_3, kc_4, kc_5, reduceIte, Nat.reduceEqDiff, Nat.add_zero, rI_hold, rI_hold, rL_hold, hk, he67, he68, hF]; exact congrArg nI (by omega))) ?_
  refine Bod.ialdN (k + 1) rfl (by omega) (by omega) dc_304_155 (mk_67 _) ?_
  refine Bod.eqI (nI e671) (by first | (simp (disch := omega) only [rI, rIe, rA, rIA, rLA, rJA, rVI, rQI, rVA, rQA, upd_at,  rAI, rLI, rJI, nI_add, pk_sub, kc_0, kc_1, kc_2, kc_3, kc_4, kc_5, reduceIte, Nat.reduceEqDiff, Nat.add_zero, rI_hold, rI_hold, rL_hold, hk, he67, he68, hF, he671]; done) | (simp (disch := omega) only [rI, rIe, rA, rIA, rLA, rJA, rVI, rQI, rVA, rQA, upd_at,  rAI, rLI, rJI, nI_add, pk_sub, kc_0, kc_1, kc_2, kc_3, kc_4, kc_5, reduceIte, Nat.reduceEqDiff, Nat.add_zero, rI_hold, rI_hold, rL_hold, hk, he67, he68, hF, he671]; exact congrArg nI (by omega))) ?_
  refine Bod.bip 6 (by decide) dc_304_156 ?_
  refine Bod.icF dc_304_158 rfl (k2_ne_F (k_eq e671 6 rfl rfl (by omega))) ?_
  refine Bod.go dc_304_161 rfl ?_
  refine Bod.ic 1 (by decide) dc_304_162 ?_
  refine Bod.virt (r := []) dc_304_163 kr_304_269 ⟨Or.inl rfl, ow_322, cl_14⟩ (by rw [np_322]; rfl) (by rw [np_322]; rfl) (ob_of (mk_61 _)) (Nat.le_of_ble_eq_true rfl) (c1  ) ?_
  show Bod _ _ _ _ [] _ _ _
  refine Bod.go dc_304_166 rfl ?_
  refine Bod.go dc_304_179 rfl ?_
  refine Bod.bip 29 (by decide) dc_304_180 ?_
  refine Bod.virt (r := []) dc_304_182 kr_304_269 ⟨Or.inl rfl, ow_322, cl_14⟩ (by rw [np_322]; rfl) (by rw [np_322]; rfl) (ob_of (mk_61 _)) (Nat.le_of_ble_eq_true rfl) (c2  ) ?_
  show Bod _ _ _ _ [] _ _ _
  refine Bod.ic 1 (by decide) dc_304_185 ?_
  exact Bod.retZ dc_304_186 rt_304 (Or.inr rfl)
theorem zSi_4 {d : Nat} {S : cS} {k : Nat} {e67 : Nat} {e68 : Nat} {F : Nat} {S1 : cS} (hk : sI S 6115 = nI k) (mk : k < 6001) (he67 : sA S 67 k = nI e67) (me67 : e67 < 2 ^ 20) (b1 : e67 = 2) (he68 : sA S 68 k = nI e68) (me68 : e68 < 2 ^ 20) (sw8 : e68 = 8) (hF : sI S 6122 = nI F) (mF : F < 15) (b2 : F = 0) (c1 : Ans (d + 8) 299 [.ref 61] S (some (.int (nI 0))) S1) : Bod (d + 8) 304 0 [(0, .ref 61)] [] S (some (.int 0)) (S1) := by
  refine Bod.go dc_304_0 rfl ?_
  refine Bod.get dc_304_1 fr_304_129 (mk_61 _) rfl ?_
  refine Bod.go dc_304_4 rfl ?_
  refine Bod.get dc_304_5 fr_304_190 (mk_61 _) rfl ?_
  refine Bod.eqI (nI k) (by first | assumption | rfl | exact congrArg nI (by omega) | (simp (disch := omega) only [rI, rIe, rA, rIA, rLA, rJA, rVI, rQI, rVA, rQA, upd_at,  rAI, rLI, rJI, nI_add, pk_sub, kc_0, kc_1, kc_2, kc_3, kc_4, kc_5, reduceIte, Nat.reduceEqDiff, Nat.add_zero, rI_hold, rI_hold, rL_hold, hk]; done)) ?_
  refine Bod.ialdN k rfl (by omega) (by omega) dc_304_8 (mk_67 _) ?_
  refine Bod.eqI (nI e67) (by first | assumption | rfl | exact congrArg nI (by omega) | (simp (disch := omega) only [rI, rIe, rA, rIA, rLA, rJA, rVI, rQI, rVA, rQA, upd_at,  rAI, rLI, rJI, nI_add, pk_sub, kc_0, kc_1, kc_2, kc_3, kc_4, kc_5, reduceIte, Nat.reduceEqDiff, Nat.add_zero, rI_hold, rI_hold, rL_hold, hk, he67]; done)) ?_
  refine Bod.ic 2 (by decide) dc_304_9 ?_
  refine Bod.icT dc_304_10 rfl (k2_eq_T (k_eq e67 2 rfl rfl (by omega))) ?_
  refine Bod.go dc_304_18 rfl ?_
  refine Bod.get dc_304_19 fr_304_135 (mk_61 _) rfl ?_
  refine Bod.go dc_304_22 rfl ?_
  refine Bod.get dc_304_23 fr_304_190 (mk_61 _) rfl ?_
  refine Bod.eqI (nI k) (by first | assumption | rfl | exact congrArg nI (by omega) | (simp (disch := omega) only [rI, rIe, rA, rIA, rLA, rJA, rVI, rQI, rVA, rQA, upd_at,  rAI, rLI, rJI, nI_add, pk_sub, kc_0, kc_1, kc_2, kc_3, kc_4, kc_5, reduceIte, Nat.reduceEqDiff, Nat.add_zero, rI_hold, rI_hold, rL_hold, hk, he67]; done)) ?_
  refine Bod.ialdN k rfl (by omega) (by omega) dc_304_26 (mk_68 _) ?_
  refine Bod.eqI (nI e68) (by first | assumption | rfl | exact congrArg nI (by omega) | (simp (disch := omega) only [rI, rIe, rA, rIA, rLA, rJA, rVI, rQI, rVA, rQA, upd_at,  rAI, rLI, rJI, nI_add, pk_sub, kc_0, kc_1, kc_2, kc_3, kc_4, kc_5, reduceIte, Nat.reduceEqDiff, Nat.add_zero, rI_hold, rI_hold, rL_hold, hk, he67, he68]; done)) ?_
  refine Bod.istn dc_304_27 (by rw [ml_304]; exact Nat.le_of_ble_eq_true rfl) ?_
  refine Bod.go dc_304_28 rfl ?_
  refine Bod.sw (t := 125) dc_304_29 rfl rfl (by rw [sw8]; decide +kernel) ?_
  refine Bod.go dc_304_125 rfl ?_
  refine Bod.get dc_304_126 fr_304_236 (mk_61 _) rfl ?_
  refine Bod.eqI (nI F) (by first | assumption | rfl | exact congrArg nI (by omega) | (simp (disch := omega) only [rI, rIe, rA, rIA, rLA, rJA, rVI, rQI, rVA, rQA, upd_at,  rAI, rLI, rJI, nI_add, pk_sub, kc_0, kc_1, kc_2, kc_3, kc_4, kc_5, reduceIte, Nat.reduceEqDiff, Nat.add_zero, rI_hold, rI_hold, rL_hold, hk, he67, he68, hF]; done)) ?_
  refine Bod.ifF dc_304_129 rfl (k1_ne_F (k_eq F 0 rfl rfl (by omega))) ?_
  refine Bod.go dc_304_132 rfl ?_
  refine Bod.virt (r := []) dc_304_133 kr_304_202 ⟨Or.inl rfl, ow_299, cl_14⟩ (by rw [np_299]; rfl) (by rw [np_299]; rfl) (ob_of (mk_61 _)) (Nat.le_of_ble_eq_true rfl) (c1  ) ?_
  show Bod _ _ _ _ [_] _ _ _
  exact Bod.retZ dc_304_136 rt_304 (Or.inl rfl)
theorem zSi_5 {d : Nat} {S : cS} {k : Nat} {e67 : Nat} {e68 : Nat} {L : Nat} {S1 : cS} (hk : sI S 6115 = nI k) (mk : k < 6001) (he67 : sA S 67 k = nI e67) (me67 : e67 < 2 ^ 20) (b1 : e67 = 2) (he68 : sA S 68 k = nI e68) (me68 : e68 < 2 ^ 20) (sw8 : e68 = 9) (hL : sI S 6126 = nI L) (mL : L < 30) (b2 : L = 0) (c1 : Ans (d + 8) 299 [.ref 61] S (some (.int (nI 0))) S1) : Bod (d + 8) 304 0 [(0, .ref 61)] [] S (some (.int 0)) (S1) := by
  refine Bod.go dc_304_0 rfl ?_
  refine Bod.get dc_304_1 fr_304_129 (mk_61 _) rfl ?_
  refine Bod.go dc_304_4 rfl ?_
  refine Bod.get dc_304_5 fr_304_190 (mk_61 _) rfl ?_
  refine Bod.eqI (nI k) (by first | assumption | rfl | exact congrArg nI (by omega) | (simp (disch := omega) only [rI, rIe, rA, rIA, rLA, rJA, rVI, rQI, rVA, rQA, upd_at,  rAI, rLI, rJI, nI_add, pk_sub, kc_0, kc_1, kc_2, kc_3, kc_4, kc_5, reduceIte, Nat.reduceEqDiff, Nat.add_zero, rI_hold, rI_hold, rL_hold, hk]; done)) ?_
  refine Bod.ialdN k rfl (by omega) (by omega) dc_304_8 (mk_67 _) ?_
  refine Bod.eqI (nI e67) (by first | assumption | rfl | exact congrArg nI (by omega) | (simp (disch := omega) only [rI, rIe, rA, rIA, rLA, rJA, rVI, rQI, rVA, rQA, upd_at,  rAI, rLI, rJI, nI_add, pk_sub, kc_0, kc_1, kc_2, kc_3, kc_4, kc_5, reduceIte, Nat.reduceEqDiff, Nat.add_zero, rI_hold, rI_hold, rL_hold, hk, he67]; done)) ?_
  refine Bod.ic 2 (by decide) dc_304_9 ?_
  refine Bod.icT dc_304_10 rfl (k2_eq_T (k_eq e67 2 rfl rfl (by omega))) ?_
  refine Bod.go dc_304_18 rfl ?_
  refine Bod.get dc_304_19 fr_304_135 (mk_61 _) rfl ?_
  refine Bod.go dc_304_22 rfl ?_
  refine Bod.get dc_304_23 fr_304_190 (mk_61 _) rfl ?_
  refine Bod.eqI (nI k) (by first | assumption | rfl | exact congrArg nI (by omega) | (simp (disch := omega) only [rI, rIe, rA, rIA, rLA, rJA, rVI, rQI, rVA, rQA, upd_at,  rAI, rLI, rJI, nI_add, pk_sub, kc_0, kc_1, kc_2, kc_3, kc_4, kc_5, reduceIte, Nat.reduceEqDiff, Nat.add_zero, rI_hold, rI_hold, rL_hold, hk, he67]; done)) ?_
  refine Bod.ialdN k rfl (by omega) (by omega) dc_304_26 (mk_68 _) ?_
  refine Bod.eqI (nI e68) (by first | assumption | rfl | exact congrArg nI (by omega) | (simp (disch := omega) only [rI, rIe, rA, rIA, rLA, rJA, rVI, rQI, rVA, rQA, upd_at,  rAI, rLI, rJI, nI_add, pk_sub, kc_0, kc_1, kc_2, kc_3, kc_4, kc_5, reduceIte, Nat.reduceEqDiff, Nat.add_zero, rI_hold, rI_hold, rL_hold, hk, he67, he68]; done)) ?_
  refine Bod.istn dc_304_27 (by rw [ml_304]; exact Nat.le_of_ble_eq_true rfl) ?_
  refine Bod.go dc_304_28 rfl ?_
  refine Bod.sw (t := 215) dc_304_29 rfl rfl (by rw [sw8]; decide +kernel) ?_
  refine Bod.go dc_304_215 rfl ?_
  refine Bod.get dc_304_216 fr_304_242 (mk_61 _) rfl ?_
  refine Bod.eqI (nI L) (by first | assumption | rfl | exact congrArg nI (by omega) | (simp (disch := omega) only [rI, rIe, rA, rIA, rLA, rJA, rVI, rQI, rVA, rQA, upd_at,  rAI, rLI, rJI, nI_add, pk_sub, kc_0, kc_1, kc_2, kc_3, kc_4, kc_5, reduceIte, Nat.reduceEqDiff, Nat.add_zero, rI_hold, rI_hold, rL_hold, hk, he67, he68, hL]; done)) ?_
  refine Bod.ifT dc_304_219 rfl (k1_eq_T (k_eq L 0 rfl rfl (by omega))) ?_
  refine Bod.go dc_304_236 rfl ?_
  refine Bod.virt (r := []) dc_304_237 kr_304_202 ⟨Or.inl rfl, ow_299, cl_14⟩ (by rw [np_299]; rfl) (by rw [np_299]; rfl) (ob_of (mk_61 _)) (Nat.le_of_ble_eq_true rfl) (c1  ) ?_
  show Bod _ _ _ _ [_] _ _ _
  exact Bod.retZ dc_304_240 rt_304 (Or.inl rfl)
theorem zSi_6 {d : Nat} {S Sf : cS} {v : Option Value} {k : Nat} {e67 : Nat} {e68 : Nat} {L : Nat} {e77 : Nat} {e78 : Nat} (hk : sI S 6115 = nI k) (mk : k < 6001) (he67 : sA S 67 k = nI e67) (me67 : e67 < 2 ^ 20) (b1 : e67 = 2) (he68 : sA S 68 k = nI e68) (me68 : e68 < 2 ^ 20) (sw8 : e68 = 9) (hL : sI S 6126 = nI L) (mL : L < 30) (b2 : L ≠ 0) (b3 : 1 ≤ L) (he77 : sA S 77 (L - 1) = nI e77) (me77 : e77 < 2 ^ 20) (he78 : sA (wI 6115 (nI (k + 1)) S) 78 (L - 1) = nI e78) (me78 : e78 < 2 ^ 20) (hB : ∀ lv1 : sm_L, sm_get lv1 0 = some (.ref 61) → sm_get lv1 1 = some (.int (nI e68)) → sm_get lv1 2 = some (.int (nI e78)) → Bod (d + 8) 304 263 lv1 [] (wI 6115 (nI (k + 1)) S) v Sf) : Bod (d + 8) 304 0 [(0, .ref 61)] [] S v Sf := by
  refine Bod.go dc_304_0 rfl ?_
  refine Bod.get dc_304_1 fr_304_129 (mk_61 _) rfl ?_
  refine Bod.go dc_304_4 rfl ?_
  refine Bod.get dc_304_5 fr_304_190 (mk_61 _) rfl ?_
  refine Bod.eqI (nI k) (by first | assumption | rfl | exact congrArg nI (by omega) | (simp (disch := omega) only [rI, rIe, rA, rIA, rLA, rJA, rVI, rQI, rVA, rQA, upd_at,  rAI, rLI, rJI, nI_add, pk_sub, kc_0, kc_1, kc_2, kc_3, kc_4, kc_5, reduceIte, Nat.reduceEqDiff, Nat.add_zero, rI_hold, rI_hold, rL_hold, hk]; done)) ?_
  refine Bod.ialdN k rfl (by omega) (by omega) dc_304_8 (mk_67 _) ?_
  refine Bod.eqI (nI e67) (by first | assumption | rfl | exact congrArg nI (by omega) | (simp (disch := omega) only [rI, rIe, rA, rIA, rLA, rJA, rVI, rQI, rVA, rQA, upd_at,  rAI, rLI, rJI, nI_add, pk_sub, kc_0, kc_1, kc_2, kc_3, kc_4, kc_5, reduceIte, Nat.reduceEqDiff, Nat.add_zero, rI_hold, rI_hold, rL_hold, hk, he67]; done)) ?_
  refine Bod.ic 2 (by decide) dc_304_9 ?_
  refine Bod.icT dc_304_10 rfl (k2_eq_T (k_eq e67 2 rfl rfl (by omega))) ?_
  refine Bod.go dc_304_18 rfl ?_
  refine Bod.get dc_304_19 fr_304_135 (mk_61 _) rfl ?_
  refine Bod.go dc_304_22 rfl ?_
  refine Bod.get dc_304_23 fr_304_190 (mk_61 _) rfl ?_
  refine Bod.eqI (nI k) (by first | assumption | rfl | exact congrArg nI (by omega) | (simp (disch := omega) only [rI, rIe, rA, rIA, rLA, rJA, rVI, rQI, rVA, rQA, upd_at,  rAI, rLI, rJI, nI_add, pk_sub, kc_0, kc_1, kc_2, kc_3, kc_4, kc_5, reduceIte, Nat.reduceEqDiff, Nat.add_zero, rI_hold, rI_hold, rL_hold, hk, he67]; done)) ?_
  refine Bod.ialdN k rfl (by omega) (by omega) dc_304_26 (mk_68 _) ?_
  refine Bod.eqI (nI e68) (by first | assumption | rfl | exact congrArg nI (by omega) | (simp (disch := omega) only [rI, rIe, rA, rIA, rLA, rJA, rVI, rQI, rVA, rQA, upd_at,  rAI, rLI, rJI, nI_add, pk_sub, kc_0, kc_1, kc_2, kc_3, kc_4, kc_5, reduceIte, Nat.reduceEqDiff, Nat.add_zero, rI_hold, rI_hold, rL_hold, hk, he67, he68]; done)) ?_
  refine Bod.istn dc_304_27 (by rw [ml_304]; exact Nat.le_of_ble_eq_true rfl) ?_
  refine Bod.go dc_304_28 rfl ?_
  refine Bod.sw (t := 215) dc_304_29 rfl rfl (by rw [sw8]; decide +kernel) ?_
  refine Bod.go dc_304_215 rfl ?_
  refine Bod.get dc_304_216 fr_304_242 (mk_61 _) rfl ?_
  refine Bod.eqI (nI L) (by first | assumption | rfl | exact congrArg nI (by omega) | (simp (disch := omega) only [rI, rIe, rA, rIA, rLA, rJA, rVI, rQI, rVA, rQA, upd_at,  rAI, rLI, rJI, nI_add, pk_sub, kc_0, kc_1, kc_2, kc_3, kc_4, kc_5, reduceIte, Nat.reduceEqDiff, Nat.add_zero, rI_hold, rI_hold, rL_hold, hk, he67, he68, hL]; done)) ?_
  refine Bod.ifF dc_304_219 rfl (k1_eq_F (k_ne L 0 rfl rfl (by omega) (by omega) (by omega))) ?_
  refine Bod.go dc_304_222 rfl ?_
  refine Bod.get dc_304_223 fr_304_320 (mk_61 _) rfl ?_
  refine Bod.go dc_304_226 rfl ?_
  refine Bod.get dc_304_227 fr_304_242 (mk_61 _) rfl ?_
  refine Bod.eqI (nI L) (by first | assumption | rfl | exact congrArg nI (by omega) | (simp (disch := omega) only [rI, rIe, rA, rIA, rLA, rJA, rVI, rQI, rVA, rQA, upd_at,  rAI, rLI, rJI, nI_add, pk_sub, kc_0, kc_1, kc_2, kc_3, kc_4, kc_5, reduceIte, Nat.reduceEqDiff, Nat.add_zero, rI_hold, rI_hold, rL_hold, hk, he67, he68, hL]; done)) ?_
  refine Bod.ic 1 (by decide) dc_304_230 ?_
  refine Bod.subN (L - 1) (by omega) (by omega) dc_304_231 ?_
  refine Bod.ialdN (L - 1) rfl (by omega) (by omega) dc_304_232 (mk_77 _) ?_
  refine Bod.eqI (nI e77) (by first | assumption | rfl | exact congrArg nI (by omega) | (simp (disch := omega) only [rI, rIe, rA, rIA, rLA, rJA, rVI, rQI, rVA, rQA, upd_at,  rAI, rLI, rJI, nI_add, pk_sub, kc_0, kc_1, kc_2, kc_3, kc_4, kc_5, reduceIte, Nat.reduceEqDiff, Nat.add_zero, rI_hold, rI_hold, rL_hold, hk, he67, he68, hL, he77]; done)) ?_
  refine Bod.ifT dc_304_233 rfl (k1_ge_T e77 rfl (by omega)) ?_
  refine Bod.go dc_304_241 rfl ?_
  refine Bod.go dc_304_242 rfl ?_
  refine Bod.get dc_304_243 fr_304_190 (mk_61 _) rfl ?_
  refine Bod.eqI (nI k) (by first | assumption | rfl | exact congrArg nI (by omega) | (simp (disch := omega) only [rI, rIe, rA, rIA, rLA, rJA, rVI, rQI, rVA, rQA, upd_at,  rAI, rLI, rJI, nI_add, pk_sub, kc_0, kc_1, kc_2, kc_3, kc_4, kc_5, reduceIte, Nat.reduceEqDiff, Nat.add_zero, rI_hold, rI_hold, rL_hold, hk, he67, he68, hL, he77]; done)) ?_
  refine Bod.ic 1 (by decide) dc_304_246 ?_
  refine Bod.addN (k + 1) (by omega) dc_304_247 ?_
  refine Bod.put dc_304_248 fr_304_190 (mk_61 _) (Nat.le_of_ble_eq_true rfl) pf_14_15 (st_6115 _ _) (mu_I _ _ _) ?_
  refine Bod.go dc_304_251 rfl ?_
  refine Bod.get dc_304_252 fr_304_323 (mk_61 _) rfl ?_
  refine Bod.go dc_304_255 rfl ?_
  refine Bod.get dc_304_256 fr_304_242 (mk_61 _) rfl ?_
  refine Bod.eqI (nI L) (by first | (simp (disch := omega) only [rI, rIe, rA, rIA, rLA, rJA, rVI, rQI, rVA, rQA, upd_at,  rAI, rLI, rJI, nI_add, pk_sub, kc_0, kc_1, kc_2, kc_3, kc_4, kc_5, reduceIte, Nat.reduceEqDiff, Nat.add_zero, rI_hold, rI_hold, rL_hold, hk, he67, he68, hL, he77]; done) | (simp (disch := omega) only [rI, rIe, rA, rIA, rLA, rJA, rVI, rQI, rVA, rQA, upd_at,  rAI, rLI, rJI, nI_add, pk_sub, kc_0, kc_1, kc_2, kc_3, kc_4, kc_5, reduceIte, Nat.reduceEqDiff, Nat.add_zero, rI_hold, rI_hold, rL_hold, hk, he67, he68, hL, he77]; exact congrArg nI (by omega))) ?_
  refine Bod.ic 1 (by decide) dc_304_259 ?_
  refine Bod.subN (L - 1) (by omega) (by omega) dc_304_260 ?_
  refine Bod.ialdN (L - 1) rfl (by omega) (by omega) dc_304_261 (mk_78 _) ?_
  refine Bod.eqI (nI e78) (by first | (simp (disch := omega) only [rI, rIe, rA, rIA, rLA, rJA, rVI, rQI, rVA, rQA, upd_at,  rAI, rLI, rJI, nI_add, pk_sub, kc_0, kc_1, kc_2, kc_3, kc_4, kc_5, reduceIte, Nat.reduceEqDiff, Nat.add_zero, rI_hold, rI_hold, rL_hold, hk, he67, he68, hL, he77, he78]; done) | (simp (disch := omega) only [rI, rIe, rA, rIA, rLA, rJA, rVI, rQI, rVA, rQA, upd_at,  rAI, rLI, rJI, nI_add, pk_sub, kc_0, kc_1, kc_2, kc_3, kc_4, kc_5, reduceIte, Nat.reduceEqDiff, Nat.add_zero, rI_hold, rI_hold, rL_hold, hk, he67, he68, hL, he77, he78]; exact congrArg nI (by omega))) ?_
  refine Bod.istn dc_304_262 (by rw [ml_304]; exact Nat.le_of_ble_eq_true rfl) ?_
  exact hB _ (by first | rfl | exact (by repeat (first | exact rfl | exact sm_get_p1 | exact sm_get_p2e | refine sm_get_p1m (by decide) (by decide) ?_ | refine sm_get_p1n (by decide) rfl ?_ | refine sm_get_p2n (by decide) (by decide) rfl ?_))) (by first | rfl | exact (by repeat (first | exact rfl | exact sm_get_p1 | exact sm_get_p2e | refine sm_get_p1m (by decide) (by decide) ?_ | refine sm_get_p1n (by decide) rfl ?_ | refine sm_get_p2n (by decide) (by decide) rfl ?_))) (by first | rfl | exact (by repeat (first | exact rfl | exact sm_get_p1 | exact sm_get_p2e | refine sm_get_p1m (by decide) (by decide) ?_ | refine sm_get_p1n (by decide) rfl ?_ | refine sm_get_p2n (by decide) (by decide) rfl ?_)))
theorem zSi_7 {d : Nat} {S : cS} {k : Nat} {e67 : Nat} {e68 : Nat} {L : Nat} {S1 : cS} (hk : sI S 6115 = nI k) (mk : k < 6001) (he67 : sA S 67 k = nI e67) (me67 : e67 < 2 ^ 20) (b1 : e67 = 2) (he68 : sA S 68 k = nI e68) (me68 : e68 < 2 ^ 20) (sw8 : e68 = 9) (hL : sI S 6126 = nI L) (mL : L < 30) (b2 : L ≠ 0) (b3 : 1 ≤ L) (n4 : sA S 77 (L - 1) = Int32.ofInt (-1)) (c1 : Ans (d + 8) 299 [.ref 61] S (some (.int (nI 0))) S1) : Bod (d + 8) 304 0 [(0, .ref 61)] [] S (some (.int 0)) (S1) := by
  refine Bod.go dc_304_0 rfl ?_
  refine Bod.get dc_304_1 fr_304_129 (mk_61 _) rfl ?_
  refine Bod.go dc_304_4 rfl ?_
  refine Bod.get dc_304_5 fr_304_190 (mk_61 _) rfl ?_
  refine Bod.eqI (nI k) (by first | assumption | rfl | exact congrArg nI (by omega) | (simp (disch := omega) only [rI, rIe, rA, rIA, rLA, rJA, rVI, rQI, rVA, rQA, upd_at,  rAI, rLI, rJI, nI_add, pk_sub, kc_0, kc_1, kc_2, kc_3, kc_4, kc_5, reduceIte, Nat.reduceEqDiff, Nat.add_zero, rI_hold, rI_hold, rL_hold, hk]; done)) ?_
  refine Bod.ialdN k rfl (by omega) (by omega) dc_304_8 (mk_67 _) ?_
  refine Bod.eqI (nI e67) (by first | assumption | rfl | exact congrArg nI (by omega) | (simp (disch := omega) only [rI, rIe, rA, rIA, rLA, rJA, rVI, rQI, rVA, rQA, upd_at,  rAI, rLI, rJI, nI_add, pk_sub, kc_0, kc_1, kc_2, kc_3, kc_4, kc_5, reduceIte, Nat.reduceEqDiff, Nat.add_zero, rI_hold, rI_hold, rL_hold, hk, he67]; done)) ?_
  refine Bod.ic 2 (by decide) dc_304_9 ?_
  refine Bod.icT dc_304_10 rfl (k2_eq_T (k_eq e67 2 rfl rfl (by omega))) ?_
  refine Bod.go dc_304_18 rfl ?_
  refine Bod.get dc_304_19 fr_304_135 (mk_61 _) rfl ?_
  refine Bod.go dc_304_22 rfl ?_
  refine Bod.get dc_304_23 fr_304_190 (mk_61 _) rfl ?_
  refine Bod.eqI (nI k) (by first | assumption | rfl | exact congrArg nI (by omega) | (simp (disch := omega) only [rI, rIe, rA, rIA, rLA, rJA, rVI, rQI, rVA, rQA, upd_at,  rAI, rLI, rJI, nI_add, pk_sub, kc_0, kc_1, kc_2, kc_3, kc_4, kc_5, reduceIte, Nat.reduceEqDiff, Nat.add_zero, rI_hold, rI_hold, rL_hold, hk, he67]; done)) ?_
  refine Bod.ialdN k rfl (by omega) (by omega) dc_304_26 (mk_68 _) ?_
  refine Bod.eqI (nI e68) (by first | assumption | rfl | exact congrArg nI (by omega) | (simp (disch := omega) only [rI, rIe, rA, rIA, rLA, rJA, rVI, rQI, rVA, rQA, upd_at,  rAI, rLI, rJI, nI_add, pk_sub, kc_0, kc_1, kc_2, kc_3, kc_4, kc_5, reduceIte, Nat.reduceEqDiff, Nat.add_zero, rI_hold, rI_hold, rL_hold, hk, he67, he68]; done)) ?_
  refine Bod.istn dc_304_27 (by rw [ml_304]; exact Nat.le_of_ble_eq_true rfl) ?_
  refine Bod.go dc_304_28 rfl ?_
  refine Bod.sw (t := 215) dc_304_29 rfl rfl (by rw [sw8]; decide +kernel) ?_
  refine Bod.go dc_304_215 rfl ?_
  refine Bod.get dc_304_216 fr_304_242 (mk_61 _) rfl ?_
  refine Bod.eqI (nI L) (by first | assumption | rfl | exact congrArg nI (by omega) | (simp (disch := omega) only [rI, rIe, rA, rIA, rLA, rJA, rVI, rQI, rVA, rQA, upd_at,  rAI, rLI, rJI, nI_add, pk_sub, kc_0, kc_1, kc_2, kc_3, kc_4, kc_5, reduceIte, Nat.reduceEqDiff, Nat.add_zero, rI_hold, rI_hold, rL_hold, hk, he67, he68, hL]; done)) ?_
  refine Bod.ifF dc_304_219 rfl (k1_eq_F (k_ne L 0 rfl rfl (by omega) (by omega) (by omega))) ?_
  refine Bod.go dc_304_222 rfl ?_
  refine Bod.get dc_304_223 fr_304_320 (mk_61 _) rfl ?_
  refine Bod.go dc_304_226 rfl ?_
  refine Bod.get dc_304_227 fr_304_242 (mk_61 _) rfl ?_
  refine Bod.eqI (nI L) (by first | assumption | rfl | exact congrArg nI (by omega) | (simp (disch := omega) only [rI, rIe, rA, rIA, rLA, rJA, rVI, rQI, rVA, rQA, upd_at,  rAI, rLI, rJI, nI_add, pk_sub, kc_0, kc_1, kc_2, kc_3, kc_4, kc_5, reduceIte, Nat.reduceEqDiff, Nat.add_zero, rI_hold, rI_hold, rL_hold, hk, he67, he68, hL]; done)) ?_
  refine Bod.ic 1 (by decide) dc_304_230 ?_
  refine Bod.subN (L - 1) (by omega) (by omega) dc_304_231 ?_
  refine Bod.ialdN (L - 1) rfl (by omega) (by omega) dc_304_232 (mk_77 _) ?_
  refine Bod.eqI (Int32.ofInt (-1)) (by first | assumption | rfl | exact congrArg nI (by omega) | (simp (disch := omega) only [rI, rIe, rA, rIA, rLA, rJA, rVI, rQI, rVA, rQA, upd_at,  rAI, rLI, rJI, nI_add, pk_sub, kc_0, kc_1, kc_2, kc_3, kc_4, kc_5, reduceIte, Nat.reduceEqDiff, Nat.add_zero, rI_hold, rI_hold, rL_hold, hk, he67, he68, hL, n4]; done)) ?_
  refine Bod.ifF dc_304_233 rfl (by decide) ?_
  refine Bod.go dc_304_236 rfl ?_
  refine Bod.virt (r := []) dc_304_237 kr_304_202 ⟨Or.inl rfl, ow_299, cl_14⟩ (by rw [np_299]; rfl) (by rw [np_299]; rfl) (ob_of (mk_61 _)) (Nat.le_of_ble_eq_true rfl) (c1  ) ?_
  show Bod _ _ _ _ [_] _ _ _
  exact Bod.retZ dc_304_240 rt_304 (Or.inl rfl)
theorem zSi_8 {d : Nat} {S : cS} {k : Nat} {e67 : Nat} {e68 : Nat} {L : Nat} {S1 : cS} (hk : sI S 6115 = nI k) (mk : k < 6001) (he67 : sA S 67 k = nI e67) (me67 : e67 < 2 ^ 20) (b1 : e67 = 2) (he68 : sA S 68 k = nI e68) (me68 : e68 < 2 ^ 20) (sw8 : e68 = 10) (hL : sI S 6126 = nI L) (mL : L < 30) (b2 : L = 0) (c1 : Ans (d + 8) 299 [.ref 61] S (some (.int (nI 0))) S1) : Bod (d + 8) 304 0 [(0, .ref 61)] [] S (some (.int 0)) (S1) := by
  refine Bod.go dc_304_0 rfl ?_
  refine Bod.get dc_304_1 fr_304_129 (mk_61 _) rfl ?_
  refine Bod.go dc_304_4 rfl ?_
  refine Bod.get dc_304_5 fr_304_190 (mk_61 _) rfl ?_
  refine Bod.eqI (nI k) (by first | assumption | rfl | exact congrArg nI (by omega) | (simp (disch := omega) only [rI, rIe, rA, rIA, rLA, rJA, rVI, rQI, rVA, rQA, upd_at,  rAI, rLI, rJI, nI_add, pk_sub, kc_0, kc_1, kc_2, kc_3, kc_4, kc_5, reduceIte, Nat.reduceEqDiff, Nat.add_zero, rI_hold, rI_hold, rL_hold, hk]; done)) ?_
  refine Bod.ialdN k rfl (by omega) (by omega) dc_304_8 (mk_67 _) ?_
  refine Bod.eqI (nI e67) (by first | assumption | rfl | exact congrArg nI (by omega) | (simp (disch := omega) only [rI, rIe, rA, rIA, rLA, rJA, rVI, rQI, rVA, rQA, upd_at,  rAI, rLI, rJI, nI_add, pk_sub, kc_0, kc_1, kc_2, kc_3, kc_4, kc_5, reduceIte, Nat.reduceEqDiff, Nat.add_zero, rI_hold, rI_hold, rL_hold, hk, he67]; done)) ?_
  refine Bod.ic 2 (by decide) dc_304_9 ?_
  refine Bod.icT dc_304_10 rfl (k2_eq_T (k_eq e67 2 rfl rfl (by omega))) ?_
  refine Bod.go dc_304_18 rfl ?_
  refine Bod.get dc_304_19 fr_304_135 (mk_61 _) rfl ?_
  refine Bod.go dc_304_22 rfl ?_
  refine Bod.get dc_304_23 fr_304_190 (mk_61 _) rfl ?_
  refine Bod.eqI (nI k) (by first | assumption | rfl | exact congrArg nI (by omega) | (simp (disch := omega) only [rI, rIe, rA, rIA, rLA, rJA, rVI, rQI, rVA, rQA, upd_at,  rAI, rLI, rJI, nI_add, pk_sub, kc_0, kc_1, kc_2, kc_3, kc_4, kc_5, reduceIte, Nat.reduceEqDiff, Nat.add_zero, rI_hold, rI_hold, rL_hold, hk, he67]; done)) ?_
  refine Bod.ialdN k rfl (by omega) (by omega) dc_304_26 (mk_68 _) ?_
  refine Bod.eqI (nI e68) (by first | assumption | rfl | exact congrArg nI (by omega) | (simp (disch := omega) only [rI, rIe, rA, rIA, rLA, rJA, rVI, rQI, rVA, rQA, upd_at,  rAI, rLI, rJI, nI_add, pk_sub, kc_0, kc_1, kc_2, kc_3, kc_4, kc_5, reduceIte, Nat.reduceEqDiff, Nat.add_zero, rI_hold, rI_hold, rL_hold, hk, he67, he68]; done)) ?_
  refine Bod.istn dc_304_27 (by rw [ml_304]; exact Nat.le_of_ble_eq_true rfl) ?_
  refine Bod.go dc_304_28 rfl ?_
  refine Bod.sw (t := 215) dc_304_29 rfl rfl (by rw [sw8]; decide +kernel) ?_
  refine Bod.go dc_304_215 rfl ?_
  refine Bod.get dc_304_216 fr_304_242 (mk_61 _) rfl ?_
  refine Bod.eqI (nI L) (by first | assumption | rfl | exact congrArg nI (by omega) | (simp (disch := omega) only [rI, rIe, rA, rIA, rLA, rJA, rVI, rQI, rVA, rQA, upd_at,  rAI, rLI, rJI, nI_add, pk_sub, kc_0, kc_1, kc_2, kc_3, kc_4, kc_5, reduceIte, Nat.reduceEqDiff, Nat.add_zero, rI_hold, rI_hold, rL_hold, hk, he67, he68, hL]; done)) ?_
  refine Bod.ifT dc_304_219 rfl (k1_eq_T (k_eq L 0 rfl rfl (by omega))) ?_
  refine Bod.go dc_304_236 rfl ?_
  refine Bod.virt (r := []) dc_304_237 kr_304_202 ⟨Or.inl rfl, ow_299, cl_14⟩ (by rw [np_299]; rfl) (by rw [np_299]; rfl) (ob_of (mk_61 _)) (Nat.le_of_ble_eq_true rfl) (c1  ) ?_
  show Bod _ _ _ _ [_] _ _ _
  exact Bod.retZ dc_304_240 rt_304 (Or.inl rfl)
theorem zSi_9 {d : Nat} {S Sf : cS} {v : Option Value} {k : Nat} {e67 : Nat} {e68 : Nat} {L : Nat} {e77 : Nat} {e78 : Nat} (hk : sI S 6115 = nI k) (mk : k < 6001) (he67 : sA S 67 k = nI e67) (me67 : e67 < 2 ^ 20) (b1 : e67 = 2) (he68 : sA S 68 k = nI e68) (me68 : e68 < 2 ^ 20) (sw8 : e68 = 10) (hL : sI S 6126 = nI L) (mL : L < 30) (b2 : L ≠ 0) (b3 : 1 ≤ L) (he77 : sA S 77 (L - 1) = nI e77) (me77 : e77 < 2 ^ 20) (he78 : sA (wI 6115 (nI (k + 1)) S) 78 (L - 1) = nI e78) (me78 : e78 < 2 ^ 20) (hB : ∀ lv1 : sm_L, sm_get lv1 0 = some (.ref 61) → sm_get lv1 1 = some (.int (nI e68)) → sm_get lv1 2 = some (.int (nI e78)) → Bod (d + 8) 304 263 lv1 [] (wI 6115 (nI (k + 1)) S) v Sf) : Bod (d + 8) 304 0 [(0, .ref 61)] [] S v Sf := by
  refine Bod.go dc_304_0 rfl ?_
  refine Bod.get dc_304_1 fr_304_129 (mk_61 _) rfl ?_
  refine Bod.go dc_304_4 rfl ?_
  refine Bod.get dc_304_5 fr_304_190 (mk_61 _) rfl ?_
  refine Bod.eqI (nI k) (by first | assumption | rfl | exact congrArg nI (by omega) | (simp (disch := omega) only [rI, rIe, rA, rIA, rLA, rJA, rVI, rQI, rVA, rQA, upd_at,  rAI, rLI, rJI, nI_add, pk_sub, kc_0, kc_1, kc_2, kc_3, kc_4, kc_5, reduceIte, Nat.reduceEqDiff, Nat.add_zero, rI_hold, rI_hold, rL_hold, hk]; done)) ?_
  refine Bod.ialdN k rfl (by omega) (by omega) dc_304_8 (mk_67 _) ?_
  refine Bod.eqI (nI e67) (by first | assumption | rfl | exact congrArg nI (by omega) | (simp (disch := omega) only [rI, rIe, rA, rIA, rLA, rJA, rVI, rQI, rVA, rQA, upd_at,  rAI, rLI, rJI, nI_add, pk_sub, kc_0, kc_1, kc_2, kc_3, kc_4, kc_5, reduceIte, Nat.reduceEqDiff, Nat.add_zero, rI_hold, rI_hold, rL_hold, hk, he67]; done)) ?_
  refine Bod.ic 2 (by decide) dc_304_9 ?_
  refine Bod.icT dc_304_10 rfl (k2_eq_T (k_eq e67 2 rfl rfl (by omega))) ?_
  refine Bod.go dc_304_18 rfl ?_
  refine Bod.get dc_304_19 fr_304_135 (mk_61 _) rfl ?_
  refine Bod.go dc_304_22 rfl ?_
  refine Bod.get dc_304_23 fr_304_190 (mk_61 _) rfl ?_
  refine Bod.eqI (nI k) (by first | assumption | rfl | exact congrArg nI (by omega) | (simp (disch := omega) only [rI, rIe, rA, rIA, rLA, rJA, rVI, rQI, rVA, rQA, upd_at,  rAI, rLI, rJI, nI_add, pk_sub, kc_0, kc_1, kc_2, kc_3, kc_4, kc_5, reduceIte, Nat.reduceEqDiff, Nat.add_zero, rI_hold, rI_hold, rL_hold, hk, he67]; done)) ?_
  refine Bod.ialdN k rfl (by omega) (by omega) dc_304_26 (mk_68 _) ?_
  refine Bod.eqI (nI e68) (by first | assumption | rfl | exact congrArg nI (by omega) | (simp (disch := omega) only [rI, rIe, rA, rIA, rLA, rJA, rVI, rQI, rVA, rQA, upd_at,  rAI, rLI, rJI, nI_add, pk_sub, kc_0, kc_1, kc_2, kc_3, kc_4, kc_5, reduceIte, Nat.reduceEqDiff, Nat.add_zero, rI_hold, rI_hold, rL_hold, hk, he67, he68]; done)) ?_
  refine Bod.istn dc_304_27 (by rw [ml_304]; exact Nat.le_of_ble_eq_true rfl) ?_
  refine Bod.go dc_304_28 rfl ?_
  refine Bod.sw (t := 215) dc_304_29 rfl rfl (by rw [sw8]; decide +kernel) ?_
  refine Bod.go dc_304_215 rfl ?_
  refine Bod.get dc_304_216 fr_304_242 (mk_61 _) rfl ?_
  refine Bod.eqI (nI L) (by first | assumption | rfl | exact congrArg nI (by omega) | (simp (disch := omega) only [rI, rIe, rA, rIA, rLA, rJA, rVI, rQI, rVA, rQA, upd_at,  rAI, rLI, rJI, nI_add, pk_sub, kc_0, kc_1, kc_2, kc_3, kc_4, kc_5, reduceIte, Nat.reduceEqDiff, Nat.add_zero, rI_hold, rI_hold, rL_hold, hk, he67, he68, hL]; done)) ?_
  refine Bod.ifF dc_304_219 rfl (k1_eq_F (k_ne L 0 rfl rfl (by omega) (by omega) (by omega))) ?_
  refine Bod.go dc_304_222 rfl ?_
  refine Bod.get dc_304_223 fr_304_320 (mk_61 _) rfl ?_
  refine Bod.go dc_304_226 rfl ?_
  refine Bod.get dc_304_227 fr_304_242 (mk_61 _) rfl ?_
  refine Bod.eqI (nI L) (by first | assumption | rfl | exact congrArg nI (by omega) | (simp (disch := omega) only [rI, rIe, rA, rIA, rLA, rJA, rVI, rQI, rVA, rQA, upd_at,  rAI, rLI, rJI, nI_add, pk_sub, kc_0, kc_1, kc_2, kc_3, kc_4, kc_5, reduceIte, Nat.reduceEqDiff, Nat.add_zero, rI_hold, rI_hold, rL_hold, hk, he67, he68, hL]; done)) ?_
  refine Bod.ic 1 (by decide) dc_304_230 ?_
  refine Bod.subN (L - 1) (by omega) (by omega) dc_304_231 ?_
  refine Bod.ialdN (L - 1) rfl (by omega) (by omega) dc_304_232 (mk_77 _) ?_
  refine Bod.eqI (nI e77) (by first | assumption | rfl | exact congrArg nI (by omega) | (simp (disch := omega) only [rI, rIe, rA, rIA, rLA, rJA, rVI, rQI, rVA, rQA, upd_at,  rAI, rLI, rJI, nI_add, pk_sub, kc_0, kc_1, kc_2, kc_3, kc_4, kc_5, reduceIte, Nat.reduceEqDiff, Nat.add_zero, rI_hold, rI_hold, rL_hold, hk, he67, he68, hL, he77]; done)) ?_
  refine Bod.ifT dc_304_233 rfl (k1_ge_T e77 rfl (by omega)) ?_
  refine Bod.go dc_304_241 rfl ?_
  refine Bod.go dc_304_242 rfl ?_
  refine Bod.get dc_304_243 fr_304_190 (mk_61 _) rfl ?_
  refine Bod.eqI (nI k) (by first | assumption | rfl | exact congrArg nI (by omega) | (simp (disch := omega) only [rI, rIe, rA, rIA, rLA, rJA, rVI, rQI, rVA, rQA, upd_at,  rAI, rLI, rJI, nI_add, pk_sub, kc_0, kc_1, kc_2, kc_3, kc_4, kc_5, reduceIte, Nat.reduceEqDiff, Nat.add_zero, rI_hold, rI_hold, rL_hold, hk, he67, he68, hL, he77]; done)) ?_
  refine Bod.ic 1 (by decide) dc_304_246 ?_
  refine Bod.addN (k + 1) (by omega) dc_304_247 ?_
  refine Bod.put dc_304_248 fr_304_190 (mk_61 _) (Nat.le_of_ble_eq_true rfl) pf_14_15 (st_6115 _ _) (mu_I _ _ _) ?_
  refine Bod.go dc_304_251 rfl ?_
  refine Bod.get dc_304_252 fr_304_323 (mk_61 _) rfl ?_
  refine Bod.go dc_304_255 rfl ?_
  refine Bod.get dc_304_256 fr_304_242 (mk_61 _) rfl ?_
  refine Bod.eqI (nI L) (by first | (simp (disch := omega) only [rI, rIe, rA, rIA, rLA, rJA, rVI, rQI, rVA, rQA, upd_at,  rAI, rLI, rJI, nI_add, pk_sub, kc_0, kc_1, kc_2, kc_3, kc_4, kc_5, reduceIte, Nat.reduceEqDiff, Nat.add_zero, rI_hold, rI_hold, rL_hold, hk, he67, he68, hL, he77]; done) | (simp (disch := omega) only [rI, rIe, rA, rIA, rLA, rJA, rVI, rQI, rVA, rQA, upd_at,  rAI, rLI, rJI, nI_add, pk_sub, kc_0, kc_1, kc_2, kc_3, kc_4, kc_5, reduceIte, Nat.reduceEqDiff, Nat.add_zero, rI_hold, rI_hold, rL_hold, hk, he67, he68, hL, he77]; exact congrArg nI (by omega))) ?_
  refine Bod.ic 1 (by decide) dc_304_259 ?_
  refine Bod.subN (L - 1) (by omega) (by omega) dc_304_260 ?_
  refine Bod.ialdN (L - 1) rfl (by omega) (by omega) dc_304_261 (mk_78 _) ?_
  refine Bod.eqI (nI e78) (by first | (simp (disch := omega) only [rI, rIe, rA, rIA, rLA, rJA, rVI, rQI, rVA, rQA, upd_at,  rAI, rLI, rJI, nI_add, pk_sub, kc_0, kc_1, kc_2, kc_3, kc_4, kc_5, reduceIte, Nat.reduceEqDiff, Nat.add_zero, rI_hold, rI_hold, rL_hold, hk, he67, he68, hL, he77, he78]; done) | (simp (disch := omega) only [rI, rIe, rA, rIA, rLA, rJA, rVI, rQI, rVA, rQA, upd_at,  rAI, rLI, rJI, nI_add, pk_sub, kc_0, kc_1, kc_2, kc_3, kc_4, kc_5, reduceIte, Nat.reduceEqDiff, Nat.add_zero, rI_hold, rI_hold, rL_hold, hk, he67, he68, hL, he77, he78]; exact congrArg nI (by omega))) ?_
  refine Bod.istn dc_304_262 (by rw [ml_304]; exact Nat.le_of_ble_eq_true rfl) ?_
  exact hB _ (by first | rfl | exact (by repeat (first | exact rfl | exact sm_get_p1 | exact sm_get_p2e | refine sm_get_p1m (by decide) (by decide) ?_ | refine sm_get_p1n (by decide) rfl ?_ | refine sm_get_p2n (by decide) (by decide) rfl ?_))) (by first | rfl | exact (by repeat (first | exact rfl | exact sm_get_p1 | exact sm_get_p2e | refine sm_get_p1m (by decide) (by decide) ?_ | refine sm_get_p1n (by decide) rfl ?_ | refine sm_get_p2n (by decide) (by decide) rfl ?_))) (by first | rfl | exact (by repeat (first | exact rfl | exact sm_get_p1 | exact sm_get_p2e | refine sm_get_p1m (by decide) (by decide) ?_ | refine sm_get_p1n (by decide) rfl ?_ | refine sm_get_p2n (by decide) (by decide) rfl ?_)))
theorem zSi_10 {d : Nat} {S : cS} {k : Nat} {e67 : Nat} {e68 : Nat} {L : Nat} {S1 : cS} (hk : sI S 6115 = nI k) (mk : k < 6001) (he67 : sA S 67 k = nI e67) (me67 : e67 < 2 ^ 20) (b1 : e67 = 2) (he68 : sA S 68 k = nI e68) (me68 : e68 < 2 ^ 20) (sw8 : e68 = 10) (hL : sI S 6126 = nI L) (mL : L < 30) (b2 : L ≠ 0) (b3 : 1 ≤ L) (n4 : sA S 77 (L - 1) = Int32.ofInt (-1)) (c1 : Ans (d + 8) 299 [.ref 61] S (some (.int (nI 0))) S1) : Bod (d + 8) 304 0 [(0, .ref 61)] [] S (some (.int 0)) (S1) := by
  refine Bod.go dc_304_0 rfl ?_
  refine Bod.get dc_304_1 fr_304_129 (mk_61 _) rfl ?_
  refine Bod.go dc_304_4 rfl ?_
  refine Bod.get dc_304_5 fr_304_190 (mk_61 _) rfl ?_
  refine Bod.eqI (nI k) (by first | assumption | rfl | exact congrArg nI (by omega) | (simp (disch := omega) only [rI, rIe, rA, rIA, rLA, rJA, rVI, rQI, rVA, rQA, upd_at,  rAI, rLI, rJI, nI_add, pk_sub, kc_0, kc_1, kc_2, kc_3, kc_4, kc_5, reduceIte, Nat.reduceEqDiff, Nat.add_zero, rI_hold, rI_hold, rL_hold, hk]; done)) ?_
  refine Bod.ialdN k rfl (by omega) (by omega) dc_304_8 (mk_67 _) ?_
  refine Bod.eqI (nI e67) (by first | assumption | rfl | exact congrArg nI (by omega) | (simp (disch := omega) only [rI, rIe, rA, rIA, rLA, rJA, rVI, rQI, rVA, rQA, upd_at,  rAI, rLI, rJI, nI_add, pk_sub, kc_0, kc_1, kc_2, kc_3, kc_4, kc_5, reduceIte, Nat.reduceEqDiff, Nat.add_zero, rI_hold, rI_hold, rL_hold, hk, he67]; done)) ?_
  refine Bod.ic 2 (by decide) dc_304_9 ?_
  refine Bod.icT dc_304_10 rfl (k2_eq_T (k_eq e67 2 rfl rfl (by omega))) ?_
  refine Bod.go dc_304_18 rfl ?_
  refine Bod.get dc_304_19 fr_304_135 (mk_61 _) rfl ?_
  refine Bod.go dc_304_22 rfl ?_
  refine Bod.get dc_304_23 fr_304_190 (mk_61 _) rfl ?_
  refine Bod.eqI (nI k) (by first | assumption | rfl | exact congrArg nI (by omega) | (simp (disch := omega) only [rI, rIe, rA, rIA, rLA, rJA, rVI, rQI, rVA, rQA, upd_at,  rAI, rLI, rJI, nI_add, pk_sub, kc_0, kc_1, kc_2, kc_3, kc_4, kc_5, reduceIte, Nat.reduceEqDiff, Nat.add_zero, rI_hold, rI_hold, rL_hold, hk, he67]; done)) ?_
  refine Bod.ialdN k rfl (by omega) (by omega) dc_304_26 (mk_68 _) ?_
  refine Bod.eqI (nI e68) (by first | assumption | rfl | exact congrArg nI (by omega) | (simp (disch := omega) only [rI, rIe, rA, rIA, rLA, rJA, rVI, rQI, rVA, rQA, upd_at,  rAI, rLI, rJI, nI_add, pk_sub, kc_0, kc_1, kc_2, kc_3, kc_4, kc_5, reduceIte, Nat.reduceEqDiff, Nat.add_zero, rI_hold, rI_hold, rL_hold, hk, he67, he68]; done)) ?_
  refine Bod.istn dc_304_27 (by rw [ml_304]; exact Nat.le_of_ble_eq_true rfl) ?_
  refine Bod.go dc_304_28 rfl ?_
  refine Bod.sw (t := 215) dc_304_29 rfl rfl (by rw [sw8]; decide +kernel) ?_
  refine Bod.go dc_304_215 rfl ?_
  refine Bod.get dc_304_216 fr_304_242 (mk_61 _) rfl ?_
  refine Bod.eqI (nI L) (by first | assumption | rfl | exact congrArg nI (by omega) | (simp (disch := omega) only [rI, rIe, rA, rIA, rLA, rJA, rVI, rQI, rVA, rQA, upd_at,  rAI, rLI, rJI, nI_add, pk_sub, kc_0, kc_1, kc_2, kc_3, kc_4, kc_5, reduceIte, Nat.reduceEqDiff, Nat.add_zero, rI_hold, rI_hold, rL_hold, hk, he67, he68, hL]; done)) ?_
  refine Bod.ifF dc_304_219 rfl (k1_eq_F (k_ne L 0 rfl rfl (by omega) (by omega) (by omega))) ?_
  refine Bod.go dc_304_222 rfl ?_
  refine Bod.get dc_304_223 fr_304_320 (mk_61 _) rfl ?_
  refine Bod.go dc_304_226 rfl ?_
  refine Bod.get dc_304_227 fr_304_242 (mk_61 _) rfl ?_
  refine Bod.eqI (nI L) (by first | assumption | rfl | exact congrArg nI (by omega) | (simp (disch := omega) only [rI, rIe, rA, rIA, rLA, rJA, rVI, rQI, rVA, rQA, upd_at,  rAI, rLI, rJI, nI_add, pk_sub, kc_0, kc_1, kc_2, kc_3, kc_4, kc_5, reduceIte, Nat.reduceEqDiff, Nat.add_zero, rI_hold, rI_hold, rL_hold, hk, he67, he68, hL]; done)) ?_
  refine Bod.ic 1 (by decide) dc_304_230 ?_
  refine Bod.subN (L - 1) (by omega) (by omega) dc_304_231 ?_
  refine Bod.ialdN (L - 1) rfl (by omega) (by omega) dc_304_232 (mk_77 _) ?_
  refine Bod.eqI (Int32.ofInt (-1)) (by first | assumption | rfl | exact congrArg nI (by omega) | (simp (disch := omega) only [rI, rIe, rA, rIA, rLA, rJA, rVI, rQI, rVA, rQA, upd_at,  rAI, rLI, rJI, nI_add, pk_sub, kc_0, kc_1, kc_2, kc_3, kc_4, kc_5, reduceIte, Nat.reduceEqDiff, Nat.add_zero, rI_hold, rI_hold, rL_hold, hk, he67, he68, hL, n4]; done)) ?_
  refine Bod.ifF dc_304_233 rfl (by decide) ?_
  refine Bod.go dc_304_236 rfl ?_
  refine Bod.virt (r := []) dc_304_237 kr_304_202 ⟨Or.inl rfl, ow_299, cl_14⟩ (by rw [np_299]; rfl) (by rw [np_299]; rfl) (ob_of (mk_61 _)) (Nat.le_of_ble_eq_true rfl) (c1  ) ?_
  show Bod _ _ _ _ [_] _ _ _
  exact Bod.retZ dc_304_240 rt_304 (Or.inl rfl)
theorem zSi_11 {d : Nat} {S : cS} {k : Nat} {e67 : Nat} {e68 : Nat} (hk : sI S 6115 = nI k) (mk : k < 6001) (he67 : sA S 67 k = nI e67) (me67 : e67 < 2 ^ 20) (b1 : e67 = 2) (he68 : sA S 68 k = nI e68) (me68 : e68 < 2 ^ 20) (sw8 : e68 = 11) : Bod (d + 8) 304 0 [(0, .ref 61)] [] S (some (.int 1)) (wI 6115 (nI (k + 1)) S) := by
  refine Bod.go dc_304_0 rfl ?_
  refine Bod.get dc_304_1 fr_304_129 (mk_61 _) rfl ?_
  refine Bod.go dc_304_4 rfl ?_
  refine Bod.get dc_304_5 fr_304_190 (mk_61 _) rfl ?_
  refine Bod.eqI (nI k) (by first | assumption | rfl | exact congrArg nI (by omega) | (simp (disch := omega) only [rI, rIe, rA, rIA, rLA, rJA, rVI, rQI, rVA, rQA, upd_at,  rAI, rLI, rJI, nI_add, pk_sub, kc_0, kc_1, kc_2, kc_3, kc_4, kc_5, reduceIte, Nat.reduceEqDiff, Nat.add_zero, rI_hold, rI_hold, rL_hold, hk]; done)) ?_
  refine Bod.ialdN k rfl (by omega) (by omega) dc_304_8 (mk_67 _) ?_
  refine Bod.eqI (nI e67) (by first | assumption | rfl | exact congrArg nI (by omega) | (simp (disch := omega) only [rI, rIe, rA, rIA, rLA, rJA, rVI, rQI, rVA, rQA, upd_at,  rAI, rLI, rJI, nI_add, pk_sub, kc_0, kc_1, kc_2, kc_3, kc_4, kc_5, reduceIte, Nat.reduceEqDiff, Nat.add_zero, rI_hold, rI_hold, rL_hold, hk, he67]; done)) ?_
  refine Bod.ic 2 (by decide) dc_304_9 ?_
  refine Bod.icT dc_304_10 rfl (k2_eq_T (k_eq e67 2 rfl rfl (by omega))) ?_
  refine Bod.go dc_304_18 rfl ?_
  refine Bod.get dc_304_19 fr_304_135 (mk_61 _) rfl ?_
  refine Bod.go dc_304_22 rfl ?_
  refine Bod.get dc_304_23 fr_304_190 (mk_61 _) rfl ?_
  refine Bod.eqI (nI k) (by first | assumption | rfl | exact congrArg nI (by omega) | (simp (disch := omega) only [rI, rIe, rA, rIA, rLA, rJA, rVI, rQI, rVA, rQA, upd_at,  rAI, rLI, rJI, nI_add, pk_sub, kc_0, kc_1, kc_2, kc_3, kc_4, kc_5, reduceIte, Nat.reduceEqDiff, Nat.add_zero, rI_hold, rI_hold, rL_hold, hk, he67]; done)) ?_
  refine Bod.ialdN k rfl (by omega) (by omega) dc_304_26 (mk_68 _) ?_
  refine Bod.eqI (nI e68) (by first | assumption | rfl | exact congrArg nI (by omega) | (simp (disch := omega) only [rI, rIe, rA, rIA, rLA, rJA, rVI, rQI, rVA, rQA, upd_at,  rAI, rLI, rJI, nI_add, pk_sub, kc_0, kc_1, kc_2, kc_3, kc_4, kc_5, reduceIte, Nat.reduceEqDiff, Nat.add_zero, rI_hold, rI_hold, rL_hold, hk, he67, he68]; done)) ?_
  refine Bod.istn dc_304_27 (by rw [ml_304]; exact Nat.le_of_ble_eq_true rfl) ?_
  refine Bod.go dc_304_28 rfl ?_
  refine Bod.sw (t := 108) dc_304_29 rfl rfl (by rw [sw8]; decide +kernel) ?_
  refine Bod.go dc_304_108 rfl ?_
  refine Bod.go dc_304_109 rfl ?_
  refine Bod.get dc_304_110 fr_304_190 (mk_61 _) rfl ?_
  refine Bod.eqI (nI k) (by first | assumption | rfl | exact congrArg nI (by omega) | (simp (disch := omega) only [rI, rIe, rA, rIA, rLA, rJA, rVI, rQI, rVA, rQA, upd_at,  rAI, rLI, rJI, nI_add, pk_sub, kc_0, kc_1, kc_2, kc_3, kc_4, kc_5, reduceIte, Nat.reduceEqDiff, Nat.add_zero, rI_hold, rI_hold, rL_hold, hk, he67, he68]; done)) ?_
  refine Bod.ic 1 (by decide) dc_304_113 ?_
  refine Bod.addN (k + 1) (by omega) dc_304_114 ?_
  refine Bod.put dc_304_115 fr_304_190 (mk_61 _) (Nat.le_of_ble_eq_true rfl) pf_14_15 (st_6115 _ _) (mu_I _ _ _) ?_
  refine Bod.ic 1 (by decide) dc_304_118 ?_
  exact Bod.retZ dc_304_119 rt_304 (Or.inr rfl)
theorem zSi_12 {d : Nat} {S : cS} {k : Nat} {e67 : Nat} {e68 : Nat} {S1 : cS} (hk : sI S 6115 = nI k) (mk : k < 6001) (he67 : sA S 67 k = nI e67) (me67 : e67 < 2 ^ 20) (b1 : e67 = 2) (he68 : sA S 68 k = nI e68) (me68 : e68 < 2 ^ 20) (sw8 : e68 = 12) (c1 : Ans (d + 8) 328 [.ref 61] S (some (.int (nI 1))) S1) : Bod (d + 8) 304 0 [(0, .ref 61)] [] S (some (.int 1)) (S1) := by
  refine Bod.go dc_304_0 rfl ?_
  refine Bod.get dc_304_1 fr_304_129 (mk_61 _) rfl ?_
  refine Bod.go dc_304_4 rfl ?_
  refine Bod.get dc_304_5 fr_304_190 (mk_61 _) rfl ?_
  refine Bod.eqI (nI k) (by first | assumption | rfl | exact congrArg nI (by omega) | (simp (disch := omega) only [rI, rIe, rA, rIA, rLA, rJA, rVI, rQI, rVA, rQA, upd_at,  rAI, rLI, rJI, nI_add, pk_sub, kc_0, kc_1, kc_2, kc_3, kc_4, kc_5, reduceIte, Nat.reduceEqDiff, Nat.add_zero, rI_hold, rI_hold, rL_hold, hk]; done)) ?_
  refine Bod.ialdN k rfl (by omega) (by omega) dc_304_8 (mk_67 _) ?_
  refine Bod.eqI (nI e67) (by first | assumption | rfl | exact congrArg nI (by omega) | (simp (disch := omega) only [rI, rIe, rA, rIA, rLA, rJA, rVI, rQI, rVA, rQA, upd_at,  rAI, rLI, rJI, nI_add, pk_sub, kc_0, kc_1, kc_2, kc_3, kc_4, kc_5, reduceIte, Nat.reduceEqDiff, Nat.add_zero, rI_hold, rI_hold, rL_hold, hk, he67]; done)) ?_
  refine Bod.ic 2 (by decide) dc_304_9 ?_
  refine Bod.icT dc_304_10 rfl (k2_eq_T (k_eq e67 2 rfl rfl (by omega))) ?_
  refine Bod.go dc_304_18 rfl ?_
  refine Bod.get dc_304_19 fr_304_135 (mk_61 _) rfl ?_
  refine Bod.go dc_304_22 rfl ?_
  refine Bod.get dc_304_23 fr_304_190 (mk_61 _) rfl ?_
  refine Bod.eqI (nI k) (by first | assumption | rfl | exact congrArg nI (by omega) | (simp (disch := omega) only [rI, rIe, rA, rIA, rLA, rJA, rVI, rQI, rVA, rQA, upd_at,  rAI, rLI, rJI, nI_add, pk_sub, kc_0, kc_1, kc_2, kc_3, kc_4, kc_5, reduceIte, Nat.reduceEqDiff, Nat.add_zero, rI_hold, rI_hold, rL_hold, hk, he67]; done)) ?_
  refine Bod.ialdN k rfl (by omega) (by omega) dc_304_26 (mk_68 _) ?_
  refine Bod.eqI (nI e68) (by first | assumption | rfl | exact congrArg nI (by omega) | (simp (disch := omega) only [rI, rIe, rA, rIA, rLA, rJA, rVI, rQI, rVA, rQA, upd_at,  rAI, rLI, rJI, nI_add, pk_sub, kc_0, kc_1, kc_2, kc_3, kc_4, kc_5, reduceIte, Nat.reduceEqDiff, Nat.add_zero, rI_hold, rI_hold, rL_hold, hk, he67, he68]; done)) ?_
  refine Bod.istn dc_304_27 (by rw [ml_304]; exact Nat.le_of_ble_eq_true rfl) ?_
  refine Bod.go dc_304_28 rfl ?_
  refine Bod.sw (t := 120) dc_304_29 rfl rfl (by rw [sw8]; decide +kernel) ?_
  refine Bod.go dc_304_120 rfl ?_
  refine Bod.virt (r := []) dc_304_121 kr_304_439 ⟨Or.inl rfl, ow_328, cl_14⟩ (by rw [np_328]; rfl) (by rw [np_328]; rfl) (ob_of (mk_61 _)) (Nat.le_of_ble_eq_true rfl) (c1  ) ?_
  show Bod _ _ _ _ [_] _ _ _
  exact Bod.retZ dc_304_124 rt_304 (Or.inr rfl)
theorem zSi_13 {d : Nat} {S : cS} {k : Nat} {e67 : Nat} {e68 : Nat} {S1 : cS} (hk : sI S 6115 = nI k) (mk : k < 6001) (he67 : sA S 67 k = nI e67) (me67 : e67 < 2 ^ 20) (b1 : e67 = 2) (he68 : sA S 68 k = nI e68) (me68 : e68 < 2 ^ 20) (sw8 : e68 = 12) (c1 : Ans (d + 8) 328 [.ref 61] S (some (.int (nI 0))) S1) : Bod (d + 8) 304 0 [(0, .ref 61)] [] S (some (.int 0)) (S1) := by
  refine Bod.go dc_304_0 rfl ?_
  refine Bod.get dc_304_1 fr_304_129 (mk_61 _) rfl ?_
  refine Bod.go dc_304_4 rfl ?_
  refine Bod.get dc_304_5 fr_304_190 (mk_61 _) rfl ?_
  refine Bod.eqI (nI k) (by first | assumption | rfl | exact congrArg nI (by omega) | (simp (disch := omega) only [rI, rIe, rA, rIA, rLA, rJA, rVI, rQI, rVA, rQA, upd_at,  rAI, rLI, rJI, nI_add, pk_sub, kc_0, kc_1, kc_2, kc_3, kc_4, kc_5, reduceIte, Nat.reduceEqDiff, Nat.add_zero, rI_hold, rI_hold, rL_hold, hk]; done)) ?_
  refine Bod.ialdN k rfl (by omega) (by omega) dc_304_8 (mk_67 _) ?_
  refine Bod.eqI (nI e67) (by first | assumption | rfl | exact congrArg nI (by omega) | (simp (disch := omega) only [rI, rIe, rA, rIA, rLA, rJA, rVI, rQI, rVA, rQA, upd_at,  rAI, rLI, rJI, nI_add, pk_sub, kc_0, kc_1, kc_2, kc_3, kc_4, kc_5, reduceIte, Nat.reduceEqDiff, Nat.add_zero, rI_hold, rI_hold, rL_hold, hk, he67]; done)) ?_
  refine Bod.ic 2 (by decide) dc_304_9 ?_
  refine Bod.icT dc_304_10 rfl (k2_eq_T (k_eq e67 2 rfl rfl (by omega))) ?_
  refine Bod.go dc_304_18 rfl ?_
  refine Bod.get dc_304_19 fr_304_135 (mk_61 _) rfl ?_
  refine Bod.go dc_304_22 rfl ?_
  refine Bod.get dc_304_23 fr_304_190 (mk_61 _) rfl ?_
  refine Bod.eqI (nI k) (by first | assumption | rfl | exact congrArg nI (by omega) | (simp (disch := omega) only [rI, rIe, rA, rIA, rLA, rJA, rVI, rQI, rVA, rQA, upd_at,  rAI, rLI, rJI, nI_add, pk_sub, kc_0, kc_1, kc_2, kc_3, kc_4, kc_5, reduceIte, Nat.reduceEqDiff, Nat.add_zero, rI_hold, rI_hold, rL_hold, hk, he67]; done)) ?_
  refine Bod.ialdN k rfl (by omega) (by omega) dc_304_26 (mk_68 _) ?_
  refine Bod.eqI (nI e68) (by first | assumption | rfl | exact congrArg nI (by omega) | (simp (disch := omega) only [rI, rIe, rA, rIA, rLA, rJA, rVI, rQI, rVA, rQA, upd_at,  rAI, rLI, rJI, nI_add, pk_sub, kc_0, kc_1, kc_2, kc_3, kc_4, kc_5, reduceIte, Nat.reduceEqDiff, Nat.add_zero, rI_hold, rI_hold, rL_hold, hk, he67, he68]; done)) ?_
  refine Bod.istn dc_304_27 (by rw [ml_304]; exact Nat.le_of_ble_eq_true rfl) ?_
  refine Bod.go dc_304_28 rfl ?_
  refine Bod.sw (t := 120) dc_304_29 rfl rfl (by rw [sw8]; decide +kernel) ?_
  refine Bod.go dc_304_120 rfl ?_
  refine Bod.virt (r := []) dc_304_121 kr_304_439 ⟨Or.inl rfl, ow_328, cl_14⟩ (by rw [np_328]; rfl) (by rw [np_328]; rfl) (ob_of (mk_61 _)) (Nat.le_of_ble_eq_true rfl) (c1  ) ?_
  show Bod _ _ _ _ [_] _ _ _
  exact Bod.retZ dc_304_124 rt_304 (Or.inl rfl)
theorem zSi_14 {d : Nat} {S : cS} {k : Nat} {e67 : Nat} {e68 : Nat} {S1 : cS} (hk : sI S 6115 = nI k) (mk : k < 6001) (he67 : sA S 67 k = nI e67) (me67 : e67 < 2 ^ 20) (b1 : e67 = 2) (he68 : sA S 68 k = nI e68) (me68 : e68 < 2 ^ 20) (sw8 : e68 = 13) (c1 : Ans (d + 8) 330 [.ref 61] S (some (.int (nI 1))) S1) : Bod (d + 8) 304 0 [(0, .ref 61)] [] S (some (.int 1)) (S1) := by
  refine Bod.go dc_304_0 rfl ?_
  refine Bod.get dc_304_1 fr_304_129 (mk_61 _) rfl ?_
  refine Bod.go dc_304_4 rfl ?_
  refine Bod.get dc_304_5 fr_304_190 (mk_61 _) rfl ?_
  refine Bod.eqI (nI k) (by first | assumption | rfl | exact congrArg nI (by omega) | (simp (disch := omega) only [rI, rIe, rA, rIA, rLA, rJA, rVI, rQI, rVA, rQA, upd_at,  rAI, rLI, rJI, nI_add, pk_sub, kc_0, kc_1, kc_2, kc_3, kc_4, kc_5, reduceIte, Nat.reduceEqDiff, Nat.add_zero, rI_hold, rI_hold, rL_hold, hk]; done)) ?_
  refine Bod.ialdN k rfl (by omega) (by omega) dc_304_8 (mk_67 _) ?_
  refine Bod.eqI (nI e67) (by first | assumption | rfl | exact congrArg nI (by omega) | (simp (disch := omega) only [rI, rIe, rA, rIA, rLA, rJA, rVI, rQI, rVA, rQA, upd_at,  rAI, rLI, rJI, nI_add, pk_sub, kc_0, kc_1, kc_2, kc_3, kc_4, kc_5, reduceIte, Nat.reduceEqDiff, Nat.add_zero, rI_hold, rI_hold, rL_hold, hk, he67]; done)) ?_
  refine Bod.ic 2 (by decide) dc_304_9 ?_
  refine Bod.icT dc_304_10 rfl (k2_eq_T (k_eq e67 2 rfl rfl (by omega))) ?_
  refine Bod.go dc_304_18 rfl ?_
  refine Bod.get dc_304_19 fr_304_135 (mk_61 _) rfl ?_
  refine Bod.go dc_304_22 rfl ?_
  refine Bod.get dc_304_23 fr_304_190 (mk_61 _) rfl ?_
  refine Bod.eqI (nI k) (by first | assumption | rfl | exact congrArg nI (by omega) | (simp (disch := omega) only [rI, rIe, rA, rIA, rLA, rJA, rVI, rQI, rVA, rQA, upd_at,  rAI, rLI, rJI, nI_add, pk_sub, kc_0, kc_1, kc_2, kc_3, kc_4, kc_5, reduceIte, Nat.reduceEqDiff, Nat.add_zero, rI_hold, rI_hold, rL_hold, hk, he67]; done)) ?_
  refine Bod.ialdN k rfl (by omega) (by omega) dc_304_26 (mk_68 _) ?_
  refine Bod.eqI (nI e68) (by first | assumption | rfl | exact congrArg nI (by omega) | (simp (disch := omega) only [rI, rIe, rA, rIA, rLA, rJA, rVI, rQI, rVA, rQA, upd_at,  rAI, rLI, rJI, nI_add, pk_sub, kc_0, kc_1, kc_2, kc_3, kc_4, kc_5, reduceIte, Nat.reduceEqDiff, Nat.add_zero, rI_hold, rI_hold, rL_hold, hk, he67, he68]; done)) ?_
  refine Bod.istn dc_304_27 (by rw [ml_304]; exact Nat.le_of_ble_eq_true rfl) ?_
  refine Bod.go dc_304_28 rfl ?_
  refine Bod.sw (t := 396) dc_304_29 rfl rfl (by rw [sw8]; decide +kernel) ?_
  refine Bod.go dc_304_396 rfl ?_
  refine Bod.virt (r := []) dc_304_397 kr_304_442 ⟨Or.inl rfl, ow_330, cl_14⟩ (by rw [np_330]; rfl) (by rw [np_330]; rfl) (ob_of (mk_61 _)) (Nat.le_of_ble_eq_true rfl) (c1  ) ?_
  show Bod _ _ _ _ [_] _ _ _
  exact Bod.retZ dc_304_400 rt_304 (Or.inr rfl)
theorem zSi_15 {d : Nat} {S : cS} {k : Nat} {e67 : Nat} {e68 : Nat} {S1 : cS} (hk : sI S 6115 = nI k) (mk : k < 6001) (he67 : sA S 67 k = nI e67) (me67 : e67 < 2 ^ 20) (b1 : e67 = 2) (he68 : sA S 68 k = nI e68) (me68 : e68 < 2 ^ 20) (sw8 : e68 = 13) (c1 : Ans (d + 8) 330 [.ref 61] S (some (.int (nI 0))) S1) : Bod (d + 8) 304 0 [(0, .ref 61)] [] S (some (.int 0)) (S1) := by
  refine Bod.go dc_304_0 rfl ?_
  refine Bod.get dc_304_1 fr_304_129 (mk_61 _) rfl ?_
  refine Bod.go dc_304_4 rfl ?_
  refine Bod.get dc_304_5 fr_304_190 (mk_61 _) rfl ?_
  refine Bod.eqI (nI k) (by first | assumption | rfl | exact congrArg nI (by omega) | (simp (disch := omega) only [rI, rIe, rA, rIA, rLA, rJA, rVI, rQI, rVA, rQA, upd_at,  rAI, rLI, rJI, nI_add, pk_sub, kc_0, kc_1, kc_2, kc_3, kc_4, kc_5, reduceIte, Nat.reduceEqDiff, Nat.add_zero, rI_hold, rI_hold, rL_hold, hk]; done)) ?_
  refine Bod.ialdN k rfl (by omega) (by omega) dc_304_8 (mk_67 _) ?_
  refine Bod.eqI (nI e67) (by first | assumption | rfl | exact congrArg nI (by omega) | (simp (disch := omega) only [rI, rIe, rA, rIA, rLA, rJA, rVI, rQI, rVA, rQA, upd_at,  rAI, rLI, rJI, nI_add, pk_sub, kc_0, kc_1, kc_2, kc_3, kc_4, kc_5, reduceIte, Nat.reduceEqDiff, Nat.add_zero, rI_hold, rI_hold, rL_hold, hk, he67]; done)) ?_
  refine Bod.ic 2 (by decide) dc_304_9 ?_
  refine Bod.icT dc_304_10 rfl (k2_eq_T (k_eq e67 2 rfl rfl (by omega))) ?_
  refine Bod.go dc_304_18 rfl ?_
  refine Bod.get dc_304_19 fr_304_135 (mk_61 _) rfl ?_
  refine Bod.go dc_304_22 rfl ?_
  refine Bod.get dc_304_23 fr_304_190 (mk_61 _) rfl ?_
  refine Bod.eqI (nI k) (by first | assumption | rfl | exact congrArg nI (by omega) | (simp (disch := omega) only [rI, rIe, rA, rIA, rLA, rJA, rVI, rQI, rVA, rQA, upd_at,  rAI, rLI, rJI, nI_add, pk_sub, kc_0, kc_1, kc_2, kc_3, kc_4, kc_5, reduceIte, Nat.reduceEqDiff, Nat.add_zero, rI_hold, rI_hold, rL_hold, hk, he67]; done)) ?_
  refine Bod.ialdN k rfl (by omega) (by omega) dc_304_26 (mk_68 _) ?_
  refine Bod.eqI (nI e68) (by first | assumption | rfl | exact congrArg nI (by omega) | (simp (disch := omega) only [rI, rIe, rA, rIA, rLA, rJA, rVI, rQI, rVA, rQA, upd_at,  rAI, rLI, rJI, nI_add, pk_sub, kc_0, kc_1, kc_2, kc_3, kc_4, kc_5, reduceIte, Nat.reduceEqDiff, Nat.add_zero, rI_hold, rI_hold, rL_hold, hk, he67, he68]; done)) ?_
  refine Bod.istn dc_304_27 (by rw [ml_304]; exact Nat.le_of_ble_eq_true rfl) ?_
  refine Bod.go dc_304_28 rfl ?_
  refine Bod.sw (t := 396) dc_304_29 rfl rfl (by rw [sw8]; decide +kernel) ?_
  refine Bod.go dc_304_396 rfl ?_
  refine Bod.virt (r := []) dc_304_397 kr_304_442 ⟨Or.inl rfl, ow_330, cl_14⟩ (by rw [np_330]; rfl) (by rw [np_330]; rfl) (ob_of (mk_61 _)) (Nat.le_of_ble_eq_true rfl) (c1  ) ?_
  show Bod _ _ _ _ [_] _ _ _
  exact Bod.retZ dc_304_400 rt_304 (Or.inl rfl)
theorem zSi_16 {d : Nat} {S : cS} {k : Nat} {e67 : Nat} {e68 : Nat} {S1 : cS} {S2 : cS} (hk : sI S 6115 = nI k) (mk : k < 6001) (he67 : sA S 67 k = nI e67) (me67 : e67 < 2 ^ 20) (b1 : e67 = 2) (he68 : sA S 68 k = nI e68) (me68 : e68 < 2 ^ 20) (sw8 : e68 = 16) (c1 : Ans (d + 8) 306 [.ref 61, .int (nI 0)] (wI 6115 (nI (k + 1)) S) (some (.int (nI 1))) S1) (c2 : Ans (d + 8) 322 [.ref 61, .int (nI 30)] S1 none S2) : Bod (d + 8) 304 0 [(0, .ref 61)] [] S (some (.int 1)) (S2) := by
  refine Bod.go dc_304_0 rfl ?_
  refine Bod.get dc_304_1 fr_304_129 (mk_61 _) rfl ?_
  refine Bod.go dc_304_4 rfl ?_
  refine Bod.get dc_304_5 fr_304_190 (mk_61 _) rfl ?_
  refine Bod.eqI (nI k) (by first | assumption | rfl | exact congrArg nI (by omega) | (simp (disch := omega) only [rI, rIe, rA, rIA, rLA, rJA, rVI, rQI, rVA, rQA, upd_at,  rAI, rLI, rJI, nI_add, pk_sub, kc_0, kc_1, kc_2, kc_3, kc_4, kc_5, reduceIte, Nat.reduceEqDiff, Nat.add_zero, rI_hold, rI_hold, rL_hold, hk]; done)) ?_
  refine Bod.ialdN k rfl (by omega) (by omega) dc_304_8 (mk_67 _) ?_
  refine Bod.eqI (nI e67) (by first | assumption | rfl | exact congrArg nI (by omega) | (simp (disch := omega) only [rI, rIe, rA, rIA, rLA, rJA, rVI, rQI, rVA, rQA, upd_at,  rAI, rLI, rJI, nI_add, pk_sub, kc_0, kc_1, kc_2, kc_3, kc_4, kc_5, reduceIte, Nat.reduceEqDiff, Nat.add_zero, rI_hold, rI_hold, rL_hold, hk, he67]; done)) ?_
  refine Bod.ic 2 (by decide) dc_304_9 ?_
  refine Bod.icT dc_304_10 rfl (k2_eq_T (k_eq e67 2 rfl rfl (by omega))) ?_
  refine Bod.go dc_304_18 rfl ?_
  refine Bod.get dc_304_19 fr_304_135 (mk_61 _) rfl ?_
  refine Bod.go dc_304_22 rfl ?_
  refine Bod.get dc_304_23 fr_304_190 (mk_61 _) rfl ?_
  refine Bod.eqI (nI k) (by first | assumption | rfl | exact congrArg nI (by omega) | (simp (disch := omega) only [rI, rIe, rA, rIA, rLA, rJA, rVI, rQI, rVA, rQA, upd_at,  rAI, rLI, rJI, nI_add, pk_sub, kc_0, kc_1, kc_2, kc_3, kc_4, kc_5, reduceIte, Nat.reduceEqDiff, Nat.add_zero, rI_hold, rI_hold, rL_hold, hk, he67]; done)) ?_
  refine Bod.ialdN k rfl (by omega) (by omega) dc_304_26 (mk_68 _) ?_
  refine Bod.eqI (nI e68) (by first | assumption | rfl | exact congrArg nI (by omega) | (simp (disch := omega) only [rI, rIe, rA, rIA, rLA, rJA, rVI, rQI, rVA, rQA, upd_at,  rAI, rLI, rJI, nI_add, pk_sub, kc_0, kc_1, kc_2, kc_3, kc_4, kc_5, reduceIte, Nat.reduceEqDiff, Nat.add_zero, rI_hold, rI_hold, rL_hold, hk, he67, he68]; done)) ?_
  refine Bod.istn dc_304_27 (by rw [ml_304]; exact Nat.le_of_ble_eq_true rfl) ?_
  refine Bod.go dc_304_28 rfl ?_
  refine Bod.sw (t := 187) dc_304_29 rfl rfl (by rw [sw8]; decide +kernel) ?_
  refine Bod.go dc_304_187 rfl ?_
  refine Bod.go dc_304_188 rfl ?_
  refine Bod.get dc_304_189 fr_304_190 (mk_61 _) rfl ?_
  refine Bod.eqI (nI k) (by first | assumption | rfl | exact congrArg nI (by omega) | (simp (disch := omega) only [rI, rIe, rA, rIA, rLA, rJA, rVI, rQI, rVA, rQA, upd_at,  rAI, rLI, rJI, nI_add, pk_sub, kc_0, kc_1, kc_2, kc_3, kc_4, kc_5, reduceIte, Nat.reduceEqDiff, Nat.add_zero, rI_hold, rI_hold, rL_hold, hk, he67, he68]; done)) ?_
  refine Bod.ic 1 (by decide) dc_304_192 ?_
  refine Bod.addN (k + 1) (by omega) dc_304_193 ?_
  refine Bod.put dc_304_194 fr_304_190 (mk_61 _) (Nat.le_of_ble_eq_true rfl) pf_14_15 (st_6115 _ _) (mu_I _ _ _) ?_
  refine Bod.go dc_304_197 rfl ?_
  refine Bod.ic 0 (by decide) dc_304_198 ?_
  refine Bod.virt (r := []) dc_304_199 kr_304_302 ⟨Or.inl rfl, ow_306, cl_14⟩ (by rw [np_306]; rfl) (by rw [np_306]; rfl) (ob_of (mk_61 _)) (Nat.le_of_ble_eq_true rfl) (c1  ) ?_
  show Bod _ _ _ _ [_] _ _ _
  refine Bod.ifT dc_304_202 rfl (k1_ne_T (k_ne 1 0 rfl rfl (by omega) (by omega) (by omega))) ?_
  refine Bod.go dc_304_207 rfl ?_
  refine Bod.bip 30 (by decide) dc_304_208 ?_
  refine Bod.virt (r := []) dc_304_210 kr_304_269 ⟨Or.inl rfl, ow_322, cl_14⟩ (by rw [np_322]; rfl) (by rw [np_322]; rfl) (ob_of (mk_61 _)) (Nat.le_of_ble_eq_true rfl) (c2  ) ?_
  show Bod _ _ _ _ [] _ _ _
  refine Bod.ic 1 (by decide) dc_304_213 ?_
  exact Bod.retZ dc_304_214 rt_304 (Or.inr rfl)
theorem zSi_17 {d : Nat} {S : cS} {k : Nat} {e67 : Nat} {e68 : Nat} {S1 : cS} (hk : sI S 6115 = nI k) (mk : k < 6001) (he67 : sA S 67 k = nI e67) (me67 : e67 < 2 ^ 20) (b1 : e67 = 2) (he68 : sA S 68 k = nI e68) (me68 : e68 < 2 ^ 20) (sw8 : e68 = 16) (c1 : Ans (d + 8) 306 [.ref 61, .int (nI 0)] (wI 6115 (nI (k + 1)) S) (some (.int (nI 0))) S1) : Bod (d + 8) 304 0 [(0, .ref 61)] [] S (some (.int 0)) (S1) := by
  refine Bod.go dc_304_0 rfl ?_
  refine Bod.get dc_304_1 fr_304_129 (mk_61 _) rfl ?_
  refine Bod.go dc_304_4 rfl ?_
  refine Bod.get dc_304_5 fr_304_190 (mk_61 _) rfl ?_
  refine Bod.eqI (nI k) (by first | assumption | rfl | exact congrArg nI (by omega) | (simp (disch := omega) only [rI, rIe, rA, rIA, rLA, rJA, rVI, rQI, rVA, rQA, upd_at,  rAI, rLI, rJI, nI_add, pk_sub, kc_0, kc_1, kc_2, kc_3, kc_4, kc_5, reduceIte, Nat.reduceEqDiff, Nat.add_zero, rI_hold, rI_hold, rL_hold, hk]; done)) ?_
  refine Bod.ialdN k rfl (by omega) (by omega) dc_304_8 (mk_67 _) ?_
  refine Bod.eqI (nI e67) (by first | assumption | rfl | exact congrArg nI (by omega) | (simp (disch := omega) only [rI, rIe, rA, rIA, rLA, rJA, rVI, rQI, rVA, rQA, upd_at,  rAI, rLI, rJI, nI_add, pk_sub, kc_0, kc_1, kc_2, kc_3, kc_4, kc_5, reduceIte, Nat.reduceEqDiff, Nat.add_zero, rI_hold, rI_hold, rL_hold, hk, he67]; done)) ?_
  refine Bod.ic 2 (by decide) dc_304_9 ?_
  refine Bod.icT dc_304_10 rfl (k2_eq_T (k_eq e67 2 rfl rfl (by omega))) ?_
  refine Bod.go dc_304_18 rfl ?_
  refine Bod.get dc_304_19 fr_304_135 (mk_61 _) rfl ?_
  refine Bod.go dc_304_22 rfl ?_
  refine Bod.get dc_304_23 fr_304_190 (mk_61 _) rfl ?_
  refine Bod.eqI (nI k) (by first | assumption | rfl | exact congrArg nI (by omega) | (simp (disch := omega) only [rI, rIe, rA, rIA, rLA, rJA, rVI, rQI, rVA, rQA, upd_at,  rAI, rLI, rJI, nI_add, pk_sub, kc_0, kc_1, kc_2, kc_3, kc_4, kc_5, reduceIte, Nat.reduceEqDiff, Nat.add_zero, rI_hold, rI_hold, rL_hold, hk, he67]; done)) ?_
  refine Bod.ialdN k rfl (by omega) (by omega) dc_304_26 (mk_68 _) ?_
  refine Bod.eqI (nI e68) (by first | assumption | rfl | exact congrArg nI (by omega) | (simp (disch := omega) only [rI, rIe, rA, rIA, rLA, rJA, rVI, rQI, rVA, rQA, upd_at,  rAI, rLI, rJI, nI_add, pk_sub, kc_0, kc_1, kc_2, kc_3, kc_4, kc_5, reduceIte, Nat.reduceEqDiff, Nat.add_zero, rI_hold, rI_hold, rL_hold, hk, he67, he68]; done)) ?_
  refine Bod.istn dc_304_27 (by rw [ml_304]; exact Nat.le_of_ble_eq_true rfl) ?_
  refine Bod.go dc_304_28 rfl ?_
  refine Bod.sw (t := 187) dc_304_29 rfl rfl (by rw [sw8]; decide +kernel) ?_
  refine Bod.go dc_304_187 rfl ?_
  refine Bod.go dc_304_188 rfl ?_
  refine Bod.get dc_304_189 fr_304_190 (mk_61 _) rfl ?_
  refine Bod.eqI (nI k) (by first | assumption | rfl | exact congrArg nI (by omega) | (simp (disch := omega) only [rI, rIe, rA, rIA, rLA, rJA, rVI, rQI, rVA, rQA, upd_at,  rAI, rLI, rJI, nI_add, pk_sub, kc_0, kc_1, kc_2, kc_3, kc_4, kc_5, reduceIte, Nat.reduceEqDiff, Nat.add_zero, rI_hold, rI_hold, rL_hold, hk, he67, he68]; done)) ?_
  refine Bod.ic 1 (by decide) dc_304_192 ?_
  refine Bod.addN (k + 1) (by omega) dc_304_193 ?_
  refine Bod.put dc_304_194 fr_304_190 (mk_61 _) (Nat.le_of_ble_eq_true rfl) pf_14_15 (st_6115 _ _) (mu_I _ _ _) ?_
  refine Bod.go dc_304_197 rfl ?_
  refine Bod.ic 0 (by decide) dc_304_198 ?_
  refine Bod.virt (r := []) dc_304_199 kr_304_302 ⟨Or.inl rfl, ow_306, cl_14⟩ (by rw [np_306]; rfl) (by rw [np_306]; rfl) (ob_of (mk_61 _)) (Nat.le_of_ble_eq_true rfl) (c1  ) ?_
  show Bod _ _ _ _ [_] _ _ _
  refine Bod.ifF dc_304_202 rfl (k1_ne_F (k_eq 0 0 rfl rfl (by omega))) ?_
  refine Bod.ic 0 (by decide) dc_304_205 ?_
  exact Bod.retZ dc_304_206 rt_304 (Or.inl rfl)
theorem zSi_18 {d : Nat} {S : cS} {k : Nat} {e67 : Nat} {e68 : Nat} {S1 : cS} (hk : sI S 6115 = nI k) (mk : k < 6001) (he67 : sA S 67 k = nI e67) (me67 : e67 < 2 ^ 20) (b1 : e67 = 2) (he68 : sA S 68 k = nI e68) (me68 : e68 < 2 ^ 20) (sw8 : e68 = 19) (c1 : Ans (d + 8) 305 [.ref 61] S (some (.int (nI 1))) S1) : Bod (d + 8) 304 0 [(0, .ref 61)] [] S (some (.int 1)) (S1) := by
  refine Bod.go dc_304_0 rfl ?_
  refine Bod.get dc_304_1 fr_304_129 (mk_61 _) rfl ?_
  refine Bod.go dc_304_4 rfl ?_
  refine Bod.get dc_304_5 fr_304_190 (mk_61 _) rfl ?_
  refine Bod.eqI (nI k) (by first | assumption | rfl | exact congrArg nI (by omega) | (simp (disch := omega) only [rI, rIe, rA, rIA, rLA, rJA, rVI, rQI, rVA, rQA, upd_at,  rAI, rLI, rJI, nI_add, pk_sub, kc_0, kc_1, kc_2, kc_3, kc_4, kc_5, reduceIte, Nat.reduceEqDiff, Nat.add_zero, rI_hold, rI_hold, rL_hold, hk]; done)) ?_
  refine Bod.ialdN k rfl (by omega) (by omega) dc_304_8 (mk_67 _) ?_
  refine Bod.eqI (nI e67) (by first | assumption | rfl | exact congrArg nI (by omega) | (simp (disch := omega) only [rI, rIe, rA, rIA, rLA, rJA, rVI, rQI, rVA, rQA, upd_at,  rAI, rLI, rJI, nI_add, pk_sub, kc_0, kc_1, kc_2, kc_3, kc_4, kc_5, reduceIte, Nat.reduceEqDiff, Nat.add_zero, rI_hold, rI_hold, rL_hold, hk, he67]; done)) ?_
  refine Bod.ic 2 (by decide) dc_304_9 ?_
  refine Bod.icT dc_304_10 rfl (k2_eq_T (k_eq e67 2 rfl rfl (by omega))) ?_
  refine Bod.go dc_304_18 rfl ?_
  refine Bod.get dc_304_19 fr_304_135 (mk_61 _) rfl ?_
  refine Bod.go dc_304_22 rfl ?_
  refine Bod.get dc_304_23 fr_304_190 (mk_61 _) rfl ?_
  refine Bod.eqI (nI k) (by first | assumption | rfl | exact congrArg nI (by omega) | (simp (disch := omega) only [rI, rIe, rA, rIA, rLA, rJA, rVI, rQI, rVA, rQA, upd_at,  rAI, rLI, rJI, nI_add, pk_sub, kc_0, kc_1, kc_2, kc_3, kc_4, kc_5, reduceIte, Nat.reduceEqDiff, Nat.add_zero, rI_hold, rI_hold, rL_hold, hk, he67]; done)) ?_
  refine Bod.ialdN k rfl (by omega) (by omega) dc_304_26 (mk_68 _) ?_
  refine Bod.eqI (nI e68) (by first | assumption | rfl | exact congrArg nI (by omega) | (simp (disch := omega) only [rI, rIe, rA, rIA, rLA, rJA, rVI, rQI, rVA, rQA, upd_at,  rAI, rLI, rJI, nI_add, pk_sub, kc_0, kc_1, kc_2, kc_3, kc_4, kc_5, reduceIte, Nat.reduceEqDiff, Nat.add_zero, rI_hold, rI_hold, rL_hold, hk, he67, he68]; done)) ?_
  refine Bod.istn dc_304_27 (by rw [ml_304]; exact Nat.le_of_ble_eq_true rfl) ?_
  refine Bod.go dc_304_28 rfl ?_
  refine Bod.sw (t := 401) dc_304_29 rfl rfl (by rw [sw8]; decide +kernel) ?_
  refine Bod.go dc_304_401 rfl ?_
  refine Bod.virt (r := []) dc_304_402 kr_304_436 ⟨Or.inl rfl, ow_305, cl_14⟩ (by rw [np_305]; rfl) (by rw [np_305]; rfl) (ob_of (mk_61 _)) (Nat.le_of_ble_eq_true rfl) (c1  ) ?_
  show Bod _ _ _ _ [_] _ _ _
  exact Bod.retZ dc_304_405 rt_304 (Or.inr rfl)
theorem zSi_19 {d : Nat} {S : cS} {k : Nat} {e67 : Nat} {e68 : Nat} {S1 : cS} (hk : sI S 6115 = nI k) (mk : k < 6001) (he67 : sA S 67 k = nI e67) (me67 : e67 < 2 ^ 20) (b1 : e67 = 2) (he68 : sA S 68 k = nI e68) (me68 : e68 < 2 ^ 20) (sw8 : e68 = 19) (c1 : Ans (d + 8) 305 [.ref 61] S (some (.int (nI 0))) S1) : Bod (d + 8) 304 0 [(0, .ref 61)] [] S (some (.int 0)) (S1) := by
  refine Bod.go dc_304_0 rfl ?_
  refine Bod.get dc_304_1 fr_304_129 (mk_61 _) rfl ?_
  refine Bod.go dc_304_4 rfl ?_
  refine Bod.get dc_304_5 fr_304_190 (mk_61 _) rfl ?_
  refine Bod.eqI (nI k) (by first | assumption | rfl | exact congrArg nI (by omega) | (simp (disch := omega) only [rI, rIe, rA, rIA, rLA, rJA, rVI, rQI, rVA, rQA, upd_at,  rAI, rLI, rJI, nI_add, pk_sub, kc_0, kc_1, kc_2, kc_3, kc_4, kc_5, reduceIte, Nat.reduceEqDiff, Nat.add_zero, rI_hold, rI_hold, rL_hold, hk]; done)) ?_
  refine Bod.ialdN k rfl (by omega) (by omega) dc_304_8 (mk_67 _) ?_
  refine Bod.eqI (nI e67) (by first | assumption | rfl | exact congrArg nI (by omega) | (simp (disch := omega) only [rI, rIe, rA, rIA, rLA, rJA, rVI, rQI, rVA, rQA, upd_at,  rAI, rLI, rJI, nI_add, pk_sub, kc_0, kc_1, kc_2, kc_3, kc_4, kc_5, reduceIte, Nat.reduceEqDiff, Nat.add_zero, rI_hold, rI_hold, rL_hold, hk, he67]; done)) ?_
  refine Bod.ic 2 (by decide) dc_304_9 ?_
  refine Bod.icT dc_304_10 rfl (k2_eq_T (k_eq e67 2 rfl rfl (by omega))) ?_
  refine Bod.go dc_304_18 rfl ?_
  refine Bod.get dc_304_19 fr_304_135 (mk_61 _) rfl ?_
  refine Bod.go dc_304_22 rfl ?_
  refine Bod.get dc_304_23 fr_304_190 (mk_61 _) rfl ?_
  refine Bod.eqI (nI k) (by first | assumption | rfl | exact congrArg nI (by omega) | (simp (disch := omega) only [rI, rIe, rA, rIA, rLA, rJA, rVI, rQI, rVA, rQA, upd_at,  rAI, rLI, rJI, nI_add, pk_sub, kc_0, kc_1, kc_2, kc_3, kc_4, kc_5, reduceIte, Nat.reduceEqDiff, Nat.add_zero, rI_hold, rI_hold, rL_hold, hk, he67]; done)) ?_
  refine Bod.ialdN k rfl (by omega) (by omega) dc_304_26 (mk_68 _) ?_
  refine Bod.eqI (nI e68) (by first | assumption | rfl | exact congrArg nI (by omega) | (simp (disch := omega) only [rI, rIe, rA, rIA, rLA, rJA, rVI, rQI, rVA, rQA, upd_at,  rAI, rLI, rJI, nI_add, pk_sub, kc_0, kc_1, kc_2, kc_3, kc_4, kc_5, reduceIte, Nat.reduceEqDiff, Nat.add_zero, rI_hold, rI_hold, rL_hold, hk, he67, he68]; done)) ?_
  refine Bod.istn dc_304_27 (by rw [ml_304]; exact Nat.le_of_ble_eq_true rfl) ?_
  refine Bod.go dc_304_28 rfl ?_
  refine Bod.sw (t := 401) dc_304_29 rfl rfl (by rw [sw8]; decide +kernel) ?_
  refine Bod.go dc_304_401 rfl ?_
  refine Bod.virt (r := []) dc_304_402 kr_304_436 ⟨Or.inl rfl, ow_305, cl_14⟩ (by rw [np_305]; rfl) (by rw [np_305]; rfl) (ob_of (mk_61 _)) (Nat.le_of_ble_eq_true rfl) (c1  ) ?_
  show Bod _ _ _ _ [_] _ _ _
  exact Bod.retZ dc_304_405 rt_304 (Or.inl rfl)
theorem zSi_20 {d : Nat} {S : cS} {k : Nat} {e67 : Nat} {e68 : Nat} {S1 : cS} (hk : sI S 6115 = nI k) (mk : k < 6001) (he67 : sA S 67 k = nI e67) (me67 : e67 < 2 ^ 20) (b1 : e67 = 2) (he68 : sA S 68 k = nI e68) (me68 : e68 < 2 ^ 20) (sw8 : e68 = 21) (c1 : Ans (d + 8) 305 [.ref 61] S (some (.int (nI 1))) S1) : Bod (d + 8) 304 0 [(0, .ref 61)] [] S (some (.int 1)) (S1) := by
  refine Bod.go dc_304_0 rfl ?_
  refine Bod.get dc_304_1 fr_304_129 (mk_61 _) rfl ?_
  refine Bod.go dc_304_4 rfl ?_
  refine Bod.get dc_304_5 fr_304_190 (mk_61 _) rfl ?_
  refine Bod.eqI (nI k) (by first | assumption | rfl | exact congrArg nI (by omega) | (simp (disch := omega) only [rI, rIe, rA, rIA, rLA, rJA, rVI, rQI, rVA, rQA, upd_at,  rAI, rLI, rJI, nI_add, pk_sub, kc_0, kc_1, kc_2, kc_3, kc_4, kc_5, reduceIte, Nat.reduceEqDiff, Nat.add_zero, rI_hold, rI_hold, rL_hold, hk]; done)) ?_
  refine Bod.ialdN k rfl (by omega) (by omega) dc_304_8 (mk_67 _) ?_
  refine Bod.eqI (nI e67) (by first | assumption | rfl | exact congrArg nI (by omega) | (simp (disch := omega) only [rI, rIe, rA, rIA, rLA, rJA, rVI, rQI, rVA, rQA, upd_at,  rAI, rLI, rJI, nI_add, pk_sub, kc_0, kc_1, kc_2, kc_3, kc_4, kc_5, reduceIte, Nat.reduceEqDiff, Nat.add_zero, rI_hold, rI_hold, rL_hold, hk, he67]; done)) ?_
  refine Bod.ic 2 (by decide) dc_304_9 ?_
  refine Bod.icT dc_304_10 rfl (k2_eq_T (k_eq e67 2 rfl rfl (by omega))) ?_
  refine Bod.go dc_304_18 rfl ?_
  refine Bod.get dc_304_19 fr_304_135 (mk_61 _) rfl ?_
  refine Bod.go dc_304_22 rfl ?_
  refine Bod.get dc_304_23 fr_304_190 (mk_61 _) rfl ?_
  refine Bod.eqI (nI k) (by first | assumption | rfl | exact congrArg nI (by omega) | (simp (disch := omega) only [rI, rIe, rA, rIA, rLA, rJA, rVI, rQI, rVA, rQA, upd_at,  rAI, rLI, rJI, nI_add, pk_sub, kc_0, kc_1, kc_2, kc_3, kc_4, kc_5, reduceIte, Nat.reduceEqDiff, Nat.add_zero, rI_hold, rI_hold, rL_hold, hk, he67]; done)) ?_
  refine Bod.ialdN k rfl (by omega) (by omega) dc_304_26 (mk_68 _) ?_
  refine Bod.eqI (nI e68) (by first | assumption | rfl | exact congrArg nI (by omega) | (simp (disch := omega) only [rI, rIe, rA, rIA, rLA, rJA, rVI, rQI, rVA, rQA, upd_at,  rAI, rLI, rJI, nI_add, pk_sub, kc_0, kc_1, kc_2, kc_3, kc_4, kc_5, reduceIte, Nat.reduceEqDiff, Nat.add_zero, rI_hold, rI_hold, rL_hold, hk, he67, he68]; done)) ?_
  refine Bod.istn dc_304_27 (by rw [ml_304]; exact Nat.le_of_ble_eq_true rfl) ?_
  refine Bod.go dc_304_28 rfl ?_
  refine Bod.sw (t := 401) dc_304_29 rfl rfl (by rw [sw8]; decide +kernel) ?_
  refine Bod.go dc_304_401 rfl ?_
  refine Bod.virt (r := []) dc_304_402 kr_304_436 ⟨Or.inl rfl, ow_305, cl_14⟩ (by rw [np_305]; rfl) (by rw [np_305]; rfl) (ob_of (mk_61 _)) (Nat.le_of_ble_eq_true rfl) (c1  ) ?_
  show Bod _ _ _ _ [_] _ _ _
  exact Bod.retZ dc_304_405 rt_304 (Or.inr rfl)
theorem zSi_21 {d : Nat} {S : cS} {k : Nat} {e67 : Nat} {e68 : Nat} {S1 : cS} (hk : sI S 6115 = nI k) (mk : k < 6001) (he67 : sA S 67 k = nI e67) (me67 : e67 < 2 ^ 20) (b1 : e67 = 2) (he68 : sA S 68 k = nI e68) (me68 : e68 < 2 ^ 20) (sw8 : e68 = 21) (c1 : Ans (d + 8) 305 [.ref 61] S (some (.int (nI 0))) S1) : Bod (d + 8) 304 0 [(0, .ref 61)] [] S (some (.int 0)) (S1) := by
  refine Bod.go dc_304_0 rfl ?_
  refine Bod.get dc_304_1 fr_304_129 (mk_61 _) rfl ?_
  refine Bod.go dc_304_4 rfl ?_
  refine Bod.get dc_304_5 fr_304_190 (mk_61 _) rfl ?_
  refine Bod.eqI (nI k) (by first | assumption | rfl | exact congrArg nI (by omega) | (simp (disch := omega) only [rI, rIe, rA, rIA, rLA, rJA, rVI, rQI, rVA, rQA, upd_at,  rAI, rLI, rJI, nI_add, pk_sub, kc_0, kc_1, kc_2, kc_3, kc_4, kc_5, reduceIte, Nat.reduceEqDiff, Nat.add_zero, rI_hold, rI_hold, rL_hold, hk]; done)) ?_
  refine Bod.ialdN k rfl (by omega) (by omega) dc_304_8 (mk_67 _) ?_
  refine Bod.eqI (nI e67) (by first | assumption | rfl | exact congrArg nI (by omega) | (simp (disch := omega) only [rI, rIe, rA, rIA, rLA, rJA, rVI, rQI, rVA, rQA, upd_at,  rAI, rLI, rJI, nI_add, pk_sub, kc_0, kc_1, kc_2, kc_3, kc_4, kc_5, reduceIte, Nat.reduceEqDiff, Nat.add_zero, rI_hold, rI_hold, rL_hold, hk, he67]; done)) ?_
  refine Bod.ic 2 (by decide) dc_304_9 ?_
  refine Bod.icT dc_304_10 rfl (k2_eq_T (k_eq e67 2 rfl rfl (by omega))) ?_
  refine Bod.go dc_304_18 rfl ?_
  refine Bod.get dc_304_19 fr_304_135 (mk_61 _) rfl ?_
  refine Bod.go dc_304_22 rfl ?_
  refine Bod.get dc_304_23 fr_304_190 (mk_61 _) rfl ?_
  refine Bod.eqI (nI k) (by first | assumption | rfl | exact congrArg nI (by omega) | (simp (disch := omega) only [rI, rIe, rA, rIA, rLA, rJA, rVI, rQI, rVA, rQA, upd_at,  rAI, rLI, rJI, nI_add, pk_sub, kc_0, kc_1, kc_2, kc_3, kc_4, kc_5, reduceIte, Nat.reduceEqDiff, Nat.add_zero, rI_hold, rI_hold, rL_hold, hk, he67]; done)) ?_
  refine Bod.ialdN k rfl (by omega) (by omega) dc_304_26 (mk_68 _) ?_
  refine Bod.eqI (nI e68) (by first | assumption | rfl | exact congrArg nI (by omega) | (simp (disch := omega) only [rI, rIe, rA, rIA, rLA, rJA, rVI, rQI, rVA, rQA, upd_at,  rAI, rLI, rJI, nI_add, pk_sub, kc_0, kc_1, kc_2, kc_3, kc_4, kc_5, reduceIte, Nat.reduceEqDiff, Nat.add_zero, rI_hold, rI_hold, rL_hold, hk, he67, he68]; done)) ?_
  refine Bod.istn dc_304_27 (by rw [ml_304]; exact Nat.le_of_ble_eq_true rfl) ?_
  refine Bod.go dc_304_28 rfl ?_
  refine Bod.sw (t := 401) dc_304_29 rfl rfl (by rw [sw8]; decide +kernel) ?_
  refine Bod.go dc_304_401 rfl ?_
  refine Bod.virt (r := []) dc_304_402 kr_304_436 ⟨Or.inl rfl, ow_305, cl_14⟩ (by rw [np_305]; rfl) (by rw [np_305]; rfl) (ob_of (mk_61 _)) (Nat.le_of_ble_eq_true rfl) (c1  ) ?_
  show Bod _ _ _ _ [_] _ _ _
  exact Bod.retZ dc_304_405 rt_304 (Or.inl rfl)
theorem zSi_22 {d : Nat} {S : cS} {k : Nat} {e67 : Nat} {e68 : Nat} {S1 : cS} (hk : sI S 6115 = nI k) (mk : k < 6001) (he67 : sA S 67 k = nI e67) (me67 : e67 < 2 ^ 20) (b1 : e67 = 2) (he68 : sA S 68 k = nI e68) (me68 : e68 < 2 ^ 20) (sw8 : e68 = 22) (c1 : Ans (d + 8) 305 [.ref 61] S (some (.int (nI 1))) S1) : Bod (d + 8) 304 0 [(0, .ref 61)] [] S (some (.int 1)) (S1) := by
  refine Bod.go dc_304_0 rfl ?_
  refine Bod.get dc_304_1 fr_304_129 (mk_61 _) rfl ?_
  refine Bod.go dc_304_4 rfl ?_
  refine Bod.get dc_304_5 fr_304_190 (mk_61 _) rfl ?_
  refine Bod.eqI (nI k) (by first | assumption | rfl | exact congrArg nI (by omega) | (simp (disch := omega) only [rI, rIe, rA, rIA, rLA, rJA, rVI, rQI, rVA, rQA, upd_at,  rAI, rLI, rJI, nI_add, pk_sub, kc_0, kc_1, kc_2, kc_3, kc_4, kc_5, reduceIte, Nat.reduceEqDiff, Nat.add_zero, rI_hold, rI_hold, rL_hold, hk]; done)) ?_
  refine Bod.ialdN k rfl (by omega) (by omega) dc_304_8 (mk_67 _) ?_
  refine Bod.eqI (nI e67) (by first | assumption | rfl | exact congrArg nI (by omega) | (simp (disch := omega) only [rI, rIe, rA, rIA, rLA, rJA, rVI, rQI, rVA, rQA, upd_at,  rAI, rLI, rJI, nI_add, pk_sub, kc_0, kc_1, kc_2, kc_3, kc_4, kc_5, reduceIte, Nat.reduceEqDiff, Nat.add_zero, rI_hold, rI_hold, rL_hold, hk, he67]; done)) ?_
  refine Bod.ic 2 (by decide) dc_304_9 ?_
  refine Bod.icT dc_304_10 rfl (k2_eq_T (k_eq e67 2 rfl rfl (by omega))) ?_
  refine Bod.go dc_304_18 rfl ?_
  refine Bod.get dc_304_19 fr_304_135 (mk_61 _) rfl ?_
  refine Bod.go dc_304_22 rfl ?_
  refine Bod.get dc_304_23 fr_304_190 (mk_61 _) rfl ?_
  refine Bod.eqI (nI k) (by first | assumption | rfl | exact congrArg nI (by omega) | (simp (disch := omega) only [rI, rIe, rA, rIA, rLA, rJA, rVI, rQI, rVA, rQA, upd_at,  rAI, rLI, rJI, nI_add, pk_sub, kc_0, kc_1, kc_2, kc_3, kc_4, kc_5, reduceIte, Nat.reduceEqDiff, Nat.add_zero, rI_hold, rI_hold, rL_hold, hk, he67]; done)) ?_
  refine Bod.ialdN k rfl (by omega) (by omega) dc_304_26 (mk_68 _) ?_
  refine Bod.eqI (nI e68) (by first | assumption | rfl | exact congrArg nI (by omega) | (simp (disch := omega) only [rI, rIe, rA, rIA, rLA, rJA, rVI, rQI, rVA, rQA, upd_at,  rAI, rLI, rJI, nI_add, pk_sub, kc_0, kc_1, kc_2, kc_3, kc_4, kc_5, reduceIte, Nat.reduceEqDiff, Nat.add_zero, rI_hold, rI_hold, rL_hold, hk, he67, he68]; done)) ?_
  refine Bod.istn dc_304_27 (by rw [ml_304]; exact Nat.le_of_ble_eq_true rfl) ?_
  refine Bod.go dc_304_28 rfl ?_
  refine Bod.sw (t := 401) dc_304_29 rfl rfl (by rw [sw8]; decide +kernel) ?_
  refine Bod.go dc_304_401 rfl ?_
  refine Bod.virt (r := []) dc_304_402 kr_304_436 ⟨Or.inl rfl, ow_305, cl_14⟩ (by rw [np_305]; rfl) (by rw [np_305]; rfl) (ob_of (mk_61 _)) (Nat.le_of_ble_eq_true rfl) (c1  ) ?_
  show Bod _ _ _ _ [_] _ _ _
  exact Bod.retZ dc_304_405 rt_304 (Or.inr rfl)
theorem zSi_23 {d : Nat} {S : cS} {k : Nat} {e67 : Nat} {e68 : Nat} {S1 : cS} (hk : sI S 6115 = nI k) (mk : k < 6001) (he67 : sA S 67 k = nI e67) (me67 : e67 < 2 ^ 20) (b1 : e67 = 2) (he68 : sA S 68 k = nI e68) (me68 : e68 < 2 ^ 20) (sw8 : e68 = 22) (c1 : Ans (d + 8) 305 [.ref 61] S (some (.int (nI 0))) S1) : Bod (d + 8) 304 0 [(0, .ref 61)] [] S (some (.int 0)) (S1) := by
  refine Bod.go dc_304_0 rfl ?_
  refine Bod.get dc_304_1 fr_304_129 (mk_61 _) rfl ?_
  refine Bod.go dc_304_4 rfl ?_
  refine Bod.get dc_304_5 fr_304_190 (mk_61 _) rfl ?_
  refine Bod.eqI (nI k) (by first | assumption | rfl | exact congrArg nI (by omega) | (simp (disch := omega) only [rI, rIe, rA, rIA, rLA, rJA, rVI, rQI, rVA, rQA, upd_at,  rAI, rLI, rJI, nI_add, pk_sub, kc_0, kc_1, kc_2, kc_3, kc_4, kc_5, reduceIte, Nat.reduceEqDiff, Nat.add_zero, rI_hold, rI_hold, rL_hold, hk]; done)) ?_
  refine Bod.ialdN k rfl (by omega) (by omega) dc_304_8 (mk_67 _) ?_
  refine Bod.eqI (nI e67) (by first | assumption | rfl | exact congrArg nI (by omega) | (simp (disch := omega) only [rI, rIe, rA, rIA, rLA, rJA, rVI, rQI, rVA, rQA, upd_at,  rAI, rLI, rJI, nI_add, pk_sub, kc_0, kc_1, kc_2, kc_3, kc_4, kc_5, reduceIte, Nat.reduceEqDiff, Nat.add_zero, rI_hold, rI_hold, rL_hold, hk, he67]; done)) ?_
  refine Bod.ic 2 (by decide) dc_304_9 ?_
  refine Bod.icT dc_304_10 rfl (k2_eq_T (k_eq e67 2 rfl rfl (by omega))) ?_
  refine Bod.go dc_304_18 rfl ?_
  refine Bod.get dc_304_19 fr_304_135 (mk_61 _) rfl ?_
  refine Bod.go dc_304_22 rfl ?_
  refine Bod.get dc_304_23 fr_304_190 (mk_61 _) rfl ?_
  refine Bod.eqI (nI k) (by first | assumption | rfl | exact congrArg nI (by omega) | (simp (disch := omega) only [rI, rIe, rA, rIA, rLA, rJA, rVI, rQI, rVA, rQA, upd_at,  rAI, rLI, rJI, nI_add, pk_sub, kc_0, kc_1, kc_2, kc_3, kc_4, kc_5, reduceIte, Nat.reduceEqDiff, Nat.add_zero, rI_hold, rI_hold, rL_hold, hk, he67]; done)) ?_
  refine Bod.ialdN k rfl (by omega) (by omega) dc_304_26 (mk_68 _) ?_
  refine Bod.eqI (nI e68) (by first | assumption | rfl | exact congrArg nI (by omega) | (simp (disch := omega) only [rI, rIe, rA, rIA, rLA, rJA, rVI, rQI, rVA, rQA, upd_at,  rAI, rLI, rJI, nI_add, pk_sub, kc_0, kc_1, kc_2, kc_3, kc_4, kc_5, reduceIte, Nat.reduceEqDiff, Nat.add_zero, rI_hold, rI_hold, rL_hold, hk, he67, he68]; done)) ?_
  refine Bod.istn dc_304_27 (by rw [ml_304]; exact Nat.le_of_ble_eq_true rfl) ?_
  refine Bod.go dc_304_28 rfl ?_
  refine Bod.sw (t := 401) dc_304_29 rfl rfl (by rw [sw8]; decide +kernel) ?_
  refine Bod.go dc_304_401 rfl ?_
  refine Bod.virt (r := []) dc_304_402 kr_304_436 ⟨Or.inl rfl, ow_305, cl_14⟩ (by rw [np_305]; rfl) (by rw [np_305]; rfl) (ob_of (mk_61 _)) (Nat.le_of_ble_eq_true rfl) (c1  ) ?_
  show Bod _ _ _ _ [_] _ _ _
  exact Bod.retZ dc_304_405 rt_304 (Or.inl rfl)
theorem zSi_24 {d : Nat} {S : cS} {k : Nat} {e67 : Nat} {e68 : Nat} {S1 : cS} (hk : sI S 6115 = nI k) (mk : k < 6001) (he67 : sA S 67 k = nI e67) (me67 : e67 < 2 ^ 20) (b1 : e67 = 2) (he68 : sA S 68 k = nI e68) (me68 : e68 < 2 ^ 20) (sw8 : e68 = 23) (c1 : Ans (d + 8) 305 [.ref 61] S (some (.int (nI 1))) S1) : Bod (d + 8) 304 0 [(0, .ref 61)] [] S (some (.int 1)) (S1) := by
  refine Bod.go dc_304_0 rfl ?_
  refine Bod.get dc_304_1 fr_304_129 (mk_61 _) rfl ?_
  refine Bod.go dc_304_4 rfl ?_
  refine Bod.get dc_304_5 fr_304_190 (mk_61 _) rfl ?_
  refine Bod.eqI (nI k) (by first | assumption | rfl | exact congrArg nI (by omega) | (simp (disch := omega) only [rI, rIe, rA, rIA, rLA, rJA, rVI, rQI, rVA, rQA, upd_at,  rAI, rLI, rJI, nI_add, pk_sub, kc_0, kc_1, kc_2, kc_3, kc_4, kc_5, reduceIte, Nat.reduceEqDiff, Nat.add_zero, rI_hold, rI_hold, rL_hold, hk]; done)) ?_
  refine Bod.ialdN k rfl (by omega) (by omega) dc_304_8 (mk_67 _) ?_
  refine Bod.eqI (nI e67) (by first | assumption | rfl | exact congrArg nI (by omega) | (simp (disch := omega) only [rI, rIe, rA, rIA, rLA, rJA, rVI, rQI, rVA, rQA, upd_at,  rAI, rLI, rJI, nI_add, pk_sub, kc_0, kc_1, kc_2, kc_3, kc_4, kc_5, reduceIte, Nat.reduceEqDiff, Nat.add_zero, rI_hold, rI_hold, rL_hold, hk, he67]; done)) ?_
  refine Bod.ic 2 (by decide) dc_304_9 ?_
  refine Bod.icT dc_304_10 rfl (k2_eq_T (k_eq e67 2 rfl rfl (by omega))) ?_
  refine Bod.go dc_304_18 rfl ?_
  refine Bod.get dc_304_19 fr_304_135 (mk_61 _) rfl ?_
  refine Bod.go dc_304_22 rfl ?_
  refine Bod.get dc_304_23 fr_304_190 (mk_61 _) rfl ?_
  refine Bod.eqI (nI k) (by first | assumption | rfl | exact congrArg nI (by omega) | (simp (disch := omega) only [rI, rIe, rA, rIA, rLA, rJA, rVI, rQI, rVA, rQA, upd_at,  rAI, rLI, rJI, nI_add, pk_sub, kc_0, kc_1, kc_2, kc_3, kc_4, kc_5, reduceIte, Nat.reduceEqDiff, Nat.add_zero, rI_hold, rI_hold, rL_hold, hk, he67]; done)) ?_
  refine Bod.ialdN k rfl (by omega) (by omega) dc_304_26 (mk_68 _) ?_
  refine Bod.eqI (nI e68) (by first | assumption | rfl | exact congrArg nI (by omega) | (simp (disch := omega) only [rI, rIe, rA, rIA, rLA, rJA, rVI, rQI, rVA, rQA, upd_at,  rAI, rLI, rJI, nI_add, pk_sub, kc_0, kc_1, kc_2, kc_3, kc_4, kc_5, reduceIte, Nat.reduceEqDiff, Nat.add_zero, rI_hold, rI_hold, rL_hold, hk, he67, he68]; done)) ?_
  refine Bod.istn dc_304_27 (by rw [ml_304]; exact Nat.le_of_ble_eq_true rfl) ?_
  refine Bod.go dc_304_28 rfl ?_
  refine Bod.sw (t := 401) dc_304_29 rfl rfl (by rw [sw8]; decide +kernel) ?_
  refine Bod.go dc_304_401 rfl ?_
  refine Bod.virt (r := []) dc_304_402 kr_304_436 ⟨Or.inl rfl, ow_305, cl_14⟩ (by rw [np_305]; rfl) (by rw [np_305]; rfl) (ob_of (mk_61 _)) (Nat.le_of_ble_eq_true rfl) (c1  ) ?_
  show Bod _ _ _ _ [_] _ _ _
  exact Bod.retZ dc_304_405 rt_304 (Or.inr rfl)
theorem zSi_25 {d : Nat} {S : cS} {k : Nat} {e67 : Nat} {e68 : Nat} {S1 : cS} (hk : sI S 6115 = nI k) (mk : k < 6001) (he67 : sA S 67 k = nI e67) (me67 : e67 < 2 ^ 20) (b1 : e67 = 2) (he68 : sA S 68 k = nI e68) (me68 : e68 < 2 ^ 20) (sw8 : e68 = 23) (c1 : Ans (d + 8) 305 [.ref 61] S (some (.int (nI 0))) S1) : Bod (d + 8) 304 0 [(0, .ref 61)] [] S (some (.int 0)) (S1) := by
  refine Bod.go dc_304_0 rfl ?_
  refine Bod.get dc_304_1 fr_304_129 (mk_61 _) rfl ?_
  refine Bod.go dc_304_4 rfl ?_
  refine Bod.get dc_304_5 fr_304_190 (mk_61 _) rfl ?_
  refine Bod.eqI (nI k) (by first | assumption | rfl | exact congrArg nI (by omega) | (simp (disch := omega) only [rI, rIe, rA, rIA, rLA, rJA, rVI, rQI, rVA, rQA, upd_at,  rAI, rLI, rJI, nI_add, pk_sub, kc_0, kc_1, kc_2, kc_3, kc_4, kc_5, reduceIte, Nat.reduceEqDiff, Nat.add_zero, rI_hold, rI_hold, rL_hold, hk]; done)) ?_
  refine Bod.ialdN k rfl (by omega) (by omega) dc_304_8 (mk_67 _) ?_
  refine Bod.eqI (nI e67) (by first | assumption | rfl | exact congrArg nI (by omega) | (simp (disch := omega) only [rI, rIe, rA, rIA, rLA, rJA, rVI, rQI, rVA, rQA, upd_at,  rAI, rLI, rJI, nI_add, pk_sub, kc_0, kc_1, kc_2, kc_3, kc_4, kc_5, reduceIte, Nat.reduceEqDiff, Nat.add_zero, rI_hold, rI_hold, rL_hold, hk, he67]; done)) ?_
  refine Bod.ic 2 (by decide) dc_304_9 ?_
  refine Bod.icT dc_304_10 rfl (k2_eq_T (k_eq e67 2 rfl rfl (by omega))) ?_
  refine Bod.go dc_304_18 rfl ?_
  refine Bod.get dc_304_19 fr_304_135 (mk_61 _) rfl ?_
  refine Bod.go dc_304_22 rfl ?_
  refine Bod.get dc_304_23 fr_304_190 (mk_61 _) rfl ?_
  refine Bod.eqI (nI k) (by first | assumption | rfl | exact congrArg nI (by omega) | (simp (disch := omega) only [rI, rIe, rA, rIA, rLA, rJA, rVI, rQI, rVA, rQA, upd_at,  rAI, rLI, rJI, nI_add, pk_sub, kc_0, kc_1, kc_2, kc_3, kc_4, kc_5, reduceIte, Nat.reduceEqDiff, Nat.add_zero, rI_hold, rI_hold, rL_hold, hk, he67]; done)) ?_
  refine Bod.ialdN k rfl (by omega) (by omega) dc_304_26 (mk_68 _) ?_
  refine Bod.eqI (nI e68) (by first | assumption | rfl | exact congrArg nI (by omega) | (simp (disch := omega) only [rI, rIe, rA, rIA, rLA, rJA, rVI, rQI, rVA, rQA, upd_at,  rAI, rLI, rJI, nI_add, pk_sub, kc_0, kc_1, kc_2, kc_3, kc_4, kc_5, reduceIte, Nat.reduceEqDiff, Nat.add_zero, rI_hold, rI_hold, rL_hold, hk, he67, he68]; done)) ?_
  refine Bod.istn dc_304_27 (by rw [ml_304]; exact Nat.le_of_ble_eq_true rfl) ?_
  refine Bod.go dc_304_28 rfl ?_
  refine Bod.sw (t := 401) dc_304_29 rfl rfl (by rw [sw8]; decide +kernel) ?_
  refine Bod.go dc_304_401 rfl ?_
  refine Bod.virt (r := []) dc_304_402 kr_304_436 ⟨Or.inl rfl, ow_305, cl_14⟩ (by rw [np_305]; rfl) (by rw [np_305]; rfl) (ob_of (mk_61 _)) (Nat.le_of_ble_eq_true rfl) (c1  ) ?_
  show Bod _ _ _ _ [_] _ _ _
  exact Bod.retZ dc_304_405 rt_304 (Or.inl rfl)
theorem zSi_26 {d : Nat} {S : cS} {k : Nat} {e67 : Nat} {e68 : Nat} {S1 : cS} (hk : sI S 6115 = nI k) (mk : k < 6001) (he67 : sA S 67 k = nI e67) (me67 : e67 < 2 ^ 20) (b1 : e67 = 2) (he68 : sA S 68 k = nI e68) (me68 : e68 < 2 ^ 20) (b64 : e68 < 64) (n8 : e68 ≠ 8) (n9 : e68 ≠ 9) (n10 : e68 ≠ 10) (n11 : e68 ≠ 11) (n12 : e68 ≠ 12) (n13 : e68 ≠ 13) (n16 : e68 ≠ 16) (n19 : e68 ≠ 19) (n21 : e68 ≠ 21) (n22 : e68 ≠ 22) (n23 : e68 ≠ 23) (c1 : Ans (d + 8) 299 [.ref 61] S (some (.int (nI 0))) S1) : Bod (d + 8) 304 0 [(0, .ref 61)] [] S (some (.int 0)) (S1) := by
  refine Bod.go dc_304_0 rfl ?_
  refine Bod.get dc_304_1 fr_304_129 (mk_61 _) rfl ?_
  refine Bod.go dc_304_4 rfl ?_
  refine Bod.get dc_304_5 fr_304_190 (mk_61 _) rfl ?_
  refine Bod.eqI (nI k) (by first | assumption | rfl | exact congrArg nI (by omega) | (simp (disch := omega) only [rI, rIe, rA, rIA, rLA, rJA, rVI, rQI, rVA, rQA, upd_at,  rAI, rLI, rJI, nI_add, pk_sub, kc_0, kc_1, kc_2, kc_3, kc_4, kc_5, reduceIte, Nat.reduceEqDiff, Nat.add_zero, rI_hold, rI_hold, rL_hold, hk]; done)) ?_
  refine Bod.ialdN k rfl (by omega) (by omega) dc_304_8 (mk_67 _) ?_
  refine Bod.eqI (nI e67) (by first | assumption | rfl | exact congrArg nI (by omega) | (simp (disch := omega) only [rI, rIe, rA, rIA, rLA, rJA, rVI, rQI, rVA, rQA, upd_at,  rAI, rLI, rJI, nI_add, pk_sub, kc_0, kc_1, kc_2, kc_3, kc_4, kc_5, reduceIte, Nat.reduceEqDiff, Nat.add_zero, rI_hold, rI_hold, rL_hold, hk, he67]; done)) ?_
  refine Bod.ic 2 (by decide) dc_304_9 ?_
  refine Bod.icT dc_304_10 rfl (k2_eq_T (k_eq e67 2 rfl rfl (by omega))) ?_
  refine Bod.go dc_304_18 rfl ?_
  refine Bod.get dc_304_19 fr_304_135 (mk_61 _) rfl ?_
  refine Bod.go dc_304_22 rfl ?_
  refine Bod.get dc_304_23 fr_304_190 (mk_61 _) rfl ?_
  refine Bod.eqI (nI k) (by first | assumption | rfl | exact congrArg nI (by omega) | (simp (disch := omega) only [rI, rIe, rA, rIA, rLA, rJA, rVI, rQI, rVA, rQA, upd_at,  rAI, rLI, rJI, nI_add, pk_sub, kc_0, kc_1, kc_2, kc_3, kc_4, kc_5, reduceIte, Nat.reduceEqDiff, Nat.add_zero, rI_hold, rI_hold, rL_hold, hk, he67]; done)) ?_
  refine Bod.ialdN k rfl (by omega) (by omega) dc_304_26 (mk_68 _) ?_
  refine Bod.eqI (nI e68) (by first | assumption | rfl | exact congrArg nI (by omega) | (simp (disch := omega) only [rI, rIe, rA, rIA, rLA, rJA, rVI, rQI, rVA, rQA, upd_at,  rAI, rLI, rJI, nI_add, pk_sub, kc_0, kc_1, kc_2, kc_3, kc_4, kc_5, reduceIte, Nat.reduceEqDiff, Nat.add_zero, rI_hold, rI_hold, rL_hold, hk, he67, he68]; done)) ?_
  refine Bod.istn dc_304_27 (by rw [ml_304]; exact Nat.le_of_ble_eq_true rfl) ?_
  refine Bod.go dc_304_28 rfl ?_
  refine Bod.sw (t := 406) dc_304_29 rfl rfl (((((((((((((xsw_304_29 e68 b64).resolve_left n8).resolve_left n9).resolve_left n10).resolve_left n11).resolve_left n12).resolve_left n13).resolve_left n16).resolve_left n19).resolve_left n21).resolve_left n22).resolve_left n23)) ?_
  refine Bod.go dc_304_406 rfl ?_
  refine Bod.virt (r := []) dc_304_407 kr_304_202 ⟨Or.inl rfl, ow_299, cl_14⟩ (by rw [np_299]; rfl) (by rw [np_299]; rfl) (ob_of (mk_61 _)) (Nat.le_of_ble_eq_true rfl) (c1  ) ?_
  show Bod _ _ _ _ [_] _ _ _
  exact Bod.retZ dc_304_410 rt_304 (Or.inl rfl)
theorem zSi_27 {d : Nat} {S : cS} {k : Nat} {e67 : Nat} {S1 : cS} (hk : sI S 6115 = nI k) (mk : k < 6001) (he67 : sA S 67 k = nI e67) (me67 : e67 < 2 ^ 20) (b1 : e67 ≠ 2) (c1 : Ans (d + 8) 305 [.ref 61] S (some (.int (nI 1))) S1) : Bod (d + 8) 304 0 [(0, .ref 61)] [] S (some (.int 1)) (S1) := by
  refine Bod.go dc_304_0 rfl ?_
  refine Bod.get dc_304_1 fr_304_129 (mk_61 _) rfl ?_
  refine Bod.go dc_304_4 rfl ?_
  refine Bod.get dc_304_5 fr_304_190 (mk_61 _) rfl ?_
  refine Bod.eqI (nI k) (by first | assumption | rfl | exact congrArg nI (by omega) | (simp (disch := omega) only [rI, rIe, rA, rIA, rLA, rJA, rVI, rQI, rVA, rQA, upd_at,  rAI, rLI, rJI, nI_add, pk_sub, kc_0, kc_1, kc_2, kc_3, kc_4, kc_5, reduceIte, Nat.reduceEqDiff, Nat.add_zero, rI_hold, rI_hold, rL_hold, hk]; done)) ?_
  refine Bod.ialdN k rfl (by omega) (by omega) dc_304_8 (mk_67 _) ?_
  refine Bod.eqI (nI e67) (by first | assumption | rfl | exact congrArg nI (by omega) | (simp (disch := omega) only [rI, rIe, rA, rIA, rLA, rJA, rVI, rQI, rVA, rQA, upd_at,  rAI, rLI, rJI, nI_add, pk_sub, kc_0, kc_1, kc_2, kc_3, kc_4, kc_5, reduceIte, Nat.reduceEqDiff, Nat.add_zero, rI_hold, rI_hold, rL_hold, hk, he67]; done)) ?_
  refine Bod.ic 2 (by decide) dc_304_9 ?_
  refine Bod.icF dc_304_10 rfl (k2_eq_F (k_ne e67 2 rfl rfl (by omega) (by omega) (by omega))) ?_
  refine Bod.go dc_304_13 rfl ?_
  refine Bod.virt (r := []) dc_304_14 kr_304_436 ⟨Or.inl rfl, ow_305, cl_14⟩ (by rw [np_305]; rfl) (by rw [np_305]; rfl) (ob_of (mk_61 _)) (Nat.le_of_ble_eq_true rfl) (c1  ) ?_
  show Bod _ _ _ _ [_] _ _ _
  exact Bod.retZ dc_304_17 rt_304 (Or.inr rfl)
theorem zSi_28 {d : Nat} {S : cS} {k : Nat} {e67 : Nat} {S1 : cS} (hk : sI S 6115 = nI k) (mk : k < 6001) (he67 : sA S 67 k = nI e67) (me67 : e67 < 2 ^ 20) (b1 : e67 ≠ 2) (c1 : Ans (d + 8) 305 [.ref 61] S (some (.int (nI 0))) S1) : Bod (d + 8) 304 0 [(0, .ref 61)] [] S (some (.int 0)) (S1) := by
  refine Bod.go dc_304_0 rfl ?_
  refine Bod.get dc_304_1 fr_304_129 (mk_61 _) rfl ?_
  refine Bod.go dc_304_4 rfl ?_
  refine Bod.get dc_304_5 fr_304_190 (mk_61 _) rfl ?_
  refine Bod.eqI (nI k) (by first | assumption | rfl | exact congrArg nI (by omega) | (simp (disch := omega) only [rI, rIe, rA, rIA, rLA, rJA, rVI, rQI, rVA, rQA, upd_at,  rAI, rLI, rJI, nI_add, pk_sub, kc_0, kc_1, kc_2, kc_3, kc_4, kc_5, reduceIte, Nat.reduceEqDiff, Nat.add_zero, rI_hold, rI_hold, rL_hold, hk]; done)) ?_
  refine Bod.ialdN k rfl (by omega) (by omega) dc_304_8 (mk_67 _) ?_
  refine Bod.eqI (nI e67) (by first | assumption | rfl | exact congrArg nI (by omega) | (simp (disch := omega) only [rI, rIe, rA, rIA, rLA, rJA, rVI, rQI, rVA, rQA, upd_at,  rAI, rLI, rJI, nI_add, pk_sub, kc_0, kc_1, kc_2, kc_3, kc_4, kc_5, reduceIte, Nat.reduceEqDiff, Nat.add_zero, rI_hold, rI_hold, rL_hold, hk, he67]; done)) ?_
  refine Bod.ic 2 (by decide) dc_304_9 ?_
  refine Bod.icF dc_304_10 rfl (k2_eq_F (k_ne e67 2 rfl rfl (by omega) (by omega) (by omega))) ?_
  refine Bod.go dc_304_13 rfl ?_
  refine Bod.virt (r := []) dc_304_14 kr_304_436 ⟨Or.inl rfl, ow_305, cl_14⟩ (by rw [np_305]; rfl) (by rw [np_305]; rfl) (ob_of (mk_61 _)) (Nat.le_of_ble_eq_true rfl) (c1  ) ?_
  show Bod _ _ _ _ [_] _ _ _
  exact Bod.retZ dc_304_17 rt_304 (Or.inl rfl)
theorem zLv_1 {d : Nat} {S Sf : cS} {v : Option Value} {lv : sm_L} {lw : Nat} {li : Nat} {tr : Nat} (q0 : sm_get lv 0 = some (.ref 61)) (q1 : sm_get lv 1 = some (.int (nI lw))) (q2 : sm_get lv 2 = some (.int (nI li))) (mlw : lw < 2 ^ 20) (mli : li < 2 ^ 20) (htr : sI S 6127 = nI tr) (mtr : tr < 14) (b1 : tr ≤ li) (b2 : lw ≠ 10) (hB : ∀ lv1 : sm_L, sm_get lv1 0 = some (.ref 61) → Bod (d + 8) 304 308 lv1 [] (S) v Sf) : Bod (d + 8) 304 263 lv [] S v Sf := by
  refine Bod.ildnG dc_304_263 (by repeat (first | exact q2 | exact sm_get_p1 | exact sm_get_p2e | refine sm_get_p1m (by decide) (by decide) ?_ | refine sm_get_p1n (by decide) rfl ?_ | refine sm_get_p2n (by decide) (by decide) rfl ?_)) ?_
  refine Bod.aldnG dc_304_264 (by repeat (first | exact q0 | exact sm_get_p1 | exact sm_get_p2e | refine sm_get_p1m (by decide) (by decide) ?_ | refine sm_get_p1n (by decide) rfl ?_ | refine sm_get_p2n (by decide) (by decide) rfl ?_)) ?_
  refine Bod.get dc_304_265 fr_304_245 (mk_61 _) rfl ?_
  refine Bod.eqI (nI tr) (by first | assumption | rfl | exact congrArg nI (by omega) | (simp (disch := omega) only [rI, rIe, rA, rIA, rLA, rJA, rVI, rQI, rVA, rQA, upd_at,  rAI, rLI, rJI, nI_add, pk_sub, kc_0, kc_1, kc_2, kc_3, kc_4, kc_5, reduceIte, Nat.reduceEqDiff, Nat.add_zero, rI_hold, rI_hold, rL_hold, htr]; done)) ?_
  refine Bod.icT dc_304_268 rfl (k2_ge_T li tr rfl rfl (by omega) (by omega)) ?_
  refine Bod.ildnG dc_304_283 (by repeat (first | exact q1 | exact sm_get_p1 | exact sm_get_p2e | refine sm_get_p1m (by decide) (by decide) ?_ | refine sm_get_p1n (by decide) rfl ?_ | refine sm_get_p2n (by decide) (by decide) rfl ?_)) ?_
  refine Bod.bip 10 (by decide) dc_304_284 ?_
  refine Bod.icT dc_304_286 rfl (k2_ne_T (k_ne lw 10 rfl rfl (by omega) (by omega) (by omega))) ?_
  exact hB _ (by repeat (first | exact q0 | exact sm_get_p1 | exact sm_get_p2e | refine sm_get_p1m (by decide) (by decide) ?_ | refine sm_get_p1n (by decide) rfl ?_ | refine sm_get_p2n (by decide) (by decide) rfl ?_))
theorem zLv_2 {d : Nat} {S : cS} {lv : sm_L} {lw : Nat} {li : Nat} {tr : Nat} {L : Nat} {e77 : Nat} {S1 : cS} (q0 : sm_get lv 0 = some (.ref 61)) (q1 : sm_get lv 1 = some (.int (nI lw))) (q2 : sm_get lv 2 = some (.int (nI li))) (mlw : lw < 2 ^ 20) (mli : li < 2 ^ 20) (htr : sI S 6127 = nI tr) (mtr : tr < 14) (b1 : tr ≤ li) (b2 : lw = 10) (hL : sI S 6126 = nI L) (mL : L < 30) (b3 : 1 ≤ L) (he77 : sA S 77 (L - 1) = nI e77) (me77 : e77 < 2 ^ 20) (c1 : Ans (d + 8) 329 [.ref 61, .int (nI 11), .int (nI e77)] S none S1) : Bod (d + 8) 304 263 lv [] S (some (.int 1)) (S1) := by
  refine Bod.ildnG dc_304_263 (by repeat (first | exact q2 | exact sm_get_p1 | exact sm_get_p2e | refine sm_get_p1m (by decide) (by decide) ?_ | refine sm_get_p1n (by decide) rfl ?_ | refine sm_get_p2n (by decide) (by decide) rfl ?_)) ?_
  refine Bod.aldnG dc_304_264 (by repeat (first | exact q0 | exact sm_get_p1 | exact sm_get_p2e | refine sm_get_p1m (by decide) (by decide) ?_ | refine sm_get_p1n (by decide) rfl ?_ | refine sm_get_p2n (by decide) (by decide) rfl ?_)) ?_
  refine Bod.get dc_304_265 fr_304_245 (mk_61 _) rfl ?_
  refine Bod.eqI (nI tr) (by first | assumption | rfl | exact congrArg nI (by omega) | (simp (disch := omega) only [rI, rIe, rA, rIA, rLA, rJA, rVI, rQI, rVA, rQA, upd_at,  rAI, rLI, rJI, nI_add, pk_sub, kc_0, kc_1, kc_2, kc_3, kc_4, kc_5, reduceIte, Nat.reduceEqDiff, Nat.add_zero, rI_hold, rI_hold, rL_hold, htr]; done)) ?_
  refine Bod.icT dc_304_268 rfl (k2_ge_T li tr rfl rfl (by omega) (by omega)) ?_
  refine Bod.ildnG dc_304_283 (by repeat (first | exact q1 | exact sm_get_p1 | exact sm_get_p2e | refine sm_get_p1m (by decide) (by decide) ?_ | refine sm_get_p1n (by decide) rfl ?_ | refine sm_get_p2n (by decide) (by decide) rfl ?_)) ?_
  refine Bod.bip 10 (by decide) dc_304_284 ?_
  refine Bod.icF dc_304_286 rfl (k2_ne_F (k_eq lw 10 rfl rfl (by omega))) ?_
  refine Bod.aldnG dc_304_289 (by repeat (first | exact q0 | exact sm_get_p1 | exact sm_get_p2e | refine sm_get_p1m (by decide) (by decide) ?_ | refine sm_get_p1n (by decide) rfl ?_ | refine sm_get_p2n (by decide) (by decide) rfl ?_)) ?_
  refine Bod.bip 11 (by decide) dc_304_290 ?_
  refine Bod.aldnG dc_304_292 (by repeat (first | exact q0 | exact sm_get_p1 | exact sm_get_p2e | refine sm_get_p1m (by decide) (by decide) ?_ | refine sm_get_p1n (by decide) rfl ?_ | refine sm_get_p2n (by decide) (by decide) rfl ?_)) ?_
  refine Bod.get dc_304_293 fr_304_320 (mk_61 _) rfl ?_
  refine Bod.aldnG dc_304_296 (by repeat (first | exact q0 | exact sm_get_p1 | exact sm_get_p2e | refine sm_get_p1m (by decide) (by decide) ?_ | refine sm_get_p1n (by decide) rfl ?_ | refine sm_get_p2n (by decide) (by decide) rfl ?_)) ?_
  refine Bod.get dc_304_297 fr_304_242 (mk_61 _) rfl ?_
  refine Bod.eqI (nI L) (by first | assumption | rfl | exact congrArg nI (by omega) | (simp (disch := omega) only [rI, rIe, rA, rIA, rLA, rJA, rVI, rQI, rVA, rQA, upd_at,  rAI, rLI, rJI, nI_add, pk_sub, kc_0, kc_1, kc_2, kc_3, kc_4, kc_5, reduceIte, Nat.reduceEqDiff, Nat.add_zero, rI_hold, rI_hold, rL_hold, htr, hL]; done)) ?_
  refine Bod.ic 1 (by decide) dc_304_300 ?_
  refine Bod.subN (L - 1) (by omega) (by omega) dc_304_301 ?_
  refine Bod.ialdN (L - 1) rfl (by omega) (by omega) dc_304_302 (mk_77 _) ?_
  refine Bod.eqI (nI e77) (by first | assumption | rfl | exact congrArg nI (by omega) | (simp (disch := omega) only [rI, rIe, rA, rIA, rLA, rJA, rVI, rQI, rVA, rQA, upd_at,  rAI, rLI, rJI, nI_add, pk_sub, kc_0, kc_1, kc_2, kc_3, kc_4, kc_5, reduceIte, Nat.reduceEqDiff, Nat.add_zero, rI_hold, rI_hold, rL_hold, htr, hL, he77]; done)) ?_
  refine Bod.virt (r := []) dc_304_303 kr_304_335 ⟨Or.inl rfl, ow_329, cl_14⟩ (by rw [np_329]; rfl) (by rw [np_329]; rfl) (ob_of (mk_61 _)) (Nat.le_of_ble_eq_true rfl) (c1  ) ?_
  show Bod _ _ _ _ [] _ _ _
  refine Bod.ic 1 (by decide) dc_304_306 ?_
  exact Bod.retZ dc_304_307 rt_304 (Or.inr rfl)
theorem zLv_3 {d : Nat} {S : cS} {lv : sm_L} {lw : Nat} {li : Nat} {tr : Nat} {L : Nat} {S1 : cS} (q0 : sm_get lv 0 = some (.ref 61)) (q1 : sm_get lv 1 = some (.int (nI lw))) (q2 : sm_get lv 2 = some (.int (nI li))) (mlw : lw < 2 ^ 20) (mli : li < 2 ^ 20) (htr : sI S 6127 = nI tr) (mtr : tr < 14) (b1 : tr ≤ li) (b2 : lw = 10) (hL : sI S 6126 = nI L) (mL : L < 30) (b3 : 1 ≤ L) (n4 : sA S 77 (L - 1) = Int32.ofInt (-1)) (c1 : Ans (d + 8) 329 [.ref 61, .int (nI 11), .int (Int32.ofInt (-1))] S none S1) : Bod (d + 8) 304 263 lv [] S (some (.int 1)) (S1) := by
  refine Bod.ildnG dc_304_263 (by repeat (first | exact q2 | exact sm_get_p1 | exact sm_get_p2e | refine sm_get_p1m (by decide) (by decide) ?_ | refine sm_get_p1n (by decide) rfl ?_ | refine sm_get_p2n (by decide) (by decide) rfl ?_)) ?_
  refine Bod.aldnG dc_304_264 (by repeat (first | exact q0 | exact sm_get_p1 | exact sm_get_p2e | refine sm_get_p1m (by decide) (by decide) ?_ | refine sm_get_p1n (by decide) rfl ?_ | refine sm_get_p2n (by decide) (by decide) rfl ?_)) ?_
  refine Bod.get dc_304_265 fr_304_245 (mk_61 _) rfl ?_
  refine Bod.eqI (nI tr) (by first | assumption | rfl | exact congrArg nI (by omega) | (simp (disch := omega) only [rI, rIe, rA, rIA, rLA, rJA, rVI, rQI, rVA, rQA, upd_at,  rAI, rLI, rJI, nI_add, pk_sub, kc_0, kc_1, kc_2, kc_3, kc_4, kc_5, reduceIte, Nat.reduceEqDiff, Nat.add_zero, rI_hold, rI_hold, rL_hold, htr]; done)) ?_
  refine Bod.icT dc_304_268 rfl (k2_ge_T li tr rfl rfl (by omega) (by omega)) ?_
  refine Bod.ildnG dc_304_283 (by repeat (first | exact q1 | exact sm_get_p1 | exact sm_get_p2e | refine sm_get_p1m (by decide) (by decide) ?_ | refine sm_get_p1n (by decide) rfl ?_ | refine sm_get_p2n (by decide) (by decide) rfl ?_)) ?_
  refine Bod.bip 10 (by decide) dc_304_284 ?_
  refine Bod.icF dc_304_286 rfl (k2_ne_F (k_eq lw 10 rfl rfl (by omega))) ?_
  refine Bod.aldnG dc_304_289 (by repeat (first | exact q0 | exact sm_get_p1 | exact sm_get_p2e | refine sm_get_p1m (by decide) (by decide) ?_ | refine sm_get_p1n (by decide) rfl ?_ | refine sm_get_p2n (by decide) (by decide) rfl ?_)) ?_
  refine Bod.bip 11 (by decide) dc_304_290 ?_
  refine Bod.aldnG dc_304_292 (by repeat (first | exact q0 | exact sm_get_p1 | exact sm_get_p2e | refine sm_get_p1m (by decide) (by decide) ?_ | refine sm_get_p1n (by decide) rfl ?_ | refine sm_get_p2n (by decide) (by decide) rfl ?_)) ?_
  refine Bod.get dc_304_293 fr_304_320 (mk_61 _) rfl ?_
  refine Bod.aldnG dc_304_296 (by repeat (first | exact q0 | exact sm_get_p1 | exact sm_get_p2e | refine sm_get_p1m (by decide) (by decide) ?_ | refine sm_get_p1n (by decide) rfl ?_ | refine sm_get_p2n (by decide) (by decide) rfl ?_)) ?_
  refine Bod.get dc_304_297 fr_304_242 (mk_61 _) rfl ?_
  refine Bod.eqI (nI L) (by first | assumption | rfl | exact congrArg nI (by omega) | (simp (disch := omega) only [rI, rIe, rA, rIA, rLA, rJA, rVI, rQI, rVA, rQA, upd_at,  rAI, rLI, rJI, nI_add, pk_sub, kc_0, kc_1, kc_2, kc_3, kc_4, kc_5, reduceIte, Nat.reduceEqDiff, Nat.add_zero, rI_hold, rI_hold, rL_hold, htr, hL]; done)) ?_
  refine Bod.ic 1 (by decide) dc_304_300 ?_
  refine Bod.subN (L - 1) (by omega) (by omega) dc_304_301 ?_
  refine Bod.ialdN (L - 1) rfl (by omega) (by omega) dc_304_302 (mk_77 _) ?_
  refine Bod.eqI (Int32.ofInt (-1)) (by first | assumption | rfl | exact congrArg nI (by omega) | (simp (disch := omega) only [rI, rIe, rA, rIA, rLA, rJA, rVI, rQI, rVA, rQA, upd_at,  rAI, rLI, rJI, nI_add, pk_sub, kc_0, kc_1, kc_2, kc_3, kc_4, kc_5, reduceIte, Nat.reduceEqDiff, Nat.add_zero, rI_hold, rI_hold, rL_hold, htr, hL, n4]; done)) ?_
  refine Bod.virt (r := []) dc_304_303 kr_304_335 ⟨Or.inl rfl, ow_329, cl_14⟩ (by rw [np_329]; rfl) (by rw [np_329]; rfl) (ob_of (mk_61 _)) (Nat.le_of_ble_eq_true rfl) (c1  ) ?_
  show Bod _ _ _ _ [] _ _ _
  refine Bod.ic 1 (by decide) dc_304_306 ?_
  exact Bod.retZ dc_304_307 rt_304 (Or.inr rfl)
theorem zLv_4 {d : Nat} {S Sf : cS} {v : Option Value} {lv : sm_L} {lw : Nat} {li : Nat} {tr : Nat} {S1 : cS} (q0 : sm_get lv 0 = some (.ref 61)) (q1 : sm_get lv 1 = some (.int (nI lw))) (q2 : sm_get lv 2 = some (.int (nI li))) (mlw : lw < 2 ^ 20) (mli : li < 2 ^ 20) (htr : sI S 6127 = nI tr) (mtr : tr < 14) (b1 : li < tr) (c1 : Ans (d + 8) 322 [.ref 61, .int (nI 35)] S none S1) (hB : ∀ lv1 : sm_L, sm_get lv1 0 = some (.ref 61) → sm_get lv1 1 = some (.int (nI lw)) → sm_get lv1 2 = some (.int (nI (li + 1))) → Bod (d + 8) 304 263 lv1 [] (S1) v Sf) : Bod (d + 8) 304 263 lv [] S v Sf := by
  refine Bod.ildnG dc_304_263 (by repeat (first | exact q2 | exact sm_get_p1 | exact sm_get_p2e | refine sm_get_p1m (by decide) (by decide) ?_ | refine sm_get_p1n (by decide) rfl ?_ | refine sm_get_p2n (by decide) (by decide) rfl ?_)) ?_
  refine Bod.aldnG dc_304_264 (by repeat (first | exact q0 | exact sm_get_p1 | exact sm_get_p2e | refine sm_get_p1m (by decide) (by decide) ?_ | refine sm_get_p1n (by decide) rfl ?_ | refine sm_get_p2n (by decide) (by decide) rfl ?_)) ?_
  refine Bod.get dc_304_265 fr_304_245 (mk_61 _) rfl ?_
  refine Bod.eqI (nI tr) (by first | assumption | rfl | exact congrArg nI (by omega) | (simp (disch := omega) only [rI, rIe, rA, rIA, rLA, rJA, rVI, rQI, rVA, rQA, upd_at,  rAI, rLI, rJI, nI_add, pk_sub, kc_0, kc_1, kc_2, kc_3, kc_4, kc_5, reduceIte, Nat.reduceEqDiff, Nat.add_zero, rI_hold, rI_hold, rL_hold, htr]; done)) ?_
  refine Bod.icF dc_304_268 rfl (k2_ge_F li tr rfl rfl (by omega) (by omega)) ?_
  refine Bod.aldnG dc_304_271 (by repeat (first | exact q0 | exact sm_get_p1 | exact sm_get_p2e | refine sm_get_p1m (by decide) (by decide) ?_ | refine sm_get_p1n (by decide) rfl ?_ | refine sm_get_p2n (by decide) (by decide) rfl ?_)) ?_
  refine Bod.bip 35 (by decide) dc_304_272 ?_
  refine Bod.virt (r := []) dc_304_274 kr_304_269 ⟨Or.inl rfl, ow_322, cl_14⟩ (by rw [np_322]; rfl) (by rw [np_322]; rfl) (ob_of (mk_61 _)) (Nat.le_of_ble_eq_true rfl) (c1  ) ?_
  show Bod _ _ _ _ [] _ _ _
  refine Bod.incN (li + 1) (by rw [kc_1, nI_add]) dc_304_277 (by rw [ml_304]; exact Nat.le_of_ble_eq_true rfl) (by repeat (first | exact q2 | exact sm_get_p1 | exact sm_get_p2e | refine sm_get_p1m (by decide) (by decide) ?_ | refine sm_get_p1n (by decide) rfl ?_ | refine sm_get_p2n (by decide) (by decide) rfl ?_)) ?_
  refine Bod.go dc_304_280 rfl ?_
  exact hB _ (by repeat (first | exact q0 | exact sm_get_p1 | exact sm_get_p2e | refine sm_get_p1m (by decide) (by decide) ?_ | refine sm_get_p1n (by decide) rfl ?_ | refine sm_get_p2n (by decide) (by decide) rfl ?_)) (by repeat (first | exact q1 | exact sm_get_p1 | exact sm_get_p2e | refine sm_get_p1m (by decide) (by decide) ?_ | refine sm_get_p1n (by decide) rfl ?_ | refine sm_get_p2n (by decide) (by decide) rfl ?_)) (by repeat (first | exact q0 | exact sm_get_p1 | exact sm_get_p2e | refine sm_get_p1m (by decide) (by decide) ?_ | refine sm_get_p1n (by decide) rfl ?_ | refine sm_get_p2n (by decide) (by decide) rfl ?_))
theorem zLg_1 {d : Nat} {S Sf : cS} {v : Option Value} {lv : sm_L} {nb : Nat} {g : Nat} {N : Nat} (q0 : sm_get lv 0 = some (.ref 61)) (hnb : sI S 6130 = nI nb) (mnb : nb < 3000) (hv1 : sV S (6128) = .ref g) (hg1 : isK S g 0 N) (mN : N < 2 ^ 20) (b1 : nb ≠ N) (hB : ∀ lv1 : sm_L, sm_get lv1 0 = some (.ref 61) → Bod (d + 8) 304 354 lv1 [] (S) v Sf) : Bod (d + 8) 304 308 lv [] S v Sf := by
  refine Bod.aldnG dc_304_308 (by repeat (first | exact q0 | exact sm_get_p1 | exact sm_get_p2e | refine sm_get_p1m (by decide) (by decide) ?_ | refine sm_get_p1n (by decide) rfl ?_ | refine sm_get_p2n (by decide) (by decide) rfl ?_)) ?_
  refine Bod.get dc_304_309 fr_304_248 (mk_61 _) rfl ?_
  refine Bod.eqI (nI nb) (by first | assumption | rfl | exact congrArg nI (by omega) | (simp (disch := omega) only [rI, rIe, rA, rIA, rLA, rJA, rVI, rQI, rVA, rQA, upd_at,  rAI, rLI, rJI, nI_add, pk_sub, kc_0, kc_1, kc_2, kc_3, kc_4, kc_5, reduceIte, Nat.reduceEqDiff, Nat.add_zero, rI_hold, rI_hold, rL_hold, hnb]; done)) ?_
  refine Bod.aldnG dc_304_312 (by repeat (first | exact q0 | exact sm_get_p1 | exact sm_get_p2e | refine sm_get_p1m (by decide) (by decide) ?_ | refine sm_get_p1n (by decide) rfl ?_ | refine sm_get_p2n (by decide) (by decide) rfl ?_)) ?_
  refine Bod.get dc_304_313 fr_304_329 (mk_61 _) rfl ?_
  refine Bod.eqV (.ref g) (by first | exact hv1 | (simp only [rIV, rJV, rAV, rLV, rQV, rV, reduceIte, Nat.reduceEqDiff]; exact hv1)) ?_
  refine Bod.alenN (N := N) dc_304_316 (mk_isI (by first | exact hg1 | exact isK_S (by simp only [rIS, rJS, rAS, rLS, rVS, rQS, rS_hold]) hg1)) el_0 ?_
  refine Bod.icT dc_304_317 rfl (k2_ne_T (k_ne nb N rfl rfl (by omega) (by omega) (by omega))) ?_
  exact hB _ (by repeat (first | exact q0 | exact sm_get_p1 | exact sm_get_p2e | refine sm_get_p1m (by decide) (by decide) ?_ | refine sm_get_p1n (by decide) rfl ?_ | refine sm_get_p2n (by decide) (by decide) rfl ?_))
theorem zLg_2 {d : Nat} {S Sf : cS} {v : Option Value} {lv : sm_L} {nb : Nat} {g : Nat} {N : Nat} {S1 : cS} {z : Nat} {g1 : Nat} {N1 : Nat} {nb1 : Nat} {S2 : cS} {z1 : Nat} (q0 : sm_get lv 0 = some (.ref 61)) (hnb : sI S 6130 = nI nb) (mnb : nb < 3000) (hv1 : sV S (6128) = .ref g) (hg1 : isK S g 0 N) (mN : N < 2 ^ 20) (b1 : nb = N) (c1 : Ans (d + 8) 296 [.ref g, .int (nI (2 * nb))] S (some (.ref z)) S1) (hv2 : sV S1 (6129) = .ref g1) (hg2 : isK S1 g1 0 N1) (mN1 : N1 < 2 ^ 20) (hnb1 : sI (wV 6128 (.ref z) S1) 6130 = nI nb1) (mnb1 : nb1 < 3000) (c2 : Ans (d + 8) 296 [.ref g1, .int (nI (2 * nb1))] (wV 6128 (.ref z) S1) (some (.ref z1)) S2) (hB : ∀ lv1 : sm_L, sm_get lv1 0 = some (.ref 61) → Bod (d + 8) 304 354 lv1 [] (wV 6129 (.ref z1) S2) v Sf) : Bod (d + 8) 304 308 lv [] S v Sf := by
  refine Bod.aldnG dc_304_308 (by repeat (first | exact q0 | exact sm_get_p1 | exact sm_get_p2e | refine sm_get_p1m (by decide) (by decide) ?_ | refine sm_get_p1n (by decide) rfl ?_ | refine sm_get_p2n (by decide) (by decide) rfl ?_)) ?_
  refine Bod.get dc_304_309 fr_304_248 (mk_61 _) rfl ?_
  refine Bod.eqI (nI nb) (by first | assumption | rfl | exact congrArg nI (by omega) | (simp (disch := omega) only [rI, rIe, rA, rIA, rLA, rJA, rVI, rQI, rVA, rQA, upd_at,  rAI, rLI, rJI, nI_add, pk_sub, kc_0, kc_1, kc_2, kc_3, kc_4, kc_5, reduceIte, Nat.reduceEqDiff, Nat.add_zero, rI_hold, rI_hold, rL_hold, hnb]; done)) ?_
  refine Bod.aldnG dc_304_312 (by repeat (first | exact q0 | exact sm_get_p1 | exact sm_get_p2e | refine sm_get_p1m (by decide) (by decide) ?_ | refine sm_get_p1n (by decide) rfl ?_ | refine sm_get_p2n (by decide) (by decide) rfl ?_)) ?_
  refine Bod.get dc_304_313 fr_304_329 (mk_61 _) rfl ?_
  refine Bod.eqV (.ref g) (by first | exact hv1 | (simp only [rIV, rJV, rAV, rLV, rQV, rV, reduceIte, Nat.reduceEqDiff]; exact hv1)) ?_
  refine Bod.alenN (N := N) dc_304_316 (mk_isI (by first | exact hg1 | exact isK_S (by simp only [rIS, rJS, rAS, rLS, rVS, rQS, rS_hold]) hg1)) el_0 ?_
  refine Bod.icF dc_304_317 rfl (k2_ne_F (k_eq nb N rfl rfl (by omega))) ?_
  refine Bod.aldnG dc_304_320 (by repeat (first | exact q0 | exact sm_get_p1 | exact sm_get_p2e | refine sm_get_p1m (by decide) (by decide) ?_ | refine sm_get_p1n (by decide) rfl ?_ | refine sm_get_p2n (by decide) (by decide) rfl ?_)) ?_
  refine Bod.aldnG dc_304_321 (by repeat (first | exact q0 | exact sm_get_p1 | exact sm_get_p2e | refine sm_get_p1m (by decide) (by decide) ?_ | refine sm_get_p1n (by decide) rfl ?_ | refine sm_get_p2n (by decide) (by decide) rfl ?_)) ?_
  refine Bod.get dc_304_322 fr_304_329 (mk_61 _) rfl ?_
  refine Bod.eqV (.ref g) (by first | exact hv1 | (simp only [rIV, rJV, rAV, rLV, rQV, rV, reduceIte, Nat.reduceEqDiff]; exact hv1)) ?_
  refine Bod.ic 2 (by decide) dc_304_325 ?_
  refine Bod.aldnG dc_304_326 (by repeat (first | exact q0 | exact sm_get_p1 | exact sm_get_p2e | refine sm_get_p1m (by decide) (by decide) ?_ | refine sm_get_p1n (by decide) rfl ?_ | refine sm_get_p2n (by decide) (by decide) rfl ?_)) ?_
  refine Bod.get dc_304_327 fr_304_248 (mk_61 _) rfl ?_
  refine Bod.eqI (nI nb) (by first | assumption | rfl | exact congrArg nI (by omega) | (simp (disch := omega) only [rI, rIe, rA, rIA, rLA, rJA, rVI, rQI, rVA, rQA, upd_at,  rAI, rLI, rJI, nI_add, pk_sub, kc_0, kc_1, kc_2, kc_3, kc_4, kc_5, reduceIte, Nat.reduceEqDiff, Nat.add_zero, rI_hold, rI_hold, rL_hold, hnb]; done)) ?_
  refine Bod.mulN (2 * nb) (by omega) dc_304_330 ?_
  refine Bod.stat (r := [_]) dc_304_331 kr_304_21 (Or.inl rfl) (by rw [np_296]; rfl) (by rw [np_296]; rfl) (by rw [np_296]; exact Nat.le_of_ble_eq_true rfl) (Nat.le_of_ble_eq_true rfl) (c1  ) ?_
  show Bod _ _ _ _ [_, _] _ _ _
  refine Bod.put dc_304_334 fr_304_329 (mk_61 _) (Nat.le_of_ble_eq_true rfl) pr_14_28 (st_6128 _ _) (mu_V _ _ _) ?_
  refine Bod.aldnG dc_304_337 (by repeat (first | exact q0 | exact sm_get_p1 | exact sm_get_p2e | refine sm_get_p1m (by decide) (by decide) ?_ | refine sm_get_p1n (by decide) rfl ?_ | refine sm_get_p2n (by decide) (by decide) rfl ?_)) ?_
  refine Bod.aldnG dc_304_338 (by repeat (first | exact q0 | exact sm_get_p1 | exact sm_get_p2e | refine sm_get_p1m (by decide) (by decide) ?_ | refine sm_get_p1n (by decide) rfl ?_ | refine sm_get_p2n (by decide) (by decide) rfl ?_)) ?_
  refine Bod.get dc_304_339 fr_304_326 (mk_61 _) rfl ?_
  refine Bod.eqV (.ref g1) (by first | exact hv2 | (simp only [rIV, rJV, rAV, rLV, rQV, rV, reduceIte, Nat.reduceEqDiff]; exact hv2)) ?_
  refine Bod.ic 2 (by decide) dc_304_342 ?_
  refine Bod.aldnG dc_304_343 (by repeat (first | exact q0 | exact sm_get_p1 | exact sm_get_p2e | refine sm_get_p1m (by decide) (by decide) ?_ | refine sm_get_p1n (by decide) rfl ?_ | refine sm_get_p2n (by decide) (by decide) rfl ?_)) ?_
  refine Bod.get dc_304_344 fr_304_248 (mk_61 _) rfl ?_
  refine Bod.eqI (nI nb1) (by first | (simp (disch := omega) only [rI, rIe, rA, rIA, rLA, rJA, rVI, rQI, rVA, rQA, upd_at,  rAI, rLI, rJI, nI_add, pk_sub, kc_0, kc_1, kc_2, kc_3, kc_4, kc_5, reduceIte, Nat.reduceEqDiff, Nat.add_zero, rI_hold, rI_hold, rL_hold, hnb, hnb1]; done) | (simp (disch := omega) only [rI, rIe, rA, rIA, rLA, rJA, rVI, rQI, rVA, rQA, upd_at,  rAI, rLI, rJI, nI_add, pk_sub, kc_0, kc_1, kc_2, kc_3, kc_4, kc_5, reduceIte, Nat.reduceEqDiff, Nat.add_zero, rI_hold, rI_hold, rL_hold, hnb, hnb1]; exact congrArg nI (by omega))) ?_
  refine Bod.mulN (2 * nb1) (by omega) dc_304_347 ?_
  refine Bod.stat (r := [_]) dc_304_348 kr_304_21 (Or.inl rfl) (by rw [np_296]; rfl) (by rw [np_296]; rfl) (by rw [np_296]; exact Nat.le_of_ble_eq_true rfl) (Nat.le_of_ble_eq_true rfl) (c2  ) ?_
  show Bod _ _ _ _ [_, _] _ _ _
  refine Bod.put dc_304_351 fr_304_326 (mk_61 _) (Nat.le_of_ble_eq_true rfl) pr_14_29 (st_6129 _ _) (mu_V _ _ _) ?_
  exact hB _ (by repeat (first | exact q0 | exact sm_get_p1 | exact sm_get_p2e | refine sm_get_p1m (by decide) (by decide) ?_ | refine sm_get_p1n (by decide) rfl ?_ | refine sm_get_p2n (by decide) (by decide) rfl ?_))
theorem zLw_1 {d : Nat} {S : cS} {lv : sm_L} {g : Nat} {N : Nat} {nb : Nat} {S1 : cS} {a : Nat} {g1 : Nat} {N1 : Nat} {nb1 : Nat} {L : Nat} (q0 : sm_get lv 0 = some (.ref 61)) (hv1 : sV S (6128) = .ref g) (hg1 : isK S g 0 N) (mN : N < 2 ^ 20) (hnb : sI S 6130 = nI nb) (mnb : nb < 3000) (ma : a < 2 ^ 20) (c1 : Ans (d + 8) 325 [.ref 61, .int (nI 11)] S (some (.int (nI a))) S1) (b1 : nb < N) (hy2 : isK S1 g 0 N) (hv3 : sV S1 (6129) = .ref g1) (hg3 : isK S1 g1 0 N1) (mN1 : N1 < 2 ^ 20) (hnb1 : sI (wA g nb (nI a) S1) 6130 = nI nb1) (mnb1 : nb1 < 3000) (hL : sI (wA g nb (nI a) S1) 6126 = nI L) (mL : L < 30) (b2 : 1 ≤ L) (b3 : nb1 < N1) : Bod (d + 8) 304 354 lv [] S (some (.int 1)) (wI 6130 (nI (nb1 + 1)) (wA g1 nb1 (nI (L - 1)) (wA g nb (nI a) S1))) := by
  refine Bod.aldnG dc_304_354 (by repeat (first | exact q0 | exact sm_get_p1 | exact sm_get_p2e | refine sm_get_p1m (by decide) (by decide) ?_ | refine sm_get_p1n (by decide) rfl ?_ | refine sm_get_p2n (by decide) (by decide) rfl ?_)) ?_
  refine Bod.get dc_304_355 fr_304_329 (mk_61 _) rfl ?_
  refine Bod.eqV (.ref g) (by first | exact hv1 | (simp only [rIV, rJV, rAV, rLV, rQV, rV, reduceIte, Nat.reduceEqDiff]; exact hv1)) ?_
  refine Bod.aldnG dc_304_358 (by repeat (first | exact q0 | exact sm_get_p1 | exact sm_get_p2e | refine sm_get_p1m (by decide) (by decide) ?_ | refine sm_get_p1n (by decide) rfl ?_ | refine sm_get_p2n (by decide) (by decide) rfl ?_)) ?_
  refine Bod.get dc_304_359 fr_304_248 (mk_61 _) rfl ?_
  refine Bod.eqI (nI nb) (by first | assumption | rfl | exact congrArg nI (by omega) | (simp (disch := omega) only [rI, rIe, rA, rIA, rLA, rJA, rVI, rQI, rVA, rQA, upd_at,  rAI, rLI, rJI, nI_add, pk_sub, kc_0, kc_1, kc_2, kc_3, kc_4, kc_5, reduceIte, Nat.reduceEqDiff, Nat.add_zero, rI_hold, rI_hold, rL_hold, hnb]; done)) ?_
  refine Bod.aldnG dc_304_362 (by repeat (first | exact q0 | exact sm_get_p1 | exact sm_get_p2e | refine sm_get_p1m (by decide) (by decide) ?_ | refine sm_get_p1n (by decide) rfl ?_ | refine sm_get_p2n (by decide) (by decide) rfl ?_)) ?_
  refine Bod.bip 11 (by decide) dc_304_363 ?_
  refine Bod.virt (r := [_, _]) dc_304_365 kr_304_305 ⟨Or.inl rfl, ow_325, cl_14⟩ (by rw [np_325]; rfl) (by rw [np_325]; rfl) (ob_of (mk_61 _)) (Nat.le_of_ble_eq_true rfl) (c1  ) ?_
  show Bod _ _ _ _ [_, _, _] _ _ _
  refine Bod.iastN (N := N) nb rfl (by omega) (by omega) dc_304_368 (mk_isI (by first | exact hy2 | exact isK_S (by simp only [rIS, rJS, rAS, rLS, rVS, rQS, rS_hold]) hy2)) (sa_isI (by first | exact hy2 | exact isK_S (by simp only [rIS, rJS, rAS, rLS, rVS, rQS, rS_hold]) hy2)) (mu_A _ _ _ _) ?_
  refine Bod.aldnG dc_304_369 (by repeat (first | exact q0 | exact sm_get_p1 | exact sm_get_p2e | refine sm_get_p1m (by decide) (by decide) ?_ | refine sm_get_p1n (by decide) rfl ?_ | refine sm_get_p2n (by decide) (by decide) rfl ?_)) ?_
  refine Bod.get dc_304_370 fr_304_326 (mk_61 _) rfl ?_
  refine Bod.eqV (.ref g1) (by first | exact hv3 | (simp only [rIV, rJV, rAV, rLV, rQV, rV, reduceIte, Nat.reduceEqDiff]; exact hv3)) ?_
  refine Bod.aldnG dc_304_373 (by repeat (first | exact q0 | exact sm_get_p1 | exact sm_get_p2e | refine sm_get_p1m (by decide) (by decide) ?_ | refine sm_get_p1n (by decide) rfl ?_ | refine sm_get_p2n (by decide) (by decide) rfl ?_)) ?_
  refine Bod.get dc_304_374 fr_304_248 (mk_61 _) rfl ?_
  refine Bod.eqI (nI nb1) (by first | (simp (disch := omega) only [rI, rIe, rA, rIA, rLA, rJA, rVI, rQI, rVA, rQA, upd_at,  rAI, rLI, rJI, nI_add, pk_sub, kc_0, kc_1, kc_2, kc_3, kc_4, kc_5, reduceIte, Nat.reduceEqDiff, Nat.add_zero, rI_hold, rI_hold, rL_hold, hnb, hnb1]; done) | (simp (disch := omega) only [rI, rIe, rA, rIA, rLA, rJA, rVI, rQI, rVA, rQA, upd_at,  rAI, rLI, rJI, nI_add, pk_sub, kc_0, kc_1, kc_2, kc_3, kc_4, kc_5, reduceIte, Nat.reduceEqDiff, Nat.add_zero, rI_hold, rI_hold, rL_hold, hnb, hnb1]; exact congrArg nI (by omega))) ?_
  refine Bod.aldnG dc_304_377 (by repeat (first | exact q0 | exact sm_get_p1 | exact sm_get_p2e | refine sm_get_p1m (by decide) (by decide) ?_ | refine sm_get_p1n (by decide) rfl ?_ | refine sm_get_p2n (by decide) (by decide) rfl ?_)) ?_
  refine Bod.get dc_304_378 fr_304_242 (mk_61 _) rfl ?_
  refine Bod.eqI (nI L) (by first | (simp (disch := omega) only [rI, rIe, rA, rIA, rLA, rJA, rVI, rQI, rVA, rQA, upd_at,  rAI, rLI, rJI, nI_add, pk_sub, kc_0, kc_1, kc_2, kc_3, kc_4, kc_5, reduceIte, Nat.reduceEqDiff, Nat.add_zero, rI_hold, rI_hold, rL_hold, hnb, hnb1, hL]; done) | (simp (disch := omega) only [rI, rIe, rA, rIA, rLA, rJA, rVI, rQI, rVA, rQA, upd_at,  rAI, rLI, rJI, nI_add, pk_sub, kc_0, kc_1, kc_2, kc_3, kc_4, kc_5, reduceIte, Nat.reduceEqDiff, Nat.add_zero, rI_hold, rI_hold, rL_hold, hnb, hnb1, hL]; exact congrArg nI (by omega))) ?_
  refine Bod.ic 1 (by decide) dc_304_381 ?_
  refine Bod.subN (L - 1) (by omega) (by omega) dc_304_382 ?_
  refine Bod.iastN (N := N1) nb1 rfl (by omega) (by omega) dc_304_383 (mk_isI (by first | exact hg3 | exact isK_S (by simp only [rIS, rJS, rAS, rLS, rVS, rQS, rS_hold]) hg3)) (sa_isI (by first | exact hg3 | exact isK_S (by simp only [rIS, rJS, rAS, rLS, rVS, rQS, rS_hold]) hg3)) (mu_A _ _ _ _) ?_
  refine Bod.aldnG dc_304_384 (by repeat (first | exact q0 | exact sm_get_p1 | exact sm_get_p2e | refine sm_get_p1m (by decide) (by decide) ?_ | refine sm_get_p1n (by decide) rfl ?_ | refine sm_get_p2n (by decide) (by decide) rfl ?_)) ?_
  refine Bod.go dc_304_385 rfl ?_
  refine Bod.get dc_304_386 fr_304_248 (mk_61 _) rfl ?_
  refine Bod.eqI (nI nb1) (by first | (simp (disch := omega) only [rI, rIe, rA, rIA, rLA, rJA, rVI, rQI, rVA, rQA, upd_at,  rAI, rLI, rJI, nI_add, pk_sub, kc_0, kc_1, kc_2, kc_3, kc_4, kc_5, reduceIte, Nat.reduceEqDiff, Nat.add_zero, rI_hold, rI_hold, rL_hold, hnb, hnb1, hL]; done) | (simp (disch := omega) only [rI, rIe, rA, rIA, rLA, rJA, rVI, rQI, rVA, rQA, upd_at,  rAI, rLI, rJI, nI_add, pk_sub, kc_0, kc_1, kc_2, kc_3, kc_4, kc_5, reduceIte, Nat.reduceEqDiff, Nat.add_zero, rI_hold, rI_hold, rL_hold, hnb, hnb1, hL]; exact congrArg nI (by omega))) ?_
  refine Bod.ic 1 (by decide) dc_304_389 ?_
  refine Bod.addN (nb1 + 1) (by omega) dc_304_390 ?_
  refine Bod.put dc_304_391 fr_304_248 (mk_61 _) (Nat.le_of_ble_eq_true rfl) pf_14_30 (st_6130 _ _) (mu_I _ _ _) ?_
  refine Bod.ic 1 (by decide) dc_304_394 ?_
  exact Bod.retZ dc_304_395 rt_304 (Or.inr rfl)
theorem zAs_1 {d : Nat} {S Sf : cS} {v : Option Value} {m : Nat} {u : Nat} {n1 : Nat} {S1 : cS} {tg : Nat} {k : Nat} (hm : 108 ≤ m) (hv1 : sV S 6114 = .ref m) (hz2 : (sS S)[m - 108]? = some (12, u)) (hn1 : sI S (100 * m + 1) = nI n1) (mn1 : n1 < 2 ^ 20) (c1 : Ans (d + 8) 306 [.ref 61, .int (nI 0)] S (some (.int (nI 1))) S1) (htg : sI S1 6131 = nI tg) (mtg : tg < 5) (hk : sI S1 6115 = nI k) (mk : k < 6001) (b1 : 1 ≤ k) (hB : ∀ lv1 : sm_L, sm_get lv1 0 = some (.ref 61) → sm_get lv1 1 = some (.int (nI n1)) → sm_get lv1 2 = some (.int (nI tg)) → sm_get lv1 3 = some (.int (sA S1 68 (k - 1))) → Bod (d + 8) 305 35 lv1 [] (S1) v Sf) : Bod (d + 8) 305 0 [(0, .ref 61)] [] S v Sf := by
  refine Bod.go dc_305_0 rfl ?_
  refine Bod.get dc_305_1 fr_305_206 (mk_61 _) rfl ?_
  refine Bod.eqV (.ref m) (by first | exact hv1 | (simp only [rIV, rJV, rAV, rLV, rQV, rV, reduceIte, Nat.reduceEqDiff]; exact hv1)) ?_
  refine Bod.get dc_305_4 fr_305_219 (mk_code hm (by first | exact hz2 | (simp only [rIS, rJS, rAS, rLS, rVS, rQS, rS_hold]; exact hz2))) rfl ?_
  refine Bod.eqI (nI n1) (by first | assumption | rfl | exact congrArg nI (by omega) | (simp (disch := omega) only [rI, rIe, rA, rIA, rLA, rJA, rVI, rQI, rVA, rQA, upd_at,  rAI, rLI, rJI, nI_add, pk_sub, kc_0, kc_1, kc_2, kc_3, kc_4, kc_5, reduceIte, Nat.reduceEqDiff, Nat.add_zero, rI_hold, rI_hold, rL_hold, hn1]; done)) ?_
  refine Bod.istn dc_305_7 (by rw [ml_305]; exact Nat.le_of_ble_eq_true rfl) ?_
  refine Bod.go dc_305_8 rfl ?_
  refine Bod.ic 0 (by decide) dc_305_9 ?_
  refine Bod.virt (r := []) dc_305_10 kr_305_302 ⟨Or.inl rfl, ow_306, cl_14⟩ (by rw [np_306]; rfl) (by rw [np_306]; rfl) (ob_of (mk_61 _)) (Nat.le_of_ble_eq_true rfl) (c1  ) ?_
  show Bod _ _ _ _ [_] _ _ _
  refine Bod.ifT dc_305_13 rfl (k1_ne_T (k_ne 1 0 rfl rfl (by omega) (by omega) (by omega))) ?_
  refine Bod.go dc_305_18 rfl ?_
  refine Bod.get dc_305_19 fr_305_397 (mk_61 _) rfl ?_
  refine Bod.eqI (nI tg) (by first | (simp (disch := omega) only [rI, rIe, rA, rIA, rLA, rJA, rVI, rQI, rVA, rQA, upd_at,  rAI, rLI, rJI, nI_add, pk_sub, kc_0, kc_1, kc_2, kc_3, kc_4, kc_5, reduceIte, Nat.reduceEqDiff, Nat.add_zero, rI_hold, rI_hold, rL_hold, hn1, htg]; done) | (simp (disch := omega) only [rI, rIe, rA, rIA, rLA, rJA, rVI, rQI, rVA, rQA, upd_at,  rAI, rLI, rJI, nI_add, pk_sub, kc_0, kc_1, kc_2, kc_3, kc_4, kc_5, reduceIte, Nat.reduceEqDiff, Nat.add_zero, rI_hold, rI_hold, rL_hold, hn1, htg]; exact congrArg nI (by omega))) ?_
  refine Bod.istn dc_305_22 (by rw [ml_305]; exact Nat.le_of_ble_eq_true rfl) ?_
  refine Bod.go dc_305_23 rfl ?_
  refine Bod.get dc_305_24 fr_305_135 (mk_61 _) rfl ?_
  refine Bod.go dc_305_27 rfl ?_
  refine Bod.get dc_305_28 fr_305_190 (mk_61 _) rfl ?_
  refine Bod.eqI (nI k) (by first | (simp (disch := omega) only [rI, rIe, rA, rIA, rLA, rJA, rVI, rQI, rVA, rQA, upd_at,  rAI, rLI, rJI, nI_add, pk_sub, kc_0, kc_1, kc_2, kc_3, kc_4, kc_5, reduceIte, Nat.reduceEqDiff, Nat.add_zero, rI_hold, rI_hold, rL_hold, hn1, htg, hk]; done) | (simp (disch := omega) only [rI, rIe, rA, rIA, rLA, rJA, rVI, rQI, rVA, rQA, upd_at,  rAI, rLI, rJI, nI_add, pk_sub, kc_0, kc_1, kc_2, kc_3, kc_4, kc_5, reduceIte, Nat.reduceEqDiff, Nat.add_zero, rI_hold, rI_hold, rL_hold, hn1, htg, hk]; exact congrArg nI (by omega))) ?_
  refine Bod.ic 1 (by decide) dc_305_31 ?_
  refine Bod.subN (k - 1) (by omega) (by omega) dc_305_32 ?_
  refine Bod.ialdN (k - 1) rfl (by omega) (by omega) dc_305_33 (mk_68 _) ?_
  refine Bod.istn dc_305_34 (by rw [ml_305]; exact Nat.le_of_ble_eq_true rfl) ?_
  exact hB _ (by first | rfl | exact (by repeat (first | exact rfl | exact sm_get_p1 | exact sm_get_p2e | refine sm_get_p1m (by decide) (by decide) ?_ | refine sm_get_p1n (by decide) rfl ?_ | refine sm_get_p2n (by decide) (by decide) rfl ?_))) (by first | rfl | exact (by repeat (first | exact rfl | exact sm_get_p1 | exact sm_get_p2e | refine sm_get_p1m (by decide) (by decide) ?_ | refine sm_get_p1n (by decide) rfl ?_ | refine sm_get_p2n (by decide) (by decide) rfl ?_))) (by first | rfl | exact (by repeat (first | exact rfl | exact sm_get_p1 | exact sm_get_p2e | refine sm_get_p1m (by decide) (by decide) ?_ | refine sm_get_p1n (by decide) rfl ?_ | refine sm_get_p2n (by decide) (by decide) rfl ?_))) (by first | rfl | exact (by repeat (first | exact rfl | exact sm_get_p1 | exact sm_get_p2e | refine sm_get_p1m (by decide) (by decide) ?_ | refine sm_get_p1n (by decide) rfl ?_ | refine sm_get_p2n (by decide) (by decide) rfl ?_)))
theorem zAs_2 {d : Nat} {S : cS} {m : Nat} {u : Nat} {n1 : Nat} {S1 : cS} (hm : 108 ≤ m) (hv1 : sV S 6114 = .ref m) (hz2 : (sS S)[m - 108]? = some (12, u)) (hn1 : sI S (100 * m + 1) = nI n1) (mn1 : n1 < 2 ^ 20) (c1 : Ans (d + 8) 306 [.ref 61, .int (nI 0)] S (some (.int (nI 0))) S1) : Bod (d + 8) 305 0 [(0, .ref 61)] [] S (some (.int 0)) (S1) := by
  refine Bod.go dc_305_0 rfl ?_
  refine Bod.get dc_305_1 fr_305_206 (mk_61 _) rfl ?_
  refine Bod.eqV (.ref m) (by first | exact hv1 | (simp only [rIV, rJV, rAV, rLV, rQV, rV, reduceIte, Nat.reduceEqDiff]; exact hv1)) ?_
  refine Bod.get dc_305_4 fr_305_219 (mk_code hm (by first | exact hz2 | (simp only [rIS, rJS, rAS, rLS, rVS, rQS, rS_hold]; exact hz2))) rfl ?_
  refine Bod.eqI (nI n1) (by first | assumption | rfl | exact congrArg nI (by omega) | (simp (disch := omega) only [rI, rIe, rA, rIA, rLA, rJA, rVI, rQI, rVA, rQA, upd_at,  rAI, rLI, rJI, nI_add, pk_sub, kc_0, kc_1, kc_2, kc_3, kc_4, kc_5, reduceIte, Nat.reduceEqDiff, Nat.add_zero, rI_hold, rI_hold, rL_hold, hn1]; done)) ?_
  refine Bod.istn dc_305_7 (by rw [ml_305]; exact Nat.le_of_ble_eq_true rfl) ?_
  refine Bod.go dc_305_8 rfl ?_
  refine Bod.ic 0 (by decide) dc_305_9 ?_
  refine Bod.virt (r := []) dc_305_10 kr_305_302 ⟨Or.inl rfl, ow_306, cl_14⟩ (by rw [np_306]; rfl) (by rw [np_306]; rfl) (ob_of (mk_61 _)) (Nat.le_of_ble_eq_true rfl) (c1  ) ?_
  show Bod _ _ _ _ [_] _ _ _
  refine Bod.ifF dc_305_13 rfl (k1_ne_F (k_eq 0 0 rfl rfl (by omega))) ?_
  refine Bod.ic 0 (by decide) dc_305_16 ?_
  exact Bod.retZ dc_305_17 rt_305 (Or.inl rfl)
theorem zDl_1 {d : Nat} {S : cS} {k : Nat} {S1 : cS} {k1 : Nat} {tg : Nat} {S2 : cS} {S3 : cS} (hk : sI S 6115 = nI k) (mk : k < 6001) (c1 : Ans (d + 8) 306 [.ref 61, .int (nI 0)] (wI 6115 (nI (k + 1)) S) (some (.int (nI 1))) S1) (hk1 : sI S1 6115 = nI k1) (mk1 : k1 < 6001) (b1 : 1 ≤ k1) (htg : sI S1 6131 = nI tg) (mtg : tg < 5) (b2 : tg ≠ 0) (c2 : Ans (d + 8) 327 [.ref 61] S1 none S2) (b3 : tg ≠ 1) (b4 : tg ≠ 2) (c3 : Ans (d + 8) 302 [.ref 61, .int (nI 26), .int (sA S1 68 (k1 - 1))] S2 none S3) : Bod (d + 8) 328 0 [(0, .ref 61)] [] S (some (.int 1)) (S3) := by
  refine Bod.go dc_328_0 rfl ?_
  refine Bod.go dc_328_1 rfl ?_
  refine Bod.get dc_328_2 fr_328_190 (mk_61 _) rfl ?_
  refine Bod.eqI (nI k) (by first | assumption | rfl | exact congrArg nI (by omega) | (simp (disch := omega) only [rI, rIe, rA, rIA, rLA, rJA, rVI, rQI, rVA, rQA, upd_at,  rAI, rLI, rJI, nI_add, pk_sub, kc_0, kc_1, kc_2, kc_3, kc_4, kc_5, reduceIte, Nat.reduceEqDiff, Nat.add_zero, rI_hold, rI_hold, rL_hold, hk]; done)) ?_
  refine Bod.ic 1 (by decide) dc_328_5 ?_
  refine Bod.addN (k + 1) (by omega) dc_328_6 ?_
  refine Bod.put dc_328_7 fr_328_190 (mk_61 _) (Nat.le_of_ble_eq_true rfl) pf_14_15 (st_6115 _ _) (mu_I _ _ _) ?_
  refine Bod.go dc_328_10 rfl ?_
  refine Bod.ic 0 (by decide) dc_328_11 ?_
  refine Bod.virt (r := []) dc_328_12 kr_328_302 ⟨Or.inl rfl, ow_306, cl_14⟩ (by rw [np_306]; rfl) (by rw [np_306]; rfl) (ob_of (mk_61 _)) (Nat.le_of_ble_eq_true rfl) (c1  ) ?_
  show Bod _ _ _ _ [_] _ _ _
  refine Bod.ifT dc_328_15 rfl (k1_ne_T (k_ne 1 0 rfl rfl (by omega) (by omega) (by omega))) ?_
  refine Bod.go dc_328_20 rfl ?_
  refine Bod.get dc_328_21 fr_328_135 (mk_61 _) rfl ?_
  refine Bod.go dc_328_24 rfl ?_
  refine Bod.get dc_328_25 fr_328_190 (mk_61 _) rfl ?_
  refine Bod.eqI (nI k1) (by first | (simp (disch := omega) only [rI, rIe, rA, rIA, rLA, rJA, rVI, rQI, rVA, rQA, upd_at,  rAI, rLI, rJI, nI_add, pk_sub, kc_0, kc_1, kc_2, kc_3, kc_4, kc_5, reduceIte, Nat.reduceEqDiff, Nat.add_zero, rI_hold, rI_hold, rL_hold, hk, hk1]; done) | (simp (disch := omega) only [rI, rIe, rA, rIA, rLA, rJA, rVI, rQI, rVA, rQA, upd_at,  rAI, rLI, rJI, nI_add, pk_sub, kc_0, kc_1, kc_2, kc_3, kc_4, kc_5, reduceIte, Nat.reduceEqDiff, Nat.add_zero, rI_hold, rI_hold, rL_hold, hk, hk1]; exact congrArg nI (by omega))) ?_
  refine Bod.ic 1 (by decide) dc_328_28 ?_
  refine Bod.subN (k1 - 1) (by omega) (by omega) dc_328_29 ?_
  refine Bod.ialdN (k1 - 1) rfl (by omega) (by omega) dc_328_30 (mk_68 _) ?_
  refine Bod.istn dc_328_31 (by rw [ml_328]; exact Nat.le_of_ble_eq_true rfl) ?_
  refine Bod.go dc_328_32 rfl ?_
  refine Bod.get dc_328_33 fr_328_397 (mk_61 _) rfl ?_
  refine Bod.eqI (nI tg) (by first | (simp (disch := omega) only [rI, rIe, rA, rIA, rLA, rJA, rVI, rQI, rVA, rQA, upd_at,  rAI, rLI, rJI, nI_add, pk_sub, kc_0, kc_1, kc_2, kc_3, kc_4, kc_5, reduceIte, Nat.reduceEqDiff, Nat.add_zero, rI_hold, rI_hold, rL_hold, hk, hk1, htg]; done) | (simp (disch := omega) only [rI, rIe, rA, rIA, rLA, rJA, rVI, rQI, rVA, rQA, upd_at,  rAI, rLI, rJI, nI_add, pk_sub, kc_0, kc_1, kc_2, kc_3, kc_4, kc_5, reduceIte, Nat.reduceEqDiff, Nat.add_zero, rI_hold, rI_hold, rL_hold, hk, hk1, htg]; exact congrArg nI (by omega))) ?_
  refine Bod.ifT dc_328_36 rfl (k1_ne_T (k_ne tg 0 rfl rfl (by omega) (by omega) (by omega))) ?_
  refine Bod.go dc_328_44 rfl ?_
  refine Bod.get dc_328_45 fr_328_397 (mk_61 _) rfl ?_
  refine Bod.eqI (nI tg) (by first | (simp (disch := omega) only [rI, rIe, rA, rIA, rLA, rJA, rVI, rQI, rVA, rQA, upd_at,  rAI, rLI, rJI, nI_add, pk_sub, kc_0, kc_1, kc_2, kc_3, kc_4, kc_5, reduceIte, Nat.reduceEqDiff, Nat.add_zero, rI_hold, rI_hold, rL_hold, hk, hk1, htg]; done) | (simp (disch := omega) only [rI, rIe, rA, rIA, rLA, rJA, rVI, rQI, rVA, rQA, upd_at,  rAI, rLI, rJI, nI_add, pk_sub, kc_0, kc_1, kc_2, kc_3, kc_4, kc_5, reduceIte, Nat.reduceEqDiff, Nat.add_zero, rI_hold, rI_hold, rL_hold, hk, hk1, htg]; exact congrArg nI (by omega))) ?_
  refine Bod.istn dc_328_48 (by rw [ml_328]; exact Nat.le_of_ble_eq_true rfl) ?_
  refine Bod.go dc_328_49 rfl ?_
  refine Bod.virt (r := []) dc_328_50 kr_328_447 ⟨Or.inl rfl, ow_327, cl_14⟩ (by rw [np_327]; rfl) (by rw [np_327]; rfl) (ob_of (mk_61 _)) (Nat.le_of_ble_eq_true rfl) (c2  ) ?_
  show Bod _ _ _ _ [] _ _ _
  refine Bod.go dc_328_53 rfl ?_
  refine Bod.ic 1 (by decide) dc_328_54 ?_
  refine Bod.icT dc_328_55 rfl (k2_ne_T (k_ne tg 1 rfl rfl (by omega) (by omega) (by omega))) ?_
  refine Bod.go dc_328_68 rfl ?_
  refine Bod.ic 2 (by decide) dc_328_69 ?_
  refine Bod.icT dc_328_70 rfl (k2_ne_T (k_ne tg 2 rfl rfl (by omega) (by omega) (by omega))) ?_
  refine Bod.go dc_328_82 rfl ?_
  refine Bod.bip 26 (by decide) dc_328_83 ?_
  refine Bod.go dc_328_85 rfl ?_
  refine Bod.virt (r := []) dc_328_86 kr_328_216 ⟨Or.inl rfl, ow_302, cl_14⟩ (by rw [np_302]; rfl) (by rw [np_302]; rfl) (ob_of (mk_61 _)) (Nat.le_of_ble_eq_true rfl) (c3  ) ?_
  show Bod _ _ _ _ [] _ _ _
  refine Bod.ic 1 (by decide) dc_328_89 ?_
  exact Bod.retZ dc_328_90 rt_328 (Or.inr rfl)
theorem zDl_2 {d : Nat} {S : cS} {k : Nat} {S1 : cS} {k1 : Nat} {tg : Nat} {S2 : cS} {S3 : cS} (hk : sI S 6115 = nI k) (mk : k < 6001) (c1 : Ans (d + 8) 306 [.ref 61, .int (nI 0)] (wI 6115 (nI (k + 1)) S) (some (.int (nI 1))) S1) (hk1 : sI S1 6115 = nI k1) (mk1 : k1 < 6001) (b1 : 1 ≤ k1) (htg : sI S1 6131 = nI tg) (mtg : tg < 5) (b2 : tg ≠ 0) (c2 : Ans (d + 8) 327 [.ref 61] S1 none S2) (b3 : tg ≠ 1) (b4 : tg = 2) (c3 : Ans (d + 8) 322 [.ref 61, .int (nI 25)] S2 none S3) : Bod (d + 8) 328 0 [(0, .ref 61)] [] S (some (.int 1)) (S3) := by
  refine Bod.go dc_328_0 rfl ?_
  refine Bod.go dc_328_1 rfl ?_
  refine Bod.get dc_328_2 fr_328_190 (mk_61 _) rfl ?_
  refine Bod.eqI (nI k) (by first | assumption | rfl | exact congrArg nI (by omega) | (simp (disch := omega) only [rI, rIe, rA, rIA, rLA, rJA, rVI, rQI, rVA, rQA, upd_at,  rAI, rLI, rJI, nI_add, pk_sub, kc_0, kc_1, kc_2, kc_3, kc_4, kc_5, reduceIte, Nat.reduceEqDiff, Nat.add_zero, rI_hold, rI_hold, rL_hold, hk]; done)) ?_
  refine Bod.ic 1 (by decide) dc_328_5 ?_
  refine Bod.addN (k + 1) (by omega) dc_328_6 ?_
  refine Bod.put dc_328_7 fr_328_190 (mk_61 _) (Nat.le_of_ble_eq_true rfl) pf_14_15 (st_6115 _ _) (mu_I _ _ _) ?_
  refine Bod.go dc_328_10 rfl ?_
  refine Bod.ic 0 (by decide) dc_328_11 ?_
  refine Bod.virt (r := []) dc_328_12 kr_328_302 ⟨Or.inl rfl, ow_306, cl_14⟩ (by rw [np_306]; rfl) (by rw [np_306]; rfl) (ob_of (mk_61 _)) (Nat.le_of_ble_eq_true rfl) (c1  ) ?_
  show Bod _ _ _ _ [_] _ _ _
  refine Bod.ifT dc_328_15 rfl (k1_ne_T (k_ne 1 0 rfl rfl (by omega) (by omega) (by omega))) ?_
  refine Bod.go dc_328_20 rfl ?_
  refine Bod.get dc_328_21 fr_328_135 (mk_61 _) rfl ?_
  refine Bod.go dc_328_24 rfl ?_
  refine Bod.get dc_328_25 fr_328_190 (mk_61 _) rfl ?_
  refine Bod.eqI (nI k1) (by first | (simp (disch := omega) only [rI, rIe, rA, rIA, rLA, rJA, rVI, rQI, rVA, rQA, upd_at,  rAI, rLI, rJI, nI_add, pk_sub, kc_0, kc_1, kc_2, kc_3, kc_4, kc_5, reduceIte, Nat.reduceEqDiff, Nat.add_zero, rI_hold, rI_hold, rL_hold, hk, hk1]; done) | (simp (disch := omega) only [rI, rIe, rA, rIA, rLA, rJA, rVI, rQI, rVA, rQA, upd_at,  rAI, rLI, rJI, nI_add, pk_sub, kc_0, kc_1, kc_2, kc_3, kc_4, kc_5, reduceIte, Nat.reduceEqDiff, Nat.add_zero, rI_hold, rI_hold, rL_hold, hk, hk1]; exact congrArg nI (by omega))) ?_
  refine Bod.ic 1 (by decide) dc_328_28 ?_
  refine Bod.subN (k1 - 1) (by omega) (by omega) dc_328_29 ?_
  refine Bod.ialdN (k1 - 1) rfl (by omega) (by omega) dc_328_30 (mk_68 _) ?_
  refine Bod.istn dc_328_31 (by rw [ml_328]; exact Nat.le_of_ble_eq_true rfl) ?_
  refine Bod.go dc_328_32 rfl ?_
  refine Bod.get dc_328_33 fr_328_397 (mk_61 _) rfl ?_
  refine Bod.eqI (nI tg) (by first | (simp (disch := omega) only [rI, rIe, rA, rIA, rLA, rJA, rVI, rQI, rVA, rQA, upd_at,  rAI, rLI, rJI, nI_add, pk_sub, kc_0, kc_1, kc_2, kc_3, kc_4, kc_5, reduceIte, Nat.reduceEqDiff, Nat.add_zero, rI_hold, rI_hold, rL_hold, hk, hk1, htg]; done) | (simp (disch := omega) only [rI, rIe, rA, rIA, rLA, rJA, rVI, rQI, rVA, rQA, upd_at,  rAI, rLI, rJI, nI_add, pk_sub, kc_0, kc_1, kc_2, kc_3, kc_4, kc_5, reduceIte, Nat.reduceEqDiff, Nat.add_zero, rI_hold, rI_hold, rL_hold, hk, hk1, htg]; exact congrArg nI (by omega))) ?_
  refine Bod.ifT dc_328_36 rfl (k1_ne_T (k_ne tg 0 rfl rfl (by omega) (by omega) (by omega))) ?_
  refine Bod.go dc_328_44 rfl ?_
  refine Bod.get dc_328_45 fr_328_397 (mk_61 _) rfl ?_
  refine Bod.eqI (nI tg) (by first | (simp (disch := omega) only [rI, rIe, rA, rIA, rLA, rJA, rVI, rQI, rVA, rQA, upd_at,  rAI, rLI, rJI, nI_add, pk_sub, kc_0, kc_1, kc_2, kc_3, kc_4, kc_5, reduceIte, Nat.reduceEqDiff, Nat.add_zero, rI_hold, rI_hold, rL_hold, hk, hk1, htg]; done) | (simp (disch := omega) only [rI, rIe, rA, rIA, rLA, rJA, rVI, rQI, rVA, rQA, upd_at,  rAI, rLI, rJI, nI_add, pk_sub, kc_0, kc_1, kc_2, kc_3, kc_4, kc_5, reduceIte, Nat.reduceEqDiff, Nat.add_zero, rI_hold, rI_hold, rL_hold, hk, hk1, htg]; exact congrArg nI (by omega))) ?_
  refine Bod.istn dc_328_48 (by rw [ml_328]; exact Nat.le_of_ble_eq_true rfl) ?_
  refine Bod.go dc_328_49 rfl ?_
  refine Bod.virt (r := []) dc_328_50 kr_328_447 ⟨Or.inl rfl, ow_327, cl_14⟩ (by rw [np_327]; rfl) (by rw [np_327]; rfl) (ob_of (mk_61 _)) (Nat.le_of_ble_eq_true rfl) (c2  ) ?_
  show Bod _ _ _ _ [] _ _ _
  refine Bod.go dc_328_53 rfl ?_
  refine Bod.ic 1 (by decide) dc_328_54 ?_
  refine Bod.icT dc_328_55 rfl (k2_ne_T (k_ne tg 1 rfl rfl (by omega) (by omega) (by omega))) ?_
  refine Bod.go dc_328_68 rfl ?_
  refine Bod.ic 2 (by decide) dc_328_69 ?_
  refine Bod.icF dc_328_70 rfl (k2_ne_F (k_eq tg 2 rfl rfl (by omega))) ?_
  refine Bod.go dc_328_73 rfl ?_
  refine Bod.bip 25 (by decide) dc_328_74 ?_
  refine Bod.virt (r := []) dc_328_76 kr_328_269 ⟨Or.inl rfl, ow_322, cl_14⟩ (by rw [np_322]; rfl) (by rw [np_322]; rfl) (ob_of (mk_61 _)) (Nat.le_of_ble_eq_true rfl) (c3  ) ?_
  show Bod _ _ _ _ [] _ _ _
  refine Bod.go dc_328_79 rfl ?_
  refine Bod.ic 1 (by decide) dc_328_89 ?_
  exact Bod.retZ dc_328_90 rt_328 (Or.inr rfl)
theorem zDl_3 {d : Nat} {S : cS} {k : Nat} {S1 : cS} {k1 : Nat} {tg : Nat} {S2 : cS} {S3 : cS} (hk : sI S 6115 = nI k) (mk : k < 6001) (c1 : Ans (d + 8) 306 [.ref 61, .int (nI 0)] (wI 6115 (nI (k + 1)) S) (some (.int (nI 1))) S1) (hk1 : sI S1 6115 = nI k1) (mk1 : k1 < 6001) (b1 : 1 ≤ k1) (htg : sI S1 6131 = nI tg) (mtg : tg < 5) (b2 : tg ≠ 0) (c2 : Ans (d + 8) 327 [.ref 61] S1 none S2) (b3 : tg = 1) (c3 : Ans (d + 8) 317 [.ref 61, .int (nI 7), .int (sA S1 68 (k1 - 1))] S2 none S3) : Bod (d + 8) 328 0 [(0, .ref 61)] [] S (some (.int 1)) (S3) := by
  refine Bod.go dc_328_0 rfl ?_
  refine Bod.go dc_328_1 rfl ?_
  refine Bod.get dc_328_2 fr_328_190 (mk_61 _) rfl ?_
  refine Bod.eqI (nI k) (by first | assumption | rfl | exact congrArg nI (by omega) | (simp (disch := omega) only [rI, rIe, rA, rIA, rLA, rJA, rVI, rQI, rVA, rQA, upd_at,  rAI, rLI, rJI, nI_add, pk_sub, kc_0, kc_1, kc_2, kc_3, kc_4, kc_5, reduceIte, Nat.reduceEqDiff, Nat.add_zero, rI_hold, rI_hold, rL_hold, hk]; done)) ?_
  refine Bod.ic 1 (by decide) dc_328_5 ?_
  refine Bod.addN (k + 1) (by omega) dc_328_6 ?_
  refine Bod.put dc_328_7 fr_328_190 (mk_61 _) (Nat.le_of_ble_eq_true rfl) pf_14_15 (st_6115 _ _) (mu_I _ _ _) ?_
  refine Bod.go dc_328_10 rfl ?_
  refine Bod.ic 0 (by decide) dc_328_11 ?_
  refine Bod.virt (r := []) dc_328_12 kr_328_302 ⟨Or.inl rfl, ow_306, cl_14⟩ (by rw [np_306]; rfl) (by rw [np_306]; rfl) (ob_of (mk_61 _)) (Nat.le_of_ble_eq_true rfl) (c1  ) ?_
  show Bod _ _ _ _ [_] _ _ _
  refine Bod.ifT dc_328_15 rfl (k1_ne_T (k_ne 1 0 rfl rfl (by omega) (by omega) (by omega))) ?_
  refine Bod.go dc_328_20 rfl ?_
  refine Bod.get dc_328_21 fr_328_135 (mk_61 _) rfl ?_
  refine Bod.go dc_328_24 rfl ?_
  refine Bod.get dc_328_25 fr_328_190 (mk_61 _) rfl ?_
  refine Bod.eqI (nI k1) (by first | (simp (disch := omega) only [rI, rIe, rA, rIA, rLA, rJA, rVI, rQI, rVA, rQA, upd_at,  rAI, rLI, rJI, nI_add, pk_sub, kc_0, kc_1, kc_2, kc_3, kc_4, kc_5, reduceIte, Nat.reduceEqDiff, Nat.add_zero, rI_hold, rI_hold, rL_hold, hk, hk1]; done) | (simp (disch := omega) only [rI, rIe, rA, rIA, rLA, rJA, rVI, rQI, rVA, rQA, upd_at,  rAI, rLI, rJI, nI_add, pk_sub, kc_0, kc_1, kc_2, kc_3, kc_4, kc_5, reduceIte, Nat.reduceEqDiff, Nat.add_zero, rI_hold, rI_hold, rL_hold, hk, hk1]; exact congrArg nI (by omega))) ?_
  refine Bod.ic 1 (by decide) dc_328_28 ?_
  refine Bod.subN (k1 - 1) (by omega) (by omega) dc_328_29 ?_
  refine Bod.ialdN (k1 - 1) rfl (by omega) (by omega) dc_328_30 (mk_68 _) ?_
  refine Bod.istn dc_328_31 (by rw [ml_328]; exact Nat.le_of_ble_eq_true rfl) ?_
  refine Bod.go dc_328_32 rfl ?_
  refine Bod.get dc_328_33 fr_328_397 (mk_61 _) rfl ?_
  refine Bod.eqI (nI tg) (by first | (simp (disch := omega) only [rI, rIe, rA, rIA, rLA, rJA, rVI, rQI, rVA, rQA, upd_at,  rAI, rLI, rJI, nI_add, pk_sub, kc_0, kc_1, kc_2, kc_3, kc_4, kc_5, reduceIte, Nat.reduceEqDiff, Nat.add_zero, rI_hold, rI_hold, rL_hold, hk, hk1, htg]; done) | (simp (disch := omega) only [rI, rIe, rA, rIA, rLA, rJA, rVI, rQI, rVA, rQA, upd_at,  rAI, rLI, rJI, nI_add, pk_sub, kc_0, kc_1, kc_2, kc_3, kc_4, kc_5, reduceIte, Nat.reduceEqDiff, Nat.add_zero, rI_hold, rI_hold, rL_hold, hk, hk1, htg]; exact congrArg nI (by omega))) ?_
  refine Bod.ifT dc_328_36 rfl (k1_ne_T (k_ne tg 0 rfl rfl (by omega) (by omega) (by omega))) ?_
  refine Bod.go dc_328_44 rfl ?_
  refine Bod.get dc_328_45 fr_328_397 (mk_61 _) rfl ?_
  refine Bod.eqI (nI tg) (by first | (simp (disch := omega) only [rI, rIe, rA, rIA, rLA, rJA, rVI, rQI, rVA, rQA, upd_at,  rAI, rLI, rJI, nI_add, pk_sub, kc_0, kc_1, kc_2, kc_3, kc_4, kc_5, reduceIte, Nat.reduceEqDiff, Nat.add_zero, rI_hold, rI_hold, rL_hold, hk, hk1, htg]; done) | (simp (disch := omega) only [rI, rIe, rA, rIA, rLA, rJA, rVI, rQI, rVA, rQA, upd_at,  rAI, rLI, rJI, nI_add, pk_sub, kc_0, kc_1, kc_2, kc_3, kc_4, kc_5, reduceIte, Nat.reduceEqDiff, Nat.add_zero, rI_hold, rI_hold, rL_hold, hk, hk1, htg]; exact congrArg nI (by omega))) ?_
  refine Bod.istn dc_328_48 (by rw [ml_328]; exact Nat.le_of_ble_eq_true rfl) ?_
  refine Bod.go dc_328_49 rfl ?_
  refine Bod.virt (r := []) dc_328_50 kr_328_447 ⟨Or.inl rfl, ow_327, cl_14⟩ (by rw [np_327]; rfl) (by rw [np_327]; rfl) (ob_of (mk_61 _)) (Nat.le_of_ble_eq_true rfl) (c2  ) ?_
  show Bod _ _ _ _ [] _ _ _
  refine Bod.go dc_328_53 rfl ?_
  refine Bod.ic 1 (by decide) dc_328_54 ?_
  refine Bod.icF dc_328_55 rfl (k2_ne_F (k_eq tg 1 rfl rfl (by omega))) ?_
  refine Bod.go dc_328_58 rfl ?_
  refine Bod.bip 7 (by decide) dc_328_59 ?_
  refine Bod.go dc_328_61 rfl ?_
  refine Bod.virt (r := []) dc_328_62 kr_328_341 ⟨Or.inl rfl, ow_317, cl_14⟩ (by rw [np_317]; rfl) (by rw [np_317]; rfl) (ob_of (mk_61 _)) (Nat.le_of_ble_eq_true rfl) (c3  ) ?_
  show Bod _ _ _ _ [] _ _ _
  refine Bod.go dc_328_65 rfl ?_
  refine Bod.ic 1 (by decide) dc_328_89 ?_
  exact Bod.retZ dc_328_90 rt_328 (Or.inr rfl)
theorem zDl_4 {d : Nat} {S : cS} {k : Nat} {S1 : cS} {k1 : Nat} {tg : Nat} {S2 : cS} (hk : sI S 6115 = nI k) (mk : k < 6001) (c1 : Ans (d + 8) 306 [.ref 61, .int (nI 0)] (wI 6115 (nI (k + 1)) S) (some (.int (nI 1))) S1) (hk1 : sI S1 6115 = nI k1) (mk1 : k1 < 6001) (b1 : 1 ≤ k1) (htg : sI S1 6131 = nI tg) (mtg : tg < 5) (b2 : tg = 0) (c2 : Ans (d + 8) 299 [.ref 61] S1 (some (.int (nI 0))) S2) : Bod (d + 8) 328 0 [(0, .ref 61)] [] S (some (.int 0)) (S2) := by
  refine Bod.go dc_328_0 rfl ?_
  refine Bod.go dc_328_1 rfl ?_
  refine Bod.get dc_328_2 fr_328_190 (mk_61 _) rfl ?_
  refine Bod.eqI (nI k) (by first | assumption | rfl | exact congrArg nI (by omega) | (simp (disch := omega) only [rI, rIe, rA, rIA, rLA, rJA, rVI, rQI, rVA, rQA, upd_at,  rAI, rLI, rJI, nI_add, pk_sub, kc_0, kc_1, kc_2, kc_3, kc_4, kc_5, reduceIte, Nat.reduceEqDiff, Nat.add_zero, rI_hold, rI_hold, rL_hold, hk]; done)) ?_
  refine Bod.ic 1 (by decide) dc_328_5 ?_
  refine Bod.addN (k + 1) (by omega) dc_328_6 ?_
  refine Bod.put dc_328_7 fr_328_190 (mk_61 _) (Nat.le_of_ble_eq_true rfl) pf_14_15 (st_6115 _ _) (mu_I _ _ _) ?_
  refine Bod.go dc_328_10 rfl ?_
  refine Bod.ic 0 (by decide) dc_328_11 ?_
  refine Bod.virt (r := []) dc_328_12 kr_328_302 ⟨Or.inl rfl, ow_306, cl_14⟩ (by rw [np_306]; rfl) (by rw [np_306]; rfl) (ob_of (mk_61 _)) (Nat.le_of_ble_eq_true rfl) (c1  ) ?_
  show Bod _ _ _ _ [_] _ _ _
  refine Bod.ifT dc_328_15 rfl (k1_ne_T (k_ne 1 0 rfl rfl (by omega) (by omega) (by omega))) ?_
  refine Bod.go dc_328_20 rfl ?_
  refine Bod.get dc_328_21 fr_328_135 (mk_61 _) rfl ?_
  refine Bod.go dc_328_24 rfl ?_
  refine Bod.get dc_328_25 fr_328_190 (mk_61 _) rfl ?_
  refine Bod.eqI (nI k1) (by first | (simp (disch := omega) only [rI, rIe, rA, rIA, rLA, rJA, rVI, rQI, rVA, rQA, upd_at,  rAI, rLI, rJI, nI_add, pk_sub, kc_0, kc_1, kc_2, kc_3, kc_4, kc_5, reduceIte, Nat.reduceEqDiff, Nat.add_zero, rI_hold, rI_hold, rL_hold, hk, hk1]; done) | (simp (disch := omega) only [rI, rIe, rA, rIA, rLA, rJA, rVI, rQI, rVA, rQA, upd_at,  rAI, rLI, rJI, nI_add, pk_sub, kc_0, kc_1, kc_2, kc_3, kc_4, kc_5, reduceIte, Nat.reduceEqDiff, Nat.add_zero, rI_hold, rI_hold, rL_hold, hk, hk1]; exact congrArg nI (by omega))) ?_
  refine Bod.ic 1 (by decide) dc_328_28 ?_
  refine Bod.subN (k1 - 1) (by omega) (by omega) dc_328_29 ?_
  refine Bod.ialdN (k1 - 1) rfl (by omega) (by omega) dc_328_30 (mk_68 _) ?_
  refine Bod.istn dc_328_31 (by rw [ml_328]; exact Nat.le_of_ble_eq_true rfl) ?_
  refine Bod.go dc_328_32 rfl ?_
  refine Bod.get dc_328_33 fr_328_397 (mk_61 _) rfl ?_
  refine Bod.eqI (nI tg) (by first | (simp (disch := omega) only [rI, rIe, rA, rIA, rLA, rJA, rVI, rQI, rVA, rQA, upd_at,  rAI, rLI, rJI, nI_add, pk_sub, kc_0, kc_1, kc_2, kc_3, kc_4, kc_5, reduceIte, Nat.reduceEqDiff, Nat.add_zero, rI_hold, rI_hold, rL_hold, hk, hk1, htg]; done) | (simp (disch := omega) only [rI, rIe, rA, rIA, rLA, rJA, rVI, rQI, rVA, rQA, upd_at,  rAI, rLI, rJI, nI_add, pk_sub, kc_0, kc_1, kc_2, kc_3, kc_4, kc_5, reduceIte, Nat.reduceEqDiff, Nat.add_zero, rI_hold, rI_hold, rL_hold, hk, hk1, htg]; exact congrArg nI (by omega))) ?_
  refine Bod.ifF dc_328_36 rfl (k1_ne_F (k_eq tg 0 rfl rfl (by omega))) ?_
  refine Bod.go dc_328_39 rfl ?_
  refine Bod.virt (r := []) dc_328_40 kr_328_202 ⟨Or.inl rfl, ow_299, cl_14⟩ (by rw [np_299]; rfl) (by rw [np_299]; rfl) (ob_of (mk_61 _)) (Nat.le_of_ble_eq_true rfl) (c2  ) ?_
  show Bod _ _ _ _ [_] _ _ _
  exact Bod.retZ dc_328_43 rt_328 (Or.inl rfl)
theorem zDl_5 {d : Nat} {S : cS} {k : Nat} {S1 : cS} (hk : sI S 6115 = nI k) (mk : k < 6001) (c1 : Ans (d + 8) 306 [.ref 61, .int (nI 0)] (wI 6115 (nI (k + 1)) S) (some (.int (nI 0))) S1) : Bod (d + 8) 328 0 [(0, .ref 61)] [] S (some (.int 0)) (S1) := by
  refine Bod.go dc_328_0 rfl ?_
  refine Bod.go dc_328_1 rfl ?_
  refine Bod.get dc_328_2 fr_328_190 (mk_61 _) rfl ?_
  refine Bod.eqI (nI k) (by first | assumption | rfl | exact congrArg nI (by omega) | (simp (disch := omega) only [rI, rIe, rA, rIA, rLA, rJA, rVI, rQI, rVA, rQA, upd_at,  rAI, rLI, rJI, nI_add, pk_sub, kc_0, kc_1, kc_2, kc_3, kc_4, kc_5, reduceIte, Nat.reduceEqDiff, Nat.add_zero, rI_hold, rI_hold, rL_hold, hk]; done)) ?_
  refine Bod.ic 1 (by decide) dc_328_5 ?_
  refine Bod.addN (k + 1) (by omega) dc_328_6 ?_
  refine Bod.put dc_328_7 fr_328_190 (mk_61 _) (Nat.le_of_ble_eq_true rfl) pf_14_15 (st_6115 _ _) (mu_I _ _ _) ?_
  refine Bod.go dc_328_10 rfl ?_
  refine Bod.ic 0 (by decide) dc_328_11 ?_
  refine Bod.virt (r := []) dc_328_12 kr_328_302 ⟨Or.inl rfl, ow_306, cl_14⟩ (by rw [np_306]; rfl) (by rw [np_306]; rfl) (ob_of (mk_61 _)) (Nat.le_of_ble_eq_true rfl) (c1  ) ?_
  show Bod _ _ _ _ [_] _ _ _
  refine Bod.ifF dc_328_15 rfl (k1_ne_F (k_eq 0 0 rfl rfl (by omega))) ?_
  refine Bod.ic 0 (by decide) dc_328_18 ?_
  exact Bod.retZ dc_328_19 rt_328 (Or.inl rfl)
theorem zAt_1 {d : Nat} {S : cS} {lv : sm_L} {lc : Nat} {lg : Nat} {lnm : Int32} {k : Nat} {e67 : Nat} {S1 : cS} (q0 : sm_get lv 0 = some (.ref 61)) (q1 : sm_get lv 1 = some (.int (nI lc))) (q2 : sm_get lv 2 = some (.int (nI lg))) (q3 : sm_get lv 3 = some (.int lnm)) (mlc : lc < 2 ^ 20) (mlg : lg < 2 ^ 20) (hk : sI S 6115 = nI k) (mk : k < 6001) (he67 : sA S 67 k = nI e67) (me67 : e67 < 2 ^ 20) (b1 : e67 ≠ 5) (c1 : Ans (d + 8) 322 [.ref 61, .int (nI 20)] S none S1) : Bod (d + 8) 305 35 lv [] S (some (.int 1)) (S1) := by
  refine Bod.aldnG dc_305_35 (by repeat (first | exact q0 | exact sm_get_p1 | exact sm_get_p2e | refine sm_get_p1m (by decide) (by decide) ?_ | refine sm_get_p1n (by decide) rfl ?_ | refine sm_get_p2n (by decide) (by decide) rfl ?_)) ?_
  refine Bod.get dc_305_36 fr_305_129 (mk_61 _) rfl ?_
  refine Bod.aldnG dc_305_39 (by repeat (first | exact q0 | exact sm_get_p1 | exact sm_get_p2e | refine sm_get_p1m (by decide) (by decide) ?_ | refine sm_get_p1n (by decide) rfl ?_ | refine sm_get_p2n (by decide) (by decide) rfl ?_)) ?_
  refine Bod.get dc_305_40 fr_305_190 (mk_61 _) rfl ?_
  refine Bod.eqI (nI k) (by first | assumption | rfl | exact congrArg nI (by omega) | (simp (disch := omega) only [rI, rIe, rA, rIA, rLA, rJA, rVI, rQI, rVA, rQA, upd_at,  rAI, rLI, rJI, nI_add, pk_sub, kc_0, kc_1, kc_2, kc_3, kc_4, kc_5, reduceIte, Nat.reduceEqDiff, Nat.add_zero, rI_hold, rI_hold, rL_hold, hk]; done)) ?_
  refine Bod.ialdN k rfl (by omega) (by omega) dc_305_43 (mk_67 _) ?_
  refine Bod.eqI (nI e67) (by first | assumption | rfl | exact congrArg nI (by omega) | (simp (disch := omega) only [rI, rIe, rA, rIA, rLA, rJA, rVI, rQI, rVA, rQA, upd_at,  rAI, rLI, rJI, nI_add, pk_sub, kc_0, kc_1, kc_2, kc_3, kc_4, kc_5, reduceIte, Nat.reduceEqDiff, Nat.add_zero, rI_hold, rI_hold, rL_hold, hk, he67]; done)) ?_
  refine Bod.ic 5 (by decide) dc_305_44 ?_
  refine Bod.icT dc_305_45 rfl (k2_ne_T (k_ne e67 5 rfl rfl (by omega) (by omega) (by omega))) ?_
  refine Bod.ic 0 (by decide) dc_305_60 ?_
  refine Bod.ist dc_305_61 (by rw [ml_305]; exact Nat.le_of_ble_eq_true rfl) ?_
  refine Bod.ildG dc_305_63 (by repeat (first | exact q0 | exact sm_get_p1 | exact sm_get_p2e | refine sm_get_p1m (by decide) (by decide) ?_ | refine sm_get_p1n (by decide) rfl ?_ | refine sm_get_p2n (by decide) (by decide) rfl ?_)) ?_
  refine Bod.bip 61 (by decide) dc_305_65 ?_
  refine Bod.icT dc_305_67 rfl (k2_ne_T (k_ne 0 61 rfl rfl (by omega) (by omega) (by omega))) ?_
  refine Bod.ildG dc_305_205 (by repeat (first | exact q0 | exact sm_get_p1 | exact sm_get_p2e | refine sm_get_p1m (by decide) (by decide) ?_ | refine sm_get_p1n (by decide) rfl ?_ | refine sm_get_p2n (by decide) (by decide) rfl ?_)) ?_
  refine Bod.sip 256 (by decide) dc_305_207 ?_
  refine Bod.icT dc_305_210 rfl (k2_le_T 0 256 rfl rfl (by omega) (by omega)) ?_
  refine Bod.aldnG dc_305_387 (by repeat (first | exact q0 | exact sm_get_p1 | exact sm_get_p2e | refine sm_get_p1m (by decide) (by decide) ?_ | refine sm_get_p1n (by decide) rfl ?_ | refine sm_get_p2n (by decide) (by decide) rfl ?_)) ?_
  refine Bod.bip 20 (by decide) dc_305_388 ?_
  refine Bod.virt (r := []) dc_305_390 kr_305_269 ⟨Or.inl rfl, ow_322, cl_14⟩ (by rw [np_322]; rfl) (by rw [np_322]; rfl) (ob_of (mk_61 _)) (Nat.le_of_ble_eq_true rfl) (c1  ) ?_
  show Bod _ _ _ _ [] _ _ _
  refine Bod.ic 1 (by decide) dc_305_393 ?_
  exact Bod.retZ dc_305_394 rt_305 (Or.inr rfl)
theorem zAt_2 {d : Nat} {S : cS} {lv : sm_L} {lc : Nat} {lg : Nat} {lnm : Int32} {k : Nat} {e67 : Nat} {e68 : Nat} {S1 : cS} (q0 : sm_get lv 0 = some (.ref 61)) (q1 : sm_get lv 1 = some (.int (nI lc))) (q2 : sm_get lv 2 = some (.int (nI lg))) (q3 : sm_get lv 3 = some (.int lnm)) (mlc : lc < 2 ^ 20) (mlg : lg < 2 ^ 20) (hk : sI S 6115 = nI k) (mk : k < 6001) (he67 : sA S 67 k = nI e67) (me67 : e67 < 2 ^ 20) (b1 : e67 = 5) (he68 : sA S 68 k = nI e68) (me68 : e68 < 2 ^ 20) (b2 : e68 ≠ 61) (b3 : e68 ≤ 256) (c1 : Ans (d + 8) 322 [.ref 61, .int (nI 20)] S none S1) : Bod (d + 8) 305 35 lv [] S (some (.int 1)) (S1) := by
  refine Bod.aldnG dc_305_35 (by repeat (first | exact q0 | exact sm_get_p1 | exact sm_get_p2e | refine sm_get_p1m (by decide) (by decide) ?_ | refine sm_get_p1n (by decide) rfl ?_ | refine sm_get_p2n (by decide) (by decide) rfl ?_)) ?_
  refine Bod.get dc_305_36 fr_305_129 (mk_61 _) rfl ?_
  refine Bod.aldnG dc_305_39 (by repeat (first | exact q0 | exact sm_get_p1 | exact sm_get_p2e | refine sm_get_p1m (by decide) (by decide) ?_ | refine sm_get_p1n (by decide) rfl ?_ | refine sm_get_p2n (by decide) (by decide) rfl ?_)) ?_
  refine Bod.get dc_305_40 fr_305_190 (mk_61 _) rfl ?_
  refine Bod.eqI (nI k) (by first | assumption | rfl | exact congrArg nI (by omega) | (simp (disch := omega) only [rI, rIe, rA, rIA, rLA, rJA, rVI, rQI, rVA, rQA, upd_at,  rAI, rLI, rJI, nI_add, pk_sub, kc_0, kc_1, kc_2, kc_3, kc_4, kc_5, reduceIte, Nat.reduceEqDiff, Nat.add_zero, rI_hold, rI_hold, rL_hold, hk]; done)) ?_
  refine Bod.ialdN k rfl (by omega) (by omega) dc_305_43 (mk_67 _) ?_
  refine Bod.eqI (nI e67) (by first | assumption | rfl | exact congrArg nI (by omega) | (simp (disch := omega) only [rI, rIe, rA, rIA, rLA, rJA, rVI, rQI, rVA, rQA, upd_at,  rAI, rLI, rJI, nI_add, pk_sub, kc_0, kc_1, kc_2, kc_3, kc_4, kc_5, reduceIte, Nat.reduceEqDiff, Nat.add_zero, rI_hold, rI_hold, rL_hold, hk, he67]; done)) ?_
  refine Bod.ic 5 (by decide) dc_305_44 ?_
  refine Bod.icF dc_305_45 rfl (k2_ne_F (k_eq e67 5 rfl rfl (by omega))) ?_
  refine Bod.aldnG dc_305_48 (by repeat (first | exact q0 | exact sm_get_p1 | exact sm_get_p2e | refine sm_get_p1m (by decide) (by decide) ?_ | refine sm_get_p1n (by decide) rfl ?_ | refine sm_get_p2n (by decide) (by decide) rfl ?_)) ?_
  refine Bod.get dc_305_49 fr_305_135 (mk_61 _) rfl ?_
  refine Bod.aldnG dc_305_52 (by repeat (first | exact q0 | exact sm_get_p1 | exact sm_get_p2e | refine sm_get_p1m (by decide) (by decide) ?_ | refine sm_get_p1n (by decide) rfl ?_ | refine sm_get_p2n (by decide) (by decide) rfl ?_)) ?_
  refine Bod.get dc_305_53 fr_305_190 (mk_61 _) rfl ?_
  refine Bod.eqI (nI k) (by first | assumption | rfl | exact congrArg nI (by omega) | (simp (disch := omega) only [rI, rIe, rA, rIA, rLA, rJA, rVI, rQI, rVA, rQA, upd_at,  rAI, rLI, rJI, nI_add, pk_sub, kc_0, kc_1, kc_2, kc_3, kc_4, kc_5, reduceIte, Nat.reduceEqDiff, Nat.add_zero, rI_hold, rI_hold, rL_hold, hk, he67]; done)) ?_
  refine Bod.ialdN k rfl (by omega) (by omega) dc_305_56 (mk_68 _) ?_
  refine Bod.eqI (nI e68) (by first | assumption | rfl | exact congrArg nI (by omega) | (simp (disch := omega) only [rI, rIe, rA, rIA, rLA, rJA, rVI, rQI, rVA, rQA, upd_at,  rAI, rLI, rJI, nI_add, pk_sub, kc_0, kc_1, kc_2, kc_3, kc_4, kc_5, reduceIte, Nat.reduceEqDiff, Nat.add_zero, rI_hold, rI_hold, rL_hold, hk, he67, he68]; done)) ?_
  refine Bod.go dc_305_57 rfl ?_
  refine Bod.ist dc_305_61 (by rw [ml_305]; exact Nat.le_of_ble_eq_true rfl) ?_
  refine Bod.ildG dc_305_63 (by repeat (first | exact q0 | exact sm_get_p1 | exact sm_get_p2e | refine sm_get_p1m (by decide) (by decide) ?_ | refine sm_get_p1n (by decide) rfl ?_ | refine sm_get_p2n (by decide) (by decide) rfl ?_)) ?_
  refine Bod.bip 61 (by decide) dc_305_65 ?_
  refine Bod.icT dc_305_67 rfl (k2_ne_T (k_ne e68 61 rfl rfl (by omega) (by omega) (by omega))) ?_
  refine Bod.ildG dc_305_205 (by repeat (first | exact q0 | exact sm_get_p1 | exact sm_get_p2e | refine sm_get_p1m (by decide) (by decide) ?_ | refine sm_get_p1n (by decide) rfl ?_ | refine sm_get_p2n (by decide) (by decide) rfl ?_)) ?_
  refine Bod.sip 256 (by decide) dc_305_207 ?_
  refine Bod.icT dc_305_210 rfl (k2_le_T e68 256 rfl rfl (by omega) (by omega)) ?_
  refine Bod.aldnG dc_305_387 (by repeat (first | exact q0 | exact sm_get_p1 | exact sm_get_p2e | refine sm_get_p1m (by decide) (by decide) ?_ | refine sm_get_p1n (by decide) rfl ?_ | refine sm_get_p2n (by decide) (by decide) rfl ?_)) ?_
  refine Bod.bip 20 (by decide) dc_305_388 ?_
  refine Bod.virt (r := []) dc_305_390 kr_305_269 ⟨Or.inl rfl, ow_322, cl_14⟩ (by rw [np_322]; rfl) (by rw [np_322]; rfl) (ob_of (mk_61 _)) (Nat.le_of_ble_eq_true rfl) (c1  ) ?_
  show Bod _ _ _ _ [] _ _ _
  refine Bod.ic 1 (by decide) dc_305_393 ?_
  exact Bod.retZ dc_305_394 rt_305 (Or.inr rfl)
theorem zAt_3 {d : Nat} {S : cS} {lv : sm_L} {lc : Nat} {lg : Nat} {lnm : Int32} {k : Nat} {e67 : Nat} {e68 : Nat} {S1 : cS} (q0 : sm_get lv 0 = some (.ref 61)) (q1 : sm_get lv 1 = some (.int (nI lc))) (q2 : sm_get lv 2 = some (.int (nI lg))) (q3 : sm_get lv 3 = some (.int lnm)) (mlc : lc < 2 ^ 20) (mlg : lg < 2 ^ 20) (hk : sI S 6115 = nI k) (mk : k < 6001) (he67 : sA S 67 k = nI e67) (me67 : e67 < 2 ^ 20) (b1 : e67 = 5) (he68 : sA S 68 k = nI e68) (me68 : e68 < 2 ^ 20) (b2 : e68 ≠ 61) (b3 : 256 < e68) (b4 : (e68 % 256) ≠ 61) (c1 : Ans (d + 8) 322 [.ref 61, .int (nI 20)] S none S1) : Bod (d + 8) 305 35 lv [] S (some (.int 1)) (S1) := by
  refine Bod.aldnG dc_305_35 (by repeat (first | exact q0 | exact sm_get_p1 | exact sm_get_p2e | refine sm_get_p1m (by decide) (by decide) ?_ | refine sm_get_p1n (by decide) rfl ?_ | refine sm_get_p2n (by decide) (by decide) rfl ?_)) ?_
  refine Bod.get dc_305_36 fr_305_129 (mk_61 _) rfl ?_
  refine Bod.aldnG dc_305_39 (by repeat (first | exact q0 | exact sm_get_p1 | exact sm_get_p2e | refine sm_get_p1m (by decide) (by decide) ?_ | refine sm_get_p1n (by decide) rfl ?_ | refine sm_get_p2n (by decide) (by decide) rfl ?_)) ?_
  refine Bod.get dc_305_40 fr_305_190 (mk_61 _) rfl ?_
  refine Bod.eqI (nI k) (by first | assumption | rfl | exact congrArg nI (by omega) | (simp (disch := omega) only [rI, rIe, rA, rIA, rLA, rJA, rVI, rQI, rVA, rQA, upd_at,  rAI, rLI, rJI, nI_add, pk_sub, kc_0, kc_1, kc_2, kc_3, kc_4, kc_5, reduceIte, Nat.reduceEqDiff, Nat.add_zero, rI_hold, rI_hold, rL_hold, hk]; done)) ?_
  refine Bod.ialdN k rfl (by omega) (by omega) dc_305_43 (mk_67 _) ?_
  refine Bod.eqI (nI e67) (by first | assumption | rfl | exact congrArg nI (by omega) | (simp (disch := omega) only [rI, rIe, rA, rIA, rLA, rJA, rVI, rQI, rVA, rQA, upd_at,  rAI, rLI, rJI, nI_add, pk_sub, kc_0, kc_1, kc_2, kc_3, kc_4, kc_5, reduceIte, Nat.reduceEqDiff, Nat.add_zero, rI_hold, rI_hold, rL_hold, hk, he67]; done)) ?_
  refine Bod.ic 5 (by decide) dc_305_44 ?_
  refine Bod.icF dc_305_45 rfl (k2_ne_F (k_eq e67 5 rfl rfl (by omega))) ?_
  refine Bod.aldnG dc_305_48 (by repeat (first | exact q0 | exact sm_get_p1 | exact sm_get_p2e | refine sm_get_p1m (by decide) (by decide) ?_ | refine sm_get_p1n (by decide) rfl ?_ | refine sm_get_p2n (by decide) (by decide) rfl ?_)) ?_
  refine Bod.get dc_305_49 fr_305_135 (mk_61 _) rfl ?_
  refine Bod.aldnG dc_305_52 (by repeat (first | exact q0 | exact sm_get_p1 | exact sm_get_p2e | refine sm_get_p1m (by decide) (by decide) ?_ | refine sm_get_p1n (by decide) rfl ?_ | refine sm_get_p2n (by decide) (by decide) rfl ?_)) ?_
  refine Bod.get dc_305_53 fr_305_190 (mk_61 _) rfl ?_
  refine Bod.eqI (nI k) (by first | assumption | rfl | exact congrArg nI (by omega) | (simp (disch := omega) only [rI, rIe, rA, rIA, rLA, rJA, rVI, rQI, rVA, rQA, upd_at,  rAI, rLI, rJI, nI_add, pk_sub, kc_0, kc_1, kc_2, kc_3, kc_4, kc_5, reduceIte, Nat.reduceEqDiff, Nat.add_zero, rI_hold, rI_hold, rL_hold, hk, he67]; done)) ?_
  refine Bod.ialdN k rfl (by omega) (by omega) dc_305_56 (mk_68 _) ?_
  refine Bod.eqI (nI e68) (by first | assumption | rfl | exact congrArg nI (by omega) | (simp (disch := omega) only [rI, rIe, rA, rIA, rLA, rJA, rVI, rQI, rVA, rQA, upd_at,  rAI, rLI, rJI, nI_add, pk_sub, kc_0, kc_1, kc_2, kc_3, kc_4, kc_5, reduceIte, Nat.reduceEqDiff, Nat.add_zero, rI_hold, rI_hold, rL_hold, hk, he67, he68]; done)) ?_
  refine Bod.go dc_305_57 rfl ?_
  refine Bod.ist dc_305_61 (by rw [ml_305]; exact Nat.le_of_ble_eq_true rfl) ?_
  refine Bod.ildG dc_305_63 (by repeat (first | exact q0 | exact sm_get_p1 | exact sm_get_p2e | refine sm_get_p1m (by decide) (by decide) ?_ | refine sm_get_p1n (by decide) rfl ?_ | refine sm_get_p2n (by decide) (by decide) rfl ?_)) ?_
  refine Bod.bip 61 (by decide) dc_305_65 ?_
  refine Bod.icT dc_305_67 rfl (k2_ne_T (k_ne e68 61 rfl rfl (by omega) (by omega) (by omega))) ?_
  refine Bod.ildG dc_305_205 (by repeat (first | exact q0 | exact sm_get_p1 | exact sm_get_p2e | refine sm_get_p1m (by decide) (by decide) ?_ | refine sm_get_p1n (by decide) rfl ?_ | refine sm_get_p2n (by decide) (by decide) rfl ?_)) ?_
  refine Bod.sip 256 (by decide) dc_305_207 ?_
  refine Bod.icF dc_305_210 rfl (k2_le_F e68 256 rfl rfl (by omega) (by omega)) ?_
  refine Bod.ildG dc_305_213 (by repeat (first | exact q0 | exact sm_get_p1 | exact sm_get_p2e | refine sm_get_p1m (by decide) (by decide) ?_ | refine sm_get_p1n (by decide) rfl ?_ | refine sm_get_p2n (by decide) (by decide) rfl ?_)) ?_
  refine Bod.sip 256 (by decide) dc_305_215 ?_
  refine Bod.iremN (e68 % 256) (by omega) (by omega) (by omega) rfl dc_305_218 ?_
  refine Bod.bip 61 (by decide) dc_305_219 ?_
  refine Bod.icT dc_305_221 rfl (k2_ne_T (k_ne (e68 % 256) 61 rfl rfl (by omega) (by omega) (by omega))) ?_
  refine Bod.aldnG dc_305_387 (by repeat (first | exact q0 | exact sm_get_p1 | exact sm_get_p2e | refine sm_get_p1m (by decide) (by decide) ?_ | refine sm_get_p1n (by decide) rfl ?_ | refine sm_get_p2n (by decide) (by decide) rfl ?_)) ?_
  refine Bod.bip 20 (by decide) dc_305_388 ?_
  refine Bod.virt (r := []) dc_305_390 kr_305_269 ⟨Or.inl rfl, ow_322, cl_14⟩ (by rw [np_322]; rfl) (by rw [np_322]; rfl) (ob_of (mk_61 _)) (Nat.le_of_ble_eq_true rfl) (c1  ) ?_
  show Bod _ _ _ _ [] _ _ _
  refine Bod.ic 1 (by decide) dc_305_393 ?_
  exact Bod.retZ dc_305_394 rt_305 (Or.inr rfl)
theorem zAt_4 {d : Nat} {S Sf : cS} {v : Option Value} {lv : sm_L} {lc : Nat} {lg : Nat} {lnm : Int32} {k : Nat} {e67 : Nat} {e68 : Nat} (q0 : sm_get lv 0 = some (.ref 61)) (q1 : sm_get lv 1 = some (.int (nI lc))) (q2 : sm_get lv 2 = some (.int (nI lg))) (q3 : sm_get lv 3 = some (.int lnm)) (mlc : lc < 2 ^ 20) (mlg : lg < 2 ^ 20) (hk : sI S 6115 = nI k) (mk : k < 6001) (he67 : sA S 67 k = nI e67) (me67 : e67 < 2 ^ 20) (b1 : e67 = 5) (he68 : sA S 68 k = nI e68) (me68 : e68 < 2 ^ 20) (b2 : e68 ≠ 61) (b3 : 256 < e68) (b4 : (e68 % 256) = 61) (b5 : (e68 / 256) = 43) (hB : ∀ lv1 : sm_L, sm_get lv1 0 = some (.ref 61) → sm_get lv1 2 = some (.int (nI lg)) → sm_get lv1 3 = some (.int lnm) → sm_get lv1 4 = some (.int (nI e68)) → Bod (d + 8) 305 257 lv1 [] (S) v Sf) : Bod (d + 8) 305 35 lv [] S v Sf := by
  refine Bod.aldnG dc_305_35 (by repeat (first | exact q0 | exact sm_get_p1 | exact sm_get_p2e | refine sm_get_p1m (by decide) (by decide) ?_ | refine sm_get_p1n (by decide) rfl ?_ | refine sm_get_p2n (by decide) (by decide) rfl ?_)) ?_
  refine Bod.get dc_305_36 fr_305_129 (mk_61 _) rfl ?_
  refine Bod.aldnG dc_305_39 (by repeat (first | exact q0 | exact sm_get_p1 | exact sm_get_p2e | refine sm_get_p1m (by decide) (by decide) ?_ | refine sm_get_p1n (by decide) rfl ?_ | refine sm_get_p2n (by decide) (by decide) rfl ?_)) ?_
  refine Bod.get dc_305_40 fr_305_190 (mk_61 _) rfl ?_
  refine Bod.eqI (nI k) (by first | assumption | rfl | exact congrArg nI (by omega) | (simp (disch := omega) only [rI, rIe, rA, rIA, rLA, rJA, rVI, rQI, rVA, rQA, upd_at,  rAI, rLI, rJI, nI_add, pk_sub, kc_0, kc_1, kc_2, kc_3, kc_4, kc_5, reduceIte, Nat.reduceEqDiff, Nat.add_zero, rI_hold, rI_hold, rL_hold, hk]; done)) ?_
  refine Bod.ialdN k rfl (by omega) (by omega) dc_305_43 (mk_67 _) ?_
  refine Bod.eqI (nI e67) (by first | assumption | rfl | exact congrArg nI (by omega) | (simp (disch := omega) only [rI, rIe, rA, rIA, rLA, rJA, rVI, rQI, rVA, rQA, upd_at,  rAI, rLI, rJI, nI_add, pk_sub, kc_0, kc_1, kc_2, kc_3, kc_4, kc_5, reduceIte, Nat.reduceEqDiff, Nat.add_zero, rI_hold, rI_hold, rL_hold, hk, he67]; done)) ?_
  refine Bod.ic 5 (by decide) dc_305_44 ?_
  refine Bod.icF dc_305_45 rfl (k2_ne_F (k_eq e67 5 rfl rfl (by omega))) ?_
  refine Bod.aldnG dc_305_48 (by repeat (first | exact q0 | exact sm_get_p1 | exact sm_get_p2e | refine sm_get_p1m (by decide) (by decide) ?_ | refine sm_get_p1n (by decide) rfl ?_ | refine sm_get_p2n (by decide) (by decide) rfl ?_)) ?_
  refine Bod.get dc_305_49 fr_305_135 (mk_61 _) rfl ?_
  refine Bod.aldnG dc_305_52 (by repeat (first | exact q0 | exact sm_get_p1 | exact sm_get_p2e | refine sm_get_p1m (by decide) (by decide) ?_ | refine sm_get_p1n (by decide) rfl ?_ | refine sm_get_p2n (by decide) (by decide) rfl ?_)) ?_
  refine Bod.get dc_305_53 fr_305_190 (mk_61 _) rfl ?_
  refine Bod.eqI (nI k) (by first | assumption | rfl | exact congrArg nI (by omega) | (simp (disch := omega) only [rI, rIe, rA, rIA, rLA, rJA, rVI, rQI, rVA, rQA, upd_at,  rAI, rLI, rJI, nI_add, pk_sub, kc_0, kc_1, kc_2, kc_3, kc_4, kc_5, reduceIte, Nat.reduceEqDiff, Nat.add_zero, rI_hold, rI_hold, rL_hold, hk, he67]; done)) ?_
  refine Bod.ialdN k rfl (by omega) (by omega) dc_305_56 (mk_68 _) ?_
  refine Bod.eqI (nI e68) (by first | assumption | rfl | exact congrArg nI (by omega) | (simp (disch := omega) only [rI, rIe, rA, rIA, rLA, rJA, rVI, rQI, rVA, rQA, upd_at,  rAI, rLI, rJI, nI_add, pk_sub, kc_0, kc_1, kc_2, kc_3, kc_4, kc_5, reduceIte, Nat.reduceEqDiff, Nat.add_zero, rI_hold, rI_hold, rL_hold, hk, he67, he68]; done)) ?_
  refine Bod.go dc_305_57 rfl ?_
  refine Bod.ist dc_305_61 (by rw [ml_305]; exact Nat.le_of_ble_eq_true rfl) ?_
  refine Bod.ildG dc_305_63 (by repeat (first | exact q0 | exact sm_get_p1 | exact sm_get_p2e | refine sm_get_p1m (by decide) (by decide) ?_ | refine sm_get_p1n (by decide) rfl ?_ | refine sm_get_p2n (by decide) (by decide) rfl ?_)) ?_
  refine Bod.bip 61 (by decide) dc_305_65 ?_
  refine Bod.icT dc_305_67 rfl (k2_ne_T (k_ne e68 61 rfl rfl (by omega) (by omega) (by omega))) ?_
  refine Bod.ildG dc_305_205 (by repeat (first | exact q0 | exact sm_get_p1 | exact sm_get_p2e | refine sm_get_p1m (by decide) (by decide) ?_ | refine sm_get_p1n (by decide) rfl ?_ | refine sm_get_p2n (by decide) (by decide) rfl ?_)) ?_
  refine Bod.sip 256 (by decide) dc_305_207 ?_
  refine Bod.icF dc_305_210 rfl (k2_le_F e68 256 rfl rfl (by omega) (by omega)) ?_
  refine Bod.ildG dc_305_213 (by repeat (first | exact q0 | exact sm_get_p1 | exact sm_get_p2e | refine sm_get_p1m (by decide) (by decide) ?_ | refine sm_get_p1n (by decide) rfl ?_ | refine sm_get_p2n (by decide) (by decide) rfl ?_)) ?_
  refine Bod.sip 256 (by decide) dc_305_215 ?_
  refine Bod.iremN (e68 % 256) (by omega) (by omega) (by omega) rfl dc_305_218 ?_
  refine Bod.bip 61 (by decide) dc_305_219 ?_
  refine Bod.icF dc_305_221 rfl (k2_ne_F (k_eq (e68 % 256) 61 rfl rfl (by omega))) ?_
  refine Bod.ildG dc_305_224 (by repeat (first | exact q0 | exact sm_get_p1 | exact sm_get_p2e | refine sm_get_p1m (by decide) (by decide) ?_ | refine sm_get_p1n (by decide) rfl ?_ | refine sm_get_p2n (by decide) (by decide) rfl ?_)) ?_
  refine Bod.sip 256 (by decide) dc_305_226 ?_
  refine Bod.idivN (e68 / 256) (by omega) (by omega) (by omega) rfl dc_305_229 ?_
  refine Bod.bip 43 (by decide) dc_305_230 ?_
  refine Bod.icT dc_305_232 rfl (k2_eq_T (k_eq (e68 / 256) 43 rfl rfl (by omega))) ?_
  exact hB _ (by repeat (first | exact q0 | exact sm_get_p1 | exact sm_get_p2e | refine sm_get_p1m (by decide) (by decide) ?_ | refine sm_get_p1n (by decide) rfl ?_ | refine sm_get_p2n (by decide) (by decide) rfl ?_)) (by repeat (first | exact q2 | exact sm_get_p1 | exact sm_get_p2e | refine sm_get_p1m (by decide) (by decide) ?_ | refine sm_get_p1n (by decide) rfl ?_ | refine sm_get_p2n (by decide) (by decide) rfl ?_)) (by repeat (first | exact q3 | exact sm_get_p1 | exact sm_get_p2e | refine sm_get_p1m (by decide) (by decide) ?_ | refine sm_get_p1n (by decide) rfl ?_ | refine sm_get_p2n (by decide) (by decide) rfl ?_)) (by repeat (first | exact q0 | exact sm_get_p1 | exact sm_get_p2e | refine sm_get_p1m (by decide) (by decide) ?_ | refine sm_get_p1n (by decide) rfl ?_ | refine sm_get_p2n (by decide) (by decide) rfl ?_))
theorem zAt_5 {d : Nat} {S Sf : cS} {v : Option Value} {lv : sm_L} {lc : Nat} {lg : Nat} {lnm : Int32} {k : Nat} {e67 : Nat} {e68 : Nat} (q0 : sm_get lv 0 = some (.ref 61)) (q1 : sm_get lv 1 = some (.int (nI lc))) (q2 : sm_get lv 2 = some (.int (nI lg))) (q3 : sm_get lv 3 = some (.int lnm)) (mlc : lc < 2 ^ 20) (mlg : lg < 2 ^ 20) (hk : sI S 6115 = nI k) (mk : k < 6001) (he67 : sA S 67 k = nI e67) (me67 : e67 < 2 ^ 20) (b1 : e67 = 5) (he68 : sA S 68 k = nI e68) (me68 : e68 < 2 ^ 20) (b2 : e68 ≠ 61) (b3 : 256 < e68) (b4 : (e68 % 256) = 61) (b5 : (e68 / 256) ≠ 43) (b6 : (e68 / 256) = 45) (hB : ∀ lv1 : sm_L, sm_get lv1 0 = some (.ref 61) → sm_get lv1 2 = some (.int (nI lg)) → sm_get lv1 3 = some (.int lnm) → sm_get lv1 4 = some (.int (nI e68)) → Bod (d + 8) 305 257 lv1 [] (S) v Sf) : Bod (d + 8) 305 35 lv [] S v Sf := by
  refine Bod.aldnG dc_305_35 (by repeat (first | exact q0 | exact sm_get_p1 | exact sm_get_p2e | refine sm_get_p1m (by decide) (by decide) ?_ | refine sm_get_p1n (by decide) rfl ?_ | refine sm_get_p2n (by decide) (by decide) rfl ?_)) ?_
  refine Bod.get dc_305_36 fr_305_129 (mk_61 _) rfl ?_
  refine Bod.aldnG dc_305_39 (by repeat (first | exact q0 | exact sm_get_p1 | exact sm_get_p2e | refine sm_get_p1m (by decide) (by decide) ?_ | refine sm_get_p1n (by decide) rfl ?_ | refine sm_get_p2n (by decide) (by decide) rfl ?_)) ?_
  refine Bod.get dc_305_40 fr_305_190 (mk_61 _) rfl ?_
  refine Bod.eqI (nI k) (by first | assumption | rfl | exact congrArg nI (by omega) | (simp (disch := omega) only [rI, rIe, rA, rIA, rLA, rJA, rVI, rQI, rVA, rQA, upd_at,  rAI, rLI, rJI, nI_add, pk_sub, kc_0, kc_1, kc_2, kc_3, kc_4, kc_5, reduceIte, Nat.reduceEqDiff, Nat.add_zero, rI_hold, rI_hold, rL_hold, hk]; done)) ?_
  refine Bod.ialdN k rfl (by omega) (by omega) dc_305_43 (mk_67 _) ?_
  refine Bod.eqI (nI e67) (by first | assumption | rfl | exact congrArg nI (by omega) | (simp (disch := omega) only [rI, rIe, rA, rIA, rLA, rJA, rVI, rQI, rVA, rQA, upd_at,  rAI, rLI, rJI, nI_add, pk_sub, kc_0, kc_1, kc_2, kc_3, kc_4, kc_5, reduceIte, Nat.reduceEqDiff, Nat.add_zero, rI_hold, rI_hold, rL_hold, hk, he67]; done)) ?_
  refine Bod.ic 5 (by decide) dc_305_44 ?_
  refine Bod.icF dc_305_45 rfl (k2_ne_F (k_eq e67 5 rfl rfl (by omega))) ?_
  refine Bod.aldnG dc_305_48 (by repeat (first | exact q0 | exact sm_get_p1 | exact sm_get_p2e | refine sm_get_p1m (by decide) (by decide) ?_ | refine sm_get_p1n (by decide) rfl ?_ | refine sm_get_p2n (by decide) (by decide) rfl ?_)) ?_
  refine Bod.get dc_305_49 fr_305_135 (mk_61 _) rfl ?_
  refine Bod.aldnG dc_305_52 (by repeat (first | exact q0 | exact sm_get_p1 | exact sm_get_p2e | refine sm_get_p1m (by decide) (by decide) ?_ | refine sm_get_p1n (by decide) rfl ?_ | refine sm_get_p2n (by decide) (by decide) rfl ?_)) ?_
  refine Bod.get dc_305_53 fr_305_190 (mk_61 _) rfl ?_
  refine Bod.eqI (nI k) (by first | assumption | rfl | exact congrArg nI (by omega) | (simp (disch := omega) only [rI, rIe, rA, rIA, rLA, rJA, rVI, rQI, rVA, rQA, upd_at,  rAI, rLI, rJI, nI_add, pk_sub, kc_0, kc_1, kc_2, kc_3, kc_4, kc_5, reduceIte, Nat.reduceEqDiff, Nat.add_zero, rI_hold, rI_hold, rL_hold, hk, he67]; done)) ?_
  refine Bod.ialdN k rfl (by omega) (by omega) dc_305_56 (mk_68 _) ?_
  refine Bod.eqI (nI e68) (by first | assumption | rfl | exact congrArg nI (by omega) | (simp (disch := omega) only [rI, rIe, rA, rIA, rLA, rJA, rVI, rQI, rVA, rQA, upd_at,  rAI, rLI, rJI, nI_add, pk_sub, kc_0, kc_1, kc_2, kc_3, kc_4, kc_5, reduceIte, Nat.reduceEqDiff, Nat.add_zero, rI_hold, rI_hold, rL_hold, hk, he67, he68]; done)) ?_
  refine Bod.go dc_305_57 rfl ?_
  refine Bod.ist dc_305_61 (by rw [ml_305]; exact Nat.le_of_ble_eq_true rfl) ?_
  refine Bod.ildG dc_305_63 (by repeat (first | exact q0 | exact sm_get_p1 | exact sm_get_p2e | refine sm_get_p1m (by decide) (by decide) ?_ | refine sm_get_p1n (by decide) rfl ?_ | refine sm_get_p2n (by decide) (by decide) rfl ?_)) ?_
  refine Bod.bip 61 (by decide) dc_305_65 ?_
  refine Bod.icT dc_305_67 rfl (k2_ne_T (k_ne e68 61 rfl rfl (by omega) (by omega) (by omega))) ?_
  refine Bod.ildG dc_305_205 (by repeat (first | exact q0 | exact sm_get_p1 | exact sm_get_p2e | refine sm_get_p1m (by decide) (by decide) ?_ | refine sm_get_p1n (by decide) rfl ?_ | refine sm_get_p2n (by decide) (by decide) rfl ?_)) ?_
  refine Bod.sip 256 (by decide) dc_305_207 ?_
  refine Bod.icF dc_305_210 rfl (k2_le_F e68 256 rfl rfl (by omega) (by omega)) ?_
  refine Bod.ildG dc_305_213 (by repeat (first | exact q0 | exact sm_get_p1 | exact sm_get_p2e | refine sm_get_p1m (by decide) (by decide) ?_ | refine sm_get_p1n (by decide) rfl ?_ | refine sm_get_p2n (by decide) (by decide) rfl ?_)) ?_
  refine Bod.sip 256 (by decide) dc_305_215 ?_
  refine Bod.iremN (e68 % 256) (by omega) (by omega) (by omega) rfl dc_305_218 ?_
  refine Bod.bip 61 (by decide) dc_305_219 ?_
  refine Bod.icF dc_305_221 rfl (k2_ne_F (k_eq (e68 % 256) 61 rfl rfl (by omega))) ?_
  refine Bod.ildG dc_305_224 (by repeat (first | exact q0 | exact sm_get_p1 | exact sm_get_p2e | refine sm_get_p1m (by decide) (by decide) ?_ | refine sm_get_p1n (by decide) rfl ?_ | refine sm_get_p2n (by decide) (by decide) rfl ?_)) ?_
  refine Bod.sip 256 (by decide) dc_305_226 ?_
  refine Bod.idivN (e68 / 256) (by omega) (by omega) (by omega) rfl dc_305_229 ?_
  refine Bod.bip 43 (by decide) dc_305_230 ?_
  refine Bod.icF dc_305_232 rfl (k2_eq_F (k_ne (e68 / 256) 43 rfl rfl (by omega) (by omega) (by omega))) ?_
  refine Bod.ildG dc_305_235 (by repeat (first | exact q0 | exact sm_get_p1 | exact sm_get_p2e | refine sm_get_p1m (by decide) (by decide) ?_ | refine sm_get_p1n (by decide) rfl ?_ | refine sm_get_p2n (by decide) (by decide) rfl ?_)) ?_
  refine Bod.sip 256 (by decide) dc_305_237 ?_
  refine Bod.idivN (e68 / 256) (by omega) (by omega) (by omega) rfl dc_305_240 ?_
  refine Bod.bip 45 (by decide) dc_305_241 ?_
  refine Bod.icT dc_305_243 rfl (k2_eq_T (k_eq (e68 / 256) 45 rfl rfl (by omega))) ?_
  exact hB _ (by repeat (first | exact q0 | exact sm_get_p1 | exact sm_get_p2e | refine sm_get_p1m (by decide) (by decide) ?_ | refine sm_get_p1n (by decide) rfl ?_ | refine sm_get_p2n (by decide) (by decide) rfl ?_)) (by repeat (first | exact q2 | exact sm_get_p1 | exact sm_get_p2e | refine sm_get_p1m (by decide) (by decide) ?_ | refine sm_get_p1n (by decide) rfl ?_ | refine sm_get_p2n (by decide) (by decide) rfl ?_)) (by repeat (first | exact q3 | exact sm_get_p1 | exact sm_get_p2e | refine sm_get_p1m (by decide) (by decide) ?_ | refine sm_get_p1n (by decide) rfl ?_ | refine sm_get_p2n (by decide) (by decide) rfl ?_)) (by repeat (first | exact q0 | exact sm_get_p1 | exact sm_get_p2e | refine sm_get_p1m (by decide) (by decide) ?_ | refine sm_get_p1n (by decide) rfl ?_ | refine sm_get_p2n (by decide) (by decide) rfl ?_))
theorem zAt_6 {d : Nat} {S : cS} {lv : sm_L} {lc : Nat} {lg : Nat} {lnm : Int32} {k : Nat} {e67 : Nat} {e68 : Nat} {S1 : cS} (q0 : sm_get lv 0 = some (.ref 61)) (q1 : sm_get lv 1 = some (.int (nI lc))) (q2 : sm_get lv 2 = some (.int (nI lg))) (q3 : sm_get lv 3 = some (.int lnm)) (mlc : lc < 2 ^ 20) (mlg : lg < 2 ^ 20) (hk : sI S 6115 = nI k) (mk : k < 6001) (he67 : sA S 67 k = nI e67) (me67 : e67 < 2 ^ 20) (b1 : e67 = 5) (he68 : sA S 68 k = nI e68) (me68 : e68 < 2 ^ 20) (b2 : e68 ≠ 61) (b3 : 256 < e68) (b4 : (e68 % 256) = 61) (b5 : (e68 / 256) ≠ 43) (b6 : (e68 / 256) ≠ 45) (b7 : (e68 / 256) ≠ 42) (c1 : Ans (d + 8) 322 [.ref 61, .int (nI 20)] S none S1) : Bod (d + 8) 305 35 lv [] S (some (.int 1)) (S1) := by
  refine Bod.aldnG dc_305_35 (by repeat (first | exact q0 | exact sm_get_p1 | exact sm_get_p2e | refine sm_get_p1m (by decide) (by decide) ?_ | refine sm_get_p1n (by decide) rfl ?_ | refine sm_get_p2n (by decide) (by decide) rfl ?_)) ?_
  refine Bod.get dc_305_36 fr_305_129 (mk_61 _) rfl ?_
  refine Bod.aldnG dc_305_39 (by repeat (first | exact q0 | exact sm_get_p1 | exact sm_get_p2e | refine sm_get_p1m (by decide) (by decide) ?_ | refine sm_get_p1n (by decide) rfl ?_ | refine sm_get_p2n (by decide) (by decide) rfl ?_)) ?_
  refine Bod.get dc_305_40 fr_305_190 (mk_61 _) rfl ?_
  refine Bod.eqI (nI k) (by first | assumption | rfl | exact congrArg nI (by omega) | (simp (disch := omega) only [rI, rIe, rA, rIA, rLA, rJA, rVI, rQI, rVA, rQA, upd_at,  rAI, rLI, rJI, nI_add, pk_sub, kc_0, kc_1, kc_2, kc_3, kc_4, kc_5, reduceIte, Nat.reduceEqDiff, Nat.add_zero, rI_hold, rI_hold, rL_hold, hk]; done)) ?_
  refine Bod.ialdN k rfl (by omega) (by omega) dc_305_43 (mk_67 _) ?_
  refine Bod.eqI (nI e67) (by first | assumption | rfl | exact congrArg nI (by omega) | (simp (disch := omega) only [rI, rIe, rA, rIA, rLA, rJA, rVI, rQI, rVA, rQA, upd_at,  rAI, rLI, rJI, nI_add, pk_sub, kc_0, kc_1, kc_2, kc_3, kc_4, kc_5, reduceIte, Nat.reduceEqDiff, Nat.add_zero, rI_hold, rI_hold, rL_hold, hk, he67]; done)) ?_
  refine Bod.ic 5 (by decide) dc_305_44 ?_
  refine Bod.icF dc_305_45 rfl (k2_ne_F (k_eq e67 5 rfl rfl (by omega))) ?_
  refine Bod.aldnG dc_305_48 (by repeat (first | exact q0 | exact sm_get_p1 | exact sm_get_p2e | refine sm_get_p1m (by decide) (by decide) ?_ | refine sm_get_p1n (by decide) rfl ?_ | refine sm_get_p2n (by decide) (by decide) rfl ?_)) ?_
  refine Bod.get dc_305_49 fr_305_135 (mk_61 _) rfl ?_
  refine Bod.aldnG dc_305_52 (by repeat (first | exact q0 | exact sm_get_p1 | exact sm_get_p2e | refine sm_get_p1m (by decide) (by decide) ?_ | refine sm_get_p1n (by decide) rfl ?_ | refine sm_get_p2n (by decide) (by decide) rfl ?_)) ?_
  refine Bod.get dc_305_53 fr_305_190 (mk_61 _) rfl ?_
  refine Bod.eqI (nI k) (by first | assumption | rfl | exact congrArg nI (by omega) | (simp (disch := omega) only [rI, rIe, rA, rIA, rLA, rJA, rVI, rQI, rVA, rQA, upd_at,  rAI, rLI, rJI, nI_add, pk_sub, kc_0, kc_1, kc_2, kc_3, kc_4, kc_5, reduceIte, Nat.reduceEqDiff, Nat.add_zero, rI_hold, rI_hold, rL_hold, hk, he67]; done)) ?_
  refine Bod.ialdN k rfl (by omega) (by omega) dc_305_56 (mk_68 _) ?_
  refine Bod.eqI (nI e68) (by first | assumption | rfl | exact congrArg nI (by omega) | (simp (disch := omega) only [rI, rIe, rA, rIA, rLA, rJA, rVI, rQI, rVA, rQA, upd_at,  rAI, rLI, rJI, nI_add, pk_sub, kc_0, kc_1, kc_2, kc_3, kc_4, kc_5, reduceIte, Nat.reduceEqDiff, Nat.add_zero, rI_hold, rI_hold, rL_hold, hk, he67, he68]; done)) ?_
  refine Bod.go dc_305_57 rfl ?_
  refine Bod.ist dc_305_61 (by rw [ml_305]; exact Nat.le_of_ble_eq_true rfl) ?_
  refine Bod.ildG dc_305_63 (by repeat (first | exact q0 | exact sm_get_p1 | exact sm_get_p2e | refine sm_get_p1m (by decide) (by decide) ?_ | refine sm_get_p1n (by decide) rfl ?_ | refine sm_get_p2n (by decide) (by decide) rfl ?_)) ?_
  refine Bod.bip 61 (by decide) dc_305_65 ?_
  refine Bod.icT dc_305_67 rfl (k2_ne_T (k_ne e68 61 rfl rfl (by omega) (by omega) (by omega))) ?_
  refine Bod.ildG dc_305_205 (by repeat (first | exact q0 | exact sm_get_p1 | exact sm_get_p2e | refine sm_get_p1m (by decide) (by decide) ?_ | refine sm_get_p1n (by decide) rfl ?_ | refine sm_get_p2n (by decide) (by decide) rfl ?_)) ?_
  refine Bod.sip 256 (by decide) dc_305_207 ?_
  refine Bod.icF dc_305_210 rfl (k2_le_F e68 256 rfl rfl (by omega) (by omega)) ?_
  refine Bod.ildG dc_305_213 (by repeat (first | exact q0 | exact sm_get_p1 | exact sm_get_p2e | refine sm_get_p1m (by decide) (by decide) ?_ | refine sm_get_p1n (by decide) rfl ?_ | refine sm_get_p2n (by decide) (by decide) rfl ?_)) ?_
  refine Bod.sip 256 (by decide) dc_305_215 ?_
  refine Bod.iremN (e68 % 256) (by omega) (by omega) (by omega) rfl dc_305_218 ?_
  refine Bod.bip 61 (by decide) dc_305_219 ?_
  refine Bod.icF dc_305_221 rfl (k2_ne_F (k_eq (e68 % 256) 61 rfl rfl (by omega))) ?_
  refine Bod.ildG dc_305_224 (by repeat (first | exact q0 | exact sm_get_p1 | exact sm_get_p2e | refine sm_get_p1m (by decide) (by decide) ?_ | refine sm_get_p1n (by decide) rfl ?_ | refine sm_get_p2n (by decide) (by decide) rfl ?_)) ?_
  refine Bod.sip 256 (by decide) dc_305_226 ?_
  refine Bod.idivN (e68 / 256) (by omega) (by omega) (by omega) rfl dc_305_229 ?_
  refine Bod.bip 43 (by decide) dc_305_230 ?_
  refine Bod.icF dc_305_232 rfl (k2_eq_F (k_ne (e68 / 256) 43 rfl rfl (by omega) (by omega) (by omega))) ?_
  refine Bod.ildG dc_305_235 (by repeat (first | exact q0 | exact sm_get_p1 | exact sm_get_p2e | refine sm_get_p1m (by decide) (by decide) ?_ | refine sm_get_p1n (by decide) rfl ?_ | refine sm_get_p2n (by decide) (by decide) rfl ?_)) ?_
  refine Bod.sip 256 (by decide) dc_305_237 ?_
  refine Bod.idivN (e68 / 256) (by omega) (by omega) (by omega) rfl dc_305_240 ?_
  refine Bod.bip 45 (by decide) dc_305_241 ?_
  refine Bod.icF dc_305_243 rfl (k2_eq_F (k_ne (e68 / 256) 45 rfl rfl (by omega) (by omega) (by omega))) ?_
  refine Bod.ildG dc_305_246 (by repeat (first | exact q0 | exact sm_get_p1 | exact sm_get_p2e | refine sm_get_p1m (by decide) (by decide) ?_ | refine sm_get_p1n (by decide) rfl ?_ | refine sm_get_p2n (by decide) (by decide) rfl ?_)) ?_
  refine Bod.sip 256 (by decide) dc_305_248 ?_
  refine Bod.idivN (e68 / 256) (by omega) (by omega) (by omega) rfl dc_305_251 ?_
  refine Bod.bip 42 (by decide) dc_305_252 ?_
  refine Bod.icT dc_305_254 rfl (k2_ne_T (k_ne (e68 / 256) 42 rfl rfl (by omega) (by omega) (by omega))) ?_
  refine Bod.aldnG dc_305_387 (by repeat (first | exact q0 | exact sm_get_p1 | exact sm_get_p2e | refine sm_get_p1m (by decide) (by decide) ?_ | refine sm_get_p1n (by decide) rfl ?_ | refine sm_get_p2n (by decide) (by decide) rfl ?_)) ?_
  refine Bod.bip 20 (by decide) dc_305_388 ?_
  refine Bod.virt (r := []) dc_305_390 kr_305_269 ⟨Or.inl rfl, ow_322, cl_14⟩ (by rw [np_322]; rfl) (by rw [np_322]; rfl) (ob_of (mk_61 _)) (Nat.le_of_ble_eq_true rfl) (c1  ) ?_
  show Bod _ _ _ _ [] _ _ _
  refine Bod.ic 1 (by decide) dc_305_393 ?_
  exact Bod.retZ dc_305_394 rt_305 (Or.inr rfl)
theorem zAt_7 {d : Nat} {S Sf : cS} {v : Option Value} {lv : sm_L} {lc : Nat} {lg : Nat} {lnm : Int32} {k : Nat} {e67 : Nat} {e68 : Nat} (q0 : sm_get lv 0 = some (.ref 61)) (q1 : sm_get lv 1 = some (.int (nI lc))) (q2 : sm_get lv 2 = some (.int (nI lg))) (q3 : sm_get lv 3 = some (.int lnm)) (mlc : lc < 2 ^ 20) (mlg : lg < 2 ^ 20) (hk : sI S 6115 = nI k) (mk : k < 6001) (he67 : sA S 67 k = nI e67) (me67 : e67 < 2 ^ 20) (b1 : e67 = 5) (he68 : sA S 68 k = nI e68) (me68 : e68 < 2 ^ 20) (b2 : e68 ≠ 61) (b3 : 256 < e68) (b4 : (e68 % 256) = 61) (b5 : (e68 / 256) ≠ 43) (b6 : (e68 / 256) ≠ 45) (b7 : (e68 / 256) = 42) (hB : ∀ lv1 : sm_L, sm_get lv1 0 = some (.ref 61) → sm_get lv1 2 = some (.int (nI lg)) → sm_get lv1 3 = some (.int lnm) → sm_get lv1 4 = some (.int (nI e68)) → Bod (d + 8) 305 257 lv1 [] (S) v Sf) : Bod (d + 8) 305 35 lv [] S v Sf := by
  refine Bod.aldnG dc_305_35 (by repeat (first | exact q0 | exact sm_get_p1 | exact sm_get_p2e | refine sm_get_p1m (by decide) (by decide) ?_ | refine sm_get_p1n (by decide) rfl ?_ | refine sm_get_p2n (by decide) (by decide) rfl ?_)) ?_
  refine Bod.get dc_305_36 fr_305_129 (mk_61 _) rfl ?_
  refine Bod.aldnG dc_305_39 (by repeat (first | exact q0 | exact sm_get_p1 | exact sm_get_p2e | refine sm_get_p1m (by decide) (by decide) ?_ | refine sm_get_p1n (by decide) rfl ?_ | refine sm_get_p2n (by decide) (by decide) rfl ?_)) ?_
  refine Bod.get dc_305_40 fr_305_190 (mk_61 _) rfl ?_
  refine Bod.eqI (nI k) (by first | assumption | rfl | exact congrArg nI (by omega) | (simp (disch := omega) only [rI, rIe, rA, rIA, rLA, rJA, rVI, rQI, rVA, rQA, upd_at,  rAI, rLI, rJI, nI_add, pk_sub, kc_0, kc_1, kc_2, kc_3, kc_4, kc_5, reduceIte, Nat.reduceEqDiff, Nat.add_zero, rI_hold, rI_hold, rL_hold, hk]; done)) ?_
  refine Bod.ialdN k rfl (by omega) (by omega) dc_305_43 (mk_67 _) ?_
  refine Bod.eqI (nI e67) (by first | assumption | rfl | exact congrArg nI (by omega) | (simp (disch := omega) only [rI, rIe, rA, rIA, rLA, rJA, rVI, rQI, rVA, rQA, upd_at,  rAI, rLI, rJI, nI_add, pk_sub, kc_0, kc_1, kc_2, kc_3, kc_4, kc_5, reduceIte, Nat.reduceEqDiff, Nat.add_zero, rI_hold, rI_hold, rL_hold, hk, he67]; done)) ?_
  refine Bod.ic 5 (by decide) dc_305_44 ?_
  refine Bod.icF dc_305_45 rfl (k2_ne_F (k_eq e67 5 rfl rfl (by omega))) ?_
  refine Bod.aldnG dc_305_48 (by repeat (first | exact q0 | exact sm_get_p1 | exact sm_get_p2e | refine sm_get_p1m (by decide) (by decide) ?_ | refine sm_get_p1n (by decide) rfl ?_ | refine sm_get_p2n (by decide) (by decide) rfl ?_)) ?_
  refine Bod.get dc_305_49 fr_305_135 (mk_61 _) rfl ?_
  refine Bod.aldnG dc_305_52 (by repeat (first | exact q0 | exact sm_get_p1 | exact sm_get_p2e | refine sm_get_p1m (by decide) (by decide) ?_ | refine sm_get_p1n (by decide) rfl ?_ | refine sm_get_p2n (by decide) (by decide) rfl ?_)) ?_
  refine Bod.get dc_305_53 fr_305_190 (mk_61 _) rfl ?_
  refine Bod.eqI (nI k) (by first | assumption | rfl | exact congrArg nI (by omega) | (simp (disch := omega) only [rI, rIe, rA, rIA, rLA, rJA, rVI, rQI, rVA, rQA, upd_at,  rAI, rLI, rJI, nI_add, pk_sub, kc_0, kc_1, kc_2, kc_3, kc_4, kc_5, reduceIte, Nat.reduceEqDiff, Nat.add_zero, rI_hold, rI_hold, rL_hold, hk, he67]; done)) ?_
  refine Bod.ialdN k rfl (by omega) (by omega) dc_305_56 (mk_68 _) ?_
  refine Bod.eqI (nI e68) (by first | assumption | rfl | exact congrArg nI (by omega) | (simp (disch := omega) only [rI, rIe, rA, rIA, rLA, rJA, rVI, rQI, rVA, rQA, upd_at,  rAI, rLI, rJI, nI_add, pk_sub, kc_0, kc_1, kc_2, kc_3, kc_4, kc_5, reduceIte, Nat.reduceEqDiff, Nat.add_zero, rI_hold, rI_hold, rL_hold, hk, he67, he68]; done)) ?_
  refine Bod.go dc_305_57 rfl ?_
  refine Bod.ist dc_305_61 (by rw [ml_305]; exact Nat.le_of_ble_eq_true rfl) ?_
  refine Bod.ildG dc_305_63 (by repeat (first | exact q0 | exact sm_get_p1 | exact sm_get_p2e | refine sm_get_p1m (by decide) (by decide) ?_ | refine sm_get_p1n (by decide) rfl ?_ | refine sm_get_p2n (by decide) (by decide) rfl ?_)) ?_
  refine Bod.bip 61 (by decide) dc_305_65 ?_
  refine Bod.icT dc_305_67 rfl (k2_ne_T (k_ne e68 61 rfl rfl (by omega) (by omega) (by omega))) ?_
  refine Bod.ildG dc_305_205 (by repeat (first | exact q0 | exact sm_get_p1 | exact sm_get_p2e | refine sm_get_p1m (by decide) (by decide) ?_ | refine sm_get_p1n (by decide) rfl ?_ | refine sm_get_p2n (by decide) (by decide) rfl ?_)) ?_
  refine Bod.sip 256 (by decide) dc_305_207 ?_
  refine Bod.icF dc_305_210 rfl (k2_le_F e68 256 rfl rfl (by omega) (by omega)) ?_
  refine Bod.ildG dc_305_213 (by repeat (first | exact q0 | exact sm_get_p1 | exact sm_get_p2e | refine sm_get_p1m (by decide) (by decide) ?_ | refine sm_get_p1n (by decide) rfl ?_ | refine sm_get_p2n (by decide) (by decide) rfl ?_)) ?_
  refine Bod.sip 256 (by decide) dc_305_215 ?_
  refine Bod.iremN (e68 % 256) (by omega) (by omega) (by omega) rfl dc_305_218 ?_
  refine Bod.bip 61 (by decide) dc_305_219 ?_
  refine Bod.icF dc_305_221 rfl (k2_ne_F (k_eq (e68 % 256) 61 rfl rfl (by omega))) ?_
  refine Bod.ildG dc_305_224 (by repeat (first | exact q0 | exact sm_get_p1 | exact sm_get_p2e | refine sm_get_p1m (by decide) (by decide) ?_ | refine sm_get_p1n (by decide) rfl ?_ | refine sm_get_p2n (by decide) (by decide) rfl ?_)) ?_
  refine Bod.sip 256 (by decide) dc_305_226 ?_
  refine Bod.idivN (e68 / 256) (by omega) (by omega) (by omega) rfl dc_305_229 ?_
  refine Bod.bip 43 (by decide) dc_305_230 ?_
  refine Bod.icF dc_305_232 rfl (k2_eq_F (k_ne (e68 / 256) 43 rfl rfl (by omega) (by omega) (by omega))) ?_
  refine Bod.ildG dc_305_235 (by repeat (first | exact q0 | exact sm_get_p1 | exact sm_get_p2e | refine sm_get_p1m (by decide) (by decide) ?_ | refine sm_get_p1n (by decide) rfl ?_ | refine sm_get_p2n (by decide) (by decide) rfl ?_)) ?_
  refine Bod.sip 256 (by decide) dc_305_237 ?_
  refine Bod.idivN (e68 / 256) (by omega) (by omega) (by omega) rfl dc_305_240 ?_
  refine Bod.bip 45 (by decide) dc_305_241 ?_
  refine Bod.icF dc_305_243 rfl (k2_eq_F (k_ne (e68 / 256) 45 rfl rfl (by omega) (by omega) (by omega))) ?_
  refine Bod.ildG dc_305_246 (by repeat (first | exact q0 | exact sm_get_p1 | exact sm_get_p2e | refine sm_get_p1m (by decide) (by decide) ?_ | refine sm_get_p1n (by decide) rfl ?_ | refine sm_get_p2n (by decide) (by decide) rfl ?_)) ?_
  refine Bod.sip 256 (by decide) dc_305_248 ?_
  refine Bod.idivN (e68 / 256) (by omega) (by omega) (by omega) rfl dc_305_251 ?_
  refine Bod.bip 42 (by decide) dc_305_252 ?_
  refine Bod.icF dc_305_254 rfl (k2_ne_F (k_eq (e68 / 256) 42 rfl rfl (by omega))) ?_
  exact hB _ (by repeat (first | exact q0 | exact sm_get_p1 | exact sm_get_p2e | refine sm_get_p1m (by decide) (by decide) ?_ | refine sm_get_p1n (by decide) rfl ?_ | refine sm_get_p2n (by decide) (by decide) rfl ?_)) (by repeat (first | exact q2 | exact sm_get_p1 | exact sm_get_p2e | refine sm_get_p1m (by decide) (by decide) ?_ | refine sm_get_p1n (by decide) rfl ?_ | refine sm_get_p2n (by decide) (by decide) rfl ?_)) (by repeat (first | exact q3 | exact sm_get_p1 | exact sm_get_p2e | refine sm_get_p1m (by decide) (by decide) ?_ | refine sm_get_p1n (by decide) rfl ?_ | refine sm_get_p2n (by decide) (by decide) rfl ?_)) (by repeat (first | exact q0 | exact sm_get_p1 | exact sm_get_p2e | refine sm_get_p1m (by decide) (by decide) ?_ | refine sm_get_p1n (by decide) rfl ?_ | refine sm_get_p2n (by decide) (by decide) rfl ?_))
theorem zAt_8 {d : Nat} {S Sf : cS} {v : Option Value} {lv : sm_L} {lc : Nat} {lg : Nat} {lnm : Int32} {k : Nat} {e67 : Nat} {e68 : Nat} {S1 : cS} {m : Nat} {u : Nat} {n1 : Nat} {g : Nat} {N : Nat} {k1 : Nat} {S2 : cS} (q0 : sm_get lv 0 = some (.ref 61)) (q1 : sm_get lv 1 = some (.int (nI lc))) (q2 : sm_get lv 2 = some (.int (nI lg))) (q3 : sm_get lv 3 = some (.int lnm)) (mlc : lc < 2 ^ 20) (mlg : lg < 2 ^ 20) (hk : sI S 6115 = nI k) (mk : k < 6001) (he67 : sA S 67 k = nI e67) (me67 : e67 < 2 ^ 20) (b1 : e67 = 5) (he68 : sA S 68 k = nI e68) (me68 : e68 < 2 ^ 20) (b2 : e68 = 61) (b3 : lg ≠ 0) (c1 : Ans (d + 8) 327 [.ref 61] S none S1) (hm : 108 ≤ m) (hv1 : sV S1 6114 = .ref m) (hz2 : (sS S1)[m - 108]? = some (12, u)) (hn1 : sI S1 (100 * m + 1) = nI n1) (mn1 : n1 < 2 ^ 20) (b4 : lc ≤ n1) (hv3 : sV S1 (100 * m + 0) = .ref g) (hg3 : isK S1 g 0 N) (mN : N < 2 ^ 20) (b5 : n1 ≤ N) (b6 : (n1 - lc) ≤ 15000) (hk1 : sI (wI (100 * m + 1) (nI lc) (wF 85 (va_cpy (sA S1 g) (sA S1 85) lc 0 (n1 - lc)) S1)) 6115 = nI k1) (mk1 : k1 < 6001) (c2 : Ans (d + 8) 306 [.ref 61, .int (nI 0)] (wI 6115 (nI (k1 + 1)) (wI (100 * m + 1) (nI lc) (wF 85 (va_cpy (sA S1 g) (sA S1 85) lc 0 (n1 - lc)) S1))) (some (.int (nI 1))) S2) (hB : ∀ lv1 : sm_L, sm_get lv1 0 = some (.ref 61) → sm_get lv1 2 = some (.int (nI lg)) → sm_get lv1 3 = some (.int lnm) → sm_get lv1 5 = some (.int (nI (n1 - lc))) → Bod (d + 8) 305 140 lv1 [] (S2) v Sf) : Bod (d + 8) 305 35 lv [] S v Sf := by
  refine Bod.aldnG dc_305_35 (by repeat (first | exact q0 | exact sm_get_p1 | exact sm_get_p2e | refine sm_get_p1m (by decide) (by decide) ?_ | refine sm_get_p1n (by decide) rfl ?_ | refine sm_get_p2n (by decide) (by decide) rfl ?_)) ?_
  refine Bod.get dc_305_36 fr_305_129 (mk_61 _) rfl ?_
  refine Bod.aldnG dc_305_39 (by repeat (first | exact q0 | exact sm_get_p1 | exact sm_get_p2e | refine sm_get_p1m (by decide) (by decide) ?_ | refine sm_get_p1n (by decide) rfl ?_ | refine sm_get_p2n (by decide) (by decide) rfl ?_)) ?_
  refine Bod.get dc_305_40 fr_305_190 (mk_61 _) rfl ?_
  refine Bod.eqI (nI k) (by first | assumption | rfl | exact congrArg nI (by omega) | (simp (disch := omega) only [rI, rIe, rA, rIA, rLA, rJA, rVI, rQI, rVA, rQA, upd_at,  rAI, rLI, rJI, nI_add, pk_sub, kc_0, kc_1, kc_2, kc_3, kc_4, kc_5, reduceIte, Nat.reduceEqDiff, Nat.add_zero, rI_hold, rI_hold, rL_hold, hk]; done)) ?_
  refine Bod.ialdN k rfl (by omega) (by omega) dc_305_43 (mk_67 _) ?_
  refine Bod.eqI (nI e67) (by first | assumption | rfl | exact congrArg nI (by omega) | (simp (disch := omega) only [rI, rIe, rA, rIA, rLA, rJA, rVI, rQI, rVA, rQA, upd_at,  rAI, rLI, rJI, nI_add, pk_sub, kc_0, kc_1, kc_2, kc_3, kc_4, kc_5, reduceIte, Nat.reduceEqDiff, Nat.add_zero, rI_hold, rI_hold, rL_hold, hk, he67]; done)) ?_
  refine Bod.ic 5 (by decide) dc_305_44 ?_
  refine Bod.icF dc_305_45 rfl (k2_ne_F (k_eq e67 5 rfl rfl (by omega))) ?_
  refine Bod.aldnG dc_305_48 (by repeat (first | exact q0 | exact sm_get_p1 | exact sm_get_p2e | refine sm_get_p1m (by decide) (by decide) ?_ | refine sm_get_p1n (by decide) rfl ?_ | refine sm_get_p2n (by decide) (by decide) rfl ?_)) ?_
  refine Bod.get dc_305_49 fr_305_135 (mk_61 _) rfl ?_
  refine Bod.aldnG dc_305_52 (by repeat (first | exact q0 | exact sm_get_p1 | exact sm_get_p2e | refine sm_get_p1m (by decide) (by decide) ?_ | refine sm_get_p1n (by decide) rfl ?_ | refine sm_get_p2n (by decide) (by decide) rfl ?_)) ?_
  refine Bod.get dc_305_53 fr_305_190 (mk_61 _) rfl ?_
  refine Bod.eqI (nI k) (by first | assumption | rfl | exact congrArg nI (by omega) | (simp (disch := omega) only [rI, rIe, rA, rIA, rLA, rJA, rVI, rQI, rVA, rQA, upd_at,  rAI, rLI, rJI, nI_add, pk_sub, kc_0, kc_1, kc_2, kc_3, kc_4, kc_5, reduceIte, Nat.reduceEqDiff, Nat.add_zero, rI_hold, rI_hold, rL_hold, hk, he67]; done)) ?_
  refine Bod.ialdN k rfl (by omega) (by omega) dc_305_56 (mk_68 _) ?_
  refine Bod.eqI (nI e68) (by first | assumption | rfl | exact congrArg nI (by omega) | (simp (disch := omega) only [rI, rIe, rA, rIA, rLA, rJA, rVI, rQI, rVA, rQA, upd_at,  rAI, rLI, rJI, nI_add, pk_sub, kc_0, kc_1, kc_2, kc_3, kc_4, kc_5, reduceIte, Nat.reduceEqDiff, Nat.add_zero, rI_hold, rI_hold, rL_hold, hk, he67, he68]; done)) ?_
  refine Bod.go dc_305_57 rfl ?_
  refine Bod.ist dc_305_61 (by rw [ml_305]; exact Nat.le_of_ble_eq_true rfl) ?_
  refine Bod.ildG dc_305_63 (by repeat (first | exact q0 | exact sm_get_p1 | exact sm_get_p2e | refine sm_get_p1m (by decide) (by decide) ?_ | refine sm_get_p1n (by decide) rfl ?_ | refine sm_get_p2n (by decide) (by decide) rfl ?_)) ?_
  refine Bod.bip 61 (by decide) dc_305_65 ?_
  refine Bod.icF dc_305_67 rfl (k2_ne_F (k_eq e68 61 rfl rfl (by omega))) ?_
  refine Bod.ildnG dc_305_70 (by repeat (first | exact q2 | exact sm_get_p1 | exact sm_get_p2e | refine sm_get_p1m (by decide) (by decide) ?_ | refine sm_get_p1n (by decide) rfl ?_ | refine sm_get_p2n (by decide) (by decide) rfl ?_)) ?_
  refine Bod.ifT dc_305_71 rfl (k1_ne_T (k_ne lg 0 rfl rfl (by omega) (by omega) (by omega))) ?_
  refine Bod.aldnG dc_305_79 (by repeat (first | exact q0 | exact sm_get_p1 | exact sm_get_p2e | refine sm_get_p1m (by decide) (by decide) ?_ | refine sm_get_p1n (by decide) rfl ?_ | refine sm_get_p2n (by decide) (by decide) rfl ?_)) ?_
  refine Bod.virt (r := []) dc_305_80 kr_305_447 ⟨Or.inl rfl, ow_327, cl_14⟩ (by rw [np_327]; rfl) (by rw [np_327]; rfl) (ob_of (mk_61 _)) (Nat.le_of_ble_eq_true rfl) (c1  ) ?_
  show Bod _ _ _ _ [] _ _ _
  refine Bod.aldnG dc_305_83 (by repeat (first | exact q0 | exact sm_get_p1 | exact sm_get_p2e | refine sm_get_p1m (by decide) (by decide) ?_ | refine sm_get_p1n (by decide) rfl ?_ | refine sm_get_p2n (by decide) (by decide) rfl ?_)) ?_
  refine Bod.get dc_305_84 fr_305_206 (mk_61 _) rfl ?_
  refine Bod.eqV (.ref m) (by first | exact hv1 | (simp only [rIV, rJV, rAV, rLV, rQV, rV, reduceIte, Nat.reduceEqDiff]; exact hv1)) ?_
  refine Bod.get dc_305_87 fr_305_219 (mk_code hm (by first | exact hz2 | (simp only [rIS, rJS, rAS, rLS, rVS, rQS, rS_hold]; exact hz2))) rfl ?_
  refine Bod.eqI (nI n1) (by first | (simp (disch := omega) only [rI, rIe, rA, rIA, rLA, rJA, rVI, rQI, rVA, rQA, upd_at,  rAI, rLI, rJI, nI_add, pk_sub, kc_0, kc_1, kc_2, kc_3, kc_4, kc_5, reduceIte, Nat.reduceEqDiff, Nat.add_zero, rI_hold, rI_hold, rL_hold, hk, he67, he68, hn1]; done) | (simp (disch := omega) only [rI, rIe, rA, rIA, rLA, rJA, rVI, rQI, rVA, rQA, upd_at,  rAI, rLI, rJI, nI_add, pk_sub, kc_0, kc_1, kc_2, kc_3, kc_4, kc_5, reduceIte, Nat.reduceEqDiff, Nat.add_zero, rI_hold, rI_hold, rL_hold, hk, he67, he68, hn1]; exact congrArg nI (by omega))) ?_
  refine Bod.ildnG dc_305_90 (by repeat (first | exact q1 | exact sm_get_p1 | exact sm_get_p2e | refine sm_get_p1m (by decide) (by decide) ?_ | refine sm_get_p1n (by decide) rfl ?_ | refine sm_get_p2n (by decide) (by decide) rfl ?_)) ?_
  refine Bod.subN (n1 - lc) (by omega) (by omega) dc_305_91 ?_
  refine Bod.ist dc_305_92 (by rw [ml_305]; exact Nat.le_of_ble_eq_true rfl) ?_
  refine Bod.aldnG dc_305_94 (by repeat (first | exact q0 | exact sm_get_p1 | exact sm_get_p2e | refine sm_get_p1m (by decide) (by decide) ?_ | refine sm_get_p1n (by decide) rfl ?_ | refine sm_get_p2n (by decide) (by decide) rfl ?_)) ?_
  refine Bod.get dc_305_95 fr_305_206 (mk_61 _) rfl ?_
  refine Bod.eqV (.ref m) (by first | exact hv1 | (simp only [rIV, rJV, rAV, rLV, rQV, rV, reduceIte, Nat.reduceEqDiff]; exact hv1)) ?_
  refine Bod.get dc_305_98 fr_305_222 (mk_code hm (by first | exact hz2 | (simp only [rIS, rJS, rAS, rLS, rVS, rQS, rS_hold]; exact hz2))) rfl ?_
  refine Bod.eqV (.ref g) (by first | exact hv3 | (simp only [rIV, rJV, rAV, rLV, rQV, rV, reduceIte, Nat.reduceEqDiff]; exact hv3)) ?_
  refine Bod.ildnG dc_305_101 (by repeat (first | exact q1 | exact sm_get_p1 | exact sm_get_p2e | refine sm_get_p1m (by decide) (by decide) ?_ | refine sm_get_p1n (by decide) rfl ?_ | refine sm_get_p2n (by decide) (by decide) rfl ?_)) ?_
  refine Bod.aldnG dc_305_102 (by repeat (first | exact q0 | exact sm_get_p1 | exact sm_get_p2e | refine sm_get_p1m (by decide) (by decide) ?_ | refine sm_get_p1n (by decide) rfl ?_ | refine sm_get_p2n (by decide) (by decide) rfl ?_)) ?_
  refine Bod.get dc_305_103 fr_305_450 (mk_61 _) rfl ?_
  refine Bod.ic 0 (by decide) dc_305_106 ?_
  refine Bod.ildG dc_305_107 (by repeat (first | exact q0 | exact sm_get_p1 | exact sm_get_p2e | refine sm_get_p1m (by decide) (by decide) ?_ | refine sm_get_p1n (by decide) rfl ?_ | refine sm_get_p2n (by decide) (by decide) rfl ?_)) ?_
  refine Bod.cpyI (sp := lc) (dp := 0) (r := []) dc_305_109 kr_305_37 (mk_isI (by first | exact hg3 | exact isK_S (by simp only [rIS, rJS, rAS, rLS, rVS, rQS, rS_hold]) hg3)) (mk_85 _) (by omega) (by omega) (by omega) (by omega) (Nat.le_of_ble_eq_true rfl) (sf_85 _ _) rfl ?_
  refine Bod.aldnG dc_305_112 (by repeat (first | exact q0 | exact sm_get_p1 | exact sm_get_p2e | refine sm_get_p1m (by decide) (by decide) ?_ | refine sm_get_p1n (by decide) rfl ?_ | refine sm_get_p2n (by decide) (by decide) rfl ?_)) ?_
  refine Bod.get dc_305_113 fr_305_206 (mk_61 _) rfl ?_
  refine Bod.eqV (.ref m) (by first | exact hv1 | (simp only [rIV, rJV, rAV, rLV, rQV, rV, reduceIte, Nat.reduceEqDiff]; exact hv1)) ?_
  refine Bod.ildnG dc_305_116 (by repeat (first | exact q1 | exact sm_get_p1 | exact sm_get_p2e | refine sm_get_p1m (by decide) (by decide) ?_ | refine sm_get_p1n (by decide) rfl ?_ | refine sm_get_p2n (by decide) (by decide) rfl ?_)) ?_
  refine Bod.put dc_305_117 fr_305_219 (mk_code hm (by first | exact hz2 | (simp only [rIS, rJS, rAS, rLS, rVS, rQS, rS_hold]; exact hz2))) (Nat.le_of_ble_eq_true rfl) pf_12_1 (st_code_1 hm (by first | exact hz2 | (simp only [rIS, rJS, rAS, rLS, rVS, rQS, rS_hold]; exact hz2))) (mu_I _ _ _) ?_
  refine Bod.aldnG dc_305_120 (by repeat (first | exact q0 | exact sm_get_p1 | exact sm_get_p2e | refine sm_get_p1m (by decide) (by decide) ?_ | refine sm_get_p1n (by decide) rfl ?_ | refine sm_get_p2n (by decide) (by decide) rfl ?_)) ?_
  refine Bod.go dc_305_121 rfl ?_
  refine Bod.get dc_305_122 fr_305_190 (mk_61 _) rfl ?_
  refine Bod.eqI (nI k1) (by first | (simp (disch := omega) only [rI, rIe, rA, rIA, rLA, rJA, rVI, rQI, rVA, rQA, upd_at,  rAI, rLI, rJI, nI_add, pk_sub, kc_0, kc_1, kc_2, kc_3, kc_4, kc_5, reduceIte, Nat.reduceEqDiff, Nat.add_zero, rI_hold, rI_hold, rL_hold, hk, he67, he68, hn1, hk1]; done) | (simp (disch := omega) only [rI, rIe, rA, rIA, rLA, rJA, rVI, rQI, rVA, rQA, upd_at,  rAI, rLI, rJI, nI_add, pk_sub, kc_0, kc_1, kc_2, kc_3, kc_4, kc_5, reduceIte, Nat.reduceEqDiff, Nat.add_zero, rI_hold, rI_hold, rL_hold, hk, he67, he68, hn1, hk1]; exact congrArg nI (by omega))) ?_
  refine Bod.ic 1 (by decide) dc_305_125 ?_
  refine Bod.addN (k1 + 1) (by omega) dc_305_126 ?_
  refine Bod.put dc_305_127 fr_305_190 (mk_61 _) (Nat.le_of_ble_eq_true rfl) pf_14_15 (st_6115 _ _) (mu_I _ _ _) ?_
  refine Bod.aldnG dc_305_130 (by repeat (first | exact q0 | exact sm_get_p1 | exact sm_get_p2e | refine sm_get_p1m (by decide) (by decide) ?_ | refine sm_get_p1n (by decide) rfl ?_ | refine sm_get_p2n (by decide) (by decide) rfl ?_)) ?_
  refine Bod.ic 0 (by decide) dc_305_131 ?_
  refine Bod.virt (r := []) dc_305_132 kr_305_302 ⟨Or.inl rfl, ow_306, cl_14⟩ (by rw [np_306]; rfl) (by rw [np_306]; rfl) (ob_of (mk_61 _)) (Nat.le_of_ble_eq_true rfl) (c2  ) ?_
  show Bod _ _ _ _ [_] _ _ _
  refine Bod.ifT dc_305_135 rfl (k1_ne_T (k_ne 1 0 rfl rfl (by omega) (by omega) (by omega))) ?_
  exact hB _ (by repeat (first | exact q0 | exact sm_get_p1 | exact sm_get_p2e | refine sm_get_p1m (by decide) (by decide) ?_ | refine sm_get_p1n (by decide) rfl ?_ | refine sm_get_p2n (by decide) (by decide) rfl ?_)) (by repeat (first | exact q2 | exact sm_get_p1 | exact sm_get_p2e | refine sm_get_p1m (by decide) (by decide) ?_ | refine sm_get_p1n (by decide) rfl ?_ | refine sm_get_p2n (by decide) (by decide) rfl ?_)) (by repeat (first | exact q3 | exact sm_get_p1 | exact sm_get_p2e | refine sm_get_p1m (by decide) (by decide) ?_ | refine sm_get_p1n (by decide) rfl ?_ | refine sm_get_p2n (by decide) (by decide) rfl ?_)) (by repeat (first | exact q0 | exact sm_get_p1 | exact sm_get_p2e | refine sm_get_p1m (by decide) (by decide) ?_ | refine sm_get_p1n (by decide) rfl ?_ | refine sm_get_p2n (by decide) (by decide) rfl ?_))
theorem zAt_9 {d : Nat} {S : cS} {lv : sm_L} {lc : Nat} {lg : Nat} {lnm : Int32} {k : Nat} {e67 : Nat} {e68 : Nat} {S1 : cS} {m : Nat} {u : Nat} {n1 : Nat} {g : Nat} {N : Nat} {k1 : Nat} {S2 : cS} (q0 : sm_get lv 0 = some (.ref 61)) (q1 : sm_get lv 1 = some (.int (nI lc))) (q2 : sm_get lv 2 = some (.int (nI lg))) (q3 : sm_get lv 3 = some (.int lnm)) (mlc : lc < 2 ^ 20) (mlg : lg < 2 ^ 20) (hk : sI S 6115 = nI k) (mk : k < 6001) (he67 : sA S 67 k = nI e67) (me67 : e67 < 2 ^ 20) (b1 : e67 = 5) (he68 : sA S 68 k = nI e68) (me68 : e68 < 2 ^ 20) (b2 : e68 = 61) (b3 : lg ≠ 0) (c1 : Ans (d + 8) 327 [.ref 61] S none S1) (hm : 108 ≤ m) (hv1 : sV S1 6114 = .ref m) (hz2 : (sS S1)[m - 108]? = some (12, u)) (hn1 : sI S1 (100 * m + 1) = nI n1) (mn1 : n1 < 2 ^ 20) (b4 : lc ≤ n1) (hv3 : sV S1 (100 * m + 0) = .ref g) (hg3 : isK S1 g 0 N) (mN : N < 2 ^ 20) (b5 : n1 ≤ N) (b6 : (n1 - lc) ≤ 15000) (hk1 : sI (wI (100 * m + 1) (nI lc) (wF 85 (va_cpy (sA S1 g) (sA S1 85) lc 0 (n1 - lc)) S1)) 6115 = nI k1) (mk1 : k1 < 6001) (c2 : Ans (d + 8) 306 [.ref 61, .int (nI 0)] (wI 6115 (nI (k1 + 1)) (wI (100 * m + 1) (nI lc) (wF 85 (va_cpy (sA S1 g) (sA S1 85) lc 0 (n1 - lc)) S1))) (some (.int (nI 0))) S2) : Bod (d + 8) 305 35 lv [] S (some (.int 0)) (S2) := by
  refine Bod.aldnG dc_305_35 (by repeat (first | exact q0 | exact sm_get_p1 | exact sm_get_p2e | refine sm_get_p1m (by decide) (by decide) ?_ | refine sm_get_p1n (by decide) rfl ?_ | refine sm_get_p2n (by decide) (by decide) rfl ?_)) ?_
  refine Bod.get dc_305_36 fr_305_129 (mk_61 _) rfl ?_
  refine Bod.aldnG dc_305_39 (by repeat (first | exact q0 | exact sm_get_p1 | exact sm_get_p2e | refine sm_get_p1m (by decide) (by decide) ?_ | refine sm_get_p1n (by decide) rfl ?_ | refine sm_get_p2n (by decide) (by decide) rfl ?_)) ?_
  refine Bod.get dc_305_40 fr_305_190 (mk_61 _) rfl ?_
  refine Bod.eqI (nI k) (by first | assumption | rfl | exact congrArg nI (by omega) | (simp (disch := omega) only [rI, rIe, rA, rIA, rLA, rJA, rVI, rQI, rVA, rQA, upd_at,  rAI, rLI, rJI, nI_add, pk_sub, kc_0, kc_1, kc_2, kc_3, kc_4, kc_5, reduceIte, Nat.reduceEqDiff, Nat.add_zero, rI_hold, rI_hold, rL_hold, hk]; done)) ?_
  refine Bod.ialdN k rfl (by omega) (by omega) dc_305_43 (mk_67 _) ?_
  refine Bod.eqI (nI e67) (by first | assumption | rfl | exact congrArg nI (by omega) | (simp (disch := omega) only [rI, rIe, rA, rIA, rLA, rJA, rVI, rQI, rVA, rQA, upd_at,  rAI, rLI, rJI, nI_add, pk_sub, kc_0, kc_1, kc_2, kc_3, kc_4, kc_5, reduceIte, Nat.reduceEqDiff, Nat.add_zero, rI_hold, rI_hold, rL_hold, hk, he67]; done)) ?_
  refine Bod.ic 5 (by decide) dc_305_44 ?_
  refine Bod.icF dc_305_45 rfl (k2_ne_F (k_eq e67 5 rfl rfl (by omega))) ?_
  refine Bod.aldnG dc_305_48 (by repeat (first | exact q0 | exact sm_get_p1 | exact sm_get_p2e | refine sm_get_p1m (by decide) (by decide) ?_ | refine sm_get_p1n (by decide) rfl ?_ | refine sm_get_p2n (by decide) (by decide) rfl ?_)) ?_
  refine Bod.get dc_305_49 fr_305_135 (mk_61 _) rfl ?_
  refine Bod.aldnG dc_305_52 (by repeat (first | exact q0 | exact sm_get_p1 | exact sm_get_p2e | refine sm_get_p1m (by decide) (by decide) ?_ | refine sm_get_p1n (by decide) rfl ?_ | refine sm_get_p2n (by decide) (by decide) rfl ?_)) ?_
  refine Bod.get dc_305_53 fr_305_190 (mk_61 _) rfl ?_
  refine Bod.eqI (nI k) (by first | assumption | rfl | exact congrArg nI (by omega) | (simp (disch := omega) only [rI, rIe, rA, rIA, rLA, rJA, rVI, rQI, rVA, rQA, upd_at,  rAI, rLI, rJI, nI_add, pk_sub, kc_0, kc_1, kc_2, kc_3, kc_4, kc_5, reduceIte, Nat.reduceEqDiff, Nat.add_zero, rI_hold, rI_hold, rL_hold, hk, he67]; done)) ?_
  refine Bod.ialdN k rfl (by omega) (by omega) dc_305_56 (mk_68 _) ?_
  refine Bod.eqI (nI e68) (by first | assumption | rfl | exact congrArg nI (by omega) | (simp (disch := omega) only [rI, rIe, rA, rIA, rLA, rJA, rVI, rQI, rVA, rQA, upd_at,  rAI, rLI, rJI, nI_add, pk_sub, kc_0, kc_1, kc_2, kc_3, kc_4, kc_5, reduceIte, Nat.reduceEqDiff, Nat.add_zero, rI_hold, rI_hold, rL_hold, hk, he67, he68]; done)) ?_
  refine Bod.go dc_305_57 rfl ?_
  refine Bod.ist dc_305_61 (by rw [ml_305]; exact Nat.le_of_ble_eq_true rfl) ?_
  refine Bod.ildG dc_305_63 (by repeat (first | exact q0 | exact sm_get_p1 | exact sm_get_p2e | refine sm_get_p1m (by decide) (by decide) ?_ | refine sm_get_p1n (by decide) rfl ?_ | refine sm_get_p2n (by decide) (by decide) rfl ?_)) ?_
  refine Bod.bip 61 (by decide) dc_305_65 ?_
  refine Bod.icF dc_305_67 rfl (k2_ne_F (k_eq e68 61 rfl rfl (by omega))) ?_
  refine Bod.ildnG dc_305_70 (by repeat (first | exact q2 | exact sm_get_p1 | exact sm_get_p2e | refine sm_get_p1m (by decide) (by decide) ?_ | refine sm_get_p1n (by decide) rfl ?_ | refine sm_get_p2n (by decide) (by decide) rfl ?_)) ?_
  refine Bod.ifT dc_305_71 rfl (k1_ne_T (k_ne lg 0 rfl rfl (by omega) (by omega) (by omega))) ?_
  refine Bod.aldnG dc_305_79 (by repeat (first | exact q0 | exact sm_get_p1 | exact sm_get_p2e | refine sm_get_p1m (by decide) (by decide) ?_ | refine sm_get_p1n (by decide) rfl ?_ | refine sm_get_p2n (by decide) (by decide) rfl ?_)) ?_
  refine Bod.virt (r := []) dc_305_80 kr_305_447 ⟨Or.inl rfl, ow_327, cl_14⟩ (by rw [np_327]; rfl) (by rw [np_327]; rfl) (ob_of (mk_61 _)) (Nat.le_of_ble_eq_true rfl) (c1  ) ?_
  show Bod _ _ _ _ [] _ _ _
  refine Bod.aldnG dc_305_83 (by repeat (first | exact q0 | exact sm_get_p1 | exact sm_get_p2e | refine sm_get_p1m (by decide) (by decide) ?_ | refine sm_get_p1n (by decide) rfl ?_ | refine sm_get_p2n (by decide) (by decide) rfl ?_)) ?_
  refine Bod.get dc_305_84 fr_305_206 (mk_61 _) rfl ?_
  refine Bod.eqV (.ref m) (by first | exact hv1 | (simp only [rIV, rJV, rAV, rLV, rQV, rV, reduceIte, Nat.reduceEqDiff]; exact hv1)) ?_
  refine Bod.get dc_305_87 fr_305_219 (mk_code hm (by first | exact hz2 | (simp only [rIS, rJS, rAS, rLS, rVS, rQS, rS_hold]; exact hz2))) rfl ?_
  refine Bod.eqI (nI n1) (by first | (simp (disch := omega) only [rI, rIe, rA, rIA, rLA, rJA, rVI, rQI, rVA, rQA, upd_at,  rAI, rLI, rJI, nI_add, pk_sub, kc_0, kc_1, kc_2, kc_3, kc_4, kc_5, reduceIte, Nat.reduceEqDiff, Nat.add_zero, rI_hold, rI_hold, rL_hold, hk, he67, he68, hn1]; done) | (simp (disch := omega) only [rI, rIe, rA, rIA, rLA, rJA, rVI, rQI, rVA, rQA, upd_at,  rAI, rLI, rJI, nI_add, pk_sub, kc_0, kc_1, kc_2, kc_3, kc_4, kc_5, reduceIte, Nat.reduceEqDiff, Nat.add_zero, rI_hold, rI_hold, rL_hold, hk, he67, he68, hn1]; exact congrArg nI (by omega))) ?_
  refine Bod.ildnG dc_305_90 (by repeat (first | exact q1 | exact sm_get_p1 | exact sm_get_p2e | refine sm_get_p1m (by decide) (by decide) ?_ | refine sm_get_p1n (by decide) rfl ?_ | refine sm_get_p2n (by decide) (by decide) rfl ?_)) ?_
  refine Bod.subN (n1 - lc) (by omega) (by omega) dc_305_91 ?_
  refine Bod.ist dc_305_92 (by rw [ml_305]; exact Nat.le_of_ble_eq_true rfl) ?_
  refine Bod.aldnG dc_305_94 (by repeat (first | exact q0 | exact sm_get_p1 | exact sm_get_p2e | refine sm_get_p1m (by decide) (by decide) ?_ | refine sm_get_p1n (by decide) rfl ?_ | refine sm_get_p2n (by decide) (by decide) rfl ?_)) ?_
  refine Bod.get dc_305_95 fr_305_206 (mk_61 _) rfl ?_
  refine Bod.eqV (.ref m) (by first | exact hv1 | (simp only [rIV, rJV, rAV, rLV, rQV, rV, reduceIte, Nat.reduceEqDiff]; exact hv1)) ?_
  refine Bod.get dc_305_98 fr_305_222 (mk_code hm (by first | exact hz2 | (simp only [rIS, rJS, rAS, rLS, rVS, rQS, rS_hold]; exact hz2))) rfl ?_
  refine Bod.eqV (.ref g) (by first | exact hv3 | (simp only [rIV, rJV, rAV, rLV, rQV, rV, reduceIte, Nat.reduceEqDiff]; exact hv3)) ?_
  refine Bod.ildnG dc_305_101 (by repeat (first | exact q1 | exact sm_get_p1 | exact sm_get_p2e | refine sm_get_p1m (by decide) (by decide) ?_ | refine sm_get_p1n (by decide) rfl ?_ | refine sm_get_p2n (by decide) (by decide) rfl ?_)) ?_
  refine Bod.aldnG dc_305_102 (by repeat (first | exact q0 | exact sm_get_p1 | exact sm_get_p2e | refine sm_get_p1m (by decide) (by decide) ?_ | refine sm_get_p1n (by decide) rfl ?_ | refine sm_get_p2n (by decide) (by decide) rfl ?_)) ?_
  refine Bod.get dc_305_103 fr_305_450 (mk_61 _) rfl ?_
  refine Bod.ic 0 (by decide) dc_305_106 ?_
  refine Bod.ildG dc_305_107 (by repeat (first | exact q0 | exact sm_get_p1 | exact sm_get_p2e | refine sm_get_p1m (by decide) (by decide) ?_ | refine sm_get_p1n (by decide) rfl ?_ | refine sm_get_p2n (by decide) (by decide) rfl ?_)) ?_
  refine Bod.cpyI (sp := lc) (dp := 0) (r := []) dc_305_109 kr_305_37 (mk_isI (by first | exact hg3 | exact isK_S (by simp only [rIS, rJS, rAS, rLS, rVS, rQS, rS_hold]) hg3)) (mk_85 _) (by omega) (by omega) (by omega) (by omega) (Nat.le_of_ble_eq_true rfl) (sf_85 _ _) rfl ?_
  refine Bod.aldnG dc_305_112 (by repeat (first | exact q0 | exact sm_get_p1 | exact sm_get_p2e | refine sm_get_p1m (by decide) (by decide) ?_ | refine sm_get_p1n (by decide) rfl ?_ | refine sm_get_p2n (by decide) (by decide) rfl ?_)) ?_
  refine Bod.get dc_305_113 fr_305_206 (mk_61 _) rfl ?_
  refine Bod.eqV (.ref m) (by first | exact hv1 | (simp only [rIV, rJV, rAV, rLV, rQV, rV, reduceIte, Nat.reduceEqDiff]; exact hv1)) ?_
  refine Bod.ildnG dc_305_116 (by repeat (first | exact q1 | exact sm_get_p1 | exact sm_get_p2e | refine sm_get_p1m (by decide) (by decide) ?_ | refine sm_get_p1n (by decide) rfl ?_ | refine sm_get_p2n (by decide) (by decide) rfl ?_)) ?_
  refine Bod.put dc_305_117 fr_305_219 (mk_code hm (by first | exact hz2 | (simp only [rIS, rJS, rAS, rLS, rVS, rQS, rS_hold]; exact hz2))) (Nat.le_of_ble_eq_true rfl) pf_12_1 (st_code_1 hm (by first | exact hz2 | (simp only [rIS, rJS, rAS, rLS, rVS, rQS, rS_hold]; exact hz2))) (mu_I _ _ _) ?_
  refine Bod.aldnG dc_305_120 (by repeat (first | exact q0 | exact sm_get_p1 | exact sm_get_p2e | refine sm_get_p1m (by decide) (by decide) ?_ | refine sm_get_p1n (by decide) rfl ?_ | refine sm_get_p2n (by decide) (by decide) rfl ?_)) ?_
  refine Bod.go dc_305_121 rfl ?_
  refine Bod.get dc_305_122 fr_305_190 (mk_61 _) rfl ?_
  refine Bod.eqI (nI k1) (by first | (simp (disch := omega) only [rI, rIe, rA, rIA, rLA, rJA, rVI, rQI, rVA, rQA, upd_at,  rAI, rLI, rJI, nI_add, pk_sub, kc_0, kc_1, kc_2, kc_3, kc_4, kc_5, reduceIte, Nat.reduceEqDiff, Nat.add_zero, rI_hold, rI_hold, rL_hold, hk, he67, he68, hn1, hk1]; done) | (simp (disch := omega) only [rI, rIe, rA, rIA, rLA, rJA, rVI, rQI, rVA, rQA, upd_at,  rAI, rLI, rJI, nI_add, pk_sub, kc_0, kc_1, kc_2, kc_3, kc_4, kc_5, reduceIte, Nat.reduceEqDiff, Nat.add_zero, rI_hold, rI_hold, rL_hold, hk, he67, he68, hn1, hk1]; exact congrArg nI (by omega))) ?_
  refine Bod.ic 1 (by decide) dc_305_125 ?_
  refine Bod.addN (k1 + 1) (by omega) dc_305_126 ?_
  refine Bod.put dc_305_127 fr_305_190 (mk_61 _) (Nat.le_of_ble_eq_true rfl) pf_14_15 (st_6115 _ _) (mu_I _ _ _) ?_
  refine Bod.aldnG dc_305_130 (by repeat (first | exact q0 | exact sm_get_p1 | exact sm_get_p2e | refine sm_get_p1m (by decide) (by decide) ?_ | refine sm_get_p1n (by decide) rfl ?_ | refine sm_get_p2n (by decide) (by decide) rfl ?_)) ?_
  refine Bod.ic 0 (by decide) dc_305_131 ?_
  refine Bod.virt (r := []) dc_305_132 kr_305_302 ⟨Or.inl rfl, ow_306, cl_14⟩ (by rw [np_306]; rfl) (by rw [np_306]; rfl) (ob_of (mk_61 _)) (Nat.le_of_ble_eq_true rfl) (c2  ) ?_
  show Bod _ _ _ _ [_] _ _ _
  refine Bod.ifF dc_305_135 rfl (k1_ne_F (k_eq 0 0 rfl rfl (by omega))) ?_
  refine Bod.ic 0 (by decide) dc_305_138 ?_
  exact Bod.retZ dc_305_139 rt_305 (Or.inl rfl)
theorem zAt_10 {d : Nat} {S : cS} {lv : sm_L} {lc : Nat} {lg : Nat} {lnm : Int32} {k : Nat} {e67 : Nat} {e68 : Nat} {S1 : cS} (q0 : sm_get lv 0 = some (.ref 61)) (q1 : sm_get lv 1 = some (.int (nI lc))) (q2 : sm_get lv 2 = some (.int (nI lg))) (q3 : sm_get lv 3 = some (.int lnm)) (mlc : lc < 2 ^ 20) (mlg : lg < 2 ^ 20) (hk : sI S 6115 = nI k) (mk : k < 6001) (he67 : sA S 67 k = nI e67) (me67 : e67 < 2 ^ 20) (b1 : e67 = 5) (he68 : sA S 68 k = nI e68) (me68 : e68 < 2 ^ 20) (b2 : e68 = 61) (b3 : lg = 0) (c1 : Ans (d + 8) 299 [.ref 61] S (some (.int (nI 0))) S1) : Bod (d + 8) 305 35 lv [] S (some (.int 0)) (S1) := by
  refine Bod.aldnG dc_305_35 (by repeat (first | exact q0 | exact sm_get_p1 | exact sm_get_p2e | refine sm_get_p1m (by decide) (by decide) ?_ | refine sm_get_p1n (by decide) rfl ?_ | refine sm_get_p2n (by decide) (by decide) rfl ?_)) ?_
  refine Bod.get dc_305_36 fr_305_129 (mk_61 _) rfl ?_
  refine Bod.aldnG dc_305_39 (by repeat (first | exact q0 | exact sm_get_p1 | exact sm_get_p2e | refine sm_get_p1m (by decide) (by decide) ?_ | refine sm_get_p1n (by decide) rfl ?_ | refine sm_get_p2n (by decide) (by decide) rfl ?_)) ?_
  refine Bod.get dc_305_40 fr_305_190 (mk_61 _) rfl ?_
  refine Bod.eqI (nI k) (by first | assumption | rfl | exact congrArg nI (by omega) | (simp (disch := omega) only [rI, rIe, rA, rIA, rLA, rJA, rVI, rQI, rVA, rQA, upd_at,  rAI, rLI, rJI, nI_add, pk_sub, kc_0, kc_1, kc_2, kc_3, kc_4, kc_5, reduceIte, Nat.reduceEqDiff, Nat.add_zero, rI_hold, rI_hold, rL_hold, hk]; done)) ?_
  refine Bod.ialdN k rfl (by omega) (by omega) dc_305_43 (mk_67 _) ?_
  refine Bod.eqI (nI e67) (by first | assumption | rfl | exact congrArg nI (by omega) | (simp (disch := omega) only [rI, rIe, rA, rIA, rLA, rJA, rVI, rQI, rVA, rQA, upd_at,  rAI, rLI, rJI, nI_add, pk_sub, kc_0, kc_1, kc_2, kc_3, kc_4, kc_5, reduceIte, Nat.reduceEqDiff, Nat.add_zero, rI_hold, rI_hold, rL_hold, hk, he67]; done)) ?_
  refine Bod.ic 5 (by decide) dc_305_44 ?_
  refine Bod.icF dc_305_45 rfl (k2_ne_F (k_eq e67 5 rfl rfl (by omega))) ?_
  refine Bod.aldnG dc_305_48 (by repeat (first | exact q0 | exact sm_get_p1 | exact sm_get_p2e | refine sm_get_p1m (by decide) (by decide) ?_ | refine sm_get_p1n (by decide) rfl ?_ | refine sm_get_p2n (by decide) (by decide) rfl ?_)) ?_
  refine Bod.get dc_305_49 fr_305_135 (mk_61 _) rfl ?_
  refine Bod.aldnG dc_305_52 (by repeat (first | exact q0 | exact sm_get_p1 | exact sm_get_p2e | refine sm_get_p1m (by decide) (by decide) ?_ | refine sm_get_p1n (by decide) rfl ?_ | refine sm_get_p2n (by decide) (by decide) rfl ?_)) ?_
  refine Bod.get dc_305_53 fr_305_190 (mk_61 _) rfl ?_
  refine Bod.eqI (nI k) (by first | assumption | rfl | exact congrArg nI (by omega) | (simp (disch := omega) only [rI, rIe, rA, rIA, rLA, rJA, rVI, rQI, rVA, rQA, upd_at,  rAI, rLI, rJI, nI_add, pk_sub, kc_0, kc_1, kc_2, kc_3, kc_4, kc_5, reduceIte, Nat.reduceEqDiff, Nat.add_zero, rI_hold, rI_hold, rL_hold, hk, he67]; done)) ?_
  refine Bod.ialdN k rfl (by omega) (by omega) dc_305_56 (mk_68 _) ?_
  refine Bod.eqI (nI e68) (by first | assumption | rfl | exact congrArg nI (by omega) | (simp (disch := omega) only [rI, rIe, rA, rIA, rLA, rJA, rVI, rQI, rVA, rQA, upd_at,  rAI, rLI, rJI, nI_add, pk_sub, kc_0, kc_1, kc_2, kc_3, kc_4, kc_5, reduceIte, Nat.reduceEqDiff, Nat.add_zero, rI_hold, rI_hold, rL_hold, hk, he67, he68]; done)) ?_
  refine Bod.go dc_305_57 rfl ?_
  refine Bod.ist dc_305_61 (by rw [ml_305]; exact Nat.le_of_ble_eq_true rfl) ?_
  refine Bod.ildG dc_305_63 (by repeat (first | exact q0 | exact sm_get_p1 | exact sm_get_p2e | refine sm_get_p1m (by decide) (by decide) ?_ | refine sm_get_p1n (by decide) rfl ?_ | refine sm_get_p2n (by decide) (by decide) rfl ?_)) ?_
  refine Bod.bip 61 (by decide) dc_305_65 ?_
  refine Bod.icF dc_305_67 rfl (k2_ne_F (k_eq e68 61 rfl rfl (by omega))) ?_
  refine Bod.ildnG dc_305_70 (by repeat (first | exact q2 | exact sm_get_p1 | exact sm_get_p2e | refine sm_get_p1m (by decide) (by decide) ?_ | refine sm_get_p1n (by decide) rfl ?_ | refine sm_get_p2n (by decide) (by decide) rfl ?_)) ?_
  refine Bod.ifF dc_305_71 rfl (k1_ne_F (k_eq lg 0 rfl rfl (by omega))) ?_
  refine Bod.aldnG dc_305_74 (by repeat (first | exact q0 | exact sm_get_p1 | exact sm_get_p2e | refine sm_get_p1m (by decide) (by decide) ?_ | refine sm_get_p1n (by decide) rfl ?_ | refine sm_get_p2n (by decide) (by decide) rfl ?_)) ?_
  refine Bod.virt (r := []) dc_305_75 kr_305_202 ⟨Or.inl rfl, ow_299, cl_14⟩ (by rw [np_299]; rfl) (by rw [np_299]; rfl) (ob_of (mk_61 _)) (Nat.le_of_ble_eq_true rfl) (c1  ) ?_
  show Bod _ _ _ _ [_] _ _ _
  exact Bod.retZ dc_305_78 rt_305 (Or.inl rfl)
theorem zAk0_1 {d : Nat} {S Sf : cS} {v : Option Value} {lv : sm_L} {lg : Nat} {lnm : Int32} {lq : Nat} (q0 : sm_get lv 0 = some (.ref 61)) (q2 : sm_get lv 2 = some (.int (nI lg))) (q3 : sm_get lv 3 = some (.int lnm)) (q5 : sm_get lv 5 = some (.int (nI lq))) (mlg : lg < 2 ^ 20) (mlq : lq < 2 ^ 20) (hB : ∀ lv1 : sm_L, sm_get lv1 0 = some (.ref 61) → sm_get lv1 2 = some (.int (nI lg)) → sm_get lv1 3 = some (.int lnm) → sm_get lv1 5 = some (.int (nI lq)) → sm_get lv1 6 = some (.int (nI 0)) → Bod (d + 8) 305 143 lv1 [] (S) v Sf) : Bod (d + 8) 305 140 lv [] S v Sf := by
  refine Bod.ic 0 (by decide) dc_305_140 ?_
  refine Bod.ist dc_305_141 (by rw [ml_305]; exact Nat.le_of_ble_eq_true rfl) ?_
  exact hB _ (by repeat (first | exact q0 | exact sm_get_p1 | exact sm_get_p2e | refine sm_get_p1m (by decide) (by decide) ?_ | refine sm_get_p1n (by decide) rfl ?_ | refine sm_get_p2n (by decide) (by decide) rfl ?_)) (by repeat (first | exact q2 | exact sm_get_p1 | exact sm_get_p2e | refine sm_get_p1m (by decide) (by decide) ?_ | refine sm_get_p1n (by decide) rfl ?_ | refine sm_get_p2n (by decide) (by decide) rfl ?_)) (by repeat (first | exact q3 | exact sm_get_p1 | exact sm_get_p2e | refine sm_get_p1m (by decide) (by decide) ?_ | refine sm_get_p1n (by decide) rfl ?_ | refine sm_get_p2n (by decide) (by decide) rfl ?_)) (by repeat (first | exact q5 | exact sm_get_p1 | exact sm_get_p2e | refine sm_get_p1m (by decide) (by decide) ?_ | refine sm_get_p1n (by decide) rfl ?_ | refine sm_get_p2n (by decide) (by decide) rfl ?_)) (by repeat (first | exact q0 | exact sm_get_p1 | exact sm_get_p2e | refine sm_get_p1m (by decide) (by decide) ?_ | refine sm_get_p1n (by decide) rfl ?_ | refine sm_get_p2n (by decide) (by decide) rfl ?_))
theorem zAk_1 {d : Nat} {S Sf : cS} {v : Option Value} {lv : sm_L} {lg : Nat} {lnm : Int32} {lq : Nat} {li : Nat} (q0 : sm_get lv 0 = some (.ref 61)) (q2 : sm_get lv 2 = some (.int (nI lg))) (q3 : sm_get lv 3 = some (.int lnm)) (q5 : sm_get lv 5 = some (.int (nI lq))) (q6 : sm_get lv 6 = some (.int (nI li))) (mlg : lg < 2 ^ 20) (mlq : lq < 2 ^ 20) (mli : li < 2 ^ 20) (b1 : lq ≤ li) (hB : ∀ lv1 : sm_L, sm_get lv1 0 = some (.ref 61) → sm_get lv1 2 = some (.int (nI lg)) → sm_get lv1 3 = some (.int lnm) → Bod (d + 8) 305 167 lv1 [] (S) v Sf) : Bod (d + 8) 305 143 lv [] S v Sf := by
  refine Bod.ildG dc_305_143 (by repeat (first | exact q6 | exact sm_get_p1 | exact sm_get_p2e | refine sm_get_p1m (by decide) (by decide) ?_ | refine sm_get_p1n (by decide) rfl ?_ | refine sm_get_p2n (by decide) (by decide) rfl ?_)) ?_
  refine Bod.ildG dc_305_145 (by repeat (first | exact q5 | exact sm_get_p1 | exact sm_get_p2e | refine sm_get_p1m (by decide) (by decide) ?_ | refine sm_get_p1n (by decide) rfl ?_ | refine sm_get_p2n (by decide) (by decide) rfl ?_)) ?_
  refine Bod.icT dc_305_147 rfl (k2_ge_T li lq rfl rfl (by omega) (by omega)) ?_
  exact hB _ (by repeat (first | exact q0 | exact sm_get_p1 | exact sm_get_p2e | refine sm_get_p1m (by decide) (by decide) ?_ | refine sm_get_p1n (by decide) rfl ?_ | refine sm_get_p2n (by decide) (by decide) rfl ?_)) (by repeat (first | exact q2 | exact sm_get_p1 | exact sm_get_p2e | refine sm_get_p1m (by decide) (by decide) ?_ | refine sm_get_p1n (by decide) rfl ?_ | refine sm_get_p2n (by decide) (by decide) rfl ?_)) (by repeat (first | exact q3 | exact sm_get_p1 | exact sm_get_p2e | refine sm_get_p1m (by decide) (by decide) ?_ | refine sm_get_p1n (by decide) rfl ?_ | refine sm_get_p2n (by decide) (by decide) rfl ?_))
theorem zAk_2 {d : Nat} {S Sf : cS} {v : Option Value} {lv : sm_L} {lg : Nat} {lnm : Int32} {lq : Nat} {li : Nat} {S1 : cS} (q0 : sm_get lv 0 = some (.ref 61)) (q2 : sm_get lv 2 = some (.int (nI lg))) (q3 : sm_get lv 3 = some (.int lnm)) (q5 : sm_get lv 5 = some (.int (nI lq))) (q6 : sm_get lv 6 = some (.int (nI li))) (mlg : lg < 2 ^ 20) (mlq : lq < 2 ^ 20) (mli : li < 2 ^ 20) (b1 : li < lq) (b2 : li < 15000) (c1 : Ans (d + 8) 322 [.ref 61, .int (sA S 85 li)] S none S1) (hB : ∀ lv1 : sm_L, sm_get lv1 0 = some (.ref 61) → sm_get lv1 2 = some (.int (nI lg)) → sm_get lv1 3 = some (.int lnm) → sm_get lv1 5 = some (.int (nI lq)) → sm_get lv1 6 = some (.int (nI (li + 1))) → Bod (d + 8) 305 143 lv1 [] (S1) v Sf) : Bod (d + 8) 305 143 lv [] S v Sf := by
  refine Bod.ildG dc_305_143 (by repeat (first | exact q6 | exact sm_get_p1 | exact sm_get_p2e | refine sm_get_p1m (by decide) (by decide) ?_ | refine sm_get_p1n (by decide) rfl ?_ | refine sm_get_p2n (by decide) (by decide) rfl ?_)) ?_
  refine Bod.ildG dc_305_145 (by repeat (first | exact q5 | exact sm_get_p1 | exact sm_get_p2e | refine sm_get_p1m (by decide) (by decide) ?_ | refine sm_get_p1n (by decide) rfl ?_ | refine sm_get_p2n (by decide) (by decide) rfl ?_)) ?_
  refine Bod.icF dc_305_147 rfl (k2_ge_F li lq rfl rfl (by omega) (by omega)) ?_
  refine Bod.aldnG dc_305_150 (by repeat (first | exact q0 | exact sm_get_p1 | exact sm_get_p2e | refine sm_get_p1m (by decide) (by decide) ?_ | refine sm_get_p1n (by decide) rfl ?_ | refine sm_get_p2n (by decide) (by decide) rfl ?_)) ?_
  refine Bod.aldnG dc_305_151 (by repeat (first | exact q0 | exact sm_get_p1 | exact sm_get_p2e | refine sm_get_p1m (by decide) (by decide) ?_ | refine sm_get_p1n (by decide) rfl ?_ | refine sm_get_p2n (by decide) (by decide) rfl ?_)) ?_
  refine Bod.get dc_305_152 fr_305_450 (mk_61 _) rfl ?_
  refine Bod.ildG dc_305_155 (by repeat (first | exact q6 | exact sm_get_p1 | exact sm_get_p2e | refine sm_get_p1m (by decide) (by decide) ?_ | refine sm_get_p1n (by decide) rfl ?_ | refine sm_get_p2n (by decide) (by decide) rfl ?_)) ?_
  refine Bod.ialdN li rfl (by omega) (by omega) dc_305_157 (mk_85 _) ?_
  refine Bod.virt (r := []) dc_305_158 kr_305_269 ⟨Or.inl rfl, ow_322, cl_14⟩ (by rw [np_322]; rfl) (by rw [np_322]; rfl) (ob_of (mk_61 _)) (Nat.le_of_ble_eq_true rfl) (c1  ) ?_
  show Bod _ _ _ _ [] _ _ _
  refine Bod.incN (li + 1) (by rw [kc_1, nI_add]) dc_305_161 (by rw [ml_305]; exact Nat.le_of_ble_eq_true rfl) (by repeat (first | exact q6 | exact sm_get_p1 | exact sm_get_p2e | refine sm_get_p1m (by decide) (by decide) ?_ | refine sm_get_p1n (by decide) rfl ?_ | refine sm_get_p2n (by decide) (by decide) rfl ?_)) ?_
  refine Bod.go dc_305_164 rfl ?_
  exact hB _ (by repeat (first | exact q0 | exact sm_get_p1 | exact sm_get_p2e | refine sm_get_p1m (by decide) (by decide) ?_ | refine sm_get_p1n (by decide) rfl ?_ | refine sm_get_p2n (by decide) (by decide) rfl ?_)) (by repeat (first | exact q2 | exact sm_get_p1 | exact sm_get_p2e | refine sm_get_p1m (by decide) (by decide) ?_ | refine sm_get_p1n (by decide) rfl ?_ | refine sm_get_p2n (by decide) (by decide) rfl ?_)) (by repeat (first | exact q3 | exact sm_get_p1 | exact sm_get_p2e | refine sm_get_p1m (by decide) (by decide) ?_ | refine sm_get_p1n (by decide) rfl ?_ | refine sm_get_p2n (by decide) (by decide) rfl ?_)) (by repeat (first | exact q5 | exact sm_get_p1 | exact sm_get_p2e | refine sm_get_p1m (by decide) (by decide) ?_ | refine sm_get_p1n (by decide) rfl ?_ | refine sm_get_p2n (by decide) (by decide) rfl ?_)) (by repeat (first | exact q0 | exact sm_get_p1 | exact sm_get_p2e | refine sm_get_p1m (by decide) (by decide) ?_ | refine sm_get_p1n (by decide) rfl ?_ | refine sm_get_p2n (by decide) (by decide) rfl ?_))
theorem zAe_1 {d : Nat} {S : cS} {lv : sm_L} {lg : Nat} {lnm : Int32} {S1 : cS} (q0 : sm_get lv 0 = some (.ref 61)) (q2 : sm_get lv 2 = some (.int (nI lg))) (q3 : sm_get lv 3 = some (.int lnm)) (mlg : lg < 2 ^ 20) (b1 : lg ≠ 1) (b2 : lg ≠ 2) (c1 : Ans (d + 8) 302 [.ref 61, .int (nI 22), .int lnm] S none S1) : Bod (d + 8) 305 167 lv [] S (some (.int 1)) (S1) := by
  refine Bod.ildnG dc_305_167 (by repeat (first | exact q2 | exact sm_get_p1 | exact sm_get_p2e | refine sm_get_p1m (by decide) (by decide) ?_ | refine sm_get_p1n (by decide) rfl ?_ | refine sm_get_p2n (by decide) (by decide) rfl ?_)) ?_
  refine Bod.ic 1 (by decide) dc_305_168 ?_
  refine Bod.icT dc_305_169 rfl (k2_ne_T (k_ne lg 1 rfl rfl (by omega) (by omega) (by omega))) ?_
  refine Bod.ildnG dc_305_182 (by repeat (first | exact q2 | exact sm_get_p1 | exact sm_get_p2e | refine sm_get_p1m (by decide) (by decide) ?_ | refine sm_get_p1n (by decide) rfl ?_ | refine sm_get_p2n (by decide) (by decide) rfl ?_)) ?_
  refine Bod.ic 2 (by decide) dc_305_183 ?_
  refine Bod.icT dc_305_184 rfl (k2_ne_T (k_ne lg 2 rfl rfl (by omega) (by omega) (by omega))) ?_
  refine Bod.aldnG dc_305_196 (by repeat (first | exact q0 | exact sm_get_p1 | exact sm_get_p2e | refine sm_get_p1m (by decide) (by decide) ?_ | refine sm_get_p1n (by decide) rfl ?_ | refine sm_get_p2n (by decide) (by decide) rfl ?_)) ?_
  refine Bod.bip 22 (by decide) dc_305_197 ?_
  refine Bod.ildnG dc_305_199 (by repeat (first | exact q3 | exact sm_get_p1 | exact sm_get_p2e | refine sm_get_p1m (by decide) (by decide) ?_ | refine sm_get_p1n (by decide) rfl ?_ | refine sm_get_p2n (by decide) (by decide) rfl ?_)) ?_
  refine Bod.virt (r := []) dc_305_200 kr_305_216 ⟨Or.inl rfl, ow_302, cl_14⟩ (by rw [np_302]; rfl) (by rw [np_302]; rfl) (ob_of (mk_61 _)) (Nat.le_of_ble_eq_true rfl) (c1  ) ?_
  show Bod _ _ _ _ [] _ _ _
  refine Bod.ic 1 (by decide) dc_305_203 ?_
  exact Bod.retZ dc_305_204 rt_305 (Or.inr rfl)
theorem zAe_2 {d : Nat} {S : cS} {lv : sm_L} {lg : Nat} {lnm : Int32} {S1 : cS} (q0 : sm_get lv 0 = some (.ref 61)) (q2 : sm_get lv 2 = some (.int (nI lg))) (q3 : sm_get lv 3 = some (.int lnm)) (mlg : lg < 2 ^ 20) (b1 : lg ≠ 1) (b2 : lg = 2) (c1 : Ans (d + 8) 322 [.ref 61, .int (nI 21)] S none S1) : Bod (d + 8) 305 167 lv [] S (some (.int 1)) (S1) := by
  refine Bod.ildnG dc_305_167 (by repeat (first | exact q2 | exact sm_get_p1 | exact sm_get_p2e | refine sm_get_p1m (by decide) (by decide) ?_ | refine sm_get_p1n (by decide) rfl ?_ | refine sm_get_p2n (by decide) (by decide) rfl ?_)) ?_
  refine Bod.ic 1 (by decide) dc_305_168 ?_
  refine Bod.icT dc_305_169 rfl (k2_ne_T (k_ne lg 1 rfl rfl (by omega) (by omega) (by omega))) ?_
  refine Bod.ildnG dc_305_182 (by repeat (first | exact q2 | exact sm_get_p1 | exact sm_get_p2e | refine sm_get_p1m (by decide) (by decide) ?_ | refine sm_get_p1n (by decide) rfl ?_ | refine sm_get_p2n (by decide) (by decide) rfl ?_)) ?_
  refine Bod.ic 2 (by decide) dc_305_183 ?_
  refine Bod.icF dc_305_184 rfl (k2_ne_F (k_eq lg 2 rfl rfl (by omega))) ?_
  refine Bod.aldnG dc_305_187 (by repeat (first | exact q0 | exact sm_get_p1 | exact sm_get_p2e | refine sm_get_p1m (by decide) (by decide) ?_ | refine sm_get_p1n (by decide) rfl ?_ | refine sm_get_p2n (by decide) (by decide) rfl ?_)) ?_
  refine Bod.bip 21 (by decide) dc_305_188 ?_
  refine Bod.virt (r := []) dc_305_190 kr_305_269 ⟨Or.inl rfl, ow_322, cl_14⟩ (by rw [np_322]; rfl) (by rw [np_322]; rfl) (ob_of (mk_61 _)) (Nat.le_of_ble_eq_true rfl) (c1  ) ?_
  show Bod _ _ _ _ [] _ _ _
  refine Bod.go dc_305_193 rfl ?_
  refine Bod.ic 1 (by decide) dc_305_203 ?_
  exact Bod.retZ dc_305_204 rt_305 (Or.inr rfl)
theorem zAe_3 {d : Nat} {S : cS} {lv : sm_L} {lg : Nat} {lnm : Int32} {S1 : cS} (q0 : sm_get lv 0 = some (.ref 61)) (q2 : sm_get lv 2 = some (.int (nI lg))) (q3 : sm_get lv 3 = some (.int lnm)) (mlg : lg < 2 ^ 20) (b1 : lg = 1) (c1 : Ans (d + 8) 317 [.ref 61, .int (nI 6), .int lnm] S none S1) : Bod (d + 8) 305 167 lv [] S (some (.int 1)) (S1) := by
  refine Bod.ildnG dc_305_167 (by repeat (first | exact q2 | exact sm_get_p1 | exact sm_get_p2e | refine sm_get_p1m (by decide) (by decide) ?_ | refine sm_get_p1n (by decide) rfl ?_ | refine sm_get_p2n (by decide) (by decide) rfl ?_)) ?_
  refine Bod.ic 1 (by decide) dc_305_168 ?_
  refine Bod.icF dc_305_169 rfl (k2_ne_F (k_eq lg 1 rfl rfl (by omega))) ?_
  refine Bod.aldnG dc_305_172 (by repeat (first | exact q0 | exact sm_get_p1 | exact sm_get_p2e | refine sm_get_p1m (by decide) (by decide) ?_ | refine sm_get_p1n (by decide) rfl ?_ | refine sm_get_p2n (by decide) (by decide) rfl ?_)) ?_
  refine Bod.bip 6 (by decide) dc_305_173 ?_
  refine Bod.ildnG dc_305_175 (by repeat (first | exact q3 | exact sm_get_p1 | exact sm_get_p2e | refine sm_get_p1m (by decide) (by decide) ?_ | refine sm_get_p1n (by decide) rfl ?_ | refine sm_get_p2n (by decide) (by decide) rfl ?_)) ?_
  refine Bod.virt (r := []) dc_305_176 kr_305_341 ⟨Or.inl rfl, ow_317, cl_14⟩ (by rw [np_317]; rfl) (by rw [np_317]; rfl) (ob_of (mk_61 _)) (Nat.le_of_ble_eq_true rfl) (c1  ) ?_
  show Bod _ _ _ _ [] _ _ _
  refine Bod.go dc_305_179 rfl ?_
  refine Bod.ic 1 (by decide) dc_305_203 ?_
  exact Bod.retZ dc_305_204 rt_305 (Or.inr rfl)
theorem zAo_1 {d : Nat} {S Sf : cS} {v : Option Value} {lv : sm_L} {lg : Nat} {lnm : Int32} {lz : Nat} {S1 : cS} {k : Nat} {S2 : cS} {S3 : cS} (q0 : sm_get lv 0 = some (.ref 61)) (q2 : sm_get lv 2 = some (.int (nI lg))) (q3 : sm_get lv 3 = some (.int lnm)) (q4 : sm_get lv 4 = some (.int (nI lz))) (mlg : lg < 2 ^ 20) (mlz : lz < 2 ^ 20) (b1 : lg ≠ 0) (c1 : Ans (d + 8) 327 [.ref 61] S none S1) (hk : sI S1 6115 = nI k) (mk : k < 6001) (b2 : lg ≠ 1) (b3 : lg ≠ 2) (c2 : Ans (d + 8) 322 [.ref 61, .int (nI 27)] (wI 6115 (nI (k + 1)) S1) none S2) (c3 : Ans (d + 8) 302 [.ref 61, .int (nI 16), .int lnm] S2 none S3) (hB : ∀ lv1 : sm_L, sm_get lv1 0 = some (.ref 61) → sm_get lv1 2 = some (.int (nI lg)) → sm_get lv1 3 = some (.int lnm) → sm_get lv1 4 = some (.int (nI lz)) → Bod (d + 8) 305 327 lv1 [] (S3) v Sf) : Bod (d + 8) 305 257 lv [] S v Sf := by
  refine Bod.ildnG dc_305_257 (by repeat (first | exact q2 | exact sm_get_p1 | exact sm_get_p2e | refine sm_get_p1m (by decide) (by decide) ?_ | refine sm_get_p1n (by decide) rfl ?_ | refine sm_get_p2n (by decide) (by decide) rfl ?_)) ?_
  refine Bod.ifT dc_305_258 rfl (k1_ne_T (k_ne lg 0 rfl rfl (by omega) (by omega) (by omega))) ?_
  refine Bod.aldnG dc_305_266 (by repeat (first | exact q0 | exact sm_get_p1 | exact sm_get_p2e | refine sm_get_p1m (by decide) (by decide) ?_ | refine sm_get_p1n (by decide) rfl ?_ | refine sm_get_p2n (by decide) (by decide) rfl ?_)) ?_
  refine Bod.virt (r := []) dc_305_267 kr_305_447 ⟨Or.inl rfl, ow_327, cl_14⟩ (by rw [np_327]; rfl) (by rw [np_327]; rfl) (ob_of (mk_61 _)) (Nat.le_of_ble_eq_true rfl) (c1  ) ?_
  show Bod _ _ _ _ [] _ _ _
  refine Bod.aldnG dc_305_270 (by repeat (first | exact q0 | exact sm_get_p1 | exact sm_get_p2e | refine sm_get_p1m (by decide) (by decide) ?_ | refine sm_get_p1n (by decide) rfl ?_ | refine sm_get_p2n (by decide) (by decide) rfl ?_)) ?_
  refine Bod.go dc_305_271 rfl ?_
  refine Bod.get dc_305_272 fr_305_190 (mk_61 _) rfl ?_
  refine Bod.eqI (nI k) (by first | (simp (disch := omega) only [rI, rIe, rA, rIA, rLA, rJA, rVI, rQI, rVA, rQA, upd_at,  rAI, rLI, rJI, nI_add, pk_sub, kc_0, kc_1, kc_2, kc_3, kc_4, kc_5, reduceIte, Nat.reduceEqDiff, Nat.add_zero, rI_hold, rI_hold, rL_hold, hk]; done) | (simp (disch := omega) only [rI, rIe, rA, rIA, rLA, rJA, rVI, rQI, rVA, rQA, upd_at,  rAI, rLI, rJI, nI_add, pk_sub, kc_0, kc_1, kc_2, kc_3, kc_4, kc_5, reduceIte, Nat.reduceEqDiff, Nat.add_zero, rI_hold, rI_hold, rL_hold, hk]; exact congrArg nI (by omega))) ?_
  refine Bod.ic 1 (by decide) dc_305_275 ?_
  refine Bod.addN (k + 1) (by omega) dc_305_276 ?_
  refine Bod.put dc_305_277 fr_305_190 (mk_61 _) (Nat.le_of_ble_eq_true rfl) pf_14_15 (st_6115 _ _) (mu_I _ _ _) ?_
  refine Bod.ildnG dc_305_280 (by repeat (first | exact q2 | exact sm_get_p1 | exact sm_get_p2e | refine sm_get_p1m (by decide) (by decide) ?_ | refine sm_get_p1n (by decide) rfl ?_ | refine sm_get_p2n (by decide) (by decide) rfl ?_)) ?_
  refine Bod.ic 1 (by decide) dc_305_281 ?_
  refine Bod.icT dc_305_282 rfl (k2_ne_T (k_ne lg 1 rfl rfl (by omega) (by omega) (by omega))) ?_
  refine Bod.ildnG dc_305_294 (by repeat (first | exact q2 | exact sm_get_p1 | exact sm_get_p2e | refine sm_get_p1m (by decide) (by decide) ?_ | refine sm_get_p1n (by decide) rfl ?_ | refine sm_get_p2n (by decide) (by decide) rfl ?_)) ?_
  refine Bod.ic 2 (by decide) dc_305_295 ?_
  refine Bod.icT dc_305_296 rfl (k2_ne_T (k_ne lg 2 rfl rfl (by omega) (by omega) (by omega))) ?_
  refine Bod.aldnG dc_305_314 (by repeat (first | exact q0 | exact sm_get_p1 | exact sm_get_p2e | refine sm_get_p1m (by decide) (by decide) ?_ | refine sm_get_p1n (by decide) rfl ?_ | refine sm_get_p2n (by decide) (by decide) rfl ?_)) ?_
  refine Bod.bip 27 (by decide) dc_305_315 ?_
  refine Bod.virt (r := []) dc_305_317 kr_305_269 ⟨Or.inl rfl, ow_322, cl_14⟩ (by rw [np_322]; rfl) (by rw [np_322]; rfl) (ob_of (mk_61 _)) (Nat.le_of_ble_eq_true rfl) (c2  ) ?_
  show Bod _ _ _ _ [] _ _ _
  refine Bod.aldnG dc_305_320 (by repeat (first | exact q0 | exact sm_get_p1 | exact sm_get_p2e | refine sm_get_p1m (by decide) (by decide) ?_ | refine sm_get_p1n (by decide) rfl ?_ | refine sm_get_p2n (by decide) (by decide) rfl ?_)) ?_
  refine Bod.bip 16 (by decide) dc_305_321 ?_
  refine Bod.ildnG dc_305_323 (by repeat (first | exact q3 | exact sm_get_p1 | exact sm_get_p2e | refine sm_get_p1m (by decide) (by decide) ?_ | refine sm_get_p1n (by decide) rfl ?_ | refine sm_get_p2n (by decide) (by decide) rfl ?_)) ?_
  refine Bod.virt (r := []) dc_305_324 kr_305_216 ⟨Or.inl rfl, ow_302, cl_14⟩ (by rw [np_302]; rfl) (by rw [np_302]; rfl) (ob_of (mk_61 _)) (Nat.le_of_ble_eq_true rfl) (c3  ) ?_
  show Bod _ _ _ _ [] _ _ _
  exact hB _ (by repeat (first | exact q0 | exact sm_get_p1 | exact sm_get_p2e | refine sm_get_p1m (by decide) (by decide) ?_ | refine sm_get_p1n (by decide) rfl ?_ | refine sm_get_p2n (by decide) (by decide) rfl ?_)) (by repeat (first | exact q2 | exact sm_get_p1 | exact sm_get_p2e | refine sm_get_p1m (by decide) (by decide) ?_ | refine sm_get_p1n (by decide) rfl ?_ | refine sm_get_p2n (by decide) (by decide) rfl ?_)) (by repeat (first | exact q3 | exact sm_get_p1 | exact sm_get_p2e | refine sm_get_p1m (by decide) (by decide) ?_ | refine sm_get_p1n (by decide) rfl ?_ | refine sm_get_p2n (by decide) (by decide) rfl ?_)) (by repeat (first | exact q4 | exact sm_get_p1 | exact sm_get_p2e | refine sm_get_p1m (by decide) (by decide) ?_ | refine sm_get_p1n (by decide) rfl ?_ | refine sm_get_p2n (by decide) (by decide) rfl ?_))
theorem zAo_2 {d : Nat} {S Sf : cS} {v : Option Value} {lv : sm_L} {lg : Nat} {lnm : Int32} {lz : Nat} {S1 : cS} {k : Nat} {S2 : cS} {S3 : cS} (q0 : sm_get lv 0 = some (.ref 61)) (q2 : sm_get lv 2 = some (.int (nI lg))) (q3 : sm_get lv 3 = some (.int lnm)) (q4 : sm_get lv 4 = some (.int (nI lz))) (mlg : lg < 2 ^ 20) (mlz : lz < 2 ^ 20) (b1 : lg ≠ 0) (c1 : Ans (d + 8) 327 [.ref 61] S none S1) (hk : sI S1 6115 = nI k) (mk : k < 6001) (b2 : lg ≠ 1) (b3 : lg = 2) (c2 : Ans (d + 8) 322 [.ref 61, .int (nI 28)] (wI 6115 (nI (k + 1)) S1) none S2) (c3 : Ans (d + 8) 322 [.ref 61, .int (nI 15)] S2 none S3) (hB : ∀ lv1 : sm_L, sm_get lv1 0 = some (.ref 61) → sm_get lv1 2 = some (.int (nI lg)) → sm_get lv1 3 = some (.int lnm) → sm_get lv1 4 = some (.int (nI lz)) → Bod (d + 8) 305 327 lv1 [] (S3) v Sf) : Bod (d + 8) 305 257 lv [] S v Sf := by
  refine Bod.ildnG dc_305_257 (by repeat (first | exact q2 | exact sm_get_p1 | exact sm_get_p2e | refine sm_get_p1m (by decide) (by decide) ?_ | refine sm_get_p1n (by decide) rfl ?_ | refine sm_get_p2n (by decide) (by decide) rfl ?_)) ?_
  refine Bod.ifT dc_305_258 rfl (k1_ne_T (k_ne lg 0 rfl rfl (by omega) (by omega) (by omega))) ?_
  refine Bod.aldnG dc_305_266 (by repeat (first | exact q0 | exact sm_get_p1 | exact sm_get_p2e | refine sm_get_p1m (by decide) (by decide) ?_ | refine sm_get_p1n (by decide) rfl ?_ | refine sm_get_p2n (by decide) (by decide) rfl ?_)) ?_
  refine Bod.virt (r := []) dc_305_267 kr_305_447 ⟨Or.inl rfl, ow_327, cl_14⟩ (by rw [np_327]; rfl) (by rw [np_327]; rfl) (ob_of (mk_61 _)) (Nat.le_of_ble_eq_true rfl) (c1  ) ?_
  show Bod _ _ _ _ [] _ _ _
  refine Bod.aldnG dc_305_270 (by repeat (first | exact q0 | exact sm_get_p1 | exact sm_get_p2e | refine sm_get_p1m (by decide) (by decide) ?_ | refine sm_get_p1n (by decide) rfl ?_ | refine sm_get_p2n (by decide) (by decide) rfl ?_)) ?_
  refine Bod.go dc_305_271 rfl ?_
  refine Bod.get dc_305_272 fr_305_190 (mk_61 _) rfl ?_
  refine Bod.eqI (nI k) (by first | (simp (disch := omega) only [rI, rIe, rA, rIA, rLA, rJA, rVI, rQI, rVA, rQA, upd_at,  rAI, rLI, rJI, nI_add, pk_sub, kc_0, kc_1, kc_2, kc_3, kc_4, kc_5, reduceIte, Nat.reduceEqDiff, Nat.add_zero, rI_hold, rI_hold, rL_hold, hk]; done) | (simp (disch := omega) only [rI, rIe, rA, rIA, rLA, rJA, rVI, rQI, rVA, rQA, upd_at,  rAI, rLI, rJI, nI_add, pk_sub, kc_0, kc_1, kc_2, kc_3, kc_4, kc_5, reduceIte, Nat.reduceEqDiff, Nat.add_zero, rI_hold, rI_hold, rL_hold, hk]; exact congrArg nI (by omega))) ?_
  refine Bod.ic 1 (by decide) dc_305_275 ?_
  refine Bod.addN (k + 1) (by omega) dc_305_276 ?_
  refine Bod.put dc_305_277 fr_305_190 (mk_61 _) (Nat.le_of_ble_eq_true rfl) pf_14_15 (st_6115 _ _) (mu_I _ _ _) ?_
  refine Bod.ildnG dc_305_280 (by repeat (first | exact q2 | exact sm_get_p1 | exact sm_get_p2e | refine sm_get_p1m (by decide) (by decide) ?_ | refine sm_get_p1n (by decide) rfl ?_ | refine sm_get_p2n (by decide) (by decide) rfl ?_)) ?_
  refine Bod.ic 1 (by decide) dc_305_281 ?_
  refine Bod.icT dc_305_282 rfl (k2_ne_T (k_ne lg 1 rfl rfl (by omega) (by omega) (by omega))) ?_
  refine Bod.ildnG dc_305_294 (by repeat (first | exact q2 | exact sm_get_p1 | exact sm_get_p2e | refine sm_get_p1m (by decide) (by decide) ?_ | refine sm_get_p1n (by decide) rfl ?_ | refine sm_get_p2n (by decide) (by decide) rfl ?_)) ?_
  refine Bod.ic 2 (by decide) dc_305_295 ?_
  refine Bod.icF dc_305_296 rfl (k2_ne_F (k_eq lg 2 rfl rfl (by omega))) ?_
  refine Bod.aldnG dc_305_299 (by repeat (first | exact q0 | exact sm_get_p1 | exact sm_get_p2e | refine sm_get_p1m (by decide) (by decide) ?_ | refine sm_get_p1n (by decide) rfl ?_ | refine sm_get_p2n (by decide) (by decide) rfl ?_)) ?_
  refine Bod.bip 28 (by decide) dc_305_300 ?_
  refine Bod.virt (r := []) dc_305_302 kr_305_269 ⟨Or.inl rfl, ow_322, cl_14⟩ (by rw [np_322]; rfl) (by rw [np_322]; rfl) (ob_of (mk_61 _)) (Nat.le_of_ble_eq_true rfl) (c2  ) ?_
  show Bod _ _ _ _ [] _ _ _
  refine Bod.aldnG dc_305_305 (by repeat (first | exact q0 | exact sm_get_p1 | exact sm_get_p2e | refine sm_get_p1m (by decide) (by decide) ?_ | refine sm_get_p1n (by decide) rfl ?_ | refine sm_get_p2n (by decide) (by decide) rfl ?_)) ?_
  refine Bod.bip 15 (by decide) dc_305_306 ?_
  refine Bod.virt (r := []) dc_305_308 kr_305_269 ⟨Or.inl rfl, ow_322, cl_14⟩ (by rw [np_322]; rfl) (by rw [np_322]; rfl) (ob_of (mk_61 _)) (Nat.le_of_ble_eq_true rfl) (c3  ) ?_
  show Bod _ _ _ _ [] _ _ _
  refine Bod.go dc_305_311 rfl ?_
  exact hB _ (by repeat (first | exact q0 | exact sm_get_p1 | exact sm_get_p2e | refine sm_get_p1m (by decide) (by decide) ?_ | refine sm_get_p1n (by decide) rfl ?_ | refine sm_get_p2n (by decide) (by decide) rfl ?_)) (by repeat (first | exact q2 | exact sm_get_p1 | exact sm_get_p2e | refine sm_get_p1m (by decide) (by decide) ?_ | refine sm_get_p1n (by decide) rfl ?_ | refine sm_get_p2n (by decide) (by decide) rfl ?_)) (by repeat (first | exact q3 | exact sm_get_p1 | exact sm_get_p2e | refine sm_get_p1m (by decide) (by decide) ?_ | refine sm_get_p1n (by decide) rfl ?_ | refine sm_get_p2n (by decide) (by decide) rfl ?_)) (by repeat (first | exact q4 | exact sm_get_p1 | exact sm_get_p2e | refine sm_get_p1m (by decide) (by decide) ?_ | refine sm_get_p1n (by decide) rfl ?_ | refine sm_get_p2n (by decide) (by decide) rfl ?_))
theorem zAo_3 {d : Nat} {S Sf : cS} {v : Option Value} {lv : sm_L} {lg : Nat} {lnm : Int32} {lz : Nat} {S1 : cS} {k : Nat} {S2 : cS} (q0 : sm_get lv 0 = some (.ref 61)) (q2 : sm_get lv 2 = some (.int (nI lg))) (q3 : sm_get lv 3 = some (.int lnm)) (q4 : sm_get lv 4 = some (.int (nI lz))) (mlg : lg < 2 ^ 20) (mlz : lz < 2 ^ 20) (b1 : lg ≠ 0) (c1 : Ans (d + 8) 327 [.ref 61] S none S1) (hk : sI S1 6115 = nI k) (mk : k < 6001) (b2 : lg = 1) (c2 : Ans (d + 8) 317 [.ref 61, .int (nI 4), .int lnm] (wI 6115 (nI (k + 1)) S1) none S2) (hB : ∀ lv1 : sm_L, sm_get lv1 0 = some (.ref 61) → sm_get lv1 2 = some (.int (nI lg)) → sm_get lv1 3 = some (.int lnm) → sm_get lv1 4 = some (.int (nI lz)) → Bod (d + 8) 305 327 lv1 [] (S2) v Sf) : Bod (d + 8) 305 257 lv [] S v Sf := by
  refine Bod.ildnG dc_305_257 (by repeat (first | exact q2 | exact sm_get_p1 | exact sm_get_p2e | refine sm_get_p1m (by decide) (by decide) ?_ | refine sm_get_p1n (by decide) rfl ?_ | refine sm_get_p2n (by decide) (by decide) rfl ?_)) ?_
  refine Bod.ifT dc_305_258 rfl (k1_ne_T (k_ne lg 0 rfl rfl (by omega) (by omega) (by omega))) ?_
  refine Bod.aldnG dc_305_266 (by repeat (first | exact q0 | exact sm_get_p1 | exact sm_get_p2e | refine sm_get_p1m (by decide) (by decide) ?_ | refine sm_get_p1n (by decide) rfl ?_ | refine sm_get_p2n (by decide) (by decide) rfl ?_)) ?_
  refine Bod.virt (r := []) dc_305_267 kr_305_447 ⟨Or.inl rfl, ow_327, cl_14⟩ (by rw [np_327]; rfl) (by rw [np_327]; rfl) (ob_of (mk_61 _)) (Nat.le_of_ble_eq_true rfl) (c1  ) ?_
  show Bod _ _ _ _ [] _ _ _
  refine Bod.aldnG dc_305_270 (by repeat (first | exact q0 | exact sm_get_p1 | exact sm_get_p2e | refine sm_get_p1m (by decide) (by decide) ?_ | refine sm_get_p1n (by decide) rfl ?_ | refine sm_get_p2n (by decide) (by decide) rfl ?_)) ?_
  refine Bod.go dc_305_271 rfl ?_
  refine Bod.get dc_305_272 fr_305_190 (mk_61 _) rfl ?_
  refine Bod.eqI (nI k) (by first | (simp (disch := omega) only [rI, rIe, rA, rIA, rLA, rJA, rVI, rQI, rVA, rQA, upd_at,  rAI, rLI, rJI, nI_add, pk_sub, kc_0, kc_1, kc_2, kc_3, kc_4, kc_5, reduceIte, Nat.reduceEqDiff, Nat.add_zero, rI_hold, rI_hold, rL_hold, hk]; done) | (simp (disch := omega) only [rI, rIe, rA, rIA, rLA, rJA, rVI, rQI, rVA, rQA, upd_at,  rAI, rLI, rJI, nI_add, pk_sub, kc_0, kc_1, kc_2, kc_3, kc_4, kc_5, reduceIte, Nat.reduceEqDiff, Nat.add_zero, rI_hold, rI_hold, rL_hold, hk]; exact congrArg nI (by omega))) ?_
  refine Bod.ic 1 (by decide) dc_305_275 ?_
  refine Bod.addN (k + 1) (by omega) dc_305_276 ?_
  refine Bod.put dc_305_277 fr_305_190 (mk_61 _) (Nat.le_of_ble_eq_true rfl) pf_14_15 (st_6115 _ _) (mu_I _ _ _) ?_
  refine Bod.ildnG dc_305_280 (by repeat (first | exact q2 | exact sm_get_p1 | exact sm_get_p2e | refine sm_get_p1m (by decide) (by decide) ?_ | refine sm_get_p1n (by decide) rfl ?_ | refine sm_get_p2n (by decide) (by decide) rfl ?_)) ?_
  refine Bod.ic 1 (by decide) dc_305_281 ?_
  refine Bod.icF dc_305_282 rfl (k2_ne_F (k_eq lg 1 rfl rfl (by omega))) ?_
  refine Bod.aldnG dc_305_285 (by repeat (first | exact q0 | exact sm_get_p1 | exact sm_get_p2e | refine sm_get_p1m (by decide) (by decide) ?_ | refine sm_get_p1n (by decide) rfl ?_ | refine sm_get_p2n (by decide) (by decide) rfl ?_)) ?_
  refine Bod.ic 4 (by decide) dc_305_286 ?_
  refine Bod.ildnG dc_305_287 (by repeat (first | exact q3 | exact sm_get_p1 | exact sm_get_p2e | refine sm_get_p1m (by decide) (by decide) ?_ | refine sm_get_p1n (by decide) rfl ?_ | refine sm_get_p2n (by decide) (by decide) rfl ?_)) ?_
  refine Bod.virt (r := []) dc_305_288 kr_305_341 ⟨Or.inl rfl, ow_317, cl_14⟩ (by rw [np_317]; rfl) (by rw [np_317]; rfl) (ob_of (mk_61 _)) (Nat.le_of_ble_eq_true rfl) (c2  ) ?_
  show Bod _ _ _ _ [] _ _ _
  refine Bod.go dc_305_291 rfl ?_
  exact hB _ (by repeat (first | exact q0 | exact sm_get_p1 | exact sm_get_p2e | refine sm_get_p1m (by decide) (by decide) ?_ | refine sm_get_p1n (by decide) rfl ?_ | refine sm_get_p2n (by decide) (by decide) rfl ?_)) (by repeat (first | exact q2 | exact sm_get_p1 | exact sm_get_p2e | refine sm_get_p1m (by decide) (by decide) ?_ | refine sm_get_p1n (by decide) rfl ?_ | refine sm_get_p2n (by decide) (by decide) rfl ?_)) (by repeat (first | exact q3 | exact sm_get_p1 | exact sm_get_p2e | refine sm_get_p1m (by decide) (by decide) ?_ | refine sm_get_p1n (by decide) rfl ?_ | refine sm_get_p2n (by decide) (by decide) rfl ?_)) (by repeat (first | exact q4 | exact sm_get_p1 | exact sm_get_p2e | refine sm_get_p1m (by decide) (by decide) ?_ | refine sm_get_p1n (by decide) rfl ?_ | refine sm_get_p2n (by decide) (by decide) rfl ?_))
theorem zAo_4 {d : Nat} {S : cS} {lv : sm_L} {lg : Nat} {lnm : Int32} {lz : Nat} {S1 : cS} (q0 : sm_get lv 0 = some (.ref 61)) (q2 : sm_get lv 2 = some (.int (nI lg))) (q3 : sm_get lv 3 = some (.int lnm)) (q4 : sm_get lv 4 = some (.int (nI lz))) (mlg : lg < 2 ^ 20) (mlz : lz < 2 ^ 20) (b1 : lg = 0) (c1 : Ans (d + 8) 299 [.ref 61] S (some (.int (nI 0))) S1) : Bod (d + 8) 305 257 lv [] S (some (.int 0)) (S1) := by
  refine Bod.ildnG dc_305_257 (by repeat (first | exact q2 | exact sm_get_p1 | exact sm_get_p2e | refine sm_get_p1m (by decide) (by decide) ?_ | refine sm_get_p1n (by decide) rfl ?_ | refine sm_get_p2n (by decide) (by decide) rfl ?_)) ?_
  refine Bod.ifF dc_305_258 rfl (k1_ne_F (k_eq lg 0 rfl rfl (by omega))) ?_
  refine Bod.aldnG dc_305_261 (by repeat (first | exact q0 | exact sm_get_p1 | exact sm_get_p2e | refine sm_get_p1m (by decide) (by decide) ?_ | refine sm_get_p1n (by decide) rfl ?_ | refine sm_get_p2n (by decide) (by decide) rfl ?_)) ?_
  refine Bod.virt (r := []) dc_305_262 kr_305_202 ⟨Or.inl rfl, ow_299, cl_14⟩ (by rw [np_299]; rfl) (by rw [np_299]; rfl) (ob_of (mk_61 _)) (Nat.le_of_ble_eq_true rfl) (c1  ) ?_
  show Bod _ _ _ _ [_] _ _ _
  exact Bod.retZ dc_305_265 rt_305 (Or.inl rfl)
theorem zAq_1 {d : Nat} {S Sf : cS} {v : Option Value} {lv : sm_L} {lg : Nat} {lnm : Int32} {lz : Nat} {S1 : cS} {S2 : cS} (q0 : sm_get lv 0 = some (.ref 61)) (q2 : sm_get lv 2 = some (.int (nI lg))) (q3 : sm_get lv 3 = some (.int lnm)) (q4 : sm_get lv 4 = some (.int (nI lz))) (mlg : lg < 2 ^ 20) (mlz : lz < 2 ^ 20) (c1 : Ans (d + 8) 306 [.ref 61, .int (nI 0)] S (some (.int (nI 1))) S1) (c2 : Ans (d + 8) 302 [.ref 61, .int (nI 8), .int (nI (lz / 256))] S1 none S2) (hB : ∀ lv1 : sm_L, sm_get lv1 0 = some (.ref 61) → sm_get lv1 2 = some (.int (nI lg)) → sm_get lv1 3 = some (.int lnm) → Bod (d + 8) 305 349 lv1 [] (S2) v Sf) : Bod (d + 8) 305 327 lv [] S v Sf := by
  refine Bod.aldnG dc_305_327 (by repeat (first | exact q0 | exact sm_get_p1 | exact sm_get_p2e | refine sm_get_p1m (by decide) (by decide) ?_ | refine sm_get_p1n (by decide) rfl ?_ | refine sm_get_p2n (by decide) (by decide) rfl ?_)) ?_
  refine Bod.ic 0 (by decide) dc_305_328 ?_
  refine Bod.virt (r := []) dc_305_329 kr_305_302 ⟨Or.inl rfl, ow_306, cl_14⟩ (by rw [np_306]; rfl) (by rw [np_306]; rfl) (ob_of (mk_61 _)) (Nat.le_of_ble_eq_true rfl) (c1  ) ?_
  show Bod _ _ _ _ [_] _ _ _
  refine Bod.ifT dc_305_332 rfl (k1_ne_T (k_ne 1 0 rfl rfl (by omega) (by omega) (by omega))) ?_
  refine Bod.aldnG dc_305_337 (by repeat (first | exact q0 | exact sm_get_p1 | exact sm_get_p2e | refine sm_get_p1m (by decide) (by decide) ?_ | refine sm_get_p1n (by decide) rfl ?_ | refine sm_get_p2n (by decide) (by decide) rfl ?_)) ?_
  refine Bod.bip 8 (by decide) dc_305_338 ?_
  refine Bod.ildG dc_305_340 (by repeat (first | exact q4 | exact sm_get_p1 | exact sm_get_p2e | refine sm_get_p1m (by decide) (by decide) ?_ | refine sm_get_p1n (by decide) rfl ?_ | refine sm_get_p2n (by decide) (by decide) rfl ?_)) ?_
  refine Bod.sip 256 (by decide) dc_305_342 ?_
  refine Bod.idivN (lz / 256) (by omega) (by omega) (by omega) rfl dc_305_345 ?_
  refine Bod.virt (r := []) dc_305_346 kr_305_216 ⟨Or.inl rfl, ow_302, cl_14⟩ (by rw [np_302]; rfl) (by rw [np_302]; rfl) (ob_of (mk_61 _)) (Nat.le_of_ble_eq_true rfl) (c2  ) ?_
  show Bod _ _ _ _ [] _ _ _
  exact hB _ (by repeat (first | exact q0 | exact sm_get_p1 | exact sm_get_p2e | refine sm_get_p1m (by decide) (by decide) ?_ | refine sm_get_p1n (by decide) rfl ?_ | refine sm_get_p2n (by decide) (by decide) rfl ?_)) (by repeat (first | exact q2 | exact sm_get_p1 | exact sm_get_p2e | refine sm_get_p1m (by decide) (by decide) ?_ | refine sm_get_p1n (by decide) rfl ?_ | refine sm_get_p2n (by decide) (by decide) rfl ?_)) (by repeat (first | exact q3 | exact sm_get_p1 | exact sm_get_p2e | refine sm_get_p1m (by decide) (by decide) ?_ | refine sm_get_p1n (by decide) rfl ?_ | refine sm_get_p2n (by decide) (by decide) rfl ?_))
theorem zAq_2 {d : Nat} {S : cS} {lv : sm_L} {lg : Nat} {lnm : Int32} {lz : Nat} {S1 : cS} (q0 : sm_get lv 0 = some (.ref 61)) (q2 : sm_get lv 2 = some (.int (nI lg))) (q3 : sm_get lv 3 = some (.int lnm)) (q4 : sm_get lv 4 = some (.int (nI lz))) (mlg : lg < 2 ^ 20) (mlz : lz < 2 ^ 20) (c1 : Ans (d + 8) 306 [.ref 61, .int (nI 0)] S (some (.int (nI 0))) S1) : Bod (d + 8) 305 327 lv [] S (some (.int 0)) (S1) := by
  refine Bod.aldnG dc_305_327 (by repeat (first | exact q0 | exact sm_get_p1 | exact sm_get_p2e | refine sm_get_p1m (by decide) (by decide) ?_ | refine sm_get_p1n (by decide) rfl ?_ | refine sm_get_p2n (by decide) (by decide) rfl ?_)) ?_
  refine Bod.ic 0 (by decide) dc_305_328 ?_
  refine Bod.virt (r := []) dc_305_329 kr_305_302 ⟨Or.inl rfl, ow_306, cl_14⟩ (by rw [np_306]; rfl) (by rw [np_306]; rfl) (ob_of (mk_61 _)) (Nat.le_of_ble_eq_true rfl) (c1  ) ?_
  show Bod _ _ _ _ [_] _ _ _
  refine Bod.ifF dc_305_332 rfl (k1_ne_F (k_eq 0 0 rfl rfl (by omega))) ?_
  refine Bod.ic 0 (by decide) dc_305_335 ?_
  exact Bod.retZ dc_305_336 rt_305 (Or.inl rfl)
theorem zAf_1 {d : Nat} {S : cS} {lv : sm_L} {lg : Nat} {lnm : Int32} {S1 : cS} (q0 : sm_get lv 0 = some (.ref 61)) (q2 : sm_get lv 2 = some (.int (nI lg))) (q3 : sm_get lv 3 = some (.int lnm)) (mlg : lg < 2 ^ 20) (b1 : lg ≠ 1) (b2 : lg ≠ 2) (c1 : Ans (d + 8) 302 [.ref 61, .int (nI 24), .int lnm] S none S1) : Bod (d + 8) 305 349 lv [] S (some (.int 1)) (S1) := by
  refine Bod.ildnG dc_305_349 (by repeat (first | exact q2 | exact sm_get_p1 | exact sm_get_p2e | refine sm_get_p1m (by decide) (by decide) ?_ | refine sm_get_p1n (by decide) rfl ?_ | refine sm_get_p2n (by decide) (by decide) rfl ?_)) ?_
  refine Bod.ic 1 (by decide) dc_305_350 ?_
  refine Bod.icT dc_305_351 rfl (k2_ne_T (k_ne lg 1 rfl rfl (by omega) (by omega) (by omega))) ?_
  refine Bod.ildnG dc_305_364 (by repeat (first | exact q2 | exact sm_get_p1 | exact sm_get_p2e | refine sm_get_p1m (by decide) (by decide) ?_ | refine sm_get_p1n (by decide) rfl ?_ | refine sm_get_p2n (by decide) (by decide) rfl ?_)) ?_
  refine Bod.ic 2 (by decide) dc_305_365 ?_
  refine Bod.icT dc_305_366 rfl (k2_ne_T (k_ne lg 2 rfl rfl (by omega) (by omega) (by omega))) ?_
  refine Bod.aldnG dc_305_378 (by repeat (first | exact q0 | exact sm_get_p1 | exact sm_get_p2e | refine sm_get_p1m (by decide) (by decide) ?_ | refine sm_get_p1n (by decide) rfl ?_ | refine sm_get_p2n (by decide) (by decide) rfl ?_)) ?_
  refine Bod.bip 24 (by decide) dc_305_379 ?_
  refine Bod.ildnG dc_305_381 (by repeat (first | exact q3 | exact sm_get_p1 | exact sm_get_p2e | refine sm_get_p1m (by decide) (by decide) ?_ | refine sm_get_p1n (by decide) rfl ?_ | refine sm_get_p2n (by decide) (by decide) rfl ?_)) ?_
  refine Bod.virt (r := []) dc_305_382 kr_305_216 ⟨Or.inl rfl, ow_302, cl_14⟩ (by rw [np_302]; rfl) (by rw [np_302]; rfl) (ob_of (mk_61 _)) (Nat.le_of_ble_eq_true rfl) (c1  ) ?_
  show Bod _ _ _ _ [] _ _ _
  refine Bod.ic 1 (by decide) dc_305_385 ?_
  exact Bod.retZ dc_305_386 rt_305 (Or.inr rfl)
theorem zAf_2 {d : Nat} {S : cS} {lv : sm_L} {lg : Nat} {lnm : Int32} {S1 : cS} (q0 : sm_get lv 0 = some (.ref 61)) (q2 : sm_get lv 2 = some (.int (nI lg))) (q3 : sm_get lv 3 = some (.int lnm)) (mlg : lg < 2 ^ 20) (b1 : lg ≠ 1) (b2 : lg = 2) (c1 : Ans (d + 8) 322 [.ref 61, .int (nI 23)] S none S1) : Bod (d + 8) 305 349 lv [] S (some (.int 1)) (S1) := by
  refine Bod.ildnG dc_305_349 (by repeat (first | exact q2 | exact sm_get_p1 | exact sm_get_p2e | refine sm_get_p1m (by decide) (by decide) ?_ | refine sm_get_p1n (by decide) rfl ?_ | refine sm_get_p2n (by decide) (by decide) rfl ?_)) ?_
  refine Bod.ic 1 (by decide) dc_305_350 ?_
  refine Bod.icT dc_305_351 rfl (k2_ne_T (k_ne lg 1 rfl rfl (by omega) (by omega) (by omega))) ?_
  refine Bod.ildnG dc_305_364 (by repeat (first | exact q2 | exact sm_get_p1 | exact sm_get_p2e | refine sm_get_p1m (by decide) (by decide) ?_ | refine sm_get_p1n (by decide) rfl ?_ | refine sm_get_p2n (by decide) (by decide) rfl ?_)) ?_
  refine Bod.ic 2 (by decide) dc_305_365 ?_
  refine Bod.icF dc_305_366 rfl (k2_ne_F (k_eq lg 2 rfl rfl (by omega))) ?_
  refine Bod.aldnG dc_305_369 (by repeat (first | exact q0 | exact sm_get_p1 | exact sm_get_p2e | refine sm_get_p1m (by decide) (by decide) ?_ | refine sm_get_p1n (by decide) rfl ?_ | refine sm_get_p2n (by decide) (by decide) rfl ?_)) ?_
  refine Bod.bip 23 (by decide) dc_305_370 ?_
  refine Bod.virt (r := []) dc_305_372 kr_305_269 ⟨Or.inl rfl, ow_322, cl_14⟩ (by rw [np_322]; rfl) (by rw [np_322]; rfl) (ob_of (mk_61 _)) (Nat.le_of_ble_eq_true rfl) (c1  ) ?_
  show Bod _ _ _ _ [] _ _ _
  refine Bod.go dc_305_375 rfl ?_
  refine Bod.ic 1 (by decide) dc_305_385 ?_
  exact Bod.retZ dc_305_386 rt_305 (Or.inr rfl)
theorem zAf_3 {d : Nat} {S : cS} {lv : sm_L} {lg : Nat} {lnm : Int32} {S1 : cS} (q0 : sm_get lv 0 = some (.ref 61)) (q2 : sm_get lv 2 = some (.int (nI lg))) (q3 : sm_get lv 3 = some (.int lnm)) (mlg : lg < 2 ^ 20) (b1 : lg = 1) (c1 : Ans (d + 8) 317 [.ref 61, .int (nI 6), .int lnm] S none S1) : Bod (d + 8) 305 349 lv [] S (some (.int 1)) (S1) := by
  refine Bod.ildnG dc_305_349 (by repeat (first | exact q2 | exact sm_get_p1 | exact sm_get_p2e | refine sm_get_p1m (by decide) (by decide) ?_ | refine sm_get_p1n (by decide) rfl ?_ | refine sm_get_p2n (by decide) (by decide) rfl ?_)) ?_
  refine Bod.ic 1 (by decide) dc_305_350 ?_
  refine Bod.icF dc_305_351 rfl (k2_ne_F (k_eq lg 1 rfl rfl (by omega))) ?_
  refine Bod.aldnG dc_305_354 (by repeat (first | exact q0 | exact sm_get_p1 | exact sm_get_p2e | refine sm_get_p1m (by decide) (by decide) ?_ | refine sm_get_p1n (by decide) rfl ?_ | refine sm_get_p2n (by decide) (by decide) rfl ?_)) ?_
  refine Bod.bip 6 (by decide) dc_305_355 ?_
  refine Bod.ildnG dc_305_357 (by repeat (first | exact q3 | exact sm_get_p1 | exact sm_get_p2e | refine sm_get_p1m (by decide) (by decide) ?_ | refine sm_get_p1n (by decide) rfl ?_ | refine sm_get_p2n (by decide) (by decide) rfl ?_)) ?_
  refine Bod.virt (r := []) dc_305_358 kr_305_341 ⟨Or.inl rfl, ow_317, cl_14⟩ (by rw [np_317]; rfl) (by rw [np_317]; rfl) (ob_of (mk_61 _)) (Nat.le_of_ble_eq_true rfl) (c1  ) ?_
  show Bod _ _ _ _ [] _ _ _
  refine Bod.go dc_305_361 rfl ?_
  refine Bod.ic 1 (by decide) dc_305_385 ?_
  exact Bod.retZ dc_305_386 rt_305 (Or.inr rfl)
