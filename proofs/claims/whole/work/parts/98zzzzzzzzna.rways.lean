/-! WAYS of the reference's machine: every call is a hypothesis -/
theorem ml_352 : sm_ml 352 = 6 := by decide +kernel
theorem dc_352_0 : decode (sm_cc 352) 0 = .ok (.aload_n 0, 1) := by decide +kernel
theorem dc_352_1 : decode (sm_cc 352) 1 = .ok (.getfield 496, 3) := by decide +kernel
theorem fr_352_496 : sm_at mt_f (sm_ow 352) 496 = some (496, 14, 48, 0, 2121) := by decide +kernel
theorem dc_352_4 : decode (sm_cc 352) 4 = .ok (.aload_n 0, 1) := by decide +kernel
theorem dc_352_5 : decode (sm_cc 352) 5 = .ok (.getfield 493, 3) := by decide +kernel
theorem fr_352_493 : sm_at mt_f (sm_ow 352) 493 = some (493, 14, 51, 0, 2124) := by decide +kernel
theorem dc_352_8 : decode (sm_cc 352) 8 = .ok (.iload_n 1, 1) := by decide +kernel
theorem dc_352_9 : decode (sm_cc 352) 9 = .ok (.iastore, 1) := by decide +kernel
theorem dc_352_10 : decode (sm_cc 352) 10 = .ok (.aload_n 0, 1) := by decide +kernel
theorem dc_352_11 : decode (sm_cc 352) 11 = .ok (.getfield 499, 3) := by decide +kernel
theorem fr_352_499 : sm_at mt_f (sm_ow 352) 499 = some (499, 14, 49, 0, 2122) := by decide +kernel
theorem dc_352_14 : decode (sm_cc 352) 14 = .ok (.aload_n 0, 1) := by decide +kernel
theorem dc_352_15 : decode (sm_cc 352) 15 = .ok (.getfield 493, 3) := by decide +kernel
theorem dc_352_18 : decode (sm_cc 352) 18 = .ok (.lload_n 2, 1) := by decide +kernel
theorem dc_352_19 : decode (sm_cc 352) 19 = .ok (.lastore, 1) := by decide +kernel
theorem dc_352_20 : decode (sm_cc 352) 20 = .ok (.aload_n 0, 1) := by decide +kernel
theorem dc_352_21 : decode (sm_cc 352) 21 = .ok (.getfield 546, 3) := by decide +kernel
theorem fr_352_546 : sm_at mt_f (sm_ow 352) 546 = some (546, 14, 50, 0, 2123) := by decide +kernel
theorem dc_352_24 : decode (sm_cc 352) 24 = .ok (.aload_n 0, 1) := by decide +kernel
theorem dc_352_25 : decode (sm_cc 352) 25 = .ok (.getfield 493, 3) := by decide +kernel
theorem dc_352_28 : decode (sm_cc 352) 28 = .ok (.lload 4, 2) := by decide +kernel
theorem dc_352_30 : decode (sm_cc 352) 30 = .ok (.lastore, 1) := by decide +kernel
theorem dc_352_31 : decode (sm_cc 352) 31 = .ok (.aload_n 0, 1) := by decide +kernel
theorem dc_352_32 : decode (sm_cc 352) 32 = .ok (.dup, 1) := by decide +kernel
theorem dc_352_33 : decode (sm_cc 352) 33 = .ok (.getfield 493, 3) := by decide +kernel
theorem dc_352_36 : decode (sm_cc 352) 36 = .ok (.iconst 1, 1) := by decide +kernel
theorem dc_352_37 : decode (sm_cc 352) 37 = .ok (.iadd, 1) := by decide +kernel
theorem dc_352_38 : decode (sm_cc 352) 38 = .ok (.putfield 493, 3) := by decide +kernel
theorem dc_352_41 : decode (sm_cc 352) 41 = .ok (.return_, 1) := by decide +kernel
theorem rt_352 : sm_rt 352 = none := by decide +kernel
theorem ml_353 : sm_ml 353 = 3 := by decide +kernel
theorem dc_353_0 : decode (sm_cc 353) 0 = .ok (.aload_n 0, 1) := by decide +kernel
theorem dc_353_1 : decode (sm_cc 353) 1 = .ok (.iconst 1, 1) := by decide +kernel
theorem dc_353_2 : decode (sm_cc 353) 2 = .ok (.lload_n 1, 1) := by decide +kernel
theorem dc_353_3 : decode (sm_cc 353) 3 = .ok (.lconst 0, 1) := by decide +kernel
theorem dc_353_4 : decode (sm_cc 353) 4 = .ok (.invokevirtual 549, 3) := by decide +kernel
theorem ow_352 : 14 = sm_ow 352 := by decide +kernel
theorem kr_353_549 : sm_at mt_k (sm_ow 353) 549 = some (549, 0, 352, 0, 2668) := by decide +kernel
theorem np_352 : sm_np 352 = 3 := by decide +kernel
theorem dc_353_7 : decode (sm_cc 353) 7 = .ok (.return_, 1) := by decide +kernel
theorem rt_353 : sm_rt 353 = none := by decide +kernel
theorem ml_351 : sm_ml 351 = 2 := by decide +kernel
theorem dc_351_0 : decode (sm_cc 351) 0 = .ok (.aload_n 0, 1) := by decide +kernel
theorem dc_351_1 : decode (sm_cc 351) 1 = .ok (.iload_n 1, 1) := by decide +kernel
theorem dc_351_2 : decode (sm_cc 351) 2 = .ok (.putfield 453, 3) := by decide +kernel
theorem fr_351_453 : sm_at mt_f (sm_ow 351) 453 = some (453, 14, 64, 0, 2137) := by decide +kernel
theorem dc_351_5 : decode (sm_cc 351) 5 = .ok (.iconst 0, 1) := by decide +kernel
theorem dc_351_6 : decode (sm_cc 351) 6 = .ok (.ireturn, 1) := by decide +kernel
theorem rt_351 : sm_rt 351 = some .boolean := by decide +kernel
theorem ml_411 : sm_ml 411 = 2 := by decide +kernel
theorem dc_411_0 : decode (sm_cc 411) 0 = .ok (.aload_n 0, 1) := by decide +kernel
theorem dc_411_1 : decode (sm_cc 411) 1 = .ok (.iload_n 1, 1) := by decide +kernel
theorem dc_411_2 : decode (sm_cc 411) 2 = .ok (.putfield 453, 3) := by decide +kernel
theorem fr_411_453 : sm_at mt_f (sm_ow 411) 453 = some (453, 14, 64, 0, 2137) := by decide +kernel
theorem dc_411_5 : decode (sm_cc 411) 5 = .ok (.iconst (-1), 1) := by decide +kernel
theorem dc_411_6 : decode (sm_cc 411) 6 = .ok (.ireturn, 1) := by decide +kernel
theorem rt_411 : sm_rt 411 = some .int := by decide +kernel
theorem ml_363 : sm_ml 363 = 3 := by decide +kernel
theorem dc_363_0 : decode (sm_cc 363) 0 = .ok (.aload_n 0, 1) := by decide +kernel
theorem dc_363_1 : decode (sm_cc 363) 1 = .ok (.getfield 496, 3) := by decide +kernel
theorem fr_363_496 : sm_at mt_f (sm_ow 363) 496 = some (496, 14, 48, 0, 2121) := by decide +kernel
theorem dc_363_4 : decode (sm_cc 363) 4 = .ok (.iload_n 1, 1) := by decide +kernel
theorem dc_363_5 : decode (sm_cc 363) 5 = .ok (.iaload, 1) := by decide +kernel
theorem dc_363_6 : decode (sm_cc 363) 6 = .ok (.iconst 3, 1) := by decide +kernel
theorem dc_363_7 : decode (sm_cc 363) 7 = .ok (.if_icmp .ne (26), 3) := by decide +kernel
theorem dc_363_33 : decode (sm_cc 363) 33 = .ok (.iconst 0, 1) := by decide +kernel
theorem dc_363_34 : decode (sm_cc 363) 34 = .ok (.ireturn, 1) := by decide +kernel
theorem rt_363 : sm_rt 363 = some .boolean := by decide +kernel
theorem dc_363_10 : decode (sm_cc 363) 10 = .ok (.aload_n 0, 1) := by decide +kernel
theorem dc_363_11 : decode (sm_cc 363) 11 = .ok (.getfield 485, 3) := by decide +kernel
theorem fr_363_485 : sm_at mt_f (sm_ow 363) 485 = some (485, 14, 42, 0, 2115) := by decide +kernel
theorem dc_363_14 : decode (sm_cc 363) 14 = .ok (.aload_n 0, 1) := by decide +kernel
theorem dc_363_15 : decode (sm_cc 363) 15 = .ok (.getfield 499, 3) := by decide +kernel
theorem fr_363_499 : sm_at mt_f (sm_ow 363) 499 = some (499, 14, 49, 0, 2122) := by decide +kernel
theorem dc_363_18 : decode (sm_cc 363) 18 = .ok (.iload_n 1, 1) := by decide +kernel
theorem dc_363_19 : decode (sm_cc 363) 19 = .ok (.laload, 1) := by decide +kernel
theorem dc_363_20 : decode (sm_cc 363) 20 = .ok (.l2i, 1) := by decide +kernel
theorem dc_363_21 : decode (sm_cc 363) 21 = .ok (.aaload, 1) := by decide +kernel
theorem dc_363_22 : decode (sm_cc 363) 22 = .ok (.getfield 531, 3) := by decide +kernel
theorem fr_363_531 : sm_at mt_f (sm_ow 363) 531 = some (531, 13, 0, 0, 2770) := by decide +kernel
theorem dc_363_25 : decode (sm_cc 363) 25 = .ok (.iload_n 2, 1) := by decide +kernel
theorem dc_363_26 : decode (sm_cc 363) 26 = .ok (.if_icmp .ne (7), 3) := by decide +kernel
theorem dc_363_29 : decode (sm_cc 363) 29 = .ok (.iconst 1, 1) := by decide +kernel
theorem dc_363_30 : decode (sm_cc 363) 30 = .ok (.goto (4), 3) := by decide +kernel
theorem ml_391 : sm_ml 391 = 3 := by decide +kernel
theorem dc_391_0 : decode (sm_cc 391) 0 = .ok (.aload_n 0, 1) := by decide +kernel
theorem dc_391_1 : decode (sm_cc 391) 1 = .ok (.getfield 496, 3) := by decide +kernel
theorem fr_391_496 : sm_at mt_f (sm_ow 391) 496 = some (496, 14, 48, 0, 2121) := by decide +kernel
theorem dc_391_4 : decode (sm_cc 391) 4 = .ok (.iload_n 2, 1) := by decide +kernel
theorem dc_391_5 : decode (sm_cc 391) 5 = .ok (.aload_n 0, 1) := by decide +kernel
theorem dc_391_6 : decode (sm_cc 391) 6 = .ok (.getfield 496, 3) := by decide +kernel
theorem dc_391_9 : decode (sm_cc 391) 9 = .ok (.iload_n 1, 1) := by decide +kernel
theorem dc_391_10 : decode (sm_cc 391) 10 = .ok (.iaload, 1) := by decide +kernel
theorem dc_391_11 : decode (sm_cc 391) 11 = .ok (.iastore, 1) := by decide +kernel
theorem dc_391_12 : decode (sm_cc 391) 12 = .ok (.aload_n 0, 1) := by decide +kernel
theorem dc_391_13 : decode (sm_cc 391) 13 = .ok (.getfield 499, 3) := by decide +kernel
theorem fr_391_499 : sm_at mt_f (sm_ow 391) 499 = some (499, 14, 49, 0, 2122) := by decide +kernel
theorem dc_391_16 : decode (sm_cc 391) 16 = .ok (.iload_n 2, 1) := by decide +kernel
theorem dc_391_17 : decode (sm_cc 391) 17 = .ok (.aload_n 0, 1) := by decide +kernel
theorem dc_391_18 : decode (sm_cc 391) 18 = .ok (.getfield 499, 3) := by decide +kernel
theorem dc_391_21 : decode (sm_cc 391) 21 = .ok (.iload_n 1, 1) := by decide +kernel
theorem dc_391_22 : decode (sm_cc 391) 22 = .ok (.laload, 1) := by decide +kernel
theorem dc_391_23 : decode (sm_cc 391) 23 = .ok (.lastore, 1) := by decide +kernel
theorem dc_391_24 : decode (sm_cc 391) 24 = .ok (.aload_n 0, 1) := by decide +kernel
theorem dc_391_25 : decode (sm_cc 391) 25 = .ok (.getfield 546, 3) := by decide +kernel
theorem fr_391_546 : sm_at mt_f (sm_ow 391) 546 = some (546, 14, 50, 0, 2123) := by decide +kernel
theorem dc_391_28 : decode (sm_cc 391) 28 = .ok (.iload_n 2, 1) := by decide +kernel
theorem dc_391_29 : decode (sm_cc 391) 29 = .ok (.aload_n 0, 1) := by decide +kernel
theorem dc_391_30 : decode (sm_cc 391) 30 = .ok (.getfield 546, 3) := by decide +kernel
theorem dc_391_33 : decode (sm_cc 391) 33 = .ok (.iload_n 1, 1) := by decide +kernel
theorem dc_391_34 : decode (sm_cc 391) 34 = .ok (.laload, 1) := by decide +kernel
theorem dc_391_35 : decode (sm_cc 391) 35 = .ok (.lastore, 1) := by decide +kernel
theorem dc_391_36 : decode (sm_cc 391) 36 = .ok (.return_, 1) := by decide +kernel
theorem rt_391 : sm_rt 391 = none := by decide +kernel
theorem ml_403 : sm_ml 403 = 2 := by decide +kernel
theorem dc_403_0 : decode (sm_cc 403) 0 = .ok (.aload_n 0, 1) := by decide +kernel
theorem dc_403_1 : decode (sm_cc 403) 1 = .ok (.getfield 496, 3) := by decide +kernel
theorem fr_403_496 : sm_at mt_f (sm_ow 403) 496 = some (496, 14, 48, 0, 2121) := by decide +kernel
theorem dc_403_4 : decode (sm_cc 403) 4 = .ok (.iload_n 1, 1) := by decide +kernel
theorem dc_403_5 : decode (sm_cc 403) 5 = .ok (.iaload, 1) := by decide +kernel
theorem dc_403_6 : decode (sm_cc 403) 6 = .ok (.iconst 1, 1) := by decide +kernel
theorem dc_403_7 : decode (sm_cc 403) 7 = .ok (.if_icmp .eq (13), 3) := by decide +kernel
theorem dc_403_20 : decode (sm_cc 403) 20 = .ok (.iconst 1, 1) := by decide +kernel
theorem dc_403_21 : decode (sm_cc 403) 21 = .ok (.goto (4), 3) := by decide +kernel
theorem dc_403_25 : decode (sm_cc 403) 25 = .ok (.ireturn, 1) := by decide +kernel
theorem rt_403 : sm_rt 403 = some .boolean := by decide +kernel
theorem dc_403_10 : decode (sm_cc 403) 10 = .ok (.aload_n 0, 1) := by decide +kernel
theorem dc_403_11 : decode (sm_cc 403) 11 = .ok (.getfield 496, 3) := by decide +kernel
theorem dc_403_14 : decode (sm_cc 403) 14 = .ok (.iload_n 1, 1) := by decide +kernel
theorem dc_403_15 : decode (sm_cc 403) 15 = .ok (.iaload, 1) := by decide +kernel
theorem dc_403_16 : decode (sm_cc 403) 16 = .ok (.iconst 2, 1) := by decide +kernel
theorem dc_403_17 : decode (sm_cc 403) 17 = .ok (.if_icmp .ne (7), 3) := by decide +kernel
theorem dc_403_24 : decode (sm_cc 403) 24 = .ok (.iconst 0, 1) := by decide +kernel
theorem ml_361 : sm_ml 361 = 2 := by decide +kernel
theorem dc_361_0 : decode (sm_cc 361) 0 = .ok (.aload_n 0, 1) := by decide +kernel
theorem dc_361_1 : decode (sm_cc 361) 1 = .ok (.getfield 496, 3) := by decide +kernel
theorem fr_361_496 : sm_at mt_f (sm_ow 361) 496 = some (496, 14, 48, 0, 2121) := by decide +kernel
theorem dc_361_4 : decode (sm_cc 361) 4 = .ok (.iload_n 1, 1) := by decide +kernel
theorem dc_361_5 : decode (sm_cc 361) 5 = .ok (.iaload, 1) := by decide +kernel
theorem dc_361_6 : decode (sm_cc 361) 6 = .ok (.iconst 3, 1) := by decide +kernel
theorem dc_361_7 : decode (sm_cc 361) 7 = .ok (.if_icmp .ne (18), 3) := by decide +kernel
theorem dc_361_25 : decode (sm_cc 361) 25 = .ok (.aconst_null, 1) := by decide +kernel
theorem dc_361_26 : decode (sm_cc 361) 26 = .ok (.areturn, 1) := by decide +kernel
theorem dc_361_10 : decode (sm_cc 361) 10 = .ok (.aload_n 0, 1) := by decide +kernel
theorem dc_361_11 : decode (sm_cc 361) 11 = .ok (.getfield 485, 3) := by decide +kernel
theorem fr_361_485 : sm_at mt_f (sm_ow 361) 485 = some (485, 14, 42, 0, 2115) := by decide +kernel
theorem dc_361_14 : decode (sm_cc 361) 14 = .ok (.aload_n 0, 1) := by decide +kernel
theorem dc_361_15 : decode (sm_cc 361) 15 = .ok (.getfield 499, 3) := by decide +kernel
theorem fr_361_499 : sm_at mt_f (sm_ow 361) 499 = some (499, 14, 49, 0, 2122) := by decide +kernel
theorem dc_361_18 : decode (sm_cc 361) 18 = .ok (.iload_n 1, 1) := by decide +kernel
theorem dc_361_19 : decode (sm_cc 361) 19 = .ok (.laload, 1) := by decide +kernel
theorem dc_361_20 : decode (sm_cc 361) 20 = .ok (.l2i, 1) := by decide +kernel
theorem dc_361_21 : decode (sm_cc 361) 21 = .ok (.aaload, 1) := by decide +kernel
theorem dc_361_22 : decode (sm_cc 361) 22 = .ok (.goto (4), 3) := by decide +kernel
theorem ml_350 : sm_ml 350 = 8 := by decide +kernel
theorem dc_350_0 : decode (sm_cc 350) 0 = .ok (.aload_n 0, 1) := by decide +kernel
theorem dc_350_1 : decode (sm_cc 350) 1 = .ok (.getfield 502, 3) := by decide +kernel
theorem fr_350_502 : sm_at mt_f (sm_ow 350) 502 = some (502, 14, 59, 0, 2132) := by decide +kernel
theorem dc_350_4 : decode (sm_cc 350) 4 = .ok (.iconst 1, 1) := by decide +kernel
theorem dc_350_5 : decode (sm_cc 350) 5 = .ok (.isub, 1) := by decide +kernel
theorem dc_350_6 : decode (sm_cc 350) 6 = .ok (.istore_n 1, 1) := by decide +kernel
theorem dc_350_7 : decode (sm_cc 350) 7 = .ok (.aload_n 0, 1) := by decide +kernel
theorem dc_350_8 : decode (sm_cc 350) 8 = .ok (.getfield 572, 3) := by decide +kernel
theorem fr_350_572 : sm_at mt_f (sm_ow 350) 572 = some (572, 14, 53, 0, 2126) := by decide +kernel
theorem dc_350_11 : decode (sm_cc 350) 11 = .ok (.iload_n 1, 1) := by decide +kernel
theorem dc_350_12 : decode (sm_cc 350) 12 = .ok (.iaload, 1) := by decide +kernel
theorem dc_350_13 : decode (sm_cc 350) 13 = .ok (.istore_n 2, 1) := by decide +kernel
theorem dc_350_14 : decode (sm_cc 350) 14 = .ok (.aload_n 0, 1) := by decide +kernel
theorem dc_350_15 : decode (sm_cc 350) 15 = .ok (.getfield 568, 3) := by decide +kernel
theorem fr_350_568 : sm_at mt_f (sm_ow 350) 568 = some (568, 14, 52, 0, 2125) := by decide +kernel
theorem dc_350_18 : decode (sm_cc 350) 18 = .ok (.iload_n 1, 1) := by decide +kernel
theorem dc_350_19 : decode (sm_cc 350) 19 = .ok (.aaload, 1) := by decide +kernel
theorem dc_350_20 : decode (sm_cc 350) 20 = .ok (.getfield 222, 3) := by decide +kernel
theorem fr_350_222 : sm_at mt_f (sm_ow 350) 222 = some (222, 12, 0, 0, 2409) := by decide +kernel
theorem dc_350_23 : decode (sm_cc 350) 23 = .ok (.astore_n 3, 1) := by decide +kernel
theorem dc_350_24 : decode (sm_cc 350) 24 = .ok (.aload_n 3, 1) := by decide +kernel
theorem dc_350_25 : decode (sm_cc 350) 25 = .ok (.iload_n 2, 1) := by decide +kernel
theorem dc_350_26 : decode (sm_cc 350) 26 = .ok (.iaload, 1) := by decide +kernel
theorem dc_350_27 : decode (sm_cc 350) 27 = .ok (.istore 4, 2) := by decide +kernel
theorem dc_350_29 : decode (sm_cc 350) 29 = .ok (.iload 4, 2) := by decide +kernel
theorem dc_350_31 : decode (sm_cc 350) 31 = .ok (.tableswitch (735) 0 42 #[185, 257, 275, 305, 351, 351, 351, 351, 735, 735, 735, 382, 399, 443, 443, 735, 735, 716, 735, 735, 735, 735, 735, 735, 735, 735, 735, 735, 735, 735, 735, 735, 518, 735, 632, 735, 735, 735, 735, 735, 694, 735, 235], 185) := by decide +kernel
theorem dc_350_216 : decode (sm_cc 350) 216 = .ok (.aload_n 0, 1) := by decide +kernel
theorem dc_350_217 : decode (sm_cc 350) 217 = .ok (.getfield 572, 3) := by decide +kernel
theorem dc_350_220 : decode (sm_cc 350) 220 = .ok (.iload_n 1, 1) := by decide +kernel
theorem dc_350_221 : decode (sm_cc 350) 221 = .ok (.iload_n 2, 1) := by decide +kernel
theorem dc_350_222 : decode (sm_cc 350) 222 = .ok (.iconst 2, 1) := by decide +kernel
theorem dc_350_223 : decode (sm_cc 350) 223 = .ok (.iadd, 1) := by decide +kernel
theorem dc_350_224 : decode (sm_cc 350) 224 = .ok (.iastore, 1) := by decide +kernel
theorem dc_350_225 : decode (sm_cc 350) 225 = .ok (.aload_n 0, 1) := by decide +kernel
theorem dc_350_226 : decode (sm_cc 350) 226 = .ok (.getfield 578, 3) := by decide +kernel
theorem fr_350_578 : sm_at mt_f (sm_ow 350) 578 = some (578, 14, 56, 0, 2129) := by decide +kernel
theorem dc_350_229 : decode (sm_cc 350) 229 = .ok (.iload_n 1, 1) := by decide +kernel
theorem dc_350_230 : decode (sm_cc 350) 230 = .ok (.aload_n 3, 1) := by decide +kernel
theorem dc_350_231 : decode (sm_cc 350) 231 = .ok (.iload_n 2, 1) := by decide +kernel
theorem dc_350_232 : decode (sm_cc 350) 232 = .ok (.iconst 1, 1) := by decide +kernel
theorem dc_350_233 : decode (sm_cc 350) 233 = .ok (.iadd, 1) := by decide +kernel
theorem dc_350_234 : decode (sm_cc 350) 234 = .ok (.iaload, 1) := by decide +kernel
theorem dc_350_235 : decode (sm_cc 350) 235 = .ok (.iastore, 1) := by decide +kernel
theorem dc_350_236 : decode (sm_cc 350) 236 = .ok (.aload_n 0, 1) := by decide +kernel
theorem dc_350_237 : decode (sm_cc 350) 237 = .ok (.getfield 561, 3) := by decide +kernel
theorem fr_350_561 : sm_at mt_f (sm_ow 350) 561 = some (561, 14, 66, 0, 2139) := by decide +kernel
theorem dc_350_240 : decode (sm_cc 350) 240 = .ok (.aload_n 0, 1) := by decide +kernel
theorem dc_350_241 : decode (sm_cc 350) 241 = .ok (.getfield 605, 3) := by decide +kernel
theorem fr_350_605 : sm_at mt_f (sm_ow 350) 605 = some (605, 14, 65, 0, 2138) := by decide +kernel
theorem dc_350_244 : decode (sm_cc 350) 244 = .ok (.if_icmp .ne (10), 3) := by decide +kernel
theorem dc_350_247 : decode (sm_cc 350) 247 = .ok (.aload_n 0, 1) := by decide +kernel
theorem dc_350_248 : decode (sm_cc 350) 248 = .ok (.bipush (100), 2) := by decide +kernel
theorem dc_350_250 : decode (sm_cc 350) 250 = .ok (.invokevirtual 608, 3) := by decide +kernel
theorem ow_351 : 14 = sm_ow 351 := by decide +kernel
theorem kr_350_608 : sm_at mt_k (sm_ow 350) 608 = some (608, 0, 351, 0, 2664) := by decide +kernel
theorem np_351 : sm_np 351 = 1 := by decide +kernel
theorem dc_350_253 : decode (sm_cc 350) 253 = .ok (.ireturn, 1) := by decide +kernel
theorem rt_350 : sm_rt 350 = some .boolean := by decide +kernel
theorem dc_350_254 : decode (sm_cc 350) 254 = .ok (.aload_n 0, 1) := by decide +kernel
theorem dc_350_255 : decode (sm_cc 350) 255 = .ok (.dup, 1) := by decide +kernel
theorem dc_350_256 : decode (sm_cc 350) 256 = .ok (.getfield 561, 3) := by decide +kernel
theorem dc_350_259 : decode (sm_cc 350) 259 = .ok (.iconst 1, 1) := by decide +kernel
theorem dc_350_260 : decode (sm_cc 350) 260 = .ok (.iadd, 1) := by decide +kernel
theorem dc_350_261 : decode (sm_cc 350) 261 = .ok (.putfield 561, 3) := by decide +kernel
theorem dc_350_264 : decode (sm_cc 350) 264 = .ok (.iconst 1, 1) := by decide +kernel
theorem dc_350_265 : decode (sm_cc 350) 265 = .ok (.ireturn, 1) := by decide +kernel
theorem dc_350_288 : decode (sm_cc 350) 288 = .ok (.aload_n 0, 1) := by decide +kernel
theorem dc_350_289 : decode (sm_cc 350) 289 = .ok (.getfield 572, 3) := by decide +kernel
theorem dc_350_292 : decode (sm_cc 350) 292 = .ok (.iload_n 1, 1) := by decide +kernel
theorem dc_350_293 : decode (sm_cc 350) 293 = .ok (.iload_n 2, 1) := by decide +kernel
theorem dc_350_294 : decode (sm_cc 350) 294 = .ok (.iconst 1, 1) := by decide +kernel
theorem dc_350_295 : decode (sm_cc 350) 295 = .ok (.iadd, 1) := by decide +kernel
theorem dc_350_296 : decode (sm_cc 350) 296 = .ok (.iastore, 1) := by decide +kernel
theorem dc_350_297 : decode (sm_cc 350) 297 = .ok (.aload_n 0, 1) := by decide +kernel
theorem dc_350_298 : decode (sm_cc 350) 298 = .ok (.iconst 0, 1) := by decide +kernel
theorem dc_350_299 : decode (sm_cc 350) 299 = .ok (.lconst 0, 1) := by decide +kernel
theorem dc_350_300 : decode (sm_cc 350) 300 = .ok (.lconst 0, 1) := by decide +kernel
theorem dc_350_301 : decode (sm_cc 350) 301 = .ok (.invokevirtual 549, 3) := by decide +kernel
theorem kr_350_549 : sm_at mt_k (sm_ow 350) 549 = some (549, 0, 352, 0, 2668) := by decide +kernel
theorem dc_350_304 : decode (sm_cc 350) 304 = .ok (.iconst 1, 1) := by decide +kernel
theorem dc_350_305 : decode (sm_cc 350) 305 = .ok (.ireturn, 1) := by decide +kernel
theorem dc_350_306 : decode (sm_cc 350) 306 = .ok (.aload_n 0, 1) := by decide +kernel
theorem dc_350_307 : decode (sm_cc 350) 307 = .ok (.getfield 572, 3) := by decide +kernel
theorem dc_350_310 : decode (sm_cc 350) 310 = .ok (.iload_n 1, 1) := by decide +kernel
theorem dc_350_311 : decode (sm_cc 350) 311 = .ok (.iload_n 2, 1) := by decide +kernel
theorem dc_350_312 : decode (sm_cc 350) 312 = .ok (.iconst 2, 1) := by decide +kernel
theorem dc_350_313 : decode (sm_cc 350) 313 = .ok (.iadd, 1) := by decide +kernel
theorem dc_350_314 : decode (sm_cc 350) 314 = .ok (.iastore, 1) := by decide +kernel
theorem dc_350_315 : decode (sm_cc 350) 315 = .ok (.aload_n 0, 1) := by decide +kernel
theorem dc_350_316 : decode (sm_cc 350) 316 = .ok (.aload_n 0, 1) := by decide +kernel
theorem dc_350_317 : decode (sm_cc 350) 317 = .ok (.getfield 568, 3) := by decide +kernel
theorem dc_350_320 : decode (sm_cc 350) 320 = .ok (.iload_n 1, 1) := by decide +kernel
theorem dc_350_321 : decode (sm_cc 350) 321 = .ok (.aaload, 1) := by decide +kernel
theorem dc_350_322 : decode (sm_cc 350) 322 = .ok (.getfield 611, 3) := by decide +kernel
theorem fr_350_611 : sm_at mt_f (sm_ow 350) 611 = some (611, 12, 2, 0, 2413) := by decide +kernel
theorem dc_350_325 : decode (sm_cc 350) 325 = .ok (.aload_n 3, 1) := by decide +kernel
theorem dc_350_326 : decode (sm_cc 350) 326 = .ok (.iload_n 2, 1) := by decide +kernel
theorem dc_350_327 : decode (sm_cc 350) 327 = .ok (.iconst 1, 1) := by decide +kernel
theorem dc_350_328 : decode (sm_cc 350) 328 = .ok (.iadd, 1) := by decide +kernel
theorem dc_350_329 : decode (sm_cc 350) 329 = .ok (.iaload, 1) := by decide +kernel
theorem dc_350_330 : decode (sm_cc 350) 330 = .ok (.laload, 1) := by decide +kernel
theorem dc_350_331 : decode (sm_cc 350) 331 = .ok (.invokevirtual 613, 3) := by decide +kernel
theorem ow_353 : 14 = sm_ow 353 := by decide +kernel
theorem kr_350_613 : sm_at mt_k (sm_ow 350) 613 = some (613, 0, 353, 0, 2672) := by decide +kernel
theorem np_353 : sm_np 353 = 1 := by decide +kernel
theorem dc_350_334 : decode (sm_cc 350) 334 = .ok (.iconst 1, 1) := by decide +kernel
theorem dc_350_335 : decode (sm_cc 350) 335 = .ok (.ireturn, 1) := by decide +kernel
theorem dc_350_336 : decode (sm_cc 350) 336 = .ok (.aload_n 0, 1) := by decide +kernel
theorem dc_350_337 : decode (sm_cc 350) 337 = .ok (.getfield 572, 3) := by decide +kernel
theorem dc_350_340 : decode (sm_cc 350) 340 = .ok (.iload_n 1, 1) := by decide +kernel
theorem dc_350_341 : decode (sm_cc 350) 341 = .ok (.iload_n 2, 1) := by decide +kernel
theorem dc_350_342 : decode (sm_cc 350) 342 = .ok (.iconst 2, 1) := by decide +kernel
theorem dc_350_343 : decode (sm_cc 350) 343 = .ok (.iadd, 1) := by decide +kernel
theorem dc_350_344 : decode (sm_cc 350) 344 = .ok (.iastore, 1) := by decide +kernel
theorem dc_350_345 : decode (sm_cc 350) 345 = .ok (.aload_n 0, 1) := by decide +kernel
theorem dc_350_346 : decode (sm_cc 350) 346 = .ok (.iconst 2, 1) := by decide +kernel
theorem dc_350_347 : decode (sm_cc 350) 347 = .ok (.aload_n 0, 1) := by decide +kernel
theorem dc_350_348 : decode (sm_cc 350) 348 = .ok (.getfield 568, 3) := by decide +kernel
theorem dc_350_351 : decode (sm_cc 350) 351 = .ok (.iload_n 1, 1) := by decide +kernel
theorem dc_350_352 : decode (sm_cc 350) 352 = .ok (.aaload, 1) := by decide +kernel
theorem dc_350_353 : decode (sm_cc 350) 353 = .ok (.getfield 617, 3) := by decide +kernel
theorem fr_350_617 : sm_at mt_f (sm_ow 350) 617 = some (617, 12, 3, 0, 2415) := by decide +kernel
theorem dc_350_356 : decode (sm_cc 350) 356 = .ok (.aload_n 3, 1) := by decide +kernel
theorem dc_350_357 : decode (sm_cc 350) 357 = .ok (.iload_n 2, 1) := by decide +kernel
theorem dc_350_358 : decode (sm_cc 350) 358 = .ok (.iconst 1, 1) := by decide +kernel
theorem dc_350_359 : decode (sm_cc 350) 359 = .ok (.iadd, 1) := by decide +kernel
theorem dc_350_360 : decode (sm_cc 350) 360 = .ok (.iaload, 1) := by decide +kernel
theorem dc_350_361 : decode (sm_cc 350) 361 = .ok (.laload, 1) := by decide +kernel
theorem dc_350_362 : decode (sm_cc 350) 362 = .ok (.aload_n 0, 1) := by decide +kernel
theorem dc_350_363 : decode (sm_cc 350) 363 = .ok (.getfield 568, 3) := by decide +kernel
theorem dc_350_366 : decode (sm_cc 350) 366 = .ok (.iload_n 1, 1) := by decide +kernel
theorem dc_350_367 : decode (sm_cc 350) 367 = .ok (.aaload, 1) := by decide +kernel
theorem dc_350_368 : decode (sm_cc 350) 368 = .ok (.getfield 620, 3) := by decide +kernel
theorem fr_350_620 : sm_at mt_f (sm_ow 350) 620 = some (620, 12, 4, 0, 2417) := by decide +kernel
theorem dc_350_371 : decode (sm_cc 350) 371 = .ok (.aload_n 3, 1) := by decide +kernel
theorem dc_350_372 : decode (sm_cc 350) 372 = .ok (.iload_n 2, 1) := by decide +kernel
theorem dc_350_373 : decode (sm_cc 350) 373 = .ok (.iconst 1, 1) := by decide +kernel
theorem dc_350_374 : decode (sm_cc 350) 374 = .ok (.iadd, 1) := by decide +kernel
theorem dc_350_375 : decode (sm_cc 350) 375 = .ok (.iaload, 1) := by decide +kernel
theorem dc_350_376 : decode (sm_cc 350) 376 = .ok (.laload, 1) := by decide +kernel
theorem dc_350_377 : decode (sm_cc 350) 377 = .ok (.invokevirtual 549, 3) := by decide +kernel
theorem dc_350_380 : decode (sm_cc 350) 380 = .ok (.iconst 1, 1) := by decide +kernel
theorem dc_350_381 : decode (sm_cc 350) 381 = .ok (.ireturn, 1) := by decide +kernel
theorem dc_350_382 : decode (sm_cc 350) 382 = .ok (.aload_n 0, 1) := by decide +kernel
theorem dc_350_383 : decode (sm_cc 350) 383 = .ok (.getfield 572, 3) := by decide +kernel
theorem dc_350_386 : decode (sm_cc 350) 386 = .ok (.iload_n 1, 1) := by decide +kernel
theorem dc_350_387 : decode (sm_cc 350) 387 = .ok (.iload_n 2, 1) := by decide +kernel
theorem dc_350_388 : decode (sm_cc 350) 388 = .ok (.iconst 4, 1) := by decide +kernel
theorem dc_350_389 : decode (sm_cc 350) 389 = .ok (.iadd, 1) := by decide +kernel
theorem dc_350_390 : decode (sm_cc 350) 390 = .ok (.iastore, 1) := by decide +kernel
theorem dc_350_391 : decode (sm_cc 350) 391 = .ok (.aload_n 0, 1) := by decide +kernel
theorem dc_350_392 : decode (sm_cc 350) 392 = .ok (.iload 4, 2) := by decide +kernel
theorem dc_350_394 : decode (sm_cc 350) 394 = .ok (.aload_n 3, 1) := by decide +kernel
theorem dc_350_395 : decode (sm_cc 350) 395 = .ok (.iload_n 2, 1) := by decide +kernel
theorem dc_350_396 : decode (sm_cc 350) 396 = .ok (.iconst 1, 1) := by decide +kernel
theorem dc_350_397 : decode (sm_cc 350) 397 = .ok (.iadd, 1) := by decide +kernel
theorem dc_350_398 : decode (sm_cc 350) 398 = .ok (.iaload, 1) := by decide +kernel
theorem dc_350_399 : decode (sm_cc 350) 399 = .ok (.aload_n 3, 1) := by decide +kernel
theorem dc_350_400 : decode (sm_cc 350) 400 = .ok (.iload_n 2, 1) := by decide +kernel
theorem dc_350_401 : decode (sm_cc 350) 401 = .ok (.iconst 2, 1) := by decide +kernel
theorem dc_350_402 : decode (sm_cc 350) 402 = .ok (.iadd, 1) := by decide +kernel
theorem dc_350_403 : decode (sm_cc 350) 403 = .ok (.iaload, 1) := by decide +kernel
theorem dc_350_404 : decode (sm_cc 350) 404 = .ok (.aload_n 3, 1) := by decide +kernel
theorem dc_350_405 : decode (sm_cc 350) 405 = .ok (.iload_n 2, 1) := by decide +kernel
theorem dc_350_406 : decode (sm_cc 350) 406 = .ok (.iconst 3, 1) := by decide +kernel
theorem dc_350_407 : decode (sm_cc 350) 407 = .ok (.iadd, 1) := by decide +kernel
theorem dc_350_408 : decode (sm_cc 350) 408 = .ok (.iaload, 1) := by decide +kernel
theorem dc_350_409 : decode (sm_cc 350) 409 = .ok (.invokevirtual 621, 3) := by decide +kernel
theorem ow_354 : 14 = sm_ow 354 := by decide +kernel
theorem kr_350_621 : sm_at mt_k (sm_ow 350) 621 = some (621, 0, 354, 0, 2676) := by decide +kernel
theorem np_354 : sm_np 354 = 4 := by decide +kernel
theorem dc_350_412 : decode (sm_cc 350) 412 = .ok (.ireturn, 1) := by decide +kernel
theorem dc_350_413 : decode (sm_cc 350) 413 = .ok (.aload_n 0, 1) := by decide +kernel
theorem dc_350_414 : decode (sm_cc 350) 414 = .ok (.getfield 572, 3) := by decide +kernel
theorem dc_350_417 : decode (sm_cc 350) 417 = .ok (.iload_n 1, 1) := by decide +kernel
theorem dc_350_418 : decode (sm_cc 350) 418 = .ok (.iload_n 2, 1) := by decide +kernel
theorem dc_350_419 : decode (sm_cc 350) 419 = .ok (.iconst 1, 1) := by decide +kernel
theorem dc_350_420 : decode (sm_cc 350) 420 = .ok (.iadd, 1) := by decide +kernel
theorem dc_350_421 : decode (sm_cc 350) 421 = .ok (.aload_n 3, 1) := by decide +kernel
theorem dc_350_422 : decode (sm_cc 350) 422 = .ok (.iload_n 2, 1) := by decide +kernel
theorem dc_350_423 : decode (sm_cc 350) 423 = .ok (.iconst 1, 1) := by decide +kernel
theorem dc_350_424 : decode (sm_cc 350) 424 = .ok (.iadd, 1) := by decide +kernel
theorem dc_350_425 : decode (sm_cc 350) 425 = .ok (.iaload, 1) := by decide +kernel
theorem dc_350_426 : decode (sm_cc 350) 426 = .ok (.iadd, 1) := by decide +kernel
theorem dc_350_427 : decode (sm_cc 350) 427 = .ok (.iastore, 1) := by decide +kernel
theorem dc_350_428 : decode (sm_cc 350) 428 = .ok (.iconst 1, 1) := by decide +kernel
theorem dc_350_429 : decode (sm_cc 350) 429 = .ok (.ireturn, 1) := by decide +kernel
theorem dc_350_430 : decode (sm_cc 350) 430 = .ok (.aload_n 0, 1) := by decide +kernel
theorem dc_350_431 : decode (sm_cc 350) 431 = .ok (.dup, 1) := by decide +kernel
theorem dc_350_432 : decode (sm_cc 350) 432 = .ok (.getfield 493, 3) := by decide +kernel
theorem fr_350_493 : sm_at mt_f (sm_ow 350) 493 = some (493, 14, 51, 0, 2124) := by decide +kernel
theorem dc_350_435 : decode (sm_cc 350) 435 = .ok (.iconst 1, 1) := by decide +kernel
theorem dc_350_436 : decode (sm_cc 350) 436 = .ok (.isub, 1) := by decide +kernel
theorem dc_350_437 : decode (sm_cc 350) 437 = .ok (.putfield 493, 3) := by decide +kernel
theorem dc_350_440 : decode (sm_cc 350) 440 = .ok (.aload_n 0, 1) := by decide +kernel
theorem dc_350_441 : decode (sm_cc 350) 441 = .ok (.getfield 572, 3) := by decide +kernel
theorem dc_350_444 : decode (sm_cc 350) 444 = .ok (.iload_n 1, 1) := by decide +kernel
theorem dc_350_445 : decode (sm_cc 350) 445 = .ok (.aload_n 0, 1) := by decide +kernel
theorem dc_350_446 : decode (sm_cc 350) 446 = .ok (.aload_n 0, 1) := by decide +kernel
theorem dc_350_447 : decode (sm_cc 350) 447 = .ok (.getfield 493, 3) := by decide +kernel
theorem dc_350_450 : decode (sm_cc 350) 450 = .ok (.invokevirtual 624, 3) := by decide +kernel
theorem ow_359 : 14 = sm_ow 359 := by decide +kernel
theorem kr_350_624 : sm_at mt_k (sm_ow 350) 624 = some (624, 0, 359, 0, 2706) := by decide +kernel
theorem np_359 : sm_np 359 = 1 := by decide +kernel
theorem dc_350_453 : decode (sm_cc 350) 453 = .ok (.ifCond .eq (9), 3) := by decide +kernel
theorem dc_350_456 : decode (sm_cc 350) 456 = .ok (.iload_n 2, 1) := by decide +kernel
theorem dc_350_457 : decode (sm_cc 350) 457 = .ok (.iconst 2, 1) := by decide +kernel
theorem dc_350_458 : decode (sm_cc 350) 458 = .ok (.iadd, 1) := by decide +kernel
theorem dc_350_459 : decode (sm_cc 350) 459 = .ok (.goto (12), 3) := by decide +kernel
theorem dc_350_471 : decode (sm_cc 350) 471 = .ok (.iastore, 1) := by decide +kernel
theorem dc_350_472 : decode (sm_cc 350) 472 = .ok (.iconst 1, 1) := by decide +kernel
theorem dc_350_473 : decode (sm_cc 350) 473 = .ok (.ireturn, 1) := by decide +kernel
theorem dc_350_462 : decode (sm_cc 350) 462 = .ok (.iload_n 2, 1) := by decide +kernel
theorem dc_350_463 : decode (sm_cc 350) 463 = .ok (.iconst 1, 1) := by decide +kernel
theorem dc_350_464 : decode (sm_cc 350) 464 = .ok (.iadd, 1) := by decide +kernel
theorem dc_350_465 : decode (sm_cc 350) 465 = .ok (.aload_n 3, 1) := by decide +kernel
theorem dc_350_466 : decode (sm_cc 350) 466 = .ok (.iload_n 2, 1) := by decide +kernel
theorem dc_350_467 : decode (sm_cc 350) 467 = .ok (.iconst 1, 1) := by decide +kernel
theorem dc_350_468 : decode (sm_cc 350) 468 = .ok (.iadd, 1) := by decide +kernel
theorem dc_350_469 : decode (sm_cc 350) 469 = .ok (.iaload, 1) := by decide +kernel
theorem dc_350_470 : decode (sm_cc 350) 470 = .ok (.iadd, 1) := by decide +kernel
theorem dc_350_474 : decode (sm_cc 350) 474 = .ok (.aload_n 0, 1) := by decide +kernel
theorem dc_350_475 : decode (sm_cc 350) 475 = .ok (.aload_n 0, 1) := by decide +kernel
theorem dc_350_476 : decode (sm_cc 350) 476 = .ok (.getfield 493, 3) := by decide +kernel
theorem dc_350_479 : decode (sm_cc 350) 479 = .ok (.iconst 1, 1) := by decide +kernel
theorem dc_350_480 : decode (sm_cc 350) 480 = .ok (.isub, 1) := by decide +kernel
theorem dc_350_481 : decode (sm_cc 350) 481 = .ok (.invokevirtual 624, 3) := by decide +kernel
theorem dc_350_484 : decode (sm_cc 350) 484 = .ok (.iload 4, 2) := by decide +kernel
theorem dc_350_486 : decode (sm_cc 350) 486 = .ok (.bipush (14), 2) := by decide +kernel
theorem dc_350_488 : decode (sm_cc 350) 488 = .ok (.if_icmp .ne (7), 3) := by decide +kernel
theorem dc_350_495 : decode (sm_cc 350) 495 = .ok (.iconst 0, 1) := by decide +kernel
theorem dc_350_496 : decode (sm_cc 350) 496 = .ok (.if_icmp .ne (7), 3) := by decide +kernel
theorem dc_350_503 : decode (sm_cc 350) 503 = .ok (.iconst 0, 1) := by decide +kernel
theorem dc_350_504 : decode (sm_cc 350) 504 = .ok (.istore 5, 2) := by decide +kernel
theorem dc_350_506 : decode (sm_cc 350) 506 = .ok (.iload 5, 2) := by decide +kernel
theorem dc_350_508 : decode (sm_cc 350) 508 = .ok (.ifCond .ne (13), 3) := by decide +kernel
theorem dc_350_511 : decode (sm_cc 350) 511 = .ok (.aload_n 0, 1) := by decide +kernel
theorem dc_350_512 : decode (sm_cc 350) 512 = .ok (.dup, 1) := by decide +kernel
theorem dc_350_513 : decode (sm_cc 350) 513 = .ok (.getfield 493, 3) := by decide +kernel
theorem dc_350_516 : decode (sm_cc 350) 516 = .ok (.iconst 1, 1) := by decide +kernel
theorem dc_350_517 : decode (sm_cc 350) 517 = .ok (.isub, 1) := by decide +kernel
theorem dc_350_518 : decode (sm_cc 350) 518 = .ok (.putfield 493, 3) := by decide +kernel
theorem dc_350_521 : decode (sm_cc 350) 521 = .ok (.aload_n 0, 1) := by decide +kernel
theorem dc_350_522 : decode (sm_cc 350) 522 = .ok (.getfield 572, 3) := by decide +kernel
theorem dc_350_525 : decode (sm_cc 350) 525 = .ok (.iload_n 1, 1) := by decide +kernel
theorem dc_350_526 : decode (sm_cc 350) 526 = .ok (.iload 5, 2) := by decide +kernel
theorem dc_350_528 : decode (sm_cc 350) 528 = .ok (.ifCond .eq (15), 3) := by decide +kernel
theorem dc_350_543 : decode (sm_cc 350) 543 = .ok (.iload_n 2, 1) := by decide +kernel
theorem dc_350_544 : decode (sm_cc 350) 544 = .ok (.iconst 2, 1) := by decide +kernel
theorem dc_350_545 : decode (sm_cc 350) 545 = .ok (.iadd, 1) := by decide +kernel
theorem dc_350_546 : decode (sm_cc 350) 546 = .ok (.iastore, 1) := by decide +kernel
theorem dc_350_547 : decode (sm_cc 350) 547 = .ok (.iconst 1, 1) := by decide +kernel
theorem dc_350_548 : decode (sm_cc 350) 548 = .ok (.ireturn, 1) := by decide +kernel
theorem dc_350_491 : decode (sm_cc 350) 491 = .ok (.iconst 1, 1) := by decide +kernel
theorem dc_350_492 : decode (sm_cc 350) 492 = .ok (.goto (4), 3) := by decide +kernel
theorem dc_350_499 : decode (sm_cc 350) 499 = .ok (.iconst 1, 1) := by decide +kernel
theorem dc_350_500 : decode (sm_cc 350) 500 = .ok (.goto (4), 3) := by decide +kernel
theorem dc_350_531 : decode (sm_cc 350) 531 = .ok (.iload_n 2, 1) := by decide +kernel
theorem dc_350_532 : decode (sm_cc 350) 532 = .ok (.iconst 1, 1) := by decide +kernel
theorem dc_350_533 : decode (sm_cc 350) 533 = .ok (.iadd, 1) := by decide +kernel
theorem dc_350_534 : decode (sm_cc 350) 534 = .ok (.aload_n 3, 1) := by decide +kernel
theorem dc_350_535 : decode (sm_cc 350) 535 = .ok (.iload_n 2, 1) := by decide +kernel
theorem dc_350_536 : decode (sm_cc 350) 536 = .ok (.iconst 1, 1) := by decide +kernel
theorem dc_350_537 : decode (sm_cc 350) 537 = .ok (.iadd, 1) := by decide +kernel
theorem dc_350_538 : decode (sm_cc 350) 538 = .ok (.iaload, 1) := by decide +kernel
theorem dc_350_539 : decode (sm_cc 350) 539 = .ok (.iadd, 1) := by decide +kernel
theorem dc_350_540 : decode (sm_cc 350) 540 = .ok (.goto (6), 3) := by decide +kernel
theorem dc_350_747 : decode (sm_cc 350) 747 = .ok (.aload_n 0, 1) := by decide +kernel
theorem dc_350_748 : decode (sm_cc 350) 748 = .ok (.getfield 572, 3) := by decide +kernel
theorem dc_350_751 : decode (sm_cc 350) 751 = .ok (.iload_n 1, 1) := by decide +kernel
theorem dc_350_752 : decode (sm_cc 350) 752 = .ok (.iload_n 2, 1) := by decide +kernel
theorem dc_350_753 : decode (sm_cc 350) 753 = .ok (.iconst 2, 1) := by decide +kernel
theorem dc_350_754 : decode (sm_cc 350) 754 = .ok (.iadd, 1) := by decide +kernel
theorem dc_350_755 : decode (sm_cc 350) 755 = .ok (.iastore, 1) := by decide +kernel
theorem dc_350_756 : decode (sm_cc 350) 756 = .ok (.aload_n 0, 1) := by decide +kernel
theorem dc_350_757 : decode (sm_cc 350) 757 = .ok (.aload_n 3, 1) := by decide +kernel
theorem dc_350_758 : decode (sm_cc 350) 758 = .ok (.iload_n 2, 1) := by decide +kernel
theorem dc_350_759 : decode (sm_cc 350) 759 = .ok (.iconst 1, 1) := by decide +kernel
theorem dc_350_760 : decode (sm_cc 350) 760 = .ok (.iadd, 1) := by decide +kernel
theorem dc_350_761 : decode (sm_cc 350) 761 = .ok (.iaload, 1) := by decide +kernel
theorem dc_350_762 : decode (sm_cc 350) 762 = .ok (.invokevirtual 634, 3) := by decide +kernel
theorem ow_379 : 14 = sm_ow 379 := by decide +kernel
theorem kr_350_634 : sm_at mt_k (sm_ow 350) 634 = some (634, 0, 379, 0, 2836) := by decide +kernel
theorem np_379 : sm_np 379 = 1 := by decide +kernel
theorem dc_350_765 : decode (sm_cc 350) 765 = .ok (.ireturn, 1) := by decide +kernel
theorem dc_350_549 : decode (sm_cc 350) 549 = .ok (.aload_n 0, 1) := by decide +kernel
theorem dc_350_550 : decode (sm_cc 350) 550 = .ok (.aload_n 0, 1) := by decide +kernel
theorem dc_350_551 : decode (sm_cc 350) 551 = .ok (.getfield 493, 3) := by decide +kernel
theorem dc_350_554 : decode (sm_cc 350) 554 = .ok (.iconst 2, 1) := by decide +kernel
theorem dc_350_555 : decode (sm_cc 350) 555 = .ok (.isub, 1) := by decide +kernel
theorem dc_350_556 : decode (sm_cc 350) 556 = .ok (.invokevirtual 554, 3) := by decide +kernel
theorem ow_361 : 14 = sm_ow 361 := by decide +kernel
theorem kr_350_554 : sm_at mt_k (sm_ow 350) 554 = some (554, 0, 361, 0, 2714) := by decide +kernel
theorem np_361 : sm_np 361 = 1 := by decide +kernel
theorem dc_350_559 : decode (sm_cc 350) 559 = .ok (.astore 6, 2) := by decide +kernel
theorem dc_350_561 : decode (sm_cc 350) 561 = .ok (.aload_n 0, 1) := by decide +kernel
theorem dc_350_562 : decode (sm_cc 350) 562 = .ok (.getfield 499, 3) := by decide +kernel
theorem fr_350_499 : sm_at mt_f (sm_ow 350) 499 = some (499, 14, 49, 0, 2122) := by decide +kernel
theorem dc_350_565 : decode (sm_cc 350) 565 = .ok (.aload_n 0, 1) := by decide +kernel
theorem dc_350_566 : decode (sm_cc 350) 566 = .ok (.getfield 493, 3) := by decide +kernel
theorem dc_350_569 : decode (sm_cc 350) 569 = .ok (.iconst 1, 1) := by decide +kernel
theorem dc_350_570 : decode (sm_cc 350) 570 = .ok (.isub, 1) := by decide +kernel
theorem dc_350_571 : decode (sm_cc 350) 571 = .ok (.laload, 1) := by decide +kernel
theorem dc_350_572 : decode (sm_cc 350) 572 = .ok (.l2i, 1) := by decide +kernel
theorem dc_350_573 : decode (sm_cc 350) 573 = .ok (.istore 7, 2) := by decide +kernel
theorem dc_350_575 : decode (sm_cc 350) 575 = .ok (.aload_n 0, 1) := by decide +kernel
theorem dc_350_576 : decode (sm_cc 350) 576 = .ok (.getfield 572, 3) := by decide +kernel
theorem dc_350_579 : decode (sm_cc 350) 579 = .ok (.iload_n 1, 1) := by decide +kernel
theorem dc_350_580 : decode (sm_cc 350) 580 = .ok (.iload 7, 2) := by decide +kernel
theorem dc_350_582 : decode (sm_cc 350) 582 = .ok (.aload 6, 2) := by decide +kernel
theorem dc_350_584 : decode (sm_cc 350) 584 = .ok (.getfield 459, 3) := by decide +kernel
theorem fr_350_459 : sm_at mt_f (sm_ow 350) 459 = some (459, 13, 1, 0, 2772) := by decide +kernel
theorem dc_350_587 : decode (sm_cc 350) 587 = .ok (.if_icmp .ge (9), 3) := by decide +kernel
theorem dc_350_596 : decode (sm_cc 350) 596 = .ok (.iload_n 2, 1) := by decide +kernel
theorem dc_350_597 : decode (sm_cc 350) 597 = .ok (.iconst 1, 1) := by decide +kernel
theorem dc_350_598 : decode (sm_cc 350) 598 = .ok (.iadd, 1) := by decide +kernel
theorem dc_350_599 : decode (sm_cc 350) 599 = .ok (.aload_n 3, 1) := by decide +kernel
theorem dc_350_600 : decode (sm_cc 350) 600 = .ok (.iload_n 2, 1) := by decide +kernel
theorem dc_350_601 : decode (sm_cc 350) 601 = .ok (.iconst 1, 1) := by decide +kernel
theorem dc_350_602 : decode (sm_cc 350) 602 = .ok (.iadd, 1) := by decide +kernel
theorem dc_350_603 : decode (sm_cc 350) 603 = .ok (.iaload, 1) := by decide +kernel
theorem dc_350_604 : decode (sm_cc 350) 604 = .ok (.iadd, 1) := by decide +kernel
theorem dc_350_605 : decode (sm_cc 350) 605 = .ok (.iastore, 1) := by decide +kernel
theorem dc_350_606 : decode (sm_cc 350) 606 = .ok (.iload 7, 2) := by decide +kernel
theorem dc_350_608 : decode (sm_cc 350) 608 = .ok (.aload 6, 2) := by decide +kernel
theorem dc_350_610 : decode (sm_cc 350) 610 = .ok (.getfield 459, 3) := by decide +kernel
theorem dc_350_613 : decode (sm_cc 350) 613 = .ok (.if_icmp .lt (5), 3) := by decide +kernel
theorem dc_350_616 : decode (sm_cc 350) 616 = .ok (.iconst 1, 1) := by decide +kernel
theorem dc_350_617 : decode (sm_cc 350) 617 = .ok (.ireturn, 1) := by decide +kernel
theorem dc_350_590 : decode (sm_cc 350) 590 = .ok (.iload_n 2, 1) := by decide +kernel
theorem dc_350_591 : decode (sm_cc 350) 591 = .ok (.iconst 2, 1) := by decide +kernel
theorem dc_350_592 : decode (sm_cc 350) 592 = .ok (.iadd, 1) := by decide +kernel
theorem dc_350_593 : decode (sm_cc 350) 593 = .ok (.goto (12), 3) := by decide +kernel
theorem dc_350_618 : decode (sm_cc 350) 618 = .ok (.aload_n 0, 1) := by decide +kernel
theorem dc_350_619 : decode (sm_cc 350) 619 = .ok (.getfield 499, 3) := by decide +kernel
theorem dc_350_622 : decode (sm_cc 350) 622 = .ok (.aload_n 0, 1) := by decide +kernel
theorem dc_350_623 : decode (sm_cc 350) 623 = .ok (.getfield 493, 3) := by decide +kernel
theorem dc_350_626 : decode (sm_cc 350) 626 = .ok (.iconst 1, 1) := by decide +kernel
theorem dc_350_627 : decode (sm_cc 350) 627 = .ok (.isub, 1) := by decide +kernel
theorem dc_350_628 : decode (sm_cc 350) 628 = .ok (.dup2, 1) := by decide +kernel
theorem dc_350_629 : decode (sm_cc 350) 629 = .ok (.laload, 1) := by decide +kernel
theorem dc_350_630 : decode (sm_cc 350) 630 = .ok (.lconst 1, 1) := by decide +kernel
theorem dc_350_631 : decode (sm_cc 350) 631 = .ok (.ladd, 1) := by decide +kernel
theorem dc_350_632 : decode (sm_cc 350) 632 = .ok (.lastore, 1) := by decide +kernel
theorem dc_350_633 : decode (sm_cc 350) 633 = .ok (.aload_n 0, 1) := by decide +kernel
theorem dc_350_634 : decode (sm_cc 350) 634 = .ok (.aload 6, 2) := by decide +kernel
theorem dc_350_636 : decode (sm_cc 350) 636 = .ok (.getfield 462, 3) := by decide +kernel
theorem fr_350_462 : sm_at mt_f (sm_ow 350) 462 = some (462, 13, 2, 0, 2774) := by decide +kernel
theorem dc_350_639 : decode (sm_cc 350) 639 = .ok (.iload 7, 2) := by decide +kernel
theorem dc_350_641 : decode (sm_cc 350) 641 = .ok (.iaload, 1) := by decide +kernel
theorem dc_350_642 : decode (sm_cc 350) 642 = .ok (.aload 6, 2) := by decide +kernel
theorem dc_350_644 : decode (sm_cc 350) 644 = .ok (.getfield 465, 3) := by decide +kernel
theorem fr_350_465 : sm_at mt_f (sm_ow 350) 465 = some (465, 13, 4, 0, 2778) := by decide +kernel
theorem dc_350_647 : decode (sm_cc 350) 647 = .ok (.iload 7, 2) := by decide +kernel
theorem dc_350_649 : decode (sm_cc 350) 649 = .ok (.laload, 1) := by decide +kernel
theorem dc_350_650 : decode (sm_cc 350) 650 = .ok (.aload 6, 2) := by decide +kernel
theorem dc_350_652 : decode (sm_cc 350) 652 = .ok (.getfield 627, 3) := by decide +kernel
theorem fr_350_627 : sm_at mt_f (sm_ow 350) 627 = some (627, 13, 5, 0, 2780) := by decide +kernel
theorem dc_350_655 : decode (sm_cc 350) 655 = .ok (.iload 7, 2) := by decide +kernel
theorem dc_350_657 : decode (sm_cc 350) 657 = .ok (.laload, 1) := by decide +kernel
theorem dc_350_658 : decode (sm_cc 350) 658 = .ok (.invokevirtual 549, 3) := by decide +kernel
theorem dc_350_661 : decode (sm_cc 350) 661 = .ok (.iconst 1, 1) := by decide +kernel
theorem dc_350_662 : decode (sm_cc 350) 662 = .ok (.ireturn, 1) := by decide +kernel
theorem dc_350_663 : decode (sm_cc 350) 663 = .ok (.aload_n 0, 1) := by decide +kernel
theorem dc_350_664 : decode (sm_cc 350) 664 = .ok (.getfield 572, 3) := by decide +kernel
theorem dc_350_667 : decode (sm_cc 350) 667 = .ok (.iload_n 1, 1) := by decide +kernel
theorem dc_350_668 : decode (sm_cc 350) 668 = .ok (.iload_n 2, 1) := by decide +kernel
theorem dc_350_669 : decode (sm_cc 350) 669 = .ok (.iconst 2, 1) := by decide +kernel
theorem dc_350_670 : decode (sm_cc 350) 670 = .ok (.iadd, 1) := by decide +kernel
theorem dc_350_671 : decode (sm_cc 350) 671 = .ok (.iastore, 1) := by decide +kernel
theorem dc_350_672 : decode (sm_cc 350) 672 = .ok (.aload_n 0, 1) := by decide +kernel
theorem dc_350_673 : decode (sm_cc 350) 673 = .ok (.getfield 584, 3) := by decide +kernel
theorem fr_350_584 : sm_at mt_f (sm_ow 350) 584 = some (584, 14, 60, 0, 2133) := by decide +kernel
theorem dc_350_676 : decode (sm_cc 350) 676 = .ok (.aload_n 0, 1) := by decide +kernel
theorem dc_350_677 : decode (sm_cc 350) 677 = .ok (.getfield 558, 3) := by decide +kernel
theorem fr_350_558 : sm_at mt_f (sm_ow 350) 558 = some (558, 14, 63, 0, 2136) := by decide +kernel
theorem dc_350_680 : decode (sm_cc 350) 680 = .ok (.iload_n 1, 1) := by decide +kernel
theorem dc_350_681 : decode (sm_cc 350) 681 = .ok (.iastore, 1) := by decide +kernel
theorem dc_350_682 : decode (sm_cc 350) 682 = .ok (.aload_n 0, 1) := by decide +kernel
theorem dc_350_683 : decode (sm_cc 350) 683 = .ok (.getfield 590, 3) := by decide +kernel
theorem fr_350_590 : sm_at mt_f (sm_ow 350) 590 = some (590, 14, 61, 0, 2134) := by decide +kernel
theorem dc_350_686 : decode (sm_cc 350) 686 = .ok (.aload_n 0, 1) := by decide +kernel
theorem dc_350_687 : decode (sm_cc 350) 687 = .ok (.getfield 558, 3) := by decide +kernel
theorem dc_350_690 : decode (sm_cc 350) 690 = .ok (.iload_n 2, 1) := by decide +kernel
theorem dc_350_691 : decode (sm_cc 350) 691 = .ok (.iconst 1, 1) := by decide +kernel
theorem dc_350_692 : decode (sm_cc 350) 692 = .ok (.iadd, 1) := by decide +kernel
theorem dc_350_693 : decode (sm_cc 350) 693 = .ok (.aload_n 3, 1) := by decide +kernel
theorem dc_350_694 : decode (sm_cc 350) 694 = .ok (.iload_n 2, 1) := by decide +kernel
theorem dc_350_695 : decode (sm_cc 350) 695 = .ok (.iconst 1, 1) := by decide +kernel
theorem dc_350_696 : decode (sm_cc 350) 696 = .ok (.iadd, 1) := by decide +kernel
theorem dc_350_697 : decode (sm_cc 350) 697 = .ok (.iaload, 1) := by decide +kernel
theorem dc_350_698 : decode (sm_cc 350) 698 = .ok (.iadd, 1) := by decide +kernel
theorem dc_350_699 : decode (sm_cc 350) 699 = .ok (.iastore, 1) := by decide +kernel
theorem dc_350_700 : decode (sm_cc 350) 700 = .ok (.aload_n 0, 1) := by decide +kernel
theorem dc_350_701 : decode (sm_cc 350) 701 = .ok (.getfield 587, 3) := by decide +kernel
theorem fr_350_587 : sm_at mt_f (sm_ow 350) 587 = some (587, 14, 62, 0, 2135) := by decide +kernel
theorem dc_350_704 : decode (sm_cc 350) 704 = .ok (.aload_n 0, 1) := by decide +kernel
theorem dc_350_705 : decode (sm_cc 350) 705 = .ok (.getfield 558, 3) := by decide +kernel
theorem dc_350_708 : decode (sm_cc 350) 708 = .ok (.aload_n 0, 1) := by decide +kernel
theorem dc_350_709 : decode (sm_cc 350) 709 = .ok (.getfield 493, 3) := by decide +kernel
theorem dc_350_712 : decode (sm_cc 350) 712 = .ok (.iastore, 1) := by decide +kernel
theorem dc_350_713 : decode (sm_cc 350) 713 = .ok (.aload_n 0, 1) := by decide +kernel
theorem dc_350_714 : decode (sm_cc 350) 714 = .ok (.dup, 1) := by decide +kernel
theorem dc_350_715 : decode (sm_cc 350) 715 = .ok (.getfield 558, 3) := by decide +kernel
theorem dc_350_718 : decode (sm_cc 350) 718 = .ok (.iconst 1, 1) := by decide +kernel
theorem dc_350_719 : decode (sm_cc 350) 719 = .ok (.iadd, 1) := by decide +kernel
theorem dc_350_720 : decode (sm_cc 350) 720 = .ok (.putfield 558, 3) := by decide +kernel
theorem dc_350_723 : decode (sm_cc 350) 723 = .ok (.iconst 1, 1) := by decide +kernel
theorem dc_350_724 : decode (sm_cc 350) 724 = .ok (.ireturn, 1) := by decide +kernel
theorem dc_350_725 : decode (sm_cc 350) 725 = .ok (.aload_n 0, 1) := by decide +kernel
theorem dc_350_726 : decode (sm_cc 350) 726 = .ok (.getfield 572, 3) := by decide +kernel
theorem dc_350_729 : decode (sm_cc 350) 729 = .ok (.iload_n 1, 1) := by decide +kernel
theorem dc_350_730 : decode (sm_cc 350) 730 = .ok (.iload_n 2, 1) := by decide +kernel
theorem dc_350_731 : decode (sm_cc 350) 731 = .ok (.iconst 4, 1) := by decide +kernel
theorem dc_350_732 : decode (sm_cc 350) 732 = .ok (.iadd, 1) := by decide +kernel
theorem dc_350_733 : decode (sm_cc 350) 733 = .ok (.aload_n 3, 1) := by decide +kernel
theorem dc_350_734 : decode (sm_cc 350) 734 = .ok (.iload_n 2, 1) := by decide +kernel
theorem dc_350_735 : decode (sm_cc 350) 735 = .ok (.iconst 3, 1) := by decide +kernel
theorem dc_350_736 : decode (sm_cc 350) 736 = .ok (.iadd, 1) := by decide +kernel
theorem dc_350_737 : decode (sm_cc 350) 737 = .ok (.iaload, 1) := by decide +kernel
theorem dc_350_738 : decode (sm_cc 350) 738 = .ok (.iadd, 1) := by decide +kernel
theorem dc_350_739 : decode (sm_cc 350) 739 = .ok (.iastore, 1) := by decide +kernel
theorem dc_350_740 : decode (sm_cc 350) 740 = .ok (.aload_n 0, 1) := by decide +kernel
theorem dc_350_741 : decode (sm_cc 350) 741 = .ok (.aload_n 3, 1) := by decide +kernel
theorem dc_350_742 : decode (sm_cc 350) 742 = .ok (.iload_n 2, 1) := by decide +kernel
theorem dc_350_743 : decode (sm_cc 350) 743 = .ok (.invokevirtual 630, 3) := by decide +kernel
theorem ow_362 : 14 = sm_ow 362 := by decide +kernel
theorem kr_350_630 : sm_at mt_k (sm_ow 350) 630 = some (630, 0, 362, 0, 2718) := by decide +kernel
theorem np_362 : sm_np 362 = 2 := by decide +kernel
theorem dc_350_746 : decode (sm_cc 350) 746 = .ok (.ireturn, 1) := by decide +kernel
theorem dc_350_266 : decode (sm_cc 350) 266 = .ok (.aload_n 0, 1) := by decide +kernel
theorem dc_350_267 : decode (sm_cc 350) 267 = .ok (.getfield 572, 3) := by decide +kernel
theorem dc_350_270 : decode (sm_cc 350) 270 = .ok (.iload_n 1, 1) := by decide +kernel
theorem dc_350_271 : decode (sm_cc 350) 271 = .ok (.iload_n 2, 1) := by decide +kernel
theorem dc_350_272 : decode (sm_cc 350) 272 = .ok (.iconst 2, 1) := by decide +kernel
theorem dc_350_273 : decode (sm_cc 350) 273 = .ok (.iadd, 1) := by decide +kernel
theorem dc_350_274 : decode (sm_cc 350) 274 = .ok (.iastore, 1) := by decide +kernel
theorem dc_350_275 : decode (sm_cc 350) 275 = .ok (.aload_n 0, 1) := by decide +kernel
theorem dc_350_276 : decode (sm_cc 350) 276 = .ok (.getfield 578, 3) := by decide +kernel
theorem dc_350_279 : decode (sm_cc 350) 279 = .ok (.iload_n 1, 1) := by decide +kernel
theorem dc_350_280 : decode (sm_cc 350) 280 = .ok (.aload_n 3, 1) := by decide +kernel
theorem dc_350_281 : decode (sm_cc 350) 281 = .ok (.iload_n 2, 1) := by decide +kernel
theorem dc_350_282 : decode (sm_cc 350) 282 = .ok (.iconst 1, 1) := by decide +kernel
theorem dc_350_283 : decode (sm_cc 350) 283 = .ok (.iadd, 1) := by decide +kernel
theorem dc_350_284 : decode (sm_cc 350) 284 = .ok (.iaload, 1) := by decide +kernel
theorem dc_350_285 : decode (sm_cc 350) 285 = .ok (.iastore, 1) := by decide +kernel
theorem dc_350_286 : decode (sm_cc 350) 286 = .ok (.iconst 1, 1) := by decide +kernel
theorem dc_350_287 : decode (sm_cc 350) 287 = .ok (.ireturn, 1) := by decide +kernel
theorem dc_350_766 : decode (sm_cc 350) 766 = .ok (.iload 4, 2) := by decide +kernel
theorem dc_350_768 : decode (sm_cc 350) 768 = .ok (.bipush (8), 2) := by decide +kernel
theorem dc_350_770 : decode (sm_cc 350) 770 = .ok (.if_icmp .eq (59), 3) := by decide +kernel
theorem dc_350_829 : decode (sm_cc 350) 829 = .ok (.iconst 1, 1) := by decide +kernel
theorem dc_350_830 : decode (sm_cc 350) 830 = .ok (.goto (4), 3) := by decide +kernel
theorem dc_350_834 : decode (sm_cc 350) 834 = .ok (.istore 5, 2) := by decide +kernel
theorem dc_350_836 : decode (sm_cc 350) 836 = .ok (.aload_n 0, 1) := by decide +kernel
theorem dc_350_837 : decode (sm_cc 350) 837 = .ok (.getfield 572, 3) := by decide +kernel
theorem dc_350_840 : decode (sm_cc 350) 840 = .ok (.iload_n 1, 1) := by decide +kernel
theorem dc_350_841 : decode (sm_cc 350) 841 = .ok (.iload 5, 2) := by decide +kernel
theorem dc_350_843 : decode (sm_cc 350) 843 = .ok (.ifCond .eq (9), 3) := by decide +kernel
theorem dc_350_846 : decode (sm_cc 350) 846 = .ok (.iload_n 2, 1) := by decide +kernel
theorem dc_350_847 : decode (sm_cc 350) 847 = .ok (.iconst 2, 1) := by decide +kernel
theorem dc_350_848 : decode (sm_cc 350) 848 = .ok (.iadd, 1) := by decide +kernel
theorem dc_350_849 : decode (sm_cc 350) 849 = .ok (.goto (6), 3) := by decide +kernel
theorem dc_350_855 : decode (sm_cc 350) 855 = .ok (.iastore, 1) := by decide +kernel
theorem dc_350_856 : decode (sm_cc 350) 856 = .ok (.aload_n 0, 1) := by decide +kernel
theorem dc_350_857 : decode (sm_cc 350) 857 = .ok (.iload 4, 2) := by decide +kernel
theorem dc_350_859 : decode (sm_cc 350) 859 = .ok (.iload 5, 2) := by decide +kernel
theorem dc_350_861 : decode (sm_cc 350) 861 = .ok (.ifCond .eq (11), 3) := by decide +kernel
theorem dc_350_864 : decode (sm_cc 350) 864 = .ok (.aload_n 3, 1) := by decide +kernel
theorem dc_350_865 : decode (sm_cc 350) 865 = .ok (.iload_n 2, 1) := by decide +kernel
theorem dc_350_866 : decode (sm_cc 350) 866 = .ok (.iconst 1, 1) := by decide +kernel
theorem dc_350_867 : decode (sm_cc 350) 867 = .ok (.iadd, 1) := by decide +kernel
theorem dc_350_868 : decode (sm_cc 350) 868 = .ok (.iaload, 1) := by decide +kernel
theorem dc_350_869 : decode (sm_cc 350) 869 = .ok (.goto (4), 3) := by decide +kernel
theorem dc_350_873 : decode (sm_cc 350) 873 = .ok (.invokevirtual 637, 3) := by decide +kernel
theorem ow_400 : 14 = sm_ow 400 := by decide +kernel
theorem kr_350_637 : sm_at mt_k (sm_ow 350) 637 = some (637, 0, 400, 0, 2928) := by decide +kernel
theorem np_400 : sm_np 400 = 2 := by decide +kernel
theorem dc_350_876 : decode (sm_cc 350) 876 = .ok (.ireturn, 1) := by decide +kernel
theorem dc_350_773 : decode (sm_cc 350) 773 = .ok (.iload 4, 2) := by decide +kernel
theorem dc_350_775 : decode (sm_cc 350) 775 = .ok (.bipush (16), 2) := by decide +kernel
theorem dc_350_777 : decode (sm_cc 350) 777 = .ok (.if_icmp .eq (52), 3) := by decide +kernel
theorem dc_350_780 : decode (sm_cc 350) 780 = .ok (.iload 4, 2) := by decide +kernel
theorem dc_350_782 : decode (sm_cc 350) 782 = .ok (.bipush (18), 2) := by decide +kernel
theorem dc_350_784 : decode (sm_cc 350) 784 = .ok (.if_icmp .eq (45), 3) := by decide +kernel
theorem dc_350_787 : decode (sm_cc 350) 787 = .ok (.iload 4, 2) := by decide +kernel
theorem dc_350_789 : decode (sm_cc 350) 789 = .ok (.bipush (19), 2) := by decide +kernel
theorem dc_350_791 : decode (sm_cc 350) 791 = .ok (.if_icmp .eq (38), 3) := by decide +kernel
theorem dc_350_794 : decode (sm_cc 350) 794 = .ok (.iload 4, 2) := by decide +kernel
theorem dc_350_796 : decode (sm_cc 350) 796 = .ok (.bipush (22), 2) := by decide +kernel
theorem dc_350_798 : decode (sm_cc 350) 798 = .ok (.if_icmp .eq (31), 3) := by decide +kernel
theorem dc_350_801 : decode (sm_cc 350) 801 = .ok (.iload 4, 2) := by decide +kernel
theorem dc_350_803 : decode (sm_cc 350) 803 = .ok (.bipush (24), 2) := by decide +kernel
theorem dc_350_805 : decode (sm_cc 350) 805 = .ok (.if_icmp .eq (24), 3) := by decide +kernel
theorem dc_350_808 : decode (sm_cc 350) 808 = .ok (.iload 4, 2) := by decide +kernel
theorem dc_350_810 : decode (sm_cc 350) 810 = .ok (.bipush (26), 2) := by decide +kernel
theorem dc_350_812 : decode (sm_cc 350) 812 = .ok (.if_icmp .eq (17), 3) := by decide +kernel
theorem dc_350_815 : decode (sm_cc 350) 815 = .ok (.iload 4, 2) := by decide +kernel
theorem dc_350_817 : decode (sm_cc 350) 817 = .ok (.bipush (37), 2) := by decide +kernel
theorem dc_350_819 : decode (sm_cc 350) 819 = .ok (.if_icmp .eq (10), 3) := by decide +kernel
theorem dc_350_822 : decode (sm_cc 350) 822 = .ok (.iload 4, 2) := by decide +kernel
theorem dc_350_824 : decode (sm_cc 350) 824 = .ok (.bipush (38), 2) := by decide +kernel
theorem dc_350_826 : decode (sm_cc 350) 826 = .ok (.if_icmp .ne (7), 3) := by decide +kernel
theorem dc_350_833 : decode (sm_cc 350) 833 = .ok (.iconst 0, 1) := by decide +kernel
theorem dc_350_852 : decode (sm_cc 350) 852 = .ok (.iload_n 2, 1) := by decide +kernel
theorem dc_350_853 : decode (sm_cc 350) 853 = .ok (.iconst 1, 1) := by decide +kernel
theorem dc_350_854 : decode (sm_cc 350) 854 = .ok (.iadd, 1) := by decide +kernel
theorem dc_350_872 : decode (sm_cc 350) 872 = .ok (.iconst 0, 1) := by decide +kernel
theorem ml_400 : sm_ml 400 = 4 := by decide +kernel
theorem dc_400_0 : decode (sm_cc 400) 0 = .ok (.iload_n 1, 1) := by decide +kernel
theorem dc_400_1 : decode (sm_cc 400) 1 = .ok (.tableswitch (699) 8 38 #[139, 145, 216, 699, 699, 699, 699, 248, 253, 699, 259, 265, 271, 283, 329, 306, 347, 365, 370, 376, 402, 444, 449, 510, 699, 537, 699, 549, 561, 572, 669], 139) := by decide +kernel
theorem dc_400_140 : decode (sm_cc 400) 140 = .ok (.aload_n 0, 1) := by decide +kernel
theorem dc_400_141 : decode (sm_cc 400) 141 = .ok (.iload_n 2, 1) := by decide +kernel
theorem dc_400_142 : decode (sm_cc 400) 142 = .ok (.invokevirtual 640, 3) := by decide +kernel
theorem ow_401 : 14 = sm_ow 401 := by decide +kernel
theorem kr_400_640 : sm_at mt_k (sm_ow 400) 640 = some (640, 0, 401, 0, 2932) := by decide +kernel
theorem np_401 : sm_np 401 = 1 := by decide +kernel
theorem dc_400_145 : decode (sm_cc 400) 145 = .ok (.ireturn, 1) := by decide +kernel
theorem rt_400 : sm_rt 400 = some .boolean := by decide +kernel
theorem dc_400_146 : decode (sm_cc 400) 146 = .ok (.aload_n 0, 1) := by decide +kernel
theorem dc_400_147 : decode (sm_cc 400) 147 = .ok (.getfield 496, 3) := by decide +kernel
theorem fr_400_496 : sm_at mt_f (sm_ow 400) 496 = some (496, 14, 48, 0, 2121) := by decide +kernel
theorem dc_400_150 : decode (sm_cc 400) 150 = .ok (.aload_n 0, 1) := by decide +kernel
theorem dc_400_151 : decode (sm_cc 400) 151 = .ok (.getfield 493, 3) := by decide +kernel
theorem fr_400_493 : sm_at mt_f (sm_ow 400) 493 = some (493, 14, 51, 0, 2124) := by decide +kernel
theorem dc_400_154 : decode (sm_cc 400) 154 = .ok (.iconst 1, 1) := by decide +kernel
theorem dc_400_155 : decode (sm_cc 400) 155 = .ok (.isub, 1) := by decide +kernel
theorem dc_400_156 : decode (sm_cc 400) 156 = .ok (.iaload, 1) := by decide +kernel
theorem dc_400_157 : decode (sm_cc 400) 157 = .ok (.iconst 1, 1) := by decide +kernel
theorem dc_400_158 : decode (sm_cc 400) 158 = .ok (.if_icmp .eq (9), 3) := by decide +kernel
theorem dc_400_167 : decode (sm_cc 400) 167 = .ok (.aload_n 0, 1) := by decide +kernel
theorem dc_400_168 : decode (sm_cc 400) 168 = .ok (.getfield 499, 3) := by decide +kernel
theorem fr_400_499 : sm_at mt_f (sm_ow 400) 499 = some (499, 14, 49, 0, 2122) := by decide +kernel
theorem dc_400_171 : decode (sm_cc 400) 171 = .ok (.aload_n 0, 1) := by decide +kernel
theorem dc_400_172 : decode (sm_cc 400) 172 = .ok (.getfield 493, 3) := by decide +kernel
theorem dc_400_175 : decode (sm_cc 400) 175 = .ok (.iconst 1, 1) := by decide +kernel
theorem dc_400_176 : decode (sm_cc 400) 176 = .ok (.isub, 1) := by decide +kernel
theorem dc_400_177 : decode (sm_cc 400) 177 = .ok (.laload, 1) := by decide +kernel
theorem dc_400_178 : decode (sm_cc 400) 178 = .ok (.ldc2_w 645, 3) := by decide +kernel
theorem cj_400_645 : sm_at mt_cj (sm_ow 400) 645 = some (645, (-9223372036854775808), 2967) := by decide +kernel
theorem dc_400_181 : decode (sm_cc 400) 181 = .ok (.lcmp, 1) := by decide +kernel
theorem dc_400_182 : decode (sm_cc 400) 182 = .ok (.ifCond .ne (10), 3) := by decide +kernel
theorem dc_400_192 : decode (sm_cc 400) 192 = .ok (.aload_n 0, 1) := by decide +kernel
theorem dc_400_193 : decode (sm_cc 400) 193 = .ok (.getfield 499, 3) := by decide +kernel
theorem dc_400_196 : decode (sm_cc 400) 196 = .ok (.aload_n 0, 1) := by decide +kernel
theorem dc_400_197 : decode (sm_cc 400) 197 = .ok (.getfield 493, 3) := by decide +kernel
theorem dc_400_200 : decode (sm_cc 400) 200 = .ok (.iconst 1, 1) := by decide +kernel
theorem dc_400_201 : decode (sm_cc 400) 201 = .ok (.isub, 1) := by decide +kernel
theorem dc_400_202 : decode (sm_cc 400) 202 = .ok (.aload_n 0, 1) := by decide +kernel
theorem dc_400_203 : decode (sm_cc 400) 203 = .ok (.getfield 499, 3) := by decide +kernel
theorem dc_400_206 : decode (sm_cc 400) 206 = .ok (.aload_n 0, 1) := by decide +kernel
theorem dc_400_207 : decode (sm_cc 400) 207 = .ok (.getfield 493, 3) := by decide +kernel
theorem dc_400_210 : decode (sm_cc 400) 210 = .ok (.iconst 1, 1) := by decide +kernel
theorem dc_400_211 : decode (sm_cc 400) 211 = .ok (.isub, 1) := by decide +kernel
theorem dc_400_212 : decode (sm_cc 400) 212 = .ok (.laload, 1) := by decide +kernel
theorem dc_400_213 : decode (sm_cc 400) 213 = .ok (.lneg, 1) := by decide +kernel
theorem dc_400_214 : decode (sm_cc 400) 214 = .ok (.lastore, 1) := by decide +kernel
theorem dc_400_215 : decode (sm_cc 400) 215 = .ok (.iconst 1, 1) := by decide +kernel
theorem dc_400_216 : decode (sm_cc 400) 216 = .ok (.ireturn, 1) := by decide +kernel
theorem dc_400_185 : decode (sm_cc 400) 185 = .ok (.aload_n 0, 1) := by decide +kernel
theorem dc_400_186 : decode (sm_cc 400) 186 = .ok (.bipush (6), 2) := by decide +kernel
theorem dc_400_188 : decode (sm_cc 400) 188 = .ok (.invokevirtual 608, 3) := by decide +kernel
theorem kr_400_608 : sm_at mt_k (sm_ow 400) 608 = some (608, 0, 351, 0, 2664) := by decide +kernel
theorem dc_400_191 : decode (sm_cc 400) 191 = .ok (.ireturn, 1) := by decide +kernel
theorem dc_400_161 : decode (sm_cc 400) 161 = .ok (.aload_n 0, 1) := by decide +kernel
theorem dc_400_162 : decode (sm_cc 400) 162 = .ok (.iconst 2, 1) := by decide +kernel
theorem dc_400_163 : decode (sm_cc 400) 163 = .ok (.invokevirtual 608, 3) := by decide +kernel
theorem dc_400_166 : decode (sm_cc 400) 166 = .ok (.ireturn, 1) := by decide +kernel
theorem dc_400_217 : decode (sm_cc 400) 217 = .ok (.aload_n 0, 1) := by decide +kernel
theorem dc_400_218 : decode (sm_cc 400) 218 = .ok (.dup, 1) := by decide +kernel
theorem dc_400_219 : decode (sm_cc 400) 219 = .ok (.getfield 493, 3) := by decide +kernel
theorem dc_400_222 : decode (sm_cc 400) 222 = .ok (.iconst 1, 1) := by decide +kernel
theorem dc_400_223 : decode (sm_cc 400) 223 = .ok (.isub, 1) := by decide +kernel
theorem dc_400_224 : decode (sm_cc 400) 224 = .ok (.putfield 493, 3) := by decide +kernel
theorem dc_400_227 : decode (sm_cc 400) 227 = .ok (.aload_n 0, 1) := by decide +kernel
theorem dc_400_228 : decode (sm_cc 400) 228 = .ok (.aload_n 0, 1) := by decide +kernel
theorem dc_400_229 : decode (sm_cc 400) 229 = .ok (.aload_n 0, 1) := by decide +kernel
theorem dc_400_230 : decode (sm_cc 400) 230 = .ok (.getfield 493, 3) := by decide +kernel
theorem dc_400_233 : decode (sm_cc 400) 233 = .ok (.invokevirtual 624, 3) := by decide +kernel
theorem kr_400_624 : sm_at mt_k (sm_ow 400) 624 = some (624, 0, 359, 0, 2706) := by decide +kernel
theorem dc_400_236 : decode (sm_cc 400) 236 = .ok (.ifCond .eq (7), 3) := by decide +kernel
theorem dc_400_239 : decode (sm_cc 400) 239 = .ok (.lconst 0, 1) := by decide +kernel
theorem dc_400_240 : decode (sm_cc 400) 240 = .ok (.goto (4), 3) := by decide +kernel
theorem dc_400_244 : decode (sm_cc 400) 244 = .ok (.invokevirtual 613, 3) := by decide +kernel
theorem kr_400_613 : sm_at mt_k (sm_ow 400) 613 = some (613, 0, 353, 0, 2672) := by decide +kernel
theorem dc_400_247 : decode (sm_cc 400) 247 = .ok (.iconst 1, 1) := by decide +kernel
theorem dc_400_248 : decode (sm_cc 400) 248 = .ok (.ireturn, 1) := by decide +kernel
theorem dc_400_243 : decode (sm_cc 400) 243 = .ok (.lconst 1, 1) := by decide +kernel
theorem dc_400_249 : decode (sm_cc 400) 249 = .ok (.aload_n 0, 1) := by decide +kernel
theorem dc_400_250 : decode (sm_cc 400) 250 = .ok (.invokevirtual 647, 3) := by decide +kernel
theorem ow_409 : 14 = sm_ow 409 := by decide +kernel
theorem kr_400_647 : sm_at mt_k (sm_ow 400) 647 = some (647, 0, 409, 0, 2969) := by decide +kernel
theorem np_409 : sm_np 409 = 0 := by decide +kernel
theorem dc_400_253 : decode (sm_cc 400) 253 = .ok (.ireturn, 1) := by decide +kernel
theorem dc_400_254 : decode (sm_cc 400) 254 = .ok (.aload_n 0, 1) := by decide +kernel
theorem dc_400_255 : decode (sm_cc 400) 255 = .ok (.iload_n 2, 1) := by decide +kernel
theorem dc_400_256 : decode (sm_cc 400) 256 = .ok (.invokevirtual 650, 3) := by decide +kernel
theorem ow_412 : 14 = sm_ow 412 := by decide +kernel
theorem kr_400_650 : sm_at mt_k (sm_ow 400) 650 = some (650, 0, 412, 0, 2981) := by decide +kernel
theorem np_412 : sm_np 412 = 1 := by decide +kernel
theorem dc_400_259 : decode (sm_cc 400) 259 = .ok (.ireturn, 1) := by decide +kernel
theorem dc_400_260 : decode (sm_cc 400) 260 = .ok (.aload_n 0, 1) := by decide +kernel
theorem dc_400_261 : decode (sm_cc 400) 261 = .ok (.iload_n 2, 1) := by decide +kernel
theorem dc_400_262 : decode (sm_cc 400) 262 = .ok (.invokevirtual 653, 3) := by decide +kernel
theorem ow_413 : 14 = sm_ow 413 := by decide +kernel
theorem kr_400_653 : sm_at mt_k (sm_ow 400) 653 = some (653, 0, 413, 0, 2985) := by decide +kernel
theorem np_413 : sm_np 413 = 1 := by decide +kernel
theorem dc_400_265 : decode (sm_cc 400) 265 = .ok (.ireturn, 1) := by decide +kernel
theorem dc_400_266 : decode (sm_cc 400) 266 = .ok (.aload_n 0, 1) := by decide +kernel
theorem dc_400_267 : decode (sm_cc 400) 267 = .ok (.iload_n 2, 1) := by decide +kernel
theorem dc_400_268 : decode (sm_cc 400) 268 = .ok (.invokevirtual 656, 3) := by decide +kernel
theorem ow_414 : 14 = sm_ow 414 := by decide +kernel
theorem kr_400_656 : sm_at mt_k (sm_ow 400) 656 = some (656, 0, 414, 0, 2989) := by decide +kernel
theorem np_414 : sm_np 414 = 1 := by decide +kernel
theorem dc_400_271 : decode (sm_cc 400) 271 = .ok (.ireturn, 1) := by decide +kernel
theorem dc_400_272 : decode (sm_cc 400) 272 = .ok (.aload_n 0, 1) := by decide +kernel
theorem dc_400_273 : decode (sm_cc 400) 273 = .ok (.dup, 1) := by decide +kernel
theorem dc_400_274 : decode (sm_cc 400) 274 = .ok (.getfield 493, 3) := by decide +kernel
theorem dc_400_277 : decode (sm_cc 400) 277 = .ok (.iconst 1, 1) := by decide +kernel
theorem dc_400_278 : decode (sm_cc 400) 278 = .ok (.isub, 1) := by decide +kernel
theorem dc_400_279 : decode (sm_cc 400) 279 = .ok (.putfield 493, 3) := by decide +kernel
theorem dc_400_282 : decode (sm_cc 400) 282 = .ok (.iconst 1, 1) := by decide +kernel
theorem dc_400_283 : decode (sm_cc 400) 283 = .ok (.ireturn, 1) := by decide +kernel
theorem dc_400_284 : decode (sm_cc 400) 284 = .ok (.aload_n 0, 1) := by decide +kernel
theorem dc_400_285 : decode (sm_cc 400) 285 = .ok (.aload_n 0, 1) := by decide +kernel
theorem dc_400_286 : decode (sm_cc 400) 286 = .ok (.getfield 493, 3) := by decide +kernel
theorem dc_400_289 : decode (sm_cc 400) 289 = .ok (.iconst 2, 1) := by decide +kernel
theorem dc_400_290 : decode (sm_cc 400) 290 = .ok (.isub, 1) := by decide +kernel
theorem dc_400_291 : decode (sm_cc 400) 291 = .ok (.aload_n 0, 1) := by decide +kernel
theorem dc_400_292 : decode (sm_cc 400) 292 = .ok (.getfield 493, 3) := by decide +kernel
theorem dc_400_295 : decode (sm_cc 400) 295 = .ok (.iconst 1, 1) := by decide +kernel
theorem dc_400_296 : decode (sm_cc 400) 296 = .ok (.isub, 1) := by decide +kernel
theorem dc_400_297 : decode (sm_cc 400) 297 = .ok (.aload_n 0, 1) := by decide +kernel
theorem dc_400_298 : decode (sm_cc 400) 298 = .ok (.getfield 493, 3) := by decide +kernel
theorem dc_400_301 : decode (sm_cc 400) 301 = .ok (.iconst 3, 1) := by decide +kernel
theorem dc_400_302 : decode (sm_cc 400) 302 = .ok (.isub, 1) := by decide +kernel
theorem dc_400_303 : decode (sm_cc 400) 303 = .ok (.invokevirtual 659, 3) := by decide +kernel
theorem ow_415 : 14 = sm_ow 415 := by decide +kernel
theorem kr_400_659 : sm_at mt_k (sm_ow 400) 659 = some (659, 0, 415, 0, 2993) := by decide +kernel
theorem np_415 : sm_np 415 = 3 := by decide +kernel
theorem dc_400_306 : decode (sm_cc 400) 306 = .ok (.ireturn, 1) := by decide +kernel
theorem dc_400_330 : decode (sm_cc 400) 330 = .ok (.aload_n 0, 1) := by decide +kernel
theorem dc_400_331 : decode (sm_cc 400) 331 = .ok (.iload_n 2, 1) := by decide +kernel
theorem dc_400_332 : decode (sm_cc 400) 332 = .ok (.aload_n 0, 1) := by decide +kernel
theorem dc_400_333 : decode (sm_cc 400) 333 = .ok (.getfield 493, 3) := by decide +kernel
theorem dc_400_336 : decode (sm_cc 400) 336 = .ok (.iconst 1, 1) := by decide +kernel
theorem dc_400_337 : decode (sm_cc 400) 337 = .ok (.isub, 1) := by decide +kernel
theorem dc_400_338 : decode (sm_cc 400) 338 = .ok (.aload_n 0, 1) := by decide +kernel
theorem dc_400_339 : decode (sm_cc 400) 339 = .ok (.getfield 493, 3) := by decide +kernel
theorem dc_400_342 : decode (sm_cc 400) 342 = .ok (.iconst 2, 1) := by decide +kernel
theorem dc_400_343 : decode (sm_cc 400) 343 = .ok (.isub, 1) := by decide +kernel
theorem dc_400_344 : decode (sm_cc 400) 344 = .ok (.invokevirtual 663, 3) := by decide +kernel
theorem ow_416 : 14 = sm_ow 416 := by decide +kernel
theorem kr_400_663 : sm_at mt_k (sm_ow 400) 663 = some (663, 0, 416, 0, 2997) := by decide +kernel
theorem np_416 : sm_np 416 = 3 := by decide +kernel
theorem dc_400_347 : decode (sm_cc 400) 347 = .ok (.ireturn, 1) := by decide +kernel
theorem dc_400_307 : decode (sm_cc 400) 307 = .ok (.aload_n 0, 1) := by decide +kernel
theorem dc_400_308 : decode (sm_cc 400) 308 = .ok (.aload_n 0, 1) := by decide +kernel
theorem dc_400_309 : decode (sm_cc 400) 309 = .ok (.getfield 493, 3) := by decide +kernel
theorem dc_400_312 : decode (sm_cc 400) 312 = .ok (.iconst 3, 1) := by decide +kernel
theorem dc_400_313 : decode (sm_cc 400) 313 = .ok (.isub, 1) := by decide +kernel
theorem dc_400_314 : decode (sm_cc 400) 314 = .ok (.aload_n 0, 1) := by decide +kernel
theorem dc_400_315 : decode (sm_cc 400) 315 = .ok (.getfield 493, 3) := by decide +kernel
theorem dc_400_318 : decode (sm_cc 400) 318 = .ok (.iconst 2, 1) := by decide +kernel
theorem dc_400_319 : decode (sm_cc 400) 319 = .ok (.isub, 1) := by decide +kernel
theorem dc_400_320 : decode (sm_cc 400) 320 = .ok (.aload_n 0, 1) := by decide +kernel
theorem dc_400_321 : decode (sm_cc 400) 321 = .ok (.getfield 493, 3) := by decide +kernel
theorem dc_400_324 : decode (sm_cc 400) 324 = .ok (.iconst 1, 1) := by decide +kernel
theorem dc_400_325 : decode (sm_cc 400) 325 = .ok (.isub, 1) := by decide +kernel
theorem dc_400_326 : decode (sm_cc 400) 326 = .ok (.invokevirtual 659, 3) := by decide +kernel
theorem dc_400_329 : decode (sm_cc 400) 329 = .ok (.ireturn, 1) := by decide +kernel
theorem dc_400_348 : decode (sm_cc 400) 348 = .ok (.aload_n 0, 1) := by decide +kernel
theorem dc_400_349 : decode (sm_cc 400) 349 = .ok (.iload_n 2, 1) := by decide +kernel
theorem dc_400_350 : decode (sm_cc 400) 350 = .ok (.aload_n 0, 1) := by decide +kernel
theorem dc_400_351 : decode (sm_cc 400) 351 = .ok (.getfield 493, 3) := by decide +kernel
theorem dc_400_354 : decode (sm_cc 400) 354 = .ok (.iconst 2, 1) := by decide +kernel
theorem dc_400_355 : decode (sm_cc 400) 355 = .ok (.isub, 1) := by decide +kernel
theorem dc_400_356 : decode (sm_cc 400) 356 = .ok (.aload_n 0, 1) := by decide +kernel
theorem dc_400_357 : decode (sm_cc 400) 357 = .ok (.getfield 493, 3) := by decide +kernel
theorem dc_400_360 : decode (sm_cc 400) 360 = .ok (.iconst 1, 1) := by decide +kernel
theorem dc_400_361 : decode (sm_cc 400) 361 = .ok (.isub, 1) := by decide +kernel
theorem dc_400_362 : decode (sm_cc 400) 362 = .ok (.invokevirtual 663, 3) := by decide +kernel
theorem dc_400_365 : decode (sm_cc 400) 365 = .ok (.ireturn, 1) := by decide +kernel
theorem dc_400_366 : decode (sm_cc 400) 366 = .ok (.aload_n 0, 1) := by decide +kernel
theorem dc_400_367 : decode (sm_cc 400) 367 = .ok (.invokevirtual 666, 3) := by decide +kernel
theorem ow_417 : 14 = sm_ow 417 := by decide +kernel
theorem kr_400_666 : sm_at mt_k (sm_ow 400) 666 = some (666, 0, 417, 0, 3001) := by decide +kernel
theorem np_417 : sm_np 417 = 0 := by decide +kernel
theorem dc_400_370 : decode (sm_cc 400) 370 = .ok (.ireturn, 1) := by decide +kernel
theorem dc_400_371 : decode (sm_cc 400) 371 = .ok (.aload_n 0, 1) := by decide +kernel
theorem dc_400_372 : decode (sm_cc 400) 372 = .ok (.iload_n 2, 1) := by decide +kernel
theorem dc_400_373 : decode (sm_cc 400) 373 = .ok (.invokevirtual 669, 3) := by decide +kernel
theorem ow_419 : 14 = sm_ow 419 := by decide +kernel
theorem kr_400_669 : sm_at mt_k (sm_ow 400) 669 = some (669, 0, 419, 0, 3010) := by decide +kernel
theorem np_419 : sm_np 419 = 1 := by decide +kernel
theorem dc_400_376 : decode (sm_cc 400) 376 = .ok (.ireturn, 1) := by decide +kernel
theorem dc_400_377 : decode (sm_cc 400) 377 = .ok (.aload_n 0, 1) := by decide +kernel
theorem dc_400_378 : decode (sm_cc 400) 378 = .ok (.aload_n 0, 1) := by decide +kernel
theorem dc_400_379 : decode (sm_cc 400) 379 = .ok (.getfield 493, 3) := by decide +kernel
theorem dc_400_382 : decode (sm_cc 400) 382 = .ok (.iconst 1, 1) := by decide +kernel
theorem dc_400_383 : decode (sm_cc 400) 383 = .ok (.isub, 1) := by decide +kernel
theorem dc_400_384 : decode (sm_cc 400) 384 = .ok (.aload_n 0, 1) := by decide +kernel
theorem dc_400_385 : decode (sm_cc 400) 385 = .ok (.getfield 493, 3) := by decide +kernel
theorem dc_400_388 : decode (sm_cc 400) 388 = .ok (.invokevirtual 672, 3) := by decide +kernel
theorem ow_391 : 14 = sm_ow 391 := by decide +kernel
theorem kr_400_672 : sm_at mt_k (sm_ow 400) 672 = some (672, 0, 391, 0, 2893) := by decide +kernel
theorem np_391 : sm_np 391 = 2 := by decide +kernel
theorem dc_400_391 : decode (sm_cc 400) 391 = .ok (.aload_n 0, 1) := by decide +kernel
theorem dc_400_392 : decode (sm_cc 400) 392 = .ok (.dup, 1) := by decide +kernel
theorem dc_400_393 : decode (sm_cc 400) 393 = .ok (.getfield 493, 3) := by decide +kernel
theorem dc_400_396 : decode (sm_cc 400) 396 = .ok (.iconst 1, 1) := by decide +kernel
theorem dc_400_397 : decode (sm_cc 400) 397 = .ok (.iadd, 1) := by decide +kernel
theorem dc_400_398 : decode (sm_cc 400) 398 = .ok (.putfield 493, 3) := by decide +kernel
theorem dc_400_401 : decode (sm_cc 400) 401 = .ok (.iconst 1, 1) := by decide +kernel
theorem dc_400_402 : decode (sm_cc 400) 402 = .ok (.ireturn, 1) := by decide +kernel
theorem dc_400_403 : decode (sm_cc 400) 403 = .ok (.aload_n 0, 1) := by decide +kernel
theorem dc_400_404 : decode (sm_cc 400) 404 = .ok (.aload_n 0, 1) := by decide +kernel
theorem dc_400_405 : decode (sm_cc 400) 405 = .ok (.getfield 493, 3) := by decide +kernel
theorem dc_400_408 : decode (sm_cc 400) 408 = .ok (.iconst 2, 1) := by decide +kernel
theorem dc_400_409 : decode (sm_cc 400) 409 = .ok (.isub, 1) := by decide +kernel
theorem dc_400_410 : decode (sm_cc 400) 410 = .ok (.aload_n 0, 1) := by decide +kernel
theorem dc_400_411 : decode (sm_cc 400) 411 = .ok (.getfield 493, 3) := by decide +kernel
theorem dc_400_414 : decode (sm_cc 400) 414 = .ok (.invokevirtual 672, 3) := by decide +kernel
theorem dc_400_417 : decode (sm_cc 400) 417 = .ok (.aload_n 0, 1) := by decide +kernel
theorem dc_400_418 : decode (sm_cc 400) 418 = .ok (.aload_n 0, 1) := by decide +kernel
theorem dc_400_419 : decode (sm_cc 400) 419 = .ok (.getfield 493, 3) := by decide +kernel
theorem dc_400_422 : decode (sm_cc 400) 422 = .ok (.iconst 1, 1) := by decide +kernel
theorem dc_400_423 : decode (sm_cc 400) 423 = .ok (.isub, 1) := by decide +kernel
theorem dc_400_424 : decode (sm_cc 400) 424 = .ok (.aload_n 0, 1) := by decide +kernel
theorem dc_400_425 : decode (sm_cc 400) 425 = .ok (.getfield 493, 3) := by decide +kernel
theorem dc_400_428 : decode (sm_cc 400) 428 = .ok (.iconst 1, 1) := by decide +kernel
theorem dc_400_429 : decode (sm_cc 400) 429 = .ok (.iadd, 1) := by decide +kernel
theorem dc_400_430 : decode (sm_cc 400) 430 = .ok (.invokevirtual 672, 3) := by decide +kernel
theorem dc_400_433 : decode (sm_cc 400) 433 = .ok (.aload_n 0, 1) := by decide +kernel
theorem dc_400_434 : decode (sm_cc 400) 434 = .ok (.dup, 1) := by decide +kernel
theorem dc_400_435 : decode (sm_cc 400) 435 = .ok (.getfield 493, 3) := by decide +kernel
theorem dc_400_438 : decode (sm_cc 400) 438 = .ok (.iconst 2, 1) := by decide +kernel
theorem dc_400_439 : decode (sm_cc 400) 439 = .ok (.iadd, 1) := by decide +kernel
theorem dc_400_440 : decode (sm_cc 400) 440 = .ok (.putfield 493, 3) := by decide +kernel
theorem dc_400_443 : decode (sm_cc 400) 443 = .ok (.iconst 1, 1) := by decide +kernel
theorem dc_400_444 : decode (sm_cc 400) 444 = .ok (.ireturn, 1) := by decide +kernel
theorem dc_400_445 : decode (sm_cc 400) 445 = .ok (.aload_n 0, 1) := by decide +kernel
theorem dc_400_446 : decode (sm_cc 400) 446 = .ok (.invokevirtual 675, 3) := by decide +kernel
theorem ow_420 : 14 = sm_ow 420 := by decide +kernel
theorem kr_400_675 : sm_at mt_k (sm_ow 400) 675 = some (675, 0, 420, 0, 3014) := by decide +kernel
theorem np_420 : sm_np 420 = 0 := by decide +kernel
theorem dc_400_449 : decode (sm_cc 400) 449 = .ok (.ireturn, 1) := by decide +kernel
theorem dc_400_450 : decode (sm_cc 400) 450 = .ok (.aload_n 0, 1) := by decide +kernel
theorem dc_400_451 : decode (sm_cc 400) 451 = .ok (.getfield 496, 3) := by decide +kernel
theorem dc_400_454 : decode (sm_cc 400) 454 = .ok (.aload_n 0, 1) := by decide +kernel
theorem dc_400_455 : decode (sm_cc 400) 455 = .ok (.getfield 493, 3) := by decide +kernel
theorem dc_400_458 : decode (sm_cc 400) 458 = .ok (.iconst 1, 1) := by decide +kernel
theorem dc_400_459 : decode (sm_cc 400) 459 = .ok (.isub, 1) := by decide +kernel
theorem dc_400_460 : decode (sm_cc 400) 460 = .ok (.iaload, 1) := by decide +kernel
theorem dc_400_461 : decode (sm_cc 400) 461 = .ok (.iconst 1, 1) := by decide +kernel
theorem dc_400_462 : decode (sm_cc 400) 462 = .ok (.if_icmp .ne (26), 3) := by decide +kernel
theorem dc_400_488 : decode (sm_cc 400) 488 = .ok (.aload_n 0, 1) := by decide +kernel
theorem dc_400_489 : decode (sm_cc 400) 489 = .ok (.iconst 2, 1) := by decide +kernel
theorem dc_400_490 : decode (sm_cc 400) 490 = .ok (.invokevirtual 608, 3) := by decide +kernel
theorem dc_400_493 : decode (sm_cc 400) 493 = .ok (.ireturn, 1) := by decide +kernel
theorem dc_400_465 : decode (sm_cc 400) 465 = .ok (.aload_n 0, 1) := by decide +kernel
theorem dc_400_466 : decode (sm_cc 400) 466 = .ok (.getfield 499, 3) := by decide +kernel
theorem dc_400_469 : decode (sm_cc 400) 469 = .ok (.aload_n 0, 1) := by decide +kernel
theorem dc_400_470 : decode (sm_cc 400) 470 = .ok (.getfield 493, 3) := by decide +kernel
theorem dc_400_473 : decode (sm_cc 400) 473 = .ok (.iconst 1, 1) := by decide +kernel
theorem dc_400_474 : decode (sm_cc 400) 474 = .ok (.isub, 1) := by decide +kernel
theorem dc_400_475 : decode (sm_cc 400) 475 = .ok (.laload, 1) := by decide +kernel
theorem dc_400_476 : decode (sm_cc 400) 476 = .ok (.ldc2_w 171, 3) := by decide +kernel
theorem cj_400_171 : sm_at mt_cj (sm_ow 400) 171 = some (171, (10), 2398) := by decide +kernel
theorem dc_400_479 : decode (sm_cc 400) 479 = .ok (.ldc2_w 678, 3) := by decide +kernel
theorem cj_400_678 : sm_at mt_cj (sm_ow 400) 678 = some (678, (99), 3018) := by decide +kernel
theorem dc_400_482 : decode (sm_cc 400) 482 = .ok (.invokestatic 680, 3) := by decide +kernel
theorem kr_400_680 : sm_at mt_k (sm_ow 400) 680 = some (680, 2, 284, 0, 2313) := by decide +kernel
theorem dc_400_485 : decode (sm_cc 400) 485 = .ok (.ifCond .ne (9), 3) := by decide +kernel
theorem dc_400_494 : decode (sm_cc 400) 494 = .ok (.aload_n 0, 1) := by decide +kernel
theorem dc_400_495 : decode (sm_cc 400) 495 = .ok (.aload_n 0, 1) := by decide +kernel
theorem dc_400_496 : decode (sm_cc 400) 496 = .ok (.getfield 499, 3) := by decide +kernel
theorem dc_400_499 : decode (sm_cc 400) 499 = .ok (.aload_n 0, 1) := by decide +kernel
theorem dc_400_500 : decode (sm_cc 400) 500 = .ok (.getfield 493, 3) := by decide +kernel
theorem dc_400_503 : decode (sm_cc 400) 503 = .ok (.iconst 1, 1) := by decide +kernel
theorem dc_400_504 : decode (sm_cc 400) 504 = .ok (.isub, 1) := by decide +kernel
theorem dc_400_505 : decode (sm_cc 400) 505 = .ok (.laload, 1) := by decide +kernel
theorem dc_400_506 : decode (sm_cc 400) 506 = .ok (.l2i, 1) := by decide +kernel
theorem dc_400_507 : decode (sm_cc 400) 507 = .ok (.invokevirtual 608, 3) := by decide +kernel
theorem dc_400_510 : decode (sm_cc 400) 510 = .ok (.ireturn, 1) := by decide +kernel
theorem dc_400_511 : decode (sm_cc 400) 511 = .ok (.aload_n 0, 1) := by decide +kernel
theorem dc_400_512 : decode (sm_cc 400) 512 = .ok (.aload_n 0, 1) := by decide +kernel
theorem dc_400_513 : decode (sm_cc 400) 513 = .ok (.getfield 493, 3) := by decide +kernel
theorem dc_400_516 : decode (sm_cc 400) 516 = .ok (.iconst 1, 1) := by decide +kernel
theorem dc_400_517 : decode (sm_cc 400) 517 = .ok (.isub, 1) := by decide +kernel
theorem dc_400_518 : decode (sm_cc 400) 518 = .ok (.iconst 1, 1) := by decide +kernel
theorem dc_400_519 : decode (sm_cc 400) 519 = .ok (.invokevirtual 683, 3) := by decide +kernel
theorem ow_363 : 14 = sm_ow 363 := by decide +kernel
theorem kr_400_683 : sm_at mt_k (sm_ow 400) 683 = some (683, 0, 363, 0, 2722) := by decide +kernel
theorem np_363 : sm_np 363 = 2 := by decide +kernel
theorem dc_400_522 : decode (sm_cc 400) 522 = .ok (.ifCond .ne (9), 3) := by decide +kernel
theorem dc_400_531 : decode (sm_cc 400) 531 = .ok (.aload_n 0, 1) := by decide +kernel
theorem dc_400_532 : decode (sm_cc 400) 532 = .ok (.lconst 0, 1) := by decide +kernel
theorem dc_400_533 : decode (sm_cc 400) 533 = .ok (.invokevirtual 613, 3) := by decide +kernel
theorem dc_400_536 : decode (sm_cc 400) 536 = .ok (.iconst 1, 1) := by decide +kernel
theorem dc_400_537 : decode (sm_cc 400) 537 = .ok (.ireturn, 1) := by decide +kernel
theorem dc_400_525 : decode (sm_cc 400) 525 = .ok (.aload_n 0, 1) := by decide +kernel
theorem dc_400_526 : decode (sm_cc 400) 526 = .ok (.iconst 2, 1) := by decide +kernel
theorem dc_400_527 : decode (sm_cc 400) 527 = .ok (.invokevirtual 608, 3) := by decide +kernel
theorem dc_400_530 : decode (sm_cc 400) 530 = .ok (.ireturn, 1) := by decide +kernel
theorem dc_400_538 : decode (sm_cc 400) 538 = .ok (.aload_n 0, 1) := by decide +kernel
theorem dc_400_539 : decode (sm_cc 400) 539 = .ok (.dup, 1) := by decide +kernel
theorem dc_400_540 : decode (sm_cc 400) 540 = .ok (.getfield 493, 3) := by decide +kernel
theorem dc_400_543 : decode (sm_cc 400) 543 = .ok (.iconst 2, 1) := by decide +kernel
theorem dc_400_544 : decode (sm_cc 400) 544 = .ok (.isub, 1) := by decide +kernel
theorem dc_400_545 : decode (sm_cc 400) 545 = .ok (.putfield 493, 3) := by decide +kernel
theorem dc_400_548 : decode (sm_cc 400) 548 = .ok (.iconst 1, 1) := by decide +kernel
theorem dc_400_549 : decode (sm_cc 400) 549 = .ok (.ireturn, 1) := by decide +kernel
theorem dc_400_550 : decode (sm_cc 400) 550 = .ok (.aload_n 0, 1) := by decide +kernel
theorem dc_400_551 : decode (sm_cc 400) 551 = .ok (.dup, 1) := by decide +kernel
theorem dc_400_552 : decode (sm_cc 400) 552 = .ok (.getfield 558, 3) := by decide +kernel
theorem fr_400_558 : sm_at mt_f (sm_ow 400) 558 = some (558, 14, 63, 0, 2136) := by decide +kernel
theorem dc_400_555 : decode (sm_cc 400) 555 = .ok (.iconst 1, 1) := by decide +kernel
theorem dc_400_556 : decode (sm_cc 400) 556 = .ok (.isub, 1) := by decide +kernel
theorem dc_400_557 : decode (sm_cc 400) 557 = .ok (.putfield 558, 3) := by decide +kernel
theorem dc_400_560 : decode (sm_cc 400) 560 = .ok (.iconst 1, 1) := by decide +kernel
theorem dc_400_561 : decode (sm_cc 400) 561 = .ok (.ireturn, 1) := by decide +kernel
theorem dc_400_562 : decode (sm_cc 400) 562 = .ok (.aload_n 0, 1) := by decide +kernel
theorem dc_400_563 : decode (sm_cc 400) 563 = .ok (.aload_n 0, 1) := by decide +kernel
theorem dc_400_564 : decode (sm_cc 400) 564 = .ok (.getfield 593, 3) := by decide +kernel
theorem fr_400_593 : sm_at mt_f (sm_ow 400) 593 = some (593, 14, 67, 0, 2140) := by decide +kernel
theorem dc_400_567 : decode (sm_cc 400) 567 = .ok (.i2l, 1) := by decide +kernel
theorem dc_400_568 : decode (sm_cc 400) 568 = .ok (.invokevirtual 613, 3) := by decide +kernel
theorem dc_400_571 : decode (sm_cc 400) 571 = .ok (.iconst 1, 1) := by decide +kernel
theorem dc_400_572 : decode (sm_cc 400) 572 = .ok (.ireturn, 1) := by decide +kernel
theorem dc_400_670 : decode (sm_cc 400) 670 = .ok (.aload_n 0, 1) := by decide +kernel
theorem dc_400_671 : decode (sm_cc 400) 671 = .ok (.aload_n 0, 1) := by decide +kernel
theorem dc_400_672 : decode (sm_cc 400) 672 = .ok (.getfield 493, 3) := by decide +kernel
theorem dc_400_675 : decode (sm_cc 400) 675 = .ok (.iconst 1, 1) := by decide +kernel
theorem dc_400_676 : decode (sm_cc 400) 676 = .ok (.isub, 1) := by decide +kernel
theorem dc_400_677 : decode (sm_cc 400) 677 = .ok (.aload_n 0, 1) := by decide +kernel
theorem dc_400_678 : decode (sm_cc 400) 678 = .ok (.getfield 493, 3) := by decide +kernel
theorem dc_400_681 : decode (sm_cc 400) 681 = .ok (.iconst 1, 1) := by decide +kernel
theorem dc_400_682 : decode (sm_cc 400) 682 = .ok (.isub, 1) := by decide +kernel
theorem dc_400_683 : decode (sm_cc 400) 683 = .ok (.iload_n 2, 1) := by decide +kernel
theorem dc_400_684 : decode (sm_cc 400) 684 = .ok (.isub, 1) := by decide +kernel
theorem dc_400_685 : decode (sm_cc 400) 685 = .ok (.invokevirtual 672, 3) := by decide +kernel
theorem dc_400_688 : decode (sm_cc 400) 688 = .ok (.aload_n 0, 1) := by decide +kernel
theorem dc_400_689 : decode (sm_cc 400) 689 = .ok (.dup, 1) := by decide +kernel
theorem dc_400_690 : decode (sm_cc 400) 690 = .ok (.getfield 493, 3) := by decide +kernel
theorem dc_400_693 : decode (sm_cc 400) 693 = .ok (.iconst 1, 1) := by decide +kernel
theorem dc_400_694 : decode (sm_cc 400) 694 = .ok (.isub, 1) := by decide +kernel
theorem dc_400_695 : decode (sm_cc 400) 695 = .ok (.putfield 493, 3) := by decide +kernel
theorem dc_400_698 : decode (sm_cc 400) 698 = .ok (.iconst 1, 1) := by decide +kernel
theorem dc_400_699 : decode (sm_cc 400) 699 = .ok (.ireturn, 1) := by decide +kernel
theorem sx_areturnO {X : Option (Nat × (Nat → Int32))} {cal : Nat → List Value → sm_H → Nat → Option sm_R} {j n pc a : Nat} {lv : sm_L} {σ : sm_H} {u : Nat} {c : String} (hd : decode (sm_cc j) pc = .ok (.areturn, 1)) (hr : sm_rt j = some (.object c)) : sm_run X cal j (n + 1) (pc, lv, [.ref a], σ, u) = some (some (.ref a), σ, u) := by
  refine sx_end0 (k := 1) hd ?_
  have h8 : sm_end (sm_rt j) .areturn [.ref a] = some (some (.ref a)) := by
    unfold sm_end
    rw [hr]
  unfold sm_do
  simp [h8, show sm_ops .areturn [Value.ref a] = none from rfl, show sm_loc (sm_ml j) .areturn lv [Value.ref a] = none from rfl, show sm_br .areturn 1 pc [Value.ref a] = none from rfl, show sm_rd X (sm_ow j) .areturn [Value.ref a] σ = none from rfl, show sm_wr (sm_ow j) (sm_ini j) .areturn [Value.ref a] σ = none from rfl, show sm_mk (sm_ow j) .areturn [Value.ref a] σ u = none from rfl, show sm_na (sm_ow j) .areturn [Value.ref a] σ = none from rfl, show sm_cl (sm_ow j) .areturn [Value.ref a] σ = none from rfl]
theorem Bod.retO {d j pc a : Nat} {lv : sm_L} {S : cS} {c : String} (hd : decode (sm_cc j) pc = .ok (.areturn, 1)) (hr : sm_rt j = some (.object c)) : Bod d j pc lv [.ref a] S (some (.ref a)) S := Bod.ret (fun _ _ => sx_areturnO hd hr)
theorem sx_areturnN {X : Option (Nat × (Nat → Int32))} {cal : Nat → List Value → sm_H → Nat → Option sm_R} {j n pc : Nat} {lv : sm_L} {σ : sm_H} {u : Nat} {c : String} (hd : decode (sm_cc j) pc = .ok (.areturn, 1)) (hr : sm_rt j = some (.object c)) : sm_run X cal j (n + 1) (pc, lv, [.null], σ, u) = some (some .null, σ, u) := by
  refine sx_end0 (k := 1) hd ?_
  have h8 : sm_end (sm_rt j) .areturn [.null] = some (some .null) := by
    unfold sm_end
    rw [hr]
  unfold sm_do
  simp [h8, show sm_ops .areturn [Value.null] = none from rfl, show sm_loc (sm_ml j) .areturn lv [Value.null] = none from rfl, show sm_br .areturn 1 pc [Value.null] = none from rfl, show sm_rd X (sm_ow j) .areturn [Value.null] σ = none from rfl, show sm_wr (sm_ow j) (sm_ini j) .areturn [Value.null] σ = none from rfl, show sm_mk (sm_ow j) .areturn [Value.null] σ u = none from rfl, show sm_na (sm_ow j) .areturn [Value.null] σ = none from rfl, show sm_cl (sm_ow j) .areturn [Value.null] σ = none from rfl]
theorem Bod.retO0 {d j pc : Nat} {lv : sm_L} {S : cS} {c : String} (hd : decode (sm_cc j) pc = .ok (.areturn, 1)) (hr : sm_rt j = some (.object c)) : Bod d j pc lv [.null] S (some .null) S := Bod.ret (fun _ _ => sx_areturnN hd hr)
theorem rPu_1 {d : Nat} {S : cS} {kd : Int32} {xa : Int64} {xb : Int64} {t : Nat} (ht : sI S 6151 = nI t) (mt : t < 20481) (b1 : t < 20480) : Bod (d + 8) 352 0 [(0, .ref 61), (1, .int kd), (2, .long xa), (4, .long xb)] [] S none (wI 6151 (nI (t + 1)) (wL 93 t xb (wL 92 t xa (wA 91 t kd S)))) := by
  refine Bod.go dc_352_0 rfl ?_
  refine Bod.get dc_352_1 fr_352_496 (mk_61 _) rfl ?_
  refine Bod.go dc_352_4 rfl ?_
  refine Bod.get dc_352_5 fr_352_493 (mk_61 _) rfl ?_
  refine Bod.eqI (nI t) (by first | assumption | rfl | exact congrArg nI (by omega) | (simp (disch := omega) only [rI, rIe, rA, rIA, rLA, rJA, rVI, rQI, rVA, rQA, upd_at,  rAI, rLI, rJI, nI_add, pk_sub, kc_0, kc_1, kc_2, kc_3, kc_4, kc_5, reduceIte, Nat.reduceEqDiff, Nat.add_zero, rI_hold, rI_hold, rL_hold, ht]; done)) ?_
  refine Bod.go dc_352_8 rfl ?_
  refine Bod.iastN t rfl (by omega) (by omega) dc_352_9 (mk_91 _) (sa_91 _ _ _) (mu_A _ _ _ _) ?_
  refine Bod.go dc_352_10 rfl ?_
  refine Bod.get dc_352_11 fr_352_499 (mk_61 _) rfl ?_
  refine Bod.go dc_352_14 rfl ?_
  refine Bod.get dc_352_15 fr_352_493 (mk_61 _) rfl ?_
  refine Bod.eqI (nI t) (by first | assumption | (simp (disch := omega) only [rI, rIe, rA, rIA, rLA, rJA, rVI, rQI, rVA, rQA, upd_at,  rAI, rLI, rJI, nI_add, pk_sub, kc_0, kc_1, kc_2, kc_3, kc_4, kc_5, reduceIte, Nat.reduceEqDiff, Nat.add_zero, rI_hold, rI_hold, rL_hold, ht]; done) | (simp (disch := omega) only [rI, rIe, rA, rIA, rLA, rJA, rVI, rQI, rVA, rQA, upd_at,  rAI, rLI, rJI, nI_add, pk_sub, kc_0, kc_1, kc_2, kc_3, kc_4, kc_5, reduceIte, Nat.reduceEqDiff, Nat.add_zero, rI_hold, rI_hold, rL_hold, ht]; exact congrArg nI (by omega))) ?_
  refine Bod.go dc_352_18 rfl ?_
  refine Bod.lastN t rfl (by omega) (by omega) dc_352_19 (mk_92 _) (sa_92 _ _ _) (mu_L _ _ _ _) ?_
  refine Bod.go dc_352_20 rfl ?_
  refine Bod.get dc_352_21 fr_352_546 (mk_61 _) rfl ?_
  refine Bod.go dc_352_24 rfl ?_
  refine Bod.get dc_352_25 fr_352_493 (mk_61 _) rfl ?_
  refine Bod.eqI (nI t) (by first | assumption | (simp (disch := omega) only [rI, rIe, rA, rIA, rLA, rJA, rVI, rQI, rVA, rQA, upd_at,  rAI, rLI, rJI, nI_add, pk_sub, kc_0, kc_1, kc_2, kc_3, kc_4, kc_5, reduceIte, Nat.reduceEqDiff, Nat.add_zero, rI_hold, rI_hold, rL_hold, ht]; done) | (simp (disch := omega) only [rI, rIe, rA, rIA, rLA, rJA, rVI, rQI, rVA, rQA, upd_at,  rAI, rLI, rJI, nI_add, pk_sub, kc_0, kc_1, kc_2, kc_3, kc_4, kc_5, reduceIte, Nat.reduceEqDiff, Nat.add_zero, rI_hold, rI_hold, rL_hold, ht]; exact congrArg nI (by omega))) ?_
  refine Bod.go dc_352_28 rfl ?_
  refine Bod.lastN t rfl (by omega) (by omega) dc_352_30 (mk_93 _) (sa_93 _ _ _) (mu_L _ _ _ _) ?_
  refine Bod.go dc_352_31 rfl ?_
  refine Bod.go dc_352_32 rfl ?_
  refine Bod.get dc_352_33 fr_352_493 (mk_61 _) rfl ?_
  refine Bod.eqI (nI t) (by first | assumption | (simp (disch := omega) only [rI, rIe, rA, rIA, rLA, rJA, rVI, rQI, rVA, rQA, upd_at,  rAI, rLI, rJI, nI_add, pk_sub, kc_0, kc_1, kc_2, kc_3, kc_4, kc_5, reduceIte, Nat.reduceEqDiff, Nat.add_zero, rI_hold, rI_hold, rL_hold, ht]; done) | (simp (disch := omega) only [rI, rIe, rA, rIA, rLA, rJA, rVI, rQI, rVA, rQA, upd_at,  rAI, rLI, rJI, nI_add, pk_sub, kc_0, kc_1, kc_2, kc_3, kc_4, kc_5, reduceIte, Nat.reduceEqDiff, Nat.add_zero, rI_hold, rI_hold, rL_hold, ht]; exact congrArg nI (by omega))) ?_
  refine Bod.ic 1 (by decide) dc_352_36 ?_
  refine Bod.addN (t + 1) (by omega) dc_352_37 ?_
  refine Bod.put dc_352_38 fr_352_493 (mk_61 _) (Nat.le_of_ble_eq_true rfl) pf_14_51 (st_6151 _ _) (mu_I _ _ _) ?_
  exact Bod.retV dc_352_41 rt_352
theorem rPi_1 {d : Nat} {S : cS} {xa : Int64} {S1 : cS} (c1 : Ans (d + 8) 352 [.ref 61, .int (nI 1), .long xa, .long 0] S none S1) : Bod (d + 8) 353 0 [(0, .ref 61), (1, .long xa)] [] S none (S1) := by
  refine Bod.go dc_353_0 rfl ?_
  refine Bod.ic 1 (by decide) dc_353_1 ?_
  refine Bod.go dc_353_2 rfl ?_
  refine Bod.go dc_353_3 rfl ?_
  refine Bod.virt (r := []) dc_353_4 kr_353_549 ⟨Or.inl rfl, ow_352, cl_14⟩ (by rw [np_352]; rfl) (by rw [np_352]; rfl) (ob_of (mk_61 _)) (Nat.le_of_ble_eq_true rfl) (c1  ) ?_
  show Bod _ _ _ _ [] _ _ _
  exact Bod.retV dc_353_7 rt_353
theorem rFa_1 {d : Nat} {S : cS} {er : Nat} (mer : er < 2 ^ 20) : Bod (d + 8) 351 0 [(0, .ref 61), (1, .int (nI er))] [] S (some (.int 0)) (wI 6164 (nI er) S) := by
  refine Bod.go dc_351_0 rfl ?_
  refine Bod.go dc_351_1 rfl ?_
  refine Bod.put dc_351_2 fr_351_453 (mk_61 _) (Nat.le_of_ble_eq_true rfl) pf_14_64 (st_6164 _ _) (mu_I _ _ _) ?_
  refine Bod.ic 0 (by decide) dc_351_5 ?_
  exact Bod.retZ dc_351_6 rt_351 (Or.inl rfl)
theorem rEr_1 {d : Nat} {S : cS} {er : Nat} (mer : er < 2 ^ 20) : Bod (d + 8) 411 0 [(0, .ref 61), (1, .int (nI er))] [] S (some (.int (Int32.ofInt (-1)))) (wI 6164 (nI er) S) := by
  refine Bod.go dc_411_0 rfl ?_
  refine Bod.go dc_411_1 rfl ?_
  refine Bod.put dc_411_2 fr_411_453 (mk_61 _) (Nat.le_of_ble_eq_true rfl) pf_14_64 (st_6164 _ _) (mu_I _ _ _) ?_
  refine Bod.go dc_411_5 rfl ?_
  exact Bod.retI dc_411_6 rt_411
theorem rIt_1 {d : Nat} {S : cS} {k : Nat} {kd : Nat} {e91 : Nat} (mk : k < 2 ^ 20) (mkd : kd < 2 ^ 20) (b1 : k < 20480) (he91 : sA S 91 k = nI e91) (me91 : e91 < 2 ^ 20) (b2 : e91 ≠ 3) : Bod (d + 8) 363 0 [(0, .ref 61), (1, .int (nI k)), (2, .int (nI kd))] [] S (some (.int 0)) (S) := by
  refine Bod.go dc_363_0 rfl ?_
  refine Bod.get dc_363_1 fr_363_496 (mk_61 _) rfl ?_
  refine Bod.go dc_363_4 rfl ?_
  refine Bod.ialdN k rfl (by omega) (by omega) dc_363_5 (mk_91 _) ?_
  refine Bod.eqI (nI e91) (by first | assumption | rfl | exact congrArg nI (by omega) | (simp (disch := omega) only [rI, rIe, rA, rIA, rLA, rJA, rVI, rQI, rVA, rQA, upd_at,  rAI, rLI, rJI, nI_add, pk_sub, kc_0, kc_1, kc_2, kc_3, kc_4, kc_5, reduceIte, Nat.reduceEqDiff, Nat.add_zero, rI_hold, rI_hold, rL_hold, he91]; done)) ?_
  refine Bod.ic 3 (by decide) dc_363_6 ?_
  refine Bod.icT dc_363_7 rfl (k2_ne_T (k_ne e91 3 rfl rfl (by omega) (by omega) (by omega))) ?_
  refine Bod.ic 0 (by decide) dc_363_33 ?_
  exact Bod.retZ dc_363_34 rt_363 (Or.inl rfl)
theorem rIt_2 {d : Nat} {S : cS} {k : Nat} {kd : Nat} {e91 : Nat} {o : Nat} {g : Nat} {zg : Nat} {n0 : Nat} (mk : k < 2 ^ 20) (mkd : kd < 2 ^ 20) (b1 : k < 20480) (he91 : sA S 91 k = nI e91) (me91 : e91 < 2 ^ 20) (b2 : e91 = 3) (ho : (sL S 92 k).toInt32 = nI o) (mo : o < 1500) (ag : 108 ≤ g) (hq3 : sQ S 86 o = some g) (hz1 : (sS S)[g - 108]? = some (13, zg)) (hn0 : sI S (100 * g + 0) = nI n0) (mn0 : n0 < 2 ^ 20) (b3 : n0 ≠ kd) : Bod (d + 8) 363 0 [(0, .ref 61), (1, .int (nI k)), (2, .int (nI kd))] [] S (some (.int 0)) (S) := by
  refine Bod.go dc_363_0 rfl ?_
  refine Bod.get dc_363_1 fr_363_496 (mk_61 _) rfl ?_
  refine Bod.go dc_363_4 rfl ?_
  refine Bod.ialdN k rfl (by omega) (by omega) dc_363_5 (mk_91 _) ?_
  refine Bod.eqI (nI e91) (by first | assumption | rfl | exact congrArg nI (by omega) | (simp (disch := omega) only [rI, rIe, rA, rIA, rLA, rJA, rVI, rQI, rVA, rQA, upd_at,  rAI, rLI, rJI, nI_add, pk_sub, kc_0, kc_1, kc_2, kc_3, kc_4, kc_5, reduceIte, Nat.reduceEqDiff, Nat.add_zero, rI_hold, rI_hold, rL_hold, he91]; done)) ?_
  refine Bod.ic 3 (by decide) dc_363_6 ?_
  refine Bod.icF dc_363_7 rfl (k2_ne_F (k_eq e91 3 rfl rfl (by omega))) ?_
  refine Bod.go dc_363_10 rfl ?_
  refine Bod.get dc_363_11 fr_363_485 (mk_61 _) rfl ?_
  refine Bod.go dc_363_14 rfl ?_
  refine Bod.get dc_363_15 fr_363_499 (mk_61 _) rfl ?_
  refine Bod.go dc_363_18 rfl ?_
  refine Bod.laldN k rfl (by omega) (by omega) dc_363_19 (mk_92 _) ?_
  refine Bod.go dc_363_20 rfl ?_
  refine Bod.eqI (nI o) (by first | exact ho | (simp only [rI, rIe, rA, rIA, rLA, rJA, rVI, rQI, rVA, rQA, upd_at,  rAI, rLI, rJI, nI_add, pk_sub, kc_0, kc_1, kc_2, kc_3, kc_4, kc_5, reduceIte, Nat.reduceEqDiff, Nat.add_zero, rI_hold, rI_hold, rL_hold]; exact ho)) ?_
  refine Bod.aaldR (N := 1500) (b := g) o rfl (by omega) (by omega) hq3 dc_363_21 (mk_86 _) ht_5 ?_
  refine Bod.get dc_363_22 fr_363_531 (mk_thing ag (by first | exact hz1 | (simp only [rIS, rJS, rAS, rLS, rVS, rQS, rS_hold]; exact hz1))) rfl ?_
  refine Bod.eqI (nI n0) (by first | assumption | rfl | exact congrArg nI (by omega) | (simp (disch := omega) only [rI, rIe, rA, rIA, rLA, rJA, rVI, rQI, rVA, rQA, upd_at,  rAI, rLI, rJI, nI_add, pk_sub, kc_0, kc_1, kc_2, kc_3, kc_4, kc_5, reduceIte, Nat.reduceEqDiff, Nat.add_zero, rI_hold, rI_hold, rL_hold, he91, hn0]; done)) ?_
  refine Bod.go dc_363_25 rfl ?_
  refine Bod.icT dc_363_26 rfl (k2_ne_T (k_ne n0 kd rfl rfl (by omega) (by omega) (by omega))) ?_
  refine Bod.ic 0 (by decide) dc_363_33 ?_
  exact Bod.retZ dc_363_34 rt_363 (Or.inl rfl)
theorem rIt_3 {d : Nat} {S : cS} {k : Nat} {kd : Nat} {e91 : Nat} {o : Nat} {g : Nat} {zg : Nat} {n0 : Nat} (mk : k < 2 ^ 20) (mkd : kd < 2 ^ 20) (b1 : k < 20480) (he91 : sA S 91 k = nI e91) (me91 : e91 < 2 ^ 20) (b2 : e91 = 3) (ho : (sL S 92 k).toInt32 = nI o) (mo : o < 1500) (ag : 108 ≤ g) (hq3 : sQ S 86 o = some g) (hz1 : (sS S)[g - 108]? = some (13, zg)) (hn0 : sI S (100 * g + 0) = nI n0) (mn0 : n0 < 2 ^ 20) (b3 : n0 = kd) : Bod (d + 8) 363 0 [(0, .ref 61), (1, .int (nI k)), (2, .int (nI kd))] [] S (some (.int 1)) (S) := by
  refine Bod.go dc_363_0 rfl ?_
  refine Bod.get dc_363_1 fr_363_496 (mk_61 _) rfl ?_
  refine Bod.go dc_363_4 rfl ?_
  refine Bod.ialdN k rfl (by omega) (by omega) dc_363_5 (mk_91 _) ?_
  refine Bod.eqI (nI e91) (by first | assumption | rfl | exact congrArg nI (by omega) | (simp (disch := omega) only [rI, rIe, rA, rIA, rLA, rJA, rVI, rQI, rVA, rQA, upd_at,  rAI, rLI, rJI, nI_add, pk_sub, kc_0, kc_1, kc_2, kc_3, kc_4, kc_5, reduceIte, Nat.reduceEqDiff, Nat.add_zero, rI_hold, rI_hold, rL_hold, he91]; done)) ?_
  refine Bod.ic 3 (by decide) dc_363_6 ?_
  refine Bod.icF dc_363_7 rfl (k2_ne_F (k_eq e91 3 rfl rfl (by omega))) ?_
  refine Bod.go dc_363_10 rfl ?_
  refine Bod.get dc_363_11 fr_363_485 (mk_61 _) rfl ?_
  refine Bod.go dc_363_14 rfl ?_
  refine Bod.get dc_363_15 fr_363_499 (mk_61 _) rfl ?_
  refine Bod.go dc_363_18 rfl ?_
  refine Bod.laldN k rfl (by omega) (by omega) dc_363_19 (mk_92 _) ?_
  refine Bod.go dc_363_20 rfl ?_
  refine Bod.eqI (nI o) (by first | exact ho | (simp only [rI, rIe, rA, rIA, rLA, rJA, rVI, rQI, rVA, rQA, upd_at,  rAI, rLI, rJI, nI_add, pk_sub, kc_0, kc_1, kc_2, kc_3, kc_4, kc_5, reduceIte, Nat.reduceEqDiff, Nat.add_zero, rI_hold, rI_hold, rL_hold]; exact ho)) ?_
  refine Bod.aaldR (N := 1500) (b := g) o rfl (by omega) (by omega) hq3 dc_363_21 (mk_86 _) ht_5 ?_
  refine Bod.get dc_363_22 fr_363_531 (mk_thing ag (by first | exact hz1 | (simp only [rIS, rJS, rAS, rLS, rVS, rQS, rS_hold]; exact hz1))) rfl ?_
  refine Bod.eqI (nI n0) (by first | assumption | rfl | exact congrArg nI (by omega) | (simp (disch := omega) only [rI, rIe, rA, rIA, rLA, rJA, rVI, rQI, rVA, rQA, upd_at,  rAI, rLI, rJI, nI_add, pk_sub, kc_0, kc_1, kc_2, kc_3, kc_4, kc_5, reduceIte, Nat.reduceEqDiff, Nat.add_zero, rI_hold, rI_hold, rL_hold, he91, hn0]; done)) ?_
  refine Bod.go dc_363_25 rfl ?_
  refine Bod.icF dc_363_26 rfl (k2_ne_F (k_eq n0 kd rfl rfl (by omega))) ?_
  refine Bod.ic 1 (by decide) dc_363_29 ?_
  refine Bod.go dc_363_30 rfl ?_
  exact Bod.retZ dc_363_34 rt_363 (Or.inr rfl)
theorem rCy_1 {d : Nat} {S : cS} {k : Nat} {to : Nat} {e91 : Nat} (mk : k < 2 ^ 20) (mto : to < 2 ^ 20) (b1 : k < 20480) (he91 : sA S 91 k = nI e91) (me91 : e91 < 2 ^ 20) (b2 : to < 20480) : Bod (d + 8) 391 0 [(0, .ref 61), (1, .int (nI k)), (2, .int (nI to))] [] S none (wL 93 to (sL (wL 92 to (sL (wA 91 to (nI e91) S) 92 k) (wA 91 to (nI e91) S)) 93 k) (wL 92 to (sL (wA 91 to (nI e91) S) 92 k) (wA 91 to (nI e91) S))) := by
  refine Bod.go dc_391_0 rfl ?_
  refine Bod.get dc_391_1 fr_391_496 (mk_61 _) rfl ?_
  refine Bod.go dc_391_4 rfl ?_
  refine Bod.go dc_391_5 rfl ?_
  refine Bod.get dc_391_6 fr_391_496 (mk_61 _) rfl ?_
  refine Bod.go dc_391_9 rfl ?_
  refine Bod.ialdN k rfl (by omega) (by omega) dc_391_10 (mk_91 _) ?_
  refine Bod.eqI (nI e91) (by first | assumption | rfl | exact congrArg nI (by omega) | (simp (disch := omega) only [rI, rIe, rA, rIA, rLA, rJA, rVI, rQI, rVA, rQA, upd_at,  rAI, rLI, rJI, nI_add, pk_sub, kc_0, kc_1, kc_2, kc_3, kc_4, kc_5, reduceIte, Nat.reduceEqDiff, Nat.add_zero, rI_hold, rI_hold, rL_hold, he91]; done)) ?_
  refine Bod.iastN to rfl (by omega) (by omega) dc_391_11 (mk_91 _) (sa_91 _ _ _) (mu_A _ _ _ _) ?_
  refine Bod.go dc_391_12 rfl ?_
  refine Bod.get dc_391_13 fr_391_499 (mk_61 _) rfl ?_
  refine Bod.go dc_391_16 rfl ?_
  refine Bod.go dc_391_17 rfl ?_
  refine Bod.get dc_391_18 fr_391_499 (mk_61 _) rfl ?_
  refine Bod.go dc_391_21 rfl ?_
  refine Bod.laldN k rfl (by omega) (by omega) dc_391_22 (mk_92 _) ?_
  refine Bod.lastN to rfl (by omega) (by omega) dc_391_23 (mk_92 _) (sa_92 _ _ _) (mu_L _ _ _ _) ?_
  refine Bod.go dc_391_24 rfl ?_
  refine Bod.get dc_391_25 fr_391_546 (mk_61 _) rfl ?_
  refine Bod.go dc_391_28 rfl ?_
  refine Bod.go dc_391_29 rfl ?_
  refine Bod.get dc_391_30 fr_391_546 (mk_61 _) rfl ?_
  refine Bod.go dc_391_33 rfl ?_
  refine Bod.laldN k rfl (by omega) (by omega) dc_391_34 (mk_93 _) ?_
  refine Bod.lastN to rfl (by omega) (by omega) dc_391_35 (mk_93 _) (sa_93 _ _ _) (mu_L _ _ _ _) ?_
  exact Bod.retV dc_391_36 rt_391
theorem rIk_1 {d : Nat} {S : cS} {k : Nat} {e91 : Nat} (mk : k < 2 ^ 20) (b1 : k < 20480) (he91 : sA S 91 k = nI e91) (me91 : e91 < 2 ^ 20) (b2 : e91 = 1) : Bod (d + 8) 403 0 [(0, .ref 61), (1, .int (nI k))] [] S (some (.int 1)) (S) := by
  refine Bod.go dc_403_0 rfl ?_
  refine Bod.get dc_403_1 fr_403_496 (mk_61 _) rfl ?_
  refine Bod.go dc_403_4 rfl ?_
  refine Bod.ialdN k rfl (by omega) (by omega) dc_403_5 (mk_91 _) ?_
  refine Bod.eqI (nI e91) (by first | assumption | rfl | exact congrArg nI (by omega) | (simp (disch := omega) only [rI, rIe, rA, rIA, rLA, rJA, rVI, rQI, rVA, rQA, upd_at,  rAI, rLI, rJI, nI_add, pk_sub, kc_0, kc_1, kc_2, kc_3, kc_4, kc_5, reduceIte, Nat.reduceEqDiff, Nat.add_zero, rI_hold, rI_hold, rL_hold, he91]; done)) ?_
  refine Bod.ic 1 (by decide) dc_403_6 ?_
  refine Bod.icT dc_403_7 rfl (k2_eq_T (k_eq e91 1 rfl rfl (by omega))) ?_
  refine Bod.ic 1 (by decide) dc_403_20 ?_
  refine Bod.go dc_403_21 rfl ?_
  exact Bod.retZ dc_403_25 rt_403 (Or.inr rfl)
theorem rIk_2 {d : Nat} {S : cS} {k : Nat} {e91 : Nat} (mk : k < 2 ^ 20) (b1 : k < 20480) (he91 : sA S 91 k = nI e91) (me91 : e91 < 2 ^ 20) (b2 : e91 ≠ 1) (b3 : e91 ≠ 2) : Bod (d + 8) 403 0 [(0, .ref 61), (1, .int (nI k))] [] S (some (.int 0)) (S) := by
  refine Bod.go dc_403_0 rfl ?_
  refine Bod.get dc_403_1 fr_403_496 (mk_61 _) rfl ?_
  refine Bod.go dc_403_4 rfl ?_
  refine Bod.ialdN k rfl (by omega) (by omega) dc_403_5 (mk_91 _) ?_
  refine Bod.eqI (nI e91) (by first | assumption | rfl | exact congrArg nI (by omega) | (simp (disch := omega) only [rI, rIe, rA, rIA, rLA, rJA, rVI, rQI, rVA, rQA, upd_at,  rAI, rLI, rJI, nI_add, pk_sub, kc_0, kc_1, kc_2, kc_3, kc_4, kc_5, reduceIte, Nat.reduceEqDiff, Nat.add_zero, rI_hold, rI_hold, rL_hold, he91]; done)) ?_
  refine Bod.ic 1 (by decide) dc_403_6 ?_
  refine Bod.icF dc_403_7 rfl (k2_eq_F (k_ne e91 1 rfl rfl (by omega) (by omega) (by omega))) ?_
  refine Bod.go dc_403_10 rfl ?_
  refine Bod.get dc_403_11 fr_403_496 (mk_61 _) rfl ?_
  refine Bod.go dc_403_14 rfl ?_
  refine Bod.ialdN k rfl (by omega) (by omega) dc_403_15 (mk_91 _) ?_
  refine Bod.eqI (nI e91) (by first | assumption | rfl | exact congrArg nI (by omega) | (simp (disch := omega) only [rI, rIe, rA, rIA, rLA, rJA, rVI, rQI, rVA, rQA, upd_at,  rAI, rLI, rJI, nI_add, pk_sub, kc_0, kc_1, kc_2, kc_3, kc_4, kc_5, reduceIte, Nat.reduceEqDiff, Nat.add_zero, rI_hold, rI_hold, rL_hold, he91]; done)) ?_
  refine Bod.ic 2 (by decide) dc_403_16 ?_
  refine Bod.icT dc_403_17 rfl (k2_ne_T (k_ne e91 2 rfl rfl (by omega) (by omega) (by omega))) ?_
  refine Bod.ic 0 (by decide) dc_403_24 ?_
  exact Bod.retZ dc_403_25 rt_403 (Or.inl rfl)
theorem rIk_3 {d : Nat} {S : cS} {k : Nat} {e91 : Nat} (mk : k < 2 ^ 20) (b1 : k < 20480) (he91 : sA S 91 k = nI e91) (me91 : e91 < 2 ^ 20) (b2 : e91 ≠ 1) (b3 : e91 = 2) : Bod (d + 8) 403 0 [(0, .ref 61), (1, .int (nI k))] [] S (some (.int 1)) (S) := by
  refine Bod.go dc_403_0 rfl ?_
  refine Bod.get dc_403_1 fr_403_496 (mk_61 _) rfl ?_
  refine Bod.go dc_403_4 rfl ?_
  refine Bod.ialdN k rfl (by omega) (by omega) dc_403_5 (mk_91 _) ?_
  refine Bod.eqI (nI e91) (by first | assumption | rfl | exact congrArg nI (by omega) | (simp (disch := omega) only [rI, rIe, rA, rIA, rLA, rJA, rVI, rQI, rVA, rQA, upd_at,  rAI, rLI, rJI, nI_add, pk_sub, kc_0, kc_1, kc_2, kc_3, kc_4, kc_5, reduceIte, Nat.reduceEqDiff, Nat.add_zero, rI_hold, rI_hold, rL_hold, he91]; done)) ?_
  refine Bod.ic 1 (by decide) dc_403_6 ?_
  refine Bod.icF dc_403_7 rfl (k2_eq_F (k_ne e91 1 rfl rfl (by omega) (by omega) (by omega))) ?_
  refine Bod.go dc_403_10 rfl ?_
  refine Bod.get dc_403_11 fr_403_496 (mk_61 _) rfl ?_
  refine Bod.go dc_403_14 rfl ?_
  refine Bod.ialdN k rfl (by omega) (by omega) dc_403_15 (mk_91 _) ?_
  refine Bod.eqI (nI e91) (by first | assumption | rfl | exact congrArg nI (by omega) | (simp (disch := omega) only [rI, rIe, rA, rIA, rLA, rJA, rVI, rQI, rVA, rQA, upd_at,  rAI, rLI, rJI, nI_add, pk_sub, kc_0, kc_1, kc_2, kc_3, kc_4, kc_5, reduceIte, Nat.reduceEqDiff, Nat.add_zero, rI_hold, rI_hold, rL_hold, he91]; done)) ?_
  refine Bod.ic 2 (by decide) dc_403_16 ?_
  refine Bod.icF dc_403_17 rfl (k2_ne_F (k_eq e91 2 rfl rfl (by omega))) ?_
  refine Bod.ic 1 (by decide) dc_403_20 ?_
  refine Bod.go dc_403_21 rfl ?_
  exact Bod.retZ dc_403_25 rt_403 (Or.inr rfl)
theorem rTa_1 {d : Nat} {S : cS} {k : Nat} {e91 : Nat} (mk : k < 2 ^ 20) (b1 : k < 20480) (he91 : sA S 91 k = nI e91) (me91 : e91 < 2 ^ 20) (b2 : e91 ≠ 3) : Bod (d + 8) 361 0 [(0, .ref 61), (1, .int (nI k))] [] S (some (.null)) (S) := by
  refine Bod.go dc_361_0 rfl ?_
  refine Bod.get dc_361_1 fr_361_496 (mk_61 _) rfl ?_
  refine Bod.go dc_361_4 rfl ?_
  refine Bod.ialdN k rfl (by omega) (by omega) dc_361_5 (mk_91 _) ?_
  refine Bod.eqI (nI e91) (by first | assumption | rfl | exact congrArg nI (by omega) | (simp (disch := omega) only [rI, rIe, rA, rIA, rLA, rJA, rVI, rQI, rVA, rQA, upd_at,  rAI, rLI, rJI, nI_add, pk_sub, kc_0, kc_1, kc_2, kc_3, kc_4, kc_5, reduceIte, Nat.reduceEqDiff, Nat.add_zero, rI_hold, rI_hold, rL_hold, he91]; done)) ?_
  refine Bod.ic 3 (by decide) dc_361_6 ?_
  refine Bod.icT dc_361_7 rfl (k2_ne_T (k_ne e91 3 rfl rfl (by omega) (by omega) (by omega))) ?_
  refine Bod.go dc_361_25 rfl ?_
  exact Bod.retO0 dc_361_26 (show sm_rt 361 = some (.object "SnakeCoreModel$Thing") by decide +kernel)
theorem rTa_2 {d : Nat} {S : cS} {k : Nat} {e91 : Nat} {o : Nat} {g : Nat} {zg : Nat} (mk : k < 2 ^ 20) (b1 : k < 20480) (he91 : sA S 91 k = nI e91) (me91 : e91 < 2 ^ 20) (b2 : e91 = 3) (ho : (sL S 92 k).toInt32 = nI o) (mo : o < 1500) (ag : 108 ≤ g) (hq3 : sQ S 86 o = some g) : Bod (d + 8) 361 0 [(0, .ref 61), (1, .int (nI k))] [] S (some (.ref g)) (S) := by
  refine Bod.go dc_361_0 rfl ?_
  refine Bod.get dc_361_1 fr_361_496 (mk_61 _) rfl ?_
  refine Bod.go dc_361_4 rfl ?_
  refine Bod.ialdN k rfl (by omega) (by omega) dc_361_5 (mk_91 _) ?_
  refine Bod.eqI (nI e91) (by first | assumption | rfl | exact congrArg nI (by omega) | (simp (disch := omega) only [rI, rIe, rA, rIA, rLA, rJA, rVI, rQI, rVA, rQA, upd_at,  rAI, rLI, rJI, nI_add, pk_sub, kc_0, kc_1, kc_2, kc_3, kc_4, kc_5, reduceIte, Nat.reduceEqDiff, Nat.add_zero, rI_hold, rI_hold, rL_hold, he91]; done)) ?_
  refine Bod.ic 3 (by decide) dc_361_6 ?_
  refine Bod.icF dc_361_7 rfl (k2_ne_F (k_eq e91 3 rfl rfl (by omega))) ?_
  refine Bod.go dc_361_10 rfl ?_
  refine Bod.get dc_361_11 fr_361_485 (mk_61 _) rfl ?_
  refine Bod.go dc_361_14 rfl ?_
  refine Bod.get dc_361_15 fr_361_499 (mk_61 _) rfl ?_
  refine Bod.go dc_361_18 rfl ?_
  refine Bod.laldN k rfl (by omega) (by omega) dc_361_19 (mk_92 _) ?_
  refine Bod.go dc_361_20 rfl ?_
  refine Bod.eqI (nI o) (by first | exact ho | (simp only [rI, rIe, rA, rIA, rLA, rJA, rVI, rQI, rVA, rQA, upd_at,  rAI, rLI, rJI, nI_add, pk_sub, kc_0, kc_1, kc_2, kc_3, kc_4, kc_5, reduceIte, Nat.reduceEqDiff, Nat.add_zero, rI_hold, rI_hold, rL_hold]; exact ho)) ?_
  refine Bod.aaldR (N := 1500) (b := g) o rfl (by omega) (by omega) hq3 dc_361_21 (mk_86 _) ht_5 ?_
  refine Bod.go dc_361_22 rfl ?_
  exact Bod.retO dc_361_26 (show sm_rt 361 = some (.object "SnakeCoreModel$Thing") by decide +kernel)
theorem xsw_350_31 : ∀ b, b < 64 → (b = 0 ∨ b = 1 ∨ b = 2 ∨ b = 3 ∨ b = 4 ∨ b = 5 ∨ b = 6 ∨ b = 7 ∨ b = 11 ∨ b = 12 ∨ b = 13 ∨ b = 14 ∨ b = 17 ∨ b = 32 ∨ b = 34 ∨ b = 40 ∨ b = 42 ∨ sm_br (.tableswitch (735) 0 42 #[185, 257, 275, 305, 351, 351, 351, 351, 735, 735, 735, 382, 399, 443, 443, 735, 735, 716, 735, 735, 735, 735, 735, 735, 735, 735, 735, 735, 735, 735, 735, 735, 518, 735, 632, 735, 735, 735, 735, 735, 694, 735, 235]) 185 31 [.int (nI b)] = some (766, [])) := by decide +kernel
theorem rOn_1 {d : Nat} {S : cS} {cl : Nat} {e95 : Nat} {m : Nat} {zm : Nat} {r : Nat} {N : Nat} {e : Nat} {e1 : Nat} {S1 : cS} (hcl : sI S 6159 = nI cl) (mcl : cl < 32) (b1 : 1 ≤ cl) (he95 : sA S 95 (cl - 1) = nI e95) (me95 : e95 < 2 ^ 20) (am : 108 ≤ m) (hq2 : sQ S 94 (cl - 1) = some m) (hz1 : (sS S)[m - 108]? = some (12, zm)) (hv1 : sV S (100 * m + 0) = .ref r) (hg1 : isK S r 0 N) (mN : N < 2 ^ 20) (b2 : e95 < N) (he : sA S r e95 = nI e) (me : e < 2 ^ 20) (sw15 : e = 0) (b3 : (e95 + 1) < N) (he1 : sA (wA 95 (cl - 1) (nI (e95 + 2)) S) r (e95 + 1) = nI e1) (me1 : e1 < 2 ^ 20) (w19 : sI (wA 98 (cl - 1) (nI e1) (wA 95 (cl - 1) (nI (e95 + 2)) S)) 6166 = sI (wA 98 (cl - 1) (nI e1) (wA 95 (cl - 1) (nI (e95 + 2)) S)) 6165) (c1 : Ans (d + 8) 351 [.ref 61, .int (nI 100)] (wA 98 (cl - 1) (nI e1) (wA 95 (cl - 1) (nI (e95 + 2)) S)) (some (.int (nI 0))) S1) : Bod (d + 8) 350 0 [(0, .ref 61)] [] S (some (.int 0)) (S1) := by
  refine Bod.go dc_350_0 rfl ?_
  refine Bod.get dc_350_1 fr_350_502 (mk_61 _) rfl ?_
  refine Bod.eqI (nI cl) (by first | assumption | rfl | exact congrArg nI (by omega) | (simp (disch := omega) only [rI, rIe, rA, rIA, rLA, rJA, rVI, rQI, rVA, rQA, upd_at,  rAI, rLI, rJI, nI_add, pk_sub, kc_0, kc_1, kc_2, kc_3, kc_4, kc_5, reduceIte, Nat.reduceEqDiff, Nat.add_zero, rI_hold, rI_hold, rL_hold, hcl]; done)) ?_
  refine Bod.ic 1 (by decide) dc_350_4 ?_
  refine Bod.subN (cl - 1) (by omega) (by omega) dc_350_5 ?_
  refine Bod.istn dc_350_6 (by rw [ml_350]; exact Nat.le_of_ble_eq_true rfl) ?_
  refine Bod.go dc_350_7 rfl ?_
  refine Bod.get dc_350_8 fr_350_572 (mk_61 _) rfl ?_
  refine Bod.go dc_350_11 rfl ?_
  refine Bod.ialdN (cl - 1) rfl (by omega) (by omega) dc_350_12 (mk_95 _) ?_
  refine Bod.eqI (nI e95) (by first | assumption | rfl | exact congrArg nI (by omega) | (simp (disch := omega) only [rI, rIe, rA, rIA, rLA, rJA, rVI, rQI, rVA, rQA, upd_at,  rAI, rLI, rJI, nI_add, pk_sub, kc_0, kc_1, kc_2, kc_3, kc_4, kc_5, reduceIte, Nat.reduceEqDiff, Nat.add_zero, rI_hold, rI_hold, rL_hold, hcl, he95]; done)) ?_
  refine Bod.istn dc_350_13 (by rw [ml_350]; exact Nat.le_of_ble_eq_true rfl) ?_
  refine Bod.go dc_350_14 rfl ?_
  refine Bod.get dc_350_15 fr_350_568 (mk_61 _) rfl ?_
  refine Bod.go dc_350_18 rfl ?_
  refine Bod.aaldR (N := 31) (b := m) (cl - 1) rfl (by omega) (by omega) hq2 dc_350_19 (mk_94 _) ht_6 ?_
  refine Bod.get dc_350_20 fr_350_222 (mk_code am (by first | exact hz1 | (simp only [rIS, rJS, rAS, rLS, rVS, rQS, rS_hold]; exact hz1))) rfl ?_
  refine Bod.eqV (.ref r) (by first | exact hv1 | (simp only [rIV, rJV, rAV, rLV, rQV, rV, reduceIte, Nat.reduceEqDiff]; exact hv1)) ?_
  refine Bod.astn dc_350_23 (by rw [ml_350]; exact Nat.le_of_ble_eq_true rfl) ?_
  refine Bod.go dc_350_24 rfl ?_
  refine Bod.go dc_350_25 rfl ?_
  refine Bod.ialdN (N := N) e95 rfl (by omega) (by omega) dc_350_26 (mk_isI (by first | exact hg1 | exact isK_S (by simp only [rIS, rJS, rAS, rLS, rVS, rQS, rS_hold]) hg1)) ?_
  refine Bod.eqI (nI e) (by first | assumption | rfl | exact congrArg nI (by omega) | (simp (disch := omega) only [rI, rIe, rA, rIA, rLA, rJA, rVI, rQI, rVA, rQA, upd_at,  rAI, rLI, rJI, nI_add, pk_sub, kc_0, kc_1, kc_2, kc_3, kc_4, kc_5, reduceIte, Nat.reduceEqDiff, Nat.add_zero, rI_hold, rI_hold, rL_hold, hcl, he95, he]; done)) ?_
  refine Bod.ist dc_350_27 (by rw [ml_350]; exact Nat.le_of_ble_eq_true rfl) ?_
  refine Bod.go dc_350_29 rfl ?_
  refine Bod.sw (t := 216) dc_350_31 rfl rfl (by rw [sw15]; decide +kernel) ?_
  refine Bod.go dc_350_216 rfl ?_
  refine Bod.get dc_350_217 fr_350_572 (mk_61 _) rfl ?_
  refine Bod.go dc_350_220 rfl ?_
  refine Bod.go dc_350_221 rfl ?_
  refine Bod.ic 2 (by decide) dc_350_222 ?_
  refine Bod.addN (e95 + 2) (by omega) dc_350_223 ?_
  refine Bod.iastN (cl - 1) rfl (by omega) (by omega) dc_350_224 (mk_95 _) (sa_95 _ _ _) (mu_A _ _ _ _) ?_
  refine Bod.go dc_350_225 rfl ?_
  refine Bod.get dc_350_226 fr_350_578 (mk_61 _) rfl ?_
  refine Bod.go dc_350_229 rfl ?_
  refine Bod.go dc_350_230 rfl ?_
  refine Bod.go dc_350_231 rfl ?_
  refine Bod.ic 1 (by decide) dc_350_232 ?_
  refine Bod.addN (e95 + 1) (by omega) dc_350_233 ?_
  refine Bod.ialdN (N := N) (e95 + 1) rfl (by omega) (by omega) dc_350_234 (mk_isI (by first | exact hg1 | exact isK_S (by simp only [rIS, rJS, rAS, rLS, rVS, rQS, rS_hold]) hg1)) ?_
  refine Bod.eqI (nI e1) (by first | assumption | (simp (disch := omega) only [rI, rIe, rA, rIA, rLA, rJA, rVI, rQI, rVA, rQA, upd_at,  rAI, rLI, rJI, nI_add, pk_sub, kc_0, kc_1, kc_2, kc_3, kc_4, kc_5, reduceIte, Nat.reduceEqDiff, Nat.add_zero, rI_hold, rI_hold, rL_hold, hcl, he95, he, he1]; done) | (simp (disch := omega) only [rI, rIe, rA, rIA, rLA, rJA, rVI, rQI, rVA, rQA, upd_at,  rAI, rLI, rJI, nI_add, pk_sub, kc_0, kc_1, kc_2, kc_3, kc_4, kc_5, reduceIte, Nat.reduceEqDiff, Nat.add_zero, rI_hold, rI_hold, rL_hold, hcl, he95, he, he1]; exact congrArg nI (by omega))) ?_
  refine Bod.iastN (cl - 1) rfl (by omega) (by omega) dc_350_235 (mk_98 _) (sa_98 _ _ _) (mu_A _ _ _ _) ?_
  refine Bod.go dc_350_236 rfl ?_
  refine Bod.get dc_350_237 fr_350_561 (mk_61 _) rfl ?_
  refine Bod.go dc_350_240 rfl ?_
  refine Bod.get dc_350_241 fr_350_605 (mk_61 _) rfl ?_
  refine Bod.icF dc_350_244 rfl (c2_ne_F w19) ?_
  refine Bod.go dc_350_247 rfl ?_
  refine Bod.bip 100 (by decide) dc_350_248 ?_
  refine Bod.virt (r := []) dc_350_250 kr_350_608 ⟨Or.inl rfl, ow_351, cl_14⟩ (by rw [np_351]; rfl) (by rw [np_351]; rfl) (ob_of (mk_61 _)) (Nat.le_of_ble_eq_true rfl) (c1  ) ?_
  show Bod _ _ _ _ [_] _ _ _
  exact Bod.retZ dc_350_253 rt_350 (Or.inl rfl)
theorem rOn_2 {d : Nat} {S : cS} {cl : Nat} {e95 : Nat} {m : Nat} {zm : Nat} {r : Nat} {N : Nat} {e : Nat} {e1 : Nat} (hcl : sI S 6159 = nI cl) (mcl : cl < 32) (b1 : 1 ≤ cl) (he95 : sA S 95 (cl - 1) = nI e95) (me95 : e95 < 2 ^ 20) (am : 108 ≤ m) (hq2 : sQ S 94 (cl - 1) = some m) (hz1 : (sS S)[m - 108]? = some (12, zm)) (hv1 : sV S (100 * m + 0) = .ref r) (hg1 : isK S r 0 N) (mN : N < 2 ^ 20) (b2 : e95 < N) (he : sA S r e95 = nI e) (me : e < 2 ^ 20) (sw15 : e = 0) (b3 : (e95 + 1) < N) (he1 : sA (wA 95 (cl - 1) (nI (e95 + 2)) S) r (e95 + 1) = nI e1) (me1 : e1 < 2 ^ 20) (w19 : sI (wA 98 (cl - 1) (nI e1) (wA 95 (cl - 1) (nI (e95 + 2)) S)) 6166 ≠ sI (wA 98 (cl - 1) (nI e1) (wA 95 (cl - 1) (nI (e95 + 2)) S)) 6165) : Bod (d + 8) 350 0 [(0, .ref 61)] [] S (some (.int 1)) (wI 6166 ((sI (wA 98 (cl - 1) (nI e1) (wA 95 (cl - 1) (nI (e95 + 2)) S)) 6166) + (nI 1)) (wA 98 (cl - 1) (nI e1) (wA 95 (cl - 1) (nI (e95 + 2)) S))) := by
  refine Bod.go dc_350_0 rfl ?_
  refine Bod.get dc_350_1 fr_350_502 (mk_61 _) rfl ?_
  refine Bod.eqI (nI cl) (by first | assumption | rfl | exact congrArg nI (by omega) | (simp (disch := omega) only [rI, rIe, rA, rIA, rLA, rJA, rVI, rQI, rVA, rQA, upd_at,  rAI, rLI, rJI, nI_add, pk_sub, kc_0, kc_1, kc_2, kc_3, kc_4, kc_5, reduceIte, Nat.reduceEqDiff, Nat.add_zero, rI_hold, rI_hold, rL_hold, hcl]; done)) ?_
  refine Bod.ic 1 (by decide) dc_350_4 ?_
  refine Bod.subN (cl - 1) (by omega) (by omega) dc_350_5 ?_
  refine Bod.istn dc_350_6 (by rw [ml_350]; exact Nat.le_of_ble_eq_true rfl) ?_
  refine Bod.go dc_350_7 rfl ?_
  refine Bod.get dc_350_8 fr_350_572 (mk_61 _) rfl ?_
  refine Bod.go dc_350_11 rfl ?_
  refine Bod.ialdN (cl - 1) rfl (by omega) (by omega) dc_350_12 (mk_95 _) ?_
  refine Bod.eqI (nI e95) (by first | assumption | rfl | exact congrArg nI (by omega) | (simp (disch := omega) only [rI, rIe, rA, rIA, rLA, rJA, rVI, rQI, rVA, rQA, upd_at,  rAI, rLI, rJI, nI_add, pk_sub, kc_0, kc_1, kc_2, kc_3, kc_4, kc_5, reduceIte, Nat.reduceEqDiff, Nat.add_zero, rI_hold, rI_hold, rL_hold, hcl, he95]; done)) ?_
  refine Bod.istn dc_350_13 (by rw [ml_350]; exact Nat.le_of_ble_eq_true rfl) ?_
  refine Bod.go dc_350_14 rfl ?_
  refine Bod.get dc_350_15 fr_350_568 (mk_61 _) rfl ?_
  refine Bod.go dc_350_18 rfl ?_
  refine Bod.aaldR (N := 31) (b := m) (cl - 1) rfl (by omega) (by omega) hq2 dc_350_19 (mk_94 _) ht_6 ?_
  refine Bod.get dc_350_20 fr_350_222 (mk_code am (by first | exact hz1 | (simp only [rIS, rJS, rAS, rLS, rVS, rQS, rS_hold]; exact hz1))) rfl ?_
  refine Bod.eqV (.ref r) (by first | exact hv1 | (simp only [rIV, rJV, rAV, rLV, rQV, rV, reduceIte, Nat.reduceEqDiff]; exact hv1)) ?_
  refine Bod.astn dc_350_23 (by rw [ml_350]; exact Nat.le_of_ble_eq_true rfl) ?_
  refine Bod.go dc_350_24 rfl ?_
  refine Bod.go dc_350_25 rfl ?_
  refine Bod.ialdN (N := N) e95 rfl (by omega) (by omega) dc_350_26 (mk_isI (by first | exact hg1 | exact isK_S (by simp only [rIS, rJS, rAS, rLS, rVS, rQS, rS_hold]) hg1)) ?_
  refine Bod.eqI (nI e) (by first | assumption | rfl | exact congrArg nI (by omega) | (simp (disch := omega) only [rI, rIe, rA, rIA, rLA, rJA, rVI, rQI, rVA, rQA, upd_at,  rAI, rLI, rJI, nI_add, pk_sub, kc_0, kc_1, kc_2, kc_3, kc_4, kc_5, reduceIte, Nat.reduceEqDiff, Nat.add_zero, rI_hold, rI_hold, rL_hold, hcl, he95, he]; done)) ?_
  refine Bod.ist dc_350_27 (by rw [ml_350]; exact Nat.le_of_ble_eq_true rfl) ?_
  refine Bod.go dc_350_29 rfl ?_
  refine Bod.sw (t := 216) dc_350_31 rfl rfl (by rw [sw15]; decide +kernel) ?_
  refine Bod.go dc_350_216 rfl ?_
  refine Bod.get dc_350_217 fr_350_572 (mk_61 _) rfl ?_
  refine Bod.go dc_350_220 rfl ?_
  refine Bod.go dc_350_221 rfl ?_
  refine Bod.ic 2 (by decide) dc_350_222 ?_
  refine Bod.addN (e95 + 2) (by omega) dc_350_223 ?_
  refine Bod.iastN (cl - 1) rfl (by omega) (by omega) dc_350_224 (mk_95 _) (sa_95 _ _ _) (mu_A _ _ _ _) ?_
  refine Bod.go dc_350_225 rfl ?_
  refine Bod.get dc_350_226 fr_350_578 (mk_61 _) rfl ?_
  refine Bod.go dc_350_229 rfl ?_
  refine Bod.go dc_350_230 rfl ?_
  refine Bod.go dc_350_231 rfl ?_
  refine Bod.ic 1 (by decide) dc_350_232 ?_
  refine Bod.addN (e95 + 1) (by omega) dc_350_233 ?_
  refine Bod.ialdN (N := N) (e95 + 1) rfl (by omega) (by omega) dc_350_234 (mk_isI (by first | exact hg1 | exact isK_S (by simp only [rIS, rJS, rAS, rLS, rVS, rQS, rS_hold]) hg1)) ?_
  refine Bod.eqI (nI e1) (by first | assumption | (simp (disch := omega) only [rI, rIe, rA, rIA, rLA, rJA, rVI, rQI, rVA, rQA, upd_at,  rAI, rLI, rJI, nI_add, pk_sub, kc_0, kc_1, kc_2, kc_3, kc_4, kc_5, reduceIte, Nat.reduceEqDiff, Nat.add_zero, rI_hold, rI_hold, rL_hold, hcl, he95, he, he1]; done) | (simp (disch := omega) only [rI, rIe, rA, rIA, rLA, rJA, rVI, rQI, rVA, rQA, upd_at,  rAI, rLI, rJI, nI_add, pk_sub, kc_0, kc_1, kc_2, kc_3, kc_4, kc_5, reduceIte, Nat.reduceEqDiff, Nat.add_zero, rI_hold, rI_hold, rL_hold, hcl, he95, he, he1]; exact congrArg nI (by omega))) ?_
  refine Bod.iastN (cl - 1) rfl (by omega) (by omega) dc_350_235 (mk_98 _) (sa_98 _ _ _) (mu_A _ _ _ _) ?_
  refine Bod.go dc_350_236 rfl ?_
  refine Bod.get dc_350_237 fr_350_561 (mk_61 _) rfl ?_
  refine Bod.go dc_350_240 rfl ?_
  refine Bod.get dc_350_241 fr_350_605 (mk_61 _) rfl ?_
  refine Bod.icT dc_350_244 rfl (c2_ne_T w19) ?_
  refine Bod.go dc_350_254 rfl ?_
  refine Bod.go dc_350_255 rfl ?_
  refine Bod.get dc_350_256 fr_350_561 (mk_61 _) rfl ?_
  refine Bod.ic 1 (by decide) dc_350_259 ?_
  refine Bod.go dc_350_260 rfl ?_
  refine Bod.put dc_350_261 fr_350_561 (mk_61 _) (Nat.le_of_ble_eq_true rfl) pf_14_66 (st_6166 _ _) (mu_I _ _ _) ?_
  refine Bod.ic 1 (by decide) dc_350_264 ?_
  exact Bod.retZ dc_350_265 rt_350 (Or.inr rfl)
theorem rOn_3 {d : Nat} {S : cS} {cl : Nat} {e95 : Nat} {m : Nat} {zm : Nat} {r : Nat} {N : Nat} {e : Nat} {S1 : cS} (hcl : sI S 6159 = nI cl) (mcl : cl < 32) (b1 : 1 ≤ cl) (he95 : sA S 95 (cl - 1) = nI e95) (me95 : e95 < 2 ^ 20) (am : 108 ≤ m) (hq2 : sQ S 94 (cl - 1) = some m) (hz1 : (sS S)[m - 108]? = some (12, zm)) (hv1 : sV S (100 * m + 0) = .ref r) (hg1 : isK S r 0 N) (mN : N < 2 ^ 20) (b2 : e95 < N) (he : sA S r e95 = nI e) (me : e < 2 ^ 20) (sw15 : e = 1) (c1 : Ans (d + 8) 352 [.ref 61, .int (nI 0), .long 0, .long 0] (wA 95 (cl - 1) (nI (e95 + 1)) S) none S1) : Bod (d + 8) 350 0 [(0, .ref 61)] [] S (some (.int 1)) (S1) := by
  refine Bod.go dc_350_0 rfl ?_
  refine Bod.get dc_350_1 fr_350_502 (mk_61 _) rfl ?_
  refine Bod.eqI (nI cl) (by first | assumption | rfl | exact congrArg nI (by omega) | (simp (disch := omega) only [rI, rIe, rA, rIA, rLA, rJA, rVI, rQI, rVA, rQA, upd_at,  rAI, rLI, rJI, nI_add, pk_sub, kc_0, kc_1, kc_2, kc_3, kc_4, kc_5, reduceIte, Nat.reduceEqDiff, Nat.add_zero, rI_hold, rI_hold, rL_hold, hcl]; done)) ?_
  refine Bod.ic 1 (by decide) dc_350_4 ?_
  refine Bod.subN (cl - 1) (by omega) (by omega) dc_350_5 ?_
  refine Bod.istn dc_350_6 (by rw [ml_350]; exact Nat.le_of_ble_eq_true rfl) ?_
  refine Bod.go dc_350_7 rfl ?_
  refine Bod.get dc_350_8 fr_350_572 (mk_61 _) rfl ?_
  refine Bod.go dc_350_11 rfl ?_
  refine Bod.ialdN (cl - 1) rfl (by omega) (by omega) dc_350_12 (mk_95 _) ?_
  refine Bod.eqI (nI e95) (by first | assumption | rfl | exact congrArg nI (by omega) | (simp (disch := omega) only [rI, rIe, rA, rIA, rLA, rJA, rVI, rQI, rVA, rQA, upd_at,  rAI, rLI, rJI, nI_add, pk_sub, kc_0, kc_1, kc_2, kc_3, kc_4, kc_5, reduceIte, Nat.reduceEqDiff, Nat.add_zero, rI_hold, rI_hold, rL_hold, hcl, he95]; done)) ?_
  refine Bod.istn dc_350_13 (by rw [ml_350]; exact Nat.le_of_ble_eq_true rfl) ?_
  refine Bod.go dc_350_14 rfl ?_
  refine Bod.get dc_350_15 fr_350_568 (mk_61 _) rfl ?_
  refine Bod.go dc_350_18 rfl ?_
  refine Bod.aaldR (N := 31) (b := m) (cl - 1) rfl (by omega) (by omega) hq2 dc_350_19 (mk_94 _) ht_6 ?_
  refine Bod.get dc_350_20 fr_350_222 (mk_code am (by first | exact hz1 | (simp only [rIS, rJS, rAS, rLS, rVS, rQS, rS_hold]; exact hz1))) rfl ?_
  refine Bod.eqV (.ref r) (by first | exact hv1 | (simp only [rIV, rJV, rAV, rLV, rQV, rV, reduceIte, Nat.reduceEqDiff]; exact hv1)) ?_
  refine Bod.astn dc_350_23 (by rw [ml_350]; exact Nat.le_of_ble_eq_true rfl) ?_
  refine Bod.go dc_350_24 rfl ?_
  refine Bod.go dc_350_25 rfl ?_
  refine Bod.ialdN (N := N) e95 rfl (by omega) (by omega) dc_350_26 (mk_isI (by first | exact hg1 | exact isK_S (by simp only [rIS, rJS, rAS, rLS, rVS, rQS, rS_hold]) hg1)) ?_
  refine Bod.eqI (nI e) (by first | assumption | rfl | exact congrArg nI (by omega) | (simp (disch := omega) only [rI, rIe, rA, rIA, rLA, rJA, rVI, rQI, rVA, rQA, upd_at,  rAI, rLI, rJI, nI_add, pk_sub, kc_0, kc_1, kc_2, kc_3, kc_4, kc_5, reduceIte, Nat.reduceEqDiff, Nat.add_zero, rI_hold, rI_hold, rL_hold, hcl, he95, he]; done)) ?_
  refine Bod.ist dc_350_27 (by rw [ml_350]; exact Nat.le_of_ble_eq_true rfl) ?_
  refine Bod.go dc_350_29 rfl ?_
  refine Bod.sw (t := 288) dc_350_31 rfl rfl (by rw [sw15]; decide +kernel) ?_
  refine Bod.go dc_350_288 rfl ?_
  refine Bod.get dc_350_289 fr_350_572 (mk_61 _) rfl ?_
  refine Bod.go dc_350_292 rfl ?_
  refine Bod.go dc_350_293 rfl ?_
  refine Bod.ic 1 (by decide) dc_350_294 ?_
  refine Bod.addN (e95 + 1) (by omega) dc_350_295 ?_
  refine Bod.iastN (cl - 1) rfl (by omega) (by omega) dc_350_296 (mk_95 _) (sa_95 _ _ _) (mu_A _ _ _ _) ?_
  refine Bod.go dc_350_297 rfl ?_
  refine Bod.ic 0 (by decide) dc_350_298 ?_
  refine Bod.go dc_350_299 rfl ?_
  refine Bod.go dc_350_300 rfl ?_
  refine Bod.virt (r := []) dc_350_301 kr_350_549 ⟨Or.inl rfl, ow_352, cl_14⟩ (by rw [np_352]; rfl) (by rw [np_352]; rfl) (ob_of (mk_61 _)) (Nat.le_of_ble_eq_true rfl) (c1  ) ?_
  show Bod _ _ _ _ [] _ _ _
  refine Bod.ic 1 (by decide) dc_350_304 ?_
  exact Bod.retZ dc_350_305 rt_350 (Or.inr rfl)
theorem rOn_4 {d : Nat} {S : cS} {cl : Nat} {e95 : Nat} {m : Nat} {zm : Nat} {r : Nat} {N : Nat} {e : Nat} {r1 : Nat} {N1 : Nat} {e1 : Nat} {S1 : cS} (hcl : sI S 6159 = nI cl) (mcl : cl < 32) (b1 : 1 ≤ cl) (he95 : sA S 95 (cl - 1) = nI e95) (me95 : e95 < 2 ^ 20) (am : 108 ≤ m) (hq2 : sQ S 94 (cl - 1) = some m) (hz1 : (sS S)[m - 108]? = some (12, zm)) (hv1 : sV S (100 * m + 0) = .ref r) (hg1 : isK S r 0 N) (mN : N < 2 ^ 20) (b2 : e95 < N) (he : sA S r e95 = nI e) (me : e < 2 ^ 20) (sw15 : e = 2) (hv2 : sV S (100 * m + 2) = .ref r1) (hg2 : isK S r1 1 N1) (mN1 : N1 < 2 ^ 20) (b3 : (e95 + 1) < N) (he1 : sA (wA 95 (cl - 1) (nI (e95 + 2)) S) r (e95 + 1) = nI e1) (me1 : e1 < 2 ^ 20) (b4 : e1 < N1) (c1 : Ans (d + 8) 353 [.ref 61, .long (sL (wA 95 (cl - 1) (nI (e95 + 2)) S) r1 e1)] (wA 95 (cl - 1) (nI (e95 + 2)) S) none S1) : Bod (d + 8) 350 0 [(0, .ref 61)] [] S (some (.int 1)) (S1) := by
  refine Bod.go dc_350_0 rfl ?_
  refine Bod.get dc_350_1 fr_350_502 (mk_61 _) rfl ?_
  refine Bod.eqI (nI cl) (by first | assumption | rfl | exact congrArg nI (by omega) | (simp (disch := omega) only [rI, rIe, rA, rIA, rLA, rJA, rVI, rQI, rVA, rQA, upd_at,  rAI, rLI, rJI, nI_add, pk_sub, kc_0, kc_1, kc_2, kc_3, kc_4, kc_5, reduceIte, Nat.reduceEqDiff, Nat.add_zero, rI_hold, rI_hold, rL_hold, hcl]; done)) ?_
  refine Bod.ic 1 (by decide) dc_350_4 ?_
  refine Bod.subN (cl - 1) (by omega) (by omega) dc_350_5 ?_
  refine Bod.istn dc_350_6 (by rw [ml_350]; exact Nat.le_of_ble_eq_true rfl) ?_
  refine Bod.go dc_350_7 rfl ?_
  refine Bod.get dc_350_8 fr_350_572 (mk_61 _) rfl ?_
  refine Bod.go dc_350_11 rfl ?_
  refine Bod.ialdN (cl - 1) rfl (by omega) (by omega) dc_350_12 (mk_95 _) ?_
  refine Bod.eqI (nI e95) (by first | assumption | rfl | exact congrArg nI (by omega) | (simp (disch := omega) only [rI, rIe, rA, rIA, rLA, rJA, rVI, rQI, rVA, rQA, upd_at,  rAI, rLI, rJI, nI_add, pk_sub, kc_0, kc_1, kc_2, kc_3, kc_4, kc_5, reduceIte, Nat.reduceEqDiff, Nat.add_zero, rI_hold, rI_hold, rL_hold, hcl, he95]; done)) ?_
  refine Bod.istn dc_350_13 (by rw [ml_350]; exact Nat.le_of_ble_eq_true rfl) ?_
  refine Bod.go dc_350_14 rfl ?_
  refine Bod.get dc_350_15 fr_350_568 (mk_61 _) rfl ?_
  refine Bod.go dc_350_18 rfl ?_
  refine Bod.aaldR (N := 31) (b := m) (cl - 1) rfl (by omega) (by omega) hq2 dc_350_19 (mk_94 _) ht_6 ?_
  refine Bod.get dc_350_20 fr_350_222 (mk_code am (by first | exact hz1 | (simp only [rIS, rJS, rAS, rLS, rVS, rQS, rS_hold]; exact hz1))) rfl ?_
  refine Bod.eqV (.ref r) (by first | exact hv1 | (simp only [rIV, rJV, rAV, rLV, rQV, rV, reduceIte, Nat.reduceEqDiff]; exact hv1)) ?_
  refine Bod.astn dc_350_23 (by rw [ml_350]; exact Nat.le_of_ble_eq_true rfl) ?_
  refine Bod.go dc_350_24 rfl ?_
  refine Bod.go dc_350_25 rfl ?_
  refine Bod.ialdN (N := N) e95 rfl (by omega) (by omega) dc_350_26 (mk_isI (by first | exact hg1 | exact isK_S (by simp only [rIS, rJS, rAS, rLS, rVS, rQS, rS_hold]) hg1)) ?_
  refine Bod.eqI (nI e) (by first | assumption | rfl | exact congrArg nI (by omega) | (simp (disch := omega) only [rI, rIe, rA, rIA, rLA, rJA, rVI, rQI, rVA, rQA, upd_at,  rAI, rLI, rJI, nI_add, pk_sub, kc_0, kc_1, kc_2, kc_3, kc_4, kc_5, reduceIte, Nat.reduceEqDiff, Nat.add_zero, rI_hold, rI_hold, rL_hold, hcl, he95, he]; done)) ?_
  refine Bod.ist dc_350_27 (by rw [ml_350]; exact Nat.le_of_ble_eq_true rfl) ?_
  refine Bod.go dc_350_29 rfl ?_
  refine Bod.sw (t := 306) dc_350_31 rfl rfl (by rw [sw15]; decide +kernel) ?_
  refine Bod.go dc_350_306 rfl ?_
  refine Bod.get dc_350_307 fr_350_572 (mk_61 _) rfl ?_
  refine Bod.go dc_350_310 rfl ?_
  refine Bod.go dc_350_311 rfl ?_
  refine Bod.ic 2 (by decide) dc_350_312 ?_
  refine Bod.addN (e95 + 2) (by omega) dc_350_313 ?_
  refine Bod.iastN (cl - 1) rfl (by omega) (by omega) dc_350_314 (mk_95 _) (sa_95 _ _ _) (mu_A _ _ _ _) ?_
  refine Bod.go dc_350_315 rfl ?_
  refine Bod.go dc_350_316 rfl ?_
  refine Bod.get dc_350_317 fr_350_568 (mk_61 _) rfl ?_
  refine Bod.go dc_350_320 rfl ?_
  refine Bod.aaldR (N := 31) (b := m) (cl - 1) rfl (by omega) (by omega) (by simp only [rIQ, rJQ, rAQ, rLQ, rVQ, rQ_holdE]; exact hq2) dc_350_321 (mk_94 _) ht_6 ?_
  refine Bod.get dc_350_322 fr_350_611 (mk_code am (by first | exact hz1 | (simp only [rIS, rJS, rAS, rLS, rVS, rQS, rS_hold]; exact hz1))) rfl ?_
  refine Bod.eqV (.ref r1) (by first | exact hv2 | (simp only [rIV, rJV, rAV, rLV, rQV, rV, reduceIte, Nat.reduceEqDiff]; exact hv2)) ?_
  refine Bod.go dc_350_325 rfl ?_
  refine Bod.go dc_350_326 rfl ?_
  refine Bod.ic 1 (by decide) dc_350_327 ?_
  refine Bod.addN (e95 + 1) (by omega) dc_350_328 ?_
  refine Bod.ialdN (N := N) (e95 + 1) rfl (by omega) (by omega) dc_350_329 (mk_isI (by first | exact hg1 | exact isK_S (by simp only [rIS, rJS, rAS, rLS, rVS, rQS, rS_hold]) hg1)) ?_
  refine Bod.eqI (nI e1) (by first | assumption | (simp (disch := omega) only [rI, rIe, rA, rIA, rLA, rJA, rVI, rQI, rVA, rQA, upd_at,  rAI, rLI, rJI, nI_add, pk_sub, kc_0, kc_1, kc_2, kc_3, kc_4, kc_5, reduceIte, Nat.reduceEqDiff, Nat.add_zero, rI_hold, rI_hold, rL_hold, hcl, he95, he, he1]; done) | (simp (disch := omega) only [rI, rIe, rA, rIA, rLA, rJA, rVI, rQI, rVA, rQA, upd_at,  rAI, rLI, rJI, nI_add, pk_sub, kc_0, kc_1, kc_2, kc_3, kc_4, kc_5, reduceIte, Nat.reduceEqDiff, Nat.add_zero, rI_hold, rI_hold, rL_hold, hcl, he95, he, he1]; exact congrArg nI (by omega))) ?_
  refine Bod.laldN (N := N1) e1 rfl (by omega) (by omega) dc_350_330 (mk_isL (by first | exact hg2 | exact isK_S (by simp only [rIS, rJS, rAS, rLS, rVS, rQS, rS_hold]) hg2)) ?_
  refine Bod.virt (r := []) dc_350_331 kr_350_613 ⟨Or.inl rfl, ow_353, cl_14⟩ (by rw [np_353]; rfl) (by rw [np_353]; rfl) (ob_of (mk_61 _)) (Nat.le_of_ble_eq_true rfl) (c1  ) ?_
  show Bod _ _ _ _ [] _ _ _
  refine Bod.ic 1 (by decide) dc_350_334 ?_
  exact Bod.retZ dc_350_335 rt_350 (Or.inr rfl)
theorem rOn_5 {d : Nat} {S : cS} {cl : Nat} {e95 : Nat} {m : Nat} {zm : Nat} {r : Nat} {N : Nat} {e : Nat} {r1 : Nat} {N1 : Nat} {e1 : Nat} {r2 : Nat} {N2 : Nat} {S1 : cS} (hcl : sI S 6159 = nI cl) (mcl : cl < 32) (b1 : 1 ≤ cl) (he95 : sA S 95 (cl - 1) = nI e95) (me95 : e95 < 2 ^ 20) (am : 108 ≤ m) (hq2 : sQ S 94 (cl - 1) = some m) (hz1 : (sS S)[m - 108]? = some (12, zm)) (hv1 : sV S (100 * m + 0) = .ref r) (hg1 : isK S r 0 N) (mN : N < 2 ^ 20) (b2 : e95 < N) (he : sA S r e95 = nI e) (me : e < 2 ^ 20) (sw15 : e = 3) (hv2 : sV S (100 * m + 3) = .ref r1) (hg2 : isK S r1 1 N1) (mN1 : N1 < 2 ^ 20) (b3 : (e95 + 1) < N) (he1 : sA (wA 95 (cl - 1) (nI (e95 + 2)) S) r (e95 + 1) = nI e1) (me1 : e1 < 2 ^ 20) (b4 : e1 < N1) (hv3 : sV S (100 * m + 4) = .ref r2) (hg3 : isK S r2 1 N2) (mN2 : N2 < 2 ^ 20) (b5 : e1 < N2) (c1 : Ans (d + 8) 352 [.ref 61, .int (nI 2), .long (sL (wA 95 (cl - 1) (nI (e95 + 2)) S) r1 e1), .long (sL (wA 95 (cl - 1) (nI (e95 + 2)) S) r2 e1)] (wA 95 (cl - 1) (nI (e95 + 2)) S) none S1) : Bod (d + 8) 350 0 [(0, .ref 61)] [] S (some (.int 1)) (S1) := by
  refine Bod.go dc_350_0 rfl ?_
  refine Bod.get dc_350_1 fr_350_502 (mk_61 _) rfl ?_
  refine Bod.eqI (nI cl) (by first | assumption | rfl | exact congrArg nI (by omega) | (simp (disch := omega) only [rI, rIe, rA, rIA, rLA, rJA, rVI, rQI, rVA, rQA, upd_at,  rAI, rLI, rJI, nI_add, pk_sub, kc_0, kc_1, kc_2, kc_3, kc_4, kc_5, reduceIte, Nat.reduceEqDiff, Nat.add_zero, rI_hold, rI_hold, rL_hold, hcl]; done)) ?_
  refine Bod.ic 1 (by decide) dc_350_4 ?_
  refine Bod.subN (cl - 1) (by omega) (by omega) dc_350_5 ?_
  refine Bod.istn dc_350_6 (by rw [ml_350]; exact Nat.le_of_ble_eq_true rfl) ?_
  refine Bod.go dc_350_7 rfl ?_
  refine Bod.get dc_350_8 fr_350_572 (mk_61 _) rfl ?_
  refine Bod.go dc_350_11 rfl ?_
  refine Bod.ialdN (cl - 1) rfl (by omega) (by omega) dc_350_12 (mk_95 _) ?_
  refine Bod.eqI (nI e95) (by first | assumption | rfl | exact congrArg nI (by omega) | (simp (disch := omega) only [rI, rIe, rA, rIA, rLA, rJA, rVI, rQI, rVA, rQA, upd_at,  rAI, rLI, rJI, nI_add, pk_sub, kc_0, kc_1, kc_2, kc_3, kc_4, kc_5, reduceIte, Nat.reduceEqDiff, Nat.add_zero, rI_hold, rI_hold, rL_hold, hcl, he95]; done)) ?_
  refine Bod.istn dc_350_13 (by rw [ml_350]; exact Nat.le_of_ble_eq_true rfl) ?_
  refine Bod.go dc_350_14 rfl ?_
  refine Bod.get dc_350_15 fr_350_568 (mk_61 _) rfl ?_
  refine Bod.go dc_350_18 rfl ?_
  refine Bod.aaldR (N := 31) (b := m) (cl - 1) rfl (by omega) (by omega) hq2 dc_350_19 (mk_94 _) ht_6 ?_
  refine Bod.get dc_350_20 fr_350_222 (mk_code am (by first | exact hz1 | (simp only [rIS, rJS, rAS, rLS, rVS, rQS, rS_hold]; exact hz1))) rfl ?_
  refine Bod.eqV (.ref r) (by first | exact hv1 | (simp only [rIV, rJV, rAV, rLV, rQV, rV, reduceIte, Nat.reduceEqDiff]; exact hv1)) ?_
  refine Bod.astn dc_350_23 (by rw [ml_350]; exact Nat.le_of_ble_eq_true rfl) ?_
  refine Bod.go dc_350_24 rfl ?_
  refine Bod.go dc_350_25 rfl ?_
  refine Bod.ialdN (N := N) e95 rfl (by omega) (by omega) dc_350_26 (mk_isI (by first | exact hg1 | exact isK_S (by simp only [rIS, rJS, rAS, rLS, rVS, rQS, rS_hold]) hg1)) ?_
  refine Bod.eqI (nI e) (by first | assumption | rfl | exact congrArg nI (by omega) | (simp (disch := omega) only [rI, rIe, rA, rIA, rLA, rJA, rVI, rQI, rVA, rQA, upd_at,  rAI, rLI, rJI, nI_add, pk_sub, kc_0, kc_1, kc_2, kc_3, kc_4, kc_5, reduceIte, Nat.reduceEqDiff, Nat.add_zero, rI_hold, rI_hold, rL_hold, hcl, he95, he]; done)) ?_
  refine Bod.ist dc_350_27 (by rw [ml_350]; exact Nat.le_of_ble_eq_true rfl) ?_
  refine Bod.go dc_350_29 rfl ?_
  refine Bod.sw (t := 336) dc_350_31 rfl rfl (by rw [sw15]; decide +kernel) ?_
  refine Bod.go dc_350_336 rfl ?_
  refine Bod.get dc_350_337 fr_350_572 (mk_61 _) rfl ?_
  refine Bod.go dc_350_340 rfl ?_
  refine Bod.go dc_350_341 rfl ?_
  refine Bod.ic 2 (by decide) dc_350_342 ?_
  refine Bod.addN (e95 + 2) (by omega) dc_350_343 ?_
  refine Bod.iastN (cl - 1) rfl (by omega) (by omega) dc_350_344 (mk_95 _) (sa_95 _ _ _) (mu_A _ _ _ _) ?_
  refine Bod.go dc_350_345 rfl ?_
  refine Bod.ic 2 (by decide) dc_350_346 ?_
  refine Bod.go dc_350_347 rfl ?_
  refine Bod.get dc_350_348 fr_350_568 (mk_61 _) rfl ?_
  refine Bod.go dc_350_351 rfl ?_
  refine Bod.aaldR (N := 31) (b := m) (cl - 1) rfl (by omega) (by omega) (by simp only [rIQ, rJQ, rAQ, rLQ, rVQ, rQ_holdE]; exact hq2) dc_350_352 (mk_94 _) ht_6 ?_
  refine Bod.get dc_350_353 fr_350_617 (mk_code am (by first | exact hz1 | (simp only [rIS, rJS, rAS, rLS, rVS, rQS, rS_hold]; exact hz1))) rfl ?_
  refine Bod.eqV (.ref r1) (by first | exact hv2 | (simp only [rIV, rJV, rAV, rLV, rQV, rV, reduceIte, Nat.reduceEqDiff]; exact hv2)) ?_
  refine Bod.go dc_350_356 rfl ?_
  refine Bod.go dc_350_357 rfl ?_
  refine Bod.ic 1 (by decide) dc_350_358 ?_
  refine Bod.addN (e95 + 1) (by omega) dc_350_359 ?_
  refine Bod.ialdN (N := N) (e95 + 1) rfl (by omega) (by omega) dc_350_360 (mk_isI (by first | exact hg1 | exact isK_S (by simp only [rIS, rJS, rAS, rLS, rVS, rQS, rS_hold]) hg1)) ?_
  refine Bod.eqI (nI e1) (by first | assumption | (simp (disch := omega) only [rI, rIe, rA, rIA, rLA, rJA, rVI, rQI, rVA, rQA, upd_at,  rAI, rLI, rJI, nI_add, pk_sub, kc_0, kc_1, kc_2, kc_3, kc_4, kc_5, reduceIte, Nat.reduceEqDiff, Nat.add_zero, rI_hold, rI_hold, rL_hold, hcl, he95, he, he1]; done) | (simp (disch := omega) only [rI, rIe, rA, rIA, rLA, rJA, rVI, rQI, rVA, rQA, upd_at,  rAI, rLI, rJI, nI_add, pk_sub, kc_0, kc_1, kc_2, kc_3, kc_4, kc_5, reduceIte, Nat.reduceEqDiff, Nat.add_zero, rI_hold, rI_hold, rL_hold, hcl, he95, he, he1]; exact congrArg nI (by omega))) ?_
  refine Bod.laldN (N := N1) e1 rfl (by omega) (by omega) dc_350_361 (mk_isL (by first | exact hg2 | exact isK_S (by simp only [rIS, rJS, rAS, rLS, rVS, rQS, rS_hold]) hg2)) ?_
  refine Bod.go dc_350_362 rfl ?_
  refine Bod.get dc_350_363 fr_350_568 (mk_61 _) rfl ?_
  refine Bod.go dc_350_366 rfl ?_
  refine Bod.aaldR (N := 31) (b := m) (cl - 1) rfl (by omega) (by omega) (by simp only [rIQ, rJQ, rAQ, rLQ, rVQ, rQ_holdE]; exact hq2) dc_350_367 (mk_94 _) ht_6 ?_
  refine Bod.get dc_350_368 fr_350_620 (mk_code am (by first | exact hz1 | (simp only [rIS, rJS, rAS, rLS, rVS, rQS, rS_hold]; exact hz1))) rfl ?_
  refine Bod.eqV (.ref r2) (by first | exact hv3 | (simp only [rIV, rJV, rAV, rLV, rQV, rV, reduceIte, Nat.reduceEqDiff]; exact hv3)) ?_
  refine Bod.go dc_350_371 rfl ?_
  refine Bod.go dc_350_372 rfl ?_
  refine Bod.ic 1 (by decide) dc_350_373 ?_
  refine Bod.addN (e95 + 1) (by omega) dc_350_374 ?_
  refine Bod.ialdN (N := N) (e95 + 1) rfl (by omega) (by omega) dc_350_375 (mk_isI (by first | exact hg1 | exact isK_S (by simp only [rIS, rJS, rAS, rLS, rVS, rQS, rS_hold]) hg1)) ?_
  refine Bod.eqI (nI e1) (by first | assumption | (simp (disch := omega) only [rI, rIe, rA, rIA, rLA, rJA, rVI, rQI, rVA, rQA, upd_at,  rAI, rLI, rJI, nI_add, pk_sub, kc_0, kc_1, kc_2, kc_3, kc_4, kc_5, reduceIte, Nat.reduceEqDiff, Nat.add_zero, rI_hold, rI_hold, rL_hold, hcl, he95, he, he1]; done) | (simp (disch := omega) only [rI, rIe, rA, rIA, rLA, rJA, rVI, rQI, rVA, rQA, upd_at,  rAI, rLI, rJI, nI_add, pk_sub, kc_0, kc_1, kc_2, kc_3, kc_4, kc_5, reduceIte, Nat.reduceEqDiff, Nat.add_zero, rI_hold, rI_hold, rL_hold, hcl, he95, he, he1]; exact congrArg nI (by omega))) ?_
  refine Bod.laldN (N := N2) e1 rfl (by omega) (by omega) dc_350_376 (mk_isL (by first | exact hg3 | exact isK_S (by simp only [rIS, rJS, rAS, rLS, rVS, rQS, rS_hold]) hg3)) ?_
  refine Bod.virt (r := []) dc_350_377 kr_350_549 ⟨Or.inl rfl, ow_352, cl_14⟩ (by rw [np_352]; rfl) (by rw [np_352]; rfl) (ob_of (mk_61 _)) (Nat.le_of_ble_eq_true rfl) (c1  ) ?_
  show Bod _ _ _ _ [] _ _ _
  refine Bod.ic 1 (by decide) dc_350_380 ?_
  exact Bod.retZ dc_350_381 rt_350 (Or.inr rfl)
theorem rOn_6 {d : Nat} {S : cS} {cl : Nat} {e95 : Nat} {m : Nat} {zm : Nat} {r : Nat} {N : Nat} {e : Nat} {S1 : cS} (hcl : sI S 6159 = nI cl) (mcl : cl < 32) (b1 : 1 ≤ cl) (he95 : sA S 95 (cl - 1) = nI e95) (me95 : e95 < 2 ^ 20) (am : 108 ≤ m) (hq2 : sQ S 94 (cl - 1) = some m) (hz1 : (sS S)[m - 108]? = some (12, zm)) (hv1 : sV S (100 * m + 0) = .ref r) (hg1 : isK S r 0 N) (mN : N < 2 ^ 20) (b2 : e95 < N) (he : sA S r e95 = nI e) (me : e < 2 ^ 20) (sw15 : e = 4) (b3 : (e95 + 1) < N) (b4 : (e95 + 2) < N) (b5 : (e95 + 3) < N) (c1 : Ans (d + 8) 354 [.ref 61, .int (nI e), .int (sA (wA 95 (cl - 1) (nI (e95 + 4)) S) r (e95 + 1)), .int (sA (wA 95 (cl - 1) (nI (e95 + 4)) S) r (e95 + 2)), .int (sA (wA 95 (cl - 1) (nI (e95 + 4)) S) r (e95 + 3))] (wA 95 (cl - 1) (nI (e95 + 4)) S) (some (.int (nI 1))) S1) : Bod (d + 8) 350 0 [(0, .ref 61)] [] S (some (.int 1)) (S1) := by
  refine Bod.go dc_350_0 rfl ?_
  refine Bod.get dc_350_1 fr_350_502 (mk_61 _) rfl ?_
  refine Bod.eqI (nI cl) (by first | assumption | rfl | exact congrArg nI (by omega) | (simp (disch := omega) only [rI, rIe, rA, rIA, rLA, rJA, rVI, rQI, rVA, rQA, upd_at,  rAI, rLI, rJI, nI_add, pk_sub, kc_0, kc_1, kc_2, kc_3, kc_4, kc_5, reduceIte, Nat.reduceEqDiff, Nat.add_zero, rI_hold, rI_hold, rL_hold, hcl]; done)) ?_
  refine Bod.ic 1 (by decide) dc_350_4 ?_
  refine Bod.subN (cl - 1) (by omega) (by omega) dc_350_5 ?_
  refine Bod.istn dc_350_6 (by rw [ml_350]; exact Nat.le_of_ble_eq_true rfl) ?_
  refine Bod.go dc_350_7 rfl ?_
  refine Bod.get dc_350_8 fr_350_572 (mk_61 _) rfl ?_
  refine Bod.go dc_350_11 rfl ?_
  refine Bod.ialdN (cl - 1) rfl (by omega) (by omega) dc_350_12 (mk_95 _) ?_
  refine Bod.eqI (nI e95) (by first | assumption | rfl | exact congrArg nI (by omega) | (simp (disch := omega) only [rI, rIe, rA, rIA, rLA, rJA, rVI, rQI, rVA, rQA, upd_at,  rAI, rLI, rJI, nI_add, pk_sub, kc_0, kc_1, kc_2, kc_3, kc_4, kc_5, reduceIte, Nat.reduceEqDiff, Nat.add_zero, rI_hold, rI_hold, rL_hold, hcl, he95]; done)) ?_
  refine Bod.istn dc_350_13 (by rw [ml_350]; exact Nat.le_of_ble_eq_true rfl) ?_
  refine Bod.go dc_350_14 rfl ?_
  refine Bod.get dc_350_15 fr_350_568 (mk_61 _) rfl ?_
  refine Bod.go dc_350_18 rfl ?_
  refine Bod.aaldR (N := 31) (b := m) (cl - 1) rfl (by omega) (by omega) hq2 dc_350_19 (mk_94 _) ht_6 ?_
  refine Bod.get dc_350_20 fr_350_222 (mk_code am (by first | exact hz1 | (simp only [rIS, rJS, rAS, rLS, rVS, rQS, rS_hold]; exact hz1))) rfl ?_
  refine Bod.eqV (.ref r) (by first | exact hv1 | (simp only [rIV, rJV, rAV, rLV, rQV, rV, reduceIte, Nat.reduceEqDiff]; exact hv1)) ?_
  refine Bod.astn dc_350_23 (by rw [ml_350]; exact Nat.le_of_ble_eq_true rfl) ?_
  refine Bod.go dc_350_24 rfl ?_
  refine Bod.go dc_350_25 rfl ?_
  refine Bod.ialdN (N := N) e95 rfl (by omega) (by omega) dc_350_26 (mk_isI (by first | exact hg1 | exact isK_S (by simp only [rIS, rJS, rAS, rLS, rVS, rQS, rS_hold]) hg1)) ?_
  refine Bod.eqI (nI e) (by first | assumption | rfl | exact congrArg nI (by omega) | (simp (disch := omega) only [rI, rIe, rA, rIA, rLA, rJA, rVI, rQI, rVA, rQA, upd_at,  rAI, rLI, rJI, nI_add, pk_sub, kc_0, kc_1, kc_2, kc_3, kc_4, kc_5, reduceIte, Nat.reduceEqDiff, Nat.add_zero, rI_hold, rI_hold, rL_hold, hcl, he95, he]; done)) ?_
  refine Bod.ist dc_350_27 (by rw [ml_350]; exact Nat.le_of_ble_eq_true rfl) ?_
  refine Bod.go dc_350_29 rfl ?_
  refine Bod.sw (t := 382) dc_350_31 rfl rfl (by rw [sw15]; decide +kernel) ?_
  refine Bod.go dc_350_382 rfl ?_
  refine Bod.get dc_350_383 fr_350_572 (mk_61 _) rfl ?_
  refine Bod.go dc_350_386 rfl ?_
  refine Bod.go dc_350_387 rfl ?_
  refine Bod.ic 4 (by decide) dc_350_388 ?_
  refine Bod.addN (e95 + 4) (by omega) dc_350_389 ?_
  refine Bod.iastN (cl - 1) rfl (by omega) (by omega) dc_350_390 (mk_95 _) (sa_95 _ _ _) (mu_A _ _ _ _) ?_
  refine Bod.go dc_350_391 rfl ?_
  refine Bod.go dc_350_392 rfl ?_
  refine Bod.go dc_350_394 rfl ?_
  refine Bod.go dc_350_395 rfl ?_
  refine Bod.ic 1 (by decide) dc_350_396 ?_
  refine Bod.addN (e95 + 1) (by omega) dc_350_397 ?_
  refine Bod.ialdN (N := N) (e95 + 1) rfl (by omega) (by omega) dc_350_398 (mk_isI (by first | exact hg1 | exact isK_S (by simp only [rIS, rJS, rAS, rLS, rVS, rQS, rS_hold]) hg1)) ?_
  refine Bod.go dc_350_399 rfl ?_
  refine Bod.go dc_350_400 rfl ?_
  refine Bod.ic 2 (by decide) dc_350_401 ?_
  refine Bod.addN (e95 + 2) (by omega) dc_350_402 ?_
  refine Bod.ialdN (N := N) (e95 + 2) rfl (by omega) (by omega) dc_350_403 (mk_isI (by first | exact hg1 | exact isK_S (by simp only [rIS, rJS, rAS, rLS, rVS, rQS, rS_hold]) hg1)) ?_
  refine Bod.go dc_350_404 rfl ?_
  refine Bod.go dc_350_405 rfl ?_
  refine Bod.ic 3 (by decide) dc_350_406 ?_
  refine Bod.addN (e95 + 3) (by omega) dc_350_407 ?_
  refine Bod.ialdN (N := N) (e95 + 3) rfl (by omega) (by omega) dc_350_408 (mk_isI (by first | exact hg1 | exact isK_S (by simp only [rIS, rJS, rAS, rLS, rVS, rQS, rS_hold]) hg1)) ?_
  refine Bod.virt (r := []) dc_350_409 kr_350_621 ⟨Or.inl rfl, ow_354, cl_14⟩ (by rw [np_354]; rfl) (by rw [np_354]; rfl) (ob_of (mk_61 _)) (Nat.le_of_ble_eq_true rfl) (c1  ) ?_
  show Bod _ _ _ _ [_] _ _ _
  exact Bod.retZ dc_350_412 rt_350 (Or.inr rfl)
theorem rOn_7 {d : Nat} {S : cS} {cl : Nat} {e95 : Nat} {m : Nat} {zm : Nat} {r : Nat} {N : Nat} {e : Nat} {S1 : cS} (hcl : sI S 6159 = nI cl) (mcl : cl < 32) (b1 : 1 ≤ cl) (he95 : sA S 95 (cl - 1) = nI e95) (me95 : e95 < 2 ^ 20) (am : 108 ≤ m) (hq2 : sQ S 94 (cl - 1) = some m) (hz1 : (sS S)[m - 108]? = some (12, zm)) (hv1 : sV S (100 * m + 0) = .ref r) (hg1 : isK S r 0 N) (mN : N < 2 ^ 20) (b2 : e95 < N) (he : sA S r e95 = nI e) (me : e < 2 ^ 20) (sw15 : e = 4) (b3 : (e95 + 1) < N) (b4 : (e95 + 2) < N) (b5 : (e95 + 3) < N) (c1 : Ans (d + 8) 354 [.ref 61, .int (nI e), .int (sA (wA 95 (cl - 1) (nI (e95 + 4)) S) r (e95 + 1)), .int (sA (wA 95 (cl - 1) (nI (e95 + 4)) S) r (e95 + 2)), .int (sA (wA 95 (cl - 1) (nI (e95 + 4)) S) r (e95 + 3))] (wA 95 (cl - 1) (nI (e95 + 4)) S) (some (.int (nI 0))) S1) : Bod (d + 8) 350 0 [(0, .ref 61)] [] S (some (.int 0)) (S1) := by
  refine Bod.go dc_350_0 rfl ?_
  refine Bod.get dc_350_1 fr_350_502 (mk_61 _) rfl ?_
  refine Bod.eqI (nI cl) (by first | assumption | rfl | exact congrArg nI (by omega) | (simp (disch := omega) only [rI, rIe, rA, rIA, rLA, rJA, rVI, rQI, rVA, rQA, upd_at,  rAI, rLI, rJI, nI_add, pk_sub, kc_0, kc_1, kc_2, kc_3, kc_4, kc_5, reduceIte, Nat.reduceEqDiff, Nat.add_zero, rI_hold, rI_hold, rL_hold, hcl]; done)) ?_
  refine Bod.ic 1 (by decide) dc_350_4 ?_
  refine Bod.subN (cl - 1) (by omega) (by omega) dc_350_5 ?_
  refine Bod.istn dc_350_6 (by rw [ml_350]; exact Nat.le_of_ble_eq_true rfl) ?_
  refine Bod.go dc_350_7 rfl ?_
  refine Bod.get dc_350_8 fr_350_572 (mk_61 _) rfl ?_
  refine Bod.go dc_350_11 rfl ?_
  refine Bod.ialdN (cl - 1) rfl (by omega) (by omega) dc_350_12 (mk_95 _) ?_
  refine Bod.eqI (nI e95) (by first | assumption | rfl | exact congrArg nI (by omega) | (simp (disch := omega) only [rI, rIe, rA, rIA, rLA, rJA, rVI, rQI, rVA, rQA, upd_at,  rAI, rLI, rJI, nI_add, pk_sub, kc_0, kc_1, kc_2, kc_3, kc_4, kc_5, reduceIte, Nat.reduceEqDiff, Nat.add_zero, rI_hold, rI_hold, rL_hold, hcl, he95]; done)) ?_
  refine Bod.istn dc_350_13 (by rw [ml_350]; exact Nat.le_of_ble_eq_true rfl) ?_
  refine Bod.go dc_350_14 rfl ?_
  refine Bod.get dc_350_15 fr_350_568 (mk_61 _) rfl ?_
  refine Bod.go dc_350_18 rfl ?_
  refine Bod.aaldR (N := 31) (b := m) (cl - 1) rfl (by omega) (by omega) hq2 dc_350_19 (mk_94 _) ht_6 ?_
  refine Bod.get dc_350_20 fr_350_222 (mk_code am (by first | exact hz1 | (simp only [rIS, rJS, rAS, rLS, rVS, rQS, rS_hold]; exact hz1))) rfl ?_
  refine Bod.eqV (.ref r) (by first | exact hv1 | (simp only [rIV, rJV, rAV, rLV, rQV, rV, reduceIte, Nat.reduceEqDiff]; exact hv1)) ?_
  refine Bod.astn dc_350_23 (by rw [ml_350]; exact Nat.le_of_ble_eq_true rfl) ?_
  refine Bod.go dc_350_24 rfl ?_
  refine Bod.go dc_350_25 rfl ?_
  refine Bod.ialdN (N := N) e95 rfl (by omega) (by omega) dc_350_26 (mk_isI (by first | exact hg1 | exact isK_S (by simp only [rIS, rJS, rAS, rLS, rVS, rQS, rS_hold]) hg1)) ?_
  refine Bod.eqI (nI e) (by first | assumption | rfl | exact congrArg nI (by omega) | (simp (disch := omega) only [rI, rIe, rA, rIA, rLA, rJA, rVI, rQI, rVA, rQA, upd_at,  rAI, rLI, rJI, nI_add, pk_sub, kc_0, kc_1, kc_2, kc_3, kc_4, kc_5, reduceIte, Nat.reduceEqDiff, Nat.add_zero, rI_hold, rI_hold, rL_hold, hcl, he95, he]; done)) ?_
  refine Bod.ist dc_350_27 (by rw [ml_350]; exact Nat.le_of_ble_eq_true rfl) ?_
  refine Bod.go dc_350_29 rfl ?_
  refine Bod.sw (t := 382) dc_350_31 rfl rfl (by rw [sw15]; decide +kernel) ?_
  refine Bod.go dc_350_382 rfl ?_
  refine Bod.get dc_350_383 fr_350_572 (mk_61 _) rfl ?_
  refine Bod.go dc_350_386 rfl ?_
  refine Bod.go dc_350_387 rfl ?_
  refine Bod.ic 4 (by decide) dc_350_388 ?_
  refine Bod.addN (e95 + 4) (by omega) dc_350_389 ?_
  refine Bod.iastN (cl - 1) rfl (by omega) (by omega) dc_350_390 (mk_95 _) (sa_95 _ _ _) (mu_A _ _ _ _) ?_
  refine Bod.go dc_350_391 rfl ?_
  refine Bod.go dc_350_392 rfl ?_
  refine Bod.go dc_350_394 rfl ?_
  refine Bod.go dc_350_395 rfl ?_
  refine Bod.ic 1 (by decide) dc_350_396 ?_
  refine Bod.addN (e95 + 1) (by omega) dc_350_397 ?_
  refine Bod.ialdN (N := N) (e95 + 1) rfl (by omega) (by omega) dc_350_398 (mk_isI (by first | exact hg1 | exact isK_S (by simp only [rIS, rJS, rAS, rLS, rVS, rQS, rS_hold]) hg1)) ?_
  refine Bod.go dc_350_399 rfl ?_
  refine Bod.go dc_350_400 rfl ?_
  refine Bod.ic 2 (by decide) dc_350_401 ?_
  refine Bod.addN (e95 + 2) (by omega) dc_350_402 ?_
  refine Bod.ialdN (N := N) (e95 + 2) rfl (by omega) (by omega) dc_350_403 (mk_isI (by first | exact hg1 | exact isK_S (by simp only [rIS, rJS, rAS, rLS, rVS, rQS, rS_hold]) hg1)) ?_
  refine Bod.go dc_350_404 rfl ?_
  refine Bod.go dc_350_405 rfl ?_
  refine Bod.ic 3 (by decide) dc_350_406 ?_
  refine Bod.addN (e95 + 3) (by omega) dc_350_407 ?_
  refine Bod.ialdN (N := N) (e95 + 3) rfl (by omega) (by omega) dc_350_408 (mk_isI (by first | exact hg1 | exact isK_S (by simp only [rIS, rJS, rAS, rLS, rVS, rQS, rS_hold]) hg1)) ?_
  refine Bod.virt (r := []) dc_350_409 kr_350_621 ⟨Or.inl rfl, ow_354, cl_14⟩ (by rw [np_354]; rfl) (by rw [np_354]; rfl) (ob_of (mk_61 _)) (Nat.le_of_ble_eq_true rfl) (c1  ) ?_
  show Bod _ _ _ _ [_] _ _ _
  exact Bod.retZ dc_350_412 rt_350 (Or.inl rfl)
theorem rOn_8 {d : Nat} {S : cS} {cl : Nat} {e95 : Nat} {m : Nat} {zm : Nat} {r : Nat} {N : Nat} {e : Nat} {S1 : cS} (hcl : sI S 6159 = nI cl) (mcl : cl < 32) (b1 : 1 ≤ cl) (he95 : sA S 95 (cl - 1) = nI e95) (me95 : e95 < 2 ^ 20) (am : 108 ≤ m) (hq2 : sQ S 94 (cl - 1) = some m) (hz1 : (sS S)[m - 108]? = some (12, zm)) (hv1 : sV S (100 * m + 0) = .ref r) (hg1 : isK S r 0 N) (mN : N < 2 ^ 20) (b2 : e95 < N) (he : sA S r e95 = nI e) (me : e < 2 ^ 20) (sw15 : e = 5) (b3 : (e95 + 1) < N) (b4 : (e95 + 2) < N) (b5 : (e95 + 3) < N) (c1 : Ans (d + 8) 354 [.ref 61, .int (nI e), .int (sA (wA 95 (cl - 1) (nI (e95 + 4)) S) r (e95 + 1)), .int (sA (wA 95 (cl - 1) (nI (e95 + 4)) S) r (e95 + 2)), .int (sA (wA 95 (cl - 1) (nI (e95 + 4)) S) r (e95 + 3))] (wA 95 (cl - 1) (nI (e95 + 4)) S) (some (.int (nI 1))) S1) : Bod (d + 8) 350 0 [(0, .ref 61)] [] S (some (.int 1)) (S1) := by
  refine Bod.go dc_350_0 rfl ?_
  refine Bod.get dc_350_1 fr_350_502 (mk_61 _) rfl ?_
  refine Bod.eqI (nI cl) (by first | assumption | rfl | exact congrArg nI (by omega) | (simp (disch := omega) only [rI, rIe, rA, rIA, rLA, rJA, rVI, rQI, rVA, rQA, upd_at,  rAI, rLI, rJI, nI_add, pk_sub, kc_0, kc_1, kc_2, kc_3, kc_4, kc_5, reduceIte, Nat.reduceEqDiff, Nat.add_zero, rI_hold, rI_hold, rL_hold, hcl]; done)) ?_
  refine Bod.ic 1 (by decide) dc_350_4 ?_
  refine Bod.subN (cl - 1) (by omega) (by omega) dc_350_5 ?_
  refine Bod.istn dc_350_6 (by rw [ml_350]; exact Nat.le_of_ble_eq_true rfl) ?_
  refine Bod.go dc_350_7 rfl ?_
  refine Bod.get dc_350_8 fr_350_572 (mk_61 _) rfl ?_
  refine Bod.go dc_350_11 rfl ?_
  refine Bod.ialdN (cl - 1) rfl (by omega) (by omega) dc_350_12 (mk_95 _) ?_
  refine Bod.eqI (nI e95) (by first | assumption | rfl | exact congrArg nI (by omega) | (simp (disch := omega) only [rI, rIe, rA, rIA, rLA, rJA, rVI, rQI, rVA, rQA, upd_at,  rAI, rLI, rJI, nI_add, pk_sub, kc_0, kc_1, kc_2, kc_3, kc_4, kc_5, reduceIte, Nat.reduceEqDiff, Nat.add_zero, rI_hold, rI_hold, rL_hold, hcl, he95]; done)) ?_
  refine Bod.istn dc_350_13 (by rw [ml_350]; exact Nat.le_of_ble_eq_true rfl) ?_
  refine Bod.go dc_350_14 rfl ?_
  refine Bod.get dc_350_15 fr_350_568 (mk_61 _) rfl ?_
  refine Bod.go dc_350_18 rfl ?_
  refine Bod.aaldR (N := 31) (b := m) (cl - 1) rfl (by omega) (by omega) hq2 dc_350_19 (mk_94 _) ht_6 ?_
  refine Bod.get dc_350_20 fr_350_222 (mk_code am (by first | exact hz1 | (simp only [rIS, rJS, rAS, rLS, rVS, rQS, rS_hold]; exact hz1))) rfl ?_
  refine Bod.eqV (.ref r) (by first | exact hv1 | (simp only [rIV, rJV, rAV, rLV, rQV, rV, reduceIte, Nat.reduceEqDiff]; exact hv1)) ?_
  refine Bod.astn dc_350_23 (by rw [ml_350]; exact Nat.le_of_ble_eq_true rfl) ?_
  refine Bod.go dc_350_24 rfl ?_
  refine Bod.go dc_350_25 rfl ?_
  refine Bod.ialdN (N := N) e95 rfl (by omega) (by omega) dc_350_26 (mk_isI (by first | exact hg1 | exact isK_S (by simp only [rIS, rJS, rAS, rLS, rVS, rQS, rS_hold]) hg1)) ?_
  refine Bod.eqI (nI e) (by first | assumption | rfl | exact congrArg nI (by omega) | (simp (disch := omega) only [rI, rIe, rA, rIA, rLA, rJA, rVI, rQI, rVA, rQA, upd_at,  rAI, rLI, rJI, nI_add, pk_sub, kc_0, kc_1, kc_2, kc_3, kc_4, kc_5, reduceIte, Nat.reduceEqDiff, Nat.add_zero, rI_hold, rI_hold, rL_hold, hcl, he95, he]; done)) ?_
  refine Bod.ist dc_350_27 (by rw [ml_350]; exact Nat.le_of_ble_eq_true rfl) ?_
  refine Bod.go dc_350_29 rfl ?_
  refine Bod.sw (t := 382) dc_350_31 rfl rfl (by rw [sw15]; decide +kernel) ?_
  refine Bod.go dc_350_382 rfl ?_
  refine Bod.get dc_350_383 fr_350_572 (mk_61 _) rfl ?_
  refine Bod.go dc_350_386 rfl ?_
  refine Bod.go dc_350_387 rfl ?_
  refine Bod.ic 4 (by decide) dc_350_388 ?_
  refine Bod.addN (e95 + 4) (by omega) dc_350_389 ?_
  refine Bod.iastN (cl - 1) rfl (by omega) (by omega) dc_350_390 (mk_95 _) (sa_95 _ _ _) (mu_A _ _ _ _) ?_
  refine Bod.go dc_350_391 rfl ?_
  refine Bod.go dc_350_392 rfl ?_
  refine Bod.go dc_350_394 rfl ?_
  refine Bod.go dc_350_395 rfl ?_
  refine Bod.ic 1 (by decide) dc_350_396 ?_
  refine Bod.addN (e95 + 1) (by omega) dc_350_397 ?_
  refine Bod.ialdN (N := N) (e95 + 1) rfl (by omega) (by omega) dc_350_398 (mk_isI (by first | exact hg1 | exact isK_S (by simp only [rIS, rJS, rAS, rLS, rVS, rQS, rS_hold]) hg1)) ?_
  refine Bod.go dc_350_399 rfl ?_
  refine Bod.go dc_350_400 rfl ?_
  refine Bod.ic 2 (by decide) dc_350_401 ?_
  refine Bod.addN (e95 + 2) (by omega) dc_350_402 ?_
  refine Bod.ialdN (N := N) (e95 + 2) rfl (by omega) (by omega) dc_350_403 (mk_isI (by first | exact hg1 | exact isK_S (by simp only [rIS, rJS, rAS, rLS, rVS, rQS, rS_hold]) hg1)) ?_
  refine Bod.go dc_350_404 rfl ?_
  refine Bod.go dc_350_405 rfl ?_
  refine Bod.ic 3 (by decide) dc_350_406 ?_
  refine Bod.addN (e95 + 3) (by omega) dc_350_407 ?_
  refine Bod.ialdN (N := N) (e95 + 3) rfl (by omega) (by omega) dc_350_408 (mk_isI (by first | exact hg1 | exact isK_S (by simp only [rIS, rJS, rAS, rLS, rVS, rQS, rS_hold]) hg1)) ?_
  refine Bod.virt (r := []) dc_350_409 kr_350_621 ⟨Or.inl rfl, ow_354, cl_14⟩ (by rw [np_354]; rfl) (by rw [np_354]; rfl) (ob_of (mk_61 _)) (Nat.le_of_ble_eq_true rfl) (c1  ) ?_
  show Bod _ _ _ _ [_] _ _ _
  exact Bod.retZ dc_350_412 rt_350 (Or.inr rfl)
theorem rOn_9 {d : Nat} {S : cS} {cl : Nat} {e95 : Nat} {m : Nat} {zm : Nat} {r : Nat} {N : Nat} {e : Nat} {S1 : cS} (hcl : sI S 6159 = nI cl) (mcl : cl < 32) (b1 : 1 ≤ cl) (he95 : sA S 95 (cl - 1) = nI e95) (me95 : e95 < 2 ^ 20) (am : 108 ≤ m) (hq2 : sQ S 94 (cl - 1) = some m) (hz1 : (sS S)[m - 108]? = some (12, zm)) (hv1 : sV S (100 * m + 0) = .ref r) (hg1 : isK S r 0 N) (mN : N < 2 ^ 20) (b2 : e95 < N) (he : sA S r e95 = nI e) (me : e < 2 ^ 20) (sw15 : e = 5) (b3 : (e95 + 1) < N) (b4 : (e95 + 2) < N) (b5 : (e95 + 3) < N) (c1 : Ans (d + 8) 354 [.ref 61, .int (nI e), .int (sA (wA 95 (cl - 1) (nI (e95 + 4)) S) r (e95 + 1)), .int (sA (wA 95 (cl - 1) (nI (e95 + 4)) S) r (e95 + 2)), .int (sA (wA 95 (cl - 1) (nI (e95 + 4)) S) r (e95 + 3))] (wA 95 (cl - 1) (nI (e95 + 4)) S) (some (.int (nI 0))) S1) : Bod (d + 8) 350 0 [(0, .ref 61)] [] S (some (.int 0)) (S1) := by
  refine Bod.go dc_350_0 rfl ?_
  refine Bod.get dc_350_1 fr_350_502 (mk_61 _) rfl ?_
  refine Bod.eqI (nI cl) (by first | assumption | rfl | exact congrArg nI (by omega) | (simp (disch := omega) only [rI, rIe, rA, rIA, rLA, rJA, rVI, rQI, rVA, rQA, upd_at,  rAI, rLI, rJI, nI_add, pk_sub, kc_0, kc_1, kc_2, kc_3, kc_4, kc_5, reduceIte, Nat.reduceEqDiff, Nat.add_zero, rI_hold, rI_hold, rL_hold, hcl]; done)) ?_
  refine Bod.ic 1 (by decide) dc_350_4 ?_
  refine Bod.subN (cl - 1) (by omega) (by omega) dc_350_5 ?_
  refine Bod.istn dc_350_6 (by rw [ml_350]; exact Nat.le_of_ble_eq_true rfl) ?_
  refine Bod.go dc_350_7 rfl ?_
  refine Bod.get dc_350_8 fr_350_572 (mk_61 _) rfl ?_
  refine Bod.go dc_350_11 rfl ?_
  refine Bod.ialdN (cl - 1) rfl (by omega) (by omega) dc_350_12 (mk_95 _) ?_
  refine Bod.eqI (nI e95) (by first | assumption | rfl | exact congrArg nI (by omega) | (simp (disch := omega) only [rI, rIe, rA, rIA, rLA, rJA, rVI, rQI, rVA, rQA, upd_at,  rAI, rLI, rJI, nI_add, pk_sub, kc_0, kc_1, kc_2, kc_3, kc_4, kc_5, reduceIte, Nat.reduceEqDiff, Nat.add_zero, rI_hold, rI_hold, rL_hold, hcl, he95]; done)) ?_
  refine Bod.istn dc_350_13 (by rw [ml_350]; exact Nat.le_of_ble_eq_true rfl) ?_
  refine Bod.go dc_350_14 rfl ?_
  refine Bod.get dc_350_15 fr_350_568 (mk_61 _) rfl ?_
  refine Bod.go dc_350_18 rfl ?_
  refine Bod.aaldR (N := 31) (b := m) (cl - 1) rfl (by omega) (by omega) hq2 dc_350_19 (mk_94 _) ht_6 ?_
  refine Bod.get dc_350_20 fr_350_222 (mk_code am (by first | exact hz1 | (simp only [rIS, rJS, rAS, rLS, rVS, rQS, rS_hold]; exact hz1))) rfl ?_
  refine Bod.eqV (.ref r) (by first | exact hv1 | (simp only [rIV, rJV, rAV, rLV, rQV, rV, reduceIte, Nat.reduceEqDiff]; exact hv1)) ?_
  refine Bod.astn dc_350_23 (by rw [ml_350]; exact Nat.le_of_ble_eq_true rfl) ?_
  refine Bod.go dc_350_24 rfl ?_
  refine Bod.go dc_350_25 rfl ?_
  refine Bod.ialdN (N := N) e95 rfl (by omega) (by omega) dc_350_26 (mk_isI (by first | exact hg1 | exact isK_S (by simp only [rIS, rJS, rAS, rLS, rVS, rQS, rS_hold]) hg1)) ?_
  refine Bod.eqI (nI e) (by first | assumption | rfl | exact congrArg nI (by omega) | (simp (disch := omega) only [rI, rIe, rA, rIA, rLA, rJA, rVI, rQI, rVA, rQA, upd_at,  rAI, rLI, rJI, nI_add, pk_sub, kc_0, kc_1, kc_2, kc_3, kc_4, kc_5, reduceIte, Nat.reduceEqDiff, Nat.add_zero, rI_hold, rI_hold, rL_hold, hcl, he95, he]; done)) ?_
  refine Bod.ist dc_350_27 (by rw [ml_350]; exact Nat.le_of_ble_eq_true rfl) ?_
  refine Bod.go dc_350_29 rfl ?_
  refine Bod.sw (t := 382) dc_350_31 rfl rfl (by rw [sw15]; decide +kernel) ?_
  refine Bod.go dc_350_382 rfl ?_
  refine Bod.get dc_350_383 fr_350_572 (mk_61 _) rfl ?_
  refine Bod.go dc_350_386 rfl ?_
  refine Bod.go dc_350_387 rfl ?_
  refine Bod.ic 4 (by decide) dc_350_388 ?_
  refine Bod.addN (e95 + 4) (by omega) dc_350_389 ?_
  refine Bod.iastN (cl - 1) rfl (by omega) (by omega) dc_350_390 (mk_95 _) (sa_95 _ _ _) (mu_A _ _ _ _) ?_
  refine Bod.go dc_350_391 rfl ?_
  refine Bod.go dc_350_392 rfl ?_
  refine Bod.go dc_350_394 rfl ?_
  refine Bod.go dc_350_395 rfl ?_
  refine Bod.ic 1 (by decide) dc_350_396 ?_
  refine Bod.addN (e95 + 1) (by omega) dc_350_397 ?_
  refine Bod.ialdN (N := N) (e95 + 1) rfl (by omega) (by omega) dc_350_398 (mk_isI (by first | exact hg1 | exact isK_S (by simp only [rIS, rJS, rAS, rLS, rVS, rQS, rS_hold]) hg1)) ?_
  refine Bod.go dc_350_399 rfl ?_
  refine Bod.go dc_350_400 rfl ?_
  refine Bod.ic 2 (by decide) dc_350_401 ?_
  refine Bod.addN (e95 + 2) (by omega) dc_350_402 ?_
  refine Bod.ialdN (N := N) (e95 + 2) rfl (by omega) (by omega) dc_350_403 (mk_isI (by first | exact hg1 | exact isK_S (by simp only [rIS, rJS, rAS, rLS, rVS, rQS, rS_hold]) hg1)) ?_
  refine Bod.go dc_350_404 rfl ?_
  refine Bod.go dc_350_405 rfl ?_
  refine Bod.ic 3 (by decide) dc_350_406 ?_
  refine Bod.addN (e95 + 3) (by omega) dc_350_407 ?_
  refine Bod.ialdN (N := N) (e95 + 3) rfl (by omega) (by omega) dc_350_408 (mk_isI (by first | exact hg1 | exact isK_S (by simp only [rIS, rJS, rAS, rLS, rVS, rQS, rS_hold]) hg1)) ?_
  refine Bod.virt (r := []) dc_350_409 kr_350_621 ⟨Or.inl rfl, ow_354, cl_14⟩ (by rw [np_354]; rfl) (by rw [np_354]; rfl) (ob_of (mk_61 _)) (Nat.le_of_ble_eq_true rfl) (c1  ) ?_
  show Bod _ _ _ _ [_] _ _ _
  exact Bod.retZ dc_350_412 rt_350 (Or.inl rfl)
theorem rOn_10 {d : Nat} {S : cS} {cl : Nat} {e95 : Nat} {m : Nat} {zm : Nat} {r : Nat} {N : Nat} {e : Nat} {S1 : cS} (hcl : sI S 6159 = nI cl) (mcl : cl < 32) (b1 : 1 ≤ cl) (he95 : sA S 95 (cl - 1) = nI e95) (me95 : e95 < 2 ^ 20) (am : 108 ≤ m) (hq2 : sQ S 94 (cl - 1) = some m) (hz1 : (sS S)[m - 108]? = some (12, zm)) (hv1 : sV S (100 * m + 0) = .ref r) (hg1 : isK S r 0 N) (mN : N < 2 ^ 20) (b2 : e95 < N) (he : sA S r e95 = nI e) (me : e < 2 ^ 20) (sw15 : e = 6) (b3 : (e95 + 1) < N) (b4 : (e95 + 2) < N) (b5 : (e95 + 3) < N) (c1 : Ans (d + 8) 354 [.ref 61, .int (nI e), .int (sA (wA 95 (cl - 1) (nI (e95 + 4)) S) r (e95 + 1)), .int (sA (wA 95 (cl - 1) (nI (e95 + 4)) S) r (e95 + 2)), .int (sA (wA 95 (cl - 1) (nI (e95 + 4)) S) r (e95 + 3))] (wA 95 (cl - 1) (nI (e95 + 4)) S) (some (.int (nI 1))) S1) : Bod (d + 8) 350 0 [(0, .ref 61)] [] S (some (.int 1)) (S1) := by
  refine Bod.go dc_350_0 rfl ?_
  refine Bod.get dc_350_1 fr_350_502 (mk_61 _) rfl ?_
  refine Bod.eqI (nI cl) (by first | assumption | rfl | exact congrArg nI (by omega) | (simp (disch := omega) only [rI, rIe, rA, rIA, rLA, rJA, rVI, rQI, rVA, rQA, upd_at,  rAI, rLI, rJI, nI_add, pk_sub, kc_0, kc_1, kc_2, kc_3, kc_4, kc_5, reduceIte, Nat.reduceEqDiff, Nat.add_zero, rI_hold, rI_hold, rL_hold, hcl]; done)) ?_
  refine Bod.ic 1 (by decide) dc_350_4 ?_
  refine Bod.subN (cl - 1) (by omega) (by omega) dc_350_5 ?_
  refine Bod.istn dc_350_6 (by rw [ml_350]; exact Nat.le_of_ble_eq_true rfl) ?_
  refine Bod.go dc_350_7 rfl ?_
  refine Bod.get dc_350_8 fr_350_572 (mk_61 _) rfl ?_
  refine Bod.go dc_350_11 rfl ?_
  refine Bod.ialdN (cl - 1) rfl (by omega) (by omega) dc_350_12 (mk_95 _) ?_
  refine Bod.eqI (nI e95) (by first | assumption | rfl | exact congrArg nI (by omega) | (simp (disch := omega) only [rI, rIe, rA, rIA, rLA, rJA, rVI, rQI, rVA, rQA, upd_at,  rAI, rLI, rJI, nI_add, pk_sub, kc_0, kc_1, kc_2, kc_3, kc_4, kc_5, reduceIte, Nat.reduceEqDiff, Nat.add_zero, rI_hold, rI_hold, rL_hold, hcl, he95]; done)) ?_
  refine Bod.istn dc_350_13 (by rw [ml_350]; exact Nat.le_of_ble_eq_true rfl) ?_
  refine Bod.go dc_350_14 rfl ?_
  refine Bod.get dc_350_15 fr_350_568 (mk_61 _) rfl ?_
  refine Bod.go dc_350_18 rfl ?_
  refine Bod.aaldR (N := 31) (b := m) (cl - 1) rfl (by omega) (by omega) hq2 dc_350_19 (mk_94 _) ht_6 ?_
  refine Bod.get dc_350_20 fr_350_222 (mk_code am (by first | exact hz1 | (simp only [rIS, rJS, rAS, rLS, rVS, rQS, rS_hold]; exact hz1))) rfl ?_
  refine Bod.eqV (.ref r) (by first | exact hv1 | (simp only [rIV, rJV, rAV, rLV, rQV, rV, reduceIte, Nat.reduceEqDiff]; exact hv1)) ?_
  refine Bod.astn dc_350_23 (by rw [ml_350]; exact Nat.le_of_ble_eq_true rfl) ?_
  refine Bod.go dc_350_24 rfl ?_
  refine Bod.go dc_350_25 rfl ?_
  refine Bod.ialdN (N := N) e95 rfl (by omega) (by omega) dc_350_26 (mk_isI (by first | exact hg1 | exact isK_S (by simp only [rIS, rJS, rAS, rLS, rVS, rQS, rS_hold]) hg1)) ?_
  refine Bod.eqI (nI e) (by first | assumption | rfl | exact congrArg nI (by omega) | (simp (disch := omega) only [rI, rIe, rA, rIA, rLA, rJA, rVI, rQI, rVA, rQA, upd_at,  rAI, rLI, rJI, nI_add, pk_sub, kc_0, kc_1, kc_2, kc_3, kc_4, kc_5, reduceIte, Nat.reduceEqDiff, Nat.add_zero, rI_hold, rI_hold, rL_hold, hcl, he95, he]; done)) ?_
  refine Bod.ist dc_350_27 (by rw [ml_350]; exact Nat.le_of_ble_eq_true rfl) ?_
  refine Bod.go dc_350_29 rfl ?_
  refine Bod.sw (t := 382) dc_350_31 rfl rfl (by rw [sw15]; decide +kernel) ?_
  refine Bod.go dc_350_382 rfl ?_
  refine Bod.get dc_350_383 fr_350_572 (mk_61 _) rfl ?_
  refine Bod.go dc_350_386 rfl ?_
  refine Bod.go dc_350_387 rfl ?_
  refine Bod.ic 4 (by decide) dc_350_388 ?_
  refine Bod.addN (e95 + 4) (by omega) dc_350_389 ?_
  refine Bod.iastN (cl - 1) rfl (by omega) (by omega) dc_350_390 (mk_95 _) (sa_95 _ _ _) (mu_A _ _ _ _) ?_
  refine Bod.go dc_350_391 rfl ?_
  refine Bod.go dc_350_392 rfl ?_
  refine Bod.go dc_350_394 rfl ?_
  refine Bod.go dc_350_395 rfl ?_
  refine Bod.ic 1 (by decide) dc_350_396 ?_
  refine Bod.addN (e95 + 1) (by omega) dc_350_397 ?_
  refine Bod.ialdN (N := N) (e95 + 1) rfl (by omega) (by omega) dc_350_398 (mk_isI (by first | exact hg1 | exact isK_S (by simp only [rIS, rJS, rAS, rLS, rVS, rQS, rS_hold]) hg1)) ?_
  refine Bod.go dc_350_399 rfl ?_
  refine Bod.go dc_350_400 rfl ?_
  refine Bod.ic 2 (by decide) dc_350_401 ?_
  refine Bod.addN (e95 + 2) (by omega) dc_350_402 ?_
  refine Bod.ialdN (N := N) (e95 + 2) rfl (by omega) (by omega) dc_350_403 (mk_isI (by first | exact hg1 | exact isK_S (by simp only [rIS, rJS, rAS, rLS, rVS, rQS, rS_hold]) hg1)) ?_
  refine Bod.go dc_350_404 rfl ?_
  refine Bod.go dc_350_405 rfl ?_
  refine Bod.ic 3 (by decide) dc_350_406 ?_
  refine Bod.addN (e95 + 3) (by omega) dc_350_407 ?_
  refine Bod.ialdN (N := N) (e95 + 3) rfl (by omega) (by omega) dc_350_408 (mk_isI (by first | exact hg1 | exact isK_S (by simp only [rIS, rJS, rAS, rLS, rVS, rQS, rS_hold]) hg1)) ?_
  refine Bod.virt (r := []) dc_350_409 kr_350_621 ⟨Or.inl rfl, ow_354, cl_14⟩ (by rw [np_354]; rfl) (by rw [np_354]; rfl) (ob_of (mk_61 _)) (Nat.le_of_ble_eq_true rfl) (c1  ) ?_
  show Bod _ _ _ _ [_] _ _ _
  exact Bod.retZ dc_350_412 rt_350 (Or.inr rfl)
theorem rOn_11 {d : Nat} {S : cS} {cl : Nat} {e95 : Nat} {m : Nat} {zm : Nat} {r : Nat} {N : Nat} {e : Nat} {S1 : cS} (hcl : sI S 6159 = nI cl) (mcl : cl < 32) (b1 : 1 ≤ cl) (he95 : sA S 95 (cl - 1) = nI e95) (me95 : e95 < 2 ^ 20) (am : 108 ≤ m) (hq2 : sQ S 94 (cl - 1) = some m) (hz1 : (sS S)[m - 108]? = some (12, zm)) (hv1 : sV S (100 * m + 0) = .ref r) (hg1 : isK S r 0 N) (mN : N < 2 ^ 20) (b2 : e95 < N) (he : sA S r e95 = nI e) (me : e < 2 ^ 20) (sw15 : e = 6) (b3 : (e95 + 1) < N) (b4 : (e95 + 2) < N) (b5 : (e95 + 3) < N) (c1 : Ans (d + 8) 354 [.ref 61, .int (nI e), .int (sA (wA 95 (cl - 1) (nI (e95 + 4)) S) r (e95 + 1)), .int (sA (wA 95 (cl - 1) (nI (e95 + 4)) S) r (e95 + 2)), .int (sA (wA 95 (cl - 1) (nI (e95 + 4)) S) r (e95 + 3))] (wA 95 (cl - 1) (nI (e95 + 4)) S) (some (.int (nI 0))) S1) : Bod (d + 8) 350 0 [(0, .ref 61)] [] S (some (.int 0)) (S1) := by
  refine Bod.go dc_350_0 rfl ?_
  refine Bod.get dc_350_1 fr_350_502 (mk_61 _) rfl ?_
  refine Bod.eqI (nI cl) (by first | assumption | rfl | exact congrArg nI (by omega) | (simp (disch := omega) only [rI, rIe, rA, rIA, rLA, rJA, rVI, rQI, rVA, rQA, upd_at,  rAI, rLI, rJI, nI_add, pk_sub, kc_0, kc_1, kc_2, kc_3, kc_4, kc_5, reduceIte, Nat.reduceEqDiff, Nat.add_zero, rI_hold, rI_hold, rL_hold, hcl]; done)) ?_
  refine Bod.ic 1 (by decide) dc_350_4 ?_
  refine Bod.subN (cl - 1) (by omega) (by omega) dc_350_5 ?_
  refine Bod.istn dc_350_6 (by rw [ml_350]; exact Nat.le_of_ble_eq_true rfl) ?_
  refine Bod.go dc_350_7 rfl ?_
  refine Bod.get dc_350_8 fr_350_572 (mk_61 _) rfl ?_
  refine Bod.go dc_350_11 rfl ?_
  refine Bod.ialdN (cl - 1) rfl (by omega) (by omega) dc_350_12 (mk_95 _) ?_
  refine Bod.eqI (nI e95) (by first | assumption | rfl | exact congrArg nI (by omega) | (simp (disch := omega) only [rI, rIe, rA, rIA, rLA, rJA, rVI, rQI, rVA, rQA, upd_at,  rAI, rLI, rJI, nI_add, pk_sub, kc_0, kc_1, kc_2, kc_3, kc_4, kc_5, reduceIte, Nat.reduceEqDiff, Nat.add_zero, rI_hold, rI_hold, rL_hold, hcl, he95]; done)) ?_
  refine Bod.istn dc_350_13 (by rw [ml_350]; exact Nat.le_of_ble_eq_true rfl) ?_
  refine Bod.go dc_350_14 rfl ?_
  refine Bod.get dc_350_15 fr_350_568 (mk_61 _) rfl ?_
  refine Bod.go dc_350_18 rfl ?_
  refine Bod.aaldR (N := 31) (b := m) (cl - 1) rfl (by omega) (by omega) hq2 dc_350_19 (mk_94 _) ht_6 ?_
  refine Bod.get dc_350_20 fr_350_222 (mk_code am (by first | exact hz1 | (simp only [rIS, rJS, rAS, rLS, rVS, rQS, rS_hold]; exact hz1))) rfl ?_
  refine Bod.eqV (.ref r) (by first | exact hv1 | (simp only [rIV, rJV, rAV, rLV, rQV, rV, reduceIte, Nat.reduceEqDiff]; exact hv1)) ?_
  refine Bod.astn dc_350_23 (by rw [ml_350]; exact Nat.le_of_ble_eq_true rfl) ?_
  refine Bod.go dc_350_24 rfl ?_
  refine Bod.go dc_350_25 rfl ?_
  refine Bod.ialdN (N := N) e95 rfl (by omega) (by omega) dc_350_26 (mk_isI (by first | exact hg1 | exact isK_S (by simp only [rIS, rJS, rAS, rLS, rVS, rQS, rS_hold]) hg1)) ?_
  refine Bod.eqI (nI e) (by first | assumption | rfl | exact congrArg nI (by omega) | (simp (disch := omega) only [rI, rIe, rA, rIA, rLA, rJA, rVI, rQI, rVA, rQA, upd_at,  rAI, rLI, rJI, nI_add, pk_sub, kc_0, kc_1, kc_2, kc_3, kc_4, kc_5, reduceIte, Nat.reduceEqDiff, Nat.add_zero, rI_hold, rI_hold, rL_hold, hcl, he95, he]; done)) ?_
  refine Bod.ist dc_350_27 (by rw [ml_350]; exact Nat.le_of_ble_eq_true rfl) ?_
  refine Bod.go dc_350_29 rfl ?_
  refine Bod.sw (t := 382) dc_350_31 rfl rfl (by rw [sw15]; decide +kernel) ?_
  refine Bod.go dc_350_382 rfl ?_
  refine Bod.get dc_350_383 fr_350_572 (mk_61 _) rfl ?_
  refine Bod.go dc_350_386 rfl ?_
  refine Bod.go dc_350_387 rfl ?_
  refine Bod.ic 4 (by decide) dc_350_388 ?_
  refine Bod.addN (e95 + 4) (by omega) dc_350_389 ?_
  refine Bod.iastN (cl - 1) rfl (by omega) (by omega) dc_350_390 (mk_95 _) (sa_95 _ _ _) (mu_A _ _ _ _) ?_
  refine Bod.go dc_350_391 rfl ?_
  refine Bod.go dc_350_392 rfl ?_
  refine Bod.go dc_350_394 rfl ?_
  refine Bod.go dc_350_395 rfl ?_
  refine Bod.ic 1 (by decide) dc_350_396 ?_
  refine Bod.addN (e95 + 1) (by omega) dc_350_397 ?_
  refine Bod.ialdN (N := N) (e95 + 1) rfl (by omega) (by omega) dc_350_398 (mk_isI (by first | exact hg1 | exact isK_S (by simp only [rIS, rJS, rAS, rLS, rVS, rQS, rS_hold]) hg1)) ?_
  refine Bod.go dc_350_399 rfl ?_
  refine Bod.go dc_350_400 rfl ?_
  refine Bod.ic 2 (by decide) dc_350_401 ?_
  refine Bod.addN (e95 + 2) (by omega) dc_350_402 ?_
  refine Bod.ialdN (N := N) (e95 + 2) rfl (by omega) (by omega) dc_350_403 (mk_isI (by first | exact hg1 | exact isK_S (by simp only [rIS, rJS, rAS, rLS, rVS, rQS, rS_hold]) hg1)) ?_
  refine Bod.go dc_350_404 rfl ?_
  refine Bod.go dc_350_405 rfl ?_
  refine Bod.ic 3 (by decide) dc_350_406 ?_
  refine Bod.addN (e95 + 3) (by omega) dc_350_407 ?_
  refine Bod.ialdN (N := N) (e95 + 3) rfl (by omega) (by omega) dc_350_408 (mk_isI (by first | exact hg1 | exact isK_S (by simp only [rIS, rJS, rAS, rLS, rVS, rQS, rS_hold]) hg1)) ?_
  refine Bod.virt (r := []) dc_350_409 kr_350_621 ⟨Or.inl rfl, ow_354, cl_14⟩ (by rw [np_354]; rfl) (by rw [np_354]; rfl) (ob_of (mk_61 _)) (Nat.le_of_ble_eq_true rfl) (c1  ) ?_
  show Bod _ _ _ _ [_] _ _ _
  exact Bod.retZ dc_350_412 rt_350 (Or.inl rfl)
theorem rOn_12 {d : Nat} {S : cS} {cl : Nat} {e95 : Nat} {m : Nat} {zm : Nat} {r : Nat} {N : Nat} {e : Nat} {S1 : cS} (hcl : sI S 6159 = nI cl) (mcl : cl < 32) (b1 : 1 ≤ cl) (he95 : sA S 95 (cl - 1) = nI e95) (me95 : e95 < 2 ^ 20) (am : 108 ≤ m) (hq2 : sQ S 94 (cl - 1) = some m) (hz1 : (sS S)[m - 108]? = some (12, zm)) (hv1 : sV S (100 * m + 0) = .ref r) (hg1 : isK S r 0 N) (mN : N < 2 ^ 20) (b2 : e95 < N) (he : sA S r e95 = nI e) (me : e < 2 ^ 20) (sw15 : e = 7) (b3 : (e95 + 1) < N) (b4 : (e95 + 2) < N) (b5 : (e95 + 3) < N) (c1 : Ans (d + 8) 354 [.ref 61, .int (nI e), .int (sA (wA 95 (cl - 1) (nI (e95 + 4)) S) r (e95 + 1)), .int (sA (wA 95 (cl - 1) (nI (e95 + 4)) S) r (e95 + 2)), .int (sA (wA 95 (cl - 1) (nI (e95 + 4)) S) r (e95 + 3))] (wA 95 (cl - 1) (nI (e95 + 4)) S) (some (.int (nI 1))) S1) : Bod (d + 8) 350 0 [(0, .ref 61)] [] S (some (.int 1)) (S1) := by
  refine Bod.go dc_350_0 rfl ?_
  refine Bod.get dc_350_1 fr_350_502 (mk_61 _) rfl ?_
  refine Bod.eqI (nI cl) (by first | assumption | rfl | exact congrArg nI (by omega) | (simp (disch := omega) only [rI, rIe, rA, rIA, rLA, rJA, rVI, rQI, rVA, rQA, upd_at,  rAI, rLI, rJI, nI_add, pk_sub, kc_0, kc_1, kc_2, kc_3, kc_4, kc_5, reduceIte, Nat.reduceEqDiff, Nat.add_zero, rI_hold, rI_hold, rL_hold, hcl]; done)) ?_
  refine Bod.ic 1 (by decide) dc_350_4 ?_
  refine Bod.subN (cl - 1) (by omega) (by omega) dc_350_5 ?_
  refine Bod.istn dc_350_6 (by rw [ml_350]; exact Nat.le_of_ble_eq_true rfl) ?_
  refine Bod.go dc_350_7 rfl ?_
  refine Bod.get dc_350_8 fr_350_572 (mk_61 _) rfl ?_
  refine Bod.go dc_350_11 rfl ?_
  refine Bod.ialdN (cl - 1) rfl (by omega) (by omega) dc_350_12 (mk_95 _) ?_
  refine Bod.eqI (nI e95) (by first | assumption | rfl | exact congrArg nI (by omega) | (simp (disch := omega) only [rI, rIe, rA, rIA, rLA, rJA, rVI, rQI, rVA, rQA, upd_at,  rAI, rLI, rJI, nI_add, pk_sub, kc_0, kc_1, kc_2, kc_3, kc_4, kc_5, reduceIte, Nat.reduceEqDiff, Nat.add_zero, rI_hold, rI_hold, rL_hold, hcl, he95]; done)) ?_
  refine Bod.istn dc_350_13 (by rw [ml_350]; exact Nat.le_of_ble_eq_true rfl) ?_
  refine Bod.go dc_350_14 rfl ?_
  refine Bod.get dc_350_15 fr_350_568 (mk_61 _) rfl ?_
  refine Bod.go dc_350_18 rfl ?_
  refine Bod.aaldR (N := 31) (b := m) (cl - 1) rfl (by omega) (by omega) hq2 dc_350_19 (mk_94 _) ht_6 ?_
  refine Bod.get dc_350_20 fr_350_222 (mk_code am (by first | exact hz1 | (simp only [rIS, rJS, rAS, rLS, rVS, rQS, rS_hold]; exact hz1))) rfl ?_
  refine Bod.eqV (.ref r) (by first | exact hv1 | (simp only [rIV, rJV, rAV, rLV, rQV, rV, reduceIte, Nat.reduceEqDiff]; exact hv1)) ?_
  refine Bod.astn dc_350_23 (by rw [ml_350]; exact Nat.le_of_ble_eq_true rfl) ?_
  refine Bod.go dc_350_24 rfl ?_
  refine Bod.go dc_350_25 rfl ?_
  refine Bod.ialdN (N := N) e95 rfl (by omega) (by omega) dc_350_26 (mk_isI (by first | exact hg1 | exact isK_S (by simp only [rIS, rJS, rAS, rLS, rVS, rQS, rS_hold]) hg1)) ?_
  refine Bod.eqI (nI e) (by first | assumption | rfl | exact congrArg nI (by omega) | (simp (disch := omega) only [rI, rIe, rA, rIA, rLA, rJA, rVI, rQI, rVA, rQA, upd_at,  rAI, rLI, rJI, nI_add, pk_sub, kc_0, kc_1, kc_2, kc_3, kc_4, kc_5, reduceIte, Nat.reduceEqDiff, Nat.add_zero, rI_hold, rI_hold, rL_hold, hcl, he95, he]; done)) ?_
  refine Bod.ist dc_350_27 (by rw [ml_350]; exact Nat.le_of_ble_eq_true rfl) ?_
  refine Bod.go dc_350_29 rfl ?_
  refine Bod.sw (t := 382) dc_350_31 rfl rfl (by rw [sw15]; decide +kernel) ?_
  refine Bod.go dc_350_382 rfl ?_
  refine Bod.get dc_350_383 fr_350_572 (mk_61 _) rfl ?_
  refine Bod.go dc_350_386 rfl ?_
  refine Bod.go dc_350_387 rfl ?_
  refine Bod.ic 4 (by decide) dc_350_388 ?_
  refine Bod.addN (e95 + 4) (by omega) dc_350_389 ?_
  refine Bod.iastN (cl - 1) rfl (by omega) (by omega) dc_350_390 (mk_95 _) (sa_95 _ _ _) (mu_A _ _ _ _) ?_
  refine Bod.go dc_350_391 rfl ?_
  refine Bod.go dc_350_392 rfl ?_
  refine Bod.go dc_350_394 rfl ?_
  refine Bod.go dc_350_395 rfl ?_
  refine Bod.ic 1 (by decide) dc_350_396 ?_
  refine Bod.addN (e95 + 1) (by omega) dc_350_397 ?_
  refine Bod.ialdN (N := N) (e95 + 1) rfl (by omega) (by omega) dc_350_398 (mk_isI (by first | exact hg1 | exact isK_S (by simp only [rIS, rJS, rAS, rLS, rVS, rQS, rS_hold]) hg1)) ?_
  refine Bod.go dc_350_399 rfl ?_
  refine Bod.go dc_350_400 rfl ?_
  refine Bod.ic 2 (by decide) dc_350_401 ?_
  refine Bod.addN (e95 + 2) (by omega) dc_350_402 ?_
  refine Bod.ialdN (N := N) (e95 + 2) rfl (by omega) (by omega) dc_350_403 (mk_isI (by first | exact hg1 | exact isK_S (by simp only [rIS, rJS, rAS, rLS, rVS, rQS, rS_hold]) hg1)) ?_
  refine Bod.go dc_350_404 rfl ?_
  refine Bod.go dc_350_405 rfl ?_
  refine Bod.ic 3 (by decide) dc_350_406 ?_
  refine Bod.addN (e95 + 3) (by omega) dc_350_407 ?_
  refine Bod.ialdN (N := N) (e95 + 3) rfl (by omega) (by omega) dc_350_408 (mk_isI (by first | exact hg1 | exact isK_S (by simp only [rIS, rJS, rAS, rLS, rVS, rQS, rS_hold]) hg1)) ?_
  refine Bod.virt (r := []) dc_350_409 kr_350_621 ⟨Or.inl rfl, ow_354, cl_14⟩ (by rw [np_354]; rfl) (by rw [np_354]; rfl) (ob_of (mk_61 _)) (Nat.le_of_ble_eq_true rfl) (c1  ) ?_
  show Bod _ _ _ _ [_] _ _ _
  exact Bod.retZ dc_350_412 rt_350 (Or.inr rfl)
theorem rOn_13 {d : Nat} {S : cS} {cl : Nat} {e95 : Nat} {m : Nat} {zm : Nat} {r : Nat} {N : Nat} {e : Nat} {S1 : cS} (hcl : sI S 6159 = nI cl) (mcl : cl < 32) (b1 : 1 ≤ cl) (he95 : sA S 95 (cl - 1) = nI e95) (me95 : e95 < 2 ^ 20) (am : 108 ≤ m) (hq2 : sQ S 94 (cl - 1) = some m) (hz1 : (sS S)[m - 108]? = some (12, zm)) (hv1 : sV S (100 * m + 0) = .ref r) (hg1 : isK S r 0 N) (mN : N < 2 ^ 20) (b2 : e95 < N) (he : sA S r e95 = nI e) (me : e < 2 ^ 20) (sw15 : e = 7) (b3 : (e95 + 1) < N) (b4 : (e95 + 2) < N) (b5 : (e95 + 3) < N) (c1 : Ans (d + 8) 354 [.ref 61, .int (nI e), .int (sA (wA 95 (cl - 1) (nI (e95 + 4)) S) r (e95 + 1)), .int (sA (wA 95 (cl - 1) (nI (e95 + 4)) S) r (e95 + 2)), .int (sA (wA 95 (cl - 1) (nI (e95 + 4)) S) r (e95 + 3))] (wA 95 (cl - 1) (nI (e95 + 4)) S) (some (.int (nI 0))) S1) : Bod (d + 8) 350 0 [(0, .ref 61)] [] S (some (.int 0)) (S1) := by
  refine Bod.go dc_350_0 rfl ?_
  refine Bod.get dc_350_1 fr_350_502 (mk_61 _) rfl ?_
  refine Bod.eqI (nI cl) (by first | assumption | rfl | exact congrArg nI (by omega) | (simp (disch := omega) only [rI, rIe, rA, rIA, rLA, rJA, rVI, rQI, rVA, rQA, upd_at,  rAI, rLI, rJI, nI_add, pk_sub, kc_0, kc_1, kc_2, kc_3, kc_4, kc_5, reduceIte, Nat.reduceEqDiff, Nat.add_zero, rI_hold, rI_hold, rL_hold, hcl]; done)) ?_
  refine Bod.ic 1 (by decide) dc_350_4 ?_
  refine Bod.subN (cl - 1) (by omega) (by omega) dc_350_5 ?_
  refine Bod.istn dc_350_6 (by rw [ml_350]; exact Nat.le_of_ble_eq_true rfl) ?_
  refine Bod.go dc_350_7 rfl ?_
  refine Bod.get dc_350_8 fr_350_572 (mk_61 _) rfl ?_
  refine Bod.go dc_350_11 rfl ?_
  refine Bod.ialdN (cl - 1) rfl (by omega) (by omega) dc_350_12 (mk_95 _) ?_
  refine Bod.eqI (nI e95) (by first | assumption | rfl | exact congrArg nI (by omega) | (simp (disch := omega) only [rI, rIe, rA, rIA, rLA, rJA, rVI, rQI, rVA, rQA, upd_at,  rAI, rLI, rJI, nI_add, pk_sub, kc_0, kc_1, kc_2, kc_3, kc_4, kc_5, reduceIte, Nat.reduceEqDiff, Nat.add_zero, rI_hold, rI_hold, rL_hold, hcl, he95]; done)) ?_
  refine Bod.istn dc_350_13 (by rw [ml_350]; exact Nat.le_of_ble_eq_true rfl) ?_
  refine Bod.go dc_350_14 rfl ?_
  refine Bod.get dc_350_15 fr_350_568 (mk_61 _) rfl ?_
  refine Bod.go dc_350_18 rfl ?_
  refine Bod.aaldR (N := 31) (b := m) (cl - 1) rfl (by omega) (by omega) hq2 dc_350_19 (mk_94 _) ht_6 ?_
  refine Bod.get dc_350_20 fr_350_222 (mk_code am (by first | exact hz1 | (simp only [rIS, rJS, rAS, rLS, rVS, rQS, rS_hold]; exact hz1))) rfl ?_
  refine Bod.eqV (.ref r) (by first | exact hv1 | (simp only [rIV, rJV, rAV, rLV, rQV, rV, reduceIte, Nat.reduceEqDiff]; exact hv1)) ?_
  refine Bod.astn dc_350_23 (by rw [ml_350]; exact Nat.le_of_ble_eq_true rfl) ?_
  refine Bod.go dc_350_24 rfl ?_
  refine Bod.go dc_350_25 rfl ?_
  refine Bod.ialdN (N := N) e95 rfl (by omega) (by omega) dc_350_26 (mk_isI (by first | exact hg1 | exact isK_S (by simp only [rIS, rJS, rAS, rLS, rVS, rQS, rS_hold]) hg1)) ?_
  refine Bod.eqI (nI e) (by first | assumption | rfl | exact congrArg nI (by omega) | (simp (disch := omega) only [rI, rIe, rA, rIA, rLA, rJA, rVI, rQI, rVA, rQA, upd_at,  rAI, rLI, rJI, nI_add, pk_sub, kc_0, kc_1, kc_2, kc_3, kc_4, kc_5, reduceIte, Nat.reduceEqDiff, Nat.add_zero, rI_hold, rI_hold, rL_hold, hcl, he95, he]; done)) ?_
  refine Bod.ist dc_350_27 (by rw [ml_350]; exact Nat.le_of_ble_eq_true rfl) ?_
  refine Bod.go dc_350_29 rfl ?_
  refine Bod.sw (t := 382) dc_350_31 rfl rfl (by rw [sw15]; decide +kernel) ?_
  refine Bod.go dc_350_382 rfl ?_
  refine Bod.get dc_350_383 fr_350_572 (mk_61 _) rfl ?_
  refine Bod.go dc_350_386 rfl ?_
  refine Bod.go dc_350_387 rfl ?_
  refine Bod.ic 4 (by decide) dc_350_388 ?_
  refine Bod.addN (e95 + 4) (by omega) dc_350_389 ?_
  refine Bod.iastN (cl - 1) rfl (by omega) (by omega) dc_350_390 (mk_95 _) (sa_95 _ _ _) (mu_A _ _ _ _) ?_
  refine Bod.go dc_350_391 rfl ?_
  refine Bod.go dc_350_392 rfl ?_
  refine Bod.go dc_350_394 rfl ?_
  refine Bod.go dc_350_395 rfl ?_
  refine Bod.ic 1 (by decide) dc_350_396 ?_
  refine Bod.addN (e95 + 1) (by omega) dc_350_397 ?_
  refine Bod.ialdN (N := N) (e95 + 1) rfl (by omega) (by omega) dc_350_398 (mk_isI (by first | exact hg1 | exact isK_S (by simp only [rIS, rJS, rAS, rLS, rVS, rQS, rS_hold]) hg1)) ?_
  refine Bod.go dc_350_399 rfl ?_
  refine Bod.go dc_350_400 rfl ?_
  refine Bod.ic 2 (by decide) dc_350_401 ?_
  refine Bod.addN (e95 + 2) (by omega) dc_350_402 ?_
  refine Bod.ialdN (N := N) (e95 + 2) rfl (by omega) (by omega) dc_350_403 (mk_isI (by first | exact hg1 | exact isK_S (by simp only [rIS, rJS, rAS, rLS, rVS, rQS, rS_hold]) hg1)) ?_
  refine Bod.go dc_350_404 rfl ?_
  refine Bod.go dc_350_405 rfl ?_
  refine Bod.ic 3 (by decide) dc_350_406 ?_
  refine Bod.addN (e95 + 3) (by omega) dc_350_407 ?_
  refine Bod.ialdN (N := N) (e95 + 3) rfl (by omega) (by omega) dc_350_408 (mk_isI (by first | exact hg1 | exact isK_S (by simp only [rIS, rJS, rAS, rLS, rVS, rQS, rS_hold]) hg1)) ?_
  refine Bod.virt (r := []) dc_350_409 kr_350_621 ⟨Or.inl rfl, ow_354, cl_14⟩ (by rw [np_354]; rfl) (by rw [np_354]; rfl) (ob_of (mk_61 _)) (Nat.le_of_ble_eq_true rfl) (c1  ) ?_
  show Bod _ _ _ _ [_] _ _ _
  exact Bod.retZ dc_350_412 rt_350 (Or.inl rfl)
theorem rOn_14 {d : Nat} {S : cS} {cl : Nat} {e95 : Nat} {m : Nat} {zm : Nat} {r : Nat} {N : Nat} {e : Nat} (hcl : sI S 6159 = nI cl) (mcl : cl < 32) (b1 : 1 ≤ cl) (he95 : sA S 95 (cl - 1) = nI e95) (me95 : e95 < 2 ^ 20) (am : 108 ≤ m) (hq2 : sQ S 94 (cl - 1) = some m) (hz1 : (sS S)[m - 108]? = some (12, zm)) (hv1 : sV S (100 * m + 0) = .ref r) (hg1 : isK S r 0 N) (mN : N < 2 ^ 20) (b2 : e95 < N) (he : sA S r e95 = nI e) (me : e < 2 ^ 20) (sw15 : e = 11) (b3 : (e95 + 1) < N) : Bod (d + 8) 350 0 [(0, .ref 61)] [] S (some (.int 1)) (wA 95 (cl - 1) ((nI (e95 + 1)) + (sA S r (e95 + 1))) S) := by
  refine Bod.go dc_350_0 rfl ?_
  refine Bod.get dc_350_1 fr_350_502 (mk_61 _) rfl ?_
  refine Bod.eqI (nI cl) (by first | assumption | rfl | exact congrArg nI (by omega) | (simp (disch := omega) only [rI, rIe, rA, rIA, rLA, rJA, rVI, rQI, rVA, rQA, upd_at,  rAI, rLI, rJI, nI_add, pk_sub, kc_0, kc_1, kc_2, kc_3, kc_4, kc_5, reduceIte, Nat.reduceEqDiff, Nat.add_zero, rI_hold, rI_hold, rL_hold, hcl]; done)) ?_
  refine Bod.ic 1 (by decide) dc_350_4 ?_
  refine Bod.subN (cl - 1) (by omega) (by omega) dc_350_5 ?_
  refine Bod.istn dc_350_6 (by rw [ml_350]; exact Nat.le_of_ble_eq_true rfl) ?_
  refine Bod.go dc_350_7 rfl ?_
  refine Bod.get dc_350_8 fr_350_572 (mk_61 _) rfl ?_
  refine Bod.go dc_350_11 rfl ?_
  refine Bod.ialdN (cl - 1) rfl (by omega) (by omega) dc_350_12 (mk_95 _) ?_
  refine Bod.eqI (nI e95) (by first | assumption | rfl | exact congrArg nI (by omega) | (simp (disch := omega) only [rI, rIe, rA, rIA, rLA, rJA, rVI, rQI, rVA, rQA, upd_at,  rAI, rLI, rJI, nI_add, pk_sub, kc_0, kc_1, kc_2, kc_3, kc_4, kc_5, reduceIte, Nat.reduceEqDiff, Nat.add_zero, rI_hold, rI_hold, rL_hold, hcl, he95]; done)) ?_
  refine Bod.istn dc_350_13 (by rw [ml_350]; exact Nat.le_of_ble_eq_true rfl) ?_
  refine Bod.go dc_350_14 rfl ?_
  refine Bod.get dc_350_15 fr_350_568 (mk_61 _) rfl ?_
  refine Bod.go dc_350_18 rfl ?_
  refine Bod.aaldR (N := 31) (b := m) (cl - 1) rfl (by omega) (by omega) hq2 dc_350_19 (mk_94 _) ht_6 ?_
  refine Bod.get dc_350_20 fr_350_222 (mk_code am (by first | exact hz1 | (simp only [rIS, rJS, rAS, rLS, rVS, rQS, rS_hold]; exact hz1))) rfl ?_
  refine Bod.eqV (.ref r) (by first | exact hv1 | (simp only [rIV, rJV, rAV, rLV, rQV, rV, reduceIte, Nat.reduceEqDiff]; exact hv1)) ?_
  refine Bod.astn dc_350_23 (by rw [ml_350]; exact Nat.le_of_ble_eq_true rfl) ?_
  refine Bod.go dc_350_24 rfl ?_
  refine Bod.go dc_350_25 rfl ?_
  refine Bod.ialdN (N := N) e95 rfl (by omega) (by omega) dc_350_26 (mk_isI (by first | exact hg1 | exact isK_S (by simp only [rIS, rJS, rAS, rLS, rVS, rQS, rS_hold]) hg1)) ?_
  refine Bod.eqI (nI e) (by first | assumption | rfl | exact congrArg nI (by omega) | (simp (disch := omega) only [rI, rIe, rA, rIA, rLA, rJA, rVI, rQI, rVA, rQA, upd_at,  rAI, rLI, rJI, nI_add, pk_sub, kc_0, kc_1, kc_2, kc_3, kc_4, kc_5, reduceIte, Nat.reduceEqDiff, Nat.add_zero, rI_hold, rI_hold, rL_hold, hcl, he95, he]; done)) ?_
  refine Bod.ist dc_350_27 (by rw [ml_350]; exact Nat.le_of_ble_eq_true rfl) ?_
  refine Bod.go dc_350_29 rfl ?_
  refine Bod.sw (t := 413) dc_350_31 rfl rfl (by rw [sw15]; decide +kernel) ?_
  refine Bod.go dc_350_413 rfl ?_
  refine Bod.get dc_350_414 fr_350_572 (mk_61 _) rfl ?_
  refine Bod.go dc_350_417 rfl ?_
  refine Bod.go dc_350_418 rfl ?_
  refine Bod.ic 1 (by decide) dc_350_419 ?_
  refine Bod.addN (e95 + 1) (by omega) dc_350_420 ?_
  refine Bod.go dc_350_421 rfl ?_
  refine Bod.go dc_350_422 rfl ?_
  refine Bod.ic 1 (by decide) dc_350_423 ?_
  refine Bod.addN (e95 + 1) (by omega) dc_350_424 ?_
  refine Bod.ialdN (N := N) (e95 + 1) rfl (by omega) (by omega) dc_350_425 (mk_isI (by first | exact hg1 | exact isK_S (by simp only [rIS, rJS, rAS, rLS, rVS, rQS, rS_hold]) hg1)) ?_
  refine Bod.go dc_350_426 rfl ?_
  refine Bod.iastN (cl - 1) rfl (by omega) (by omega) dc_350_427 (mk_95 _) (sa_95 _ _ _) (mu_A _ _ _ _) ?_
  refine Bod.ic 1 (by decide) dc_350_428 ?_
  exact Bod.retZ dc_350_429 rt_350 (Or.inr rfl)
theorem rOn_15 {d : Nat} {S : cS} {cl : Nat} {e95 : Nat} {m : Nat} {zm : Nat} {r : Nat} {N : Nat} {e : Nat} {t : Nat} {S1 : cS} (hcl : sI S 6159 = nI cl) (mcl : cl < 32) (b1 : 1 ≤ cl) (he95 : sA S 95 (cl - 1) = nI e95) (me95 : e95 < 2 ^ 20) (am : 108 ≤ m) (hq2 : sQ S 94 (cl - 1) = some m) (hz1 : (sS S)[m - 108]? = some (12, zm)) (hv1 : sV S (100 * m + 0) = .ref r) (hg1 : isK S r 0 N) (mN : N < 2 ^ 20) (b2 : e95 < N) (he : sA S r e95 = nI e) (me : e < 2 ^ 20) (sw15 : e = 12) (ht : sI S 6151 = nI t) (mt : t < 20481) (b3 : 1 ≤ t) (c1 : Ans (d + 8) 359 [.ref 61, .int (nI (t - 1))] (wI 6151 (nI (t - 1)) S) (some (.int (nI 1))) S1) : Bod (d + 8) 350 0 [(0, .ref 61)] [] S (some (.int 1)) (wA 95 (cl - 1) (nI (e95 + 2)) S1) := by
  refine Bod.go dc_350_0 rfl ?_
  refine Bod.get dc_350_1 fr_350_502 (mk_61 _) rfl ?_
  refine Bod.eqI (nI cl) (by first | assumption | rfl | exact congrArg nI (by omega) | (simp (disch := omega) only [rI, rIe, rA, rIA, rLA, rJA, rVI, rQI, rVA, rQA, upd_at,  rAI, rLI, rJI, nI_add, pk_sub, kc_0, kc_1, kc_2, kc_3, kc_4, kc_5, reduceIte, Nat.reduceEqDiff, Nat.add_zero, rI_hold, rI_hold, rL_hold, hcl]; done)) ?_
  refine Bod.ic 1 (by decide) dc_350_4 ?_
  refine Bod.subN (cl - 1) (by omega) (by omega) dc_350_5 ?_
  refine Bod.istn dc_350_6 (by rw [ml_350]; exact Nat.le_of_ble_eq_true rfl) ?_
  refine Bod.go dc_350_7 rfl ?_
  refine Bod.get dc_350_8 fr_350_572 (mk_61 _) rfl ?_
  refine Bod.go dc_350_11 rfl ?_
  refine Bod.ialdN (cl - 1) rfl (by omega) (by omega) dc_350_12 (mk_95 _) ?_
  refine Bod.eqI (nI e95) (by first | assumption | rfl | exact congrArg nI (by omega) | (simp (disch := omega) only [rI, rIe, rA, rIA, rLA, rJA, rVI, rQI, rVA, rQA, upd_at,  rAI, rLI, rJI, nI_add, pk_sub, kc_0, kc_1, kc_2, kc_3, kc_4, kc_5, reduceIte, Nat.reduceEqDiff, Nat.add_zero, rI_hold, rI_hold, rL_hold, hcl, he95]; done)) ?_
  refine Bod.istn dc_350_13 (by rw [ml_350]; exact Nat.le_of_ble_eq_true rfl) ?_
  refine Bod.go dc_350_14 rfl ?_
  refine Bod.get dc_350_15 fr_350_568 (mk_61 _) rfl ?_
  refine Bod.go dc_350_18 rfl ?_
  refine Bod.aaldR (N := 31) (b := m) (cl - 1) rfl (by omega) (by omega) hq2 dc_350_19 (mk_94 _) ht_6 ?_
  refine Bod.get dc_350_20 fr_350_222 (mk_code am (by first | exact hz1 | (simp only [rIS, rJS, rAS, rLS, rVS, rQS, rS_hold]; exact hz1))) rfl ?_
  refine Bod.eqV (.ref r) (by first | exact hv1 | (simp only [rIV, rJV, rAV, rLV, rQV, rV, reduceIte, Nat.reduceEqDiff]; exact hv1)) ?_
  refine Bod.astn dc_350_23 (by rw [ml_350]; exact Nat.le_of_ble_eq_true rfl) ?_
  refine Bod.go dc_350_24 rfl ?_
  refine Bod.go dc_350_25 rfl ?_
  refine Bod.ialdN (N := N) e95 rfl (by omega) (by omega) dc_350_26 (mk_isI (by first | exact hg1 | exact isK_S (by simp only [rIS, rJS, rAS, rLS, rVS, rQS, rS_hold]) hg1)) ?_
  refine Bod.eqI (nI e) (by first | assumption | rfl | exact congrArg nI (by omega) | (simp (disch := omega) only [rI, rIe, rA, rIA, rLA, rJA, rVI, rQI, rVA, rQA, upd_at,  rAI, rLI, rJI, nI_add, pk_sub, kc_0, kc_1, kc_2, kc_3, kc_4, kc_5, reduceIte, Nat.reduceEqDiff, Nat.add_zero, rI_hold, rI_hold, rL_hold, hcl, he95, he]; done)) ?_
  refine Bod.ist dc_350_27 (by rw [ml_350]; exact Nat.le_of_ble_eq_true rfl) ?_
  refine Bod.go dc_350_29 rfl ?_
  refine Bod.sw (t := 430) dc_350_31 rfl rfl (by rw [sw15]; decide +kernel) ?_
  refine Bod.go dc_350_430 rfl ?_
  refine Bod.go dc_350_431 rfl ?_
  refine Bod.get dc_350_432 fr_350_493 (mk_61 _) rfl ?_
  refine Bod.eqI (nI t) (by first | assumption | rfl | exact congrArg nI (by omega) | (simp (disch := omega) only [rI, rIe, rA, rIA, rLA, rJA, rVI, rQI, rVA, rQA, upd_at,  rAI, rLI, rJI, nI_add, pk_sub, kc_0, kc_1, kc_2, kc_3, kc_4, kc_5, reduceIte, Nat.reduceEqDiff, Nat.add_zero, rI_hold, rI_hold, rL_hold, hcl, he95, he, ht]; done)) ?_
  refine Bod.ic 1 (by decide) dc_350_435 ?_
  refine Bod.subN (t - 1) (by omega) (by omega) dc_350_436 ?_
  refine Bod.put dc_350_437 fr_350_493 (mk_61 _) (Nat.le_of_ble_eq_true rfl) pf_14_51 (st_6151 _ _) (mu_I _ _ _) ?_
  refine Bod.go dc_350_440 rfl ?_
  refine Bod.get dc_350_441 fr_350_572 (mk_61 _) rfl ?_
  refine Bod.go dc_350_444 rfl ?_
  refine Bod.go dc_350_445 rfl ?_
  refine Bod.go dc_350_446 rfl ?_
  refine Bod.get dc_350_447 fr_350_493 (mk_61 _) rfl ?_
  refine Bod.eqI (nI (t - 1)) (by first | assumption | (simp (disch := omega) only [rI, rIe, rA, rIA, rLA, rJA, rVI, rQI, rVA, rQA, upd_at,  rAI, rLI, rJI, nI_add, pk_sub, kc_0, kc_1, kc_2, kc_3, kc_4, kc_5, reduceIte, Nat.reduceEqDiff, Nat.add_zero, rI_hold, rI_hold, rL_hold, hcl, he95, he, ht]; done) | (simp (disch := omega) only [rI, rIe, rA, rIA, rLA, rJA, rVI, rQI, rVA, rQA, upd_at,  rAI, rLI, rJI, nI_add, pk_sub, kc_0, kc_1, kc_2, kc_3, kc_4, kc_5, reduceIte, Nat.reduceEqDiff, Nat.add_zero, rI_hold, rI_hold, rL_hold, hcl, he95, he, ht]; exact congrArg nI (by omega))) ?_
  refine Bod.virt (r := [_, _]) dc_350_450 kr_350_624 ⟨Or.inl rfl, ow_359, cl_14⟩ (by rw [np_359]; rfl) (by rw [np_359]; rfl) (ob_of (mk_61 _)) (Nat.le_of_ble_eq_true rfl) (c1  ) ?_
  show Bod _ _ _ _ [_, _, _] _ _ _
  refine Bod.ifF dc_350_453 rfl (k1_eq_F (k_ne 1 0 rfl rfl (by omega) (by omega) (by omega))) ?_
  refine Bod.go dc_350_456 rfl ?_
  refine Bod.ic 2 (by decide) dc_350_457 ?_
  refine Bod.addN (e95 + 2) (by omega) dc_350_458 ?_
  refine Bod.go dc_350_459 rfl ?_
  refine Bod.iastN (cl - 1) rfl (by omega) (by omega) dc_350_471 (mk_95 _) (sa_95 _ _ _) (mu_A _ _ _ _) ?_
  refine Bod.ic 1 (by decide) dc_350_472 ?_
  exact Bod.retZ dc_350_473 rt_350 (Or.inr rfl)
theorem rOn_16 {d : Nat} {S : cS} {cl : Nat} {e95 : Nat} {m : Nat} {zm : Nat} {r : Nat} {N : Nat} {e : Nat} {t : Nat} {S1 : cS} (hcl : sI S 6159 = nI cl) (mcl : cl < 32) (b1 : 1 ≤ cl) (he95 : sA S 95 (cl - 1) = nI e95) (me95 : e95 < 2 ^ 20) (am : 108 ≤ m) (hq2 : sQ S 94 (cl - 1) = some m) (hz1 : (sS S)[m - 108]? = some (12, zm)) (hv1 : sV S (100 * m + 0) = .ref r) (hg1 : isK S r 0 N) (mN : N < 2 ^ 20) (b2 : e95 < N) (he : sA S r e95 = nI e) (me : e < 2 ^ 20) (sw15 : e = 12) (ht : sI S 6151 = nI t) (mt : t < 20481) (b3 : 1 ≤ t) (c1 : Ans (d + 8) 359 [.ref 61, .int (nI (t - 1))] (wI 6151 (nI (t - 1)) S) (some (.int (nI 0))) S1) (b4 : (e95 + 1) < N) (hy5 : isK S1 r 0 N) : Bod (d + 8) 350 0 [(0, .ref 61)] [] S (some (.int 1)) (wA 95 (cl - 1) ((nI (e95 + 1)) + (sA S1 r (e95 + 1))) S1) := by
  refine Bod.go dc_350_0 rfl ?_
  refine Bod.get dc_350_1 fr_350_502 (mk_61 _) rfl ?_
  refine Bod.eqI (nI cl) (by first | assumption | rfl | exact congrArg nI (by omega) | (simp (disch := omega) only [rI, rIe, rA, rIA, rLA, rJA, rVI, rQI, rVA, rQA, upd_at,  rAI, rLI, rJI, nI_add, pk_sub, kc_0, kc_1, kc_2, kc_3, kc_4, kc_5, reduceIte, Nat.reduceEqDiff, Nat.add_zero, rI_hold, rI_hold, rL_hold, hcl]; done)) ?_
  refine Bod.ic 1 (by decide) dc_350_4 ?_
  refine Bod.subN (cl - 1) (by omega) (by omega) dc_350_5 ?_
  refine Bod.istn dc_350_6 (by rw [ml_350]; exact Nat.le_of_ble_eq_true rfl) ?_
  refine Bod.go dc_350_7 rfl ?_
  refine Bod.get dc_350_8 fr_350_572 (mk_61 _) rfl ?_
  refine Bod.go dc_350_11 rfl ?_
  refine Bod.ialdN (cl - 1) rfl (by omega) (by omega) dc_350_12 (mk_95 _) ?_
  refine Bod.eqI (nI e95) (by first | assumption | rfl | exact congrArg nI (by omega) | (simp (disch := omega) only [rI, rIe, rA, rIA, rLA, rJA, rVI, rQI, rVA, rQA, upd_at,  rAI, rLI, rJI, nI_add, pk_sub, kc_0, kc_1, kc_2, kc_3, kc_4, kc_5, reduceIte, Nat.reduceEqDiff, Nat.add_zero, rI_hold, rI_hold, rL_hold, hcl, he95]; done)) ?_
  refine Bod.istn dc_350_13 (by rw [ml_350]; exact Nat.le_of_ble_eq_true rfl) ?_
  refine Bod.go dc_350_14 rfl ?_
  refine Bod.get dc_350_15 fr_350_568 (mk_61 _) rfl ?_
  refine Bod.go dc_350_18 rfl ?_
  refine Bod.aaldR (N := 31) (b := m) (cl - 1) rfl (by omega) (by omega) hq2 dc_350_19 (mk_94 _) ht_6 ?_
  refine Bod.get dc_350_20 fr_350_222 (mk_code am (by first | exact hz1 | (simp only [rIS, rJS, rAS, rLS, rVS, rQS, rS_hold]; exact hz1))) rfl ?_
  refine Bod.eqV (.ref r) (by first | exact hv1 | (simp only [rIV, rJV, rAV, rLV, rQV, rV, reduceIte, Nat.reduceEqDiff]; exact hv1)) ?_
  refine Bod.astn dc_350_23 (by rw [ml_350]; exact Nat.le_of_ble_eq_true rfl) ?_
  refine Bod.go dc_350_24 rfl ?_
  refine Bod.go dc_350_25 rfl ?_
  refine Bod.ialdN (N := N) e95 rfl (by omega) (by omega) dc_350_26 (mk_isI (by first | exact hg1 | exact isK_S (by simp only [rIS, rJS, rAS, rLS, rVS, rQS, rS_hold]) hg1)) ?_
  refine Bod.eqI (nI e) (by first | assumption | rfl | exact congrArg nI (by omega) | (simp (disch := omega) only [rI, rIe, rA, rIA, rLA, rJA, rVI, rQI, rVA, rQA, upd_at,  rAI, rLI, rJI, nI_add, pk_sub, kc_0, kc_1, kc_2, kc_3, kc_4, kc_5, reduceIte, Nat.reduceEqDiff, Nat.add_zero, rI_hold, rI_hold, rL_hold, hcl, he95, he]; done)) ?_
  refine Bod.ist dc_350_27 (by rw [ml_350]; exact Nat.le_of_ble_eq_true rfl) ?_
  refine Bod.go dc_350_29 rfl ?_
  refine Bod.sw (t := 430) dc_350_31 rfl rfl (by rw [sw15]; decide +kernel) ?_
  refine Bod.go dc_350_430 rfl ?_
  refine Bod.go dc_350_431 rfl ?_
  refine Bod.get dc_350_432 fr_350_493 (mk_61 _) rfl ?_
  refine Bod.eqI (nI t) (by first | assumption | rfl | exact congrArg nI (by omega) | (simp (disch := omega) only [rI, rIe, rA, rIA, rLA, rJA, rVI, rQI, rVA, rQA, upd_at,  rAI, rLI, rJI, nI_add, pk_sub, kc_0, kc_1, kc_2, kc_3, kc_4, kc_5, reduceIte, Nat.reduceEqDiff, Nat.add_zero, rI_hold, rI_hold, rL_hold, hcl, he95, he, ht]; done)) ?_
  refine Bod.ic 1 (by decide) dc_350_435 ?_
  refine Bod.subN (t - 1) (by omega) (by omega) dc_350_436 ?_
  refine Bod.put dc_350_437 fr_350_493 (mk_61 _) (Nat.le_of_ble_eq_true rfl) pf_14_51 (st_6151 _ _) (mu_I _ _ _) ?_
  refine Bod.go dc_350_440 rfl ?_
  refine Bod.get dc_350_441 fr_350_572 (mk_61 _) rfl ?_
  refine Bod.go dc_350_444 rfl ?_
  refine Bod.go dc_350_445 rfl ?_
  refine Bod.go dc_350_446 rfl ?_
  refine Bod.get dc_350_447 fr_350_493 (mk_61 _) rfl ?_
  refine Bod.eqI (nI (t - 1)) (by first | assumption | (simp (disch := omega) only [rI, rIe, rA, rIA, rLA, rJA, rVI, rQI, rVA, rQA, upd_at,  rAI, rLI, rJI, nI_add, pk_sub, kc_0, kc_1, kc_2, kc_3, kc_4, kc_5, reduceIte, Nat.reduceEqDiff, Nat.add_zero, rI_hold, rI_hold, rL_hold, hcl, he95, he, ht]; done) | (simp (disch := omega) only [rI, rIe, rA, rIA, rLA, rJA, rVI, rQI, rVA, rQA, upd_at,  rAI, rLI, rJI, nI_add, pk_sub, kc_0, kc_1, kc_2, kc_3, kc_4, kc_5, reduceIte, Nat.reduceEqDiff, Nat.add_zero, rI_hold, rI_hold, rL_hold, hcl, he95, he, ht]; exact congrArg nI (by omega))) ?_
  refine Bod.virt (r := [_, _]) dc_350_450 kr_350_624 ⟨Or.inl rfl, ow_359, cl_14⟩ (by rw [np_359]; rfl) (by rw [np_359]; rfl) (ob_of (mk_61 _)) (Nat.le_of_ble_eq_true rfl) (c1  ) ?_
  show Bod _ _ _ _ [_, _, _] _ _ _
  refine Bod.ifT dc_350_453 rfl (k1_eq_T (k_eq 0 0 rfl rfl (by omega))) ?_
  refine Bod.go dc_350_462 rfl ?_
  refine Bod.ic 1 (by decide) dc_350_463 ?_
  refine Bod.addN (e95 + 1) (by omega) dc_350_464 ?_
  refine Bod.go dc_350_465 rfl ?_
  refine Bod.go dc_350_466 rfl ?_
  refine Bod.ic 1 (by decide) dc_350_467 ?_
  refine Bod.addN (e95 + 1) (by omega) dc_350_468 ?_
  refine Bod.ialdN (N := N) (e95 + 1) rfl (by omega) (by omega) dc_350_469 (mk_isI (by first | exact hy5 | exact isK_S (by simp only [rIS, rJS, rAS, rLS, rVS, rQS, rS_hold]) hy5)) ?_
  refine Bod.go dc_350_470 rfl ?_
  refine Bod.iastN (cl - 1) rfl (by omega) (by omega) dc_350_471 (mk_95 _) (sa_95 _ _ _) (mu_A _ _ _ _) ?_
  refine Bod.ic 1 (by decide) dc_350_472 ?_
  exact Bod.retZ dc_350_473 rt_350 (Or.inr rfl)
theorem rOn_17 {d : Nat} {S : cS} {cl : Nat} {e95 : Nat} {m : Nat} {zm : Nat} {r : Nat} {N : Nat} {e : Nat} {t : Nat} {S1 : cS} {t1 : Nat} (hcl : sI S 6159 = nI cl) (mcl : cl < 32) (b1 : 1 ≤ cl) (he95 : sA S 95 (cl - 1) = nI e95) (me95 : e95 < 2 ^ 20) (am : 108 ≤ m) (hq2 : sQ S 94 (cl - 1) = some m) (hz1 : (sS S)[m - 108]? = some (12, zm)) (hv1 : sV S (100 * m + 0) = .ref r) (hg1 : isK S r 0 N) (mN : N < 2 ^ 20) (b2 : e95 < N) (he : sA S r e95 = nI e) (me : e < 2 ^ 20) (sw15 : e = 13) (ht : sI S 6151 = nI t) (mt : t < 20481) (b3 : 1 ≤ t) (c1 : Ans (d + 8) 359 [.ref 61, .int (nI (t - 1))] S (some (.int (nI 1))) S1) (b4 : e ≠ 14) (ht1 : sI S1 6151 = nI t1) (mt1 : t1 < 20481) (b5 : 1 ≤ t1) : Bod (d + 8) 350 0 [(0, .ref 61)] [] S (some (.int 1)) (wA 95 (cl - 1) (nI (e95 + 2)) (wI 6151 (nI (t1 - 1)) S1)) := by
  refine Bod.go dc_350_0 rfl ?_
  refine Bod.get dc_350_1 fr_350_502 (mk_61 _) rfl ?_
  refine Bod.eqI (nI cl) (by first | assumption | rfl | exact congrArg nI (by omega) | (simp (disch := omega) only [rI, rIe, rA, rIA, rLA, rJA, rVI, rQI, rVA, rQA, upd_at,  rAI, rLI, rJI, nI_add, pk_sub, kc_0, kc_1, kc_2, kc_3, kc_4, kc_5, reduceIte, Nat.reduceEqDiff, Nat.add_zero, rI_hold, rI_hold, rL_hold, hcl]; done)) ?_
  refine Bod.ic 1 (by decide) dc_350_4 ?_
  refine Bod.subN (cl - 1) (by omega) (by omega) dc_350_5 ?_
  refine Bod.istn dc_350_6 (by rw [ml_350]; exact Nat.le_of_ble_eq_true rfl) ?_
  refine Bod.go dc_350_7 rfl ?_
  refine Bod.get dc_350_8 fr_350_572 (mk_61 _) rfl ?_
  refine Bod.go dc_350_11 rfl ?_
  refine Bod.ialdN (cl - 1) rfl (by omega) (by omega) dc_350_12 (mk_95 _) ?_
  refine Bod.eqI (nI e95) (by first | assumption | rfl | exact congrArg nI (by omega) | (simp (disch := omega) only [rI, rIe, rA, rIA, rLA, rJA, rVI, rQI, rVA, rQA, upd_at,  rAI, rLI, rJI, nI_add, pk_sub, kc_0, kc_1, kc_2, kc_3, kc_4, kc_5, reduceIte, Nat.reduceEqDiff, Nat.add_zero, rI_hold, rI_hold, rL_hold, hcl, he95]; done)) ?_
  refine Bod.istn dc_350_13 (by rw [ml_350]; exact Nat.le_of_ble_eq_true rfl) ?_
  refine Bod.go dc_350_14 rfl ?_
  refine Bod.get dc_350_15 fr_350_568 (mk_61 _) rfl ?_
  refine Bod.go dc_350_18 rfl ?_
  refine Bod.aaldR (N := 31) (b := m) (cl - 1) rfl (by omega) (by omega) hq2 dc_350_19 (mk_94 _) ht_6 ?_
  refine Bod.get dc_350_20 fr_350_222 (mk_code am (by first | exact hz1 | (simp only [rIS, rJS, rAS, rLS, rVS, rQS, rS_hold]; exact hz1))) rfl ?_
  refine Bod.eqV (.ref r) (by first | exact hv1 | (simp only [rIV, rJV, rAV, rLV, rQV, rV, reduceIte, Nat.reduceEqDiff]; exact hv1)) ?_
  refine Bod.astn dc_350_23 (by rw [ml_350]; exact Nat.le_of_ble_eq_true rfl) ?_
  refine Bod.go dc_350_24 rfl ?_
  refine Bod.go dc_350_25 rfl ?_
  refine Bod.ialdN (N := N) e95 rfl (by omega) (by omega) dc_350_26 (mk_isI (by first | exact hg1 | exact isK_S (by simp only [rIS, rJS, rAS, rLS, rVS, rQS, rS_hold]) hg1)) ?_
  refine Bod.eqI (nI e) (by first | assumption | rfl | exact congrArg nI (by omega) | (simp (disch := omega) only [rI, rIe, rA, rIA, rLA, rJA, rVI, rQI, rVA, rQA, upd_at,  rAI, rLI, rJI, nI_add, pk_sub, kc_0, kc_1, kc_2, kc_3, kc_4, kc_5, reduceIte, Nat.reduceEqDiff, Nat.add_zero, rI_hold, rI_hold, rL_hold, hcl, he95, he]; done)) ?_
  refine Bod.ist dc_350_27 (by rw [ml_350]; exact Nat.le_of_ble_eq_true rfl) ?_
  refine Bod.go dc_350_29 rfl ?_
  refine Bod.sw (t := 474) dc_350_31 rfl rfl (by rw [sw15]; decide +kernel) ?_
  refine Bod.go dc_350_474 rfl ?_
  refine Bod.go dc_350_475 rfl ?_
  refine Bod.get dc_350_476 fr_350_493 (mk_61 _) rfl ?_
  refine Bod.eqI (nI t) (by first | assumption | rfl | exact congrArg nI (by omega) | (simp (disch := omega) only [rI, rIe, rA, rIA, rLA, rJA, rVI, rQI, rVA, rQA, upd_at,  rAI, rLI, rJI, nI_add, pk_sub, kc_0, kc_1, kc_2, kc_3, kc_4, kc_5, reduceIte, Nat.reduceEqDiff, Nat.add_zero, rI_hold, rI_hold, rL_hold, hcl, he95, he, ht]; done)) ?_
  refine Bod.ic 1 (by decide) dc_350_479 ?_
  refine Bod.subN (t - 1) (by omega) (by omega) dc_350_480 ?_
  refine Bod.virt (r := []) dc_350_481 kr_350_624 ⟨Or.inl rfl, ow_359, cl_14⟩ (by rw [np_359]; rfl) (by rw [np_359]; rfl) (ob_of (mk_61 _)) (Nat.le_of_ble_eq_true rfl) (c1  ) ?_
  show Bod _ _ _ _ [_] _ _ _
  refine Bod.go dc_350_484 rfl ?_
  refine Bod.bip 14 (by decide) dc_350_486 ?_
  refine Bod.icT dc_350_488 rfl (k2_ne_T (k_ne e 14 rfl rfl (by omega) (by omega) (by omega))) ?_
  refine Bod.ic 0 (by decide) dc_350_495 ?_
  refine Bod.icT dc_350_496 rfl (k2_ne_T (k_ne 1 0 rfl rfl (by omega) (by omega) (by omega))) ?_
  refine Bod.ic 0 (by decide) dc_350_503 ?_
  refine Bod.ist dc_350_504 (by rw [ml_350]; exact Nat.le_of_ble_eq_true rfl) ?_
  refine Bod.go dc_350_506 rfl ?_
  refine Bod.ifF dc_350_508 rfl (k1_ne_F (k_eq 0 0 rfl rfl (by omega))) ?_
  refine Bod.go dc_350_511 rfl ?_
  refine Bod.go dc_350_512 rfl ?_
  refine Bod.get dc_350_513 fr_350_493 (mk_61 _) rfl ?_
  refine Bod.eqI (nI t1) (by first | assumption | (simp (disch := omega) only [rI, rIe, rA, rIA, rLA, rJA, rVI, rQI, rVA, rQA, upd_at,  rAI, rLI, rJI, nI_add, pk_sub, kc_0, kc_1, kc_2, kc_3, kc_4, kc_5, reduceIte, Nat.reduceEqDiff, Nat.add_zero, rI_hold, rI_hold, rL_hold, hcl, he95, he, ht, ht1]; done) | (simp (disch := omega) only [rI, rIe, rA, rIA, rLA, rJA, rVI, rQI, rVA, rQA, upd_at,  rAI, rLI, rJI, nI_add, pk_sub, kc_0, kc_1, kc_2, kc_3, kc_4, kc_5, reduceIte, Nat.reduceEqDiff, Nat.add_zero, rI_hold, rI_hold, rL_hold, hcl, he95, he, ht, ht1]; exact congrArg nI (by omega))) ?_
  refine Bod.ic 1 (by decide) dc_350_516 ?_
  refine Bod.subN (t1 - 1) (by omega) (by omega) dc_350_517 ?_
  refine Bod.put dc_350_518 fr_350_493 (mk_61 _) (Nat.le_of_ble_eq_true rfl) pf_14_51 (st_6151 _ _) (mu_I _ _ _) ?_
  refine Bod.go dc_350_521 rfl ?_
  refine Bod.get dc_350_522 fr_350_572 (mk_61 _) rfl ?_
  refine Bod.go dc_350_525 rfl ?_
  refine Bod.go dc_350_526 rfl ?_
  refine Bod.ifT dc_350_528 rfl (k1_eq_T (k_eq 0 0 rfl rfl (by omega))) ?_
  refine Bod.go dc_350_543 rfl ?_
  refine Bod.ic 2 (by decide) dc_350_544 ?_
  refine Bod.addN (e95 + 2) (by omega) dc_350_545 ?_
  refine Bod.iastN (cl - 1) rfl (by omega) (by omega) dc_350_546 (mk_95 _) (sa_95 _ _ _) (mu_A _ _ _ _) ?_
  refine Bod.ic 1 (by decide) dc_350_547 ?_
  exact Bod.retZ dc_350_548 rt_350 (Or.inr rfl)
theorem rOn_18 {d : Nat} {S : cS} {cl : Nat} {e95 : Nat} {m : Nat} {zm : Nat} {r : Nat} {N : Nat} {e : Nat} {t : Nat} {S1 : cS} (hcl : sI S 6159 = nI cl) (mcl : cl < 32) (b1 : 1 ≤ cl) (he95 : sA S 95 (cl - 1) = nI e95) (me95 : e95 < 2 ^ 20) (am : 108 ≤ m) (hq2 : sQ S 94 (cl - 1) = some m) (hz1 : (sS S)[m - 108]? = some (12, zm)) (hv1 : sV S (100 * m + 0) = .ref r) (hg1 : isK S r 0 N) (mN : N < 2 ^ 20) (b2 : e95 < N) (he : sA S r e95 = nI e) (me : e < 2 ^ 20) (sw15 : e = 13) (ht : sI S 6151 = nI t) (mt : t < 20481) (b3 : 1 ≤ t) (c1 : Ans (d + 8) 359 [.ref 61, .int (nI (t - 1))] S (some (.int (nI 1))) S1) (b4 : e = 14) (b5 : (e95 + 1) < N) (hy5 : isK S1 r 0 N) : Bod (d + 8) 350 0 [(0, .ref 61)] [] S (some (.int 1)) (wA 95 (cl - 1) ((nI (e95 + 1)) + (sA S1 r (e95 + 1))) S1) := by
  refine Bod.go dc_350_0 rfl ?_
  refine Bod.get dc_350_1 fr_350_502 (mk_61 _) rfl ?_
  refine Bod.eqI (nI cl) (by first | assumption | rfl | exact congrArg nI (by omega) | (simp (disch := omega) only [rI, rIe, rA, rIA, rLA, rJA, rVI, rQI, rVA, rQA, upd_at,  rAI, rLI, rJI, nI_add, pk_sub, kc_0, kc_1, kc_2, kc_3, kc_4, kc_5, reduceIte, Nat.reduceEqDiff, Nat.add_zero, rI_hold, rI_hold, rL_hold, hcl]; done)) ?_
  refine Bod.ic 1 (by decide) dc_350_4 ?_
  refine Bod.subN (cl - 1) (by omega) (by omega) dc_350_5 ?_
  refine Bod.istn dc_350_6 (by rw [ml_350]; exact Nat.le_of_ble_eq_true rfl) ?_
  refine Bod.go dc_350_7 rfl ?_
  refine Bod.get dc_350_8 fr_350_572 (mk_61 _) rfl ?_
  refine Bod.go dc_350_11 rfl ?_
  refine Bod.ialdN (cl - 1) rfl (by omega) (by omega) dc_350_12 (mk_95 _) ?_
  refine Bod.eqI (nI e95) (by first | assumption | rfl | exact congrArg nI (by omega) | (simp (disch := omega) only [rI, rIe, rA, rIA, rLA, rJA, rVI, rQI, rVA, rQA, upd_at,  rAI, rLI, rJI, nI_add, pk_sub, kc_0, kc_1, kc_2, kc_3, kc_4, kc_5, reduceIte, Nat.reduceEqDiff, Nat.add_zero, rI_hold, rI_hold, rL_hold, hcl, he95]; done)) ?_
  refine Bod.istn dc_350_13 (by rw [ml_350]; exact Nat.le_of_ble_eq_true rfl) ?_
  refine Bod.go dc_350_14 rfl ?_
  refine Bod.get dc_350_15 fr_350_568 (mk_61 _) rfl ?_
  refine Bod.go dc_350_18 rfl ?_
  refine Bod.aaldR (N := 31) (b := m) (cl - 1) rfl (by omega) (by omega) hq2 dc_350_19 (mk_94 _) ht_6 ?_
  refine Bod.get dc_350_20 fr_350_222 (mk_code am (by first | exact hz1 | (simp only [rIS, rJS, rAS, rLS, rVS, rQS, rS_hold]; exact hz1))) rfl ?_
  refine Bod.eqV (.ref r) (by first | exact hv1 | (simp only [rIV, rJV, rAV, rLV, rQV, rV, reduceIte, Nat.reduceEqDiff]; exact hv1)) ?_
  refine Bod.astn dc_350_23 (by rw [ml_350]; exact Nat.le_of_ble_eq_true rfl) ?_
  refine Bod.go dc_350_24 rfl ?_
  refine Bod.go dc_350_25 rfl ?_
  refine Bod.ialdN (N := N) e95 rfl (by omega) (by omega) dc_350_26 (mk_isI (by first | exact hg1 | exact isK_S (by simp only [rIS, rJS, rAS, rLS, rVS, rQS, rS_hold]) hg1)) ?_
  refine Bod.eqI (nI e) (by first | assumption | rfl | exact congrArg nI (by omega) | (simp (disch := omega) only [rI, rIe, rA, rIA, rLA, rJA, rVI, rQI, rVA, rQA, upd_at,  rAI, rLI, rJI, nI_add, pk_sub, kc_0, kc_1, kc_2, kc_3, kc_4, kc_5, reduceIte, Nat.reduceEqDiff, Nat.add_zero, rI_hold, rI_hold, rL_hold, hcl, he95, he]; done)) ?_
  refine Bod.ist dc_350_27 (by rw [ml_350]; exact Nat.le_of_ble_eq_true rfl) ?_
  refine Bod.go dc_350_29 rfl ?_
  refine Bod.sw (t := 474) dc_350_31 rfl rfl (by rw [sw15]; decide +kernel) ?_
  refine Bod.go dc_350_474 rfl ?_
  refine Bod.go dc_350_475 rfl ?_
  refine Bod.get dc_350_476 fr_350_493 (mk_61 _) rfl ?_
  refine Bod.eqI (nI t) (by first | assumption | rfl | exact congrArg nI (by omega) | (simp (disch := omega) only [rI, rIe, rA, rIA, rLA, rJA, rVI, rQI, rVA, rQA, upd_at,  rAI, rLI, rJI, nI_add, pk_sub, kc_0, kc_1, kc_2, kc_3, kc_4, kc_5, reduceIte, Nat.reduceEqDiff, Nat.add_zero, rI_hold, rI_hold, rL_hold, hcl, he95, he, ht]; done)) ?_
  refine Bod.ic 1 (by decide) dc_350_479 ?_
  refine Bod.subN (t - 1) (by omega) (by omega) dc_350_480 ?_
  refine Bod.virt (r := []) dc_350_481 kr_350_624 ⟨Or.inl rfl, ow_359, cl_14⟩ (by rw [np_359]; rfl) (by rw [np_359]; rfl) (ob_of (mk_61 _)) (Nat.le_of_ble_eq_true rfl) (c1  ) ?_
  show Bod _ _ _ _ [_] _ _ _
  refine Bod.go dc_350_484 rfl ?_
  refine Bod.bip 14 (by decide) dc_350_486 ?_
  refine Bod.icF dc_350_488 rfl (k2_ne_F (k_eq e 14 rfl rfl (by omega))) ?_
  refine Bod.ic 1 (by decide) dc_350_491 ?_
  refine Bod.go dc_350_492 rfl ?_
  refine Bod.icF dc_350_496 rfl (k2_ne_F (k_eq 1 1 rfl rfl (by omega))) ?_
  refine Bod.ic 1 (by decide) dc_350_499 ?_
  refine Bod.go dc_350_500 rfl ?_
  refine Bod.ist dc_350_504 (by rw [ml_350]; exact Nat.le_of_ble_eq_true rfl) ?_
  refine Bod.go dc_350_506 rfl ?_
  refine Bod.ifT dc_350_508 rfl (k1_ne_T (k_ne 1 0 rfl rfl (by omega) (by omega) (by omega))) ?_
  refine Bod.go dc_350_521 rfl ?_
  refine Bod.get dc_350_522 fr_350_572 (mk_61 _) rfl ?_
  refine Bod.go dc_350_525 rfl ?_
  refine Bod.go dc_350_526 rfl ?_
  refine Bod.ifF dc_350_528 rfl (k1_eq_F (k_ne 1 0 rfl rfl (by omega) (by omega) (by omega))) ?_
  refine Bod.go dc_350_531 rfl ?_
  refine Bod.ic 1 (by decide) dc_350_532 ?_
  refine Bod.addN (e95 + 1) (by omega) dc_350_533 ?_
  refine Bod.go dc_350_534 rfl ?_
  refine Bod.go dc_350_535 rfl ?_
  refine Bod.ic 1 (by decide) dc_350_536 ?_
  refine Bod.addN (e95 + 1) (by omega) dc_350_537 ?_
  refine Bod.ialdN (N := N) (e95 + 1) rfl (by omega) (by omega) dc_350_538 (mk_isI (by first | exact hy5 | exact isK_S (by simp only [rIS, rJS, rAS, rLS, rVS, rQS, rS_hold]) hy5)) ?_
  refine Bod.go dc_350_539 rfl ?_
  refine Bod.go dc_350_540 rfl ?_
  refine Bod.iastN (cl - 1) rfl (by omega) (by omega) dc_350_546 (mk_95 _) (sa_95 _ _ _) (mu_A _ _ _ _) ?_
  refine Bod.ic 1 (by decide) dc_350_547 ?_
  exact Bod.retZ dc_350_548 rt_350 (Or.inr rfl)
theorem rOn_19 {d : Nat} {S : cS} {cl : Nat} {e95 : Nat} {m : Nat} {zm : Nat} {r : Nat} {N : Nat} {e : Nat} {t : Nat} {S1 : cS} (hcl : sI S 6159 = nI cl) (mcl : cl < 32) (b1 : 1 ≤ cl) (he95 : sA S 95 (cl - 1) = nI e95) (me95 : e95 < 2 ^ 20) (am : 108 ≤ m) (hq2 : sQ S 94 (cl - 1) = some m) (hz1 : (sS S)[m - 108]? = some (12, zm)) (hv1 : sV S (100 * m + 0) = .ref r) (hg1 : isK S r 0 N) (mN : N < 2 ^ 20) (b2 : e95 < N) (he : sA S r e95 = nI e) (me : e < 2 ^ 20) (sw15 : e = 13) (ht : sI S 6151 = nI t) (mt : t < 20481) (b3 : 1 ≤ t) (c1 : Ans (d + 8) 359 [.ref 61, .int (nI (t - 1))] S (some (.int (nI 0))) S1) (b4 : e ≠ 14) (b5 : (e95 + 1) < N) (hy5 : isK S1 r 0 N) : Bod (d + 8) 350 0 [(0, .ref 61)] [] S (some (.int 1)) (wA 95 (cl - 1) ((nI (e95 + 1)) + (sA S1 r (e95 + 1))) S1) := by
  refine Bod.go dc_350_0 rfl ?_
  refine Bod.get dc_350_1 fr_350_502 (mk_61 _) rfl ?_
  refine Bod.eqI (nI cl) (by first | assumption | rfl | exact congrArg nI (by omega) | (simp (disch := omega) only [rI, rIe, rA, rIA, rLA, rJA, rVI, rQI, rVA, rQA, upd_at,  rAI, rLI, rJI, nI_add, pk_sub, kc_0, kc_1, kc_2, kc_3, kc_4, kc_5, reduceIte, Nat.reduceEqDiff, Nat.add_zero, rI_hold, rI_hold, rL_hold, hcl]; done)) ?_
  refine Bod.ic 1 (by decide) dc_350_4 ?_
  refine Bod.subN (cl - 1) (by omega) (by omega) dc_350_5 ?_
  refine Bod.istn dc_350_6 (by rw [ml_350]; exact Nat.le_of_ble_eq_true rfl) ?_
  refine Bod.go dc_350_7 rfl ?_
  refine Bod.get dc_350_8 fr_350_572 (mk_61 _) rfl ?_
  refine Bod.go dc_350_11 rfl ?_
  refine Bod.ialdN (cl - 1) rfl (by omega) (by omega) dc_350_12 (mk_95 _) ?_
  refine Bod.eqI (nI e95) (by first | assumption | rfl | exact congrArg nI (by omega) | (simp (disch := omega) only [rI, rIe, rA, rIA, rLA, rJA, rVI, rQI, rVA, rQA, upd_at,  rAI, rLI, rJI, nI_add, pk_sub, kc_0, kc_1, kc_2, kc_3, kc_4, kc_5, reduceIte, Nat.reduceEqDiff, Nat.add_zero, rI_hold, rI_hold, rL_hold, hcl, he95]; done)) ?_
  refine Bod.istn dc_350_13 (by rw [ml_350]; exact Nat.le_of_ble_eq_true rfl) ?_
  refine Bod.go dc_350_14 rfl ?_
  refine Bod.get dc_350_15 fr_350_568 (mk_61 _) rfl ?_
  refine Bod.go dc_350_18 rfl ?_
  refine Bod.aaldR (N := 31) (b := m) (cl - 1) rfl (by omega) (by omega) hq2 dc_350_19 (mk_94 _) ht_6 ?_
  refine Bod.get dc_350_20 fr_350_222 (mk_code am (by first | exact hz1 | (simp only [rIS, rJS, rAS, rLS, rVS, rQS, rS_hold]; exact hz1))) rfl ?_
  refine Bod.eqV (.ref r) (by first | exact hv1 | (simp only [rIV, rJV, rAV, rLV, rQV, rV, reduceIte, Nat.reduceEqDiff]; exact hv1)) ?_
  refine Bod.astn dc_350_23 (by rw [ml_350]; exact Nat.le_of_ble_eq_true rfl) ?_
  refine Bod.go dc_350_24 rfl ?_
  refine Bod.go dc_350_25 rfl ?_
  refine Bod.ialdN (N := N) e95 rfl (by omega) (by omega) dc_350_26 (mk_isI (by first | exact hg1 | exact isK_S (by simp only [rIS, rJS, rAS, rLS, rVS, rQS, rS_hold]) hg1)) ?_
  refine Bod.eqI (nI e) (by first | assumption | rfl | exact congrArg nI (by omega) | (simp (disch := omega) only [rI, rIe, rA, rIA, rLA, rJA, rVI, rQI, rVA, rQA, upd_at,  rAI, rLI, rJI, nI_add, pk_sub, kc_0, kc_1, kc_2, kc_3, kc_4, kc_5, reduceIte, Nat.reduceEqDiff, Nat.add_zero, rI_hold, rI_hold, rL_hold, hcl, he95, he]; done)) ?_
  refine Bod.ist dc_350_27 (by rw [ml_350]; exact Nat.le_of_ble_eq_true rfl) ?_
  refine Bod.go dc_350_29 rfl ?_
  refine Bod.sw (t := 474) dc_350_31 rfl rfl (by rw [sw15]; decide +kernel) ?_
  refine Bod.go dc_350_474 rfl ?_
  refine Bod.go dc_350_475 rfl ?_
  refine Bod.get dc_350_476 fr_350_493 (mk_61 _) rfl ?_
  refine Bod.eqI (nI t) (by first | assumption | rfl | exact congrArg nI (by omega) | (simp (disch := omega) only [rI, rIe, rA, rIA, rLA, rJA, rVI, rQI, rVA, rQA, upd_at,  rAI, rLI, rJI, nI_add, pk_sub, kc_0, kc_1, kc_2, kc_3, kc_4, kc_5, reduceIte, Nat.reduceEqDiff, Nat.add_zero, rI_hold, rI_hold, rL_hold, hcl, he95, he, ht]; done)) ?_
  refine Bod.ic 1 (by decide) dc_350_479 ?_
  refine Bod.subN (t - 1) (by omega) (by omega) dc_350_480 ?_
  refine Bod.virt (r := []) dc_350_481 kr_350_624 ⟨Or.inl rfl, ow_359, cl_14⟩ (by rw [np_359]; rfl) (by rw [np_359]; rfl) (ob_of (mk_61 _)) (Nat.le_of_ble_eq_true rfl) (c1  ) ?_
  show Bod _ _ _ _ [_] _ _ _
  refine Bod.go dc_350_484 rfl ?_
  refine Bod.bip 14 (by decide) dc_350_486 ?_
  refine Bod.icT dc_350_488 rfl (k2_ne_T (k_ne e 14 rfl rfl (by omega) (by omega) (by omega))) ?_
  refine Bod.ic 0 (by decide) dc_350_495 ?_
  refine Bod.icF dc_350_496 rfl (k2_ne_F (k_eq 0 0 rfl rfl (by omega))) ?_
  refine Bod.ic 1 (by decide) dc_350_499 ?_
  refine Bod.go dc_350_500 rfl ?_
  refine Bod.ist dc_350_504 (by rw [ml_350]; exact Nat.le_of_ble_eq_true rfl) ?_
  refine Bod.go dc_350_506 rfl ?_
  refine Bod.ifT dc_350_508 rfl (k1_ne_T (k_ne 1 0 rfl rfl (by omega) (by omega) (by omega))) ?_
  refine Bod.go dc_350_521 rfl ?_
  refine Bod.get dc_350_522 fr_350_572 (mk_61 _) rfl ?_
  refine Bod.go dc_350_525 rfl ?_
  refine Bod.go dc_350_526 rfl ?_
  refine Bod.ifF dc_350_528 rfl (k1_eq_F (k_ne 1 0 rfl rfl (by omega) (by omega) (by omega))) ?_
  refine Bod.go dc_350_531 rfl ?_
  refine Bod.ic 1 (by decide) dc_350_532 ?_
  refine Bod.addN (e95 + 1) (by omega) dc_350_533 ?_
  refine Bod.go dc_350_534 rfl ?_
  refine Bod.go dc_350_535 rfl ?_
  refine Bod.ic 1 (by decide) dc_350_536 ?_
  refine Bod.addN (e95 + 1) (by omega) dc_350_537 ?_
  refine Bod.ialdN (N := N) (e95 + 1) rfl (by omega) (by omega) dc_350_538 (mk_isI (by first | exact hy5 | exact isK_S (by simp only [rIS, rJS, rAS, rLS, rVS, rQS, rS_hold]) hy5)) ?_
  refine Bod.go dc_350_539 rfl ?_
  refine Bod.go dc_350_540 rfl ?_
  refine Bod.iastN (cl - 1) rfl (by omega) (by omega) dc_350_546 (mk_95 _) (sa_95 _ _ _) (mu_A _ _ _ _) ?_
  refine Bod.ic 1 (by decide) dc_350_547 ?_
  exact Bod.retZ dc_350_548 rt_350 (Or.inr rfl)
theorem rOn_20 {d : Nat} {S : cS} {cl : Nat} {e95 : Nat} {m : Nat} {zm : Nat} {r : Nat} {N : Nat} {e : Nat} {t : Nat} {S1 : cS} {t1 : Nat} (hcl : sI S 6159 = nI cl) (mcl : cl < 32) (b1 : 1 ≤ cl) (he95 : sA S 95 (cl - 1) = nI e95) (me95 : e95 < 2 ^ 20) (am : 108 ≤ m) (hq2 : sQ S 94 (cl - 1) = some m) (hz1 : (sS S)[m - 108]? = some (12, zm)) (hv1 : sV S (100 * m + 0) = .ref r) (hg1 : isK S r 0 N) (mN : N < 2 ^ 20) (b2 : e95 < N) (he : sA S r e95 = nI e) (me : e < 2 ^ 20) (sw15 : e = 13) (ht : sI S 6151 = nI t) (mt : t < 20481) (b3 : 1 ≤ t) (c1 : Ans (d + 8) 359 [.ref 61, .int (nI (t - 1))] S (some (.int (nI 0))) S1) (b4 : e = 14) (ht1 : sI S1 6151 = nI t1) (mt1 : t1 < 20481) (b5 : 1 ≤ t1) : Bod (d + 8) 350 0 [(0, .ref 61)] [] S (some (.int 1)) (wA 95 (cl - 1) (nI (e95 + 2)) (wI 6151 (nI (t1 - 1)) S1)) := by
  refine Bod.go dc_350_0 rfl ?_
  refine Bod.get dc_350_1 fr_350_502 (mk_61 _) rfl ?_
  refine Bod.eqI (nI cl) (by first | assumption | rfl | exact congrArg nI (by omega) | (simp (disch := omega) only [rI, rIe, rA, rIA, rLA, rJA, rVI, rQI, rVA, rQA, upd_at,  rAI, rLI, rJI, nI_add, pk_sub, kc_0, kc_1, kc_2, kc_3, kc_4, kc_5, reduceIte, Nat.reduceEqDiff, Nat.add_zero, rI_hold, rI_hold, rL_hold, hcl]; done)) ?_
  refine Bod.ic 1 (by decide) dc_350_4 ?_
  refine Bod.subN (cl - 1) (by omega) (by omega) dc_350_5 ?_
  refine Bod.istn dc_350_6 (by rw [ml_350]; exact Nat.le_of_ble_eq_true rfl) ?_
  refine Bod.go dc_350_7 rfl ?_
  refine Bod.get dc_350_8 fr_350_572 (mk_61 _) rfl ?_
  refine Bod.go dc_350_11 rfl ?_
  refine Bod.ialdN (cl - 1) rfl (by omega) (by omega) dc_350_12 (mk_95 _) ?_
  refine Bod.eqI (nI e95) (by first | assumption | rfl | exact congrArg nI (by omega) | (simp (disch := omega) only [rI, rIe, rA, rIA, rLA, rJA, rVI, rQI, rVA, rQA, upd_at,  rAI, rLI, rJI, nI_add, pk_sub, kc_0, kc_1, kc_2, kc_3, kc_4, kc_5, reduceIte, Nat.reduceEqDiff, Nat.add_zero, rI_hold, rI_hold, rL_hold, hcl, he95]; done)) ?_
  refine Bod.istn dc_350_13 (by rw [ml_350]; exact Nat.le_of_ble_eq_true rfl) ?_
  refine Bod.go dc_350_14 rfl ?_
  refine Bod.get dc_350_15 fr_350_568 (mk_61 _) rfl ?_
  refine Bod.go dc_350_18 rfl ?_
  refine Bod.aaldR (N := 31) (b := m) (cl - 1) rfl (by omega) (by omega) hq2 dc_350_19 (mk_94 _) ht_6 ?_
  refine Bod.get dc_350_20 fr_350_222 (mk_code am (by first | exact hz1 | (simp only [rIS, rJS, rAS, rLS, rVS, rQS, rS_hold]; exact hz1))) rfl ?_
  refine Bod.eqV (.ref r) (by first | exact hv1 | (simp only [rIV, rJV, rAV, rLV, rQV, rV, reduceIte, Nat.reduceEqDiff]; exact hv1)) ?_
  refine Bod.astn dc_350_23 (by rw [ml_350]; exact Nat.le_of_ble_eq_true rfl) ?_
  refine Bod.go dc_350_24 rfl ?_
  refine Bod.go dc_350_25 rfl ?_
  refine Bod.ialdN (N := N) e95 rfl (by omega) (by omega) dc_350_26 (mk_isI (by first | exact hg1 | exact isK_S (by simp only [rIS, rJS, rAS, rLS, rVS, rQS, rS_hold]) hg1)) ?_
  refine Bod.eqI (nI e) (by first | assumption | rfl | exact congrArg nI (by omega) | (simp (disch := omega) only [rI, rIe, rA, rIA, rLA, rJA, rVI, rQI, rVA, rQA, upd_at,  rAI, rLI, rJI, nI_add, pk_sub, kc_0, kc_1, kc_2, kc_3, kc_4, kc_5, reduceIte, Nat.reduceEqDiff, Nat.add_zero, rI_hold, rI_hold, rL_hold, hcl, he95, he]; done)) ?_
  refine Bod.ist dc_350_27 (by rw [ml_350]; exact Nat.le_of_ble_eq_true rfl) ?_
  refine Bod.go dc_350_29 rfl ?_
  refine Bod.sw (t := 474) dc_350_31 rfl rfl (by rw [sw15]; decide +kernel) ?_
  refine Bod.go dc_350_474 rfl ?_
  refine Bod.go dc_350_475 rfl ?_
  refine Bod.get dc_350_476 fr_350_493 (mk_61 _) rfl ?_
  refine Bod.eqI (nI t) (by first | assumption | rfl | exact congrArg nI (by omega) | (simp (disch := omega) only [rI, rIe, rA, rIA, rLA, rJA, rVI, rQI, rVA, rQA, upd_at,  rAI, rLI, rJI, nI_add, pk_sub, kc_0, kc_1, kc_2, kc_3, kc_4, kc_5, reduceIte, Nat.reduceEqDiff, Nat.add_zero, rI_hold, rI_hold, rL_hold, hcl, he95, he, ht]; done)) ?_
  refine Bod.ic 1 (by decide) dc_350_479 ?_
  refine Bod.subN (t - 1) (by omega) (by omega) dc_350_480 ?_
  refine Bod.virt (r := []) dc_350_481 kr_350_624 ⟨Or.inl rfl, ow_359, cl_14⟩ (by rw [np_359]; rfl) (by rw [np_359]; rfl) (ob_of (mk_61 _)) (Nat.le_of_ble_eq_true rfl) (c1  ) ?_
  show Bod _ _ _ _ [_] _ _ _
  refine Bod.go dc_350_484 rfl ?_
  refine Bod.bip 14 (by decide) dc_350_486 ?_
  refine Bod.icF dc_350_488 rfl (k2_ne_F (k_eq e 14 rfl rfl (by omega))) ?_
  refine Bod.ic 1 (by decide) dc_350_491 ?_
  refine Bod.go dc_350_492 rfl ?_
  refine Bod.icT dc_350_496 rfl (k2_ne_T (k_ne 0 1 rfl rfl (by omega) (by omega) (by omega))) ?_
  refine Bod.ic 0 (by decide) dc_350_503 ?_
  refine Bod.ist dc_350_504 (by rw [ml_350]; exact Nat.le_of_ble_eq_true rfl) ?_
  refine Bod.go dc_350_506 rfl ?_
  refine Bod.ifF dc_350_508 rfl (k1_ne_F (k_eq 0 0 rfl rfl (by omega))) ?_
  refine Bod.go dc_350_511 rfl ?_
  refine Bod.go dc_350_512 rfl ?_
  refine Bod.get dc_350_513 fr_350_493 (mk_61 _) rfl ?_
  refine Bod.eqI (nI t1) (by first | assumption | (simp (disch := omega) only [rI, rIe, rA, rIA, rLA, rJA, rVI, rQI, rVA, rQA, upd_at,  rAI, rLI, rJI, nI_add, pk_sub, kc_0, kc_1, kc_2, kc_3, kc_4, kc_5, reduceIte, Nat.reduceEqDiff, Nat.add_zero, rI_hold, rI_hold, rL_hold, hcl, he95, he, ht, ht1]; done) | (simp (disch := omega) only [rI, rIe, rA, rIA, rLA, rJA, rVI, rQI, rVA, rQA, upd_at,  rAI, rLI, rJI, nI_add, pk_sub, kc_0, kc_1, kc_2, kc_3, kc_4, kc_5, reduceIte, Nat.reduceEqDiff, Nat.add_zero, rI_hold, rI_hold, rL_hold, hcl, he95, he, ht, ht1]; exact congrArg nI (by omega))) ?_
  refine Bod.ic 1 (by decide) dc_350_516 ?_
  refine Bod.subN (t1 - 1) (by omega) (by omega) dc_350_517 ?_
  refine Bod.put dc_350_518 fr_350_493 (mk_61 _) (Nat.le_of_ble_eq_true rfl) pf_14_51 (st_6151 _ _) (mu_I _ _ _) ?_
  refine Bod.go dc_350_521 rfl ?_
  refine Bod.get dc_350_522 fr_350_572 (mk_61 _) rfl ?_
  refine Bod.go dc_350_525 rfl ?_
  refine Bod.go dc_350_526 rfl ?_
  refine Bod.ifT dc_350_528 rfl (k1_eq_T (k_eq 0 0 rfl rfl (by omega))) ?_
  refine Bod.go dc_350_543 rfl ?_
  refine Bod.ic 2 (by decide) dc_350_544 ?_
  refine Bod.addN (e95 + 2) (by omega) dc_350_545 ?_
  refine Bod.iastN (cl - 1) rfl (by omega) (by omega) dc_350_546 (mk_95 _) (sa_95 _ _ _) (mu_A _ _ _ _) ?_
  refine Bod.ic 1 (by decide) dc_350_547 ?_
  exact Bod.retZ dc_350_548 rt_350 (Or.inr rfl)
theorem rOn_21 {d : Nat} {S : cS} {cl : Nat} {e95 : Nat} {m : Nat} {zm : Nat} {r : Nat} {N : Nat} {e : Nat} {t : Nat} {S1 : cS} {t1 : Nat} (hcl : sI S 6159 = nI cl) (mcl : cl < 32) (b1 : 1 ≤ cl) (he95 : sA S 95 (cl - 1) = nI e95) (me95 : e95 < 2 ^ 20) (am : 108 ≤ m) (hq2 : sQ S 94 (cl - 1) = some m) (hz1 : (sS S)[m - 108]? = some (12, zm)) (hv1 : sV S (100 * m + 0) = .ref r) (hg1 : isK S r 0 N) (mN : N < 2 ^ 20) (b2 : e95 < N) (he : sA S r e95 = nI e) (me : e < 2 ^ 20) (sw15 : e = 14) (ht : sI S 6151 = nI t) (mt : t < 20481) (b3 : 1 ≤ t) (c1 : Ans (d + 8) 359 [.ref 61, .int (nI (t - 1))] S (some (.int (nI 1))) S1) (b4 : e ≠ 14) (ht1 : sI S1 6151 = nI t1) (mt1 : t1 < 20481) (b5 : 1 ≤ t1) : Bod (d + 8) 350 0 [(0, .ref 61)] [] S (some (.int 1)) (wA 95 (cl - 1) (nI (e95 + 2)) (wI 6151 (nI (t1 - 1)) S1)) := by
  refine Bod.go dc_350_0 rfl ?_
  refine Bod.get dc_350_1 fr_350_502 (mk_61 _) rfl ?_
  refine Bod.eqI (nI cl) (by first | assumption | rfl | exact congrArg nI (by omega) | (simp (disch := omega) only [rI, rIe, rA, rIA, rLA, rJA, rVI, rQI, rVA, rQA, upd_at,  rAI, rLI, rJI, nI_add, pk_sub, kc_0, kc_1, kc_2, kc_3, kc_4, kc_5, reduceIte, Nat.reduceEqDiff, Nat.add_zero, rI_hold, rI_hold, rL_hold, hcl]; done)) ?_
  refine Bod.ic 1 (by decide) dc_350_4 ?_
  refine Bod.subN (cl - 1) (by omega) (by omega) dc_350_5 ?_
  refine Bod.istn dc_350_6 (by rw [ml_350]; exact Nat.le_of_ble_eq_true rfl) ?_
  refine Bod.go dc_350_7 rfl ?_
  refine Bod.get dc_350_8 fr_350_572 (mk_61 _) rfl ?_
  refine Bod.go dc_350_11 rfl ?_
  refine Bod.ialdN (cl - 1) rfl (by omega) (by omega) dc_350_12 (mk_95 _) ?_
  refine Bod.eqI (nI e95) (by first | assumption | rfl | exact congrArg nI (by omega) | (simp (disch := omega) only [rI, rIe, rA, rIA, rLA, rJA, rVI, rQI, rVA, rQA, upd_at,  rAI, rLI, rJI, nI_add, pk_sub, kc_0, kc_1, kc_2, kc_3, kc_4, kc_5, reduceIte, Nat.reduceEqDiff, Nat.add_zero, rI_hold, rI_hold, rL_hold, hcl, he95]; done)) ?_
  refine Bod.istn dc_350_13 (by rw [ml_350]; exact Nat.le_of_ble_eq_true rfl) ?_
  refine Bod.go dc_350_14 rfl ?_
  refine Bod.get dc_350_15 fr_350_568 (mk_61 _) rfl ?_
  refine Bod.go dc_350_18 rfl ?_
  refine Bod.aaldR (N := 31) (b := m) (cl - 1) rfl (by omega) (by omega) hq2 dc_350_19 (mk_94 _) ht_6 ?_
  refine Bod.get dc_350_20 fr_350_222 (mk_code am (by first | exact hz1 | (simp only [rIS, rJS, rAS, rLS, rVS, rQS, rS_hold]; exact hz1))) rfl ?_
  refine Bod.eqV (.ref r) (by first | exact hv1 | (simp only [rIV, rJV, rAV, rLV, rQV, rV, reduceIte, Nat.reduceEqDiff]; exact hv1)) ?_
  refine Bod.astn dc_350_23 (by rw [ml_350]; exact Nat.le_of_ble_eq_true rfl) ?_
  refine Bod.go dc_350_24 rfl ?_
  refine Bod.go dc_350_25 rfl ?_
  refine Bod.ialdN (N := N) e95 rfl (by omega) (by omega) dc_350_26 (mk_isI (by first | exact hg1 | exact isK_S (by simp only [rIS, rJS, rAS, rLS, rVS, rQS, rS_hold]) hg1)) ?_
  refine Bod.eqI (nI e) (by first | assumption | rfl | exact congrArg nI (by omega) | (simp (disch := omega) only [rI, rIe, rA, rIA, rLA, rJA, rVI, rQI, rVA, rQA, upd_at,  rAI, rLI, rJI, nI_add, pk_sub, kc_0, kc_1, kc_2, kc_3, kc_4, kc_5, reduceIte, Nat.reduceEqDiff, Nat.add_zero, rI_hold, rI_hold, rL_hold, hcl, he95, he]; done)) ?_
  refine Bod.ist dc_350_27 (by rw [ml_350]; exact Nat.le_of_ble_eq_true rfl) ?_
  refine Bod.go dc_350_29 rfl ?_
  refine Bod.sw (t := 474) dc_350_31 rfl rfl (by rw [sw15]; decide +kernel) ?_
  refine Bod.go dc_350_474 rfl ?_
  refine Bod.go dc_350_475 rfl ?_
  refine Bod.get dc_350_476 fr_350_493 (mk_61 _) rfl ?_
  refine Bod.eqI (nI t) (by first | assumption | rfl | exact congrArg nI (by omega) | (simp (disch := omega) only [rI, rIe, rA, rIA, rLA, rJA, rVI, rQI, rVA, rQA, upd_at,  rAI, rLI, rJI, nI_add, pk_sub, kc_0, kc_1, kc_2, kc_3, kc_4, kc_5, reduceIte, Nat.reduceEqDiff, Nat.add_zero, rI_hold, rI_hold, rL_hold, hcl, he95, he, ht]; done)) ?_
  refine Bod.ic 1 (by decide) dc_350_479 ?_
  refine Bod.subN (t - 1) (by omega) (by omega) dc_350_480 ?_
  refine Bod.virt (r := []) dc_350_481 kr_350_624 ⟨Or.inl rfl, ow_359, cl_14⟩ (by rw [np_359]; rfl) (by rw [np_359]; rfl) (ob_of (mk_61 _)) (Nat.le_of_ble_eq_true rfl) (c1  ) ?_
  show Bod _ _ _ _ [_] _ _ _
  refine Bod.go dc_350_484 rfl ?_
  refine Bod.bip 14 (by decide) dc_350_486 ?_
  refine Bod.icT dc_350_488 rfl (k2_ne_T (k_ne e 14 rfl rfl (by omega) (by omega) (by omega))) ?_
  refine Bod.ic 0 (by decide) dc_350_495 ?_
  refine Bod.icT dc_350_496 rfl (k2_ne_T (k_ne 1 0 rfl rfl (by omega) (by omega) (by omega))) ?_
  refine Bod.ic 0 (by decide) dc_350_503 ?_
  refine Bod.ist dc_350_504 (by rw [ml_350]; exact Nat.le_of_ble_eq_true rfl) ?_
  refine Bod.go dc_350_506 rfl ?_
  refine Bod.ifF dc_350_508 rfl (k1_ne_F (k_eq 0 0 rfl rfl (by omega))) ?_
  refine Bod.go dc_350_511 rfl ?_
  refine Bod.go dc_350_512 rfl ?_
  refine Bod.get dc_350_513 fr_350_493 (mk_61 _) rfl ?_
  refine Bod.eqI (nI t1) (by first | assumption | (simp (disch := omega) only [rI, rIe, rA, rIA, rLA, rJA, rVI, rQI, rVA, rQA, upd_at,  rAI, rLI, rJI, nI_add, pk_sub, kc_0, kc_1, kc_2, kc_3, kc_4, kc_5, reduceIte, Nat.reduceEqDiff, Nat.add_zero, rI_hold, rI_hold, rL_hold, hcl, he95, he, ht, ht1]; done) | (simp (disch := omega) only [rI, rIe, rA, rIA, rLA, rJA, rVI, rQI, rVA, rQA, upd_at,  rAI, rLI, rJI, nI_add, pk_sub, kc_0, kc_1, kc_2, kc_3, kc_4, kc_5, reduceIte, Nat.reduceEqDiff, Nat.add_zero, rI_hold, rI_hold, rL_hold, hcl, he95, he, ht, ht1]; exact congrArg nI (by omega))) ?_
  refine Bod.ic 1 (by decide) dc_350_516 ?_
  refine Bod.subN (t1 - 1) (by omega) (by omega) dc_350_517 ?_
  refine Bod.put dc_350_518 fr_350_493 (mk_61 _) (Nat.le_of_ble_eq_true rfl) pf_14_51 (st_6151 _ _) (mu_I _ _ _) ?_
  refine Bod.go dc_350_521 rfl ?_
  refine Bod.get dc_350_522 fr_350_572 (mk_61 _) rfl ?_
  refine Bod.go dc_350_525 rfl ?_
  refine Bod.go dc_350_526 rfl ?_
  refine Bod.ifT dc_350_528 rfl (k1_eq_T (k_eq 0 0 rfl rfl (by omega))) ?_
  refine Bod.go dc_350_543 rfl ?_
  refine Bod.ic 2 (by decide) dc_350_544 ?_
  refine Bod.addN (e95 + 2) (by omega) dc_350_545 ?_
  refine Bod.iastN (cl - 1) rfl (by omega) (by omega) dc_350_546 (mk_95 _) (sa_95 _ _ _) (mu_A _ _ _ _) ?_
  refine Bod.ic 1 (by decide) dc_350_547 ?_
  exact Bod.retZ dc_350_548 rt_350 (Or.inr rfl)
theorem rOn_22 {d : Nat} {S : cS} {cl : Nat} {e95 : Nat} {m : Nat} {zm : Nat} {r : Nat} {N : Nat} {e : Nat} {t : Nat} {S1 : cS} (hcl : sI S 6159 = nI cl) (mcl : cl < 32) (b1 : 1 ≤ cl) (he95 : sA S 95 (cl - 1) = nI e95) (me95 : e95 < 2 ^ 20) (am : 108 ≤ m) (hq2 : sQ S 94 (cl - 1) = some m) (hz1 : (sS S)[m - 108]? = some (12, zm)) (hv1 : sV S (100 * m + 0) = .ref r) (hg1 : isK S r 0 N) (mN : N < 2 ^ 20) (b2 : e95 < N) (he : sA S r e95 = nI e) (me : e < 2 ^ 20) (sw15 : e = 14) (ht : sI S 6151 = nI t) (mt : t < 20481) (b3 : 1 ≤ t) (c1 : Ans (d + 8) 359 [.ref 61, .int (nI (t - 1))] S (some (.int (nI 1))) S1) (b4 : e = 14) (b5 : (e95 + 1) < N) (hy5 : isK S1 r 0 N) : Bod (d + 8) 350 0 [(0, .ref 61)] [] S (some (.int 1)) (wA 95 (cl - 1) ((nI (e95 + 1)) + (sA S1 r (e95 + 1))) S1) := by
  refine Bod.go dc_350_0 rfl ?_
  refine Bod.get dc_350_1 fr_350_502 (mk_61 _) rfl ?_
  refine Bod.eqI (nI cl) (by first | assumption | rfl | exact congrArg nI (by omega) | (simp (disch := omega) only [rI, rIe, rA, rIA, rLA, rJA, rVI, rQI, rVA, rQA, upd_at,  rAI, rLI, rJI, nI_add, pk_sub, kc_0, kc_1, kc_2, kc_3, kc_4, kc_5, reduceIte, Nat.reduceEqDiff, Nat.add_zero, rI_hold, rI_hold, rL_hold, hcl]; done)) ?_
  refine Bod.ic 1 (by decide) dc_350_4 ?_
  refine Bod.subN (cl - 1) (by omega) (by omega) dc_350_5 ?_
  refine Bod.istn dc_350_6 (by rw [ml_350]; exact Nat.le_of_ble_eq_true rfl) ?_
  refine Bod.go dc_350_7 rfl ?_
  refine Bod.get dc_350_8 fr_350_572 (mk_61 _) rfl ?_
  refine Bod.go dc_350_11 rfl ?_
  refine Bod.ialdN (cl - 1) rfl (by omega) (by omega) dc_350_12 (mk_95 _) ?_
  refine Bod.eqI (nI e95) (by first | assumption | rfl | exact congrArg nI (by omega) | (simp (disch := omega) only [rI, rIe, rA, rIA, rLA, rJA, rVI, rQI, rVA, rQA, upd_at,  rAI, rLI, rJI, nI_add, pk_sub, kc_0, kc_1, kc_2, kc_3, kc_4, kc_5, reduceIte, Nat.reduceEqDiff, Nat.add_zero, rI_hold, rI_hold, rL_hold, hcl, he95]; done)) ?_
  refine Bod.istn dc_350_13 (by rw [ml_350]; exact Nat.le_of_ble_eq_true rfl) ?_
  refine Bod.go dc_350_14 rfl ?_
  refine Bod.get dc_350_15 fr_350_568 (mk_61 _) rfl ?_
  refine Bod.go dc_350_18 rfl ?_
  refine Bod.aaldR (N := 31) (b := m) (cl - 1) rfl (by omega) (by omega) hq2 dc_350_19 (mk_94 _) ht_6 ?_
  refine Bod.get dc_350_20 fr_350_222 (mk_code am (by first | exact hz1 | (simp only [rIS, rJS, rAS, rLS, rVS, rQS, rS_hold]; exact hz1))) rfl ?_
  refine Bod.eqV (.ref r) (by first | exact hv1 | (simp only [rIV, rJV, rAV, rLV, rQV, rV, reduceIte, Nat.reduceEqDiff]; exact hv1)) ?_
  refine Bod.astn dc_350_23 (by rw [ml_350]; exact Nat.le_of_ble_eq_true rfl) ?_
  refine Bod.go dc_350_24 rfl ?_
  refine Bod.go dc_350_25 rfl ?_
  refine Bod.ialdN (N := N) e95 rfl (by omega) (by omega) dc_350_26 (mk_isI (by first | exact hg1 | exact isK_S (by simp only [rIS, rJS, rAS, rLS, rVS, rQS, rS_hold]) hg1)) ?_
  refine Bod.eqI (nI e) (by first | assumption | rfl | exact congrArg nI (by omega) | (simp (disch := omega) only [rI, rIe, rA, rIA, rLA, rJA, rVI, rQI, rVA, rQA, upd_at,  rAI, rLI, rJI, nI_add, pk_sub, kc_0, kc_1, kc_2, kc_3, kc_4, kc_5, reduceIte, Nat.reduceEqDiff, Nat.add_zero, rI_hold, rI_hold, rL_hold, hcl, he95, he]; done)) ?_
  refine Bod.ist dc_350_27 (by rw [ml_350]; exact Nat.le_of_ble_eq_true rfl) ?_
  refine Bod.go dc_350_29 rfl ?_
  refine Bod.sw (t := 474) dc_350_31 rfl rfl (by rw [sw15]; decide +kernel) ?_
  refine Bod.go dc_350_474 rfl ?_
  refine Bod.go dc_350_475 rfl ?_
  refine Bod.get dc_350_476 fr_350_493 (mk_61 _) rfl ?_
  refine Bod.eqI (nI t) (by first | assumption | rfl | exact congrArg nI (by omega) | (simp (disch := omega) only [rI, rIe, rA, rIA, rLA, rJA, rVI, rQI, rVA, rQA, upd_at,  rAI, rLI, rJI, nI_add, pk_sub, kc_0, kc_1, kc_2, kc_3, kc_4, kc_5, reduceIte, Nat.reduceEqDiff, Nat.add_zero, rI_hold, rI_hold, rL_hold, hcl, he95, he, ht]; done)) ?_
  refine Bod.ic 1 (by decide) dc_350_479 ?_
  refine Bod.subN (t - 1) (by omega) (by omega) dc_350_480 ?_
  refine Bod.virt (r := []) dc_350_481 kr_350_624 ⟨Or.inl rfl, ow_359, cl_14⟩ (by rw [np_359]; rfl) (by rw [np_359]; rfl) (ob_of (mk_61 _)) (Nat.le_of_ble_eq_true rfl) (c1  ) ?_
  show Bod _ _ _ _ [_] _ _ _
  refine Bod.go dc_350_484 rfl ?_
  refine Bod.bip 14 (by decide) dc_350_486 ?_
  refine Bod.icF dc_350_488 rfl (k2_ne_F (k_eq e 14 rfl rfl (by omega))) ?_
  refine Bod.ic 1 (by decide) dc_350_491 ?_
  refine Bod.go dc_350_492 rfl ?_
  refine Bod.icF dc_350_496 rfl (k2_ne_F (k_eq 1 1 rfl rfl (by omega))) ?_
  refine Bod.ic 1 (by decide) dc_350_499 ?_
  refine Bod.go dc_350_500 rfl ?_
  refine Bod.ist dc_350_504 (by rw [ml_350]; exact Nat.le_of_ble_eq_true rfl) ?_
  refine Bod.go dc_350_506 rfl ?_
  refine Bod.ifT dc_350_508 rfl (k1_ne_T (k_ne 1 0 rfl rfl (by omega) (by omega) (by omega))) ?_
  refine Bod.go dc_350_521 rfl ?_
  refine Bod.get dc_350_522 fr_350_572 (mk_61 _) rfl ?_
  refine Bod.go dc_350_525 rfl ?_
  refine Bod.go dc_350_526 rfl ?_
  refine Bod.ifF dc_350_528 rfl (k1_eq_F (k_ne 1 0 rfl rfl (by omega) (by omega) (by omega))) ?_
  refine Bod.go dc_350_531 rfl ?_
  refine Bod.ic 1 (by decide) dc_350_532 ?_
  refine Bod.addN (e95 + 1) (by omega) dc_350_533 ?_
  refine Bod.go dc_350_534 rfl ?_
  refine Bod.go dc_350_535 rfl ?_
  refine Bod.ic 1 (by decide) dc_350_536 ?_
  refine Bod.addN (e95 + 1) (by omega) dc_350_537 ?_
  refine Bod.ialdN (N := N) (e95 + 1) rfl (by omega) (by omega) dc_350_538 (mk_isI (by first | exact hy5 | exact isK_S (by simp only [rIS, rJS, rAS, rLS, rVS, rQS, rS_hold]) hy5)) ?_
  refine Bod.go dc_350_539 rfl ?_
  refine Bod.go dc_350_540 rfl ?_
  refine Bod.iastN (cl - 1) rfl (by omega) (by omega) dc_350_546 (mk_95 _) (sa_95 _ _ _) (mu_A _ _ _ _) ?_
  refine Bod.ic 1 (by decide) dc_350_547 ?_
  exact Bod.retZ dc_350_548 rt_350 (Or.inr rfl)
theorem rOn_23 {d : Nat} {S : cS} {cl : Nat} {e95 : Nat} {m : Nat} {zm : Nat} {r : Nat} {N : Nat} {e : Nat} {t : Nat} {S1 : cS} (hcl : sI S 6159 = nI cl) (mcl : cl < 32) (b1 : 1 ≤ cl) (he95 : sA S 95 (cl - 1) = nI e95) (me95 : e95 < 2 ^ 20) (am : 108 ≤ m) (hq2 : sQ S 94 (cl - 1) = some m) (hz1 : (sS S)[m - 108]? = some (12, zm)) (hv1 : sV S (100 * m + 0) = .ref r) (hg1 : isK S r 0 N) (mN : N < 2 ^ 20) (b2 : e95 < N) (he : sA S r e95 = nI e) (me : e < 2 ^ 20) (sw15 : e = 14) (ht : sI S 6151 = nI t) (mt : t < 20481) (b3 : 1 ≤ t) (c1 : Ans (d + 8) 359 [.ref 61, .int (nI (t - 1))] S (some (.int (nI 0))) S1) (b4 : e ≠ 14) (b5 : (e95 + 1) < N) (hy5 : isK S1 r 0 N) : Bod (d + 8) 350 0 [(0, .ref 61)] [] S (some (.int 1)) (wA 95 (cl - 1) ((nI (e95 + 1)) + (sA S1 r (e95 + 1))) S1) := by
  refine Bod.go dc_350_0 rfl ?_
  refine Bod.get dc_350_1 fr_350_502 (mk_61 _) rfl ?_
  refine Bod.eqI (nI cl) (by first | assumption | rfl | exact congrArg nI (by omega) | (simp (disch := omega) only [rI, rIe, rA, rIA, rLA, rJA, rVI, rQI, rVA, rQA, upd_at,  rAI, rLI, rJI, nI_add, pk_sub, kc_0, kc_1, kc_2, kc_3, kc_4, kc_5, reduceIte, Nat.reduceEqDiff, Nat.add_zero, rI_hold, rI_hold, rL_hold, hcl]; done)) ?_
  refine Bod.ic 1 (by decide) dc_350_4 ?_
  refine Bod.subN (cl - 1) (by omega) (by omega) dc_350_5 ?_
  refine Bod.istn dc_350_6 (by rw [ml_350]; exact Nat.le_of_ble_eq_true rfl) ?_
  refine Bod.go dc_350_7 rfl ?_
  refine Bod.get dc_350_8 fr_350_572 (mk_61 _) rfl ?_
  refine Bod.go dc_350_11 rfl ?_
  refine Bod.ialdN (cl - 1) rfl (by omega) (by omega) dc_350_12 (mk_95 _) ?_
  refine Bod.eqI (nI e95) (by first | assumption | rfl | exact congrArg nI (by omega) | (simp (disch := omega) only [rI, rIe, rA, rIA, rLA, rJA, rVI, rQI, rVA, rQA, upd_at,  rAI, rLI, rJI, nI_add, pk_sub, kc_0, kc_1, kc_2, kc_3, kc_4, kc_5, reduceIte, Nat.reduceEqDiff, Nat.add_zero, rI_hold, rI_hold, rL_hold, hcl, he95]; done)) ?_
  refine Bod.istn dc_350_13 (by rw [ml_350]; exact Nat.le_of_ble_eq_true rfl) ?_
  refine Bod.go dc_350_14 rfl ?_
  refine Bod.get dc_350_15 fr_350_568 (mk_61 _) rfl ?_
  refine Bod.go dc_350_18 rfl ?_
  refine Bod.aaldR (N := 31) (b := m) (cl - 1) rfl (by omega) (by omega) hq2 dc_350_19 (mk_94 _) ht_6 ?_
  refine Bod.get dc_350_20 fr_350_222 (mk_code am (by first | exact hz1 | (simp only [rIS, rJS, rAS, rLS, rVS, rQS, rS_hold]; exact hz1))) rfl ?_
  refine Bod.eqV (.ref r) (by first | exact hv1 | (simp only [rIV, rJV, rAV, rLV, rQV, rV, reduceIte, Nat.reduceEqDiff]; exact hv1)) ?_
  refine Bod.astn dc_350_23 (by rw [ml_350]; exact Nat.le_of_ble_eq_true rfl) ?_
  refine Bod.go dc_350_24 rfl ?_
  refine Bod.go dc_350_25 rfl ?_
  refine Bod.ialdN (N := N) e95 rfl (by omega) (by omega) dc_350_26 (mk_isI (by first | exact hg1 | exact isK_S (by simp only [rIS, rJS, rAS, rLS, rVS, rQS, rS_hold]) hg1)) ?_
  refine Bod.eqI (nI e) (by first | assumption | rfl | exact congrArg nI (by omega) | (simp (disch := omega) only [rI, rIe, rA, rIA, rLA, rJA, rVI, rQI, rVA, rQA, upd_at,  rAI, rLI, rJI, nI_add, pk_sub, kc_0, kc_1, kc_2, kc_3, kc_4, kc_5, reduceIte, Nat.reduceEqDiff, Nat.add_zero, rI_hold, rI_hold, rL_hold, hcl, he95, he]; done)) ?_
  refine Bod.ist dc_350_27 (by rw [ml_350]; exact Nat.le_of_ble_eq_true rfl) ?_
  refine Bod.go dc_350_29 rfl ?_
  refine Bod.sw (t := 474) dc_350_31 rfl rfl (by rw [sw15]; decide +kernel) ?_
  refine Bod.go dc_350_474 rfl ?_
  refine Bod.go dc_350_475 rfl ?_
  refine Bod.get dc_350_476 fr_350_493 (mk_61 _) rfl ?_
  refine Bod.eqI (nI t) (by first | assumption | rfl | exact congrArg nI (by omega) | (simp (disch := omega) only [rI, rIe, rA, rIA, rLA, rJA, rVI, rQI, rVA, rQA, upd_at,  rAI, rLI, rJI, nI_add, pk_sub, kc_0, kc_1, kc_2, kc_3, kc_4, kc_5, reduceIte, Nat.reduceEqDiff, Nat.add_zero, rI_hold, rI_hold, rL_hold, hcl, he95, he, ht]; done)) ?_
  refine Bod.ic 1 (by decide) dc_350_479 ?_
  refine Bod.subN (t - 1) (by omega) (by omega) dc_350_480 ?_
  refine Bod.virt (r := []) dc_350_481 kr_350_624 ⟨Or.inl rfl, ow_359, cl_14⟩ (by rw [np_359]; rfl) (by rw [np_359]; rfl) (ob_of (mk_61 _)) (Nat.le_of_ble_eq_true rfl) (c1  ) ?_
  show Bod _ _ _ _ [_] _ _ _
  refine Bod.go dc_350_484 rfl ?_
  refine Bod.bip 14 (by decide) dc_350_486 ?_
  refine Bod.icT dc_350_488 rfl (k2_ne_T (k_ne e 14 rfl rfl (by omega) (by omega) (by omega))) ?_
  refine Bod.ic 0 (by decide) dc_350_495 ?_
  refine Bod.icF dc_350_496 rfl (k2_ne_F (k_eq 0 0 rfl rfl (by omega))) ?_
  refine Bod.ic 1 (by decide) dc_350_499 ?_
  refine Bod.go dc_350_500 rfl ?_
  refine Bod.ist dc_350_504 (by rw [ml_350]; exact Nat.le_of_ble_eq_true rfl) ?_
  refine Bod.go dc_350_506 rfl ?_
  refine Bod.ifT dc_350_508 rfl (k1_ne_T (k_ne 1 0 rfl rfl (by omega) (by omega) (by omega))) ?_
  refine Bod.go dc_350_521 rfl ?_
  refine Bod.get dc_350_522 fr_350_572 (mk_61 _) rfl ?_
  refine Bod.go dc_350_525 rfl ?_
  refine Bod.go dc_350_526 rfl ?_
  refine Bod.ifF dc_350_528 rfl (k1_eq_F (k_ne 1 0 rfl rfl (by omega) (by omega) (by omega))) ?_
  refine Bod.go dc_350_531 rfl ?_
  refine Bod.ic 1 (by decide) dc_350_532 ?_
  refine Bod.addN (e95 + 1) (by omega) dc_350_533 ?_
  refine Bod.go dc_350_534 rfl ?_
  refine Bod.go dc_350_535 rfl ?_
  refine Bod.ic 1 (by decide) dc_350_536 ?_
  refine Bod.addN (e95 + 1) (by omega) dc_350_537 ?_
  refine Bod.ialdN (N := N) (e95 + 1) rfl (by omega) (by omega) dc_350_538 (mk_isI (by first | exact hy5 | exact isK_S (by simp only [rIS, rJS, rAS, rLS, rVS, rQS, rS_hold]) hy5)) ?_
  refine Bod.go dc_350_539 rfl ?_
  refine Bod.go dc_350_540 rfl ?_
  refine Bod.iastN (cl - 1) rfl (by omega) (by omega) dc_350_546 (mk_95 _) (sa_95 _ _ _) (mu_A _ _ _ _) ?_
  refine Bod.ic 1 (by decide) dc_350_547 ?_
  exact Bod.retZ dc_350_548 rt_350 (Or.inr rfl)
theorem rOn_24 {d : Nat} {S : cS} {cl : Nat} {e95 : Nat} {m : Nat} {zm : Nat} {r : Nat} {N : Nat} {e : Nat} {t : Nat} {S1 : cS} {t1 : Nat} (hcl : sI S 6159 = nI cl) (mcl : cl < 32) (b1 : 1 ≤ cl) (he95 : sA S 95 (cl - 1) = nI e95) (me95 : e95 < 2 ^ 20) (am : 108 ≤ m) (hq2 : sQ S 94 (cl - 1) = some m) (hz1 : (sS S)[m - 108]? = some (12, zm)) (hv1 : sV S (100 * m + 0) = .ref r) (hg1 : isK S r 0 N) (mN : N < 2 ^ 20) (b2 : e95 < N) (he : sA S r e95 = nI e) (me : e < 2 ^ 20) (sw15 : e = 14) (ht : sI S 6151 = nI t) (mt : t < 20481) (b3 : 1 ≤ t) (c1 : Ans (d + 8) 359 [.ref 61, .int (nI (t - 1))] S (some (.int (nI 0))) S1) (b4 : e = 14) (ht1 : sI S1 6151 = nI t1) (mt1 : t1 < 20481) (b5 : 1 ≤ t1) : Bod (d + 8) 350 0 [(0, .ref 61)] [] S (some (.int 1)) (wA 95 (cl - 1) (nI (e95 + 2)) (wI 6151 (nI (t1 - 1)) S1)) := by
  refine Bod.go dc_350_0 rfl ?_
  refine Bod.get dc_350_1 fr_350_502 (mk_61 _) rfl ?_
  refine Bod.eqI (nI cl) (by first | assumption | rfl | exact congrArg nI (by omega) | (simp (disch := omega) only [rI, rIe, rA, rIA, rLA, rJA, rVI, rQI, rVA, rQA, upd_at,  rAI, rLI, rJI, nI_add, pk_sub, kc_0, kc_1, kc_2, kc_3, kc_4, kc_5, reduceIte, Nat.reduceEqDiff, Nat.add_zero, rI_hold, rI_hold, rL_hold, hcl]; done)) ?_
  refine Bod.ic 1 (by decide) dc_350_4 ?_
  refine Bod.subN (cl - 1) (by omega) (by omega) dc_350_5 ?_
  refine Bod.istn dc_350_6 (by rw [ml_350]; exact Nat.le_of_ble_eq_true rfl) ?_
  refine Bod.go dc_350_7 rfl ?_
  refine Bod.get dc_350_8 fr_350_572 (mk_61 _) rfl ?_
  refine Bod.go dc_350_11 rfl ?_
  refine Bod.ialdN (cl - 1) rfl (by omega) (by omega) dc_350_12 (mk_95 _) ?_
  refine Bod.eqI (nI e95) (by first | assumption | rfl | exact congrArg nI (by omega) | (simp (disch := omega) only [rI, rIe, rA, rIA, rLA, rJA, rVI, rQI, rVA, rQA, upd_at,  rAI, rLI, rJI, nI_add, pk_sub, kc_0, kc_1, kc_2, kc_3, kc_4, kc_5, reduceIte, Nat.reduceEqDiff, Nat.add_zero, rI_hold, rI_hold, rL_hold, hcl, he95]; done)) ?_
  refine Bod.istn dc_350_13 (by rw [ml_350]; exact Nat.le_of_ble_eq_true rfl) ?_
  refine Bod.go dc_350_14 rfl ?_
  refine Bod.get dc_350_15 fr_350_568 (mk_61 _) rfl ?_
  refine Bod.go dc_350_18 rfl ?_
  refine Bod.aaldR (N := 31) (b := m) (cl - 1) rfl (by omega) (by omega) hq2 dc_350_19 (mk_94 _) ht_6 ?_
  refine Bod.get dc_350_20 fr_350_222 (mk_code am (by first | exact hz1 | (simp only [rIS, rJS, rAS, rLS, rVS, rQS, rS_hold]; exact hz1))) rfl ?_
  refine Bod.eqV (.ref r) (by first | exact hv1 | (simp only [rIV, rJV, rAV, rLV, rQV, rV, reduceIte, Nat.reduceEqDiff]; exact hv1)) ?_
  refine Bod.astn dc_350_23 (by rw [ml_350]; exact Nat.le_of_ble_eq_true rfl) ?_
  refine Bod.go dc_350_24 rfl ?_
  refine Bod.go dc_350_25 rfl ?_
  refine Bod.ialdN (N := N) e95 rfl (by omega) (by omega) dc_350_26 (mk_isI (by first | exact hg1 | exact isK_S (by simp only [rIS, rJS, rAS, rLS, rVS, rQS, rS_hold]) hg1)) ?_
  refine Bod.eqI (nI e) (by first | assumption | rfl | exact congrArg nI (by omega) | (simp (disch := omega) only [rI, rIe, rA, rIA, rLA, rJA, rVI, rQI, rVA, rQA, upd_at,  rAI, rLI, rJI, nI_add, pk_sub, kc_0, kc_1, kc_2, kc_3, kc_4, kc_5, reduceIte, Nat.reduceEqDiff, Nat.add_zero, rI_hold, rI_hold, rL_hold, hcl, he95, he]; done)) ?_
  refine Bod.ist dc_350_27 (by rw [ml_350]; exact Nat.le_of_ble_eq_true rfl) ?_
  refine Bod.go dc_350_29 rfl ?_
  refine Bod.sw (t := 474) dc_350_31 rfl rfl (by rw [sw15]; decide +kernel) ?_
  refine Bod.go dc_350_474 rfl ?_
  refine Bod.go dc_350_475 rfl ?_
  refine Bod.get dc_350_476 fr_350_493 (mk_61 _) rfl ?_
  refine Bod.eqI (nI t) (by first | assumption | rfl | exact congrArg nI (by omega) | (simp (disch := omega) only [rI, rIe, rA, rIA, rLA, rJA, rVI, rQI, rVA, rQA, upd_at,  rAI, rLI, rJI, nI_add, pk_sub, kc_0, kc_1, kc_2, kc_3, kc_4, kc_5, reduceIte, Nat.reduceEqDiff, Nat.add_zero, rI_hold, rI_hold, rL_hold, hcl, he95, he, ht]; done)) ?_
  refine Bod.ic 1 (by decide) dc_350_479 ?_
  refine Bod.subN (t - 1) (by omega) (by omega) dc_350_480 ?_
  refine Bod.virt (r := []) dc_350_481 kr_350_624 ⟨Or.inl rfl, ow_359, cl_14⟩ (by rw [np_359]; rfl) (by rw [np_359]; rfl) (ob_of (mk_61 _)) (Nat.le_of_ble_eq_true rfl) (c1  ) ?_
  show Bod _ _ _ _ [_] _ _ _
  refine Bod.go dc_350_484 rfl ?_
  refine Bod.bip 14 (by decide) dc_350_486 ?_
  refine Bod.icF dc_350_488 rfl (k2_ne_F (k_eq e 14 rfl rfl (by omega))) ?_
  refine Bod.ic 1 (by decide) dc_350_491 ?_
  refine Bod.go dc_350_492 rfl ?_
  refine Bod.icT dc_350_496 rfl (k2_ne_T (k_ne 0 1 rfl rfl (by omega) (by omega) (by omega))) ?_
  refine Bod.ic 0 (by decide) dc_350_503 ?_
  refine Bod.ist dc_350_504 (by rw [ml_350]; exact Nat.le_of_ble_eq_true rfl) ?_
  refine Bod.go dc_350_506 rfl ?_
  refine Bod.ifF dc_350_508 rfl (k1_ne_F (k_eq 0 0 rfl rfl (by omega))) ?_
  refine Bod.go dc_350_511 rfl ?_
  refine Bod.go dc_350_512 rfl ?_
  refine Bod.get dc_350_513 fr_350_493 (mk_61 _) rfl ?_
  refine Bod.eqI (nI t1) (by first | assumption | (simp (disch := omega) only [rI, rIe, rA, rIA, rLA, rJA, rVI, rQI, rVA, rQA, upd_at,  rAI, rLI, rJI, nI_add, pk_sub, kc_0, kc_1, kc_2, kc_3, kc_4, kc_5, reduceIte, Nat.reduceEqDiff, Nat.add_zero, rI_hold, rI_hold, rL_hold, hcl, he95, he, ht, ht1]; done) | (simp (disch := omega) only [rI, rIe, rA, rIA, rLA, rJA, rVI, rQI, rVA, rQA, upd_at,  rAI, rLI, rJI, nI_add, pk_sub, kc_0, kc_1, kc_2, kc_3, kc_4, kc_5, reduceIte, Nat.reduceEqDiff, Nat.add_zero, rI_hold, rI_hold, rL_hold, hcl, he95, he, ht, ht1]; exact congrArg nI (by omega))) ?_
  refine Bod.ic 1 (by decide) dc_350_516 ?_
  refine Bod.subN (t1 - 1) (by omega) (by omega) dc_350_517 ?_
  refine Bod.put dc_350_518 fr_350_493 (mk_61 _) (Nat.le_of_ble_eq_true rfl) pf_14_51 (st_6151 _ _) (mu_I _ _ _) ?_
  refine Bod.go dc_350_521 rfl ?_
  refine Bod.get dc_350_522 fr_350_572 (mk_61 _) rfl ?_
  refine Bod.go dc_350_525 rfl ?_
  refine Bod.go dc_350_526 rfl ?_
  refine Bod.ifT dc_350_528 rfl (k1_eq_T (k_eq 0 0 rfl rfl (by omega))) ?_
  refine Bod.go dc_350_543 rfl ?_
  refine Bod.ic 2 (by decide) dc_350_544 ?_
  refine Bod.addN (e95 + 2) (by omega) dc_350_545 ?_
  refine Bod.iastN (cl - 1) rfl (by omega) (by omega) dc_350_546 (mk_95 _) (sa_95 _ _ _) (mu_A _ _ _ _) ?_
  refine Bod.ic 1 (by decide) dc_350_547 ?_
  exact Bod.retZ dc_350_548 rt_350 (Or.inr rfl)
theorem rOn_25 {d : Nat} {S : cS} {cl : Nat} {e95 : Nat} {m : Nat} {zm : Nat} {r : Nat} {N : Nat} {e : Nat} {e1 : Nat} {S1 : cS} (hcl : sI S 6159 = nI cl) (mcl : cl < 32) (b1 : 1 ≤ cl) (he95 : sA S 95 (cl - 1) = nI e95) (me95 : e95 < 2 ^ 20) (am : 108 ≤ m) (hq2 : sQ S 94 (cl - 1) = some m) (hz1 : (sS S)[m - 108]? = some (12, zm)) (hv1 : sV S (100 * m + 0) = .ref r) (hg1 : isK S r 0 N) (mN : N < 2 ^ 20) (b2 : e95 < N) (he : sA S r e95 = nI e) (me : e < 2 ^ 20) (sw15 : e = 17) (b3 : (e95 + 1) < N) (he1 : sA (wA 95 (cl - 1) (nI (e95 + 2)) S) r (e95 + 1) = nI e1) (me1 : e1 < 2 ^ 20) (c1 : Ans (d + 8) 379 [.ref 61, .int (nI e1)] (wA 95 (cl - 1) (nI (e95 + 2)) S) (some (.int (nI 1))) S1) : Bod (d + 8) 350 0 [(0, .ref 61)] [] S (some (.int 1)) (S1) := by
  refine Bod.go dc_350_0 rfl ?_
  refine Bod.get dc_350_1 fr_350_502 (mk_61 _) rfl ?_
  refine Bod.eqI (nI cl) (by first | assumption | rfl | exact congrArg nI (by omega) | (simp (disch := omega) only [rI, rIe, rA, rIA, rLA, rJA, rVI, rQI, rVA, rQA, upd_at,  rAI, rLI, rJI, nI_add, pk_sub, kc_0, kc_1, kc_2, kc_3, kc_4, kc_5, reduceIte, Nat.reduceEqDiff, Nat.add_zero, rI_hold, rI_hold, rL_hold, hcl]; done)) ?_
  refine Bod.ic 1 (by decide) dc_350_4 ?_
  refine Bod.subN (cl - 1) (by omega) (by omega) dc_350_5 ?_
  refine Bod.istn dc_350_6 (by rw [ml_350]; exact Nat.le_of_ble_eq_true rfl) ?_
  refine Bod.go dc_350_7 rfl ?_
  refine Bod.get dc_350_8 fr_350_572 (mk_61 _) rfl ?_
  refine Bod.go dc_350_11 rfl ?_
  refine Bod.ialdN (cl - 1) rfl (by omega) (by omega) dc_350_12 (mk_95 _) ?_
  refine Bod.eqI (nI e95) (by first | assumption | rfl | exact congrArg nI (by omega) | (simp (disch := omega) only [rI, rIe, rA, rIA, rLA, rJA, rVI, rQI, rVA, rQA, upd_at,  rAI, rLI, rJI, nI_add, pk_sub, kc_0, kc_1, kc_2, kc_3, kc_4, kc_5, reduceIte, Nat.reduceEqDiff, Nat.add_zero, rI_hold, rI_hold, rL_hold, hcl, he95]; done)) ?_
  refine Bod.istn dc_350_13 (by rw [ml_350]; exact Nat.le_of_ble_eq_true rfl) ?_
  refine Bod.go dc_350_14 rfl ?_
  refine Bod.get dc_350_15 fr_350_568 (mk_61 _) rfl ?_
  refine Bod.go dc_350_18 rfl ?_
  refine Bod.aaldR (N := 31) (b := m) (cl - 1) rfl (by omega) (by omega) hq2 dc_350_19 (mk_94 _) ht_6 ?_
  refine Bod.get dc_350_20 fr_350_222 (mk_code am (by first | exact hz1 | (simp only [rIS, rJS, rAS, rLS, rVS, rQS, rS_hold]; exact hz1))) rfl ?_
  refine Bod.eqV (.ref r) (by first | exact hv1 | (simp only [rIV, rJV, rAV, rLV, rQV, rV, reduceIte, Nat.reduceEqDiff]; exact hv1)) ?_
  refine Bod.astn dc_350_23 (by rw [ml_350]; exact Nat.le_of_ble_eq_true rfl) ?_
  refine Bod.go dc_350_24 rfl ?_
  refine Bod.go dc_350_25 rfl ?_
  refine Bod.ialdN (N := N) e95 rfl (by omega) (by omega) dc_350_26 (mk_isI (by first | exact hg1 | exact isK_S (by simp only [rIS, rJS, rAS, rLS, rVS, rQS, rS_hold]) hg1)) ?_
  refine Bod.eqI (nI e) (by first | assumption | rfl | exact congrArg nI (by omega) | (simp (disch := omega) only [rI, rIe, rA, rIA, rLA, rJA, rVI, rQI, rVA, rQA, upd_at,  rAI, rLI, rJI, nI_add, pk_sub, kc_0, kc_1, kc_2, kc_3, kc_4, kc_5, reduceIte, Nat.reduceEqDiff, Nat.add_zero, rI_hold, rI_hold, rL_hold, hcl, he95, he]; done)) ?_
  refine Bod.ist dc_350_27 (by rw [ml_350]; exact Nat.le_of_ble_eq_true rfl) ?_
  refine Bod.go dc_350_29 rfl ?_
  refine Bod.sw (t := 747) dc_350_31 rfl rfl (by rw [sw15]; decide +kernel) ?_
  refine Bod.go dc_350_747 rfl ?_
  refine Bod.get dc_350_748 fr_350_572 (mk_61 _) rfl ?_
  refine Bod.go dc_350_751 rfl ?_
  refine Bod.go dc_350_752 rfl ?_
  refine Bod.ic 2 (by decide) dc_350_753 ?_
  refine Bod.addN (e95 + 2) (by omega) dc_350_754 ?_
  refine Bod.iastN (cl - 1) rfl (by omega) (by omega) dc_350_755 (mk_95 _) (sa_95 _ _ _) (mu_A _ _ _ _) ?_
  refine Bod.go dc_350_756 rfl ?_
  refine Bod.go dc_350_757 rfl ?_
  refine Bod.go dc_350_758 rfl ?_
  refine Bod.ic 1 (by decide) dc_350_759 ?_
  refine Bod.addN (e95 + 1) (by omega) dc_350_760 ?_
  refine Bod.ialdN (N := N) (e95 + 1) rfl (by omega) (by omega) dc_350_761 (mk_isI (by first | exact hg1 | exact isK_S (by simp only [rIS, rJS, rAS, rLS, rVS, rQS, rS_hold]) hg1)) ?_
  refine Bod.eqI (nI e1) (by first | assumption | (simp (disch := omega) only [rI, rIe, rA, rIA, rLA, rJA, rVI, rQI, rVA, rQA, upd_at,  rAI, rLI, rJI, nI_add, pk_sub, kc_0, kc_1, kc_2, kc_3, kc_4, kc_5, reduceIte, Nat.reduceEqDiff, Nat.add_zero, rI_hold, rI_hold, rL_hold, hcl, he95, he, he1]; done) | (simp (disch := omega) only [rI, rIe, rA, rIA, rLA, rJA, rVI, rQI, rVA, rQA, upd_at,  rAI, rLI, rJI, nI_add, pk_sub, kc_0, kc_1, kc_2, kc_3, kc_4, kc_5, reduceIte, Nat.reduceEqDiff, Nat.add_zero, rI_hold, rI_hold, rL_hold, hcl, he95, he, he1]; exact congrArg nI (by omega))) ?_
  refine Bod.virt (r := []) dc_350_762 kr_350_634 ⟨Or.inl rfl, ow_379, cl_14⟩ (by rw [np_379]; rfl) (by rw [np_379]; rfl) (ob_of (mk_61 _)) (Nat.le_of_ble_eq_true rfl) (c1  ) ?_
  show Bod _ _ _ _ [_] _ _ _
  exact Bod.retZ dc_350_765 rt_350 (Or.inr rfl)
theorem rOn_26 {d : Nat} {S : cS} {cl : Nat} {e95 : Nat} {m : Nat} {zm : Nat} {r : Nat} {N : Nat} {e : Nat} {e1 : Nat} {S1 : cS} (hcl : sI S 6159 = nI cl) (mcl : cl < 32) (b1 : 1 ≤ cl) (he95 : sA S 95 (cl - 1) = nI e95) (me95 : e95 < 2 ^ 20) (am : 108 ≤ m) (hq2 : sQ S 94 (cl - 1) = some m) (hz1 : (sS S)[m - 108]? = some (12, zm)) (hv1 : sV S (100 * m + 0) = .ref r) (hg1 : isK S r 0 N) (mN : N < 2 ^ 20) (b2 : e95 < N) (he : sA S r e95 = nI e) (me : e < 2 ^ 20) (sw15 : e = 17) (b3 : (e95 + 1) < N) (he1 : sA (wA 95 (cl - 1) (nI (e95 + 2)) S) r (e95 + 1) = nI e1) (me1 : e1 < 2 ^ 20) (c1 : Ans (d + 8) 379 [.ref 61, .int (nI e1)] (wA 95 (cl - 1) (nI (e95 + 2)) S) (some (.int (nI 0))) S1) : Bod (d + 8) 350 0 [(0, .ref 61)] [] S (some (.int 0)) (S1) := by
  refine Bod.go dc_350_0 rfl ?_
  refine Bod.get dc_350_1 fr_350_502 (mk_61 _) rfl ?_
  refine Bod.eqI (nI cl) (by first | assumption | rfl | exact congrArg nI (by omega) | (simp (disch := omega) only [rI, rIe, rA, rIA, rLA, rJA, rVI, rQI, rVA, rQA, upd_at,  rAI, rLI, rJI, nI_add, pk_sub, kc_0, kc_1, kc_2, kc_3, kc_4, kc_5, reduceIte, Nat.reduceEqDiff, Nat.add_zero, rI_hold, rI_hold, rL_hold, hcl]; done)) ?_
  refine Bod.ic 1 (by decide) dc_350_4 ?_
  refine Bod.subN (cl - 1) (by omega) (by omega) dc_350_5 ?_
  refine Bod.istn dc_350_6 (by rw [ml_350]; exact Nat.le_of_ble_eq_true rfl) ?_
  refine Bod.go dc_350_7 rfl ?_
  refine Bod.get dc_350_8 fr_350_572 (mk_61 _) rfl ?_
  refine Bod.go dc_350_11 rfl ?_
  refine Bod.ialdN (cl - 1) rfl (by omega) (by omega) dc_350_12 (mk_95 _) ?_
  refine Bod.eqI (nI e95) (by first | assumption | rfl | exact congrArg nI (by omega) | (simp (disch := omega) only [rI, rIe, rA, rIA, rLA, rJA, rVI, rQI, rVA, rQA, upd_at,  rAI, rLI, rJI, nI_add, pk_sub, kc_0, kc_1, kc_2, kc_3, kc_4, kc_5, reduceIte, Nat.reduceEqDiff, Nat.add_zero, rI_hold, rI_hold, rL_hold, hcl, he95]; done)) ?_
  refine Bod.istn dc_350_13 (by rw [ml_350]; exact Nat.le_of_ble_eq_true rfl) ?_
  refine Bod.go dc_350_14 rfl ?_
  refine Bod.get dc_350_15 fr_350_568 (mk_61 _) rfl ?_
  refine Bod.go dc_350_18 rfl ?_
  refine Bod.aaldR (N := 31) (b := m) (cl - 1) rfl (by omega) (by omega) hq2 dc_350_19 (mk_94 _) ht_6 ?_
  refine Bod.get dc_350_20 fr_350_222 (mk_code am (by first | exact hz1 | (simp only [rIS, rJS, rAS, rLS, rVS, rQS, rS_hold]; exact hz1))) rfl ?_
  refine Bod.eqV (.ref r) (by first | exact hv1 | (simp only [rIV, rJV, rAV, rLV, rQV, rV, reduceIte, Nat.reduceEqDiff]; exact hv1)) ?_
  refine Bod.astn dc_350_23 (by rw [ml_350]; exact Nat.le_of_ble_eq_true rfl) ?_
  refine Bod.go dc_350_24 rfl ?_
  refine Bod.go dc_350_25 rfl ?_
  refine Bod.ialdN (N := N) e95 rfl (by omega) (by omega) dc_350_26 (mk_isI (by first | exact hg1 | exact isK_S (by simp only [rIS, rJS, rAS, rLS, rVS, rQS, rS_hold]) hg1)) ?_
  refine Bod.eqI (nI e) (by first | assumption | rfl | exact congrArg nI (by omega) | (simp (disch := omega) only [rI, rIe, rA, rIA, rLA, rJA, rVI, rQI, rVA, rQA, upd_at,  rAI, rLI, rJI, nI_add, pk_sub, kc_0, kc_1, kc_2, kc_3, kc_4, kc_5, reduceIte, Nat.reduceEqDiff, Nat.add_zero, rI_hold, rI_hold, rL_hold, hcl, he95, he]; done)) ?_
  refine Bod.ist dc_350_27 (by rw [ml_350]; exact Nat.le_of_ble_eq_true rfl) ?_
  refine Bod.go dc_350_29 rfl ?_
  refine Bod.sw (t := 747) dc_350_31 rfl rfl (by rw [sw15]; decide +kernel) ?_
  refine Bod.go dc_350_747 rfl ?_
  refine Bod.get dc_350_748 fr_350_572 (mk_61 _) rfl ?_
  refine Bod.go dc_350_751 rfl ?_
  refine Bod.go dc_350_752 rfl ?_
  refine Bod.ic 2 (by decide) dc_350_753 ?_
  refine Bod.addN (e95 + 2) (by omega) dc_350_754 ?_
  refine Bod.iastN (cl - 1) rfl (by omega) (by omega) dc_350_755 (mk_95 _) (sa_95 _ _ _) (mu_A _ _ _ _) ?_
  refine Bod.go dc_350_756 rfl ?_
  refine Bod.go dc_350_757 rfl ?_
  refine Bod.go dc_350_758 rfl ?_
  refine Bod.ic 1 (by decide) dc_350_759 ?_
  refine Bod.addN (e95 + 1) (by omega) dc_350_760 ?_
  refine Bod.ialdN (N := N) (e95 + 1) rfl (by omega) (by omega) dc_350_761 (mk_isI (by first | exact hg1 | exact isK_S (by simp only [rIS, rJS, rAS, rLS, rVS, rQS, rS_hold]) hg1)) ?_
  refine Bod.eqI (nI e1) (by first | assumption | (simp (disch := omega) only [rI, rIe, rA, rIA, rLA, rJA, rVI, rQI, rVA, rQA, upd_at,  rAI, rLI, rJI, nI_add, pk_sub, kc_0, kc_1, kc_2, kc_3, kc_4, kc_5, reduceIte, Nat.reduceEqDiff, Nat.add_zero, rI_hold, rI_hold, rL_hold, hcl, he95, he, he1]; done) | (simp (disch := omega) only [rI, rIe, rA, rIA, rLA, rJA, rVI, rQI, rVA, rQA, upd_at,  rAI, rLI, rJI, nI_add, pk_sub, kc_0, kc_1, kc_2, kc_3, kc_4, kc_5, reduceIte, Nat.reduceEqDiff, Nat.add_zero, rI_hold, rI_hold, rL_hold, hcl, he95, he, he1]; exact congrArg nI (by omega))) ?_
  refine Bod.virt (r := []) dc_350_762 kr_350_634 ⟨Or.inl rfl, ow_379, cl_14⟩ (by rw [np_379]; rfl) (by rw [np_379]; rfl) (ob_of (mk_61 _)) (Nat.le_of_ble_eq_true rfl) (c1  ) ?_
  show Bod _ _ _ _ [_] _ _ _
  exact Bod.retZ dc_350_765 rt_350 (Or.inl rfl)
theorem rOn_27 {d : Nat} {S : cS} {cl : Nat} {e95 : Nat} {m : Nat} {zm : Nat} {r : Nat} {N : Nat} {e : Nat} {t : Nat} {S1 : cS} {g : Nat} {zg : Nat} {t1 : Nat} {o : Nat} {n1 : Nat} (hcl : sI S 6159 = nI cl) (mcl : cl < 32) (b1 : 1 ≤ cl) (he95 : sA S 95 (cl - 1) = nI e95) (me95 : e95 < 2 ^ 20) (am : 108 ≤ m) (hq2 : sQ S 94 (cl - 1) = some m) (hz1 : (sS S)[m - 108]? = some (12, zm)) (hv1 : sV S (100 * m + 0) = .ref r) (hg1 : isK S r 0 N) (mN : N < 2 ^ 20) (b2 : e95 < N) (he : sA S r e95 = nI e) (me : e < 2 ^ 20) (sw15 : e = 32) (ht : sI S 6151 = nI t) (mt : t < 20481) (b3 : 2 ≤ t) (ag : 108 ≤ g) (c1 : Ans (d + 8) 361 [.ref 61, .int (nI (t - 2))] S (some (.ref g)) S1) (ht1 : sI S1 6151 = nI t1) (mt1 : t1 < 20481) (b4 : 1 ≤ t1) (ho : (sL S1 92 (t1 - 1)).toInt32 = nI o) (mo : o < 1500) (hz2 : (sS S1)[g - 108]? = some (13, zg)) (hn1 : sI S1 (100 * g + 1) = nI n1) (mn1 : n1 < 2 ^ 20) (b5 : n1 ≤ o) (b6 : (e95 + 1) < N) (hy8 : isK S1 r 0 N) : Bod (d + 8) 350 0 [(0, .ref 61)] [] S (some (.int 1)) (wA 95 (cl - 1) ((nI (e95 + 1)) + (sA S1 r (e95 + 1))) S1) := by
  refine Bod.go dc_350_0 rfl ?_
  refine Bod.get dc_350_1 fr_350_502 (mk_61 _) rfl ?_
  refine Bod.eqI (nI cl) (by first | assumption | rfl | exact congrArg nI (by omega) | (simp (disch := omega) only [rI, rIe, rA, rIA, rLA, rJA, rVI, rQI, rVA, rQA, upd_at,  rAI, rLI, rJI, nI_add, pk_sub, kc_0, kc_1, kc_2, kc_3, kc_4, kc_5, reduceIte, Nat.reduceEqDiff, Nat.add_zero, rI_hold, rI_hold, rL_hold, hcl]; done)) ?_
  refine Bod.ic 1 (by decide) dc_350_4 ?_
  refine Bod.subN (cl - 1) (by omega) (by omega) dc_350_5 ?_
  refine Bod.istn dc_350_6 (by rw [ml_350]; exact Nat.le_of_ble_eq_true rfl) ?_
  refine Bod.go dc_350_7 rfl ?_
  refine Bod.get dc_350_8 fr_350_572 (mk_61 _) rfl ?_
  refine Bod.go dc_350_11 rfl ?_
  refine Bod.ialdN (cl - 1) rfl (by omega) (by omega) dc_350_12 (mk_95 _) ?_
  refine Bod.eqI (nI e95) (by first | assumption | rfl | exact congrArg nI (by omega) | (simp (disch := omega) only [rI, rIe, rA, rIA, rLA, rJA, rVI, rQI, rVA, rQA, upd_at,  rAI, rLI, rJI, nI_add, pk_sub, kc_0, kc_1, kc_2, kc_3, kc_4, kc_5, reduceIte, Nat.reduceEqDiff, Nat.add_zero, rI_hold, rI_hold, rL_hold, hcl, he95]; done)) ?_
  refine Bod.istn dc_350_13 (by rw [ml_350]; exact Nat.le_of_ble_eq_true rfl) ?_
  refine Bod.go dc_350_14 rfl ?_
  refine Bod.get dc_350_15 fr_350_568 (mk_61 _) rfl ?_
  refine Bod.go dc_350_18 rfl ?_
  refine Bod.aaldR (N := 31) (b := m) (cl - 1) rfl (by omega) (by omega) hq2 dc_350_19 (mk_94 _) ht_6 ?_
  refine Bod.get dc_350_20 fr_350_222 (mk_code am (by first | exact hz1 | (simp only [rIS, rJS, rAS, rLS, rVS, rQS, rS_hold]; exact hz1))) rfl ?_
  refine Bod.eqV (.ref r) (by first | exact hv1 | (simp only [rIV, rJV, rAV, rLV, rQV, rV, reduceIte, Nat.reduceEqDiff]; exact hv1)) ?_
  refine Bod.astn dc_350_23 (by rw [ml_350]; exact Nat.le_of_ble_eq_true rfl) ?_
  refine Bod.go dc_350_24 rfl ?_
  refine Bod.go dc_350_25 rfl ?_
  refine Bod.ialdN (N := N) e95 rfl (by omega) (by omega) dc_350_26 (mk_isI (by first | exact hg1 | exact isK_S (by simp only [rIS, rJS, rAS, rLS, rVS, rQS, rS_hold]) hg1)) ?_
  refine Bod.eqI (nI e) (by first | assumption | rfl | exact congrArg nI (by omega) | (simp (disch := omega) only [rI, rIe, rA, rIA, rLA, rJA, rVI, rQI, rVA, rQA, upd_at,  rAI, rLI, rJI, nI_add, pk_sub, kc_0, kc_1, kc_2, kc_3, kc_4, kc_5, reduceIte, Nat.reduceEqDiff, Nat.add_zero, rI_hold, rI_hold, rL_hold, hcl, he95, he]; done)) ?_
  refine Bod.ist dc_350_27 (by rw [ml_350]; exact Nat.le_of_ble_eq_true rfl) ?_
  refine Bod.go dc_350_29 rfl ?_
  refine Bod.sw (t := 549) dc_350_31 rfl rfl (by rw [sw15]; decide +kernel) ?_
  refine Bod.go dc_350_549 rfl ?_
  refine Bod.go dc_350_550 rfl ?_
  refine Bod.get dc_350_551 fr_350_493 (mk_61 _) rfl ?_
  refine Bod.eqI (nI t) (by first | assumption | rfl | exact congrArg nI (by omega) | (simp (disch := omega) only [rI, rIe, rA, rIA, rLA, rJA, rVI, rQI, rVA, rQA, upd_at,  rAI, rLI, rJI, nI_add, pk_sub, kc_0, kc_1, kc_2, kc_3, kc_4, kc_5, reduceIte, Nat.reduceEqDiff, Nat.add_zero, rI_hold, rI_hold, rL_hold, hcl, he95, he, ht]; done)) ?_
  refine Bod.ic 2 (by decide) dc_350_554 ?_
  refine Bod.subN (t - 2) (by omega) (by omega) dc_350_555 ?_
  refine Bod.virt (r := []) dc_350_556 kr_350_554 ⟨Or.inl rfl, ow_361, cl_14⟩ (by rw [np_361]; rfl) (by rw [np_361]; rfl) (ob_of (mk_61 _)) (Nat.le_of_ble_eq_true rfl) (c1  ) ?_
  show Bod _ _ _ _ [_] _ _ _
  refine Bod.ast dc_350_559 (by rw [ml_350]; exact Nat.le_of_ble_eq_true rfl) ?_
  refine Bod.go dc_350_561 rfl ?_
  refine Bod.get dc_350_562 fr_350_499 (mk_61 _) rfl ?_
  refine Bod.go dc_350_565 rfl ?_
  refine Bod.get dc_350_566 fr_350_493 (mk_61 _) rfl ?_
  refine Bod.eqI (nI t1) (by first | assumption | (simp (disch := omega) only [rI, rIe, rA, rIA, rLA, rJA, rVI, rQI, rVA, rQA, upd_at,  rAI, rLI, rJI, nI_add, pk_sub, kc_0, kc_1, kc_2, kc_3, kc_4, kc_5, reduceIte, Nat.reduceEqDiff, Nat.add_zero, rI_hold, rI_hold, rL_hold, hcl, he95, he, ht, ht1]; done) | (simp (disch := omega) only [rI, rIe, rA, rIA, rLA, rJA, rVI, rQI, rVA, rQA, upd_at,  rAI, rLI, rJI, nI_add, pk_sub, kc_0, kc_1, kc_2, kc_3, kc_4, kc_5, reduceIte, Nat.reduceEqDiff, Nat.add_zero, rI_hold, rI_hold, rL_hold, hcl, he95, he, ht, ht1]; exact congrArg nI (by omega))) ?_
  refine Bod.ic 1 (by decide) dc_350_569 ?_
  refine Bod.subN (t1 - 1) (by omega) (by omega) dc_350_570 ?_
  refine Bod.laldN (t1 - 1) rfl (by omega) (by omega) dc_350_571 (mk_92 _) ?_
  refine Bod.go dc_350_572 rfl ?_
  refine Bod.eqI (nI o) (by first | exact ho | (simp only [rI, rIe, rA, rIA, rLA, rJA, rVI, rQI, rVA, rQA, upd_at,  rAI, rLI, rJI, nI_add, pk_sub, kc_0, kc_1, kc_2, kc_3, kc_4, kc_5, reduceIte, Nat.reduceEqDiff, Nat.add_zero, rI_hold, rI_hold, rL_hold]; exact ho)) ?_
  refine Bod.ist dc_350_573 (by rw [ml_350]; exact Nat.le_of_ble_eq_true rfl) ?_
  refine Bod.go dc_350_575 rfl ?_
  refine Bod.get dc_350_576 fr_350_572 (mk_61 _) rfl ?_
  refine Bod.go dc_350_579 rfl ?_
  refine Bod.go dc_350_580 rfl ?_
  refine Bod.go dc_350_582 rfl ?_
  refine Bod.get dc_350_584 fr_350_459 (mk_thing ag (by first | exact hz2 | (simp only [rIS, rJS, rAS, rLS, rVS, rQS, rS_hold]; exact hz2))) rfl ?_
  refine Bod.eqI (nI n1) (by first | assumption | (simp (disch := omega) only [rI, rIe, rA, rIA, rLA, rJA, rVI, rQI, rVA, rQA, upd_at,  rAI, rLI, rJI, nI_add, pk_sub, kc_0, kc_1, kc_2, kc_3, kc_4, kc_5, reduceIte, Nat.reduceEqDiff, Nat.add_zero, rI_hold, rI_hold, rL_hold, hcl, he95, he, ht, ht1, hn1]; done) | (simp (disch := omega) only [rI, rIe, rA, rIA, rLA, rJA, rVI, rQI, rVA, rQA, upd_at,  rAI, rLI, rJI, nI_add, pk_sub, kc_0, kc_1, kc_2, kc_3, kc_4, kc_5, reduceIte, Nat.reduceEqDiff, Nat.add_zero, rI_hold, rI_hold, rL_hold, hcl, he95, he, ht, ht1, hn1]; exact congrArg nI (by omega))) ?_
  refine Bod.icT dc_350_587 rfl (k2_ge_T o n1 rfl rfl (by omega) (by omega)) ?_
  refine Bod.go dc_350_596 rfl ?_
  refine Bod.ic 1 (by decide) dc_350_597 ?_
  refine Bod.addN (e95 + 1) (by omega) dc_350_598 ?_
  refine Bod.go dc_350_599 rfl ?_
  refine Bod.go dc_350_600 rfl ?_
  refine Bod.ic 1 (by decide) dc_350_601 ?_
  refine Bod.addN (e95 + 1) (by omega) dc_350_602 ?_
  refine Bod.ialdN (N := N) (e95 + 1) rfl (by omega) (by omega) dc_350_603 (mk_isI (by first | exact hy8 | exact isK_S (by simp only [rIS, rJS, rAS, rLS, rVS, rQS, rS_hold]) hy8)) ?_
  refine Bod.go dc_350_604 rfl ?_
  refine Bod.iastN (cl - 1) rfl (by omega) (by omega) dc_350_605 (mk_95 _) (sa_95 _ _ _) (mu_A _ _ _ _) ?_
  refine Bod.go dc_350_606 rfl ?_
  refine Bod.go dc_350_608 rfl ?_
  refine Bod.get dc_350_610 fr_350_459 (mk_thing ag (by first | exact hz2 | (simp only [rIS, rJS, rAS, rLS, rVS, rQS, rS_hold]; exact hz2))) rfl ?_
  refine Bod.eqI (nI n1) (by first | assumption | (simp (disch := omega) only [rI, rIe, rA, rIA, rLA, rJA, rVI, rQI, rVA, rQA, upd_at,  rAI, rLI, rJI, nI_add, pk_sub, kc_0, kc_1, kc_2, kc_3, kc_4, kc_5, reduceIte, Nat.reduceEqDiff, Nat.add_zero, rI_hold, rI_hold, rL_hold, hcl, he95, he, ht, ht1, hn1]; done) | (simp (disch := omega) only [rI, rIe, rA, rIA, rLA, rJA, rVI, rQI, rVA, rQA, upd_at,  rAI, rLI, rJI, nI_add, pk_sub, kc_0, kc_1, kc_2, kc_3, kc_4, kc_5, reduceIte, Nat.reduceEqDiff, Nat.add_zero, rI_hold, rI_hold, rL_hold, hcl, he95, he, ht, ht1, hn1]; exact congrArg nI (by omega))) ?_
  refine Bod.icF dc_350_613 rfl (k2_lt_F o n1 rfl rfl (by omega) (by omega)) ?_
  refine Bod.ic 1 (by decide) dc_350_616 ?_
  exact Bod.retZ dc_350_617 rt_350 (Or.inr rfl)
theorem rOn_28 {d : Nat} {S : cS} {cl : Nat} {e95 : Nat} {m : Nat} {zm : Nat} {r : Nat} {N : Nat} {e : Nat} {t : Nat} {S1 : cS} {g : Nat} {zg : Nat} {t1 : Nat} {o : Nat} {n1 : Nat} {r1 : Nat} {N1 : Nat} {e1 : Nat} {r2 : Nat} {N2 : Nat} {r3 : Nat} {N3 : Nat} {S2 : cS} (hcl : sI S 6159 = nI cl) (mcl : cl < 32) (b1 : 1 ≤ cl) (he95 : sA S 95 (cl - 1) = nI e95) (me95 : e95 < 2 ^ 20) (am : 108 ≤ m) (hq2 : sQ S 94 (cl - 1) = some m) (hz1 : (sS S)[m - 108]? = some (12, zm)) (hv1 : sV S (100 * m + 0) = .ref r) (hg1 : isK S r 0 N) (mN : N < 2 ^ 20) (b2 : e95 < N) (he : sA S r e95 = nI e) (me : e < 2 ^ 20) (sw15 : e = 32) (ht : sI S 6151 = nI t) (mt : t < 20481) (b3 : 2 ≤ t) (ag : 108 ≤ g) (c1 : Ans (d + 8) 361 [.ref 61, .int (nI (t - 2))] S (some (.ref g)) S1) (ht1 : sI S1 6151 = nI t1) (mt1 : t1 < 20481) (b4 : 1 ≤ t1) (ho : (sL S1 92 (t1 - 1)).toInt32 = nI o) (mo : o < 1500) (hz2 : (sS S1)[g - 108]? = some (13, zg)) (hn1 : sI S1 (100 * g + 1) = nI n1) (mn1 : n1 < 2 ^ 20) (b5 : o < n1) (hv2 : sV S1 (100 * g + 2) = .ref r1) (hg2 : isK S1 r1 0 N1) (mN1 : N1 < 2 ^ 20) (b6 : o < N1) (he1 : sA (wL 92 (t1 - 1) ((sL (wA 95 (cl - 1) (nI (e95 + 2)) S1) 92 (t1 - 1)) + 1) (wA 95 (cl - 1) (nI (e95 + 2)) S1)) r1 o = nI e1) (me1 : e1 < 2 ^ 20) (hv3 : sV S1 (100 * g + 4) = .ref r2) (hg3 : isK S1 r2 1 N2) (mN2 : N2 < 2 ^ 20) (b7 : o < N2) (hv4 : sV S1 (100 * g + 5) = .ref r3) (hg4 : isK S1 r3 1 N3) (mN3 : N3 < 2 ^ 20) (b8 : o < N3) (c2 : Ans (d + 8) 352 [.ref 61, .int (nI e1), .long (sL (wL 92 (t1 - 1) ((sL (wA 95 (cl - 1) (nI (e95 + 2)) S1) 92 (t1 - 1)) + 1) (wA 95 (cl - 1) (nI (e95 + 2)) S1)) r2 o), .long (sL (wL 92 (t1 - 1) ((sL (wA 95 (cl - 1) (nI (e95 + 2)) S1) 92 (t1 - 1)) + 1) (wA 95 (cl - 1) (nI (e95 + 2)) S1)) r3 o)] (wL 92 (t1 - 1) ((sL (wA 95 (cl - 1) (nI (e95 + 2)) S1) 92 (t1 - 1)) + 1) (wA 95 (cl - 1) (nI (e95 + 2)) S1)) none S2) : Bod (d + 8) 350 0 [(0, .ref 61)] [] S (some (.int 1)) (S2) := by
  refine Bod.go dc_350_0 rfl ?_
  refine Bod.get dc_350_1 fr_350_502 (mk_61 _) rfl ?_
  refine Bod.eqI (nI cl) (by first | assumption | rfl | exact congrArg nI (by omega) | (simp (disch := omega) only [rI, rIe, rA, rIA, rLA, rJA, rVI, rQI, rVA, rQA, upd_at,  rAI, rLI, rJI, nI_add, pk_sub, kc_0, kc_1, kc_2, kc_3, kc_4, kc_5, reduceIte, Nat.reduceEqDiff, Nat.add_zero, rI_hold, rI_hold, rL_hold, hcl]; done)) ?_
  refine Bod.ic 1 (by decide) dc_350_4 ?_
  refine Bod.subN (cl - 1) (by omega) (by omega) dc_350_5 ?_
  refine Bod.istn dc_350_6 (by rw [ml_350]; exact Nat.le_of_ble_eq_true rfl) ?_
  refine Bod.go dc_350_7 rfl ?_
  refine Bod.get dc_350_8 fr_350_572 (mk_61 _) rfl ?_
  refine Bod.go dc_350_11 rfl ?_
  refine Bod.ialdN (cl - 1) rfl (by omega) (by omega) dc_350_12 (mk_95 _) ?_
  refine Bod.eqI (nI e95) (by first | assumption | rfl | exact congrArg nI (by omega) | (simp (disch := omega) only [rI, rIe, rA, rIA, rLA, rJA, rVI, rQI, rVA, rQA, upd_at,  rAI, rLI, rJI, nI_add, pk_sub, kc_0, kc_1, kc_2, kc_3, kc_4, kc_5, reduceIte, Nat.reduceEqDiff, Nat.add_zero, rI_hold, rI_hold, rL_hold, hcl, he95]; done)) ?_
  refine Bod.istn dc_350_13 (by rw [ml_350]; exact Nat.le_of_ble_eq_true rfl) ?_
  refine Bod.go dc_350_14 rfl ?_
  refine Bod.get dc_350_15 fr_350_568 (mk_61 _) rfl ?_
  refine Bod.go dc_350_18 rfl ?_
  refine Bod.aaldR (N := 31) (b := m) (cl - 1) rfl (by omega) (by omega) hq2 dc_350_19 (mk_94 _) ht_6 ?_
  refine Bod.get dc_350_20 fr_350_222 (mk_code am (by first | exact hz1 | (simp only [rIS, rJS, rAS, rLS, rVS, rQS, rS_hold]; exact hz1))) rfl ?_
  refine Bod.eqV (.ref r) (by first | exact hv1 | (simp only [rIV, rJV, rAV, rLV, rQV, rV, reduceIte, Nat.reduceEqDiff]; exact hv1)) ?_
  refine Bod.astn dc_350_23 (by rw [ml_350]; exact Nat.le_of_ble_eq_true rfl) ?_
  refine Bod.go dc_350_24 rfl ?_
  refine Bod.go dc_350_25 rfl ?_
  refine Bod.ialdN (N := N) e95 rfl (by omega) (by omega) dc_350_26 (mk_isI (by first | exact hg1 | exact isK_S (by simp only [rIS, rJS, rAS, rLS, rVS, rQS, rS_hold]) hg1)) ?_
  refine Bod.eqI (nI e) (by first | assumption | rfl | exact congrArg nI (by omega) | (simp (disch := omega) only [rI, rIe, rA, rIA, rLA, rJA, rVI, rQI, rVA, rQA, upd_at,  rAI, rLI, rJI, nI_add, pk_sub, kc_0, kc_1, kc_2, kc_3, kc_4, kc_5, reduceIte, Nat.reduceEqDiff, Nat.add_zero, rI_hold, rI_hold, rL_hold, hcl, he95, he]; done)) ?_
  refine Bod.ist dc_350_27 (by rw [ml_350]; exact Nat.le_of_ble_eq_true rfl) ?_
  refine Bod.go dc_350_29 rfl ?_
  refine Bod.sw (t := 549) dc_350_31 rfl rfl (by rw [sw15]; decide +kernel) ?_
  refine Bod.go dc_350_549 rfl ?_
  refine Bod.go dc_350_550 rfl ?_
  refine Bod.get dc_350_551 fr_350_493 (mk_61 _) rfl ?_
  refine Bod.eqI (nI t) (by first | assumption | rfl | exact congrArg nI (by omega) | (simp (disch := omega) only [rI, rIe, rA, rIA, rLA, rJA, rVI, rQI, rVA, rQA, upd_at,  rAI, rLI, rJI, nI_add, pk_sub, kc_0, kc_1, kc_2, kc_3, kc_4, kc_5, reduceIte, Nat.reduceEqDiff, Nat.add_zero, rI_hold, rI_hold, rL_hold, hcl, he95, he, ht]; done)) ?_
  refine Bod.ic 2 (by decide) dc_350_554 ?_
  refine Bod.subN (t - 2) (by omega) (by omega) dc_350_555 ?_
  refine Bod.virt (r := []) dc_350_556 kr_350_554 ⟨Or.inl rfl, ow_361, cl_14⟩ (by rw [np_361]; rfl) (by rw [np_361]; rfl) (ob_of (mk_61 _)) (Nat.le_of_ble_eq_true rfl) (c1  ) ?_
  show Bod _ _ _ _ [_] _ _ _
  refine Bod.ast dc_350_559 (by rw [ml_350]; exact Nat.le_of_ble_eq_true rfl) ?_
  refine Bod.go dc_350_561 rfl ?_
  refine Bod.get dc_350_562 fr_350_499 (mk_61 _) rfl ?_
  refine Bod.go dc_350_565 rfl ?_
  refine Bod.get dc_350_566 fr_350_493 (mk_61 _) rfl ?_
  refine Bod.eqI (nI t1) (by first | assumption | (simp (disch := omega) only [rI, rIe, rA, rIA, rLA, rJA, rVI, rQI, rVA, rQA, upd_at,  rAI, rLI, rJI, nI_add, pk_sub, kc_0, kc_1, kc_2, kc_3, kc_4, kc_5, reduceIte, Nat.reduceEqDiff, Nat.add_zero, rI_hold, rI_hold, rL_hold, hcl, he95, he, ht, ht1]; done) | (simp (disch := omega) only [rI, rIe, rA, rIA, rLA, rJA, rVI, rQI, rVA, rQA, upd_at,  rAI, rLI, rJI, nI_add, pk_sub, kc_0, kc_1, kc_2, kc_3, kc_4, kc_5, reduceIte, Nat.reduceEqDiff, Nat.add_zero, rI_hold, rI_hold, rL_hold, hcl, he95, he, ht, ht1]; exact congrArg nI (by omega))) ?_
  refine Bod.ic 1 (by decide) dc_350_569 ?_
  refine Bod.subN (t1 - 1) (by omega) (by omega) dc_350_570 ?_
  refine Bod.laldN (t1 - 1) rfl (by omega) (by omega) dc_350_571 (mk_92 _) ?_
  refine Bod.go dc_350_572 rfl ?_
  refine Bod.eqI (nI o) (by first | exact ho | (simp only [rI, rIe, rA, rIA, rLA, rJA, rVI, rQI, rVA, rQA, upd_at,  rAI, rLI, rJI, nI_add, pk_sub, kc_0, kc_1, kc_2, kc_3, kc_4, kc_5, reduceIte, Nat.reduceEqDiff, Nat.add_zero, rI_hold, rI_hold, rL_hold]; exact ho)) ?_
  refine Bod.ist dc_350_573 (by rw [ml_350]; exact Nat.le_of_ble_eq_true rfl) ?_
  refine Bod.go dc_350_575 rfl ?_
  refine Bod.get dc_350_576 fr_350_572 (mk_61 _) rfl ?_
  refine Bod.go dc_350_579 rfl ?_
  refine Bod.go dc_350_580 rfl ?_
  refine Bod.go dc_350_582 rfl ?_
  refine Bod.get dc_350_584 fr_350_459 (mk_thing ag (by first | exact hz2 | (simp only [rIS, rJS, rAS, rLS, rVS, rQS, rS_hold]; exact hz2))) rfl ?_
  refine Bod.eqI (nI n1) (by first | assumption | (simp (disch := omega) only [rI, rIe, rA, rIA, rLA, rJA, rVI, rQI, rVA, rQA, upd_at,  rAI, rLI, rJI, nI_add, pk_sub, kc_0, kc_1, kc_2, kc_3, kc_4, kc_5, reduceIte, Nat.reduceEqDiff, Nat.add_zero, rI_hold, rI_hold, rL_hold, hcl, he95, he, ht, ht1, hn1]; done) | (simp (disch := omega) only [rI, rIe, rA, rIA, rLA, rJA, rVI, rQI, rVA, rQA, upd_at,  rAI, rLI, rJI, nI_add, pk_sub, kc_0, kc_1, kc_2, kc_3, kc_4, kc_5, reduceIte, Nat.reduceEqDiff, Nat.add_zero, rI_hold, rI_hold, rL_hold, hcl, he95, he, ht, ht1, hn1]; exact congrArg nI (by omega))) ?_
  refine Bod.icF dc_350_587 rfl (k2_ge_F o n1 rfl rfl (by omega) (by omega)) ?_
  refine Bod.go dc_350_590 rfl ?_
  refine Bod.ic 2 (by decide) dc_350_591 ?_
  refine Bod.addN (e95 + 2) (by omega) dc_350_592 ?_
  refine Bod.go dc_350_593 rfl ?_
  refine Bod.iastN (cl - 1) rfl (by omega) (by omega) dc_350_605 (mk_95 _) (sa_95 _ _ _) (mu_A _ _ _ _) ?_
  refine Bod.go dc_350_606 rfl ?_
  refine Bod.go dc_350_608 rfl ?_
  refine Bod.get dc_350_610 fr_350_459 (mk_thing ag (by first | exact hz2 | (simp only [rIS, rJS, rAS, rLS, rVS, rQS, rS_hold]; exact hz2))) rfl ?_
  refine Bod.eqI (nI n1) (by first | assumption | (simp (disch := omega) only [rI, rIe, rA, rIA, rLA, rJA, rVI, rQI, rVA, rQA, upd_at,  rAI, rLI, rJI, nI_add, pk_sub, kc_0, kc_1, kc_2, kc_3, kc_4, kc_5, reduceIte, Nat.reduceEqDiff, Nat.add_zero, rI_hold, rI_hold, rL_hold, hcl, he95, he, ht, ht1, hn1]; done) | (simp (disch := omega) only [rI, rIe, rA, rIA, rLA, rJA, rVI, rQI, rVA, rQA, upd_at,  rAI, rLI, rJI, nI_add, pk_sub, kc_0, kc_1, kc_2, kc_3, kc_4, kc_5, reduceIte, Nat.reduceEqDiff, Nat.add_zero, rI_hold, rI_hold, rL_hold, hcl, he95, he, ht, ht1, hn1]; exact congrArg nI (by omega))) ?_
  refine Bod.icT dc_350_613 rfl (k2_lt_T o n1 rfl rfl (by omega) (by omega)) ?_
  refine Bod.go dc_350_618 rfl ?_
  refine Bod.get dc_350_619 fr_350_499 (mk_61 _) rfl ?_
  refine Bod.go dc_350_622 rfl ?_
  refine Bod.get dc_350_623 fr_350_493 (mk_61 _) rfl ?_
  refine Bod.eqI (nI t1) (by first | assumption | (simp (disch := omega) only [rI, rIe, rA, rIA, rLA, rJA, rVI, rQI, rVA, rQA, upd_at,  rAI, rLI, rJI, nI_add, pk_sub, kc_0, kc_1, kc_2, kc_3, kc_4, kc_5, reduceIte, Nat.reduceEqDiff, Nat.add_zero, rI_hold, rI_hold, rL_hold, hcl, he95, he, ht, ht1, hn1]; done) | (simp (disch := omega) only [rI, rIe, rA, rIA, rLA, rJA, rVI, rQI, rVA, rQA, upd_at,  rAI, rLI, rJI, nI_add, pk_sub, kc_0, kc_1, kc_2, kc_3, kc_4, kc_5, reduceIte, Nat.reduceEqDiff, Nat.add_zero, rI_hold, rI_hold, rL_hold, hcl, he95, he, ht, ht1, hn1]; exact congrArg nI (by omega))) ?_
  refine Bod.ic 1 (by decide) dc_350_626 ?_
  refine Bod.subN (t1 - 1) (by omega) (by omega) dc_350_627 ?_
  refine Bod.go dc_350_628 rfl ?_
  refine Bod.laldN (t1 - 1) rfl (by omega) (by omega) dc_350_629 (mk_92 _) ?_
  refine Bod.go dc_350_630 rfl ?_
  refine Bod.go dc_350_631 rfl ?_
  refine Bod.lastN (t1 - 1) rfl (by omega) (by omega) dc_350_632 (mk_92 _) (sa_92 _ _ _) (mu_L _ _ _ _) ?_
  refine Bod.go dc_350_633 rfl ?_
  refine Bod.go dc_350_634 rfl ?_
  refine Bod.get dc_350_636 fr_350_462 (mk_thing ag (by first | exact hz2 | (simp only [rIS, rJS, rAS, rLS, rVS, rQS, rS_hold]; exact hz2))) rfl ?_
  refine Bod.eqV (.ref r1) (by first | exact hv2 | (simp only [rIV, rJV, rAV, rLV, rQV, rV, reduceIte, Nat.reduceEqDiff]; exact hv2)) ?_
  refine Bod.go dc_350_639 rfl ?_
  refine Bod.ialdN (N := N1) o rfl (by omega) (by omega) dc_350_641 (mk_isI (by first | exact hg2 | exact isK_S (by simp only [rIS, rJS, rAS, rLS, rVS, rQS, rS_hold]) hg2)) ?_
  refine Bod.eqI (nI e1) (by first | assumption | (simp (disch := omega) only [rI, rIe, rA, rIA, rLA, rJA, rVI, rQI, rVA, rQA, upd_at,  rAI, rLI, rJI, nI_add, pk_sub, kc_0, kc_1, kc_2, kc_3, kc_4, kc_5, reduceIte, Nat.reduceEqDiff, Nat.add_zero, rI_hold, rI_hold, rL_hold, hcl, he95, he, ht, ht1, hn1, he1]; done) | (simp (disch := omega) only [rI, rIe, rA, rIA, rLA, rJA, rVI, rQI, rVA, rQA, upd_at,  rAI, rLI, rJI, nI_add, pk_sub, kc_0, kc_1, kc_2, kc_3, kc_4, kc_5, reduceIte, Nat.reduceEqDiff, Nat.add_zero, rI_hold, rI_hold, rL_hold, hcl, he95, he, ht, ht1, hn1, he1]; exact congrArg nI (by omega))) ?_
  refine Bod.go dc_350_642 rfl ?_
  refine Bod.get dc_350_644 fr_350_465 (mk_thing ag (by first | exact hz2 | (simp only [rIS, rJS, rAS, rLS, rVS, rQS, rS_hold]; exact hz2))) rfl ?_
  refine Bod.eqV (.ref r2) (by first | exact hv3 | (simp only [rIV, rJV, rAV, rLV, rQV, rV, reduceIte, Nat.reduceEqDiff]; exact hv3)) ?_
  refine Bod.go dc_350_647 rfl ?_
  refine Bod.laldN (N := N2) o rfl (by omega) (by omega) dc_350_649 (mk_isL (by first | exact hg3 | exact isK_S (by simp only [rIS, rJS, rAS, rLS, rVS, rQS, rS_hold]) hg3)) ?_
  refine Bod.go dc_350_650 rfl ?_
  refine Bod.get dc_350_652 fr_350_627 (mk_thing ag (by first | exact hz2 | (simp only [rIS, rJS, rAS, rLS, rVS, rQS, rS_hold]; exact hz2))) rfl ?_
  refine Bod.eqV (.ref r3) (by first | exact hv4 | (simp only [rIV, rJV, rAV, rLV, rQV, rV, reduceIte, Nat.reduceEqDiff]; exact hv4)) ?_
  refine Bod.go dc_350_655 rfl ?_
  refine Bod.laldN (N := N3) o rfl (by omega) (by omega) dc_350_657 (mk_isL (by first | exact hg4 | exact isK_S (by simp only [rIS, rJS, rAS, rLS, rVS, rQS, rS_hold]) hg4)) ?_
  refine Bod.virt (r := []) dc_350_658 kr_350_549 ⟨Or.inl rfl, ow_352, cl_14⟩ (by rw [np_352]; rfl) (by rw [np_352]; rfl) (ob_of (mk_61 _)) (Nat.le_of_ble_eq_true rfl) (c2  ) ?_
  show Bod _ _ _ _ [] _ _ _
  refine Bod.ic 1 (by decide) dc_350_661 ?_
  exact Bod.retZ dc_350_662 rt_350 (Or.inr rfl)
theorem rOn_29 {d : Nat} {S : cS} {cl : Nat} {e95 : Nat} {m : Nat} {zm : Nat} {r : Nat} {N : Nat} {e : Nat} {t : Nat} {S1 : cS} {g : Nat} {zg : Nat} {t1 : Nat} {o : Nat} {n1 : Nat} {r1 : Nat} {N1 : Nat} {r2 : Nat} {N2 : Nat} {r3 : Nat} {N3 : Nat} {S2 : cS} (hcl : sI S 6159 = nI cl) (mcl : cl < 32) (b1 : 1 ≤ cl) (he95 : sA S 95 (cl - 1) = nI e95) (me95 : e95 < 2 ^ 20) (am : 108 ≤ m) (hq2 : sQ S 94 (cl - 1) = some m) (hz1 : (sS S)[m - 108]? = some (12, zm)) (hv1 : sV S (100 * m + 0) = .ref r) (hg1 : isK S r 0 N) (mN : N < 2 ^ 20) (b2 : e95 < N) (he : sA S r e95 = nI e) (me : e < 2 ^ 20) (sw15 : e = 32) (ht : sI S 6151 = nI t) (mt : t < 20481) (b3 : 2 ≤ t) (ag : 108 ≤ g) (c1 : Ans (d + 8) 361 [.ref 61, .int (nI (t - 2))] S (some (.ref g)) S1) (ht1 : sI S1 6151 = nI t1) (mt1 : t1 < 20481) (b4 : 1 ≤ t1) (ho : (sL S1 92 (t1 - 1)).toInt32 = nI o) (mo : o < 1500) (hz2 : (sS S1)[g - 108]? = some (13, zg)) (hn1 : sI S1 (100 * g + 1) = nI n1) (mn1 : n1 < 2 ^ 20) (b5 : o < n1) (hv2 : sV S1 (100 * g + 2) = .ref r1) (hg2 : isK S1 r1 0 N1) (mN1 : N1 < 2 ^ 20) (b6 : o < N1) (n7 : sA (wL 92 (t1 - 1) ((sL (wA 95 (cl - 1) (nI (e95 + 2)) S1) 92 (t1 - 1)) + 1) (wA 95 (cl - 1) (nI (e95 + 2)) S1)) r1 o = Int32.ofInt (-1)) (hv3 : sV S1 (100 * g + 4) = .ref r2) (hg3 : isK S1 r2 1 N2) (mN2 : N2 < 2 ^ 20) (b8 : o < N2) (hv4 : sV S1 (100 * g + 5) = .ref r3) (hg4 : isK S1 r3 1 N3) (mN3 : N3 < 2 ^ 20) (b9 : o < N3) (c2 : Ans (d + 8) 352 [.ref 61, .int (Int32.ofInt (-1)), .long (sL (wL 92 (t1 - 1) ((sL (wA 95 (cl - 1) (nI (e95 + 2)) S1) 92 (t1 - 1)) + 1) (wA 95 (cl - 1) (nI (e95 + 2)) S1)) r2 o), .long (sL (wL 92 (t1 - 1) ((sL (wA 95 (cl - 1) (nI (e95 + 2)) S1) 92 (t1 - 1)) + 1) (wA 95 (cl - 1) (nI (e95 + 2)) S1)) r3 o)] (wL 92 (t1 - 1) ((sL (wA 95 (cl - 1) (nI (e95 + 2)) S1) 92 (t1 - 1)) + 1) (wA 95 (cl - 1) (nI (e95 + 2)) S1)) none S2) : Bod (d + 8) 350 0 [(0, .ref 61)] [] S (some (.int 1)) (S2) := by
  refine Bod.go dc_350_0 rfl ?_
  refine Bod.get dc_350_1 fr_350_502 (mk_61 _) rfl ?_
  refine Bod.eqI (nI cl) (by first | assumption | rfl | exact congrArg nI (by omega) | (simp (disch := omega) only [rI, rIe, rA, rIA, rLA, rJA, rVI, rQI, rVA, rQA, upd_at,  rAI, rLI, rJI, nI_add, pk_sub, kc_0, kc_1, kc_2, kc_3, kc_4, kc_5, reduceIte, Nat.reduceEqDiff, Nat.add_zero, rI_hold, rI_hold, rL_hold, hcl]; done)) ?_
  refine Bod.ic 1 (by decide) dc_350_4 ?_
  refine Bod.subN (cl - 1) (by omega) (by omega) dc_350_5 ?_
  refine Bod.istn dc_350_6 (by rw [ml_350]; exact Nat.le_of_ble_eq_true rfl) ?_
  refine Bod.go dc_350_7 rfl ?_
  refine Bod.get dc_350_8 fr_350_572 (mk_61 _) rfl ?_
  refine Bod.go dc_350_11 rfl ?_
  refine Bod.ialdN (cl - 1) rfl (by omega) (by omega) dc_350_12 (mk_95 _) ?_
  refine Bod.eqI (nI e95) (by first | assumption | rfl | exact congrArg nI (by omega) | (simp (disch := omega) only [rI, rIe, rA, rIA, rLA, rJA, rVI, rQI, rVA, rQA, upd_at,  rAI, rLI, rJI, nI_add, pk_sub, kc_0, kc_1, kc_2, kc_3, kc_4, kc_5, reduceIte, Nat.reduceEqDiff, Nat.add_zero, rI_hold, rI_hold, rL_hold, hcl, he95]; done)) ?_
  refine Bod.istn dc_350_13 (by rw [ml_350]; exact Nat.le_of_ble_eq_true rfl) ?_
  refine Bod.go dc_350_14 rfl ?_
  refine Bod.get dc_350_15 fr_350_568 (mk_61 _) rfl ?_
  refine Bod.go dc_350_18 rfl ?_
  refine Bod.aaldR (N := 31) (b := m) (cl - 1) rfl (by omega) (by omega) hq2 dc_350_19 (mk_94 _) ht_6 ?_
  refine Bod.get dc_350_20 fr_350_222 (mk_code am (by first | exact hz1 | (simp only [rIS, rJS, rAS, rLS, rVS, rQS, rS_hold]; exact hz1))) rfl ?_
  refine Bod.eqV (.ref r) (by first | exact hv1 | (simp only [rIV, rJV, rAV, rLV, rQV, rV, reduceIte, Nat.reduceEqDiff]; exact hv1)) ?_
  refine Bod.astn dc_350_23 (by rw [ml_350]; exact Nat.le_of_ble_eq_true rfl) ?_
  refine Bod.go dc_350_24 rfl ?_
  refine Bod.go dc_350_25 rfl ?_
  refine Bod.ialdN (N := N) e95 rfl (by omega) (by omega) dc_350_26 (mk_isI (by first | exact hg1 | exact isK_S (by simp only [rIS, rJS, rAS, rLS, rVS, rQS, rS_hold]) hg1)) ?_
  refine Bod.eqI (nI e) (by first | assumption | rfl | exact congrArg nI (by omega) | (simp (disch := omega) only [rI, rIe, rA, rIA, rLA, rJA, rVI, rQI, rVA, rQA, upd_at,  rAI, rLI, rJI, nI_add, pk_sub, kc_0, kc_1, kc_2, kc_3, kc_4, kc_5, reduceIte, Nat.reduceEqDiff, Nat.add_zero, rI_hold, rI_hold, rL_hold, hcl, he95, he]; done)) ?_
  refine Bod.ist dc_350_27 (by rw [ml_350]; exact Nat.le_of_ble_eq_true rfl) ?_
  refine Bod.go dc_350_29 rfl ?_
  refine Bod.sw (t := 549) dc_350_31 rfl rfl (by rw [sw15]; decide +kernel) ?_
  refine Bod.go dc_350_549 rfl ?_
  refine Bod.go dc_350_550 rfl ?_
  refine Bod.get dc_350_551 fr_350_493 (mk_61 _) rfl ?_
  refine Bod.eqI (nI t) (by first | assumption | rfl | exact congrArg nI (by omega) | (simp (disch := omega) only [rI, rIe, rA, rIA, rLA, rJA, rVI, rQI, rVA, rQA, upd_at,  rAI, rLI, rJI, nI_add, pk_sub, kc_0, kc_1, kc_2, kc_3, kc_4, kc_5, reduceIte, Nat.reduceEqDiff, Nat.add_zero, rI_hold, rI_hold, rL_hold, hcl, he95, he, ht]; done)) ?_
  refine Bod.ic 2 (by decide) dc_350_554 ?_
  refine Bod.subN (t - 2) (by omega) (by omega) dc_350_555 ?_
  refine Bod.virt (r := []) dc_350_556 kr_350_554 ⟨Or.inl rfl, ow_361, cl_14⟩ (by rw [np_361]; rfl) (by rw [np_361]; rfl) (ob_of (mk_61 _)) (Nat.le_of_ble_eq_true rfl) (c1  ) ?_
  show Bod _ _ _ _ [_] _ _ _
  refine Bod.ast dc_350_559 (by rw [ml_350]; exact Nat.le_of_ble_eq_true rfl) ?_
  refine Bod.go dc_350_561 rfl ?_
  refine Bod.get dc_350_562 fr_350_499 (mk_61 _) rfl ?_
  refine Bod.go dc_350_565 rfl ?_
  refine Bod.get dc_350_566 fr_350_493 (mk_61 _) rfl ?_
  refine Bod.eqI (nI t1) (by first | assumption | (simp (disch := omega) only [rI, rIe, rA, rIA, rLA, rJA, rVI, rQI, rVA, rQA, upd_at,  rAI, rLI, rJI, nI_add, pk_sub, kc_0, kc_1, kc_2, kc_3, kc_4, kc_5, reduceIte, Nat.reduceEqDiff, Nat.add_zero, rI_hold, rI_hold, rL_hold, hcl, he95, he, ht, ht1]; done) | (simp (disch := omega) only [rI, rIe, rA, rIA, rLA, rJA, rVI, rQI, rVA, rQA, upd_at,  rAI, rLI, rJI, nI_add, pk_sub, kc_0, kc_1, kc_2, kc_3, kc_4, kc_5, reduceIte, Nat.reduceEqDiff, Nat.add_zero, rI_hold, rI_hold, rL_hold, hcl, he95, he, ht, ht1]; exact congrArg nI (by omega))) ?_
  refine Bod.ic 1 (by decide) dc_350_569 ?_
  refine Bod.subN (t1 - 1) (by omega) (by omega) dc_350_570 ?_
  refine Bod.laldN (t1 - 1) rfl (by omega) (by omega) dc_350_571 (mk_92 _) ?_
  refine Bod.go dc_350_572 rfl ?_
  refine Bod.eqI (nI o) (by first | exact ho | (simp only [rI, rIe, rA, rIA, rLA, rJA, rVI, rQI, rVA, rQA, upd_at,  rAI, rLI, rJI, nI_add, pk_sub, kc_0, kc_1, kc_2, kc_3, kc_4, kc_5, reduceIte, Nat.reduceEqDiff, Nat.add_zero, rI_hold, rI_hold, rL_hold]; exact ho)) ?_
  refine Bod.ist dc_350_573 (by rw [ml_350]; exact Nat.le_of_ble_eq_true rfl) ?_
  refine Bod.go dc_350_575 rfl ?_
  refine Bod.get dc_350_576 fr_350_572 (mk_61 _) rfl ?_
  refine Bod.go dc_350_579 rfl ?_
  refine Bod.go dc_350_580 rfl ?_
  refine Bod.go dc_350_582 rfl ?_
  refine Bod.get dc_350_584 fr_350_459 (mk_thing ag (by first | exact hz2 | (simp only [rIS, rJS, rAS, rLS, rVS, rQS, rS_hold]; exact hz2))) rfl ?_
  refine Bod.eqI (nI n1) (by first | assumption | (simp (disch := omega) only [rI, rIe, rA, rIA, rLA, rJA, rVI, rQI, rVA, rQA, upd_at,  rAI, rLI, rJI, nI_add, pk_sub, kc_0, kc_1, kc_2, kc_3, kc_4, kc_5, reduceIte, Nat.reduceEqDiff, Nat.add_zero, rI_hold, rI_hold, rL_hold, hcl, he95, he, ht, ht1, hn1]; done) | (simp (disch := omega) only [rI, rIe, rA, rIA, rLA, rJA, rVI, rQI, rVA, rQA, upd_at,  rAI, rLI, rJI, nI_add, pk_sub, kc_0, kc_1, kc_2, kc_3, kc_4, kc_5, reduceIte, Nat.reduceEqDiff, Nat.add_zero, rI_hold, rI_hold, rL_hold, hcl, he95, he, ht, ht1, hn1]; exact congrArg nI (by omega))) ?_
  refine Bod.icF dc_350_587 rfl (k2_ge_F o n1 rfl rfl (by omega) (by omega)) ?_
  refine Bod.go dc_350_590 rfl ?_
  refine Bod.ic 2 (by decide) dc_350_591 ?_
  refine Bod.addN (e95 + 2) (by omega) dc_350_592 ?_
  refine Bod.go dc_350_593 rfl ?_
  refine Bod.iastN (cl - 1) rfl (by omega) (by omega) dc_350_605 (mk_95 _) (sa_95 _ _ _) (mu_A _ _ _ _) ?_
  refine Bod.go dc_350_606 rfl ?_
  refine Bod.go dc_350_608 rfl ?_
  refine Bod.get dc_350_610 fr_350_459 (mk_thing ag (by first | exact hz2 | (simp only [rIS, rJS, rAS, rLS, rVS, rQS, rS_hold]; exact hz2))) rfl ?_
  refine Bod.eqI (nI n1) (by first | assumption | (simp (disch := omega) only [rI, rIe, rA, rIA, rLA, rJA, rVI, rQI, rVA, rQA, upd_at,  rAI, rLI, rJI, nI_add, pk_sub, kc_0, kc_1, kc_2, kc_3, kc_4, kc_5, reduceIte, Nat.reduceEqDiff, Nat.add_zero, rI_hold, rI_hold, rL_hold, hcl, he95, he, ht, ht1, hn1]; done) | (simp (disch := omega) only [rI, rIe, rA, rIA, rLA, rJA, rVI, rQI, rVA, rQA, upd_at,  rAI, rLI, rJI, nI_add, pk_sub, kc_0, kc_1, kc_2, kc_3, kc_4, kc_5, reduceIte, Nat.reduceEqDiff, Nat.add_zero, rI_hold, rI_hold, rL_hold, hcl, he95, he, ht, ht1, hn1]; exact congrArg nI (by omega))) ?_
  refine Bod.icT dc_350_613 rfl (k2_lt_T o n1 rfl rfl (by omega) (by omega)) ?_
  refine Bod.go dc_350_618 rfl ?_
  refine Bod.get dc_350_619 fr_350_499 (mk_61 _) rfl ?_
  refine Bod.go dc_350_622 rfl ?_
  refine Bod.get dc_350_623 fr_350_493 (mk_61 _) rfl ?_
  refine Bod.eqI (nI t1) (by first | assumption | (simp (disch := omega) only [rI, rIe, rA, rIA, rLA, rJA, rVI, rQI, rVA, rQA, upd_at,  rAI, rLI, rJI, nI_add, pk_sub, kc_0, kc_1, kc_2, kc_3, kc_4, kc_5, reduceIte, Nat.reduceEqDiff, Nat.add_zero, rI_hold, rI_hold, rL_hold, hcl, he95, he, ht, ht1, hn1]; done) | (simp (disch := omega) only [rI, rIe, rA, rIA, rLA, rJA, rVI, rQI, rVA, rQA, upd_at,  rAI, rLI, rJI, nI_add, pk_sub, kc_0, kc_1, kc_2, kc_3, kc_4, kc_5, reduceIte, Nat.reduceEqDiff, Nat.add_zero, rI_hold, rI_hold, rL_hold, hcl, he95, he, ht, ht1, hn1]; exact congrArg nI (by omega))) ?_
  refine Bod.ic 1 (by decide) dc_350_626 ?_
  refine Bod.subN (t1 - 1) (by omega) (by omega) dc_350_627 ?_
  refine Bod.go dc_350_628 rfl ?_
  refine Bod.laldN (t1 - 1) rfl (by omega) (by omega) dc_350_629 (mk_92 _) ?_
  refine Bod.go dc_350_630 rfl ?_
  refine Bod.go dc_350_631 rfl ?_
  refine Bod.lastN (t1 - 1) rfl (by omega) (by omega) dc_350_632 (mk_92 _) (sa_92 _ _ _) (mu_L _ _ _ _) ?_
  refine Bod.go dc_350_633 rfl ?_
  refine Bod.go dc_350_634 rfl ?_
  refine Bod.get dc_350_636 fr_350_462 (mk_thing ag (by first | exact hz2 | (simp only [rIS, rJS, rAS, rLS, rVS, rQS, rS_hold]; exact hz2))) rfl ?_
  refine Bod.eqV (.ref r1) (by first | exact hv2 | (simp only [rIV, rJV, rAV, rLV, rQV, rV, reduceIte, Nat.reduceEqDiff]; exact hv2)) ?_
  refine Bod.go dc_350_639 rfl ?_
  refine Bod.ialdN (N := N1) o rfl (by omega) (by omega) dc_350_641 (mk_isI (by first | exact hg2 | exact isK_S (by simp only [rIS, rJS, rAS, rLS, rVS, rQS, rS_hold]) hg2)) ?_
  refine Bod.eqI (Int32.ofInt (-1)) (by first | assumption | (simp (disch := omega) only [rI, rIe, rA, rIA, rLA, rJA, rVI, rQI, rVA, rQA, upd_at,  rAI, rLI, rJI, nI_add, pk_sub, kc_0, kc_1, kc_2, kc_3, kc_4, kc_5, reduceIte, Nat.reduceEqDiff, Nat.add_zero, rI_hold, rI_hold, rL_hold, hcl, he95, he, ht, ht1, hn1, n7]; done) | (simp (disch := omega) only [rI, rIe, rA, rIA, rLA, rJA, rVI, rQI, rVA, rQA, upd_at,  rAI, rLI, rJI, nI_add, pk_sub, kc_0, kc_1, kc_2, kc_3, kc_4, kc_5, reduceIte, Nat.reduceEqDiff, Nat.add_zero, rI_hold, rI_hold, rL_hold, hcl, he95, he, ht, ht1, hn1, n7]; exact congrArg nI (by omega))) ?_
  refine Bod.go dc_350_642 rfl ?_
  refine Bod.get dc_350_644 fr_350_465 (mk_thing ag (by first | exact hz2 | (simp only [rIS, rJS, rAS, rLS, rVS, rQS, rS_hold]; exact hz2))) rfl ?_
  refine Bod.eqV (.ref r2) (by first | exact hv3 | (simp only [rIV, rJV, rAV, rLV, rQV, rV, reduceIte, Nat.reduceEqDiff]; exact hv3)) ?_
  refine Bod.go dc_350_647 rfl ?_
  refine Bod.laldN (N := N2) o rfl (by omega) (by omega) dc_350_649 (mk_isL (by first | exact hg3 | exact isK_S (by simp only [rIS, rJS, rAS, rLS, rVS, rQS, rS_hold]) hg3)) ?_
  refine Bod.go dc_350_650 rfl ?_
  refine Bod.get dc_350_652 fr_350_627 (mk_thing ag (by first | exact hz2 | (simp only [rIS, rJS, rAS, rLS, rVS, rQS, rS_hold]; exact hz2))) rfl ?_
  refine Bod.eqV (.ref r3) (by first | exact hv4 | (simp only [rIV, rJV, rAV, rLV, rQV, rV, reduceIte, Nat.reduceEqDiff]; exact hv4)) ?_
  refine Bod.go dc_350_655 rfl ?_
  refine Bod.laldN (N := N3) o rfl (by omega) (by omega) dc_350_657 (mk_isL (by first | exact hg4 | exact isK_S (by simp only [rIS, rJS, rAS, rLS, rVS, rQS, rS_hold]) hg4)) ?_
  refine Bod.virt (r := []) dc_350_658 kr_350_549 ⟨Or.inl rfl, ow_352, cl_14⟩ (by rw [np_352]; rfl) (by rw [np_352]; rfl) (ob_of (mk_61 _)) (Nat.le_of_ble_eq_true rfl) (c2  ) ?_
  show Bod _ _ _ _ [] _ _ _
  refine Bod.ic 1 (by decide) dc_350_661 ?_
  exact Bod.retZ dc_350_662 rt_350 (Or.inr rfl)
theorem rOn_30 {d : Nat} {S : cS} {cl : Nat} {e95 : Nat} {m : Nat} {zm : Nat} {r : Nat} {N : Nat} {e : Nat} {tr : Nat} {t : Nat} (hcl : sI S 6159 = nI cl) (mcl : cl < 32) (b1 : 1 ≤ cl) (he95 : sA S 95 (cl - 1) = nI e95) (me95 : e95 < 2 ^ 20) (am : 108 ≤ m) (hq2 : sQ S 94 (cl - 1) = some m) (hz1 : (sS S)[m - 108]? = some (12, zm)) (hv1 : sV S (100 * m + 0) = .ref r) (hg1 : isK S r 0 N) (mN : N < 2 ^ 20) (b2 : e95 < N) (he : sA S r e95 = nI e) (me : e < 2 ^ 20) (sw15 : e = 34) (htr : sI (wA 95 (cl - 1) (nI (e95 + 2)) S) 6163 = nI tr) (mtr : tr < 401) (b3 : tr < 400) (b4 : (e95 + 1) < N) (ht : sI (wA 102 tr ((nI (e95 + 1)) + (sA (wA 101 tr (nI (cl - 1)) (wA 95 (cl - 1) (nI (e95 + 2)) S)) r (e95 + 1))) (wA 101 tr (nI (cl - 1)) (wA 95 (cl - 1) (nI (e95 + 2)) S))) 6151 = nI t) (mt : t < 20481) : Bod (d + 8) 350 0 [(0, .ref 61)] [] S (some (.int 1)) (wI 6163 (nI (tr + 1)) (wA 103 tr (nI t) (wA 102 tr ((nI (e95 + 1)) + (sA (wA 101 tr (nI (cl - 1)) (wA 95 (cl - 1) (nI (e95 + 2)) S)) r (e95 + 1))) (wA 101 tr (nI (cl - 1)) (wA 95 (cl - 1) (nI (e95 + 2)) S))))) := by
  refine Bod.go dc_350_0 rfl ?_
  refine Bod.get dc_350_1 fr_350_502 (mk_61 _) rfl ?_
  refine Bod.eqI (nI cl) (by first | assumption | rfl | exact congrArg nI (by omega) | (simp (disch := omega) only [rI, rIe, rA, rIA, rLA, rJA, rVI, rQI, rVA, rQA, upd_at,  rAI, rLI, rJI, nI_add, pk_sub, kc_0, kc_1, kc_2, kc_3, kc_4, kc_5, reduceIte, Nat.reduceEqDiff, Nat.add_zero, rI_hold, rI_hold, rL_hold, hcl]; done)) ?_
  refine Bod.ic 1 (by decide) dc_350_4 ?_
  refine Bod.subN (cl - 1) (by omega) (by omega) dc_350_5 ?_
  refine Bod.istn dc_350_6 (by rw [ml_350]; exact Nat.le_of_ble_eq_true rfl) ?_
  refine Bod.go dc_350_7 rfl ?_
  refine Bod.get dc_350_8 fr_350_572 (mk_61 _) rfl ?_
  refine Bod.go dc_350_11 rfl ?_
  refine Bod.ialdN (cl - 1) rfl (by omega) (by omega) dc_350_12 (mk_95 _) ?_
  refine Bod.eqI (nI e95) (by first | assumption | rfl | exact congrArg nI (by omega) | (simp (disch := omega) only [rI, rIe, rA, rIA, rLA, rJA, rVI, rQI, rVA, rQA, upd_at,  rAI, rLI, rJI, nI_add, pk_sub, kc_0, kc_1, kc_2, kc_3, kc_4, kc_5, reduceIte, Nat.reduceEqDiff, Nat.add_zero, rI_hold, rI_hold, rL_hold, hcl, he95]; done)) ?_
  refine Bod.istn dc_350_13 (by rw [ml_350]; exact Nat.le_of_ble_eq_true rfl) ?_
  refine Bod.go dc_350_14 rfl ?_
  refine Bod.get dc_350_15 fr_350_568 (mk_61 _) rfl ?_
  refine Bod.go dc_350_18 rfl ?_
  refine Bod.aaldR (N := 31) (b := m) (cl - 1) rfl (by omega) (by omega) hq2 dc_350_19 (mk_94 _) ht_6 ?_
  refine Bod.get dc_350_20 fr_350_222 (mk_code am (by first | exact hz1 | (simp only [rIS, rJS, rAS, rLS, rVS, rQS, rS_hold]; exact hz1))) rfl ?_
  refine Bod.eqV (.ref r) (by first | exact hv1 | (simp only [rIV, rJV, rAV, rLV, rQV, rV, reduceIte, Nat.reduceEqDiff]; exact hv1)) ?_
  refine Bod.astn dc_350_23 (by rw [ml_350]; exact Nat.le_of_ble_eq_true rfl) ?_
  refine Bod.go dc_350_24 rfl ?_
  refine Bod.go dc_350_25 rfl ?_
  refine Bod.ialdN (N := N) e95 rfl (by omega) (by omega) dc_350_26 (mk_isI (by first | exact hg1 | exact isK_S (by simp only [rIS, rJS, rAS, rLS, rVS, rQS, rS_hold]) hg1)) ?_
  refine Bod.eqI (nI e) (by first | assumption | rfl | exact congrArg nI (by omega) | (simp (disch := omega) only [rI, rIe, rA, rIA, rLA, rJA, rVI, rQI, rVA, rQA, upd_at,  rAI, rLI, rJI, nI_add, pk_sub, kc_0, kc_1, kc_2, kc_3, kc_4, kc_5, reduceIte, Nat.reduceEqDiff, Nat.add_zero, rI_hold, rI_hold, rL_hold, hcl, he95, he]; done)) ?_
  refine Bod.ist dc_350_27 (by rw [ml_350]; exact Nat.le_of_ble_eq_true rfl) ?_
  refine Bod.go dc_350_29 rfl ?_
  refine Bod.sw (t := 663) dc_350_31 rfl rfl (by rw [sw15]; decide +kernel) ?_
  refine Bod.go dc_350_663 rfl ?_
  refine Bod.get dc_350_664 fr_350_572 (mk_61 _) rfl ?_
  refine Bod.go dc_350_667 rfl ?_
  refine Bod.go dc_350_668 rfl ?_
  refine Bod.ic 2 (by decide) dc_350_669 ?_
  refine Bod.addN (e95 + 2) (by omega) dc_350_670 ?_
  refine Bod.iastN (cl - 1) rfl (by omega) (by omega) dc_350_671 (mk_95 _) (sa_95 _ _ _) (mu_A _ _ _ _) ?_
  refine Bod.go dc_350_672 rfl ?_
  refine Bod.get dc_350_673 fr_350_584 (mk_61 _) rfl ?_
  refine Bod.go dc_350_676 rfl ?_
  refine Bod.get dc_350_677 fr_350_558 (mk_61 _) rfl ?_
  refine Bod.eqI (nI tr) (by first | assumption | (simp (disch := omega) only [rI, rIe, rA, rIA, rLA, rJA, rVI, rQI, rVA, rQA, upd_at,  rAI, rLI, rJI, nI_add, pk_sub, kc_0, kc_1, kc_2, kc_3, kc_4, kc_5, reduceIte, Nat.reduceEqDiff, Nat.add_zero, rI_hold, rI_hold, rL_hold, hcl, he95, he, htr]; done) | (simp (disch := omega) only [rI, rIe, rA, rIA, rLA, rJA, rVI, rQI, rVA, rQA, upd_at,  rAI, rLI, rJI, nI_add, pk_sub, kc_0, kc_1, kc_2, kc_3, kc_4, kc_5, reduceIte, Nat.reduceEqDiff, Nat.add_zero, rI_hold, rI_hold, rL_hold, hcl, he95, he, htr]; exact congrArg nI (by omega))) ?_
  refine Bod.go dc_350_680 rfl ?_
  refine Bod.iastN tr rfl (by omega) (by omega) dc_350_681 (mk_101 _) (sa_101 _ _ _) (mu_A _ _ _ _) ?_
  refine Bod.go dc_350_682 rfl ?_
  refine Bod.get dc_350_683 fr_350_590 (mk_61 _) rfl ?_
  refine Bod.go dc_350_686 rfl ?_
  refine Bod.get dc_350_687 fr_350_558 (mk_61 _) rfl ?_
  refine Bod.eqI (nI tr) (by first | assumption | (simp (disch := omega) only [rI, rIe, rA, rIA, rLA, rJA, rVI, rQI, rVA, rQA, upd_at,  rAI, rLI, rJI, nI_add, pk_sub, kc_0, kc_1, kc_2, kc_3, kc_4, kc_5, reduceIte, Nat.reduceEqDiff, Nat.add_zero, rI_hold, rI_hold, rL_hold, hcl, he95, he, htr]; done) | (simp (disch := omega) only [rI, rIe, rA, rIA, rLA, rJA, rVI, rQI, rVA, rQA, upd_at,  rAI, rLI, rJI, nI_add, pk_sub, kc_0, kc_1, kc_2, kc_3, kc_4, kc_5, reduceIte, Nat.reduceEqDiff, Nat.add_zero, rI_hold, rI_hold, rL_hold, hcl, he95, he, htr]; exact congrArg nI (by omega))) ?_
  refine Bod.go dc_350_690 rfl ?_
  refine Bod.ic 1 (by decide) dc_350_691 ?_
  refine Bod.addN (e95 + 1) (by omega) dc_350_692 ?_
  refine Bod.go dc_350_693 rfl ?_
  refine Bod.go dc_350_694 rfl ?_
  refine Bod.ic 1 (by decide) dc_350_695 ?_
  refine Bod.addN (e95 + 1) (by omega) dc_350_696 ?_
  refine Bod.ialdN (N := N) (e95 + 1) rfl (by omega) (by omega) dc_350_697 (mk_isI (by first | exact hg1 | exact isK_S (by simp only [rIS, rJS, rAS, rLS, rVS, rQS, rS_hold]) hg1)) ?_
  refine Bod.go dc_350_698 rfl ?_
  refine Bod.iastN tr rfl (by omega) (by omega) dc_350_699 (mk_102 _) (sa_102 _ _ _) (mu_A _ _ _ _) ?_
  refine Bod.go dc_350_700 rfl ?_
  refine Bod.get dc_350_701 fr_350_587 (mk_61 _) rfl ?_
  refine Bod.go dc_350_704 rfl ?_
  refine Bod.get dc_350_705 fr_350_558 (mk_61 _) rfl ?_
  refine Bod.eqI (nI tr) (by first | assumption | (simp (disch := omega) only [rI, rIe, rA, rIA, rLA, rJA, rVI, rQI, rVA, rQA, upd_at,  rAI, rLI, rJI, nI_add, pk_sub, kc_0, kc_1, kc_2, kc_3, kc_4, kc_5, reduceIte, Nat.reduceEqDiff, Nat.add_zero, rI_hold, rI_hold, rL_hold, hcl, he95, he, htr]; done) | (simp (disch := omega) only [rI, rIe, rA, rIA, rLA, rJA, rVI, rQI, rVA, rQA, upd_at,  rAI, rLI, rJI, nI_add, pk_sub, kc_0, kc_1, kc_2, kc_3, kc_4, kc_5, reduceIte, Nat.reduceEqDiff, Nat.add_zero, rI_hold, rI_hold, rL_hold, hcl, he95, he, htr]; exact congrArg nI (by omega))) ?_
  refine Bod.go dc_350_708 rfl ?_
  refine Bod.get dc_350_709 fr_350_493 (mk_61 _) rfl ?_
  refine Bod.eqI (nI t) (by first | assumption | (simp (disch := omega) only [rI, rIe, rA, rIA, rLA, rJA, rVI, rQI, rVA, rQA, upd_at,  rAI, rLI, rJI, nI_add, pk_sub, kc_0, kc_1, kc_2, kc_3, kc_4, kc_5, reduceIte, Nat.reduceEqDiff, Nat.add_zero, rI_hold, rI_hold, rL_hold, hcl, he95, he, htr, ht]; done) | (simp (disch := omega) only [rI, rIe, rA, rIA, rLA, rJA, rVI, rQI, rVA, rQA, upd_at,  rAI, rLI, rJI, nI_add, pk_sub, kc_0, kc_1, kc_2, kc_3, kc_4, kc_5, reduceIte, Nat.reduceEqDiff, Nat.add_zero, rI_hold, rI_hold, rL_hold, hcl, he95, he, htr, ht]; exact congrArg nI (by omega))) ?_
  refine Bod.iastN tr rfl (by omega) (by omega) dc_350_712 (mk_103 _) (sa_103 _ _ _) (mu_A _ _ _ _) ?_
  refine Bod.go dc_350_713 rfl ?_
  refine Bod.go dc_350_714 rfl ?_
  refine Bod.get dc_350_715 fr_350_558 (mk_61 _) rfl ?_
  refine Bod.eqI (nI tr) (by first | assumption | (simp (disch := omega) only [rI, rIe, rA, rIA, rLA, rJA, rVI, rQI, rVA, rQA, upd_at,  rAI, rLI, rJI, nI_add, pk_sub, kc_0, kc_1, kc_2, kc_3, kc_4, kc_5, reduceIte, Nat.reduceEqDiff, Nat.add_zero, rI_hold, rI_hold, rL_hold, hcl, he95, he, htr, ht]; done) | (simp (disch := omega) only [rI, rIe, rA, rIA, rLA, rJA, rVI, rQI, rVA, rQA, upd_at,  rAI, rLI, rJI, nI_add, pk_sub, kc_0, kc_1, kc_2, kc_3, kc_4, kc_5, reduceIte, Nat.reduceEqDiff, Nat.add_zero, rI_hold, rI_hold, rL_hold, hcl, he95, he, htr, ht]; exact congrArg nI (by omega))) ?_
  refine Bod.ic 1 (by decide) dc_350_718 ?_
  refine Bod.addN (tr + 1) (by omega) dc_350_719 ?_
  refine Bod.put dc_350_720 fr_350_558 (mk_61 _) (Nat.le_of_ble_eq_true rfl) pf_14_63 (st_6163 _ _) (mu_I _ _ _) ?_
  refine Bod.ic 1 (by decide) dc_350_723 ?_
  exact Bod.retZ dc_350_724 rt_350 (Or.inr rfl)
theorem rOn_31 {d : Nat} {S : cS} {cl : Nat} {e95 : Nat} {m : Nat} {zm : Nat} {r : Nat} {N : Nat} {e : Nat} {e1 : Nat} {S1 : cS} (hcl : sI S 6159 = nI cl) (mcl : cl < 32) (b1 : 1 ≤ cl) (he95 : sA S 95 (cl - 1) = nI e95) (me95 : e95 < 2 ^ 20) (am : 108 ≤ m) (hq2 : sQ S 94 (cl - 1) = some m) (hz1 : (sS S)[m - 108]? = some (12, zm)) (hv1 : sV S (100 * m + 0) = .ref r) (hg1 : isK S r 0 N) (mN : N < 2 ^ 20) (b2 : e95 < N) (he : sA S r e95 = nI e) (me : e < 2 ^ 20) (sw15 : e = 40) (b3 : (e95 + 3) < N) (he1 : sA S r (e95 + 3) = nI e1) (me1 : e1 < 2 ^ 20) (c1 : Ans (d + 8) 362 [.ref 61, .ref r, .int (nI e95)] (wA 95 (cl - 1) (nI (e95 + e1 + 4)) S) (some (.int (nI 1))) S1) : Bod (d + 8) 350 0 [(0, .ref 61)] [] S (some (.int 1)) (S1) := by
  refine Bod.go dc_350_0 rfl ?_
  refine Bod.get dc_350_1 fr_350_502 (mk_61 _) rfl ?_
  refine Bod.eqI (nI cl) (by first | assumption | rfl | exact congrArg nI (by omega) | (simp (disch := omega) only [rI, rIe, rA, rIA, rLA, rJA, rVI, rQI, rVA, rQA, upd_at,  rAI, rLI, rJI, nI_add, pk_sub, kc_0, kc_1, kc_2, kc_3, kc_4, kc_5, reduceIte, Nat.reduceEqDiff, Nat.add_zero, rI_hold, rI_hold, rL_hold, hcl]; done)) ?_
  refine Bod.ic 1 (by decide) dc_350_4 ?_
  refine Bod.subN (cl - 1) (by omega) (by omega) dc_350_5 ?_
  refine Bod.istn dc_350_6 (by rw [ml_350]; exact Nat.le_of_ble_eq_true rfl) ?_
  refine Bod.go dc_350_7 rfl ?_
  refine Bod.get dc_350_8 fr_350_572 (mk_61 _) rfl ?_
  refine Bod.go dc_350_11 rfl ?_
  refine Bod.ialdN (cl - 1) rfl (by omega) (by omega) dc_350_12 (mk_95 _) ?_
  refine Bod.eqI (nI e95) (by first | assumption | rfl | exact congrArg nI (by omega) | (simp (disch := omega) only [rI, rIe, rA, rIA, rLA, rJA, rVI, rQI, rVA, rQA, upd_at,  rAI, rLI, rJI, nI_add, pk_sub, kc_0, kc_1, kc_2, kc_3, kc_4, kc_5, reduceIte, Nat.reduceEqDiff, Nat.add_zero, rI_hold, rI_hold, rL_hold, hcl, he95]; done)) ?_
  refine Bod.istn dc_350_13 (by rw [ml_350]; exact Nat.le_of_ble_eq_true rfl) ?_
  refine Bod.go dc_350_14 rfl ?_
  refine Bod.get dc_350_15 fr_350_568 (mk_61 _) rfl ?_
  refine Bod.go dc_350_18 rfl ?_
  refine Bod.aaldR (N := 31) (b := m) (cl - 1) rfl (by omega) (by omega) hq2 dc_350_19 (mk_94 _) ht_6 ?_
  refine Bod.get dc_350_20 fr_350_222 (mk_code am (by first | exact hz1 | (simp only [rIS, rJS, rAS, rLS, rVS, rQS, rS_hold]; exact hz1))) rfl ?_
  refine Bod.eqV (.ref r) (by first | exact hv1 | (simp only [rIV, rJV, rAV, rLV, rQV, rV, reduceIte, Nat.reduceEqDiff]; exact hv1)) ?_
  refine Bod.astn dc_350_23 (by rw [ml_350]; exact Nat.le_of_ble_eq_true rfl) ?_
  refine Bod.go dc_350_24 rfl ?_
  refine Bod.go dc_350_25 rfl ?_
  refine Bod.ialdN (N := N) e95 rfl (by omega) (by omega) dc_350_26 (mk_isI (by first | exact hg1 | exact isK_S (by simp only [rIS, rJS, rAS, rLS, rVS, rQS, rS_hold]) hg1)) ?_
  refine Bod.eqI (nI e) (by first | assumption | rfl | exact congrArg nI (by omega) | (simp (disch := omega) only [rI, rIe, rA, rIA, rLA, rJA, rVI, rQI, rVA, rQA, upd_at,  rAI, rLI, rJI, nI_add, pk_sub, kc_0, kc_1, kc_2, kc_3, kc_4, kc_5, reduceIte, Nat.reduceEqDiff, Nat.add_zero, rI_hold, rI_hold, rL_hold, hcl, he95, he]; done)) ?_
  refine Bod.ist dc_350_27 (by rw [ml_350]; exact Nat.le_of_ble_eq_true rfl) ?_
  refine Bod.go dc_350_29 rfl ?_
  refine Bod.sw (t := 725) dc_350_31 rfl rfl (by rw [sw15]; decide +kernel) ?_
  refine Bod.go dc_350_725 rfl ?_
  refine Bod.get dc_350_726 fr_350_572 (mk_61 _) rfl ?_
  refine Bod.go dc_350_729 rfl ?_
  refine Bod.go dc_350_730 rfl ?_
  refine Bod.ic 4 (by decide) dc_350_731 ?_
  refine Bod.addN (e95 + 4) (by omega) dc_350_732 ?_
  refine Bod.go dc_350_733 rfl ?_
  refine Bod.go dc_350_734 rfl ?_
  refine Bod.ic 3 (by decide) dc_350_735 ?_
  refine Bod.addN (e95 + 3) (by omega) dc_350_736 ?_
  refine Bod.ialdN (N := N) (e95 + 3) rfl (by omega) (by omega) dc_350_737 (mk_isI (by first | exact hg1 | exact isK_S (by simp only [rIS, rJS, rAS, rLS, rVS, rQS, rS_hold]) hg1)) ?_
  refine Bod.eqI (nI e1) (by first | assumption | rfl | exact congrArg nI (by omega) | (simp (disch := omega) only [rI, rIe, rA, rIA, rLA, rJA, rVI, rQI, rVA, rQA, upd_at,  rAI, rLI, rJI, nI_add, pk_sub, kc_0, kc_1, kc_2, kc_3, kc_4, kc_5, reduceIte, Nat.reduceEqDiff, Nat.add_zero, rI_hold, rI_hold, rL_hold, hcl, he95, he, he1]; done)) ?_
  refine Bod.addN (e95 + e1 + 4) (by omega) dc_350_738 ?_
  refine Bod.iastN (cl - 1) rfl (by omega) (by omega) dc_350_739 (mk_95 _) (sa_95 _ _ _) (mu_A _ _ _ _) ?_
  refine Bod.go dc_350_740 rfl ?_
  refine Bod.go dc_350_741 rfl ?_
  refine Bod.go dc_350_742 rfl ?_
  refine Bod.virt (r := []) dc_350_743 kr_350_630 ⟨Or.inl rfl, ow_362, cl_14⟩ (by rw [np_362]; rfl) (by rw [np_362]; rfl) (ob_of (mk_61 _)) (Nat.le_of_ble_eq_true rfl) (c1  ) ?_
  show Bod _ _ _ _ [_] _ _ _
  exact Bod.retZ dc_350_746 rt_350 (Or.inr rfl)
theorem rOn_32 {d : Nat} {S : cS} {cl : Nat} {e95 : Nat} {m : Nat} {zm : Nat} {r : Nat} {N : Nat} {e : Nat} {e1 : Nat} {S1 : cS} (hcl : sI S 6159 = nI cl) (mcl : cl < 32) (b1 : 1 ≤ cl) (he95 : sA S 95 (cl - 1) = nI e95) (me95 : e95 < 2 ^ 20) (am : 108 ≤ m) (hq2 : sQ S 94 (cl - 1) = some m) (hz1 : (sS S)[m - 108]? = some (12, zm)) (hv1 : sV S (100 * m + 0) = .ref r) (hg1 : isK S r 0 N) (mN : N < 2 ^ 20) (b2 : e95 < N) (he : sA S r e95 = nI e) (me : e < 2 ^ 20) (sw15 : e = 40) (b3 : (e95 + 3) < N) (he1 : sA S r (e95 + 3) = nI e1) (me1 : e1 < 2 ^ 20) (c1 : Ans (d + 8) 362 [.ref 61, .ref r, .int (nI e95)] (wA 95 (cl - 1) (nI (e95 + e1 + 4)) S) (some (.int (nI 0))) S1) : Bod (d + 8) 350 0 [(0, .ref 61)] [] S (some (.int 0)) (S1) := by
  refine Bod.go dc_350_0 rfl ?_
  refine Bod.get dc_350_1 fr_350_502 (mk_61 _) rfl ?_
  refine Bod.eqI (nI cl) (by first | assumption | rfl | exact congrArg nI (by omega) | (simp (disch := omega) only [rI, rIe, rA, rIA, rLA, rJA, rVI, rQI, rVA, rQA, upd_at,  rAI, rLI, rJI, nI_add, pk_sub, kc_0, kc_1, kc_2, kc_3, kc_4, kc_5, reduceIte, Nat.reduceEqDiff, Nat.add_zero, rI_hold, rI_hold, rL_hold, hcl]; done)) ?_
  refine Bod.ic 1 (by decide) dc_350_4 ?_
  refine Bod.subN (cl - 1) (by omega) (by omega) dc_350_5 ?_
  refine Bod.istn dc_350_6 (by rw [ml_350]; exact Nat.le_of_ble_eq_true rfl) ?_
  refine Bod.go dc_350_7 rfl ?_
  refine Bod.get dc_350_8 fr_350_572 (mk_61 _) rfl ?_
  refine Bod.go dc_350_11 rfl ?_
  refine Bod.ialdN (cl - 1) rfl (by omega) (by omega) dc_350_12 (mk_95 _) ?_
  refine Bod.eqI (nI e95) (by first | assumption | rfl | exact congrArg nI (by omega) | (simp (disch := omega) only [rI, rIe, rA, rIA, rLA, rJA, rVI, rQI, rVA, rQA, upd_at,  rAI, rLI, rJI, nI_add, pk_sub, kc_0, kc_1, kc_2, kc_3, kc_4, kc_5, reduceIte, Nat.reduceEqDiff, Nat.add_zero, rI_hold, rI_hold, rL_hold, hcl, he95]; done)) ?_
  refine Bod.istn dc_350_13 (by rw [ml_350]; exact Nat.le_of_ble_eq_true rfl) ?_
  refine Bod.go dc_350_14 rfl ?_
  refine Bod.get dc_350_15 fr_350_568 (mk_61 _) rfl ?_
  refine Bod.go dc_350_18 rfl ?_
  refine Bod.aaldR (N := 31) (b := m) (cl - 1) rfl (by omega) (by omega) hq2 dc_350_19 (mk_94 _) ht_6 ?_
  refine Bod.get dc_350_20 fr_350_222 (mk_code am (by first | exact hz1 | (simp only [rIS, rJS, rAS, rLS, rVS, rQS, rS_hold]; exact hz1))) rfl ?_
  refine Bod.eqV (.ref r) (by first | exact hv1 | (simp only [rIV, rJV, rAV, rLV, rQV, rV, reduceIte, Nat.reduceEqDiff]; exact hv1)) ?_
  refine Bod.astn dc_350_23 (by rw [ml_350]; exact Nat.le_of_ble_eq_true rfl) ?_
  refine Bod.go dc_350_24 rfl ?_
  refine Bod.go dc_350_25 rfl ?_
  refine Bod.ialdN (N := N) e95 rfl (by omega) (by omega) dc_350_26 (mk_isI (by first | exact hg1 | exact isK_S (by simp only [rIS, rJS, rAS, rLS, rVS, rQS, rS_hold]) hg1)) ?_
  refine Bod.eqI (nI e) (by first | assumption | rfl | exact congrArg nI (by omega) | (simp (disch := omega) only [rI, rIe, rA, rIA, rLA, rJA, rVI, rQI, rVA, rQA, upd_at,  rAI, rLI, rJI, nI_add, pk_sub, kc_0, kc_1, kc_2, kc_3, kc_4, kc_5, reduceIte, Nat.reduceEqDiff, Nat.add_zero, rI_hold, rI_hold, rL_hold, hcl, he95, he]; done)) ?_
  refine Bod.ist dc_350_27 (by rw [ml_350]; exact Nat.le_of_ble_eq_true rfl) ?_
  refine Bod.go dc_350_29 rfl ?_
  refine Bod.sw (t := 725) dc_350_31 rfl rfl (by rw [sw15]; decide +kernel) ?_
  refine Bod.go dc_350_725 rfl ?_
  refine Bod.get dc_350_726 fr_350_572 (mk_61 _) rfl ?_
  refine Bod.go dc_350_729 rfl ?_
  refine Bod.go dc_350_730 rfl ?_
  refine Bod.ic 4 (by decide) dc_350_731 ?_
  refine Bod.addN (e95 + 4) (by omega) dc_350_732 ?_
  refine Bod.go dc_350_733 rfl ?_
  refine Bod.go dc_350_734 rfl ?_
  refine Bod.ic 3 (by decide) dc_350_735 ?_
  refine Bod.addN (e95 + 3) (by omega) dc_350_736 ?_
  refine Bod.ialdN (N := N) (e95 + 3) rfl (by omega) (by omega) dc_350_737 (mk_isI (by first | exact hg1 | exact isK_S (by simp only [rIS, rJS, rAS, rLS, rVS, rQS, rS_hold]) hg1)) ?_
  refine Bod.eqI (nI e1) (by first | assumption | rfl | exact congrArg nI (by omega) | (simp (disch := omega) only [rI, rIe, rA, rIA, rLA, rJA, rVI, rQI, rVA, rQA, upd_at,  rAI, rLI, rJI, nI_add, pk_sub, kc_0, kc_1, kc_2, kc_3, kc_4, kc_5, reduceIte, Nat.reduceEqDiff, Nat.add_zero, rI_hold, rI_hold, rL_hold, hcl, he95, he, he1]; done)) ?_
  refine Bod.addN (e95 + e1 + 4) (by omega) dc_350_738 ?_
  refine Bod.iastN (cl - 1) rfl (by omega) (by omega) dc_350_739 (mk_95 _) (sa_95 _ _ _) (mu_A _ _ _ _) ?_
  refine Bod.go dc_350_740 rfl ?_
  refine Bod.go dc_350_741 rfl ?_
  refine Bod.go dc_350_742 rfl ?_
  refine Bod.virt (r := []) dc_350_743 kr_350_630 ⟨Or.inl rfl, ow_362, cl_14⟩ (by rw [np_362]; rfl) (by rw [np_362]; rfl) (ob_of (mk_61 _)) (Nat.le_of_ble_eq_true rfl) (c1  ) ?_
  show Bod _ _ _ _ [_] _ _ _
  exact Bod.retZ dc_350_746 rt_350 (Or.inl rfl)
theorem rOn_33 {d : Nat} {S : cS} {cl : Nat} {e95 : Nat} {m : Nat} {zm : Nat} {r : Nat} {N : Nat} {e : Nat} {e1 : Nat} (hcl : sI S 6159 = nI cl) (mcl : cl < 32) (b1 : 1 ≤ cl) (he95 : sA S 95 (cl - 1) = nI e95) (me95 : e95 < 2 ^ 20) (am : 108 ≤ m) (hq2 : sQ S 94 (cl - 1) = some m) (hz1 : (sS S)[m - 108]? = some (12, zm)) (hv1 : sV S (100 * m + 0) = .ref r) (hg1 : isK S r 0 N) (mN : N < 2 ^ 20) (b2 : e95 < N) (he : sA S r e95 = nI e) (me : e < 2 ^ 20) (sw15 : e = 42) (b3 : (e95 + 1) < N) (he1 : sA (wA 95 (cl - 1) (nI (e95 + 2)) S) r (e95 + 1) = nI e1) (me1 : e1 < 2 ^ 20) : Bod (d + 8) 350 0 [(0, .ref 61)] [] S (some (.int 1)) (wA 98 (cl - 1) (nI e1) (wA 95 (cl - 1) (nI (e95 + 2)) S)) := by
  refine Bod.go dc_350_0 rfl ?_
  refine Bod.get dc_350_1 fr_350_502 (mk_61 _) rfl ?_
  refine Bod.eqI (nI cl) (by first | assumption | rfl | exact congrArg nI (by omega) | (simp (disch := omega) only [rI, rIe, rA, rIA, rLA, rJA, rVI, rQI, rVA, rQA, upd_at,  rAI, rLI, rJI, nI_add, pk_sub, kc_0, kc_1, kc_2, kc_3, kc_4, kc_5, reduceIte, Nat.reduceEqDiff, Nat.add_zero, rI_hold, rI_hold, rL_hold, hcl]; done)) ?_
  refine Bod.ic 1 (by decide) dc_350_4 ?_
  refine Bod.subN (cl - 1) (by omega) (by omega) dc_350_5 ?_
  refine Bod.istn dc_350_6 (by rw [ml_350]; exact Nat.le_of_ble_eq_true rfl) ?_
  refine Bod.go dc_350_7 rfl ?_
  refine Bod.get dc_350_8 fr_350_572 (mk_61 _) rfl ?_
  refine Bod.go dc_350_11 rfl ?_
  refine Bod.ialdN (cl - 1) rfl (by omega) (by omega) dc_350_12 (mk_95 _) ?_
  refine Bod.eqI (nI e95) (by first | assumption | rfl | exact congrArg nI (by omega) | (simp (disch := omega) only [rI, rIe, rA, rIA, rLA, rJA, rVI, rQI, rVA, rQA, upd_at,  rAI, rLI, rJI, nI_add, pk_sub, kc_0, kc_1, kc_2, kc_3, kc_4, kc_5, reduceIte, Nat.reduceEqDiff, Nat.add_zero, rI_hold, rI_hold, rL_hold, hcl, he95]; done)) ?_
  refine Bod.istn dc_350_13 (by rw [ml_350]; exact Nat.le_of_ble_eq_true rfl) ?_
  refine Bod.go dc_350_14 rfl ?_
  refine Bod.get dc_350_15 fr_350_568 (mk_61 _) rfl ?_
  refine Bod.go dc_350_18 rfl ?_
  refine Bod.aaldR (N := 31) (b := m) (cl - 1) rfl (by omega) (by omega) hq2 dc_350_19 (mk_94 _) ht_6 ?_
  refine Bod.get dc_350_20 fr_350_222 (mk_code am (by first | exact hz1 | (simp only [rIS, rJS, rAS, rLS, rVS, rQS, rS_hold]; exact hz1))) rfl ?_
  refine Bod.eqV (.ref r) (by first | exact hv1 | (simp only [rIV, rJV, rAV, rLV, rQV, rV, reduceIte, Nat.reduceEqDiff]; exact hv1)) ?_
  refine Bod.astn dc_350_23 (by rw [ml_350]; exact Nat.le_of_ble_eq_true rfl) ?_
  refine Bod.go dc_350_24 rfl ?_
  refine Bod.go dc_350_25 rfl ?_
  refine Bod.ialdN (N := N) e95 rfl (by omega) (by omega) dc_350_26 (mk_isI (by first | exact hg1 | exact isK_S (by simp only [rIS, rJS, rAS, rLS, rVS, rQS, rS_hold]) hg1)) ?_
  refine Bod.eqI (nI e) (by first | assumption | rfl | exact congrArg nI (by omega) | (simp (disch := omega) only [rI, rIe, rA, rIA, rLA, rJA, rVI, rQI, rVA, rQA, upd_at,  rAI, rLI, rJI, nI_add, pk_sub, kc_0, kc_1, kc_2, kc_3, kc_4, kc_5, reduceIte, Nat.reduceEqDiff, Nat.add_zero, rI_hold, rI_hold, rL_hold, hcl, he95, he]; done)) ?_
  refine Bod.ist dc_350_27 (by rw [ml_350]; exact Nat.le_of_ble_eq_true rfl) ?_
  refine Bod.go dc_350_29 rfl ?_
  refine Bod.sw (t := 266) dc_350_31 rfl rfl (by rw [sw15]; decide +kernel) ?_
  refine Bod.go dc_350_266 rfl ?_
  refine Bod.get dc_350_267 fr_350_572 (mk_61 _) rfl ?_
  refine Bod.go dc_350_270 rfl ?_
  refine Bod.go dc_350_271 rfl ?_
  refine Bod.ic 2 (by decide) dc_350_272 ?_
  refine Bod.addN (e95 + 2) (by omega) dc_350_273 ?_
  refine Bod.iastN (cl - 1) rfl (by omega) (by omega) dc_350_274 (mk_95 _) (sa_95 _ _ _) (mu_A _ _ _ _) ?_
  refine Bod.go dc_350_275 rfl ?_
  refine Bod.get dc_350_276 fr_350_578 (mk_61 _) rfl ?_
  refine Bod.go dc_350_279 rfl ?_
  refine Bod.go dc_350_280 rfl ?_
  refine Bod.go dc_350_281 rfl ?_
  refine Bod.ic 1 (by decide) dc_350_282 ?_
  refine Bod.addN (e95 + 1) (by omega) dc_350_283 ?_
  refine Bod.ialdN (N := N) (e95 + 1) rfl (by omega) (by omega) dc_350_284 (mk_isI (by first | exact hg1 | exact isK_S (by simp only [rIS, rJS, rAS, rLS, rVS, rQS, rS_hold]) hg1)) ?_
  refine Bod.eqI (nI e1) (by first | assumption | (simp (disch := omega) only [rI, rIe, rA, rIA, rLA, rJA, rVI, rQI, rVA, rQA, upd_at,  rAI, rLI, rJI, nI_add, pk_sub, kc_0, kc_1, kc_2, kc_3, kc_4, kc_5, reduceIte, Nat.reduceEqDiff, Nat.add_zero, rI_hold, rI_hold, rL_hold, hcl, he95, he, he1]; done) | (simp (disch := omega) only [rI, rIe, rA, rIA, rLA, rJA, rVI, rQI, rVA, rQA, upd_at,  rAI, rLI, rJI, nI_add, pk_sub, kc_0, kc_1, kc_2, kc_3, kc_4, kc_5, reduceIte, Nat.reduceEqDiff, Nat.add_zero, rI_hold, rI_hold, rL_hold, hcl, he95, he, he1]; exact congrArg nI (by omega))) ?_
  refine Bod.iastN (cl - 1) rfl (by omega) (by omega) dc_350_285 (mk_98 _) (sa_98 _ _ _) (mu_A _ _ _ _) ?_
  refine Bod.ic 1 (by decide) dc_350_286 ?_
  exact Bod.retZ dc_350_287 rt_350 (Or.inr rfl)
theorem rOn_34 {d : Nat} {S : cS} {cl : Nat} {e95 : Nat} {m : Nat} {zm : Nat} {r : Nat} {N : Nat} {e : Nat} {e1 : Nat} {S1 : cS} (hcl : sI S 6159 = nI cl) (mcl : cl < 32) (b1 : 1 ≤ cl) (he95 : sA S 95 (cl - 1) = nI e95) (me95 : e95 < 2 ^ 20) (am : 108 ≤ m) (hq2 : sQ S 94 (cl - 1) = some m) (hz1 : (sS S)[m - 108]? = some (12, zm)) (hv1 : sV S (100 * m + 0) = .ref r) (hg1 : isK S r 0 N) (mN : N < 2 ^ 20) (b2 : e95 < N) (he : sA S r e95 = nI e) (me : e < 2 ^ 20) (b64 : e < 64) (n0 : e ≠ 0) (n1 : e ≠ 1) (n2 : e ≠ 2) (n3 : e ≠ 3) (n4 : e ≠ 4) (n5 : e ≠ 5) (n6 : e ≠ 6) (n7 : e ≠ 7) (n11 : e ≠ 11) (n12 : e ≠ 12) (n13 : e ≠ 13) (n14 : e ≠ 14) (n17 : e ≠ 17) (n32 : e ≠ 32) (n34 : e ≠ 34) (n40 : e ≠ 40) (n42 : e ≠ 42) (b3 : e = 8) (b4 : (e95 + 1) < N) (he1 : sA (wA 95 (cl - 1) (nI (e95 + 2)) S) r (e95 + 1) = nI e1) (me1 : e1 < 2 ^ 20) (c1 : Ans (d + 8) 400 [.ref 61, .int (nI e), .int (nI e1)] (wA 95 (cl - 1) (nI (e95 + 2)) S) (some (.int (nI 1))) S1) : Bod (d + 8) 350 0 [(0, .ref 61)] [] S (some (.int 1)) (S1) := by
  refine Bod.go dc_350_0 rfl ?_
  refine Bod.get dc_350_1 fr_350_502 (mk_61 _) rfl ?_
  refine Bod.eqI (nI cl) (by first | assumption | rfl | exact congrArg nI (by omega) | (simp (disch := omega) only [rI, rIe, rA, rIA, rLA, rJA, rVI, rQI, rVA, rQA, upd_at,  rAI, rLI, rJI, nI_add, pk_sub, kc_0, kc_1, kc_2, kc_3, kc_4, kc_5, reduceIte, Nat.reduceEqDiff, Nat.add_zero, rI_hold, rI_hold, rL_hold, hcl]; done)) ?_
  refine Bod.ic 1 (by decide) dc_350_4 ?_
  refine Bod.subN (cl - 1) (by omega) (by omega) dc_350_5 ?_
  refine Bod.istn dc_350_6 (by rw [ml_350]; exact Nat.le_of_ble_eq_true rfl) ?_
  refine Bod.go dc_350_7 rfl ?_
  refine Bod.get dc_350_8 fr_350_572 (mk_61 _) rfl ?_
  refine Bod.go dc_350_11 rfl ?_
  refine Bod.ialdN (cl - 1) rfl (by omega) (by omega) dc_350_12 (mk_95 _) ?_
  refine Bod.eqI (nI e95) (by first | assumption | rfl | exact congrArg nI (by omega) | (simp (disch := omega) only [rI, rIe, rA, rIA, rLA, rJA, rVI, rQI, rVA, rQA, upd_at,  rAI, rLI, rJI, nI_add, pk_sub, kc_0, kc_1, kc_2, kc_3, kc_4, kc_5, reduceIte, Nat.reduceEqDiff, Nat.add_zero, rI_hold, rI_hold, rL_hold, hcl, he95]; done)) ?_
  refine Bod.istn dc_350_13 (by rw [ml_350]; exact Nat.le_of_ble_eq_true rfl) ?_
  refine Bod.go dc_350_14 rfl ?_
  refine Bod.get dc_350_15 fr_350_568 (mk_61 _) rfl ?_
  refine Bod.go dc_350_18 rfl ?_
  refine Bod.aaldR (N := 31) (b := m) (cl - 1) rfl (by omega) (by omega) hq2 dc_350_19 (mk_94 _) ht_6 ?_
  refine Bod.get dc_350_20 fr_350_222 (mk_code am (by first | exact hz1 | (simp only [rIS, rJS, rAS, rLS, rVS, rQS, rS_hold]; exact hz1))) rfl ?_
  refine Bod.eqV (.ref r) (by first | exact hv1 | (simp only [rIV, rJV, rAV, rLV, rQV, rV, reduceIte, Nat.reduceEqDiff]; exact hv1)) ?_
  refine Bod.astn dc_350_23 (by rw [ml_350]; exact Nat.le_of_ble_eq_true rfl) ?_
  refine Bod.go dc_350_24 rfl ?_
  refine Bod.go dc_350_25 rfl ?_
  refine Bod.ialdN (N := N) e95 rfl (by omega) (by omega) dc_350_26 (mk_isI (by first | exact hg1 | exact isK_S (by simp only [rIS, rJS, rAS, rLS, rVS, rQS, rS_hold]) hg1)) ?_
  refine Bod.eqI (nI e) (by first | assumption | rfl | exact congrArg nI (by omega) | (simp (disch := omega) only [rI, rIe, rA, rIA, rLA, rJA, rVI, rQI, rVA, rQA, upd_at,  rAI, rLI, rJI, nI_add, pk_sub, kc_0, kc_1, kc_2, kc_3, kc_4, kc_5, reduceIte, Nat.reduceEqDiff, Nat.add_zero, rI_hold, rI_hold, rL_hold, hcl, he95, he]; done)) ?_
  refine Bod.ist dc_350_27 (by rw [ml_350]; exact Nat.le_of_ble_eq_true rfl) ?_
  refine Bod.go dc_350_29 rfl ?_
  refine Bod.sw (t := 766) dc_350_31 rfl rfl (((((((((((((((((((xsw_350_31 e b64).resolve_left n0).resolve_left n1).resolve_left n2).resolve_left n3).resolve_left n4).resolve_left n5).resolve_left n6).resolve_left n7).resolve_left n11).resolve_left n12).resolve_left n13).resolve_left n14).resolve_left n17).resolve_left n32).resolve_left n34).resolve_left n40).resolve_left n42)) ?_
  refine Bod.go dc_350_766 rfl ?_
  refine Bod.bip 8 (by decide) dc_350_768 ?_
  refine Bod.icT dc_350_770 rfl (k2_eq_T (k_eq e 8 rfl rfl (by omega))) ?_
  refine Bod.ic 1 (by decide) dc_350_829 ?_
  refine Bod.go dc_350_830 rfl ?_
  refine Bod.ist dc_350_834 (by rw [ml_350]; exact Nat.le_of_ble_eq_true rfl) ?_
  refine Bod.go dc_350_836 rfl ?_
  refine Bod.get dc_350_837 fr_350_572 (mk_61 _) rfl ?_
  refine Bod.go dc_350_840 rfl ?_
  refine Bod.go dc_350_841 rfl ?_
  refine Bod.ifF dc_350_843 rfl (k1_eq_F (k_ne 1 0 rfl rfl (by omega) (by omega) (by omega))) ?_
  refine Bod.go dc_350_846 rfl ?_
  refine Bod.ic 2 (by decide) dc_350_847 ?_
  refine Bod.addN (e95 + 2) (by omega) dc_350_848 ?_
  refine Bod.go dc_350_849 rfl ?_
  refine Bod.iastN (cl - 1) rfl (by omega) (by omega) dc_350_855 (mk_95 _) (sa_95 _ _ _) (mu_A _ _ _ _) ?_
  refine Bod.go dc_350_856 rfl ?_
  refine Bod.go dc_350_857 rfl ?_
  refine Bod.go dc_350_859 rfl ?_
  refine Bod.ifF dc_350_861 rfl (k1_eq_F (k_ne 1 0 rfl rfl (by omega) (by omega) (by omega))) ?_
  refine Bod.go dc_350_864 rfl ?_
  refine Bod.go dc_350_865 rfl ?_
  refine Bod.ic 1 (by decide) dc_350_866 ?_
  refine Bod.addN (e95 + 1) (by omega) dc_350_867 ?_
  refine Bod.ialdN (N := N) (e95 + 1) rfl (by omega) (by omega) dc_350_868 (mk_isI (by first | exact hg1 | exact isK_S (by simp only [rIS, rJS, rAS, rLS, rVS, rQS, rS_hold]) hg1)) ?_
  refine Bod.eqI (nI e1) (by first | assumption | (simp (disch := omega) only [rI, rIe, rA, rIA, rLA, rJA, rVI, rQI, rVA, rQA, upd_at,  rAI, rLI, rJI, nI_add, pk_sub, kc_0, kc_1, kc_2, kc_3, kc_4, kc_5, reduceIte, Nat.reduceEqDiff, Nat.add_zero, rI_hold, rI_hold, rL_hold, hcl, he95, he, he1]; done) | (simp (disch := omega) only [rI, rIe, rA, rIA, rLA, rJA, rVI, rQI, rVA, rQA, upd_at,  rAI, rLI, rJI, nI_add, pk_sub, kc_0, kc_1, kc_2, kc_3, kc_4, kc_5, reduceIte, Nat.reduceEqDiff, Nat.add_zero, rI_hold, rI_hold, rL_hold, hcl, he95, he, he1]; exact congrArg nI (by omega))) ?_
  refine Bod.go dc_350_869 rfl ?_
  refine Bod.virt (r := []) dc_350_873 kr_350_637 ⟨Or.inl rfl, ow_400, cl_14⟩ (by rw [np_400]; rfl) (by rw [np_400]; rfl) (ob_of (mk_61 _)) (Nat.le_of_ble_eq_true rfl) (c1  ) ?_
  show Bod _ _ _ _ [_] _ _ _
  exact Bod.retZ dc_350_876 rt_350 (Or.inr rfl)
theorem rOn_35 {d : Nat} {S : cS} {cl : Nat} {e95 : Nat} {m : Nat} {zm : Nat} {r : Nat} {N : Nat} {e : Nat} {e1 : Nat} {S1 : cS} (hcl : sI S 6159 = nI cl) (mcl : cl < 32) (b1 : 1 ≤ cl) (he95 : sA S 95 (cl - 1) = nI e95) (me95 : e95 < 2 ^ 20) (am : 108 ≤ m) (hq2 : sQ S 94 (cl - 1) = some m) (hz1 : (sS S)[m - 108]? = some (12, zm)) (hv1 : sV S (100 * m + 0) = .ref r) (hg1 : isK S r 0 N) (mN : N < 2 ^ 20) (b2 : e95 < N) (he : sA S r e95 = nI e) (me : e < 2 ^ 20) (b64 : e < 64) (n0 : e ≠ 0) (n1 : e ≠ 1) (n2 : e ≠ 2) (n3 : e ≠ 3) (n4 : e ≠ 4) (n5 : e ≠ 5) (n6 : e ≠ 6) (n7 : e ≠ 7) (n11 : e ≠ 11) (n12 : e ≠ 12) (n13 : e ≠ 13) (n14 : e ≠ 14) (n17 : e ≠ 17) (n32 : e ≠ 32) (n34 : e ≠ 34) (n40 : e ≠ 40) (n42 : e ≠ 42) (b3 : e = 8) (b4 : (e95 + 1) < N) (he1 : sA (wA 95 (cl - 1) (nI (e95 + 2)) S) r (e95 + 1) = nI e1) (me1 : e1 < 2 ^ 20) (c1 : Ans (d + 8) 400 [.ref 61, .int (nI e), .int (nI e1)] (wA 95 (cl - 1) (nI (e95 + 2)) S) (some (.int (nI 0))) S1) : Bod (d + 8) 350 0 [(0, .ref 61)] [] S (some (.int 0)) (S1) := by
  refine Bod.go dc_350_0 rfl ?_
  refine Bod.get dc_350_1 fr_350_502 (mk_61 _) rfl ?_
  refine Bod.eqI (nI cl) (by first | assumption | rfl | exact congrArg nI (by omega) | (simp (disch := omega) only [rI, rIe, rA, rIA, rLA, rJA, rVI, rQI, rVA, rQA, upd_at,  rAI, rLI, rJI, nI_add, pk_sub, kc_0, kc_1, kc_2, kc_3, kc_4, kc_5, reduceIte, Nat.reduceEqDiff, Nat.add_zero, rI_hold, rI_hold, rL_hold, hcl]; done)) ?_
  refine Bod.ic 1 (by decide) dc_350_4 ?_
  refine Bod.subN (cl - 1) (by omega) (by omega) dc_350_5 ?_
  refine Bod.istn dc_350_6 (by rw [ml_350]; exact Nat.le_of_ble_eq_true rfl) ?_
  refine Bod.go dc_350_7 rfl ?_
  refine Bod.get dc_350_8 fr_350_572 (mk_61 _) rfl ?_
  refine Bod.go dc_350_11 rfl ?_
  refine Bod.ialdN (cl - 1) rfl (by omega) (by omega) dc_350_12 (mk_95 _) ?_
  refine Bod.eqI (nI e95) (by first | assumption | rfl | exact congrArg nI (by omega) | (simp (disch := omega) only [rI, rIe, rA, rIA, rLA, rJA, rVI, rQI, rVA, rQA, upd_at,  rAI, rLI, rJI, nI_add, pk_sub, kc_0, kc_1, kc_2, kc_3, kc_4, kc_5, reduceIte, Nat.reduceEqDiff, Nat.add_zero, rI_hold, rI_hold, rL_hold, hcl, he95]; done)) ?_
  refine Bod.istn dc_350_13 (by rw [ml_350]; exact Nat.le_of_ble_eq_true rfl) ?_
  refine Bod.go dc_350_14 rfl ?_
  refine Bod.get dc_350_15 fr_350_568 (mk_61 _) rfl ?_
  refine Bod.go dc_350_18 rfl ?_
  refine Bod.aaldR (N := 31) (b := m) (cl - 1) rfl (by omega) (by omega) hq2 dc_350_19 (mk_94 _) ht_6 ?_
  refine Bod.get dc_350_20 fr_350_222 (mk_code am (by first | exact hz1 | (simp only [rIS, rJS, rAS, rLS, rVS, rQS, rS_hold]; exact hz1))) rfl ?_
  refine Bod.eqV (.ref r) (by first | exact hv1 | (simp only [rIV, rJV, rAV, rLV, rQV, rV, reduceIte, Nat.reduceEqDiff]; exact hv1)) ?_
  refine Bod.astn dc_350_23 (by rw [ml_350]; exact Nat.le_of_ble_eq_true rfl) ?_
  refine Bod.go dc_350_24 rfl ?_
  refine Bod.go dc_350_25 rfl ?_
  refine Bod.ialdN (N := N) e95 rfl (by omega) (by omega) dc_350_26 (mk_isI (by first | exact hg1 | exact isK_S (by simp only [rIS, rJS, rAS, rLS, rVS, rQS, rS_hold]) hg1)) ?_
  refine Bod.eqI (nI e) (by first | assumption | rfl | exact congrArg nI (by omega) | (simp (disch := omega) only [rI, rIe, rA, rIA, rLA, rJA, rVI, rQI, rVA, rQA, upd_at,  rAI, rLI, rJI, nI_add, pk_sub, kc_0, kc_1, kc_2, kc_3, kc_4, kc_5, reduceIte, Nat.reduceEqDiff, Nat.add_zero, rI_hold, rI_hold, rL_hold, hcl, he95, he]; done)) ?_
  refine Bod.ist dc_350_27 (by rw [ml_350]; exact Nat.le_of_ble_eq_true rfl) ?_
  refine Bod.go dc_350_29 rfl ?_
  refine Bod.sw (t := 766) dc_350_31 rfl rfl (((((((((((((((((((xsw_350_31 e b64).resolve_left n0).resolve_left n1).resolve_left n2).resolve_left n3).resolve_left n4).resolve_left n5).resolve_left n6).resolve_left n7).resolve_left n11).resolve_left n12).resolve_left n13).resolve_left n14).resolve_left n17).resolve_left n32).resolve_left n34).resolve_left n40).resolve_left n42)) ?_
  refine Bod.go dc_350_766 rfl ?_
  refine Bod.bip 8 (by decide) dc_350_768 ?_
  refine Bod.icT dc_350_770 rfl (k2_eq_T (k_eq e 8 rfl rfl (by omega))) ?_
  refine Bod.ic 1 (by decide) dc_350_829 ?_
  refine Bod.go dc_350_830 rfl ?_
  refine Bod.ist dc_350_834 (by rw [ml_350]; exact Nat.le_of_ble_eq_true rfl) ?_
  refine Bod.go dc_350_836 rfl ?_
  refine Bod.get dc_350_837 fr_350_572 (mk_61 _) rfl ?_
  refine Bod.go dc_350_840 rfl ?_
  refine Bod.go dc_350_841 rfl ?_
  refine Bod.ifF dc_350_843 rfl (k1_eq_F (k_ne 1 0 rfl rfl (by omega) (by omega) (by omega))) ?_
  refine Bod.go dc_350_846 rfl ?_
  refine Bod.ic 2 (by decide) dc_350_847 ?_
  refine Bod.addN (e95 + 2) (by omega) dc_350_848 ?_
  refine Bod.go dc_350_849 rfl ?_
  refine Bod.iastN (cl - 1) rfl (by omega) (by omega) dc_350_855 (mk_95 _) (sa_95 _ _ _) (mu_A _ _ _ _) ?_
  refine Bod.go dc_350_856 rfl ?_
  refine Bod.go dc_350_857 rfl ?_
  refine Bod.go dc_350_859 rfl ?_
  refine Bod.ifF dc_350_861 rfl (k1_eq_F (k_ne 1 0 rfl rfl (by omega) (by omega) (by omega))) ?_
  refine Bod.go dc_350_864 rfl ?_
  refine Bod.go dc_350_865 rfl ?_
  refine Bod.ic 1 (by decide) dc_350_866 ?_
  refine Bod.addN (e95 + 1) (by omega) dc_350_867 ?_
  refine Bod.ialdN (N := N) (e95 + 1) rfl (by omega) (by omega) dc_350_868 (mk_isI (by first | exact hg1 | exact isK_S (by simp only [rIS, rJS, rAS, rLS, rVS, rQS, rS_hold]) hg1)) ?_
  refine Bod.eqI (nI e1) (by first | assumption | (simp (disch := omega) only [rI, rIe, rA, rIA, rLA, rJA, rVI, rQI, rVA, rQA, upd_at,  rAI, rLI, rJI, nI_add, pk_sub, kc_0, kc_1, kc_2, kc_3, kc_4, kc_5, reduceIte, Nat.reduceEqDiff, Nat.add_zero, rI_hold, rI_hold, rL_hold, hcl, he95, he, he1]; done) | (simp (disch := omega) only [rI, rIe, rA, rIA, rLA, rJA, rVI, rQI, rVA, rQA, upd_at,  rAI, rLI, rJI, nI_add, pk_sub, kc_0, kc_1, kc_2, kc_3, kc_4, kc_5, reduceIte, Nat.reduceEqDiff, Nat.add_zero, rI_hold, rI_hold, rL_hold, hcl, he95, he, he1]; exact congrArg nI (by omega))) ?_
  refine Bod.go dc_350_869 rfl ?_
  refine Bod.virt (r := []) dc_350_873 kr_350_637 ⟨Or.inl rfl, ow_400, cl_14⟩ (by rw [np_400]; rfl) (by rw [np_400]; rfl) (ob_of (mk_61 _)) (Nat.le_of_ble_eq_true rfl) (c1  ) ?_
  show Bod _ _ _ _ [_] _ _ _
  exact Bod.retZ dc_350_876 rt_350 (Or.inl rfl)
theorem rOn_36 {d : Nat} {S : cS} {cl : Nat} {e95 : Nat} {m : Nat} {zm : Nat} {r : Nat} {N : Nat} {e : Nat} {e1 : Nat} {S1 : cS} (hcl : sI S 6159 = nI cl) (mcl : cl < 32) (b1 : 1 ≤ cl) (he95 : sA S 95 (cl - 1) = nI e95) (me95 : e95 < 2 ^ 20) (am : 108 ≤ m) (hq2 : sQ S 94 (cl - 1) = some m) (hz1 : (sS S)[m - 108]? = some (12, zm)) (hv1 : sV S (100 * m + 0) = .ref r) (hg1 : isK S r 0 N) (mN : N < 2 ^ 20) (b2 : e95 < N) (he : sA S r e95 = nI e) (me : e < 2 ^ 20) (b64 : e < 64) (n0 : e ≠ 0) (n1 : e ≠ 1) (n2 : e ≠ 2) (n3 : e ≠ 3) (n4 : e ≠ 4) (n5 : e ≠ 5) (n6 : e ≠ 6) (n7 : e ≠ 7) (n11 : e ≠ 11) (n12 : e ≠ 12) (n13 : e ≠ 13) (n14 : e ≠ 14) (n17 : e ≠ 17) (n32 : e ≠ 32) (n34 : e ≠ 34) (n40 : e ≠ 40) (n42 : e ≠ 42) (b3 : e ≠ 8) (b4 : e = 16) (b5 : (e95 + 1) < N) (he1 : sA (wA 95 (cl - 1) (nI (e95 + 2)) S) r (e95 + 1) = nI e1) (me1 : e1 < 2 ^ 20) (c1 : Ans (d + 8) 400 [.ref 61, .int (nI e), .int (nI e1)] (wA 95 (cl - 1) (nI (e95 + 2)) S) (some (.int (nI 1))) S1) : Bod (d + 8) 350 0 [(0, .ref 61)] [] S (some (.int 1)) (S1) := by
  refine Bod.go dc_350_0 rfl ?_
  refine Bod.get dc_350_1 fr_350_502 (mk_61 _) rfl ?_
  refine Bod.eqI (nI cl) (by first | assumption | rfl | exact congrArg nI (by omega) | (simp (disch := omega) only [rI, rIe, rA, rIA, rLA, rJA, rVI, rQI, rVA, rQA, upd_at,  rAI, rLI, rJI, nI_add, pk_sub, kc_0, kc_1, kc_2, kc_3, kc_4, kc_5, reduceIte, Nat.reduceEqDiff, Nat.add_zero, rI_hold, rI_hold, rL_hold, hcl]; done)) ?_
  refine Bod.ic 1 (by decide) dc_350_4 ?_
  refine Bod.subN (cl - 1) (by omega) (by omega) dc_350_5 ?_
  refine Bod.istn dc_350_6 (by rw [ml_350]; exact Nat.le_of_ble_eq_true rfl) ?_
  refine Bod.go dc_350_7 rfl ?_
  refine Bod.get dc_350_8 fr_350_572 (mk_61 _) rfl ?_
  refine Bod.go dc_350_11 rfl ?_
  refine Bod.ialdN (cl - 1) rfl (by omega) (by omega) dc_350_12 (mk_95 _) ?_
  refine Bod.eqI (nI e95) (by first | assumption | rfl | exact congrArg nI (by omega) | (simp (disch := omega) only [rI, rIe, rA, rIA, rLA, rJA, rVI, rQI, rVA, rQA, upd_at,  rAI, rLI, rJI, nI_add, pk_sub, kc_0, kc_1, kc_2, kc_3, kc_4, kc_5, reduceIte, Nat.reduceEqDiff, Nat.add_zero, rI_hold, rI_hold, rL_hold, hcl, he95]; done)) ?_
  refine Bod.istn dc_350_13 (by rw [ml_350]; exact Nat.le_of_ble_eq_true rfl) ?_
  refine Bod.go dc_350_14 rfl ?_
  refine Bod.get dc_350_15 fr_350_568 (mk_61 _) rfl ?_
  refine Bod.go dc_350_18 rfl ?_
  refine Bod.aaldR (N := 31) (b := m) (cl - 1) rfl (by omega) (by omega) hq2 dc_350_19 (mk_94 _) ht_6 ?_
  refine Bod.get dc_350_20 fr_350_222 (mk_code am (by first | exact hz1 | (simp only [rIS, rJS, rAS, rLS, rVS, rQS, rS_hold]; exact hz1))) rfl ?_
  refine Bod.eqV (.ref r) (by first | exact hv1 | (simp only [rIV, rJV, rAV, rLV, rQV, rV, reduceIte, Nat.reduceEqDiff]; exact hv1)) ?_
  refine Bod.astn dc_350_23 (by rw [ml_350]; exact Nat.le_of_ble_eq_true rfl) ?_
  refine Bod.go dc_350_24 rfl ?_
  refine Bod.go dc_350_25 rfl ?_
  refine Bod.ialdN (N := N) e95 rfl (by omega) (by omega) dc_350_26 (mk_isI (by first | exact hg1 | exact isK_S (by simp only [rIS, rJS, rAS, rLS, rVS, rQS, rS_hold]) hg1)) ?_
  refine Bod.eqI (nI e) (by first | assumption | rfl | exact congrArg nI (by omega) | (simp (disch := omega) only [rI, rIe, rA, rIA, rLA, rJA, rVI, rQI, rVA, rQA, upd_at,  rAI, rLI, rJI, nI_add, pk_sub, kc_0, kc_1, kc_2, kc_3, kc_4, kc_5, reduceIte, Nat.reduceEqDiff, Nat.add_zero, rI_hold, rI_hold, rL_hold, hcl, he95, he]; done)) ?_
  refine Bod.ist dc_350_27 (by rw [ml_350]; exact Nat.le_of_ble_eq_true rfl) ?_
  refine Bod.go dc_350_29 rfl ?_
  refine Bod.sw (t := 766) dc_350_31 rfl rfl (((((((((((((((((((xsw_350_31 e b64).resolve_left n0).resolve_left n1).resolve_left n2).resolve_left n3).resolve_left n4).resolve_left n5).resolve_left n6).resolve_left n7).resolve_left n11).resolve_left n12).resolve_left n13).resolve_left n14).resolve_left n17).resolve_left n32).resolve_left n34).resolve_left n40).resolve_left n42)) ?_
  refine Bod.go dc_350_766 rfl ?_
  refine Bod.bip 8 (by decide) dc_350_768 ?_
  refine Bod.icF dc_350_770 rfl (k2_eq_F (k_ne e 8 rfl rfl (by omega) (by omega) (by omega))) ?_
  refine Bod.go dc_350_773 rfl ?_
  refine Bod.bip 16 (by decide) dc_350_775 ?_
  refine Bod.icT dc_350_777 rfl (k2_eq_T (k_eq e 16 rfl rfl (by omega))) ?_
  refine Bod.ic 1 (by decide) dc_350_829 ?_
  refine Bod.go dc_350_830 rfl ?_
  refine Bod.ist dc_350_834 (by rw [ml_350]; exact Nat.le_of_ble_eq_true rfl) ?_
  refine Bod.go dc_350_836 rfl ?_
  refine Bod.get dc_350_837 fr_350_572 (mk_61 _) rfl ?_
  refine Bod.go dc_350_840 rfl ?_
  refine Bod.go dc_350_841 rfl ?_
  refine Bod.ifF dc_350_843 rfl (k1_eq_F (k_ne 1 0 rfl rfl (by omega) (by omega) (by omega))) ?_
  refine Bod.go dc_350_846 rfl ?_
  refine Bod.ic 2 (by decide) dc_350_847 ?_
  refine Bod.addN (e95 + 2) (by omega) dc_350_848 ?_
  refine Bod.go dc_350_849 rfl ?_
  refine Bod.iastN (cl - 1) rfl (by omega) (by omega) dc_350_855 (mk_95 _) (sa_95 _ _ _) (mu_A _ _ _ _) ?_
  refine Bod.go dc_350_856 rfl ?_
  refine Bod.go dc_350_857 rfl ?_
  refine Bod.go dc_350_859 rfl ?_
  refine Bod.ifF dc_350_861 rfl (k1_eq_F (k_ne 1 0 rfl rfl (by omega) (by omega) (by omega))) ?_
  refine Bod.go dc_350_864 rfl ?_
  refine Bod.go dc_350_865 rfl ?_
  refine Bod.ic 1 (by decide) dc_350_866 ?_
  refine Bod.addN (e95 + 1) (by omega) dc_350_867 ?_
  refine Bod.ialdN (N := N) (e95 + 1) rfl (by omega) (by omega) dc_350_868 (mk_isI (by first | exact hg1 | exact isK_S (by simp only [rIS, rJS, rAS, rLS, rVS, rQS, rS_hold]) hg1)) ?_
  refine Bod.eqI (nI e1) (by first | assumption | (simp (disch := omega) only [rI, rIe, rA, rIA, rLA, rJA, rVI, rQI, rVA, rQA, upd_at,  rAI, rLI, rJI, nI_add, pk_sub, kc_0, kc_1, kc_2, kc_3, kc_4, kc_5, reduceIte, Nat.reduceEqDiff, Nat.add_zero, rI_hold, rI_hold, rL_hold, hcl, he95, he, he1]; done) | (simp (disch := omega) only [rI, rIe, rA, rIA, rLA, rJA, rVI, rQI, rVA, rQA, upd_at,  rAI, rLI, rJI, nI_add, pk_sub, kc_0, kc_1, kc_2, kc_3, kc_4, kc_5, reduceIte, Nat.reduceEqDiff, Nat.add_zero, rI_hold, rI_hold, rL_hold, hcl, he95, he, he1]; exact congrArg nI (by omega))) ?_
  refine Bod.go dc_350_869 rfl ?_
  refine Bod.virt (r := []) dc_350_873 kr_350_637 ⟨Or.inl rfl, ow_400, cl_14⟩ (by rw [np_400]; rfl) (by rw [np_400]; rfl) (ob_of (mk_61 _)) (Nat.le_of_ble_eq_true rfl) (c1  ) ?_
  show Bod _ _ _ _ [_] _ _ _
  exact Bod.retZ dc_350_876 rt_350 (Or.inr rfl)
theorem rOn_37 {d : Nat} {S : cS} {cl : Nat} {e95 : Nat} {m : Nat} {zm : Nat} {r : Nat} {N : Nat} {e : Nat} {e1 : Nat} {S1 : cS} (hcl : sI S 6159 = nI cl) (mcl : cl < 32) (b1 : 1 ≤ cl) (he95 : sA S 95 (cl - 1) = nI e95) (me95 : e95 < 2 ^ 20) (am : 108 ≤ m) (hq2 : sQ S 94 (cl - 1) = some m) (hz1 : (sS S)[m - 108]? = some (12, zm)) (hv1 : sV S (100 * m + 0) = .ref r) (hg1 : isK S r 0 N) (mN : N < 2 ^ 20) (b2 : e95 < N) (he : sA S r e95 = nI e) (me : e < 2 ^ 20) (b64 : e < 64) (n0 : e ≠ 0) (n1 : e ≠ 1) (n2 : e ≠ 2) (n3 : e ≠ 3) (n4 : e ≠ 4) (n5 : e ≠ 5) (n6 : e ≠ 6) (n7 : e ≠ 7) (n11 : e ≠ 11) (n12 : e ≠ 12) (n13 : e ≠ 13) (n14 : e ≠ 14) (n17 : e ≠ 17) (n32 : e ≠ 32) (n34 : e ≠ 34) (n40 : e ≠ 40) (n42 : e ≠ 42) (b3 : e ≠ 8) (b4 : e = 16) (b5 : (e95 + 1) < N) (he1 : sA (wA 95 (cl - 1) (nI (e95 + 2)) S) r (e95 + 1) = nI e1) (me1 : e1 < 2 ^ 20) (c1 : Ans (d + 8) 400 [.ref 61, .int (nI e), .int (nI e1)] (wA 95 (cl - 1) (nI (e95 + 2)) S) (some (.int (nI 0))) S1) : Bod (d + 8) 350 0 [(0, .ref 61)] [] S (some (.int 0)) (S1) := by
  refine Bod.go dc_350_0 rfl ?_
  refine Bod.get dc_350_1 fr_350_502 (mk_61 _) rfl ?_
  refine Bod.eqI (nI cl) (by first | assumption | rfl | exact congrArg nI (by omega) | (simp (disch := omega) only [rI, rIe, rA, rIA, rLA, rJA, rVI, rQI, rVA, rQA, upd_at,  rAI, rLI, rJI, nI_add, pk_sub, kc_0, kc_1, kc_2, kc_3, kc_4, kc_5, reduceIte, Nat.reduceEqDiff, Nat.add_zero, rI_hold, rI_hold, rL_hold, hcl]; done)) ?_
  refine Bod.ic 1 (by decide) dc_350_4 ?_
  refine Bod.subN (cl - 1) (by omega) (by omega) dc_350_5 ?_
  refine Bod.istn dc_350_6 (by rw [ml_350]; exact Nat.le_of_ble_eq_true rfl) ?_
  refine Bod.go dc_350_7 rfl ?_
  refine Bod.get dc_350_8 fr_350_572 (mk_61 _) rfl ?_
  refine Bod.go dc_350_11 rfl ?_
  refine Bod.ialdN (cl - 1) rfl (by omega) (by omega) dc_350_12 (mk_95 _) ?_
  refine Bod.eqI (nI e95) (by first | assumption | rfl | exact congrArg nI (by omega) | (simp (disch := omega) only [rI, rIe, rA, rIA, rLA, rJA, rVI, rQI, rVA, rQA, upd_at,  rAI, rLI, rJI, nI_add, pk_sub, kc_0, kc_1, kc_2, kc_3, kc_4, kc_5, reduceIte, Nat.reduceEqDiff, Nat.add_zero, rI_hold, rI_hold, rL_hold, hcl, he95]; done)) ?_
  refine Bod.istn dc_350_13 (by rw [ml_350]; exact Nat.le_of_ble_eq_true rfl) ?_
  refine Bod.go dc_350_14 rfl ?_
  refine Bod.get dc_350_15 fr_350_568 (mk_61 _) rfl ?_
  refine Bod.go dc_350_18 rfl ?_
  refine Bod.aaldR (N := 31) (b := m) (cl - 1) rfl (by omega) (by omega) hq2 dc_350_19 (mk_94 _) ht_6 ?_
  refine Bod.get dc_350_20 fr_350_222 (mk_code am (by first | exact hz1 | (simp only [rIS, rJS, rAS, rLS, rVS, rQS, rS_hold]; exact hz1))) rfl ?_
  refine Bod.eqV (.ref r) (by first | exact hv1 | (simp only [rIV, rJV, rAV, rLV, rQV, rV, reduceIte, Nat.reduceEqDiff]; exact hv1)) ?_
  refine Bod.astn dc_350_23 (by rw [ml_350]; exact Nat.le_of_ble_eq_true rfl) ?_
  refine Bod.go dc_350_24 rfl ?_
  refine Bod.go dc_350_25 rfl ?_
  refine Bod.ialdN (N := N) e95 rfl (by omega) (by omega) dc_350_26 (mk_isI (by first | exact hg1 | exact isK_S (by simp only [rIS, rJS, rAS, rLS, rVS, rQS, rS_hold]) hg1)) ?_
  refine Bod.eqI (nI e) (by first | assumption | rfl | exact congrArg nI (by omega) | (simp (disch := omega) only [rI, rIe, rA, rIA, rLA, rJA, rVI, rQI, rVA, rQA, upd_at,  rAI, rLI, rJI, nI_add, pk_sub, kc_0, kc_1, kc_2, kc_3, kc_4, kc_5, reduceIte, Nat.reduceEqDiff, Nat.add_zero, rI_hold, rI_hold, rL_hold, hcl, he95, he]; done)) ?_
  refine Bod.ist dc_350_27 (by rw [ml_350]; exact Nat.le_of_ble_eq_true rfl) ?_
  refine Bod.go dc_350_29 rfl ?_
  refine Bod.sw (t := 766) dc_350_31 rfl rfl (((((((((((((((((((xsw_350_31 e b64).resolve_left n0).resolve_left n1).resolve_left n2).resolve_left n3).resolve_left n4).resolve_left n5).resolve_left n6).resolve_left n7).resolve_left n11).resolve_left n12).resolve_left n13).resolve_left n14).resolve_left n17).resolve_left n32).resolve_left n34).resolve_left n40).resolve_left n42)) ?_
  refine Bod.go dc_350_766 rfl ?_
  refine Bod.bip 8 (by decide) dc_350_768 ?_
  refine Bod.icF dc_350_770 rfl (k2_eq_F (k_ne e 8 rfl rfl (by omega) (by omega) (by omega))) ?_
  refine Bod.go dc_350_773 rfl ?_
  refine Bod.bip 16 (by decide) dc_350_775 ?_
  refine Bod.icT dc_350_777 rfl (k2_eq_T (k_eq e 16 rfl rfl (by omega))) ?_
  refine Bod.ic 1 (by decide) dc_350_829 ?_
  refine Bod.go dc_350_830 rfl ?_
  refine Bod.ist dc_350_834 (by rw [ml_350]; exact Nat.le_of_ble_eq_true rfl) ?_
  refine Bod.go dc_350_836 rfl ?_
  refine Bod.get dc_350_837 fr_350_572 (mk_61 _) rfl ?_
  refine Bod.go dc_350_840 rfl ?_
  refine Bod.go dc_350_841 rfl ?_
  refine Bod.ifF dc_350_843 rfl (k1_eq_F (k_ne 1 0 rfl rfl (by omega) (by omega) (by omega))) ?_
  refine Bod.go dc_350_846 rfl ?_
  refine Bod.ic 2 (by decide) dc_350_847 ?_
  refine Bod.addN (e95 + 2) (by omega) dc_350_848 ?_
  refine Bod.go dc_350_849 rfl ?_
  refine Bod.iastN (cl - 1) rfl (by omega) (by omega) dc_350_855 (mk_95 _) (sa_95 _ _ _) (mu_A _ _ _ _) ?_
  refine Bod.go dc_350_856 rfl ?_
  refine Bod.go dc_350_857 rfl ?_
  refine Bod.go dc_350_859 rfl ?_
  refine Bod.ifF dc_350_861 rfl (k1_eq_F (k_ne 1 0 rfl rfl (by omega) (by omega) (by omega))) ?_
  refine Bod.go dc_350_864 rfl ?_
  refine Bod.go dc_350_865 rfl ?_
  refine Bod.ic 1 (by decide) dc_350_866 ?_
  refine Bod.addN (e95 + 1) (by omega) dc_350_867 ?_
  refine Bod.ialdN (N := N) (e95 + 1) rfl (by omega) (by omega) dc_350_868 (mk_isI (by first | exact hg1 | exact isK_S (by simp only [rIS, rJS, rAS, rLS, rVS, rQS, rS_hold]) hg1)) ?_
  refine Bod.eqI (nI e1) (by first | assumption | (simp (disch := omega) only [rI, rIe, rA, rIA, rLA, rJA, rVI, rQI, rVA, rQA, upd_at,  rAI, rLI, rJI, nI_add, pk_sub, kc_0, kc_1, kc_2, kc_3, kc_4, kc_5, reduceIte, Nat.reduceEqDiff, Nat.add_zero, rI_hold, rI_hold, rL_hold, hcl, he95, he, he1]; done) | (simp (disch := omega) only [rI, rIe, rA, rIA, rLA, rJA, rVI, rQI, rVA, rQA, upd_at,  rAI, rLI, rJI, nI_add, pk_sub, kc_0, kc_1, kc_2, kc_3, kc_4, kc_5, reduceIte, Nat.reduceEqDiff, Nat.add_zero, rI_hold, rI_hold, rL_hold, hcl, he95, he, he1]; exact congrArg nI (by omega))) ?_
  refine Bod.go dc_350_869 rfl ?_
  refine Bod.virt (r := []) dc_350_873 kr_350_637 ⟨Or.inl rfl, ow_400, cl_14⟩ (by rw [np_400]; rfl) (by rw [np_400]; rfl) (ob_of (mk_61 _)) (Nat.le_of_ble_eq_true rfl) (c1  ) ?_
  show Bod _ _ _ _ [_] _ _ _
  exact Bod.retZ dc_350_876 rt_350 (Or.inl rfl)
theorem rOn_38 {d : Nat} {S : cS} {cl : Nat} {e95 : Nat} {m : Nat} {zm : Nat} {r : Nat} {N : Nat} {e : Nat} {e1 : Nat} {S1 : cS} (hcl : sI S 6159 = nI cl) (mcl : cl < 32) (b1 : 1 ≤ cl) (he95 : sA S 95 (cl - 1) = nI e95) (me95 : e95 < 2 ^ 20) (am : 108 ≤ m) (hq2 : sQ S 94 (cl - 1) = some m) (hz1 : (sS S)[m - 108]? = some (12, zm)) (hv1 : sV S (100 * m + 0) = .ref r) (hg1 : isK S r 0 N) (mN : N < 2 ^ 20) (b2 : e95 < N) (he : sA S r e95 = nI e) (me : e < 2 ^ 20) (b64 : e < 64) (n0 : e ≠ 0) (n1 : e ≠ 1) (n2 : e ≠ 2) (n3 : e ≠ 3) (n4 : e ≠ 4) (n5 : e ≠ 5) (n6 : e ≠ 6) (n7 : e ≠ 7) (n11 : e ≠ 11) (n12 : e ≠ 12) (n13 : e ≠ 13) (n14 : e ≠ 14) (n17 : e ≠ 17) (n32 : e ≠ 32) (n34 : e ≠ 34) (n40 : e ≠ 40) (n42 : e ≠ 42) (b3 : e ≠ 8) (b4 : e ≠ 16) (b5 : e = 18) (b6 : (e95 + 1) < N) (he1 : sA (wA 95 (cl - 1) (nI (e95 + 2)) S) r (e95 + 1) = nI e1) (me1 : e1 < 2 ^ 20) (c1 : Ans (d + 8) 400 [.ref 61, .int (nI e), .int (nI e1)] (wA 95 (cl - 1) (nI (e95 + 2)) S) (some (.int (nI 1))) S1) : Bod (d + 8) 350 0 [(0, .ref 61)] [] S (some (.int 1)) (S1) := by
  refine Bod.go dc_350_0 rfl ?_
  refine Bod.get dc_350_1 fr_350_502 (mk_61 _) rfl ?_
  refine Bod.eqI (nI cl) (by first | assumption | rfl | exact congrArg nI (by omega) | (simp (disch := omega) only [rI, rIe, rA, rIA, rLA, rJA, rVI, rQI, rVA, rQA, upd_at,  rAI, rLI, rJI, nI_add, pk_sub, kc_0, kc_1, kc_2, kc_3, kc_4, kc_5, reduceIte, Nat.reduceEqDiff, Nat.add_zero, rI_hold, rI_hold, rL_hold, hcl]; done)) ?_
  refine Bod.ic 1 (by decide) dc_350_4 ?_
  refine Bod.subN (cl - 1) (by omega) (by omega) dc_350_5 ?_
  refine Bod.istn dc_350_6 (by rw [ml_350]; exact Nat.le_of_ble_eq_true rfl) ?_
  refine Bod.go dc_350_7 rfl ?_
  refine Bod.get dc_350_8 fr_350_572 (mk_61 _) rfl ?_
  refine Bod.go dc_350_11 rfl ?_
  refine Bod.ialdN (cl - 1) rfl (by omega) (by omega) dc_350_12 (mk_95 _) ?_
  refine Bod.eqI (nI e95) (by first | assumption | rfl | exact congrArg nI (by omega) | (simp (disch := omega) only [rI, rIe, rA, rIA, rLA, rJA, rVI, rQI, rVA, rQA, upd_at,  rAI, rLI, rJI, nI_add, pk_sub, kc_0, kc_1, kc_2, kc_3, kc_4, kc_5, reduceIte, Nat.reduceEqDiff, Nat.add_zero, rI_hold, rI_hold, rL_hold, hcl, he95]; done)) ?_
  refine Bod.istn dc_350_13 (by rw [ml_350]; exact Nat.le_of_ble_eq_true rfl) ?_
  refine Bod.go dc_350_14 rfl ?_
  refine Bod.get dc_350_15 fr_350_568 (mk_61 _) rfl ?_
  refine Bod.go dc_350_18 rfl ?_
  refine Bod.aaldR (N := 31) (b := m) (cl - 1) rfl (by omega) (by omega) hq2 dc_350_19 (mk_94 _) ht_6 ?_
  refine Bod.get dc_350_20 fr_350_222 (mk_code am (by first | exact hz1 | (simp only [rIS, rJS, rAS, rLS, rVS, rQS, rS_hold]; exact hz1))) rfl ?_
  refine Bod.eqV (.ref r) (by first | exact hv1 | (simp only [rIV, rJV, rAV, rLV, rQV, rV, reduceIte, Nat.reduceEqDiff]; exact hv1)) ?_
  refine Bod.astn dc_350_23 (by rw [ml_350]; exact Nat.le_of_ble_eq_true rfl) ?_
  refine Bod.go dc_350_24 rfl ?_
  refine Bod.go dc_350_25 rfl ?_
  refine Bod.ialdN (N := N) e95 rfl (by omega) (by omega) dc_350_26 (mk_isI (by first | exact hg1 | exact isK_S (by simp only [rIS, rJS, rAS, rLS, rVS, rQS, rS_hold]) hg1)) ?_
  refine Bod.eqI (nI e) (by first | assumption | rfl | exact congrArg nI (by omega) | (simp (disch := omega) only [rI, rIe, rA, rIA, rLA, rJA, rVI, rQI, rVA, rQA, upd_at,  rAI, rLI, rJI, nI_add, pk_sub, kc_0, kc_1, kc_2, kc_3, kc_4, kc_5, reduceIte, Nat.reduceEqDiff, Nat.add_zero, rI_hold, rI_hold, rL_hold, hcl, he95, he]; done)) ?_
  refine Bod.ist dc_350_27 (by rw [ml_350]; exact Nat.le_of_ble_eq_true rfl) ?_
  refine Bod.go dc_350_29 rfl ?_
  refine Bod.sw (t := 766) dc_350_31 rfl rfl (((((((((((((((((((xsw_350_31 e b64).resolve_left n0).resolve_left n1).resolve_left n2).resolve_left n3).resolve_left n4).resolve_left n5).resolve_left n6).resolve_left n7).resolve_left n11).resolve_left n12).resolve_left n13).resolve_left n14).resolve_left n17).resolve_left n32).resolve_left n34).resolve_left n40).resolve_left n42)) ?_
  refine Bod.go dc_350_766 rfl ?_
  refine Bod.bip 8 (by decide) dc_350_768 ?_
  refine Bod.icF dc_350_770 rfl (k2_eq_F (k_ne e 8 rfl rfl (by omega) (by omega) (by omega))) ?_
  refine Bod.go dc_350_773 rfl ?_
  refine Bod.bip 16 (by decide) dc_350_775 ?_
  refine Bod.icF dc_350_777 rfl (k2_eq_F (k_ne e 16 rfl rfl (by omega) (by omega) (by omega))) ?_
  refine Bod.go dc_350_780 rfl ?_
  refine Bod.bip 18 (by decide) dc_350_782 ?_
  refine Bod.icT dc_350_784 rfl (k2_eq_T (k_eq e 18 rfl rfl (by omega))) ?_
  refine Bod.ic 1 (by decide) dc_350_829 ?_
  refine Bod.go dc_350_830 rfl ?_
  refine Bod.ist dc_350_834 (by rw [ml_350]; exact Nat.le_of_ble_eq_true rfl) ?_
  refine Bod.go dc_350_836 rfl ?_
  refine Bod.get dc_350_837 fr_350_572 (mk_61 _) rfl ?_
  refine Bod.go dc_350_840 rfl ?_
  refine Bod.go dc_350_841 rfl ?_
  refine Bod.ifF dc_350_843 rfl (k1_eq_F (k_ne 1 0 rfl rfl (by omega) (by omega) (by omega))) ?_
  refine Bod.go dc_350_846 rfl ?_
  refine Bod.ic 2 (by decide) dc_350_847 ?_
  refine Bod.addN (e95 + 2) (by omega) dc_350_848 ?_
  refine Bod.go dc_350_849 rfl ?_
  refine Bod.iastN (cl - 1) rfl (by omega) (by omega) dc_350_855 (mk_95 _) (sa_95 _ _ _) (mu_A _ _ _ _) ?_
  refine Bod.go dc_350_856 rfl ?_
  refine Bod.go dc_350_857 rfl ?_
  refine Bod.go dc_350_859 rfl ?_
  refine Bod.ifF dc_350_861 rfl (k1_eq_F (k_ne 1 0 rfl rfl (by omega) (by omega) (by omega))) ?_
  refine Bod.go dc_350_864 rfl ?_
  refine Bod.go dc_350_865 rfl ?_
  refine Bod.ic 1 (by decide) dc_350_866 ?_
  refine Bod.addN (e95 + 1) (by omega) dc_350_867 ?_
  refine Bod.ialdN (N := N) (e95 + 1) rfl (by omega) (by omega) dc_350_868 (mk_isI (by first | exact hg1 | exact isK_S (by simp only [rIS, rJS, rAS, rLS, rVS, rQS, rS_hold]) hg1)) ?_
  refine Bod.eqI (nI e1) (by first | assumption | (simp (disch := omega) only [rI, rIe, rA, rIA, rLA, rJA, rVI, rQI, rVA, rQA, upd_at,  rAI, rLI, rJI, nI_add, pk_sub, kc_0, kc_1, kc_2, kc_3, kc_4, kc_5, reduceIte, Nat.reduceEqDiff, Nat.add_zero, rI_hold, rI_hold, rL_hold, hcl, he95, he, he1]; done) | (simp (disch := omega) only [rI, rIe, rA, rIA, rLA, rJA, rVI, rQI, rVA, rQA, upd_at,  rAI, rLI, rJI, nI_add, pk_sub, kc_0, kc_1, kc_2, kc_3, kc_4, kc_5, reduceIte, Nat.reduceEqDiff, Nat.add_zero, rI_hold, rI_hold, rL_hold, hcl, he95, he, he1]; exact congrArg nI (by omega))) ?_
  refine Bod.go dc_350_869 rfl ?_
  refine Bod.virt (r := []) dc_350_873 kr_350_637 ⟨Or.inl rfl, ow_400, cl_14⟩ (by rw [np_400]; rfl) (by rw [np_400]; rfl) (ob_of (mk_61 _)) (Nat.le_of_ble_eq_true rfl) (c1  ) ?_
  show Bod _ _ _ _ [_] _ _ _
  exact Bod.retZ dc_350_876 rt_350 (Or.inr rfl)
theorem rOn_39 {d : Nat} {S : cS} {cl : Nat} {e95 : Nat} {m : Nat} {zm : Nat} {r : Nat} {N : Nat} {e : Nat} {e1 : Nat} {S1 : cS} (hcl : sI S 6159 = nI cl) (mcl : cl < 32) (b1 : 1 ≤ cl) (he95 : sA S 95 (cl - 1) = nI e95) (me95 : e95 < 2 ^ 20) (am : 108 ≤ m) (hq2 : sQ S 94 (cl - 1) = some m) (hz1 : (sS S)[m - 108]? = some (12, zm)) (hv1 : sV S (100 * m + 0) = .ref r) (hg1 : isK S r 0 N) (mN : N < 2 ^ 20) (b2 : e95 < N) (he : sA S r e95 = nI e) (me : e < 2 ^ 20) (b64 : e < 64) (n0 : e ≠ 0) (n1 : e ≠ 1) (n2 : e ≠ 2) (n3 : e ≠ 3) (n4 : e ≠ 4) (n5 : e ≠ 5) (n6 : e ≠ 6) (n7 : e ≠ 7) (n11 : e ≠ 11) (n12 : e ≠ 12) (n13 : e ≠ 13) (n14 : e ≠ 14) (n17 : e ≠ 17) (n32 : e ≠ 32) (n34 : e ≠ 34) (n40 : e ≠ 40) (n42 : e ≠ 42) (b3 : e ≠ 8) (b4 : e ≠ 16) (b5 : e = 18) (b6 : (e95 + 1) < N) (he1 : sA (wA 95 (cl - 1) (nI (e95 + 2)) S) r (e95 + 1) = nI e1) (me1 : e1 < 2 ^ 20) (c1 : Ans (d + 8) 400 [.ref 61, .int (nI e), .int (nI e1)] (wA 95 (cl - 1) (nI (e95 + 2)) S) (some (.int (nI 0))) S1) : Bod (d + 8) 350 0 [(0, .ref 61)] [] S (some (.int 0)) (S1) := by
  refine Bod.go dc_350_0 rfl ?_
  refine Bod.get dc_350_1 fr_350_502 (mk_61 _) rfl ?_
  refine Bod.eqI (nI cl) (by first | assumption | rfl | exact congrArg nI (by omega) | (simp (disch := omega) only [rI, rIe, rA, rIA, rLA, rJA, rVI, rQI, rVA, rQA, upd_at,  rAI, rLI, rJI, nI_add, pk_sub, kc_0, kc_1, kc_2, kc_3, kc_4, kc_5, reduceIte, Nat.reduceEqDiff, Nat.add_zero, rI_hold, rI_hold, rL_hold, hcl]; done)) ?_
  refine Bod.ic 1 (by decide) dc_350_4 ?_
  refine Bod.subN (cl - 1) (by omega) (by omega) dc_350_5 ?_
  refine Bod.istn dc_350_6 (by rw [ml_350]; exact Nat.le_of_ble_eq_true rfl) ?_
  refine Bod.go dc_350_7 rfl ?_
  refine Bod.get dc_350_8 fr_350_572 (mk_61 _) rfl ?_
  refine Bod.go dc_350_11 rfl ?_
  refine Bod.ialdN (cl - 1) rfl (by omega) (by omega) dc_350_12 (mk_95 _) ?_
  refine Bod.eqI (nI e95) (by first | assumption | rfl | exact congrArg nI (by omega) | (simp (disch := omega) only [rI, rIe, rA, rIA, rLA, rJA, rVI, rQI, rVA, rQA, upd_at,  rAI, rLI, rJI, nI_add, pk_sub, kc_0, kc_1, kc_2, kc_3, kc_4, kc_5, reduceIte, Nat.reduceEqDiff, Nat.add_zero, rI_hold, rI_hold, rL_hold, hcl, he95]; done)) ?_
  refine Bod.istn dc_350_13 (by rw [ml_350]; exact Nat.le_of_ble_eq_true rfl) ?_
  refine Bod.go dc_350_14 rfl ?_
  refine Bod.get dc_350_15 fr_350_568 (mk_61 _) rfl ?_
  refine Bod.go dc_350_18 rfl ?_
  refine Bod.aaldR (N := 31) (b := m) (cl - 1) rfl (by omega) (by omega) hq2 dc_350_19 (mk_94 _) ht_6 ?_
  refine Bod.get dc_350_20 fr_350_222 (mk_code am (by first | exact hz1 | (simp only [rIS, rJS, rAS, rLS, rVS, rQS, rS_hold]; exact hz1))) rfl ?_
  refine Bod.eqV (.ref r) (by first | exact hv1 | (simp only [rIV, rJV, rAV, rLV, rQV, rV, reduceIte, Nat.reduceEqDiff]; exact hv1)) ?_
  refine Bod.astn dc_350_23 (by rw [ml_350]; exact Nat.le_of_ble_eq_true rfl) ?_
  refine Bod.go dc_350_24 rfl ?_
  refine Bod.go dc_350_25 rfl ?_
  refine Bod.ialdN (N := N) e95 rfl (by omega) (by omega) dc_350_26 (mk_isI (by first | exact hg1 | exact isK_S (by simp only [rIS, rJS, rAS, rLS, rVS, rQS, rS_hold]) hg1)) ?_
  refine Bod.eqI (nI e) (by first | assumption | rfl | exact congrArg nI (by omega) | (simp (disch := omega) only [rI, rIe, rA, rIA, rLA, rJA, rVI, rQI, rVA, rQA, upd_at,  rAI, rLI, rJI, nI_add, pk_sub, kc_0, kc_1, kc_2, kc_3, kc_4, kc_5, reduceIte, Nat.reduceEqDiff, Nat.add_zero, rI_hold, rI_hold, rL_hold, hcl, he95, he]; done)) ?_
  refine Bod.ist dc_350_27 (by rw [ml_350]; exact Nat.le_of_ble_eq_true rfl) ?_
  refine Bod.go dc_350_29 rfl ?_
  refine Bod.sw (t := 766) dc_350_31 rfl rfl (((((((((((((((((((xsw_350_31 e b64).resolve_left n0).resolve_left n1).resolve_left n2).resolve_left n3).resolve_left n4).resolve_left n5).resolve_left n6).resolve_left n7).resolve_left n11).resolve_left n12).resolve_left n13).resolve_left n14).resolve_left n17).resolve_left n32).resolve_left n34).resolve_left n40).resolve_left n42)) ?_
  refine Bod.go dc_350_766 rfl ?_
  refine Bod.bip 8 (by decide) dc_350_768 ?_
  refine Bod.icF dc_350_770 rfl (k2_eq_F (k_ne e 8 rfl rfl (by omega) (by omega) (by omega))) ?_
  refine Bod.go dc_350_773 rfl ?_
  refine Bod.bip 16 (by decide) dc_350_775 ?_
  refine Bod.icF dc_350_777 rfl (k2_eq_F (k_ne e 16 rfl rfl (by omega) (by omega) (by omega))) ?_
  refine Bod.go dc_350_780 rfl ?_
  refine Bod.bip 18 (by decide) dc_350_782 ?_
  refine Bod.icT dc_350_784 rfl (k2_eq_T (k_eq e 18 rfl rfl (by omega))) ?_
  refine Bod.ic 1 (by decide) dc_350_829 ?_
  refine Bod.go dc_350_830 rfl ?_
  refine Bod.ist dc_350_834 (by rw [ml_350]; exact Nat.le_of_ble_eq_true rfl) ?_
  refine Bod.go dc_350_836 rfl ?_
  refine Bod.get dc_350_837 fr_350_572 (mk_61 _) rfl ?_
  refine Bod.go dc_350_840 rfl ?_
  refine Bod.go dc_350_841 rfl ?_
  refine Bod.ifF dc_350_843 rfl (k1_eq_F (k_ne 1 0 rfl rfl (by omega) (by omega) (by omega))) ?_
  refine Bod.go dc_350_846 rfl ?_
  refine Bod.ic 2 (by decide) dc_350_847 ?_
  refine Bod.addN (e95 + 2) (by omega) dc_350_848 ?_
  refine Bod.go dc_350_849 rfl ?_
  refine Bod.iastN (cl - 1) rfl (by omega) (by omega) dc_350_855 (mk_95 _) (sa_95 _ _ _) (mu_A _ _ _ _) ?_
  refine Bod.go dc_350_856 rfl ?_
  refine Bod.go dc_350_857 rfl ?_
  refine Bod.go dc_350_859 rfl ?_
  refine Bod.ifF dc_350_861 rfl (k1_eq_F (k_ne 1 0 rfl rfl (by omega) (by omega) (by omega))) ?_
  refine Bod.go dc_350_864 rfl ?_
  refine Bod.go dc_350_865 rfl ?_
  refine Bod.ic 1 (by decide) dc_350_866 ?_
  refine Bod.addN (e95 + 1) (by omega) dc_350_867 ?_
  refine Bod.ialdN (N := N) (e95 + 1) rfl (by omega) (by omega) dc_350_868 (mk_isI (by first | exact hg1 | exact isK_S (by simp only [rIS, rJS, rAS, rLS, rVS, rQS, rS_hold]) hg1)) ?_
  refine Bod.eqI (nI e1) (by first | assumption | (simp (disch := omega) only [rI, rIe, rA, rIA, rLA, rJA, rVI, rQI, rVA, rQA, upd_at,  rAI, rLI, rJI, nI_add, pk_sub, kc_0, kc_1, kc_2, kc_3, kc_4, kc_5, reduceIte, Nat.reduceEqDiff, Nat.add_zero, rI_hold, rI_hold, rL_hold, hcl, he95, he, he1]; done) | (simp (disch := omega) only [rI, rIe, rA, rIA, rLA, rJA, rVI, rQI, rVA, rQA, upd_at,  rAI, rLI, rJI, nI_add, pk_sub, kc_0, kc_1, kc_2, kc_3, kc_4, kc_5, reduceIte, Nat.reduceEqDiff, Nat.add_zero, rI_hold, rI_hold, rL_hold, hcl, he95, he, he1]; exact congrArg nI (by omega))) ?_
  refine Bod.go dc_350_869 rfl ?_
  refine Bod.virt (r := []) dc_350_873 kr_350_637 ⟨Or.inl rfl, ow_400, cl_14⟩ (by rw [np_400]; rfl) (by rw [np_400]; rfl) (ob_of (mk_61 _)) (Nat.le_of_ble_eq_true rfl) (c1  ) ?_
  show Bod _ _ _ _ [_] _ _ _
  exact Bod.retZ dc_350_876 rt_350 (Or.inl rfl)
theorem rOn_40 {d : Nat} {S : cS} {cl : Nat} {e95 : Nat} {m : Nat} {zm : Nat} {r : Nat} {N : Nat} {e : Nat} {e1 : Nat} {S1 : cS} (hcl : sI S 6159 = nI cl) (mcl : cl < 32) (b1 : 1 ≤ cl) (he95 : sA S 95 (cl - 1) = nI e95) (me95 : e95 < 2 ^ 20) (am : 108 ≤ m) (hq2 : sQ S 94 (cl - 1) = some m) (hz1 : (sS S)[m - 108]? = some (12, zm)) (hv1 : sV S (100 * m + 0) = .ref r) (hg1 : isK S r 0 N) (mN : N < 2 ^ 20) (b2 : e95 < N) (he : sA S r e95 = nI e) (me : e < 2 ^ 20) (b64 : e < 64) (n0 : e ≠ 0) (n1 : e ≠ 1) (n2 : e ≠ 2) (n3 : e ≠ 3) (n4 : e ≠ 4) (n5 : e ≠ 5) (n6 : e ≠ 6) (n7 : e ≠ 7) (n11 : e ≠ 11) (n12 : e ≠ 12) (n13 : e ≠ 13) (n14 : e ≠ 14) (n17 : e ≠ 17) (n32 : e ≠ 32) (n34 : e ≠ 34) (n40 : e ≠ 40) (n42 : e ≠ 42) (b3 : e ≠ 8) (b4 : e ≠ 16) (b5 : e ≠ 18) (b6 : e = 19) (b7 : (e95 + 1) < N) (he1 : sA (wA 95 (cl - 1) (nI (e95 + 2)) S) r (e95 + 1) = nI e1) (me1 : e1 < 2 ^ 20) (c1 : Ans (d + 8) 400 [.ref 61, .int (nI e), .int (nI e1)] (wA 95 (cl - 1) (nI (e95 + 2)) S) (some (.int (nI 1))) S1) : Bod (d + 8) 350 0 [(0, .ref 61)] [] S (some (.int 1)) (S1) := by
  refine Bod.go dc_350_0 rfl ?_
  refine Bod.get dc_350_1 fr_350_502 (mk_61 _) rfl ?_
  refine Bod.eqI (nI cl) (by first | assumption | rfl | exact congrArg nI (by omega) | (simp (disch := omega) only [rI, rIe, rA, rIA, rLA, rJA, rVI, rQI, rVA, rQA, upd_at,  rAI, rLI, rJI, nI_add, pk_sub, kc_0, kc_1, kc_2, kc_3, kc_4, kc_5, reduceIte, Nat.reduceEqDiff, Nat.add_zero, rI_hold, rI_hold, rL_hold, hcl]; done)) ?_
  refine Bod.ic 1 (by decide) dc_350_4 ?_
  refine Bod.subN (cl - 1) (by omega) (by omega) dc_350_5 ?_
  refine Bod.istn dc_350_6 (by rw [ml_350]; exact Nat.le_of_ble_eq_true rfl) ?_
  refine Bod.go dc_350_7 rfl ?_
  refine Bod.get dc_350_8 fr_350_572 (mk_61 _) rfl ?_
  refine Bod.go dc_350_11 rfl ?_
  refine Bod.ialdN (cl - 1) rfl (by omega) (by omega) dc_350_12 (mk_95 _) ?_
  refine Bod.eqI (nI e95) (by first | assumption | rfl | exact congrArg nI (by omega) | (simp (disch := omega) only [rI, rIe, rA, rIA, rLA, rJA, rVI, rQI, rVA, rQA, upd_at,  rAI, rLI, rJI, nI_add, pk_sub, kc_0, kc_1, kc_2, kc_3, kc_4, kc_5, reduceIte, Nat.reduceEqDiff, Nat.add_zero, rI_hold, rI_hold, rL_hold, hcl, he95]; done)) ?_
  refine Bod.istn dc_350_13 (by rw [ml_350]; exact Nat.le_of_ble_eq_true rfl) ?_
  refine Bod.go dc_350_14 rfl ?_
  refine Bod.get dc_350_15 fr_350_568 (mk_61 _) rfl ?_
  refine Bod.go dc_350_18 rfl ?_
  refine Bod.aaldR (N := 31) (b := m) (cl - 1) rfl (by omega) (by omega) hq2 dc_350_19 (mk_94 _) ht_6 ?_
  refine Bod.get dc_350_20 fr_350_222 (mk_code am (by first | exact hz1 | (simp only [rIS, rJS, rAS, rLS, rVS, rQS, rS_hold]; exact hz1))) rfl ?_
  refine Bod.eqV (.ref r) (by first | exact hv1 | (simp only [rIV, rJV, rAV, rLV, rQV, rV, reduceIte, Nat.reduceEqDiff]; exact hv1)) ?_
  refine Bod.astn dc_350_23 (by rw [ml_350]; exact Nat.le_of_ble_eq_true rfl) ?_
  refine Bod.go dc_350_24 rfl ?_
  refine Bod.go dc_350_25 rfl ?_
  refine Bod.ialdN (N := N) e95 rfl (by omega) (by omega) dc_350_26 (mk_isI (by first | exact hg1 | exact isK_S (by simp only [rIS, rJS, rAS, rLS, rVS, rQS, rS_hold]) hg1)) ?_
  refine Bod.eqI (nI e) (by first | assumption | rfl | exact congrArg nI (by omega) | (simp (disch := omega) only [rI, rIe, rA, rIA, rLA, rJA, rVI, rQI, rVA, rQA, upd_at,  rAI, rLI, rJI, nI_add, pk_sub, kc_0, kc_1, kc_2, kc_3, kc_4, kc_5, reduceIte, Nat.reduceEqDiff, Nat.add_zero, rI_hold, rI_hold, rL_hold, hcl, he95, he]; done)) ?_
  refine Bod.ist dc_350_27 (by rw [ml_350]; exact Nat.le_of_ble_eq_true rfl) ?_
  refine Bod.go dc_350_29 rfl ?_
  refine Bod.sw (t := 766) dc_350_31 rfl rfl (((((((((((((((((((xsw_350_31 e b64).resolve_left n0).resolve_left n1).resolve_left n2).resolve_left n3).resolve_left n4).resolve_left n5).resolve_left n6).resolve_left n7).resolve_left n11).resolve_left n12).resolve_left n13).resolve_left n14).resolve_left n17).resolve_left n32).resolve_left n34).resolve_left n40).resolve_left n42)) ?_
  refine Bod.go dc_350_766 rfl ?_
  refine Bod.bip 8 (by decide) dc_350_768 ?_
  refine Bod.icF dc_350_770 rfl (k2_eq_F (k_ne e 8 rfl rfl (by omega) (by omega) (by omega))) ?_
  refine Bod.go dc_350_773 rfl ?_
  refine Bod.bip 16 (by decide) dc_350_775 ?_
  refine Bod.icF dc_350_777 rfl (k2_eq_F (k_ne e 16 rfl rfl (by omega) (by omega) (by omega))) ?_
  refine Bod.go dc_350_780 rfl ?_
  refine Bod.bip 18 (by decide) dc_350_782 ?_
  refine Bod.icF dc_350_784 rfl (k2_eq_F (k_ne e 18 rfl rfl (by omega) (by omega) (by omega))) ?_
  refine Bod.go dc_350_787 rfl ?_
  refine Bod.bip 19 (by decide) dc_350_789 ?_
  refine Bod.icT dc_350_791 rfl (k2_eq_T (k_eq e 19 rfl rfl (by omega))) ?_
  refine Bod.ic 1 (by decide) dc_350_829 ?_
  refine Bod.go dc_350_830 rfl ?_
  refine Bod.ist dc_350_834 (by rw [ml_350]; exact Nat.le_of_ble_eq_true rfl) ?_
  refine Bod.go dc_350_836 rfl ?_
  refine Bod.get dc_350_837 fr_350_572 (mk_61 _) rfl ?_
  refine Bod.go dc_350_840 rfl ?_
  refine Bod.go dc_350_841 rfl ?_
  refine Bod.ifF dc_350_843 rfl (k1_eq_F (k_ne 1 0 rfl rfl (by omega) (by omega) (by omega))) ?_
  refine Bod.go dc_350_846 rfl ?_
  refine Bod.ic 2 (by decide) dc_350_847 ?_
  refine Bod.addN (e95 + 2) (by omega) dc_350_848 ?_
  refine Bod.go dc_350_849 rfl ?_
  refine Bod.iastN (cl - 1) rfl (by omega) (by omega) dc_350_855 (mk_95 _) (sa_95 _ _ _) (mu_A _ _ _ _) ?_
  refine Bod.go dc_350_856 rfl ?_
  refine Bod.go dc_350_857 rfl ?_
  refine Bod.go dc_350_859 rfl ?_
  refine Bod.ifF dc_350_861 rfl (k1_eq_F (k_ne 1 0 rfl rfl (by omega) (by omega) (by omega))) ?_
  refine Bod.go dc_350_864 rfl ?_
  refine Bod.go dc_350_865 rfl ?_
  refine Bod.ic 1 (by decide) dc_350_866 ?_
  refine Bod.addN (e95 + 1) (by omega) dc_350_867 ?_
  refine Bod.ialdN (N := N) (e95 + 1) rfl (by omega) (by omega) dc_350_868 (mk_isI (by first | exact hg1 | exact isK_S (by simp only [rIS, rJS, rAS, rLS, rVS, rQS, rS_hold]) hg1)) ?_
  refine Bod.eqI (nI e1) (by first | assumption | (simp (disch := omega) only [rI, rIe, rA, rIA, rLA, rJA, rVI, rQI, rVA, rQA, upd_at,  rAI, rLI, rJI, nI_add, pk_sub, kc_0, kc_1, kc_2, kc_3, kc_4, kc_5, reduceIte, Nat.reduceEqDiff, Nat.add_zero, rI_hold, rI_hold, rL_hold, hcl, he95, he, he1]; done) | (simp (disch := omega) only [rI, rIe, rA, rIA, rLA, rJA, rVI, rQI, rVA, rQA, upd_at,  rAI, rLI, rJI, nI_add, pk_sub, kc_0, kc_1, kc_2, kc_3, kc_4, kc_5, reduceIte, Nat.reduceEqDiff, Nat.add_zero, rI_hold, rI_hold, rL_hold, hcl, he95, he, he1]; exact congrArg nI (by omega))) ?_
  refine Bod.go dc_350_869 rfl ?_
  refine Bod.virt (r := []) dc_350_873 kr_350_637 ⟨Or.inl rfl, ow_400, cl_14⟩ (by rw [np_400]; rfl) (by rw [np_400]; rfl) (ob_of (mk_61 _)) (Nat.le_of_ble_eq_true rfl) (c1  ) ?_
  show Bod _ _ _ _ [_] _ _ _
  exact Bod.retZ dc_350_876 rt_350 (Or.inr rfl)
theorem rOn_41 {d : Nat} {S : cS} {cl : Nat} {e95 : Nat} {m : Nat} {zm : Nat} {r : Nat} {N : Nat} {e : Nat} {e1 : Nat} {S1 : cS} (hcl : sI S 6159 = nI cl) (mcl : cl < 32) (b1 : 1 ≤ cl) (he95 : sA S 95 (cl - 1) = nI e95) (me95 : e95 < 2 ^ 20) (am : 108 ≤ m) (hq2 : sQ S 94 (cl - 1) = some m) (hz1 : (sS S)[m - 108]? = some (12, zm)) (hv1 : sV S (100 * m + 0) = .ref r) (hg1 : isK S r 0 N) (mN : N < 2 ^ 20) (b2 : e95 < N) (he : sA S r e95 = nI e) (me : e < 2 ^ 20) (b64 : e < 64) (n0 : e ≠ 0) (n1 : e ≠ 1) (n2 : e ≠ 2) (n3 : e ≠ 3) (n4 : e ≠ 4) (n5 : e ≠ 5) (n6 : e ≠ 6) (n7 : e ≠ 7) (n11 : e ≠ 11) (n12 : e ≠ 12) (n13 : e ≠ 13) (n14 : e ≠ 14) (n17 : e ≠ 17) (n32 : e ≠ 32) (n34 : e ≠ 34) (n40 : e ≠ 40) (n42 : e ≠ 42) (b3 : e ≠ 8) (b4 : e ≠ 16) (b5 : e ≠ 18) (b6 : e = 19) (b7 : (e95 + 1) < N) (he1 : sA (wA 95 (cl - 1) (nI (e95 + 2)) S) r (e95 + 1) = nI e1) (me1 : e1 < 2 ^ 20) (c1 : Ans (d + 8) 400 [.ref 61, .int (nI e), .int (nI e1)] (wA 95 (cl - 1) (nI (e95 + 2)) S) (some (.int (nI 0))) S1) : Bod (d + 8) 350 0 [(0, .ref 61)] [] S (some (.int 0)) (S1) := by
  refine Bod.go dc_350_0 rfl ?_
  refine Bod.get dc_350_1 fr_350_502 (mk_61 _) rfl ?_
  refine Bod.eqI (nI cl) (by first | assumption | rfl | exact congrArg nI (by omega) | (simp (disch := omega) only [rI, rIe, rA, rIA, rLA, rJA, rVI, rQI, rVA, rQA, upd_at,  rAI, rLI, rJI, nI_add, pk_sub, kc_0, kc_1, kc_2, kc_3, kc_4, kc_5, reduceIte, Nat.reduceEqDiff, Nat.add_zero, rI_hold, rI_hold, rL_hold, hcl]; done)) ?_
  refine Bod.ic 1 (by decide) dc_350_4 ?_
  refine Bod.subN (cl - 1) (by omega) (by omega) dc_350_5 ?_
  refine Bod.istn dc_350_6 (by rw [ml_350]; exact Nat.le_of_ble_eq_true rfl) ?_
  refine Bod.go dc_350_7 rfl ?_
  refine Bod.get dc_350_8 fr_350_572 (mk_61 _) rfl ?_
  refine Bod.go dc_350_11 rfl ?_
  refine Bod.ialdN (cl - 1) rfl (by omega) (by omega) dc_350_12 (mk_95 _) ?_
  refine Bod.eqI (nI e95) (by first | assumption | rfl | exact congrArg nI (by omega) | (simp (disch := omega) only [rI, rIe, rA, rIA, rLA, rJA, rVI, rQI, rVA, rQA, upd_at,  rAI, rLI, rJI, nI_add, pk_sub, kc_0, kc_1, kc_2, kc_3, kc_4, kc_5, reduceIte, Nat.reduceEqDiff, Nat.add_zero, rI_hold, rI_hold, rL_hold, hcl, he95]; done)) ?_
  refine Bod.istn dc_350_13 (by rw [ml_350]; exact Nat.le_of_ble_eq_true rfl) ?_
  refine Bod.go dc_350_14 rfl ?_
  refine Bod.get dc_350_15 fr_350_568 (mk_61 _) rfl ?_
  refine Bod.go dc_350_18 rfl ?_
  refine Bod.aaldR (N := 31) (b := m) (cl - 1) rfl (by omega) (by omega) hq2 dc_350_19 (mk_94 _) ht_6 ?_
  refine Bod.get dc_350_20 fr_350_222 (mk_code am (by first | exact hz1 | (simp only [rIS, rJS, rAS, rLS, rVS, rQS, rS_hold]; exact hz1))) rfl ?_
  refine Bod.eqV (.ref r) (by first | exact hv1 | (simp only [rIV, rJV, rAV, rLV, rQV, rV, reduceIte, Nat.reduceEqDiff]; exact hv1)) ?_
  refine Bod.astn dc_350_23 (by rw [ml_350]; exact Nat.le_of_ble_eq_true rfl) ?_
  refine Bod.go dc_350_24 rfl ?_
  refine Bod.go dc_350_25 rfl ?_
  refine Bod.ialdN (N := N) e95 rfl (by omega) (by omega) dc_350_26 (mk_isI (by first | exact hg1 | exact isK_S (by simp only [rIS, rJS, rAS, rLS, rVS, rQS, rS_hold]) hg1)) ?_
  refine Bod.eqI (nI e) (by first | assumption | rfl | exact congrArg nI (by omega) | (simp (disch := omega) only [rI, rIe, rA, rIA, rLA, rJA, rVI, rQI, rVA, rQA, upd_at,  rAI, rLI, rJI, nI_add, pk_sub, kc_0, kc_1, kc_2, kc_3, kc_4, kc_5, reduceIte, Nat.reduceEqDiff, Nat.add_zero, rI_hold, rI_hold, rL_hold, hcl, he95, he]; done)) ?_
  refine Bod.ist dc_350_27 (by rw [ml_350]; exact Nat.le_of_ble_eq_true rfl) ?_
  refine Bod.go dc_350_29 rfl ?_
  refine Bod.sw (t := 766) dc_350_31 rfl rfl (((((((((((((((((((xsw_350_31 e b64).resolve_left n0).resolve_left n1).resolve_left n2).resolve_left n3).resolve_left n4).resolve_left n5).resolve_left n6).resolve_left n7).resolve_left n11).resolve_left n12).resolve_left n13).resolve_left n14).resolve_left n17).resolve_left n32).resolve_left n34).resolve_left n40).resolve_left n42)) ?_
  refine Bod.go dc_350_766 rfl ?_
  refine Bod.bip 8 (by decide) dc_350_768 ?_
  refine Bod.icF dc_350_770 rfl (k2_eq_F (k_ne e 8 rfl rfl (by omega) (by omega) (by omega))) ?_
  refine Bod.go dc_350_773 rfl ?_
  refine Bod.bip 16 (by decide) dc_350_775 ?_
  refine Bod.icF dc_350_777 rfl (k2_eq_F (k_ne e 16 rfl rfl (by omega) (by omega) (by omega))) ?_
  refine Bod.go dc_350_780 rfl ?_
  refine Bod.bip 18 (by decide) dc_350_782 ?_
  refine Bod.icF dc_350_784 rfl (k2_eq_F (k_ne e 18 rfl rfl (by omega) (by omega) (by omega))) ?_
  refine Bod.go dc_350_787 rfl ?_
  refine Bod.bip 19 (by decide) dc_350_789 ?_
  refine Bod.icT dc_350_791 rfl (k2_eq_T (k_eq e 19 rfl rfl (by omega))) ?_
  refine Bod.ic 1 (by decide) dc_350_829 ?_
  refine Bod.go dc_350_830 rfl ?_
  refine Bod.ist dc_350_834 (by rw [ml_350]; exact Nat.le_of_ble_eq_true rfl) ?_
  refine Bod.go dc_350_836 rfl ?_
  refine Bod.get dc_350_837 fr_350_572 (mk_61 _) rfl ?_
  refine Bod.go dc_350_840 rfl ?_
  refine Bod.go dc_350_841 rfl ?_
  refine Bod.ifF dc_350_843 rfl (k1_eq_F (k_ne 1 0 rfl rfl (by omega) (by omega) (by omega))) ?_
  refine Bod.go dc_350_846 rfl ?_
  refine Bod.ic 2 (by decide) dc_350_847 ?_
  refine Bod.addN (e95 + 2) (by omega) dc_350_848 ?_
  refine Bod.go dc_350_849 rfl ?_
  refine Bod.iastN (cl - 1) rfl (by omega) (by omega) dc_350_855 (mk_95 _) (sa_95 _ _ _) (mu_A _ _ _ _) ?_
  refine Bod.go dc_350_856 rfl ?_
  refine Bod.go dc_350_857 rfl ?_
  refine Bod.go dc_350_859 rfl ?_
  refine Bod.ifF dc_350_861 rfl (k1_eq_F (k_ne 1 0 rfl rfl (by omega) (by omega) (by omega))) ?_
  refine Bod.go dc_350_864 rfl ?_
  refine Bod.go dc_350_865 rfl ?_
  refine Bod.ic 1 (by decide) dc_350_866 ?_
  refine Bod.addN (e95 + 1) (by omega) dc_350_867 ?_
  refine Bod.ialdN (N := N) (e95 + 1) rfl (by omega) (by omega) dc_350_868 (mk_isI (by first | exact hg1 | exact isK_S (by simp only [rIS, rJS, rAS, rLS, rVS, rQS, rS_hold]) hg1)) ?_
  refine Bod.eqI (nI e1) (by first | assumption | (simp (disch := omega) only [rI, rIe, rA, rIA, rLA, rJA, rVI, rQI, rVA, rQA, upd_at,  rAI, rLI, rJI, nI_add, pk_sub, kc_0, kc_1, kc_2, kc_3, kc_4, kc_5, reduceIte, Nat.reduceEqDiff, Nat.add_zero, rI_hold, rI_hold, rL_hold, hcl, he95, he, he1]; done) | (simp (disch := omega) only [rI, rIe, rA, rIA, rLA, rJA, rVI, rQI, rVA, rQA, upd_at,  rAI, rLI, rJI, nI_add, pk_sub, kc_0, kc_1, kc_2, kc_3, kc_4, kc_5, reduceIte, Nat.reduceEqDiff, Nat.add_zero, rI_hold, rI_hold, rL_hold, hcl, he95, he, he1]; exact congrArg nI (by omega))) ?_
  refine Bod.go dc_350_869 rfl ?_
  refine Bod.virt (r := []) dc_350_873 kr_350_637 ⟨Or.inl rfl, ow_400, cl_14⟩ (by rw [np_400]; rfl) (by rw [np_400]; rfl) (ob_of (mk_61 _)) (Nat.le_of_ble_eq_true rfl) (c1  ) ?_
  show Bod _ _ _ _ [_] _ _ _
  exact Bod.retZ dc_350_876 rt_350 (Or.inl rfl)
theorem rOn_42 {d : Nat} {S : cS} {cl : Nat} {e95 : Nat} {m : Nat} {zm : Nat} {r : Nat} {N : Nat} {e : Nat} {e1 : Nat} {S1 : cS} (hcl : sI S 6159 = nI cl) (mcl : cl < 32) (b1 : 1 ≤ cl) (he95 : sA S 95 (cl - 1) = nI e95) (me95 : e95 < 2 ^ 20) (am : 108 ≤ m) (hq2 : sQ S 94 (cl - 1) = some m) (hz1 : (sS S)[m - 108]? = some (12, zm)) (hv1 : sV S (100 * m + 0) = .ref r) (hg1 : isK S r 0 N) (mN : N < 2 ^ 20) (b2 : e95 < N) (he : sA S r e95 = nI e) (me : e < 2 ^ 20) (b64 : e < 64) (n0 : e ≠ 0) (n1 : e ≠ 1) (n2 : e ≠ 2) (n3 : e ≠ 3) (n4 : e ≠ 4) (n5 : e ≠ 5) (n6 : e ≠ 6) (n7 : e ≠ 7) (n11 : e ≠ 11) (n12 : e ≠ 12) (n13 : e ≠ 13) (n14 : e ≠ 14) (n17 : e ≠ 17) (n32 : e ≠ 32) (n34 : e ≠ 34) (n40 : e ≠ 40) (n42 : e ≠ 42) (b3 : e ≠ 8) (b4 : e ≠ 16) (b5 : e ≠ 18) (b6 : e ≠ 19) (b7 : e = 22) (b8 : (e95 + 1) < N) (he1 : sA (wA 95 (cl - 1) (nI (e95 + 2)) S) r (e95 + 1) = nI e1) (me1 : e1 < 2 ^ 20) (c1 : Ans (d + 8) 400 [.ref 61, .int (nI e), .int (nI e1)] (wA 95 (cl - 1) (nI (e95 + 2)) S) (some (.int (nI 1))) S1) : Bod (d + 8) 350 0 [(0, .ref 61)] [] S (some (.int 1)) (S1) := by
  refine Bod.go dc_350_0 rfl ?_
  refine Bod.get dc_350_1 fr_350_502 (mk_61 _) rfl ?_
  refine Bod.eqI (nI cl) (by first | assumption | rfl | exact congrArg nI (by omega) | (simp (disch := omega) only [rI, rIe, rA, rIA, rLA, rJA, rVI, rQI, rVA, rQA, upd_at,  rAI, rLI, rJI, nI_add, pk_sub, kc_0, kc_1, kc_2, kc_3, kc_4, kc_5, reduceIte, Nat.reduceEqDiff, Nat.add_zero, rI_hold, rI_hold, rL_hold, hcl]; done)) ?_
  refine Bod.ic 1 (by decide) dc_350_4 ?_
  refine Bod.subN (cl - 1) (by omega) (by omega) dc_350_5 ?_
  refine Bod.istn dc_350_6 (by rw [ml_350]; exact Nat.le_of_ble_eq_true rfl) ?_
  refine Bod.go dc_350_7 rfl ?_
  refine Bod.get dc_350_8 fr_350_572 (mk_61 _) rfl ?_
  refine Bod.go dc_350_11 rfl ?_
  refine Bod.ialdN (cl - 1) rfl (by omega) (by omega) dc_350_12 (mk_95 _) ?_
  refine Bod.eqI (nI e95) (by first | assumption | rfl | exact congrArg nI (by omega) | (simp (disch := omega) only [rI, rIe, rA, rIA, rLA, rJA, rVI, rQI, rVA, rQA, upd_at,  rAI, rLI, rJI, nI_add, pk_sub, kc_0, kc_1, kc_2, kc_3, kc_4, kc_5, reduceIte, Nat.reduceEqDiff, Nat.add_zero, rI_hold, rI_hold, rL_hold, hcl, he95]; done)) ?_
  refine Bod.istn dc_350_13 (by rw [ml_350]; exact Nat.le_of_ble_eq_true rfl) ?_
  refine Bod.go dc_350_14 rfl ?_
  refine Bod.get dc_350_15 fr_350_568 (mk_61 _) rfl ?_
  refine Bod.go dc_350_18 rfl ?_
  refine Bod.aaldR (N := 31) (b := m) (cl - 1) rfl (by omega) (by omega) hq2 dc_350_19 (mk_94 _) ht_6 ?_
  refine Bod.get dc_350_20 fr_350_222 (mk_code am (by first | exact hz1 | (simp only [rIS, rJS, rAS, rLS, rVS, rQS, rS_hold]; exact hz1))) rfl ?_
  refine Bod.eqV (.ref r) (by first | exact hv1 | (simp only [rIV, rJV, rAV, rLV, rQV, rV, reduceIte, Nat.reduceEqDiff]; exact hv1)) ?_
  refine Bod.astn dc_350_23 (by rw [ml_350]; exact Nat.le_of_ble_eq_true rfl) ?_
  refine Bod.go dc_350_24 rfl ?_
  refine Bod.go dc_350_25 rfl ?_
  refine Bod.ialdN (N := N) e95 rfl (by omega) (by omega) dc_350_26 (mk_isI (by first | exact hg1 | exact isK_S (by simp only [rIS, rJS, rAS, rLS, rVS, rQS, rS_hold]) hg1)) ?_
  refine Bod.eqI (nI e) (by first | assumption | rfl | exact congrArg nI (by omega) | (simp (disch := omega) only [rI, rIe, rA, rIA, rLA, rJA, rVI, rQI, rVA, rQA, upd_at,  rAI, rLI, rJI, nI_add, pk_sub, kc_0, kc_1, kc_2, kc_3, kc_4, kc_5, reduceIte, Nat.reduceEqDiff, Nat.add_zero, rI_hold, rI_hold, rL_hold, hcl, he95, he]; done)) ?_
  refine Bod.ist dc_350_27 (by rw [ml_350]; exact Nat.le_of_ble_eq_true rfl) ?_
  refine Bod.go dc_350_29 rfl ?_
  refine Bod.sw (t := 766) dc_350_31 rfl rfl (((((((((((((((((((xsw_350_31 e b64).resolve_left n0).resolve_left n1).resolve_left n2).resolve_left n3).resolve_left n4).resolve_left n5).resolve_left n6).resolve_left n7).resolve_left n11).resolve_left n12).resolve_left n13).resolve_left n14).resolve_left n17).resolve_left n32).resolve_left n34).resolve_left n40).resolve_left n42)) ?_
  refine Bod.go dc_350_766 rfl ?_
  refine Bod.bip 8 (by decide) dc_350_768 ?_
  refine Bod.icF dc_350_770 rfl (k2_eq_F (k_ne e 8 rfl rfl (by omega) (by omega) (by omega))) ?_
  refine Bod.go dc_350_773 rfl ?_
  refine Bod.bip 16 (by decide) dc_350_775 ?_
  refine Bod.icF dc_350_777 rfl (k2_eq_F (k_ne e 16 rfl rfl (by omega) (by omega) (by omega))) ?_
  refine Bod.go dc_350_780 rfl ?_
  refine Bod.bip 18 (by decide) dc_350_782 ?_
  refine Bod.icF dc_350_784 rfl (k2_eq_F (k_ne e 18 rfl rfl (by omega) (by omega) (by omega))) ?_
  refine Bod.go dc_350_787 rfl ?_
  refine Bod.bip 19 (by decide) dc_350_789 ?_
  refine Bod.icF dc_350_791 rfl (k2_eq_F (k_ne e 19 rfl rfl (by omega) (by omega) (by omega))) ?_
  refine Bod.go dc_350_794 rfl ?_
  refine Bod.bip 22 (by decide) dc_350_796 ?_
  refine Bod.icT dc_350_798 rfl (k2_eq_T (k_eq e 22 rfl rfl (by omega))) ?_
  refine Bod.ic 1 (by decide) dc_350_829 ?_
  refine Bod.go dc_350_830 rfl ?_
  refine Bod.ist dc_350_834 (by rw [ml_350]; exact Nat.le_of_ble_eq_true rfl) ?_
  refine Bod.go dc_350_836 rfl ?_
  refine Bod.get dc_350_837 fr_350_572 (mk_61 _) rfl ?_
  refine Bod.go dc_350_840 rfl ?_
  refine Bod.go dc_350_841 rfl ?_
  refine Bod.ifF dc_350_843 rfl (k1_eq_F (k_ne 1 0 rfl rfl (by omega) (by omega) (by omega))) ?_
  refine Bod.go dc_350_846 rfl ?_
  refine Bod.ic 2 (by decide) dc_350_847 ?_
  refine Bod.addN (e95 + 2) (by omega) dc_350_848 ?_
  refine Bod.go dc_350_849 rfl ?_
  refine Bod.iastN (cl - 1) rfl (by omega) (by omega) dc_350_855 (mk_95 _) (sa_95 _ _ _) (mu_A _ _ _ _) ?_
  refine Bod.go dc_350_856 rfl ?_
  refine Bod.go dc_350_857 rfl ?_
  refine Bod.go dc_350_859 rfl ?_
  refine Bod.ifF dc_350_861 rfl (k1_eq_F (k_ne 1 0 rfl rfl (by omega) (by omega) (by omega))) ?_
  refine Bod.go dc_350_864 rfl ?_
  refine Bod.go dc_350_865 rfl ?_
  refine Bod.ic 1 (by decide) dc_350_866 ?_
  refine Bod.addN (e95 + 1) (by omega) dc_350_867 ?_
  refine Bod.ialdN (N := N) (e95 + 1) rfl (by omega) (by omega) dc_350_868 (mk_isI (by first | exact hg1 | exact isK_S (by simp only [rIS, rJS, rAS, rLS, rVS, rQS, rS_hold]) hg1)) ?_
  refine Bod.eqI (nI e1) (by first | assumption | (simp (disch := omega) only [rI, rIe, rA, rIA, rLA, rJA, rVI, rQI, rVA, rQA, upd_at,  rAI, rLI, rJI, nI_add, pk_sub, kc_0, kc_1, kc_2, kc_3, kc_4, kc_5, reduceIte, Nat.reduceEqDiff, Nat.add_zero, rI_hold, rI_hold, rL_hold, hcl, he95, he, he1]; done) | (simp (disch := omega) only [rI, rIe, rA, rIA, rLA, rJA, rVI, rQI, rVA, rQA, upd_at,  rAI, rLI, rJI, nI_add, pk_sub, kc_0, kc_1, kc_2, kc_3, kc_4, kc_5, reduceIte, Nat.reduceEqDiff, Nat.add_zero, rI_hold, rI_hold, rL_hold, hcl, he95, he, he1]; exact congrArg nI (by omega))) ?_
  refine Bod.go dc_350_869 rfl ?_
  refine Bod.virt (r := []) dc_350_873 kr_350_637 ⟨Or.inl rfl, ow_400, cl_14⟩ (by rw [np_400]; rfl) (by rw [np_400]; rfl) (ob_of (mk_61 _)) (Nat.le_of_ble_eq_true rfl) (c1  ) ?_
  show Bod _ _ _ _ [_] _ _ _
  exact Bod.retZ dc_350_876 rt_350 (Or.inr rfl)
theorem rOn_43 {d : Nat} {S : cS} {cl : Nat} {e95 : Nat} {m : Nat} {zm : Nat} {r : Nat} {N : Nat} {e : Nat} {e1 : Nat} {S1 : cS} (hcl : sI S 6159 = nI cl) (mcl : cl < 32) (b1 : 1 ≤ cl) (he95 : sA S 95 (cl - 1) = nI e95) (me95 : e95 < 2 ^ 20) (am : 108 ≤ m) (hq2 : sQ S 94 (cl - 1) = some m) (hz1 : (sS S)[m - 108]? = some (12, zm)) (hv1 : sV S (100 * m + 0) = .ref r) (hg1 : isK S r 0 N) (mN : N < 2 ^ 20) (b2 : e95 < N) (he : sA S r e95 = nI e) (me : e < 2 ^ 20) (b64 : e < 64) (n0 : e ≠ 0) (n1 : e ≠ 1) (n2 : e ≠ 2) (n3 : e ≠ 3) (n4 : e ≠ 4) (n5 : e ≠ 5) (n6 : e ≠ 6) (n7 : e ≠ 7) (n11 : e ≠ 11) (n12 : e ≠ 12) (n13 : e ≠ 13) (n14 : e ≠ 14) (n17 : e ≠ 17) (n32 : e ≠ 32) (n34 : e ≠ 34) (n40 : e ≠ 40) (n42 : e ≠ 42) (b3 : e ≠ 8) (b4 : e ≠ 16) (b5 : e ≠ 18) (b6 : e ≠ 19) (b7 : e = 22) (b8 : (e95 + 1) < N) (he1 : sA (wA 95 (cl - 1) (nI (e95 + 2)) S) r (e95 + 1) = nI e1) (me1 : e1 < 2 ^ 20) (c1 : Ans (d + 8) 400 [.ref 61, .int (nI e), .int (nI e1)] (wA 95 (cl - 1) (nI (e95 + 2)) S) (some (.int (nI 0))) S1) : Bod (d + 8) 350 0 [(0, .ref 61)] [] S (some (.int 0)) (S1) := by
  refine Bod.go dc_350_0 rfl ?_
  refine Bod.get dc_350_1 fr_350_502 (mk_61 _) rfl ?_
  refine Bod.eqI (nI cl) (by first | assumption | rfl | exact congrArg nI (by omega) | (simp (disch := omega) only [rI, rIe, rA, rIA, rLA, rJA, rVI, rQI, rVA, rQA, upd_at,  rAI, rLI, rJI, nI_add, pk_sub, kc_0, kc_1, kc_2, kc_3, kc_4, kc_5, reduceIte, Nat.reduceEqDiff, Nat.add_zero, rI_hold, rI_hold, rL_hold, hcl]; done)) ?_
  refine Bod.ic 1 (by decide) dc_350_4 ?_
  refine Bod.subN (cl - 1) (by omega) (by omega) dc_350_5 ?_
  refine Bod.istn dc_350_6 (by rw [ml_350]; exact Nat.le_of_ble_eq_true rfl) ?_
  refine Bod.go dc_350_7 rfl ?_
  refine Bod.get dc_350_8 fr_350_572 (mk_61 _) rfl ?_
  refine Bod.go dc_350_11 rfl ?_
  refine Bod.ialdN (cl - 1) rfl (by omega) (by omega) dc_350_12 (mk_95 _) ?_
  refine Bod.eqI (nI e95) (by first | assumption | rfl | exact congrArg nI (by omega) | (simp (disch := omega) only [rI, rIe, rA, rIA, rLA, rJA, rVI, rQI, rVA, rQA, upd_at,  rAI, rLI, rJI, nI_add, pk_sub, kc_0, kc_1, kc_2, kc_3, kc_4, kc_5, reduceIte, Nat.reduceEqDiff, Nat.add_zero, rI_hold, rI_hold, rL_hold, hcl, he95]; done)) ?_
  refine Bod.istn dc_350_13 (by rw [ml_350]; exact Nat.le_of_ble_eq_true rfl) ?_
  refine Bod.go dc_350_14 rfl ?_
  refine Bod.get dc_350_15 fr_350_568 (mk_61 _) rfl ?_
  refine Bod.go dc_350_18 rfl ?_
  refine Bod.aaldR (N := 31) (b := m) (cl - 1) rfl (by omega) (by omega) hq2 dc_350_19 (mk_94 _) ht_6 ?_
  refine Bod.get dc_350_20 fr_350_222 (mk_code am (by first | exact hz1 | (simp only [rIS, rJS, rAS, rLS, rVS, rQS, rS_hold]; exact hz1))) rfl ?_
  refine Bod.eqV (.ref r) (by first | exact hv1 | (simp only [rIV, rJV, rAV, rLV, rQV, rV, reduceIte, Nat.reduceEqDiff]; exact hv1)) ?_
  refine Bod.astn dc_350_23 (by rw [ml_350]; exact Nat.le_of_ble_eq_true rfl) ?_
  refine Bod.go dc_350_24 rfl ?_
  refine Bod.go dc_350_25 rfl ?_
  refine Bod.ialdN (N := N) e95 rfl (by omega) (by omega) dc_350_26 (mk_isI (by first | exact hg1 | exact isK_S (by simp only [rIS, rJS, rAS, rLS, rVS, rQS, rS_hold]) hg1)) ?_
  refine Bod.eqI (nI e) (by first | assumption | rfl | exact congrArg nI (by omega) | (simp (disch := omega) only [rI, rIe, rA, rIA, rLA, rJA, rVI, rQI, rVA, rQA, upd_at,  rAI, rLI, rJI, nI_add, pk_sub, kc_0, kc_1, kc_2, kc_3, kc_4, kc_5, reduceIte, Nat.reduceEqDiff, Nat.add_zero, rI_hold, rI_hold, rL_hold, hcl, he95, he]; done)) ?_
  refine Bod.ist dc_350_27 (by rw [ml_350]; exact Nat.le_of_ble_eq_true rfl) ?_
  refine Bod.go dc_350_29 rfl ?_
  refine Bod.sw (t := 766) dc_350_31 rfl rfl (((((((((((((((((((xsw_350_31 e b64).resolve_left n0).resolve_left n1).resolve_left n2).resolve_left n3).resolve_left n4).resolve_left n5).resolve_left n6).resolve_left n7).resolve_left n11).resolve_left n12).resolve_left n13).resolve_left n14).resolve_left n17).resolve_left n32).resolve_left n34).resolve_left n40).resolve_left n42)) ?_
  refine Bod.go dc_350_766 rfl ?_
  refine Bod.bip 8 (by decide) dc_350_768 ?_
  refine Bod.icF dc_350_770 rfl (k2_eq_F (k_ne e 8 rfl rfl (by omega) (by omega) (by omega))) ?_
  refine Bod.go dc_350_773 rfl ?_
  refine Bod.bip 16 (by decide) dc_350_775 ?_
  refine Bod.icF dc_350_777 rfl (k2_eq_F (k_ne e 16 rfl rfl (by omega) (by omega) (by omega))) ?_
  refine Bod.go dc_350_780 rfl ?_
  refine Bod.bip 18 (by decide) dc_350_782 ?_
  refine Bod.icF dc_350_784 rfl (k2_eq_F (k_ne e 18 rfl rfl (by omega) (by omega) (by omega))) ?_
  refine Bod.go dc_350_787 rfl ?_
  refine Bod.bip 19 (by decide) dc_350_789 ?_
  refine Bod.icF dc_350_791 rfl (k2_eq_F (k_ne e 19 rfl rfl (by omega) (by omega) (by omega))) ?_
  refine Bod.go dc_350_794 rfl ?_
  refine Bod.bip 22 (by decide) dc_350_796 ?_
  refine Bod.icT dc_350_798 rfl (k2_eq_T (k_eq e 22 rfl rfl (by omega))) ?_
  refine Bod.ic 1 (by decide) dc_350_829 ?_
  refine Bod.go dc_350_830 rfl ?_
  refine Bod.ist dc_350_834 (by rw [ml_350]; exact Nat.le_of_ble_eq_true rfl) ?_
  refine Bod.go dc_350_836 rfl ?_
  refine Bod.get dc_350_837 fr_350_572 (mk_61 _) rfl ?_
  refine Bod.go dc_350_840 rfl ?_
  refine Bod.go dc_350_841 rfl ?_
  refine Bod.ifF dc_350_843 rfl (k1_eq_F (k_ne 1 0 rfl rfl (by omega) (by omega) (by omega))) ?_
  refine Bod.go dc_350_846 rfl ?_
  refine Bod.ic 2 (by decide) dc_350_847 ?_
  refine Bod.addN (e95 + 2) (by omega) dc_350_848 ?_
  refine Bod.go dc_350_849 rfl ?_
  refine Bod.iastN (cl - 1) rfl (by omega) (by omega) dc_350_855 (mk_95 _) (sa_95 _ _ _) (mu_A _ _ _ _) ?_
  refine Bod.go dc_350_856 rfl ?_
  refine Bod.go dc_350_857 rfl ?_
  refine Bod.go dc_350_859 rfl ?_
  refine Bod.ifF dc_350_861 rfl (k1_eq_F (k_ne 1 0 rfl rfl (by omega) (by omega) (by omega))) ?_
  refine Bod.go dc_350_864 rfl ?_
  refine Bod.go dc_350_865 rfl ?_
  refine Bod.ic 1 (by decide) dc_350_866 ?_
  refine Bod.addN (e95 + 1) (by omega) dc_350_867 ?_
  refine Bod.ialdN (N := N) (e95 + 1) rfl (by omega) (by omega) dc_350_868 (mk_isI (by first | exact hg1 | exact isK_S (by simp only [rIS, rJS, rAS, rLS, rVS, rQS, rS_hold]) hg1)) ?_
  refine Bod.eqI (nI e1) (by first | assumption | (simp (disch := omega) only [rI, rIe, rA, rIA, rLA, rJA, rVI, rQI, rVA, rQA, upd_at,  rAI, rLI, rJI, nI_add, pk_sub, kc_0, kc_1, kc_2, kc_3, kc_4, kc_5, reduceIte, Nat.reduceEqDiff, Nat.add_zero, rI_hold, rI_hold, rL_hold, hcl, he95, he, he1]; done) | (simp (disch := omega) only [rI, rIe, rA, rIA, rLA, rJA, rVI, rQI, rVA, rQA, upd_at,  rAI, rLI, rJI, nI_add, pk_sub, kc_0, kc_1, kc_2, kc_3, kc_4, kc_5, reduceIte, Nat.reduceEqDiff, Nat.add_zero, rI_hold, rI_hold, rL_hold, hcl, he95, he, he1]; exact congrArg nI (by omega))) ?_
  refine Bod.go dc_350_869 rfl ?_
  refine Bod.virt (r := []) dc_350_873 kr_350_637 ⟨Or.inl rfl, ow_400, cl_14⟩ (by rw [np_400]; rfl) (by rw [np_400]; rfl) (ob_of (mk_61 _)) (Nat.le_of_ble_eq_true rfl) (c1  ) ?_
  show Bod _ _ _ _ [_] _ _ _
  exact Bod.retZ dc_350_876 rt_350 (Or.inl rfl)
theorem rOn_44 {d : Nat} {S : cS} {cl : Nat} {e95 : Nat} {m : Nat} {zm : Nat} {r : Nat} {N : Nat} {e : Nat} {e1 : Nat} {S1 : cS} (hcl : sI S 6159 = nI cl) (mcl : cl < 32) (b1 : 1 ≤ cl) (he95 : sA S 95 (cl - 1) = nI e95) (me95 : e95 < 2 ^ 20) (am : 108 ≤ m) (hq2 : sQ S 94 (cl - 1) = some m) (hz1 : (sS S)[m - 108]? = some (12, zm)) (hv1 : sV S (100 * m + 0) = .ref r) (hg1 : isK S r 0 N) (mN : N < 2 ^ 20) (b2 : e95 < N) (he : sA S r e95 = nI e) (me : e < 2 ^ 20) (b64 : e < 64) (n0 : e ≠ 0) (n1 : e ≠ 1) (n2 : e ≠ 2) (n3 : e ≠ 3) (n4 : e ≠ 4) (n5 : e ≠ 5) (n6 : e ≠ 6) (n7 : e ≠ 7) (n11 : e ≠ 11) (n12 : e ≠ 12) (n13 : e ≠ 13) (n14 : e ≠ 14) (n17 : e ≠ 17) (n32 : e ≠ 32) (n34 : e ≠ 34) (n40 : e ≠ 40) (n42 : e ≠ 42) (b3 : e ≠ 8) (b4 : e ≠ 16) (b5 : e ≠ 18) (b6 : e ≠ 19) (b7 : e ≠ 22) (b8 : e = 24) (b9 : (e95 + 1) < N) (he1 : sA (wA 95 (cl - 1) (nI (e95 + 2)) S) r (e95 + 1) = nI e1) (me1 : e1 < 2 ^ 20) (c1 : Ans (d + 8) 400 [.ref 61, .int (nI e), .int (nI e1)] (wA 95 (cl - 1) (nI (e95 + 2)) S) (some (.int (nI 1))) S1) : Bod (d + 8) 350 0 [(0, .ref 61)] [] S (some (.int 1)) (S1) := by
  refine Bod.go dc_350_0 rfl ?_
  refine Bod.get dc_350_1 fr_350_502 (mk_61 _) rfl ?_
  refine Bod.eqI (nI cl) (by first | assumption | rfl | exact congrArg nI (by omega) | (simp (disch := omega) only [rI, rIe, rA, rIA, rLA, rJA, rVI, rQI, rVA, rQA, upd_at,  rAI, rLI, rJI, nI_add, pk_sub, kc_0, kc_1, kc_2, kc_3, kc_4, kc_5, reduceIte, Nat.reduceEqDiff, Nat.add_zero, rI_hold, rI_hold, rL_hold, hcl]; done)) ?_
  refine Bod.ic 1 (by decide) dc_350_4 ?_
  refine Bod.subN (cl - 1) (by omega) (by omega) dc_350_5 ?_
  refine Bod.istn dc_350_6 (by rw [ml_350]; exact Nat.le_of_ble_eq_true rfl) ?_
  refine Bod.go dc_350_7 rfl ?_
  refine Bod.get dc_350_8 fr_350_572 (mk_61 _) rfl ?_
  refine Bod.go dc_350_11 rfl ?_
  refine Bod.ialdN (cl - 1) rfl (by omega) (by omega) dc_350_12 (mk_95 _) ?_
  refine Bod.eqI (nI e95) (by first | assumption | rfl | exact congrArg nI (by omega) | (simp (disch := omega) only [rI, rIe, rA, rIA, rLA, rJA, rVI, rQI, rVA, rQA, upd_at,  rAI, rLI, rJI, nI_add, pk_sub, kc_0, kc_1, kc_2, kc_3, kc_4, kc_5, reduceIte, Nat.reduceEqDiff, Nat.add_zero, rI_hold, rI_hold, rL_hold, hcl, he95]; done)) ?_
  refine Bod.istn dc_350_13 (by rw [ml_350]; exact Nat.le_of_ble_eq_true rfl) ?_
  refine Bod.go dc_350_14 rfl ?_
  refine Bod.get dc_350_15 fr_350_568 (mk_61 _) rfl ?_
  refine Bod.go dc_350_18 rfl ?_
  refine Bod.aaldR (N := 31) (b := m) (cl - 1) rfl (by omega) (by omega) hq2 dc_350_19 (mk_94 _) ht_6 ?_
  refine Bod.get dc_350_20 fr_350_222 (mk_code am (by first | exact hz1 | (simp only [rIS, rJS, rAS, rLS, rVS, rQS, rS_hold]; exact hz1))) rfl ?_
  refine Bod.eqV (.ref r) (by first | exact hv1 | (simp only [rIV, rJV, rAV, rLV, rQV, rV, reduceIte, Nat.reduceEqDiff]; exact hv1)) ?_
  refine Bod.astn dc_350_23 (by rw [ml_350]; exact Nat.le_of_ble_eq_true rfl) ?_
  refine Bod.go dc_350_24 rfl ?_
  refine Bod.go dc_350_25 rfl ?_
  refine Bod.ialdN (N := N) e95 rfl (by omega) (by omega) dc_350_26 (mk_isI (by first | exact hg1 | exact isK_S (by simp only [rIS, rJS, rAS, rLS, rVS, rQS, rS_hold]) hg1)) ?_
  refine Bod.eqI (nI e) (by first | assumption | rfl | exact congrArg nI (by omega) | (simp (disch := omega) only [rI, rIe, rA, rIA, rLA, rJA, rVI, rQI, rVA, rQA, upd_at,  rAI, rLI, rJI, nI_add, pk_sub, kc_0, kc_1, kc_2, kc_3, kc_4, kc_5, reduceIte, Nat.reduceEqDiff, Nat.add_zero, rI_hold, rI_hold, rL_hold, hcl, he95, he]; done)) ?_
  refine Bod.ist dc_350_27 (by rw [ml_350]; exact Nat.le_of_ble_eq_true rfl) ?_
  refine Bod.go dc_350_29 rfl ?_
  refine Bod.sw (t := 766) dc_350_31 rfl rfl (((((((((((((((((((xsw_350_31 e b64).resolve_left n0).resolve_left n1).resolve_left n2).resolve_left n3).resolve_left n4).resolve_left n5).resolve_left n6).resolve_left n7).resolve_left n11).resolve_left n12).resolve_left n13).resolve_left n14).resolve_left n17).resolve_left n32).resolve_left n34).resolve_left n40).resolve_left n42)) ?_
  refine Bod.go dc_350_766 rfl ?_
  refine Bod.bip 8 (by decide) dc_350_768 ?_
  refine Bod.icF dc_350_770 rfl (k2_eq_F (k_ne e 8 rfl rfl (by omega) (by omega) (by omega))) ?_
  refine Bod.go dc_350_773 rfl ?_
  refine Bod.bip 16 (by decide) dc_350_775 ?_
  refine Bod.icF dc_350_777 rfl (k2_eq_F (k_ne e 16 rfl rfl (by omega) (by omega) (by omega))) ?_
  refine Bod.go dc_350_780 rfl ?_
  refine Bod.bip 18 (by decide) dc_350_782 ?_
  refine Bod.icF dc_350_784 rfl (k2_eq_F (k_ne e 18 rfl rfl (by omega) (by omega) (by omega))) ?_
  refine Bod.go dc_350_787 rfl ?_
  refine Bod.bip 19 (by decide) dc_350_789 ?_
  refine Bod.icF dc_350_791 rfl (k2_eq_F (k_ne e 19 rfl rfl (by omega) (by omega) (by omega))) ?_
  refine Bod.go dc_350_794 rfl ?_
  refine Bod.bip 22 (by decide) dc_350_796 ?_
  refine Bod.icF dc_350_798 rfl (k2_eq_F (k_ne e 22 rfl rfl (by omega) (by omega) (by omega))) ?_
  refine Bod.go dc_350_801 rfl ?_
  refine Bod.bip 24 (by decide) dc_350_803 ?_
  refine Bod.icT dc_350_805 rfl (k2_eq_T (k_eq e 24 rfl rfl (by omega))) ?_
  refine Bod.ic 1 (by decide) dc_350_829 ?_
  refine Bod.go dc_350_830 rfl ?_
  refine Bod.ist dc_350_834 (by rw [ml_350]; exact Nat.le_of_ble_eq_true rfl) ?_
  refine Bod.go dc_350_836 rfl ?_
  refine Bod.get dc_350_837 fr_350_572 (mk_61 _) rfl ?_
  refine Bod.go dc_350_840 rfl ?_
  refine Bod.go dc_350_841 rfl ?_
  refine Bod.ifF dc_350_843 rfl (k1_eq_F (k_ne 1 0 rfl rfl (by omega) (by omega) (by omega))) ?_
  refine Bod.go dc_350_846 rfl ?_
  refine Bod.ic 2 (by decide) dc_350_847 ?_
  refine Bod.addN (e95 + 2) (by omega) dc_350_848 ?_
  refine Bod.go dc_350_849 rfl ?_
  refine Bod.iastN (cl - 1) rfl (by omega) (by omega) dc_350_855 (mk_95 _) (sa_95 _ _ _) (mu_A _ _ _ _) ?_
  refine Bod.go dc_350_856 rfl ?_
  refine Bod.go dc_350_857 rfl ?_
  refine Bod.go dc_350_859 rfl ?_
  refine Bod.ifF dc_350_861 rfl (k1_eq_F (k_ne 1 0 rfl rfl (by omega) (by omega) (by omega))) ?_
  refine Bod.go dc_350_864 rfl ?_
  refine Bod.go dc_350_865 rfl ?_
  refine Bod.ic 1 (by decide) dc_350_866 ?_
  refine Bod.addN (e95 + 1) (by omega) dc_350_867 ?_
  refine Bod.ialdN (N := N) (e95 + 1) rfl (by omega) (by omega) dc_350_868 (mk_isI (by first | exact hg1 | exact isK_S (by simp only [rIS, rJS, rAS, rLS, rVS, rQS, rS_hold]) hg1)) ?_
  refine Bod.eqI (nI e1) (by first | assumption | (simp (disch := omega) only [rI, rIe, rA, rIA, rLA, rJA, rVI, rQI, rVA, rQA, upd_at,  rAI, rLI, rJI, nI_add, pk_sub, kc_0, kc_1, kc_2, kc_3, kc_4, kc_5, reduceIte, Nat.reduceEqDiff, Nat.add_zero, rI_hold, rI_hold, rL_hold, hcl, he95, he, he1]; done) | (simp (disch := omega) only [rI, rIe, rA, rIA, rLA, rJA, rVI, rQI, rVA, rQA, upd_at,  rAI, rLI, rJI, nI_add, pk_sub, kc_0, kc_1, kc_2, kc_3, kc_4, kc_5, reduceIte, Nat.reduceEqDiff, Nat.add_zero, rI_hold, rI_hold, rL_hold, hcl, he95, he, he1]; exact congrArg nI (by omega))) ?_
  refine Bod.go dc_350_869 rfl ?_
  refine Bod.virt (r := []) dc_350_873 kr_350_637 ⟨Or.inl rfl, ow_400, cl_14⟩ (by rw [np_400]; rfl) (by rw [np_400]; rfl) (ob_of (mk_61 _)) (Nat.le_of_ble_eq_true rfl) (c1  ) ?_
  show Bod _ _ _ _ [_] _ _ _
  exact Bod.retZ dc_350_876 rt_350 (Or.inr rfl)
theorem rOn_45 {d : Nat} {S : cS} {cl : Nat} {e95 : Nat} {m : Nat} {zm : Nat} {r : Nat} {N : Nat} {e : Nat} {e1 : Nat} {S1 : cS} (hcl : sI S 6159 = nI cl) (mcl : cl < 32) (b1 : 1 ≤ cl) (he95 : sA S 95 (cl - 1) = nI e95) (me95 : e95 < 2 ^ 20) (am : 108 ≤ m) (hq2 : sQ S 94 (cl - 1) = some m) (hz1 : (sS S)[m - 108]? = some (12, zm)) (hv1 : sV S (100 * m + 0) = .ref r) (hg1 : isK S r 0 N) (mN : N < 2 ^ 20) (b2 : e95 < N) (he : sA S r e95 = nI e) (me : e < 2 ^ 20) (b64 : e < 64) (n0 : e ≠ 0) (n1 : e ≠ 1) (n2 : e ≠ 2) (n3 : e ≠ 3) (n4 : e ≠ 4) (n5 : e ≠ 5) (n6 : e ≠ 6) (n7 : e ≠ 7) (n11 : e ≠ 11) (n12 : e ≠ 12) (n13 : e ≠ 13) (n14 : e ≠ 14) (n17 : e ≠ 17) (n32 : e ≠ 32) (n34 : e ≠ 34) (n40 : e ≠ 40) (n42 : e ≠ 42) (b3 : e ≠ 8) (b4 : e ≠ 16) (b5 : e ≠ 18) (b6 : e ≠ 19) (b7 : e ≠ 22) (b8 : e = 24) (b9 : (e95 + 1) < N) (he1 : sA (wA 95 (cl - 1) (nI (e95 + 2)) S) r (e95 + 1) = nI e1) (me1 : e1 < 2 ^ 20) (c1 : Ans (d + 8) 400 [.ref 61, .int (nI e), .int (nI e1)] (wA 95 (cl - 1) (nI (e95 + 2)) S) (some (.int (nI 0))) S1) : Bod (d + 8) 350 0 [(0, .ref 61)] [] S (some (.int 0)) (S1) := by
  refine Bod.go dc_350_0 rfl ?_
  refine Bod.get dc_350_1 fr_350_502 (mk_61 _) rfl ?_
  refine Bod.eqI (nI cl) (by first | assumption | rfl | exact congrArg nI (by omega) | (simp (disch := omega) only [rI, rIe, rA, rIA, rLA, rJA, rVI, rQI, rVA, rQA, upd_at,  rAI, rLI, rJI, nI_add, pk_sub, kc_0, kc_1, kc_2, kc_3, kc_4, kc_5, reduceIte, Nat.reduceEqDiff, Nat.add_zero, rI_hold, rI_hold, rL_hold, hcl]; done)) ?_
  refine Bod.ic 1 (by decide) dc_350_4 ?_
  refine Bod.subN (cl - 1) (by omega) (by omega) dc_350_5 ?_
  refine Bod.istn dc_350_6 (by rw [ml_350]; exact Nat.le_of_ble_eq_true rfl) ?_
  refine Bod.go dc_350_7 rfl ?_
  refine Bod.get dc_350_8 fr_350_572 (mk_61 _) rfl ?_
  refine Bod.go dc_350_11 rfl ?_
  refine Bod.ialdN (cl - 1) rfl (by omega) (by omega) dc_350_12 (mk_95 _) ?_
  refine Bod.eqI (nI e95) (by first | assumption | rfl | exact congrArg nI (by omega) | (simp (disch := omega) only [rI, rIe, rA, rIA, rLA, rJA, rVI, rQI, rVA, rQA, upd_at,  rAI, rLI, rJI, nI_add, pk_sub, kc_0, kc_1, kc_2, kc_3, kc_4, kc_5, reduceIte, Nat.reduceEqDiff, Nat.add_zero, rI_hold, rI_hold, rL_hold, hcl, he95]; done)) ?_
  refine Bod.istn dc_350_13 (by rw [ml_350]; exact Nat.le_of_ble_eq_true rfl) ?_
  refine Bod.go dc_350_14 rfl ?_
  refine Bod.get dc_350_15 fr_350_568 (mk_61 _) rfl ?_
  refine Bod.go dc_350_18 rfl ?_
  refine Bod.aaldR (N := 31) (b := m) (cl - 1) rfl (by omega) (by omega) hq2 dc_350_19 (mk_94 _) ht_6 ?_
  refine Bod.get dc_350_20 fr_350_222 (mk_code am (by first | exact hz1 | (simp only [rIS, rJS, rAS, rLS, rVS, rQS, rS_hold]; exact hz1))) rfl ?_
  refine Bod.eqV (.ref r) (by first | exact hv1 | (simp only [rIV, rJV, rAV, rLV, rQV, rV, reduceIte, Nat.reduceEqDiff]; exact hv1)) ?_
  refine Bod.astn dc_350_23 (by rw [ml_350]; exact Nat.le_of_ble_eq_true rfl) ?_
  refine Bod.go dc_350_24 rfl ?_
  refine Bod.go dc_350_25 rfl ?_
  refine Bod.ialdN (N := N) e95 rfl (by omega) (by omega) dc_350_26 (mk_isI (by first | exact hg1 | exact isK_S (by simp only [rIS, rJS, rAS, rLS, rVS, rQS, rS_hold]) hg1)) ?_
  refine Bod.eqI (nI e) (by first | assumption | rfl | exact congrArg nI (by omega) | (simp (disch := omega) only [rI, rIe, rA, rIA, rLA, rJA, rVI, rQI, rVA, rQA, upd_at,  rAI, rLI, rJI, nI_add, pk_sub, kc_0, kc_1, kc_2, kc_3, kc_4, kc_5, reduceIte, Nat.reduceEqDiff, Nat.add_zero, rI_hold, rI_hold, rL_hold, hcl, he95, he]; done)) ?_
  refine Bod.ist dc_350_27 (by rw [ml_350]; exact Nat.le_of_ble_eq_true rfl) ?_
  refine Bod.go dc_350_29 rfl ?_
  refine Bod.sw (t := 766) dc_350_31 rfl rfl (((((((((((((((((((xsw_350_31 e b64).resolve_left n0).resolve_left n1).resolve_left n2).resolve_left n3).resolve_left n4).resolve_left n5).resolve_left n6).resolve_left n7).resolve_left n11).resolve_left n12).resolve_left n13).resolve_left n14).resolve_left n17).resolve_left n32).resolve_left n34).resolve_left n40).resolve_left n42)) ?_
  refine Bod.go dc_350_766 rfl ?_
  refine Bod.bip 8 (by decide) dc_350_768 ?_
  refine Bod.icF dc_350_770 rfl (k2_eq_F (k_ne e 8 rfl rfl (by omega) (by omega) (by omega))) ?_
  refine Bod.go dc_350_773 rfl ?_
  refine Bod.bip 16 (by decide) dc_350_775 ?_
  refine Bod.icF dc_350_777 rfl (k2_eq_F (k_ne e 16 rfl rfl (by omega) (by omega) (by omega))) ?_
  refine Bod.go dc_350_780 rfl ?_
  refine Bod.bip 18 (by decide) dc_350_782 ?_
  refine Bod.icF dc_350_784 rfl (k2_eq_F (k_ne e 18 rfl rfl (by omega) (by omega) (by omega))) ?_
  refine Bod.go dc_350_787 rfl ?_
  refine Bod.bip 19 (by decide) dc_350_789 ?_
  refine Bod.icF dc_350_791 rfl (k2_eq_F (k_ne e 19 rfl rfl (by omega) (by omega) (by omega))) ?_
  refine Bod.go dc_350_794 rfl ?_
  refine Bod.bip 22 (by decide) dc_350_796 ?_
  refine Bod.icF dc_350_798 rfl (k2_eq_F (k_ne e 22 rfl rfl (by omega) (by omega) (by omega))) ?_
  refine Bod.go dc_350_801 rfl ?_
  refine Bod.bip 24 (by decide) dc_350_803 ?_
  refine Bod.icT dc_350_805 rfl (k2_eq_T (k_eq e 24 rfl rfl (by omega))) ?_
  refine Bod.ic 1 (by decide) dc_350_829 ?_
  refine Bod.go dc_350_830 rfl ?_
  refine Bod.ist dc_350_834 (by rw [ml_350]; exact Nat.le_of_ble_eq_true rfl) ?_
  refine Bod.go dc_350_836 rfl ?_
  refine Bod.get dc_350_837 fr_350_572 (mk_61 _) rfl ?_
  refine Bod.go dc_350_840 rfl ?_
  refine Bod.go dc_350_841 rfl ?_
  refine Bod.ifF dc_350_843 rfl (k1_eq_F (k_ne 1 0 rfl rfl (by omega) (by omega) (by omega))) ?_
  refine Bod.go dc_350_846 rfl ?_
  refine Bod.ic 2 (by decide) dc_350_847 ?_
  refine Bod.addN (e95 + 2) (by omega) dc_350_848 ?_
  refine Bod.go dc_350_849 rfl ?_
  refine Bod.iastN (cl - 1) rfl (by omega) (by omega) dc_350_855 (mk_95 _) (sa_95 _ _ _) (mu_A _ _ _ _) ?_
  refine Bod.go dc_350_856 rfl ?_
  refine Bod.go dc_350_857 rfl ?_
  refine Bod.go dc_350_859 rfl ?_
  refine Bod.ifF dc_350_861 rfl (k1_eq_F (k_ne 1 0 rfl rfl (by omega) (by omega) (by omega))) ?_
  refine Bod.go dc_350_864 rfl ?_
  refine Bod.go dc_350_865 rfl ?_
  refine Bod.ic 1 (by decide) dc_350_866 ?_
  refine Bod.addN (e95 + 1) (by omega) dc_350_867 ?_
  refine Bod.ialdN (N := N) (e95 + 1) rfl (by omega) (by omega) dc_350_868 (mk_isI (by first | exact hg1 | exact isK_S (by simp only [rIS, rJS, rAS, rLS, rVS, rQS, rS_hold]) hg1)) ?_
  refine Bod.eqI (nI e1) (by first | assumption | (simp (disch := omega) only [rI, rIe, rA, rIA, rLA, rJA, rVI, rQI, rVA, rQA, upd_at,  rAI, rLI, rJI, nI_add, pk_sub, kc_0, kc_1, kc_2, kc_3, kc_4, kc_5, reduceIte, Nat.reduceEqDiff, Nat.add_zero, rI_hold, rI_hold, rL_hold, hcl, he95, he, he1]; done) | (simp (disch := omega) only [rI, rIe, rA, rIA, rLA, rJA, rVI, rQI, rVA, rQA, upd_at,  rAI, rLI, rJI, nI_add, pk_sub, kc_0, kc_1, kc_2, kc_3, kc_4, kc_5, reduceIte, Nat.reduceEqDiff, Nat.add_zero, rI_hold, rI_hold, rL_hold, hcl, he95, he, he1]; exact congrArg nI (by omega))) ?_
  refine Bod.go dc_350_869 rfl ?_
  refine Bod.virt (r := []) dc_350_873 kr_350_637 ⟨Or.inl rfl, ow_400, cl_14⟩ (by rw [np_400]; rfl) (by rw [np_400]; rfl) (ob_of (mk_61 _)) (Nat.le_of_ble_eq_true rfl) (c1  ) ?_
  show Bod _ _ _ _ [_] _ _ _
  exact Bod.retZ dc_350_876 rt_350 (Or.inl rfl)
theorem rOn_46 {d : Nat} {S : cS} {cl : Nat} {e95 : Nat} {m : Nat} {zm : Nat} {r : Nat} {N : Nat} {e : Nat} {e1 : Nat} {S1 : cS} (hcl : sI S 6159 = nI cl) (mcl : cl < 32) (b1 : 1 ≤ cl) (he95 : sA S 95 (cl - 1) = nI e95) (me95 : e95 < 2 ^ 20) (am : 108 ≤ m) (hq2 : sQ S 94 (cl - 1) = some m) (hz1 : (sS S)[m - 108]? = some (12, zm)) (hv1 : sV S (100 * m + 0) = .ref r) (hg1 : isK S r 0 N) (mN : N < 2 ^ 20) (b2 : e95 < N) (he : sA S r e95 = nI e) (me : e < 2 ^ 20) (b64 : e < 64) (n0 : e ≠ 0) (n1 : e ≠ 1) (n2 : e ≠ 2) (n3 : e ≠ 3) (n4 : e ≠ 4) (n5 : e ≠ 5) (n6 : e ≠ 6) (n7 : e ≠ 7) (n11 : e ≠ 11) (n12 : e ≠ 12) (n13 : e ≠ 13) (n14 : e ≠ 14) (n17 : e ≠ 17) (n32 : e ≠ 32) (n34 : e ≠ 34) (n40 : e ≠ 40) (n42 : e ≠ 42) (b3 : e ≠ 8) (b4 : e ≠ 16) (b5 : e ≠ 18) (b6 : e ≠ 19) (b7 : e ≠ 22) (b8 : e ≠ 24) (b9 : e = 26) (b10 : (e95 + 1) < N) (he1 : sA (wA 95 (cl - 1) (nI (e95 + 2)) S) r (e95 + 1) = nI e1) (me1 : e1 < 2 ^ 20) (c1 : Ans (d + 8) 400 [.ref 61, .int (nI e), .int (nI e1)] (wA 95 (cl - 1) (nI (e95 + 2)) S) (some (.int (nI 1))) S1) : Bod (d + 8) 350 0 [(0, .ref 61)] [] S (some (.int 1)) (S1) := by
  refine Bod.go dc_350_0 rfl ?_
  refine Bod.get dc_350_1 fr_350_502 (mk_61 _) rfl ?_
  refine Bod.eqI (nI cl) (by first | assumption | rfl | exact congrArg nI (by omega) | (simp (disch := omega) only [rI, rIe, rA, rIA, rLA, rJA, rVI, rQI, rVA, rQA, upd_at,  rAI, rLI, rJI, nI_add, pk_sub, kc_0, kc_1, kc_2, kc_3, kc_4, kc_5, reduceIte, Nat.reduceEqDiff, Nat.add_zero, rI_hold, rI_hold, rL_hold, hcl]; done)) ?_
  refine Bod.ic 1 (by decide) dc_350_4 ?_
  refine Bod.subN (cl - 1) (by omega) (by omega) dc_350_5 ?_
  refine Bod.istn dc_350_6 (by rw [ml_350]; exact Nat.le_of_ble_eq_true rfl) ?_
  refine Bod.go dc_350_7 rfl ?_
  refine Bod.get dc_350_8 fr_350_572 (mk_61 _) rfl ?_
  refine Bod.go dc_350_11 rfl ?_
  refine Bod.ialdN (cl - 1) rfl (by omega) (by omega) dc_350_12 (mk_95 _) ?_
  refine Bod.eqI (nI e95) (by first | assumption | rfl | exact congrArg nI (by omega) | (simp (disch := omega) only [rI, rIe, rA, rIA, rLA, rJA, rVI, rQI, rVA, rQA, upd_at,  rAI, rLI, rJI, nI_add, pk_sub, kc_0, kc_1, kc_2, kc_3, kc_4, kc_5, reduceIte, Nat.reduceEqDiff, Nat.add_zero, rI_hold, rI_hold, rL_hold, hcl, he95]; done)) ?_
  refine Bod.istn dc_350_13 (by rw [ml_350]; exact Nat.le_of_ble_eq_true rfl) ?_
  refine Bod.go dc_350_14 rfl ?_
  refine Bod.get dc_350_15 fr_350_568 (mk_61 _) rfl ?_
  refine Bod.go dc_350_18 rfl ?_
  refine Bod.aaldR (N := 31) (b := m) (cl - 1) rfl (by omega) (by omega) hq2 dc_350_19 (mk_94 _) ht_6 ?_
  refine Bod.get dc_350_20 fr_350_222 (mk_code am (by first | exact hz1 | (simp only [rIS, rJS, rAS, rLS, rVS, rQS, rS_hold]; exact hz1))) rfl ?_
  refine Bod.eqV (.ref r) (by first | exact hv1 | (simp only [rIV, rJV, rAV, rLV, rQV, rV, reduceIte, Nat.reduceEqDiff]; exact hv1)) ?_
  refine Bod.astn dc_350_23 (by rw [ml_350]; exact Nat.le_of_ble_eq_true rfl) ?_
  refine Bod.go dc_350_24 rfl ?_
  refine Bod.go dc_350_25 rfl ?_
  refine Bod.ialdN (N := N) e95 rfl (by omega) (by omega) dc_350_26 (mk_isI (by first | exact hg1 | exact isK_S (by simp only [rIS, rJS, rAS, rLS, rVS, rQS, rS_hold]) hg1)) ?_
  refine Bod.eqI (nI e) (by first | assumption | rfl | exact congrArg nI (by omega) | (simp (disch := omega) only [rI, rIe, rA, rIA, rLA, rJA, rVI, rQI, rVA, rQA, upd_at,  rAI, rLI, rJI, nI_add, pk_sub, kc_0, kc_1, kc_2, kc_3, kc_4, kc_5, reduceIte, Nat.reduceEqDiff, Nat.add_zero, rI_hold, rI_hold, rL_hold, hcl, he95, he]; done)) ?_
  refine Bod.ist dc_350_27 (by rw [ml_350]; exact Nat.le_of_ble_eq_true rfl) ?_
  refine Bod.go dc_350_29 rfl ?_
  refine Bod.sw (t := 766) dc_350_31 rfl rfl (((((((((((((((((((xsw_350_31 e b64).resolve_left n0).resolve_left n1).resolve_left n2).resolve_left n3).resolve_left n4).resolve_left n5).resolve_left n6).resolve_left n7).resolve_left n11).resolve_left n12).resolve_left n13).resolve_left n14).resolve_left n17).resolve_left n32).resolve_left n34).resolve_left n40).resolve_left n42)) ?_
  refine Bod.go dc_350_766 rfl ?_
  refine Bod.bip 8 (by decide) dc_350_768 ?_
  refine Bod.icF dc_350_770 rfl (k2_eq_F (k_ne e 8 rfl rfl (by omega) (by omega) (by omega))) ?_
  refine Bod.go dc_350_773 rfl ?_
  refine Bod.bip 16 (by decide) dc_350_775 ?_
  refine Bod.icF dc_350_777 rfl (k2_eq_F (k_ne e 16 rfl rfl (by omega) (by omega) (by omega))) ?_
  refine Bod.go dc_350_780 rfl ?_
  refine Bod.bip 18 (by decide) dc_350_782 ?_
  refine Bod.icF dc_350_784 rfl (k2_eq_F (k_ne e 18 rfl rfl (by omega) (by omega) (by omega))) ?_
  refine Bod.go dc_350_787 rfl ?_
  refine Bod.bip 19 (by decide) dc_350_789 ?_
  refine Bod.icF dc_350_791 rfl (k2_eq_F (k_ne e 19 rfl rfl (by omega) (by omega) (by omega))) ?_
  refine Bod.go dc_350_794 rfl ?_
  refine Bod.bip 22 (by decide) dc_350_796 ?_
  refine Bod.icF dc_350_798 rfl (k2_eq_F (k_ne e 22 rfl rfl (by omega) (by omega) (by omega))) ?_
  refine Bod.go dc_350_801 rfl ?_
  refine Bod.bip 24 (by decide) dc_350_803 ?_
  refine Bod.icF dc_350_805 rfl (k2_eq_F (k_ne e 24 rfl rfl (by omega) (by omega) (by omega))) ?_
  refine Bod.go dc_350_808 rfl ?_
  refine Bod.bip 26 (by decide) dc_350_810 ?_
  refine Bod.icT dc_350_812 rfl (k2_eq_T (k_eq e 26 rfl rfl (by omega))) ?_
  refine Bod.ic 1 (by decide) dc_350_829 ?_
  refine Bod.go dc_350_830 rfl ?_
  refine Bod.ist dc_350_834 (by rw [ml_350]; exact Nat.le_of_ble_eq_true rfl) ?_
  refine Bod.go dc_350_836 rfl ?_
  refine Bod.get dc_350_837 fr_350_572 (mk_61 _) rfl ?_
  refine Bod.go dc_350_840 rfl ?_
  refine Bod.go dc_350_841 rfl ?_
  refine Bod.ifF dc_350_843 rfl (k1_eq_F (k_ne 1 0 rfl rfl (by omega) (by omega) (by omega))) ?_
  refine Bod.go dc_350_846 rfl ?_
  refine Bod.ic 2 (by decide) dc_350_847 ?_
  refine Bod.addN (e95 + 2) (by omega) dc_350_848 ?_
  refine Bod.go dc_350_849 rfl ?_
  refine Bod.iastN (cl - 1) rfl (by omega) (by omega) dc_350_855 (mk_95 _) (sa_95 _ _ _) (mu_A _ _ _ _) ?_
  refine Bod.go dc_350_856 rfl ?_
  refine Bod.go dc_350_857 rfl ?_
  refine Bod.go dc_350_859 rfl ?_
  refine Bod.ifF dc_350_861 rfl (k1_eq_F (k_ne 1 0 rfl rfl (by omega) (by omega) (by omega))) ?_
  refine Bod.go dc_350_864 rfl ?_
  refine Bod.go dc_350_865 rfl ?_
  refine Bod.ic 1 (by decide) dc_350_866 ?_
  refine Bod.addN (e95 + 1) (by omega) dc_350_867 ?_
  refine Bod.ialdN (N := N) (e95 + 1) rfl (by omega) (by omega) dc_350_868 (mk_isI (by first | exact hg1 | exact isK_S (by simp only [rIS, rJS, rAS, rLS, rVS, rQS, rS_hold]) hg1)) ?_
  refine Bod.eqI (nI e1) (by first | assumption | (simp (disch := omega) only [rI, rIe, rA, rIA, rLA, rJA, rVI, rQI, rVA, rQA, upd_at,  rAI, rLI, rJI, nI_add, pk_sub, kc_0, kc_1, kc_2, kc_3, kc_4, kc_5, reduceIte, Nat.reduceEqDiff, Nat.add_zero, rI_hold, rI_hold, rL_hold, hcl, he95, he, he1]; done) | (simp (disch := omega) only [rI, rIe, rA, rIA, rLA, rJA, rVI, rQI, rVA, rQA, upd_at,  rAI, rLI, rJI, nI_add, pk_sub, kc_0, kc_1, kc_2, kc_3, kc_4, kc_5, reduceIte, Nat.reduceEqDiff, Nat.add_zero, rI_hold, rI_hold, rL_hold, hcl, he95, he, he1]; exact congrArg nI (by omega))) ?_
  refine Bod.go dc_350_869 rfl ?_
  refine Bod.virt (r := []) dc_350_873 kr_350_637 ⟨Or.inl rfl, ow_400, cl_14⟩ (by rw [np_400]; rfl) (by rw [np_400]; rfl) (ob_of (mk_61 _)) (Nat.le_of_ble_eq_true rfl) (c1  ) ?_
  show Bod _ _ _ _ [_] _ _ _
  exact Bod.retZ dc_350_876 rt_350 (Or.inr rfl)
theorem rOn_47 {d : Nat} {S : cS} {cl : Nat} {e95 : Nat} {m : Nat} {zm : Nat} {r : Nat} {N : Nat} {e : Nat} {e1 : Nat} {S1 : cS} (hcl : sI S 6159 = nI cl) (mcl : cl < 32) (b1 : 1 ≤ cl) (he95 : sA S 95 (cl - 1) = nI e95) (me95 : e95 < 2 ^ 20) (am : 108 ≤ m) (hq2 : sQ S 94 (cl - 1) = some m) (hz1 : (sS S)[m - 108]? = some (12, zm)) (hv1 : sV S (100 * m + 0) = .ref r) (hg1 : isK S r 0 N) (mN : N < 2 ^ 20) (b2 : e95 < N) (he : sA S r e95 = nI e) (me : e < 2 ^ 20) (b64 : e < 64) (n0 : e ≠ 0) (n1 : e ≠ 1) (n2 : e ≠ 2) (n3 : e ≠ 3) (n4 : e ≠ 4) (n5 : e ≠ 5) (n6 : e ≠ 6) (n7 : e ≠ 7) (n11 : e ≠ 11) (n12 : e ≠ 12) (n13 : e ≠ 13) (n14 : e ≠ 14) (n17 : e ≠ 17) (n32 : e ≠ 32) (n34 : e ≠ 34) (n40 : e ≠ 40) (n42 : e ≠ 42) (b3 : e ≠ 8) (b4 : e ≠ 16) (b5 : e ≠ 18) (b6 : e ≠ 19) (b7 : e ≠ 22) (b8 : e ≠ 24) (b9 : e = 26) (b10 : (e95 + 1) < N) (he1 : sA (wA 95 (cl - 1) (nI (e95 + 2)) S) r (e95 + 1) = nI e1) (me1 : e1 < 2 ^ 20) (c1 : Ans (d + 8) 400 [.ref 61, .int (nI e), .int (nI e1)] (wA 95 (cl - 1) (nI (e95 + 2)) S) (some (.int (nI 0))) S1) : Bod (d + 8) 350 0 [(0, .ref 61)] [] S (some (.int 0)) (S1) := by
  refine Bod.go dc_350_0 rfl ?_
  refine Bod.get dc_350_1 fr_350_502 (mk_61 _) rfl ?_
  refine Bod.eqI (nI cl) (by first | assumption | rfl | exact congrArg nI (by omega) | (simp (disch := omega) only [rI, rIe, rA, rIA, rLA, rJA, rVI, rQI, rVA, rQA, upd_at,  rAI, rLI, rJI, nI_add, pk_sub, kc_0, kc_1, kc_2, kc_3, kc_4, kc_5, reduceIte, Nat.reduceEqDiff, Nat.add_zero, rI_hold, rI_hold, rL_hold, hcl]; done)) ?_
  refine Bod.ic 1 (by decide) dc_350_4 ?_
  refine Bod.subN (cl - 1) (by omega) (by omega) dc_350_5 ?_
  refine Bod.istn dc_350_6 (by rw [ml_350]; exact Nat.le_of_ble_eq_true rfl) ?_
  refine Bod.go dc_350_7 rfl ?_
  refine Bod.get dc_350_8 fr_350_572 (mk_61 _) rfl ?_
  refine Bod.go dc_350_11 rfl ?_
  refine Bod.ialdN (cl - 1) rfl (by omega) (by omega) dc_350_12 (mk_95 _) ?_
  refine Bod.eqI (nI e95) (by first | assumption | rfl | exact congrArg nI (by omega) | (simp (disch := omega) only [rI, rIe, rA, rIA, rLA, rJA, rVI, rQI, rVA, rQA, upd_at,  rAI, rLI, rJI, nI_add, pk_sub, kc_0, kc_1, kc_2, kc_3, kc_4, kc_5, reduceIte, Nat.reduceEqDiff, Nat.add_zero, rI_hold, rI_hold, rL_hold, hcl, he95]; done)) ?_
  refine Bod.istn dc_350_13 (by rw [ml_350]; exact Nat.le_of_ble_eq_true rfl) ?_
  refine Bod.go dc_350_14 rfl ?_
  refine Bod.get dc_350_15 fr_350_568 (mk_61 _) rfl ?_
  refine Bod.go dc_350_18 rfl ?_
  refine Bod.aaldR (N := 31) (b := m) (cl - 1) rfl (by omega) (by omega) hq2 dc_350_19 (mk_94 _) ht_6 ?_
  refine Bod.get dc_350_20 fr_350_222 (mk_code am (by first | exact hz1 | (simp only [rIS, rJS, rAS, rLS, rVS, rQS, rS_hold]; exact hz1))) rfl ?_
  refine Bod.eqV (.ref r) (by first | exact hv1 | (simp only [rIV, rJV, rAV, rLV, rQV, rV, reduceIte, Nat.reduceEqDiff]; exact hv1)) ?_
  refine Bod.astn dc_350_23 (by rw [ml_350]; exact Nat.le_of_ble_eq_true rfl) ?_
  refine Bod.go dc_350_24 rfl ?_
  refine Bod.go dc_350_25 rfl ?_
  refine Bod.ialdN (N := N) e95 rfl (by omega) (by omega) dc_350_26 (mk_isI (by first | exact hg1 | exact isK_S (by simp only [rIS, rJS, rAS, rLS, rVS, rQS, rS_hold]) hg1)) ?_
  refine Bod.eqI (nI e) (by first | assumption | rfl | exact congrArg nI (by omega) | (simp (disch := omega) only [rI, rIe, rA, rIA, rLA, rJA, rVI, rQI, rVA, rQA, upd_at,  rAI, rLI, rJI, nI_add, pk_sub, kc_0, kc_1, kc_2, kc_3, kc_4, kc_5, reduceIte, Nat.reduceEqDiff, Nat.add_zero, rI_hold, rI_hold, rL_hold, hcl, he95, he]; done)) ?_
  refine Bod.ist dc_350_27 (by rw [ml_350]; exact Nat.le_of_ble_eq_true rfl) ?_
  refine Bod.go dc_350_29 rfl ?_
  refine Bod.sw (t := 766) dc_350_31 rfl rfl (((((((((((((((((((xsw_350_31 e b64).resolve_left n0).resolve_left n1).resolve_left n2).resolve_left n3).resolve_left n4).resolve_left n5).resolve_left n6).resolve_left n7).resolve_left n11).resolve_left n12).resolve_left n13).resolve_left n14).resolve_left n17).resolve_left n32).resolve_left n34).resolve_left n40).resolve_left n42)) ?_
  refine Bod.go dc_350_766 rfl ?_
  refine Bod.bip 8 (by decide) dc_350_768 ?_
  refine Bod.icF dc_350_770 rfl (k2_eq_F (k_ne e 8 rfl rfl (by omega) (by omega) (by omega))) ?_
  refine Bod.go dc_350_773 rfl ?_
  refine Bod.bip 16 (by decide) dc_350_775 ?_
  refine Bod.icF dc_350_777 rfl (k2_eq_F (k_ne e 16 rfl rfl (by omega) (by omega) (by omega))) ?_
  refine Bod.go dc_350_780 rfl ?_
  refine Bod.bip 18 (by decide) dc_350_782 ?_
  refine Bod.icF dc_350_784 rfl (k2_eq_F (k_ne e 18 rfl rfl (by omega) (by omega) (by omega))) ?_
  refine Bod.go dc_350_787 rfl ?_
  refine Bod.bip 19 (by decide) dc_350_789 ?_
  refine Bod.icF dc_350_791 rfl (k2_eq_F (k_ne e 19 rfl rfl (by omega) (by omega) (by omega))) ?_
  refine Bod.go dc_350_794 rfl ?_
  refine Bod.bip 22 (by decide) dc_350_796 ?_
  refine Bod.icF dc_350_798 rfl (k2_eq_F (k_ne e 22 rfl rfl (by omega) (by omega) (by omega))) ?_
  refine Bod.go dc_350_801 rfl ?_
  refine Bod.bip 24 (by decide) dc_350_803 ?_
  refine Bod.icF dc_350_805 rfl (k2_eq_F (k_ne e 24 rfl rfl (by omega) (by omega) (by omega))) ?_
  refine Bod.go dc_350_808 rfl ?_
  refine Bod.bip 26 (by decide) dc_350_810 ?_
  refine Bod.icT dc_350_812 rfl (k2_eq_T (k_eq e 26 rfl rfl (by omega))) ?_
  refine Bod.ic 1 (by decide) dc_350_829 ?_
  refine Bod.go dc_350_830 rfl ?_
  refine Bod.ist dc_350_834 (by rw [ml_350]; exact Nat.le_of_ble_eq_true rfl) ?_
  refine Bod.go dc_350_836 rfl ?_
  refine Bod.get dc_350_837 fr_350_572 (mk_61 _) rfl ?_
  refine Bod.go dc_350_840 rfl ?_
  refine Bod.go dc_350_841 rfl ?_
  refine Bod.ifF dc_350_843 rfl (k1_eq_F (k_ne 1 0 rfl rfl (by omega) (by omega) (by omega))) ?_
  refine Bod.go dc_350_846 rfl ?_
  refine Bod.ic 2 (by decide) dc_350_847 ?_
  refine Bod.addN (e95 + 2) (by omega) dc_350_848 ?_
  refine Bod.go dc_350_849 rfl ?_
  refine Bod.iastN (cl - 1) rfl (by omega) (by omega) dc_350_855 (mk_95 _) (sa_95 _ _ _) (mu_A _ _ _ _) ?_
  refine Bod.go dc_350_856 rfl ?_
  refine Bod.go dc_350_857 rfl ?_
  refine Bod.go dc_350_859 rfl ?_
  refine Bod.ifF dc_350_861 rfl (k1_eq_F (k_ne 1 0 rfl rfl (by omega) (by omega) (by omega))) ?_
  refine Bod.go dc_350_864 rfl ?_
  refine Bod.go dc_350_865 rfl ?_
  refine Bod.ic 1 (by decide) dc_350_866 ?_
  refine Bod.addN (e95 + 1) (by omega) dc_350_867 ?_
  refine Bod.ialdN (N := N) (e95 + 1) rfl (by omega) (by omega) dc_350_868 (mk_isI (by first | exact hg1 | exact isK_S (by simp only [rIS, rJS, rAS, rLS, rVS, rQS, rS_hold]) hg1)) ?_
  refine Bod.eqI (nI e1) (by first | assumption | (simp (disch := omega) only [rI, rIe, rA, rIA, rLA, rJA, rVI, rQI, rVA, rQA, upd_at,  rAI, rLI, rJI, nI_add, pk_sub, kc_0, kc_1, kc_2, kc_3, kc_4, kc_5, reduceIte, Nat.reduceEqDiff, Nat.add_zero, rI_hold, rI_hold, rL_hold, hcl, he95, he, he1]; done) | (simp (disch := omega) only [rI, rIe, rA, rIA, rLA, rJA, rVI, rQI, rVA, rQA, upd_at,  rAI, rLI, rJI, nI_add, pk_sub, kc_0, kc_1, kc_2, kc_3, kc_4, kc_5, reduceIte, Nat.reduceEqDiff, Nat.add_zero, rI_hold, rI_hold, rL_hold, hcl, he95, he, he1]; exact congrArg nI (by omega))) ?_
  refine Bod.go dc_350_869 rfl ?_
  refine Bod.virt (r := []) dc_350_873 kr_350_637 ⟨Or.inl rfl, ow_400, cl_14⟩ (by rw [np_400]; rfl) (by rw [np_400]; rfl) (ob_of (mk_61 _)) (Nat.le_of_ble_eq_true rfl) (c1  ) ?_
  show Bod _ _ _ _ [_] _ _ _
  exact Bod.retZ dc_350_876 rt_350 (Or.inl rfl)
theorem rOn_48 {d : Nat} {S : cS} {cl : Nat} {e95 : Nat} {m : Nat} {zm : Nat} {r : Nat} {N : Nat} {e : Nat} {e1 : Nat} {S1 : cS} (hcl : sI S 6159 = nI cl) (mcl : cl < 32) (b1 : 1 ≤ cl) (he95 : sA S 95 (cl - 1) = nI e95) (me95 : e95 < 2 ^ 20) (am : 108 ≤ m) (hq2 : sQ S 94 (cl - 1) = some m) (hz1 : (sS S)[m - 108]? = some (12, zm)) (hv1 : sV S (100 * m + 0) = .ref r) (hg1 : isK S r 0 N) (mN : N < 2 ^ 20) (b2 : e95 < N) (he : sA S r e95 = nI e) (me : e < 2 ^ 20) (b64 : e < 64) (n0 : e ≠ 0) (n1 : e ≠ 1) (n2 : e ≠ 2) (n3 : e ≠ 3) (n4 : e ≠ 4) (n5 : e ≠ 5) (n6 : e ≠ 6) (n7 : e ≠ 7) (n11 : e ≠ 11) (n12 : e ≠ 12) (n13 : e ≠ 13) (n14 : e ≠ 14) (n17 : e ≠ 17) (n32 : e ≠ 32) (n34 : e ≠ 34) (n40 : e ≠ 40) (n42 : e ≠ 42) (b3 : e ≠ 8) (b4 : e ≠ 16) (b5 : e ≠ 18) (b6 : e ≠ 19) (b7 : e ≠ 22) (b8 : e ≠ 24) (b9 : e ≠ 26) (b10 : e = 37) (b11 : (e95 + 1) < N) (he1 : sA (wA 95 (cl - 1) (nI (e95 + 2)) S) r (e95 + 1) = nI e1) (me1 : e1 < 2 ^ 20) (c1 : Ans (d + 8) 400 [.ref 61, .int (nI e), .int (nI e1)] (wA 95 (cl - 1) (nI (e95 + 2)) S) (some (.int (nI 1))) S1) : Bod (d + 8) 350 0 [(0, .ref 61)] [] S (some (.int 1)) (S1) := by
  refine Bod.go dc_350_0 rfl ?_
  refine Bod.get dc_350_1 fr_350_502 (mk_61 _) rfl ?_
  refine Bod.eqI (nI cl) (by first | assumption | rfl | exact congrArg nI (by omega) | (simp (disch := omega) only [rI, rIe, rA, rIA, rLA, rJA, rVI, rQI, rVA, rQA, upd_at,  rAI, rLI, rJI, nI_add, pk_sub, kc_0, kc_1, kc_2, kc_3, kc_4, kc_5, reduceIte, Nat.reduceEqDiff, Nat.add_zero, rI_hold, rI_hold, rL_hold, hcl]; done)) ?_
  refine Bod.ic 1 (by decide) dc_350_4 ?_
  refine Bod.subN (cl - 1) (by omega) (by omega) dc_350_5 ?_
  refine Bod.istn dc_350_6 (by rw [ml_350]; exact Nat.le_of_ble_eq_true rfl) ?_
  refine Bod.go dc_350_7 rfl ?_
  refine Bod.get dc_350_8 fr_350_572 (mk_61 _) rfl ?_
  refine Bod.go dc_350_11 rfl ?_
  refine Bod.ialdN (cl - 1) rfl (by omega) (by omega) dc_350_12 (mk_95 _) ?_
  refine Bod.eqI (nI e95) (by first | assumption | rfl | exact congrArg nI (by omega) | (simp (disch := omega) only [rI, rIe, rA, rIA, rLA, rJA, rVI, rQI, rVA, rQA, upd_at,  rAI, rLI, rJI, nI_add, pk_sub, kc_0, kc_1, kc_2, kc_3, kc_4, kc_5, reduceIte, Nat.reduceEqDiff, Nat.add_zero, rI_hold, rI_hold, rL_hold, hcl, he95]; done)) ?_
  refine Bod.istn dc_350_13 (by rw [ml_350]; exact Nat.le_of_ble_eq_true rfl) ?_
  refine Bod.go dc_350_14 rfl ?_
  refine Bod.get dc_350_15 fr_350_568 (mk_61 _) rfl ?_
  refine Bod.go dc_350_18 rfl ?_
  refine Bod.aaldR (N := 31) (b := m) (cl - 1) rfl (by omega) (by omega) hq2 dc_350_19 (mk_94 _) ht_6 ?_
  refine Bod.get dc_350_20 fr_350_222 (mk_code am (by first | exact hz1 | (simp only [rIS, rJS, rAS, rLS, rVS, rQS, rS_hold]; exact hz1))) rfl ?_
  refine Bod.eqV (.ref r) (by first | exact hv1 | (simp only [rIV, rJV, rAV, rLV, rQV, rV, reduceIte, Nat.reduceEqDiff]; exact hv1)) ?_
  refine Bod.astn dc_350_23 (by rw [ml_350]; exact Nat.le_of_ble_eq_true rfl) ?_
  refine Bod.go dc_350_24 rfl ?_
  refine Bod.go dc_350_25 rfl ?_
  refine Bod.ialdN (N := N) e95 rfl (by omega) (by omega) dc_350_26 (mk_isI (by first | exact hg1 | exact isK_S (by simp only [rIS, rJS, rAS, rLS, rVS, rQS, rS_hold]) hg1)) ?_
  refine Bod.eqI (nI e) (by first | assumption | rfl | exact congrArg nI (by omega) | (simp (disch := omega) only [rI, rIe, rA, rIA, rLA, rJA, rVI, rQI, rVA, rQA, upd_at,  rAI, rLI, rJI, nI_add, pk_sub, kc_0, kc_1, kc_2, kc_3, kc_4, kc_5, reduceIte, Nat.reduceEqDiff, Nat.add_zero, rI_hold, rI_hold, rL_hold, hcl, he95, he]; done)) ?_
  refine Bod.ist dc_350_27 (by rw [ml_350]; exact Nat.le_of_ble_eq_true rfl) ?_
  refine Bod.go dc_350_29 rfl ?_
  refine Bod.sw (t := 766) dc_350_31 rfl rfl (((((((((((((((((((xsw_350_31 e b64).resolve_left n0).resolve_left n1).resolve_left n2).resolve_left n3).resolve_left n4).resolve_left n5).resolve_left n6).resolve_left n7).resolve_left n11).resolve_left n12).resolve_left n13).resolve_left n14).resolve_left n17).resolve_left n32).resolve_left n34).resolve_left n40).resolve_left n42)) ?_
  refine Bod.go dc_350_766 rfl ?_
  refine Bod.bip 8 (by decide) dc_350_768 ?_
  refine Bod.icF dc_350_770 rfl (k2_eq_F (k_ne e 8 rfl rfl (by omega) (by omega) (by omega))) ?_
  refine Bod.go dc_350_773 rfl ?_
  refine Bod.bip 16 (by decide) dc_350_775 ?_
  refine Bod.icF dc_350_777 rfl (k2_eq_F (k_ne e 16 rfl rfl (by omega) (by omega) (by omega))) ?_
  refine Bod.go dc_350_780 rfl ?_
  refine Bod.bip 18 (by decide) dc_350_782 ?_
  refine Bod.icF dc_350_784 rfl (k2_eq_F (k_ne e 18 rfl rfl (by omega) (by omega) (by omega))) ?_
  refine Bod.go dc_350_787 rfl ?_
  refine Bod.bip 19 (by decide) dc_350_789 ?_
  refine Bod.icF dc_350_791 rfl (k2_eq_F (k_ne e 19 rfl rfl (by omega) (by omega) (by omega))) ?_
  refine Bod.go dc_350_794 rfl ?_
  refine Bod.bip 22 (by decide) dc_350_796 ?_
  refine Bod.icF dc_350_798 rfl (k2_eq_F (k_ne e 22 rfl rfl (by omega) (by omega) (by omega))) ?_
  refine Bod.go dc_350_801 rfl ?_
  refine Bod.bip 24 (by decide) dc_350_803 ?_
  refine Bod.icF dc_350_805 rfl (k2_eq_F (k_ne e 24 rfl rfl (by omega) (by omega) (by omega))) ?_
  refine Bod.go dc_350_808 rfl ?_
  refine Bod.bip 26 (by decide) dc_350_810 ?_
  refine Bod.icF dc_350_812 rfl (k2_eq_F (k_ne e 26 rfl rfl (by omega) (by omega) (by omega))) ?_
  refine Bod.go dc_350_815 rfl ?_
  refine Bod.bip 37 (by decide) dc_350_817 ?_
  refine Bod.icT dc_350_819 rfl (k2_eq_T (k_eq e 37 rfl rfl (by omega))) ?_
  refine Bod.ic 1 (by decide) dc_350_829 ?_
  refine Bod.go dc_350_830 rfl ?_
  refine Bod.ist dc_350_834 (by rw [ml_350]; exact Nat.le_of_ble_eq_true rfl) ?_
  refine Bod.go dc_350_836 rfl ?_
  refine Bod.get dc_350_837 fr_350_572 (mk_61 _) rfl ?_
  refine Bod.go dc_350_840 rfl ?_
  refine Bod.go dc_350_841 rfl ?_
  refine Bod.ifF dc_350_843 rfl (k1_eq_F (k_ne 1 0 rfl rfl (by omega) (by omega) (by omega))) ?_
  refine Bod.go dc_350_846 rfl ?_
  refine Bod.ic 2 (by decide) dc_350_847 ?_
  refine Bod.addN (e95 + 2) (by omega) dc_350_848 ?_
  refine Bod.go dc_350_849 rfl ?_
  refine Bod.iastN (cl - 1) rfl (by omega) (by omega) dc_350_855 (mk_95 _) (sa_95 _ _ _) (mu_A _ _ _ _) ?_
  refine Bod.go dc_350_856 rfl ?_
  refine Bod.go dc_350_857 rfl ?_
  refine Bod.go dc_350_859 rfl ?_
  refine Bod.ifF dc_350_861 rfl (k1_eq_F (k_ne 1 0 rfl rfl (by omega) (by omega) (by omega))) ?_
  refine Bod.go dc_350_864 rfl ?_
  refine Bod.go dc_350_865 rfl ?_
  refine Bod.ic 1 (by decide) dc_350_866 ?_
  refine Bod.addN (e95 + 1) (by omega) dc_350_867 ?_
  refine Bod.ialdN (N := N) (e95 + 1) rfl (by omega) (by omega) dc_350_868 (mk_isI (by first | exact hg1 | exact isK_S (by simp only [rIS, rJS, rAS, rLS, rVS, rQS, rS_hold]) hg1)) ?_
  refine Bod.eqI (nI e1) (by first | assumption | (simp (disch := omega) only [rI, rIe, rA, rIA, rLA, rJA, rVI, rQI, rVA, rQA, upd_at,  rAI, rLI, rJI, nI_add, pk_sub, kc_0, kc_1, kc_2, kc_3, kc_4, kc_5, reduceIte, Nat.reduceEqDiff, Nat.add_zero, rI_hold, rI_hold, rL_hold, hcl, he95, he, he1]; done) | (simp (disch := omega) only [rI, rIe, rA, rIA, rLA, rJA, rVI, rQI, rVA, rQA, upd_at,  rAI, rLI, rJI, nI_add, pk_sub, kc_0, kc_1, kc_2, kc_3, kc_4, kc_5, reduceIte, Nat.reduceEqDiff, Nat.add_zero, rI_hold, rI_hold, rL_hold, hcl, he95, he, he1]; exact congrArg nI (by omega))) ?_
  refine Bod.go dc_350_869 rfl ?_
  refine Bod.virt (r := []) dc_350_873 kr_350_637 ⟨Or.inl rfl, ow_400, cl_14⟩ (by rw [np_400]; rfl) (by rw [np_400]; rfl) (ob_of (mk_61 _)) (Nat.le_of_ble_eq_true rfl) (c1  ) ?_
  show Bod _ _ _ _ [_] _ _ _
  exact Bod.retZ dc_350_876 rt_350 (Or.inr rfl)
theorem rOn_49 {d : Nat} {S : cS} {cl : Nat} {e95 : Nat} {m : Nat} {zm : Nat} {r : Nat} {N : Nat} {e : Nat} {e1 : Nat} {S1 : cS} (hcl : sI S 6159 = nI cl) (mcl : cl < 32) (b1 : 1 ≤ cl) (he95 : sA S 95 (cl - 1) = nI e95) (me95 : e95 < 2 ^ 20) (am : 108 ≤ m) (hq2 : sQ S 94 (cl - 1) = some m) (hz1 : (sS S)[m - 108]? = some (12, zm)) (hv1 : sV S (100 * m + 0) = .ref r) (hg1 : isK S r 0 N) (mN : N < 2 ^ 20) (b2 : e95 < N) (he : sA S r e95 = nI e) (me : e < 2 ^ 20) (b64 : e < 64) (n0 : e ≠ 0) (n1 : e ≠ 1) (n2 : e ≠ 2) (n3 : e ≠ 3) (n4 : e ≠ 4) (n5 : e ≠ 5) (n6 : e ≠ 6) (n7 : e ≠ 7) (n11 : e ≠ 11) (n12 : e ≠ 12) (n13 : e ≠ 13) (n14 : e ≠ 14) (n17 : e ≠ 17) (n32 : e ≠ 32) (n34 : e ≠ 34) (n40 : e ≠ 40) (n42 : e ≠ 42) (b3 : e ≠ 8) (b4 : e ≠ 16) (b5 : e ≠ 18) (b6 : e ≠ 19) (b7 : e ≠ 22) (b8 : e ≠ 24) (b9 : e ≠ 26) (b10 : e = 37) (b11 : (e95 + 1) < N) (he1 : sA (wA 95 (cl - 1) (nI (e95 + 2)) S) r (e95 + 1) = nI e1) (me1 : e1 < 2 ^ 20) (c1 : Ans (d + 8) 400 [.ref 61, .int (nI e), .int (nI e1)] (wA 95 (cl - 1) (nI (e95 + 2)) S) (some (.int (nI 0))) S1) : Bod (d + 8) 350 0 [(0, .ref 61)] [] S (some (.int 0)) (S1) := by
  refine Bod.go dc_350_0 rfl ?_
  refine Bod.get dc_350_1 fr_350_502 (mk_61 _) rfl ?_
  refine Bod.eqI (nI cl) (by first | assumption | rfl | exact congrArg nI (by omega) | (simp (disch := omega) only [rI, rIe, rA, rIA, rLA, rJA, rVI, rQI, rVA, rQA, upd_at,  rAI, rLI, rJI, nI_add, pk_sub, kc_0, kc_1, kc_2, kc_3, kc_4, kc_5, reduceIte, Nat.reduceEqDiff, Nat.add_zero, rI_hold, rI_hold, rL_hold, hcl]; done)) ?_
  refine Bod.ic 1 (by decide) dc_350_4 ?_
  refine Bod.subN (cl - 1) (by omega) (by omega) dc_350_5 ?_
  refine Bod.istn dc_350_6 (by rw [ml_350]; exact Nat.le_of_ble_eq_true rfl) ?_
  refine Bod.go dc_350_7 rfl ?_
  refine Bod.get dc_350_8 fr_350_572 (mk_61 _) rfl ?_
  refine Bod.go dc_350_11 rfl ?_
  refine Bod.ialdN (cl - 1) rfl (by omega) (by omega) dc_350_12 (mk_95 _) ?_
  refine Bod.eqI (nI e95) (by first | assumption | rfl | exact congrArg nI (by omega) | (simp (disch := omega) only [rI, rIe, rA, rIA, rLA, rJA, rVI, rQI, rVA, rQA, upd_at,  rAI, rLI, rJI, nI_add, pk_sub, kc_0, kc_1, kc_2, kc_3, kc_4, kc_5, reduceIte, Nat.reduceEqDiff, Nat.add_zero, rI_hold, rI_hold, rL_hold, hcl, he95]; done)) ?_
  refine Bod.istn dc_350_13 (by rw [ml_350]; exact Nat.le_of_ble_eq_true rfl) ?_
  refine Bod.go dc_350_14 rfl ?_
  refine Bod.get dc_350_15 fr_350_568 (mk_61 _) rfl ?_
  refine Bod.go dc_350_18 rfl ?_
  refine Bod.aaldR (N := 31) (b := m) (cl - 1) rfl (by omega) (by omega) hq2 dc_350_19 (mk_94 _) ht_6 ?_
  refine Bod.get dc_350_20 fr_350_222 (mk_code am (by first | exact hz1 | (simp only [rIS, rJS, rAS, rLS, rVS, rQS, rS_hold]; exact hz1))) rfl ?_
  refine Bod.eqV (.ref r) (by first | exact hv1 | (simp only [rIV, rJV, rAV, rLV, rQV, rV, reduceIte, Nat.reduceEqDiff]; exact hv1)) ?_
  refine Bod.astn dc_350_23 (by rw [ml_350]; exact Nat.le_of_ble_eq_true rfl) ?_
  refine Bod.go dc_350_24 rfl ?_
  refine Bod.go dc_350_25 rfl ?_
  refine Bod.ialdN (N := N) e95 rfl (by omega) (by omega) dc_350_26 (mk_isI (by first | exact hg1 | exact isK_S (by simp only [rIS, rJS, rAS, rLS, rVS, rQS, rS_hold]) hg1)) ?_
  refine Bod.eqI (nI e) (by first | assumption | rfl | exact congrArg nI (by omega) | (simp (disch := omega) only [rI, rIe, rA, rIA, rLA, rJA, rVI, rQI, rVA, rQA, upd_at,  rAI, rLI, rJI, nI_add, pk_sub, kc_0, kc_1, kc_2, kc_3, kc_4, kc_5, reduceIte, Nat.reduceEqDiff, Nat.add_zero, rI_hold, rI_hold, rL_hold, hcl, he95, he]; done)) ?_
  refine Bod.ist dc_350_27 (by rw [ml_350]; exact Nat.le_of_ble_eq_true rfl) ?_
  refine Bod.go dc_350_29 rfl ?_
  refine Bod.sw (t := 766) dc_350_31 rfl rfl (((((((((((((((((((xsw_350_31 e b64).resolve_left n0).resolve_left n1).resolve_left n2).resolve_left n3).resolve_left n4).resolve_left n5).resolve_left n6).resolve_left n7).resolve_left n11).resolve_left n12).resolve_left n13).resolve_left n14).resolve_left n17).resolve_left n32).resolve_left n34).resolve_left n40).resolve_left n42)) ?_
  refine Bod.go dc_350_766 rfl ?_
  refine Bod.bip 8 (by decide) dc_350_768 ?_
  refine Bod.icF dc_350_770 rfl (k2_eq_F (k_ne e 8 rfl rfl (by omega) (by omega) (by omega))) ?_
  refine Bod.go dc_350_773 rfl ?_
  refine Bod.bip 16 (by decide) dc_350_775 ?_
  refine Bod.icF dc_350_777 rfl (k2_eq_F (k_ne e 16 rfl rfl (by omega) (by omega) (by omega))) ?_
  refine Bod.go dc_350_780 rfl ?_
  refine Bod.bip 18 (by decide) dc_350_782 ?_
  refine Bod.icF dc_350_784 rfl (k2_eq_F (k_ne e 18 rfl rfl (by omega) (by omega) (by omega))) ?_
  refine Bod.go dc_350_787 rfl ?_
  refine Bod.bip 19 (by decide) dc_350_789 ?_
  refine Bod.icF dc_350_791 rfl (k2_eq_F (k_ne e 19 rfl rfl (by omega) (by omega) (by omega))) ?_
  refine Bod.go dc_350_794 rfl ?_
  refine Bod.bip 22 (by decide) dc_350_796 ?_
  refine Bod.icF dc_350_798 rfl (k2_eq_F (k_ne e 22 rfl rfl (by omega) (by omega) (by omega))) ?_
  refine Bod.go dc_350_801 rfl ?_
  refine Bod.bip 24 (by decide) dc_350_803 ?_
  refine Bod.icF dc_350_805 rfl (k2_eq_F (k_ne e 24 rfl rfl (by omega) (by omega) (by omega))) ?_
  refine Bod.go dc_350_808 rfl ?_
  refine Bod.bip 26 (by decide) dc_350_810 ?_
  refine Bod.icF dc_350_812 rfl (k2_eq_F (k_ne e 26 rfl rfl (by omega) (by omega) (by omega))) ?_
  refine Bod.go dc_350_815 rfl ?_
  refine Bod.bip 37 (by decide) dc_350_817 ?_
  refine Bod.icT dc_350_819 rfl (k2_eq_T (k_eq e 37 rfl rfl (by omega))) ?_
  refine Bod.ic 1 (by decide) dc_350_829 ?_
  refine Bod.go dc_350_830 rfl ?_
  refine Bod.ist dc_350_834 (by rw [ml_350]; exact Nat.le_of_ble_eq_true rfl) ?_
  refine Bod.go dc_350_836 rfl ?_
  refine Bod.get dc_350_837 fr_350_572 (mk_61 _) rfl ?_
  refine Bod.go dc_350_840 rfl ?_
  refine Bod.go dc_350_841 rfl ?_
  refine Bod.ifF dc_350_843 rfl (k1_eq_F (k_ne 1 0 rfl rfl (by omega) (by omega) (by omega))) ?_
  refine Bod.go dc_350_846 rfl ?_
  refine Bod.ic 2 (by decide) dc_350_847 ?_
  refine Bod.addN (e95 + 2) (by omega) dc_350_848 ?_
  refine Bod.go dc_350_849 rfl ?_
  refine Bod.iastN (cl - 1) rfl (by omega) (by omega) dc_350_855 (mk_95 _) (sa_95 _ _ _) (mu_A _ _ _ _) ?_
  refine Bod.go dc_350_856 rfl ?_
  refine Bod.go dc_350_857 rfl ?_
  refine Bod.go dc_350_859 rfl ?_
  refine Bod.ifF dc_350_861 rfl (k1_eq_F (k_ne 1 0 rfl rfl (by omega) (by omega) (by omega))) ?_
  refine Bod.go dc_350_864 rfl ?_
  refine Bod.go dc_350_865 rfl ?_
  refine Bod.ic 1 (by decide) dc_350_866 ?_
  refine Bod.addN (e95 + 1) (by omega) dc_350_867 ?_
  refine Bod.ialdN (N := N) (e95 + 1) rfl (by omega) (by omega) dc_350_868 (mk_isI (by first | exact hg1 | exact isK_S (by simp only [rIS, rJS, rAS, rLS, rVS, rQS, rS_hold]) hg1)) ?_
  refine Bod.eqI (nI e1) (by first | assumption | (simp (disch := omega) only [rI, rIe, rA, rIA, rLA, rJA, rVI, rQI, rVA, rQA, upd_at,  rAI, rLI, rJI, nI_add, pk_sub, kc_0, kc_1, kc_2, kc_3, kc_4, kc_5, reduceIte, Nat.reduceEqDiff, Nat.add_zero, rI_hold, rI_hold, rL_hold, hcl, he95, he, he1]; done) | (simp (disch := omega) only [rI, rIe, rA, rIA, rLA, rJA, rVI, rQI, rVA, rQA, upd_at,  rAI, rLI, rJI, nI_add, pk_sub, kc_0, kc_1, kc_2, kc_3, kc_4, kc_5, reduceIte, Nat.reduceEqDiff, Nat.add_zero, rI_hold, rI_hold, rL_hold, hcl, he95, he, he1]; exact congrArg nI (by omega))) ?_
  refine Bod.go dc_350_869 rfl ?_
  refine Bod.virt (r := []) dc_350_873 kr_350_637 ⟨Or.inl rfl, ow_400, cl_14⟩ (by rw [np_400]; rfl) (by rw [np_400]; rfl) (ob_of (mk_61 _)) (Nat.le_of_ble_eq_true rfl) (c1  ) ?_
  show Bod _ _ _ _ [_] _ _ _
  exact Bod.retZ dc_350_876 rt_350 (Or.inl rfl)
theorem rOn_50 {d : Nat} {S : cS} {cl : Nat} {e95 : Nat} {m : Nat} {zm : Nat} {r : Nat} {N : Nat} {e : Nat} {S1 : cS} (hcl : sI S 6159 = nI cl) (mcl : cl < 32) (b1 : 1 ≤ cl) (he95 : sA S 95 (cl - 1) = nI e95) (me95 : e95 < 2 ^ 20) (am : 108 ≤ m) (hq2 : sQ S 94 (cl - 1) = some m) (hz1 : (sS S)[m - 108]? = some (12, zm)) (hv1 : sV S (100 * m + 0) = .ref r) (hg1 : isK S r 0 N) (mN : N < 2 ^ 20) (b2 : e95 < N) (he : sA S r e95 = nI e) (me : e < 2 ^ 20) (b64 : e < 64) (n0 : e ≠ 0) (n1 : e ≠ 1) (n2 : e ≠ 2) (n3 : e ≠ 3) (n4 : e ≠ 4) (n5 : e ≠ 5) (n6 : e ≠ 6) (n7 : e ≠ 7) (n11 : e ≠ 11) (n12 : e ≠ 12) (n13 : e ≠ 13) (n14 : e ≠ 14) (n17 : e ≠ 17) (n32 : e ≠ 32) (n34 : e ≠ 34) (n40 : e ≠ 40) (n42 : e ≠ 42) (b3 : e ≠ 8) (b4 : e ≠ 16) (b5 : e ≠ 18) (b6 : e ≠ 19) (b7 : e ≠ 22) (b8 : e ≠ 24) (b9 : e ≠ 26) (b10 : e ≠ 37) (b11 : e ≠ 38) (c1 : Ans (d + 8) 400 [.ref 61, .int (nI e), .int (nI 0)] (wA 95 (cl - 1) (nI (e95 + 1)) S) (some (.int (nI 1))) S1) : Bod (d + 8) 350 0 [(0, .ref 61)] [] S (some (.int 1)) (S1) := by
  refine Bod.go dc_350_0 rfl ?_
  refine Bod.get dc_350_1 fr_350_502 (mk_61 _) rfl ?_
  refine Bod.eqI (nI cl) (by first | assumption | rfl | exact congrArg nI (by omega) | (simp (disch := omega) only [rI, rIe, rA, rIA, rLA, rJA, rVI, rQI, rVA, rQA, upd_at,  rAI, rLI, rJI, nI_add, pk_sub, kc_0, kc_1, kc_2, kc_3, kc_4, kc_5, reduceIte, Nat.reduceEqDiff, Nat.add_zero, rI_hold, rI_hold, rL_hold, hcl]; done)) ?_
  refine Bod.ic 1 (by decide) dc_350_4 ?_
  refine Bod.subN (cl - 1) (by omega) (by omega) dc_350_5 ?_
  refine Bod.istn dc_350_6 (by rw [ml_350]; exact Nat.le_of_ble_eq_true rfl) ?_
  refine Bod.go dc_350_7 rfl ?_
  refine Bod.get dc_350_8 fr_350_572 (mk_61 _) rfl ?_
  refine Bod.go dc_350_11 rfl ?_
  refine Bod.ialdN (cl - 1) rfl (by omega) (by omega) dc_350_12 (mk_95 _) ?_
  refine Bod.eqI (nI e95) (by first | assumption | rfl | exact congrArg nI (by omega) | (simp (disch := omega) only [rI, rIe, rA, rIA, rLA, rJA, rVI, rQI, rVA, rQA, upd_at,  rAI, rLI, rJI, nI_add, pk_sub, kc_0, kc_1, kc_2, kc_3, kc_4, kc_5, reduceIte, Nat.reduceEqDiff, Nat.add_zero, rI_hold, rI_hold, rL_hold, hcl, he95]; done)) ?_
  refine Bod.istn dc_350_13 (by rw [ml_350]; exact Nat.le_of_ble_eq_true rfl) ?_
  refine Bod.go dc_350_14 rfl ?_
  refine Bod.get dc_350_15 fr_350_568 (mk_61 _) rfl ?_
  refine Bod.go dc_350_18 rfl ?_
  refine Bod.aaldR (N := 31) (b := m) (cl - 1) rfl (by omega) (by omega) hq2 dc_350_19 (mk_94 _) ht_6 ?_
  refine Bod.get dc_350_20 fr_350_222 (mk_code am (by first | exact hz1 | (simp only [rIS, rJS, rAS, rLS, rVS, rQS, rS_hold]; exact hz1))) rfl ?_
  refine Bod.eqV (.ref r) (by first | exact hv1 | (simp only [rIV, rJV, rAV, rLV, rQV, rV, reduceIte, Nat.reduceEqDiff]; exact hv1)) ?_
  refine Bod.astn dc_350_23 (by rw [ml_350]; exact Nat.le_of_ble_eq_true rfl) ?_
  refine Bod.go dc_350_24 rfl ?_
  refine Bod.go dc_350_25 rfl ?_
  refine Bod.ialdN (N := N) e95 rfl (by omega) (by omega) dc_350_26 (mk_isI (by first | exact hg1 | exact isK_S (by simp only [rIS, rJS, rAS, rLS, rVS, rQS, rS_hold]) hg1)) ?_
  refine Bod.eqI (nI e) (by first | assumption | rfl | exact congrArg nI (by omega) | (simp (disch := omega) only [rI, rIe, rA, rIA, rLA, rJA, rVI, rQI, rVA, rQA, upd_at,  rAI, rLI, rJI, nI_add, pk_sub, kc_0, kc_1, kc_2, kc_3, kc_4, kc_5, reduceIte, Nat.reduceEqDiff, Nat.add_zero, rI_hold, rI_hold, rL_hold, hcl, he95, he]; done)) ?_
  refine Bod.ist dc_350_27 (by rw [ml_350]; exact Nat.le_of_ble_eq_true rfl) ?_
  refine Bod.go dc_350_29 rfl ?_
  refine Bod.sw (t := 766) dc_350_31 rfl rfl (((((((((((((((((((xsw_350_31 e b64).resolve_left n0).resolve_left n1).resolve_left n2).resolve_left n3).resolve_left n4).resolve_left n5).resolve_left n6).resolve_left n7).resolve_left n11).resolve_left n12).resolve_left n13).resolve_left n14).resolve_left n17).resolve_left n32).resolve_left n34).resolve_left n40).resolve_left n42)) ?_
  refine Bod.go dc_350_766 rfl ?_
  refine Bod.bip 8 (by decide) dc_350_768 ?_
  refine Bod.icF dc_350_770 rfl (k2_eq_F (k_ne e 8 rfl rfl (by omega) (by omega) (by omega))) ?_
  refine Bod.go dc_350_773 rfl ?_
  refine Bod.bip 16 (by decide) dc_350_775 ?_
  refine Bod.icF dc_350_777 rfl (k2_eq_F (k_ne e 16 rfl rfl (by omega) (by omega) (by omega))) ?_
  refine Bod.go dc_350_780 rfl ?_
  refine Bod.bip 18 (by decide) dc_350_782 ?_
  refine Bod.icF dc_350_784 rfl (k2_eq_F (k_ne e 18 rfl rfl (by omega) (by omega) (by omega))) ?_
  refine Bod.go dc_350_787 rfl ?_
  refine Bod.bip 19 (by decide) dc_350_789 ?_
  refine Bod.icF dc_350_791 rfl (k2_eq_F (k_ne e 19 rfl rfl (by omega) (by omega) (by omega))) ?_
  refine Bod.go dc_350_794 rfl ?_
  refine Bod.bip 22 (by decide) dc_350_796 ?_
  refine Bod.icF dc_350_798 rfl (k2_eq_F (k_ne e 22 rfl rfl (by omega) (by omega) (by omega))) ?_
  refine Bod.go dc_350_801 rfl ?_
  refine Bod.bip 24 (by decide) dc_350_803 ?_
  refine Bod.icF dc_350_805 rfl (k2_eq_F (k_ne e 24 rfl rfl (by omega) (by omega) (by omega))) ?_
  refine Bod.go dc_350_808 rfl ?_
  refine Bod.bip 26 (by decide) dc_350_810 ?_
  refine Bod.icF dc_350_812 rfl (k2_eq_F (k_ne e 26 rfl rfl (by omega) (by omega) (by omega))) ?_
  refine Bod.go dc_350_815 rfl ?_
  refine Bod.bip 37 (by decide) dc_350_817 ?_
  refine Bod.icF dc_350_819 rfl (k2_eq_F (k_ne e 37 rfl rfl (by omega) (by omega) (by omega))) ?_
  refine Bod.go dc_350_822 rfl ?_
  refine Bod.bip 38 (by decide) dc_350_824 ?_
  refine Bod.icT dc_350_826 rfl (k2_ne_T (k_ne e 38 rfl rfl (by omega) (by omega) (by omega))) ?_
  refine Bod.ic 0 (by decide) dc_350_833 ?_
  refine Bod.ist dc_350_834 (by rw [ml_350]; exact Nat.le_of_ble_eq_true rfl) ?_
  refine Bod.go dc_350_836 rfl ?_
  refine Bod.get dc_350_837 fr_350_572 (mk_61 _) rfl ?_
  refine Bod.go dc_350_840 rfl ?_
  refine Bod.go dc_350_841 rfl ?_
  refine Bod.ifT dc_350_843 rfl (k1_eq_T (k_eq 0 0 rfl rfl (by omega))) ?_
  refine Bod.go dc_350_852 rfl ?_
  refine Bod.ic 1 (by decide) dc_350_853 ?_
  refine Bod.addN (e95 + 1) (by omega) dc_350_854 ?_
  refine Bod.iastN (cl - 1) rfl (by omega) (by omega) dc_350_855 (mk_95 _) (sa_95 _ _ _) (mu_A _ _ _ _) ?_
  refine Bod.go dc_350_856 rfl ?_
  refine Bod.go dc_350_857 rfl ?_
  refine Bod.go dc_350_859 rfl ?_
  refine Bod.ifT dc_350_861 rfl (k1_eq_T (k_eq 0 0 rfl rfl (by omega))) ?_
  refine Bod.ic 0 (by decide) dc_350_872 ?_
  refine Bod.virt (r := []) dc_350_873 kr_350_637 ⟨Or.inl rfl, ow_400, cl_14⟩ (by rw [np_400]; rfl) (by rw [np_400]; rfl) (ob_of (mk_61 _)) (Nat.le_of_ble_eq_true rfl) (c1  ) ?_
  show Bod _ _ _ _ [_] _ _ _
  exact Bod.retZ dc_350_876 rt_350 (Or.inr rfl)
theorem rOn_51 {d : Nat} {S : cS} {cl : Nat} {e95 : Nat} {m : Nat} {zm : Nat} {r : Nat} {N : Nat} {e : Nat} {S1 : cS} (hcl : sI S 6159 = nI cl) (mcl : cl < 32) (b1 : 1 ≤ cl) (he95 : sA S 95 (cl - 1) = nI e95) (me95 : e95 < 2 ^ 20) (am : 108 ≤ m) (hq2 : sQ S 94 (cl - 1) = some m) (hz1 : (sS S)[m - 108]? = some (12, zm)) (hv1 : sV S (100 * m + 0) = .ref r) (hg1 : isK S r 0 N) (mN : N < 2 ^ 20) (b2 : e95 < N) (he : sA S r e95 = nI e) (me : e < 2 ^ 20) (b64 : e < 64) (n0 : e ≠ 0) (n1 : e ≠ 1) (n2 : e ≠ 2) (n3 : e ≠ 3) (n4 : e ≠ 4) (n5 : e ≠ 5) (n6 : e ≠ 6) (n7 : e ≠ 7) (n11 : e ≠ 11) (n12 : e ≠ 12) (n13 : e ≠ 13) (n14 : e ≠ 14) (n17 : e ≠ 17) (n32 : e ≠ 32) (n34 : e ≠ 34) (n40 : e ≠ 40) (n42 : e ≠ 42) (b3 : e ≠ 8) (b4 : e ≠ 16) (b5 : e ≠ 18) (b6 : e ≠ 19) (b7 : e ≠ 22) (b8 : e ≠ 24) (b9 : e ≠ 26) (b10 : e ≠ 37) (b11 : e ≠ 38) (c1 : Ans (d + 8) 400 [.ref 61, .int (nI e), .int (nI 0)] (wA 95 (cl - 1) (nI (e95 + 1)) S) (some (.int (nI 0))) S1) : Bod (d + 8) 350 0 [(0, .ref 61)] [] S (some (.int 0)) (S1) := by
  refine Bod.go dc_350_0 rfl ?_
  refine Bod.get dc_350_1 fr_350_502 (mk_61 _) rfl ?_
  refine Bod.eqI (nI cl) (by first | assumption | rfl | exact congrArg nI (by omega) | (simp (disch := omega) only [rI, rIe, rA, rIA, rLA, rJA, rVI, rQI, rVA, rQA, upd_at,  rAI, rLI, rJI, nI_add, pk_sub, kc_0, kc_1, kc_2, kc_3, kc_4, kc_5, reduceIte, Nat.reduceEqDiff, Nat.add_zero, rI_hold, rI_hold, rL_hold, hcl]; done)) ?_
  refine Bod.ic 1 (by decide) dc_350_4 ?_
  refine Bod.subN (cl - 1) (by omega) (by omega) dc_350_5 ?_
  refine Bod.istn dc_350_6 (by rw [ml_350]; exact Nat.le_of_ble_eq_true rfl) ?_
  refine Bod.go dc_350_7 rfl ?_
  refine Bod.get dc_350_8 fr_350_572 (mk_61 _) rfl ?_
  refine Bod.go dc_350_11 rfl ?_
  refine Bod.ialdN (cl - 1) rfl (by omega) (by omega) dc_350_12 (mk_95 _) ?_
  refine Bod.eqI (nI e95) (by first | assumption | rfl | exact congrArg nI (by omega) | (simp (disch := omega) only [rI, rIe, rA, rIA, rLA, rJA, rVI, rQI, rVA, rQA, upd_at,  rAI, rLI, rJI, nI_add, pk_sub, kc_0, kc_1, kc_2, kc_3, kc_4, kc_5, reduceIte, Nat.reduceEqDiff, Nat.add_zero, rI_hold, rI_hold, rL_hold, hcl, he95]; done)) ?_
  refine Bod.istn dc_350_13 (by rw [ml_350]; exact Nat.le_of_ble_eq_true rfl) ?_
  refine Bod.go dc_350_14 rfl ?_
  refine Bod.get dc_350_15 fr_350_568 (mk_61 _) rfl ?_
  refine Bod.go dc_350_18 rfl ?_
  refine Bod.aaldR (N := 31) (b := m) (cl - 1) rfl (by omega) (by omega) hq2 dc_350_19 (mk_94 _) ht_6 ?_
  refine Bod.get dc_350_20 fr_350_222 (mk_code am (by first | exact hz1 | (simp only [rIS, rJS, rAS, rLS, rVS, rQS, rS_hold]; exact hz1))) rfl ?_
  refine Bod.eqV (.ref r) (by first | exact hv1 | (simp only [rIV, rJV, rAV, rLV, rQV, rV, reduceIte, Nat.reduceEqDiff]; exact hv1)) ?_
  refine Bod.astn dc_350_23 (by rw [ml_350]; exact Nat.le_of_ble_eq_true rfl) ?_
  refine Bod.go dc_350_24 rfl ?_
  refine Bod.go dc_350_25 rfl ?_
  refine Bod.ialdN (N := N) e95 rfl (by omega) (by omega) dc_350_26 (mk_isI (by first | exact hg1 | exact isK_S (by simp only [rIS, rJS, rAS, rLS, rVS, rQS, rS_hold]) hg1)) ?_
  refine Bod.eqI (nI e) (by first | assumption | rfl | exact congrArg nI (by omega) | (simp (disch := omega) only [rI, rIe, rA, rIA, rLA, rJA, rVI, rQI, rVA, rQA, upd_at,  rAI, rLI, rJI, nI_add, pk_sub, kc_0, kc_1, kc_2, kc_3, kc_4, kc_5, reduceIte, Nat.reduceEqDiff, Nat.add_zero, rI_hold, rI_hold, rL_hold, hcl, he95, he]; done)) ?_
  refine Bod.ist dc_350_27 (by rw [ml_350]; exact Nat.le_of_ble_eq_true rfl) ?_
  refine Bod.go dc_350_29 rfl ?_
  refine Bod.sw (t := 766) dc_350_31 rfl rfl (((((((((((((((((((xsw_350_31 e b64).resolve_left n0).resolve_left n1).resolve_left n2).resolve_left n3).resolve_left n4).resolve_left n5).resolve_left n6).resolve_left n7).resolve_left n11).resolve_left n12).resolve_left n13).resolve_left n14).resolve_left n17).resolve_left n32).resolve_left n34).resolve_left n40).resolve_left n42)) ?_
  refine Bod.go dc_350_766 rfl ?_
  refine Bod.bip 8 (by decide) dc_350_768 ?_
  refine Bod.icF dc_350_770 rfl (k2_eq_F (k_ne e 8 rfl rfl (by omega) (by omega) (by omega))) ?_
  refine Bod.go dc_350_773 rfl ?_
  refine Bod.bip 16 (by decide) dc_350_775 ?_
  refine Bod.icF dc_350_777 rfl (k2_eq_F (k_ne e 16 rfl rfl (by omega) (by omega) (by omega))) ?_
  refine Bod.go dc_350_780 rfl ?_
  refine Bod.bip 18 (by decide) dc_350_782 ?_
  refine Bod.icF dc_350_784 rfl (k2_eq_F (k_ne e 18 rfl rfl (by omega) (by omega) (by omega))) ?_
  refine Bod.go dc_350_787 rfl ?_
  refine Bod.bip 19 (by decide) dc_350_789 ?_
  refine Bod.icF dc_350_791 rfl (k2_eq_F (k_ne e 19 rfl rfl (by omega) (by omega) (by omega))) ?_
  refine Bod.go dc_350_794 rfl ?_
  refine Bod.bip 22 (by decide) dc_350_796 ?_
  refine Bod.icF dc_350_798 rfl (k2_eq_F (k_ne e 22 rfl rfl (by omega) (by omega) (by omega))) ?_
  refine Bod.go dc_350_801 rfl ?_
  refine Bod.bip 24 (by decide) dc_350_803 ?_
  refine Bod.icF dc_350_805 rfl (k2_eq_F (k_ne e 24 rfl rfl (by omega) (by omega) (by omega))) ?_
  refine Bod.go dc_350_808 rfl ?_
  refine Bod.bip 26 (by decide) dc_350_810 ?_
  refine Bod.icF dc_350_812 rfl (k2_eq_F (k_ne e 26 rfl rfl (by omega) (by omega) (by omega))) ?_
  refine Bod.go dc_350_815 rfl ?_
  refine Bod.bip 37 (by decide) dc_350_817 ?_
  refine Bod.icF dc_350_819 rfl (k2_eq_F (k_ne e 37 rfl rfl (by omega) (by omega) (by omega))) ?_
  refine Bod.go dc_350_822 rfl ?_
  refine Bod.bip 38 (by decide) dc_350_824 ?_
  refine Bod.icT dc_350_826 rfl (k2_ne_T (k_ne e 38 rfl rfl (by omega) (by omega) (by omega))) ?_
  refine Bod.ic 0 (by decide) dc_350_833 ?_
  refine Bod.ist dc_350_834 (by rw [ml_350]; exact Nat.le_of_ble_eq_true rfl) ?_
  refine Bod.go dc_350_836 rfl ?_
  refine Bod.get dc_350_837 fr_350_572 (mk_61 _) rfl ?_
  refine Bod.go dc_350_840 rfl ?_
  refine Bod.go dc_350_841 rfl ?_
  refine Bod.ifT dc_350_843 rfl (k1_eq_T (k_eq 0 0 rfl rfl (by omega))) ?_
  refine Bod.go dc_350_852 rfl ?_
  refine Bod.ic 1 (by decide) dc_350_853 ?_
  refine Bod.addN (e95 + 1) (by omega) dc_350_854 ?_
  refine Bod.iastN (cl - 1) rfl (by omega) (by omega) dc_350_855 (mk_95 _) (sa_95 _ _ _) (mu_A _ _ _ _) ?_
  refine Bod.go dc_350_856 rfl ?_
  refine Bod.go dc_350_857 rfl ?_
  refine Bod.go dc_350_859 rfl ?_
  refine Bod.ifT dc_350_861 rfl (k1_eq_T (k_eq 0 0 rfl rfl (by omega))) ?_
  refine Bod.ic 0 (by decide) dc_350_872 ?_
  refine Bod.virt (r := []) dc_350_873 kr_350_637 ⟨Or.inl rfl, ow_400, cl_14⟩ (by rw [np_400]; rfl) (by rw [np_400]; rfl) (ob_of (mk_61 _)) (Nat.le_of_ble_eq_true rfl) (c1  ) ?_
  show Bod _ _ _ _ [_] _ _ _
  exact Bod.retZ dc_350_876 rt_350 (Or.inl rfl)
theorem rOn_52 {d : Nat} {S : cS} {cl : Nat} {e95 : Nat} {m : Nat} {zm : Nat} {r : Nat} {N : Nat} {e : Nat} {e1 : Nat} {S1 : cS} (hcl : sI S 6159 = nI cl) (mcl : cl < 32) (b1 : 1 ≤ cl) (he95 : sA S 95 (cl - 1) = nI e95) (me95 : e95 < 2 ^ 20) (am : 108 ≤ m) (hq2 : sQ S 94 (cl - 1) = some m) (hz1 : (sS S)[m - 108]? = some (12, zm)) (hv1 : sV S (100 * m + 0) = .ref r) (hg1 : isK S r 0 N) (mN : N < 2 ^ 20) (b2 : e95 < N) (he : sA S r e95 = nI e) (me : e < 2 ^ 20) (b64 : e < 64) (n0 : e ≠ 0) (n1 : e ≠ 1) (n2 : e ≠ 2) (n3 : e ≠ 3) (n4 : e ≠ 4) (n5 : e ≠ 5) (n6 : e ≠ 6) (n7 : e ≠ 7) (n11 : e ≠ 11) (n12 : e ≠ 12) (n13 : e ≠ 13) (n14 : e ≠ 14) (n17 : e ≠ 17) (n32 : e ≠ 32) (n34 : e ≠ 34) (n40 : e ≠ 40) (n42 : e ≠ 42) (b3 : e ≠ 8) (b4 : e ≠ 16) (b5 : e ≠ 18) (b6 : e ≠ 19) (b7 : e ≠ 22) (b8 : e ≠ 24) (b9 : e ≠ 26) (b10 : e ≠ 37) (b11 : e = 38) (b12 : (e95 + 1) < N) (he1 : sA (wA 95 (cl - 1) (nI (e95 + 2)) S) r (e95 + 1) = nI e1) (me1 : e1 < 2 ^ 20) (c1 : Ans (d + 8) 400 [.ref 61, .int (nI e), .int (nI e1)] (wA 95 (cl - 1) (nI (e95 + 2)) S) (some (.int (nI 1))) S1) : Bod (d + 8) 350 0 [(0, .ref 61)] [] S (some (.int 1)) (S1) := by
  refine Bod.go dc_350_0 rfl ?_
  refine Bod.get dc_350_1 fr_350_502 (mk_61 _) rfl ?_
  refine Bod.eqI (nI cl) (by first | assumption | rfl | exact congrArg nI (by omega) | (simp (disch := omega) only [rI, rIe, rA, rIA, rLA, rJA, rVI, rQI, rVA, rQA, upd_at,  rAI, rLI, rJI, nI_add, pk_sub, kc_0, kc_1, kc_2, kc_3, kc_4, kc_5, reduceIte, Nat.reduceEqDiff, Nat.add_zero, rI_hold, rI_hold, rL_hold, hcl]; done)) ?_
  refine Bod.ic 1 (by decide) dc_350_4 ?_
  refine Bod.subN (cl - 1) (by omega) (by omega) dc_350_5 ?_
  refine Bod.istn dc_350_6 (by rw [ml_350]; exact Nat.le_of_ble_eq_true rfl) ?_
  refine Bod.go dc_350_7 rfl ?_
  refine Bod.get dc_350_8 fr_350_572 (mk_61 _) rfl ?_
  refine Bod.go dc_350_11 rfl ?_
  refine Bod.ialdN (cl - 1) rfl (by omega) (by omega) dc_350_12 (mk_95 _) ?_
  refine Bod.eqI (nI e95) (by first | assumption | rfl | exact congrArg nI (by omega) | (simp (disch := omega) only [rI, rIe, rA, rIA, rLA, rJA, rVI, rQI, rVA, rQA, upd_at,  rAI, rLI, rJI, nI_add, pk_sub, kc_0, kc_1, kc_2, kc_3, kc_4, kc_5, reduceIte, Nat.reduceEqDiff, Nat.add_zero, rI_hold, rI_hold, rL_hold, hcl, he95]; done)) ?_
  refine Bod.istn dc_350_13 (by rw [ml_350]; exact Nat.le_of_ble_eq_true rfl) ?_
  refine Bod.go dc_350_14 rfl ?_
  refine Bod.get dc_350_15 fr_350_568 (mk_61 _) rfl ?_
  refine Bod.go dc_350_18 rfl ?_
  refine Bod.aaldR (N := 31) (b := m) (cl - 1) rfl (by omega) (by omega) hq2 dc_350_19 (mk_94 _) ht_6 ?_
  refine Bod.get dc_350_20 fr_350_222 (mk_code am (by first | exact hz1 | (simp only [rIS, rJS, rAS, rLS, rVS, rQS, rS_hold]; exact hz1))) rfl ?_
  refine Bod.eqV (.ref r) (by first | exact hv1 | (simp only [rIV, rJV, rAV, rLV, rQV, rV, reduceIte, Nat.reduceEqDiff]; exact hv1)) ?_
  refine Bod.astn dc_350_23 (by rw [ml_350]; exact Nat.le_of_ble_eq_true rfl) ?_
  refine Bod.go dc_350_24 rfl ?_
  refine Bod.go dc_350_25 rfl ?_
  refine Bod.ialdN (N := N) e95 rfl (by omega) (by omega) dc_350_26 (mk_isI (by first | exact hg1 | exact isK_S (by simp only [rIS, rJS, rAS, rLS, rVS, rQS, rS_hold]) hg1)) ?_
  refine Bod.eqI (nI e) (by first | assumption | rfl | exact congrArg nI (by omega) | (simp (disch := omega) only [rI, rIe, rA, rIA, rLA, rJA, rVI, rQI, rVA, rQA, upd_at,  rAI, rLI, rJI, nI_add, pk_sub, kc_0, kc_1, kc_2, kc_3, kc_4, kc_5, reduceIte, Nat.reduceEqDiff, Nat.add_zero, rI_hold, rI_hold, rL_hold, hcl, he95, he]; done)) ?_
  refine Bod.ist dc_350_27 (by rw [ml_350]; exact Nat.le_of_ble_eq_true rfl) ?_
  refine Bod.go dc_350_29 rfl ?_
  refine Bod.sw (t := 766) dc_350_31 rfl rfl (((((((((((((((((((xsw_350_31 e b64).resolve_left n0).resolve_left n1).resolve_left n2).resolve_left n3).resolve_left n4).resolve_left n5).resolve_left n6).resolve_left n7).resolve_left n11).resolve_left n12).resolve_left n13).resolve_left n14).resolve_left n17).resolve_left n32).resolve_left n34).resolve_left n40).resolve_left n42)) ?_
  refine Bod.go dc_350_766 rfl ?_
  refine Bod.bip 8 (by decide) dc_350_768 ?_
  refine Bod.icF dc_350_770 rfl (k2_eq_F (k_ne e 8 rfl rfl (by omega) (by omega) (by omega))) ?_
  refine Bod.go dc_350_773 rfl ?_
  refine Bod.bip 16 (by decide) dc_350_775 ?_
  refine Bod.icF dc_350_777 rfl (k2_eq_F (k_ne e 16 rfl rfl (by omega) (by omega) (by omega))) ?_
  refine Bod.go dc_350_780 rfl ?_
  refine Bod.bip 18 (by decide) dc_350_782 ?_
  refine Bod.icF dc_350_784 rfl (k2_eq_F (k_ne e 18 rfl rfl (by omega) (by omega) (by omega))) ?_
  refine Bod.go dc_350_787 rfl ?_
  refine Bod.bip 19 (by decide) dc_350_789 ?_
  refine Bod.icF dc_350_791 rfl (k2_eq_F (k_ne e 19 rfl rfl (by omega) (by omega) (by omega))) ?_
  refine Bod.go dc_350_794 rfl ?_
  refine Bod.bip 22 (by decide) dc_350_796 ?_
  refine Bod.icF dc_350_798 rfl (k2_eq_F (k_ne e 22 rfl rfl (by omega) (by omega) (by omega))) ?_
  refine Bod.go dc_350_801 rfl ?_
  refine Bod.bip 24 (by decide) dc_350_803 ?_
  refine Bod.icF dc_350_805 rfl (k2_eq_F (k_ne e 24 rfl rfl (by omega) (by omega) (by omega))) ?_
  refine Bod.go dc_350_808 rfl ?_
  refine Bod.bip 26 (by decide) dc_350_810 ?_
  refine Bod.icF dc_350_812 rfl (k2_eq_F (k_ne e 26 rfl rfl (by omega) (by omega) (by omega))) ?_
  refine Bod.go dc_350_815 rfl ?_
  refine Bod.bip 37 (by decide) dc_350_817 ?_
  refine Bod.icF dc_350_819 rfl (k2_eq_F (k_ne e 37 rfl rfl (by omega) (by omega) (by omega))) ?_
  refine Bod.go dc_350_822 rfl ?_
  refine Bod.bip 38 (by decide) dc_350_824 ?_
  refine Bod.icF dc_350_826 rfl (k2_ne_F (k_eq e 38 rfl rfl (by omega))) ?_
  refine Bod.ic 1 (by decide) dc_350_829 ?_
  refine Bod.go dc_350_830 rfl ?_
  refine Bod.ist dc_350_834 (by rw [ml_350]; exact Nat.le_of_ble_eq_true rfl) ?_
  refine Bod.go dc_350_836 rfl ?_
  refine Bod.get dc_350_837 fr_350_572 (mk_61 _) rfl ?_
  refine Bod.go dc_350_840 rfl ?_
  refine Bod.go dc_350_841 rfl ?_
  refine Bod.ifF dc_350_843 rfl (k1_eq_F (k_ne 1 0 rfl rfl (by omega) (by omega) (by omega))) ?_
  refine Bod.go dc_350_846 rfl ?_
  refine Bod.ic 2 (by decide) dc_350_847 ?_
  refine Bod.addN (e95 + 2) (by omega) dc_350_848 ?_
  refine Bod.go dc_350_849 rfl ?_
  refine Bod.iastN (cl - 1) rfl (by omega) (by omega) dc_350_855 (mk_95 _) (sa_95 _ _ _) (mu_A _ _ _ _) ?_
  refine Bod.go dc_350_856 rfl ?_
  refine Bod.go dc_350_857 rfl ?_
  refine Bod.go dc_350_859 rfl ?_
  refine Bod.ifF dc_350_861 rfl (k1_eq_F (k_ne 1 0 rfl rfl (by omega) (by omega) (by omega))) ?_
  refine Bod.go dc_350_864 rfl ?_
  refine Bod.go dc_350_865 rfl ?_
  refine Bod.ic 1 (by decide) dc_350_866 ?_
  refine Bod.addN (e95 + 1) (by omega) dc_350_867 ?_
  refine Bod.ialdN (N := N) (e95 + 1) rfl (by omega) (by omega) dc_350_868 (mk_isI (by first | exact hg1 | exact isK_S (by simp only [rIS, rJS, rAS, rLS, rVS, rQS, rS_hold]) hg1)) ?_
  refine Bod.eqI (nI e1) (by first | assumption | (simp (disch := omega) only [rI, rIe, rA, rIA, rLA, rJA, rVI, rQI, rVA, rQA, upd_at,  rAI, rLI, rJI, nI_add, pk_sub, kc_0, kc_1, kc_2, kc_3, kc_4, kc_5, reduceIte, Nat.reduceEqDiff, Nat.add_zero, rI_hold, rI_hold, rL_hold, hcl, he95, he, he1]; done) | (simp (disch := omega) only [rI, rIe, rA, rIA, rLA, rJA, rVI, rQI, rVA, rQA, upd_at,  rAI, rLI, rJI, nI_add, pk_sub, kc_0, kc_1, kc_2, kc_3, kc_4, kc_5, reduceIte, Nat.reduceEqDiff, Nat.add_zero, rI_hold, rI_hold, rL_hold, hcl, he95, he, he1]; exact congrArg nI (by omega))) ?_
  refine Bod.go dc_350_869 rfl ?_
  refine Bod.virt (r := []) dc_350_873 kr_350_637 ⟨Or.inl rfl, ow_400, cl_14⟩ (by rw [np_400]; rfl) (by rw [np_400]; rfl) (ob_of (mk_61 _)) (Nat.le_of_ble_eq_true rfl) (c1  ) ?_
  show Bod _ _ _ _ [_] _ _ _
  exact Bod.retZ dc_350_876 rt_350 (Or.inr rfl)
theorem rOn_53 {d : Nat} {S : cS} {cl : Nat} {e95 : Nat} {m : Nat} {zm : Nat} {r : Nat} {N : Nat} {e : Nat} {e1 : Nat} {S1 : cS} (hcl : sI S 6159 = nI cl) (mcl : cl < 32) (b1 : 1 ≤ cl) (he95 : sA S 95 (cl - 1) = nI e95) (me95 : e95 < 2 ^ 20) (am : 108 ≤ m) (hq2 : sQ S 94 (cl - 1) = some m) (hz1 : (sS S)[m - 108]? = some (12, zm)) (hv1 : sV S (100 * m + 0) = .ref r) (hg1 : isK S r 0 N) (mN : N < 2 ^ 20) (b2 : e95 < N) (he : sA S r e95 = nI e) (me : e < 2 ^ 20) (b64 : e < 64) (n0 : e ≠ 0) (n1 : e ≠ 1) (n2 : e ≠ 2) (n3 : e ≠ 3) (n4 : e ≠ 4) (n5 : e ≠ 5) (n6 : e ≠ 6) (n7 : e ≠ 7) (n11 : e ≠ 11) (n12 : e ≠ 12) (n13 : e ≠ 13) (n14 : e ≠ 14) (n17 : e ≠ 17) (n32 : e ≠ 32) (n34 : e ≠ 34) (n40 : e ≠ 40) (n42 : e ≠ 42) (b3 : e ≠ 8) (b4 : e ≠ 16) (b5 : e ≠ 18) (b6 : e ≠ 19) (b7 : e ≠ 22) (b8 : e ≠ 24) (b9 : e ≠ 26) (b10 : e ≠ 37) (b11 : e = 38) (b12 : (e95 + 1) < N) (he1 : sA (wA 95 (cl - 1) (nI (e95 + 2)) S) r (e95 + 1) = nI e1) (me1 : e1 < 2 ^ 20) (c1 : Ans (d + 8) 400 [.ref 61, .int (nI e), .int (nI e1)] (wA 95 (cl - 1) (nI (e95 + 2)) S) (some (.int (nI 0))) S1) : Bod (d + 8) 350 0 [(0, .ref 61)] [] S (some (.int 0)) (S1) := by
  refine Bod.go dc_350_0 rfl ?_
  refine Bod.get dc_350_1 fr_350_502 (mk_61 _) rfl ?_
  refine Bod.eqI (nI cl) (by first | assumption | rfl | exact congrArg nI (by omega) | (simp (disch := omega) only [rI, rIe, rA, rIA, rLA, rJA, rVI, rQI, rVA, rQA, upd_at,  rAI, rLI, rJI, nI_add, pk_sub, kc_0, kc_1, kc_2, kc_3, kc_4, kc_5, reduceIte, Nat.reduceEqDiff, Nat.add_zero, rI_hold, rI_hold, rL_hold, hcl]; done)) ?_
  refine Bod.ic 1 (by decide) dc_350_4 ?_
  refine Bod.subN (cl - 1) (by omega) (by omega) dc_350_5 ?_
  refine Bod.istn dc_350_6 (by rw [ml_350]; exact Nat.le_of_ble_eq_true rfl) ?_
  refine Bod.go dc_350_7 rfl ?_
  refine Bod.get dc_350_8 fr_350_572 (mk_61 _) rfl ?_
  refine Bod.go dc_350_11 rfl ?_
  refine Bod.ialdN (cl - 1) rfl (by omega) (by omega) dc_350_12 (mk_95 _) ?_
  refine Bod.eqI (nI e95) (by first | assumption | rfl | exact congrArg nI (by omega) | (simp (disch := omega) only [rI, rIe, rA, rIA, rLA, rJA, rVI, rQI, rVA, rQA, upd_at,  rAI, rLI, rJI, nI_add, pk_sub, kc_0, kc_1, kc_2, kc_3, kc_4, kc_5, reduceIte, Nat.reduceEqDiff, Nat.add_zero, rI_hold, rI_hold, rL_hold, hcl, he95]; done)) ?_
  refine Bod.istn dc_350_13 (by rw [ml_350]; exact Nat.le_of_ble_eq_true rfl) ?_
  refine Bod.go dc_350_14 rfl ?_
  refine Bod.get dc_350_15 fr_350_568 (mk_61 _) rfl ?_
  refine Bod.go dc_350_18 rfl ?_
  refine Bod.aaldR (N := 31) (b := m) (cl - 1) rfl (by omega) (by omega) hq2 dc_350_19 (mk_94 _) ht_6 ?_
  refine Bod.get dc_350_20 fr_350_222 (mk_code am (by first | exact hz1 | (simp only [rIS, rJS, rAS, rLS, rVS, rQS, rS_hold]; exact hz1))) rfl ?_
  refine Bod.eqV (.ref r) (by first | exact hv1 | (simp only [rIV, rJV, rAV, rLV, rQV, rV, reduceIte, Nat.reduceEqDiff]; exact hv1)) ?_
  refine Bod.astn dc_350_23 (by rw [ml_350]; exact Nat.le_of_ble_eq_true rfl) ?_
  refine Bod.go dc_350_24 rfl ?_
  refine Bod.go dc_350_25 rfl ?_
  refine Bod.ialdN (N := N) e95 rfl (by omega) (by omega) dc_350_26 (mk_isI (by first | exact hg1 | exact isK_S (by simp only [rIS, rJS, rAS, rLS, rVS, rQS, rS_hold]) hg1)) ?_
  refine Bod.eqI (nI e) (by first | assumption | rfl | exact congrArg nI (by omega) | (simp (disch := omega) only [rI, rIe, rA, rIA, rLA, rJA, rVI, rQI, rVA, rQA, upd_at,  rAI, rLI, rJI, nI_add, pk_sub, kc_0, kc_1, kc_2, kc_3, kc_4, kc_5, reduceIte, Nat.reduceEqDiff, Nat.add_zero, rI_hold, rI_hold, rL_hold, hcl, he95, he]; done)) ?_
  refine Bod.ist dc_350_27 (by rw [ml_350]; exact Nat.le_of_ble_eq_true rfl) ?_
  refine Bod.go dc_350_29 rfl ?_
  refine Bod.sw (t := 766) dc_350_31 rfl rfl (((((((((((((((((((xsw_350_31 e b64).resolve_left n0).resolve_left n1).resolve_left n2).resolve_left n3).resolve_left n4).resolve_left n5).resolve_left n6).resolve_left n7).resolve_left n11).resolve_left n12).resolve_left n13).resolve_left n14).resolve_left n17).resolve_left n32).resolve_left n34).resolve_left n40).resolve_left n42)) ?_
  refine Bod.go dc_350_766 rfl ?_
  refine Bod.bip 8 (by decide) dc_350_768 ?_
  refine Bod.icF dc_350_770 rfl (k2_eq_F (k_ne e 8 rfl rfl (by omega) (by omega) (by omega))) ?_
  refine Bod.go dc_350_773 rfl ?_
  refine Bod.bip 16 (by decide) dc_350_775 ?_
  refine Bod.icF dc_350_777 rfl (k2_eq_F (k_ne e 16 rfl rfl (by omega) (by omega) (by omega))) ?_
  refine Bod.go dc_350_780 rfl ?_
  refine Bod.bip 18 (by decide) dc_350_782 ?_
  refine Bod.icF dc_350_784 rfl (k2_eq_F (k_ne e 18 rfl rfl (by omega) (by omega) (by omega))) ?_
  refine Bod.go dc_350_787 rfl ?_
  refine Bod.bip 19 (by decide) dc_350_789 ?_
  refine Bod.icF dc_350_791 rfl (k2_eq_F (k_ne e 19 rfl rfl (by omega) (by omega) (by omega))) ?_
  refine Bod.go dc_350_794 rfl ?_
  refine Bod.bip 22 (by decide) dc_350_796 ?_
  refine Bod.icF dc_350_798 rfl (k2_eq_F (k_ne e 22 rfl rfl (by omega) (by omega) (by omega))) ?_
  refine Bod.go dc_350_801 rfl ?_
  refine Bod.bip 24 (by decide) dc_350_803 ?_
  refine Bod.icF dc_350_805 rfl (k2_eq_F (k_ne e 24 rfl rfl (by omega) (by omega) (by omega))) ?_
  refine Bod.go dc_350_808 rfl ?_
  refine Bod.bip 26 (by decide) dc_350_810 ?_
  refine Bod.icF dc_350_812 rfl (k2_eq_F (k_ne e 26 rfl rfl (by omega) (by omega) (by omega))) ?_
  refine Bod.go dc_350_815 rfl ?_
  refine Bod.bip 37 (by decide) dc_350_817 ?_
  refine Bod.icF dc_350_819 rfl (k2_eq_F (k_ne e 37 rfl rfl (by omega) (by omega) (by omega))) ?_
  refine Bod.go dc_350_822 rfl ?_
  refine Bod.bip 38 (by decide) dc_350_824 ?_
  refine Bod.icF dc_350_826 rfl (k2_ne_F (k_eq e 38 rfl rfl (by omega))) ?_
  refine Bod.ic 1 (by decide) dc_350_829 ?_
  refine Bod.go dc_350_830 rfl ?_
  refine Bod.ist dc_350_834 (by rw [ml_350]; exact Nat.le_of_ble_eq_true rfl) ?_
  refine Bod.go dc_350_836 rfl ?_
  refine Bod.get dc_350_837 fr_350_572 (mk_61 _) rfl ?_
  refine Bod.go dc_350_840 rfl ?_
  refine Bod.go dc_350_841 rfl ?_
  refine Bod.ifF dc_350_843 rfl (k1_eq_F (k_ne 1 0 rfl rfl (by omega) (by omega) (by omega))) ?_
  refine Bod.go dc_350_846 rfl ?_
  refine Bod.ic 2 (by decide) dc_350_847 ?_
  refine Bod.addN (e95 + 2) (by omega) dc_350_848 ?_
  refine Bod.go dc_350_849 rfl ?_
  refine Bod.iastN (cl - 1) rfl (by omega) (by omega) dc_350_855 (mk_95 _) (sa_95 _ _ _) (mu_A _ _ _ _) ?_
  refine Bod.go dc_350_856 rfl ?_
  refine Bod.go dc_350_857 rfl ?_
  refine Bod.go dc_350_859 rfl ?_
  refine Bod.ifF dc_350_861 rfl (k1_eq_F (k_ne 1 0 rfl rfl (by omega) (by omega) (by omega))) ?_
  refine Bod.go dc_350_864 rfl ?_
  refine Bod.go dc_350_865 rfl ?_
  refine Bod.ic 1 (by decide) dc_350_866 ?_
  refine Bod.addN (e95 + 1) (by omega) dc_350_867 ?_
  refine Bod.ialdN (N := N) (e95 + 1) rfl (by omega) (by omega) dc_350_868 (mk_isI (by first | exact hg1 | exact isK_S (by simp only [rIS, rJS, rAS, rLS, rVS, rQS, rS_hold]) hg1)) ?_
  refine Bod.eqI (nI e1) (by first | assumption | (simp (disch := omega) only [rI, rIe, rA, rIA, rLA, rJA, rVI, rQI, rVA, rQA, upd_at,  rAI, rLI, rJI, nI_add, pk_sub, kc_0, kc_1, kc_2, kc_3, kc_4, kc_5, reduceIte, Nat.reduceEqDiff, Nat.add_zero, rI_hold, rI_hold, rL_hold, hcl, he95, he, he1]; done) | (simp (disch := omega) only [rI, rIe, rA, rIA, rLA, rJA, rVI, rQI, rVA, rQA, upd_at,  rAI, rLI, rJI, nI_add, pk_sub, kc_0, kc_1, kc_2, kc_3, kc_4, kc_5, reduceIte, Nat.reduceEqDiff, Nat.add_zero, rI_hold, rI_hold, rL_hold, hcl, he95, he, he1]; exact congrArg nI (by omega))) ?_
  refine Bod.go dc_350_869 rfl ?_
  refine Bod.virt (r := []) dc_350_873 kr_350_637 ⟨Or.inl rfl, ow_400, cl_14⟩ (by rw [np_400]; rfl) (by rw [np_400]; rfl) (ob_of (mk_61 _)) (Nat.le_of_ble_eq_true rfl) (c1  ) ?_
  show Bod _ _ _ _ [_] _ _ _
  exact Bod.retZ dc_350_876 rt_350 (Or.inl rfl)
theorem rPl_1 {d : Nat} {S : cS} {op : Nat} {x : Nat} {S1 : cS} (mop : op < 2 ^ 20) (mx : x < 2 ^ 20) (sw3 : op = 8) (c1 : Ans (d + 8) 401 [.ref 61, .int (nI x)] S (some (.int (nI 1))) S1) : Bod (d + 8) 400 0 [(0, .ref 61), (1, .int (nI op)), (2, .int (nI x))] [] S (some (.int 1)) (S1) := by
  refine Bod.go dc_400_0 rfl ?_
  refine Bod.sw (t := 140) dc_400_1 rfl rfl (by rw [sw3]; decide +kernel) ?_
  refine Bod.go dc_400_140 rfl ?_
  refine Bod.go dc_400_141 rfl ?_
  refine Bod.virt (r := []) dc_400_142 kr_400_640 ⟨Or.inl rfl, ow_401, cl_14⟩ (by rw [np_401]; rfl) (by rw [np_401]; rfl) (ob_of (mk_61 _)) (Nat.le_of_ble_eq_true rfl) (c1  ) ?_
  show Bod _ _ _ _ [_] _ _ _
  exact Bod.retZ dc_400_145 rt_400 (Or.inr rfl)
theorem rPl_2 {d : Nat} {S : cS} {op : Nat} {x : Nat} {S1 : cS} (mop : op < 2 ^ 20) (mx : x < 2 ^ 20) (sw3 : op = 8) (c1 : Ans (d + 8) 401 [.ref 61, .int (nI x)] S (some (.int (nI 0))) S1) : Bod (d + 8) 400 0 [(0, .ref 61), (1, .int (nI op)), (2, .int (nI x))] [] S (some (.int 0)) (S1) := by
  refine Bod.go dc_400_0 rfl ?_
  refine Bod.sw (t := 140) dc_400_1 rfl rfl (by rw [sw3]; decide +kernel) ?_
  refine Bod.go dc_400_140 rfl ?_
  refine Bod.go dc_400_141 rfl ?_
  refine Bod.virt (r := []) dc_400_142 kr_400_640 ⟨Or.inl rfl, ow_401, cl_14⟩ (by rw [np_401]; rfl) (by rw [np_401]; rfl) (ob_of (mk_61 _)) (Nat.le_of_ble_eq_true rfl) (c1  ) ?_
  show Bod _ _ _ _ [_] _ _ _
  exact Bod.retZ dc_400_145 rt_400 (Or.inl rfl)
theorem rPl_3 {d : Nat} {S : cS} {op : Nat} {x : Nat} {t : Nat} {e91 : Nat} (mop : op < 2 ^ 20) (mx : x < 2 ^ 20) (sw3 : op = 9) (ht : sI S 6151 = nI t) (mt : t < 20481) (b1 : 1 ≤ t) (he91 : sA S 91 (t - 1) = nI e91) (me91 : e91 < 2 ^ 20) (b2 : e91 = 1) (w10 : sm_c1 .ne (lg_cmp (sL S 92 (t - 1)) ((-9223372036854775808))) true false = true) : Bod (d + 8) 400 0 [(0, .ref 61), (1, .int (nI op)), (2, .int (nI x))] [] S (some (.int 1)) (wL 92 (t - 1) (-(sL S 92 (t - 1))) S) := by
  refine Bod.go dc_400_0 rfl ?_
  refine Bod.sw (t := 146) dc_400_1 rfl rfl (by rw [sw3]; decide +kernel) ?_
  refine Bod.go dc_400_146 rfl ?_
  refine Bod.get dc_400_147 fr_400_496 (mk_61 _) rfl ?_
  refine Bod.go dc_400_150 rfl ?_
  refine Bod.get dc_400_151 fr_400_493 (mk_61 _) rfl ?_
  refine Bod.eqI (nI t) (by first | assumption | rfl | exact congrArg nI (by omega) | (simp (disch := omega) only [rI, rIe, rA, rIA, rLA, rJA, rVI, rQI, rVA, rQA, upd_at,  rAI, rLI, rJI, nI_add, pk_sub, kc_0, kc_1, kc_2, kc_3, kc_4, kc_5, reduceIte, Nat.reduceEqDiff, Nat.add_zero, rI_hold, rI_hold, rL_hold, ht]; done)) ?_
  refine Bod.ic 1 (by decide) dc_400_154 ?_
  refine Bod.subN (t - 1) (by omega) (by omega) dc_400_155 ?_
  refine Bod.ialdN (t - 1) rfl (by omega) (by omega) dc_400_156 (mk_91 _) ?_
  refine Bod.eqI (nI e91) (by first | assumption | rfl | exact congrArg nI (by omega) | (simp (disch := omega) only [rI, rIe, rA, rIA, rLA, rJA, rVI, rQI, rVA, rQA, upd_at,  rAI, rLI, rJI, nI_add, pk_sub, kc_0, kc_1, kc_2, kc_3, kc_4, kc_5, reduceIte, Nat.reduceEqDiff, Nat.add_zero, rI_hold, rI_hold, rL_hold, ht, he91]; done)) ?_
  refine Bod.ic 1 (by decide) dc_400_157 ?_
  refine Bod.icT dc_400_158 rfl (k2_eq_T (k_eq e91 1 rfl rfl (by omega))) ?_
  refine Bod.go dc_400_167 rfl ?_
  refine Bod.get dc_400_168 fr_400_499 (mk_61 _) rfl ?_
  refine Bod.go dc_400_171 rfl ?_
  refine Bod.get dc_400_172 fr_400_493 (mk_61 _) rfl ?_
  refine Bod.eqI (nI t) (by first | assumption | rfl | exact congrArg nI (by omega) | (simp (disch := omega) only [rI, rIe, rA, rIA, rLA, rJA, rVI, rQI, rVA, rQA, upd_at,  rAI, rLI, rJI, nI_add, pk_sub, kc_0, kc_1, kc_2, kc_3, kc_4, kc_5, reduceIte, Nat.reduceEqDiff, Nat.add_zero, rI_hold, rI_hold, rL_hold, ht, he91]; done)) ?_
  refine Bod.ic 1 (by decide) dc_400_175 ?_
  refine Bod.subN (t - 1) (by omega) (by omega) dc_400_176 ?_
  refine Bod.laldN (t - 1) rfl (by omega) (by omega) dc_400_177 (mk_92 _) ?_
  refine Bod.ldc2 dc_400_178 cj_400_645 ?_
  refine Bod.go dc_400_181 rfl ?_
  refine Bod.ifT dc_400_182 rfl w10 ?_
  refine Bod.go dc_400_192 rfl ?_
  refine Bod.get dc_400_193 fr_400_499 (mk_61 _) rfl ?_
  refine Bod.go dc_400_196 rfl ?_
  refine Bod.get dc_400_197 fr_400_493 (mk_61 _) rfl ?_
  refine Bod.eqI (nI t) (by first | assumption | rfl | exact congrArg nI (by omega) | (simp (disch := omega) only [rI, rIe, rA, rIA, rLA, rJA, rVI, rQI, rVA, rQA, upd_at,  rAI, rLI, rJI, nI_add, pk_sub, kc_0, kc_1, kc_2, kc_3, kc_4, kc_5, reduceIte, Nat.reduceEqDiff, Nat.add_zero, rI_hold, rI_hold, rL_hold, ht, he91]; done)) ?_
  refine Bod.ic 1 (by decide) dc_400_200 ?_
  refine Bod.subN (t - 1) (by omega) (by omega) dc_400_201 ?_
  refine Bod.go dc_400_202 rfl ?_
  refine Bod.get dc_400_203 fr_400_499 (mk_61 _) rfl ?_
  refine Bod.go dc_400_206 rfl ?_
  refine Bod.get dc_400_207 fr_400_493 (mk_61 _) rfl ?_
  refine Bod.eqI (nI t) (by first | assumption | rfl | exact congrArg nI (by omega) | (simp (disch := omega) only [rI, rIe, rA, rIA, rLA, rJA, rVI, rQI, rVA, rQA, upd_at,  rAI, rLI, rJI, nI_add, pk_sub, kc_0, kc_1, kc_2, kc_3, kc_4, kc_5, reduceIte, Nat.reduceEqDiff, Nat.add_zero, rI_hold, rI_hold, rL_hold, ht, he91]; done)) ?_
  refine Bod.ic 1 (by decide) dc_400_210 ?_
  refine Bod.subN (t - 1) (by omega) (by omega) dc_400_211 ?_
  refine Bod.laldN (t - 1) rfl (by omega) (by omega) dc_400_212 (mk_92 _) ?_
  refine Bod.go dc_400_213 rfl ?_
  refine Bod.lastN (t - 1) rfl (by omega) (by omega) dc_400_214 (mk_92 _) (sa_92 _ _ _) (mu_L _ _ _ _) ?_
  refine Bod.ic 1 (by decide) dc_400_215 ?_
  exact Bod.retZ dc_400_216 rt_400 (Or.inr rfl)
theorem rPl_4 {d : Nat} {S : cS} {op : Nat} {x : Nat} {t : Nat} {e91 : Nat} {S1 : cS} (mop : op < 2 ^ 20) (mx : x < 2 ^ 20) (sw3 : op = 9) (ht : sI S 6151 = nI t) (mt : t < 20481) (b1 : 1 ≤ t) (he91 : sA S 91 (t - 1) = nI e91) (me91 : e91 < 2 ^ 20) (b2 : e91 = 1) (w10 : sm_c1 .ne (lg_cmp (sL S 92 (t - 1)) ((-9223372036854775808))) true false = false) (c1 : Ans (d + 8) 351 [.ref 61, .int (nI 6)] S (some (.int (nI 0))) S1) : Bod (d + 8) 400 0 [(0, .ref 61), (1, .int (nI op)), (2, .int (nI x))] [] S (some (.int 0)) (S1) := by
  refine Bod.go dc_400_0 rfl ?_
  refine Bod.sw (t := 146) dc_400_1 rfl rfl (by rw [sw3]; decide +kernel) ?_
  refine Bod.go dc_400_146 rfl ?_
  refine Bod.get dc_400_147 fr_400_496 (mk_61 _) rfl ?_
  refine Bod.go dc_400_150 rfl ?_
  refine Bod.get dc_400_151 fr_400_493 (mk_61 _) rfl ?_
  refine Bod.eqI (nI t) (by first | assumption | rfl | exact congrArg nI (by omega) | (simp (disch := omega) only [rI, rIe, rA, rIA, rLA, rJA, rVI, rQI, rVA, rQA, upd_at,  rAI, rLI, rJI, nI_add, pk_sub, kc_0, kc_1, kc_2, kc_3, kc_4, kc_5, reduceIte, Nat.reduceEqDiff, Nat.add_zero, rI_hold, rI_hold, rL_hold, ht]; done)) ?_
  refine Bod.ic 1 (by decide) dc_400_154 ?_
  refine Bod.subN (t - 1) (by omega) (by omega) dc_400_155 ?_
  refine Bod.ialdN (t - 1) rfl (by omega) (by omega) dc_400_156 (mk_91 _) ?_
  refine Bod.eqI (nI e91) (by first | assumption | rfl | exact congrArg nI (by omega) | (simp (disch := omega) only [rI, rIe, rA, rIA, rLA, rJA, rVI, rQI, rVA, rQA, upd_at,  rAI, rLI, rJI, nI_add, pk_sub, kc_0, kc_1, kc_2, kc_3, kc_4, kc_5, reduceIte, Nat.reduceEqDiff, Nat.add_zero, rI_hold, rI_hold, rL_hold, ht, he91]; done)) ?_
  refine Bod.ic 1 (by decide) dc_400_157 ?_
  refine Bod.icT dc_400_158 rfl (k2_eq_T (k_eq e91 1 rfl rfl (by omega))) ?_
  refine Bod.go dc_400_167 rfl ?_
  refine Bod.get dc_400_168 fr_400_499 (mk_61 _) rfl ?_
  refine Bod.go dc_400_171 rfl ?_
  refine Bod.get dc_400_172 fr_400_493 (mk_61 _) rfl ?_
  refine Bod.eqI (nI t) (by first | assumption | rfl | exact congrArg nI (by omega) | (simp (disch := omega) only [rI, rIe, rA, rIA, rLA, rJA, rVI, rQI, rVA, rQA, upd_at,  rAI, rLI, rJI, nI_add, pk_sub, kc_0, kc_1, kc_2, kc_3, kc_4, kc_5, reduceIte, Nat.reduceEqDiff, Nat.add_zero, rI_hold, rI_hold, rL_hold, ht, he91]; done)) ?_
  refine Bod.ic 1 (by decide) dc_400_175 ?_
  refine Bod.subN (t - 1) (by omega) (by omega) dc_400_176 ?_
  refine Bod.laldN (t - 1) rfl (by omega) (by omega) dc_400_177 (mk_92 _) ?_
  refine Bod.ldc2 dc_400_178 cj_400_645 ?_
  refine Bod.go dc_400_181 rfl ?_
  refine Bod.ifF dc_400_182 rfl w10 ?_
  refine Bod.go dc_400_185 rfl ?_
  refine Bod.bip 6 (by decide) dc_400_186 ?_
  refine Bod.virt (r := []) dc_400_188 kr_400_608 ⟨Or.inl rfl, ow_351, cl_14⟩ (by rw [np_351]; rfl) (by rw [np_351]; rfl) (ob_of (mk_61 _)) (Nat.le_of_ble_eq_true rfl) (c1  ) ?_
  show Bod _ _ _ _ [_] _ _ _
  exact Bod.retZ dc_400_191 rt_400 (Or.inl rfl)
theorem rPl_5 {d : Nat} {S : cS} {op : Nat} {x : Nat} {t : Nat} {e91 : Nat} {S1 : cS} (mop : op < 2 ^ 20) (mx : x < 2 ^ 20) (sw3 : op = 9) (ht : sI S 6151 = nI t) (mt : t < 20481) (b1 : 1 ≤ t) (he91 : sA S 91 (t - 1) = nI e91) (me91 : e91 < 2 ^ 20) (b2 : e91 ≠ 1) (c1 : Ans (d + 8) 351 [.ref 61, .int (nI 2)] S (some (.int (nI 0))) S1) : Bod (d + 8) 400 0 [(0, .ref 61), (1, .int (nI op)), (2, .int (nI x))] [] S (some (.int 0)) (S1) := by
  refine Bod.go dc_400_0 rfl ?_
  refine Bod.sw (t := 146) dc_400_1 rfl rfl (by rw [sw3]; decide +kernel) ?_
  refine Bod.go dc_400_146 rfl ?_
  refine Bod.get dc_400_147 fr_400_496 (mk_61 _) rfl ?_
  refine Bod.go dc_400_150 rfl ?_
  refine Bod.get dc_400_151 fr_400_493 (mk_61 _) rfl ?_
  refine Bod.eqI (nI t) (by first | assumption | rfl | exact congrArg nI (by omega) | (simp (disch := omega) only [rI, rIe, rA, rIA, rLA, rJA, rVI, rQI, rVA, rQA, upd_at,  rAI, rLI, rJI, nI_add, pk_sub, kc_0, kc_1, kc_2, kc_3, kc_4, kc_5, reduceIte, Nat.reduceEqDiff, Nat.add_zero, rI_hold, rI_hold, rL_hold, ht]; done)) ?_
  refine Bod.ic 1 (by decide) dc_400_154 ?_
  refine Bod.subN (t - 1) (by omega) (by omega) dc_400_155 ?_
  refine Bod.ialdN (t - 1) rfl (by omega) (by omega) dc_400_156 (mk_91 _) ?_
  refine Bod.eqI (nI e91) (by first | assumption | rfl | exact congrArg nI (by omega) | (simp (disch := omega) only [rI, rIe, rA, rIA, rLA, rJA, rVI, rQI, rVA, rQA, upd_at,  rAI, rLI, rJI, nI_add, pk_sub, kc_0, kc_1, kc_2, kc_3, kc_4, kc_5, reduceIte, Nat.reduceEqDiff, Nat.add_zero, rI_hold, rI_hold, rL_hold, ht, he91]; done)) ?_
  refine Bod.ic 1 (by decide) dc_400_157 ?_
  refine Bod.icF dc_400_158 rfl (k2_eq_F (k_ne e91 1 rfl rfl (by omega) (by omega) (by omega))) ?_
  refine Bod.go dc_400_161 rfl ?_
  refine Bod.ic 2 (by decide) dc_400_162 ?_
  refine Bod.virt (r := []) dc_400_163 kr_400_608 ⟨Or.inl rfl, ow_351, cl_14⟩ (by rw [np_351]; rfl) (by rw [np_351]; rfl) (ob_of (mk_61 _)) (Nat.le_of_ble_eq_true rfl) (c1  ) ?_
  show Bod _ _ _ _ [_] _ _ _
  exact Bod.retZ dc_400_166 rt_400 (Or.inl rfl)
theorem rPl_6 {d : Nat} {S : cS} {op : Nat} {x : Nat} {t : Nat} {S1 : cS} {S2 : cS} (mop : op < 2 ^ 20) (mx : x < 2 ^ 20) (sw3 : op = 10) (ht : sI S 6151 = nI t) (mt : t < 20481) (b1 : 1 ≤ t) (c1 : Ans (d + 8) 359 [.ref 61, .int (nI (t - 1))] (wI 6151 (nI (t - 1)) S) (some (.int (nI 1))) S1) (c2 : Ans (d + 8) 353 [.ref 61, .long 0] S1 none S2) : Bod (d + 8) 400 0 [(0, .ref 61), (1, .int (nI op)), (2, .int (nI x))] [] S (some (.int 1)) (S2) := by
  refine Bod.go dc_400_0 rfl ?_
  refine Bod.sw (t := 217) dc_400_1 rfl rfl (by rw [sw3]; decide +kernel) ?_
  refine Bod.go dc_400_217 rfl ?_
  refine Bod.go dc_400_218 rfl ?_
  refine Bod.get dc_400_219 fr_400_493 (mk_61 _) rfl ?_
  refine Bod.eqI (nI t) (by first | assumption | rfl | exact congrArg nI (by omega) | (simp (disch := omega) only [rI, rIe, rA, rIA, rLA, rJA, rVI, rQI, rVA, rQA, upd_at,  rAI, rLI, rJI, nI_add, pk_sub, kc_0, kc_1, kc_2, kc_3, kc_4, kc_5, reduceIte, Nat.reduceEqDiff, Nat.add_zero, rI_hold, rI_hold, rL_hold, ht]; done)) ?_
  refine Bod.ic 1 (by decide) dc_400_222 ?_
  refine Bod.subN (t - 1) (by omega) (by omega) dc_400_223 ?_
  refine Bod.put dc_400_224 fr_400_493 (mk_61 _) (Nat.le_of_ble_eq_true rfl) pf_14_51 (st_6151 _ _) (mu_I _ _ _) ?_
  refine Bod.go dc_400_227 rfl ?_
  refine Bod.go dc_400_228 rfl ?_
  refine Bod.go dc_400_229 rfl ?_
  refine Bod.get dc_400_230 fr_400_493 (mk_61 _) rfl ?_
  refine Bod.eqI (nI (t - 1)) (by first | assumption | (simp (disch := omega) only [rI, rIe, rA, rIA, rLA, rJA, rVI, rQI, rVA, rQA, upd_at,  rAI, rLI, rJI, nI_add, pk_sub, kc_0, kc_1, kc_2, kc_3, kc_4, kc_5, reduceIte, Nat.reduceEqDiff, Nat.add_zero, rI_hold, rI_hold, rL_hold, ht]; done) | (simp (disch := omega) only [rI, rIe, rA, rIA, rLA, rJA, rVI, rQI, rVA, rQA, upd_at,  rAI, rLI, rJI, nI_add, pk_sub, kc_0, kc_1, kc_2, kc_3, kc_4, kc_5, reduceIte, Nat.reduceEqDiff, Nat.add_zero, rI_hold, rI_hold, rL_hold, ht]; exact congrArg nI (by omega))) ?_
  refine Bod.virt (r := [_]) dc_400_233 kr_400_624 ⟨Or.inl rfl, ow_359, cl_14⟩ (by rw [np_359]; rfl) (by rw [np_359]; rfl) (ob_of (mk_61 _)) (Nat.le_of_ble_eq_true rfl) (c1  ) ?_
  show Bod _ _ _ _ [_, _] _ _ _
  refine Bod.ifF dc_400_236 rfl (k1_eq_F (k_ne 1 0 rfl rfl (by omega) (by omega) (by omega))) ?_
  refine Bod.go dc_400_239 rfl ?_
  refine Bod.go dc_400_240 rfl ?_
  refine Bod.virt (r := []) dc_400_244 kr_400_613 ⟨Or.inl rfl, ow_353, cl_14⟩ (by rw [np_353]; rfl) (by rw [np_353]; rfl) (ob_of (mk_61 _)) (Nat.le_of_ble_eq_true rfl) (c2  ) ?_
  show Bod _ _ _ _ [] _ _ _
  refine Bod.ic 1 (by decide) dc_400_247 ?_
  exact Bod.retZ dc_400_248 rt_400 (Or.inr rfl)
theorem rPl_7 {d : Nat} {S : cS} {op : Nat} {x : Nat} {t : Nat} {S1 : cS} {S2 : cS} (mop : op < 2 ^ 20) (mx : x < 2 ^ 20) (sw3 : op = 10) (ht : sI S 6151 = nI t) (mt : t < 20481) (b1 : 1 ≤ t) (c1 : Ans (d + 8) 359 [.ref 61, .int (nI (t - 1))] (wI 6151 (nI (t - 1)) S) (some (.int (nI 0))) S1) (c2 : Ans (d + 8) 353 [.ref 61, .long 1] S1 none S2) : Bod (d + 8) 400 0 [(0, .ref 61), (1, .int (nI op)), (2, .int (nI x))] [] S (some (.int 1)) (S2) := by
  refine Bod.go dc_400_0 rfl ?_
  refine Bod.sw (t := 217) dc_400_1 rfl rfl (by rw [sw3]; decide +kernel) ?_
  refine Bod.go dc_400_217 rfl ?_
  refine Bod.go dc_400_218 rfl ?_
  refine Bod.get dc_400_219 fr_400_493 (mk_61 _) rfl ?_
  refine Bod.eqI (nI t) (by first | assumption | rfl | exact congrArg nI (by omega) | (simp (disch := omega) only [rI, rIe, rA, rIA, rLA, rJA, rVI, rQI, rVA, rQA, upd_at,  rAI, rLI, rJI, nI_add, pk_sub, kc_0, kc_1, kc_2, kc_3, kc_4, kc_5, reduceIte, Nat.reduceEqDiff, Nat.add_zero, rI_hold, rI_hold, rL_hold, ht]; done)) ?_
  refine Bod.ic 1 (by decide) dc_400_222 ?_
  refine Bod.subN (t - 1) (by omega) (by omega) dc_400_223 ?_
  refine Bod.put dc_400_224 fr_400_493 (mk_61 _) (Nat.le_of_ble_eq_true rfl) pf_14_51 (st_6151 _ _) (mu_I _ _ _) ?_
  refine Bod.go dc_400_227 rfl ?_
  refine Bod.go dc_400_228 rfl ?_
  refine Bod.go dc_400_229 rfl ?_
  refine Bod.get dc_400_230 fr_400_493 (mk_61 _) rfl ?_
  refine Bod.eqI (nI (t - 1)) (by first | assumption | (simp (disch := omega) only [rI, rIe, rA, rIA, rLA, rJA, rVI, rQI, rVA, rQA, upd_at,  rAI, rLI, rJI, nI_add, pk_sub, kc_0, kc_1, kc_2, kc_3, kc_4, kc_5, reduceIte, Nat.reduceEqDiff, Nat.add_zero, rI_hold, rI_hold, rL_hold, ht]; done) | (simp (disch := omega) only [rI, rIe, rA, rIA, rLA, rJA, rVI, rQI, rVA, rQA, upd_at,  rAI, rLI, rJI, nI_add, pk_sub, kc_0, kc_1, kc_2, kc_3, kc_4, kc_5, reduceIte, Nat.reduceEqDiff, Nat.add_zero, rI_hold, rI_hold, rL_hold, ht]; exact congrArg nI (by omega))) ?_
  refine Bod.virt (r := [_]) dc_400_233 kr_400_624 ⟨Or.inl rfl, ow_359, cl_14⟩ (by rw [np_359]; rfl) (by rw [np_359]; rfl) (ob_of (mk_61 _)) (Nat.le_of_ble_eq_true rfl) (c1  ) ?_
  show Bod _ _ _ _ [_, _] _ _ _
  refine Bod.ifT dc_400_236 rfl (k1_eq_T (k_eq 0 0 rfl rfl (by omega))) ?_
  refine Bod.go dc_400_243 rfl ?_
  refine Bod.virt (r := []) dc_400_244 kr_400_613 ⟨Or.inl rfl, ow_353, cl_14⟩ (by rw [np_353]; rfl) (by rw [np_353]; rfl) (ob_of (mk_61 _)) (Nat.le_of_ble_eq_true rfl) (c2  ) ?_
  show Bod _ _ _ _ [] _ _ _
  refine Bod.ic 1 (by decide) dc_400_247 ?_
  exact Bod.retZ dc_400_248 rt_400 (Or.inr rfl)
theorem rPl_8 {d : Nat} {S : cS} {op : Nat} {x : Nat} {S1 : cS} (mop : op < 2 ^ 20) (mx : x < 2 ^ 20) (sw3 : op = 15) (c1 : Ans (d + 8) 409 [.ref 61] S (some (.int (nI 1))) S1) : Bod (d + 8) 400 0 [(0, .ref 61), (1, .int (nI op)), (2, .int (nI x))] [] S (some (.int 1)) (S1) := by
  refine Bod.go dc_400_0 rfl ?_
  refine Bod.sw (t := 249) dc_400_1 rfl rfl (by rw [sw3]; decide +kernel) ?_
  refine Bod.go dc_400_249 rfl ?_
  refine Bod.virt (r := []) dc_400_250 kr_400_647 ⟨Or.inl rfl, ow_409, cl_14⟩ (by rw [np_409]; rfl) (by rw [np_409]; rfl) (ob_of (mk_61 _)) (Nat.le_of_ble_eq_true rfl) (c1  ) ?_
  show Bod _ _ _ _ [_] _ _ _
  exact Bod.retZ dc_400_253 rt_400 (Or.inr rfl)
theorem rPl_9 {d : Nat} {S : cS} {op : Nat} {x : Nat} {S1 : cS} (mop : op < 2 ^ 20) (mx : x < 2 ^ 20) (sw3 : op = 15) (c1 : Ans (d + 8) 409 [.ref 61] S (some (.int (nI 0))) S1) : Bod (d + 8) 400 0 [(0, .ref 61), (1, .int (nI op)), (2, .int (nI x))] [] S (some (.int 0)) (S1) := by
  refine Bod.go dc_400_0 rfl ?_
  refine Bod.sw (t := 249) dc_400_1 rfl rfl (by rw [sw3]; decide +kernel) ?_
  refine Bod.go dc_400_249 rfl ?_
  refine Bod.virt (r := []) dc_400_250 kr_400_647 ⟨Or.inl rfl, ow_409, cl_14⟩ (by rw [np_409]; rfl) (by rw [np_409]; rfl) (ob_of (mk_61 _)) (Nat.le_of_ble_eq_true rfl) (c1  ) ?_
  show Bod _ _ _ _ [_] _ _ _
  exact Bod.retZ dc_400_253 rt_400 (Or.inl rfl)
theorem rPl_10 {d : Nat} {S : cS} {op : Nat} {x : Nat} {S1 : cS} (mop : op < 2 ^ 20) (mx : x < 2 ^ 20) (sw3 : op = 16) (c1 : Ans (d + 8) 412 [.ref 61, .int (nI x)] S (some (.int (nI 1))) S1) : Bod (d + 8) 400 0 [(0, .ref 61), (1, .int (nI op)), (2, .int (nI x))] [] S (some (.int 1)) (S1) := by
  refine Bod.go dc_400_0 rfl ?_
  refine Bod.sw (t := 254) dc_400_1 rfl rfl (by rw [sw3]; decide +kernel) ?_
  refine Bod.go dc_400_254 rfl ?_
  refine Bod.go dc_400_255 rfl ?_
  refine Bod.virt (r := []) dc_400_256 kr_400_650 ⟨Or.inl rfl, ow_412, cl_14⟩ (by rw [np_412]; rfl) (by rw [np_412]; rfl) (ob_of (mk_61 _)) (Nat.le_of_ble_eq_true rfl) (c1  ) ?_
  show Bod _ _ _ _ [_] _ _ _
  exact Bod.retZ dc_400_259 rt_400 (Or.inr rfl)
theorem rPl_11 {d : Nat} {S : cS} {op : Nat} {x : Nat} {S1 : cS} (mop : op < 2 ^ 20) (mx : x < 2 ^ 20) (sw3 : op = 16) (c1 : Ans (d + 8) 412 [.ref 61, .int (nI x)] S (some (.int (nI 0))) S1) : Bod (d + 8) 400 0 [(0, .ref 61), (1, .int (nI op)), (2, .int (nI x))] [] S (some (.int 0)) (S1) := by
  refine Bod.go dc_400_0 rfl ?_
  refine Bod.sw (t := 254) dc_400_1 rfl rfl (by rw [sw3]; decide +kernel) ?_
  refine Bod.go dc_400_254 rfl ?_
  refine Bod.go dc_400_255 rfl ?_
  refine Bod.virt (r := []) dc_400_256 kr_400_650 ⟨Or.inl rfl, ow_412, cl_14⟩ (by rw [np_412]; rfl) (by rw [np_412]; rfl) (ob_of (mk_61 _)) (Nat.le_of_ble_eq_true rfl) (c1  ) ?_
  show Bod _ _ _ _ [_] _ _ _
  exact Bod.retZ dc_400_259 rt_400 (Or.inl rfl)
theorem rPl_12 {d : Nat} {S : cS} {op : Nat} {x : Nat} {S1 : cS} (mop : op < 2 ^ 20) (mx : x < 2 ^ 20) (sw3 : op = 18) (c1 : Ans (d + 8) 413 [.ref 61, .int (nI x)] S (some (.int (nI 1))) S1) : Bod (d + 8) 400 0 [(0, .ref 61), (1, .int (nI op)), (2, .int (nI x))] [] S (some (.int 1)) (S1) := by
  refine Bod.go dc_400_0 rfl ?_
  refine Bod.sw (t := 260) dc_400_1 rfl rfl (by rw [sw3]; decide +kernel) ?_
  refine Bod.go dc_400_260 rfl ?_
  refine Bod.go dc_400_261 rfl ?_
  refine Bod.virt (r := []) dc_400_262 kr_400_653 ⟨Or.inl rfl, ow_413, cl_14⟩ (by rw [np_413]; rfl) (by rw [np_413]; rfl) (ob_of (mk_61 _)) (Nat.le_of_ble_eq_true rfl) (c1  ) ?_
  show Bod _ _ _ _ [_] _ _ _
  exact Bod.retZ dc_400_265 rt_400 (Or.inr rfl)
theorem rPl_13 {d : Nat} {S : cS} {op : Nat} {x : Nat} {S1 : cS} (mop : op < 2 ^ 20) (mx : x < 2 ^ 20) (sw3 : op = 18) (c1 : Ans (d + 8) 413 [.ref 61, .int (nI x)] S (some (.int (nI 0))) S1) : Bod (d + 8) 400 0 [(0, .ref 61), (1, .int (nI op)), (2, .int (nI x))] [] S (some (.int 0)) (S1) := by
  refine Bod.go dc_400_0 rfl ?_
  refine Bod.sw (t := 260) dc_400_1 rfl rfl (by rw [sw3]; decide +kernel) ?_
  refine Bod.go dc_400_260 rfl ?_
  refine Bod.go dc_400_261 rfl ?_
  refine Bod.virt (r := []) dc_400_262 kr_400_653 ⟨Or.inl rfl, ow_413, cl_14⟩ (by rw [np_413]; rfl) (by rw [np_413]; rfl) (ob_of (mk_61 _)) (Nat.le_of_ble_eq_true rfl) (c1  ) ?_
  show Bod _ _ _ _ [_] _ _ _
  exact Bod.retZ dc_400_265 rt_400 (Or.inl rfl)
theorem rPl_14 {d : Nat} {S : cS} {op : Nat} {x : Nat} {S1 : cS} (mop : op < 2 ^ 20) (mx : x < 2 ^ 20) (sw3 : op = 19) (c1 : Ans (d + 8) 414 [.ref 61, .int (nI x)] S (some (.int (nI 1))) S1) : Bod (d + 8) 400 0 [(0, .ref 61), (1, .int (nI op)), (2, .int (nI x))] [] S (some (.int 1)) (S1) := by
  refine Bod.go dc_400_0 rfl ?_
  refine Bod.sw (t := 266) dc_400_1 rfl rfl (by rw [sw3]; decide +kernel) ?_
  refine Bod.go dc_400_266 rfl ?_
  refine Bod.go dc_400_267 rfl ?_
  refine Bod.virt (r := []) dc_400_268 kr_400_656 ⟨Or.inl rfl, ow_414, cl_14⟩ (by rw [np_414]; rfl) (by rw [np_414]; rfl) (ob_of (mk_61 _)) (Nat.le_of_ble_eq_true rfl) (c1  ) ?_
  show Bod _ _ _ _ [_] _ _ _
  exact Bod.retZ dc_400_271 rt_400 (Or.inr rfl)
theorem rPl_15 {d : Nat} {S : cS} {op : Nat} {x : Nat} {S1 : cS} (mop : op < 2 ^ 20) (mx : x < 2 ^ 20) (sw3 : op = 19) (c1 : Ans (d + 8) 414 [.ref 61, .int (nI x)] S (some (.int (nI 0))) S1) : Bod (d + 8) 400 0 [(0, .ref 61), (1, .int (nI op)), (2, .int (nI x))] [] S (some (.int 0)) (S1) := by
  refine Bod.go dc_400_0 rfl ?_
  refine Bod.sw (t := 266) dc_400_1 rfl rfl (by rw [sw3]; decide +kernel) ?_
  refine Bod.go dc_400_266 rfl ?_
  refine Bod.go dc_400_267 rfl ?_
  refine Bod.virt (r := []) dc_400_268 kr_400_656 ⟨Or.inl rfl, ow_414, cl_14⟩ (by rw [np_414]; rfl) (by rw [np_414]; rfl) (ob_of (mk_61 _)) (Nat.le_of_ble_eq_true rfl) (c1  ) ?_
  show Bod _ _ _ _ [_] _ _ _
  exact Bod.retZ dc_400_271 rt_400 (Or.inl rfl)
theorem rPl_16 {d : Nat} {S : cS} {op : Nat} {x : Nat} {t : Nat} (mop : op < 2 ^ 20) (mx : x < 2 ^ 20) (sw3 : op = 20) (ht : sI S 6151 = nI t) (mt : t < 20481) (b1 : 1 ≤ t) : Bod (d + 8) 400 0 [(0, .ref 61), (1, .int (nI op)), (2, .int (nI x))] [] S (some (.int 1)) (wI 6151 (nI (t - 1)) S) := by
  refine Bod.go dc_400_0 rfl ?_
  refine Bod.sw (t := 272) dc_400_1 rfl rfl (by rw [sw3]; decide +kernel) ?_
  refine Bod.go dc_400_272 rfl ?_
  refine Bod.go dc_400_273 rfl ?_
  refine Bod.get dc_400_274 fr_400_493 (mk_61 _) rfl ?_
  refine Bod.eqI (nI t) (by first | assumption | rfl | exact congrArg nI (by omega) | (simp (disch := omega) only [rI, rIe, rA, rIA, rLA, rJA, rVI, rQI, rVA, rQA, upd_at,  rAI, rLI, rJI, nI_add, pk_sub, kc_0, kc_1, kc_2, kc_3, kc_4, kc_5, reduceIte, Nat.reduceEqDiff, Nat.add_zero, rI_hold, rI_hold, rL_hold, ht]; done)) ?_
  refine Bod.ic 1 (by decide) dc_400_277 ?_
  refine Bod.subN (t - 1) (by omega) (by omega) dc_400_278 ?_
  refine Bod.put dc_400_279 fr_400_493 (mk_61 _) (Nat.le_of_ble_eq_true rfl) pf_14_51 (st_6151 _ _) (mu_I _ _ _) ?_
  refine Bod.ic 1 (by decide) dc_400_282 ?_
  exact Bod.retZ dc_400_283 rt_400 (Or.inr rfl)
theorem rPl_17 {d : Nat} {S : cS} {op : Nat} {x : Nat} {t : Nat} {S1 : cS} (mop : op < 2 ^ 20) (mx : x < 2 ^ 20) (sw3 : op = 21) (ht : sI S 6151 = nI t) (mt : t < 20481) (b1 : 2 ≤ t) (b2 : 1 ≤ t) (b3 : 3 ≤ t) (c1 : Ans (d + 8) 415 [.ref 61, .int (nI (t - 2)), .int (nI (t - 1)), .int (nI (t - 3))] S (some (.int (nI 1))) S1) : Bod (d + 8) 400 0 [(0, .ref 61), (1, .int (nI op)), (2, .int (nI x))] [] S (some (.int 1)) (S1) := by
  refine Bod.go dc_400_0 rfl ?_
  refine Bod.sw (t := 284) dc_400_1 rfl rfl (by rw [sw3]; decide +kernel) ?_
  refine Bod.go dc_400_284 rfl ?_
  refine Bod.go dc_400_285 rfl ?_
  refine Bod.get dc_400_286 fr_400_493 (mk_61 _) rfl ?_
  refine Bod.eqI (nI t) (by first | assumption | rfl | exact congrArg nI (by omega) | (simp (disch := omega) only [rI, rIe, rA, rIA, rLA, rJA, rVI, rQI, rVA, rQA, upd_at,  rAI, rLI, rJI, nI_add, pk_sub, kc_0, kc_1, kc_2, kc_3, kc_4, kc_5, reduceIte, Nat.reduceEqDiff, Nat.add_zero, rI_hold, rI_hold, rL_hold, ht]; done)) ?_
  refine Bod.ic 2 (by decide) dc_400_289 ?_
  refine Bod.subN (t - 2) (by omega) (by omega) dc_400_290 ?_
  refine Bod.go dc_400_291 rfl ?_
  refine Bod.get dc_400_292 fr_400_493 (mk_61 _) rfl ?_
  refine Bod.eqI (nI t) (by first | assumption | rfl | exact congrArg nI (by omega) | (simp (disch := omega) only [rI, rIe, rA, rIA, rLA, rJA, rVI, rQI, rVA, rQA, upd_at,  rAI, rLI, rJI, nI_add, pk_sub, kc_0, kc_1, kc_2, kc_3, kc_4, kc_5, reduceIte, Nat.reduceEqDiff, Nat.add_zero, rI_hold, rI_hold, rL_hold, ht]; done)) ?_
  refine Bod.ic 1 (by decide) dc_400_295 ?_
  refine Bod.subN (t - 1) (by omega) (by omega) dc_400_296 ?_
  refine Bod.go dc_400_297 rfl ?_
  refine Bod.get dc_400_298 fr_400_493 (mk_61 _) rfl ?_
  refine Bod.eqI (nI t) (by first | assumption | rfl | exact congrArg nI (by omega) | (simp (disch := omega) only [rI, rIe, rA, rIA, rLA, rJA, rVI, rQI, rVA, rQA, upd_at,  rAI, rLI, rJI, nI_add, pk_sub, kc_0, kc_1, kc_2, kc_3, kc_4, kc_5, reduceIte, Nat.reduceEqDiff, Nat.add_zero, rI_hold, rI_hold, rL_hold, ht]; done)) ?_
  refine Bod.ic 3 (by decide) dc_400_301 ?_
  refine Bod.subN (t - 3) (by omega) (by omega) dc_400_302 ?_
  refine Bod.virt (r := []) dc_400_303 kr_400_659 ⟨Or.inl rfl, ow_415, cl_14⟩ (by rw [np_415]; rfl) (by rw [np_415]; rfl) (ob_of (mk_61 _)) (Nat.le_of_ble_eq_true rfl) (c1  ) ?_
  show Bod _ _ _ _ [_] _ _ _
  exact Bod.retZ dc_400_306 rt_400 (Or.inr rfl)
theorem rPl_18 {d : Nat} {S : cS} {op : Nat} {x : Nat} {t : Nat} {S1 : cS} (mop : op < 2 ^ 20) (mx : x < 2 ^ 20) (sw3 : op = 21) (ht : sI S 6151 = nI t) (mt : t < 20481) (b1 : 2 ≤ t) (b2 : 1 ≤ t) (b3 : 3 ≤ t) (c1 : Ans (d + 8) 415 [.ref 61, .int (nI (t - 2)), .int (nI (t - 1)), .int (nI (t - 3))] S (some (.int (nI 0))) S1) : Bod (d + 8) 400 0 [(0, .ref 61), (1, .int (nI op)), (2, .int (nI x))] [] S (some (.int 0)) (S1) := by
  refine Bod.go dc_400_0 rfl ?_
  refine Bod.sw (t := 284) dc_400_1 rfl rfl (by rw [sw3]; decide +kernel) ?_
  refine Bod.go dc_400_284 rfl ?_
  refine Bod.go dc_400_285 rfl ?_
  refine Bod.get dc_400_286 fr_400_493 (mk_61 _) rfl ?_
  refine Bod.eqI (nI t) (by first | assumption | rfl | exact congrArg nI (by omega) | (simp (disch := omega) only [rI, rIe, rA, rIA, rLA, rJA, rVI, rQI, rVA, rQA, upd_at,  rAI, rLI, rJI, nI_add, pk_sub, kc_0, kc_1, kc_2, kc_3, kc_4, kc_5, reduceIte, Nat.reduceEqDiff, Nat.add_zero, rI_hold, rI_hold, rL_hold, ht]; done)) ?_
  refine Bod.ic 2 (by decide) dc_400_289 ?_
  refine Bod.subN (t - 2) (by omega) (by omega) dc_400_290 ?_
  refine Bod.go dc_400_291 rfl ?_
  refine Bod.get dc_400_292 fr_400_493 (mk_61 _) rfl ?_
  refine Bod.eqI (nI t) (by first | assumption | rfl | exact congrArg nI (by omega) | (simp (disch := omega) only [rI, rIe, rA, rIA, rLA, rJA, rVI, rQI, rVA, rQA, upd_at,  rAI, rLI, rJI, nI_add, pk_sub, kc_0, kc_1, kc_2, kc_3, kc_4, kc_5, reduceIte, Nat.reduceEqDiff, Nat.add_zero, rI_hold, rI_hold, rL_hold, ht]; done)) ?_
  refine Bod.ic 1 (by decide) dc_400_295 ?_
  refine Bod.subN (t - 1) (by omega) (by omega) dc_400_296 ?_
  refine Bod.go dc_400_297 rfl ?_
  refine Bod.get dc_400_298 fr_400_493 (mk_61 _) rfl ?_
  refine Bod.eqI (nI t) (by first | assumption | rfl | exact congrArg nI (by omega) | (simp (disch := omega) only [rI, rIe, rA, rIA, rLA, rJA, rVI, rQI, rVA, rQA, upd_at,  rAI, rLI, rJI, nI_add, pk_sub, kc_0, kc_1, kc_2, kc_3, kc_4, kc_5, reduceIte, Nat.reduceEqDiff, Nat.add_zero, rI_hold, rI_hold, rL_hold, ht]; done)) ?_
  refine Bod.ic 3 (by decide) dc_400_301 ?_
  refine Bod.subN (t - 3) (by omega) (by omega) dc_400_302 ?_
  refine Bod.virt (r := []) dc_400_303 kr_400_659 ⟨Or.inl rfl, ow_415, cl_14⟩ (by rw [np_415]; rfl) (by rw [np_415]; rfl) (ob_of (mk_61 _)) (Nat.le_of_ble_eq_true rfl) (c1  ) ?_
  show Bod _ _ _ _ [_] _ _ _
  exact Bod.retZ dc_400_306 rt_400 (Or.inl rfl)
theorem rPl_19 {d : Nat} {S : cS} {op : Nat} {x : Nat} {t : Nat} {S1 : cS} (mop : op < 2 ^ 20) (mx : x < 2 ^ 20) (sw3 : op = 22) (ht : sI S 6151 = nI t) (mt : t < 20481) (b1 : 1 ≤ t) (b2 : 2 ≤ t) (c1 : Ans (d + 8) 416 [.ref 61, .int (nI x), .int (nI (t - 1)), .int (nI (t - 2))] S (some (.int (nI 1))) S1) : Bod (d + 8) 400 0 [(0, .ref 61), (1, .int (nI op)), (2, .int (nI x))] [] S (some (.int 1)) (S1) := by
  refine Bod.go dc_400_0 rfl ?_
  refine Bod.sw (t := 330) dc_400_1 rfl rfl (by rw [sw3]; decide +kernel) ?_
  refine Bod.go dc_400_330 rfl ?_
  refine Bod.go dc_400_331 rfl ?_
  refine Bod.go dc_400_332 rfl ?_
  refine Bod.get dc_400_333 fr_400_493 (mk_61 _) rfl ?_
  refine Bod.eqI (nI t) (by first | assumption | rfl | exact congrArg nI (by omega) | (simp (disch := omega) only [rI, rIe, rA, rIA, rLA, rJA, rVI, rQI, rVA, rQA, upd_at,  rAI, rLI, rJI, nI_add, pk_sub, kc_0, kc_1, kc_2, kc_3, kc_4, kc_5, reduceIte, Nat.reduceEqDiff, Nat.add_zero, rI_hold, rI_hold, rL_hold, ht]; done)) ?_
  refine Bod.ic 1 (by decide) dc_400_336 ?_
  refine Bod.subN (t - 1) (by omega) (by omega) dc_400_337 ?_
  refine Bod.go dc_400_338 rfl ?_
  refine Bod.get dc_400_339 fr_400_493 (mk_61 _) rfl ?_
  refine Bod.eqI (nI t) (by first | assumption | rfl | exact congrArg nI (by omega) | (simp (disch := omega) only [rI, rIe, rA, rIA, rLA, rJA, rVI, rQI, rVA, rQA, upd_at,  rAI, rLI, rJI, nI_add, pk_sub, kc_0, kc_1, kc_2, kc_3, kc_4, kc_5, reduceIte, Nat.reduceEqDiff, Nat.add_zero, rI_hold, rI_hold, rL_hold, ht]; done)) ?_
  refine Bod.ic 2 (by decide) dc_400_342 ?_
  refine Bod.subN (t - 2) (by omega) (by omega) dc_400_343 ?_
  refine Bod.virt (r := []) dc_400_344 kr_400_663 ⟨Or.inl rfl, ow_416, cl_14⟩ (by rw [np_416]; rfl) (by rw [np_416]; rfl) (ob_of (mk_61 _)) (Nat.le_of_ble_eq_true rfl) (c1  ) ?_
  show Bod _ _ _ _ [_] _ _ _
  exact Bod.retZ dc_400_347 rt_400 (Or.inr rfl)
theorem rPl_20 {d : Nat} {S : cS} {op : Nat} {x : Nat} {t : Nat} {S1 : cS} (mop : op < 2 ^ 20) (mx : x < 2 ^ 20) (sw3 : op = 22) (ht : sI S 6151 = nI t) (mt : t < 20481) (b1 : 1 ≤ t) (b2 : 2 ≤ t) (c1 : Ans (d + 8) 416 [.ref 61, .int (nI x), .int (nI (t - 1)), .int (nI (t - 2))] S (some (.int (nI 0))) S1) : Bod (d + 8) 400 0 [(0, .ref 61), (1, .int (nI op)), (2, .int (nI x))] [] S (some (.int 0)) (S1) := by
  refine Bod.go dc_400_0 rfl ?_
  refine Bod.sw (t := 330) dc_400_1 rfl rfl (by rw [sw3]; decide +kernel) ?_
  refine Bod.go dc_400_330 rfl ?_
  refine Bod.go dc_400_331 rfl ?_
  refine Bod.go dc_400_332 rfl ?_
  refine Bod.get dc_400_333 fr_400_493 (mk_61 _) rfl ?_
  refine Bod.eqI (nI t) (by first | assumption | rfl | exact congrArg nI (by omega) | (simp (disch := omega) only [rI, rIe, rA, rIA, rLA, rJA, rVI, rQI, rVA, rQA, upd_at,  rAI, rLI, rJI, nI_add, pk_sub, kc_0, kc_1, kc_2, kc_3, kc_4, kc_5, reduceIte, Nat.reduceEqDiff, Nat.add_zero, rI_hold, rI_hold, rL_hold, ht]; done)) ?_
  refine Bod.ic 1 (by decide) dc_400_336 ?_
  refine Bod.subN (t - 1) (by omega) (by omega) dc_400_337 ?_
  refine Bod.go dc_400_338 rfl ?_
  refine Bod.get dc_400_339 fr_400_493 (mk_61 _) rfl ?_
  refine Bod.eqI (nI t) (by first | assumption | rfl | exact congrArg nI (by omega) | (simp (disch := omega) only [rI, rIe, rA, rIA, rLA, rJA, rVI, rQI, rVA, rQA, upd_at,  rAI, rLI, rJI, nI_add, pk_sub, kc_0, kc_1, kc_2, kc_3, kc_4, kc_5, reduceIte, Nat.reduceEqDiff, Nat.add_zero, rI_hold, rI_hold, rL_hold, ht]; done)) ?_
  refine Bod.ic 2 (by decide) dc_400_342 ?_
  refine Bod.subN (t - 2) (by omega) (by omega) dc_400_343 ?_
  refine Bod.virt (r := []) dc_400_344 kr_400_663 ⟨Or.inl rfl, ow_416, cl_14⟩ (by rw [np_416]; rfl) (by rw [np_416]; rfl) (ob_of (mk_61 _)) (Nat.le_of_ble_eq_true rfl) (c1  ) ?_
  show Bod _ _ _ _ [_] _ _ _
  exact Bod.retZ dc_400_347 rt_400 (Or.inl rfl)
theorem rPl_21 {d : Nat} {S : cS} {op : Nat} {x : Nat} {t : Nat} {S1 : cS} (mop : op < 2 ^ 20) (mx : x < 2 ^ 20) (sw3 : op = 23) (ht : sI S 6151 = nI t) (mt : t < 20481) (b1 : 3 ≤ t) (b2 : 2 ≤ t) (b3 : 1 ≤ t) (c1 : Ans (d + 8) 415 [.ref 61, .int (nI (t - 3)), .int (nI (t - 2)), .int (nI (t - 1))] S (some (.int (nI 1))) S1) : Bod (d + 8) 400 0 [(0, .ref 61), (1, .int (nI op)), (2, .int (nI x))] [] S (some (.int 1)) (S1) := by
  refine Bod.go dc_400_0 rfl ?_
  refine Bod.sw (t := 307) dc_400_1 rfl rfl (by rw [sw3]; decide +kernel) ?_
  refine Bod.go dc_400_307 rfl ?_
  refine Bod.go dc_400_308 rfl ?_
  refine Bod.get dc_400_309 fr_400_493 (mk_61 _) rfl ?_
  refine Bod.eqI (nI t) (by first | assumption | rfl | exact congrArg nI (by omega) | (simp (disch := omega) only [rI, rIe, rA, rIA, rLA, rJA, rVI, rQI, rVA, rQA, upd_at,  rAI, rLI, rJI, nI_add, pk_sub, kc_0, kc_1, kc_2, kc_3, kc_4, kc_5, reduceIte, Nat.reduceEqDiff, Nat.add_zero, rI_hold, rI_hold, rL_hold, ht]; done)) ?_
  refine Bod.ic 3 (by decide) dc_400_312 ?_
  refine Bod.subN (t - 3) (by omega) (by omega) dc_400_313 ?_
  refine Bod.go dc_400_314 rfl ?_
  refine Bod.get dc_400_315 fr_400_493 (mk_61 _) rfl ?_
  refine Bod.eqI (nI t) (by first | assumption | rfl | exact congrArg nI (by omega) | (simp (disch := omega) only [rI, rIe, rA, rIA, rLA, rJA, rVI, rQI, rVA, rQA, upd_at,  rAI, rLI, rJI, nI_add, pk_sub, kc_0, kc_1, kc_2, kc_3, kc_4, kc_5, reduceIte, Nat.reduceEqDiff, Nat.add_zero, rI_hold, rI_hold, rL_hold, ht]; done)) ?_
  refine Bod.ic 2 (by decide) dc_400_318 ?_
  refine Bod.subN (t - 2) (by omega) (by omega) dc_400_319 ?_
  refine Bod.go dc_400_320 rfl ?_
  refine Bod.get dc_400_321 fr_400_493 (mk_61 _) rfl ?_
  refine Bod.eqI (nI t) (by first | assumption | rfl | exact congrArg nI (by omega) | (simp (disch := omega) only [rI, rIe, rA, rIA, rLA, rJA, rVI, rQI, rVA, rQA, upd_at,  rAI, rLI, rJI, nI_add, pk_sub, kc_0, kc_1, kc_2, kc_3, kc_4, kc_5, reduceIte, Nat.reduceEqDiff, Nat.add_zero, rI_hold, rI_hold, rL_hold, ht]; done)) ?_
  refine Bod.ic 1 (by decide) dc_400_324 ?_
  refine Bod.subN (t - 1) (by omega) (by omega) dc_400_325 ?_
  refine Bod.virt (r := []) dc_400_326 kr_400_659 ⟨Or.inl rfl, ow_415, cl_14⟩ (by rw [np_415]; rfl) (by rw [np_415]; rfl) (ob_of (mk_61 _)) (Nat.le_of_ble_eq_true rfl) (c1  ) ?_
  show Bod _ _ _ _ [_] _ _ _
  exact Bod.retZ dc_400_329 rt_400 (Or.inr rfl)
theorem rPl_22 {d : Nat} {S : cS} {op : Nat} {x : Nat} {t : Nat} {S1 : cS} (mop : op < 2 ^ 20) (mx : x < 2 ^ 20) (sw3 : op = 23) (ht : sI S 6151 = nI t) (mt : t < 20481) (b1 : 3 ≤ t) (b2 : 2 ≤ t) (b3 : 1 ≤ t) (c1 : Ans (d + 8) 415 [.ref 61, .int (nI (t - 3)), .int (nI (t - 2)), .int (nI (t - 1))] S (some (.int (nI 0))) S1) : Bod (d + 8) 400 0 [(0, .ref 61), (1, .int (nI op)), (2, .int (nI x))] [] S (some (.int 0)) (S1) := by
  refine Bod.go dc_400_0 rfl ?_
  refine Bod.sw (t := 307) dc_400_1 rfl rfl (by rw [sw3]; decide +kernel) ?_
  refine Bod.go dc_400_307 rfl ?_
  refine Bod.go dc_400_308 rfl ?_
  refine Bod.get dc_400_309 fr_400_493 (mk_61 _) rfl ?_
  refine Bod.eqI (nI t) (by first | assumption | rfl | exact congrArg nI (by omega) | (simp (disch := omega) only [rI, rIe, rA, rIA, rLA, rJA, rVI, rQI, rVA, rQA, upd_at,  rAI, rLI, rJI, nI_add, pk_sub, kc_0, kc_1, kc_2, kc_3, kc_4, kc_5, reduceIte, Nat.reduceEqDiff, Nat.add_zero, rI_hold, rI_hold, rL_hold, ht]; done)) ?_
  refine Bod.ic 3 (by decide) dc_400_312 ?_
  refine Bod.subN (t - 3) (by omega) (by omega) dc_400_313 ?_
  refine Bod.go dc_400_314 rfl ?_
  refine Bod.get dc_400_315 fr_400_493 (mk_61 _) rfl ?_
  refine Bod.eqI (nI t) (by first | assumption | rfl | exact congrArg nI (by omega) | (simp (disch := omega) only [rI, rIe, rA, rIA, rLA, rJA, rVI, rQI, rVA, rQA, upd_at,  rAI, rLI, rJI, nI_add, pk_sub, kc_0, kc_1, kc_2, kc_3, kc_4, kc_5, reduceIte, Nat.reduceEqDiff, Nat.add_zero, rI_hold, rI_hold, rL_hold, ht]; done)) ?_
  refine Bod.ic 2 (by decide) dc_400_318 ?_
  refine Bod.subN (t - 2) (by omega) (by omega) dc_400_319 ?_
  refine Bod.go dc_400_320 rfl ?_
  refine Bod.get dc_400_321 fr_400_493 (mk_61 _) rfl ?_
  refine Bod.eqI (nI t) (by first | assumption | rfl | exact congrArg nI (by omega) | (simp (disch := omega) only [rI, rIe, rA, rIA, rLA, rJA, rVI, rQI, rVA, rQA, upd_at,  rAI, rLI, rJI, nI_add, pk_sub, kc_0, kc_1, kc_2, kc_3, kc_4, kc_5, reduceIte, Nat.reduceEqDiff, Nat.add_zero, rI_hold, rI_hold, rL_hold, ht]; done)) ?_
  refine Bod.ic 1 (by decide) dc_400_324 ?_
  refine Bod.subN (t - 1) (by omega) (by omega) dc_400_325 ?_
  refine Bod.virt (r := []) dc_400_326 kr_400_659 ⟨Or.inl rfl, ow_415, cl_14⟩ (by rw [np_415]; rfl) (by rw [np_415]; rfl) (ob_of (mk_61 _)) (Nat.le_of_ble_eq_true rfl) (c1  ) ?_
  show Bod _ _ _ _ [_] _ _ _
  exact Bod.retZ dc_400_329 rt_400 (Or.inl rfl)
theorem rPl_23 {d : Nat} {S : cS} {op : Nat} {x : Nat} {t : Nat} {S1 : cS} (mop : op < 2 ^ 20) (mx : x < 2 ^ 20) (sw3 : op = 24) (ht : sI S 6151 = nI t) (mt : t < 20481) (b1 : 2 ≤ t) (b2 : 1 ≤ t) (c1 : Ans (d + 8) 416 [.ref 61, .int (nI x), .int (nI (t - 2)), .int (nI (t - 1))] S (some (.int (nI 1))) S1) : Bod (d + 8) 400 0 [(0, .ref 61), (1, .int (nI op)), (2, .int (nI x))] [] S (some (.int 1)) (S1) := by
  refine Bod.go dc_400_0 rfl ?_
  refine Bod.sw (t := 348) dc_400_1 rfl rfl (by rw [sw3]; decide +kernel) ?_
  refine Bod.go dc_400_348 rfl ?_
  refine Bod.go dc_400_349 rfl ?_
  refine Bod.go dc_400_350 rfl ?_
  refine Bod.get dc_400_351 fr_400_493 (mk_61 _) rfl ?_
  refine Bod.eqI (nI t) (by first | assumption | rfl | exact congrArg nI (by omega) | (simp (disch := omega) only [rI, rIe, rA, rIA, rLA, rJA, rVI, rQI, rVA, rQA, upd_at,  rAI, rLI, rJI, nI_add, pk_sub, kc_0, kc_1, kc_2, kc_3, kc_4, kc_5, reduceIte, Nat.reduceEqDiff, Nat.add_zero, rI_hold, rI_hold, rL_hold, ht]; done)) ?_
  refine Bod.ic 2 (by decide) dc_400_354 ?_
  refine Bod.subN (t - 2) (by omega) (by omega) dc_400_355 ?_
  refine Bod.go dc_400_356 rfl ?_
  refine Bod.get dc_400_357 fr_400_493 (mk_61 _) rfl ?_
  refine Bod.eqI (nI t) (by first | assumption | rfl | exact congrArg nI (by omega) | (simp (disch := omega) only [rI, rIe, rA, rIA, rLA, rJA, rVI, rQI, rVA, rQA, upd_at,  rAI, rLI, rJI, nI_add, pk_sub, kc_0, kc_1, kc_2, kc_3, kc_4, kc_5, reduceIte, Nat.reduceEqDiff, Nat.add_zero, rI_hold, rI_hold, rL_hold, ht]; done)) ?_
  refine Bod.ic 1 (by decide) dc_400_360 ?_
  refine Bod.subN (t - 1) (by omega) (by omega) dc_400_361 ?_
  refine Bod.virt (r := []) dc_400_362 kr_400_663 ⟨Or.inl rfl, ow_416, cl_14⟩ (by rw [np_416]; rfl) (by rw [np_416]; rfl) (ob_of (mk_61 _)) (Nat.le_of_ble_eq_true rfl) (c1  ) ?_
  show Bod _ _ _ _ [_] _ _ _
  exact Bod.retZ dc_400_365 rt_400 (Or.inr rfl)
theorem rPl_24 {d : Nat} {S : cS} {op : Nat} {x : Nat} {t : Nat} {S1 : cS} (mop : op < 2 ^ 20) (mx : x < 2 ^ 20) (sw3 : op = 24) (ht : sI S 6151 = nI t) (mt : t < 20481) (b1 : 2 ≤ t) (b2 : 1 ≤ t) (c1 : Ans (d + 8) 416 [.ref 61, .int (nI x), .int (nI (t - 2)), .int (nI (t - 1))] S (some (.int (nI 0))) S1) : Bod (d + 8) 400 0 [(0, .ref 61), (1, .int (nI op)), (2, .int (nI x))] [] S (some (.int 0)) (S1) := by
  refine Bod.go dc_400_0 rfl ?_
  refine Bod.sw (t := 348) dc_400_1 rfl rfl (by rw [sw3]; decide +kernel) ?_
  refine Bod.go dc_400_348 rfl ?_
  refine Bod.go dc_400_349 rfl ?_
  refine Bod.go dc_400_350 rfl ?_
  refine Bod.get dc_400_351 fr_400_493 (mk_61 _) rfl ?_
  refine Bod.eqI (nI t) (by first | assumption | rfl | exact congrArg nI (by omega) | (simp (disch := omega) only [rI, rIe, rA, rIA, rLA, rJA, rVI, rQI, rVA, rQA, upd_at,  rAI, rLI, rJI, nI_add, pk_sub, kc_0, kc_1, kc_2, kc_3, kc_4, kc_5, reduceIte, Nat.reduceEqDiff, Nat.add_zero, rI_hold, rI_hold, rL_hold, ht]; done)) ?_
  refine Bod.ic 2 (by decide) dc_400_354 ?_
  refine Bod.subN (t - 2) (by omega) (by omega) dc_400_355 ?_
  refine Bod.go dc_400_356 rfl ?_
  refine Bod.get dc_400_357 fr_400_493 (mk_61 _) rfl ?_
  refine Bod.eqI (nI t) (by first | assumption | rfl | exact congrArg nI (by omega) | (simp (disch := omega) only [rI, rIe, rA, rIA, rLA, rJA, rVI, rQI, rVA, rQA, upd_at,  rAI, rLI, rJI, nI_add, pk_sub, kc_0, kc_1, kc_2, kc_3, kc_4, kc_5, reduceIte, Nat.reduceEqDiff, Nat.add_zero, rI_hold, rI_hold, rL_hold, ht]; done)) ?_
  refine Bod.ic 1 (by decide) dc_400_360 ?_
  refine Bod.subN (t - 1) (by omega) (by omega) dc_400_361 ?_
  refine Bod.virt (r := []) dc_400_362 kr_400_663 ⟨Or.inl rfl, ow_416, cl_14⟩ (by rw [np_416]; rfl) (by rw [np_416]; rfl) (ob_of (mk_61 _)) (Nat.le_of_ble_eq_true rfl) (c1  ) ?_
  show Bod _ _ _ _ [_] _ _ _
  exact Bod.retZ dc_400_365 rt_400 (Or.inl rfl)
theorem rPl_25 {d : Nat} {S : cS} {op : Nat} {x : Nat} {S1 : cS} (mop : op < 2 ^ 20) (mx : x < 2 ^ 20) (sw3 : op = 25) (c1 : Ans (d + 8) 417 [.ref 61] S (some (.int (nI 1))) S1) : Bod (d + 8) 400 0 [(0, .ref 61), (1, .int (nI op)), (2, .int (nI x))] [] S (some (.int 1)) (S1) := by
  refine Bod.go dc_400_0 rfl ?_
  refine Bod.sw (t := 366) dc_400_1 rfl rfl (by rw [sw3]; decide +kernel) ?_
  refine Bod.go dc_400_366 rfl ?_
  refine Bod.virt (r := []) dc_400_367 kr_400_666 ⟨Or.inl rfl, ow_417, cl_14⟩ (by rw [np_417]; rfl) (by rw [np_417]; rfl) (ob_of (mk_61 _)) (Nat.le_of_ble_eq_true rfl) (c1  ) ?_
  show Bod _ _ _ _ [_] _ _ _
  exact Bod.retZ dc_400_370 rt_400 (Or.inr rfl)
theorem rPl_26 {d : Nat} {S : cS} {op : Nat} {x : Nat} {S1 : cS} (mop : op < 2 ^ 20) (mx : x < 2 ^ 20) (sw3 : op = 25) (c1 : Ans (d + 8) 417 [.ref 61] S (some (.int (nI 0))) S1) : Bod (d + 8) 400 0 [(0, .ref 61), (1, .int (nI op)), (2, .int (nI x))] [] S (some (.int 0)) (S1) := by
  refine Bod.go dc_400_0 rfl ?_
  refine Bod.sw (t := 366) dc_400_1 rfl rfl (by rw [sw3]; decide +kernel) ?_
  refine Bod.go dc_400_366 rfl ?_
  refine Bod.virt (r := []) dc_400_367 kr_400_666 ⟨Or.inl rfl, ow_417, cl_14⟩ (by rw [np_417]; rfl) (by rw [np_417]; rfl) (ob_of (mk_61 _)) (Nat.le_of_ble_eq_true rfl) (c1  ) ?_
  show Bod _ _ _ _ [_] _ _ _
  exact Bod.retZ dc_400_370 rt_400 (Or.inl rfl)
theorem rPl_27 {d : Nat} {S : cS} {op : Nat} {x : Nat} {S1 : cS} (mop : op < 2 ^ 20) (mx : x < 2 ^ 20) (sw3 : op = 26) (c1 : Ans (d + 8) 419 [.ref 61, .int (nI x)] S (some (.int (nI 1))) S1) : Bod (d + 8) 400 0 [(0, .ref 61), (1, .int (nI op)), (2, .int (nI x))] [] S (some (.int 1)) (S1) := by
  refine Bod.go dc_400_0 rfl ?_
  refine Bod.sw (t := 371) dc_400_1 rfl rfl (by rw [sw3]; decide +kernel) ?_
  refine Bod.go dc_400_371 rfl ?_
  refine Bod.go dc_400_372 rfl ?_
  refine Bod.virt (r := []) dc_400_373 kr_400_669 ⟨Or.inl rfl, ow_419, cl_14⟩ (by rw [np_419]; rfl) (by rw [np_419]; rfl) (ob_of (mk_61 _)) (Nat.le_of_ble_eq_true rfl) (c1  ) ?_
  show Bod _ _ _ _ [_] _ _ _
  exact Bod.retZ dc_400_376 rt_400 (Or.inr rfl)
theorem rPl_28 {d : Nat} {S : cS} {op : Nat} {x : Nat} {S1 : cS} (mop : op < 2 ^ 20) (mx : x < 2 ^ 20) (sw3 : op = 26) (c1 : Ans (d + 8) 419 [.ref 61, .int (nI x)] S (some (.int (nI 0))) S1) : Bod (d + 8) 400 0 [(0, .ref 61), (1, .int (nI op)), (2, .int (nI x))] [] S (some (.int 0)) (S1) := by
  refine Bod.go dc_400_0 rfl ?_
  refine Bod.sw (t := 371) dc_400_1 rfl rfl (by rw [sw3]; decide +kernel) ?_
  refine Bod.go dc_400_371 rfl ?_
  refine Bod.go dc_400_372 rfl ?_
  refine Bod.virt (r := []) dc_400_373 kr_400_669 ⟨Or.inl rfl, ow_419, cl_14⟩ (by rw [np_419]; rfl) (by rw [np_419]; rfl) (ob_of (mk_61 _)) (Nat.le_of_ble_eq_true rfl) (c1  ) ?_
  show Bod _ _ _ _ [_] _ _ _
  exact Bod.retZ dc_400_376 rt_400 (Or.inl rfl)
theorem rPl_29 {d : Nat} {S : cS} {op : Nat} {x : Nat} {t : Nat} {S1 : cS} {t1 : Nat} (mop : op < 2 ^ 20) (mx : x < 2 ^ 20) (sw3 : op = 27) (ht : sI S 6151 = nI t) (mt : t < 20481) (b1 : 1 ≤ t) (c1 : Ans (d + 8) 391 [.ref 61, .int (nI (t - 1)), .int (nI t)] S none S1) (ht1 : sI S1 6151 = nI t1) (mt1 : t1 < 20481) : Bod (d + 8) 400 0 [(0, .ref 61), (1, .int (nI op)), (2, .int (nI x))] [] S (some (.int 1)) (wI 6151 (nI (t1 + 1)) S1) := by
  refine Bod.go dc_400_0 rfl ?_
  refine Bod.sw (t := 377) dc_400_1 rfl rfl (by rw [sw3]; decide +kernel) ?_
  refine Bod.go dc_400_377 rfl ?_
  refine Bod.go dc_400_378 rfl ?_
  refine Bod.get dc_400_379 fr_400_493 (mk_61 _) rfl ?_
  refine Bod.eqI (nI t) (by first | assumption | rfl | exact congrArg nI (by omega) | (simp (disch := omega) only [rI, rIe, rA, rIA, rLA, rJA, rVI, rQI, rVA, rQA, upd_at,  rAI, rLI, rJI, nI_add, pk_sub, kc_0, kc_1, kc_2, kc_3, kc_4, kc_5, reduceIte, Nat.reduceEqDiff, Nat.add_zero, rI_hold, rI_hold, rL_hold, ht]; done)) ?_
  refine Bod.ic 1 (by decide) dc_400_382 ?_
  refine Bod.subN (t - 1) (by omega) (by omega) dc_400_383 ?_
  refine Bod.go dc_400_384 rfl ?_
  refine Bod.get dc_400_385 fr_400_493 (mk_61 _) rfl ?_
  refine Bod.eqI (nI t) (by first | assumption | rfl | exact congrArg nI (by omega) | (simp (disch := omega) only [rI, rIe, rA, rIA, rLA, rJA, rVI, rQI, rVA, rQA, upd_at,  rAI, rLI, rJI, nI_add, pk_sub, kc_0, kc_1, kc_2, kc_3, kc_4, kc_5, reduceIte, Nat.reduceEqDiff, Nat.add_zero, rI_hold, rI_hold, rL_hold, ht]; done)) ?_
  refine Bod.virt (r := []) dc_400_388 kr_400_672 ⟨Or.inl rfl, ow_391, cl_14⟩ (by rw [np_391]; rfl) (by rw [np_391]; rfl) (ob_of (mk_61 _)) (Nat.le_of_ble_eq_true rfl) (c1  ) ?_
  show Bod _ _ _ _ [] _ _ _
  refine Bod.go dc_400_391 rfl ?_
  refine Bod.go dc_400_392 rfl ?_
  refine Bod.get dc_400_393 fr_400_493 (mk_61 _) rfl ?_
  refine Bod.eqI (nI t1) (by first | assumption | (simp (disch := omega) only [rI, rIe, rA, rIA, rLA, rJA, rVI, rQI, rVA, rQA, upd_at,  rAI, rLI, rJI, nI_add, pk_sub, kc_0, kc_1, kc_2, kc_3, kc_4, kc_5, reduceIte, Nat.reduceEqDiff, Nat.add_zero, rI_hold, rI_hold, rL_hold, ht, ht1]; done) | (simp (disch := omega) only [rI, rIe, rA, rIA, rLA, rJA, rVI, rQI, rVA, rQA, upd_at,  rAI, rLI, rJI, nI_add, pk_sub, kc_0, kc_1, kc_2, kc_3, kc_4, kc_5, reduceIte, Nat.reduceEqDiff, Nat.add_zero, rI_hold, rI_hold, rL_hold, ht, ht1]; exact congrArg nI (by omega))) ?_
  refine Bod.ic 1 (by decide) dc_400_396 ?_
  refine Bod.addN (t1 + 1) (by omega) dc_400_397 ?_
  refine Bod.put dc_400_398 fr_400_493 (mk_61 _) (Nat.le_of_ble_eq_true rfl) pf_14_51 (st_6151 _ _) (mu_I _ _ _) ?_
  refine Bod.ic 1 (by decide) dc_400_401 ?_
  exact Bod.retZ dc_400_402 rt_400 (Or.inr rfl)
theorem rPl_30 {d : Nat} {S : cS} {op : Nat} {x : Nat} {t : Nat} {S1 : cS} {t1 : Nat} {S2 : cS} {t2 : Nat} (mop : op < 2 ^ 20) (mx : x < 2 ^ 20) (sw3 : op = 28) (ht : sI S 6151 = nI t) (mt : t < 20481) (b1 : 2 ≤ t) (c1 : Ans (d + 8) 391 [.ref 61, .int (nI (t - 2)), .int (nI t)] S none S1) (ht1 : sI S1 6151 = nI t1) (mt1 : t1 < 20481) (b2 : 1 ≤ t1) (c2 : Ans (d + 8) 391 [.ref 61, .int (nI (t1 - 1)), .int (nI (t1 + 1))] S1 none S2) (ht2 : sI S2 6151 = nI t2) (mt2 : t2 < 20481) : Bod (d + 8) 400 0 [(0, .ref 61), (1, .int (nI op)), (2, .int (nI x))] [] S (some (.int 1)) (wI 6151 (nI (t2 + 2)) S2) := by
  refine Bod.go dc_400_0 rfl ?_
  refine Bod.sw (t := 403) dc_400_1 rfl rfl (by rw [sw3]; decide +kernel) ?_
  refine Bod.go dc_400_403 rfl ?_
  refine Bod.go dc_400_404 rfl ?_
  refine Bod.get dc_400_405 fr_400_493 (mk_61 _) rfl ?_
  refine Bod.eqI (nI t) (by first | assumption | rfl | exact congrArg nI (by omega) | (simp (disch := omega) only [rI, rIe, rA, rIA, rLA, rJA, rVI, rQI, rVA, rQA, upd_at,  rAI, rLI, rJI, nI_add, pk_sub, kc_0, kc_1, kc_2, kc_3, kc_4, kc_5, reduceIte, Nat.reduceEqDiff, Nat.add_zero, rI_hold, rI_hold, rL_hold, ht]; done)) ?_
  refine Bod.ic 2 (by decide) dc_400_408 ?_
  refine Bod.subN (t - 2) (by omega) (by omega) dc_400_409 ?_
  refine Bod.go dc_400_410 rfl ?_
  refine Bod.get dc_400_411 fr_400_493 (mk_61 _) rfl ?_
  refine Bod.eqI (nI t) (by first | assumption | rfl | exact congrArg nI (by omega) | (simp (disch := omega) only [rI, rIe, rA, rIA, rLA, rJA, rVI, rQI, rVA, rQA, upd_at,  rAI, rLI, rJI, nI_add, pk_sub, kc_0, kc_1, kc_2, kc_3, kc_4, kc_5, reduceIte, Nat.reduceEqDiff, Nat.add_zero, rI_hold, rI_hold, rL_hold, ht]; done)) ?_
  refine Bod.virt (r := []) dc_400_414 kr_400_672 ⟨Or.inl rfl, ow_391, cl_14⟩ (by rw [np_391]; rfl) (by rw [np_391]; rfl) (ob_of (mk_61 _)) (Nat.le_of_ble_eq_true rfl) (c1  ) ?_
  show Bod _ _ _ _ [] _ _ _
  refine Bod.go dc_400_417 rfl ?_
  refine Bod.go dc_400_418 rfl ?_
  refine Bod.get dc_400_419 fr_400_493 (mk_61 _) rfl ?_
  refine Bod.eqI (nI t1) (by first | assumption | (simp (disch := omega) only [rI, rIe, rA, rIA, rLA, rJA, rVI, rQI, rVA, rQA, upd_at,  rAI, rLI, rJI, nI_add, pk_sub, kc_0, kc_1, kc_2, kc_3, kc_4, kc_5, reduceIte, Nat.reduceEqDiff, Nat.add_zero, rI_hold, rI_hold, rL_hold, ht, ht1]; done) | (simp (disch := omega) only [rI, rIe, rA, rIA, rLA, rJA, rVI, rQI, rVA, rQA, upd_at,  rAI, rLI, rJI, nI_add, pk_sub, kc_0, kc_1, kc_2, kc_3, kc_4, kc_5, reduceIte, Nat.reduceEqDiff, Nat.add_zero, rI_hold, rI_hold, rL_hold, ht, ht1]; exact congrArg nI (by omega))) ?_
  refine Bod.ic 1 (by decide) dc_400_422 ?_
  refine Bod.subN (t1 - 1) (by omega) (by omega) dc_400_423 ?_
  refine Bod.go dc_400_424 rfl ?_
  refine Bod.get dc_400_425 fr_400_493 (mk_61 _) rfl ?_
  refine Bod.eqI (nI t1) (by first | assumption | (simp (disch := omega) only [rI, rIe, rA, rIA, rLA, rJA, rVI, rQI, rVA, rQA, upd_at,  rAI, rLI, rJI, nI_add, pk_sub, kc_0, kc_1, kc_2, kc_3, kc_4, kc_5, reduceIte, Nat.reduceEqDiff, Nat.add_zero, rI_hold, rI_hold, rL_hold, ht, ht1]; done) | (simp (disch := omega) only [rI, rIe, rA, rIA, rLA, rJA, rVI, rQI, rVA, rQA, upd_at,  rAI, rLI, rJI, nI_add, pk_sub, kc_0, kc_1, kc_2, kc_3, kc_4, kc_5, reduceIte, Nat.reduceEqDiff, Nat.add_zero, rI_hold, rI_hold, rL_hold, ht, ht1]; exact congrArg nI (by omega))) ?_
  refine Bod.ic 1 (by decide) dc_400_428 ?_
  refine Bod.addN (t1 + 1) (by omega) dc_400_429 ?_
  refine Bod.virt (r := []) dc_400_430 kr_400_672 ⟨Or.inl rfl, ow_391, cl_14⟩ (by rw [np_391]; rfl) (by rw [np_391]; rfl) (ob_of (mk_61 _)) (Nat.le_of_ble_eq_true rfl) (c2  ) ?_
  show Bod _ _ _ _ [] _ _ _
  refine Bod.go dc_400_433 rfl ?_
  refine Bod.go dc_400_434 rfl ?_
  refine Bod.get dc_400_435 fr_400_493 (mk_61 _) rfl ?_
  refine Bod.eqI (nI t2) (by first | assumption | (simp (disch := omega) only [rI, rIe, rA, rIA, rLA, rJA, rVI, rQI, rVA, rQA, upd_at,  rAI, rLI, rJI, nI_add, pk_sub, kc_0, kc_1, kc_2, kc_3, kc_4, kc_5, reduceIte, Nat.reduceEqDiff, Nat.add_zero, rI_hold, rI_hold, rL_hold, ht, ht1, ht2]; done) | (simp (disch := omega) only [rI, rIe, rA, rIA, rLA, rJA, rVI, rQI, rVA, rQA, upd_at,  rAI, rLI, rJI, nI_add, pk_sub, kc_0, kc_1, kc_2, kc_3, kc_4, kc_5, reduceIte, Nat.reduceEqDiff, Nat.add_zero, rI_hold, rI_hold, rL_hold, ht, ht1, ht2]; exact congrArg nI (by omega))) ?_
  refine Bod.ic 2 (by decide) dc_400_438 ?_
  refine Bod.addN (t2 + 2) (by omega) dc_400_439 ?_
  refine Bod.put dc_400_440 fr_400_493 (mk_61 _) (Nat.le_of_ble_eq_true rfl) pf_14_51 (st_6151 _ _) (mu_I _ _ _) ?_
  refine Bod.ic 1 (by decide) dc_400_443 ?_
  exact Bod.retZ dc_400_444 rt_400 (Or.inr rfl)
theorem rPl_31 {d : Nat} {S : cS} {op : Nat} {x : Nat} {S1 : cS} (mop : op < 2 ^ 20) (mx : x < 2 ^ 20) (sw3 : op = 29) (c1 : Ans (d + 8) 420 [.ref 61] S (some (.int (nI 1))) S1) : Bod (d + 8) 400 0 [(0, .ref 61), (1, .int (nI op)), (2, .int (nI x))] [] S (some (.int 1)) (S1) := by
  refine Bod.go dc_400_0 rfl ?_
  refine Bod.sw (t := 445) dc_400_1 rfl rfl (by rw [sw3]; decide +kernel) ?_
  refine Bod.go dc_400_445 rfl ?_
  refine Bod.virt (r := []) dc_400_446 kr_400_675 ⟨Or.inl rfl, ow_420, cl_14⟩ (by rw [np_420]; rfl) (by rw [np_420]; rfl) (ob_of (mk_61 _)) (Nat.le_of_ble_eq_true rfl) (c1  ) ?_
  show Bod _ _ _ _ [_] _ _ _
  exact Bod.retZ dc_400_449 rt_400 (Or.inr rfl)
theorem rPl_32 {d : Nat} {S : cS} {op : Nat} {x : Nat} {S1 : cS} (mop : op < 2 ^ 20) (mx : x < 2 ^ 20) (sw3 : op = 29) (c1 : Ans (d + 8) 420 [.ref 61] S (some (.int (nI 0))) S1) : Bod (d + 8) 400 0 [(0, .ref 61), (1, .int (nI op)), (2, .int (nI x))] [] S (some (.int 0)) (S1) := by
  refine Bod.go dc_400_0 rfl ?_
  refine Bod.sw (t := 445) dc_400_1 rfl rfl (by rw [sw3]; decide +kernel) ?_
  refine Bod.go dc_400_445 rfl ?_
  refine Bod.virt (r := []) dc_400_446 kr_400_675 ⟨Or.inl rfl, ow_420, cl_14⟩ (by rw [np_420]; rfl) (by rw [np_420]; rfl) (ob_of (mk_61 _)) (Nat.le_of_ble_eq_true rfl) (c1  ) ?_
  show Bod _ _ _ _ [_] _ _ _
  exact Bod.retZ dc_400_449 rt_400 (Or.inl rfl)
theorem rPl_33 {d : Nat} {S : cS} {op : Nat} {x : Nat} {t : Nat} {e91 : Nat} {S1 : cS} (mop : op < 2 ^ 20) (mx : x < 2 ^ 20) (sw3 : op = 30) (ht : sI S 6151 = nI t) (mt : t < 20481) (b1 : 1 ≤ t) (he91 : sA S 91 (t - 1) = nI e91) (me91 : e91 < 2 ^ 20) (b2 : e91 ≠ 1) (c1 : Ans (d + 8) 351 [.ref 61, .int (nI 2)] S (some (.int (nI 0))) S1) : Bod (d + 8) 400 0 [(0, .ref 61), (1, .int (nI op)), (2, .int (nI x))] [] S (some (.int 0)) (S1) := by
  refine Bod.go dc_400_0 rfl ?_
  refine Bod.sw (t := 450) dc_400_1 rfl rfl (by rw [sw3]; decide +kernel) ?_
  refine Bod.go dc_400_450 rfl ?_
  refine Bod.get dc_400_451 fr_400_496 (mk_61 _) rfl ?_
  refine Bod.go dc_400_454 rfl ?_
  refine Bod.get dc_400_455 fr_400_493 (mk_61 _) rfl ?_
  refine Bod.eqI (nI t) (by first | assumption | rfl | exact congrArg nI (by omega) | (simp (disch := omega) only [rI, rIe, rA, rIA, rLA, rJA, rVI, rQI, rVA, rQA, upd_at,  rAI, rLI, rJI, nI_add, pk_sub, kc_0, kc_1, kc_2, kc_3, kc_4, kc_5, reduceIte, Nat.reduceEqDiff, Nat.add_zero, rI_hold, rI_hold, rL_hold, ht]; done)) ?_
  refine Bod.ic 1 (by decide) dc_400_458 ?_
  refine Bod.subN (t - 1) (by omega) (by omega) dc_400_459 ?_
  refine Bod.ialdN (t - 1) rfl (by omega) (by omega) dc_400_460 (mk_91 _) ?_
  refine Bod.eqI (nI e91) (by first | assumption | rfl | exact congrArg nI (by omega) | (simp (disch := omega) only [rI, rIe, rA, rIA, rLA, rJA, rVI, rQI, rVA, rQA, upd_at,  rAI, rLI, rJI, nI_add, pk_sub, kc_0, kc_1, kc_2, kc_3, kc_4, kc_5, reduceIte, Nat.reduceEqDiff, Nat.add_zero, rI_hold, rI_hold, rL_hold, ht, he91]; done)) ?_
  refine Bod.ic 1 (by decide) dc_400_461 ?_
  refine Bod.icT dc_400_462 rfl (k2_ne_T (k_ne e91 1 rfl rfl (by omega) (by omega) (by omega))) ?_
  refine Bod.go dc_400_488 rfl ?_
  refine Bod.ic 2 (by decide) dc_400_489 ?_
  refine Bod.virt (r := []) dc_400_490 kr_400_608 ⟨Or.inl rfl, ow_351, cl_14⟩ (by rw [np_351]; rfl) (by rw [np_351]; rfl) (ob_of (mk_61 _)) (Nat.le_of_ble_eq_true rfl) (c1  ) ?_
  show Bod _ _ _ _ [_] _ _ _
  exact Bod.retZ dc_400_493 rt_400 (Or.inl rfl)
theorem rPl_34 {d : Nat} {S : cS} {op : Nat} {x : Nat} {t : Nat} {e91 : Nat} {S1 : cS} {t1 : Nat} {o : Nat} {S2 : cS} (mop : op < 2 ^ 20) (mx : x < 2 ^ 20) (sw3 : op = 30) (ht : sI S 6151 = nI t) (mt : t < 20481) (b1 : 1 ≤ t) (he91 : sA S 91 (t - 1) = nI e91) (me91 : e91 < 2 ^ 20) (b2 : e91 = 1) (c1 : Ans (d + 8) 284 [.long (sL S 92 (t - 1)), .long ((10)), .long ((99))] S (some (.int (nI 1))) S1) (ht1 : sI S1 6151 = nI t1) (mt1 : t1 < 20481) (b3 : 1 ≤ t1) (ho : (sL S1 92 (t1 - 1)).toInt32 = nI o) (mo : o < 1500) (c2 : Ans (d + 8) 351 [.ref 61, .int (nI o)] S1 (some (.int (nI 0))) S2) : Bod (d + 8) 400 0 [(0, .ref 61), (1, .int (nI op)), (2, .int (nI x))] [] S (some (.int 0)) (S2) := by
  refine Bod.go dc_400_0 rfl ?_
  refine Bod.sw (t := 450) dc_400_1 rfl rfl (by rw [sw3]; decide +kernel) ?_
  refine Bod.go dc_400_450 rfl ?_
  refine Bod.get dc_400_451 fr_400_496 (mk_61 _) rfl ?_
  refine Bod.go dc_400_454 rfl ?_
  refine Bod.get dc_400_455 fr_400_493 (mk_61 _) rfl ?_
  refine Bod.eqI (nI t) (by first | assumption | rfl | exact congrArg nI (by omega) | (simp (disch := omega) only [rI, rIe, rA, rIA, rLA, rJA, rVI, rQI, rVA, rQA, upd_at,  rAI, rLI, rJI, nI_add, pk_sub, kc_0, kc_1, kc_2, kc_3, kc_4, kc_5, reduceIte, Nat.reduceEqDiff, Nat.add_zero, rI_hold, rI_hold, rL_hold, ht]; done)) ?_
  refine Bod.ic 1 (by decide) dc_400_458 ?_
  refine Bod.subN (t - 1) (by omega) (by omega) dc_400_459 ?_
  refine Bod.ialdN (t - 1) rfl (by omega) (by omega) dc_400_460 (mk_91 _) ?_
  refine Bod.eqI (nI e91) (by first | assumption | rfl | exact congrArg nI (by omega) | (simp (disch := omega) only [rI, rIe, rA, rIA, rLA, rJA, rVI, rQI, rVA, rQA, upd_at,  rAI, rLI, rJI, nI_add, pk_sub, kc_0, kc_1, kc_2, kc_3, kc_4, kc_5, reduceIte, Nat.reduceEqDiff, Nat.add_zero, rI_hold, rI_hold, rL_hold, ht, he91]; done)) ?_
  refine Bod.ic 1 (by decide) dc_400_461 ?_
  refine Bod.icF dc_400_462 rfl (k2_ne_F (k_eq e91 1 rfl rfl (by omega))) ?_
  refine Bod.go dc_400_465 rfl ?_
  refine Bod.get dc_400_466 fr_400_499 (mk_61 _) rfl ?_
  refine Bod.go dc_400_469 rfl ?_
  refine Bod.get dc_400_470 fr_400_493 (mk_61 _) rfl ?_
  refine Bod.eqI (nI t) (by first | assumption | rfl | exact congrArg nI (by omega) | (simp (disch := omega) only [rI, rIe, rA, rIA, rLA, rJA, rVI, rQI, rVA, rQA, upd_at,  rAI, rLI, rJI, nI_add, pk_sub, kc_0, kc_1, kc_2, kc_3, kc_4, kc_5, reduceIte, Nat.reduceEqDiff, Nat.add_zero, rI_hold, rI_hold, rL_hold, ht, he91]; done)) ?_
  refine Bod.ic 1 (by decide) dc_400_473 ?_
  refine Bod.subN (t - 1) (by omega) (by omega) dc_400_474 ?_
  refine Bod.laldN (t - 1) rfl (by omega) (by omega) dc_400_475 (mk_92 _) ?_
  refine Bod.ldc2 dc_400_476 cj_400_171 ?_
  refine Bod.ldc2 dc_400_479 cj_400_678 ?_
  refine Bod.stat (r := []) dc_400_482 kr_400_680 (Or.inl rfl) (by rw [np_284]; rfl) (by rw [np_284]; rfl) (by rw [np_284]; exact Nat.le_of_ble_eq_true rfl) (Nat.le_of_ble_eq_true rfl) (c1  ) ?_
  show Bod _ _ _ _ [_] _ _ _
  refine Bod.ifT dc_400_485 rfl (k1_ne_T (k_ne 1 0 rfl rfl (by omega) (by omega) (by omega))) ?_
  refine Bod.go dc_400_494 rfl ?_
  refine Bod.go dc_400_495 rfl ?_
  refine Bod.get dc_400_496 fr_400_499 (mk_61 _) rfl ?_
  refine Bod.go dc_400_499 rfl ?_
  refine Bod.get dc_400_500 fr_400_493 (mk_61 _) rfl ?_
  refine Bod.eqI (nI t1) (by first | assumption | (simp (disch := omega) only [rI, rIe, rA, rIA, rLA, rJA, rVI, rQI, rVA, rQA, upd_at,  rAI, rLI, rJI, nI_add, pk_sub, kc_0, kc_1, kc_2, kc_3, kc_4, kc_5, reduceIte, Nat.reduceEqDiff, Nat.add_zero, rI_hold, rI_hold, rL_hold, ht, he91, ht1]; done) | (simp (disch := omega) only [rI, rIe, rA, rIA, rLA, rJA, rVI, rQI, rVA, rQA, upd_at,  rAI, rLI, rJI, nI_add, pk_sub, kc_0, kc_1, kc_2, kc_3, kc_4, kc_5, reduceIte, Nat.reduceEqDiff, Nat.add_zero, rI_hold, rI_hold, rL_hold, ht, he91, ht1]; exact congrArg nI (by omega))) ?_
  refine Bod.ic 1 (by decide) dc_400_503 ?_
  refine Bod.subN (t1 - 1) (by omega) (by omega) dc_400_504 ?_
  refine Bod.laldN (t1 - 1) rfl (by omega) (by omega) dc_400_505 (mk_92 _) ?_
  refine Bod.go dc_400_506 rfl ?_
  refine Bod.eqI (nI o) (by first | exact ho | (simp only [rI, rIe, rA, rIA, rLA, rJA, rVI, rQI, rVA, rQA, upd_at,  rAI, rLI, rJI, nI_add, pk_sub, kc_0, kc_1, kc_2, kc_3, kc_4, kc_5, reduceIte, Nat.reduceEqDiff, Nat.add_zero, rI_hold, rI_hold, rL_hold]; exact ho)) ?_
  refine Bod.virt (r := []) dc_400_507 kr_400_608 ⟨Or.inl rfl, ow_351, cl_14⟩ (by rw [np_351]; rfl) (by rw [np_351]; rfl) (ob_of (mk_61 _)) (Nat.le_of_ble_eq_true rfl) (c2  ) ?_
  show Bod _ _ _ _ [_] _ _ _
  exact Bod.retZ dc_400_510 rt_400 (Or.inl rfl)
theorem rPl_35 {d : Nat} {S : cS} {op : Nat} {x : Nat} {t : Nat} {e91 : Nat} {S1 : cS} {S2 : cS} (mop : op < 2 ^ 20) (mx : x < 2 ^ 20) (sw3 : op = 30) (ht : sI S 6151 = nI t) (mt : t < 20481) (b1 : 1 ≤ t) (he91 : sA S 91 (t - 1) = nI e91) (me91 : e91 < 2 ^ 20) (b2 : e91 = 1) (c1 : Ans (d + 8) 284 [.long (sL S 92 (t - 1)), .long ((10)), .long ((99))] S (some (.int (nI 0))) S1) (c2 : Ans (d + 8) 351 [.ref 61, .int (nI 2)] S1 (some (.int (nI 0))) S2) : Bod (d + 8) 400 0 [(0, .ref 61), (1, .int (nI op)), (2, .int (nI x))] [] S (some (.int 0)) (S2) := by
  refine Bod.go dc_400_0 rfl ?_
  refine Bod.sw (t := 450) dc_400_1 rfl rfl (by rw [sw3]; decide +kernel) ?_
  refine Bod.go dc_400_450 rfl ?_
  refine Bod.get dc_400_451 fr_400_496 (mk_61 _) rfl ?_
  refine Bod.go dc_400_454 rfl ?_
  refine Bod.get dc_400_455 fr_400_493 (mk_61 _) rfl ?_
  refine Bod.eqI (nI t) (by first | assumption | rfl | exact congrArg nI (by omega) | (simp (disch := omega) only [rI, rIe, rA, rIA, rLA, rJA, rVI, rQI, rVA, rQA, upd_at,  rAI, rLI, rJI, nI_add, pk_sub, kc_0, kc_1, kc_2, kc_3, kc_4, kc_5, reduceIte, Nat.reduceEqDiff, Nat.add_zero, rI_hold, rI_hold, rL_hold, ht]; done)) ?_
  refine Bod.ic 1 (by decide) dc_400_458 ?_
  refine Bod.subN (t - 1) (by omega) (by omega) dc_400_459 ?_
  refine Bod.ialdN (t - 1) rfl (by omega) (by omega) dc_400_460 (mk_91 _) ?_
  refine Bod.eqI (nI e91) (by first | assumption | rfl | exact congrArg nI (by omega) | (simp (disch := omega) only [rI, rIe, rA, rIA, rLA, rJA, rVI, rQI, rVA, rQA, upd_at,  rAI, rLI, rJI, nI_add, pk_sub, kc_0, kc_1, kc_2, kc_3, kc_4, kc_5, reduceIte, Nat.reduceEqDiff, Nat.add_zero, rI_hold, rI_hold, rL_hold, ht, he91]; done)) ?_
  refine Bod.ic 1 (by decide) dc_400_461 ?_
  refine Bod.icF dc_400_462 rfl (k2_ne_F (k_eq e91 1 rfl rfl (by omega))) ?_
  refine Bod.go dc_400_465 rfl ?_
  refine Bod.get dc_400_466 fr_400_499 (mk_61 _) rfl ?_
  refine Bod.go dc_400_469 rfl ?_
  refine Bod.get dc_400_470 fr_400_493 (mk_61 _) rfl ?_
  refine Bod.eqI (nI t) (by first | assumption | rfl | exact congrArg nI (by omega) | (simp (disch := omega) only [rI, rIe, rA, rIA, rLA, rJA, rVI, rQI, rVA, rQA, upd_at,  rAI, rLI, rJI, nI_add, pk_sub, kc_0, kc_1, kc_2, kc_3, kc_4, kc_5, reduceIte, Nat.reduceEqDiff, Nat.add_zero, rI_hold, rI_hold, rL_hold, ht, he91]; done)) ?_
  refine Bod.ic 1 (by decide) dc_400_473 ?_
  refine Bod.subN (t - 1) (by omega) (by omega) dc_400_474 ?_
  refine Bod.laldN (t - 1) rfl (by omega) (by omega) dc_400_475 (mk_92 _) ?_
  refine Bod.ldc2 dc_400_476 cj_400_171 ?_
  refine Bod.ldc2 dc_400_479 cj_400_678 ?_
  refine Bod.stat (r := []) dc_400_482 kr_400_680 (Or.inl rfl) (by rw [np_284]; rfl) (by rw [np_284]; rfl) (by rw [np_284]; exact Nat.le_of_ble_eq_true rfl) (Nat.le_of_ble_eq_true rfl) (c1  ) ?_
  show Bod _ _ _ _ [_] _ _ _
  refine Bod.ifF dc_400_485 rfl (k1_ne_F (k_eq 0 0 rfl rfl (by omega))) ?_
  refine Bod.go dc_400_488 rfl ?_
  refine Bod.ic 2 (by decide) dc_400_489 ?_
  refine Bod.virt (r := []) dc_400_490 kr_400_608 ⟨Or.inl rfl, ow_351, cl_14⟩ (by rw [np_351]; rfl) (by rw [np_351]; rfl) (ob_of (mk_61 _)) (Nat.le_of_ble_eq_true rfl) (c2  ) ?_
  show Bod _ _ _ _ [_] _ _ _
  exact Bod.retZ dc_400_493 rt_400 (Or.inl rfl)
theorem rPl_36 {d : Nat} {S : cS} {op : Nat} {x : Nat} {t : Nat} {S1 : cS} {S2 : cS} (mop : op < 2 ^ 20) (mx : x < 2 ^ 20) (sw3 : op = 31) (ht : sI S 6151 = nI t) (mt : t < 20481) (b1 : 1 ≤ t) (c1 : Ans (d + 8) 363 [.ref 61, .int (nI (t - 1)), .int (nI 1)] S (some (.int (nI 1))) S1) (c2 : Ans (d + 8) 353 [.ref 61, .long 0] S1 none S2) : Bod (d + 8) 400 0 [(0, .ref 61), (1, .int (nI op)), (2, .int (nI x))] [] S (some (.int 1)) (S2) := by
  refine Bod.go dc_400_0 rfl ?_
  refine Bod.sw (t := 511) dc_400_1 rfl rfl (by rw [sw3]; decide +kernel) ?_
  refine Bod.go dc_400_511 rfl ?_
  refine Bod.go dc_400_512 rfl ?_
  refine Bod.get dc_400_513 fr_400_493 (mk_61 _) rfl ?_
  refine Bod.eqI (nI t) (by first | assumption | rfl | exact congrArg nI (by omega) | (simp (disch := omega) only [rI, rIe, rA, rIA, rLA, rJA, rVI, rQI, rVA, rQA, upd_at,  rAI, rLI, rJI, nI_add, pk_sub, kc_0, kc_1, kc_2, kc_3, kc_4, kc_5, reduceIte, Nat.reduceEqDiff, Nat.add_zero, rI_hold, rI_hold, rL_hold, ht]; done)) ?_
  refine Bod.ic 1 (by decide) dc_400_516 ?_
  refine Bod.subN (t - 1) (by omega) (by omega) dc_400_517 ?_
  refine Bod.ic 1 (by decide) dc_400_518 ?_
  refine Bod.virt (r := []) dc_400_519 kr_400_683 ⟨Or.inl rfl, ow_363, cl_14⟩ (by rw [np_363]; rfl) (by rw [np_363]; rfl) (ob_of (mk_61 _)) (Nat.le_of_ble_eq_true rfl) (c1  ) ?_
  show Bod _ _ _ _ [_] _ _ _
  refine Bod.ifT dc_400_522 rfl (k1_ne_T (k_ne 1 0 rfl rfl (by omega) (by omega) (by omega))) ?_
  refine Bod.go dc_400_531 rfl ?_
  refine Bod.go dc_400_532 rfl ?_
  refine Bod.virt (r := []) dc_400_533 kr_400_613 ⟨Or.inl rfl, ow_353, cl_14⟩ (by rw [np_353]; rfl) (by rw [np_353]; rfl) (ob_of (mk_61 _)) (Nat.le_of_ble_eq_true rfl) (c2  ) ?_
  show Bod _ _ _ _ [] _ _ _
  refine Bod.ic 1 (by decide) dc_400_536 ?_
  exact Bod.retZ dc_400_537 rt_400 (Or.inr rfl)
theorem rPl_37 {d : Nat} {S : cS} {op : Nat} {x : Nat} {t : Nat} {S1 : cS} {S2 : cS} (mop : op < 2 ^ 20) (mx : x < 2 ^ 20) (sw3 : op = 31) (ht : sI S 6151 = nI t) (mt : t < 20481) (b1 : 1 ≤ t) (c1 : Ans (d + 8) 363 [.ref 61, .int (nI (t - 1)), .int (nI 1)] S (some (.int (nI 0))) S1) (c2 : Ans (d + 8) 351 [.ref 61, .int (nI 2)] S1 (some (.int (nI 0))) S2) : Bod (d + 8) 400 0 [(0, .ref 61), (1, .int (nI op)), (2, .int (nI x))] [] S (some (.int 0)) (S2) := by
  refine Bod.go dc_400_0 rfl ?_
  refine Bod.sw (t := 511) dc_400_1 rfl rfl (by rw [sw3]; decide +kernel) ?_
  refine Bod.go dc_400_511 rfl ?_
  refine Bod.go dc_400_512 rfl ?_
  refine Bod.get dc_400_513 fr_400_493 (mk_61 _) rfl ?_
  refine Bod.eqI (nI t) (by first | assumption | rfl | exact congrArg nI (by omega) | (simp (disch := omega) only [rI, rIe, rA, rIA, rLA, rJA, rVI, rQI, rVA, rQA, upd_at,  rAI, rLI, rJI, nI_add, pk_sub, kc_0, kc_1, kc_2, kc_3, kc_4, kc_5, reduceIte, Nat.reduceEqDiff, Nat.add_zero, rI_hold, rI_hold, rL_hold, ht]; done)) ?_
  refine Bod.ic 1 (by decide) dc_400_516 ?_
  refine Bod.subN (t - 1) (by omega) (by omega) dc_400_517 ?_
  refine Bod.ic 1 (by decide) dc_400_518 ?_
  refine Bod.virt (r := []) dc_400_519 kr_400_683 ⟨Or.inl rfl, ow_363, cl_14⟩ (by rw [np_363]; rfl) (by rw [np_363]; rfl) (ob_of (mk_61 _)) (Nat.le_of_ble_eq_true rfl) (c1  ) ?_
  show Bod _ _ _ _ [_] _ _ _
  refine Bod.ifF dc_400_522 rfl (k1_ne_F (k_eq 0 0 rfl rfl (by omega))) ?_
  refine Bod.go dc_400_525 rfl ?_
  refine Bod.ic 2 (by decide) dc_400_526 ?_
  refine Bod.virt (r := []) dc_400_527 kr_400_608 ⟨Or.inl rfl, ow_351, cl_14⟩ (by rw [np_351]; rfl) (by rw [np_351]; rfl) (ob_of (mk_61 _)) (Nat.le_of_ble_eq_true rfl) (c2  ) ?_
  show Bod _ _ _ _ [_] _ _ _
  exact Bod.retZ dc_400_530 rt_400 (Or.inl rfl)
theorem rPl_38 {d : Nat} {S : cS} {op : Nat} {x : Nat} {t : Nat} (mop : op < 2 ^ 20) (mx : x < 2 ^ 20) (sw3 : op = 33) (ht : sI S 6151 = nI t) (mt : t < 20481) (b1 : 2 ≤ t) : Bod (d + 8) 400 0 [(0, .ref 61), (1, .int (nI op)), (2, .int (nI x))] [] S (some (.int 1)) (wI 6151 (nI (t - 2)) S) := by
  refine Bod.go dc_400_0 rfl ?_
  refine Bod.sw (t := 538) dc_400_1 rfl rfl (by rw [sw3]; decide +kernel) ?_
  refine Bod.go dc_400_538 rfl ?_
  refine Bod.go dc_400_539 rfl ?_
  refine Bod.get dc_400_540 fr_400_493 (mk_61 _) rfl ?_
  refine Bod.eqI (nI t) (by first | assumption | rfl | exact congrArg nI (by omega) | (simp (disch := omega) only [rI, rIe, rA, rIA, rLA, rJA, rVI, rQI, rVA, rQA, upd_at,  rAI, rLI, rJI, nI_add, pk_sub, kc_0, kc_1, kc_2, kc_3, kc_4, kc_5, reduceIte, Nat.reduceEqDiff, Nat.add_zero, rI_hold, rI_hold, rL_hold, ht]; done)) ?_
  refine Bod.ic 2 (by decide) dc_400_543 ?_
  refine Bod.subN (t - 2) (by omega) (by omega) dc_400_544 ?_
  refine Bod.put dc_400_545 fr_400_493 (mk_61 _) (Nat.le_of_ble_eq_true rfl) pf_14_51 (st_6151 _ _) (mu_I _ _ _) ?_
  refine Bod.ic 1 (by decide) dc_400_548 ?_
  exact Bod.retZ dc_400_549 rt_400 (Or.inr rfl)
theorem rPl_39 {d : Nat} {S : cS} {op : Nat} {x : Nat} {tr : Nat} (mop : op < 2 ^ 20) (mx : x < 2 ^ 20) (sw3 : op = 35) (htr : sI S 6163 = nI tr) (mtr : tr < 401) (b1 : 1 ≤ tr) : Bod (d + 8) 400 0 [(0, .ref 61), (1, .int (nI op)), (2, .int (nI x))] [] S (some (.int 1)) (wI 6163 (nI (tr - 1)) S) := by
  refine Bod.go dc_400_0 rfl ?_
  refine Bod.sw (t := 550) dc_400_1 rfl rfl (by rw [sw3]; decide +kernel) ?_
  refine Bod.go dc_400_550 rfl ?_
  refine Bod.go dc_400_551 rfl ?_
  refine Bod.get dc_400_552 fr_400_558 (mk_61 _) rfl ?_
  refine Bod.eqI (nI tr) (by first | assumption | rfl | exact congrArg nI (by omega) | (simp (disch := omega) only [rI, rIe, rA, rIA, rLA, rJA, rVI, rQI, rVA, rQA, upd_at,  rAI, rLI, rJI, nI_add, pk_sub, kc_0, kc_1, kc_2, kc_3, kc_4, kc_5, reduceIte, Nat.reduceEqDiff, Nat.add_zero, rI_hold, rI_hold, rL_hold, htr]; done)) ?_
  refine Bod.ic 1 (by decide) dc_400_555 ?_
  refine Bod.subN (tr - 1) (by omega) (by omega) dc_400_556 ?_
  refine Bod.put dc_400_557 fr_400_558 (mk_61 _) (Nat.le_of_ble_eq_true rfl) pf_14_63 (st_6163 _ _) (mu_I _ _ _) ?_
  refine Bod.ic 1 (by decide) dc_400_560 ?_
  exact Bod.retZ dc_400_561 rt_400 (Or.inr rfl)
theorem rPl_40 {d : Nat} {S : cS} {op : Nat} {x : Nat} {ca : Nat} {S1 : cS} (mop : op < 2 ^ 20) (mx : x < 2 ^ 20) (sw3 : op = 36) (hca : sI S 6167 = nI ca) (mca : ca < 2 ^ 20) (c1 : Ans (d + 8) 353 [.ref 61, .long ((nI ca).toInt64)] S none S1) : Bod (d + 8) 400 0 [(0, .ref 61), (1, .int (nI op)), (2, .int (nI x))] [] S (some (.int 1)) (S1) := by
  refine Bod.go dc_400_0 rfl ?_
  refine Bod.sw (t := 562) dc_400_1 rfl rfl (by rw [sw3]; decide +kernel) ?_
  refine Bod.go dc_400_562 rfl ?_
  refine Bod.go dc_400_563 rfl ?_
  refine Bod.get dc_400_564 fr_400_593 (mk_61 _) rfl ?_
  refine Bod.eqI (nI ca) (by first | assumption | rfl | exact congrArg nI (by omega) | (simp (disch := omega) only [rI, rIe, rA, rIA, rLA, rJA, rVI, rQI, rVA, rQA, upd_at,  rAI, rLI, rJI, nI_add, pk_sub, kc_0, kc_1, kc_2, kc_3, kc_4, kc_5, reduceIte, Nat.reduceEqDiff, Nat.add_zero, rI_hold, rI_hold, rL_hold, hca]; done)) ?_
  refine Bod.go dc_400_567 rfl ?_
  refine Bod.virt (r := []) dc_400_568 kr_400_613 ⟨Or.inl rfl, ow_353, cl_14⟩ (by rw [np_353]; rfl) (by rw [np_353]; rfl) (ob_of (mk_61 _)) (Nat.le_of_ble_eq_true rfl) (c1  ) ?_
  show Bod _ _ _ _ [] _ _ _
  refine Bod.ic 1 (by decide) dc_400_571 ?_
  exact Bod.retZ dc_400_572 rt_400 (Or.inr rfl)
theorem rPl_41 {d : Nat} {S : cS} {op : Nat} {x : Nat} {t : Nat} {S1 : cS} {t1 : Nat} (mop : op < 2 ^ 20) (mx : x < 2 ^ 20) (sw3 : op = 38) (ht : sI S 6151 = nI t) (mt : t < 20481) (b1 : 1 ≤ t) (b2 : x ≤ t - 1) (c1 : Ans (d + 8) 391 [.ref 61, .int (nI (t - 1)), .int (nI (t - 1 - x))] S none S1) (ht1 : sI S1 6151 = nI t1) (mt1 : t1 < 20481) (b3 : 1 ≤ t1) : Bod (d + 8) 400 0 [(0, .ref 61), (1, .int (nI op)), (2, .int (nI x))] [] S (some (.int 1)) (wI 6151 (nI (t1 - 1)) S1) := by
  refine Bod.go dc_400_0 rfl ?_
  refine Bod.sw (t := 670) dc_400_1 rfl rfl (by rw [sw3]; decide +kernel) ?_
  refine Bod.go dc_400_670 rfl ?_
  refine Bod.go dc_400_671 rfl ?_
  refine Bod.get dc_400_672 fr_400_493 (mk_61 _) rfl ?_
  refine Bod.eqI (nI t) (by first | assumption | rfl | exact congrArg nI (by omega) | (simp (disch := omega) only [rI, rIe, rA, rIA, rLA, rJA, rVI, rQI, rVA, rQA, upd_at,  rAI, rLI, rJI, nI_add, pk_sub, kc_0, kc_1, kc_2, kc_3, kc_4, kc_5, reduceIte, Nat.reduceEqDiff, Nat.add_zero, rI_hold, rI_hold, rL_hold, ht]; done)) ?_
  refine Bod.ic 1 (by decide) dc_400_675 ?_
  refine Bod.subN (t - 1) (by omega) (by omega) dc_400_676 ?_
  refine Bod.go dc_400_677 rfl ?_
  refine Bod.get dc_400_678 fr_400_493 (mk_61 _) rfl ?_
  refine Bod.eqI (nI t) (by first | assumption | rfl | exact congrArg nI (by omega) | (simp (disch := omega) only [rI, rIe, rA, rIA, rLA, rJA, rVI, rQI, rVA, rQA, upd_at,  rAI, rLI, rJI, nI_add, pk_sub, kc_0, kc_1, kc_2, kc_3, kc_4, kc_5, reduceIte, Nat.reduceEqDiff, Nat.add_zero, rI_hold, rI_hold, rL_hold, ht]; done)) ?_
  refine Bod.ic 1 (by decide) dc_400_681 ?_
  refine Bod.subN (t - 1) (by omega) (by omega) dc_400_682 ?_
  refine Bod.go dc_400_683 rfl ?_
  refine Bod.subN (t - 1 - x) (by omega) (by omega) dc_400_684 ?_
  refine Bod.virt (r := []) dc_400_685 kr_400_672 ⟨Or.inl rfl, ow_391, cl_14⟩ (by rw [np_391]; rfl) (by rw [np_391]; rfl) (ob_of (mk_61 _)) (Nat.le_of_ble_eq_true rfl) (c1  ) ?_
  show Bod _ _ _ _ [] _ _ _
  refine Bod.go dc_400_688 rfl ?_
  refine Bod.go dc_400_689 rfl ?_
  refine Bod.get dc_400_690 fr_400_493 (mk_61 _) rfl ?_
  refine Bod.eqI (nI t1) (by first | assumption | (simp (disch := omega) only [rI, rIe, rA, rIA, rLA, rJA, rVI, rQI, rVA, rQA, upd_at,  rAI, rLI, rJI, nI_add, pk_sub, kc_0, kc_1, kc_2, kc_3, kc_4, kc_5, reduceIte, Nat.reduceEqDiff, Nat.add_zero, rI_hold, rI_hold, rL_hold, ht, ht1]; done) | (simp (disch := omega) only [rI, rIe, rA, rIA, rLA, rJA, rVI, rQI, rVA, rQA, upd_at,  rAI, rLI, rJI, nI_add, pk_sub, kc_0, kc_1, kc_2, kc_3, kc_4, kc_5, reduceIte, Nat.reduceEqDiff, Nat.add_zero, rI_hold, rI_hold, rL_hold, ht, ht1]; exact congrArg nI (by omega))) ?_
  refine Bod.ic 1 (by decide) dc_400_693 ?_
  refine Bod.subN (t1 - 1) (by omega) (by omega) dc_400_694 ?_
  refine Bod.put dc_400_695 fr_400_493 (mk_61 _) (Nat.le_of_ble_eq_true rfl) pf_14_51 (st_6151 _ _) (mu_I _ _ _) ?_
  refine Bod.ic 1 (by decide) dc_400_698 ?_
  exact Bod.retZ dc_400_699 rt_400 (Or.inr rfl)
