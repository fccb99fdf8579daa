/-! WAYS of the reference's machine: every call is a hypothesis -/
theorem ml_381 : sm_ml 381 = 5 := by decide +kernel
theorem dc_381_0 : decode (sm_cc 381) 0 = .ok (.aload_n 0, 1) := by decide +kernel
theorem dc_381_1 : decode (sm_cc 381) 1 = .ok (.getfield 808, 3) := by decide +kernel
theorem fr_381_808 : sm_at mt_f (sm_ow 381) 808 = some (808, 14, 72, 0, 2145) := by decide +kernel
theorem dc_381_4 : decode (sm_cc 381) 4 = .ok (.istore_n 3, 1) := by decide +kernel
theorem dc_381_5 : decode (sm_cc 381) 5 = .ok (.aload_n 0, 1) := by decide +kernel
theorem dc_381_6 : decode (sm_cc 381) 6 = .ok (.iconst 0, 1) := by decide +kernel
theorem dc_381_7 : decode (sm_cc 381) 7 = .ok (.putfield 811, 3) := by decide +kernel
theorem fr_381_811 : sm_at mt_f (sm_ow 381) 811 = some (811, 14, 73, 0, 2146) := by decide +kernel
theorem dc_381_10 : decode (sm_cc 381) 10 = .ok (.iload_n 1, 1) := by decide +kernel
theorem dc_381_11 : decode (sm_cc 381) 11 = .ok (.iconst 1, 1) := by decide +kernel
theorem dc_381_12 : decode (sm_cc 381) 12 = .ok (.iadd, 1) := by decide +kernel
theorem dc_381_13 : decode (sm_cc 381) 13 = .ok (.istore 4, 2) := by decide +kernel
theorem dc_381_15 : decode (sm_cc 381) 15 = .ok (.iload 4, 2) := by decide +kernel
theorem dc_381_17 : decode (sm_cc 381) 17 = .ok (.iload_n 1, 1) := by decide +kernel
theorem dc_381_18 : decode (sm_cc 381) 18 = .ok (.iload_n 2, 1) := by decide +kernel
theorem dc_381_19 : decode (sm_cc 381) 19 = .ok (.iadd, 1) := by decide +kernel
theorem dc_381_20 : decode (sm_cc 381) 20 = .ok (.if_icmp .gt (49), 3) := by decide +kernel
theorem dc_381_69 : decode (sm_cc 381) 69 = .ok (.aload_n 0, 1) := by decide +kernel
theorem dc_381_70 : decode (sm_cc 381) 70 = .ok (.bipush (10), 2) := by decide +kernel
theorem dc_381_72 : decode (sm_cc 381) 72 = .ok (.invokevirtual 818, 3) := by decide +kernel
theorem ow_382 : 14 = sm_ow 382 := by decide +kernel
theorem kr_381_818 : sm_at mt_k (sm_ow 381) 818 = some (818, 0, 382, 0, 2848) := by decide +kernel
theorem np_382 : sm_np 382 = 1 := by decide +kernel
theorem dc_381_75 : decode (sm_cc 381) 75 = .ok (.aload_n 0, 1) := by decide +kernel
theorem dc_381_76 : decode (sm_cc 381) 76 = .ok (.getfield 811, 3) := by decide +kernel
theorem dc_381_79 : decode (sm_cc 381) 79 = .ok (.ifCond .eq (15), 3) := by decide +kernel
theorem dc_381_94 : decode (sm_cc 381) 94 = .ok (.aload_n 0, 1) := by decide +kernel
theorem dc_381_95 : decode (sm_cc 381) 95 = .ok (.iload_n 1, 1) := by decide +kernel
theorem dc_381_96 : decode (sm_cc 381) 96 = .ok (.putfield 493, 3) := by decide +kernel
theorem fr_381_493 : sm_at mt_f (sm_ow 381) 493 = some (493, 14, 51, 0, 2124) := by decide +kernel
theorem dc_381_99 : decode (sm_cc 381) 99 = .ok (.aload_n 0, 1) := by decide +kernel
theorem dc_381_100 : decode (sm_cc 381) 100 = .ok (.iconst 0, 1) := by decide +kernel
theorem dc_381_101 : decode (sm_cc 381) 101 = .ok (.lconst 0, 1) := by decide +kernel
theorem dc_381_102 : decode (sm_cc 381) 102 = .ok (.lconst 0, 1) := by decide +kernel
theorem dc_381_103 : decode (sm_cc 381) 103 = .ok (.invokevirtual 549, 3) := by decide +kernel
theorem kr_381_549 : sm_at mt_k (sm_ow 381) 549 = some (549, 0, 352, 0, 2668) := by decide +kernel
theorem dc_381_106 : decode (sm_cc 381) 106 = .ok (.iconst 1, 1) := by decide +kernel
theorem dc_381_107 : decode (sm_cc 381) 107 = .ok (.ireturn, 1) := by decide +kernel
theorem rt_381 : sm_rt 381 = some .boolean := by decide +kernel
theorem dc_381_82 : decode (sm_cc 381) 82 = .ok (.aload_n 0, 1) := by decide +kernel
theorem dc_381_83 : decode (sm_cc 381) 83 = .ok (.iload_n 3, 1) := by decide +kernel
theorem dc_381_84 : decode (sm_cc 381) 84 = .ok (.putfield 808, 3) := by decide +kernel
theorem dc_381_87 : decode (sm_cc 381) 87 = .ok (.aload_n 0, 1) := by decide +kernel
theorem dc_381_88 : decode (sm_cc 381) 88 = .ok (.bipush (8), 2) := by decide +kernel
theorem dc_381_90 : decode (sm_cc 381) 90 = .ok (.invokevirtual 608, 3) := by decide +kernel
theorem kr_381_608 : sm_at mt_k (sm_ow 381) 608 = some (608, 0, 351, 0, 2664) := by decide +kernel
theorem dc_381_93 : decode (sm_cc 381) 93 = .ok (.ireturn, 1) := by decide +kernel
theorem dc_381_23 : decode (sm_cc 381) 23 = .ok (.iload 4, 2) := by decide +kernel
theorem dc_381_25 : decode (sm_cc 381) 25 = .ok (.iload_n 1, 1) := by decide +kernel
theorem dc_381_26 : decode (sm_cc 381) 26 = .ok (.iconst 1, 1) := by decide +kernel
theorem dc_381_27 : decode (sm_cc 381) 27 = .ok (.iadd, 1) := by decide +kernel
theorem dc_381_28 : decode (sm_cc 381) 28 = .ok (.if_icmp .le (9), 3) := by decide +kernel
theorem dc_381_37 : decode (sm_cc 381) 37 = .ok (.aload_n 0, 1) := by decide +kernel
theorem dc_381_38 : decode (sm_cc 381) 38 = .ok (.aload_n 0, 1) := by decide +kernel
theorem dc_381_39 : decode (sm_cc 381) 39 = .ok (.getfield 496, 3) := by decide +kernel
theorem fr_381_496 : sm_at mt_f (sm_ow 381) 496 = some (496, 14, 48, 0, 2121) := by decide +kernel
theorem dc_381_42 : decode (sm_cc 381) 42 = .ok (.iload 4, 2) := by decide +kernel
theorem dc_381_44 : decode (sm_cc 381) 44 = .ok (.iaload, 1) := by decide +kernel
theorem dc_381_45 : decode (sm_cc 381) 45 = .ok (.aload_n 0, 1) := by decide +kernel
theorem dc_381_46 : decode (sm_cc 381) 46 = .ok (.getfield 499, 3) := by decide +kernel
theorem fr_381_499 : sm_at mt_f (sm_ow 381) 499 = some (499, 14, 49, 0, 2122) := by decide +kernel
theorem dc_381_49 : decode (sm_cc 381) 49 = .ok (.iload 4, 2) := by decide +kernel
theorem dc_381_51 : decode (sm_cc 381) 51 = .ok (.laload, 1) := by decide +kernel
theorem dc_381_52 : decode (sm_cc 381) 52 = .ok (.aload_n 0, 1) := by decide +kernel
theorem dc_381_53 : decode (sm_cc 381) 53 = .ok (.getfield 546, 3) := by decide +kernel
theorem fr_381_546 : sm_at mt_f (sm_ow 381) 546 = some (546, 14, 50, 0, 2123) := by decide +kernel
theorem dc_381_56 : decode (sm_cc 381) 56 = .ok (.iload 4, 2) := by decide +kernel
theorem dc_381_58 : decode (sm_cc 381) 58 = .ok (.laload, 1) := by decide +kernel
theorem dc_381_59 : decode (sm_cc 381) 59 = .ok (.iconst 0, 1) := by decide +kernel
theorem dc_381_60 : decode (sm_cc 381) 60 = .ok (.invokevirtual 831, 3) := by decide +kernel
theorem ow_383 : 14 = sm_ow 383 := by decide +kernel
theorem kr_381_831 : sm_at mt_k (sm_ow 381) 831 = some (831, 0, 383, 0, 2852) := by decide +kernel
theorem np_383 : sm_np 383 = 4 := by decide +kernel
theorem dc_381_63 : decode (sm_cc 381) 63 = .ok (.iinc 4 (1), 3) := by decide +kernel
theorem dc_381_66 : decode (sm_cc 381) 66 = .ok (.goto (-51), 3) := by decide +kernel
theorem dc_381_31 : decode (sm_cc 381) 31 = .ok (.aload_n 0, 1) := by decide +kernel
theorem dc_381_32 : decode (sm_cc 381) 32 = .ok (.bipush (32), 2) := by decide +kernel
theorem dc_381_34 : decode (sm_cc 381) 34 = .ok (.invokevirtual 818, 3) := by decide +kernel
theorem ml_382 : sm_ml 382 = 2 := by decide +kernel
theorem dc_382_0 : decode (sm_cc 382) 0 = .ok (.aload_n 0, 1) := by decide +kernel
theorem dc_382_1 : decode (sm_cc 382) 1 = .ok (.getfield 808, 3) := by decide +kernel
theorem fr_382_808 : sm_at mt_f (sm_ow 382) 808 = some (808, 14, 72, 0, 2145) := by decide +kernel
theorem dc_382_4 : decode (sm_cc 382) 4 = .ok (.sipush (4000), 3) := by decide +kernel
theorem dc_382_7 : decode (sm_cc 382) 7 = .ok (.if_icmp .ne (9), 3) := by decide +kernel
theorem dc_382_16 : decode (sm_cc 382) 16 = .ok (.aload_n 0, 1) := by decide +kernel
theorem dc_382_17 : decode (sm_cc 382) 17 = .ok (.getfield 815, 3) := by decide +kernel
theorem fr_382_815 : sm_at mt_f (sm_ow 382) 815 = some (815, 14, 71, 0, 2144) := by decide +kernel
theorem dc_382_20 : decode (sm_cc 382) 20 = .ok (.aload_n 0, 1) := by decide +kernel
theorem dc_382_21 : decode (sm_cc 382) 21 = .ok (.getfield 808, 3) := by decide +kernel
theorem dc_382_24 : decode (sm_cc 382) 24 = .ok (.iload_n 1, 1) := by decide +kernel
theorem dc_382_25 : decode (sm_cc 382) 25 = .ok (.i2b, 1) := by decide +kernel
theorem dc_382_26 : decode (sm_cc 382) 26 = .ok (.bastore, 1) := by decide +kernel
theorem dc_382_27 : decode (sm_cc 382) 27 = .ok (.aload_n 0, 1) := by decide +kernel
theorem dc_382_28 : decode (sm_cc 382) 28 = .ok (.dup, 1) := by decide +kernel
theorem dc_382_29 : decode (sm_cc 382) 29 = .ok (.getfield 808, 3) := by decide +kernel
theorem dc_382_32 : decode (sm_cc 382) 32 = .ok (.iconst 1, 1) := by decide +kernel
theorem dc_382_33 : decode (sm_cc 382) 33 = .ok (.iadd, 1) := by decide +kernel
theorem dc_382_34 : decode (sm_cc 382) 34 = .ok (.putfield 808, 3) := by decide +kernel
theorem dc_382_37 : decode (sm_cc 382) 37 = .ok (.return_, 1) := by decide +kernel
theorem rt_382 : sm_rt 382 = none := by decide +kernel
theorem dc_382_10 : decode (sm_cc 382) 10 = .ok (.aload_n 0, 1) := by decide +kernel
theorem dc_382_11 : decode (sm_cc 382) 11 = .ok (.iconst 1, 1) := by decide +kernel
theorem dc_382_12 : decode (sm_cc 382) 12 = .ok (.putfield 811, 3) := by decide +kernel
theorem fr_382_811 : sm_at mt_f (sm_ow 382) 811 = some (811, 14, 73, 0, 2146) := by decide +kernel
theorem dc_382_15 : decode (sm_cc 382) 15 = .ok (.return_, 1) := by decide +kernel
theorem ml_383 : sm_ml 383 = 9 := by decide +kernel
theorem dc_383_0 : decode (sm_cc 383) 0 = .ok (.iload_n 1, 1) := by decide +kernel
theorem dc_383_1 : decode (sm_cc 383) 1 = .ok (.ifCond .ne (12), 3) := by decide +kernel
theorem dc_383_4 : decode (sm_cc 383) 4 = .ok (.aload_n 0, 1) := by decide +kernel
theorem dc_383_5 : decode (sm_cc 383) 5 = .ok (.ldc 123, 2) := by decide +kernel
theorem cs_383_123 : sm_at mt_ci (sm_ow 383) 123 = none ∧ sm_at mt_cs (sm_ow 383) 123 = some (123, 11, 2368) := by decide +kernel
theorem dc_383_7 : decode (sm_cc 383) 7 = .ok (.invokevirtual 821, 3) := by decide +kernel
theorem ow_384 : 14 = sm_ow 384 := by decide +kernel
theorem kr_383_821 : sm_at mt_k (sm_ow 383) 821 = some (821, 0, 384, 0, 2856) := by decide +kernel
theorem np_384 : sm_np 384 = 1 := by decide +kernel
theorem dc_383_10 : decode (sm_cc 383) 10 = .ok (.goto (119), 3) := by decide +kernel
theorem dc_383_129 : decode (sm_cc 383) 129 = .ok (.return_, 1) := by decide +kernel
theorem rt_383 : sm_rt 383 = none := by decide +kernel
theorem dc_383_13 : decode (sm_cc 383) 13 = .ok (.iload_n 1, 1) := by decide +kernel
theorem dc_383_14 : decode (sm_cc 383) 14 = .ok (.iconst 1, 1) := by decide +kernel
theorem dc_383_15 : decode (sm_cc 383) 15 = .ok (.if_icmp .ne (40), 3) := by decide +kernel
theorem dc_383_18 : decode (sm_cc 383) 18 = .ok (.aload_n 0, 1) := by decide +kernel
theorem dc_383_19 : decode (sm_cc 383) 19 = .ok (.lload_n 2, 1) := by decide +kernel
theorem dc_383_20 : decode (sm_cc 383) 20 = .ok (.invokevirtual 805, 3) := by decide +kernel
theorem ow_385 : 14 = sm_ow 385 := by decide +kernel
theorem kr_383_805 : sm_at mt_k (sm_ow 383) 805 = some (805, 0, 385, 0, 2860) := by decide +kernel
theorem np_385 : sm_np 385 = 1 := by decide +kernel
theorem dc_383_23 : decode (sm_cc 383) 23 = .ok (.istore 7, 2) := by decide +kernel
theorem dc_383_25 : decode (sm_cc 383) 25 = .ok (.iconst 0, 1) := by decide +kernel
theorem dc_383_26 : decode (sm_cc 383) 26 = .ok (.istore 8, 2) := by decide +kernel
theorem dc_383_55 : decode (sm_cc 383) 55 = .ok (.iload_n 1, 1) := by decide +kernel
theorem dc_383_56 : decode (sm_cc 383) 56 = .ok (.iconst 2, 1) := by decide +kernel
theorem dc_383_57 : decode (sm_cc 383) 57 = .ok (.if_icmp .ne (59), 3) := by decide +kernel
theorem dc_383_60 : decode (sm_cc 383) 60 = .ok (.iload 6, 2) := by decide +kernel
theorem dc_383_62 : decode (sm_cc 383) 62 = .ok (.ifCond .eq (9), 3) := by decide +kernel
theorem dc_383_71 : decode (sm_cc 383) 71 = .ok (.iconst 0, 1) := by decide +kernel
theorem dc_383_72 : decode (sm_cc 383) 72 = .ok (.istore 7, 2) := by decide +kernel
theorem dc_383_65 : decode (sm_cc 383) 65 = .ok (.aload_n 0, 1) := by decide +kernel
theorem dc_383_66 : decode (sm_cc 383) 66 = .ok (.bipush (39), 2) := by decide +kernel
theorem dc_383_68 : decode (sm_cc 383) 68 = .ok (.invokevirtual 818, 3) := by decide +kernel
theorem kr_383_818 : sm_at mt_k (sm_ow 383) 818 = some (818, 0, 382, 0, 2848) := by decide +kernel
theorem dc_383_116 : decode (sm_cc 383) 116 = .ok (.aload_n 0, 1) := by decide +kernel
theorem dc_383_117 : decode (sm_cc 383) 117 = .ok (.aload_n 0, 1) := by decide +kernel
theorem dc_383_118 : decode (sm_cc 383) 118 = .ok (.getfield 485, 3) := by decide +kernel
theorem fr_383_485 : sm_at mt_f (sm_ow 383) 485 = some (485, 14, 42, 0, 2115) := by decide +kernel
theorem dc_383_121 : decode (sm_cc 383) 121 = .ok (.lload_n 2, 1) := by decide +kernel
theorem dc_383_122 : decode (sm_cc 383) 122 = .ok (.l2i, 1) := by decide +kernel
theorem dc_383_123 : decode (sm_cc 383) 123 = .ok (.aaload, 1) := by decide +kernel
theorem dc_383_124 : decode (sm_cc 383) 124 = .ok (.iload 6, 2) := by decide +kernel
theorem dc_383_126 : decode (sm_cc 383) 126 = .ok (.invokevirtual 825, 3) := by decide +kernel
theorem ow_387 : 14 = sm_ow 387 := by decide +kernel
theorem kr_383_825 : sm_at mt_k (sm_ow 383) 825 = some (825, 0, 387, 0, 2867) := by decide +kernel
theorem np_387 : sm_np 387 = 2 := by decide +kernel
theorem dc_383_28 : decode (sm_cc 383) 28 = .ok (.iload 8, 2) := by decide +kernel
theorem dc_383_30 : decode (sm_cc 383) 30 = .ok (.iload 7, 2) := by decide +kernel
theorem dc_383_32 : decode (sm_cc 383) 32 = .ok (.if_icmp .ge (20), 3) := by decide +kernel
theorem dc_383_52 : decode (sm_cc 383) 52 = .ok (.goto (77), 3) := by decide +kernel
theorem dc_383_35 : decode (sm_cc 383) 35 = .ok (.aload_n 0, 1) := by decide +kernel
theorem dc_383_36 : decode (sm_cc 383) 36 = .ok (.aload_n 0, 1) := by decide +kernel
theorem dc_383_37 : decode (sm_cc 383) 37 = .ok (.getfield 752, 3) := by decide +kernel
theorem fr_383_752 : sm_at mt_f (sm_ow 383) 752 = some (752, 14, 69, 0, 2142) := by decide +kernel
theorem dc_383_40 : decode (sm_cc 383) 40 = .ok (.iload 8, 2) := by decide +kernel
theorem dc_383_42 : decode (sm_cc 383) 42 = .ok (.baload, 1) := by decide +kernel
theorem dc_383_43 : decode (sm_cc 383) 43 = .ok (.invokevirtual 818, 3) := by decide +kernel
theorem dc_383_46 : decode (sm_cc 383) 46 = .ok (.iinc 8 (1), 3) := by decide +kernel
theorem dc_383_49 : decode (sm_cc 383) 49 = .ok (.goto (-21), 3) := by decide +kernel
theorem dc_383_74 : decode (sm_cc 383) 74 = .ok (.iload 7, 2) := by decide +kernel
theorem dc_383_76 : decode (sm_cc 383) 76 = .ok (.lload 4, 2) := by decide +kernel
theorem dc_383_78 : decode (sm_cc 383) 78 = .ok (.invokestatic 552, 3) := by decide +kernel
theorem kr_383_552 : sm_at mt_k (sm_ow 383) 552 = some (552, 2, 360, 0, 2710) := by decide +kernel
theorem dc_383_81 : decode (sm_cc 383) 81 = .ok (.if_icmp .ge (21), 3) := by decide +kernel
theorem dc_383_102 : decode (sm_cc 383) 102 = .ok (.iload 6, 2) := by decide +kernel
theorem dc_383_104 : decode (sm_cc 383) 104 = .ok (.ifCond .eq (25), 3) := by decide +kernel
theorem dc_383_107 : decode (sm_cc 383) 107 = .ok (.aload_n 0, 1) := by decide +kernel
theorem dc_383_108 : decode (sm_cc 383) 108 = .ok (.bipush (39), 2) := by decide +kernel
theorem dc_383_110 : decode (sm_cc 383) 110 = .ok (.invokevirtual 818, 3) := by decide +kernel
theorem dc_383_113 : decode (sm_cc 383) 113 = .ok (.goto (16), 3) := by decide +kernel
theorem dc_383_84 : decode (sm_cc 383) 84 = .ok (.aload_n 0, 1) := by decide +kernel
theorem dc_383_85 : decode (sm_cc 383) 85 = .ok (.lload_n 2, 1) := by decide +kernel
theorem dc_383_86 : decode (sm_cc 383) 86 = .ok (.lload 4, 2) := by decide +kernel
theorem dc_383_88 : decode (sm_cc 383) 88 = .ok (.iload 7, 2) := by decide +kernel
theorem dc_383_90 : decode (sm_cc 383) 90 = .ok (.invokestatic 755, 3) := by decide +kernel
theorem kr_383_755 : sm_at mt_k (sm_ow 383) 755 = some (755, 2, 386, 0, 2864) := by decide +kernel
theorem dc_383_93 : decode (sm_cc 383) 93 = .ok (.invokevirtual 818, 3) := by decide +kernel
theorem dc_383_96 : decode (sm_cc 383) 96 = .ok (.iinc 7 (1), 3) := by decide +kernel
theorem dc_383_99 : decode (sm_cc 383) 99 = .ok (.goto (-25), 3) := by decide +kernel
theorem ml_387 : sm_ml 387 = 5 := by decide +kernel
theorem dc_387_307 : decode (sm_cc 387) 307 = .ok (.iload 4, 2) := by decide +kernel
theorem dc_387_309 : decode (sm_cc 387) 309 = .ok (.aload_n 0, 1) := by decide +kernel
theorem dc_387_310 : decode (sm_cc 387) 310 = .ok (.getfield 7, 3) := by decide +kernel
theorem fr_387_7 : sm_at mt_f (sm_ow 387) 7 = some (7, 14, 1, 0, 2074) := by decide +kernel
theorem dc_387_313 : decode (sm_cc 387) 313 = .ok (.iload_n 3, 1) := by decide +kernel
theorem dc_387_314 : decode (sm_cc 387) 314 = .ok (.iaload, 1) := by decide +kernel
theorem dc_387_315 : decode (sm_cc 387) 315 = .ok (.if_icmp .ge (25), 3) := by decide +kernel
theorem dc_387_340 : decode (sm_cc 387) 340 = .ok (.aload_n 0, 1) := by decide +kernel
theorem dc_387_341 : decode (sm_cc 387) 341 = .ok (.bipush (62), 2) := by decide +kernel
theorem dc_387_343 : decode (sm_cc 387) 343 = .ok (.invokevirtual 818, 3) := by decide +kernel
theorem kr_387_818 : sm_at mt_k (sm_ow 387) 818 = some (818, 0, 382, 0, 2848) := by decide +kernel
theorem dc_387_346 : decode (sm_cc 387) 346 = .ok (.return_, 1) := by decide +kernel
theorem rt_387 : sm_rt 387 = none := by decide +kernel
theorem dc_387_318 : decode (sm_cc 387) 318 = .ok (.aload_n 0, 1) := by decide +kernel
theorem dc_387_319 : decode (sm_cc 387) 319 = .ok (.aload_n 0, 1) := by decide +kernel
theorem dc_387_320 : decode (sm_cc 387) 320 = .ok (.getfield 11, 3) := by decide +kernel
theorem fr_387_11 : sm_at mt_f (sm_ow 387) 11 = some (11, 14, 0, 0, 2073) := by decide +kernel
theorem dc_387_323 : decode (sm_cc 387) 323 = .ok (.bipush (12), 2) := by decide +kernel
theorem dc_387_325 : decode (sm_cc 387) 325 = .ok (.iload_n 3, 1) := by decide +kernel
theorem dc_387_326 : decode (sm_cc 387) 326 = .ok (.imul, 1) := by decide +kernel
theorem dc_387_327 : decode (sm_cc 387) 327 = .ok (.iload 4, 2) := by decide +kernel
theorem dc_387_329 : decode (sm_cc 387) 329 = .ok (.iadd, 1) := by decide +kernel
theorem dc_387_330 : decode (sm_cc 387) 330 = .ok (.baload, 1) := by decide +kernel
theorem dc_387_331 : decode (sm_cc 387) 331 = .ok (.invokevirtual 818, 3) := by decide +kernel
theorem dc_387_334 : decode (sm_cc 387) 334 = .ok (.iinc 4 (1), 3) := by decide +kernel
theorem dc_387_337 : decode (sm_cc 387) 337 = .ok (.goto (-30), 3) := by decide +kernel
theorem ml_388 : sm_ml 388 = 13 := by decide +kernel
theorem dc_388_0 : decode (sm_cc 388) 0 = .ok (.iload_n 1, 1) := by decide +kernel
theorem dc_388_1 : decode (sm_cc 388) 1 = .ok (.iconst 1, 1) := by decide +kernel
theorem dc_388_2 : decode (sm_cc 388) 2 = .ok (.iadd, 1) := by decide +kernel
theorem dc_388_3 : decode (sm_cc 388) 3 = .ok (.istore_n 3, 1) := by decide +kernel
theorem dc_388_4 : decode (sm_cc 388) 4 = .ok (.aload_n 0, 1) := by decide +kernel
theorem dc_388_5 : decode (sm_cc 388) 5 = .ok (.getfield 496, 3) := by decide +kernel
theorem fr_388_496 : sm_at mt_f (sm_ow 388) 496 = some (496, 14, 48, 0, 2121) := by decide +kernel
theorem dc_388_8 : decode (sm_cc 388) 8 = .ok (.iload_n 3, 1) := by decide +kernel
theorem dc_388_9 : decode (sm_cc 388) 9 = .ok (.iaload, 1) := by decide +kernel
theorem dc_388_10 : decode (sm_cc 388) 10 = .ok (.iconst 1, 1) := by decide +kernel
theorem dc_388_11 : decode (sm_cc 388) 11 = .ok (.if_icmp .ne (20), 3) := by decide +kernel
theorem dc_388_31 : decode (sm_cc 388) 31 = .ok (.aload_n 0, 1) := by decide +kernel
theorem dc_388_32 : decode (sm_cc 388) 32 = .ok (.iconst 2, 1) := by decide +kernel
theorem dc_388_33 : decode (sm_cc 388) 33 = .ok (.invokevirtual 608, 3) := by decide +kernel
theorem kr_388_608 : sm_at mt_k (sm_ow 388) 608 = some (608, 0, 351, 0, 2664) := by decide +kernel
theorem dc_388_36 : decode (sm_cc 388) 36 = .ok (.ireturn, 1) := by decide +kernel
theorem rt_388 : sm_rt 388 = some .boolean := by decide +kernel
theorem dc_388_14 : decode (sm_cc 388) 14 = .ok (.iload_n 2, 1) := by decide +kernel
theorem dc_388_15 : decode (sm_cc 388) 15 = .ok (.iconst 2, 1) := by decide +kernel
theorem dc_388_16 : decode (sm_cc 388) 16 = .ok (.if_icmp .ne (21), 3) := by decide +kernel
theorem dc_388_37 : decode (sm_cc 388) 37 = .ok (.iload_n 2, 1) := by decide +kernel
theorem dc_388_38 : decode (sm_cc 388) 38 = .ok (.iconst 2, 1) := by decide +kernel
theorem dc_388_39 : decode (sm_cc 388) 39 = .ok (.if_icmp .ne (12), 3) := by decide +kernel
theorem dc_388_51 : decode (sm_cc 388) 51 = .ok (.lconst 0, 1) := by decide +kernel
theorem dc_388_52 : decode (sm_cc 388) 52 = .ok (.lstore 4, 2) := by decide +kernel
theorem dc_388_54 : decode (sm_cc 388) 54 = .ok (.aload_n 0, 1) := by decide +kernel
theorem dc_388_55 : decode (sm_cc 388) 55 = .ok (.getfield 499, 3) := by decide +kernel
theorem fr_388_499 : sm_at mt_f (sm_ow 388) 499 = some (499, 14, 49, 0, 2122) := by decide +kernel
theorem dc_388_58 : decode (sm_cc 388) 58 = .ok (.iload_n 1, 1) := by decide +kernel
theorem dc_388_59 : decode (sm_cc 388) 59 = .ok (.iload_n 2, 1) := by decide +kernel
theorem dc_388_60 : decode (sm_cc 388) 60 = .ok (.iadd, 1) := by decide +kernel
theorem dc_388_61 : decode (sm_cc 388) 61 = .ok (.laload, 1) := by decide +kernel
theorem dc_388_62 : decode (sm_cc 388) 62 = .ok (.lstore 6, 2) := by decide +kernel
theorem dc_388_64 : decode (sm_cc 388) 64 = .ok (.lload 4, 2) := by decide +kernel
theorem dc_388_66 : decode (sm_cc 388) 66 = .ok (.lload 6, 2) := by decide +kernel
theorem dc_388_68 : decode (sm_cc 388) 68 = .ok (.lcmp, 1) := by decide +kernel
theorem dc_388_69 : decode (sm_cc 388) 69 = .ok (.ifCond .ge (11), 3) := by decide +kernel
theorem dc_388_80 : decode (sm_cc 388) 80 = .ok (.lconst 0, 1) := by decide +kernel
theorem dc_388_81 : decode (sm_cc 388) 81 = .ok (.lstore 8, 2) := by decide +kernel
theorem dc_388_83 : decode (sm_cc 388) 83 = .ok (.lload 8, 2) := by decide +kernel
theorem dc_388_85 : decode (sm_cc 388) 85 = .ok (.ldc2_w 803, 3) := by decide +kernel
theorem cj_388_803 : sm_at mt_cj (sm_ow 388) 803 = some (803, (300), 2883) := by decide +kernel
theorem dc_388_88 : decode (sm_cc 388) 88 = .ok (.invokestatic 709, 3) := by decide +kernel
theorem kr_388_709 : sm_at mt_k (sm_ow 388) 709 = some (709, 2, 389, 0, 2884) := by decide +kernel
theorem dc_388_91 : decode (sm_cc 388) 91 = .ok (.ifCond .le (10), 3) := by decide +kernel
theorem dc_388_101 : decode (sm_cc 388) 101 = .ok (.aload_n 0, 1) := by decide +kernel
theorem dc_388_102 : decode (sm_cc 388) 102 = .ok (.iconst 1, 1) := by decide +kernel
theorem dc_388_103 : decode (sm_cc 388) 103 = .ok (.invokevirtual 686, 3) := by decide +kernel
theorem kr_388_686 : sm_at mt_k (sm_ow 388) 686 = some (686, 0, 364, 0, 2726) := by decide +kernel
theorem dc_388_106 : decode (sm_cc 388) 106 = .ok (.istore 10, 2) := by decide +kernel
theorem dc_388_108 : decode (sm_cc 388) 108 = .ok (.iload 10, 2) := by decide +kernel
theorem dc_388_110 : decode (sm_cc 388) 110 = .ok (.ifCond .ge (5), 3) := by decide +kernel
theorem dc_388_115 : decode (sm_cc 388) 115 = .ok (.lload 4, 2) := by decide +kernel
theorem dc_388_117 : decode (sm_cc 388) 117 = .ok (.lstore 11, 2) := by decide +kernel
theorem dc_388_113 : decode (sm_cc 388) 113 = .ok (.iconst 0, 1) := by decide +kernel
theorem dc_388_114 : decode (sm_cc 388) 114 = .ok (.ireturn, 1) := by decide +kernel
theorem dc_388_94 : decode (sm_cc 388) 94 = .ok (.aload_n 0, 1) := by decide +kernel
theorem dc_388_95 : decode (sm_cc 388) 95 = .ok (.bipush (8), 2) := by decide +kernel
theorem dc_388_97 : decode (sm_cc 388) 97 = .ok (.invokevirtual 608, 3) := by decide +kernel
theorem dc_388_100 : decode (sm_cc 388) 100 = .ok (.ireturn, 1) := by decide +kernel
theorem dc_388_72 : decode (sm_cc 388) 72 = .ok (.lload 6, 2) := by decide +kernel
theorem dc_388_74 : decode (sm_cc 388) 74 = .ok (.lload 4, 2) := by decide +kernel
theorem dc_388_76 : decode (sm_cc 388) 76 = .ok (.lsub, 1) := by decide +kernel
theorem dc_388_77 : decode (sm_cc 388) 77 = .ok (.goto (4), 3) := by decide +kernel
theorem dc_388_19 : decode (sm_cc 388) 19 = .ok (.aload_n 0, 1) := by decide +kernel
theorem dc_388_20 : decode (sm_cc 388) 20 = .ok (.getfield 496, 3) := by decide +kernel
theorem dc_388_23 : decode (sm_cc 388) 23 = .ok (.iload_n 3, 1) := by decide +kernel
theorem dc_388_24 : decode (sm_cc 388) 24 = .ok (.iconst 1, 1) := by decide +kernel
theorem dc_388_25 : decode (sm_cc 388) 25 = .ok (.iadd, 1) := by decide +kernel
theorem dc_388_26 : decode (sm_cc 388) 26 = .ok (.iaload, 1) := by decide +kernel
theorem dc_388_27 : decode (sm_cc 388) 27 = .ok (.iconst 1, 1) := by decide +kernel
theorem dc_388_28 : decode (sm_cc 388) 28 = .ok (.if_icmp .eq (9), 3) := by decide +kernel
theorem dc_388_42 : decode (sm_cc 388) 42 = .ok (.aload_n 0, 1) := by decide +kernel
theorem dc_388_43 : decode (sm_cc 388) 43 = .ok (.getfield 499, 3) := by decide +kernel
theorem dc_388_46 : decode (sm_cc 388) 46 = .ok (.iload_n 3, 1) := by decide +kernel
theorem dc_388_47 : decode (sm_cc 388) 47 = .ok (.laload, 1) := by decide +kernel
theorem dc_388_48 : decode (sm_cc 388) 48 = .ok (.goto (4), 3) := by decide +kernel
theorem dc_388_119 : decode (sm_cc 388) 119 = .ok (.lload 11, 2) := by decide +kernel
theorem dc_388_121 : decode (sm_cc 388) 121 = .ok (.lload 6, 2) := by decide +kernel
theorem dc_388_123 : decode (sm_cc 388) 123 = .ok (.lcmp, 1) := by decide +kernel
theorem dc_388_124 : decode (sm_cc 388) 124 = .ok (.ifCond .ge (26), 3) := by decide +kernel
theorem dc_388_150 : decode (sm_cc 388) 150 = .ok (.aload_n 0, 1) := by decide +kernel
theorem dc_388_151 : decode (sm_cc 388) 151 = .ok (.iload_n 1, 1) := by decide +kernel
theorem dc_388_152 : decode (sm_cc 388) 152 = .ok (.putfield 493, 3) := by decide +kernel
theorem fr_388_493 : sm_at mt_f (sm_ow 388) 493 = some (493, 14, 51, 0, 2124) := by decide +kernel
theorem dc_388_155 : decode (sm_cc 388) 155 = .ok (.aload_n 0, 1) := by decide +kernel
theorem dc_388_156 : decode (sm_cc 388) 156 = .ok (.iconst 3, 1) := by decide +kernel
theorem dc_388_157 : decode (sm_cc 388) 157 = .ok (.iload 10, 2) := by decide +kernel
theorem dc_388_159 : decode (sm_cc 388) 159 = .ok (.i2l, 1) := by decide +kernel
theorem dc_388_160 : decode (sm_cc 388) 160 = .ok (.lconst 0, 1) := by decide +kernel
theorem dc_388_161 : decode (sm_cc 388) 161 = .ok (.invokevirtual 549, 3) := by decide +kernel
theorem kr_388_549 : sm_at mt_k (sm_ow 388) 549 = some (549, 0, 352, 0, 2668) := by decide +kernel
theorem dc_388_164 : decode (sm_cc 388) 164 = .ok (.iconst 1, 1) := by decide +kernel
theorem dc_388_165 : decode (sm_cc 388) 165 = .ok (.ireturn, 1) := by decide +kernel
theorem dc_388_127 : decode (sm_cc 388) 127 = .ok (.aload_n 0, 1) := by decide +kernel
theorem dc_388_128 : decode (sm_cc 388) 128 = .ok (.getfield 485, 3) := by decide +kernel
theorem fr_388_485 : sm_at mt_f (sm_ow 388) 485 = some (485, 14, 42, 0, 2115) := by decide +kernel
theorem dc_388_131 : decode (sm_cc 388) 131 = .ok (.iload 10, 2) := by decide +kernel
theorem dc_388_133 : decode (sm_cc 388) 133 = .ok (.aaload, 1) := by decide +kernel
theorem dc_388_134 : decode (sm_cc 388) 134 = .ok (.iconst 1, 1) := by decide +kernel
theorem dc_388_135 : decode (sm_cc 388) 135 = .ok (.lload 11, 2) := by decide +kernel
theorem dc_388_137 : decode (sm_cc 388) 137 = .ok (.lconst 0, 1) := by decide +kernel
theorem dc_388_138 : decode (sm_cc 388) 138 = .ok (.invokevirtual 759, 3) := by decide +kernel
theorem kr_388_759 : sm_at mt_k (sm_ow 388) 759 = some (759, 0, 375, 0, 2817) := by decide +kernel
theorem dc_388_141 : decode (sm_cc 388) 141 = .ok (.lload 11, 2) := by decide +kernel
theorem dc_388_143 : decode (sm_cc 388) 143 = .ok (.lconst 1, 1) := by decide +kernel
theorem dc_388_144 : decode (sm_cc 388) 144 = .ok (.ladd, 1) := by decide +kernel
theorem dc_388_145 : decode (sm_cc 388) 145 = .ok (.lstore 11, 2) := by decide +kernel
theorem dc_388_147 : decode (sm_cc 388) 147 = .ok (.goto (-28), 3) := by decide +kernel
theorem ml_390 : sm_ml 390 = 4 := by decide +kernel
theorem dc_390_0 : decode (sm_cc 390) 0 = .ok (.iload_n 1, 1) := by decide +kernel
theorem dc_390_1 : decode (sm_cc 390) 1 = .ok (.iconst 1, 1) := by decide +kernel
theorem dc_390_2 : decode (sm_cc 390) 2 = .ok (.iadd, 1) := by decide +kernel
theorem dc_390_3 : decode (sm_cc 390) 3 = .ok (.istore_n 2, 1) := by decide +kernel
theorem dc_390_4 : decode (sm_cc 390) 4 = .ok (.aload_n 0, 1) := by decide +kernel
theorem dc_390_5 : decode (sm_cc 390) 5 = .ok (.getfield 496, 3) := by decide +kernel
theorem fr_390_496 : sm_at mt_f (sm_ow 390) 496 = some (496, 14, 48, 0, 2121) := by decide +kernel
theorem dc_390_8 : decode (sm_cc 390) 8 = .ok (.iload_n 2, 1) := by decide +kernel
theorem dc_390_9 : decode (sm_cc 390) 9 = .ok (.iaload, 1) := by decide +kernel
theorem dc_390_10 : decode (sm_cc 390) 10 = .ok (.iconst 1, 1) := by decide +kernel
theorem dc_390_11 : decode (sm_cc 390) 11 = .ok (.if_icmp .eq (19), 3) := by decide +kernel
theorem dc_390_30 : decode (sm_cc 390) 30 = .ok (.aload_n 0, 1) := by decide +kernel
theorem dc_390_31 : decode (sm_cc 390) 31 = .ok (.getfield 496, 3) := by decide +kernel
theorem dc_390_34 : decode (sm_cc 390) 34 = .ok (.iload_n 2, 1) := by decide +kernel
theorem dc_390_35 : decode (sm_cc 390) 35 = .ok (.iaload, 1) := by decide +kernel
theorem dc_390_36 : decode (sm_cc 390) 36 = .ok (.iconst 1, 1) := by decide +kernel
theorem dc_390_37 : decode (sm_cc 390) 37 = .ok (.if_icmp .ne (66), 3) := by decide +kernel
theorem dc_390_40 : decode (sm_cc 390) 40 = .ok (.aload_n 0, 1) := by decide +kernel
theorem dc_390_41 : decode (sm_cc 390) 41 = .ok (.aload_n 0, 1) := by decide +kernel
theorem dc_390_42 : decode (sm_cc 390) 42 = .ok (.getfield 499, 3) := by decide +kernel
theorem fr_390_499 : sm_at mt_f (sm_ow 390) 499 = some (499, 14, 49, 0, 2122) := by decide +kernel
theorem dc_390_45 : decode (sm_cc 390) 45 = .ok (.iload_n 2, 1) := by decide +kernel
theorem dc_390_46 : decode (sm_cc 390) 46 = .ok (.laload, 1) := by decide +kernel
theorem dc_390_47 : decode (sm_cc 390) 47 = .ok (.invokevirtual 805, 3) := by decide +kernel
theorem kr_390_805 : sm_at mt_k (sm_ow 390) 805 = some (805, 0, 385, 0, 2860) := by decide +kernel
theorem dc_390_50 : decode (sm_cc 390) 50 = .ok (.istore_n 3, 1) := by decide +kernel
theorem dc_390_51 : decode (sm_cc 390) 51 = .ok (.iload_n 3, 1) := by decide +kernel
theorem dc_390_52 : decode (sm_cc 390) 52 = .ok (.bipush (15), 2) := by decide +kernel
theorem dc_390_54 : decode (sm_cc 390) 54 = .ok (.if_icmp .le (10), 3) := by decide +kernel
theorem dc_390_64 : decode (sm_cc 390) 64 = .ok (.aload_n 0, 1) := by decide +kernel
theorem dc_390_65 : decode (sm_cc 390) 65 = .ok (.getfield 496, 3) := by decide +kernel
theorem dc_390_68 : decode (sm_cc 390) 68 = .ok (.iload_n 2, 1) := by decide +kernel
theorem dc_390_69 : decode (sm_cc 390) 69 = .ok (.iconst 2, 1) := by decide +kernel
theorem dc_390_70 : decode (sm_cc 390) 70 = .ok (.iastore, 1) := by decide +kernel
theorem dc_390_71 : decode (sm_cc 390) 71 = .ok (.aload_n 0, 1) := by decide +kernel
theorem dc_390_72 : decode (sm_cc 390) 72 = .ok (.getfield 499, 3) := by decide +kernel
theorem dc_390_75 : decode (sm_cc 390) 75 = .ok (.iload_n 2, 1) := by decide +kernel
theorem dc_390_76 : decode (sm_cc 390) 76 = .ok (.aload_n 0, 1) := by decide +kernel
theorem dc_390_77 : decode (sm_cc 390) 77 = .ok (.getfield 752, 3) := by decide +kernel
theorem fr_390_752 : sm_at mt_f (sm_ow 390) 752 = some (752, 14, 69, 0, 2142) := by decide +kernel
theorem dc_390_80 : decode (sm_cc 390) 80 = .ok (.iconst 0, 1) := by decide +kernel
theorem dc_390_81 : decode (sm_cc 390) 81 = .ok (.iload_n 3, 1) := by decide +kernel
theorem dc_390_82 : decode (sm_cc 390) 82 = .ok (.iconst 0, 1) := by decide +kernel
theorem dc_390_83 : decode (sm_cc 390) 83 = .ok (.invokestatic 178, 3) := by decide +kernel
theorem kr_390_178 : sm_at mt_k (sm_ow 390) 178 = some (178, 2, 297, 0, 2400) := by decide +kernel
theorem dc_390_86 : decode (sm_cc 390) 86 = .ok (.lastore, 1) := by decide +kernel
theorem dc_390_87 : decode (sm_cc 390) 87 = .ok (.aload_n 0, 1) := by decide +kernel
theorem dc_390_88 : decode (sm_cc 390) 88 = .ok (.getfield 546, 3) := by decide +kernel
theorem fr_390_546 : sm_at mt_f (sm_ow 390) 546 = some (546, 14, 50, 0, 2123) := by decide +kernel
theorem dc_390_91 : decode (sm_cc 390) 91 = .ok (.iload_n 2, 1) := by decide +kernel
theorem dc_390_92 : decode (sm_cc 390) 92 = .ok (.aload_n 0, 1) := by decide +kernel
theorem dc_390_93 : decode (sm_cc 390) 93 = .ok (.getfield 752, 3) := by decide +kernel
theorem dc_390_96 : decode (sm_cc 390) 96 = .ok (.iconst 0, 1) := by decide +kernel
theorem dc_390_97 : decode (sm_cc 390) 97 = .ok (.iload_n 3, 1) := by decide +kernel
theorem dc_390_98 : decode (sm_cc 390) 98 = .ok (.iconst 1, 1) := by decide +kernel
theorem dc_390_99 : decode (sm_cc 390) 99 = .ok (.invokestatic 178, 3) := by decide +kernel
theorem dc_390_102 : decode (sm_cc 390) 102 = .ok (.lastore, 1) := by decide +kernel
theorem dc_390_103 : decode (sm_cc 390) 103 = .ok (.aload_n 0, 1) := by decide +kernel
theorem dc_390_104 : decode (sm_cc 390) 104 = .ok (.iload_n 2, 1) := by decide +kernel
theorem dc_390_105 : decode (sm_cc 390) 105 = .ok (.iload_n 1, 1) := by decide +kernel
theorem dc_390_106 : decode (sm_cc 390) 106 = .ok (.invokevirtual 672, 3) := by decide +kernel
theorem kr_390_672 : sm_at mt_k (sm_ow 390) 672 = some (672, 0, 391, 0, 2893) := by decide +kernel
theorem dc_390_109 : decode (sm_cc 390) 109 = .ok (.aload_n 0, 1) := by decide +kernel
theorem dc_390_110 : decode (sm_cc 390) 110 = .ok (.iload_n 1, 1) := by decide +kernel
theorem dc_390_111 : decode (sm_cc 390) 111 = .ok (.iconst 1, 1) := by decide +kernel
theorem dc_390_112 : decode (sm_cc 390) 112 = .ok (.iadd, 1) := by decide +kernel
theorem dc_390_113 : decode (sm_cc 390) 113 = .ok (.putfield 493, 3) := by decide +kernel
theorem fr_390_493 : sm_at mt_f (sm_ow 390) 493 = some (493, 14, 51, 0, 2124) := by decide +kernel
theorem dc_390_116 : decode (sm_cc 390) 116 = .ok (.iconst 1, 1) := by decide +kernel
theorem dc_390_117 : decode (sm_cc 390) 117 = .ok (.ireturn, 1) := by decide +kernel
theorem rt_390 : sm_rt 390 = some .boolean := by decide +kernel
theorem dc_390_57 : decode (sm_cc 390) 57 = .ok (.aload_n 0, 1) := by decide +kernel
theorem dc_390_58 : decode (sm_cc 390) 58 = .ok (.bipush (8), 2) := by decide +kernel
theorem dc_390_60 : decode (sm_cc 390) 60 = .ok (.invokevirtual 608, 3) := by decide +kernel
theorem kr_390_608 : sm_at mt_k (sm_ow 390) 608 = some (608, 0, 351, 0, 2664) := by decide +kernel
theorem dc_390_63 : decode (sm_cc 390) 63 = .ok (.ireturn, 1) := by decide +kernel
theorem dc_390_14 : decode (sm_cc 390) 14 = .ok (.aload_n 0, 1) := by decide +kernel
theorem dc_390_15 : decode (sm_cc 390) 15 = .ok (.getfield 496, 3) := by decide +kernel
theorem dc_390_18 : decode (sm_cc 390) 18 = .ok (.iload_n 2, 1) := by decide +kernel
theorem dc_390_19 : decode (sm_cc 390) 19 = .ok (.iaload, 1) := by decide +kernel
theorem dc_390_20 : decode (sm_cc 390) 20 = .ok (.iconst 2, 1) := by decide +kernel
theorem dc_390_21 : decode (sm_cc 390) 21 = .ok (.if_icmp .eq (9), 3) := by decide +kernel
theorem dc_390_24 : decode (sm_cc 390) 24 = .ok (.aload_n 0, 1) := by decide +kernel
theorem dc_390_25 : decode (sm_cc 390) 25 = .ok (.iconst 2, 1) := by decide +kernel
theorem dc_390_26 : decode (sm_cc 390) 26 = .ok (.invokevirtual 608, 3) := by decide +kernel
theorem dc_390_29 : decode (sm_cc 390) 29 = .ok (.ireturn, 1) := by decide +kernel
theorem rPr_1 {d : Nat} {S Sf : cS} {v : Option Value} {ba : Nat} {nn : Nat} {f6172 : Nat} (mba : ba < 2 ^ 20) (mnn : nn < 2 ^ 20) (hf6172 : sI S 6172 = nI f6172) (mf6172 : f6172 < 2 ^ 20) (hB : ∀ lv1 : sm_L, sm_get lv1 0 = some (.ref 61) → sm_get lv1 1 = some (.int (nI ba)) → sm_get lv1 2 = some (.int (nI nn)) → sm_get lv1 3 = some (.int (nI f6172)) → sm_get lv1 4 = some (.int (nI (ba + 1))) → Bod (d + 8) 381 15 lv1 [] (wI 6173 (nI 0) S) v Sf) : Bod (d + 8) 381 0 [(0, .ref 61), (1, .int (nI ba)), (2, .int (nI nn))] [] S v Sf := by
  refine Bod.go dc_381_0 rfl ?_
  refine Bod.get dc_381_1 fr_381_808 (mk_61 _) rfl ?_
  refine Bod.eqI (nI f6172) (by first | assumption | rfl | exact congrArg nI (by omega) | (simp (disch := omega) only [rIn, rIe, rA, rIA, rLA, rJA, rVI, rQI, rVA, rQA, upd_at,  rAI, rLI, rJI, nI_add, pk_sub, kc_0, kc_1, kc_2, kc_3, kc_4, kc_5, reduceIte, Nat.reduceEqDiff, Nat.add_zero, rI_hold, rI_hold, rL_hold, hf6172]; done)) ?_
  refine Bod.istn dc_381_4 (by rw [ml_381]; exact Nat.le_of_ble_eq_true rfl) ?_
  refine Bod.go dc_381_5 rfl ?_
  refine Bod.ic 0 (by decide) dc_381_6 ?_
  refine Bod.put dc_381_7 fr_381_811 (mk_61 _) (Nat.le_of_ble_eq_true rfl) (pf_14_73 (Or.inl rfl)) (st_6173 _ _) (mu_I _ _ _) ?_
  refine Bod.go dc_381_10 rfl ?_
  refine Bod.ic 1 (by decide) dc_381_11 ?_
  refine Bod.addN (ba + 1) (by omega) dc_381_12 ?_
  refine Bod.ist dc_381_13 (by rw [ml_381]; exact Nat.le_of_ble_eq_true rfl) ?_
  exact hB _ (by first | rfl | exact (by repeat (first | exact rfl | exact sm_get_p1 | exact sm_get_p2e | refine sm_get_p1m (by decide) (by decide) ?_ | refine sm_get_p1n (by decide) rfl ?_ | refine sm_get_p2n (by decide) (by decide) rfl ?_ | refine sm_get_p2m (by decide) (by decide) (by decide) ?_))) (by first | rfl | exact (by repeat (first | exact rfl | exact sm_get_p1 | exact sm_get_p2e | refine sm_get_p1m (by decide) (by decide) ?_ | refine sm_get_p1n (by decide) rfl ?_ | refine sm_get_p2n (by decide) (by decide) rfl ?_ | refine sm_get_p2m (by decide) (by decide) (by decide) ?_))) (by first | rfl | exact (by repeat (first | exact rfl | exact sm_get_p1 | exact sm_get_p2e | refine sm_get_p1m (by decide) (by decide) ?_ | refine sm_get_p1n (by decide) rfl ?_ | refine sm_get_p2n (by decide) (by decide) rfl ?_ | refine sm_get_p2m (by decide) (by decide) (by decide) ?_))) (by first | rfl | exact (by repeat (first | exact rfl | exact sm_get_p1 | exact sm_get_p2e | refine sm_get_p1m (by decide) (by decide) ?_ | refine sm_get_p1n (by decide) rfl ?_ | refine sm_get_p2n (by decide) (by decide) rfl ?_ | refine sm_get_p2m (by decide) (by decide) (by decide) ?_))) (by first | rfl | exact (by repeat (first | exact rfl | exact sm_get_p1 | exact sm_get_p2e | refine sm_get_p1m (by decide) (by decide) ?_ | refine sm_get_p1n (by decide) rfl ?_ | refine sm_get_p2n (by decide) (by decide) rfl ?_ | refine sm_get_p2m (by decide) (by decide) (by decide) ?_)))
theorem rPrL_1 {d : Nat} {S : cS} {lv : sm_L} {ba : Nat} {nn : Nat} {wa : Nat} {ni : Nat} {S1 : cS} {f6173 : Nat} {S2 : cS} (q0 : sm_get lv 0 = some (.ref 61)) (q1 : sm_get lv 1 = some (.int (nI ba))) (q2 : sm_get lv 2 = some (.int (nI nn))) (q3 : sm_get lv 3 = some (.int (nI wa))) (q4 : sm_get lv 4 = some (.int (nI ni))) (mba : ba < 2 ^ 20) (mnn : nn < 2 ^ 20) (mwa : wa < 2 ^ 20) (mni : ni < 2 ^ 20) (b1 : (ba + nn) < ni) (c1 : Ans (d + 8) 382 [.ref 61, .int (nI 10)] S none S1) (hf6173 : sI S1 6173 = nI f6173) (mf6173 : f6173 < 2 ^ 20) (b2 : f6173 = 0) (c2 : Ans (d + 8) 352 [.ref 61, .int (nI 0), .long 0, .long 0] (wI 6151 (nI ba) S1) none S2) : Bod (d + 8) 381 15 lv [] S (some (.int 1)) (S2) := by
  refine Bod.ildG dc_381_15 (by repeat (first | exact q4 | exact sm_get_p1 | exact sm_get_p2e | refine sm_get_p1m (by decide) (by decide) ?_ | refine sm_get_p1n (by decide) rfl ?_ | refine sm_get_p2n (by decide) (by decide) rfl ?_ | refine sm_get_p2m (by decide) (by decide) (by decide) ?_)) ?_
  refine Bod.ildnG dc_381_17 (by repeat (first | exact q1 | exact sm_get_p1 | exact sm_get_p2e | refine sm_get_p1m (by decide) (by decide) ?_ | refine sm_get_p1n (by decide) rfl ?_ | refine sm_get_p2n (by decide) (by decide) rfl ?_ | refine sm_get_p2m (by decide) (by decide) (by decide) ?_)) ?_
  refine Bod.ildnG dc_381_18 (by repeat (first | exact q2 | exact sm_get_p1 | exact sm_get_p2e | refine sm_get_p1m (by decide) (by decide) ?_ | refine sm_get_p1n (by decide) rfl ?_ | refine sm_get_p2n (by decide) (by decide) rfl ?_ | refine sm_get_p2m (by decide) (by decide) (by decide) ?_)) ?_
  refine Bod.addN (ba + nn) (by omega) dc_381_19 ?_
  refine Bod.icT dc_381_20 rfl (k2_gt_T ni (ba + nn) rfl rfl (by omega) (by omega)) ?_
  refine Bod.aldnG dc_381_69 (by repeat (first | exact q0 | exact sm_get_p1 | exact sm_get_p2e | refine sm_get_p1m (by decide) (by decide) ?_ | refine sm_get_p1n (by decide) rfl ?_ | refine sm_get_p2n (by decide) (by decide) rfl ?_ | refine sm_get_p2m (by decide) (by decide) (by decide) ?_)) ?_
  refine Bod.bip 10 (by decide) dc_381_70 ?_
  refine Bod.virt (r := []) dc_381_72 kr_381_818 ⟨Or.inl rfl, ow_382, cl_14⟩ (by rw [np_382]; rfl) (by rw [np_382]; rfl) (ob_of (mk_61 _)) (Nat.le_of_ble_eq_true rfl) (c1  ) ?_
  show Bod _ _ _ _ [] _ _ _
  refine Bod.aldnG dc_381_75 (by repeat (first | exact q0 | exact sm_get_p1 | exact sm_get_p2e | refine sm_get_p1m (by decide) (by decide) ?_ | refine sm_get_p1n (by decide) rfl ?_ | refine sm_get_p2n (by decide) (by decide) rfl ?_ | refine sm_get_p2m (by decide) (by decide) (by decide) ?_)) ?_
  refine Bod.get dc_381_76 fr_381_811 (mk_61 _) rfl ?_
  refine Bod.eqI (nI f6173) (by first | assumption | (simp (disch := omega) only [rIn, rIe, rA, rIA, rLA, rJA, rVI, rQI, rVA, rQA, upd_at,  rAI, rLI, rJI, nI_add, pk_sub, kc_0, kc_1, kc_2, kc_3, kc_4, kc_5, reduceIte, Nat.reduceEqDiff, Nat.add_zero, rI_hold, rI_hold, rL_hold, hf6173]; done) | (simp (disch := omega) only [rIn, rIe, rA, rIA, rLA, rJA, rVI, rQI, rVA, rQA, upd_at,  rAI, rLI, rJI, nI_add, pk_sub, kc_0, kc_1, kc_2, kc_3, kc_4, kc_5, reduceIte, Nat.reduceEqDiff, Nat.add_zero, rI_hold, rI_hold, rL_hold, hf6173]; exact congrArg nI (by omega))) ?_
  refine Bod.ifT dc_381_79 rfl (k1_eq_T (k_eq f6173 0 rfl rfl (by omega))) ?_
  refine Bod.aldnG dc_381_94 (by repeat (first | exact q0 | exact sm_get_p1 | exact sm_get_p2e | refine sm_get_p1m (by decide) (by decide) ?_ | refine sm_get_p1n (by decide) rfl ?_ | refine sm_get_p2n (by decide) (by decide) rfl ?_ | refine sm_get_p2m (by decide) (by decide) (by decide) ?_)) ?_
  refine Bod.ildnG dc_381_95 (by repeat (first | exact q1 | exact sm_get_p1 | exact sm_get_p2e | refine sm_get_p1m (by decide) (by decide) ?_ | refine sm_get_p1n (by decide) rfl ?_ | refine sm_get_p2n (by decide) (by decide) rfl ?_ | refine sm_get_p2m (by decide) (by decide) (by decide) ?_)) ?_
  refine Bod.put dc_381_96 fr_381_493 (mk_61 _) (Nat.le_of_ble_eq_true rfl) pf_14_51 (st_6151 _ _) (mu_I _ _ _) ?_
  refine Bod.aldnG dc_381_99 (by repeat (first | exact q0 | exact sm_get_p1 | exact sm_get_p2e | refine sm_get_p1m (by decide) (by decide) ?_ | refine sm_get_p1n (by decide) rfl ?_ | refine sm_get_p2n (by decide) (by decide) rfl ?_ | refine sm_get_p2m (by decide) (by decide) (by decide) ?_)) ?_
  refine Bod.ic 0 (by decide) dc_381_100 ?_
  refine Bod.go dc_381_101 rfl ?_
  refine Bod.go dc_381_102 rfl ?_
  refine Bod.virt (r := []) dc_381_103 kr_381_549 ⟨Or.inl rfl, ow_352, cl_14⟩ (by rw [np_352]; rfl) (by rw [np_352]; rfl) (ob_of (mk_61 _)) (Nat.le_of_ble_eq_true rfl) (c2  ) ?_
  show Bod _ _ _ _ [] _ _ _
  refine Bod.ic 1 (by decide) dc_381_106 ?_
  exact Bod.retZ dc_381_107 rt_381 (Or.inr rfl)
theorem rPrL_2 {d : Nat} {S : cS} {lv : sm_L} {ba : Nat} {nn : Nat} {wa : Nat} {ni : Nat} {S1 : cS} {f6173 : Nat} {S2 : cS} (q0 : sm_get lv 0 = some (.ref 61)) (q1 : sm_get lv 1 = some (.int (nI ba))) (q2 : sm_get lv 2 = some (.int (nI nn))) (q3 : sm_get lv 3 = some (.int (nI wa))) (q4 : sm_get lv 4 = some (.int (nI ni))) (mba : ba < 2 ^ 20) (mnn : nn < 2 ^ 20) (mwa : wa < 2 ^ 20) (mni : ni < 2 ^ 20) (b1 : (ba + nn) < ni) (c1 : Ans (d + 8) 382 [.ref 61, .int (nI 10)] S none S1) (hf6173 : sI S1 6173 = nI f6173) (mf6173 : f6173 < 2 ^ 20) (b2 : f6173 ≠ 0) (c2 : Ans (d + 8) 351 [.ref 61, .int (nI 8)] (wI 6172 (nI wa) S1) (some (.int (nI 0))) S2) : Bod (d + 8) 381 15 lv [] S (some (.int 0)) (S2) := by
  refine Bod.ildG dc_381_15 (by repeat (first | exact q4 | exact sm_get_p1 | exact sm_get_p2e | refine sm_get_p1m (by decide) (by decide) ?_ | refine sm_get_p1n (by decide) rfl ?_ | refine sm_get_p2n (by decide) (by decide) rfl ?_ | refine sm_get_p2m (by decide) (by decide) (by decide) ?_)) ?_
  refine Bod.ildnG dc_381_17 (by repeat (first | exact q1 | exact sm_get_p1 | exact sm_get_p2e | refine sm_get_p1m (by decide) (by decide) ?_ | refine sm_get_p1n (by decide) rfl ?_ | refine sm_get_p2n (by decide) (by decide) rfl ?_ | refine sm_get_p2m (by decide) (by decide) (by decide) ?_)) ?_
  refine Bod.ildnG dc_381_18 (by repeat (first | exact q2 | exact sm_get_p1 | exact sm_get_p2e | refine sm_get_p1m (by decide) (by decide) ?_ | refine sm_get_p1n (by decide) rfl ?_ | refine sm_get_p2n (by decide) (by decide) rfl ?_ | refine sm_get_p2m (by decide) (by decide) (by decide) ?_)) ?_
  refine Bod.addN (ba + nn) (by omega) dc_381_19 ?_
  refine Bod.icT dc_381_20 rfl (k2_gt_T ni (ba + nn) rfl rfl (by omega) (by omega)) ?_
  refine Bod.aldnG dc_381_69 (by repeat (first | exact q0 | exact sm_get_p1 | exact sm_get_p2e | refine sm_get_p1m (by decide) (by decide) ?_ | refine sm_get_p1n (by decide) rfl ?_ | refine sm_get_p2n (by decide) (by decide) rfl ?_ | refine sm_get_p2m (by decide) (by decide) (by decide) ?_)) ?_
  refine Bod.bip 10 (by decide) dc_381_70 ?_
  refine Bod.virt (r := []) dc_381_72 kr_381_818 ⟨Or.inl rfl, ow_382, cl_14⟩ (by rw [np_382]; rfl) (by rw [np_382]; rfl) (ob_of (mk_61 _)) (Nat.le_of_ble_eq_true rfl) (c1  ) ?_
  show Bod _ _ _ _ [] _ _ _
  refine Bod.aldnG dc_381_75 (by repeat (first | exact q0 | exact sm_get_p1 | exact sm_get_p2e | refine sm_get_p1m (by decide) (by decide) ?_ | refine sm_get_p1n (by decide) rfl ?_ | refine sm_get_p2n (by decide) (by decide) rfl ?_ | refine sm_get_p2m (by decide) (by decide) (by decide) ?_)) ?_
  refine Bod.get dc_381_76 fr_381_811 (mk_61 _) rfl ?_
  refine Bod.eqI (nI f6173) (by first | assumption | (simp (disch := omega) only [rIn, rIe, rA, rIA, rLA, rJA, rVI, rQI, rVA, rQA, upd_at,  rAI, rLI, rJI, nI_add, pk_sub, kc_0, kc_1, kc_2, kc_3, kc_4, kc_5, reduceIte, Nat.reduceEqDiff, Nat.add_zero, rI_hold, rI_hold, rL_hold, hf6173]; done) | (simp (disch := omega) only [rIn, rIe, rA, rIA, rLA, rJA, rVI, rQI, rVA, rQA, upd_at,  rAI, rLI, rJI, nI_add, pk_sub, kc_0, kc_1, kc_2, kc_3, kc_4, kc_5, reduceIte, Nat.reduceEqDiff, Nat.add_zero, rI_hold, rI_hold, rL_hold, hf6173]; exact congrArg nI (by omega))) ?_
  refine Bod.ifF dc_381_79 rfl (k1_eq_F (k_ne f6173 0 rfl rfl (by omega) (by omega) (by omega))) ?_
  refine Bod.aldnG dc_381_82 (by repeat (first | exact q0 | exact sm_get_p1 | exact sm_get_p2e | refine sm_get_p1m (by decide) (by decide) ?_ | refine sm_get_p1n (by decide) rfl ?_ | refine sm_get_p2n (by decide) (by decide) rfl ?_ | refine sm_get_p2m (by decide) (by decide) (by decide) ?_)) ?_
  refine Bod.ildnG dc_381_83 (by repeat (first | exact q3 | exact sm_get_p1 | exact sm_get_p2e | refine sm_get_p1m (by decide) (by decide) ?_ | refine sm_get_p1n (by decide) rfl ?_ | refine sm_get_p2n (by decide) (by decide) rfl ?_ | refine sm_get_p2m (by decide) (by decide) (by decide) ?_)) ?_
  refine Bod.put dc_381_84 fr_381_808 (mk_61 _) (Nat.le_of_ble_eq_true rfl) pf_14_72 (st_6172 _ _) (mu_I _ _ _) ?_
  refine Bod.aldnG dc_381_87 (by repeat (first | exact q0 | exact sm_get_p1 | exact sm_get_p2e | refine sm_get_p1m (by decide) (by decide) ?_ | refine sm_get_p1n (by decide) rfl ?_ | refine sm_get_p2n (by decide) (by decide) rfl ?_ | refine sm_get_p2m (by decide) (by decide) (by decide) ?_)) ?_
  refine Bod.bip 8 (by decide) dc_381_88 ?_
  refine Bod.virt (r := []) dc_381_90 kr_381_608 ⟨Or.inl rfl, ow_351, cl_14⟩ (by rw [np_351]; rfl) (by rw [np_351]; rfl) (ob_of (mk_61 _)) (Nat.le_of_ble_eq_true rfl) (c2  ) ?_
  show Bod _ _ _ _ [_] _ _ _
  exact Bod.retZ dc_381_93 rt_381 (Or.inl rfl)
theorem rPrL_3 {d : Nat} {S Sf : cS} {v : Option Value} {lv : sm_L} {ba : Nat} {nn : Nat} {wa : Nat} {ni : Nat} {e91 : Nat} {S1 : cS} (q0 : sm_get lv 0 = some (.ref 61)) (q1 : sm_get lv 1 = some (.int (nI ba))) (q2 : sm_get lv 2 = some (.int (nI nn))) (q3 : sm_get lv 3 = some (.int (nI wa))) (q4 : sm_get lv 4 = some (.int (nI ni))) (mba : ba < 2 ^ 20) (mnn : nn < 2 ^ 20) (mwa : wa < 2 ^ 20) (mni : ni < 2 ^ 20) (b1 : ni ≤ (ba + nn)) (b2 : ni ≤ (ba + 1)) (b3 : ni < 20480) (he91 : sA S 91 ni = nI e91) (me91 : e91 < 2 ^ 20) (c1 : Ans (d + 8) 383 [.ref 61, .int (nI e91), .long (sL S 92 ni), .long (sL S 93 ni), .int (nI 0)] S none S1) (hB : ∀ lv1 : sm_L, sm_get lv1 0 = some (.ref 61) → sm_get lv1 1 = some (.int (nI ba)) → sm_get lv1 2 = some (.int (nI nn)) → sm_get lv1 3 = some (.int (nI wa)) → sm_get lv1 4 = some (.int (nI (ni + 1))) → Bod (d + 8) 381 15 lv1 [] (S1) v Sf) : Bod (d + 8) 381 15 lv [] S v Sf := by
  refine Bod.ildG dc_381_15 (by repeat (first | exact q4 | exact sm_get_p1 | exact sm_get_p2e | refine sm_get_p1m (by decide) (by decide) ?_ | refine sm_get_p1n (by decide) rfl ?_ | refine sm_get_p2n (by decide) (by decide) rfl ?_ | refine sm_get_p2m (by decide) (by decide) (by decide) ?_)) ?_
  refine Bod.ildnG dc_381_17 (by repeat (first | exact q1 | exact sm_get_p1 | exact sm_get_p2e | refine sm_get_p1m (by decide) (by decide) ?_ | refine sm_get_p1n (by decide) rfl ?_ | refine sm_get_p2n (by decide) (by decide) rfl ?_ | refine sm_get_p2m (by decide) (by decide) (by decide) ?_)) ?_
  refine Bod.ildnG dc_381_18 (by repeat (first | exact q2 | exact sm_get_p1 | exact sm_get_p2e | refine sm_get_p1m (by decide) (by decide) ?_ | refine sm_get_p1n (by decide) rfl ?_ | refine sm_get_p2n (by decide) (by decide) rfl ?_ | refine sm_get_p2m (by decide) (by decide) (by decide) ?_)) ?_
  refine Bod.addN (ba + nn) (by omega) dc_381_19 ?_
  refine Bod.icF dc_381_20 rfl (k2_gt_F ni (ba + nn) rfl rfl (by omega) (by omega)) ?_
  refine Bod.ildG dc_381_23 (by repeat (first | exact q4 | exact sm_get_p1 | exact sm_get_p2e | refine sm_get_p1m (by decide) (by decide) ?_ | refine sm_get_p1n (by decide) rfl ?_ | refine sm_get_p2n (by decide) (by decide) rfl ?_ | refine sm_get_p2m (by decide) (by decide) (by decide) ?_)) ?_
  refine Bod.ildnG dc_381_25 (by repeat (first | exact q1 | exact sm_get_p1 | exact sm_get_p2e | refine sm_get_p1m (by decide) (by decide) ?_ | refine sm_get_p1n (by decide) rfl ?_ | refine sm_get_p2n (by decide) (by decide) rfl ?_ | refine sm_get_p2m (by decide) (by decide) (by decide) ?_)) ?_
  refine Bod.ic 1 (by decide) dc_381_26 ?_
  refine Bod.addN (ba + 1) (by omega) dc_381_27 ?_
  refine Bod.icT dc_381_28 rfl (k2_le_T ni (ba + 1) rfl rfl (by omega) (by omega)) ?_
  refine Bod.aldnG dc_381_37 (by repeat (first | exact q0 | exact sm_get_p1 | exact sm_get_p2e | refine sm_get_p1m (by decide) (by decide) ?_ | refine sm_get_p1n (by decide) rfl ?_ | refine sm_get_p2n (by decide) (by decide) rfl ?_ | refine sm_get_p2m (by decide) (by decide) (by decide) ?_)) ?_
  refine Bod.aldnG dc_381_38 (by repeat (first | exact q0 | exact sm_get_p1 | exact sm_get_p2e | refine sm_get_p1m (by decide) (by decide) ?_ | refine sm_get_p1n (by decide) rfl ?_ | refine sm_get_p2n (by decide) (by decide) rfl ?_ | refine sm_get_p2m (by decide) (by decide) (by decide) ?_)) ?_
  refine Bod.get dc_381_39 fr_381_496 (mk_61 _) rfl ?_
  refine Bod.ildG dc_381_42 (by repeat (first | exact q4 | exact sm_get_p1 | exact sm_get_p2e | refine sm_get_p1m (by decide) (by decide) ?_ | refine sm_get_p1n (by decide) rfl ?_ | refine sm_get_p2n (by decide) (by decide) rfl ?_ | refine sm_get_p2m (by decide) (by decide) (by decide) ?_)) ?_
  refine Bod.ialdN ni rfl (by omega) (by omega) dc_381_44 (mk_91 _) ?_
  refine Bod.eqI (nI e91) (by first | assumption | rfl | exact congrArg nI (by omega) | (simp (disch := omega) only [rIn, rIe, rA, rIA, rLA, rJA, rVI, rQI, rVA, rQA, upd_at,  rAI, rLI, rJI, nI_add, pk_sub, kc_0, kc_1, kc_2, kc_3, kc_4, kc_5, reduceIte, Nat.reduceEqDiff, Nat.add_zero, rI_hold, rI_hold, rL_hold, he91]; done)) ?_
  refine Bod.aldnG dc_381_45 (by repeat (first | exact q0 | exact sm_get_p1 | exact sm_get_p2e | refine sm_get_p1m (by decide) (by decide) ?_ | refine sm_get_p1n (by decide) rfl ?_ | refine sm_get_p2n (by decide) (by decide) rfl ?_ | refine sm_get_p2m (by decide) (by decide) (by decide) ?_)) ?_
  refine Bod.get dc_381_46 fr_381_499 (mk_61 _) rfl ?_
  refine Bod.ildG dc_381_49 (by repeat (first | exact q4 | exact sm_get_p1 | exact sm_get_p2e | refine sm_get_p1m (by decide) (by decide) ?_ | refine sm_get_p1n (by decide) rfl ?_ | refine sm_get_p2n (by decide) (by decide) rfl ?_ | refine sm_get_p2m (by decide) (by decide) (by decide) ?_)) ?_
  refine Bod.laldN ni rfl (by omega) (by omega) dc_381_51 (mk_92 _) ?_
  refine Bod.aldnG dc_381_52 (by repeat (first | exact q0 | exact sm_get_p1 | exact sm_get_p2e | refine sm_get_p1m (by decide) (by decide) ?_ | refine sm_get_p1n (by decide) rfl ?_ | refine sm_get_p2n (by decide) (by decide) rfl ?_ | refine sm_get_p2m (by decide) (by decide) (by decide) ?_)) ?_
  refine Bod.get dc_381_53 fr_381_546 (mk_61 _) rfl ?_
  refine Bod.ildG dc_381_56 (by repeat (first | exact q4 | exact sm_get_p1 | exact sm_get_p2e | refine sm_get_p1m (by decide) (by decide) ?_ | refine sm_get_p1n (by decide) rfl ?_ | refine sm_get_p2n (by decide) (by decide) rfl ?_ | refine sm_get_p2m (by decide) (by decide) (by decide) ?_)) ?_
  refine Bod.laldN ni rfl (by omega) (by omega) dc_381_58 (mk_93 _) ?_
  refine Bod.ic 0 (by decide) dc_381_59 ?_
  refine Bod.virt (r := []) dc_381_60 kr_381_831 ⟨Or.inl rfl, ow_383, cl_14⟩ (by rw [np_383]; rfl) (by rw [np_383]; rfl) (ob_of (mk_61 _)) (Nat.le_of_ble_eq_true rfl) (c1  ) ?_
  show Bod _ _ _ _ [] _ _ _
  refine Bod.incN (ni + 1) (by rw [kc_1, nI_add]) dc_381_63 (by rw [ml_381]; exact Nat.le_of_ble_eq_true rfl) (by repeat (first | exact q4 | exact sm_get_p1 | exact sm_get_p2e | refine sm_get_p1m (by decide) (by decide) ?_ | refine sm_get_p1n (by decide) rfl ?_ | refine sm_get_p2n (by decide) (by decide) rfl ?_ | refine sm_get_p2m (by decide) (by decide) (by decide) ?_)) ?_
  refine Bod.go dc_381_66 rfl ?_
  exact hB _ (by repeat (first | exact q0 | exact sm_get_p1 | exact sm_get_p2e | refine sm_get_p1m (by decide) (by decide) ?_ | refine sm_get_p1n (by decide) rfl ?_ | refine sm_get_p2n (by decide) (by decide) rfl ?_ | refine sm_get_p2m (by decide) (by decide) (by decide) ?_)) (by repeat (first | exact q1 | exact sm_get_p1 | exact sm_get_p2e | refine sm_get_p1m (by decide) (by decide) ?_ | refine sm_get_p1n (by decide) rfl ?_ | refine sm_get_p2n (by decide) (by decide) rfl ?_ | refine sm_get_p2m (by decide) (by decide) (by decide) ?_)) (by repeat (first | exact q2 | exact sm_get_p1 | exact sm_get_p2e | refine sm_get_p1m (by decide) (by decide) ?_ | refine sm_get_p1n (by decide) rfl ?_ | refine sm_get_p2n (by decide) (by decide) rfl ?_ | refine sm_get_p2m (by decide) (by decide) (by decide) ?_)) (by repeat (first | exact q3 | exact sm_get_p1 | exact sm_get_p2e | refine sm_get_p1m (by decide) (by decide) ?_ | refine sm_get_p1n (by decide) rfl ?_ | refine sm_get_p2n (by decide) (by decide) rfl ?_ | refine sm_get_p2m (by decide) (by decide) (by decide) ?_)) (by repeat (first | exact q0 | exact sm_get_p1 | exact sm_get_p2e | refine sm_get_p1m (by decide) (by decide) ?_ | refine sm_get_p1n (by decide) rfl ?_ | refine sm_get_p2n (by decide) (by decide) rfl ?_ | refine sm_get_p2m (by decide) (by decide) (by decide) ?_))
theorem rPrL_4 {d : Nat} {S Sf : cS} {v : Option Value} {lv : sm_L} {ba : Nat} {nn : Nat} {wa : Nat} {ni : Nat} {S1 : cS} {e91 : Nat} {S2 : cS} (q0 : sm_get lv 0 = some (.ref 61)) (q1 : sm_get lv 1 = some (.int (nI ba))) (q2 : sm_get lv 2 = some (.int (nI nn))) (q3 : sm_get lv 3 = some (.int (nI wa))) (q4 : sm_get lv 4 = some (.int (nI ni))) (mba : ba < 2 ^ 20) (mnn : nn < 2 ^ 20) (mwa : wa < 2 ^ 20) (mni : ni < 2 ^ 20) (b1 : ni ≤ (ba + nn)) (b2 : (ba + 1) < ni) (c1 : Ans (d + 8) 382 [.ref 61, .int (nI 32)] S none S1) (b3 : ni < 20480) (he91 : sA S1 91 ni = nI e91) (me91 : e91 < 2 ^ 20) (c2 : Ans (d + 8) 383 [.ref 61, .int (nI e91), .long (sL S1 92 ni), .long (sL S1 93 ni), .int (nI 0)] S1 none S2) (hB : ∀ lv1 : sm_L, sm_get lv1 0 = some (.ref 61) → sm_get lv1 1 = some (.int (nI ba)) → sm_get lv1 2 = some (.int (nI nn)) → sm_get lv1 3 = some (.int (nI wa)) → sm_get lv1 4 = some (.int (nI (ni + 1))) → Bod (d + 8) 381 15 lv1 [] (S2) v Sf) : Bod (d + 8) 381 15 lv [] S v Sf := by
  refine Bod.ildG dc_381_15 (by repeat (first | exact q4 | exact sm_get_p1 | exact sm_get_p2e | refine sm_get_p1m (by decide) (by decide) ?_ | refine sm_get_p1n (by decide) rfl ?_ | refine sm_get_p2n (by decide) (by decide) rfl ?_ | refine sm_get_p2m (by decide) (by decide) (by decide) ?_)) ?_
  refine Bod.ildnG dc_381_17 (by repeat (first | exact q1 | exact sm_get_p1 | exact sm_get_p2e | refine sm_get_p1m (by decide) (by decide) ?_ | refine sm_get_p1n (by decide) rfl ?_ | refine sm_get_p2n (by decide) (by decide) rfl ?_ | refine sm_get_p2m (by decide) (by decide) (by decide) ?_)) ?_
  refine Bod.ildnG dc_381_18 (by repeat (first | exact q2 | exact sm_get_p1 | exact sm_get_p2e | refine sm_get_p1m (by decide) (by decide) ?_ | refine sm_get_p1n (by decide) rfl ?_ | refine sm_get_p2n (by decide) (by decide) rfl ?_ | refine sm_get_p2m (by decide) (by decide) (by decide) ?_)) ?_
  refine Bod.addN (ba + nn) (by omega) dc_381_19 ?_
  refine Bod.icF dc_381_20 rfl (k2_gt_F ni (ba + nn) rfl rfl (by omega) (by omega)) ?_
  refine Bod.ildG dc_381_23 (by repeat (first | exact q4 | exact sm_get_p1 | exact sm_get_p2e | refine sm_get_p1m (by decide) (by decide) ?_ | refine sm_get_p1n (by decide) rfl ?_ | refine sm_get_p2n (by decide) (by decide) rfl ?_ | refine sm_get_p2m (by decide) (by decide) (by decide) ?_)) ?_
  refine Bod.ildnG dc_381_25 (by repeat (first | exact q1 | exact sm_get_p1 | exact sm_get_p2e | refine sm_get_p1m (by decide) (by decide) ?_ | refine sm_get_p1n (by decide) rfl ?_ | refine sm_get_p2n (by decide) (by decide) rfl ?_ | refine sm_get_p2m (by decide) (by decide) (by decide) ?_)) ?_
  refine Bod.ic 1 (by decide) dc_381_26 ?_
  refine Bod.addN (ba + 1) (by omega) dc_381_27 ?_
  refine Bod.icF dc_381_28 rfl (k2_le_F ni (ba + 1) rfl rfl (by omega) (by omega)) ?_
  refine Bod.aldnG dc_381_31 (by repeat (first | exact q0 | exact sm_get_p1 | exact sm_get_p2e | refine sm_get_p1m (by decide) (by decide) ?_ | refine sm_get_p1n (by decide) rfl ?_ | refine sm_get_p2n (by decide) (by decide) rfl ?_ | refine sm_get_p2m (by decide) (by decide) (by decide) ?_)) ?_
  refine Bod.bip 32 (by decide) dc_381_32 ?_
  refine Bod.virt (r := []) dc_381_34 kr_381_818 ⟨Or.inl rfl, ow_382, cl_14⟩ (by rw [np_382]; rfl) (by rw [np_382]; rfl) (ob_of (mk_61 _)) (Nat.le_of_ble_eq_true rfl) (c1  ) ?_
  show Bod _ _ _ _ [] _ _ _
  refine Bod.aldnG dc_381_37 (by repeat (first | exact q0 | exact sm_get_p1 | exact sm_get_p2e | refine sm_get_p1m (by decide) (by decide) ?_ | refine sm_get_p1n (by decide) rfl ?_ | refine sm_get_p2n (by decide) (by decide) rfl ?_ | refine sm_get_p2m (by decide) (by decide) (by decide) ?_)) ?_
  refine Bod.aldnG dc_381_38 (by repeat (first | exact q0 | exact sm_get_p1 | exact sm_get_p2e | refine sm_get_p1m (by decide) (by decide) ?_ | refine sm_get_p1n (by decide) rfl ?_ | refine sm_get_p2n (by decide) (by decide) rfl ?_ | refine sm_get_p2m (by decide) (by decide) (by decide) ?_)) ?_
  refine Bod.get dc_381_39 fr_381_496 (mk_61 _) rfl ?_
  refine Bod.ildG dc_381_42 (by repeat (first | exact q4 | exact sm_get_p1 | exact sm_get_p2e | refine sm_get_p1m (by decide) (by decide) ?_ | refine sm_get_p1n (by decide) rfl ?_ | refine sm_get_p2n (by decide) (by decide) rfl ?_ | refine sm_get_p2m (by decide) (by decide) (by decide) ?_)) ?_
  refine Bod.ialdN ni rfl (by omega) (by omega) dc_381_44 (mk_91 _) ?_
  refine Bod.eqI (nI e91) (by first | assumption | (simp (disch := omega) only [rIn, rIe, rA, rIA, rLA, rJA, rVI, rQI, rVA, rQA, upd_at,  rAI, rLI, rJI, nI_add, pk_sub, kc_0, kc_1, kc_2, kc_3, kc_4, kc_5, reduceIte, Nat.reduceEqDiff, Nat.add_zero, rI_hold, rI_hold, rL_hold, he91]; done) | (simp (disch := omega) only [rIn, rIe, rA, rIA, rLA, rJA, rVI, rQI, rVA, rQA, upd_at,  rAI, rLI, rJI, nI_add, pk_sub, kc_0, kc_1, kc_2, kc_3, kc_4, kc_5, reduceIte, Nat.reduceEqDiff, Nat.add_zero, rI_hold, rI_hold, rL_hold, he91]; exact congrArg nI (by omega))) ?_
  refine Bod.aldnG dc_381_45 (by repeat (first | exact q0 | exact sm_get_p1 | exact sm_get_p2e | refine sm_get_p1m (by decide) (by decide) ?_ | refine sm_get_p1n (by decide) rfl ?_ | refine sm_get_p2n (by decide) (by decide) rfl ?_ | refine sm_get_p2m (by decide) (by decide) (by decide) ?_)) ?_
  refine Bod.get dc_381_46 fr_381_499 (mk_61 _) rfl ?_
  refine Bod.ildG dc_381_49 (by repeat (first | exact q4 | exact sm_get_p1 | exact sm_get_p2e | refine sm_get_p1m (by decide) (by decide) ?_ | refine sm_get_p1n (by decide) rfl ?_ | refine sm_get_p2n (by decide) (by decide) rfl ?_ | refine sm_get_p2m (by decide) (by decide) (by decide) ?_)) ?_
  refine Bod.laldN ni rfl (by omega) (by omega) dc_381_51 (mk_92 _) ?_
  refine Bod.aldnG dc_381_52 (by repeat (first | exact q0 | exact sm_get_p1 | exact sm_get_p2e | refine sm_get_p1m (by decide) (by decide) ?_ | refine sm_get_p1n (by decide) rfl ?_ | refine sm_get_p2n (by decide) (by decide) rfl ?_ | refine sm_get_p2m (by decide) (by decide) (by decide) ?_)) ?_
  refine Bod.get dc_381_53 fr_381_546 (mk_61 _) rfl ?_
  refine Bod.ildG dc_381_56 (by repeat (first | exact q4 | exact sm_get_p1 | exact sm_get_p2e | refine sm_get_p1m (by decide) (by decide) ?_ | refine sm_get_p1n (by decide) rfl ?_ | refine sm_get_p2n (by decide) (by decide) rfl ?_ | refine sm_get_p2m (by decide) (by decide) (by decide) ?_)) ?_
  refine Bod.laldN ni rfl (by omega) (by omega) dc_381_58 (mk_93 _) ?_
  refine Bod.ic 0 (by decide) dc_381_59 ?_
  refine Bod.virt (r := []) dc_381_60 kr_381_831 ⟨Or.inl rfl, ow_383, cl_14⟩ (by rw [np_383]; rfl) (by rw [np_383]; rfl) (ob_of (mk_61 _)) (Nat.le_of_ble_eq_true rfl) (c2  ) ?_
  show Bod _ _ _ _ [] _ _ _
  refine Bod.incN (ni + 1) (by rw [kc_1, nI_add]) dc_381_63 (by rw [ml_381]; exact Nat.le_of_ble_eq_true rfl) (by repeat (first | exact q4 | exact sm_get_p1 | exact sm_get_p2e | refine sm_get_p1m (by decide) (by decide) ?_ | refine sm_get_p1n (by decide) rfl ?_ | refine sm_get_p2n (by decide) (by decide) rfl ?_ | refine sm_get_p2m (by decide) (by decide) (by decide) ?_)) ?_
  refine Bod.go dc_381_66 rfl ?_
  exact hB _ (by repeat (first | exact q0 | exact sm_get_p1 | exact sm_get_p2e | refine sm_get_p1m (by decide) (by decide) ?_ | refine sm_get_p1n (by decide) rfl ?_ | refine sm_get_p2n (by decide) (by decide) rfl ?_ | refine sm_get_p2m (by decide) (by decide) (by decide) ?_)) (by repeat (first | exact q1 | exact sm_get_p1 | exact sm_get_p2e | refine sm_get_p1m (by decide) (by decide) ?_ | refine sm_get_p1n (by decide) rfl ?_ | refine sm_get_p2n (by decide) (by decide) rfl ?_ | refine sm_get_p2m (by decide) (by decide) (by decide) ?_)) (by repeat (first | exact q2 | exact sm_get_p1 | exact sm_get_p2e | refine sm_get_p1m (by decide) (by decide) ?_ | refine sm_get_p1n (by decide) rfl ?_ | refine sm_get_p2n (by decide) (by decide) rfl ?_ | refine sm_get_p2m (by decide) (by decide) (by decide) ?_)) (by repeat (first | exact q3 | exact sm_get_p1 | exact sm_get_p2e | refine sm_get_p1m (by decide) (by decide) ?_ | refine sm_get_p1n (by decide) rfl ?_ | refine sm_get_p2n (by decide) (by decide) rfl ?_ | refine sm_get_p2m (by decide) (by decide) (by decide) ?_)) (by repeat (first | exact q0 | exact sm_get_p1 | exact sm_get_p2e | refine sm_get_p1m (by decide) (by decide) ?_ | refine sm_get_p1n (by decide) rfl ?_ | refine sm_get_p2n (by decide) (by decide) rfl ?_ | refine sm_get_p2m (by decide) (by decide) (by decide) ?_))
theorem rOe_1 {d : Nat} {S : cS} {x : Int32} {f6172 : Nat} (hf6172 : sI S 6172 = nI f6172) (mf6172 : f6172 < 2 ^ 20) (b1 : f6172 ≠ 4000) (b2 : f6172 < 4000) : Bod (d + 8) 382 0 [(0, .ref 61), (1, .int x)] [] S none (wI 6172 (nI (f6172 + 1)) (wA 106 f6172 (vp_nar .byte x.toInt8.toInt32) S)) := by
  refine Bod.go dc_382_0 rfl ?_
  refine Bod.get dc_382_1 fr_382_808 (mk_61 _) rfl ?_
  refine Bod.eqI (nI f6172) (by first | assumption | rfl | exact congrArg nI (by omega) | (simp (disch := omega) only [rIn, rIe, rA, rIA, rLA, rJA, rVI, rQI, rVA, rQA, upd_at,  rAI, rLI, rJI, nI_add, pk_sub, kc_0, kc_1, kc_2, kc_3, kc_4, kc_5, reduceIte, Nat.reduceEqDiff, Nat.add_zero, rI_hold, rI_hold, rL_hold, hf6172]; done)) ?_
  refine Bod.sip 4000 (by decide) dc_382_4 ?_
  refine Bod.icT dc_382_7 rfl (k2_ne_T (k_ne f6172 4000 rfl rfl (by omega) (by omega) (by omega))) ?_
  refine Bod.go dc_382_16 rfl ?_
  refine Bod.get dc_382_17 fr_382_815 (mk_61 _) rfl ?_
  refine Bod.go dc_382_20 rfl ?_
  refine Bod.get dc_382_21 fr_382_808 (mk_61 _) rfl ?_
  refine Bod.eqI (nI f6172) (by first | assumption | rfl | exact congrArg nI (by omega) | (simp (disch := omega) only [rIn, rIe, rA, rIA, rLA, rJA, rVI, rQI, rVA, rQA, upd_at,  rAI, rLI, rJI, nI_add, pk_sub, kc_0, kc_1, kc_2, kc_3, kc_4, kc_5, reduceIte, Nat.reduceEqDiff, Nat.add_zero, rI_hold, rI_hold, rL_hold, hf6172]; done)) ?_
  refine Bod.go dc_382_24 rfl ?_
  refine Bod.go dc_382_25 rfl ?_
  refine Bod.bastN f6172 rfl (by omega) (by omega) dc_382_26 (mk_106 _) (sa_106 _ _ _) (mu_A _ _ _ _) ?_
  refine Bod.go dc_382_27 rfl ?_
  refine Bod.go dc_382_28 rfl ?_
  refine Bod.get dc_382_29 fr_382_808 (mk_61 _) rfl ?_
  refine Bod.eqI (nI f6172) (by first | assumption | (simp (disch := omega) only [rIn, rIe, rA, rIA, rLA, rJA, rVI, rQI, rVA, rQA, upd_at,  rAI, rLI, rJI, nI_add, pk_sub, kc_0, kc_1, kc_2, kc_3, kc_4, kc_5, reduceIte, Nat.reduceEqDiff, Nat.add_zero, rI_hold, rI_hold, rL_hold, hf6172]; done) | (simp (disch := omega) only [rIn, rIe, rA, rIA, rLA, rJA, rVI, rQI, rVA, rQA, upd_at,  rAI, rLI, rJI, nI_add, pk_sub, kc_0, kc_1, kc_2, kc_3, kc_4, kc_5, reduceIte, Nat.reduceEqDiff, Nat.add_zero, rI_hold, rI_hold, rL_hold, hf6172]; exact congrArg nI (by omega))) ?_
  refine Bod.ic 1 (by decide) dc_382_32 ?_
  refine Bod.addN (f6172 + 1) (by omega) dc_382_33 ?_
  refine Bod.put dc_382_34 fr_382_808 (mk_61 _) (Nat.le_of_ble_eq_true rfl) pf_14_72 (st_6172 _ _) (mu_I _ _ _) ?_
  exact Bod.retV dc_382_37 rt_382
theorem rOe_2 {d : Nat} {S : cS} {x : Int32} {f6172 : Nat} (hf6172 : sI S 6172 = nI f6172) (mf6172 : f6172 < 2 ^ 20) (b1 : f6172 = 4000) : Bod (d + 8) 382 0 [(0, .ref 61), (1, .int x)] [] S none (wI 6173 (nI 1) S) := by
  refine Bod.go dc_382_0 rfl ?_
  refine Bod.get dc_382_1 fr_382_808 (mk_61 _) rfl ?_
  refine Bod.eqI (nI f6172) (by first | assumption | rfl | exact congrArg nI (by omega) | (simp (disch := omega) only [rIn, rIe, rA, rIA, rLA, rJA, rVI, rQI, rVA, rQA, upd_at,  rAI, rLI, rJI, nI_add, pk_sub, kc_0, kc_1, kc_2, kc_3, kc_4, kc_5, reduceIte, Nat.reduceEqDiff, Nat.add_zero, rI_hold, rI_hold, rL_hold, hf6172]; done)) ?_
  refine Bod.sip 4000 (by decide) dc_382_4 ?_
  refine Bod.icF dc_382_7 rfl (k2_ne_F (k_eq f6172 4000 rfl rfl (by omega))) ?_
  refine Bod.go dc_382_10 rfl ?_
  refine Bod.ic 1 (by decide) dc_382_11 ?_
  refine Bod.put dc_382_12 fr_382_811 (mk_61 _) (Nat.le_of_ble_eq_true rfl) (pf_14_73 (Or.inr rfl)) (st_6173 _ _) (mu_I _ _ _) ?_
  exact Bod.retV dc_382_15 rt_382
theorem rSy0_1 {d : Nat} {S : cS} {xa : Int64} {xb : Int64} {mk : Nat} {S1 : cS} (mmk : mk < 2 ^ 20) (c1 : Ans (d + 8) 384 [.ref 61, .retAddr (2 * 11)] S none S1) : Bod (d + 8) 383 0 [(0, .ref 61), (1, .int (nI 0)), (2, .long xa), (4, .long xb), (6, .int (nI mk))] [] S none (S1) := by
  refine Bod.go dc_383_0 rfl ?_
  refine Bod.ifF dc_383_1 rfl (k1_ne_F (k_eq 0 0 rfl rfl (by omega))) ?_
  refine Bod.go dc_383_4 rfl ?_
  refine Bod.ldcT dc_383_5 cs_383_123 ?_
  refine Bod.virt (r := []) dc_383_7 kr_383_821 ⟨Or.inl rfl, ow_384, cl_14⟩ (by rw [np_384]; rfl) (by rw [np_384]; rfl) (ob_of (mk_61 _)) (Nat.le_of_ble_eq_true rfl) (c1  ) ?_
  show Bod _ _ _ _ [] _ _ _
  refine Bod.go dc_383_10 rfl ?_
  exact Bod.retV dc_383_129 rt_383
theorem rSy1_1 {d : Nat} {S Sf : cS} {v : Option Value} {xa : Int64} {xb : Int64} {mk : Nat} {S1 : cS} {a : Nat} (mmk : mk < 2 ^ 20) (ma : a < 2 ^ 20) (c1 : Ans (d + 8) 385 [.ref 61, .long xa] S (some (.int (nI a))) S1) (hB : ∀ lv1 : sm_L, sm_get lv1 0 = some (.ref 61) → sm_get lv1 7 = some (.int (nI a)) → sm_get lv1 8 = some (.int (nI 0)) → Bod (d + 8) 383 28 lv1 [] (S1) v Sf) : Bod (d + 8) 383 0 [(0, .ref 61), (1, .int (nI 1)), (2, .long xa), (4, .long xb), (6, .int (nI mk))] [] S v Sf := by
  refine Bod.go dc_383_0 rfl ?_
  refine Bod.ifT dc_383_1 rfl (k1_ne_T (k_ne 1 0 rfl rfl (by omega) (by omega) (by omega))) ?_
  refine Bod.go dc_383_13 rfl ?_
  refine Bod.ic 1 (by decide) dc_383_14 ?_
  refine Bod.icF dc_383_15 rfl (k2_ne_F (k_eq 1 1 rfl rfl (by omega))) ?_
  refine Bod.go dc_383_18 rfl ?_
  refine Bod.go dc_383_19 rfl ?_
  refine Bod.virt (r := []) dc_383_20 kr_383_805 ⟨Or.inl rfl, ow_385, cl_14⟩ (by rw [np_385]; rfl) (by rw [np_385]; rfl) (ob_of (mk_61 _)) (Nat.le_of_ble_eq_true rfl) (c1  ) ?_
  show Bod _ _ _ _ [_] _ _ _
  refine Bod.ist dc_383_23 (by rw [ml_383]; exact Nat.le_of_ble_eq_true rfl) ?_
  refine Bod.ic 0 (by decide) dc_383_25 ?_
  refine Bod.ist dc_383_26 (by rw [ml_383]; exact Nat.le_of_ble_eq_true rfl) ?_
  exact hB _ (by first | rfl | exact (by repeat (first | exact rfl | exact sm_get_p1 | exact sm_get_p2e | refine sm_get_p1m (by decide) (by decide) ?_ | refine sm_get_p1n (by decide) rfl ?_ | refine sm_get_p2n (by decide) (by decide) rfl ?_ | refine sm_get_p2m (by decide) (by decide) (by decide) ?_))) (by first | rfl | exact (by repeat (first | exact rfl | exact sm_get_p1 | exact sm_get_p2e | refine sm_get_p1m (by decide) (by decide) ?_ | refine sm_get_p1n (by decide) rfl ?_ | refine sm_get_p2n (by decide) (by decide) rfl ?_ | refine sm_get_p2m (by decide) (by decide) (by decide) ?_))) (by first | rfl | exact (by repeat (first | exact rfl | exact sm_get_p1 | exact sm_get_p2e | refine sm_get_p1m (by decide) (by decide) ?_ | refine sm_get_p1n (by decide) rfl ?_ | refine sm_get_p2n (by decide) (by decide) rfl ?_ | refine sm_get_p2m (by decide) (by decide) (by decide) ?_)))
theorem rSy2_1 {d : Nat} {S Sf : cS} {v : Option Value} {xa : Int64} {xb : Int64} {mk : Nat} (mmk : mk < 2 ^ 20) (b1 : mk = 0) (hB : ∀ lv1 : sm_L, sm_get lv1 0 = some (.ref 61) → sm_get lv1 2 = some (.long xa) → sm_get lv1 4 = some (.long xb) → sm_get lv1 6 = some (.int (nI mk)) → sm_get lv1 7 = some (.int (nI 0)) → Bod (d + 8) 383 74 lv1 [] (S) v Sf) : Bod (d + 8) 383 0 [(0, .ref 61), (1, .int (nI 2)), (2, .long xa), (4, .long xb), (6, .int (nI mk))] [] S v Sf := by
  refine Bod.go dc_383_0 rfl ?_
  refine Bod.ifT dc_383_1 rfl (k1_ne_T (k_ne 2 0 rfl rfl (by omega) (by omega) (by omega))) ?_
  refine Bod.go dc_383_13 rfl ?_
  refine Bod.ic 1 (by decide) dc_383_14 ?_
  refine Bod.icT dc_383_15 rfl (k2_ne_T (k_ne 2 1 rfl rfl (by omega) (by omega) (by omega))) ?_
  refine Bod.go dc_383_55 rfl ?_
  refine Bod.ic 2 (by decide) dc_383_56 ?_
  refine Bod.icF dc_383_57 rfl (k2_ne_F (k_eq 2 2 rfl rfl (by omega))) ?_
  refine Bod.go dc_383_60 rfl ?_
  refine Bod.ifT dc_383_62 rfl (k1_eq_T (k_eq mk 0 rfl rfl (by omega))) ?_
  refine Bod.ic 0 (by decide) dc_383_71 ?_
  refine Bod.ist dc_383_72 (by rw [ml_383]; exact Nat.le_of_ble_eq_true rfl) ?_
  exact hB _ (by first | rfl | exact (by repeat (first | exact rfl | exact sm_get_p1 | exact sm_get_p2e | refine sm_get_p1m (by decide) (by decide) ?_ | refine sm_get_p1n (by decide) rfl ?_ | refine sm_get_p2n (by decide) (by decide) rfl ?_ | refine sm_get_p2m (by decide) (by decide) (by decide) ?_))) (by first | rfl | exact (by repeat (first | exact rfl | exact sm_get_p1 | exact sm_get_p2e | refine sm_get_p1m (by decide) (by decide) ?_ | refine sm_get_p1n (by decide) rfl ?_ | refine sm_get_p2n (by decide) (by decide) rfl ?_ | refine sm_get_p2m (by decide) (by decide) (by decide) ?_))) (by first | rfl | exact (by repeat (first | exact rfl | exact sm_get_p1 | exact sm_get_p2e | refine sm_get_p1m (by decide) (by decide) ?_ | refine sm_get_p1n (by decide) rfl ?_ | refine sm_get_p2n (by decide) (by decide) rfl ?_ | refine sm_get_p2m (by decide) (by decide) (by decide) ?_))) (by first | rfl | exact (by repeat (first | exact rfl | exact sm_get_p1 | exact sm_get_p2e | refine sm_get_p1m (by decide) (by decide) ?_ | refine sm_get_p1n (by decide) rfl ?_ | refine sm_get_p2n (by decide) (by decide) rfl ?_ | refine sm_get_p2m (by decide) (by decide) (by decide) ?_))) (by first | rfl | exact (by repeat (first | exact rfl | exact sm_get_p1 | exact sm_get_p2e | refine sm_get_p1m (by decide) (by decide) ?_ | refine sm_get_p1n (by decide) rfl ?_ | refine sm_get_p2n (by decide) (by decide) rfl ?_ | refine sm_get_p2m (by decide) (by decide) (by decide) ?_)))
theorem rSy2_2 {d : Nat} {S Sf : cS} {v : Option Value} {xa : Int64} {xb : Int64} {mk : Nat} {S1 : cS} (mmk : mk < 2 ^ 20) (b1 : mk ≠ 0) (c1 : Ans (d + 8) 382 [.ref 61, .int (nI 39)] S none S1) (hB : ∀ lv1 : sm_L, sm_get lv1 0 = some (.ref 61) → sm_get lv1 2 = some (.long xa) → sm_get lv1 4 = some (.long xb) → sm_get lv1 6 = some (.int (nI mk)) → sm_get lv1 7 = some (.int (nI 0)) → Bod (d + 8) 383 74 lv1 [] (S1) v Sf) : Bod (d + 8) 383 0 [(0, .ref 61), (1, .int (nI 2)), (2, .long xa), (4, .long xb), (6, .int (nI mk))] [] S v Sf := by
  refine Bod.go dc_383_0 rfl ?_
  refine Bod.ifT dc_383_1 rfl (k1_ne_T (k_ne 2 0 rfl rfl (by omega) (by omega) (by omega))) ?_
  refine Bod.go dc_383_13 rfl ?_
  refine Bod.ic 1 (by decide) dc_383_14 ?_
  refine Bod.icT dc_383_15 rfl (k2_ne_T (k_ne 2 1 rfl rfl (by omega) (by omega) (by omega))) ?_
  refine Bod.go dc_383_55 rfl ?_
  refine Bod.ic 2 (by decide) dc_383_56 ?_
  refine Bod.icF dc_383_57 rfl (k2_ne_F (k_eq 2 2 rfl rfl (by omega))) ?_
  refine Bod.go dc_383_60 rfl ?_
  refine Bod.ifF dc_383_62 rfl (k1_eq_F (k_ne mk 0 rfl rfl (by omega) (by omega) (by omega))) ?_
  refine Bod.go dc_383_65 rfl ?_
  refine Bod.bip 39 (by decide) dc_383_66 ?_
  refine Bod.virt (r := []) dc_383_68 kr_383_818 ⟨Or.inl rfl, ow_382, cl_14⟩ (by rw [np_382]; rfl) (by rw [np_382]; rfl) (ob_of (mk_61 _)) (Nat.le_of_ble_eq_true rfl) (c1  ) ?_
  show Bod _ _ _ _ [] _ _ _
  refine Bod.ic 0 (by decide) dc_383_71 ?_
  refine Bod.ist dc_383_72 (by rw [ml_383]; exact Nat.le_of_ble_eq_true rfl) ?_
  exact hB _ (by first | rfl | exact (by repeat (first | exact rfl | exact sm_get_p1 | exact sm_get_p2e | refine sm_get_p1m (by decide) (by decide) ?_ | refine sm_get_p1n (by decide) rfl ?_ | refine sm_get_p2n (by decide) (by decide) rfl ?_ | refine sm_get_p2m (by decide) (by decide) (by decide) ?_))) (by first | rfl | exact (by repeat (first | exact rfl | exact sm_get_p1 | exact sm_get_p2e | refine sm_get_p1m (by decide) (by decide) ?_ | refine sm_get_p1n (by decide) rfl ?_ | refine sm_get_p2n (by decide) (by decide) rfl ?_ | refine sm_get_p2m (by decide) (by decide) (by decide) ?_))) (by first | rfl | exact (by repeat (first | exact rfl | exact sm_get_p1 | exact sm_get_p2e | refine sm_get_p1m (by decide) (by decide) ?_ | refine sm_get_p1n (by decide) rfl ?_ | refine sm_get_p2n (by decide) (by decide) rfl ?_ | refine sm_get_p2m (by decide) (by decide) (by decide) ?_))) (by first | rfl | exact (by repeat (first | exact rfl | exact sm_get_p1 | exact sm_get_p2e | refine sm_get_p1m (by decide) (by decide) ?_ | refine sm_get_p1n (by decide) rfl ?_ | refine sm_get_p2n (by decide) (by decide) rfl ?_ | refine sm_get_p2m (by decide) (by decide) (by decide) ?_))) (by first | rfl | exact (by repeat (first | exact rfl | exact sm_get_p1 | exact sm_get_p2e | refine sm_get_p1m (by decide) (by decide) ?_ | refine sm_get_p1n (by decide) rfl ?_ | refine sm_get_p2n (by decide) (by decide) rfl ?_ | refine sm_get_p2m (by decide) (by decide) (by decide) ?_)))
theorem rSy3_1 {d : Nat} {S : cS} {xa : Int64} {xb : Int64} {mk : Nat} {o : Nat} {g : Nat} {zg : Nat} {S1 : cS} (mmk : mk < 2 ^ 20) (ho : xa.toInt32 = nI o) (mo : o < 1500) (ag : 108 ≤ g) (hq3 : sQ S 86 o = some g) (c1 : Ans (d + 8) 387 [.ref 61, .ref g, .int (nI mk)] S none S1) : Bod (d + 8) 383 0 [(0, .ref 61), (1, .int (nI 3)), (2, .long xa), (4, .long xb), (6, .int (nI mk))] [] S none (S1) := by
  refine Bod.go dc_383_0 rfl ?_
  refine Bod.ifT dc_383_1 rfl (k1_ne_T (k_ne 3 0 rfl rfl (by omega) (by omega) (by omega))) ?_
  refine Bod.go dc_383_13 rfl ?_
  refine Bod.ic 1 (by decide) dc_383_14 ?_
  refine Bod.icT dc_383_15 rfl (k2_ne_T (k_ne 3 1 rfl rfl (by omega) (by omega) (by omega))) ?_
  refine Bod.go dc_383_55 rfl ?_
  refine Bod.ic 2 (by decide) dc_383_56 ?_
  refine Bod.icT dc_383_57 rfl (k2_ne_T (k_ne 3 2 rfl rfl (by omega) (by omega) (by omega))) ?_
  refine Bod.go dc_383_116 rfl ?_
  refine Bod.go dc_383_117 rfl ?_
  refine Bod.get dc_383_118 fr_383_485 (mk_61 _) rfl ?_
  refine Bod.go dc_383_121 rfl ?_
  refine Bod.go dc_383_122 rfl ?_
  refine Bod.eqI (nI o) (by first | exact ho | (simp only [rIn, rIe, rA, rIA, rLA, rJA, rVI, rQI, rVA, rQA, upd_at,  rAI, rLI, rJI, nI_add, pk_sub, kc_0, kc_1, kc_2, kc_3, kc_4, kc_5, reduceIte, Nat.reduceEqDiff, Nat.add_zero, rI_hold, rI_hold, rL_hold]; exact ho)) ?_
  refine Bod.aaldR (N := 1500) (b := g) o rfl (by omega) (by omega) (by first | exact hq3 | (simp only [rIQ, rJQ, rAQ, rLQ, rVQ, rQ_holdE]; exact hq3)) dc_383_123 (mk_86 _) ht_5 ?_
  refine Bod.go dc_383_124 rfl ?_
  refine Bod.virt (r := []) dc_383_126 kr_383_825 ⟨Or.inl rfl, ow_387, cl_14⟩ (by rw [np_387]; rfl) (by rw [np_387]; rfl) (ob_of (mk_61 _)) (Nat.le_of_ble_eq_true rfl) (c1  ) ?_
  show Bod _ _ _ _ [] _ _ _
  exact Bod.retV dc_383_129 rt_383
theorem rSyA_1 {d : Nat} {S : cS} {lv : sm_L} {nd : Nat} {ni : Nat} (q0 : sm_get lv 0 = some (.ref 61)) (q7 : sm_get lv 7 = some (.int (nI nd))) (q8 : sm_get lv 8 = some (.int (nI ni))) (mnd : nd < 2 ^ 20) (mni : ni < 2 ^ 20) (b1 : nd ≤ ni) : Bod (d + 8) 383 28 lv [] S none (S) := by
  refine Bod.ildG dc_383_28 (by repeat (first | exact q8 | exact sm_get_p1 | exact sm_get_p2e | refine sm_get_p1m (by decide) (by decide) ?_ | refine sm_get_p1n (by decide) rfl ?_ | refine sm_get_p2n (by decide) (by decide) rfl ?_ | refine sm_get_p2m (by decide) (by decide) (by decide) ?_)) ?_
  refine Bod.ildG dc_383_30 (by repeat (first | exact q7 | exact sm_get_p1 | exact sm_get_p2e | refine sm_get_p1m (by decide) (by decide) ?_ | refine sm_get_p1n (by decide) rfl ?_ | refine sm_get_p2n (by decide) (by decide) rfl ?_ | refine sm_get_p2m (by decide) (by decide) (by decide) ?_)) ?_
  refine Bod.icT dc_383_32 rfl (k2_ge_T ni nd rfl rfl (by omega) (by omega)) ?_
  refine Bod.go dc_383_52 rfl ?_
  exact Bod.retV dc_383_129 rt_383
theorem rSyA_2 {d : Nat} {S Sf : cS} {v : Option Value} {lv : sm_L} {nd : Nat} {ni : Nat} {S1 : cS} (q0 : sm_get lv 0 = some (.ref 61)) (q7 : sm_get lv 7 = some (.int (nI nd))) (q8 : sm_get lv 8 = some (.int (nI ni))) (mnd : nd < 2 ^ 20) (mni : ni < 2 ^ 20) (b1 : ni < nd) (b2 : ni < 40) (c1 : Ans (d + 8) 382 [.ref 61, .int (sA S 104 ni)] S none S1) (hB : ∀ lv1 : sm_L, sm_get lv1 0 = some (.ref 61) → sm_get lv1 7 = some (.int (nI nd)) → sm_get lv1 8 = some (.int (nI (ni + 1))) → Bod (d + 8) 383 28 lv1 [] (S1) v Sf) : Bod (d + 8) 383 28 lv [] S v Sf := by
  refine Bod.ildG dc_383_28 (by repeat (first | exact q8 | exact sm_get_p1 | exact sm_get_p2e | refine sm_get_p1m (by decide) (by decide) ?_ | refine sm_get_p1n (by decide) rfl ?_ | refine sm_get_p2n (by decide) (by decide) rfl ?_ | refine sm_get_p2m (by decide) (by decide) (by decide) ?_)) ?_
  refine Bod.ildG dc_383_30 (by repeat (first | exact q7 | exact sm_get_p1 | exact sm_get_p2e | refine sm_get_p1m (by decide) (by decide) ?_ | refine sm_get_p1n (by decide) rfl ?_ | refine sm_get_p2n (by decide) (by decide) rfl ?_ | refine sm_get_p2m (by decide) (by decide) (by decide) ?_)) ?_
  refine Bod.icF dc_383_32 rfl (k2_ge_F ni nd rfl rfl (by omega) (by omega)) ?_
  refine Bod.aldnG dc_383_35 (by repeat (first | exact q0 | exact sm_get_p1 | exact sm_get_p2e | refine sm_get_p1m (by decide) (by decide) ?_ | refine sm_get_p1n (by decide) rfl ?_ | refine sm_get_p2n (by decide) (by decide) rfl ?_ | refine sm_get_p2m (by decide) (by decide) (by decide) ?_)) ?_
  refine Bod.aldnG dc_383_36 (by repeat (first | exact q0 | exact sm_get_p1 | exact sm_get_p2e | refine sm_get_p1m (by decide) (by decide) ?_ | refine sm_get_p1n (by decide) rfl ?_ | refine sm_get_p2n (by decide) (by decide) rfl ?_ | refine sm_get_p2m (by decide) (by decide) (by decide) ?_)) ?_
  refine Bod.get dc_383_37 fr_383_752 (mk_61 _) rfl ?_
  refine Bod.ildG dc_383_40 (by repeat (first | exact q8 | exact sm_get_p1 | exact sm_get_p2e | refine sm_get_p1m (by decide) (by decide) ?_ | refine sm_get_p1n (by decide) rfl ?_ | refine sm_get_p2n (by decide) (by decide) rfl ?_ | refine sm_get_p2m (by decide) (by decide) (by decide) ?_)) ?_
  refine Bod.baldN ni rfl (by omega) (by omega) dc_383_42 (mk_104 _) (Or.inl rfl) ?_
  refine Bod.virt (r := []) dc_383_43 kr_383_818 ⟨Or.inl rfl, ow_382, cl_14⟩ (by rw [np_382]; rfl) (by rw [np_382]; rfl) (ob_of (mk_61 _)) (Nat.le_of_ble_eq_true rfl) (c1  ) ?_
  show Bod _ _ _ _ [] _ _ _
  refine Bod.incN (ni + 1) (by rw [kc_1, nI_add]) dc_383_46 (by rw [ml_383]; exact Nat.le_of_ble_eq_true rfl) (by repeat (first | exact q8 | exact sm_get_p1 | exact sm_get_p2e | refine sm_get_p1m (by decide) (by decide) ?_ | refine sm_get_p1n (by decide) rfl ?_ | refine sm_get_p2n (by decide) (by decide) rfl ?_ | refine sm_get_p2m (by decide) (by decide) (by decide) ?_)) ?_
  refine Bod.go dc_383_49 rfl ?_
  exact hB _ (by repeat (first | exact q0 | exact sm_get_p1 | exact sm_get_p2e | refine sm_get_p1m (by decide) (by decide) ?_ | refine sm_get_p1n (by decide) rfl ?_ | refine sm_get_p2n (by decide) (by decide) rfl ?_ | refine sm_get_p2m (by decide) (by decide) (by decide) ?_)) (by repeat (first | exact q7 | exact sm_get_p1 | exact sm_get_p2e | refine sm_get_p1m (by decide) (by decide) ?_ | refine sm_get_p1n (by decide) rfl ?_ | refine sm_get_p2n (by decide) (by decide) rfl ?_ | refine sm_get_p2m (by decide) (by decide) (by decide) ?_)) (by repeat (first | exact q0 | exact sm_get_p1 | exact sm_get_p2e | refine sm_get_p1m (by decide) (by decide) ?_ | refine sm_get_p1n (by decide) rfl ?_ | refine sm_get_p2n (by decide) (by decide) rfl ?_ | refine sm_get_p2m (by decide) (by decide) (by decide) ?_))
theorem rSyB_1 {d : Nat} {S : cS} {lv : sm_L} {xa : Int64} {xb : Int64} {mk : Nat} {ni : Nat} {S1 : cS} {a : Nat} (q0 : sm_get lv 0 = some (.ref 61)) (q2 : sm_get lv 2 = some (.long xa)) (q4 : sm_get lv 4 = some (.long xb)) (q6 : sm_get lv 6 = some (.int (nI mk))) (q7 : sm_get lv 7 = some (.int (nI ni))) (mmk : mk < 2 ^ 20) (mni : ni < 2 ^ 20) (ma : a < 2 ^ 20) (c1 : Ans (d + 8) 360 [.long xb] S (some (.int (nI a))) S1) (b1 : a ≤ ni) (b2 : mk = 0) : Bod (d + 8) 383 74 lv [] S none (S1) := by
  refine Bod.ildG dc_383_74 (by repeat (first | exact q7 | exact sm_get_p1 | exact sm_get_p2e | refine sm_get_p1m (by decide) (by decide) ?_ | refine sm_get_p1n (by decide) rfl ?_ | refine sm_get_p2n (by decide) (by decide) rfl ?_ | refine sm_get_p2m (by decide) (by decide) (by decide) ?_)) ?_
  refine Bod.lldG dc_383_76 (by repeat (first | exact q4 | exact sm_get_p1 | exact sm_get_p2e | refine sm_get_p1m (by decide) (by decide) ?_ | refine sm_get_p1n (by decide) rfl ?_ | refine sm_get_p2n (by decide) (by decide) rfl ?_ | refine sm_get_p2m (by decide) (by decide) (by decide) ?_)) ?_
  refine Bod.stat (r := [_]) dc_383_78 kr_383_552 (Or.inl rfl) (by rw [np_360]; rfl) (by rw [np_360]; rfl) (by rw [np_360]; exact Nat.le_of_ble_eq_true rfl) (Nat.le_of_ble_eq_true rfl) (c1  ) ?_
  show Bod _ _ _ _ [_, _] _ _ _
  refine Bod.icT dc_383_81 rfl (k2_ge_T ni a rfl rfl (by omega) (by omega)) ?_
  refine Bod.ildG dc_383_102 (by repeat (first | exact q6 | exact sm_get_p1 | exact sm_get_p2e | refine sm_get_p1m (by decide) (by decide) ?_ | refine sm_get_p1n (by decide) rfl ?_ | refine sm_get_p2n (by decide) (by decide) rfl ?_ | refine sm_get_p2m (by decide) (by decide) (by decide) ?_)) ?_
  refine Bod.ifT dc_383_104 rfl (k1_eq_T (k_eq mk 0 rfl rfl (by omega))) ?_
  exact Bod.retV dc_383_129 rt_383
theorem rSyB_2 {d : Nat} {S : cS} {lv : sm_L} {xa : Int64} {xb : Int64} {mk : Nat} {ni : Nat} {S1 : cS} {a : Nat} {S2 : cS} (q0 : sm_get lv 0 = some (.ref 61)) (q2 : sm_get lv 2 = some (.long xa)) (q4 : sm_get lv 4 = some (.long xb)) (q6 : sm_get lv 6 = some (.int (nI mk))) (q7 : sm_get lv 7 = some (.int (nI ni))) (mmk : mk < 2 ^ 20) (mni : ni < 2 ^ 20) (ma : a < 2 ^ 20) (c1 : Ans (d + 8) 360 [.long xb] S (some (.int (nI a))) S1) (b1 : a ≤ ni) (b2 : mk ≠ 0) (c2 : Ans (d + 8) 382 [.ref 61, .int (nI 39)] S1 none S2) : Bod (d + 8) 383 74 lv [] S none (S2) := by
  refine Bod.ildG dc_383_74 (by repeat (first | exact q7 | exact sm_get_p1 | exact sm_get_p2e | refine sm_get_p1m (by decide) (by decide) ?_ | refine sm_get_p1n (by decide) rfl ?_ | refine sm_get_p2n (by decide) (by decide) rfl ?_ | refine sm_get_p2m (by decide) (by decide) (by decide) ?_)) ?_
  refine Bod.lldG dc_383_76 (by repeat (first | exact q4 | exact sm_get_p1 | exact sm_get_p2e | refine sm_get_p1m (by decide) (by decide) ?_ | refine sm_get_p1n (by decide) rfl ?_ | refine sm_get_p2n (by decide) (by decide) rfl ?_ | refine sm_get_p2m (by decide) (by decide) (by decide) ?_)) ?_
  refine Bod.stat (r := [_]) dc_383_78 kr_383_552 (Or.inl rfl) (by rw [np_360]; rfl) (by rw [np_360]; rfl) (by rw [np_360]; exact Nat.le_of_ble_eq_true rfl) (Nat.le_of_ble_eq_true rfl) (c1  ) ?_
  show Bod _ _ _ _ [_, _] _ _ _
  refine Bod.icT dc_383_81 rfl (k2_ge_T ni a rfl rfl (by omega) (by omega)) ?_
  refine Bod.ildG dc_383_102 (by repeat (first | exact q6 | exact sm_get_p1 | exact sm_get_p2e | refine sm_get_p1m (by decide) (by decide) ?_ | refine sm_get_p1n (by decide) rfl ?_ | refine sm_get_p2n (by decide) (by decide) rfl ?_ | refine sm_get_p2m (by decide) (by decide) (by decide) ?_)) ?_
  refine Bod.ifF dc_383_104 rfl (k1_eq_F (k_ne mk 0 rfl rfl (by omega) (by omega) (by omega))) ?_
  refine Bod.aldnG dc_383_107 (by repeat (first | exact q0 | exact sm_get_p1 | exact sm_get_p2e | refine sm_get_p1m (by decide) (by decide) ?_ | refine sm_get_p1n (by decide) rfl ?_ | refine sm_get_p2n (by decide) (by decide) rfl ?_ | refine sm_get_p2m (by decide) (by decide) (by decide) ?_)) ?_
  refine Bod.bip 39 (by decide) dc_383_108 ?_
  refine Bod.virt (r := []) dc_383_110 kr_383_818 ⟨Or.inl rfl, ow_382, cl_14⟩ (by rw [np_382]; rfl) (by rw [np_382]; rfl) (ob_of (mk_61 _)) (Nat.le_of_ble_eq_true rfl) (c2  ) ?_
  show Bod _ _ _ _ [] _ _ _
  refine Bod.go dc_383_113 rfl ?_
  exact Bod.retV dc_383_129 rt_383
theorem rSyB_3 {d : Nat} {S Sf : cS} {v : Option Value} {lv : sm_L} {xa : Int64} {xb : Int64} {mk : Nat} {ni : Nat} {S1 : cS} {a : Nat} {S2 : cS} {a1 : Nat} {S3 : cS} (q0 : sm_get lv 0 = some (.ref 61)) (q2 : sm_get lv 2 = some (.long xa)) (q4 : sm_get lv 4 = some (.long xb)) (q6 : sm_get lv 6 = some (.int (nI mk))) (q7 : sm_get lv 7 = some (.int (nI ni))) (mmk : mk < 2 ^ 20) (mni : ni < 2 ^ 20) (ma : a < 2 ^ 20) (c1 : Ans (d + 8) 360 [.long xb] S (some (.int (nI a))) S1) (b1 : ni < a) (ma1 : a1 < 2 ^ 20) (c2 : Ans (d + 8) 386 [.long xa, .long xb, .int (nI ni)] S1 (some (.int (nI a1))) S2) (c3 : Ans (d + 8) 382 [.ref 61, .int (nI a1)] S2 none S3) (hB : ∀ lv1 : sm_L, sm_get lv1 0 = some (.ref 61) → sm_get lv1 2 = some (.long xa) → sm_get lv1 4 = some (.long xb) → sm_get lv1 6 = some (.int (nI mk)) → sm_get lv1 7 = some (.int (nI (ni + 1))) → Bod (d + 8) 383 74 lv1 [] (S3) v Sf) : Bod (d + 8) 383 74 lv [] S v Sf := by
  refine Bod.ildG dc_383_74 (by repeat (first | exact q7 | exact sm_get_p1 | exact sm_get_p2e | refine sm_get_p1m (by decide) (by decide) ?_ | refine sm_get_p1n (by decide) rfl ?_ | refine sm_get_p2n (by decide) (by decide) rfl ?_ | refine sm_get_p2m (by decide) (by decide) (by decide) ?_)) ?_
  refine Bod.lldG dc_383_76 (by repeat (first | exact q4 | exact sm_get_p1 | exact sm_get_p2e | refine sm_get_p1m (by decide) (by decide) ?_ | refine sm_get_p1n (by decide) rfl ?_ | refine sm_get_p2n (by decide) (by decide) rfl ?_ | refine sm_get_p2m (by decide) (by decide) (by decide) ?_)) ?_
  refine Bod.stat (r := [_]) dc_383_78 kr_383_552 (Or.inl rfl) (by rw [np_360]; rfl) (by rw [np_360]; rfl) (by rw [np_360]; exact Nat.le_of_ble_eq_true rfl) (Nat.le_of_ble_eq_true rfl) (c1  ) ?_
  show Bod _ _ _ _ [_, _] _ _ _
  refine Bod.icF dc_383_81 rfl (k2_ge_F ni a rfl rfl (by omega) (by omega)) ?_
  refine Bod.aldnG dc_383_84 (by repeat (first | exact q0 | exact sm_get_p1 | exact sm_get_p2e | refine sm_get_p1m (by decide) (by decide) ?_ | refine sm_get_p1n (by decide) rfl ?_ | refine sm_get_p2n (by decide) (by decide) rfl ?_ | refine sm_get_p2m (by decide) (by decide) (by decide) ?_)) ?_
  refine Bod.lldnG dc_383_85 (by repeat (first | exact q2 | exact sm_get_p1 | exact sm_get_p2e | refine sm_get_p1m (by decide) (by decide) ?_ | refine sm_get_p1n (by decide) rfl ?_ | refine sm_get_p2n (by decide) (by decide) rfl ?_ | refine sm_get_p2m (by decide) (by decide) (by decide) ?_)) ?_
  refine Bod.lldG dc_383_86 (by repeat (first | exact q4 | exact sm_get_p1 | exact sm_get_p2e | refine sm_get_p1m (by decide) (by decide) ?_ | refine sm_get_p1n (by decide) rfl ?_ | refine sm_get_p2n (by decide) (by decide) rfl ?_ | refine sm_get_p2m (by decide) (by decide) (by decide) ?_)) ?_
  refine Bod.ildG dc_383_88 (by repeat (first | exact q7 | exact sm_get_p1 | exact sm_get_p2e | refine sm_get_p1m (by decide) (by decide) ?_ | refine sm_get_p1n (by decide) rfl ?_ | refine sm_get_p2n (by decide) (by decide) rfl ?_ | refine sm_get_p2m (by decide) (by decide) (by decide) ?_)) ?_
  refine Bod.stat (r := [_]) dc_383_90 kr_383_755 (Or.inl rfl) (by rw [np_386]; rfl) (by rw [np_386]; rfl) (by rw [np_386]; exact Nat.le_of_ble_eq_true rfl) (Nat.le_of_ble_eq_true rfl) (c2  ) ?_
  show Bod _ _ _ _ [_, _] _ _ _
  refine Bod.virt (r := []) dc_383_93 kr_383_818 ⟨Or.inl rfl, ow_382, cl_14⟩ (by rw [np_382]; rfl) (by rw [np_382]; rfl) (ob_of (mk_61 _)) (Nat.le_of_ble_eq_true rfl) (c3  ) ?_
  show Bod _ _ _ _ [] _ _ _
  refine Bod.incN (ni + 1) (by rw [kc_1, nI_add]) dc_383_96 (by rw [ml_383]; exact Nat.le_of_ble_eq_true rfl) (by repeat (first | exact q7 | exact sm_get_p1 | exact sm_get_p2e | refine sm_get_p1m (by decide) (by decide) ?_ | refine sm_get_p1n (by decide) rfl ?_ | refine sm_get_p2n (by decide) (by decide) rfl ?_ | refine sm_get_p2m (by decide) (by decide) (by decide) ?_)) ?_
  refine Bod.go dc_383_99 rfl ?_
  exact hB _ (by repeat (first | exact q0 | exact sm_get_p1 | exact sm_get_p2e | refine sm_get_p1m (by decide) (by decide) ?_ | refine sm_get_p1n (by decide) rfl ?_ | refine sm_get_p2n (by decide) (by decide) rfl ?_ | refine sm_get_p2m (by decide) (by decide) (by decide) ?_)) (by repeat (first | exact q2 | exact sm_get_p1 | exact sm_get_p2e | refine sm_get_p1m (by decide) (by decide) ?_ | refine sm_get_p1n (by decide) rfl ?_ | refine sm_get_p2n (by decide) (by decide) rfl ?_ | refine sm_get_p2m (by decide) (by decide) (by decide) ?_)) (by repeat (first | exact q4 | exact sm_get_p1 | exact sm_get_p2e | refine sm_get_p1m (by decide) (by decide) ?_ | refine sm_get_p1n (by decide) rfl ?_ | refine sm_get_p2n (by decide) (by decide) rfl ?_ | refine sm_get_p2m (by decide) (by decide) (by decide) ?_)) (by repeat (first | exact q6 | exact sm_get_p1 | exact sm_get_p2e | refine sm_get_p1m (by decide) (by decide) ?_ | refine sm_get_p1n (by decide) rfl ?_ | refine sm_get_p2n (by decide) (by decide) rfl ?_ | refine sm_get_p2m (by decide) (by decide) (by decide) ?_)) (by repeat (first | exact q0 | exact sm_get_p1 | exact sm_get_p2e | refine sm_get_p1m (by decide) (by decide) ?_ | refine sm_get_p1n (by decide) rfl ?_ | refine sm_get_p2n (by decide) (by decide) rfl ?_ | refine sm_get_p2m (by decide) (by decide) (by decide) ?_))
theorem rStC_1 {d : Nat} {S : cS} {lv : sm_L} {nm : Nat} {ni : Nat} {r : Nat} {N : Nat} {e : Nat} {S1 : cS} (q0 : sm_get lv 0 = some (.ref 61)) (q3 : sm_get lv 3 = some (.int (nI nm))) (q4 : sm_get lv 4 = some (.int (nI ni))) (mnm : nm < 2 ^ 20) (mni : ni < 2 ^ 20) (hv1 : sV S (6101) = .ref r) (hg1 : isK S r 0 N) (mN : N < 2 ^ 20) (b1 : nm < N) (he : sA S r nm = nI e) (me : e < 2 ^ 20) (b2 : e ≤ ni) (c1 : Ans (d + 8) 382 [.ref 61, .int (nI 62)] S none S1) : Bod (d + 8) 387 307 lv [] S none (S1) := by
  refine Bod.ildG dc_387_307 (by repeat (first | exact q4 | exact sm_get_p1 | exact sm_get_p2e | refine sm_get_p1m (by decide) (by decide) ?_ | refine sm_get_p1n (by decide) rfl ?_ | refine sm_get_p2n (by decide) (by decide) rfl ?_ | refine sm_get_p2m (by decide) (by decide) (by decide) ?_)) ?_
  refine Bod.aldnG dc_387_309 (by repeat (first | exact q0 | exact sm_get_p1 | exact sm_get_p2e | refine sm_get_p1m (by decide) (by decide) ?_ | refine sm_get_p1n (by decide) rfl ?_ | refine sm_get_p2n (by decide) (by decide) rfl ?_ | refine sm_get_p2m (by decide) (by decide) (by decide) ?_)) ?_
  refine Bod.get dc_387_310 fr_387_7 (mk_61 _) rfl ?_
  refine Bod.eqV (.ref r) (by first | exact hv1 | (simp only [rIV, rJV, rAV, rLV, rQV, rV, reduceIte, Nat.reduceEqDiff]; exact hv1)) ?_
  refine Bod.ildnG dc_387_313 (by repeat (first | exact q3 | exact sm_get_p1 | exact sm_get_p2e | refine sm_get_p1m (by decide) (by decide) ?_ | refine sm_get_p1n (by decide) rfl ?_ | refine sm_get_p2n (by decide) (by decide) rfl ?_ | refine sm_get_p2m (by decide) (by decide) (by decide) ?_)) ?_
  refine Bod.ialdN (N := N) nm rfl (by omega) (by omega) dc_387_314 (mk_isI (by first | exact hg1 | exact isK_S (by simp only [rIS, rJS, rAS, rLS, rVS, rQS, rS_hold]) hg1)) ?_
  refine Bod.eqI (nI e) (by first | assumption | rfl | exact congrArg nI (by omega) | (simp (disch := omega) only [rIn, rIe, rA, rIA, rLA, rJA, rVI, rQI, rVA, rQA, upd_at,  rAI, rLI, rJI, nI_add, pk_sub, kc_0, kc_1, kc_2, kc_3, kc_4, kc_5, reduceIte, Nat.reduceEqDiff, Nat.add_zero, rI_hold, rI_hold, rL_hold, he]; done)) ?_
  refine Bod.icT dc_387_315 rfl (k2_ge_T ni e rfl rfl (by omega) (by omega)) ?_
  refine Bod.aldnG dc_387_340 (by repeat (first | exact q0 | exact sm_get_p1 | exact sm_get_p2e | refine sm_get_p1m (by decide) (by decide) ?_ | refine sm_get_p1n (by decide) rfl ?_ | refine sm_get_p2n (by decide) (by decide) rfl ?_ | refine sm_get_p2m (by decide) (by decide) (by decide) ?_)) ?_
  refine Bod.bip 62 (by decide) dc_387_341 ?_
  refine Bod.virt (r := []) dc_387_343 kr_387_818 ⟨Or.inl rfl, ow_382, cl_14⟩ (by rw [np_382]; rfl) (by rw [np_382]; rfl) (ob_of (mk_61 _)) (Nat.le_of_ble_eq_true rfl) (c1  ) ?_
  show Bod _ _ _ _ [] _ _ _
  exact Bod.retV dc_387_346 rt_387
theorem rStC_2 {d : Nat} {S Sf : cS} {v : Option Value} {lv : sm_L} {nm : Nat} {ni : Nat} {r : Nat} {N : Nat} {e : Nat} {r1 : Nat} {N1 : Nat} {S1 : cS} (q0 : sm_get lv 0 = some (.ref 61)) (q3 : sm_get lv 3 = some (.int (nI nm))) (q4 : sm_get lv 4 = some (.int (nI ni))) (mnm : nm < 2 ^ 20) (mni : ni < 2 ^ 20) (hv1 : sV S (6101) = .ref r) (hg1 : isK S r 0 N) (mN : N < 2 ^ 20) (b1 : nm < N) (he : sA S r nm = nI e) (me : e < 2 ^ 20) (b2 : ni < e) (hv2 : sV S (6100) = .ref r1) (hg2 : isK S r1 2 N1) (mN1 : N1 < 2 ^ 20) (b3 : (12 * nm + ni) < N1) (c1 : Ans (d + 8) 382 [.ref 61, .int (sA S r1 (12 * nm + ni))] S none S1) (hB : ∀ lv1 : sm_L, sm_get lv1 0 = some (.ref 61) → sm_get lv1 3 = some (.int (nI nm)) → sm_get lv1 4 = some (.int (nI (ni + 1))) → Bod (d + 8) 387 307 lv1 [] (S1) v Sf) : Bod (d + 8) 387 307 lv [] S v Sf := by
  refine Bod.ildG dc_387_307 (by repeat (first | exact q4 | exact sm_get_p1 | exact sm_get_p2e | refine sm_get_p1m (by decide) (by decide) ?_ | refine sm_get_p1n (by decide) rfl ?_ | refine sm_get_p2n (by decide) (by decide) rfl ?_ | refine sm_get_p2m (by decide) (by decide) (by decide) ?_)) ?_
  refine Bod.aldnG dc_387_309 (by repeat (first | exact q0 | exact sm_get_p1 | exact sm_get_p2e | refine sm_get_p1m (by decide) (by decide) ?_ | refine sm_get_p1n (by decide) rfl ?_ | refine sm_get_p2n (by decide) (by decide) rfl ?_ | refine sm_get_p2m (by decide) (by decide) (by decide) ?_)) ?_
  refine Bod.get dc_387_310 fr_387_7 (mk_61 _) rfl ?_
  refine Bod.eqV (.ref r) (by first | exact hv1 | (simp only [rIV, rJV, rAV, rLV, rQV, rV, reduceIte, Nat.reduceEqDiff]; exact hv1)) ?_
  refine Bod.ildnG dc_387_313 (by repeat (first | exact q3 | exact sm_get_p1 | exact sm_get_p2e | refine sm_get_p1m (by decide) (by decide) ?_ | refine sm_get_p1n (by decide) rfl ?_ | refine sm_get_p2n (by decide) (by decide) rfl ?_ | refine sm_get_p2m (by decide) (by decide) (by decide) ?_)) ?_
  refine Bod.ialdN (N := N) nm rfl (by omega) (by omega) dc_387_314 (mk_isI (by first | exact hg1 | exact isK_S (by simp only [rIS, rJS, rAS, rLS, rVS, rQS, rS_hold]) hg1)) ?_
  refine Bod.eqI (nI e) (by first | assumption | rfl | exact congrArg nI (by omega) | (simp (disch := omega) only [rIn, rIe, rA, rIA, rLA, rJA, rVI, rQI, rVA, rQA, upd_at,  rAI, rLI, rJI, nI_add, pk_sub, kc_0, kc_1, kc_2, kc_3, kc_4, kc_5, reduceIte, Nat.reduceEqDiff, Nat.add_zero, rI_hold, rI_hold, rL_hold, he]; done)) ?_
  refine Bod.icF dc_387_315 rfl (k2_ge_F ni e rfl rfl (by omega) (by omega)) ?_
  refine Bod.aldnG dc_387_318 (by repeat (first | exact q0 | exact sm_get_p1 | exact sm_get_p2e | refine sm_get_p1m (by decide) (by decide) ?_ | refine sm_get_p1n (by decide) rfl ?_ | refine sm_get_p2n (by decide) (by decide) rfl ?_ | refine sm_get_p2m (by decide) (by decide) (by decide) ?_)) ?_
  refine Bod.aldnG dc_387_319 (by repeat (first | exact q0 | exact sm_get_p1 | exact sm_get_p2e | refine sm_get_p1m (by decide) (by decide) ?_ | refine sm_get_p1n (by decide) rfl ?_ | refine sm_get_p2n (by decide) (by decide) rfl ?_ | refine sm_get_p2m (by decide) (by decide) (by decide) ?_)) ?_
  refine Bod.get dc_387_320 fr_387_11 (mk_61 _) rfl ?_
  refine Bod.eqV (.ref r1) (by first | exact hv2 | (simp only [rIV, rJV, rAV, rLV, rQV, rV, reduceIte, Nat.reduceEqDiff]; exact hv2)) ?_
  refine Bod.bip 12 (by decide) dc_387_323 ?_
  refine Bod.ildnG dc_387_325 (by repeat (first | exact q3 | exact sm_get_p1 | exact sm_get_p2e | refine sm_get_p1m (by decide) (by decide) ?_ | refine sm_get_p1n (by decide) rfl ?_ | refine sm_get_p2n (by decide) (by decide) rfl ?_ | refine sm_get_p2m (by decide) (by decide) (by decide) ?_)) ?_
  refine Bod.mulN (12 * nm) (by omega) dc_387_326 ?_
  refine Bod.ildG dc_387_327 (by repeat (first | exact q4 | exact sm_get_p1 | exact sm_get_p2e | refine sm_get_p1m (by decide) (by decide) ?_ | refine sm_get_p1n (by decide) rfl ?_ | refine sm_get_p2n (by decide) (by decide) rfl ?_ | refine sm_get_p2m (by decide) (by decide) (by decide) ?_)) ?_
  refine Bod.addN (12 * nm + ni) (by omega) dc_387_329 ?_
  refine Bod.baldN (N := N1) (12 * nm + ni) rfl (by omega) (by omega) dc_387_330 (mk_isB (by first | exact hg2 | exact isK_S (by simp only [rIS, rJS, rAS, rLS, rVS, rQS, rS_hold]) hg2)) (Or.inl rfl) ?_
  refine Bod.virt (r := []) dc_387_331 kr_387_818 ⟨Or.inl rfl, ow_382, cl_14⟩ (by rw [np_382]; rfl) (by rw [np_382]; rfl) (ob_of (mk_61 _)) (Nat.le_of_ble_eq_true rfl) (c1  ) ?_
  show Bod _ _ _ _ [] _ _ _
  refine Bod.incN (ni + 1) (by rw [kc_1, nI_add]) dc_387_334 (by rw [ml_387]; exact Nat.le_of_ble_eq_true rfl) (by repeat (first | exact q4 | exact sm_get_p1 | exact sm_get_p2e | refine sm_get_p1m (by decide) (by decide) ?_ | refine sm_get_p1n (by decide) rfl ?_ | refine sm_get_p2n (by decide) (by decide) rfl ?_ | refine sm_get_p2m (by decide) (by decide) (by decide) ?_)) ?_
  refine Bod.go dc_387_337 rfl ?_
  exact hB _ (by repeat (first | exact q0 | exact sm_get_p1 | exact sm_get_p2e | refine sm_get_p1m (by decide) (by decide) ?_ | refine sm_get_p1n (by decide) rfl ?_ | refine sm_get_p2n (by decide) (by decide) rfl ?_ | refine sm_get_p2m (by decide) (by decide) (by decide) ?_)) (by repeat (first | exact q3 | exact sm_get_p1 | exact sm_get_p2e | refine sm_get_p1m (by decide) (by decide) ?_ | refine sm_get_p1n (by decide) rfl ?_ | refine sm_get_p2n (by decide) (by decide) rfl ?_ | refine sm_get_p2m (by decide) (by decide) (by decide) ?_)) (by repeat (first | exact q0 | exact sm_get_p1 | exact sm_get_p2e | refine sm_get_p1m (by decide) (by decide) ?_ | refine sm_get_p1n (by decide) rfl ?_ | refine sm_get_p2n (by decide) (by decide) rfl ?_ | refine sm_get_p2m (by decide) (by decide) (by decide) ?_))
theorem rRg1_1 {d : Nat} {S : cS} {ba : Nat} {e91 : Nat} {S1 : cS} (mba : ba < 2 ^ 20) (b1 : ba + 1 < 20480) (he91 : sA S 91 (ba + 1) = nI e91) (me91 : e91 < 2 ^ 20) (b2 : e91 ≠ 1) (c1 : Ans (d + 8) 351 [.ref 61, .int (nI 2)] S (some (.int (nI 0))) S1) : Bod (d + 8) 388 0 [(0, .ref 61), (1, .int (nI ba)), (2, .int (nI 1))] [] S (some (.int 0)) (S1) := by
  refine Bod.go dc_388_0 rfl ?_
  refine Bod.ic 1 (by decide) dc_388_1 ?_
  refine Bod.addN (ba + 1) (by omega) dc_388_2 ?_
  refine Bod.istn dc_388_3 (by rw [ml_388]; exact Nat.le_of_ble_eq_true rfl) ?_
  refine Bod.go dc_388_4 rfl ?_
  refine Bod.get dc_388_5 fr_388_496 (mk_61 _) rfl ?_
  refine Bod.go dc_388_8 rfl ?_
  refine Bod.ialdN (ba + 1) rfl (by omega) (by omega) dc_388_9 (mk_91 _) ?_
  refine Bod.eqI (nI e91) (by first | assumption | rfl | exact congrArg nI (by omega) | (simp (disch := omega) only [rIn, rIe, rA, rIA, rLA, rJA, rVI, rQI, rVA, rQA, upd_at,  rAI, rLI, rJI, nI_add, pk_sub, kc_0, kc_1, kc_2, kc_3, kc_4, kc_5, reduceIte, Nat.reduceEqDiff, Nat.add_zero, rI_hold, rI_hold, rL_hold, he91]; done)) ?_
  refine Bod.ic 1 (by decide) dc_388_10 ?_
  refine Bod.icT dc_388_11 rfl (k2_ne_T (k_ne e91 1 rfl rfl (by omega) (by omega) (by omega))) ?_
  refine Bod.go dc_388_31 rfl ?_
  refine Bod.ic 2 (by decide) dc_388_32 ?_
  refine Bod.virt (r := []) dc_388_33 kr_388_608 ⟨Or.inl rfl, ow_351, cl_14⟩ (by rw [np_351]; rfl) (by rw [np_351]; rfl) (ob_of (mk_61 _)) (Nat.le_of_ble_eq_true rfl) (c1  ) ?_
  show Bod _ _ _ _ [_] _ _ _
  exact Bod.retZ dc_388_36 rt_388 (Or.inl rfl)
theorem rRg1_2 {d : Nat} {S Sf : cS} {v : Option Value} {ba : Nat} {e91 : Nat} {S1 : cS} {rb : Int32} {S2 : cS} {a : Nat} (mba : ba < 2 ^ 20) (b1 : ba + 1 < 20480) (he91 : sA S 91 (ba + 1) = nI e91) (me91 : e91 < 2 ^ 20) (b2 : e91 = 1) (w6 : sm_c1 .ge (lg_cmp 0 (sL S 92 (ba + 1))) true false = true) (c1 : Ans (d + 8) 389 [.long 0, .long ((300))] S (some (.int rb)) S1) (w8 : sm_c1 .le rb true false = true) (ma : a < 1500) (c2 : Ans (d + 8) 364 [.ref 61, .int (nI 1)] S1 (some (.int (nI a))) S2) (hB : ∀ lv1 : sm_L, sm_get lv1 0 = some (.ref 61) → sm_get lv1 1 = some (.int (nI ba)) → sm_get lv1 6 = some (.long (sL S 92 (ba + 1))) → sm_get lv1 10 = some (.int (nI a)) → sm_get lv1 11 = some (.long 0) → Bod (d + 8) 388 119 lv1 [] (S2) v Sf) : Bod (d + 8) 388 0 [(0, .ref 61), (1, .int (nI ba)), (2, .int (nI 1))] [] S v Sf := by
  refine Bod.go dc_388_0 rfl ?_
  refine Bod.ic 1 (by decide) dc_388_1 ?_
  refine Bod.addN (ba + 1) (by omega) dc_388_2 ?_
  refine Bod.istn dc_388_3 (by rw [ml_388]; exact Nat.le_of_ble_eq_true rfl) ?_
  refine Bod.go dc_388_4 rfl ?_
  refine Bod.get dc_388_5 fr_388_496 (mk_61 _) rfl ?_
  refine Bod.go dc_388_8 rfl ?_
  refine Bod.ialdN (ba + 1) rfl (by omega) (by omega) dc_388_9 (mk_91 _) ?_
  refine Bod.eqI (nI e91) (by first | assumption | rfl | exact congrArg nI (by omega) | (simp (disch := omega) only [rIn, rIe, rA, rIA, rLA, rJA, rVI, rQI, rVA, rQA, upd_at,  rAI, rLI, rJI, nI_add, pk_sub, kc_0, kc_1, kc_2, kc_3, kc_4, kc_5, reduceIte, Nat.reduceEqDiff, Nat.add_zero, rI_hold, rI_hold, rL_hold, he91]; done)) ?_
  refine Bod.ic 1 (by decide) dc_388_10 ?_
  refine Bod.icF dc_388_11 rfl (k2_ne_F (k_eq e91 1 rfl rfl (by omega))) ?_
  refine Bod.go dc_388_14 rfl ?_
  refine Bod.ic 2 (by decide) dc_388_15 ?_
  refine Bod.icT dc_388_16 rfl (k2_ne_T (k_ne 1 2 rfl rfl (by omega) (by omega) (by omega))) ?_
  refine Bod.go dc_388_37 rfl ?_
  refine Bod.ic 2 (by decide) dc_388_38 ?_
  refine Bod.icT dc_388_39 rfl (k2_ne_T (k_ne 1 2 rfl rfl (by omega) (by omega) (by omega))) ?_
  refine Bod.go dc_388_51 rfl ?_
  refine Bod.lst dc_388_52 (by rw [ml_388]; exact Nat.le_of_ble_eq_true rfl) ?_
  refine Bod.go dc_388_54 rfl ?_
  refine Bod.get dc_388_55 fr_388_499 (mk_61 _) rfl ?_
  refine Bod.go dc_388_58 rfl ?_
  refine Bod.go dc_388_59 rfl ?_
  refine Bod.addN (ba + 1) (by omega) dc_388_60 ?_
  refine Bod.laldN (ba + 1) rfl (by omega) (by omega) dc_388_61 (mk_92 _) ?_
  refine Bod.lst dc_388_62 (by rw [ml_388]; exact Nat.le_of_ble_eq_true rfl) ?_
  refine Bod.go dc_388_64 rfl ?_
  refine Bod.go dc_388_66 rfl ?_
  refine Bod.go dc_388_68 rfl ?_
  refine Bod.ifT dc_388_69 rfl w6 ?_
  refine Bod.go dc_388_80 rfl ?_
  refine Bod.lst dc_388_81 (by rw [ml_388]; exact Nat.le_of_ble_eq_true rfl) ?_
  refine Bod.go dc_388_83 rfl ?_
  refine Bod.ldc2 dc_388_85 cj_388_803 ?_
  refine Bod.stat (r := []) dc_388_88 kr_388_709 (Or.inl rfl) (by rw [np_389]; rfl) (by rw [np_389]; rfl) (by rw [np_389]; exact Nat.le_of_ble_eq_true rfl) (Nat.le_of_ble_eq_true rfl) (c1  ) ?_
  show Bod _ _ _ _ [_] _ _ _
  refine Bod.ifT dc_388_91 rfl w8 ?_
  refine Bod.go dc_388_101 rfl ?_
  refine Bod.ic 1 (by decide) dc_388_102 ?_
  refine Bod.virt (r := []) dc_388_103 kr_388_686 ⟨Or.inl rfl, ow_364, cl_14⟩ (by rw [np_364]; rfl) (by rw [np_364]; rfl) (ob_of (mk_61 _)) (Nat.le_of_ble_eq_true rfl) (c2  ) ?_
  show Bod _ _ _ _ [_] _ _ _
  refine Bod.ist dc_388_106 (by rw [ml_388]; exact Nat.le_of_ble_eq_true rfl) ?_
  refine Bod.go dc_388_108 rfl ?_
  refine Bod.ifT dc_388_110 rfl (k1_ge_T a rfl (by omega)) ?_
  refine Bod.go dc_388_115 rfl ?_
  refine Bod.lst dc_388_117 (by rw [ml_388]; exact Nat.le_of_ble_eq_true rfl) ?_
  exact hB _ (by first | rfl | exact (by repeat (first | exact rfl | exact sm_get_p1 | exact sm_get_p2e | refine sm_get_p1m (by decide) (by decide) ?_ | refine sm_get_p1n (by decide) rfl ?_ | refine sm_get_p2n (by decide) (by decide) rfl ?_ | refine sm_get_p2m (by decide) (by decide) (by decide) ?_))) (by first | rfl | exact (by repeat (first | exact rfl | exact sm_get_p1 | exact sm_get_p2e | refine sm_get_p1m (by decide) (by decide) ?_ | refine sm_get_p1n (by decide) rfl ?_ | refine sm_get_p2n (by decide) (by decide) rfl ?_ | refine sm_get_p2m (by decide) (by decide) (by decide) ?_))) (by first | rfl | exact (by repeat (first | exact rfl | exact sm_get_p1 | exact sm_get_p2e | refine sm_get_p1m (by decide) (by decide) ?_ | refine sm_get_p1n (by decide) rfl ?_ | refine sm_get_p2n (by decide) (by decide) rfl ?_ | refine sm_get_p2m (by decide) (by decide) (by decide) ?_))) (by first | rfl | exact (by repeat (first | exact rfl | exact sm_get_p1 | exact sm_get_p2e | refine sm_get_p1m (by decide) (by decide) ?_ | refine sm_get_p1n (by decide) rfl ?_ | refine sm_get_p2n (by decide) (by decide) rfl ?_ | refine sm_get_p2m (by decide) (by decide) (by decide) ?_))) (by first | rfl | exact (by repeat (first | exact rfl | exact sm_get_p1 | exact sm_get_p2e | refine sm_get_p1m (by decide) (by decide) ?_ | refine sm_get_p1n (by decide) rfl ?_ | refine sm_get_p2n (by decide) (by decide) rfl ?_ | refine sm_get_p2m (by decide) (by decide) (by decide) ?_)))
theorem rRg1_3 {d : Nat} {S : cS} {ba : Nat} {e91 : Nat} {S1 : cS} {rb : Int32} {S2 : cS} (mba : ba < 2 ^ 20) (b1 : ba + 1 < 20480) (he91 : sA S 91 (ba + 1) = nI e91) (me91 : e91 < 2 ^ 20) (b2 : e91 = 1) (w6 : sm_c1 .ge (lg_cmp 0 (sL S 92 (ba + 1))) true false = true) (c1 : Ans (d + 8) 389 [.long 0, .long ((300))] S (some (.int rb)) S1) (w8 : sm_c1 .le rb true false = true) (c2 : Ans (d + 8) 364 [.ref 61, .int (nI 1)] S1 (some (.int (Int32.ofInt (-1)))) S2) : Bod (d + 8) 388 0 [(0, .ref 61), (1, .int (nI ba)), (2, .int (nI 1))] [] S (some (.int 0)) (S2) := by
  refine Bod.go dc_388_0 rfl ?_
  refine Bod.ic 1 (by decide) dc_388_1 ?_
  refine Bod.addN (ba + 1) (by omega) dc_388_2 ?_
  refine Bod.istn dc_388_3 (by rw [ml_388]; exact Nat.le_of_ble_eq_true rfl) ?_
  refine Bod.go dc_388_4 rfl ?_
  refine Bod.get dc_388_5 fr_388_496 (mk_61 _) rfl ?_
  refine Bod.go dc_388_8 rfl ?_
  refine Bod.ialdN (ba + 1) rfl (by omega) (by omega) dc_388_9 (mk_91 _) ?_
  refine Bod.eqI (nI e91) (by first | assumption | rfl | exact congrArg nI (by omega) | (simp (disch := omega) only [rIn, rIe, rA, rIA, rLA, rJA, rVI, rQI, rVA, rQA, upd_at,  rAI, rLI, rJI, nI_add, pk_sub, kc_0, kc_1, kc_2, kc_3, kc_4, kc_5, reduceIte, Nat.reduceEqDiff, Nat.add_zero, rI_hold, rI_hold, rL_hold, he91]; done)) ?_
  refine Bod.ic 1 (by decide) dc_388_10 ?_
  refine Bod.icF dc_388_11 rfl (k2_ne_F (k_eq e91 1 rfl rfl (by omega))) ?_
  refine Bod.go dc_388_14 rfl ?_
  refine Bod.ic 2 (by decide) dc_388_15 ?_
  refine Bod.icT dc_388_16 rfl (k2_ne_T (k_ne 1 2 rfl rfl (by omega) (by omega) (by omega))) ?_
  refine Bod.go dc_388_37 rfl ?_
  refine Bod.ic 2 (by decide) dc_388_38 ?_
  refine Bod.icT dc_388_39 rfl (k2_ne_T (k_ne 1 2 rfl rfl (by omega) (by omega) (by omega))) ?_
  refine Bod.go dc_388_51 rfl ?_
  refine Bod.lst dc_388_52 (by rw [ml_388]; exact Nat.le_of_ble_eq_true rfl) ?_
  refine Bod.go dc_388_54 rfl ?_
  refine Bod.get dc_388_55 fr_388_499 (mk_61 _) rfl ?_
  refine Bod.go dc_388_58 rfl ?_
  refine Bod.go dc_388_59 rfl ?_
  refine Bod.addN (ba + 1) (by omega) dc_388_60 ?_
  refine Bod.laldN (ba + 1) rfl (by omega) (by omega) dc_388_61 (mk_92 _) ?_
  refine Bod.lst dc_388_62 (by rw [ml_388]; exact Nat.le_of_ble_eq_true rfl) ?_
  refine Bod.go dc_388_64 rfl ?_
  refine Bod.go dc_388_66 rfl ?_
  refine Bod.go dc_388_68 rfl ?_
  refine Bod.ifT dc_388_69 rfl w6 ?_
  refine Bod.go dc_388_80 rfl ?_
  refine Bod.lst dc_388_81 (by rw [ml_388]; exact Nat.le_of_ble_eq_true rfl) ?_
  refine Bod.go dc_388_83 rfl ?_
  refine Bod.ldc2 dc_388_85 cj_388_803 ?_
  refine Bod.stat (r := []) dc_388_88 kr_388_709 (Or.inl rfl) (by rw [np_389]; rfl) (by rw [np_389]; rfl) (by rw [np_389]; exact Nat.le_of_ble_eq_true rfl) (Nat.le_of_ble_eq_true rfl) (c1  ) ?_
  show Bod _ _ _ _ [_] _ _ _
  refine Bod.ifT dc_388_91 rfl w8 ?_
  refine Bod.go dc_388_101 rfl ?_
  refine Bod.ic 1 (by decide) dc_388_102 ?_
  refine Bod.virt (r := []) dc_388_103 kr_388_686 ⟨Or.inl rfl, ow_364, cl_14⟩ (by rw [np_364]; rfl) (by rw [np_364]; rfl) (ob_of (mk_61 _)) (Nat.le_of_ble_eq_true rfl) (c2  ) ?_
  show Bod _ _ _ _ [_] _ _ _
  refine Bod.ist dc_388_106 (by rw [ml_388]; exact Nat.le_of_ble_eq_true rfl) ?_
  refine Bod.go dc_388_108 rfl ?_
  refine Bod.ifF dc_388_110 rfl (by decide) ?_
  refine Bod.ic 0 (by decide) dc_388_113 ?_
  exact Bod.retZ dc_388_114 rt_388 (Or.inl rfl)
theorem rRg1_4 {d : Nat} {S : cS} {ba : Nat} {e91 : Nat} {S1 : cS} {rb : Int32} {S2 : cS} (mba : ba < 2 ^ 20) (b1 : ba + 1 < 20480) (he91 : sA S 91 (ba + 1) = nI e91) (me91 : e91 < 2 ^ 20) (b2 : e91 = 1) (w6 : sm_c1 .ge (lg_cmp 0 (sL S 92 (ba + 1))) true false = true) (c1 : Ans (d + 8) 389 [.long 0, .long ((300))] S (some (.int rb)) S1) (w8 : sm_c1 .le rb true false = false) (c2 : Ans (d + 8) 351 [.ref 61, .int (nI 8)] S1 (some (.int (nI 0))) S2) : Bod (d + 8) 388 0 [(0, .ref 61), (1, .int (nI ba)), (2, .int (nI 1))] [] S (some (.int 0)) (S2) := by
  refine Bod.go dc_388_0 rfl ?_
  refine Bod.ic 1 (by decide) dc_388_1 ?_
  refine Bod.addN (ba + 1) (by omega) dc_388_2 ?_
  refine Bod.istn dc_388_3 (by rw [ml_388]; exact Nat.le_of_ble_eq_true rfl) ?_
  refine Bod.go dc_388_4 rfl ?_
  refine Bod.get dc_388_5 fr_388_496 (mk_61 _) rfl ?_
  refine Bod.go dc_388_8 rfl ?_
  refine Bod.ialdN (ba + 1) rfl (by omega) (by omega) dc_388_9 (mk_91 _) ?_
  refine Bod.eqI (nI e91) (by first | assumption | rfl | exact congrArg nI (by omega) | (simp (disch := omega) only [rIn, rIe, rA, rIA, rLA, rJA, rVI, rQI, rVA, rQA, upd_at,  rAI, rLI, rJI, nI_add, pk_sub, kc_0, kc_1, kc_2, kc_3, kc_4, kc_5, reduceIte, Nat.reduceEqDiff, Nat.add_zero, rI_hold, rI_hold, rL_hold, he91]; done)) ?_
  refine Bod.ic 1 (by decide) dc_388_10 ?_
  refine Bod.icF dc_388_11 rfl (k2_ne_F (k_eq e91 1 rfl rfl (by omega))) ?_
  refine Bod.go dc_388_14 rfl ?_
  refine Bod.ic 2 (by decide) dc_388_15 ?_
  refine Bod.icT dc_388_16 rfl (k2_ne_T (k_ne 1 2 rfl rfl (by omega) (by omega) (by omega))) ?_
  refine Bod.go dc_388_37 rfl ?_
  refine Bod.ic 2 (by decide) dc_388_38 ?_
  refine Bod.icT dc_388_39 rfl (k2_ne_T (k_ne 1 2 rfl rfl (by omega) (by omega) (by omega))) ?_
  refine Bod.go dc_388_51 rfl ?_
  refine Bod.lst dc_388_52 (by rw [ml_388]; exact Nat.le_of_ble_eq_true rfl) ?_
  refine Bod.go dc_388_54 rfl ?_
  refine Bod.get dc_388_55 fr_388_499 (mk_61 _) rfl ?_
  refine Bod.go dc_388_58 rfl ?_
  refine Bod.go dc_388_59 rfl ?_
  refine Bod.addN (ba + 1) (by omega) dc_388_60 ?_
  refine Bod.laldN (ba + 1) rfl (by omega) (by omega) dc_388_61 (mk_92 _) ?_
  refine Bod.lst dc_388_62 (by rw [ml_388]; exact Nat.le_of_ble_eq_true rfl) ?_
  refine Bod.go dc_388_64 rfl ?_
  refine Bod.go dc_388_66 rfl ?_
  refine Bod.go dc_388_68 rfl ?_
  refine Bod.ifT dc_388_69 rfl w6 ?_
  refine Bod.go dc_388_80 rfl ?_
  refine Bod.lst dc_388_81 (by rw [ml_388]; exact Nat.le_of_ble_eq_true rfl) ?_
  refine Bod.go dc_388_83 rfl ?_
  refine Bod.ldc2 dc_388_85 cj_388_803 ?_
  refine Bod.stat (r := []) dc_388_88 kr_388_709 (Or.inl rfl) (by rw [np_389]; rfl) (by rw [np_389]; rfl) (by rw [np_389]; exact Nat.le_of_ble_eq_true rfl) (Nat.le_of_ble_eq_true rfl) (c1  ) ?_
  show Bod _ _ _ _ [_] _ _ _
  refine Bod.ifF dc_388_91 rfl w8 ?_
  refine Bod.go dc_388_94 rfl ?_
  refine Bod.bip 8 (by decide) dc_388_95 ?_
  refine Bod.virt (r := []) dc_388_97 kr_388_608 ⟨Or.inl rfl, ow_351, cl_14⟩ (by rw [np_351]; rfl) (by rw [np_351]; rfl) (ob_of (mk_61 _)) (Nat.le_of_ble_eq_true rfl) (c2  ) ?_
  show Bod _ _ _ _ [_] _ _ _
  exact Bod.retZ dc_388_100 rt_388 (Or.inl rfl)
theorem rRg1_5 {d : Nat} {S Sf : cS} {v : Option Value} {ba : Nat} {e91 : Nat} {S1 : cS} {rb : Int32} {S2 : cS} {a : Nat} (mba : ba < 2 ^ 20) (b1 : ba + 1 < 20480) (he91 : sA S 91 (ba + 1) = nI e91) (me91 : e91 < 2 ^ 20) (b2 : e91 = 1) (w6 : sm_c1 .ge (lg_cmp 0 (sL S 92 (ba + 1))) true false = false) (c1 : Ans (d + 8) 389 [.long ((sL S 92 (ba + 1)) - 0), .long ((300))] S (some (.int rb)) S1) (w8 : sm_c1 .le rb true false = true) (ma : a < 1500) (c2 : Ans (d + 8) 364 [.ref 61, .int (nI 1)] S1 (some (.int (nI a))) S2) (hB : ∀ lv1 : sm_L, sm_get lv1 0 = some (.ref 61) → sm_get lv1 1 = some (.int (nI ba)) → sm_get lv1 6 = some (.long (sL S 92 (ba + 1))) → sm_get lv1 10 = some (.int (nI a)) → sm_get lv1 11 = some (.long 0) → Bod (d + 8) 388 119 lv1 [] (S2) v Sf) : Bod (d + 8) 388 0 [(0, .ref 61), (1, .int (nI ba)), (2, .int (nI 1))] [] S v Sf := by
  refine Bod.go dc_388_0 rfl ?_
  refine Bod.ic 1 (by decide) dc_388_1 ?_
  refine Bod.addN (ba + 1) (by omega) dc_388_2 ?_
  refine Bod.istn dc_388_3 (by rw [ml_388]; exact Nat.le_of_ble_eq_true rfl) ?_
  refine Bod.go dc_388_4 rfl ?_
  refine Bod.get dc_388_5 fr_388_496 (mk_61 _) rfl ?_
  refine Bod.go dc_388_8 rfl ?_
  refine Bod.ialdN (ba + 1) rfl (by omega) (by omega) dc_388_9 (mk_91 _) ?_
  refine Bod.eqI (nI e91) (by first | assumption | rfl | exact congrArg nI (by omega) | (simp (disch := omega) only [rIn, rIe, rA, rIA, rLA, rJA, rVI, rQI, rVA, rQA, upd_at,  rAI, rLI, rJI, nI_add, pk_sub, kc_0, kc_1, kc_2, kc_3, kc_4, kc_5, reduceIte, Nat.reduceEqDiff, Nat.add_zero, rI_hold, rI_hold, rL_hold, he91]; done)) ?_
  refine Bod.ic 1 (by decide) dc_388_10 ?_
  refine Bod.icF dc_388_11 rfl (k2_ne_F (k_eq e91 1 rfl rfl (by omega))) ?_
  refine Bod.go dc_388_14 rfl ?_
  refine Bod.ic 2 (by decide) dc_388_15 ?_
  refine Bod.icT dc_388_16 rfl (k2_ne_T (k_ne 1 2 rfl rfl (by omega) (by omega) (by omega))) ?_
  refine Bod.go dc_388_37 rfl ?_
  refine Bod.ic 2 (by decide) dc_388_38 ?_
  refine Bod.icT dc_388_39 rfl (k2_ne_T (k_ne 1 2 rfl rfl (by omega) (by omega) (by omega))) ?_
  refine Bod.go dc_388_51 rfl ?_
  refine Bod.lst dc_388_52 (by rw [ml_388]; exact Nat.le_of_ble_eq_true rfl) ?_
  refine Bod.go dc_388_54 rfl ?_
  refine Bod.get dc_388_55 fr_388_499 (mk_61 _) rfl ?_
  refine Bod.go dc_388_58 rfl ?_
  refine Bod.go dc_388_59 rfl ?_
  refine Bod.addN (ba + 1) (by omega) dc_388_60 ?_
  refine Bod.laldN (ba + 1) rfl (by omega) (by omega) dc_388_61 (mk_92 _) ?_
  refine Bod.lst dc_388_62 (by rw [ml_388]; exact Nat.le_of_ble_eq_true rfl) ?_
  refine Bod.go dc_388_64 rfl ?_
  refine Bod.go dc_388_66 rfl ?_
  refine Bod.go dc_388_68 rfl ?_
  refine Bod.ifF dc_388_69 rfl w6 ?_
  refine Bod.go dc_388_72 rfl ?_
  refine Bod.go dc_388_74 rfl ?_
  refine Bod.go dc_388_76 rfl ?_
  refine Bod.go dc_388_77 rfl ?_
  refine Bod.lst dc_388_81 (by rw [ml_388]; exact Nat.le_of_ble_eq_true rfl) ?_
  refine Bod.go dc_388_83 rfl ?_
  refine Bod.ldc2 dc_388_85 cj_388_803 ?_
  refine Bod.stat (r := []) dc_388_88 kr_388_709 (Or.inl rfl) (by rw [np_389]; rfl) (by rw [np_389]; rfl) (by rw [np_389]; exact Nat.le_of_ble_eq_true rfl) (Nat.le_of_ble_eq_true rfl) (c1  ) ?_
  show Bod _ _ _ _ [_] _ _ _
  refine Bod.ifT dc_388_91 rfl w8 ?_
  refine Bod.go dc_388_101 rfl ?_
  refine Bod.ic 1 (by decide) dc_388_102 ?_
  refine Bod.virt (r := []) dc_388_103 kr_388_686 ⟨Or.inl rfl, ow_364, cl_14⟩ (by rw [np_364]; rfl) (by rw [np_364]; rfl) (ob_of (mk_61 _)) (Nat.le_of_ble_eq_true rfl) (c2  ) ?_
  show Bod _ _ _ _ [_] _ _ _
  refine Bod.ist dc_388_106 (by rw [ml_388]; exact Nat.le_of_ble_eq_true rfl) ?_
  refine Bod.go dc_388_108 rfl ?_
  refine Bod.ifT dc_388_110 rfl (k1_ge_T a rfl (by omega)) ?_
  refine Bod.go dc_388_115 rfl ?_
  refine Bod.lst dc_388_117 (by rw [ml_388]; exact Nat.le_of_ble_eq_true rfl) ?_
  exact hB _ (by first | rfl | exact (by repeat (first | exact rfl | exact sm_get_p1 | exact sm_get_p2e | refine sm_get_p1m (by decide) (by decide) ?_ | refine sm_get_p1n (by decide) rfl ?_ | refine sm_get_p2n (by decide) (by decide) rfl ?_ | refine sm_get_p2m (by decide) (by decide) (by decide) ?_))) (by first | rfl | exact (by repeat (first | exact rfl | exact sm_get_p1 | exact sm_get_p2e | refine sm_get_p1m (by decide) (by decide) ?_ | refine sm_get_p1n (by decide) rfl ?_ | refine sm_get_p2n (by decide) (by decide) rfl ?_ | refine sm_get_p2m (by decide) (by decide) (by decide) ?_))) (by first | rfl | exact (by repeat (first | exact rfl | exact sm_get_p1 | exact sm_get_p2e | refine sm_get_p1m (by decide) (by decide) ?_ | refine sm_get_p1n (by decide) rfl ?_ | refine sm_get_p2n (by decide) (by decide) rfl ?_ | refine sm_get_p2m (by decide) (by decide) (by decide) ?_))) (by first | rfl | exact (by repeat (first | exact rfl | exact sm_get_p1 | exact sm_get_p2e | refine sm_get_p1m (by decide) (by decide) ?_ | refine sm_get_p1n (by decide) rfl ?_ | refine sm_get_p2n (by decide) (by decide) rfl ?_ | refine sm_get_p2m (by decide) (by decide) (by decide) ?_))) (by first | rfl | exact (by repeat (first | exact rfl | exact sm_get_p1 | exact sm_get_p2e | refine sm_get_p1m (by decide) (by decide) ?_ | refine sm_get_p1n (by decide) rfl ?_ | refine sm_get_p2n (by decide) (by decide) rfl ?_ | refine sm_get_p2m (by decide) (by decide) (by decide) ?_)))
theorem rRg1_6 {d : Nat} {S : cS} {ba : Nat} {e91 : Nat} {S1 : cS} {rb : Int32} {S2 : cS} (mba : ba < 2 ^ 20) (b1 : ba + 1 < 20480) (he91 : sA S 91 (ba + 1) = nI e91) (me91 : e91 < 2 ^ 20) (b2 : e91 = 1) (w6 : sm_c1 .ge (lg_cmp 0 (sL S 92 (ba + 1))) true false = false) (c1 : Ans (d + 8) 389 [.long ((sL S 92 (ba + 1)) - 0), .long ((300))] S (some (.int rb)) S1) (w8 : sm_c1 .le rb true false = true) (c2 : Ans (d + 8) 364 [.ref 61, .int (nI 1)] S1 (some (.int (Int32.ofInt (-1)))) S2) : Bod (d + 8) 388 0 [(0, .ref 61), (1, .int (nI ba)), (2, .int (nI 1))] [] S (some (.int 0)) (S2) := by
  refine Bod.go dc_388_0 rfl ?_
  refine Bod.ic 1 (by decide) dc_388_1 ?_
  refine Bod.addN (ba + 1) (by omega) dc_388_2 ?_
  refine Bod.istn dc_388_3 (by rw [ml_388]; exact Nat.le_of_ble_eq_true rfl) ?_
  refine Bod.go dc_388_4 rfl ?_
  refine Bod.get dc_388_5 fr_388_496 (mk_61 _) rfl ?_
  refine Bod.go dc_388_8 rfl ?_
  refine Bod.ialdN (ba + 1) rfl (by omega) (by omega) dc_388_9 (mk_91 _) ?_
  refine Bod.eqI (nI e91) (by first | assumption | rfl | exact congrArg nI (by omega) | (simp (disch := omega) only [rIn, rIe, rA, rIA, rLA, rJA, rVI, rQI, rVA, rQA, upd_at,  rAI, rLI, rJI, nI_add, pk_sub, kc_0, kc_1, kc_2, kc_3, kc_4, kc_5, reduceIte, Nat.reduceEqDiff, Nat.add_zero, rI_hold, rI_hold, rL_hold, he91]; done)) ?_
  refine Bod.ic 1 (by decide) dc_388_10 ?_
  refine Bod.icF dc_388_11 rfl (k2_ne_F (k_eq e91 1 rfl rfl (by omega))) ?_
  refine Bod.go dc_388_14 rfl ?_
  refine Bod.ic 2 (by decide) dc_388_15 ?_
  refine Bod.icT dc_388_16 rfl (k2_ne_T (k_ne 1 2 rfl rfl (by omega) (by omega) (by omega))) ?_
  refine Bod.go dc_388_37 rfl ?_
  refine Bod.ic 2 (by decide) dc_388_38 ?_
  refine Bod.icT dc_388_39 rfl (k2_ne_T (k_ne 1 2 rfl rfl (by omega) (by omega) (by omega))) ?_
  refine Bod.go dc_388_51 rfl ?_
  refine Bod.lst dc_388_52 (by rw [ml_388]; exact Nat.le_of_ble_eq_true rfl) ?_
  refine Bod.go dc_388_54 rfl ?_
  refine Bod.get dc_388_55 fr_388_499 (mk_61 _) rfl ?_
  refine Bod.go dc_388_58 rfl ?_
  refine Bod.go dc_388_59 rfl ?_
  refine Bod.addN (ba + 1) (by omega) dc_388_60 ?_
  refine Bod.laldN (ba + 1) rfl (by omega) (by omega) dc_388_61 (mk_92 _) ?_
  refine Bod.lst dc_388_62 (by rw [ml_388]; exact Nat.le_of_ble_eq_true rfl) ?_
  refine Bod.go dc_388_64 rfl ?_
  refine Bod.go dc_388_66 rfl ?_
  refine Bod.go dc_388_68 rfl ?_
  refine Bod.ifF dc_388_69 rfl w6 ?_
  refine Bod.go dc_388_72 rfl ?_
  refine Bod.go dc_388_74 rfl ?_
  refine Bod.go dc_388_76 rfl ?_
  refine Bod.go dc_388_77 rfl ?_
  refine Bod.lst dc_388_81 (by rw [ml_388]; exact Nat.le_of_ble_eq_true rfl) ?_
  refine Bod.go dc_388_83 rfl ?_
  refine Bod.ldc2 dc_388_85 cj_388_803 ?_
  refine Bod.stat (r := []) dc_388_88 kr_388_709 (Or.inl rfl) (by rw [np_389]; rfl) (by rw [np_389]; rfl) (by rw [np_389]; exact Nat.le_of_ble_eq_true rfl) (Nat.le_of_ble_eq_true rfl) (c1  ) ?_
  show Bod _ _ _ _ [_] _ _ _
  refine Bod.ifT dc_388_91 rfl w8 ?_
  refine Bod.go dc_388_101 rfl ?_
  refine Bod.ic 1 (by decide) dc_388_102 ?_
  refine Bod.virt (r := []) dc_388_103 kr_388_686 ⟨Or.inl rfl, ow_364, cl_14⟩ (by rw [np_364]; rfl) (by rw [np_364]; rfl) (ob_of (mk_61 _)) (Nat.le_of_ble_eq_true rfl) (c2  ) ?_
  show Bod _ _ _ _ [_] _ _ _
  refine Bod.ist dc_388_106 (by rw [ml_388]; exact Nat.le_of_ble_eq_true rfl) ?_
  refine Bod.go dc_388_108 rfl ?_
  refine Bod.ifF dc_388_110 rfl (by decide) ?_
  refine Bod.ic 0 (by decide) dc_388_113 ?_
  exact Bod.retZ dc_388_114 rt_388 (Or.inl rfl)
theorem rRg1_7 {d : Nat} {S : cS} {ba : Nat} {e91 : Nat} {S1 : cS} {rb : Int32} {S2 : cS} (mba : ba < 2 ^ 20) (b1 : ba + 1 < 20480) (he91 : sA S 91 (ba + 1) = nI e91) (me91 : e91 < 2 ^ 20) (b2 : e91 = 1) (w6 : sm_c1 .ge (lg_cmp 0 (sL S 92 (ba + 1))) true false = false) (c1 : Ans (d + 8) 389 [.long ((sL S 92 (ba + 1)) - 0), .long ((300))] S (some (.int rb)) S1) (w8 : sm_c1 .le rb true false = false) (c2 : Ans (d + 8) 351 [.ref 61, .int (nI 8)] S1 (some (.int (nI 0))) S2) : Bod (d + 8) 388 0 [(0, .ref 61), (1, .int (nI ba)), (2, .int (nI 1))] [] S (some (.int 0)) (S2) := by
  refine Bod.go dc_388_0 rfl ?_
  refine Bod.ic 1 (by decide) dc_388_1 ?_
  refine Bod.addN (ba + 1) (by omega) dc_388_2 ?_
  refine Bod.istn dc_388_3 (by rw [ml_388]; exact Nat.le_of_ble_eq_true rfl) ?_
  refine Bod.go dc_388_4 rfl ?_
  refine Bod.get dc_388_5 fr_388_496 (mk_61 _) rfl ?_
  refine Bod.go dc_388_8 rfl ?_
  refine Bod.ialdN (ba + 1) rfl (by omega) (by omega) dc_388_9 (mk_91 _) ?_
  refine Bod.eqI (nI e91) (by first | assumption | rfl | exact congrArg nI (by omega) | (simp (disch := omega) only [rIn, rIe, rA, rIA, rLA, rJA, rVI, rQI, rVA, rQA, upd_at,  rAI, rLI, rJI, nI_add, pk_sub, kc_0, kc_1, kc_2, kc_3, kc_4, kc_5, reduceIte, Nat.reduceEqDiff, Nat.add_zero, rI_hold, rI_hold, rL_hold, he91]; done)) ?_
  refine Bod.ic 1 (by decide) dc_388_10 ?_
  refine Bod.icF dc_388_11 rfl (k2_ne_F (k_eq e91 1 rfl rfl (by omega))) ?_
  refine Bod.go dc_388_14 rfl ?_
  refine Bod.ic 2 (by decide) dc_388_15 ?_
  refine Bod.icT dc_388_16 rfl (k2_ne_T (k_ne 1 2 rfl rfl (by omega) (by omega) (by omega))) ?_
  refine Bod.go dc_388_37 rfl ?_
  refine Bod.ic 2 (by decide) dc_388_38 ?_
  refine Bod.icT dc_388_39 rfl (k2_ne_T (k_ne 1 2 rfl rfl (by omega) (by omega) (by omega))) ?_
  refine Bod.go dc_388_51 rfl ?_
  refine Bod.lst dc_388_52 (by rw [ml_388]; exact Nat.le_of_ble_eq_true rfl) ?_
  refine Bod.go dc_388_54 rfl ?_
  refine Bod.get dc_388_55 fr_388_499 (mk_61 _) rfl ?_
  refine Bod.go dc_388_58 rfl ?_
  refine Bod.go dc_388_59 rfl ?_
  refine Bod.addN (ba + 1) (by omega) dc_388_60 ?_
  refine Bod.laldN (ba + 1) rfl (by omega) (by omega) dc_388_61 (mk_92 _) ?_
  refine Bod.lst dc_388_62 (by rw [ml_388]; exact Nat.le_of_ble_eq_true rfl) ?_
  refine Bod.go dc_388_64 rfl ?_
  refine Bod.go dc_388_66 rfl ?_
  refine Bod.go dc_388_68 rfl ?_
  refine Bod.ifF dc_388_69 rfl w6 ?_
  refine Bod.go dc_388_72 rfl ?_
  refine Bod.go dc_388_74 rfl ?_
  refine Bod.go dc_388_76 rfl ?_
  refine Bod.go dc_388_77 rfl ?_
  refine Bod.lst dc_388_81 (by rw [ml_388]; exact Nat.le_of_ble_eq_true rfl) ?_
  refine Bod.go dc_388_83 rfl ?_
  refine Bod.ldc2 dc_388_85 cj_388_803 ?_
  refine Bod.stat (r := []) dc_388_88 kr_388_709 (Or.inl rfl) (by rw [np_389]; rfl) (by rw [np_389]; rfl) (by rw [np_389]; exact Nat.le_of_ble_eq_true rfl) (Nat.le_of_ble_eq_true rfl) (c1  ) ?_
  show Bod _ _ _ _ [_] _ _ _
  refine Bod.ifF dc_388_91 rfl w8 ?_
  refine Bod.go dc_388_94 rfl ?_
  refine Bod.bip 8 (by decide) dc_388_95 ?_
  refine Bod.virt (r := []) dc_388_97 kr_388_608 ⟨Or.inl rfl, ow_351, cl_14⟩ (by rw [np_351]; rfl) (by rw [np_351]; rfl) (ob_of (mk_61 _)) (Nat.le_of_ble_eq_true rfl) (c2  ) ?_
  show Bod _ _ _ _ [_] _ _ _
  exact Bod.retZ dc_388_100 rt_388 (Or.inl rfl)
theorem rRg2_1 {d : Nat} {S : cS} {ba : Nat} {e91 : Nat} {S1 : cS} (mba : ba < 2 ^ 20) (b1 : ba + 1 < 20480) (he91 : sA S 91 (ba + 1) = nI e91) (me91 : e91 < 2 ^ 20) (b2 : e91 ≠ 1) (c1 : Ans (d + 8) 351 [.ref 61, .int (nI 2)] S (some (.int (nI 0))) S1) : Bod (d + 8) 388 0 [(0, .ref 61), (1, .int (nI ba)), (2, .int (nI 2))] [] S (some (.int 0)) (S1) := by
  refine Bod.go dc_388_0 rfl ?_
  refine Bod.ic 1 (by decide) dc_388_1 ?_
  refine Bod.addN (ba + 1) (by omega) dc_388_2 ?_
  refine Bod.istn dc_388_3 (by rw [ml_388]; exact Nat.le_of_ble_eq_true rfl) ?_
  refine Bod.go dc_388_4 rfl ?_
  refine Bod.get dc_388_5 fr_388_496 (mk_61 _) rfl ?_
  refine Bod.go dc_388_8 rfl ?_
  refine Bod.ialdN (ba + 1) rfl (by omega) (by omega) dc_388_9 (mk_91 _) ?_
  refine Bod.eqI (nI e91) (by first | assumption | rfl | exact congrArg nI (by omega) | (simp (disch := omega) only [rIn, rIe, rA, rIA, rLA, rJA, rVI, rQI, rVA, rQA, upd_at,  rAI, rLI, rJI, nI_add, pk_sub, kc_0, kc_1, kc_2, kc_3, kc_4, kc_5, reduceIte, Nat.reduceEqDiff, Nat.add_zero, rI_hold, rI_hold, rL_hold, he91]; done)) ?_
  refine Bod.ic 1 (by decide) dc_388_10 ?_
  refine Bod.icT dc_388_11 rfl (k2_ne_T (k_ne e91 1 rfl rfl (by omega) (by omega) (by omega))) ?_
  refine Bod.go dc_388_31 rfl ?_
  refine Bod.ic 2 (by decide) dc_388_32 ?_
  refine Bod.virt (r := []) dc_388_33 kr_388_608 ⟨Or.inl rfl, ow_351, cl_14⟩ (by rw [np_351]; rfl) (by rw [np_351]; rfl) (ob_of (mk_61 _)) (Nat.le_of_ble_eq_true rfl) (c1  ) ?_
  show Bod _ _ _ _ [_] _ _ _
  exact Bod.retZ dc_388_36 rt_388 (Or.inl rfl)
theorem rRg2_2 {d : Nat} {S Sf : cS} {v : Option Value} {ba : Nat} {e91 : Nat} {e911 : Nat} {S1 : cS} {rb : Int32} {S2 : cS} {a : Nat} (mba : ba < 2 ^ 20) (b1 : ba + 1 < 20480) (he91 : sA S 91 (ba + 1) = nI e91) (me91 : e91 < 2 ^ 20) (b2 : e91 = 1) (b3 : ba + 2 < 20480) (he911 : sA S 91 (ba + 2) = nI e911) (me911 : e911 < 2 ^ 20) (b4 : e911 = 1) (w10 : sm_c1 .ge (lg_cmp (sL S 92 (ba + 1)) (sL S 92 (ba + 2))) true false = true) (c1 : Ans (d + 8) 389 [.long 0, .long ((300))] S (some (.int rb)) S1) (w12 : sm_c1 .le rb true false = true) (ma : a < 1500) (c2 : Ans (d + 8) 364 [.ref 61, .int (nI 1)] S1 (some (.int (nI a))) S2) (hB : ∀ lv1 : sm_L, sm_get lv1 0 = some (.ref 61) → sm_get lv1 1 = some (.int (nI ba)) → sm_get lv1 6 = some (.long (sL S 92 (ba + 2))) → sm_get lv1 10 = some (.int (nI a)) → sm_get lv1 11 = some (.long (sL S 92 (ba + 1))) → Bod (d + 8) 388 119 lv1 [] (S2) v Sf) : Bod (d + 8) 388 0 [(0, .ref 61), (1, .int (nI ba)), (2, .int (nI 2))] [] S v Sf := by
  refine Bod.go dc_388_0 rfl ?_
  refine Bod.ic 1 (by decide) dc_388_1 ?_
  refine Bod.addN (ba + 1) (by omega) dc_388_2 ?_
  refine Bod.istn dc_388_3 (by rw [ml_388]; exact Nat.le_of_ble_eq_true rfl) ?_
  refine Bod.go dc_388_4 rfl ?_
  refine Bod.get dc_388_5 fr_388_496 (mk_61 _) rfl ?_
  refine Bod.go dc_388_8 rfl ?_
  refine Bod.ialdN (ba + 1) rfl (by omega) (by omega) dc_388_9 (mk_91 _) ?_
  refine Bod.eqI (nI e91) (by first | assumption | rfl | exact congrArg nI (by omega) | (simp (disch := omega) only [rIn, rIe, rA, rIA, rLA, rJA, rVI, rQI, rVA, rQA, upd_at,  rAI, rLI, rJI, nI_add, pk_sub, kc_0, kc_1, kc_2, kc_3, kc_4, kc_5, reduceIte, Nat.reduceEqDiff, Nat.add_zero, rI_hold, rI_hold, rL_hold, he91]; done)) ?_
  refine Bod.ic 1 (by decide) dc_388_10 ?_
  refine Bod.icF dc_388_11 rfl (k2_ne_F (k_eq e91 1 rfl rfl (by omega))) ?_
  refine Bod.go dc_388_14 rfl ?_
  refine Bod.ic 2 (by decide) dc_388_15 ?_
  refine Bod.icF dc_388_16 rfl (k2_ne_F (k_eq 2 2 rfl rfl (by omega))) ?_
  refine Bod.go dc_388_19 rfl ?_
  refine Bod.get dc_388_20 fr_388_496 (mk_61 _) rfl ?_
  refine Bod.go dc_388_23 rfl ?_
  refine Bod.ic 1 (by decide) dc_388_24 ?_
  refine Bod.addN (ba + 2) (by omega) dc_388_25 ?_
  refine Bod.ialdN (ba + 2) rfl (by omega) (by omega) dc_388_26 (mk_91 _) ?_
  refine Bod.eqI (nI e911) (by first | assumption | rfl | exact congrArg nI (by omega) | (simp (disch := omega) only [rIn, rIe, rA, rIA, rLA, rJA, rVI, rQI, rVA, rQA, upd_at,  rAI, rLI, rJI, nI_add, pk_sub, kc_0, kc_1, kc_2, kc_3, kc_4, kc_5, reduceIte, Nat.reduceEqDiff, Nat.add_zero, rI_hold, rI_hold, rL_hold, he91, he911]; done)) ?_
  refine Bod.ic 1 (by decide) dc_388_27 ?_
  refine Bod.icT dc_388_28 rfl (k2_eq_T (k_eq e911 1 rfl rfl (by omega))) ?_
  refine Bod.go dc_388_37 rfl ?_
  refine Bod.ic 2 (by decide) dc_388_38 ?_
  refine Bod.icF dc_388_39 rfl (k2_ne_F (k_eq 2 2 rfl rfl (by omega))) ?_
  refine Bod.go dc_388_42 rfl ?_
  refine Bod.get dc_388_43 fr_388_499 (mk_61 _) rfl ?_
  refine Bod.go dc_388_46 rfl ?_
  refine Bod.laldN (ba + 1) rfl (by omega) (by omega) dc_388_47 (mk_92 _) ?_
  refine Bod.go dc_388_48 rfl ?_
  refine Bod.lst dc_388_52 (by rw [ml_388]; exact Nat.le_of_ble_eq_true rfl) ?_
  refine Bod.go dc_388_54 rfl ?_
  refine Bod.get dc_388_55 fr_388_499 (mk_61 _) rfl ?_
  refine Bod.go dc_388_58 rfl ?_
  refine Bod.go dc_388_59 rfl ?_
  refine Bod.addN (ba + 2) (by omega) dc_388_60 ?_
  refine Bod.laldN (ba + 2) rfl (by omega) (by omega) dc_388_61 (mk_92 _) ?_
  refine Bod.lst dc_388_62 (by rw [ml_388]; exact Nat.le_of_ble_eq_true rfl) ?_
  refine Bod.go dc_388_64 rfl ?_
  refine Bod.go dc_388_66 rfl ?_
  refine Bod.go dc_388_68 rfl ?_
  refine Bod.ifT dc_388_69 rfl w10 ?_
  refine Bod.go dc_388_80 rfl ?_
  refine Bod.lst dc_388_81 (by rw [ml_388]; exact Nat.le_of_ble_eq_true rfl) ?_
  refine Bod.go dc_388_83 rfl ?_
  refine Bod.ldc2 dc_388_85 cj_388_803 ?_
  refine Bod.stat (r := []) dc_388_88 kr_388_709 (Or.inl rfl) (by rw [np_389]; rfl) (by rw [np_389]; rfl) (by rw [np_389]; exact Nat.le_of_ble_eq_true rfl) (Nat.le_of_ble_eq_true rfl) (c1  ) ?_
  show Bod _ _ _ _ [_] _ _ _
  refine Bod.ifT dc_388_91 rfl w12 ?_
  refine Bod.go dc_388_101 rfl ?_
  refine Bod.ic 1 (by decide) dc_388_102 ?_
  refine Bod.virt (r := []) dc_388_103 kr_388_686 ⟨Or.inl rfl, ow_364, cl_14⟩ (by rw [np_364]; rfl) (by rw [np_364]; rfl) (ob_of (mk_61 _)) (Nat.le_of_ble_eq_true rfl) (c2  ) ?_
  show Bod _ _ _ _ [_] _ _ _
  refine Bod.ist dc_388_106 (by rw [ml_388]; exact Nat.le_of_ble_eq_true rfl) ?_
  refine Bod.go dc_388_108 rfl ?_
  refine Bod.ifT dc_388_110 rfl (k1_ge_T a rfl (by omega)) ?_
  refine Bod.go dc_388_115 rfl ?_
  refine Bod.lst dc_388_117 (by rw [ml_388]; exact Nat.le_of_ble_eq_true rfl) ?_
  exact hB _ (by first | rfl | exact (by repeat (first | exact rfl | exact sm_get_p1 | exact sm_get_p2e | refine sm_get_p1m (by decide) (by decide) ?_ | refine sm_get_p1n (by decide) rfl ?_ | refine sm_get_p2n (by decide) (by decide) rfl ?_ | refine sm_get_p2m (by decide) (by decide) (by decide) ?_))) (by first | rfl | exact (by repeat (first | exact rfl | exact sm_get_p1 | exact sm_get_p2e | refine sm_get_p1m (by decide) (by decide) ?_ | refine sm_get_p1n (by decide) rfl ?_ | refine sm_get_p2n (by decide) (by decide) rfl ?_ | refine sm_get_p2m (by decide) (by decide) (by decide) ?_))) (by first | rfl | exact (by repeat (first | exact rfl | exact sm_get_p1 | exact sm_get_p2e | refine sm_get_p1m (by decide) (by decide) ?_ | refine sm_get_p1n (by decide) rfl ?_ | refine sm_get_p2n (by decide) (by decide) rfl ?_ | refine sm_get_p2m (by decide) (by decide) (by decide) ?_))) (by first | rfl | exact (by repeat (first | exact rfl | exact sm_get_p1 | exact sm_get_p2e | refine sm_get_p1m (by decide) (by decide) ?_ | refine sm_get_p1n (by decide) rfl ?_ | refine sm_get_p2n (by decide) (by decide) rfl ?_ | refine sm_get_p2m (by decide) (by decide) (by decide) ?_))) (by first | rfl | exact (by repeat (first | exact rfl | exact sm_get_p1 | exact sm_get_p2e | refine sm_get_p1m (by decide) (by decide) ?_ | refine sm_get_p1n (by decide) rfl ?_ | refine sm_get_p2n (by decide) (by decide) rfl ?_ | refine sm_get_p2m (by decide) (by decide) (by decide) ?_)))
theorem rRg2_3 {d : Nat} {S : cS} {ba : Nat} {e91 : Nat} {e911 : Nat} {S1 : cS} {rb : Int32} {S2 : cS} (mba : ba < 2 ^ 20) (b1 : ba + 1 < 20480) (he91 : sA S 91 (ba + 1) = nI e91) (me91 : e91 < 2 ^ 20) (b2 : e91 = 1) (b3 : ba + 2 < 20480) (he911 : sA S 91 (ba + 2) = nI e911) (me911 : e911 < 2 ^ 20) (b4 : e911 = 1) (w10 : sm_c1 .ge (lg_cmp (sL S 92 (ba + 1)) (sL S 92 (ba + 2))) true false = true) (c1 : Ans (d + 8) 389 [.long 0, .long ((300))] S (some (.int rb)) S1) (w12 : sm_c1 .le rb true false = true) (c2 : Ans (d + 8) 364 [.ref 61, .int (nI 1)] S1 (some (.int (Int32.ofInt (-1)))) S2) : Bod (d + 8) 388 0 [(0, .ref 61), (1, .int (nI ba)), (2, .int (nI 2))] [] S (some (.int 0)) (S2) := by
  refine Bod.go dc_388_0 rfl ?_
  refine Bod.ic 1 (by decide) dc_388_1 ?_
  refine Bod.addN (ba + 1) (by omega) dc_388_2 ?_
  refine Bod.istn dc_388_3 (by rw [ml_388]; exact Nat.le_of_ble_eq_true rfl) ?_
  refine Bod.go dc_388_4 rfl ?_
  refine Bod.get dc_388_5 fr_388_496 (mk_61 _) rfl ?_
  refine Bod.go dc_388_8 rfl ?_
  refine Bod.ialdN (ba + 1) rfl (by omega) (by omega) dc_388_9 (mk_91 _) ?_
  refine Bod.eqI (nI e91) (by first | assumption | rfl | exact congrArg nI (by omega) | (simp (disch := omega) only [rIn, rIe, rA, rIA, rLA, rJA, rVI, rQI, rVA, rQA, upd_at,  rAI, rLI, rJI, nI_add, pk_sub, kc_0, kc_1, kc_2, kc_3, kc_4, kc_5, reduceIte, Nat.reduceEqDiff, Nat.add_zero, rI_hold, rI_hold, rL_hold, he91]; done)) ?_
  refine Bod.ic 1 (by decide) dc_388_10 ?_
  refine Bod.icF dc_388_11 rfl (k2_ne_F (k_eq e91 1 rfl rfl (by omega))) ?_
  refine Bod.go dc_388_14 rfl ?_
  refine Bod.ic 2 (by decide) dc_388_15 ?_
  refine Bod.icF dc_388_16 rfl (k2_ne_F (k_eq 2 2 rfl rfl (by omega))) ?_
  refine Bod.go dc_388_19 rfl ?_
  refine Bod.get dc_388_20 fr_388_496 (mk_61 _) rfl ?_
  refine Bod.go dc_388_23 rfl ?_
  refine Bod.ic 1 (by decide) dc_388_24 ?_
  refine Bod.addN (ba + 2) (by omega) dc_388_25 ?_
  refine Bod.ialdN (ba + 2) rfl (by omega) (by omega) dc_388_26 (mk_91 _) ?_
  refine Bod.eqI (nI e911) (by first | assumption | rfl | exact congrArg nI (by omega) | (simp (disch := omega) only [rIn, rIe, rA, rIA, rLA, rJA, rVI, rQI, rVA, rQA, upd_at,  rAI, rLI, rJI, nI_add, pk_sub, kc_0, kc_1, kc_2, kc_3, kc_4, kc_5, reduceIte, Nat.reduceEqDiff, Nat.add_zero, rI_hold, rI_hold, rL_hold, he91, he911]; done)) ?_
  refine Bod.ic 1 (by decide) dc_388_27 ?_
  refine Bod.icT dc_388_28 rfl (k2_eq_T (k_eq e911 1 rfl rfl (by omega))) ?_
  refine Bod.go dc_388_37 rfl ?_
  refine Bod.ic 2 (by decide) dc_388_38 ?_
  refine Bod.icF dc_388_39 rfl (k2_ne_F (k_eq 2 2 rfl rfl (by omega))) ?_
  refine Bod.go dc_388_42 rfl ?_
  refine Bod.get dc_388_43 fr_388_499 (mk_61 _) rfl ?_
  refine Bod.go dc_388_46 rfl ?_
  refine Bod.laldN (ba + 1) rfl (by omega) (by omega) dc_388_47 (mk_92 _) ?_
  refine Bod.go dc_388_48 rfl ?_
  refine Bod.lst dc_388_52 (by rw [ml_388]; exact Nat.le_of_ble_eq_true rfl) ?_
  refine Bod.go dc_388_54 rfl ?_
  refine Bod.get dc_388_55 fr_388_499 (mk_61 _) rfl ?_
  refine Bod.go dc_388_58 rfl ?_
  refine Bod.go dc_388_59 rfl ?_
  refine Bod.addN (ba + 2) (by omega) dc_388_60 ?_
  refine Bod.laldN (ba + 2) rfl (by omega) (by omega) dc_388_61 (mk_92 _) ?_
  refine Bod.lst dc_388_62 (by rw [ml_388]; exact Nat.le_of_ble_eq_true rfl) ?_
  refine Bod.go dc_388_64 rfl ?_
  refine Bod.go dc_388_66 rfl ?_
  refine Bod.go dc_388_68 rfl ?_
  refine Bod.ifT dc_388_69 rfl w10 ?_
  refine Bod.go dc_388_80 rfl ?_
  refine Bod.lst dc_388_81 (by rw [ml_388]; exact Nat.le_of_ble_eq_true rfl) ?_
  refine Bod.go dc_388_83 rfl ?_
  refine Bod.ldc2 dc_388_85 cj_388_803 ?_
  refine Bod.stat (r := []) dc_388_88 kr_388_709 (Or.inl rfl) (by rw [np_389]; rfl) (by rw [np_389]; rfl) (by rw [np_389]; exact Nat.le_of_ble_eq_true rfl) (Nat.le_of_ble_eq_true rfl) (c1  ) ?_
  show Bod _ _ _ _ [_] _ _ _
  refine Bod.ifT dc_388_91 rfl w12 ?_
  refine Bod.go dc_388_101 rfl ?_
  refine Bod.ic 1 (by decide) dc_388_102 ?_
  refine Bod.virt (r := []) dc_388_103 kr_388_686 ⟨Or.inl rfl, ow_364, cl_14⟩ (by rw [np_364]; rfl) (by rw [np_364]; rfl) (ob_of (mk_61 _)) (Nat.le_of_ble_eq_true rfl) (c2  ) ?_
  show Bod _ _ _ _ [_] _ _ _
  refine Bod.ist dc_388_106 (by rw [ml_388]; exact Nat.le_of_ble_eq_true rfl) ?_
  refine Bod.go dc_388_108 rfl ?_
  refine Bod.ifF dc_388_110 rfl (by decide) ?_
  refine Bod.ic 0 (by decide) dc_388_113 ?_
  exact Bod.retZ dc_388_114 rt_388 (Or.inl rfl)
theorem rRg2_4 {d : Nat} {S : cS} {ba : Nat} {e91 : Nat} {e911 : Nat} {S1 : cS} {rb : Int32} {S2 : cS} (mba : ba < 2 ^ 20) (b1 : ba + 1 < 20480) (he91 : sA S 91 (ba + 1) = nI e91) (me91 : e91 < 2 ^ 20) (b2 : e91 = 1) (b3 : ba + 2 < 20480) (he911 : sA S 91 (ba + 2) = nI e911) (me911 : e911 < 2 ^ 20) (b4 : e911 = 1) (w10 : sm_c1 .ge (lg_cmp (sL S 92 (ba + 1)) (sL S 92 (ba + 2))) true false = true) (c1 : Ans (d + 8) 389 [.long 0, .long ((300))] S (some (.int rb)) S1) (w12 : sm_c1 .le rb true false = false) (c2 : Ans (d + 8) 351 [.ref 61, .int (nI 8)] S1 (some (.int (nI 0))) S2) : Bod (d + 8) 388 0 [(0, .ref 61), (1, .int (nI ba)), (2, .int (nI 2))] [] S (some (.int 0)) (S2) := by
  refine Bod.go dc_388_0 rfl ?_
  refine Bod.ic 1 (by decide) dc_388_1 ?_
  refine Bod.addN (ba + 1) (by omega) dc_388_2 ?_
  refine Bod.istn dc_388_3 (by rw [ml_388]; exact Nat.le_of_ble_eq_true rfl) ?_
  refine Bod.go dc_388_4 rfl ?_
  refine Bod.get dc_388_5 fr_388_496 (mk_61 _) rfl ?_
  refine Bod.go dc_388_8 rfl ?_
  refine Bod.ialdN (ba + 1) rfl (by omega) (by omega) dc_388_9 (mk_91 _) ?_
  refine Bod.eqI (nI e91) (by first | assumption | rfl | exact congrArg nI (by omega) | (simp (disch := omega) only [rIn, rIe, rA, rIA, rLA, rJA, rVI, rQI, rVA, rQA, upd_at,  rAI, rLI, rJI, nI_add, pk_sub, kc_0, kc_1, kc_2, kc_3, kc_4, kc_5, reduceIte, Nat.reduceEqDiff, Nat.add_zero, rI_hold, rI_hold, rL_hold, he91]; done)) ?_
  refine Bod.ic 1 (by decide) dc_388_10 ?_
  refine Bod.icF dc_388_11 rfl (k2_ne_F (k_eq e91 1 rfl rfl (by omega))) ?_
  refine Bod.go dc_388_14 rfl ?_
  refine Bod.ic 2 (by decide) dc_388_15 ?_
  refine Bod.icF dc_388_16 rfl (k2_ne_F (k_eq 2 2 rfl rfl (by omega))) ?_
  refine Bod.go dc_388_19 rfl ?_
  refine Bod.get dc_388_20 fr_388_496 (mk_61 _) rfl ?_
  refine Bod.go dc_388_23 rfl ?_
  refine Bod.ic 1 (by decide) dc_388_24 ?_
  refine Bod.addN (ba + 2) (by omega) dc_388_25 ?_
  refine Bod.ialdN (ba + 2) rfl (by omega) (by omega) dc_388_26 (mk_91 _) ?_
  refine Bod.eqI (nI e911) (by first | assumption | rfl | exact congrArg nI (by omega) | (simp (disch := omega) only [rIn, rIe, rA, rIA, rLA, rJA, rVI, rQI, rVA, rQA, upd_at,  rAI, rLI, rJI, nI_add, pk_sub, kc_0, kc_1, kc_2, kc_3, kc_4, kc_5, reduceIte, Nat.reduceEqDiff, Nat.add_zero, rI_hold, rI_hold, rL_hold, he91, he911]; done)) ?_
  refine Bod.ic 1 (by decide) dc_388_27 ?_
  refine Bod.icT dc_388_28 rfl (k2_eq_T (k_eq e911 1 rfl rfl (by omega))) ?_
  refine Bod.go dc_388_37 rfl ?_
  refine Bod.ic 2 (by decide) dc_388_38 ?_
  refine Bod.icF dc_388_39 rfl (k2_ne_F (k_eq 2 2 rfl rfl (by omega))) ?_
  refine Bod.go dc_388_42 rfl ?_
  refine Bod.get dc_388_43 fr_388_499 (mk_61 _) rfl ?_
  refine Bod.go dc_388_46 rfl ?_
  refine Bod.laldN (ba + 1) rfl (by omega) (by omega) dc_388_47 (mk_92 _) ?_
  refine Bod.go dc_388_48 rfl ?_
  refine Bod.lst dc_388_52 (by rw [ml_388]; exact Nat.le_of_ble_eq_true rfl) ?_
  refine Bod.go dc_388_54 rfl ?_
  refine Bod.get dc_388_55 fr_388_499 (mk_61 _) rfl ?_
  refine Bod.go dc_388_58 rfl ?_
  refine Bod.go dc_388_59 rfl ?_
  refine Bod.addN (ba + 2) (by omega) dc_388_60 ?_
  refine Bod.laldN (ba + 2) rfl (by omega) (by omega) dc_388_61 (mk_92 _) ?_
  refine Bod.lst dc_388_62 (by rw [ml_388]; exact Nat.le_of_ble_eq_true rfl) ?_
  refine Bod.go dc_388_64 rfl ?_
  refine Bod.go dc_388_66 rfl ?_
  refine Bod.go dc_388_68 rfl ?_
  refine Bod.ifT dc_388_69 rfl w10 ?_
  refine Bod.go dc_388_80 rfl ?_
  refine Bod.lst dc_388_81 (by rw [ml_388]; exact Nat.le_of_ble_eq_true rfl) ?_
  refine Bod.go dc_388_83 rfl ?_
  refine Bod.ldc2 dc_388_85 cj_388_803 ?_
  refine Bod.stat (r := []) dc_388_88 kr_388_709 (Or.inl rfl) (by rw [np_389]; rfl) (by rw [np_389]; rfl) (by rw [np_389]; exact Nat.le_of_ble_eq_true rfl) (Nat.le_of_ble_eq_true rfl) (c1  ) ?_
  show Bod _ _ _ _ [_] _ _ _
  refine Bod.ifF dc_388_91 rfl w12 ?_
  refine Bod.go dc_388_94 rfl ?_
  refine Bod.bip 8 (by decide) dc_388_95 ?_
  refine Bod.virt (r := []) dc_388_97 kr_388_608 ⟨Or.inl rfl, ow_351, cl_14⟩ (by rw [np_351]; rfl) (by rw [np_351]; rfl) (ob_of (mk_61 _)) (Nat.le_of_ble_eq_true rfl) (c2  ) ?_
  show Bod _ _ _ _ [_] _ _ _
  exact Bod.retZ dc_388_100 rt_388 (Or.inl rfl)
theorem rRg2_5 {d : Nat} {S Sf : cS} {v : Option Value} {ba : Nat} {e91 : Nat} {e911 : Nat} {S1 : cS} {rb : Int32} {S2 : cS} {a : Nat} (mba : ba < 2 ^ 20) (b1 : ba + 1 < 20480) (he91 : sA S 91 (ba + 1) = nI e91) (me91 : e91 < 2 ^ 20) (b2 : e91 = 1) (b3 : ba + 2 < 20480) (he911 : sA S 91 (ba + 2) = nI e911) (me911 : e911 < 2 ^ 20) (b4 : e911 = 1) (w10 : sm_c1 .ge (lg_cmp (sL S 92 (ba + 1)) (sL S 92 (ba + 2))) true false = false) (c1 : Ans (d + 8) 389 [.long ((sL S 92 (ba + 2)) - (sL S 92 (ba + 1))), .long ((300))] S (some (.int rb)) S1) (w12 : sm_c1 .le rb true false = true) (ma : a < 1500) (c2 : Ans (d + 8) 364 [.ref 61, .int (nI 1)] S1 (some (.int (nI a))) S2) (hB : ∀ lv1 : sm_L, sm_get lv1 0 = some (.ref 61) → sm_get lv1 1 = some (.int (nI ba)) → sm_get lv1 6 = some (.long (sL S 92 (ba + 2))) → sm_get lv1 10 = some (.int (nI a)) → sm_get lv1 11 = some (.long (sL S 92 (ba + 1))) → Bod (d + 8) 388 119 lv1 [] (S2) v Sf) : Bod (d + 8) 388 0 [(0, .ref 61), (1, .int (nI ba)), (2, .int (nI 2))] [] S v Sf := by
  refine Bod.go dc_388_0 rfl ?_
  refine Bod.ic 1 (by decide) dc_388_1 ?_
  refine Bod.addN (ba + 1) (by omega) dc_388_2 ?_
  refine Bod.istn dc_388_3 (by rw [ml_388]; exact Nat.le_of_ble_eq_true rfl) ?_
  refine Bod.go dc_388_4 rfl ?_
  refine Bod.get dc_388_5 fr_388_496 (mk_61 _) rfl ?_
  refine Bod.go dc_388_8 rfl ?_
  refine Bod.ialdN (ba + 1) rfl (by omega) (by omega) dc_388_9 (mk_91 _) ?_
  refine Bod.eqI (nI e91) (by first | assumption | rfl | exact congrArg nI (by omega) | (simp (disch := omega) only [rIn, rIe, rA, rIA, rLA, rJA, rVI, rQI, rVA, rQA, upd_at,  rAI, rLI, rJI, nI_add, pk_sub, kc_0, kc_1, kc_2, kc_3, kc_4, kc_5, reduceIte, Nat.reduceEqDiff, Nat.add_zero, rI_hold, rI_hold, rL_hold, he91]; done)) ?_
  refine Bod.ic 1 (by decide) dc_388_10 ?_
  refine Bod.icF dc_388_11 rfl (k2_ne_F (k_eq e91 1 rfl rfl (by omega))) ?_
  refine Bod.go dc_388_14 rfl ?_
  refine Bod.ic 2 (by decide) dc_388_15 ?_
  refine Bod.icF dc_388_16 rfl (k2_ne_F (k_eq 2 2 rfl rfl (by omega))) ?_
  refine Bod.go dc_388_19 rfl ?_
  refine Bod.get dc_388_20 fr_388_496 (mk_61 _) rfl ?_
  refine Bod.go dc_388_23 rfl ?_
  refine Bod.ic 1 (by decide) dc_388_24 ?_
  refine Bod.addN (ba + 2) (by omega) dc_388_25 ?_
  refine Bod.ialdN (ba + 2) rfl (by omega) (by omega) dc_388_26 (mk_91 _) ?_
  refine Bod.eqI (nI e911) (by first | assumption | rfl | exact congrArg nI (by omega) | (simp (disch := omega) only [rIn, rIe, rA, rIA, rLA, rJA, rVI, rQI, rVA, rQA, upd_at,  rAI, rLI, rJI, nI_add, pk_sub, kc_0, kc_1, kc_2, kc_3, kc_4, kc_5, reduceIte, Nat.reduceEqDiff, Nat.add_zero, rI_hold, rI_hold, rL_hold, he91, he911]; done)) ?_
  refine Bod.ic 1 (by decide) dc_388_27 ?_
  refine Bod.icT dc_388_28 rfl (k2_eq_T (k_eq e911 1 rfl rfl (by omega))) ?_
  refine Bod.go dc_388_37 rfl ?_
  refine Bod.ic 2 (by decide) dc_388_38 ?_
  refine Bod.icF dc_388_39 rfl (k2_ne_F (k_eq 2 2 rfl rfl (by omega))) ?_
  refine Bod.go dc_388_42 rfl ?_
  refine Bod.get dc_388_43 fr_388_499 (mk_61 _) rfl ?_
  refine Bod.go dc_388_46 rfl ?_
  refine Bod.laldN (ba + 1) rfl (by omega) (by omega) dc_388_47 (mk_92 _) ?_
  refine Bod.go dc_388_48 rfl ?_
  refine Bod.lst dc_388_52 (by rw [ml_388]; exact Nat.le_of_ble_eq_true rfl) ?_
  refine Bod.go dc_388_54 rfl ?_
  refine Bod.get dc_388_55 fr_388_499 (mk_61 _) rfl ?_
  refine Bod.go dc_388_58 rfl ?_
  refine Bod.go dc_388_59 rfl ?_
  refine Bod.addN (ba + 2) (by omega) dc_388_60 ?_
  refine Bod.laldN (ba + 2) rfl (by omega) (by omega) dc_388_61 (mk_92 _) ?_
  refine Bod.lst dc_388_62 (by rw [ml_388]; exact Nat.le_of_ble_eq_true rfl) ?_
  refine Bod.go dc_388_64 rfl ?_
  refine Bod.go dc_388_66 rfl ?_
  refine Bod.go dc_388_68 rfl ?_
  refine Bod.ifF dc_388_69 rfl w10 ?_
  refine Bod.go dc_388_72 rfl ?_
  refine Bod.go dc_388_74 rfl ?_
  refine Bod.go dc_388_76 rfl ?_
  refine Bod.go dc_388_77 rfl ?_
  refine Bod.lst dc_388_81 (by rw [ml_388]; exact Nat.le_of_ble_eq_true rfl) ?_
  refine Bod.go dc_388_83 rfl ?_
  refine Bod.ldc2 dc_388_85 cj_388_803 ?_
  refine Bod.stat (r := []) dc_388_88 kr_388_709 (Or.inl rfl) (by rw [np_389]; rfl) (by rw [np_389]; rfl) (by rw [np_389]; exact Nat.le_of_ble_eq_true rfl) (Nat.le_of_ble_eq_true rfl) (c1  ) ?_
  show Bod _ _ _ _ [_] _ _ _
  refine Bod.ifT dc_388_91 rfl w12 ?_
  refine Bod.go dc_388_101 rfl ?_
  refine Bod.ic 1 (by decide) dc_388_102 ?_
  refine Bod.virt (r := []) dc_388_103 kr_388_686 ⟨Or.inl rfl, ow_364, cl_14⟩ (by rw [np_364]; rfl) (by rw [np_364]; rfl) (ob_of (mk_61 _)) (Nat.le_of_ble_eq_true rfl) (c2  ) ?_
  show Bod _ _ _ _ [_] _ _ _
  refine Bod.ist dc_388_106 (by rw [ml_388]; exact Nat.le_of_ble_eq_true rfl) ?_
  refine Bod.go dc_388_108 rfl ?_
  refine Bod.ifT dc_388_110 rfl (k1_ge_T a rfl (by omega)) ?_
  refine Bod.go dc_388_115 rfl ?_
  refine Bod.lst dc_388_117 (by rw [ml_388]; exact Nat.le_of_ble_eq_true rfl) ?_
  exact hB _ (by first | rfl | exact (by repeat (first | exact rfl | exact sm_get_p1 | exact sm_get_p2e | refine sm_get_p1m (by decide) (by decide) ?_ | refine sm_get_p1n (by decide) rfl ?_ | refine sm_get_p2n (by decide) (by decide) rfl ?_ | refine sm_get_p2m (by decide) (by decide) (by decide) ?_))) (by first | rfl | exact (by repeat (first | exact rfl | exact sm_get_p1 | exact sm_get_p2e | refine sm_get_p1m (by decide) (by decide) ?_ | refine sm_get_p1n (by decide) rfl ?_ | refine sm_get_p2n (by decide) (by decide) rfl ?_ | refine sm_get_p2m (by decide) (by decide) (by decide) ?_))) (by first | rfl | exact (by repeat (first | exact rfl | exact sm_get_p1 | exact sm_get_p2e | refine sm_get_p1m (by decide) (by decide) ?_ | refine sm_get_p1n (by decide) rfl ?_ | refine sm_get_p2n (by decide) (by decide) rfl ?_ | refine sm_get_p2m (by decide) (by decide) (by decide) ?_))) (by first | rfl | exact (by repeat (first | exact rfl | exact sm_get_p1 | exact sm_get_p2e | refine sm_get_p1m (by decide) (by decide) ?_ | refine sm_get_p1n (by decide) rfl ?_ | refine sm_get_p2n (by decide) (by decide) rfl ?_ | refine sm_get_p2m (by decide) (by decide) (by decide) ?_))) (by first | rfl | exact (by repeat (first | exact rfl | exact sm_get_p1 | exact sm_get_p2e | refine sm_get_p1m (by decide) (by decide) ?_ | refine sm_get_p1n (by decide) rfl ?_ | refine sm_get_p2n (by decide) (by decide) rfl ?_ | refine sm_get_p2m (by decide) (by decide) (by decide) ?_)))
theorem rRg2_6 {d : Nat} {S : cS} {ba : Nat} {e91 : Nat} {e911 : Nat} {S1 : cS} {rb : Int32} {S2 : cS} (mba : ba < 2 ^ 20) (b1 : ba + 1 < 20480) (he91 : sA S 91 (ba + 1) = nI e91) (me91 : e91 < 2 ^ 20) (b2 : e91 = 1) (b3 : ba + 2 < 20480) (he911 : sA S 91 (ba + 2) = nI e911) (me911 : e911 < 2 ^ 20) (b4 : e911 = 1) (w10 : sm_c1 .ge (lg_cmp (sL S 92 (ba + 1)) (sL S 92 (ba + 2))) true false = false) (c1 : Ans (d + 8) 389 [.long ((sL S 92 (ba + 2)) - (sL S 92 (ba + 1))), .long ((300))] S (some (.int rb)) S1) (w12 : sm_c1 .le rb true false = true) (c2 : Ans (d + 8) 364 [.ref 61, .int (nI 1)] S1 (some (.int (Int32.ofInt (-1)))) S2) : Bod (d + 8) 388 0 [(0, .ref 61), (1, .int (nI ba)), (2, .int (nI 2))] [] S (some (.int 0)) (S2) := by
  refine Bod.go dc_388_0 rfl ?_
  refine Bod.ic 1 (by decide) dc_388_1 ?_
  refine Bod.addN (ba + 1) (by omega) dc_388_2 ?_
  refine Bod.istn dc_388_3 (by rw [ml_388]; exact Nat.le_of_ble_eq_true rfl) ?_
  refine Bod.go dc_388_4 rfl ?_
  refine Bod.get dc_388_5 fr_388_496 (mk_61 _) rfl ?_
  refine Bod.go dc_388_8 rfl ?_
  refine Bod.ialdN (ba + 1) rfl (by omega) (by omega) dc_388_9 (mk_91 _) ?_
  refine Bod.eqI (nI e91) (by first | assumption | rfl | exact congrArg nI (by omega) | (simp (disch := omega) only [rIn, rIe, rA, rIA, rLA, rJA, rVI, rQI, rVA, rQA, upd_at,  rAI, rLI, rJI, nI_add, pk_sub, kc_0, kc_1, kc_2, kc_3, kc_4, kc_5, reduceIte, Nat.reduceEqDiff, Nat.add_zero, rI_hold, rI_hold, rL_hold, he91]; done)) ?_
  refine Bod.ic 1 (by decide) dc_388_10 ?_
  refine Bod.icF dc_388_11 rfl (k2_ne_F (k_eq e91 1 rfl rfl (by omega))) ?_
  refine Bod.go dc_388_14 rfl ?_
  refine Bod.ic 2 (by decide) dc_388_15 ?_
  refine Bod.icF dc_388_16 rfl (k2_ne_F (k_eq 2 2 rfl rfl (by omega))) ?_
  refine Bod.go dc_388_19 rfl ?_
  refine Bod.get dc_388_20 fr_388_496 (mk_61 _) rfl ?_
  refine Bod.go dc_388_23 rfl ?_
  refine Bod.ic 1 (by decide) dc_388_24 ?_
  refine Bod.addN (ba + 2) (by omega) dc_388_25 ?_
  refine Bod.ialdN (ba + 2) rfl (by omega) (by omega) dc_388_26 (mk_91 _) ?_
  refine Bod.eqI (nI e911) (by first | assumption | rfl | exact congrArg nI (by omega) | (simp (disch := omega) only [rIn, rIe, rA, rIA, rLA, rJA, rVI, rQI, rVA, rQA, upd_at,  rAI, rLI, rJI, nI_add, pk_sub, kc_0, kc_1, kc_2, kc_3, kc_4, kc_5, reduceIte, Nat.reduceEqDiff, Nat.add_zero, rI_hold, rI_hold, rL_hold, he91, he911]; done)) ?_
  refine Bod.ic 1 (by decide) dc_388_27 ?_
  refine Bod.icT dc_388_28 rfl (k2_eq_T (k_eq e911 1 rfl rfl (by omega))) ?_
  refine Bod.go dc_388_37 rfl ?_
  refine Bod.ic 2 (by decide) dc_388_38 ?_
  refine Bod.icF dc_388_39 rfl (k2_ne_F (k_eq 2 2 rfl rfl (by omega))) ?_
  refine Bod.go dc_388_42 rfl ?_
  refine Bod.get dc_388_43 fr_388_499 (mk_61 _) rfl ?_
  refine Bod.go dc_388_46 rfl ?_
  refine Bod.laldN (ba + 1) rfl (by omega) (by omega) dc_388_47 (mk_92 _) ?_
  refine Bod.go dc_388_48 rfl ?_
  refine Bod.lst dc_388_52 (by rw [ml_388]; exact Nat.le_of_ble_eq_true rfl) ?_
  refine Bod.go dc_388_54 rfl ?_
  refine Bod.get dc_388_55 fr_388_499 (mk_61 _) rfl ?_
  refine Bod.go dc_388_58 rfl ?_
  refine Bod.go dc_388_59 rfl ?_
  refine Bod.addN (ba + 2) (by omega) dc_388_60 ?_
  refine Bod.laldN (ba + 2) rfl (by omega) (by omega) dc_388_61 (mk_92 _) ?_
  refine Bod.lst dc_388_62 (by rw [ml_388]; exact Nat.le_of_ble_eq_true rfl) ?_
  refine Bod.go dc_388_64 rfl ?_
  refine Bod.go dc_388_66 rfl ?_
  refine Bod.go dc_388_68 rfl ?_
  refine Bod.ifF dc_388_69 rfl w10 ?_
  refine Bod.go dc_388_72 rfl ?_
  refine Bod.go dc_388_74 rfl ?_
  refine Bod.go dc_388_76 rfl ?_
  refine Bod.go dc_388_77 rfl ?_
  refine Bod.lst dc_388_81 (by rw [ml_388]; exact Nat.le_of_ble_eq_true rfl) ?_
  refine Bod.go dc_388_83 rfl ?_
  refine Bod.ldc2 dc_388_85 cj_388_803 ?_
  refine Bod.stat (r := []) dc_388_88 kr_388_709 (Or.inl rfl) (by rw [np_389]; rfl) (by rw [np_389]; rfl) (by rw [np_389]; exact Nat.le_of_ble_eq_true rfl) (Nat.le_of_ble_eq_true rfl) (c1  ) ?_
  show Bod _ _ _ _ [_] _ _ _
  refine Bod.ifT dc_388_91 rfl w12 ?_
  refine Bod.go dc_388_101 rfl ?_
  refine Bod.ic 1 (by decide) dc_388_102 ?_
  refine Bod.virt (r := []) dc_388_103 kr_388_686 ⟨Or.inl rfl, ow_364, cl_14⟩ (by rw [np_364]; rfl) (by rw [np_364]; rfl) (ob_of (mk_61 _)) (Nat.le_of_ble_eq_true rfl) (c2  ) ?_
  show Bod _ _ _ _ [_] _ _ _
  refine Bod.ist dc_388_106 (by rw [ml_388]; exact Nat.le_of_ble_eq_true rfl) ?_
  refine Bod.go dc_388_108 rfl ?_
  refine Bod.ifF dc_388_110 rfl (by decide) ?_
  refine Bod.ic 0 (by decide) dc_388_113 ?_
  exact Bod.retZ dc_388_114 rt_388 (Or.inl rfl)
theorem rRg2_7 {d : Nat} {S : cS} {ba : Nat} {e91 : Nat} {e911 : Nat} {S1 : cS} {rb : Int32} {S2 : cS} (mba : ba < 2 ^ 20) (b1 : ba + 1 < 20480) (he91 : sA S 91 (ba + 1) = nI e91) (me91 : e91 < 2 ^ 20) (b2 : e91 = 1) (b3 : ba + 2 < 20480) (he911 : sA S 91 (ba + 2) = nI e911) (me911 : e911 < 2 ^ 20) (b4 : e911 = 1) (w10 : sm_c1 .ge (lg_cmp (sL S 92 (ba + 1)) (sL S 92 (ba + 2))) true false = false) (c1 : Ans (d + 8) 389 [.long ((sL S 92 (ba + 2)) - (sL S 92 (ba + 1))), .long ((300))] S (some (.int rb)) S1) (w12 : sm_c1 .le rb true false = false) (c2 : Ans (d + 8) 351 [.ref 61, .int (nI 8)] S1 (some (.int (nI 0))) S2) : Bod (d + 8) 388 0 [(0, .ref 61), (1, .int (nI ba)), (2, .int (nI 2))] [] S (some (.int 0)) (S2) := by
  refine Bod.go dc_388_0 rfl ?_
  refine Bod.ic 1 (by decide) dc_388_1 ?_
  refine Bod.addN (ba + 1) (by omega) dc_388_2 ?_
  refine Bod.istn dc_388_3 (by rw [ml_388]; exact Nat.le_of_ble_eq_true rfl) ?_
  refine Bod.go dc_388_4 rfl ?_
  refine Bod.get dc_388_5 fr_388_496 (mk_61 _) rfl ?_
  refine Bod.go dc_388_8 rfl ?_
  refine Bod.ialdN (ba + 1) rfl (by omega) (by omega) dc_388_9 (mk_91 _) ?_
  refine Bod.eqI (nI e91) (by first | assumption | rfl | exact congrArg nI (by omega) | (simp (disch := omega) only [rIn, rIe, rA, rIA, rLA, rJA, rVI, rQI, rVA, rQA, upd_at,  rAI, rLI, rJI, nI_add, pk_sub, kc_0, kc_1, kc_2, kc_3, kc_4, kc_5, reduceIte, Nat.reduceEqDiff, Nat.add_zero, rI_hold, rI_hold, rL_hold, he91]; done)) ?_
  refine Bod.ic 1 (by decide) dc_388_10 ?_
  refine Bod.icF dc_388_11 rfl (k2_ne_F (k_eq e91 1 rfl rfl (by omega))) ?_
  refine Bod.go dc_388_14 rfl ?_
  refine Bod.ic 2 (by decide) dc_388_15 ?_
  refine Bod.icF dc_388_16 rfl (k2_ne_F (k_eq 2 2 rfl rfl (by omega))) ?_
  refine Bod.go dc_388_19 rfl ?_
  refine Bod.get dc_388_20 fr_388_496 (mk_61 _) rfl ?_
  refine Bod.go dc_388_23 rfl ?_
  refine Bod.ic 1 (by decide) dc_388_24 ?_
  refine Bod.addN (ba + 2) (by omega) dc_388_25 ?_
  refine Bod.ialdN (ba + 2) rfl (by omega) (by omega) dc_388_26 (mk_91 _) ?_
  refine Bod.eqI (nI e911) (by first | assumption | rfl | exact congrArg nI (by omega) | (simp (disch := omega) only [rIn, rIe, rA, rIA, rLA, rJA, rVI, rQI, rVA, rQA, upd_at,  rAI, rLI, rJI, nI_add, pk_sub, kc_0, kc_1, kc_2, kc_3, kc_4, kc_5, reduceIte, Nat.reduceEqDiff, Nat.add_zero, rI_hold, rI_hold, rL_hold, he91, he911]; done)) ?_
  refine Bod.ic 1 (by decide) dc_388_27 ?_
  refine Bod.icT dc_388_28 rfl (k2_eq_T (k_eq e911 1 rfl rfl (by omega))) ?_
  refine Bod.go dc_388_37 rfl ?_
  refine Bod.ic 2 (by decide) dc_388_38 ?_
  refine Bod.icF dc_388_39 rfl (k2_ne_F (k_eq 2 2 rfl rfl (by omega))) ?_
  refine Bod.go dc_388_42 rfl ?_
  refine Bod.get dc_388_43 fr_388_499 (mk_61 _) rfl ?_
  refine Bod.go dc_388_46 rfl ?_
  refine Bod.laldN (ba + 1) rfl (by omega) (by omega) dc_388_47 (mk_92 _) ?_
  refine Bod.go dc_388_48 rfl ?_
  refine Bod.lst dc_388_52 (by rw [ml_388]; exact Nat.le_of_ble_eq_true rfl) ?_
  refine Bod.go dc_388_54 rfl ?_
  refine Bod.get dc_388_55 fr_388_499 (mk_61 _) rfl ?_
  refine Bod.go dc_388_58 rfl ?_
  refine Bod.go dc_388_59 rfl ?_
  refine Bod.addN (ba + 2) (by omega) dc_388_60 ?_
  refine Bod.laldN (ba + 2) rfl (by omega) (by omega) dc_388_61 (mk_92 _) ?_
  refine Bod.lst dc_388_62 (by rw [ml_388]; exact Nat.le_of_ble_eq_true rfl) ?_
  refine Bod.go dc_388_64 rfl ?_
  refine Bod.go dc_388_66 rfl ?_
  refine Bod.go dc_388_68 rfl ?_
  refine Bod.ifF dc_388_69 rfl w10 ?_
  refine Bod.go dc_388_72 rfl ?_
  refine Bod.go dc_388_74 rfl ?_
  refine Bod.go dc_388_76 rfl ?_
  refine Bod.go dc_388_77 rfl ?_
  refine Bod.lst dc_388_81 (by rw [ml_388]; exact Nat.le_of_ble_eq_true rfl) ?_
  refine Bod.go dc_388_83 rfl ?_
  refine Bod.ldc2 dc_388_85 cj_388_803 ?_
  refine Bod.stat (r := []) dc_388_88 kr_388_709 (Or.inl rfl) (by rw [np_389]; rfl) (by rw [np_389]; rfl) (by rw [np_389]; exact Nat.le_of_ble_eq_true rfl) (Nat.le_of_ble_eq_true rfl) (c1  ) ?_
  show Bod _ _ _ _ [_] _ _ _
  refine Bod.ifF dc_388_91 rfl w12 ?_
  refine Bod.go dc_388_94 rfl ?_
  refine Bod.bip 8 (by decide) dc_388_95 ?_
  refine Bod.virt (r := []) dc_388_97 kr_388_608 ⟨Or.inl rfl, ow_351, cl_14⟩ (by rw [np_351]; rfl) (by rw [np_351]; rfl) (ob_of (mk_61 _)) (Nat.le_of_ble_eq_true rfl) (c2  ) ?_
  show Bod _ _ _ _ [_] _ _ _
  exact Bod.retZ dc_388_100 rt_388 (Or.inl rfl)
theorem rRg2_8 {d : Nat} {S : cS} {ba : Nat} {e91 : Nat} {e911 : Nat} {S1 : cS} (mba : ba < 2 ^ 20) (b1 : ba + 1 < 20480) (he91 : sA S 91 (ba + 1) = nI e91) (me91 : e91 < 2 ^ 20) (b2 : e91 = 1) (b3 : ba + 2 < 20480) (he911 : sA S 91 (ba + 2) = nI e911) (me911 : e911 < 2 ^ 20) (b4 : e911 ≠ 1) (c1 : Ans (d + 8) 351 [.ref 61, .int (nI 2)] S (some (.int (nI 0))) S1) : Bod (d + 8) 388 0 [(0, .ref 61), (1, .int (nI ba)), (2, .int (nI 2))] [] S (some (.int 0)) (S1) := by
  refine Bod.go dc_388_0 rfl ?_
  refine Bod.ic 1 (by decide) dc_388_1 ?_
  refine Bod.addN (ba + 1) (by omega) dc_388_2 ?_
  refine Bod.istn dc_388_3 (by rw [ml_388]; exact Nat.le_of_ble_eq_true rfl) ?_
  refine Bod.go dc_388_4 rfl ?_
  refine Bod.get dc_388_5 fr_388_496 (mk_61 _) rfl ?_
  refine Bod.go dc_388_8 rfl ?_
  refine Bod.ialdN (ba + 1) rfl (by omega) (by omega) dc_388_9 (mk_91 _) ?_
  refine Bod.eqI (nI e91) (by first | assumption | rfl | exact congrArg nI (by omega) | (simp (disch := omega) only [rIn, rIe, rA, rIA, rLA, rJA, rVI, rQI, rVA, rQA, upd_at,  rAI, rLI, rJI, nI_add, pk_sub, kc_0, kc_1, kc_2, kc_3, kc_4, kc_5, reduceIte, Nat.reduceEqDiff, Nat.add_zero, rI_hold, rI_hold, rL_hold, he91]; done)) ?_
  refine Bod.ic 1 (by decide) dc_388_10 ?_
  refine Bod.icF dc_388_11 rfl (k2_ne_F (k_eq e91 1 rfl rfl (by omega))) ?_
  refine Bod.go dc_388_14 rfl ?_
  refine Bod.ic 2 (by decide) dc_388_15 ?_
  refine Bod.icF dc_388_16 rfl (k2_ne_F (k_eq 2 2 rfl rfl (by omega))) ?_
  refine Bod.go dc_388_19 rfl ?_
  refine Bod.get dc_388_20 fr_388_496 (mk_61 _) rfl ?_
  refine Bod.go dc_388_23 rfl ?_
  refine Bod.ic 1 (by decide) dc_388_24 ?_
  refine Bod.addN (ba + 2) (by omega) dc_388_25 ?_
  refine Bod.ialdN (ba + 2) rfl (by omega) (by omega) dc_388_26 (mk_91 _) ?_
  refine Bod.eqI (nI e911) (by first | assumption | rfl | exact congrArg nI (by omega) | (simp (disch := omega) only [rIn, rIe, rA, rIA, rLA, rJA, rVI, rQI, rVA, rQA, upd_at,  rAI, rLI, rJI, nI_add, pk_sub, kc_0, kc_1, kc_2, kc_3, kc_4, kc_5, reduceIte, Nat.reduceEqDiff, Nat.add_zero, rI_hold, rI_hold, rL_hold, he91, he911]; done)) ?_
  refine Bod.ic 1 (by decide) dc_388_27 ?_
  refine Bod.icF dc_388_28 rfl (k2_eq_F (k_ne e911 1 rfl rfl (by omega) (by omega) (by omega))) ?_
  refine Bod.go dc_388_31 rfl ?_
  refine Bod.ic 2 (by decide) dc_388_32 ?_
  refine Bod.virt (r := []) dc_388_33 kr_388_608 ⟨Or.inl rfl, ow_351, cl_14⟩ (by rw [np_351]; rfl) (by rw [np_351]; rfl) (ob_of (mk_61 _)) (Nat.le_of_ble_eq_true rfl) (c1  ) ?_
  show Bod _ _ _ _ [_] _ _ _
  exact Bod.retZ dc_388_36 rt_388 (Or.inl rfl)
theorem rRgL_1 {d : Nat} {S : cS} {lv : sm_L} {ba : Nat} {xb : Int64} {l : Nat} {xk : Int64} {S1 : cS} (q0 : sm_get lv 0 = some (.ref 61)) (q1 : sm_get lv 1 = some (.int (nI ba))) (q6 : sm_get lv 6 = some (.long xb)) (q10 : sm_get lv 10 = some (.int (nI l))) (q11 : sm_get lv 11 = some (.long xk)) (mba : ba < 2 ^ 20) (ml : l < 2 ^ 20) (w3 : sm_c1 .ge (lg_cmp xk xb) true false = true) (c1 : Ans (d + 8) 352 [.ref 61, .int (nI 3), .long ((nI l).toInt64), .long 0] (wI 6151 (nI ba) S) none S1) : Bod (d + 8) 388 119 lv [] S (some (.int 1)) (S1) := by
  refine Bod.lldG dc_388_119 (by repeat (first | exact q11 | exact sm_get_p1 | exact sm_get_p2e | refine sm_get_p1m (by decide) (by decide) ?_ | refine sm_get_p1n (by decide) rfl ?_ | refine sm_get_p2n (by decide) (by decide) rfl ?_ | refine sm_get_p2m (by decide) (by decide) (by decide) ?_)) ?_
  refine Bod.lldG dc_388_121 (by repeat (first | exact q6 | exact sm_get_p1 | exact sm_get_p2e | refine sm_get_p1m (by decide) (by decide) ?_ | refine sm_get_p1n (by decide) rfl ?_ | refine sm_get_p2n (by decide) (by decide) rfl ?_ | refine sm_get_p2m (by decide) (by decide) (by decide) ?_)) ?_
  refine Bod.go dc_388_123 rfl ?_
  refine Bod.ifT dc_388_124 rfl w3 ?_
  refine Bod.aldnG dc_388_150 (by repeat (first | exact q0 | exact sm_get_p1 | exact sm_get_p2e | refine sm_get_p1m (by decide) (by decide) ?_ | refine sm_get_p1n (by decide) rfl ?_ | refine sm_get_p2n (by decide) (by decide) rfl ?_ | refine sm_get_p2m (by decide) (by decide) (by decide) ?_)) ?_
  refine Bod.ildnG dc_388_151 (by repeat (first | exact q1 | exact sm_get_p1 | exact sm_get_p2e | refine sm_get_p1m (by decide) (by decide) ?_ | refine sm_get_p1n (by decide) rfl ?_ | refine sm_get_p2n (by decide) (by decide) rfl ?_ | refine sm_get_p2m (by decide) (by decide) (by decide) ?_)) ?_
  refine Bod.put dc_388_152 fr_388_493 (mk_61 _) (Nat.le_of_ble_eq_true rfl) pf_14_51 (st_6151 _ _) (mu_I _ _ _) ?_
  refine Bod.aldnG dc_388_155 (by repeat (first | exact q0 | exact sm_get_p1 | exact sm_get_p2e | refine sm_get_p1m (by decide) (by decide) ?_ | refine sm_get_p1n (by decide) rfl ?_ | refine sm_get_p2n (by decide) (by decide) rfl ?_ | refine sm_get_p2m (by decide) (by decide) (by decide) ?_)) ?_
  refine Bod.ic 3 (by decide) dc_388_156 ?_
  refine Bod.ildG dc_388_157 (by repeat (first | exact q10 | exact sm_get_p1 | exact sm_get_p2e | refine sm_get_p1m (by decide) (by decide) ?_ | refine sm_get_p1n (by decide) rfl ?_ | refine sm_get_p2n (by decide) (by decide) rfl ?_ | refine sm_get_p2m (by decide) (by decide) (by decide) ?_)) ?_
  refine Bod.go dc_388_159 rfl ?_
  refine Bod.go dc_388_160 rfl ?_
  refine Bod.virt (r := []) dc_388_161 kr_388_549 ⟨Or.inl rfl, ow_352, cl_14⟩ (by rw [np_352]; rfl) (by rw [np_352]; rfl) (ob_of (mk_61 _)) (Nat.le_of_ble_eq_true rfl) (c1  ) ?_
  show Bod _ _ _ _ [] _ _ _
  refine Bod.ic 1 (by decide) dc_388_164 ?_
  exact Bod.retZ dc_388_165 rt_388 (Or.inr rfl)
theorem rRgL_2 {d : Nat} {S Sf : cS} {v : Option Value} {lv : sm_L} {ba : Nat} {xb : Int64} {l : Nat} {xk : Int64} {g : Nat} {zg : Nat} {S1 : cS} (q0 : sm_get lv 0 = some (.ref 61)) (q1 : sm_get lv 1 = some (.int (nI ba))) (q6 : sm_get lv 6 = some (.long xb)) (q10 : sm_get lv 10 = some (.int (nI l))) (q11 : sm_get lv 11 = some (.long xk)) (mba : ba < 2 ^ 20) (ml : l < 2 ^ 20) (w3 : sm_c1 .ge (lg_cmp xk xb) true false = false) (b1 : l < 1500) (ag : 108 ≤ g) (hq2 : sQ S 86 l = some g) (c1 : Ans (d + 8) 375 [.ref g, .int (nI 1), .long xk, .long 0] S none S1) (hz1 : (sS S)[g - 108]? = some (13, zg)) (hB : ∀ lv1 : sm_L, sm_get lv1 0 = some (.ref 61) → sm_get lv1 1 = some (.int (nI ba)) → sm_get lv1 6 = some (.long xb) → sm_get lv1 10 = some (.int (nI l)) → sm_get lv1 11 = some (.long (xk + 1)) → Bod (d + 8) 388 119 lv1 [] (S1) v Sf) : Bod (d + 8) 388 119 lv [] S v Sf := by
  refine Bod.lldG dc_388_119 (by repeat (first | exact q11 | exact sm_get_p1 | exact sm_get_p2e | refine sm_get_p1m (by decide) (by decide) ?_ | refine sm_get_p1n (by decide) rfl ?_ | refine sm_get_p2n (by decide) (by decide) rfl ?_ | refine sm_get_p2m (by decide) (by decide) (by decide) ?_)) ?_
  refine Bod.lldG dc_388_121 (by repeat (first | exact q6 | exact sm_get_p1 | exact sm_get_p2e | refine sm_get_p1m (by decide) (by decide) ?_ | refine sm_get_p1n (by decide) rfl ?_ | refine sm_get_p2n (by decide) (by decide) rfl ?_ | refine sm_get_p2m (by decide) (by decide) (by decide) ?_)) ?_
  refine Bod.go dc_388_123 rfl ?_
  refine Bod.ifF dc_388_124 rfl w3 ?_
  refine Bod.aldnG dc_388_127 (by repeat (first | exact q0 | exact sm_get_p1 | exact sm_get_p2e | refine sm_get_p1m (by decide) (by decide) ?_ | refine sm_get_p1n (by decide) rfl ?_ | refine sm_get_p2n (by decide) (by decide) rfl ?_ | refine sm_get_p2m (by decide) (by decide) (by decide) ?_)) ?_
  refine Bod.get dc_388_128 fr_388_485 (mk_61 _) rfl ?_
  refine Bod.ildG dc_388_131 (by repeat (first | exact q10 | exact sm_get_p1 | exact sm_get_p2e | refine sm_get_p1m (by decide) (by decide) ?_ | refine sm_get_p1n (by decide) rfl ?_ | refine sm_get_p2n (by decide) (by decide) rfl ?_ | refine sm_get_p2m (by decide) (by decide) (by decide) ?_)) ?_
  refine Bod.aaldR (N := 1500) (b := g) l rfl (by omega) (by omega) (by first | exact hq2 | (simp only [rIQ, rJQ, rAQ, rLQ, rVQ, rQ_holdE]; exact hq2)) dc_388_133 (mk_86 _) ht_5 ?_
  refine Bod.ic 1 (by decide) dc_388_134 ?_
  refine Bod.lldG dc_388_135 (by repeat (first | exact q11 | exact sm_get_p1 | exact sm_get_p2e | refine sm_get_p1m (by decide) (by decide) ?_ | refine sm_get_p1n (by decide) rfl ?_ | refine sm_get_p2n (by decide) (by decide) rfl ?_ | refine sm_get_p2m (by decide) (by decide) (by decide) ?_)) ?_
  refine Bod.go dc_388_137 rfl ?_
  refine Bod.virt (r := []) dc_388_138 kr_388_759 ⟨Or.inl rfl, ow_375, cl_13⟩ (by rw [np_375]; rfl) (by rw [np_375]; rfl) (ob_of (mk_thing ag (by first | exact hz1 | (simp only [rIS, rJS, rAS, rLS, rVS, rQS, rS_hold]; exact hz1)))) (Nat.le_of_ble_eq_true rfl) (c1  ) ?_
  show Bod _ _ _ _ [] _ _ _
  refine Bod.lldG dc_388_141 (by repeat (first | exact q11 | exact sm_get_p1 | exact sm_get_p2e | refine sm_get_p1m (by decide) (by decide) ?_ | refine sm_get_p1n (by decide) rfl ?_ | refine sm_get_p2n (by decide) (by decide) rfl ?_ | refine sm_get_p2m (by decide) (by decide) (by decide) ?_)) ?_
  refine Bod.go dc_388_143 rfl ?_
  refine Bod.go dc_388_144 rfl ?_
  refine Bod.lst dc_388_145 (by rw [ml_388]; exact Nat.le_of_ble_eq_true rfl) ?_
  refine Bod.go dc_388_147 rfl ?_
  exact hB _ (by repeat (first | exact q0 | exact sm_get_p1 | exact sm_get_p2e | refine sm_get_p1m (by decide) (by decide) ?_ | refine sm_get_p1n (by decide) rfl ?_ | refine sm_get_p2n (by decide) (by decide) rfl ?_ | refine sm_get_p2m (by decide) (by decide) (by decide) ?_)) (by repeat (first | exact q1 | exact sm_get_p1 | exact sm_get_p2e | refine sm_get_p1m (by decide) (by decide) ?_ | refine sm_get_p1n (by decide) rfl ?_ | refine sm_get_p2n (by decide) (by decide) rfl ?_ | refine sm_get_p2m (by decide) (by decide) (by decide) ?_)) (by repeat (first | exact q6 | exact sm_get_p1 | exact sm_get_p2e | refine sm_get_p1m (by decide) (by decide) ?_ | refine sm_get_p1n (by decide) rfl ?_ | refine sm_get_p2n (by decide) (by decide) rfl ?_ | refine sm_get_p2m (by decide) (by decide) (by decide) ?_)) (by repeat (first | exact q10 | exact sm_get_p1 | exact sm_get_p2e | refine sm_get_p1m (by decide) (by decide) ?_ | refine sm_get_p1n (by decide) rfl ?_ | refine sm_get_p2n (by decide) (by decide) rfl ?_ | refine sm_get_p2m (by decide) (by decide) (by decide) ?_)) (by repeat (first | exact q0 | exact sm_get_p1 | exact sm_get_p2e | refine sm_get_p1m (by decide) (by decide) ?_ | refine sm_get_p1n (by decide) rfl ?_ | refine sm_get_p2n (by decide) (by decide) rfl ?_ | refine sm_get_p2m (by decide) (by decide) (by decide) ?_))
theorem rTx_1 {d : Nat} {S : cS} {ba : Nat} {e91 : Nat} {S1 : cS} {a : Nat} {S2 : cS} {u : Int64} {S3 : cS} {u1 : Int64} {S4 : cS} (mba : ba < 2 ^ 20) (b1 : ba + 1 < 20480) (he91 : sA S 91 (ba + 1) = nI e91) (me91 : e91 < 2 ^ 20) (b2 : e91 = 1) (ma : a < 2 ^ 20) (c1 : Ans (d + 8) 385 [.ref 61, .long (sL S 92 (ba + 1))] S (some (.int (nI a))) S1) (b3 : a ≤ 15) (b4 : ba + 1 < 20480) (c2 : Ans (d + 8) 297 [.ref 104, .int (nI 0), .int (nI a), .int (nI 0)] (wA 91 (ba + 1) (nI 2) S1) (some (.long u)) S2) (b5 : ba + 1 < 20480) (c3 : Ans (d + 8) 297 [.ref 104, .int (nI 0), .int (nI a), .int (nI 1)] (wL 92 (ba + 1) u S2) (some (.long u1)) S3) (b6 : ba + 1 < 20480) (c4 : Ans (d + 8) 391 [.ref 61, .int (nI (ba + 1)), .int (nI ba)] (wL 93 (ba + 1) u1 S3) none S4) : Bod (d + 8) 390 0 [(0, .ref 61), (1, .int (nI ba))] [] S (some (.int 1)) (wI 6151 (nI (ba + 1)) S4) := by
  refine Bod.go dc_390_0 rfl ?_
  refine Bod.ic 1 (by decide) dc_390_1 ?_
  refine Bod.addN (ba + 1) (by omega) dc_390_2 ?_
  refine Bod.istn dc_390_3 (by rw [ml_390]; exact Nat.le_of_ble_eq_true rfl) ?_
  refine Bod.go dc_390_4 rfl ?_
  refine Bod.get dc_390_5 fr_390_496 (mk_61 _) rfl ?_
  refine Bod.go dc_390_8 rfl ?_
  refine Bod.ialdN (ba + 1) rfl (by omega) (by omega) dc_390_9 (mk_91 _) ?_
  refine Bod.eqI (nI e91) (by first | assumption | rfl | exact congrArg nI (by omega) | (simp (disch := omega) only [rIn, rIe, rA, rIA, rLA, rJA, rVI, rQI, rVA, rQA, upd_at,  rAI, rLI, rJI, nI_add, pk_sub, kc_0, kc_1, kc_2, kc_3, kc_4, kc_5, reduceIte, Nat.reduceEqDiff, Nat.add_zero, rI_hold, rI_hold, rL_hold, he91]; done)) ?_
  refine Bod.ic 1 (by decide) dc_390_10 ?_
  refine Bod.icT dc_390_11 rfl (k2_eq_T (k_eq e91 1 rfl rfl (by omega))) ?_
  refine Bod.go dc_390_30 rfl ?_
  refine Bod.get dc_390_31 fr_390_496 (mk_61 _) rfl ?_
  refine Bod.go dc_390_34 rfl ?_
  refine Bod.ialdN (ba + 1) rfl (by omega) (by omega) dc_390_35 (mk_91 _) ?_
  refine Bod.eqI (nI e91) (by first | assumption | rfl | exact congrArg nI (by omega) | (simp (disch := omega) only [rIn, rIe, rA, rIA, rLA, rJA, rVI, rQI, rVA, rQA, upd_at,  rAI, rLI, rJI, nI_add, pk_sub, kc_0, kc_1, kc_2, kc_3, kc_4, kc_5, reduceIte, Nat.reduceEqDiff, Nat.add_zero, rI_hold, rI_hold, rL_hold, he91]; done)) ?_
  refine Bod.ic 1 (by decide) dc_390_36 ?_
  refine Bod.icF dc_390_37 rfl (k2_ne_F (k_eq e91 1 rfl rfl (by omega))) ?_
  refine Bod.go dc_390_40 rfl ?_
  refine Bod.go dc_390_41 rfl ?_
  refine Bod.get dc_390_42 fr_390_499 (mk_61 _) rfl ?_
  refine Bod.go dc_390_45 rfl ?_
  refine Bod.laldN (ba + 1) rfl (by omega) (by omega) dc_390_46 (mk_92 _) ?_
  refine Bod.virt (r := []) dc_390_47 kr_390_805 ⟨Or.inl rfl, ow_385, cl_14⟩ (by rw [np_385]; rfl) (by rw [np_385]; rfl) (ob_of (mk_61 _)) (Nat.le_of_ble_eq_true rfl) (c1  ) ?_
  show Bod _ _ _ _ [_] _ _ _
  refine Bod.istn dc_390_50 (by rw [ml_390]; exact Nat.le_of_ble_eq_true rfl) ?_
  refine Bod.go dc_390_51 rfl ?_
  refine Bod.bip 15 (by decide) dc_390_52 ?_
  refine Bod.icT dc_390_54 rfl (k2_le_T a 15 rfl rfl (by omega) (by omega)) ?_
  refine Bod.go dc_390_64 rfl ?_
  refine Bod.get dc_390_65 fr_390_496 (mk_61 _) rfl ?_
  refine Bod.go dc_390_68 rfl ?_
  refine Bod.ic 2 (by decide) dc_390_69 ?_
  refine Bod.iastN (ba + 1) rfl (by omega) (by omega) dc_390_70 (mk_91 _) (sa_91 _ _ _) (mu_A _ _ _ _) ?_
  refine Bod.go dc_390_71 rfl ?_
  refine Bod.get dc_390_72 fr_390_499 (mk_61 _) rfl ?_
  refine Bod.go dc_390_75 rfl ?_
  refine Bod.go dc_390_76 rfl ?_
  refine Bod.get dc_390_77 fr_390_752 (mk_61 _) rfl ?_
  refine Bod.ic 0 (by decide) dc_390_80 ?_
  refine Bod.go dc_390_81 rfl ?_
  refine Bod.ic 0 (by decide) dc_390_82 ?_
  refine Bod.stat (r := [_, _]) dc_390_83 kr_390_178 (Or.inl rfl) (by rw [np_297]; rfl) (by rw [np_297]; rfl) (by rw [np_297]; exact Nat.le_of_ble_eq_true rfl) (Nat.le_of_ble_eq_true rfl) (c2  ) ?_
  show Bod _ _ _ _ [_, _, _] _ _ _
  refine Bod.lastN (ba + 1) rfl (by omega) (by omega) dc_390_86 (mk_92 _) (sa_92 _ _ _) (mu_L _ _ _ _) ?_
  refine Bod.go dc_390_87 rfl ?_
  refine Bod.get dc_390_88 fr_390_546 (mk_61 _) rfl ?_
  refine Bod.go dc_390_91 rfl ?_
  refine Bod.go dc_390_92 rfl ?_
  refine Bod.get dc_390_93 fr_390_752 (mk_61 _) rfl ?_
  refine Bod.ic 0 (by decide) dc_390_96 ?_
  refine Bod.go dc_390_97 rfl ?_
  refine Bod.ic 1 (by decide) dc_390_98 ?_
  refine Bod.stat (r := [_, _]) dc_390_99 kr_390_178 (Or.inl rfl) (by rw [np_297]; rfl) (by rw [np_297]; rfl) (by rw [np_297]; exact Nat.le_of_ble_eq_true rfl) (Nat.le_of_ble_eq_true rfl) (c3  ) ?_
  show Bod _ _ _ _ [_, _, _] _ _ _
  refine Bod.lastN (ba + 1) rfl (by omega) (by omega) dc_390_102 (mk_93 _) (sa_93 _ _ _) (mu_L _ _ _ _) ?_
  refine Bod.go dc_390_103 rfl ?_
  refine Bod.go dc_390_104 rfl ?_
  refine Bod.go dc_390_105 rfl ?_
  refine Bod.virt (r := []) dc_390_106 kr_390_672 ⟨Or.inl rfl, ow_391, cl_14⟩ (by rw [np_391]; rfl) (by rw [np_391]; rfl) (ob_of (mk_61 _)) (Nat.le_of_ble_eq_true rfl) (c4  ) ?_
  show Bod _ _ _ _ [] _ _ _
  refine Bod.go dc_390_109 rfl ?_
  refine Bod.go dc_390_110 rfl ?_
  refine Bod.ic 1 (by decide) dc_390_111 ?_
  refine Bod.addN (ba + 1) (by omega) dc_390_112 ?_
  refine Bod.put dc_390_113 fr_390_493 (mk_61 _) (Nat.le_of_ble_eq_true rfl) pf_14_51 (st_6151 _ _) (mu_I _ _ _) ?_
  refine Bod.ic 1 (by decide) dc_390_116 ?_
  exact Bod.retZ dc_390_117 rt_390 (Or.inr rfl)
theorem rTx_2 {d : Nat} {S : cS} {ba : Nat} {e91 : Nat} {S1 : cS} {a : Nat} {S2 : cS} (mba : ba < 2 ^ 20) (b1 : ba + 1 < 20480) (he91 : sA S 91 (ba + 1) = nI e91) (me91 : e91 < 2 ^ 20) (b2 : e91 = 1) (ma : a < 2 ^ 20) (c1 : Ans (d + 8) 385 [.ref 61, .long (sL S 92 (ba + 1))] S (some (.int (nI a))) S1) (b3 : 15 < a) (c2 : Ans (d + 8) 351 [.ref 61, .int (nI 8)] S1 (some (.int (nI 0))) S2) : Bod (d + 8) 390 0 [(0, .ref 61), (1, .int (nI ba))] [] S (some (.int 0)) (S2) := by
  refine Bod.go dc_390_0 rfl ?_
  refine Bod.ic 1 (by decide) dc_390_1 ?_
  refine Bod.addN (ba + 1) (by omega) dc_390_2 ?_
  refine Bod.istn dc_390_3 (by rw [ml_390]; exact Nat.le_of_ble_eq_true rfl) ?_
  refine Bod.go dc_390_4 rfl ?_
  refine Bod.get dc_390_5 fr_390_496 (mk_61 _) rfl ?_
  refine Bod.go dc_390_8 rfl ?_
  refine Bod.ialdN (ba + 1) rfl (by omega) (by omega) dc_390_9 (mk_91 _) ?_
  refine Bod.eqI (nI e91) (by first | assumption | rfl | exact congrArg nI (by omega) | (simp (disch := omega) only [rIn, rIe, rA, rIA, rLA, rJA, rVI, rQI, rVA, rQA, upd_at,  rAI, rLI, rJI, nI_add, pk_sub, kc_0, kc_1, kc_2, kc_3, kc_4, kc_5, reduceIte, Nat.reduceEqDiff, Nat.add_zero, rI_hold, rI_hold, rL_hold, he91]; done)) ?_
  refine Bod.ic 1 (by decide) dc_390_10 ?_
  refine Bod.icT dc_390_11 rfl (k2_eq_T (k_eq e91 1 rfl rfl (by omega))) ?_
  refine Bod.go dc_390_30 rfl ?_
  refine Bod.get dc_390_31 fr_390_496 (mk_61 _) rfl ?_
  refine Bod.go dc_390_34 rfl ?_
  refine Bod.ialdN (ba + 1) rfl (by omega) (by omega) dc_390_35 (mk_91 _) ?_
  refine Bod.eqI (nI e91) (by first | assumption | rfl | exact congrArg nI (by omega) | (simp (disch := omega) only [rIn, rIe, rA, rIA, rLA, rJA, rVI, rQI, rVA, rQA, upd_at,  rAI, rLI, rJI, nI_add, pk_sub, kc_0, kc_1, kc_2, kc_3, kc_4, kc_5, reduceIte, Nat.reduceEqDiff, Nat.add_zero, rI_hold, rI_hold, rL_hold, he91]; done)) ?_
  refine Bod.ic 1 (by decide) dc_390_36 ?_
  refine Bod.icF dc_390_37 rfl (k2_ne_F (k_eq e91 1 rfl rfl (by omega))) ?_
  refine Bod.go dc_390_40 rfl ?_
  refine Bod.go dc_390_41 rfl ?_
  refine Bod.get dc_390_42 fr_390_499 (mk_61 _) rfl ?_
  refine Bod.go dc_390_45 rfl ?_
  refine Bod.laldN (ba + 1) rfl (by omega) (by omega) dc_390_46 (mk_92 _) ?_
  refine Bod.virt (r := []) dc_390_47 kr_390_805 ⟨Or.inl rfl, ow_385, cl_14⟩ (by rw [np_385]; rfl) (by rw [np_385]; rfl) (ob_of (mk_61 _)) (Nat.le_of_ble_eq_true rfl) (c1  ) ?_
  show Bod _ _ _ _ [_] _ _ _
  refine Bod.istn dc_390_50 (by rw [ml_390]; exact Nat.le_of_ble_eq_true rfl) ?_
  refine Bod.go dc_390_51 rfl ?_
  refine Bod.bip 15 (by decide) dc_390_52 ?_
  refine Bod.icF dc_390_54 rfl (k2_le_F a 15 rfl rfl (by omega) (by omega)) ?_
  refine Bod.go dc_390_57 rfl ?_
  refine Bod.bip 8 (by decide) dc_390_58 ?_
  refine Bod.virt (r := []) dc_390_60 kr_390_608 ⟨Or.inl rfl, ow_351, cl_14⟩ (by rw [np_351]; rfl) (by rw [np_351]; rfl) (ob_of (mk_61 _)) (Nat.le_of_ble_eq_true rfl) (c2  ) ?_
  show Bod _ _ _ _ [_] _ _ _
  exact Bod.retZ dc_390_63 rt_390 (Or.inl rfl)
theorem rTx_3 {d : Nat} {S : cS} {ba : Nat} {e91 : Nat} {S1 : cS} (mba : ba < 2 ^ 20) (b1 : ba + 1 < 20480) (he91 : sA S 91 (ba + 1) = nI e91) (me91 : e91 < 2 ^ 20) (b2 : e91 ≠ 1) (b3 : e91 = 2) (c1 : Ans (d + 8) 391 [.ref 61, .int (nI (ba + 1)), .int (nI ba)] S none S1) : Bod (d + 8) 390 0 [(0, .ref 61), (1, .int (nI ba))] [] S (some (.int 1)) (wI 6151 (nI (ba + 1)) S1) := by
  refine Bod.go dc_390_0 rfl ?_
  refine Bod.ic 1 (by decide) dc_390_1 ?_
  refine Bod.addN (ba + 1) (by omega) dc_390_2 ?_
  refine Bod.istn dc_390_3 (by rw [ml_390]; exact Nat.le_of_ble_eq_true rfl) ?_
  refine Bod.go dc_390_4 rfl ?_
  refine Bod.get dc_390_5 fr_390_496 (mk_61 _) rfl ?_
  refine Bod.go dc_390_8 rfl ?_
  refine Bod.ialdN (ba + 1) rfl (by omega) (by omega) dc_390_9 (mk_91 _) ?_
  refine Bod.eqI (nI e91) (by first | assumption | rfl | exact congrArg nI (by omega) | (simp (disch := omega) only [rIn, rIe, rA, rIA, rLA, rJA, rVI, rQI, rVA, rQA, upd_at,  rAI, rLI, rJI, nI_add, pk_sub, kc_0, kc_1, kc_2, kc_3, kc_4, kc_5, reduceIte, Nat.reduceEqDiff, Nat.add_zero, rI_hold, rI_hold, rL_hold, he91]; done)) ?_
  refine Bod.ic 1 (by decide) dc_390_10 ?_
  refine Bod.icF dc_390_11 rfl (k2_eq_F (k_ne e91 1 rfl rfl (by omega) (by omega) (by omega))) ?_
  refine Bod.go dc_390_14 rfl ?_
  refine Bod.get dc_390_15 fr_390_496 (mk_61 _) rfl ?_
  refine Bod.go dc_390_18 rfl ?_
  refine Bod.ialdN (ba + 1) rfl (by omega) (by omega) dc_390_19 (mk_91 _) ?_
  refine Bod.eqI (nI e91) (by first | assumption | rfl | exact congrArg nI (by omega) | (simp (disch := omega) only [rIn, rIe, rA, rIA, rLA, rJA, rVI, rQI, rVA, rQA, upd_at,  rAI, rLI, rJI, nI_add, pk_sub, kc_0, kc_1, kc_2, kc_3, kc_4, kc_5, reduceIte, Nat.reduceEqDiff, Nat.add_zero, rI_hold, rI_hold, rL_hold, he91]; done)) ?_
  refine Bod.ic 2 (by decide) dc_390_20 ?_
  refine Bod.icT dc_390_21 rfl (k2_eq_T (k_eq e91 2 rfl rfl (by omega))) ?_
  refine Bod.go dc_390_30 rfl ?_
  refine Bod.get dc_390_31 fr_390_496 (mk_61 _) rfl ?_
  refine Bod.go dc_390_34 rfl ?_
  refine Bod.ialdN (ba + 1) rfl (by omega) (by omega) dc_390_35 (mk_91 _) ?_
  refine Bod.eqI (nI e91) (by first | assumption | rfl | exact congrArg nI (by omega) | (simp (disch := omega) only [rIn, rIe, rA, rIA, rLA, rJA, rVI, rQI, rVA, rQA, upd_at,  rAI, rLI, rJI, nI_add, pk_sub, kc_0, kc_1, kc_2, kc_3, kc_4, kc_5, reduceIte, Nat.reduceEqDiff, Nat.add_zero, rI_hold, rI_hold, rL_hold, he91]; done)) ?_
  refine Bod.ic 1 (by decide) dc_390_36 ?_
  refine Bod.icT dc_390_37 rfl (k2_ne_T (k_ne e91 1 rfl rfl (by omega) (by omega) (by omega))) ?_
  refine Bod.go dc_390_103 rfl ?_
  refine Bod.go dc_390_104 rfl ?_
  refine Bod.go dc_390_105 rfl ?_
  refine Bod.virt (r := []) dc_390_106 kr_390_672 ⟨Or.inl rfl, ow_391, cl_14⟩ (by rw [np_391]; rfl) (by rw [np_391]; rfl) (ob_of (mk_61 _)) (Nat.le_of_ble_eq_true rfl) (c1  ) ?_
  show Bod _ _ _ _ [] _ _ _
  refine Bod.go dc_390_109 rfl ?_
  refine Bod.go dc_390_110 rfl ?_
  refine Bod.ic 1 (by decide) dc_390_111 ?_
  refine Bod.addN (ba + 1) (by omega) dc_390_112 ?_
  refine Bod.put dc_390_113 fr_390_493 (mk_61 _) (Nat.le_of_ble_eq_true rfl) pf_14_51 (st_6151 _ _) (mu_I _ _ _) ?_
  refine Bod.ic 1 (by decide) dc_390_116 ?_
  exact Bod.retZ dc_390_117 rt_390 (Or.inr rfl)
theorem rTx_4 {d : Nat} {S : cS} {ba : Nat} {e91 : Nat} {S1 : cS} (mba : ba < 2 ^ 20) (b1 : ba + 1 < 20480) (he91 : sA S 91 (ba + 1) = nI e91) (me91 : e91 < 2 ^ 20) (b2 : e91 ≠ 1) (b3 : e91 ≠ 2) (c1 : Ans (d + 8) 351 [.ref 61, .int (nI 2)] S (some (.int (nI 0))) S1) : Bod (d + 8) 390 0 [(0, .ref 61), (1, .int (nI ba))] [] S (some (.int 0)) (S1) := by
  refine Bod.go dc_390_0 rfl ?_
  refine Bod.ic 1 (by decide) dc_390_1 ?_
  refine Bod.addN (ba + 1) (by omega) dc_390_2 ?_
  refine Bod.istn dc_390_3 (by rw [ml_390]; exact Nat.le_of_ble_eq_true rfl) ?_
  refine Bod.go dc_390_4 rfl ?_
  refine Bod.get dc_390_5 fr_390_496 (mk_61 _) rfl ?_
  refine Bod.go dc_390_8 rfl ?_
  refine Bod.ialdN (ba + 1) rfl (by omega) (by omega) dc_390_9 (mk_91 _) ?_
  refine Bod.eqI (nI e91) (by first | assumption | rfl | exact congrArg nI (by omega) | (simp (disch := omega) only [rIn, rIe, rA, rIA, rLA, rJA, rVI, rQI, rVA, rQA, upd_at,  rAI, rLI, rJI, nI_add, pk_sub, kc_0, kc_1, kc_2, kc_3, kc_4, kc_5, reduceIte, Nat.reduceEqDiff, Nat.add_zero, rI_hold, rI_hold, rL_hold, he91]; done)) ?_
  refine Bod.ic 1 (by decide) dc_390_10 ?_
  refine Bod.icF dc_390_11 rfl (k2_eq_F (k_ne e91 1 rfl rfl (by omega) (by omega) (by omega))) ?_
  refine Bod.go dc_390_14 rfl ?_
  refine Bod.get dc_390_15 fr_390_496 (mk_61 _) rfl ?_
  refine Bod.go dc_390_18 rfl ?_
  refine Bod.ialdN (ba + 1) rfl (by omega) (by omega) dc_390_19 (mk_91 _) ?_
  refine Bod.eqI (nI e91) (by first | assumption | rfl | exact congrArg nI (by omega) | (simp (disch := omega) only [rIn, rIe, rA, rIA, rLA, rJA, rVI, rQI, rVA, rQA, upd_at,  rAI, rLI, rJI, nI_add, pk_sub, kc_0, kc_1, kc_2, kc_3, kc_4, kc_5, reduceIte, Nat.reduceEqDiff, Nat.add_zero, rI_hold, rI_hold, rL_hold, he91]; done)) ?_
  refine Bod.ic 2 (by decide) dc_390_20 ?_
  refine Bod.icF dc_390_21 rfl (k2_eq_F (k_ne e91 2 rfl rfl (by omega) (by omega) (by omega))) ?_
  refine Bod.go dc_390_24 rfl ?_
  refine Bod.ic 2 (by decide) dc_390_25 ?_
  refine Bod.virt (r := []) dc_390_26 kr_390_608 ⟨Or.inl rfl, ow_351, cl_14⟩ (by rw [np_351]; rfl) (by rw [np_351]; rfl) (ob_of (mk_61 _)) (Nat.le_of_ble_eq_true rfl) (c1  ) ?_
  show Bod _ _ _ _ [_] _ _ _
  exact Bod.retZ dc_390_29 rt_390 (Or.inl rfl)
