/-! WAYS of the reference's statements: every call is a hypothesis -/
theorem dc_328_0 : decode (sm_cc 328) 0 = .ok (.aload_n 0, 1) := by decide +kernel
theorem dc_328_1 : decode (sm_cc 328) 1 = .ok (.dup, 1) := by decide +kernel
theorem dc_328_2 : decode (sm_cc 328) 2 = .ok (.getfield 190, 3) := by decide +kernel
theorem fr_328_190 : sm_at mt_f (sm_ow 328) 190 = some (190, 14, 15, 0, 2088) := by decide +kernel
theorem dc_328_5 : decode (sm_cc 328) 5 = .ok (.iconst 1, 1) := by decide +kernel
theorem dc_328_6 : decode (sm_cc 328) 6 = .ok (.iadd, 1) := by decide +kernel
theorem dc_328_7 : decode (sm_cc 328) 7 = .ok (.putfield 190, 3) := by decide +kernel
theorem dc_328_10 : decode (sm_cc 328) 10 = .ok (.aload_n 0, 1) := by decide +kernel
theorem dc_328_11 : decode (sm_cc 328) 11 = .ok (.iconst 0, 1) := by decide +kernel
theorem dc_328_12 : decode (sm_cc 328) 12 = .ok (.invokevirtual 302, 3) := by decide +kernel
theorem kr_328_302 : sm_at mt_k (sm_ow 328) 302 = some (302, 0, 306, 0, 2482) := by decide +kernel
theorem dc_328_15 : decode (sm_cc 328) 15 = .ok (.ifCond .ne (5), 3) := by decide +kernel
theorem dc_328_20 : decode (sm_cc 328) 20 = .ok (.aload_n 0, 1) := by decide +kernel
theorem dc_328_21 : decode (sm_cc 328) 21 = .ok (.getfield 135, 3) := by decide +kernel
theorem fr_328_135 : sm_at mt_f (sm_ow 328) 135 = some (135, 14, 7, 0, 2080) := by decide +kernel
theorem dc_328_24 : decode (sm_cc 328) 24 = .ok (.aload_n 0, 1) := by decide +kernel
theorem dc_328_25 : decode (sm_cc 328) 25 = .ok (.getfield 190, 3) := by decide +kernel
theorem dc_328_28 : decode (sm_cc 328) 28 = .ok (.iconst 1, 1) := by decide +kernel
theorem dc_328_29 : decode (sm_cc 328) 29 = .ok (.isub, 1) := by decide +kernel
theorem dc_328_30 : decode (sm_cc 328) 30 = .ok (.iaload, 1) := by decide +kernel
theorem dc_328_31 : decode (sm_cc 328) 31 = .ok (.istore_n 1, 1) := by decide +kernel
theorem ml_328 : sm_ml 328 = 3 := by decide +kernel
theorem dc_328_32 : decode (sm_cc 328) 32 = .ok (.aload_n 0, 1) := by decide +kernel
theorem dc_328_33 : decode (sm_cc 328) 33 = .ok (.getfield 397, 3) := by decide +kernel
theorem fr_328_397 : sm_at mt_f (sm_ow 328) 397 = some (397, 14, 31, 0, 2104) := by decide +kernel
theorem dc_328_36 : decode (sm_cc 328) 36 = .ok (.ifCond .ne (8), 3) := by decide +kernel
theorem dc_328_44 : decode (sm_cc 328) 44 = .ok (.aload_n 0, 1) := by decide +kernel
theorem dc_328_45 : decode (sm_cc 328) 45 = .ok (.getfield 397, 3) := by decide +kernel
theorem dc_328_48 : decode (sm_cc 328) 48 = .ok (.istore_n 2, 1) := by decide +kernel
theorem dc_328_49 : decode (sm_cc 328) 49 = .ok (.aload_n 0, 1) := by decide +kernel
theorem dc_328_50 : decode (sm_cc 328) 50 = .ok (.invokevirtual 447, 3) := by decide +kernel
theorem ow_327 : 14 = sm_ow 327 := by decide +kernel
theorem kr_328_447 : sm_at mt_k (sm_ow 328) 447 = some (447, 0, 327, 0, 2567) := by decide +kernel
theorem np_327 : sm_np 327 = 0 := by decide +kernel
theorem dc_328_53 : decode (sm_cc 328) 53 = .ok (.iload_n 2, 1) := by decide +kernel
theorem dc_328_54 : decode (sm_cc 328) 54 = .ok (.iconst 1, 1) := by decide +kernel
theorem dc_328_55 : decode (sm_cc 328) 55 = .ok (.if_icmp .ne (13), 3) := by decide +kernel
theorem dc_328_68 : decode (sm_cc 328) 68 = .ok (.iload_n 2, 1) := by decide +kernel
theorem dc_328_69 : decode (sm_cc 328) 69 = .ok (.iconst 2, 1) := by decide +kernel
theorem dc_328_70 : decode (sm_cc 328) 70 = .ok (.if_icmp .ne (12), 3) := by decide +kernel
theorem dc_328_82 : decode (sm_cc 328) 82 = .ok (.aload_n 0, 1) := by decide +kernel
theorem dc_328_83 : decode (sm_cc 328) 83 = .ok (.bipush (26), 2) := by decide +kernel
theorem dc_328_85 : decode (sm_cc 328) 85 = .ok (.iload_n 1, 1) := by decide +kernel
theorem dc_328_86 : decode (sm_cc 328) 86 = .ok (.invokevirtual 216, 3) := by decide +kernel
theorem kr_328_216 : sm_at mt_k (sm_ow 328) 216 = some (216, 0, 302, 0, 2465) := by decide +kernel
theorem dc_328_89 : decode (sm_cc 328) 89 = .ok (.iconst 1, 1) := by decide +kernel
theorem dc_328_90 : decode (sm_cc 328) 90 = .ok (.ireturn, 1) := by decide +kernel
theorem rt_328 : sm_rt 328 = some .boolean := by decide +kernel
theorem dc_328_73 : decode (sm_cc 328) 73 = .ok (.aload_n 0, 1) := by decide +kernel
theorem dc_328_74 : decode (sm_cc 328) 74 = .ok (.bipush (25), 2) := by decide +kernel
theorem dc_328_76 : decode (sm_cc 328) 76 = .ok (.invokevirtual 269, 3) := by decide +kernel
theorem kr_328_269 : sm_at mt_k (sm_ow 328) 269 = some (269, 0, 322, 0, 2547) := by decide +kernel
theorem dc_328_79 : decode (sm_cc 328) 79 = .ok (.goto (10), 3) := by decide +kernel
theorem dc_328_58 : decode (sm_cc 328) 58 = .ok (.aload_n 0, 1) := by decide +kernel
theorem dc_328_59 : decode (sm_cc 328) 59 = .ok (.bipush (7), 2) := by decide +kernel
theorem dc_328_61 : decode (sm_cc 328) 61 = .ok (.iload_n 1, 1) := by decide +kernel
theorem dc_328_62 : decode (sm_cc 328) 62 = .ok (.invokevirtual 341, 3) := by decide +kernel
theorem kr_328_341 : sm_at mt_k (sm_ow 328) 341 = some (341, 0, 317, 0, 2526) := by decide +kernel
theorem dc_328_65 : decode (sm_cc 328) 65 = .ok (.goto (24), 3) := by decide +kernel
theorem dc_328_39 : decode (sm_cc 328) 39 = .ok (.aload_n 0, 1) := by decide +kernel
theorem dc_328_40 : decode (sm_cc 328) 40 = .ok (.invokevirtual 202, 3) := by decide +kernel
theorem kr_328_202 : sm_at mt_k (sm_ow 328) 202 = some (202, 0, 299, 0, 2454) := by decide +kernel
theorem dc_328_43 : decode (sm_cc 328) 43 = .ok (.ireturn, 1) := by decide +kernel
theorem dc_328_18 : decode (sm_cc 328) 18 = .ok (.iconst 0, 1) := by decide +kernel
theorem dc_328_19 : decode (sm_cc 328) 19 = .ok (.ireturn, 1) := by decide +kernel
theorem dc_332_0 : decode (sm_cc 332) 0 = .ok (.aload_n 0, 1) := by decide +kernel
theorem dc_332_1 : decode (sm_cc 332) 1 = .ok (.getfield 129, 3) := by decide +kernel
theorem fr_332_129 : sm_at mt_f (sm_ow 332) 129 = some (129, 14, 6, 0, 2079) := by decide +kernel
theorem dc_332_4 : decode (sm_cc 332) 4 = .ok (.aload_n 0, 1) := by decide +kernel
theorem dc_332_5 : decode (sm_cc 332) 5 = .ok (.getfield 190, 3) := by decide +kernel
theorem fr_332_190 : sm_at mt_f (sm_ow 332) 190 = some (190, 14, 15, 0, 2088) := by decide +kernel
theorem dc_332_8 : decode (sm_cc 332) 8 = .ok (.iaload, 1) := by decide +kernel
theorem dc_332_9 : decode (sm_cc 332) 9 = .ok (.bipush (6), 2) := by decide +kernel
theorem dc_332_11 : decode (sm_cc 332) 11 = .ok (.if_icmp .eq (8), 3) := by decide +kernel
theorem dc_332_19 : decode (sm_cc 332) 19 = .ok (.aload_n 0, 1) := by decide +kernel
theorem dc_332_20 : decode (sm_cc 332) 20 = .ok (.dup, 1) := by decide +kernel
theorem dc_332_21 : decode (sm_cc 332) 21 = .ok (.getfield 190, 3) := by decide +kernel
theorem dc_332_24 : decode (sm_cc 332) 24 = .ok (.iconst 1, 1) := by decide +kernel
theorem dc_332_25 : decode (sm_cc 332) 25 = .ok (.iadd, 1) := by decide +kernel
theorem dc_332_26 : decode (sm_cc 332) 26 = .ok (.putfield 190, 3) := by decide +kernel
theorem dc_332_29 : decode (sm_cc 332) 29 = .ok (.iconst 1, 1) := by decide +kernel
theorem dc_332_30 : decode (sm_cc 332) 30 = .ok (.ireturn, 1) := by decide +kernel
theorem rt_332 : sm_rt 332 = some .boolean := by decide +kernel
theorem dc_332_14 : decode (sm_cc 332) 14 = .ok (.aload_n 0, 1) := by decide +kernel
theorem dc_332_15 : decode (sm_cc 332) 15 = .ok (.invokevirtual 202, 3) := by decide +kernel
theorem kr_332_202 : sm_at mt_k (sm_ow 332) 202 = some (202, 0, 299, 0, 2454) := by decide +kernel
theorem dc_332_18 : decode (sm_cc 332) 18 = .ok (.ireturn, 1) := by decide +kernel
theorem dc_330_0 : decode (sm_cc 330) 0 = .ok (.aload_n 0, 1) := by decide +kernel
theorem dc_330_1 : decode (sm_cc 330) 1 = .ok (.getfield 236, 3) := by decide +kernel
theorem fr_330_236 : sm_at mt_f (sm_ow 330) 236 = some (236, 14, 22, 0, 2095) := by decide +kernel
theorem dc_330_4 : decode (sm_cc 330) 4 = .ok (.ifCond .ne (8), 3) := by decide +kernel
theorem dc_330_7 : decode (sm_cc 330) 7 = .ok (.aload_n 0, 1) := by decide +kernel
theorem dc_330_8 : decode (sm_cc 330) 8 = .ok (.invokevirtual 202, 3) := by decide +kernel
theorem kr_330_202 : sm_at mt_k (sm_ow 330) 202 = some (202, 0, 299, 0, 2454) := by decide +kernel
theorem dc_330_11 : decode (sm_cc 330) 11 = .ok (.ireturn, 1) := by decide +kernel
theorem rt_330 : sm_rt 330 = some .boolean := by decide +kernel
theorem dc_330_12 : decode (sm_cc 330) 12 = .ok (.aload_n 0, 1) := by decide +kernel
theorem dc_330_13 : decode (sm_cc 330) 13 = .ok (.dup, 1) := by decide +kernel
theorem dc_330_14 : decode (sm_cc 330) 14 = .ok (.getfield 190, 3) := by decide +kernel
theorem fr_330_190 : sm_at mt_f (sm_ow 330) 190 = some (190, 14, 15, 0, 2088) := by decide +kernel
theorem dc_330_17 : decode (sm_cc 330) 17 = .ok (.iconst 1, 1) := by decide +kernel
theorem dc_330_18 : decode (sm_cc 330) 18 = .ok (.iadd, 1) := by decide +kernel
theorem dc_330_19 : decode (sm_cc 330) 19 = .ok (.putfield 190, 3) := by decide +kernel
theorem dc_330_22 : decode (sm_cc 330) 22 = .ok (.aload_n 0, 1) := by decide +kernel
theorem dc_330_23 : decode (sm_cc 330) 23 = .ok (.getfield 129, 3) := by decide +kernel
theorem fr_330_129 : sm_at mt_f (sm_ow 330) 129 = some (129, 14, 6, 0, 2079) := by decide +kernel
theorem dc_330_26 : decode (sm_cc 330) 26 = .ok (.aload_n 0, 1) := by decide +kernel
theorem dc_330_27 : decode (sm_cc 330) 27 = .ok (.getfield 190, 3) := by decide +kernel
theorem dc_330_30 : decode (sm_cc 330) 30 = .ok (.iaload, 1) := by decide +kernel
theorem dc_330_31 : decode (sm_cc 330) 31 = .ok (.iconst 1, 1) := by decide +kernel
theorem dc_330_32 : decode (sm_cc 330) 32 = .ok (.if_icmp .ne (19), 3) := by decide +kernel
theorem dc_330_51 : decode (sm_cc 330) 51 = .ok (.aload_n 0, 1) := by decide +kernel
theorem dc_330_52 : decode (sm_cc 330) 52 = .ok (.invokevirtual 202, 3) := by decide +kernel
theorem dc_330_55 : decode (sm_cc 330) 55 = .ok (.ireturn, 1) := by decide +kernel
theorem dc_330_35 : decode (sm_cc 330) 35 = .ok (.aload_n 0, 1) := by decide +kernel
theorem dc_330_36 : decode (sm_cc 330) 36 = .ok (.aload_n 0, 1) := by decide +kernel
theorem dc_330_37 : decode (sm_cc 330) 37 = .ok (.getfield 135, 3) := by decide +kernel
theorem fr_330_135 : sm_at mt_f (sm_ow 330) 135 = some (135, 14, 7, 0, 2080) := by decide +kernel
theorem dc_330_40 : decode (sm_cc 330) 40 = .ok (.aload_n 0, 1) := by decide +kernel
theorem dc_330_41 : decode (sm_cc 330) 41 = .ok (.getfield 190, 3) := by decide +kernel
theorem dc_330_44 : decode (sm_cc 330) 44 = .ok (.iaload, 1) := by decide +kernel
theorem dc_330_45 : decode (sm_cc 330) 45 = .ok (.invokevirtual 444, 3) := by decide +kernel
theorem ow_331 : 14 = sm_ow 331 := by decide +kernel
theorem kr_330_444 : sm_at mt_k (sm_ow 330) 444 = some (444, 0, 331, 0, 2583) := by decide +kernel
theorem np_331 : sm_np 331 = 1 := by decide +kernel
theorem dc_330_48 : decode (sm_cc 330) 48 = .ok (.ifCond .eq (8), 3) := by decide +kernel
theorem dc_330_56 : decode (sm_cc 330) 56 = .ok (.aload_n 0, 1) := by decide +kernel
theorem dc_330_57 : decode (sm_cc 330) 57 = .ok (.dup, 1) := by decide +kernel
theorem dc_330_58 : decode (sm_cc 330) 58 = .ok (.getfield 190, 3) := by decide +kernel
theorem dc_330_61 : decode (sm_cc 330) 61 = .ok (.iconst 1, 1) := by decide +kernel
theorem dc_330_62 : decode (sm_cc 330) 62 = .ok (.iadd, 1) := by decide +kernel
theorem dc_330_63 : decode (sm_cc 330) 63 = .ok (.putfield 190, 3) := by decide +kernel
theorem dc_330_66 : decode (sm_cc 330) 66 = .ok (.aload_n 0, 1) := by decide +kernel
theorem dc_330_67 : decode (sm_cc 330) 67 = .ok (.bipush (44), 2) := by decide +kernel
theorem dc_330_69 : decode (sm_cc 330) 69 = .ok (.invokevirtual 199, 3) := by decide +kernel
theorem kr_330_199 : sm_at mt_k (sm_ow 330) 199 = some (199, 0, 314, 0, 2514) := by decide +kernel
theorem dc_330_72 : decode (sm_cc 330) 72 = .ok (.ifCond .ne (-60), 3) := by decide +kernel
theorem dc_330_75 : decode (sm_cc 330) 75 = .ok (.iconst 1, 1) := by decide +kernel
theorem dc_330_76 : decode (sm_cc 330) 76 = .ok (.ireturn, 1) := by decide +kernel
theorem dc_334_0 : decode (sm_cc 334) 0 = .ok (.aload_n 0, 1) := by decide +kernel
theorem dc_334_1 : decode (sm_cc 334) 1 = .ok (.bipush (58), 2) := by decide +kernel
theorem dc_334_3 : decode (sm_cc 334) 3 = .ok (.invokevirtual 270, 3) := by decide +kernel
theorem kr_334_270 : sm_at mt_k (sm_ow 334) 270 = some (270, 0, 323, 0, 2551) := by decide +kernel
theorem dc_334_6 : decode (sm_cc 334) 6 = .ok (.ifCond .eq (10), 3) := by decide +kernel
theorem dc_334_9 : decode (sm_cc 334) 9 = .ok (.aload_n 0, 1) := by decide +kernel
theorem dc_334_10 : decode (sm_cc 334) 10 = .ok (.invokevirtual 273, 3) := by decide +kernel
theorem ow_332 : 14 = sm_ow 332 := by decide +kernel
theorem kr_334_273 : sm_at mt_k (sm_ow 334) 273 = some (273, 0, 332, 0, 2587) := by decide +kernel
theorem np_332 : sm_np 332 = 0 := by decide +kernel
theorem dc_334_13 : decode (sm_cc 334) 13 = .ok (.ifCond .ne (5), 3) := by decide +kernel
theorem dc_334_18 : decode (sm_cc 334) 18 = .ok (.aload_n 0, 1) := by decide +kernel
theorem dc_334_19 : decode (sm_cc 334) 19 = .ok (.getfield 129, 3) := by decide +kernel
theorem fr_334_129 : sm_at mt_f (sm_ow 334) 129 = some (129, 14, 6, 0, 2079) := by decide +kernel
theorem dc_334_22 : decode (sm_cc 334) 22 = .ok (.aload_n 0, 1) := by decide +kernel
theorem dc_334_23 : decode (sm_cc 334) 23 = .ok (.getfield 190, 3) := by decide +kernel
theorem fr_334_190 : sm_at mt_f (sm_ow 334) 190 = some (190, 14, 15, 0, 2088) := by decide +kernel
theorem dc_334_26 : decode (sm_cc 334) 26 = .ok (.iaload, 1) := by decide +kernel
theorem dc_334_27 : decode (sm_cc 334) 27 = .ok (.bipush (7), 2) := by decide +kernel
theorem dc_334_29 : decode (sm_cc 334) 29 = .ok (.if_icmp .eq (25), 3) := by decide +kernel
theorem dc_334_54 : decode (sm_cc 334) 54 = .ok (.aload_n 0, 1) := by decide +kernel
theorem dc_334_55 : decode (sm_cc 334) 55 = .ok (.invokevirtual 202, 3) := by decide +kernel
theorem kr_334_202 : sm_at mt_k (sm_ow 334) 202 = some (202, 0, 299, 0, 2454) := by decide +kernel
theorem dc_334_58 : decode (sm_cc 334) 58 = .ok (.ireturn, 1) := by decide +kernel
theorem rt_334 : sm_rt 334 = some .boolean := by decide +kernel
theorem dc_334_32 : decode (sm_cc 334) 32 = .ok (.aload_n 0, 1) := by decide +kernel
theorem dc_334_33 : decode (sm_cc 334) 33 = .ok (.getfield 141, 3) := by decide +kernel
theorem fr_334_141 : sm_at mt_f (sm_ow 334) 141 = some (141, 14, 9, 0, 2082) := by decide +kernel
theorem dc_334_36 : decode (sm_cc 334) 36 = .ok (.aload_n 0, 1) := by decide +kernel
theorem dc_334_37 : decode (sm_cc 334) 37 = .ok (.getfield 190, 3) := by decide +kernel
theorem dc_334_40 : decode (sm_cc 334) 40 = .ok (.iaload, 1) := by decide +kernel
theorem dc_334_41 : decode (sm_cc 334) 41 = .ok (.iload_n 1, 1) := by decide +kernel
theorem dc_334_42 : decode (sm_cc 334) 42 = .ok (.if_icmp .le (12), 3) := by decide +kernel
theorem dc_334_45 : decode (sm_cc 334) 45 = .ok (.aload_n 0, 1) := by decide +kernel
theorem dc_334_46 : decode (sm_cc 334) 46 = .ok (.getfield 233, 3) := by decide +kernel
theorem fr_334_233 : sm_at mt_f (sm_ow 334) 233 = some (233, 14, 17, 0, 2090) := by decide +kernel
theorem dc_334_49 : decode (sm_cc 334) 49 = .ok (.bipush (10), 2) := by decide +kernel
theorem dc_334_51 : decode (sm_cc 334) 51 = .ok (.if_icmp .ne (8), 3) := by decide +kernel
theorem dc_334_59 : decode (sm_cc 334) 59 = .ok (.aload_n 0, 1) := by decide +kernel
theorem dc_334_60 : decode (sm_cc 334) 60 = .ok (.dup, 1) := by decide +kernel
theorem dc_334_61 : decode (sm_cc 334) 61 = .ok (.getfield 233, 3) := by decide +kernel
theorem dc_334_64 : decode (sm_cc 334) 64 = .ok (.iconst 1, 1) := by decide +kernel
theorem dc_334_65 : decode (sm_cc 334) 65 = .ok (.iadd, 1) := by decide +kernel
theorem dc_334_66 : decode (sm_cc 334) 66 = .ok (.putfield 233, 3) := by decide +kernel
theorem dc_334_69 : decode (sm_cc 334) 69 = .ok (.aload_n 0, 1) := by decide +kernel
theorem dc_334_70 : decode (sm_cc 334) 70 = .ok (.getfield 141, 3) := by decide +kernel
theorem dc_334_73 : decode (sm_cc 334) 73 = .ok (.aload_n 0, 1) := by decide +kernel
theorem dc_334_74 : decode (sm_cc 334) 74 = .ok (.getfield 190, 3) := by decide +kernel
theorem dc_334_77 : decode (sm_cc 334) 77 = .ok (.iaload, 1) := by decide +kernel
theorem dc_334_78 : decode (sm_cc 334) 78 = .ok (.istore_n 3, 1) := by decide +kernel
theorem ml_334 : sm_ml 334 = 5 := by decide +kernel
theorem dc_334_79 : decode (sm_cc 334) 79 = .ok (.aload_n 0, 1) := by decide +kernel
theorem dc_334_80 : decode (sm_cc 334) 80 = .ok (.getfield 263, 3) := by decide +kernel
theorem fr_334_263 : sm_at mt_f (sm_ow 334) 263 = some (263, 14, 18, 0, 2091) := by decide +kernel
theorem dc_334_83 : decode (sm_cc 334) 83 = .ok (.aload_n 0, 1) := by decide +kernel
theorem dc_334_84 : decode (sm_cc 334) 84 = .ok (.getfield 233, 3) := by decide +kernel
theorem dc_334_87 : decode (sm_cc 334) 87 = .ok (.iload_n 3, 1) := by decide +kernel
theorem dc_334_88 : decode (sm_cc 334) 88 = .ok (.iastore, 1) := by decide +kernel
theorem dc_334_16 : decode (sm_cc 334) 16 = .ok (.iconst 0, 1) := by decide +kernel
theorem dc_334_17 : decode (sm_cc 334) 17 = .ok (.ireturn, 1) := by decide +kernel
theorem dc_335_0 : decode (sm_cc 335) 0 = .ok (.aload_n 0, 1) := by decide +kernel
theorem dc_335_1 : decode (sm_cc 335) 1 = .ok (.iconst 0, 1) := by decide +kernel
theorem dc_335_2 : decode (sm_cc 335) 2 = .ok (.aload_n 0, 1) := by decide +kernel
theorem dc_335_3 : decode (sm_cc 335) 3 = .ok (.getfield 138, 3) := by decide +kernel
theorem fr_335_138 : sm_at mt_f (sm_ow 335) 138 = some (138, 14, 8, 0, 2081) := by decide +kernel
theorem dc_335_6 : decode (sm_cc 335) 6 = .ok (.aload_n 0, 1) := by decide +kernel
theorem dc_335_7 : decode (sm_cc 335) 7 = .ok (.getfield 190, 3) := by decide +kernel
theorem fr_335_190 : sm_at mt_f (sm_ow 335) 190 = some (190, 14, 15, 0, 2088) := by decide +kernel
theorem dc_335_10 : decode (sm_cc 335) 10 = .ok (.iaload, 1) := by decide +kernel
theorem dc_335_11 : decode (sm_cc 335) 11 = .ok (.invokevirtual 216, 3) := by decide +kernel
theorem kr_335_216 : sm_at mt_k (sm_ow 335) 216 = some (216, 0, 302, 0, 2465) := by decide +kernel
theorem dc_335_14 : decode (sm_cc 335) 14 = .ok (.aload_n 0, 1) := by decide +kernel
theorem dc_335_15 : decode (sm_cc 335) 15 = .ok (.getfield 141, 3) := by decide +kernel
theorem fr_335_141 : sm_at mt_f (sm_ow 335) 141 = some (141, 14, 9, 0, 2082) := by decide +kernel
theorem dc_335_18 : decode (sm_cc 335) 18 = .ok (.aload_n 0, 1) := by decide +kernel
theorem dc_335_19 : decode (sm_cc 335) 19 = .ok (.getfield 190, 3) := by decide +kernel
theorem dc_335_22 : decode (sm_cc 335) 22 = .ok (.iaload, 1) := by decide +kernel
theorem dc_335_23 : decode (sm_cc 335) 23 = .ok (.istore_n 1, 1) := by decide +kernel
theorem ml_335 : sm_ml 335 = 3 := by decide +kernel
theorem dc_335_24 : decode (sm_cc 335) 24 = .ok (.aload_n 0, 1) := by decide +kernel
theorem dc_335_25 : decode (sm_cc 335) 25 = .ok (.bipush (11), 2) := by decide +kernel
theorem dc_335_27 : decode (sm_cc 335) 27 = .ok (.invokevirtual 312, 3) := by decide +kernel
theorem kr_335_312 : sm_at mt_k (sm_ow 335) 312 = some (312, 0, 309, 0, 2494) := by decide +kernel
theorem dc_335_30 : decode (sm_cc 335) 30 = .ok (.ifCond .eq (18), 3) := by decide +kernel
theorem dc_335_33 : decode (sm_cc 335) 33 = .ok (.aload_n 0, 1) := by decide +kernel
theorem dc_335_34 : decode (sm_cc 335) 34 = .ok (.dup, 1) := by decide +kernel
theorem dc_335_35 : decode (sm_cc 335) 35 = .ok (.getfield 190, 3) := by decide +kernel
theorem dc_335_38 : decode (sm_cc 335) 38 = .ok (.iconst 1, 1) := by decide +kernel
theorem dc_335_39 : decode (sm_cc 335) 39 = .ok (.iadd, 1) := by decide +kernel
theorem dc_335_40 : decode (sm_cc 335) 40 = .ok (.putfield 190, 3) := by decide +kernel
theorem dc_335_43 : decode (sm_cc 335) 43 = .ok (.aload_n 0, 1) := by decide +kernel
theorem dc_335_44 : decode (sm_cc 335) 44 = .ok (.invokevirtual 273, 3) := by decide +kernel
theorem kr_335_273 : sm_at mt_k (sm_ow 335) 273 = some (273, 0, 332, 0, 2587) := by decide +kernel
theorem dc_335_47 : decode (sm_cc 335) 47 = .ok (.ireturn, 1) := by decide +kernel
theorem rt_335 : sm_rt 335 = some .boolean := by decide +kernel
theorem dc_335_48 : decode (sm_cc 335) 48 = .ok (.aload_n 0, 1) := by decide +kernel
theorem dc_335_49 : decode (sm_cc 335) 49 = .ok (.bipush (6), 2) := by decide +kernel
theorem dc_335_51 : decode (sm_cc 335) 51 = .ok (.invokevirtual 312, 3) := by decide +kernel
theorem dc_335_54 : decode (sm_cc 335) 54 = .ok (.ifCond .eq (52), 3) := by decide +kernel
theorem dc_335_57 : decode (sm_cc 335) 57 = .ok (.aload_n 0, 1) := by decide +kernel
theorem dc_335_58 : decode (sm_cc 335) 58 = .ok (.getfield 129, 3) := by decide +kernel
theorem fr_335_129 : sm_at mt_f (sm_ow 335) 129 = some (129, 14, 6, 0, 2079) := by decide +kernel
theorem dc_335_61 : decode (sm_cc 335) 61 = .ok (.aload_n 0, 1) := by decide +kernel
theorem dc_335_62 : decode (sm_cc 335) 62 = .ok (.getfield 190, 3) := by decide +kernel
theorem dc_335_65 : decode (sm_cc 335) 65 = .ok (.iconst 1, 1) := by decide +kernel
theorem dc_335_66 : decode (sm_cc 335) 66 = .ok (.iadd, 1) := by decide +kernel
theorem dc_335_67 : decode (sm_cc 335) 67 = .ok (.iaload, 1) := by decide +kernel
theorem dc_335_68 : decode (sm_cc 335) 68 = .ok (.iconst 1, 1) := by decide +kernel
theorem dc_335_69 : decode (sm_cc 335) 69 = .ok (.if_icmp .ne (17), 3) := by decide +kernel
theorem dc_335_86 : decode (sm_cc 335) 86 = .ok (.iconst (-1), 1) := by decide +kernel
theorem dc_335_87 : decode (sm_cc 335) 87 = .ok (.istore_n 2, 1) := by decide +kernel
theorem dc_335_88 : decode (sm_cc 335) 88 = .ok (.aload_n 0, 1) := by decide +kernel
theorem dc_335_89 : decode (sm_cc 335) 89 = .ok (.iload_n 1, 1) := by decide +kernel
theorem dc_335_90 : decode (sm_cc 335) 90 = .ok (.iconst 0, 1) := by decide +kernel
theorem dc_335_91 : decode (sm_cc 335) 91 = .ok (.invokevirtual 292, 3) := by decide +kernel
theorem ow_336 : 14 = sm_ow 336 := by decide +kernel
theorem kr_335_292 : sm_at mt_k (sm_ow 335) 292 = some (292, 0, 336, 0, 2603) := by decide +kernel
theorem np_336 : sm_np 336 = 2 := by decide +kernel
theorem dc_335_94 : decode (sm_cc 335) 94 = .ok (.ifCond .ne (5), 3) := by decide +kernel
theorem dc_335_99 : decode (sm_cc 335) 99 = .ok (.aload_n 0, 1) := by decide +kernel
theorem dc_335_100 : decode (sm_cc 335) 100 = .ok (.iload_n 2, 1) := by decide +kernel
theorem dc_335_101 : decode (sm_cc 335) 101 = .ok (.invokevirtual 388, 3) := by decide +kernel
theorem ow_341 : 14 = sm_ow 341 := by decide +kernel
theorem kr_335_388 : sm_at mt_k (sm_ow 335) 388 = some (388, 0, 341, 0, 2623) := by decide +kernel
theorem np_341 : sm_np 341 = 1 := by decide +kernel
theorem dc_335_104 : decode (sm_cc 335) 104 = .ok (.iconst 1, 1) := by decide +kernel
theorem dc_335_105 : decode (sm_cc 335) 105 = .ok (.ireturn, 1) := by decide +kernel
theorem dc_335_97 : decode (sm_cc 335) 97 = .ok (.iconst 0, 1) := by decide +kernel
theorem dc_335_98 : decode (sm_cc 335) 98 = .ok (.ireturn, 1) := by decide +kernel
theorem dc_335_72 : decode (sm_cc 335) 72 = .ok (.aload_n 0, 1) := by decide +kernel
theorem dc_335_73 : decode (sm_cc 335) 73 = .ok (.getfield 135, 3) := by decide +kernel
theorem fr_335_135 : sm_at mt_f (sm_ow 335) 135 = some (135, 14, 7, 0, 2080) := by decide +kernel
theorem dc_335_76 : decode (sm_cc 335) 76 = .ok (.aload_n 0, 1) := by decide +kernel
theorem dc_335_77 : decode (sm_cc 335) 77 = .ok (.getfield 190, 3) := by decide +kernel
theorem dc_335_80 : decode (sm_cc 335) 80 = .ok (.iconst 1, 1) := by decide +kernel
theorem dc_335_81 : decode (sm_cc 335) 81 = .ok (.iadd, 1) := by decide +kernel
theorem dc_335_82 : decode (sm_cc 335) 82 = .ok (.iaload, 1) := by decide +kernel
theorem dc_335_83 : decode (sm_cc 335) 83 = .ok (.goto (4), 3) := by decide +kernel
theorem dc_335_106 : decode (sm_cc 335) 106 = .ok (.aload_n 0, 1) := by decide +kernel
theorem dc_335_107 : decode (sm_cc 335) 107 = .ok (.getfield 129, 3) := by decide +kernel
theorem dc_335_110 : decode (sm_cc 335) 110 = .ok (.aload_n 0, 1) := by decide +kernel
theorem dc_335_111 : decode (sm_cc 335) 111 = .ok (.getfield 190, 3) := by decide +kernel
theorem dc_335_114 : decode (sm_cc 335) 114 = .ok (.iaload, 1) := by decide +kernel
theorem dc_335_115 : decode (sm_cc 335) 115 = .ok (.iconst 1, 1) := by decide +kernel
theorem dc_335_116 : decode (sm_cc 335) 116 = .ok (.if_icmp .eq (8), 3) := by decide +kernel
theorem dc_335_124 : decode (sm_cc 335) 124 = .ok (.aload_n 0, 1) := by decide +kernel
theorem dc_335_125 : decode (sm_cc 335) 125 = .ok (.getfield 135, 3) := by decide +kernel
theorem dc_335_128 : decode (sm_cc 335) 128 = .ok (.aload_n 0, 1) := by decide +kernel
theorem dc_335_129 : decode (sm_cc 335) 129 = .ok (.getfield 190, 3) := by decide +kernel
theorem dc_335_132 : decode (sm_cc 335) 132 = .ok (.iaload, 1) := by decide +kernel
theorem dc_335_133 : decode (sm_cc 335) 133 = .ok (.istore_n 2, 1) := by decide +kernel
theorem dc_335_134 : decode (sm_cc 335) 134 = .ok (.aload_n 0, 1) := by decide +kernel
theorem dc_335_135 : decode (sm_cc 335) 135 = .ok (.dup, 1) := by decide +kernel
theorem dc_335_136 : decode (sm_cc 335) 136 = .ok (.getfield 190, 3) := by decide +kernel
theorem dc_335_139 : decode (sm_cc 335) 139 = .ok (.iconst 1, 1) := by decide +kernel
theorem dc_335_140 : decode (sm_cc 335) 140 = .ok (.iadd, 1) := by decide +kernel
theorem dc_335_141 : decode (sm_cc 335) 141 = .ok (.putfield 190, 3) := by decide +kernel
theorem dc_335_144 : decode (sm_cc 335) 144 = .ok (.aload_n 0, 1) := by decide +kernel
theorem dc_335_145 : decode (sm_cc 335) 145 = .ok (.bipush (61), 2) := by decide +kernel
theorem dc_335_147 : decode (sm_cc 335) 147 = .ok (.invokevirtual 270, 3) := by decide +kernel
theorem kr_335_270 : sm_at mt_k (sm_ow 335) 270 = some (270, 0, 323, 0, 2551) := by decide +kernel
theorem dc_335_150 : decode (sm_cc 335) 150 = .ok (.ifCond .eq (18), 3) := by decide +kernel
theorem dc_335_153 : decode (sm_cc 335) 153 = .ok (.aload_n 0, 1) := by decide +kernel
theorem dc_335_154 : decode (sm_cc 335) 154 = .ok (.iconst 0, 1) := by decide +kernel
theorem dc_335_155 : decode (sm_cc 335) 155 = .ok (.invokevirtual 302, 3) := by decide +kernel
theorem kr_335_302 : sm_at mt_k (sm_ow 335) 302 = some (302, 0, 306, 0, 2482) := by decide +kernel
theorem dc_335_158 : decode (sm_cc 335) 158 = .ok (.ifCond .eq (10), 3) := by decide +kernel
theorem dc_335_161 : decode (sm_cc 335) 161 = .ok (.aload_n 0, 1) := by decide +kernel
theorem dc_335_162 : decode (sm_cc 335) 162 = .ok (.invokevirtual 273, 3) := by decide +kernel
theorem dc_335_165 : decode (sm_cc 335) 165 = .ok (.ifCond .ne (5), 3) := by decide +kernel
theorem dc_335_170 : decode (sm_cc 335) 170 = .ok (.aload_n 0, 1) := by decide +kernel
theorem dc_335_171 : decode (sm_cc 335) 171 = .ok (.iload_n 2, 1) := by decide +kernel
theorem dc_335_172 : decode (sm_cc 335) 172 = .ok (.invokevirtual 388, 3) := by decide +kernel
theorem dc_335_175 : decode (sm_cc 335) 175 = .ok (.iconst 1, 1) := by decide +kernel
theorem dc_335_176 : decode (sm_cc 335) 176 = .ok (.ireturn, 1) := by decide +kernel
theorem dc_335_168 : decode (sm_cc 335) 168 = .ok (.iconst 0, 1) := by decide +kernel
theorem dc_335_169 : decode (sm_cc 335) 169 = .ok (.ireturn, 1) := by decide +kernel
theorem dc_335_119 : decode (sm_cc 335) 119 = .ok (.aload_n 0, 1) := by decide +kernel
theorem dc_335_120 : decode (sm_cc 335) 120 = .ok (.invokevirtual 202, 3) := by decide +kernel
theorem kr_335_202 : sm_at mt_k (sm_ow 335) 202 = some (202, 0, 299, 0, 2454) := by decide +kernel
theorem dc_335_123 : decode (sm_cc 335) 123 = .ok (.ireturn, 1) := by decide +kernel
theorem dc_347_0 : decode (sm_cc 347) 0 = .ok (.aload_n 0, 1) := by decide +kernel
theorem dc_347_1 : decode (sm_cc 347) 1 = .ok (.dup, 1) := by decide +kernel
theorem dc_347_2 : decode (sm_cc 347) 2 = .ok (.getfield 190, 3) := by decide +kernel
theorem fr_347_190 : sm_at mt_f (sm_ow 347) 190 = some (190, 14, 15, 0, 2088) := by decide +kernel
theorem dc_347_5 : decode (sm_cc 347) 5 = .ok (.iconst 1, 1) := by decide +kernel
theorem dc_347_6 : decode (sm_cc 347) 6 = .ok (.iadd, 1) := by decide +kernel
theorem dc_347_7 : decode (sm_cc 347) 7 = .ok (.putfield 190, 3) := by decide +kernel
theorem dc_347_10 : decode (sm_cc 347) 10 = .ok (.aload_n 0, 1) := by decide +kernel
theorem dc_347_11 : decode (sm_cc 347) 11 = .ok (.bipush (34), 2) := by decide +kernel
theorem dc_347_13 : decode (sm_cc 347) 13 = .ok (.invokevirtual 305, 3) := by decide +kernel
theorem kr_347_305 : sm_at mt_k (sm_ow 347) 305 = some (305, 0, 325, 0, 2559) := by decide +kernel
theorem dc_347_16 : decode (sm_cc 347) 16 = .ok (.istore_n 2, 1) := by decide +kernel
theorem ml_347 : sm_ml 347 = 4 := by decide +kernel
theorem dc_347_17 : decode (sm_cc 347) 17 = .ok (.aload_n 0, 1) := by decide +kernel
theorem dc_347_18 : decode (sm_cc 347) 18 = .ok (.dup, 1) := by decide +kernel
theorem dc_347_19 : decode (sm_cc 347) 19 = .ok (.getfield 245, 3) := by decide +kernel
theorem fr_347_245 : sm_at mt_f (sm_ow 347) 245 = some (245, 14, 27, 0, 2100) := by decide +kernel
theorem dc_347_22 : decode (sm_cc 347) 22 = .ok (.iconst 1, 1) := by decide +kernel
theorem dc_347_23 : decode (sm_cc 347) 23 = .ok (.iadd, 1) := by decide +kernel
theorem dc_347_24 : decode (sm_cc 347) 24 = .ok (.putfield 245, 3) := by decide +kernel
theorem dc_347_27 : decode (sm_cc 347) 27 = .ok (.aload_n 0, 1) := by decide +kernel
theorem dc_347_28 : decode (sm_cc 347) 28 = .ok (.iload_n 1, 1) := by decide +kernel
theorem dc_347_29 : decode (sm_cc 347) 29 = .ok (.iconst 0, 1) := by decide +kernel
theorem dc_347_30 : decode (sm_cc 347) 30 = .ok (.invokevirtual 309, 3) := by decide +kernel
theorem ow_334 : 14 = sm_ow 334 := by decide +kernel
theorem kr_347_309 : sm_at mt_k (sm_ow 347) 309 = some (309, 0, 334, 0, 2595) := by decide +kernel
theorem np_334 : sm_np 334 = 2 := by decide +kernel
theorem dc_347_33 : decode (sm_cc 347) 33 = .ok (.ifCond .ne (5), 3) := by decide +kernel
theorem dc_347_38 : decode (sm_cc 347) 38 = .ok (.aload_n 0, 1) := by decide +kernel
theorem dc_347_39 : decode (sm_cc 347) 39 = .ok (.dup, 1) := by decide +kernel
theorem dc_347_40 : decode (sm_cc 347) 40 = .ok (.getfield 245, 3) := by decide +kernel
theorem dc_347_43 : decode (sm_cc 347) 43 = .ok (.iconst 1, 1) := by decide +kernel
theorem dc_347_44 : decode (sm_cc 347) 44 = .ok (.isub, 1) := by decide +kernel
theorem dc_347_45 : decode (sm_cc 347) 45 = .ok (.putfield 245, 3) := by decide +kernel
theorem dc_347_48 : decode (sm_cc 347) 48 = .ok (.aload_n 0, 1) := by decide +kernel
theorem dc_347_49 : decode (sm_cc 347) 49 = .ok (.bipush (35), 2) := by decide +kernel
theorem dc_347_51 : decode (sm_cc 347) 51 = .ok (.invokevirtual 269, 3) := by decide +kernel
theorem kr_347_269 : sm_at mt_k (sm_ow 347) 269 = some (269, 0, 322, 0, 2547) := by decide +kernel
theorem dc_347_54 : decode (sm_cc 347) 54 = .ok (.aload_n 0, 1) := by decide +kernel
theorem dc_347_55 : decode (sm_cc 347) 55 = .ok (.bipush (11), 2) := by decide +kernel
theorem dc_347_57 : decode (sm_cc 347) 57 = .ok (.invokevirtual 305, 3) := by decide +kernel
theorem dc_347_60 : decode (sm_cc 347) 60 = .ok (.istore_n 3, 1) := by decide +kernel
theorem dc_347_61 : decode (sm_cc 347) 61 = .ok (.aload_n 0, 1) := by decide +kernel
theorem dc_347_62 : decode (sm_cc 347) 62 = .ok (.iload_n 2, 1) := by decide +kernel
theorem dc_347_63 : decode (sm_cc 347) 63 = .ok (.invokevirtual 317, 3) := by decide +kernel
theorem kr_347_317 : sm_at mt_k (sm_ow 347) 317 = some (317, 0, 326, 0, 2563) := by decide +kernel
theorem dc_347_66 : decode (sm_cc 347) 66 = .ok (.aload_n 0, 1) := by decide +kernel
theorem dc_347_67 : decode (sm_cc 347) 67 = .ok (.getfield 129, 3) := by decide +kernel
theorem fr_347_129 : sm_at mt_f (sm_ow 347) 129 = some (129, 14, 6, 0, 2079) := by decide +kernel
theorem dc_347_70 : decode (sm_cc 347) 70 = .ok (.aload_n 0, 1) := by decide +kernel
theorem dc_347_71 : decode (sm_cc 347) 71 = .ok (.getfield 190, 3) := by decide +kernel
theorem dc_347_74 : decode (sm_cc 347) 74 = .ok (.iaload, 1) := by decide +kernel
theorem dc_347_75 : decode (sm_cc 347) 75 = .ok (.bipush (7), 2) := by decide +kernel
theorem dc_347_77 : decode (sm_cc 347) 77 = .ok (.if_icmp .eq (25), 3) := by decide +kernel
theorem dc_347_102 : decode (sm_cc 347) 102 = .ok (.aload_n 0, 1) := by decide +kernel
theorem dc_347_103 : decode (sm_cc 347) 103 = .ok (.invokevirtual 202, 3) := by decide +kernel
theorem kr_347_202 : sm_at mt_k (sm_ow 347) 202 = some (202, 0, 299, 0, 2454) := by decide +kernel
theorem dc_347_106 : decode (sm_cc 347) 106 = .ok (.ireturn, 1) := by decide +kernel
theorem rt_347 : sm_rt 347 = some .boolean := by decide +kernel
theorem dc_347_80 : decode (sm_cc 347) 80 = .ok (.aload_n 0, 1) := by decide +kernel
theorem dc_347_81 : decode (sm_cc 347) 81 = .ok (.getfield 141, 3) := by decide +kernel
theorem fr_347_141 : sm_at mt_f (sm_ow 347) 141 = some (141, 14, 9, 0, 2082) := by decide +kernel
theorem dc_347_84 : decode (sm_cc 347) 84 = .ok (.aload_n 0, 1) := by decide +kernel
theorem dc_347_85 : decode (sm_cc 347) 85 = .ok (.getfield 190, 3) := by decide +kernel
theorem dc_347_88 : decode (sm_cc 347) 88 = .ok (.iaload, 1) := by decide +kernel
theorem dc_347_89 : decode (sm_cc 347) 89 = .ok (.iload_n 1, 1) := by decide +kernel
theorem dc_347_90 : decode (sm_cc 347) 90 = .ok (.if_icmp .ne (12), 3) := by decide +kernel
theorem dc_347_93 : decode (sm_cc 347) 93 = .ok (.aload_n 0, 1) := by decide +kernel
theorem dc_347_94 : decode (sm_cc 347) 94 = .ok (.bipush (15), 2) := by decide +kernel
theorem dc_347_96 : decode (sm_cc 347) 96 = .ok (.invokevirtual 312, 3) := by decide +kernel
theorem kr_347_312 : sm_at mt_k (sm_ow 347) 312 = some (312, 0, 309, 0, 2494) := by decide +kernel
theorem dc_347_99 : decode (sm_cc 347) 99 = .ok (.ifCond .ne (8), 3) := by decide +kernel
theorem dc_347_107 : decode (sm_cc 347) 107 = .ok (.aload_n 0, 1) := by decide +kernel
theorem dc_347_108 : decode (sm_cc 347) 108 = .ok (.dup, 1) := by decide +kernel
theorem dc_347_109 : decode (sm_cc 347) 109 = .ok (.getfield 190, 3) := by decide +kernel
theorem dc_347_112 : decode (sm_cc 347) 112 = .ok (.iconst 1, 1) := by decide +kernel
theorem dc_347_113 : decode (sm_cc 347) 113 = .ok (.iadd, 1) := by decide +kernel
theorem dc_347_114 : decode (sm_cc 347) 114 = .ok (.putfield 190, 3) := by decide +kernel
theorem dc_347_117 : decode (sm_cc 347) 117 = .ok (.aload_n 0, 1) := by decide +kernel
theorem dc_347_118 : decode (sm_cc 347) 118 = .ok (.bipush (36), 2) := by decide +kernel
theorem dc_347_120 : decode (sm_cc 347) 120 = .ok (.invokevirtual 269, 3) := by decide +kernel
theorem dc_347_123 : decode (sm_cc 347) 123 = .ok (.aload_n 0, 1) := by decide +kernel
theorem dc_347_124 : decode (sm_cc 347) 124 = .ok (.getfield 129, 3) := by decide +kernel
theorem dc_347_127 : decode (sm_cc 347) 127 = .ok (.aload_n 0, 1) := by decide +kernel
theorem dc_347_128 : decode (sm_cc 347) 128 = .ok (.getfield 190, 3) := by decide +kernel
theorem dc_347_131 : decode (sm_cc 347) 131 = .ok (.iaload, 1) := by decide +kernel
theorem dc_347_132 : decode (sm_cc 347) 132 = .ok (.iconst 1, 1) := by decide +kernel
theorem dc_347_133 : decode (sm_cc 347) 133 = .ok (.if_icmp .ne (31), 3) := by decide +kernel
theorem dc_347_164 : decode (sm_cc 347) 164 = .ok (.aload_n 0, 1) := by decide +kernel
theorem dc_347_165 : decode (sm_cc 347) 165 = .ok (.bipush (20), 2) := by decide +kernel
theorem dc_347_167 : decode (sm_cc 347) 167 = .ok (.invokevirtual 269, 3) := by decide +kernel
theorem dc_347_170 : decode (sm_cc 347) 170 = .ok (.aload_n 0, 1) := by decide +kernel
theorem dc_347_171 : decode (sm_cc 347) 171 = .ok (.iload_n 1, 1) := by decide +kernel
theorem dc_347_172 : decode (sm_cc 347) 172 = .ok (.iconst 0, 1) := by decide +kernel
theorem dc_347_173 : decode (sm_cc 347) 173 = .ok (.invokevirtual 309, 3) := by decide +kernel
theorem dc_347_176 : decode (sm_cc 347) 176 = .ok (.ifCond .ne (5), 3) := by decide +kernel
theorem dc_347_181 : decode (sm_cc 347) 181 = .ok (.aload_n 0, 1) := by decide +kernel
theorem dc_347_182 : decode (sm_cc 347) 182 = .ok (.iload_n 3, 1) := by decide +kernel
theorem dc_347_183 : decode (sm_cc 347) 183 = .ok (.invokevirtual 317, 3) := by decide +kernel
theorem dc_347_186 : decode (sm_cc 347) 186 = .ok (.iconst 1, 1) := by decide +kernel
theorem dc_347_187 : decode (sm_cc 347) 187 = .ok (.ireturn, 1) := by decide +kernel
theorem dc_347_179 : decode (sm_cc 347) 179 = .ok (.iconst 0, 1) := by decide +kernel
theorem dc_347_180 : decode (sm_cc 347) 180 = .ok (.ireturn, 1) := by decide +kernel
theorem dc_347_136 : decode (sm_cc 347) 136 = .ok (.aload_n 0, 1) := by decide +kernel
theorem dc_347_137 : decode (sm_cc 347) 137 = .ok (.bipush (6), 2) := by decide +kernel
theorem dc_347_139 : decode (sm_cc 347) 139 = .ok (.aload_n 0, 1) := by decide +kernel
theorem dc_347_140 : decode (sm_cc 347) 140 = .ok (.getfield 135, 3) := by decide +kernel
theorem fr_347_135 : sm_at mt_f (sm_ow 347) 135 = some (135, 14, 7, 0, 2080) := by decide +kernel
theorem dc_347_143 : decode (sm_cc 347) 143 = .ok (.aload_n 0, 1) := by decide +kernel
theorem dc_347_144 : decode (sm_cc 347) 144 = .ok (.getfield 190, 3) := by decide +kernel
theorem dc_347_147 : decode (sm_cc 347) 147 = .ok (.iaload, 1) := by decide +kernel
theorem dc_347_148 : decode (sm_cc 347) 148 = .ok (.invokevirtual 341, 3) := by decide +kernel
theorem kr_347_341 : sm_at mt_k (sm_ow 347) 341 = some (341, 0, 317, 0, 2526) := by decide +kernel
theorem dc_347_151 : decode (sm_cc 347) 151 = .ok (.aload_n 0, 1) := by decide +kernel
theorem dc_347_152 : decode (sm_cc 347) 152 = .ok (.dup, 1) := by decide +kernel
theorem dc_347_153 : decode (sm_cc 347) 153 = .ok (.getfield 190, 3) := by decide +kernel
theorem dc_347_156 : decode (sm_cc 347) 156 = .ok (.iconst 1, 1) := by decide +kernel
theorem dc_347_157 : decode (sm_cc 347) 157 = .ok (.iadd, 1) := by decide +kernel
theorem dc_347_158 : decode (sm_cc 347) 158 = .ok (.putfield 190, 3) := by decide +kernel
theorem dc_347_161 : decode (sm_cc 347) 161 = .ok (.goto (9), 3) := by decide +kernel
theorem dc_347_36 : decode (sm_cc 347) 36 = .ok (.iconst 0, 1) := by decide +kernel
theorem dc_347_37 : decode (sm_cc 347) 37 = .ok (.ireturn, 1) := by decide +kernel
theorem dc_339_0 : decode (sm_cc 339) 0 = .ok (.aload_n 0, 1) := by decide +kernel
theorem dc_339_1 : decode (sm_cc 339) 1 = .ok (.aload_n 0, 1) := by decide +kernel
theorem dc_339_2 : decode (sm_cc 339) 2 = .ok (.getfield 236, 3) := by decide +kernel
theorem fr_339_236 : sm_at mt_f (sm_ow 339) 236 = some (236, 14, 22, 0, 2095) := by decide +kernel
theorem dc_339_5 : decode (sm_cc 339) 5 = .ok (.iload_n 1, 1) := by decide +kernel
theorem dc_339_6 : decode (sm_cc 339) 6 = .ok (.invokevirtual 353, 3) := by decide +kernel
theorem kr_339_353 : sm_at mt_k (sm_ow 339) 353 = some (353, 0, 319, 0, 2534) := by decide +kernel
theorem dc_339_9 : decode (sm_cc 339) 9 = .ok (.ifCond .lt (4), 3) := by decide +kernel
theorem dc_339_12 : decode (sm_cc 339) 12 = .ok (.return_, 1) := by decide +kernel
theorem rt_339 : sm_rt 339 = none := by decide +kernel
theorem dc_343_0 : decode (sm_cc 343) 0 = .ok (.aload_n 0, 1) := by decide +kernel
theorem dc_343_1 : decode (sm_cc 343) 1 = .ok (.getfield 320, 3) := by decide +kernel
theorem fr_343_320 : sm_at mt_f (sm_ow 343) 320 = some (320, 14, 24, 0, 2097) := by decide +kernel
theorem dc_343_4 : decode (sm_cc 343) 4 = .ok (.aload_n 0, 1) := by decide +kernel
theorem dc_343_5 : decode (sm_cc 343) 5 = .ok (.getfield 242, 3) := by decide +kernel
theorem fr_343_242 : sm_at mt_f (sm_ow 343) 242 = some (242, 14, 26, 0, 2099) := by decide +kernel
theorem dc_343_8 : decode (sm_cc 343) 8 = .ok (.iload_n 1, 1) := by decide +kernel
theorem dc_343_9 : decode (sm_cc 343) 9 = .ok (.iastore, 1) := by decide +kernel
theorem dc_343_10 : decode (sm_cc 343) 10 = .ok (.aload_n 0, 1) := by decide +kernel
theorem dc_343_11 : decode (sm_cc 343) 11 = .ok (.getfield 323, 3) := by decide +kernel
theorem fr_343_323 : sm_at mt_f (sm_ow 343) 323 = some (323, 14, 25, 0, 2098) := by decide +kernel
theorem dc_343_14 : decode (sm_cc 343) 14 = .ok (.aload_n 0, 1) := by decide +kernel
theorem dc_343_15 : decode (sm_cc 343) 15 = .ok (.getfield 242, 3) := by decide +kernel
theorem dc_343_18 : decode (sm_cc 343) 18 = .ok (.aload_n 0, 1) := by decide +kernel
theorem dc_343_19 : decode (sm_cc 343) 19 = .ok (.getfield 245, 3) := by decide +kernel
theorem fr_343_245 : sm_at mt_f (sm_ow 343) 245 = some (245, 14, 27, 0, 2100) := by decide +kernel
theorem dc_343_22 : decode (sm_cc 343) 22 = .ok (.iastore, 1) := by decide +kernel
theorem dc_343_23 : decode (sm_cc 343) 23 = .ok (.aload_n 0, 1) := by decide +kernel
theorem dc_343_24 : decode (sm_cc 343) 24 = .ok (.dup, 1) := by decide +kernel
theorem dc_343_25 : decode (sm_cc 343) 25 = .ok (.getfield 242, 3) := by decide +kernel
theorem dc_343_28 : decode (sm_cc 343) 28 = .ok (.iconst 1, 1) := by decide +kernel
theorem dc_343_29 : decode (sm_cc 343) 29 = .ok (.iadd, 1) := by decide +kernel
theorem dc_343_30 : decode (sm_cc 343) 30 = .ok (.putfield 242, 3) := by decide +kernel
theorem dc_343_33 : decode (sm_cc 343) 33 = .ok (.return_, 1) := by decide +kernel
theorem rt_343 : sm_rt 343 = none := by decide +kernel
theorem sDel_1 {d : Nat} {S : cS} {k : Nat} {S1 : cS} {k1 : Nat} {e68 : Nat} {tg : Nat} {S2 : cS} {S3 : cS} (hk : sI S 6115 = nI k) (mk : k < 5990) (c1 : Ans (d + 8) 306 [.ref 61, .int (nI 0)] (wI 6115 (nI (k + 1)) S) (some (.int (nI 1))) S1) (hk1 : sI S1 6115 = nI k1) (mk1 : k1 < 5990) (b1 : 1 ≤ k1) (he68 : sA S1 68 (k1 - 1) = nI e68) (me68 : e68 < 2 ^ 20) (htg : sI S1 6131 = nI tg) (mtg : tg < 2 ^ 20) (b2 : tg ≠ 0) (c2 : Ans (d + 8) 327 [.ref 61] S1 none S2) (b3 : tg ≠ 1) (b4 : tg ≠ 2) (c3 : Ans (d + 8) 302 [.ref 61, .int (nI 26), .int (nI e68)] S2 none S3) : Bod (d + 8) 328 0 [(0, .ref 61)] [] S (some (.int 1)) (S3) := by
  refine Bod.go dc_328_0 rfl ?_
  refine Bod.go dc_328_1 rfl ?_
  refine Bod.get dc_328_2 fr_328_190 (mk_61 _) rfl ?_
  refine Bod.eqI (nI k) (by first | assumption | rfl | exact congrArg nI (by omega) | (simp (disch := omega) only [rI, rIe, rA, rIA, rLA, rJA, rVI, rQI, rVA, rQA, upd_at,  rAI, rLI, rJI, nI_add, pk_sub, kc_0, kc_1, kc_2, kc_3, kc_4, kc_5, reduceIte, Nat.reduceEqDiff, Nat.add_zero, rI_hold, rI_hold, rL_hold, hk]; done)) ?_
  refine Bod.ic 1 (by decide) dc_328_5 ?_
  refine Bod.addN (k + 1) (by omega) dc_328_6 ?_
  refine Bod.put dc_328_7 fr_328_190 (mk_61 _) (Nat.le_of_ble_eq_true rfl) pf_14_15 (st_6115 _ _) (mu_I _ _ _) ?_
  refine Bod.go dc_328_10 rfl ?_
  refine Bod.ic 0 (by decide) dc_328_11 ?_
  refine Bod.virt (r := []) dc_328_12 kr_328_302 ⟨Or.inl rfl, ow_306, cl_14⟩ (by rw [np_306]; rfl) (by rw [np_306]; rfl) (ob_of (mk_61 _)) (Nat.le_of_ble_eq_true rfl) (c1  ) ?_
  show Bod _ _ _ _ [_] _ _ _
  refine Bod.ifT dc_328_15 rfl (k1_ne_T (k_ne 1 0 rfl rfl (by omega) (by omega) (by omega))) ?_
  refine Bod.go dc_328_20 rfl ?_
  refine Bod.get dc_328_21 fr_328_135 (mk_61 _) rfl ?_
  refine Bod.go dc_328_24 rfl ?_
  refine Bod.get dc_328_25 fr_328_190 (mk_61 _) rfl ?_
  refine Bod.eqI (nI k1) (by first | (simp (disch := omega) only [rI, rIe, rA, rIA, rLA, rJA, rVI, rQI, rVA, rQA, upd_at,  rAI, rLI, rJI, nI_add, pk_sub, kc_0, kc_1, kc_2, kc_3, kc_4, kc_5, reduceIte, Nat.reduceEqDiff, Nat.add_zero, rI_hold, rI_hold, rL_hold, hk, hk1]; done) | (simp (disch := omega) only [rI, rIe, rA, rIA, rLA, rJA, rVI, rQI, rVA, rQA, upd_at,  rAI, rLI, rJI, nI_add, pk_sub, kc_0, kc_1, kc_2, kc_3, kc_4, kc_5, reduceIte, Nat.reduceEqDiff, Nat.add_zero, rI_hold, rI_hold, rL_hold, hk, hk1]; exact congrArg nI (by omega))) ?_
  refine Bod.ic 1 (by decide) dc_328_28 ?_
  refine Bod.subN (k1 - 1) (by omega) (by omega) dc_328_29 ?_
  refine Bod.ialdN (k1 - 1) rfl (by omega) (by omega) dc_328_30 (mk_68 _) ?_
  refine Bod.eqI (nI e68) (by first | (simp (disch := omega) only [rI, rIe, rA, rIA, rLA, rJA, rVI, rQI, rVA, rQA, upd_at,  rAI, rLI, rJI, nI_add, pk_sub, kc_0, kc_1, kc_2, kc_3, kc_4, kc_5, reduceIte, Nat.reduceEqDiff, Nat.add_zero, rI_hold, rI_hold, rL_hold, hk, hk1, he68]; done) | (simp (disch := omega) only [rI, rIe, rA, rIA, rLA, rJA, rVI, rQI, rVA, rQA, upd_at,  rAI, rLI, rJI, nI_add, pk_sub, kc_0, kc_1, kc_2, kc_3, kc_4, kc_5, reduceIte, Nat.reduceEqDiff, Nat.add_zero, rI_hold, rI_hold, rL_hold, hk, hk1, he68]; exact congrArg nI (by omega))) ?_
  refine Bod.istn dc_328_31 (by rw [ml_328]; exact Nat.le_of_ble_eq_true rfl) ?_
  refine Bod.go dc_328_32 rfl ?_
  refine Bod.get dc_328_33 fr_328_397 (mk_61 _) rfl ?_
  refine Bod.eqI (nI tg) (by first | (simp (disch := omega) only [rI, rIe, rA, rIA, rLA, rJA, rVI, rQI, rVA, rQA, upd_at,  rAI, rLI, rJI, nI_add, pk_sub, kc_0, kc_1, kc_2, kc_3, kc_4, kc_5, reduceIte, Nat.reduceEqDiff, Nat.add_zero, rI_hold, rI_hold, rL_hold, hk, hk1, he68, htg]; done) | (simp (disch := omega) only [rI, rIe, rA, rIA, rLA, rJA, rVI, rQI, rVA, rQA, upd_at,  rAI, rLI, rJI, nI_add, pk_sub, kc_0, kc_1, kc_2, kc_3, kc_4, kc_5, reduceIte, Nat.reduceEqDiff, Nat.add_zero, rI_hold, rI_hold, rL_hold, hk, hk1, he68, htg]; exact congrArg nI (by omega))) ?_
  refine Bod.ifT dc_328_36 rfl (k1_ne_T (k_ne tg 0 rfl rfl (by omega) (by omega) (by omega))) ?_
  refine Bod.go dc_328_44 rfl ?_
  refine Bod.get dc_328_45 fr_328_397 (mk_61 _) rfl ?_
  refine Bod.eqI (nI tg) (by first | (simp (disch := omega) only [rI, rIe, rA, rIA, rLA, rJA, rVI, rQI, rVA, rQA, upd_at,  rAI, rLI, rJI, nI_add, pk_sub, kc_0, kc_1, kc_2, kc_3, kc_4, kc_5, reduceIte, Nat.reduceEqDiff, Nat.add_zero, rI_hold, rI_hold, rL_hold, hk, hk1, he68, htg]; done) | (simp (disch := omega) only [rI, rIe, rA, rIA, rLA, rJA, rVI, rQI, rVA, rQA, upd_at,  rAI, rLI, rJI, nI_add, pk_sub, kc_0, kc_1, kc_2, kc_3, kc_4, kc_5, reduceIte, Nat.reduceEqDiff, Nat.add_zero, rI_hold, rI_hold, rL_hold, hk, hk1, he68, htg]; exact congrArg nI (by omega))) ?_
  refine Bod.istn dc_328_48 (by rw [ml_328]; exact Nat.le_of_ble_eq_true rfl) ?_
  refine Bod.go dc_328_49 rfl ?_
  refine Bod.virt (r := []) dc_328_50 kr_328_447 ⟨Or.inl rfl, ow_327, cl_14⟩ (by rw [np_327]; rfl) (by rw [np_327]; rfl) (ob_of (mk_61 _)) (Nat.le_of_ble_eq_true rfl) (c2  ) ?_
  show Bod _ _ _ _ [] _ _ _
  refine Bod.go dc_328_53 rfl ?_
  refine Bod.ic 1 (by decide) dc_328_54 ?_
  refine Bod.icT dc_328_55 rfl (k2_ne_T (k_ne tg 1 rfl rfl (by omega) (by omega) (by omega))) ?_
  refine Bod.go dc_328_68 rfl ?_
  refine Bod.ic 2 (by decide) dc_328_69 ?_
  refine Bod.icT dc_328_70 rfl (k2_ne_T (k_ne tg 2 rfl rfl (by omega) (by omega) (by omega))) ?_
  refine Bod.go dc_328_82 rfl ?_
  refine Bod.bip 26 (by decide) dc_328_83 ?_
  refine Bod.go dc_328_85 rfl ?_
  refine Bod.virt (r := []) dc_328_86 kr_328_216 ⟨Or.inl rfl, ow_302, cl_14⟩ (by rw [np_302]; rfl) (by rw [np_302]; rfl) (ob_of (mk_61 _)) (Nat.le_of_ble_eq_true rfl) (c3  ) ?_
  show Bod _ _ _ _ [] _ _ _
  refine Bod.ic 1 (by decide) dc_328_89 ?_
  exact Bod.retZ dc_328_90 rt_328 (Or.inr rfl)
theorem sDel_2 {d : Nat} {S : cS} {k : Nat} {S1 : cS} {k1 : Nat} {e68 : Nat} {tg : Nat} {S2 : cS} {S3 : cS} (hk : sI S 6115 = nI k) (mk : k < 5990) (c1 : Ans (d + 8) 306 [.ref 61, .int (nI 0)] (wI 6115 (nI (k + 1)) S) (some (.int (nI 1))) S1) (hk1 : sI S1 6115 = nI k1) (mk1 : k1 < 5990) (b1 : 1 ≤ k1) (he68 : sA S1 68 (k1 - 1) = nI e68) (me68 : e68 < 2 ^ 20) (htg : sI S1 6131 = nI tg) (mtg : tg < 2 ^ 20) (b2 : tg ≠ 0) (c2 : Ans (d + 8) 327 [.ref 61] S1 none S2) (b3 : tg ≠ 1) (b4 : tg = 2) (c3 : Ans (d + 8) 322 [.ref 61, .int (nI 25)] S2 none S3) : Bod (d + 8) 328 0 [(0, .ref 61)] [] S (some (.int 1)) (S3) := by
  refine Bod.go dc_328_0 rfl ?_
  refine Bod.go dc_328_1 rfl ?_
  refine Bod.get dc_328_2 fr_328_190 (mk_61 _) rfl ?_
  refine Bod.eqI (nI k) (by first | assumption | rfl | exact congrArg nI (by omega) | (simp (disch := omega) only [rI, rIe, rA, rIA, rLA, rJA, rVI, rQI, rVA, rQA, upd_at,  rAI, rLI, rJI, nI_add, pk_sub, kc_0, kc_1, kc_2, kc_3, kc_4, kc_5, reduceIte, Nat.reduceEqDiff, Nat.add_zero, rI_hold, rI_hold, rL_hold, hk]; done)) ?_
  refine Bod.ic 1 (by decide) dc_328_5 ?_
  refine Bod.addN (k + 1) (by omega) dc_328_6 ?_
  refine Bod.put dc_328_7 fr_328_190 (mk_61 _) (Nat.le_of_ble_eq_true rfl) pf_14_15 (st_6115 _ _) (mu_I _ _ _) ?_
  refine Bod.go dc_328_10 rfl ?_
  refine Bod.ic 0 (by decide) dc_328_11 ?_
  refine Bod.virt (r := []) dc_328_12 kr_328_302 ⟨Or.inl rfl, ow_306, cl_14⟩ (by rw [np_306]; rfl) (by rw [np_306]; rfl) (ob_of (mk_61 _)) (Nat.le_of_ble_eq_true rfl) (c1  ) ?_
  show Bod _ _ _ _ [_] _ _ _
  refine Bod.ifT dc_328_15 rfl (k1_ne_T (k_ne 1 0 rfl rfl (by omega) (by omega) (by omega))) ?_
  refine Bod.go dc_328_20 rfl ?_
  refine Bod.get dc_328_21 fr_328_135 (mk_61 _) rfl ?_
  refine Bod.go dc_328_24 rfl ?_
  refine Bod.get dc_328_25 fr_328_190 (mk_61 _) rfl ?_
  refine Bod.eqI (nI k1) (by first | (simp (disch := omega) only [rI, rIe, rA, rIA, rLA, rJA, rVI, rQI, rVA, rQA, upd_at,  rAI, rLI, rJI, nI_add, pk_sub, kc_0, kc_1, kc_2, kc_3, kc_4, kc_5, reduceIte, Nat.reduceEqDiff, Nat.add_zero, rI_hold, rI_hold, rL_hold, hk, hk1]; done) | (simp (disch := omega) only [rI, rIe, rA, rIA, rLA, rJA, rVI, rQI, rVA, rQA, upd_at,  rAI, rLI, rJI, nI_add, pk_sub, kc_0, kc_1, kc_2, kc_3, kc_4, kc_5, reduceIte, Nat.reduceEqDiff, Nat.add_zero, rI_hold, rI_hold, rL_hold, hk, hk1]; exact congrArg nI (by omega))) ?_
  refine Bod.ic 1 (by decide) dc_328_28 ?_
  refine Bod.subN (k1 - 1) (by omega) (by omega) dc_328_29 ?_
  refine Bod.ialdN (k1 - 1) rfl (by omega) (by omega) dc_328_30 (mk_68 _) ?_
  refine Bod.eqI (nI e68) (by first | (simp (disch := omega) only [rI, rIe, rA, rIA, rLA, rJA, rVI, rQI, rVA, rQA, upd_at,  rAI, rLI, rJI, nI_add, pk_sub, kc_0, kc_1, kc_2, kc_3, kc_4, kc_5, reduceIte, Nat.reduceEqDiff, Nat.add_zero, rI_hold, rI_hold, rL_hold, hk, hk1, he68]; done) | (simp (disch := omega) only [rI, rIe, rA, rIA, rLA, rJA, rVI, rQI, rVA, rQA, upd_at,  rAI, rLI, rJI, nI_add, pk_sub, kc_0, kc_1, kc_2, kc_3, kc_4, kc_5, reduceIte, Nat.reduceEqDiff, Nat.add_zero, rI_hold, rI_hold, rL_hold, hk, hk1, he68]; exact congrArg nI (by omega))) ?_
  refine Bod.istn dc_328_31 (by rw [ml_328]; exact Nat.le_of_ble_eq_true rfl) ?_
  refine Bod.go dc_328_32 rfl ?_
  refine Bod.get dc_328_33 fr_328_397 (mk_61 _) rfl ?_
  refine Bod.eqI (nI tg) (by first | (simp (disch := omega) only [rI, rIe, rA, rIA, rLA, rJA, rVI, rQI, rVA, rQA, upd_at,  rAI, rLI, rJI, nI_add, pk_sub, kc_0, kc_1, kc_2, kc_3, kc_4, kc_5, reduceIte, Nat.reduceEqDiff, Nat.add_zero, rI_hold, rI_hold, rL_hold, hk, hk1, he68, htg]; done) | (simp (disch := omega) only [rI, rIe, rA, rIA, rLA, rJA, rVI, rQI, rVA, rQA, upd_at,  rAI, rLI, rJI, nI_add, pk_sub, kc_0, kc_1, kc_2, kc_3, kc_4, kc_5, reduceIte, Nat.reduceEqDiff, Nat.add_zero, rI_hold, rI_hold, rL_hold, hk, hk1, he68, htg]; exact congrArg nI (by omega))) ?_
  refine Bod.ifT dc_328_36 rfl (k1_ne_T (k_ne tg 0 rfl rfl (by omega) (by omega) (by omega))) ?_
  refine Bod.go dc_328_44 rfl ?_
  refine Bod.get dc_328_45 fr_328_397 (mk_61 _) rfl ?_
  refine Bod.eqI (nI tg) (by first | (simp (disch := omega) only [rI, rIe, rA, rIA, rLA, rJA, rVI, rQI, rVA, rQA, upd_at,  rAI, rLI, rJI, nI_add, pk_sub, kc_0, kc_1, kc_2, kc_3, kc_4, kc_5, reduceIte, Nat.reduceEqDiff, Nat.add_zero, rI_hold, rI_hold, rL_hold, hk, hk1, he68, htg]; done) | (simp (disch := omega) only [rI, rIe, rA, rIA, rLA, rJA, rVI, rQI, rVA, rQA, upd_at,  rAI, rLI, rJI, nI_add, pk_sub, kc_0, kc_1, kc_2, kc_3, kc_4, kc_5, reduceIte, Nat.reduceEqDiff, Nat.add_zero, rI_hold, rI_hold, rL_hold, hk, hk1, he68, htg]; exact congrArg nI (by omega))) ?_
  refine Bod.istn dc_328_48 (by rw [ml_328]; exact Nat.le_of_ble_eq_true rfl) ?_
  refine Bod.go dc_328_49 rfl ?_
  refine Bod.virt (r := []) dc_328_50 kr_328_447 ⟨Or.inl rfl, ow_327, cl_14⟩ (by rw [np_327]; rfl) (by rw [np_327]; rfl) (ob_of (mk_61 _)) (Nat.le_of_ble_eq_true rfl) (c2  ) ?_
  show Bod _ _ _ _ [] _ _ _
  refine Bod.go dc_328_53 rfl ?_
  refine Bod.ic 1 (by decide) dc_328_54 ?_
  refine Bod.icT dc_328_55 rfl (k2_ne_T (k_ne tg 1 rfl rfl (by omega) (by omega) (by omega))) ?_
  refine Bod.go dc_328_68 rfl ?_
  refine Bod.ic 2 (by decide) dc_328_69 ?_
  refine Bod.icF dc_328_70 rfl (k2_ne_F (k_eq tg 2 rfl rfl (by omega))) ?_
  refine Bod.go dc_328_73 rfl ?_
  refine Bod.bip 25 (by decide) dc_328_74 ?_
  refine Bod.virt (r := []) dc_328_76 kr_328_269 ⟨Or.inl rfl, ow_322, cl_14⟩ (by rw [np_322]; rfl) (by rw [np_322]; rfl) (ob_of (mk_61 _)) (Nat.le_of_ble_eq_true rfl) (c3  ) ?_
  show Bod _ _ _ _ [] _ _ _
  refine Bod.go dc_328_79 rfl ?_
  refine Bod.ic 1 (by decide) dc_328_89 ?_
  exact Bod.retZ dc_328_90 rt_328 (Or.inr rfl)
theorem sDel_3 {d : Nat} {S : cS} {k : Nat} {S1 : cS} {k1 : Nat} {e68 : Nat} {tg : Nat} {S2 : cS} {S3 : cS} (hk : sI S 6115 = nI k) (mk : k < 5990) (c1 : Ans (d + 8) 306 [.ref 61, .int (nI 0)] (wI 6115 (nI (k + 1)) S) (some (.int (nI 1))) S1) (hk1 : sI S1 6115 = nI k1) (mk1 : k1 < 5990) (b1 : 1 ≤ k1) (he68 : sA S1 68 (k1 - 1) = nI e68) (me68 : e68 < 2 ^ 20) (htg : sI S1 6131 = nI tg) (mtg : tg < 2 ^ 20) (b2 : tg ≠ 0) (c2 : Ans (d + 8) 327 [.ref 61] S1 none S2) (b3 : tg = 1) (c3 : Ans (d + 8) 317 [.ref 61, .int (nI 7), .int (nI e68)] S2 none S3) : Bod (d + 8) 328 0 [(0, .ref 61)] [] S (some (.int 1)) (S3) := by
  refine Bod.go dc_328_0 rfl ?_
  refine Bod.go dc_328_1 rfl ?_
  refine Bod.get dc_328_2 fr_328_190 (mk_61 _) rfl ?_
  refine Bod.eqI (nI k) (by first | assumption | rfl | exact congrArg nI (by omega) | (simp (disch := omega) only [rI, rIe, rA, rIA, rLA, rJA, rVI, rQI, rVA, rQA, upd_at,  rAI, rLI, rJI, nI_add, pk_sub, kc_0, kc_1, kc_2, kc_3, kc_4, kc_5, reduceIte, Nat.reduceEqDiff, Nat.add_zero, rI_hold, rI_hold, rL_hold, hk]; done)) ?_
  refine Bod.ic 1 (by decide) dc_328_5 ?_
  refine Bod.addN (k + 1) (by omega) dc_328_6 ?_
  refine Bod.put dc_328_7 fr_328_190 (mk_61 _) (Nat.le_of_ble_eq_true rfl) pf_14_15 (st_6115 _ _) (mu_I _ _ _) ?_
  refine Bod.go dc_328_10 rfl ?_
  refine Bod.ic 0 (by decide) dc_328_11 ?_
  refine Bod.virt (r := []) dc_328_12 kr_328_302 ⟨Or.inl rfl, ow_306, cl_14⟩ (by rw [np_306]; rfl) (by rw [np_306]; rfl) (ob_of (mk_61 _)) (Nat.le_of_ble_eq_true rfl) (c1  ) ?_
  show Bod _ _ _ _ [_] _ _ _
  refine Bod.ifT dc_328_15 rfl (k1_ne_T (k_ne 1 0 rfl rfl (by omega) (by omega) (by omega))) ?_
  refine Bod.go dc_328_20 rfl ?_
  refine Bod.get dc_328_21 fr_328_135 (mk_61 _) rfl ?_
  refine Bod.go dc_328_24 rfl ?_
  refine Bod.get dc_328_25 fr_328_190 (mk_61 _) rfl ?_
  refine Bod.eqI (nI k1) (by first | (simp (disch := omega) only [rI, rIe, rA, rIA, rLA, rJA, rVI, rQI, rVA, rQA, upd_at,  rAI, rLI, rJI, nI_add, pk_sub, kc_0, kc_1, kc_2, kc_3, kc_4, kc_5, reduceIte, Nat.reduceEqDiff, Nat.add_zero, rI_hold, rI_hold, rL_hold, hk, hk1]; done) | (simp (disch := omega) only [rI, rIe, rA, rIA, rLA, rJA, rVI, rQI, rVA, rQA, upd_at,  rAI, rLI, rJI, nI_add, pk_sub, kc_0, kc_1, kc_2, kc_3, kc_4, kc_5, reduceIte, Nat.reduceEqDiff, Nat.add_zero, rI_hold, rI_hold, rL_hold, hk, hk1]; exact congrArg nI (by omega))) ?_
  refine Bod.ic 1 (by decide) dc_328_28 ?_
  refine Bod.subN (k1 - 1) (by omega) (by omega) dc_328_29 ?_
  refine Bod.ialdN (k1 - 1) rfl (by omega) (by omega) dc_328_30 (mk_68 _) ?_
  refine Bod.eqI (nI e68) (by first | (simp (disch := omega) only [rI, rIe, rA, rIA, rLA, rJA, rVI, rQI, rVA, rQA, upd_at,  rAI, rLI, rJI, nI_add, pk_sub, kc_0, kc_1, kc_2, kc_3, kc_4, kc_5, reduceIte, Nat.reduceEqDiff, Nat.add_zero, rI_hold, rI_hold, rL_hold, hk, hk1, he68]; done) | (simp (disch := omega) only [rI, rIe, rA, rIA, rLA, rJA, rVI, rQI, rVA, rQA, upd_at,  rAI, rLI, rJI, nI_add, pk_sub, kc_0, kc_1, kc_2, kc_3, kc_4, kc_5, reduceIte, Nat.reduceEqDiff, Nat.add_zero, rI_hold, rI_hold, rL_hold, hk, hk1, he68]; exact congrArg nI (by omega))) ?_
  refine Bod.istn dc_328_31 (by rw [ml_328]; exact Nat.le_of_ble_eq_true rfl) ?_
  refine Bod.go dc_328_32 rfl ?_
  refine Bod.get dc_328_33 fr_328_397 (mk_61 _) rfl ?_
  refine Bod.eqI (nI tg) (by first | (simp (disch := omega) only [rI, rIe, rA, rIA, rLA, rJA, rVI, rQI, rVA, rQA, upd_at,  rAI, rLI, rJI, nI_add, pk_sub, kc_0, kc_1, kc_2, kc_3, kc_4, kc_5, reduceIte, Nat.reduceEqDiff, Nat.add_zero, rI_hold, rI_hold, rL_hold, hk, hk1, he68, htg]; done) | (simp (disch := omega) only [rI, rIe, rA, rIA, rLA, rJA, rVI, rQI, rVA, rQA, upd_at,  rAI, rLI, rJI, nI_add, pk_sub, kc_0, kc_1, kc_2, kc_3, kc_4, kc_5, reduceIte, Nat.reduceEqDiff, Nat.add_zero, rI_hold, rI_hold, rL_hold, hk, hk1, he68, htg]; exact congrArg nI (by omega))) ?_
  refine Bod.ifT dc_328_36 rfl (k1_ne_T (k_ne tg 0 rfl rfl (by omega) (by omega) (by omega))) ?_
  refine Bod.go dc_328_44 rfl ?_
  refine Bod.get dc_328_45 fr_328_397 (mk_61 _) rfl ?_
  refine Bod.eqI (nI tg) (by first | (simp (disch := omega) only [rI, rIe, rA, rIA, rLA, rJA, rVI, rQI, rVA, rQA, upd_at,  rAI, rLI, rJI, nI_add, pk_sub, kc_0, kc_1, kc_2, kc_3, kc_4, kc_5, reduceIte, Nat.reduceEqDiff, Nat.add_zero, rI_hold, rI_hold, rL_hold, hk, hk1, he68, htg]; done) | (simp (disch := omega) only [rI, rIe, rA, rIA, rLA, rJA, rVI, rQI, rVA, rQA, upd_at,  rAI, rLI, rJI, nI_add, pk_sub, kc_0, kc_1, kc_2, kc_3, kc_4, kc_5, reduceIte, Nat.reduceEqDiff, Nat.add_zero, rI_hold, rI_hold, rL_hold, hk, hk1, he68, htg]; exact congrArg nI (by omega))) ?_
  refine Bod.istn dc_328_48 (by rw [ml_328]; exact Nat.le_of_ble_eq_true rfl) ?_
  refine Bod.go dc_328_49 rfl ?_
  refine Bod.virt (r := []) dc_328_50 kr_328_447 ⟨Or.inl rfl, ow_327, cl_14⟩ (by rw [np_327]; rfl) (by rw [np_327]; rfl) (ob_of (mk_61 _)) (Nat.le_of_ble_eq_true rfl) (c2  ) ?_
  show Bod _ _ _ _ [] _ _ _
  refine Bod.go dc_328_53 rfl ?_
  refine Bod.ic 1 (by decide) dc_328_54 ?_
  refine Bod.icF dc_328_55 rfl (k2_ne_F (k_eq tg 1 rfl rfl (by omega))) ?_
  refine Bod.go dc_328_58 rfl ?_
  refine Bod.bip 7 (by decide) dc_328_59 ?_
  refine Bod.go dc_328_61 rfl ?_
  refine Bod.virt (r := []) dc_328_62 kr_328_341 ⟨Or.inl rfl, ow_317, cl_14⟩ (by rw [np_317]; rfl) (by rw [np_317]; rfl) (ob_of (mk_61 _)) (Nat.le_of_ble_eq_true rfl) (c3  ) ?_
  show Bod _ _ _ _ [] _ _ _
  refine Bod.go dc_328_65 rfl ?_
  refine Bod.ic 1 (by decide) dc_328_89 ?_
  exact Bod.retZ dc_328_90 rt_328 (Or.inr rfl)
theorem sDel_4 {d : Nat} {S : cS} {k : Nat} {S1 : cS} {k1 : Nat} {e68 : Nat} {tg : Nat} {S2 : cS} (hk : sI S 6115 = nI k) (mk : k < 5990) (c1 : Ans (d + 8) 306 [.ref 61, .int (nI 0)] (wI 6115 (nI (k + 1)) S) (some (.int (nI 1))) S1) (hk1 : sI S1 6115 = nI k1) (mk1 : k1 < 5990) (b1 : 1 ≤ k1) (he68 : sA S1 68 (k1 - 1) = nI e68) (me68 : e68 < 2 ^ 20) (htg : sI S1 6131 = nI tg) (mtg : tg < 2 ^ 20) (b2 : tg = 0) (c2 : Ans (d + 8) 299 [.ref 61] S1 (some (.int (nI 1))) S2) : Bod (d + 8) 328 0 [(0, .ref 61)] [] S (some (.int 1)) (S2) := by
  refine Bod.go dc_328_0 rfl ?_
  refine Bod.go dc_328_1 rfl ?_
  refine Bod.get dc_328_2 fr_328_190 (mk_61 _) rfl ?_
  refine Bod.eqI (nI k) (by first | assumption | rfl | exact congrArg nI (by omega) | (simp (disch := omega) only [rI, rIe, rA, rIA, rLA, rJA, rVI, rQI, rVA, rQA, upd_at,  rAI, rLI, rJI, nI_add, pk_sub, kc_0, kc_1, kc_2, kc_3, kc_4, kc_5, reduceIte, Nat.reduceEqDiff, Nat.add_zero, rI_hold, rI_hold, rL_hold, hk]; done)) ?_
  refine Bod.ic 1 (by decide) dc_328_5 ?_
  refine Bod.addN (k + 1) (by omega) dc_328_6 ?_
  refine Bod.put dc_328_7 fr_328_190 (mk_61 _) (Nat.le_of_ble_eq_true rfl) pf_14_15 (st_6115 _ _) (mu_I _ _ _) ?_
  refine Bod.go dc_328_10 rfl ?_
  refine Bod.ic 0 (by decide) dc_328_11 ?_
  refine Bod.virt (r := []) dc_328_12 kr_328_302 ⟨Or.inl rfl, ow_306, cl_14⟩ (by rw [np_306]; rfl) (by rw [np_306]; rfl) (ob_of (mk_61 _)) (Nat.le_of_ble_eq_true rfl) (c1  ) ?_
  show Bod _ _ _ _ [_] _ _ _
  refine Bod.ifT dc_328_15 rfl (k1_ne_T (k_ne 1 0 rfl rfl (by omega) (by omega) (by omega))) ?_
  refine Bod.go dc_328_20 rfl ?_
  refine Bod.get dc_328_21 fr_328_135 (mk_61 _) rfl ?_
  refine Bod.go dc_328_24 rfl ?_
  refine Bod.get dc_328_25 fr_328_190 (mk_61 _) rfl ?_
  refine Bod.eqI (nI k1) (by first | (simp (disch := omega) only [rI, rIe, rA, rIA, rLA, rJA, rVI, rQI, rVA, rQA, upd_at,  rAI, rLI, rJI, nI_add, pk_sub, kc_0, kc_1, kc_2, kc_3, kc_4, kc_5, reduceIte, Nat.reduceEqDiff, Nat.add_zero, rI_hold, rI_hold, rL_hold, hk, hk1]; done) | (simp (disch := omega) only [rI, rIe, rA, rIA, rLA, rJA, rVI, rQI, rVA, rQA, upd_at,  rAI, rLI, rJI, nI_add, pk_sub, kc_0, kc_1, kc_2, kc_3, kc_4, kc_5, reduceIte, Nat.reduceEqDiff, Nat.add_zero, rI_hold, rI_hold, rL_hold, hk, hk1]; exact congrArg nI (by omega))) ?_
  refine Bod.ic 1 (by decide) dc_328_28 ?_
  refine Bod.subN (k1 - 1) (by omega) (by omega) dc_328_29 ?_
  refine Bod.ialdN (k1 - 1) rfl (by omega) (by omega) dc_328_30 (mk_68 _) ?_
  refine Bod.eqI (nI e68) (by first | (simp (disch := omega) only [rI, rIe, rA, rIA, rLA, rJA, rVI, rQI, rVA, rQA, upd_at,  rAI, rLI, rJI, nI_add, pk_sub, kc_0, kc_1, kc_2, kc_3, kc_4, kc_5, reduceIte, Nat.reduceEqDiff, Nat.add_zero, rI_hold, rI_hold, rL_hold, hk, hk1, he68]; done) | (simp (disch := omega) only [rI, rIe, rA, rIA, rLA, rJA, rVI, rQI, rVA, rQA, upd_at,  rAI, rLI, rJI, nI_add, pk_sub, kc_0, kc_1, kc_2, kc_3, kc_4, kc_5, reduceIte, Nat.reduceEqDiff, Nat.add_zero, rI_hold, rI_hold, rL_hold, hk, hk1, he68]; exact congrArg nI (by omega))) ?_
  refine Bod.istn dc_328_31 (by rw [ml_328]; exact Nat.le_of_ble_eq_true rfl) ?_
  refine Bod.go dc_328_32 rfl ?_
  refine Bod.get dc_328_33 fr_328_397 (mk_61 _) rfl ?_
  refine Bod.eqI (nI tg) (by first | (simp (disch := omega) only [rI, rIe, rA, rIA, rLA, rJA, rVI, rQI, rVA, rQA, upd_at,  rAI, rLI, rJI, nI_add, pk_sub, kc_0, kc_1, kc_2, kc_3, kc_4, kc_5, reduceIte, Nat.reduceEqDiff, Nat.add_zero, rI_hold, rI_hold, rL_hold, hk, hk1, he68, htg]; done) | (simp (disch := omega) only [rI, rIe, rA, rIA, rLA, rJA, rVI, rQI, rVA, rQA, upd_at,  rAI, rLI, rJI, nI_add, pk_sub, kc_0, kc_1, kc_2, kc_3, kc_4, kc_5, reduceIte, Nat.reduceEqDiff, Nat.add_zero, rI_hold, rI_hold, rL_hold, hk, hk1, he68, htg]; exact congrArg nI (by omega))) ?_
  refine Bod.ifF dc_328_36 rfl (k1_ne_F (k_eq tg 0 rfl rfl (by omega))) ?_
  refine Bod.go dc_328_39 rfl ?_
  refine Bod.virt (r := []) dc_328_40 kr_328_202 ⟨Or.inl rfl, ow_299, cl_14⟩ (by rw [np_299]; rfl) (by rw [np_299]; rfl) (ob_of (mk_61 _)) (Nat.le_of_ble_eq_true rfl) (c2  ) ?_
  show Bod _ _ _ _ [_] _ _ _
  exact Bod.retZ dc_328_43 rt_328 (Or.inr rfl)
theorem sDel_5 {d : Nat} {S : cS} {k : Nat} {S1 : cS} {k1 : Nat} {e68 : Nat} {tg : Nat} {S2 : cS} (hk : sI S 6115 = nI k) (mk : k < 5990) (c1 : Ans (d + 8) 306 [.ref 61, .int (nI 0)] (wI 6115 (nI (k + 1)) S) (some (.int (nI 1))) S1) (hk1 : sI S1 6115 = nI k1) (mk1 : k1 < 5990) (b1 : 1 ≤ k1) (he68 : sA S1 68 (k1 - 1) = nI e68) (me68 : e68 < 2 ^ 20) (htg : sI S1 6131 = nI tg) (mtg : tg < 2 ^ 20) (b2 : tg = 0) (c2 : Ans (d + 8) 299 [.ref 61] S1 (some (.int (nI 0))) S2) : Bod (d + 8) 328 0 [(0, .ref 61)] [] S (some (.int 0)) (S2) := by
  refine Bod.go dc_328_0 rfl ?_
  refine Bod.go dc_328_1 rfl ?_
  refine Bod.get dc_328_2 fr_328_190 (mk_61 _) rfl ?_
  refine Bod.eqI (nI k) (by first | assumption | rfl | exact congrArg nI (by omega) | (simp (disch := omega) only [rI, rIe, rA, rIA, rLA, rJA, rVI, rQI, rVA, rQA, upd_at,  rAI, rLI, rJI, nI_add, pk_sub, kc_0, kc_1, kc_2, kc_3, kc_4, kc_5, reduceIte, Nat.reduceEqDiff, Nat.add_zero, rI_hold, rI_hold, rL_hold, hk]; done)) ?_
  refine Bod.ic 1 (by decide) dc_328_5 ?_
  refine Bod.addN (k + 1) (by omega) dc_328_6 ?_
  refine Bod.put dc_328_7 fr_328_190 (mk_61 _) (Nat.le_of_ble_eq_true rfl) pf_14_15 (st_6115 _ _) (mu_I _ _ _) ?_
  refine Bod.go dc_328_10 rfl ?_
  refine Bod.ic 0 (by decide) dc_328_11 ?_
  refine Bod.virt (r := []) dc_328_12 kr_328_302 ⟨Or.inl rfl, ow_306, cl_14⟩ (by rw [np_306]; rfl) (by rw [np_306]; rfl) (ob_of (mk_61 _)) (Nat.le_of_ble_eq_true rfl) (c1  ) ?_
  show Bod _ _ _ _ [_] _ _ _
  refine Bod.ifT dc_328_15 rfl (k1_ne_T (k_ne 1 0 rfl rfl (by omega) (by omega) (by omega))) ?_
  refine Bod.go dc_328_20 rfl ?_
  refine Bod.get dc_328_21 fr_328_135 (mk_61 _) rfl ?_
  refine Bod.go dc_328_24 rfl ?_
  refine Bod.get dc_328_25 fr_328_190 (mk_61 _) rfl ?_
  refine Bod.eqI (nI k1) (by first | (simp (disch := omega) only [rI, rIe, rA, rIA, rLA, rJA, rVI, rQI, rVA, rQA, upd_at,  rAI, rLI, rJI, nI_add, pk_sub, kc_0, kc_1, kc_2, kc_3, kc_4, kc_5, reduceIte, Nat.reduceEqDiff, Nat.add_zero, rI_hold, rI_hold, rL_hold, hk, hk1]; done) | (simp (disch := omega) only [rI, rIe, rA, rIA, rLA, rJA, rVI, rQI, rVA, rQA, upd_at,  rAI, rLI, rJI, nI_add, pk_sub, kc_0, kc_1, kc_2, kc_3, kc_4, kc_5, reduceIte, Nat.reduceEqDiff, Nat.add_zero, rI_hold, rI_hold, rL_hold, hk, hk1]; exact congrArg nI (by omega))) ?_
  refine Bod.ic 1 (by decide) dc_328_28 ?_
  refine Bod.subN (k1 - 1) (by omega) (by omega) dc_328_29 ?_
  refine Bod.ialdN (k1 - 1) rfl (by omega) (by omega) dc_328_30 (mk_68 _) ?_
  refine Bod.eqI (nI e68) (by first | (simp (disch := omega) only [rI, rIe, rA, rIA, rLA, rJA, rVI, rQI, rVA, rQA, upd_at,  rAI, rLI, rJI, nI_add, pk_sub, kc_0, kc_1, kc_2, kc_3, kc_4, kc_5, reduceIte, Nat.reduceEqDiff, Nat.add_zero, rI_hold, rI_hold, rL_hold, hk, hk1, he68]; done) | (simp (disch := omega) only [rI, rIe, rA, rIA, rLA, rJA, rVI, rQI, rVA, rQA, upd_at,  rAI, rLI, rJI, nI_add, pk_sub, kc_0, kc_1, kc_2, kc_3, kc_4, kc_5, reduceIte, Nat.reduceEqDiff, Nat.add_zero, rI_hold, rI_hold, rL_hold, hk, hk1, he68]; exact congrArg nI (by omega))) ?_
  refine Bod.istn dc_328_31 (by rw [ml_328]; exact Nat.le_of_ble_eq_true rfl) ?_
  refine Bod.go dc_328_32 rfl ?_
  refine Bod.get dc_328_33 fr_328_397 (mk_61 _) rfl ?_
  refine Bod.eqI (nI tg) (by first | (simp (disch := omega) only [rI, rIe, rA, rIA, rLA, rJA, rVI, rQI, rVA, rQA, upd_at,  rAI, rLI, rJI, nI_add, pk_sub, kc_0, kc_1, kc_2, kc_3, kc_4, kc_5, reduceIte, Nat.reduceEqDiff, Nat.add_zero, rI_hold, rI_hold, rL_hold, hk, hk1, he68, htg]; done) | (simp (disch := omega) only [rI, rIe, rA, rIA, rLA, rJA, rVI, rQI, rVA, rQA, upd_at,  rAI, rLI, rJI, nI_add, pk_sub, kc_0, kc_1, kc_2, kc_3, kc_4, kc_5, reduceIte, Nat.reduceEqDiff, Nat.add_zero, rI_hold, rI_hold, rL_hold, hk, hk1, he68, htg]; exact congrArg nI (by omega))) ?_
  refine Bod.ifF dc_328_36 rfl (k1_ne_F (k_eq tg 0 rfl rfl (by omega))) ?_
  refine Bod.go dc_328_39 rfl ?_
  refine Bod.virt (r := []) dc_328_40 kr_328_202 ⟨Or.inl rfl, ow_299, cl_14⟩ (by rw [np_299]; rfl) (by rw [np_299]; rfl) (ob_of (mk_61 _)) (Nat.le_of_ble_eq_true rfl) (c2  ) ?_
  show Bod _ _ _ _ [_] _ _ _
  exact Bod.retZ dc_328_43 rt_328 (Or.inl rfl)
theorem sDel_6 {d : Nat} {S : cS} {k : Nat} {S1 : cS} (hk : sI S 6115 = nI k) (mk : k < 5990) (c1 : Ans (d + 8) 306 [.ref 61, .int (nI 0)] (wI 6115 (nI (k + 1)) S) (some (.int (nI 0))) S1) : Bod (d + 8) 328 0 [(0, .ref 61)] [] S (some (.int 0)) (S1) := by
  refine Bod.go dc_328_0 rfl ?_
  refine Bod.go dc_328_1 rfl ?_
  refine Bod.get dc_328_2 fr_328_190 (mk_61 _) rfl ?_
  refine Bod.eqI (nI k) (by first | assumption | rfl | exact congrArg nI (by omega) | (simp (disch := omega) only [rI, rIe, rA, rIA, rLA, rJA, rVI, rQI, rVA, rQA, upd_at,  rAI, rLI, rJI, nI_add, pk_sub, kc_0, kc_1, kc_2, kc_3, kc_4, kc_5, reduceIte, Nat.reduceEqDiff, Nat.add_zero, rI_hold, rI_hold, rL_hold, hk]; done)) ?_
  refine Bod.ic 1 (by decide) dc_328_5 ?_
  refine Bod.addN (k + 1) (by omega) dc_328_6 ?_
  refine Bod.put dc_328_7 fr_328_190 (mk_61 _) (Nat.le_of_ble_eq_true rfl) pf_14_15 (st_6115 _ _) (mu_I _ _ _) ?_
  refine Bod.go dc_328_10 rfl ?_
  refine Bod.ic 0 (by decide) dc_328_11 ?_
  refine Bod.virt (r := []) dc_328_12 kr_328_302 ⟨Or.inl rfl, ow_306, cl_14⟩ (by rw [np_306]; rfl) (by rw [np_306]; rfl) (ob_of (mk_61 _)) (Nat.le_of_ble_eq_true rfl) (c1  ) ?_
  show Bod _ _ _ _ [_] _ _ _
  refine Bod.ifF dc_328_15 rfl (k1_ne_F (k_eq 0 0 rfl rfl (by omega))) ?_
  refine Bod.ic 0 (by decide) dc_328_18 ?_
  exact Bod.retZ dc_328_19 rt_328 (Or.inl rfl)
theorem sNl_1 {d : Nat} {S : cS} {k : Nat} {e67 : Nat} (hk : sI S 6115 = nI k) (mk : k < 5990) (he67 : sA S 67 k = nI e67) (me67 : e67 < 2 ^ 20) (b1 : e67 = 6) : Bod (d + 8) 332 0 [(0, .ref 61)] [] S (some (.int 1)) (wI 6115 (nI (k + 1)) S) := by
  refine Bod.go dc_332_0 rfl ?_
  refine Bod.get dc_332_1 fr_332_129 (mk_61 _) rfl ?_
  refine Bod.go dc_332_4 rfl ?_
  refine Bod.get dc_332_5 fr_332_190 (mk_61 _) rfl ?_
  refine Bod.eqI (nI k) (by first | assumption | rfl | exact congrArg nI (by omega) | (simp (disch := omega) only [rI, rIe, rA, rIA, rLA, rJA, rVI, rQI, rVA, rQA, upd_at,  rAI, rLI, rJI, nI_add, pk_sub, kc_0, kc_1, kc_2, kc_3, kc_4, kc_5, reduceIte, Nat.reduceEqDiff, Nat.add_zero, rI_hold, rI_hold, rL_hold, hk]; done)) ?_
  refine Bod.ialdN k rfl (by omega) (by omega) dc_332_8 (mk_67 _) ?_
  refine Bod.eqI (nI e67) (by first | assumption | rfl | exact congrArg nI (by omega) | (simp (disch := omega) only [rI, rIe, rA, rIA, rLA, rJA, rVI, rQI, rVA, rQA, upd_at,  rAI, rLI, rJI, nI_add, pk_sub, kc_0, kc_1, kc_2, kc_3, kc_4, kc_5, reduceIte, Nat.reduceEqDiff, Nat.add_zero, rI_hold, rI_hold, rL_hold, hk, he67]; done)) ?_
  refine Bod.bip 6 (by decide) dc_332_9 ?_
  refine Bod.icT dc_332_11 rfl (k2_eq_T (k_eq e67 6 rfl rfl (by omega))) ?_
  refine Bod.go dc_332_19 rfl ?_
  refine Bod.go dc_332_20 rfl ?_
  refine Bod.get dc_332_21 fr_332_190 (mk_61 _) rfl ?_
  refine Bod.eqI (nI k) (by first | assumption | rfl | exact congrArg nI (by omega) | (simp (disch := omega) only [rI, rIe, rA, rIA, rLA, rJA, rVI, rQI, rVA, rQA, upd_at,  rAI, rLI, rJI, nI_add, pk_sub, kc_0, kc_1, kc_2, kc_3, kc_4, kc_5, reduceIte, Nat.reduceEqDiff, Nat.add_zero, rI_hold, rI_hold, rL_hold, hk, he67]; done)) ?_
  refine Bod.ic 1 (by decide) dc_332_24 ?_
  refine Bod.addN (k + 1) (by omega) dc_332_25 ?_
  refine Bod.put dc_332_26 fr_332_190 (mk_61 _) (Nat.le_of_ble_eq_true rfl) pf_14_15 (st_6115 _ _) (mu_I _ _ _) ?_
  refine Bod.ic 1 (by decide) dc_332_29 ?_
  exact Bod.retZ dc_332_30 rt_332 (Or.inr rfl)
theorem sNl_2 {d : Nat} {S : cS} {k : Nat} {e67 : Nat} {S1 : cS} (hk : sI S 6115 = nI k) (mk : k < 5990) (he67 : sA S 67 k = nI e67) (me67 : e67 < 2 ^ 20) (b1 : e67 ≠ 6) (c1 : Ans (d + 8) 299 [.ref 61] S (some (.int (nI 1))) S1) : Bod (d + 8) 332 0 [(0, .ref 61)] [] S (some (.int 1)) (S1) := by
  refine Bod.go dc_332_0 rfl ?_
  refine Bod.get dc_332_1 fr_332_129 (mk_61 _) rfl ?_
  refine Bod.go dc_332_4 rfl ?_
  refine Bod.get dc_332_5 fr_332_190 (mk_61 _) rfl ?_
  refine Bod.eqI (nI k) (by first | assumption | rfl | exact congrArg nI (by omega) | (simp (disch := omega) only [rI, rIe, rA, rIA, rLA, rJA, rVI, rQI, rVA, rQA, upd_at,  rAI, rLI, rJI, nI_add, pk_sub, kc_0, kc_1, kc_2, kc_3, kc_4, kc_5, reduceIte, Nat.reduceEqDiff, Nat.add_zero, rI_hold, rI_hold, rL_hold, hk]; done)) ?_
  refine Bod.ialdN k rfl (by omega) (by omega) dc_332_8 (mk_67 _) ?_
  refine Bod.eqI (nI e67) (by first | assumption | rfl | exact congrArg nI (by omega) | (simp (disch := omega) only [rI, rIe, rA, rIA, rLA, rJA, rVI, rQI, rVA, rQA, upd_at,  rAI, rLI, rJI, nI_add, pk_sub, kc_0, kc_1, kc_2, kc_3, kc_4, kc_5, reduceIte, Nat.reduceEqDiff, Nat.add_zero, rI_hold, rI_hold, rL_hold, hk, he67]; done)) ?_
  refine Bod.bip 6 (by decide) dc_332_9 ?_
  refine Bod.icF dc_332_11 rfl (k2_eq_F (k_ne e67 6 rfl rfl (by omega) (by omega) (by omega))) ?_
  refine Bod.go dc_332_14 rfl ?_
  refine Bod.virt (r := []) dc_332_15 kr_332_202 ⟨Or.inl rfl, ow_299, cl_14⟩ (by rw [np_299]; rfl) (by rw [np_299]; rfl) (ob_of (mk_61 _)) (Nat.le_of_ble_eq_true rfl) (c1  ) ?_
  show Bod _ _ _ _ [_] _ _ _
  exact Bod.retZ dc_332_18 rt_332 (Or.inr rfl)
theorem sNl_3 {d : Nat} {S : cS} {k : Nat} {e67 : Nat} {S1 : cS} (hk : sI S 6115 = nI k) (mk : k < 5990) (he67 : sA S 67 k = nI e67) (me67 : e67 < 2 ^ 20) (b1 : e67 ≠ 6) (c1 : Ans (d + 8) 299 [.ref 61] S (some (.int (nI 0))) S1) : Bod (d + 8) 332 0 [(0, .ref 61)] [] S (some (.int 0)) (S1) := by
  refine Bod.go dc_332_0 rfl ?_
  refine Bod.get dc_332_1 fr_332_129 (mk_61 _) rfl ?_
  refine Bod.go dc_332_4 rfl ?_
  refine Bod.get dc_332_5 fr_332_190 (mk_61 _) rfl ?_
  refine Bod.eqI (nI k) (by first | assumption | rfl | exact congrArg nI (by omega) | (simp (disch := omega) only [rI, rIe, rA, rIA, rLA, rJA, rVI, rQI, rVA, rQA, upd_at,  rAI, rLI, rJI, nI_add, pk_sub, kc_0, kc_1, kc_2, kc_3, kc_4, kc_5, reduceIte, Nat.reduceEqDiff, Nat.add_zero, rI_hold, rI_hold, rL_hold, hk]; done)) ?_
  refine Bod.ialdN k rfl (by omega) (by omega) dc_332_8 (mk_67 _) ?_
  refine Bod.eqI (nI e67) (by first | assumption | rfl | exact congrArg nI (by omega) | (simp (disch := omega) only [rI, rIe, rA, rIA, rLA, rJA, rVI, rQI, rVA, rQA, upd_at,  rAI, rLI, rJI, nI_add, pk_sub, kc_0, kc_1, kc_2, kc_3, kc_4, kc_5, reduceIte, Nat.reduceEqDiff, Nat.add_zero, rI_hold, rI_hold, rL_hold, hk, he67]; done)) ?_
  refine Bod.bip 6 (by decide) dc_332_9 ?_
  refine Bod.icF dc_332_11 rfl (k2_eq_F (k_ne e67 6 rfl rfl (by omega) (by omega) (by omega))) ?_
  refine Bod.go dc_332_14 rfl ?_
  refine Bod.virt (r := []) dc_332_15 kr_332_202 ⟨Or.inl rfl, ow_299, cl_14⟩ (by rw [np_299]; rfl) (by rw [np_299]; rfl) (ob_of (mk_61 _)) (Nat.le_of_ble_eq_true rfl) (c1  ) ?_
  show Bod _ _ _ _ [_] _ _ _
  exact Bod.retZ dc_332_18 rt_332 (Or.inl rfl)
theorem sGl0_1 {d : Nat} {S Sf : cS} {v : Option Value} {F : Nat} (hF : sI S 6122 = nI F) (mF : F < 15) (b1 : F ≠ 0) (hB : ∀ lv1 : sm_L, sm_get lv1 0 = some (.ref 61) → Bod (d + 8) 330 12 lv1 [] (S) v Sf) : Bod (d + 8) 330 0 [(0, .ref 61)] [] S v Sf := by
  refine Bod.go dc_330_0 rfl ?_
  refine Bod.get dc_330_1 fr_330_236 (mk_61 _) rfl ?_
  refine Bod.eqI (nI F) (by first | assumption | rfl | exact congrArg nI (by omega) | (simp (disch := omega) only [rI, rIe, rA, rIA, rLA, rJA, rVI, rQI, rVA, rQA, upd_at,  rAI, rLI, rJI, nI_add, pk_sub, kc_0, kc_1, kc_2, kc_3, kc_4, kc_5, reduceIte, Nat.reduceEqDiff, Nat.add_zero, rI_hold, rI_hold, rL_hold, hF]; done)) ?_
  refine Bod.ifT dc_330_4 rfl (k1_ne_T (k_ne F 0 rfl rfl (by omega) (by omega) (by omega))) ?_
  exact hB _ (by first | rfl | exact (by repeat (first | exact rfl | exact sm_get_p1 | exact sm_get_p2e | refine sm_get_p1m (by decide) (by decide) ?_ | refine sm_get_p1n (by decide) rfl ?_ | refine sm_get_p2n (by decide) (by decide) rfl ?_)))
theorem sGl0_2 {d : Nat} {S : cS} {F : Nat} {S1 : cS} (hF : sI S 6122 = nI F) (mF : F < 15) (b1 : F = 0) (c1 : Ans (d + 8) 299 [.ref 61] S (some (.int (nI 1))) S1) : Bod (d + 8) 330 0 [(0, .ref 61)] [] S (some (.int 1)) (S1) := by
  refine Bod.go dc_330_0 rfl ?_
  refine Bod.get dc_330_1 fr_330_236 (mk_61 _) rfl ?_
  refine Bod.eqI (nI F) (by first | assumption | rfl | exact congrArg nI (by omega) | (simp (disch := omega) only [rI, rIe, rA, rIA, rLA, rJA, rVI, rQI, rVA, rQA, upd_at,  rAI, rLI, rJI, nI_add, pk_sub, kc_0, kc_1, kc_2, kc_3, kc_4, kc_5, reduceIte, Nat.reduceEqDiff, Nat.add_zero, rI_hold, rI_hold, rL_hold, hF]; done)) ?_
  refine Bod.ifF dc_330_4 rfl (k1_ne_F (k_eq F 0 rfl rfl (by omega))) ?_
  refine Bod.go dc_330_7 rfl ?_
  refine Bod.virt (r := []) dc_330_8 kr_330_202 ⟨Or.inl rfl, ow_299, cl_14⟩ (by rw [np_299]; rfl) (by rw [np_299]; rfl) (ob_of (mk_61 _)) (Nat.le_of_ble_eq_true rfl) (c1  ) ?_
  show Bod _ _ _ _ [_] _ _ _
  exact Bod.retZ dc_330_11 rt_330 (Or.inr rfl)
theorem sGl0_3 {d : Nat} {S : cS} {F : Nat} {S1 : cS} (hF : sI S 6122 = nI F) (mF : F < 15) (b1 : F = 0) (c1 : Ans (d + 8) 299 [.ref 61] S (some (.int (nI 0))) S1) : Bod (d + 8) 330 0 [(0, .ref 61)] [] S (some (.int 0)) (S1) := by
  refine Bod.go dc_330_0 rfl ?_
  refine Bod.get dc_330_1 fr_330_236 (mk_61 _) rfl ?_
  refine Bod.eqI (nI F) (by first | assumption | rfl | exact congrArg nI (by omega) | (simp (disch := omega) only [rI, rIe, rA, rIA, rLA, rJA, rVI, rQI, rVA, rQA, upd_at,  rAI, rLI, rJI, nI_add, pk_sub, kc_0, kc_1, kc_2, kc_3, kc_4, kc_5, reduceIte, Nat.reduceEqDiff, Nat.add_zero, rI_hold, rI_hold, rL_hold, hF]; done)) ?_
  refine Bod.ifF dc_330_4 rfl (k1_ne_F (k_eq F 0 rfl rfl (by omega))) ?_
  refine Bod.go dc_330_7 rfl ?_
  refine Bod.virt (r := []) dc_330_8 kr_330_202 ⟨Or.inl rfl, ow_299, cl_14⟩ (by rw [np_299]; rfl) (by rw [np_299]; rfl) (ob_of (mk_61 _)) (Nat.le_of_ble_eq_true rfl) (c1  ) ?_
  show Bod _ _ _ _ [_] _ _ _
  exact Bod.retZ dc_330_11 rt_330 (Or.inl rfl)
theorem sGlL_1 {d : Nat} {S : cS} {lv : sm_L} {k : Nat} {e67 : Nat} {S1 : cS} (q0 : sm_get lv 0 = some (.ref 61)) (hk : sI S 6115 = nI k) (mk : k < 5990) (he67 : sA (wI 6115 (nI (k + 1)) S) 67 (k + 1) = nI e67) (me67 : e67 < 2 ^ 20) (b1 : e67 ≠ 1) (c1 : Ans (d + 8) 299 [.ref 61] (wI 6115 (nI (k + 1)) S) (some (.int (nI 1))) S1) : Bod (d + 8) 330 12 lv [] S (some (.int 1)) (S1) := by
  refine Bod.aldnG dc_330_12 (by repeat (first | exact q0 | exact sm_get_p1 | exact sm_get_p2e | refine sm_get_p1m (by decide) (by decide) ?_ | refine sm_get_p1n (by decide) rfl ?_ | refine sm_get_p2n (by decide) (by decide) rfl ?_)) ?_
  refine Bod.go dc_330_13 rfl ?_
  refine Bod.get dc_330_14 fr_330_190 (mk_61 _) rfl ?_
  refine Bod.eqI (nI k) (by first | assumption | rfl | exact congrArg nI (by omega) | (simp (disch := omega) only [rI, rIe, rA, rIA, rLA, rJA, rVI, rQI, rVA, rQA, upd_at,  rAI, rLI, rJI, nI_add, pk_sub, kc_0, kc_1, kc_2, kc_3, kc_4, kc_5, reduceIte, Nat.reduceEqDiff, Nat.add_zero, rI_hold, rI_hold, rL_hold, hk]; done)) ?_
  refine Bod.ic 1 (by decide) dc_330_17 ?_
  refine Bod.addN (k + 1) (by omega) dc_330_18 ?_
  refine Bod.put dc_330_19 fr_330_190 (mk_61 _) (Nat.le_of_ble_eq_true rfl) pf_14_15 (st_6115 _ _) (mu_I _ _ _) ?_
  refine Bod.aldnG dc_330_22 (by repeat (first | exact q0 | exact sm_get_p1 | exact sm_get_p2e | refine sm_get_p1m (by decide) (by decide) ?_ | refine sm_get_p1n (by decide) rfl ?_ | refine sm_get_p2n (by decide) (by decide) rfl ?_)) ?_
  refine Bod.get dc_330_23 fr_330_129 (mk_61 _) rfl ?_
  refine Bod.aldnG dc_330_26 (by repeat (first | exact q0 | exact sm_get_p1 | exact sm_get_p2e | refine sm_get_p1m (by decide) (by decide) ?_ | refine sm_get_p1n (by decide) rfl ?_ | refine sm_get_p2n (by decide) (by decide) rfl ?_)) ?_
  refine Bod.get dc_330_27 fr_330_190 (mk_61 _) rfl ?_
  refine Bod.eqI (nI (k + 1)) (by first | (simp (disch := omega) only [rI, rIe, rA, rIA, rLA, rJA, rVI, rQI, rVA, rQA, upd_at,  rAI, rLI, rJI, nI_add, pk_sub, kc_0, kc_1, kc_2, kc_3, kc_4, kc_5, reduceIte, Nat.reduceEqDiff, Nat.add_zero, rI_hold, rI_hold, rL_hold, hk]; done) | (simp (disch := omega) only [rI, rIe, rA, rIA, rLA, rJA, rVI, rQI, rVA, rQA, upd_at,  rAI, rLI, rJI, nI_add, pk_sub, kc_0, kc_1, kc_2, kc_3, kc_4, kc_5, reduceIte, Nat.reduceEqDiff, Nat.add_zero, rI_hold, rI_hold, rL_hold, hk]; exact congrArg nI (by omega))) ?_
  refine Bod.ialdN (k + 1) rfl (by omega) (by omega) dc_330_30 (mk_67 _) ?_
  refine Bod.eqI (nI e67) (by first | (simp (disch := omega) only [rI, rIe, rA, rIA, rLA, rJA, rVI, rQI, rVA, rQA, upd_at,  rAI, rLI, rJI, nI_add, pk_sub, kc_0, kc_1, kc_2, kc_3, kc_4, kc_5, reduceIte, Nat.reduceEqDiff, Nat.add_zero, rI_hold, rI_hold, rL_hold, hk, he67]; done) | (simp (disch := omega) only [rI, rIe, rA, rIA, rLA, rJA, rVI, rQI, rVA, rQA, upd_at,  rAI, rLI, rJI, nI_add, pk_sub, kc_0, kc_1, kc_2, kc_3, kc_4, kc_5, reduceIte, Nat.reduceEqDiff, Nat.add_zero, rI_hold, rI_hold, rL_hold, hk, he67]; exact congrArg nI (by omega))) ?_
  refine Bod.ic 1 (by decide) dc_330_31 ?_
  refine Bod.icT dc_330_32 rfl (k2_ne_T (k_ne e67 1 rfl rfl (by omega) (by omega) (by omega))) ?_
  refine Bod.aldnG dc_330_51 (by repeat (first | exact q0 | exact sm_get_p1 | exact sm_get_p2e | refine sm_get_p1m (by decide) (by decide) ?_ | refine sm_get_p1n (by decide) rfl ?_ | refine sm_get_p2n (by decide) (by decide) rfl ?_)) ?_
  refine Bod.virt (r := []) dc_330_52 kr_330_202 ⟨Or.inl rfl, ow_299, cl_14⟩ (by rw [np_299]; rfl) (by rw [np_299]; rfl) (ob_of (mk_61 _)) (Nat.le_of_ble_eq_true rfl) (c1  ) ?_
  show Bod _ _ _ _ [_] _ _ _
  exact Bod.retZ dc_330_55 rt_330 (Or.inr rfl)
theorem sGlL_2 {d : Nat} {S : cS} {lv : sm_L} {k : Nat} {e67 : Nat} {S1 : cS} (q0 : sm_get lv 0 = some (.ref 61)) (hk : sI S 6115 = nI k) (mk : k < 5990) (he67 : sA (wI 6115 (nI (k + 1)) S) 67 (k + 1) = nI e67) (me67 : e67 < 2 ^ 20) (b1 : e67 ≠ 1) (c1 : Ans (d + 8) 299 [.ref 61] (wI 6115 (nI (k + 1)) S) (some (.int (nI 0))) S1) : Bod (d + 8) 330 12 lv [] S (some (.int 0)) (S1) := by
  refine Bod.aldnG dc_330_12 (by repeat (first | exact q0 | exact sm_get_p1 | exact sm_get_p2e | refine sm_get_p1m (by decide) (by decide) ?_ | refine sm_get_p1n (by decide) rfl ?_ | refine sm_get_p2n (by decide) (by decide) rfl ?_)) ?_
  refine Bod.go dc_330_13 rfl ?_
  refine Bod.get dc_330_14 fr_330_190 (mk_61 _) rfl ?_
  refine Bod.eqI (nI k) (by first | assumption | rfl | exact congrArg nI (by omega) | (simp (disch := omega) only [rI, rIe, rA, rIA, rLA, rJA, rVI, rQI, rVA, rQA, upd_at,  rAI, rLI, rJI, nI_add, pk_sub, kc_0, kc_1, kc_2, kc_3, kc_4, kc_5, reduceIte, Nat.reduceEqDiff, Nat.add_zero, rI_hold, rI_hold, rL_hold, hk]; done)) ?_
  refine Bod.ic 1 (by decide) dc_330_17 ?_
  refine Bod.addN (k + 1) (by omega) dc_330_18 ?_
  refine Bod.put dc_330_19 fr_330_190 (mk_61 _) (Nat.le_of_ble_eq_true rfl) pf_14_15 (st_6115 _ _) (mu_I _ _ _) ?_
  refine Bod.aldnG dc_330_22 (by repeat (first | exact q0 | exact sm_get_p1 | exact sm_get_p2e | refine sm_get_p1m (by decide) (by decide) ?_ | refine sm_get_p1n (by decide) rfl ?_ | refine sm_get_p2n (by decide) (by decide) rfl ?_)) ?_
  refine Bod.get dc_330_23 fr_330_129 (mk_61 _) rfl ?_
  refine Bod.aldnG dc_330_26 (by repeat (first | exact q0 | exact sm_get_p1 | exact sm_get_p2e | refine sm_get_p1m (by decide) (by decide) ?_ | refine sm_get_p1n (by decide) rfl ?_ | refine sm_get_p2n (by decide) (by decide) rfl ?_)) ?_
  refine Bod.get dc_330_27 fr_330_190 (mk_61 _) rfl ?_
  refine Bod.eqI (nI (k + 1)) (by first | (simp (disch := omega) only [rI, rIe, rA, rIA, rLA, rJA, rVI, rQI, rVA, rQA, upd_at,  rAI, rLI, rJI, nI_add, pk_sub, kc_0, kc_1, kc_2, kc_3, kc_4, kc_5, reduceIte, Nat.reduceEqDiff, Nat.add_zero, rI_hold, rI_hold, rL_hold, hk]; done) | (simp (disch := omega) only [rI, rIe, rA, rIA, rLA, rJA, rVI, rQI, rVA, rQA, upd_at,  rAI, rLI, rJI, nI_add, pk_sub, kc_0, kc_1, kc_2, kc_3, kc_4, kc_5, reduceIte, Nat.reduceEqDiff, Nat.add_zero, rI_hold, rI_hold, rL_hold, hk]; exact congrArg nI (by omega))) ?_
  refine Bod.ialdN (k + 1) rfl (by omega) (by omega) dc_330_30 (mk_67 _) ?_
  refine Bod.eqI (nI e67) (by first | (simp (disch := omega) only [rI, rIe, rA, rIA, rLA, rJA, rVI, rQI, rVA, rQA, upd_at,  rAI, rLI, rJI, nI_add, pk_sub, kc_0, kc_1, kc_2, kc_3, kc_4, kc_5, reduceIte, Nat.reduceEqDiff, Nat.add_zero, rI_hold, rI_hold, rL_hold, hk, he67]; done) | (simp (disch := omega) only [rI, rIe, rA, rIA, rLA, rJA, rVI, rQI, rVA, rQA, upd_at,  rAI, rLI, rJI, nI_add, pk_sub, kc_0, kc_1, kc_2, kc_3, kc_4, kc_5, reduceIte, Nat.reduceEqDiff, Nat.add_zero, rI_hold, rI_hold, rL_hold, hk, he67]; exact congrArg nI (by omega))) ?_
  refine Bod.ic 1 (by decide) dc_330_31 ?_
  refine Bod.icT dc_330_32 rfl (k2_ne_T (k_ne e67 1 rfl rfl (by omega) (by omega) (by omega))) ?_
  refine Bod.aldnG dc_330_51 (by repeat (first | exact q0 | exact sm_get_p1 | exact sm_get_p2e | refine sm_get_p1m (by decide) (by decide) ?_ | refine sm_get_p1n (by decide) rfl ?_ | refine sm_get_p2n (by decide) (by decide) rfl ?_)) ?_
  refine Bod.virt (r := []) dc_330_52 kr_330_202 ⟨Or.inl rfl, ow_299, cl_14⟩ (by rw [np_299]; rfl) (by rw [np_299]; rfl) (ob_of (mk_61 _)) (Nat.le_of_ble_eq_true rfl) (c1  ) ?_
  show Bod _ _ _ _ [_] _ _ _
  exact Bod.retZ dc_330_55 rt_330 (Or.inl rfl)
theorem sGlL_3 {d : Nat} {S : cS} {lv : sm_L} {k : Nat} {e67 : Nat} {e68 : Nat} {S1 : cS} {S2 : cS} (q0 : sm_get lv 0 = some (.ref 61)) (hk : sI S 6115 = nI k) (mk : k < 5990) (he67 : sA (wI 6115 (nI (k + 1)) S) 67 (k + 1) = nI e67) (me67 : e67 < 2 ^ 20) (b1 : e67 = 1) (he68 : sA (wI 6115 (nI (k + 1)) S) 68 (k + 1) = nI e68) (me68 : e68 < 2 ^ 20) (c1 : Ans (d + 8) 331 [.ref 61, .int (nI e68)] (wI 6115 (nI (k + 1)) S) (some (.int (nI 1))) S1) (c2 : Ans (d + 8) 299 [.ref 61] S1 (some (.int (nI 1))) S2) : Bod (d + 8) 330 12 lv [] S (some (.int 1)) (S2) := by
  refine Bod.aldnG dc_330_12 (by repeat (first | exact q0 | exact sm_get_p1 | exact sm_get_p2e | refine sm_get_p1m (by decide) (by decide) ?_ | refine sm_get_p1n (by decide) rfl ?_ | refine sm_get_p2n (by decide) (by decide) rfl ?_)) ?_
  refine Bod.go dc_330_13 rfl ?_
  refine Bod.get dc_330_14 fr_330_190 (mk_61 _) rfl ?_
  refine Bod.eqI (nI k) (by first | assumption | rfl | exact congrArg nI (by omega) | (simp (disch := omega) only [rI, rIe, rA, rIA, rLA, rJA, rVI, rQI, rVA, rQA, upd_at,  rAI, rLI, rJI, nI_add, pk_sub, kc_0, kc_1, kc_2, kc_3, kc_4, kc_5, reduceIte, Nat.reduceEqDiff, Nat.add_zero, rI_hold, rI_hold, rL_hold, hk]; done)) ?_
  refine Bod.ic 1 (by decide) dc_330_17 ?_
  refine Bod.addN (k + 1) (by omega) dc_330_18 ?_
  refine Bod.put dc_330_19 fr_330_190 (mk_61 _) (Nat.le_of_ble_eq_true rfl) pf_14_15 (st_6115 _ _) (mu_I _ _ _) ?_
  refine Bod.aldnG dc_330_22 (by repeat (first | exact q0 | exact sm_get_p1 | exact sm_get_p2e | refine sm_get_p1m (by decide) (by decide) ?_ | refine sm_get_p1n (by decide) rfl ?_ | refine sm_get_p2n (by decide) (by decide) rfl ?_)) ?_
  refine Bod.get dc_330_23 fr_330_129 (mk_61 _) rfl ?_
  refine Bod.aldnG dc_330_26 (by repeat (first | exact q0 | exact sm_get_p1 | exact sm_get_p2e | refine sm_get_p1m (by decide) (by decide) ?_ | refine sm_get_p1n (by decide) rfl ?_ | refine sm_get_p2n (by decide) (by decide) rfl ?_)) ?_
  refine Bod.get dc_330_27 fr_330_190 (mk_61 _) rfl ?_
  refine Bod.eqI (nI (k + 1)) (by first | (simp (disch := omega) only [rI, rIe, rA, rIA, rLA, rJA, rVI, rQI, rVA, rQA, upd_at,  rAI, rLI, rJI, nI_add, pk_sub, kc_0, kc_1, kc_2, kc_3, kc_4, kc_5, reduceIte, Nat.reduceEqDiff, Nat.add_zero, rI_hold, rI_hold, rL_hold, hk]; done) | (simp (disch := omega) only [rI, rIe, rA, rIA, rLA, rJA, rVI, rQI, rVA, rQA, upd_at,  rAI, rLI, rJI, nI_add, pk_sub, kc_0, kc_1, kc_2, kc_3, kc_4, kc_5, reduceIte, Nat.reduceEqDiff, Nat.add_zero, rI_hold, rI_hold, rL_hold, hk]; exact congrArg nI (by omega))) ?_
  refine Bod.ialdN (k + 1) rfl (by omega) (by omega) dc_330_30 (mk_67 _) ?_
  refine Bod.eqI (nI e67) (by first | (simp (disch := omega) only [rI, rIe, rA, rIA, rLA, rJA, rVI, rQI, rVA, rQA, upd_at,  rAI, rLI, rJI, nI_add, pk_sub, kc_0, kc_1, kc_2, kc_3, kc_4, kc_5, reduceIte, Nat.reduceEqDiff, Nat.add_zero, rI_hold, rI_hold, rL_hold, hk, he67]; done) | (simp (disch := omega) only [rI, rIe, rA, rIA, rLA, rJA, rVI, rQI, rVA, rQA, upd_at,  rAI, rLI, rJI, nI_add, pk_sub, kc_0, kc_1, kc_2, kc_3, kc_4, kc_5, reduceIte, Nat.reduceEqDiff, Nat.add_zero, rI_hold, rI_hold, rL_hold, hk, he67]; exact congrArg nI (by omega))) ?_
  refine Bod.ic 1 (by decide) dc_330_31 ?_
  refine Bod.icF dc_330_32 rfl (k2_ne_F (k_eq e67 1 rfl rfl (by omega))) ?_
  refine Bod.aldnG dc_330_35 (by repeat (first | exact q0 | exact sm_get_p1 | exact sm_get_p2e | refine sm_get_p1m (by decide) (by decide) ?_ | refine sm_get_p1n (by decide) rfl ?_ | refine sm_get_p2n (by decide) (by decide) rfl ?_)) ?_
  refine Bod.aldnG dc_330_36 (by repeat (first | exact q0 | exact sm_get_p1 | exact sm_get_p2e | refine sm_get_p1m (by decide) (by decide) ?_ | refine sm_get_p1n (by decide) rfl ?_ | refine sm_get_p2n (by decide) (by decide) rfl ?_)) ?_
  refine Bod.get dc_330_37 fr_330_135 (mk_61 _) rfl ?_
  refine Bod.aldnG dc_330_40 (by repeat (first | exact q0 | exact sm_get_p1 | exact sm_get_p2e | refine sm_get_p1m (by decide) (by decide) ?_ | refine sm_get_p1n (by decide) rfl ?_ | refine sm_get_p2n (by decide) (by decide) rfl ?_)) ?_
  refine Bod.get dc_330_41 fr_330_190 (mk_61 _) rfl ?_
  refine Bod.eqI (nI (k + 1)) (by first | (simp (disch := omega) only [rI, rIe, rA, rIA, rLA, rJA, rVI, rQI, rVA, rQA, upd_at,  rAI, rLI, rJI, nI_add, pk_sub, kc_0, kc_1, kc_2, kc_3, kc_4, kc_5, reduceIte, Nat.reduceEqDiff, Nat.add_zero, rI_hold, rI_hold, rL_hold, hk, he67]; done) | (simp (disch := omega) only [rI, rIe, rA, rIA, rLA, rJA, rVI, rQI, rVA, rQA, upd_at,  rAI, rLI, rJI, nI_add, pk_sub, kc_0, kc_1, kc_2, kc_3, kc_4, kc_5, reduceIte, Nat.reduceEqDiff, Nat.add_zero, rI_hold, rI_hold, rL_hold, hk, he67]; exact congrArg nI (by omega))) ?_
  refine Bod.ialdN (k + 1) rfl (by omega) (by omega) dc_330_44 (mk_68 _) ?_
  refine Bod.eqI (nI e68) (by first | (simp (disch := omega) only [rI, rIe, rA, rIA, rLA, rJA, rVI, rQI, rVA, rQA, upd_at,  rAI, rLI, rJI, nI_add, pk_sub, kc_0, kc_1, kc_2, kc_3, kc_4, kc_5, reduceIte, Nat.reduceEqDiff, Nat.add_zero, rI_hold, rI_hold, rL_hold, hk, he67, he68]; done) | (simp (disch := omega) only [rI, rIe, rA, rIA, rLA, rJA, rVI, rQI, rVA, rQA, upd_at,  rAI, rLI, rJI, nI_add, pk_sub, kc_0, kc_1, kc_2, kc_3, kc_4, kc_5, reduceIte, Nat.reduceEqDiff, Nat.add_zero, rI_hold, rI_hold, rL_hold, hk, he67, he68]; exact congrArg nI (by omega))) ?_
  refine Bod.virt (r := []) dc_330_45 kr_330_444 ⟨Or.inl rfl, ow_331, cl_14⟩ (by rw [np_331]; rfl) (by rw [np_331]; rfl) (ob_of (mk_61 _)) (Nat.le_of_ble_eq_true rfl) (c1  ) ?_
  show Bod _ _ _ _ [_] _ _ _
  refine Bod.ifF dc_330_48 rfl (k1_eq_F (k_ne 1 0 rfl rfl (by omega) (by omega) (by omega))) ?_
  refine Bod.aldnG dc_330_51 (by repeat (first | exact q0 | exact sm_get_p1 | exact sm_get_p2e | refine sm_get_p1m (by decide) (by decide) ?_ | refine sm_get_p1n (by decide) rfl ?_ | refine sm_get_p2n (by decide) (by decide) rfl ?_)) ?_
  refine Bod.virt (r := []) dc_330_52 kr_330_202 ⟨Or.inl rfl, ow_299, cl_14⟩ (by rw [np_299]; rfl) (by rw [np_299]; rfl) (ob_of (mk_61 _)) (Nat.le_of_ble_eq_true rfl) (c2  ) ?_
  show Bod _ _ _ _ [_] _ _ _
  exact Bod.retZ dc_330_55 rt_330 (Or.inr rfl)
theorem sGlL_4 {d : Nat} {S : cS} {lv : sm_L} {k : Nat} {e67 : Nat} {e68 : Nat} {S1 : cS} {S2 : cS} (q0 : sm_get lv 0 = some (.ref 61)) (hk : sI S 6115 = nI k) (mk : k < 5990) (he67 : sA (wI 6115 (nI (k + 1)) S) 67 (k + 1) = nI e67) (me67 : e67 < 2 ^ 20) (b1 : e67 = 1) (he68 : sA (wI 6115 (nI (k + 1)) S) 68 (k + 1) = nI e68) (me68 : e68 < 2 ^ 20) (c1 : Ans (d + 8) 331 [.ref 61, .int (nI e68)] (wI 6115 (nI (k + 1)) S) (some (.int (nI 1))) S1) (c2 : Ans (d + 8) 299 [.ref 61] S1 (some (.int (nI 0))) S2) : Bod (d + 8) 330 12 lv [] S (some (.int 0)) (S2) := by
  refine Bod.aldnG dc_330_12 (by repeat (first | exact q0 | exact sm_get_p1 | exact sm_get_p2e | refine sm_get_p1m (by decide) (by decide) ?_ | refine sm_get_p1n (by decide) rfl ?_ | refine sm_get_p2n (by decide) (by decide) rfl ?_)) ?_
  refine Bod.go dc_330_13 rfl ?_
  refine Bod.get dc_330_14 fr_330_190 (mk_61 _) rfl ?_
  refine Bod.eqI (nI k) (by first | assumption | rfl | exact congrArg nI (by omega) | (simp (disch := omega) only [rI, rIe, rA, rIA, rLA, rJA, rVI, rQI, rVA, rQA, upd_at,  rAI, rLI, rJI, nI_add, pk_sub, kc_0, kc_1, kc_2, kc_3, kc_4, kc_5, reduceIte, Nat.reduceEqDiff, Nat.add_zero, rI_hold, rI_hold, rL_hold, hk]; done)) ?_
  refine Bod.ic 1 (by decide) dc_330_17 ?_
  refine Bod.addN (k + 1) (by omega) dc_330_18 ?_
  refine Bod.put dc_330_19 fr_330_190 (mk_61 _) (Nat.le_of_ble_eq_true rfl) pf_14_15 (st_6115 _ _) (mu_I _ _ _) ?_
  refine Bod.aldnG dc_330_22 (by repeat (first | exact q0 | exact sm_get_p1 | exact sm_get_p2e | refine sm_get_p1m (by decide) (by decide) ?_ | refine sm_get_p1n (by decide) rfl ?_ | refine sm_get_p2n (by decide) (by decide) rfl ?_)) ?_
  refine Bod.get dc_330_23 fr_330_129 (mk_61 _) rfl ?_
  refine Bod.aldnG dc_330_26 (by repeat (first | exact q0 | exact sm_get_p1 | exact sm_get_p2e | refine sm_get_p1m (by decide) (by decide) ?_ | refine sm_get_p1n (by decide) rfl ?_ | refine sm_get_p2n (by decide) (by decide) rfl ?_)) ?_
  refine Bod.get dc_330_27 fr_330_190 (mk_61 _) rfl ?_
  refine Bod.eqI (nI (k + 1)) (by first | (simp (disch := omega) only [rI, rIe, rA, rIA, rLA, rJA, rVI, rQI, rVA, rQA, upd_at,  rAI, rLI, rJI, nI_add, pk_sub, kc_0, kc_1, kc_2, kc_3, kc_4, kc_5, reduceIte, Nat.reduceEqDiff, Nat.add_zero, rI_hold, rI_hold, rL_hold, hk]; done) | (simp (disch := omega) only [rI, rIe, rA, rIA, rLA, rJA, rVI, rQI, rVA, rQA, upd_at,  rAI, rLI, rJI, nI_add, pk_sub, kc_0, kc_1, kc_2, kc_3, kc_4, kc_5, reduceIte, Nat.reduceEqDiff, Nat.add_zero, rI_hold, rI_hold, rL_hold, hk]; exact congrArg nI (by omega))) ?_
  refine Bod.ialdN (k + 1) rfl (by omega) (by omega) dc_330_30 (mk_67 _) ?_
  refine Bod.eqI (nI e67) (by first | (simp (disch := omega) only [rI, rIe, rA, rIA, rLA, rJA, rVI, rQI, rVA, rQA, upd_at,  rAI, rLI, rJI, nI_add, pk_sub, kc_0, kc_1, kc_2, kc_3, kc_4, kc_5, reduceIte, Nat.reduceEqDiff, Nat.add_zero, rI_hold, rI_hold, rL_hold, hk, he67]; done) | (simp (disch := omega) only [rI, rIe, rA, rIA, rLA, rJA, rVI, rQI, rVA, rQA, upd_at,  rAI, rLI, rJI, nI_add, pk_sub, kc_0, kc_1, kc_2, kc_3, kc_4, kc_5, reduceIte, Nat.reduceEqDiff, Nat.add_zero, rI_hold, rI_hold, rL_hold, hk, he67]; exact congrArg nI (by omega))) ?_
  refine Bod.ic 1 (by decide) dc_330_31 ?_
  refine Bod.icF dc_330_32 rfl (k2_ne_F (k_eq e67 1 rfl rfl (by omega))) ?_
  refine Bod.aldnG dc_330_35 (by repeat (first | exact q0 | exact sm_get_p1 | exact sm_get_p2e | refine sm_get_p1m (by decide) (by decide) ?_ | refine sm_get_p1n (by decide) rfl ?_ | refine sm_get_p2n (by decide) (by decide) rfl ?_)) ?_
  refine Bod.aldnG dc_330_36 (by repeat (first | exact q0 | exact sm_get_p1 | exact sm_get_p2e | refine sm_get_p1m (by decide) (by decide) ?_ | refine sm_get_p1n (by decide) rfl ?_ | refine sm_get_p2n (by decide) (by decide) rfl ?_)) ?_
  refine Bod.get dc_330_37 fr_330_135 (mk_61 _) rfl ?_
  refine Bod.aldnG dc_330_40 (by repeat (first | exact q0 | exact sm_get_p1 | exact sm_get_p2e | refine sm_get_p1m (by decide) (by decide) ?_ | refine sm_get_p1n (by decide) rfl ?_ | refine sm_get_p2n (by decide) (by decide) rfl ?_)) ?_
  refine Bod.get dc_330_41 fr_330_190 (mk_61 _) rfl ?_
  refine Bod.eqI (nI (k + 1)) (by first | (simp (disch := omega) only [rI, rIe, rA, rIA, rLA, rJA, rVI, rQI, rVA, rQA, upd_at,  rAI, rLI, rJI, nI_add, pk_sub, kc_0, kc_1, kc_2, kc_3, kc_4, kc_5, reduceIte, Nat.reduceEqDiff, Nat.add_zero, rI_hold, rI_hold, rL_hold, hk, he67]; done) | (simp (disch := omega) only [rI, rIe, rA, rIA, rLA, rJA, rVI, rQI, rVA, rQA, upd_at,  rAI, rLI, rJI, nI_add, pk_sub, kc_0, kc_1, kc_2, kc_3, kc_4, kc_5, reduceIte, Nat.reduceEqDiff, Nat.add_zero, rI_hold, rI_hold, rL_hold, hk, he67]; exact congrArg nI (by omega))) ?_
  refine Bod.ialdN (k + 1) rfl (by omega) (by omega) dc_330_44 (mk_68 _) ?_
  refine Bod.eqI (nI e68) (by first | (simp (disch := omega) only [rI, rIe, rA, rIA, rLA, rJA, rVI, rQI, rVA, rQA, upd_at,  rAI, rLI, rJI, nI_add, pk_sub, kc_0, kc_1, kc_2, kc_3, kc_4, kc_5, reduceIte, Nat.reduceEqDiff, Nat.add_zero, rI_hold, rI_hold, rL_hold, hk, he67, he68]; done) | (simp (disch := omega) only [rI, rIe, rA, rIA, rLA, rJA, rVI, rQI, rVA, rQA, upd_at,  rAI, rLI, rJI, nI_add, pk_sub, kc_0, kc_1, kc_2, kc_3, kc_4, kc_5, reduceIte, Nat.reduceEqDiff, Nat.add_zero, rI_hold, rI_hold, rL_hold, hk, he67, he68]; exact congrArg nI (by omega))) ?_
  refine Bod.virt (r := []) dc_330_45 kr_330_444 ⟨Or.inl rfl, ow_331, cl_14⟩ (by rw [np_331]; rfl) (by rw [np_331]; rfl) (ob_of (mk_61 _)) (Nat.le_of_ble_eq_true rfl) (c1  ) ?_
  show Bod _ _ _ _ [_] _ _ _
  refine Bod.ifF dc_330_48 rfl (k1_eq_F (k_ne 1 0 rfl rfl (by omega) (by omega) (by omega))) ?_
  refine Bod.aldnG dc_330_51 (by repeat (first | exact q0 | exact sm_get_p1 | exact sm_get_p2e | refine sm_get_p1m (by decide) (by decide) ?_ | refine sm_get_p1n (by decide) rfl ?_ | refine sm_get_p2n (by decide) (by decide) rfl ?_)) ?_
  refine Bod.virt (r := []) dc_330_52 kr_330_202 ⟨Or.inl rfl, ow_299, cl_14⟩ (by rw [np_299]; rfl) (by rw [np_299]; rfl) (ob_of (mk_61 _)) (Nat.le_of_ble_eq_true rfl) (c2  ) ?_
  show Bod _ _ _ _ [_] _ _ _
  exact Bod.retZ dc_330_55 rt_330 (Or.inl rfl)
theorem sGlL_5 {d : Nat} {S Sf : cS} {v : Option Value} {lv : sm_L} {k : Nat} {e67 : Nat} {e68 : Nat} {S1 : cS} {k1 : Nat} {S2 : cS} (q0 : sm_get lv 0 = some (.ref 61)) (hk : sI S 6115 = nI k) (mk : k < 5990) (he67 : sA (wI 6115 (nI (k + 1)) S) 67 (k + 1) = nI e67) (me67 : e67 < 2 ^ 20) (b1 : e67 = 1) (he68 : sA (wI 6115 (nI (k + 1)) S) 68 (k + 1) = nI e68) (me68 : e68 < 2 ^ 20) (c1 : Ans (d + 8) 331 [.ref 61, .int (nI e68)] (wI 6115 (nI (k + 1)) S) (some (.int (nI 0))) S1) (hk1 : sI S1 6115 = nI k1) (mk1 : k1 < 5990) (c2 : Ans (d + 8) 314 [.ref 61, .int (nI 44)] (wI 6115 (nI (k1 + 1)) S1) (some (.int (nI 1))) S2) (hB : ∀ lv1 : sm_L, sm_get lv1 0 = some (.ref 61) → Bod (d + 8) 330 12 lv1 [] (S2) v Sf) : Bod (d + 8) 330 12 lv [] S v Sf := by
  refine Bod.aldnG dc_330_12 (by repeat (first | exact q0 | exact sm_get_p1 | exact sm_get_p2e | refine sm_get_p1m (by decide) (by decide) ?_ | refine sm_get_p1n (by decide) rfl ?_ | refine sm_get_p2n (by decide) (by decide) rfl ?_)) ?_
  refine Bod.go dc_330_13 rfl ?_
  refine Bod.get dc_330_14 fr_330_190 (mk_61 _) rfl ?_
  refine Bod.eqI (nI k) (by first | assumption | rfl | exact congrArg nI (by omega) | (simp (disch := omega) only [rI, rIe, rA, rIA, rLA, rJA, rVI, rQI, rVA, rQA, upd_at,  rAI, rLI, rJI, nI_add, pk_sub, kc_0, kc_1, kc_2, kc_3, kc_4, kc_5, reduceIte, Nat.reduceEqDiff, Nat.add_zero, rI_hold, rI_hold, rL_hold, hk]; done)) ?_
  refine Bod.ic 1 (by decide) dc_330_17 ?_
  refine Bod.addN (k + 1) (by omega) dc_330_18 ?_
  refine Bod.put dc_330_19 fr_330_190 (mk_61 _) (Nat.le_of_ble_eq_true rfl) pf_14_15 (st_6115 _ _) (mu_I _ _ _) ?_
  refine Bod.aldnG dc_330_22 (by repeat (first | exact q0 | exact sm_get_p1 | exact sm_get_p2e | refine sm_get_p1m (by decide) (by decide) ?_ | refine sm_get_p1n (by decide) rfl ?_ | refine sm_get_p2n (by decide) (by decide) rfl ?_)) ?_
  refine Bod.get dc_330_23 fr_330_129 (mk_61 _) rfl ?_
  refine Bod.aldnG dc_330_26 (by repeat (first | exact q0 | exact sm_get_p1 | exact sm_get_p2e | refine sm_get_p1m (by decide) (by decide) ?_ | refine sm_get_p1n (by decide) rfl ?_ | refine sm_get_p2n (by decide) (by decide) rfl ?_)) ?_
  refine Bod.get dc_330_27 fr_330_190 (mk_61 _) rfl ?_
  refine Bod.eqI (nI (k + 1)) (by first | (simp (disch := omega) only [rI, rIe, rA, rIA, rLA, rJA, rVI, rQI, rVA, rQA, upd_at,  rAI, rLI, rJI, nI_add, pk_sub, kc_0, kc_1, kc_2, kc_3, kc_4, kc_5, reduceIte, Nat.reduceEqDiff, Nat.add_zero, rI_hold, rI_hold, rL_hold, hk]; done) | (simp (disch := omega) only [rI, rIe, rA, rIA, rLA, rJA, rVI, rQI, rVA, rQA, upd_at,  rAI, rLI, rJI, nI_add, pk_sub, kc_0, kc_1, kc_2, kc_3, kc_4, kc_5, reduceIte, Nat.reduceEqDiff, Nat.add_zero, rI_hold, rI_hold, rL_hold, hk]; exact congrArg nI (by omega))) ?_
  refine Bod.ialdN (k + 1) rfl (by omega) (by omega) dc_330_30 (mk_67 _) ?_
  refine Bod.eqI (nI e67) (by first | (simp (disch := omega) only [rI, rIe, rA, rIA, rLA, rJA, rVI, rQI, rVA, rQA, upd_at,  rAI, rLI, rJI, nI_add, pk_sub, kc_0, kc_1, kc_2, kc_3, kc_4, kc_5, reduceIte, Nat.reduceEqDiff, Nat.add_zero, rI_hold, rI_hold, rL_hold, hk, he67]; done) | (simp (disch := omega) only [rI, rIe, rA, rIA, rLA, rJA, rVI, rQI, rVA, rQA, upd_at,  rAI, rLI, rJI, nI_add, pk_sub, kc_0, kc_1, kc_2, kc_3, kc_4, kc_5, reduceIte, Nat.reduceEqDiff, Nat.add_zero, rI_hold, rI_hold, rL_hold, hk, he67]; exact congrArg nI (by omega))) ?_
  refine Bod.ic 1 (by decide) dc_330_31 ?_
  refine Bod.icF dc_330_32 rfl (k2_ne_F (k_eq e67 1 rfl rfl (by omega))) ?_
  refine Bod.aldnG dc_330_35 (by repeat (first | exact q0 | exact sm_get_p1 | exact sm_get_p2e | refine sm_get_p1m (by decide) (by decide) ?_ | refine sm_get_p1n (by decide) rfl ?_ | refine sm_get_p2n (by decide) (by decide) rfl ?_)) ?_
  refine Bod.aldnG dc_330_36 (by repeat (first | exact q0 | exact sm_get_p1 | exact sm_get_p2e | refine sm_get_p1m (by decide) (by decide) ?_ | refine sm_get_p1n (by decide) rfl ?_ | refine sm_get_p2n (by decide) (by decide) rfl ?_)) ?_
  refine Bod.get dc_330_37 fr_330_135 (mk_61 _) rfl ?_
  refine Bod.aldnG dc_330_40 (by repeat (first | exact q0 | exact sm_get_p1 | exact sm_get_p2e | refine sm_get_p1m (by decide) (by decide) ?_ | refine sm_get_p1n (by decide) rfl ?_ | refine sm_get_p2n (by decide) (by decide) rfl ?_)) ?_
  refine Bod.get dc_330_41 fr_330_190 (mk_61 _) rfl ?_
  refine Bod.eqI (nI (k + 1)) (by first | (simp (disch := omega) only [rI, rIe, rA, rIA, rLA, rJA, rVI, rQI, rVA, rQA, upd_at,  rAI, rLI, rJI, nI_add, pk_sub, kc_0, kc_1, kc_2, kc_3, kc_4, kc_5, reduceIte, Nat.reduceEqDiff, Nat.add_zero, rI_hold, rI_hold, rL_hold, hk, he67]; done) | (simp (disch := omega) only [rI, rIe, rA, rIA, rLA, rJA, rVI, rQI, rVA, rQA, upd_at,  rAI, rLI, rJI, nI_add, pk_sub, kc_0, kc_1, kc_2, kc_3, kc_4, kc_5, reduceIte, Nat.reduceEqDiff, Nat.add_zero, rI_hold, rI_hold, rL_hold, hk, he67]; exact congrArg nI (by omega))) ?_
  refine Bod.ialdN (k + 1) rfl (by omega) (by omega) dc_330_44 (mk_68 _) ?_
  refine Bod.eqI (nI e68) (by first | (simp (disch := omega) only [rI, rIe, rA, rIA, rLA, rJA, rVI, rQI, rVA, rQA, upd_at,  rAI, rLI, rJI, nI_add, pk_sub, kc_0, kc_1, kc_2, kc_3, kc_4, kc_5, reduceIte, Nat.reduceEqDiff, Nat.add_zero, rI_hold, rI_hold, rL_hold, hk, he67, he68]; done) | (simp (disch := omega) only [rI, rIe, rA, rIA, rLA, rJA, rVI, rQI, rVA, rQA, upd_at,  rAI, rLI, rJI, nI_add, pk_sub, kc_0, kc_1, kc_2, kc_3, kc_4, kc_5, reduceIte, Nat.reduceEqDiff, Nat.add_zero, rI_hold, rI_hold, rL_hold, hk, he67, he68]; exact congrArg nI (by omega))) ?_
  refine Bod.virt (r := []) dc_330_45 kr_330_444 ⟨Or.inl rfl, ow_331, cl_14⟩ (by rw [np_331]; rfl) (by rw [np_331]; rfl) (ob_of (mk_61 _)) (Nat.le_of_ble_eq_true rfl) (c1  ) ?_
  show Bod _ _ _ _ [_] _ _ _
  refine Bod.ifT dc_330_48 rfl (k1_eq_T (k_eq 0 0 rfl rfl (by omega))) ?_
  refine Bod.aldnG dc_330_56 (by repeat (first | exact q0 | exact sm_get_p1 | exact sm_get_p2e | refine sm_get_p1m (by decide) (by decide) ?_ | refine sm_get_p1n (by decide) rfl ?_ | refine sm_get_p2n (by decide) (by decide) rfl ?_)) ?_
  refine Bod.go dc_330_57 rfl ?_
  refine Bod.get dc_330_58 fr_330_190 (mk_61 _) rfl ?_
  refine Bod.eqI (nI k1) (by first | (simp (disch := omega) only [rI, rIe, rA, rIA, rLA, rJA, rVI, rQI, rVA, rQA, upd_at,  rAI, rLI, rJI, nI_add, pk_sub, kc_0, kc_1, kc_2, kc_3, kc_4, kc_5, reduceIte, Nat.reduceEqDiff, Nat.add_zero, rI_hold, rI_hold, rL_hold, hk, he67, he68, hk1]; done) | (simp (disch := omega) only [rI, rIe, rA, rIA, rLA, rJA, rVI, rQI, rVA, rQA, upd_at,  rAI, rLI, rJI, nI_add, pk_sub, kc_0, kc_1, kc_2, kc_3, kc_4, kc_5, reduceIte, Nat.reduceEqDiff, Nat.add_zero, rI_hold, rI_hold, rL_hold, hk, he67, he68, hk1]; exact congrArg nI (by omega))) ?_
  refine Bod.ic 1 (by decide) dc_330_61 ?_
  refine Bod.addN (k1 + 1) (by omega) dc_330_62 ?_
  refine Bod.put dc_330_63 fr_330_190 (mk_61 _) (Nat.le_of_ble_eq_true rfl) pf_14_15 (st_6115 _ _) (mu_I _ _ _) ?_
  refine Bod.aldnG dc_330_66 (by repeat (first | exact q0 | exact sm_get_p1 | exact sm_get_p2e | refine sm_get_p1m (by decide) (by decide) ?_ | refine sm_get_p1n (by decide) rfl ?_ | refine sm_get_p2n (by decide) (by decide) rfl ?_)) ?_
  refine Bod.bip 44 (by decide) dc_330_67 ?_
  refine Bod.virt (r := []) dc_330_69 kr_330_199 ⟨Or.inl rfl, ow_314, cl_14⟩ (by rw [np_314]; rfl) (by rw [np_314]; rfl) (ob_of (mk_61 _)) (Nat.le_of_ble_eq_true rfl) (c2  ) ?_
  show Bod _ _ _ _ [_] _ _ _
  refine Bod.ifT dc_330_72 rfl (k1_ne_T (k_ne 1 0 rfl rfl (by omega) (by omega) (by omega))) ?_
  exact hB _ (by repeat (first | exact q0 | exact sm_get_p1 | exact sm_get_p2e | refine sm_get_p1m (by decide) (by decide) ?_ | refine sm_get_p1n (by decide) rfl ?_ | refine sm_get_p2n (by decide) (by decide) rfl ?_))
theorem sGlL_6 {d : Nat} {S : cS} {lv : sm_L} {k : Nat} {e67 : Nat} {e68 : Nat} {S1 : cS} {k1 : Nat} {S2 : cS} (q0 : sm_get lv 0 = some (.ref 61)) (hk : sI S 6115 = nI k) (mk : k < 5990) (he67 : sA (wI 6115 (nI (k + 1)) S) 67 (k + 1) = nI e67) (me67 : e67 < 2 ^ 20) (b1 : e67 = 1) (he68 : sA (wI 6115 (nI (k + 1)) S) 68 (k + 1) = nI e68) (me68 : e68 < 2 ^ 20) (c1 : Ans (d + 8) 331 [.ref 61, .int (nI e68)] (wI 6115 (nI (k + 1)) S) (some (.int (nI 0))) S1) (hk1 : sI S1 6115 = nI k1) (mk1 : k1 < 5990) (c2 : Ans (d + 8) 314 [.ref 61, .int (nI 44)] (wI 6115 (nI (k1 + 1)) S1) (some (.int (nI 0))) S2) : Bod (d + 8) 330 12 lv [] S (some (.int 1)) (S2) := by
  refine Bod.aldnG dc_330_12 (by repeat (first | exact q0 | exact sm_get_p1 | exact sm_get_p2e | refine sm_get_p1m (by decide) (by decide) ?_ | refine sm_get_p1n (by decide) rfl ?_ | refine sm_get_p2n (by decide) (by decide) rfl ?_)) ?_
  refine Bod.go dc_330_13 rfl ?_
  refine Bod.get dc_330_14 fr_330_190 (mk_61 _) rfl ?_
  refine Bod.eqI (nI k) (by first | assumption | rfl | exact congrArg nI (by omega) | (simp (disch := omega) only [rI, rIe, rA, rIA, rLA, rJA, rVI, rQI, rVA, rQA, upd_at,  rAI, rLI, rJI, nI_add, pk_sub, kc_0, kc_1, kc_2, kc_3, kc_4, kc_5, reduceIte, Nat.reduceEqDiff, Nat.add_zero, rI_hold, rI_hold, rL_hold, hk]; done)) ?_
  refine Bod.ic 1 (by decide) dc_330_17 ?_
  refine Bod.addN (k + 1) (by omega) dc_330_18 ?_
  refine Bod.put dc_330_19 fr_330_190 (mk_61 _) (Nat.le_of_ble_eq_true rfl) pf_14_15 (st_6115 _ _) (mu_I _ _ _) ?_
  refine Bod.aldnG dc_330_22 (by repeat (first | exact q0 | exact sm_get_p1 | exact sm_get_p2e | refine sm_get_p1m (by decide) (by decide) ?_ | refine sm_get_p1n (by decide) rfl ?_ | refine sm_get_p2n (by decide) (by decide) rfl ?_)) ?_
  refine Bod.get dc_330_23 fr_330_129 (mk_61 _) rfl ?_
  refine Bod.aldnG dc_330_26 (by repeat (first | exact q0 | exact sm_get_p1 | exact sm_get_p2e | refine sm_get_p1m (by decide) (by decide) ?_ | refine sm_get_p1n (by decide) rfl ?_ | refine sm_get_p2n (by decide) (by decide) rfl ?_)) ?_
  refine Bod.get dc_330_27 fr_330_190 (mk_61 _) rfl ?_
  refine Bod.eqI (nI (k + 1)) (by first | (simp (disch := omega) only [rI, rIe, rA, rIA, rLA, rJA, rVI, rQI, rVA, rQA, upd_at,  rAI, rLI, rJI, nI_add, pk_sub, kc_0, kc_1, kc_2, kc_3, kc_4, kc_5, reduceIte, Nat.reduceEqDiff, Nat.add_zero, rI_hold, rI_hold, rL_hold, hk]; done) | (simp (disch := omega) only [rI, rIe, rA, rIA, rLA, rJA, rVI, rQI, rVA, rQA, upd_at,  rAI, rLI, rJI, nI_add, pk_sub, kc_0, kc_1, kc_2, kc_3, kc_4, kc_5, reduceIte, Nat.reduceEqDiff, Nat.add_zero, rI_hold, rI_hold, rL_hold, hk]; exact congrArg nI (by omega))) ?_
  refine Bod.ialdN (k + 1) rfl (by omega) (by omega) dc_330_30 (mk_67 _) ?_
  refine Bod.eqI (nI e67) (by first | (simp (disch := omega) only [rI, rIe, rA, rIA, rLA, rJA, rVI, rQI, rVA, rQA, upd_at,  rAI, rLI, rJI, nI_add, pk_sub, kc_0, kc_1, kc_2, kc_3, kc_4, kc_5, reduceIte, Nat.reduceEqDiff, Nat.add_zero, rI_hold, rI_hold, rL_hold, hk, he67]; done) | (simp (disch := omega) only [rI, rIe, rA, rIA, rLA, rJA, rVI, rQI, rVA, rQA, upd_at,  rAI, rLI, rJI, nI_add, pk_sub, kc_0, kc_1, kc_2, kc_3, kc_4, kc_5, reduceIte, Nat.reduceEqDiff, Nat.add_zero, rI_hold, rI_hold, rL_hold, hk, he67]; exact congrArg nI (by omega))) ?_
  refine Bod.ic 1 (by decide) dc_330_31 ?_
  refine Bod.icF dc_330_32 rfl (k2_ne_F (k_eq e67 1 rfl rfl (by omega))) ?_
  refine Bod.aldnG dc_330_35 (by repeat (first | exact q0 | exact sm_get_p1 | exact sm_get_p2e | refine sm_get_p1m (by decide) (by decide) ?_ | refine sm_get_p1n (by decide) rfl ?_ | refine sm_get_p2n (by decide) (by decide) rfl ?_)) ?_
  refine Bod.aldnG dc_330_36 (by repeat (first | exact q0 | exact sm_get_p1 | exact sm_get_p2e | refine sm_get_p1m (by decide) (by decide) ?_ | refine sm_get_p1n (by decide) rfl ?_ | refine sm_get_p2n (by decide) (by decide) rfl ?_)) ?_
  refine Bod.get dc_330_37 fr_330_135 (mk_61 _) rfl ?_
  refine Bod.aldnG dc_330_40 (by repeat (first | exact q0 | exact sm_get_p1 | exact sm_get_p2e | refine sm_get_p1m (by decide) (by decide) ?_ | refine sm_get_p1n (by decide) rfl ?_ | refine sm_get_p2n (by decide) (by decide) rfl ?_)) ?_
  refine Bod.get dc_330_41 fr_330_190 (mk_61 _) rfl ?_
  refine Bod.eqI (nI (k + 1)) (by first | (simp (disch := omega) only [rI, rIe, rA, rIA, rLA, rJA, rVI, rQI, rVA, rQA, upd_at,  rAI, rLI, rJI, nI_add, pk_sub, kc_0, kc_1, kc_2, kc_3, kc_4, kc_5, reduceIte, Nat.reduceEqDiff, Nat.add_zero, rI_hold, rI_hold, rL_hold, hk, he67]; done) | (simp (disch := omega) only [rI, rIe, rA, rIA, rLA, rJA, rVI, rQI, rVA, rQA, upd_at,  rAI, rLI, rJI, nI_add, pk_sub, kc_0, kc_1, kc_2, kc_3, kc_4, kc_5, reduceIte, Nat.reduceEqDiff, Nat.add_zero, rI_hold, rI_hold, rL_hold, hk, he67]; exact congrArg nI (by omega))) ?_
  refine Bod.ialdN (k + 1) rfl (by omega) (by omega) dc_330_44 (mk_68 _) ?_
  refine Bod.eqI (nI e68) (by first | (simp (disch := omega) only [rI, rIe, rA, rIA, rLA, rJA, rVI, rQI, rVA, rQA, upd_at,  rAI, rLI, rJI, nI_add, pk_sub, kc_0, kc_1, kc_2, kc_3, kc_4, kc_5, reduceIte, Nat.reduceEqDiff, Nat.add_zero, rI_hold, rI_hold, rL_hold, hk, he67, he68]; done) | (simp (disch := omega) only [rI, rIe, rA, rIA, rLA, rJA, rVI, rQI, rVA, rQA, upd_at,  rAI, rLI, rJI, nI_add, pk_sub, kc_0, kc_1, kc_2, kc_3, kc_4, kc_5, reduceIte, Nat.reduceEqDiff, Nat.add_zero, rI_hold, rI_hold, rL_hold, hk, he67, he68]; exact congrArg nI (by omega))) ?_
  refine Bod.virt (r := []) dc_330_45 kr_330_444 ⟨Or.inl rfl, ow_331, cl_14⟩ (by rw [np_331]; rfl) (by rw [np_331]; rfl) (ob_of (mk_61 _)) (Nat.le_of_ble_eq_true rfl) (c1  ) ?_
  show Bod _ _ _ _ [_] _ _ _
  refine Bod.ifT dc_330_48 rfl (k1_eq_T (k_eq 0 0 rfl rfl (by omega))) ?_
  refine Bod.aldnG dc_330_56 (by repeat (first | exact q0 | exact sm_get_p1 | exact sm_get_p2e | refine sm_get_p1m (by decide) (by decide) ?_ | refine sm_get_p1n (by decide) rfl ?_ | refine sm_get_p2n (by decide) (by decide) rfl ?_)) ?_
  refine Bod.go dc_330_57 rfl ?_
  refine Bod.get dc_330_58 fr_330_190 (mk_61 _) rfl ?_
  refine Bod.eqI (nI k1) (by first | (simp (disch := omega) only [rI, rIe, rA, rIA, rLA, rJA, rVI, rQI, rVA, rQA, upd_at,  rAI, rLI, rJI, nI_add, pk_sub, kc_0, kc_1, kc_2, kc_3, kc_4, kc_5, reduceIte, Nat.reduceEqDiff, Nat.add_zero, rI_hold, rI_hold, rL_hold, hk, he67, he68, hk1]; done) | (simp (disch := omega) only [rI, rIe, rA, rIA, rLA, rJA, rVI, rQI, rVA, rQA, upd_at,  rAI, rLI, rJI, nI_add, pk_sub, kc_0, kc_1, kc_2, kc_3, kc_4, kc_5, reduceIte, Nat.reduceEqDiff, Nat.add_zero, rI_hold, rI_hold, rL_hold, hk, he67, he68, hk1]; exact congrArg nI (by omega))) ?_
  refine Bod.ic 1 (by decide) dc_330_61 ?_
  refine Bod.addN (k1 + 1) (by omega) dc_330_62 ?_
  refine Bod.put dc_330_63 fr_330_190 (mk_61 _) (Nat.le_of_ble_eq_true rfl) pf_14_15 (st_6115 _ _) (mu_I _ _ _) ?_
  refine Bod.aldnG dc_330_66 (by repeat (first | exact q0 | exact sm_get_p1 | exact sm_get_p2e | refine sm_get_p1m (by decide) (by decide) ?_ | refine sm_get_p1n (by decide) rfl ?_ | refine sm_get_p2n (by decide) (by decide) rfl ?_)) ?_
  refine Bod.bip 44 (by decide) dc_330_67 ?_
  refine Bod.virt (r := []) dc_330_69 kr_330_199 ⟨Or.inl rfl, ow_314, cl_14⟩ (by rw [np_314]; rfl) (by rw [np_314]; rfl) (ob_of (mk_61 _)) (Nat.le_of_ble_eq_true rfl) (c2  ) ?_
  show Bod _ _ _ _ [_] _ _ _
  refine Bod.ifF dc_330_72 rfl (k1_ne_F (k_eq 0 0 rfl rfl (by omega))) ?_
  refine Bod.ic 1 (by decide) dc_330_75 ?_
  exact Bod.retZ dc_330_76 rt_330 (Or.inr rfl)
theorem sBl0_1 {d : Nat} {S : cS} {a : Nat} {z : Nat} {S1 : cS} {S2 : cS} {k : Nat} {e67 : Nat} {S3 : cS} (ma : a < 2 ^ 20) (mz : z < 2 ^ 20) (c1 : Ans (d + 8) 323 [.ref 61, .int (nI 58)] S (some (.int (nI 1))) S1) (c2 : Ans (d + 8) 332 [.ref 61] S1 (some (.int (nI 1))) S2) (hk : sI S2 6115 = nI k) (mk : k < 5990) (he67 : sA S2 67 k = nI e67) (me67 : e67 < 2 ^ 20) (b1 : e67 = 7) (c3 : Ans (d + 8) 299 [.ref 61] S2 (some (.int (nI 1))) S3) : Bod (d + 8) 334 0 [(0, .ref 61), (1, .int (nI a)), (2, .int (nI z))] [] S (some (.int 1)) (S3) := by
  refine Bod.go dc_334_0 rfl ?_
  refine Bod.bip 58 (by decide) dc_334_1 ?_
  refine Bod.virt (r := []) dc_334_3 kr_334_270 ⟨Or.inl rfl, ow_323, cl_14⟩ (by rw [np_323]; rfl) (by rw [np_323]; rfl) (ob_of (mk_61 _)) (Nat.le_of_ble_eq_true rfl) (c1  ) ?_
  show Bod _ _ _ _ [_] _ _ _
  refine Bod.ifF dc_334_6 rfl (k1_eq_F (k_ne 1 0 rfl rfl (by omega) (by omega) (by omega))) ?_
  refine Bod.go dc_334_9 rfl ?_
  refine Bod.virt (r := []) dc_334_10 kr_334_273 ⟨Or.inl rfl, ow_332, cl_14⟩ (by rw [np_332]; rfl) (by rw [np_332]; rfl) (ob_of (mk_61 _)) (Nat.le_of_ble_eq_true rfl) (c2  ) ?_
  show Bod _ _ _ _ [_] _ _ _
  refine Bod.ifT dc_334_13 rfl (k1_ne_T (k_ne 1 0 rfl rfl (by omega) (by omega) (by omega))) ?_
  refine Bod.go dc_334_18 rfl ?_
  refine Bod.get dc_334_19 fr_334_129 (mk_61 _) rfl ?_
  refine Bod.go dc_334_22 rfl ?_
  refine Bod.get dc_334_23 fr_334_190 (mk_61 _) rfl ?_
  refine Bod.eqI (nI k) (by first | (simp (disch := omega) only [rI, rIe, rA, rIA, rLA, rJA, rVI, rQI, rVA, rQA, upd_at,  rAI, rLI, rJI, nI_add, pk_sub, kc_0, kc_1, kc_2, kc_3, kc_4, kc_5, reduceIte, Nat.reduceEqDiff, Nat.add_zero, rI_hold, rI_hold, rL_hold, hk]; done) | (simp (disch := omega) only [rI, rIe, rA, rIA, rLA, rJA, rVI, rQI, rVA, rQA, upd_at,  rAI, rLI, rJI, nI_add, pk_sub, kc_0, kc_1, kc_2, kc_3, kc_4, kc_5, reduceIte, Nat.reduceEqDiff, Nat.add_zero, rI_hold, rI_hold, rL_hold, hk]; exact congrArg nI (by omega))) ?_
  refine Bod.ialdN k rfl (by omega) (by omega) dc_334_26 (mk_67 _) ?_
  refine Bod.eqI (nI e67) (by first | (simp (disch := omega) only [rI, rIe, rA, rIA, rLA, rJA, rVI, rQI, rVA, rQA, upd_at,  rAI, rLI, rJI, nI_add, pk_sub, kc_0, kc_1, kc_2, kc_3, kc_4, kc_5, reduceIte, Nat.reduceEqDiff, Nat.add_zero, rI_hold, rI_hold, rL_hold, hk, he67]; done) | (simp (disch := omega) only [rI, rIe, rA, rIA, rLA, rJA, rVI, rQI, rVA, rQA, upd_at,  rAI, rLI, rJI, nI_add, pk_sub, kc_0, kc_1, kc_2, kc_3, kc_4, kc_5, reduceIte, Nat.reduceEqDiff, Nat.add_zero, rI_hold, rI_hold, rL_hold, hk, he67]; exact congrArg nI (by omega))) ?_
  refine Bod.bip 7 (by decide) dc_334_27 ?_
  refine Bod.icT dc_334_29 rfl (k2_eq_T (k_eq e67 7 rfl rfl (by omega))) ?_
  refine Bod.go dc_334_54 rfl ?_
  refine Bod.virt (r := []) dc_334_55 kr_334_202 ⟨Or.inl rfl, ow_299, cl_14⟩ (by rw [np_299]; rfl) (by rw [np_299]; rfl) (ob_of (mk_61 _)) (Nat.le_of_ble_eq_true rfl) (c3  ) ?_
  show Bod _ _ _ _ [_] _ _ _
  exact Bod.retZ dc_334_58 rt_334 (Or.inr rfl)
theorem sBl0_2 {d : Nat} {S : cS} {a : Nat} {z : Nat} {S1 : cS} {S2 : cS} {k : Nat} {e67 : Nat} {S3 : cS} (ma : a < 2 ^ 20) (mz : z < 2 ^ 20) (c1 : Ans (d + 8) 323 [.ref 61, .int (nI 58)] S (some (.int (nI 1))) S1) (c2 : Ans (d + 8) 332 [.ref 61] S1 (some (.int (nI 1))) S2) (hk : sI S2 6115 = nI k) (mk : k < 5990) (he67 : sA S2 67 k = nI e67) (me67 : e67 < 2 ^ 20) (b1 : e67 = 7) (c3 : Ans (d + 8) 299 [.ref 61] S2 (some (.int (nI 0))) S3) : Bod (d + 8) 334 0 [(0, .ref 61), (1, .int (nI a)), (2, .int (nI z))] [] S (some (.int 0)) (S3) := by
  refine Bod.go dc_334_0 rfl ?_
  refine Bod.bip 58 (by decide) dc_334_1 ?_
  refine Bod.virt (r := []) dc_334_3 kr_334_270 ⟨Or.inl rfl, ow_323, cl_14⟩ (by rw [np_323]; rfl) (by rw [np_323]; rfl) (ob_of (mk_61 _)) (Nat.le_of_ble_eq_true rfl) (c1  ) ?_
  show Bod _ _ _ _ [_] _ _ _
  refine Bod.ifF dc_334_6 rfl (k1_eq_F (k_ne 1 0 rfl rfl (by omega) (by omega) (by omega))) ?_
  refine Bod.go dc_334_9 rfl ?_
  refine Bod.virt (r := []) dc_334_10 kr_334_273 ⟨Or.inl rfl, ow_332, cl_14⟩ (by rw [np_332]; rfl) (by rw [np_332]; rfl) (ob_of (mk_61 _)) (Nat.le_of_ble_eq_true rfl) (c2  ) ?_
  show Bod _ _ _ _ [_] _ _ _
  refine Bod.ifT dc_334_13 rfl (k1_ne_T (k_ne 1 0 rfl rfl (by omega) (by omega) (by omega))) ?_
  refine Bod.go dc_334_18 rfl ?_
  refine Bod.get dc_334_19 fr_334_129 (mk_61 _) rfl ?_
  refine Bod.go dc_334_22 rfl ?_
  refine Bod.get dc_334_23 fr_334_190 (mk_61 _) rfl ?_
  refine Bod.eqI (nI k) (by first | (simp (disch := omega) only [rI, rIe, rA, rIA, rLA, rJA, rVI, rQI, rVA, rQA, upd_at,  rAI, rLI, rJI, nI_add, pk_sub, kc_0, kc_1, kc_2, kc_3, kc_4, kc_5, reduceIte, Nat.reduceEqDiff, Nat.add_zero, rI_hold, rI_hold, rL_hold, hk]; done) | (simp (disch := omega) only [rI, rIe, rA, rIA, rLA, rJA, rVI, rQI, rVA, rQA, upd_at,  rAI, rLI, rJI, nI_add, pk_sub, kc_0, kc_1, kc_2, kc_3, kc_4, kc_5, reduceIte, Nat.reduceEqDiff, Nat.add_zero, rI_hold, rI_hold, rL_hold, hk]; exact congrArg nI (by omega))) ?_
  refine Bod.ialdN k rfl (by omega) (by omega) dc_334_26 (mk_67 _) ?_
  refine Bod.eqI (nI e67) (by first | (simp (disch := omega) only [rI, rIe, rA, rIA, rLA, rJA, rVI, rQI, rVA, rQA, upd_at,  rAI, rLI, rJI, nI_add, pk_sub, kc_0, kc_1, kc_2, kc_3, kc_4, kc_5, reduceIte, Nat.reduceEqDiff, Nat.add_zero, rI_hold, rI_hold, rL_hold, hk, he67]; done) | (simp (disch := omega) only [rI, rIe, rA, rIA, rLA, rJA, rVI, rQI, rVA, rQA, upd_at,  rAI, rLI, rJI, nI_add, pk_sub, kc_0, kc_1, kc_2, kc_3, kc_4, kc_5, reduceIte, Nat.reduceEqDiff, Nat.add_zero, rI_hold, rI_hold, rL_hold, hk, he67]; exact congrArg nI (by omega))) ?_
  refine Bod.bip 7 (by decide) dc_334_27 ?_
  refine Bod.icT dc_334_29 rfl (k2_eq_T (k_eq e67 7 rfl rfl (by omega))) ?_
  refine Bod.go dc_334_54 rfl ?_
  refine Bod.virt (r := []) dc_334_55 kr_334_202 ⟨Or.inl rfl, ow_299, cl_14⟩ (by rw [np_299]; rfl) (by rw [np_299]; rfl) (ob_of (mk_61 _)) (Nat.le_of_ble_eq_true rfl) (c3  ) ?_
  show Bod _ _ _ _ [_] _ _ _
  exact Bod.retZ dc_334_58 rt_334 (Or.inl rfl)
theorem sBl0_3 {d : Nat} {S : cS} {a : Nat} {z : Nat} {S1 : cS} {S2 : cS} {k : Nat} {e67 : Nat} {e70 : Nat} {S3 : cS} (ma : a < 2 ^ 20) (mz : z < 2 ^ 20) (c1 : Ans (d + 8) 323 [.ref 61, .int (nI 58)] S (some (.int (nI 1))) S1) (c2 : Ans (d + 8) 332 [.ref 61] S1 (some (.int (nI 1))) S2) (hk : sI S2 6115 = nI k) (mk : k < 5990) (he67 : sA S2 67 k = nI e67) (me67 : e67 < 2 ^ 20) (b1 : e67 ≠ 7) (he70 : sA S2 70 k = nI e70) (me70 : e70 < 2 ^ 20) (b2 : e70 ≤ a) (c3 : Ans (d + 8) 299 [.ref 61] S2 (some (.int (nI 1))) S3) : Bod (d + 8) 334 0 [(0, .ref 61), (1, .int (nI a)), (2, .int (nI z))] [] S (some (.int 1)) (S3) := by
  refine Bod.go dc_334_0 rfl ?_
  refine Bod.bip 58 (by decide) dc_334_1 ?_
  refine Bod.virt (r := []) dc_334_3 kr_334_270 ⟨Or.inl rfl, ow_323, cl_14⟩ (by rw [np_323]; rfl) (by rw [np_323]; rfl) (ob_of (mk_61 _)) (Nat.le_of_ble_eq_true rfl) (c1  ) ?_
  show Bod _ _ _ _ [_] _ _ _
  refine Bod.ifF dc_334_6 rfl (k1_eq_F (k_ne 1 0 rfl rfl (by omega) (by omega) (by omega))) ?_
  refine Bod.go dc_334_9 rfl ?_
  refine Bod.virt (r := []) dc_334_10 kr_334_273 ⟨Or.inl rfl, ow_332, cl_14⟩ (by rw [np_332]; rfl) (by rw [np_332]; rfl) (ob_of (mk_61 _)) (Nat.le_of_ble_eq_true rfl) (c2  ) ?_
  show Bod _ _ _ _ [_] _ _ _
  refine Bod.ifT dc_334_13 rfl (k1_ne_T (k_ne 1 0 rfl rfl (by omega) (by omega) (by omega))) ?_
  refine Bod.go dc_334_18 rfl ?_
  refine Bod.get dc_334_19 fr_334_129 (mk_61 _) rfl ?_
  refine Bod.go dc_334_22 rfl ?_
  refine Bod.get dc_334_23 fr_334_190 (mk_61 _) rfl ?_
  refine Bod.eqI (nI k) (by first | (simp (disch := omega) only [rI, rIe, rA, rIA, rLA, rJA, rVI, rQI, rVA, rQA, upd_at,  rAI, rLI, rJI, nI_add, pk_sub, kc_0, kc_1, kc_2, kc_3, kc_4, kc_5, reduceIte, Nat.reduceEqDiff, Nat.add_zero, rI_hold, rI_hold, rL_hold, hk]; done) | (simp (disch := omega) only [rI, rIe, rA, rIA, rLA, rJA, rVI, rQI, rVA, rQA, upd_at,  rAI, rLI, rJI, nI_add, pk_sub, kc_0, kc_1, kc_2, kc_3, kc_4, kc_5, reduceIte, Nat.reduceEqDiff, Nat.add_zero, rI_hold, rI_hold, rL_hold, hk]; exact congrArg nI (by omega))) ?_
  refine Bod.ialdN k rfl (by omega) (by omega) dc_334_26 (mk_67 _) ?_
  refine Bod.eqI (nI e67) (by first | (simp (disch := omega) only [rI, rIe, rA, rIA, rLA, rJA, rVI, rQI, rVA, rQA, upd_at,  rAI, rLI, rJI, nI_add, pk_sub, kc_0, kc_1, kc_2, kc_3, kc_4, kc_5, reduceIte, Nat.reduceEqDiff, Nat.add_zero, rI_hold, rI_hold, rL_hold, hk, he67]; done) | (simp (disch := omega) only [rI, rIe, rA, rIA, rLA, rJA, rVI, rQI, rVA, rQA, upd_at,  rAI, rLI, rJI, nI_add, pk_sub, kc_0, kc_1, kc_2, kc_3, kc_4, kc_5, reduceIte, Nat.reduceEqDiff, Nat.add_zero, rI_hold, rI_hold, rL_hold, hk, he67]; exact congrArg nI (by omega))) ?_
  refine Bod.bip 7 (by decide) dc_334_27 ?_
  refine Bod.icF dc_334_29 rfl (k2_eq_F (k_ne e67 7 rfl rfl (by omega) (by omega) (by omega))) ?_
  refine Bod.go dc_334_32 rfl ?_
  refine Bod.get dc_334_33 fr_334_141 (mk_61 _) rfl ?_
  refine Bod.go dc_334_36 rfl ?_
  refine Bod.get dc_334_37 fr_334_190 (mk_61 _) rfl ?_
  refine Bod.eqI (nI k) (by first | (simp (disch := omega) only [rI, rIe, rA, rIA, rLA, rJA, rVI, rQI, rVA, rQA, upd_at,  rAI, rLI, rJI, nI_add, pk_sub, kc_0, kc_1, kc_2, kc_3, kc_4, kc_5, reduceIte, Nat.reduceEqDiff, Nat.add_zero, rI_hold, rI_hold, rL_hold, hk, he67]; done) | (simp (disch := omega) only [rI, rIe, rA, rIA, rLA, rJA, rVI, rQI, rVA, rQA, upd_at,  rAI, rLI, rJI, nI_add, pk_sub, kc_0, kc_1, kc_2, kc_3, kc_4, kc_5, reduceIte, Nat.reduceEqDiff, Nat.add_zero, rI_hold, rI_hold, rL_hold, hk, he67]; exact congrArg nI (by omega))) ?_
  refine Bod.ialdN k rfl (by omega) (by omega) dc_334_40 (mk_70 _) ?_
  refine Bod.eqI (nI e70) (by first | (simp (disch := omega) only [rI, rIe, rA, rIA, rLA, rJA, rVI, rQI, rVA, rQA, upd_at,  rAI, rLI, rJI, nI_add, pk_sub, kc_0, kc_1, kc_2, kc_3, kc_4, kc_5, reduceIte, Nat.reduceEqDiff, Nat.add_zero, rI_hold, rI_hold, rL_hold, hk, he67, he70]; done) | (simp (disch := omega) only [rI, rIe, rA, rIA, rLA, rJA, rVI, rQI, rVA, rQA, upd_at,  rAI, rLI, rJI, nI_add, pk_sub, kc_0, kc_1, kc_2, kc_3, kc_4, kc_5, reduceIte, Nat.reduceEqDiff, Nat.add_zero, rI_hold, rI_hold, rL_hold, hk, he67, he70]; exact congrArg nI (by omega))) ?_
  refine Bod.go dc_334_41 rfl ?_
  refine Bod.icT dc_334_42 rfl (k2_le_T e70 a rfl rfl (by omega) (by omega)) ?_
  refine Bod.go dc_334_54 rfl ?_
  refine Bod.virt (r := []) dc_334_55 kr_334_202 ⟨Or.inl rfl, ow_299, cl_14⟩ (by rw [np_299]; rfl) (by rw [np_299]; rfl) (ob_of (mk_61 _)) (Nat.le_of_ble_eq_true rfl) (c3  ) ?_
  show Bod _ _ _ _ [_] _ _ _
  exact Bod.retZ dc_334_58 rt_334 (Or.inr rfl)
theorem sBl0_4 {d : Nat} {S : cS} {a : Nat} {z : Nat} {S1 : cS} {S2 : cS} {k : Nat} {e67 : Nat} {e70 : Nat} {S3 : cS} (ma : a < 2 ^ 20) (mz : z < 2 ^ 20) (c1 : Ans (d + 8) 323 [.ref 61, .int (nI 58)] S (some (.int (nI 1))) S1) (c2 : Ans (d + 8) 332 [.ref 61] S1 (some (.int (nI 1))) S2) (hk : sI S2 6115 = nI k) (mk : k < 5990) (he67 : sA S2 67 k = nI e67) (me67 : e67 < 2 ^ 20) (b1 : e67 ≠ 7) (he70 : sA S2 70 k = nI e70) (me70 : e70 < 2 ^ 20) (b2 : e70 ≤ a) (c3 : Ans (d + 8) 299 [.ref 61] S2 (some (.int (nI 0))) S3) : Bod (d + 8) 334 0 [(0, .ref 61), (1, .int (nI a)), (2, .int (nI z))] [] S (some (.int 0)) (S3) := by
  refine Bod.go dc_334_0 rfl ?_
  refine Bod.bip 58 (by decide) dc_334_1 ?_
  refine Bod.virt (r := []) dc_334_3 kr_334_270 ⟨Or.inl rfl, ow_323, cl_14⟩ (by rw [np_323]; rfl) (by rw [np_323]; rfl) (ob_of (mk_61 _)) (Nat.le_of_ble_eq_true rfl) (c1  ) ?_
  show Bod _ _ _ _ [_] _ _ _
  refine Bod.ifF dc_334_6 rfl (k1_eq_F (k_ne 1 0 rfl rfl (by omega) (by omega) (by omega))) ?_
  refine Bod.go dc_334_9 rfl ?_
  refine Bod.virt (r := []) dc_334_10 kr_334_273 ⟨Or.inl rfl, ow_332, cl_14⟩ (by rw [np_332]; rfl) (by rw [np_332]; rfl) (ob_of (mk_61 _)) (Nat.le_of_ble_eq_true rfl) (c2  ) ?_
  show Bod _ _ _ _ [_] _ _ _
  refine Bod.ifT dc_334_13 rfl (k1_ne_T (k_ne 1 0 rfl rfl (by omega) (by omega) (by omega))) ?_
  refine Bod.go dc_334_18 rfl ?_
  refine Bod.get dc_334_19 fr_334_129 (mk_61 _) rfl ?_
  refine Bod.go dc_334_22 rfl ?_
  refine Bod.get dc_334_23 fr_334_190 (mk_61 _) rfl ?_
  refine Bod.eqI (nI k) (by first | (simp (disch := omega) only [rI, rIe, rA, rIA, rLA, rJA, rVI, rQI, rVA, rQA, upd_at,  rAI, rLI, rJI, nI_add, pk_sub, kc_0, kc_1, kc_2, kc_3, kc_4, kc_5, reduceIte, Nat.reduceEqDiff, Nat.add_zero, rI_hold, rI_hold, rL_hold, hk]; done) | (simp (disch := omega) only [rI, rIe, rA, rIA, rLA, rJA, rVI, rQI, rVA, rQA, upd_at,  rAI, rLI, rJI, nI_add, pk_sub, kc_0, kc_1, kc_2, kc_3, kc_4, kc_5, reduceIte, Nat.reduceEqDiff, Nat.add_zero, rI_hold, rI_hold, rL_hold, hk]; exact congrArg nI (by omega))) ?_
  refine Bod.ialdN k rfl (by omega) (by omega) dc_334_26 (mk_67 _) ?_
  refine Bod.eqI (nI e67) (by first | (simp (disch := omega) only [rI, rIe, rA, rIA, rLA, rJA, rVI, rQI, rVA, rQA, upd_at,  rAI, rLI, rJI, nI_add, pk_sub, kc_0, kc_1, kc_2, kc_3, kc_4, kc_5, reduceIte, Nat.reduceEqDiff, Nat.add_zero, rI_hold, rI_hold, rL_hold, hk, he67]; done) | (simp (disch := omega) only [rI, rIe, rA, rIA, rLA, rJA, rVI, rQI, rVA, rQA, upd_at,  rAI, rLI, rJI, nI_add, pk_sub, kc_0, kc_1, kc_2, kc_3, kc_4, kc_5, reduceIte, Nat.reduceEqDiff, Nat.add_zero, rI_hold, rI_hold, rL_hold, hk, he67]; exact congrArg nI (by omega))) ?_
  refine Bod.bip 7 (by decide) dc_334_27 ?_
  refine Bod.icF dc_334_29 rfl (k2_eq_F (k_ne e67 7 rfl rfl (by omega) (by omega) (by omega))) ?_
  refine Bod.go dc_334_32 rfl ?_
  refine Bod.get dc_334_33 fr_334_141 (mk_61 _) rfl ?_
  refine Bod.go dc_334_36 rfl ?_
  refine Bod.get dc_334_37 fr_334_190 (mk_61 _) rfl ?_
  refine Bod.eqI (nI k) (by first | (simp (disch := omega) only [rI, rIe, rA, rIA, rLA, rJA, rVI, rQI, rVA, rQA, upd_at,  rAI, rLI, rJI, nI_add, pk_sub, kc_0, kc_1, kc_2, kc_3, kc_4, kc_5, reduceIte, Nat.reduceEqDiff, Nat.add_zero, rI_hold, rI_hold, rL_hold, hk, he67]; done) | (simp (disch := omega) only [rI, rIe, rA, rIA, rLA, rJA, rVI, rQI, rVA, rQA, upd_at,  rAI, rLI, rJI, nI_add, pk_sub, kc_0, kc_1, kc_2, kc_3, kc_4, kc_5, reduceIte, Nat.reduceEqDiff, Nat.add_zero, rI_hold, rI_hold, rL_hold, hk, he67]; exact congrArg nI (by omega))) ?_
  refine Bod.ialdN k rfl (by omega) (by omega) dc_334_40 (mk_70 _) ?_
  refine Bod.eqI (nI e70) (by first | (simp (disch := omega) only [rI, rIe, rA, rIA, rLA, rJA, rVI, rQI, rVA, rQA, upd_at,  rAI, rLI, rJI, nI_add, pk_sub, kc_0, kc_1, kc_2, kc_3, kc_4, kc_5, reduceIte, Nat.reduceEqDiff, Nat.add_zero, rI_hold, rI_hold, rL_hold, hk, he67, he70]; done) | (simp (disch := omega) only [rI, rIe, rA, rIA, rLA, rJA, rVI, rQI, rVA, rQA, upd_at,  rAI, rLI, rJI, nI_add, pk_sub, kc_0, kc_1, kc_2, kc_3, kc_4, kc_5, reduceIte, Nat.reduceEqDiff, Nat.add_zero, rI_hold, rI_hold, rL_hold, hk, he67, he70]; exact congrArg nI (by omega))) ?_
  refine Bod.go dc_334_41 rfl ?_
  refine Bod.icT dc_334_42 rfl (k2_le_T e70 a rfl rfl (by omega) (by omega)) ?_
  refine Bod.go dc_334_54 rfl ?_
  refine Bod.virt (r := []) dc_334_55 kr_334_202 ⟨Or.inl rfl, ow_299, cl_14⟩ (by rw [np_299]; rfl) (by rw [np_299]; rfl) (ob_of (mk_61 _)) (Nat.le_of_ble_eq_true rfl) (c3  ) ?_
  show Bod _ _ _ _ [_] _ _ _
  exact Bod.retZ dc_334_58 rt_334 (Or.inl rfl)
theorem sBl0_5 {d : Nat} {S Sf : cS} {v : Option Value} {a : Nat} {z : Nat} {S1 : cS} {S2 : cS} {k : Nat} {e67 : Nat} {e70 : Nat} {f6117 : Nat} (ma : a < 2 ^ 20) (mz : z < 2 ^ 20) (c1 : Ans (d + 8) 323 [.ref 61, .int (nI 58)] S (some (.int (nI 1))) S1) (c2 : Ans (d + 8) 332 [.ref 61] S1 (some (.int (nI 1))) S2) (hk : sI S2 6115 = nI k) (mk : k < 5990) (he67 : sA S2 67 k = nI e67) (me67 : e67 < 2 ^ 20) (b1 : e67 ≠ 7) (he70 : sA S2 70 k = nI e70) (me70 : e70 < 2 ^ 20) (b2 : a < e70) (hf6117 : sI S2 6117 = nI f6117) (mf6117 : f6117 < 12) (b3 : f6117 ≠ 10) (hB : ∀ lv1 : sm_L, sm_get lv1 0 = some (.ref 61) → sm_get lv1 1 = some (.int (nI a)) → sm_get lv1 2 = some (.int (nI z)) → sm_get lv1 3 = some (.int (nI e70)) → Bod (d + 8) 334 89 lv1 [] (wA 73 (f6117 + 1) (nI e70) (wI 6117 (nI (f6117 + 1)) S2)) v Sf) : Bod (d + 8) 334 0 [(0, .ref 61), (1, .int (nI a)), (2, .int (nI z))] [] S v Sf := by
  refine Bod.go dc_334_0 rfl ?_
  refine Bod.bip 58 (by decide) dc_334_1 ?_
  refine Bod.virt (r := []) dc_334_3 kr_334_270 ⟨Or.inl rfl, ow_323, cl_14⟩ (by rw [np_323]; rfl) (by rw [np_323]; rfl) (ob_of (mk_61 _)) (Nat.le_of_ble_eq_true rfl) (c1  ) ?_
  show Bod _ _ _ _ [_] _ _ _
  refine Bod.ifF dc_334_6 rfl (k1_eq_F (k_ne 1 0 rfl rfl (by omega) (by omega) (by omega))) ?_
  refine Bod.go dc_334_9 rfl ?_
  refine Bod.virt (r := []) dc_334_10 kr_334_273 ⟨Or.inl rfl, ow_332, cl_14⟩ (by rw [np_332]; rfl) (by rw [np_332]; rfl) (ob_of (mk_61 _)) (Nat.le_of_ble_eq_true rfl) (c2  ) ?_
  show Bod _ _ _ _ [_] _ _ _
  refine Bod.ifT dc_334_13 rfl (k1_ne_T (k_ne 1 0 rfl rfl (by omega) (by omega) (by omega))) ?_
  refine Bod.go dc_334_18 rfl ?_
  refine Bod.get dc_334_19 fr_334_129 (mk_61 _) rfl ?_
  refine Bod.go dc_334_22 rfl ?_
  refine Bod.get dc_334_23 fr_334_190 (mk_61 _) rfl ?_
  refine Bod.eqI (nI k) (by first | (simp (disch := omega) only [rI, rIe, rA, rIA, rLA, rJA, rVI, rQI, rVA, rQA, upd_at,  rAI, rLI, rJI, nI_add, pk_sub, kc_0, kc_1, kc_2, kc_3, kc_4, kc_5, reduceIte, Nat.reduceEqDiff, Nat.add_zero, rI_hold, rI_hold, rL_hold, hk]; done) | (simp (disch := omega) only [rI, rIe, rA, rIA, rLA, rJA, rVI, rQI, rVA, rQA, upd_at,  rAI, rLI, rJI, nI_add, pk_sub, kc_0, kc_1, kc_2, kc_3, kc_4, kc_5, reduceIte, Nat.reduceEqDiff, Nat.add_zero, rI_hold, rI_hold, rL_hold, hk]; exact congrArg nI (by omega))) ?_
  refine Bod.ialdN k rfl (by omega) (by omega) dc_334_26 (mk_67 _) ?_
  refine Bod.eqI (nI e67) (by first | (simp (disch := omega) only [rI, rIe, rA, rIA, rLA, rJA, rVI, rQI, rVA, rQA, upd_at,  rAI, rLI, rJI, nI_add, pk_sub, kc_0, kc_1, kc_2, kc_3, kc_4, kc_5, reduceIte, Nat.reduceEqDiff, Nat.add_zero, rI_hold, rI_hold, rL_hold, hk, he67]; done) | (simp (disch := omega) only [rI, rIe, rA, rIA, rLA, rJA, rVI, rQI, rVA, rQA, upd_at,  rAI, rLI, rJI, nI_add, pk_sub, kc_0, kc_1, kc_2, kc_3, kc_4, kc_5, reduceIte, Nat.reduceEqDiff, Nat.add_zero, rI_hold, rI_hold, rL_hold, hk, he67]; exact congrArg nI (by omega))) ?_
  refine Bod.bip 7 (by decide) dc_334_27 ?_
  refine Bod.icF dc_334_29 rfl (k2_eq_F (k_ne e67 7 rfl rfl (by omega) (by omega) (by omega))) ?_
  refine Bod.go dc_334_32 rfl ?_
  refine Bod.get dc_334_33 fr_334_141 (mk_61 _) rfl ?_
  refine Bod.go dc_334_36 rfl ?_
  refine Bod.get dc_334_37 fr_334_190 (mk_61 _) rfl ?_
  refine Bod.eqI (nI k) (by first | (simp (disch := omega) only [rI, rIe, rA, rIA, rLA, rJA, rVI, rQI, rVA, rQA, upd_at,  rAI, rLI, rJI, nI_add, pk_sub, kc_0, kc_1, kc_2, kc_3, kc_4, kc_5, reduceIte, Nat.reduceEqDiff, Nat.add_zero, rI_hold, rI_hold, rL_hold, hk, he67]; done) | (simp (disch := omega) only [rI, rIe, rA, rIA, rLA, rJA, rVI, rQI, rVA, rQA, upd_at,  rAI, rLI, rJI, nI_add, pk_sub, kc_0, kc_1, kc_2, kc_3, kc_4, kc_5, reduceIte, Nat.reduceEqDiff, Nat.add_zero, rI_hold, rI_hold, rL_hold, hk, he67]; exact congrArg nI (by omega))) ?_
  refine Bod.ialdN k rfl (by omega) (by omega) dc_334_40 (mk_70 _) ?_
  refine Bod.eqI (nI e70) (by first | (simp (disch := omega) only [rI, rIe, rA, rIA, rLA, rJA, rVI, rQI, rVA, rQA, upd_at,  rAI, rLI, rJI, nI_add, pk_sub, kc_0, kc_1, kc_2, kc_3, kc_4, kc_5, reduceIte, Nat.reduceEqDiff, Nat.add_zero, rI_hold, rI_hold, rL_hold, hk, he67, he70]; done) | (simp (disch := omega) only [rI, rIe, rA, rIA, rLA, rJA, rVI, rQI, rVA, rQA, upd_at,  rAI, rLI, rJI, nI_add, pk_sub, kc_0, kc_1, kc_2, kc_3, kc_4, kc_5, reduceIte, Nat.reduceEqDiff, Nat.add_zero, rI_hold, rI_hold, rL_hold, hk, he67, he70]; exact congrArg nI (by omega))) ?_
  refine Bod.go dc_334_41 rfl ?_
  refine Bod.icF dc_334_42 rfl (k2_le_F e70 a rfl rfl (by omega) (by omega)) ?_
  refine Bod.go dc_334_45 rfl ?_
  refine Bod.get dc_334_46 fr_334_233 (mk_61 _) rfl ?_
  refine Bod.eqI (nI f6117) (by first | (simp (disch := omega) only [rI, rIe, rA, rIA, rLA, rJA, rVI, rQI, rVA, rQA, upd_at,  rAI, rLI, rJI, nI_add, pk_sub, kc_0, kc_1, kc_2, kc_3, kc_4, kc_5, reduceIte, Nat.reduceEqDiff, Nat.add_zero, rI_hold, rI_hold, rL_hold, hk, he67, he70, hf6117]; done) | (simp (disch := omega) only [rI, rIe, rA, rIA, rLA, rJA, rVI, rQI, rVA, rQA, upd_at,  rAI, rLI, rJI, nI_add, pk_sub, kc_0, kc_1, kc_2, kc_3, kc_4, kc_5, reduceIte, Nat.reduceEqDiff, Nat.add_zero, rI_hold, rI_hold, rL_hold, hk, he67, he70, hf6117]; exact congrArg nI (by omega))) ?_
  refine Bod.bip 10 (by decide) dc_334_49 ?_
  refine Bod.icT dc_334_51 rfl (k2_ne_T (k_ne f6117 10 rfl rfl (by omega) (by omega) (by omega))) ?_
  refine Bod.go dc_334_59 rfl ?_
  refine Bod.go dc_334_60 rfl ?_
  refine Bod.get dc_334_61 fr_334_233 (mk_61 _) rfl ?_
  refine Bod.eqI (nI f6117) (by first | (simp (disch := omega) only [rI, rIe, rA, rIA, rLA, rJA, rVI, rQI, rVA, rQA, upd_at,  rAI, rLI, rJI, nI_add, pk_sub, kc_0, kc_1, kc_2, kc_3, kc_4, kc_5, reduceIte, Nat.reduceEqDiff, Nat.add_zero, rI_hold, rI_hold, rL_hold, hk, he67, he70, hf6117]; done) | (simp (disch := omega) only [rI, rIe, rA, rIA, rLA, rJA, rVI, rQI, rVA, rQA, upd_at,  rAI, rLI, rJI, nI_add, pk_sub, kc_0, kc_1, kc_2, kc_3, kc_4, kc_5, reduceIte, Nat.reduceEqDiff, Nat.add_zero, rI_hold, rI_hold, rL_hold, hk, he67, he70, hf6117]; exact congrArg nI (by omega))) ?_
  refine Bod.ic 1 (by decide) dc_334_64 ?_
  refine Bod.addN (f6117 + 1) (by omega) dc_334_65 ?_
  refine Bod.put dc_334_66 fr_334_233 (mk_61 _) (Nat.le_of_ble_eq_true rfl) pf_14_17 (st_6117 _ _) (mu_I _ _ _) ?_
  refine Bod.go dc_334_69 rfl ?_
  refine Bod.get dc_334_70 fr_334_141 (mk_61 _) rfl ?_
  refine Bod.go dc_334_73 rfl ?_
  refine Bod.get dc_334_74 fr_334_190 (mk_61 _) rfl ?_
  refine Bod.eqI (nI k) (by first | (simp (disch := omega) only [rI, rIe, rA, rIA, rLA, rJA, rVI, rQI, rVA, rQA, upd_at,  rAI, rLI, rJI, nI_add, pk_sub, kc_0, kc_1, kc_2, kc_3, kc_4, kc_5, reduceIte, Nat.reduceEqDiff, Nat.add_zero, rI_hold, rI_hold, rL_hold, hk, he67, he70, hf6117]; done) | (simp (disch := omega) only [rI, rIe, rA, rIA, rLA, rJA, rVI, rQI, rVA, rQA, upd_at,  rAI, rLI, rJI, nI_add, pk_sub, kc_0, kc_1, kc_2, kc_3, kc_4, kc_5, reduceIte, Nat.reduceEqDiff, Nat.add_zero, rI_hold, rI_hold, rL_hold, hk, he67, he70, hf6117]; exact congrArg nI (by omega))) ?_
  refine Bod.ialdN k rfl (by omega) (by omega) dc_334_77 (mk_70 _) ?_
  refine Bod.eqI (nI e70) (by first | (simp (disch := omega) only [rI, rIe, rA, rIA, rLA, rJA, rVI, rQI, rVA, rQA, upd_at,  rAI, rLI, rJI, nI_add, pk_sub, kc_0, kc_1, kc_2, kc_3, kc_4, kc_5, reduceIte, Nat.reduceEqDiff, Nat.add_zero, rI_hold, rI_hold, rL_hold, hk, he67, he70, hf6117]; done) | (simp (disch := omega) only [rI, rIe, rA, rIA, rLA, rJA, rVI, rQI, rVA, rQA, upd_at,  rAI, rLI, rJI, nI_add, pk_sub, kc_0, kc_1, kc_2, kc_3, kc_4, kc_5, reduceIte, Nat.reduceEqDiff, Nat.add_zero, rI_hold, rI_hold, rL_hold, hk, he67, he70, hf6117]; exact congrArg nI (by omega))) ?_
  refine Bod.istn dc_334_78 (by rw [ml_334]; exact Nat.le_of_ble_eq_true rfl) ?_
  refine Bod.go dc_334_79 rfl ?_
  refine Bod.get dc_334_80 fr_334_263 (mk_61 _) rfl ?_
  refine Bod.go dc_334_83 rfl ?_
  refine Bod.get dc_334_84 fr_334_233 (mk_61 _) rfl ?_
  refine Bod.eqI (nI (f6117 + 1)) (by first | (simp (disch := omega) only [rI, rIe, rA, rIA, rLA, rJA, rVI, rQI, rVA, rQA, upd_at,  rAI, rLI, rJI, nI_add, pk_sub, kc_0, kc_1, kc_2, kc_3, kc_4, kc_5, reduceIte, Nat.reduceEqDiff, Nat.add_zero, rI_hold, rI_hold, rL_hold, hk, he67, he70, hf6117]; done) | (simp (disch := omega) only [rI, rIe, rA, rIA, rLA, rJA, rVI, rQI, rVA, rQA, upd_at,  rAI, rLI, rJI, nI_add, pk_sub, kc_0, kc_1, kc_2, kc_3, kc_4, kc_5, reduceIte, Nat.reduceEqDiff, Nat.add_zero, rI_hold, rI_hold, rL_hold, hk, he67, he70, hf6117]; exact congrArg nI (by omega))) ?_
  refine Bod.go dc_334_87 rfl ?_
  refine Bod.iastN (f6117 + 1) rfl (by omega) (by omega) dc_334_88 (mk_73 _) (sa_73 _ _ _) (mu_A _ _ _ _) ?_
  exact hB _ (by first | rfl | exact (by repeat (first | exact rfl | exact sm_get_p1 | exact sm_get_p2e | refine sm_get_p1m (by decide) (by decide) ?_ | refine sm_get_p1n (by decide) rfl ?_ | refine sm_get_p2n (by decide) (by decide) rfl ?_))) (by first | rfl | exact (by repeat (first | exact rfl | exact sm_get_p1 | exact sm_get_p2e | refine sm_get_p1m (by decide) (by decide) ?_ | refine sm_get_p1n (by decide) rfl ?_ | refine sm_get_p2n (by decide) (by decide) rfl ?_))) (by first | rfl | exact (by repeat (first | exact rfl | exact sm_get_p1 | exact sm_get_p2e | refine sm_get_p1m (by decide) (by decide) ?_ | refine sm_get_p1n (by decide) rfl ?_ | refine sm_get_p2n (by decide) (by decide) rfl ?_))) (by first | rfl | exact (by repeat (first | exact rfl | exact sm_get_p1 | exact sm_get_p2e | refine sm_get_p1m (by decide) (by decide) ?_ | refine sm_get_p1n (by decide) rfl ?_ | refine sm_get_p2n (by decide) (by decide) rfl ?_)))
theorem sBl0_6 {d : Nat} {S : cS} {a : Nat} {z : Nat} {S1 : cS} {S2 : cS} {k : Nat} {e67 : Nat} {e70 : Nat} {f6117 : Nat} {S3 : cS} (ma : a < 2 ^ 20) (mz : z < 2 ^ 20) (c1 : Ans (d + 8) 323 [.ref 61, .int (nI 58)] S (some (.int (nI 1))) S1) (c2 : Ans (d + 8) 332 [.ref 61] S1 (some (.int (nI 1))) S2) (hk : sI S2 6115 = nI k) (mk : k < 5990) (he67 : sA S2 67 k = nI e67) (me67 : e67 < 2 ^ 20) (b1 : e67 ≠ 7) (he70 : sA S2 70 k = nI e70) (me70 : e70 < 2 ^ 20) (b2 : a < e70) (hf6117 : sI S2 6117 = nI f6117) (mf6117 : f6117 < 12) (b3 : f6117 = 10) (c3 : Ans (d + 8) 299 [.ref 61] S2 (some (.int (nI 1))) S3) : Bod (d + 8) 334 0 [(0, .ref 61), (1, .int (nI a)), (2, .int (nI z))] [] S (some (.int 1)) (S3) := by
  refine Bod.go dc_334_0 rfl ?_
  refine Bod.bip 58 (by decide) dc_334_1 ?_
  refine Bod.virt (r := []) dc_334_3 kr_334_270 ⟨Or.inl rfl, ow_323, cl_14⟩ (by rw [np_323]; rfl) (by rw [np_323]; rfl) (ob_of (mk_61 _)) (Nat.le_of_ble_eq_true rfl) (c1  ) ?_
  show Bod _ _ _ _ [_] _ _ _
  refine Bod.ifF dc_334_6 rfl (k1_eq_F (k_ne 1 0 rfl rfl (by omega) (by omega) (by omega))) ?_
  refine Bod.go dc_334_9 rfl ?_
  refine Bod.virt (r := []) dc_334_10 kr_334_273 ⟨Or.inl rfl, ow_332, cl_14⟩ (by rw [np_332]; rfl) (by rw [np_332]; rfl) (ob_of (mk_61 _)) (Nat.le_of_ble_eq_true rfl) (c2  ) ?_
  show Bod _ _ _ _ [_] _ _ _
  refine Bod.ifT dc_334_13 rfl (k1_ne_T (k_ne 1 0 rfl rfl (by omega) (by omega) (by omega))) ?_
  refine Bod.go dc_334_18 rfl ?_
  refine Bod.get dc_334_19 fr_334_129 (mk_61 _) rfl ?_
  refine Bod.go dc_334_22 rfl ?_
  refine Bod.get dc_334_23 fr_334_190 (mk_61 _) rfl ?_
  refine Bod.eqI (nI k) (by first | (simp (disch := omega) only [rI, rIe, rA, rIA, rLA, rJA, rVI, rQI, rVA, rQA, upd_at,  rAI, rLI, rJI, nI_add, pk_sub, kc_0, kc_1, kc_2, kc_3, kc_4, kc_5, reduceIte, Nat.reduceEqDiff, Nat.add_zero, rI_hold, rI_hold, rL_hold, hk]; done) | (simp (disch := omega) only [rI, rIe, rA, rIA, rLA, rJA, rVI, rQI, rVA, rQA, upd_at,  rAI, rLI, rJI, nI_add, pk_sub, kc_0, kc_1, kc_2, kc_3, kc_4, kc_5, reduceIte, Nat.reduceEqDiff, Nat.add_zero, rI_hold, rI_hold, rL_hold, hk]; exact congrArg nI (by omega))) ?_
  refine Bod.ialdN k rfl (by omega) (by omega) dc_334_26 (mk_67 _) ?_
  refine Bod.eqI (nI e67) (by first | (simp (disch := omega) only [rI, rIe, rA, rIA, rLA, rJA, rVI, rQI, rVA, rQA, upd_at,  rAI, rLI, rJI, nI_add, pk_sub, kc_0, kc_1, kc_2, kc_3, kc_4, kc_5, reduceIte, Nat.reduceEqDiff, Nat.add_zero, rI_hold, rI_hold, rL_hold, hk, he67]; done) | (simp (disch := omega) only [rI, rIe, rA, rIA, rLA, rJA, rVI, rQI, rVA, rQA, upd_at,  rAI, rLI, rJI, nI_add, pk_sub, kc_0, kc_1, kc_2, kc_3, kc_4, kc_5, reduceIte, Nat.reduceEqDiff, Nat.add_zero, rI_hold, rI_hold, rL_hold, hk, he67]; exact congrArg nI (by omega))) ?_
  refine Bod.bip 7 (by decide) dc_334_27 ?_
  refine Bod.icF dc_334_29 rfl (k2_eq_F (k_ne e67 7 rfl rfl (by omega) (by omega) (by omega))) ?_
  refine Bod.go dc_334_32 rfl ?_
  refine Bod.get dc_334_33 fr_334_141 (mk_61 _) rfl ?_
  refine Bod.go dc_334_36 rfl ?_
  refine Bod.get dc_334_37 fr_334_190 (mk_61 _) rfl ?_
  refine Bod.eqI (nI k) (by first | (simp (disch := omega) only [rI, rIe, rA, rIA, rLA, rJA, rVI, rQI, rVA, rQA, upd_at,  rAI, rLI, rJI, nI_add, pk_sub, kc_0, kc_1, kc_2, kc_3, kc_4, kc_5, reduceIte, Nat.reduceEqDiff, Nat.add_zero, rI_hold, rI_hold, rL_hold, hk, he67]; done) | (simp (disch := omega) only [rI, rIe, rA, rIA, rLA, rJA, rVI, rQI, rVA, rQA, upd_at,  rAI, rLI, rJI, nI_add, pk_sub, kc_0, kc_1, kc_2, kc_3, kc_4, kc_5, reduceIte, Nat.reduceEqDiff, Nat.add_zero, rI_hold, rI_hold, rL_hold, hk, he67]; exact congrArg nI (by omega))) ?_
  refine Bod.ialdN k rfl (by omega) (by omega) dc_334_40 (mk_70 _) ?_
  refine Bod.eqI (nI e70) (by first | (simp (disch := omega) only [rI, rIe, rA, rIA, rLA, rJA, rVI, rQI, rVA, rQA, upd_at,  rAI, rLI, rJI, nI_add, pk_sub, kc_0, kc_1, kc_2, kc_3, kc_4, kc_5, reduceIte, Nat.reduceEqDiff, Nat.add_zero, rI_hold, rI_hold, rL_hold, hk, he67, he70]; done) | (simp (disch := omega) only [rI, rIe, rA, rIA, rLA, rJA, rVI, rQI, rVA, rQA, upd_at,  rAI, rLI, rJI, nI_add, pk_sub, kc_0, kc_1, kc_2, kc_3, kc_4, kc_5, reduceIte, Nat.reduceEqDiff, Nat.add_zero, rI_hold, rI_hold, rL_hold, hk, he67, he70]; exact congrArg nI (by omega))) ?_
  refine Bod.go dc_334_41 rfl ?_
  refine Bod.icF dc_334_42 rfl (k2_le_F e70 a rfl rfl (by omega) (by omega)) ?_
  refine Bod.go dc_334_45 rfl ?_
  refine Bod.get dc_334_46 fr_334_233 (mk_61 _) rfl ?_
  refine Bod.eqI (nI f6117) (by first | (simp (disch := omega) only [rI, rIe, rA, rIA, rLA, rJA, rVI, rQI, rVA, rQA, upd_at,  rAI, rLI, rJI, nI_add, pk_sub, kc_0, kc_1, kc_2, kc_3, kc_4, kc_5, reduceIte, Nat.reduceEqDiff, Nat.add_zero, rI_hold, rI_hold, rL_hold, hk, he67, he70, hf6117]; done) | (simp (disch := omega) only [rI, rIe, rA, rIA, rLA, rJA, rVI, rQI, rVA, rQA, upd_at,  rAI, rLI, rJI, nI_add, pk_sub, kc_0, kc_1, kc_2, kc_3, kc_4, kc_5, reduceIte, Nat.reduceEqDiff, Nat.add_zero, rI_hold, rI_hold, rL_hold, hk, he67, he70, hf6117]; exact congrArg nI (by omega))) ?_
  refine Bod.bip 10 (by decide) dc_334_49 ?_
  refine Bod.icF dc_334_51 rfl (k2_ne_F (k_eq f6117 10 rfl rfl (by omega))) ?_
  refine Bod.go dc_334_54 rfl ?_
  refine Bod.virt (r := []) dc_334_55 kr_334_202 ⟨Or.inl rfl, ow_299, cl_14⟩ (by rw [np_299]; rfl) (by rw [np_299]; rfl) (ob_of (mk_61 _)) (Nat.le_of_ble_eq_true rfl) (c3  ) ?_
  show Bod _ _ _ _ [_] _ _ _
  exact Bod.retZ dc_334_58 rt_334 (Or.inr rfl)
theorem sBl0_7 {d : Nat} {S : cS} {a : Nat} {z : Nat} {S1 : cS} {S2 : cS} {k : Nat} {e67 : Nat} {e70 : Nat} {f6117 : Nat} {S3 : cS} (ma : a < 2 ^ 20) (mz : z < 2 ^ 20) (c1 : Ans (d + 8) 323 [.ref 61, .int (nI 58)] S (some (.int (nI 1))) S1) (c2 : Ans (d + 8) 332 [.ref 61] S1 (some (.int (nI 1))) S2) (hk : sI S2 6115 = nI k) (mk : k < 5990) (he67 : sA S2 67 k = nI e67) (me67 : e67 < 2 ^ 20) (b1 : e67 ≠ 7) (he70 : sA S2 70 k = nI e70) (me70 : e70 < 2 ^ 20) (b2 : a < e70) (hf6117 : sI S2 6117 = nI f6117) (mf6117 : f6117 < 12) (b3 : f6117 = 10) (c3 : Ans (d + 8) 299 [.ref 61] S2 (some (.int (nI 0))) S3) : Bod (d + 8) 334 0 [(0, .ref 61), (1, .int (nI a)), (2, .int (nI z))] [] S (some (.int 0)) (S3) := by
  refine Bod.go dc_334_0 rfl ?_
  refine Bod.bip 58 (by decide) dc_334_1 ?_
  refine Bod.virt (r := []) dc_334_3 kr_334_270 ⟨Or.inl rfl, ow_323, cl_14⟩ (by rw [np_323]; rfl) (by rw [np_323]; rfl) (ob_of (mk_61 _)) (Nat.le_of_ble_eq_true rfl) (c1  ) ?_
  show Bod _ _ _ _ [_] _ _ _
  refine Bod.ifF dc_334_6 rfl (k1_eq_F (k_ne 1 0 rfl rfl (by omega) (by omega) (by omega))) ?_
  refine Bod.go dc_334_9 rfl ?_
  refine Bod.virt (r := []) dc_334_10 kr_334_273 ⟨Or.inl rfl, ow_332, cl_14⟩ (by rw [np_332]; rfl) (by rw [np_332]; rfl) (ob_of (mk_61 _)) (Nat.le_of_ble_eq_true rfl) (c2  ) ?_
  show Bod _ _ _ _ [_] _ _ _
  refine Bod.ifT dc_334_13 rfl (k1_ne_T (k_ne 1 0 rfl rfl (by omega) (by omega) (by omega))) ?_
  refine Bod.go dc_334_18 rfl ?_
  refine Bod.get dc_334_19 fr_334_129 (mk_61 _) rfl ?_
  refine Bod.go dc_334_22 rfl ?_
  refine Bod.get dc_334_23 fr_334_190 (mk_61 _) rfl ?_
  refine Bod.eqI (nI k) (by first | (simp (disch := omega) only [rI, rIe, rA, rIA, rLA, rJA, rVI, rQI, rVA, rQA, upd_at,  rAI, rLI, rJI, nI_add, pk_sub, kc_0, kc_1, kc_2, kc_3, kc_4, kc_5, reduceIte, Nat.reduceEqDiff, Nat.add_zero, rI_hold, rI_hold, rL_hold, hk]; done) | (simp (disch := omega) only [rI, rIe, rA, rIA, rLA, rJA, rVI, rQI, rVA, rQA, upd_at,  rAI, rLI, rJI, nI_add, pk_sub, kc_0, kc_1, kc_2, kc_3, kc_4, kc_5, reduceIte, Nat.reduceEqDiff, Nat.add_zero, rI_hold, rI_hold, rL_hold, hk]; exact congrArg nI (by omega))) ?_
  refine Bod.ialdN k rfl (by omega) (by omega) dc_334_26 (mk_67 _) ?_
  refine Bod.eqI (nI e67) (by first | (simp (disch := omega) only [rI, rIe, rA, rIA, rLA, rJA, rVI, rQI, rVA, rQA, upd_at,  rAI, rLI, rJI, nI_add, pk_sub, kc_0, kc_1, kc_2, kc_3, kc_4, kc_5, reduceIte, Nat.reduceEqDiff, Nat.add_zero, rI_hold, rI_hold, rL_hold, hk, he67]; done) | (simp (disch := omega) only [rI, rIe, rA, rIA, rLA, rJA, rVI, rQI, rVA, rQA, upd_at,  rAI, rLI, rJI, nI_add, pk_sub, kc_0, kc_1, kc_2, kc_3, kc_4, kc_5, reduceIte, Nat.reduceEqDiff, Nat.add_zero, rI_hold, rI_hold, rL_hold, hk, he67]; exact congrArg nI (by omega))) ?_
  refine Bod.bip 7 (by decide) dc_334_27 ?_
  refine Bod.icF dc_334_29 rfl (k2_eq_F (k_ne e67 7 rfl rfl (by omega) (by omega) (by omega))) ?_
  refine Bod.go dc_334_32 rfl ?_
  refine Bod.get dc_334_33 fr_334_141 (mk_61 _) rfl ?_
  refine Bod.go dc_334_36 rfl ?_
  refine Bod.get dc_334_37 fr_334_190 (mk_61 _) rfl ?_
  refine Bod.eqI (nI k) (by first | (simp (disch := omega) only [rI, rIe, rA, rIA, rLA, rJA, rVI, rQI, rVA, rQA, upd_at,  rAI, rLI, rJI, nI_add, pk_sub, kc_0, kc_1, kc_2, kc_3, kc_4, kc_5, reduceIte, Nat.reduceEqDiff, Nat.add_zero, rI_hold, rI_hold, rL_hold, hk, he67]; done) | (simp (disch := omega) only [rI, rIe, rA, rIA, rLA, rJA, rVI, rQI, rVA, rQA, upd_at,  rAI, rLI, rJI, nI_add, pk_sub, kc_0, kc_1, kc_2, kc_3, kc_4, kc_5, reduceIte, Nat.reduceEqDiff, Nat.add_zero, rI_hold, rI_hold, rL_hold, hk, he67]; exact congrArg nI (by omega))) ?_
  refine Bod.ialdN k rfl (by omega) (by omega) dc_334_40 (mk_70 _) ?_
  refine Bod.eqI (nI e70) (by first | (simp (disch := omega) only [rI, rIe, rA, rIA, rLA, rJA, rVI, rQI, rVA, rQA, upd_at,  rAI, rLI, rJI, nI_add, pk_sub, kc_0, kc_1, kc_2, kc_3, kc_4, kc_5, reduceIte, Nat.reduceEqDiff, Nat.add_zero, rI_hold, rI_hold, rL_hold, hk, he67, he70]; done) | (simp (disch := omega) only [rI, rIe, rA, rIA, rLA, rJA, rVI, rQI, rVA, rQA, upd_at,  rAI, rLI, rJI, nI_add, pk_sub, kc_0, kc_1, kc_2, kc_3, kc_4, kc_5, reduceIte, Nat.reduceEqDiff, Nat.add_zero, rI_hold, rI_hold, rL_hold, hk, he67, he70]; exact congrArg nI (by omega))) ?_
  refine Bod.go dc_334_41 rfl ?_
  refine Bod.icF dc_334_42 rfl (k2_le_F e70 a rfl rfl (by omega) (by omega)) ?_
  refine Bod.go dc_334_45 rfl ?_
  refine Bod.get dc_334_46 fr_334_233 (mk_61 _) rfl ?_
  refine Bod.eqI (nI f6117) (by first | (simp (disch := omega) only [rI, rIe, rA, rIA, rLA, rJA, rVI, rQI, rVA, rQA, upd_at,  rAI, rLI, rJI, nI_add, pk_sub, kc_0, kc_1, kc_2, kc_3, kc_4, kc_5, reduceIte, Nat.reduceEqDiff, Nat.add_zero, rI_hold, rI_hold, rL_hold, hk, he67, he70, hf6117]; done) | (simp (disch := omega) only [rI, rIe, rA, rIA, rLA, rJA, rVI, rQI, rVA, rQA, upd_at,  rAI, rLI, rJI, nI_add, pk_sub, kc_0, kc_1, kc_2, kc_3, kc_4, kc_5, reduceIte, Nat.reduceEqDiff, Nat.add_zero, rI_hold, rI_hold, rL_hold, hk, he67, he70, hf6117]; exact congrArg nI (by omega))) ?_
  refine Bod.bip 10 (by decide) dc_334_49 ?_
  refine Bod.icF dc_334_51 rfl (k2_ne_F (k_eq f6117 10 rfl rfl (by omega))) ?_
  refine Bod.go dc_334_54 rfl ?_
  refine Bod.virt (r := []) dc_334_55 kr_334_202 ⟨Or.inl rfl, ow_299, cl_14⟩ (by rw [np_299]; rfl) (by rw [np_299]; rfl) (ob_of (mk_61 _)) (Nat.le_of_ble_eq_true rfl) (c3  ) ?_
  show Bod _ _ _ _ [_] _ _ _
  exact Bod.retZ dc_334_58 rt_334 (Or.inl rfl)
theorem sBl0_8 {d : Nat} {S : cS} {a : Nat} {z : Nat} {S1 : cS} {S2 : cS} (ma : a < 2 ^ 20) (mz : z < 2 ^ 20) (c1 : Ans (d + 8) 323 [.ref 61, .int (nI 58)] S (some (.int (nI 1))) S1) (c2 : Ans (d + 8) 332 [.ref 61] S1 (some (.int (nI 0))) S2) : Bod (d + 8) 334 0 [(0, .ref 61), (1, .int (nI a)), (2, .int (nI z))] [] S (some (.int 0)) (S2) := by
  refine Bod.go dc_334_0 rfl ?_
  refine Bod.bip 58 (by decide) dc_334_1 ?_
  refine Bod.virt (r := []) dc_334_3 kr_334_270 ⟨Or.inl rfl, ow_323, cl_14⟩ (by rw [np_323]; rfl) (by rw [np_323]; rfl) (ob_of (mk_61 _)) (Nat.le_of_ble_eq_true rfl) (c1  ) ?_
  show Bod _ _ _ _ [_] _ _ _
  refine Bod.ifF dc_334_6 rfl (k1_eq_F (k_ne 1 0 rfl rfl (by omega) (by omega) (by omega))) ?_
  refine Bod.go dc_334_9 rfl ?_
  refine Bod.virt (r := []) dc_334_10 kr_334_273 ⟨Or.inl rfl, ow_332, cl_14⟩ (by rw [np_332]; rfl) (by rw [np_332]; rfl) (ob_of (mk_61 _)) (Nat.le_of_ble_eq_true rfl) (c2  ) ?_
  show Bod _ _ _ _ [_] _ _ _
  refine Bod.ifF dc_334_13 rfl (k1_ne_F (k_eq 0 0 rfl rfl (by omega))) ?_
  refine Bod.ic 0 (by decide) dc_334_16 ?_
  exact Bod.retZ dc_334_17 rt_334 (Or.inl rfl)
theorem sBl0_9 {d : Nat} {S : cS} {a : Nat} {z : Nat} {S1 : cS} (ma : a < 2 ^ 20) (mz : z < 2 ^ 20) (c1 : Ans (d + 8) 323 [.ref 61, .int (nI 58)] S (some (.int (nI 0))) S1) : Bod (d + 8) 334 0 [(0, .ref 61), (1, .int (nI a)), (2, .int (nI z))] [] S (some (.int 0)) (S1) := by
  refine Bod.go dc_334_0 rfl ?_
  refine Bod.bip 58 (by decide) dc_334_1 ?_
  refine Bod.virt (r := []) dc_334_3 kr_334_270 ⟨Or.inl rfl, ow_323, cl_14⟩ (by rw [np_323]; rfl) (by rw [np_323]; rfl) (ob_of (mk_61 _)) (Nat.le_of_ble_eq_true rfl) (c1  ) ?_
  show Bod _ _ _ _ [_] _ _ _
  refine Bod.ifT dc_334_6 rfl (k1_eq_T (k_eq 0 0 rfl rfl (by omega))) ?_
  refine Bod.ic 0 (by decide) dc_334_16 ?_
  exact Bod.retZ dc_334_17 rt_334 (Or.inl rfl)
theorem sSim_1 {d : Nat} {S : cS} {k : Nat} {e69 : Nat} {S1 : cS} {k1 : Nat} {e70 : Nat} {S2 : cS} {k2 : Nat} {S3 : cS} (hk : sI S 6115 = nI k) (mk : k < 5990) (he69 : sA S 69 k = nI e69) (me69 : e69 < 2 ^ 20) (c1 : Ans (d + 8) 302 [.ref 61, .int (nI 0), .int (nI e69)] S none S1) (hk1 : sI S1 6115 = nI k1) (mk1 : k1 < 5990) (he70 : sA S1 70 k1 = nI e70) (me70 : e70 < 2 ^ 20) (c2 : Ans (d + 8) 309 [.ref 61, .int (nI 11)] S1 (some (.int (nI 1))) S2) (hk2 : sI S2 6115 = nI k2) (mk2 : k2 < 5990) (c3 : Ans (d + 8) 332 [.ref 61] (wI 6115 (nI (k2 + 1)) S2) (some (.int (nI 1))) S3) : Bod (d + 8) 335 0 [(0, .ref 61)] [] S (some (.int 1)) (S3) := by
  refine Bod.go dc_335_0 rfl ?_
  refine Bod.ic 0 (by decide) dc_335_1 ?_
  refine Bod.go dc_335_2 rfl ?_
  refine Bod.get dc_335_3 fr_335_138 (mk_61 _) rfl ?_
  refine Bod.go dc_335_6 rfl ?_
  refine Bod.get dc_335_7 fr_335_190 (mk_61 _) rfl ?_
  refine Bod.eqI (nI k) (by first | assumption | rfl | exact congrArg nI (by omega) | (simp (disch := omega) only [rI, rIe, rA, rIA, rLA, rJA, rVI, rQI, rVA, rQA, upd_at,  rAI, rLI, rJI, nI_add, pk_sub, kc_0, kc_1, kc_2, kc_3, kc_4, kc_5, reduceIte, Nat.reduceEqDiff, Nat.add_zero, rI_hold, rI_hold, rL_hold, hk]; done)) ?_
  refine Bod.ialdN k rfl (by omega) (by omega) dc_335_10 (mk_69 _) ?_
  refine Bod.eqI (nI e69) (by first | assumption | rfl | exact congrArg nI (by omega) | (simp (disch := omega) only [rI, rIe, rA, rIA, rLA, rJA, rVI, rQI, rVA, rQA, upd_at,  rAI, rLI, rJI, nI_add, pk_sub, kc_0, kc_1, kc_2, kc_3, kc_4, kc_5, reduceIte, Nat.reduceEqDiff, Nat.add_zero, rI_hold, rI_hold, rL_hold, hk, he69]; done)) ?_
  refine Bod.virt (r := []) dc_335_11 kr_335_216 ⟨Or.inl rfl, ow_302, cl_14⟩ (by rw [np_302]; rfl) (by rw [np_302]; rfl) (ob_of (mk_61 _)) (Nat.le_of_ble_eq_true rfl) (c1  ) ?_
  show Bod _ _ _ _ [] _ _ _
  refine Bod.go dc_335_14 rfl ?_
  refine Bod.get dc_335_15 fr_335_141 (mk_61 _) rfl ?_
  refine Bod.go dc_335_18 rfl ?_
  refine Bod.get dc_335_19 fr_335_190 (mk_61 _) rfl ?_
  refine Bod.eqI (nI k1) (by first | (simp (disch := omega) only [rI, rIe, rA, rIA, rLA, rJA, rVI, rQI, rVA, rQA, upd_at,  rAI, rLI, rJI, nI_add, pk_sub, kc_0, kc_1, kc_2, kc_3, kc_4, kc_5, reduceIte, Nat.reduceEqDiff, Nat.add_zero, rI_hold, rI_hold, rL_hold, hk, he69, hk1]; done) | (simp (disch := omega) only [rI, rIe, rA, rIA, rLA, rJA, rVI, rQI, rVA, rQA, upd_at,  rAI, rLI, rJI, nI_add, pk_sub, kc_0, kc_1, kc_2, kc_3, kc_4, kc_5, reduceIte, Nat.reduceEqDiff, Nat.add_zero, rI_hold, rI_hold, rL_hold, hk, he69, hk1]; exact congrArg nI (by omega))) ?_
  refine Bod.ialdN k1 rfl (by omega) (by omega) dc_335_22 (mk_70 _) ?_
  refine Bod.eqI (nI e70) (by first | (simp (disch := omega) only [rI, rIe, rA, rIA, rLA, rJA, rVI, rQI, rVA, rQA, upd_at,  rAI, rLI, rJI, nI_add, pk_sub, kc_0, kc_1, kc_2, kc_3, kc_4, kc_5, reduceIte, Nat.reduceEqDiff, Nat.add_zero, rI_hold, rI_hold, rL_hold, hk, he69, hk1, he70]; done) | (simp (disch := omega) only [rI, rIe, rA, rIA, rLA, rJA, rVI, rQI, rVA, rQA, upd_at,  rAI, rLI, rJI, nI_add, pk_sub, kc_0, kc_1, kc_2, kc_3, kc_4, kc_5, reduceIte, Nat.reduceEqDiff, Nat.add_zero, rI_hold, rI_hold, rL_hold, hk, he69, hk1, he70]; exact congrArg nI (by omega))) ?_
  refine Bod.istn dc_335_23 (by rw [ml_335]; exact Nat.le_of_ble_eq_true rfl) ?_
  refine Bod.go dc_335_24 rfl ?_
  refine Bod.bip 11 (by decide) dc_335_25 ?_
  refine Bod.virt (r := []) dc_335_27 kr_335_312 ⟨Or.inl rfl, ow_309, cl_14⟩ (by rw [np_309]; rfl) (by rw [np_309]; rfl) (ob_of (mk_61 _)) (Nat.le_of_ble_eq_true rfl) (c2  ) ?_
  show Bod _ _ _ _ [_] _ _ _
  refine Bod.ifF dc_335_30 rfl (k1_eq_F (k_ne 1 0 rfl rfl (by omega) (by omega) (by omega))) ?_
  refine Bod.go dc_335_33 rfl ?_
  refine Bod.go dc_335_34 rfl ?_
  refine Bod.get dc_335_35 fr_335_190 (mk_61 _) rfl ?_
  refine Bod.eqI (nI k2) (by first | (simp (disch := omega) only [rI, rIe, rA, rIA, rLA, rJA, rVI, rQI, rVA, rQA, upd_at,  rAI, rLI, rJI, nI_add, pk_sub, kc_0, kc_1, kc_2, kc_3, kc_4, kc_5, reduceIte, Nat.reduceEqDiff, Nat.add_zero, rI_hold, rI_hold, rL_hold, hk, he69, hk1, he70, hk2]; done) | (simp (disch := omega) only [rI, rIe, rA, rIA, rLA, rJA, rVI, rQI, rVA, rQA, upd_at,  rAI, rLI, rJI, nI_add, pk_sub, kc_0, kc_1, kc_2, kc_3, kc_4, kc_5, reduceIte, Nat.reduceEqDiff, Nat.add_zero, rI_hold, rI_hold, rL_hold, hk, he69, hk1, he70, hk2]; exact congrArg nI (by omega))) ?_
  refine Bod.ic 1 (by decide) dc_335_38 ?_
  refine Bod.addN (k2 + 1) (by omega) dc_335_39 ?_
  refine Bod.put dc_335_40 fr_335_190 (mk_61 _) (Nat.le_of_ble_eq_true rfl) pf_14_15 (st_6115 _ _) (mu_I _ _ _) ?_
  refine Bod.go dc_335_43 rfl ?_
  refine Bod.virt (r := []) dc_335_44 kr_335_273 ⟨Or.inl rfl, ow_332, cl_14⟩ (by rw [np_332]; rfl) (by rw [np_332]; rfl) (ob_of (mk_61 _)) (Nat.le_of_ble_eq_true rfl) (c3  ) ?_
  show Bod _ _ _ _ [_] _ _ _
  exact Bod.retZ dc_335_47 rt_335 (Or.inr rfl)
theorem sSim_2 {d : Nat} {S : cS} {k : Nat} {e69 : Nat} {S1 : cS} {k1 : Nat} {e70 : Nat} {S2 : cS} {k2 : Nat} {S3 : cS} (hk : sI S 6115 = nI k) (mk : k < 5990) (he69 : sA S 69 k = nI e69) (me69 : e69 < 2 ^ 20) (c1 : Ans (d + 8) 302 [.ref 61, .int (nI 0), .int (nI e69)] S none S1) (hk1 : sI S1 6115 = nI k1) (mk1 : k1 < 5990) (he70 : sA S1 70 k1 = nI e70) (me70 : e70 < 2 ^ 20) (c2 : Ans (d + 8) 309 [.ref 61, .int (nI 11)] S1 (some (.int (nI 1))) S2) (hk2 : sI S2 6115 = nI k2) (mk2 : k2 < 5990) (c3 : Ans (d + 8) 332 [.ref 61] (wI 6115 (nI (k2 + 1)) S2) (some (.int (nI 0))) S3) : Bod (d + 8) 335 0 [(0, .ref 61)] [] S (some (.int 0)) (S3) := by
  refine Bod.go dc_335_0 rfl ?_
  refine Bod.ic 0 (by decide) dc_335_1 ?_
  refine Bod.go dc_335_2 rfl ?_
  refine Bod.get dc_335_3 fr_335_138 (mk_61 _) rfl ?_
  refine Bod.go dc_335_6 rfl ?_
  refine Bod.get dc_335_7 fr_335_190 (mk_61 _) rfl ?_
  refine Bod.eqI (nI k) (by first | assumption | rfl | exact congrArg nI (by omega) | (simp (disch := omega) only [rI, rIe, rA, rIA, rLA, rJA, rVI, rQI, rVA, rQA, upd_at,  rAI, rLI, rJI, nI_add, pk_sub, kc_0, kc_1, kc_2, kc_3, kc_4, kc_5, reduceIte, Nat.reduceEqDiff, Nat.add_zero, rI_hold, rI_hold, rL_hold, hk]; done)) ?_
  refine Bod.ialdN k rfl (by omega) (by omega) dc_335_10 (mk_69 _) ?_
  refine Bod.eqI (nI e69) (by first | assumption | rfl | exact congrArg nI (by omega) | (simp (disch := omega) only [rI, rIe, rA, rIA, rLA, rJA, rVI, rQI, rVA, rQA, upd_at,  rAI, rLI, rJI, nI_add, pk_sub, kc_0, kc_1, kc_2, kc_3, kc_4, kc_5, reduceIte, Nat.reduceEqDiff, Nat.add_zero, rI_hold, rI_hold, rL_hold, hk, he69]; done)) ?_
  refine Bod.virt (r := []) dc_335_11 kr_335_216 ⟨Or.inl rfl, ow_302, cl_14⟩ (by rw [np_302]; rfl) (by rw [np_302]; rfl) (ob_of (mk_61 _)) (Nat.le_of_ble_eq_true rfl) (c1  ) ?_
  show Bod _ _ _ _ [] _ _ _
  refine Bod.go dc_335_14 rfl ?_
  refine Bod.get dc_335_15 fr_335_141 (mk_61 _) rfl ?_
  refine Bod.go dc_335_18 rfl ?_
  refine Bod.get dc_335_19 fr_335_190 (mk_61 _) rfl ?_
  refine Bod.eqI (nI k1) (by first | (simp (disch := omega) only [rI, rIe, rA, rIA, rLA, rJA, rVI, rQI, rVA, rQA, upd_at,  rAI, rLI, rJI, nI_add, pk_sub, kc_0, kc_1, kc_2, kc_3, kc_4, kc_5, reduceIte, Nat.reduceEqDiff, Nat.add_zero, rI_hold, rI_hold, rL_hold, hk, he69, hk1]; done) | (simp (disch := omega) only [rI, rIe, rA, rIA, rLA, rJA, rVI, rQI, rVA, rQA, upd_at,  rAI, rLI, rJI, nI_add, pk_sub, kc_0, kc_1, kc_2, kc_3, kc_4, kc_5, reduceIte, Nat.reduceEqDiff, Nat.add_zero, rI_hold, rI_hold, rL_hold, hk, he69, hk1]; exact congrArg nI (by omega))) ?_
  refine Bod.ialdN k1 rfl (by omega) (by omega) dc_335_22 (mk_70 _) ?_
  refine Bod.eqI (nI e70) (by first | (simp (disch := omega) only [rI, rIe, rA, rIA, rLA, rJA, rVI, rQI, rVA, rQA, upd_at,  rAI, rLI, rJI, nI_add, pk_sub, kc_0, kc_1, kc_2, kc_3, kc_4, kc_5, reduceIte, Nat.reduceEqDiff, Nat.add_zero, rI_hold, rI_hold, rL_hold, hk, he69, hk1, he70]; done) | (simp (disch := omega) only [rI, rIe, rA, rIA, rLA, rJA, rVI, rQI, rVA, rQA, upd_at,  rAI, rLI, rJI, nI_add, pk_sub, kc_0, kc_1, kc_2, kc_3, kc_4, kc_5, reduceIte, Nat.reduceEqDiff, Nat.add_zero, rI_hold, rI_hold, rL_hold, hk, he69, hk1, he70]; exact congrArg nI (by omega))) ?_
  refine Bod.istn dc_335_23 (by rw [ml_335]; exact Nat.le_of_ble_eq_true rfl) ?_
  refine Bod.go dc_335_24 rfl ?_
  refine Bod.bip 11 (by decide) dc_335_25 ?_
  refine Bod.virt (r := []) dc_335_27 kr_335_312 ⟨Or.inl rfl, ow_309, cl_14⟩ (by rw [np_309]; rfl) (by rw [np_309]; rfl) (ob_of (mk_61 _)) (Nat.le_of_ble_eq_true rfl) (c2  ) ?_
  show Bod _ _ _ _ [_] _ _ _
  refine Bod.ifF dc_335_30 rfl (k1_eq_F (k_ne 1 0 rfl rfl (by omega) (by omega) (by omega))) ?_
  refine Bod.go dc_335_33 rfl ?_
  refine Bod.go dc_335_34 rfl ?_
  refine Bod.get dc_335_35 fr_335_190 (mk_61 _) rfl ?_
  refine Bod.eqI (nI k2) (by first | (simp (disch := omega) only [rI, rIe, rA, rIA, rLA, rJA, rVI, rQI, rVA, rQA, upd_at,  rAI, rLI, rJI, nI_add, pk_sub, kc_0, kc_1, kc_2, kc_3, kc_4, kc_5, reduceIte, Nat.reduceEqDiff, Nat.add_zero, rI_hold, rI_hold, rL_hold, hk, he69, hk1, he70, hk2]; done) | (simp (disch := omega) only [rI, rIe, rA, rIA, rLA, rJA, rVI, rQI, rVA, rQA, upd_at,  rAI, rLI, rJI, nI_add, pk_sub, kc_0, kc_1, kc_2, kc_3, kc_4, kc_5, reduceIte, Nat.reduceEqDiff, Nat.add_zero, rI_hold, rI_hold, rL_hold, hk, he69, hk1, he70, hk2]; exact congrArg nI (by omega))) ?_
  refine Bod.ic 1 (by decide) dc_335_38 ?_
  refine Bod.addN (k2 + 1) (by omega) dc_335_39 ?_
  refine Bod.put dc_335_40 fr_335_190 (mk_61 _) (Nat.le_of_ble_eq_true rfl) pf_14_15 (st_6115 _ _) (mu_I _ _ _) ?_
  refine Bod.go dc_335_43 rfl ?_
  refine Bod.virt (r := []) dc_335_44 kr_335_273 ⟨Or.inl rfl, ow_332, cl_14⟩ (by rw [np_332]; rfl) (by rw [np_332]; rfl) (ob_of (mk_61 _)) (Nat.le_of_ble_eq_true rfl) (c3  ) ?_
  show Bod _ _ _ _ [_] _ _ _
  exact Bod.retZ dc_335_47 rt_335 (Or.inl rfl)
theorem sSim_3 {d : Nat} {S : cS} {k : Nat} {e69 : Nat} {S1 : cS} {k1 : Nat} {e70 : Nat} {S2 : cS} {S3 : cS} {k2 : Nat} {e67 : Nat} {S4 : cS} {S5 : cS} (hk : sI S 6115 = nI k) (mk : k < 5990) (he69 : sA S 69 k = nI e69) (me69 : e69 < 2 ^ 20) (c1 : Ans (d + 8) 302 [.ref 61, .int (nI 0), .int (nI e69)] S none S1) (hk1 : sI S1 6115 = nI k1) (mk1 : k1 < 5990) (he70 : sA S1 70 k1 = nI e70) (me70 : e70 < 2 ^ 20) (c2 : Ans (d + 8) 309 [.ref 61, .int (nI 11)] S1 (some (.int (nI 0))) S2) (c3 : Ans (d + 8) 309 [.ref 61, .int (nI 6)] S2 (some (.int (nI 1))) S3) (hk2 : sI S3 6115 = nI k2) (mk2 : k2 < 5990) (he67 : sA S3 67 (k2 + 1) = nI e67) (me67 : e67 < 2 ^ 20) (b1 : e67 ≠ 1) (c4 : Ans (d + 8) 336 [.ref 61, .int (nI e70), .int (nI 0)] S3 (some (.int (nI 1))) S4) (c5 : Ans (d + 8) 341 [.ref 61, .int (Int32.ofInt (-1))] S4 none S5) : Bod (d + 8) 335 0 [(0, .ref 61)] [] S (some (.int 1)) (S5) := by
  refine Bod.go dc_335_0 rfl ?_
  refine Bod.ic 0 (by decide) dc_335_1 ?_
  refine Bod.go dc_335_2 rfl ?_
  refine Bod.get dc_335_3 fr_335_138 (mk_61 _) rfl ?_
  refine Bod.go dc_335_6 rfl ?_
  refine Bod.get dc_335_7 fr_335_190 (mk_61 _) rfl ?_
  refine Bod.eqI (nI k) (by first | assumption | rfl | exact congrArg nI (by omega) | (simp (disch := omega) only [rI, rIe, rA, rIA, rLA, rJA, rVI, rQI, rVA, rQA, upd_at,  rAI, rLI, rJI, nI_add, pk_sub, kc_0, kc_1, kc_2, kc_3, kc_4, kc_5, reduceIte, Nat.reduceEqDiff, Nat.add_zero, rI_hold, rI_hold, rL_hold, hk]; done)) ?_
  refine Bod.ialdN k rfl (by omega) (by omega) dc_335_10 (mk_69 _) ?_
  refine Bod.eqI (nI e69) (by first | assumption | rfl | exact congrArg nI (by omega) | (simp (disch := omega) only [rI, rIe, rA, rIA, rLA, rJA, rVI, rQI, rVA, rQA, upd_at,  rAI, rLI, rJI, nI_add, pk_sub, kc_0, kc_1, kc_2, kc_3, kc_4, kc_5, reduceIte, Nat.reduceEqDiff, Nat.add_zero, rI_hold, rI_hold, rL_hold, hk, he69]; done)) ?_
  refine Bod.virt (r := []) dc_335_11 kr_335_216 ⟨Or.inl rfl, ow_302, cl_14⟩ (by rw [np_302]; rfl) (by rw [np_302]; rfl) (ob_of (mk_61 _)) (Nat.le_of_ble_eq_true rfl) (c1  ) ?_
  show Bod _ _ _ _ [] _ _ _
  refine Bod.go dc_335_14 rfl ?_
  refine Bod.get dc_335_15 fr_335_141 (mk_61 _) rfl ?_
  refine Bod.go dc_335_18 rfl ?_
  refine Bod.get dc_335_19 fr_335_190 (mk_61 _) rfl ?_
  refine Bod.eqI (nI k1) (by first | (simp (disch := omega) only [rI, rIe, rA, rIA, rLA, rJA, rVI, rQI, rVA, rQA, upd_at,  rAI, rLI, rJI, nI_add, pk_sub, kc_0, kc_1, kc_2, kc_3, kc_4, kc_5, reduceIte, Nat.reduceEqDiff, Nat.add_zero, rI_hold, rI_hold, rL_hold, hk, he69, hk1]; done) | (simp (disch := omega) only [rI, rIe, rA, rIA, rLA, rJA, rVI, rQI, rVA, rQA, upd_at,  rAI, rLI, rJI, nI_add, pk_sub, kc_0, kc_1, kc_2, kc_3, kc_4, kc_5, reduceIte, Nat.reduceEqDiff, Nat.add_zero, rI_hold, rI_hold, rL_hold, hk, he69, hk1]; exact congrArg nI (by omega))) ?_
  refine Bod.ialdN k1 rfl (by omega) (by omega) dc_335_22 (mk_70 _) ?_
  refine Bod.eqI (nI e70) (by first | (simp (disch := omega) only [rI, rIe, rA, rIA, rLA, rJA, rVI, rQI, rVA, rQA, upd_at,  rAI, rLI, rJI, nI_add, pk_sub, kc_0, kc_1, kc_2, kc_3, kc_4, kc_5, reduceIte, Nat.reduceEqDiff, Nat.add_zero, rI_hold, rI_hold, rL_hold, hk, he69, hk1, he70]; done) | (simp (disch := omega) only [rI, rIe, rA, rIA, rLA, rJA, rVI, rQI, rVA, rQA, upd_at,  rAI, rLI, rJI, nI_add, pk_sub, kc_0, kc_1, kc_2, kc_3, kc_4, kc_5, reduceIte, Nat.reduceEqDiff, Nat.add_zero, rI_hold, rI_hold, rL_hold, hk, he69, hk1, he70]; exact congrArg nI (by omega))) ?_
  refine Bod.istn dc_335_23 (by rw [ml_335]; exact Nat.le_of_ble_eq_true rfl) ?_
  refine Bod.go dc_335_24 rfl ?_
  refine Bod.bip 11 (by decide) dc_335_25 ?_
  refine Bod.virt (r := []) dc_335_27 kr_335_312 ⟨Or.inl rfl, ow_309, cl_14⟩ (by rw [np_309]; rfl) (by rw [np_309]; rfl) (ob_of (mk_61 _)) (Nat.le_of_ble_eq_true rfl) (c2  ) ?_
  show Bod _ _ _ _ [_] _ _ _
  refine Bod.ifT dc_335_30 rfl (k1_eq_T (k_eq 0 0 rfl rfl (by omega))) ?_
  refine Bod.go dc_335_48 rfl ?_
  refine Bod.bip 6 (by decide) dc_335_49 ?_
  refine Bod.virt (r := []) dc_335_51 kr_335_312 ⟨Or.inl rfl, ow_309, cl_14⟩ (by rw [np_309]; rfl) (by rw [np_309]; rfl) (ob_of (mk_61 _)) (Nat.le_of_ble_eq_true rfl) (c3  ) ?_
  show Bod _ _ _ _ [_] _ _ _
  refine Bod.ifF dc_335_54 rfl (k1_eq_F (k_ne 1 0 rfl rfl (by omega) (by omega) (by omega))) ?_
  refine Bod.go dc_335_57 rfl ?_
  refine Bod.get dc_335_58 fr_335_129 (mk_61 _) rfl ?_
  refine Bod.go dc_335_61 rfl ?_
  refine Bod.get dc_335_62 fr_335_190 (mk_61 _) rfl ?_
  refine Bod.eqI (nI k2) (by first | (simp (disch := omega) only [rI, rIe, rA, rIA, rLA, rJA, rVI, rQI, rVA, rQA, upd_at,  rAI, rLI, rJI, nI_add, pk_sub, kc_0, kc_1, kc_2, kc_3, kc_4, kc_5, reduceIte, Nat.reduceEqDiff, Nat.add_zero, rI_hold, rI_hold, rL_hold, hk, he69, hk1, he70, hk2]; done) | (simp (disch := omega) only [rI, rIe, rA, rIA, rLA, rJA, rVI, rQI, rVA, rQA, upd_at,  rAI, rLI, rJI, nI_add, pk_sub, kc_0, kc_1, kc_2, kc_3, kc_4, kc_5, reduceIte, Nat.reduceEqDiff, Nat.add_zero, rI_hold, rI_hold, rL_hold, hk, he69, hk1, he70, hk2]; exact congrArg nI (by omega))) ?_
  refine Bod.ic 1 (by decide) dc_335_65 ?_
  refine Bod.addN (k2 + 1) (by omega) dc_335_66 ?_
  refine Bod.ialdN (k2 + 1) rfl (by omega) (by omega) dc_335_67 (mk_67 _) ?_
  refine Bod.eqI (nI e67) (by first | (simp (disch := omega) only [rI, rIe, rA, rIA, rLA, rJA, rVI, rQI, rVA, rQA, upd_at,  rAI, rLI, rJI, nI_add, pk_sub, kc_0, kc_1, kc_2, kc_3, kc_4, kc_5, reduceIte, Nat.reduceEqDiff, Nat.add_zero, rI_hold, rI_hold, rL_hold, hk, he69, hk1, he70, hk2, he67]; done) | (simp (disch := omega) only [rI, rIe, rA, rIA, rLA, rJA, rVI, rQI, rVA, rQA, upd_at,  rAI, rLI, rJI, nI_add, pk_sub, kc_0, kc_1, kc_2, kc_3, kc_4, kc_5, reduceIte, Nat.reduceEqDiff, Nat.add_zero, rI_hold, rI_hold, rL_hold, hk, he69, hk1, he70, hk2, he67]; exact congrArg nI (by omega))) ?_
  refine Bod.ic 1 (by decide) dc_335_68 ?_
  refine Bod.icT dc_335_69 rfl (k2_ne_T (k_ne e67 1 rfl rfl (by omega) (by omega) (by omega))) ?_
  refine Bod.go dc_335_86 rfl ?_
  refine Bod.istn dc_335_87 (by rw [ml_335]; exact Nat.le_of_ble_eq_true rfl) ?_
  refine Bod.go dc_335_88 rfl ?_
  refine Bod.go dc_335_89 rfl ?_
  refine Bod.ic 0 (by decide) dc_335_90 ?_
  refine Bod.virt (r := []) dc_335_91 kr_335_292 ⟨Or.inl rfl, ow_336, cl_14⟩ (by rw [np_336]; rfl) (by rw [np_336]; rfl) (ob_of (mk_61 _)) (Nat.le_of_ble_eq_true rfl) (c4  ) ?_
  show Bod _ _ _ _ [_] _ _ _
  refine Bod.ifT dc_335_94 rfl (k1_ne_T (k_ne 1 0 rfl rfl (by omega) (by omega) (by omega))) ?_
  refine Bod.go dc_335_99 rfl ?_
  refine Bod.go dc_335_100 rfl ?_
  refine Bod.virt (r := []) dc_335_101 kr_335_388 ⟨Or.inl rfl, ow_341, cl_14⟩ (by rw [np_341]; rfl) (by rw [np_341]; rfl) (ob_of (mk_61 _)) (Nat.le_of_ble_eq_true rfl) (c5  ) ?_
  show Bod _ _ _ _ [] _ _ _
  refine Bod.ic 1 (by decide) dc_335_104 ?_
  exact Bod.retZ dc_335_105 rt_335 (Or.inr rfl)
theorem sSim_4 {d : Nat} {S : cS} {k : Nat} {e69 : Nat} {S1 : cS} {k1 : Nat} {e70 : Nat} {S2 : cS} {S3 : cS} {k2 : Nat} {e67 : Nat} {S4 : cS} (hk : sI S 6115 = nI k) (mk : k < 5990) (he69 : sA S 69 k = nI e69) (me69 : e69 < 2 ^ 20) (c1 : Ans (d + 8) 302 [.ref 61, .int (nI 0), .int (nI e69)] S none S1) (hk1 : sI S1 6115 = nI k1) (mk1 : k1 < 5990) (he70 : sA S1 70 k1 = nI e70) (me70 : e70 < 2 ^ 20) (c2 : Ans (d + 8) 309 [.ref 61, .int (nI 11)] S1 (some (.int (nI 0))) S2) (c3 : Ans (d + 8) 309 [.ref 61, .int (nI 6)] S2 (some (.int (nI 1))) S3) (hk2 : sI S3 6115 = nI k2) (mk2 : k2 < 5990) (he67 : sA S3 67 (k2 + 1) = nI e67) (me67 : e67 < 2 ^ 20) (b1 : e67 ≠ 1) (c4 : Ans (d + 8) 336 [.ref 61, .int (nI e70), .int (nI 0)] S3 (some (.int (nI 0))) S4) : Bod (d + 8) 335 0 [(0, .ref 61)] [] S (some (.int 0)) (S4) := by
  refine Bod.go dc_335_0 rfl ?_
  refine Bod.ic 0 (by decide) dc_335_1 ?_
  refine Bod.go dc_335_2 rfl ?_
  refine Bod.get dc_335_3 fr_335_138 (mk_61 _) rfl ?_
  refine Bod.go dc_335_6 rfl ?_
  refine Bod.get dc_335_7 fr_335_190 (mk_61 _) rfl ?_
  refine Bod.eqI (nI k) (by first | assumption | rfl | exact congrArg nI (by omega) | (simp (disch := omega) only [rI, rIe, rA, rIA, rLA, rJA, rVI, rQI, rVA, rQA, upd_at,  rAI, rLI, rJI, nI_add, pk_sub, kc_0, kc_1, kc_2, kc_3, kc_4, kc_5, reduceIte, Nat.reduceEqDiff, Nat.add_zero, rI_hold, rI_hold, rL_hold, hk]; done)) ?_
  refine Bod.ialdN k rfl (by omega) (by omega) dc_335_10 (mk_69 _) ?_
  refine Bod.eqI (nI e69) (by first | assumption | rfl | exact congrArg nI (by omega) | (simp (disch := omega) only [rI, rIe, rA, rIA, rLA, rJA, rVI, rQI, rVA, rQA, upd_at,  rAI, rLI, rJI, nI_add, pk_sub, kc_0, kc_1, kc_2, kc_3, kc_4, kc_5, reduceIte, Nat.reduceEqDiff, Nat.add_zero, rI_hold, rI_hold, rL_hold, hk, he69]; done)) ?_
  refine Bod.virt (r := []) dc_335_11 kr_335_216 ⟨Or.inl rfl, ow_302, cl_14⟩ (by rw [np_302]; rfl) (by rw [np_302]; rfl) (ob_of (mk_61 _)) (Nat.le_of_ble_eq_true rfl) (c1  ) ?_
  show Bod _ _ _ _ [] _ _ _
  refine Bod.go dc_335_14 rfl ?_
  refine Bod.get dc_335_15 fr_335_141 (mk_61 _) rfl ?_
  refine Bod.go dc_335_18 rfl ?_
  refine Bod.get dc_335_19 fr_335_190 (mk_61 _) rfl ?_
  refine Bod.eqI (nI k1) (by first | (simp (disch := omega) only [rI, rIe, rA, rIA, rLA, rJA, rVI, rQI, rVA, rQA, upd_at,  rAI, rLI, rJI, nI_add, pk_sub, kc_0, kc_1, kc_2, kc_3, kc_4, kc_5, reduceIte, Nat.reduceEqDiff, Nat.add_zero, rI_hold, rI_hold, rL_hold, hk, he69, hk1]; done) | (simp (disch := omega) only [rI, rIe, rA, rIA, rLA, rJA, rVI, rQI, rVA, rQA, upd_at,  rAI, rLI, rJI, nI_add, pk_sub, kc_0, kc_1, kc_2, kc_3, kc_4, kc_5, reduceIte, Nat.reduceEqDiff, Nat.add_zero, rI_hold, rI_hold, rL_hold, hk, he69, hk1]; exact congrArg nI (by omega))) ?_
  refine Bod.ialdN k1 rfl (by omega) (by omega) dc_335_22 (mk_70 _) ?_
  refine Bod.eqI (nI e70) (by first | (simp (disch := omega) only [rI, rIe, rA, rIA, rLA, rJA, rVI, rQI, rVA, rQA, upd_at,  rAI, rLI, rJI, nI_add, pk_sub, kc_0, kc_1, kc_2, kc_3, kc_4, kc_5, reduceIte, Nat.reduceEqDiff, Nat.add_zero, rI_hold, rI_hold, rL_hold, hk, he69, hk1, he70]; done) | (simp (disch := omega) only [rI, rIe, rA, rIA, rLA, rJA, rVI, rQI, rVA, rQA, upd_at,  rAI, rLI, rJI, nI_add, pk_sub, kc_0, kc_1, kc_2, kc_3, kc_4, kc_5, reduceIte, Nat.reduceEqDiff, Nat.add_zero, rI_hold, rI_hold, rL_hold, hk, he69, hk1, he70]; exact congrArg nI (by omega))) ?_
  refine Bod.istn dc_335_23 (by rw [ml_335]; exact Nat.le_of_ble_eq_true rfl) ?_
  refine Bod.go dc_335_24 rfl ?_
  refine Bod.bip 11 (by decide) dc_335_25 ?_
  refine Bod.virt (r := []) dc_335_27 kr_335_312 ⟨Or.inl rfl, ow_309, cl_14⟩ (by rw [np_309]; rfl) (by rw [np_309]; rfl) (ob_of (mk_61 _)) (Nat.le_of_ble_eq_true rfl) (c2  ) ?_
  show Bod _ _ _ _ [_] _ _ _
  refine Bod.ifT dc_335_30 rfl (k1_eq_T (k_eq 0 0 rfl rfl (by omega))) ?_
  refine Bod.go dc_335_48 rfl ?_
  refine Bod.bip 6 (by decide) dc_335_49 ?_
  refine Bod.virt (r := []) dc_335_51 kr_335_312 ⟨Or.inl rfl, ow_309, cl_14⟩ (by rw [np_309]; rfl) (by rw [np_309]; rfl) (ob_of (mk_61 _)) (Nat.le_of_ble_eq_true rfl) (c3  ) ?_
  show Bod _ _ _ _ [_] _ _ _
  refine Bod.ifF dc_335_54 rfl (k1_eq_F (k_ne 1 0 rfl rfl (by omega) (by omega) (by omega))) ?_
  refine Bod.go dc_335_57 rfl ?_
  refine Bod.get dc_335_58 fr_335_129 (mk_61 _) rfl ?_
  refine Bod.go dc_335_61 rfl ?_
  refine Bod.get dc_335_62 fr_335_190 (mk_61 _) rfl ?_
  refine Bod.eqI (nI k2) (by first | (simp (disch := omega) only [rI, rIe, rA, rIA, rLA, rJA, rVI, rQI, rVA, rQA, upd_at,  rAI, rLI, rJI, nI_add, pk_sub, kc_0, kc_1, kc_2, kc_3, kc_4, kc_5, reduceIte, Nat.reduceEqDiff, Nat.add_zero, rI_hold, rI_hold, rL_hold, hk, he69, hk1, he70, hk2]; done) | (simp (disch := omega) only [rI, rIe, rA, rIA, rLA, rJA, rVI, rQI, rVA, rQA, upd_at,  rAI, rLI, rJI, nI_add, pk_sub, kc_0, kc_1, kc_2, kc_3, kc_4, kc_5, reduceIte, Nat.reduceEqDiff, Nat.add_zero, rI_hold, rI_hold, rL_hold, hk, he69, hk1, he70, hk2]; exact congrArg nI (by omega))) ?_
  refine Bod.ic 1 (by decide) dc_335_65 ?_
  refine Bod.addN (k2 + 1) (by omega) dc_335_66 ?_
  refine Bod.ialdN (k2 + 1) rfl (by omega) (by omega) dc_335_67 (mk_67 _) ?_
  refine Bod.eqI (nI e67) (by first | (simp (disch := omega) only [rI, rIe, rA, rIA, rLA, rJA, rVI, rQI, rVA, rQA, upd_at,  rAI, rLI, rJI, nI_add, pk_sub, kc_0, kc_1, kc_2, kc_3, kc_4, kc_5, reduceIte, Nat.reduceEqDiff, Nat.add_zero, rI_hold, rI_hold, rL_hold, hk, he69, hk1, he70, hk2, he67]; done) | (simp (disch := omega) only [rI, rIe, rA, rIA, rLA, rJA, rVI, rQI, rVA, rQA, upd_at,  rAI, rLI, rJI, nI_add, pk_sub, kc_0, kc_1, kc_2, kc_3, kc_4, kc_5, reduceIte, Nat.reduceEqDiff, Nat.add_zero, rI_hold, rI_hold, rL_hold, hk, he69, hk1, he70, hk2, he67]; exact congrArg nI (by omega))) ?_
  refine Bod.ic 1 (by decide) dc_335_68 ?_
  refine Bod.icT dc_335_69 rfl (k2_ne_T (k_ne e67 1 rfl rfl (by omega) (by omega) (by omega))) ?_
  refine Bod.go dc_335_86 rfl ?_
  refine Bod.istn dc_335_87 (by rw [ml_335]; exact Nat.le_of_ble_eq_true rfl) ?_
  refine Bod.go dc_335_88 rfl ?_
  refine Bod.go dc_335_89 rfl ?_
  refine Bod.ic 0 (by decide) dc_335_90 ?_
  refine Bod.virt (r := []) dc_335_91 kr_335_292 ⟨Or.inl rfl, ow_336, cl_14⟩ (by rw [np_336]; rfl) (by rw [np_336]; rfl) (ob_of (mk_61 _)) (Nat.le_of_ble_eq_true rfl) (c4  ) ?_
  show Bod _ _ _ _ [_] _ _ _
  refine Bod.ifF dc_335_94 rfl (k1_ne_F (k_eq 0 0 rfl rfl (by omega))) ?_
  refine Bod.ic 0 (by decide) dc_335_97 ?_
  exact Bod.retZ dc_335_98 rt_335 (Or.inl rfl)
theorem sSim_5 {d : Nat} {S : cS} {k : Nat} {e69 : Nat} {S1 : cS} {k1 : Nat} {e70 : Nat} {S2 : cS} {S3 : cS} {k2 : Nat} {e67 : Nat} {e68 : Nat} {S4 : cS} {S5 : cS} (hk : sI S 6115 = nI k) (mk : k < 5990) (he69 : sA S 69 k = nI e69) (me69 : e69 < 2 ^ 20) (c1 : Ans (d + 8) 302 [.ref 61, .int (nI 0), .int (nI e69)] S none S1) (hk1 : sI S1 6115 = nI k1) (mk1 : k1 < 5990) (he70 : sA S1 70 k1 = nI e70) (me70 : e70 < 2 ^ 20) (c2 : Ans (d + 8) 309 [.ref 61, .int (nI 11)] S1 (some (.int (nI 0))) S2) (c3 : Ans (d + 8) 309 [.ref 61, .int (nI 6)] S2 (some (.int (nI 1))) S3) (hk2 : sI S3 6115 = nI k2) (mk2 : k2 < 5990) (he67 : sA S3 67 (k2 + 1) = nI e67) (me67 : e67 < 2 ^ 20) (b1 : e67 = 1) (he68 : sA S3 68 (k2 + 1) = nI e68) (me68 : e68 < 2 ^ 20) (c4 : Ans (d + 8) 336 [.ref 61, .int (nI e70), .int (nI 0)] S3 (some (.int (nI 1))) S4) (c5 : Ans (d + 8) 341 [.ref 61, .int (nI e68)] S4 none S5) : Bod (d + 8) 335 0 [(0, .ref 61)] [] S (some (.int 1)) (S5) := by
  refine Bod.go dc_335_0 rfl ?_
  refine Bod.ic 0 (by decide) dc_335_1 ?_
  refine Bod.go dc_335_2 rfl ?_
  refine Bod.get dc_335_3 fr_335_138 (mk_61 _) rfl ?_
  refine Bod.go dc_335_6 rfl ?_
  refine Bod.get dc_335_7 fr_335_190 (mk_61 _) rfl ?_
  refine Bod.eqI (nI k) (by first | assumption | rfl | exact congrArg nI (by omega) | (simp (disch := omega) only [rI, rIe, rA, rIA, rLA, rJA, rVI, rQI, rVA, rQA, upd_at,  rAI, rLI, rJI, nI_add, pk_sub, kc_0, kc_1, kc_2, kc_3, kc_4, kc_5, reduceIte, Nat.reduceEqDiff, Nat.add_zero, rI_hold, rI_hold, rL_hold, hk]; done)) ?_
  refine Bod.ialdN k rfl (by omega) (by omega) dc_335_10 (mk_69 _) ?_
  refine Bod.eqI (nI e69) (by first | assumption | rfl | exact congrArg nI (by omega) | (simp (disch := omega) only [rI, rIe, rA, rIA, rLA, rJA, rVI, rQI, rVA, rQA, upd_at,  rAI, rLI, rJI, nI_add, pk_sub, kc_0, kc_1, kc_2, kc_3, kc_4, kc_5, reduceIte, Nat.reduceEqDiff, Nat.add_zero, rI_hold, rI_hold, rL_hold, hk, he69]; done)) ?_
  refine Bod.virt (r := []) dc_335_11 kr_335_216 ⟨Or.inl rfl, ow_302, cl_14⟩ (by rw [np_302]; rfl) (by rw [np_302]; rfl) (ob_of (mk_61 _)) (Nat.le_of_ble_eq_true rfl) (c1  ) ?_
  show Bod _ _ _ _ [] _ _ _
  refine Bod.go dc_335_14 rfl ?_
  refine Bod.get dc_335_15 fr_335_141 (mk_61 _) rfl ?_
  refine Bod.go dc_335_18 rfl ?_
  refine Bod.get dc_335_19 fr_335_190 (mk_61 _) rfl ?_
  refine Bod.eqI (nI k1) (by first | (simp (disch := omega) only [rI, rIe, rA, rIA, rLA, rJA, rVI, rQI, rVA, rQA, upd_at,  rAI, rLI, rJI, nI_add, pk_sub, kc_0, kc_1, kc_2, kc_3, kc_4, kc_5, reduceIte, Nat.reduceEqDiff, Nat.add_zero, rI_hold, rI_hold, rL_hold, hk, he69, hk1]; done) | (simp (disch := omega) only [rI, rIe, rA, rIA, rLA, rJA, rVI, rQI, rVA, rQA, upd_at,  rAI, rLI, rJI, nI_add, pk_sub, kc_0, kc_1, kc_2, kc_3, kc_4, kc_5, reduceIte, Nat.reduceEqDiff, Nat.add_zero, rI_hold, rI_hold, rL_hold, hk, he69, hk1]; exact congrArg nI (by omega))) ?_
  refine Bod.ialdN k1 rfl (by omega) (by omega) dc_335_22 (mk_70 _) ?_
  refine Bod.eqI (nI e70) (by first | (simp (disch := omega) only [rI, rIe, rA, rIA, rLA, rJA, rVI, rQI, rVA, rQA, upd_at,  rAI, rLI, rJI, nI_add, pk_sub, kc_0, kc_1, kc_2, kc_3, kc_4, kc_5, reduceIte, Nat.reduceEqDiff, Nat.add_zero, rI_hold, rI_hold, rL_hold, hk, he69, hk1, he70]; done) | (simp (disch := omega) only [rI, rIe, rA, rIA, rLA, rJA, rVI, rQI, rVA, rQA, upd_at,  rAI, rLI, rJI, nI_add, pk_sub, kc_0, kc_1, kc_2, kc_3, kc_4, kc_5, reduceIte, Nat.reduceEqDiff, Nat.add_zero, rI_hold, rI_hold, rL_hold, hk, he69, hk1, he70]; exact congrArg nI (by omega))) ?_
  refine Bod.istn dc_335_23 (by rw [ml_335]; exact Nat.le_of_ble_eq_true rfl) ?_
  refine Bod.go dc_335_24 rfl ?_
  refine Bod.bip 11 (by decide) dc_335_25 ?_
  refine Bod.virt (r := []) dc_335_27 kr_335_312 ⟨Or.inl rfl, ow_309, cl_14⟩ (by rw [np_309]; rfl) (by rw [np_309]; rfl) (ob_of (mk_61 _)) (Nat.le_of_ble_eq_true rfl) (c2  ) ?_
  show Bod _ _ _ _ [_] _ _ _
  refine Bod.ifT dc_335_30 rfl (k1_eq_T (k_eq 0 0 rfl rfl (by omega))) ?_
  refine Bod.go dc_335_48 rfl ?_
  refine Bod.bip 6 (by decide) dc_335_49 ?_
  refine Bod.virt (r := []) dc_335_51 kr_335_312 ⟨Or.inl rfl, ow_309, cl_14⟩ (by rw [np_309]; rfl) (by rw [np_309]; rfl) (ob_of (mk_61 _)) (Nat.le_of_ble_eq_true rfl) (c3  ) ?_
  show Bod _ _ _ _ [_] _ _ _
  refine Bod.ifF dc_335_54 rfl (k1_eq_F (k_ne 1 0 rfl rfl (by omega) (by omega) (by omega))) ?_
  refine Bod.go dc_335_57 rfl ?_
  refine Bod.get dc_335_58 fr_335_129 (mk_61 _) rfl ?_
  refine Bod.go dc_335_61 rfl ?_
  refine Bod.get dc_335_62 fr_335_190 (mk_61 _) rfl ?_
  refine Bod.eqI (nI k2) (by first | (simp (disch := omega) only [rI, rIe, rA, rIA, rLA, rJA, rVI, rQI, rVA, rQA, upd_at,  rAI, rLI, rJI, nI_add, pk_sub, kc_0, kc_1, kc_2, kc_3, kc_4, kc_5, reduceIte, Nat.reduceEqDiff, Nat.add_zero, rI_hold, rI_hold, rL_hold, hk, he69, hk1, he70, hk2]; done) | (simp (disch := omega) only [rI, rIe, rA, rIA, rLA, rJA, rVI, rQI, rVA, rQA, upd_at,  rAI, rLI, rJI, nI_add, pk_sub, kc_0, kc_1, kc_2, kc_3, kc_4, kc_5, reduceIte, Nat.reduceEqDiff, Nat.add_zero, rI_hold, rI_hold, rL_hold, hk, he69, hk1, he70, hk2]; exact congrArg nI (by omega))) ?_
  refine Bod.ic 1 (by decide) dc_335_65 ?_
  refine Bod.addN (k2 + 1) (by omega) dc_335_66 ?_
  refine Bod.ialdN (k2 + 1) rfl (by omega) (by omega) dc_335_67 (mk_67 _) ?_
  refine Bod.eqI (nI e67) (by first | (simp (disch := omega) only [rI, rIe, rA, rIA, rLA, rJA, rVI, rQI, rVA, rQA, upd_at,  rAI, rLI, rJI, nI_add, pk_sub, kc_0, kc_1, kc_2, kc_3, kc_4, kc_5, reduceIte, Nat.reduceEqDiff, Nat.add_zero, rI_hold, rI_hold, rL_hold, hk, he69, hk1, he70, hk2, he67]; done) | (simp (disch := omega) only [rI, rIe, rA, rIA, rLA, rJA, rVI, rQI, rVA, rQA, upd_at,  rAI, rLI, rJI, nI_add, pk_sub, kc_0, kc_1, kc_2, kc_3, kc_4, kc_5, reduceIte, Nat.reduceEqDiff, Nat.add_zero, rI_hold, rI_hold, rL_hold, hk, he69, hk1, he70, hk2, he67]; exact congrArg nI (by omega))) ?_
  refine Bod.ic 1 (by decide) dc_335_68 ?_
  refine Bod.icF dc_335_69 rfl (k2_ne_F (k_eq e67 1 rfl rfl (by omega))) ?_
  refine Bod.go dc_335_72 rfl ?_
  refine Bod.get dc_335_73 fr_335_135 (mk_61 _) rfl ?_
  refine Bod.go dc_335_76 rfl ?_
  refine Bod.get dc_335_77 fr_335_190 (mk_61 _) rfl ?_
  refine Bod.eqI (nI k2) (by first | (simp (disch := omega) only [rI, rIe, rA, rIA, rLA, rJA, rVI, rQI, rVA, rQA, upd_at,  rAI, rLI, rJI, nI_add, pk_sub, kc_0, kc_1, kc_2, kc_3, kc_4, kc_5, reduceIte, Nat.reduceEqDiff, Nat.add_zero, rI_hold, rI_hold, rL_hold, hk, he69, hk1, he70, hk2, he67]; done) | (simp (disch := omega) only [rI, rIe, rA, rIA, rLA, rJA, rVI, rQI, rVA, rQA, upd_at,  rAI, rLI, rJI, nI_add, pk_sub, kc_0, kc_1, kc_2, kc_3, kc_4, kc_5, reduceIte, Nat.reduceEqDiff, Nat.add_zero, rI_hold, rI_hold, rL_hold, hk, he69, hk1, he70, hk2, he67]; exact congrArg nI (by omega))) ?_
  refine Bod.ic 1 (by decide) dc_335_80 ?_
  refine Bod.addN (k2 + 1) (by omega) dc_335_81 ?_
  refine Bod.ialdN (k2 + 1) rfl (by omega) (by omega) dc_335_82 (mk_68 _) ?_
  refine Bod.eqI (nI e68) (by first | (simp (disch := omega) only [rI, rIe, rA, rIA, rLA, rJA, rVI, rQI, rVA, rQA, upd_at,  rAI, rLI, rJI, nI_add, pk_sub, kc_0, kc_1, kc_2, kc_3, kc_4, kc_5, reduceIte, Nat.reduceEqDiff, Nat.add_zero, rI_hold, rI_hold, rL_hold, hk, he69, hk1, he70, hk2, he67, he68]; done) | (simp (disch := omega) only [rI, rIe, rA, rIA, rLA, rJA, rVI, rQI, rVA, rQA, upd_at,  rAI, rLI, rJI, nI_add, pk_sub, kc_0, kc_1, kc_2, kc_3, kc_4, kc_5, reduceIte, Nat.reduceEqDiff, Nat.add_zero, rI_hold, rI_hold, rL_hold, hk, he69, hk1, he70, hk2, he67, he68]; exact congrArg nI (by omega))) ?_
  refine Bod.go dc_335_83 rfl ?_
  refine Bod.istn dc_335_87 (by rw [ml_335]; exact Nat.le_of_ble_eq_true rfl) ?_
  refine Bod.go dc_335_88 rfl ?_
  refine Bod.go dc_335_89 rfl ?_
  refine Bod.ic 0 (by decide) dc_335_90 ?_
  refine Bod.virt (r := []) dc_335_91 kr_335_292 ⟨Or.inl rfl, ow_336, cl_14⟩ (by rw [np_336]; rfl) (by rw [np_336]; rfl) (ob_of (mk_61 _)) (Nat.le_of_ble_eq_true rfl) (c4  ) ?_
  show Bod _ _ _ _ [_] _ _ _
  refine Bod.ifT dc_335_94 rfl (k1_ne_T (k_ne 1 0 rfl rfl (by omega) (by omega) (by omega))) ?_
  refine Bod.go dc_335_99 rfl ?_
  refine Bod.go dc_335_100 rfl ?_
  refine Bod.virt (r := []) dc_335_101 kr_335_388 ⟨Or.inl rfl, ow_341, cl_14⟩ (by rw [np_341]; rfl) (by rw [np_341]; rfl) (ob_of (mk_61 _)) (Nat.le_of_ble_eq_true rfl) (c5  ) ?_
  show Bod _ _ _ _ [] _ _ _
  refine Bod.ic 1 (by decide) dc_335_104 ?_
  exact Bod.retZ dc_335_105 rt_335 (Or.inr rfl)
theorem sSim_6 {d : Nat} {S : cS} {k : Nat} {e69 : Nat} {S1 : cS} {k1 : Nat} {e70 : Nat} {S2 : cS} {S3 : cS} {k2 : Nat} {e67 : Nat} {e68 : Nat} {S4 : cS} (hk : sI S 6115 = nI k) (mk : k < 5990) (he69 : sA S 69 k = nI e69) (me69 : e69 < 2 ^ 20) (c1 : Ans (d + 8) 302 [.ref 61, .int (nI 0), .int (nI e69)] S none S1) (hk1 : sI S1 6115 = nI k1) (mk1 : k1 < 5990) (he70 : sA S1 70 k1 = nI e70) (me70 : e70 < 2 ^ 20) (c2 : Ans (d + 8) 309 [.ref 61, .int (nI 11)] S1 (some (.int (nI 0))) S2) (c3 : Ans (d + 8) 309 [.ref 61, .int (nI 6)] S2 (some (.int (nI 1))) S3) (hk2 : sI S3 6115 = nI k2) (mk2 : k2 < 5990) (he67 : sA S3 67 (k2 + 1) = nI e67) (me67 : e67 < 2 ^ 20) (b1 : e67 = 1) (he68 : sA S3 68 (k2 + 1) = nI e68) (me68 : e68 < 2 ^ 20) (c4 : Ans (d + 8) 336 [.ref 61, .int (nI e70), .int (nI 0)] S3 (some (.int (nI 0))) S4) : Bod (d + 8) 335 0 [(0, .ref 61)] [] S (some (.int 0)) (S4) := by
  refine Bod.go dc_335_0 rfl ?_
  refine Bod.ic 0 (by decide) dc_335_1 ?_
  refine Bod.go dc_335_2 rfl ?_
  refine Bod.get dc_335_3 fr_335_138 (mk_61 _) rfl ?_
  refine Bod.go dc_335_6 rfl ?_
  refine Bod.get dc_335_7 fr_335_190 (mk_61 _) rfl ?_
  refine Bod.eqI (nI k) (by first | assumption | rfl | exact congrArg nI (by omega) | (simp (disch := omega) only [rI, rIe, rA, rIA, rLA, rJA, rVI, rQI, rVA, rQA, upd_at,  rAI, rLI, rJI, nI_add, pk_sub, kc_0, kc_1, kc_2, kc_3, kc_4, kc_5, reduceIte, Nat.reduceEqDiff, Nat.add_zero, rI_hold, rI_hold, rL_hold, hk]; done)) ?_
  refine Bod.ialdN k rfl (by omega) (by omega) dc_335_10 (mk_69 _) ?_
  refine Bod.eqI (nI e69) (by first | assumption | rfl | exact congrArg nI (by omega) | (simp (disch := omega) only [rI, rIe, rA, rIA, rLA, rJA, rVI, rQI, rVA, rQA, upd_at,  rAI, rLI, rJI, nI_add, pk_sub, kc_0, kc_1, kc_2, kc_3, kc_4, kc_5, reduceIte, Nat.reduceEqDiff, Nat.add_zero, rI_hold, rI_hold, rL_hold, hk, he69]; done)) ?_
  refine Bod.virt (r := []) dc_335_11 kr_335_216 ⟨Or.inl rfl, ow_302, cl_14⟩ (by rw [np_302]; rfl) (by rw [np_302]; rfl) (ob_of (mk_61 _)) (Nat.le_of_ble_eq_true rfl) (c1  ) ?_
  show Bod _ _ _ _ [] _ _ _
  refine Bod.go dc_335_14 rfl ?_
  refine Bod.get dc_335_15 fr_335_141 (mk_61 _) rfl ?_
  refine Bod.go dc_335_18 rfl ?_
  refine Bod.get dc_335_19 fr_335_190 (mk_61 _) rfl ?_
  refine Bod.eqI (nI k1) (by first | (simp (disch := omega) only [rI, rIe, rA, rIA, rLA, rJA, rVI, rQI, rVA, rQA, upd_at,  rAI, rLI, rJI, nI_add, pk_sub, kc_0, kc_1, kc_2, kc_3, kc_4, kc_5, reduceIte, Nat.reduceEqDiff, Nat.add_zero, rI_hold, rI_hold, rL_hold, hk, he69, hk1]; done) | (simp (disch := omega) only [rI, rIe, rA, rIA, rLA, rJA, rVI, rQI, rVA, rQA, upd_at,  rAI, rLI, rJI, nI_add, pk_sub, kc_0, kc_1, kc_2, kc_3, kc_4, kc_5, reduceIte, Nat.reduceEqDiff, Nat.add_zero, rI_hold, rI_hold, rL_hold, hk, he69, hk1]; exact congrArg nI (by omega))) ?_
  refine Bod.ialdN k1 rfl (by omega) (by omega) dc_335_22 (mk_70 _) ?_
  refine Bod.eqI (nI e70) (by first | (simp (disch := omega) only [rI, rIe, rA, rIA, rLA, rJA, rVI, rQI, rVA, rQA, upd_at,  rAI, rLI, rJI, nI_add, pk_sub, kc_0, kc_1, kc_2, kc_3, kc_4, kc_5, reduceIte, Nat.reduceEqDiff, Nat.add_zero, rI_hold, rI_hold, rL_hold, hk, he69, hk1, he70]; done) | (simp (disch := omega) only [rI, rIe, rA, rIA, rLA, rJA, rVI, rQI, rVA, rQA, upd_at,  rAI, rLI, rJI, nI_add, pk_sub, kc_0, kc_1, kc_2, kc_3, kc_4, kc_5, reduceIte, Nat.reduceEqDiff, Nat.add_zero, rI_hold, rI_hold, rL_hold, hk, he69, hk1, he70]; exact congrArg nI (by omega))) ?_
  refine Bod.istn dc_335_23 (by rw [ml_335]; exact Nat.le_of_ble_eq_true rfl) ?_
  refine Bod.go dc_335_24 rfl ?_
  refine Bod.bip 11 (by decide) dc_335_25 ?_
  refine Bod.virt (r := []) dc_335_27 kr_335_312 ⟨Or.inl rfl, ow_309, cl_14⟩ (by rw [np_309]; rfl) (by rw [np_309]; rfl) (ob_of (mk_61 _)) (Nat.le_of_ble_eq_true rfl) (c2  ) ?_
  show Bod _ _ _ _ [_] _ _ _
  refine Bod.ifT dc_335_30 rfl (k1_eq_T (k_eq 0 0 rfl rfl (by omega))) ?_
  refine Bod.go dc_335_48 rfl ?_
  refine Bod.bip 6 (by decide) dc_335_49 ?_
  refine Bod.virt (r := []) dc_335_51 kr_335_312 ⟨Or.inl rfl, ow_309, cl_14⟩ (by rw [np_309]; rfl) (by rw [np_309]; rfl) (ob_of (mk_61 _)) (Nat.le_of_ble_eq_true rfl) (c3  ) ?_
  show Bod _ _ _ _ [_] _ _ _
  refine Bod.ifF dc_335_54 rfl (k1_eq_F (k_ne 1 0 rfl rfl (by omega) (by omega) (by omega))) ?_
  refine Bod.go dc_335_57 rfl ?_
  refine Bod.get dc_335_58 fr_335_129 (mk_61 _) rfl ?_
  refine Bod.go dc_335_61 rfl ?_
  refine Bod.get dc_335_62 fr_335_190 (mk_61 _) rfl ?_
  refine Bod.eqI (nI k2) (by first | (simp (disch := omega) only [rI, rIe, rA, rIA, rLA, rJA, rVI, rQI, rVA, rQA, upd_at,  rAI, rLI, rJI, nI_add, pk_sub, kc_0, kc_1, kc_2, kc_3, kc_4, kc_5, reduceIte, Nat.reduceEqDiff, Nat.add_zero, rI_hold, rI_hold, rL_hold, hk, he69, hk1, he70, hk2]; done) | (simp (disch := omega) only [rI, rIe, rA, rIA, rLA, rJA, rVI, rQI, rVA, rQA, upd_at,  rAI, rLI, rJI, nI_add, pk_sub, kc_0, kc_1, kc_2, kc_3, kc_4, kc_5, reduceIte, Nat.reduceEqDiff, Nat.add_zero, rI_hold, rI_hold, rL_hold, hk, he69, hk1, he70, hk2]; exact congrArg nI (by omega))) ?_
  refine Bod.ic 1 (by decide) dc_335_65 ?_
  refine Bod.addN (k2 + 1) (by omega) dc_335_66 ?_
  refine Bod.ialdN (k2 + 1) rfl (by omega) (by omega) dc_335_67 (mk_67 _) ?_
  refine Bod.eqI (nI e67) (by first | (simp (disch := omega) only [rI, rIe, rA, rIA, rLA, rJA, rVI, rQI, rVA, rQA, upd_at,  rAI, rLI, rJI, nI_add, pk_sub, kc_0, kc_1, kc_2, kc_3, kc_4, kc_5, reduceIte, Nat.reduceEqDiff, Nat.add_zero, rI_hold, rI_hold, rL_hold, hk, he69, hk1, he70, hk2, he67]; done) | (simp (disch := omega) only [rI, rIe, rA, rIA, rLA, rJA, rVI, rQI, rVA, rQA, upd_at,  rAI, rLI, rJI, nI_add, pk_sub, kc_0, kc_1, kc_2, kc_3, kc_4, kc_5, reduceIte, Nat.reduceEqDiff, Nat.add_zero, rI_hold, rI_hold, rL_hold, hk, he69, hk1, he70, hk2, he67]; exact congrArg nI (by omega))) ?_
  refine Bod.ic 1 (by decide) dc_335_68 ?_
  refine Bod.icF dc_335_69 rfl (k2_ne_F (k_eq e67 1 rfl rfl (by omega))) ?_
  refine Bod.go dc_335_72 rfl ?_
  refine Bod.get dc_335_73 fr_335_135 (mk_61 _) rfl ?_
  refine Bod.go dc_335_76 rfl ?_
  refine Bod.get dc_335_77 fr_335_190 (mk_61 _) rfl ?_
  refine Bod.eqI (nI k2) (by first | (simp (disch := omega) only [rI, rIe, rA, rIA, rLA, rJA, rVI, rQI, rVA, rQA, upd_at,  rAI, rLI, rJI, nI_add, pk_sub, kc_0, kc_1, kc_2, kc_3, kc_4, kc_5, reduceIte, Nat.reduceEqDiff, Nat.add_zero, rI_hold, rI_hold, rL_hold, hk, he69, hk1, he70, hk2, he67]; done) | (simp (disch := omega) only [rI, rIe, rA, rIA, rLA, rJA, rVI, rQI, rVA, rQA, upd_at,  rAI, rLI, rJI, nI_add, pk_sub, kc_0, kc_1, kc_2, kc_3, kc_4, kc_5, reduceIte, Nat.reduceEqDiff, Nat.add_zero, rI_hold, rI_hold, rL_hold, hk, he69, hk1, he70, hk2, he67]; exact congrArg nI (by omega))) ?_
  refine Bod.ic 1 (by decide) dc_335_80 ?_
  refine Bod.addN (k2 + 1) (by omega) dc_335_81 ?_
  refine Bod.ialdN (k2 + 1) rfl (by omega) (by omega) dc_335_82 (mk_68 _) ?_
  refine Bod.eqI (nI e68) (by first | (simp (disch := omega) only [rI, rIe, rA, rIA, rLA, rJA, rVI, rQI, rVA, rQA, upd_at,  rAI, rLI, rJI, nI_add, pk_sub, kc_0, kc_1, kc_2, kc_3, kc_4, kc_5, reduceIte, Nat.reduceEqDiff, Nat.add_zero, rI_hold, rI_hold, rL_hold, hk, he69, hk1, he70, hk2, he67, he68]; done) | (simp (disch := omega) only [rI, rIe, rA, rIA, rLA, rJA, rVI, rQI, rVA, rQA, upd_at,  rAI, rLI, rJI, nI_add, pk_sub, kc_0, kc_1, kc_2, kc_3, kc_4, kc_5, reduceIte, Nat.reduceEqDiff, Nat.add_zero, rI_hold, rI_hold, rL_hold, hk, he69, hk1, he70, hk2, he67, he68]; exact congrArg nI (by omega))) ?_
  refine Bod.go dc_335_83 rfl ?_
  refine Bod.istn dc_335_87 (by rw [ml_335]; exact Nat.le_of_ble_eq_true rfl) ?_
  refine Bod.go dc_335_88 rfl ?_
  refine Bod.go dc_335_89 rfl ?_
  refine Bod.ic 0 (by decide) dc_335_90 ?_
  refine Bod.virt (r := []) dc_335_91 kr_335_292 ⟨Or.inl rfl, ow_336, cl_14⟩ (by rw [np_336]; rfl) (by rw [np_336]; rfl) (ob_of (mk_61 _)) (Nat.le_of_ble_eq_true rfl) (c4  ) ?_
  show Bod _ _ _ _ [_] _ _ _
  refine Bod.ifF dc_335_94 rfl (k1_ne_F (k_eq 0 0 rfl rfl (by omega))) ?_
  refine Bod.ic 0 (by decide) dc_335_97 ?_
  exact Bod.retZ dc_335_98 rt_335 (Or.inl rfl)
theorem sSim_7 {d : Nat} {S : cS} {k : Nat} {e69 : Nat} {S1 : cS} {k1 : Nat} {e70 : Nat} {S2 : cS} {S3 : cS} {k2 : Nat} {e67 : Nat} {e68 : Nat} {S4 : cS} {S5 : cS} {S6 : cS} {S7 : cS} (hk : sI S 6115 = nI k) (mk : k < 5990) (he69 : sA S 69 k = nI e69) (me69 : e69 < 2 ^ 20) (c1 : Ans (d + 8) 302 [.ref 61, .int (nI 0), .int (nI e69)] S none S1) (hk1 : sI S1 6115 = nI k1) (mk1 : k1 < 5990) (he70 : sA S1 70 k1 = nI e70) (me70 : e70 < 2 ^ 20) (c2 : Ans (d + 8) 309 [.ref 61, .int (nI 11)] S1 (some (.int (nI 0))) S2) (c3 : Ans (d + 8) 309 [.ref 61, .int (nI 6)] S2 (some (.int (nI 0))) S3) (hk2 : sI S3 6115 = nI k2) (mk2 : k2 < 5990) (he67 : sA S3 67 k2 = nI e67) (me67 : e67 < 2 ^ 20) (b1 : e67 = 1) (he68 : sA S3 68 k2 = nI e68) (me68 : e68 < 2 ^ 20) (c4 : Ans (d + 8) 323 [.ref 61, .int (nI 61)] (wI 6115 (nI (k2 + 1)) S3) (some (.int (nI 1))) S4) (c5 : Ans (d + 8) 306 [.ref 61, .int (nI 0)] S4 (some (.int (nI 1))) S5) (c6 : Ans (d + 8) 332 [.ref 61] S5 (some (.int (nI 1))) S6) (c7 : Ans (d + 8) 341 [.ref 61, .int (nI e68)] S6 none S7) : Bod (d + 8) 335 0 [(0, .ref 61)] [] S (some (.int 1)) (S7) := by
  refine Bod.go dc_335_0 rfl ?_
  refine Bod.ic 0 (by decide) dc_335_1 ?_
  refine Bod.go dc_335_2 rfl ?_
  refine Bod.get dc_335_3 fr_335_138 (mk_61 _) rfl ?_
  refine Bod.go dc_335_6 rfl ?_
  refine Bod.get dc_335_7 fr_335_190 (mk_61 _) rfl ?_
  refine Bod.eqI (nI k) (by first | assumption | rfl | exact congrArg nI (by omega) | (simp (disch := omega) only [rI, rIe, rA, rIA, rLA, rJA, rVI, rQI, rVA, rQA, upd_at,  rAI, rLI, rJI, nI_add, pk_sub, kc_0, kc_1, kc_2, kc_3, kc_4, kc_5, reduceIte, Nat.reduceEqDiff, Nat.add_zero, rI_hold, rI_hold, rL_hold, hk]; done)) ?_
  refine Bod.ialdN k rfl (by omega) (by omega) dc_335_10 (mk_69 _) ?_
  refine Bod.eqI (nI e69) (by first | assumption | rfl | exact congrArg nI (by omega) | (simp (disch := omega) only [rI, rIe, rA, rIA, rLA, rJA, rVI, rQI, rVA, rQA, upd_at,  rAI, rLI, rJI, nI_add, pk_sub, kc_0, kc_1, kc_2, kc_3, kc_4, kc_5, reduceIte, Nat.reduceEqDiff, Nat.add_zero, rI_hold, rI_hold, rL_hold, hk, he69]; done)) ?_
  refine Bod.virt (r := []) dc_335_11 kr_335_216 ⟨Or.inl rfl, ow_302, cl_14⟩ (by rw [np_302]; rfl) (by rw [np_302]; rfl) (ob_of (mk_61 _)) (Nat.le_of_ble_eq_true rfl) (c1  ) ?_
  show Bod _ _ _ _ [] _ _ _
  refine Bod.go dc_335_14 rfl ?_
  refine Bod.get dc_335_15 fr_335_141 (mk_61 _) rfl ?_
  refine Bod.go dc_335_18 rfl ?_
  refine Bod.get dc_335_19 fr_335_190 (mk_61 _) rfl ?_
  refine Bod.eqI (nI k1) (by first | (simp (disch := omega) only [rI, rIe, rA, rIA, rLA, rJA, rVI, rQI, rVA, rQA, upd_at,  rAI, rLI, rJI, nI_add, pk_sub, kc_0, kc_1, kc_2, kc_3, kc_4, kc_5, reduceIte, Nat.reduceEqDiff, Nat.add_zero, rI_hold, rI_hold, rL_hold, hk, he69, hk1]; done) | (simp (disch := omega) only [rI, rIe, rA, rIA, rLA, rJA, rVI, rQI, rVA, rQA, upd_at,  rAI, rLI, rJI, nI_add, pk_sub, kc_0, kc_1, kc_2, kc_3, kc_4, kc_5, reduceIte, Nat.reduceEqDiff, Nat.add_zero, rI_hold, rI_hold, rL_hold, hk, he69, hk1]; exact congrArg nI (by omega))) ?_
  refine Bod.ialdN k1 rfl (by omega) (by omega) dc_335_22 (mk_70 _) ?_
  refine Bod.eqI (nI e70) (by first | (simp (disch := omega) only [rI, rIe, rA, rIA, rLA, rJA, rVI, rQI, rVA, rQA, upd_at,  rAI, rLI, rJI, nI_add, pk_sub, kc_0, kc_1, kc_2, kc_3, kc_4, kc_5, reduceIte, Nat.reduceEqDiff, Nat.add_zero, rI_hold, rI_hold, rL_hold, hk, he69, hk1, he70]; done) | (simp (disch := omega) only [rI, rIe, rA, rIA, rLA, rJA, rVI, rQI, rVA, rQA, upd_at,  rAI, rLI, rJI, nI_add, pk_sub, kc_0, kc_1, kc_2, kc_3, kc_4, kc_5, reduceIte, Nat.reduceEqDiff, Nat.add_zero, rI_hold, rI_hold, rL_hold, hk, he69, hk1, he70]; exact congrArg nI (by omega))) ?_
  refine Bod.istn dc_335_23 (by rw [ml_335]; exact Nat.le_of_ble_eq_true rfl) ?_
  refine Bod.go dc_335_24 rfl ?_
  refine Bod.bip 11 (by decide) dc_335_25 ?_
  refine Bod.virt (r := []) dc_335_27 kr_335_312 ⟨Or.inl rfl, ow_309, cl_14⟩ (by rw [np_309]; rfl) (by rw [np_309]; rfl) (ob_of (mk_61 _)) (Nat.le_of_ble_eq_true rfl) (c2  ) ?_
  show Bod _ _ _ _ [_] _ _ _
  refine Bod.ifT dc_335_30 rfl (k1_eq_T (k_eq 0 0 rfl rfl (by omega))) ?_
  refine Bod.go dc_335_48 rfl ?_
  refine Bod.bip 6 (by decide) dc_335_49 ?_
  refine Bod.virt (r := []) dc_335_51 kr_335_312 ⟨Or.inl rfl, ow_309, cl_14⟩ (by rw [np_309]; rfl) (by rw [np_309]; rfl) (ob_of (mk_61 _)) (Nat.le_of_ble_eq_true rfl) (c3  ) ?_
  show Bod _ _ _ _ [_] _ _ _
  refine Bod.ifT dc_335_54 rfl (k1_eq_T (k_eq 0 0 rfl rfl (by omega))) ?_
  refine Bod.go dc_335_106 rfl ?_
  refine Bod.get dc_335_107 fr_335_129 (mk_61 _) rfl ?_
  refine Bod.go dc_335_110 rfl ?_
  refine Bod.get dc_335_111 fr_335_190 (mk_61 _) rfl ?_
  refine Bod.eqI (nI k2) (by first | (simp (disch := omega) only [rI, rIe, rA, rIA, rLA, rJA, rVI, rQI, rVA, rQA, upd_at,  rAI, rLI, rJI, nI_add, pk_sub, kc_0, kc_1, kc_2, kc_3, kc_4, kc_5, reduceIte, Nat.reduceEqDiff, Nat.add_zero, rI_hold, rI_hold, rL_hold, hk, he69, hk1, he70, hk2]; done) | (simp (disch := omega) only [rI, rIe, rA, rIA, rLA, rJA, rVI, rQI, rVA, rQA, upd_at,  rAI, rLI, rJI, nI_add, pk_sub, kc_0, kc_1, kc_2, kc_3, kc_4, kc_5, reduceIte, Nat.reduceEqDiff, Nat.add_zero, rI_hold, rI_hold, rL_hold, hk, he69, hk1, he70, hk2]; exact congrArg nI (by omega))) ?_
  refine Bod.ialdN k2 rfl (by omega) (by omega) dc_335_114 (mk_67 _) ?_
  refine Bod.eqI (nI e67) (by first | (simp (disch := omega) only [rI, rIe, rA, rIA, rLA, rJA, rVI, rQI, rVA, rQA, upd_at,  rAI, rLI, rJI, nI_add, pk_sub, kc_0, kc_1, kc_2, kc_3, kc_4, kc_5, reduceIte, Nat.reduceEqDiff, Nat.add_zero, rI_hold, rI_hold, rL_hold, hk, he69, hk1, he70, hk2, he67]; done) | (simp (disch := omega) only [rI, rIe, rA, rIA, rLA, rJA, rVI, rQI, rVA, rQA, upd_at,  rAI, rLI, rJI, nI_add, pk_sub, kc_0, kc_1, kc_2, kc_3, kc_4, kc_5, reduceIte, Nat.reduceEqDiff, Nat.add_zero, rI_hold, rI_hold, rL_hold, hk, he69, hk1, he70, hk2, he67]; exact congrArg nI (by omega))) ?_
  refine Bod.ic 1 (by decide) dc_335_115 ?_
  refine Bod.icT dc_335_116 rfl (k2_eq_T (k_eq e67 1 rfl rfl (by omega))) ?_
  refine Bod.go dc_335_124 rfl ?_
  refine Bod.get dc_335_125 fr_335_135 (mk_61 _) rfl ?_
  refine Bod.go dc_335_128 rfl ?_
  refine Bod.get dc_335_129 fr_335_190 (mk_61 _) rfl ?_
  refine Bod.eqI (nI k2) (by first | (simp (disch := omega) only [rI, rIe, rA, rIA, rLA, rJA, rVI, rQI, rVA, rQA, upd_at,  rAI, rLI, rJI, nI_add, pk_sub, kc_0, kc_1, kc_2, kc_3, kc_4, kc_5, reduceIte, Nat.reduceEqDiff, Nat.add_zero, rI_hold, rI_hold, rL_hold, hk, he69, hk1, he70, hk2, he67]; done) | (simp (disch := omega) only [rI, rIe, rA, rIA, rLA, rJA, rVI, rQI, rVA, rQA, upd_at,  rAI, rLI, rJI, nI_add, pk_sub, kc_0, kc_1, kc_2, kc_3, kc_4, kc_5, reduceIte, Nat.reduceEqDiff, Nat.add_zero, rI_hold, rI_hold, rL_hold, hk, he69, hk1, he70, hk2, he67]; exact congrArg nI (by omega))) ?_
  refine Bod.ialdN k2 rfl (by omega) (by omega) dc_335_132 (mk_68 _) ?_
  refine Bod.eqI (nI e68) (by first | (simp (disch := omega) only [rI, rIe, rA, rIA, rLA, rJA, rVI, rQI, rVA, rQA, upd_at,  rAI, rLI, rJI, nI_add, pk_sub, kc_0, kc_1, kc_2, kc_3, kc_4, kc_5, reduceIte, Nat.reduceEqDiff, Nat.add_zero, rI_hold, rI_hold, rL_hold, hk, he69, hk1, he70, hk2, he67, he68]; done) | (simp (disch := omega) only [rI, rIe, rA, rIA, rLA, rJA, rVI, rQI, rVA, rQA, upd_at,  rAI, rLI, rJI, nI_add, pk_sub, kc_0, kc_1, kc_2, kc_3, kc_4, kc_5, reduceIte, Nat.reduceEqDiff, Nat.add_zero, rI_hold, rI_hold, rL_hold, hk, he69, hk1, he70, hk2, he67, he68]; exact congrArg nI (by omega))) ?_
  refine Bod.istn dc_335_133 (by rw [ml_335]; exact Nat.le_of_ble_eq_true rfl) ?_
  refine Bod.go dc_335_134 rfl ?_
  refine Bod.go dc_335_135 rfl ?_
  refine Bod.get dc_335_136 fr_335_190 (mk_61 _) rfl ?_
  refine Bod.eqI (nI k2) (by first | (simp (disch := omega) only [rI, rIe, rA, rIA, rLA, rJA, rVI, rQI, rVA, rQA, upd_at,  rAI, rLI, rJI, nI_add, pk_sub, kc_0, kc_1, kc_2, kc_3, kc_4, kc_5, reduceIte, Nat.reduceEqDiff, Nat.add_zero, rI_hold, rI_hold, rL_hold, hk, he69, hk1, he70, hk2, he67, he68]; done) | (simp (disch := omega) only [rI, rIe, rA, rIA, rLA, rJA, rVI, rQI, rVA, rQA, upd_at,  rAI, rLI, rJI, nI_add, pk_sub, kc_0, kc_1, kc_2, kc_3, kc_4, kc_5, reduceIte, Nat.reduceEqDiff, Nat.add_zero, rI_hold, rI_hold, rL_hold, hk, he69, hk1, he70, hk2, he67, he68]; exact congrArg nI (by omega))) ?_
  refine Bod.ic 1 (by decide) dc_335_139 ?_
  refine Bod.addN (k2 + 1) (by omega) dc_335_140 ?_
  refine Bod.put dc_335_141 fr_335_190 (mk_61 _) (Nat.le_of_ble_eq_true rfl) pf_14_15 (st_6115 _ _) (mu_I _ _ _) ?_
  refine Bod.go dc_335_144 rfl ?_
  refine Bod.bip 61 (by decide) dc_335_145 ?_
  refine Bod.virt (r := []) dc_335_147 kr_335_270 ⟨Or.inl rfl, ow_323, cl_14⟩ (by rw [np_323]; rfl) (by rw [np_323]; rfl) (ob_of (mk_61 _)) (Nat.le_of_ble_eq_true rfl) (c4  ) ?_
  show Bod _ _ _ _ [_] _ _ _
  refine Bod.ifF dc_335_150 rfl (k1_eq_F (k_ne 1 0 rfl rfl (by omega) (by omega) (by omega))) ?_
  refine Bod.go dc_335_153 rfl ?_
  refine Bod.ic 0 (by decide) dc_335_154 ?_
  refine Bod.virt (r := []) dc_335_155 kr_335_302 ⟨Or.inl rfl, ow_306, cl_14⟩ (by rw [np_306]; rfl) (by rw [np_306]; rfl) (ob_of (mk_61 _)) (Nat.le_of_ble_eq_true rfl) (c5  ) ?_
  show Bod _ _ _ _ [_] _ _ _
  refine Bod.ifF dc_335_158 rfl (k1_eq_F (k_ne 1 0 rfl rfl (by omega) (by omega) (by omega))) ?_
  refine Bod.go dc_335_161 rfl ?_
  refine Bod.virt (r := []) dc_335_162 kr_335_273 ⟨Or.inl rfl, ow_332, cl_14⟩ (by rw [np_332]; rfl) (by rw [np_332]; rfl) (ob_of (mk_61 _)) (Nat.le_of_ble_eq_true rfl) (c6  ) ?_
  show Bod _ _ _ _ [_] _ _ _
  refine Bod.ifT dc_335_165 rfl (k1_ne_T (k_ne 1 0 rfl rfl (by omega) (by omega) (by omega))) ?_
  refine Bod.go dc_335_170 rfl ?_
  refine Bod.go dc_335_171 rfl ?_
  refine Bod.virt (r := []) dc_335_172 kr_335_388 ⟨Or.inl rfl, ow_341, cl_14⟩ (by rw [np_341]; rfl) (by rw [np_341]; rfl) (ob_of (mk_61 _)) (Nat.le_of_ble_eq_true rfl) (c7  ) ?_
  show Bod _ _ _ _ [] _ _ _
  refine Bod.ic 1 (by decide) dc_335_175 ?_
  exact Bod.retZ dc_335_176 rt_335 (Or.inr rfl)
theorem sSim_8 {d : Nat} {S : cS} {k : Nat} {e69 : Nat} {S1 : cS} {k1 : Nat} {e70 : Nat} {S2 : cS} {S3 : cS} {k2 : Nat} {e67 : Nat} {e68 : Nat} {S4 : cS} {S5 : cS} {S6 : cS} (hk : sI S 6115 = nI k) (mk : k < 5990) (he69 : sA S 69 k = nI e69) (me69 : e69 < 2 ^ 20) (c1 : Ans (d + 8) 302 [.ref 61, .int (nI 0), .int (nI e69)] S none S1) (hk1 : sI S1 6115 = nI k1) (mk1 : k1 < 5990) (he70 : sA S1 70 k1 = nI e70) (me70 : e70 < 2 ^ 20) (c2 : Ans (d + 8) 309 [.ref 61, .int (nI 11)] S1 (some (.int (nI 0))) S2) (c3 : Ans (d + 8) 309 [.ref 61, .int (nI 6)] S2 (some (.int (nI 0))) S3) (hk2 : sI S3 6115 = nI k2) (mk2 : k2 < 5990) (he67 : sA S3 67 k2 = nI e67) (me67 : e67 < 2 ^ 20) (b1 : e67 = 1) (he68 : sA S3 68 k2 = nI e68) (me68 : e68 < 2 ^ 20) (c4 : Ans (d + 8) 323 [.ref 61, .int (nI 61)] (wI 6115 (nI (k2 + 1)) S3) (some (.int (nI 1))) S4) (c5 : Ans (d + 8) 306 [.ref 61, .int (nI 0)] S4 (some (.int (nI 1))) S5) (c6 : Ans (d + 8) 332 [.ref 61] S5 (some (.int (nI 0))) S6) : Bod (d + 8) 335 0 [(0, .ref 61)] [] S (some (.int 0)) (S6) := by
  refine Bod.go dc_335_0 rfl ?_
  refine Bod.ic 0 (by decide) dc_335_1 ?_
  refine Bod.go dc_335_2 rfl ?_
  refine Bod.get dc_335_3 fr_335_138 (mk_61 _) rfl ?_
  refine Bod.go dc_335_6 rfl ?_
  refine Bod.get dc_335_7 fr_335_190 (mk_61 _) rfl ?_
  refine Bod.eqI (nI k) (by first | assumption | rfl | exact congrArg nI (by omega) | (simp (disch := omega) only [rI, rIe, rA, rIA, rLA, rJA, rVI, rQI, rVA, rQA, upd_at,  rAI, rLI, rJI, nI_add, pk_sub, kc_0, kc_1, kc_2, kc_3, kc_4, kc_5, reduceIte, Nat.reduceEqDiff, Nat.add_zero, rI_hold, rI_hold, rL_hold, hk]; done)) ?_
  refine Bod.ialdN k rfl (by omega) (by omega) dc_335_10 (mk_69 _) ?_
  refine Bod.eqI (nI e69) (by first | assumption | rfl | exact congrArg nI (by omega) | (simp (disch := omega) only [rI, rIe, rA, rIA, rLA, rJA, rVI, rQI, rVA, rQA, upd_at,  rAI, rLI, rJI, nI_add, pk_sub, kc_0, kc_1, kc_2, kc_3, kc_4, kc_5, reduceIte, Nat.reduceEqDiff, Nat.add_zero, rI_hold, rI_hold, rL_hold, hk, he69]; done)) ?_
  refine Bod.virt (r := []) dc_335_11 kr_335_216 ⟨Or.inl rfl, ow_302, cl_14⟩ (by rw [np_302]; rfl) (by rw [np_302]; rfl) (ob_of (mk_61 _)) (Nat.le_of_ble_eq_true rfl) (c1  ) ?_
  show Bod _ _ _ _ [] _ _ _
  refine Bod.go dc_335_14 rfl ?_
  refine Bod.get dc_335_15 fr_335_141 (mk_61 _) rfl ?_
  refine Bod.go dc_335_18 rfl ?_
  refine Bod.get dc_335_19 fr_335_190 (mk_61 _) rfl ?_
  refine Bod.eqI (nI k1) (by first | (simp (disch := omega) only [rI, rIe, rA, rIA, rLA, rJA, rVI, rQI, rVA, rQA, upd_at,  rAI, rLI, rJI, nI_add, pk_sub, kc_0, kc_1, kc_2, kc_3, kc_4, kc_5, reduceIte, Nat.reduceEqDiff, Nat.add_zero, rI_hold, rI_hold, rL_hold, hk, he69, hk1]; done) | (simp (disch := omega) only [rI, rIe, rA, rIA, rLA, rJA, rVI, rQI, rVA, rQA, upd_at,  rAI, rLI, rJI, nI_add, pk_sub, kc_0, kc_1, kc_2, kc_3, kc_4, kc_5, reduceIte, Nat.reduceEqDiff, Nat.add_zero, rI_hold, rI_hold, rL_hold, hk, he69, hk1]; exact congrArg nI (by omega))) ?_
  refine Bod.ialdN k1 rfl (by omega) (by omega) dc_335_22 (mk_70 _) ?_
  refine Bod.eqI (nI e70) (by first | (simp (disch := omega) only [rI, rIe, rA, rIA, rLA, rJA, rVI, rQI, rVA, rQA, upd_at,  rAI, rLI, rJI, nI_add, pk_sub, kc_0, kc_1, kc_2, kc_3, kc_4, kc_5, reduceIte, Nat.reduceEqDiff, Nat.add_zero, rI_hold, rI_hold, rL_hold, hk, he69, hk1, he70]; done) | (simp (disch := omega) only [rI, rIe, rA, rIA, rLA, rJA, rVI, rQI, rVA, rQA, upd_at,  rAI, rLI, rJI, nI_add, pk_sub, kc_0, kc_1, kc_2, kc_3, kc_4, kc_5, reduceIte, Nat.reduceEqDiff, Nat.add_zero, rI_hold, rI_hold, rL_hold, hk, he69, hk1, he70]; exact congrArg nI (by omega))) ?_
  refine Bod.istn dc_335_23 (by rw [ml_335]; exact Nat.le_of_ble_eq_true rfl) ?_
  refine Bod.go dc_335_24 rfl ?_
  refine Bod.bip 11 (by decide) dc_335_25 ?_
  refine Bod.virt (r := []) dc_335_27 kr_335_312 ⟨Or.inl rfl, ow_309, cl_14⟩ (by rw [np_309]; rfl) (by rw [np_309]; rfl) (ob_of (mk_61 _)) (Nat.le_of_ble_eq_true rfl) (c2  ) ?_
  show Bod _ _ _ _ [_] _ _ _
  refine Bod.ifT dc_335_30 rfl (k1_eq_T (k_eq 0 0 rfl rfl (by omega))) ?_
  refine Bod.go dc_335_48 rfl ?_
  refine Bod.bip 6 (by decide) dc_335_49 ?_
  refine Bod.virt (r := []) dc_335_51 kr_335_312 ⟨Or.inl rfl, ow_309, cl_14⟩ (by rw [np_309]; rfl) (by rw [np_309]; rfl) (ob_of (mk_61 _)) (Nat.le_of_ble_eq_true rfl) (c3  ) ?_
  show Bod _ _ _ _ [_] _ _ _
  refine Bod.ifT dc_335_54 rfl (k1_eq_T (k_eq 0 0 rfl rfl (by omega))) ?_
  refine Bod.go dc_335_106 rfl ?_
  refine Bod.get dc_335_107 fr_335_129 (mk_61 _) rfl ?_
  refine Bod.go dc_335_110 rfl ?_
  refine Bod.get dc_335_111 fr_335_190 (mk_61 _) rfl ?_
  refine Bod.eqI (nI k2) (by first | (simp (disch := omega) only [rI, rIe, rA, rIA, rLA, rJA, rVI, rQI, rVA, rQA, upd_at,  rAI, rLI, rJI, nI_add, pk_sub, kc_0, kc_1, kc_2, kc_3, kc_4, kc_5, reduceIte, Nat.reduceEqDiff, Nat.add_zero, rI_hold, rI_hold, rL_hold, hk, he69, hk1, he70, hk2]; done) | (simp (disch := omega) only [rI, rIe, rA, rIA, rLA, rJA, rVI, rQI, rVA, rQA, upd_at,  rAI, rLI, rJI, nI_add, pk_sub, kc_0, kc_1, kc_2, kc_3, kc_4, kc_5, reduceIte, Nat.reduceEqDiff, Nat.add_zero, rI_hold, rI_hold, rL_hold, hk, he69, hk1, he70, hk2]; exact congrArg nI (by omega))) ?_
  refine Bod.ialdN k2 rfl (by omega) (by omega) dc_335_114 (mk_67 _) ?_
  refine Bod.eqI (nI e67) (by first | (simp (disch := omega) only [rI, rIe, rA, rIA, rLA, rJA, rVI, rQI, rVA, rQA, upd_at,  rAI, rLI, rJI, nI_add, pk_sub, kc_0, kc_1, kc_2, kc_3, kc_4, kc_5, reduceIte, Nat.reduceEqDiff, Nat.add_zero, rI_hold, rI_hold, rL_hold, hk, he69, hk1, he70, hk2, he67]; done) | (simp (disch := omega) only [rI, rIe, rA, rIA, rLA, rJA, rVI, rQI, rVA, rQA, upd_at,  rAI, rLI, rJI, nI_add, pk_sub, kc_0, kc_1, kc_2, kc_3, kc_4, kc_5, reduceIte, Nat.reduceEqDiff, Nat.add_zero, rI_hold, rI_hold, rL_hold, hk, he69, hk1, he70, hk2, he67]; exact congrArg nI (by omega))) ?_
  refine Bod.ic 1 (by decide) dc_335_115 ?_
  refine Bod.icT dc_335_116 rfl (k2_eq_T (k_eq e67 1 rfl rfl (by omega))) ?_
  refine Bod.go dc_335_124 rfl ?_
  refine Bod.get dc_335_125 fr_335_135 (mk_61 _) rfl ?_
  refine Bod.go dc_335_128 rfl ?_
  refine Bod.get dc_335_129 fr_335_190 (mk_61 _) rfl ?_
  refine Bod.eqI (nI k2) (by first | (simp (disch := omega) only [rI, rIe, rA, rIA, rLA, rJA, rVI, rQI, rVA, rQA, upd_at,  rAI, rLI, rJI, nI_add, pk_sub, kc_0, kc_1, kc_2, kc_3, kc_4, kc_5, reduceIte, Nat.reduceEqDiff, Nat.add_zero, rI_hold, rI_hold, rL_hold, hk, he69, hk1, he70, hk2, he67]; done) | (simp (disch := omega) only [rI, rIe, rA, rIA, rLA, rJA, rVI, rQI, rVA, rQA, upd_at,  rAI, rLI, rJI, nI_add, pk_sub, kc_0, kc_1, kc_2, kc_3, kc_4, kc_5, reduceIte, Nat.reduceEqDiff, Nat.add_zero, rI_hold, rI_hold, rL_hold, hk, he69, hk1, he70, hk2, he67]; exact congrArg nI (by omega))) ?_
  refine Bod.ialdN k2 rfl (by omega) (by omega) dc_335_132 (mk_68 _) ?_
  refine Bod.eqI (nI e68) (by first | (simp (disch := omega) only [rI, rIe, rA, rIA, rLA, rJA, rVI, rQI, rVA, rQA, upd_at,  rAI, rLI, rJI, nI_add, pk_sub, kc_0, kc_1, kc_2, kc_3, kc_4, kc_5, reduceIte, Nat.reduceEqDiff, Nat.add_zero, rI_hold, rI_hold, rL_hold, hk, he69, hk1, he70, hk2, he67, he68]; done) | (simp (disch := omega) only [rI, rIe, rA, rIA, rLA, rJA, rVI, rQI, rVA, rQA, upd_at,  rAI, rLI, rJI, nI_add, pk_sub, kc_0, kc_1, kc_2, kc_3, kc_4, kc_5, reduceIte, Nat.reduceEqDiff, Nat.add_zero, rI_hold, rI_hold, rL_hold, hk, he69, hk1, he70, hk2, he67, he68]; exact congrArg nI (by omega))) ?_
  refine Bod.istn dc_335_133 (by rw [ml_335]; exact Nat.le_of_ble_eq_true rfl) ?_
  refine Bod.go dc_335_134 rfl ?_
  refine Bod.go dc_335_135 rfl ?_
  refine Bod.get dc_335_136 fr_335_190 (mk_61 _) rfl ?_
  refine Bod.eqI (nI k2) (by first | (simp (disch := omega) only [rI, rIe, rA, rIA, rLA, rJA, rVI, rQI, rVA, rQA, upd_at,  rAI, rLI, rJI, nI_add, pk_sub, kc_0, kc_1, kc_2, kc_3, kc_4, kc_5, reduceIte, Nat.reduceEqDiff, Nat.add_zero, rI_hold, rI_hold, rL_hold, hk, he69, hk1, he70, hk2, he67, he68]; done) | (simp (disch := omega) only [rI, rIe, rA, rIA, rLA, rJA, rVI, rQI, rVA, rQA, upd_at,  rAI, rLI, rJI, nI_add, pk_sub, kc_0, kc_1, kc_2, kc_3, kc_4, kc_5, reduceIte, Nat.reduceEqDiff, Nat.add_zero, rI_hold, rI_hold, rL_hold, hk, he69, hk1, he70, hk2, he67, he68]; exact congrArg nI (by omega))) ?_
  refine Bod.ic 1 (by decide) dc_335_139 ?_
  refine Bod.addN (k2 + 1) (by omega) dc_335_140 ?_
  refine Bod.put dc_335_141 fr_335_190 (mk_61 _) (Nat.le_of_ble_eq_true rfl) pf_14_15 (st_6115 _ _) (mu_I _ _ _) ?_
  refine Bod.go dc_335_144 rfl ?_
  refine Bod.bip 61 (by decide) dc_335_145 ?_
  refine Bod.virt (r := []) dc_335_147 kr_335_270 ⟨Or.inl rfl, ow_323, cl_14⟩ (by rw [np_323]; rfl) (by rw [np_323]; rfl) (ob_of (mk_61 _)) (Nat.le_of_ble_eq_true rfl) (c4  ) ?_
  show Bod _ _ _ _ [_] _ _ _
  refine Bod.ifF dc_335_150 rfl (k1_eq_F (k_ne 1 0 rfl rfl (by omega) (by omega) (by omega))) ?_
  refine Bod.go dc_335_153 rfl ?_
  refine Bod.ic 0 (by decide) dc_335_154 ?_
  refine Bod.virt (r := []) dc_335_155 kr_335_302 ⟨Or.inl rfl, ow_306, cl_14⟩ (by rw [np_306]; rfl) (by rw [np_306]; rfl) (ob_of (mk_61 _)) (Nat.le_of_ble_eq_true rfl) (c5  ) ?_
  show Bod _ _ _ _ [_] _ _ _
  refine Bod.ifF dc_335_158 rfl (k1_eq_F (k_ne 1 0 rfl rfl (by omega) (by omega) (by omega))) ?_
  refine Bod.go dc_335_161 rfl ?_
  refine Bod.virt (r := []) dc_335_162 kr_335_273 ⟨Or.inl rfl, ow_332, cl_14⟩ (by rw [np_332]; rfl) (by rw [np_332]; rfl) (ob_of (mk_61 _)) (Nat.le_of_ble_eq_true rfl) (c6  ) ?_
  show Bod _ _ _ _ [_] _ _ _
  refine Bod.ifF dc_335_165 rfl (k1_ne_F (k_eq 0 0 rfl rfl (by omega))) ?_
  refine Bod.ic 0 (by decide) dc_335_168 ?_
  exact Bod.retZ dc_335_169 rt_335 (Or.inl rfl)
theorem sSim_9 {d : Nat} {S : cS} {k : Nat} {e69 : Nat} {S1 : cS} {k1 : Nat} {e70 : Nat} {S2 : cS} {S3 : cS} {k2 : Nat} {e67 : Nat} {e68 : Nat} {S4 : cS} {S5 : cS} (hk : sI S 6115 = nI k) (mk : k < 5990) (he69 : sA S 69 k = nI e69) (me69 : e69 < 2 ^ 20) (c1 : Ans (d + 8) 302 [.ref 61, .int (nI 0), .int (nI e69)] S none S1) (hk1 : sI S1 6115 = nI k1) (mk1 : k1 < 5990) (he70 : sA S1 70 k1 = nI e70) (me70 : e70 < 2 ^ 20) (c2 : Ans (d + 8) 309 [.ref 61, .int (nI 11)] S1 (some (.int (nI 0))) S2) (c3 : Ans (d + 8) 309 [.ref 61, .int (nI 6)] S2 (some (.int (nI 0))) S3) (hk2 : sI S3 6115 = nI k2) (mk2 : k2 < 5990) (he67 : sA S3 67 k2 = nI e67) (me67 : e67 < 2 ^ 20) (b1 : e67 = 1) (he68 : sA S3 68 k2 = nI e68) (me68 : e68 < 2 ^ 20) (c4 : Ans (d + 8) 323 [.ref 61, .int (nI 61)] (wI 6115 (nI (k2 + 1)) S3) (some (.int (nI 1))) S4) (c5 : Ans (d + 8) 306 [.ref 61, .int (nI 0)] S4 (some (.int (nI 0))) S5) : Bod (d + 8) 335 0 [(0, .ref 61)] [] S (some (.int 0)) (S5) := by
  refine Bod.go dc_335_0 rfl ?_
  refine Bod.ic 0 (by decide) dc_335_1 ?_
  refine Bod.go dc_335_2 rfl ?_
  refine Bod.get dc_335_3 fr_335_138 (mk_61 _) rfl ?_
  refine Bod.go dc_335_6 rfl ?_
  refine Bod.get dc_335_7 fr_335_190 (mk_61 _) rfl ?_
  refine Bod.eqI (nI k) (by first | assumption | rfl | exact congrArg nI (by omega) | (simp (disch := omega) only [rI, rIe, rA, rIA, rLA, rJA, rVI, rQI, rVA, rQA, upd_at,  rAI, rLI, rJI, nI_add, pk_sub, kc_0, kc_1, kc_2, kc_3, kc_4, kc_5, reduceIte, Nat.reduceEqDiff, Nat.add_zero, rI_hold, rI_hold, rL_hold, hk]; done)) ?_
  refine Bod.ialdN k rfl (by omega) (by omega) dc_335_10 (mk_69 _) ?_
  refine Bod.eqI (nI e69) (by first | assumption | rfl | exact congrArg nI (by omega) | (simp (disch := omega) only [rI, rIe, rA, rIA, rLA, rJA, rVI, rQI, rVA, rQA, upd_at,  rAI, rLI, rJI, nI_add, pk_sub, kc_0, kc_1, kc_2, kc_3, kc_4, kc_5, reduceIte, Nat.reduceEqDiff, Nat.add_zero, rI_hold, rI_hold, rL_hold, hk, he69]; done)) ?_
  refine Bod.virt (r := []) dc_335_11 kr_335_216 ⟨Or.inl rfl, ow_302, cl_14⟩ (by rw [np_302]; rfl) (by rw [np_302]; rfl) (ob_of (mk_61 _)) (Nat.le_of_ble_eq_true rfl) (c1  ) ?_
  show Bod _ _ _ _ [] _ _ _
  refine Bod.go dc_335_14 rfl ?_
  refine Bod.get dc_335_15 fr_335_141 (mk_61 _) rfl ?_
  refine Bod.go dc_335_18 rfl ?_
  refine Bod.get dc_335_19 fr_335_190 (mk_61 _) rfl ?_
  refine Bod.eqI (nI k1) (by first | (simp (disch := omega) only [rI, rIe, rA, rIA, rLA, rJA, rVI, rQI, rVA, rQA, upd_at,  rAI, rLI, rJI, nI_add, pk_sub, kc_0, kc_1, kc_2, kc_3, kc_4, kc_5, reduceIte, Nat.reduceEqDiff, Nat.add_zero, rI_hold, rI_hold, rL_hold, hk, he69, hk1]; done) | (simp (disch := omega) only [rI, rIe, rA, rIA, rLA, rJA, rVI, rQI, rVA, rQA, upd_at,  rAI, rLI, rJI, nI_add, pk_sub, kc_0, kc_1, kc_2, kc_3, kc_4, kc_5, reduceIte, Nat.reduceEqDiff, Nat.add_zero, rI_hold, rI_hold, rL_hold, hk, he69, hk1]; exact congrArg nI (by omega))) ?_
  refine Bod.ialdN k1 rfl (by omega) (by omega) dc_335_22 (mk_70 _) ?_
  refine Bod.eqI (nI e70) (by first | (simp (disch := omega) only [rI, rIe, rA, rIA, rLA, rJA, rVI, rQI, rVA, rQA, upd_at,  rAI, rLI, rJI, nI_add, pk_sub, kc_0, kc_1, kc_2, kc_3, kc_4, kc_5, reduceIte, Nat.reduceEqDiff, Nat.add_zero, rI_hold, rI_hold, rL_hold, hk, he69, hk1, he70]; done) | (simp (disch := omega) only [rI, rIe, rA, rIA, rLA, rJA, rVI, rQI, rVA, rQA, upd_at,  rAI, rLI, rJI, nI_add, pk_sub, kc_0, kc_1, kc_2, kc_3, kc_4, kc_5, reduceIte, Nat.reduceEqDiff, Nat.add_zero, rI_hold, rI_hold, rL_hold, hk, he69, hk1, he70]; exact congrArg nI (by omega))) ?_
  refine Bod.istn dc_335_23 (by rw [ml_335]; exact Nat.le_of_ble_eq_true rfl) ?_
  refine Bod.go dc_335_24 rfl ?_
  refine Bod.bip 11 (by decide) dc_335_25 ?_
  refine Bod.virt (r := []) dc_335_27 kr_335_312 ⟨Or.inl rfl, ow_309, cl_14⟩ (by rw [np_309]; rfl) (by rw [np_309]; rfl) (ob_of (mk_61 _)) (Nat.le_of_ble_eq_true rfl) (c2  ) ?_
  show Bod _ _ _ _ [_] _ _ _
  refine Bod.ifT dc_335_30 rfl (k1_eq_T (k_eq 0 0 rfl rfl (by omega))) ?_
  refine Bod.go dc_335_48 rfl ?_
  refine Bod.bip 6 (by decide) dc_335_49 ?_
  refine Bod.virt (r := []) dc_335_51 kr_335_312 ⟨Or.inl rfl, ow_309, cl_14⟩ (by rw [np_309]; rfl) (by rw [np_309]; rfl) (ob_of (mk_61 _)) (Nat.le_of_ble_eq_true rfl) (c3  ) ?_
  show Bod _ _ _ _ [_] _ _ _
  refine Bod.ifT dc_335_54 rfl (k1_eq_T (k_eq 0 0 rfl rfl (by omega))) ?_
  refine Bod.go dc_335_106 rfl ?_
  refine Bod.get dc_335_107 fr_335_129 (mk_61 _) rfl ?_
  refine Bod.go dc_335_110 rfl ?_
  refine Bod.get dc_335_111 fr_335_190 (mk_61 _) rfl ?_
  refine Bod.eqI (nI k2) (by first | (simp (disch := omega) only [rI, rIe, rA, rIA, rLA, rJA, rVI, rQI, rVA, rQA, upd_at,  rAI, rLI, rJI, nI_add, pk_sub, kc_0, kc_1, kc_2, kc_3, kc_4, kc_5, reduceIte, Nat.reduceEqDiff, Nat.add_zero, rI_hold, rI_hold, rL_hold, hk, he69, hk1, he70, hk2]; done) | (simp (disch := omega) only [rI, rIe, rA, rIA, rLA, rJA, rVI, rQI, rVA, rQA, upd_at,  rAI, rLI, rJI, nI_add, pk_sub, kc_0, kc_1, kc_2, kc_3, kc_4, kc_5, reduceIte, Nat.reduceEqDiff, Nat.add_zero, rI_hold, rI_hold, rL_hold, hk, he69, hk1, he70, hk2]; exact congrArg nI (by omega))) ?_
  refine Bod.ialdN k2 rfl (by omega) (by omega) dc_335_114 (mk_67 _) ?_
  refine Bod.eqI (nI e67) (by first | (simp (disch := omega) only [rI, rIe, rA, rIA, rLA, rJA, rVI, rQI, rVA, rQA, upd_at,  rAI, rLI, rJI, nI_add, pk_sub, kc_0, kc_1, kc_2, kc_3, kc_4, kc_5, reduceIte, Nat.reduceEqDiff, Nat.add_zero, rI_hold, rI_hold, rL_hold, hk, he69, hk1, he70, hk2, he67]; done) | (simp (disch := omega) only [rI, rIe, rA, rIA, rLA, rJA, rVI, rQI, rVA, rQA, upd_at,  rAI, rLI, rJI, nI_add, pk_sub, kc_0, kc_1, kc_2, kc_3, kc_4, kc_5, reduceIte, Nat.reduceEqDiff, Nat.add_zero, rI_hold, rI_hold, rL_hold, hk, he69, hk1, he70, hk2, he67]; exact congrArg nI (by omega))) ?_
  refine Bod.ic 1 (by decide) dc_335_115 ?_
  refine Bod.icT dc_335_116 rfl (k2_eq_T (k_eq e67 1 rfl rfl (by omega))) ?_
  refine Bod.go dc_335_124 rfl ?_
  refine Bod.get dc_335_125 fr_335_135 (mk_61 _) rfl ?_
  refine Bod.go dc_335_128 rfl ?_
  refine Bod.get dc_335_129 fr_335_190 (mk_61 _) rfl ?_
  refine Bod.eqI (nI k2) (by first | (simp (disch := omega) only [rI, rIe, rA, rIA, rLA, rJA, rVI, rQI, rVA, rQA, upd_at,  rAI, rLI, rJI, nI_add, pk_sub, kc_0, kc_1, kc_2, kc_3, kc_4, kc_5, reduceIte, Nat.reduceEqDiff, Nat.add_zero, rI_hold, rI_hold, rL_hold, hk, he69, hk1, he70, hk2, he67]; done) | (simp (disch := omega) only [rI, rIe, rA, rIA, rLA, rJA, rVI, rQI, rVA, rQA, upd_at,  rAI, rLI, rJI, nI_add, pk_sub, kc_0, kc_1, kc_2, kc_3, kc_4, kc_5, reduceIte, Nat.reduceEqDiff, Nat.add_zero, rI_hold, rI_hold, rL_hold, hk, he69, hk1, he70, hk2, he67]; exact congrArg nI (by omega))) ?_
  refine Bod.ialdN k2 rfl (by omega) (by omega) dc_335_132 (mk_68 _) ?_
  refine Bod.eqI (nI e68) (by first | (simp (disch := omega) only [rI, rIe, rA, rIA, rLA, rJA, rVI, rQI, rVA, rQA, upd_at,  rAI, rLI, rJI, nI_add, pk_sub, kc_0, kc_1, kc_2, kc_3, kc_4, kc_5, reduceIte, Nat.reduceEqDiff, Nat.add_zero, rI_hold, rI_hold, rL_hold, hk, he69, hk1, he70, hk2, he67, he68]; done) | (simp (disch := omega) only [rI, rIe, rA, rIA, rLA, rJA, rVI, rQI, rVA, rQA, upd_at,  rAI, rLI, rJI, nI_add, pk_sub, kc_0, kc_1, kc_2, kc_3, kc_4, kc_5, reduceIte, Nat.reduceEqDiff, Nat.add_zero, rI_hold, rI_hold, rL_hold, hk, he69, hk1, he70, hk2, he67, he68]; exact congrArg nI (by omega))) ?_
  refine Bod.istn dc_335_133 (by rw [ml_335]; exact Nat.le_of_ble_eq_true rfl) ?_
  refine Bod.go dc_335_134 rfl ?_
  refine Bod.go dc_335_135 rfl ?_
  refine Bod.get dc_335_136 fr_335_190 (mk_61 _) rfl ?_
  refine Bod.eqI (nI k2) (by first | (simp (disch := omega) only [rI, rIe, rA, rIA, rLA, rJA, rVI, rQI, rVA, rQA, upd_at,  rAI, rLI, rJI, nI_add, pk_sub, kc_0, kc_1, kc_2, kc_3, kc_4, kc_5, reduceIte, Nat.reduceEqDiff, Nat.add_zero, rI_hold, rI_hold, rL_hold, hk, he69, hk1, he70, hk2, he67, he68]; done) | (simp (disch := omega) only [rI, rIe, rA, rIA, rLA, rJA, rVI, rQI, rVA, rQA, upd_at,  rAI, rLI, rJI, nI_add, pk_sub, kc_0, kc_1, kc_2, kc_3, kc_4, kc_5, reduceIte, Nat.reduceEqDiff, Nat.add_zero, rI_hold, rI_hold, rL_hold, hk, he69, hk1, he70, hk2, he67, he68]; exact congrArg nI (by omega))) ?_
  refine Bod.ic 1 (by decide) dc_335_139 ?_
  refine Bod.addN (k2 + 1) (by omega) dc_335_140 ?_
  refine Bod.put dc_335_141 fr_335_190 (mk_61 _) (Nat.le_of_ble_eq_true rfl) pf_14_15 (st_6115 _ _) (mu_I _ _ _) ?_
  refine Bod.go dc_335_144 rfl ?_
  refine Bod.bip 61 (by decide) dc_335_145 ?_
  refine Bod.virt (r := []) dc_335_147 kr_335_270 ⟨Or.inl rfl, ow_323, cl_14⟩ (by rw [np_323]; rfl) (by rw [np_323]; rfl) (ob_of (mk_61 _)) (Nat.le_of_ble_eq_true rfl) (c4  ) ?_
  show Bod _ _ _ _ [_] _ _ _
  refine Bod.ifF dc_335_150 rfl (k1_eq_F (k_ne 1 0 rfl rfl (by omega) (by omega) (by omega))) ?_
  refine Bod.go dc_335_153 rfl ?_
  refine Bod.ic 0 (by decide) dc_335_154 ?_
  refine Bod.virt (r := []) dc_335_155 kr_335_302 ⟨Or.inl rfl, ow_306, cl_14⟩ (by rw [np_306]; rfl) (by rw [np_306]; rfl) (ob_of (mk_61 _)) (Nat.le_of_ble_eq_true rfl) (c5  ) ?_
  show Bod _ _ _ _ [_] _ _ _
  refine Bod.ifT dc_335_158 rfl (k1_eq_T (k_eq 0 0 rfl rfl (by omega))) ?_
  refine Bod.ic 0 (by decide) dc_335_168 ?_
  exact Bod.retZ dc_335_169 rt_335 (Or.inl rfl)
theorem sSim_10 {d : Nat} {S : cS} {k : Nat} {e69 : Nat} {S1 : cS} {k1 : Nat} {e70 : Nat} {S2 : cS} {S3 : cS} {k2 : Nat} {e67 : Nat} {e68 : Nat} {S4 : cS} (hk : sI S 6115 = nI k) (mk : k < 5990) (he69 : sA S 69 k = nI e69) (me69 : e69 < 2 ^ 20) (c1 : Ans (d + 8) 302 [.ref 61, .int (nI 0), .int (nI e69)] S none S1) (hk1 : sI S1 6115 = nI k1) (mk1 : k1 < 5990) (he70 : sA S1 70 k1 = nI e70) (me70 : e70 < 2 ^ 20) (c2 : Ans (d + 8) 309 [.ref 61, .int (nI 11)] S1 (some (.int (nI 0))) S2) (c3 : Ans (d + 8) 309 [.ref 61, .int (nI 6)] S2 (some (.int (nI 0))) S3) (hk2 : sI S3 6115 = nI k2) (mk2 : k2 < 5990) (he67 : sA S3 67 k2 = nI e67) (me67 : e67 < 2 ^ 20) (b1 : e67 = 1) (he68 : sA S3 68 k2 = nI e68) (me68 : e68 < 2 ^ 20) (c4 : Ans (d + 8) 323 [.ref 61, .int (nI 61)] (wI 6115 (nI (k2 + 1)) S3) (some (.int (nI 0))) S4) : Bod (d + 8) 335 0 [(0, .ref 61)] [] S (some (.int 0)) (S4) := by
  refine Bod.go dc_335_0 rfl ?_
  refine Bod.ic 0 (by decide) dc_335_1 ?_
  refine Bod.go dc_335_2 rfl ?_
  refine Bod.get dc_335_3 fr_335_138 (mk_61 _) rfl ?_
  refine Bod.go dc_335_6 rfl ?_
  refine Bod.get dc_335_7 fr_335_190 (mk_61 _) rfl ?_
  refine Bod.eqI (nI k) (by first | assumption | rfl | exact congrArg nI (by omega) | (simp (disch := omega) only [rI, rIe, rA, rIA, rLA, rJA, rVI, rQI, rVA, rQA, upd_at,  rAI, rLI, rJI, nI_add, pk_sub, kc_0, kc_1, kc_2, kc_3, kc_4, kc_5, reduceIte, Nat.reduceEqDiff, Nat.add_zero, rI_hold, rI_hold, rL_hold, hk]; done)) ?_
  refine Bod.ialdN k rfl (by omega) (by omega) dc_335_10 (mk_69 _) ?_
  refine Bod.eqI (nI e69) (by first | assumption | rfl | exact congrArg nI (by omega) | (simp (disch := omega) only [rI, rIe, rA, rIA, rLA, rJA, rVI, rQI, rVA, rQA, upd_at,  rAI, rLI, rJI, nI_add, pk_sub, kc_0, kc_1, kc_2, kc_3, kc_4, kc_5, reduceIte, Nat.reduceEqDiff, Nat.add_zero, rI_hold, rI_hold, rL_hold, hk, he69]; done)) ?_
  refine Bod.virt (r := []) dc_335_11 kr_335_216 ⟨Or.inl rfl, ow_302, cl_14⟩ (by rw [np_302]; rfl) (by rw [np_302]; rfl) (ob_of (mk_61 _)) (Nat.le_of_ble_eq_true rfl) (c1  ) ?_
  show Bod _ _ _ _ [] _ _ _
  refine Bod.go dc_335_14 rfl ?_
  refine Bod.get dc_335_15 fr_335_141 (mk_61 _) rfl ?_
  refine Bod.go dc_335_18 rfl ?_
  refine Bod.get dc_335_19 fr_335_190 (mk_61 _) rfl ?_
  refine Bod.eqI (nI k1) (by first | (simp (disch := omega) only [rI, rIe, rA, rIA, rLA, rJA, rVI, rQI, rVA, rQA, upd_at,  rAI, rLI, rJI, nI_add, pk_sub, kc_0, kc_1, kc_2, kc_3, kc_4, kc_5, reduceIte, Nat.reduceEqDiff, Nat.add_zero, rI_hold, rI_hold, rL_hold, hk, he69, hk1]; done) | (simp (disch := omega) only [rI, rIe, rA, rIA, rLA, rJA, rVI, rQI, rVA, rQA, upd_at,  rAI, rLI, rJI, nI_add, pk_sub, kc_0, kc_1, kc_2, kc_3, kc_4, kc_5, reduceIte, Nat.reduceEqDiff, Nat.add_zero, rI_hold, rI_hold, rL_hold, hk, he69, hk1]; exact congrArg nI (by omega))) ?_
  refine Bod.ialdN k1 rfl (by omega) (by omega) dc_335_22 (mk_70 _) ?_
  refine Bod.eqI (nI e70) (by first | (simp (disch := omega) only [rI, rIe, rA, rIA, rLA, rJA, rVI, rQI, rVA, rQA, upd_at,  rAI, rLI, rJI, nI_add, pk_sub, kc_0, kc_1, kc_2, kc_3, kc_4, kc_5, reduceIte, Nat.reduceEqDiff, Nat.add_zero, rI_hold, rI_hold, rL_hold, hk, he69, hk1, he70]; done) | (simp (disch := omega) only [rI, rIe, rA, rIA, rLA, rJA, rVI, rQI, rVA, rQA, upd_at,  rAI, rLI, rJI, nI_add, pk_sub, kc_0, kc_1, kc_2, kc_3, kc_4, kc_5, reduceIte, Nat.reduceEqDiff, Nat.add_zero, rI_hold, rI_hold, rL_hold, hk, he69, hk1, he70]; exact congrArg nI (by omega))) ?_
  refine Bod.istn dc_335_23 (by rw [ml_335]; exact Nat.le_of_ble_eq_true rfl) ?_
  refine Bod.go dc_335_24 rfl ?_
  refine Bod.bip 11 (by decide) dc_335_25 ?_
  refine Bod.virt (r := []) dc_335_27 kr_335_312 ⟨Or.inl rfl, ow_309, cl_14⟩ (by rw [np_309]; rfl) (by rw [np_309]; rfl) (ob_of (mk_61 _)) (Nat.le_of_ble_eq_true rfl) (c2  ) ?_
  show Bod _ _ _ _ [_] _ _ _
  refine Bod.ifT dc_335_30 rfl (k1_eq_T (k_eq 0 0 rfl rfl (by omega))) ?_
  refine Bod.go dc_335_48 rfl ?_
  refine Bod.bip 6 (by decide) dc_335_49 ?_
  refine Bod.virt (r := []) dc_335_51 kr_335_312 ⟨Or.inl rfl, ow_309, cl_14⟩ (by rw [np_309]; rfl) (by rw [np_309]; rfl) (ob_of (mk_61 _)) (Nat.le_of_ble_eq_true rfl) (c3  ) ?_
  show Bod _ _ _ _ [_] _ _ _
  refine Bod.ifT dc_335_54 rfl (k1_eq_T (k_eq 0 0 rfl rfl (by omega))) ?_
  refine Bod.go dc_335_106 rfl ?_
  refine Bod.get dc_335_107 fr_335_129 (mk_61 _) rfl ?_
  refine Bod.go dc_335_110 rfl ?_
  refine Bod.get dc_335_111 fr_335_190 (mk_61 _) rfl ?_
  refine Bod.eqI (nI k2) (by first | (simp (disch := omega) only [rI, rIe, rA, rIA, rLA, rJA, rVI, rQI, rVA, rQA, upd_at,  rAI, rLI, rJI, nI_add, pk_sub, kc_0, kc_1, kc_2, kc_3, kc_4, kc_5, reduceIte, Nat.reduceEqDiff, Nat.add_zero, rI_hold, rI_hold, rL_hold, hk, he69, hk1, he70, hk2]; done) | (simp (disch := omega) only [rI, rIe, rA, rIA, rLA, rJA, rVI, rQI, rVA, rQA, upd_at,  rAI, rLI, rJI, nI_add, pk_sub, kc_0, kc_1, kc_2, kc_3, kc_4, kc_5, reduceIte, Nat.reduceEqDiff, Nat.add_zero, rI_hold, rI_hold, rL_hold, hk, he69, hk1, he70, hk2]; exact congrArg nI (by omega))) ?_
  refine Bod.ialdN k2 rfl (by omega) (by omega) dc_335_114 (mk_67 _) ?_
  refine Bod.eqI (nI e67) (by first | (simp (disch := omega) only [rI, rIe, rA, rIA, rLA, rJA, rVI, rQI, rVA, rQA, upd_at,  rAI, rLI, rJI, nI_add, pk_sub, kc_0, kc_1, kc_2, kc_3, kc_4, kc_5, reduceIte, Nat.reduceEqDiff, Nat.add_zero, rI_hold, rI_hold, rL_hold, hk, he69, hk1, he70, hk2, he67]; done) | (simp (disch := omega) only [rI, rIe, rA, rIA, rLA, rJA, rVI, rQI, rVA, rQA, upd_at,  rAI, rLI, rJI, nI_add, pk_sub, kc_0, kc_1, kc_2, kc_3, kc_4, kc_5, reduceIte, Nat.reduceEqDiff, Nat.add_zero, rI_hold, rI_hold, rL_hold, hk, he69, hk1, he70, hk2, he67]; exact congrArg nI (by omega))) ?_
  refine Bod.ic 1 (by decide) dc_335_115 ?_
  refine Bod.icT dc_335_116 rfl (k2_eq_T (k_eq e67 1 rfl rfl (by omega))) ?_
  refine Bod.go dc_335_124 rfl ?_
  refine Bod.get dc_335_125 fr_335_135 (mk_61 _) rfl ?_
  refine Bod.go dc_335_128 rfl ?_
  refine Bod.get dc_335_129 fr_335_190 (mk_61 _) rfl ?_
  refine Bod.eqI (nI k2) (by first | (simp (disch := omega) only [rI, rIe, rA, rIA, rLA, rJA, rVI, rQI, rVA, rQA, upd_at,  rAI, rLI, rJI, nI_add, pk_sub, kc_0, kc_1, kc_2, kc_3, kc_4, kc_5, reduceIte, Nat.reduceEqDiff, Nat.add_zero, rI_hold, rI_hold, rL_hold, hk, he69, hk1, he70, hk2, he67]; done) | (simp (disch := omega) only [rI, rIe, rA, rIA, rLA, rJA, rVI, rQI, rVA, rQA, upd_at,  rAI, rLI, rJI, nI_add, pk_sub, kc_0, kc_1, kc_2, kc_3, kc_4, kc_5, reduceIte, Nat.reduceEqDiff, Nat.add_zero, rI_hold, rI_hold, rL_hold, hk, he69, hk1, he70, hk2, he67]; exact congrArg nI (by omega))) ?_
  refine Bod.ialdN k2 rfl (by omega) (by omega) dc_335_132 (mk_68 _) ?_
  refine Bod.eqI (nI e68) (by first | (simp (disch := omega) only [rI, rIe, rA, rIA, rLA, rJA, rVI, rQI, rVA, rQA, upd_at,  rAI, rLI, rJI, nI_add, pk_sub, kc_0, kc_1, kc_2, kc_3, kc_4, kc_5, reduceIte, Nat.reduceEqDiff, Nat.add_zero, rI_hold, rI_hold, rL_hold, hk, he69, hk1, he70, hk2, he67, he68]; done) | (simp (disch := omega) only [rI, rIe, rA, rIA, rLA, rJA, rVI, rQI, rVA, rQA, upd_at,  rAI, rLI, rJI, nI_add, pk_sub, kc_0, kc_1, kc_2, kc_3, kc_4, kc_5, reduceIte, Nat.reduceEqDiff, Nat.add_zero, rI_hold, rI_hold, rL_hold, hk, he69, hk1, he70, hk2, he67, he68]; exact congrArg nI (by omega))) ?_
  refine Bod.istn dc_335_133 (by rw [ml_335]; exact Nat.le_of_ble_eq_true rfl) ?_
  refine Bod.go dc_335_134 rfl ?_
  refine Bod.go dc_335_135 rfl ?_
  refine Bod.get dc_335_136 fr_335_190 (mk_61 _) rfl ?_
  refine Bod.eqI (nI k2) (by first | (simp (disch := omega) only [rI, rIe, rA, rIA, rLA, rJA, rVI, rQI, rVA, rQA, upd_at,  rAI, rLI, rJI, nI_add, pk_sub, kc_0, kc_1, kc_2, kc_3, kc_4, kc_5, reduceIte, Nat.reduceEqDiff, Nat.add_zero, rI_hold, rI_hold, rL_hold, hk, he69, hk1, he70, hk2, he67, he68]; done) | (simp (disch := omega) only [rI, rIe, rA, rIA, rLA, rJA, rVI, rQI, rVA, rQA, upd_at,  rAI, rLI, rJI, nI_add, pk_sub, kc_0, kc_1, kc_2, kc_3, kc_4, kc_5, reduceIte, Nat.reduceEqDiff, Nat.add_zero, rI_hold, rI_hold, rL_hold, hk, he69, hk1, he70, hk2, he67, he68]; exact congrArg nI (by omega))) ?_
  refine Bod.ic 1 (by decide) dc_335_139 ?_
  refine Bod.addN (k2 + 1) (by omega) dc_335_140 ?_
  refine Bod.put dc_335_141 fr_335_190 (mk_61 _) (Nat.le_of_ble_eq_true rfl) pf_14_15 (st_6115 _ _) (mu_I _ _ _) ?_
  refine Bod.go dc_335_144 rfl ?_
  refine Bod.bip 61 (by decide) dc_335_145 ?_
  refine Bod.virt (r := []) dc_335_147 kr_335_270 ⟨Or.inl rfl, ow_323, cl_14⟩ (by rw [np_323]; rfl) (by rw [np_323]; rfl) (ob_of (mk_61 _)) (Nat.le_of_ble_eq_true rfl) (c4  ) ?_
  show Bod _ _ _ _ [_] _ _ _
  refine Bod.ifT dc_335_150 rfl (k1_eq_T (k_eq 0 0 rfl rfl (by omega))) ?_
  refine Bod.ic 0 (by decide) dc_335_168 ?_
  exact Bod.retZ dc_335_169 rt_335 (Or.inl rfl)
theorem sSim_11 {d : Nat} {S : cS} {k : Nat} {e69 : Nat} {S1 : cS} {k1 : Nat} {e70 : Nat} {S2 : cS} {S3 : cS} {k2 : Nat} {e67 : Nat} {S4 : cS} (hk : sI S 6115 = nI k) (mk : k < 5990) (he69 : sA S 69 k = nI e69) (me69 : e69 < 2 ^ 20) (c1 : Ans (d + 8) 302 [.ref 61, .int (nI 0), .int (nI e69)] S none S1) (hk1 : sI S1 6115 = nI k1) (mk1 : k1 < 5990) (he70 : sA S1 70 k1 = nI e70) (me70 : e70 < 2 ^ 20) (c2 : Ans (d + 8) 309 [.ref 61, .int (nI 11)] S1 (some (.int (nI 0))) S2) (c3 : Ans (d + 8) 309 [.ref 61, .int (nI 6)] S2 (some (.int (nI 0))) S3) (hk2 : sI S3 6115 = nI k2) (mk2 : k2 < 5990) (he67 : sA S3 67 k2 = nI e67) (me67 : e67 < 2 ^ 20) (b1 : e67 ≠ 1) (c4 : Ans (d + 8) 299 [.ref 61] S3 (some (.int (nI 1))) S4) : Bod (d + 8) 335 0 [(0, .ref 61)] [] S (some (.int 1)) (S4) := by
  refine Bod.go dc_335_0 rfl ?_
  refine Bod.ic 0 (by decide) dc_335_1 ?_
  refine Bod.go dc_335_2 rfl ?_
  refine Bod.get dc_335_3 fr_335_138 (mk_61 _) rfl ?_
  refine Bod.go dc_335_6 rfl ?_
  refine Bod.get dc_335_7 fr_335_190 (mk_61 _) rfl ?_
  refine Bod.eqI (nI k) (by first | assumption | rfl | exact congrArg nI (by omega) | (simp (disch := omega) only [rI, rIe, rA, rIA, rLA, rJA, rVI, rQI, rVA, rQA, upd_at,  rAI, rLI, rJI, nI_add, pk_sub, kc_0, kc_1, kc_2, kc_3, kc_4, kc_5, reduceIte, Nat.reduceEqDiff, Nat.add_zero, rI_hold, rI_hold, rL_hold, hk]; done)) ?_
  refine Bod.ialdN k rfl (by omega) (by omega) dc_335_10 (mk_69 _) ?_
  refine Bod.eqI (nI e69) (by first | assumption | rfl | exact congrArg nI (by omega) | (simp (disch := omega) only [rI, rIe, rA, rIA, rLA, rJA, rVI, rQI, rVA, rQA, upd_at,  rAI, rLI, rJI, nI_add, pk_sub, kc_0, kc_1, kc_2, kc_3, kc_4, kc_5, reduceIte, Nat.reduceEqDiff, Nat.add_zero, rI_hold, rI_hold, rL_hold, hk, he69]; done)) ?_
  refine Bod.virt (r := []) dc_335_11 kr_335_216 ⟨Or.inl rfl, ow_302, cl_14⟩ (by rw [np_302]; rfl) (by rw [np_302]; rfl) (ob_of (mk_61 _)) (Nat.le_of_ble_eq_true rfl) (c1  ) ?_
  show Bod _ _ _ _ [] _ _ _
  refine Bod.go dc_335_14 rfl ?_
  refine Bod.get dc_335_15 fr_335_141 (mk_61 _) rfl ?_
  refine Bod.go dc_335_18 rfl ?_
  refine Bod.get dc_335_19 fr_335_190 (mk_61 _) rfl ?_
  refine Bod.eqI (nI k1) (by first | (simp (disch := omega) only [rI, rIe, rA, rIA, rLA, rJA, rVI, rQI, rVA, rQA, upd_at,  rAI, rLI, rJI, nI_add, pk_sub, kc_0, kc_1, kc_2, kc_3, kc_4, kc_5, reduceIte, Nat.reduceEqDiff, Nat.add_zero, rI_hold, rI_hold, rL_hold, hk, he69, hk1]; done) | (simp (disch := omega) only [rI, rIe, rA, rIA, rLA, rJA, rVI, rQI, rVA, rQA, upd_at,  rAI, rLI, rJI, nI_add, pk_sub, kc_0, kc_1, kc_2, kc_3, kc_4, kc_5, reduceIte, Nat.reduceEqDiff, Nat.add_zero, rI_hold, rI_hold, rL_hold, hk, he69, hk1]; exact congrArg nI (by omega))) ?_
  refine Bod.ialdN k1 rfl (by omega) (by omega) dc_335_22 (mk_70 _) ?_
  refine Bod.eqI (nI e70) (by first | (simp (disch := omega) only [rI, rIe, rA, rIA, rLA, rJA, rVI, rQI, rVA, rQA, upd_at,  rAI, rLI, rJI, nI_add, pk_sub, kc_0, kc_1, kc_2, kc_3, kc_4, kc_5, reduceIte, Nat.reduceEqDiff, Nat.add_zero, rI_hold, rI_hold, rL_hold, hk, he69, hk1, he70]; done) | (simp (disch := omega) only [rI, rIe, rA, rIA, rLA, rJA, rVI, rQI, rVA, rQA, upd_at,  rAI, rLI, rJI, nI_add, pk_sub, kc_0, kc_1, kc_2, kc_3, kc_4, kc_5, reduceIte, Nat.reduceEqDiff, Nat.add_zero, rI_hold, rI_hold, rL_hold, hk, he69, hk1, he70]; exact congrArg nI (by omega))) ?_
  refine Bod.istn dc_335_23 (by rw [ml_335]; exact Nat.le_of_ble_eq_true rfl) ?_
  refine Bod.go dc_335_24 rfl ?_
  refine Bod.bip 11 (by decide) dc_335_25 ?_
  refine Bod.virt (r := []) dc_335_27 kr_335_312 ⟨Or.inl rfl, ow_309, cl_14⟩ (by rw [np_309]; rfl) (by rw [np_309]; rfl) (ob_of (mk_61 _)) (Nat.le_of_ble_eq_true rfl) (c2  ) ?_
  show Bod _ _ _ _ [_] _ _ _
  refine Bod.ifT dc_335_30 rfl (k1_eq_T (k_eq 0 0 rfl rfl (by omega))) ?_
  refine Bod.go dc_335_48 rfl ?_
  refine Bod.bip 6 (by decide) dc_335_49 ?_
  refine Bod.virt (r := []) dc_335_51 kr_335_312 ⟨Or.inl rfl, ow_309, cl_14⟩ (by rw [np_309]; rfl) (by rw [np_309]; rfl) (ob_of (mk_61 _)) (Nat.le_of_ble_eq_true rfl) (c3  ) ?_
  show Bod _ _ _ _ [_] _ _ _
  refine Bod.ifT dc_335_54 rfl (k1_eq_T (k_eq 0 0 rfl rfl (by omega))) ?_
  refine Bod.go dc_335_106 rfl ?_
  refine Bod.get dc_335_107 fr_335_129 (mk_61 _) rfl ?_
  refine Bod.go dc_335_110 rfl ?_
  refine Bod.get dc_335_111 fr_335_190 (mk_61 _) rfl ?_
  refine Bod.eqI (nI k2) (by first | (simp (disch := omega) only [rI, rIe, rA, rIA, rLA, rJA, rVI, rQI, rVA, rQA, upd_at,  rAI, rLI, rJI, nI_add, pk_sub, kc_0, kc_1, kc_2, kc_3, kc_4, kc_5, reduceIte, Nat.reduceEqDiff, Nat.add_zero, rI_hold, rI_hold, rL_hold, hk, he69, hk1, he70, hk2]; done) | (simp (disch := omega) only [rI, rIe, rA, rIA, rLA, rJA, rVI, rQI, rVA, rQA, upd_at,  rAI, rLI, rJI, nI_add, pk_sub, kc_0, kc_1, kc_2, kc_3, kc_4, kc_5, reduceIte, Nat.reduceEqDiff, Nat.add_zero, rI_hold, rI_hold, rL_hold, hk, he69, hk1, he70, hk2]; exact congrArg nI (by omega))) ?_
  refine Bod.ialdN k2 rfl (by omega) (by omega) dc_335_114 (mk_67 _) ?_
  refine Bod.eqI (nI e67) (by first | (simp (disch := omega) only [rI, rIe, rA, rIA, rLA, rJA, rVI, rQI, rVA, rQA, upd_at,  rAI, rLI, rJI, nI_add, pk_sub, kc_0, kc_1, kc_2, kc_3, kc_4, kc_5, reduceIte, Nat.reduceEqDiff, Nat.add_zero, rI_hold, rI_hold, rL_hold, hk, he69, hk1, he70, hk2, he67]; done) | (simp (disch := omega) only [rI, rIe, rA, rIA, rLA, rJA, rVI, rQI, rVA, rQA, upd_at,  rAI, rLI, rJI, nI_add, pk_sub, kc_0, kc_1, kc_2, kc_3, kc_4, kc_5, reduceIte, Nat.reduceEqDiff, Nat.add_zero, rI_hold, rI_hold, rL_hold, hk, he69, hk1, he70, hk2, he67]; exact congrArg nI (by omega))) ?_
  refine Bod.ic 1 (by decide) dc_335_115 ?_
  refine Bod.icF dc_335_116 rfl (k2_eq_F (k_ne e67 1 rfl rfl (by omega) (by omega) (by omega))) ?_
  refine Bod.go dc_335_119 rfl ?_
  refine Bod.virt (r := []) dc_335_120 kr_335_202 ⟨Or.inl rfl, ow_299, cl_14⟩ (by rw [np_299]; rfl) (by rw [np_299]; rfl) (ob_of (mk_61 _)) (Nat.le_of_ble_eq_true rfl) (c4  ) ?_
  show Bod _ _ _ _ [_] _ _ _
  exact Bod.retZ dc_335_123 rt_335 (Or.inr rfl)
theorem sSim_12 {d : Nat} {S : cS} {k : Nat} {e69 : Nat} {S1 : cS} {k1 : Nat} {e70 : Nat} {S2 : cS} {S3 : cS} {k2 : Nat} {e67 : Nat} {S4 : cS} (hk : sI S 6115 = nI k) (mk : k < 5990) (he69 : sA S 69 k = nI e69) (me69 : e69 < 2 ^ 20) (c1 : Ans (d + 8) 302 [.ref 61, .int (nI 0), .int (nI e69)] S none S1) (hk1 : sI S1 6115 = nI k1) (mk1 : k1 < 5990) (he70 : sA S1 70 k1 = nI e70) (me70 : e70 < 2 ^ 20) (c2 : Ans (d + 8) 309 [.ref 61, .int (nI 11)] S1 (some (.int (nI 0))) S2) (c3 : Ans (d + 8) 309 [.ref 61, .int (nI 6)] S2 (some (.int (nI 0))) S3) (hk2 : sI S3 6115 = nI k2) (mk2 : k2 < 5990) (he67 : sA S3 67 k2 = nI e67) (me67 : e67 < 2 ^ 20) (b1 : e67 ≠ 1) (c4 : Ans (d + 8) 299 [.ref 61] S3 (some (.int (nI 0))) S4) : Bod (d + 8) 335 0 [(0, .ref 61)] [] S (some (.int 0)) (S4) := by
  refine Bod.go dc_335_0 rfl ?_
  refine Bod.ic 0 (by decide) dc_335_1 ?_
  refine Bod.go dc_335_2 rfl ?_
  refine Bod.get dc_335_3 fr_335_138 (mk_61 _) rfl ?_
  refine Bod.go dc_335_6 rfl ?_
  refine Bod.get dc_335_7 fr_335_190 (mk_61 _) rfl ?_
  refine Bod.eqI (nI k) (by first | assumption | rfl | exact congrArg nI (by omega) | (simp (disch := omega) only [rI, rIe, rA, rIA, rLA, rJA, rVI, rQI, rVA, rQA, upd_at,  rAI, rLI, rJI, nI_add, pk_sub, kc_0, kc_1, kc_2, kc_3, kc_4, kc_5, reduceIte, Nat.reduceEqDiff, Nat.add_zero, rI_hold, rI_hold, rL_hold, hk]; done)) ?_
  refine Bod.ialdN k rfl (by omega) (by omega) dc_335_10 (mk_69 _) ?_
  refine Bod.eqI (nI e69) (by first | assumption | rfl | exact congrArg nI (by omega) | (simp (disch := omega) only [rI, rIe, rA, rIA, rLA, rJA, rVI, rQI, rVA, rQA, upd_at,  rAI, rLI, rJI, nI_add, pk_sub, kc_0, kc_1, kc_2, kc_3, kc_4, kc_5, reduceIte, Nat.reduceEqDiff, Nat.add_zero, rI_hold, rI_hold, rL_hold, hk, he69]; done)) ?_
  refine Bod.virt (r := []) dc_335_11 kr_335_216 ⟨Or.inl rfl, ow_302, cl_14⟩ (by rw [np_302]; rfl) (by rw [np_302]; rfl) (ob_of (mk_61 _)) (Nat.le_of_ble_eq_true rfl) (c1  ) ?_
  show Bod _ _ _ _ [] _ _ _
  refine Bod.go dc_335_14 rfl ?_
  refine Bod.get dc_335_15 fr_335_141 (mk_61 _) rfl ?_
  refine Bod.go dc_335_18 rfl ?_
  refine Bod.get dc_335_19 fr_335_190 (mk_61 _) rfl ?_
  refine Bod.eqI (nI k1) (by first | (simp (disch := omega) only [rI, rIe, rA, rIA, rLA, rJA, rVI, rQI, rVA, rQA, upd_at,  rAI, rLI, rJI, nI_add, pk_sub, kc_0, kc_1, kc_2, kc_3, kc_4, kc_5, reduceIte, Nat.reduceEqDiff, Nat.add_zero, rI_hold, rI_hold, rL_hold, hk, he69, hk1]; done) | (simp (disch := omega) only [rI, rIe, rA, rIA, rLA, rJA, rVI, rQI, rVA, rQA, upd_at,  rAI, rLI, rJI, nI_add, pk_sub, kc_0, kc_1, kc_2, kc_3, kc_4, kc_5, reduceIte, Nat.reduceEqDiff, Nat.add_zero, rI_hold, rI_hold, rL_hold, hk, he69, hk1]; exact congrArg nI (by omega))) ?_
  refine Bod.ialdN k1 rfl (by omega) (by omega) dc_335_22 (mk_70 _) ?_
  refine Bod.eqI (nI e70) (by first | (simp (disch := omega) only [rI, rIe, rA, rIA, rLA, rJA, rVI, rQI, rVA, rQA, upd_at,  rAI, rLI, rJI, nI_add, pk_sub, kc_0, kc_1, kc_2, kc_3, kc_4, kc_5, reduceIte, Nat.reduceEqDiff, Nat.add_zero, rI_hold, rI_hold, rL_hold, hk, he69, hk1, he70]; done) | (simp (disch := omega) only [rI, rIe, rA, rIA, rLA, rJA, rVI, rQI, rVA, rQA, upd_at,  rAI, rLI, rJI, nI_add, pk_sub, kc_0, kc_1, kc_2, kc_3, kc_4, kc_5, reduceIte, Nat.reduceEqDiff, Nat.add_zero, rI_hold, rI_hold, rL_hold, hk, he69, hk1, he70]; exact congrArg nI (by omega))) ?_
  refine Bod.istn dc_335_23 (by rw [ml_335]; exact Nat.le_of_ble_eq_true rfl) ?_
  refine Bod.go dc_335_24 rfl ?_
  refine Bod.bip 11 (by decide) dc_335_25 ?_
  refine Bod.virt (r := []) dc_335_27 kr_335_312 ⟨Or.inl rfl, ow_309, cl_14⟩ (by rw [np_309]; rfl) (by rw [np_309]; rfl) (ob_of (mk_61 _)) (Nat.le_of_ble_eq_true rfl) (c2  ) ?_
  show Bod _ _ _ _ [_] _ _ _
  refine Bod.ifT dc_335_30 rfl (k1_eq_T (k_eq 0 0 rfl rfl (by omega))) ?_
  refine Bod.go dc_335_48 rfl ?_
  refine Bod.bip 6 (by decide) dc_335_49 ?_
  refine Bod.virt (r := []) dc_335_51 kr_335_312 ⟨Or.inl rfl, ow_309, cl_14⟩ (by rw [np_309]; rfl) (by rw [np_309]; rfl) (ob_of (mk_61 _)) (Nat.le_of_ble_eq_true rfl) (c3  ) ?_
  show Bod _ _ _ _ [_] _ _ _
  refine Bod.ifT dc_335_54 rfl (k1_eq_T (k_eq 0 0 rfl rfl (by omega))) ?_
  refine Bod.go dc_335_106 rfl ?_
  refine Bod.get dc_335_107 fr_335_129 (mk_61 _) rfl ?_
  refine Bod.go dc_335_110 rfl ?_
  refine Bod.get dc_335_111 fr_335_190 (mk_61 _) rfl ?_
  refine Bod.eqI (nI k2) (by first | (simp (disch := omega) only [rI, rIe, rA, rIA, rLA, rJA, rVI, rQI, rVA, rQA, upd_at,  rAI, rLI, rJI, nI_add, pk_sub, kc_0, kc_1, kc_2, kc_3, kc_4, kc_5, reduceIte, Nat.reduceEqDiff, Nat.add_zero, rI_hold, rI_hold, rL_hold, hk, he69, hk1, he70, hk2]; done) | (simp (disch := omega) only [rI, rIe, rA, rIA, rLA, rJA, rVI, rQI, rVA, rQA, upd_at,  rAI, rLI, rJI, nI_add, pk_sub, kc_0, kc_1, kc_2, kc_3, kc_4, kc_5, reduceIte, Nat.reduceEqDiff, Nat.add_zero, rI_hold, rI_hold, rL_hold, hk, he69, hk1, he70, hk2]; exact congrArg nI (by omega))) ?_
  refine Bod.ialdN k2 rfl (by omega) (by omega) dc_335_114 (mk_67 _) ?_
  refine Bod.eqI (nI e67) (by first | (simp (disch := omega) only [rI, rIe, rA, rIA, rLA, rJA, rVI, rQI, rVA, rQA, upd_at,  rAI, rLI, rJI, nI_add, pk_sub, kc_0, kc_1, kc_2, kc_3, kc_4, kc_5, reduceIte, Nat.reduceEqDiff, Nat.add_zero, rI_hold, rI_hold, rL_hold, hk, he69, hk1, he70, hk2, he67]; done) | (simp (disch := omega) only [rI, rIe, rA, rIA, rLA, rJA, rVI, rQI, rVA, rQA, upd_at,  rAI, rLI, rJI, nI_add, pk_sub, kc_0, kc_1, kc_2, kc_3, kc_4, kc_5, reduceIte, Nat.reduceEqDiff, Nat.add_zero, rI_hold, rI_hold, rL_hold, hk, he69, hk1, he70, hk2, he67]; exact congrArg nI (by omega))) ?_
  refine Bod.ic 1 (by decide) dc_335_115 ?_
  refine Bod.icF dc_335_116 rfl (k2_eq_F (k_ne e67 1 rfl rfl (by omega) (by omega) (by omega))) ?_
  refine Bod.go dc_335_119 rfl ?_
  refine Bod.virt (r := []) dc_335_120 kr_335_202 ⟨Or.inl rfl, ow_299, cl_14⟩ (by rw [np_299]; rfl) (by rw [np_299]; rfl) (ob_of (mk_61 _)) (Nat.le_of_ble_eq_true rfl) (c4  ) ?_
  show Bod _ _ _ _ [_] _ _ _
  exact Bod.retZ dc_335_123 rt_335 (Or.inl rfl)
theorem sIf_1 {d : Nat} {S : cS} {a : Nat} {k : Nat} {S1 : cS} {a : Nat} {f6127 : Nat} {S2 : cS} {f61271 : Nat} {S3 : cS} {S4 : cS} {a1 : Nat} {S5 : cS} {k1 : Nat} {e67 : Nat} {S6 : cS} (ma : a < 2 ^ 20) (hk : sI S 6115 = nI k) (mk : k < 5990) (ma : a < 2 ^ 20) (c1 : Ans (d + 8) 325 [.ref 61, .int (nI 34)] (wI 6115 (nI (k + 1)) S) (some (.int (nI a))) S1) (hf6127 : sI S1 6127 = nI f6127) (mf6127 : f6127 < 2 ^ 20) (c2 : Ans (d + 8) 334 [.ref 61, .int (nI a), .int (nI 0)] (wI 6127 (nI (f6127 + 1)) S1) (some (.int (nI 1))) S2) (hf61271 : sI S2 6127 = nI f61271) (mf61271 : f61271 < 2 ^ 20) (b1 : 1 ≤ f61271) (c3 : Ans (d + 8) 322 [.ref 61, .int (nI 35)] (wI 6127 (nI (f61271 - 1)) S2) none S3) (ma1 : a1 < 2 ^ 20) (c4 : Ans (d + 8) 325 [.ref 61, .int (nI 11)] S3 (some (.int (nI a1))) S4) (c5 : Ans (d + 8) 326 [.ref 61, .int (nI a)] S4 none S5) (hk1 : sI S5 6115 = nI k1) (mk1 : k1 < 5990) (he67 : sA S5 67 k1 = nI e67) (me67 : e67 < 2 ^ 20) (b2 : e67 = 7) (c6 : Ans (d + 8) 299 [.ref 61] S5 (some (.int (nI 1))) S6) : Bod (d + 8) 347 0 [(0, .ref 61), (1, .int (nI a))] [] S (some (.int 1)) (S6) := by
  refine Bod.go dc_347_0 rfl ?_
  refine Bod.go dc_347_1 rfl ?_
  refine Bod.get dc_347_2 fr_347_190 (mk_61 _) rfl ?_
  refine Bod.eqI (nI k) (by first | assumption | rfl | exact congrArg nI (by omega) | (simp (disch := omega) only [rI, rIe, rA, rIA, rLA, rJA, rVI, rQI, rVA, rQA, upd_at,  rAI, rLI, rJI, nI_add, pk_sub, kc_0, kc_1, kc_2, kc_3, kc_4, kc_5, reduceIte, Nat.reduceEqDiff, Nat.add_zero, rI_hold, rI_hold, rL_hold, hk]; done)) ?_
  refine Bod.ic 1 (by decide) dc_347_5 ?_
  refine Bod.addN (k + 1) (by omega) dc_347_6 ?_
  refine Bod.put dc_347_7 fr_347_190 (mk_61 _) (Nat.le_of_ble_eq_true rfl) pf_14_15 (st_6115 _ _) (mu_I _ _ _) ?_
  refine Bod.go dc_347_10 rfl ?_
  refine Bod.bip 34 (by decide) dc_347_11 ?_
  refine Bod.virt (r := []) dc_347_13 kr_347_305 ⟨Or.inl rfl, ow_325, cl_14⟩ (by rw [np_325]; rfl) (by rw [np_325]; rfl) (ob_of (mk_61 _)) (Nat.le_of_ble_eq_true rfl) (c1  ) ?_
  show Bod _ _ _ _ [_] _ _ _
  refine Bod.istn dc_347_16 (by rw [ml_347]; exact Nat.le_of_ble_eq_true rfl) ?_
  refine Bod.go dc_347_17 rfl ?_
  refine Bod.go dc_347_18 rfl ?_
  refine Bod.get dc_347_19 fr_347_245 (mk_61 _) rfl ?_
  refine Bod.eqI (nI f6127) (by first | (simp (disch := omega) only [rI, rIe, rA, rIA, rLA, rJA, rVI, rQI, rVA, rQA, upd_at,  rAI, rLI, rJI, nI_add, pk_sub, kc_0, kc_1, kc_2, kc_3, kc_4, kc_5, reduceIte, Nat.reduceEqDiff, Nat.add_zero, rI_hold, rI_hold, rL_hold, hk, hf6127]; done) | (simp (disch := omega) only [rI, rIe, rA, rIA, rLA, rJA, rVI, rQI, rVA, rQA, upd_at,  rAI, rLI, rJI, nI_add, pk_sub, kc_0, kc_1, kc_2, kc_3, kc_4, kc_5, reduceIte, Nat.reduceEqDiff, Nat.add_zero, rI_hold, rI_hold, rL_hold, hk, hf6127]; exact congrArg nI (by omega))) ?_
  refine Bod.ic 1 (by decide) dc_347_22 ?_
  refine Bod.addN (f6127 + 1) (by omega) dc_347_23 ?_
  refine Bod.put dc_347_24 fr_347_245 (mk_61 _) (Nat.le_of_ble_eq_true rfl) pf_14_27 (st_6127 _ _) (mu_I _ _ _) ?_
  refine Bod.go dc_347_27 rfl ?_
  refine Bod.go dc_347_28 rfl ?_
  refine Bod.ic 0 (by decide) dc_347_29 ?_
  refine Bod.virt (r := []) dc_347_30 kr_347_309 ⟨Or.inl rfl, ow_334, cl_14⟩ (by rw [np_334]; rfl) (by rw [np_334]; rfl) (ob_of (mk_61 _)) (Nat.le_of_ble_eq_true rfl) (c2  ) ?_
  show Bod _ _ _ _ [_] _ _ _
  refine Bod.ifT dc_347_33 rfl (k1_ne_T (k_ne 1 0 rfl rfl (by omega) (by omega) (by omega))) ?_
  refine Bod.go dc_347_38 rfl ?_
  refine Bod.go dc_347_39 rfl ?_
  refine Bod.get dc_347_40 fr_347_245 (mk_61 _) rfl ?_
  refine Bod.eqI (nI f61271) (by first | (simp (disch := omega) only [rI, rIe, rA, rIA, rLA, rJA, rVI, rQI, rVA, rQA, upd_at,  rAI, rLI, rJI, nI_add, pk_sub, kc_0, kc_1, kc_2, kc_3, kc_4, kc_5, reduceIte, Nat.reduceEqDiff, Nat.add_zero, rI_hold, rI_hold, rL_hold, hk, hf6127, hf61271]; done) | (simp (disch := omega) only [rI, rIe, rA, rIA, rLA, rJA, rVI, rQI, rVA, rQA, upd_at,  rAI, rLI, rJI, nI_add, pk_sub, kc_0, kc_1, kc_2, kc_3, kc_4, kc_5, reduceIte, Nat.reduceEqDiff, Nat.add_zero, rI_hold, rI_hold, rL_hold, hk, hf6127, hf61271]; exact congrArg nI (by omega))) ?_
  refine Bod.ic 1 (by decide) dc_347_43 ?_
  refine Bod.subN (f61271 - 1) (by omega) (by omega) dc_347_44 ?_
  refine Bod.put dc_347_45 fr_347_245 (mk_61 _) (Nat.le_of_ble_eq_true rfl) pf_14_27 (st_6127 _ _) (mu_I _ _ _) ?_
  refine Bod.go dc_347_48 rfl ?_
  refine Bod.bip 35 (by decide) dc_347_49 ?_
  refine Bod.virt (r := []) dc_347_51 kr_347_269 ⟨Or.inl rfl, ow_322, cl_14⟩ (by rw [np_322]; rfl) (by rw [np_322]; rfl) (ob_of (mk_61 _)) (Nat.le_of_ble_eq_true rfl) (c3  ) ?_
  show Bod _ _ _ _ [] _ _ _
  refine Bod.go dc_347_54 rfl ?_
  refine Bod.bip 11 (by decide) dc_347_55 ?_
  refine Bod.virt (r := []) dc_347_57 kr_347_305 ⟨Or.inl rfl, ow_325, cl_14⟩ (by rw [np_325]; rfl) (by rw [np_325]; rfl) (ob_of (mk_61 _)) (Nat.le_of_ble_eq_true rfl) (c4  ) ?_
  show Bod _ _ _ _ [_] _ _ _
  refine Bod.istn dc_347_60 (by rw [ml_347]; exact Nat.le_of_ble_eq_true rfl) ?_
  refine Bod.go dc_347_61 rfl ?_
  refine Bod.go dc_347_62 rfl ?_
  refine Bod.virt (r := []) dc_347_63 kr_347_317 ⟨Or.inl rfl, ow_326, cl_14⟩ (by rw [np_326]; rfl) (by rw [np_326]; rfl) (ob_of (mk_61 _)) (Nat.le_of_ble_eq_true rfl) (c5  ) ?_
  show Bod _ _ _ _ [] _ _ _
  refine Bod.go dc_347_66 rfl ?_
  refine Bod.get dc_347_67 fr_347_129 (mk_61 _) rfl ?_
  refine Bod.go dc_347_70 rfl ?_
  refine Bod.get dc_347_71 fr_347_190 (mk_61 _) rfl ?_
  refine Bod.eqI (nI k1) (by first | (simp (disch := omega) only [rI, rIe, rA, rIA, rLA, rJA, rVI, rQI, rVA, rQA, upd_at,  rAI, rLI, rJI, nI_add, pk_sub, kc_0, kc_1, kc_2, kc_3, kc_4, kc_5, reduceIte, Nat.reduceEqDiff, Nat.add_zero, rI_hold, rI_hold, rL_hold, hk, hf6127, hf61271, hk1]; done) | (simp (disch := omega) only [rI, rIe, rA, rIA, rLA, rJA, rVI, rQI, rVA, rQA, upd_at,  rAI, rLI, rJI, nI_add, pk_sub, kc_0, kc_1, kc_2, kc_3, kc_4, kc_5, reduceIte, Nat.reduceEqDiff, Nat.add_zero, rI_hold, rI_hold, rL_hold, hk, hf6127, hf61271, hk1]; exact congrArg nI (by omega))) ?_
  refine Bod.ialdN k1 rfl (by omega) (by omega) dc_347_74 (mk_67 _) ?_
  refine Bod.eqI (nI e67) (by first | (simp (disch := omega) only [rI, rIe, rA, rIA, rLA, rJA, rVI, rQI, rVA, rQA, upd_at,  rAI, rLI, rJI, nI_add, pk_sub, kc_0, kc_1, kc_2, kc_3, kc_4, kc_5, reduceIte, Nat.reduceEqDiff, Nat.add_zero, rI_hold, rI_hold, rL_hold, hk, hf6127, hf61271, hk1, he67]; done) | (simp (disch := omega) only [rI, rIe, rA, rIA, rLA, rJA, rVI, rQI, rVA, rQA, upd_at,  rAI, rLI, rJI, nI_add, pk_sub, kc_0, kc_1, kc_2, kc_3, kc_4, kc_5, reduceIte, Nat.reduceEqDiff, Nat.add_zero, rI_hold, rI_hold, rL_hold, hk, hf6127, hf61271, hk1, he67]; exact congrArg nI (by omega))) ?_
  refine Bod.bip 7 (by decide) dc_347_75 ?_
  refine Bod.icT dc_347_77 rfl (k2_eq_T (k_eq e67 7 rfl rfl (by omega))) ?_
  refine Bod.go dc_347_102 rfl ?_
  refine Bod.virt (r := []) dc_347_103 kr_347_202 ⟨Or.inl rfl, ow_299, cl_14⟩ (by rw [np_299]; rfl) (by rw [np_299]; rfl) (ob_of (mk_61 _)) (Nat.le_of_ble_eq_true rfl) (c6  ) ?_
  show Bod _ _ _ _ [_] _ _ _
  exact Bod.retZ dc_347_106 rt_347 (Or.inr rfl)
theorem sIf_2 {d : Nat} {S : cS} {a : Nat} {k : Nat} {S1 : cS} {a : Nat} {f6127 : Nat} {S2 : cS} {f61271 : Nat} {S3 : cS} {S4 : cS} {a1 : Nat} {S5 : cS} {k1 : Nat} {e67 : Nat} {S6 : cS} (ma : a < 2 ^ 20) (hk : sI S 6115 = nI k) (mk : k < 5990) (ma : a < 2 ^ 20) (c1 : Ans (d + 8) 325 [.ref 61, .int (nI 34)] (wI 6115 (nI (k + 1)) S) (some (.int (nI a))) S1) (hf6127 : sI S1 6127 = nI f6127) (mf6127 : f6127 < 2 ^ 20) (c2 : Ans (d + 8) 334 [.ref 61, .int (nI a), .int (nI 0)] (wI 6127 (nI (f6127 + 1)) S1) (some (.int (nI 1))) S2) (hf61271 : sI S2 6127 = nI f61271) (mf61271 : f61271 < 2 ^ 20) (b1 : 1 ≤ f61271) (c3 : Ans (d + 8) 322 [.ref 61, .int (nI 35)] (wI 6127 (nI (f61271 - 1)) S2) none S3) (ma1 : a1 < 2 ^ 20) (c4 : Ans (d + 8) 325 [.ref 61, .int (nI 11)] S3 (some (.int (nI a1))) S4) (c5 : Ans (d + 8) 326 [.ref 61, .int (nI a)] S4 none S5) (hk1 : sI S5 6115 = nI k1) (mk1 : k1 < 5990) (he67 : sA S5 67 k1 = nI e67) (me67 : e67 < 2 ^ 20) (b2 : e67 = 7) (c6 : Ans (d + 8) 299 [.ref 61] S5 (some (.int (nI 0))) S6) : Bod (d + 8) 347 0 [(0, .ref 61), (1, .int (nI a))] [] S (some (.int 0)) (S6) := by
  refine Bod.go dc_347_0 rfl ?_
  refine Bod.go dc_347_1 rfl ?_
  refine Bod.get dc_347_2 fr_347_190 (mk_61 _) rfl ?_
  refine Bod.eqI (nI k) (by first | assumption | rfl | exact congrArg nI (by omega) | (simp (disch := omega) only [rI, rIe, rA, rIA, rLA, rJA, rVI, rQI, rVA, rQA, upd_at,  rAI, rLI, rJI, nI_add, pk_sub, kc_0, kc_1, kc_2, kc_3, kc_4, kc_5, reduceIte, Nat.reduceEqDiff, Nat.add_zero, rI_hold, rI_hold, rL_hold, hk]; done)) ?_
  refine Bod.ic 1 (by decide) dc_347_5 ?_
  refine Bod.addN (k + 1) (by omega) dc_347_6 ?_
  refine Bod.put dc_347_7 fr_347_190 (mk_61 _) (Nat.le_of_ble_eq_true rfl) pf_14_15 (st_6115 _ _) (mu_I _ _ _) ?_
  refine Bod.go dc_347_10 rfl ?_
  refine Bod.bip 34 (by decide) dc_347_11 ?_
  refine Bod.virt (r := []) dc_347_13 kr_347_305 ⟨Or.inl rfl, ow_325, cl_14⟩ (by rw [np_325]; rfl) (by rw [np_325]; rfl) (ob_of (mk_61 _)) (Nat.le_of_ble_eq_true rfl) (c1  ) ?_
  show Bod _ _ _ _ [_] _ _ _
  refine Bod.istn dc_347_16 (by rw [ml_347]; exact Nat.le_of_ble_eq_true rfl) ?_
  refine Bod.go dc_347_17 rfl ?_
  refine Bod.go dc_347_18 rfl ?_
  refine Bod.get dc_347_19 fr_347_245 (mk_61 _) rfl ?_
  refine Bod.eqI (nI f6127) (by first | (simp (disch := omega) only [rI, rIe, rA, rIA, rLA, rJA, rVI, rQI, rVA, rQA, upd_at,  rAI, rLI, rJI, nI_add, pk_sub, kc_0, kc_1, kc_2, kc_3, kc_4, kc_5, reduceIte, Nat.reduceEqDiff, Nat.add_zero, rI_hold, rI_hold, rL_hold, hk, hf6127]; done) | (simp (disch := omega) only [rI, rIe, rA, rIA, rLA, rJA, rVI, rQI, rVA, rQA, upd_at,  rAI, rLI, rJI, nI_add, pk_sub, kc_0, kc_1, kc_2, kc_3, kc_4, kc_5, reduceIte, Nat.reduceEqDiff, Nat.add_zero, rI_hold, rI_hold, rL_hold, hk, hf6127]; exact congrArg nI (by omega))) ?_
  refine Bod.ic 1 (by decide) dc_347_22 ?_
  refine Bod.addN (f6127 + 1) (by omega) dc_347_23 ?_
  refine Bod.put dc_347_24 fr_347_245 (mk_61 _) (Nat.le_of_ble_eq_true rfl) pf_14_27 (st_6127 _ _) (mu_I _ _ _) ?_
  refine Bod.go dc_347_27 rfl ?_
  refine Bod.go dc_347_28 rfl ?_
  refine Bod.ic 0 (by decide) dc_347_29 ?_
  refine Bod.virt (r := []) dc_347_30 kr_347_309 ⟨Or.inl rfl, ow_334, cl_14⟩ (by rw [np_334]; rfl) (by rw [np_334]; rfl) (ob_of (mk_61 _)) (Nat.le_of_ble_eq_true rfl) (c2  ) ?_
  show Bod _ _ _ _ [_] _ _ _
  refine Bod.ifT dc_347_33 rfl (k1_ne_T (k_ne 1 0 rfl rfl (by omega) (by omega) (by omega))) ?_
  refine Bod.go dc_347_38 rfl ?_
  refine Bod.go dc_347_39 rfl ?_
  refine Bod.get dc_347_40 fr_347_245 (mk_61 _) rfl ?_
  refine Bod.eqI (nI f61271) (by first | (simp (disch := omega) only [rI, rIe, rA, rIA, rLA, rJA, rVI, rQI, rVA, rQA, upd_at,  rAI, rLI, rJI, nI_add, pk_sub, kc_0, kc_1, kc_2, kc_3, kc_4, kc_5, reduceIte, Nat.reduceEqDiff, Nat.add_zero, rI_hold, rI_hold, rL_hold, hk, hf6127, hf61271]; done) | (simp (disch := omega) only [rI, rIe, rA, rIA, rLA, rJA, rVI, rQI, rVA, rQA, upd_at,  rAI, rLI, rJI, nI_add, pk_sub, kc_0, kc_1, kc_2, kc_3, kc_4, kc_5, reduceIte, Nat.reduceEqDiff, Nat.add_zero, rI_hold, rI_hold, rL_hold, hk, hf6127, hf61271]; exact congrArg nI (by omega))) ?_
  refine Bod.ic 1 (by decide) dc_347_43 ?_
  refine Bod.subN (f61271 - 1) (by omega) (by omega) dc_347_44 ?_
  refine Bod.put dc_347_45 fr_347_245 (mk_61 _) (Nat.le_of_ble_eq_true rfl) pf_14_27 (st_6127 _ _) (mu_I _ _ _) ?_
  refine Bod.go dc_347_48 rfl ?_
  refine Bod.bip 35 (by decide) dc_347_49 ?_
  refine Bod.virt (r := []) dc_347_51 kr_347_269 ⟨Or.inl rfl, ow_322, cl_14⟩ (by rw [np_322]; rfl) (by rw [np_322]; rfl) (ob_of (mk_61 _)) (Nat.le_of_ble_eq_true rfl) (c3  ) ?_
  show Bod _ _ _ _ [] _ _ _
  refine Bod.go dc_347_54 rfl ?_
  refine Bod.bip 11 (by decide) dc_347_55 ?_
  refine Bod.virt (r := []) dc_347_57 kr_347_305 ⟨Or.inl rfl, ow_325, cl_14⟩ (by rw [np_325]; rfl) (by rw [np_325]; rfl) (ob_of (mk_61 _)) (Nat.le_of_ble_eq_true rfl) (c4  ) ?_
  show Bod _ _ _ _ [_] _ _ _
  refine Bod.istn dc_347_60 (by rw [ml_347]; exact Nat.le_of_ble_eq_true rfl) ?_
  refine Bod.go dc_347_61 rfl ?_
  refine Bod.go dc_347_62 rfl ?_
  refine Bod.virt (r := []) dc_347_63 kr_347_317 ⟨Or.inl rfl, ow_326, cl_14⟩ (by rw [np_326]; rfl) (by rw [np_326]; rfl) (ob_of (mk_61 _)) (Nat.le_of_ble_eq_true rfl) (c5  ) ?_
  show Bod _ _ _ _ [] _ _ _
  refine Bod.go dc_347_66 rfl ?_
  refine Bod.get dc_347_67 fr_347_129 (mk_61 _) rfl ?_
  refine Bod.go dc_347_70 rfl ?_
  refine Bod.get dc_347_71 fr_347_190 (mk_61 _) rfl ?_
  refine Bod.eqI (nI k1) (by first | (simp (disch := omega) only [rI, rIe, rA, rIA, rLA, rJA, rVI, rQI, rVA, rQA, upd_at,  rAI, rLI, rJI, nI_add, pk_sub, kc_0, kc_1, kc_2, kc_3, kc_4, kc_5, reduceIte, Nat.reduceEqDiff, Nat.add_zero, rI_hold, rI_hold, rL_hold, hk, hf6127, hf61271, hk1]; done) | (simp (disch := omega) only [rI, rIe, rA, rIA, rLA, rJA, rVI, rQI, rVA, rQA, upd_at,  rAI, rLI, rJI, nI_add, pk_sub, kc_0, kc_1, kc_2, kc_3, kc_4, kc_5, reduceIte, Nat.reduceEqDiff, Nat.add_zero, rI_hold, rI_hold, rL_hold, hk, hf6127, hf61271, hk1]; exact congrArg nI (by omega))) ?_
  refine Bod.ialdN k1 rfl (by omega) (by omega) dc_347_74 (mk_67 _) ?_
  refine Bod.eqI (nI e67) (by first | (simp (disch := omega) only [rI, rIe, rA, rIA, rLA, rJA, rVI, rQI, rVA, rQA, upd_at,  rAI, rLI, rJI, nI_add, pk_sub, kc_0, kc_1, kc_2, kc_3, kc_4, kc_5, reduceIte, Nat.reduceEqDiff, Nat.add_zero, rI_hold, rI_hold, rL_hold, hk, hf6127, hf61271, hk1, he67]; done) | (simp (disch := omega) only [rI, rIe, rA, rIA, rLA, rJA, rVI, rQI, rVA, rQA, upd_at,  rAI, rLI, rJI, nI_add, pk_sub, kc_0, kc_1, kc_2, kc_3, kc_4, kc_5, reduceIte, Nat.reduceEqDiff, Nat.add_zero, rI_hold, rI_hold, rL_hold, hk, hf6127, hf61271, hk1, he67]; exact congrArg nI (by omega))) ?_
  refine Bod.bip 7 (by decide) dc_347_75 ?_
  refine Bod.icT dc_347_77 rfl (k2_eq_T (k_eq e67 7 rfl rfl (by omega))) ?_
  refine Bod.go dc_347_102 rfl ?_
  refine Bod.virt (r := []) dc_347_103 kr_347_202 ⟨Or.inl rfl, ow_299, cl_14⟩ (by rw [np_299]; rfl) (by rw [np_299]; rfl) (ob_of (mk_61 _)) (Nat.le_of_ble_eq_true rfl) (c6  ) ?_
  show Bod _ _ _ _ [_] _ _ _
  exact Bod.retZ dc_347_106 rt_347 (Or.inl rfl)
theorem sIf_3 {d : Nat} {S : cS} {a : Nat} {k : Nat} {S1 : cS} {a : Nat} {f6127 : Nat} {S2 : cS} {f61271 : Nat} {S3 : cS} {S4 : cS} {a1 : Nat} {S5 : cS} {k1 : Nat} {e67 : Nat} {e70 : Nat} {S6 : cS} (ma : a < 2 ^ 20) (hk : sI S 6115 = nI k) (mk : k < 5990) (ma : a < 2 ^ 20) (c1 : Ans (d + 8) 325 [.ref 61, .int (nI 34)] (wI 6115 (nI (k + 1)) S) (some (.int (nI a))) S1) (hf6127 : sI S1 6127 = nI f6127) (mf6127 : f6127 < 2 ^ 20) (c2 : Ans (d + 8) 334 [.ref 61, .int (nI a), .int (nI 0)] (wI 6127 (nI (f6127 + 1)) S1) (some (.int (nI 1))) S2) (hf61271 : sI S2 6127 = nI f61271) (mf61271 : f61271 < 2 ^ 20) (b1 : 1 ≤ f61271) (c3 : Ans (d + 8) 322 [.ref 61, .int (nI 35)] (wI 6127 (nI (f61271 - 1)) S2) none S3) (ma1 : a1 < 2 ^ 20) (c4 : Ans (d + 8) 325 [.ref 61, .int (nI 11)] S3 (some (.int (nI a1))) S4) (c5 : Ans (d + 8) 326 [.ref 61, .int (nI a)] S4 none S5) (hk1 : sI S5 6115 = nI k1) (mk1 : k1 < 5990) (he67 : sA S5 67 k1 = nI e67) (me67 : e67 < 2 ^ 20) (b2 : e67 ≠ 7) (he70 : sA S5 70 k1 = nI e70) (me70 : e70 < 2 ^ 20) (b3 : e70 ≠ a) (c6 : Ans (d + 8) 299 [.ref 61] S5 (some (.int (nI 1))) S6) : Bod (d + 8) 347 0 [(0, .ref 61), (1, .int (nI a))] [] S (some (.int 1)) (S6) := by
  refine Bod.go dc_347_0 rfl ?_
  refine Bod.go dc_347_1 rfl ?_
  refine Bod.get dc_347_2 fr_347_190 (mk_61 _) rfl ?_
  refine Bod.eqI (nI k) (by first | assumption | rfl | exact congrArg nI (by omega) | (simp (disch := omega) only [rI, rIe, rA, rIA, rLA, rJA, rVI, rQI, rVA, rQA, upd_at,  rAI, rLI, rJI, nI_add, pk_sub, kc_0, kc_1, kc_2, kc_3, kc_4, kc_5, reduceIte, Nat.reduceEqDiff, Nat.add_zero, rI_hold, rI_hold, rL_hold, hk]; done)) ?_
  refine Bod.ic 1 (by decide) dc_347_5 ?_
  refine Bod.addN (k + 1) (by omega) dc_347_6 ?_
  refine Bod.put dc_347_7 fr_347_190 (mk_61 _) (Nat.le_of_ble_eq_true rfl) pf_14_15 (st_6115 _ _) (mu_I _ _ _) ?_
  refine Bod.go dc_347_10 rfl ?_
  refine Bod.bip 34 (by decide) dc_347_11 ?_
  refine Bod.virt (r := []) dc_347_13 kr_347_305 ⟨Or.inl rfl, ow_325, cl_14⟩ (by rw [np_325]; rfl) (by rw [np_325]; rfl) (ob_of (mk_61 _)) (Nat.le_of_ble_eq_true rfl) (c1  ) ?_
  show Bod _ _ _ _ [_] _ _ _
  refine Bod.istn dc_347_16 (by rw [ml_347]; exact Nat.le_of_ble_eq_true rfl) ?_
  refine Bod.go dc_347_17 rfl ?_
  refine Bod.go dc_347_18 rfl ?_
  refine Bod.get dc_347_19 fr_347_245 (mk_61 _) rfl ?_
  refine Bod.eqI (nI f6127) (by first | (simp (disch := omega) only [rI, rIe, rA, rIA, rLA, rJA, rVI, rQI, rVA, rQA, upd_at,  rAI, rLI, rJI, nI_add, pk_sub, kc_0, kc_1, kc_2, kc_3, kc_4, kc_5, reduceIte, Nat.reduceEqDiff, Nat.add_zero, rI_hold, rI_hold, rL_hold, hk, hf6127]; done) | (simp (disch := omega) only [rI, rIe, rA, rIA, rLA, rJA, rVI, rQI, rVA, rQA, upd_at,  rAI, rLI, rJI, nI_add, pk_sub, kc_0, kc_1, kc_2, kc_3, kc_4, kc_5, reduceIte, Nat.reduceEqDiff, Nat.add_zero, rI_hold, rI_hold, rL_hold, hk, hf6127]; exact congrArg nI (by omega))) ?_
  refine Bod.ic 1 (by decide) dc_347_22 ?_
  refine Bod.addN (f6127 + 1) (by omega) dc_347_23 ?_
  refine Bod.put dc_347_24 fr_347_245 (mk_61 _) (Nat.le_of_ble_eq_true rfl) pf_14_27 (st_6127 _ _) (mu_I _ _ _) ?_
  refine Bod.go dc_347_27 rfl ?_
  refine Bod.go dc_347_28 rfl ?_
  refine Bod.ic 0 (by decide) dc_347_29 ?_
  refine Bod.virt (r := []) dc_347_30 kr_347_309 ⟨Or.inl rfl, ow_334, cl_14⟩ (by rw [np_334]; rfl) (by rw [np_334]; rfl) (ob_of (mk_61 _)) (Nat.le_of_ble_eq_true rfl) (c2  ) ?_
  show Bod _ _ _ _ [_] _ _ _
  refine Bod.ifT dc_347_33 rfl (k1_ne_T (k_ne 1 0 rfl rfl (by omega) (by omega) (by omega))) ?_
  refine Bod.go dc_347_38 rfl ?_
  refine Bod.go dc_347_39 rfl ?_
  refine Bod.get dc_347_40 fr_347_245 (mk_61 _) rfl ?_
  refine Bod.eqI (nI f61271) (by first | (simp (disch := omega) only [rI, rIe, rA, rIA, rLA, rJA, rVI, rQI, rVA, rQA, upd_at,  rAI, rLI, rJI, nI_add, pk_sub, kc_0, kc_1, kc_2, kc_3, kc_4, kc_5, reduceIte, Nat.reduceEqDiff, Nat.add_zero, rI_hold, rI_hold, rL_hold, hk, hf6127, hf61271]; done) | (simp (disch := omega) only [rI, rIe, rA, rIA, rLA, rJA, rVI, rQI, rVA, rQA, upd_at,  rAI, rLI, rJI, nI_add, pk_sub, kc_0, kc_1, kc_2, kc_3, kc_4, kc_5, reduceIte, Nat.reduceEqDiff, Nat.add_zero, rI_hold, rI_hold, rL_hold, hk, hf6127, hf61271]; exact congrArg nI (by omega))) ?_
  refine Bod.ic 1 (by decide) dc_347_43 ?_
  refine Bod.subN (f61271 - 1) (by omega) (by omega) dc_347_44 ?_
  refine Bod.put dc_347_45 fr_347_245 (mk_61 _) (Nat.le_of_ble_eq_true rfl) pf_14_27 (st_6127 _ _) (mu_I _ _ _) ?_
  refine Bod.go dc_347_48 rfl ?_
  refine Bod.bip 35 (by decide) dc_347_49 ?_
  refine Bod.virt (r := []) dc_347_51 kr_347_269 ⟨Or.inl rfl, ow_322, cl_14⟩ (by rw [np_322]; rfl) (by rw [np_322]; rfl) (ob_of (mk_61 _)) (Nat.le_of_ble_eq_true rfl) (c3  ) ?_
  show Bod _ _ _ _ [] _ _ _
  refine Bod.go dc_347_54 rfl ?_
  refine Bod.bip 11 (by decide) dc_347_55 ?_
  refine Bod.virt (r := []) dc_347_57 kr_347_305 ⟨Or.inl rfl, ow_325, cl_14⟩ (by rw [np_325]; rfl) (by rw [np_325]; rfl) (ob_of (mk_61 _)) (Nat.le_of_ble_eq_true rfl) (c4  ) ?_
  show Bod _ _ _ _ [_] _ _ _
  refine Bod.istn dc_347_60 (by rw [ml_347]; exact Nat.le_of_ble_eq_true rfl) ?_
  refine Bod.go dc_347_61 rfl ?_
  refine Bod.go dc_347_62 rfl ?_
  refine Bod.virt (r := []) dc_347_63 kr_347_317 ⟨Or.inl rfl, ow_326, cl_14⟩ (by rw [np_326]; rfl) (by rw [np_326]; rfl) (ob_of (mk_61 _)) (Nat.le_of_ble_eq_true rfl) (c5  ) ?_
  show Bod _ _ _ _ [] _ _ _
  refine Bod.go dc_347_66 rfl ?_
  refine Bod.get dc_347_67 fr_347_129 (mk_61 _) rfl ?_
  refine Bod.go dc_347_70 rfl ?_
  refine Bod.get dc_347_71 fr_347_190 (mk_61 _) rfl ?_
  refine Bod.eqI (nI k1) (by first | (simp (disch := omega) only [rI, rIe, rA, rIA, rLA, rJA, rVI, rQI, rVA, rQA, upd_at,  rAI, rLI, rJI, nI_add, pk_sub, kc_0, kc_1, kc_2, kc_3, kc_4, kc_5, reduceIte, Nat.reduceEqDiff, Nat.add_zero, rI_hold, rI_hold, rL_hold, hk, hf6127, hf61271, hk1]; done) | (simp (disch := omega) only [rI, rIe, rA, rIA, rLA, rJA, rVI, rQI, rVA, rQA, upd_at,  rAI, rLI, rJI, nI_add, pk_sub, kc_0, kc_1, kc_2, kc_3, kc_4, kc_5, reduceIte, Nat.reduceEqDiff, Nat.add_zero, rI_hold, rI_hold, rL_hold, hk, hf6127, hf61271, hk1]; exact congrArg nI (by omega))) ?_
  refine Bod.ialdN k1 rfl (by omega) (by omega) dc_347_74 (mk_67 _) ?_
  refine Bod.eqI (nI e67) (by first | (simp (disch := omega) only [rI, rIe, rA, rIA, rLA, rJA, rVI, rQI, rVA, rQA, upd_at,  rAI, rLI, rJI, nI_add, pk_sub, kc_0, kc_1, kc_2, kc_3, kc_4, kc_5, reduceIte, Nat.reduceEqDiff, Nat.add_zero, rI_hold, rI_hold, rL_hold, hk, hf6127, hf61271, hk1, he67]; done) | (simp (disch := omega) only [rI, rIe, rA, rIA, rLA, rJA, rVI, rQI, rVA, rQA, upd_at,  rAI, rLI, rJI, nI_add, pk_sub, kc_0, kc_1, kc_2, kc_3, kc_4, kc_5, reduceIte, Nat.reduceEqDiff, Nat.add_zero, rI_hold, rI_hold, rL_hold, hk, hf6127, hf61271, hk1, he67]; exact congrArg nI (by omega))) ?_
  refine Bod.bip 7 (by decide) dc_347_75 ?_
  refine Bod.icF dc_347_77 rfl (k2_eq_F (k_ne e67 7 rfl rfl (by omega) (by omega) (by omega))) ?_
  refine Bod.go dc_347_80 rfl ?_
  refine Bod.get dc_347_81 fr_347_141 (mk_61 _) rfl ?_
  refine Bod.go dc_347_84 rfl ?_
  refine Bod.get dc_347_85 fr_347_190 (mk_61 _) rfl ?_
  refine Bod.eqI (nI k1) (by first | (simp (disch := omega) only [rI, rIe, rA, rIA, rLA, rJA, rVI, rQI, rVA, rQA, upd_at,  rAI, rLI, rJI, nI_add, pk_sub, kc_0, kc_1, kc_2, kc_3, kc_4, kc_5, reduceIte, Nat.reduceEqDiff, Nat.add_zero, rI_hold, rI_hold, rL_hold, hk, hf6127, hf61271, hk1, he67]; done) | (simp (disch := omega) only [rI, rIe, rA, rIA, rLA, rJA, rVI, rQI, rVA, rQA, upd_at,  rAI, rLI, rJI, nI_add, pk_sub, kc_0, kc_1, kc_2, kc_3, kc_4, kc_5, reduceIte, Nat.reduceEqDiff, Nat.add_zero, rI_hold, rI_hold, rL_hold, hk, hf6127, hf61271, hk1, he67]; exact congrArg nI (by omega))) ?_
  refine Bod.ialdN k1 rfl (by omega) (by omega) dc_347_88 (mk_70 _) ?_
  refine Bod.eqI (nI e70) (by first | (simp (disch := omega) only [rI, rIe, rA, rIA, rLA, rJA, rVI, rQI, rVA, rQA, upd_at,  rAI, rLI, rJI, nI_add, pk_sub, kc_0, kc_1, kc_2, kc_3, kc_4, kc_5, reduceIte, Nat.reduceEqDiff, Nat.add_zero, rI_hold, rI_hold, rL_hold, hk, hf6127, hf61271, hk1, he67, he70]; done) | (simp (disch := omega) only [rI, rIe, rA, rIA, rLA, rJA, rVI, rQI, rVA, rQA, upd_at,  rAI, rLI, rJI, nI_add, pk_sub, kc_0, kc_1, kc_2, kc_3, kc_4, kc_5, reduceIte, Nat.reduceEqDiff, Nat.add_zero, rI_hold, rI_hold, rL_hold, hk, hf6127, hf61271, hk1, he67, he70]; exact congrArg nI (by omega))) ?_
  refine Bod.go dc_347_89 rfl ?_
  refine Bod.icT dc_347_90 rfl (k2_ne_T (k_ne e70 a rfl rfl (by omega) (by omega) (by omega))) ?_
  refine Bod.go dc_347_102 rfl ?_
  refine Bod.virt (r := []) dc_347_103 kr_347_202 ⟨Or.inl rfl, ow_299, cl_14⟩ (by rw [np_299]; rfl) (by rw [np_299]; rfl) (ob_of (mk_61 _)) (Nat.le_of_ble_eq_true rfl) (c6  ) ?_
  show Bod _ _ _ _ [_] _ _ _
  exact Bod.retZ dc_347_106 rt_347 (Or.inr rfl)
theorem sIf_4 {d : Nat} {S : cS} {a : Nat} {k : Nat} {S1 : cS} {a : Nat} {f6127 : Nat} {S2 : cS} {f61271 : Nat} {S3 : cS} {S4 : cS} {a1 : Nat} {S5 : cS} {k1 : Nat} {e67 : Nat} {e70 : Nat} {S6 : cS} (ma : a < 2 ^ 20) (hk : sI S 6115 = nI k) (mk : k < 5990) (ma : a < 2 ^ 20) (c1 : Ans (d + 8) 325 [.ref 61, .int (nI 34)] (wI 6115 (nI (k + 1)) S) (some (.int (nI a))) S1) (hf6127 : sI S1 6127 = nI f6127) (mf6127 : f6127 < 2 ^ 20) (c2 : Ans (d + 8) 334 [.ref 61, .int (nI a), .int (nI 0)] (wI 6127 (nI (f6127 + 1)) S1) (some (.int (nI 1))) S2) (hf61271 : sI S2 6127 = nI f61271) (mf61271 : f61271 < 2 ^ 20) (b1 : 1 ≤ f61271) (c3 : Ans (d + 8) 322 [.ref 61, .int (nI 35)] (wI 6127 (nI (f61271 - 1)) S2) none S3) (ma1 : a1 < 2 ^ 20) (c4 : Ans (d + 8) 325 [.ref 61, .int (nI 11)] S3 (some (.int (nI a1))) S4) (c5 : Ans (d + 8) 326 [.ref 61, .int (nI a)] S4 none S5) (hk1 : sI S5 6115 = nI k1) (mk1 : k1 < 5990) (he67 : sA S5 67 k1 = nI e67) (me67 : e67 < 2 ^ 20) (b2 : e67 ≠ 7) (he70 : sA S5 70 k1 = nI e70) (me70 : e70 < 2 ^ 20) (b3 : e70 ≠ a) (c6 : Ans (d + 8) 299 [.ref 61] S5 (some (.int (nI 0))) S6) : Bod (d + 8) 347 0 [(0, .ref 61), (1, .int (nI a))] [] S (some (.int 0)) (S6) := by
  refine Bod.go dc_347_0 rfl ?_
  refine Bod.go dc_347_1 rfl ?_
  refine Bod.get dc_347_2 fr_347_190 (mk_61 _) rfl ?_
  refine Bod.eqI (nI k) (by first | assumption | rfl | exact congrArg nI (by omega) | (simp (disch := omega) only [rI, rIe, rA, rIA, rLA, rJA, rVI, rQI, rVA, rQA, upd_at,  rAI, rLI, rJI, nI_add, pk_sub, kc_0, kc_1, kc_2, kc_3, kc_4, kc_5, reduceIte, Nat.reduceEqDiff, Nat.add_zero, rI_hold, rI_hold, rL_hold, hk]; done)) ?_
  refine Bod.ic 1 (by decide) dc_347_5 ?_
  refine Bod.addN (k + 1) (by omega) dc_347_6 ?_
  refine Bod.put dc_347_7 fr_347_190 (mk_61 _) (Nat.le_of_ble_eq_true rfl) pf_14_15 (st_6115 _ _) (mu_I _ _ _) ?_
  refine Bod.go dc_347_10 rfl ?_
  refine Bod.bip 34 (by decide) dc_347_11 ?_
  refine Bod.virt (r := []) dc_347_13 kr_347_305 ⟨Or.inl rfl, ow_325, cl_14⟩ (by rw [np_325]; rfl) (by rw [np_325]; rfl) (ob_of (mk_61 _)) (Nat.le_of_ble_eq_true rfl) (c1  ) ?_
  show Bod _ _ _ _ [_] _ _ _
  refine Bod.istn dc_347_16 (by rw [ml_347]; exact Nat.le_of_ble_eq_true rfl) ?_
  refine Bod.go dc_347_17 rfl ?_
  refine Bod.go dc_347_18 rfl ?_
  refine Bod.get dc_347_19 fr_347_245 (mk_61 _) rfl ?_
  refine Bod.eqI (nI f6127) (by first | (simp (disch := omega) only [rI, rIe, rA, rIA, rLA, rJA, rVI, rQI, rVA, rQA, upd_at,  rAI, rLI, rJI, nI_add, pk_sub, kc_0, kc_1, kc_2, kc_3, kc_4, kc_5, reduceIte, Nat.reduceEqDiff, Nat.add_zero, rI_hold, rI_hold, rL_hold, hk, hf6127]; done) | (simp (disch := omega) only [rI, rIe, rA, rIA, rLA, rJA, rVI, rQI, rVA, rQA, upd_at,  rAI, rLI, rJI, nI_add, pk_sub, kc_0, kc_1, kc_2, kc_3, kc_4, kc_5, reduceIte, Nat.reduceEqDiff, Nat.add_zero, rI_hold, rI_hold, rL_hold, hk, hf6127]; exact congrArg nI (by omega))) ?_
  refine Bod.ic 1 (by decide) dc_347_22 ?_
  refine Bod.addN (f6127 + 1) (by omega) dc_347_23 ?_
  refine Bod.put dc_347_24 fr_347_245 (mk_61 _) (Nat.le_of_ble_eq_true rfl) pf_14_27 (st_6127 _ _) (mu_I _ _ _) ?_
  refine Bod.go dc_347_27 rfl ?_
  refine Bod.go dc_347_28 rfl ?_
  refine Bod.ic 0 (by decide) dc_347_29 ?_
  refine Bod.virt (r := []) dc_347_30 kr_347_309 ⟨Or.inl rfl, ow_334, cl_14⟩ (by rw [np_334]; rfl) (by rw [np_334]; rfl) (ob_of (mk_61 _)) (Nat.le_of_ble_eq_true rfl) (c2  ) ?_
  show Bod _ _ _ _ [_] _ _ _
  refine Bod.ifT dc_347_33 rfl (k1_ne_T (k_ne 1 0 rfl rfl (by omega) (by omega) (by omega))) ?_
  refine Bod.go dc_347_38 rfl ?_
  refine Bod.go dc_347_39 rfl ?_
  refine Bod.get dc_347_40 fr_347_245 (mk_61 _) rfl ?_
  refine Bod.eqI (nI f61271) (by first | (simp (disch := omega) only [rI, rIe, rA, rIA, rLA, rJA, rVI, rQI, rVA, rQA, upd_at,  rAI, rLI, rJI, nI_add, pk_sub, kc_0, kc_1, kc_2, kc_3, kc_4, kc_5, reduceIte, Nat.reduceEqDiff, Nat.add_zero, rI_hold, rI_hold, rL_hold, hk, hf6127, hf61271]; done) | (simp (disch := omega) only [rI, rIe, rA, rIA, rLA, rJA, rVI, rQI, rVA, rQA, upd_at,  rAI, rLI, rJI, nI_add, pk_sub, kc_0, kc_1, kc_2, kc_3, kc_4, kc_5, reduceIte, Nat.reduceEqDiff, Nat.add_zero, rI_hold, rI_hold, rL_hold, hk, hf6127, hf61271]; exact congrArg nI (by omega))) ?_
  refine Bod.ic 1 (by decide) dc_347_43 ?_
  refine Bod.subN (f61271 - 1) (by omega) (by omega) dc_347_44 ?_
  refine Bod.put dc_347_45 fr_347_245 (mk_61 _) (Nat.le_of_ble_eq_true rfl) pf_14_27 (st_6127 _ _) (mu_I _ _ _) ?_
  refine Bod.go dc_347_48 rfl ?_
  refine Bod.bip 35 (by decide) dc_347_49 ?_
  refine Bod.virt (r := []) dc_347_51 kr_347_269 ⟨Or.inl rfl, ow_322, cl_14⟩ (by rw [np_322]; rfl) (by rw [np_322]; rfl) (ob_of (mk_61 _)) (Nat.le_of_ble_eq_true rfl) (c3  ) ?_
  show Bod _ _ _ _ [] _ _ _
  refine Bod.go dc_347_54 rfl ?_
  refine Bod.bip 11 (by decide) dc_347_55 ?_
  refine Bod.virt (r := []) dc_347_57 kr_347_305 ⟨Or.inl rfl, ow_325, cl_14⟩ (by rw [np_325]; rfl) (by rw [np_325]; rfl) (ob_of (mk_61 _)) (Nat.le_of_ble_eq_true rfl) (c4  ) ?_
  show Bod _ _ _ _ [_] _ _ _
  refine Bod.istn dc_347_60 (by rw [ml_347]; exact Nat.le_of_ble_eq_true rfl) ?_
  refine Bod.go dc_347_61 rfl ?_
  refine Bod.go dc_347_62 rfl ?_
  refine Bod.virt (r := []) dc_347_63 kr_347_317 ⟨Or.inl rfl, ow_326, cl_14⟩ (by rw [np_326]; rfl) (by rw [np_326]; rfl) (ob_of (mk_61 _)) (Nat.le_of_ble_eq_true rfl) (c5  ) ?_
  show Bod _ _ _ _ [] _ _ _
  refine Bod.go dc_347_66 rfl ?_
  refine Bod.get dc_347_67 fr_347_129 (mk_61 _) rfl ?_
  refine Bod.go dc_347_70 rfl ?_
  refine Bod.get dc_347_71 fr_347_190 (mk_61 _) rfl ?_
  refine Bod.eqI (nI k1) (by first | (simp (disch := omega) only [rI, rIe, rA, rIA, rLA, rJA, rVI, rQI, rVA, rQA, upd_at,  rAI, rLI, rJI, nI_add, pk_sub, kc_0, kc_1, kc_2, kc_3, kc_4, kc_5, reduceIte, Nat.reduceEqDiff, Nat.add_zero, rI_hold, rI_hold, rL_hold, hk, hf6127, hf61271, hk1]; done) | (simp (disch := omega) only [rI, rIe, rA, rIA, rLA, rJA, rVI, rQI, rVA, rQA, upd_at,  rAI, rLI, rJI, nI_add, pk_sub, kc_0, kc_1, kc_2, kc_3, kc_4, kc_5, reduceIte, Nat.reduceEqDiff, Nat.add_zero, rI_hold, rI_hold, rL_hold, hk, hf6127, hf61271, hk1]; exact congrArg nI (by omega))) ?_
  refine Bod.ialdN k1 rfl (by omega) (by omega) dc_347_74 (mk_67 _) ?_
  refine Bod.eqI (nI e67) (by first | (simp (disch := omega) only [rI, rIe, rA, rIA, rLA, rJA, rVI, rQI, rVA, rQA, upd_at,  rAI, rLI, rJI, nI_add, pk_sub, kc_0, kc_1, kc_2, kc_3, kc_4, kc_5, reduceIte, Nat.reduceEqDiff, Nat.add_zero, rI_hold, rI_hold, rL_hold, hk, hf6127, hf61271, hk1, he67]; done) | (simp (disch := omega) only [rI, rIe, rA, rIA, rLA, rJA, rVI, rQI, rVA, rQA, upd_at,  rAI, rLI, rJI, nI_add, pk_sub, kc_0, kc_1, kc_2, kc_3, kc_4, kc_5, reduceIte, Nat.reduceEqDiff, Nat.add_zero, rI_hold, rI_hold, rL_hold, hk, hf6127, hf61271, hk1, he67]; exact congrArg nI (by omega))) ?_
  refine Bod.bip 7 (by decide) dc_347_75 ?_
  refine Bod.icF dc_347_77 rfl (k2_eq_F (k_ne e67 7 rfl rfl (by omega) (by omega) (by omega))) ?_
  refine Bod.go dc_347_80 rfl ?_
  refine Bod.get dc_347_81 fr_347_141 (mk_61 _) rfl ?_
  refine Bod.go dc_347_84 rfl ?_
  refine Bod.get dc_347_85 fr_347_190 (mk_61 _) rfl ?_
  refine Bod.eqI (nI k1) (by first | (simp (disch := omega) only [rI, rIe, rA, rIA, rLA, rJA, rVI, rQI, rVA, rQA, upd_at,  rAI, rLI, rJI, nI_add, pk_sub, kc_0, kc_1, kc_2, kc_3, kc_4, kc_5, reduceIte, Nat.reduceEqDiff, Nat.add_zero, rI_hold, rI_hold, rL_hold, hk, hf6127, hf61271, hk1, he67]; done) | (simp (disch := omega) only [rI, rIe, rA, rIA, rLA, rJA, rVI, rQI, rVA, rQA, upd_at,  rAI, rLI, rJI, nI_add, pk_sub, kc_0, kc_1, kc_2, kc_3, kc_4, kc_5, reduceIte, Nat.reduceEqDiff, Nat.add_zero, rI_hold, rI_hold, rL_hold, hk, hf6127, hf61271, hk1, he67]; exact congrArg nI (by omega))) ?_
  refine Bod.ialdN k1 rfl (by omega) (by omega) dc_347_88 (mk_70 _) ?_
  refine Bod.eqI (nI e70) (by first | (simp (disch := omega) only [rI, rIe, rA, rIA, rLA, rJA, rVI, rQI, rVA, rQA, upd_at,  rAI, rLI, rJI, nI_add, pk_sub, kc_0, kc_1, kc_2, kc_3, kc_4, kc_5, reduceIte, Nat.reduceEqDiff, Nat.add_zero, rI_hold, rI_hold, rL_hold, hk, hf6127, hf61271, hk1, he67, he70]; done) | (simp (disch := omega) only [rI, rIe, rA, rIA, rLA, rJA, rVI, rQI, rVA, rQA, upd_at,  rAI, rLI, rJI, nI_add, pk_sub, kc_0, kc_1, kc_2, kc_3, kc_4, kc_5, reduceIte, Nat.reduceEqDiff, Nat.add_zero, rI_hold, rI_hold, rL_hold, hk, hf6127, hf61271, hk1, he67, he70]; exact congrArg nI (by omega))) ?_
  refine Bod.go dc_347_89 rfl ?_
  refine Bod.icT dc_347_90 rfl (k2_ne_T (k_ne e70 a rfl rfl (by omega) (by omega) (by omega))) ?_
  refine Bod.go dc_347_102 rfl ?_
  refine Bod.virt (r := []) dc_347_103 kr_347_202 ⟨Or.inl rfl, ow_299, cl_14⟩ (by rw [np_299]; rfl) (by rw [np_299]; rfl) (ob_of (mk_61 _)) (Nat.le_of_ble_eq_true rfl) (c6  ) ?_
  show Bod _ _ _ _ [_] _ _ _
  exact Bod.retZ dc_347_106 rt_347 (Or.inl rfl)
theorem sIf_5 {d : Nat} {S : cS} {a : Nat} {k : Nat} {S1 : cS} {a : Nat} {f6127 : Nat} {S2 : cS} {f61271 : Nat} {S3 : cS} {S4 : cS} {a1 : Nat} {S5 : cS} {k1 : Nat} {e67 : Nat} {e70 : Nat} {S6 : cS} {k2 : Nat} {S7 : cS} {k3 : Nat} {e671 : Nat} {S8 : cS} {S9 : cS} {S10 : cS} (ma : a < 2 ^ 20) (hk : sI S 6115 = nI k) (mk : k < 5990) (ma : a < 2 ^ 20) (c1 : Ans (d + 8) 325 [.ref 61, .int (nI 34)] (wI 6115 (nI (k + 1)) S) (some (.int (nI a))) S1) (hf6127 : sI S1 6127 = nI f6127) (mf6127 : f6127 < 2 ^ 20) (c2 : Ans (d + 8) 334 [.ref 61, .int (nI a), .int (nI 0)] (wI 6127 (nI (f6127 + 1)) S1) (some (.int (nI 1))) S2) (hf61271 : sI S2 6127 = nI f61271) (mf61271 : f61271 < 2 ^ 20) (b1 : 1 ≤ f61271) (c3 : Ans (d + 8) 322 [.ref 61, .int (nI 35)] (wI 6127 (nI (f61271 - 1)) S2) none S3) (ma1 : a1 < 2 ^ 20) (c4 : Ans (d + 8) 325 [.ref 61, .int (nI 11)] S3 (some (.int (nI a1))) S4) (c5 : Ans (d + 8) 326 [.ref 61, .int (nI a)] S4 none S5) (hk1 : sI S5 6115 = nI k1) (mk1 : k1 < 5990) (he67 : sA S5 67 k1 = nI e67) (me67 : e67 < 2 ^ 20) (b2 : e67 ≠ 7) (he70 : sA S5 70 k1 = nI e70) (me70 : e70 < 2 ^ 20) (b3 : e70 = a) (c6 : Ans (d + 8) 309 [.ref 61, .int (nI 15)] S5 (some (.int (nI 1))) S6) (hk2 : sI S6 6115 = nI k2) (mk2 : k2 < 5990) (c7 : Ans (d + 8) 322 [.ref 61, .int (nI 36)] (wI 6115 (nI (k2 + 1)) S6) none S7) (hk3 : sI S7 6115 = nI k3) (mk3 : k3 < 5990) (he671 : sA S7 67 k3 = nI e671) (me671 : e671 < 2 ^ 20) (b4 : e671 ≠ 1) (c8 : Ans (d + 8) 322 [.ref 61, .int (nI 20)] S7 none S8) (c9 : Ans (d + 8) 334 [.ref 61, .int (nI a), .int (nI 0)] S8 (some (.int (nI 1))) S9) (c10 : Ans (d + 8) 326 [.ref 61, .int (nI a1)] S9 none S10) : Bod (d + 8) 347 0 [(0, .ref 61), (1, .int (nI a))] [] S (some (.int 1)) (S10) := by
  refine Bod.go dc_347_0 rfl ?_
  refine Bod.go dc_347_1 rfl ?_
  refine Bod.get dc_347_2 fr_347_190 (mk_61 _) rfl ?_
  refine Bod.eqI (nI k) (by first | assumption | rfl | exact congrArg nI (by omega) | (simp (disch := omega) only [rI, rIe, rA, rIA, rLA, rJA, rVI, rQI, rVA, rQA, upd_at,  rAI, rLI, rJI, nI_add, pk_sub, kc_0, kc_1, kc_2, kc_3, kc_4, kc_5, reduceIte, Nat.reduceEqDiff, Nat.add_zero, rI_hold, rI_hold, rL_hold, hk]; done)) ?_
  refine Bod.ic 1 (by decide) dc_347_5 ?_
  refine Bod.addN (k + 1) (by omega) dc_347_6 ?_
  refine Bod.put dc_347_7 fr_347_190 (mk_61 _) (Nat.le_of_ble_eq_true rfl) pf_14_15 (st_6115 _ _) (mu_I _ _ _) ?_
  refine Bod.go dc_347_10 rfl ?_
  refine Bod.bip 34 (by decide) dc_347_11 ?_
  refine Bod.virt (r := []) dc_347_13 kr_347_305 ⟨Or.inl rfl, ow_325, cl_14⟩ (by rw [np_325]; rfl) (by rw [np_325]; rfl) (ob_of (mk_61 _)) (Nat.le_of_ble_eq_true rfl) (c1  ) ?_
  show Bod _ _ _ _ [_] _ _ _
  refine Bod.istn dc_347_16 (by rw [ml_347]; exact Nat.le_of_ble_eq_true rfl) ?_
  refine Bod.go dc_347_17 rfl ?_
  refine Bod.go dc_347_18 rfl ?_
  refine Bod.get dc_347_19 fr_347_245 (mk_61 _) rfl ?_
  refine Bod.eqI (nI f6127) (by first | (simp (disch := omega) only [rI, rIe, rA, rIA, rLA, rJA, rVI, rQI, rVA, rQA, upd_at,  rAI, rLI, rJI, nI_add, pk_sub, kc_0, kc_1, kc_2, kc_3, kc_4, kc_5, reduceIte, Nat.reduceEqDiff, Nat.add_zero, rI_hold, rI_hold, rL_hold, hk, hf6127]; done) | (simp (disch := omega) only [rI, rIe, rA, rIA, rLA, rJA, rVI, rQI, rVA, rQA, upd_at,  rAI, rLI, rJI, nI_add, pk_sub, kc_0, kc_1, kc_2, kc_3, kc_4, kc_5, reduceIte, Nat.reduceEqDiff, Nat.add_zero, rI_hold, rI_hold, rL_hold, hk, hf6127]; exact congrArg nI (by omega))) ?_
  refine Bod.ic 1 (by decide) dc_347_22 ?_
  refine Bod.addN (f6127 + 1) (by omega) dc_347_23 ?_
  refine Bod.put dc_347_24 fr_347_245 (mk_61 _) (Nat.le_of_ble_eq_true rfl) pf_14_27 (st_6127 _ _) (mu_I _ _ _) ?_
  refine Bod.go dc_347_27 rfl ?_
  refine Bod.go dc_347_28 rfl ?_
  refine Bod.ic 0 (by decide) dc_347_29 ?_
  refine Bod.virt (r := []) dc_347_30 kr_347_309 ⟨Or.inl rfl, ow_334, cl_14⟩ (by rw [np_334]; rfl) (by rw [np_334]; rfl) (ob_of (mk_61 _)) (Nat.le_of_ble_eq_true rfl) (c2  ) ?_
  show Bod _ _ _ _ [_] _ _ _
  refine Bod.ifT dc_347_33 rfl (k1_ne_T (k_ne 1 0 rfl rfl (by omega) (by omega) (by omega))) ?_
  refine Bod.go dc_347_38 rfl ?_
  refine Bod.go dc_347_39 rfl ?_
  refine Bod.get dc_347_40 fr_347_245 (mk_61 _) rfl ?_
  refine Bod.eqI (nI f61271) (by first | (simp (disch := omega) only [rI, rIe, rA, rIA, rLA, rJA, rVI, rQI, rVA, rQA, upd_at,  rAI, rLI, rJI, nI_add, pk_sub, kc_0, kc_1, kc_2, kc_3, kc_4, kc_5, reduceIte, Nat.reduceEqDiff, Nat.add_zero, rI_hold, rI_hold, rL_hold, hk, hf6127, hf61271]; done) | (simp (disch := omega) only [rI, rIe, rA, rIA, rLA, rJA, rVI, rQI, rVA, rQA, upd_at,  rAI, rLI, rJI, nI_add, pk_sub, kc_0, kc_1, kc_2, kc_3, kc_4, kc_5, reduceIte, Nat.reduceEqDiff, Nat.add_zero, rI_hold, rI_hold, rL_hold, hk, hf6127, hf61271]; exact congrArg nI (by omega))) ?_
  refine Bod.ic 1 (by decide) dc_347_43 ?_
  refine Bod.subN (f61271 - 1) (by omega) (by omega) dc_347_44 ?_
  refine Bod.put dc_347_45 fr_347_245 (mk_61 _) (Nat.le_of_ble_eq_true rfl) pf_14_27 (st_6127 _ _) (mu_I _ _ _) ?_
  refine Bod.go dc_347_48 rfl ?_
  refine Bod.bip 35 (by decide) dc_347_49 ?_
  refine Bod.virt (r := []) dc_347_51 kr_347_269 ⟨Or.inl rfl, ow_322, cl_14⟩ (by rw [np_322]; rfl) (by rw [np_322]; rfl) (ob_of (mk_61 _)) (Nat.le_of_ble_eq_true rfl) (c3  ) ?_
  show Bod _ _ _ _ [] _ _ _
  refine Bod.go dc_347_54 rfl ?_
  refine Bod.bip 11 (by decide) dc_347_55 ?_
  refine Bod.virt (r := []) dc_347_57 kr_347_305 ⟨Or.inl rfl, ow_325, cl_14⟩ (by rw [np_325]; rfl) (by rw [np_325]; rfl) (ob_of (mk_61 _)) (Nat.le_of_ble_eq_true rfl) (c4  ) ?_
  show Bod _ _ _ _ [_] _ _ _
  refine Bod.istn dc_347_60 (by rw [ml_347]; exact Nat.le_of_ble_eq_true rfl) ?_
  refine Bod.go dc_347_61 rfl ?_
  refine Bod.go dc_347_62 rfl ?_
  refine Bod.virt (r := []) dc_347_63 kr_347_317 ⟨Or.inl rfl, ow_326, cl_14⟩ (by rw [np_326]; rfl) (by rw [np_326]; rfl) (ob_of (mk_61 _)) (Nat.le_of_ble_eq_true rfl) (c5  ) ?_
  show Bod _ _ _ _ [] _ _ _
  refine Bod.go dc_347_66 rfl ?_
  refine Bod.get dc_347_67 fr_347_129 (mk_61 _) rfl ?_
  refine Bod.go dc_347_70 rfl ?_
  refine Bod.get dc_347_71 fr_347_190 (mk_61 _) rfl ?_
  refine Bod.eqI (nI k1) (by first | (simp (disch := omega) only [rI, rIe, rA, rIA, rLA, rJA, rVI, rQI, rVA, rQA, upd_at,  rAI, rLI, rJI, nI_add, pk_sub, kc_0, kc_1, kc_2, kc_3, kc_4, kc_5, reduceIte, Nat.reduceEqDiff, Nat.add_zero, rI_hold, rI_hold, rL_hold, hk, hf6127, hf61271, hk1]; done) | (simp (disch := omega) only [rI, rIe, rA, rIA, rLA, rJA, rVI, rQI, rVA, rQA, upd_at,  rAI, rLI, rJI, nI_add, pk_sub, kc_0, kc_1, kc_2, kc_3, kc_4, kc_5, reduceIte, Nat.reduceEqDiff, Nat.add_zero, rI_hold, rI_hold, rL_hold, hk, hf6127, hf61271, hk1]; exact congrArg nI (by omega))) ?_
  refine Bod.ialdN k1 rfl (by omega) (by omega) dc_347_74 (mk_67 _) ?_
  refine Bod.eqI (nI e67) (by first | (simp (disch := omega) only [rI, rIe, rA, rIA, rLA, rJA, rVI, rQI, rVA, rQA, upd_at,  rAI, rLI, rJI, nI_add, pk_sub, kc_0, kc_1, kc_2, kc_3, kc_4, kc_5, reduceIte, Nat.reduceEqDiff, Nat.add_zero, rI_hold, rI_hold, rL_hold, hk, hf6127, hf61271, hk1, he67]; done) | (simp (disch := omega) only [rI, rIe, rA, rIA, rLA, rJA, rVI, rQI, rVA, rQA, upd_at,  rAI, rLI, rJI, nI_add, pk_sub, kc_0, kc_1, kc_2, kc_3, kc_4, kc_5, reduceIte, Nat.reduceEqDiff, Nat.add_zero, rI_hold, rI_hold, rL_hold, hk, hf6127, hf61271, hk1, he67]; exact congrArg nI (by omega))) ?_
  refine Bod.bip 7 (by decide) dc_347_75 ?_
  refine Bod.icF dc_347_77 rfl (k2_eq_F (k_ne e67 7 rfl rfl (by omega) (by omega) (by omega))) ?_
  refine Bod.go dc_347_80 rfl ?_
  refine Bod.get dc_347_81 fr_347_141 (mk_61 _) rfl ?_
  refine Bod.go dc_347_84 rfl ?_
  refine Bod.get dc_347_85 fr_347_190 (mk_61 _) rfl ?_
  refine Bod.eqI (nI k1) (by first | (simp (disch := omega) only [rI, rIe, rA, rIA, rLA, rJA, rVI, rQI, rVA, rQA, upd_at,  rAI, rLI, rJI, nI_add, pk_sub, kc_0, kc_1, kc_2, kc_3, kc_4, kc_5, reduceIte, Nat.reduceEqDiff, Nat.add_zero, rI_hold, rI_hold, rL_hold, hk, hf6127, hf61271, hk1, he67]; done) | (simp (disch := omega) only [rI, rIe, rA, rIA, rLA, rJA, rVI, rQI, rVA, rQA, upd_at,  rAI, rLI, rJI, nI_add, pk_sub, kc_0, kc_1, kc_2, kc_3, kc_4, kc_5, reduceIte, Nat.reduceEqDiff, Nat.add_zero, rI_hold, rI_hold, rL_hold, hk, hf6127, hf61271, hk1, he67]; exact congrArg nI (by omega))) ?_
  refine Bod.ialdN k1 rfl (by omega) (by omega) dc_347_88 (mk_70 _) ?_
  refine Bod.eqI (nI e70) (by first | (simp (disch := omega) only [rI, rIe, rA, rIA, rLA, rJA, rVI, rQI, rVA, rQA, upd_at,  rAI, rLI, rJI, nI_add, pk_sub, kc_0, kc_1, kc_2, kc_3, kc_4, kc_5, reduceIte, Nat.reduceEqDiff, Nat.add_zero, rI_hold, rI_hold, rL_hold, hk, hf6127, hf61271, hk1, he67, he70]; done) | (simp (disch := omega) only [rI, rIe, rA, rIA, rLA, rJA, rVI, rQI, rVA, rQA, upd_at,  rAI, rLI, rJI, nI_add, pk_sub, kc_0, kc_1, kc_2, kc_3, kc_4, kc_5, reduceIte, Nat.reduceEqDiff, Nat.add_zero, rI_hold, rI_hold, rL_hold, hk, hf6127, hf61271, hk1, he67, he70]; exact congrArg nI (by omega))) ?_
  refine Bod.go dc_347_89 rfl ?_
  refine Bod.icF dc_347_90 rfl (k2_ne_F (k_eq e70 a rfl rfl (by omega))) ?_
  refine Bod.go dc_347_93 rfl ?_
  refine Bod.bip 15 (by decide) dc_347_94 ?_
  refine Bod.virt (r := []) dc_347_96 kr_347_312 ⟨Or.inl rfl, ow_309, cl_14⟩ (by rw [np_309]; rfl) (by rw [np_309]; rfl) (ob_of (mk_61 _)) (Nat.le_of_ble_eq_true rfl) (c6  ) ?_
  show Bod _ _ _ _ [_] _ _ _
  refine Bod.ifT dc_347_99 rfl (k1_ne_T (k_ne 1 0 rfl rfl (by omega) (by omega) (by omega))) ?_
  refine Bod.go dc_347_107 rfl ?_
  refine Bod.go dc_347_108 rfl ?_
  refine Bod.get dc_347_109 fr_347_190 (mk_61 _) rfl ?_
  refine Bod.eqI (nI k2) (by first | (simp (disch := omega) only [rI, rIe, rA, rIA, rLA, rJA, rVI, rQI, rVA, rQA, upd_at,  rAI, rLI, rJI, nI_add, pk_sub, kc_0, kc_1, kc_2, kc_3, kc_4, kc_5, reduceIte, Nat.reduceEqDiff, Nat.add_zero, rI_hold, rI_hold, rL_hold, hk, hf6127, hf61271, hk1, he67, he70, hk2]; done) | (simp (disch := omega) only [rI, rIe, rA, rIA, rLA, rJA, rVI, rQI, rVA, rQA, upd_at,  rAI, rLI, rJI, nI_add, pk_sub, kc_0, kc_1, kc_2, kc_3, kc_4, kc_5, reduceIte, Nat.reduceEqDiff, Nat.add_zero, rI_hold, rI_hold, rL_hold, hk, hf6127, hf61271, hk1, he67, he70, hk2]; exact congrArg nI (by omega))) ?_
  refine Bod.ic 1 (by decide) dc_347_112 ?_
  refine Bod.addN (k2 + 1) (by omega) dc_347_113 ?_
  refine Bod.put dc_347_114 fr_347_190 (mk_61 _) (Nat.le_of_ble_eq_true rfl) pf_14_15 (st_6115 _ _) (mu_I _ _ _) ?_
  refine Bod.go dc_347_117 rfl ?_
  refine Bod.bip 36 (by decide) dc_347_118 ?_
  refine Bod.virt (r := []) dc_347_120 kr_347_269 ⟨Or.inl rfl, ow_322, cl_14⟩ (by rw [np_322]; rfl) (by rw [np_322]; rfl) (ob_of (mk_61 _)) (Nat.le_of_ble_eq_true rfl) (c7  ) ?_
  show Bod _ _ _ _ [] _ _ _
  refine Bod.go dc_347_123 rfl ?_
  refine Bod.get dc_347_124 fr_347_129 (mk_61 _) rfl ?_
  refine Bod.go dc_347_127 rfl ?_
  refine Bod.get dc_347_128 fr_347_190 (mk_61 _) rfl ?_
  refine Bod.eqI (nI k3) (by first | (simp (disch := omega) only [rI, rIe, rA, rIA, rLA, rJA, rVI, rQI, rVA, rQA, upd_at,  rAI, rLI, rJI, nI_add, pk_sub, kc_0, kc_1, kc_2, kc_3, kc_4, kc_5, reduceIte, Nat.reduceEqDiff, Nat.add_zero, rI_hold, rI_hold, rL_hold, hk, hf6127, hf61271, hk1, he67, he70, hk2, hk3]; done) | (simp (disch := omega) only [rI, rIe, rA, rIA, rLA, rJA, rVI, rQI, rVA, rQA, upd_at,  rAI, rLI, rJI, nI_add, pk_sub, kc_0, kc_1, kc_2, kc_3, kc_4, kc_5, reduceIte, Nat.reduceEqDiff, Nat.add_zero, rI_hold, rI_hold, rL_hold, hk, hf6127, hf61271, hk1, he67, he70, hk2, hk3]; exact congrArg nI (by omega))) ?_
  refine Bod.ialdN k3 rfl (by omega) (by omega) dc_347_131 (mk_67 _) ?_
  refine Bod.eqI (nI e671) (by first | (simp (disch := omega) only [rI, rIe, rA, rIA, rLA, rJA, rVI, rQI, rVA, rQA, upd_at,  rAI, rLI, rJI, nI_add, pk_sub, kc_0, kc_1, kc_2, kc_3, kc_4, kc_5, reduceIte, Nat.reduceEqDiff, Nat.add_zero, rI_hold, rI_hold, rL_hold, hk, hf6127, hf61271, hk1, he67, he70, hk2, hk3, he671]; done) | (simp (disch := omega) only [rI, rIe, rA, rIA, rLA, rJA, rVI, rQI, rVA, rQA, upd_at,  rAI, rLI, rJI, nI_add, pk_sub, kc_0, kc_1, kc_2, kc_3, kc_4, kc_5, reduceIte, Nat.reduceEqDiff, Nat.add_zero, rI_hold, rI_hold, rL_hold, hk, hf6127, hf61271, hk1, he67, he70, hk2, hk3, he671]; exact congrArg nI (by omega))) ?_
  refine Bod.ic 1 (by decide) dc_347_132 ?_
  refine Bod.icT dc_347_133 rfl (k2_ne_T (k_ne e671 1 rfl rfl (by omega) (by omega) (by omega))) ?_
  refine Bod.go dc_347_164 rfl ?_
  refine Bod.bip 20 (by decide) dc_347_165 ?_
  refine Bod.virt (r := []) dc_347_167 kr_347_269 ⟨Or.inl rfl, ow_322, cl_14⟩ (by rw [np_322]; rfl) (by rw [np_322]; rfl) (ob_of (mk_61 _)) (Nat.le_of_ble_eq_true rfl) (c8  ) ?_
  show Bod _ _ _ _ [] _ _ _
  refine Bod.go dc_347_170 rfl ?_
  refine Bod.go dc_347_171 rfl ?_
  refine Bod.ic 0 (by decide) dc_347_172 ?_
  refine Bod.virt (r := []) dc_347_173 kr_347_309 ⟨Or.inl rfl, ow_334, cl_14⟩ (by rw [np_334]; rfl) (by rw [np_334]; rfl) (ob_of (mk_61 _)) (Nat.le_of_ble_eq_true rfl) (c9  ) ?_
  show Bod _ _ _ _ [_] _ _ _
  refine Bod.ifT dc_347_176 rfl (k1_ne_T (k_ne 1 0 rfl rfl (by omega) (by omega) (by omega))) ?_
  refine Bod.go dc_347_181 rfl ?_
  refine Bod.go dc_347_182 rfl ?_
  refine Bod.virt (r := []) dc_347_183 kr_347_317 ⟨Or.inl rfl, ow_326, cl_14⟩ (by rw [np_326]; rfl) (by rw [np_326]; rfl) (ob_of (mk_61 _)) (Nat.le_of_ble_eq_true rfl) (c10  ) ?_
  show Bod _ _ _ _ [] _ _ _
  refine Bod.ic 1 (by decide) dc_347_186 ?_
  exact Bod.retZ dc_347_187 rt_347 (Or.inr rfl)
theorem sIf_6 {d : Nat} {S : cS} {a : Nat} {k : Nat} {S1 : cS} {a : Nat} {f6127 : Nat} {S2 : cS} {f61271 : Nat} {S3 : cS} {S4 : cS} {a1 : Nat} {S5 : cS} {k1 : Nat} {e67 : Nat} {e70 : Nat} {S6 : cS} {k2 : Nat} {S7 : cS} {k3 : Nat} {e671 : Nat} {S8 : cS} {S9 : cS} (ma : a < 2 ^ 20) (hk : sI S 6115 = nI k) (mk : k < 5990) (ma : a < 2 ^ 20) (c1 : Ans (d + 8) 325 [.ref 61, .int (nI 34)] (wI 6115 (nI (k + 1)) S) (some (.int (nI a))) S1) (hf6127 : sI S1 6127 = nI f6127) (mf6127 : f6127 < 2 ^ 20) (c2 : Ans (d + 8) 334 [.ref 61, .int (nI a), .int (nI 0)] (wI 6127 (nI (f6127 + 1)) S1) (some (.int (nI 1))) S2) (hf61271 : sI S2 6127 = nI f61271) (mf61271 : f61271 < 2 ^ 20) (b1 : 1 ≤ f61271) (c3 : Ans (d + 8) 322 [.ref 61, .int (nI 35)] (wI 6127 (nI (f61271 - 1)) S2) none S3) (ma1 : a1 < 2 ^ 20) (c4 : Ans (d + 8) 325 [.ref 61, .int (nI 11)] S3 (some (.int (nI a1))) S4) (c5 : Ans (d + 8) 326 [.ref 61, .int (nI a)] S4 none S5) (hk1 : sI S5 6115 = nI k1) (mk1 : k1 < 5990) (he67 : sA S5 67 k1 = nI e67) (me67 : e67 < 2 ^ 20) (b2 : e67 ≠ 7) (he70 : sA S5 70 k1 = nI e70) (me70 : e70 < 2 ^ 20) (b3 : e70 = a) (c6 : Ans (d + 8) 309 [.ref 61, .int (nI 15)] S5 (some (.int (nI 1))) S6) (hk2 : sI S6 6115 = nI k2) (mk2 : k2 < 5990) (c7 : Ans (d + 8) 322 [.ref 61, .int (nI 36)] (wI 6115 (nI (k2 + 1)) S6) none S7) (hk3 : sI S7 6115 = nI k3) (mk3 : k3 < 5990) (he671 : sA S7 67 k3 = nI e671) (me671 : e671 < 2 ^ 20) (b4 : e671 ≠ 1) (c8 : Ans (d + 8) 322 [.ref 61, .int (nI 20)] S7 none S8) (c9 : Ans (d + 8) 334 [.ref 61, .int (nI a), .int (nI 0)] S8 (some (.int (nI 0))) S9) : Bod (d + 8) 347 0 [(0, .ref 61), (1, .int (nI a))] [] S (some (.int 0)) (S9) := by
  refine Bod.go dc_347_0 rfl ?_
  refine Bod.go dc_347_1 rfl ?_
  refine Bod.get dc_347_2 fr_347_190 (mk_61 _) rfl ?_
  refine Bod.eqI (nI k) (by first | assumption | rfl | exact congrArg nI (by omega) | (simp (disch := omega) only [rI, rIe, rA, rIA, rLA, rJA, rVI, rQI, rVA, rQA, upd_at,  rAI, rLI, rJI, nI_add, pk_sub, kc_0, kc_1, kc_2, kc_3, kc_4, kc_5, reduceIte, Nat.reduceEqDiff, Nat.add_zero, rI_hold, rI_hold, rL_hold, hk]; done)) ?_
  refine Bod.ic 1 (by decide) dc_347_5 ?_
  refine Bod.addN (k + 1) (by omega) dc_347_6 ?_
  refine Bod.put dc_347_7 fr_347_190 (mk_61 _) (Nat.le_of_ble_eq_true rfl) pf_14_15 (st_6115 _ _) (mu_I _ _ _) ?_
  refine Bod.go dc_347_10 rfl ?_
  refine Bod.bip 34 (by decide) dc_347_11 ?_
  refine Bod.virt (r := []) dc_347_13 kr_347_305 ⟨Or.inl rfl, ow_325, cl_14⟩ (by rw [np_325]; rfl) (by rw [np_325]; rfl) (ob_of (mk_61 _)) (Nat.le_of_ble_eq_true rfl) (c1  ) ?_
  show Bod _ _ _ _ [_] _ _ _
  refine Bod.istn dc_347_16 (by rw [ml_347]; exact Nat.le_of_ble_eq_true rfl) ?_
  refine Bod.go dc_347_17 rfl ?_
  refine Bod.go dc_347_18 rfl ?_
  refine Bod.get dc_347_19 fr_347_245 (mk_61 _) rfl ?_
  refine Bod.eqI (nI f6127) (by first | (simp (disch := omega) only [rI, rIe, rA, rIA, rLA, rJA, rVI, rQI, rVA, rQA, upd_at,  rAI, rLI, rJI, nI_add, pk_sub, kc_0, kc_1, kc_2, kc_3, kc_4, kc_5, reduceIte, Nat.reduceEqDiff, Nat.add_zero, rI_hold, rI_hold, rL_hold, hk, hf6127]; done) | (simp (disch := omega) only [rI, rIe, rA, rIA, rLA, rJA, rVI, rQI, rVA, rQA, upd_at,  rAI, rLI, rJI, nI_add, pk_sub, kc_0, kc_1, kc_2, kc_3, kc_4, kc_5, reduceIte, Nat.reduceEqDiff, Nat.add_zero, rI_hold, rI_hold, rL_hold, hk, hf6127]; exact congrArg nI (by omega))) ?_
  refine Bod.ic 1 (by decide) dc_347_22 ?_
  refine Bod.addN (f6127 + 1) (by omega) dc_347_23 ?_
  refine Bod.put dc_347_24 fr_347_245 (mk_61 _) (Nat.le_of_ble_eq_true rfl) pf_14_27 (st_6127 _ _) (mu_I _ _ _) ?_
  refine Bod.go dc_347_27 rfl ?_
  refine Bod.go dc_347_28 rfl ?_
  refine Bod.ic 0 (by decide) dc_347_29 ?_
  refine Bod.virt (r := []) dc_347_30 kr_347_309 ⟨Or.inl rfl, ow_334, cl_14⟩ (by rw [np_334]; rfl) (by rw [np_334]; rfl) (ob_of (mk_61 _)) (Nat.le_of_ble_eq_true rfl) (c2  ) ?_
  show Bod _ _ _ _ [_] _ _ _
  refine Bod.ifT dc_347_33 rfl (k1_ne_T (k_ne 1 0 rfl rfl (by omega) (by omega) (by omega))) ?_
  refine Bod.go dc_347_38 rfl ?_
  refine Bod.go dc_347_39 rfl ?_
  refine Bod.get dc_347_40 fr_347_245 (mk_61 _) rfl ?_
  refine Bod.eqI (nI f61271) (by first | (simp (disch := omega) only [rI, rIe, rA, rIA, rLA, rJA, rVI, rQI, rVA, rQA, upd_at,  rAI, rLI, rJI, nI_add, pk_sub, kc_0, kc_1, kc_2, kc_3, kc_4, kc_5, reduceIte, Nat.reduceEqDiff, Nat.add_zero, rI_hold, rI_hold, rL_hold, hk, hf6127, hf61271]; done) | (simp (disch := omega) only [rI, rIe, rA, rIA, rLA, rJA, rVI, rQI, rVA, rQA, upd_at,  rAI, rLI, rJI, nI_add, pk_sub, kc_0, kc_1, kc_2, kc_3, kc_4, kc_5, reduceIte, Nat.reduceEqDiff, Nat.add_zero, rI_hold, rI_hold, rL_hold, hk, hf6127, hf61271]; exact congrArg nI (by omega))) ?_
  refine Bod.ic 1 (by decide) dc_347_43 ?_
  refine Bod.subN (f61271 - 1) (by omega) (by omega) dc_347_44 ?_
  refine Bod.put dc_347_45 fr_347_245 (mk_61 _) (Nat.le_of_ble_eq_true rfl) pf_14_27 (st_6127 _ _) (mu_I _ _ _) ?_
  refine Bod.go dc_347_48 rfl ?_
  refine Bod.bip 35 (by decide) dc_347_49 ?_
  refine Bod.virt (r := []) dc_347_51 kr_347_269 ⟨Or.inl rfl, ow_322, cl_14⟩ (by rw [np_322]; rfl) (by rw [np_322]; rfl) (ob_of (mk_61 _)) (Nat.le_of_ble_eq_true rfl) (c3  ) ?_
  show Bod _ _ _ _ [] _ _ _
  refine Bod.go dc_347_54 rfl ?_
  refine Bod.bip 11 (by decide) dc_347_55 ?_
  refine Bod.virt (r := []) dc_347_57 kr_347_305 ⟨Or.inl rfl, ow_325, cl_14⟩ (by rw [np_325]; rfl) (by rw [np_325]; rfl) (ob_of (mk_61 _)) (Nat.le_of_ble_eq_true rfl) (c4  ) ?_
  show Bod _ _ _ _ [_] _ _ _
  refine Bod.istn dc_347_60 (by rw [ml_347]; exact Nat.le_of_ble_eq_true rfl) ?_
  refine Bod.go dc_347_61 rfl ?_
  refine Bod.go dc_347_62 rfl ?_
  refine Bod.virt (r := []) dc_347_63 kr_347_317 ⟨Or.inl rfl, ow_326, cl_14⟩ (by rw [np_326]; rfl) (by rw [np_326]; rfl) (ob_of (mk_61 _)) (Nat.le_of_ble_eq_true rfl) (c5  ) ?_
  show Bod _ _ _ _ [] _ _ _
  refine Bod.go dc_347_66 rfl ?_
  refine Bod.get dc_347_67 fr_347_129 (mk_61 _) rfl ?_
  refine Bod.go dc_347_70 rfl ?_
  refine Bod.get dc_347_71 fr_347_190 (mk_61 _) rfl ?_
  refine Bod.eqI (nI k1) (by first | (simp (disch := omega) only [rI, rIe, rA, rIA, rLA, rJA, rVI, rQI, rVA, rQA, upd_at,  rAI, rLI, rJI, nI_add, pk_sub, kc_0, kc_1, kc_2, kc_3, kc_4, kc_5, reduceIte, Nat.reduceEqDiff, Nat.add_zero, rI_hold, rI_hold, rL_hold, hk, hf6127, hf61271, hk1]; done) | (simp (disch := omega) only [rI, rIe, rA, rIA, rLA, rJA, rVI, rQI, rVA, rQA, upd_at,  rAI, rLI, rJI, nI_add, pk_sub, kc_0, kc_1, kc_2, kc_3, kc_4, kc_5, reduceIte, Nat.reduceEqDiff, Nat.add_zero, rI_hold, rI_hold, rL_hold, hk, hf6127, hf61271, hk1]; exact congrArg nI (by omega))) ?_
  refine Bod.ialdN k1 rfl (by omega) (by omega) dc_347_74 (mk_67 _) ?_
  refine Bod.eqI (nI e67) (by first | (simp (disch := omega) only [rI, rIe, rA, rIA, rLA, rJA, rVI, rQI, rVA, rQA, upd_at,  rAI, rLI, rJI, nI_add, pk_sub, kc_0, kc_1, kc_2, kc_3, kc_4, kc_5, reduceIte, Nat.reduceEqDiff, Nat.add_zero, rI_hold, rI_hold, rL_hold, hk, hf6127, hf61271, hk1, he67]; done) | (simp (disch := omega) only [rI, rIe, rA, rIA, rLA, rJA, rVI, rQI, rVA, rQA, upd_at,  rAI, rLI, rJI, nI_add, pk_sub, kc_0, kc_1, kc_2, kc_3, kc_4, kc_5, reduceIte, Nat.reduceEqDiff, Nat.add_zero, rI_hold, rI_hold, rL_hold, hk, hf6127, hf61271, hk1, he67]; exact congrArg nI (by omega))) ?_
  refine Bod.bip 7 (by decide) dc_347_75 ?_
  refine Bod.icF dc_347_77 rfl (k2_eq_F (k_ne e67 7 rfl rfl (by omega) (by omega) (by omega))) ?_
  refine Bod.go dc_347_80 rfl ?_
  refine Bod.get dc_347_81 fr_347_141 (mk_61 _) rfl ?_
  refine Bod.go dc_347_84 rfl ?_
  refine Bod.get dc_347_85 fr_347_190 (mk_61 _) rfl ?_
  refine Bod.eqI (nI k1) (by first | (simp (disch := omega) only [rI, rIe, rA, rIA, rLA, rJA, rVI, rQI, rVA, rQA, upd_at,  rAI, rLI, rJI, nI_add, pk_sub, kc_0, kc_1, kc_2, kc_3, kc_4, kc_5, reduceIte, Nat.reduceEqDiff, Nat.add_zero, rI_hold, rI_hold, rL_hold, hk, hf6127, hf61271, hk1, he67]; done) | (simp (disch := omega) only [rI, rIe, rA, rIA, rLA, rJA, rVI, rQI, rVA, rQA, upd_at,  rAI, rLI, rJI, nI_add, pk_sub, kc_0, kc_1, kc_2, kc_3, kc_4, kc_5, reduceIte, Nat.reduceEqDiff, Nat.add_zero, rI_hold, rI_hold, rL_hold, hk, hf6127, hf61271, hk1, he67]; exact congrArg nI (by omega))) ?_
  refine Bod.ialdN k1 rfl (by omega) (by omega) dc_347_88 (mk_70 _) ?_
  refine Bod.eqI (nI e70) (by first | (simp (disch := omega) only [rI, rIe, rA, rIA, rLA, rJA, rVI, rQI, rVA, rQA, upd_at,  rAI, rLI, rJI, nI_add, pk_sub, kc_0, kc_1, kc_2, kc_3, kc_4, kc_5, reduceIte, Nat.reduceEqDiff, Nat.add_zero, rI_hold, rI_hold, rL_hold, hk, hf6127, hf61271, hk1, he67, he70]; done) | (simp (disch := omega) only [rI, rIe, rA, rIA, rLA, rJA, rVI, rQI, rVA, rQA, upd_at,  rAI, rLI, rJI, nI_add, pk_sub, kc_0, kc_1, kc_2, kc_3, kc_4, kc_5, reduceIte, Nat.reduceEqDiff, Nat.add_zero, rI_hold, rI_hold, rL_hold, hk, hf6127, hf61271, hk1, he67, he70]; exact congrArg nI (by omega))) ?_
  refine Bod.go dc_347_89 rfl ?_
  refine Bod.icF dc_347_90 rfl (k2_ne_F (k_eq e70 a rfl rfl (by omega))) ?_
  refine Bod.go dc_347_93 rfl ?_
  refine Bod.bip 15 (by decide) dc_347_94 ?_
  refine Bod.virt (r := []) dc_347_96 kr_347_312 ⟨Or.inl rfl, ow_309, cl_14⟩ (by rw [np_309]; rfl) (by rw [np_309]; rfl) (ob_of (mk_61 _)) (Nat.le_of_ble_eq_true rfl) (c6  ) ?_
  show Bod _ _ _ _ [_] _ _ _
  refine Bod.ifT dc_347_99 rfl (k1_ne_T (k_ne 1 0 rfl rfl (by omega) (by omega) (by omega))) ?_
  refine Bod.go dc_347_107 rfl ?_
  refine Bod.go dc_347_108 rfl ?_
  refine Bod.get dc_347_109 fr_347_190 (mk_61 _) rfl ?_
  refine Bod.eqI (nI k2) (by first | (simp (disch := omega) only [rI, rIe, rA, rIA, rLA, rJA, rVI, rQI, rVA, rQA, upd_at,  rAI, rLI, rJI, nI_add, pk_sub, kc_0, kc_1, kc_2, kc_3, kc_4, kc_5, reduceIte, Nat.reduceEqDiff, Nat.add_zero, rI_hold, rI_hold, rL_hold, hk, hf6127, hf61271, hk1, he67, he70, hk2]; done) | (simp (disch := omega) only [rI, rIe, rA, rIA, rLA, rJA, rVI, rQI, rVA, rQA, upd_at,  rAI, rLI, rJI, nI_add, pk_sub, kc_0, kc_1, kc_2, kc_3, kc_4, kc_5, reduceIte, Nat.reduceEqDiff, Nat.add_zero, rI_hold, rI_hold, rL_hold, hk, hf6127, hf61271, hk1, he67, he70, hk2]; exact congrArg nI (by omega))) ?_
  refine Bod.ic 1 (by decide) dc_347_112 ?_
  refine Bod.addN (k2 + 1) (by omega) dc_347_113 ?_
  refine Bod.put dc_347_114 fr_347_190 (mk_61 _) (Nat.le_of_ble_eq_true rfl) pf_14_15 (st_6115 _ _) (mu_I _ _ _) ?_
  refine Bod.go dc_347_117 rfl ?_
  refine Bod.bip 36 (by decide) dc_347_118 ?_
  refine Bod.virt (r := []) dc_347_120 kr_347_269 ⟨Or.inl rfl, ow_322, cl_14⟩ (by rw [np_322]; rfl) (by rw [np_322]; rfl) (ob_of (mk_61 _)) (Nat.le_of_ble_eq_true rfl) (c7  ) ?_
  show Bod _ _ _ _ [] _ _ _
  refine Bod.go dc_347_123 rfl ?_
  refine Bod.get dc_347_124 fr_347_129 (mk_61 _) rfl ?_
  refine Bod.go dc_347_127 rfl ?_
  refine Bod.get dc_347_128 fr_347_190 (mk_61 _) rfl ?_
  refine Bod.eqI (nI k3) (by first | (simp (disch := omega) only [rI, rIe, rA, rIA, rLA, rJA, rVI, rQI, rVA, rQA, upd_at,  rAI, rLI, rJI, nI_add, pk_sub, kc_0, kc_1, kc_2, kc_3, kc_4, kc_5, reduceIte, Nat.reduceEqDiff, Nat.add_zero, rI_hold, rI_hold, rL_hold, hk, hf6127, hf61271, hk1, he67, he70, hk2, hk3]; done) | (simp (disch := omega) only [rI, rIe, rA, rIA, rLA, rJA, rVI, rQI, rVA, rQA, upd_at,  rAI, rLI, rJI, nI_add, pk_sub, kc_0, kc_1, kc_2, kc_3, kc_4, kc_5, reduceIte, Nat.reduceEqDiff, Nat.add_zero, rI_hold, rI_hold, rL_hold, hk, hf6127, hf61271, hk1, he67, he70, hk2, hk3]; exact congrArg nI (by omega))) ?_
  refine Bod.ialdN k3 rfl (by omega) (by omega) dc_347_131 (mk_67 _) ?_
  refine Bod.eqI (nI e671) (by first | (simp (disch := omega) only [rI, rIe, rA, rIA, rLA, rJA, rVI, rQI, rVA, rQA, upd_at,  rAI, rLI, rJI, nI_add, pk_sub, kc_0, kc_1, kc_2, kc_3, kc_4, kc_5, reduceIte, Nat.reduceEqDiff, Nat.add_zero, rI_hold, rI_hold, rL_hold, hk, hf6127, hf61271, hk1, he67, he70, hk2, hk3, he671]; done) | (simp (disch := omega) only [rI, rIe, rA, rIA, rLA, rJA, rVI, rQI, rVA, rQA, upd_at,  rAI, rLI, rJI, nI_add, pk_sub, kc_0, kc_1, kc_2, kc_3, kc_4, kc_5, reduceIte, Nat.reduceEqDiff, Nat.add_zero, rI_hold, rI_hold, rL_hold, hk, hf6127, hf61271, hk1, he67, he70, hk2, hk3, he671]; exact congrArg nI (by omega))) ?_
  refine Bod.ic 1 (by decide) dc_347_132 ?_
  refine Bod.icT dc_347_133 rfl (k2_ne_T (k_ne e671 1 rfl rfl (by omega) (by omega) (by omega))) ?_
  refine Bod.go dc_347_164 rfl ?_
  refine Bod.bip 20 (by decide) dc_347_165 ?_
  refine Bod.virt (r := []) dc_347_167 kr_347_269 ⟨Or.inl rfl, ow_322, cl_14⟩ (by rw [np_322]; rfl) (by rw [np_322]; rfl) (ob_of (mk_61 _)) (Nat.le_of_ble_eq_true rfl) (c8  ) ?_
  show Bod _ _ _ _ [] _ _ _
  refine Bod.go dc_347_170 rfl ?_
  refine Bod.go dc_347_171 rfl ?_
  refine Bod.ic 0 (by decide) dc_347_172 ?_
  refine Bod.virt (r := []) dc_347_173 kr_347_309 ⟨Or.inl rfl, ow_334, cl_14⟩ (by rw [np_334]; rfl) (by rw [np_334]; rfl) (ob_of (mk_61 _)) (Nat.le_of_ble_eq_true rfl) (c9  ) ?_
  show Bod _ _ _ _ [_] _ _ _
  refine Bod.ifF dc_347_176 rfl (k1_ne_F (k_eq 0 0 rfl rfl (by omega))) ?_
  refine Bod.ic 0 (by decide) dc_347_179 ?_
  exact Bod.retZ dc_347_180 rt_347 (Or.inl rfl)
theorem sIf_7 {d : Nat} {S : cS} {a : Nat} {k : Nat} {S1 : cS} {a : Nat} {f6127 : Nat} {S2 : cS} {f61271 : Nat} {S3 : cS} {S4 : cS} {a1 : Nat} {S5 : cS} {k1 : Nat} {e67 : Nat} {e70 : Nat} {S6 : cS} {k2 : Nat} {S7 : cS} {k3 : Nat} {e671 : Nat} {e68 : Nat} {S8 : cS} {k4 : Nat} {S9 : cS} {S10 : cS} (ma : a < 2 ^ 20) (hk : sI S 6115 = nI k) (mk : k < 5990) (ma : a < 2 ^ 20) (c1 : Ans (d + 8) 325 [.ref 61, .int (nI 34)] (wI 6115 (nI (k + 1)) S) (some (.int (nI a))) S1) (hf6127 : sI S1 6127 = nI f6127) (mf6127 : f6127 < 2 ^ 20) (c2 : Ans (d + 8) 334 [.ref 61, .int (nI a), .int (nI 0)] (wI 6127 (nI (f6127 + 1)) S1) (some (.int (nI 1))) S2) (hf61271 : sI S2 6127 = nI f61271) (mf61271 : f61271 < 2 ^ 20) (b1 : 1 ≤ f61271) (c3 : Ans (d + 8) 322 [.ref 61, .int (nI 35)] (wI 6127 (nI (f61271 - 1)) S2) none S3) (ma1 : a1 < 2 ^ 20) (c4 : Ans (d + 8) 325 [.ref 61, .int (nI 11)] S3 (some (.int (nI a1))) S4) (c5 : Ans (d + 8) 326 [.ref 61, .int (nI a)] S4 none S5) (hk1 : sI S5 6115 = nI k1) (mk1 : k1 < 5990) (he67 : sA S5 67 k1 = nI e67) (me67 : e67 < 2 ^ 20) (b2 : e67 ≠ 7) (he70 : sA S5 70 k1 = nI e70) (me70 : e70 < 2 ^ 20) (b3 : e70 = a) (c6 : Ans (d + 8) 309 [.ref 61, .int (nI 15)] S5 (some (.int (nI 1))) S6) (hk2 : sI S6 6115 = nI k2) (mk2 : k2 < 5990) (c7 : Ans (d + 8) 322 [.ref 61, .int (nI 36)] (wI 6115 (nI (k2 + 1)) S6) none S7) (hk3 : sI S7 6115 = nI k3) (mk3 : k3 < 5990) (he671 : sA S7 67 k3 = nI e671) (me671 : e671 < 2 ^ 20) (b4 : e671 = 1) (he68 : sA S7 68 k3 = nI e68) (me68 : e68 < 2 ^ 20) (c8 : Ans (d + 8) 317 [.ref 61, .int (nI 6), .int (nI e68)] S7 none S8) (hk4 : sI S8 6115 = nI k4) (mk4 : k4 < 5990) (c9 : Ans (d + 8) 334 [.ref 61, .int (nI a), .int (nI 0)] (wI 6115 (nI (k4 + 1)) S8) (some (.int (nI 1))) S9) (c10 : Ans (d + 8) 326 [.ref 61, .int (nI a1)] S9 none S10) : Bod (d + 8) 347 0 [(0, .ref 61), (1, .int (nI a))] [] S (some (.int 1)) (S10) := by
  refine Bod.go dc_347_0 rfl ?_
  refine Bod.go dc_347_1 rfl ?_
  refine Bod.get dc_347_2 fr_347_190 (mk_61 _) rfl ?_
  refine Bod.eqI (nI k) (by first | assumption | rfl | exact congrArg nI (by omega) | (simp (disch := omega) only [rI, rIe, rA, rIA, rLA, rJA, rVI, rQI, rVA, rQA, upd_at,  rAI, rLI, rJI, nI_add, pk_sub, kc_0, kc_1, kc_2, kc_3, kc_4, kc_5, reduceIte, Nat.reduceEqDiff, Nat.add_zero, rI_hold, rI_hold, rL_hold, hk]; done)) ?_
  refine Bod.ic 1 (by decide) dc_347_5 ?_
  refine Bod.addN (k + 1) (by omega) dc_347_6 ?_
  refine Bod.put dc_347_7 fr_347_190 (mk_61 _) (Nat.le_of_ble_eq_true rfl) pf_14_15 (st_6115 _ _) (mu_I _ _ _) ?_
  refine Bod.go dc_347_10 rfl ?_
  refine Bod.bip 34 (by decide) dc_347_11 ?_
  refine Bod.virt (r := []) dc_347_13 kr_347_305 ⟨Or.inl rfl, ow_325, cl_14⟩ (by rw [np_325]; rfl) (by rw [np_325]; rfl) (ob_of (mk_61 _)) (Nat.le_of_ble_eq_true rfl) (c1  ) ?_
  show Bod _ _ _ _ [_] _ _ _
  refine Bod.istn dc_347_16 (by rw [ml_347]; exact Nat.le_of_ble_eq_true rfl) ?_
  refine Bod.go dc_347_17 rfl ?_
  refine Bod.go dc_347_18 rfl ?_
  refine Bod.get dc_347_19 fr_347_245 (mk_61 _) rfl ?_
  refine Bod.eqI (nI f6127) (by first | (simp (disch := omega) only [rI, rIe, rA, rIA, rLA, rJA, rVI, rQI, rVA, rQA, upd_at,  rAI, rLI, rJI, nI_add, pk_sub, kc_0, kc_1, kc_2, kc_3, kc_4, kc_5, reduceIte, Nat.reduceEqDiff, Nat.add_zero, rI_hold, rI_hold, rL_hold, hk, hf6127]; done) | (simp (disch := omega) only [rI, rIe, rA, rIA, rLA, rJA, rVI, rQI, rVA, rQA, upd_at,  rAI, rLI, rJI, nI_add, pk_sub, kc_0, kc_1, kc_2, kc_3, kc_4, kc_5, reduceIte, Nat.reduceEqDiff, Nat.add_zero, rI_hold, rI_hold, rL_hold, hk, hf6127]; exact congrArg nI (by omega))) ?_
  refine Bod.ic 1 (by decide) dc_347_22 ?_
  refine Bod.addN (f6127 + 1) (by omega) dc_347_23 ?_
  refine Bod.put dc_347_24 fr_347_245 (mk_61 _) (Nat.le_of_ble_eq_true rfl) pf_14_27 (st_6127 _ _) (mu_I _ _ _) ?_
  refine Bod.go dc_347_27 rfl ?_
  refine Bod.go dc_347_28 rfl ?_
  refine Bod.ic 0 (by decide) dc_347_29 ?_
  refine Bod.virt (r := []) dc_347_30 kr_347_309 ⟨Or.inl rfl, ow_334, cl_14⟩ (by rw [np_334]; rfl) (by rw [np_334]; rfl) (ob_of (mk_61 _)) (Nat.le_of_ble_eq_true rfl) (c2  ) ?_
  show Bod _ _ _ _ [_] _ _ _
  refine Bod.ifT dc_347_33 rfl (k1_ne_T (k_ne 1 0 rfl rfl (by omega) (by omega) (by omega))) ?_
  refine Bod.go dc_347_38 rfl ?_
  refine Bod.go dc_347_39 rfl ?_
  refine Bod.get dc_347_40 fr_347_245 (mk_61 _) rfl ?_
  refine Bod.eqI (nI f61271) (by first | (simp (disch := omega) only [rI, rIe, rA, rIA, rLA, rJA, rVI, rQI, rVA, rQA, upd_at,  rAI, rLI, rJI, nI_add, pk_sub, kc_0, kc_1, kc_2, kc_3, kc_4, kc_5, reduceIte, Nat.reduceEqDiff, Nat.add_zero, rI_hold, rI_hold, rL_hold, hk, hf6127, hf61271]; done) | (simp (disch := omega) only [rI, rIe, rA, rIA, rLA, rJA, rVI, rQI, rVA, rQA, upd_at,  rAI, rLI, rJI, nI_add, pk_sub, kc_0, kc_1, kc_2, kc_3, kc_4, kc_5, reduceIte, Nat.reduceEqDiff, Nat.add_zero, rI_hold, rI_hold, rL_hold, hk, hf6127, hf61271]; exact congrArg nI (by omega))) ?_
  refine Bod.ic 1 (by decide) dc_347_43 ?_
  refine Bod.subN (f61271 - 1) (by omega) (by omega) dc_347_44 ?_
  refine Bod.put dc_347_45 fr_347_245 (mk_61 _) (Nat.le_of_ble_eq_true rfl) pf_14_27 (st_6127 _ _) (mu_I _ _ _) ?_
  refine Bod.go dc_347_48 rfl ?_
  refine Bod.bip 35 (by decide) dc_347_49 ?_
  refine Bod.virt (r := []) dc_347_51 kr_347_269 ⟨Or.inl rfl, ow_322, cl_14⟩ (by rw [np_322]; rfl) (by rw [np_322]; rfl) (ob_of (mk_61 _)) (Nat.le_of_ble_eq_true rfl) (c3  ) ?_
  show Bod _ _ _ _ [] _ _ _
  refine Bod.go dc_347_54 rfl ?_
  refine Bod.bip 11 (by decide) dc_347_55 ?_
  refine Bod.virt (r := []) dc_347_57 kr_347_305 ⟨Or.inl rfl, ow_325, cl_14⟩ (by rw [np_325]; rfl) (by rw [np_325]; rfl) (ob_of (mk_61 _)) (Nat.le_of_ble_eq_true rfl) (c4  ) ?_
  show Bod _ _ _ _ [_] _ _ _
  refine Bod.istn dc_347_60 (by rw [ml_347]; exact Nat.le_of_ble_eq_true rfl) ?_
  refine Bod.go dc_347_61 rfl ?_
  refine Bod.go dc_347_62 rfl ?_
  refine Bod.virt (r := []) dc_347_63 kr_347_317 ⟨Or.inl rfl, ow_326, cl_14⟩ (by rw [np_326]; rfl) (by rw [np_326]; rfl) (ob_of (mk_61 _)) (Nat.le_of_ble_eq_true rfl) (c5  ) ?_
  show Bod _ _ _ _ [] _ _ _
  refine Bod.go dc_347_66 rfl ?_
  refine Bod.get dc_347_67 fr_347_129 (mk_61 _) rfl ?_
  refine Bod.go dc_347_70 rfl ?_
  refine Bod.get dc_347_71 fr_347_190 (mk_61 _) rfl ?_
  refine Bod.eqI (nI k1) (by first | (simp (disch := omega) only [rI, rIe, rA, rIA, rLA, rJA, rVI, rQI, rVA, rQA, upd_at,  rAI, rLI, rJI, nI_add, pk_sub, kc_0, kc_1, kc_2, kc_3, kc_4, kc_5, reduceIte, Nat.reduceEqDiff, Nat.add_zero, rI_hold, rI_hold, rL_hold, hk, hf6127, hf61271, hk1]; done) | (simp (disch := omega) only [rI, rIe, rA, rIA, rLA, rJA, rVI, rQI, rVA, rQA, upd_at,  rAI, rLI, rJI, nI_add, pk_sub, kc_0, kc_1, kc_2, kc_3, kc_4, kc_5, reduceIte, Nat.reduceEqDiff, Nat.add_zero, rI_hold, rI_hold, rL_hold, hk, hf6127, hf61271, hk1]; exact congrArg nI (by omega))) ?_
  refine Bod.ialdN k1 rfl (by omega) (by omega) dc_347_74 (mk_67 _) ?_
  refine Bod.eqI (nI e67) (by first | (simp (disch := omega) only [rI, rIe, rA, rIA, rLA, rJA, rVI, rQI, rVA, rQA, upd_at,  rAI, rLI, rJI, nI_add, pk_sub, kc_0, kc_1, kc_2, kc_3, kc_4, kc_5, reduceIte, Nat.reduceEqDiff, Nat.add_zero, rI_hold, rI_hold, rL_hold, hk, hf6127, hf61271, hk1, he67]; done) | (simp (disch := omega) only [rI, rIe, rA, rIA, rLA, rJA, rVI, rQI, rVA, rQA, upd_at,  rAI, rLI, rJI, nI_add, pk_sub, kc_0, kc_1, kc_2, kc_3, kc_4, kc_5, reduceIte, Nat.reduceEqDiff, Nat.add_zero, rI_hold, rI_hold, rL_hold, hk, hf6127, hf61271, hk1, he67]; exact congrArg nI (by omega))) ?_
  refine Bod.bip 7 (by decide) dc_347_75 ?_
  refine Bod.icF dc_347_77 rfl (k2_eq_F (k_ne e67 7 rfl rfl (by omega) (by omega) (by omega))) ?_
  refine Bod.go dc_347_80 rfl ?_
  refine Bod.get dc_347_81 fr_347_141 (mk_61 _) rfl ?_
  refine Bod.go dc_347_84 rfl ?_
  refine Bod.get dc_347_85 fr_347_190 (mk_61 _) rfl ?_
  refine Bod.eqI (nI k1) (by first | (simp (disch := omega) only [rI, rIe, rA, rIA, rLA, rJA, rVI, rQI, rVA, rQA, upd_at,  rAI, rLI, rJI, nI_add, pk_sub, kc_0, kc_1, kc_2, kc_3, kc_4, kc_5, reduceIte, Nat.reduceEqDiff, Nat.add_zero, rI_hold, rI_hold, rL_hold, hk, hf6127, hf61271, hk1, he67]; done) | (simp (disch := omega) only [rI, rIe, rA, rIA, rLA, rJA, rVI, rQI, rVA, rQA, upd_at,  rAI, rLI, rJI, nI_add, pk_sub, kc_0, kc_1, kc_2, kc_3, kc_4, kc_5, reduceIte, Nat.reduceEqDiff, Nat.add_zero, rI_hold, rI_hold, rL_hold, hk, hf6127, hf61271, hk1, he67]; exact congrArg nI (by omega))) ?_
  refine Bod.ialdN k1 rfl (by omega) (by omega) dc_347_88 (mk_70 _) ?_
  refine Bod.eqI (nI e70) (by first | (simp (disch := omega) only [rI, rIe, rA, rIA, rLA, rJA, rVI, rQI, rVA, rQA, upd_at,  rAI, rLI, rJI, nI_add, pk_sub, kc_0, kc_1, kc_2, kc_3, kc_4, kc_5, reduceIte, Nat.reduceEqDiff, Nat.add_zero, rI_hold, rI_hold, rL_hold, hk, hf6127, hf61271, hk1, he67, he70]; done) | (simp (disch := omega) only [rI, rIe, rA, rIA, rLA, rJA, rVI, rQI, rVA, rQA, upd_at,  rAI, rLI, rJI, nI_add, pk_sub, kc_0, kc_1, kc_2, kc_3, kc_4, kc_5, reduceIte, Nat.reduceEqDiff, Nat.add_zero, rI_hold, rI_hold, rL_hold, hk, hf6127, hf61271, hk1, he67, he70]; exact congrArg nI (by omega))) ?_
  refine Bod.go dc_347_89 rfl ?_
  refine Bod.icF dc_347_90 rfl (k2_ne_F (k_eq e70 a rfl rfl (by omega))) ?_
  refine Bod.go dc_347_93 rfl ?_
  refine Bod.bip 15 (by decide) dc_347_94 ?_
  refine Bod.virt (r := []) dc_347_96 kr_347_312 ⟨Or.inl rfl, ow_309, cl_14⟩ (by rw [np_309]; rfl) (by rw [np_309]; rfl) (ob_of (mk_61 _)) (Nat.le_of_ble_eq_true rfl) (c6  ) ?_
  show Bod _ _ _ _ [_] _ _ _
  refine Bod.ifT dc_347_99 rfl (k1_ne_T (k_ne 1 0 rfl rfl (by omega) (by omega) (by omega))) ?_
  refine Bod.go dc_347_107 rfl ?_
  refine Bod.go dc_347_108 rfl ?_
  refine Bod.get dc_347_109 fr_347_190 (mk_61 _) rfl ?_
  refine Bod.eqI (nI k2) (by first | (simp (disch := omega) only [rI, rIe, rA, rIA, rLA, rJA, rVI, rQI, rVA, rQA, upd_at,  rAI, rLI, rJI, nI_add, pk_sub, kc_0, kc_1, kc_2, kc_3, kc_4, kc_5, reduceIte, Nat.reduceEqDiff, Nat.add_zero, rI_hold, rI_hold, rL_hold, hk, hf6127, hf61271, hk1, he67, he70, hk2]; done) | (simp (disch := omega) only [rI, rIe, rA, rIA, rLA, rJA, rVI, rQI, rVA, rQA, upd_at,  rAI, rLI, rJI, nI_add, pk_sub, kc_0, kc_1, kc_2, kc_3, kc_4, kc_5, reduceIte, Nat.reduceEqDiff, Nat.add_zero, rI_hold, rI_hold, rL_hold, hk, hf6127, hf61271, hk1, he67, he70, hk2]; exact congrArg nI (by omega))) ?_
  refine Bod.ic 1 (by decide) dc_347_112 ?_
  refine Bod.addN (k2 + 1) (by omega) dc_347_113 ?_
  refine Bod.put dc_347_114 fr_347_190 (mk_61 _) (Nat.le_of_ble_eq_true rfl) pf_14_15 (st_6115 _ _) (mu_I _ _ _) ?_
  refine Bod.go dc_347_117 rfl ?_
  refine Bod.bip 36 (by decide) dc_347_118 ?_
  refine Bod.virt (r := []) dc_347_120 kr_347_269 ⟨Or.inl rfl, ow_322, cl_14⟩ (by rw [np_322]; rfl) (by rw [np_322]; rfl) (ob_of (mk_61 _)) (Nat.le_of_ble_eq_true rfl) (c7  ) ?_
  show Bod _ _ _ _ [] _ _ _
  refine Bod.go dc_347_123 rfl ?_
  refine Bod.get dc_347_124 fr_347_129 (mk_61 _) rfl ?_
  refine Bod.go dc_347_127 rfl ?_
  refine Bod.get dc_347_128 fr_347_190 (mk_61 _) rfl ?_
  refine Bod.eqI (nI k3) (by first | (simp (disch := omega) only [rI, rIe, rA, rIA, rLA, rJA, rVI, rQI, rVA, rQA, upd_at,  rAI, rLI, rJI, nI_add, pk_sub, kc_0, kc_1, kc_2, kc_3, kc_4, kc_5, reduceIte, Nat.reduceEqDiff, Nat.add_zero, rI_hold, rI_hold, rL_hold, hk, hf6127, hf61271, hk1, he67, he70, hk2, hk3]; done) | (simp (disch := omega) only [rI, rIe, rA, rIA, rLA, rJA, rVI, rQI, rVA, rQA, upd_at,  rAI, rLI, rJI, nI_add, pk_sub, kc_0, kc_1, kc_2, kc_3, kc_4, kc_5, reduceIte, Nat.reduceEqDiff, Nat.add_zero, rI_hold, rI_hold, rL_hold, hk, hf6127, hf61271, hk1, he67, he70, hk2, hk3]; exact congrArg nI (by omega))) ?_
  refine Bod.ialdN k3 rfl (by omega) (by omega) dc_347_131 (mk_67 _) ?_
  refine Bod.eqI (nI e671) (by first | (simp (disch := omega) only [rI, rIe, rA, rIA, rLA, rJA, rVI, rQI, rVA, rQA, upd_at,  rAI, rLI, rJI, nI_add, pk_sub, kc_0, kc_1, kc_2, kc_3, kc_4, kc_5, reduceIte, Nat.reduceEqDiff, Nat.add_zero, rI_hold, rI_hold, rL_hold, hk, hf6127, hf61271, hk1, he67, he70, hk2, hk3, he671]; done) | (simp (disch := omega) only [rI, rIe, rA, rIA, rLA, rJA, rVI, rQI, rVA, rQA, upd_at,  rAI, rLI, rJI, nI_add, pk_sub, kc_0, kc_1, kc_2, kc_3, kc_4, kc_5, reduceIte, Nat.reduceEqDiff, Nat.add_zero, rI_hold, rI_hold, rL_hold, hk, hf6127, hf61271, hk1, he67, he70, hk2, hk3, he671]; exact congrArg nI (by omega))) ?_
  refine Bod.ic 1 (by decide) dc_347_132 ?_
  refine Bod.icF dc_347_133 rfl (k2_ne_F (k_eq e671 1 rfl rfl (by omega))) ?_
  refine Bod.go dc_347_136 rfl ?_
  refine Bod.bip 6 (by decide) dc_347_137 ?_
  refine Bod.go dc_347_139 rfl ?_
  refine Bod.get dc_347_140 fr_347_135 (mk_61 _) rfl ?_
  refine Bod.go dc_347_143 rfl ?_
  refine Bod.get dc_347_144 fr_347_190 (mk_61 _) rfl ?_
  refine Bod.eqI (nI k3) (by first | (simp (disch := omega) only [rI, rIe, rA, rIA, rLA, rJA, rVI, rQI, rVA, rQA, upd_at,  rAI, rLI, rJI, nI_add, pk_sub, kc_0, kc_1, kc_2, kc_3, kc_4, kc_5, reduceIte, Nat.reduceEqDiff, Nat.add_zero, rI_hold, rI_hold, rL_hold, hk, hf6127, hf61271, hk1, he67, he70, hk2, hk3, he671]; done) | (simp (disch := omega) only [rI, rIe, rA, rIA, rLA, rJA, rVI, rQI, rVA, rQA, upd_at,  rAI, rLI, rJI, nI_add, pk_sub, kc_0, kc_1, kc_2, kc_3, kc_4, kc_5, reduceIte, Nat.reduceEqDiff, Nat.add_zero, rI_hold, rI_hold, rL_hold, hk, hf6127, hf61271, hk1, he67, he70, hk2, hk3, he671]; exact congrArg nI (by omega))) ?_
  refine Bod.ialdN k3 rfl (by omega) (by omega) dc_347_147 (mk_68 _) ?_
  refine Bod.eqI (nI e68) (by first | (simp (disch := omega) only [rI, rIe, rA, rIA, rLA, rJA, rVI, rQI, rVA, rQA, upd_at,  rAI, rLI, rJI, nI_add, pk_sub, kc_0, kc_1, kc_2, kc_3, kc_4, kc_5, reduceIte, Nat.reduceEqDiff, Nat.add_zero, rI_hold, rI_hold, rL_hold, hk, hf6127, hf61271, hk1, he67, he70, hk2, hk3, he671, he68]; done) | (simp (disch := omega) only [rI, rIe, rA, rIA, rLA, rJA, rVI, rQI, rVA, rQA, upd_at,  rAI, rLI, rJI, nI_add, pk_sub, kc_0, kc_1, kc_2, kc_3, kc_4, kc_5, reduceIte, Nat.reduceEqDiff, Nat.add_zero, rI_hold, rI_hold, rL_hold, hk, hf6127, hf61271, hk1, he67, he70, hk2, hk3, he671, he68]; exact congrArg nI (by omega))) ?_
  refine Bod.virt (r := []) dc_347_148 kr_347_341 ⟨Or.inl rfl, ow_317, cl_14⟩ (by rw [np_317]; rfl) (by rw [np_317]; rfl) (ob_of (mk_61 _)) (Nat.le_of_ble_eq_true rfl) (c8  ) ?_
  show Bod _ _ _ _ [] _ _ _
  refine Bod.go dc_347_151 rfl ?_
  refine Bod.go dc_347_152 rfl ?_
  refine Bod.get dc_347_153 fr_347_190 (mk_61 _) rfl ?_
  refine Bod.eqI (nI k4) (by first | (simp (disch := omega) only [rI, rIe, rA, rIA, rLA, rJA, rVI, rQI, rVA, rQA, upd_at,  rAI, rLI, rJI, nI_add, pk_sub, kc_0, kc_1, kc_2, kc_3, kc_4, kc_5, reduceIte, Nat.reduceEqDiff, Nat.add_zero, rI_hold, rI_hold, rL_hold, hk, hf6127, hf61271, hk1, he67, he70, hk2, hk3, he671, he68, hk4]; done) | (simp (disch := omega) only [rI, rIe, rA, rIA, rLA, rJA, rVI, rQI, rVA, rQA, upd_at,  rAI, rLI, rJI, nI_add, pk_sub, kc_0, kc_1, kc_2, kc_3, kc_4, kc_5, reduceIte, Nat.reduceEqDiff, Nat.add_zero, rI_hold, rI_hold, rL_hold, hk, hf6127, hf61271, hk1, he67, he70, hk2, hk3, he671, he68, hk4]; exact congrArg nI (by omega))) ?_
  refine Bod.ic 1 (by decide) dc_347_156 ?_
  refine Bod.addN (k4 + 1) (by omega) dc_347_157 ?_
  refine Bod.put dc_347_158 fr_347_190 (mk_61 _) (Nat.le_of_ble_eq_true rfl) pf_14_15 (st_6115 _ _) (mu_I _ _ _) ?_
  refine Bod.go dc_347_161 rfl ?_
  refine Bod.go dc_347_170 rfl ?_
  refine Bod.go dc_347_171 rfl ?_
  refine Bod.ic 0 (by decide) dc_347_172 ?_
  refine Bod.virt (r := []) dc_347_173 kr_347_309 ⟨Or.inl rfl, ow_334, cl_14⟩ (by rw [np_334]; rfl) (by rw [np_334]; rfl) (ob_of (mk_61 _)) (Nat.le_of_ble_eq_true rfl) (c9  ) ?_
  show Bod _ _ _ _ [_] _ _ _
  refine Bod.ifT dc_347_176 rfl (k1_ne_T (k_ne 1 0 rfl rfl (by omega) (by omega) (by omega))) ?_
  refine Bod.go dc_347_181 rfl ?_
  refine Bod.go dc_347_182 rfl ?_
  refine Bod.virt (r := []) dc_347_183 kr_347_317 ⟨Or.inl rfl, ow_326, cl_14⟩ (by rw [np_326]; rfl) (by rw [np_326]; rfl) (ob_of (mk_61 _)) (Nat.le_of_ble_eq_true rfl) (c10  ) ?_
  show Bod _ _ _ _ [] _ _ _
  refine Bod.ic 1 (by decide) dc_347_186 ?_
  exact Bod.retZ dc_347_187 rt_347 (Or.inr rfl)
theorem sIf_8 {d : Nat} {S : cS} {a : Nat} {k : Nat} {S1 : cS} {a : Nat} {f6127 : Nat} {S2 : cS} {f61271 : Nat} {S3 : cS} {S4 : cS} {a1 : Nat} {S5 : cS} {k1 : Nat} {e67 : Nat} {e70 : Nat} {S6 : cS} {k2 : Nat} {S7 : cS} {k3 : Nat} {e671 : Nat} {e68 : Nat} {S8 : cS} {k4 : Nat} {S9 : cS} (ma : a < 2 ^ 20) (hk : sI S 6115 = nI k) (mk : k < 5990) (ma : a < 2 ^ 20) (c1 : Ans (d + 8) 325 [.ref 61, .int (nI 34)] (wI 6115 (nI (k + 1)) S) (some (.int (nI a))) S1) (hf6127 : sI S1 6127 = nI f6127) (mf6127 : f6127 < 2 ^ 20) (c2 : Ans (d + 8) 334 [.ref 61, .int (nI a), .int (nI 0)] (wI 6127 (nI (f6127 + 1)) S1) (some (.int (nI 1))) S2) (hf61271 : sI S2 6127 = nI f61271) (mf61271 : f61271 < 2 ^ 20) (b1 : 1 ≤ f61271) (c3 : Ans (d + 8) 322 [.ref 61, .int (nI 35)] (wI 6127 (nI (f61271 - 1)) S2) none S3) (ma1 : a1 < 2 ^ 20) (c4 : Ans (d + 8) 325 [.ref 61, .int (nI 11)] S3 (some (.int (nI a1))) S4) (c5 : Ans (d + 8) 326 [.ref 61, .int (nI a)] S4 none S5) (hk1 : sI S5 6115 = nI k1) (mk1 : k1 < 5990) (he67 : sA S5 67 k1 = nI e67) (me67 : e67 < 2 ^ 20) (b2 : e67 ≠ 7) (he70 : sA S5 70 k1 = nI e70) (me70 : e70 < 2 ^ 20) (b3 : e70 = a) (c6 : Ans (d + 8) 309 [.ref 61, .int (nI 15)] S5 (some (.int (nI 1))) S6) (hk2 : sI S6 6115 = nI k2) (mk2 : k2 < 5990) (c7 : Ans (d + 8) 322 [.ref 61, .int (nI 36)] (wI 6115 (nI (k2 + 1)) S6) none S7) (hk3 : sI S7 6115 = nI k3) (mk3 : k3 < 5990) (he671 : sA S7 67 k3 = nI e671) (me671 : e671 < 2 ^ 20) (b4 : e671 = 1) (he68 : sA S7 68 k3 = nI e68) (me68 : e68 < 2 ^ 20) (c8 : Ans (d + 8) 317 [.ref 61, .int (nI 6), .int (nI e68)] S7 none S8) (hk4 : sI S8 6115 = nI k4) (mk4 : k4 < 5990) (c9 : Ans (d + 8) 334 [.ref 61, .int (nI a), .int (nI 0)] (wI 6115 (nI (k4 + 1)) S8) (some (.int (nI 0))) S9) : Bod (d + 8) 347 0 [(0, .ref 61), (1, .int (nI a))] [] S (some (.int 0)) (S9) := by
  refine Bod.go dc_347_0 rfl ?_
  refine Bod.go dc_347_1 rfl ?_
  refine Bod.get dc_347_2 fr_347_190 (mk_61 _) rfl ?_
  refine Bod.eqI (nI k) (by first | assumption | rfl | exact congrArg nI (by omega) | (simp (disch := omega) only [rI, rIe, rA, rIA, rLA, rJA, rVI, rQI, rVA, rQA, upd_at,  rAI, rLI, rJI, nI_add, pk_sub, kc_0, kc_1, kc_2, kc_3, kc_4, kc_5, reduceIte, Nat.reduceEqDiff, Nat.add_zero, rI_hold, rI_hold, rL_hold, hk]; done)) ?_
  refine Bod.ic 1 (by decide) dc_347_5 ?_
  refine Bod.addN (k + 1) (by omega) dc_347_6 ?_
  refine Bod.put dc_347_7 fr_347_190 (mk_61 _) (Nat.le_of_ble_eq_true rfl) pf_14_15 (st_6115 _ _) (mu_I _ _ _) ?_
  refine Bod.go dc_347_10 rfl ?_
  refine Bod.bip 34 (by decide) dc_347_11 ?_
  refine Bod.virt (r := []) dc_347_13 kr_347_305 ⟨Or.inl rfl, ow_325, cl_14⟩ (by rw [np_325]; rfl) (by rw [np_325]; rfl) (ob_of (mk_61 _)) (Nat.le_of_ble_eq_true rfl) (c1  ) ?_
  show Bod _ _ _ _ [_] _ _ _
  refine Bod.istn dc_347_16 (by rw [ml_347]; exact Nat.le_of_ble_eq_true rfl) ?_
  refine Bod.go dc_347_17 rfl ?_
  refine Bod.go dc_347_18 rfl ?_
  refine Bod.get dc_347_19 fr_347_245 (mk_61 _) rfl ?_
  refine Bod.eqI (nI f6127) (by first | (simp (disch := omega) only [rI, rIe, rA, rIA, rLA, rJA, rVI, rQI, rVA, rQA, upd_at,  rAI, rLI, rJI, nI_add, pk_sub, kc_0, kc_1, kc_2, kc_3, kc_4, kc_5, reduceIte, Nat.reduceEqDiff, Nat.add_zero, rI_hold, rI_hold, rL_hold, hk, hf6127]; done) | (simp (disch := omega) only [rI, rIe, rA, rIA, rLA, rJA, rVI, rQI, rVA, rQA, upd_at,  rAI, rLI, rJI, nI_add, pk_sub, kc_0, kc_1, kc_2, kc_3, kc_4, kc_5, reduceIte, Nat.reduceEqDiff, Nat.add_zero, rI_hold, rI_hold, rL_hold, hk, hf6127]; exact congrArg nI (by omega))) ?_
  refine Bod.ic 1 (by decide) dc_347_22 ?_
  refine Bod.addN (f6127 + 1) (by omega) dc_347_23 ?_
  refine Bod.put dc_347_24 fr_347_245 (mk_61 _) (Nat.le_of_ble_eq_true rfl) pf_14_27 (st_6127 _ _) (mu_I _ _ _) ?_
  refine Bod.go dc_347_27 rfl ?_
  refine Bod.go dc_347_28 rfl ?_
  refine Bod.ic 0 (by decide) dc_347_29 ?_
  refine Bod.virt (r := []) dc_347_30 kr_347_309 ⟨Or.inl rfl, ow_334, cl_14⟩ (by rw [np_334]; rfl) (by rw [np_334]; rfl) (ob_of (mk_61 _)) (Nat.le_of_ble_eq_true rfl) (c2  ) ?_
  show Bod _ _ _ _ [_] _ _ _
  refine Bod.ifT dc_347_33 rfl (k1_ne_T (k_ne 1 0 rfl rfl (by omega) (by omega) (by omega))) ?_
  refine Bod.go dc_347_38 rfl ?_
  refine Bod.go dc_347_39 rfl ?_
  refine Bod.get dc_347_40 fr_347_245 (mk_61 _) rfl ?_
  refine Bod.eqI (nI f61271) (by first | (simp (disch := omega) only [rI, rIe, rA, rIA, rLA, rJA, rVI, rQI, rVA, rQA, upd_at,  rAI, rLI, rJI, nI_add, pk_sub, kc_0, kc_1, kc_2, kc_3, kc_4, kc_5, reduceIte, Nat.reduceEqDiff, Nat.add_zero, rI_hold, rI_hold, rL_hold, hk, hf6127, hf61271]; done) | (simp (disch := omega) only [rI, rIe, rA, rIA, rLA, rJA, rVI, rQI, rVA, rQA, upd_at,  rAI, rLI, rJI, nI_add, pk_sub, kc_0, kc_1, kc_2, kc_3, kc_4, kc_5, reduceIte, Nat.reduceEqDiff, Nat.add_zero, rI_hold, rI_hold, rL_hold, hk, hf6127, hf61271]; exact congrArg nI (by omega))) ?_
  refine Bod.ic 1 (by decide) dc_347_43 ?_
  refine Bod.subN (f61271 - 1) (by omega) (by omega) dc_347_44 ?_
  refine Bod.put dc_347_45 fr_347_245 (mk_61 _) (Nat.le_of_ble_eq_true rfl) pf_14_27 (st_6127 _ _) (mu_I _ _ _) ?_
  refine Bod.go dc_347_48 rfl ?_
  refine Bod.bip 35 (by decide) dc_347_49 ?_
  refine Bod.virt (r := []) dc_347_51 kr_347_269 ⟨Or.inl rfl, ow_322, cl_14⟩ (by rw [np_322]; rfl) (by rw [np_322]; rfl) (ob_of (mk_61 _)) (Nat.le_of_ble_eq_true rfl) (c3  ) ?_
  show Bod _ _ _ _ [] _ _ _
  refine Bod.go dc_347_54 rfl ?_
  refine Bod.bip 11 (by decide) dc_347_55 ?_
  refine Bod.virt (r := []) dc_347_57 kr_347_305 ⟨Or.inl rfl, ow_325, cl_14⟩ (by rw [np_325]; rfl) (by rw [np_325]; rfl) (ob_of (mk_61 _)) (Nat.le_of_ble_eq_true rfl) (c4  ) ?_
  show Bod _ _ _ _ [_] _ _ _
  refine Bod.istn dc_347_60 (by rw [ml_347]; exact Nat.le_of_ble_eq_true rfl) ?_
  refine Bod.go dc_347_61 rfl ?_
  refine Bod.go dc_347_62 rfl ?_
  refine Bod.virt (r := []) dc_347_63 kr_347_317 ⟨Or.inl rfl, ow_326, cl_14⟩ (by rw [np_326]; rfl) (by rw [np_326]; rfl) (ob_of (mk_61 _)) (Nat.le_of_ble_eq_true rfl) (c5  ) ?_
  show Bod _ _ _ _ [] _ _ _
  refine Bod.go dc_347_66 rfl ?_
  refine Bod.get dc_347_67 fr_347_129 (mk_61 _) rfl ?_
  refine Bod.go dc_347_70 rfl ?_
  refine Bod.get dc_347_71 fr_347_190 (mk_61 _) rfl ?_
  refine Bod.eqI (nI k1) (by first | (simp (disch := omega) only [rI, rIe, rA, rIA, rLA, rJA, rVI, rQI, rVA, rQA, upd_at,  rAI, rLI, rJI, nI_add, pk_sub, kc_0, kc_1, kc_2, kc_3, kc_4, kc_5, reduceIte, Nat.reduceEqDiff, Nat.add_zero, rI_hold, rI_hold, rL_hold, hk, hf6127, hf61271, hk1]; done) | (simp (disch := omega) only [rI, rIe, rA, rIA, rLA, rJA, rVI, rQI, rVA, rQA, upd_at,  rAI, rLI, rJI, nI_add, pk_sub, kc_0, kc_1, kc_2, kc_3, kc_4, kc_5, reduceIte, Nat.reduceEqDiff, Nat.add_zero, rI_hold, rI_hold, rL_hold, hk, hf6127, hf61271, hk1]; exact congrArg nI (by omega))) ?_
  refine Bod.ialdN k1 rfl (by omega) (by omega) dc_347_74 (mk_67 _) ?_
  refine Bod.eqI (nI e67) (by first | (simp (disch := omega) only [rI, rIe, rA, rIA, rLA, rJA, rVI, rQI, rVA, rQA, upd_at,  rAI, rLI, rJI, nI_add, pk_sub, kc_0, kc_1, kc_2, kc_3, kc_4, kc_5, reduceIte, Nat.reduceEqDiff, Nat.add_zero, rI_hold, rI_hold, rL_hold, hk, hf6127, hf61271, hk1, he67]; done) | (simp (disch := omega) only [rI, rIe, rA, rIA, rLA, rJA, rVI, rQI, rVA, rQA, upd_at,  rAI, rLI, rJI, nI_add, pk_sub, kc_0, kc_1, kc_2, kc_3, kc_4, kc_5, reduceIte, Nat.reduceEqDiff, Nat.add_zero, rI_hold, rI_hold, rL_hold, hk, hf6127, hf61271, hk1, he67]; exact congrArg nI (by omega))) ?_
  refine Bod.bip 7 (by decide) dc_347_75 ?_
  refine Bod.icF dc_347_77 rfl (k2_eq_F (k_ne e67 7 rfl rfl (by omega) (by omega) (by omega))) ?_
  refine Bod.go dc_347_80 rfl ?_
  refine Bod.get dc_347_81 fr_347_141 (mk_61 _) rfl ?_
  refine Bod.go dc_347_84 rfl ?_
  refine Bod.get dc_347_85 fr_347_190 (mk_61 _) rfl ?_
  refine Bod.eqI (nI k1) (by first | (simp (disch := omega) only [rI, rIe, rA, rIA, rLA, rJA, rVI, rQI, rVA, rQA, upd_at,  rAI, rLI, rJI, nI_add, pk_sub, kc_0, kc_1, kc_2, kc_3, kc_4, kc_5, reduceIte, Nat.reduceEqDiff, Nat.add_zero, rI_hold, rI_hold, rL_hold, hk, hf6127, hf61271, hk1, he67]; done) | (simp (disch := omega) only [rI, rIe, rA, rIA, rLA, rJA, rVI, rQI, rVA, rQA, upd_at,  rAI, rLI, rJI, nI_add, pk_sub, kc_0, kc_1, kc_2, kc_3, kc_4, kc_5, reduceIte, Nat.reduceEqDiff, Nat.add_zero, rI_hold, rI_hold, rL_hold, hk, hf6127, hf61271, hk1, he67]; exact congrArg nI (by omega))) ?_
  refine Bod.ialdN k1 rfl (by omega) (by omega) dc_347_88 (mk_70 _) ?_
  refine Bod.eqI (nI e70) (by first | (simp (disch := omega) only [rI, rIe, rA, rIA, rLA, rJA, rVI, rQI, rVA, rQA, upd_at,  rAI, rLI, rJI, nI_add, pk_sub, kc_0, kc_1, kc_2, kc_3, kc_4, kc_5, reduceIte, Nat.reduceEqDiff, Nat.add_zero, rI_hold, rI_hold, rL_hold, hk, hf6127, hf61271, hk1, he67, he70]; done) | (simp (disch := omega) only [rI, rIe, rA, rIA, rLA, rJA, rVI, rQI, rVA, rQA, upd_at,  rAI, rLI, rJI, nI_add, pk_sub, kc_0, kc_1, kc_2, kc_3, kc_4, kc_5, reduceIte, Nat.reduceEqDiff, Nat.add_zero, rI_hold, rI_hold, rL_hold, hk, hf6127, hf61271, hk1, he67, he70]; exact congrArg nI (by omega))) ?_
  refine Bod.go dc_347_89 rfl ?_
  refine Bod.icF dc_347_90 rfl (k2_ne_F (k_eq e70 a rfl rfl (by omega))) ?_
  refine Bod.go dc_347_93 rfl ?_
  refine Bod.bip 15 (by decide) dc_347_94 ?_
  refine Bod.virt (r := []) dc_347_96 kr_347_312 ⟨Or.inl rfl, ow_309, cl_14⟩ (by rw [np_309]; rfl) (by rw [np_309]; rfl) (ob_of (mk_61 _)) (Nat.le_of_ble_eq_true rfl) (c6  ) ?_
  show Bod _ _ _ _ [_] _ _ _
  refine Bod.ifT dc_347_99 rfl (k1_ne_T (k_ne 1 0 rfl rfl (by omega) (by omega) (by omega))) ?_
  refine Bod.go dc_347_107 rfl ?_
  refine Bod.go dc_347_108 rfl ?_
  refine Bod.get dc_347_109 fr_347_190 (mk_61 _) rfl ?_
  refine Bod.eqI (nI k2) (by first | (simp (disch := omega) only [rI, rIe, rA, rIA, rLA, rJA, rVI, rQI, rVA, rQA, upd_at,  rAI, rLI, rJI, nI_add, pk_sub, kc_0, kc_1, kc_2, kc_3, kc_4, kc_5, reduceIte, Nat.reduceEqDiff, Nat.add_zero, rI_hold, rI_hold, rL_hold, hk, hf6127, hf61271, hk1, he67, he70, hk2]; done) | (simp (disch := omega) only [rI, rIe, rA, rIA, rLA, rJA, rVI, rQI, rVA, rQA, upd_at,  rAI, rLI, rJI, nI_add, pk_sub, kc_0, kc_1, kc_2, kc_3, kc_4, kc_5, reduceIte, Nat.reduceEqDiff, Nat.add_zero, rI_hold, rI_hold, rL_hold, hk, hf6127, hf61271, hk1, he67, he70, hk2]; exact congrArg nI (by omega))) ?_
  refine Bod.ic 1 (by decide) dc_347_112 ?_
  refine Bod.addN (k2 + 1) (by omega) dc_347_113 ?_
  refine Bod.put dc_347_114 fr_347_190 (mk_61 _) (Nat.le_of_ble_eq_true rfl) pf_14_15 (st_6115 _ _) (mu_I _ _ _) ?_
  refine Bod.go dc_347_117 rfl ?_
  refine Bod.bip 36 (by decide) dc_347_118 ?_
  refine Bod.virt (r := []) dc_347_120 kr_347_269 ⟨Or.inl rfl, ow_322, cl_14⟩ (by rw [np_322]; rfl) (by rw [np_322]; rfl) (ob_of (mk_61 _)) (Nat.le_of_ble_eq_true rfl) (c7  ) ?_
  show Bod _ _ _ _ [] _ _ _
  refine Bod.go dc_347_123 rfl ?_
  refine Bod.get dc_347_124 fr_347_129 (mk_61 _) rfl ?_
  refine Bod.go dc_347_127 rfl ?_
  refine Bod.get dc_347_128 fr_347_190 (mk_61 _) rfl ?_
  refine Bod.eqI (nI k3) (by first | (simp (disch := omega) only [rI, rIe, rA, rIA, rLA, rJA, rVI, rQI, rVA, rQA, upd_at,  rAI, rLI, rJI, nI_add, pk_sub, kc_0, kc_1, kc_2, kc_3, kc_4, kc_5, reduceIte, Nat.reduceEqDiff, Nat.add_zero, rI_hold, rI_hold, rL_hold, hk, hf6127, hf61271, hk1, he67, he70, hk2, hk3]; done) | (simp (disch := omega) only [rI, rIe, rA, rIA, rLA, rJA, rVI, rQI, rVA, rQA, upd_at,  rAI, rLI, rJI, nI_add, pk_sub, kc_0, kc_1, kc_2, kc_3, kc_4, kc_5, reduceIte, Nat.reduceEqDiff, Nat.add_zero, rI_hold, rI_hold, rL_hold, hk, hf6127, hf61271, hk1, he67, he70, hk2, hk3]; exact congrArg nI (by omega))) ?_
  refine Bod.ialdN k3 rfl (by omega) (by omega) dc_347_131 (mk_67 _) ?_
  refine Bod.eqI (nI e671) (by first | (simp (disch := omega) only [rI, rIe, rA, rIA, rLA, rJA, rVI, rQI, rVA, rQA, upd_at,  rAI, rLI, rJI, nI_add, pk_sub, kc_0, kc_1, kc_2, kc_3, kc_4, kc_5, reduceIte, Nat.reduceEqDiff, Nat.add_zero, rI_hold, rI_hold, rL_hold, hk, hf6127, hf61271, hk1, he67, he70, hk2, hk3, he671]; done) | (simp (disch := omega) only [rI, rIe, rA, rIA, rLA, rJA, rVI, rQI, rVA, rQA, upd_at,  rAI, rLI, rJI, nI_add, pk_sub, kc_0, kc_1, kc_2, kc_3, kc_4, kc_5, reduceIte, Nat.reduceEqDiff, Nat.add_zero, rI_hold, rI_hold, rL_hold, hk, hf6127, hf61271, hk1, he67, he70, hk2, hk3, he671]; exact congrArg nI (by omega))) ?_
  refine Bod.ic 1 (by decide) dc_347_132 ?_
  refine Bod.icF dc_347_133 rfl (k2_ne_F (k_eq e671 1 rfl rfl (by omega))) ?_
  refine Bod.go dc_347_136 rfl ?_
  refine Bod.bip 6 (by decide) dc_347_137 ?_
  refine Bod.go dc_347_139 rfl ?_
  refine Bod.get dc_347_140 fr_347_135 (mk_61 _) rfl ?_
  refine Bod.go dc_347_143 rfl ?_
  refine Bod.get dc_347_144 fr_347_190 (mk_61 _) rfl ?_
  refine Bod.eqI (nI k3) (by first | (simp (disch := omega) only [rI, rIe, rA, rIA, rLA, rJA, rVI, rQI, rVA, rQA, upd_at,  rAI, rLI, rJI, nI_add, pk_sub, kc_0, kc_1, kc_2, kc_3, kc_4, kc_5, reduceIte, Nat.reduceEqDiff, Nat.add_zero, rI_hold, rI_hold, rL_hold, hk, hf6127, hf61271, hk1, he67, he70, hk2, hk3, he671]; done) | (simp (disch := omega) only [rI, rIe, rA, rIA, rLA, rJA, rVI, rQI, rVA, rQA, upd_at,  rAI, rLI, rJI, nI_add, pk_sub, kc_0, kc_1, kc_2, kc_3, kc_4, kc_5, reduceIte, Nat.reduceEqDiff, Nat.add_zero, rI_hold, rI_hold, rL_hold, hk, hf6127, hf61271, hk1, he67, he70, hk2, hk3, he671]; exact congrArg nI (by omega))) ?_
  refine Bod.ialdN k3 rfl (by omega) (by omega) dc_347_147 (mk_68 _) ?_
  refine Bod.eqI (nI e68) (by first | (simp (disch := omega) only [rI, rIe, rA, rIA, rLA, rJA, rVI, rQI, rVA, rQA, upd_at,  rAI, rLI, rJI, nI_add, pk_sub, kc_0, kc_1, kc_2, kc_3, kc_4, kc_5, reduceIte, Nat.reduceEqDiff, Nat.add_zero, rI_hold, rI_hold, rL_hold, hk, hf6127, hf61271, hk1, he67, he70, hk2, hk3, he671, he68]; done) | (simp (disch := omega) only [rI, rIe, rA, rIA, rLA, rJA, rVI, rQI, rVA, rQA, upd_at,  rAI, rLI, rJI, nI_add, pk_sub, kc_0, kc_1, kc_2, kc_3, kc_4, kc_5, reduceIte, Nat.reduceEqDiff, Nat.add_zero, rI_hold, rI_hold, rL_hold, hk, hf6127, hf61271, hk1, he67, he70, hk2, hk3, he671, he68]; exact congrArg nI (by omega))) ?_
  refine Bod.virt (r := []) dc_347_148 kr_347_341 ⟨Or.inl rfl, ow_317, cl_14⟩ (by rw [np_317]; rfl) (by rw [np_317]; rfl) (ob_of (mk_61 _)) (Nat.le_of_ble_eq_true rfl) (c8  ) ?_
  show Bod _ _ _ _ [] _ _ _
  refine Bod.go dc_347_151 rfl ?_
  refine Bod.go dc_347_152 rfl ?_
  refine Bod.get dc_347_153 fr_347_190 (mk_61 _) rfl ?_
  refine Bod.eqI (nI k4) (by first | (simp (disch := omega) only [rI, rIe, rA, rIA, rLA, rJA, rVI, rQI, rVA, rQA, upd_at,  rAI, rLI, rJI, nI_add, pk_sub, kc_0, kc_1, kc_2, kc_3, kc_4, kc_5, reduceIte, Nat.reduceEqDiff, Nat.add_zero, rI_hold, rI_hold, rL_hold, hk, hf6127, hf61271, hk1, he67, he70, hk2, hk3, he671, he68, hk4]; done) | (simp (disch := omega) only [rI, rIe, rA, rIA, rLA, rJA, rVI, rQI, rVA, rQA, upd_at,  rAI, rLI, rJI, nI_add, pk_sub, kc_0, kc_1, kc_2, kc_3, kc_4, kc_5, reduceIte, Nat.reduceEqDiff, Nat.add_zero, rI_hold, rI_hold, rL_hold, hk, hf6127, hf61271, hk1, he67, he70, hk2, hk3, he671, he68, hk4]; exact congrArg nI (by omega))) ?_
  refine Bod.ic 1 (by decide) dc_347_156 ?_
  refine Bod.addN (k4 + 1) (by omega) dc_347_157 ?_
  refine Bod.put dc_347_158 fr_347_190 (mk_61 _) (Nat.le_of_ble_eq_true rfl) pf_14_15 (st_6115 _ _) (mu_I _ _ _) ?_
  refine Bod.go dc_347_161 rfl ?_
  refine Bod.go dc_347_170 rfl ?_
  refine Bod.go dc_347_171 rfl ?_
  refine Bod.ic 0 (by decide) dc_347_172 ?_
  refine Bod.virt (r := []) dc_347_173 kr_347_309 ⟨Or.inl rfl, ow_334, cl_14⟩ (by rw [np_334]; rfl) (by rw [np_334]; rfl) (ob_of (mk_61 _)) (Nat.le_of_ble_eq_true rfl) (c9  ) ?_
  show Bod _ _ _ _ [_] _ _ _
  refine Bod.ifF dc_347_176 rfl (k1_ne_F (k_eq 0 0 rfl rfl (by omega))) ?_
  refine Bod.ic 0 (by decide) dc_347_179 ?_
  exact Bod.retZ dc_347_180 rt_347 (Or.inl rfl)
theorem sIf_9 {d : Nat} {S : cS} {a : Nat} {k : Nat} {S1 : cS} {a : Nat} {f6127 : Nat} {S2 : cS} {f61271 : Nat} {S3 : cS} {S4 : cS} {a1 : Nat} {S5 : cS} {k1 : Nat} {e67 : Nat} {e70 : Nat} {S6 : cS} {S7 : cS} (ma : a < 2 ^ 20) (hk : sI S 6115 = nI k) (mk : k < 5990) (ma : a < 2 ^ 20) (c1 : Ans (d + 8) 325 [.ref 61, .int (nI 34)] (wI 6115 (nI (k + 1)) S) (some (.int (nI a))) S1) (hf6127 : sI S1 6127 = nI f6127) (mf6127 : f6127 < 2 ^ 20) (c2 : Ans (d + 8) 334 [.ref 61, .int (nI a), .int (nI 0)] (wI 6127 (nI (f6127 + 1)) S1) (some (.int (nI 1))) S2) (hf61271 : sI S2 6127 = nI f61271) (mf61271 : f61271 < 2 ^ 20) (b1 : 1 ≤ f61271) (c3 : Ans (d + 8) 322 [.ref 61, .int (nI 35)] (wI 6127 (nI (f61271 - 1)) S2) none S3) (ma1 : a1 < 2 ^ 20) (c4 : Ans (d + 8) 325 [.ref 61, .int (nI 11)] S3 (some (.int (nI a1))) S4) (c5 : Ans (d + 8) 326 [.ref 61, .int (nI a)] S4 none S5) (hk1 : sI S5 6115 = nI k1) (mk1 : k1 < 5990) (he67 : sA S5 67 k1 = nI e67) (me67 : e67 < 2 ^ 20) (b2 : e67 ≠ 7) (he70 : sA S5 70 k1 = nI e70) (me70 : e70 < 2 ^ 20) (b3 : e70 = a) (c6 : Ans (d + 8) 309 [.ref 61, .int (nI 15)] S5 (some (.int (nI 0))) S6) (c7 : Ans (d + 8) 299 [.ref 61] S6 (some (.int (nI 1))) S7) : Bod (d + 8) 347 0 [(0, .ref 61), (1, .int (nI a))] [] S (some (.int 1)) (S7) := by
  refine Bod.go dc_347_0 rfl ?_
  refine Bod.go dc_347_1 rfl ?_
  refine Bod.get dc_347_2 fr_347_190 (mk_61 _) rfl ?_
  refine Bod.eqI (nI k) (by first | assumption | rfl | exact congrArg nI (by omega) | (simp (disch := omega) only [rI, rIe, rA, rIA, rLA, rJA, rVI, rQI, rVA, rQA, upd_at,  rAI, rLI, rJI, nI_add, pk_sub, kc_0, kc_1, kc_2, kc_3, kc_4, kc_5, reduceIte, Nat.reduceEqDiff, Nat.add_zero, rI_hold, rI_hold, rL_hold, hk]; done)) ?_
  refine Bod.ic 1 (by decide) dc_347_5 ?_
  refine Bod.addN (k + 1) (by omega) dc_347_6 ?_
  refine Bod.put dc_347_7 fr_347_190 (mk_61 _) (Nat.le_of_ble_eq_true rfl) pf_14_15 (st_6115 _ _) (mu_I _ _ _) ?_
  refine Bod.go dc_347_10 rfl ?_
  refine Bod.bip 34 (by decide) dc_347_11 ?_
  refine Bod.virt (r := []) dc_347_13 kr_347_305 ⟨Or.inl rfl, ow_325, cl_14⟩ (by rw [np_325]; rfl) (by rw [np_325]; rfl) (ob_of (mk_61 _)) (Nat.le_of_ble_eq_true rfl) (c1  ) ?_
  show Bod _ _ _ _ [_] _ _ _
  refine Bod.istn dc_347_16 (by rw [ml_347]; exact Nat.le_of_ble_eq_true rfl) ?_
  refine Bod.go dc_347_17 rfl ?_
  refine Bod.go dc_347_18 rfl ?_
  refine Bod.get dc_347_19 fr_347_245 (mk_61 _) rfl ?_
  refine Bod.eqI (nI f6127) (by first | (simp (disch := omega) only [rI, rIe, rA, rIA, rLA, rJA, rVI, rQI, rVA, rQA, upd_at,  rAI, rLI, rJI, nI_add, pk_sub, kc_0, kc_1, kc_2, kc_3, kc_4, kc_5, reduceIte, Nat.reduceEqDiff, Nat.add_zero, rI_hold, rI_hold, rL_hold, hk, hf6127]; done) | (simp (disch := omega) only [rI, rIe, rA, rIA, rLA, rJA, rVI, rQI, rVA, rQA, upd_at,  rAI, rLI, rJI, nI_add, pk_sub, kc_0, kc_1, kc_2, kc_3, kc_4, kc_5, reduceIte, Nat.reduceEqDiff, Nat.add_zero, rI_hold, rI_hold, rL_hold, hk, hf6127]; exact congrArg nI (by omega))) ?_
  refine Bod.ic 1 (by decide) dc_347_22 ?_
  refine Bod.addN (f6127 + 1) (by omega) dc_347_23 ?_
  refine Bod.put dc_347_24 fr_347_245 (mk_61 _) (Nat.le_of_ble_eq_true rfl) pf_14_27 (st_6127 _ _) (mu_I _ _ _) ?_
  refine Bod.go dc_347_27 rfl ?_
  refine Bod.go dc_347_28 rfl ?_
  refine Bod.ic 0 (by decide) dc_347_29 ?_
  refine Bod.virt (r := []) dc_347_30 kr_347_309 ⟨Or.inl rfl, ow_334, cl_14⟩ (by rw [np_334]; rfl) (by rw [np_334]; rfl) (ob_of (mk_61 _)) (Nat.le_of_ble_eq_true rfl) (c2  ) ?_
  show Bod _ _ _ _ [_] _ _ _
  refine Bod.ifT dc_347_33 rfl (k1_ne_T (k_ne 1 0 rfl rfl (by omega) (by omega) (by omega))) ?_
  refine Bod.go dc_347_38 rfl ?_
  refine Bod.go dc_347_39 rfl ?_
  refine Bod.get dc_347_40 fr_347_245 (mk_61 _) rfl ?_
  refine Bod.eqI (nI f61271) (by first | (simp (disch := omega) only [rI, rIe, rA, rIA, rLA, rJA, rVI, rQI, rVA, rQA, upd_at,  rAI, rLI, rJI, nI_add, pk_sub, kc_0, kc_1, kc_2, kc_3, kc_4, kc_5, reduceIte, Nat.reduceEqDiff, Nat.add_zero, rI_hold, rI_hold, rL_hold, hk, hf6127, hf61271]; done) | (simp (disch := omega) only [rI, rIe, rA, rIA, rLA, rJA, rVI, rQI, rVA, rQA, upd_at,  rAI, rLI, rJI, nI_add, pk_sub, kc_0, kc_1, kc_2, kc_3, kc_4, kc_5, reduceIte, Nat.reduceEqDiff, Nat.add_zero, rI_hold, rI_hold, rL_hold, hk, hf6127, hf61271]; exact congrArg nI (by omega))) ?_
  refine Bod.ic 1 (by decide) dc_347_43 ?_
  refine Bod.subN (f61271 - 1) (by omega) (by omega) dc_347_44 ?_
  refine Bod.put dc_347_45 fr_347_245 (mk_61 _) (Nat.le_of_ble_eq_true rfl) pf_14_27 (st_6127 _ _) (mu_I _ _ _) ?_
  refine Bod.go dc_347_48 rfl ?_
  refine Bod.bip 35 (by decide) dc_347_49 ?_
  refine Bod.virt (r := []) dc_347_51 kr_347_269 ⟨Or.inl rfl, ow_322, cl_14⟩ (by rw [np_322]; rfl) (by rw [np_322]; rfl) (ob_of (mk_61 _)) (Nat.le_of_ble_eq_true rfl) (c3  ) ?_
  show Bod _ _ _ _ [] _ _ _
  refine Bod.go dc_347_54 rfl ?_
  refine Bod.bip 11 (by decide) dc_347_55 ?_
  refine Bod.virt (r := []) dc_347_57 kr_347_305 ⟨Or.inl rfl, ow_325, cl_14⟩ (by rw [np_325]; rfl) (by rw [np_325]; rfl) (ob_of (mk_61 _)) (Nat.le_of_ble_eq_true rfl) (c4  ) ?_
  show Bod _ _ _ _ [_] _ _ _
  refine Bod.istn dc_347_60 (by rw [ml_347]; exact Nat.le_of_ble_eq_true rfl) ?_
  refine Bod.go dc_347_61 rfl ?_
  refine Bod.go dc_347_62 rfl ?_
  refine Bod.virt (r := []) dc_347_63 kr_347_317 ⟨Or.inl rfl, ow_326, cl_14⟩ (by rw [np_326]; rfl) (by rw [np_326]; rfl) (ob_of (mk_61 _)) (Nat.le_of_ble_eq_true rfl) (c5  ) ?_
  show Bod _ _ _ _ [] _ _ _
  refine Bod.go dc_347_66 rfl ?_
  refine Bod.get dc_347_67 fr_347_129 (mk_61 _) rfl ?_
  refine Bod.go dc_347_70 rfl ?_
  refine Bod.get dc_347_71 fr_347_190 (mk_61 _) rfl ?_
  refine Bod.eqI (nI k1) (by first | (simp (disch := omega) only [rI, rIe, rA, rIA, rLA, rJA, rVI, rQI, rVA, rQA, upd_at,  rAI, rLI, rJI, nI_add, pk_sub, kc_0, kc_1, kc_2, kc_3, kc_4, kc_5, reduceIte, Nat.reduceEqDiff, Nat.add_zero, rI_hold, rI_hold, rL_hold, hk, hf6127, hf61271, hk1]; done) | (simp (disch := omega) only [rI, rIe, rA, rIA, rLA, rJA, rVI, rQI, rVA, rQA, upd_at,  rAI, rLI, rJI, nI_add, pk_sub, kc_0, kc_1, kc_2, kc_3, kc_4, kc_5, reduceIte, Nat.reduceEqDiff, Nat.add_zero, rI_hold, rI_hold, rL_hold, hk, hf6127, hf61271, hk1]; exact congrArg nI (by omega))) ?_
  refine Bod.ialdN k1 rfl (by omega) (by omega) dc_347_74 (mk_67 _) ?_
  refine Bod.eqI (nI e67) (by first | (simp (disch := omega) only [rI, rIe, rA, rIA, rLA, rJA, rVI, rQI, rVA, rQA, upd_at,  rAI, rLI, rJI, nI_add, pk_sub, kc_0, kc_1, kc_2, kc_3, kc_4, kc_5, reduceIte, Nat.reduceEqDiff, Nat.add_zero, rI_hold, rI_hold, rL_hold, hk, hf6127, hf61271, hk1, he67]; done) | (simp (disch := omega) only [rI, rIe, rA, rIA, rLA, rJA, rVI, rQI, rVA, rQA, upd_at,  rAI, rLI, rJI, nI_add, pk_sub, kc_0, kc_1, kc_2, kc_3, kc_4, kc_5, reduceIte, Nat.reduceEqDiff, Nat.add_zero, rI_hold, rI_hold, rL_hold, hk, hf6127, hf61271, hk1, he67]; exact congrArg nI (by omega))) ?_
  refine Bod.bip 7 (by decide) dc_347_75 ?_
  refine Bod.icF dc_347_77 rfl (k2_eq_F (k_ne e67 7 rfl rfl (by omega) (by omega) (by omega))) ?_
  refine Bod.go dc_347_80 rfl ?_
  refine Bod.get dc_347_81 fr_347_141 (mk_61 _) rfl ?_
  refine Bod.go dc_347_84 rfl ?_
  refine Bod.get dc_347_85 fr_347_190 (mk_61 _) rfl ?_
  refine Bod.eqI (nI k1) (by first | (simp (disch := omega) only [rI, rIe, rA, rIA, rLA, rJA, rVI, rQI, rVA, rQA, upd_at,  rAI, rLI, rJI, nI_add, pk_sub, kc_0, kc_1, kc_2, kc_3, kc_4, kc_5, reduceIte, Nat.reduceEqDiff, Nat.add_zero, rI_hold, rI_hold, rL_hold, hk, hf6127, hf61271, hk1, he67]; done) | (simp (disch := omega) only [rI, rIe, rA, rIA, rLA, rJA, rVI, rQI, rVA, rQA, upd_at,  rAI, rLI, rJI, nI_add, pk_sub, kc_0, kc_1, kc_2, kc_3, kc_4, kc_5, reduceIte, Nat.reduceEqDiff, Nat.add_zero, rI_hold, rI_hold, rL_hold, hk, hf6127, hf61271, hk1, he67]; exact congrArg nI (by omega))) ?_
  refine Bod.ialdN k1 rfl (by omega) (by omega) dc_347_88 (mk_70 _) ?_
  refine Bod.eqI (nI e70) (by first | (simp (disch := omega) only [rI, rIe, rA, rIA, rLA, rJA, rVI, rQI, rVA, rQA, upd_at,  rAI, rLI, rJI, nI_add, pk_sub, kc_0, kc_1, kc_2, kc_3, kc_4, kc_5, reduceIte, Nat.reduceEqDiff, Nat.add_zero, rI_hold, rI_hold, rL_hold, hk, hf6127, hf61271, hk1, he67, he70]; done) | (simp (disch := omega) only [rI, rIe, rA, rIA, rLA, rJA, rVI, rQI, rVA, rQA, upd_at,  rAI, rLI, rJI, nI_add, pk_sub, kc_0, kc_1, kc_2, kc_3, kc_4, kc_5, reduceIte, Nat.reduceEqDiff, Nat.add_zero, rI_hold, rI_hold, rL_hold, hk, hf6127, hf61271, hk1, he67, he70]; exact congrArg nI (by omega))) ?_
  refine Bod.go dc_347_89 rfl ?_
  refine Bod.icF dc_347_90 rfl (k2_ne_F (k_eq e70 a rfl rfl (by omega))) ?_
  refine Bod.go dc_347_93 rfl ?_
  refine Bod.bip 15 (by decide) dc_347_94 ?_
  refine Bod.virt (r := []) dc_347_96 kr_347_312 ⟨Or.inl rfl, ow_309, cl_14⟩ (by rw [np_309]; rfl) (by rw [np_309]; rfl) (ob_of (mk_61 _)) (Nat.le_of_ble_eq_true rfl) (c6  ) ?_
  show Bod _ _ _ _ [_] _ _ _
  refine Bod.ifF dc_347_99 rfl (k1_ne_F (k_eq 0 0 rfl rfl (by omega))) ?_
  refine Bod.go dc_347_102 rfl ?_
  refine Bod.virt (r := []) dc_347_103 kr_347_202 ⟨Or.inl rfl, ow_299, cl_14⟩ (by rw [np_299]; rfl) (by rw [np_299]; rfl) (ob_of (mk_61 _)) (Nat.le_of_ble_eq_true rfl) (c7  ) ?_
  show Bod _ _ _ _ [_] _ _ _
  exact Bod.retZ dc_347_106 rt_347 (Or.inr rfl)
theorem sIf_10 {d : Nat} {S : cS} {a : Nat} {k : Nat} {S1 : cS} {a : Nat} {f6127 : Nat} {S2 : cS} {f61271 : Nat} {S3 : cS} {S4 : cS} {a1 : Nat} {S5 : cS} {k1 : Nat} {e67 : Nat} {e70 : Nat} {S6 : cS} {S7 : cS} (ma : a < 2 ^ 20) (hk : sI S 6115 = nI k) (mk : k < 5990) (ma : a < 2 ^ 20) (c1 : Ans (d + 8) 325 [.ref 61, .int (nI 34)] (wI 6115 (nI (k + 1)) S) (some (.int (nI a))) S1) (hf6127 : sI S1 6127 = nI f6127) (mf6127 : f6127 < 2 ^ 20) (c2 : Ans (d + 8) 334 [.ref 61, .int (nI a), .int (nI 0)] (wI 6127 (nI (f6127 + 1)) S1) (some (.int (nI 1))) S2) (hf61271 : sI S2 6127 = nI f61271) (mf61271 : f61271 < 2 ^ 20) (b1 : 1 ≤ f61271) (c3 : Ans (d + 8) 322 [.ref 61, .int (nI 35)] (wI 6127 (nI (f61271 - 1)) S2) none S3) (ma1 : a1 < 2 ^ 20) (c4 : Ans (d + 8) 325 [.ref 61, .int (nI 11)] S3 (some (.int (nI a1))) S4) (c5 : Ans (d + 8) 326 [.ref 61, .int (nI a)] S4 none S5) (hk1 : sI S5 6115 = nI k1) (mk1 : k1 < 5990) (he67 : sA S5 67 k1 = nI e67) (me67 : e67 < 2 ^ 20) (b2 : e67 ≠ 7) (he70 : sA S5 70 k1 = nI e70) (me70 : e70 < 2 ^ 20) (b3 : e70 = a) (c6 : Ans (d + 8) 309 [.ref 61, .int (nI 15)] S5 (some (.int (nI 0))) S6) (c7 : Ans (d + 8) 299 [.ref 61] S6 (some (.int (nI 0))) S7) : Bod (d + 8) 347 0 [(0, .ref 61), (1, .int (nI a))] [] S (some (.int 0)) (S7) := by
  refine Bod.go dc_347_0 rfl ?_
  refine Bod.go dc_347_1 rfl ?_
  refine Bod.get dc_347_2 fr_347_190 (mk_61 _) rfl ?_
  refine Bod.eqI (nI k) (by first | assumption | rfl | exact congrArg nI (by omega) | (simp (disch := omega) only [rI, rIe, rA, rIA, rLA, rJA, rVI, rQI, rVA, rQA, upd_at,  rAI, rLI, rJI, nI_add, pk_sub, kc_0, kc_1, kc_2, kc_3, kc_4, kc_5, reduceIte, Nat.reduceEqDiff, Nat.add_zero, rI_hold, rI_hold, rL_hold, hk]; done)) ?_
  refine Bod.ic 1 (by decide) dc_347_5 ?_
  refine Bod.addN (k + 1) (by omega) dc_347_6 ?_
  refine Bod.put dc_347_7 fr_347_190 (mk_61 _) (Nat.le_of_ble_eq_true rfl) pf_14_15 (st_6115 _ _) (mu_I _ _ _) ?_
  refine Bod.go dc_347_10 rfl ?_
  refine Bod.bip 34 (by decide) dc_347_11 ?_
  refine Bod.virt (r := []) dc_347_13 kr_347_305 ⟨Or.inl rfl, ow_325, cl_14⟩ (by rw [np_325]; rfl) (by rw [np_325]; rfl) (ob_of (mk_61 _)) (Nat.le_of_ble_eq_true rfl) (c1  ) ?_
  show Bod _ _ _ _ [_] _ _ _
  refine Bod.istn dc_347_16 (by rw [ml_347]; exact Nat.le_of_ble_eq_true rfl) ?_
  refine Bod.go dc_347_17 rfl ?_
  refine Bod.go dc_347_18 rfl ?_
  refine Bod.get dc_347_19 fr_347_245 (mk_61 _) rfl ?_
  refine Bod.eqI (nI f6127) (by first | (simp (disch := omega) only [rI, rIe, rA, rIA, rLA, rJA, rVI, rQI, rVA, rQA, upd_at,  rAI, rLI, rJI, nI_add, pk_sub, kc_0, kc_1, kc_2, kc_3, kc_4, kc_5, reduceIte, Nat.reduceEqDiff, Nat.add_zero, rI_hold, rI_hold, rL_hold, hk, hf6127]; done) | (simp (disch := omega) only [rI, rIe, rA, rIA, rLA, rJA, rVI, rQI, rVA, rQA, upd_at,  rAI, rLI, rJI, nI_add, pk_sub, kc_0, kc_1, kc_2, kc_3, kc_4, kc_5, reduceIte, Nat.reduceEqDiff, Nat.add_zero, rI_hold, rI_hold, rL_hold, hk, hf6127]; exact congrArg nI (by omega))) ?_
  refine Bod.ic 1 (by decide) dc_347_22 ?_
  refine Bod.addN (f6127 + 1) (by omega) dc_347_23 ?_
  refine Bod.put dc_347_24 fr_347_245 (mk_61 _) (Nat.le_of_ble_eq_true rfl) pf_14_27 (st_6127 _ _) (mu_I _ _ _) ?_
  refine Bod.go dc_347_27 rfl ?_
  refine Bod.go dc_347_28 rfl ?_
  refine Bod.ic 0 (by decide) dc_347_29 ?_
  refine Bod.virt (r := []) dc_347_30 kr_347_309 ⟨Or.inl rfl, ow_334, cl_14⟩ (by rw [np_334]; rfl) (by rw [np_334]; rfl) (ob_of (mk_61 _)) (Nat.le_of_ble_eq_true rfl) (c2  ) ?_
  show Bod _ _ _ _ [_] _ _ _
  refine Bod.ifT dc_347_33 rfl (k1_ne_T (k_ne 1 0 rfl rfl (by omega) (by omega) (by omega))) ?_
  refine Bod.go dc_347_38 rfl ?_
  refine Bod.go dc_347_39 rfl ?_
  refine Bod.get dc_347_40 fr_347_245 (mk_61 _) rfl ?_
  refine Bod.eqI (nI f61271) (by first | (simp (disch := omega) only [rI, rIe, rA, rIA, rLA, rJA, rVI, rQI, rVA, rQA, upd_at,  rAI, rLI, rJI, nI_add, pk_sub, kc_0, kc_1, kc_2, kc_3, kc_4, kc_5, reduceIte, Nat.reduceEqDiff, Nat.add_zero, rI_hold, rI_hold, rL_hold, hk, hf6127, hf61271]; done) | (simp (disch := omega) only [rI, rIe, rA, rIA, rLA, rJA, rVI, rQI, rVA, rQA, upd_at,  rAI, rLI, rJI, nI_add, pk_sub, kc_0, kc_1, kc_2, kc_3, kc_4, kc_5, reduceIte, Nat.reduceEqDiff, Nat.add_zero, rI_hold, rI_hold, rL_hold, hk, hf6127, hf61271]; exact congrArg nI (by omega))) ?_
  refine Bod.ic 1 (by decide) dc_347_43 ?_
  refine Bod.subN (f61271 - 1) (by omega) (by omega) dc_347_44 ?_
  refine Bod.put dc_347_45 fr_347_245 (mk_61 _) (Nat.le_of_ble_eq_true rfl) pf_14_27 (st_6127 _ _) (mu_I _ _ _) ?_
  refine Bod.go dc_347_48 rfl ?_
  refine Bod.bip 35 (by decide) dc_347_49 ?_
  refine Bod.virt (r := []) dc_347_51 kr_347_269 ⟨Or.inl rfl, ow_322, cl_14⟩ (by rw [np_322]; rfl) (by rw [np_322]; rfl) (ob_of (mk_61 _)) (Nat.le_of_ble_eq_true rfl) (c3  ) ?_
  show Bod _ _ _ _ [] _ _ _
  refine Bod.go dc_347_54 rfl ?_
  refine Bod.bip 11 (by decide) dc_347_55 ?_
  refine Bod.virt (r := []) dc_347_57 kr_347_305 ⟨Or.inl rfl, ow_325, cl_14⟩ (by rw [np_325]; rfl) (by rw [np_325]; rfl) (ob_of (mk_61 _)) (Nat.le_of_ble_eq_true rfl) (c4  ) ?_
  show Bod _ _ _ _ [_] _ _ _
  refine Bod.istn dc_347_60 (by rw [ml_347]; exact Nat.le_of_ble_eq_true rfl) ?_
  refine Bod.go dc_347_61 rfl ?_
  refine Bod.go dc_347_62 rfl ?_
  refine Bod.virt (r := []) dc_347_63 kr_347_317 ⟨Or.inl rfl, ow_326, cl_14⟩ (by rw [np_326]; rfl) (by rw [np_326]; rfl) (ob_of (mk_61 _)) (Nat.le_of_ble_eq_true rfl) (c5  ) ?_
  show Bod _ _ _ _ [] _ _ _
  refine Bod.go dc_347_66 rfl ?_
  refine Bod.get dc_347_67 fr_347_129 (mk_61 _) rfl ?_
  refine Bod.go dc_347_70 rfl ?_
  refine Bod.get dc_347_71 fr_347_190 (mk_61 _) rfl ?_
  refine Bod.eqI (nI k1) (by first | (simp (disch := omega) only [rI, rIe, rA, rIA, rLA, rJA, rVI, rQI, rVA, rQA, upd_at,  rAI, rLI, rJI, nI_add, pk_sub, kc_0, kc_1, kc_2, kc_3, kc_4, kc_5, reduceIte, Nat.reduceEqDiff, Nat.add_zero, rI_hold, rI_hold, rL_hold, hk, hf6127, hf61271, hk1]; done) | (simp (disch := omega) only [rI, rIe, rA, rIA, rLA, rJA, rVI, rQI, rVA, rQA, upd_at,  rAI, rLI, rJI, nI_add, pk_sub, kc_0, kc_1, kc_2, kc_3, kc_4, kc_5, reduceIte, Nat.reduceEqDiff, Nat.add_zero, rI_hold, rI_hold, rL_hold, hk, hf6127, hf61271, hk1]; exact congrArg nI (by omega))) ?_
  refine Bod.ialdN k1 rfl (by omega) (by omega) dc_347_74 (mk_67 _) ?_
  refine Bod.eqI (nI e67) (by first | (simp (disch := omega) only [rI, rIe, rA, rIA, rLA, rJA, rVI, rQI, rVA, rQA, upd_at,  rAI, rLI, rJI, nI_add, pk_sub, kc_0, kc_1, kc_2, kc_3, kc_4, kc_5, reduceIte, Nat.reduceEqDiff, Nat.add_zero, rI_hold, rI_hold, rL_hold, hk, hf6127, hf61271, hk1, he67]; done) | (simp (disch := omega) only [rI, rIe, rA, rIA, rLA, rJA, rVI, rQI, rVA, rQA, upd_at,  rAI, rLI, rJI, nI_add, pk_sub, kc_0, kc_1, kc_2, kc_3, kc_4, kc_5, reduceIte, Nat.reduceEqDiff, Nat.add_zero, rI_hold, rI_hold, rL_hold, hk, hf6127, hf61271, hk1, he67]; exact congrArg nI (by omega))) ?_
  refine Bod.bip 7 (by decide) dc_347_75 ?_
  refine Bod.icF dc_347_77 rfl (k2_eq_F (k_ne e67 7 rfl rfl (by omega) (by omega) (by omega))) ?_
  refine Bod.go dc_347_80 rfl ?_
  refine Bod.get dc_347_81 fr_347_141 (mk_61 _) rfl ?_
  refine Bod.go dc_347_84 rfl ?_
  refine Bod.get dc_347_85 fr_347_190 (mk_61 _) rfl ?_
  refine Bod.eqI (nI k1) (by first | (simp (disch := omega) only [rI, rIe, rA, rIA, rLA, rJA, rVI, rQI, rVA, rQA, upd_at,  rAI, rLI, rJI, nI_add, pk_sub, kc_0, kc_1, kc_2, kc_3, kc_4, kc_5, reduceIte, Nat.reduceEqDiff, Nat.add_zero, rI_hold, rI_hold, rL_hold, hk, hf6127, hf61271, hk1, he67]; done) | (simp (disch := omega) only [rI, rIe, rA, rIA, rLA, rJA, rVI, rQI, rVA, rQA, upd_at,  rAI, rLI, rJI, nI_add, pk_sub, kc_0, kc_1, kc_2, kc_3, kc_4, kc_5, reduceIte, Nat.reduceEqDiff, Nat.add_zero, rI_hold, rI_hold, rL_hold, hk, hf6127, hf61271, hk1, he67]; exact congrArg nI (by omega))) ?_
  refine Bod.ialdN k1 rfl (by omega) (by omega) dc_347_88 (mk_70 _) ?_
  refine Bod.eqI (nI e70) (by first | (simp (disch := omega) only [rI, rIe, rA, rIA, rLA, rJA, rVI, rQI, rVA, rQA, upd_at,  rAI, rLI, rJI, nI_add, pk_sub, kc_0, kc_1, kc_2, kc_3, kc_4, kc_5, reduceIte, Nat.reduceEqDiff, Nat.add_zero, rI_hold, rI_hold, rL_hold, hk, hf6127, hf61271, hk1, he67, he70]; done) | (simp (disch := omega) only [rI, rIe, rA, rIA, rLA, rJA, rVI, rQI, rVA, rQA, upd_at,  rAI, rLI, rJI, nI_add, pk_sub, kc_0, kc_1, kc_2, kc_3, kc_4, kc_5, reduceIte, Nat.reduceEqDiff, Nat.add_zero, rI_hold, rI_hold, rL_hold, hk, hf6127, hf61271, hk1, he67, he70]; exact congrArg nI (by omega))) ?_
  refine Bod.go dc_347_89 rfl ?_
  refine Bod.icF dc_347_90 rfl (k2_ne_F (k_eq e70 a rfl rfl (by omega))) ?_
  refine Bod.go dc_347_93 rfl ?_
  refine Bod.bip 15 (by decide) dc_347_94 ?_
  refine Bod.virt (r := []) dc_347_96 kr_347_312 ⟨Or.inl rfl, ow_309, cl_14⟩ (by rw [np_309]; rfl) (by rw [np_309]; rfl) (ob_of (mk_61 _)) (Nat.le_of_ble_eq_true rfl) (c6  ) ?_
  show Bod _ _ _ _ [_] _ _ _
  refine Bod.ifF dc_347_99 rfl (k1_ne_F (k_eq 0 0 rfl rfl (by omega))) ?_
  refine Bod.go dc_347_102 rfl ?_
  refine Bod.virt (r := []) dc_347_103 kr_347_202 ⟨Or.inl rfl, ow_299, cl_14⟩ (by rw [np_299]; rfl) (by rw [np_299]; rfl) (ob_of (mk_61 _)) (Nat.le_of_ble_eq_true rfl) (c7  ) ?_
  show Bod _ _ _ _ [_] _ _ _
  exact Bod.retZ dc_347_106 rt_347 (Or.inl rfl)
theorem sIf_11 {d : Nat} {S : cS} {a : Nat} {k : Nat} {S1 : cS} {a : Nat} {f6127 : Nat} {S2 : cS} (ma : a < 2 ^ 20) (hk : sI S 6115 = nI k) (mk : k < 5990) (ma : a < 2 ^ 20) (c1 : Ans (d + 8) 325 [.ref 61, .int (nI 34)] (wI 6115 (nI (k + 1)) S) (some (.int (nI a))) S1) (hf6127 : sI S1 6127 = nI f6127) (mf6127 : f6127 < 2 ^ 20) (c2 : Ans (d + 8) 334 [.ref 61, .int (nI a), .int (nI 0)] (wI 6127 (nI (f6127 + 1)) S1) (some (.int (nI 0))) S2) : Bod (d + 8) 347 0 [(0, .ref 61), (1, .int (nI a))] [] S (some (.int 0)) (S2) := by
  refine Bod.go dc_347_0 rfl ?_
  refine Bod.go dc_347_1 rfl ?_
  refine Bod.get dc_347_2 fr_347_190 (mk_61 _) rfl ?_
  refine Bod.eqI (nI k) (by first | assumption | rfl | exact congrArg nI (by omega) | (simp (disch := omega) only [rI, rIe, rA, rIA, rLA, rJA, rVI, rQI, rVA, rQA, upd_at,  rAI, rLI, rJI, nI_add, pk_sub, kc_0, kc_1, kc_2, kc_3, kc_4, kc_5, reduceIte, Nat.reduceEqDiff, Nat.add_zero, rI_hold, rI_hold, rL_hold, hk]; done)) ?_
  refine Bod.ic 1 (by decide) dc_347_5 ?_
  refine Bod.addN (k + 1) (by omega) dc_347_6 ?_
  refine Bod.put dc_347_7 fr_347_190 (mk_61 _) (Nat.le_of_ble_eq_true rfl) pf_14_15 (st_6115 _ _) (mu_I _ _ _) ?_
  refine Bod.go dc_347_10 rfl ?_
  refine Bod.bip 34 (by decide) dc_347_11 ?_
  refine Bod.virt (r := []) dc_347_13 kr_347_305 ⟨Or.inl rfl, ow_325, cl_14⟩ (by rw [np_325]; rfl) (by rw [np_325]; rfl) (ob_of (mk_61 _)) (Nat.le_of_ble_eq_true rfl) (c1  ) ?_
  show Bod _ _ _ _ [_] _ _ _
  refine Bod.istn dc_347_16 (by rw [ml_347]; exact Nat.le_of_ble_eq_true rfl) ?_
  refine Bod.go dc_347_17 rfl ?_
  refine Bod.go dc_347_18 rfl ?_
  refine Bod.get dc_347_19 fr_347_245 (mk_61 _) rfl ?_
  refine Bod.eqI (nI f6127) (by first | (simp (disch := omega) only [rI, rIe, rA, rIA, rLA, rJA, rVI, rQI, rVA, rQA, upd_at,  rAI, rLI, rJI, nI_add, pk_sub, kc_0, kc_1, kc_2, kc_3, kc_4, kc_5, reduceIte, Nat.reduceEqDiff, Nat.add_zero, rI_hold, rI_hold, rL_hold, hk, hf6127]; done) | (simp (disch := omega) only [rI, rIe, rA, rIA, rLA, rJA, rVI, rQI, rVA, rQA, upd_at,  rAI, rLI, rJI, nI_add, pk_sub, kc_0, kc_1, kc_2, kc_3, kc_4, kc_5, reduceIte, Nat.reduceEqDiff, Nat.add_zero, rI_hold, rI_hold, rL_hold, hk, hf6127]; exact congrArg nI (by omega))) ?_
  refine Bod.ic 1 (by decide) dc_347_22 ?_
  refine Bod.addN (f6127 + 1) (by omega) dc_347_23 ?_
  refine Bod.put dc_347_24 fr_347_245 (mk_61 _) (Nat.le_of_ble_eq_true rfl) pf_14_27 (st_6127 _ _) (mu_I _ _ _) ?_
  refine Bod.go dc_347_27 rfl ?_
  refine Bod.go dc_347_28 rfl ?_
  refine Bod.ic 0 (by decide) dc_347_29 ?_
  refine Bod.virt (r := []) dc_347_30 kr_347_309 ⟨Or.inl rfl, ow_334, cl_14⟩ (by rw [np_334]; rfl) (by rw [np_334]; rfl) (ob_of (mk_61 _)) (Nat.le_of_ble_eq_true rfl) (c2  ) ?_
  show Bod _ _ _ _ [_] _ _ _
  refine Bod.ifF dc_347_33 rfl (k1_ne_F (k_eq 0 0 rfl rfl (by omega))) ?_
  refine Bod.ic 0 (by decide) dc_347_36 ?_
  exact Bod.retZ dc_347_37 rt_347 (Or.inl rfl)
theorem sLo_1 {d : Nat} {S : cS} {a : Nat} {F : Nat} {S1 : cS} {a : Nat} (ma : a < 2 ^ 20) (hF : sI S 6122 = nI F) (mF : F < 15) (ma : a < 2 ^ 20) (c1 : Ans (d + 8) 319 [.ref 61, .int (nI F), .int (nI a)] S (some (.int (nI a))) S1) : Bod (d + 8) 339 0 [(0, .ref 61), (1, .int (nI a))] [] S none (S1) := by
  refine Bod.go dc_339_0 rfl ?_
  refine Bod.go dc_339_1 rfl ?_
  refine Bod.get dc_339_2 fr_339_236 (mk_61 _) rfl ?_
  refine Bod.eqI (nI F) (by first | assumption | rfl | exact congrArg nI (by omega) | (simp (disch := omega) only [rI, rIe, rA, rIA, rLA, rJA, rVI, rQI, rVA, rQA, upd_at,  rAI, rLI, rJI, nI_add, pk_sub, kc_0, kc_1, kc_2, kc_3, kc_4, kc_5, reduceIte, Nat.reduceEqDiff, Nat.add_zero, rI_hold, rI_hold, rL_hold, hF]; done)) ?_
  refine Bod.go dc_339_5 rfl ?_
  refine Bod.virt (r := []) dc_339_6 kr_339_353 ⟨Or.inl rfl, ow_319, cl_14⟩ (by rw [np_319]; rfl) (by rw [np_319]; rfl) (ob_of (mk_61 _)) (Nat.le_of_ble_eq_true rfl) (c1  ) ?_
  show Bod _ _ _ _ [_] _ _ _
  refine Bod.ifF dc_339_9 rfl (k1_lt_F a rfl (by omega)) ?_
  exact Bod.retV dc_339_12 rt_339
theorem sBrk_1 {d : Nat} {S : cS} {a : Nat} {f6126 : Nat} {f6127 : Nat} (ma : a < 2 ^ 20) (hf6126 : sI S 6126 = nI f6126) (mf6126 : f6126 < 32) (hf6127 : sI (wA 77 f6126 (nI a) S) 6127 = nI f6127) (mf6127 : f6127 < 2 ^ 20) : Bod (d + 8) 343 0 [(0, .ref 61), (1, .int (nI a))] [] S none (wI 6126 (nI (f6126 + 1)) (wA 78 f6126 (nI f6127) (wA 77 f6126 (nI a) S))) := by
  refine Bod.go dc_343_0 rfl ?_
  refine Bod.get dc_343_1 fr_343_320 (mk_61 _) rfl ?_
  refine Bod.go dc_343_4 rfl ?_
  refine Bod.get dc_343_5 fr_343_242 (mk_61 _) rfl ?_
  refine Bod.eqI (nI f6126) (by first | assumption | rfl | exact congrArg nI (by omega) | (simp (disch := omega) only [rI, rIe, rA, rIA, rLA, rJA, rVI, rQI, rVA, rQA, upd_at,  rAI, rLI, rJI, nI_add, pk_sub, kc_0, kc_1, kc_2, kc_3, kc_4, kc_5, reduceIte, Nat.reduceEqDiff, Nat.add_zero, rI_hold, rI_hold, rL_hold, hf6126]; done)) ?_
  refine Bod.go dc_343_8 rfl ?_
  refine Bod.iastN f6126 rfl (by omega) (by omega) dc_343_9 (mk_77 _) (sa_77 _ _ _) (mu_A _ _ _ _) ?_
  refine Bod.go dc_343_10 rfl ?_
  refine Bod.get dc_343_11 fr_343_323 (mk_61 _) rfl ?_
  refine Bod.go dc_343_14 rfl ?_
  refine Bod.get dc_343_15 fr_343_242 (mk_61 _) rfl ?_
  refine Bod.eqI (nI f6126) (by first | (simp (disch := omega) only [rI, rIe, rA, rIA, rLA, rJA, rVI, rQI, rVA, rQA, upd_at,  rAI, rLI, rJI, nI_add, pk_sub, kc_0, kc_1, kc_2, kc_3, kc_4, kc_5, reduceIte, Nat.reduceEqDiff, Nat.add_zero, rI_hold, rI_hold, rL_hold, hf6126]; done) | (simp (disch := omega) only [rI, rIe, rA, rIA, rLA, rJA, rVI, rQI, rVA, rQA, upd_at,  rAI, rLI, rJI, nI_add, pk_sub, kc_0, kc_1, kc_2, kc_3, kc_4, kc_5, reduceIte, Nat.reduceEqDiff, Nat.add_zero, rI_hold, rI_hold, rL_hold, hf6126]; exact congrArg nI (by omega))) ?_
  refine Bod.go dc_343_18 rfl ?_
  refine Bod.get dc_343_19 fr_343_245 (mk_61 _) rfl ?_
  refine Bod.eqI (nI f6127) (by first | (simp (disch := omega) only [rI, rIe, rA, rIA, rLA, rJA, rVI, rQI, rVA, rQA, upd_at,  rAI, rLI, rJI, nI_add, pk_sub, kc_0, kc_1, kc_2, kc_3, kc_4, kc_5, reduceIte, Nat.reduceEqDiff, Nat.add_zero, rI_hold, rI_hold, rL_hold, hf6126, hf6127]; done) | (simp (disch := omega) only [rI, rIe, rA, rIA, rLA, rJA, rVI, rQI, rVA, rQA, upd_at,  rAI, rLI, rJI, nI_add, pk_sub, kc_0, kc_1, kc_2, kc_3, kc_4, kc_5, reduceIte, Nat.reduceEqDiff, Nat.add_zero, rI_hold, rI_hold, rL_hold, hf6126, hf6127]; exact congrArg nI (by omega))) ?_
  refine Bod.iastN f6126 rfl (by omega) (by omega) dc_343_22 (mk_78 _) (sa_78 _ _ _) (mu_A _ _ _ _) ?_
  refine Bod.go dc_343_23 rfl ?_
  refine Bod.go dc_343_24 rfl ?_
  refine Bod.get dc_343_25 fr_343_242 (mk_61 _) rfl ?_
  refine Bod.eqI (nI f6126) (by first | (simp (disch := omega) only [rI, rIe, rA, rIA, rLA, rJA, rVI, rQI, rVA, rQA, upd_at,  rAI, rLI, rJI, nI_add, pk_sub, kc_0, kc_1, kc_2, kc_3, kc_4, kc_5, reduceIte, Nat.reduceEqDiff, Nat.add_zero, rI_hold, rI_hold, rL_hold, hf6126, hf6127]; done) | (simp (disch := omega) only [rI, rIe, rA, rIA, rLA, rJA, rVI, rQI, rVA, rQA, upd_at,  rAI, rLI, rJI, nI_add, pk_sub, kc_0, kc_1, kc_2, kc_3, kc_4, kc_5, reduceIte, Nat.reduceEqDiff, Nat.add_zero, rI_hold, rI_hold, rL_hold, hf6126, hf6127]; exact congrArg nI (by omega))) ?_
  refine Bod.ic 1 (by decide) dc_343_28 ?_
  refine Bod.addN (f6126 + 1) (by omega) dc_343_29 ?_
  refine Bod.put dc_343_30 fr_343_242 (mk_61 _) (Nat.le_of_ble_eq_true rfl) pf_14_26 (st_6126 _ _) (mu_I _ _ _) ?_
  exact Bod.retV dc_343_33 rt_343
