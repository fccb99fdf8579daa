/-! WAYS of the reference's machine: every call is a hypothesis -/
theorem ml_399 : sm_ml 399 = 7 := by decide +kernel
theorem dc_399_0 : decode (sm_cc 399) 0 = .ok (.iconst 0, 1) := by decide +kernel
theorem dc_399_1 : decode (sm_cc 399) 1 = .ok (.istore 6, 2) := by decide +kernel
theorem dc_399_3 : decode (sm_cc 399) 3 = .ok (.iload 6, 2) := by decide +kernel
theorem dc_399_5 : decode (sm_cc 399) 5 = .ok (.aload_n 0, 1) := by decide +kernel
theorem dc_399_6 : decode (sm_cc 399) 6 = .ok (.getfield 38, 3) := by decide +kernel
theorem fr_399_38 : sm_at mt_f (sm_ow 399) 38 = some (38, 13, 1, 0, 2771) := by decide +kernel
theorem dc_399_9 : decode (sm_cc 399) 9 = .ok (.if_icmp .ge (48), 3) := by decide +kernel
theorem dc_399_57 : decode (sm_cc 399) 57 = .ok (.iconst (-1), 1) := by decide +kernel
theorem dc_399_58 : decode (sm_cc 399) 58 = .ok (.ireturn, 1) := by decide +kernel
theorem rt_399 : sm_rt 399 = some .int := by decide +kernel
theorem dc_399_12 : decode (sm_cc 399) 12 = .ok (.aload_n 0, 1) := by decide +kernel
theorem dc_399_13 : decode (sm_cc 399) 13 = .ok (.getfield 13, 3) := by decide +kernel
theorem fr_399_13 : sm_at mt_f (sm_ow 399) 13 = some (13, 13, 3, 0, 2775) := by decide +kernel
theorem dc_399_16 : decode (sm_cc 399) 16 = .ok (.iload 6, 2) := by decide +kernel
theorem dc_399_18 : decode (sm_cc 399) 18 = .ok (.iaload, 1) := by decide +kernel
theorem dc_399_19 : decode (sm_cc 399) 19 = .ok (.iload_n 1, 1) := by decide +kernel
theorem dc_399_20 : decode (sm_cc 399) 20 = .ok (.if_icmp .ne (31), 3) := by decide +kernel
theorem dc_399_23 : decode (sm_cc 399) 23 = .ok (.aload_n 0, 1) := by decide +kernel
theorem dc_399_24 : decode (sm_cc 399) 24 = .ok (.getfield 23, 3) := by decide +kernel
theorem fr_399_23 : sm_at mt_f (sm_ow 399) 23 = some (23, 13, 6, 0, 2781) := by decide +kernel
theorem dc_399_27 : decode (sm_cc 399) 27 = .ok (.iload 6, 2) := by decide +kernel
theorem dc_399_29 : decode (sm_cc 399) 29 = .ok (.laload, 1) := by decide +kernel
theorem dc_399_30 : decode (sm_cc 399) 30 = .ok (.lload_n 2, 1) := by decide +kernel
theorem dc_399_31 : decode (sm_cc 399) 31 = .ok (.lcmp, 1) := by decide +kernel
theorem dc_399_32 : decode (sm_cc 399) 32 = .ok (.ifCond .ne (19), 3) := by decide +kernel
theorem dc_399_51 : decode (sm_cc 399) 51 = .ok (.iinc 6 (1), 3) := by decide +kernel
theorem dc_399_54 : decode (sm_cc 399) 54 = .ok (.goto (-51), 3) := by decide +kernel
theorem dc_399_35 : decode (sm_cc 399) 35 = .ok (.aload_n 0, 1) := by decide +kernel
theorem dc_399_36 : decode (sm_cc 399) 36 = .ok (.getfield 26, 3) := by decide +kernel
theorem fr_399_26 : sm_at mt_f (sm_ow 399) 26 = some (26, 13, 7, 0, 2783) := by decide +kernel
theorem dc_399_39 : decode (sm_cc 399) 39 = .ok (.iload 6, 2) := by decide +kernel
theorem dc_399_41 : decode (sm_cc 399) 41 = .ok (.laload, 1) := by decide +kernel
theorem dc_399_42 : decode (sm_cc 399) 42 = .ok (.lload 4, 2) := by decide +kernel
theorem dc_399_44 : decode (sm_cc 399) 44 = .ok (.lcmp, 1) := by decide +kernel
theorem dc_399_45 : decode (sm_cc 399) 45 = .ok (.ifCond .ne (6), 3) := by decide +kernel
theorem dc_399_48 : decode (sm_cc 399) 48 = .ok (.iload 6, 2) := by decide +kernel
theorem dc_399_50 : decode (sm_cc 399) 50 = .ok (.ireturn, 1) := by decide +kernel
theorem ml_418 : sm_ml 418 = 3 := by decide +kernel
theorem dc_418_0 : decode (sm_cc 418) 0 = .ok (.aload_n 0, 1) := by decide +kernel
theorem dc_418_1 : decode (sm_cc 418) 1 = .ok (.dup, 1) := by decide +kernel
theorem dc_418_2 : decode (sm_cc 418) 2 = .ok (.getfield 38, 3) := by decide +kernel
theorem fr_418_38 : sm_at mt_f (sm_ow 418) 38 = some (38, 13, 1, 0, 2771) := by decide +kernel
theorem dc_418_5 : decode (sm_cc 418) 5 = .ok (.iconst 1, 1) := by decide +kernel
theorem dc_418_6 : decode (sm_cc 418) 6 = .ok (.isub, 1) := by decide +kernel
theorem dc_418_7 : decode (sm_cc 418) 7 = .ok (.putfield 38, 3) := by decide +kernel
theorem dc_418_10 : decode (sm_cc 418) 10 = .ok (.iload_n 1, 1) := by decide +kernel
theorem dc_418_11 : decode (sm_cc 418) 11 = .ok (.istore_n 2, 1) := by decide +kernel
theorem dc_418_12 : decode (sm_cc 418) 12 = .ok (.iload_n 2, 1) := by decide +kernel
theorem dc_418_13 : decode (sm_cc 418) 13 = .ok (.aload_n 0, 1) := by decide +kernel
theorem dc_418_14 : decode (sm_cc 418) 14 = .ok (.getfield 38, 3) := by decide +kernel
theorem dc_418_17 : decode (sm_cc 418) 17 = .ok (.if_icmp .ge (78), 3) := by decide +kernel
theorem dc_418_95 : decode (sm_cc 418) 95 = .ok (.return_, 1) := by decide +kernel
theorem rt_418 : sm_rt 418 = none := by decide +kernel
theorem dc_418_20 : decode (sm_cc 418) 20 = .ok (.aload_n 0, 1) := by decide +kernel
theorem dc_418_21 : decode (sm_cc 418) 21 = .ok (.iload_n 2, 1) := by decide +kernel
theorem dc_418_22 : decode (sm_cc 418) 22 = .ok (.aload_n 0, 1) := by decide +kernel
theorem dc_418_23 : decode (sm_cc 418) 23 = .ok (.getfield 7, 3) := by decide +kernel
theorem fr_418_7 : sm_at mt_f (sm_ow 418) 7 = some (7, 13, 2, 0, 2773) := by decide +kernel
theorem dc_418_26 : decode (sm_cc 418) 26 = .ok (.iload_n 2, 1) := by decide +kernel
theorem dc_418_27 : decode (sm_cc 418) 27 = .ok (.iconst 1, 1) := by decide +kernel
theorem dc_418_28 : decode (sm_cc 418) 28 = .ok (.iadd, 1) := by decide +kernel
theorem dc_418_29 : decode (sm_cc 418) 29 = .ok (.iaload, 1) := by decide +kernel
theorem dc_418_30 : decode (sm_cc 418) 30 = .ok (.aload_n 0, 1) := by decide +kernel
theorem dc_418_31 : decode (sm_cc 418) 31 = .ok (.getfield 16, 3) := by decide +kernel
theorem fr_418_16 : sm_at mt_f (sm_ow 418) 16 = some (16, 13, 4, 0, 2777) := by decide +kernel
theorem dc_418_34 : decode (sm_cc 418) 34 = .ok (.iload_n 2, 1) := by decide +kernel
theorem dc_418_35 : decode (sm_cc 418) 35 = .ok (.iconst 1, 1) := by decide +kernel
theorem dc_418_36 : decode (sm_cc 418) 36 = .ok (.iadd, 1) := by decide +kernel
theorem dc_418_37 : decode (sm_cc 418) 37 = .ok (.laload, 1) := by decide +kernel
theorem dc_418_38 : decode (sm_cc 418) 38 = .ok (.aload_n 0, 1) := by decide +kernel
theorem dc_418_39 : decode (sm_cc 418) 39 = .ok (.getfield 20, 3) := by decide +kernel
theorem fr_418_20 : sm_at mt_f (sm_ow 418) 20 = some (20, 13, 5, 0, 2779) := by decide +kernel
theorem dc_418_42 : decode (sm_cc 418) 42 = .ok (.iload_n 2, 1) := by decide +kernel
theorem dc_418_43 : decode (sm_cc 418) 43 = .ok (.iconst 1, 1) := by decide +kernel
theorem dc_418_44 : decode (sm_cc 418) 44 = .ok (.iadd, 1) := by decide +kernel
theorem dc_418_45 : decode (sm_cc 418) 45 = .ok (.laload, 1) := by decide +kernel
theorem dc_418_46 : decode (sm_cc 418) 46 = .ok (.invokevirtual 46, 3) := by decide +kernel
theorem kr_418_46 : sm_at mt_k (sm_ow 418) 46 = some (46, 0, 358, 0, 2827) := by decide +kernel
theorem dc_418_49 : decode (sm_cc 418) 49 = .ok (.iload_n 2, 1) := by decide +kernel
theorem dc_418_50 : decode (sm_cc 418) 50 = .ok (.iconst 1, 1) := by decide +kernel
theorem dc_418_51 : decode (sm_cc 418) 51 = .ok (.iadd, 1) := by decide +kernel
theorem dc_418_52 : decode (sm_cc 418) 52 = .ok (.aload_n 0, 1) := by decide +kernel
theorem dc_418_53 : decode (sm_cc 418) 53 = .ok (.getfield 13, 3) := by decide +kernel
theorem fr_418_13 : sm_at mt_f (sm_ow 418) 13 = some (13, 13, 3, 0, 2775) := by decide +kernel
theorem dc_418_56 : decode (sm_cc 418) 56 = .ok (.arraylength, 1) := by decide +kernel
theorem dc_418_57 : decode (sm_cc 418) 57 = .ok (.if_icmp .ge (32), 3) := by decide +kernel
theorem dc_418_89 : decode (sm_cc 418) 89 = .ok (.iinc 2 (1), 3) := by decide +kernel
theorem dc_418_92 : decode (sm_cc 418) 92 = .ok (.goto (-80), 3) := by decide +kernel
theorem dc_418_60 : decode (sm_cc 418) 60 = .ok (.aload_n 0, 1) := by decide +kernel
theorem dc_418_61 : decode (sm_cc 418) 61 = .ok (.iload_n 2, 1) := by decide +kernel
theorem dc_418_62 : decode (sm_cc 418) 62 = .ok (.aload_n 0, 1) := by decide +kernel
theorem dc_418_63 : decode (sm_cc 418) 63 = .ok (.getfield 13, 3) := by decide +kernel
theorem dc_418_66 : decode (sm_cc 418) 66 = .ok (.iload_n 2, 1) := by decide +kernel
theorem dc_418_67 : decode (sm_cc 418) 67 = .ok (.iconst 1, 1) := by decide +kernel
theorem dc_418_68 : decode (sm_cc 418) 68 = .ok (.iadd, 1) := by decide +kernel
theorem dc_418_69 : decode (sm_cc 418) 69 = .ok (.iaload, 1) := by decide +kernel
theorem dc_418_70 : decode (sm_cc 418) 70 = .ok (.aload_n 0, 1) := by decide +kernel
theorem dc_418_71 : decode (sm_cc 418) 71 = .ok (.getfield 23, 3) := by decide +kernel
theorem fr_418_23 : sm_at mt_f (sm_ow 418) 23 = some (23, 13, 6, 0, 2781) := by decide +kernel
theorem dc_418_74 : decode (sm_cc 418) 74 = .ok (.iload_n 2, 1) := by decide +kernel
theorem dc_418_75 : decode (sm_cc 418) 75 = .ok (.iconst 1, 1) := by decide +kernel
theorem dc_418_76 : decode (sm_cc 418) 76 = .ok (.iadd, 1) := by decide +kernel
theorem dc_418_77 : decode (sm_cc 418) 77 = .ok (.laload, 1) := by decide +kernel
theorem dc_418_78 : decode (sm_cc 418) 78 = .ok (.aload_n 0, 1) := by decide +kernel
theorem dc_418_79 : decode (sm_cc 418) 79 = .ok (.getfield 26, 3) := by decide +kernel
theorem fr_418_26 : sm_at mt_f (sm_ow 418) 26 = some (26, 13, 7, 0, 2783) := by decide +kernel
theorem dc_418_82 : decode (sm_cc 418) 82 = .ok (.iload_n 2, 1) := by decide +kernel
theorem dc_418_83 : decode (sm_cc 418) 83 = .ok (.iconst 1, 1) := by decide +kernel
theorem dc_418_84 : decode (sm_cc 418) 84 = .ok (.iadd, 1) := by decide +kernel
theorem dc_418_85 : decode (sm_cc 418) 85 = .ok (.laload, 1) := by decide +kernel
theorem dc_418_86 : decode (sm_cc 418) 86 = .ok (.invokevirtual 53, 3) := by decide +kernel
theorem kr_418_53 : sm_at mt_k (sm_ow 418) 53 = some (53, 0, 377, 0, 3009) := by decide +kernel
theorem ml_398 : sm_ml 398 = 4 := by decide +kernel
theorem dc_398_0 : decode (sm_cc 398) 0 = .ok (.iload_n 1, 1) := by decide +kernel
theorem dc_398_1 : decode (sm_cc 398) 1 = .ok (.istore_n 3, 1) := by decide +kernel
theorem dc_398_2 : decode (sm_cc 398) 2 = .ok (.iload_n 3, 1) := by decide +kernel
theorem dc_398_3 : decode (sm_cc 398) 3 = .ok (.ifCond .lt (32), 3) := by decide +kernel
theorem dc_398_6 : decode (sm_cc 398) 6 = .ok (.aload_n 0, 1) := by decide +kernel
theorem dc_398_7 : decode (sm_cc 398) 7 = .ok (.getfield 485, 3) := by decide +kernel
theorem fr_398_485 : sm_at mt_f (sm_ow 398) 485 = some (485, 14, 42, 0, 2115) := by decide +kernel
theorem dc_398_10 : decode (sm_cc 398) 10 = .ok (.iload_n 3, 1) := by decide +kernel
theorem dc_398_11 : decode (sm_cc 398) 11 = .ok (.aaload, 1) := by decide +kernel
theorem dc_398_12 : decode (sm_cc 398) 12 = .ok (.iconst 0, 1) := by decide +kernel
theorem dc_398_13 : decode (sm_cc 398) 13 = .ok (.iload_n 2, 1) := by decide +kernel
theorem dc_398_14 : decode (sm_cc 398) 14 = .ok (.i2l, 1) := by decide +kernel
theorem dc_398_15 : decode (sm_cc 398) 15 = .ok (.lconst 0, 1) := by decide +kernel
theorem dc_398_16 : decode (sm_cc 398) 16 = .ok (.invokevirtual 764, 3) := by decide +kernel
theorem kr_398_764 : sm_at mt_k (sm_ow 398) 764 = some (764, 0, 399, 0, 2924) := by decide +kernel
theorem dc_398_19 : decode (sm_cc 398) 19 = .ok (.ifCond .ge (16), 3) := by decide +kernel
theorem dc_398_35 : decode (sm_cc 398) 35 = .ok (.iload_n 3, 1) := by decide +kernel
theorem dc_398_36 : decode (sm_cc 398) 36 = .ok (.ireturn, 1) := by decide +kernel
theorem rt_398 : sm_rt 398 = some .int := by decide +kernel
theorem dc_398_22 : decode (sm_cc 398) 22 = .ok (.aload_n 0, 1) := by decide +kernel
theorem dc_398_23 : decode (sm_cc 398) 23 = .ok (.getfield 485, 3) := by decide +kernel
theorem dc_398_26 : decode (sm_cc 398) 26 = .ok (.iload_n 3, 1) := by decide +kernel
theorem dc_398_27 : decode (sm_cc 398) 27 = .ok (.aaload, 1) := by decide +kernel
theorem dc_398_28 : decode (sm_cc 398) 28 = .ok (.getfield 472, 3) := by decide +kernel
theorem fr_398_472 : sm_at mt_f (sm_ow 398) 472 = some (472, 13, 11, 0, 2788) := by decide +kernel
theorem dc_398_31 : decode (sm_cc 398) 31 = .ok (.istore_n 3, 1) := by decide +kernel
theorem dc_398_32 : decode (sm_cc 398) 32 = .ok (.goto (-30), 3) := by decide +kernel
theorem ml_365 : sm_ml 365 = 2 := by decide +kernel
theorem dc_365_0 : decode (sm_cc 365) 0 = .ok (.iconst 0, 1) := by decide +kernel
theorem dc_365_1 : decode (sm_cc 365) 1 = .ok (.istore_n 1, 1) := by decide +kernel
theorem dc_365_2 : decode (sm_cc 365) 2 = .ok (.iload_n 1, 1) := by decide +kernel
theorem dc_365_3 : decode (sm_cc 365) 3 = .ok (.sipush (1500), 3) := by decide +kernel
theorem dc_365_6 : decode (sm_cc 365) 6 = .ok (.if_icmp .ge (40), 3) := by decide +kernel
theorem dc_365_46 : decode (sm_cc 365) 46 = .ok (.iconst (-1), 1) := by decide +kernel
theorem dc_365_47 : decode (sm_cc 365) 47 = .ok (.ireturn, 1) := by decide +kernel
theorem rt_365 : sm_rt 365 = some .int := by decide +kernel
theorem dc_365_9 : decode (sm_cc 365) 9 = .ok (.aload_n 0, 1) := by decide +kernel
theorem dc_365_10 : decode (sm_cc 365) 10 = .ok (.aload_n 0, 1) := by decide +kernel
theorem dc_365_11 : decode (sm_cc 365) 11 = .ok (.getfield 534, 3) := by decide +kernel
theorem fr_365_534 : sm_at mt_f (sm_ow 365) 534 = some (534, 14, 47, 0, 2120) := by decide +kernel
theorem dc_365_14 : decode (sm_cc 365) 14 = .ok (.iconst 1, 1) := by decide +kernel
theorem dc_365_15 : decode (sm_cc 365) 15 = .ok (.iadd, 1) := by decide +kernel
theorem dc_365_16 : decode (sm_cc 365) 16 = .ok (.sipush (1500), 3) := by decide +kernel
theorem dc_365_19 : decode (sm_cc 365) 19 = .ok (.irem, 1) := by decide +kernel
theorem dc_365_20 : decode (sm_cc 365) 20 = .ok (.putfield 534, 3) := by decide +kernel
theorem dc_365_23 : decode (sm_cc 365) 23 = .ok (.aload_n 0, 1) := by decide +kernel
theorem dc_365_24 : decode (sm_cc 365) 24 = .ok (.getfield 481, 3) := by decide +kernel
theorem fr_365_481 : sm_at mt_f (sm_ow 365) 481 = some (481, 14, 43, 0, 2116) := by decide +kernel
theorem dc_365_27 : decode (sm_cc 365) 27 = .ok (.aload_n 0, 1) := by decide +kernel
theorem dc_365_28 : decode (sm_cc 365) 28 = .ok (.getfield 534, 3) := by decide +kernel
theorem dc_365_31 : decode (sm_cc 365) 31 = .ok (.baload, 1) := by decide +kernel
theorem dc_365_32 : decode (sm_cc 365) 32 = .ok (.ifCond .ne (8), 3) := by decide +kernel
theorem dc_365_40 : decode (sm_cc 365) 40 = .ok (.iinc 1 (1), 3) := by decide +kernel
theorem dc_365_43 : decode (sm_cc 365) 43 = .ok (.goto (-41), 3) := by decide +kernel
theorem dc_365_35 : decode (sm_cc 365) 35 = .ok (.aload_n 0, 1) := by decide +kernel
theorem dc_365_36 : decode (sm_cc 365) 36 = .ok (.getfield 534, 3) := by decide +kernel
theorem dc_365_39 : decode (sm_cc 365) 39 = .ok (.ireturn, 1) := by decide +kernel
theorem ml_413 : sm_ml 413 = 4 := by decide +kernel
theorem dc_413_0 : decode (sm_cc 413) 0 = .ok (.aload_n 0, 1) := by decide +kernel
theorem dc_413_1 : decode (sm_cc 413) 1 = .ok (.iconst 1, 1) := by decide +kernel
theorem dc_413_2 : decode (sm_cc 413) 2 = .ok (.invokevirtual 686, 3) := by decide +kernel
theorem kr_413_686 : sm_at mt_k (sm_ow 413) 686 = some (686, 0, 364, 0, 2726) := by decide +kernel
theorem dc_413_5 : decode (sm_cc 413) 5 = .ok (.istore_n 2, 1) := by decide +kernel
theorem dc_413_6 : decode (sm_cc 413) 6 = .ok (.iload_n 2, 1) := by decide +kernel
theorem dc_413_7 : decode (sm_cc 413) 7 = .ok (.ifCond .ge (5), 3) := by decide +kernel
theorem dc_413_12 : decode (sm_cc 413) 12 = .ok (.aload_n 0, 1) := by decide +kernel
theorem dc_413_13 : decode (sm_cc 413) 13 = .ok (.getfield 493, 3) := by decide +kernel
theorem fr_413_493 : sm_at mt_f (sm_ow 413) 493 = some (493, 14, 51, 0, 2124) := by decide +kernel
theorem dc_413_16 : decode (sm_cc 413) 16 = .ok (.iload_n 1, 1) := by decide +kernel
theorem dc_413_17 : decode (sm_cc 413) 17 = .ok (.isub, 1) := by decide +kernel
theorem dc_413_18 : decode (sm_cc 413) 18 = .ok (.istore_n 3, 1) := by decide +kernel
theorem dc_413_10 : decode (sm_cc 413) 10 = .ok (.iconst 0, 1) := by decide +kernel
theorem dc_413_11 : decode (sm_cc 413) 11 = .ok (.ireturn, 1) := by decide +kernel
theorem rt_413 : sm_rt 413 = some .boolean := by decide +kernel
theorem dc_413_19 : decode (sm_cc 413) 19 = .ok (.iload_n 3, 1) := by decide +kernel
theorem dc_413_20 : decode (sm_cc 413) 20 = .ok (.aload_n 0, 1) := by decide +kernel
theorem dc_413_21 : decode (sm_cc 413) 21 = .ok (.getfield 493, 3) := by decide +kernel
theorem dc_413_24 : decode (sm_cc 413) 24 = .ok (.if_icmp .ge (36), 3) := by decide +kernel
theorem dc_413_60 : decode (sm_cc 413) 60 = .ok (.aload_n 0, 1) := by decide +kernel
theorem dc_413_61 : decode (sm_cc 413) 61 = .ok (.dup, 1) := by decide +kernel
theorem dc_413_62 : decode (sm_cc 413) 62 = .ok (.getfield 493, 3) := by decide +kernel
theorem dc_413_65 : decode (sm_cc 413) 65 = .ok (.iload_n 1, 1) := by decide +kernel
theorem dc_413_66 : decode (sm_cc 413) 66 = .ok (.isub, 1) := by decide +kernel
theorem dc_413_67 : decode (sm_cc 413) 67 = .ok (.putfield 493, 3) := by decide +kernel
theorem dc_413_70 : decode (sm_cc 413) 70 = .ok (.aload_n 0, 1) := by decide +kernel
theorem dc_413_71 : decode (sm_cc 413) 71 = .ok (.iconst 3, 1) := by decide +kernel
theorem dc_413_72 : decode (sm_cc 413) 72 = .ok (.iload_n 2, 1) := by decide +kernel
theorem dc_413_73 : decode (sm_cc 413) 73 = .ok (.i2l, 1) := by decide +kernel
theorem dc_413_74 : decode (sm_cc 413) 74 = .ok (.lconst 0, 1) := by decide +kernel
theorem dc_413_75 : decode (sm_cc 413) 75 = .ok (.invokevirtual 549, 3) := by decide +kernel
theorem kr_413_549 : sm_at mt_k (sm_ow 413) 549 = some (549, 0, 352, 0, 2668) := by decide +kernel
theorem dc_413_78 : decode (sm_cc 413) 78 = .ok (.iconst 1, 1) := by decide +kernel
theorem dc_413_79 : decode (sm_cc 413) 79 = .ok (.ireturn, 1) := by decide +kernel
theorem dc_413_27 : decode (sm_cc 413) 27 = .ok (.aload_n 0, 1) := by decide +kernel
theorem dc_413_28 : decode (sm_cc 413) 28 = .ok (.getfield 485, 3) := by decide +kernel
theorem fr_413_485 : sm_at mt_f (sm_ow 413) 485 = some (485, 14, 42, 0, 2115) := by decide +kernel
theorem dc_413_31 : decode (sm_cc 413) 31 = .ok (.iload_n 2, 1) := by decide +kernel
theorem dc_413_32 : decode (sm_cc 413) 32 = .ok (.aaload, 1) := by decide +kernel
theorem dc_413_33 : decode (sm_cc 413) 33 = .ok (.aload_n 0, 1) := by decide +kernel
theorem dc_413_34 : decode (sm_cc 413) 34 = .ok (.getfield 496, 3) := by decide +kernel
theorem fr_413_496 : sm_at mt_f (sm_ow 413) 496 = some (496, 14, 48, 0, 2121) := by decide +kernel
theorem dc_413_37 : decode (sm_cc 413) 37 = .ok (.iload_n 3, 1) := by decide +kernel
theorem dc_413_38 : decode (sm_cc 413) 38 = .ok (.iaload, 1) := by decide +kernel
theorem dc_413_39 : decode (sm_cc 413) 39 = .ok (.aload_n 0, 1) := by decide +kernel
theorem dc_413_40 : decode (sm_cc 413) 40 = .ok (.getfield 499, 3) := by decide +kernel
theorem fr_413_499 : sm_at mt_f (sm_ow 413) 499 = some (499, 14, 49, 0, 2122) := by decide +kernel
theorem dc_413_43 : decode (sm_cc 413) 43 = .ok (.iload_n 3, 1) := by decide +kernel
theorem dc_413_44 : decode (sm_cc 413) 44 = .ok (.laload, 1) := by decide +kernel
theorem dc_413_45 : decode (sm_cc 413) 45 = .ok (.aload_n 0, 1) := by decide +kernel
theorem dc_413_46 : decode (sm_cc 413) 46 = .ok (.getfield 546, 3) := by decide +kernel
theorem fr_413_546 : sm_at mt_f (sm_ow 413) 546 = some (546, 14, 50, 0, 2123) := by decide +kernel
theorem dc_413_49 : decode (sm_cc 413) 49 = .ok (.iload_n 3, 1) := by decide +kernel
theorem dc_413_50 : decode (sm_cc 413) 50 = .ok (.laload, 1) := by decide +kernel
theorem dc_413_51 : decode (sm_cc 413) 51 = .ok (.invokevirtual 759, 3) := by decide +kernel
theorem kr_413_759 : sm_at mt_k (sm_ow 413) 759 = some (759, 0, 375, 0, 2817) := by decide +kernel
theorem dc_413_54 : decode (sm_cc 413) 54 = .ok (.iinc 3 (1), 3) := by decide +kernel
theorem dc_413_57 : decode (sm_cc 413) 57 = .ok (.goto (-38), 3) := by decide +kernel
theorem ml_414 : sm_ml 414 = 8 := by decide +kernel
theorem dc_414_0 : decode (sm_cc 414) 0 = .ok (.aload_n 0, 1) := by decide +kernel
theorem dc_414_1 : decode (sm_cc 414) 1 = .ok (.getfield 493, 3) := by decide +kernel
theorem fr_414_493 : sm_at mt_f (sm_ow 414) 493 = some (493, 14, 51, 0, 2124) := by decide +kernel
theorem dc_414_4 : decode (sm_cc 414) 4 = .ok (.iconst 2, 1) := by decide +kernel
theorem dc_414_5 : decode (sm_cc 414) 5 = .ok (.iload_n 1, 1) := by decide +kernel
theorem dc_414_6 : decode (sm_cc 414) 6 = .ok (.imul, 1) := by decide +kernel
theorem dc_414_7 : decode (sm_cc 414) 7 = .ok (.isub, 1) := by decide +kernel
theorem dc_414_8 : decode (sm_cc 414) 8 = .ok (.istore_n 2, 1) := by decide +kernel
theorem dc_414_9 : decode (sm_cc 414) 9 = .ok (.iload_n 2, 1) := by decide +kernel
theorem dc_414_10 : decode (sm_cc 414) 10 = .ok (.aload_n 0, 1) := by decide +kernel
theorem dc_414_11 : decode (sm_cc 414) 11 = .ok (.getfield 493, 3) := by decide +kernel
theorem dc_414_14 : decode (sm_cc 414) 14 = .ok (.if_icmp .ge (23), 3) := by decide +kernel
theorem dc_414_17 : decode (sm_cc 414) 17 = .ok (.aload_n 0, 1) := by decide +kernel
theorem dc_414_18 : decode (sm_cc 414) 18 = .ok (.iload_n 2, 1) := by decide +kernel
theorem dc_414_19 : decode (sm_cc 414) 19 = .ok (.invokevirtual 716, 3) := by decide +kernel
theorem kr_414_716 : sm_at mt_k (sm_ow 414) 716 = some (716, 0, 403, 0, 2940) := by decide +kernel
theorem dc_414_22 : decode (sm_cc 414) 22 = .ok (.ifCond .ne (9), 3) := by decide +kernel
theorem dc_414_31 : decode (sm_cc 414) 31 = .ok (.iinc 2 (2), 3) := by decide +kernel
theorem dc_414_34 : decode (sm_cc 414) 34 = .ok (.goto (-25), 3) := by decide +kernel
theorem dc_414_25 : decode (sm_cc 414) 25 = .ok (.aload_n 0, 1) := by decide +kernel
theorem dc_414_26 : decode (sm_cc 414) 26 = .ok (.iconst 2, 1) := by decide +kernel
theorem dc_414_27 : decode (sm_cc 414) 27 = .ok (.invokevirtual 608, 3) := by decide +kernel
theorem kr_414_608 : sm_at mt_k (sm_ow 414) 608 = some (608, 0, 351, 0, 2664) := by decide +kernel
theorem dc_414_30 : decode (sm_cc 414) 30 = .ok (.ireturn, 1) := by decide +kernel
theorem rt_414 : sm_rt 414 = some .boolean := by decide +kernel
theorem dc_414_37 : decode (sm_cc 414) 37 = .ok (.aload_n 0, 1) := by decide +kernel
theorem dc_414_38 : decode (sm_cc 414) 38 = .ok (.iconst 2, 1) := by decide +kernel
theorem dc_414_39 : decode (sm_cc 414) 39 = .ok (.invokevirtual 686, 3) := by decide +kernel
theorem kr_414_686 : sm_at mt_k (sm_ow 414) 686 = some (686, 0, 364, 0, 2726) := by decide +kernel
theorem dc_414_42 : decode (sm_cc 414) 42 = .ok (.istore_n 2, 1) := by decide +kernel
theorem dc_414_43 : decode (sm_cc 414) 43 = .ok (.iload_n 2, 1) := by decide +kernel
theorem dc_414_44 : decode (sm_cc 414) 44 = .ok (.ifCond .ge (5), 3) := by decide +kernel
theorem dc_414_49 : decode (sm_cc 414) 49 = .ok (.aload_n 0, 1) := by decide +kernel
theorem dc_414_50 : decode (sm_cc 414) 50 = .ok (.getfield 485, 3) := by decide +kernel
theorem fr_414_485 : sm_at mt_f (sm_ow 414) 485 = some (485, 14, 42, 0, 2115) := by decide +kernel
theorem dc_414_53 : decode (sm_cc 414) 53 = .ok (.iload_n 2, 1) := by decide +kernel
theorem dc_414_54 : decode (sm_cc 414) 54 = .ok (.aaload, 1) := by decide +kernel
theorem dc_414_55 : decode (sm_cc 414) 55 = .ok (.astore_n 3, 1) := by decide +kernel
theorem dc_414_56 : decode (sm_cc 414) 56 = .ok (.aload_n 0, 1) := by decide +kernel
theorem dc_414_57 : decode (sm_cc 414) 57 = .ok (.getfield 493, 3) := by decide +kernel
theorem dc_414_60 : decode (sm_cc 414) 60 = .ok (.iconst 2, 1) := by decide +kernel
theorem dc_414_61 : decode (sm_cc 414) 61 = .ok (.iload_n 1, 1) := by decide +kernel
theorem dc_414_62 : decode (sm_cc 414) 62 = .ok (.imul, 1) := by decide +kernel
theorem dc_414_63 : decode (sm_cc 414) 63 = .ok (.isub, 1) := by decide +kernel
theorem dc_414_64 : decode (sm_cc 414) 64 = .ok (.istore 4, 2) := by decide +kernel
theorem dc_414_47 : decode (sm_cc 414) 47 = .ok (.iconst 0, 1) := by decide +kernel
theorem dc_414_48 : decode (sm_cc 414) 48 = .ok (.ireturn, 1) := by decide +kernel
theorem ml_401 : sm_ml 401 = 7 := by decide +kernel
theorem dc_401_0 : decode (sm_cc 401) 0 = .ok (.aload_n 0, 1) := by decide +kernel
theorem dc_401_1 : decode (sm_cc 401) 1 = .ok (.getfield 493, 3) := by decide +kernel
theorem fr_401_493 : sm_at mt_f (sm_ow 401) 493 = some (493, 14, 51, 0, 2124) := by decide +kernel
theorem dc_401_4 : decode (sm_cc 401) 4 = .ok (.iconst 2, 1) := by decide +kernel
theorem dc_401_5 : decode (sm_cc 401) 5 = .ok (.isub, 1) := by decide +kernel
theorem dc_401_6 : decode (sm_cc 401) 6 = .ok (.istore_n 2, 1) := by decide +kernel
theorem dc_401_7 : decode (sm_cc 401) 7 = .ok (.aload_n 0, 1) := by decide +kernel
theorem dc_401_8 : decode (sm_cc 401) 8 = .ok (.getfield 493, 3) := by decide +kernel
theorem dc_401_11 : decode (sm_cc 401) 11 = .ok (.iconst 1, 1) := by decide +kernel
theorem dc_401_12 : decode (sm_cc 401) 12 = .ok (.isub, 1) := by decide +kernel
theorem dc_401_13 : decode (sm_cc 401) 13 = .ok (.istore_n 3, 1) := by decide +kernel
theorem dc_401_14 : decode (sm_cc 401) 14 = .ok (.iload_n 1, 1) := by decide +kernel
theorem dc_401_15 : decode (sm_cc 401) 15 = .ok (.lookupswitch (397) #[(1, 121), (2, 73), (60, 275), (62, 275), (8509, 73), (15421, 275), (15677, 73), (15933, 275)], 73) := by decide +kernel
theorem dc_401_136 : decode (sm_cc 401) 136 = .ok (.aload_n 0, 1) := by decide +kernel
theorem dc_401_137 : decode (sm_cc 401) 137 = .ok (.iload_n 3, 1) := by decide +kernel
theorem dc_401_138 : decode (sm_cc 401) 138 = .ok (.iconst 1, 1) := by decide +kernel
theorem dc_401_139 : decode (sm_cc 401) 139 = .ok (.invokevirtual 683, 3) := by decide +kernel
theorem kr_401_683 : sm_at mt_k (sm_ow 401) 683 = some (683, 0, 363, 0, 2722) := by decide +kernel
theorem dc_401_142 : decode (sm_cc 401) 142 = .ok (.ifCond .ne (18), 3) := by decide +kernel
theorem dc_401_160 : decode (sm_cc 401) 160 = .ok (.aload_n 0, 1) := by decide +kernel
theorem dc_401_161 : decode (sm_cc 401) 161 = .ok (.iload_n 3, 1) := by decide +kernel
theorem dc_401_162 : decode (sm_cc 401) 162 = .ok (.invokevirtual 554, 3) := by decide +kernel
theorem kr_401_554 : sm_at mt_k (sm_ow 401) 554 = some (554, 0, 361, 0, 2714) := by decide +kernel
theorem dc_401_165 : decode (sm_cc 401) 165 = .ok (.astore 5, 2) := by decide +kernel
theorem dc_401_167 : decode (sm_cc 401) 167 = .ok (.aload 5, 2) := by decide +kernel
theorem dc_401_169 : decode (sm_cc 401) 169 = .ok (.getfield 531, 3) := by decide +kernel
theorem fr_401_531 : sm_at mt_f (sm_ow 401) 531 = some (531, 13, 0, 0, 2770) := by decide +kernel
theorem dc_401_172 : decode (sm_cc 401) 172 = .ok (.iconst 2, 1) := by decide +kernel
theorem dc_401_173 : decode (sm_cc 401) 173 = .ok (.if_icmp .ne (17), 3) := by decide +kernel
theorem dc_401_190 : decode (sm_cc 401) 190 = .ok (.iconst 0, 1) := by decide +kernel
theorem dc_401_191 : decode (sm_cc 401) 191 = .ok (.istore 4, 2) := by decide +kernel
theorem dc_401_193 : decode (sm_cc 401) 193 = .ok (.iconst 0, 1) := by decide +kernel
theorem dc_401_194 : decode (sm_cc 401) 194 = .ok (.istore 6, 2) := by decide +kernel
theorem dc_401_176 : decode (sm_cc 401) 176 = .ok (.aload_n 0, 1) := by decide +kernel
theorem dc_401_177 : decode (sm_cc 401) 177 = .ok (.iload_n 2, 1) := by decide +kernel
theorem dc_401_178 : decode (sm_cc 401) 178 = .ok (.invokevirtual 716, 3) := by decide +kernel
theorem kr_401_716 : sm_at mt_k (sm_ow 401) 716 = some (716, 0, 403, 0, 2940) := by decide +kernel
theorem dc_401_181 : decode (sm_cc 401) 181 = .ok (.ifCond .ne (9), 3) := by decide +kernel
theorem dc_401_184 : decode (sm_cc 401) 184 = .ok (.aload_n 0, 1) := by decide +kernel
theorem dc_401_185 : decode (sm_cc 401) 185 = .ok (.iconst 2, 1) := by decide +kernel
theorem dc_401_186 : decode (sm_cc 401) 186 = .ok (.invokevirtual 608, 3) := by decide +kernel
theorem kr_401_608 : sm_at mt_k (sm_ow 401) 608 = some (608, 0, 351, 0, 2664) := by decide +kernel
theorem dc_401_189 : decode (sm_cc 401) 189 = .ok (.ireturn, 1) := by decide +kernel
theorem rt_401 : sm_rt 401 = some .boolean := by decide +kernel
theorem dc_401_145 : decode (sm_cc 401) 145 = .ok (.aload_n 0, 1) := by decide +kernel
theorem dc_401_146 : decode (sm_cc 401) 146 = .ok (.iload_n 3, 1) := by decide +kernel
theorem dc_401_147 : decode (sm_cc 401) 147 = .ok (.iconst 2, 1) := by decide +kernel
theorem dc_401_148 : decode (sm_cc 401) 148 = .ok (.invokevirtual 683, 3) := by decide +kernel
theorem dc_401_151 : decode (sm_cc 401) 151 = .ok (.ifCond .ne (9), 3) := by decide +kernel
theorem dc_401_154 : decode (sm_cc 401) 154 = .ok (.aload_n 0, 1) := by decide +kernel
theorem dc_401_155 : decode (sm_cc 401) 155 = .ok (.iconst 2, 1) := by decide +kernel
theorem dc_401_156 : decode (sm_cc 401) 156 = .ok (.invokevirtual 608, 3) := by decide +kernel
theorem dc_401_159 : decode (sm_cc 401) 159 = .ok (.ireturn, 1) := by decide +kernel
theorem dc_401_88 : decode (sm_cc 401) 88 = .ok (.aload_n 0, 1) := by decide +kernel
theorem dc_401_89 : decode (sm_cc 401) 89 = .ok (.iload_n 2, 1) := by decide +kernel
theorem dc_401_90 : decode (sm_cc 401) 90 = .ok (.aload_n 0, 1) := by decide +kernel
theorem dc_401_91 : decode (sm_cc 401) 91 = .ok (.getfield 496, 3) := by decide +kernel
theorem fr_401_496 : sm_at mt_f (sm_ow 401) 496 = some (496, 14, 48, 0, 2121) := by decide +kernel
theorem dc_401_94 : decode (sm_cc 401) 94 = .ok (.iload_n 3, 1) := by decide +kernel
theorem dc_401_95 : decode (sm_cc 401) 95 = .ok (.iaload, 1) := by decide +kernel
theorem dc_401_96 : decode (sm_cc 401) 96 = .ok (.aload_n 0, 1) := by decide +kernel
theorem dc_401_97 : decode (sm_cc 401) 97 = .ok (.getfield 499, 3) := by decide +kernel
theorem fr_401_499 : sm_at mt_f (sm_ow 401) 499 = some (499, 14, 49, 0, 2122) := by decide +kernel
theorem dc_401_100 : decode (sm_cc 401) 100 = .ok (.iload_n 3, 1) := by decide +kernel
theorem dc_401_101 : decode (sm_cc 401) 101 = .ok (.laload, 1) := by decide +kernel
theorem dc_401_102 : decode (sm_cc 401) 102 = .ok (.aload_n 0, 1) := by decide +kernel
theorem dc_401_103 : decode (sm_cc 401) 103 = .ok (.getfield 546, 3) := by decide +kernel
theorem fr_401_546 : sm_at mt_f (sm_ow 401) 546 = some (546, 14, 50, 0, 2123) := by decide +kernel
theorem dc_401_106 : decode (sm_cc 401) 106 = .ok (.iload_n 3, 1) := by decide +kernel
theorem dc_401_107 : decode (sm_cc 401) 107 = .ok (.laload, 1) := by decide +kernel
theorem dc_401_108 : decode (sm_cc 401) 108 = .ok (.invokevirtual 712, 3) := by decide +kernel
theorem ow_402 : 14 = sm_ow 402 := by decide +kernel
theorem kr_401_712 : sm_at mt_k (sm_ow 401) 712 = some (712, 0, 402, 0, 2936) := by decide +kernel
theorem np_402 : sm_np 402 = 4 := by decide +kernel
theorem dc_401_111 : decode (sm_cc 401) 111 = .ok (.iload_n 1, 1) := by decide +kernel
theorem dc_401_112 : decode (sm_cc 401) 112 = .ok (.sipush (8509), 3) := by decide +kernel
theorem dc_401_115 : decode (sm_cc 401) 115 = .ok (.if_icmp .ne (7), 3) := by decide +kernel
theorem dc_401_122 : decode (sm_cc 401) 122 = .ok (.iconst 0, 1) := by decide +kernel
theorem dc_401_123 : decode (sm_cc 401) 123 = .ok (.if_icmp .eq (7), 3) := by decide +kernel
theorem dc_401_126 : decode (sm_cc 401) 126 = .ok (.iconst 1, 1) := by decide +kernel
theorem dc_401_127 : decode (sm_cc 401) 127 = .ok (.goto (4), 3) := by decide +kernel
theorem dc_401_131 : decode (sm_cc 401) 131 = .ok (.istore 4, 2) := by decide +kernel
theorem dc_401_133 : decode (sm_cc 401) 133 = .ok (.goto (287), 3) := by decide +kernel
theorem dc_401_420 : decode (sm_cc 401) 420 = .ok (.aload_n 0, 1) := by decide +kernel
theorem dc_401_421 : decode (sm_cc 401) 421 = .ok (.dup, 1) := by decide +kernel
theorem dc_401_422 : decode (sm_cc 401) 422 = .ok (.getfield 493, 3) := by decide +kernel
theorem dc_401_425 : decode (sm_cc 401) 425 = .ok (.iconst 2, 1) := by decide +kernel
theorem dc_401_426 : decode (sm_cc 401) 426 = .ok (.isub, 1) := by decide +kernel
theorem dc_401_427 : decode (sm_cc 401) 427 = .ok (.putfield 493, 3) := by decide +kernel
theorem dc_401_430 : decode (sm_cc 401) 430 = .ok (.aload_n 0, 1) := by decide +kernel
theorem dc_401_431 : decode (sm_cc 401) 431 = .ok (.iload 4, 2) := by decide +kernel
theorem dc_401_433 : decode (sm_cc 401) 433 = .ok (.ifCond .eq (7), 3) := by decide +kernel
theorem dc_401_436 : decode (sm_cc 401) 436 = .ok (.lconst 1, 1) := by decide +kernel
theorem dc_401_437 : decode (sm_cc 401) 437 = .ok (.goto (4), 3) := by decide +kernel
theorem dc_401_441 : decode (sm_cc 401) 441 = .ok (.invokevirtual 613, 3) := by decide +kernel
theorem kr_401_613 : sm_at mt_k (sm_ow 401) 613 = some (613, 0, 353, 0, 2672) := by decide +kernel
theorem dc_401_444 : decode (sm_cc 401) 444 = .ok (.iconst 1, 1) := by decide +kernel
theorem dc_401_445 : decode (sm_cc 401) 445 = .ok (.ireturn, 1) := by decide +kernel
theorem dc_401_130 : decode (sm_cc 401) 130 = .ok (.iconst 0, 1) := by decide +kernel
theorem dc_401_440 : decode (sm_cc 401) 440 = .ok (.lconst 0, 1) := by decide +kernel
theorem dc_401_118 : decode (sm_cc 401) 118 = .ok (.iconst 1, 1) := by decide +kernel
theorem dc_401_119 : decode (sm_cc 401) 119 = .ok (.goto (4), 3) := by decide +kernel
theorem dc_401_290 : decode (sm_cc 401) 290 = .ok (.aload_n 0, 1) := by decide +kernel
theorem dc_401_291 : decode (sm_cc 401) 291 = .ok (.getfield 496, 3) := by decide +kernel
theorem dc_401_294 : decode (sm_cc 401) 294 = .ok (.iload_n 2, 1) := by decide +kernel
theorem dc_401_295 : decode (sm_cc 401) 295 = .ok (.iaload, 1) := by decide +kernel
theorem dc_401_296 : decode (sm_cc 401) 296 = .ok (.aload_n 0, 1) := by decide +kernel
theorem dc_401_297 : decode (sm_cc 401) 297 = .ok (.getfield 496, 3) := by decide +kernel
theorem dc_401_300 : decode (sm_cc 401) 300 = .ok (.iload_n 3, 1) := by decide +kernel
theorem dc_401_301 : decode (sm_cc 401) 301 = .ok (.iaload, 1) := by decide +kernel
theorem dc_401_302 : decode (sm_cc 401) 302 = .ok (.if_icmp .ne (23), 3) := by decide +kernel
theorem dc_401_325 : decode (sm_cc 401) 325 = .ok (.aload_n 0, 1) := by decide +kernel
theorem dc_401_326 : decode (sm_cc 401) 326 = .ok (.iconst 2, 1) := by decide +kernel
theorem dc_401_327 : decode (sm_cc 401) 327 = .ok (.invokevirtual 608, 3) := by decide +kernel
theorem dc_401_330 : decode (sm_cc 401) 330 = .ok (.ireturn, 1) := by decide +kernel
theorem dc_401_305 : decode (sm_cc 401) 305 = .ok (.aload_n 0, 1) := by decide +kernel
theorem dc_401_306 : decode (sm_cc 401) 306 = .ok (.getfield 496, 3) := by decide +kernel
theorem dc_401_309 : decode (sm_cc 401) 309 = .ok (.iload_n 2, 1) := by decide +kernel
theorem dc_401_310 : decode (sm_cc 401) 310 = .ok (.iaload, 1) := by decide +kernel
theorem dc_401_311 : decode (sm_cc 401) 311 = .ok (.iconst 1, 1) := by decide +kernel
theorem dc_401_312 : decode (sm_cc 401) 312 = .ok (.if_icmp .eq (19), 3) := by decide +kernel
theorem dc_401_331 : decode (sm_cc 401) 331 = .ok (.aload_n 0, 1) := by decide +kernel
theorem dc_401_332 : decode (sm_cc 401) 332 = .ok (.iload_n 2, 1) := by decide +kernel
theorem dc_401_333 : decode (sm_cc 401) 333 = .ok (.iload_n 3, 1) := by decide +kernel
theorem dc_401_334 : decode (sm_cc 401) 334 = .ok (.invokevirtual 728, 3) := by decide +kernel
theorem ow_404 : 14 = sm_ow 404 := by decide +kernel
theorem kr_401_728 : sm_at mt_k (sm_ow 401) 728 = some (728, 0, 404, 0, 2944) := by decide +kernel
theorem np_404 : sm_np 404 = 2 := by decide +kernel
theorem dc_401_337 : decode (sm_cc 401) 337 = .ok (.istore 6, 2) := by decide +kernel
theorem dc_401_339 : decode (sm_cc 401) 339 = .ok (.iload_n 1, 1) := by decide +kernel
theorem dc_401_340 : decode (sm_cc 401) 340 = .ok (.bipush (60), 2) := by decide +kernel
theorem dc_401_342 : decode (sm_cc 401) 342 = .ok (.if_icmp .ne (16), 3) := by decide +kernel
theorem dc_401_345 : decode (sm_cc 401) 345 = .ok (.iload 6, 2) := by decide +kernel
theorem dc_401_347 : decode (sm_cc 401) 347 = .ok (.ifCond .ge (7), 3) := by decide +kernel
theorem dc_401_354 : decode (sm_cc 401) 354 = .ok (.iconst 0, 1) := by decide +kernel
theorem dc_401_355 : decode (sm_cc 401) 355 = .ok (.goto (52), 3) := by decide +kernel
theorem dc_401_407 : decode (sm_cc 401) 407 = .ok (.istore 4, 2) := by decide +kernel
theorem dc_401_409 : decode (sm_cc 401) 409 = .ok (.goto (11), 3) := by decide +kernel
theorem dc_401_350 : decode (sm_cc 401) 350 = .ok (.iconst 1, 1) := by decide +kernel
theorem dc_401_351 : decode (sm_cc 401) 351 = .ok (.goto (56), 3) := by decide +kernel
theorem dc_401_315 : decode (sm_cc 401) 315 = .ok (.aload_n 0, 1) := by decide +kernel
theorem dc_401_316 : decode (sm_cc 401) 316 = .ok (.getfield 496, 3) := by decide +kernel
theorem dc_401_319 : decode (sm_cc 401) 319 = .ok (.iload_n 2, 1) := by decide +kernel
theorem dc_401_320 : decode (sm_cc 401) 320 = .ok (.iaload, 1) := by decide +kernel
theorem dc_401_321 : decode (sm_cc 401) 321 = .ok (.iconst 2, 1) := by decide +kernel
theorem dc_401_322 : decode (sm_cc 401) 322 = .ok (.if_icmp .eq (9), 3) := by decide +kernel
theorem dc_401_358 : decode (sm_cc 401) 358 = .ok (.iload_n 1, 1) := by decide +kernel
theorem dc_401_359 : decode (sm_cc 401) 359 = .ok (.bipush (62), 2) := by decide +kernel
theorem dc_401_361 : decode (sm_cc 401) 361 = .ok (.if_icmp .ne (16), 3) := by decide +kernel
theorem dc_401_364 : decode (sm_cc 401) 364 = .ok (.iload 6, 2) := by decide +kernel
theorem dc_401_366 : decode (sm_cc 401) 366 = .ok (.ifCond .le (7), 3) := by decide +kernel
theorem dc_401_373 : decode (sm_cc 401) 373 = .ok (.iconst 0, 1) := by decide +kernel
theorem dc_401_374 : decode (sm_cc 401) 374 = .ok (.goto (33), 3) := by decide +kernel
theorem dc_401_369 : decode (sm_cc 401) 369 = .ok (.iconst 1, 1) := by decide +kernel
theorem dc_401_370 : decode (sm_cc 401) 370 = .ok (.goto (37), 3) := by decide +kernel
theorem dc_401_377 : decode (sm_cc 401) 377 = .ok (.iload_n 1, 1) := by decide +kernel
theorem dc_401_378 : decode (sm_cc 401) 378 = .ok (.sipush (15421), 3) := by decide +kernel
theorem dc_401_381 : decode (sm_cc 401) 381 = .ok (.if_icmp .ne (16), 3) := by decide +kernel
theorem dc_401_384 : decode (sm_cc 401) 384 = .ok (.iload 6, 2) := by decide +kernel
theorem dc_401_386 : decode (sm_cc 401) 386 = .ok (.ifCond .gt (7), 3) := by decide +kernel
theorem dc_401_393 : decode (sm_cc 401) 393 = .ok (.iconst 0, 1) := by decide +kernel
theorem dc_401_394 : decode (sm_cc 401) 394 = .ok (.goto (13), 3) := by decide +kernel
theorem dc_401_389 : decode (sm_cc 401) 389 = .ok (.iconst 1, 1) := by decide +kernel
theorem dc_401_390 : decode (sm_cc 401) 390 = .ok (.goto (17), 3) := by decide +kernel
theorem dc_401_397 : decode (sm_cc 401) 397 = .ok (.iload 6, 2) := by decide +kernel
theorem dc_401_399 : decode (sm_cc 401) 399 = .ok (.ifCond .lt (7), 3) := by decide +kernel
theorem dc_401_406 : decode (sm_cc 401) 406 = .ok (.iconst 0, 1) := by decide +kernel
theorem dc_401_402 : decode (sm_cc 401) 402 = .ok (.iconst 1, 1) := by decide +kernel
theorem dc_401_403 : decode (sm_cc 401) 403 = .ok (.goto (4), 3) := by decide +kernel
theorem dc_401_412 : decode (sm_cc 401) 412 = .ok (.aload_n 0, 1) := by decide +kernel
theorem dc_401_413 : decode (sm_cc 401) 413 = .ok (.iload_n 1, 1) := by decide +kernel
theorem dc_401_414 : decode (sm_cc 401) 414 = .ok (.iload_n 2, 1) := by decide +kernel
theorem dc_401_415 : decode (sm_cc 401) 415 = .ok (.iload_n 3, 1) := by decide +kernel
theorem dc_401_416 : decode (sm_cc 401) 416 = .ok (.invokevirtual 731, 3) := by decide +kernel
theorem ow_405 : 14 = sm_ow 405 := by decide +kernel
theorem kr_401_731 : sm_at mt_k (sm_ow 401) 731 = some (731, 0, 405, 0, 2949) := by decide +kernel
theorem np_405 : sm_np 405 = 3 := by decide +kernel
theorem dc_401_419 : decode (sm_cc 401) 419 = .ok (.ireturn, 1) := by decide +kernel
theorem rFi_1 {d : Nat} {S Sf : cS} {v : Option Value} {g : Nat} {zg : Nat} {kd : Int32} {xa : Int64} {xb : Int64} (ag : 108 ≤ g) (hB : ∀ lv1 : sm_L, sm_get lv1 0 = some (.ref g) → sm_get lv1 1 = some (.int kd) → sm_get lv1 2 = some (.long xa) → sm_get lv1 4 = some (.long xb) → sm_get lv1 6 = some (.int (nI 0)) → Bod (d + 8) 399 3 lv1 [] (S) v Sf) : Bod (d + 8) 399 0 [(0, .ref g), (1, .int kd), (2, .long xa), (4, .long xb)] [] S v Sf := by
  refine Bod.ic 0 (by decide) dc_399_0 ?_
  refine Bod.ist dc_399_1 (by rw [ml_399]; exact Nat.le_of_ble_eq_true rfl) ?_
  exact hB _ (by first | rfl | exact (by repeat (first | exact rfl | exact sm_get_p1 | exact sm_get_p2e | refine sm_get_p1m (by decide) (by decide) ?_ | refine sm_get_p1n (by decide) rfl ?_ | refine sm_get_p2n (by decide) (by decide) rfl ?_ | refine sm_get_p2m (by decide) (by decide) (by decide) ?_))) (by first | rfl | exact (by repeat (first | exact rfl | exact sm_get_p1 | exact sm_get_p2e | refine sm_get_p1m (by decide) (by decide) ?_ | refine sm_get_p1n (by decide) rfl ?_ | refine sm_get_p2n (by decide) (by decide) rfl ?_ | refine sm_get_p2m (by decide) (by decide) (by decide) ?_))) (by first | rfl | exact (by repeat (first | exact rfl | exact sm_get_p1 | exact sm_get_p2e | refine sm_get_p1m (by decide) (by decide) ?_ | refine sm_get_p1n (by decide) rfl ?_ | refine sm_get_p2n (by decide) (by decide) rfl ?_ | refine sm_get_p2m (by decide) (by decide) (by decide) ?_))) (by first | rfl | exact (by repeat (first | exact rfl | exact sm_get_p1 | exact sm_get_p2e | refine sm_get_p1m (by decide) (by decide) ?_ | refine sm_get_p1n (by decide) rfl ?_ | refine sm_get_p2n (by decide) (by decide) rfl ?_ | refine sm_get_p2m (by decide) (by decide) (by decide) ?_))) (by first | rfl | exact (by repeat (first | exact rfl | exact sm_get_p1 | exact sm_get_p2e | refine sm_get_p1m (by decide) (by decide) ?_ | refine sm_get_p1n (by decide) rfl ?_ | refine sm_get_p2n (by decide) (by decide) rfl ?_ | refine sm_get_p2m (by decide) (by decide) (by decide) ?_)))
theorem rFiL_1 {d : Nat} {S : cS} {lv : sm_L} {g : Nat} {zg : Nat} {kd : Int32} {xa : Int64} {xb : Int64} {ni : Nat} {fd1 : Nat} (q0 : sm_get lv 0 = some (.ref g)) (q1 : sm_get lv 1 = some (.int kd)) (q2 : sm_get lv 2 = some (.long xa)) (q4 : sm_get lv 4 = some (.long xb)) (q6 : sm_get lv 6 = some (.int (nI ni))) (mni : ni < 2 ^ 20) (ag : 108 ≤ g) (hz1 : (sS S)[g - 108]? = some (13, zg)) (hfd1 : sI S (100 * g + 1) = nI fd1) (mfd1 : fd1 < 2 ^ 20) (b1 : fd1 ≤ ni) : Bod (d + 8) 399 3 lv [] S (some (.int (Int32.ofInt (-1)))) (S) := by
  refine Bod.ildG dc_399_3 (by repeat (first | exact q6 | exact sm_get_p1 | exact sm_get_p2e | refine sm_get_p1m (by decide) (by decide) ?_ | refine sm_get_p1n (by decide) rfl ?_ | refine sm_get_p2n (by decide) (by decide) rfl ?_ | refine sm_get_p2m (by decide) (by decide) (by decide) ?_)) ?_
  refine Bod.aldnG dc_399_5 (by repeat (first | exact q0 | exact sm_get_p1 | exact sm_get_p2e | refine sm_get_p1m (by decide) (by decide) ?_ | refine sm_get_p1n (by decide) rfl ?_ | refine sm_get_p2n (by decide) (by decide) rfl ?_ | refine sm_get_p2m (by decide) (by decide) (by decide) ?_)) ?_
  refine Bod.get dc_399_6 fr_399_38 (mk_thing ag (by first | exact hz1 | (simp only [rIS, rJS, rAS, rLS, rVS, rQS, rS_hold]; exact hz1))) rfl ?_
  refine Bod.eqI (nI fd1) (by first | assumption | rfl | exact congrArg nI (by omega) | (simp (disch := omega) only [rI, rIe, rA, rIA, rLA, rJA, rVI, rQI, rVA, rQA, upd_at,  rAI, rLI, rJI, nI_add, pk_sub, kc_0, kc_1, kc_2, kc_3, kc_4, kc_5, reduceIte, Nat.reduceEqDiff, Nat.add_zero, rI_hold, rI_hold, rL_hold, hfd1]; done)) ?_
  refine Bod.icT dc_399_9 rfl (k2_ge_T ni fd1 rfl rfl (by omega) (by omega)) ?_
  refine Bod.go dc_399_57 rfl ?_
  exact Bod.retI dc_399_58 rt_399
theorem rFiL_2 {d : Nat} {S Sf : cS} {v : Option Value} {lv : sm_L} {g : Nat} {zg : Nat} {kd : Int32} {xa : Int64} {xb : Int64} {ni : Nat} {fd1 : Nat} {r : Nat} {N : Nat} {e : Nat} {r1 : Nat} {N1 : Nat} (q0 : sm_get lv 0 = some (.ref g)) (q1 : sm_get lv 1 = some (.int kd)) (q2 : sm_get lv 2 = some (.long xa)) (q4 : sm_get lv 4 = some (.long xb)) (q6 : sm_get lv 6 = some (.int (nI ni))) (mni : ni < 2 ^ 20) (ag : 108 ≤ g) (hz1 : (sS S)[g - 108]? = some (13, zg)) (hfd1 : sI S (100 * g + 1) = nI fd1) (mfd1 : fd1 < 2 ^ 20) (b1 : ni < fd1) (hv1 : sV S (100 * g + 3) = .ref r) (hg1 : isK S r 0 N) (mN : N < 2 ^ 20) (b2 : ni < N) (he : sA S r ni = nI e) (me : e < 2 ^ 20) (w13 : nI e = kd) (hv2 : sV S (100 * g + 6) = .ref r1) (hg2 : isK S r1 1 N1) (mN1 : N1 < 2 ^ 20) (b3 : ni < N1) (w18 : sm_c1 .ne (lg_cmp (sL S r1 ni) xa) true false = true) (hB : ∀ lv1 : sm_L, sm_get lv1 0 = some (.ref g) → sm_get lv1 1 = some (.int kd) → sm_get lv1 2 = some (.long xa) → sm_get lv1 4 = some (.long xb) → sm_get lv1 6 = some (.int (nI (ni + 1))) → Bod (d + 8) 399 3 lv1 [] (S) v Sf) : Bod (d + 8) 399 3 lv [] S v Sf := by
  refine Bod.ildG dc_399_3 (by repeat (first | exact q6 | exact sm_get_p1 | exact sm_get_p2e | refine sm_get_p1m (by decide) (by decide) ?_ | refine sm_get_p1n (by decide) rfl ?_ | refine sm_get_p2n (by decide) (by decide) rfl ?_ | refine sm_get_p2m (by decide) (by decide) (by decide) ?_)) ?_
  refine Bod.aldnG dc_399_5 (by repeat (first | exact q0 | exact sm_get_p1 | exact sm_get_p2e | refine sm_get_p1m (by decide) (by decide) ?_ | refine sm_get_p1n (by decide) rfl ?_ | refine sm_get_p2n (by decide) (by decide) rfl ?_ | refine sm_get_p2m (by decide) (by decide) (by decide) ?_)) ?_
  refine Bod.get dc_399_6 fr_399_38 (mk_thing ag (by first | exact hz1 | (simp only [rIS, rJS, rAS, rLS, rVS, rQS, rS_hold]; exact hz1))) rfl ?_
  refine Bod.eqI (nI fd1) (by first | assumption | rfl | exact congrArg nI (by omega) | (simp (disch := omega) only [rI, rIe, rA, rIA, rLA, rJA, rVI, rQI, rVA, rQA, upd_at,  rAI, rLI, rJI, nI_add, pk_sub, kc_0, kc_1, kc_2, kc_3, kc_4, kc_5, reduceIte, Nat.reduceEqDiff, Nat.add_zero, rI_hold, rI_hold, rL_hold, hfd1]; done)) ?_
  refine Bod.icF dc_399_9 rfl (k2_ge_F ni fd1 rfl rfl (by omega) (by omega)) ?_
  refine Bod.aldnG dc_399_12 (by repeat (first | exact q0 | exact sm_get_p1 | exact sm_get_p2e | refine sm_get_p1m (by decide) (by decide) ?_ | refine sm_get_p1n (by decide) rfl ?_ | refine sm_get_p2n (by decide) (by decide) rfl ?_ | refine sm_get_p2m (by decide) (by decide) (by decide) ?_)) ?_
  refine Bod.get dc_399_13 fr_399_13 (mk_thing ag (by first | exact hz1 | (simp only [rIS, rJS, rAS, rLS, rVS, rQS, rS_hold]; exact hz1))) rfl ?_
  refine Bod.eqV (.ref r) (by first | exact hv1 | (simp only [rIV, rJV, rAV, rLV, rQV, rV, reduceIte, Nat.reduceEqDiff]; exact hv1)) ?_
  refine Bod.ildG dc_399_16 (by repeat (first | exact q6 | exact sm_get_p1 | exact sm_get_p2e | refine sm_get_p1m (by decide) (by decide) ?_ | refine sm_get_p1n (by decide) rfl ?_ | refine sm_get_p2n (by decide) (by decide) rfl ?_ | refine sm_get_p2m (by decide) (by decide) (by decide) ?_)) ?_
  refine Bod.ialdN (N := N) ni rfl (by omega) (by omega) dc_399_18 (mk_isI (by first | exact hg1 | exact isK_S (by simp only [rIS, rJS, rAS, rLS, rVS, rQS, rS_hold]) hg1)) ?_
  refine Bod.eqI (nI e) (by first | assumption | rfl | exact congrArg nI (by omega) | (simp (disch := omega) only [rI, rIe, rA, rIA, rLA, rJA, rVI, rQI, rVA, rQA, upd_at,  rAI, rLI, rJI, nI_add, pk_sub, kc_0, kc_1, kc_2, kc_3, kc_4, kc_5, reduceIte, Nat.reduceEqDiff, Nat.add_zero, rI_hold, rI_hold, rL_hold, hfd1, he]; done)) ?_
  refine Bod.ildnG dc_399_19 (by repeat (first | exact q1 | exact sm_get_p1 | exact sm_get_p2e | refine sm_get_p1m (by decide) (by decide) ?_ | refine sm_get_p1n (by decide) rfl ?_ | refine sm_get_p2n (by decide) (by decide) rfl ?_ | refine sm_get_p2m (by decide) (by decide) (by decide) ?_)) ?_
  refine Bod.icF dc_399_20 rfl (c2_ne_F w13) ?_
  refine Bod.aldnG dc_399_23 (by repeat (first | exact q0 | exact sm_get_p1 | exact sm_get_p2e | refine sm_get_p1m (by decide) (by decide) ?_ | refine sm_get_p1n (by decide) rfl ?_ | refine sm_get_p2n (by decide) (by decide) rfl ?_ | refine sm_get_p2m (by decide) (by decide) (by decide) ?_)) ?_
  refine Bod.get dc_399_24 fr_399_23 (mk_thing ag (by first | exact hz1 | (simp only [rIS, rJS, rAS, rLS, rVS, rQS, rS_hold]; exact hz1))) rfl ?_
  refine Bod.eqV (.ref r1) (by first | exact hv2 | (simp only [rIV, rJV, rAV, rLV, rQV, rV, reduceIte, Nat.reduceEqDiff]; exact hv2)) ?_
  refine Bod.ildG dc_399_27 (by repeat (first | exact q6 | exact sm_get_p1 | exact sm_get_p2e | refine sm_get_p1m (by decide) (by decide) ?_ | refine sm_get_p1n (by decide) rfl ?_ | refine sm_get_p2n (by decide) (by decide) rfl ?_ | refine sm_get_p2m (by decide) (by decide) (by decide) ?_)) ?_
  refine Bod.laldN (N := N1) ni rfl (by omega) (by omega) dc_399_29 (mk_isL (by first | exact hg2 | exact isK_S (by simp only [rIS, rJS, rAS, rLS, rVS, rQS, rS_hold]) hg2)) ?_
  refine Bod.lldnG dc_399_30 (by repeat (first | exact q2 | exact sm_get_p1 | exact sm_get_p2e | refine sm_get_p1m (by decide) (by decide) ?_ | refine sm_get_p1n (by decide) rfl ?_ | refine sm_get_p2n (by decide) (by decide) rfl ?_ | refine sm_get_p2m (by decide) (by decide) (by decide) ?_)) ?_
  refine Bod.go dc_399_31 rfl ?_
  refine Bod.ifT dc_399_32 rfl w18 ?_
  refine Bod.incN (ni + 1) (by rw [kc_1, nI_add]) dc_399_51 (by rw [ml_399]; exact Nat.le_of_ble_eq_true rfl) (by repeat (first | exact q6 | exact sm_get_p1 | exact sm_get_p2e | refine sm_get_p1m (by decide) (by decide) ?_ | refine sm_get_p1n (by decide) rfl ?_ | refine sm_get_p2n (by decide) (by decide) rfl ?_ | refine sm_get_p2m (by decide) (by decide) (by decide) ?_)) ?_
  refine Bod.go dc_399_54 rfl ?_
  exact hB _ (by repeat (first | exact q0 | exact sm_get_p1 | exact sm_get_p2e | refine sm_get_p1m (by decide) (by decide) ?_ | refine sm_get_p1n (by decide) rfl ?_ | refine sm_get_p2n (by decide) (by decide) rfl ?_ | refine sm_get_p2m (by decide) (by decide) (by decide) ?_)) (by repeat (first | exact q1 | exact sm_get_p1 | exact sm_get_p2e | refine sm_get_p1m (by decide) (by decide) ?_ | refine sm_get_p1n (by decide) rfl ?_ | refine sm_get_p2n (by decide) (by decide) rfl ?_ | refine sm_get_p2m (by decide) (by decide) (by decide) ?_)) (by repeat (first | exact q2 | exact sm_get_p1 | exact sm_get_p2e | refine sm_get_p1m (by decide) (by decide) ?_ | refine sm_get_p1n (by decide) rfl ?_ | refine sm_get_p2n (by decide) (by decide) rfl ?_ | refine sm_get_p2m (by decide) (by decide) (by decide) ?_)) (by repeat (first | exact q4 | exact sm_get_p1 | exact sm_get_p2e | refine sm_get_p1m (by decide) (by decide) ?_ | refine sm_get_p1n (by decide) rfl ?_ | refine sm_get_p2n (by decide) (by decide) rfl ?_ | refine sm_get_p2m (by decide) (by decide) (by decide) ?_)) (by repeat (first | exact q0 | exact sm_get_p1 | exact sm_get_p2e | refine sm_get_p1m (by decide) (by decide) ?_ | refine sm_get_p1n (by decide) rfl ?_ | refine sm_get_p2n (by decide) (by decide) rfl ?_ | refine sm_get_p2m (by decide) (by decide) (by decide) ?_))
theorem rFiL_3 {d : Nat} {S Sf : cS} {v : Option Value} {lv : sm_L} {g : Nat} {zg : Nat} {kd : Int32} {xa : Int64} {xb : Int64} {ni : Nat} {fd1 : Nat} {r : Nat} {N : Nat} {e : Nat} {r1 : Nat} {N1 : Nat} {r2 : Nat} {N2 : Nat} (q0 : sm_get lv 0 = some (.ref g)) (q1 : sm_get lv 1 = some (.int kd)) (q2 : sm_get lv 2 = some (.long xa)) (q4 : sm_get lv 4 = some (.long xb)) (q6 : sm_get lv 6 = some (.int (nI ni))) (mni : ni < 2 ^ 20) (ag : 108 ≤ g) (hz1 : (sS S)[g - 108]? = some (13, zg)) (hfd1 : sI S (100 * g + 1) = nI fd1) (mfd1 : fd1 < 2 ^ 20) (b1 : ni < fd1) (hv1 : sV S (100 * g + 3) = .ref r) (hg1 : isK S r 0 N) (mN : N < 2 ^ 20) (b2 : ni < N) (he : sA S r ni = nI e) (me : e < 2 ^ 20) (w13 : nI e = kd) (hv2 : sV S (100 * g + 6) = .ref r1) (hg2 : isK S r1 1 N1) (mN1 : N1 < 2 ^ 20) (b3 : ni < N1) (w18 : sm_c1 .ne (lg_cmp (sL S r1 ni) xa) true false = false) (hv3 : sV S (100 * g + 7) = .ref r2) (hg3 : isK S r2 1 N2) (mN2 : N2 < 2 ^ 20) (b4 : ni < N2) (w23 : sm_c1 .ne (lg_cmp (sL S r2 ni) xb) true false = true) (hB : ∀ lv1 : sm_L, sm_get lv1 0 = some (.ref g) → sm_get lv1 1 = some (.int kd) → sm_get lv1 2 = some (.long xa) → sm_get lv1 4 = some (.long xb) → sm_get lv1 6 = some (.int (nI (ni + 1))) → Bod (d + 8) 399 3 lv1 [] (S) v Sf) : Bod (d + 8) 399 3 lv [] S v Sf := by
  refine Bod.ildG dc_399_3 (by repeat (first | exact q6 | exact sm_get_p1 | exact sm_get_p2e | refine sm_get_p1m (by decide) (by decide) ?_ | refine sm_get_p1n (by decide) rfl ?_ | refine sm_get_p2n (by decide) (by decide) rfl ?_ | refine sm_get_p2m (by decide) (by decide) (by decide) ?_)) ?_
  refine Bod.aldnG dc_399_5 (by repeat (first | exact q0 | exact sm_get_p1 | exact sm_get_p2e | refine sm_get_p1m (by decide) (by decide) ?_ | refine sm_get_p1n (by decide) rfl ?_ | refine sm_get_p2n (by decide) (by decide) rfl ?_ | refine sm_get_p2m (by decide) (by decide) (by decide) ?_)) ?_
  refine Bod.get dc_399_6 fr_399_38 (mk_thing ag (by first | exact hz1 | (simp only [rIS, rJS, rAS, rLS, rVS, rQS, rS_hold]; exact hz1))) rfl ?_
  refine Bod.eqI (nI fd1) (by first | assumption | rfl | exact congrArg nI (by omega) | (simp (disch := omega) only [rI, rIe, rA, rIA, rLA, rJA, rVI, rQI, rVA, rQA, upd_at,  rAI, rLI, rJI, nI_add, pk_sub, kc_0, kc_1, kc_2, kc_3, kc_4, kc_5, reduceIte, Nat.reduceEqDiff, Nat.add_zero, rI_hold, rI_hold, rL_hold, hfd1]; done)) ?_
  refine Bod.icF dc_399_9 rfl (k2_ge_F ni fd1 rfl rfl (by omega) (by omega)) ?_
  refine Bod.aldnG dc_399_12 (by repeat (first | exact q0 | exact sm_get_p1 | exact sm_get_p2e | refine sm_get_p1m (by decide) (by decide) ?_ | refine sm_get_p1n (by decide) rfl ?_ | refine sm_get_p2n (by decide) (by decide) rfl ?_ | refine sm_get_p2m (by decide) (by decide) (by decide) ?_)) ?_
  refine Bod.get dc_399_13 fr_399_13 (mk_thing ag (by first | exact hz1 | (simp only [rIS, rJS, rAS, rLS, rVS, rQS, rS_hold]; exact hz1))) rfl ?_
  refine Bod.eqV (.ref r) (by first | exact hv1 | (simp only [rIV, rJV, rAV, rLV, rQV, rV, reduceIte, Nat.reduceEqDiff]; exact hv1)) ?_
  refine Bod.ildG dc_399_16 (by repeat (first | exact q6 | exact sm_get_p1 | exact sm_get_p2e | refine sm_get_p1m (by decide) (by decide) ?_ | refine sm_get_p1n (by decide) rfl ?_ | refine sm_get_p2n (by decide) (by decide) rfl ?_ | refine sm_get_p2m (by decide) (by decide) (by decide) ?_)) ?_
  refine Bod.ialdN (N := N) ni rfl (by omega) (by omega) dc_399_18 (mk_isI (by first | exact hg1 | exact isK_S (by simp only [rIS, rJS, rAS, rLS, rVS, rQS, rS_hold]) hg1)) ?_
  refine Bod.eqI (nI e) (by first | assumption | rfl | exact congrArg nI (by omega) | (simp (disch := omega) only [rI, rIe, rA, rIA, rLA, rJA, rVI, rQI, rVA, rQA, upd_at,  rAI, rLI, rJI, nI_add, pk_sub, kc_0, kc_1, kc_2, kc_3, kc_4, kc_5, reduceIte, Nat.reduceEqDiff, Nat.add_zero, rI_hold, rI_hold, rL_hold, hfd1, he]; done)) ?_
  refine Bod.ildnG dc_399_19 (by repeat (first | exact q1 | exact sm_get_p1 | exact sm_get_p2e | refine sm_get_p1m (by decide) (by decide) ?_ | refine sm_get_p1n (by decide) rfl ?_ | refine sm_get_p2n (by decide) (by decide) rfl ?_ | refine sm_get_p2m (by decide) (by decide) (by decide) ?_)) ?_
  refine Bod.icF dc_399_20 rfl (c2_ne_F w13) ?_
  refine Bod.aldnG dc_399_23 (by repeat (first | exact q0 | exact sm_get_p1 | exact sm_get_p2e | refine sm_get_p1m (by decide) (by decide) ?_ | refine sm_get_p1n (by decide) rfl ?_ | refine sm_get_p2n (by decide) (by decide) rfl ?_ | refine sm_get_p2m (by decide) (by decide) (by decide) ?_)) ?_
  refine Bod.get dc_399_24 fr_399_23 (mk_thing ag (by first | exact hz1 | (simp only [rIS, rJS, rAS, rLS, rVS, rQS, rS_hold]; exact hz1))) rfl ?_
  refine Bod.eqV (.ref r1) (by first | exact hv2 | (simp only [rIV, rJV, rAV, rLV, rQV, rV, reduceIte, Nat.reduceEqDiff]; exact hv2)) ?_
  refine Bod.ildG dc_399_27 (by repeat (first | exact q6 | exact sm_get_p1 | exact sm_get_p2e | refine sm_get_p1m (by decide) (by decide) ?_ | refine sm_get_p1n (by decide) rfl ?_ | refine sm_get_p2n (by decide) (by decide) rfl ?_ | refine sm_get_p2m (by decide) (by decide) (by decide) ?_)) ?_
  refine Bod.laldN (N := N1) ni rfl (by omega) (by omega) dc_399_29 (mk_isL (by first | exact hg2 | exact isK_S (by simp only [rIS, rJS, rAS, rLS, rVS, rQS, rS_hold]) hg2)) ?_
  refine Bod.lldnG dc_399_30 (by repeat (first | exact q2 | exact sm_get_p1 | exact sm_get_p2e | refine sm_get_p1m (by decide) (by decide) ?_ | refine sm_get_p1n (by decide) rfl ?_ | refine sm_get_p2n (by decide) (by decide) rfl ?_ | refine sm_get_p2m (by decide) (by decide) (by decide) ?_)) ?_
  refine Bod.go dc_399_31 rfl ?_
  refine Bod.ifF dc_399_32 rfl w18 ?_
  refine Bod.aldnG dc_399_35 (by repeat (first | exact q0 | exact sm_get_p1 | exact sm_get_p2e | refine sm_get_p1m (by decide) (by decide) ?_ | refine sm_get_p1n (by decide) rfl ?_ | refine sm_get_p2n (by decide) (by decide) rfl ?_ | refine sm_get_p2m (by decide) (by decide) (by decide) ?_)) ?_
  refine Bod.get dc_399_36 fr_399_26 (mk_thing ag (by first | exact hz1 | (simp only [rIS, rJS, rAS, rLS, rVS, rQS, rS_hold]; exact hz1))) rfl ?_
  refine Bod.eqV (.ref r2) (by first | exact hv3 | (simp only [rIV, rJV, rAV, rLV, rQV, rV, reduceIte, Nat.reduceEqDiff]; exact hv3)) ?_
  refine Bod.ildG dc_399_39 (by repeat (first | exact q6 | exact sm_get_p1 | exact sm_get_p2e | refine sm_get_p1m (by decide) (by decide) ?_ | refine sm_get_p1n (by decide) rfl ?_ | refine sm_get_p2n (by decide) (by decide) rfl ?_ | refine sm_get_p2m (by decide) (by decide) (by decide) ?_)) ?_
  refine Bod.laldN (N := N2) ni rfl (by omega) (by omega) dc_399_41 (mk_isL (by first | exact hg3 | exact isK_S (by simp only [rIS, rJS, rAS, rLS, rVS, rQS, rS_hold]) hg3)) ?_
  refine Bod.lldG dc_399_42 (by repeat (first | exact q4 | exact sm_get_p1 | exact sm_get_p2e | refine sm_get_p1m (by decide) (by decide) ?_ | refine sm_get_p1n (by decide) rfl ?_ | refine sm_get_p2n (by decide) (by decide) rfl ?_ | refine sm_get_p2m (by decide) (by decide) (by decide) ?_)) ?_
  refine Bod.go dc_399_44 rfl ?_
  refine Bod.ifT dc_399_45 rfl w23 ?_
  refine Bod.incN (ni + 1) (by rw [kc_1, nI_add]) dc_399_51 (by rw [ml_399]; exact Nat.le_of_ble_eq_true rfl) (by repeat (first | exact q6 | exact sm_get_p1 | exact sm_get_p2e | refine sm_get_p1m (by decide) (by decide) ?_ | refine sm_get_p1n (by decide) rfl ?_ | refine sm_get_p2n (by decide) (by decide) rfl ?_ | refine sm_get_p2m (by decide) (by decide) (by decide) ?_)) ?_
  refine Bod.go dc_399_54 rfl ?_
  exact hB _ (by repeat (first | exact q0 | exact sm_get_p1 | exact sm_get_p2e | refine sm_get_p1m (by decide) (by decide) ?_ | refine sm_get_p1n (by decide) rfl ?_ | refine sm_get_p2n (by decide) (by decide) rfl ?_ | refine sm_get_p2m (by decide) (by decide) (by decide) ?_)) (by repeat (first | exact q1 | exact sm_get_p1 | exact sm_get_p2e | refine sm_get_p1m (by decide) (by decide) ?_ | refine sm_get_p1n (by decide) rfl ?_ | refine sm_get_p2n (by decide) (by decide) rfl ?_ | refine sm_get_p2m (by decide) (by decide) (by decide) ?_)) (by repeat (first | exact q2 | exact sm_get_p1 | exact sm_get_p2e | refine sm_get_p1m (by decide) (by decide) ?_ | refine sm_get_p1n (by decide) rfl ?_ | refine sm_get_p2n (by decide) (by decide) rfl ?_ | refine sm_get_p2m (by decide) (by decide) (by decide) ?_)) (by repeat (first | exact q4 | exact sm_get_p1 | exact sm_get_p2e | refine sm_get_p1m (by decide) (by decide) ?_ | refine sm_get_p1n (by decide) rfl ?_ | refine sm_get_p2n (by decide) (by decide) rfl ?_ | refine sm_get_p2m (by decide) (by decide) (by decide) ?_)) (by repeat (first | exact q0 | exact sm_get_p1 | exact sm_get_p2e | refine sm_get_p1m (by decide) (by decide) ?_ | refine sm_get_p1n (by decide) rfl ?_ | refine sm_get_p2n (by decide) (by decide) rfl ?_ | refine sm_get_p2m (by decide) (by decide) (by decide) ?_))
theorem rFiL_4 {d : Nat} {S : cS} {lv : sm_L} {g : Nat} {zg : Nat} {kd : Int32} {xa : Int64} {xb : Int64} {ni : Nat} {fd1 : Nat} {r : Nat} {N : Nat} {e : Nat} {r1 : Nat} {N1 : Nat} {r2 : Nat} {N2 : Nat} (q0 : sm_get lv 0 = some (.ref g)) (q1 : sm_get lv 1 = some (.int kd)) (q2 : sm_get lv 2 = some (.long xa)) (q4 : sm_get lv 4 = some (.long xb)) (q6 : sm_get lv 6 = some (.int (nI ni))) (mni : ni < 2 ^ 20) (ag : 108 ≤ g) (hz1 : (sS S)[g - 108]? = some (13, zg)) (hfd1 : sI S (100 * g + 1) = nI fd1) (mfd1 : fd1 < 2 ^ 20) (b1 : ni < fd1) (hv1 : sV S (100 * g + 3) = .ref r) (hg1 : isK S r 0 N) (mN : N < 2 ^ 20) (b2 : ni < N) (he : sA S r ni = nI e) (me : e < 2 ^ 20) (w13 : nI e = kd) (hv2 : sV S (100 * g + 6) = .ref r1) (hg2 : isK S r1 1 N1) (mN1 : N1 < 2 ^ 20) (b3 : ni < N1) (w18 : sm_c1 .ne (lg_cmp (sL S r1 ni) xa) true false = false) (hv3 : sV S (100 * g + 7) = .ref r2) (hg3 : isK S r2 1 N2) (mN2 : N2 < 2 ^ 20) (b4 : ni < N2) (w23 : sm_c1 .ne (lg_cmp (sL S r2 ni) xb) true false = false) : Bod (d + 8) 399 3 lv [] S (some (.int (nI ni))) (S) := by
  refine Bod.ildG dc_399_3 (by repeat (first | exact q6 | exact sm_get_p1 | exact sm_get_p2e | refine sm_get_p1m (by decide) (by decide) ?_ | refine sm_get_p1n (by decide) rfl ?_ | refine sm_get_p2n (by decide) (by decide) rfl ?_ | refine sm_get_p2m (by decide) (by decide) (by decide) ?_)) ?_
  refine Bod.aldnG dc_399_5 (by repeat (first | exact q0 | exact sm_get_p1 | exact sm_get_p2e | refine sm_get_p1m (by decide) (by decide) ?_ | refine sm_get_p1n (by decide) rfl ?_ | refine sm_get_p2n (by decide) (by decide) rfl ?_ | refine sm_get_p2m (by decide) (by decide) (by decide) ?_)) ?_
  refine Bod.get dc_399_6 fr_399_38 (mk_thing ag (by first | exact hz1 | (simp only [rIS, rJS, rAS, rLS, rVS, rQS, rS_hold]; exact hz1))) rfl ?_
  refine Bod.eqI (nI fd1) (by first | assumption | rfl | exact congrArg nI (by omega) | (simp (disch := omega) only [rI, rIe, rA, rIA, rLA, rJA, rVI, rQI, rVA, rQA, upd_at,  rAI, rLI, rJI, nI_add, pk_sub, kc_0, kc_1, kc_2, kc_3, kc_4, kc_5, reduceIte, Nat.reduceEqDiff, Nat.add_zero, rI_hold, rI_hold, rL_hold, hfd1]; done)) ?_
  refine Bod.icF dc_399_9 rfl (k2_ge_F ni fd1 rfl rfl (by omega) (by omega)) ?_
  refine Bod.aldnG dc_399_12 (by repeat (first | exact q0 | exact sm_get_p1 | exact sm_get_p2e | refine sm_get_p1m (by decide) (by decide) ?_ | refine sm_get_p1n (by decide) rfl ?_ | refine sm_get_p2n (by decide) (by decide) rfl ?_ | refine sm_get_p2m (by decide) (by decide) (by decide) ?_)) ?_
  refine Bod.get dc_399_13 fr_399_13 (mk_thing ag (by first | exact hz1 | (simp only [rIS, rJS, rAS, rLS, rVS, rQS, rS_hold]; exact hz1))) rfl ?_
  refine Bod.eqV (.ref r) (by first | exact hv1 | (simp only [rIV, rJV, rAV, rLV, rQV, rV, reduceIte, Nat.reduceEqDiff]; exact hv1)) ?_
  refine Bod.ildG dc_399_16 (by repeat (first | exact q6 | exact sm_get_p1 | exact sm_get_p2e | refine sm_get_p1m (by decide) (by decide) ?_ | refine sm_get_p1n (by decide) rfl ?_ | refine sm_get_p2n (by decide) (by decide) rfl ?_ | refine sm_get_p2m (by decide) (by decide) (by decide) ?_)) ?_
  refine Bod.ialdN (N := N) ni rfl (by omega) (by omega) dc_399_18 (mk_isI (by first | exact hg1 | exact isK_S (by simp only [rIS, rJS, rAS, rLS, rVS, rQS, rS_hold]) hg1)) ?_
  refine Bod.eqI (nI e) (by first | assumption | rfl | exact congrArg nI (by omega) | (simp (disch := omega) only [rI, rIe, rA, rIA, rLA, rJA, rVI, rQI, rVA, rQA, upd_at,  rAI, rLI, rJI, nI_add, pk_sub, kc_0, kc_1, kc_2, kc_3, kc_4, kc_5, reduceIte, Nat.reduceEqDiff, Nat.add_zero, rI_hold, rI_hold, rL_hold, hfd1, he]; done)) ?_
  refine Bod.ildnG dc_399_19 (by repeat (first | exact q1 | exact sm_get_p1 | exact sm_get_p2e | refine sm_get_p1m (by decide) (by decide) ?_ | refine sm_get_p1n (by decide) rfl ?_ | refine sm_get_p2n (by decide) (by decide) rfl ?_ | refine sm_get_p2m (by decide) (by decide) (by decide) ?_)) ?_
  refine Bod.icF dc_399_20 rfl (c2_ne_F w13) ?_
  refine Bod.aldnG dc_399_23 (by repeat (first | exact q0 | exact sm_get_p1 | exact sm_get_p2e | refine sm_get_p1m (by decide) (by decide) ?_ | refine sm_get_p1n (by decide) rfl ?_ | refine sm_get_p2n (by decide) (by decide) rfl ?_ | refine sm_get_p2m (by decide) (by decide) (by decide) ?_)) ?_
  refine Bod.get dc_399_24 fr_399_23 (mk_thing ag (by first | exact hz1 | (simp only [rIS, rJS, rAS, rLS, rVS, rQS, rS_hold]; exact hz1))) rfl ?_
  refine Bod.eqV (.ref r1) (by first | exact hv2 | (simp only [rIV, rJV, rAV, rLV, rQV, rV, reduceIte, Nat.reduceEqDiff]; exact hv2)) ?_
  refine Bod.ildG dc_399_27 (by repeat (first | exact q6 | exact sm_get_p1 | exact sm_get_p2e | refine sm_get_p1m (by decide) (by decide) ?_ | refine sm_get_p1n (by decide) rfl ?_ | refine sm_get_p2n (by decide) (by decide) rfl ?_ | refine sm_get_p2m (by decide) (by decide) (by decide) ?_)) ?_
  refine Bod.laldN (N := N1) ni rfl (by omega) (by omega) dc_399_29 (mk_isL (by first | exact hg2 | exact isK_S (by simp only [rIS, rJS, rAS, rLS, rVS, rQS, rS_hold]) hg2)) ?_
  refine Bod.lldnG dc_399_30 (by repeat (first | exact q2 | exact sm_get_p1 | exact sm_get_p2e | refine sm_get_p1m (by decide) (by decide) ?_ | refine sm_get_p1n (by decide) rfl ?_ | refine sm_get_p2n (by decide) (by decide) rfl ?_ | refine sm_get_p2m (by decide) (by decide) (by decide) ?_)) ?_
  refine Bod.go dc_399_31 rfl ?_
  refine Bod.ifF dc_399_32 rfl w18 ?_
  refine Bod.aldnG dc_399_35 (by repeat (first | exact q0 | exact sm_get_p1 | exact sm_get_p2e | refine sm_get_p1m (by decide) (by decide) ?_ | refine sm_get_p1n (by decide) rfl ?_ | refine sm_get_p2n (by decide) (by decide) rfl ?_ | refine sm_get_p2m (by decide) (by decide) (by decide) ?_)) ?_
  refine Bod.get dc_399_36 fr_399_26 (mk_thing ag (by first | exact hz1 | (simp only [rIS, rJS, rAS, rLS, rVS, rQS, rS_hold]; exact hz1))) rfl ?_
  refine Bod.eqV (.ref r2) (by first | exact hv3 | (simp only [rIV, rJV, rAV, rLV, rQV, rV, reduceIte, Nat.reduceEqDiff]; exact hv3)) ?_
  refine Bod.ildG dc_399_39 (by repeat (first | exact q6 | exact sm_get_p1 | exact sm_get_p2e | refine sm_get_p1m (by decide) (by decide) ?_ | refine sm_get_p1n (by decide) rfl ?_ | refine sm_get_p2n (by decide) (by decide) rfl ?_ | refine sm_get_p2m (by decide) (by decide) (by decide) ?_)) ?_
  refine Bod.laldN (N := N2) ni rfl (by omega) (by omega) dc_399_41 (mk_isL (by first | exact hg3 | exact isK_S (by simp only [rIS, rJS, rAS, rLS, rVS, rQS, rS_hold]) hg3)) ?_
  refine Bod.lldG dc_399_42 (by repeat (first | exact q4 | exact sm_get_p1 | exact sm_get_p2e | refine sm_get_p1m (by decide) (by decide) ?_ | refine sm_get_p1n (by decide) rfl ?_ | refine sm_get_p2n (by decide) (by decide) rfl ?_ | refine sm_get_p2m (by decide) (by decide) (by decide) ?_)) ?_
  refine Bod.go dc_399_44 rfl ?_
  refine Bod.ifF dc_399_45 rfl w23 ?_
  refine Bod.ildG dc_399_48 (by repeat (first | exact q6 | exact sm_get_p1 | exact sm_get_p2e | refine sm_get_p1m (by decide) (by decide) ?_ | refine sm_get_p1n (by decide) rfl ?_ | refine sm_get_p2n (by decide) (by decide) rfl ?_ | refine sm_get_p2m (by decide) (by decide) (by decide) ?_)) ?_
  exact Bod.retI dc_399_50 rt_399
theorem rFiL_5 {d : Nat} {S Sf : cS} {v : Option Value} {lv : sm_L} {g : Nat} {zg : Nat} {kd : Int32} {xa : Int64} {xb : Int64} {ni : Nat} {fd1 : Nat} {r : Nat} {N : Nat} {e : Nat} (q0 : sm_get lv 0 = some (.ref g)) (q1 : sm_get lv 1 = some (.int kd)) (q2 : sm_get lv 2 = some (.long xa)) (q4 : sm_get lv 4 = some (.long xb)) (q6 : sm_get lv 6 = some (.int (nI ni))) (mni : ni < 2 ^ 20) (ag : 108 ≤ g) (hz1 : (sS S)[g - 108]? = some (13, zg)) (hfd1 : sI S (100 * g + 1) = nI fd1) (mfd1 : fd1 < 2 ^ 20) (b1 : ni < fd1) (hv1 : sV S (100 * g + 3) = .ref r) (hg1 : isK S r 0 N) (mN : N < 2 ^ 20) (b2 : ni < N) (he : sA S r ni = nI e) (me : e < 2 ^ 20) (w13 : nI e ≠ kd) (hB : ∀ lv1 : sm_L, sm_get lv1 0 = some (.ref g) → sm_get lv1 1 = some (.int kd) → sm_get lv1 2 = some (.long xa) → sm_get lv1 4 = some (.long xb) → sm_get lv1 6 = some (.int (nI (ni + 1))) → Bod (d + 8) 399 3 lv1 [] (S) v Sf) : Bod (d + 8) 399 3 lv [] S v Sf := by
  refine Bod.ildG dc_399_3 (by repeat (first | exact q6 | exact sm_get_p1 | exact sm_get_p2e | refine sm_get_p1m (by decide) (by decide) ?_ | refine sm_get_p1n (by decide) rfl ?_ | refine sm_get_p2n (by decide) (by decide) rfl ?_ | refine sm_get_p2m (by decide) (by decide) (by decide) ?_)) ?_
  refine Bod.aldnG dc_399_5 (by repeat (first | exact q0 | exact sm_get_p1 | exact sm_get_p2e | refine sm_get_p1m (by decide) (by decide) ?_ | refine sm_get_p1n (by decide) rfl ?_ | refine sm_get_p2n (by decide) (by decide) rfl ?_ | refine sm_get_p2m (by decide) (by decide) (by decide) ?_)) ?_
  refine Bod.get dc_399_6 fr_399_38 (mk_thing ag (by first | exact hz1 | (simp only [rIS, rJS, rAS, rLS, rVS, rQS, rS_hold]; exact hz1))) rfl ?_
  refine Bod.eqI (nI fd1) (by first | assumption | rfl | exact congrArg nI (by omega) | (simp (disch := omega) only [rI, rIe, rA, rIA, rLA, rJA, rVI, rQI, rVA, rQA, upd_at,  rAI, rLI, rJI, nI_add, pk_sub, kc_0, kc_1, kc_2, kc_3, kc_4, kc_5, reduceIte, Nat.reduceEqDiff, Nat.add_zero, rI_hold, rI_hold, rL_hold, hfd1]; done)) ?_
  refine Bod.icF dc_399_9 rfl (k2_ge_F ni fd1 rfl rfl (by omega) (by omega)) ?_
  refine Bod.aldnG dc_399_12 (by repeat (first | exact q0 | exact sm_get_p1 | exact sm_get_p2e | refine sm_get_p1m (by decide) (by decide) ?_ | refine sm_get_p1n (by decide) rfl ?_ | refine sm_get_p2n (by decide) (by decide) rfl ?_ | refine sm_get_p2m (by decide) (by decide) (by decide) ?_)) ?_
  refine Bod.get dc_399_13 fr_399_13 (mk_thing ag (by first | exact hz1 | (simp only [rIS, rJS, rAS, rLS, rVS, rQS, rS_hold]; exact hz1))) rfl ?_
  refine Bod.eqV (.ref r) (by first | exact hv1 | (simp only [rIV, rJV, rAV, rLV, rQV, rV, reduceIte, Nat.reduceEqDiff]; exact hv1)) ?_
  refine Bod.ildG dc_399_16 (by repeat (first | exact q6 | exact sm_get_p1 | exact sm_get_p2e | refine sm_get_p1m (by decide) (by decide) ?_ | refine sm_get_p1n (by decide) rfl ?_ | refine sm_get_p2n (by decide) (by decide) rfl ?_ | refine sm_get_p2m (by decide) (by decide) (by decide) ?_)) ?_
  refine Bod.ialdN (N := N) ni rfl (by omega) (by omega) dc_399_18 (mk_isI (by first | exact hg1 | exact isK_S (by simp only [rIS, rJS, rAS, rLS, rVS, rQS, rS_hold]) hg1)) ?_
  refine Bod.eqI (nI e) (by first | assumption | rfl | exact congrArg nI (by omega) | (simp (disch := omega) only [rI, rIe, rA, rIA, rLA, rJA, rVI, rQI, rVA, rQA, upd_at,  rAI, rLI, rJI, nI_add, pk_sub, kc_0, kc_1, kc_2, kc_3, kc_4, kc_5, reduceIte, Nat.reduceEqDiff, Nat.add_zero, rI_hold, rI_hold, rL_hold, hfd1, he]; done)) ?_
  refine Bod.ildnG dc_399_19 (by repeat (first | exact q1 | exact sm_get_p1 | exact sm_get_p2e | refine sm_get_p1m (by decide) (by decide) ?_ | refine sm_get_p1n (by decide) rfl ?_ | refine sm_get_p2n (by decide) (by decide) rfl ?_ | refine sm_get_p2m (by decide) (by decide) (by decide) ?_)) ?_
  refine Bod.icT dc_399_20 rfl (c2_ne_T w13) ?_
  refine Bod.incN (ni + 1) (by rw [kc_1, nI_add]) dc_399_51 (by rw [ml_399]; exact Nat.le_of_ble_eq_true rfl) (by repeat (first | exact q6 | exact sm_get_p1 | exact sm_get_p2e | refine sm_get_p1m (by decide) (by decide) ?_ | refine sm_get_p1n (by decide) rfl ?_ | refine sm_get_p2n (by decide) (by decide) rfl ?_ | refine sm_get_p2m (by decide) (by decide) (by decide) ?_)) ?_
  refine Bod.go dc_399_54 rfl ?_
  exact hB _ (by repeat (first | exact q0 | exact sm_get_p1 | exact sm_get_p2e | refine sm_get_p1m (by decide) (by decide) ?_ | refine sm_get_p1n (by decide) rfl ?_ | refine sm_get_p2n (by decide) (by decide) rfl ?_ | refine sm_get_p2m (by decide) (by decide) (by decide) ?_)) (by repeat (first | exact q1 | exact sm_get_p1 | exact sm_get_p2e | refine sm_get_p1m (by decide) (by decide) ?_ | refine sm_get_p1n (by decide) rfl ?_ | refine sm_get_p2n (by decide) (by decide) rfl ?_ | refine sm_get_p2m (by decide) (by decide) (by decide) ?_)) (by repeat (first | exact q2 | exact sm_get_p1 | exact sm_get_p2e | refine sm_get_p1m (by decide) (by decide) ?_ | refine sm_get_p1n (by decide) rfl ?_ | refine sm_get_p2n (by decide) (by decide) rfl ?_ | refine sm_get_p2m (by decide) (by decide) (by decide) ?_)) (by repeat (first | exact q4 | exact sm_get_p1 | exact sm_get_p2e | refine sm_get_p1m (by decide) (by decide) ?_ | refine sm_get_p1n (by decide) rfl ?_ | refine sm_get_p2n (by decide) (by decide) rfl ?_ | refine sm_get_p2m (by decide) (by decide) (by decide) ?_)) (by repeat (first | exact q0 | exact sm_get_p1 | exact sm_get_p2e | refine sm_get_p1m (by decide) (by decide) ?_ | refine sm_get_p1n (by decide) rfl ?_ | refine sm_get_p2n (by decide) (by decide) rfl ?_ | refine sm_get_p2m (by decide) (by decide) (by decide) ?_))
theorem rRe_1 {d : Nat} {S Sf : cS} {v : Option Value} {g : Nat} {zg : Nat} {a0 : Nat} {fd1 : Nat} (ma0 : a0 < 2 ^ 20) (ag : 108 ≤ g) (hz1 : (sS S)[g - 108]? = some (13, zg)) (hfd1 : sI S (100 * g + 1) = nI fd1) (mfd1 : fd1 < 2 ^ 20) (b1 : 1 ≤ fd1) (hB : ∀ lv1 : sm_L, sm_get lv1 0 = some (.ref g) → sm_get lv1 2 = some (.int (nI a0)) → Bod (d + 8) 418 12 lv1 [] (wI (100 * g + 1) (nI (fd1 - 1)) S) v Sf) : Bod (d + 8) 418 0 [(0, .ref g), (1, .int (nI a0))] [] S v Sf := by
  refine Bod.go dc_418_0 rfl ?_
  refine Bod.go dc_418_1 rfl ?_
  refine Bod.get dc_418_2 fr_418_38 (mk_thing ag (by first | exact hz1 | (simp only [rIS, rJS, rAS, rLS, rVS, rQS, rS_hold]; exact hz1))) rfl ?_
  refine Bod.eqI (nI fd1) (by first | assumption | rfl | exact congrArg nI (by omega) | (simp (disch := omega) only [rI, rIe, rA, rIA, rLA, rJA, rVI, rQI, rVA, rQA, upd_at,  rAI, rLI, rJI, nI_add, pk_sub, kc_0, kc_1, kc_2, kc_3, kc_4, kc_5, reduceIte, Nat.reduceEqDiff, Nat.add_zero, rI_hold, rI_hold, rL_hold, hfd1]; done)) ?_
  refine Bod.ic 1 (by decide) dc_418_5 ?_
  refine Bod.subN (fd1 - 1) (by omega) (by omega) dc_418_6 ?_
  refine Bod.put dc_418_7 fr_418_38 (mk_thing ag (by first | exact hz1 | (simp only [rIS, rJS, rAS, rLS, rVS, rQS, rS_hold]; exact hz1))) (Nat.le_of_ble_eq_true rfl) pf_13_1 (st_thing_1 ag (by first | exact hz1 | (simp only [rIS, rJS, rAS, rLS, rVS, rQS, rS_hold]; exact hz1))) (mu_I _ _ _) ?_
  refine Bod.go dc_418_10 rfl ?_
  refine Bod.istn dc_418_11 (by rw [ml_418]; exact Nat.le_of_ble_eq_true rfl) ?_
  exact hB _ (by first | rfl | exact (by repeat (first | exact rfl | exact sm_get_p1 | exact sm_get_p2e | refine sm_get_p1m (by decide) (by decide) ?_ | refine sm_get_p1n (by decide) rfl ?_ | refine sm_get_p2n (by decide) (by decide) rfl ?_ | refine sm_get_p2m (by decide) (by decide) (by decide) ?_))) (by first | rfl | exact (by repeat (first | exact rfl | exact sm_get_p1 | exact sm_get_p2e | refine sm_get_p1m (by decide) (by decide) ?_ | refine sm_get_p1n (by decide) rfl ?_ | refine sm_get_p2n (by decide) (by decide) rfl ?_ | refine sm_get_p2m (by decide) (by decide) (by decide) ?_)))
theorem rReL_1 {d : Nat} {S : cS} {lv : sm_L} {g : Nat} {zg : Nat} {ni : Nat} {fd1 : Nat} (q0 : sm_get lv 0 = some (.ref g)) (q2 : sm_get lv 2 = some (.int (nI ni))) (mni : ni < 2 ^ 20) (ag : 108 ≤ g) (hz1 : (sS S)[g - 108]? = some (13, zg)) (hfd1 : sI S (100 * g + 1) = nI fd1) (mfd1 : fd1 < 2 ^ 20) (b1 : fd1 ≤ ni) : Bod (d + 8) 418 12 lv [] S none (S) := by
  refine Bod.ildnG dc_418_12 (by repeat (first | exact q2 | exact sm_get_p1 | exact sm_get_p2e | refine sm_get_p1m (by decide) (by decide) ?_ | refine sm_get_p1n (by decide) rfl ?_ | refine sm_get_p2n (by decide) (by decide) rfl ?_ | refine sm_get_p2m (by decide) (by decide) (by decide) ?_)) ?_
  refine Bod.aldnG dc_418_13 (by repeat (first | exact q0 | exact sm_get_p1 | exact sm_get_p2e | refine sm_get_p1m (by decide) (by decide) ?_ | refine sm_get_p1n (by decide) rfl ?_ | refine sm_get_p2n (by decide) (by decide) rfl ?_ | refine sm_get_p2m (by decide) (by decide) (by decide) ?_)) ?_
  refine Bod.get dc_418_14 fr_418_38 (mk_thing ag (by first | exact hz1 | (simp only [rIS, rJS, rAS, rLS, rVS, rQS, rS_hold]; exact hz1))) rfl ?_
  refine Bod.eqI (nI fd1) (by first | assumption | rfl | exact congrArg nI (by omega) | (simp (disch := omega) only [rI, rIe, rA, rIA, rLA, rJA, rVI, rQI, rVA, rQA, upd_at,  rAI, rLI, rJI, nI_add, pk_sub, kc_0, kc_1, kc_2, kc_3, kc_4, kc_5, reduceIte, Nat.reduceEqDiff, Nat.add_zero, rI_hold, rI_hold, rL_hold, hfd1]; done)) ?_
  refine Bod.icT dc_418_17 rfl (k2_ge_T ni fd1 rfl rfl (by omega) (by omega)) ?_
  exact Bod.retV dc_418_95 rt_418
theorem rReL_2 {d : Nat} {S Sf : cS} {v : Option Value} {lv : sm_L} {g : Nat} {zg : Nat} {ni : Nat} {fd1 : Nat} {r : Nat} {N : Nat} {e : Nat} {r1 : Nat} {N1 : Nat} {r2 : Nat} {N2 : Nat} {S1 : cS} {r3 : Nat} {N3 : Nat} (q0 : sm_get lv 0 = some (.ref g)) (q2 : sm_get lv 2 = some (.int (nI ni))) (mni : ni < 2 ^ 20) (ag : 108 ≤ g) (hz1 : (sS S)[g - 108]? = some (13, zg)) (hfd1 : sI S (100 * g + 1) = nI fd1) (mfd1 : fd1 < 2 ^ 20) (b1 : ni < fd1) (hv1 : sV S (100 * g + 2) = .ref r) (hg1 : isK S r 0 N) (mN : N < 2 ^ 20) (b2 : (ni + 1) < N) (he : sA S r (ni + 1) = nI e) (me : e < 2 ^ 20) (hv2 : sV S (100 * g + 4) = .ref r1) (hg2 : isK S r1 1 N1) (mN1 : N1 < 2 ^ 20) (b3 : (ni + 1) < N1) (hv3 : sV S (100 * g + 5) = .ref r2) (hg3 : isK S r2 1 N2) (mN2 : N2 < 2 ^ 20) (b4 : (ni + 1) < N2) (c1 : Ans (d + 8) 358 [.ref g, .int (nI ni), .int (nI e), .long (sL S r1 (ni + 1)), .long (sL S r2 (ni + 1))] S none S1) (hz2 : (sS S1)[g - 108]? = some (13, zg)) (hv4 : sV S1 (100 * g + 3) = .ref r3) (hg4 : isK S1 r3 0 N3) (mN3 : N3 < 2 ^ 20) (b5 : N3 ≤ (ni + 1)) (hB : ∀ lv1 : sm_L, sm_get lv1 0 = some (.ref g) → sm_get lv1 2 = some (.int (nI (ni + 1))) → Bod (d + 8) 418 12 lv1 [] (S1) v Sf) : Bod (d + 8) 418 12 lv [] S v Sf := by
  refine Bod.ildnG dc_418_12 (by repeat (first | exact q2 | exact sm_get_p1 | exact sm_get_p2e | refine sm_get_p1m (by decide) (by decide) ?_ | refine sm_get_p1n (by decide) rfl ?_ | refine sm_get_p2n (by decide) (by decide) rfl ?_ | refine sm_get_p2m (by decide) (by decide) (by decide) ?_)) ?_
  refine Bod.aldnG dc_418_13 (by repeat (first | exact q0 | exact sm_get_p1 | exact sm_get_p2e | refine sm_get_p1m (by decide) (by decide) ?_ | refine sm_get_p1n (by decide) rfl ?_ | refine sm_get_p2n (by decide) (by decide) rfl ?_ | refine sm_get_p2m (by decide) (by decide) (by decide) ?_)) ?_
  refine Bod.get dc_418_14 fr_418_38 (mk_thing ag (by first | exact hz1 | (simp only [rIS, rJS, rAS, rLS, rVS, rQS, rS_hold]; exact hz1))) rfl ?_
  refine Bod.eqI (nI fd1) (by first | assumption | rfl | exact congrArg nI (by omega) | (simp (disch := omega) only [rI, rIe, rA, rIA, rLA, rJA, rVI, rQI, rVA, rQA, upd_at,  rAI, rLI, rJI, nI_add, pk_sub, kc_0, kc_1, kc_2, kc_3, kc_4, kc_5, reduceIte, Nat.reduceEqDiff, Nat.add_zero, rI_hold, rI_hold, rL_hold, hfd1]; done)) ?_
  refine Bod.icF dc_418_17 rfl (k2_ge_F ni fd1 rfl rfl (by omega) (by omega)) ?_
  refine Bod.aldnG dc_418_20 (by repeat (first | exact q0 | exact sm_get_p1 | exact sm_get_p2e | refine sm_get_p1m (by decide) (by decide) ?_ | refine sm_get_p1n (by decide) rfl ?_ | refine sm_get_p2n (by decide) (by decide) rfl ?_ | refine sm_get_p2m (by decide) (by decide) (by decide) ?_)) ?_
  refine Bod.ildnG dc_418_21 (by repeat (first | exact q2 | exact sm_get_p1 | exact sm_get_p2e | refine sm_get_p1m (by decide) (by decide) ?_ | refine sm_get_p1n (by decide) rfl ?_ | refine sm_get_p2n (by decide) (by decide) rfl ?_ | refine sm_get_p2m (by decide) (by decide) (by decide) ?_)) ?_
  refine Bod.aldnG dc_418_22 (by repeat (first | exact q0 | exact sm_get_p1 | exact sm_get_p2e | refine sm_get_p1m (by decide) (by decide) ?_ | refine sm_get_p1n (by decide) rfl ?_ | refine sm_get_p2n (by decide) (by decide) rfl ?_ | refine sm_get_p2m (by decide) (by decide) (by decide) ?_)) ?_
  refine Bod.get dc_418_23 fr_418_7 (mk_thing ag (by first | exact hz1 | (simp only [rIS, rJS, rAS, rLS, rVS, rQS, rS_hold]; exact hz1))) rfl ?_
  refine Bod.eqV (.ref r) (by first | exact hv1 | (simp only [rIV, rJV, rAV, rLV, rQV, rV, reduceIte, Nat.reduceEqDiff]; exact hv1)) ?_
  refine Bod.ildnG dc_418_26 (by repeat (first | exact q2 | exact sm_get_p1 | exact sm_get_p2e | refine sm_get_p1m (by decide) (by decide) ?_ | refine sm_get_p1n (by decide) rfl ?_ | refine sm_get_p2n (by decide) (by decide) rfl ?_ | refine sm_get_p2m (by decide) (by decide) (by decide) ?_)) ?_
  refine Bod.ic 1 (by decide) dc_418_27 ?_
  refine Bod.addN (ni + 1) (by omega) dc_418_28 ?_
  refine Bod.ialdN (N := N) (ni + 1) rfl (by omega) (by omega) dc_418_29 (mk_isI (by first | exact hg1 | exact isK_S (by simp only [rIS, rJS, rAS, rLS, rVS, rQS, rS_hold]) hg1)) ?_
  refine Bod.eqI (nI e) (by first | assumption | rfl | exact congrArg nI (by omega) | (simp (disch := omega) only [rI, rIe, rA, rIA, rLA, rJA, rVI, rQI, rVA, rQA, upd_at,  rAI, rLI, rJI, nI_add, pk_sub, kc_0, kc_1, kc_2, kc_3, kc_4, kc_5, reduceIte, Nat.reduceEqDiff, Nat.add_zero, rI_hold, rI_hold, rL_hold, hfd1, he]; done)) ?_
  refine Bod.aldnG dc_418_30 (by repeat (first | exact q0 | exact sm_get_p1 | exact sm_get_p2e | refine sm_get_p1m (by decide) (by decide) ?_ | refine sm_get_p1n (by decide) rfl ?_ | refine sm_get_p2n (by decide) (by decide) rfl ?_ | refine sm_get_p2m (by decide) (by decide) (by decide) ?_)) ?_
  refine Bod.get dc_418_31 fr_418_16 (mk_thing ag (by first | exact hz1 | (simp only [rIS, rJS, rAS, rLS, rVS, rQS, rS_hold]; exact hz1))) rfl ?_
  refine Bod.eqV (.ref r1) (by first | exact hv2 | (simp only [rIV, rJV, rAV, rLV, rQV, rV, reduceIte, Nat.reduceEqDiff]; exact hv2)) ?_
  refine Bod.ildnG dc_418_34 (by repeat (first | exact q2 | exact sm_get_p1 | exact sm_get_p2e | refine sm_get_p1m (by decide) (by decide) ?_ | refine sm_get_p1n (by decide) rfl ?_ | refine sm_get_p2n (by decide) (by decide) rfl ?_ | refine sm_get_p2m (by decide) (by decide) (by decide) ?_)) ?_
  refine Bod.ic 1 (by decide) dc_418_35 ?_
  refine Bod.addN (ni + 1) (by omega) dc_418_36 ?_
  refine Bod.laldN (N := N1) (ni + 1) rfl (by omega) (by omega) dc_418_37 (mk_isL (by first | exact hg2 | exact isK_S (by simp only [rIS, rJS, rAS, rLS, rVS, rQS, rS_hold]) hg2)) ?_
  refine Bod.aldnG dc_418_38 (by repeat (first | exact q0 | exact sm_get_p1 | exact sm_get_p2e | refine sm_get_p1m (by decide) (by decide) ?_ | refine sm_get_p1n (by decide) rfl ?_ | refine sm_get_p2n (by decide) (by decide) rfl ?_ | refine sm_get_p2m (by decide) (by decide) (by decide) ?_)) ?_
  refine Bod.get dc_418_39 fr_418_20 (mk_thing ag (by first | exact hz1 | (simp only [rIS, rJS, rAS, rLS, rVS, rQS, rS_hold]; exact hz1))) rfl ?_
  refine Bod.eqV (.ref r2) (by first | exact hv3 | (simp only [rIV, rJV, rAV, rLV, rQV, rV, reduceIte, Nat.reduceEqDiff]; exact hv3)) ?_
  refine Bod.ildnG dc_418_42 (by repeat (first | exact q2 | exact sm_get_p1 | exact sm_get_p2e | refine sm_get_p1m (by decide) (by decide) ?_ | refine sm_get_p1n (by decide) rfl ?_ | refine sm_get_p2n (by decide) (by decide) rfl ?_ | refine sm_get_p2m (by decide) (by decide) (by decide) ?_)) ?_
  refine Bod.ic 1 (by decide) dc_418_43 ?_
  refine Bod.addN (ni + 1) (by omega) dc_418_44 ?_
  refine Bod.laldN (N := N2) (ni + 1) rfl (by omega) (by omega) dc_418_45 (mk_isL (by first | exact hg3 | exact isK_S (by simp only [rIS, rJS, rAS, rLS, rVS, rQS, rS_hold]) hg3)) ?_
  refine Bod.virt (r := []) dc_418_46 kr_418_46 ⟨Or.inl rfl, ow_358, cl_13⟩ (by rw [np_358]; rfl) (by rw [np_358]; rfl) (ob_of (mk_thing ag (by first | exact hz1 | (simp only [rIS, rJS, rAS, rLS, rVS, rQS, rS_hold]; exact hz1)))) (Nat.le_of_ble_eq_true rfl) (c1  ) ?_
  show Bod _ _ _ _ [] _ _ _
  refine Bod.ildnG dc_418_49 (by repeat (first | exact q2 | exact sm_get_p1 | exact sm_get_p2e | refine sm_get_p1m (by decide) (by decide) ?_ | refine sm_get_p1n (by decide) rfl ?_ | refine sm_get_p2n (by decide) (by decide) rfl ?_ | refine sm_get_p2m (by decide) (by decide) (by decide) ?_)) ?_
  refine Bod.ic 1 (by decide) dc_418_50 ?_
  refine Bod.addN (ni + 1) (by omega) dc_418_51 ?_
  refine Bod.aldnG dc_418_52 (by repeat (first | exact q0 | exact sm_get_p1 | exact sm_get_p2e | refine sm_get_p1m (by decide) (by decide) ?_ | refine sm_get_p1n (by decide) rfl ?_ | refine sm_get_p2n (by decide) (by decide) rfl ?_ | refine sm_get_p2m (by decide) (by decide) (by decide) ?_)) ?_
  refine Bod.get dc_418_53 fr_418_13 (mk_thing ag (by first | exact hz2 | (simp only [rIS, rJS, rAS, rLS, rVS, rQS, rS_hold]; exact hz2))) rfl ?_
  refine Bod.eqV (.ref r3) (by first | exact hv4 | (simp only [rIV, rJV, rAV, rLV, rQV, rV, reduceIte, Nat.reduceEqDiff]; exact hv4)) ?_
  refine Bod.alenN (N := N3) dc_418_56 (mk_isI (by first | exact hg4 | exact isK_S (by simp only [rIS, rJS, rAS, rLS, rVS, rQS, rS_hold]) hg4)) el_0 ?_
  refine Bod.icT dc_418_57 rfl (k2_ge_T (ni + 1) N3 rfl rfl (by omega) (by omega)) ?_
  refine Bod.incN (ni + 1) (by rw [kc_1, nI_add]) dc_418_89 (by rw [ml_418]; exact Nat.le_of_ble_eq_true rfl) (by repeat (first | exact q2 | exact sm_get_p1 | exact sm_get_p2e | refine sm_get_p1m (by decide) (by decide) ?_ | refine sm_get_p1n (by decide) rfl ?_ | refine sm_get_p2n (by decide) (by decide) rfl ?_ | refine sm_get_p2m (by decide) (by decide) (by decide) ?_)) ?_
  refine Bod.go dc_418_92 rfl ?_
  exact hB _ (by repeat (first | exact q0 | exact sm_get_p1 | exact sm_get_p2e | refine sm_get_p1m (by decide) (by decide) ?_ | refine sm_get_p1n (by decide) rfl ?_ | refine sm_get_p2n (by decide) (by decide) rfl ?_ | refine sm_get_p2m (by decide) (by decide) (by decide) ?_)) (by repeat (first | exact q0 | exact sm_get_p1 | exact sm_get_p2e | refine sm_get_p1m (by decide) (by decide) ?_ | refine sm_get_p1n (by decide) rfl ?_ | refine sm_get_p2n (by decide) (by decide) rfl ?_ | refine sm_get_p2m (by decide) (by decide) (by decide) ?_))
theorem rReL_3 {d : Nat} {S Sf : cS} {v : Option Value} {lv : sm_L} {g : Nat} {zg : Nat} {ni : Nat} {fd1 : Nat} {r : Nat} {N : Nat} {e : Nat} {r1 : Nat} {N1 : Nat} {r2 : Nat} {N2 : Nat} {S1 : cS} {r3 : Nat} {N3 : Nat} {e1 : Nat} {r4 : Nat} {N4 : Nat} {r5 : Nat} {N5 : Nat} {S2 : cS} (q0 : sm_get lv 0 = some (.ref g)) (q2 : sm_get lv 2 = some (.int (nI ni))) (mni : ni < 2 ^ 20) (ag : 108 ≤ g) (hz1 : (sS S)[g - 108]? = some (13, zg)) (hfd1 : sI S (100 * g + 1) = nI fd1) (mfd1 : fd1 < 2 ^ 20) (b1 : ni < fd1) (hv1 : sV S (100 * g + 2) = .ref r) (hg1 : isK S r 0 N) (mN : N < 2 ^ 20) (b2 : (ni + 1) < N) (he : sA S r (ni + 1) = nI e) (me : e < 2 ^ 20) (hv2 : sV S (100 * g + 4) = .ref r1) (hg2 : isK S r1 1 N1) (mN1 : N1 < 2 ^ 20) (b3 : (ni + 1) < N1) (hv3 : sV S (100 * g + 5) = .ref r2) (hg3 : isK S r2 1 N2) (mN2 : N2 < 2 ^ 20) (b4 : (ni + 1) < N2) (c1 : Ans (d + 8) 358 [.ref g, .int (nI ni), .int (nI e), .long (sL S r1 (ni + 1)), .long (sL S r2 (ni + 1))] S none S1) (hz2 : (sS S1)[g - 108]? = some (13, zg)) (hv4 : sV S1 (100 * g + 3) = .ref r3) (hg4 : isK S1 r3 0 N3) (mN3 : N3 < 2 ^ 20) (b5 : (ni + 1) < N3) (he1 : sA S1 r3 (ni + 1) = nI e1) (me1 : e1 < 2 ^ 20) (hv5 : sV S1 (100 * g + 6) = .ref r4) (hg5 : isK S1 r4 1 N4) (mN4 : N4 < 2 ^ 20) (b6 : (ni + 1) < N4) (hv6 : sV S1 (100 * g + 7) = .ref r5) (hg6 : isK S1 r5 1 N5) (mN5 : N5 < 2 ^ 20) (b7 : (ni + 1) < N5) (c2 : Ans (d + 8) 377 [.ref g, .int (nI ni), .int (nI e1), .long (sL S1 r4 (ni + 1)), .long (sL S1 r5 (ni + 1))] S1 none S2) (hB : ∀ lv1 : sm_L, sm_get lv1 0 = some (.ref g) → sm_get lv1 2 = some (.int (nI (ni + 1))) → Bod (d + 8) 418 12 lv1 [] (S2) v Sf) : Bod (d + 8) 418 12 lv [] S v Sf := by
  refine Bod.ildnG dc_418_12 (by repeat (first | exact q2 | exact sm_get_p1 | exact sm_get_p2e | refine sm_get_p1m (by decide) (by decide) ?_ | refine sm_get_p1n (by decide) rfl ?_ | refine sm_get_p2n (by decide) (by decide) rfl ?_ | refine sm_get_p2m (by decide) (by decide) (by decide) ?_)) ?_
  refine Bod.aldnG dc_418_13 (by repeat (first | exact q0 | exact sm_get_p1 | exact sm_get_p2e | refine sm_get_p1m (by decide) (by decide) ?_ | refine sm_get_p1n (by decide) rfl ?_ | refine sm_get_p2n (by decide) (by decide) rfl ?_ | refine sm_get_p2m (by decide) (by decide) (by decide) ?_)) ?_
  refine Bod.get dc_418_14 fr_418_38 (mk_thing ag (by first | exact hz1 | (simp only [rIS, rJS, rAS, rLS, rVS, rQS, rS_hold]; exact hz1))) rfl ?_
  refine Bod.eqI (nI fd1) (by first | assumption | rfl | exact congrArg nI (by omega) | (simp (disch := omega) only [rI, rIe, rA, rIA, rLA, rJA, rVI, rQI, rVA, rQA, upd_at,  rAI, rLI, rJI, nI_add, pk_sub, kc_0, kc_1, kc_2, kc_3, kc_4, kc_5, reduceIte, Nat.reduceEqDiff, Nat.add_zero, rI_hold, rI_hold, rL_hold, hfd1]; done)) ?_
  refine Bod.icF dc_418_17 rfl (k2_ge_F ni fd1 rfl rfl (by omega) (by omega)) ?_
  refine Bod.aldnG dc_418_20 (by repeat (first | exact q0 | exact sm_get_p1 | exact sm_get_p2e | refine sm_get_p1m (by decide) (by decide) ?_ | refine sm_get_p1n (by decide) rfl ?_ | refine sm_get_p2n (by decide) (by decide) rfl ?_ | refine sm_get_p2m (by decide) (by decide) (by decide) ?_)) ?_
  refine Bod.ildnG dc_418_21 (by repeat (first | exact q2 | exact sm_get_p1 | exact sm_get_p2e | refine sm_get_p1m (by decide) (by decide) ?_ | refine sm_get_p1n (by decide) rfl ?_ | refine sm_get_p2n (by decide) (by decide) rfl ?_ | refine sm_get_p2m (by decide) (by decide) (by decide) ?_)) ?_
  refine Bod.aldnG dc_418_22 (by repeat (first | exact q0 | exact sm_get_p1 | exact sm_get_p2e | refine sm_get_p1m (by decide) (by decide) ?_ | refine sm_get_p1n (by decide) rfl ?_ | refine sm_get_p2n (by decide) (by decide) rfl ?_ | refine sm_get_p2m (by decide) (by decide) (by decide) ?_)) ?_
  refine Bod.get dc_418_23 fr_418_7 (mk_thing ag (by first | exact hz1 | (simp only [rIS, rJS, rAS, rLS, rVS, rQS, rS_hold]; exact hz1))) rfl ?_
  refine Bod.eqV (.ref r) (by first | exact hv1 | (simp only [rIV, rJV, rAV, rLV, rQV, rV, reduceIte, Nat.reduceEqDiff]; exact hv1)) ?_
  refine Bod.ildnG dc_418_26 (by repeat (first | exact q2 | exact sm_get_p1 | exact sm_get_p2e | refine sm_get_p1m (by decide) (by decide) ?_ | refine sm_get_p1n (by decide) rfl ?_ | refine sm_get_p2n (by decide) (by decide) rfl ?_ | refine sm_get_p2m (by decide) (by decide) (by decide) ?_)) ?_
  refine Bod.ic 1 (by decide) dc_418_27 ?_
  refine Bod.addN (ni + 1) (by omega) dc_418_28 ?_
  refine Bod.ialdN (N := N) (ni + 1) rfl (by omega) (by omega) dc_418_29 (mk_isI (by first | exact hg1 | exact isK_S (by simp only [rIS, rJS, rAS, rLS, rVS, rQS, rS_hold]) hg1)) ?_
  refine Bod.eqI (nI e) (by first | assumption | rfl | exact congrArg nI (by omega) | (simp (disch := omega) only [rI, rIe, rA, rIA, rLA, rJA, rVI, rQI, rVA, rQA, upd_at,  rAI, rLI, rJI, nI_add, pk_sub, kc_0, kc_1, kc_2, kc_3, kc_4, kc_5, reduceIte, Nat.reduceEqDiff, Nat.add_zero, rI_hold, rI_hold, rL_hold, hfd1, he]; done)) ?_
  refine Bod.aldnG dc_418_30 (by repeat (first | exact q0 | exact sm_get_p1 | exact sm_get_p2e | refine sm_get_p1m (by decide) (by decide) ?_ | refine sm_get_p1n (by decide) rfl ?_ | refine sm_get_p2n (by decide) (by decide) rfl ?_ | refine sm_get_p2m (by decide) (by decide) (by decide) ?_)) ?_
  refine Bod.get dc_418_31 fr_418_16 (mk_thing ag (by first | exact hz1 | (simp only [rIS, rJS, rAS, rLS, rVS, rQS, rS_hold]; exact hz1))) rfl ?_
  refine Bod.eqV (.ref r1) (by first | exact hv2 | (simp only [rIV, rJV, rAV, rLV, rQV, rV, reduceIte, Nat.reduceEqDiff]; exact hv2)) ?_
  refine Bod.ildnG dc_418_34 (by repeat (first | exact q2 | exact sm_get_p1 | exact sm_get_p2e | refine sm_get_p1m (by decide) (by decide) ?_ | refine sm_get_p1n (by decide) rfl ?_ | refine sm_get_p2n (by decide) (by decide) rfl ?_ | refine sm_get_p2m (by decide) (by decide) (by decide) ?_)) ?_
  refine Bod.ic 1 (by decide) dc_418_35 ?_
  refine Bod.addN (ni + 1) (by omega) dc_418_36 ?_
  refine Bod.laldN (N := N1) (ni + 1) rfl (by omega) (by omega) dc_418_37 (mk_isL (by first | exact hg2 | exact isK_S (by simp only [rIS, rJS, rAS, rLS, rVS, rQS, rS_hold]) hg2)) ?_
  refine Bod.aldnG dc_418_38 (by repeat (first | exact q0 | exact sm_get_p1 | exact sm_get_p2e | refine sm_get_p1m (by decide) (by decide) ?_ | refine sm_get_p1n (by decide) rfl ?_ | refine sm_get_p2n (by decide) (by decide) rfl ?_ | refine sm_get_p2m (by decide) (by decide) (by decide) ?_)) ?_
  refine Bod.get dc_418_39 fr_418_20 (mk_thing ag (by first | exact hz1 | (simp only [rIS, rJS, rAS, rLS, rVS, rQS, rS_hold]; exact hz1))) rfl ?_
  refine Bod.eqV (.ref r2) (by first | exact hv3 | (simp only [rIV, rJV, rAV, rLV, rQV, rV, reduceIte, Nat.reduceEqDiff]; exact hv3)) ?_
  refine Bod.ildnG dc_418_42 (by repeat (first | exact q2 | exact sm_get_p1 | exact sm_get_p2e | refine sm_get_p1m (by decide) (by decide) ?_ | refine sm_get_p1n (by decide) rfl ?_ | refine sm_get_p2n (by decide) (by decide) rfl ?_ | refine sm_get_p2m (by decide) (by decide) (by decide) ?_)) ?_
  refine Bod.ic 1 (by decide) dc_418_43 ?_
  refine Bod.addN (ni + 1) (by omega) dc_418_44 ?_
  refine Bod.laldN (N := N2) (ni + 1) rfl (by omega) (by omega) dc_418_45 (mk_isL (by first | exact hg3 | exact isK_S (by simp only [rIS, rJS, rAS, rLS, rVS, rQS, rS_hold]) hg3)) ?_
  refine Bod.virt (r := []) dc_418_46 kr_418_46 ⟨Or.inl rfl, ow_358, cl_13⟩ (by rw [np_358]; rfl) (by rw [np_358]; rfl) (ob_of (mk_thing ag (by first | exact hz1 | (simp only [rIS, rJS, rAS, rLS, rVS, rQS, rS_hold]; exact hz1)))) (Nat.le_of_ble_eq_true rfl) (c1  ) ?_
  show Bod _ _ _ _ [] _ _ _
  refine Bod.ildnG dc_418_49 (by repeat (first | exact q2 | exact sm_get_p1 | exact sm_get_p2e | refine sm_get_p1m (by decide) (by decide) ?_ | refine sm_get_p1n (by decide) rfl ?_ | refine sm_get_p2n (by decide) (by decide) rfl ?_ | refine sm_get_p2m (by decide) (by decide) (by decide) ?_)) ?_
  refine Bod.ic 1 (by decide) dc_418_50 ?_
  refine Bod.addN (ni + 1) (by omega) dc_418_51 ?_
  refine Bod.aldnG dc_418_52 (by repeat (first | exact q0 | exact sm_get_p1 | exact sm_get_p2e | refine sm_get_p1m (by decide) (by decide) ?_ | refine sm_get_p1n (by decide) rfl ?_ | refine sm_get_p2n (by decide) (by decide) rfl ?_ | refine sm_get_p2m (by decide) (by decide) (by decide) ?_)) ?_
  refine Bod.get dc_418_53 fr_418_13 (mk_thing ag (by first | exact hz2 | (simp only [rIS, rJS, rAS, rLS, rVS, rQS, rS_hold]; exact hz2))) rfl ?_
  refine Bod.eqV (.ref r3) (by first | exact hv4 | (simp only [rIV, rJV, rAV, rLV, rQV, rV, reduceIte, Nat.reduceEqDiff]; exact hv4)) ?_
  refine Bod.alenN (N := N3) dc_418_56 (mk_isI (by first | exact hg4 | exact isK_S (by simp only [rIS, rJS, rAS, rLS, rVS, rQS, rS_hold]) hg4)) el_0 ?_
  refine Bod.icF dc_418_57 rfl (k2_ge_F (ni + 1) N3 rfl rfl (by omega) (by omega)) ?_
  refine Bod.aldnG dc_418_60 (by repeat (first | exact q0 | exact sm_get_p1 | exact sm_get_p2e | refine sm_get_p1m (by decide) (by decide) ?_ | refine sm_get_p1n (by decide) rfl ?_ | refine sm_get_p2n (by decide) (by decide) rfl ?_ | refine sm_get_p2m (by decide) (by decide) (by decide) ?_)) ?_
  refine Bod.ildnG dc_418_61 (by repeat (first | exact q2 | exact sm_get_p1 | exact sm_get_p2e | refine sm_get_p1m (by decide) (by decide) ?_ | refine sm_get_p1n (by decide) rfl ?_ | refine sm_get_p2n (by decide) (by decide) rfl ?_ | refine sm_get_p2m (by decide) (by decide) (by decide) ?_)) ?_
  refine Bod.aldnG dc_418_62 (by repeat (first | exact q0 | exact sm_get_p1 | exact sm_get_p2e | refine sm_get_p1m (by decide) (by decide) ?_ | refine sm_get_p1n (by decide) rfl ?_ | refine sm_get_p2n (by decide) (by decide) rfl ?_ | refine sm_get_p2m (by decide) (by decide) (by decide) ?_)) ?_
  refine Bod.get dc_418_63 fr_418_13 (mk_thing ag (by first | exact hz2 | (simp only [rIS, rJS, rAS, rLS, rVS, rQS, rS_hold]; exact hz2))) rfl ?_
  refine Bod.eqV (.ref r3) (by first | exact hv4 | (simp only [rIV, rJV, rAV, rLV, rQV, rV, reduceIte, Nat.reduceEqDiff]; exact hv4)) ?_
  refine Bod.ildnG dc_418_66 (by repeat (first | exact q2 | exact sm_get_p1 | exact sm_get_p2e | refine sm_get_p1m (by decide) (by decide) ?_ | refine sm_get_p1n (by decide) rfl ?_ | refine sm_get_p2n (by decide) (by decide) rfl ?_ | refine sm_get_p2m (by decide) (by decide) (by decide) ?_)) ?_
  refine Bod.ic 1 (by decide) dc_418_67 ?_
  refine Bod.addN (ni + 1) (by omega) dc_418_68 ?_
  refine Bod.ialdN (N := N3) (ni + 1) rfl (by omega) (by omega) dc_418_69 (mk_isI (by first | exact hg4 | exact isK_S (by simp only [rIS, rJS, rAS, rLS, rVS, rQS, rS_hold]) hg4)) ?_
  refine Bod.eqI (nI e1) (by first | assumption | (simp (disch := omega) only [rI, rIe, rA, rIA, rLA, rJA, rVI, rQI, rVA, rQA, upd_at,  rAI, rLI, rJI, nI_add, pk_sub, kc_0, kc_1, kc_2, kc_3, kc_4, kc_5, reduceIte, Nat.reduceEqDiff, Nat.add_zero, rI_hold, rI_hold, rL_hold, hfd1, he, he1]; done) | (simp (disch := omega) only [rI, rIe, rA, rIA, rLA, rJA, rVI, rQI, rVA, rQA, upd_at,  rAI, rLI, rJI, nI_add, pk_sub, kc_0, kc_1, kc_2, kc_3, kc_4, kc_5, reduceIte, Nat.reduceEqDiff, Nat.add_zero, rI_hold, rI_hold, rL_hold, hfd1, he, he1]; exact congrArg nI (by omega))) ?_
  refine Bod.aldnG dc_418_70 (by repeat (first | exact q0 | exact sm_get_p1 | exact sm_get_p2e | refine sm_get_p1m (by decide) (by decide) ?_ | refine sm_get_p1n (by decide) rfl ?_ | refine sm_get_p2n (by decide) (by decide) rfl ?_ | refine sm_get_p2m (by decide) (by decide) (by decide) ?_)) ?_
  refine Bod.get dc_418_71 fr_418_23 (mk_thing ag (by first | exact hz2 | (simp only [rIS, rJS, rAS, rLS, rVS, rQS, rS_hold]; exact hz2))) rfl ?_
  refine Bod.eqV (.ref r4) (by first | exact hv5 | (simp only [rIV, rJV, rAV, rLV, rQV, rV, reduceIte, Nat.reduceEqDiff]; exact hv5)) ?_
  refine Bod.ildnG dc_418_74 (by repeat (first | exact q2 | exact sm_get_p1 | exact sm_get_p2e | refine sm_get_p1m (by decide) (by decide) ?_ | refine sm_get_p1n (by decide) rfl ?_ | refine sm_get_p2n (by decide) (by decide) rfl ?_ | refine sm_get_p2m (by decide) (by decide) (by decide) ?_)) ?_
  refine Bod.ic 1 (by decide) dc_418_75 ?_
  refine Bod.addN (ni + 1) (by omega) dc_418_76 ?_
  refine Bod.laldN (N := N4) (ni + 1) rfl (by omega) (by omega) dc_418_77 (mk_isL (by first | exact hg5 | exact isK_S (by simp only [rIS, rJS, rAS, rLS, rVS, rQS, rS_hold]) hg5)) ?_
  refine Bod.aldnG dc_418_78 (by repeat (first | exact q0 | exact sm_get_p1 | exact sm_get_p2e | refine sm_get_p1m (by decide) (by decide) ?_ | refine sm_get_p1n (by decide) rfl ?_ | refine sm_get_p2n (by decide) (by decide) rfl ?_ | refine sm_get_p2m (by decide) (by decide) (by decide) ?_)) ?_
  refine Bod.get dc_418_79 fr_418_26 (mk_thing ag (by first | exact hz2 | (simp only [rIS, rJS, rAS, rLS, rVS, rQS, rS_hold]; exact hz2))) rfl ?_
  refine Bod.eqV (.ref r5) (by first | exact hv6 | (simp only [rIV, rJV, rAV, rLV, rQV, rV, reduceIte, Nat.reduceEqDiff]; exact hv6)) ?_
  refine Bod.ildnG dc_418_82 (by repeat (first | exact q2 | exact sm_get_p1 | exact sm_get_p2e | refine sm_get_p1m (by decide) (by decide) ?_ | refine sm_get_p1n (by decide) rfl ?_ | refine sm_get_p2n (by decide) (by decide) rfl ?_ | refine sm_get_p2m (by decide) (by decide) (by decide) ?_)) ?_
  refine Bod.ic 1 (by decide) dc_418_83 ?_
  refine Bod.addN (ni + 1) (by omega) dc_418_84 ?_
  refine Bod.laldN (N := N5) (ni + 1) rfl (by omega) (by omega) dc_418_85 (mk_isL (by first | exact hg6 | exact isK_S (by simp only [rIS, rJS, rAS, rLS, rVS, rQS, rS_hold]) hg6)) ?_
  refine Bod.virt (r := []) dc_418_86 kr_418_53 ⟨Or.inl rfl, ow_377, cl_13⟩ (by rw [np_377]; rfl) (by rw [np_377]; rfl) (ob_of (mk_thing ag (by first | exact hz2 | (simp only [rIS, rJS, rAS, rLS, rVS, rQS, rS_hold]; exact hz2)))) (Nat.le_of_ble_eq_true rfl) (c2  ) ?_
  show Bod _ _ _ _ [] _ _ _
  refine Bod.incN (ni + 1) (by rw [kc_1, nI_add]) dc_418_89 (by rw [ml_418]; exact Nat.le_of_ble_eq_true rfl) (by repeat (first | exact q2 | exact sm_get_p1 | exact sm_get_p2e | refine sm_get_p1m (by decide) (by decide) ?_ | refine sm_get_p1n (by decide) rfl ?_ | refine sm_get_p2n (by decide) (by decide) rfl ?_ | refine sm_get_p2m (by decide) (by decide) (by decide) ?_)) ?_
  refine Bod.go dc_418_92 rfl ?_
  exact hB _ (by repeat (first | exact q0 | exact sm_get_p1 | exact sm_get_p2e | refine sm_get_p1m (by decide) (by decide) ?_ | refine sm_get_p1n (by decide) rfl ?_ | refine sm_get_p2n (by decide) (by decide) rfl ?_ | refine sm_get_p2m (by decide) (by decide) (by decide) ?_)) (by repeat (first | exact q0 | exact sm_get_p1 | exact sm_get_p2e | refine sm_get_p1m (by decide) (by decide) ?_ | refine sm_get_p1n (by decide) rfl ?_ | refine sm_get_p2n (by decide) (by decide) rfl ?_ | refine sm_get_p2m (by decide) (by decide) (by decide) ?_))
theorem rCw_1 {d : Nat} {S Sf : cS} {v : Option Value} {c : Nat} {nm : Nat} (mc : c < 2 ^ 20) (mnm : nm < 2 ^ 20) (hB : ∀ lv1 : sm_L, sm_get lv1 0 = some (.ref 61) → sm_get lv1 2 = some (.int (nI nm)) → sm_get lv1 3 = some (.int (nI c)) → Bod (d + 8) 398 2 lv1 [] (S) v Sf) : Bod (d + 8) 398 0 [(0, .ref 61), (1, .int (nI c)), (2, .int (nI nm))] [] S v Sf := by
  refine Bod.go dc_398_0 rfl ?_
  refine Bod.istn dc_398_1 (by rw [ml_398]; exact Nat.le_of_ble_eq_true rfl) ?_
  exact hB _ (by first | rfl | exact (by repeat (first | exact rfl | exact sm_get_p1 | exact sm_get_p2e | refine sm_get_p1m (by decide) (by decide) ?_ | refine sm_get_p1n (by decide) rfl ?_ | refine sm_get_p2n (by decide) (by decide) rfl ?_ | refine sm_get_p2m (by decide) (by decide) (by decide) ?_))) (by first | rfl | exact (by repeat (first | exact rfl | exact sm_get_p1 | exact sm_get_p2e | refine sm_get_p1m (by decide) (by decide) ?_ | refine sm_get_p1n (by decide) rfl ?_ | refine sm_get_p2n (by decide) (by decide) rfl ?_ | refine sm_get_p2m (by decide) (by decide) (by decide) ?_))) (by first | rfl | exact (by repeat (first | exact rfl | exact sm_get_p1 | exact sm_get_p2e | refine sm_get_p1m (by decide) (by decide) ?_ | refine sm_get_p1n (by decide) rfl ?_ | refine sm_get_p2n (by decide) (by decide) rfl ?_ | refine sm_get_p2m (by decide) (by decide) (by decide) ?_)))
theorem rCwL_1 {d : Nat} {S : cS} {lv : sm_L} {nm : Nat} {c : Nat} {g : Nat} {zg : Nat} {S1 : cS} {a : Nat} (q0 : sm_get lv 0 = some (.ref 61)) (q2 : sm_get lv 2 = some (.int (nI nm))) (q3 : sm_get lv 3 = some (.int (nI c))) (mnm : nm < 2 ^ 20) (mc : c < 2 ^ 20) (b1 : c < 1500) (ag : 108 ≤ g) (hq2 : sQ S 86 c = some g) (ma : a < 2 ^ 20) (c1 : Ans (d + 8) 399 [.ref g, .int (nI 0), .long ((nI nm).toInt64), .long 0] S (some (.int (nI a))) S1) (hz1 : (sS S)[g - 108]? = some (13, zg)) : Bod (d + 8) 398 2 lv [] S (some (.int (nI c))) (S1) := by
  refine Bod.ildnG dc_398_2 (by repeat (first | exact q3 | exact sm_get_p1 | exact sm_get_p2e | refine sm_get_p1m (by decide) (by decide) ?_ | refine sm_get_p1n (by decide) rfl ?_ | refine sm_get_p2n (by decide) (by decide) rfl ?_ | refine sm_get_p2m (by decide) (by decide) (by decide) ?_)) ?_
  refine Bod.ifF dc_398_3 rfl (k1_lt_F c rfl (by omega)) ?_
  refine Bod.aldnG dc_398_6 (by repeat (first | exact q0 | exact sm_get_p1 | exact sm_get_p2e | refine sm_get_p1m (by decide) (by decide) ?_ | refine sm_get_p1n (by decide) rfl ?_ | refine sm_get_p2n (by decide) (by decide) rfl ?_ | refine sm_get_p2m (by decide) (by decide) (by decide) ?_)) ?_
  refine Bod.get dc_398_7 fr_398_485 (mk_61 _) rfl ?_
  refine Bod.ildnG dc_398_10 (by repeat (first | exact q3 | exact sm_get_p1 | exact sm_get_p2e | refine sm_get_p1m (by decide) (by decide) ?_ | refine sm_get_p1n (by decide) rfl ?_ | refine sm_get_p2n (by decide) (by decide) rfl ?_ | refine sm_get_p2m (by decide) (by decide) (by decide) ?_)) ?_
  refine Bod.aaldR (N := 1500) (b := g) c rfl (by omega) (by omega) (by first | exact hq2 | (simp only [rIQ, rJQ, rAQ, rLQ, rVQ, rQ_holdE]; exact hq2)) dc_398_11 (mk_86 _) ht_5 ?_
  refine Bod.ic 0 (by decide) dc_398_12 ?_
  refine Bod.ildnG dc_398_13 (by repeat (first | exact q2 | exact sm_get_p1 | exact sm_get_p2e | refine sm_get_p1m (by decide) (by decide) ?_ | refine sm_get_p1n (by decide) rfl ?_ | refine sm_get_p2n (by decide) (by decide) rfl ?_ | refine sm_get_p2m (by decide) (by decide) (by decide) ?_)) ?_
  refine Bod.go dc_398_14 rfl ?_
  refine Bod.go dc_398_15 rfl ?_
  refine Bod.virt (r := []) dc_398_16 kr_398_764 ⟨Or.inl rfl, ow_399, cl_13⟩ (by rw [np_399]; rfl) (by rw [np_399]; rfl) (ob_of (mk_thing ag (by first | exact hz1 | (simp only [rIS, rJS, rAS, rLS, rVS, rQS, rS_hold]; exact hz1)))) (Nat.le_of_ble_eq_true rfl) (c1  ) ?_
  show Bod _ _ _ _ [_] _ _ _
  refine Bod.ifT dc_398_19 rfl (k1_ge_T a rfl (by omega)) ?_
  refine Bod.ildnG dc_398_35 (by repeat (first | exact q3 | exact sm_get_p1 | exact sm_get_p2e | refine sm_get_p1m (by decide) (by decide) ?_ | refine sm_get_p1n (by decide) rfl ?_ | refine sm_get_p2n (by decide) (by decide) rfl ?_ | refine sm_get_p2m (by decide) (by decide) (by decide) ?_)) ?_
  exact Bod.retI dc_398_36 rt_398
theorem rCwL_2 {d : Nat} {S Sf : cS} {v : Option Value} {lv : sm_L} {nm : Nat} {c : Nat} {g : Nat} {zg : Nat} {S1 : cS} {g1 : Nat} {zg1 : Nat} {fd11 : Nat} (q0 : sm_get lv 0 = some (.ref 61)) (q2 : sm_get lv 2 = some (.int (nI nm))) (q3 : sm_get lv 3 = some (.int (nI c))) (mnm : nm < 2 ^ 20) (mc : c < 2 ^ 20) (b1 : c < 1500) (ag : 108 ≤ g) (hq2 : sQ S 86 c = some g) (c1 : Ans (d + 8) 399 [.ref g, .int (nI 0), .long ((nI nm).toInt64), .long 0] S (some (.int (Int32.ofInt (-1)))) S1) (hz1 : (sS S)[g - 108]? = some (13, zg)) (ag1 : 108 ≤ g1) (hq5 : sQ S1 86 c = some g1) (hz2 : (sS S1)[g1 - 108]? = some (13, zg1)) (hfd11 : sI S1 (100 * g1 + 11) = nI fd11) (mfd11 : fd11 < 2 ^ 20) (hB : ∀ lv1 : sm_L, sm_get lv1 0 = some (.ref 61) → sm_get lv1 2 = some (.int (nI nm)) → sm_get lv1 3 = some (.int (nI fd11)) → Bod (d + 8) 398 2 lv1 [] (S1) v Sf) : Bod (d + 8) 398 2 lv [] S v Sf := by
  refine Bod.ildnG dc_398_2 (by repeat (first | exact q3 | exact sm_get_p1 | exact sm_get_p2e | refine sm_get_p1m (by decide) (by decide) ?_ | refine sm_get_p1n (by decide) rfl ?_ | refine sm_get_p2n (by decide) (by decide) rfl ?_ | refine sm_get_p2m (by decide) (by decide) (by decide) ?_)) ?_
  refine Bod.ifF dc_398_3 rfl (k1_lt_F c rfl (by omega)) ?_
  refine Bod.aldnG dc_398_6 (by repeat (first | exact q0 | exact sm_get_p1 | exact sm_get_p2e | refine sm_get_p1m (by decide) (by decide) ?_ | refine sm_get_p1n (by decide) rfl ?_ | refine sm_get_p2n (by decide) (by decide) rfl ?_ | refine sm_get_p2m (by decide) (by decide) (by decide) ?_)) ?_
  refine Bod.get dc_398_7 fr_398_485 (mk_61 _) rfl ?_
  refine Bod.ildnG dc_398_10 (by repeat (first | exact q3 | exact sm_get_p1 | exact sm_get_p2e | refine sm_get_p1m (by decide) (by decide) ?_ | refine sm_get_p1n (by decide) rfl ?_ | refine sm_get_p2n (by decide) (by decide) rfl ?_ | refine sm_get_p2m (by decide) (by decide) (by decide) ?_)) ?_
  refine Bod.aaldR (N := 1500) (b := g) c rfl (by omega) (by omega) (by first | exact hq2 | (simp only [rIQ, rJQ, rAQ, rLQ, rVQ, rQ_holdE]; exact hq2)) dc_398_11 (mk_86 _) ht_5 ?_
  refine Bod.ic 0 (by decide) dc_398_12 ?_
  refine Bod.ildnG dc_398_13 (by repeat (first | exact q2 | exact sm_get_p1 | exact sm_get_p2e | refine sm_get_p1m (by decide) (by decide) ?_ | refine sm_get_p1n (by decide) rfl ?_ | refine sm_get_p2n (by decide) (by decide) rfl ?_ | refine sm_get_p2m (by decide) (by decide) (by decide) ?_)) ?_
  refine Bod.go dc_398_14 rfl ?_
  refine Bod.go dc_398_15 rfl ?_
  refine Bod.virt (r := []) dc_398_16 kr_398_764 ⟨Or.inl rfl, ow_399, cl_13⟩ (by rw [np_399]; rfl) (by rw [np_399]; rfl) (ob_of (mk_thing ag (by first | exact hz1 | (simp only [rIS, rJS, rAS, rLS, rVS, rQS, rS_hold]; exact hz1)))) (Nat.le_of_ble_eq_true rfl) (c1  ) ?_
  show Bod _ _ _ _ [_] _ _ _
  refine Bod.ifF dc_398_19 rfl (by decide) ?_
  refine Bod.aldnG dc_398_22 (by repeat (first | exact q0 | exact sm_get_p1 | exact sm_get_p2e | refine sm_get_p1m (by decide) (by decide) ?_ | refine sm_get_p1n (by decide) rfl ?_ | refine sm_get_p2n (by decide) (by decide) rfl ?_ | refine sm_get_p2m (by decide) (by decide) (by decide) ?_)) ?_
  refine Bod.get dc_398_23 fr_398_485 (mk_61 _) rfl ?_
  refine Bod.ildnG dc_398_26 (by repeat (first | exact q3 | exact sm_get_p1 | exact sm_get_p2e | refine sm_get_p1m (by decide) (by decide) ?_ | refine sm_get_p1n (by decide) rfl ?_ | refine sm_get_p2n (by decide) (by decide) rfl ?_ | refine sm_get_p2m (by decide) (by decide) (by decide) ?_)) ?_
  refine Bod.aaldR (N := 1500) (b := g1) c rfl (by omega) (by omega) (by first | exact hq5 | (simp only [rIQ, rJQ, rAQ, rLQ, rVQ, rQ_holdE]; exact hq5)) dc_398_27 (mk_86 _) ht_5 ?_
  refine Bod.get dc_398_28 fr_398_472 (mk_thing ag1 (by first | exact hz2 | (simp only [rIS, rJS, rAS, rLS, rVS, rQS, rS_hold]; exact hz2))) rfl ?_
  refine Bod.eqI (nI fd11) (by first | assumption | (simp (disch := omega) only [rI, rIe, rA, rIA, rLA, rJA, rVI, rQI, rVA, rQA, upd_at,  rAI, rLI, rJI, nI_add, pk_sub, kc_0, kc_1, kc_2, kc_3, kc_4, kc_5, reduceIte, Nat.reduceEqDiff, Nat.add_zero, rI_hold, rI_hold, rL_hold, hfd11]; done) | (simp (disch := omega) only [rI, rIe, rA, rIA, rLA, rJA, rVI, rQI, rVA, rQA, upd_at,  rAI, rLI, rJI, nI_add, pk_sub, kc_0, kc_1, kc_2, kc_3, kc_4, kc_5, reduceIte, Nat.reduceEqDiff, Nat.add_zero, rI_hold, rI_hold, rL_hold, hfd11]; exact congrArg nI (by omega))) ?_
  refine Bod.istn dc_398_31 (by rw [ml_398]; exact Nat.le_of_ble_eq_true rfl) ?_
  refine Bod.go dc_398_32 rfl ?_
  exact hB _ (by repeat (first | exact q0 | exact sm_get_p1 | exact sm_get_p2e | refine sm_get_p1m (by decide) (by decide) ?_ | refine sm_get_p1n (by decide) rfl ?_ | refine sm_get_p2n (by decide) (by decide) rfl ?_ | refine sm_get_p2m (by decide) (by decide) (by decide) ?_)) (by repeat (first | exact q2 | exact sm_get_p1 | exact sm_get_p2e | refine sm_get_p1m (by decide) (by decide) ?_ | refine sm_get_p1n (by decide) rfl ?_ | refine sm_get_p2n (by decide) (by decide) rfl ?_ | refine sm_get_p2m (by decide) (by decide) (by decide) ?_)) (by repeat (first | exact q0 | exact sm_get_p1 | exact sm_get_p2e | refine sm_get_p1m (by decide) (by decide) ?_ | refine sm_get_p1n (by decide) rfl ?_ | refine sm_get_p2n (by decide) (by decide) rfl ?_ | refine sm_get_p2m (by decide) (by decide) (by decide) ?_))
theorem rCwL_3 {d : Nat} {S Sf : cS} {v : Option Value} {lv : sm_L} {nm : Nat} {c : Nat} {g : Nat} {zg : Nat} {S1 : cS} {g1 : Nat} {zg1 : Nat} (q0 : sm_get lv 0 = some (.ref 61)) (q2 : sm_get lv 2 = some (.int (nI nm))) (q3 : sm_get lv 3 = some (.int (nI c))) (mnm : nm < 2 ^ 20) (mc : c < 2 ^ 20) (b1 : c < 1500) (ag : 108 ≤ g) (hq2 : sQ S 86 c = some g) (c1 : Ans (d + 8) 399 [.ref g, .int (nI 0), .long ((nI nm).toInt64), .long 0] S (some (.int (Int32.ofInt (-1)))) S1) (hz1 : (sS S)[g - 108]? = some (13, zg)) (ag1 : 108 ≤ g1) (hq5 : sQ S1 86 c = some g1) (hz2 : (sS S1)[g1 - 108]? = some (13, zg1)) (n2 : sI S1 (100 * g1 + 11) = Int32.ofInt (-1)) (hB : ∀ lv1 : sm_L, sm_get lv1 0 = some (.ref 61) → sm_get lv1 2 = some (.int (nI nm)) → sm_get lv1 3 = some (.int (Int32.ofInt (-1))) → Bod (d + 8) 398 2 lv1 [] (S1) v Sf) : Bod (d + 8) 398 2 lv [] S v Sf := by
  refine Bod.ildnG dc_398_2 (by repeat (first | exact q3 | exact sm_get_p1 | exact sm_get_p2e | refine sm_get_p1m (by decide) (by decide) ?_ | refine sm_get_p1n (by decide) rfl ?_ | refine sm_get_p2n (by decide) (by decide) rfl ?_ | refine sm_get_p2m (by decide) (by decide) (by decide) ?_)) ?_
  refine Bod.ifF dc_398_3 rfl (k1_lt_F c rfl (by omega)) ?_
  refine Bod.aldnG dc_398_6 (by repeat (first | exact q0 | exact sm_get_p1 | exact sm_get_p2e | refine sm_get_p1m (by decide) (by decide) ?_ | refine sm_get_p1n (by decide) rfl ?_ | refine sm_get_p2n (by decide) (by decide) rfl ?_ | refine sm_get_p2m (by decide) (by decide) (by decide) ?_)) ?_
  refine Bod.get dc_398_7 fr_398_485 (mk_61 _) rfl ?_
  refine Bod.ildnG dc_398_10 (by repeat (first | exact q3 | exact sm_get_p1 | exact sm_get_p2e | refine sm_get_p1m (by decide) (by decide) ?_ | refine sm_get_p1n (by decide) rfl ?_ | refine sm_get_p2n (by decide) (by decide) rfl ?_ | refine sm_get_p2m (by decide) (by decide) (by decide) ?_)) ?_
  refine Bod.aaldR (N := 1500) (b := g) c rfl (by omega) (by omega) (by first | exact hq2 | (simp only [rIQ, rJQ, rAQ, rLQ, rVQ, rQ_holdE]; exact hq2)) dc_398_11 (mk_86 _) ht_5 ?_
  refine Bod.ic 0 (by decide) dc_398_12 ?_
  refine Bod.ildnG dc_398_13 (by repeat (first | exact q2 | exact sm_get_p1 | exact sm_get_p2e | refine sm_get_p1m (by decide) (by decide) ?_ | refine sm_get_p1n (by decide) rfl ?_ | refine sm_get_p2n (by decide) (by decide) rfl ?_ | refine sm_get_p2m (by decide) (by decide) (by decide) ?_)) ?_
  refine Bod.go dc_398_14 rfl ?_
  refine Bod.go dc_398_15 rfl ?_
  refine Bod.virt (r := []) dc_398_16 kr_398_764 ⟨Or.inl rfl, ow_399, cl_13⟩ (by rw [np_399]; rfl) (by rw [np_399]; rfl) (ob_of (mk_thing ag (by first | exact hz1 | (simp only [rIS, rJS, rAS, rLS, rVS, rQS, rS_hold]; exact hz1)))) (Nat.le_of_ble_eq_true rfl) (c1  ) ?_
  show Bod _ _ _ _ [_] _ _ _
  refine Bod.ifF dc_398_19 rfl (by decide) ?_
  refine Bod.aldnG dc_398_22 (by repeat (first | exact q0 | exact sm_get_p1 | exact sm_get_p2e | refine sm_get_p1m (by decide) (by decide) ?_ | refine sm_get_p1n (by decide) rfl ?_ | refine sm_get_p2n (by decide) (by decide) rfl ?_ | refine sm_get_p2m (by decide) (by decide) (by decide) ?_)) ?_
  refine Bod.get dc_398_23 fr_398_485 (mk_61 _) rfl ?_
  refine Bod.ildnG dc_398_26 (by repeat (first | exact q3 | exact sm_get_p1 | exact sm_get_p2e | refine sm_get_p1m (by decide) (by decide) ?_ | refine sm_get_p1n (by decide) rfl ?_ | refine sm_get_p2n (by decide) (by decide) rfl ?_ | refine sm_get_p2m (by decide) (by decide) (by decide) ?_)) ?_
  refine Bod.aaldR (N := 1500) (b := g1) c rfl (by omega) (by omega) (by first | exact hq5 | (simp only [rIQ, rJQ, rAQ, rLQ, rVQ, rQ_holdE]; exact hq5)) dc_398_27 (mk_86 _) ht_5 ?_
  refine Bod.get dc_398_28 fr_398_472 (mk_thing ag1 (by first | exact hz2 | (simp only [rIS, rJS, rAS, rLS, rVS, rQS, rS_hold]; exact hz2))) rfl ?_
  refine Bod.eqI (Int32.ofInt (-1)) (by first | assumption | (simp (disch := omega) only [rI, rIe, rA, rIA, rLA, rJA, rVI, rQI, rVA, rQA, upd_at,  rAI, rLI, rJI, nI_add, pk_sub, kc_0, kc_1, kc_2, kc_3, kc_4, kc_5, reduceIte, Nat.reduceEqDiff, Nat.add_zero, rI_hold, rI_hold, rL_hold, n2]; done) | (simp (disch := omega) only [rI, rIe, rA, rIA, rLA, rJA, rVI, rQI, rVA, rQA, upd_at,  rAI, rLI, rJI, nI_add, pk_sub, kc_0, kc_1, kc_2, kc_3, kc_4, kc_5, reduceIte, Nat.reduceEqDiff, Nat.add_zero, rI_hold, rI_hold, rL_hold, n2]; exact congrArg nI (by omega))) ?_
  refine Bod.istn dc_398_31 (by rw [ml_398]; exact Nat.le_of_ble_eq_true rfl) ?_
  refine Bod.go dc_398_32 rfl ?_
  exact hB _ (by repeat (first | exact q0 | exact sm_get_p1 | exact sm_get_p2e | refine sm_get_p1m (by decide) (by decide) ?_ | refine sm_get_p1n (by decide) rfl ?_ | refine sm_get_p2n (by decide) (by decide) rfl ?_ | refine sm_get_p2m (by decide) (by decide) (by decide) ?_)) (by repeat (first | exact q2 | exact sm_get_p1 | exact sm_get_p2e | refine sm_get_p1m (by decide) (by decide) ?_ | refine sm_get_p1n (by decide) rfl ?_ | refine sm_get_p2n (by decide) (by decide) rfl ?_ | refine sm_get_p2m (by decide) (by decide) (by decide) ?_)) (by repeat (first | exact q0 | exact sm_get_p1 | exact sm_get_p2e | refine sm_get_p1m (by decide) (by decide) ?_ | refine sm_get_p1n (by decide) rfl ?_ | refine sm_get_p2n (by decide) (by decide) rfl ?_ | refine sm_get_p2m (by decide) (by decide) (by decide) ?_))
theorem rCwE_1 {d : Nat} {S : cS} {lv : sm_L} {nm : Nat} (q0 : sm_get lv 0 = some (.ref 61)) (q2 : sm_get lv 2 = some (.int (nI nm))) (q3 : sm_get lv 3 = some (.int (Int32.ofInt (-1)))) (mnm : nm < 2 ^ 20) : Bod (d + 8) 398 2 lv [] S (some (.int (Int32.ofInt (-1)))) (S) := by
  refine Bod.ildnG dc_398_2 (by repeat (first | exact q3 | exact sm_get_p1 | exact sm_get_p2e | refine sm_get_p1m (by decide) (by decide) ?_ | refine sm_get_p1n (by decide) rfl ?_ | refine sm_get_p2n (by decide) (by decide) rfl ?_ | refine sm_get_p2m (by decide) (by decide) (by decide) ?_)) ?_
  refine Bod.ifT dc_398_3 rfl (by decide) ?_
  refine Bod.ildnG dc_398_35 (by repeat (first | exact q3 | exact sm_get_p1 | exact sm_get_p2e | refine sm_get_p1m (by decide) (by decide) ?_ | refine sm_get_p1n (by decide) rfl ?_ | refine sm_get_p2n (by decide) (by decide) rfl ?_ | refine sm_get_p2m (by decide) (by decide) (by decide) ?_)) ?_
  exact Bod.retI dc_398_36 rt_398
theorem rFr_1 {d : Nat} {S Sf : cS} {v : Option Value}   (hB : ∀ lv1 : sm_L, sm_get lv1 0 = some (.ref 61) → sm_get lv1 1 = some (.int (nI 0)) → Bod (d + 8) 365 2 lv1 [] (S) v Sf) : Bod (d + 8) 365 0 [(0, .ref 61)] [] S v Sf := by
  refine Bod.ic 0 (by decide) dc_365_0 ?_
  refine Bod.istn dc_365_1 (by rw [ml_365]; exact Nat.le_of_ble_eq_true rfl) ?_
  exact hB _ (by first | rfl | exact (by repeat (first | exact rfl | exact sm_get_p1 | exact sm_get_p2e | refine sm_get_p1m (by decide) (by decide) ?_ | refine sm_get_p1n (by decide) rfl ?_ | refine sm_get_p2n (by decide) (by decide) rfl ?_ | refine sm_get_p2m (by decide) (by decide) (by decide) ?_))) (by first | rfl | exact (by repeat (first | exact rfl | exact sm_get_p1 | exact sm_get_p2e | refine sm_get_p1m (by decide) (by decide) ?_ | refine sm_get_p1n (by decide) rfl ?_ | refine sm_get_p2n (by decide) (by decide) rfl ?_ | refine sm_get_p2m (by decide) (by decide) (by decide) ?_)))
theorem rFrL_1 {d : Nat} {S : cS} {lv : sm_L} {ni : Nat} (q0 : sm_get lv 0 = some (.ref 61)) (q1 : sm_get lv 1 = some (.int (nI ni))) (mni : ni < 2 ^ 20) (b1 : 1500 ≤ ni) : Bod (d + 8) 365 2 lv [] S (some (.int (Int32.ofInt (-1)))) (S) := by
  refine Bod.ildnG dc_365_2 (by repeat (first | exact q1 | exact sm_get_p1 | exact sm_get_p2e | refine sm_get_p1m (by decide) (by decide) ?_ | refine sm_get_p1n (by decide) rfl ?_ | refine sm_get_p2n (by decide) (by decide) rfl ?_ | refine sm_get_p2m (by decide) (by decide) (by decide) ?_)) ?_
  refine Bod.sip 1500 (by decide) dc_365_3 ?_
  refine Bod.icT dc_365_6 rfl (k2_ge_T ni 1500 rfl rfl (by omega) (by omega)) ?_
  refine Bod.go dc_365_46 rfl ?_
  exact Bod.retI dc_365_47 rt_365
theorem rFrL_2 {d : Nat} {S Sf : cS} {v : Option Value} {lv : sm_L} {ni : Nat} {f6147 : Nat} {e87 : Nat} (q0 : sm_get lv 0 = some (.ref 61)) (q1 : sm_get lv 1 = some (.int (nI ni))) (mni : ni < 2 ^ 20) (b1 : ni < 1500) (hf6147 : sI S 6147 = nI f6147) (mf6147 : f6147 < 2 ^ 20) (b2 : (f6147 + 1) % 1500 < 1500) (he87 : sA (wI 6147 (nI ((f6147 + 1) % 1500)) S) 87 ((f6147 + 1) % 1500) = nI e87) (me87 : e87 < 2 ^ 20) (w8 : sm_c1 .ne (sA (wI 6147 (nI ((f6147 + 1) % 1500)) S) 87 ((f6147 + 1) % 1500)) true false = true) (hB : ∀ lv1 : sm_L, sm_get lv1 0 = some (.ref 61) → sm_get lv1 1 = some (.int (nI (ni + 1))) → Bod (d + 8) 365 2 lv1 [] (wI 6147 (nI ((f6147 + 1) % 1500)) S) v Sf) : Bod (d + 8) 365 2 lv [] S v Sf := by
  refine Bod.ildnG dc_365_2 (by repeat (first | exact q1 | exact sm_get_p1 | exact sm_get_p2e | refine sm_get_p1m (by decide) (by decide) ?_ | refine sm_get_p1n (by decide) rfl ?_ | refine sm_get_p2n (by decide) (by decide) rfl ?_ | refine sm_get_p2m (by decide) (by decide) (by decide) ?_)) ?_
  refine Bod.sip 1500 (by decide) dc_365_3 ?_
  refine Bod.icF dc_365_6 rfl (k2_ge_F ni 1500 rfl rfl (by omega) (by omega)) ?_
  refine Bod.aldnG dc_365_9 (by repeat (first | exact q0 | exact sm_get_p1 | exact sm_get_p2e | refine sm_get_p1m (by decide) (by decide) ?_ | refine sm_get_p1n (by decide) rfl ?_ | refine sm_get_p2n (by decide) (by decide) rfl ?_ | refine sm_get_p2m (by decide) (by decide) (by decide) ?_)) ?_
  refine Bod.aldnG dc_365_10 (by repeat (first | exact q0 | exact sm_get_p1 | exact sm_get_p2e | refine sm_get_p1m (by decide) (by decide) ?_ | refine sm_get_p1n (by decide) rfl ?_ | refine sm_get_p2n (by decide) (by decide) rfl ?_ | refine sm_get_p2m (by decide) (by decide) (by decide) ?_)) ?_
  refine Bod.get dc_365_11 fr_365_534 (mk_61 _) rfl ?_
  refine Bod.eqI (nI f6147) (by first | assumption | rfl | exact congrArg nI (by omega) | (simp (disch := omega) only [rI, rIe, rA, rIA, rLA, rJA, rVI, rQI, rVA, rQA, upd_at,  rAI, rLI, rJI, nI_add, pk_sub, kc_0, kc_1, kc_2, kc_3, kc_4, kc_5, reduceIte, Nat.reduceEqDiff, Nat.add_zero, rI_hold, rI_hold, rL_hold, hf6147]; done)) ?_
  refine Bod.ic 1 (by decide) dc_365_14 ?_
  refine Bod.addN (f6147 + 1) (by omega) dc_365_15 ?_
  refine Bod.sip 1500 (by decide) dc_365_16 ?_
  refine Bod.iremN ((f6147 + 1) % 1500) (by omega) (by omega) (by omega) rfl dc_365_19 ?_
  refine Bod.put dc_365_20 fr_365_534 (mk_61 _) (Nat.le_of_ble_eq_true rfl) pf_14_47 (st_6147 _ _) (mu_I _ _ _) ?_
  refine Bod.aldnG dc_365_23 (by repeat (first | exact q0 | exact sm_get_p1 | exact sm_get_p2e | refine sm_get_p1m (by decide) (by decide) ?_ | refine sm_get_p1n (by decide) rfl ?_ | refine sm_get_p2n (by decide) (by decide) rfl ?_ | refine sm_get_p2m (by decide) (by decide) (by decide) ?_)) ?_
  refine Bod.get dc_365_24 fr_365_481 (mk_61 _) rfl ?_
  refine Bod.aldnG dc_365_27 (by repeat (first | exact q0 | exact sm_get_p1 | exact sm_get_p2e | refine sm_get_p1m (by decide) (by decide) ?_ | refine sm_get_p1n (by decide) rfl ?_ | refine sm_get_p2n (by decide) (by decide) rfl ?_ | refine sm_get_p2m (by decide) (by decide) (by decide) ?_)) ?_
  refine Bod.get dc_365_28 fr_365_534 (mk_61 _) rfl ?_
  refine Bod.eqI (nI ((f6147 + 1) % 1500)) (by first | assumption | (simp (disch := omega) only [rI, rIe, rA, rIA, rLA, rJA, rVI, rQI, rVA, rQA, upd_at,  rAI, rLI, rJI, nI_add, pk_sub, kc_0, kc_1, kc_2, kc_3, kc_4, kc_5, reduceIte, Nat.reduceEqDiff, Nat.add_zero, rI_hold, rI_hold, rL_hold, hf6147]; done) | (simp (disch := omega) only [rI, rIe, rA, rIA, rLA, rJA, rVI, rQI, rVA, rQA, upd_at,  rAI, rLI, rJI, nI_add, pk_sub, kc_0, kc_1, kc_2, kc_3, kc_4, kc_5, reduceIte, Nat.reduceEqDiff, Nat.add_zero, rI_hold, rI_hold, rL_hold, hf6147]; exact congrArg nI (by omega))) ?_
  refine Bod.baldN ((f6147 + 1) % 1500) rfl (by omega) (by omega) dc_365_31 (mk_87 _) (Or.inr rfl) ?_
  refine Bod.ifT dc_365_32 rfl w8 ?_
  refine Bod.incN (ni + 1) (by rw [kc_1, nI_add]) dc_365_40 (by rw [ml_365]; exact Nat.le_of_ble_eq_true rfl) (by repeat (first | exact q1 | exact sm_get_p1 | exact sm_get_p2e | refine sm_get_p1m (by decide) (by decide) ?_ | refine sm_get_p1n (by decide) rfl ?_ | refine sm_get_p2n (by decide) (by decide) rfl ?_ | refine sm_get_p2m (by decide) (by decide) (by decide) ?_)) ?_
  refine Bod.go dc_365_43 rfl ?_
  exact hB _ (by repeat (first | exact q0 | exact sm_get_p1 | exact sm_get_p2e | refine sm_get_p1m (by decide) (by decide) ?_ | refine sm_get_p1n (by decide) rfl ?_ | refine sm_get_p2n (by decide) (by decide) rfl ?_ | refine sm_get_p2m (by decide) (by decide) (by decide) ?_)) (by repeat (first | exact q0 | exact sm_get_p1 | exact sm_get_p2e | refine sm_get_p1m (by decide) (by decide) ?_ | refine sm_get_p1n (by decide) rfl ?_ | refine sm_get_p2n (by decide) (by decide) rfl ?_ | refine sm_get_p2m (by decide) (by decide) (by decide) ?_))
theorem rFrL_3 {d : Nat} {S : cS} {lv : sm_L} {ni : Nat} {f6147 : Nat} {e87 : Nat} (q0 : sm_get lv 0 = some (.ref 61)) (q1 : sm_get lv 1 = some (.int (nI ni))) (mni : ni < 2 ^ 20) (b1 : ni < 1500) (hf6147 : sI S 6147 = nI f6147) (mf6147 : f6147 < 2 ^ 20) (b2 : (f6147 + 1) % 1500 < 1500) (he87 : sA (wI 6147 (nI ((f6147 + 1) % 1500)) S) 87 ((f6147 + 1) % 1500) = nI e87) (me87 : e87 < 2 ^ 20) (w8 : sm_c1 .ne (sA (wI 6147 (nI ((f6147 + 1) % 1500)) S) 87 ((f6147 + 1) % 1500)) true false = false) : Bod (d + 8) 365 2 lv [] S (some (.int (nI ((f6147 + 1) % 1500)))) (wI 6147 (nI ((f6147 + 1) % 1500)) S) := by
  refine Bod.ildnG dc_365_2 (by repeat (first | exact q1 | exact sm_get_p1 | exact sm_get_p2e | refine sm_get_p1m (by decide) (by decide) ?_ | refine sm_get_p1n (by decide) rfl ?_ | refine sm_get_p2n (by decide) (by decide) rfl ?_ | refine sm_get_p2m (by decide) (by decide) (by decide) ?_)) ?_
  refine Bod.sip 1500 (by decide) dc_365_3 ?_
  refine Bod.icF dc_365_6 rfl (k2_ge_F ni 1500 rfl rfl (by omega) (by omega)) ?_
  refine Bod.aldnG dc_365_9 (by repeat (first | exact q0 | exact sm_get_p1 | exact sm_get_p2e | refine sm_get_p1m (by decide) (by decide) ?_ | refine sm_get_p1n (by decide) rfl ?_ | refine sm_get_p2n (by decide) (by decide) rfl ?_ | refine sm_get_p2m (by decide) (by decide) (by decide) ?_)) ?_
  refine Bod.aldnG dc_365_10 (by repeat (first | exact q0 | exact sm_get_p1 | exact sm_get_p2e | refine sm_get_p1m (by decide) (by decide) ?_ | refine sm_get_p1n (by decide) rfl ?_ | refine sm_get_p2n (by decide) (by decide) rfl ?_ | refine sm_get_p2m (by decide) (by decide) (by decide) ?_)) ?_
  refine Bod.get dc_365_11 fr_365_534 (mk_61 _) rfl ?_
  refine Bod.eqI (nI f6147) (by first | assumption | rfl | exact congrArg nI (by omega) | (simp (disch := omega) only [rI, rIe, rA, rIA, rLA, rJA, rVI, rQI, rVA, rQA, upd_at,  rAI, rLI, rJI, nI_add, pk_sub, kc_0, kc_1, kc_2, kc_3, kc_4, kc_5, reduceIte, Nat.reduceEqDiff, Nat.add_zero, rI_hold, rI_hold, rL_hold, hf6147]; done)) ?_
  refine Bod.ic 1 (by decide) dc_365_14 ?_
  refine Bod.addN (f6147 + 1) (by omega) dc_365_15 ?_
  refine Bod.sip 1500 (by decide) dc_365_16 ?_
  refine Bod.iremN ((f6147 + 1) % 1500) (by omega) (by omega) (by omega) rfl dc_365_19 ?_
  refine Bod.put dc_365_20 fr_365_534 (mk_61 _) (Nat.le_of_ble_eq_true rfl) pf_14_47 (st_6147 _ _) (mu_I _ _ _) ?_
  refine Bod.aldnG dc_365_23 (by repeat (first | exact q0 | exact sm_get_p1 | exact sm_get_p2e | refine sm_get_p1m (by decide) (by decide) ?_ | refine sm_get_p1n (by decide) rfl ?_ | refine sm_get_p2n (by decide) (by decide) rfl ?_ | refine sm_get_p2m (by decide) (by decide) (by decide) ?_)) ?_
  refine Bod.get dc_365_24 fr_365_481 (mk_61 _) rfl ?_
  refine Bod.aldnG dc_365_27 (by repeat (first | exact q0 | exact sm_get_p1 | exact sm_get_p2e | refine sm_get_p1m (by decide) (by decide) ?_ | refine sm_get_p1n (by decide) rfl ?_ | refine sm_get_p2n (by decide) (by decide) rfl ?_ | refine sm_get_p2m (by decide) (by decide) (by decide) ?_)) ?_
  refine Bod.get dc_365_28 fr_365_534 (mk_61 _) rfl ?_
  refine Bod.eqI (nI ((f6147 + 1) % 1500)) (by first | assumption | (simp (disch := omega) only [rI, rIe, rA, rIA, rLA, rJA, rVI, rQI, rVA, rQA, upd_at,  rAI, rLI, rJI, nI_add, pk_sub, kc_0, kc_1, kc_2, kc_3, kc_4, kc_5, reduceIte, Nat.reduceEqDiff, Nat.add_zero, rI_hold, rI_hold, rL_hold, hf6147]; done) | (simp (disch := omega) only [rI, rIe, rA, rIA, rLA, rJA, rVI, rQI, rVA, rQA, upd_at,  rAI, rLI, rJI, nI_add, pk_sub, kc_0, kc_1, kc_2, kc_3, kc_4, kc_5, reduceIte, Nat.reduceEqDiff, Nat.add_zero, rI_hold, rI_hold, rL_hold, hf6147]; exact congrArg nI (by omega))) ?_
  refine Bod.baldN ((f6147 + 1) % 1500) rfl (by omega) (by omega) dc_365_31 (mk_87 _) (Or.inr rfl) ?_
  refine Bod.ifF dc_365_32 rfl w8 ?_
  refine Bod.aldnG dc_365_35 (by repeat (first | exact q0 | exact sm_get_p1 | exact sm_get_p2e | refine sm_get_p1m (by decide) (by decide) ?_ | refine sm_get_p1n (by decide) rfl ?_ | refine sm_get_p2n (by decide) (by decide) rfl ?_ | refine sm_get_p2m (by decide) (by decide) (by decide) ?_)) ?_
  refine Bod.get dc_365_36 fr_365_534 (mk_61 _) rfl ?_
  refine Bod.eqI (nI ((f6147 + 1) % 1500)) (by first | assumption | (simp (disch := omega) only [rI, rIe, rA, rIA, rLA, rJA, rVI, rQI, rVA, rQA, upd_at,  rAI, rLI, rJI, nI_add, pk_sub, kc_0, kc_1, kc_2, kc_3, kc_4, kc_5, reduceIte, Nat.reduceEqDiff, Nat.add_zero, rI_hold, rI_hold, rL_hold, hf6147, he87]; done) | (simp (disch := omega) only [rI, rIe, rA, rIA, rLA, rJA, rVI, rQI, rVA, rQA, upd_at,  rAI, rLI, rJI, nI_add, pk_sub, kc_0, kc_1, kc_2, kc_3, kc_4, kc_5, reduceIte, Nat.reduceEqDiff, Nat.add_zero, rI_hold, rI_hold, rL_hold, hf6147, he87]; exact congrArg nI (by omega))) ?_
  exact Bod.retI dc_365_39 rt_365
theorem rMl_1 {d : Nat} {S Sf : cS} {v : Option Value} {nn : Nat} {S1 : cS} {a : Nat} {t : Nat} (mnn : nn < 2 ^ 20) (ma : a < 1500) (c1 : Ans (d + 8) 364 [.ref 61, .int (nI 1)] S (some (.int (nI a))) S1) (ht : sI S1 6151 = nI t) (mt : t < 20481) (b1 : nn ≤ t) (hB : ∀ lv1 : sm_L, sm_get lv1 0 = some (.ref 61) → sm_get lv1 1 = some (.int (nI nn)) → sm_get lv1 2 = some (.int (nI a)) → sm_get lv1 3 = some (.int (nI (t - nn))) → Bod (d + 8) 413 19 lv1 [] (S1) v Sf) : Bod (d + 8) 413 0 [(0, .ref 61), (1, .int (nI nn))] [] S v Sf := by
  refine Bod.go dc_413_0 rfl ?_
  refine Bod.ic 1 (by decide) dc_413_1 ?_
  refine Bod.virt (r := []) dc_413_2 kr_413_686 ⟨Or.inl rfl, ow_364, cl_14⟩ (by rw [np_364]; rfl) (by rw [np_364]; rfl) (ob_of (mk_61 _)) (Nat.le_of_ble_eq_true rfl) (c1  ) ?_
  show Bod _ _ _ _ [_] _ _ _
  refine Bod.istn dc_413_5 (by rw [ml_413]; exact Nat.le_of_ble_eq_true rfl) ?_
  refine Bod.go dc_413_6 rfl ?_
  refine Bod.ifT dc_413_7 rfl (k1_ge_T a rfl (by omega)) ?_
  refine Bod.go dc_413_12 rfl ?_
  refine Bod.get dc_413_13 fr_413_493 (mk_61 _) rfl ?_
  refine Bod.eqI (nI t) (by first | assumption | (simp (disch := omega) only [rI, rIe, rA, rIA, rLA, rJA, rVI, rQI, rVA, rQA, upd_at,  rAI, rLI, rJI, nI_add, pk_sub, kc_0, kc_1, kc_2, kc_3, kc_4, kc_5, reduceIte, Nat.reduceEqDiff, Nat.add_zero, rI_hold, rI_hold, rL_hold, ht]; done) | (simp (disch := omega) only [rI, rIe, rA, rIA, rLA, rJA, rVI, rQI, rVA, rQA, upd_at,  rAI, rLI, rJI, nI_add, pk_sub, kc_0, kc_1, kc_2, kc_3, kc_4, kc_5, reduceIte, Nat.reduceEqDiff, Nat.add_zero, rI_hold, rI_hold, rL_hold, ht]; exact congrArg nI (by omega))) ?_
  refine Bod.go dc_413_16 rfl ?_
  refine Bod.subN (t - nn) (by omega) (by omega) dc_413_17 ?_
  refine Bod.istn dc_413_18 (by rw [ml_413]; exact Nat.le_of_ble_eq_true rfl) ?_
  exact hB _ (by first | rfl | exact (by repeat (first | exact rfl | exact sm_get_p1 | exact sm_get_p2e | refine sm_get_p1m (by decide) (by decide) ?_ | refine sm_get_p1n (by decide) rfl ?_ | refine sm_get_p2n (by decide) (by decide) rfl ?_ | refine sm_get_p2m (by decide) (by decide) (by decide) ?_))) (by first | rfl | exact (by repeat (first | exact rfl | exact sm_get_p1 | exact sm_get_p2e | refine sm_get_p1m (by decide) (by decide) ?_ | refine sm_get_p1n (by decide) rfl ?_ | refine sm_get_p2n (by decide) (by decide) rfl ?_ | refine sm_get_p2m (by decide) (by decide) (by decide) ?_))) (by first | rfl | exact (by repeat (first | exact rfl | exact sm_get_p1 | exact sm_get_p2e | refine sm_get_p1m (by decide) (by decide) ?_ | refine sm_get_p1n (by decide) rfl ?_ | refine sm_get_p2n (by decide) (by decide) rfl ?_ | refine sm_get_p2m (by decide) (by decide) (by decide) ?_))) (by first | rfl | exact (by repeat (first | exact rfl | exact sm_get_p1 | exact sm_get_p2e | refine sm_get_p1m (by decide) (by decide) ?_ | refine sm_get_p1n (by decide) rfl ?_ | refine sm_get_p2n (by decide) (by decide) rfl ?_ | refine sm_get_p2m (by decide) (by decide) (by decide) ?_)))
theorem rMl_2 {d : Nat} {S : cS} {nn : Nat} {S1 : cS} (mnn : nn < 2 ^ 20) (c1 : Ans (d + 8) 364 [.ref 61, .int (nI 1)] S (some (.int (Int32.ofInt (-1)))) S1) : Bod (d + 8) 413 0 [(0, .ref 61), (1, .int (nI nn))] [] S (some (.int 0)) (S1) := by
  refine Bod.go dc_413_0 rfl ?_
  refine Bod.ic 1 (by decide) dc_413_1 ?_
  refine Bod.virt (r := []) dc_413_2 kr_413_686 ⟨Or.inl rfl, ow_364, cl_14⟩ (by rw [np_364]; rfl) (by rw [np_364]; rfl) (ob_of (mk_61 _)) (Nat.le_of_ble_eq_true rfl) (c1  ) ?_
  show Bod _ _ _ _ [_] _ _ _
  refine Bod.istn dc_413_5 (by rw [ml_413]; exact Nat.le_of_ble_eq_true rfl) ?_
  refine Bod.go dc_413_6 rfl ?_
  refine Bod.ifF dc_413_7 rfl (by decide) ?_
  refine Bod.ic 0 (by decide) dc_413_10 ?_
  exact Bod.retZ dc_413_11 rt_413 (Or.inl rfl)
theorem rMlL_1 {d : Nat} {S : cS} {lv : sm_L} {nn : Nat} {l : Nat} {ni : Nat} {t : Nat} {S1 : cS} (q0 : sm_get lv 0 = some (.ref 61)) (q1 : sm_get lv 1 = some (.int (nI nn))) (q2 : sm_get lv 2 = some (.int (nI l))) (q3 : sm_get lv 3 = some (.int (nI ni))) (mnn : nn < 2 ^ 20) (ml : l < 2 ^ 20) (mni : ni < 2 ^ 20) (ht : sI S 6151 = nI t) (mt : t < 20481) (b1 : t ≤ ni) (b2 : nn ≤ t) (c1 : Ans (d + 8) 352 [.ref 61, .int (nI 3), .long ((nI l).toInt64), .long 0] (wI 6151 (nI (t - nn)) S) none S1) : Bod (d + 8) 413 19 lv [] S (some (.int 1)) (S1) := by
  refine Bod.ildnG dc_413_19 (by repeat (first | exact q3 | exact sm_get_p1 | exact sm_get_p2e | refine sm_get_p1m (by decide) (by decide) ?_ | refine sm_get_p1n (by decide) rfl ?_ | refine sm_get_p2n (by decide) (by decide) rfl ?_ | refine sm_get_p2m (by decide) (by decide) (by decide) ?_)) ?_
  refine Bod.aldnG dc_413_20 (by repeat (first | exact q0 | exact sm_get_p1 | exact sm_get_p2e | refine sm_get_p1m (by decide) (by decide) ?_ | refine sm_get_p1n (by decide) rfl ?_ | refine sm_get_p2n (by decide) (by decide) rfl ?_ | refine sm_get_p2m (by decide) (by decide) (by decide) ?_)) ?_
  refine Bod.get dc_413_21 fr_413_493 (mk_61 _) rfl ?_
  refine Bod.eqI (nI t) (by first | assumption | rfl | exact congrArg nI (by omega) | (simp (disch := omega) only [rI, rIe, rA, rIA, rLA, rJA, rVI, rQI, rVA, rQA, upd_at,  rAI, rLI, rJI, nI_add, pk_sub, kc_0, kc_1, kc_2, kc_3, kc_4, kc_5, reduceIte, Nat.reduceEqDiff, Nat.add_zero, rI_hold, rI_hold, rL_hold, ht]; done)) ?_
  refine Bod.icT dc_413_24 rfl (k2_ge_T ni t rfl rfl (by omega) (by omega)) ?_
  refine Bod.aldnG dc_413_60 (by repeat (first | exact q0 | exact sm_get_p1 | exact sm_get_p2e | refine sm_get_p1m (by decide) (by decide) ?_ | refine sm_get_p1n (by decide) rfl ?_ | refine sm_get_p2n (by decide) (by decide) rfl ?_ | refine sm_get_p2m (by decide) (by decide) (by decide) ?_)) ?_
  refine Bod.go dc_413_61 rfl ?_
  refine Bod.get dc_413_62 fr_413_493 (mk_61 _) rfl ?_
  refine Bod.eqI (nI t) (by first | assumption | rfl | exact congrArg nI (by omega) | (simp (disch := omega) only [rI, rIe, rA, rIA, rLA, rJA, rVI, rQI, rVA, rQA, upd_at,  rAI, rLI, rJI, nI_add, pk_sub, kc_0, kc_1, kc_2, kc_3, kc_4, kc_5, reduceIte, Nat.reduceEqDiff, Nat.add_zero, rI_hold, rI_hold, rL_hold, ht]; done)) ?_
  refine Bod.ildnG dc_413_65 (by repeat (first | exact q1 | exact sm_get_p1 | exact sm_get_p2e | refine sm_get_p1m (by decide) (by decide) ?_ | refine sm_get_p1n (by decide) rfl ?_ | refine sm_get_p2n (by decide) (by decide) rfl ?_ | refine sm_get_p2m (by decide) (by decide) (by decide) ?_)) ?_
  refine Bod.subN (t - nn) (by omega) (by omega) dc_413_66 ?_
  refine Bod.put dc_413_67 fr_413_493 (mk_61 _) (Nat.le_of_ble_eq_true rfl) pf_14_51 (st_6151 _ _) (mu_I _ _ _) ?_
  refine Bod.aldnG dc_413_70 (by repeat (first | exact q0 | exact sm_get_p1 | exact sm_get_p2e | refine sm_get_p1m (by decide) (by decide) ?_ | refine sm_get_p1n (by decide) rfl ?_ | refine sm_get_p2n (by decide) (by decide) rfl ?_ | refine sm_get_p2m (by decide) (by decide) (by decide) ?_)) ?_
  refine Bod.ic 3 (by decide) dc_413_71 ?_
  refine Bod.ildnG dc_413_72 (by repeat (first | exact q2 | exact sm_get_p1 | exact sm_get_p2e | refine sm_get_p1m (by decide) (by decide) ?_ | refine sm_get_p1n (by decide) rfl ?_ | refine sm_get_p2n (by decide) (by decide) rfl ?_ | refine sm_get_p2m (by decide) (by decide) (by decide) ?_)) ?_
  refine Bod.go dc_413_73 rfl ?_
  refine Bod.go dc_413_74 rfl ?_
  refine Bod.virt (r := []) dc_413_75 kr_413_549 ⟨Or.inl rfl, ow_352, cl_14⟩ (by rw [np_352]; rfl) (by rw [np_352]; rfl) (ob_of (mk_61 _)) (Nat.le_of_ble_eq_true rfl) (c1  ) ?_
  show Bod _ _ _ _ [] _ _ _
  refine Bod.ic 1 (by decide) dc_413_78 ?_
  exact Bod.retZ dc_413_79 rt_413 (Or.inr rfl)
theorem rMlL_2 {d : Nat} {S Sf : cS} {v : Option Value} {lv : sm_L} {nn : Nat} {l : Nat} {ni : Nat} {t : Nat} {g : Nat} {zg : Nat} {e91 : Nat} {S1 : cS} (q0 : sm_get lv 0 = some (.ref 61)) (q1 : sm_get lv 1 = some (.int (nI nn))) (q2 : sm_get lv 2 = some (.int (nI l))) (q3 : sm_get lv 3 = some (.int (nI ni))) (mnn : nn < 2 ^ 20) (ml : l < 2 ^ 20) (mni : ni < 2 ^ 20) (ht : sI S 6151 = nI t) (mt : t < 20481) (b1 : ni < t) (b2 : l < 1500) (ag : 108 ≤ g) (hq2 : sQ S 86 l = some g) (b3 : ni < 20480) (he91 : sA S 91 ni = nI e91) (me91 : e91 < 2 ^ 20) (c1 : Ans (d + 8) 375 [.ref g, .int (nI e91), .long (sL S 92 ni), .long (sL S 93 ni)] S none S1) (hz1 : (sS S)[g - 108]? = some (13, zg)) (hB : ∀ lv1 : sm_L, sm_get lv1 0 = some (.ref 61) → sm_get lv1 1 = some (.int (nI nn)) → sm_get lv1 2 = some (.int (nI l)) → sm_get lv1 3 = some (.int (nI (ni + 1))) → Bod (d + 8) 413 19 lv1 [] (S1) v Sf) : Bod (d + 8) 413 19 lv [] S v Sf := by
  refine Bod.ildnG dc_413_19 (by repeat (first | exact q3 | exact sm_get_p1 | exact sm_get_p2e | refine sm_get_p1m (by decide) (by decide) ?_ | refine sm_get_p1n (by decide) rfl ?_ | refine sm_get_p2n (by decide) (by decide) rfl ?_ | refine sm_get_p2m (by decide) (by decide) (by decide) ?_)) ?_
  refine Bod.aldnG dc_413_20 (by repeat (first | exact q0 | exact sm_get_p1 | exact sm_get_p2e | refine sm_get_p1m (by decide) (by decide) ?_ | refine sm_get_p1n (by decide) rfl ?_ | refine sm_get_p2n (by decide) (by decide) rfl ?_ | refine sm_get_p2m (by decide) (by decide) (by decide) ?_)) ?_
  refine Bod.get dc_413_21 fr_413_493 (mk_61 _) rfl ?_
  refine Bod.eqI (nI t) (by first | assumption | rfl | exact congrArg nI (by omega) | (simp (disch := omega) only [rI, rIe, rA, rIA, rLA, rJA, rVI, rQI, rVA, rQA, upd_at,  rAI, rLI, rJI, nI_add, pk_sub, kc_0, kc_1, kc_2, kc_3, kc_4, kc_5, reduceIte, Nat.reduceEqDiff, Nat.add_zero, rI_hold, rI_hold, rL_hold, ht]; done)) ?_
  refine Bod.icF dc_413_24 rfl (k2_ge_F ni t rfl rfl (by omega) (by omega)) ?_
  refine Bod.aldnG dc_413_27 (by repeat (first | exact q0 | exact sm_get_p1 | exact sm_get_p2e | refine sm_get_p1m (by decide) (by decide) ?_ | refine sm_get_p1n (by decide) rfl ?_ | refine sm_get_p2n (by decide) (by decide) rfl ?_ | refine sm_get_p2m (by decide) (by decide) (by decide) ?_)) ?_
  refine Bod.get dc_413_28 fr_413_485 (mk_61 _) rfl ?_
  refine Bod.ildnG dc_413_31 (by repeat (first | exact q2 | exact sm_get_p1 | exact sm_get_p2e | refine sm_get_p1m (by decide) (by decide) ?_ | refine sm_get_p1n (by decide) rfl ?_ | refine sm_get_p2n (by decide) (by decide) rfl ?_ | refine sm_get_p2m (by decide) (by decide) (by decide) ?_)) ?_
  refine Bod.aaldR (N := 1500) (b := g) l rfl (by omega) (by omega) (by first | exact hq2 | (simp only [rIQ, rJQ, rAQ, rLQ, rVQ, rQ_holdE]; exact hq2)) dc_413_32 (mk_86 _) ht_5 ?_
  refine Bod.aldnG dc_413_33 (by repeat (first | exact q0 | exact sm_get_p1 | exact sm_get_p2e | refine sm_get_p1m (by decide) (by decide) ?_ | refine sm_get_p1n (by decide) rfl ?_ | refine sm_get_p2n (by decide) (by decide) rfl ?_ | refine sm_get_p2m (by decide) (by decide) (by decide) ?_)) ?_
  refine Bod.get dc_413_34 fr_413_496 (mk_61 _) rfl ?_
  refine Bod.ildnG dc_413_37 (by repeat (first | exact q3 | exact sm_get_p1 | exact sm_get_p2e | refine sm_get_p1m (by decide) (by decide) ?_ | refine sm_get_p1n (by decide) rfl ?_ | refine sm_get_p2n (by decide) (by decide) rfl ?_ | refine sm_get_p2m (by decide) (by decide) (by decide) ?_)) ?_
  refine Bod.ialdN ni rfl (by omega) (by omega) dc_413_38 (mk_91 _) ?_
  refine Bod.eqI (nI e91) (by first | assumption | rfl | exact congrArg nI (by omega) | (simp (disch := omega) only [rI, rIe, rA, rIA, rLA, rJA, rVI, rQI, rVA, rQA, upd_at,  rAI, rLI, rJI, nI_add, pk_sub, kc_0, kc_1, kc_2, kc_3, kc_4, kc_5, reduceIte, Nat.reduceEqDiff, Nat.add_zero, rI_hold, rI_hold, rL_hold, ht, he91]; done)) ?_
  refine Bod.aldnG dc_413_39 (by repeat (first | exact q0 | exact sm_get_p1 | exact sm_get_p2e | refine sm_get_p1m (by decide) (by decide) ?_ | refine sm_get_p1n (by decide) rfl ?_ | refine sm_get_p2n (by decide) (by decide) rfl ?_ | refine sm_get_p2m (by decide) (by decide) (by decide) ?_)) ?_
  refine Bod.get dc_413_40 fr_413_499 (mk_61 _) rfl ?_
  refine Bod.ildnG dc_413_43 (by repeat (first | exact q3 | exact sm_get_p1 | exact sm_get_p2e | refine sm_get_p1m (by decide) (by decide) ?_ | refine sm_get_p1n (by decide) rfl ?_ | refine sm_get_p2n (by decide) (by decide) rfl ?_ | refine sm_get_p2m (by decide) (by decide) (by decide) ?_)) ?_
  refine Bod.laldN ni rfl (by omega) (by omega) dc_413_44 (mk_92 _) ?_
  refine Bod.aldnG dc_413_45 (by repeat (first | exact q0 | exact sm_get_p1 | exact sm_get_p2e | refine sm_get_p1m (by decide) (by decide) ?_ | refine sm_get_p1n (by decide) rfl ?_ | refine sm_get_p2n (by decide) (by decide) rfl ?_ | refine sm_get_p2m (by decide) (by decide) (by decide) ?_)) ?_
  refine Bod.get dc_413_46 fr_413_546 (mk_61 _) rfl ?_
  refine Bod.ildnG dc_413_49 (by repeat (first | exact q3 | exact sm_get_p1 | exact sm_get_p2e | refine sm_get_p1m (by decide) (by decide) ?_ | refine sm_get_p1n (by decide) rfl ?_ | refine sm_get_p2n (by decide) (by decide) rfl ?_ | refine sm_get_p2m (by decide) (by decide) (by decide) ?_)) ?_
  refine Bod.laldN ni rfl (by omega) (by omega) dc_413_50 (mk_93 _) ?_
  refine Bod.virt (r := []) dc_413_51 kr_413_759 ⟨Or.inl rfl, ow_375, cl_13⟩ (by rw [np_375]; rfl) (by rw [np_375]; rfl) (ob_of (mk_thing ag (by first | exact hz1 | (simp only [rIS, rJS, rAS, rLS, rVS, rQS, rS_hold]; exact hz1)))) (Nat.le_of_ble_eq_true rfl) (c1  ) ?_
  show Bod _ _ _ _ [] _ _ _
  refine Bod.incN (ni + 1) (by rw [kc_1, nI_add]) dc_413_54 (by rw [ml_413]; exact Nat.le_of_ble_eq_true rfl) (by repeat (first | exact q3 | exact sm_get_p1 | exact sm_get_p2e | refine sm_get_p1m (by decide) (by decide) ?_ | refine sm_get_p1n (by decide) rfl ?_ | refine sm_get_p2n (by decide) (by decide) rfl ?_ | refine sm_get_p2m (by decide) (by decide) (by decide) ?_)) ?_
  refine Bod.go dc_413_57 rfl ?_
  exact hB _ (by repeat (first | exact q0 | exact sm_get_p1 | exact sm_get_p2e | refine sm_get_p1m (by decide) (by decide) ?_ | refine sm_get_p1n (by decide) rfl ?_ | refine sm_get_p2n (by decide) (by decide) rfl ?_ | refine sm_get_p2m (by decide) (by decide) (by decide) ?_)) (by repeat (first | exact q1 | exact sm_get_p1 | exact sm_get_p2e | refine sm_get_p1m (by decide) (by decide) ?_ | refine sm_get_p1n (by decide) rfl ?_ | refine sm_get_p2n (by decide) (by decide) rfl ?_ | refine sm_get_p2m (by decide) (by decide) (by decide) ?_)) (by repeat (first | exact q2 | exact sm_get_p1 | exact sm_get_p2e | refine sm_get_p1m (by decide) (by decide) ?_ | refine sm_get_p1n (by decide) rfl ?_ | refine sm_get_p2n (by decide) (by decide) rfl ?_ | refine sm_get_p2m (by decide) (by decide) (by decide) ?_)) (by repeat (first | exact q0 | exact sm_get_p1 | exact sm_get_p2e | refine sm_get_p1m (by decide) (by decide) ?_ | refine sm_get_p1n (by decide) rfl ?_ | refine sm_get_p2n (by decide) (by decide) rfl ?_ | refine sm_get_p2m (by decide) (by decide) (by decide) ?_))
theorem rMd_1 {d : Nat} {S Sf : cS} {v : Option Value} {nn : Nat} {t : Nat} (mnn : nn < 2 ^ 20) (ht : sI S 6151 = nI t) (mt : t < 20481) (b1 : 2 * nn ≤ t) (hB : ∀ lv1 : sm_L, sm_get lv1 0 = some (.ref 61) → sm_get lv1 1 = some (.int (nI nn)) → sm_get lv1 2 = some (.int (nI (t - (2 * nn)))) → Bod (d + 8) 414 9 lv1 [] (S) v Sf) : Bod (d + 8) 414 0 [(0, .ref 61), (1, .int (nI nn))] [] S v Sf := by
  refine Bod.go dc_414_0 rfl ?_
  refine Bod.get dc_414_1 fr_414_493 (mk_61 _) rfl ?_
  refine Bod.eqI (nI t) (by first | assumption | rfl | exact congrArg nI (by omega) | (simp (disch := omega) only [rI, rIe, rA, rIA, rLA, rJA, rVI, rQI, rVA, rQA, upd_at,  rAI, rLI, rJI, nI_add, pk_sub, kc_0, kc_1, kc_2, kc_3, kc_4, kc_5, reduceIte, Nat.reduceEqDiff, Nat.add_zero, rI_hold, rI_hold, rL_hold, ht]; done)) ?_
  refine Bod.ic 2 (by decide) dc_414_4 ?_
  refine Bod.go dc_414_5 rfl ?_
  refine Bod.mulN (2 * nn) (by omega) dc_414_6 ?_
  refine Bod.subN (t - (2 * nn)) (by omega) (by omega) dc_414_7 ?_
  refine Bod.istn dc_414_8 (by rw [ml_414]; exact Nat.le_of_ble_eq_true rfl) ?_
  exact hB _ (by first | rfl | exact (by repeat (first | exact rfl | exact sm_get_p1 | exact sm_get_p2e | refine sm_get_p1m (by decide) (by decide) ?_ | refine sm_get_p1n (by decide) rfl ?_ | refine sm_get_p2n (by decide) (by decide) rfl ?_ | refine sm_get_p2m (by decide) (by decide) (by decide) ?_))) (by first | rfl | exact (by repeat (first | exact rfl | exact sm_get_p1 | exact sm_get_p2e | refine sm_get_p1m (by decide) (by decide) ?_ | refine sm_get_p1n (by decide) rfl ?_ | refine sm_get_p2n (by decide) (by decide) rfl ?_ | refine sm_get_p2m (by decide) (by decide) (by decide) ?_))) (by first | rfl | exact (by repeat (first | exact rfl | exact sm_get_p1 | exact sm_get_p2e | refine sm_get_p1m (by decide) (by decide) ?_ | refine sm_get_p1n (by decide) rfl ?_ | refine sm_get_p2n (by decide) (by decide) rfl ?_ | refine sm_get_p2m (by decide) (by decide) (by decide) ?_)))
theorem rMdK_1 {d : Nat} {S Sf : cS} {v : Option Value} {lv : sm_L} {nn : Nat} {ni : Nat} {t : Nat} (q0 : sm_get lv 0 = some (.ref 61)) (q1 : sm_get lv 1 = some (.int (nI nn))) (q2 : sm_get lv 2 = some (.int (nI ni))) (mnn : nn < 2 ^ 20) (mni : ni < 2 ^ 20) (ht : sI S 6151 = nI t) (mt : t < 20481) (b1 : t ≤ ni) (hB : ∀ lv1 : sm_L, sm_get lv1 0 = some (.ref 61) → sm_get lv1 1 = some (.int (nI nn)) → Bod (d + 8) 414 37 lv1 [] (S) v Sf) : Bod (d + 8) 414 9 lv [] S v Sf := by
  refine Bod.ildnG dc_414_9 (by repeat (first | exact q2 | exact sm_get_p1 | exact sm_get_p2e | refine sm_get_p1m (by decide) (by decide) ?_ | refine sm_get_p1n (by decide) rfl ?_ | refine sm_get_p2n (by decide) (by decide) rfl ?_ | refine sm_get_p2m (by decide) (by decide) (by decide) ?_)) ?_
  refine Bod.aldnG dc_414_10 (by repeat (first | exact q0 | exact sm_get_p1 | exact sm_get_p2e | refine sm_get_p1m (by decide) (by decide) ?_ | refine sm_get_p1n (by decide) rfl ?_ | refine sm_get_p2n (by decide) (by decide) rfl ?_ | refine sm_get_p2m (by decide) (by decide) (by decide) ?_)) ?_
  refine Bod.get dc_414_11 fr_414_493 (mk_61 _) rfl ?_
  refine Bod.eqI (nI t) (by first | assumption | rfl | exact congrArg nI (by omega) | (simp (disch := omega) only [rI, rIe, rA, rIA, rLA, rJA, rVI, rQI, rVA, rQA, upd_at,  rAI, rLI, rJI, nI_add, pk_sub, kc_0, kc_1, kc_2, kc_3, kc_4, kc_5, reduceIte, Nat.reduceEqDiff, Nat.add_zero, rI_hold, rI_hold, rL_hold, ht]; done)) ?_
  refine Bod.icT dc_414_14 rfl (k2_ge_T ni t rfl rfl (by omega) (by omega)) ?_
  exact hB _ (by repeat (first | exact q0 | exact sm_get_p1 | exact sm_get_p2e | refine sm_get_p1m (by decide) (by decide) ?_ | refine sm_get_p1n (by decide) rfl ?_ | refine sm_get_p2n (by decide) (by decide) rfl ?_ | refine sm_get_p2m (by decide) (by decide) (by decide) ?_)) (by repeat (first | exact q1 | exact sm_get_p1 | exact sm_get_p2e | refine sm_get_p1m (by decide) (by decide) ?_ | refine sm_get_p1n (by decide) rfl ?_ | refine sm_get_p2n (by decide) (by decide) rfl ?_ | refine sm_get_p2m (by decide) (by decide) (by decide) ?_))
theorem rMdK_2 {d : Nat} {S Sf : cS} {v : Option Value} {lv : sm_L} {nn : Nat} {ni : Nat} {t : Nat} {S1 : cS} (q0 : sm_get lv 0 = some (.ref 61)) (q1 : sm_get lv 1 = some (.int (nI nn))) (q2 : sm_get lv 2 = some (.int (nI ni))) (mnn : nn < 2 ^ 20) (mni : ni < 2 ^ 20) (ht : sI S 6151 = nI t) (mt : t < 20481) (b1 : ni < t) (c1 : Ans (d + 8) 403 [.ref 61, .int (nI ni)] S (some (.int (nI 1))) S1) (hB : ∀ lv1 : sm_L, sm_get lv1 0 = some (.ref 61) → sm_get lv1 1 = some (.int (nI nn)) → sm_get lv1 2 = some (.int (nI (ni + 2))) → Bod (d + 8) 414 9 lv1 [] (S1) v Sf) : Bod (d + 8) 414 9 lv [] S v Sf := by
  refine Bod.ildnG dc_414_9 (by repeat (first | exact q2 | exact sm_get_p1 | exact sm_get_p2e | refine sm_get_p1m (by decide) (by decide) ?_ | refine sm_get_p1n (by decide) rfl ?_ | refine sm_get_p2n (by decide) (by decide) rfl ?_ | refine sm_get_p2m (by decide) (by decide) (by decide) ?_)) ?_
  refine Bod.aldnG dc_414_10 (by repeat (first | exact q0 | exact sm_get_p1 | exact sm_get_p2e | refine sm_get_p1m (by decide) (by decide) ?_ | refine sm_get_p1n (by decide) rfl ?_ | refine sm_get_p2n (by decide) (by decide) rfl ?_ | refine sm_get_p2m (by decide) (by decide) (by decide) ?_)) ?_
  refine Bod.get dc_414_11 fr_414_493 (mk_61 _) rfl ?_
  refine Bod.eqI (nI t) (by first | assumption | rfl | exact congrArg nI (by omega) | (simp (disch := omega) only [rI, rIe, rA, rIA, rLA, rJA, rVI, rQI, rVA, rQA, upd_at,  rAI, rLI, rJI, nI_add, pk_sub, kc_0, kc_1, kc_2, kc_3, kc_4, kc_5, reduceIte, Nat.reduceEqDiff, Nat.add_zero, rI_hold, rI_hold, rL_hold, ht]; done)) ?_
  refine Bod.icF dc_414_14 rfl (k2_ge_F ni t rfl rfl (by omega) (by omega)) ?_
  refine Bod.aldnG dc_414_17 (by repeat (first | exact q0 | exact sm_get_p1 | exact sm_get_p2e | refine sm_get_p1m (by decide) (by decide) ?_ | refine sm_get_p1n (by decide) rfl ?_ | refine sm_get_p2n (by decide) (by decide) rfl ?_ | refine sm_get_p2m (by decide) (by decide) (by decide) ?_)) ?_
  refine Bod.ildnG dc_414_18 (by repeat (first | exact q2 | exact sm_get_p1 | exact sm_get_p2e | refine sm_get_p1m (by decide) (by decide) ?_ | refine sm_get_p1n (by decide) rfl ?_ | refine sm_get_p2n (by decide) (by decide) rfl ?_ | refine sm_get_p2m (by decide) (by decide) (by decide) ?_)) ?_
  refine Bod.virt (r := []) dc_414_19 kr_414_716 ⟨Or.inl rfl, ow_403, cl_14⟩ (by rw [np_403]; rfl) (by rw [np_403]; rfl) (ob_of (mk_61 _)) (Nat.le_of_ble_eq_true rfl) (c1  ) ?_
  show Bod _ _ _ _ [_] _ _ _
  refine Bod.ifT dc_414_22 rfl (k1_ne_T (k_ne 1 0 rfl rfl (by omega) (by omega) (by omega))) ?_
  refine Bod.incN (ni + 2) (by rw [kc_2, nI_add]) dc_414_31 (by rw [ml_414]; exact Nat.le_of_ble_eq_true rfl) (by repeat (first | exact q2 | exact sm_get_p1 | exact sm_get_p2e | refine sm_get_p1m (by decide) (by decide) ?_ | refine sm_get_p1n (by decide) rfl ?_ | refine sm_get_p2n (by decide) (by decide) rfl ?_ | refine sm_get_p2m (by decide) (by decide) (by decide) ?_)) ?_
  refine Bod.go dc_414_34 rfl ?_
  exact hB _ (by repeat (first | exact q0 | exact sm_get_p1 | exact sm_get_p2e | refine sm_get_p1m (by decide) (by decide) ?_ | refine sm_get_p1n (by decide) rfl ?_ | refine sm_get_p2n (by decide) (by decide) rfl ?_ | refine sm_get_p2m (by decide) (by decide) (by decide) ?_)) (by repeat (first | exact q1 | exact sm_get_p1 | exact sm_get_p2e | refine sm_get_p1m (by decide) (by decide) ?_ | refine sm_get_p1n (by decide) rfl ?_ | refine sm_get_p2n (by decide) (by decide) rfl ?_ | refine sm_get_p2m (by decide) (by decide) (by decide) ?_)) (by repeat (first | exact q0 | exact sm_get_p1 | exact sm_get_p2e | refine sm_get_p1m (by decide) (by decide) ?_ | refine sm_get_p1n (by decide) rfl ?_ | refine sm_get_p2n (by decide) (by decide) rfl ?_ | refine sm_get_p2m (by decide) (by decide) (by decide) ?_))
theorem rMdK_3 {d : Nat} {S : cS} {lv : sm_L} {nn : Nat} {ni : Nat} {t : Nat} {S1 : cS} {S2 : cS} (q0 : sm_get lv 0 = some (.ref 61)) (q1 : sm_get lv 1 = some (.int (nI nn))) (q2 : sm_get lv 2 = some (.int (nI ni))) (mnn : nn < 2 ^ 20) (mni : ni < 2 ^ 20) (ht : sI S 6151 = nI t) (mt : t < 20481) (b1 : ni < t) (c1 : Ans (d + 8) 403 [.ref 61, .int (nI ni)] S (some (.int (nI 0))) S1) (c2 : Ans (d + 8) 351 [.ref 61, .int (nI 2)] S1 (some (.int (nI 0))) S2) : Bod (d + 8) 414 9 lv [] S (some (.int 0)) (S2) := by
  refine Bod.ildnG dc_414_9 (by repeat (first | exact q2 | exact sm_get_p1 | exact sm_get_p2e | refine sm_get_p1m (by decide) (by decide) ?_ | refine sm_get_p1n (by decide) rfl ?_ | refine sm_get_p2n (by decide) (by decide) rfl ?_ | refine sm_get_p2m (by decide) (by decide) (by decide) ?_)) ?_
  refine Bod.aldnG dc_414_10 (by repeat (first | exact q0 | exact sm_get_p1 | exact sm_get_p2e | refine sm_get_p1m (by decide) (by decide) ?_ | refine sm_get_p1n (by decide) rfl ?_ | refine sm_get_p2n (by decide) (by decide) rfl ?_ | refine sm_get_p2m (by decide) (by decide) (by decide) ?_)) ?_
  refine Bod.get dc_414_11 fr_414_493 (mk_61 _) rfl ?_
  refine Bod.eqI (nI t) (by first | assumption | rfl | exact congrArg nI (by omega) | (simp (disch := omega) only [rI, rIe, rA, rIA, rLA, rJA, rVI, rQI, rVA, rQA, upd_at,  rAI, rLI, rJI, nI_add, pk_sub, kc_0, kc_1, kc_2, kc_3, kc_4, kc_5, reduceIte, Nat.reduceEqDiff, Nat.add_zero, rI_hold, rI_hold, rL_hold, ht]; done)) ?_
  refine Bod.icF dc_414_14 rfl (k2_ge_F ni t rfl rfl (by omega) (by omega)) ?_
  refine Bod.aldnG dc_414_17 (by repeat (first | exact q0 | exact sm_get_p1 | exact sm_get_p2e | refine sm_get_p1m (by decide) (by decide) ?_ | refine sm_get_p1n (by decide) rfl ?_ | refine sm_get_p2n (by decide) (by decide) rfl ?_ | refine sm_get_p2m (by decide) (by decide) (by decide) ?_)) ?_
  refine Bod.ildnG dc_414_18 (by repeat (first | exact q2 | exact sm_get_p1 | exact sm_get_p2e | refine sm_get_p1m (by decide) (by decide) ?_ | refine sm_get_p1n (by decide) rfl ?_ | refine sm_get_p2n (by decide) (by decide) rfl ?_ | refine sm_get_p2m (by decide) (by decide) (by decide) ?_)) ?_
  refine Bod.virt (r := []) dc_414_19 kr_414_716 ⟨Or.inl rfl, ow_403, cl_14⟩ (by rw [np_403]; rfl) (by rw [np_403]; rfl) (ob_of (mk_61 _)) (Nat.le_of_ble_eq_true rfl) (c1  ) ?_
  show Bod _ _ _ _ [_] _ _ _
  refine Bod.ifF dc_414_22 rfl (k1_ne_F (k_eq 0 0 rfl rfl (by omega))) ?_
  refine Bod.aldnG dc_414_25 (by repeat (first | exact q0 | exact sm_get_p1 | exact sm_get_p2e | refine sm_get_p1m (by decide) (by decide) ?_ | refine sm_get_p1n (by decide) rfl ?_ | refine sm_get_p2n (by decide) (by decide) rfl ?_ | refine sm_get_p2m (by decide) (by decide) (by decide) ?_)) ?_
  refine Bod.ic 2 (by decide) dc_414_26 ?_
  refine Bod.virt (r := []) dc_414_27 kr_414_608 ⟨Or.inl rfl, ow_351, cl_14⟩ (by rw [np_351]; rfl) (by rw [np_351]; rfl) (ob_of (mk_61 _)) (Nat.le_of_ble_eq_true rfl) (c2  ) ?_
  show Bod _ _ _ _ [_] _ _ _
  exact Bod.retZ dc_414_30 rt_414 (Or.inl rfl)
theorem rMdC_1 {d : Nat} {S Sf : cS} {v : Option Value} {lv : sm_L} {nn : Nat} {S1 : cS} {a : Nat} {g : Nat} {zg : Nat} {t : Nat} (q0 : sm_get lv 0 = some (.ref 61)) (q1 : sm_get lv 1 = some (.int (nI nn))) (mnn : nn < 2 ^ 20) (ma : a < 1500) (c1 : Ans (d + 8) 364 [.ref 61, .int (nI 2)] S (some (.int (nI a))) S1) (ag : 108 ≤ g) (hq2 : sQ S1 86 a = some g) (ht : sI S1 6151 = nI t) (mt : t < 20481) (b1 : 2 * nn ≤ t) (hB : ∀ lv1 : sm_L, sm_get lv1 0 = some (.ref 61) → sm_get lv1 1 = some (.int (nI nn)) → sm_get lv1 2 = some (.int (nI a)) → sm_get lv1 3 = some (.ref g) → sm_get lv1 4 = some (.int (nI (t - (2 * nn)))) → Bod (d + 8) 414 66 lv1 [] (S1) v Sf) : Bod (d + 8) 414 37 lv [] S v Sf := by
  refine Bod.aldnG dc_414_37 (by repeat (first | exact q0 | exact sm_get_p1 | exact sm_get_p2e | refine sm_get_p1m (by decide) (by decide) ?_ | refine sm_get_p1n (by decide) rfl ?_ | refine sm_get_p2n (by decide) (by decide) rfl ?_ | refine sm_get_p2m (by decide) (by decide) (by decide) ?_)) ?_
  refine Bod.ic 2 (by decide) dc_414_38 ?_
  refine Bod.virt (r := []) dc_414_39 kr_414_686 ⟨Or.inl rfl, ow_364, cl_14⟩ (by rw [np_364]; rfl) (by rw [np_364]; rfl) (ob_of (mk_61 _)) (Nat.le_of_ble_eq_true rfl) (c1  ) ?_
  show Bod _ _ _ _ [_] _ _ _
  refine Bod.istn dc_414_42 (by rw [ml_414]; exact Nat.le_of_ble_eq_true rfl) ?_
  refine Bod.ildnG dc_414_43 (by repeat (first | exact q0 | exact sm_get_p1 | exact sm_get_p2e | refine sm_get_p1m (by decide) (by decide) ?_ | refine sm_get_p1n (by decide) rfl ?_ | refine sm_get_p2n (by decide) (by decide) rfl ?_ | refine sm_get_p2m (by decide) (by decide) (by decide) ?_)) ?_
  refine Bod.ifT dc_414_44 rfl (k1_ge_T a rfl (by omega)) ?_
  refine Bod.aldnG dc_414_49 (by repeat (first | exact q0 | exact sm_get_p1 | exact sm_get_p2e | refine sm_get_p1m (by decide) (by decide) ?_ | refine sm_get_p1n (by decide) rfl ?_ | refine sm_get_p2n (by decide) (by decide) rfl ?_ | refine sm_get_p2m (by decide) (by decide) (by decide) ?_)) ?_
  refine Bod.get dc_414_50 fr_414_485 (mk_61 _) rfl ?_
  refine Bod.ildnG dc_414_53 (by repeat (first | exact q0 | exact sm_get_p1 | exact sm_get_p2e | refine sm_get_p1m (by decide) (by decide) ?_ | refine sm_get_p1n (by decide) rfl ?_ | refine sm_get_p2n (by decide) (by decide) rfl ?_ | refine sm_get_p2m (by decide) (by decide) (by decide) ?_)) ?_
  refine Bod.aaldR (N := 1500) (b := g) a rfl (by omega) (by omega) (by first | exact hq2 | (simp only [rIQ, rJQ, rAQ, rLQ, rVQ, rQ_holdE]; exact hq2)) dc_414_54 (mk_86 _) ht_5 ?_
  refine Bod.astn dc_414_55 (by rw [ml_414]; exact Nat.le_of_ble_eq_true rfl) ?_
  refine Bod.aldnG dc_414_56 (by repeat (first | exact q0 | exact sm_get_p1 | exact sm_get_p2e | refine sm_get_p1m (by decide) (by decide) ?_ | refine sm_get_p1n (by decide) rfl ?_ | refine sm_get_p2n (by decide) (by decide) rfl ?_ | refine sm_get_p2m (by decide) (by decide) (by decide) ?_)) ?_
  refine Bod.get dc_414_57 fr_414_493 (mk_61 _) rfl ?_
  refine Bod.eqI (nI t) (by first | assumption | (simp (disch := omega) only [rI, rIe, rA, rIA, rLA, rJA, rVI, rQI, rVA, rQA, upd_at,  rAI, rLI, rJI, nI_add, pk_sub, kc_0, kc_1, kc_2, kc_3, kc_4, kc_5, reduceIte, Nat.reduceEqDiff, Nat.add_zero, rI_hold, rI_hold, rL_hold, ht]; done) | (simp (disch := omega) only [rI, rIe, rA, rIA, rLA, rJA, rVI, rQI, rVA, rQA, upd_at,  rAI, rLI, rJI, nI_add, pk_sub, kc_0, kc_1, kc_2, kc_3, kc_4, kc_5, reduceIte, Nat.reduceEqDiff, Nat.add_zero, rI_hold, rI_hold, rL_hold, ht]; exact congrArg nI (by omega))) ?_
  refine Bod.ic 2 (by decide) dc_414_60 ?_
  refine Bod.ildnG dc_414_61 (by repeat (first | exact q1 | exact sm_get_p1 | exact sm_get_p2e | refine sm_get_p1m (by decide) (by decide) ?_ | refine sm_get_p1n (by decide) rfl ?_ | refine sm_get_p2n (by decide) (by decide) rfl ?_ | refine sm_get_p2m (by decide) (by decide) (by decide) ?_)) ?_
  refine Bod.mulN (2 * nn) (by omega) dc_414_62 ?_
  refine Bod.subN (t - (2 * nn)) (by omega) (by omega) dc_414_63 ?_
  refine Bod.ist dc_414_64 (by rw [ml_414]; exact Nat.le_of_ble_eq_true rfl) ?_
  exact hB _ (by repeat (first | exact q0 | exact sm_get_p1 | exact sm_get_p2e | refine sm_get_p1m (by decide) (by decide) ?_ | refine sm_get_p1n (by decide) rfl ?_ | refine sm_get_p2n (by decide) (by decide) rfl ?_ | refine sm_get_p2m (by decide) (by decide) (by decide) ?_)) (by repeat (first | exact q1 | exact sm_get_p1 | exact sm_get_p2e | refine sm_get_p1m (by decide) (by decide) ?_ | refine sm_get_p1n (by decide) rfl ?_ | refine sm_get_p2n (by decide) (by decide) rfl ?_ | refine sm_get_p2m (by decide) (by decide) (by decide) ?_)) (by repeat (first | exact q0 | exact sm_get_p1 | exact sm_get_p2e | refine sm_get_p1m (by decide) (by decide) ?_ | refine sm_get_p1n (by decide) rfl ?_ | refine sm_get_p2n (by decide) (by decide) rfl ?_ | refine sm_get_p2m (by decide) (by decide) (by decide) ?_)) (by repeat (first | exact q0 | exact sm_get_p1 | exact sm_get_p2e | refine sm_get_p1m (by decide) (by decide) ?_ | refine sm_get_p1n (by decide) rfl ?_ | refine sm_get_p2n (by decide) (by decide) rfl ?_ | refine sm_get_p2m (by decide) (by decide) (by decide) ?_)) (by repeat (first | exact q0 | exact sm_get_p1 | exact sm_get_p2e | refine sm_get_p1m (by decide) (by decide) ?_ | refine sm_get_p1n (by decide) rfl ?_ | refine sm_get_p2n (by decide) (by decide) rfl ?_ | refine sm_get_p2m (by decide) (by decide) (by decide) ?_))
theorem rMdC_2 {d : Nat} {S : cS} {lv : sm_L} {nn : Nat} {S1 : cS} (q0 : sm_get lv 0 = some (.ref 61)) (q1 : sm_get lv 1 = some (.int (nI nn))) (mnn : nn < 2 ^ 20) (c1 : Ans (d + 8) 364 [.ref 61, .int (nI 2)] S (some (.int (Int32.ofInt (-1)))) S1) : Bod (d + 8) 414 37 lv [] S (some (.int 0)) (S1) := by
  refine Bod.aldnG dc_414_37 (by repeat (first | exact q0 | exact sm_get_p1 | exact sm_get_p2e | refine sm_get_p1m (by decide) (by decide) ?_ | refine sm_get_p1n (by decide) rfl ?_ | refine sm_get_p2n (by decide) (by decide) rfl ?_ | refine sm_get_p2m (by decide) (by decide) (by decide) ?_)) ?_
  refine Bod.ic 2 (by decide) dc_414_38 ?_
  refine Bod.virt (r := []) dc_414_39 kr_414_686 ⟨Or.inl rfl, ow_364, cl_14⟩ (by rw [np_364]; rfl) (by rw [np_364]; rfl) (ob_of (mk_61 _)) (Nat.le_of_ble_eq_true rfl) (c1  ) ?_
  show Bod _ _ _ _ [_] _ _ _
  refine Bod.istn dc_414_42 (by rw [ml_414]; exact Nat.le_of_ble_eq_true rfl) ?_
  refine Bod.ildnG dc_414_43 (by repeat (first | exact q0 | exact sm_get_p1 | exact sm_get_p2e | refine sm_get_p1m (by decide) (by decide) ?_ | refine sm_get_p1n (by decide) rfl ?_ | refine sm_get_p2n (by decide) (by decide) rfl ?_ | refine sm_get_p2m (by decide) (by decide) (by decide) ?_)) ?_
  refine Bod.ifF dc_414_44 rfl (by decide) ?_
  refine Bod.ic 0 (by decide) dc_414_47 ?_
  exact Bod.retZ dc_414_48 rt_414 (Or.inl rfl)
theorem rBi_1 {d : Nat} {S Sf : cS} {v : Option Value} {t : Nat} {S1 : cS} {S2 : cS} {g : Nat} {zg : Nat} {fd0 : Nat} (ht : sI S 6151 = nI t) (mt : t < 20481) (b1 : 2 ≤ t) (b2 : 1 ≤ t) (c1 : Ans (d + 8) 363 [.ref 61, .int (nI (t - 1)), .int (nI 1)] S (some (.int (nI 1))) S1) (ag : 108 ≤ g) (c2 : Ans (d + 8) 361 [.ref 61, .int (nI (t - 1))] S1 (some (.ref g)) S2) (hz1 : (sS S2)[g - 108]? = some (13, zg)) (hfd0 : sI S2 (100 * g + 0) = nI fd0) (mfd0 : fd0 < 2 ^ 20) (b3 : fd0 ≠ 2) (hB : ∀ lv1 : sm_L, sm_get lv1 0 = some (.ref 61) → sm_get lv1 2 = some (.int (nI (t - 2))) → sm_get lv1 3 = some (.int (nI (t - 1))) → sm_get lv1 4 = some (.int (nI 0)) → sm_get lv1 5 = some (.ref g) → sm_get lv1 6 = some (.int (nI 0)) → Bod (d + 8) 401 196 lv1 [] (S2) v Sf) : Bod (d + 8) 401 0 [(0, .ref 61), (1, .int (nI 1))] [] S v Sf := by
  refine Bod.go dc_401_0 rfl ?_
  refine Bod.get dc_401_1 fr_401_493 (mk_61 _) rfl ?_
  refine Bod.eqI (nI t) (by first | assumption | rfl | exact congrArg nI (by omega) | (simp (disch := omega) only [rI, rIe, rA, rIA, rLA, rJA, rVI, rQI, rVA, rQA, upd_at,  rAI, rLI, rJI, nI_add, pk_sub, kc_0, kc_1, kc_2, kc_3, kc_4, kc_5, reduceIte, Nat.reduceEqDiff, Nat.add_zero, rI_hold, rI_hold, rL_hold, ht]; done)) ?_
  refine Bod.ic 2 (by decide) dc_401_4 ?_
  refine Bod.subN (t - 2) (by omega) (by omega) dc_401_5 ?_
  refine Bod.istn dc_401_6 (by rw [ml_401]; exact Nat.le_of_ble_eq_true rfl) ?_
  refine Bod.go dc_401_7 rfl ?_
  refine Bod.get dc_401_8 fr_401_493 (mk_61 _) rfl ?_
  refine Bod.eqI (nI t) (by first | assumption | rfl | exact congrArg nI (by omega) | (simp (disch := omega) only [rI, rIe, rA, rIA, rLA, rJA, rVI, rQI, rVA, rQA, upd_at,  rAI, rLI, rJI, nI_add, pk_sub, kc_0, kc_1, kc_2, kc_3, kc_4, kc_5, reduceIte, Nat.reduceEqDiff, Nat.add_zero, rI_hold, rI_hold, rL_hold, ht]; done)) ?_
  refine Bod.ic 1 (by decide) dc_401_11 ?_
  refine Bod.subN (t - 1) (by omega) (by omega) dc_401_12 ?_
  refine Bod.istn dc_401_13 (by rw [ml_401]; exact Nat.le_of_ble_eq_true rfl) ?_
  refine Bod.go dc_401_14 rfl ?_
  refine Bod.sw (t := 136) dc_401_15 rfl rfl (by decide +kernel) ?_
  refine Bod.go dc_401_136 rfl ?_
  refine Bod.go dc_401_137 rfl ?_
  refine Bod.ic 1 (by decide) dc_401_138 ?_
  refine Bod.virt (r := []) dc_401_139 kr_401_683 ⟨Or.inl rfl, ow_363, cl_14⟩ (by rw [np_363]; rfl) (by rw [np_363]; rfl) (ob_of (mk_61 _)) (Nat.le_of_ble_eq_true rfl) (c1  ) ?_
  show Bod _ _ _ _ [_] _ _ _
  refine Bod.ifT dc_401_142 rfl (k1_ne_T (k_ne 1 0 rfl rfl (by omega) (by omega) (by omega))) ?_
  refine Bod.go dc_401_160 rfl ?_
  refine Bod.go dc_401_161 rfl ?_
  refine Bod.virt (r := []) dc_401_162 kr_401_554 ⟨Or.inl rfl, ow_361, cl_14⟩ (by rw [np_361]; rfl) (by rw [np_361]; rfl) (ob_of (mk_61 _)) (Nat.le_of_ble_eq_true rfl) (c2  ) ?_
  show Bod _ _ _ _ [_] _ _ _
  refine Bod.ast dc_401_165 (by rw [ml_401]; exact Nat.le_of_ble_eq_true rfl) ?_
  refine Bod.go dc_401_167 rfl ?_
  refine Bod.get dc_401_169 fr_401_531 (mk_thing ag (by first | exact hz1 | (simp only [rIS, rJS, rAS, rLS, rVS, rQS, rS_hold]; exact hz1))) rfl ?_
  refine Bod.eqI (nI fd0) (by first | assumption | (simp (disch := omega) only [rI, rIe, rA, rIA, rLA, rJA, rVI, rQI, rVA, rQA, upd_at,  rAI, rLI, rJI, nI_add, pk_sub, kc_0, kc_1, kc_2, kc_3, kc_4, kc_5, reduceIte, Nat.reduceEqDiff, Nat.add_zero, rI_hold, rI_hold, rL_hold, ht, hfd0]; done) | (simp (disch := omega) only [rI, rIe, rA, rIA, rLA, rJA, rVI, rQI, rVA, rQA, upd_at,  rAI, rLI, rJI, nI_add, pk_sub, kc_0, kc_1, kc_2, kc_3, kc_4, kc_5, reduceIte, Nat.reduceEqDiff, Nat.add_zero, rI_hold, rI_hold, rL_hold, ht, hfd0]; exact congrArg nI (by omega))) ?_
  refine Bod.ic 2 (by decide) dc_401_172 ?_
  refine Bod.icT dc_401_173 rfl (k2_ne_T (k_ne fd0 2 rfl rfl (by omega) (by omega) (by omega))) ?_
  refine Bod.ic 0 (by decide) dc_401_190 ?_
  refine Bod.ist dc_401_191 (by rw [ml_401]; exact Nat.le_of_ble_eq_true rfl) ?_
  refine Bod.ic 0 (by decide) dc_401_193 ?_
  refine Bod.ist dc_401_194 (by rw [ml_401]; exact Nat.le_of_ble_eq_true rfl) ?_
  exact hB _ (by first | rfl | exact (by repeat (first | exact rfl | exact sm_get_p1 | exact sm_get_p2e | refine sm_get_p1m (by decide) (by decide) ?_ | refine sm_get_p1n (by decide) rfl ?_ | refine sm_get_p2n (by decide) (by decide) rfl ?_ | refine sm_get_p2m (by decide) (by decide) (by decide) ?_))) (by first | rfl | exact (by repeat (first | exact rfl | exact sm_get_p1 | exact sm_get_p2e | refine sm_get_p1m (by decide) (by decide) ?_ | refine sm_get_p1n (by decide) rfl ?_ | refine sm_get_p2n (by decide) (by decide) rfl ?_ | refine sm_get_p2m (by decide) (by decide) (by decide) ?_))) (by first | rfl | exact (by repeat (first | exact rfl | exact sm_get_p1 | exact sm_get_p2e | refine sm_get_p1m (by decide) (by decide) ?_ | refine sm_get_p1n (by decide) rfl ?_ | refine sm_get_p2n (by decide) (by decide) rfl ?_ | refine sm_get_p2m (by decide) (by decide) (by decide) ?_))) (by first | rfl | exact (by repeat (first | exact rfl | exact sm_get_p1 | exact sm_get_p2e | refine sm_get_p1m (by decide) (by decide) ?_ | refine sm_get_p1n (by decide) rfl ?_ | refine sm_get_p2n (by decide) (by decide) rfl ?_ | refine sm_get_p2m (by decide) (by decide) (by decide) ?_))) (by first | rfl | exact (by repeat (first | exact rfl | exact sm_get_p1 | exact sm_get_p2e | refine sm_get_p1m (by decide) (by decide) ?_ | refine sm_get_p1n (by decide) rfl ?_ | refine sm_get_p2n (by decide) (by decide) rfl ?_ | refine sm_get_p2m (by decide) (by decide) (by decide) ?_))) (by first | rfl | exact (by repeat (first | exact rfl | exact sm_get_p1 | exact sm_get_p2e | refine sm_get_p1m (by decide) (by decide) ?_ | refine sm_get_p1n (by decide) rfl ?_ | refine sm_get_p2n (by decide) (by decide) rfl ?_ | refine sm_get_p2m (by decide) (by decide) (by decide) ?_)))
theorem rBi_2 {d : Nat} {S Sf : cS} {v : Option Value} {t : Nat} {S1 : cS} {S2 : cS} {g : Nat} {zg : Nat} {fd0 : Nat} {S3 : cS} (ht : sI S 6151 = nI t) (mt : t < 20481) (b1 : 2 ≤ t) (b2 : 1 ≤ t) (c1 : Ans (d + 8) 363 [.ref 61, .int (nI (t - 1)), .int (nI 1)] S (some (.int (nI 1))) S1) (ag : 108 ≤ g) (c2 : Ans (d + 8) 361 [.ref 61, .int (nI (t - 1))] S1 (some (.ref g)) S2) (hz1 : (sS S2)[g - 108]? = some (13, zg)) (hfd0 : sI S2 (100 * g + 0) = nI fd0) (mfd0 : fd0 < 2 ^ 20) (b3 : fd0 = 2) (c3 : Ans (d + 8) 403 [.ref 61, .int (nI (t - 2))] S2 (some (.int (nI 1))) S3) (hB : ∀ lv1 : sm_L, sm_get lv1 0 = some (.ref 61) → sm_get lv1 2 = some (.int (nI (t - 2))) → sm_get lv1 3 = some (.int (nI (t - 1))) → sm_get lv1 4 = some (.int (nI 0)) → sm_get lv1 5 = some (.ref g) → sm_get lv1 6 = some (.int (nI 0)) → Bod (d + 8) 401 196 lv1 [] (S3) v Sf) : Bod (d + 8) 401 0 [(0, .ref 61), (1, .int (nI 1))] [] S v Sf := by
  refine Bod.go dc_401_0 rfl ?_
  refine Bod.get dc_401_1 fr_401_493 (mk_61 _) rfl ?_
  refine Bod.eqI (nI t) (by first | assumption | rfl | exact congrArg nI (by omega) | (simp (disch := omega) only [rI, rIe, rA, rIA, rLA, rJA, rVI, rQI, rVA, rQA, upd_at,  rAI, rLI, rJI, nI_add, pk_sub, kc_0, kc_1, kc_2, kc_3, kc_4, kc_5, reduceIte, Nat.reduceEqDiff, Nat.add_zero, rI_hold, rI_hold, rL_hold, ht]; done)) ?_
  refine Bod.ic 2 (by decide) dc_401_4 ?_
  refine Bod.subN (t - 2) (by omega) (by omega) dc_401_5 ?_
  refine Bod.istn dc_401_6 (by rw [ml_401]; exact Nat.le_of_ble_eq_true rfl) ?_
  refine Bod.go dc_401_7 rfl ?_
  refine Bod.get dc_401_8 fr_401_493 (mk_61 _) rfl ?_
  refine Bod.eqI (nI t) (by first | assumption | rfl | exact congrArg nI (by omega) | (simp (disch := omega) only [rI, rIe, rA, rIA, rLA, rJA, rVI, rQI, rVA, rQA, upd_at,  rAI, rLI, rJI, nI_add, pk_sub, kc_0, kc_1, kc_2, kc_3, kc_4, kc_5, reduceIte, Nat.reduceEqDiff, Nat.add_zero, rI_hold, rI_hold, rL_hold, ht]; done)) ?_
  refine Bod.ic 1 (by decide) dc_401_11 ?_
  refine Bod.subN (t - 1) (by omega) (by omega) dc_401_12 ?_
  refine Bod.istn dc_401_13 (by rw [ml_401]; exact Nat.le_of_ble_eq_true rfl) ?_
  refine Bod.go dc_401_14 rfl ?_
  refine Bod.sw (t := 136) dc_401_15 rfl rfl (by decide +kernel) ?_
  refine Bod.go dc_401_136 rfl ?_
  refine Bod.go dc_401_137 rfl ?_
  refine Bod.ic 1 (by decide) dc_401_138 ?_
  refine Bod.virt (r := []) dc_401_139 kr_401_683 ⟨Or.inl rfl, ow_363, cl_14⟩ (by rw [np_363]; rfl) (by rw [np_363]; rfl) (ob_of (mk_61 _)) (Nat.le_of_ble_eq_true rfl) (c1  ) ?_
  show Bod _ _ _ _ [_] _ _ _
  refine Bod.ifT dc_401_142 rfl (k1_ne_T (k_ne 1 0 rfl rfl (by omega) (by omega) (by omega))) ?_
  refine Bod.go dc_401_160 rfl ?_
  refine Bod.go dc_401_161 rfl ?_
  refine Bod.virt (r := []) dc_401_162 kr_401_554 ⟨Or.inl rfl, ow_361, cl_14⟩ (by rw [np_361]; rfl) (by rw [np_361]; rfl) (ob_of (mk_61 _)) (Nat.le_of_ble_eq_true rfl) (c2  ) ?_
  show Bod _ _ _ _ [_] _ _ _
  refine Bod.ast dc_401_165 (by rw [ml_401]; exact Nat.le_of_ble_eq_true rfl) ?_
  refine Bod.go dc_401_167 rfl ?_
  refine Bod.get dc_401_169 fr_401_531 (mk_thing ag (by first | exact hz1 | (simp only [rIS, rJS, rAS, rLS, rVS, rQS, rS_hold]; exact hz1))) rfl ?_
  refine Bod.eqI (nI fd0) (by first | assumption | (simp (disch := omega) only [rI, rIe, rA, rIA, rLA, rJA, rVI, rQI, rVA, rQA, upd_at,  rAI, rLI, rJI, nI_add, pk_sub, kc_0, kc_1, kc_2, kc_3, kc_4, kc_5, reduceIte, Nat.reduceEqDiff, Nat.add_zero, rI_hold, rI_hold, rL_hold, ht, hfd0]; done) | (simp (disch := omega) only [rI, rIe, rA, rIA, rLA, rJA, rVI, rQI, rVA, rQA, upd_at,  rAI, rLI, rJI, nI_add, pk_sub, kc_0, kc_1, kc_2, kc_3, kc_4, kc_5, reduceIte, Nat.reduceEqDiff, Nat.add_zero, rI_hold, rI_hold, rL_hold, ht, hfd0]; exact congrArg nI (by omega))) ?_
  refine Bod.ic 2 (by decide) dc_401_172 ?_
  refine Bod.icF dc_401_173 rfl (k2_ne_F (k_eq fd0 2 rfl rfl (by omega))) ?_
  refine Bod.go dc_401_176 rfl ?_
  refine Bod.go dc_401_177 rfl ?_
  refine Bod.virt (r := []) dc_401_178 kr_401_716 ⟨Or.inl rfl, ow_403, cl_14⟩ (by rw [np_403]; rfl) (by rw [np_403]; rfl) (ob_of (mk_61 _)) (Nat.le_of_ble_eq_true rfl) (c3  ) ?_
  show Bod _ _ _ _ [_] _ _ _
  refine Bod.ifT dc_401_181 rfl (k1_ne_T (k_ne 1 0 rfl rfl (by omega) (by omega) (by omega))) ?_
  refine Bod.ic 0 (by decide) dc_401_190 ?_
  refine Bod.ist dc_401_191 (by rw [ml_401]; exact Nat.le_of_ble_eq_true rfl) ?_
  refine Bod.ic 0 (by decide) dc_401_193 ?_
  refine Bod.ist dc_401_194 (by rw [ml_401]; exact Nat.le_of_ble_eq_true rfl) ?_
  exact hB _ (by first | rfl | exact (by repeat (first | exact rfl | exact sm_get_p1 | exact sm_get_p2e | refine sm_get_p1m (by decide) (by decide) ?_ | refine sm_get_p1n (by decide) rfl ?_ | refine sm_get_p2n (by decide) (by decide) rfl ?_ | refine sm_get_p2m (by decide) (by decide) (by decide) ?_))) (by first | rfl | exact (by repeat (first | exact rfl | exact sm_get_p1 | exact sm_get_p2e | refine sm_get_p1m (by decide) (by decide) ?_ | refine sm_get_p1n (by decide) rfl ?_ | refine sm_get_p2n (by decide) (by decide) rfl ?_ | refine sm_get_p2m (by decide) (by decide) (by decide) ?_))) (by first | rfl | exact (by repeat (first | exact rfl | exact sm_get_p1 | exact sm_get_p2e | refine sm_get_p1m (by decide) (by decide) ?_ | refine sm_get_p1n (by decide) rfl ?_ | refine sm_get_p2n (by decide) (by decide) rfl ?_ | refine sm_get_p2m (by decide) (by decide) (by decide) ?_))) (by first | rfl | exact (by repeat (first | exact rfl | exact sm_get_p1 | exact sm_get_p2e | refine sm_get_p1m (by decide) (by decide) ?_ | refine sm_get_p1n (by decide) rfl ?_ | refine sm_get_p2n (by decide) (by decide) rfl ?_ | refine sm_get_p2m (by decide) (by decide) (by decide) ?_))) (by first | rfl | exact (by repeat (first | exact rfl | exact sm_get_p1 | exact sm_get_p2e | refine sm_get_p1m (by decide) (by decide) ?_ | refine sm_get_p1n (by decide) rfl ?_ | refine sm_get_p2n (by decide) (by decide) rfl ?_ | refine sm_get_p2m (by decide) (by decide) (by decide) ?_))) (by first | rfl | exact (by repeat (first | exact rfl | exact sm_get_p1 | exact sm_get_p2e | refine sm_get_p1m (by decide) (by decide) ?_ | refine sm_get_p1n (by decide) rfl ?_ | refine sm_get_p2n (by decide) (by decide) rfl ?_ | refine sm_get_p2m (by decide) (by decide) (by decide) ?_)))
theorem rBi_3 {d : Nat} {S : cS} {t : Nat} {S1 : cS} {S2 : cS} {g : Nat} {zg : Nat} {fd0 : Nat} {S3 : cS} {S4 : cS} (ht : sI S 6151 = nI t) (mt : t < 20481) (b1 : 2 ≤ t) (b2 : 1 ≤ t) (c1 : Ans (d + 8) 363 [.ref 61, .int (nI (t - 1)), .int (nI 1)] S (some (.int (nI 1))) S1) (ag : 108 ≤ g) (c2 : Ans (d + 8) 361 [.ref 61, .int (nI (t - 1))] S1 (some (.ref g)) S2) (hz1 : (sS S2)[g - 108]? = some (13, zg)) (hfd0 : sI S2 (100 * g + 0) = nI fd0) (mfd0 : fd0 < 2 ^ 20) (b3 : fd0 = 2) (c3 : Ans (d + 8) 403 [.ref 61, .int (nI (t - 2))] S2 (some (.int (nI 0))) S3) (c4 : Ans (d + 8) 351 [.ref 61, .int (nI 2)] S3 (some (.int (nI 0))) S4) : Bod (d + 8) 401 0 [(0, .ref 61), (1, .int (nI 1))] [] S (some (.int 0)) (S4) := by
  refine Bod.go dc_401_0 rfl ?_
  refine Bod.get dc_401_1 fr_401_493 (mk_61 _) rfl ?_
  refine Bod.eqI (nI t) (by first | assumption | rfl | exact congrArg nI (by omega) | (simp (disch := omega) only [rI, rIe, rA, rIA, rLA, rJA, rVI, rQI, rVA, rQA, upd_at,  rAI, rLI, rJI, nI_add, pk_sub, kc_0, kc_1, kc_2, kc_3, kc_4, kc_5, reduceIte, Nat.reduceEqDiff, Nat.add_zero, rI_hold, rI_hold, rL_hold, ht]; done)) ?_
  refine Bod.ic 2 (by decide) dc_401_4 ?_
  refine Bod.subN (t - 2) (by omega) (by omega) dc_401_5 ?_
  refine Bod.istn dc_401_6 (by rw [ml_401]; exact Nat.le_of_ble_eq_true rfl) ?_
  refine Bod.go dc_401_7 rfl ?_
  refine Bod.get dc_401_8 fr_401_493 (mk_61 _) rfl ?_
  refine Bod.eqI (nI t) (by first | assumption | rfl | exact congrArg nI (by omega) | (simp (disch := omega) only [rI, rIe, rA, rIA, rLA, rJA, rVI, rQI, rVA, rQA, upd_at,  rAI, rLI, rJI, nI_add, pk_sub, kc_0, kc_1, kc_2, kc_3, kc_4, kc_5, reduceIte, Nat.reduceEqDiff, Nat.add_zero, rI_hold, rI_hold, rL_hold, ht]; done)) ?_
  refine Bod.ic 1 (by decide) dc_401_11 ?_
  refine Bod.subN (t - 1) (by omega) (by omega) dc_401_12 ?_
  refine Bod.istn dc_401_13 (by rw [ml_401]; exact Nat.le_of_ble_eq_true rfl) ?_
  refine Bod.go dc_401_14 rfl ?_
  refine Bod.sw (t := 136) dc_401_15 rfl rfl (by decide +kernel) ?_
  refine Bod.go dc_401_136 rfl ?_
  refine Bod.go dc_401_137 rfl ?_
  refine Bod.ic 1 (by decide) dc_401_138 ?_
  refine Bod.virt (r := []) dc_401_139 kr_401_683 ⟨Or.inl rfl, ow_363, cl_14⟩ (by rw [np_363]; rfl) (by rw [np_363]; rfl) (ob_of (mk_61 _)) (Nat.le_of_ble_eq_true rfl) (c1  ) ?_
  show Bod _ _ _ _ [_] _ _ _
  refine Bod.ifT dc_401_142 rfl (k1_ne_T (k_ne 1 0 rfl rfl (by omega) (by omega) (by omega))) ?_
  refine Bod.go dc_401_160 rfl ?_
  refine Bod.go dc_401_161 rfl ?_
  refine Bod.virt (r := []) dc_401_162 kr_401_554 ⟨Or.inl rfl, ow_361, cl_14⟩ (by rw [np_361]; rfl) (by rw [np_361]; rfl) (ob_of (mk_61 _)) (Nat.le_of_ble_eq_true rfl) (c2  ) ?_
  show Bod _ _ _ _ [_] _ _ _
  refine Bod.ast dc_401_165 (by rw [ml_401]; exact Nat.le_of_ble_eq_true rfl) ?_
  refine Bod.go dc_401_167 rfl ?_
  refine Bod.get dc_401_169 fr_401_531 (mk_thing ag (by first | exact hz1 | (simp only [rIS, rJS, rAS, rLS, rVS, rQS, rS_hold]; exact hz1))) rfl ?_
  refine Bod.eqI (nI fd0) (by first | assumption | (simp (disch := omega) only [rI, rIe, rA, rIA, rLA, rJA, rVI, rQI, rVA, rQA, upd_at,  rAI, rLI, rJI, nI_add, pk_sub, kc_0, kc_1, kc_2, kc_3, kc_4, kc_5, reduceIte, Nat.reduceEqDiff, Nat.add_zero, rI_hold, rI_hold, rL_hold, ht, hfd0]; done) | (simp (disch := omega) only [rI, rIe, rA, rIA, rLA, rJA, rVI, rQI, rVA, rQA, upd_at,  rAI, rLI, rJI, nI_add, pk_sub, kc_0, kc_1, kc_2, kc_3, kc_4, kc_5, reduceIte, Nat.reduceEqDiff, Nat.add_zero, rI_hold, rI_hold, rL_hold, ht, hfd0]; exact congrArg nI (by omega))) ?_
  refine Bod.ic 2 (by decide) dc_401_172 ?_
  refine Bod.icF dc_401_173 rfl (k2_ne_F (k_eq fd0 2 rfl rfl (by omega))) ?_
  refine Bod.go dc_401_176 rfl ?_
  refine Bod.go dc_401_177 rfl ?_
  refine Bod.virt (r := []) dc_401_178 kr_401_716 ⟨Or.inl rfl, ow_403, cl_14⟩ (by rw [np_403]; rfl) (by rw [np_403]; rfl) (ob_of (mk_61 _)) (Nat.le_of_ble_eq_true rfl) (c3  ) ?_
  show Bod _ _ _ _ [_] _ _ _
  refine Bod.ifF dc_401_181 rfl (k1_ne_F (k_eq 0 0 rfl rfl (by omega))) ?_
  refine Bod.go dc_401_184 rfl ?_
  refine Bod.ic 2 (by decide) dc_401_185 ?_
  refine Bod.virt (r := []) dc_401_186 kr_401_608 ⟨Or.inl rfl, ow_351, cl_14⟩ (by rw [np_351]; rfl) (by rw [np_351]; rfl) (ob_of (mk_61 _)) (Nat.le_of_ble_eq_true rfl) (c4  ) ?_
  show Bod _ _ _ _ [_] _ _ _
  exact Bod.retZ dc_401_189 rt_401 (Or.inl rfl)
theorem rBi_4 {d : Nat} {S Sf : cS} {v : Option Value} {t : Nat} {S1 : cS} {S2 : cS} {S3 : cS} {g : Nat} {zg : Nat} {fd0 : Nat} (ht : sI S 6151 = nI t) (mt : t < 20481) (b1 : 2 ≤ t) (b2 : 1 ≤ t) (c1 : Ans (d + 8) 363 [.ref 61, .int (nI (t - 1)), .int (nI 1)] S (some (.int (nI 0))) S1) (c2 : Ans (d + 8) 363 [.ref 61, .int (nI (t - 1)), .int (nI 2)] S1 (some (.int (nI 1))) S2) (ag : 108 ≤ g) (c3 : Ans (d + 8) 361 [.ref 61, .int (nI (t - 1))] S2 (some (.ref g)) S3) (hz1 : (sS S3)[g - 108]? = some (13, zg)) (hfd0 : sI S3 (100 * g + 0) = nI fd0) (mfd0 : fd0 < 2 ^ 20) (b3 : fd0 ≠ 2) (hB : ∀ lv1 : sm_L, sm_get lv1 0 = some (.ref 61) → sm_get lv1 2 = some (.int (nI (t - 2))) → sm_get lv1 3 = some (.int (nI (t - 1))) → sm_get lv1 4 = some (.int (nI 0)) → sm_get lv1 5 = some (.ref g) → sm_get lv1 6 = some (.int (nI 0)) → Bod (d + 8) 401 196 lv1 [] (S3) v Sf) : Bod (d + 8) 401 0 [(0, .ref 61), (1, .int (nI 1))] [] S v Sf := by
  refine Bod.go dc_401_0 rfl ?_
  refine Bod.get dc_401_1 fr_401_493 (mk_61 _) rfl ?_
  refine Bod.eqI (nI t) (by first | assumption | rfl | exact congrArg nI (by omega) | (simp (disch := omega) only [rI, rIe, rA, rIA, rLA, rJA, rVI, rQI, rVA, rQA, upd_at,  rAI, rLI, rJI, nI_add, pk_sub, kc_0, kc_1, kc_2, kc_3, kc_4, kc_5, reduceIte, Nat.reduceEqDiff, Nat.add_zero, rI_hold, rI_hold, rL_hold, ht]; done)) ?_
  refine Bod.ic 2 (by decide) dc_401_4 ?_
  refine Bod.subN (t - 2) (by omega) (by omega) dc_401_5 ?_
  refine Bod.istn dc_401_6 (by rw [ml_401]; exact Nat.le_of_ble_eq_true rfl) ?_
  refine Bod.go dc_401_7 rfl ?_
  refine Bod.get dc_401_8 fr_401_493 (mk_61 _) rfl ?_
  refine Bod.eqI (nI t) (by first | assumption | rfl | exact congrArg nI (by omega) | (simp (disch := omega) only [rI, rIe, rA, rIA, rLA, rJA, rVI, rQI, rVA, rQA, upd_at,  rAI, rLI, rJI, nI_add, pk_sub, kc_0, kc_1, kc_2, kc_3, kc_4, kc_5, reduceIte, Nat.reduceEqDiff, Nat.add_zero, rI_hold, rI_hold, rL_hold, ht]; done)) ?_
  refine Bod.ic 1 (by decide) dc_401_11 ?_
  refine Bod.subN (t - 1) (by omega) (by omega) dc_401_12 ?_
  refine Bod.istn dc_401_13 (by rw [ml_401]; exact Nat.le_of_ble_eq_true rfl) ?_
  refine Bod.go dc_401_14 rfl ?_
  refine Bod.sw (t := 136) dc_401_15 rfl rfl (by decide +kernel) ?_
  refine Bod.go dc_401_136 rfl ?_
  refine Bod.go dc_401_137 rfl ?_
  refine Bod.ic 1 (by decide) dc_401_138 ?_
  refine Bod.virt (r := []) dc_401_139 kr_401_683 ⟨Or.inl rfl, ow_363, cl_14⟩ (by rw [np_363]; rfl) (by rw [np_363]; rfl) (ob_of (mk_61 _)) (Nat.le_of_ble_eq_true rfl) (c1  ) ?_
  show Bod _ _ _ _ [_] _ _ _
  refine Bod.ifF dc_401_142 rfl (k1_ne_F (k_eq 0 0 rfl rfl (by omega))) ?_
  refine Bod.go dc_401_145 rfl ?_
  refine Bod.go dc_401_146 rfl ?_
  refine Bod.ic 2 (by decide) dc_401_147 ?_
  refine Bod.virt (r := []) dc_401_148 kr_401_683 ⟨Or.inl rfl, ow_363, cl_14⟩ (by rw [np_363]; rfl) (by rw [np_363]; rfl) (ob_of (mk_61 _)) (Nat.le_of_ble_eq_true rfl) (c2  ) ?_
  show Bod _ _ _ _ [_] _ _ _
  refine Bod.ifT dc_401_151 rfl (k1_ne_T (k_ne 1 0 rfl rfl (by omega) (by omega) (by omega))) ?_
  refine Bod.go dc_401_160 rfl ?_
  refine Bod.go dc_401_161 rfl ?_
  refine Bod.virt (r := []) dc_401_162 kr_401_554 ⟨Or.inl rfl, ow_361, cl_14⟩ (by rw [np_361]; rfl) (by rw [np_361]; rfl) (ob_of (mk_61 _)) (Nat.le_of_ble_eq_true rfl) (c3  ) ?_
  show Bod _ _ _ _ [_] _ _ _
  refine Bod.ast dc_401_165 (by rw [ml_401]; exact Nat.le_of_ble_eq_true rfl) ?_
  refine Bod.go dc_401_167 rfl ?_
  refine Bod.get dc_401_169 fr_401_531 (mk_thing ag (by first | exact hz1 | (simp only [rIS, rJS, rAS, rLS, rVS, rQS, rS_hold]; exact hz1))) rfl ?_
  refine Bod.eqI (nI fd0) (by first | assumption | (simp (disch := omega) only [rI, rIe, rA, rIA, rLA, rJA, rVI, rQI, rVA, rQA, upd_at,  rAI, rLI, rJI, nI_add, pk_sub, kc_0, kc_1, kc_2, kc_3, kc_4, kc_5, reduceIte, Nat.reduceEqDiff, Nat.add_zero, rI_hold, rI_hold, rL_hold, ht, hfd0]; done) | (simp (disch := omega) only [rI, rIe, rA, rIA, rLA, rJA, rVI, rQI, rVA, rQA, upd_at,  rAI, rLI, rJI, nI_add, pk_sub, kc_0, kc_1, kc_2, kc_3, kc_4, kc_5, reduceIte, Nat.reduceEqDiff, Nat.add_zero, rI_hold, rI_hold, rL_hold, ht, hfd0]; exact congrArg nI (by omega))) ?_
  refine Bod.ic 2 (by decide) dc_401_172 ?_
  refine Bod.icT dc_401_173 rfl (k2_ne_T (k_ne fd0 2 rfl rfl (by omega) (by omega) (by omega))) ?_
  refine Bod.ic 0 (by decide) dc_401_190 ?_
  refine Bod.ist dc_401_191 (by rw [ml_401]; exact Nat.le_of_ble_eq_true rfl) ?_
  refine Bod.ic 0 (by decide) dc_401_193 ?_
  refine Bod.ist dc_401_194 (by rw [ml_401]; exact Nat.le_of_ble_eq_true rfl) ?_
  exact hB _ (by first | rfl | exact (by repeat (first | exact rfl | exact sm_get_p1 | exact sm_get_p2e | refine sm_get_p1m (by decide) (by decide) ?_ | refine sm_get_p1n (by decide) rfl ?_ | refine sm_get_p2n (by decide) (by decide) rfl ?_ | refine sm_get_p2m (by decide) (by decide) (by decide) ?_))) (by first | rfl | exact (by repeat (first | exact rfl | exact sm_get_p1 | exact sm_get_p2e | refine sm_get_p1m (by decide) (by decide) ?_ | refine sm_get_p1n (by decide) rfl ?_ | refine sm_get_p2n (by decide) (by decide) rfl ?_ | refine sm_get_p2m (by decide) (by decide) (by decide) ?_))) (by first | rfl | exact (by repeat (first | exact rfl | exact sm_get_p1 | exact sm_get_p2e | refine sm_get_p1m (by decide) (by decide) ?_ | refine sm_get_p1n (by decide) rfl ?_ | refine sm_get_p2n (by decide) (by decide) rfl ?_ | refine sm_get_p2m (by decide) (by decide) (by decide) ?_))) (by first | rfl | exact (by repeat (first | exact rfl | exact sm_get_p1 | exact sm_get_p2e | refine sm_get_p1m (by decide) (by decide) ?_ | refine sm_get_p1n (by decide) rfl ?_ | refine sm_get_p2n (by decide) (by decide) rfl ?_ | refine sm_get_p2m (by decide) (by decide) (by decide) ?_))) (by first | rfl | exact (by repeat (first | exact rfl | exact sm_get_p1 | exact sm_get_p2e | refine sm_get_p1m (by decide) (by decide) ?_ | refine sm_get_p1n (by decide) rfl ?_ | refine sm_get_p2n (by decide) (by decide) rfl ?_ | refine sm_get_p2m (by decide) (by decide) (by decide) ?_))) (by first | rfl | exact (by repeat (first | exact rfl | exact sm_get_p1 | exact sm_get_p2e | refine sm_get_p1m (by decide) (by decide) ?_ | refine sm_get_p1n (by decide) rfl ?_ | refine sm_get_p2n (by decide) (by decide) rfl ?_ | refine sm_get_p2m (by decide) (by decide) (by decide) ?_)))
theorem rBi_5 {d : Nat} {S Sf : cS} {v : Option Value} {t : Nat} {S1 : cS} {S2 : cS} {S3 : cS} {g : Nat} {zg : Nat} {fd0 : Nat} {S4 : cS} (ht : sI S 6151 = nI t) (mt : t < 20481) (b1 : 2 ≤ t) (b2 : 1 ≤ t) (c1 : Ans (d + 8) 363 [.ref 61, .int (nI (t - 1)), .int (nI 1)] S (some (.int (nI 0))) S1) (c2 : Ans (d + 8) 363 [.ref 61, .int (nI (t - 1)), .int (nI 2)] S1 (some (.int (nI 1))) S2) (ag : 108 ≤ g) (c3 : Ans (d + 8) 361 [.ref 61, .int (nI (t - 1))] S2 (some (.ref g)) S3) (hz1 : (sS S3)[g - 108]? = some (13, zg)) (hfd0 : sI S3 (100 * g + 0) = nI fd0) (mfd0 : fd0 < 2 ^ 20) (b3 : fd0 = 2) (c4 : Ans (d + 8) 403 [.ref 61, .int (nI (t - 2))] S3 (some (.int (nI 1))) S4) (hB : ∀ lv1 : sm_L, sm_get lv1 0 = some (.ref 61) → sm_get lv1 2 = some (.int (nI (t - 2))) → sm_get lv1 3 = some (.int (nI (t - 1))) → sm_get lv1 4 = some (.int (nI 0)) → sm_get lv1 5 = some (.ref g) → sm_get lv1 6 = some (.int (nI 0)) → Bod (d + 8) 401 196 lv1 [] (S4) v Sf) : Bod (d + 8) 401 0 [(0, .ref 61), (1, .int (nI 1))] [] S v Sf := by
  refine Bod.go dc_401_0 rfl ?_
  refine Bod.get dc_401_1 fr_401_493 (mk_61 _) rfl ?_
  refine Bod.eqI (nI t) (by first | assumption | rfl | exact congrArg nI (by omega) | (simp (disch := omega) only [rI, rIe, rA, rIA, rLA, rJA, rVI, rQI, rVA, rQA, upd_at,  rAI, rLI, rJI, nI_add, pk_sub, kc_0, kc_1, kc_2, kc_3, kc_4, kc_5, reduceIte, Nat.reduceEqDiff, Nat.add_zero, rI_hold, rI_hold, rL_hold, ht]; done)) ?_
  refine Bod.ic 2 (by decide) dc_401_4 ?_
  refine Bod.subN (t - 2) (by omega) (by omega) dc_401_5 ?_
  refine Bod.istn dc_401_6 (by rw [ml_401]; exact Nat.le_of_ble_eq_true rfl) ?_
  refine Bod.go dc_401_7 rfl ?_
  refine Bod.get dc_401_8 fr_401_493 (mk_61 _) rfl ?_
  refine Bod.eqI (nI t) (by first | assumption | rfl | exact congrArg nI (by omega) | (simp (disch := omega) only [rI, rIe, rA, rIA, rLA, rJA, rVI, rQI, rVA, rQA, upd_at,  rAI, rLI, rJI, nI_add, pk_sub, kc_0, kc_1, kc_2, kc_3, kc_4, kc_5, reduceIte, Nat.reduceEqDiff, Nat.add_zero, rI_hold, rI_hold, rL_hold, ht]; done)) ?_
  refine Bod.ic 1 (by decide) dc_401_11 ?_
  refine Bod.subN (t - 1) (by omega) (by omega) dc_401_12 ?_
  refine Bod.istn dc_401_13 (by rw [ml_401]; exact Nat.le_of_ble_eq_true rfl) ?_
  refine Bod.go dc_401_14 rfl ?_
  refine Bod.sw (t := 136) dc_401_15 rfl rfl (by decide +kernel) ?_
  refine Bod.go dc_401_136 rfl ?_
  refine Bod.go dc_401_137 rfl ?_
  refine Bod.ic 1 (by decide) dc_401_138 ?_
  refine Bod.virt (r := []) dc_401_139 kr_401_683 ⟨Or.inl rfl, ow_363, cl_14⟩ (by rw [np_363]; rfl) (by rw [np_363]; rfl) (ob_of (mk_61 _)) (Nat.le_of_ble_eq_true rfl) (c1  ) ?_
  show Bod _ _ _ _ [_] _ _ _
  refine Bod.ifF dc_401_142 rfl (k1_ne_F (k_eq 0 0 rfl rfl (by omega))) ?_
  refine Bod.go dc_401_145 rfl ?_
  refine Bod.go dc_401_146 rfl ?_
  refine Bod.ic 2 (by decide) dc_401_147 ?_
  refine Bod.virt (r := []) dc_401_148 kr_401_683 ⟨Or.inl rfl, ow_363, cl_14⟩ (by rw [np_363]; rfl) (by rw [np_363]; rfl) (ob_of (mk_61 _)) (Nat.le_of_ble_eq_true rfl) (c2  ) ?_
  show Bod _ _ _ _ [_] _ _ _
  refine Bod.ifT dc_401_151 rfl (k1_ne_T (k_ne 1 0 rfl rfl (by omega) (by omega) (by omega))) ?_
  refine Bod.go dc_401_160 rfl ?_
  refine Bod.go dc_401_161 rfl ?_
  refine Bod.virt (r := []) dc_401_162 kr_401_554 ⟨Or.inl rfl, ow_361, cl_14⟩ (by rw [np_361]; rfl) (by rw [np_361]; rfl) (ob_of (mk_61 _)) (Nat.le_of_ble_eq_true rfl) (c3  ) ?_
  show Bod _ _ _ _ [_] _ _ _
  refine Bod.ast dc_401_165 (by rw [ml_401]; exact Nat.le_of_ble_eq_true rfl) ?_
  refine Bod.go dc_401_167 rfl ?_
  refine Bod.get dc_401_169 fr_401_531 (mk_thing ag (by first | exact hz1 | (simp only [rIS, rJS, rAS, rLS, rVS, rQS, rS_hold]; exact hz1))) rfl ?_
  refine Bod.eqI (nI fd0) (by first | assumption | (simp (disch := omega) only [rI, rIe, rA, rIA, rLA, rJA, rVI, rQI, rVA, rQA, upd_at,  rAI, rLI, rJI, nI_add, pk_sub, kc_0, kc_1, kc_2, kc_3, kc_4, kc_5, reduceIte, Nat.reduceEqDiff, Nat.add_zero, rI_hold, rI_hold, rL_hold, ht, hfd0]; done) | (simp (disch := omega) only [rI, rIe, rA, rIA, rLA, rJA, rVI, rQI, rVA, rQA, upd_at,  rAI, rLI, rJI, nI_add, pk_sub, kc_0, kc_1, kc_2, kc_3, kc_4, kc_5, reduceIte, Nat.reduceEqDiff, Nat.add_zero, rI_hold, rI_hold, rL_hold, ht, hfd0]; exact congrArg nI (by omega))) ?_
  refine Bod.ic 2 (by decide) dc_401_172 ?_
  refine Bod.icF dc_401_173 rfl (k2_ne_F (k_eq fd0 2 rfl rfl (by omega))) ?_
  refine Bod.go dc_401_176 rfl ?_
  refine Bod.go dc_401_177 rfl ?_
  refine Bod.virt (r := []) dc_401_178 kr_401_716 ⟨Or.inl rfl, ow_403, cl_14⟩ (by rw [np_403]; rfl) (by rw [np_403]; rfl) (ob_of (mk_61 _)) (Nat.le_of_ble_eq_true rfl) (c4  ) ?_
  show Bod _ _ _ _ [_] _ _ _
  refine Bod.ifT dc_401_181 rfl (k1_ne_T (k_ne 1 0 rfl rfl (by omega) (by omega) (by omega))) ?_
  refine Bod.ic 0 (by decide) dc_401_190 ?_
  refine Bod.ist dc_401_191 (by rw [ml_401]; exact Nat.le_of_ble_eq_true rfl) ?_
  refine Bod.ic 0 (by decide) dc_401_193 ?_
  refine Bod.ist dc_401_194 (by rw [ml_401]; exact Nat.le_of_ble_eq_true rfl) ?_
  exact hB _ (by first | rfl | exact (by repeat (first | exact rfl | exact sm_get_p1 | exact sm_get_p2e | refine sm_get_p1m (by decide) (by decide) ?_ | refine sm_get_p1n (by decide) rfl ?_ | refine sm_get_p2n (by decide) (by decide) rfl ?_ | refine sm_get_p2m (by decide) (by decide) (by decide) ?_))) (by first | rfl | exact (by repeat (first | exact rfl | exact sm_get_p1 | exact sm_get_p2e | refine sm_get_p1m (by decide) (by decide) ?_ | refine sm_get_p1n (by decide) rfl ?_ | refine sm_get_p2n (by decide) (by decide) rfl ?_ | refine sm_get_p2m (by decide) (by decide) (by decide) ?_))) (by first | rfl | exact (by repeat (first | exact rfl | exact sm_get_p1 | exact sm_get_p2e | refine sm_get_p1m (by decide) (by decide) ?_ | refine sm_get_p1n (by decide) rfl ?_ | refine sm_get_p2n (by decide) (by decide) rfl ?_ | refine sm_get_p2m (by decide) (by decide) (by decide) ?_))) (by first | rfl | exact (by repeat (first | exact rfl | exact sm_get_p1 | exact sm_get_p2e | refine sm_get_p1m (by decide) (by decide) ?_ | refine sm_get_p1n (by decide) rfl ?_ | refine sm_get_p2n (by decide) (by decide) rfl ?_ | refine sm_get_p2m (by decide) (by decide) (by decide) ?_))) (by first | rfl | exact (by repeat (first | exact rfl | exact sm_get_p1 | exact sm_get_p2e | refine sm_get_p1m (by decide) (by decide) ?_ | refine sm_get_p1n (by decide) rfl ?_ | refine sm_get_p2n (by decide) (by decide) rfl ?_ | refine sm_get_p2m (by decide) (by decide) (by decide) ?_))) (by first | rfl | exact (by repeat (first | exact rfl | exact sm_get_p1 | exact sm_get_p2e | refine sm_get_p1m (by decide) (by decide) ?_ | refine sm_get_p1n (by decide) rfl ?_ | refine sm_get_p2n (by decide) (by decide) rfl ?_ | refine sm_get_p2m (by decide) (by decide) (by decide) ?_)))
theorem rBi_6 {d : Nat} {S : cS} {t : Nat} {S1 : cS} {S2 : cS} {S3 : cS} {g : Nat} {zg : Nat} {fd0 : Nat} {S4 : cS} {S5 : cS} (ht : sI S 6151 = nI t) (mt : t < 20481) (b1 : 2 ≤ t) (b2 : 1 ≤ t) (c1 : Ans (d + 8) 363 [.ref 61, .int (nI (t - 1)), .int (nI 1)] S (some (.int (nI 0))) S1) (c2 : Ans (d + 8) 363 [.ref 61, .int (nI (t - 1)), .int (nI 2)] S1 (some (.int (nI 1))) S2) (ag : 108 ≤ g) (c3 : Ans (d + 8) 361 [.ref 61, .int (nI (t - 1))] S2 (some (.ref g)) S3) (hz1 : (sS S3)[g - 108]? = some (13, zg)) (hfd0 : sI S3 (100 * g + 0) = nI fd0) (mfd0 : fd0 < 2 ^ 20) (b3 : fd0 = 2) (c4 : Ans (d + 8) 403 [.ref 61, .int (nI (t - 2))] S3 (some (.int (nI 0))) S4) (c5 : Ans (d + 8) 351 [.ref 61, .int (nI 2)] S4 (some (.int (nI 0))) S5) : Bod (d + 8) 401 0 [(0, .ref 61), (1, .int (nI 1))] [] S (some (.int 0)) (S5) := by
  refine Bod.go dc_401_0 rfl ?_
  refine Bod.get dc_401_1 fr_401_493 (mk_61 _) rfl ?_
  refine Bod.eqI (nI t) (by first | assumption | rfl | exact congrArg nI (by omega) | (simp (disch := omega) only [rI, rIe, rA, rIA, rLA, rJA, rVI, rQI, rVA, rQA, upd_at,  rAI, rLI, rJI, nI_add, pk_sub, kc_0, kc_1, kc_2, kc_3, kc_4, kc_5, reduceIte, Nat.reduceEqDiff, Nat.add_zero, rI_hold, rI_hold, rL_hold, ht]; done)) ?_
  refine Bod.ic 2 (by decide) dc_401_4 ?_
  refine Bod.subN (t - 2) (by omega) (by omega) dc_401_5 ?_
  refine Bod.istn dc_401_6 (by rw [ml_401]; exact Nat.le_of_ble_eq_true rfl) ?_
  refine Bod.go dc_401_7 rfl ?_
  refine Bod.get dc_401_8 fr_401_493 (mk_61 _) rfl ?_
  refine Bod.eqI (nI t) (by first | assumption | rfl | exact congrArg nI (by omega) | (simp (disch := omega) only [rI, rIe, rA, rIA, rLA, rJA, rVI, rQI, rVA, rQA, upd_at,  rAI, rLI, rJI, nI_add, pk_sub, kc_0, kc_1, kc_2, kc_3, kc_4, kc_5, reduceIte, Nat.reduceEqDiff, Nat.add_zero, rI_hold, rI_hold, rL_hold, ht]; done)) ?_
  refine Bod.ic 1 (by decide) dc_401_11 ?_
  refine Bod.subN (t - 1) (by omega) (by omega) dc_401_12 ?_
  refine Bod.istn dc_401_13 (by rw [ml_401]; exact Nat.le_of_ble_eq_true rfl) ?_
  refine Bod.go dc_401_14 rfl ?_
  refine Bod.sw (t := 136) dc_401_15 rfl rfl (by decide +kernel) ?_
  refine Bod.go dc_401_136 rfl ?_
  refine Bod.go dc_401_137 rfl ?_
  refine Bod.ic 1 (by decide) dc_401_138 ?_
  refine Bod.virt (r := []) dc_401_139 kr_401_683 ⟨Or.inl rfl, ow_363, cl_14⟩ (by rw [np_363]; rfl) (by rw [np_363]; rfl) (ob_of (mk_61 _)) (Nat.le_of_ble_eq_true rfl) (c1  ) ?_
  show Bod _ _ _ _ [_] _ _ _
  refine Bod.ifF dc_401_142 rfl (k1_ne_F (k_eq 0 0 rfl rfl (by omega))) ?_
  refine Bod.go dc_401_145 rfl ?_
  refine Bod.go dc_401_146 rfl ?_
  refine Bod.ic 2 (by decide) dc_401_147 ?_
  refine Bod.virt (r := []) dc_401_148 kr_401_683 ⟨Or.inl rfl, ow_363, cl_14⟩ (by rw [np_363]; rfl) (by rw [np_363]; rfl) (ob_of (mk_61 _)) (Nat.le_of_ble_eq_true rfl) (c2  ) ?_
  show Bod _ _ _ _ [_] _ _ _
  refine Bod.ifT dc_401_151 rfl (k1_ne_T (k_ne 1 0 rfl rfl (by omega) (by omega) (by omega))) ?_
  refine Bod.go dc_401_160 rfl ?_
  refine Bod.go dc_401_161 rfl ?_
  refine Bod.virt (r := []) dc_401_162 kr_401_554 ⟨Or.inl rfl, ow_361, cl_14⟩ (by rw [np_361]; rfl) (by rw [np_361]; rfl) (ob_of (mk_61 _)) (Nat.le_of_ble_eq_true rfl) (c3  ) ?_
  show Bod _ _ _ _ [_] _ _ _
  refine Bod.ast dc_401_165 (by rw [ml_401]; exact Nat.le_of_ble_eq_true rfl) ?_
  refine Bod.go dc_401_167 rfl ?_
  refine Bod.get dc_401_169 fr_401_531 (mk_thing ag (by first | exact hz1 | (simp only [rIS, rJS, rAS, rLS, rVS, rQS, rS_hold]; exact hz1))) rfl ?_
  refine Bod.eqI (nI fd0) (by first | assumption | (simp (disch := omega) only [rI, rIe, rA, rIA, rLA, rJA, rVI, rQI, rVA, rQA, upd_at,  rAI, rLI, rJI, nI_add, pk_sub, kc_0, kc_1, kc_2, kc_3, kc_4, kc_5, reduceIte, Nat.reduceEqDiff, Nat.add_zero, rI_hold, rI_hold, rL_hold, ht, hfd0]; done) | (simp (disch := omega) only [rI, rIe, rA, rIA, rLA, rJA, rVI, rQI, rVA, rQA, upd_at,  rAI, rLI, rJI, nI_add, pk_sub, kc_0, kc_1, kc_2, kc_3, kc_4, kc_5, reduceIte, Nat.reduceEqDiff, Nat.add_zero, rI_hold, rI_hold, rL_hold, ht, hfd0]; exact congrArg nI (by omega))) ?_
  refine Bod.ic 2 (by decide) dc_401_172 ?_
  refine Bod.icF dc_401_173 rfl (k2_ne_F (k_eq fd0 2 rfl rfl (by omega))) ?_
  refine Bod.go dc_401_176 rfl ?_
  refine Bod.go dc_401_177 rfl ?_
  refine Bod.virt (r := []) dc_401_178 kr_401_716 ⟨Or.inl rfl, ow_403, cl_14⟩ (by rw [np_403]; rfl) (by rw [np_403]; rfl) (ob_of (mk_61 _)) (Nat.le_of_ble_eq_true rfl) (c4  ) ?_
  show Bod _ _ _ _ [_] _ _ _
  refine Bod.ifF dc_401_181 rfl (k1_ne_F (k_eq 0 0 rfl rfl (by omega))) ?_
  refine Bod.go dc_401_184 rfl ?_
  refine Bod.ic 2 (by decide) dc_401_185 ?_
  refine Bod.virt (r := []) dc_401_186 kr_401_608 ⟨Or.inl rfl, ow_351, cl_14⟩ (by rw [np_351]; rfl) (by rw [np_351]; rfl) (ob_of (mk_61 _)) (Nat.le_of_ble_eq_true rfl) (c5  ) ?_
  show Bod _ _ _ _ [_] _ _ _
  exact Bod.retZ dc_401_189 rt_401 (Or.inl rfl)
theorem rBi_7 {d : Nat} {S : cS} {t : Nat} {S1 : cS} {S2 : cS} {S3 : cS} (ht : sI S 6151 = nI t) (mt : t < 20481) (b1 : 2 ≤ t) (b2 : 1 ≤ t) (c1 : Ans (d + 8) 363 [.ref 61, .int (nI (t - 1)), .int (nI 1)] S (some (.int (nI 0))) S1) (c2 : Ans (d + 8) 363 [.ref 61, .int (nI (t - 1)), .int (nI 2)] S1 (some (.int (nI 0))) S2) (c3 : Ans (d + 8) 351 [.ref 61, .int (nI 2)] S2 (some (.int (nI 0))) S3) : Bod (d + 8) 401 0 [(0, .ref 61), (1, .int (nI 1))] [] S (some (.int 0)) (S3) := by
  refine Bod.go dc_401_0 rfl ?_
  refine Bod.get dc_401_1 fr_401_493 (mk_61 _) rfl ?_
  refine Bod.eqI (nI t) (by first | assumption | rfl | exact congrArg nI (by omega) | (simp (disch := omega) only [rI, rIe, rA, rIA, rLA, rJA, rVI, rQI, rVA, rQA, upd_at,  rAI, rLI, rJI, nI_add, pk_sub, kc_0, kc_1, kc_2, kc_3, kc_4, kc_5, reduceIte, Nat.reduceEqDiff, Nat.add_zero, rI_hold, rI_hold, rL_hold, ht]; done)) ?_
  refine Bod.ic 2 (by decide) dc_401_4 ?_
  refine Bod.subN (t - 2) (by omega) (by omega) dc_401_5 ?_
  refine Bod.istn dc_401_6 (by rw [ml_401]; exact Nat.le_of_ble_eq_true rfl) ?_
  refine Bod.go dc_401_7 rfl ?_
  refine Bod.get dc_401_8 fr_401_493 (mk_61 _) rfl ?_
  refine Bod.eqI (nI t) (by first | assumption | rfl | exact congrArg nI (by omega) | (simp (disch := omega) only [rI, rIe, rA, rIA, rLA, rJA, rVI, rQI, rVA, rQA, upd_at,  rAI, rLI, rJI, nI_add, pk_sub, kc_0, kc_1, kc_2, kc_3, kc_4, kc_5, reduceIte, Nat.reduceEqDiff, Nat.add_zero, rI_hold, rI_hold, rL_hold, ht]; done)) ?_
  refine Bod.ic 1 (by decide) dc_401_11 ?_
  refine Bod.subN (t - 1) (by omega) (by omega) dc_401_12 ?_
  refine Bod.istn dc_401_13 (by rw [ml_401]; exact Nat.le_of_ble_eq_true rfl) ?_
  refine Bod.go dc_401_14 rfl ?_
  refine Bod.sw (t := 136) dc_401_15 rfl rfl (by decide +kernel) ?_
  refine Bod.go dc_401_136 rfl ?_
  refine Bod.go dc_401_137 rfl ?_
  refine Bod.ic 1 (by decide) dc_401_138 ?_
  refine Bod.virt (r := []) dc_401_139 kr_401_683 ⟨Or.inl rfl, ow_363, cl_14⟩ (by rw [np_363]; rfl) (by rw [np_363]; rfl) (ob_of (mk_61 _)) (Nat.le_of_ble_eq_true rfl) (c1  ) ?_
  show Bod _ _ _ _ [_] _ _ _
  refine Bod.ifF dc_401_142 rfl (k1_ne_F (k_eq 0 0 rfl rfl (by omega))) ?_
  refine Bod.go dc_401_145 rfl ?_
  refine Bod.go dc_401_146 rfl ?_
  refine Bod.ic 2 (by decide) dc_401_147 ?_
  refine Bod.virt (r := []) dc_401_148 kr_401_683 ⟨Or.inl rfl, ow_363, cl_14⟩ (by rw [np_363]; rfl) (by rw [np_363]; rfl) (ob_of (mk_61 _)) (Nat.le_of_ble_eq_true rfl) (c2  ) ?_
  show Bod _ _ _ _ [_] _ _ _
  refine Bod.ifF dc_401_151 rfl (k1_ne_F (k_eq 0 0 rfl rfl (by omega))) ?_
  refine Bod.go dc_401_154 rfl ?_
  refine Bod.ic 2 (by decide) dc_401_155 ?_
  refine Bod.virt (r := []) dc_401_156 kr_401_608 ⟨Or.inl rfl, ow_351, cl_14⟩ (by rw [np_351]; rfl) (by rw [np_351]; rfl) (ob_of (mk_61 _)) (Nat.le_of_ble_eq_true rfl) (c3  ) ?_
  show Bod _ _ _ _ [_] _ _ _
  exact Bod.retZ dc_401_159 rt_401 (Or.inl rfl)
theorem rBiEQ_1 {d : Nat} {S : cS} {t : Nat} {e91 : Nat} {S1 : cS} {t1 : Nat} {S2 : cS} (ht : sI S 6151 = nI t) (mt : t < 20481) (b1 : 2 ≤ t) (b2 : 1 ≤ t) (he91 : sA S 91 (t - 1) = nI e91) (me91 : e91 < 2 ^ 20) (c1 : Ans (d + 8) 402 [.ref 61, .int (nI (t - 2)), .int (nI e91), .long (sL S 92 (t - 1)), .long (sL S 93 (t - 1))] S (some (.int (nI 1))) S1) (ht1 : sI S1 6151 = nI t1) (mt1 : t1 < 20481) (b3 : 2 ≤ t1) (c2 : Ans (d + 8) 353 [.ref 61, .long 1] (wI 6151 (nI (t1 - 2)) S1) none S2) : Bod (d + 8) 401 0 [(0, .ref 61), (1, .int (nI 15677))] [] S (some (.int 1)) (S2) := by
  refine Bod.go dc_401_0 rfl ?_
  refine Bod.get dc_401_1 fr_401_493 (mk_61 _) rfl ?_
  refine Bod.eqI (nI t) (by first | assumption | rfl | exact congrArg nI (by omega) | (simp (disch := omega) only [rI, rIe, rA, rIA, rLA, rJA, rVI, rQI, rVA, rQA, upd_at,  rAI, rLI, rJI, nI_add, pk_sub, kc_0, kc_1, kc_2, kc_3, kc_4, kc_5, reduceIte, Nat.reduceEqDiff, Nat.add_zero, rI_hold, rI_hold, rL_hold, ht]; done)) ?_
  refine Bod.ic 2 (by decide) dc_401_4 ?_
  refine Bod.subN (t - 2) (by omega) (by omega) dc_401_5 ?_
  refine Bod.istn dc_401_6 (by rw [ml_401]; exact Nat.le_of_ble_eq_true rfl) ?_
  refine Bod.go dc_401_7 rfl ?_
  refine Bod.get dc_401_8 fr_401_493 (mk_61 _) rfl ?_
  refine Bod.eqI (nI t) (by first | assumption | rfl | exact congrArg nI (by omega) | (simp (disch := omega) only [rI, rIe, rA, rIA, rLA, rJA, rVI, rQI, rVA, rQA, upd_at,  rAI, rLI, rJI, nI_add, pk_sub, kc_0, kc_1, kc_2, kc_3, kc_4, kc_5, reduceIte, Nat.reduceEqDiff, Nat.add_zero, rI_hold, rI_hold, rL_hold, ht]; done)) ?_
  refine Bod.ic 1 (by decide) dc_401_11 ?_
  refine Bod.subN (t - 1) (by omega) (by omega) dc_401_12 ?_
  refine Bod.istn dc_401_13 (by rw [ml_401]; exact Nat.le_of_ble_eq_true rfl) ?_
  refine Bod.go dc_401_14 rfl ?_
  refine Bod.sw (t := 88) dc_401_15 rfl rfl (by decide +kernel) ?_
  refine Bod.go dc_401_88 rfl ?_
  refine Bod.go dc_401_89 rfl ?_
  refine Bod.go dc_401_90 rfl ?_
  refine Bod.get dc_401_91 fr_401_496 (mk_61 _) rfl ?_
  refine Bod.go dc_401_94 rfl ?_
  refine Bod.ialdN (t - 1) rfl (by omega) (by omega) dc_401_95 (mk_91 _) ?_
  refine Bod.eqI (nI e91) (by first | assumption | rfl | exact congrArg nI (by omega) | (simp (disch := omega) only [rI, rIe, rA, rIA, rLA, rJA, rVI, rQI, rVA, rQA, upd_at,  rAI, rLI, rJI, nI_add, pk_sub, kc_0, kc_1, kc_2, kc_3, kc_4, kc_5, reduceIte, Nat.reduceEqDiff, Nat.add_zero, rI_hold, rI_hold, rL_hold, ht, he91]; done)) ?_
  refine Bod.go dc_401_96 rfl ?_
  refine Bod.get dc_401_97 fr_401_499 (mk_61 _) rfl ?_
  refine Bod.go dc_401_100 rfl ?_
  refine Bod.laldN (t - 1) rfl (by omega) (by omega) dc_401_101 (mk_92 _) ?_
  refine Bod.go dc_401_102 rfl ?_
  refine Bod.get dc_401_103 fr_401_546 (mk_61 _) rfl ?_
  refine Bod.go dc_401_106 rfl ?_
  refine Bod.laldN (t - 1) rfl (by omega) (by omega) dc_401_107 (mk_93 _) ?_
  refine Bod.virt (r := []) dc_401_108 kr_401_712 ⟨Or.inl rfl, ow_402, cl_14⟩ (by rw [np_402]; rfl) (by rw [np_402]; rfl) (ob_of (mk_61 _)) (Nat.le_of_ble_eq_true rfl) (c1  ) ?_
  show Bod _ _ _ _ [_] _ _ _
  refine Bod.go dc_401_111 rfl ?_
  refine Bod.sip 8509 (by decide) dc_401_112 ?_
  refine Bod.icT dc_401_115 rfl (k2_ne_T (k_ne 15677 8509 rfl rfl (by omega) (by omega) (by omega))) ?_
  refine Bod.ic 0 (by decide) dc_401_122 ?_
  refine Bod.icF dc_401_123 rfl (k2_eq_F (k_ne 1 0 rfl rfl (by omega) (by omega) (by omega))) ?_
  refine Bod.ic 1 (by decide) dc_401_126 ?_
  refine Bod.go dc_401_127 rfl ?_
  refine Bod.ist dc_401_131 (by rw [ml_401]; exact Nat.le_of_ble_eq_true rfl) ?_
  refine Bod.go dc_401_133 rfl ?_
  refine Bod.go dc_401_420 rfl ?_
  refine Bod.go dc_401_421 rfl ?_
  refine Bod.get dc_401_422 fr_401_493 (mk_61 _) rfl ?_
  refine Bod.eqI (nI t1) (by first | assumption | (simp (disch := omega) only [rI, rIe, rA, rIA, rLA, rJA, rVI, rQI, rVA, rQA, upd_at,  rAI, rLI, rJI, nI_add, pk_sub, kc_0, kc_1, kc_2, kc_3, kc_4, kc_5, reduceIte, Nat.reduceEqDiff, Nat.add_zero, rI_hold, rI_hold, rL_hold, ht, he91, ht1]; done) | (simp (disch := omega) only [rI, rIe, rA, rIA, rLA, rJA, rVI, rQI, rVA, rQA, upd_at,  rAI, rLI, rJI, nI_add, pk_sub, kc_0, kc_1, kc_2, kc_3, kc_4, kc_5, reduceIte, Nat.reduceEqDiff, Nat.add_zero, rI_hold, rI_hold, rL_hold, ht, he91, ht1]; exact congrArg nI (by omega))) ?_
  refine Bod.ic 2 (by decide) dc_401_425 ?_
  refine Bod.subN (t1 - 2) (by omega) (by omega) dc_401_426 ?_
  refine Bod.put dc_401_427 fr_401_493 (mk_61 _) (Nat.le_of_ble_eq_true rfl) pf_14_51 (st_6151 _ _) (mu_I _ _ _) ?_
  refine Bod.go dc_401_430 rfl ?_
  refine Bod.go dc_401_431 rfl ?_
  refine Bod.ifF dc_401_433 rfl (k1_eq_F (k_ne 1 0 rfl rfl (by omega) (by omega) (by omega))) ?_
  refine Bod.go dc_401_436 rfl ?_
  refine Bod.go dc_401_437 rfl ?_
  refine Bod.virt (r := []) dc_401_441 kr_401_613 ⟨Or.inl rfl, ow_353, cl_14⟩ (by rw [np_353]; rfl) (by rw [np_353]; rfl) (ob_of (mk_61 _)) (Nat.le_of_ble_eq_true rfl) (c2  ) ?_
  show Bod _ _ _ _ [] _ _ _
  refine Bod.ic 1 (by decide) dc_401_444 ?_
  exact Bod.retZ dc_401_445 rt_401 (Or.inr rfl)
theorem rBiEQ_2 {d : Nat} {S : cS} {t : Nat} {e91 : Nat} {S1 : cS} {t1 : Nat} {S2 : cS} (ht : sI S 6151 = nI t) (mt : t < 20481) (b1 : 2 ≤ t) (b2 : 1 ≤ t) (he91 : sA S 91 (t - 1) = nI e91) (me91 : e91 < 2 ^ 20) (c1 : Ans (d + 8) 402 [.ref 61, .int (nI (t - 2)), .int (nI e91), .long (sL S 92 (t - 1)), .long (sL S 93 (t - 1))] S (some (.int (nI 0))) S1) (ht1 : sI S1 6151 = nI t1) (mt1 : t1 < 20481) (b3 : 2 ≤ t1) (c2 : Ans (d + 8) 353 [.ref 61, .long 0] (wI 6151 (nI (t1 - 2)) S1) none S2) : Bod (d + 8) 401 0 [(0, .ref 61), (1, .int (nI 15677))] [] S (some (.int 1)) (S2) := by
  refine Bod.go dc_401_0 rfl ?_
  refine Bod.get dc_401_1 fr_401_493 (mk_61 _) rfl ?_
  refine Bod.eqI (nI t) (by first | assumption | rfl | exact congrArg nI (by omega) | (simp (disch := omega) only [rI, rIe, rA, rIA, rLA, rJA, rVI, rQI, rVA, rQA, upd_at,  rAI, rLI, rJI, nI_add, pk_sub, kc_0, kc_1, kc_2, kc_3, kc_4, kc_5, reduceIte, Nat.reduceEqDiff, Nat.add_zero, rI_hold, rI_hold, rL_hold, ht]; done)) ?_
  refine Bod.ic 2 (by decide) dc_401_4 ?_
  refine Bod.subN (t - 2) (by omega) (by omega) dc_401_5 ?_
  refine Bod.istn dc_401_6 (by rw [ml_401]; exact Nat.le_of_ble_eq_true rfl) ?_
  refine Bod.go dc_401_7 rfl ?_
  refine Bod.get dc_401_8 fr_401_493 (mk_61 _) rfl ?_
  refine Bod.eqI (nI t) (by first | assumption | rfl | exact congrArg nI (by omega) | (simp (disch := omega) only [rI, rIe, rA, rIA, rLA, rJA, rVI, rQI, rVA, rQA, upd_at,  rAI, rLI, rJI, nI_add, pk_sub, kc_0, kc_1, kc_2, kc_3, kc_4, kc_5, reduceIte, Nat.reduceEqDiff, Nat.add_zero, rI_hold, rI_hold, rL_hold, ht]; done)) ?_
  refine Bod.ic 1 (by decide) dc_401_11 ?_
  refine Bod.subN (t - 1) (by omega) (by omega) dc_401_12 ?_
  refine Bod.istn dc_401_13 (by rw [ml_401]; exact Nat.le_of_ble_eq_true rfl) ?_
  refine Bod.go dc_401_14 rfl ?_
  refine Bod.sw (t := 88) dc_401_15 rfl rfl (by decide +kernel) ?_
  refine Bod.go dc_401_88 rfl ?_
  refine Bod.go dc_401_89 rfl ?_
  refine Bod.go dc_401_90 rfl ?_
  refine Bod.get dc_401_91 fr_401_496 (mk_61 _) rfl ?_
  refine Bod.go dc_401_94 rfl ?_
  refine Bod.ialdN (t - 1) rfl (by omega) (by omega) dc_401_95 (mk_91 _) ?_
  refine Bod.eqI (nI e91) (by first | assumption | rfl | exact congrArg nI (by omega) | (simp (disch := omega) only [rI, rIe, rA, rIA, rLA, rJA, rVI, rQI, rVA, rQA, upd_at,  rAI, rLI, rJI, nI_add, pk_sub, kc_0, kc_1, kc_2, kc_3, kc_4, kc_5, reduceIte, Nat.reduceEqDiff, Nat.add_zero, rI_hold, rI_hold, rL_hold, ht, he91]; done)) ?_
  refine Bod.go dc_401_96 rfl ?_
  refine Bod.get dc_401_97 fr_401_499 (mk_61 _) rfl ?_
  refine Bod.go dc_401_100 rfl ?_
  refine Bod.laldN (t - 1) rfl (by omega) (by omega) dc_401_101 (mk_92 _) ?_
  refine Bod.go dc_401_102 rfl ?_
  refine Bod.get dc_401_103 fr_401_546 (mk_61 _) rfl ?_
  refine Bod.go dc_401_106 rfl ?_
  refine Bod.laldN (t - 1) rfl (by omega) (by omega) dc_401_107 (mk_93 _) ?_
  refine Bod.virt (r := []) dc_401_108 kr_401_712 ⟨Or.inl rfl, ow_402, cl_14⟩ (by rw [np_402]; rfl) (by rw [np_402]; rfl) (ob_of (mk_61 _)) (Nat.le_of_ble_eq_true rfl) (c1  ) ?_
  show Bod _ _ _ _ [_] _ _ _
  refine Bod.go dc_401_111 rfl ?_
  refine Bod.sip 8509 (by decide) dc_401_112 ?_
  refine Bod.icT dc_401_115 rfl (k2_ne_T (k_ne 15677 8509 rfl rfl (by omega) (by omega) (by omega))) ?_
  refine Bod.ic 0 (by decide) dc_401_122 ?_
  refine Bod.icT dc_401_123 rfl (k2_eq_T (k_eq 0 0 rfl rfl (by omega))) ?_
  refine Bod.ic 0 (by decide) dc_401_130 ?_
  refine Bod.ist dc_401_131 (by rw [ml_401]; exact Nat.le_of_ble_eq_true rfl) ?_
  refine Bod.go dc_401_133 rfl ?_
  refine Bod.go dc_401_420 rfl ?_
  refine Bod.go dc_401_421 rfl ?_
  refine Bod.get dc_401_422 fr_401_493 (mk_61 _) rfl ?_
  refine Bod.eqI (nI t1) (by first | assumption | (simp (disch := omega) only [rI, rIe, rA, rIA, rLA, rJA, rVI, rQI, rVA, rQA, upd_at,  rAI, rLI, rJI, nI_add, pk_sub, kc_0, kc_1, kc_2, kc_3, kc_4, kc_5, reduceIte, Nat.reduceEqDiff, Nat.add_zero, rI_hold, rI_hold, rL_hold, ht, he91, ht1]; done) | (simp (disch := omega) only [rI, rIe, rA, rIA, rLA, rJA, rVI, rQI, rVA, rQA, upd_at,  rAI, rLI, rJI, nI_add, pk_sub, kc_0, kc_1, kc_2, kc_3, kc_4, kc_5, reduceIte, Nat.reduceEqDiff, Nat.add_zero, rI_hold, rI_hold, rL_hold, ht, he91, ht1]; exact congrArg nI (by omega))) ?_
  refine Bod.ic 2 (by decide) dc_401_425 ?_
  refine Bod.subN (t1 - 2) (by omega) (by omega) dc_401_426 ?_
  refine Bod.put dc_401_427 fr_401_493 (mk_61 _) (Nat.le_of_ble_eq_true rfl) pf_14_51 (st_6151 _ _) (mu_I _ _ _) ?_
  refine Bod.go dc_401_430 rfl ?_
  refine Bod.go dc_401_431 rfl ?_
  refine Bod.ifT dc_401_433 rfl (k1_eq_T (k_eq 0 0 rfl rfl (by omega))) ?_
  refine Bod.go dc_401_440 rfl ?_
  refine Bod.virt (r := []) dc_401_441 kr_401_613 ⟨Or.inl rfl, ow_353, cl_14⟩ (by rw [np_353]; rfl) (by rw [np_353]; rfl) (ob_of (mk_61 _)) (Nat.le_of_ble_eq_true rfl) (c2  ) ?_
  show Bod _ _ _ _ [] _ _ _
  refine Bod.ic 1 (by decide) dc_401_444 ?_
  exact Bod.retZ dc_401_445 rt_401 (Or.inr rfl)
theorem rBiNE_1 {d : Nat} {S : cS} {t : Nat} {e91 : Nat} {S1 : cS} {t1 : Nat} {S2 : cS} (ht : sI S 6151 = nI t) (mt : t < 20481) (b1 : 2 ≤ t) (b2 : 1 ≤ t) (he91 : sA S 91 (t - 1) = nI e91) (me91 : e91 < 2 ^ 20) (c1 : Ans (d + 8) 402 [.ref 61, .int (nI (t - 2)), .int (nI e91), .long (sL S 92 (t - 1)), .long (sL S 93 (t - 1))] S (some (.int (nI 1))) S1) (ht1 : sI S1 6151 = nI t1) (mt1 : t1 < 20481) (b3 : 2 ≤ t1) (c2 : Ans (d + 8) 353 [.ref 61, .long 0] (wI 6151 (nI (t1 - 2)) S1) none S2) : Bod (d + 8) 401 0 [(0, .ref 61), (1, .int (nI 8509))] [] S (some (.int 1)) (S2) := by
  refine Bod.go dc_401_0 rfl ?_
  refine Bod.get dc_401_1 fr_401_493 (mk_61 _) rfl ?_
  refine Bod.eqI (nI t) (by first | assumption | rfl | exact congrArg nI (by omega) | (simp (disch := omega) only [rI, rIe, rA, rIA, rLA, rJA, rVI, rQI, rVA, rQA, upd_at,  rAI, rLI, rJI, nI_add, pk_sub, kc_0, kc_1, kc_2, kc_3, kc_4, kc_5, reduceIte, Nat.reduceEqDiff, Nat.add_zero, rI_hold, rI_hold, rL_hold, ht]; done)) ?_
  refine Bod.ic 2 (by decide) dc_401_4 ?_
  refine Bod.subN (t - 2) (by omega) (by omega) dc_401_5 ?_
  refine Bod.istn dc_401_6 (by rw [ml_401]; exact Nat.le_of_ble_eq_true rfl) ?_
  refine Bod.go dc_401_7 rfl ?_
  refine Bod.get dc_401_8 fr_401_493 (mk_61 _) rfl ?_
  refine Bod.eqI (nI t) (by first | assumption | rfl | exact congrArg nI (by omega) | (simp (disch := omega) only [rI, rIe, rA, rIA, rLA, rJA, rVI, rQI, rVA, rQA, upd_at,  rAI, rLI, rJI, nI_add, pk_sub, kc_0, kc_1, kc_2, kc_3, kc_4, kc_5, reduceIte, Nat.reduceEqDiff, Nat.add_zero, rI_hold, rI_hold, rL_hold, ht]; done)) ?_
  refine Bod.ic 1 (by decide) dc_401_11 ?_
  refine Bod.subN (t - 1) (by omega) (by omega) dc_401_12 ?_
  refine Bod.istn dc_401_13 (by rw [ml_401]; exact Nat.le_of_ble_eq_true rfl) ?_
  refine Bod.go dc_401_14 rfl ?_
  refine Bod.sw (t := 88) dc_401_15 rfl rfl (by decide +kernel) ?_
  refine Bod.go dc_401_88 rfl ?_
  refine Bod.go dc_401_89 rfl ?_
  refine Bod.go dc_401_90 rfl ?_
  refine Bod.get dc_401_91 fr_401_496 (mk_61 _) rfl ?_
  refine Bod.go dc_401_94 rfl ?_
  refine Bod.ialdN (t - 1) rfl (by omega) (by omega) dc_401_95 (mk_91 _) ?_
  refine Bod.eqI (nI e91) (by first | assumption | rfl | exact congrArg nI (by omega) | (simp (disch := omega) only [rI, rIe, rA, rIA, rLA, rJA, rVI, rQI, rVA, rQA, upd_at,  rAI, rLI, rJI, nI_add, pk_sub, kc_0, kc_1, kc_2, kc_3, kc_4, kc_5, reduceIte, Nat.reduceEqDiff, Nat.add_zero, rI_hold, rI_hold, rL_hold, ht, he91]; done)) ?_
  refine Bod.go dc_401_96 rfl ?_
  refine Bod.get dc_401_97 fr_401_499 (mk_61 _) rfl ?_
  refine Bod.go dc_401_100 rfl ?_
  refine Bod.laldN (t - 1) rfl (by omega) (by omega) dc_401_101 (mk_92 _) ?_
  refine Bod.go dc_401_102 rfl ?_
  refine Bod.get dc_401_103 fr_401_546 (mk_61 _) rfl ?_
  refine Bod.go dc_401_106 rfl ?_
  refine Bod.laldN (t - 1) rfl (by omega) (by omega) dc_401_107 (mk_93 _) ?_
  refine Bod.virt (r := []) dc_401_108 kr_401_712 ⟨Or.inl rfl, ow_402, cl_14⟩ (by rw [np_402]; rfl) (by rw [np_402]; rfl) (ob_of (mk_61 _)) (Nat.le_of_ble_eq_true rfl) (c1  ) ?_
  show Bod _ _ _ _ [_] _ _ _
  refine Bod.go dc_401_111 rfl ?_
  refine Bod.sip 8509 (by decide) dc_401_112 ?_
  refine Bod.icF dc_401_115 rfl (k2_ne_F (k_eq 8509 8509 rfl rfl (by omega))) ?_
  refine Bod.ic 1 (by decide) dc_401_118 ?_
  refine Bod.go dc_401_119 rfl ?_
  refine Bod.icT dc_401_123 rfl (k2_eq_T (k_eq 1 1 rfl rfl (by omega))) ?_
  refine Bod.ic 0 (by decide) dc_401_130 ?_
  refine Bod.ist dc_401_131 (by rw [ml_401]; exact Nat.le_of_ble_eq_true rfl) ?_
  refine Bod.go dc_401_133 rfl ?_
  refine Bod.go dc_401_420 rfl ?_
  refine Bod.go dc_401_421 rfl ?_
  refine Bod.get dc_401_422 fr_401_493 (mk_61 _) rfl ?_
  refine Bod.eqI (nI t1) (by first | assumption | (simp (disch := omega) only [rI, rIe, rA, rIA, rLA, rJA, rVI, rQI, rVA, rQA, upd_at,  rAI, rLI, rJI, nI_add, pk_sub, kc_0, kc_1, kc_2, kc_3, kc_4, kc_5, reduceIte, Nat.reduceEqDiff, Nat.add_zero, rI_hold, rI_hold, rL_hold, ht, he91, ht1]; done) | (simp (disch := omega) only [rI, rIe, rA, rIA, rLA, rJA, rVI, rQI, rVA, rQA, upd_at,  rAI, rLI, rJI, nI_add, pk_sub, kc_0, kc_1, kc_2, kc_3, kc_4, kc_5, reduceIte, Nat.reduceEqDiff, Nat.add_zero, rI_hold, rI_hold, rL_hold, ht, he91, ht1]; exact congrArg nI (by omega))) ?_
  refine Bod.ic 2 (by decide) dc_401_425 ?_
  refine Bod.subN (t1 - 2) (by omega) (by omega) dc_401_426 ?_
  refine Bod.put dc_401_427 fr_401_493 (mk_61 _) (Nat.le_of_ble_eq_true rfl) pf_14_51 (st_6151 _ _) (mu_I _ _ _) ?_
  refine Bod.go dc_401_430 rfl ?_
  refine Bod.go dc_401_431 rfl ?_
  refine Bod.ifT dc_401_433 rfl (k1_eq_T (k_eq 0 0 rfl rfl (by omega))) ?_
  refine Bod.go dc_401_440 rfl ?_
  refine Bod.virt (r := []) dc_401_441 kr_401_613 ⟨Or.inl rfl, ow_353, cl_14⟩ (by rw [np_353]; rfl) (by rw [np_353]; rfl) (ob_of (mk_61 _)) (Nat.le_of_ble_eq_true rfl) (c2  ) ?_
  show Bod _ _ _ _ [] _ _ _
  refine Bod.ic 1 (by decide) dc_401_444 ?_
  exact Bod.retZ dc_401_445 rt_401 (Or.inr rfl)
theorem rBiNE_2 {d : Nat} {S : cS} {t : Nat} {e91 : Nat} {S1 : cS} {t1 : Nat} {S2 : cS} (ht : sI S 6151 = nI t) (mt : t < 20481) (b1 : 2 ≤ t) (b2 : 1 ≤ t) (he91 : sA S 91 (t - 1) = nI e91) (me91 : e91 < 2 ^ 20) (c1 : Ans (d + 8) 402 [.ref 61, .int (nI (t - 2)), .int (nI e91), .long (sL S 92 (t - 1)), .long (sL S 93 (t - 1))] S (some (.int (nI 0))) S1) (ht1 : sI S1 6151 = nI t1) (mt1 : t1 < 20481) (b3 : 2 ≤ t1) (c2 : Ans (d + 8) 353 [.ref 61, .long 1] (wI 6151 (nI (t1 - 2)) S1) none S2) : Bod (d + 8) 401 0 [(0, .ref 61), (1, .int (nI 8509))] [] S (some (.int 1)) (S2) := by
  refine Bod.go dc_401_0 rfl ?_
  refine Bod.get dc_401_1 fr_401_493 (mk_61 _) rfl ?_
  refine Bod.eqI (nI t) (by first | assumption | rfl | exact congrArg nI (by omega) | (simp (disch := omega) only [rI, rIe, rA, rIA, rLA, rJA, rVI, rQI, rVA, rQA, upd_at,  rAI, rLI, rJI, nI_add, pk_sub, kc_0, kc_1, kc_2, kc_3, kc_4, kc_5, reduceIte, Nat.reduceEqDiff, Nat.add_zero, rI_hold, rI_hold, rL_hold, ht]; done)) ?_
  refine Bod.ic 2 (by decide) dc_401_4 ?_
  refine Bod.subN (t - 2) (by omega) (by omega) dc_401_5 ?_
  refine Bod.istn dc_401_6 (by rw [ml_401]; exact Nat.le_of_ble_eq_true rfl) ?_
  refine Bod.go dc_401_7 rfl ?_
  refine Bod.get dc_401_8 fr_401_493 (mk_61 _) rfl ?_
  refine Bod.eqI (nI t) (by first | assumption | rfl | exact congrArg nI (by omega) | (simp (disch := omega) only [rI, rIe, rA, rIA, rLA, rJA, rVI, rQI, rVA, rQA, upd_at,  rAI, rLI, rJI, nI_add, pk_sub, kc_0, kc_1, kc_2, kc_3, kc_4, kc_5, reduceIte, Nat.reduceEqDiff, Nat.add_zero, rI_hold, rI_hold, rL_hold, ht]; done)) ?_
  refine Bod.ic 1 (by decide) dc_401_11 ?_
  refine Bod.subN (t - 1) (by omega) (by omega) dc_401_12 ?_
  refine Bod.istn dc_401_13 (by rw [ml_401]; exact Nat.le_of_ble_eq_true rfl) ?_
  refine Bod.go dc_401_14 rfl ?_
  refine Bod.sw (t := 88) dc_401_15 rfl rfl (by decide +kernel) ?_
  refine Bod.go dc_401_88 rfl ?_
  refine Bod.go dc_401_89 rfl ?_
  refine Bod.go dc_401_90 rfl ?_
  refine Bod.get dc_401_91 fr_401_496 (mk_61 _) rfl ?_
  refine Bod.go dc_401_94 rfl ?_
  refine Bod.ialdN (t - 1) rfl (by omega) (by omega) dc_401_95 (mk_91 _) ?_
  refine Bod.eqI (nI e91) (by first | assumption | rfl | exact congrArg nI (by omega) | (simp (disch := omega) only [rI, rIe, rA, rIA, rLA, rJA, rVI, rQI, rVA, rQA, upd_at,  rAI, rLI, rJI, nI_add, pk_sub, kc_0, kc_1, kc_2, kc_3, kc_4, kc_5, reduceIte, Nat.reduceEqDiff, Nat.add_zero, rI_hold, rI_hold, rL_hold, ht, he91]; done)) ?_
  refine Bod.go dc_401_96 rfl ?_
  refine Bod.get dc_401_97 fr_401_499 (mk_61 _) rfl ?_
  refine Bod.go dc_401_100 rfl ?_
  refine Bod.laldN (t - 1) rfl (by omega) (by omega) dc_401_101 (mk_92 _) ?_
  refine Bod.go dc_401_102 rfl ?_
  refine Bod.get dc_401_103 fr_401_546 (mk_61 _) rfl ?_
  refine Bod.go dc_401_106 rfl ?_
  refine Bod.laldN (t - 1) rfl (by omega) (by omega) dc_401_107 (mk_93 _) ?_
  refine Bod.virt (r := []) dc_401_108 kr_401_712 ⟨Or.inl rfl, ow_402, cl_14⟩ (by rw [np_402]; rfl) (by rw [np_402]; rfl) (ob_of (mk_61 _)) (Nat.le_of_ble_eq_true rfl) (c1  ) ?_
  show Bod _ _ _ _ [_] _ _ _
  refine Bod.go dc_401_111 rfl ?_
  refine Bod.sip 8509 (by decide) dc_401_112 ?_
  refine Bod.icF dc_401_115 rfl (k2_ne_F (k_eq 8509 8509 rfl rfl (by omega))) ?_
  refine Bod.ic 1 (by decide) dc_401_118 ?_
  refine Bod.go dc_401_119 rfl ?_
  refine Bod.icF dc_401_123 rfl (k2_eq_F (k_ne 0 1 rfl rfl (by omega) (by omega) (by omega))) ?_
  refine Bod.ic 1 (by decide) dc_401_126 ?_
  refine Bod.go dc_401_127 rfl ?_
  refine Bod.ist dc_401_131 (by rw [ml_401]; exact Nat.le_of_ble_eq_true rfl) ?_
  refine Bod.go dc_401_133 rfl ?_
  refine Bod.go dc_401_420 rfl ?_
  refine Bod.go dc_401_421 rfl ?_
  refine Bod.get dc_401_422 fr_401_493 (mk_61 _) rfl ?_
  refine Bod.eqI (nI t1) (by first | assumption | (simp (disch := omega) only [rI, rIe, rA, rIA, rLA, rJA, rVI, rQI, rVA, rQA, upd_at,  rAI, rLI, rJI, nI_add, pk_sub, kc_0, kc_1, kc_2, kc_3, kc_4, kc_5, reduceIte, Nat.reduceEqDiff, Nat.add_zero, rI_hold, rI_hold, rL_hold, ht, he91, ht1]; done) | (simp (disch := omega) only [rI, rIe, rA, rIA, rLA, rJA, rVI, rQI, rVA, rQA, upd_at,  rAI, rLI, rJI, nI_add, pk_sub, kc_0, kc_1, kc_2, kc_3, kc_4, kc_5, reduceIte, Nat.reduceEqDiff, Nat.add_zero, rI_hold, rI_hold, rL_hold, ht, he91, ht1]; exact congrArg nI (by omega))) ?_
  refine Bod.ic 2 (by decide) dc_401_425 ?_
  refine Bod.subN (t1 - 2) (by omega) (by omega) dc_401_426 ?_
  refine Bod.put dc_401_427 fr_401_493 (mk_61 _) (Nat.le_of_ble_eq_true rfl) pf_14_51 (st_6151 _ _) (mu_I _ _ _) ?_
  refine Bod.go dc_401_430 rfl ?_
  refine Bod.go dc_401_431 rfl ?_
  refine Bod.ifF dc_401_433 rfl (k1_eq_F (k_ne 1 0 rfl rfl (by omega) (by omega) (by omega))) ?_
  refine Bod.go dc_401_436 rfl ?_
  refine Bod.go dc_401_437 rfl ?_
  refine Bod.virt (r := []) dc_401_441 kr_401_613 ⟨Or.inl rfl, ow_353, cl_14⟩ (by rw [np_353]; rfl) (by rw [np_353]; rfl) (ob_of (mk_61 _)) (Nat.le_of_ble_eq_true rfl) (c2  ) ?_
  show Bod _ _ _ _ [] _ _ _
  refine Bod.ic 1 (by decide) dc_401_444 ?_
  exact Bod.retZ dc_401_445 rt_401 (Or.inr rfl)
theorem rBiIS_1 {d : Nat} {S : cS} {t : Nat} {e91 : Nat} {S1 : cS} {t1 : Nat} {S2 : cS} (ht : sI S 6151 = nI t) (mt : t < 20481) (b1 : 2 ≤ t) (b2 : 1 ≤ t) (he91 : sA S 91 (t - 1) = nI e91) (me91 : e91 < 2 ^ 20) (c1 : Ans (d + 8) 402 [.ref 61, .int (nI (t - 2)), .int (nI e91), .long (sL S 92 (t - 1)), .long (sL S 93 (t - 1))] S (some (.int (nI 1))) S1) (ht1 : sI S1 6151 = nI t1) (mt1 : t1 < 20481) (b3 : 2 ≤ t1) (c2 : Ans (d + 8) 353 [.ref 61, .long 1] (wI 6151 (nI (t1 - 2)) S1) none S2) : Bod (d + 8) 401 0 [(0, .ref 61), (1, .int (nI 2))] [] S (some (.int 1)) (S2) := by
  refine Bod.go dc_401_0 rfl ?_
  refine Bod.get dc_401_1 fr_401_493 (mk_61 _) rfl ?_
  refine Bod.eqI (nI t) (by first | assumption | rfl | exact congrArg nI (by omega) | (simp (disch := omega) only [rI, rIe, rA, rIA, rLA, rJA, rVI, rQI, rVA, rQA, upd_at,  rAI, rLI, rJI, nI_add, pk_sub, kc_0, kc_1, kc_2, kc_3, kc_4, kc_5, reduceIte, Nat.reduceEqDiff, Nat.add_zero, rI_hold, rI_hold, rL_hold, ht]; done)) ?_
  refine Bod.ic 2 (by decide) dc_401_4 ?_
  refine Bod.subN (t - 2) (by omega) (by omega) dc_401_5 ?_
  refine Bod.istn dc_401_6 (by rw [ml_401]; exact Nat.le_of_ble_eq_true rfl) ?_
  refine Bod.go dc_401_7 rfl ?_
  refine Bod.get dc_401_8 fr_401_493 (mk_61 _) rfl ?_
  refine Bod.eqI (nI t) (by first | assumption | rfl | exact congrArg nI (by omega) | (simp (disch := omega) only [rI, rIe, rA, rIA, rLA, rJA, rVI, rQI, rVA, rQA, upd_at,  rAI, rLI, rJI, nI_add, pk_sub, kc_0, kc_1, kc_2, kc_3, kc_4, kc_5, reduceIte, Nat.reduceEqDiff, Nat.add_zero, rI_hold, rI_hold, rL_hold, ht]; done)) ?_
  refine Bod.ic 1 (by decide) dc_401_11 ?_
  refine Bod.subN (t - 1) (by omega) (by omega) dc_401_12 ?_
  refine Bod.istn dc_401_13 (by rw [ml_401]; exact Nat.le_of_ble_eq_true rfl) ?_
  refine Bod.go dc_401_14 rfl ?_
  refine Bod.sw (t := 88) dc_401_15 rfl rfl (by decide +kernel) ?_
  refine Bod.go dc_401_88 rfl ?_
  refine Bod.go dc_401_89 rfl ?_
  refine Bod.go dc_401_90 rfl ?_
  refine Bod.get dc_401_91 fr_401_496 (mk_61 _) rfl ?_
  refine Bod.go dc_401_94 rfl ?_
  refine Bod.ialdN (t - 1) rfl (by omega) (by omega) dc_401_95 (mk_91 _) ?_
  refine Bod.eqI (nI e91) (by first | assumption | rfl | exact congrArg nI (by omega) | (simp (disch := omega) only [rI, rIe, rA, rIA, rLA, rJA, rVI, rQI, rVA, rQA, upd_at,  rAI, rLI, rJI, nI_add, pk_sub, kc_0, kc_1, kc_2, kc_3, kc_4, kc_5, reduceIte, Nat.reduceEqDiff, Nat.add_zero, rI_hold, rI_hold, rL_hold, ht, he91]; done)) ?_
  refine Bod.go dc_401_96 rfl ?_
  refine Bod.get dc_401_97 fr_401_499 (mk_61 _) rfl ?_
  refine Bod.go dc_401_100 rfl ?_
  refine Bod.laldN (t - 1) rfl (by omega) (by omega) dc_401_101 (mk_92 _) ?_
  refine Bod.go dc_401_102 rfl ?_
  refine Bod.get dc_401_103 fr_401_546 (mk_61 _) rfl ?_
  refine Bod.go dc_401_106 rfl ?_
  refine Bod.laldN (t - 1) rfl (by omega) (by omega) dc_401_107 (mk_93 _) ?_
  refine Bod.virt (r := []) dc_401_108 kr_401_712 ⟨Or.inl rfl, ow_402, cl_14⟩ (by rw [np_402]; rfl) (by rw [np_402]; rfl) (ob_of (mk_61 _)) (Nat.le_of_ble_eq_true rfl) (c1  ) ?_
  show Bod _ _ _ _ [_] _ _ _
  refine Bod.go dc_401_111 rfl ?_
  refine Bod.sip 8509 (by decide) dc_401_112 ?_
  refine Bod.icT dc_401_115 rfl (k2_ne_T (k_ne 2 8509 rfl rfl (by omega) (by omega) (by omega))) ?_
  refine Bod.ic 0 (by decide) dc_401_122 ?_
  refine Bod.icF dc_401_123 rfl (k2_eq_F (k_ne 1 0 rfl rfl (by omega) (by omega) (by omega))) ?_
  refine Bod.ic 1 (by decide) dc_401_126 ?_
  refine Bod.go dc_401_127 rfl ?_
  refine Bod.ist dc_401_131 (by rw [ml_401]; exact Nat.le_of_ble_eq_true rfl) ?_
  refine Bod.go dc_401_133 rfl ?_
  refine Bod.go dc_401_420 rfl ?_
  refine Bod.go dc_401_421 rfl ?_
  refine Bod.get dc_401_422 fr_401_493 (mk_61 _) rfl ?_
  refine Bod.eqI (nI t1) (by first | assumption | (simp (disch := omega) only [rI, rIe, rA, rIA, rLA, rJA, rVI, rQI, rVA, rQA, upd_at,  rAI, rLI, rJI, nI_add, pk_sub, kc_0, kc_1, kc_2, kc_3, kc_4, kc_5, reduceIte, Nat.reduceEqDiff, Nat.add_zero, rI_hold, rI_hold, rL_hold, ht, he91, ht1]; done) | (simp (disch := omega) only [rI, rIe, rA, rIA, rLA, rJA, rVI, rQI, rVA, rQA, upd_at,  rAI, rLI, rJI, nI_add, pk_sub, kc_0, kc_1, kc_2, kc_3, kc_4, kc_5, reduceIte, Nat.reduceEqDiff, Nat.add_zero, rI_hold, rI_hold, rL_hold, ht, he91, ht1]; exact congrArg nI (by omega))) ?_
  refine Bod.ic 2 (by decide) dc_401_425 ?_
  refine Bod.subN (t1 - 2) (by omega) (by omega) dc_401_426 ?_
  refine Bod.put dc_401_427 fr_401_493 (mk_61 _) (Nat.le_of_ble_eq_true rfl) pf_14_51 (st_6151 _ _) (mu_I _ _ _) ?_
  refine Bod.go dc_401_430 rfl ?_
  refine Bod.go dc_401_431 rfl ?_
  refine Bod.ifF dc_401_433 rfl (k1_eq_F (k_ne 1 0 rfl rfl (by omega) (by omega) (by omega))) ?_
  refine Bod.go dc_401_436 rfl ?_
  refine Bod.go dc_401_437 rfl ?_
  refine Bod.virt (r := []) dc_401_441 kr_401_613 ⟨Or.inl rfl, ow_353, cl_14⟩ (by rw [np_353]; rfl) (by rw [np_353]; rfl) (ob_of (mk_61 _)) (Nat.le_of_ble_eq_true rfl) (c2  ) ?_
  show Bod _ _ _ _ [] _ _ _
  refine Bod.ic 1 (by decide) dc_401_444 ?_
  exact Bod.retZ dc_401_445 rt_401 (Or.inr rfl)
theorem rBiIS_2 {d : Nat} {S : cS} {t : Nat} {e91 : Nat} {S1 : cS} {t1 : Nat} {S2 : cS} (ht : sI S 6151 = nI t) (mt : t < 20481) (b1 : 2 ≤ t) (b2 : 1 ≤ t) (he91 : sA S 91 (t - 1) = nI e91) (me91 : e91 < 2 ^ 20) (c1 : Ans (d + 8) 402 [.ref 61, .int (nI (t - 2)), .int (nI e91), .long (sL S 92 (t - 1)), .long (sL S 93 (t - 1))] S (some (.int (nI 0))) S1) (ht1 : sI S1 6151 = nI t1) (mt1 : t1 < 20481) (b3 : 2 ≤ t1) (c2 : Ans (d + 8) 353 [.ref 61, .long 0] (wI 6151 (nI (t1 - 2)) S1) none S2) : Bod (d + 8) 401 0 [(0, .ref 61), (1, .int (nI 2))] [] S (some (.int 1)) (S2) := by
  refine Bod.go dc_401_0 rfl ?_
  refine Bod.get dc_401_1 fr_401_493 (mk_61 _) rfl ?_
  refine Bod.eqI (nI t) (by first | assumption | rfl | exact congrArg nI (by omega) | (simp (disch := omega) only [rI, rIe, rA, rIA, rLA, rJA, rVI, rQI, rVA, rQA, upd_at,  rAI, rLI, rJI, nI_add, pk_sub, kc_0, kc_1, kc_2, kc_3, kc_4, kc_5, reduceIte, Nat.reduceEqDiff, Nat.add_zero, rI_hold, rI_hold, rL_hold, ht]; done)) ?_
  refine Bod.ic 2 (by decide) dc_401_4 ?_
  refine Bod.subN (t - 2) (by omega) (by omega) dc_401_5 ?_
  refine Bod.istn dc_401_6 (by rw [ml_401]; exact Nat.le_of_ble_eq_true rfl) ?_
  refine Bod.go dc_401_7 rfl ?_
  refine Bod.get dc_401_8 fr_401_493 (mk_61 _) rfl ?_
  refine Bod.eqI (nI t) (by first | assumption | rfl | exact congrArg nI (by omega) | (simp (disch := omega) only [rI, rIe, rA, rIA, rLA, rJA, rVI, rQI, rVA, rQA, upd_at,  rAI, rLI, rJI, nI_add, pk_sub, kc_0, kc_1, kc_2, kc_3, kc_4, kc_5, reduceIte, Nat.reduceEqDiff, Nat.add_zero, rI_hold, rI_hold, rL_hold, ht]; done)) ?_
  refine Bod.ic 1 (by decide) dc_401_11 ?_
  refine Bod.subN (t - 1) (by omega) (by omega) dc_401_12 ?_
  refine Bod.istn dc_401_13 (by rw [ml_401]; exact Nat.le_of_ble_eq_true rfl) ?_
  refine Bod.go dc_401_14 rfl ?_
  refine Bod.sw (t := 88) dc_401_15 rfl rfl (by decide +kernel) ?_
  refine Bod.go dc_401_88 rfl ?_
  refine Bod.go dc_401_89 rfl ?_
  refine Bod.go dc_401_90 rfl ?_
  refine Bod.get dc_401_91 fr_401_496 (mk_61 _) rfl ?_
  refine Bod.go dc_401_94 rfl ?_
  refine Bod.ialdN (t - 1) rfl (by omega) (by omega) dc_401_95 (mk_91 _) ?_
  refine Bod.eqI (nI e91) (by first | assumption | rfl | exact congrArg nI (by omega) | (simp (disch := omega) only [rI, rIe, rA, rIA, rLA, rJA, rVI, rQI, rVA, rQA, upd_at,  rAI, rLI, rJI, nI_add, pk_sub, kc_0, kc_1, kc_2, kc_3, kc_4, kc_5, reduceIte, Nat.reduceEqDiff, Nat.add_zero, rI_hold, rI_hold, rL_hold, ht, he91]; done)) ?_
  refine Bod.go dc_401_96 rfl ?_
  refine Bod.get dc_401_97 fr_401_499 (mk_61 _) rfl ?_
  refine Bod.go dc_401_100 rfl ?_
  refine Bod.laldN (t - 1) rfl (by omega) (by omega) dc_401_101 (mk_92 _) ?_
  refine Bod.go dc_401_102 rfl ?_
  refine Bod.get dc_401_103 fr_401_546 (mk_61 _) rfl ?_
  refine Bod.go dc_401_106 rfl ?_
  refine Bod.laldN (t - 1) rfl (by omega) (by omega) dc_401_107 (mk_93 _) ?_
  refine Bod.virt (r := []) dc_401_108 kr_401_712 ⟨Or.inl rfl, ow_402, cl_14⟩ (by rw [np_402]; rfl) (by rw [np_402]; rfl) (ob_of (mk_61 _)) (Nat.le_of_ble_eq_true rfl) (c1  ) ?_
  show Bod _ _ _ _ [_] _ _ _
  refine Bod.go dc_401_111 rfl ?_
  refine Bod.sip 8509 (by decide) dc_401_112 ?_
  refine Bod.icT dc_401_115 rfl (k2_ne_T (k_ne 2 8509 rfl rfl (by omega) (by omega) (by omega))) ?_
  refine Bod.ic 0 (by decide) dc_401_122 ?_
  refine Bod.icT dc_401_123 rfl (k2_eq_T (k_eq 0 0 rfl rfl (by omega))) ?_
  refine Bod.ic 0 (by decide) dc_401_130 ?_
  refine Bod.ist dc_401_131 (by rw [ml_401]; exact Nat.le_of_ble_eq_true rfl) ?_
  refine Bod.go dc_401_133 rfl ?_
  refine Bod.go dc_401_420 rfl ?_
  refine Bod.go dc_401_421 rfl ?_
  refine Bod.get dc_401_422 fr_401_493 (mk_61 _) rfl ?_
  refine Bod.eqI (nI t1) (by first | assumption | (simp (disch := omega) only [rI, rIe, rA, rIA, rLA, rJA, rVI, rQI, rVA, rQA, upd_at,  rAI, rLI, rJI, nI_add, pk_sub, kc_0, kc_1, kc_2, kc_3, kc_4, kc_5, reduceIte, Nat.reduceEqDiff, Nat.add_zero, rI_hold, rI_hold, rL_hold, ht, he91, ht1]; done) | (simp (disch := omega) only [rI, rIe, rA, rIA, rLA, rJA, rVI, rQI, rVA, rQA, upd_at,  rAI, rLI, rJI, nI_add, pk_sub, kc_0, kc_1, kc_2, kc_3, kc_4, kc_5, reduceIte, Nat.reduceEqDiff, Nat.add_zero, rI_hold, rI_hold, rL_hold, ht, he91, ht1]; exact congrArg nI (by omega))) ?_
  refine Bod.ic 2 (by decide) dc_401_425 ?_
  refine Bod.subN (t1 - 2) (by omega) (by omega) dc_401_426 ?_
  refine Bod.put dc_401_427 fr_401_493 (mk_61 _) (Nat.le_of_ble_eq_true rfl) pf_14_51 (st_6151 _ _) (mu_I _ _ _) ?_
  refine Bod.go dc_401_430 rfl ?_
  refine Bod.go dc_401_431 rfl ?_
  refine Bod.ifT dc_401_433 rfl (k1_eq_T (k_eq 0 0 rfl rfl (by omega))) ?_
  refine Bod.go dc_401_440 rfl ?_
  refine Bod.virt (r := []) dc_401_441 kr_401_613 ⟨Or.inl rfl, ow_353, cl_14⟩ (by rw [np_353]; rfl) (by rw [np_353]; rfl) (ob_of (mk_61 _)) (Nat.le_of_ble_eq_true rfl) (c2  ) ?_
  show Bod _ _ _ _ [] _ _ _
  refine Bod.ic 1 (by decide) dc_401_444 ?_
  exact Bod.retZ dc_401_445 rt_401 (Or.inr rfl)
theorem rBiLT_1 {d : Nat} {S : cS} {t : Nat} {e91 : Nat} {e911 : Nat} {S1 : cS} (ht : sI S 6151 = nI t) (mt : t < 20481) (b1 : 2 ≤ t) (b2 : 1 ≤ t) (he91 : sA S 91 (t - 2) = nI e91) (me91 : e91 < 2 ^ 20) (he911 : sA S 91 (t - 1) = nI e911) (me911 : e911 < 2 ^ 20) (b3 : e91 ≠ e911) (c1 : Ans (d + 8) 351 [.ref 61, .int (nI 2)] S (some (.int (nI 0))) S1) : Bod (d + 8) 401 0 [(0, .ref 61), (1, .int (nI 60))] [] S (some (.int 0)) (S1) := by
  refine Bod.go dc_401_0 rfl ?_
  refine Bod.get dc_401_1 fr_401_493 (mk_61 _) rfl ?_
  refine Bod.eqI (nI t) (by first | assumption | rfl | exact congrArg nI (by omega) | (simp (disch := omega) only [rI, rIe, rA, rIA, rLA, rJA, rVI, rQI, rVA, rQA, upd_at,  rAI, rLI, rJI, nI_add, pk_sub, kc_0, kc_1, kc_2, kc_3, kc_4, kc_5, reduceIte, Nat.reduceEqDiff, Nat.add_zero, rI_hold, rI_hold, rL_hold, ht]; done)) ?_
  refine Bod.ic 2 (by decide) dc_401_4 ?_
  refine Bod.subN (t - 2) (by omega) (by omega) dc_401_5 ?_
  refine Bod.istn dc_401_6 (by rw [ml_401]; exact Nat.le_of_ble_eq_true rfl) ?_
  refine Bod.go dc_401_7 rfl ?_
  refine Bod.get dc_401_8 fr_401_493 (mk_61 _) rfl ?_
  refine Bod.eqI (nI t) (by first | assumption | rfl | exact congrArg nI (by omega) | (simp (disch := omega) only [rI, rIe, rA, rIA, rLA, rJA, rVI, rQI, rVA, rQA, upd_at,  rAI, rLI, rJI, nI_add, pk_sub, kc_0, kc_1, kc_2, kc_3, kc_4, kc_5, reduceIte, Nat.reduceEqDiff, Nat.add_zero, rI_hold, rI_hold, rL_hold, ht]; done)) ?_
  refine Bod.ic 1 (by decide) dc_401_11 ?_
  refine Bod.subN (t - 1) (by omega) (by omega) dc_401_12 ?_
  refine Bod.istn dc_401_13 (by rw [ml_401]; exact Nat.le_of_ble_eq_true rfl) ?_
  refine Bod.go dc_401_14 rfl ?_
  refine Bod.sw (t := 290) dc_401_15 rfl rfl (by decide +kernel) ?_
  refine Bod.go dc_401_290 rfl ?_
  refine Bod.get dc_401_291 fr_401_496 (mk_61 _) rfl ?_
  refine Bod.go dc_401_294 rfl ?_
  refine Bod.ialdN (t - 2) rfl (by omega) (by omega) dc_401_295 (mk_91 _) ?_
  refine Bod.eqI (nI e91) (by first | assumption | rfl | exact congrArg nI (by omega) | (simp (disch := omega) only [rI, rIe, rA, rIA, rLA, rJA, rVI, rQI, rVA, rQA, upd_at,  rAI, rLI, rJI, nI_add, pk_sub, kc_0, kc_1, kc_2, kc_3, kc_4, kc_5, reduceIte, Nat.reduceEqDiff, Nat.add_zero, rI_hold, rI_hold, rL_hold, ht, he91]; done)) ?_
  refine Bod.go dc_401_296 rfl ?_
  refine Bod.get dc_401_297 fr_401_496 (mk_61 _) rfl ?_
  refine Bod.go dc_401_300 rfl ?_
  refine Bod.ialdN (t - 1) rfl (by omega) (by omega) dc_401_301 (mk_91 _) ?_
  refine Bod.eqI (nI e911) (by first | assumption | rfl | exact congrArg nI (by omega) | (simp (disch := omega) only [rI, rIe, rA, rIA, rLA, rJA, rVI, rQI, rVA, rQA, upd_at,  rAI, rLI, rJI, nI_add, pk_sub, kc_0, kc_1, kc_2, kc_3, kc_4, kc_5, reduceIte, Nat.reduceEqDiff, Nat.add_zero, rI_hold, rI_hold, rL_hold, ht, he91, he911]; done)) ?_
  refine Bod.icT dc_401_302 rfl (k2_ne_T (k_ne e91 e911 rfl rfl (by omega) (by omega) (by omega))) ?_
  refine Bod.go dc_401_325 rfl ?_
  refine Bod.ic 2 (by decide) dc_401_326 ?_
  refine Bod.virt (r := []) dc_401_327 kr_401_608 ⟨Or.inl rfl, ow_351, cl_14⟩ (by rw [np_351]; rfl) (by rw [np_351]; rfl) (ob_of (mk_61 _)) (Nat.le_of_ble_eq_true rfl) (c1  ) ?_
  show Bod _ _ _ _ [_] _ _ _
  exact Bod.retZ dc_401_330 rt_401 (Or.inl rfl)
theorem rBiLT_2 {d : Nat} {S : cS} {t : Nat} {e91 : Nat} {e911 : Nat} {S1 : cS} {rb : Int32} {t1 : Nat} {S2 : cS} (ht : sI S 6151 = nI t) (mt : t < 20481) (b1 : 2 ≤ t) (b2 : 1 ≤ t) (he91 : sA S 91 (t - 2) = nI e91) (me91 : e91 < 2 ^ 20) (he911 : sA S 91 (t - 1) = nI e911) (me911 : e911 < 2 ^ 20) (b3 : e91 = e911) (b4 : e91 = 1) (c1 : Ans (d + 8) 404 [.ref 61, .int (nI (t - 2)), .int (nI (t - 1))] S (some (.int rb)) S1) (w12 : sm_c1 .ge rb true false = true) (ht1 : sI S1 6151 = nI t1) (mt1 : t1 < 20481) (b5 : 2 ≤ t1) (c2 : Ans (d + 8) 353 [.ref 61, .long 0] (wI 6151 (nI (t1 - 2)) S1) none S2) : Bod (d + 8) 401 0 [(0, .ref 61), (1, .int (nI 60))] [] S (some (.int 1)) (S2) := by
  refine Bod.go dc_401_0 rfl ?_
  refine Bod.get dc_401_1 fr_401_493 (mk_61 _) rfl ?_
  refine Bod.eqI (nI t) (by first | assumption | rfl | exact congrArg nI (by omega) | (simp (disch := omega) only [rI, rIe, rA, rIA, rLA, rJA, rVI, rQI, rVA, rQA, upd_at,  rAI, rLI, rJI, nI_add, pk_sub, kc_0, kc_1, kc_2, kc_3, kc_4, kc_5, reduceIte, Nat.reduceEqDiff, Nat.add_zero, rI_hold, rI_hold, rL_hold, ht]; done)) ?_
  refine Bod.ic 2 (by decide) dc_401_4 ?_
  refine Bod.subN (t - 2) (by omega) (by omega) dc_401_5 ?_
  refine Bod.istn dc_401_6 (by rw [ml_401]; exact Nat.le_of_ble_eq_true rfl) ?_
  refine Bod.go dc_401_7 rfl ?_
  refine Bod.get dc_401_8 fr_401_493 (mk_61 _) rfl ?_
  refine Bod.eqI (nI t) (by first | assumption | rfl | exact congrArg nI (by omega) | (simp (disch := omega) only [rI, rIe, rA, rIA, rLA, rJA, rVI, rQI, rVA, rQA, upd_at,  rAI, rLI, rJI, nI_add, pk_sub, kc_0, kc_1, kc_2, kc_3, kc_4, kc_5, reduceIte, Nat.reduceEqDiff, Nat.add_zero, rI_hold, rI_hold, rL_hold, ht]; done)) ?_
  refine Bod.ic 1 (by decide) dc_401_11 ?_
  refine Bod.subN (t - 1) (by omega) (by omega) dc_401_12 ?_
  refine Bod.istn dc_401_13 (by rw [ml_401]; exact Nat.le_of_ble_eq_true rfl) ?_
  refine Bod.go dc_401_14 rfl ?_
  refine Bod.sw (t := 290) dc_401_15 rfl rfl (by decide +kernel) ?_
  refine Bod.go dc_401_290 rfl ?_
  refine Bod.get dc_401_291 fr_401_496 (mk_61 _) rfl ?_
  refine Bod.go dc_401_294 rfl ?_
  refine Bod.ialdN (t - 2) rfl (by omega) (by omega) dc_401_295 (mk_91 _) ?_
  refine Bod.eqI (nI e91) (by first | assumption | rfl | exact congrArg nI (by omega) | (simp (disch := omega) only [rI, rIe, rA, rIA, rLA, rJA, rVI, rQI, rVA, rQA, upd_at,  rAI, rLI, rJI, nI_add, pk_sub, kc_0, kc_1, kc_2, kc_3, kc_4, kc_5, reduceIte, Nat.reduceEqDiff, Nat.add_zero, rI_hold, rI_hold, rL_hold, ht, he91]; done)) ?_
  refine Bod.go dc_401_296 rfl ?_
  refine Bod.get dc_401_297 fr_401_496 (mk_61 _) rfl ?_
  refine Bod.go dc_401_300 rfl ?_
  refine Bod.ialdN (t - 1) rfl (by omega) (by omega) dc_401_301 (mk_91 _) ?_
  refine Bod.eqI (nI e911) (by first | assumption | rfl | exact congrArg nI (by omega) | (simp (disch := omega) only [rI, rIe, rA, rIA, rLA, rJA, rVI, rQI, rVA, rQA, upd_at,  rAI, rLI, rJI, nI_add, pk_sub, kc_0, kc_1, kc_2, kc_3, kc_4, kc_5, reduceIte, Nat.reduceEqDiff, Nat.add_zero, rI_hold, rI_hold, rL_hold, ht, he91, he911]; done)) ?_
  refine Bod.icF dc_401_302 rfl (k2_ne_F (k_eq e91 e911 rfl rfl (by omega))) ?_
  refine Bod.go dc_401_305 rfl ?_
  refine Bod.get dc_401_306 fr_401_496 (mk_61 _) rfl ?_
  refine Bod.go dc_401_309 rfl ?_
  refine Bod.ialdN (t - 2) rfl (by omega) (by omega) dc_401_310 (mk_91 _) ?_
  refine Bod.eqI (nI e91) (by first | assumption | rfl | exact congrArg nI (by omega) | (simp (disch := omega) only [rI, rIe, rA, rIA, rLA, rJA, rVI, rQI, rVA, rQA, upd_at,  rAI, rLI, rJI, nI_add, pk_sub, kc_0, kc_1, kc_2, kc_3, kc_4, kc_5, reduceIte, Nat.reduceEqDiff, Nat.add_zero, rI_hold, rI_hold, rL_hold, ht, he91, he911]; done)) ?_
  refine Bod.ic 1 (by decide) dc_401_311 ?_
  refine Bod.icT dc_401_312 rfl (k2_eq_T (k_eq e91 1 rfl rfl (by omega))) ?_
  refine Bod.go dc_401_331 rfl ?_
  refine Bod.go dc_401_332 rfl ?_
  refine Bod.go dc_401_333 rfl ?_
  refine Bod.virt (r := []) dc_401_334 kr_401_728 ⟨Or.inl rfl, ow_404, cl_14⟩ (by rw [np_404]; rfl) (by rw [np_404]; rfl) (ob_of (mk_61 _)) (Nat.le_of_ble_eq_true rfl) (c1  ) ?_
  show Bod _ _ _ _ [_] _ _ _
  refine Bod.ist dc_401_337 (by rw [ml_401]; exact Nat.le_of_ble_eq_true rfl) ?_
  refine Bod.go dc_401_339 rfl ?_
  refine Bod.bip 60 (by decide) dc_401_340 ?_
  refine Bod.icF dc_401_342 rfl (k2_ne_F (k_eq 60 60 rfl rfl (by omega))) ?_
  refine Bod.go dc_401_345 rfl ?_
  refine Bod.ifT dc_401_347 rfl w12 ?_
  refine Bod.ic 0 (by decide) dc_401_354 ?_
  refine Bod.go dc_401_355 rfl ?_
  refine Bod.ist dc_401_407 (by rw [ml_401]; exact Nat.le_of_ble_eq_true rfl) ?_
  refine Bod.go dc_401_409 rfl ?_
  refine Bod.go dc_401_420 rfl ?_
  refine Bod.go dc_401_421 rfl ?_
  refine Bod.get dc_401_422 fr_401_493 (mk_61 _) rfl ?_
  refine Bod.eqI (nI t1) (by first | assumption | (simp (disch := omega) only [rI, rIe, rA, rIA, rLA, rJA, rVI, rQI, rVA, rQA, upd_at,  rAI, rLI, rJI, nI_add, pk_sub, kc_0, kc_1, kc_2, kc_3, kc_4, kc_5, reduceIte, Nat.reduceEqDiff, Nat.add_zero, rI_hold, rI_hold, rL_hold, ht, he91, he911, ht1]; done) | (simp (disch := omega) only [rI, rIe, rA, rIA, rLA, rJA, rVI, rQI, rVA, rQA, upd_at,  rAI, rLI, rJI, nI_add, pk_sub, kc_0, kc_1, kc_2, kc_3, kc_4, kc_5, reduceIte, Nat.reduceEqDiff, Nat.add_zero, rI_hold, rI_hold, rL_hold, ht, he91, he911, ht1]; exact congrArg nI (by omega))) ?_
  refine Bod.ic 2 (by decide) dc_401_425 ?_
  refine Bod.subN (t1 - 2) (by omega) (by omega) dc_401_426 ?_
  refine Bod.put dc_401_427 fr_401_493 (mk_61 _) (Nat.le_of_ble_eq_true rfl) pf_14_51 (st_6151 _ _) (mu_I _ _ _) ?_
  refine Bod.go dc_401_430 rfl ?_
  refine Bod.go dc_401_431 rfl ?_
  refine Bod.ifT dc_401_433 rfl (k1_eq_T (k_eq 0 0 rfl rfl (by omega))) ?_
  refine Bod.go dc_401_440 rfl ?_
  refine Bod.virt (r := []) dc_401_441 kr_401_613 ⟨Or.inl rfl, ow_353, cl_14⟩ (by rw [np_353]; rfl) (by rw [np_353]; rfl) (ob_of (mk_61 _)) (Nat.le_of_ble_eq_true rfl) (c2  ) ?_
  show Bod _ _ _ _ [] _ _ _
  refine Bod.ic 1 (by decide) dc_401_444 ?_
  exact Bod.retZ dc_401_445 rt_401 (Or.inr rfl)
theorem rBiLT_3 {d : Nat} {S : cS} {t : Nat} {e91 : Nat} {e911 : Nat} {S1 : cS} {rb : Int32} {t1 : Nat} {S2 : cS} (ht : sI S 6151 = nI t) (mt : t < 20481) (b1 : 2 ≤ t) (b2 : 1 ≤ t) (he91 : sA S 91 (t - 2) = nI e91) (me91 : e91 < 2 ^ 20) (he911 : sA S 91 (t - 1) = nI e911) (me911 : e911 < 2 ^ 20) (b3 : e91 = e911) (b4 : e91 = 1) (c1 : Ans (d + 8) 404 [.ref 61, .int (nI (t - 2)), .int (nI (t - 1))] S (some (.int rb)) S1) (w12 : sm_c1 .ge rb true false = false) (ht1 : sI S1 6151 = nI t1) (mt1 : t1 < 20481) (b5 : 2 ≤ t1) (c2 : Ans (d + 8) 353 [.ref 61, .long 1] (wI 6151 (nI (t1 - 2)) S1) none S2) : Bod (d + 8) 401 0 [(0, .ref 61), (1, .int (nI 60))] [] S (some (.int 1)) (S2) := by
  refine Bod.go dc_401_0 rfl ?_
  refine Bod.get dc_401_1 fr_401_493 (mk_61 _) rfl ?_
  refine Bod.eqI (nI t) (by first | assumption | rfl | exact congrArg nI (by omega) | (simp (disch := omega) only [rI, rIe, rA, rIA, rLA, rJA, rVI, rQI, rVA, rQA, upd_at,  rAI, rLI, rJI, nI_add, pk_sub, kc_0, kc_1, kc_2, kc_3, kc_4, kc_5, reduceIte, Nat.reduceEqDiff, Nat.add_zero, rI_hold, rI_hold, rL_hold, ht]; done)) ?_
  refine Bod.ic 2 (by decide) dc_401_4 ?_
  refine Bod.subN (t - 2) (by omega) (by omega) dc_401_5 ?_
  refine Bod.istn dc_401_6 (by rw [ml_401]; exact Nat.le_of_ble_eq_true rfl) ?_
  refine Bod.go dc_401_7 rfl ?_
  refine Bod.get dc_401_8 fr_401_493 (mk_61 _) rfl ?_
  refine Bod.eqI (nI t) (by first | assumption | rfl | exact congrArg nI (by omega) | (simp (disch := omega) only [rI, rIe, rA, rIA, rLA, rJA, rVI, rQI, rVA, rQA, upd_at,  rAI, rLI, rJI, nI_add, pk_sub, kc_0, kc_1, kc_2, kc_3, kc_4, kc_5, reduceIte, Nat.reduceEqDiff, Nat.add_zero, rI_hold, rI_hold, rL_hold, ht]; done)) ?_
  refine Bod.ic 1 (by decide) dc_401_11 ?_
  refine Bod.subN (t - 1) (by omega) (by omega) dc_401_12 ?_
  refine Bod.istn dc_401_13 (by rw [ml_401]; exact Nat.le_of_ble_eq_true rfl) ?_
  refine Bod.go dc_401_14 rfl ?_
  refine Bod.sw (t := 290) dc_401_15 rfl rfl (by decide +kernel) ?_
  refine Bod.go dc_401_290 rfl ?_
  refine Bod.get dc_401_291 fr_401_496 (mk_61 _) rfl ?_
  refine Bod.go dc_401_294 rfl ?_
  refine Bod.ialdN (t - 2) rfl (by omega) (by omega) dc_401_295 (mk_91 _) ?_
  refine Bod.eqI (nI e91) (by first | assumption | rfl | exact congrArg nI (by omega) | (simp (disch := omega) only [rI, rIe, rA, rIA, rLA, rJA, rVI, rQI, rVA, rQA, upd_at,  rAI, rLI, rJI, nI_add, pk_sub, kc_0, kc_1, kc_2, kc_3, kc_4, kc_5, reduceIte, Nat.reduceEqDiff, Nat.add_zero, rI_hold, rI_hold, rL_hold, ht, he91]; done)) ?_
  refine Bod.go dc_401_296 rfl ?_
  refine Bod.get dc_401_297 fr_401_496 (mk_61 _) rfl ?_
  refine Bod.go dc_401_300 rfl ?_
  refine Bod.ialdN (t - 1) rfl (by omega) (by omega) dc_401_301 (mk_91 _) ?_
  refine Bod.eqI (nI e911) (by first | assumption | rfl | exact congrArg nI (by omega) | (simp (disch := omega) only [rI, rIe, rA, rIA, rLA, rJA, rVI, rQI, rVA, rQA, upd_at,  rAI, rLI, rJI, nI_add, pk_sub, kc_0, kc_1, kc_2, kc_3, kc_4, kc_5, reduceIte, Nat.reduceEqDiff, Nat.add_zero, rI_hold, rI_hold, rL_hold, ht, he91, he911]; done)) ?_
  refine Bod.icF dc_401_302 rfl (k2_ne_F (k_eq e91 e911 rfl rfl (by omega))) ?_
  refine Bod.go dc_401_305 rfl ?_
  refine Bod.get dc_401_306 fr_401_496 (mk_61 _) rfl ?_
  refine Bod.go dc_401_309 rfl ?_
  refine Bod.ialdN (t - 2) rfl (by omega) (by omega) dc_401_310 (mk_91 _) ?_
  refine Bod.eqI (nI e91) (by first | assumption | rfl | exact congrArg nI (by omega) | (simp (disch := omega) only [rI, rIe, rA, rIA, rLA, rJA, rVI, rQI, rVA, rQA, upd_at,  rAI, rLI, rJI, nI_add, pk_sub, kc_0, kc_1, kc_2, kc_3, kc_4, kc_5, reduceIte, Nat.reduceEqDiff, Nat.add_zero, rI_hold, rI_hold, rL_hold, ht, he91, he911]; done)) ?_
  refine Bod.ic 1 (by decide) dc_401_311 ?_
  refine Bod.icT dc_401_312 rfl (k2_eq_T (k_eq e91 1 rfl rfl (by omega))) ?_
  refine Bod.go dc_401_331 rfl ?_
  refine Bod.go dc_401_332 rfl ?_
  refine Bod.go dc_401_333 rfl ?_
  refine Bod.virt (r := []) dc_401_334 kr_401_728 ⟨Or.inl rfl, ow_404, cl_14⟩ (by rw [np_404]; rfl) (by rw [np_404]; rfl) (ob_of (mk_61 _)) (Nat.le_of_ble_eq_true rfl) (c1  ) ?_
  show Bod _ _ _ _ [_] _ _ _
  refine Bod.ist dc_401_337 (by rw [ml_401]; exact Nat.le_of_ble_eq_true rfl) ?_
  refine Bod.go dc_401_339 rfl ?_
  refine Bod.bip 60 (by decide) dc_401_340 ?_
  refine Bod.icF dc_401_342 rfl (k2_ne_F (k_eq 60 60 rfl rfl (by omega))) ?_
  refine Bod.go dc_401_345 rfl ?_
  refine Bod.ifF dc_401_347 rfl w12 ?_
  refine Bod.ic 1 (by decide) dc_401_350 ?_
  refine Bod.go dc_401_351 rfl ?_
  refine Bod.ist dc_401_407 (by rw [ml_401]; exact Nat.le_of_ble_eq_true rfl) ?_
  refine Bod.go dc_401_409 rfl ?_
  refine Bod.go dc_401_420 rfl ?_
  refine Bod.go dc_401_421 rfl ?_
  refine Bod.get dc_401_422 fr_401_493 (mk_61 _) rfl ?_
  refine Bod.eqI (nI t1) (by first | assumption | (simp (disch := omega) only [rI, rIe, rA, rIA, rLA, rJA, rVI, rQI, rVA, rQA, upd_at,  rAI, rLI, rJI, nI_add, pk_sub, kc_0, kc_1, kc_2, kc_3, kc_4, kc_5, reduceIte, Nat.reduceEqDiff, Nat.add_zero, rI_hold, rI_hold, rL_hold, ht, he91, he911, ht1]; done) | (simp (disch := omega) only [rI, rIe, rA, rIA, rLA, rJA, rVI, rQI, rVA, rQA, upd_at,  rAI, rLI, rJI, nI_add, pk_sub, kc_0, kc_1, kc_2, kc_3, kc_4, kc_5, reduceIte, Nat.reduceEqDiff, Nat.add_zero, rI_hold, rI_hold, rL_hold, ht, he91, he911, ht1]; exact congrArg nI (by omega))) ?_
  refine Bod.ic 2 (by decide) dc_401_425 ?_
  refine Bod.subN (t1 - 2) (by omega) (by omega) dc_401_426 ?_
  refine Bod.put dc_401_427 fr_401_493 (mk_61 _) (Nat.le_of_ble_eq_true rfl) pf_14_51 (st_6151 _ _) (mu_I _ _ _) ?_
  refine Bod.go dc_401_430 rfl ?_
  refine Bod.go dc_401_431 rfl ?_
  refine Bod.ifF dc_401_433 rfl (k1_eq_F (k_ne 1 0 rfl rfl (by omega) (by omega) (by omega))) ?_
  refine Bod.go dc_401_436 rfl ?_
  refine Bod.go dc_401_437 rfl ?_
  refine Bod.virt (r := []) dc_401_441 kr_401_613 ⟨Or.inl rfl, ow_353, cl_14⟩ (by rw [np_353]; rfl) (by rw [np_353]; rfl) (ob_of (mk_61 _)) (Nat.le_of_ble_eq_true rfl) (c2  ) ?_
  show Bod _ _ _ _ [] _ _ _
  refine Bod.ic 1 (by decide) dc_401_444 ?_
  exact Bod.retZ dc_401_445 rt_401 (Or.inr rfl)
theorem rBiLT_4 {d : Nat} {S : cS} {t : Nat} {e91 : Nat} {e911 : Nat} {S1 : cS} {rb : Int32} {t1 : Nat} {S2 : cS} (ht : sI S 6151 = nI t) (mt : t < 20481) (b1 : 2 ≤ t) (b2 : 1 ≤ t) (he91 : sA S 91 (t - 2) = nI e91) (me91 : e91 < 2 ^ 20) (he911 : sA S 91 (t - 1) = nI e911) (me911 : e911 < 2 ^ 20) (b3 : e91 = e911) (b4 : e91 ≠ 1) (b5 : e91 = 2) (c1 : Ans (d + 8) 404 [.ref 61, .int (nI (t - 2)), .int (nI (t - 1))] S (some (.int rb)) S1) (w13 : sm_c1 .ge rb true false = true) (ht1 : sI S1 6151 = nI t1) (mt1 : t1 < 20481) (b6 : 2 ≤ t1) (c2 : Ans (d + 8) 353 [.ref 61, .long 0] (wI 6151 (nI (t1 - 2)) S1) none S2) : Bod (d + 8) 401 0 [(0, .ref 61), (1, .int (nI 60))] [] S (some (.int 1)) (S2) := by
  refine Bod.go dc_401_0 rfl ?_
  refine Bod.get dc_401_1 fr_401_493 (mk_61 _) rfl ?_
  refine Bod.eqI (nI t) (by first | assumption | rfl | exact congrArg nI (by omega) | (simp (disch := omega) only [rI, rIe, rA, rIA, rLA, rJA, rVI, rQI, rVA, rQA, upd_at,  rAI, rLI, rJI, nI_add, pk_sub, kc_0, kc_1, kc_2, kc_3, kc_4, kc_5, reduceIte, Nat.reduceEqDiff, Nat.add_zero, rI_hold, rI_hold, rL_hold, ht]; done)) ?_
  refine Bod.ic 2 (by decide) dc_401_4 ?_
  refine Bod.subN (t - 2) (by omega) (by omega) dc_401_5 ?_
  refine Bod.istn dc_401_6 (by rw [ml_401]; exact Nat.le_of_ble_eq_true rfl) ?_
  refine Bod.go dc_401_7 rfl ?_
  refine Bod.get dc_401_8 fr_401_493 (mk_61 _) rfl ?_
  refine Bod.eqI (nI t) (by first | assumption | rfl | exact congrArg nI (by omega) | (simp (disch := omega) only [rI, rIe, rA, rIA, rLA, rJA, rVI, rQI, rVA, rQA, upd_at,  rAI, rLI, rJI, nI_add, pk_sub, kc_0, kc_1, kc_2, kc_3, kc_4, kc_5, reduceIte, Nat.reduceEqDiff, Nat.add_zero, rI_hold, rI_hold, rL_hold, ht]; done)) ?_
  refine Bod.ic 1 (by decide) dc_401_11 ?_
  refine Bod.subN (t - 1) (by omega) (by omega) dc_401_12 ?_
  refine Bod.istn dc_401_13 (by rw [ml_401]; exact Nat.le_of_ble_eq_true rfl) ?_
  refine Bod.go dc_401_14 rfl ?_
  refine Bod.sw (t := 290) dc_401_15 rfl rfl (by decide +kernel) ?_
  refine Bod.go dc_401_290 rfl ?_
  refine Bod.get dc_401_291 fr_401_496 (mk_61 _) rfl ?_
  refine Bod.go dc_401_294 rfl ?_
  refine Bod.ialdN (t - 2) rfl (by omega) (by omega) dc_401_295 (mk_91 _) ?_
  refine Bod.eqI (nI e91) (by first | assumption | rfl | exact congrArg nI (by omega) | (simp (disch := omega) only [rI, rIe, rA, rIA, rLA, rJA, rVI, rQI, rVA, rQA, upd_at,  rAI, rLI, rJI, nI_add, pk_sub, kc_0, kc_1, kc_2, kc_3, kc_4, kc_5, reduceIte, Nat.reduceEqDiff, Nat.add_zero, rI_hold, rI_hold, rL_hold, ht, he91]; done)) ?_
  refine Bod.go dc_401_296 rfl ?_
  refine Bod.get dc_401_297 fr_401_496 (mk_61 _) rfl ?_
  refine Bod.go dc_401_300 rfl ?_
  refine Bod.ialdN (t - 1) rfl (by omega) (by omega) dc_401_301 (mk_91 _) ?_
  refine Bod.eqI (nI e911) (by first | assumption | rfl | exact congrArg nI (by omega) | (simp (disch := omega) only [rI, rIe, rA, rIA, rLA, rJA, rVI, rQI, rVA, rQA, upd_at,  rAI, rLI, rJI, nI_add, pk_sub, kc_0, kc_1, kc_2, kc_3, kc_4, kc_5, reduceIte, Nat.reduceEqDiff, Nat.add_zero, rI_hold, rI_hold, rL_hold, ht, he91, he911]; done)) ?_
  refine Bod.icF dc_401_302 rfl (k2_ne_F (k_eq e91 e911 rfl rfl (by omega))) ?_
  refine Bod.go dc_401_305 rfl ?_
  refine Bod.get dc_401_306 fr_401_496 (mk_61 _) rfl ?_
  refine Bod.go dc_401_309 rfl ?_
  refine Bod.ialdN (t - 2) rfl (by omega) (by omega) dc_401_310 (mk_91 _) ?_
  refine Bod.eqI (nI e91) (by first | assumption | rfl | exact congrArg nI (by omega) | (simp (disch := omega) only [rI, rIe, rA, rIA, rLA, rJA, rVI, rQI, rVA, rQA, upd_at,  rAI, rLI, rJI, nI_add, pk_sub, kc_0, kc_1, kc_2, kc_3, kc_4, kc_5, reduceIte, Nat.reduceEqDiff, Nat.add_zero, rI_hold, rI_hold, rL_hold, ht, he91, he911]; done)) ?_
  refine Bod.ic 1 (by decide) dc_401_311 ?_
  refine Bod.icF dc_401_312 rfl (k2_eq_F (k_ne e91 1 rfl rfl (by omega) (by omega) (by omega))) ?_
  refine Bod.go dc_401_315 rfl ?_
  refine Bod.get dc_401_316 fr_401_496 (mk_61 _) rfl ?_
  refine Bod.go dc_401_319 rfl ?_
  refine Bod.ialdN (t - 2) rfl (by omega) (by omega) dc_401_320 (mk_91 _) ?_
  refine Bod.eqI (nI e91) (by first | assumption | rfl | exact congrArg nI (by omega) | (simp (disch := omega) only [rI, rIe, rA, rIA, rLA, rJA, rVI, rQI, rVA, rQA, upd_at,  rAI, rLI, rJI, nI_add, pk_sub, kc_0, kc_1, kc_2, kc_3, kc_4, kc_5, reduceIte, Nat.reduceEqDiff, Nat.add_zero, rI_hold, rI_hold, rL_hold, ht, he91, he911]; done)) ?_
  refine Bod.ic 2 (by decide) dc_401_321 ?_
  refine Bod.icT dc_401_322 rfl (k2_eq_T (k_eq e91 2 rfl rfl (by omega))) ?_
  refine Bod.go dc_401_331 rfl ?_
  refine Bod.go dc_401_332 rfl ?_
  refine Bod.go dc_401_333 rfl ?_
  refine Bod.virt (r := []) dc_401_334 kr_401_728 ⟨Or.inl rfl, ow_404, cl_14⟩ (by rw [np_404]; rfl) (by rw [np_404]; rfl) (ob_of (mk_61 _)) (Nat.le_of_ble_eq_true rfl) (c1  ) ?_
  show Bod _ _ _ _ [_] _ _ _
  refine Bod.ist dc_401_337 (by rw [ml_401]; exact Nat.le_of_ble_eq_true rfl) ?_
  refine Bod.go dc_401_339 rfl ?_
  refine Bod.bip 60 (by decide) dc_401_340 ?_
  refine Bod.icF dc_401_342 rfl (k2_ne_F (k_eq 60 60 rfl rfl (by omega))) ?_
  refine Bod.go dc_401_345 rfl ?_
  refine Bod.ifT dc_401_347 rfl w13 ?_
  refine Bod.ic 0 (by decide) dc_401_354 ?_
  refine Bod.go dc_401_355 rfl ?_
  refine Bod.ist dc_401_407 (by rw [ml_401]; exact Nat.le_of_ble_eq_true rfl) ?_
  refine Bod.go dc_401_409 rfl ?_
  refine Bod.go dc_401_420 rfl ?_
  refine Bod.go dc_401_421 rfl ?_
  refine Bod.get dc_401_422 fr_401_493 (mk_61 _) rfl ?_
  refine Bod.eqI (nI t1) (by first | assumption | (simp (disch := omega) only [rI, rIe, rA, rIA, rLA, rJA, rVI, rQI, rVA, rQA, upd_at,  rAI, rLI, rJI, nI_add, pk_sub, kc_0, kc_1, kc_2, kc_3, kc_4, kc_5, reduceIte, Nat.reduceEqDiff, Nat.add_zero, rI_hold, rI_hold, rL_hold, ht, he91, he911, ht1]; done) | (simp (disch := omega) only [rI, rIe, rA, rIA, rLA, rJA, rVI, rQI, rVA, rQA, upd_at,  rAI, rLI, rJI, nI_add, pk_sub, kc_0, kc_1, kc_2, kc_3, kc_4, kc_5, reduceIte, Nat.reduceEqDiff, Nat.add_zero, rI_hold, rI_hold, rL_hold, ht, he91, he911, ht1]; exact congrArg nI (by omega))) ?_
  refine Bod.ic 2 (by decide) dc_401_425 ?_
  refine Bod.subN (t1 - 2) (by omega) (by omega) dc_401_426 ?_
  refine Bod.put dc_401_427 fr_401_493 (mk_61 _) (Nat.le_of_ble_eq_true rfl) pf_14_51 (st_6151 _ _) (mu_I _ _ _) ?_
  refine Bod.go dc_401_430 rfl ?_
  refine Bod.go dc_401_431 rfl ?_
  refine Bod.ifT dc_401_433 rfl (k1_eq_T (k_eq 0 0 rfl rfl (by omega))) ?_
  refine Bod.go dc_401_440 rfl ?_
  refine Bod.virt (r := []) dc_401_441 kr_401_613 ⟨Or.inl rfl, ow_353, cl_14⟩ (by rw [np_353]; rfl) (by rw [np_353]; rfl) (ob_of (mk_61 _)) (Nat.le_of_ble_eq_true rfl) (c2  ) ?_
  show Bod _ _ _ _ [] _ _ _
  refine Bod.ic 1 (by decide) dc_401_444 ?_
  exact Bod.retZ dc_401_445 rt_401 (Or.inr rfl)
theorem rBiLT_5 {d : Nat} {S : cS} {t : Nat} {e91 : Nat} {e911 : Nat} {S1 : cS} {rb : Int32} {t1 : Nat} {S2 : cS} (ht : sI S 6151 = nI t) (mt : t < 20481) (b1 : 2 ≤ t) (b2 : 1 ≤ t) (he91 : sA S 91 (t - 2) = nI e91) (me91 : e91 < 2 ^ 20) (he911 : sA S 91 (t - 1) = nI e911) (me911 : e911 < 2 ^ 20) (b3 : e91 = e911) (b4 : e91 ≠ 1) (b5 : e91 = 2) (c1 : Ans (d + 8) 404 [.ref 61, .int (nI (t - 2)), .int (nI (t - 1))] S (some (.int rb)) S1) (w13 : sm_c1 .ge rb true false = false) (ht1 : sI S1 6151 = nI t1) (mt1 : t1 < 20481) (b6 : 2 ≤ t1) (c2 : Ans (d + 8) 353 [.ref 61, .long 1] (wI 6151 (nI (t1 - 2)) S1) none S2) : Bod (d + 8) 401 0 [(0, .ref 61), (1, .int (nI 60))] [] S (some (.int 1)) (S2) := by
  refine Bod.go dc_401_0 rfl ?_
  refine Bod.get dc_401_1 fr_401_493 (mk_61 _) rfl ?_
  refine Bod.eqI (nI t) (by first | assumption | rfl | exact congrArg nI (by omega) | (simp (disch := omega) only [rI, rIe, rA, rIA, rLA, rJA, rVI, rQI, rVA, rQA, upd_at,  rAI, rLI, rJI, nI_add, pk_sub, kc_0, kc_1, kc_2, kc_3, kc_4, kc_5, reduceIte, Nat.reduceEqDiff, Nat.add_zero, rI_hold, rI_hold, rL_hold, ht]; done)) ?_
  refine Bod.ic 2 (by decide) dc_401_4 ?_
  refine Bod.subN (t - 2) (by omega) (by omega) dc_401_5 ?_
  refine Bod.istn dc_401_6 (by rw [ml_401]; exact Nat.le_of_ble_eq_true rfl) ?_
  refine Bod.go dc_401_7 rfl ?_
  refine Bod.get dc_401_8 fr_401_493 (mk_61 _) rfl ?_
  refine Bod.eqI (nI t) (by first | assumption | rfl | exact congrArg nI (by omega) | (simp (disch := omega) only [rI, rIe, rA, rIA, rLA, rJA, rVI, rQI, rVA, rQA, upd_at,  rAI, rLI, rJI, nI_add, pk_sub, kc_0, kc_1, kc_2, kc_3, kc_4, kc_5, reduceIte, Nat.reduceEqDiff, Nat.add_zero, rI_hold, rI_hold, rL_hold, ht]; done)) ?_
  refine Bod.ic 1 (by decide) dc_401_11 ?_
  refine Bod.subN (t - 1) (by omega) (by omega) dc_401_12 ?_
  refine Bod.istn dc_401_13 (by rw [ml_401]; exact Nat.le_of_ble_eq_true rfl) ?_
  refine Bod.go dc_401_14 rfl ?_
  refine Bod.sw (t := 290) dc_401_15 rfl rfl (by decide +kernel) ?_
  refine Bod.go dc_401_290 rfl ?_
  refine Bod.get dc_401_291 fr_401_496 (mk_61 _) rfl ?_
  refine Bod.go dc_401_294 rfl ?_
  refine Bod.ialdN (t - 2) rfl (by omega) (by omega) dc_401_295 (mk_91 _) ?_
  refine Bod.eqI (nI e91) (by first | assumption | rfl | exact congrArg nI (by omega) | (simp (disch := omega) only [rI, rIe, rA, rIA, rLA, rJA, rVI, rQI, rVA, rQA, upd_at,  rAI, rLI, rJI, nI_add, pk_sub, kc_0, kc_1, kc_2, kc_3, kc_4, kc_5, reduceIte, Nat.reduceEqDiff, Nat.add_zero, rI_hold, rI_hold, rL_hold, ht, he91]; done)) ?_
  refine Bod.go dc_401_296 rfl ?_
  refine Bod.get dc_401_297 fr_401_496 (mk_61 _) rfl ?_
  refine Bod.go dc_401_300 rfl ?_
  refine Bod.ialdN (t - 1) rfl (by omega) (by omega) dc_401_301 (mk_91 _) ?_
  refine Bod.eqI (nI e911) (by first | assumption | rfl | exact congrArg nI (by omega) | (simp (disch := omega) only [rI, rIe, rA, rIA, rLA, rJA, rVI, rQI, rVA, rQA, upd_at,  rAI, rLI, rJI, nI_add, pk_sub, kc_0, kc_1, kc_2, kc_3, kc_4, kc_5, reduceIte, Nat.reduceEqDiff, Nat.add_zero, rI_hold, rI_hold, rL_hold, ht, he91, he911]; done)) ?_
  refine Bod.icF dc_401_302 rfl (k2_ne_F (k_eq e91 e911 rfl rfl (by omega))) ?_
  refine Bod.go dc_401_305 rfl ?_
  refine Bod.get dc_401_306 fr_401_496 (mk_61 _) rfl ?_
  refine Bod.go dc_401_309 rfl ?_
  refine Bod.ialdN (t - 2) rfl (by omega) (by omega) dc_401_310 (mk_91 _) ?_
  refine Bod.eqI (nI e91) (by first | assumption | rfl | exact congrArg nI (by omega) | (simp (disch := omega) only [rI, rIe, rA, rIA, rLA, rJA, rVI, rQI, rVA, rQA, upd_at,  rAI, rLI, rJI, nI_add, pk_sub, kc_0, kc_1, kc_2, kc_3, kc_4, kc_5, reduceIte, Nat.reduceEqDiff, Nat.add_zero, rI_hold, rI_hold, rL_hold, ht, he91, he911]; done)) ?_
  refine Bod.ic 1 (by decide) dc_401_311 ?_
  refine Bod.icF dc_401_312 rfl (k2_eq_F (k_ne e91 1 rfl rfl (by omega) (by omega) (by omega))) ?_
  refine Bod.go dc_401_315 rfl ?_
  refine Bod.get dc_401_316 fr_401_496 (mk_61 _) rfl ?_
  refine Bod.go dc_401_319 rfl ?_
  refine Bod.ialdN (t - 2) rfl (by omega) (by omega) dc_401_320 (mk_91 _) ?_
  refine Bod.eqI (nI e91) (by first | assumption | rfl | exact congrArg nI (by omega) | (simp (disch := omega) only [rI, rIe, rA, rIA, rLA, rJA, rVI, rQI, rVA, rQA, upd_at,  rAI, rLI, rJI, nI_add, pk_sub, kc_0, kc_1, kc_2, kc_3, kc_4, kc_5, reduceIte, Nat.reduceEqDiff, Nat.add_zero, rI_hold, rI_hold, rL_hold, ht, he91, he911]; done)) ?_
  refine Bod.ic 2 (by decide) dc_401_321 ?_
  refine Bod.icT dc_401_322 rfl (k2_eq_T (k_eq e91 2 rfl rfl (by omega))) ?_
  refine Bod.go dc_401_331 rfl ?_
  refine Bod.go dc_401_332 rfl ?_
  refine Bod.go dc_401_333 rfl ?_
  refine Bod.virt (r := []) dc_401_334 kr_401_728 ⟨Or.inl rfl, ow_404, cl_14⟩ (by rw [np_404]; rfl) (by rw [np_404]; rfl) (ob_of (mk_61 _)) (Nat.le_of_ble_eq_true rfl) (c1  ) ?_
  show Bod _ _ _ _ [_] _ _ _
  refine Bod.ist dc_401_337 (by rw [ml_401]; exact Nat.le_of_ble_eq_true rfl) ?_
  refine Bod.go dc_401_339 rfl ?_
  refine Bod.bip 60 (by decide) dc_401_340 ?_
  refine Bod.icF dc_401_342 rfl (k2_ne_F (k_eq 60 60 rfl rfl (by omega))) ?_
  refine Bod.go dc_401_345 rfl ?_
  refine Bod.ifF dc_401_347 rfl w13 ?_
  refine Bod.ic 1 (by decide) dc_401_350 ?_
  refine Bod.go dc_401_351 rfl ?_
  refine Bod.ist dc_401_407 (by rw [ml_401]; exact Nat.le_of_ble_eq_true rfl) ?_
  refine Bod.go dc_401_409 rfl ?_
  refine Bod.go dc_401_420 rfl ?_
  refine Bod.go dc_401_421 rfl ?_
  refine Bod.get dc_401_422 fr_401_493 (mk_61 _) rfl ?_
  refine Bod.eqI (nI t1) (by first | assumption | (simp (disch := omega) only [rI, rIe, rA, rIA, rLA, rJA, rVI, rQI, rVA, rQA, upd_at,  rAI, rLI, rJI, nI_add, pk_sub, kc_0, kc_1, kc_2, kc_3, kc_4, kc_5, reduceIte, Nat.reduceEqDiff, Nat.add_zero, rI_hold, rI_hold, rL_hold, ht, he91, he911, ht1]; done) | (simp (disch := omega) only [rI, rIe, rA, rIA, rLA, rJA, rVI, rQI, rVA, rQA, upd_at,  rAI, rLI, rJI, nI_add, pk_sub, kc_0, kc_1, kc_2, kc_3, kc_4, kc_5, reduceIte, Nat.reduceEqDiff, Nat.add_zero, rI_hold, rI_hold, rL_hold, ht, he91, he911, ht1]; exact congrArg nI (by omega))) ?_
  refine Bod.ic 2 (by decide) dc_401_425 ?_
  refine Bod.subN (t1 - 2) (by omega) (by omega) dc_401_426 ?_
  refine Bod.put dc_401_427 fr_401_493 (mk_61 _) (Nat.le_of_ble_eq_true rfl) pf_14_51 (st_6151 _ _) (mu_I _ _ _) ?_
  refine Bod.go dc_401_430 rfl ?_
  refine Bod.go dc_401_431 rfl ?_
  refine Bod.ifF dc_401_433 rfl (k1_eq_F (k_ne 1 0 rfl rfl (by omega) (by omega) (by omega))) ?_
  refine Bod.go dc_401_436 rfl ?_
  refine Bod.go dc_401_437 rfl ?_
  refine Bod.virt (r := []) dc_401_441 kr_401_613 ⟨Or.inl rfl, ow_353, cl_14⟩ (by rw [np_353]; rfl) (by rw [np_353]; rfl) (ob_of (mk_61 _)) (Nat.le_of_ble_eq_true rfl) (c2  ) ?_
  show Bod _ _ _ _ [] _ _ _
  refine Bod.ic 1 (by decide) dc_401_444 ?_
  exact Bod.retZ dc_401_445 rt_401 (Or.inr rfl)
theorem rBiLT_6 {d : Nat} {S : cS} {t : Nat} {e91 : Nat} {e911 : Nat} {S1 : cS} (ht : sI S 6151 = nI t) (mt : t < 20481) (b1 : 2 ≤ t) (b2 : 1 ≤ t) (he91 : sA S 91 (t - 2) = nI e91) (me91 : e91 < 2 ^ 20) (he911 : sA S 91 (t - 1) = nI e911) (me911 : e911 < 2 ^ 20) (b3 : e91 = e911) (b4 : e91 ≠ 1) (b5 : e91 ≠ 2) (c1 : Ans (d + 8) 351 [.ref 61, .int (nI 2)] S (some (.int (nI 0))) S1) : Bod (d + 8) 401 0 [(0, .ref 61), (1, .int (nI 60))] [] S (some (.int 0)) (S1) := by
  refine Bod.go dc_401_0 rfl ?_
  refine Bod.get dc_401_1 fr_401_493 (mk_61 _) rfl ?_
  refine Bod.eqI (nI t) (by first | assumption | rfl | exact congrArg nI (by omega) | (simp (disch := omega) only [rI, rIe, rA, rIA, rLA, rJA, rVI, rQI, rVA, rQA, upd_at,  rAI, rLI, rJI, nI_add, pk_sub, kc_0, kc_1, kc_2, kc_3, kc_4, kc_5, reduceIte, Nat.reduceEqDiff, Nat.add_zero, rI_hold, rI_hold, rL_hold, ht]; done)) ?_
  refine Bod.ic 2 (by decide) dc_401_4 ?_
  refine Bod.subN (t - 2) (by omega) (by omega) dc_401_5 ?_
  refine Bod.istn dc_401_6 (by rw [ml_401]; exact Nat.le_of_ble_eq_true rfl) ?_
  refine Bod.go dc_401_7 rfl ?_
  refine Bod.get dc_401_8 fr_401_493 (mk_61 _) rfl ?_
  refine Bod.eqI (nI t) (by first | assumption | rfl | exact congrArg nI (by omega) | (simp (disch := omega) only [rI, rIe, rA, rIA, rLA, rJA, rVI, rQI, rVA, rQA, upd_at,  rAI, rLI, rJI, nI_add, pk_sub, kc_0, kc_1, kc_2, kc_3, kc_4, kc_5, reduceIte, Nat.reduceEqDiff, Nat.add_zero, rI_hold, rI_hold, rL_hold, ht]; done)) ?_
  refine Bod.ic 1 (by decide) dc_401_11 ?_
  refine Bod.subN (t - 1) (by omega) (by omega) dc_401_12 ?_
  refine Bod.istn dc_401_13 (by rw [ml_401]; exact Nat.le_of_ble_eq_true rfl) ?_
  refine Bod.go dc_401_14 rfl ?_
  refine Bod.sw (t := 290) dc_401_15 rfl rfl (by decide +kernel) ?_
  refine Bod.go dc_401_290 rfl ?_
  refine Bod.get dc_401_291 fr_401_496 (mk_61 _) rfl ?_
  refine Bod.go dc_401_294 rfl ?_
  refine Bod.ialdN (t - 2) rfl (by omega) (by omega) dc_401_295 (mk_91 _) ?_
  refine Bod.eqI (nI e91) (by first | assumption | rfl | exact congrArg nI (by omega) | (simp (disch := omega) only [rI, rIe, rA, rIA, rLA, rJA, rVI, rQI, rVA, rQA, upd_at,  rAI, rLI, rJI, nI_add, pk_sub, kc_0, kc_1, kc_2, kc_3, kc_4, kc_5, reduceIte, Nat.reduceEqDiff, Nat.add_zero, rI_hold, rI_hold, rL_hold, ht, he91]; done)) ?_
  refine Bod.go dc_401_296 rfl ?_
  refine Bod.get dc_401_297 fr_401_496 (mk_61 _) rfl ?_
  refine Bod.go dc_401_300 rfl ?_
  refine Bod.ialdN (t - 1) rfl (by omega) (by omega) dc_401_301 (mk_91 _) ?_
  refine Bod.eqI (nI e911) (by first | assumption | rfl | exact congrArg nI (by omega) | (simp (disch := omega) only [rI, rIe, rA, rIA, rLA, rJA, rVI, rQI, rVA, rQA, upd_at,  rAI, rLI, rJI, nI_add, pk_sub, kc_0, kc_1, kc_2, kc_3, kc_4, kc_5, reduceIte, Nat.reduceEqDiff, Nat.add_zero, rI_hold, rI_hold, rL_hold, ht, he91, he911]; done)) ?_
  refine Bod.icF dc_401_302 rfl (k2_ne_F (k_eq e91 e911 rfl rfl (by omega))) ?_
  refine Bod.go dc_401_305 rfl ?_
  refine Bod.get dc_401_306 fr_401_496 (mk_61 _) rfl ?_
  refine Bod.go dc_401_309 rfl ?_
  refine Bod.ialdN (t - 2) rfl (by omega) (by omega) dc_401_310 (mk_91 _) ?_
  refine Bod.eqI (nI e91) (by first | assumption | rfl | exact congrArg nI (by omega) | (simp (disch := omega) only [rI, rIe, rA, rIA, rLA, rJA, rVI, rQI, rVA, rQA, upd_at,  rAI, rLI, rJI, nI_add, pk_sub, kc_0, kc_1, kc_2, kc_3, kc_4, kc_5, reduceIte, Nat.reduceEqDiff, Nat.add_zero, rI_hold, rI_hold, rL_hold, ht, he91, he911]; done)) ?_
  refine Bod.ic 1 (by decide) dc_401_311 ?_
  refine Bod.icF dc_401_312 rfl (k2_eq_F (k_ne e91 1 rfl rfl (by omega) (by omega) (by omega))) ?_
  refine Bod.go dc_401_315 rfl ?_
  refine Bod.get dc_401_316 fr_401_496 (mk_61 _) rfl ?_
  refine Bod.go dc_401_319 rfl ?_
  refine Bod.ialdN (t - 2) rfl (by omega) (by omega) dc_401_320 (mk_91 _) ?_
  refine Bod.eqI (nI e91) (by first | assumption | rfl | exact congrArg nI (by omega) | (simp (disch := omega) only [rI, rIe, rA, rIA, rLA, rJA, rVI, rQI, rVA, rQA, upd_at,  rAI, rLI, rJI, nI_add, pk_sub, kc_0, kc_1, kc_2, kc_3, kc_4, kc_5, reduceIte, Nat.reduceEqDiff, Nat.add_zero, rI_hold, rI_hold, rL_hold, ht, he91, he911]; done)) ?_
  refine Bod.ic 2 (by decide) dc_401_321 ?_
  refine Bod.icF dc_401_322 rfl (k2_eq_F (k_ne e91 2 rfl rfl (by omega) (by omega) (by omega))) ?_
  refine Bod.go dc_401_325 rfl ?_
  refine Bod.ic 2 (by decide) dc_401_326 ?_
  refine Bod.virt (r := []) dc_401_327 kr_401_608 ⟨Or.inl rfl, ow_351, cl_14⟩ (by rw [np_351]; rfl) (by rw [np_351]; rfl) (ob_of (mk_61 _)) (Nat.le_of_ble_eq_true rfl) (c1  ) ?_
  show Bod _ _ _ _ [_] _ _ _
  exact Bod.retZ dc_401_330 rt_401 (Or.inl rfl)
theorem rBiGT_1 {d : Nat} {S : cS} {t : Nat} {e91 : Nat} {e911 : Nat} {S1 : cS} (ht : sI S 6151 = nI t) (mt : t < 20481) (b1 : 2 ≤ t) (b2 : 1 ≤ t) (he91 : sA S 91 (t - 2) = nI e91) (me91 : e91 < 2 ^ 20) (he911 : sA S 91 (t - 1) = nI e911) (me911 : e911 < 2 ^ 20) (b3 : e91 ≠ e911) (c1 : Ans (d + 8) 351 [.ref 61, .int (nI 2)] S (some (.int (nI 0))) S1) : Bod (d + 8) 401 0 [(0, .ref 61), (1, .int (nI 62))] [] S (some (.int 0)) (S1) := by
  refine Bod.go dc_401_0 rfl ?_
  refine Bod.get dc_401_1 fr_401_493 (mk_61 _) rfl ?_
  refine Bod.eqI (nI t) (by first | assumption | rfl | exact congrArg nI (by omega) | (simp (disch := omega) only [rI, rIe, rA, rIA, rLA, rJA, rVI, rQI, rVA, rQA, upd_at,  rAI, rLI, rJI, nI_add, pk_sub, kc_0, kc_1, kc_2, kc_3, kc_4, kc_5, reduceIte, Nat.reduceEqDiff, Nat.add_zero, rI_hold, rI_hold, rL_hold, ht]; done)) ?_
  refine Bod.ic 2 (by decide) dc_401_4 ?_
  refine Bod.subN (t - 2) (by omega) (by omega) dc_401_5 ?_
  refine Bod.istn dc_401_6 (by rw [ml_401]; exact Nat.le_of_ble_eq_true rfl) ?_
  refine Bod.go dc_401_7 rfl ?_
  refine Bod.get dc_401_8 fr_401_493 (mk_61 _) rfl ?_
  refine Bod.eqI (nI t) (by first | assumption | rfl | exact congrArg nI (by omega) | (simp (disch := omega) only [rI, rIe, rA, rIA, rLA, rJA, rVI, rQI, rVA, rQA, upd_at,  rAI, rLI, rJI, nI_add, pk_sub, kc_0, kc_1, kc_2, kc_3, kc_4, kc_5, reduceIte, Nat.reduceEqDiff, Nat.add_zero, rI_hold, rI_hold, rL_hold, ht]; done)) ?_
  refine Bod.ic 1 (by decide) dc_401_11 ?_
  refine Bod.subN (t - 1) (by omega) (by omega) dc_401_12 ?_
  refine Bod.istn dc_401_13 (by rw [ml_401]; exact Nat.le_of_ble_eq_true rfl) ?_
  refine Bod.go dc_401_14 rfl ?_
  refine Bod.sw (t := 290) dc_401_15 rfl rfl (by decide +kernel) ?_
  refine Bod.go dc_401_290 rfl ?_
  refine Bod.get dc_401_291 fr_401_496 (mk_61 _) rfl ?_
  refine Bod.go dc_401_294 rfl ?_
  refine Bod.ialdN (t - 2) rfl (by omega) (by omega) dc_401_295 (mk_91 _) ?_
  refine Bod.eqI (nI e91) (by first | assumption | rfl | exact congrArg nI (by omega) | (simp (disch := omega) only [rI, rIe, rA, rIA, rLA, rJA, rVI, rQI, rVA, rQA, upd_at,  rAI, rLI, rJI, nI_add, pk_sub, kc_0, kc_1, kc_2, kc_3, kc_4, kc_5, reduceIte, Nat.reduceEqDiff, Nat.add_zero, rI_hold, rI_hold, rL_hold, ht, he91]; done)) ?_
  refine Bod.go dc_401_296 rfl ?_
  refine Bod.get dc_401_297 fr_401_496 (mk_61 _) rfl ?_
  refine Bod.go dc_401_300 rfl ?_
  refine Bod.ialdN (t - 1) rfl (by omega) (by omega) dc_401_301 (mk_91 _) ?_
  refine Bod.eqI (nI e911) (by first | assumption | rfl | exact congrArg nI (by omega) | (simp (disch := omega) only [rI, rIe, rA, rIA, rLA, rJA, rVI, rQI, rVA, rQA, upd_at,  rAI, rLI, rJI, nI_add, pk_sub, kc_0, kc_1, kc_2, kc_3, kc_4, kc_5, reduceIte, Nat.reduceEqDiff, Nat.add_zero, rI_hold, rI_hold, rL_hold, ht, he91, he911]; done)) ?_
  refine Bod.icT dc_401_302 rfl (k2_ne_T (k_ne e91 e911 rfl rfl (by omega) (by omega) (by omega))) ?_
  refine Bod.go dc_401_325 rfl ?_
  refine Bod.ic 2 (by decide) dc_401_326 ?_
  refine Bod.virt (r := []) dc_401_327 kr_401_608 ⟨Or.inl rfl, ow_351, cl_14⟩ (by rw [np_351]; rfl) (by rw [np_351]; rfl) (ob_of (mk_61 _)) (Nat.le_of_ble_eq_true rfl) (c1  ) ?_
  show Bod _ _ _ _ [_] _ _ _
  exact Bod.retZ dc_401_330 rt_401 (Or.inl rfl)
theorem rBiGT_2 {d : Nat} {S : cS} {t : Nat} {e91 : Nat} {e911 : Nat} {S1 : cS} {rb : Int32} {t1 : Nat} {S2 : cS} (ht : sI S 6151 = nI t) (mt : t < 20481) (b1 : 2 ≤ t) (b2 : 1 ≤ t) (he91 : sA S 91 (t - 2) = nI e91) (me91 : e91 < 2 ^ 20) (he911 : sA S 91 (t - 1) = nI e911) (me911 : e911 < 2 ^ 20) (b3 : e91 = e911) (b4 : e91 = 1) (c1 : Ans (d + 8) 404 [.ref 61, .int (nI (t - 2)), .int (nI (t - 1))] S (some (.int rb)) S1) (w12 : sm_c1 .le rb true false = true) (ht1 : sI S1 6151 = nI t1) (mt1 : t1 < 20481) (b5 : 2 ≤ t1) (c2 : Ans (d + 8) 353 [.ref 61, .long 0] (wI 6151 (nI (t1 - 2)) S1) none S2) : Bod (d + 8) 401 0 [(0, .ref 61), (1, .int (nI 62))] [] S (some (.int 1)) (S2) := by
  refine Bod.go dc_401_0 rfl ?_
  refine Bod.get dc_401_1 fr_401_493 (mk_61 _) rfl ?_
  refine Bod.eqI (nI t) (by first | assumption | rfl | exact congrArg nI (by omega) | (simp (disch := omega) only [rI, rIe, rA, rIA, rLA, rJA, rVI, rQI, rVA, rQA, upd_at,  rAI, rLI, rJI, nI_add, pk_sub, kc_0, kc_1, kc_2, kc_3, kc_4, kc_5, reduceIte, Nat.reduceEqDiff, Nat.add_zero, rI_hold, rI_hold, rL_hold, ht]; done)) ?_
  refine Bod.ic 2 (by decide) dc_401_4 ?_
  refine Bod.subN (t - 2) (by omega) (by omega) dc_401_5 ?_
  refine Bod.istn dc_401_6 (by rw [ml_401]; exact Nat.le_of_ble_eq_true rfl) ?_
  refine Bod.go dc_401_7 rfl ?_
  refine Bod.get dc_401_8 fr_401_493 (mk_61 _) rfl ?_
  refine Bod.eqI (nI t) (by first | assumption | rfl | exact congrArg nI (by omega) | (simp (disch := omega) only [rI, rIe, rA, rIA, rLA, rJA, rVI, rQI, rVA, rQA, upd_at,  rAI, rLI, rJI, nI_add, pk_sub, kc_0, kc_1, kc_2, kc_3, kc_4, kc_5, reduceIte, Nat.reduceEqDiff, Nat.add_zero, rI_hold, rI_hold, rL_hold, ht]; done)) ?_
  refine Bod.ic 1 (by decide) dc_401_11 ?_
  refine Bod.subN (t - 1) (by omega) (by omega) dc_401_12 ?_
  refine Bod.istn dc_401_13 (by rw [ml_401]; exact Nat.le_of_ble_eq_true rfl) ?_
  refine Bod.go dc_401_14 rfl ?_
  refine Bod.sw (t := 290) dc_401_15 rfl rfl (by decide +kernel) ?_
  refine Bod.go dc_401_290 rfl ?_
  refine Bod.get dc_401_291 fr_401_496 (mk_61 _) rfl ?_
  refine Bod.go dc_401_294 rfl ?_
  refine Bod.ialdN (t - 2) rfl (by omega) (by omega) dc_401_295 (mk_91 _) ?_
  refine Bod.eqI (nI e91) (by first | assumption | rfl | exact congrArg nI (by omega) | (simp (disch := omega) only [rI, rIe, rA, rIA, rLA, rJA, rVI, rQI, rVA, rQA, upd_at,  rAI, rLI, rJI, nI_add, pk_sub, kc_0, kc_1, kc_2, kc_3, kc_4, kc_5, reduceIte, Nat.reduceEqDiff, Nat.add_zero, rI_hold, rI_hold, rL_hold, ht, he91]; done)) ?_
  refine Bod.go dc_401_296 rfl ?_
  refine Bod.get dc_401_297 fr_401_496 (mk_61 _) rfl ?_
  refine Bod.go dc_401_300 rfl ?_
  refine Bod.ialdN (t - 1) rfl (by omega) (by omega) dc_401_301 (mk_91 _) ?_
  refine Bod.eqI (nI e911) (by first | assumption | rfl | exact congrArg nI (by omega) | (simp (disch := omega) only [rI, rIe, rA, rIA, rLA, rJA, rVI, rQI, rVA, rQA, upd_at,  rAI, rLI, rJI, nI_add, pk_sub, kc_0, kc_1, kc_2, kc_3, kc_4, kc_5, reduceIte, Nat.reduceEqDiff, Nat.add_zero, rI_hold, rI_hold, rL_hold, ht, he91, he911]; done)) ?_
  refine Bod.icF dc_401_302 rfl (k2_ne_F (k_eq e91 e911 rfl rfl (by omega))) ?_
  refine Bod.go dc_401_305 rfl ?_
  refine Bod.get dc_401_306 fr_401_496 (mk_61 _) rfl ?_
  refine Bod.go dc_401_309 rfl ?_
  refine Bod.ialdN (t - 2) rfl (by omega) (by omega) dc_401_310 (mk_91 _) ?_
  refine Bod.eqI (nI e91) (by first | assumption | rfl | exact congrArg nI (by omega) | (simp (disch := omega) only [rI, rIe, rA, rIA, rLA, rJA, rVI, rQI, rVA, rQA, upd_at,  rAI, rLI, rJI, nI_add, pk_sub, kc_0, kc_1, kc_2, kc_3, kc_4, kc_5, reduceIte, Nat.reduceEqDiff, Nat.add_zero, rI_hold, rI_hold, rL_hold, ht, he91, he911]; done)) ?_
  refine Bod.ic 1 (by decide) dc_401_311 ?_
  refine Bod.icT dc_401_312 rfl (k2_eq_T (k_eq e91 1 rfl rfl (by omega))) ?_
  refine Bod.go dc_401_331 rfl ?_
  refine Bod.go dc_401_332 rfl ?_
  refine Bod.go dc_401_333 rfl ?_
  refine Bod.virt (r := []) dc_401_334 kr_401_728 ⟨Or.inl rfl, ow_404, cl_14⟩ (by rw [np_404]; rfl) (by rw [np_404]; rfl) (ob_of (mk_61 _)) (Nat.le_of_ble_eq_true rfl) (c1  ) ?_
  show Bod _ _ _ _ [_] _ _ _
  refine Bod.ist dc_401_337 (by rw [ml_401]; exact Nat.le_of_ble_eq_true rfl) ?_
  refine Bod.go dc_401_339 rfl ?_
  refine Bod.bip 60 (by decide) dc_401_340 ?_
  refine Bod.icT dc_401_342 rfl (k2_ne_T (k_ne 62 60 rfl rfl (by omega) (by omega) (by omega))) ?_
  refine Bod.go dc_401_358 rfl ?_
  refine Bod.bip 62 (by decide) dc_401_359 ?_
  refine Bod.icF dc_401_361 rfl (k2_ne_F (k_eq 62 62 rfl rfl (by omega))) ?_
  refine Bod.go dc_401_364 rfl ?_
  refine Bod.ifT dc_401_366 rfl w12 ?_
  refine Bod.ic 0 (by decide) dc_401_373 ?_
  refine Bod.go dc_401_374 rfl ?_
  refine Bod.ist dc_401_407 (by rw [ml_401]; exact Nat.le_of_ble_eq_true rfl) ?_
  refine Bod.go dc_401_409 rfl ?_
  refine Bod.go dc_401_420 rfl ?_
  refine Bod.go dc_401_421 rfl ?_
  refine Bod.get dc_401_422 fr_401_493 (mk_61 _) rfl ?_
  refine Bod.eqI (nI t1) (by first | assumption | (simp (disch := omega) only [rI, rIe, rA, rIA, rLA, rJA, rVI, rQI, rVA, rQA, upd_at,  rAI, rLI, rJI, nI_add, pk_sub, kc_0, kc_1, kc_2, kc_3, kc_4, kc_5, reduceIte, Nat.reduceEqDiff, Nat.add_zero, rI_hold, rI_hold, rL_hold, ht, he91, he911, ht1]; done) | (simp (disch := omega) only [rI, rIe, rA, rIA, rLA, rJA, rVI, rQI, rVA, rQA, upd_at,  rAI, rLI, rJI, nI_add, pk_sub, kc_0, kc_1, kc_2, kc_3, kc_4, kc_5, reduceIte, Nat.reduceEqDiff, Nat.add_zero, rI_hold, rI_hold, rL_hold, ht, he91, he911, ht1]; exact congrArg nI (by omega))) ?_
  refine Bod.ic 2 (by decide) dc_401_425 ?_
  refine Bod.subN (t1 - 2) (by omega) (by omega) dc_401_426 ?_
  refine Bod.put dc_401_427 fr_401_493 (mk_61 _) (Nat.le_of_ble_eq_true rfl) pf_14_51 (st_6151 _ _) (mu_I _ _ _) ?_
  refine Bod.go dc_401_430 rfl ?_
  refine Bod.go dc_401_431 rfl ?_
  refine Bod.ifT dc_401_433 rfl (k1_eq_T (k_eq 0 0 rfl rfl (by omega))) ?_
  refine Bod.go dc_401_440 rfl ?_
  refine Bod.virt (r := []) dc_401_441 kr_401_613 ⟨Or.inl rfl, ow_353, cl_14⟩ (by rw [np_353]; rfl) (by rw [np_353]; rfl) (ob_of (mk_61 _)) (Nat.le_of_ble_eq_true rfl) (c2  ) ?_
  show Bod _ _ _ _ [] _ _ _
  refine Bod.ic 1 (by decide) dc_401_444 ?_
  exact Bod.retZ dc_401_445 rt_401 (Or.inr rfl)
theorem rBiGT_3 {d : Nat} {S : cS} {t : Nat} {e91 : Nat} {e911 : Nat} {S1 : cS} {rb : Int32} {t1 : Nat} {S2 : cS} (ht : sI S 6151 = nI t) (mt : t < 20481) (b1 : 2 ≤ t) (b2 : 1 ≤ t) (he91 : sA S 91 (t - 2) = nI e91) (me91 : e91 < 2 ^ 20) (he911 : sA S 91 (t - 1) = nI e911) (me911 : e911 < 2 ^ 20) (b3 : e91 = e911) (b4 : e91 = 1) (c1 : Ans (d + 8) 404 [.ref 61, .int (nI (t - 2)), .int (nI (t - 1))] S (some (.int rb)) S1) (w12 : sm_c1 .le rb true false = false) (ht1 : sI S1 6151 = nI t1) (mt1 : t1 < 20481) (b5 : 2 ≤ t1) (c2 : Ans (d + 8) 353 [.ref 61, .long 1] (wI 6151 (nI (t1 - 2)) S1) none S2) : Bod (d + 8) 401 0 [(0, .ref 61), (1, .int (nI 62))] [] S (some (.int 1)) (S2) := by
  refine Bod.go dc_401_0 rfl ?_
  refine Bod.get dc_401_1 fr_401_493 (mk_61 _) rfl ?_
  refine Bod.eqI (nI t) (by first | assumption | rfl | exact congrArg nI (by omega) | (simp (disch := omega) only [rI, rIe, rA, rIA, rLA, rJA, rVI, rQI, rVA, rQA, upd_at,  rAI, rLI, rJI, nI_add, pk_sub, kc_0, kc_1, kc_2, kc_3, kc_4, kc_5, reduceIte, Nat.reduceEqDiff, Nat.add_zero, rI_hold, rI_hold, rL_hold, ht]; done)) ?_
  refine Bod.ic 2 (by decide) dc_401_4 ?_
  refine Bod.subN (t - 2) (by omega) (by omega) dc_401_5 ?_
  refine Bod.istn dc_401_6 (by rw [ml_401]; exact Nat.le_of_ble_eq_true rfl) ?_
  refine Bod.go dc_401_7 rfl ?_
  refine Bod.get dc_401_8 fr_401_493 (mk_61 _) rfl ?_
  refine Bod.eqI (nI t) (by first | assumption | rfl | exact congrArg nI (by omega) | (simp (disch := omega) only [rI, rIe, rA, rIA, rLA, rJA, rVI, rQI, rVA, rQA, upd_at,  rAI, rLI, rJI, nI_add, pk_sub, kc_0, kc_1, kc_2, kc_3, kc_4, kc_5, reduceIte, Nat.reduceEqDiff, Nat.add_zero, rI_hold, rI_hold, rL_hold, ht]; done)) ?_
  refine Bod.ic 1 (by decide) dc_401_11 ?_
  refine Bod.subN (t - 1) (by omega) (by omega) dc_401_12 ?_
  refine Bod.istn dc_401_13 (by rw [ml_401]; exact Nat.le_of_ble_eq_true rfl) ?_
  refine Bod.go dc_401_14 rfl ?_
  refine Bod.sw (t := 290) dc_401_15 rfl rfl (by decide +kernel) ?_
  refine Bod.go dc_401_290 rfl ?_
  refine Bod.get dc_401_291 fr_401_496 (mk_61 _) rfl ?_
  refine Bod.go dc_401_294 rfl ?_
  refine Bod.ialdN (t - 2) rfl (by omega) (by omega) dc_401_295 (mk_91 _) ?_
  refine Bod.eqI (nI e91) (by first | assumption | rfl | exact congrArg nI (by omega) | (simp (disch := omega) only [rI, rIe, rA, rIA, rLA, rJA, rVI, rQI, rVA, rQA, upd_at,  rAI, rLI, rJI, nI_add, pk_sub, kc_0, kc_1, kc_2, kc_3, kc_4, kc_5, reduceIte, Nat.reduceEqDiff, Nat.add_zero, rI_hold, rI_hold, rL_hold, ht, he91]; done)) ?_
  refine Bod.go dc_401_296 rfl ?_
  refine Bod.get dc_401_297 fr_401_496 (mk_61 _) rfl ?_
  refine Bod.go dc_401_300 rfl ?_
  refine Bod.ialdN (t - 1) rfl (by omega) (by omega) dc_401_301 (mk_91 _) ?_
  refine Bod.eqI (nI e911) (by first | assumption | rfl | exact congrArg nI (by omega) | (simp (disch := omega) only [rI, rIe, rA, rIA, rLA, rJA, rVI, rQI, rVA, rQA, upd_at,  rAI, rLI, rJI, nI_add, pk_sub, kc_0, kc_1, kc_2, kc_3, kc_4, kc_5, reduceIte, Nat.reduceEqDiff, Nat.add_zero, rI_hold, rI_hold, rL_hold, ht, he91, he911]; done)) ?_
  refine Bod.icF dc_401_302 rfl (k2_ne_F (k_eq e91 e911 rfl rfl (by omega))) ?_
  refine Bod.go dc_401_305 rfl ?_
  refine Bod.get dc_401_306 fr_401_496 (mk_61 _) rfl ?_
  refine Bod.go dc_401_309 rfl ?_
  refine Bod.ialdN (t - 2) rfl (by omega) (by omega) dc_401_310 (mk_91 _) ?_
  refine Bod.eqI (nI e91) (by first | assumption | rfl | exact congrArg nI (by omega) | (simp (disch := omega) only [rI, rIe, rA, rIA, rLA, rJA, rVI, rQI, rVA, rQA, upd_at,  rAI, rLI, rJI, nI_add, pk_sub, kc_0, kc_1, kc_2, kc_3, kc_4, kc_5, reduceIte, Nat.reduceEqDiff, Nat.add_zero, rI_hold, rI_hold, rL_hold, ht, he91, he911]; done)) ?_
  refine Bod.ic 1 (by decide) dc_401_311 ?_
  refine Bod.icT dc_401_312 rfl (k2_eq_T (k_eq e91 1 rfl rfl (by omega))) ?_
  refine Bod.go dc_401_331 rfl ?_
  refine Bod.go dc_401_332 rfl ?_
  refine Bod.go dc_401_333 rfl ?_
  refine Bod.virt (r := []) dc_401_334 kr_401_728 ⟨Or.inl rfl, ow_404, cl_14⟩ (by rw [np_404]; rfl) (by rw [np_404]; rfl) (ob_of (mk_61 _)) (Nat.le_of_ble_eq_true rfl) (c1  ) ?_
  show Bod _ _ _ _ [_] _ _ _
  refine Bod.ist dc_401_337 (by rw [ml_401]; exact Nat.le_of_ble_eq_true rfl) ?_
  refine Bod.go dc_401_339 rfl ?_
  refine Bod.bip 60 (by decide) dc_401_340 ?_
  refine Bod.icT dc_401_342 rfl (k2_ne_T (k_ne 62 60 rfl rfl (by omega) (by omega) (by omega))) ?_
  refine Bod.go dc_401_358 rfl ?_
  refine Bod.bip 62 (by decide) dc_401_359 ?_
  refine Bod.icF dc_401_361 rfl (k2_ne_F (k_eq 62 62 rfl rfl (by omega))) ?_
  refine Bod.go dc_401_364 rfl ?_
  refine Bod.ifF dc_401_366 rfl w12 ?_
  refine Bod.ic 1 (by decide) dc_401_369 ?_
  refine Bod.go dc_401_370 rfl ?_
  refine Bod.ist dc_401_407 (by rw [ml_401]; exact Nat.le_of_ble_eq_true rfl) ?_
  refine Bod.go dc_401_409 rfl ?_
  refine Bod.go dc_401_420 rfl ?_
  refine Bod.go dc_401_421 rfl ?_
  refine Bod.get dc_401_422 fr_401_493 (mk_61 _) rfl ?_
  refine Bod.eqI (nI t1) (by first | assumption | (simp (disch := omega) only [rI, rIe, rA, rIA, rLA, rJA, rVI, rQI, rVA, rQA, upd_at,  rAI, rLI, rJI, nI_add, pk_sub, kc_0, kc_1, kc_2, kc_3, kc_4, kc_5, reduceIte, Nat.reduceEqDiff, Nat.add_zero, rI_hold, rI_hold, rL_hold, ht, he91, he911, ht1]; done) | (simp (disch := omega) only [rI, rIe, rA, rIA, rLA, rJA, rVI, rQI, rVA, rQA, upd_at,  rAI, rLI, rJI, nI_add, pk_sub, kc_0, kc_1, kc_2, kc_3, kc_4, kc_5, reduceIte, Nat.reduceEqDiff, Nat.add_zero, rI_hold, rI_hold, rL_hold, ht, he91, he911, ht1]; exact congrArg nI (by omega))) ?_
  refine Bod.ic 2 (by decide) dc_401_425 ?_
  refine Bod.subN (t1 - 2) (by omega) (by omega) dc_401_426 ?_
  refine Bod.put dc_401_427 fr_401_493 (mk_61 _) (Nat.le_of_ble_eq_true rfl) pf_14_51 (st_6151 _ _) (mu_I _ _ _) ?_
  refine Bod.go dc_401_430 rfl ?_
  refine Bod.go dc_401_431 rfl ?_
  refine Bod.ifF dc_401_433 rfl (k1_eq_F (k_ne 1 0 rfl rfl (by omega) (by omega) (by omega))) ?_
  refine Bod.go dc_401_436 rfl ?_
  refine Bod.go dc_401_437 rfl ?_
  refine Bod.virt (r := []) dc_401_441 kr_401_613 ⟨Or.inl rfl, ow_353, cl_14⟩ (by rw [np_353]; rfl) (by rw [np_353]; rfl) (ob_of (mk_61 _)) (Nat.le_of_ble_eq_true rfl) (c2  ) ?_
  show Bod _ _ _ _ [] _ _ _
  refine Bod.ic 1 (by decide) dc_401_444 ?_
  exact Bod.retZ dc_401_445 rt_401 (Or.inr rfl)
theorem rBiGT_4 {d : Nat} {S : cS} {t : Nat} {e91 : Nat} {e911 : Nat} {S1 : cS} {rb : Int32} {t1 : Nat} {S2 : cS} (ht : sI S 6151 = nI t) (mt : t < 20481) (b1 : 2 ≤ t) (b2 : 1 ≤ t) (he91 : sA S 91 (t - 2) = nI e91) (me91 : e91 < 2 ^ 20) (he911 : sA S 91 (t - 1) = nI e911) (me911 : e911 < 2 ^ 20) (b3 : e91 = e911) (b4 : e91 ≠ 1) (b5 : e91 = 2) (c1 : Ans (d + 8) 404 [.ref 61, .int (nI (t - 2)), .int (nI (t - 1))] S (some (.int rb)) S1) (w13 : sm_c1 .le rb true false = true) (ht1 : sI S1 6151 = nI t1) (mt1 : t1 < 20481) (b6 : 2 ≤ t1) (c2 : Ans (d + 8) 353 [.ref 61, .long 0] (wI 6151 (nI (t1 - 2)) S1) none S2) : Bod (d + 8) 401 0 [(0, .ref 61), (1, .int (nI 62))] [] S (some (.int 1)) (S2) := by
  refine Bod.go dc_401_0 rfl ?_
  refine Bod.get dc_401_1 fr_401_493 (mk_61 _) rfl ?_
  refine Bod.eqI (nI t) (by first | assumption | rfl | exact congrArg nI (by omega) | (simp (disch := omega) only [rI, rIe, rA, rIA, rLA, rJA, rVI, rQI, rVA, rQA, upd_at,  rAI, rLI, rJI, nI_add, pk_sub, kc_0, kc_1, kc_2, kc_3, kc_4, kc_5, reduceIte, Nat.reduceEqDiff, Nat.add_zero, rI_hold, rI_hold, rL_hold, ht]; done)) ?_
  refine Bod.ic 2 (by decide) dc_401_4 ?_
  refine Bod.subN (t - 2) (by omega) (by omega) dc_401_5 ?_
  refine Bod.istn dc_401_6 (by rw [ml_401]; exact Nat.le_of_ble_eq_true rfl) ?_
  refine Bod.go dc_401_7 rfl ?_
  refine Bod.get dc_401_8 fr_401_493 (mk_61 _) rfl ?_
  refine Bod.eqI (nI t) (by first | assumption | rfl | exact congrArg nI (by omega) | (simp (disch := omega) only [rI, rIe, rA, rIA, rLA, rJA, rVI, rQI, rVA, rQA, upd_at,  rAI, rLI, rJI, nI_add, pk_sub, kc_0, kc_1, kc_2, kc_3, kc_4, kc_5, reduceIte, Nat.reduceEqDiff, Nat.add_zero, rI_hold, rI_hold, rL_hold, ht]; done)) ?_
  refine Bod.ic 1 (by decide) dc_401_11 ?_
  refine Bod.subN (t - 1) (by omega) (by omega) dc_401_12 ?_
  refine Bod.istn dc_401_13 (by rw [ml_401]; exact Nat.le_of_ble_eq_true rfl) ?_
  refine Bod.go dc_401_14 rfl ?_
  refine Bod.sw (t := 290) dc_401_15 rfl rfl (by decide +kernel) ?_
  refine Bod.go dc_401_290 rfl ?_
  refine Bod.get dc_401_291 fr_401_496 (mk_61 _) rfl ?_
  refine Bod.go dc_401_294 rfl ?_
  refine Bod.ialdN (t - 2) rfl (by omega) (by omega) dc_401_295 (mk_91 _) ?_
  refine Bod.eqI (nI e91) (by first | assumption | rfl | exact congrArg nI (by omega) | (simp (disch := omega) only [rI, rIe, rA, rIA, rLA, rJA, rVI, rQI, rVA, rQA, upd_at,  rAI, rLI, rJI, nI_add, pk_sub, kc_0, kc_1, kc_2, kc_3, kc_4, kc_5, reduceIte, Nat.reduceEqDiff, Nat.add_zero, rI_hold, rI_hold, rL_hold, ht, he91]; done)) ?_
  refine Bod.go dc_401_296 rfl ?_
  refine Bod.get dc_401_297 fr_401_496 (mk_61 _) rfl ?_
  refine Bod.go dc_401_300 rfl ?_
  refine Bod.ialdN (t - 1) rfl (by omega) (by omega) dc_401_301 (mk_91 _) ?_
  refine Bod.eqI (nI e911) (by first | assumption | rfl | exact congrArg nI (by omega) | (simp (disch := omega) only [rI, rIe, rA, rIA, rLA, rJA, rVI, rQI, rVA, rQA, upd_at,  rAI, rLI, rJI, nI_add, pk_sub, kc_0, kc_1, kc_2, kc_3, kc_4, kc_5, reduceIte, Nat.reduceEqDiff, Nat.add_zero, rI_hold, rI_hold, rL_hold, ht, he91, he911]; done)) ?_
  refine Bod.icF dc_401_302 rfl (k2_ne_F (k_eq e91 e911 rfl rfl (by omega))) ?_
  refine Bod.go dc_401_305 rfl ?_
  refine Bod.get dc_401_306 fr_401_496 (mk_61 _) rfl ?_
  refine Bod.go dc_401_309 rfl ?_
  refine Bod.ialdN (t - 2) rfl (by omega) (by omega) dc_401_310 (mk_91 _) ?_
  refine Bod.eqI (nI e91) (by first | assumption | rfl | exact congrArg nI (by omega) | (simp (disch := omega) only [rI, rIe, rA, rIA, rLA, rJA, rVI, rQI, rVA, rQA, upd_at,  rAI, rLI, rJI, nI_add, pk_sub, kc_0, kc_1, kc_2, kc_3, kc_4, kc_5, reduceIte, Nat.reduceEqDiff, Nat.add_zero, rI_hold, rI_hold, rL_hold, ht, he91, he911]; done)) ?_
  refine Bod.ic 1 (by decide) dc_401_311 ?_
  refine Bod.icF dc_401_312 rfl (k2_eq_F (k_ne e91 1 rfl rfl (by omega) (by omega) (by omega))) ?_
  refine Bod.go dc_401_315 rfl ?_
  refine Bod.get dc_401_316 fr_401_496 (mk_61 _) rfl ?_
  refine Bod.go dc_401_319 rfl ?_
  refine Bod.ialdN (t - 2) rfl (by omega) (by omega) dc_401_320 (mk_91 _) ?_
  refine Bod.eqI (nI e91) (by first | assumption | rfl | exact congrArg nI (by omega) | (simp (disch := omega) only [rI, rIe, rA, rIA, rLA, rJA, rVI, rQI, rVA, rQA, upd_at,  rAI, rLI, rJI, nI_add, pk_sub, kc_0, kc_1, kc_2, kc_3, kc_4, kc_5, reduceIte, Nat.reduceEqDiff, Nat.add_zero, rI_hold, rI_hold, rL_hold, ht, he91, he911]; done)) ?_
  refine Bod.ic 2 (by decide) dc_401_321 ?_
  refine Bod.icT dc_401_322 rfl (k2_eq_T (k_eq e91 2 rfl rfl (by omega))) ?_
  refine Bod.go dc_401_331 rfl ?_
  refine Bod.go dc_401_332 rfl ?_
  refine Bod.go dc_401_333 rfl ?_
  refine Bod.virt (r := []) dc_401_334 kr_401_728 ⟨Or.inl rfl, ow_404, cl_14⟩ (by rw [np_404]; rfl) (by rw [np_404]; rfl) (ob_of (mk_61 _)) (Nat.le_of_ble_eq_true rfl) (c1  ) ?_
  show Bod _ _ _ _ [_] _ _ _
  refine Bod.ist dc_401_337 (by rw [ml_401]; exact Nat.le_of_ble_eq_true rfl) ?_
  refine Bod.go dc_401_339 rfl ?_
  refine Bod.bip 60 (by decide) dc_401_340 ?_
  refine Bod.icT dc_401_342 rfl (k2_ne_T (k_ne 62 60 rfl rfl (by omega) (by omega) (by omega))) ?_
  refine Bod.go dc_401_358 rfl ?_
  refine Bod.bip 62 (by decide) dc_401_359 ?_
  refine Bod.icF dc_401_361 rfl (k2_ne_F (k_eq 62 62 rfl rfl (by omega))) ?_
  refine Bod.go dc_401_364 rfl ?_
  refine Bod.ifT dc_401_366 rfl w13 ?_
  refine Bod.ic 0 (by decide) dc_401_373 ?_
  refine Bod.go dc_401_374 rfl ?_
  refine Bod.ist dc_401_407 (by rw [ml_401]; exact Nat.le_of_ble_eq_true rfl) ?_
  refine Bod.go dc_401_409 rfl ?_
  refine Bod.go dc_401_420 rfl ?_
  refine Bod.go dc_401_421 rfl ?_
  refine Bod.get dc_401_422 fr_401_493 (mk_61 _) rfl ?_
  refine Bod.eqI (nI t1) (by first | assumption | (simp (disch := omega) only [rI, rIe, rA, rIA, rLA, rJA, rVI, rQI, rVA, rQA, upd_at,  rAI, rLI, rJI, nI_add, pk_sub, kc_0, kc_1, kc_2, kc_3, kc_4, kc_5, reduceIte, Nat.reduceEqDiff, Nat.add_zero, rI_hold, rI_hold, rL_hold, ht, he91, he911, ht1]; done) | (simp (disch := omega) only [rI, rIe, rA, rIA, rLA, rJA, rVI, rQI, rVA, rQA, upd_at,  rAI, rLI, rJI, nI_add, pk_sub, kc_0, kc_1, kc_2, kc_3, kc_4, kc_5, reduceIte, Nat.reduceEqDiff, Nat.add_zero, rI_hold, rI_hold, rL_hold, ht, he91, he911, ht1]; exact congrArg nI (by omega))) ?_
  refine Bod.ic 2 (by decide) dc_401_425 ?_
  refine Bod.subN (t1 - 2) (by omega) (by omega) dc_401_426 ?_
  refine Bod.put dc_401_427 fr_401_493 (mk_61 _) (Nat.le_of_ble_eq_true rfl) pf_14_51 (st_6151 _ _) (mu_I _ _ _) ?_
  refine Bod.go dc_401_430 rfl ?_
  refine Bod.go dc_401_431 rfl ?_
  refine Bod.ifT dc_401_433 rfl (k1_eq_T (k_eq 0 0 rfl rfl (by omega))) ?_
  refine Bod.go dc_401_440 rfl ?_
  refine Bod.virt (r := []) dc_401_441 kr_401_613 ⟨Or.inl rfl, ow_353, cl_14⟩ (by rw [np_353]; rfl) (by rw [np_353]; rfl) (ob_of (mk_61 _)) (Nat.le_of_ble_eq_true rfl) (c2  ) ?_
  show Bod _ _ _ _ [] _ _ _
  refine Bod.ic 1 (by decide) dc_401_444 ?_
  exact Bod.retZ dc_401_445 rt_401 (Or.inr rfl)
theorem rBiGT_5 {d : Nat} {S : cS} {t : Nat} {e91 : Nat} {e911 : Nat} {S1 : cS} {rb : Int32} {t1 : Nat} {S2 : cS} (ht : sI S 6151 = nI t) (mt : t < 20481) (b1 : 2 ≤ t) (b2 : 1 ≤ t) (he91 : sA S 91 (t - 2) = nI e91) (me91 : e91 < 2 ^ 20) (he911 : sA S 91 (t - 1) = nI e911) (me911 : e911 < 2 ^ 20) (b3 : e91 = e911) (b4 : e91 ≠ 1) (b5 : e91 = 2) (c1 : Ans (d + 8) 404 [.ref 61, .int (nI (t - 2)), .int (nI (t - 1))] S (some (.int rb)) S1) (w13 : sm_c1 .le rb true false = false) (ht1 : sI S1 6151 = nI t1) (mt1 : t1 < 20481) (b6 : 2 ≤ t1) (c2 : Ans (d + 8) 353 [.ref 61, .long 1] (wI 6151 (nI (t1 - 2)) S1) none S2) : Bod (d + 8) 401 0 [(0, .ref 61), (1, .int (nI 62))] [] S (some (.int 1)) (S2) := by
  refine Bod.go dc_401_0 rfl ?_
  refine Bod.get dc_401_1 fr_401_493 (mk_61 _) rfl ?_
  refine Bod.eqI (nI t) (by first | assumption | rfl | exact congrArg nI (by omega) | (simp (disch := omega) only [rI, rIe, rA, rIA, rLA, rJA, rVI, rQI, rVA, rQA, upd_at,  rAI, rLI, rJI, nI_add, pk_sub, kc_0, kc_1, kc_2, kc_3, kc_4, kc_5, reduceIte, Nat.reduceEqDiff, Nat.add_zero, rI_hold, rI_hold, rL_hold, ht]; done)) ?_
  refine Bod.ic 2 (by decide) dc_401_4 ?_
  refine Bod.subN (t - 2) (by omega) (by omega) dc_401_5 ?_
  refine Bod.istn dc_401_6 (by rw [ml_401]; exact Nat.le_of_ble_eq_true rfl) ?_
  refine Bod.go dc_401_7 rfl ?_
  refine Bod.get dc_401_8 fr_401_493 (mk_61 _) rfl ?_
  refine Bod.eqI (nI t) (by first | assumption | rfl | exact congrArg nI (by omega) | (simp (disch := omega) only [rI, rIe, rA, rIA, rLA, rJA, rVI, rQI, rVA, rQA, upd_at,  rAI, rLI, rJI, nI_add, pk_sub, kc_0, kc_1, kc_2, kc_3, kc_4, kc_5, reduceIte, Nat.reduceEqDiff, Nat.add_zero, rI_hold, rI_hold, rL_hold, ht]; done)) ?_
  refine Bod.ic 1 (by decide) dc_401_11 ?_
  refine Bod.subN (t - 1) (by omega) (by omega) dc_401_12 ?_
  refine Bod.istn dc_401_13 (by rw [ml_401]; exact Nat.le_of_ble_eq_true rfl) ?_
  refine Bod.go dc_401_14 rfl ?_
  refine Bod.sw (t := 290) dc_401_15 rfl rfl (by decide +kernel) ?_
  refine Bod.go dc_401_290 rfl ?_
  refine Bod.get dc_401_291 fr_401_496 (mk_61 _) rfl ?_
  refine Bod.go dc_401_294 rfl ?_
  refine Bod.ialdN (t - 2) rfl (by omega) (by omega) dc_401_295 (mk_91 _) ?_
  refine Bod.eqI (nI e91) (by first | assumption | rfl | exact congrArg nI (by omega) | (simp (disch := omega) only [rI, rIe, rA, rIA, rLA, rJA, rVI, rQI, rVA, rQA, upd_at,  rAI, rLI, rJI, nI_add, pk_sub, kc_0, kc_1, kc_2, kc_3, kc_4, kc_5, reduceIte, Nat.reduceEqDiff, Nat.add_zero, rI_hold, rI_hold, rL_hold, ht, he91]; done)) ?_
  refine Bod.go dc_401_296 rfl ?_
  refine Bod.get dc_401_297 fr_401_496 (mk_61 _) rfl ?_
  refine Bod.go dc_401_300 rfl ?_
  refine Bod.ialdN (t - 1) rfl (by omega) (by omega) dc_401_301 (mk_91 _) ?_
  refine Bod.eqI (nI e911) (by first | assumption | rfl | exact congrArg nI (by omega) | (simp (disch := omega) only [rI, rIe, rA, rIA, rLA, rJA, rVI, rQI, rVA, rQA, upd_at,  rAI, rLI, rJI, nI_add, pk_sub, kc_0, kc_1, kc_2, kc_3, kc_4, kc_5, reduceIte, Nat.reduceEqDiff, Nat.add_zero, rI_hold, rI_hold, rL_hold, ht, he91, he911]; done)) ?_
  refine Bod.icF dc_401_302 rfl (k2_ne_F (k_eq e91 e911 rfl rfl (by omega))) ?_
  refine Bod.go dc_401_305 rfl ?_
  refine Bod.get dc_401_306 fr_401_496 (mk_61 _) rfl ?_
  refine Bod.go dc_401_309 rfl ?_
  refine Bod.ialdN (t - 2) rfl (by omega) (by omega) dc_401_310 (mk_91 _) ?_
  refine Bod.eqI (nI e91) (by first | assumption | rfl | exact congrArg nI (by omega) | (simp (disch := omega) only [rI, rIe, rA, rIA, rLA, rJA, rVI, rQI, rVA, rQA, upd_at,  rAI, rLI, rJI, nI_add, pk_sub, kc_0, kc_1, kc_2, kc_3, kc_4, kc_5, reduceIte, Nat.reduceEqDiff, Nat.add_zero, rI_hold, rI_hold, rL_hold, ht, he91, he911]; done)) ?_
  refine Bod.ic 1 (by decide) dc_401_311 ?_
  refine Bod.icF dc_401_312 rfl (k2_eq_F (k_ne e91 1 rfl rfl (by omega) (by omega) (by omega))) ?_
  refine Bod.go dc_401_315 rfl ?_
  refine Bod.get dc_401_316 fr_401_496 (mk_61 _) rfl ?_
  refine Bod.go dc_401_319 rfl ?_
  refine Bod.ialdN (t - 2) rfl (by omega) (by omega) dc_401_320 (mk_91 _) ?_
  refine Bod.eqI (nI e91) (by first | assumption | rfl | exact congrArg nI (by omega) | (simp (disch := omega) only [rI, rIe, rA, rIA, rLA, rJA, rVI, rQI, rVA, rQA, upd_at,  rAI, rLI, rJI, nI_add, pk_sub, kc_0, kc_1, kc_2, kc_3, kc_4, kc_5, reduceIte, Nat.reduceEqDiff, Nat.add_zero, rI_hold, rI_hold, rL_hold, ht, he91, he911]; done)) ?_
  refine Bod.ic 2 (by decide) dc_401_321 ?_
  refine Bod.icT dc_401_322 rfl (k2_eq_T (k_eq e91 2 rfl rfl (by omega))) ?_
  refine Bod.go dc_401_331 rfl ?_
  refine Bod.go dc_401_332 rfl ?_
  refine Bod.go dc_401_333 rfl ?_
  refine Bod.virt (r := []) dc_401_334 kr_401_728 ⟨Or.inl rfl, ow_404, cl_14⟩ (by rw [np_404]; rfl) (by rw [np_404]; rfl) (ob_of (mk_61 _)) (Nat.le_of_ble_eq_true rfl) (c1  ) ?_
  show Bod _ _ _ _ [_] _ _ _
  refine Bod.ist dc_401_337 (by rw [ml_401]; exact Nat.le_of_ble_eq_true rfl) ?_
  refine Bod.go dc_401_339 rfl ?_
  refine Bod.bip 60 (by decide) dc_401_340 ?_
  refine Bod.icT dc_401_342 rfl (k2_ne_T (k_ne 62 60 rfl rfl (by omega) (by omega) (by omega))) ?_
  refine Bod.go dc_401_358 rfl ?_
  refine Bod.bip 62 (by decide) dc_401_359 ?_
  refine Bod.icF dc_401_361 rfl (k2_ne_F (k_eq 62 62 rfl rfl (by omega))) ?_
  refine Bod.go dc_401_364 rfl ?_
  refine Bod.ifF dc_401_366 rfl w13 ?_
  refine Bod.ic 1 (by decide) dc_401_369 ?_
  refine Bod.go dc_401_370 rfl ?_
  refine Bod.ist dc_401_407 (by rw [ml_401]; exact Nat.le_of_ble_eq_true rfl) ?_
  refine Bod.go dc_401_409 rfl ?_
  refine Bod.go dc_401_420 rfl ?_
  refine Bod.go dc_401_421 rfl ?_
  refine Bod.get dc_401_422 fr_401_493 (mk_61 _) rfl ?_
  refine Bod.eqI (nI t1) (by first | assumption | (simp (disch := omega) only [rI, rIe, rA, rIA, rLA, rJA, rVI, rQI, rVA, rQA, upd_at,  rAI, rLI, rJI, nI_add, pk_sub, kc_0, kc_1, kc_2, kc_3, kc_4, kc_5, reduceIte, Nat.reduceEqDiff, Nat.add_zero, rI_hold, rI_hold, rL_hold, ht, he91, he911, ht1]; done) | (simp (disch := omega) only [rI, rIe, rA, rIA, rLA, rJA, rVI, rQI, rVA, rQA, upd_at,  rAI, rLI, rJI, nI_add, pk_sub, kc_0, kc_1, kc_2, kc_3, kc_4, kc_5, reduceIte, Nat.reduceEqDiff, Nat.add_zero, rI_hold, rI_hold, rL_hold, ht, he91, he911, ht1]; exact congrArg nI (by omega))) ?_
  refine Bod.ic 2 (by decide) dc_401_425 ?_
  refine Bod.subN (t1 - 2) (by omega) (by omega) dc_401_426 ?_
  refine Bod.put dc_401_427 fr_401_493 (mk_61 _) (Nat.le_of_ble_eq_true rfl) pf_14_51 (st_6151 _ _) (mu_I _ _ _) ?_
  refine Bod.go dc_401_430 rfl ?_
  refine Bod.go dc_401_431 rfl ?_
  refine Bod.ifF dc_401_433 rfl (k1_eq_F (k_ne 1 0 rfl rfl (by omega) (by omega) (by omega))) ?_
  refine Bod.go dc_401_436 rfl ?_
  refine Bod.go dc_401_437 rfl ?_
  refine Bod.virt (r := []) dc_401_441 kr_401_613 ⟨Or.inl rfl, ow_353, cl_14⟩ (by rw [np_353]; rfl) (by rw [np_353]; rfl) (ob_of (mk_61 _)) (Nat.le_of_ble_eq_true rfl) (c2  ) ?_
  show Bod _ _ _ _ [] _ _ _
  refine Bod.ic 1 (by decide) dc_401_444 ?_
  exact Bod.retZ dc_401_445 rt_401 (Or.inr rfl)
theorem rBiGT_6 {d : Nat} {S : cS} {t : Nat} {e91 : Nat} {e911 : Nat} {S1 : cS} (ht : sI S 6151 = nI t) (mt : t < 20481) (b1 : 2 ≤ t) (b2 : 1 ≤ t) (he91 : sA S 91 (t - 2) = nI e91) (me91 : e91 < 2 ^ 20) (he911 : sA S 91 (t - 1) = nI e911) (me911 : e911 < 2 ^ 20) (b3 : e91 = e911) (b4 : e91 ≠ 1) (b5 : e91 ≠ 2) (c1 : Ans (d + 8) 351 [.ref 61, .int (nI 2)] S (some (.int (nI 0))) S1) : Bod (d + 8) 401 0 [(0, .ref 61), (1, .int (nI 62))] [] S (some (.int 0)) (S1) := by
  refine Bod.go dc_401_0 rfl ?_
  refine Bod.get dc_401_1 fr_401_493 (mk_61 _) rfl ?_
  refine Bod.eqI (nI t) (by first | assumption | rfl | exact congrArg nI (by omega) | (simp (disch := omega) only [rI, rIe, rA, rIA, rLA, rJA, rVI, rQI, rVA, rQA, upd_at,  rAI, rLI, rJI, nI_add, pk_sub, kc_0, kc_1, kc_2, kc_3, kc_4, kc_5, reduceIte, Nat.reduceEqDiff, Nat.add_zero, rI_hold, rI_hold, rL_hold, ht]; done)) ?_
  refine Bod.ic 2 (by decide) dc_401_4 ?_
  refine Bod.subN (t - 2) (by omega) (by omega) dc_401_5 ?_
  refine Bod.istn dc_401_6 (by rw [ml_401]; exact Nat.le_of_ble_eq_true rfl) ?_
  refine Bod.go dc_401_7 rfl ?_
  refine Bod.get dc_401_8 fr_401_493 (mk_61 _) rfl ?_
  refine Bod.eqI (nI t) (by first | assumption | rfl | exact congrArg nI (by omega) | (simp (disch := omega) only [rI, rIe, rA, rIA, rLA, rJA, rVI, rQI, rVA, rQA, upd_at,  rAI, rLI, rJI, nI_add, pk_sub, kc_0, kc_1, kc_2, kc_3, kc_4, kc_5, reduceIte, Nat.reduceEqDiff, Nat.add_zero, rI_hold, rI_hold, rL_hold, ht]; done)) ?_
  refine Bod.ic 1 (by decide) dc_401_11 ?_
  refine Bod.subN (t - 1) (by omega) (by omega) dc_401_12 ?_
  refine Bod.istn dc_401_13 (by rw [ml_401]; exact Nat.le_of_ble_eq_true rfl) ?_
  refine Bod.go dc_401_14 rfl ?_
  refine Bod.sw (t := 290) dc_401_15 rfl rfl (by decide +kernel) ?_
  refine Bod.go dc_401_290 rfl ?_
  refine Bod.get dc_401_291 fr_401_496 (mk_61 _) rfl ?_
  refine Bod.go dc_401_294 rfl ?_
  refine Bod.ialdN (t - 2) rfl (by omega) (by omega) dc_401_295 (mk_91 _) ?_
  refine Bod.eqI (nI e91) (by first | assumption | rfl | exact congrArg nI (by omega) | (simp (disch := omega) only [rI, rIe, rA, rIA, rLA, rJA, rVI, rQI, rVA, rQA, upd_at,  rAI, rLI, rJI, nI_add, pk_sub, kc_0, kc_1, kc_2, kc_3, kc_4, kc_5, reduceIte, Nat.reduceEqDiff, Nat.add_zero, rI_hold, rI_hold, rL_hold, ht, he91]; done)) ?_
  refine Bod.go dc_401_296 rfl ?_
  refine Bod.get dc_401_297 fr_401_496 (mk_61 _) rfl ?_
  refine Bod.go dc_401_300 rfl ?_
  refine Bod.ialdN (t - 1) rfl (by omega) (by omega) dc_401_301 (mk_91 _) ?_
  refine Bod.eqI (nI e911) (by first | assumption | rfl | exact congrArg nI (by omega) | (simp (disch := omega) only [rI, rIe, rA, rIA, rLA, rJA, rVI, rQI, rVA, rQA, upd_at,  rAI, rLI, rJI, nI_add, pk_sub, kc_0, kc_1, kc_2, kc_3, kc_4, kc_5, reduceIte, Nat.reduceEqDiff, Nat.add_zero, rI_hold, rI_hold, rL_hold, ht, he91, he911]; done)) ?_
  refine Bod.icF dc_401_302 rfl (k2_ne_F (k_eq e91 e911 rfl rfl (by omega))) ?_
  refine Bod.go dc_401_305 rfl ?_
  refine Bod.get dc_401_306 fr_401_496 (mk_61 _) rfl ?_
  refine Bod.go dc_401_309 rfl ?_
  refine Bod.ialdN (t - 2) rfl (by omega) (by omega) dc_401_310 (mk_91 _) ?_
  refine Bod.eqI (nI e91) (by first | assumption | rfl | exact congrArg nI (by omega) | (simp (disch := omega) only [rI, rIe, rA, rIA, rLA, rJA, rVI, rQI, rVA, rQA, upd_at,  rAI, rLI, rJI, nI_add, pk_sub, kc_0, kc_1, kc_2, kc_3, kc_4, kc_5, reduceIte, Nat.reduceEqDiff, Nat.add_zero, rI_hold, rI_hold, rL_hold, ht, he91, he911]; done)) ?_
  refine Bod.ic 1 (by decide) dc_401_311 ?_
  refine Bod.icF dc_401_312 rfl (k2_eq_F (k_ne e91 1 rfl rfl (by omega) (by omega) (by omega))) ?_
  refine Bod.go dc_401_315 rfl ?_
  refine Bod.get dc_401_316 fr_401_496 (mk_61 _) rfl ?_
  refine Bod.go dc_401_319 rfl ?_
  refine Bod.ialdN (t - 2) rfl (by omega) (by omega) dc_401_320 (mk_91 _) ?_
  refine Bod.eqI (nI e91) (by first | assumption | rfl | exact congrArg nI (by omega) | (simp (disch := omega) only [rI, rIe, rA, rIA, rLA, rJA, rVI, rQI, rVA, rQA, upd_at,  rAI, rLI, rJI, nI_add, pk_sub, kc_0, kc_1, kc_2, kc_3, kc_4, kc_5, reduceIte, Nat.reduceEqDiff, Nat.add_zero, rI_hold, rI_hold, rL_hold, ht, he91, he911]; done)) ?_
  refine Bod.ic 2 (by decide) dc_401_321 ?_
  refine Bod.icF dc_401_322 rfl (k2_eq_F (k_ne e91 2 rfl rfl (by omega) (by omega) (by omega))) ?_
  refine Bod.go dc_401_325 rfl ?_
  refine Bod.ic 2 (by decide) dc_401_326 ?_
  refine Bod.virt (r := []) dc_401_327 kr_401_608 ⟨Or.inl rfl, ow_351, cl_14⟩ (by rw [np_351]; rfl) (by rw [np_351]; rfl) (ob_of (mk_61 _)) (Nat.le_of_ble_eq_true rfl) (c1  ) ?_
  show Bod _ _ _ _ [_] _ _ _
  exact Bod.retZ dc_401_330 rt_401 (Or.inl rfl)
theorem rBiLE_1 {d : Nat} {S : cS} {t : Nat} {e91 : Nat} {e911 : Nat} {S1 : cS} (ht : sI S 6151 = nI t) (mt : t < 20481) (b1 : 2 ≤ t) (b2 : 1 ≤ t) (he91 : sA S 91 (t - 2) = nI e91) (me91 : e91 < 2 ^ 20) (he911 : sA S 91 (t - 1) = nI e911) (me911 : e911 < 2 ^ 20) (b3 : e91 ≠ e911) (c1 : Ans (d + 8) 351 [.ref 61, .int (nI 2)] S (some (.int (nI 0))) S1) : Bod (d + 8) 401 0 [(0, .ref 61), (1, .int (nI 15421))] [] S (some (.int 0)) (S1) := by
  refine Bod.go dc_401_0 rfl ?_
  refine Bod.get dc_401_1 fr_401_493 (mk_61 _) rfl ?_
  refine Bod.eqI (nI t) (by first | assumption | rfl | exact congrArg nI (by omega) | (simp (disch := omega) only [rI, rIe, rA, rIA, rLA, rJA, rVI, rQI, rVA, rQA, upd_at,  rAI, rLI, rJI, nI_add, pk_sub, kc_0, kc_1, kc_2, kc_3, kc_4, kc_5, reduceIte, Nat.reduceEqDiff, Nat.add_zero, rI_hold, rI_hold, rL_hold, ht]; done)) ?_
  refine Bod.ic 2 (by decide) dc_401_4 ?_
  refine Bod.subN (t - 2) (by omega) (by omega) dc_401_5 ?_
  refine Bod.istn dc_401_6 (by rw [ml_401]; exact Nat.le_of_ble_eq_true rfl) ?_
  refine Bod.go dc_401_7 rfl ?_
  refine Bod.get dc_401_8 fr_401_493 (mk_61 _) rfl ?_
  refine Bod.eqI (nI t) (by first | assumption | rfl | exact congrArg nI (by omega) | (simp (disch := omega) only [rI, rIe, rA, rIA, rLA, rJA, rVI, rQI, rVA, rQA, upd_at,  rAI, rLI, rJI, nI_add, pk_sub, kc_0, kc_1, kc_2, kc_3, kc_4, kc_5, reduceIte, Nat.reduceEqDiff, Nat.add_zero, rI_hold, rI_hold, rL_hold, ht]; done)) ?_
  refine Bod.ic 1 (by decide) dc_401_11 ?_
  refine Bod.subN (t - 1) (by omega) (by omega) dc_401_12 ?_
  refine Bod.istn dc_401_13 (by rw [ml_401]; exact Nat.le_of_ble_eq_true rfl) ?_
  refine Bod.go dc_401_14 rfl ?_
  refine Bod.sw (t := 290) dc_401_15 rfl rfl (by decide +kernel) ?_
  refine Bod.go dc_401_290 rfl ?_
  refine Bod.get dc_401_291 fr_401_496 (mk_61 _) rfl ?_
  refine Bod.go dc_401_294 rfl ?_
  refine Bod.ialdN (t - 2) rfl (by omega) (by omega) dc_401_295 (mk_91 _) ?_
  refine Bod.eqI (nI e91) (by first | assumption | rfl | exact congrArg nI (by omega) | (simp (disch := omega) only [rI, rIe, rA, rIA, rLA, rJA, rVI, rQI, rVA, rQA, upd_at,  rAI, rLI, rJI, nI_add, pk_sub, kc_0, kc_1, kc_2, kc_3, kc_4, kc_5, reduceIte, Nat.reduceEqDiff, Nat.add_zero, rI_hold, rI_hold, rL_hold, ht, he91]; done)) ?_
  refine Bod.go dc_401_296 rfl ?_
  refine Bod.get dc_401_297 fr_401_496 (mk_61 _) rfl ?_
  refine Bod.go dc_401_300 rfl ?_
  refine Bod.ialdN (t - 1) rfl (by omega) (by omega) dc_401_301 (mk_91 _) ?_
  refine Bod.eqI (nI e911) (by first | assumption | rfl | exact congrArg nI (by omega) | (simp (disch := omega) only [rI, rIe, rA, rIA, rLA, rJA, rVI, rQI, rVA, rQA, upd_at,  rAI, rLI, rJI, nI_add, pk_sub, kc_0, kc_1, kc_2, kc_3, kc_4, kc_5, reduceIte, Nat.reduceEqDiff, Nat.add_zero, rI_hold, rI_hold, rL_hold, ht, he91, he911]; done)) ?_
  refine Bod.icT dc_401_302 rfl (k2_ne_T (k_ne e91 e911 rfl rfl (by omega) (by omega) (by omega))) ?_
  refine Bod.go dc_401_325 rfl ?_
  refine Bod.ic 2 (by decide) dc_401_326 ?_
  refine Bod.virt (r := []) dc_401_327 kr_401_608 ⟨Or.inl rfl, ow_351, cl_14⟩ (by rw [np_351]; rfl) (by rw [np_351]; rfl) (ob_of (mk_61 _)) (Nat.le_of_ble_eq_true rfl) (c1  ) ?_
  show Bod _ _ _ _ [_] _ _ _
  exact Bod.retZ dc_401_330 rt_401 (Or.inl rfl)
theorem rBiLE_2 {d : Nat} {S : cS} {t : Nat} {e91 : Nat} {e911 : Nat} {S1 : cS} {rb : Int32} {t1 : Nat} {S2 : cS} (ht : sI S 6151 = nI t) (mt : t < 20481) (b1 : 2 ≤ t) (b2 : 1 ≤ t) (he91 : sA S 91 (t - 2) = nI e91) (me91 : e91 < 2 ^ 20) (he911 : sA S 91 (t - 1) = nI e911) (me911 : e911 < 2 ^ 20) (b3 : e91 = e911) (b4 : e91 = 1) (c1 : Ans (d + 8) 404 [.ref 61, .int (nI (t - 2)), .int (nI (t - 1))] S (some (.int rb)) S1) (w12 : sm_c1 .gt rb true false = true) (ht1 : sI S1 6151 = nI t1) (mt1 : t1 < 20481) (b5 : 2 ≤ t1) (c2 : Ans (d + 8) 353 [.ref 61, .long 0] (wI 6151 (nI (t1 - 2)) S1) none S2) : Bod (d + 8) 401 0 [(0, .ref 61), (1, .int (nI 15421))] [] S (some (.int 1)) (S2) := by
  refine Bod.go dc_401_0 rfl ?_
  refine Bod.get dc_401_1 fr_401_493 (mk_61 _) rfl ?_
  refine Bod.eqI (nI t) (by first | assumption | rfl | exact congrArg nI (by omega) | (simp (disch := omega) only [rI, rIe, rA, rIA, rLA, rJA, rVI, rQI, rVA, rQA, upd_at,  rAI, rLI, rJI, nI_add, pk_sub, kc_0, kc_1, kc_2, kc_3, kc_4, kc_5, reduceIte, Nat.reduceEqDiff, Nat.add_zero, rI_hold, rI_hold, rL_hold, ht]; done)) ?_
  refine Bod.ic 2 (by decide) dc_401_4 ?_
  refine Bod.subN (t - 2) (by omega) (by omega) dc_401_5 ?_
  refine Bod.istn dc_401_6 (by rw [ml_401]; exact Nat.le_of_ble_eq_true rfl) ?_
  refine Bod.go dc_401_7 rfl ?_
  refine Bod.get dc_401_8 fr_401_493 (mk_61 _) rfl ?_
  refine Bod.eqI (nI t) (by first | assumption | rfl | exact congrArg nI (by omega) | (simp (disch := omega) only [rI, rIe, rA, rIA, rLA, rJA, rVI, rQI, rVA, rQA, upd_at,  rAI, rLI, rJI, nI_add, pk_sub, kc_0, kc_1, kc_2, kc_3, kc_4, kc_5, reduceIte, Nat.reduceEqDiff, Nat.add_zero, rI_hold, rI_hold, rL_hold, ht]; done)) ?_
  refine Bod.ic 1 (by decide) dc_401_11 ?_
  refine Bod.subN (t - 1) (by omega) (by omega) dc_401_12 ?_
  refine Bod.istn dc_401_13 (by rw [ml_401]; exact Nat.le_of_ble_eq_true rfl) ?_
  refine Bod.go dc_401_14 rfl ?_
  refine Bod.sw (t := 290) dc_401_15 rfl rfl (by decide +kernel) ?_
  refine Bod.go dc_401_290 rfl ?_
  refine Bod.get dc_401_291 fr_401_496 (mk_61 _) rfl ?_
  refine Bod.go dc_401_294 rfl ?_
  refine Bod.ialdN (t - 2) rfl (by omega) (by omega) dc_401_295 (mk_91 _) ?_
  refine Bod.eqI (nI e91) (by first | assumption | rfl | exact congrArg nI (by omega) | (simp (disch := omega) only [rI, rIe, rA, rIA, rLA, rJA, rVI, rQI, rVA, rQA, upd_at,  rAI, rLI, rJI, nI_add, pk_sub, kc_0, kc_1, kc_2, kc_3, kc_4, kc_5, reduceIte, Nat.reduceEqDiff, Nat.add_zero, rI_hold, rI_hold, rL_hold, ht, he91]; done)) ?_
  refine Bod.go dc_401_296 rfl ?_
  refine Bod.get dc_401_297 fr_401_496 (mk_61 _) rfl ?_
  refine Bod.go dc_401_300 rfl ?_
  refine Bod.ialdN (t - 1) rfl (by omega) (by omega) dc_401_301 (mk_91 _) ?_
  refine Bod.eqI (nI e911) (by first | assumption | rfl | exact congrArg nI (by omega) | (simp (disch := omega) only [rI, rIe, rA, rIA, rLA, rJA, rVI, rQI, rVA, rQA, upd_at,  rAI, rLI, rJI, nI_add, pk_sub, kc_0, kc_1, kc_2, kc_3, kc_4, kc_5, reduceIte, Nat.reduceEqDiff, Nat.add_zero, rI_hold, rI_hold, rL_hold, ht, he91, he911]; done)) ?_
  refine Bod.icF dc_401_302 rfl (k2_ne_F (k_eq e91 e911 rfl rfl (by omega))) ?_
  refine Bod.go dc_401_305 rfl ?_
  refine Bod.get dc_401_306 fr_401_496 (mk_61 _) rfl ?_
  refine Bod.go dc_401_309 rfl ?_
  refine Bod.ialdN (t - 2) rfl (by omega) (by omega) dc_401_310 (mk_91 _) ?_
  refine Bod.eqI (nI e91) (by first | assumption | rfl | exact congrArg nI (by omega) | (simp (disch := omega) only [rI, rIe, rA, rIA, rLA, rJA, rVI, rQI, rVA, rQA, upd_at,  rAI, rLI, rJI, nI_add, pk_sub, kc_0, kc_1, kc_2, kc_3, kc_4, kc_5, reduceIte, Nat.reduceEqDiff, Nat.add_zero, rI_hold, rI_hold, rL_hold, ht, he91, he911]; done)) ?_
  refine Bod.ic 1 (by decide) dc_401_311 ?_
  refine Bod.icT dc_401_312 rfl (k2_eq_T (k_eq e91 1 rfl rfl (by omega))) ?_
  refine Bod.go dc_401_331 rfl ?_
  refine Bod.go dc_401_332 rfl ?_
  refine Bod.go dc_401_333 rfl ?_
  refine Bod.virt (r := []) dc_401_334 kr_401_728 ⟨Or.inl rfl, ow_404, cl_14⟩ (by rw [np_404]; rfl) (by rw [np_404]; rfl) (ob_of (mk_61 _)) (Nat.le_of_ble_eq_true rfl) (c1  ) ?_
  show Bod _ _ _ _ [_] _ _ _
  refine Bod.ist dc_401_337 (by rw [ml_401]; exact Nat.le_of_ble_eq_true rfl) ?_
  refine Bod.go dc_401_339 rfl ?_
  refine Bod.bip 60 (by decide) dc_401_340 ?_
  refine Bod.icT dc_401_342 rfl (k2_ne_T (k_ne 15421 60 rfl rfl (by omega) (by omega) (by omega))) ?_
  refine Bod.go dc_401_358 rfl ?_
  refine Bod.bip 62 (by decide) dc_401_359 ?_
  refine Bod.icT dc_401_361 rfl (k2_ne_T (k_ne 15421 62 rfl rfl (by omega) (by omega) (by omega))) ?_
  refine Bod.go dc_401_377 rfl ?_
  refine Bod.sip 15421 (by decide) dc_401_378 ?_
  refine Bod.icF dc_401_381 rfl (k2_ne_F (k_eq 15421 15421 rfl rfl (by omega))) ?_
  refine Bod.go dc_401_384 rfl ?_
  refine Bod.ifT dc_401_386 rfl w12 ?_
  refine Bod.ic 0 (by decide) dc_401_393 ?_
  refine Bod.go dc_401_394 rfl ?_
  refine Bod.ist dc_401_407 (by rw [ml_401]; exact Nat.le_of_ble_eq_true rfl) ?_
  refine Bod.go dc_401_409 rfl ?_
  refine Bod.go dc_401_420 rfl ?_
  refine Bod.go dc_401_421 rfl ?_
  refine Bod.get dc_401_422 fr_401_493 (mk_61 _) rfl ?_
  refine Bod.eqI (nI t1) (by first | assumption | (simp (disch := omega) only [rI, rIe, rA, rIA, rLA, rJA, rVI, rQI, rVA, rQA, upd_at,  rAI, rLI, rJI, nI_add, pk_sub, kc_0, kc_1, kc_2, kc_3, kc_4, kc_5, reduceIte, Nat.reduceEqDiff, Nat.add_zero, rI_hold, rI_hold, rL_hold, ht, he91, he911, ht1]; done) | (simp (disch := omega) only [rI, rIe, rA, rIA, rLA, rJA, rVI, rQI, rVA, rQA, upd_at,  rAI, rLI, rJI, nI_add, pk_sub, kc_0, kc_1, kc_2, kc_3, kc_4, kc_5, reduceIte, Nat.reduceEqDiff, Nat.add_zero, rI_hold, rI_hold, rL_hold, ht, he91, he911, ht1]; exact congrArg nI (by omega))) ?_
  refine Bod.ic 2 (by decide) dc_401_425 ?_
  refine Bod.subN (t1 - 2) (by omega) (by omega) dc_401_426 ?_
  refine Bod.put dc_401_427 fr_401_493 (mk_61 _) (Nat.le_of_ble_eq_true rfl) pf_14_51 (st_6151 _ _) (mu_I _ _ _) ?_
  refine Bod.go dc_401_430 rfl ?_
  refine Bod.go dc_401_431 rfl ?_
  refine Bod.ifT dc_401_433 rfl (k1_eq_T (k_eq 0 0 rfl rfl (by omega))) ?_
  refine Bod.go dc_401_440 rfl ?_
  refine Bod.virt (r := []) dc_401_441 kr_401_613 ⟨Or.inl rfl, ow_353, cl_14⟩ (by rw [np_353]; rfl) (by rw [np_353]; rfl) (ob_of (mk_61 _)) (Nat.le_of_ble_eq_true rfl) (c2  ) ?_
  show Bod _ _ _ _ [] _ _ _
  refine Bod.ic 1 (by decide) dc_401_444 ?_
  exact Bod.retZ dc_401_445 rt_401 (Or.inr rfl)
theorem rBiLE_3 {d : Nat} {S : cS} {t : Nat} {e91 : Nat} {e911 : Nat} {S1 : cS} {rb : Int32} {t1 : Nat} {S2 : cS} (ht : sI S 6151 = nI t) (mt : t < 20481) (b1 : 2 ≤ t) (b2 : 1 ≤ t) (he91 : sA S 91 (t - 2) = nI e91) (me91 : e91 < 2 ^ 20) (he911 : sA S 91 (t - 1) = nI e911) (me911 : e911 < 2 ^ 20) (b3 : e91 = e911) (b4 : e91 = 1) (c1 : Ans (d + 8) 404 [.ref 61, .int (nI (t - 2)), .int (nI (t - 1))] S (some (.int rb)) S1) (w12 : sm_c1 .gt rb true false = false) (ht1 : sI S1 6151 = nI t1) (mt1 : t1 < 20481) (b5 : 2 ≤ t1) (c2 : Ans (d + 8) 353 [.ref 61, .long 1] (wI 6151 (nI (t1 - 2)) S1) none S2) : Bod (d + 8) 401 0 [(0, .ref 61), (1, .int (nI 15421))] [] S (some (.int 1)) (S2) := by
  refine Bod.go dc_401_0 rfl ?_
  refine Bod.get dc_401_1 fr_401_493 (mk_61 _) rfl ?_
  refine Bod.eqI (nI t) (by first | assumption | rfl | exact congrArg nI (by omega) | (simp (disch := omega) only [rI, rIe, rA, rIA, rLA, rJA, rVI, rQI, rVA, rQA, upd_at,  rAI, rLI, rJI, nI_add, pk_sub, kc_0, kc_1, kc_2, kc_3, kc_4, kc_5, reduceIte, Nat.reduceEqDiff, Nat.add_zero, rI_hold, rI_hold, rL_hold, ht]; done)) ?_
  refine Bod.ic 2 (by decide) dc_401_4 ?_
  refine Bod.subN (t - 2) (by omega) (by omega) dc_401_5 ?_
  refine Bod.istn dc_401_6 (by rw [ml_401]; exact Nat.le_of_ble_eq_true rfl) ?_
  refine Bod.go dc_401_7 rfl ?_
  refine Bod.get dc_401_8 fr_401_493 (mk_61 _) rfl ?_
  refine Bod.eqI (nI t) (by first | assumption | rfl | exact congrArg nI (by omega) | (simp (disch := omega) only [rI, rIe, rA, rIA, rLA, rJA, rVI, rQI, rVA, rQA, upd_at,  rAI, rLI, rJI, nI_add, pk_sub, kc_0, kc_1, kc_2, kc_3, kc_4, kc_5, reduceIte, Nat.reduceEqDiff, Nat.add_zero, rI_hold, rI_hold, rL_hold, ht]; done)) ?_
  refine Bod.ic 1 (by decide) dc_401_11 ?_
  refine Bod.subN (t - 1) (by omega) (by omega) dc_401_12 ?_
  refine Bod.istn dc_401_13 (by rw [ml_401]; exact Nat.le_of_ble_eq_true rfl) ?_
  refine Bod.go dc_401_14 rfl ?_
  refine Bod.sw (t := 290) dc_401_15 rfl rfl (by decide +kernel) ?_
  refine Bod.go dc_401_290 rfl ?_
  refine Bod.get dc_401_291 fr_401_496 (mk_61 _) rfl ?_
  refine Bod.go dc_401_294 rfl ?_
  refine Bod.ialdN (t - 2) rfl (by omega) (by omega) dc_401_295 (mk_91 _) ?_
  refine Bod.eqI (nI e91) (by first | assumption | rfl | exact congrArg nI (by omega) | (simp (disch := omega) only [rI, rIe, rA, rIA, rLA, rJA, rVI, rQI, rVA, rQA, upd_at,  rAI, rLI, rJI, nI_add, pk_sub, kc_0, kc_1, kc_2, kc_3, kc_4, kc_5, reduceIte, Nat.reduceEqDiff, Nat.add_zero, rI_hold, rI_hold, rL_hold, ht, he91]; done)) ?_
  refine Bod.go dc_401_296 rfl ?_
  refine Bod.get dc_401_297 fr_401_496 (mk_61 _) rfl ?_
  refine Bod.go dc_401_300 rfl ?_
  refine Bod.ialdN (t - 1) rfl (by omega) (by omega) dc_401_301 (mk_91 _) ?_
  refine Bod.eqI (nI e911) (by first | assumption | rfl | exact congrArg nI (by omega) | (simp (disch := omega) only [rI, rIe, rA, rIA, rLA, rJA, rVI, rQI, rVA, rQA, upd_at,  rAI, rLI, rJI, nI_add, pk_sub, kc_0, kc_1, kc_2, kc_3, kc_4, kc_5, reduceIte, Nat.reduceEqDiff, Nat.add_zero, rI_hold, rI_hold, rL_hold, ht, he91, he911]; done)) ?_
  refine Bod.icF dc_401_302 rfl (k2_ne_F (k_eq e91 e911 rfl rfl (by omega))) ?_
  refine Bod.go dc_401_305 rfl ?_
  refine Bod.get dc_401_306 fr_401_496 (mk_61 _) rfl ?_
  refine Bod.go dc_401_309 rfl ?_
  refine Bod.ialdN (t - 2) rfl (by omega) (by omega) dc_401_310 (mk_91 _) ?_
  refine Bod.eqI (nI e91) (by first | assumption | rfl | exact congrArg nI (by omega) | (simp (disch := omega) only [rI, rIe, rA, rIA, rLA, rJA, rVI, rQI, rVA, rQA, upd_at,  rAI, rLI, rJI, nI_add, pk_sub, kc_0, kc_1, kc_2, kc_3, kc_4, kc_5, reduceIte, Nat.reduceEqDiff, Nat.add_zero, rI_hold, rI_hold, rL_hold, ht, he91, he911]; done)) ?_
  refine Bod.ic 1 (by decide) dc_401_311 ?_
  refine Bod.icT dc_401_312 rfl (k2_eq_T (k_eq e91 1 rfl rfl (by omega))) ?_
  refine Bod.go dc_401_331 rfl ?_
  refine Bod.go dc_401_332 rfl ?_
  refine Bod.go dc_401_333 rfl ?_
  refine Bod.virt (r := []) dc_401_334 kr_401_728 ⟨Or.inl rfl, ow_404, cl_14⟩ (by rw [np_404]; rfl) (by rw [np_404]; rfl) (ob_of (mk_61 _)) (Nat.le_of_ble_eq_true rfl) (c1  ) ?_
  show Bod _ _ _ _ [_] _ _ _
  refine Bod.ist dc_401_337 (by rw [ml_401]; exact Nat.le_of_ble_eq_true rfl) ?_
  refine Bod.go dc_401_339 rfl ?_
  refine Bod.bip 60 (by decide) dc_401_340 ?_
  refine Bod.icT dc_401_342 rfl (k2_ne_T (k_ne 15421 60 rfl rfl (by omega) (by omega) (by omega))) ?_
  refine Bod.go dc_401_358 rfl ?_
  refine Bod.bip 62 (by decide) dc_401_359 ?_
  refine Bod.icT dc_401_361 rfl (k2_ne_T (k_ne 15421 62 rfl rfl (by omega) (by omega) (by omega))) ?_
  refine Bod.go dc_401_377 rfl ?_
  refine Bod.sip 15421 (by decide) dc_401_378 ?_
  refine Bod.icF dc_401_381 rfl (k2_ne_F (k_eq 15421 15421 rfl rfl (by omega))) ?_
  refine Bod.go dc_401_384 rfl ?_
  refine Bod.ifF dc_401_386 rfl w12 ?_
  refine Bod.ic 1 (by decide) dc_401_389 ?_
  refine Bod.go dc_401_390 rfl ?_
  refine Bod.ist dc_401_407 (by rw [ml_401]; exact Nat.le_of_ble_eq_true rfl) ?_
  refine Bod.go dc_401_409 rfl ?_
  refine Bod.go dc_401_420 rfl ?_
  refine Bod.go dc_401_421 rfl ?_
  refine Bod.get dc_401_422 fr_401_493 (mk_61 _) rfl ?_
  refine Bod.eqI (nI t1) (by first | assumption | (simp (disch := omega) only [rI, rIe, rA, rIA, rLA, rJA, rVI, rQI, rVA, rQA, upd_at,  rAI, rLI, rJI, nI_add, pk_sub, kc_0, kc_1, kc_2, kc_3, kc_4, kc_5, reduceIte, Nat.reduceEqDiff, Nat.add_zero, rI_hold, rI_hold, rL_hold, ht, he91, he911, ht1]; done) | (simp (disch := omega) only [rI, rIe, rA, rIA, rLA, rJA, rVI, rQI, rVA, rQA, upd_at,  rAI, rLI, rJI, nI_add, pk_sub, kc_0, kc_1, kc_2, kc_3, kc_4, kc_5, reduceIte, Nat.reduceEqDiff, Nat.add_zero, rI_hold, rI_hold, rL_hold, ht, he91, he911, ht1]; exact congrArg nI (by omega))) ?_
  refine Bod.ic 2 (by decide) dc_401_425 ?_
  refine Bod.subN (t1 - 2) (by omega) (by omega) dc_401_426 ?_
  refine Bod.put dc_401_427 fr_401_493 (mk_61 _) (Nat.le_of_ble_eq_true rfl) pf_14_51 (st_6151 _ _) (mu_I _ _ _) ?_
  refine Bod.go dc_401_430 rfl ?_
  refine Bod.go dc_401_431 rfl ?_
  refine Bod.ifF dc_401_433 rfl (k1_eq_F (k_ne 1 0 rfl rfl (by omega) (by omega) (by omega))) ?_
  refine Bod.go dc_401_436 rfl ?_
  refine Bod.go dc_401_437 rfl ?_
  refine Bod.virt (r := []) dc_401_441 kr_401_613 ⟨Or.inl rfl, ow_353, cl_14⟩ (by rw [np_353]; rfl) (by rw [np_353]; rfl) (ob_of (mk_61 _)) (Nat.le_of_ble_eq_true rfl) (c2  ) ?_
  show Bod _ _ _ _ [] _ _ _
  refine Bod.ic 1 (by decide) dc_401_444 ?_
  exact Bod.retZ dc_401_445 rt_401 (Or.inr rfl)
theorem rBiLE_4 {d : Nat} {S : cS} {t : Nat} {e91 : Nat} {e911 : Nat} {S1 : cS} {rb : Int32} {t1 : Nat} {S2 : cS} (ht : sI S 6151 = nI t) (mt : t < 20481) (b1 : 2 ≤ t) (b2 : 1 ≤ t) (he91 : sA S 91 (t - 2) = nI e91) (me91 : e91 < 2 ^ 20) (he911 : sA S 91 (t - 1) = nI e911) (me911 : e911 < 2 ^ 20) (b3 : e91 = e911) (b4 : e91 ≠ 1) (b5 : e91 = 2) (c1 : Ans (d + 8) 404 [.ref 61, .int (nI (t - 2)), .int (nI (t - 1))] S (some (.int rb)) S1) (w13 : sm_c1 .gt rb true false = true) (ht1 : sI S1 6151 = nI t1) (mt1 : t1 < 20481) (b6 : 2 ≤ t1) (c2 : Ans (d + 8) 353 [.ref 61, .long 0] (wI 6151 (nI (t1 - 2)) S1) none S2) : Bod (d + 8) 401 0 [(0, .ref 61), (1, .int (nI 15421))] [] S (some (.int 1)) (S2) := by
  refine Bod.go dc_401_0 rfl ?_
  refine Bod.get dc_401_1 fr_401_493 (mk_61 _) rfl ?_
  refine Bod.eqI (nI t) (by first | assumption | rfl | exact congrArg nI (by omega) | (simp (disch := omega) only [rI, rIe, rA, rIA, rLA, rJA, rVI, rQI, rVA, rQA, upd_at,  rAI, rLI, rJI, nI_add, pk_sub, kc_0, kc_1, kc_2, kc_3, kc_4, kc_5, reduceIte, Nat.reduceEqDiff, Nat.add_zero, rI_hold, rI_hold, rL_hold, ht]; done)) ?_
  refine Bod.ic 2 (by decide) dc_401_4 ?_
  refine Bod.subN (t - 2) (by omega) (by omega) dc_401_5 ?_
  refine Bod.istn dc_401_6 (by rw [ml_401]; exact Nat.le_of_ble_eq_true rfl) ?_
  refine Bod.go dc_401_7 rfl ?_
  refine Bod.get dc_401_8 fr_401_493 (mk_61 _) rfl ?_
  refine Bod.eqI (nI t) (by first | assumption | rfl | exact congrArg nI (by omega) | (simp (disch := omega) only [rI, rIe, rA, rIA, rLA, rJA, rVI, rQI, rVA, rQA, upd_at,  rAI, rLI, rJI, nI_add, pk_sub, kc_0, kc_1, kc_2, kc_3, kc_4, kc_5, reduceIte, Nat.reduceEqDiff, Nat.add_zero, rI_hold, rI_hold, rL_hold, ht]; done)) ?_
  refine Bod.ic 1 (by decide) dc_401_11 ?_
  refine Bod.subN (t - 1) (by omega) (by omega) dc_401_12 ?_
  refine Bod.istn dc_401_13 (by rw [ml_401]; exact Nat.le_of_ble_eq_true rfl) ?_
  refine Bod.go dc_401_14 rfl ?_
  refine Bod.sw (t := 290) dc_401_15 rfl rfl (by decide +kernel) ?_
  refine Bod.go dc_401_290 rfl ?_
  refine Bod.get dc_401_291 fr_401_496 (mk_61 _) rfl ?_
  refine Bod.go dc_401_294 rfl ?_
  refine Bod.ialdN (t - 2) rfl (by omega) (by omega) dc_401_295 (mk_91 _) ?_
  refine Bod.eqI (nI e91) (by first | assumption | rfl | exact congrArg nI (by omega) | (simp (disch := omega) only [rI, rIe, rA, rIA, rLA, rJA, rVI, rQI, rVA, rQA, upd_at,  rAI, rLI, rJI, nI_add, pk_sub, kc_0, kc_1, kc_2, kc_3, kc_4, kc_5, reduceIte, Nat.reduceEqDiff, Nat.add_zero, rI_hold, rI_hold, rL_hold, ht, he91]; done)) ?_
  refine Bod.go dc_401_296 rfl ?_
  refine Bod.get dc_401_297 fr_401_496 (mk_61 _) rfl ?_
  refine Bod.go dc_401_300 rfl ?_
  refine Bod.ialdN (t - 1) rfl (by omega) (by omega) dc_401_301 (mk_91 _) ?_
  refine Bod.eqI (nI e911) (by first | assumption | rfl | exact congrArg nI (by omega) | (simp (disch := omega) only [rI, rIe, rA, rIA, rLA, rJA, rVI, rQI, rVA, rQA, upd_at,  rAI, rLI, rJI, nI_add, pk_sub, kc_0, kc_1, kc_2, kc_3, kc_4, kc_5, reduceIte, Nat.reduceEqDiff, Nat.add_zero, rI_hold, rI_hold, rL_hold, ht, he91, he911]; done)) ?_
  refine Bod.icF dc_401_302 rfl (k2_ne_F (k_eq e91 e911 rfl rfl (by omega))) ?_
  refine Bod.go dc_401_305 rfl ?_
  refine Bod.get dc_401_306 fr_401_496 (mk_61 _) rfl ?_
  refine Bod.go dc_401_309 rfl ?_
  refine Bod.ialdN (t - 2) rfl (by omega) (by omega) dc_401_310 (mk_91 _) ?_
  refine Bod.eqI (nI e91) (by first | assumption | rfl | exact congrArg nI (by omega) | (simp (disch := omega) only [rI, rIe, rA, rIA, rLA, rJA, rVI, rQI, rVA, rQA, upd_at,  rAI, rLI, rJI, nI_add, pk_sub, kc_0, kc_1, kc_2, kc_3, kc_4, kc_5, reduceIte, Nat.reduceEqDiff, Nat.add_zero, rI_hold, rI_hold, rL_hold, ht, he91, he911]; done)) ?_
  refine Bod.ic 1 (by decide) dc_401_311 ?_
  refine Bod.icF dc_401_312 rfl (k2_eq_F (k_ne e91 1 rfl rfl (by omega) (by omega) (by omega))) ?_
  refine Bod.go dc_401_315 rfl ?_
  refine Bod.get dc_401_316 fr_401_496 (mk_61 _) rfl ?_
  refine Bod.go dc_401_319 rfl ?_
  refine Bod.ialdN (t - 2) rfl (by omega) (by omega) dc_401_320 (mk_91 _) ?_
  refine Bod.eqI (nI e91) (by first | assumption | rfl | exact congrArg nI (by omega) | (simp (disch := omega) only [rI, rIe, rA, rIA, rLA, rJA, rVI, rQI, rVA, rQA, upd_at,  rAI, rLI, rJI, nI_add, pk_sub, kc_0, kc_1, kc_2, kc_3, kc_4, kc_5, reduceIte, Nat.reduceEqDiff, Nat.add_zero, rI_hold, rI_hold, rL_hold, ht, he91, he911]; done)) ?_
  refine Bod.ic 2 (by decide) dc_401_321 ?_
  refine Bod.icT dc_401_322 rfl (k2_eq_T (k_eq e91 2 rfl rfl (by omega))) ?_
  refine Bod.go dc_401_331 rfl ?_
  refine Bod.go dc_401_332 rfl ?_
  refine Bod.go dc_401_333 rfl ?_
  refine Bod.virt (r := []) dc_401_334 kr_401_728 ⟨Or.inl rfl, ow_404, cl_14⟩ (by rw [np_404]; rfl) (by rw [np_404]; rfl) (ob_of (mk_61 _)) (Nat.le_of_ble_eq_true rfl) (c1  ) ?_
  show Bod _ _ _ _ [_] _ _ _
  refine Bod.ist dc_401_337 (by rw [ml_401]; exact Nat.le_of_ble_eq_true rfl) ?_
  refine Bod.go dc_401_339 rfl ?_
  refine Bod.bip 60 (by decide) dc_401_340 ?_
  refine Bod.icT dc_401_342 rfl (k2_ne_T (k_ne 15421 60 rfl rfl (by omega) (by omega) (by omega))) ?_
  refine Bod.go dc_401_358 rfl ?_
  refine Bod.bip 62 (by decide) dc_401_359 ?_
  refine Bod.icT dc_401_361 rfl (k2_ne_T (k_ne 15421 62 rfl rfl (by omega) (by omega) (by omega))) ?_
  refine Bod.go dc_401_377 rfl ?_
  refine Bod.sip 15421 (by decide) dc_401_378 ?_
  refine Bod.icF dc_401_381 rfl (k2_ne_F (k_eq 15421 15421 rfl rfl (by omega))) ?_
  refine Bod.go dc_401_384 rfl ?_
  refine Bod.ifT dc_401_386 rfl w13 ?_
  refine Bod.ic 0 (by decide) dc_401_393 ?_
  refine Bod.go dc_401_394 rfl ?_
  refine Bod.ist dc_401_407 (by rw [ml_401]; exact Nat.le_of_ble_eq_true rfl) ?_
  refine Bod.go dc_401_409 rfl ?_
  refine Bod.go dc_401_420 rfl ?_
  refine Bod.go dc_401_421 rfl ?_
  refine Bod.get dc_401_422 fr_401_493 (mk_61 _) rfl ?_
  refine Bod.eqI (nI t1) (by first | assumption | (simp (disch := omega) only [rI, rIe, rA, rIA, rLA, rJA, rVI, rQI, rVA, rQA, upd_at,  rAI, rLI, rJI, nI_add, pk_sub, kc_0, kc_1, kc_2, kc_3, kc_4, kc_5, reduceIte, Nat.reduceEqDiff, Nat.add_zero, rI_hold, rI_hold, rL_hold, ht, he91, he911, ht1]; done) | (simp (disch := omega) only [rI, rIe, rA, rIA, rLA, rJA, rVI, rQI, rVA, rQA, upd_at,  rAI, rLI, rJI, nI_add, pk_sub, kc_0, kc_1, kc_2, kc_3, kc_4, kc_5, reduceIte, Nat.reduceEqDiff, Nat.add_zero, rI_hold, rI_hold, rL_hold, ht, he91, he911, ht1]; exact congrArg nI (by omega))) ?_
  refine Bod.ic 2 (by decide) dc_401_425 ?_
  refine Bod.subN (t1 - 2) (by omega) (by omega) dc_401_426 ?_
  refine Bod.put dc_401_427 fr_401_493 (mk_61 _) (Nat.le_of_ble_eq_true rfl) pf_14_51 (st_6151 _ _) (mu_I _ _ _) ?_
  refine Bod.go dc_401_430 rfl ?_
  refine Bod.go dc_401_431 rfl ?_
  refine Bod.ifT dc_401_433 rfl (k1_eq_T (k_eq 0 0 rfl rfl (by omega))) ?_
  refine Bod.go dc_401_440 rfl ?_
  refine Bod.virt (r := []) dc_401_441 kr_401_613 ⟨Or.inl rfl, ow_353, cl_14⟩ (by rw [np_353]; rfl) (by rw [np_353]; rfl) (ob_of (mk_61 _)) (Nat.le_of_ble_eq_true rfl) (c2  ) ?_
  show Bod _ _ _ _ [] _ _ _
  refine Bod.ic 1 (by decide) dc_401_444 ?_
  exact Bod.retZ dc_401_445 rt_401 (Or.inr rfl)
theorem rBiLE_5 {d : Nat} {S : cS} {t : Nat} {e91 : Nat} {e911 : Nat} {S1 : cS} {rb : Int32} {t1 : Nat} {S2 : cS} (ht : sI S 6151 = nI t) (mt : t < 20481) (b1 : 2 ≤ t) (b2 : 1 ≤ t) (he91 : sA S 91 (t - 2) = nI e91) (me91 : e91 < 2 ^ 20) (he911 : sA S 91 (t - 1) = nI e911) (me911 : e911 < 2 ^ 20) (b3 : e91 = e911) (b4 : e91 ≠ 1) (b5 : e91 = 2) (c1 : Ans (d + 8) 404 [.ref 61, .int (nI (t - 2)), .int (nI (t - 1))] S (some (.int rb)) S1) (w13 : sm_c1 .gt rb true false = false) (ht1 : sI S1 6151 = nI t1) (mt1 : t1 < 20481) (b6 : 2 ≤ t1) (c2 : Ans (d + 8) 353 [.ref 61, .long 1] (wI 6151 (nI (t1 - 2)) S1) none S2) : Bod (d + 8) 401 0 [(0, .ref 61), (1, .int (nI 15421))] [] S (some (.int 1)) (S2) := by
  refine Bod.go dc_401_0 rfl ?_
  refine Bod.get dc_401_1 fr_401_493 (mk_61 _) rfl ?_
  refine Bod.eqI (nI t) (by first | assumption | rfl | exact congrArg nI (by omega) | (simp (disch := omega) only [rI, rIe, rA, rIA, rLA, rJA, rVI, rQI, rVA, rQA, upd_at,  rAI, rLI, rJI, nI_add, pk_sub, kc_0, kc_1, kc_2, kc_3, kc_4, kc_5, reduceIte, Nat.reduceEqDiff, Nat.add_zero, rI_hold, rI_hold, rL_hold, ht]; done)) ?_
  refine Bod.ic 2 (by decide) dc_401_4 ?_
  refine Bod.subN (t - 2) (by omega) (by omega) dc_401_5 ?_
  refine Bod.istn dc_401_6 (by rw [ml_401]; exact Nat.le_of_ble_eq_true rfl) ?_
  refine Bod.go dc_401_7 rfl ?_
  refine Bod.get dc_401_8 fr_401_493 (mk_61 _) rfl ?_
  refine Bod.eqI (nI t) (by first | assumption | rfl | exact congrArg nI (by omega) | (simp (disch := omega) only [rI, rIe, rA, rIA, rLA, rJA, rVI, rQI, rVA, rQA, upd_at,  rAI, rLI, rJI, nI_add, pk_sub, kc_0, kc_1, kc_2, kc_3, kc_4, kc_5, reduceIte, Nat.reduceEqDiff, Nat.add_zero, rI_hold, rI_hold, rL_hold, ht]; done)) ?_
  refine Bod.ic 1 (by decide) dc_401_11 ?_
  refine Bod.subN (t - 1) (by omega) (by omega) dc_401_12 ?_
  refine Bod.istn dc_401_13 (by rw [ml_401]; exact Nat.le_of_ble_eq_true rfl) ?_
  refine Bod.go dc_401_14 rfl ?_
  refine Bod.sw (t := 290) dc_401_15 rfl rfl (by decide +kernel) ?_
  refine Bod.go dc_401_290 rfl ?_
  refine Bod.get dc_401_291 fr_401_496 (mk_61 _) rfl ?_
  refine Bod.go dc_401_294 rfl ?_
  refine Bod.ialdN (t - 2) rfl (by omega) (by omega) dc_401_295 (mk_91 _) ?_
  refine Bod.eqI (nI e91) (by first | assumption | rfl | exact congrArg nI (by omega) | (simp (disch := omega) only [rI, rIe, rA, rIA, rLA, rJA, rVI, rQI, rVA, rQA, upd_at,  rAI, rLI, rJI, nI_add, pk_sub, kc_0, kc_1, kc_2, kc_3, kc_4, kc_5, reduceIte, Nat.reduceEqDiff, Nat.add_zero, rI_hold, rI_hold, rL_hold, ht, he91]; done)) ?_
  refine Bod.go dc_401_296 rfl ?_
  refine Bod.get dc_401_297 fr_401_496 (mk_61 _) rfl ?_
  refine Bod.go dc_401_300 rfl ?_
  refine Bod.ialdN (t - 1) rfl (by omega) (by omega) dc_401_301 (mk_91 _) ?_
  refine Bod.eqI (nI e911) (by first | assumption | rfl | exact congrArg nI (by omega) | (simp (disch := omega) only [rI, rIe, rA, rIA, rLA, rJA, rVI, rQI, rVA, rQA, upd_at,  rAI, rLI, rJI, nI_add, pk_sub, kc_0, kc_1, kc_2, kc_3, kc_4, kc_5, reduceIte, Nat.reduceEqDiff, Nat.add_zero, rI_hold, rI_hold, rL_hold, ht, he91, he911]; done)) ?_
  refine Bod.icF dc_401_302 rfl (k2_ne_F (k_eq e91 e911 rfl rfl (by omega))) ?_
  refine Bod.go dc_401_305 rfl ?_
  refine Bod.get dc_401_306 fr_401_496 (mk_61 _) rfl ?_
  refine Bod.go dc_401_309 rfl ?_
  refine Bod.ialdN (t - 2) rfl (by omega) (by omega) dc_401_310 (mk_91 _) ?_
  refine Bod.eqI (nI e91) (by first | assumption | rfl | exact congrArg nI (by omega) | (simp (disch := omega) only [rI, rIe, rA, rIA, rLA, rJA, rVI, rQI, rVA, rQA, upd_at,  rAI, rLI, rJI, nI_add, pk_sub, kc_0, kc_1, kc_2, kc_3, kc_4, kc_5, reduceIte, Nat.reduceEqDiff, Nat.add_zero, rI_hold, rI_hold, rL_hold, ht, he91, he911]; done)) ?_
  refine Bod.ic 1 (by decide) dc_401_311 ?_
  refine Bod.icF dc_401_312 rfl (k2_eq_F (k_ne e91 1 rfl rfl (by omega) (by omega) (by omega))) ?_
  refine Bod.go dc_401_315 rfl ?_
  refine Bod.get dc_401_316 fr_401_496 (mk_61 _) rfl ?_
  refine Bod.go dc_401_319 rfl ?_
  refine Bod.ialdN (t - 2) rfl (by omega) (by omega) dc_401_320 (mk_91 _) ?_
  refine Bod.eqI (nI e91) (by first | assumption | rfl | exact congrArg nI (by omega) | (simp (disch := omega) only [rI, rIe, rA, rIA, rLA, rJA, rVI, rQI, rVA, rQA, upd_at,  rAI, rLI, rJI, nI_add, pk_sub, kc_0, kc_1, kc_2, kc_3, kc_4, kc_5, reduceIte, Nat.reduceEqDiff, Nat.add_zero, rI_hold, rI_hold, rL_hold, ht, he91, he911]; done)) ?_
  refine Bod.ic 2 (by decide) dc_401_321 ?_
  refine Bod.icT dc_401_322 rfl (k2_eq_T (k_eq e91 2 rfl rfl (by omega))) ?_
  refine Bod.go dc_401_331 rfl ?_
  refine Bod.go dc_401_332 rfl ?_
  refine Bod.go dc_401_333 rfl ?_
  refine Bod.virt (r := []) dc_401_334 kr_401_728 ⟨Or.inl rfl, ow_404, cl_14⟩ (by rw [np_404]; rfl) (by rw [np_404]; rfl) (ob_of (mk_61 _)) (Nat.le_of_ble_eq_true rfl) (c1  ) ?_
  show Bod _ _ _ _ [_] _ _ _
  refine Bod.ist dc_401_337 (by rw [ml_401]; exact Nat.le_of_ble_eq_true rfl) ?_
  refine Bod.go dc_401_339 rfl ?_
  refine Bod.bip 60 (by decide) dc_401_340 ?_
  refine Bod.icT dc_401_342 rfl (k2_ne_T (k_ne 15421 60 rfl rfl (by omega) (by omega) (by omega))) ?_
  refine Bod.go dc_401_358 rfl ?_
  refine Bod.bip 62 (by decide) dc_401_359 ?_
  refine Bod.icT dc_401_361 rfl (k2_ne_T (k_ne 15421 62 rfl rfl (by omega) (by omega) (by omega))) ?_
  refine Bod.go dc_401_377 rfl ?_
  refine Bod.sip 15421 (by decide) dc_401_378 ?_
  refine Bod.icF dc_401_381 rfl (k2_ne_F (k_eq 15421 15421 rfl rfl (by omega))) ?_
  refine Bod.go dc_401_384 rfl ?_
  refine Bod.ifF dc_401_386 rfl w13 ?_
  refine Bod.ic 1 (by decide) dc_401_389 ?_
  refine Bod.go dc_401_390 rfl ?_
  refine Bod.ist dc_401_407 (by rw [ml_401]; exact Nat.le_of_ble_eq_true rfl) ?_
  refine Bod.go dc_401_409 rfl ?_
  refine Bod.go dc_401_420 rfl ?_
  refine Bod.go dc_401_421 rfl ?_
  refine Bod.get dc_401_422 fr_401_493 (mk_61 _) rfl ?_
  refine Bod.eqI (nI t1) (by first | assumption | (simp (disch := omega) only [rI, rIe, rA, rIA, rLA, rJA, rVI, rQI, rVA, rQA, upd_at,  rAI, rLI, rJI, nI_add, pk_sub, kc_0, kc_1, kc_2, kc_3, kc_4, kc_5, reduceIte, Nat.reduceEqDiff, Nat.add_zero, rI_hold, rI_hold, rL_hold, ht, he91, he911, ht1]; done) | (simp (disch := omega) only [rI, rIe, rA, rIA, rLA, rJA, rVI, rQI, rVA, rQA, upd_at,  rAI, rLI, rJI, nI_add, pk_sub, kc_0, kc_1, kc_2, kc_3, kc_4, kc_5, reduceIte, Nat.reduceEqDiff, Nat.add_zero, rI_hold, rI_hold, rL_hold, ht, he91, he911, ht1]; exact congrArg nI (by omega))) ?_
  refine Bod.ic 2 (by decide) dc_401_425 ?_
  refine Bod.subN (t1 - 2) (by omega) (by omega) dc_401_426 ?_
  refine Bod.put dc_401_427 fr_401_493 (mk_61 _) (Nat.le_of_ble_eq_true rfl) pf_14_51 (st_6151 _ _) (mu_I _ _ _) ?_
  refine Bod.go dc_401_430 rfl ?_
  refine Bod.go dc_401_431 rfl ?_
  refine Bod.ifF dc_401_433 rfl (k1_eq_F (k_ne 1 0 rfl rfl (by omega) (by omega) (by omega))) ?_
  refine Bod.go dc_401_436 rfl ?_
  refine Bod.go dc_401_437 rfl ?_
  refine Bod.virt (r := []) dc_401_441 kr_401_613 ⟨Or.inl rfl, ow_353, cl_14⟩ (by rw [np_353]; rfl) (by rw [np_353]; rfl) (ob_of (mk_61 _)) (Nat.le_of_ble_eq_true rfl) (c2  ) ?_
  show Bod _ _ _ _ [] _ _ _
  refine Bod.ic 1 (by decide) dc_401_444 ?_
  exact Bod.retZ dc_401_445 rt_401 (Or.inr rfl)
theorem rBiLE_6 {d : Nat} {S : cS} {t : Nat} {e91 : Nat} {e911 : Nat} {S1 : cS} (ht : sI S 6151 = nI t) (mt : t < 20481) (b1 : 2 ≤ t) (b2 : 1 ≤ t) (he91 : sA S 91 (t - 2) = nI e91) (me91 : e91 < 2 ^ 20) (he911 : sA S 91 (t - 1) = nI e911) (me911 : e911 < 2 ^ 20) (b3 : e91 = e911) (b4 : e91 ≠ 1) (b5 : e91 ≠ 2) (c1 : Ans (d + 8) 351 [.ref 61, .int (nI 2)] S (some (.int (nI 0))) S1) : Bod (d + 8) 401 0 [(0, .ref 61), (1, .int (nI 15421))] [] S (some (.int 0)) (S1) := by
  refine Bod.go dc_401_0 rfl ?_
  refine Bod.get dc_401_1 fr_401_493 (mk_61 _) rfl ?_
  refine Bod.eqI (nI t) (by first | assumption | rfl | exact congrArg nI (by omega) | (simp (disch := omega) only [rI, rIe, rA, rIA, rLA, rJA, rVI, rQI, rVA, rQA, upd_at,  rAI, rLI, rJI, nI_add, pk_sub, kc_0, kc_1, kc_2, kc_3, kc_4, kc_5, reduceIte, Nat.reduceEqDiff, Nat.add_zero, rI_hold, rI_hold, rL_hold, ht]; done)) ?_
  refine Bod.ic 2 (by decide) dc_401_4 ?_
  refine Bod.subN (t - 2) (by omega) (by omega) dc_401_5 ?_
  refine Bod.istn dc_401_6 (by rw [ml_401]; exact Nat.le_of_ble_eq_true rfl) ?_
  refine Bod.go dc_401_7 rfl ?_
  refine Bod.get dc_401_8 fr_401_493 (mk_61 _) rfl ?_
  refine Bod.eqI (nI t) (by first | assumption | rfl | exact congrArg nI (by omega) | (simp (disch := omega) only [rI, rIe, rA, rIA, rLA, rJA, rVI, rQI, rVA, rQA, upd_at,  rAI, rLI, rJI, nI_add, pk_sub, kc_0, kc_1, kc_2, kc_3, kc_4, kc_5, reduceIte, Nat.reduceEqDiff, Nat.add_zero, rI_hold, rI_hold, rL_hold, ht]; done)) ?_
  refine Bod.ic 1 (by decide) dc_401_11 ?_
  refine Bod.subN (t - 1) (by omega) (by omega) dc_401_12 ?_
  refine Bod.istn dc_401_13 (by rw [ml_401]; exact Nat.le_of_ble_eq_true rfl) ?_
  refine Bod.go dc_401_14 rfl ?_
  refine Bod.sw (t := 290) dc_401_15 rfl rfl (by decide +kernel) ?_
  refine Bod.go dc_401_290 rfl ?_
  refine Bod.get dc_401_291 fr_401_496 (mk_61 _) rfl ?_
  refine Bod.go dc_401_294 rfl ?_
  refine Bod.ialdN (t - 2) rfl (by omega) (by omega) dc_401_295 (mk_91 _) ?_
  refine Bod.eqI (nI e91) (by first | assumption | rfl | exact congrArg nI (by omega) | (simp (disch := omega) only [rI, rIe, rA, rIA, rLA, rJA, rVI, rQI, rVA, rQA, upd_at,  rAI, rLI, rJI, nI_add, pk_sub, kc_0, kc_1, kc_2, kc_3, kc_4, kc_5, reduceIte, Nat.reduceEqDiff, Nat.add_zero, rI_hold, rI_hold, rL_hold, ht, he91]; done)) ?_
  refine Bod.go dc_401_296 rfl ?_
  refine Bod.get dc_401_297 fr_401_496 (mk_61 _) rfl ?_
  refine Bod.go dc_401_300 rfl ?_
  refine Bod.ialdN (t - 1) rfl (by omega) (by omega) dc_401_301 (mk_91 _) ?_
  refine Bod.eqI (nI e911) (by first | assumption | rfl | exact congrArg nI (by omega) | (simp (disch := omega) only [rI, rIe, rA, rIA, rLA, rJA, rVI, rQI, rVA, rQA, upd_at,  rAI, rLI, rJI, nI_add, pk_sub, kc_0, kc_1, kc_2, kc_3, kc_4, kc_5, reduceIte, Nat.reduceEqDiff, Nat.add_zero, rI_hold, rI_hold, rL_hold, ht, he91, he911]; done)) ?_
  refine Bod.icF dc_401_302 rfl (k2_ne_F (k_eq e91 e911 rfl rfl (by omega))) ?_
  refine Bod.go dc_401_305 rfl ?_
  refine Bod.get dc_401_306 fr_401_496 (mk_61 _) rfl ?_
  refine Bod.go dc_401_309 rfl ?_
  refine Bod.ialdN (t - 2) rfl (by omega) (by omega) dc_401_310 (mk_91 _) ?_
  refine Bod.eqI (nI e91) (by first | assumption | rfl | exact congrArg nI (by omega) | (simp (disch := omega) only [rI, rIe, rA, rIA, rLA, rJA, rVI, rQI, rVA, rQA, upd_at,  rAI, rLI, rJI, nI_add, pk_sub, kc_0, kc_1, kc_2, kc_3, kc_4, kc_5, reduceIte, Nat.reduceEqDiff, Nat.add_zero, rI_hold, rI_hold, rL_hold, ht, he91, he911]; done)) ?_
  refine Bod.ic 1 (by decide) dc_401_311 ?_
  refine Bod.icF dc_401_312 rfl (k2_eq_F (k_ne e91 1 rfl rfl (by omega) (by omega) (by omega))) ?_
  refine Bod.go dc_401_315 rfl ?_
  refine Bod.get dc_401_316 fr_401_496 (mk_61 _) rfl ?_
  refine Bod.go dc_401_319 rfl ?_
  refine Bod.ialdN (t - 2) rfl (by omega) (by omega) dc_401_320 (mk_91 _) ?_
  refine Bod.eqI (nI e91) (by first | assumption | rfl | exact congrArg nI (by omega) | (simp (disch := omega) only [rI, rIe, rA, rIA, rLA, rJA, rVI, rQI, rVA, rQA, upd_at,  rAI, rLI, rJI, nI_add, pk_sub, kc_0, kc_1, kc_2, kc_3, kc_4, kc_5, reduceIte, Nat.reduceEqDiff, Nat.add_zero, rI_hold, rI_hold, rL_hold, ht, he91, he911]; done)) ?_
  refine Bod.ic 2 (by decide) dc_401_321 ?_
  refine Bod.icF dc_401_322 rfl (k2_eq_F (k_ne e91 2 rfl rfl (by omega) (by omega) (by omega))) ?_
  refine Bod.go dc_401_325 rfl ?_
  refine Bod.ic 2 (by decide) dc_401_326 ?_
  refine Bod.virt (r := []) dc_401_327 kr_401_608 ⟨Or.inl rfl, ow_351, cl_14⟩ (by rw [np_351]; rfl) (by rw [np_351]; rfl) (ob_of (mk_61 _)) (Nat.le_of_ble_eq_true rfl) (c1  ) ?_
  show Bod _ _ _ _ [_] _ _ _
  exact Bod.retZ dc_401_330 rt_401 (Or.inl rfl)
theorem rBiGE_1 {d : Nat} {S : cS} {t : Nat} {e91 : Nat} {e911 : Nat} {S1 : cS} (ht : sI S 6151 = nI t) (mt : t < 20481) (b1 : 2 ≤ t) (b2 : 1 ≤ t) (he91 : sA S 91 (t - 2) = nI e91) (me91 : e91 < 2 ^ 20) (he911 : sA S 91 (t - 1) = nI e911) (me911 : e911 < 2 ^ 20) (b3 : e91 ≠ e911) (c1 : Ans (d + 8) 351 [.ref 61, .int (nI 2)] S (some (.int (nI 0))) S1) : Bod (d + 8) 401 0 [(0, .ref 61), (1, .int (nI 15933))] [] S (some (.int 0)) (S1) := by
  refine Bod.go dc_401_0 rfl ?_
  refine Bod.get dc_401_1 fr_401_493 (mk_61 _) rfl ?_
  refine Bod.eqI (nI t) (by first | assumption | rfl | exact congrArg nI (by omega) | (simp (disch := omega) only [rI, rIe, rA, rIA, rLA, rJA, rVI, rQI, rVA, rQA, upd_at,  rAI, rLI, rJI, nI_add, pk_sub, kc_0, kc_1, kc_2, kc_3, kc_4, kc_5, reduceIte, Nat.reduceEqDiff, Nat.add_zero, rI_hold, rI_hold, rL_hold, ht]; done)) ?_
  refine Bod.ic 2 (by decide) dc_401_4 ?_
  refine Bod.subN (t - 2) (by omega) (by omega) dc_401_5 ?_
  refine Bod.istn dc_401_6 (by rw [ml_401]; exact Nat.le_of_ble_eq_true rfl) ?_
  refine Bod.go dc_401_7 rfl ?_
  refine Bod.get dc_401_8 fr_401_493 (mk_61 _) rfl ?_
  refine Bod.eqI (nI t) (by first | assumption | rfl | exact congrArg nI (by omega) | (simp (disch := omega) only [rI, rIe, rA, rIA, rLA, rJA, rVI, rQI, rVA, rQA, upd_at,  rAI, rLI, rJI, nI_add, pk_sub, kc_0, kc_1, kc_2, kc_3, kc_4, kc_5, reduceIte, Nat.reduceEqDiff, Nat.add_zero, rI_hold, rI_hold, rL_hold, ht]; done)) ?_
  refine Bod.ic 1 (by decide) dc_401_11 ?_
  refine Bod.subN (t - 1) (by omega) (by omega) dc_401_12 ?_
  refine Bod.istn dc_401_13 (by rw [ml_401]; exact Nat.le_of_ble_eq_true rfl) ?_
  refine Bod.go dc_401_14 rfl ?_
  refine Bod.sw (t := 290) dc_401_15 rfl rfl (by decide +kernel) ?_
  refine Bod.go dc_401_290 rfl ?_
  refine Bod.get dc_401_291 fr_401_496 (mk_61 _) rfl ?_
  refine Bod.go dc_401_294 rfl ?_
  refine Bod.ialdN (t - 2) rfl (by omega) (by omega) dc_401_295 (mk_91 _) ?_
  refine Bod.eqI (nI e91) (by first | assumption | rfl | exact congrArg nI (by omega) | (simp (disch := omega) only [rI, rIe, rA, rIA, rLA, rJA, rVI, rQI, rVA, rQA, upd_at,  rAI, rLI, rJI, nI_add, pk_sub, kc_0, kc_1, kc_2, kc_3, kc_4, kc_5, reduceIte, Nat.reduceEqDiff, Nat.add_zero, rI_hold, rI_hold, rL_hold, ht, he91]; done)) ?_
  refine Bod.go dc_401_296 rfl ?_
  refine Bod.get dc_401_297 fr_401_496 (mk_61 _) rfl ?_
  refine Bod.go dc_401_300 rfl ?_
  refine Bod.ialdN (t - 1) rfl (by omega) (by omega) dc_401_301 (mk_91 _) ?_
  refine Bod.eqI (nI e911) (by first | assumption | rfl | exact congrArg nI (by omega) | (simp (disch := omega) only [rI, rIe, rA, rIA, rLA, rJA, rVI, rQI, rVA, rQA, upd_at,  rAI, rLI, rJI, nI_add, pk_sub, kc_0, kc_1, kc_2, kc_3, kc_4, kc_5, reduceIte, Nat.reduceEqDiff, Nat.add_zero, rI_hold, rI_hold, rL_hold, ht, he91, he911]; done)) ?_
  refine Bod.icT dc_401_302 rfl (k2_ne_T (k_ne e91 e911 rfl rfl (by omega) (by omega) (by omega))) ?_
  refine Bod.go dc_401_325 rfl ?_
  refine Bod.ic 2 (by decide) dc_401_326 ?_
  refine Bod.virt (r := []) dc_401_327 kr_401_608 ⟨Or.inl rfl, ow_351, cl_14⟩ (by rw [np_351]; rfl) (by rw [np_351]; rfl) (ob_of (mk_61 _)) (Nat.le_of_ble_eq_true rfl) (c1  ) ?_
  show Bod _ _ _ _ [_] _ _ _
  exact Bod.retZ dc_401_330 rt_401 (Or.inl rfl)
theorem rBiGE_2 {d : Nat} {S : cS} {t : Nat} {e91 : Nat} {e911 : Nat} {S1 : cS} {rb : Int32} {t1 : Nat} {S2 : cS} (ht : sI S 6151 = nI t) (mt : t < 20481) (b1 : 2 ≤ t) (b2 : 1 ≤ t) (he91 : sA S 91 (t - 2) = nI e91) (me91 : e91 < 2 ^ 20) (he911 : sA S 91 (t - 1) = nI e911) (me911 : e911 < 2 ^ 20) (b3 : e91 = e911) (b4 : e91 = 1) (c1 : Ans (d + 8) 404 [.ref 61, .int (nI (t - 2)), .int (nI (t - 1))] S (some (.int rb)) S1) (w12 : sm_c1 .lt rb true false = true) (ht1 : sI S1 6151 = nI t1) (mt1 : t1 < 20481) (b5 : 2 ≤ t1) (c2 : Ans (d + 8) 353 [.ref 61, .long 0] (wI 6151 (nI (t1 - 2)) S1) none S2) : Bod (d + 8) 401 0 [(0, .ref 61), (1, .int (nI 15933))] [] S (some (.int 1)) (S2) := by
  refine Bod.go dc_401_0 rfl ?_
  refine Bod.get dc_401_1 fr_401_493 (mk_61 _) rfl ?_
  refine Bod.eqI (nI t) (by first | assumption | rfl | exact congrArg nI (by omega) | (simp (disch := omega) only [rI, rIe, rA, rIA, rLA, rJA, rVI, rQI, rVA, rQA, upd_at,  rAI, rLI, rJI, nI_add, pk_sub, kc_0, kc_1, kc_2, kc_3, kc_4, kc_5, reduceIte, Nat.reduceEqDiff, Nat.add_zero, rI_hold, rI_hold, rL_hold, ht]; done)) ?_
  refine Bod.ic 2 (by decide) dc_401_4 ?_
  refine Bod.subN (t - 2) (by omega) (by omega) dc_401_5 ?_
  refine Bod.istn dc_401_6 (by rw [ml_401]; exact Nat.le_of_ble_eq_true rfl) ?_
  refine Bod.go dc_401_7 rfl ?_
  refine Bod.get dc_401_8 fr_401_493 (mk_61 _) rfl ?_
  refine Bod.eqI (nI t) (by first | assumption | rfl | exact congrArg nI (by omega) | (simp (disch := omega) only [rI, rIe, rA, rIA, rLA, rJA, rVI, rQI, rVA, rQA, upd_at,  rAI, rLI, rJI, nI_add, pk_sub, kc_0, kc_1, kc_2, kc_3, kc_4, kc_5, reduceIte, Nat.reduceEqDiff, Nat.add_zero, rI_hold, rI_hold, rL_hold, ht]; done)) ?_
  refine Bod.ic 1 (by decide) dc_401_11 ?_
  refine Bod.subN (t - 1) (by omega) (by omega) dc_401_12 ?_
  refine Bod.istn dc_401_13 (by rw [ml_401]; exact Nat.le_of_ble_eq_true rfl) ?_
  refine Bod.go dc_401_14 rfl ?_
  refine Bod.sw (t := 290) dc_401_15 rfl rfl (by decide +kernel) ?_
  refine Bod.go dc_401_290 rfl ?_
  refine Bod.get dc_401_291 fr_401_496 (mk_61 _) rfl ?_
  refine Bod.go dc_401_294 rfl ?_
  refine Bod.ialdN (t - 2) rfl (by omega) (by omega) dc_401_295 (mk_91 _) ?_
  refine Bod.eqI (nI e91) (by first | assumption | rfl | exact congrArg nI (by omega) | (simp (disch := omega) only [rI, rIe, rA, rIA, rLA, rJA, rVI, rQI, rVA, rQA, upd_at,  rAI, rLI, rJI, nI_add, pk_sub, kc_0, kc_1, kc_2, kc_3, kc_4, kc_5, reduceIte, Nat.reduceEqDiff, Nat.add_zero, rI_hold, rI_hold, rL_hold, ht, he91]; done)) ?_
  refine Bod.go dc_401_296 rfl ?_
  refine Bod.get dc_401_297 fr_401_496 (mk_61 _) rfl ?_
  refine Bod.go dc_401_300 rfl ?_
  refine Bod.ialdN (t - 1) rfl (by omega) (by omega) dc_401_301 (mk_91 _) ?_
  refine Bod.eqI (nI e911) (by first | assumption | rfl | exact congrArg nI (by omega) | (simp (disch := omega) only [rI, rIe, rA, rIA, rLA, rJA, rVI, rQI, rVA, rQA, upd_at,  rAI, rLI, rJI, nI_add, pk_sub, kc_0, kc_1, kc_2, kc_3, kc_4, kc_5, reduceIte, Nat.reduceEqDiff, Nat.add_zero, rI_hold, rI_hold, rL_hold, ht, he91, he911]; done)) ?_
  refine Bod.icF dc_401_302 rfl (k2_ne_F (k_eq e91 e911 rfl rfl (by omega))) ?_
  refine Bod.go dc_401_305 rfl ?_
  refine Bod.get dc_401_306 fr_401_496 (mk_61 _) rfl ?_
  refine Bod.go dc_401_309 rfl ?_
  refine Bod.ialdN (t - 2) rfl (by omega) (by omega) dc_401_310 (mk_91 _) ?_
  refine Bod.eqI (nI e91) (by first | assumption | rfl | exact congrArg nI (by omega) | (simp (disch := omega) only [rI, rIe, rA, rIA, rLA, rJA, rVI, rQI, rVA, rQA, upd_at,  rAI, rLI, rJI, nI_add, pk_sub, kc_0, kc_1, kc_2, kc_3, kc_4, kc_5, reduceIte, Nat.reduceEqDiff, Nat.add_zero, rI_hold, rI_hold, rL_hold, ht, he91, he911]; done)) ?_
  refine Bod.ic 1 (by decide) dc_401_311 ?_
  refine Bod.icT dc_401_312 rfl (k2_eq_T (k_eq e91 1 rfl rfl (by omega))) ?_
  refine Bod.go dc_401_331 rfl ?_
  refine Bod.go dc_401_332 rfl ?_
  refine Bod.go dc_401_333 rfl ?_
  refine Bod.virt (r := []) dc_401_334 kr_401_728 ⟨Or.inl rfl, ow_404, cl_14⟩ (by rw [np_404]; rfl) (by rw [np_404]; rfl) (ob_of (mk_61 _)) (Nat.le_of_ble_eq_true rfl) (c1  ) ?_
  show Bod _ _ _ _ [_] _ _ _
  refine Bod.ist dc_401_337 (by rw [ml_401]; exact Nat.le_of_ble_eq_true rfl) ?_
  refine Bod.go dc_401_339 rfl ?_
  refine Bod.bip 60 (by decide) dc_401_340 ?_
  refine Bod.icT dc_401_342 rfl (k2_ne_T (k_ne 15933 60 rfl rfl (by omega) (by omega) (by omega))) ?_
  refine Bod.go dc_401_358 rfl ?_
  refine Bod.bip 62 (by decide) dc_401_359 ?_
  refine Bod.icT dc_401_361 rfl (k2_ne_T (k_ne 15933 62 rfl rfl (by omega) (by omega) (by omega))) ?_
  refine Bod.go dc_401_377 rfl ?_
  refine Bod.sip 15421 (by decide) dc_401_378 ?_
  refine Bod.icT dc_401_381 rfl (k2_ne_T (k_ne 15933 15421 rfl rfl (by omega) (by omega) (by omega))) ?_
  refine Bod.go dc_401_397 rfl ?_
  refine Bod.ifT dc_401_399 rfl w12 ?_
  refine Bod.ic 0 (by decide) dc_401_406 ?_
  refine Bod.ist dc_401_407 (by rw [ml_401]; exact Nat.le_of_ble_eq_true rfl) ?_
  refine Bod.go dc_401_409 rfl ?_
  refine Bod.go dc_401_420 rfl ?_
  refine Bod.go dc_401_421 rfl ?_
  refine Bod.get dc_401_422 fr_401_493 (mk_61 _) rfl ?_
  refine Bod.eqI (nI t1) (by first | assumption | (simp (disch := omega) only [rI, rIe, rA, rIA, rLA, rJA, rVI, rQI, rVA, rQA, upd_at,  rAI, rLI, rJI, nI_add, pk_sub, kc_0, kc_1, kc_2, kc_3, kc_4, kc_5, reduceIte, Nat.reduceEqDiff, Nat.add_zero, rI_hold, rI_hold, rL_hold, ht, he91, he911, ht1]; done) | (simp (disch := omega) only [rI, rIe, rA, rIA, rLA, rJA, rVI, rQI, rVA, rQA, upd_at,  rAI, rLI, rJI, nI_add, pk_sub, kc_0, kc_1, kc_2, kc_3, kc_4, kc_5, reduceIte, Nat.reduceEqDiff, Nat.add_zero, rI_hold, rI_hold, rL_hold, ht, he91, he911, ht1]; exact congrArg nI (by omega))) ?_
  refine Bod.ic 2 (by decide) dc_401_425 ?_
  refine Bod.subN (t1 - 2) (by omega) (by omega) dc_401_426 ?_
  refine Bod.put dc_401_427 fr_401_493 (mk_61 _) (Nat.le_of_ble_eq_true rfl) pf_14_51 (st_6151 _ _) (mu_I _ _ _) ?_
  refine Bod.go dc_401_430 rfl ?_
  refine Bod.go dc_401_431 rfl ?_
  refine Bod.ifT dc_401_433 rfl (k1_eq_T (k_eq 0 0 rfl rfl (by omega))) ?_
  refine Bod.go dc_401_440 rfl ?_
  refine Bod.virt (r := []) dc_401_441 kr_401_613 ⟨Or.inl rfl, ow_353, cl_14⟩ (by rw [np_353]; rfl) (by rw [np_353]; rfl) (ob_of (mk_61 _)) (Nat.le_of_ble_eq_true rfl) (c2  ) ?_
  show Bod _ _ _ _ [] _ _ _
  refine Bod.ic 1 (by decide) dc_401_444 ?_
  exact Bod.retZ dc_401_445 rt_401 (Or.inr rfl)
theorem rBiGE_3 {d : Nat} {S : cS} {t : Nat} {e91 : Nat} {e911 : Nat} {S1 : cS} {rb : Int32} {t1 : Nat} {S2 : cS} (ht : sI S 6151 = nI t) (mt : t < 20481) (b1 : 2 ≤ t) (b2 : 1 ≤ t) (he91 : sA S 91 (t - 2) = nI e91) (me91 : e91 < 2 ^ 20) (he911 : sA S 91 (t - 1) = nI e911) (me911 : e911 < 2 ^ 20) (b3 : e91 = e911) (b4 : e91 = 1) (c1 : Ans (d + 8) 404 [.ref 61, .int (nI (t - 2)), .int (nI (t - 1))] S (some (.int rb)) S1) (w12 : sm_c1 .lt rb true false = false) (ht1 : sI S1 6151 = nI t1) (mt1 : t1 < 20481) (b5 : 2 ≤ t1) (c2 : Ans (d + 8) 353 [.ref 61, .long 1] (wI 6151 (nI (t1 - 2)) S1) none S2) : Bod (d + 8) 401 0 [(0, .ref 61), (1, .int (nI 15933))] [] S (some (.int 1)) (S2) := by
  refine Bod.go dc_401_0 rfl ?_
  refine Bod.get dc_401_1 fr_401_493 (mk_61 _) rfl ?_
  refine Bod.eqI (nI t) (by first | assumption | rfl | exact congrArg nI (by omega) | (simp (disch := omega) only [rI, rIe, rA, rIA, rLA, rJA, rVI, rQI, rVA, rQA, upd_at,  rAI, rLI, rJI, nI_add, pk_sub, kc_0, kc_1, kc_2, kc_3, kc_4, kc_5, reduceIte, Nat.reduceEqDiff, Nat.add_zero, rI_hold, rI_hold, rL_hold, ht]; done)) ?_
  refine Bod.ic 2 (by decide) dc_401_4 ?_
  refine Bod.subN (t - 2) (by omega) (by omega) dc_401_5 ?_
  refine Bod.istn dc_401_6 (by rw [ml_401]; exact Nat.le_of_ble_eq_true rfl) ?_
  refine Bod.go dc_401_7 rfl ?_
  refine Bod.get dc_401_8 fr_401_493 (mk_61 _) rfl ?_
  refine Bod.eqI (nI t) (by first | assumption | rfl | exact congrArg nI (by omega) | (simp (disch := omega) only [rI, rIe, rA, rIA, rLA, rJA, rVI, rQI, rVA, rQA, upd_at,  rAI, rLI, rJI, nI_add, pk_sub, kc_0, kc_1, kc_2, kc_3, kc_4, kc_5, reduceIte, Nat.reduceEqDiff, Nat.add_zero, rI_hold, rI_hold, rL_hold, ht]; done)) ?_
  refine Bod.ic 1 (by decide) dc_401_11 ?_
  refine Bod.subN (t - 1) (by omega) (by omega) dc_401_12 ?_
  refine Bod.istn dc_401_13 (by rw [ml_401]; exact Nat.le_of_ble_eq_true rfl) ?_
  refine Bod.go dc_401_14 rfl ?_
  refine Bod.sw (t := 290) dc_401_15 rfl rfl (by decide +kernel) ?_
  refine Bod.go dc_401_290 rfl ?_
  refine Bod.get dc_401_291 fr_401_496 (mk_61 _) rfl ?_
  refine Bod.go dc_401_294 rfl ?_
  refine Bod.ialdN (t - 2) rfl (by omega) (by omega) dc_401_295 (mk_91 _) ?_
  refine Bod.eqI (nI e91) (by first | assumption | rfl | exact congrArg nI (by omega) | (simp (disch := omega) only [rI, rIe, rA, rIA, rLA, rJA, rVI, rQI, rVA, rQA, upd_at,  rAI, rLI, rJI, nI_add, pk_sub, kc_0, kc_1, kc_2, kc_3, kc_4, kc_5, reduceIte, Nat.reduceEqDiff, Nat.add_zero, rI_hold, rI_hold, rL_hold, ht, he91]; done)) ?_
  refine Bod.go dc_401_296 rfl ?_
  refine Bod.get dc_401_297 fr_401_496 (mk_61 _) rfl ?_
  refine Bod.go dc_401_300 rfl ?_
  refine Bod.ialdN (t - 1) rfl (by omega) (by omega) dc_401_301 (mk_91 _) ?_
  refine Bod.eqI (nI e911) (by first | assumption | rfl | exact congrArg nI (by omega) | (simp (disch := omega) only [rI, rIe, rA, rIA, rLA, rJA, rVI, rQI, rVA, rQA, upd_at,  rAI, rLI, rJI, nI_add, pk_sub, kc_0, kc_1, kc_2, kc_3, kc_4, kc_5, reduceIte, Nat.reduceEqDiff, Nat.add_zero, rI_hold, rI_hold, rL_hold, ht, he91, he911]; done)) ?_
  refine Bod.icF dc_401_302 rfl (k2_ne_F (k_eq e91 e911 rfl rfl (by omega))) ?_
  refine Bod.go dc_401_305 rfl ?_
  refine Bod.get dc_401_306 fr_401_496 (mk_61 _) rfl ?_
  refine Bod.go dc_401_309 rfl ?_
  refine Bod.ialdN (t - 2) rfl (by omega) (by omega) dc_401_310 (mk_91 _) ?_
  refine Bod.eqI (nI e91) (by first | assumption | rfl | exact congrArg nI (by omega) | (simp (disch := omega) only [rI, rIe, rA, rIA, rLA, rJA, rVI, rQI, rVA, rQA, upd_at,  rAI, rLI, rJI, nI_add, pk_sub, kc_0, kc_1, kc_2, kc_3, kc_4, kc_5, reduceIte, Nat.reduceEqDiff, Nat.add_zero, rI_hold, rI_hold, rL_hold, ht, he91, he911]; done)) ?_
  refine Bod.ic 1 (by decide) dc_401_311 ?_
  refine Bod.icT dc_401_312 rfl (k2_eq_T (k_eq e91 1 rfl rfl (by omega))) ?_
  refine Bod.go dc_401_331 rfl ?_
  refine Bod.go dc_401_332 rfl ?_
  refine Bod.go dc_401_333 rfl ?_
  refine Bod.virt (r := []) dc_401_334 kr_401_728 ⟨Or.inl rfl, ow_404, cl_14⟩ (by rw [np_404]; rfl) (by rw [np_404]; rfl) (ob_of (mk_61 _)) (Nat.le_of_ble_eq_true rfl) (c1  ) ?_
  show Bod _ _ _ _ [_] _ _ _
  refine Bod.ist dc_401_337 (by rw [ml_401]; exact Nat.le_of_ble_eq_true rfl) ?_
  refine Bod.go dc_401_339 rfl ?_
  refine Bod.bip 60 (by decide) dc_401_340 ?_
  refine Bod.icT dc_401_342 rfl (k2_ne_T (k_ne 15933 60 rfl rfl (by omega) (by omega) (by omega))) ?_
  refine Bod.go dc_401_358 rfl ?_
  refine Bod.bip 62 (by decide) dc_401_359 ?_
  refine Bod.icT dc_401_361 rfl (k2_ne_T (k_ne 15933 62 rfl rfl (by omega) (by omega) (by omega))) ?_
  refine Bod.go dc_401_377 rfl ?_
  refine Bod.sip 15421 (by decide) dc_401_378 ?_
  refine Bod.icT dc_401_381 rfl (k2_ne_T (k_ne 15933 15421 rfl rfl (by omega) (by omega) (by omega))) ?_
  refine Bod.go dc_401_397 rfl ?_
  refine Bod.ifF dc_401_399 rfl w12 ?_
  refine Bod.ic 1 (by decide) dc_401_402 ?_
  refine Bod.go dc_401_403 rfl ?_
  refine Bod.ist dc_401_407 (by rw [ml_401]; exact Nat.le_of_ble_eq_true rfl) ?_
  refine Bod.go dc_401_409 rfl ?_
  refine Bod.go dc_401_420 rfl ?_
  refine Bod.go dc_401_421 rfl ?_
  refine Bod.get dc_401_422 fr_401_493 (mk_61 _) rfl ?_
  refine Bod.eqI (nI t1) (by first | assumption | (simp (disch := omega) only [rI, rIe, rA, rIA, rLA, rJA, rVI, rQI, rVA, rQA, upd_at,  rAI, rLI, rJI, nI_add, pk_sub, kc_0, kc_1, kc_2, kc_3, kc_4, kc_5, reduceIte, Nat.reduceEqDiff, Nat.add_zero, rI_hold, rI_hold, rL_hold, ht, he91, he911, ht1]; done) | (simp (disch := omega) only [rI, rIe, rA, rIA, rLA, rJA, rVI, rQI, rVA, rQA, upd_at,  rAI, rLI, rJI, nI_add, pk_sub, kc_0, kc_1, kc_2, kc_3, kc_4, kc_5, reduceIte, Nat.reduceEqDiff, Nat.add_zero, rI_hold, rI_hold, rL_hold, ht, he91, he911, ht1]; exact congrArg nI (by omega))) ?_
  refine Bod.ic 2 (by decide) dc_401_425 ?_
  refine Bod.subN (t1 - 2) (by omega) (by omega) dc_401_426 ?_
  refine Bod.put dc_401_427 fr_401_493 (mk_61 _) (Nat.le_of_ble_eq_true rfl) pf_14_51 (st_6151 _ _) (mu_I _ _ _) ?_
  refine Bod.go dc_401_430 rfl ?_
  refine Bod.go dc_401_431 rfl ?_
  refine Bod.ifF dc_401_433 rfl (k1_eq_F (k_ne 1 0 rfl rfl (by omega) (by omega) (by omega))) ?_
  refine Bod.go dc_401_436 rfl ?_
  refine Bod.go dc_401_437 rfl ?_
  refine Bod.virt (r := []) dc_401_441 kr_401_613 ⟨Or.inl rfl, ow_353, cl_14⟩ (by rw [np_353]; rfl) (by rw [np_353]; rfl) (ob_of (mk_61 _)) (Nat.le_of_ble_eq_true rfl) (c2  ) ?_
  show Bod _ _ _ _ [] _ _ _
  refine Bod.ic 1 (by decide) dc_401_444 ?_
  exact Bod.retZ dc_401_445 rt_401 (Or.inr rfl)
theorem rBiGE_4 {d : Nat} {S : cS} {t : Nat} {e91 : Nat} {e911 : Nat} {S1 : cS} {rb : Int32} {t1 : Nat} {S2 : cS} (ht : sI S 6151 = nI t) (mt : t < 20481) (b1 : 2 ≤ t) (b2 : 1 ≤ t) (he91 : sA S 91 (t - 2) = nI e91) (me91 : e91 < 2 ^ 20) (he911 : sA S 91 (t - 1) = nI e911) (me911 : e911 < 2 ^ 20) (b3 : e91 = e911) (b4 : e91 ≠ 1) (b5 : e91 = 2) (c1 : Ans (d + 8) 404 [.ref 61, .int (nI (t - 2)), .int (nI (t - 1))] S (some (.int rb)) S1) (w13 : sm_c1 .lt rb true false = true) (ht1 : sI S1 6151 = nI t1) (mt1 : t1 < 20481) (b6 : 2 ≤ t1) (c2 : Ans (d + 8) 353 [.ref 61, .long 0] (wI 6151 (nI (t1 - 2)) S1) none S2) : Bod (d + 8) 401 0 [(0, .ref 61), (1, .int (nI 15933))] [] S (some (.int 1)) (S2) := by
  refine Bod.go dc_401_0 rfl ?_
  refine Bod.get dc_401_1 fr_401_493 (mk_61 _) rfl ?_
  refine Bod.eqI (nI t) (by first | assumption | rfl | exact congrArg nI (by omega) | (simp (disch := omega) only [rI, rIe, rA, rIA, rLA, rJA, rVI, rQI, rVA, rQA, upd_at,  rAI, rLI, rJI, nI_add, pk_sub, kc_0, kc_1, kc_2, kc_3, kc_4, kc_5, reduceIte, Nat.reduceEqDiff, Nat.add_zero, rI_hold, rI_hold, rL_hold, ht]; done)) ?_
  refine Bod.ic 2 (by decide) dc_401_4 ?_
  refine Bod.subN (t - 2) (by omega) (by omega) dc_401_5 ?_
  refine Bod.istn dc_401_6 (by rw [ml_401]; exact Nat.le_of_ble_eq_true rfl) ?_
  refine Bod.go dc_401_7 rfl ?_
  refine Bod.get dc_401_8 fr_401_493 (mk_61 _) rfl ?_
  refine Bod.eqI (nI t) (by first | assumption | rfl | exact congrArg nI (by omega) | (simp (disch := omega) only [rI, rIe, rA, rIA, rLA, rJA, rVI, rQI, rVA, rQA, upd_at,  rAI, rLI, rJI, nI_add, pk_sub, kc_0, kc_1, kc_2, kc_3, kc_4, kc_5, reduceIte, Nat.reduceEqDiff, Nat.add_zero, rI_hold, rI_hold, rL_hold, ht]; done)) ?_
  refine Bod.ic 1 (by decide) dc_401_11 ?_
  refine Bod.subN (t - 1) (by omega) (by omega) dc_401_12 ?_
  refine Bod.istn dc_401_13 (by rw [ml_401]; exact Nat.le_of_ble_eq_true rfl) ?_
  refine Bod.go dc_401_14 rfl ?_
  refine Bod.sw (t := 290) dc_401_15 rfl rfl (by decide +kernel) ?_
  refine Bod.go dc_401_290 rfl ?_
  refine Bod.get dc_401_291 fr_401_496 (mk_61 _) rfl ?_
  refine Bod.go dc_401_294 rfl ?_
  refine Bod.ialdN (t - 2) rfl (by omega) (by omega) dc_401_295 (mk_91 _) ?_
  refine Bod.eqI (nI e91) (by first | assumption | rfl | exact congrArg nI (by omega) | (simp (disch := omega) only [rI, rIe, rA, rIA, rLA, rJA, rVI, rQI, rVA, rQA, upd_at,  rAI, rLI, rJI, nI_add, pk_sub, kc_0, kc_1, kc_2, kc_3, kc_4, kc_5, reduceIte, Nat.reduceEqDiff, Nat.add_zero, rI_hold, rI_hold, rL_hold, ht, he91]; done)) ?_
  refine Bod.go dc_401_296 rfl ?_
  refine Bod.get dc_401_297 fr_401_496 (mk_61 _) rfl ?_
  refine Bod.go dc_401_300 rfl ?_
  refine Bod.ialdN (t - 1) rfl (by omega) (by omega) dc_401_301 (mk_91 _) ?_
  refine Bod.eqI (nI e911) (by first | assumption | rfl | exact congrArg nI (by omega) | (simp (disch := omega) only [rI, rIe, rA, rIA, rLA, rJA, rVI, rQI, rVA, rQA, upd_at,  rAI, rLI, rJI, nI_add, pk_sub, kc_0, kc_1, kc_2, kc_3, kc_4, kc_5, reduceIte, Nat.reduceEqDiff, Nat.add_zero, rI_hold, rI_hold, rL_hold, ht, he91, he911]; done)) ?_
  refine Bod.icF dc_401_302 rfl (k2_ne_F (k_eq e91 e911 rfl rfl (by omega))) ?_
  refine Bod.go dc_401_305 rfl ?_
  refine Bod.get dc_401_306 fr_401_496 (mk_61 _) rfl ?_
  refine Bod.go dc_401_309 rfl ?_
  refine Bod.ialdN (t - 2) rfl (by omega) (by omega) dc_401_310 (mk_91 _) ?_
  refine Bod.eqI (nI e91) (by first | assumption | rfl | exact congrArg nI (by omega) | (simp (disch := omega) only [rI, rIe, rA, rIA, rLA, rJA, rVI, rQI, rVA, rQA, upd_at,  rAI, rLI, rJI, nI_add, pk_sub, kc_0, kc_1, kc_2, kc_3, kc_4, kc_5, reduceIte, Nat.reduceEqDiff, Nat.add_zero, rI_hold, rI_hold, rL_hold, ht, he91, he911]; done)) ?_
  refine Bod.ic 1 (by decide) dc_401_311 ?_
  refine Bod.icF dc_401_312 rfl (k2_eq_F (k_ne e91 1 rfl rfl (by omega) (by omega) (by omega))) ?_
  refine Bod.go dc_401_315 rfl ?_
  refine Bod.get dc_401_316 fr_401_496 (mk_61 _) rfl ?_
  refine Bod.go dc_401_319 rfl ?_
  refine Bod.ialdN (t - 2) rfl (by omega) (by omega) dc_401_320 (mk_91 _) ?_
  refine Bod.eqI (nI e91) (by first | assumption | rfl | exact congrArg nI (by omega) | (simp (disch := omega) only [rI, rIe, rA, rIA, rLA, rJA, rVI, rQI, rVA, rQA, upd_at,  rAI, rLI, rJI, nI_add, pk_sub, kc_0, kc_1, kc_2, kc_3, kc_4, kc_5, reduceIte, Nat.reduceEqDiff, Nat.add_zero, rI_hold, rI_hold, rL_hold, ht, he91, he911]; done)) ?_
  refine Bod.ic 2 (by decide) dc_401_321 ?_
  refine Bod.icT dc_401_322 rfl (k2_eq_T (k_eq e91 2 rfl rfl (by omega))) ?_
  refine Bod.go dc_401_331 rfl ?_
  refine Bod.go dc_401_332 rfl ?_
  refine Bod.go dc_401_333 rfl ?_
  refine Bod.virt (r := []) dc_401_334 kr_401_728 ⟨Or.inl rfl, ow_404, cl_14⟩ (by rw [np_404]; rfl) (by rw [np_404]; rfl) (ob_of (mk_61 _)) (Nat.le_of_ble_eq_true rfl) (c1  ) ?_
  show Bod _ _ _ _ [_] _ _ _
  refine Bod.ist dc_401_337 (by rw [ml_401]; exact Nat.le_of_ble_eq_true rfl) ?_
  refine Bod.go dc_401_339 rfl ?_
  refine Bod.bip 60 (by decide) dc_401_340 ?_
  refine Bod.icT dc_401_342 rfl (k2_ne_T (k_ne 15933 60 rfl rfl (by omega) (by omega) (by omega))) ?_
  refine Bod.go dc_401_358 rfl ?_
  refine Bod.bip 62 (by decide) dc_401_359 ?_
  refine Bod.icT dc_401_361 rfl (k2_ne_T (k_ne 15933 62 rfl rfl (by omega) (by omega) (by omega))) ?_
  refine Bod.go dc_401_377 rfl ?_
  refine Bod.sip 15421 (by decide) dc_401_378 ?_
  refine Bod.icT dc_401_381 rfl (k2_ne_T (k_ne 15933 15421 rfl rfl (by omega) (by omega) (by omega))) ?_
  refine Bod.go dc_401_397 rfl ?_
  refine Bod.ifT dc_401_399 rfl w13 ?_
  refine Bod.ic 0 (by decide) dc_401_406 ?_
  refine Bod.ist dc_401_407 (by rw [ml_401]; exact Nat.le_of_ble_eq_true rfl) ?_
  refine Bod.go dc_401_409 rfl ?_
  refine Bod.go dc_401_420 rfl ?_
  refine Bod.go dc_401_421 rfl ?_
  refine Bod.get dc_401_422 fr_401_493 (mk_61 _) rfl ?_
  refine Bod.eqI (nI t1) (by first | assumption | (simp (disch := omega) only [rI, rIe, rA, rIA, rLA, rJA, rVI, rQI, rVA, rQA, upd_at,  rAI, rLI, rJI, nI_add, pk_sub, kc_0, kc_1, kc_2, kc_3, kc_4, kc_5, reduceIte, Nat.reduceEqDiff, Nat.add_zero, rI_hold, rI_hold, rL_hold, ht, he91, he911, ht1]; done) | (simp (disch := omega) only [rI, rIe, rA, rIA, rLA, rJA, rVI, rQI, rVA, rQA, upd_at,  rAI, rLI, rJI, nI_add, pk_sub, kc_0, kc_1, kc_2, kc_3, kc_4, kc_5, reduceIte, Nat.reduceEqDiff, Nat.add_zero, rI_hold, rI_hold, rL_hold, ht, he91, he911, ht1]; exact congrArg nI (by omega))) ?_
  refine Bod.ic 2 (by decide) dc_401_425 ?_
  refine Bod.subN (t1 - 2) (by omega) (by omega) dc_401_426 ?_
  refine Bod.put dc_401_427 fr_401_493 (mk_61 _) (Nat.le_of_ble_eq_true rfl) pf_14_51 (st_6151 _ _) (mu_I _ _ _) ?_
  refine Bod.go dc_401_430 rfl ?_
  refine Bod.go dc_401_431 rfl ?_
  refine Bod.ifT dc_401_433 rfl (k1_eq_T (k_eq 0 0 rfl rfl (by omega))) ?_
  refine Bod.go dc_401_440 rfl ?_
  refine Bod.virt (r := []) dc_401_441 kr_401_613 ⟨Or.inl rfl, ow_353, cl_14⟩ (by rw [np_353]; rfl) (by rw [np_353]; rfl) (ob_of (mk_61 _)) (Nat.le_of_ble_eq_true rfl) (c2  ) ?_
  show Bod _ _ _ _ [] _ _ _
  refine Bod.ic 1 (by decide) dc_401_444 ?_
  exact Bod.retZ dc_401_445 rt_401 (Or.inr rfl)
theorem rBiGE_5 {d : Nat} {S : cS} {t : Nat} {e91 : Nat} {e911 : Nat} {S1 : cS} {rb : Int32} {t1 : Nat} {S2 : cS} (ht : sI S 6151 = nI t) (mt : t < 20481) (b1 : 2 ≤ t) (b2 : 1 ≤ t) (he91 : sA S 91 (t - 2) = nI e91) (me91 : e91 < 2 ^ 20) (he911 : sA S 91 (t - 1) = nI e911) (me911 : e911 < 2 ^ 20) (b3 : e91 = e911) (b4 : e91 ≠ 1) (b5 : e91 = 2) (c1 : Ans (d + 8) 404 [.ref 61, .int (nI (t - 2)), .int (nI (t - 1))] S (some (.int rb)) S1) (w13 : sm_c1 .lt rb true false = false) (ht1 : sI S1 6151 = nI t1) (mt1 : t1 < 20481) (b6 : 2 ≤ t1) (c2 : Ans (d + 8) 353 [.ref 61, .long 1] (wI 6151 (nI (t1 - 2)) S1) none S2) : Bod (d + 8) 401 0 [(0, .ref 61), (1, .int (nI 15933))] [] S (some (.int 1)) (S2) := by
  refine Bod.go dc_401_0 rfl ?_
  refine Bod.get dc_401_1 fr_401_493 (mk_61 _) rfl ?_
  refine Bod.eqI (nI t) (by first | assumption | rfl | exact congrArg nI (by omega) | (simp (disch := omega) only [rI, rIe, rA, rIA, rLA, rJA, rVI, rQI, rVA, rQA, upd_at,  rAI, rLI, rJI, nI_add, pk_sub, kc_0, kc_1, kc_2, kc_3, kc_4, kc_5, reduceIte, Nat.reduceEqDiff, Nat.add_zero, rI_hold, rI_hold, rL_hold, ht]; done)) ?_
  refine Bod.ic 2 (by decide) dc_401_4 ?_
  refine Bod.subN (t - 2) (by omega) (by omega) dc_401_5 ?_
  refine Bod.istn dc_401_6 (by rw [ml_401]; exact Nat.le_of_ble_eq_true rfl) ?_
  refine Bod.go dc_401_7 rfl ?_
  refine Bod.get dc_401_8 fr_401_493 (mk_61 _) rfl ?_
  refine Bod.eqI (nI t) (by first | assumption | rfl | exact congrArg nI (by omega) | (simp (disch := omega) only [rI, rIe, rA, rIA, rLA, rJA, rVI, rQI, rVA, rQA, upd_at,  rAI, rLI, rJI, nI_add, pk_sub, kc_0, kc_1, kc_2, kc_3, kc_4, kc_5, reduceIte, Nat.reduceEqDiff, Nat.add_zero, rI_hold, rI_hold, rL_hold, ht]; done)) ?_
  refine Bod.ic 1 (by decide) dc_401_11 ?_
  refine Bod.subN (t - 1) (by omega) (by omega) dc_401_12 ?_
  refine Bod.istn dc_401_13 (by rw [ml_401]; exact Nat.le_of_ble_eq_true rfl) ?_
  refine Bod.go dc_401_14 rfl ?_
  refine Bod.sw (t := 290) dc_401_15 rfl rfl (by decide +kernel) ?_
  refine Bod.go dc_401_290 rfl ?_
  refine Bod.get dc_401_291 fr_401_496 (mk_61 _) rfl ?_
  refine Bod.go dc_401_294 rfl ?_
  refine Bod.ialdN (t - 2) rfl (by omega) (by omega) dc_401_295 (mk_91 _) ?_
  refine Bod.eqI (nI e91) (by first | assumption | rfl | exact congrArg nI (by omega) | (simp (disch := omega) only [rI, rIe, rA, rIA, rLA, rJA, rVI, rQI, rVA, rQA, upd_at,  rAI, rLI, rJI, nI_add, pk_sub, kc_0, kc_1, kc_2, kc_3, kc_4, kc_5, reduceIte, Nat.reduceEqDiff, Nat.add_zero, rI_hold, rI_hold, rL_hold, ht, he91]; done)) ?_
  refine Bod.go dc_401_296 rfl ?_
  refine Bod.get dc_401_297 fr_401_496 (mk_61 _) rfl ?_
  refine Bod.go dc_401_300 rfl ?_
  refine Bod.ialdN (t - 1) rfl (by omega) (by omega) dc_401_301 (mk_91 _) ?_
  refine Bod.eqI (nI e911) (by first | assumption | rfl | exact congrArg nI (by omega) | (simp (disch := omega) only [rI, rIe, rA, rIA, rLA, rJA, rVI, rQI, rVA, rQA, upd_at,  rAI, rLI, rJI, nI_add, pk_sub, kc_0, kc_1, kc_2, kc_3, kc_4, kc_5, reduceIte, Nat.reduceEqDiff, Nat.add_zero, rI_hold, rI_hold, rL_hold, ht, he91, he911]; done)) ?_
  refine Bod.icF dc_401_302 rfl (k2_ne_F (k_eq e91 e911 rfl rfl (by omega))) ?_
  refine Bod.go dc_401_305 rfl ?_
  refine Bod.get dc_401_306 fr_401_496 (mk_61 _) rfl ?_
  refine Bod.go dc_401_309 rfl ?_
  refine Bod.ialdN (t - 2) rfl (by omega) (by omega) dc_401_310 (mk_91 _) ?_
  refine Bod.eqI (nI e91) (by first | assumption | rfl | exact congrArg nI (by omega) | (simp (disch := omega) only [rI, rIe, rA, rIA, rLA, rJA, rVI, rQI, rVA, rQA, upd_at,  rAI, rLI, rJI, nI_add, pk_sub, kc_0, kc_1, kc_2, kc_3, kc_4, kc_5, reduceIte, Nat.reduceEqDiff, Nat.add_zero, rI_hold, rI_hold, rL_hold, ht, he91, he911]; done)) ?_
  refine Bod.ic 1 (by decide) dc_401_311 ?_
  refine Bod.icF dc_401_312 rfl (k2_eq_F (k_ne e91 1 rfl rfl (by omega) (by omega) (by omega))) ?_
  refine Bod.go dc_401_315 rfl ?_
  refine Bod.get dc_401_316 fr_401_496 (mk_61 _) rfl ?_
  refine Bod.go dc_401_319 rfl ?_
  refine Bod.ialdN (t - 2) rfl (by omega) (by omega) dc_401_320 (mk_91 _) ?_
  refine Bod.eqI (nI e91) (by first | assumption | rfl | exact congrArg nI (by omega) | (simp (disch := omega) only [rI, rIe, rA, rIA, rLA, rJA, rVI, rQI, rVA, rQA, upd_at,  rAI, rLI, rJI, nI_add, pk_sub, kc_0, kc_1, kc_2, kc_3, kc_4, kc_5, reduceIte, Nat.reduceEqDiff, Nat.add_zero, rI_hold, rI_hold, rL_hold, ht, he91, he911]; done)) ?_
  refine Bod.ic 2 (by decide) dc_401_321 ?_
  refine Bod.icT dc_401_322 rfl (k2_eq_T (k_eq e91 2 rfl rfl (by omega))) ?_
  refine Bod.go dc_401_331 rfl ?_
  refine Bod.go dc_401_332 rfl ?_
  refine Bod.go dc_401_333 rfl ?_
  refine Bod.virt (r := []) dc_401_334 kr_401_728 ⟨Or.inl rfl, ow_404, cl_14⟩ (by rw [np_404]; rfl) (by rw [np_404]; rfl) (ob_of (mk_61 _)) (Nat.le_of_ble_eq_true rfl) (c1  ) ?_
  show Bod _ _ _ _ [_] _ _ _
  refine Bod.ist dc_401_337 (by rw [ml_401]; exact Nat.le_of_ble_eq_true rfl) ?_
  refine Bod.go dc_401_339 rfl ?_
  refine Bod.bip 60 (by decide) dc_401_340 ?_
  refine Bod.icT dc_401_342 rfl (k2_ne_T (k_ne 15933 60 rfl rfl (by omega) (by omega) (by omega))) ?_
  refine Bod.go dc_401_358 rfl ?_
  refine Bod.bip 62 (by decide) dc_401_359 ?_
  refine Bod.icT dc_401_361 rfl (k2_ne_T (k_ne 15933 62 rfl rfl (by omega) (by omega) (by omega))) ?_
  refine Bod.go dc_401_377 rfl ?_
  refine Bod.sip 15421 (by decide) dc_401_378 ?_
  refine Bod.icT dc_401_381 rfl (k2_ne_T (k_ne 15933 15421 rfl rfl (by omega) (by omega) (by omega))) ?_
  refine Bod.go dc_401_397 rfl ?_
  refine Bod.ifF dc_401_399 rfl w13 ?_
  refine Bod.ic 1 (by decide) dc_401_402 ?_
  refine Bod.go dc_401_403 rfl ?_
  refine Bod.ist dc_401_407 (by rw [ml_401]; exact Nat.le_of_ble_eq_true rfl) ?_
  refine Bod.go dc_401_409 rfl ?_
  refine Bod.go dc_401_420 rfl ?_
  refine Bod.go dc_401_421 rfl ?_
  refine Bod.get dc_401_422 fr_401_493 (mk_61 _) rfl ?_
  refine Bod.eqI (nI t1) (by first | assumption | (simp (disch := omega) only [rI, rIe, rA, rIA, rLA, rJA, rVI, rQI, rVA, rQA, upd_at,  rAI, rLI, rJI, nI_add, pk_sub, kc_0, kc_1, kc_2, kc_3, kc_4, kc_5, reduceIte, Nat.reduceEqDiff, Nat.add_zero, rI_hold, rI_hold, rL_hold, ht, he91, he911, ht1]; done) | (simp (disch := omega) only [rI, rIe, rA, rIA, rLA, rJA, rVI, rQI, rVA, rQA, upd_at,  rAI, rLI, rJI, nI_add, pk_sub, kc_0, kc_1, kc_2, kc_3, kc_4, kc_5, reduceIte, Nat.reduceEqDiff, Nat.add_zero, rI_hold, rI_hold, rL_hold, ht, he91, he911, ht1]; exact congrArg nI (by omega))) ?_
  refine Bod.ic 2 (by decide) dc_401_425 ?_
  refine Bod.subN (t1 - 2) (by omega) (by omega) dc_401_426 ?_
  refine Bod.put dc_401_427 fr_401_493 (mk_61 _) (Nat.le_of_ble_eq_true rfl) pf_14_51 (st_6151 _ _) (mu_I _ _ _) ?_
  refine Bod.go dc_401_430 rfl ?_
  refine Bod.go dc_401_431 rfl ?_
  refine Bod.ifF dc_401_433 rfl (k1_eq_F (k_ne 1 0 rfl rfl (by omega) (by omega) (by omega))) ?_
  refine Bod.go dc_401_436 rfl ?_
  refine Bod.go dc_401_437 rfl ?_
  refine Bod.virt (r := []) dc_401_441 kr_401_613 ⟨Or.inl rfl, ow_353, cl_14⟩ (by rw [np_353]; rfl) (by rw [np_353]; rfl) (ob_of (mk_61 _)) (Nat.le_of_ble_eq_true rfl) (c2  ) ?_
  show Bod _ _ _ _ [] _ _ _
  refine Bod.ic 1 (by decide) dc_401_444 ?_
  exact Bod.retZ dc_401_445 rt_401 (Or.inr rfl)
theorem rBiGE_6 {d : Nat} {S : cS} {t : Nat} {e91 : Nat} {e911 : Nat} {S1 : cS} (ht : sI S 6151 = nI t) (mt : t < 20481) (b1 : 2 ≤ t) (b2 : 1 ≤ t) (he91 : sA S 91 (t - 2) = nI e91) (me91 : e91 < 2 ^ 20) (he911 : sA S 91 (t - 1) = nI e911) (me911 : e911 < 2 ^ 20) (b3 : e91 = e911) (b4 : e91 ≠ 1) (b5 : e91 ≠ 2) (c1 : Ans (d + 8) 351 [.ref 61, .int (nI 2)] S (some (.int (nI 0))) S1) : Bod (d + 8) 401 0 [(0, .ref 61), (1, .int (nI 15933))] [] S (some (.int 0)) (S1) := by
  refine Bod.go dc_401_0 rfl ?_
  refine Bod.get dc_401_1 fr_401_493 (mk_61 _) rfl ?_
  refine Bod.eqI (nI t) (by first | assumption | rfl | exact congrArg nI (by omega) | (simp (disch := omega) only [rI, rIe, rA, rIA, rLA, rJA, rVI, rQI, rVA, rQA, upd_at,  rAI, rLI, rJI, nI_add, pk_sub, kc_0, kc_1, kc_2, kc_3, kc_4, kc_5, reduceIte, Nat.reduceEqDiff, Nat.add_zero, rI_hold, rI_hold, rL_hold, ht]; done)) ?_
  refine Bod.ic 2 (by decide) dc_401_4 ?_
  refine Bod.subN (t - 2) (by omega) (by omega) dc_401_5 ?_
  refine Bod.istn dc_401_6 (by rw [ml_401]; exact Nat.le_of_ble_eq_true rfl) ?_
  refine Bod.go dc_401_7 rfl ?_
  refine Bod.get dc_401_8 fr_401_493 (mk_61 _) rfl ?_
  refine Bod.eqI (nI t) (by first | assumption | rfl | exact congrArg nI (by omega) | (simp (disch := omega) only [rI, rIe, rA, rIA, rLA, rJA, rVI, rQI, rVA, rQA, upd_at,  rAI, rLI, rJI, nI_add, pk_sub, kc_0, kc_1, kc_2, kc_3, kc_4, kc_5, reduceIte, Nat.reduceEqDiff, Nat.add_zero, rI_hold, rI_hold, rL_hold, ht]; done)) ?_
  refine Bod.ic 1 (by decide) dc_401_11 ?_
  refine Bod.subN (t - 1) (by omega) (by omega) dc_401_12 ?_
  refine Bod.istn dc_401_13 (by rw [ml_401]; exact Nat.le_of_ble_eq_true rfl) ?_
  refine Bod.go dc_401_14 rfl ?_
  refine Bod.sw (t := 290) dc_401_15 rfl rfl (by decide +kernel) ?_
  refine Bod.go dc_401_290 rfl ?_
  refine Bod.get dc_401_291 fr_401_496 (mk_61 _) rfl ?_
  refine Bod.go dc_401_294 rfl ?_
  refine Bod.ialdN (t - 2) rfl (by omega) (by omega) dc_401_295 (mk_91 _) ?_
  refine Bod.eqI (nI e91) (by first | assumption | rfl | exact congrArg nI (by omega) | (simp (disch := omega) only [rI, rIe, rA, rIA, rLA, rJA, rVI, rQI, rVA, rQA, upd_at,  rAI, rLI, rJI, nI_add, pk_sub, kc_0, kc_1, kc_2, kc_3, kc_4, kc_5, reduceIte, Nat.reduceEqDiff, Nat.add_zero, rI_hold, rI_hold, rL_hold, ht, he91]; done)) ?_
  refine Bod.go dc_401_296 rfl ?_
  refine Bod.get dc_401_297 fr_401_496 (mk_61 _) rfl ?_
  refine Bod.go dc_401_300 rfl ?_
  refine Bod.ialdN (t - 1) rfl (by omega) (by omega) dc_401_301 (mk_91 _) ?_
  refine Bod.eqI (nI e911) (by first | assumption | rfl | exact congrArg nI (by omega) | (simp (disch := omega) only [rI, rIe, rA, rIA, rLA, rJA, rVI, rQI, rVA, rQA, upd_at,  rAI, rLI, rJI, nI_add, pk_sub, kc_0, kc_1, kc_2, kc_3, kc_4, kc_5, reduceIte, Nat.reduceEqDiff, Nat.add_zero, rI_hold, rI_hold, rL_hold, ht, he91, he911]; done)) ?_
  refine Bod.icF dc_401_302 rfl (k2_ne_F (k_eq e91 e911 rfl rfl (by omega))) ?_
  refine Bod.go dc_401_305 rfl ?_
  refine Bod.get dc_401_306 fr_401_496 (mk_61 _) rfl ?_
  refine Bod.go dc_401_309 rfl ?_
  refine Bod.ialdN (t - 2) rfl (by omega) (by omega) dc_401_310 (mk_91 _) ?_
  refine Bod.eqI (nI e91) (by first | assumption | rfl | exact congrArg nI (by omega) | (simp (disch := omega) only [rI, rIe, rA, rIA, rLA, rJA, rVI, rQI, rVA, rQA, upd_at,  rAI, rLI, rJI, nI_add, pk_sub, kc_0, kc_1, kc_2, kc_3, kc_4, kc_5, reduceIte, Nat.reduceEqDiff, Nat.add_zero, rI_hold, rI_hold, rL_hold, ht, he91, he911]; done)) ?_
  refine Bod.ic 1 (by decide) dc_401_311 ?_
  refine Bod.icF dc_401_312 rfl (k2_eq_F (k_ne e91 1 rfl rfl (by omega) (by omega) (by omega))) ?_
  refine Bod.go dc_401_315 rfl ?_
  refine Bod.get dc_401_316 fr_401_496 (mk_61 _) rfl ?_
  refine Bod.go dc_401_319 rfl ?_
  refine Bod.ialdN (t - 2) rfl (by omega) (by omega) dc_401_320 (mk_91 _) ?_
  refine Bod.eqI (nI e91) (by first | assumption | rfl | exact congrArg nI (by omega) | (simp (disch := omega) only [rI, rIe, rA, rIA, rLA, rJA, rVI, rQI, rVA, rQA, upd_at,  rAI, rLI, rJI, nI_add, pk_sub, kc_0, kc_1, kc_2, kc_3, kc_4, kc_5, reduceIte, Nat.reduceEqDiff, Nat.add_zero, rI_hold, rI_hold, rL_hold, ht, he91, he911]; done)) ?_
  refine Bod.ic 2 (by decide) dc_401_321 ?_
  refine Bod.icF dc_401_322 rfl (k2_eq_F (k_ne e91 2 rfl rfl (by omega) (by omega) (by omega))) ?_
  refine Bod.go dc_401_325 rfl ?_
  refine Bod.ic 2 (by decide) dc_401_326 ?_
  refine Bod.virt (r := []) dc_401_327 kr_401_608 ⟨Or.inl rfl, ow_351, cl_14⟩ (by rw [np_351]; rfl) (by rw [np_351]; rfl) (ob_of (mk_61 _)) (Nat.le_of_ble_eq_true rfl) (c1  ) ?_
  show Bod _ _ _ _ [_] _ _ _
  exact Bod.retZ dc_401_330 rt_401 (Or.inl rfl)
theorem rBiA_1 {d : Nat} {S : cS} {t : Nat} {S1 : cS} (ht : sI S 6151 = nI t) (mt : t < 20481) (b1 : 2 ≤ t) (b2 : 1 ≤ t) (c1 : Ans (d + 8) 405 [.ref 61, .int (nI 43), .int (nI (t - 2)), .int (nI (t - 1))] S (some (.int (nI 1))) S1) : Bod (d + 8) 401 0 [(0, .ref 61), (1, .int (nI 43))] [] S (some (.int 1)) (S1) := by
  refine Bod.go dc_401_0 rfl ?_
  refine Bod.get dc_401_1 fr_401_493 (mk_61 _) rfl ?_
  refine Bod.eqI (nI t) (by first | assumption | rfl | exact congrArg nI (by omega) | (simp (disch := omega) only [rI, rIe, rA, rIA, rLA, rJA, rVI, rQI, rVA, rQA, upd_at,  rAI, rLI, rJI, nI_add, pk_sub, kc_0, kc_1, kc_2, kc_3, kc_4, kc_5, reduceIte, Nat.reduceEqDiff, Nat.add_zero, rI_hold, rI_hold, rL_hold, ht]; done)) ?_
  refine Bod.ic 2 (by decide) dc_401_4 ?_
  refine Bod.subN (t - 2) (by omega) (by omega) dc_401_5 ?_
  refine Bod.istn dc_401_6 (by rw [ml_401]; exact Nat.le_of_ble_eq_true rfl) ?_
  refine Bod.go dc_401_7 rfl ?_
  refine Bod.get dc_401_8 fr_401_493 (mk_61 _) rfl ?_
  refine Bod.eqI (nI t) (by first | assumption | rfl | exact congrArg nI (by omega) | (simp (disch := omega) only [rI, rIe, rA, rIA, rLA, rJA, rVI, rQI, rVA, rQA, upd_at,  rAI, rLI, rJI, nI_add, pk_sub, kc_0, kc_1, kc_2, kc_3, kc_4, kc_5, reduceIte, Nat.reduceEqDiff, Nat.add_zero, rI_hold, rI_hold, rL_hold, ht]; done)) ?_
  refine Bod.ic 1 (by decide) dc_401_11 ?_
  refine Bod.subN (t - 1) (by omega) (by omega) dc_401_12 ?_
  refine Bod.istn dc_401_13 (by rw [ml_401]; exact Nat.le_of_ble_eq_true rfl) ?_
  refine Bod.go dc_401_14 rfl ?_
  refine Bod.sw (t := 412) dc_401_15 rfl rfl (by decide +kernel) ?_
  refine Bod.go dc_401_412 rfl ?_
  refine Bod.go dc_401_413 rfl ?_
  refine Bod.go dc_401_414 rfl ?_
  refine Bod.go dc_401_415 rfl ?_
  refine Bod.virt (r := []) dc_401_416 kr_401_731 ⟨Or.inl rfl, ow_405, cl_14⟩ (by rw [np_405]; rfl) (by rw [np_405]; rfl) (ob_of (mk_61 _)) (Nat.le_of_ble_eq_true rfl) (c1  ) ?_
  show Bod _ _ _ _ [_] _ _ _
  exact Bod.retZ dc_401_419 rt_401 (Or.inr rfl)
theorem rBiA_2 {d : Nat} {S : cS} {t : Nat} {S1 : cS} (ht : sI S 6151 = nI t) (mt : t < 20481) (b1 : 2 ≤ t) (b2 : 1 ≤ t) (c1 : Ans (d + 8) 405 [.ref 61, .int (nI 43), .int (nI (t - 2)), .int (nI (t - 1))] S (some (.int (nI 0))) S1) : Bod (d + 8) 401 0 [(0, .ref 61), (1, .int (nI 43))] [] S (some (.int 0)) (S1) := by
  refine Bod.go dc_401_0 rfl ?_
  refine Bod.get dc_401_1 fr_401_493 (mk_61 _) rfl ?_
  refine Bod.eqI (nI t) (by first | assumption | rfl | exact congrArg nI (by omega) | (simp (disch := omega) only [rI, rIe, rA, rIA, rLA, rJA, rVI, rQI, rVA, rQA, upd_at,  rAI, rLI, rJI, nI_add, pk_sub, kc_0, kc_1, kc_2, kc_3, kc_4, kc_5, reduceIte, Nat.reduceEqDiff, Nat.add_zero, rI_hold, rI_hold, rL_hold, ht]; done)) ?_
  refine Bod.ic 2 (by decide) dc_401_4 ?_
  refine Bod.subN (t - 2) (by omega) (by omega) dc_401_5 ?_
  refine Bod.istn dc_401_6 (by rw [ml_401]; exact Nat.le_of_ble_eq_true rfl) ?_
  refine Bod.go dc_401_7 rfl ?_
  refine Bod.get dc_401_8 fr_401_493 (mk_61 _) rfl ?_
  refine Bod.eqI (nI t) (by first | assumption | rfl | exact congrArg nI (by omega) | (simp (disch := omega) only [rI, rIe, rA, rIA, rLA, rJA, rVI, rQI, rVA, rQA, upd_at,  rAI, rLI, rJI, nI_add, pk_sub, kc_0, kc_1, kc_2, kc_3, kc_4, kc_5, reduceIte, Nat.reduceEqDiff, Nat.add_zero, rI_hold, rI_hold, rL_hold, ht]; done)) ?_
  refine Bod.ic 1 (by decide) dc_401_11 ?_
  refine Bod.subN (t - 1) (by omega) (by omega) dc_401_12 ?_
  refine Bod.istn dc_401_13 (by rw [ml_401]; exact Nat.le_of_ble_eq_true rfl) ?_
  refine Bod.go dc_401_14 rfl ?_
  refine Bod.sw (t := 412) dc_401_15 rfl rfl (by decide +kernel) ?_
  refine Bod.go dc_401_412 rfl ?_
  refine Bod.go dc_401_413 rfl ?_
  refine Bod.go dc_401_414 rfl ?_
  refine Bod.go dc_401_415 rfl ?_
  refine Bod.virt (r := []) dc_401_416 kr_401_731 ⟨Or.inl rfl, ow_405, cl_14⟩ (by rw [np_405]; rfl) (by rw [np_405]; rfl) (ob_of (mk_61 _)) (Nat.le_of_ble_eq_true rfl) (c1  ) ?_
  show Bod _ _ _ _ [_] _ _ _
  exact Bod.retZ dc_401_419 rt_401 (Or.inl rfl)
theorem rBiS_1 {d : Nat} {S : cS} {t : Nat} {S1 : cS} (ht : sI S 6151 = nI t) (mt : t < 20481) (b1 : 2 ≤ t) (b2 : 1 ≤ t) (c1 : Ans (d + 8) 405 [.ref 61, .int (nI 45), .int (nI (t - 2)), .int (nI (t - 1))] S (some (.int (nI 1))) S1) : Bod (d + 8) 401 0 [(0, .ref 61), (1, .int (nI 45))] [] S (some (.int 1)) (S1) := by
  refine Bod.go dc_401_0 rfl ?_
  refine Bod.get dc_401_1 fr_401_493 (mk_61 _) rfl ?_
  refine Bod.eqI (nI t) (by first | assumption | rfl | exact congrArg nI (by omega) | (simp (disch := omega) only [rI, rIe, rA, rIA, rLA, rJA, rVI, rQI, rVA, rQA, upd_at,  rAI, rLI, rJI, nI_add, pk_sub, kc_0, kc_1, kc_2, kc_3, kc_4, kc_5, reduceIte, Nat.reduceEqDiff, Nat.add_zero, rI_hold, rI_hold, rL_hold, ht]; done)) ?_
  refine Bod.ic 2 (by decide) dc_401_4 ?_
  refine Bod.subN (t - 2) (by omega) (by omega) dc_401_5 ?_
  refine Bod.istn dc_401_6 (by rw [ml_401]; exact Nat.le_of_ble_eq_true rfl) ?_
  refine Bod.go dc_401_7 rfl ?_
  refine Bod.get dc_401_8 fr_401_493 (mk_61 _) rfl ?_
  refine Bod.eqI (nI t) (by first | assumption | rfl | exact congrArg nI (by omega) | (simp (disch := omega) only [rI, rIe, rA, rIA, rLA, rJA, rVI, rQI, rVA, rQA, upd_at,  rAI, rLI, rJI, nI_add, pk_sub, kc_0, kc_1, kc_2, kc_3, kc_4, kc_5, reduceIte, Nat.reduceEqDiff, Nat.add_zero, rI_hold, rI_hold, rL_hold, ht]; done)) ?_
  refine Bod.ic 1 (by decide) dc_401_11 ?_
  refine Bod.subN (t - 1) (by omega) (by omega) dc_401_12 ?_
  refine Bod.istn dc_401_13 (by rw [ml_401]; exact Nat.le_of_ble_eq_true rfl) ?_
  refine Bod.go dc_401_14 rfl ?_
  refine Bod.sw (t := 412) dc_401_15 rfl rfl (by decide +kernel) ?_
  refine Bod.go dc_401_412 rfl ?_
  refine Bod.go dc_401_413 rfl ?_
  refine Bod.go dc_401_414 rfl ?_
  refine Bod.go dc_401_415 rfl ?_
  refine Bod.virt (r := []) dc_401_416 kr_401_731 ⟨Or.inl rfl, ow_405, cl_14⟩ (by rw [np_405]; rfl) (by rw [np_405]; rfl) (ob_of (mk_61 _)) (Nat.le_of_ble_eq_true rfl) (c1  ) ?_
  show Bod _ _ _ _ [_] _ _ _
  exact Bod.retZ dc_401_419 rt_401 (Or.inr rfl)
theorem rBiS_2 {d : Nat} {S : cS} {t : Nat} {S1 : cS} (ht : sI S 6151 = nI t) (mt : t < 20481) (b1 : 2 ≤ t) (b2 : 1 ≤ t) (c1 : Ans (d + 8) 405 [.ref 61, .int (nI 45), .int (nI (t - 2)), .int (nI (t - 1))] S (some (.int (nI 0))) S1) : Bod (d + 8) 401 0 [(0, .ref 61), (1, .int (nI 45))] [] S (some (.int 0)) (S1) := by
  refine Bod.go dc_401_0 rfl ?_
  refine Bod.get dc_401_1 fr_401_493 (mk_61 _) rfl ?_
  refine Bod.eqI (nI t) (by first | assumption | rfl | exact congrArg nI (by omega) | (simp (disch := omega) only [rI, rIe, rA, rIA, rLA, rJA, rVI, rQI, rVA, rQA, upd_at,  rAI, rLI, rJI, nI_add, pk_sub, kc_0, kc_1, kc_2, kc_3, kc_4, kc_5, reduceIte, Nat.reduceEqDiff, Nat.add_zero, rI_hold, rI_hold, rL_hold, ht]; done)) ?_
  refine Bod.ic 2 (by decide) dc_401_4 ?_
  refine Bod.subN (t - 2) (by omega) (by omega) dc_401_5 ?_
  refine Bod.istn dc_401_6 (by rw [ml_401]; exact Nat.le_of_ble_eq_true rfl) ?_
  refine Bod.go dc_401_7 rfl ?_
  refine Bod.get dc_401_8 fr_401_493 (mk_61 _) rfl ?_
  refine Bod.eqI (nI t) (by first | assumption | rfl | exact congrArg nI (by omega) | (simp (disch := omega) only [rI, rIe, rA, rIA, rLA, rJA, rVI, rQI, rVA, rQA, upd_at,  rAI, rLI, rJI, nI_add, pk_sub, kc_0, kc_1, kc_2, kc_3, kc_4, kc_5, reduceIte, Nat.reduceEqDiff, Nat.add_zero, rI_hold, rI_hold, rL_hold, ht]; done)) ?_
  refine Bod.ic 1 (by decide) dc_401_11 ?_
  refine Bod.subN (t - 1) (by omega) (by omega) dc_401_12 ?_
  refine Bod.istn dc_401_13 (by rw [ml_401]; exact Nat.le_of_ble_eq_true rfl) ?_
  refine Bod.go dc_401_14 rfl ?_
  refine Bod.sw (t := 412) dc_401_15 rfl rfl (by decide +kernel) ?_
  refine Bod.go dc_401_412 rfl ?_
  refine Bod.go dc_401_413 rfl ?_
  refine Bod.go dc_401_414 rfl ?_
  refine Bod.go dc_401_415 rfl ?_
  refine Bod.virt (r := []) dc_401_416 kr_401_731 ⟨Or.inl rfl, ow_405, cl_14⟩ (by rw [np_405]; rfl) (by rw [np_405]; rfl) (ob_of (mk_61 _)) (Nat.le_of_ble_eq_true rfl) (c1  ) ?_
  show Bod _ _ _ _ [_] _ _ _
  exact Bod.retZ dc_401_419 rt_401 (Or.inl rfl)
theorem rBiM_1 {d : Nat} {S : cS} {t : Nat} {S1 : cS} (ht : sI S 6151 = nI t) (mt : t < 20481) (b1 : 2 ≤ t) (b2 : 1 ≤ t) (c1 : Ans (d + 8) 405 [.ref 61, .int (nI 42), .int (nI (t - 2)), .int (nI (t - 1))] S (some (.int (nI 1))) S1) : Bod (d + 8) 401 0 [(0, .ref 61), (1, .int (nI 42))] [] S (some (.int 1)) (S1) := by
  refine Bod.go dc_401_0 rfl ?_
  refine Bod.get dc_401_1 fr_401_493 (mk_61 _) rfl ?_
  refine Bod.eqI (nI t) (by first | assumption | rfl | exact congrArg nI (by omega) | (simp (disch := omega) only [rI, rIe, rA, rIA, rLA, rJA, rVI, rQI, rVA, rQA, upd_at,  rAI, rLI, rJI, nI_add, pk_sub, kc_0, kc_1, kc_2, kc_3, kc_4, kc_5, reduceIte, Nat.reduceEqDiff, Nat.add_zero, rI_hold, rI_hold, rL_hold, ht]; done)) ?_
  refine Bod.ic 2 (by decide) dc_401_4 ?_
  refine Bod.subN (t - 2) (by omega) (by omega) dc_401_5 ?_
  refine Bod.istn dc_401_6 (by rw [ml_401]; exact Nat.le_of_ble_eq_true rfl) ?_
  refine Bod.go dc_401_7 rfl ?_
  refine Bod.get dc_401_8 fr_401_493 (mk_61 _) rfl ?_
  refine Bod.eqI (nI t) (by first | assumption | rfl | exact congrArg nI (by omega) | (simp (disch := omega) only [rI, rIe, rA, rIA, rLA, rJA, rVI, rQI, rVA, rQA, upd_at,  rAI, rLI, rJI, nI_add, pk_sub, kc_0, kc_1, kc_2, kc_3, kc_4, kc_5, reduceIte, Nat.reduceEqDiff, Nat.add_zero, rI_hold, rI_hold, rL_hold, ht]; done)) ?_
  refine Bod.ic 1 (by decide) dc_401_11 ?_
  refine Bod.subN (t - 1) (by omega) (by omega) dc_401_12 ?_
  refine Bod.istn dc_401_13 (by rw [ml_401]; exact Nat.le_of_ble_eq_true rfl) ?_
  refine Bod.go dc_401_14 rfl ?_
  refine Bod.sw (t := 412) dc_401_15 rfl rfl (by decide +kernel) ?_
  refine Bod.go dc_401_412 rfl ?_
  refine Bod.go dc_401_413 rfl ?_
  refine Bod.go dc_401_414 rfl ?_
  refine Bod.go dc_401_415 rfl ?_
  refine Bod.virt (r := []) dc_401_416 kr_401_731 ⟨Or.inl rfl, ow_405, cl_14⟩ (by rw [np_405]; rfl) (by rw [np_405]; rfl) (ob_of (mk_61 _)) (Nat.le_of_ble_eq_true rfl) (c1  ) ?_
  show Bod _ _ _ _ [_] _ _ _
  exact Bod.retZ dc_401_419 rt_401 (Or.inr rfl)
theorem rBiM_2 {d : Nat} {S : cS} {t : Nat} {S1 : cS} (ht : sI S 6151 = nI t) (mt : t < 20481) (b1 : 2 ≤ t) (b2 : 1 ≤ t) (c1 : Ans (d + 8) 405 [.ref 61, .int (nI 42), .int (nI (t - 2)), .int (nI (t - 1))] S (some (.int (nI 0))) S1) : Bod (d + 8) 401 0 [(0, .ref 61), (1, .int (nI 42))] [] S (some (.int 0)) (S1) := by
  refine Bod.go dc_401_0 rfl ?_
  refine Bod.get dc_401_1 fr_401_493 (mk_61 _) rfl ?_
  refine Bod.eqI (nI t) (by first | assumption | rfl | exact congrArg nI (by omega) | (simp (disch := omega) only [rI, rIe, rA, rIA, rLA, rJA, rVI, rQI, rVA, rQA, upd_at,  rAI, rLI, rJI, nI_add, pk_sub, kc_0, kc_1, kc_2, kc_3, kc_4, kc_5, reduceIte, Nat.reduceEqDiff, Nat.add_zero, rI_hold, rI_hold, rL_hold, ht]; done)) ?_
  refine Bod.ic 2 (by decide) dc_401_4 ?_
  refine Bod.subN (t - 2) (by omega) (by omega) dc_401_5 ?_
  refine Bod.istn dc_401_6 (by rw [ml_401]; exact Nat.le_of_ble_eq_true rfl) ?_
  refine Bod.go dc_401_7 rfl ?_
  refine Bod.get dc_401_8 fr_401_493 (mk_61 _) rfl ?_
  refine Bod.eqI (nI t) (by first | assumption | rfl | exact congrArg nI (by omega) | (simp (disch := omega) only [rI, rIe, rA, rIA, rLA, rJA, rVI, rQI, rVA, rQA, upd_at,  rAI, rLI, rJI, nI_add, pk_sub, kc_0, kc_1, kc_2, kc_3, kc_4, kc_5, reduceIte, Nat.reduceEqDiff, Nat.add_zero, rI_hold, rI_hold, rL_hold, ht]; done)) ?_
  refine Bod.ic 1 (by decide) dc_401_11 ?_
  refine Bod.subN (t - 1) (by omega) (by omega) dc_401_12 ?_
  refine Bod.istn dc_401_13 (by rw [ml_401]; exact Nat.le_of_ble_eq_true rfl) ?_
  refine Bod.go dc_401_14 rfl ?_
  refine Bod.sw (t := 412) dc_401_15 rfl rfl (by decide +kernel) ?_
  refine Bod.go dc_401_412 rfl ?_
  refine Bod.go dc_401_413 rfl ?_
  refine Bod.go dc_401_414 rfl ?_
  refine Bod.go dc_401_415 rfl ?_
  refine Bod.virt (r := []) dc_401_416 kr_401_731 ⟨Or.inl rfl, ow_405, cl_14⟩ (by rw [np_405]; rfl) (by rw [np_405]; rfl) (ob_of (mk_61 _)) (Nat.le_of_ble_eq_true rfl) (c1  ) ?_
  show Bod _ _ _ _ [_] _ _ _
  exact Bod.retZ dc_401_419 rt_401 (Or.inl rfl)
theorem rBiR_1 {d : Nat} {S : cS} {t : Nat} {S1 : cS} (ht : sI S 6151 = nI t) (mt : t < 20481) (b1 : 2 ≤ t) (b2 : 1 ≤ t) (c1 : Ans (d + 8) 405 [.ref 61, .int (nI 37), .int (nI (t - 2)), .int (nI (t - 1))] S (some (.int (nI 1))) S1) : Bod (d + 8) 401 0 [(0, .ref 61), (1, .int (nI 37))] [] S (some (.int 1)) (S1) := by
  refine Bod.go dc_401_0 rfl ?_
  refine Bod.get dc_401_1 fr_401_493 (mk_61 _) rfl ?_
  refine Bod.eqI (nI t) (by first | assumption | rfl | exact congrArg nI (by omega) | (simp (disch := omega) only [rI, rIe, rA, rIA, rLA, rJA, rVI, rQI, rVA, rQA, upd_at,  rAI, rLI, rJI, nI_add, pk_sub, kc_0, kc_1, kc_2, kc_3, kc_4, kc_5, reduceIte, Nat.reduceEqDiff, Nat.add_zero, rI_hold, rI_hold, rL_hold, ht]; done)) ?_
  refine Bod.ic 2 (by decide) dc_401_4 ?_
  refine Bod.subN (t - 2) (by omega) (by omega) dc_401_5 ?_
  refine Bod.istn dc_401_6 (by rw [ml_401]; exact Nat.le_of_ble_eq_true rfl) ?_
  refine Bod.go dc_401_7 rfl ?_
  refine Bod.get dc_401_8 fr_401_493 (mk_61 _) rfl ?_
  refine Bod.eqI (nI t) (by first | assumption | rfl | exact congrArg nI (by omega) | (simp (disch := omega) only [rI, rIe, rA, rIA, rLA, rJA, rVI, rQI, rVA, rQA, upd_at,  rAI, rLI, rJI, nI_add, pk_sub, kc_0, kc_1, kc_2, kc_3, kc_4, kc_5, reduceIte, Nat.reduceEqDiff, Nat.add_zero, rI_hold, rI_hold, rL_hold, ht]; done)) ?_
  refine Bod.ic 1 (by decide) dc_401_11 ?_
  refine Bod.subN (t - 1) (by omega) (by omega) dc_401_12 ?_
  refine Bod.istn dc_401_13 (by rw [ml_401]; exact Nat.le_of_ble_eq_true rfl) ?_
  refine Bod.go dc_401_14 rfl ?_
  refine Bod.sw (t := 412) dc_401_15 rfl rfl (by decide +kernel) ?_
  refine Bod.go dc_401_412 rfl ?_
  refine Bod.go dc_401_413 rfl ?_
  refine Bod.go dc_401_414 rfl ?_
  refine Bod.go dc_401_415 rfl ?_
  refine Bod.virt (r := []) dc_401_416 kr_401_731 ⟨Or.inl rfl, ow_405, cl_14⟩ (by rw [np_405]; rfl) (by rw [np_405]; rfl) (ob_of (mk_61 _)) (Nat.le_of_ble_eq_true rfl) (c1  ) ?_
  show Bod _ _ _ _ [_] _ _ _
  exact Bod.retZ dc_401_419 rt_401 (Or.inr rfl)
theorem rBiR_2 {d : Nat} {S : cS} {t : Nat} {S1 : cS} (ht : sI S 6151 = nI t) (mt : t < 20481) (b1 : 2 ≤ t) (b2 : 1 ≤ t) (c1 : Ans (d + 8) 405 [.ref 61, .int (nI 37), .int (nI (t - 2)), .int (nI (t - 1))] S (some (.int (nI 0))) S1) : Bod (d + 8) 401 0 [(0, .ref 61), (1, .int (nI 37))] [] S (some (.int 0)) (S1) := by
  refine Bod.go dc_401_0 rfl ?_
  refine Bod.get dc_401_1 fr_401_493 (mk_61 _) rfl ?_
  refine Bod.eqI (nI t) (by first | assumption | rfl | exact congrArg nI (by omega) | (simp (disch := omega) only [rI, rIe, rA, rIA, rLA, rJA, rVI, rQI, rVA, rQA, upd_at,  rAI, rLI, rJI, nI_add, pk_sub, kc_0, kc_1, kc_2, kc_3, kc_4, kc_5, reduceIte, Nat.reduceEqDiff, Nat.add_zero, rI_hold, rI_hold, rL_hold, ht]; done)) ?_
  refine Bod.ic 2 (by decide) dc_401_4 ?_
  refine Bod.subN (t - 2) (by omega) (by omega) dc_401_5 ?_
  refine Bod.istn dc_401_6 (by rw [ml_401]; exact Nat.le_of_ble_eq_true rfl) ?_
  refine Bod.go dc_401_7 rfl ?_
  refine Bod.get dc_401_8 fr_401_493 (mk_61 _) rfl ?_
  refine Bod.eqI (nI t) (by first | assumption | rfl | exact congrArg nI (by omega) | (simp (disch := omega) only [rI, rIe, rA, rIA, rLA, rJA, rVI, rQI, rVA, rQA, upd_at,  rAI, rLI, rJI, nI_add, pk_sub, kc_0, kc_1, kc_2, kc_3, kc_4, kc_5, reduceIte, Nat.reduceEqDiff, Nat.add_zero, rI_hold, rI_hold, rL_hold, ht]; done)) ?_
  refine Bod.ic 1 (by decide) dc_401_11 ?_
  refine Bod.subN (t - 1) (by omega) (by omega) dc_401_12 ?_
  refine Bod.istn dc_401_13 (by rw [ml_401]; exact Nat.le_of_ble_eq_true rfl) ?_
  refine Bod.go dc_401_14 rfl ?_
  refine Bod.sw (t := 412) dc_401_15 rfl rfl (by decide +kernel) ?_
  refine Bod.go dc_401_412 rfl ?_
  refine Bod.go dc_401_413 rfl ?_
  refine Bod.go dc_401_414 rfl ?_
  refine Bod.go dc_401_415 rfl ?_
  refine Bod.virt (r := []) dc_401_416 kr_401_731 ⟨Or.inl rfl, ow_405, cl_14⟩ (by rw [np_405]; rfl) (by rw [np_405]; rfl) (ob_of (mk_61 _)) (Nat.le_of_ble_eq_true rfl) (c1  ) ?_
  show Bod _ _ _ _ [_] _ _ _
  exact Bod.retZ dc_401_419 rt_401 (Or.inl rfl)
theorem rBiD_1 {d : Nat} {S : cS} {t : Nat} {S1 : cS} (ht : sI S 6151 = nI t) (mt : t < 20481) (b1 : 2 ≤ t) (b2 : 1 ≤ t) (c1 : Ans (d + 8) 405 [.ref 61, .int (nI 12079), .int (nI (t - 2)), .int (nI (t - 1))] S (some (.int (nI 1))) S1) : Bod (d + 8) 401 0 [(0, .ref 61), (1, .int (nI 12079))] [] S (some (.int 1)) (S1) := by
  refine Bod.go dc_401_0 rfl ?_
  refine Bod.get dc_401_1 fr_401_493 (mk_61 _) rfl ?_
  refine Bod.eqI (nI t) (by first | assumption | rfl | exact congrArg nI (by omega) | (simp (disch := omega) only [rI, rIe, rA, rIA, rLA, rJA, rVI, rQI, rVA, rQA, upd_at,  rAI, rLI, rJI, nI_add, pk_sub, kc_0, kc_1, kc_2, kc_3, kc_4, kc_5, reduceIte, Nat.reduceEqDiff, Nat.add_zero, rI_hold, rI_hold, rL_hold, ht]; done)) ?_
  refine Bod.ic 2 (by decide) dc_401_4 ?_
  refine Bod.subN (t - 2) (by omega) (by omega) dc_401_5 ?_
  refine Bod.istn dc_401_6 (by rw [ml_401]; exact Nat.le_of_ble_eq_true rfl) ?_
  refine Bod.go dc_401_7 rfl ?_
  refine Bod.get dc_401_8 fr_401_493 (mk_61 _) rfl ?_
  refine Bod.eqI (nI t) (by first | assumption | rfl | exact congrArg nI (by omega) | (simp (disch := omega) only [rI, rIe, rA, rIA, rLA, rJA, rVI, rQI, rVA, rQA, upd_at,  rAI, rLI, rJI, nI_add, pk_sub, kc_0, kc_1, kc_2, kc_3, kc_4, kc_5, reduceIte, Nat.reduceEqDiff, Nat.add_zero, rI_hold, rI_hold, rL_hold, ht]; done)) ?_
  refine Bod.ic 1 (by decide) dc_401_11 ?_
  refine Bod.subN (t - 1) (by omega) (by omega) dc_401_12 ?_
  refine Bod.istn dc_401_13 (by rw [ml_401]; exact Nat.le_of_ble_eq_true rfl) ?_
  refine Bod.go dc_401_14 rfl ?_
  refine Bod.sw (t := 412) dc_401_15 rfl rfl (by decide +kernel) ?_
  refine Bod.go dc_401_412 rfl ?_
  refine Bod.go dc_401_413 rfl ?_
  refine Bod.go dc_401_414 rfl ?_
  refine Bod.go dc_401_415 rfl ?_
  refine Bod.virt (r := []) dc_401_416 kr_401_731 ⟨Or.inl rfl, ow_405, cl_14⟩ (by rw [np_405]; rfl) (by rw [np_405]; rfl) (ob_of (mk_61 _)) (Nat.le_of_ble_eq_true rfl) (c1  ) ?_
  show Bod _ _ _ _ [_] _ _ _
  exact Bod.retZ dc_401_419 rt_401 (Or.inr rfl)
theorem rBiD_2 {d : Nat} {S : cS} {t : Nat} {S1 : cS} (ht : sI S 6151 = nI t) (mt : t < 20481) (b1 : 2 ≤ t) (b2 : 1 ≤ t) (c1 : Ans (d + 8) 405 [.ref 61, .int (nI 12079), .int (nI (t - 2)), .int (nI (t - 1))] S (some (.int (nI 0))) S1) : Bod (d + 8) 401 0 [(0, .ref 61), (1, .int (nI 12079))] [] S (some (.int 0)) (S1) := by
  refine Bod.go dc_401_0 rfl ?_
  refine Bod.get dc_401_1 fr_401_493 (mk_61 _) rfl ?_
  refine Bod.eqI (nI t) (by first | assumption | rfl | exact congrArg nI (by omega) | (simp (disch := omega) only [rI, rIe, rA, rIA, rLA, rJA, rVI, rQI, rVA, rQA, upd_at,  rAI, rLI, rJI, nI_add, pk_sub, kc_0, kc_1, kc_2, kc_3, kc_4, kc_5, reduceIte, Nat.reduceEqDiff, Nat.add_zero, rI_hold, rI_hold, rL_hold, ht]; done)) ?_
  refine Bod.ic 2 (by decide) dc_401_4 ?_
  refine Bod.subN (t - 2) (by omega) (by omega) dc_401_5 ?_
  refine Bod.istn dc_401_6 (by rw [ml_401]; exact Nat.le_of_ble_eq_true rfl) ?_
  refine Bod.go dc_401_7 rfl ?_
  refine Bod.get dc_401_8 fr_401_493 (mk_61 _) rfl ?_
  refine Bod.eqI (nI t) (by first | assumption | rfl | exact congrArg nI (by omega) | (simp (disch := omega) only [rI, rIe, rA, rIA, rLA, rJA, rVI, rQI, rVA, rQA, upd_at,  rAI, rLI, rJI, nI_add, pk_sub, kc_0, kc_1, kc_2, kc_3, kc_4, kc_5, reduceIte, Nat.reduceEqDiff, Nat.add_zero, rI_hold, rI_hold, rL_hold, ht]; done)) ?_
  refine Bod.ic 1 (by decide) dc_401_11 ?_
  refine Bod.subN (t - 1) (by omega) (by omega) dc_401_12 ?_
  refine Bod.istn dc_401_13 (by rw [ml_401]; exact Nat.le_of_ble_eq_true rfl) ?_
  refine Bod.go dc_401_14 rfl ?_
  refine Bod.sw (t := 412) dc_401_15 rfl rfl (by decide +kernel) ?_
  refine Bod.go dc_401_412 rfl ?_
  refine Bod.go dc_401_413 rfl ?_
  refine Bod.go dc_401_414 rfl ?_
  refine Bod.go dc_401_415 rfl ?_
  refine Bod.virt (r := []) dc_401_416 kr_401_731 ⟨Or.inl rfl, ow_405, cl_14⟩ (by rw [np_405]; rfl) (by rw [np_405]; rfl) (ob_of (mk_61 _)) (Nat.le_of_ble_eq_true rfl) (c1  ) ?_
  show Bod _ _ _ _ [_] _ _ _
  exact Bod.retZ dc_401_419 rt_401 (Or.inl rfl)
