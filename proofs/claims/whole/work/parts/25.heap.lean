/-! THE CLASS'S HEAP: loop-free contracts -/
theorem dc_145_0 : decode (sm_cc 145) 0 = .ok (.iload_n 0, 1) := by decide +kernel
theorem dc_145_1 : decode (sm_cc 145) 1 = .ok (.iconst 1, 1) := by decide +kernel
theorem dc_145_2 : decode (sm_cc 145) 2 = .ok (.if_icmp .eq (9), 3) := by decide +kernel
theorem dc_145_5 : decode (sm_cc 145) 5 = .ok (.iload_n 0, 1) := by decide +kernel
theorem dc_145_6 : decode (sm_cc 145) 6 = .ok (.bipush (7), 2) := by decide +kernel
theorem dc_145_8 : decode (sm_cc 145) 8 = .ok (.if_icmp .ne (5), 3) := by decide +kernel
theorem dc_145_13 : decode (sm_cc 145) 13 = .ok (.iload_n 0, 1) := by decide +kernel
theorem dc_145_14 : decode (sm_cc 145) 14 = .ok (.iconst 2, 1) := by decide +kernel
theorem dc_145_15 : decode (sm_cc 145) 15 = .ok (.if_icmp .eq (13), 3) := by decide +kernel
theorem dc_145_18 : decode (sm_cc 145) 18 = .ok (.iload_n 0, 1) := by decide +kernel
theorem dc_145_19 : decode (sm_cc 145) 19 = .ok (.iconst 4, 1) := by decide +kernel
theorem dc_145_20 : decode (sm_cc 145) 20 = .ok (.if_icmp .eq (8), 3) := by decide +kernel
theorem dc_145_23 : decode (sm_cc 145) 23 = .ok (.iload_n 0, 1) := by decide +kernel
theorem dc_145_24 : decode (sm_cc 145) 24 = .ok (.iconst 5, 1) := by decide +kernel
theorem dc_145_25 : decode (sm_cc 145) 25 = .ok (.if_icmp .ne (7), 3) := by decide +kernel
theorem dc_145_32 : decode (sm_cc 145) 32 = .ok (.iconst 0, 1) := by decide +kernel
theorem dc_145_33 : decode (sm_cc 145) 33 = .ok (.ireturn, 1) := by decide +kernel
theorem rt_145 : sm_rt 145 = some .int := by decide +kernel
theorem ml_145 : sm_ml 145 = 1 := by decide +kernel
theorem dc_184_0 : decode (sm_cc 184) 0 = .ok (.iload_n 0, 1) := by decide +kernel
theorem dc_184_1 : decode (sm_cc 184) 1 = .ok (.iconst 1, 1) := by decide +kernel
theorem dc_184_2 : decode (sm_cc 184) 2 = .ok (.if_icmp .eq (9), 3) := by decide +kernel
theorem dc_184_5 : decode (sm_cc 184) 5 = .ok (.iload_n 0, 1) := by decide +kernel
theorem dc_184_6 : decode (sm_cc 184) 6 = .ok (.bipush (7), 2) := by decide +kernel
theorem dc_184_8 : decode (sm_cc 184) 8 = .ok (.if_icmp .ne (7), 3) := by decide +kernel
theorem dc_184_15 : decode (sm_cc 184) 15 = .ok (.iload_n 0, 1) := by decide +kernel
theorem dc_184_16 : decode (sm_cc 184) 16 = .ok (.iconst 2, 1) := by decide +kernel
theorem dc_184_17 : decode (sm_cc 184) 17 = .ok (.if_icmp .ne (8), 3) := by decide +kernel
theorem dc_184_25 : decode (sm_cc 184) 25 = .ok (.bipush (40), 2) := by decide +kernel
theorem dc_184_27 : decode (sm_cc 184) 27 = .ok (.ireturn, 1) := by decide +kernel
theorem rt_184 : sm_rt 184 = some .int := by decide +kernel
theorem ml_184 : sm_ml 184 = 1 := by decide +kernel
theorem dc_145_11 : decode (sm_cc 145) 11 = .ok (.iconst 2, 1) := by decide +kernel
theorem dc_145_12 : decode (sm_cc 145) 12 = .ok (.ireturn, 1) := by decide +kernel
theorem dc_184_11 : decode (sm_cc 184) 11 = .ok (.sipush (300), 3) := by decide +kernel
theorem dc_184_14 : decode (sm_cc 184) 14 = .ok (.ireturn, 1) := by decide +kernel
theorem dc_145_28 : decode (sm_cc 145) 28 = .ok (.iconst 4, 1) := by decide +kernel
theorem dc_145_29 : decode (sm_cc 145) 29 = .ok (.goto (4), 3) := by decide +kernel
theorem dc_184_20 : decode (sm_cc 184) 20 = .ok (.bipush (100), 2) := by decide +kernel
theorem dc_184_22 : decode (sm_cc 184) 22 = .ok (.goto (5), 3) := by decide +kernel
theorem dc_157_0 : decode (sm_cc 157) 0 = .ok (.iload_n 1, 1) := by decide +kernel
theorem dc_157_1 : decode (sm_cc 157) 1 = .ok (.invokestatic 65, 3) := by decide +kernel
theorem kr_157_65 : sm_at mt_k (sm_ow 157) 65 = some (65, 2, 139, 0, 1392) := by decide +kernel
theorem dc_157_4 : decode (sm_cc 157) 4 = .ok (.ifCond .eq (26), 3) := by decide +kernel
theorem dc_157_7 : decode (sm_cc 157) 7 = .ok (.aload_n 0, 1) := by decide +kernel
theorem dc_157_8 : decode (sm_cc 157) 8 = .ok (.getfield 38, 3) := by decide +kernel
theorem fr_157_38 : sm_at mt_f (sm_ow 157) 38 = some (38, 2, 8, 0, 384) := by decide +kernel
theorem dc_157_11 : decode (sm_cc 157) 11 = .ok (.iload_n 1, 1) := by decide +kernel
theorem dc_157_12 : decode (sm_cc 157) 12 = .ok (.aaload, 1) := by decide +kernel
theorem dc_157_13 : decode (sm_cc 157) 13 = .ok (.ifnull (17), 3) := by decide +kernel
theorem dc_157_16 : decode (sm_cc 157) 16 = .ok (.iload_n 2, 1) := by decide +kernel
theorem dc_157_17 : decode (sm_cc 157) 17 = .ok (.ifCond .lt (13), 3) := by decide +kernel
theorem dc_157_20 : decode (sm_cc 157) 20 = .ok (.iload_n 2, 1) := by decide +kernel
theorem dc_157_21 : decode (sm_cc 157) 21 = .ok (.aload_n 0, 1) := by decide +kernel
theorem dc_157_22 : decode (sm_cc 157) 22 = .ok (.getfield 33, 3) := by decide +kernel
theorem fr_157_33 : sm_at mt_f (sm_ow 157) 33 = some (33, 2, 7, 0, 383) := by decide +kernel
theorem dc_157_25 : decode (sm_cc 157) 25 = .ok (.iload_n 1, 1) := by decide +kernel
theorem dc_157_26 : decode (sm_cc 157) 26 = .ok (.iaload, 1) := by decide +kernel
theorem dc_157_27 : decode (sm_cc 157) 27 = .ok (.if_icmp .lt (5), 3) := by decide +kernel
theorem dc_157_32 : decode (sm_cc 157) 32 = .ok (.aload_n 0, 1) := by decide +kernel
theorem dc_157_33 : decode (sm_cc 157) 33 = .ok (.getfield 11, 3) := by decide +kernel
theorem fr_157_11 : sm_at mt_f (sm_ow 157) 11 = some (11, 2, 0, 0, 373) := by decide +kernel
theorem dc_157_36 : decode (sm_cc 157) 36 = .ok (.iload_n 1, 1) := by decide +kernel
theorem dc_157_37 : decode (sm_cc 157) 37 = .ok (.iaload, 1) := by decide +kernel
theorem dc_157_38 : decode (sm_cc 157) 38 = .ok (.invokestatic 87, 3) := by decide +kernel
theorem kr_157_87 : sm_at mt_k (sm_ow 157) 87 = some (87, 2, 145, 0, 1415) := by decide +kernel
theorem np_145 : sm_np 145 = 1 := by decide +kernel
theorem dc_157_41 : decode (sm_cc 157) 41 = .ok (.istore_n 3, 1) := by decide +kernel
theorem ml_157 : sm_ml 157 = 5 := by decide +kernel
theorem dc_157_42 : decode (sm_cc 157) 42 = .ok (.iload_n 2, 1) := by decide +kernel
theorem dc_157_43 : decode (sm_cc 157) 43 = .ok (.iload_n 3, 1) := by decide +kernel
theorem dc_157_44 : decode (sm_cc 157) 44 = .ok (.imul, 1) := by decide +kernel
theorem dc_157_45 : decode (sm_cc 157) 45 = .ok (.iload_n 3, 1) := by decide +kernel
theorem dc_157_46 : decode (sm_cc 157) 46 = .ok (.iadd, 1) := by decide +kernel
theorem dc_157_47 : decode (sm_cc 157) 47 = .ok (.iconst 2, 1) := by decide +kernel
theorem dc_157_48 : decode (sm_cc 157) 48 = .ok (.isub, 1) := by decide +kernel
theorem dc_157_49 : decode (sm_cc 157) 49 = .ok (.istore 4, 2) := by decide +kernel
theorem dc_157_51 : decode (sm_cc 157) 51 = .ok (.iload 4, 2) := by decide +kernel
theorem dc_157_53 : decode (sm_cc 157) 53 = .ok (.ifCond .lt (22), 3) := by decide +kernel
theorem dc_157_56 : decode (sm_cc 157) 56 = .ok (.iload 4, 2) := by decide +kernel
theorem dc_157_58 : decode (sm_cc 157) 58 = .ok (.iconst 1, 1) := by decide +kernel
theorem dc_157_59 : decode (sm_cc 157) 59 = .ok (.iadd, 1) := by decide +kernel
theorem dc_157_60 : decode (sm_cc 157) 60 = .ok (.aload_n 0, 1) := by decide +kernel
theorem dc_157_61 : decode (sm_cc 157) 61 = .ok (.getfield 38, 3) := by decide +kernel
theorem dc_157_64 : decode (sm_cc 157) 64 = .ok (.iload_n 1, 1) := by decide +kernel
theorem dc_157_65 : decode (sm_cc 157) 65 = .ok (.aaload, 1) := by decide +kernel
theorem dc_157_66 : decode (sm_cc 157) 66 = .ok (.arraylength, 1) := by decide +kernel
theorem dc_157_67 : decode (sm_cc 157) 67 = .ok (.if_icmp .ge (8), 3) := by decide +kernel
theorem dc_157_70 : decode (sm_cc 157) 70 = .ok (.iload 4, 2) := by decide +kernel
theorem dc_157_72 : decode (sm_cc 157) 72 = .ok (.goto (4), 3) := by decide +kernel
theorem dc_157_76 : decode (sm_cc 157) 76 = .ok (.ireturn, 1) := by decide +kernel
theorem rt_157 : sm_rt 157 = some .int := by decide +kernel
theorem dc_156_0 : decode (sm_cc 156) 0 = .ok (.aload_n 0, 1) := by decide +kernel
theorem dc_156_1 : decode (sm_cc 156) 1 = .ok (.iload_n 1, 1) := by decide +kernel
theorem dc_156_2 : decode (sm_cc 156) 2 = .ok (.iload_n 2, 1) := by decide +kernel
theorem dc_156_3 : decode (sm_cc 156) 3 = .ok (.invokevirtual 95, 3) := by decide +kernel
theorem ow_157 : 2 = sm_ow 157 := by decide +kernel
theorem kr_156_95 : sm_at mt_k (sm_ow 156) 95 = some (95, 0, 157, 0, 1469) := by decide +kernel
theorem np_157 : sm_np 157 = 2 := by decide +kernel
theorem dc_156_6 : decode (sm_cc 156) 6 = .ok (.istore_n 3, 1) := by decide +kernel
theorem ml_156 : sm_ml 156 = 4 := by decide +kernel
theorem dc_156_7 : decode (sm_cc 156) 7 = .ok (.iload_n 3, 1) := by decide +kernel
theorem dc_156_8 : decode (sm_cc 156) 8 = .ok (.ifCond .ge (7), 3) := by decide +kernel
theorem dc_156_15 : decode (sm_cc 156) 15 = .ok (.aload_n 0, 1) := by decide +kernel
theorem dc_156_16 : decode (sm_cc 156) 16 = .ok (.getfield 38, 3) := by decide +kernel
theorem fr_156_38 : sm_at mt_f (sm_ow 156) 38 = some (38, 2, 8, 0, 384) := by decide +kernel
theorem dc_156_19 : decode (sm_cc 156) 19 = .ok (.iload_n 1, 1) := by decide +kernel
theorem dc_156_20 : decode (sm_cc 156) 20 = .ok (.aaload, 1) := by decide +kernel
theorem dc_156_21 : decode (sm_cc 156) 21 = .ok (.iload_n 3, 1) := by decide +kernel
theorem dc_156_22 : decode (sm_cc 156) 22 = .ok (.laload, 1) := by decide +kernel
theorem dc_156_23 : decode (sm_cc 156) 23 = .ok (.lreturn, 1) := by decide +kernel
theorem rt_156 : sm_rt 156 = some .long := by decide +kernel
theorem dc_158_0 : decode (sm_cc 158) 0 = .ok (.aload_n 0, 1) := by decide +kernel
theorem dc_158_1 : decode (sm_cc 158) 1 = .ok (.iload_n 1, 1) := by decide +kernel
theorem dc_158_2 : decode (sm_cc 158) 2 = .ok (.iload_n 2, 1) := by decide +kernel
theorem dc_158_3 : decode (sm_cc 158) 3 = .ok (.invokevirtual 95, 3) := by decide +kernel
theorem kr_158_95 : sm_at mt_k (sm_ow 158) 95 = some (95, 0, 157, 0, 1469) := by decide +kernel
theorem dc_158_6 : decode (sm_cc 158) 6 = .ok (.istore_n 3, 1) := by decide +kernel
theorem ml_158 : sm_ml 158 = 4 := by decide +kernel
theorem dc_158_7 : decode (sm_cc 158) 7 = .ok (.iload_n 3, 1) := by decide +kernel
theorem dc_158_8 : decode (sm_cc 158) 8 = .ok (.ifCond .ge (7), 3) := by decide +kernel
theorem dc_158_15 : decode (sm_cc 158) 15 = .ok (.aload_n 0, 1) := by decide +kernel
theorem dc_158_16 : decode (sm_cc 158) 16 = .ok (.getfield 38, 3) := by decide +kernel
theorem fr_158_38 : sm_at mt_f (sm_ow 158) 38 = some (38, 2, 8, 0, 384) := by decide +kernel
theorem dc_158_19 : decode (sm_cc 158) 19 = .ok (.iload_n 1, 1) := by decide +kernel
theorem dc_158_20 : decode (sm_cc 158) 20 = .ok (.aaload, 1) := by decide +kernel
theorem dc_158_21 : decode (sm_cc 158) 21 = .ok (.iload_n 3, 1) := by decide +kernel
theorem dc_158_22 : decode (sm_cc 158) 22 = .ok (.iconst 1, 1) := by decide +kernel
theorem dc_158_23 : decode (sm_cc 158) 23 = .ok (.iadd, 1) := by decide +kernel
theorem dc_158_24 : decode (sm_cc 158) 24 = .ok (.laload, 1) := by decide +kernel
theorem dc_158_25 : decode (sm_cc 158) 25 = .ok (.lreturn, 1) := by decide +kernel
theorem rt_158 : sm_rt 158 = some .long := by decide +kernel
theorem dc_260_0 : decode (sm_cc 260) 0 = .ok (.aload_n 0, 1) := by decide +kernel
theorem dc_260_1 : decode (sm_cc 260) 1 = .ok (.iload_n 1, 1) := by decide +kernel
theorem dc_260_2 : decode (sm_cc 260) 2 = .ok (.iload_n 2, 1) := by decide +kernel
theorem dc_260_3 : decode (sm_cc 260) 3 = .ok (.invokevirtual 95, 3) := by decide +kernel
theorem kr_260_95 : sm_at mt_k (sm_ow 260) 95 = some (95, 0, 157, 0, 1469) := by decide +kernel
theorem dc_260_6 : decode (sm_cc 260) 6 = .ok (.istore 7, 2) := by decide +kernel
theorem ml_260 : sm_ml 260 = 8 := by decide +kernel
theorem dc_260_8 : decode (sm_cc 260) 8 = .ok (.iload 7, 2) := by decide +kernel
theorem dc_260_10 : decode (sm_cc 260) 10 = .ok (.ifCond .ge (4), 3) := by decide +kernel
theorem dc_260_14 : decode (sm_cc 260) 14 = .ok (.aload_n 0, 1) := by decide +kernel
theorem dc_260_15 : decode (sm_cc 260) 15 = .ok (.aload_n 0, 1) := by decide +kernel
theorem dc_260_16 : decode (sm_cc 260) 16 = .ok (.getfield 15, 3) := by decide +kernel
theorem fr_260_15 : sm_at mt_f (sm_ow 260) 15 = some (15, 2, 1, 0, 374) := by decide +kernel
theorem dc_260_19 : decode (sm_cc 260) 19 = .ok (.lload_n 3, 1) := by decide +kernel
theorem dc_260_20 : decode (sm_cc 260) 20 = .ok (.lload 5, 2) := by decide +kernel
theorem dc_260_22 : decode (sm_cc 260) 22 = .ok (.invokestatic 91, 3) := by decide +kernel
theorem kr_260_91 : sm_at mt_k (sm_ow 260) 91 = some (91, 3, 137, 1, 1418) := by decide +kernel
theorem dc_260_25 : decode (sm_cc 260) 25 = .ok (.invokevirtual 69, 3) := by decide +kernel
theorem kr_260_69 : sm_at mt_k (sm_ow 260) 69 = some (69, 0, 149, 0, 1549) := by decide +kernel
theorem dc_260_28 : decode (sm_cc 260) 28 = .ok (.aload_n 0, 1) := by decide +kernel
theorem dc_260_29 : decode (sm_cc 260) 29 = .ok (.getfield 38, 3) := by decide +kernel
theorem fr_260_38 : sm_at mt_f (sm_ow 260) 38 = some (38, 2, 8, 0, 384) := by decide +kernel
theorem dc_260_32 : decode (sm_cc 260) 32 = .ok (.iload_n 1, 1) := by decide +kernel
theorem dc_260_33 : decode (sm_cc 260) 33 = .ok (.aaload, 1) := by decide +kernel
theorem dc_260_34 : decode (sm_cc 260) 34 = .ok (.iload 7, 2) := by decide +kernel
theorem dc_260_36 : decode (sm_cc 260) 36 = .ok (.lload_n 3, 1) := by decide +kernel
theorem dc_260_37 : decode (sm_cc 260) 37 = .ok (.lastore, 1) := by decide +kernel
theorem dc_260_38 : decode (sm_cc 260) 38 = .ok (.aload_n 0, 1) := by decide +kernel
theorem dc_260_39 : decode (sm_cc 260) 39 = .ok (.getfield 38, 3) := by decide +kernel
theorem dc_260_42 : decode (sm_cc 260) 42 = .ok (.iload_n 1, 1) := by decide +kernel
theorem dc_260_43 : decode (sm_cc 260) 43 = .ok (.aaload, 1) := by decide +kernel
theorem dc_260_44 : decode (sm_cc 260) 44 = .ok (.iload 7, 2) := by decide +kernel
theorem dc_260_46 : decode (sm_cc 260) 46 = .ok (.iconst 1, 1) := by decide +kernel
theorem dc_260_47 : decode (sm_cc 260) 47 = .ok (.iadd, 1) := by decide +kernel
theorem dc_260_48 : decode (sm_cc 260) 48 = .ok (.lload 5, 2) := by decide +kernel
theorem dc_260_50 : decode (sm_cc 260) 50 = .ok (.lastore, 1) := by decide +kernel
theorem dc_260_51 : decode (sm_cc 260) 51 = .ok (.return_, 1) := by decide +kernel
theorem rt_260 : sm_rt 260 = none := by decide +kernel
theorem dc_232_0 : decode (sm_cc 232) 0 = .ok (.aload_n 0, 1) := by decide +kernel
theorem dc_232_1 : decode (sm_cc 232) 1 = .ok (.iload_n 1, 1) := by decide +kernel
theorem dc_232_2 : decode (sm_cc 232) 2 = .ok (.iload_n 2, 1) := by decide +kernel
theorem dc_232_3 : decode (sm_cc 232) 3 = .ok (.invokevirtual 95, 3) := by decide +kernel
theorem kr_232_95 : sm_at mt_k (sm_ow 232) 95 = some (95, 0, 157, 0, 1469) := by decide +kernel
theorem dc_232_6 : decode (sm_cc 232) 6 = .ok (.istore_n 3, 1) := by decide +kernel
theorem ml_232 : sm_ml 232 = 4 := by decide +kernel
theorem dc_232_7 : decode (sm_cc 232) 7 = .ok (.iload_n 3, 1) := by decide +kernel
theorem dc_232_8 : decode (sm_cc 232) 8 = .ok (.iconst 2, 1) := by decide +kernel
theorem dc_232_9 : decode (sm_cc 232) 9 = .ok (.if_icmp .ge (7), 3) := by decide +kernel
theorem dc_232_16 : decode (sm_cc 232) 16 = .ok (.aload_n 0, 1) := by decide +kernel
theorem dc_232_17 : decode (sm_cc 232) 17 = .ok (.getfield 38, 3) := by decide +kernel
theorem fr_232_38 : sm_at mt_f (sm_ow 232) 38 = some (38, 2, 8, 0, 384) := by decide +kernel
theorem dc_232_20 : decode (sm_cc 232) 20 = .ok (.iload_n 1, 1) := by decide +kernel
theorem dc_232_21 : decode (sm_cc 232) 21 = .ok (.aaload, 1) := by decide +kernel
theorem dc_232_22 : decode (sm_cc 232) 22 = .ok (.iload_n 3, 1) := by decide +kernel
theorem dc_232_23 : decode (sm_cc 232) 23 = .ok (.iconst 2, 1) := by decide +kernel
theorem dc_232_24 : decode (sm_cc 232) 24 = .ok (.isub, 1) := by decide +kernel
theorem dc_232_25 : decode (sm_cc 232) 25 = .ok (.laload, 1) := by decide +kernel
theorem dc_232_26 : decode (sm_cc 232) 26 = .ok (.lreturn, 1) := by decide +kernel
theorem rt_232 : sm_rt 232 = some .long := by decide +kernel
theorem dc_233_0 : decode (sm_cc 233) 0 = .ok (.aload_n 0, 1) := by decide +kernel
theorem dc_233_1 : decode (sm_cc 233) 1 = .ok (.iload_n 1, 1) := by decide +kernel
theorem dc_233_2 : decode (sm_cc 233) 2 = .ok (.iload_n 2, 1) := by decide +kernel
theorem dc_233_3 : decode (sm_cc 233) 3 = .ok (.invokevirtual 95, 3) := by decide +kernel
theorem kr_233_95 : sm_at mt_k (sm_ow 233) 95 = some (95, 0, 157, 0, 1469) := by decide +kernel
theorem dc_233_6 : decode (sm_cc 233) 6 = .ok (.istore_n 3, 1) := by decide +kernel
theorem ml_233 : sm_ml 233 = 4 := by decide +kernel
theorem dc_233_7 : decode (sm_cc 233) 7 = .ok (.iload_n 3, 1) := by decide +kernel
theorem dc_233_8 : decode (sm_cc 233) 8 = .ok (.iconst 2, 1) := by decide +kernel
theorem dc_233_9 : decode (sm_cc 233) 9 = .ok (.if_icmp .ge (7), 3) := by decide +kernel
theorem dc_233_16 : decode (sm_cc 233) 16 = .ok (.aload_n 0, 1) := by decide +kernel
theorem dc_233_17 : decode (sm_cc 233) 17 = .ok (.getfield 38, 3) := by decide +kernel
theorem fr_233_38 : sm_at mt_f (sm_ow 233) 38 = some (38, 2, 8, 0, 384) := by decide +kernel
theorem dc_233_20 : decode (sm_cc 233) 20 = .ok (.iload_n 1, 1) := by decide +kernel
theorem dc_233_21 : decode (sm_cc 233) 21 = .ok (.aaload, 1) := by decide +kernel
theorem dc_233_22 : decode (sm_cc 233) 22 = .ok (.iload_n 3, 1) := by decide +kernel
theorem dc_233_23 : decode (sm_cc 233) 23 = .ok (.iconst 1, 1) := by decide +kernel
theorem dc_233_24 : decode (sm_cc 233) 24 = .ok (.isub, 1) := by decide +kernel
theorem dc_233_25 : decode (sm_cc 233) 25 = .ok (.laload, 1) := by decide +kernel
theorem dc_233_26 : decode (sm_cc 233) 26 = .ok (.lreturn, 1) := by decide +kernel
theorem rt_233 : sm_rt 233 = some .long := by decide +kernel
theorem dc_157_30 : decode (sm_cc 157) 30 = .ok (.iconst (-1), 1) := by decide +kernel
theorem dc_157_31 : decode (sm_cc 157) 31 = .ok (.ireturn, 1) := by decide +kernel
theorem dc_144_0 : decode (sm_cc 144) 0 = .ok (.iload_n 1, 1) := by decide +kernel
theorem dc_144_1 : decode (sm_cc 144) 1 = .ok (.iconst 1, 1) := by decide +kernel
theorem dc_144_2 : decode (sm_cc 144) 2 = .ok (.if_icmp .lt (10), 3) := by decide +kernel
theorem dc_144_12 : decode (sm_cc 144) 12 = .ok (.return_, 1) := by decide +kernel
theorem rt_144 : sm_rt 144 = none := by decide +kernel
theorem ml_144 : sm_ml 144 = 4 := by decide +kernel
theorem dc_144_5 : decode (sm_cc 144) 5 = .ok (.iload_n 1, 1) := by decide +kernel
theorem dc_144_6 : decode (sm_cc 144) 6 = .ok (.sipush (1500), 3) := by decide +kernel
theorem dc_144_9 : decode (sm_cc 144) 9 = .ok (.if_icmp .le (4), 3) := by decide +kernel
theorem dc_144_13 : decode (sm_cc 144) 13 = .ok (.iconst 0, 1) := by decide +kernel
theorem dc_144_14 : decode (sm_cc 144) 14 = .ok (.istore_n 3, 1) := by decide +kernel
theorem dc_144_15 : decode (sm_cc 144) 15 = .ok (.iload_n 2, 1) := by decide +kernel
theorem dc_144_16 : decode (sm_cc 144) 16 = .ok (.iconst 1, 1) := by decide +kernel
theorem dc_144_17 : decode (sm_cc 144) 17 = .ok (.if_icmp .ne (28), 3) := by decide +kernel
theorem dc_144_45 : decode (sm_cc 144) 45 = .ok (.aload_n 0, 1) := by decide +kernel
theorem dc_144_46 : decode (sm_cc 144) 46 = .ok (.getfield 15, 3) := by decide +kernel
theorem fr_144_15 : sm_at mt_f (sm_ow 144) 15 = some (15, 2, 1, 0, 374) := by decide +kernel
theorem dc_144_49 : decode (sm_cc 144) 49 = .ok (.iload_n 1, 1) := by decide +kernel
theorem dc_144_50 : decode (sm_cc 144) 50 = .ok (.dup2, 1) := by decide +kernel
theorem dc_144_51 : decode (sm_cc 144) 51 = .ok (.iaload, 1) := by decide +kernel
theorem dc_144_52 : decode (sm_cc 144) 52 = .ok (.iconst 1, 1) := by decide +kernel
theorem dc_144_53 : decode (sm_cc 144) 53 = .ok (.isub, 1) := by decide +kernel
theorem dc_144_54 : decode (sm_cc 144) 54 = .ok (.iastore, 1) := by decide +kernel
theorem dc_144_55 : decode (sm_cc 144) 55 = .ok (.iload_n 2, 1) := by decide +kernel
theorem dc_144_56 : decode (sm_cc 144) 56 = .ok (.ifCond .ne (39), 3) := by decide +kernel
theorem dc_144_59 : decode (sm_cc 144) 59 = .ok (.aload_n 0, 1) := by decide +kernel
theorem dc_144_60 : decode (sm_cc 144) 60 = .ok (.getfield 11, 3) := by decide +kernel
theorem fr_144_11 : sm_at mt_f (sm_ow 144) 11 = some (11, 2, 0, 0, 373) := by decide +kernel
theorem dc_144_63 : decode (sm_cc 144) 63 = .ok (.iload_n 1, 1) := by decide +kernel
theorem dc_144_64 : decode (sm_cc 144) 64 = .ok (.iaload, 1) := by decide +kernel
theorem dc_144_65 : decode (sm_cc 144) 65 = .ok (.ifCond .eq (30), 3) := by decide +kernel
theorem dc_144_68 : decode (sm_cc 144) 68 = .ok (.aload_n 0, 1) := by decide +kernel
theorem dc_144_69 : decode (sm_cc 144) 69 = .ok (.getfield 15, 3) := by decide +kernel
theorem dc_144_72 : decode (sm_cc 144) 72 = .ok (.iload_n 1, 1) := by decide +kernel
theorem dc_144_73 : decode (sm_cc 144) 73 = .ok (.iaload, 1) := by decide +kernel
theorem dc_144_74 : decode (sm_cc 144) 74 = .ok (.aload_n 0, 1) := by decide +kernel
theorem dc_144_75 : decode (sm_cc 144) 75 = .ok (.getfield 18, 3) := by decide +kernel
theorem fr_144_18 : sm_at mt_f (sm_ow 144) 18 = some (18, 2, 2, 0, 375) := by decide +kernel
theorem dc_144_78 : decode (sm_cc 144) 78 = .ok (.iload_n 1, 1) := by decide +kernel
theorem dc_144_79 : decode (sm_cc 144) 79 = .ok (.iaload, 1) := by decide +kernel
theorem dc_144_80 : decode (sm_cc 144) 80 = .ok (.iadd, 1) := by decide +kernel
theorem dc_144_81 : decode (sm_cc 144) 81 = .ok (.aload_n 0, 1) := by decide +kernel
theorem dc_144_82 : decode (sm_cc 144) 82 = .ok (.getfield 21, 3) := by decide +kernel
theorem fr_144_21 : sm_at mt_f (sm_ow 144) 21 = some (21, 2, 3, 0, 377) := by decide +kernel
theorem dc_144_85 : decode (sm_cc 144) 85 = .ok (.iload_n 1, 1) := by decide +kernel
theorem dc_144_86 : decode (sm_cc 144) 86 = .ok (.iaload, 1) := by decide +kernel
theorem dc_144_87 : decode (sm_cc 144) 87 = .ok (.iadd, 1) := by decide +kernel
theorem dc_144_88 : decode (sm_cc 144) 88 = .ok (.ifCond .gt (7), 3) := by decide +kernel
theorem dc_144_95 : decode (sm_cc 144) 95 = .ok (.iconst 0, 1) := by decide +kernel
theorem dc_144_96 : decode (sm_cc 144) 96 = .ok (.istore_n 3, 1) := by decide +kernel
theorem dc_144_97 : decode (sm_cc 144) 97 = .ok (.iload_n 3, 1) := by decide +kernel
theorem dc_144_98 : decode (sm_cc 144) 98 = .ok (.ifCond .eq (40), 3) := by decide +kernel
theorem dc_144_138 : decode (sm_cc 144) 138 = .ok (.return_, 1) := by decide +kernel
theorem dc_144_91 : decode (sm_cc 144) 91 = .ok (.iconst 1, 1) := by decide +kernel
theorem dc_144_92 : decode (sm_cc 144) 92 = .ok (.goto (4), 3) := by decide +kernel
theorem dc_144_101 : decode (sm_cc 144) 101 = .ok (.aload_n 0, 1) := by decide +kernel
theorem dc_144_102 : decode (sm_cc 144) 102 = .ok (.getfield 73, 3) := by decide +kernel
theorem fr_144_73 : sm_at mt_f (sm_ow 144) 73 = some (73, 2, 16, 0, 392) := by decide +kernel
theorem dc_144_105 : decode (sm_cc 144) 105 = .ok (.ifCond .lt (33), 3) := by decide +kernel
theorem dc_144_108 : decode (sm_cc 144) 108 = .ok (.aload_n 0, 1) := by decide +kernel
theorem dc_144_109 : decode (sm_cc 144) 109 = .ok (.getfield 73, 3) := by decide +kernel
theorem dc_144_112 : decode (sm_cc 144) 112 = .ok (.sipush (1500), 3) := by decide +kernel
theorem dc_144_115 : decode (sm_cc 144) 115 = .ok (.if_icmp .gt (23), 3) := by decide +kernel
theorem dc_144_118 : decode (sm_cc 144) 118 = .ok (.aload_n 0, 1) := by decide +kernel
theorem dc_144_119 : decode (sm_cc 144) 119 = .ok (.getfield 48, 3) := by decide +kernel
theorem fr_144_48 : sm_at mt_f (sm_ow 144) 48 = some (48, 2, 11, 0, 387) := by decide +kernel
theorem dc_144_122 : decode (sm_cc 144) 122 = .ok (.aload_n 0, 1) := by decide +kernel
theorem dc_144_123 : decode (sm_cc 144) 123 = .ok (.getfield 73, 3) := by decide +kernel
theorem dc_144_126 : decode (sm_cc 144) 126 = .ok (.iload_n 1, 1) := by decide +kernel
theorem dc_144_127 : decode (sm_cc 144) 127 = .ok (.iastore, 1) := by decide +kernel
theorem dc_144_128 : decode (sm_cc 144) 128 = .ok (.aload_n 0, 1) := by decide +kernel
theorem dc_144_129 : decode (sm_cc 144) 129 = .ok (.dup, 1) := by decide +kernel
theorem dc_144_130 : decode (sm_cc 144) 130 = .ok (.getfield 73, 3) := by decide +kernel
theorem dc_144_133 : decode (sm_cc 144) 133 = .ok (.iconst 1, 1) := by decide +kernel
theorem dc_144_134 : decode (sm_cc 144) 134 = .ok (.iadd, 1) := by decide +kernel
theorem dc_144_135 : decode (sm_cc 144) 135 = .ok (.putfield 73, 3) := by decide +kernel
theorem dc_144_20 : decode (sm_cc 144) 20 = .ok (.aload_n 0, 1) := by decide +kernel
theorem dc_144_21 : decode (sm_cc 144) 21 = .ok (.getfield 51, 3) := by decide +kernel
theorem fr_144_51 : sm_at mt_f (sm_ow 144) 51 = some (51, 2, 12, 0, 388) := by decide +kernel
theorem dc_144_24 : decode (sm_cc 144) 24 = .ok (.iload_n 1, 1) := by decide +kernel
theorem dc_144_25 : decode (sm_cc 144) 25 = .ok (.baload, 1) := by decide +kernel
theorem dc_144_26 : decode (sm_cc 144) 26 = .ok (.ifCond .ne (7), 3) := by decide +kernel
theorem dc_144_33 : decode (sm_cc 144) 33 = .ok (.iconst 0, 1) := by decide +kernel
theorem dc_144_34 : decode (sm_cc 144) 34 = .ok (.istore_n 3, 1) := by decide +kernel
theorem dc_144_35 : decode (sm_cc 144) 35 = .ok (.aload_n 0, 1) := by decide +kernel
theorem dc_144_36 : decode (sm_cc 144) 36 = .ok (.getfield 51, 3) := by decide +kernel
theorem dc_144_39 : decode (sm_cc 144) 39 = .ok (.iload_n 1, 1) := by decide +kernel
theorem dc_144_40 : decode (sm_cc 144) 40 = .ok (.iconst 1, 1) := by decide +kernel
theorem dc_144_41 : decode (sm_cc 144) 41 = .ok (.bastore, 1) := by decide +kernel
theorem dc_144_42 : decode (sm_cc 144) 42 = .ok (.goto (55), 3) := by decide +kernel
theorem dc_144_29 : decode (sm_cc 144) 29 = .ok (.iconst 1, 1) := by decide +kernel
theorem dc_144_30 : decode (sm_cc 144) 30 = .ok (.goto (4), 3) := by decide +kernel
theorem dc_146_0 : decode (sm_cc 146) 0 = .ok (.iload_n 1, 1) := by decide +kernel
theorem dc_146_1 : decode (sm_cc 146) 1 = .ok (.invokestatic 65, 3) := by decide +kernel
theorem kr_146_65 : sm_at mt_k (sm_ow 146) 65 = some (65, 2, 139, 0, 1392) := by decide +kernel
theorem dc_146_4 : decode (sm_cc 146) 4 = .ok (.ifCond .eq (41), 3) := by decide +kernel
theorem dc_146_7 : decode (sm_cc 146) 7 = .ok (.aload_n 0, 1) := by decide +kernel
theorem dc_146_8 : decode (sm_cc 146) 8 = .ok (.getfield 11, 3) := by decide +kernel
theorem fr_146_11 : sm_at mt_f (sm_ow 146) 11 = some (11, 2, 0, 0, 373) := by decide +kernel
theorem dc_146_11 : decode (sm_cc 146) 11 = .ok (.iload_n 1, 1) := by decide +kernel
theorem dc_146_12 : decode (sm_cc 146) 12 = .ok (.iaload, 1) := by decide +kernel
theorem dc_146_13 : decode (sm_cc 146) 13 = .ok (.iconst 1, 1) := by decide +kernel
theorem dc_146_14 : decode (sm_cc 146) 14 = .ok (.if_icmp .lt (31), 3) := by decide +kernel
theorem dc_146_17 : decode (sm_cc 146) 17 = .ok (.aload_n 0, 1) := by decide +kernel
theorem dc_146_18 : decode (sm_cc 146) 18 = .ok (.getfield 11, 3) := by decide +kernel
theorem dc_146_21 : decode (sm_cc 146) 21 = .ok (.iload_n 1, 1) := by decide +kernel
theorem dc_146_22 : decode (sm_cc 146) 22 = .ok (.iaload, 1) := by decide +kernel
theorem dc_146_23 : decode (sm_cc 146) 23 = .ok (.bipush (7), 2) := by decide +kernel
theorem dc_146_25 : decode (sm_cc 146) 25 = .ok (.if_icmp .gt (20), 3) := by decide +kernel
theorem dc_146_28 : decode (sm_cc 146) 28 = .ok (.aload_n 0, 1) := by decide +kernel
theorem dc_146_29 : decode (sm_cc 146) 29 = .ok (.getfield 62, 3) := by decide +kernel
theorem fr_146_62 : sm_at mt_f (sm_ow 146) 62 = some (62, 2, 14, 0, 390) := by decide +kernel
theorem dc_146_32 : decode (sm_cc 146) 32 = .ok (.ifCond .lt (13), 3) := by decide +kernel
theorem dc_146_35 : decode (sm_cc 146) 35 = .ok (.aload_n 0, 1) := by decide +kernel
theorem dc_146_36 : decode (sm_cc 146) 36 = .ok (.getfield 62, 3) := by decide +kernel
theorem dc_146_39 : decode (sm_cc 146) 39 = .ok (.sipush (1500), 3) := by decide +kernel
theorem dc_146_42 : decode (sm_cc 146) 42 = .ok (.if_icmp .le (4), 3) := by decide +kernel
theorem dc_146_46 : decode (sm_cc 146) 46 = .ok (.aload_n 0, 1) := by decide +kernel
theorem dc_146_47 : decode (sm_cc 146) 47 = .ok (.getfield 42, 3) := by decide +kernel
theorem fr_146_42 : sm_at mt_f (sm_ow 146) 42 = some (42, 2, 9, 0, 385) := by decide +kernel
theorem dc_146_50 : decode (sm_cc 146) 50 = .ok (.aload_n 0, 1) := by decide +kernel
theorem dc_146_51 : decode (sm_cc 146) 51 = .ok (.getfield 11, 3) := by decide +kernel
theorem dc_146_54 : decode (sm_cc 146) 54 = .ok (.iload_n 1, 1) := by decide +kernel
theorem dc_146_55 : decode (sm_cc 146) 55 = .ok (.iaload, 1) := by decide +kernel
theorem dc_146_56 : decode (sm_cc 146) 56 = .ok (.dup2, 1) := by decide +kernel
theorem dc_146_57 : decode (sm_cc 146) 57 = .ok (.iaload, 1) := by decide +kernel
theorem dc_146_58 : decode (sm_cc 146) 58 = .ok (.iconst 1, 1) := by decide +kernel
theorem dc_146_59 : decode (sm_cc 146) 59 = .ok (.isub, 1) := by decide +kernel
theorem dc_146_60 : decode (sm_cc 146) 60 = .ok (.iastore, 1) := by decide +kernel
theorem dc_146_61 : decode (sm_cc 146) 61 = .ok (.aload_n 0, 1) := by decide +kernel
theorem dc_146_62 : decode (sm_cc 146) 62 = .ok (.getfield 11, 3) := by decide +kernel
theorem dc_146_65 : decode (sm_cc 146) 65 = .ok (.iload_n 1, 1) := by decide +kernel
theorem dc_146_66 : decode (sm_cc 146) 66 = .ok (.iconst 0, 1) := by decide +kernel
theorem dc_146_67 : decode (sm_cc 146) 67 = .ok (.iastore, 1) := by decide +kernel
theorem dc_146_68 : decode (sm_cc 146) 68 = .ok (.aload_n 0, 1) := by decide +kernel
theorem dc_146_69 : decode (sm_cc 146) 69 = .ok (.getfield 15, 3) := by decide +kernel
theorem fr_146_15 : sm_at mt_f (sm_ow 146) 15 = some (15, 2, 1, 0, 374) := by decide +kernel
theorem dc_146_72 : decode (sm_cc 146) 72 = .ok (.iload_n 1, 1) := by decide +kernel
theorem dc_146_73 : decode (sm_cc 146) 73 = .ok (.iconst 0, 1) := by decide +kernel
theorem dc_146_74 : decode (sm_cc 146) 74 = .ok (.iastore, 1) := by decide +kernel
theorem dc_146_75 : decode (sm_cc 146) 75 = .ok (.aload_n 0, 1) := by decide +kernel
theorem dc_146_76 : decode (sm_cc 146) 76 = .ok (.getfield 33, 3) := by decide +kernel
theorem fr_146_33 : sm_at mt_f (sm_ow 146) 33 = some (33, 2, 7, 0, 383) := by decide +kernel
theorem dc_146_79 : decode (sm_cc 146) 79 = .ok (.iload_n 1, 1) := by decide +kernel
theorem dc_146_80 : decode (sm_cc 146) 80 = .ok (.iconst 0, 1) := by decide +kernel
theorem dc_146_81 : decode (sm_cc 146) 81 = .ok (.iastore, 1) := by decide +kernel
theorem dc_146_82 : decode (sm_cc 146) 82 = .ok (.aload_n 0, 1) := by decide +kernel
theorem dc_146_83 : decode (sm_cc 146) 83 = .ok (.dup, 1) := by decide +kernel
theorem dc_146_84 : decode (sm_cc 146) 84 = .ok (.getfield 55, 3) := by decide +kernel
theorem fr_146_55 : sm_at mt_f (sm_ow 146) 55 = some (55, 2, 13, 0, 389) := by decide +kernel
theorem dc_146_87 : decode (sm_cc 146) 87 = .ok (.iconst 1, 1) := by decide +kernel
theorem dc_146_88 : decode (sm_cc 146) 88 = .ok (.isub, 1) := by decide +kernel
theorem dc_146_89 : decode (sm_cc 146) 89 = .ok (.putfield 55, 3) := by decide +kernel
theorem dc_146_92 : decode (sm_cc 146) 92 = .ok (.aload_n 0, 1) := by decide +kernel
theorem dc_146_93 : decode (sm_cc 146) 93 = .ok (.getfield 45, 3) := by decide +kernel
theorem fr_146_45 : sm_at mt_f (sm_ow 146) 45 = some (45, 2, 10, 0, 386) := by decide +kernel
theorem dc_146_96 : decode (sm_cc 146) 96 = .ok (.aload_n 0, 1) := by decide +kernel
theorem dc_146_97 : decode (sm_cc 146) 97 = .ok (.getfield 62, 3) := by decide +kernel
theorem dc_146_100 : decode (sm_cc 146) 100 = .ok (.iload_n 1, 1) := by decide +kernel
theorem dc_146_101 : decode (sm_cc 146) 101 = .ok (.iastore, 1) := by decide +kernel
theorem dc_146_102 : decode (sm_cc 146) 102 = .ok (.aload_n 0, 1) := by decide +kernel
theorem dc_146_103 : decode (sm_cc 146) 103 = .ok (.dup, 1) := by decide +kernel
theorem dc_146_104 : decode (sm_cc 146) 104 = .ok (.getfield 62, 3) := by decide +kernel
theorem dc_146_107 : decode (sm_cc 146) 107 = .ok (.iconst 1, 1) := by decide +kernel
theorem dc_146_108 : decode (sm_cc 146) 108 = .ok (.iadd, 1) := by decide +kernel
theorem dc_146_109 : decode (sm_cc 146) 109 = .ok (.putfield 62, 3) := by decide +kernel
theorem dc_146_112 : decode (sm_cc 146) 112 = .ok (.return_, 1) := by decide +kernel
theorem rt_146 : sm_rt 146 = none := by decide +kernel
theorem ml_146 : sm_ml 146 = 2 := by decide +kernel
theorem dc_178_0 : decode (sm_cc 178) 0 = .ok (.aload_n 0, 1) := by decide +kernel
theorem dc_178_1 : decode (sm_cc 178) 1 = .ok (.getfield 55, 3) := by decide +kernel
theorem fr_178_55 : sm_at mt_f (sm_ow 178) 55 = some (55, 2, 13, 0, 389) := by decide +kernel
theorem dc_178_4 : decode (sm_cc 178) 4 = .ok (.sipush (1500), 3) := by decide +kernel
theorem dc_178_7 : decode (sm_cc 178) 7 = .ok (.if_icmp .ge (14), 3) := by decide +kernel
theorem dc_178_10 : decode (sm_cc 178) 10 = .ok (.iload_n 1, 1) := by decide +kernel
theorem dc_178_11 : decode (sm_cc 178) 11 = .ok (.iconst 1, 1) := by decide +kernel
theorem dc_178_12 : decode (sm_cc 178) 12 = .ok (.if_icmp .lt (9), 3) := by decide +kernel
theorem dc_178_15 : decode (sm_cc 178) 15 = .ok (.iload_n 1, 1) := by decide +kernel
theorem dc_178_16 : decode (sm_cc 178) 16 = .ok (.bipush (7), 2) := by decide +kernel
theorem dc_178_18 : decode (sm_cc 178) 18 = .ok (.if_icmp .le (5), 3) := by decide +kernel
theorem dc_178_23 : decode (sm_cc 178) 23 = .ok (.aload_n 0, 1) := by decide +kernel
theorem dc_178_24 : decode (sm_cc 178) 24 = .ok (.getfield 59, 3) := by decide +kernel
theorem fr_178_59 : sm_at mt_f (sm_ow 178) 59 = some (59, 2, 15, 0, 391) := by decide +kernel
theorem dc_178_27 : decode (sm_cc 178) 27 = .ok (.iconst 1, 1) := by decide +kernel
theorem dc_178_28 : decode (sm_cc 178) 28 = .ok (.iadd, 1) := by decide +kernel
theorem dc_178_29 : decode (sm_cc 178) 29 = .ok (.istore_n 2, 1) := by decide +kernel
theorem ml_178 : sm_ml 178 = 3 := by decide +kernel
theorem dc_178_30 : decode (sm_cc 178) 30 = .ok (.aload_n 0, 1) := by decide +kernel
theorem dc_178_31 : decode (sm_cc 178) 31 = .ok (.getfield 62, 3) := by decide +kernel
theorem fr_178_62 : sm_at mt_f (sm_ow 178) 62 = some (62, 2, 14, 0, 390) := by decide +kernel
theorem dc_178_34 : decode (sm_cc 178) 34 = .ok (.ifCond .le (36), 3) := by decide +kernel
theorem dc_178_37 : decode (sm_cc 178) 37 = .ok (.aload_n 0, 1) := by decide +kernel
theorem dc_178_38 : decode (sm_cc 178) 38 = .ok (.getfield 62, 3) := by decide +kernel
theorem dc_178_41 : decode (sm_cc 178) 41 = .ok (.sipush (1500), 3) := by decide +kernel
theorem dc_178_44 : decode (sm_cc 178) 44 = .ok (.if_icmp .gt (26), 3) := by decide +kernel
theorem dc_178_47 : decode (sm_cc 178) 47 = .ok (.aload_n 0, 1) := by decide +kernel
theorem dc_178_48 : decode (sm_cc 178) 48 = .ok (.dup, 1) := by decide +kernel
theorem dc_178_49 : decode (sm_cc 178) 49 = .ok (.getfield 62, 3) := by decide +kernel
theorem dc_178_52 : decode (sm_cc 178) 52 = .ok (.iconst 1, 1) := by decide +kernel
theorem dc_178_53 : decode (sm_cc 178) 53 = .ok (.isub, 1) := by decide +kernel
theorem dc_178_54 : decode (sm_cc 178) 54 = .ok (.putfield 62, 3) := by decide +kernel
theorem dc_178_57 : decode (sm_cc 178) 57 = .ok (.aload_n 0, 1) := by decide +kernel
theorem dc_178_58 : decode (sm_cc 178) 58 = .ok (.getfield 45, 3) := by decide +kernel
theorem fr_178_45 : sm_at mt_f (sm_ow 178) 45 = some (45, 2, 10, 0, 386) := by decide +kernel
theorem dc_178_61 : decode (sm_cc 178) 61 = .ok (.aload_n 0, 1) := by decide +kernel
theorem dc_178_62 : decode (sm_cc 178) 62 = .ok (.getfield 62, 3) := by decide +kernel
theorem dc_178_65 : decode (sm_cc 178) 65 = .ok (.iaload, 1) := by decide +kernel
theorem dc_178_66 : decode (sm_cc 178) 66 = .ok (.istore_n 2, 1) := by decide +kernel
theorem dc_178_67 : decode (sm_cc 178) 67 = .ok (.goto (13), 3) := by decide +kernel
theorem dc_178_80 : decode (sm_cc 178) 80 = .ok (.iload_n 2, 1) := by decide +kernel
theorem dc_178_81 : decode (sm_cc 178) 81 = .ok (.invokestatic 65, 3) := by decide +kernel
theorem kr_178_65 : sm_at mt_k (sm_ow 178) 65 = some (65, 2, 139, 0, 1392) := by decide +kernel
theorem dc_178_84 : decode (sm_cc 178) 84 = .ok (.ifCond .ne (5), 3) := by decide +kernel
theorem dc_178_89 : decode (sm_cc 178) 89 = .ok (.aload_n 0, 1) := by decide +kernel
theorem dc_178_90 : decode (sm_cc 178) 90 = .ok (.getfield 11, 3) := by decide +kernel
theorem fr_178_11 : sm_at mt_f (sm_ow 178) 11 = some (11, 2, 0, 0, 373) := by decide +kernel
theorem dc_178_93 : decode (sm_cc 178) 93 = .ok (.iload_n 2, 1) := by decide +kernel
theorem dc_178_94 : decode (sm_cc 178) 94 = .ok (.iload_n 1, 1) := by decide +kernel
theorem dc_178_95 : decode (sm_cc 178) 95 = .ok (.iastore, 1) := by decide +kernel
theorem dc_178_96 : decode (sm_cc 178) 96 = .ok (.aload_n 0, 1) := by decide +kernel
theorem dc_178_97 : decode (sm_cc 178) 97 = .ok (.getfield 24, 3) := by decide +kernel
theorem fr_178_24 : sm_at mt_f (sm_ow 178) 24 = some (24, 2, 4, 0, 380) := by decide +kernel
theorem dc_178_100 : decode (sm_cc 178) 100 = .ok (.iload_n 2, 1) := by decide +kernel
theorem dc_178_101 : decode (sm_cc 178) 101 = .ok (.iconst 0, 1) := by decide +kernel
theorem dc_178_102 : decode (sm_cc 178) 102 = .ok (.iastore, 1) := by decide +kernel
theorem dc_178_103 : decode (sm_cc 178) 103 = .ok (.aload_n 0, 1) := by decide +kernel
theorem dc_178_104 : decode (sm_cc 178) 104 = .ok (.getfield 27, 3) := by decide +kernel
theorem fr_178_27 : sm_at mt_f (sm_ow 178) 27 = some (27, 2, 5, 0, 381) := by decide +kernel
theorem dc_178_107 : decode (sm_cc 178) 107 = .ok (.iload_n 2, 1) := by decide +kernel
theorem dc_178_108 : decode (sm_cc 178) 108 = .ok (.iconst 0, 1) := by decide +kernel
theorem dc_178_109 : decode (sm_cc 178) 109 = .ok (.iastore, 1) := by decide +kernel
theorem dc_178_110 : decode (sm_cc 178) 110 = .ok (.aload_n 0, 1) := by decide +kernel
theorem dc_178_111 : decode (sm_cc 178) 111 = .ok (.getfield 30, 3) := by decide +kernel
theorem fr_178_30 : sm_at mt_f (sm_ow 178) 30 = some (30, 2, 6, 0, 382) := by decide +kernel
theorem dc_178_114 : decode (sm_cc 178) 114 = .ok (.iload_n 2, 1) := by decide +kernel
theorem dc_178_115 : decode (sm_cc 178) 115 = .ok (.iconst 0, 1) := by decide +kernel
theorem dc_178_116 : decode (sm_cc 178) 116 = .ok (.iastore, 1) := by decide +kernel
theorem dc_178_117 : decode (sm_cc 178) 117 = .ok (.aload_n 0, 1) := by decide +kernel
theorem dc_178_118 : decode (sm_cc 178) 118 = .ok (.getfield 33, 3) := by decide +kernel
theorem fr_178_33 : sm_at mt_f (sm_ow 178) 33 = some (33, 2, 7, 0, 383) := by decide +kernel
theorem dc_178_121 : decode (sm_cc 178) 121 = .ok (.iload_n 2, 1) := by decide +kernel
theorem dc_178_122 : decode (sm_cc 178) 122 = .ok (.iconst 0, 1) := by decide +kernel
theorem dc_178_123 : decode (sm_cc 178) 123 = .ok (.iastore, 1) := by decide +kernel
theorem dc_178_124 : decode (sm_cc 178) 124 = .ok (.aload_n 0, 1) := by decide +kernel
theorem dc_178_125 : decode (sm_cc 178) 125 = .ok (.dup, 1) := by decide +kernel
theorem dc_178_126 : decode (sm_cc 178) 126 = .ok (.getfield 55, 3) := by decide +kernel
theorem dc_178_129 : decode (sm_cc 178) 129 = .ok (.iconst 1, 1) := by decide +kernel
theorem dc_178_130 : decode (sm_cc 178) 130 = .ok (.iadd, 1) := by decide +kernel
theorem dc_178_131 : decode (sm_cc 178) 131 = .ok (.putfield 55, 3) := by decide +kernel
theorem dc_178_134 : decode (sm_cc 178) 134 = .ok (.aload_n 0, 1) := by decide +kernel
theorem dc_178_135 : decode (sm_cc 178) 135 = .ok (.getfield 42, 3) := by decide +kernel
theorem fr_178_42 : sm_at mt_f (sm_ow 178) 42 = some (42, 2, 9, 0, 385) := by decide +kernel
theorem dc_178_138 : decode (sm_cc 178) 138 = .ok (.iload_n 1, 1) := by decide +kernel
theorem dc_178_139 : decode (sm_cc 178) 139 = .ok (.dup2, 1) := by decide +kernel
theorem dc_178_140 : decode (sm_cc 178) 140 = .ok (.iaload, 1) := by decide +kernel
theorem dc_178_141 : decode (sm_cc 178) 141 = .ok (.iconst 1, 1) := by decide +kernel
theorem dc_178_142 : decode (sm_cc 178) 142 = .ok (.iadd, 1) := by decide +kernel
theorem dc_178_143 : decode (sm_cc 178) 143 = .ok (.iastore, 1) := by decide +kernel
theorem dc_178_144 : decode (sm_cc 178) 144 = .ok (.iload_n 2, 1) := by decide +kernel
theorem dc_178_145 : decode (sm_cc 178) 145 = .ok (.ireturn, 1) := by decide +kernel
theorem rt_178 : sm_rt 178 = some .int := by decide +kernel
theorem dc_178_70 : decode (sm_cc 178) 70 = .ok (.aload_n 0, 1) := by decide +kernel
theorem dc_178_71 : decode (sm_cc 178) 71 = .ok (.dup, 1) := by decide +kernel
theorem dc_178_72 : decode (sm_cc 178) 72 = .ok (.getfield 59, 3) := by decide +kernel
theorem dc_178_75 : decode (sm_cc 178) 75 = .ok (.iconst 1, 1) := by decide +kernel
theorem dc_178_76 : decode (sm_cc 178) 76 = .ok (.iadd, 1) := by decide +kernel
theorem dc_178_77 : decode (sm_cc 178) 77 = .ok (.putfield 59, 3) := by decide +kernel
theorem dc_178_21 : decode (sm_cc 178) 21 = .ok (.iconst 0, 1) := by decide +kernel
theorem dc_178_22 : decode (sm_cc 178) 22 = .ok (.ireturn, 1) := by decide +kernel
theorem dc_179_0 : decode (sm_cc 179) 0 = .ok (.iload_n 1, 1) := by decide +kernel
theorem dc_179_1 : decode (sm_cc 179) 1 = .ok (.invokestatic 65, 3) := by decide +kernel
theorem kr_179_65 : sm_at mt_k (sm_ow 179) 65 = some (65, 2, 139, 0, 1392) := by decide +kernel
theorem dc_179_4 : decode (sm_cc 179) 4 = .ok (.ifCond .ne (4), 3) := by decide +kernel
theorem dc_179_8 : decode (sm_cc 179) 8 = .ok (.aload_n 0, 1) := by decide +kernel
theorem dc_179_9 : decode (sm_cc 179) 9 = .ok (.getfield 30, 3) := by decide +kernel
theorem fr_179_30 : sm_at mt_f (sm_ow 179) 30 = some (30, 2, 6, 0, 382) := by decide +kernel
theorem dc_179_12 : decode (sm_cc 179) 12 = .ok (.iload_n 1, 1) := by decide +kernel
theorem dc_179_13 : decode (sm_cc 179) 13 = .ok (.iload_n 2, 1) := by decide +kernel
theorem dc_179_14 : decode (sm_cc 179) 14 = .ok (.iastore, 1) := by decide +kernel
theorem dc_179_15 : decode (sm_cc 179) 15 = .ok (.aload_n 0, 1) := by decide +kernel
theorem dc_179_16 : decode (sm_cc 179) 16 = .ok (.getfield 24, 3) := by decide +kernel
theorem fr_179_24 : sm_at mt_f (sm_ow 179) 24 = some (24, 2, 4, 0, 380) := by decide +kernel
theorem dc_179_19 : decode (sm_cc 179) 19 = .ok (.iload_n 1, 1) := by decide +kernel
theorem dc_179_20 : decode (sm_cc 179) 20 = .ok (.iload_n 3, 1) := by decide +kernel
theorem dc_179_21 : decode (sm_cc 179) 21 = .ok (.iastore, 1) := by decide +kernel
theorem dc_179_22 : decode (sm_cc 179) 22 = .ok (.aload_n 0, 1) := by decide +kernel
theorem dc_179_23 : decode (sm_cc 179) 23 = .ok (.getfield 27, 3) := by decide +kernel
theorem fr_179_27 : sm_at mt_f (sm_ow 179) 27 = some (27, 2, 5, 0, 381) := by decide +kernel
theorem dc_179_26 : decode (sm_cc 179) 26 = .ok (.iload_n 1, 1) := by decide +kernel
theorem dc_179_27 : decode (sm_cc 179) 27 = .ok (.iload 4, 2) := by decide +kernel
theorem dc_179_29 : decode (sm_cc 179) 29 = .ok (.iastore, 1) := by decide +kernel
theorem dc_179_30 : decode (sm_cc 179) 30 = .ok (.aload_n 0, 1) := by decide +kernel
theorem dc_179_31 : decode (sm_cc 179) 31 = .ok (.aload_n 0, 1) := by decide +kernel
theorem dc_179_32 : decode (sm_cc 179) 32 = .ok (.getfield 15, 3) := by decide +kernel
theorem fr_179_15 : sm_at mt_f (sm_ow 179) 15 = some (15, 2, 1, 0, 374) := by decide +kernel
theorem dc_179_35 : decode (sm_cc 179) 35 = .ok (.iload_n 3, 1) := by decide +kernel
theorem dc_179_36 : decode (sm_cc 179) 36 = .ok (.invokevirtual 69, 3) := by decide +kernel
theorem kr_179_69 : sm_at mt_k (sm_ow 179) 69 = some (69, 0, 149, 0, 1549) := by decide +kernel
theorem dc_179_39 : decode (sm_cc 179) 39 = .ok (.aload_n 0, 1) := by decide +kernel
theorem dc_179_40 : decode (sm_cc 179) 40 = .ok (.aload_n 0, 1) := by decide +kernel
theorem dc_179_41 : decode (sm_cc 179) 41 = .ok (.getfield 15, 3) := by decide +kernel
theorem dc_179_44 : decode (sm_cc 179) 44 = .ok (.iload 4, 2) := by decide +kernel
theorem dc_179_46 : decode (sm_cc 179) 46 = .ok (.invokevirtual 69, 3) := by decide +kernel
theorem dc_179_49 : decode (sm_cc 179) 49 = .ok (.return_, 1) := by decide +kernel
theorem rt_179 : sm_rt 179 = none := by decide +kernel
theorem ml_179 : sm_ml 179 = 5 := by decide +kernel
theorem dc_250_0 : decode (sm_cc 250) 0 = .ok (.iload_n 1, 1) := by decide +kernel
theorem dc_250_1 : decode (sm_cc 250) 1 = .ok (.invokestatic 65, 3) := by decide +kernel
theorem kr_250_65 : sm_at mt_k (sm_ow 250) 65 = some (65, 2, 139, 0, 1392) := by decide +kernel
theorem dc_250_4 : decode (sm_cc 250) 4 = .ok (.ifCond .eq (19), 3) := by decide +kernel
theorem dc_250_7 : decode (sm_cc 250) 7 = .ok (.aload_n 0, 1) := by decide +kernel
theorem dc_250_8 : decode (sm_cc 250) 8 = .ok (.getfield 15, 3) := by decide +kernel
theorem fr_250_15 : sm_at mt_f (sm_ow 250) 15 = some (15, 2, 1, 0, 374) := by decide +kernel
theorem dc_250_11 : decode (sm_cc 250) 11 = .ok (.iload_n 1, 1) := by decide +kernel
theorem dc_250_12 : decode (sm_cc 250) 12 = .ok (.iaload, 1) := by decide +kernel
theorem dc_250_13 : decode (sm_cc 250) 13 = .ok (.aload_n 0, 1) := by decide +kernel
theorem dc_250_14 : decode (sm_cc 250) 14 = .ok (.getfield 18, 3) := by decide +kernel
theorem fr_250_18 : sm_at mt_f (sm_ow 250) 18 = some (18, 2, 2, 0, 375) := by decide +kernel
theorem dc_250_17 : decode (sm_cc 250) 17 = .ok (.iload_n 1, 1) := by decide +kernel
theorem dc_250_18 : decode (sm_cc 250) 18 = .ok (.iaload, 1) := by decide +kernel
theorem dc_250_19 : decode (sm_cc 250) 19 = .ok (.iadd, 1) := by decide +kernel
theorem dc_250_20 : decode (sm_cc 250) 20 = .ok (.goto (4), 3) := by decide +kernel
theorem dc_250_24 : decode (sm_cc 250) 24 = .ok (.ireturn, 1) := by decide +kernel
theorem rt_250 : sm_rt 250 = some .int := by decide +kernel
theorem ml_250 : sm_ml 250 = 2 := by decide +kernel
/-- how many longs an entry of a kind takes; how many entries there may be -/
def c_width (kd : Nat) : Nat := if kd = 1 ∨ kd = 7 then 2 else if kd = 2 ∨ kd = 4 ∨ kd = 5 then 4 else 0
def c_most (kd : Nat) : Nat := if kd = 1 ∨ kd = 7 then 300 else if kd = 2 then 100 else 40
theorem widthOf_0 {d : Nat} {S : cS}   : Ans (d + 1) 145 [.int (nI 0)] S (some (.int (nI 0))) (S) := by
  refine Ans.of (by rw [ml_145]; exact Nat.le_of_ble_eq_true rfl) ?_
  refine Bod.go dc_145_0 rfl ?_
  refine Bod.ic 1 (by decide) dc_145_1 ?_
  refine Bod.icF dc_145_2 rfl (k2_eq_F (k_ne 0 1 rfl rfl (by omega) (by omega) (by omega))) ?_
  refine Bod.go dc_145_5 rfl ?_
  refine Bod.bip 7 (by decide) dc_145_6 ?_
  refine Bod.icT dc_145_8 rfl (k2_ne_T (k_ne 0 7 rfl rfl (by omega) (by omega) (by omega))) ?_
  refine Bod.go dc_145_13 rfl ?_
  refine Bod.ic 2 (by decide) dc_145_14 ?_
  refine Bod.icF dc_145_15 rfl (k2_eq_F (k_ne 0 2 rfl rfl (by omega) (by omega) (by omega))) ?_
  refine Bod.go dc_145_18 rfl ?_
  refine Bod.ic 4 (by decide) dc_145_19 ?_
  refine Bod.icF dc_145_20 rfl (k2_eq_F (k_ne 0 4 rfl rfl (by omega) (by omega) (by omega))) ?_
  refine Bod.go dc_145_23 rfl ?_
  refine Bod.ic 5 (by decide) dc_145_24 ?_
  refine Bod.icT dc_145_25 rfl (k2_ne_T (k_ne 0 5 rfl rfl (by omega) (by omega) (by omega))) ?_
  refine Bod.ic 0 (by decide) dc_145_32 ?_
  exact Bod.retI dc_145_33 rt_145
theorem mostOf_0 {d : Nat} {S : cS}   : Ans (d + 1) 184 [.int (nI 0)] S (some (.int (nI 40))) (S) := by
  refine Ans.of (by rw [ml_184]; exact Nat.le_of_ble_eq_true rfl) ?_
  refine Bod.go dc_184_0 rfl ?_
  refine Bod.ic 1 (by decide) dc_184_1 ?_
  refine Bod.icF dc_184_2 rfl (k2_eq_F (k_ne 0 1 rfl rfl (by omega) (by omega) (by omega))) ?_
  refine Bod.go dc_184_5 rfl ?_
  refine Bod.bip 7 (by decide) dc_184_6 ?_
  refine Bod.icT dc_184_8 rfl (k2_ne_T (k_ne 0 7 rfl rfl (by omega) (by omega) (by omega))) ?_
  refine Bod.go dc_184_15 rfl ?_
  refine Bod.ic 2 (by decide) dc_184_16 ?_
  refine Bod.icT dc_184_17 rfl (k2_ne_T (k_ne 0 2 rfl rfl (by omega) (by omega) (by omega))) ?_
  refine Bod.bip 40 (by decide) dc_184_25 ?_
  exact Bod.retI dc_184_27 rt_184
theorem widthOf_1 {d : Nat} {S : cS}   : Ans (d + 1) 145 [.int (nI 1)] S (some (.int (nI 2))) (S) := by
  refine Ans.of (by rw [ml_145]; exact Nat.le_of_ble_eq_true rfl) ?_
  refine Bod.go dc_145_0 rfl ?_
  refine Bod.ic 1 (by decide) dc_145_1 ?_
  refine Bod.icT dc_145_2 rfl (k2_eq_T (k_eq 1 1 rfl rfl (by omega))) ?_
  refine Bod.ic 2 (by decide) dc_145_11 ?_
  exact Bod.retI dc_145_12 rt_145
theorem mostOf_1 {d : Nat} {S : cS}   : Ans (d + 1) 184 [.int (nI 1)] S (some (.int (nI 300))) (S) := by
  refine Ans.of (by rw [ml_184]; exact Nat.le_of_ble_eq_true rfl) ?_
  refine Bod.go dc_184_0 rfl ?_
  refine Bod.ic 1 (by decide) dc_184_1 ?_
  refine Bod.icT dc_184_2 rfl (k2_eq_T (k_eq 1 1 rfl rfl (by omega))) ?_
  refine Bod.sip 300 (by decide) dc_184_11 ?_
  exact Bod.retI dc_184_14 rt_184
theorem widthOf_2 {d : Nat} {S : cS}   : Ans (d + 1) 145 [.int (nI 2)] S (some (.int (nI 4))) (S) := by
  refine Ans.of (by rw [ml_145]; exact Nat.le_of_ble_eq_true rfl) ?_
  refine Bod.go dc_145_0 rfl ?_
  refine Bod.ic 1 (by decide) dc_145_1 ?_
  refine Bod.icF dc_145_2 rfl (k2_eq_F (k_ne 2 1 rfl rfl (by omega) (by omega) (by omega))) ?_
  refine Bod.go dc_145_5 rfl ?_
  refine Bod.bip 7 (by decide) dc_145_6 ?_
  refine Bod.icT dc_145_8 rfl (k2_ne_T (k_ne 2 7 rfl rfl (by omega) (by omega) (by omega))) ?_
  refine Bod.go dc_145_13 rfl ?_
  refine Bod.ic 2 (by decide) dc_145_14 ?_
  refine Bod.icT dc_145_15 rfl (k2_eq_T (k_eq 2 2 rfl rfl (by omega))) ?_
  refine Bod.ic 4 (by decide) dc_145_28 ?_
  refine Bod.go dc_145_29 rfl ?_
  exact Bod.retI dc_145_33 rt_145
theorem mostOf_2 {d : Nat} {S : cS}   : Ans (d + 1) 184 [.int (nI 2)] S (some (.int (nI 100))) (S) := by
  refine Ans.of (by rw [ml_184]; exact Nat.le_of_ble_eq_true rfl) ?_
  refine Bod.go dc_184_0 rfl ?_
  refine Bod.ic 1 (by decide) dc_184_1 ?_
  refine Bod.icF dc_184_2 rfl (k2_eq_F (k_ne 2 1 rfl rfl (by omega) (by omega) (by omega))) ?_
  refine Bod.go dc_184_5 rfl ?_
  refine Bod.bip 7 (by decide) dc_184_6 ?_
  refine Bod.icT dc_184_8 rfl (k2_ne_T (k_ne 2 7 rfl rfl (by omega) (by omega) (by omega))) ?_
  refine Bod.go dc_184_15 rfl ?_
  refine Bod.ic 2 (by decide) dc_184_16 ?_
  refine Bod.icF dc_184_17 rfl (k2_ne_F (k_eq 2 2 rfl rfl (by omega))) ?_
  refine Bod.bip 100 (by decide) dc_184_20 ?_
  refine Bod.go dc_184_22 rfl ?_
  exact Bod.retI dc_184_27 rt_184
theorem widthOf_3 {d : Nat} {S : cS}   : Ans (d + 1) 145 [.int (nI 3)] S (some (.int (nI 0))) (S) := by
  refine Ans.of (by rw [ml_145]; exact Nat.le_of_ble_eq_true rfl) ?_
  refine Bod.go dc_145_0 rfl ?_
  refine Bod.ic 1 (by decide) dc_145_1 ?_
  refine Bod.icF dc_145_2 rfl (k2_eq_F (k_ne 3 1 rfl rfl (by omega) (by omega) (by omega))) ?_
  refine Bod.go dc_145_5 rfl ?_
  refine Bod.bip 7 (by decide) dc_145_6 ?_
  refine Bod.icT dc_145_8 rfl (k2_ne_T (k_ne 3 7 rfl rfl (by omega) (by omega) (by omega))) ?_
  refine Bod.go dc_145_13 rfl ?_
  refine Bod.ic 2 (by decide) dc_145_14 ?_
  refine Bod.icF dc_145_15 rfl (k2_eq_F (k_ne 3 2 rfl rfl (by omega) (by omega) (by omega))) ?_
  refine Bod.go dc_145_18 rfl ?_
  refine Bod.ic 4 (by decide) dc_145_19 ?_
  refine Bod.icF dc_145_20 rfl (k2_eq_F (k_ne 3 4 rfl rfl (by omega) (by omega) (by omega))) ?_
  refine Bod.go dc_145_23 rfl ?_
  refine Bod.ic 5 (by decide) dc_145_24 ?_
  refine Bod.icT dc_145_25 rfl (k2_ne_T (k_ne 3 5 rfl rfl (by omega) (by omega) (by omega))) ?_
  refine Bod.ic 0 (by decide) dc_145_32 ?_
  exact Bod.retI dc_145_33 rt_145
theorem mostOf_3 {d : Nat} {S : cS}   : Ans (d + 1) 184 [.int (nI 3)] S (some (.int (nI 40))) (S) := by
  refine Ans.of (by rw [ml_184]; exact Nat.le_of_ble_eq_true rfl) ?_
  refine Bod.go dc_184_0 rfl ?_
  refine Bod.ic 1 (by decide) dc_184_1 ?_
  refine Bod.icF dc_184_2 rfl (k2_eq_F (k_ne 3 1 rfl rfl (by omega) (by omega) (by omega))) ?_
  refine Bod.go dc_184_5 rfl ?_
  refine Bod.bip 7 (by decide) dc_184_6 ?_
  refine Bod.icT dc_184_8 rfl (k2_ne_T (k_ne 3 7 rfl rfl (by omega) (by omega) (by omega))) ?_
  refine Bod.go dc_184_15 rfl ?_
  refine Bod.ic 2 (by decide) dc_184_16 ?_
  refine Bod.icT dc_184_17 rfl (k2_ne_T (k_ne 3 2 rfl rfl (by omega) (by omega) (by omega))) ?_
  refine Bod.bip 40 (by decide) dc_184_25 ?_
  exact Bod.retI dc_184_27 rt_184
theorem widthOf_4 {d : Nat} {S : cS}   : Ans (d + 1) 145 [.int (nI 4)] S (some (.int (nI 4))) (S) := by
  refine Ans.of (by rw [ml_145]; exact Nat.le_of_ble_eq_true rfl) ?_
  refine Bod.go dc_145_0 rfl ?_
  refine Bod.ic 1 (by decide) dc_145_1 ?_
  refine Bod.icF dc_145_2 rfl (k2_eq_F (k_ne 4 1 rfl rfl (by omega) (by omega) (by omega))) ?_
  refine Bod.go dc_145_5 rfl ?_
  refine Bod.bip 7 (by decide) dc_145_6 ?_
  refine Bod.icT dc_145_8 rfl (k2_ne_T (k_ne 4 7 rfl rfl (by omega) (by omega) (by omega))) ?_
  refine Bod.go dc_145_13 rfl ?_
  refine Bod.ic 2 (by decide) dc_145_14 ?_
  refine Bod.icF dc_145_15 rfl (k2_eq_F (k_ne 4 2 rfl rfl (by omega) (by omega) (by omega))) ?_
  refine Bod.go dc_145_18 rfl ?_
  refine Bod.ic 4 (by decide) dc_145_19 ?_
  refine Bod.icT dc_145_20 rfl (k2_eq_T (k_eq 4 4 rfl rfl (by omega))) ?_
  refine Bod.ic 4 (by decide) dc_145_28 ?_
  refine Bod.go dc_145_29 rfl ?_
  exact Bod.retI dc_145_33 rt_145
theorem mostOf_4 {d : Nat} {S : cS}   : Ans (d + 1) 184 [.int (nI 4)] S (some (.int (nI 40))) (S) := by
  refine Ans.of (by rw [ml_184]; exact Nat.le_of_ble_eq_true rfl) ?_
  refine Bod.go dc_184_0 rfl ?_
  refine Bod.ic 1 (by decide) dc_184_1 ?_
  refine Bod.icF dc_184_2 rfl (k2_eq_F (k_ne 4 1 rfl rfl (by omega) (by omega) (by omega))) ?_
  refine Bod.go dc_184_5 rfl ?_
  refine Bod.bip 7 (by decide) dc_184_6 ?_
  refine Bod.icT dc_184_8 rfl (k2_ne_T (k_ne 4 7 rfl rfl (by omega) (by omega) (by omega))) ?_
  refine Bod.go dc_184_15 rfl ?_
  refine Bod.ic 2 (by decide) dc_184_16 ?_
  refine Bod.icT dc_184_17 rfl (k2_ne_T (k_ne 4 2 rfl rfl (by omega) (by omega) (by omega))) ?_
  refine Bod.bip 40 (by decide) dc_184_25 ?_
  exact Bod.retI dc_184_27 rt_184
theorem widthOf_5 {d : Nat} {S : cS}   : Ans (d + 1) 145 [.int (nI 5)] S (some (.int (nI 4))) (S) := by
  refine Ans.of (by rw [ml_145]; exact Nat.le_of_ble_eq_true rfl) ?_
  refine Bod.go dc_145_0 rfl ?_
  refine Bod.ic 1 (by decide) dc_145_1 ?_
  refine Bod.icF dc_145_2 rfl (k2_eq_F (k_ne 5 1 rfl rfl (by omega) (by omega) (by omega))) ?_
  refine Bod.go dc_145_5 rfl ?_
  refine Bod.bip 7 (by decide) dc_145_6 ?_
  refine Bod.icT dc_145_8 rfl (k2_ne_T (k_ne 5 7 rfl rfl (by omega) (by omega) (by omega))) ?_
  refine Bod.go dc_145_13 rfl ?_
  refine Bod.ic 2 (by decide) dc_145_14 ?_
  refine Bod.icF dc_145_15 rfl (k2_eq_F (k_ne 5 2 rfl rfl (by omega) (by omega) (by omega))) ?_
  refine Bod.go dc_145_18 rfl ?_
  refine Bod.ic 4 (by decide) dc_145_19 ?_
  refine Bod.icF dc_145_20 rfl (k2_eq_F (k_ne 5 4 rfl rfl (by omega) (by omega) (by omega))) ?_
  refine Bod.go dc_145_23 rfl ?_
  refine Bod.ic 5 (by decide) dc_145_24 ?_
  refine Bod.icF dc_145_25 rfl (k2_ne_F (k_eq 5 5 rfl rfl (by omega))) ?_
  refine Bod.ic 4 (by decide) dc_145_28 ?_
  refine Bod.go dc_145_29 rfl ?_
  exact Bod.retI dc_145_33 rt_145
theorem mostOf_5 {d : Nat} {S : cS}   : Ans (d + 1) 184 [.int (nI 5)] S (some (.int (nI 40))) (S) := by
  refine Ans.of (by rw [ml_184]; exact Nat.le_of_ble_eq_true rfl) ?_
  refine Bod.go dc_184_0 rfl ?_
  refine Bod.ic 1 (by decide) dc_184_1 ?_
  refine Bod.icF dc_184_2 rfl (k2_eq_F (k_ne 5 1 rfl rfl (by omega) (by omega) (by omega))) ?_
  refine Bod.go dc_184_5 rfl ?_
  refine Bod.bip 7 (by decide) dc_184_6 ?_
  refine Bod.icT dc_184_8 rfl (k2_ne_T (k_ne 5 7 rfl rfl (by omega) (by omega) (by omega))) ?_
  refine Bod.go dc_184_15 rfl ?_
  refine Bod.ic 2 (by decide) dc_184_16 ?_
  refine Bod.icT dc_184_17 rfl (k2_ne_T (k_ne 5 2 rfl rfl (by omega) (by omega) (by omega))) ?_
  refine Bod.bip 40 (by decide) dc_184_25 ?_
  exact Bod.retI dc_184_27 rt_184
theorem widthOf_6 {d : Nat} {S : cS}   : Ans (d + 1) 145 [.int (nI 6)] S (some (.int (nI 0))) (S) := by
  refine Ans.of (by rw [ml_145]; exact Nat.le_of_ble_eq_true rfl) ?_
  refine Bod.go dc_145_0 rfl ?_
  refine Bod.ic 1 (by decide) dc_145_1 ?_
  refine Bod.icF dc_145_2 rfl (k2_eq_F (k_ne 6 1 rfl rfl (by omega) (by omega) (by omega))) ?_
  refine Bod.go dc_145_5 rfl ?_
  refine Bod.bip 7 (by decide) dc_145_6 ?_
  refine Bod.icT dc_145_8 rfl (k2_ne_T (k_ne 6 7 rfl rfl (by omega) (by omega) (by omega))) ?_
  refine Bod.go dc_145_13 rfl ?_
  refine Bod.ic 2 (by decide) dc_145_14 ?_
  refine Bod.icF dc_145_15 rfl (k2_eq_F (k_ne 6 2 rfl rfl (by omega) (by omega) (by omega))) ?_
  refine Bod.go dc_145_18 rfl ?_
  refine Bod.ic 4 (by decide) dc_145_19 ?_
  refine Bod.icF dc_145_20 rfl (k2_eq_F (k_ne 6 4 rfl rfl (by omega) (by omega) (by omega))) ?_
  refine Bod.go dc_145_23 rfl ?_
  refine Bod.ic 5 (by decide) dc_145_24 ?_
  refine Bod.icT dc_145_25 rfl (k2_ne_T (k_ne 6 5 rfl rfl (by omega) (by omega) (by omega))) ?_
  refine Bod.ic 0 (by decide) dc_145_32 ?_
  exact Bod.retI dc_145_33 rt_145
theorem mostOf_6 {d : Nat} {S : cS}   : Ans (d + 1) 184 [.int (nI 6)] S (some (.int (nI 40))) (S) := by
  refine Ans.of (by rw [ml_184]; exact Nat.le_of_ble_eq_true rfl) ?_
  refine Bod.go dc_184_0 rfl ?_
  refine Bod.ic 1 (by decide) dc_184_1 ?_
  refine Bod.icF dc_184_2 rfl (k2_eq_F (k_ne 6 1 rfl rfl (by omega) (by omega) (by omega))) ?_
  refine Bod.go dc_184_5 rfl ?_
  refine Bod.bip 7 (by decide) dc_184_6 ?_
  refine Bod.icT dc_184_8 rfl (k2_ne_T (k_ne 6 7 rfl rfl (by omega) (by omega) (by omega))) ?_
  refine Bod.go dc_184_15 rfl ?_
  refine Bod.ic 2 (by decide) dc_184_16 ?_
  refine Bod.icT dc_184_17 rfl (k2_ne_T (k_ne 6 2 rfl rfl (by omega) (by omega) (by omega))) ?_
  refine Bod.bip 40 (by decide) dc_184_25 ?_
  exact Bod.retI dc_184_27 rt_184
theorem widthOf_7 {d : Nat} {S : cS}   : Ans (d + 1) 145 [.int (nI 7)] S (some (.int (nI 2))) (S) := by
  refine Ans.of (by rw [ml_145]; exact Nat.le_of_ble_eq_true rfl) ?_
  refine Bod.go dc_145_0 rfl ?_
  refine Bod.ic 1 (by decide) dc_145_1 ?_
  refine Bod.icF dc_145_2 rfl (k2_eq_F (k_ne 7 1 rfl rfl (by omega) (by omega) (by omega))) ?_
  refine Bod.go dc_145_5 rfl ?_
  refine Bod.bip 7 (by decide) dc_145_6 ?_
  refine Bod.icF dc_145_8 rfl (k2_ne_F (k_eq 7 7 rfl rfl (by omega))) ?_
  refine Bod.ic 2 (by decide) dc_145_11 ?_
  exact Bod.retI dc_145_12 rt_145
theorem mostOf_7 {d : Nat} {S : cS}   : Ans (d + 1) 184 [.int (nI 7)] S (some (.int (nI 300))) (S) := by
  refine Ans.of (by rw [ml_184]; exact Nat.le_of_ble_eq_true rfl) ?_
  refine Bod.go dc_184_0 rfl ?_
  refine Bod.ic 1 (by decide) dc_184_1 ?_
  refine Bod.icF dc_184_2 rfl (k2_eq_F (k_ne 7 1 rfl rfl (by omega) (by omega) (by omega))) ?_
  refine Bod.go dc_184_5 rfl ?_
  refine Bod.bip 7 (by decide) dc_184_6 ?_
  refine Bod.icF dc_184_8 rfl (k2_ne_F (k_eq 7 7 rfl rfl (by omega))) ?_
  refine Bod.sip 300 (by decide) dc_184_11 ?_
  exact Bod.retI dc_184_14 rt_184
theorem widthOf_ev {d : Nat} {S : cS} {kd w : Nat} (h : kd ≤ 7) (hw : c_width kd = w) : Ans (d + 1) 145 [.int (nI kd)] S (some (.int (nI w))) S := by
  subst hw
  have h1 : kd = 0 ∨ kd = 1 ∨ kd = 2 ∨ kd = 3 ∨ kd = 4 ∨ kd = 5 ∨ kd = 6 ∨ kd = 7 := by omega
  rcases h1 with rfl | rfl | rfl | rfl | rfl | rfl | rfl | rfl
  · exact widthOf_0
  · exact widthOf_1
  · exact widthOf_2
  · exact widthOf_3
  · exact widthOf_4
  · exact widthOf_5
  · exact widthOf_6
  · exact widthOf_7
theorem mostOf_ev {d : Nat} {S : cS} {kd w : Nat} (h : kd ≤ 7) (hw : c_most kd = w) : Ans (d + 1) 184 [.int (nI kd)] S (some (.int (nI w))) S := by
  subst hw
  have h1 : kd = 0 ∨ kd = 1 ∨ kd = 2 ∨ kd = 3 ∨ kd = 4 ∨ kd = 5 ∨ kd = 6 ∨ kd = 7 := by omega
  rcases h1 with rfl | rfl | rfl | rfl | rfl | rfl | rfl | rfl
  · exact mostOf_0
  · exact mostOf_1
  · exact mostOf_2
  · exact mostOf_3
  · exact mostOf_4
  · exact mostOf_5
  · exact mostOf_6
  · exact mostOf_7
theorem placeOf_2 {d : Nat} {S : cS} {k : Nat} {kd : Nat} {z : Nat} {a : Nat} {N : Nat} {e : Nat} (h0 : 1 ≤ k) (hk : k ≤ 1500) (hkd : sA S 3 k = nI kd) (h7 : kd ≤ 7) (hsz : sA S 10 k = nI z) (hr : sQ S 11 k = some a) (ha : 108 ≤ a) (hs : (sS S)[a - 108]? = some (1, N)) (hN : N < 2 ^ 31) (hw : c_width kd = 2) (he : e < z) (hz : z < 2 ^ 20) (hl : 2 * e + 2 ≤ N) : Ans (d + 2) 157 [.ref 2, .int (nI k), .int (nI e)] S (some (.int (nI (2 * e)))) (S) := by
  refine Ans.of (by rw [ml_157]; exact Nat.le_of_ble_eq_true rfl) ?_
  refine Bod.go dc_157_0 rfl ?_
  refine Bod.stat (r := []) dc_157_1 kr_157_65 (Or.inl rfl) (by rw [np_139]; rfl) (by rw [np_139]; rfl) (by rw [np_139]; exact Nat.le_of_ble_eq_true rfl) (Nat.le_of_ble_eq_true rfl) (isId_T (k := k) (by omega) (by omega)) ?_
  show Bod _ _ _ _ [_] _ _ _
  refine Bod.ifF dc_157_4 rfl (k1_eq_F (k_ne 1 0 rfl rfl (by omega) (by omega) (by omega))) ?_
  refine Bod.go dc_157_7 rfl ?_
  refine Bod.get dc_157_8 fr_157_38 (mk_2 _) rfl ?_
  refine Bod.go dc_157_11 rfl ?_
  refine Bod.aaldR (N := 1501) (b := a) k rfl (by omega) (by omega) hr dc_157_12 (mk_11 _) ht_4 ?_
  refine Bod.go dc_157_13 rfl ?_
  refine Bod.go dc_157_16 rfl ?_
  refine Bod.ifF dc_157_17 rfl (k1_lt_F e rfl (by omega)) ?_
  refine Bod.go dc_157_20 rfl ?_
  refine Bod.go dc_157_21 rfl ?_
  refine Bod.get dc_157_22 fr_157_33 (mk_2 _) rfl ?_
  refine Bod.go dc_157_25 rfl ?_
  refine Bod.ialdN k rfl (by omega) (by omega) dc_157_26 (mk_10 _) ?_
  refine Bod.eqI (nI z) (by first | assumption | rfl | exact congrArg nI (by omega) | (simp (disch := omega) only [rI, rIe, rA, rIA, rLA, rJA, rVI, rQI, rVA, rQA, upd_at,  rAI, rLI, rJI, nI_add, pk_sub, kc_0, kc_1, kc_2, kc_3, kc_4, kc_5, reduceIte, Nat.reduceEqDiff, Nat.add_zero, rI_hold, rI_hold, rL_hold, hkd, hsz]; done)) ?_
  refine Bod.icT dc_157_27 rfl (k2_lt_T e z rfl rfl (by omega) (by omega)) ?_
  refine Bod.go dc_157_32 rfl ?_
  refine Bod.get dc_157_33 fr_157_11 (mk_2 _) rfl ?_
  refine Bod.go dc_157_36 rfl ?_
  refine Bod.ialdN k rfl (by omega) (by omega) dc_157_37 (mk_3 _) ?_
  refine Bod.eqI (nI kd) (by first | assumption | rfl | exact congrArg nI (by omega) | (simp (disch := omega) only [rI, rIe, rA, rIA, rLA, rJA, rVI, rQI, rVA, rQA, upd_at,  rAI, rLI, rJI, nI_add, pk_sub, kc_0, kc_1, kc_2, kc_3, kc_4, kc_5, reduceIte, Nat.reduceEqDiff, Nat.add_zero, rI_hold, rI_hold, rL_hold, hkd, hsz]; done)) ?_
  refine Bod.stat (r := []) dc_157_38 kr_157_87 (Or.inl rfl) (by rw [np_145]; rfl) (by rw [np_145]; rfl) (by rw [np_145]; exact Nat.le_of_ble_eq_true rfl) (Nat.le_of_ble_eq_true rfl) (widthOf_ev (kd := kd) (w := 2) (by omega) hw) ?_
  show Bod _ _ _ _ [_] _ _ _
  refine Bod.istn dc_157_41 (by rw [ml_157]; exact Nat.le_of_ble_eq_true rfl) ?_
  refine Bod.go dc_157_42 rfl ?_
  refine Bod.go dc_157_43 rfl ?_
  refine Bod.mulN (2 * e) (by omega) dc_157_44 ?_
  refine Bod.go dc_157_45 rfl ?_
  refine Bod.addN (2 * e + 2) (by omega) dc_157_46 ?_
  refine Bod.ic 2 (by decide) dc_157_47 ?_
  refine Bod.subN (2 * e) (by omega) (by omega) dc_157_48 ?_
  refine Bod.ist dc_157_49 (by rw [ml_157]; exact Nat.le_of_ble_eq_true rfl) ?_
  refine Bod.go dc_157_51 rfl ?_
  refine Bod.ifF dc_157_53 rfl (k1_lt_F (2 * e) rfl (by omega)) ?_
  refine Bod.go dc_157_56 rfl ?_
  refine Bod.ic 1 (by decide) dc_157_58 ?_
  refine Bod.addN (2 * e + 1) (by omega) dc_157_59 ?_
  refine Bod.go dc_157_60 rfl ?_
  refine Bod.get dc_157_61 fr_157_38 (mk_2 _) rfl ?_
  refine Bod.go dc_157_64 rfl ?_
  refine Bod.aaldR (N := 1501) (b := a) k rfl (by omega) (by omega) hr dc_157_65 (mk_11 _) ht_4 ?_
  refine Bod.alenN (N := N) dc_157_66 (mk_row ha hs) el_1 ?_
  refine Bod.icF dc_157_67 rfl (k2_ge_F (2 * e + 1) N rfl rfl (by omega) (by omega)) ?_
  refine Bod.go dc_157_70 rfl ?_
  refine Bod.go dc_157_72 rfl ?_
  exact Bod.retI dc_157_76 rt_157
theorem hiOf_2 {d : Nat} {S : cS} {k : Nat} {kd : Nat} {z : Nat} {a : Nat} {N : Nat} {e : Nat} (h0 : 1 ≤ k) (hk : k ≤ 1500) (hkd : sA S 3 k = nI kd) (h7 : kd ≤ 7) (hsz : sA S 10 k = nI z) (hr : sQ S 11 k = some a) (ha : 108 ≤ a) (hs : (sS S)[a - 108]? = some (1, N)) (hN : N < 2 ^ 31) (hw : c_width kd = 2) (he : e < z) (hz : z < 2 ^ 20) (hl : 2 * e + 2 ≤ N) : Ans (d + 3) 156 [.ref 2, .int (nI k), .int (nI e)] S (some (.long (sL S a (2 * e)))) (S) := by
  refine Ans.of (by rw [ml_156]; exact Nat.le_of_ble_eq_true rfl) ?_
  refine Bod.go dc_156_0 rfl ?_
  refine Bod.go dc_156_1 rfl ?_
  refine Bod.go dc_156_2 rfl ?_
  refine Bod.virt (r := []) dc_156_3 kr_156_95 ⟨Or.inl rfl, ow_157, cl_2⟩ (by rw [np_157]; rfl) (by rw [np_157]; rfl) (ob_of (mk_2 _)) (Nat.le_of_ble_eq_true rfl) (placeOf_2 (k := k) (kd := kd) (z := z) (a := a) (N := N) (e := e) (by omega) (by omega) (by first | assumption | rfl | exact congrArg nI (by omega) | (simp (disch := omega) only [rI, rIe, rA, rIA, rLA, rJA, rVI, rQI, rVA, rQA, upd_at,  rAI, rLI, rJI, nI_add, pk_sub, kc_0, kc_1, kc_2, kc_3, kc_4, kc_5, reduceIte, Nat.reduceEqDiff, Nat.add_zero, rI_hold, rI_hold, rL_hold, hkd, hsz]; done)) (by omega) (by first | assumption | rfl | exact congrArg nI (by omega) | (simp (disch := omega) only [rI, rIe, rA, rIA, rLA, rJA, rVI, rQI, rVA, rQA, upd_at,  rAI, rLI, rJI, nI_add, pk_sub, kc_0, kc_1, kc_2, kc_3, kc_4, kc_5, reduceIte, Nat.reduceEqDiff, Nat.add_zero, rI_hold, rI_hold, rL_hold, hkd, hsz]; done)) hr (by omega) hs (by omega) hw (by omega) (by omega) (by omega)) ?_
  show Bod _ _ _ _ [_] _ _ _
  refine Bod.istn dc_156_6 (by rw [ml_156]; exact Nat.le_of_ble_eq_true rfl) ?_
  refine Bod.go dc_156_7 rfl ?_
  refine Bod.ifT dc_156_8 rfl (k1_ge_T (2 * e) rfl (by omega)) ?_
  refine Bod.go dc_156_15 rfl ?_
  refine Bod.get dc_156_16 fr_156_38 (mk_2 _) rfl ?_
  refine Bod.go dc_156_19 rfl ?_
  refine Bod.aaldR (N := 1501) (b := a) k rfl (by omega) (by omega) hr dc_156_20 (mk_11 _) ht_4 ?_
  refine Bod.go dc_156_21 rfl ?_
  refine Bod.laldN (N := N) (2 * e) rfl (by omega) (by omega) dc_156_22 (mk_row ha hs) ?_
  exact Bod.retJ dc_156_23 rt_156
theorem loOf_2 {d : Nat} {S : cS} {k : Nat} {kd : Nat} {z : Nat} {a : Nat} {N : Nat} {e : Nat} (h0 : 1 ≤ k) (hk : k ≤ 1500) (hkd : sA S 3 k = nI kd) (h7 : kd ≤ 7) (hsz : sA S 10 k = nI z) (hr : sQ S 11 k = some a) (ha : 108 ≤ a) (hs : (sS S)[a - 108]? = some (1, N)) (hN : N < 2 ^ 31) (hw : c_width kd = 2) (he : e < z) (hz : z < 2 ^ 20) (hl : 2 * e + 2 ≤ N) : Ans (d + 3) 158 [.ref 2, .int (nI k), .int (nI e)] S (some (.long (sL S a (2 * e + 1)))) (S) := by
  refine Ans.of (by rw [ml_158]; exact Nat.le_of_ble_eq_true rfl) ?_
  refine Bod.go dc_158_0 rfl ?_
  refine Bod.go dc_158_1 rfl ?_
  refine Bod.go dc_158_2 rfl ?_
  refine Bod.virt (r := []) dc_158_3 kr_158_95 ⟨Or.inl rfl, ow_157, cl_2⟩ (by rw [np_157]; rfl) (by rw [np_157]; rfl) (ob_of (mk_2 _)) (Nat.le_of_ble_eq_true rfl) (placeOf_2 (k := k) (kd := kd) (z := z) (a := a) (N := N) (e := e) (by omega) (by omega) (by first | assumption | rfl | exact congrArg nI (by omega) | (simp (disch := omega) only [rI, rIe, rA, rIA, rLA, rJA, rVI, rQI, rVA, rQA, upd_at,  rAI, rLI, rJI, nI_add, pk_sub, kc_0, kc_1, kc_2, kc_3, kc_4, kc_5, reduceIte, Nat.reduceEqDiff, Nat.add_zero, rI_hold, rI_hold, rL_hold, hkd, hsz]; done)) (by omega) (by first | assumption | rfl | exact congrArg nI (by omega) | (simp (disch := omega) only [rI, rIe, rA, rIA, rLA, rJA, rVI, rQI, rVA, rQA, upd_at,  rAI, rLI, rJI, nI_add, pk_sub, kc_0, kc_1, kc_2, kc_3, kc_4, kc_5, reduceIte, Nat.reduceEqDiff, Nat.add_zero, rI_hold, rI_hold, rL_hold, hkd, hsz]; done)) hr (by omega) hs (by omega) hw (by omega) (by omega) (by omega)) ?_
  show Bod _ _ _ _ [_] _ _ _
  refine Bod.istn dc_158_6 (by rw [ml_158]; exact Nat.le_of_ble_eq_true rfl) ?_
  refine Bod.go dc_158_7 rfl ?_
  refine Bod.ifT dc_158_8 rfl (k1_ge_T (2 * e) rfl (by omega)) ?_
  refine Bod.go dc_158_15 rfl ?_
  refine Bod.get dc_158_16 fr_158_38 (mk_2 _) rfl ?_
  refine Bod.go dc_158_19 rfl ?_
  refine Bod.aaldR (N := 1501) (b := a) k rfl (by omega) (by omega) hr dc_158_20 (mk_11 _) ht_4 ?_
  refine Bod.go dc_158_21 rfl ?_
  refine Bod.ic 1 (by decide) dc_158_22 ?_
  refine Bod.addN (2 * e + 1) (by omega) dc_158_23 ?_
  refine Bod.laldN (N := N) (2 * e + 1) rfl (by omega) (by omega) dc_158_24 (mk_row ha hs) ?_
  exact Bod.retJ dc_158_25 rt_158
theorem fill_2 {d : Nat} {S : cS} {k : Nat} {kd : Nat} {z : Nat} {a : Nat} {N : Nat} {e : Nat} {hi : Int64} {lo : Int64} {o : Nat} (h0 : 1 ≤ k) (hk : k ≤ 1500) (hkd : sA S 3 k = nI kd) (h7 : kd ≤ 7) (hsz : sA S 10 k = nI z) (hr : sQ S 11 k = some a) (ha : 108 ≤ a) (hs : (sS S)[a - 108]? = some (1, N)) (hN : N < 2 ^ 31) (hw : c_width kd = 2) (he : e < z) (hz : z < 2 ^ 20) (hl : 2 * e + 2 ≤ N) (ho : c_obj hi lo = nI o) (ho2 : o ≤ 1500) : Ans (d + 3) 260 [.ref 2, .int (nI k), .int (nI e), .long hi, .long lo] S (none) (wL a (2 * e + 1) lo (wL a (2 * e) hi (c_hold 4 o S))) := by
  refine Ans.of (by rw [ml_260]; exact Nat.le_of_ble_eq_true rfl) ?_
  refine Bod.go dc_260_0 rfl ?_
  refine Bod.go dc_260_1 rfl ?_
  refine Bod.go dc_260_2 rfl ?_
  refine Bod.virt (r := []) dc_260_3 kr_260_95 ⟨Or.inl rfl, ow_157, cl_2⟩ (by rw [np_157]; rfl) (by rw [np_157]; rfl) (ob_of (mk_2 _)) (Nat.le_of_ble_eq_true rfl) (placeOf_2 (k := k) (kd := kd) (z := z) (a := a) (N := N) (e := e) (by omega) (by omega) (by first | assumption | rfl | exact congrArg nI (by omega) | (simp (disch := omega) only [rI, rIe, rA, rIA, rLA, rJA, rVI, rQI, rVA, rQA, upd_at,  rAI, rLI, rJI, nI_add, pk_sub, kc_0, kc_1, kc_2, kc_3, kc_4, kc_5, reduceIte, Nat.reduceEqDiff, Nat.add_zero, rI_hold, rI_hold, rL_hold, hkd, hsz]; done)) (by omega) (by first | assumption | rfl | exact congrArg nI (by omega) | (simp (disch := omega) only [rI, rIe, rA, rIA, rLA, rJA, rVI, rQI, rVA, rQA, upd_at,  rAI, rLI, rJI, nI_add, pk_sub, kc_0, kc_1, kc_2, kc_3, kc_4, kc_5, reduceIte, Nat.reduceEqDiff, Nat.add_zero, rI_hold, rI_hold, rL_hold, hkd, hsz]; done)) hr (by omega) hs (by omega) hw (by omega) (by omega) (by omega)) ?_
  show Bod _ _ _ _ [_] _ _ _
  refine Bod.ist dc_260_6 (by rw [ml_260]; exact Nat.le_of_ble_eq_true rfl) ?_
  refine Bod.go dc_260_8 rfl ?_
  refine Bod.ifT dc_260_10 rfl (k1_ge_T (2 * e) rfl (by omega)) ?_
  refine Bod.go dc_260_14 rfl ?_
  refine Bod.go dc_260_15 rfl ?_
  refine Bod.get dc_260_16 fr_260_15 (mk_2 _) rfl ?_
  refine Bod.go dc_260_19 rfl ?_
  refine Bod.go dc_260_20 rfl ?_
  refine Bod.stat (r := [_, _]) dc_260_22 kr_260_91 (Or.inr rfl) (by rw [np_137]; rfl) (by rw [np_137]; rfl) (by rw [np_137]; exact Nat.le_of_ble_eq_true rfl) (Nat.le_of_ble_eq_true rfl) (objectOf_n (o := o) ho) ?_
  show Bod _ _ _ _ [_, _, _] _ _ _
  refine Bod.virt (r := []) dc_260_25 kr_260_69 ⟨Or.inl rfl, ow_149, cl_2⟩ (by rw [np_149]; rfl) (by rw [np_149]; rfl) (ob_of (mk_2 _)) (Nat.le_of_ble_eq_true rfl) (hold_ev (a := 4) (k := o) (Or.inl rfl) (by omega)) ?_
  show Bod _ _ _ _ [] _ _ _
  refine Bod.go dc_260_28 rfl ?_
  refine Bod.get dc_260_29 fr_260_38 (mk_2 _) rfl ?_
  refine Bod.go dc_260_32 rfl ?_
  refine Bod.aaldR (N := 1501) (b := a) k rfl (by omega) (by omega) (by simp only [rIQ, rJQ, rAQ, rLQ, rVQ, rQ_holdE]; exact hr) dc_260_33 (mk_11 _) ht_4 ?_
  refine Bod.go dc_260_34 rfl ?_
  refine Bod.go dc_260_36 rfl ?_
  refine Bod.lastN (N := N) (2 * e) rfl (by omega) (by omega) dc_260_37 (mk_row ha (by simp only [rIS, rJS, rAS, rLS, rVS, rQS, rS_hold]; exact hs)) (sa_row ha (by simp only [rIS, rJS, rAS, rLS, rVS, rQS, rS_hold]; exact hs)) (mu_L _ _ _ _) ?_
  refine Bod.go dc_260_38 rfl ?_
  refine Bod.get dc_260_39 fr_260_38 (mk_2 _) rfl ?_
  refine Bod.go dc_260_42 rfl ?_
  refine Bod.aaldR (N := 1501) (b := a) k rfl (by omega) (by omega) (by simp only [rIQ, rJQ, rAQ, rLQ, rVQ, rQ_holdE]; exact hr) dc_260_43 (mk_11 _) ht_4 ?_
  refine Bod.go dc_260_44 rfl ?_
  refine Bod.ic 1 (by decide) dc_260_46 ?_
  refine Bod.addN (2 * e + 1) (by omega) dc_260_47 ?_
  refine Bod.go dc_260_48 rfl ?_
  refine Bod.lastN (N := N) (2 * e + 1) rfl (by omega) (by omega) dc_260_50 (mk_row ha (by simp only [rIS, rJS, rAS, rLS, rVS, rQS, rS_hold]; exact hs)) (sa_row ha (by simp only [rIS, rJS, rAS, rLS, rVS, rQS, rS_hold]; exact hs)) (mu_L _ _ _ _) ?_
  exact Bod.retV dc_260_51 rt_260
theorem placeOf_4 {d : Nat} {S : cS} {k : Nat} {kd : Nat} {z : Nat} {a : Nat} {N : Nat} {e : Nat} (h0 : 1 ≤ k) (hk : k ≤ 1500) (hkd : sA S 3 k = nI kd) (h7 : kd ≤ 7) (hsz : sA S 10 k = nI z) (hr : sQ S 11 k = some a) (ha : 108 ≤ a) (hs : (sS S)[a - 108]? = some (1, N)) (hN : N < 2 ^ 31) (hw : c_width kd = 4) (he : e < z) (hz : z < 2 ^ 20) (hl : 4 * e + 4 ≤ N) : Ans (d + 2) 157 [.ref 2, .int (nI k), .int (nI e)] S (some (.int (nI (4 * e + 2)))) (S) := by
  refine Ans.of (by rw [ml_157]; exact Nat.le_of_ble_eq_true rfl) ?_
  refine Bod.go dc_157_0 rfl ?_
  refine Bod.stat (r := []) dc_157_1 kr_157_65 (Or.inl rfl) (by rw [np_139]; rfl) (by rw [np_139]; rfl) (by rw [np_139]; exact Nat.le_of_ble_eq_true rfl) (Nat.le_of_ble_eq_true rfl) (isId_T (k := k) (by omega) (by omega)) ?_
  show Bod _ _ _ _ [_] _ _ _
  refine Bod.ifF dc_157_4 rfl (k1_eq_F (k_ne 1 0 rfl rfl (by omega) (by omega) (by omega))) ?_
  refine Bod.go dc_157_7 rfl ?_
  refine Bod.get dc_157_8 fr_157_38 (mk_2 _) rfl ?_
  refine Bod.go dc_157_11 rfl ?_
  refine Bod.aaldR (N := 1501) (b := a) k rfl (by omega) (by omega) hr dc_157_12 (mk_11 _) ht_4 ?_
  refine Bod.go dc_157_13 rfl ?_
  refine Bod.go dc_157_16 rfl ?_
  refine Bod.ifF dc_157_17 rfl (k1_lt_F e rfl (by omega)) ?_
  refine Bod.go dc_157_20 rfl ?_
  refine Bod.go dc_157_21 rfl ?_
  refine Bod.get dc_157_22 fr_157_33 (mk_2 _) rfl ?_
  refine Bod.go dc_157_25 rfl ?_
  refine Bod.ialdN k rfl (by omega) (by omega) dc_157_26 (mk_10 _) ?_
  refine Bod.eqI (nI z) (by first | assumption | rfl | exact congrArg nI (by omega) | (simp (disch := omega) only [rI, rIe, rA, rIA, rLA, rJA, rVI, rQI, rVA, rQA, upd_at,  rAI, rLI, rJI, nI_add, pk_sub, kc_0, kc_1, kc_2, kc_3, kc_4, kc_5, reduceIte, Nat.reduceEqDiff, Nat.add_zero, rI_hold, rI_hold, rL_hold, hkd, hsz]; done)) ?_
  refine Bod.icT dc_157_27 rfl (k2_lt_T e z rfl rfl (by omega) (by omega)) ?_
  refine Bod.go dc_157_32 rfl ?_
  refine Bod.get dc_157_33 fr_157_11 (mk_2 _) rfl ?_
  refine Bod.go dc_157_36 rfl ?_
  refine Bod.ialdN k rfl (by omega) (by omega) dc_157_37 (mk_3 _) ?_
  refine Bod.eqI (nI kd) (by first | assumption | rfl | exact congrArg nI (by omega) | (simp (disch := omega) only [rI, rIe, rA, rIA, rLA, rJA, rVI, rQI, rVA, rQA, upd_at,  rAI, rLI, rJI, nI_add, pk_sub, kc_0, kc_1, kc_2, kc_3, kc_4, kc_5, reduceIte, Nat.reduceEqDiff, Nat.add_zero, rI_hold, rI_hold, rL_hold, hkd, hsz]; done)) ?_
  refine Bod.stat (r := []) dc_157_38 kr_157_87 (Or.inl rfl) (by rw [np_145]; rfl) (by rw [np_145]; rfl) (by rw [np_145]; exact Nat.le_of_ble_eq_true rfl) (Nat.le_of_ble_eq_true rfl) (widthOf_ev (kd := kd) (w := 4) (by omega) hw) ?_
  show Bod _ _ _ _ [_] _ _ _
  refine Bod.istn dc_157_41 (by rw [ml_157]; exact Nat.le_of_ble_eq_true rfl) ?_
  refine Bod.go dc_157_42 rfl ?_
  refine Bod.go dc_157_43 rfl ?_
  refine Bod.mulN (4 * e) (by omega) dc_157_44 ?_
  refine Bod.go dc_157_45 rfl ?_
  refine Bod.addN (4 * e + 4) (by omega) dc_157_46 ?_
  refine Bod.ic 2 (by decide) dc_157_47 ?_
  refine Bod.subN (4 * e + 2) (by omega) (by omega) dc_157_48 ?_
  refine Bod.ist dc_157_49 (by rw [ml_157]; exact Nat.le_of_ble_eq_true rfl) ?_
  refine Bod.go dc_157_51 rfl ?_
  refine Bod.ifF dc_157_53 rfl (k1_lt_F (4 * e + 2) rfl (by omega)) ?_
  refine Bod.go dc_157_56 rfl ?_
  refine Bod.ic 1 (by decide) dc_157_58 ?_
  refine Bod.addN (4 * e + 3) (by omega) dc_157_59 ?_
  refine Bod.go dc_157_60 rfl ?_
  refine Bod.get dc_157_61 fr_157_38 (mk_2 _) rfl ?_
  refine Bod.go dc_157_64 rfl ?_
  refine Bod.aaldR (N := 1501) (b := a) k rfl (by omega) (by omega) hr dc_157_65 (mk_11 _) ht_4 ?_
  refine Bod.alenN (N := N) dc_157_66 (mk_row ha hs) el_1 ?_
  refine Bod.icF dc_157_67 rfl (k2_ge_F (4 * e + 3) N rfl rfl (by omega) (by omega)) ?_
  refine Bod.go dc_157_70 rfl ?_
  refine Bod.go dc_157_72 rfl ?_
  exact Bod.retI dc_157_76 rt_157
theorem hiOf_4 {d : Nat} {S : cS} {k : Nat} {kd : Nat} {z : Nat} {a : Nat} {N : Nat} {e : Nat} (h0 : 1 ≤ k) (hk : k ≤ 1500) (hkd : sA S 3 k = nI kd) (h7 : kd ≤ 7) (hsz : sA S 10 k = nI z) (hr : sQ S 11 k = some a) (ha : 108 ≤ a) (hs : (sS S)[a - 108]? = some (1, N)) (hN : N < 2 ^ 31) (hw : c_width kd = 4) (he : e < z) (hz : z < 2 ^ 20) (hl : 4 * e + 4 ≤ N) : Ans (d + 3) 156 [.ref 2, .int (nI k), .int (nI e)] S (some (.long (sL S a (4 * e + 2)))) (S) := by
  refine Ans.of (by rw [ml_156]; exact Nat.le_of_ble_eq_true rfl) ?_
  refine Bod.go dc_156_0 rfl ?_
  refine Bod.go dc_156_1 rfl ?_
  refine Bod.go dc_156_2 rfl ?_
  refine Bod.virt (r := []) dc_156_3 kr_156_95 ⟨Or.inl rfl, ow_157, cl_2⟩ (by rw [np_157]; rfl) (by rw [np_157]; rfl) (ob_of (mk_2 _)) (Nat.le_of_ble_eq_true rfl) (placeOf_4 (k := k) (kd := kd) (z := z) (a := a) (N := N) (e := e) (by omega) (by omega) (by first | assumption | rfl | exact congrArg nI (by omega) | (simp (disch := omega) only [rI, rIe, rA, rIA, rLA, rJA, rVI, rQI, rVA, rQA, upd_at,  rAI, rLI, rJI, nI_add, pk_sub, kc_0, kc_1, kc_2, kc_3, kc_4, kc_5, reduceIte, Nat.reduceEqDiff, Nat.add_zero, rI_hold, rI_hold, rL_hold, hkd, hsz]; done)) (by omega) (by first | assumption | rfl | exact congrArg nI (by omega) | (simp (disch := omega) only [rI, rIe, rA, rIA, rLA, rJA, rVI, rQI, rVA, rQA, upd_at,  rAI, rLI, rJI, nI_add, pk_sub, kc_0, kc_1, kc_2, kc_3, kc_4, kc_5, reduceIte, Nat.reduceEqDiff, Nat.add_zero, rI_hold, rI_hold, rL_hold, hkd, hsz]; done)) hr (by omega) hs (by omega) hw (by omega) (by omega) (by omega)) ?_
  show Bod _ _ _ _ [_] _ _ _
  refine Bod.istn dc_156_6 (by rw [ml_156]; exact Nat.le_of_ble_eq_true rfl) ?_
  refine Bod.go dc_156_7 rfl ?_
  refine Bod.ifT dc_156_8 rfl (k1_ge_T (4 * e + 2) rfl (by omega)) ?_
  refine Bod.go dc_156_15 rfl ?_
  refine Bod.get dc_156_16 fr_156_38 (mk_2 _) rfl ?_
  refine Bod.go dc_156_19 rfl ?_
  refine Bod.aaldR (N := 1501) (b := a) k rfl (by omega) (by omega) hr dc_156_20 (mk_11 _) ht_4 ?_
  refine Bod.go dc_156_21 rfl ?_
  refine Bod.laldN (N := N) (4 * e + 2) rfl (by omega) (by omega) dc_156_22 (mk_row ha hs) ?_
  exact Bod.retJ dc_156_23 rt_156
theorem loOf_4 {d : Nat} {S : cS} {k : Nat} {kd : Nat} {z : Nat} {a : Nat} {N : Nat} {e : Nat} (h0 : 1 ≤ k) (hk : k ≤ 1500) (hkd : sA S 3 k = nI kd) (h7 : kd ≤ 7) (hsz : sA S 10 k = nI z) (hr : sQ S 11 k = some a) (ha : 108 ≤ a) (hs : (sS S)[a - 108]? = some (1, N)) (hN : N < 2 ^ 31) (hw : c_width kd = 4) (he : e < z) (hz : z < 2 ^ 20) (hl : 4 * e + 4 ≤ N) : Ans (d + 3) 158 [.ref 2, .int (nI k), .int (nI e)] S (some (.long (sL S a (4 * e + 3)))) (S) := by
  refine Ans.of (by rw [ml_158]; exact Nat.le_of_ble_eq_true rfl) ?_
  refine Bod.go dc_158_0 rfl ?_
  refine Bod.go dc_158_1 rfl ?_
  refine Bod.go dc_158_2 rfl ?_
  refine Bod.virt (r := []) dc_158_3 kr_158_95 ⟨Or.inl rfl, ow_157, cl_2⟩ (by rw [np_157]; rfl) (by rw [np_157]; rfl) (ob_of (mk_2 _)) (Nat.le_of_ble_eq_true rfl) (placeOf_4 (k := k) (kd := kd) (z := z) (a := a) (N := N) (e := e) (by omega) (by omega) (by first | assumption | rfl | exact congrArg nI (by omega) | (simp (disch := omega) only [rI, rIe, rA, rIA, rLA, rJA, rVI, rQI, rVA, rQA, upd_at,  rAI, rLI, rJI, nI_add, pk_sub, kc_0, kc_1, kc_2, kc_3, kc_4, kc_5, reduceIte, Nat.reduceEqDiff, Nat.add_zero, rI_hold, rI_hold, rL_hold, hkd, hsz]; done)) (by omega) (by first | assumption | rfl | exact congrArg nI (by omega) | (simp (disch := omega) only [rI, rIe, rA, rIA, rLA, rJA, rVI, rQI, rVA, rQA, upd_at,  rAI, rLI, rJI, nI_add, pk_sub, kc_0, kc_1, kc_2, kc_3, kc_4, kc_5, reduceIte, Nat.reduceEqDiff, Nat.add_zero, rI_hold, rI_hold, rL_hold, hkd, hsz]; done)) hr (by omega) hs (by omega) hw (by omega) (by omega) (by omega)) ?_
  show Bod _ _ _ _ [_] _ _ _
  refine Bod.istn dc_158_6 (by rw [ml_158]; exact Nat.le_of_ble_eq_true rfl) ?_
  refine Bod.go dc_158_7 rfl ?_
  refine Bod.ifT dc_158_8 rfl (k1_ge_T (4 * e + 2) rfl (by omega)) ?_
  refine Bod.go dc_158_15 rfl ?_
  refine Bod.get dc_158_16 fr_158_38 (mk_2 _) rfl ?_
  refine Bod.go dc_158_19 rfl ?_
  refine Bod.aaldR (N := 1501) (b := a) k rfl (by omega) (by omega) hr dc_158_20 (mk_11 _) ht_4 ?_
  refine Bod.go dc_158_21 rfl ?_
  refine Bod.ic 1 (by decide) dc_158_22 ?_
  refine Bod.addN (4 * e + 3) (by omega) dc_158_23 ?_
  refine Bod.laldN (N := N) (4 * e + 3) rfl (by omega) (by omega) dc_158_24 (mk_row ha hs) ?_
  exact Bod.retJ dc_158_25 rt_158
theorem keyHi_4 {d : Nat} {S : cS} {k : Nat} {kd : Nat} {z : Nat} {a : Nat} {N : Nat} {e : Nat} (h0 : 1 ≤ k) (hk : k ≤ 1500) (hkd : sA S 3 k = nI kd) (h7 : kd ≤ 7) (hsz : sA S 10 k = nI z) (hr : sQ S 11 k = some a) (ha : 108 ≤ a) (hs : (sS S)[a - 108]? = some (1, N)) (hN : N < 2 ^ 31) (hw : c_width kd = 4) (he : e < z) (hz : z < 2 ^ 20) (hl : 4 * e + 4 ≤ N) : Ans (d + 3) 232 [.ref 2, .int (nI k), .int (nI e)] S (some (.long (sL S a (4 * e)))) (S) := by
  refine Ans.of (by rw [ml_232]; exact Nat.le_of_ble_eq_true rfl) ?_
  refine Bod.go dc_232_0 rfl ?_
  refine Bod.go dc_232_1 rfl ?_
  refine Bod.go dc_232_2 rfl ?_
  refine Bod.virt (r := []) dc_232_3 kr_232_95 ⟨Or.inl rfl, ow_157, cl_2⟩ (by rw [np_157]; rfl) (by rw [np_157]; rfl) (ob_of (mk_2 _)) (Nat.le_of_ble_eq_true rfl) (placeOf_4 (k := k) (kd := kd) (z := z) (a := a) (N := N) (e := e) (by omega) (by omega) (by first | assumption | rfl | exact congrArg nI (by omega) | (simp (disch := omega) only [rI, rIe, rA, rIA, rLA, rJA, rVI, rQI, rVA, rQA, upd_at,  rAI, rLI, rJI, nI_add, pk_sub, kc_0, kc_1, kc_2, kc_3, kc_4, kc_5, reduceIte, Nat.reduceEqDiff, Nat.add_zero, rI_hold, rI_hold, rL_hold, hkd, hsz]; done)) (by omega) (by first | assumption | rfl | exact congrArg nI (by omega) | (simp (disch := omega) only [rI, rIe, rA, rIA, rLA, rJA, rVI, rQI, rVA, rQA, upd_at,  rAI, rLI, rJI, nI_add, pk_sub, kc_0, kc_1, kc_2, kc_3, kc_4, kc_5, reduceIte, Nat.reduceEqDiff, Nat.add_zero, rI_hold, rI_hold, rL_hold, hkd, hsz]; done)) hr (by omega) hs (by omega) hw (by omega) (by omega) (by omega)) ?_
  show Bod _ _ _ _ [_] _ _ _
  refine Bod.istn dc_232_6 (by rw [ml_232]; exact Nat.le_of_ble_eq_true rfl) ?_
  refine Bod.go dc_232_7 rfl ?_
  refine Bod.ic 2 (by decide) dc_232_8 ?_
  refine Bod.icT dc_232_9 rfl (k2_ge_T (4 * e + 2) 2 rfl rfl (by omega) (by omega)) ?_
  refine Bod.go dc_232_16 rfl ?_
  refine Bod.get dc_232_17 fr_232_38 (mk_2 _) rfl ?_
  refine Bod.go dc_232_20 rfl ?_
  refine Bod.aaldR (N := 1501) (b := a) k rfl (by omega) (by omega) hr dc_232_21 (mk_11 _) ht_4 ?_
  refine Bod.go dc_232_22 rfl ?_
  refine Bod.ic 2 (by decide) dc_232_23 ?_
  refine Bod.subN (4 * e) (by omega) (by omega) dc_232_24 ?_
  refine Bod.laldN (N := N) (4 * e) rfl (by omega) (by omega) dc_232_25 (mk_row ha hs) ?_
  exact Bod.retJ dc_232_26 rt_232
theorem keyLo_4 {d : Nat} {S : cS} {k : Nat} {kd : Nat} {z : Nat} {a : Nat} {N : Nat} {e : Nat} (h0 : 1 ≤ k) (hk : k ≤ 1500) (hkd : sA S 3 k = nI kd) (h7 : kd ≤ 7) (hsz : sA S 10 k = nI z) (hr : sQ S 11 k = some a) (ha : 108 ≤ a) (hs : (sS S)[a - 108]? = some (1, N)) (hN : N < 2 ^ 31) (hw : c_width kd = 4) (he : e < z) (hz : z < 2 ^ 20) (hl : 4 * e + 4 ≤ N) : Ans (d + 3) 233 [.ref 2, .int (nI k), .int (nI e)] S (some (.long (sL S a (4 * e + 1)))) (S) := by
  refine Ans.of (by rw [ml_233]; exact Nat.le_of_ble_eq_true rfl) ?_
  refine Bod.go dc_233_0 rfl ?_
  refine Bod.go dc_233_1 rfl ?_
  refine Bod.go dc_233_2 rfl ?_
  refine Bod.virt (r := []) dc_233_3 kr_233_95 ⟨Or.inl rfl, ow_157, cl_2⟩ (by rw [np_157]; rfl) (by rw [np_157]; rfl) (ob_of (mk_2 _)) (Nat.le_of_ble_eq_true rfl) (placeOf_4 (k := k) (kd := kd) (z := z) (a := a) (N := N) (e := e) (by omega) (by omega) (by first | assumption | rfl | exact congrArg nI (by omega) | (simp (disch := omega) only [rI, rIe, rA, rIA, rLA, rJA, rVI, rQI, rVA, rQA, upd_at,  rAI, rLI, rJI, nI_add, pk_sub, kc_0, kc_1, kc_2, kc_3, kc_4, kc_5, reduceIte, Nat.reduceEqDiff, Nat.add_zero, rI_hold, rI_hold, rL_hold, hkd, hsz]; done)) (by omega) (by first | assumption | rfl | exact congrArg nI (by omega) | (simp (disch := omega) only [rI, rIe, rA, rIA, rLA, rJA, rVI, rQI, rVA, rQA, upd_at,  rAI, rLI, rJI, nI_add, pk_sub, kc_0, kc_1, kc_2, kc_3, kc_4, kc_5, reduceIte, Nat.reduceEqDiff, Nat.add_zero, rI_hold, rI_hold, rL_hold, hkd, hsz]; done)) hr (by omega) hs (by omega) hw (by omega) (by omega) (by omega)) ?_
  show Bod _ _ _ _ [_] _ _ _
  refine Bod.istn dc_233_6 (by rw [ml_233]; exact Nat.le_of_ble_eq_true rfl) ?_
  refine Bod.go dc_233_7 rfl ?_
  refine Bod.ic 2 (by decide) dc_233_8 ?_
  refine Bod.icT dc_233_9 rfl (k2_ge_T (4 * e + 2) 2 rfl rfl (by omega) (by omega)) ?_
  refine Bod.go dc_233_16 rfl ?_
  refine Bod.get dc_233_17 fr_233_38 (mk_2 _) rfl ?_
  refine Bod.go dc_233_20 rfl ?_
  refine Bod.aaldR (N := 1501) (b := a) k rfl (by omega) (by omega) hr dc_233_21 (mk_11 _) ht_4 ?_
  refine Bod.go dc_233_22 rfl ?_
  refine Bod.ic 1 (by decide) dc_233_23 ?_
  refine Bod.subN (4 * e + 1) (by omega) (by omega) dc_233_24 ?_
  refine Bod.laldN (N := N) (4 * e + 1) rfl (by omega) (by omega) dc_233_25 (mk_row ha hs) ?_
  exact Bod.retJ dc_233_26 rt_233
theorem fill_4 {d : Nat} {S : cS} {k : Nat} {kd : Nat} {z : Nat} {a : Nat} {N : Nat} {e : Nat} {hi : Int64} {lo : Int64} {o : Nat} (h0 : 1 ≤ k) (hk : k ≤ 1500) (hkd : sA S 3 k = nI kd) (h7 : kd ≤ 7) (hsz : sA S 10 k = nI z) (hr : sQ S 11 k = some a) (ha : 108 ≤ a) (hs : (sS S)[a - 108]? = some (1, N)) (hN : N < 2 ^ 31) (hw : c_width kd = 4) (he : e < z) (hz : z < 2 ^ 20) (hl : 4 * e + 4 ≤ N) (ho : c_obj hi lo = nI o) (ho2 : o ≤ 1500) : Ans (d + 3) 260 [.ref 2, .int (nI k), .int (nI e), .long hi, .long lo] S (none) (wL a (4 * e + 3) lo (wL a (4 * e + 2) hi (c_hold 4 o S))) := by
  refine Ans.of (by rw [ml_260]; exact Nat.le_of_ble_eq_true rfl) ?_
  refine Bod.go dc_260_0 rfl ?_
  refine Bod.go dc_260_1 rfl ?_
  refine Bod.go dc_260_2 rfl ?_
  refine Bod.virt (r := []) dc_260_3 kr_260_95 ⟨Or.inl rfl, ow_157, cl_2⟩ (by rw [np_157]; rfl) (by rw [np_157]; rfl) (ob_of (mk_2 _)) (Nat.le_of_ble_eq_true rfl) (placeOf_4 (k := k) (kd := kd) (z := z) (a := a) (N := N) (e := e) (by omega) (by omega) (by first | assumption | rfl | exact congrArg nI (by omega) | (simp (disch := omega) only [rI, rIe, rA, rIA, rLA, rJA, rVI, rQI, rVA, rQA, upd_at,  rAI, rLI, rJI, nI_add, pk_sub, kc_0, kc_1, kc_2, kc_3, kc_4, kc_5, reduceIte, Nat.reduceEqDiff, Nat.add_zero, rI_hold, rI_hold, rL_hold, hkd, hsz]; done)) (by omega) (by first | assumption | rfl | exact congrArg nI (by omega) | (simp (disch := omega) only [rI, rIe, rA, rIA, rLA, rJA, rVI, rQI, rVA, rQA, upd_at,  rAI, rLI, rJI, nI_add, pk_sub, kc_0, kc_1, kc_2, kc_3, kc_4, kc_5, reduceIte, Nat.reduceEqDiff, Nat.add_zero, rI_hold, rI_hold, rL_hold, hkd, hsz]; done)) hr (by omega) hs (by omega) hw (by omega) (by omega) (by omega)) ?_
  show Bod _ _ _ _ [_] _ _ _
  refine Bod.ist dc_260_6 (by rw [ml_260]; exact Nat.le_of_ble_eq_true rfl) ?_
  refine Bod.go dc_260_8 rfl ?_
  refine Bod.ifT dc_260_10 rfl (k1_ge_T (4 * e + 2) rfl (by omega)) ?_
  refine Bod.go dc_260_14 rfl ?_
  refine Bod.go dc_260_15 rfl ?_
  refine Bod.get dc_260_16 fr_260_15 (mk_2 _) rfl ?_
  refine Bod.go dc_260_19 rfl ?_
  refine Bod.go dc_260_20 rfl ?_
  refine Bod.stat (r := [_, _]) dc_260_22 kr_260_91 (Or.inr rfl) (by rw [np_137]; rfl) (by rw [np_137]; rfl) (by rw [np_137]; exact Nat.le_of_ble_eq_true rfl) (Nat.le_of_ble_eq_true rfl) (objectOf_n (o := o) ho) ?_
  show Bod _ _ _ _ [_, _, _] _ _ _
  refine Bod.virt (r := []) dc_260_25 kr_260_69 ⟨Or.inl rfl, ow_149, cl_2⟩ (by rw [np_149]; rfl) (by rw [np_149]; rfl) (ob_of (mk_2 _)) (Nat.le_of_ble_eq_true rfl) (hold_ev (a := 4) (k := o) (Or.inl rfl) (by omega)) ?_
  show Bod _ _ _ _ [] _ _ _
  refine Bod.go dc_260_28 rfl ?_
  refine Bod.get dc_260_29 fr_260_38 (mk_2 _) rfl ?_
  refine Bod.go dc_260_32 rfl ?_
  refine Bod.aaldR (N := 1501) (b := a) k rfl (by omega) (by omega) (by simp only [rIQ, rJQ, rAQ, rLQ, rVQ, rQ_holdE]; exact hr) dc_260_33 (mk_11 _) ht_4 ?_
  refine Bod.go dc_260_34 rfl ?_
  refine Bod.go dc_260_36 rfl ?_
  refine Bod.lastN (N := N) (4 * e + 2) rfl (by omega) (by omega) dc_260_37 (mk_row ha (by simp only [rIS, rJS, rAS, rLS, rVS, rQS, rS_hold]; exact hs)) (sa_row ha (by simp only [rIS, rJS, rAS, rLS, rVS, rQS, rS_hold]; exact hs)) (mu_L _ _ _ _) ?_
  refine Bod.go dc_260_38 rfl ?_
  refine Bod.get dc_260_39 fr_260_38 (mk_2 _) rfl ?_
  refine Bod.go dc_260_42 rfl ?_
  refine Bod.aaldR (N := 1501) (b := a) k rfl (by omega) (by omega) (by simp only [rIQ, rJQ, rAQ, rLQ, rVQ, rQ_holdE]; exact hr) dc_260_43 (mk_11 _) ht_4 ?_
  refine Bod.go dc_260_44 rfl ?_
  refine Bod.ic 1 (by decide) dc_260_46 ?_
  refine Bod.addN (4 * e + 3) (by omega) dc_260_47 ?_
  refine Bod.go dc_260_48 rfl ?_
  refine Bod.lastN (N := N) (4 * e + 3) rfl (by omega) (by omega) dc_260_50 (mk_row ha (by simp only [rIS, rJS, rAS, rLS, rVS, rQS, rS_hold]; exact hs)) (sa_row ha (by simp only [rIS, rJS, rAS, rLS, rVS, rQS, rS_hold]; exact hs)) (mu_L _ _ _ _) ?_
  exact Bod.retV dc_260_51 rt_260
theorem placeOf_0 {d : Nat} {S : cS} {e : Int32}  : Ans (d + 2) 157 [.ref 2, .int (nI 0), .int e] S (some (.int (Int32.ofInt (-1)))) (S) := by
  refine Ans.of (by rw [ml_157]; exact Nat.le_of_ble_eq_true rfl) ?_
  refine Bod.go dc_157_0 rfl ?_
  refine Bod.stat (r := []) dc_157_1 kr_157_65 (Or.inl rfl) (by rw [np_139]; rfl) (by rw [np_139]; rfl) (by rw [np_139]; exact Nat.le_of_ble_eq_true rfl) (Nat.le_of_ble_eq_true rfl) (isId_0  ) ?_
  show Bod _ _ _ _ [_] _ _ _
  refine Bod.ifT dc_157_4 rfl (k1_eq_T (k_eq 0 0 rfl rfl (by omega))) ?_
  refine Bod.go dc_157_30 rfl ?_
  exact Bod.retI dc_157_31 rt_157
theorem touch_0 {d : Nat} {S : cS} {dd : Int32}  : Ans (d + 1) 144 [.ref 2, .int (nI 0), .int dd] S (none) (S) := by
  refine Ans.of (by rw [ml_144]; exact Nat.le_of_ble_eq_true rfl) ?_
  refine Bod.go dc_144_0 rfl ?_
  refine Bod.ic 1 (by decide) dc_144_1 ?_
  refine Bod.icT dc_144_2 rfl (k2_lt_T 0 1 rfl rfl (by omega) (by omega)) ?_
  exact Bod.retV dc_144_12 rt_144
theorem touch0_stay {d : Nat} {S : cS} {k : Nat} (h0 : 1 ≤ k) (hk : k ≤ 1500) (hl : sA S 3 k ≠ 0) (hg : 0 < (sA (wA 4 k (sA S 4 k - nI 1) S) 4 k + sA (wA 4 k (sA S 4 k - nI 1) S) 5 k + sA (wA 4 k (sA S 4 k - nI 1) S) 6 k)) : Ans (d + 1) 144 [.ref 2, .int (nI k), .int (nI 0)] S (none) (wA 4 k ((sA S 4 k) - (nI 1)) S) := by
  refine Ans.of (by rw [ml_144]; exact Nat.le_of_ble_eq_true rfl) ?_
  refine Bod.go dc_144_0 rfl ?_
  refine Bod.ic 1 (by decide) dc_144_1 ?_
  refine Bod.icF dc_144_2 rfl (k2_lt_F k 1 rfl rfl (by omega) (by omega)) ?_
  refine Bod.go dc_144_5 rfl ?_
  refine Bod.sip 1500 (by decide) dc_144_6 ?_
  refine Bod.icT dc_144_9 rfl (k2_le_T k 1500 rfl rfl (by omega) (by omega)) ?_
  refine Bod.ic 0 (by decide) dc_144_13 ?_
  refine Bod.istn dc_144_14 (by rw [ml_144]; exact Nat.le_of_ble_eq_true rfl) ?_
  refine Bod.go dc_144_15 rfl ?_
  refine Bod.ic 1 (by decide) dc_144_16 ?_
  refine Bod.icT dc_144_17 rfl (k2_ne_T (k_ne 0 1 rfl rfl (by omega) (by omega) (by omega))) ?_
  refine Bod.go dc_144_45 rfl ?_
  refine Bod.get dc_144_46 fr_144_15 (mk_2 _) rfl ?_
  refine Bod.go dc_144_49 rfl ?_
  refine Bod.go dc_144_50 rfl ?_
  refine Bod.ialdN k rfl (by omega) (by omega) dc_144_51 (mk_4 _) ?_
  refine Bod.ic 1 (by decide) dc_144_52 ?_
  refine Bod.go dc_144_53 rfl ?_
  refine Bod.iastN k rfl (by omega) (by omega) dc_144_54 (mk_4 _) (sa_4 _ _ _) (mu_A _ _ _ _) ?_
  refine Bod.go dc_144_55 rfl ?_
  refine Bod.ifF dc_144_56 rfl (k1_ne_F (k_eq 0 0 rfl rfl (by omega))) ?_
  refine Bod.go dc_144_59 rfl ?_
  refine Bod.get dc_144_60 fr_144_11 (mk_2 _) rfl ?_
  refine Bod.go dc_144_63 rfl ?_
  refine Bod.ialdN k rfl (by omega) (by omega) dc_144_64 (mk_3 _) ?_
  refine Bod.ifF dc_144_65 rfl (k1_eq_F hl) ?_
  refine Bod.go dc_144_68 rfl ?_
  refine Bod.get dc_144_69 fr_144_15 (mk_2 _) rfl ?_
  refine Bod.go dc_144_72 rfl ?_
  refine Bod.ialdN k rfl (by omega) (by omega) dc_144_73 (mk_4 _) ?_
  refine Bod.go dc_144_74 rfl ?_
  refine Bod.get dc_144_75 fr_144_18 (mk_2 _) rfl ?_
  refine Bod.go dc_144_78 rfl ?_
  refine Bod.ialdN k rfl (by omega) (by omega) dc_144_79 (mk_5 _) ?_
  refine Bod.go dc_144_80 rfl ?_
  refine Bod.go dc_144_81 rfl ?_
  refine Bod.get dc_144_82 fr_144_21 (mk_2 _) rfl ?_
  refine Bod.go dc_144_85 rfl ?_
  refine Bod.ialdN k rfl (by omega) (by omega) dc_144_86 (mk_6 _) ?_
  refine Bod.go dc_144_87 rfl ?_
  refine Bod.ifT dc_144_88 rfl (if_pos hg) ?_
  refine Bod.ic 0 (by decide) dc_144_95 ?_
  refine Bod.istn dc_144_96 (by rw [ml_144]; exact Nat.le_of_ble_eq_true rfl) ?_
  refine Bod.go dc_144_97 rfl ?_
  refine Bod.ifT dc_144_98 rfl (k1_eq_T (k_eq 0 0 rfl rfl (by omega))) ?_
  exact Bod.retV dc_144_138 rt_144
theorem touch0_dead {d : Nat} {S : cS} {k : Nat} (h0 : 1 ≤ k) (hk : k ≤ 1500) (hl : sA S 3 k = 0) : Ans (d + 1) 144 [.ref 2, .int (nI k), .int (nI 0)] S (none) (wA 4 k ((sA S 4 k) - (nI 1)) S) := by
  refine Ans.of (by rw [ml_144]; exact Nat.le_of_ble_eq_true rfl) ?_
  refine Bod.go dc_144_0 rfl ?_
  refine Bod.ic 1 (by decide) dc_144_1 ?_
  refine Bod.icF dc_144_2 rfl (k2_lt_F k 1 rfl rfl (by omega) (by omega)) ?_
  refine Bod.go dc_144_5 rfl ?_
  refine Bod.sip 1500 (by decide) dc_144_6 ?_
  refine Bod.icT dc_144_9 rfl (k2_le_T k 1500 rfl rfl (by omega) (by omega)) ?_
  refine Bod.ic 0 (by decide) dc_144_13 ?_
  refine Bod.istn dc_144_14 (by rw [ml_144]; exact Nat.le_of_ble_eq_true rfl) ?_
  refine Bod.go dc_144_15 rfl ?_
  refine Bod.ic 1 (by decide) dc_144_16 ?_
  refine Bod.icT dc_144_17 rfl (k2_ne_T (k_ne 0 1 rfl rfl (by omega) (by omega) (by omega))) ?_
  refine Bod.go dc_144_45 rfl ?_
  refine Bod.get dc_144_46 fr_144_15 (mk_2 _) rfl ?_
  refine Bod.go dc_144_49 rfl ?_
  refine Bod.go dc_144_50 rfl ?_
  refine Bod.ialdN k rfl (by omega) (by omega) dc_144_51 (mk_4 _) ?_
  refine Bod.ic 1 (by decide) dc_144_52 ?_
  refine Bod.go dc_144_53 rfl ?_
  refine Bod.iastN k rfl (by omega) (by omega) dc_144_54 (mk_4 _) (sa_4 _ _ _) (mu_A _ _ _ _) ?_
  refine Bod.go dc_144_55 rfl ?_
  refine Bod.ifF dc_144_56 rfl (k1_ne_F (k_eq 0 0 rfl rfl (by omega))) ?_
  refine Bod.go dc_144_59 rfl ?_
  refine Bod.get dc_144_60 fr_144_11 (mk_2 _) rfl ?_
  refine Bod.go dc_144_63 rfl ?_
  refine Bod.ialdN k rfl (by omega) (by omega) dc_144_64 (mk_3 _) ?_
  refine Bod.ifT dc_144_65 rfl (k1_eq_T hl) ?_
  refine Bod.ic 0 (by decide) dc_144_95 ?_
  refine Bod.istn dc_144_96 (by rw [ml_144]; exact Nat.le_of_ble_eq_true rfl) ?_
  refine Bod.go dc_144_97 rfl ?_
  refine Bod.ifT dc_144_98 rfl (k1_eq_T (k_eq 0 0 rfl rfl (by omega))) ?_
  exact Bod.retV dc_144_138 rt_144
theorem touch0_go {d : Nat} {S : cS} {k : Nat} {w : Nat} (h0 : 1 ≤ k) (hk : k ≤ 1500) (hw : sI S 216 = nI w) (hw2 : w ≤ 1500) (hl : sA S 3 k ≠ 0) (hg : ¬ 0 < (sA (wA 4 k (sA S 4 k - nI 1) S) 4 k + sA (wA 4 k (sA S 4 k - nI 1) S) 5 k + sA (wA 4 k (sA S 4 k - nI 1) S) 6 k)) : Ans (d + 1) 144 [.ref 2, .int (nI k), .int (nI 0)] S (none) (wI 216 (nI (w + 1)) (wA 14 w (nI k) (wA 4 k ((sA S 4 k) - (nI 1)) S))) := by
  refine Ans.of (by rw [ml_144]; exact Nat.le_of_ble_eq_true rfl) ?_
  refine Bod.go dc_144_0 rfl ?_
  refine Bod.ic 1 (by decide) dc_144_1 ?_
  refine Bod.icF dc_144_2 rfl (k2_lt_F k 1 rfl rfl (by omega) (by omega)) ?_
  refine Bod.go dc_144_5 rfl ?_
  refine Bod.sip 1500 (by decide) dc_144_6 ?_
  refine Bod.icT dc_144_9 rfl (k2_le_T k 1500 rfl rfl (by omega) (by omega)) ?_
  refine Bod.ic 0 (by decide) dc_144_13 ?_
  refine Bod.istn dc_144_14 (by rw [ml_144]; exact Nat.le_of_ble_eq_true rfl) ?_
  refine Bod.go dc_144_15 rfl ?_
  refine Bod.ic 1 (by decide) dc_144_16 ?_
  refine Bod.icT dc_144_17 rfl (k2_ne_T (k_ne 0 1 rfl rfl (by omega) (by omega) (by omega))) ?_
  refine Bod.go dc_144_45 rfl ?_
  refine Bod.get dc_144_46 fr_144_15 (mk_2 _) rfl ?_
  refine Bod.go dc_144_49 rfl ?_
  refine Bod.go dc_144_50 rfl ?_
  refine Bod.ialdN k rfl (by omega) (by omega) dc_144_51 (mk_4 _) ?_
  refine Bod.ic 1 (by decide) dc_144_52 ?_
  refine Bod.go dc_144_53 rfl ?_
  refine Bod.iastN k rfl (by omega) (by omega) dc_144_54 (mk_4 _) (sa_4 _ _ _) (mu_A _ _ _ _) ?_
  refine Bod.go dc_144_55 rfl ?_
  refine Bod.ifF dc_144_56 rfl (k1_ne_F (k_eq 0 0 rfl rfl (by omega))) ?_
  refine Bod.go dc_144_59 rfl ?_
  refine Bod.get dc_144_60 fr_144_11 (mk_2 _) rfl ?_
  refine Bod.go dc_144_63 rfl ?_
  refine Bod.ialdN k rfl (by omega) (by omega) dc_144_64 (mk_3 _) ?_
  refine Bod.ifF dc_144_65 rfl (k1_eq_F hl) ?_
  refine Bod.go dc_144_68 rfl ?_
  refine Bod.get dc_144_69 fr_144_15 (mk_2 _) rfl ?_
  refine Bod.go dc_144_72 rfl ?_
  refine Bod.ialdN k rfl (by omega) (by omega) dc_144_73 (mk_4 _) ?_
  refine Bod.go dc_144_74 rfl ?_
  refine Bod.get dc_144_75 fr_144_18 (mk_2 _) rfl ?_
  refine Bod.go dc_144_78 rfl ?_
  refine Bod.ialdN k rfl (by omega) (by omega) dc_144_79 (mk_5 _) ?_
  refine Bod.go dc_144_80 rfl ?_
  refine Bod.go dc_144_81 rfl ?_
  refine Bod.get dc_144_82 fr_144_21 (mk_2 _) rfl ?_
  refine Bod.go dc_144_85 rfl ?_
  refine Bod.ialdN k rfl (by omega) (by omega) dc_144_86 (mk_6 _) ?_
  refine Bod.go dc_144_87 rfl ?_
  refine Bod.ifF dc_144_88 rfl (if_neg hg) ?_
  refine Bod.ic 1 (by decide) dc_144_91 ?_
  refine Bod.go dc_144_92 rfl ?_
  refine Bod.istn dc_144_96 (by rw [ml_144]; exact Nat.le_of_ble_eq_true rfl) ?_
  refine Bod.go dc_144_97 rfl ?_
  refine Bod.ifF dc_144_98 rfl (k1_eq_F (k_ne 1 0 rfl rfl (by omega) (by omega) (by omega))) ?_
  refine Bod.go dc_144_101 rfl ?_
  refine Bod.get dc_144_102 fr_144_73 (mk_2 _) rfl ?_
  refine Bod.eqI (nI w) (by first | (simp (disch := omega) only [rI, rIe, rA, rIA, rLA, rJA, rVI, rQI, rVA, rQA, upd_at,  rAI, rLI, rJI, nI_add, pk_sub, kc_0, kc_1, kc_2, kc_3, kc_4, kc_5, reduceIte, Nat.reduceEqDiff, Nat.add_zero, rI_hold, rI_hold, rL_hold, hw]; done) | (simp (disch := omega) only [rI, rIe, rA, rIA, rLA, rJA, rVI, rQI, rVA, rQA, upd_at,  rAI, rLI, rJI, nI_add, pk_sub, kc_0, kc_1, kc_2, kc_3, kc_4, kc_5, reduceIte, Nat.reduceEqDiff, Nat.add_zero, rI_hold, rI_hold, rL_hold, hw]; exact congrArg nI (by omega))) ?_
  refine Bod.ifF dc_144_105 rfl (k1_lt_F w rfl (by omega)) ?_
  refine Bod.go dc_144_108 rfl ?_
  refine Bod.get dc_144_109 fr_144_73 (mk_2 _) rfl ?_
  refine Bod.eqI (nI w) (by first | (simp (disch := omega) only [rI, rIe, rA, rIA, rLA, rJA, rVI, rQI, rVA, rQA, upd_at,  rAI, rLI, rJI, nI_add, pk_sub, kc_0, kc_1, kc_2, kc_3, kc_4, kc_5, reduceIte, Nat.reduceEqDiff, Nat.add_zero, rI_hold, rI_hold, rL_hold, hw]; done) | (simp (disch := omega) only [rI, rIe, rA, rIA, rLA, rJA, rVI, rQI, rVA, rQA, upd_at,  rAI, rLI, rJI, nI_add, pk_sub, kc_0, kc_1, kc_2, kc_3, kc_4, kc_5, reduceIte, Nat.reduceEqDiff, Nat.add_zero, rI_hold, rI_hold, rL_hold, hw]; exact congrArg nI (by omega))) ?_
  refine Bod.sip 1500 (by decide) dc_144_112 ?_
  refine Bod.icF dc_144_115 rfl (k2_gt_F w 1500 rfl rfl (by omega) (by omega)) ?_
  refine Bod.go dc_144_118 rfl ?_
  refine Bod.get dc_144_119 fr_144_48 (mk_2 _) rfl ?_
  refine Bod.go dc_144_122 rfl ?_
  refine Bod.get dc_144_123 fr_144_73 (mk_2 _) rfl ?_
  refine Bod.eqI (nI w) (by first | (simp (disch := omega) only [rI, rIe, rA, rIA, rLA, rJA, rVI, rQI, rVA, rQA, upd_at,  rAI, rLI, rJI, nI_add, pk_sub, kc_0, kc_1, kc_2, kc_3, kc_4, kc_5, reduceIte, Nat.reduceEqDiff, Nat.add_zero, rI_hold, rI_hold, rL_hold, hw]; done) | (simp (disch := omega) only [rI, rIe, rA, rIA, rLA, rJA, rVI, rQI, rVA, rQA, upd_at,  rAI, rLI, rJI, nI_add, pk_sub, kc_0, kc_1, kc_2, kc_3, kc_4, kc_5, reduceIte, Nat.reduceEqDiff, Nat.add_zero, rI_hold, rI_hold, rL_hold, hw]; exact congrArg nI (by omega))) ?_
  refine Bod.go dc_144_126 rfl ?_
  refine Bod.iastN w rfl (by omega) (by omega) dc_144_127 (mk_14 _) (sa_14 _ _ _) (mu_A _ _ _ _) ?_
  refine Bod.go dc_144_128 rfl ?_
  refine Bod.go dc_144_129 rfl ?_
  refine Bod.get dc_144_130 fr_144_73 (mk_2 _) rfl ?_
  refine Bod.eqI (nI w) (by first | (simp (disch := omega) only [rI, rIe, rA, rIA, rLA, rJA, rVI, rQI, rVA, rQA, upd_at,  rAI, rLI, rJI, nI_add, pk_sub, kc_0, kc_1, kc_2, kc_3, kc_4, kc_5, reduceIte, Nat.reduceEqDiff, Nat.add_zero, rI_hold, rI_hold, rL_hold, hw]; done) | (simp (disch := omega) only [rI, rIe, rA, rIA, rLA, rJA, rVI, rQI, rVA, rQA, upd_at,  rAI, rLI, rJI, nI_add, pk_sub, kc_0, kc_1, kc_2, kc_3, kc_4, kc_5, reduceIte, Nat.reduceEqDiff, Nat.add_zero, rI_hold, rI_hold, rL_hold, hw]; exact congrArg nI (by omega))) ?_
  refine Bod.ic 1 (by decide) dc_144_133 ?_
  refine Bod.addN (w + 1) (by omega) dc_144_134 ?_
  refine Bod.put dc_144_135 fr_144_73 (mk_2 _) (Nat.le_of_ble_eq_true rfl) pf_2_16 (st_216 _ _) (mu_I _ _ _) ?_
  exact Bod.retV dc_144_138 rt_144
theorem touch2 {d : Nat} {S : cS} {k : Nat} (h0 : 1 ≤ k) (hk : k ≤ 1500) : Ans (d + 1) 144 [.ref 2, .int (nI k), .int (nI 2)] S (none) (wA 4 k ((sA S 4 k) - (nI 1)) S) := by
  refine Ans.of (by rw [ml_144]; exact Nat.le_of_ble_eq_true rfl) ?_
  refine Bod.go dc_144_0 rfl ?_
  refine Bod.ic 1 (by decide) dc_144_1 ?_
  refine Bod.icF dc_144_2 rfl (k2_lt_F k 1 rfl rfl (by omega) (by omega)) ?_
  refine Bod.go dc_144_5 rfl ?_
  refine Bod.sip 1500 (by decide) dc_144_6 ?_
  refine Bod.icT dc_144_9 rfl (k2_le_T k 1500 rfl rfl (by omega) (by omega)) ?_
  refine Bod.ic 0 (by decide) dc_144_13 ?_
  refine Bod.istn dc_144_14 (by rw [ml_144]; exact Nat.le_of_ble_eq_true rfl) ?_
  refine Bod.go dc_144_15 rfl ?_
  refine Bod.ic 1 (by decide) dc_144_16 ?_
  refine Bod.icT dc_144_17 rfl (k2_ne_T (k_ne 2 1 rfl rfl (by omega) (by omega) (by omega))) ?_
  refine Bod.go dc_144_45 rfl ?_
  refine Bod.get dc_144_46 fr_144_15 (mk_2 _) rfl ?_
  refine Bod.go dc_144_49 rfl ?_
  refine Bod.go dc_144_50 rfl ?_
  refine Bod.ialdN k rfl (by omega) (by omega) dc_144_51 (mk_4 _) ?_
  refine Bod.ic 1 (by decide) dc_144_52 ?_
  refine Bod.go dc_144_53 rfl ?_
  refine Bod.iastN k rfl (by omega) (by omega) dc_144_54 (mk_4 _) (sa_4 _ _ _) (mu_A _ _ _ _) ?_
  refine Bod.go dc_144_55 rfl ?_
  refine Bod.ifT dc_144_56 rfl (k1_ne_T (k_ne 2 0 rfl rfl (by omega) (by omega) (by omega))) ?_
  refine Bod.ic 0 (by decide) dc_144_95 ?_
  refine Bod.istn dc_144_96 (by rw [ml_144]; exact Nat.le_of_ble_eq_true rfl) ?_
  refine Bod.go dc_144_97 rfl ?_
  refine Bod.ifT dc_144_98 rfl (k1_eq_T (k_eq 0 0 rfl rfl (by omega))) ?_
  exact Bod.retV dc_144_138 rt_144
theorem touch1_old {d : Nat} {S : cS} {k : Nat} (h0 : 1 ≤ k) (hk : k ≤ 1500) (hl : sA S 15 k ≠ 0) : Ans (d + 1) 144 [.ref 2, .int (nI k), .int (nI 1)] S (none) (wA 15 k (vp_nar .boolean (nI 1)) S) := by
  refine Ans.of (by rw [ml_144]; exact Nat.le_of_ble_eq_true rfl) ?_
  refine Bod.go dc_144_0 rfl ?_
  refine Bod.ic 1 (by decide) dc_144_1 ?_
  refine Bod.icF dc_144_2 rfl (k2_lt_F k 1 rfl rfl (by omega) (by omega)) ?_
  refine Bod.go dc_144_5 rfl ?_
  refine Bod.sip 1500 (by decide) dc_144_6 ?_
  refine Bod.icT dc_144_9 rfl (k2_le_T k 1500 rfl rfl (by omega) (by omega)) ?_
  refine Bod.ic 0 (by decide) dc_144_13 ?_
  refine Bod.istn dc_144_14 (by rw [ml_144]; exact Nat.le_of_ble_eq_true rfl) ?_
  refine Bod.go dc_144_15 rfl ?_
  refine Bod.ic 1 (by decide) dc_144_16 ?_
  refine Bod.icF dc_144_17 rfl (k2_ne_F (k_eq 1 1 rfl rfl (by omega))) ?_
  refine Bod.go dc_144_20 rfl ?_
  refine Bod.get dc_144_21 fr_144_51 (mk_2 _) rfl ?_
  refine Bod.go dc_144_24 rfl ?_
  refine Bod.baldN k rfl (by omega) (by omega) dc_144_25 (mk_15 _) (Or.inr rfl) ?_
  refine Bod.ifT dc_144_26 rfl (k1_ne_T hl) ?_
  refine Bod.ic 0 (by decide) dc_144_33 ?_
  refine Bod.istn dc_144_34 (by rw [ml_144]; exact Nat.le_of_ble_eq_true rfl) ?_
  refine Bod.go dc_144_35 rfl ?_
  refine Bod.get dc_144_36 fr_144_51 (mk_2 _) rfl ?_
  refine Bod.go dc_144_39 rfl ?_
  refine Bod.ic 1 (by decide) dc_144_40 ?_
  refine Bod.zastN k rfl (by omega) (by omega) dc_144_41 (mk_15 _) (sa_15 _ _ _) (mu_A _ _ _ _) ?_
  refine Bod.go dc_144_42 rfl ?_
  refine Bod.go dc_144_97 rfl ?_
  refine Bod.ifT dc_144_98 rfl (k1_eq_T (k_eq 0 0 rfl rfl (by omega))) ?_
  exact Bod.retV dc_144_138 rt_144
theorem touch1_new {d : Nat} {S : cS} {k : Nat} {w : Nat} (h0 : 1 ≤ k) (hk : k ≤ 1500) (hw : sI S 216 = nI w) (hw2 : w ≤ 1500) (hl : sA S 15 k = 0) : Ans (d + 1) 144 [.ref 2, .int (nI k), .int (nI 1)] S (none) (wI 216 (nI (w + 1)) (wA 14 w (nI k) (wA 15 k (vp_nar .boolean (nI 1)) S))) := by
  refine Ans.of (by rw [ml_144]; exact Nat.le_of_ble_eq_true rfl) ?_
  refine Bod.go dc_144_0 rfl ?_
  refine Bod.ic 1 (by decide) dc_144_1 ?_
  refine Bod.icF dc_144_2 rfl (k2_lt_F k 1 rfl rfl (by omega) (by omega)) ?_
  refine Bod.go dc_144_5 rfl ?_
  refine Bod.sip 1500 (by decide) dc_144_6 ?_
  refine Bod.icT dc_144_9 rfl (k2_le_T k 1500 rfl rfl (by omega) (by omega)) ?_
  refine Bod.ic 0 (by decide) dc_144_13 ?_
  refine Bod.istn dc_144_14 (by rw [ml_144]; exact Nat.le_of_ble_eq_true rfl) ?_
  refine Bod.go dc_144_15 rfl ?_
  refine Bod.ic 1 (by decide) dc_144_16 ?_
  refine Bod.icF dc_144_17 rfl (k2_ne_F (k_eq 1 1 rfl rfl (by omega))) ?_
  refine Bod.go dc_144_20 rfl ?_
  refine Bod.get dc_144_21 fr_144_51 (mk_2 _) rfl ?_
  refine Bod.go dc_144_24 rfl ?_
  refine Bod.baldN k rfl (by omega) (by omega) dc_144_25 (mk_15 _) (Or.inr rfl) ?_
  refine Bod.ifF dc_144_26 rfl (k1_ne_F hl) ?_
  refine Bod.ic 1 (by decide) dc_144_29 ?_
  refine Bod.go dc_144_30 rfl ?_
  refine Bod.istn dc_144_34 (by rw [ml_144]; exact Nat.le_of_ble_eq_true rfl) ?_
  refine Bod.go dc_144_35 rfl ?_
  refine Bod.get dc_144_36 fr_144_51 (mk_2 _) rfl ?_
  refine Bod.go dc_144_39 rfl ?_
  refine Bod.ic 1 (by decide) dc_144_40 ?_
  refine Bod.zastN k rfl (by omega) (by omega) dc_144_41 (mk_15 _) (sa_15 _ _ _) (mu_A _ _ _ _) ?_
  refine Bod.go dc_144_42 rfl ?_
  refine Bod.go dc_144_97 rfl ?_
  refine Bod.ifF dc_144_98 rfl (k1_eq_F (k_ne 1 0 rfl rfl (by omega) (by omega) (by omega))) ?_
  refine Bod.go dc_144_101 rfl ?_
  refine Bod.get dc_144_102 fr_144_73 (mk_2 _) rfl ?_
  refine Bod.eqI (nI w) (by first | (simp (disch := omega) only [rI, rIe, rA, rIA, rLA, rJA, rVI, rQI, rVA, rQA, upd_at,  rAI, rLI, rJI, nI_add, pk_sub, kc_0, kc_1, kc_2, kc_3, kc_4, kc_5, reduceIte, Nat.reduceEqDiff, Nat.add_zero, rI_hold, rI_hold, rL_hold, hw]; done) | (simp (disch := omega) only [rI, rIe, rA, rIA, rLA, rJA, rVI, rQI, rVA, rQA, upd_at,  rAI, rLI, rJI, nI_add, pk_sub, kc_0, kc_1, kc_2, kc_3, kc_4, kc_5, reduceIte, Nat.reduceEqDiff, Nat.add_zero, rI_hold, rI_hold, rL_hold, hw]; exact congrArg nI (by omega))) ?_
  refine Bod.ifF dc_144_105 rfl (k1_lt_F w rfl (by omega)) ?_
  refine Bod.go dc_144_108 rfl ?_
  refine Bod.get dc_144_109 fr_144_73 (mk_2 _) rfl ?_
  refine Bod.eqI (nI w) (by first | (simp (disch := omega) only [rI, rIe, rA, rIA, rLA, rJA, rVI, rQI, rVA, rQA, upd_at,  rAI, rLI, rJI, nI_add, pk_sub, kc_0, kc_1, kc_2, kc_3, kc_4, kc_5, reduceIte, Nat.reduceEqDiff, Nat.add_zero, rI_hold, rI_hold, rL_hold, hw]; done) | (simp (disch := omega) only [rI, rIe, rA, rIA, rLA, rJA, rVI, rQI, rVA, rQA, upd_at,  rAI, rLI, rJI, nI_add, pk_sub, kc_0, kc_1, kc_2, kc_3, kc_4, kc_5, reduceIte, Nat.reduceEqDiff, Nat.add_zero, rI_hold, rI_hold, rL_hold, hw]; exact congrArg nI (by omega))) ?_
  refine Bod.sip 1500 (by decide) dc_144_112 ?_
  refine Bod.icF dc_144_115 rfl (k2_gt_F w 1500 rfl rfl (by omega) (by omega)) ?_
  refine Bod.go dc_144_118 rfl ?_
  refine Bod.get dc_144_119 fr_144_48 (mk_2 _) rfl ?_
  refine Bod.go dc_144_122 rfl ?_
  refine Bod.get dc_144_123 fr_144_73 (mk_2 _) rfl ?_
  refine Bod.eqI (nI w) (by first | (simp (disch := omega) only [rI, rIe, rA, rIA, rLA, rJA, rVI, rQI, rVA, rQA, upd_at,  rAI, rLI, rJI, nI_add, pk_sub, kc_0, kc_1, kc_2, kc_3, kc_4, kc_5, reduceIte, Nat.reduceEqDiff, Nat.add_zero, rI_hold, rI_hold, rL_hold, hw]; done) | (simp (disch := omega) only [rI, rIe, rA, rIA, rLA, rJA, rVI, rQI, rVA, rQA, upd_at,  rAI, rLI, rJI, nI_add, pk_sub, kc_0, kc_1, kc_2, kc_3, kc_4, kc_5, reduceIte, Nat.reduceEqDiff, Nat.add_zero, rI_hold, rI_hold, rL_hold, hw]; exact congrArg nI (by omega))) ?_
  refine Bod.go dc_144_126 rfl ?_
  refine Bod.iastN w rfl (by omega) (by omega) dc_144_127 (mk_14 _) (sa_14 _ _ _) (mu_A _ _ _ _) ?_
  refine Bod.go dc_144_128 rfl ?_
  refine Bod.go dc_144_129 rfl ?_
  refine Bod.get dc_144_130 fr_144_73 (mk_2 _) rfl ?_
  refine Bod.eqI (nI w) (by first | (simp (disch := omega) only [rI, rIe, rA, rIA, rLA, rJA, rVI, rQI, rVA, rQA, upd_at,  rAI, rLI, rJI, nI_add, pk_sub, kc_0, kc_1, kc_2, kc_3, kc_4, kc_5, reduceIte, Nat.reduceEqDiff, Nat.add_zero, rI_hold, rI_hold, rL_hold, hw]; done) | (simp (disch := omega) only [rI, rIe, rA, rIA, rLA, rJA, rVI, rQI, rVA, rQA, upd_at,  rAI, rLI, rJI, nI_add, pk_sub, kc_0, kc_1, kc_2, kc_3, kc_4, kc_5, reduceIte, Nat.reduceEqDiff, Nat.add_zero, rI_hold, rI_hold, rL_hold, hw]; exact congrArg nI (by omega))) ?_
  refine Bod.ic 1 (by decide) dc_144_133 ?_
  refine Bod.addN (w + 1) (by omega) dc_144_134 ?_
  refine Bod.put dc_144_135 fr_144_73 (mk_2 _) (Nat.le_of_ble_eq_true rfl) pf_2_16 (st_216 _ _) (mu_I _ _ _) ?_
  exact Bod.retV dc_144_138 rt_144
theorem remove_T {d : Nat} {S : cS} {k : Nat} {kd : Nat} {n : Nat} {p : Nat} (h0 : 1 ≤ k) (hk : k ≤ 1500) (hkd : sA S 3 k = nI kd) (h1 : 1 ≤ kd) (h7 : kd ≤ 7) (hn : sI S 213 = nI n) (hp : sI S 214 = nI p) (hn1 : 1 ≤ n) (hp1 : p ≤ 1500) : Ans (d + 2) 146 [.ref 2, .int (nI k)] S (none) (wI 214 (nI (p + 1)) (wA 13 p (nI k) (wI 213 (nI (n - 1)) (wA 10 k (nI 0) (wA 4 k (nI 0) (wA 3 k (nI 0) (wA 12 kd ((sA S 12 kd) - (nI 1)) S))))))) := by
  refine Ans.of (by rw [ml_146]; exact Nat.le_of_ble_eq_true rfl) ?_
  refine Bod.go dc_146_0 rfl ?_
  refine Bod.stat (r := []) dc_146_1 kr_146_65 (Or.inl rfl) (by rw [np_139]; rfl) (by rw [np_139]; rfl) (by rw [np_139]; exact Nat.le_of_ble_eq_true rfl) (Nat.le_of_ble_eq_true rfl) (isId_T (k := k) (by omega) (by omega)) ?_
  show Bod _ _ _ _ [_] _ _ _
  refine Bod.ifF dc_146_4 rfl (k1_eq_F (k_ne 1 0 rfl rfl (by omega) (by omega) (by omega))) ?_
  refine Bod.go dc_146_7 rfl ?_
  refine Bod.get dc_146_8 fr_146_11 (mk_2 _) rfl ?_
  refine Bod.go dc_146_11 rfl ?_
  refine Bod.ialdN k rfl (by omega) (by omega) dc_146_12 (mk_3 _) ?_
  refine Bod.eqI (nI kd) (by first | assumption | rfl | exact congrArg nI (by omega) | (simp (disch := omega) only [rI, rIe, rA, rIA, rLA, rJA, rVI, rQI, rVA, rQA, upd_at,  rAI, rLI, rJI, nI_add, pk_sub, kc_0, kc_1, kc_2, kc_3, kc_4, kc_5, reduceIte, Nat.reduceEqDiff, Nat.add_zero, rI_hold, rI_hold, rL_hold, hkd, hn, hp]; done)) ?_
  refine Bod.ic 1 (by decide) dc_146_13 ?_
  refine Bod.icF dc_146_14 rfl (k2_lt_F kd 1 rfl rfl (by omega) (by omega)) ?_
  refine Bod.go dc_146_17 rfl ?_
  refine Bod.get dc_146_18 fr_146_11 (mk_2 _) rfl ?_
  refine Bod.go dc_146_21 rfl ?_
  refine Bod.ialdN k rfl (by omega) (by omega) dc_146_22 (mk_3 _) ?_
  refine Bod.eqI (nI kd) (by first | assumption | rfl | exact congrArg nI (by omega) | (simp (disch := omega) only [rI, rIe, rA, rIA, rLA, rJA, rVI, rQI, rVA, rQA, upd_at,  rAI, rLI, rJI, nI_add, pk_sub, kc_0, kc_1, kc_2, kc_3, kc_4, kc_5, reduceIte, Nat.reduceEqDiff, Nat.add_zero, rI_hold, rI_hold, rL_hold, hkd, hn, hp]; done)) ?_
  refine Bod.bip 7 (by decide) dc_146_23 ?_
  refine Bod.icF dc_146_25 rfl (k2_gt_F kd 7 rfl rfl (by omega) (by omega)) ?_
  refine Bod.go dc_146_28 rfl ?_
  refine Bod.get dc_146_29 fr_146_62 (mk_2 _) rfl ?_
  refine Bod.eqI (nI p) (by first | assumption | rfl | exact congrArg nI (by omega) | (simp (disch := omega) only [rI, rIe, rA, rIA, rLA, rJA, rVI, rQI, rVA, rQA, upd_at,  rAI, rLI, rJI, nI_add, pk_sub, kc_0, kc_1, kc_2, kc_3, kc_4, kc_5, reduceIte, Nat.reduceEqDiff, Nat.add_zero, rI_hold, rI_hold, rL_hold, hkd, hn, hp]; done)) ?_
  refine Bod.ifF dc_146_32 rfl (k1_lt_F p rfl (by omega)) ?_
  refine Bod.go dc_146_35 rfl ?_
  refine Bod.get dc_146_36 fr_146_62 (mk_2 _) rfl ?_
  refine Bod.eqI (nI p) (by first | assumption | rfl | exact congrArg nI (by omega) | (simp (disch := omega) only [rI, rIe, rA, rIA, rLA, rJA, rVI, rQI, rVA, rQA, upd_at,  rAI, rLI, rJI, nI_add, pk_sub, kc_0, kc_1, kc_2, kc_3, kc_4, kc_5, reduceIte, Nat.reduceEqDiff, Nat.add_zero, rI_hold, rI_hold, rL_hold, hkd, hn, hp]; done)) ?_
  refine Bod.sip 1500 (by decide) dc_146_39 ?_
  refine Bod.icT dc_146_42 rfl (k2_le_T p 1500 rfl rfl (by omega) (by omega)) ?_
  refine Bod.go dc_146_46 rfl ?_
  refine Bod.get dc_146_47 fr_146_42 (mk_2 _) rfl ?_
  refine Bod.go dc_146_50 rfl ?_
  refine Bod.get dc_146_51 fr_146_11 (mk_2 _) rfl ?_
  refine Bod.go dc_146_54 rfl ?_
  refine Bod.ialdN k rfl (by omega) (by omega) dc_146_55 (mk_3 _) ?_
  refine Bod.eqI (nI kd) (by first | assumption | rfl | exact congrArg nI (by omega) | (simp (disch := omega) only [rI, rIe, rA, rIA, rLA, rJA, rVI, rQI, rVA, rQA, upd_at,  rAI, rLI, rJI, nI_add, pk_sub, kc_0, kc_1, kc_2, kc_3, kc_4, kc_5, reduceIte, Nat.reduceEqDiff, Nat.add_zero, rI_hold, rI_hold, rL_hold, hkd, hn, hp]; done)) ?_
  refine Bod.go dc_146_56 rfl ?_
  refine Bod.ialdN kd rfl (by omega) (by omega) dc_146_57 (mk_12 _) ?_
  refine Bod.ic 1 (by decide) dc_146_58 ?_
  refine Bod.go dc_146_59 rfl ?_
  refine Bod.iastN kd rfl (by omega) (by omega) dc_146_60 (mk_12 _) (sa_12 _ _ _) (mu_A _ _ _ _) ?_
  refine Bod.go dc_146_61 rfl ?_
  refine Bod.get dc_146_62 fr_146_11 (mk_2 _) rfl ?_
  refine Bod.go dc_146_65 rfl ?_
  refine Bod.ic 0 (by decide) dc_146_66 ?_
  refine Bod.iastN k rfl (by omega) (by omega) dc_146_67 (mk_3 _) (sa_3 _ _ _) (mu_A _ _ _ _) ?_
  refine Bod.go dc_146_68 rfl ?_
  refine Bod.get dc_146_69 fr_146_15 (mk_2 _) rfl ?_
  refine Bod.go dc_146_72 rfl ?_
  refine Bod.ic 0 (by decide) dc_146_73 ?_
  refine Bod.iastN k rfl (by omega) (by omega) dc_146_74 (mk_4 _) (sa_4 _ _ _) (mu_A _ _ _ _) ?_
  refine Bod.go dc_146_75 rfl ?_
  refine Bod.get dc_146_76 fr_146_33 (mk_2 _) rfl ?_
  refine Bod.go dc_146_79 rfl ?_
  refine Bod.ic 0 (by decide) dc_146_80 ?_
  refine Bod.iastN k rfl (by omega) (by omega) dc_146_81 (mk_10 _) (sa_10 _ _ _) (mu_A _ _ _ _) ?_
  refine Bod.go dc_146_82 rfl ?_
  refine Bod.go dc_146_83 rfl ?_
  refine Bod.get dc_146_84 fr_146_55 (mk_2 _) rfl ?_
  refine Bod.eqI (nI n) (by first | (simp (disch := omega) only [rI, rIe, rA, rIA, rLA, rJA, rVI, rQI, rVA, rQA, upd_at,  rAI, rLI, rJI, nI_add, pk_sub, kc_0, kc_1, kc_2, kc_3, kc_4, kc_5, reduceIte, Nat.reduceEqDiff, Nat.add_zero, rI_hold, rI_hold, rL_hold, hkd, hn, hp]; done) | (simp (disch := omega) only [rI, rIe, rA, rIA, rLA, rJA, rVI, rQI, rVA, rQA, upd_at,  rAI, rLI, rJI, nI_add, pk_sub, kc_0, kc_1, kc_2, kc_3, kc_4, kc_5, reduceIte, Nat.reduceEqDiff, Nat.add_zero, rI_hold, rI_hold, rL_hold, hkd, hn, hp]; exact congrArg nI (by omega))) ?_
  refine Bod.ic 1 (by decide) dc_146_87 ?_
  refine Bod.subN (n - 1) (by omega) (by omega) dc_146_88 ?_
  refine Bod.put dc_146_89 fr_146_55 (mk_2 _) (Nat.le_of_ble_eq_true rfl) pf_2_13 (st_213 _ _) (mu_I _ _ _) ?_
  refine Bod.go dc_146_92 rfl ?_
  refine Bod.get dc_146_93 fr_146_45 (mk_2 _) rfl ?_
  refine Bod.go dc_146_96 rfl ?_
  refine Bod.get dc_146_97 fr_146_62 (mk_2 _) rfl ?_
  refine Bod.eqI (nI p) (by first | (simp (disch := omega) only [rI, rIe, rA, rIA, rLA, rJA, rVI, rQI, rVA, rQA, upd_at,  rAI, rLI, rJI, nI_add, pk_sub, kc_0, kc_1, kc_2, kc_3, kc_4, kc_5, reduceIte, Nat.reduceEqDiff, Nat.add_zero, rI_hold, rI_hold, rL_hold, hkd, hn, hp]; done) | (simp (disch := omega) only [rI, rIe, rA, rIA, rLA, rJA, rVI, rQI, rVA, rQA, upd_at,  rAI, rLI, rJI, nI_add, pk_sub, kc_0, kc_1, kc_2, kc_3, kc_4, kc_5, reduceIte, Nat.reduceEqDiff, Nat.add_zero, rI_hold, rI_hold, rL_hold, hkd, hn, hp]; exact congrArg nI (by omega))) ?_
  refine Bod.go dc_146_100 rfl ?_
  refine Bod.iastN p rfl (by omega) (by omega) dc_146_101 (mk_13 _) (sa_13 _ _ _) (mu_A _ _ _ _) ?_
  refine Bod.go dc_146_102 rfl ?_
  refine Bod.go dc_146_103 rfl ?_
  refine Bod.get dc_146_104 fr_146_62 (mk_2 _) rfl ?_
  refine Bod.eqI (nI p) (by first | (simp (disch := omega) only [rI, rIe, rA, rIA, rLA, rJA, rVI, rQI, rVA, rQA, upd_at,  rAI, rLI, rJI, nI_add, pk_sub, kc_0, kc_1, kc_2, kc_3, kc_4, kc_5, reduceIte, Nat.reduceEqDiff, Nat.add_zero, rI_hold, rI_hold, rL_hold, hkd, hn, hp]; done) | (simp (disch := omega) only [rI, rIe, rA, rIA, rLA, rJA, rVI, rQI, rVA, rQA, upd_at,  rAI, rLI, rJI, nI_add, pk_sub, kc_0, kc_1, kc_2, kc_3, kc_4, kc_5, reduceIte, Nat.reduceEqDiff, Nat.add_zero, rI_hold, rI_hold, rL_hold, hkd, hn, hp]; exact congrArg nI (by omega))) ?_
  refine Bod.ic 1 (by decide) dc_146_107 ?_
  refine Bod.addN (p + 1) (by omega) dc_146_108 ?_
  refine Bod.put dc_146_109 fr_146_62 (mk_2 _) (Nat.le_of_ble_eq_true rfl) pf_2_14 (st_214 _ _) (mu_I _ _ _) ?_
  exact Bod.retV dc_146_112 rt_146
theorem create_old {d : Nat} {S : cS} {kd : Nat} {n : Nat} {p : Nat} {f : Nat} {k : Nat} (h1 : 1 ≤ kd) (h7 : kd ≤ 7) (hn : sI S 213 = nI n) (hp : sI S 214 = nI p) (hf : sI S 215 = nI f) (hn1 : n < 1500) (hp1 : 1 ≤ p) (hp2 : p ≤ 1500) (hq : sA S 13 (p - 1) = nI k) (h0 : 1 ≤ k) (hk : k ≤ 1500) : Ans (d + 2) 178 [.ref 2, .int (nI kd)] S (some (.int (nI k))) (wA 12 kd ((sA (wI 213 (nI (n + 1)) (wA 10 k (nI 0) (wA 9 k (nI 0) (wA 8 k (nI 0) (wA 7 k (nI 0) (wA 3 k (nI kd) (wI 214 (nI (p - 1)) S))))))) 12 kd) + (nI 1)) (wI 213 (nI (n + 1)) (wA 10 k (nI 0) (wA 9 k (nI 0) (wA 8 k (nI 0) (wA 7 k (nI 0) (wA 3 k (nI kd) (wI 214 (nI (p - 1)) S)))))))) := by
  refine Ans.of (by rw [ml_178]; exact Nat.le_of_ble_eq_true rfl) ?_
  refine Bod.go dc_178_0 rfl ?_
  refine Bod.get dc_178_1 fr_178_55 (mk_2 _) rfl ?_
  refine Bod.eqI (nI n) (by first | assumption | rfl | exact congrArg nI (by omega) | (simp (disch := omega) only [rI, rIe, rA, rIA, rLA, rJA, rVI, rQI, rVA, rQA, upd_at,  rAI, rLI, rJI, nI_add, pk_sub, kc_0, kc_1, kc_2, kc_3, kc_4, kc_5, reduceIte, Nat.reduceEqDiff, Nat.add_zero, rI_hold, rI_hold, rL_hold, hn, hp, hf, hq]; done)) ?_
  refine Bod.sip 1500 (by decide) dc_178_4 ?_
  refine Bod.icF dc_178_7 rfl (k2_ge_F n 1500 rfl rfl (by omega) (by omega)) ?_
  refine Bod.go dc_178_10 rfl ?_
  refine Bod.ic 1 (by decide) dc_178_11 ?_
  refine Bod.icF dc_178_12 rfl (k2_lt_F kd 1 rfl rfl (by omega) (by omega)) ?_
  refine Bod.go dc_178_15 rfl ?_
  refine Bod.bip 7 (by decide) dc_178_16 ?_
  refine Bod.icT dc_178_18 rfl (k2_le_T kd 7 rfl rfl (by omega) (by omega)) ?_
  refine Bod.go dc_178_23 rfl ?_
  refine Bod.get dc_178_24 fr_178_59 (mk_2 _) rfl ?_
  refine Bod.eqI (nI f) (by first | assumption | rfl | exact congrArg nI (by omega) | (simp (disch := omega) only [rI, rIe, rA, rIA, rLA, rJA, rVI, rQI, rVA, rQA, upd_at,  rAI, rLI, rJI, nI_add, pk_sub, kc_0, kc_1, kc_2, kc_3, kc_4, kc_5, reduceIte, Nat.reduceEqDiff, Nat.add_zero, rI_hold, rI_hold, rL_hold, hn, hp, hf, hq]; done)) ?_
  refine Bod.ic 1 (by decide) dc_178_27 ?_
  refine Bod.addN (f + 1) (by omega) dc_178_28 ?_
  refine Bod.istn dc_178_29 (by rw [ml_178]; exact Nat.le_of_ble_eq_true rfl) ?_
  refine Bod.go dc_178_30 rfl ?_
  refine Bod.get dc_178_31 fr_178_62 (mk_2 _) rfl ?_
  refine Bod.eqI (nI p) (by first | assumption | rfl | exact congrArg nI (by omega) | (simp (disch := omega) only [rI, rIe, rA, rIA, rLA, rJA, rVI, rQI, rVA, rQA, upd_at,  rAI, rLI, rJI, nI_add, pk_sub, kc_0, kc_1, kc_2, kc_3, kc_4, kc_5, reduceIte, Nat.reduceEqDiff, Nat.add_zero, rI_hold, rI_hold, rL_hold, hn, hp, hf, hq]; done)) ?_
  refine Bod.ifF dc_178_34 rfl (k1_le_F p rfl (by omega) (by omega)) ?_
  refine Bod.go dc_178_37 rfl ?_
  refine Bod.get dc_178_38 fr_178_62 (mk_2 _) rfl ?_
  refine Bod.eqI (nI p) (by first | assumption | rfl | exact congrArg nI (by omega) | (simp (disch := omega) only [rI, rIe, rA, rIA, rLA, rJA, rVI, rQI, rVA, rQA, upd_at,  rAI, rLI, rJI, nI_add, pk_sub, kc_0, kc_1, kc_2, kc_3, kc_4, kc_5, reduceIte, Nat.reduceEqDiff, Nat.add_zero, rI_hold, rI_hold, rL_hold, hn, hp, hf, hq]; done)) ?_
  refine Bod.sip 1500 (by decide) dc_178_41 ?_
  refine Bod.icF dc_178_44 rfl (k2_gt_F p 1500 rfl rfl (by omega) (by omega)) ?_
  refine Bod.go dc_178_47 rfl ?_
  refine Bod.go dc_178_48 rfl ?_
  refine Bod.get dc_178_49 fr_178_62 (mk_2 _) rfl ?_
  refine Bod.eqI (nI p) (by first | assumption | rfl | exact congrArg nI (by omega) | (simp (disch := omega) only [rI, rIe, rA, rIA, rLA, rJA, rVI, rQI, rVA, rQA, upd_at,  rAI, rLI, rJI, nI_add, pk_sub, kc_0, kc_1, kc_2, kc_3, kc_4, kc_5, reduceIte, Nat.reduceEqDiff, Nat.add_zero, rI_hold, rI_hold, rL_hold, hn, hp, hf, hq]; done)) ?_
  refine Bod.ic 1 (by decide) dc_178_52 ?_
  refine Bod.subN (p - 1) (by omega) (by omega) dc_178_53 ?_
  refine Bod.put dc_178_54 fr_178_62 (mk_2 _) (Nat.le_of_ble_eq_true rfl) pf_2_14 (st_214 _ _) (mu_I _ _ _) ?_
  refine Bod.go dc_178_57 rfl ?_
  refine Bod.get dc_178_58 fr_178_45 (mk_2 _) rfl ?_
  refine Bod.go dc_178_61 rfl ?_
  refine Bod.get dc_178_62 fr_178_62 (mk_2 _) rfl ?_
  refine Bod.eqI (nI (p - 1)) (by first | (simp (disch := omega) only [rI, rIe, rA, rIA, rLA, rJA, rVI, rQI, rVA, rQA, upd_at,  rAI, rLI, rJI, nI_add, pk_sub, kc_0, kc_1, kc_2, kc_3, kc_4, kc_5, reduceIte, Nat.reduceEqDiff, Nat.add_zero, rI_hold, rI_hold, rL_hold, hn, hp, hf, hq]; done) | (simp (disch := omega) only [rI, rIe, rA, rIA, rLA, rJA, rVI, rQI, rVA, rQA, upd_at,  rAI, rLI, rJI, nI_add, pk_sub, kc_0, kc_1, kc_2, kc_3, kc_4, kc_5, reduceIte, Nat.reduceEqDiff, Nat.add_zero, rI_hold, rI_hold, rL_hold, hn, hp, hf, hq]; exact congrArg nI (by omega))) ?_
  refine Bod.ialdN (p - 1) rfl (by omega) (by omega) dc_178_65 (mk_13 _) ?_
  refine Bod.eqI (nI k) (by first | (simp (disch := omega) only [rI, rIe, rA, rIA, rLA, rJA, rVI, rQI, rVA, rQA, upd_at,  rAI, rLI, rJI, nI_add, pk_sub, kc_0, kc_1, kc_2, kc_3, kc_4, kc_5, reduceIte, Nat.reduceEqDiff, Nat.add_zero, rI_hold, rI_hold, rL_hold, hn, hp, hf, hq]; done) | (simp (disch := omega) only [rI, rIe, rA, rIA, rLA, rJA, rVI, rQI, rVA, rQA, upd_at,  rAI, rLI, rJI, nI_add, pk_sub, kc_0, kc_1, kc_2, kc_3, kc_4, kc_5, reduceIte, Nat.reduceEqDiff, Nat.add_zero, rI_hold, rI_hold, rL_hold, hn, hp, hf, hq]; exact congrArg nI (by omega))) ?_
  refine Bod.istn dc_178_66 (by rw [ml_178]; exact Nat.le_of_ble_eq_true rfl) ?_
  refine Bod.go dc_178_67 rfl ?_
  refine Bod.go dc_178_80 rfl ?_
  refine Bod.stat (r := []) dc_178_81 kr_178_65 (Or.inl rfl) (by rw [np_139]; rfl) (by rw [np_139]; rfl) (by rw [np_139]; exact Nat.le_of_ble_eq_true rfl) (Nat.le_of_ble_eq_true rfl) (isId_T (k := k) (by omega) (by omega)) ?_
  show Bod _ _ _ _ [_] _ _ _
  refine Bod.ifT dc_178_84 rfl (k1_ne_T (k_ne 1 0 rfl rfl (by omega) (by omega) (by omega))) ?_
  refine Bod.go dc_178_89 rfl ?_
  refine Bod.get dc_178_90 fr_178_11 (mk_2 _) rfl ?_
  refine Bod.go dc_178_93 rfl ?_
  refine Bod.go dc_178_94 rfl ?_
  refine Bod.iastN k rfl (by omega) (by omega) dc_178_95 (mk_3 _) (sa_3 _ _ _) (mu_A _ _ _ _) ?_
  refine Bod.go dc_178_96 rfl ?_
  refine Bod.get dc_178_97 fr_178_24 (mk_2 _) rfl ?_
  refine Bod.go dc_178_100 rfl ?_
  refine Bod.ic 0 (by decide) dc_178_101 ?_
  refine Bod.iastN k rfl (by omega) (by omega) dc_178_102 (mk_7 _) (sa_7 _ _ _) (mu_A _ _ _ _) ?_
  refine Bod.go dc_178_103 rfl ?_
  refine Bod.get dc_178_104 fr_178_27 (mk_2 _) rfl ?_
  refine Bod.go dc_178_107 rfl ?_
  refine Bod.ic 0 (by decide) dc_178_108 ?_
  refine Bod.iastN k rfl (by omega) (by omega) dc_178_109 (mk_8 _) (sa_8 _ _ _) (mu_A _ _ _ _) ?_
  refine Bod.go dc_178_110 rfl ?_
  refine Bod.get dc_178_111 fr_178_30 (mk_2 _) rfl ?_
  refine Bod.go dc_178_114 rfl ?_
  refine Bod.ic 0 (by decide) dc_178_115 ?_
  refine Bod.iastN k rfl (by omega) (by omega) dc_178_116 (mk_9 _) (sa_9 _ _ _) (mu_A _ _ _ _) ?_
  refine Bod.go dc_178_117 rfl ?_
  refine Bod.get dc_178_118 fr_178_33 (mk_2 _) rfl ?_
  refine Bod.go dc_178_121 rfl ?_
  refine Bod.ic 0 (by decide) dc_178_122 ?_
  refine Bod.iastN k rfl (by omega) (by omega) dc_178_123 (mk_10 _) (sa_10 _ _ _) (mu_A _ _ _ _) ?_
  refine Bod.go dc_178_124 rfl ?_
  refine Bod.go dc_178_125 rfl ?_
  refine Bod.get dc_178_126 fr_178_55 (mk_2 _) rfl ?_
  refine Bod.eqI (nI n) (by first | (simp (disch := omega) only [rI, rIe, rA, rIA, rLA, rJA, rVI, rQI, rVA, rQA, upd_at,  rAI, rLI, rJI, nI_add, pk_sub, kc_0, kc_1, kc_2, kc_3, kc_4, kc_5, reduceIte, Nat.reduceEqDiff, Nat.add_zero, rI_hold, rI_hold, rL_hold, hn, hp, hf, hq]; done) | (simp (disch := omega) only [rI, rIe, rA, rIA, rLA, rJA, rVI, rQI, rVA, rQA, upd_at,  rAI, rLI, rJI, nI_add, pk_sub, kc_0, kc_1, kc_2, kc_3, kc_4, kc_5, reduceIte, Nat.reduceEqDiff, Nat.add_zero, rI_hold, rI_hold, rL_hold, hn, hp, hf, hq]; exact congrArg nI (by omega))) ?_
  refine Bod.ic 1 (by decide) dc_178_129 ?_
  refine Bod.addN (n + 1) (by omega) dc_178_130 ?_
  refine Bod.put dc_178_131 fr_178_55 (mk_2 _) (Nat.le_of_ble_eq_true rfl) pf_2_13 (st_213 _ _) (mu_I _ _ _) ?_
  refine Bod.go dc_178_134 rfl ?_
  refine Bod.get dc_178_135 fr_178_42 (mk_2 _) rfl ?_
  refine Bod.go dc_178_138 rfl ?_
  refine Bod.go dc_178_139 rfl ?_
  refine Bod.ialdN kd rfl (by omega) (by omega) dc_178_140 (mk_12 _) ?_
  refine Bod.ic 1 (by decide) dc_178_141 ?_
  refine Bod.go dc_178_142 rfl ?_
  refine Bod.iastN kd rfl (by omega) (by omega) dc_178_143 (mk_12 _) (sa_12 _ _ _) (mu_A _ _ _ _) ?_
  refine Bod.go dc_178_144 rfl ?_
  exact Bod.retI dc_178_145 rt_178
theorem create_new {d : Nat} {S : cS} {kd : Nat} {n : Nat} {p : Nat} {f : Nat} (h1 : 1 ≤ kd) (h7 : kd ≤ 7) (hn : sI S 213 = nI n) (hp : sI S 214 = nI p) (hf : sI S 215 = nI f) (hn1 : n < 1500) (hp0 : p = 0) (hf1 : f < 1500) : Ans (d + 2) 178 [.ref 2, .int (nI kd)] S (some (.int (nI (f + 1)))) (wA 12 kd ((sA (wI 213 (nI (n + 1)) (wA 10 (f + 1) (nI 0) (wA 9 (f + 1) (nI 0) (wA 8 (f + 1) (nI 0) (wA 7 (f + 1) (nI 0) (wA 3 (f + 1) (nI kd) (wI 215 (nI (f + 1)) S))))))) 12 kd) + (nI 1)) (wI 213 (nI (n + 1)) (wA 10 (f + 1) (nI 0) (wA 9 (f + 1) (nI 0) (wA 8 (f + 1) (nI 0) (wA 7 (f + 1) (nI 0) (wA 3 (f + 1) (nI kd) (wI 215 (nI (f + 1)) S)))))))) := by
  refine Ans.of (by rw [ml_178]; exact Nat.le_of_ble_eq_true rfl) ?_
  refine Bod.go dc_178_0 rfl ?_
  refine Bod.get dc_178_1 fr_178_55 (mk_2 _) rfl ?_
  refine Bod.eqI (nI n) (by first | assumption | rfl | exact congrArg nI (by omega) | (simp (disch := omega) only [rI, rIe, rA, rIA, rLA, rJA, rVI, rQI, rVA, rQA, upd_at,  rAI, rLI, rJI, nI_add, pk_sub, kc_0, kc_1, kc_2, kc_3, kc_4, kc_5, reduceIte, Nat.reduceEqDiff, Nat.add_zero, rI_hold, rI_hold, rL_hold, hn, hp, hf]; done)) ?_
  refine Bod.sip 1500 (by decide) dc_178_4 ?_
  refine Bod.icF dc_178_7 rfl (k2_ge_F n 1500 rfl rfl (by omega) (by omega)) ?_
  refine Bod.go dc_178_10 rfl ?_
  refine Bod.ic 1 (by decide) dc_178_11 ?_
  refine Bod.icF dc_178_12 rfl (k2_lt_F kd 1 rfl rfl (by omega) (by omega)) ?_
  refine Bod.go dc_178_15 rfl ?_
  refine Bod.bip 7 (by decide) dc_178_16 ?_
  refine Bod.icT dc_178_18 rfl (k2_le_T kd 7 rfl rfl (by omega) (by omega)) ?_
  refine Bod.go dc_178_23 rfl ?_
  refine Bod.get dc_178_24 fr_178_59 (mk_2 _) rfl ?_
  refine Bod.eqI (nI f) (by first | assumption | rfl | exact congrArg nI (by omega) | (simp (disch := omega) only [rI, rIe, rA, rIA, rLA, rJA, rVI, rQI, rVA, rQA, upd_at,  rAI, rLI, rJI, nI_add, pk_sub, kc_0, kc_1, kc_2, kc_3, kc_4, kc_5, reduceIte, Nat.reduceEqDiff, Nat.add_zero, rI_hold, rI_hold, rL_hold, hn, hp, hf]; done)) ?_
  refine Bod.ic 1 (by decide) dc_178_27 ?_
  refine Bod.addN (f + 1) (by omega) dc_178_28 ?_
  refine Bod.istn dc_178_29 (by rw [ml_178]; exact Nat.le_of_ble_eq_true rfl) ?_
  refine Bod.go dc_178_30 rfl ?_
  refine Bod.get dc_178_31 fr_178_62 (mk_2 _) rfl ?_
  refine Bod.eqI (nI p) (by first | assumption | rfl | exact congrArg nI (by omega) | (simp (disch := omega) only [rI, rIe, rA, rIA, rLA, rJA, rVI, rQI, rVA, rQA, upd_at,  rAI, rLI, rJI, nI_add, pk_sub, kc_0, kc_1, kc_2, kc_3, kc_4, kc_5, reduceIte, Nat.reduceEqDiff, Nat.add_zero, rI_hold, rI_hold, rL_hold, hn, hp, hf]; done)) ?_
  refine Bod.ifT dc_178_34 rfl (k1_le_T (k_eq p 0 rfl rfl (by omega))) ?_
  refine Bod.go dc_178_70 rfl ?_
  refine Bod.go dc_178_71 rfl ?_
  refine Bod.get dc_178_72 fr_178_59 (mk_2 _) rfl ?_
  refine Bod.eqI (nI f) (by first | assumption | rfl | exact congrArg nI (by omega) | (simp (disch := omega) only [rI, rIe, rA, rIA, rLA, rJA, rVI, rQI, rVA, rQA, upd_at,  rAI, rLI, rJI, nI_add, pk_sub, kc_0, kc_1, kc_2, kc_3, kc_4, kc_5, reduceIte, Nat.reduceEqDiff, Nat.add_zero, rI_hold, rI_hold, rL_hold, hn, hp, hf]; done)) ?_
  refine Bod.ic 1 (by decide) dc_178_75 ?_
  refine Bod.addN (f + 1) (by omega) dc_178_76 ?_
  refine Bod.put dc_178_77 fr_178_59 (mk_2 _) (Nat.le_of_ble_eq_true rfl) pf_2_15 (st_215 _ _) (mu_I _ _ _) ?_
  refine Bod.go dc_178_80 rfl ?_
  refine Bod.stat (r := []) dc_178_81 kr_178_65 (Or.inl rfl) (by rw [np_139]; rfl) (by rw [np_139]; rfl) (by rw [np_139]; exact Nat.le_of_ble_eq_true rfl) (Nat.le_of_ble_eq_true rfl) (isId_T (k := f + 1) (by omega) (by omega)) ?_
  show Bod _ _ _ _ [_] _ _ _
  refine Bod.ifT dc_178_84 rfl (k1_ne_T (k_ne 1 0 rfl rfl (by omega) (by omega) (by omega))) ?_
  refine Bod.go dc_178_89 rfl ?_
  refine Bod.get dc_178_90 fr_178_11 (mk_2 _) rfl ?_
  refine Bod.go dc_178_93 rfl ?_
  refine Bod.go dc_178_94 rfl ?_
  refine Bod.iastN (f + 1) rfl (by omega) (by omega) dc_178_95 (mk_3 _) (sa_3 _ _ _) (mu_A _ _ _ _) ?_
  refine Bod.go dc_178_96 rfl ?_
  refine Bod.get dc_178_97 fr_178_24 (mk_2 _) rfl ?_
  refine Bod.go dc_178_100 rfl ?_
  refine Bod.ic 0 (by decide) dc_178_101 ?_
  refine Bod.iastN (f + 1) rfl (by omega) (by omega) dc_178_102 (mk_7 _) (sa_7 _ _ _) (mu_A _ _ _ _) ?_
  refine Bod.go dc_178_103 rfl ?_
  refine Bod.get dc_178_104 fr_178_27 (mk_2 _) rfl ?_
  refine Bod.go dc_178_107 rfl ?_
  refine Bod.ic 0 (by decide) dc_178_108 ?_
  refine Bod.iastN (f + 1) rfl (by omega) (by omega) dc_178_109 (mk_8 _) (sa_8 _ _ _) (mu_A _ _ _ _) ?_
  refine Bod.go dc_178_110 rfl ?_
  refine Bod.get dc_178_111 fr_178_30 (mk_2 _) rfl ?_
  refine Bod.go dc_178_114 rfl ?_
  refine Bod.ic 0 (by decide) dc_178_115 ?_
  refine Bod.iastN (f + 1) rfl (by omega) (by omega) dc_178_116 (mk_9 _) (sa_9 _ _ _) (mu_A _ _ _ _) ?_
  refine Bod.go dc_178_117 rfl ?_
  refine Bod.get dc_178_118 fr_178_33 (mk_2 _) rfl ?_
  refine Bod.go dc_178_121 rfl ?_
  refine Bod.ic 0 (by decide) dc_178_122 ?_
  refine Bod.iastN (f + 1) rfl (by omega) (by omega) dc_178_123 (mk_10 _) (sa_10 _ _ _) (mu_A _ _ _ _) ?_
  refine Bod.go dc_178_124 rfl ?_
  refine Bod.go dc_178_125 rfl ?_
  refine Bod.get dc_178_126 fr_178_55 (mk_2 _) rfl ?_
  refine Bod.eqI (nI n) (by first | (simp (disch := omega) only [rI, rIe, rA, rIA, rLA, rJA, rVI, rQI, rVA, rQA, upd_at,  rAI, rLI, rJI, nI_add, pk_sub, kc_0, kc_1, kc_2, kc_3, kc_4, kc_5, reduceIte, Nat.reduceEqDiff, Nat.add_zero, rI_hold, rI_hold, rL_hold, hn, hp, hf]; done) | (simp (disch := omega) only [rI, rIe, rA, rIA, rLA, rJA, rVI, rQI, rVA, rQA, upd_at,  rAI, rLI, rJI, nI_add, pk_sub, kc_0, kc_1, kc_2, kc_3, kc_4, kc_5, reduceIte, Nat.reduceEqDiff, Nat.add_zero, rI_hold, rI_hold, rL_hold, hn, hp, hf]; exact congrArg nI (by omega))) ?_
  refine Bod.ic 1 (by decide) dc_178_129 ?_
  refine Bod.addN (n + 1) (by omega) dc_178_130 ?_
  refine Bod.put dc_178_131 fr_178_55 (mk_2 _) (Nat.le_of_ble_eq_true rfl) pf_2_13 (st_213 _ _) (mu_I _ _ _) ?_
  refine Bod.go dc_178_134 rfl ?_
  refine Bod.get dc_178_135 fr_178_42 (mk_2 _) rfl ?_
  refine Bod.go dc_178_138 rfl ?_
  refine Bod.go dc_178_139 rfl ?_
  refine Bod.ialdN kd rfl (by omega) (by omega) dc_178_140 (mk_12 _) ?_
  refine Bod.ic 1 (by decide) dc_178_141 ?_
  refine Bod.go dc_178_142 rfl ?_
  refine Bod.iastN kd rfl (by omega) (by omega) dc_178_143 (mk_12 _) (sa_12 _ _ _) (mu_A _ _ _ _) ?_
  refine Bod.go dc_178_144 rfl ?_
  exact Bod.retI dc_178_145 rt_178
theorem create_none {d : Nat} {S : cS} {kd : Nat} {n : Nat} (hn : sI S 213 = nI n) (hn1 : 1500 ≤ n) (hn2 : n < 2 ^ 31) : Ans (d + 1) 178 [.ref 2, .int (nI kd)] S (some (.int (nI 0))) (S) := by
  refine Ans.of (by rw [ml_178]; exact Nat.le_of_ble_eq_true rfl) ?_
  refine Bod.go dc_178_0 rfl ?_
  refine Bod.get dc_178_1 fr_178_55 (mk_2 _) rfl ?_
  refine Bod.eqI (nI n) (by first | assumption | rfl | exact congrArg nI (by omega) | (simp (disch := omega) only [rI, rIe, rA, rIA, rLA, rJA, rVI, rQI, rVA, rQA, upd_at,  rAI, rLI, rJI, nI_add, pk_sub, kc_0, kc_1, kc_2, kc_3, kc_4, kc_5, reduceIte, Nat.reduceEqDiff, Nat.add_zero, rI_hold, rI_hold, rL_hold, hn]; done)) ?_
  refine Bod.sip 1500 (by decide) dc_178_4 ?_
  refine Bod.icT dc_178_7 rfl (k2_ge_T n 1500 rfl rfl (by omega) (by omega)) ?_
  refine Bod.ic 0 (by decide) dc_178_21 ?_
  exact Bod.retI dc_178_22 rt_178
theorem link_T {d : Nat} {S : cS} {k : Nat} {i : Int32} {x : Nat} {y : Nat} (h0 : 1 ≤ k) (hk : k ≤ 1500) (hx : x ≤ 1500) (hy : y ≤ 1500) : Ans (d + 2) 179 [.ref 2, .int (nI k), .int i, .int (nI x), .int (nI y)] S (none) (c_hold 4 y (c_hold 4 x (wA 8 k (nI y) (wA 7 k (nI x) (wA 9 k i S))))) := by
  refine Ans.of (by rw [ml_179]; exact Nat.le_of_ble_eq_true rfl) ?_
  refine Bod.go dc_179_0 rfl ?_
  refine Bod.stat (r := []) dc_179_1 kr_179_65 (Or.inl rfl) (by rw [np_139]; rfl) (by rw [np_139]; rfl) (by rw [np_139]; exact Nat.le_of_ble_eq_true rfl) (Nat.le_of_ble_eq_true rfl) (isId_T (k := k) (by omega) (by omega)) ?_
  show Bod _ _ _ _ [_] _ _ _
  refine Bod.ifT dc_179_4 rfl (k1_ne_T (k_ne 1 0 rfl rfl (by omega) (by omega) (by omega))) ?_
  refine Bod.go dc_179_8 rfl ?_
  refine Bod.get dc_179_9 fr_179_30 (mk_2 _) rfl ?_
  refine Bod.go dc_179_12 rfl ?_
  refine Bod.go dc_179_13 rfl ?_
  refine Bod.iastN k rfl (by omega) (by omega) dc_179_14 (mk_9 _) (sa_9 _ _ _) (mu_A _ _ _ _) ?_
  refine Bod.go dc_179_15 rfl ?_
  refine Bod.get dc_179_16 fr_179_24 (mk_2 _) rfl ?_
  refine Bod.go dc_179_19 rfl ?_
  refine Bod.go dc_179_20 rfl ?_
  refine Bod.iastN k rfl (by omega) (by omega) dc_179_21 (mk_7 _) (sa_7 _ _ _) (mu_A _ _ _ _) ?_
  refine Bod.go dc_179_22 rfl ?_
  refine Bod.get dc_179_23 fr_179_27 (mk_2 _) rfl ?_
  refine Bod.go dc_179_26 rfl ?_
  refine Bod.go dc_179_27 rfl ?_
  refine Bod.iastN k rfl (by omega) (by omega) dc_179_29 (mk_8 _) (sa_8 _ _ _) (mu_A _ _ _ _) ?_
  refine Bod.go dc_179_30 rfl ?_
  refine Bod.go dc_179_31 rfl ?_
  refine Bod.get dc_179_32 fr_179_15 (mk_2 _) rfl ?_
  refine Bod.go dc_179_35 rfl ?_
  refine Bod.virt (r := []) dc_179_36 kr_179_69 ⟨Or.inl rfl, ow_149, cl_2⟩ (by rw [np_149]; rfl) (by rw [np_149]; rfl) (ob_of (mk_2 _)) (Nat.le_of_ble_eq_true rfl) (hold_ev (a := 4) (k := x) (Or.inl rfl) (by omega)) ?_
  show Bod _ _ _ _ [] _ _ _
  refine Bod.go dc_179_39 rfl ?_
  refine Bod.go dc_179_40 rfl ?_
  refine Bod.get dc_179_41 fr_179_15 (mk_2 _) rfl ?_
  refine Bod.go dc_179_44 rfl ?_
  refine Bod.virt (r := []) dc_179_46 kr_179_69 ⟨Or.inl rfl, ow_149, cl_2⟩ (by rw [np_149]; rfl) (by rw [np_149]; rfl) (ob_of (mk_2 _)) (Nat.le_of_ble_eq_true rfl) (hold_ev (a := 4) (k := y) (Or.inl rfl) (by omega)) ?_
  show Bod _ _ _ _ [] _ _ _
  exact Bod.retV dc_179_49 rt_179
theorem holdsOf_T {d : Nat} {S : cS} {k : Nat} (h0 : 1 ≤ k) (hk : k ≤ 1500) : Ans (d + 2) 250 [.ref 2, .int (nI k)] S (some (.int ((sA S 4 k) + (sA S 5 k)))) (S) := by
  refine Ans.of (by rw [ml_250]; exact Nat.le_of_ble_eq_true rfl) ?_
  refine Bod.go dc_250_0 rfl ?_
  refine Bod.stat (r := []) dc_250_1 kr_250_65 (Or.inl rfl) (by rw [np_139]; rfl) (by rw [np_139]; rfl) (by rw [np_139]; exact Nat.le_of_ble_eq_true rfl) (Nat.le_of_ble_eq_true rfl) (isId_T (k := k) (by omega) (by omega)) ?_
  show Bod _ _ _ _ [_] _ _ _
  refine Bod.ifF dc_250_4 rfl (k1_eq_F (k_ne 1 0 rfl rfl (by omega) (by omega) (by omega))) ?_
  refine Bod.go dc_250_7 rfl ?_
  refine Bod.get dc_250_8 fr_250_15 (mk_2 _) rfl ?_
  refine Bod.go dc_250_11 rfl ?_
  refine Bod.ialdN k rfl (by omega) (by omega) dc_250_12 (mk_4 _) ?_
  refine Bod.go dc_250_13 rfl ?_
  refine Bod.get dc_250_14 fr_250_18 (mk_2 _) rfl ?_
  refine Bod.go dc_250_17 rfl ?_
  refine Bod.ialdN k rfl (by omega) (by omega) dc_250_18 (mk_5 _) ?_
  refine Bod.go dc_250_19 rfl ?_
  refine Bod.go dc_250_20 rfl ?_
  exact Bod.retI dc_250_24 rt_250
