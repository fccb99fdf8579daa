/-! WAYS of the class's rules of statements -/
theorem dc_94_0 : decode (sm_cc 94) 0 = .ok (.aload_n 0, 1) := by decide +kernel
theorem dc_94_1 : decode (sm_cc 94) 1 = .ok (.invokevirtual 63, 3) := by decide +kernel
theorem kr_94_63 : sm_at mt_k (sm_ow 94) 63 = some (63, 0, 69, 0, 1096) := by decide +kernel
theorem dc_94_4 : decode (sm_cc 94) 4 = .ok (.ifCond .eq (21), 3) := by decide +kernel
theorem dc_94_7 : decode (sm_cc 94) 7 = .ok (.aload_n 0, 1) := by decide +kernel
theorem dc_94_8 : decode (sm_cc 94) 8 = .ok (.aload_n 0, 1) := by decide +kernel
theorem dc_94_9 : decode (sm_cc 94) 9 = .ok (.getfield 44, 3) := by decide +kernel
theorem fr_94_44 : sm_at mt_f (sm_ow 94) 44 = some (44, 8, 11, 0, 661) := by decide +kernel
theorem dc_94_12 : decode (sm_cc 94) 12 = .ok (.iload_n 1, 1) := by decide +kernel
theorem dc_94_13 : decode (sm_cc 94) 13 = .ok (.invokevirtual 67, 3) := by decide +kernel
theorem ow_95 : 8 = sm_ow 95 := by decide +kernel
theorem kr_94_67 : sm_at mt_k (sm_ow 94) 67 = some (67, 0, 95, 0, 1208) := by decide +kernel
theorem np_95 : sm_np 95 = 2 := by decide +kernel
theorem dc_94_16 : decode (sm_cc 94) 16 = .ok (.ifCond .ge (9), 3) := by decide +kernel
theorem dc_94_25 : decode (sm_cc 94) 25 = .ok (.return_, 1) := by decide +kernel
theorem rt_94 : sm_rt 94 = none := by decide +kernel
theorem dc_94_19 : decode (sm_cc 94) 19 = .ok (.aload_n 0, 1) := by decide +kernel
theorem dc_94_20 : decode (sm_cc 94) 20 = .ok (.iload_n 1, 1) := by decide +kernel
theorem dc_94_21 : decode (sm_cc 94) 21 = .ok (.iconst 0, 1) := by decide +kernel
theorem dc_94_22 : decode (sm_cc 94) 22 = .ok (.invokevirtual 71, 3) := by decide +kernel
theorem ow_96 : 8 = sm_ow 96 := by decide +kernel
theorem kr_94_71 : sm_at mt_k (sm_ow 94) 71 = some (71, 0, 96, 0, 1212) := by decide +kernel
theorem np_96 : sm_np 96 = 2 := by decide +kernel
theorem dc_101_0 : decode (sm_cc 101) 0 = .ok (.aload_n 0, 1) := by decide +kernel
theorem dc_101_1 : decode (sm_cc 101) 1 = .ok (.aload_n 0, 1) := by decide +kernel
theorem dc_101_2 : decode (sm_cc 101) 2 = .ok (.getfield 44, 3) := by decide +kernel
theorem fr_101_44 : sm_at mt_f (sm_ow 101) 44 = some (44, 8, 11, 0, 661) := by decide +kernel
theorem dc_101_5 : decode (sm_cc 101) 5 = .ok (.iload_n 1, 1) := by decide +kernel
theorem dc_101_6 : decode (sm_cc 101) 6 = .ok (.invokevirtual 67, 3) := by decide +kernel
theorem kr_101_67 : sm_at mt_k (sm_ow 101) 67 = some (67, 0, 95, 0, 1208) := by decide +kernel
theorem dc_101_9 : decode (sm_cc 101) 9 = .ok (.ifCond .lt (5), 3) := by decide +kernel
theorem dc_101_12 : decode (sm_cc 101) 12 = .ok (.iconst 0, 1) := by decide +kernel
theorem dc_101_13 : decode (sm_cc 101) 13 = .ok (.ireturn, 1) := by decide +kernel
theorem rt_101 : sm_rt 101 = some .boolean := by decide +kernel
theorem dc_101_14 : decode (sm_cc 101) 14 = .ok (.aload_n 0, 1) := by decide +kernel
theorem dc_101_15 : decode (sm_cc 101) 15 = .ok (.iload_n 1, 1) := by decide +kernel
theorem dc_101_16 : decode (sm_cc 101) 16 = .ok (.iconst 1, 1) := by decide +kernel
theorem dc_101_17 : decode (sm_cc 101) 17 = .ok (.invokevirtual 71, 3) := by decide +kernel
theorem kr_101_71 : sm_at mt_k (sm_ow 101) 71 = some (71, 0, 96, 0, 1212) := by decide +kernel
theorem dc_101_20 : decode (sm_cc 101) 20 = .ok (.iconst 1, 1) := by decide +kernel
theorem dc_101_21 : decode (sm_cc 101) 21 = .ok (.ireturn, 1) := by decide +kernel
theorem dc_116_0 : decode (sm_cc 116) 0 = .ok (.aload_n 0, 1) := by decide +kernel
theorem dc_116_1 : decode (sm_cc 116) 1 = .ok (.aload_n 0, 1) := by decide +kernel
theorem dc_116_2 : decode (sm_cc 116) 2 = .ok (.getfield 44, 3) := by decide +kernel
theorem fr_116_44 : sm_at mt_f (sm_ow 116) 44 = some (44, 8, 11, 0, 661) := by decide +kernel
theorem dc_116_5 : decode (sm_cc 116) 5 = .ok (.iload_n 1, 1) := by decide +kernel
theorem dc_116_6 : decode (sm_cc 116) 6 = .ok (.invokevirtual 67, 3) := by decide +kernel
theorem kr_116_67 : sm_at mt_k (sm_ow 116) 67 = some (67, 0, 95, 0, 1208) := by decide +kernel
theorem dc_116_9 : decode (sm_cc 116) 9 = .ok (.istore_n 2, 1) := by decide +kernel
theorem dc_116_10 : decode (sm_cc 116) 10 = .ok (.iload_n 2, 1) := by decide +kernel
theorem dc_116_11 : decode (sm_cc 116) 11 = .ok (.ifCond .lt (10), 3) := by decide +kernel
theorem dc_116_14 : decode (sm_cc 116) 14 = .ok (.iload_n 2, 1) := by decide +kernel
theorem dc_116_15 : decode (sm_cc 116) 15 = .ok (.sipush (1600), 3) := by decide +kernel
theorem dc_116_18 : decode (sm_cc 116) 18 = .ok (.if_icmp .lt (11), 3) := by decide +kernel
theorem dc_116_29 : decode (sm_cc 116) 29 = .ok (.aload_n 0, 1) := by decide +kernel
theorem dc_116_30 : decode (sm_cc 116) 30 = .ok (.getfield 29, 3) := by decide +kernel
theorem fr_116_29 : sm_at mt_f (sm_ow 116) 29 = some (29, 8, 6, 0, 656) := by decide +kernel
theorem dc_116_33 : decode (sm_cc 116) 33 = .ok (.iload_n 2, 1) := by decide +kernel
theorem dc_116_34 : decode (sm_cc 116) 34 = .ok (.iaload, 1) := by decide +kernel
theorem dc_116_35 : decode (sm_cc 116) 35 = .ok (.iconst 1, 1) := by decide +kernel
theorem dc_116_36 : decode (sm_cc 116) 36 = .ok (.if_icmp .ne (5), 3) := by decide +kernel
theorem dc_116_41 : decode (sm_cc 116) 41 = .ok (.aload_n 0, 1) := by decide +kernel
theorem dc_116_42 : decode (sm_cc 116) 42 = .ok (.getfield 29, 3) := by decide +kernel
theorem dc_116_45 : decode (sm_cc 116) 45 = .ok (.iload_n 2, 1) := by decide +kernel
theorem dc_116_46 : decode (sm_cc 116) 46 = .ok (.iconst 2, 1) := by decide +kernel
theorem dc_116_47 : decode (sm_cc 116) 47 = .ok (.iastore, 1) := by decide +kernel
theorem dc_116_48 : decode (sm_cc 116) 48 = .ok (.iconst 1, 1) := by decide +kernel
theorem dc_116_49 : decode (sm_cc 116) 49 = .ok (.ireturn, 1) := by decide +kernel
theorem rt_116 : sm_rt 116 = some .boolean := by decide +kernel
theorem dc_116_39 : decode (sm_cc 116) 39 = .ok (.iconst 0, 1) := by decide +kernel
theorem dc_116_40 : decode (sm_cc 116) 40 = .ok (.ireturn, 1) := by decide +kernel
theorem dc_116_21 : decode (sm_cc 116) 21 = .ok (.aload_n 0, 1) := by decide +kernel
theorem dc_116_22 : decode (sm_cc 116) 22 = .ok (.iload_n 1, 1) := by decide +kernel
theorem dc_116_23 : decode (sm_cc 116) 23 = .ok (.iconst 2, 1) := by decide +kernel
theorem dc_116_24 : decode (sm_cc 116) 24 = .ok (.invokevirtual 71, 3) := by decide +kernel
theorem kr_116_71 : sm_at mt_k (sm_ow 116) 71 = some (71, 0, 96, 0, 1212) := by decide +kernel
theorem dc_116_27 : decode (sm_cc 116) 27 = .ok (.iconst 1, 1) := by decide +kernel
theorem dc_116_28 : decode (sm_cc 116) 28 = .ok (.ireturn, 1) := by decide +kernel
theorem dc_95_0 : decode (sm_cc 95) 0 = .ok (.iload_n 1, 1) := by decide +kernel
theorem dc_95_1 : decode (sm_cc 95) 1 = .ok (.ifCond .le (19), 3) := by decide +kernel
theorem dc_95_20 : decode (sm_cc 95) 20 = .ok (.iconst (-1), 1) := by decide +kernel
theorem dc_95_21 : decode (sm_cc 95) 21 = .ok (.istore_n 3, 1) := by decide +kernel
theorem dc_95_22 : decode (sm_cc 95) 22 = .ok (.iconst 0, 1) := by decide +kernel
theorem dc_95_23 : decode (sm_cc 95) 23 = .ok (.istore 4, 2) := by decide +kernel
theorem dc_95_4 : decode (sm_cc 95) 4 = .ok (.iload_n 1, 1) := by decide +kernel
theorem dc_95_5 : decode (sm_cc 95) 5 = .ok (.sipush (300), 3) := by decide +kernel
theorem dc_95_8 : decode (sm_cc 95) 8 = .ok (.if_icmp .ge (12), 3) := by decide +kernel
theorem dc_95_11 : decode (sm_cc 95) 11 = .ok (.aload_n 0, 1) := by decide +kernel
theorem dc_95_12 : decode (sm_cc 95) 12 = .ok (.getfield 20, 3) := by decide +kernel
theorem fr_95_20 : sm_at mt_f (sm_ow 95) 20 = some (20, 8, 3, 0, 653) := by decide +kernel
theorem dc_95_15 : decode (sm_cc 95) 15 = .ok (.iload_n 1, 1) := by decide +kernel
theorem dc_95_16 : decode (sm_cc 95) 16 = .ok (.iaload, 1) := by decide +kernel
theorem dc_95_17 : decode (sm_cc 95) 17 = .ok (.goto (4), 3) := by decide +kernel
theorem dc_95_25 : decode (sm_cc 95) 25 = .ok (.iload 4, 2) := by decide +kernel
theorem dc_95_27 : decode (sm_cc 95) 27 = .ok (.sipush (1600), 3) := by decide +kernel
theorem dc_95_30 : decode (sm_cc 95) 30 = .ok (.if_icmp .ge (39), 3) := by decide +kernel
theorem dc_95_69 : decode (sm_cc 95) 69 = .ok (.iconst (-1), 1) := by decide +kernel
theorem dc_95_70 : decode (sm_cc 95) 70 = .ok (.ireturn, 1) := by decide +kernel
theorem rt_95 : sm_rt 95 = some .int := by decide +kernel
theorem dc_95_33 : decode (sm_cc 95) 33 = .ok (.iload_n 3, 1) := by decide +kernel
theorem dc_95_34 : decode (sm_cc 95) 34 = .ok (.ifCond .lt (35), 3) := by decide +kernel
theorem dc_95_37 : decode (sm_cc 95) 37 = .ok (.iload_n 3, 1) := by decide +kernel
theorem dc_95_38 : decode (sm_cc 95) 38 = .ok (.sipush (1600), 3) := by decide +kernel
theorem dc_95_41 : decode (sm_cc 95) 41 = .ok (.if_icmp .ge (28), 3) := by decide +kernel
theorem dc_95_44 : decode (sm_cc 95) 44 = .ok (.aload_n 0, 1) := by decide +kernel
theorem dc_95_45 : decode (sm_cc 95) 45 = .ok (.getfield 23, 3) := by decide +kernel
theorem fr_95_23 : sm_at mt_f (sm_ow 95) 23 = some (23, 8, 4, 0, 654) := by decide +kernel
theorem dc_95_48 : decode (sm_cc 95) 48 = .ok (.iload_n 3, 1) := by decide +kernel
theorem dc_95_49 : decode (sm_cc 95) 49 = .ok (.iaload, 1) := by decide +kernel
theorem dc_95_50 : decode (sm_cc 95) 50 = .ok (.iload_n 2, 1) := by decide +kernel
theorem dc_95_51 : decode (sm_cc 95) 51 = .ok (.if_icmp .ne (5), 3) := by decide +kernel
theorem dc_95_56 : decode (sm_cc 95) 56 = .ok (.aload_n 0, 1) := by decide +kernel
theorem dc_95_57 : decode (sm_cc 95) 57 = .ok (.getfield 35, 3) := by decide +kernel
theorem fr_95_35 : sm_at mt_f (sm_ow 95) 35 = some (35, 8, 8, 0, 658) := by decide +kernel
theorem dc_95_60 : decode (sm_cc 95) 60 = .ok (.iload_n 3, 1) := by decide +kernel
theorem dc_95_61 : decode (sm_cc 95) 61 = .ok (.iaload, 1) := by decide +kernel
theorem dc_95_62 : decode (sm_cc 95) 62 = .ok (.istore_n 3, 1) := by decide +kernel
theorem dc_95_63 : decode (sm_cc 95) 63 = .ok (.iinc 4 (1), 3) := by decide +kernel
theorem dc_95_66 : decode (sm_cc 95) 66 = .ok (.goto (-41), 3) := by decide +kernel
theorem dc_95_54 : decode (sm_cc 95) 54 = .ok (.iload_n 3, 1) := by decide +kernel
theorem dc_95_55 : decode (sm_cc 95) 55 = .ok (.ireturn, 1) := by decide +kernel
theorem dc_52_0 : decode (sm_cc 52) 0 = .ok (.aload_n 0, 1) := by decide +kernel
theorem dc_52_1 : decode (sm_cc 52) 1 = .ok (.getfield 9, 3) := by decide +kernel
theorem fr_52_9 : sm_at mt_f (sm_ow 52) 9 = some (9, 10, 0, 0, 726) := by decide +kernel
theorem dc_52_4 : decode (sm_cc 52) 4 = .ok (.getfield 79, 3) := by decide +kernel
theorem fr_52_79 : sm_at mt_f (sm_ow 52) 79 = some (79, 3, 5, 1, 598) := by decide +kernel
theorem dc_52_7 : decode (sm_cc 52) 7 = .ok (.ifCond .eq (29), 3) := by decide +kernel
theorem dc_52_36 : decode (sm_cc 52) 36 = .ok (.iconst 0, 1) := by decide +kernel
theorem dc_52_37 : decode (sm_cc 52) 37 = .ok (.ireturn, 1) := by decide +kernel
theorem rt_52 : sm_rt 52 = some .boolean := by decide +kernel
theorem dc_52_10 : decode (sm_cc 52) 10 = .ok (.aload_n 0, 1) := by decide +kernel
theorem dc_52_11 : decode (sm_cc 52) 11 = .ok (.getfield 9, 3) := by decide +kernel
theorem dc_52_14 : decode (sm_cc 52) 14 = .ok (.getfield 79, 3) := by decide +kernel
theorem dc_52_17 : decode (sm_cc 52) 17 = .ok (.iconst 1, 1) := by decide +kernel
theorem dc_52_18 : decode (sm_cc 52) 18 = .ok (.if_icmp .eq (18), 3) := by decide +kernel
theorem dc_52_21 : decode (sm_cc 52) 21 = .ok (.aload_n 0, 1) := by decide +kernel
theorem dc_52_22 : decode (sm_cc 52) 22 = .ok (.getfield 9, 3) := by decide +kernel
theorem dc_52_25 : decode (sm_cc 52) 25 = .ok (.getfield 96, 3) := by decide +kernel
theorem fr_52_96 : sm_at mt_f (sm_ow 52) 96 = some (96, 3, 8, 1, 602) := by decide +kernel
theorem dc_52_28 : decode (sm_cc 52) 28 = .ok (.iload_n 1, 1) := by decide +kernel
theorem dc_52_29 : decode (sm_cc 52) 29 = .ok (.if_icmp .ne (7), 3) := by decide +kernel
theorem dc_52_32 : decode (sm_cc 52) 32 = .ok (.iconst 1, 1) := by decide +kernel
theorem dc_52_33 : decode (sm_cc 52) 33 = .ok (.goto (4), 3) := by decide +kernel
theorem dc_85_0 : decode (sm_cc 85) 0 = .ok (.aload_n 0, 1) := by decide +kernel
theorem dc_85_1 : decode (sm_cc 85) 1 = .ok (.getfield 9, 3) := by decide +kernel
theorem fr_85_9 : sm_at mt_f (sm_ow 85) 9 = some (9, 10, 0, 0, 726) := by decide +kernel
theorem dc_85_4 : decode (sm_cc 85) 4 = .ok (.bipush (13), 2) := by decide +kernel
theorem dc_85_6 : decode (sm_cc 85) 6 = .ok (.invokevirtual 107, 3) := by decide +kernel
theorem kr_85_107 : sm_at mt_k (sm_ow 85) 107 = some (107, 1, 75, 1, 1167) := by decide +kernel
theorem dc_85_9 : decode (sm_cc 85) 9 = .ok (.aload_n 0, 1) := by decide +kernel
theorem dc_85_10 : decode (sm_cc 85) 10 = .ok (.getfield 9, 3) := by decide +kernel
theorem dc_85_13 : decode (sm_cc 85) 13 = .ok (.invokevirtual 110, 3) := by decide +kernel
theorem ow_86 : 3 = sm_ow 86 := by decide +kernel
theorem kr_85_110 : sm_at mt_k (sm_ow 85) 110 = some (110, 1, 86, 1, 1168) := by decide +kernel
theorem np_86 : sm_np 86 = 0 := by decide +kernel
theorem dc_85_16 : decode (sm_cc 85) 16 = .ok (.aload_n 0, 1) := by decide +kernel
theorem dc_85_17 : decode (sm_cc 85) 17 = .ok (.getfield 9, 3) := by decide +kernel
theorem dc_85_20 : decode (sm_cc 85) 20 = .ok (.getfield 96, 3) := by decide +kernel
theorem fr_85_96 : sm_at mt_f (sm_ow 85) 96 = some (96, 3, 8, 1, 602) := by decide +kernel
theorem dc_85_23 : decode (sm_cc 85) 23 = .ok (.iload_n 1, 1) := by decide +kernel
theorem dc_85_24 : decode (sm_cc 85) 24 = .ok (.if_icmp .le (9), 3) := by decide +kernel
theorem dc_85_33 : decode (sm_cc 85) 33 = .ok (.aload_n 0, 1) := by decide +kernel
theorem dc_85_34 : decode (sm_cc 85) 34 = .ok (.getfield 9, 3) := by decide +kernel
theorem dc_85_37 : decode (sm_cc 85) 37 = .ok (.invokevirtual 76, 3) := by decide +kernel
theorem kr_85_76 : sm_at mt_k (sm_ow 85) 76 = some (76, 1, 44, 1, 1172) := by decide +kernel
theorem dc_85_40 : decode (sm_cc 85) 40 = .ok (.aload_n 0, 1) := by decide +kernel
theorem dc_85_41 : decode (sm_cc 85) 41 = .ok (.getfield 9, 3) := by decide +kernel
theorem dc_85_44 : decode (sm_cc 85) 44 = .ok (.getfield 79, 3) := by decide +kernel
theorem fr_85_79 : sm_at mt_f (sm_ow 85) 79 = some (79, 3, 5, 1, 598) := by decide +kernel
theorem dc_85_47 : decode (sm_cc 85) 47 = .ok (.ifCond .eq (7), 3) := by decide +kernel
theorem dc_85_54 : decode (sm_cc 85) 54 = .ok (.iconst 0, 1) := by decide +kernel
theorem dc_85_55 : decode (sm_cc 85) 55 = .ok (.ireturn, 1) := by decide +kernel
theorem rt_85 : sm_rt 85 = some .boolean := by decide +kernel
theorem dc_85_50 : decode (sm_cc 85) 50 = .ok (.iconst 1, 1) := by decide +kernel
theorem dc_85_51 : decode (sm_cc 85) 51 = .ok (.goto (4), 3) := by decide +kernel
theorem dc_85_27 : decode (sm_cc 85) 27 = .ok (.iload_n 2, 1) := by decide +kernel
theorem dc_85_28 : decode (sm_cc 85) 28 = .ok (.bipush (10), 2) := by decide +kernel
theorem dc_85_30 : decode (sm_cc 85) 30 = .ok (.if_icmp .le (10), 3) := by decide +kernel
theorem dc_84_0 : decode (sm_cc 84) 0 = .ok (.aload_n 0, 1) := by decide +kernel
theorem dc_84_1 : decode (sm_cc 84) 1 = .ok (.iload_n 1, 1) := by decide +kernel
theorem dc_84_2 : decode (sm_cc 84) 2 = .ok (.iload_n 2, 1) := by decide +kernel
theorem dc_84_3 : decode (sm_cc 84) 3 = .ok (.invokevirtual 99, 3) := by decide +kernel
theorem ow_85 : 10 = sm_ow 85 := by decide +kernel
theorem cl_10 : 10 < mt_cl.length := by decide +kernel
theorem kr_84_99 : sm_at mt_k (sm_ow 84) 99 = some (99, 0, 85, 0, 1163) := by decide +kernel
theorem np_85 : sm_np 85 = 2 := by decide +kernel
theorem dc_84_6 : decode (sm_cc 84) 6 = .ok (.ifCond .eq (15), 3) := by decide +kernel
theorem dc_84_9 : decode (sm_cc 84) 9 = .ok (.aload_n 0, 1) := by decide +kernel
theorem dc_84_10 : decode (sm_cc 84) 10 = .ok (.aload_n 0, 1) := by decide +kernel
theorem dc_84_11 : decode (sm_cc 84) 11 = .ok (.getfield 9, 3) := by decide +kernel
theorem fr_84_9 : sm_at mt_f (sm_ow 84) 9 = some (9, 10, 0, 0, 726) := by decide +kernel
theorem dc_84_14 : decode (sm_cc 84) 14 = .ok (.getfield 96, 3) := by decide +kernel
theorem fr_84_96 : sm_at mt_f (sm_ow 84) 96 = some (96, 3, 8, 1, 602) := by decide +kernel
theorem dc_84_17 : decode (sm_cc 84) 17 = .ok (.iload_n 2, 1) := by decide +kernel
theorem dc_84_18 : decode (sm_cc 84) 18 = .ok (.invokevirtual 103, 3) := by decide +kernel
theorem ow_51 : 10 = sm_ow 51 := by decide +kernel
theorem kr_84_103 : sm_at mt_k (sm_ow 84) 103 = some (103, 0, 51, 0, 1173) := by decide +kernel
theorem np_51 : sm_np 51 = 2 := by decide +kernel
theorem dc_84_21 : decode (sm_cc 84) 21 = .ok (.return_, 1) := by decide +kernel
theorem rt_84 : sm_rt 84 = none := by decide +kernel
theorem dc_51_0 : decode (sm_cc 51) 0 = .ok (.iconst 0, 1) := by decide +kernel
theorem dc_51_1 : decode (sm_cc 51) 1 = .ok (.istore_n 3, 1) := by decide +kernel
theorem dc_51_2 : decode (sm_cc 51) 2 = .ok (.iload_n 3, 1) := by decide +kernel
theorem dc_51_3 : decode (sm_cc 51) 3 = .ok (.sipush (3000), 3) := by decide +kernel
theorem dc_51_6 : decode (sm_cc 51) 6 = .ok (.if_icmp .gt (22), 3) := by decide +kernel
theorem dc_51_28 : decode (sm_cc 51) 28 = .ok (.aload_n 0, 1) := by decide +kernel
theorem dc_51_29 : decode (sm_cc 51) 29 = .ok (.getfield 9, 3) := by decide +kernel
theorem fr_51_9 : sm_at mt_f (sm_ow 51) 9 = some (9, 10, 0, 0, 726) := by decide +kernel
theorem dc_51_32 : decode (sm_cc 51) 32 = .ok (.getfield 96, 3) := by decide +kernel
theorem fr_51_96 : sm_at mt_f (sm_ow 51) 96 = some (96, 3, 8, 1, 602) := by decide +kernel
theorem dc_51_35 : decode (sm_cc 51) 35 = .ok (.iload_n 1, 1) := by decide +kernel
theorem dc_51_36 : decode (sm_cc 51) 36 = .ok (.if_icmp .le (10), 3) := by decide +kernel
theorem dc_51_46 : decode (sm_cc 51) 46 = .ok (.return_, 1) := by decide +kernel
theorem rt_51 : sm_rt 51 = none := by decide +kernel
theorem dc_51_39 : decode (sm_cc 51) 39 = .ok (.aload_n 0, 1) := by decide +kernel
theorem dc_51_40 : decode (sm_cc 51) 40 = .ok (.getfield 9, 3) := by decide +kernel
theorem dc_51_43 : decode (sm_cc 51) 43 = .ok (.invokevirtual 76, 3) := by decide +kernel
theorem kr_51_76 : sm_at mt_k (sm_ow 51) 76 = some (76, 1, 44, 1, 1172) := by decide +kernel
theorem dc_51_9 : decode (sm_cc 51) 9 = .ok (.aload_n 0, 1) := by decide +kernel
theorem dc_51_10 : decode (sm_cc 51) 10 = .ok (.iload_n 1, 1) := by decide +kernel
theorem dc_51_11 : decode (sm_cc 51) 11 = .ok (.invokevirtual 89, 3) := by decide +kernel
theorem ow_52 : 10 = sm_ow 52 := by decide +kernel
theorem kr_51_89 : sm_at mt_k (sm_ow 51) 89 = some (89, 0, 52, 0, 1026) := by decide +kernel
theorem np_52 : sm_np 52 = 1 := by decide +kernel
theorem dc_51_14 : decode (sm_cc 51) 14 = .ok (.ifCond .eq (14), 3) := by decide +kernel
theorem dc_51_17 : decode (sm_cc 51) 17 = .ok (.aload_n 0, 1) := by decide +kernel
theorem dc_51_18 : decode (sm_cc 51) 18 = .ok (.iload_n 2, 1) := by decide +kernel
theorem dc_51_19 : decode (sm_cc 51) 19 = .ok (.invokevirtual 93, 3) := by decide +kernel
theorem ow_53 : 10 = sm_ow 53 := by decide +kernel
theorem kr_51_93 : sm_at mt_k (sm_ow 51) 93 = some (93, 0, 53, 0, 1030) := by decide +kernel
theorem np_53 : sm_np 53 = 1 := by decide +kernel
theorem dc_51_22 : decode (sm_cc 51) 22 = .ok (.iinc 3 (1), 3) := by decide +kernel
theorem dc_51_25 : decode (sm_cc 51) 25 = .ok (.goto (-23), 3) := by decide +kernel
theorem dc_53_0 : decode (sm_cc 53) 0 = .ok (.aload_n 0, 1) := by decide +kernel
theorem dc_53_1 : decode (sm_cc 53) 1 = .ok (.getfield 15, 3) := by decide +kernel
theorem fr_53_15 : sm_at mt_f (sm_ow 53) 15 = some (15, 10, 1, 0, 727) := by decide +kernel
theorem dc_53_4 : decode (sm_cc 53) 4 = .ok (.iconst 1, 1) := by decide +kernel
theorem dc_53_5 : decode (sm_cc 53) 5 = .ok (.aload_n 0, 1) := by decide +kernel
theorem dc_53_6 : decode (sm_cc 53) 6 = .ok (.getfield 9, 3) := by decide +kernel
theorem fr_53_9 : sm_at mt_f (sm_ow 53) 9 = some (9, 10, 0, 0, 726) := by decide +kernel
theorem dc_53_9 : decode (sm_cc 53) 9 = .ok (.getfield 113, 3) := by decide +kernel
theorem fr_53_113 : sm_at mt_f (sm_ow 53) 113 = some (113, 3, 6, 1, 600) := by decide +kernel
theorem dc_53_12 : decode (sm_cc 53) 12 = .ok (.invokevirtual 116, 3) := by decide +kernel
theorem kr_53_116 : sm_at mt_k (sm_ow 53) 116 = some (116, 1, 54, 1, 1034) := by decide +kernel
theorem dc_53_15 : decode (sm_cc 53) 15 = .ok (.pop, 1) := by decide +kernel
theorem dc_53_16 : decode (sm_cc 53) 16 = .ok (.aload_n 0, 1) := by decide +kernel
theorem dc_53_17 : decode (sm_cc 53) 17 = .ok (.getfield 9, 3) := by decide +kernel
theorem dc_53_20 : decode (sm_cc 53) 20 = .ok (.getfield 79, 3) := by decide +kernel
theorem fr_53_79 : sm_at mt_f (sm_ow 53) 79 = some (79, 3, 5, 1, 598) := by decide +kernel
theorem dc_53_23 : decode (sm_cc 53) 23 = .ok (.tableswitch (177) 40 56 #[81, 177, 177, 87, 93, 177, 99, 109, 128, 154, 162, 142, 121, 170, 115, 177, 135], 81) := by decide +kernel
theorem dc_53_104 : decode (sm_cc 53) 104 = .ok (.aload_n 0, 1) := by decide +kernel
theorem dc_53_105 : decode (sm_cc 53) 105 = .ok (.iload_n 1, 1) := by decide +kernel
theorem dc_53_106 : decode (sm_cc 53) 106 = .ok (.invokevirtual 119, 3) := by decide +kernel
theorem ow_56 : 10 = sm_ow 56 := by decide +kernel
theorem kr_53_119 : sm_at mt_k (sm_ow 53) 119 = some (119, 0, 56, 0, 1042) := by decide +kernel
theorem np_56 : sm_np 56 = 1 := by decide +kernel
theorem dc_53_109 : decode (sm_cc 53) 109 = .ok (.return_, 1) := by decide +kernel
theorem rt_53 : sm_rt 53 = none := by decide +kernel
theorem dc_53_110 : decode (sm_cc 53) 110 = .ok (.aload_n 0, 1) := by decide +kernel
theorem dc_53_111 : decode (sm_cc 53) 111 = .ok (.iload_n 1, 1) := by decide +kernel
theorem dc_53_112 : decode (sm_cc 53) 112 = .ok (.invokevirtual 122, 3) := by decide +kernel
theorem ow_89 : 10 = sm_ow 89 := by decide +kernel
theorem kr_53_122 : sm_at mt_k (sm_ow 53) 122 = some (122, 0, 89, 0, 1183) := by decide +kernel
theorem np_89 : sm_np 89 = 1 := by decide +kernel
theorem dc_53_115 : decode (sm_cc 53) 115 = .ok (.return_, 1) := by decide +kernel
theorem dc_53_116 : decode (sm_cc 53) 116 = .ok (.aload_n 0, 1) := by decide +kernel
theorem dc_53_117 : decode (sm_cc 53) 117 = .ok (.iload_n 1, 1) := by decide +kernel
theorem dc_53_118 : decode (sm_cc 53) 118 = .ok (.invokevirtual 125, 3) := by decide +kernel
theorem ow_91 : 10 = sm_ow 91 := by decide +kernel
theorem kr_53_125 : sm_at mt_k (sm_ow 53) 125 = some (125, 0, 91, 0, 1191) := by decide +kernel
theorem np_91 : sm_np 91 = 1 := by decide +kernel
theorem dc_53_121 : decode (sm_cc 53) 121 = .ok (.return_, 1) := by decide +kernel
theorem dc_53_122 : decode (sm_cc 53) 122 = .ok (.aload_n 0, 1) := by decide +kernel
theorem dc_53_123 : decode (sm_cc 53) 123 = .ok (.aload_n 0, 1) := by decide +kernel
theorem dc_53_124 : decode (sm_cc 53) 124 = .ok (.iload_n 1, 1) := by decide +kernel
theorem dc_53_125 : decode (sm_cc 53) 125 = .ok (.invokevirtual 128, 3) := by decide +kernel
theorem ow_97 : 10 = sm_ow 97 := by decide +kernel
theorem kr_53_128 : sm_at mt_k (sm_ow 53) 128 = some (128, 0, 97, 0, 1217) := by decide +kernel
theorem np_97 : sm_np 97 = 1 := by decide +kernel
theorem dc_53_128 : decode (sm_cc 53) 128 = .ok (.invokevirtual 131, 3) := by decide +kernel
theorem ow_93 : 10 = sm_ow 93 := by decide +kernel
theorem kr_53_131 : sm_at mt_k (sm_ow 53) 131 = some (131, 0, 93, 0, 1200) := by decide +kernel
theorem np_93 : sm_np 93 = 1 := by decide +kernel
theorem dc_53_131 : decode (sm_cc 53) 131 = .ok (.return_, 1) := by decide +kernel
theorem dc_53_132 : decode (sm_cc 53) 132 = .ok (.aload_n 0, 1) := by decide +kernel
theorem dc_53_133 : decode (sm_cc 53) 133 = .ok (.iload_n 1, 1) := by decide +kernel
theorem dc_53_134 : decode (sm_cc 53) 134 = .ok (.invokevirtual 134, 3) := by decide +kernel
theorem ow_105 : 10 = sm_ow 105 := by decide +kernel
theorem kr_53_134 : sm_at mt_k (sm_ow 53) 134 = some (134, 0, 105, 0, 1251) := by decide +kernel
theorem np_105 : sm_np 105 = 1 := by decide +kernel
theorem dc_53_137 : decode (sm_cc 53) 137 = .ok (.return_, 1) := by decide +kernel
theorem dc_53_138 : decode (sm_cc 53) 138 = .ok (.aload_n 0, 1) := by decide +kernel
theorem dc_53_139 : decode (sm_cc 53) 139 = .ok (.iload_n 1, 1) := by decide +kernel
theorem dc_53_140 : decode (sm_cc 53) 140 = .ok (.invokevirtual 137, 3) := by decide +kernel
theorem ow_108 : 10 = sm_ow 108 := by decide +kernel
theorem kr_53_137 : sm_at mt_k (sm_ow 53) 137 = some (137, 0, 108, 0, 1264) := by decide +kernel
theorem np_108 : sm_np 108 = 1 := by decide +kernel
theorem dc_53_143 : decode (sm_cc 53) 143 = .ok (.return_, 1) := by decide +kernel
theorem dc_53_144 : decode (sm_cc 53) 144 = .ok (.aload_n 0, 1) := by decide +kernel
theorem dc_53_145 : decode (sm_cc 53) 145 = .ok (.invokevirtual 140, 3) := by decide +kernel
theorem ow_109 : 10 = sm_ow 109 := by decide +kernel
theorem kr_53_140 : sm_at mt_k (sm_ow 53) 140 = some (140, 0, 109, 0, 1268) := by decide +kernel
theorem np_109 : sm_np 109 = 0 := by decide +kernel
theorem dc_53_148 : decode (sm_cc 53) 148 = .ok (.goto (56), 3) := by decide +kernel
theorem dc_53_204 : decode (sm_cc 53) 204 = .ok (.aload_n 0, 1) := by decide +kernel
theorem dc_53_205 : decode (sm_cc 53) 205 = .ok (.getfield 9, 3) := by decide +kernel
theorem dc_53_208 : decode (sm_cc 53) 208 = .ok (.invokevirtual 110, 3) := by decide +kernel
theorem kr_53_110 : sm_at mt_k (sm_ow 53) 110 = some (110, 1, 86, 1, 1168) := by decide +kernel
theorem dc_53_211 : decode (sm_cc 53) 211 = .ok (.return_, 1) := by decide +kernel
theorem dc_53_151 : decode (sm_cc 53) 151 = .ok (.aload_n 0, 1) := by decide +kernel
theorem dc_53_152 : decode (sm_cc 53) 152 = .ok (.invokevirtual 143, 3) := by decide +kernel
theorem ow_112 : 10 = sm_ow 112 := by decide +kernel
theorem kr_53_143 : sm_at mt_k (sm_ow 53) 143 = some (143, 0, 112, 0, 1280) := by decide +kernel
theorem np_112 : sm_np 112 = 0 := by decide +kernel
theorem dc_53_155 : decode (sm_cc 53) 155 = .ok (.goto (49), 3) := by decide +kernel
theorem dc_53_158 : decode (sm_cc 53) 158 = .ok (.aload_n 0, 1) := by decide +kernel
theorem dc_53_159 : decode (sm_cc 53) 159 = .ok (.invokevirtual 146, 3) := by decide +kernel
theorem ow_113 : 10 = sm_ow 113 := by decide +kernel
theorem kr_53_146 : sm_at mt_k (sm_ow 53) 146 = some (146, 0, 113, 0, 1285) := by decide +kernel
theorem np_113 : sm_np 113 = 0 := by decide +kernel
theorem dc_53_162 : decode (sm_cc 53) 162 = .ok (.goto (42), 3) := by decide +kernel
theorem dc_53_165 : decode (sm_cc 53) 165 = .ok (.aload_n 0, 1) := by decide +kernel
theorem dc_53_166 : decode (sm_cc 53) 166 = .ok (.getfield 9, 3) := by decide +kernel
theorem dc_53_169 : decode (sm_cc 53) 169 = .ok (.bipush (51), 2) := by decide +kernel
theorem dc_53_171 : decode (sm_cc 53) 171 = .ok (.invokevirtual 107, 3) := by decide +kernel
theorem kr_53_107 : sm_at mt_k (sm_ow 53) 107 = some (107, 1, 75, 1, 1167) := by decide +kernel
theorem dc_53_174 : decode (sm_cc 53) 174 = .ok (.goto (30), 3) := by decide +kernel
theorem dc_53_177 : decode (sm_cc 53) 177 = .ok (.aload_n 0, 1) := by decide +kernel
theorem dc_53_178 : decode (sm_cc 53) 178 = .ok (.iconst 1, 1) := by decide +kernel
theorem dc_53_179 : decode (sm_cc 53) 179 = .ok (.invokevirtual 149, 3) := by decide +kernel
theorem ow_114 : 10 = sm_ow 114 := by decide +kernel
theorem kr_53_149 : sm_at mt_k (sm_ow 53) 149 = some (149, 0, 114, 0, 1289) := by decide +kernel
theorem np_114 : sm_np 114 = 1 := by decide +kernel
theorem dc_53_182 : decode (sm_cc 53) 182 = .ok (.goto (22), 3) := by decide +kernel
theorem dc_53_185 : decode (sm_cc 53) 185 = .ok (.aload_n 0, 1) := by decide +kernel
theorem dc_53_186 : decode (sm_cc 53) 186 = .ok (.iconst 0, 1) := by decide +kernel
theorem dc_53_187 : decode (sm_cc 53) 187 = .ok (.invokevirtual 149, 3) := by decide +kernel
theorem dc_53_190 : decode (sm_cc 53) 190 = .ok (.goto (14), 3) := by decide +kernel
theorem dc_53_193 : decode (sm_cc 53) 193 = .ok (.aload_n 0, 1) := by decide +kernel
theorem dc_53_194 : decode (sm_cc 53) 194 = .ok (.invokevirtual 153, 3) := by decide +kernel
theorem ow_115 : 10 = sm_ow 115 := by decide +kernel
theorem kr_53_153 : sm_at mt_k (sm_ow 53) 153 = some (153, 0, 115, 0, 1293) := by decide +kernel
theorem np_115 : sm_np 115 = 0 := by decide +kernel
theorem dc_53_197 : decode (sm_cc 53) 197 = .ok (.goto (7), 3) := by decide +kernel
theorem dc_53_200 : decode (sm_cc 53) 200 = .ok (.aload_n 0, 1) := by decide +kernel
theorem dc_53_201 : decode (sm_cc 53) 201 = .ok (.invokevirtual 156, 3) := by decide +kernel
theorem ow_117 : 10 = sm_ow 117 := by decide +kernel
theorem kr_53_156 : sm_at mt_k (sm_ow 53) 156 = some (156, 0, 117, 0, 1301) := by decide +kernel
theorem np_117 : sm_np 117 = 0 := by decide +kernel
theorem dc_92_0 : decode (sm_cc 92) 0 = .ok (.aload_n 0, 1) := by decide +kernel
theorem dc_92_1 : decode (sm_cc 92) 1 = .ok (.getfield 9, 3) := by decide +kernel
theorem fr_92_9 : sm_at mt_f (sm_ow 92) 9 = some (9, 10, 0, 0, 726) := by decide +kernel
theorem dc_92_4 : decode (sm_cc 92) 4 = .ok (.getfield 159, 3) := by decide +kernel
theorem fr_92_159 : sm_at mt_f (sm_ow 92) 159 = some (159, 3, 9, 1, 604) := by decide +kernel
theorem dc_92_7 : decode (sm_cc 92) 7 = .ok (.istore_n 1, 1) := by decide +kernel
theorem dc_92_8 : decode (sm_cc 92) 8 = .ok (.aload_n 0, 1) := by decide +kernel
theorem dc_92_9 : decode (sm_cc 92) 9 = .ok (.getfield 9, 3) := by decide +kernel
theorem dc_92_12 : decode (sm_cc 92) 12 = .ok (.iconst 3, 1) := by decide +kernel
theorem dc_92_13 : decode (sm_cc 92) 13 = .ok (.invokevirtual 107, 3) := by decide +kernel
theorem kr_92_107 : sm_at mt_k (sm_ow 92) 107 = some (107, 1, 75, 1, 1167) := by decide +kernel
theorem dc_92_16 : decode (sm_cc 92) 16 = .ok (.iload_n 1, 1) := by decide +kernel
theorem dc_92_17 : decode (sm_cc 92) 17 = .ok (.ireturn, 1) := by decide +kernel
theorem rt_92 : sm_rt 92 = some .int := by decide +kernel
theorem dc_93_0 : decode (sm_cc 93) 0 = .ok (.aload_n 0, 1) := by decide +kernel
theorem dc_93_1 : decode (sm_cc 93) 1 = .ok (.getfield 19, 3) := by decide +kernel
theorem fr_93_19 : sm_at mt_f (sm_ow 93) 19 = some (19, 10, 2, 0, 728) := by decide +kernel
theorem dc_93_4 : decode (sm_cc 93) 4 = .ok (.iload_n 1, 1) := by decide +kernel
theorem dc_93_5 : decode (sm_cc 93) 5 = .ok (.invokevirtual 162, 3) := by decide +kernel
theorem ow_94 : 8 = sm_ow 94 := by decide +kernel
theorem kr_93_162 : sm_at mt_k (sm_ow 93) 162 = some (162, 1, 94, 1, 1204) := by decide +kernel
theorem np_94 : sm_np 94 = 1 := by decide +kernel
theorem dc_93_8 : decode (sm_cc 93) 8 = .ok (.aload_n 0, 1) := by decide +kernel
theorem dc_93_9 : decode (sm_cc 93) 9 = .ok (.getfield 19, 3) := by decide +kernel
theorem dc_93_12 : decode (sm_cc 93) 12 = .ok (.bipush (19), 2) := by decide +kernel
theorem dc_93_14 : decode (sm_cc 93) 14 = .ok (.iload_n 1, 1) := by decide +kernel
theorem dc_93_15 : decode (sm_cc 93) 15 = .ok (.invokevirtual 165, 3) := by decide +kernel
theorem kr_93_165 : sm_at mt_k (sm_ow 93) 165 = some (165, 1, 67, 1, 1216) := by decide +kernel
theorem dc_93_18 : decode (sm_cc 93) 18 = .ok (.pop, 1) := by decide +kernel
theorem dc_93_19 : decode (sm_cc 93) 19 = .ok (.return_, 1) := by decide +kernel
theorem rt_93 : sm_rt 93 = none := by decide +kernel
theorem dc_89_0 : decode (sm_cc 89) 0 = .ok (.aload_n 0, 1) := by decide +kernel
theorem dc_89_1 : decode (sm_cc 89) 1 = .ok (.getfield 9, 3) := by decide +kernel
theorem fr_89_9 : sm_at mt_f (sm_ow 89) 9 = some (9, 10, 0, 0, 726) := by decide +kernel
theorem dc_89_4 : decode (sm_cc 89) 4 = .ok (.getfield 96, 3) := by decide +kernel
theorem fr_89_96 : sm_at mt_f (sm_ow 89) 96 = some (96, 3, 8, 1, 602) := by decide +kernel
theorem dc_89_7 : decode (sm_cc 89) 7 = .ok (.istore_n 2, 1) := by decide +kernel
theorem dc_89_8 : decode (sm_cc 89) 8 = .ok (.aload_n 0, 1) := by decide +kernel
theorem dc_89_9 : decode (sm_cc 89) 9 = .ok (.getfield 15, 3) := by decide +kernel
theorem fr_89_15 : sm_at mt_f (sm_ow 89) 15 = some (15, 10, 1, 0, 727) := by decide +kernel
theorem dc_89_12 : decode (sm_cc 89) 12 = .ok (.iconst 4, 1) := by decide +kernel
theorem dc_89_13 : decode (sm_cc 89) 13 = .ok (.iconst 0, 1) := by decide +kernel
theorem dc_89_14 : decode (sm_cc 89) 14 = .ok (.invokevirtual 116, 3) := by decide +kernel
theorem kr_89_116 : sm_at mt_k (sm_ow 89) 116 = some (116, 1, 54, 1, 1034) := by decide +kernel
theorem dc_89_17 : decode (sm_cc 89) 17 = .ok (.istore_n 3, 1) := by decide +kernel
theorem dc_89_18 : decode (sm_cc 89) 18 = .ok (.aload_n 0, 1) := by decide +kernel
theorem dc_89_19 : decode (sm_cc 89) 19 = .ok (.getfield 15, 3) := by decide +kernel
theorem dc_89_22 : decode (sm_cc 89) 22 = .ok (.iconst 2, 1) := by decide +kernel
theorem dc_89_23 : decode (sm_cc 89) 23 = .ok (.aload_n 0, 1) := by decide +kernel
theorem dc_89_24 : decode (sm_cc 89) 24 = .ok (.getfield 9, 3) := by decide +kernel
theorem dc_89_27 : decode (sm_cc 89) 27 = .ok (.getfield 113, 3) := by decide +kernel
theorem fr_89_113 : sm_at mt_f (sm_ow 89) 113 = some (113, 3, 6, 1, 600) := by decide +kernel
theorem dc_89_30 : decode (sm_cc 89) 30 = .ok (.invokevirtual 116, 3) := by decide +kernel
theorem dc_89_33 : decode (sm_cc 89) 33 = .ok (.istore 4, 2) := by decide +kernel
theorem dc_89_35 : decode (sm_cc 89) 35 = .ok (.aload_n 0, 1) := by decide +kernel
theorem dc_89_36 : decode (sm_cc 89) 36 = .ok (.getfield 15, 3) := by decide +kernel
theorem dc_89_39 : decode (sm_cc 89) 39 = .ok (.iload_n 3, 1) := by decide +kernel
theorem dc_89_40 : decode (sm_cc 89) 40 = .ok (.iconst 1, 1) := by decide +kernel
theorem dc_89_41 : decode (sm_cc 89) 41 = .ok (.iadd, 1) := by decide +kernel
theorem dc_89_42 : decode (sm_cc 89) 42 = .ok (.aload_n 0, 1) := by decide +kernel
theorem dc_89_43 : decode (sm_cc 89) 43 = .ok (.getfield 15, 3) := by decide +kernel
theorem dc_89_46 : decode (sm_cc 89) 46 = .ok (.getfield 69, 3) := by decide +kernel
theorem fr_89_69 : sm_at mt_f (sm_ow 89) 69 = some (69, 7, 7, 1, 553) := by decide +kernel
theorem dc_89_49 : decode (sm_cc 89) 49 = .ok (.invokevirtual 201, 3) := by decide +kernel
theorem kr_89_201 : sm_at mt_k (sm_ow 89) 201 = some (201, 1, 83, 1, 1174) := by decide +kernel
theorem dc_89_52 : decode (sm_cc 89) 52 = .ok (.aload_n 0, 1) := by decide +kernel
theorem dc_89_53 : decode (sm_cc 89) 53 = .ok (.getfield 9, 3) := by decide +kernel
theorem dc_89_56 : decode (sm_cc 89) 56 = .ok (.bipush (43), 2) := by decide +kernel
theorem dc_89_58 : decode (sm_cc 89) 58 = .ok (.invokevirtual 107, 3) := by decide +kernel
theorem kr_89_107 : sm_at mt_k (sm_ow 89) 107 = some (107, 1, 75, 1, 1167) := by decide +kernel
theorem dc_89_61 : decode (sm_cc 89) 61 = .ok (.aload_n 0, 1) := by decide +kernel
theorem dc_89_62 : decode (sm_cc 89) 62 = .ok (.getfield 23, 3) := by decide +kernel
theorem fr_89_23 : sm_at mt_f (sm_ow 89) 23 = some (23, 10, 3, 0, 729) := by decide +kernel
theorem dc_89_65 : decode (sm_cc 89) 65 = .ok (.iconst 0, 1) := by decide +kernel
theorem dc_89_66 : decode (sm_cc 89) 66 = .ok (.invokevirtual 169, 3) := by decide +kernel
theorem kr_89_169 : sm_at mt_k (sm_ow 89) 169 = some (169, 1, 57, 1, 1047) := by decide +kernel
theorem dc_89_69 : decode (sm_cc 89) 69 = .ok (.aload_n 0, 1) := by decide +kernel
theorem dc_89_70 : decode (sm_cc 89) 70 = .ok (.getfield 15, 3) := by decide +kernel
theorem dc_89_73 : decode (sm_cc 89) 73 = .ok (.iconst 5, 1) := by decide +kernel
theorem dc_89_74 : decode (sm_cc 89) 74 = .ok (.iconst (-1), 1) := by decide +kernel
theorem dc_89_75 : decode (sm_cc 89) 75 = .ok (.invokevirtual 116, 3) := by decide +kernel
theorem dc_89_78 : decode (sm_cc 89) 78 = .ok (.istore 5, 2) := by decide +kernel
theorem dc_89_80 : decode (sm_cc 89) 80 = .ok (.aload_n 0, 1) := by decide +kernel
theorem dc_89_81 : decode (sm_cc 89) 81 = .ok (.iload_n 2, 1) := by decide +kernel
theorem dc_89_82 : decode (sm_cc 89) 82 = .ok (.iload_n 1, 1) := by decide +kernel
theorem dc_89_83 : decode (sm_cc 89) 83 = .ok (.iload 4, 2) := by decide +kernel
theorem dc_89_85 : decode (sm_cc 89) 85 = .ok (.iload 5, 2) := by decide +kernel
theorem dc_89_87 : decode (sm_cc 89) 87 = .ok (.invokevirtual 232, 3) := by decide +kernel
theorem ow_90 : 10 = sm_ow 90 := by decide +kernel
theorem kr_89_232 : sm_at mt_k (sm_ow 89) 232 = some (232, 0, 90, 0, 1187) := by decide +kernel
theorem np_90 : sm_np 90 = 4 := by decide +kernel
theorem dc_89_90 : decode (sm_cc 89) 90 = .ok (.return_, 1) := by decide +kernel
theorem rt_89 : sm_rt 89 = none := by decide +kernel
theorem dc_91_0 : decode (sm_cc 91) 0 = .ok (.aload_n 0, 1) := by decide +kernel
theorem dc_91_1 : decode (sm_cc 91) 1 = .ok (.getfield 9, 3) := by decide +kernel
theorem fr_91_9 : sm_at mt_f (sm_ow 91) 9 = some (9, 10, 0, 0, 726) := by decide +kernel
theorem dc_91_4 : decode (sm_cc 91) 4 = .ok (.getfield 96, 3) := by decide +kernel
theorem fr_91_96 : sm_at mt_f (sm_ow 91) 96 = some (96, 3, 8, 1, 602) := by decide +kernel
theorem dc_91_7 : decode (sm_cc 91) 7 = .ok (.istore_n 2, 1) := by decide +kernel
theorem dc_91_8 : decode (sm_cc 91) 8 = .ok (.aload_n 0, 1) := by decide +kernel
theorem dc_91_9 : decode (sm_cc 91) 9 = .ok (.getfield 9, 3) := by decide +kernel
theorem dc_91_12 : decode (sm_cc 91) 12 = .ok (.getfield 113, 3) := by decide +kernel
theorem fr_91_113 : sm_at mt_f (sm_ow 91) 113 = some (113, 3, 6, 1, 600) := by decide +kernel
theorem dc_91_15 : decode (sm_cc 91) 15 = .ok (.istore_n 3, 1) := by decide +kernel
theorem dc_91_16 : decode (sm_cc 91) 16 = .ok (.aload_n 0, 1) := by decide +kernel
theorem dc_91_17 : decode (sm_cc 91) 17 = .ok (.getfield 9, 3) := by decide +kernel
theorem dc_91_20 : decode (sm_cc 91) 20 = .ok (.bipush (44), 2) := by decide +kernel
theorem dc_91_22 : decode (sm_cc 91) 22 = .ok (.invokevirtual 107, 3) := by decide +kernel
theorem kr_91_107 : sm_at mt_k (sm_ow 91) 107 = some (107, 1, 75, 1, 1167) := by decide +kernel
theorem dc_91_25 : decode (sm_cc 91) 25 = .ok (.aload_n 0, 1) := by decide +kernel
theorem dc_91_26 : decode (sm_cc 91) 26 = .ok (.invokevirtual 220, 3) := by decide +kernel
theorem ow_92 : 10 = sm_ow 92 := by decide +kernel
theorem kr_91_220 : sm_at mt_k (sm_ow 91) 220 = some (220, 0, 92, 0, 1195) := by decide +kernel
theorem np_92 : sm_np 92 = 0 := by decide +kernel
theorem dc_91_29 : decode (sm_cc 91) 29 = .ok (.istore 4, 2) := by decide +kernel
theorem dc_91_31 : decode (sm_cc 91) 31 = .ok (.aload_n 0, 1) := by decide +kernel
theorem dc_91_32 : decode (sm_cc 91) 32 = .ok (.getfield 9, 3) := by decide +kernel
theorem dc_91_35 : decode (sm_cc 91) 35 = .ok (.bipush (45), 2) := by decide +kernel
theorem dc_91_37 : decode (sm_cc 91) 37 = .ok (.invokevirtual 107, 3) := by decide +kernel
theorem dc_91_40 : decode (sm_cc 91) 40 = .ok (.aload_n 0, 1) := by decide +kernel
theorem dc_91_41 : decode (sm_cc 91) 41 = .ok (.getfield 23, 3) := by decide +kernel
theorem fr_91_23 : sm_at mt_f (sm_ow 91) 23 = some (23, 10, 3, 0, 729) := by decide +kernel
theorem dc_91_44 : decode (sm_cc 91) 44 = .ok (.iconst 0, 1) := by decide +kernel
theorem dc_91_45 : decode (sm_cc 91) 45 = .ok (.invokevirtual 169, 3) := by decide +kernel
theorem kr_91_169 : sm_at mt_k (sm_ow 91) 169 = some (169, 1, 57, 1, 1047) := by decide +kernel
theorem dc_91_48 : decode (sm_cc 91) 48 = .ok (.aload_n 0, 1) := by decide +kernel
theorem dc_91_49 : decode (sm_cc 91) 49 = .ok (.getfield 15, 3) := by decide +kernel
theorem fr_91_15 : sm_at mt_f (sm_ow 91) 15 = some (15, 10, 1, 0, 727) := by decide +kernel
theorem dc_91_52 : decode (sm_cc 91) 52 = .ok (.bipush (9), 2) := by decide +kernel
theorem dc_91_54 : decode (sm_cc 91) 54 = .ok (.invokevirtual 72, 3) := by decide +kernel
theorem kr_91_72 : sm_at mt_k (sm_ow 91) 72 = some (72, 1, 71, 1, 1199) := by decide +kernel
theorem dc_91_57 : decode (sm_cc 91) 57 = .ok (.pop, 1) := by decide +kernel
theorem dc_91_58 : decode (sm_cc 91) 58 = .ok (.aload_n 0, 1) := by decide +kernel
theorem dc_91_59 : decode (sm_cc 91) 59 = .ok (.getfield 15, 3) := by decide +kernel
theorem dc_91_62 : decode (sm_cc 91) 62 = .ok (.iconst 4, 1) := by decide +kernel
theorem dc_91_63 : decode (sm_cc 91) 63 = .ok (.iconst 0, 1) := by decide +kernel
theorem dc_91_64 : decode (sm_cc 91) 64 = .ok (.invokevirtual 116, 3) := by decide +kernel
theorem kr_91_116 : sm_at mt_k (sm_ow 91) 116 = some (116, 1, 54, 1, 1034) := by decide +kernel
theorem dc_91_67 : decode (sm_cc 91) 67 = .ok (.istore 5, 2) := by decide +kernel
theorem dc_91_69 : decode (sm_cc 91) 69 = .ok (.aload_n 0, 1) := by decide +kernel
theorem dc_91_70 : decode (sm_cc 91) 70 = .ok (.getfield 15, 3) := by decide +kernel
theorem dc_91_73 : decode (sm_cc 91) 73 = .ok (.iconst 2, 1) := by decide +kernel
theorem dc_91_74 : decode (sm_cc 91) 74 = .ok (.iload_n 3, 1) := by decide +kernel
theorem dc_91_75 : decode (sm_cc 91) 75 = .ok (.invokevirtual 116, 3) := by decide +kernel
theorem dc_91_78 : decode (sm_cc 91) 78 = .ok (.istore 6, 2) := by decide +kernel
theorem dc_91_80 : decode (sm_cc 91) 80 = .ok (.aload_n 0, 1) := by decide +kernel
theorem dc_91_81 : decode (sm_cc 91) 81 = .ok (.getfield 15, 3) := by decide +kernel
theorem dc_91_84 : decode (sm_cc 91) 84 = .ok (.iload 5, 2) := by decide +kernel
theorem dc_91_86 : decode (sm_cc 91) 86 = .ok (.iconst 1, 1) := by decide +kernel
theorem dc_91_87 : decode (sm_cc 91) 87 = .ok (.iadd, 1) := by decide +kernel
theorem dc_91_88 : decode (sm_cc 91) 88 = .ok (.aload_n 0, 1) := by decide +kernel
theorem dc_91_89 : decode (sm_cc 91) 89 = .ok (.getfield 15, 3) := by decide +kernel
theorem dc_91_92 : decode (sm_cc 91) 92 = .ok (.getfield 69, 3) := by decide +kernel
theorem fr_91_69 : sm_at mt_f (sm_ow 91) 69 = some (69, 7, 7, 1, 553) := by decide +kernel
theorem dc_91_95 : decode (sm_cc 91) 95 = .ok (.invokevirtual 201, 3) := by decide +kernel
theorem kr_91_201 : sm_at mt_k (sm_ow 91) 201 = some (201, 1, 83, 1, 1174) := by decide +kernel
theorem dc_91_98 : decode (sm_cc 91) 98 = .ok (.aload_n 0, 1) := by decide +kernel
theorem dc_91_99 : decode (sm_cc 91) 99 = .ok (.getfield 15, 3) := by decide +kernel
theorem dc_91_102 : decode (sm_cc 91) 102 = .ok (.bipush (10), 2) := by decide +kernel
theorem dc_91_104 : decode (sm_cc 91) 104 = .ok (.iconst (-1), 1) := by decide +kernel
theorem dc_91_105 : decode (sm_cc 91) 105 = .ok (.invokevirtual 116, 3) := by decide +kernel
theorem dc_91_108 : decode (sm_cc 91) 108 = .ok (.istore 7, 2) := by decide +kernel
theorem dc_91_110 : decode (sm_cc 91) 110 = .ok (.aload_n 0, 1) := by decide +kernel
theorem dc_91_111 : decode (sm_cc 91) 111 = .ok (.iload 4, 2) := by decide +kernel
theorem dc_91_113 : decode (sm_cc 91) 113 = .ok (.invokevirtual 131, 3) := by decide +kernel
theorem kr_91_131 : sm_at mt_k (sm_ow 91) 131 = some (131, 0, 93, 0, 1200) := by decide +kernel
theorem dc_91_116 : decode (sm_cc 91) 116 = .ok (.aload_n 0, 1) := by decide +kernel
theorem dc_91_117 : decode (sm_cc 91) 117 = .ok (.iload_n 2, 1) := by decide +kernel
theorem dc_91_118 : decode (sm_cc 91) 118 = .ok (.iload_n 1, 1) := by decide +kernel
theorem dc_91_119 : decode (sm_cc 91) 119 = .ok (.iload 6, 2) := by decide +kernel
theorem dc_91_121 : decode (sm_cc 91) 121 = .ok (.iload 7, 2) := by decide +kernel
theorem dc_91_123 : decode (sm_cc 91) 123 = .ok (.invokevirtual 232, 3) := by decide +kernel
theorem kr_91_232 : sm_at mt_k (sm_ow 91) 232 = some (232, 0, 90, 0, 1187) := by decide +kernel
theorem dc_91_126 : decode (sm_cc 91) 126 = .ok (.aload_n 0, 1) := by decide +kernel
theorem dc_91_127 : decode (sm_cc 91) 127 = .ok (.getfield 15, 3) := by decide +kernel
theorem dc_91_130 : decode (sm_cc 91) 130 = .ok (.bipush (11), 2) := by decide +kernel
theorem dc_91_132 : decode (sm_cc 91) 132 = .ok (.invokevirtual 72, 3) := by decide +kernel
theorem dc_91_135 : decode (sm_cc 91) 135 = .ok (.pop, 1) := by decide +kernel
theorem dc_91_136 : decode (sm_cc 91) 136 = .ok (.return_, 1) := by decide +kernel
theorem rt_91 : sm_rt 91 = none := by decide +kernel
theorem dc_108_0 : decode (sm_cc 108) 0 = .ok (.aload_n 0, 1) := by decide +kernel
theorem dc_108_1 : decode (sm_cc 108) 1 = .ok (.getfield 9, 3) := by decide +kernel
theorem fr_108_9 : sm_at mt_f (sm_ow 108) 9 = some (9, 10, 0, 0, 726) := by decide +kernel
theorem dc_108_4 : decode (sm_cc 108) 4 = .ok (.getfield 96, 3) := by decide +kernel
theorem fr_108_96 : sm_at mt_f (sm_ow 108) 96 = some (96, 3, 8, 1, 602) := by decide +kernel
theorem dc_108_7 : decode (sm_cc 108) 7 = .ok (.istore_n 2, 1) := by decide +kernel
theorem dc_108_8 : decode (sm_cc 108) 8 = .ok (.aload_n 0, 1) := by decide +kernel
theorem dc_108_9 : decode (sm_cc 108) 9 = .ok (.getfield 9, 3) := by decide +kernel
theorem dc_108_12 : decode (sm_cc 108) 12 = .ok (.bipush (54), 2) := by decide +kernel
theorem dc_108_14 : decode (sm_cc 108) 14 = .ok (.invokevirtual 107, 3) := by decide +kernel
theorem kr_108_107 : sm_at mt_k (sm_ow 108) 107 = some (107, 1, 75, 1, 1167) := by decide +kernel
theorem dc_108_17 : decode (sm_cc 108) 17 = .ok (.aload_n 0, 1) := by decide +kernel
theorem dc_108_18 : decode (sm_cc 108) 18 = .ok (.getfield 15, 3) := by decide +kernel
theorem fr_108_15 : sm_at mt_f (sm_ow 108) 15 = some (15, 10, 1, 0, 727) := by decide +kernel
theorem dc_108_21 : decode (sm_cc 108) 21 = .ok (.bipush (12), 2) := by decide +kernel
theorem dc_108_23 : decode (sm_cc 108) 23 = .ok (.iconst 0, 1) := by decide +kernel
theorem dc_108_24 : decode (sm_cc 108) 24 = .ok (.invokevirtual 116, 3) := by decide +kernel
theorem kr_108_116 : sm_at mt_k (sm_ow 108) 116 = some (116, 1, 54, 1, 1034) := by decide +kernel
theorem dc_108_27 : decode (sm_cc 108) 27 = .ok (.istore_n 3, 1) := by decide +kernel
theorem dc_108_28 : decode (sm_cc 108) 28 = .ok (.aload_n 0, 1) := by decide +kernel
theorem dc_108_29 : decode (sm_cc 108) 29 = .ok (.dup, 1) := by decide +kernel
theorem dc_108_30 : decode (sm_cc 108) 30 = .ok (.getfield 46, 3) := by decide +kernel
theorem fr_108_46 : sm_at mt_f (sm_ow 108) 46 = some (46, 10, 8, 0, 734) := by decide +kernel
theorem dc_108_33 : decode (sm_cc 108) 33 = .ok (.iconst 1, 1) := by decide +kernel
theorem dc_108_34 : decode (sm_cc 108) 34 = .ok (.iadd, 1) := by decide +kernel
theorem dc_108_35 : decode (sm_cc 108) 35 = .ok (.putfield 46, 3) := by decide +kernel
theorem dc_108_38 : decode (sm_cc 108) 38 = .ok (.aload_n 0, 1) := by decide +kernel
theorem dc_108_39 : decode (sm_cc 108) 39 = .ok (.iload_n 2, 1) := by decide +kernel
theorem dc_108_40 : decode (sm_cc 108) 40 = .ok (.iload_n 1, 1) := by decide +kernel
theorem dc_108_41 : decode (sm_cc 108) 41 = .ok (.iconst 1, 1) := by decide +kernel
theorem dc_108_42 : decode (sm_cc 108) 42 = .ok (.iadd, 1) := by decide +kernel
theorem dc_108_43 : decode (sm_cc 108) 43 = .ok (.invokevirtual 226, 3) := by decide +kernel
theorem ow_84 : 10 = sm_ow 84 := by decide +kernel
theorem kr_108_226 : sm_at mt_k (sm_ow 108) 226 = some (226, 0, 84, 0, 1159) := by decide +kernel
theorem np_84 : sm_np 84 = 2 := by decide +kernel
theorem dc_108_46 : decode (sm_cc 108) 46 = .ok (.aload_n 0, 1) := by decide +kernel
theorem dc_108_47 : decode (sm_cc 108) 47 = .ok (.dup, 1) := by decide +kernel
theorem dc_108_48 : decode (sm_cc 108) 48 = .ok (.getfield 46, 3) := by decide +kernel
theorem dc_108_51 : decode (sm_cc 108) 51 = .ok (.iconst 1, 1) := by decide +kernel
theorem dc_108_52 : decode (sm_cc 108) 52 = .ok (.isub, 1) := by decide +kernel
theorem dc_108_53 : decode (sm_cc 108) 53 = .ok (.putfield 46, 3) := by decide +kernel
theorem dc_108_56 : decode (sm_cc 108) 56 = .ok (.aload_n 0, 1) := by decide +kernel
theorem dc_108_57 : decode (sm_cc 108) 57 = .ok (.getfield 15, 3) := by decide +kernel
theorem dc_108_60 : decode (sm_cc 108) 60 = .ok (.bipush (13), 2) := by decide +kernel
theorem dc_108_62 : decode (sm_cc 108) 62 = .ok (.iconst 1, 1) := by decide +kernel
theorem dc_108_63 : decode (sm_cc 108) 63 = .ok (.invokevirtual 116, 3) := by decide +kernel
theorem dc_108_66 : decode (sm_cc 108) 66 = .ok (.pop, 1) := by decide +kernel
theorem dc_108_67 : decode (sm_cc 108) 67 = .ok (.aload_n 0, 1) := by decide +kernel
theorem dc_108_68 : decode (sm_cc 108) 68 = .ok (.getfield 15, 3) := by decide +kernel
theorem dc_108_71 : decode (sm_cc 108) 71 = .ok (.iconst 4, 1) := by decide +kernel
theorem dc_108_72 : decode (sm_cc 108) 72 = .ok (.iconst 0, 1) := by decide +kernel
theorem dc_108_73 : decode (sm_cc 108) 73 = .ok (.invokevirtual 116, 3) := by decide +kernel
theorem dc_108_76 : decode (sm_cc 108) 76 = .ok (.istore 4, 2) := by decide +kernel
theorem dc_108_78 : decode (sm_cc 108) 78 = .ok (.aload_n 0, 1) := by decide +kernel
theorem dc_108_79 : decode (sm_cc 108) 79 = .ok (.getfield 15, 3) := by decide +kernel
theorem dc_108_82 : decode (sm_cc 108) 82 = .ok (.iload_n 3, 1) := by decide +kernel
theorem dc_108_83 : decode (sm_cc 108) 83 = .ok (.iconst 1, 1) := by decide +kernel
theorem dc_108_84 : decode (sm_cc 108) 84 = .ok (.iadd, 1) := by decide +kernel
theorem dc_108_85 : decode (sm_cc 108) 85 = .ok (.aload_n 0, 1) := by decide +kernel
theorem dc_108_86 : decode (sm_cc 108) 86 = .ok (.getfield 15, 3) := by decide +kernel
theorem dc_108_89 : decode (sm_cc 108) 89 = .ok (.getfield 69, 3) := by decide +kernel
theorem fr_108_69 : sm_at mt_f (sm_ow 108) 69 = some (69, 7, 7, 1, 553) := by decide +kernel
theorem dc_108_92 : decode (sm_cc 108) 92 = .ok (.invokevirtual 201, 3) := by decide +kernel
theorem kr_108_201 : sm_at mt_k (sm_ow 108) 201 = some (201, 1, 83, 1, 1174) := by decide +kernel
theorem dc_108_95 : decode (sm_cc 108) 95 = .ok (.aload_n 0, 1) := by decide +kernel
theorem dc_108_96 : decode (sm_cc 108) 96 = .ok (.iload_n 2, 1) := by decide +kernel
theorem dc_108_97 : decode (sm_cc 108) 97 = .ok (.invokevirtual 89, 3) := by decide +kernel
theorem kr_108_89 : sm_at mt_k (sm_ow 108) 89 = some (89, 0, 52, 0, 1026) := by decide +kernel
theorem dc_108_100 : decode (sm_cc 108) 100 = .ok (.ifCond .ne (10), 3) := by decide +kernel
theorem dc_108_110 : decode (sm_cc 108) 110 = .ok (.aload_n 0, 1) := by decide +kernel
theorem dc_108_111 : decode (sm_cc 108) 111 = .ok (.getfield 9, 3) := by decide +kernel
theorem dc_108_114 : decode (sm_cc 108) 114 = .ok (.bipush (55), 2) := by decide +kernel
theorem dc_108_116 : decode (sm_cc 108) 116 = .ok (.invokevirtual 107, 3) := by decide +kernel
theorem dc_108_119 : decode (sm_cc 108) 119 = .ok (.aload_n 0, 1) := by decide +kernel
theorem dc_108_120 : decode (sm_cc 108) 120 = .ok (.getfield 9, 3) := by decide +kernel
theorem dc_108_123 : decode (sm_cc 108) 123 = .ok (.getfield 79, 3) := by decide +kernel
theorem fr_108_79 : sm_at mt_f (sm_ow 108) 79 = some (79, 3, 5, 1, 598) := by decide +kernel
theorem dc_108_126 : decode (sm_cc 108) 126 = .ok (.iconst 3, 1) := by decide +kernel
theorem dc_108_127 : decode (sm_cc 108) 127 = .ok (.if_icmp .ne (14), 3) := by decide +kernel
theorem dc_108_141 : decode (sm_cc 108) 141 = .ok (.aload_n 0, 1) := by decide +kernel
theorem dc_108_142 : decode (sm_cc 108) 142 = .ok (.getfield 15, 3) := by decide +kernel
theorem dc_108_145 : decode (sm_cc 108) 145 = .ok (.bipush (17), 2) := by decide +kernel
theorem dc_108_147 : decode (sm_cc 108) 147 = .ok (.invokevirtual 72, 3) := by decide +kernel
theorem kr_108_72 : sm_at mt_k (sm_ow 108) 72 = some (72, 1, 71, 1, 1199) := by decide +kernel
theorem dc_108_150 : decode (sm_cc 108) 150 = .ok (.pop, 1) := by decide +kernel
theorem dc_108_151 : decode (sm_cc 108) 151 = .ok (.aload_n 0, 1) := by decide +kernel
theorem dc_108_152 : decode (sm_cc 108) 152 = .ok (.iload_n 2, 1) := by decide +kernel
theorem dc_108_153 : decode (sm_cc 108) 153 = .ok (.iload_n 1, 1) := by decide +kernel
theorem dc_108_154 : decode (sm_cc 108) 154 = .ok (.iconst 1, 1) := by decide +kernel
theorem dc_108_155 : decode (sm_cc 108) 155 = .ok (.iadd, 1) := by decide +kernel
theorem dc_108_156 : decode (sm_cc 108) 156 = .ok (.invokevirtual 226, 3) := by decide +kernel
theorem dc_108_159 : decode (sm_cc 108) 159 = .ok (.aload_n 0, 1) := by decide +kernel
theorem dc_108_160 : decode (sm_cc 108) 160 = .ok (.getfield 15, 3) := by decide +kernel
theorem dc_108_163 : decode (sm_cc 108) 163 = .ok (.iload 4, 2) := by decide +kernel
theorem dc_108_165 : decode (sm_cc 108) 165 = .ok (.iconst 1, 1) := by decide +kernel
theorem dc_108_166 : decode (sm_cc 108) 166 = .ok (.iadd, 1) := by decide +kernel
theorem dc_108_167 : decode (sm_cc 108) 167 = .ok (.aload_n 0, 1) := by decide +kernel
theorem dc_108_168 : decode (sm_cc 108) 168 = .ok (.getfield 15, 3) := by decide +kernel
theorem dc_108_171 : decode (sm_cc 108) 171 = .ok (.getfield 69, 3) := by decide +kernel
theorem dc_108_174 : decode (sm_cc 108) 174 = .ok (.invokevirtual 201, 3) := by decide +kernel
theorem dc_108_177 : decode (sm_cc 108) 177 = .ok (.return_, 1) := by decide +kernel
theorem rt_108 : sm_rt 108 = none := by decide +kernel
theorem dc_108_130 : decode (sm_cc 108) 130 = .ok (.aload_n 0, 1) := by decide +kernel
theorem dc_108_131 : decode (sm_cc 108) 131 = .ok (.aload_n 0, 1) := by decide +kernel
theorem dc_108_132 : decode (sm_cc 108) 132 = .ok (.invokevirtual 220, 3) := by decide +kernel
theorem kr_108_220 : sm_at mt_k (sm_ow 108) 220 = some (220, 0, 92, 0, 1195) := by decide +kernel
theorem dc_108_135 : decode (sm_cc 108) 135 = .ok (.invokevirtual 131, 3) := by decide +kernel
theorem kr_108_131 : sm_at mt_k (sm_ow 108) 131 = some (131, 0, 93, 0, 1200) := by decide +kernel
theorem dc_108_138 : decode (sm_cc 108) 138 = .ok (.goto (13), 3) := by decide +kernel
theorem dc_108_103 : decode (sm_cc 108) 103 = .ok (.aload_n 0, 1) := by decide +kernel
theorem dc_108_104 : decode (sm_cc 108) 104 = .ok (.getfield 9, 3) := by decide +kernel
theorem dc_108_107 : decode (sm_cc 108) 107 = .ok (.invokevirtual 76, 3) := by decide +kernel
theorem kr_108_76 : sm_at mt_k (sm_ow 108) 76 = some (76, 1, 44, 1, 1172) := by decide +kernel
theorem dc_109_0 : decode (sm_cc 109) 0 = .ok (.aload_n 0, 1) := by decide +kernel
theorem dc_109_1 : decode (sm_cc 109) 1 = .ok (.getfield 9, 3) := by decide +kernel
theorem fr_109_9 : sm_at mt_f (sm_ow 109) 9 = some (9, 10, 0, 0, 726) := by decide +kernel
theorem dc_109_4 : decode (sm_cc 109) 4 = .ok (.bipush (52), 2) := by decide +kernel
theorem dc_109_6 : decode (sm_cc 109) 6 = .ok (.invokevirtual 107, 3) := by decide +kernel
theorem kr_109_107 : sm_at mt_k (sm_ow 109) 107 = some (107, 1, 75, 1, 1167) := by decide +kernel
theorem dc_109_9 : decode (sm_cc 109) 9 = .ok (.aload_n 0, 1) := by decide +kernel
theorem dc_109_10 : decode (sm_cc 109) 10 = .ok (.getfield 23, 3) := by decide +kernel
theorem fr_109_23 : sm_at mt_f (sm_ow 109) 23 = some (23, 10, 3, 0, 729) := by decide +kernel
theorem dc_109_13 : decode (sm_cc 109) 13 = .ok (.iconst 0, 1) := by decide +kernel
theorem dc_109_14 : decode (sm_cc 109) 14 = .ok (.invokevirtual 169, 3) := by decide +kernel
theorem kr_109_169 : sm_at mt_k (sm_ow 109) 169 = some (169, 1, 57, 1, 1047) := by decide +kernel
theorem dc_109_17 : decode (sm_cc 109) 17 = .ok (.aload_n 0, 1) := by decide +kernel
theorem dc_109_18 : decode (sm_cc 109) 18 = .ok (.bipush (20), 2) := by decide +kernel
theorem dc_109_20 : decode (sm_cc 109) 20 = .ok (.bipush (43), 2) := by decide +kernel
theorem dc_109_22 : decode (sm_cc 109) 22 = .ok (.bipush (48), 2) := by decide +kernel
theorem dc_109_24 : decode (sm_cc 109) 24 = .ok (.invokevirtual 182, 3) := by decide +kernel
theorem ow_110 : 10 = sm_ow 110 := by decide +kernel
theorem kr_109_182 : sm_at mt_k (sm_ow 109) 182 = some (182, 0, 110, 0, 1272) := by decide +kernel
theorem np_110 : sm_np 110 = 3 := by decide +kernel
theorem dc_109_27 : decode (sm_cc 109) 27 = .ok (.return_, 1) := by decide +kernel
theorem rt_109 : sm_rt 109 = none := by decide +kernel
theorem dc_112_0 : decode (sm_cc 112) 0 = .ok (.aload_n 0, 1) := by decide +kernel
theorem dc_112_1 : decode (sm_cc 112) 1 = .ok (.getfield 19, 3) := by decide +kernel
theorem fr_112_19 : sm_at mt_f (sm_ow 112) 19 = some (19, 10, 2, 0, 728) := by decide +kernel
theorem dc_112_4 : decode (sm_cc 112) 4 = .ok (.invokevirtual 204, 3) := by decide +kernel
theorem kr_112_204 : sm_at mt_k (sm_ow 112) 204 = some (204, 1, 69, 1, 1284) := by decide +kernel
theorem dc_112_7 : decode (sm_cc 112) 7 = .ok (.ifCond .ne (10), 3) := by decide +kernel
theorem dc_112_17 : decode (sm_cc 112) 17 = .ok (.aload_n 0, 1) := by decide +kernel
theorem dc_112_18 : decode (sm_cc 112) 18 = .ok (.getfield 9, 3) := by decide +kernel
theorem fr_112_9 : sm_at mt_f (sm_ow 112) 9 = some (9, 10, 0, 0, 726) := by decide +kernel
theorem dc_112_21 : decode (sm_cc 112) 21 = .ok (.bipush (48), 2) := by decide +kernel
theorem dc_112_23 : decode (sm_cc 112) 23 = .ok (.invokevirtual 107, 3) := by decide +kernel
theorem kr_112_107 : sm_at mt_k (sm_ow 112) 107 = some (107, 1, 75, 1, 1167) := by decide +kernel
theorem dc_112_26 : decode (sm_cc 112) 26 = .ok (.aload_n 0, 1) := by decide +kernel
theorem dc_112_27 : decode (sm_cc 112) 27 = .ok (.getfield 9, 3) := by decide +kernel
theorem dc_112_30 : decode (sm_cc 112) 30 = .ok (.getfield 79, 3) := by decide +kernel
theorem fr_112_79 : sm_at mt_f (sm_ow 112) 79 = some (79, 3, 5, 1, 598) := by decide +kernel
theorem dc_112_33 : decode (sm_cc 112) 33 = .ok (.iconst 2, 1) := by decide +kernel
theorem dc_112_34 : decode (sm_cc 112) 34 = .ok (.if_icmp .ne (17), 3) := by decide +kernel
theorem dc_112_51 : decode (sm_cc 112) 51 = .ok (.aload_n 0, 1) := by decide +kernel
theorem dc_112_52 : decode (sm_cc 112) 52 = .ok (.getfield 23, 3) := by decide +kernel
theorem fr_112_23 : sm_at mt_f (sm_ow 112) 23 = some (23, 10, 3, 0, 729) := by decide +kernel
theorem dc_112_55 : decode (sm_cc 112) 55 = .ok (.iconst 0, 1) := by decide +kernel
theorem dc_112_56 : decode (sm_cc 112) 56 = .ok (.invokevirtual 169, 3) := by decide +kernel
theorem kr_112_169 : sm_at mt_k (sm_ow 112) 169 = some (169, 1, 57, 1, 1047) := by decide +kernel
theorem dc_112_59 : decode (sm_cc 112) 59 = .ok (.aload_n 0, 1) := by decide +kernel
theorem dc_112_60 : decode (sm_cc 112) 60 = .ok (.getfield 15, 3) := by decide +kernel
theorem fr_112_15 : sm_at mt_f (sm_ow 112) 15 = some (15, 10, 1, 0, 727) := by decide +kernel
theorem dc_112_63 : decode (sm_cc 112) 63 = .ok (.bipush (8), 2) := by decide +kernel
theorem dc_112_65 : decode (sm_cc 112) 65 = .ok (.invokevirtual 72, 3) := by decide +kernel
theorem kr_112_72 : sm_at mt_k (sm_ow 112) 72 = some (72, 1, 71, 1, 1199) := by decide +kernel
theorem dc_112_68 : decode (sm_cc 112) 68 = .ok (.pop, 1) := by decide +kernel
theorem dc_112_69 : decode (sm_cc 112) 69 = .ok (.return_, 1) := by decide +kernel
theorem rt_112 : sm_rt 112 = none := by decide +kernel
theorem dc_112_37 : decode (sm_cc 112) 37 = .ok (.aload_n 0, 1) := by decide +kernel
theorem dc_112_38 : decode (sm_cc 112) 38 = .ok (.getfield 15, 3) := by decide +kernel
theorem dc_112_41 : decode (sm_cc 112) 41 = .ok (.ldc2_w 208, 3) := by decide +kernel
theorem cj_112_208 : sm_at mt_cj (sm_ow 112) 208 = some (208, (1152921504606846976), 1245) := by decide +kernel
theorem dc_112_44 : decode (sm_cc 112) 44 = .ok (.lconst 0, 1) := by decide +kernel
theorem dc_112_45 : decode (sm_cc 112) 45 = .ok (.invokevirtual 210, 3) := by decide +kernel
theorem kr_112_210 : sm_at mt_k (sm_ow 112) 210 = some (210, 1, 73, 1, 1246) := by decide +kernel
theorem dc_112_48 : decode (sm_cc 112) 48 = .ok (.goto (11), 3) := by decide +kernel
theorem dc_112_10 : decode (sm_cc 112) 10 = .ok (.aload_n 0, 1) := by decide +kernel
theorem dc_112_11 : decode (sm_cc 112) 11 = .ok (.getfield 9, 3) := by decide +kernel
theorem dc_112_14 : decode (sm_cc 112) 14 = .ok (.invokevirtual 76, 3) := by decide +kernel
theorem kr_112_76 : sm_at mt_k (sm_ow 112) 76 = some (76, 1, 44, 1, 1172) := by decide +kernel
theorem dc_113_0 : decode (sm_cc 113) 0 = .ok (.aload_n 0, 1) := by decide +kernel
theorem dc_113_1 : decode (sm_cc 113) 1 = .ok (.getfield 9, 3) := by decide +kernel
theorem fr_113_9 : sm_at mt_f (sm_ow 113) 9 = some (9, 10, 0, 0, 726) := by decide +kernel
theorem dc_113_4 : decode (sm_cc 113) 4 = .ok (.bipush (56), 2) := by decide +kernel
theorem dc_113_6 : decode (sm_cc 113) 6 = .ok (.invokevirtual 107, 3) := by decide +kernel
theorem kr_113_107 : sm_at mt_k (sm_ow 113) 107 = some (107, 1, 75, 1, 1167) := by decide +kernel
theorem dc_113_9 : decode (sm_cc 113) 9 = .ok (.aload_n 0, 1) := by decide +kernel
theorem dc_113_10 : decode (sm_cc 113) 10 = .ok (.getfield 23, 3) := by decide +kernel
theorem fr_113_23 : sm_at mt_f (sm_ow 113) 23 = some (23, 10, 3, 0, 729) := by decide +kernel
theorem dc_113_13 : decode (sm_cc 113) 13 = .ok (.iconst 0, 1) := by decide +kernel
theorem dc_113_14 : decode (sm_cc 113) 14 = .ok (.invokevirtual 169, 3) := by decide +kernel
theorem kr_113_169 : sm_at mt_k (sm_ow 113) 169 = some (169, 1, 57, 1, 1047) := by decide +kernel
theorem dc_113_17 : decode (sm_cc 113) 17 = .ok (.aload_n 0, 1) := by decide +kernel
theorem dc_113_18 : decode (sm_cc 113) 18 = .ok (.getfield 15, 3) := by decide +kernel
theorem fr_113_15 : sm_at mt_f (sm_ow 113) 15 = some (15, 10, 1, 0, 727) := by decide +kernel
theorem dc_113_21 : decode (sm_cc 113) 21 = .ok (.bipush (14), 2) := by decide +kernel
theorem dc_113_23 : decode (sm_cc 113) 23 = .ok (.invokevirtual 72, 3) := by decide +kernel
theorem kr_113_72 : sm_at mt_k (sm_ow 113) 72 = some (72, 1, 71, 1, 1199) := by decide +kernel
theorem dc_113_26 : decode (sm_cc 113) 26 = .ok (.pop, 1) := by decide +kernel
theorem dc_113_27 : decode (sm_cc 113) 27 = .ok (.return_, 1) := by decide +kernel
theorem rt_113 : sm_rt 113 = none := by decide +kernel
theorem dc_111_0 : decode (sm_cc 111) 0 = .ok (.aload_n 0, 1) := by decide +kernel
theorem dc_111_1 : decode (sm_cc 111) 1 = .ok (.getfield 15, 3) := by decide +kernel
theorem fr_111_15 : sm_at mt_f (sm_ow 111) 15 = some (15, 10, 1, 0, 727) := by decide +kernel
theorem dc_111_4 : decode (sm_cc 111) 4 = .ok (.aload_n 0, 1) := by decide +kernel
theorem dc_111_5 : decode (sm_cc 111) 5 = .ok (.getfield 23, 3) := by decide +kernel
theorem fr_111_23 : sm_at mt_f (sm_ow 111) 23 = some (23, 10, 3, 0, 729) := by decide +kernel
theorem dc_111_8 : decode (sm_cc 111) 8 = .ok (.getfield 195, 3) := by decide +kernel
theorem fr_111_195 : sm_at mt_f (sm_ow 111) 195 = some (195, 1, 4, 1, 709) := by decide +kernel
theorem dc_111_11 : decode (sm_cc 111) 11 = .ok (.aload_n 0, 1) := by decide +kernel
theorem dc_111_12 : decode (sm_cc 111) 12 = .ok (.getfield 23, 3) := by decide +kernel
theorem dc_111_15 : decode (sm_cc 111) 15 = .ok (.getfield 173, 3) := by decide +kernel
theorem fr_111_173 : sm_at mt_f (sm_ow 111) 173 = some (173, 1, 3, 1, 708) := by decide +kernel
theorem dc_111_18 : decode (sm_cc 111) 18 = .ok (.iconst 1, 1) := by decide +kernel
theorem dc_111_19 : decode (sm_cc 111) 19 = .ok (.if_icmp .ne (7), 3) := by decide +kernel
theorem dc_111_26 : decode (sm_cc 111) 26 = .ok (.iconst 1, 1) := by decide +kernel
theorem dc_111_27 : decode (sm_cc 111) 27 = .ok (.iadd, 1) := by decide +kernel
theorem dc_111_28 : decode (sm_cc 111) 28 = .ok (.invokevirtual 198, 3) := by decide +kernel
theorem kr_111_198 : sm_at mt_k (sm_ow 111) 198 = some (198, 1, 88, 1, 1179) := by decide +kernel
theorem dc_111_31 : decode (sm_cc 111) 31 = .ok (.ireturn, 1) := by decide +kernel
theorem rt_111 : sm_rt 111 = some .int := by decide +kernel
theorem dc_111_22 : decode (sm_cc 111) 22 = .ok (.iconst 2, 1) := by decide +kernel
theorem dc_111_23 : decode (sm_cc 111) 23 = .ok (.goto (4), 3) := by decide +kernel
theorem dc_110_0 : decode (sm_cc 110) 0 = .ok (.aload_n 0, 1) := by decide +kernel
theorem dc_110_1 : decode (sm_cc 110) 1 = .ok (.getfield 23, 3) := by decide +kernel
theorem fr_110_23 : sm_at mt_f (sm_ow 110) 23 = some (23, 10, 3, 0, 729) := by decide +kernel
theorem dc_110_4 : decode (sm_cc 110) 4 = .ok (.getfield 195, 3) := by decide +kernel
theorem fr_110_195 : sm_at mt_f (sm_ow 110) 195 = some (195, 1, 4, 1, 709) := by decide +kernel
theorem dc_110_7 : decode (sm_cc 110) 7 = .ok (.istore 4, 2) := by decide +kernel
theorem dc_110_9 : decode (sm_cc 110) 9 = .ok (.aload_n 0, 1) := by decide +kernel
theorem dc_110_10 : decode (sm_cc 110) 10 = .ok (.getfield 23, 3) := by decide +kernel
theorem dc_110_13 : decode (sm_cc 110) 13 = .ok (.getfield 173, 3) := by decide +kernel
theorem fr_110_173 : sm_at mt_f (sm_ow 110) 173 = some (173, 1, 3, 1, 708) := by decide +kernel
theorem dc_110_16 : decode (sm_cc 110) 16 = .ok (.tableswitch (78) 1 3 #[28, 52, 65], 28) := by decide +kernel
theorem dc_110_94 : decode (sm_cc 110) 94 = .ok (.aload_n 0, 1) := by decide +kernel
theorem dc_110_95 : decode (sm_cc 110) 95 = .ok (.getfield 9, 3) := by decide +kernel
theorem fr_110_9 : sm_at mt_f (sm_ow 110) 9 = some (9, 10, 0, 0, 726) := by decide +kernel
theorem dc_110_98 : decode (sm_cc 110) 98 = .ok (.invokevirtual 76, 3) := by decide +kernel
theorem kr_110_76 : sm_at mt_k (sm_ow 110) 76 = some (76, 1, 44, 1, 1172) := by decide +kernel
theorem dc_110_101 : decode (sm_cc 110) 101 = .ok (.return_, 1) := by decide +kernel
theorem rt_110 : sm_rt 110 = none := by decide +kernel
theorem dc_110_44 : decode (sm_cc 110) 44 = .ok (.aload_n 0, 1) := by decide +kernel
theorem dc_110_45 : decode (sm_cc 110) 45 = .ok (.getfield 15, 3) := by decide +kernel
theorem fr_110_15 : sm_at mt_f (sm_ow 110) 15 = some (15, 10, 1, 0, 727) := by decide +kernel
theorem dc_110_48 : decode (sm_cc 110) 48 = .ok (.iload 4, 2) := by decide +kernel
theorem dc_110_50 : decode (sm_cc 110) 50 = .ok (.iload_n 1, 1) := by decide +kernel
theorem dc_110_51 : decode (sm_cc 110) 51 = .ok (.invokevirtual 201, 3) := by decide +kernel
theorem kr_110_201 : sm_at mt_k (sm_ow 110) 201 = some (201, 1, 83, 1, 1174) := by decide +kernel
theorem dc_110_54 : decode (sm_cc 110) 54 = .ok (.aload_n 0, 1) := by decide +kernel
theorem dc_110_55 : decode (sm_cc 110) 55 = .ok (.getfield 19, 3) := by decide +kernel
theorem fr_110_19 : sm_at mt_f (sm_ow 110) 19 = some (19, 10, 2, 0, 728) := by decide +kernel
theorem dc_110_58 : decode (sm_cc 110) 58 = .ok (.aload_n 0, 1) := by decide +kernel
theorem dc_110_59 : decode (sm_cc 110) 59 = .ok (.invokevirtual 188, 3) := by decide +kernel
theorem ow_111 : 10 = sm_ow 111 := by decide +kernel
theorem kr_110_188 : sm_at mt_k (sm_ow 110) 188 = some (188, 0, 111, 0, 1276) := by decide +kernel
theorem np_111 : sm_np 111 = 0 := by decide +kernel
theorem dc_110_62 : decode (sm_cc 110) 62 = .ok (.invokevirtual 162, 3) := by decide +kernel
theorem kr_110_162 : sm_at mt_k (sm_ow 110) 162 = some (162, 1, 94, 1, 1204) := by decide +kernel
theorem dc_110_65 : decode (sm_cc 110) 65 = .ok (.goto (36), 3) := by decide +kernel
theorem dc_110_68 : decode (sm_cc 110) 68 = .ok (.aload_n 0, 1) := by decide +kernel
theorem dc_110_69 : decode (sm_cc 110) 69 = .ok (.getfield 15, 3) := by decide +kernel
theorem dc_110_72 : decode (sm_cc 110) 72 = .ok (.iload 4, 2) := by decide +kernel
theorem dc_110_74 : decode (sm_cc 110) 74 = .ok (.iload_n 2, 1) := by decide +kernel
theorem dc_110_75 : decode (sm_cc 110) 75 = .ok (.invokevirtual 201, 3) := by decide +kernel
theorem dc_110_78 : decode (sm_cc 110) 78 = .ok (.goto (23), 3) := by decide +kernel
theorem dc_110_81 : decode (sm_cc 110) 81 = .ok (.aload_n 0, 1) := by decide +kernel
theorem dc_110_82 : decode (sm_cc 110) 82 = .ok (.getfield 15, 3) := by decide +kernel
theorem dc_110_85 : decode (sm_cc 110) 85 = .ok (.iload 4, 2) := by decide +kernel
theorem dc_110_87 : decode (sm_cc 110) 87 = .ok (.iload_n 3, 1) := by decide +kernel
theorem dc_110_88 : decode (sm_cc 110) 88 = .ok (.invokevirtual 201, 3) := by decide +kernel
theorem dc_110_91 : decode (sm_cc 110) 91 = .ok (.goto (10), 3) := by decide +kernel
theorem dc_114_0 : decode (sm_cc 114) 0 = .ok (.aload_n 0, 1) := by decide +kernel
theorem dc_114_1 : decode (sm_cc 114) 1 = .ok (.getfield 49, 3) := by decide +kernel
theorem fr_114_49 : sm_at mt_f (sm_ow 114) 49 = some (49, 10, 9, 0, 735) := by decide +kernel
theorem dc_114_4 : decode (sm_cc 114) 4 = .ok (.iconst (-1), 1) := by decide +kernel
theorem dc_114_5 : decode (sm_cc 114) 5 = .ok (.if_icmp .ne (10), 3) := by decide +kernel
theorem dc_114_15 : decode (sm_cc 114) 15 = .ok (.aload_n 0, 1) := by decide +kernel
theorem dc_114_16 : decode (sm_cc 114) 16 = .ok (.getfield 9, 3) := by decide +kernel
theorem fr_114_9 : sm_at mt_f (sm_ow 114) 9 = some (9, 10, 0, 0, 726) := by decide +kernel
theorem dc_114_19 : decode (sm_cc 114) 19 = .ok (.invokevirtual 192, 3) := by decide +kernel
theorem kr_114_192 : sm_at mt_k (sm_ow 114) 192 = some (192, 1, 40, 1, 1046) := by decide +kernel
theorem dc_114_22 : decode (sm_cc 114) 22 = .ok (.aload_n 0, 1) := by decide +kernel
theorem dc_114_23 : decode (sm_cc 114) 23 = .ok (.getfield 46, 3) := by decide +kernel
theorem fr_114_46 : sm_at mt_f (sm_ow 114) 46 = some (46, 10, 8, 0, 734) := by decide +kernel
theorem dc_114_26 : decode (sm_cc 114) 26 = .ok (.aload_n 0, 1) := by decide +kernel
theorem dc_114_27 : decode (sm_cc 114) 27 = .ok (.getfield 214, 3) := by decide +kernel
theorem fr_114_214 : sm_at mt_f (sm_ow 114) 214 = some (214, 10, 11, 0, 737) := by decide +kernel
theorem dc_114_30 : decode (sm_cc 114) 30 = .ok (.if_icmp .le (22), 3) := by decide +kernel
theorem dc_114_52 : decode (sm_cc 114) 52 = .ok (.iload_n 1, 1) := by decide +kernel
theorem dc_114_53 : decode (sm_cc 114) 53 = .ok (.ifCond .eq (22), 3) := by decide +kernel
theorem dc_114_56 : decode (sm_cc 114) 56 = .ok (.aload_n 0, 1) := by decide +kernel
theorem dc_114_57 : decode (sm_cc 114) 57 = .ok (.aload_n 0, 1) := by decide +kernel
theorem dc_114_58 : decode (sm_cc 114) 58 = .ok (.getfield 15, 3) := by decide +kernel
theorem fr_114_15 : sm_at mt_f (sm_ow 114) 15 = some (15, 10, 1, 0, 727) := by decide +kernel
theorem dc_114_61 : decode (sm_cc 114) 61 = .ok (.iconst 4, 1) := by decide +kernel
theorem dc_114_62 : decode (sm_cc 114) 62 = .ok (.aload_n 0, 1) := by decide +kernel
theorem dc_114_63 : decode (sm_cc 114) 63 = .ok (.getfield 217, 3) := by decide +kernel
theorem fr_114_217 : sm_at mt_f (sm_ow 114) 217 = some (217, 10, 10, 0, 736) := by decide +kernel
theorem dc_114_66 : decode (sm_cc 114) 66 = .ok (.invokevirtual 116, 3) := by decide +kernel
theorem kr_114_116 : sm_at mt_k (sm_ow 114) 116 = some (116, 1, 54, 1, 1034) := by decide +kernel
theorem dc_114_69 : decode (sm_cc 114) 69 = .ok (.putfield 217, 3) := by decide +kernel
theorem dc_114_72 : decode (sm_cc 114) 72 = .ok (.goto (16), 3) := by decide +kernel
theorem dc_114_88 : decode (sm_cc 114) 88 = .ok (.return_, 1) := by decide +kernel
theorem rt_114 : sm_rt 114 = none := by decide +kernel
theorem dc_114_33 : decode (sm_cc 114) 33 = .ok (.aload_n 0, 1) := by decide +kernel
theorem dc_114_34 : decode (sm_cc 114) 34 = .ok (.getfield 15, 3) := by decide +kernel
theorem dc_114_37 : decode (sm_cc 114) 37 = .ok (.bipush (13), 2) := by decide +kernel
theorem dc_114_39 : decode (sm_cc 114) 39 = .ok (.aload_n 0, 1) := by decide +kernel
theorem dc_114_40 : decode (sm_cc 114) 40 = .ok (.getfield 46, 3) := by decide +kernel
theorem dc_114_43 : decode (sm_cc 114) 43 = .ok (.aload_n 0, 1) := by decide +kernel
theorem dc_114_44 : decode (sm_cc 114) 44 = .ok (.getfield 214, 3) := by decide +kernel
theorem dc_114_47 : decode (sm_cc 114) 47 = .ok (.isub, 1) := by decide +kernel
theorem dc_114_48 : decode (sm_cc 114) 48 = .ok (.invokevirtual 116, 3) := by decide +kernel
theorem dc_114_51 : decode (sm_cc 114) 51 = .ok (.pop, 1) := by decide +kernel
theorem dc_114_8 : decode (sm_cc 114) 8 = .ok (.aload_n 0, 1) := by decide +kernel
theorem dc_114_9 : decode (sm_cc 114) 9 = .ok (.getfield 9, 3) := by decide +kernel
theorem dc_114_12 : decode (sm_cc 114) 12 = .ok (.invokevirtual 76, 3) := by decide +kernel
theorem kr_114_76 : sm_at mt_k (sm_ow 114) 76 = some (76, 1, 44, 1, 1172) := by decide +kernel
theorem dc_114_75 : decode (sm_cc 114) 75 = .ok (.aload_n 0, 1) := by decide +kernel
theorem dc_114_76 : decode (sm_cc 114) 76 = .ok (.getfield 15, 3) := by decide +kernel
theorem dc_114_79 : decode (sm_cc 114) 79 = .ok (.iconst 4, 1) := by decide +kernel
theorem dc_114_80 : decode (sm_cc 114) 80 = .ok (.aload_n 0, 1) := by decide +kernel
theorem dc_114_81 : decode (sm_cc 114) 81 = .ok (.getfield 49, 3) := by decide +kernel
theorem dc_114_84 : decode (sm_cc 114) 84 = .ok (.invokevirtual 116, 3) := by decide +kernel
theorem dc_114_87 : decode (sm_cc 114) 87 = .ok (.pop, 1) := by decide +kernel
theorem dc_115_0 : decode (sm_cc 115) 0 = .ok (.aload_n 0, 1) := by decide +kernel
theorem dc_115_1 : decode (sm_cc 115) 1 = .ok (.getfield 19, 3) := by decide +kernel
theorem fr_115_19 : sm_at mt_f (sm_ow 115) 19 = some (19, 10, 2, 0, 728) := by decide +kernel
theorem dc_115_4 : decode (sm_cc 115) 4 = .ok (.invokevirtual 204, 3) := by decide +kernel
theorem kr_115_204 : sm_at mt_k (sm_ow 115) 204 = some (204, 1, 69, 1, 1284) := by decide +kernel
theorem dc_115_7 : decode (sm_cc 115) 7 = .ok (.ifCond .ne (10), 3) := by decide +kernel
theorem dc_115_17 : decode (sm_cc 115) 17 = .ok (.aload_n 0, 1) := by decide +kernel
theorem dc_115_18 : decode (sm_cc 115) 18 = .ok (.getfield 9, 3) := by decide +kernel
theorem fr_115_9 : sm_at mt_f (sm_ow 115) 9 = some (9, 10, 0, 0, 726) := by decide +kernel
theorem dc_115_21 : decode (sm_cc 115) 21 = .ok (.getfield 79, 3) := by decide +kernel
theorem fr_115_79 : sm_at mt_f (sm_ow 115) 79 = some (79, 3, 5, 1, 598) := by decide +kernel
theorem dc_115_24 : decode (sm_cc 115) 24 = .ok (.ifCond .eq (7), 3) := by decide +kernel
theorem dc_115_31 : decode (sm_cc 115) 31 = .ok (.iconst 0, 1) := by decide +kernel
theorem dc_115_32 : decode (sm_cc 115) 32 = .ok (.istore_n 1, 1) := by decide +kernel
theorem dc_115_33 : decode (sm_cc 115) 33 = .ok (.iconst 0, 1) := by decide +kernel
theorem dc_115_34 : decode (sm_cc 115) 34 = .ok (.istore_n 2, 1) := by decide +kernel
theorem dc_115_27 : decode (sm_cc 115) 27 = .ok (.iconst 1, 1) := by decide +kernel
theorem dc_115_28 : decode (sm_cc 115) 28 = .ok (.goto (4), 3) := by decide +kernel
theorem dc_115_10 : decode (sm_cc 115) 10 = .ok (.aload_n 0, 1) := by decide +kernel
theorem dc_115_11 : decode (sm_cc 115) 11 = .ok (.getfield 9, 3) := by decide +kernel
theorem dc_115_14 : decode (sm_cc 115) 14 = .ok (.invokevirtual 76, 3) := by decide +kernel
theorem kr_115_76 : sm_at mt_k (sm_ow 115) 76 = some (76, 1, 44, 1, 1172) := by decide +kernel
theorem dc_115_35 : decode (sm_cc 115) 35 = .ok (.iload_n 1, 1) := by decide +kernel
theorem dc_115_36 : decode (sm_cc 115) 36 = .ok (.ifCond .eq (74), 3) := by decide +kernel
theorem dc_115_110 : decode (sm_cc 115) 110 = .ok (.return_, 1) := by decide +kernel
theorem rt_115 : sm_rt 115 = none := by decide +kernel
theorem dc_115_39 : decode (sm_cc 115) 39 = .ok (.iload_n 2, 1) := by decide +kernel
theorem dc_115_40 : decode (sm_cc 115) 40 = .ok (.sipush (3000), 3) := by decide +kernel
theorem dc_115_43 : decode (sm_cc 115) 43 = .ok (.if_icmp .ge (67), 3) := by decide +kernel
theorem dc_115_46 : decode (sm_cc 115) 46 = .ok (.aload_n 0, 1) := by decide +kernel
theorem dc_115_47 : decode (sm_cc 115) 47 = .ok (.getfield 9, 3) := by decide +kernel
theorem dc_115_50 : decode (sm_cc 115) 50 = .ok (.invokevirtual 192, 3) := by decide +kernel
theorem kr_115_192 : sm_at mt_k (sm_ow 115) 192 = some (192, 1, 40, 1, 1046) := by decide +kernel
theorem dc_115_53 : decode (sm_cc 115) 53 = .ok (.aload_n 0, 1) := by decide +kernel
theorem dc_115_54 : decode (sm_cc 115) 54 = .ok (.invokevirtual 220, 3) := by decide +kernel
theorem kr_115_220 : sm_at mt_k (sm_ow 115) 220 = some (220, 0, 92, 0, 1195) := by decide +kernel
theorem dc_115_57 : decode (sm_cc 115) 57 = .ok (.istore_n 3, 1) := by decide +kernel
theorem dc_115_58 : decode (sm_cc 115) 58 = .ok (.aload_n 0, 1) := by decide +kernel
theorem dc_115_59 : decode (sm_cc 115) 59 = .ok (.getfield 9, 3) := by decide +kernel
theorem dc_115_62 : decode (sm_cc 115) 62 = .ok (.getfield 79, 3) := by decide +kernel
theorem dc_115_65 : decode (sm_cc 115) 65 = .ok (.ifCond .eq (21), 3) := by decide +kernel
theorem dc_115_86 : decode (sm_cc 115) 86 = .ok (.aload_n 0, 1) := by decide +kernel
theorem dc_115_87 : decode (sm_cc 115) 87 = .ok (.getfield 9, 3) := by decide +kernel
theorem dc_115_90 : decode (sm_cc 115) 90 = .ok (.getfield 79, 3) := by decide +kernel
theorem dc_115_93 : decode (sm_cc 115) 93 = .ok (.bipush (12), 2) := by decide +kernel
theorem dc_115_95 : decode (sm_cc 115) 95 = .ok (.if_icmp .ne (7), 3) := by decide +kernel
theorem dc_115_102 : decode (sm_cc 115) 102 = .ok (.iconst 0, 1) := by decide +kernel
theorem dc_115_103 : decode (sm_cc 115) 103 = .ok (.istore_n 1, 1) := by decide +kernel
theorem dc_115_104 : decode (sm_cc 115) 104 = .ok (.iinc 2 (1), 3) := by decide +kernel
theorem dc_115_107 : decode (sm_cc 115) 107 = .ok (.goto (-72), 3) := by decide +kernel
theorem dc_115_98 : decode (sm_cc 115) 98 = .ok (.iconst 1, 1) := by decide +kernel
theorem dc_115_99 : decode (sm_cc 115) 99 = .ok (.goto (4), 3) := by decide +kernel
theorem dc_115_68 : decode (sm_cc 115) 68 = .ok (.aload_n 0, 1) := by decide +kernel
theorem dc_115_69 : decode (sm_cc 115) 69 = .ok (.getfield 19, 3) := by decide +kernel
theorem dc_115_72 : decode (sm_cc 115) 72 = .ok (.iload_n 3, 1) := by decide +kernel
theorem dc_115_73 : decode (sm_cc 115) 73 = .ok (.invokevirtual 223, 3) := by decide +kernel
theorem ow_116 : 8 = sm_ow 116 := by decide +kernel
theorem kr_115_223 : sm_at mt_k (sm_ow 115) 223 = some (223, 1, 116, 1, 1297) := by decide +kernel
theorem np_116 : sm_np 116 = 1 := by decide +kernel
theorem dc_115_76 : decode (sm_cc 115) 76 = .ok (.ifCond .ne (10), 3) := by decide +kernel
theorem dc_115_79 : decode (sm_cc 115) 79 = .ok (.aload_n 0, 1) := by decide +kernel
theorem dc_115_80 : decode (sm_cc 115) 80 = .ok (.getfield 9, 3) := by decide +kernel
theorem dc_115_83 : decode (sm_cc 115) 83 = .ok (.invokevirtual 76, 3) := by decide +kernel
theorem dc_117_0 : decode (sm_cc 117) 0 = .ok (.aload_n 0, 1) := by decide +kernel
theorem dc_117_1 : decode (sm_cc 117) 1 = .ok (.getfield 9, 3) := by decide +kernel
theorem fr_117_9 : sm_at mt_f (sm_ow 117) 9 = some (9, 10, 0, 0, 726) := by decide +kernel
theorem dc_117_4 : decode (sm_cc 117) 4 = .ok (.getfield 166, 3) := by decide +kernel
theorem fr_117_166 : sm_at mt_f (sm_ow 117) 166 = some (166, 3, 4, 1, 594) := by decide +kernel
theorem dc_117_7 : decode (sm_cc 117) 7 = .ok (.istore_n 1, 1) := by decide +kernel
theorem dc_117_8 : decode (sm_cc 117) 8 = .ok (.aload_n 0, 1) := by decide +kernel
theorem dc_117_9 : decode (sm_cc 117) 9 = .ok (.getfield 15, 3) := by decide +kernel
theorem fr_117_15 : sm_at mt_f (sm_ow 117) 15 = some (15, 10, 1, 0, 727) := by decide +kernel
theorem dc_117_12 : decode (sm_cc 117) 12 = .ok (.getfield 69, 3) := by decide +kernel
theorem fr_117_69 : sm_at mt_f (sm_ow 117) 69 = some (69, 7, 7, 1, 553) := by decide +kernel
theorem dc_117_15 : decode (sm_cc 117) 15 = .ok (.istore_n 2, 1) := by decide +kernel
theorem dc_117_16 : decode (sm_cc 117) 16 = .ok (.aload_n 0, 1) := by decide +kernel
theorem dc_117_17 : decode (sm_cc 117) 17 = .ok (.getfield 15, 3) := by decide +kernel
theorem dc_117_20 : decode (sm_cc 117) 20 = .ok (.getfield 52, 3) := by decide +kernel
theorem fr_117_52 : sm_at mt_f (sm_ow 117) 52 = some (52, 7, 8, 1, 554) := by decide +kernel
theorem dc_117_23 : decode (sm_cc 117) 23 = .ok (.istore_n 3, 1) := by decide +kernel
theorem dc_117_24 : decode (sm_cc 117) 24 = .ok (.aload_n 0, 1) := by decide +kernel
theorem dc_117_25 : decode (sm_cc 117) 25 = .ok (.getfield 23, 3) := by decide +kernel
theorem fr_117_23 : sm_at mt_f (sm_ow 117) 23 = some (23, 10, 3, 0, 729) := by decide +kernel
theorem dc_117_28 : decode (sm_cc 117) 28 = .ok (.iconst 0, 1) := by decide +kernel
theorem dc_117_29 : decode (sm_cc 117) 29 = .ok (.invokevirtual 169, 3) := by decide +kernel
theorem kr_117_169 : sm_at mt_k (sm_ow 117) 169 = some (169, 1, 57, 1, 1047) := by decide +kernel
theorem dc_117_32 : decode (sm_cc 117) 32 = .ok (.aload_n 0, 1) := by decide +kernel
theorem dc_117_33 : decode (sm_cc 117) 33 = .ok (.getfield 9, 3) := by decide +kernel
theorem dc_117_36 : decode (sm_cc 117) 36 = .ok (.getfield 79, 3) := by decide +kernel
theorem fr_117_79 : sm_at mt_f (sm_ow 117) 79 = some (79, 3, 5, 1, 598) := by decide +kernel
theorem dc_117_39 : decode (sm_cc 117) 39 = .ok (.bipush (19), 2) := by decide +kernel
theorem dc_117_41 : decode (sm_cc 117) 41 = .ok (.if_icmp .ne (126), 3) := by decide +kernel
theorem dc_117_167 : decode (sm_cc 117) 167 = .ok (.aload_n 0, 1) := by decide +kernel
theorem dc_117_168 : decode (sm_cc 117) 168 = .ok (.getfield 9, 3) := by decide +kernel
theorem dc_117_171 : decode (sm_cc 117) 171 = .ok (.getfield 79, 3) := by decide +kernel
theorem dc_117_174 : decode (sm_cc 117) 174 = .ok (.invokestatic 185, 3) := by decide +kernel
theorem kr_117_185 : sm_at mt_k (sm_ow 117) 185 = some (185, 2, 121, 0, 1317) := by decide +kernel
theorem np_121 : sm_np 121 = 1 := by decide +kernel
theorem dc_117_177 : decode (sm_cc 117) 177 = .ok (.ifCond .ne (16), 3) := by decide +kernel
theorem dc_117_193 : decode (sm_cc 117) 193 = .ok (.aload_n 0, 1) := by decide +kernel
theorem dc_117_194 : decode (sm_cc 117) 194 = .ok (.getfield 9, 3) := by decide +kernel
theorem dc_117_197 : decode (sm_cc 117) 197 = .ok (.getfield 79, 3) := by decide +kernel
theorem dc_117_200 : decode (sm_cc 117) 200 = .ok (.invokestatic 185, 3) := by decide +kernel
theorem dc_117_203 : decode (sm_cc 117) 203 = .ok (.istore 4, 2) := by decide +kernel
theorem dc_117_205 : decode (sm_cc 117) 205 = .ok (.aload_n 0, 1) := by decide +kernel
theorem dc_117_206 : decode (sm_cc 117) 206 = .ok (.getfield 23, 3) := by decide +kernel
theorem dc_117_209 : decode (sm_cc 117) 209 = .ok (.getfield 173, 3) := by decide +kernel
theorem fr_117_173 : sm_at mt_f (sm_ow 117) 173 = some (173, 1, 3, 1, 708) := by decide +kernel
theorem dc_117_212 : decode (sm_cc 117) 212 = .ok (.istore 5, 2) := by decide +kernel
theorem dc_117_214 : decode (sm_cc 117) 214 = .ok (.aload_n 0, 1) := by decide +kernel
theorem dc_117_215 : decode (sm_cc 117) 215 = .ok (.invokevirtual 188, 3) := by decide +kernel
theorem kr_117_188 : sm_at mt_k (sm_ow 117) 188 = some (188, 0, 111, 0, 1276) := by decide +kernel
theorem dc_117_218 : decode (sm_cc 117) 218 = .ok (.istore 6, 2) := by decide +kernel
theorem dc_117_220 : decode (sm_cc 117) 220 = .ok (.aload_n 0, 1) := by decide +kernel
theorem dc_117_221 : decode (sm_cc 117) 221 = .ok (.bipush (18), 2) := by decide +kernel
theorem dc_117_223 : decode (sm_cc 117) 223 = .ok (.bipush (40), 2) := by decide +kernel
theorem dc_117_225 : decode (sm_cc 117) 225 = .ok (.bipush (45), 2) := by decide +kernel
theorem dc_117_227 : decode (sm_cc 117) 227 = .ok (.invokevirtual 182, 3) := by decide +kernel
theorem kr_117_182 : sm_at mt_k (sm_ow 117) 182 = some (182, 0, 110, 0, 1272) := by decide +kernel
theorem dc_117_230 : decode (sm_cc 117) 230 = .ok (.aload_n 0, 1) := by decide +kernel
theorem dc_117_231 : decode (sm_cc 117) 231 = .ok (.getfield 9, 3) := by decide +kernel
theorem dc_117_234 : decode (sm_cc 117) 234 = .ok (.invokevirtual 192, 3) := by decide +kernel
theorem kr_117_192 : sm_at mt_k (sm_ow 117) 192 = some (192, 1, 40, 1, 1046) := by decide +kernel
theorem dc_117_237 : decode (sm_cc 117) 237 = .ok (.aload_n 0, 1) := by decide +kernel
theorem dc_117_238 : decode (sm_cc 117) 238 = .ok (.getfield 23, 3) := by decide +kernel
theorem dc_117_241 : decode (sm_cc 117) 241 = .ok (.iconst 0, 1) := by decide +kernel
theorem dc_117_242 : decode (sm_cc 117) 242 = .ok (.invokevirtual 169, 3) := by decide +kernel
theorem dc_117_245 : decode (sm_cc 117) 245 = .ok (.aload_n 0, 1) := by decide +kernel
theorem dc_117_246 : decode (sm_cc 117) 246 = .ok (.getfield 15, 3) := by decide +kernel
theorem dc_117_249 : decode (sm_cc 117) 249 = .ok (.iload 4, 2) := by decide +kernel
theorem dc_117_251 : decode (sm_cc 117) 251 = .ok (.invokevirtual 72, 3) := by decide +kernel
theorem kr_117_72 : sm_at mt_k (sm_ow 117) 72 = some (72, 1, 71, 1, 1199) := by decide +kernel
theorem dc_117_254 : decode (sm_cc 117) 254 = .ok (.pop, 1) := by decide +kernel
theorem dc_117_255 : decode (sm_cc 117) 255 = .ok (.iload 5, 2) := by decide +kernel
theorem dc_117_257 : decode (sm_cc 117) 257 = .ok (.iconst 1, 1) := by decide +kernel
theorem dc_117_258 : decode (sm_cc 117) 258 = .ok (.if_icmp .ne (12), 3) := by decide +kernel
theorem dc_117_270 : decode (sm_cc 117) 270 = .ok (.iload 5, 2) := by decide +kernel
theorem dc_117_272 : decode (sm_cc 117) 272 = .ok (.iconst 2, 1) := by decide +kernel
theorem dc_117_273 : decode (sm_cc 117) 273 = .ok (.if_icmp .ne (16), 3) := by decide +kernel
theorem dc_117_289 : decode (sm_cc 117) 289 = .ok (.aload_n 0, 1) := by decide +kernel
theorem dc_117_290 : decode (sm_cc 117) 290 = .ok (.getfield 15, 3) := by decide +kernel
theorem dc_117_293 : decode (sm_cc 117) 293 = .ok (.bipush (47), 2) := by decide +kernel
theorem dc_117_295 : decode (sm_cc 117) 295 = .ok (.iload 6, 2) := by decide +kernel
theorem dc_117_297 : decode (sm_cc 117) 297 = .ok (.invokevirtual 116, 3) := by decide +kernel
theorem kr_117_116 : sm_at mt_k (sm_ow 117) 116 = some (116, 1, 54, 1, 1034) := by decide +kernel
theorem dc_117_300 : decode (sm_cc 117) 300 = .ok (.pop, 1) := by decide +kernel
theorem dc_117_301 : decode (sm_cc 117) 301 = .ok (.return_, 1) := by decide +kernel
theorem rt_117 : sm_rt 117 = none := by decide +kernel
theorem dc_117_276 : decode (sm_cc 117) 276 = .ok (.aload_n 0, 1) := by decide +kernel
theorem dc_117_277 : decode (sm_cc 117) 277 = .ok (.getfield 15, 3) := by decide +kernel
theorem dc_117_280 : decode (sm_cc 117) 280 = .ok (.bipush (42), 2) := by decide +kernel
theorem dc_117_282 : decode (sm_cc 117) 282 = .ok (.invokevirtual 72, 3) := by decide +kernel
theorem dc_117_285 : decode (sm_cc 117) 285 = .ok (.pop, 1) := by decide +kernel
theorem dc_117_286 : decode (sm_cc 117) 286 = .ok (.goto (15), 3) := by decide +kernel
theorem dc_117_261 : decode (sm_cc 117) 261 = .ok (.aload_n 0, 1) := by decide +kernel
theorem dc_117_262 : decode (sm_cc 117) 262 = .ok (.iload 6, 2) := by decide +kernel
theorem dc_117_264 : decode (sm_cc 117) 264 = .ok (.invokevirtual 131, 3) := by decide +kernel
theorem kr_117_131 : sm_at mt_k (sm_ow 117) 131 = some (131, 0, 93, 0, 1200) := by decide +kernel
theorem dc_117_267 : decode (sm_cc 117) 267 = .ok (.goto (34), 3) := by decide +kernel
theorem dc_117_180 : decode (sm_cc 117) 180 = .ok (.aload_n 0, 1) := by decide +kernel
theorem dc_117_181 : decode (sm_cc 117) 181 = .ok (.getfield 15, 3) := by decide +kernel
theorem dc_117_184 : decode (sm_cc 117) 184 = .ok (.bipush (17), 2) := by decide +kernel
theorem dc_117_186 : decode (sm_cc 117) 186 = .ok (.invokevirtual 72, 3) := by decide +kernel
theorem dc_117_189 : decode (sm_cc 117) 189 = .ok (.pop, 1) := by decide +kernel
theorem dc_117_190 : decode (sm_cc 117) 190 = .ok (.goto (111), 3) := by decide +kernel
theorem dc_117_44 : decode (sm_cc 117) 44 = .ok (.aload_n 0, 1) := by decide +kernel
theorem dc_117_45 : decode (sm_cc 117) 45 = .ok (.getfield 23, 3) := by decide +kernel
theorem dc_117_48 : decode (sm_cc 117) 48 = .ok (.getfield 173, 3) := by decide +kernel
theorem dc_117_51 : decode (sm_cc 117) 51 = .ok (.ifCond .ne (10), 3) := by decide +kernel
theorem dc_117_61 : decode (sm_cc 117) 61 = .ok (.aload_n 0, 1) := by decide +kernel
theorem dc_117_62 : decode (sm_cc 117) 62 = .ok (.getfield 15, 3) := by decide +kernel
theorem dc_117_65 : decode (sm_cc 117) 65 = .ok (.iload_n 2, 1) := by decide +kernel
theorem dc_117_66 : decode (sm_cc 117) 66 = .ok (.iload_n 3, 1) := by decide +kernel
theorem dc_117_67 : decode (sm_cc 117) 67 = .ok (.aload_n 0, 1) := by decide +kernel
theorem dc_117_68 : decode (sm_cc 117) 68 = .ok (.getfield 15, 3) := by decide +kernel
theorem dc_117_71 : decode (sm_cc 117) 71 = .ok (.getfield 58, 3) := by decide +kernel
theorem fr_117_58 : sm_at mt_f (sm_ow 117) 58 = some (58, 7, 9, 1, 556) := by decide +kernel
theorem dc_117_74 : decode (sm_cc 117) 74 = .ok (.invokevirtual 85, 3) := by decide +kernel
theorem ow_118 : 7 = sm_ow 118 := by decide +kernel
theorem kr_117_85 : sm_at mt_k (sm_ow 117) 85 = some (85, 1, 118, 1, 1305) := by decide +kernel
theorem np_118 : sm_np 118 = 3 := by decide +kernel
theorem dc_117_77 : decode (sm_cc 117) 77 = .ok (.aload_n 0, 1) := by decide +kernel
theorem dc_117_78 : decode (sm_cc 117) 78 = .ok (.getfield 19, 3) := by decide +kernel
theorem fr_117_19 : sm_at mt_f (sm_ow 117) 19 = some (19, 10, 2, 0, 728) := by decide +kernel
theorem dc_117_81 : decode (sm_cc 117) 81 = .ok (.iload_n 2, 1) := by decide +kernel
theorem dc_117_82 : decode (sm_cc 117) 82 = .ok (.invokevirtual 176, 3) := by decide +kernel
theorem ow_119 : 8 = sm_ow 119 := by decide +kernel
theorem kr_117_176 : sm_at mt_k (sm_ow 117) 176 = some (176, 1, 119, 1, 1309) := by decide +kernel
theorem np_119 : sm_np 119 = 1 := by decide +kernel
theorem dc_117_85 : decode (sm_cc 117) 85 = .ok (.aload_n 0, 1) := by decide +kernel
theorem dc_117_86 : decode (sm_cc 117) 86 = .ok (.getfield 9, 3) := by decide +kernel
theorem dc_117_89 : decode (sm_cc 117) 89 = .ok (.bipush (19), 2) := by decide +kernel
theorem dc_117_91 : decode (sm_cc 117) 91 = .ok (.invokevirtual 107, 3) := by decide +kernel
theorem kr_117_107 : sm_at mt_k (sm_ow 117) 107 = some (107, 1, 75, 1, 1167) := by decide +kernel
theorem dc_117_94 : decode (sm_cc 117) 94 = .ok (.aload_n 0, 1) := by decide +kernel
theorem dc_117_95 : decode (sm_cc 117) 95 = .ok (.getfield 23, 3) := by decide +kernel
theorem dc_117_98 : decode (sm_cc 117) 98 = .ok (.iconst 0, 1) := by decide +kernel
theorem dc_117_99 : decode (sm_cc 117) 99 = .ok (.invokevirtual 169, 3) := by decide +kernel
theorem dc_117_102 : decode (sm_cc 117) 102 = .ok (.aload_n 0, 1) := by decide +kernel
theorem dc_117_103 : decode (sm_cc 117) 103 = .ok (.getfield 9, 3) := by decide +kernel
theorem dc_117_106 : decode (sm_cc 117) 106 = .ok (.getfield 79, 3) := by decide +kernel
theorem dc_117_109 : decode (sm_cc 117) 109 = .ok (.iconst 2, 1) := by decide +kernel
theorem dc_117_110 : decode (sm_cc 117) 110 = .ok (.if_icmp .eq (10), 3) := by decide +kernel
theorem dc_117_120 : decode (sm_cc 117) 120 = .ok (.aload_n 0, 1) := by decide +kernel
theorem dc_117_121 : decode (sm_cc 117) 121 = .ok (.getfield 9, 3) := by decide +kernel
theorem dc_117_124 : decode (sm_cc 117) 124 = .ok (.getfield 166, 3) := by decide +kernel
theorem dc_117_127 : decode (sm_cc 117) 127 = .ok (.istore 4, 2) := by decide +kernel
theorem dc_117_129 : decode (sm_cc 117) 129 = .ok (.aload_n 0, 1) := by decide +kernel
theorem dc_117_130 : decode (sm_cc 117) 130 = .ok (.getfield 9, 3) := by decide +kernel
theorem dc_117_133 : decode (sm_cc 117) 133 = .ok (.iload_n 1, 1) := by decide +kernel
theorem dc_117_134 : decode (sm_cc 117) 134 = .ok (.invokevirtual 179, 3) := by decide +kernel
theorem ow_120 : 3 = sm_ow 120 := by decide +kernel
theorem kr_117_179 : sm_at mt_k (sm_ow 117) 179 = some (179, 1, 120, 1, 1313) := by decide +kernel
theorem np_120 : sm_np 120 = 1 := by decide +kernel
theorem dc_117_137 : decode (sm_cc 117) 137 = .ok (.aload_n 0, 1) := by decide +kernel
theorem dc_117_138 : decode (sm_cc 117) 138 = .ok (.getfield 23, 3) := by decide +kernel
theorem dc_117_141 : decode (sm_cc 117) 141 = .ok (.iconst 0, 1) := by decide +kernel
theorem dc_117_142 : decode (sm_cc 117) 142 = .ok (.invokevirtual 169, 3) := by decide +kernel
theorem dc_117_145 : decode (sm_cc 117) 145 = .ok (.aload_n 0, 1) := by decide +kernel
theorem dc_117_146 : decode (sm_cc 117) 146 = .ok (.bipush (19), 2) := by decide +kernel
theorem dc_117_148 : decode (sm_cc 117) 148 = .ok (.bipush (41), 2) := by decide +kernel
theorem dc_117_150 : decode (sm_cc 117) 150 = .ok (.bipush (46), 2) := by decide +kernel
theorem dc_117_152 : decode (sm_cc 117) 152 = .ok (.invokevirtual 182, 3) := by decide +kernel
theorem dc_117_155 : decode (sm_cc 117) 155 = .ok (.aload_n 0, 1) := by decide +kernel
theorem dc_117_156 : decode (sm_cc 117) 156 = .ok (.getfield 9, 3) := by decide +kernel
theorem dc_117_159 : decode (sm_cc 117) 159 = .ok (.iload 4, 2) := by decide +kernel
theorem dc_117_161 : decode (sm_cc 117) 161 = .ok (.invokevirtual 179, 3) := by decide +kernel
theorem dc_117_164 : decode (sm_cc 117) 164 = .ok (.goto (137), 3) := by decide +kernel
theorem dc_117_113 : decode (sm_cc 117) 113 = .ok (.aload_n 0, 1) := by decide +kernel
theorem dc_117_114 : decode (sm_cc 117) 114 = .ok (.getfield 9, 3) := by decide +kernel
theorem dc_117_117 : decode (sm_cc 117) 117 = .ok (.invokevirtual 76, 3) := by decide +kernel
theorem kr_117_76 : sm_at mt_k (sm_ow 117) 76 = some (76, 1, 44, 1, 1172) := by decide +kernel
theorem dc_117_54 : decode (sm_cc 117) 54 = .ok (.aload_n 0, 1) := by decide +kernel
theorem dc_117_55 : decode (sm_cc 117) 55 = .ok (.getfield 9, 3) := by decide +kernel
theorem dc_117_58 : decode (sm_cc 117) 58 = .ok (.invokevirtual 76, 3) := by decide +kernel
theorem dc_56_0 : decode (sm_cc 56) 0 = .ok (.aload_n 0, 1) := by decide +kernel
theorem dc_56_1 : decode (sm_cc 56) 1 = .ok (.getfield 9, 3) := by decide +kernel
theorem fr_56_9 : sm_at mt_f (sm_ow 56) 9 = some (9, 10, 0, 0, 726) := by decide +kernel
theorem dc_56_4 : decode (sm_cc 56) 4 = .ok (.getfield 96, 3) := by decide +kernel
theorem fr_56_96 : sm_at mt_f (sm_ow 56) 96 = some (96, 3, 8, 1, 602) := by decide +kernel
theorem dc_56_7 : decode (sm_cc 56) 7 = .ok (.istore_n 2, 1) := by decide +kernel
theorem dc_56_8 : decode (sm_cc 56) 8 = .ok (.iconst (-1), 1) := by decide +kernel
theorem dc_56_9 : decode (sm_cc 56) 9 = .ok (.istore_n 3, 1) := by decide +kernel
theorem dc_56_10 : decode (sm_cc 56) 10 = .ok (.iconst 1, 1) := by decide +kernel
theorem dc_56_11 : decode (sm_cc 56) 11 = .ok (.istore 4, 2) := by decide +kernel
theorem dc_56_13 : decode (sm_cc 56) 13 = .ok (.iconst 0, 1) := by decide +kernel
theorem dc_56_14 : decode (sm_cc 56) 14 = .ok (.istore 5, 2) := by decide +kernel
theorem dc_56_16 : decode (sm_cc 56) 16 = .ok (.iload 4, 2) := by decide +kernel
theorem dc_56_18 : decode (sm_cc 56) 18 = .ok (.ifCond .eq (106), 3) := by decide +kernel
theorem dc_56_124 : decode (sm_cc 56) 124 = .ok (.aload_n 0, 1) := by decide +kernel
theorem dc_56_125 : decode (sm_cc 56) 125 = .ok (.iload_n 2, 1) := by decide +kernel
theorem dc_56_126 : decode (sm_cc 56) 126 = .ok (.invokevirtual 89, 3) := by decide +kernel
theorem kr_56_89 : sm_at mt_k (sm_ow 56) 89 = some (89, 0, 52, 0, 1026) := by decide +kernel
theorem dc_56_129 : decode (sm_cc 56) 129 = .ok (.ifCond .eq (32), 3) := by decide +kernel
theorem dc_56_132 : decode (sm_cc 56) 132 = .ok (.aload_n 0, 1) := by decide +kernel
theorem dc_56_133 : decode (sm_cc 56) 133 = .ok (.getfield 9, 3) := by decide +kernel
theorem dc_56_136 : decode (sm_cc 56) 136 = .ok (.getfield 79, 3) := by decide +kernel
theorem fr_56_79 : sm_at mt_f (sm_ow 56) 79 = some (79, 3, 5, 1, 598) := by decide +kernel
theorem dc_56_139 : decode (sm_cc 56) 139 = .ok (.bipush (42), 2) := by decide +kernel
theorem dc_56_141 : decode (sm_cc 56) 141 = .ok (.if_icmp .ne (20), 3) := by decide +kernel
theorem dc_56_161 : decode (sm_cc 56) 161 = .ok (.aload_n 0, 1) := by decide +kernel
theorem dc_56_162 : decode (sm_cc 56) 162 = .ok (.iload_n 3, 1) := by decide +kernel
theorem dc_56_163 : decode (sm_cc 56) 163 = .ok (.invokevirtual 229, 3) := by decide +kernel
theorem ow_87 : 10 = sm_ow 87 := by decide +kernel
theorem kr_56_229 : sm_at mt_k (sm_ow 56) 229 = some (229, 0, 87, 0, 1175) := by decide +kernel
theorem np_87 : sm_np 87 = 1 := by decide +kernel
theorem dc_56_166 : decode (sm_cc 56) 166 = .ok (.return_, 1) := by decide +kernel
theorem rt_56 : sm_rt 56 = none := by decide +kernel
theorem dc_56_144 : decode (sm_cc 56) 144 = .ok (.aload_n 0, 1) := by decide +kernel
theorem dc_56_145 : decode (sm_cc 56) 145 = .ok (.getfield 9, 3) := by decide +kernel
theorem dc_56_148 : decode (sm_cc 56) 148 = .ok (.bipush (42), 2) := by decide +kernel
theorem dc_56_150 : decode (sm_cc 56) 150 = .ok (.invokevirtual 107, 3) := by decide +kernel
theorem kr_56_107 : sm_at mt_k (sm_ow 56) 107 = some (107, 1, 75, 1, 1167) := by decide +kernel
theorem dc_56_153 : decode (sm_cc 56) 153 = .ok (.aload_n 0, 1) := by decide +kernel
theorem dc_56_154 : decode (sm_cc 56) 154 = .ok (.iload_n 2, 1) := by decide +kernel
theorem dc_56_155 : decode (sm_cc 56) 155 = .ok (.iload_n 1, 1) := by decide +kernel
theorem dc_56_156 : decode (sm_cc 56) 156 = .ok (.iconst 1, 1) := by decide +kernel
theorem dc_56_157 : decode (sm_cc 56) 157 = .ok (.iadd, 1) := by decide +kernel
theorem dc_56_158 : decode (sm_cc 56) 158 = .ok (.invokevirtual 226, 3) := by decide +kernel
theorem kr_56_226 : sm_at mt_k (sm_ow 56) 226 = some (226, 0, 84, 0, 1159) := by decide +kernel
theorem dc_56_21 : decode (sm_cc 56) 21 = .ok (.iload 5, 2) := by decide +kernel
theorem dc_56_23 : decode (sm_cc 56) 23 = .ok (.sipush (3000), 3) := by decide +kernel
theorem dc_56_26 : decode (sm_cc 56) 26 = .ok (.if_icmp .ge (98), 3) := by decide +kernel
theorem dc_56_29 : decode (sm_cc 56) 29 = .ok (.aload_n 0, 1) := by decide +kernel
theorem dc_56_30 : decode (sm_cc 56) 30 = .ok (.getfield 9, 3) := by decide +kernel
theorem dc_56_33 : decode (sm_cc 56) 33 = .ok (.invokevirtual 192, 3) := by decide +kernel
theorem kr_56_192 : sm_at mt_k (sm_ow 56) 192 = some (192, 1, 40, 1, 1046) := by decide +kernel
theorem dc_56_36 : decode (sm_cc 56) 36 = .ok (.aload_n 0, 1) := by decide +kernel
theorem dc_56_37 : decode (sm_cc 56) 37 = .ok (.getfield 23, 3) := by decide +kernel
theorem fr_56_23 : sm_at mt_f (sm_ow 56) 23 = some (23, 10, 3, 0, 729) := by decide +kernel
theorem dc_56_40 : decode (sm_cc 56) 40 = .ok (.iconst 0, 1) := by decide +kernel
theorem dc_56_41 : decode (sm_cc 56) 41 = .ok (.invokevirtual 169, 3) := by decide +kernel
theorem kr_56_169 : sm_at mt_k (sm_ow 56) 169 = some (169, 1, 57, 1, 1047) := by decide +kernel
theorem dc_56_44 : decode (sm_cc 56) 44 = .ok (.aload_n 0, 1) := by decide +kernel
theorem dc_56_45 : decode (sm_cc 56) 45 = .ok (.getfield 15, 3) := by decide +kernel
theorem fr_56_15 : sm_at mt_f (sm_ow 56) 15 = some (15, 10, 1, 0, 727) := by decide +kernel
theorem dc_56_48 : decode (sm_cc 56) 48 = .ok (.iconst 5, 1) := by decide +kernel
theorem dc_56_49 : decode (sm_cc 56) 49 = .ok (.iconst 0, 1) := by decide +kernel
theorem dc_56_50 : decode (sm_cc 56) 50 = .ok (.invokevirtual 116, 3) := by decide +kernel
theorem kr_56_116 : sm_at mt_k (sm_ow 56) 116 = some (116, 1, 54, 1, 1034) := by decide +kernel
theorem dc_56_53 : decode (sm_cc 56) 53 = .ok (.istore 6, 2) := by decide +kernel
theorem dc_56_55 : decode (sm_cc 56) 55 = .ok (.aload_n 0, 1) := by decide +kernel
theorem dc_56_56 : decode (sm_cc 56) 56 = .ok (.iload_n 2, 1) := by decide +kernel
theorem dc_56_57 : decode (sm_cc 56) 57 = .ok (.iload_n 1, 1) := by decide +kernel
theorem dc_56_58 : decode (sm_cc 56) 58 = .ok (.iconst 1, 1) := by decide +kernel
theorem dc_56_59 : decode (sm_cc 56) 59 = .ok (.iadd, 1) := by decide +kernel
theorem dc_56_60 : decode (sm_cc 56) 60 = .ok (.invokevirtual 226, 3) := by decide +kernel
theorem dc_56_63 : decode (sm_cc 56) 63 = .ok (.aload_n 0, 1) := by decide +kernel
theorem dc_56_64 : decode (sm_cc 56) 64 = .ok (.iload_n 2, 1) := by decide +kernel
theorem dc_56_65 : decode (sm_cc 56) 65 = .ok (.invokevirtual 89, 3) := by decide +kernel
theorem dc_56_68 : decode (sm_cc 56) 68 = .ok (.ifCond .eq (19), 3) := by decide +kernel
theorem dc_56_71 : decode (sm_cc 56) 71 = .ok (.aload_n 0, 1) := by decide +kernel
theorem dc_56_72 : decode (sm_cc 56) 72 = .ok (.getfield 9, 3) := by decide +kernel
theorem dc_56_75 : decode (sm_cc 56) 75 = .ok (.getfield 79, 3) := by decide +kernel
theorem dc_56_78 : decode (sm_cc 56) 78 = .ok (.bipush (41), 2) := by decide +kernel
theorem dc_56_80 : decode (sm_cc 56) 80 = .ok (.if_icmp .ne (7), 3) := by decide +kernel
theorem dc_56_87 : decode (sm_cc 56) 87 = .ok (.iconst 0, 1) := by decide +kernel
theorem dc_56_88 : decode (sm_cc 56) 88 = .ok (.istore 4, 2) := by decide +kernel
theorem dc_56_90 : decode (sm_cc 56) 90 = .ok (.aload_n 0, 1) := by decide +kernel
theorem dc_56_91 : decode (sm_cc 56) 91 = .ok (.getfield 15, 3) := by decide +kernel
theorem dc_56_94 : decode (sm_cc 56) 94 = .ok (.iconst 4, 1) := by decide +kernel
theorem dc_56_95 : decode (sm_cc 56) 95 = .ok (.iload_n 3, 1) := by decide +kernel
theorem dc_56_96 : decode (sm_cc 56) 96 = .ok (.invokevirtual 116, 3) := by decide +kernel
theorem dc_56_99 : decode (sm_cc 56) 99 = .ok (.istore_n 3, 1) := by decide +kernel
theorem dc_56_100 : decode (sm_cc 56) 100 = .ok (.aload_n 0, 1) := by decide +kernel
theorem dc_56_101 : decode (sm_cc 56) 101 = .ok (.getfield 15, 3) := by decide +kernel
theorem dc_56_104 : decode (sm_cc 56) 104 = .ok (.iload 6, 2) := by decide +kernel
theorem dc_56_106 : decode (sm_cc 56) 106 = .ok (.iconst 1, 1) := by decide +kernel
theorem dc_56_107 : decode (sm_cc 56) 107 = .ok (.iadd, 1) := by decide +kernel
theorem dc_56_108 : decode (sm_cc 56) 108 = .ok (.aload_n 0, 1) := by decide +kernel
theorem dc_56_109 : decode (sm_cc 56) 109 = .ok (.getfield 15, 3) := by decide +kernel
theorem dc_56_112 : decode (sm_cc 56) 112 = .ok (.getfield 69, 3) := by decide +kernel
theorem fr_56_69 : sm_at mt_f (sm_ow 56) 69 = some (69, 7, 7, 1, 553) := by decide +kernel
theorem dc_56_115 : decode (sm_cc 56) 115 = .ok (.invokevirtual 201, 3) := by decide +kernel
theorem kr_56_201 : sm_at mt_k (sm_ow 56) 201 = some (201, 1, 83, 1, 1174) := by decide +kernel
theorem dc_56_118 : decode (sm_cc 56) 118 = .ok (.iinc 5 (1), 3) := by decide +kernel
theorem dc_56_121 : decode (sm_cc 56) 121 = .ok (.goto (-105), 3) := by decide +kernel
theorem dc_56_83 : decode (sm_cc 56) 83 = .ok (.iconst 1, 1) := by decide +kernel
theorem dc_56_84 : decode (sm_cc 56) 84 = .ok (.goto (4), 3) := by decide +kernel
theorem dc_90_0 : decode (sm_cc 90) 0 = .ok (.aload_n 0, 1) := by decide +kernel
theorem dc_90_1 : decode (sm_cc 90) 1 = .ok (.getfield 49, 3) := by decide +kernel
theorem fr_90_49 : sm_at mt_f (sm_ow 90) 49 = some (49, 10, 9, 0, 735) := by decide +kernel
theorem dc_90_4 : decode (sm_cc 90) 4 = .ok (.istore 5, 2) := by decide +kernel
theorem dc_90_6 : decode (sm_cc 90) 6 = .ok (.aload_n 0, 1) := by decide +kernel
theorem dc_90_7 : decode (sm_cc 90) 7 = .ok (.getfield 217, 3) := by decide +kernel
theorem fr_90_217 : sm_at mt_f (sm_ow 90) 217 = some (217, 10, 10, 0, 736) := by decide +kernel
theorem dc_90_10 : decode (sm_cc 90) 10 = .ok (.istore 6, 2) := by decide +kernel
theorem dc_90_12 : decode (sm_cc 90) 12 = .ok (.aload_n 0, 1) := by decide +kernel
theorem dc_90_13 : decode (sm_cc 90) 13 = .ok (.getfield 214, 3) := by decide +kernel
theorem fr_90_214 : sm_at mt_f (sm_ow 90) 214 = some (214, 10, 11, 0, 737) := by decide +kernel
theorem dc_90_16 : decode (sm_cc 90) 16 = .ok (.istore 7, 2) := by decide +kernel
theorem dc_90_18 : decode (sm_cc 90) 18 = .ok (.aload_n 0, 1) := by decide +kernel
theorem dc_90_19 : decode (sm_cc 90) 19 = .ok (.iload_n 3, 1) := by decide +kernel
theorem dc_90_20 : decode (sm_cc 90) 20 = .ok (.putfield 49, 3) := by decide +kernel
theorem dc_90_23 : decode (sm_cc 90) 23 = .ok (.aload_n 0, 1) := by decide +kernel
theorem dc_90_24 : decode (sm_cc 90) 24 = .ok (.iload 4, 2) := by decide +kernel
theorem dc_90_26 : decode (sm_cc 90) 26 = .ok (.putfield 217, 3) := by decide +kernel
theorem dc_90_29 : decode (sm_cc 90) 29 = .ok (.aload_n 0, 1) := by decide +kernel
theorem dc_90_30 : decode (sm_cc 90) 30 = .ok (.aload_n 0, 1) := by decide +kernel
theorem dc_90_31 : decode (sm_cc 90) 31 = .ok (.getfield 46, 3) := by decide +kernel
theorem fr_90_46 : sm_at mt_f (sm_ow 90) 46 = some (46, 10, 8, 0, 734) := by decide +kernel
theorem dc_90_34 : decode (sm_cc 90) 34 = .ok (.putfield 214, 3) := by decide +kernel
theorem dc_90_37 : decode (sm_cc 90) 37 = .ok (.aload_n 0, 1) := by decide +kernel
theorem dc_90_38 : decode (sm_cc 90) 38 = .ok (.iload_n 1, 1) := by decide +kernel
theorem dc_90_39 : decode (sm_cc 90) 39 = .ok (.iload_n 2, 1) := by decide +kernel
theorem dc_90_40 : decode (sm_cc 90) 40 = .ok (.iconst 1, 1) := by decide +kernel
theorem dc_90_41 : decode (sm_cc 90) 41 = .ok (.iadd, 1) := by decide +kernel
theorem dc_90_42 : decode (sm_cc 90) 42 = .ok (.invokevirtual 226, 3) := by decide +kernel
theorem kr_90_226 : sm_at mt_k (sm_ow 90) 226 = some (226, 0, 84, 0, 1159) := by decide +kernel
theorem dc_90_45 : decode (sm_cc 90) 45 = .ok (.aload_n 0, 1) := by decide +kernel
theorem dc_90_46 : decode (sm_cc 90) 46 = .ok (.getfield 15, 3) := by decide +kernel
theorem fr_90_15 : sm_at mt_f (sm_ow 90) 15 = some (15, 10, 1, 0, 727) := by decide +kernel
theorem dc_90_49 : decode (sm_cc 90) 49 = .ok (.iconst 4, 1) := by decide +kernel
theorem dc_90_50 : decode (sm_cc 90) 50 = .ok (.iload_n 3, 1) := by decide +kernel
theorem dc_90_51 : decode (sm_cc 90) 51 = .ok (.invokevirtual 116, 3) := by decide +kernel
theorem kr_90_116 : sm_at mt_k (sm_ow 90) 116 = some (116, 1, 54, 1, 1034) := by decide +kernel
theorem dc_90_54 : decode (sm_cc 90) 54 = .ok (.pop, 1) := by decide +kernel
theorem dc_90_55 : decode (sm_cc 90) 55 = .ok (.aload_n 0, 1) := by decide +kernel
theorem dc_90_56 : decode (sm_cc 90) 56 = .ok (.aload_n 0, 1) := by decide +kernel
theorem dc_90_57 : decode (sm_cc 90) 57 = .ok (.getfield 217, 3) := by decide +kernel
theorem dc_90_60 : decode (sm_cc 90) 60 = .ok (.invokevirtual 229, 3) := by decide +kernel
theorem kr_90_229 : sm_at mt_k (sm_ow 90) 229 = some (229, 0, 87, 0, 1175) := by decide +kernel
theorem dc_90_63 : decode (sm_cc 90) 63 = .ok (.aload_n 0, 1) := by decide +kernel
theorem dc_90_64 : decode (sm_cc 90) 64 = .ok (.iload 5, 2) := by decide +kernel
theorem dc_90_66 : decode (sm_cc 90) 66 = .ok (.putfield 49, 3) := by decide +kernel
theorem dc_90_69 : decode (sm_cc 90) 69 = .ok (.aload_n 0, 1) := by decide +kernel
theorem dc_90_70 : decode (sm_cc 90) 70 = .ok (.iload 6, 2) := by decide +kernel
theorem dc_90_72 : decode (sm_cc 90) 72 = .ok (.putfield 217, 3) := by decide +kernel
theorem dc_90_75 : decode (sm_cc 90) 75 = .ok (.aload_n 0, 1) := by decide +kernel
theorem dc_90_76 : decode (sm_cc 90) 76 = .ok (.iload 7, 2) := by decide +kernel
theorem dc_90_78 : decode (sm_cc 90) 78 = .ok (.putfield 214, 3) := by decide +kernel
theorem dc_90_81 : decode (sm_cc 90) 81 = .ok (.return_, 1) := by decide +kernel
theorem rt_90 : sm_rt 90 = none := by decide +kernel
theorem dc_97_0 : decode (sm_cc 97) 0 = .ok (.aload_n 0, 1) := by decide +kernel
theorem dc_97_1 : decode (sm_cc 97) 1 = .ok (.getfield 9, 3) := by decide +kernel
theorem fr_97_9 : sm_at mt_f (sm_ow 97) 9 = some (9, 10, 0, 0, 726) := by decide +kernel
theorem dc_97_4 : decode (sm_cc 97) 4 = .ok (.getfield 96, 3) := by decide +kernel
theorem fr_97_96 : sm_at mt_f (sm_ow 97) 96 = some (96, 3, 8, 1, 602) := by decide +kernel
theorem dc_97_7 : decode (sm_cc 97) 7 = .ok (.istore_n 2, 1) := by decide +kernel
theorem dc_97_8 : decode (sm_cc 97) 8 = .ok (.aload_n 0, 1) := by decide +kernel
theorem dc_97_9 : decode (sm_cc 97) 9 = .ok (.getfield 9, 3) := by decide +kernel
theorem dc_97_12 : decode (sm_cc 97) 12 = .ok (.bipush (46), 2) := by decide +kernel
theorem dc_97_14 : decode (sm_cc 97) 14 = .ok (.invokevirtual 107, 3) := by decide +kernel
theorem kr_97_107 : sm_at mt_k (sm_ow 97) 107 = some (107, 1, 75, 1, 1167) := by decide +kernel
theorem dc_97_17 : decode (sm_cc 97) 17 = .ok (.aload_n 0, 1) := by decide +kernel
theorem dc_97_18 : decode (sm_cc 97) 18 = .ok (.invokevirtual 220, 3) := by decide +kernel
theorem kr_97_220 : sm_at mt_k (sm_ow 97) 220 = some (220, 0, 92, 0, 1195) := by decide +kernel
theorem dc_97_21 : decode (sm_cc 97) 21 = .ok (.istore_n 3, 1) := by decide +kernel
theorem dc_97_22 : decode (sm_cc 97) 22 = .ok (.aload_n 0, 1) := by decide +kernel
theorem dc_97_23 : decode (sm_cc 97) 23 = .ok (.getfield 15, 3) := by decide +kernel
theorem fr_97_15 : sm_at mt_f (sm_ow 97) 15 = some (15, 10, 1, 0, 727) := by decide +kernel
theorem dc_97_26 : decode (sm_cc 97) 26 = .ok (.iconst 4, 1) := by decide +kernel
theorem dc_97_27 : decode (sm_cc 97) 27 = .ok (.iconst 0, 1) := by decide +kernel
theorem dc_97_28 : decode (sm_cc 97) 28 = .ok (.invokevirtual 116, 3) := by decide +kernel
theorem kr_97_116 : sm_at mt_k (sm_ow 97) 116 = some (116, 1, 54, 1, 1034) := by decide +kernel
theorem dc_97_31 : decode (sm_cc 97) 31 = .ok (.istore 4, 2) := by decide +kernel
theorem dc_97_33 : decode (sm_cc 97) 33 = .ok (.aload_n 0, 1) := by decide +kernel
theorem dc_97_34 : decode (sm_cc 97) 34 = .ok (.getfield 15, 3) := by decide +kernel
theorem dc_97_37 : decode (sm_cc 97) 37 = .ok (.iload_n 3, 1) := by decide +kernel
theorem dc_97_38 : decode (sm_cc 97) 38 = .ok (.invokevirtual 236, 3) := by decide +kernel
theorem ow_98 : 7 = sm_ow 98 := by decide +kernel
theorem kr_97_236 : sm_at mt_k (sm_ow 97) 236 = some (236, 1, 98, 1, 1221) := by decide +kernel
theorem np_98 : sm_np 98 = 1 := by decide +kernel
theorem dc_97_41 : decode (sm_cc 97) 41 = .ok (.istore 5, 2) := by decide +kernel
theorem dc_97_43 : decode (sm_cc 97) 43 = .ok (.aload_n 0, 1) := by decide +kernel
theorem dc_97_44 : decode (sm_cc 97) 44 = .ok (.getfield 19, 3) := by decide +kernel
theorem fr_97_19 : sm_at mt_f (sm_ow 97) 19 = some (19, 10, 2, 0, 728) := by decide +kernel
theorem dc_97_47 : decode (sm_cc 97) 47 = .ok (.iload 5, 2) := by decide +kernel
theorem dc_97_49 : decode (sm_cc 97) 49 = .ok (.invokevirtual 239, 3) := by decide +kernel
theorem ow_99 : 8 = sm_ow 99 := by decide +kernel
theorem kr_97_239 : sm_at mt_k (sm_ow 97) 239 = some (239, 1, 99, 1, 1225) := by decide +kernel
theorem np_99 : sm_np 99 = 1 := by decide +kernel
theorem dc_97_52 : decode (sm_cc 97) 52 = .ok (.istore 6, 2) := by decide +kernel
theorem dc_97_54 : decode (sm_cc 97) 54 = .ok (.aload_n 0, 1) := by decide +kernel
theorem dc_97_55 : decode (sm_cc 97) 55 = .ok (.iload 5, 2) := by decide +kernel
theorem dc_97_57 : decode (sm_cc 97) 57 = .ok (.invokevirtual 242, 3) := by decide +kernel
theorem ow_100 : 10 = sm_ow 100 := by decide +kernel
theorem kr_97_242 : sm_at mt_k (sm_ow 97) 242 = some (242, 0, 100, 0, 1229) := by decide +kernel
theorem np_100 : sm_np 100 = 1 := by decide +kernel
theorem dc_97_60 : decode (sm_cc 97) 60 = .ok (.aload_n 0, 1) := by decide +kernel
theorem dc_97_61 : decode (sm_cc 97) 61 = .ok (.getfield 49, 3) := by decide +kernel
theorem fr_97_49 : sm_at mt_f (sm_ow 97) 49 = some (49, 10, 9, 0, 735) := by decide +kernel
theorem dc_97_64 : decode (sm_cc 97) 64 = .ok (.istore 7, 2) := by decide +kernel
theorem dc_97_66 : decode (sm_cc 97) 66 = .ok (.aload_n 0, 1) := by decide +kernel
theorem dc_97_67 : decode (sm_cc 97) 67 = .ok (.getfield 46, 3) := by decide +kernel
theorem fr_97_46 : sm_at mt_f (sm_ow 97) 46 = some (46, 10, 8, 0, 734) := by decide +kernel
theorem dc_97_70 : decode (sm_cc 97) 70 = .ok (.istore 8, 2) := by decide +kernel
theorem dc_97_72 : decode (sm_cc 97) 72 = .ok (.aload_n 0, 1) := by decide +kernel
theorem dc_97_73 : decode (sm_cc 97) 73 = .ok (.iconst (-1), 1) := by decide +kernel
theorem dc_97_74 : decode (sm_cc 97) 74 = .ok (.putfield 49, 3) := by decide +kernel
theorem dc_97_77 : decode (sm_cc 97) 77 = .ok (.aload_n 0, 1) := by decide +kernel
theorem dc_97_78 : decode (sm_cc 97) 78 = .ok (.iconst 0, 1) := by decide +kernel
theorem dc_97_79 : decode (sm_cc 97) 79 = .ok (.putfield 46, 3) := by decide +kernel
theorem dc_97_82 : decode (sm_cc 97) 82 = .ok (.aload_n 0, 1) := by decide +kernel
theorem dc_97_83 : decode (sm_cc 97) 83 = .ok (.iload_n 2, 1) := by decide +kernel
theorem dc_97_84 : decode (sm_cc 97) 84 = .ok (.iload_n 1, 1) := by decide +kernel
theorem dc_97_85 : decode (sm_cc 97) 85 = .ok (.iconst 1, 1) := by decide +kernel
theorem dc_97_86 : decode (sm_cc 97) 86 = .ok (.iadd, 1) := by decide +kernel
theorem dc_97_87 : decode (sm_cc 97) 87 = .ok (.invokevirtual 226, 3) := by decide +kernel
theorem kr_97_226 : sm_at mt_k (sm_ow 97) 226 = some (226, 0, 84, 0, 1159) := by decide +kernel
theorem dc_97_90 : decode (sm_cc 97) 90 = .ok (.aload_n 0, 1) := by decide +kernel
theorem dc_97_91 : decode (sm_cc 97) 91 = .ok (.getfield 15, 3) := by decide +kernel
theorem dc_97_94 : decode (sm_cc 97) 94 = .ok (.ldc2_w 208, 3) := by decide +kernel
theorem cj_97_208 : sm_at mt_cj (sm_ow 97) 208 = some (208, (1152921504606846976), 1245) := by decide +kernel
theorem dc_97_97 : decode (sm_cc 97) 97 = .ok (.lconst 0, 1) := by decide +kernel
theorem dc_97_98 : decode (sm_cc 97) 98 = .ok (.invokevirtual 210, 3) := by decide +kernel
theorem kr_97_210 : sm_at mt_k (sm_ow 97) 210 = some (210, 1, 73, 1, 1246) := by decide +kernel
theorem dc_97_101 : decode (sm_cc 97) 101 = .ok (.aload_n 0, 1) := by decide +kernel
theorem dc_97_102 : decode (sm_cc 97) 102 = .ok (.getfield 15, 3) := by decide +kernel
theorem dc_97_105 : decode (sm_cc 97) 105 = .ok (.bipush (8), 2) := by decide +kernel
theorem dc_97_107 : decode (sm_cc 97) 107 = .ok (.invokevirtual 72, 3) := by decide +kernel
theorem kr_97_72 : sm_at mt_k (sm_ow 97) 72 = some (72, 1, 71, 1, 1199) := by decide +kernel
theorem dc_97_110 : decode (sm_cc 97) 110 = .ok (.pop, 1) := by decide +kernel
theorem dc_97_111 : decode (sm_cc 97) 111 = .ok (.aload_n 0, 1) := by decide +kernel
theorem dc_97_112 : decode (sm_cc 97) 112 = .ok (.iload 7, 2) := by decide +kernel
theorem dc_97_114 : decode (sm_cc 97) 114 = .ok (.putfield 49, 3) := by decide +kernel
theorem dc_97_117 : decode (sm_cc 97) 117 = .ok (.aload_n 0, 1) := by decide +kernel
theorem dc_97_118 : decode (sm_cc 97) 118 = .ok (.iload 8, 2) := by decide +kernel
theorem dc_97_120 : decode (sm_cc 97) 120 = .ok (.putfield 46, 3) := by decide +kernel
theorem dc_97_123 : decode (sm_cc 97) 123 = .ok (.aload_n 0, 1) := by decide +kernel
theorem dc_97_124 : decode (sm_cc 97) 124 = .ok (.getfield 19, 3) := by decide +kernel
theorem dc_97_127 : decode (sm_cc 97) 127 = .ok (.iload 6, 2) := by decide +kernel
theorem dc_97_129 : decode (sm_cc 97) 129 = .ok (.invokevirtual 245, 3) := by decide +kernel
theorem ow_104 : 8 = sm_ow 104 := by decide +kernel
theorem kr_97_245 : sm_at mt_k (sm_ow 97) 245 = some (245, 1, 104, 1, 1247) := by decide +kernel
theorem np_104 : sm_np 104 = 1 := by decide +kernel
theorem dc_97_132 : decode (sm_cc 97) 132 = .ok (.aload_n 0, 1) := by decide +kernel
theorem dc_97_133 : decode (sm_cc 97) 133 = .ok (.getfield 15, 3) := by decide +kernel
theorem dc_97_136 : decode (sm_cc 97) 136 = .ok (.iload 4, 2) := by decide +kernel
theorem dc_97_138 : decode (sm_cc 97) 138 = .ok (.iconst 1, 1) := by decide +kernel
theorem dc_97_139 : decode (sm_cc 97) 139 = .ok (.iadd, 1) := by decide +kernel
theorem dc_97_140 : decode (sm_cc 97) 140 = .ok (.aload_n 0, 1) := by decide +kernel
theorem dc_97_141 : decode (sm_cc 97) 141 = .ok (.getfield 15, 3) := by decide +kernel
theorem dc_97_144 : decode (sm_cc 97) 144 = .ok (.getfield 69, 3) := by decide +kernel
theorem fr_97_69 : sm_at mt_f (sm_ow 97) 69 = some (69, 7, 7, 1, 553) := by decide +kernel
theorem dc_97_147 : decode (sm_cc 97) 147 = .ok (.invokevirtual 201, 3) := by decide +kernel
theorem kr_97_201 : sm_at mt_k (sm_ow 97) 201 = some (201, 1, 83, 1, 1174) := by decide +kernel
theorem dc_97_150 : decode (sm_cc 97) 150 = .ok (.aload_n 0, 1) := by decide +kernel
theorem dc_97_151 : decode (sm_cc 97) 151 = .ok (.getfield 15, 3) := by decide +kernel
theorem dc_97_154 : decode (sm_cc 97) 154 = .ok (.bipush (22), 2) := by decide +kernel
theorem dc_97_156 : decode (sm_cc 97) 156 = .ok (.iload 5, 2) := by decide +kernel
theorem dc_97_158 : decode (sm_cc 97) 158 = .ok (.invokevirtual 116, 3) := by decide +kernel
theorem dc_97_161 : decode (sm_cc 97) 161 = .ok (.pop, 1) := by decide +kernel
theorem dc_97_162 : decode (sm_cc 97) 162 = .ok (.iload_n 3, 1) := by decide +kernel
theorem dc_97_163 : decode (sm_cc 97) 163 = .ok (.ireturn, 1) := by decide +kernel
theorem rt_97 : sm_rt 97 = some .int := by decide +kernel
theorem dc_100_0 : decode (sm_cc 100) 0 = .ok (.aload_n 0, 1) := by decide +kernel
theorem dc_100_1 : decode (sm_cc 100) 1 = .ok (.getfield 9, 3) := by decide +kernel
theorem fr_100_9 : sm_at mt_f (sm_ow 100) 9 = some (9, 10, 0, 0, 726) := by decide +kernel
theorem dc_100_4 : decode (sm_cc 100) 4 = .ok (.bipush (6), 2) := by decide +kernel
theorem dc_100_6 : decode (sm_cc 100) 6 = .ok (.invokevirtual 107, 3) := by decide +kernel
theorem kr_100_107 : sm_at mt_k (sm_ow 100) 107 = some (107, 1, 75, 1, 1167) := by decide +kernel
theorem dc_100_9 : decode (sm_cc 100) 9 = .ok (.aload_n 0, 1) := by decide +kernel
theorem dc_100_10 : decode (sm_cc 100) 10 = .ok (.getfield 9, 3) := by decide +kernel
theorem dc_100_13 : decode (sm_cc 100) 13 = .ok (.getfield 79, 3) := by decide +kernel
theorem fr_100_79 : sm_at mt_f (sm_ow 100) 79 = some (79, 3, 5, 1, 598) := by decide +kernel
theorem dc_100_16 : decode (sm_cc 100) 16 = .ok (.bipush (7), 2) := by decide +kernel
theorem dc_100_18 : decode (sm_cc 100) 18 = .ok (.if_icmp .eq (7), 3) := by decide +kernel
theorem dc_100_25 : decode (sm_cc 100) 25 = .ok (.iconst 0, 1) := by decide +kernel
theorem dc_100_26 : decode (sm_cc 100) 26 = .ok (.istore_n 2, 1) := by decide +kernel
theorem dc_100_27 : decode (sm_cc 100) 27 = .ok (.iconst 0, 1) := by decide +kernel
theorem dc_100_28 : decode (sm_cc 100) 28 = .ok (.istore_n 3, 1) := by decide +kernel
theorem dc_100_21 : decode (sm_cc 100) 21 = .ok (.iconst 1, 1) := by decide +kernel
theorem dc_100_22 : decode (sm_cc 100) 22 = .ok (.goto (4), 3) := by decide +kernel
theorem dc_100_29 : decode (sm_cc 100) 29 = .ok (.iload_n 2, 1) := by decide +kernel
theorem dc_100_30 : decode (sm_cc 100) 30 = .ok (.ifCond .eq (89), 3) := by decide +kernel
theorem dc_100_119 : decode (sm_cc 100) 119 = .ok (.iload_n 3, 1) := by decide +kernel
theorem dc_100_120 : decode (sm_cc 100) 120 = .ok (.bipush (8), 2) := by decide +kernel
theorem dc_100_122 : decode (sm_cc 100) 122 = .ok (.if_icmp .le (10), 3) := by decide +kernel
theorem dc_100_132 : decode (sm_cc 100) 132 = .ok (.aload_n 0, 1) := by decide +kernel
theorem dc_100_133 : decode (sm_cc 100) 133 = .ok (.getfield 9, 3) := by decide +kernel
theorem dc_100_136 : decode (sm_cc 100) 136 = .ok (.bipush (7), 2) := by decide +kernel
theorem dc_100_138 : decode (sm_cc 100) 138 = .ok (.invokevirtual 107, 3) := by decide +kernel
theorem dc_100_141 : decode (sm_cc 100) 141 = .ok (.return_, 1) := by decide +kernel
theorem rt_100 : sm_rt 100 = none := by decide +kernel
theorem dc_100_125 : decode (sm_cc 100) 125 = .ok (.aload_n 0, 1) := by decide +kernel
theorem dc_100_126 : decode (sm_cc 100) 126 = .ok (.getfield 9, 3) := by decide +kernel
theorem dc_100_129 : decode (sm_cc 100) 129 = .ok (.invokevirtual 76, 3) := by decide +kernel
theorem kr_100_76 : sm_at mt_k (sm_ow 100) 76 = some (76, 1, 44, 1, 1172) := by decide +kernel
theorem dc_100_33 : decode (sm_cc 100) 33 = .ok (.iload_n 3, 1) := by decide +kernel
theorem dc_100_34 : decode (sm_cc 100) 34 = .ok (.bipush (8), 2) := by decide +kernel
theorem dc_100_36 : decode (sm_cc 100) 36 = .ok (.if_icmp .gt (83), 3) := by decide +kernel
theorem dc_100_39 : decode (sm_cc 100) 39 = .ok (.aload_n 0, 1) := by decide +kernel
theorem dc_100_40 : decode (sm_cc 100) 40 = .ok (.invokevirtual 220, 3) := by decide +kernel
theorem kr_100_220 : sm_at mt_k (sm_ow 100) 220 = some (220, 0, 92, 0, 1195) := by decide +kernel
theorem dc_100_43 : decode (sm_cc 100) 43 = .ok (.istore 4, 2) := by decide +kernel
theorem dc_100_45 : decode (sm_cc 100) 45 = .ok (.aload_n 0, 1) := by decide +kernel
theorem dc_100_46 : decode (sm_cc 100) 46 = .ok (.getfield 9, 3) := by decide +kernel
theorem dc_100_49 : decode (sm_cc 100) 49 = .ok (.getfield 79, 3) := by decide +kernel
theorem dc_100_52 : decode (sm_cc 100) 52 = .ok (.ifCond .eq (22), 3) := by decide +kernel
theorem dc_100_74 : decode (sm_cc 100) 74 = .ok (.aload_n 0, 1) := by decide +kernel
theorem dc_100_75 : decode (sm_cc 100) 75 = .ok (.getfield 15, 3) := by decide +kernel
theorem fr_100_15 : sm_at mt_f (sm_ow 100) 15 = some (15, 10, 1, 0, 727) := by decide +kernel
theorem dc_100_78 : decode (sm_cc 100) 78 = .ok (.iload_n 1, 1) := by decide +kernel
theorem dc_100_79 : decode (sm_cc 100) 79 = .ok (.invokevirtual 251, 3) := by decide +kernel
theorem ow_102 : 7 = sm_ow 102 := by decide +kernel
theorem kr_100_251 : sm_at mt_k (sm_ow 100) 251 = some (251, 1, 102, 1, 1237) := by decide +kernel
theorem np_102 : sm_np 102 = 1 := by decide +kernel
theorem dc_100_82 : decode (sm_cc 100) 82 = .ok (.iinc 3 (1), 3) := by decide +kernel
theorem dc_100_85 : decode (sm_cc 100) 85 = .ok (.aload_n 0, 1) := by decide +kernel
theorem dc_100_86 : decode (sm_cc 100) 86 = .ok (.getfield 9, 3) := by decide +kernel
theorem dc_100_89 : decode (sm_cc 100) 89 = .ok (.getfield 79, 3) := by decide +kernel
theorem dc_100_92 : decode (sm_cc 100) 92 = .ok (.bipush (12), 2) := by decide +kernel
theorem dc_100_94 : decode (sm_cc 100) 94 = .ok (.if_icmp .ne (7), 3) := by decide +kernel
theorem dc_100_101 : decode (sm_cc 100) 101 = .ok (.iconst 0, 1) := by decide +kernel
theorem dc_100_102 : decode (sm_cc 100) 102 = .ok (.istore_n 2, 1) := by decide +kernel
theorem dc_100_103 : decode (sm_cc 100) 103 = .ok (.iload_n 2, 1) := by decide +kernel
theorem dc_100_104 : decode (sm_cc 100) 104 = .ok (.ifCond .eq (12), 3) := by decide +kernel
theorem dc_100_116 : decode (sm_cc 100) 116 = .ok (.goto (-87), 3) := by decide +kernel
theorem dc_100_97 : decode (sm_cc 100) 97 = .ok (.iconst 1, 1) := by decide +kernel
theorem dc_100_98 : decode (sm_cc 100) 98 = .ok (.goto (4), 3) := by decide +kernel
theorem dc_100_107 : decode (sm_cc 100) 107 = .ok (.aload_n 0, 1) := by decide +kernel
theorem dc_100_108 : decode (sm_cc 100) 108 = .ok (.getfield 9, 3) := by decide +kernel
theorem dc_100_111 : decode (sm_cc 100) 111 = .ok (.bipush (12), 2) := by decide +kernel
theorem dc_100_113 : decode (sm_cc 100) 113 = .ok (.invokevirtual 107, 3) := by decide +kernel
theorem dc_100_55 : decode (sm_cc 100) 55 = .ok (.aload_n 0, 1) := by decide +kernel
theorem dc_100_56 : decode (sm_cc 100) 56 = .ok (.getfield 19, 3) := by decide +kernel
theorem fr_100_19 : sm_at mt_f (sm_ow 100) 19 = some (19, 10, 2, 0, 728) := by decide +kernel
theorem dc_100_59 : decode (sm_cc 100) 59 = .ok (.iload 4, 2) := by decide +kernel
theorem dc_100_61 : decode (sm_cc 100) 61 = .ok (.invokevirtual 248, 3) := by decide +kernel
theorem ow_101 : 8 = sm_ow 101 := by decide +kernel
theorem kr_100_248 : sm_at mt_k (sm_ow 100) 248 = some (248, 1, 101, 1, 1233) := by decide +kernel
theorem np_101 : sm_np 101 = 1 := by decide +kernel
theorem dc_100_64 : decode (sm_cc 100) 64 = .ok (.ifCond .ne (10), 3) := by decide +kernel
theorem dc_100_67 : decode (sm_cc 100) 67 = .ok (.aload_n 0, 1) := by decide +kernel
theorem dc_100_68 : decode (sm_cc 100) 68 = .ok (.getfield 9, 3) := by decide +kernel
theorem dc_100_71 : decode (sm_cc 100) 71 = .ok (.invokevirtual 76, 3) := by decide +kernel
theorem dc_105_0 : decode (sm_cc 105) 0 = .ok (.aload_n 0, 1) := by decide +kernel
theorem dc_105_1 : decode (sm_cc 105) 1 = .ok (.getfield 9, 3) := by decide +kernel
theorem fr_105_9 : sm_at mt_f (sm_ow 105) 9 = some (9, 10, 0, 0, 726) := by decide +kernel
theorem dc_105_4 : decode (sm_cc 105) 4 = .ok (.getfield 96, 3) := by decide +kernel
theorem fr_105_96 : sm_at mt_f (sm_ow 105) 96 = some (96, 3, 8, 1, 602) := by decide +kernel
theorem dc_105_7 : decode (sm_cc 105) 7 = .ok (.istore_n 2, 1) := by decide +kernel
theorem dc_105_8 : decode (sm_cc 105) 8 = .ok (.aload_n 0, 1) := by decide +kernel
theorem dc_105_9 : decode (sm_cc 105) 9 = .ok (.getfield 9, 3) := by decide +kernel
theorem dc_105_12 : decode (sm_cc 105) 12 = .ok (.getfield 113, 3) := by decide +kernel
theorem fr_105_113 : sm_at mt_f (sm_ow 105) 113 = some (113, 3, 6, 1, 600) := by decide +kernel
theorem dc_105_15 : decode (sm_cc 105) 15 = .ok (.istore_n 3, 1) := by decide +kernel
theorem dc_105_16 : decode (sm_cc 105) 16 = .ok (.aload_n 0, 1) := by decide +kernel
theorem dc_105_17 : decode (sm_cc 105) 17 = .ok (.getfield 9, 3) := by decide +kernel
theorem dc_105_20 : decode (sm_cc 105) 20 = .ok (.bipush (47), 2) := by decide +kernel
theorem dc_105_22 : decode (sm_cc 105) 22 = .ok (.invokevirtual 107, 3) := by decide +kernel
theorem kr_105_107 : sm_at mt_k (sm_ow 105) 107 = some (107, 1, 75, 1, 1167) := by decide +kernel
theorem dc_105_25 : decode (sm_cc 105) 25 = .ok (.aload_n 0, 1) := by decide +kernel
theorem dc_105_26 : decode (sm_cc 105) 26 = .ok (.invokevirtual 220, 3) := by decide +kernel
theorem kr_105_220 : sm_at mt_k (sm_ow 105) 220 = some (220, 0, 92, 0, 1195) := by decide +kernel
theorem dc_105_29 : decode (sm_cc 105) 29 = .ok (.istore 4, 2) := by decide +kernel
theorem dc_105_31 : decode (sm_cc 105) 31 = .ok (.aload_n 0, 1) := by decide +kernel
theorem dc_105_32 : decode (sm_cc 105) 32 = .ok (.getfield 9, 3) := by decide +kernel
theorem dc_105_35 : decode (sm_cc 105) 35 = .ok (.getfield 79, 3) := by decide +kernel
theorem fr_105_79 : sm_at mt_f (sm_ow 105) 79 = some (79, 3, 5, 1, 598) := by decide +kernel
theorem dc_105_38 : decode (sm_cc 105) 38 = .ok (.bipush (6), 2) := by decide +kernel
theorem dc_105_40 : decode (sm_cc 105) 40 = .ok (.if_icmp .ne (7), 3) := by decide +kernel
theorem dc_105_47 : decode (sm_cc 105) 47 = .ok (.iconst 0, 1) := by decide +kernel
theorem dc_105_48 : decode (sm_cc 105) 48 = .ok (.istore 5, 2) := by decide +kernel
theorem dc_105_50 : decode (sm_cc 105) 50 = .ok (.iload 4, 2) := by decide +kernel
theorem dc_105_52 : decode (sm_cc 105) 52 = .ok (.istore 6, 2) := by decide +kernel
theorem dc_105_54 : decode (sm_cc 105) 54 = .ok (.iload 5, 2) := by decide +kernel
theorem dc_105_56 : decode (sm_cc 105) 56 = .ok (.ifCond .eq (27), 3) := by decide +kernel
theorem dc_105_83 : decode (sm_cc 105) 83 = .ok (.aload_n 0, 1) := by decide +kernel
theorem dc_105_84 : decode (sm_cc 105) 84 = .ok (.getfield 42, 3) := by decide +kernel
theorem fr_105_42 : sm_at mt_f (sm_ow 105) 42 = some (42, 10, 5, 0, 731) := by decide +kernel
theorem dc_105_87 : decode (sm_cc 105) 87 = .ok (.istore 7, 2) := by decide +kernel
theorem dc_105_89 : decode (sm_cc 105) 89 = .ok (.aload_n 0, 1) := by decide +kernel
theorem dc_105_90 : decode (sm_cc 105) 90 = .ok (.iload_n 2, 1) := by decide +kernel
theorem dc_105_91 : decode (sm_cc 105) 91 = .ok (.iload_n 1, 1) := by decide +kernel
theorem dc_105_92 : decode (sm_cc 105) 92 = .ok (.iconst 1, 1) := by decide +kernel
theorem dc_105_93 : decode (sm_cc 105) 93 = .ok (.iadd, 1) := by decide +kernel
theorem dc_105_94 : decode (sm_cc 105) 94 = .ok (.invokevirtual 99, 3) := by decide +kernel
theorem kr_105_99 : sm_at mt_k (sm_ow 105) 99 = some (99, 0, 85, 0, 1163) := by decide +kernel
theorem dc_105_97 : decode (sm_cc 105) 97 = .ok (.ifCond .eq (19), 3) := by decide +kernel
theorem dc_105_100 : decode (sm_cc 105) 100 = .ok (.aload_n 0, 1) := by decide +kernel
theorem dc_105_101 : decode (sm_cc 105) 101 = .ok (.aload_n 0, 1) := by decide +kernel
theorem dc_105_102 : decode (sm_cc 105) 102 = .ok (.getfield 9, 3) := by decide +kernel
theorem dc_105_105 : decode (sm_cc 105) 105 = .ok (.getfield 96, 3) := by decide +kernel
theorem dc_105_108 : decode (sm_cc 105) 108 = .ok (.iload_n 1, 1) := by decide +kernel
theorem dc_105_109 : decode (sm_cc 105) 109 = .ok (.iconst 1, 1) := by decide +kernel
theorem dc_105_110 : decode (sm_cc 105) 110 = .ok (.iadd, 1) := by decide +kernel
theorem dc_105_111 : decode (sm_cc 105) 111 = .ok (.iload 7, 2) := by decide +kernel
theorem dc_105_113 : decode (sm_cc 105) 113 = .ok (.invokevirtual 254, 3) := by decide +kernel
theorem ow_106 : 10 = sm_ow 106 := by decide +kernel
theorem kr_105_254 : sm_at mt_k (sm_ow 105) 254 = some (254, 0, 106, 0, 1255) := by decide +kernel
theorem np_106 : sm_np 106 = 3 := by decide +kernel
theorem dc_105_116 : decode (sm_cc 105) 116 = .ok (.aload_n 0, 1) := by decide +kernel
theorem dc_105_117 : decode (sm_cc 105) 117 = .ok (.getfield 15, 3) := by decide +kernel
theorem fr_105_15 : sm_at mt_f (sm_ow 105) 15 = some (15, 10, 1, 0, 727) := by decide +kernel
theorem dc_105_120 : decode (sm_cc 105) 120 = .ok (.iconst 3, 1) := by decide +kernel
theorem dc_105_121 : decode (sm_cc 105) 121 = .ok (.iload_n 3, 1) := by decide +kernel
theorem dc_105_122 : decode (sm_cc 105) 122 = .ok (.invokevirtual 116, 3) := by decide +kernel
theorem kr_105_116 : sm_at mt_k (sm_ow 105) 116 = some (116, 1, 54, 1, 1034) := by decide +kernel
theorem dc_105_125 : decode (sm_cc 105) 125 = .ok (.pop, 1) := by decide +kernel
theorem dc_105_126 : decode (sm_cc 105) 126 = .ok (.iload 5, 2) := by decide +kernel
theorem dc_105_128 : decode (sm_cc 105) 128 = .ok (.ifCond .eq (15), 3) := by decide +kernel
theorem dc_105_143 : decode (sm_cc 105) 143 = .ok (.aload_n 0, 1) := by decide +kernel
theorem dc_105_144 : decode (sm_cc 105) 144 = .ok (.getfield 15, 3) := by decide +kernel
theorem dc_105_147 : decode (sm_cc 105) 147 = .ok (.bipush (23), 2) := by decide +kernel
theorem dc_105_149 : decode (sm_cc 105) 149 = .ok (.iload 4, 2) := by decide +kernel
theorem dc_105_151 : decode (sm_cc 105) 151 = .ok (.iload 5, 2) := by decide +kernel
theorem dc_105_153 : decode (sm_cc 105) 153 = .ok (.ifCond .eq (7), 3) := by decide +kernel
theorem dc_105_160 : decode (sm_cc 105) 160 = .ok (.iconst 0, 1) := by decide +kernel
theorem dc_105_161 : decode (sm_cc 105) 161 = .ok (.invokevirtual 257, 3) := by decide +kernel
theorem kr_105_257 : sm_at mt_k (sm_ow 105) 257 = some (257, 1, 68, 1, 1263) := by decide +kernel
theorem dc_105_164 : decode (sm_cc 105) 164 = .ok (.pop, 1) := by decide +kernel
theorem dc_105_165 : decode (sm_cc 105) 165 = .ok (.aload_n 0, 1) := by decide +kernel
theorem dc_105_166 : decode (sm_cc 105) 166 = .ok (.getfield 15, 3) := by decide +kernel
theorem dc_105_169 : decode (sm_cc 105) 169 = .ok (.aload_n 0, 1) := by decide +kernel
theorem dc_105_170 : decode (sm_cc 105) 170 = .ok (.getfield 42, 3) := by decide +kernel
theorem dc_105_173 : decode (sm_cc 105) 173 = .ok (.iload 7, 2) := by decide +kernel
theorem dc_105_175 : decode (sm_cc 105) 175 = .ok (.isub, 1) := by decide +kernel
theorem dc_105_176 : decode (sm_cc 105) 176 = .ok (.invokevirtual 72, 3) := by decide +kernel
theorem kr_105_72 : sm_at mt_k (sm_ow 105) 72 = some (72, 1, 71, 1, 1199) := by decide +kernel
theorem dc_105_179 : decode (sm_cc 105) 179 = .ok (.pop, 1) := by decide +kernel
theorem dc_105_180 : decode (sm_cc 105) 180 = .ok (.iload 7, 2) := by decide +kernel
theorem dc_105_182 : decode (sm_cc 105) 182 = .ok (.istore 8, 2) := by decide +kernel
theorem dc_105_43 : decode (sm_cc 105) 43 = .ok (.iconst 1, 1) := by decide +kernel
theorem dc_105_44 : decode (sm_cc 105) 44 = .ok (.goto (4), 3) := by decide +kernel
theorem dc_105_59 : decode (sm_cc 105) 59 = .ok (.aload_n 0, 1) := by decide +kernel
theorem dc_105_60 : decode (sm_cc 105) 60 = .ok (.getfield 9, 3) := by decide +kernel
theorem dc_105_63 : decode (sm_cc 105) 63 = .ok (.bipush (6), 2) := by decide +kernel
theorem dc_105_65 : decode (sm_cc 105) 65 = .ok (.invokevirtual 107, 3) := by decide +kernel
theorem dc_105_68 : decode (sm_cc 105) 68 = .ok (.aload_n 0, 1) := by decide +kernel
theorem dc_105_69 : decode (sm_cc 105) 69 = .ok (.invokevirtual 220, 3) := by decide +kernel
theorem dc_105_72 : decode (sm_cc 105) 72 = .ok (.istore 6, 2) := by decide +kernel
theorem dc_105_74 : decode (sm_cc 105) 74 = .ok (.aload_n 0, 1) := by decide +kernel
theorem dc_105_75 : decode (sm_cc 105) 75 = .ok (.getfield 9, 3) := by decide +kernel
theorem dc_105_78 : decode (sm_cc 105) 78 = .ok (.bipush (7), 2) := by decide +kernel
theorem dc_105_80 : decode (sm_cc 105) 80 = .ok (.invokevirtual 107, 3) := by decide +kernel
theorem dc_105_131 : decode (sm_cc 105) 131 = .ok (.aload_n 0, 1) := by decide +kernel
theorem dc_105_132 : decode (sm_cc 105) 132 = .ok (.getfield 19, 3) := by decide +kernel
theorem fr_105_19 : sm_at mt_f (sm_ow 105) 19 = some (19, 10, 2, 0, 728) := by decide +kernel
theorem dc_105_135 : decode (sm_cc 105) 135 = .ok (.bipush (18), 2) := by decide +kernel
theorem dc_105_137 : decode (sm_cc 105) 137 = .ok (.iload 6, 2) := by decide +kernel
theorem dc_105_139 : decode (sm_cc 105) 139 = .ok (.invokevirtual 165, 3) := by decide +kernel
theorem kr_105_165 : sm_at mt_k (sm_ow 105) 165 = some (165, 1, 67, 1, 1216) := by decide +kernel
theorem dc_105_142 : decode (sm_cc 105) 142 = .ok (.pop, 1) := by decide +kernel
theorem dc_105_156 : decode (sm_cc 105) 156 = .ok (.iconst 1, 1) := by decide +kernel
theorem dc_105_157 : decode (sm_cc 105) 157 = .ok (.goto (4), 3) := by decide +kernel
theorem dc_105_184 : decode (sm_cc 105) 184 = .ok (.iload 8, 2) := by decide +kernel
theorem dc_105_186 : decode (sm_cc 105) 186 = .ok (.aload_n 0, 1) := by decide +kernel
theorem dc_105_187 : decode (sm_cc 105) 187 = .ok (.getfield 42, 3) := by decide +kernel
theorem dc_105_190 : decode (sm_cc 105) 190 = .ok (.if_icmp .ge (34), 3) := by decide +kernel
theorem dc_105_224 : decode (sm_cc 105) 224 = .ok (.aload_n 0, 1) := by decide +kernel
theorem dc_105_225 : decode (sm_cc 105) 225 = .ok (.iload 7, 2) := by decide +kernel
theorem dc_105_227 : decode (sm_cc 105) 227 = .ok (.putfield 42, 3) := by decide +kernel
theorem dc_105_230 : decode (sm_cc 105) 230 = .ok (.aload_n 0, 1) := by decide +kernel
theorem dc_105_231 : decode (sm_cc 105) 231 = .ok (.iload 4, 2) := by decide +kernel
theorem dc_105_233 : decode (sm_cc 105) 233 = .ok (.invokevirtual 131, 3) := by decide +kernel
theorem kr_105_131 : sm_at mt_k (sm_ow 105) 131 = some (131, 0, 93, 0, 1200) := by decide +kernel
theorem dc_105_236 : decode (sm_cc 105) 236 = .ok (.return_, 1) := by decide +kernel
theorem rt_105 : sm_rt 105 = none := by decide +kernel
theorem dc_105_193 : decode (sm_cc 105) 193 = .ok (.iload 8, 2) := by decide +kernel
theorem dc_105_195 : decode (sm_cc 105) 195 = .ok (.aload_n 0, 1) := by decide +kernel
theorem dc_105_196 : decode (sm_cc 105) 196 = .ok (.getfield 27, 3) := by decide +kernel
theorem fr_105_27 : sm_at mt_f (sm_ow 105) 27 = some (27, 10, 4, 0, 730) := by decide +kernel
theorem dc_105_199 : decode (sm_cc 105) 199 = .ok (.arraylength, 1) := by decide +kernel
theorem dc_105_200 : decode (sm_cc 105) 200 = .ok (.if_icmp .ge (24), 3) := by decide +kernel
theorem dc_105_203 : decode (sm_cc 105) 203 = .ok (.aload_n 0, 1) := by decide +kernel
theorem dc_105_204 : decode (sm_cc 105) 204 = .ok (.getfield 15, 3) := by decide +kernel
theorem dc_105_207 : decode (sm_cc 105) 207 = .ok (.aload_n 0, 1) := by decide +kernel
theorem dc_105_208 : decode (sm_cc 105) 208 = .ok (.getfield 27, 3) := by decide +kernel
theorem dc_105_211 : decode (sm_cc 105) 211 = .ok (.iload 8, 2) := by decide +kernel
theorem dc_105_213 : decode (sm_cc 105) 213 = .ok (.iaload, 1) := by decide +kernel
theorem dc_105_214 : decode (sm_cc 105) 214 = .ok (.invokevirtual 72, 3) := by decide +kernel
theorem dc_105_217 : decode (sm_cc 105) 217 = .ok (.pop, 1) := by decide +kernel
theorem dc_105_218 : decode (sm_cc 105) 218 = .ok (.iinc 8 (1), 3) := by decide +kernel
theorem dc_105_221 : decode (sm_cc 105) 221 = .ok (.goto (-37), 3) := by decide +kernel
theorem dc_106_0 : decode (sm_cc 106) 0 = .ok (.iconst 0, 1) := by decide +kernel
theorem dc_106_1 : decode (sm_cc 106) 1 = .ok (.istore 4, 2) := by decide +kernel
theorem dc_106_3 : decode (sm_cc 106) 3 = .ok (.iload 4, 2) := by decide +kernel
theorem dc_106_5 : decode (sm_cc 106) 5 = .ok (.sipush (3000), 3) := by decide +kernel
theorem dc_106_8 : decode (sm_cc 106) 8 = .ok (.if_icmp .gt (126), 3) := by decide +kernel
theorem dc_106_134 : decode (sm_cc 106) 134 = .ok (.aload_n 0, 1) := by decide +kernel
theorem dc_106_135 : decode (sm_cc 106) 135 = .ok (.getfield 9, 3) := by decide +kernel
theorem fr_106_9 : sm_at mt_f (sm_ow 106) 9 = some (9, 10, 0, 0, 726) := by decide +kernel
theorem dc_106_138 : decode (sm_cc 106) 138 = .ok (.getfield 96, 3) := by decide +kernel
theorem fr_106_96 : sm_at mt_f (sm_ow 106) 96 = some (96, 3, 8, 1, 602) := by decide +kernel
theorem dc_106_141 : decode (sm_cc 106) 141 = .ok (.iload_n 1, 1) := by decide +kernel
theorem dc_106_142 : decode (sm_cc 106) 142 = .ok (.if_icmp .le (10), 3) := by decide +kernel
theorem dc_106_152 : decode (sm_cc 106) 152 = .ok (.return_, 1) := by decide +kernel
theorem rt_106 : sm_rt 106 = none := by decide +kernel
theorem dc_106_145 : decode (sm_cc 106) 145 = .ok (.aload_n 0, 1) := by decide +kernel
theorem dc_106_146 : decode (sm_cc 106) 146 = .ok (.getfield 9, 3) := by decide +kernel
theorem dc_106_149 : decode (sm_cc 106) 149 = .ok (.invokevirtual 76, 3) := by decide +kernel
theorem kr_106_76 : sm_at mt_k (sm_ow 106) 76 = some (76, 1, 44, 1, 1172) := by decide +kernel
theorem dc_106_11 : decode (sm_cc 106) 11 = .ok (.aload_n 0, 1) := by decide +kernel
theorem dc_106_12 : decode (sm_cc 106) 12 = .ok (.iload_n 1, 1) := by decide +kernel
theorem dc_106_13 : decode (sm_cc 106) 13 = .ok (.invokevirtual 89, 3) := by decide +kernel
theorem kr_106_89 : sm_at mt_k (sm_ow 106) 89 = some (89, 0, 52, 0, 1026) := by decide +kernel
theorem dc_106_16 : decode (sm_cc 106) 16 = .ok (.ifCond .eq (118), 3) := by decide +kernel
theorem dc_106_19 : decode (sm_cc 106) 19 = .ok (.aload_n 0, 1) := by decide +kernel
theorem dc_106_20 : decode (sm_cc 106) 20 = .ok (.getfield 15, 3) := by decide +kernel
theorem fr_106_15 : sm_at mt_f (sm_ow 106) 15 = some (15, 10, 1, 0, 727) := by decide +kernel
theorem dc_106_23 : decode (sm_cc 106) 23 = .ok (.iconst 1, 1) := by decide +kernel
theorem dc_106_24 : decode (sm_cc 106) 24 = .ok (.aload_n 0, 1) := by decide +kernel
theorem dc_106_25 : decode (sm_cc 106) 25 = .ok (.getfield 9, 3) := by decide +kernel
theorem dc_106_28 : decode (sm_cc 106) 28 = .ok (.getfield 113, 3) := by decide +kernel
theorem fr_106_113 : sm_at mt_f (sm_ow 106) 113 = some (113, 3, 6, 1, 600) := by decide +kernel
theorem dc_106_31 : decode (sm_cc 106) 31 = .ok (.invokevirtual 116, 3) := by decide +kernel
theorem kr_106_116 : sm_at mt_k (sm_ow 106) 116 = some (116, 1, 54, 1, 1034) := by decide +kernel
theorem dc_106_34 : decode (sm_cc 106) 34 = .ok (.pop, 1) := by decide +kernel
theorem dc_106_35 : decode (sm_cc 106) 35 = .ok (.aload_n 0, 1) := by decide +kernel
theorem dc_106_36 : decode (sm_cc 106) 36 = .ok (.getfield 9, 3) := by decide +kernel
theorem dc_106_39 : decode (sm_cc 106) 39 = .ok (.getfield 79, 3) := by decide +kernel
theorem fr_106_79 : sm_at mt_f (sm_ow 106) 79 = some (79, 3, 5, 1, 598) := by decide +kernel
theorem dc_106_42 : decode (sm_cc 106) 42 = .ok (.bipush (46), 2) := by decide +kernel
theorem dc_106_44 : decode (sm_cc 106) 44 = .ok (.if_icmp .ne (16), 3) := by decide +kernel
theorem dc_106_60 : decode (sm_cc 106) 60 = .ok (.aload_n 0, 1) := by decide +kernel
theorem dc_106_61 : decode (sm_cc 106) 61 = .ok (.getfield 9, 3) := by decide +kernel
theorem dc_106_64 : decode (sm_cc 106) 64 = .ok (.getfield 79, 3) := by decide +kernel
theorem dc_106_67 : decode (sm_cc 106) 67 = .ok (.bipush (51), 2) := by decide +kernel
theorem dc_106_69 : decode (sm_cc 106) 69 = .ok (.if_icmp .ne (22), 3) := by decide +kernel
theorem dc_106_91 : decode (sm_cc 106) 91 = .ok (.aload_n 0, 1) := by decide +kernel
theorem dc_106_92 : decode (sm_cc 106) 92 = .ok (.invokevirtual 220, 3) := by decide +kernel
theorem kr_106_220 : sm_at mt_k (sm_ow 106) 220 = some (220, 0, 92, 0, 1195) := by decide +kernel
theorem dc_106_95 : decode (sm_cc 106) 95 = .ok (.istore 5, 2) := by decide +kernel
theorem dc_106_97 : decode (sm_cc 106) 97 = .ok (.aload_n 0, 1) := by decide +kernel
theorem dc_106_98 : decode (sm_cc 106) 98 = .ok (.getfield 9, 3) := by decide +kernel
theorem dc_106_101 : decode (sm_cc 106) 101 = .ok (.bipush (19), 2) := by decide +kernel
theorem dc_106_103 : decode (sm_cc 106) 103 = .ok (.invokevirtual 107, 3) := by decide +kernel
theorem kr_106_107 : sm_at mt_k (sm_ow 106) 107 = some (107, 1, 75, 1, 1167) := by decide +kernel
theorem dc_106_106 : decode (sm_cc 106) 106 = .ok (.aload_n 0, 1) := by decide +kernel
theorem dc_106_107 : decode (sm_cc 106) 107 = .ok (.getfield 23, 3) := by decide +kernel
theorem fr_106_23 : sm_at mt_f (sm_ow 106) 23 = some (23, 10, 3, 0, 729) := by decide +kernel
theorem dc_106_110 : decode (sm_cc 106) 110 = .ok (.iconst 0, 1) := by decide +kernel
theorem dc_106_111 : decode (sm_cc 106) 111 = .ok (.invokevirtual 169, 3) := by decide +kernel
theorem kr_106_169 : sm_at mt_k (sm_ow 106) 169 = some (169, 1, 57, 1, 1047) := by decide +kernel
theorem dc_106_114 : decode (sm_cc 106) 114 = .ok (.aload_n 0, 1) := by decide +kernel
theorem dc_106_115 : decode (sm_cc 106) 115 = .ok (.iload 5, 2) := by decide +kernel
theorem dc_106_117 : decode (sm_cc 106) 117 = .ok (.iload_n 3, 1) := by decide +kernel
theorem dc_106_118 : decode (sm_cc 106) 118 = .ok (.invokevirtual 260, 3) := by decide +kernel
theorem ow_107 : 10 = sm_ow 107 := by decide +kernel
theorem kr_106_260 : sm_at mt_k (sm_ow 106) 260 = some (260, 0, 107, 0, 1259) := by decide +kernel
theorem np_107 : sm_np 107 = 2 := by decide +kernel
theorem dc_106_121 : decode (sm_cc 106) 121 = .ok (.aload_n 0, 1) := by decide +kernel
theorem dc_106_122 : decode (sm_cc 106) 122 = .ok (.getfield 9, 3) := by decide +kernel
theorem dc_106_125 : decode (sm_cc 106) 125 = .ok (.invokevirtual 110, 3) := by decide +kernel
theorem kr_106_110 : sm_at mt_k (sm_ow 106) 110 = some (110, 1, 86, 1, 1168) := by decide +kernel
theorem dc_106_128 : decode (sm_cc 106) 128 = .ok (.iinc 4 (1), 3) := by decide +kernel
theorem dc_106_131 : decode (sm_cc 106) 131 = .ok (.goto (-128), 3) := by decide +kernel
theorem dc_106_72 : decode (sm_cc 106) 72 = .ok (.aload_n 0, 1) := by decide +kernel
theorem dc_106_73 : decode (sm_cc 106) 73 = .ok (.getfield 9, 3) := by decide +kernel
theorem dc_106_76 : decode (sm_cc 106) 76 = .ok (.bipush (51), 2) := by decide +kernel
theorem dc_106_78 : decode (sm_cc 106) 78 = .ok (.invokevirtual 107, 3) := by decide +kernel
theorem dc_106_81 : decode (sm_cc 106) 81 = .ok (.aload_n 0, 1) := by decide +kernel
theorem dc_106_82 : decode (sm_cc 106) 82 = .ok (.getfield 9, 3) := by decide +kernel
theorem dc_106_85 : decode (sm_cc 106) 85 = .ok (.invokevirtual 110, 3) := by decide +kernel
theorem dc_106_88 : decode (sm_cc 106) 88 = .ok (.goto (40), 3) := by decide +kernel
theorem dc_106_47 : decode (sm_cc 106) 47 = .ok (.aload_n 0, 1) := by decide +kernel
theorem dc_106_48 : decode (sm_cc 106) 48 = .ok (.aload_n 0, 1) := by decide +kernel
theorem dc_106_49 : decode (sm_cc 106) 49 = .ok (.iload_n 2, 1) := by decide +kernel
theorem dc_106_50 : decode (sm_cc 106) 50 = .ok (.invokevirtual 128, 3) := by decide +kernel
theorem kr_106_128 : sm_at mt_k (sm_ow 106) 128 = some (128, 0, 97, 0, 1217) := by decide +kernel
theorem dc_106_53 : decode (sm_cc 106) 53 = .ok (.iload_n 3, 1) := by decide +kernel
theorem dc_106_54 : decode (sm_cc 106) 54 = .ok (.invokevirtual 260, 3) := by decide +kernel
theorem dc_106_57 : decode (sm_cc 106) 57 = .ok (.goto (71), 3) := by decide +kernel
theorem dc_107_0 : decode (sm_cc 107) 0 = .ok (.iload_n 2, 1) := by decide +kernel
theorem dc_107_1 : decode (sm_cc 107) 1 = .ok (.istore_n 3, 1) := by decide +kernel
theorem dc_107_2 : decode (sm_cc 107) 2 = .ok (.iload_n 3, 1) := by decide +kernel
theorem dc_107_3 : decode (sm_cc 107) 3 = .ok (.aload_n 0, 1) := by decide +kernel
theorem dc_107_4 : decode (sm_cc 107) 4 = .ok (.getfield 42, 3) := by decide +kernel
theorem fr_107_42 : sm_at mt_f (sm_ow 107) 42 = some (42, 10, 5, 0, 731) := by decide +kernel
theorem dc_107_7 : decode (sm_cc 107) 7 = .ok (.if_icmp .ge (45), 3) := by decide +kernel
theorem dc_107_52 : decode (sm_cc 107) 52 = .ok (.aload_n 0, 1) := by decide +kernel
theorem dc_107_53 : decode (sm_cc 107) 53 = .ok (.getfield 42, 3) := by decide +kernel
theorem dc_107_56 : decode (sm_cc 107) 56 = .ok (.iload_n 2, 1) := by decide +kernel
theorem dc_107_57 : decode (sm_cc 107) 57 = .ok (.isub, 1) := by decide +kernel
theorem dc_107_58 : decode (sm_cc 107) 58 = .ok (.bipush (40), 2) := by decide +kernel
theorem dc_107_60 : decode (sm_cc 107) 60 = .ok (.if_icmp .ge (15), 3) := by decide +kernel
theorem dc_107_75 : decode (sm_cc 107) 75 = .ok (.aload_n 0, 1) := by decide +kernel
theorem dc_107_76 : decode (sm_cc 107) 76 = .ok (.getfield 15, 3) := by decide +kernel
theorem fr_107_15 : sm_at mt_f (sm_ow 107) 15 = some (15, 10, 1, 0, 727) := by decide +kernel
theorem dc_107_79 : decode (sm_cc 107) 79 = .ok (.bipush (15), 2) := by decide +kernel
theorem dc_107_81 : decode (sm_cc 107) 81 = .ok (.bipush (8), 2) := by decide +kernel
theorem dc_107_83 : decode (sm_cc 107) 83 = .ok (.invokevirtual 116, 3) := by decide +kernel
theorem kr_107_116 : sm_at mt_k (sm_ow 107) 116 = some (116, 1, 54, 1, 1034) := by decide +kernel
theorem dc_107_86 : decode (sm_cc 107) 86 = .ok (.pop, 1) := by decide +kernel
theorem dc_107_87 : decode (sm_cc 107) 87 = .ok (.return_, 1) := by decide +kernel
theorem rt_107 : sm_rt 107 = none := by decide +kernel
theorem dc_107_63 : decode (sm_cc 107) 63 = .ok (.aload_n 0, 1) := by decide +kernel
theorem dc_107_64 : decode (sm_cc 107) 64 = .ok (.getfield 42, 3) := by decide +kernel
theorem dc_107_67 : decode (sm_cc 107) 67 = .ok (.aload_n 0, 1) := by decide +kernel
theorem dc_107_68 : decode (sm_cc 107) 68 = .ok (.getfield 27, 3) := by decide +kernel
theorem fr_107_27 : sm_at mt_f (sm_ow 107) 27 = some (27, 10, 4, 0, 730) := by decide +kernel
theorem dc_107_71 : decode (sm_cc 107) 71 = .ok (.arraylength, 1) := by decide +kernel
theorem dc_107_72 : decode (sm_cc 107) 72 = .ok (.if_icmp .lt (16), 3) := by decide +kernel
theorem dc_107_88 : decode (sm_cc 107) 88 = .ok (.aload_n 0, 1) := by decide +kernel
theorem dc_107_89 : decode (sm_cc 107) 89 = .ok (.getfield 27, 3) := by decide +kernel
theorem dc_107_92 : decode (sm_cc 107) 92 = .ok (.aload_n 0, 1) := by decide +kernel
theorem dc_107_93 : decode (sm_cc 107) 93 = .ok (.getfield 42, 3) := by decide +kernel
theorem dc_107_96 : decode (sm_cc 107) 96 = .ok (.iload_n 1, 1) := by decide +kernel
theorem dc_107_97 : decode (sm_cc 107) 97 = .ok (.iastore, 1) := by decide +kernel
theorem dc_107_98 : decode (sm_cc 107) 98 = .ok (.aload_n 0, 1) := by decide +kernel
theorem dc_107_99 : decode (sm_cc 107) 99 = .ok (.dup, 1) := by decide +kernel
theorem dc_107_100 : decode (sm_cc 107) 100 = .ok (.getfield 42, 3) := by decide +kernel
theorem dc_107_103 : decode (sm_cc 107) 103 = .ok (.iconst 1, 1) := by decide +kernel
theorem dc_107_104 : decode (sm_cc 107) 104 = .ok (.iadd, 1) := by decide +kernel
theorem dc_107_105 : decode (sm_cc 107) 105 = .ok (.putfield 42, 3) := by decide +kernel
theorem dc_107_108 : decode (sm_cc 107) 108 = .ok (.return_, 1) := by decide +kernel
theorem dc_107_10 : decode (sm_cc 107) 10 = .ok (.iload_n 3, 1) := by decide +kernel
theorem dc_107_11 : decode (sm_cc 107) 11 = .ok (.aload_n 0, 1) := by decide +kernel
theorem dc_107_12 : decode (sm_cc 107) 12 = .ok (.getfield 27, 3) := by decide +kernel
theorem dc_107_15 : decode (sm_cc 107) 15 = .ok (.arraylength, 1) := by decide +kernel
theorem dc_107_16 : decode (sm_cc 107) 16 = .ok (.if_icmp .ge (36), 3) := by decide +kernel
theorem dc_107_19 : decode (sm_cc 107) 19 = .ok (.aload_n 0, 1) := by decide +kernel
theorem dc_107_20 : decode (sm_cc 107) 20 = .ok (.getfield 27, 3) := by decide +kernel
theorem dc_107_23 : decode (sm_cc 107) 23 = .ok (.iload_n 3, 1) := by decide +kernel
theorem dc_107_24 : decode (sm_cc 107) 24 = .ok (.iaload, 1) := by decide +kernel
theorem dc_107_25 : decode (sm_cc 107) 25 = .ok (.iload_n 1, 1) := by decide +kernel
theorem dc_107_26 : decode (sm_cc 107) 26 = .ok (.if_icmp .ne (20), 3) := by decide +kernel
theorem dc_107_46 : decode (sm_cc 107) 46 = .ok (.iinc 3 (1), 3) := by decide +kernel
theorem dc_107_49 : decode (sm_cc 107) 49 = .ok (.goto (-47), 3) := by decide +kernel
theorem dc_107_29 : decode (sm_cc 107) 29 = .ok (.aload_n 0, 1) := by decide +kernel
theorem dc_107_30 : decode (sm_cc 107) 30 = .ok (.getfield 15, 3) := by decide +kernel
theorem dc_107_33 : decode (sm_cc 107) 33 = .ok (.bipush (24), 2) := by decide +kernel
theorem dc_107_35 : decode (sm_cc 107) 35 = .ok (.aload_n 0, 1) := by decide +kernel
theorem dc_107_36 : decode (sm_cc 107) 36 = .ok (.getfield 42, 3) := by decide +kernel
theorem dc_107_39 : decode (sm_cc 107) 39 = .ok (.iload_n 3, 1) := by decide +kernel
theorem dc_107_40 : decode (sm_cc 107) 40 = .ok (.isub, 1) := by decide +kernel
theorem dc_107_41 : decode (sm_cc 107) 41 = .ok (.invokevirtual 116, 3) := by decide +kernel
theorem dc_107_44 : decode (sm_cc 107) 44 = .ok (.pop, 1) := by decide +kernel
theorem dc_107_45 : decode (sm_cc 107) 45 = .ok (.return_, 1) := by decide +kernel
theorem dc_87_4 : decode (sm_cc 87) 4 = .ok (.iload_n 3, 1) := by decide +kernel
theorem dc_87_5 : decode (sm_cc 87) 5 = .ok (.sipush (3000), 3) := by decide +kernel
theorem dc_87_8 : decode (sm_cc 87) 8 = .ok (.if_icmp .ge (45), 3) := by decide +kernel
theorem dc_87_53 : decode (sm_cc 87) 53 = .ok (.return_, 1) := by decide +kernel
theorem rt_87 : sm_rt 87 = none := by decide +kernel
theorem dc_87_11 : decode (sm_cc 87) 11 = .ok (.iload_n 2, 1) := by decide +kernel
theorem dc_87_12 : decode (sm_cc 87) 12 = .ok (.ifCond .lt (41), 3) := by decide +kernel
theorem dc_87_15 : decode (sm_cc 87) 15 = .ok (.aload_n 0, 1) := by decide +kernel
theorem dc_87_16 : decode (sm_cc 87) 16 = .ok (.getfield 15, 3) := by decide +kernel
theorem fr_87_15 : sm_at mt_f (sm_ow 87) 15 = some (15, 10, 1, 0, 727) := by decide +kernel
theorem dc_87_19 : decode (sm_cc 87) 19 = .ok (.iload_n 2, 1) := by decide +kernel
theorem dc_87_20 : decode (sm_cc 87) 20 = .ok (.iconst 1, 1) := by decide +kernel
theorem dc_87_21 : decode (sm_cc 87) 21 = .ok (.iadd, 1) := by decide +kernel
theorem dc_87_22 : decode (sm_cc 87) 22 = .ok (.invokevirtual 198, 3) := by decide +kernel
theorem kr_87_198 : sm_at mt_k (sm_ow 87) 198 = some (198, 1, 88, 1, 1179) := by decide +kernel
theorem dc_87_25 : decode (sm_cc 87) 25 = .ok (.istore 4, 2) := by decide +kernel
theorem dc_87_27 : decode (sm_cc 87) 27 = .ok (.aload_n 0, 1) := by decide +kernel
theorem dc_87_28 : decode (sm_cc 87) 28 = .ok (.getfield 15, 3) := by decide +kernel
theorem dc_87_31 : decode (sm_cc 87) 31 = .ok (.iload_n 2, 1) := by decide +kernel
theorem dc_87_32 : decode (sm_cc 87) 32 = .ok (.iconst 1, 1) := by decide +kernel
theorem dc_87_33 : decode (sm_cc 87) 33 = .ok (.iadd, 1) := by decide +kernel
theorem dc_87_34 : decode (sm_cc 87) 34 = .ok (.aload_n 0, 1) := by decide +kernel
theorem dc_87_35 : decode (sm_cc 87) 35 = .ok (.getfield 15, 3) := by decide +kernel
theorem dc_87_38 : decode (sm_cc 87) 38 = .ok (.getfield 69, 3) := by decide +kernel
theorem fr_87_69 : sm_at mt_f (sm_ow 87) 69 = some (69, 7, 7, 1, 553) := by decide +kernel
theorem dc_87_41 : decode (sm_cc 87) 41 = .ok (.invokevirtual 201, 3) := by decide +kernel
theorem kr_87_201 : sm_at mt_k (sm_ow 87) 201 = some (201, 1, 83, 1, 1174) := by decide +kernel
theorem dc_87_44 : decode (sm_cc 87) 44 = .ok (.iload 4, 2) := by decide +kernel
theorem dc_87_46 : decode (sm_cc 87) 46 = .ok (.istore_n 2, 1) := by decide +kernel
theorem dc_87_47 : decode (sm_cc 87) 47 = .ok (.iinc 3 (1), 3) := by decide +kernel
theorem dc_87_50 : decode (sm_cc 87) 50 = .ok (.goto (-46), 3) := by decide +kernel
theorem dc_119_0 : decode (sm_cc 119) 0 = .ok (.aload_n 0, 1) := by decide +kernel
theorem dc_119_1 : decode (sm_cc 119) 1 = .ok (.getfield 54, 3) := by decide +kernel
theorem fr_119_54 : sm_at mt_f (sm_ow 119) 54 = some (54, 8, 14, 0, 664) := by decide +kernel
theorem dc_119_4 : decode (sm_cc 119) 4 = .ok (.ifCond .le (41), 3) := by decide +kernel
theorem dc_119_45 : decode (sm_cc 119) 45 = .ok (.return_, 1) := by decide +kernel
theorem rt_119 : sm_rt 119 = none := by decide +kernel
theorem dc_119_7 : decode (sm_cc 119) 7 = .ok (.aload_n 0, 1) := by decide +kernel
theorem dc_119_8 : decode (sm_cc 119) 8 = .ok (.getfield 54, 3) := by decide +kernel
theorem dc_119_11 : decode (sm_cc 119) 11 = .ok (.sipush (1600), 3) := by decide +kernel
theorem dc_119_14 : decode (sm_cc 119) 14 = .ok (.if_icmp .gt (31), 3) := by decide +kernel
theorem dc_119_17 : decode (sm_cc 119) 17 = .ok (.aload_n 0, 1) := by decide +kernel
theorem dc_119_18 : decode (sm_cc 119) 18 = .ok (.getfield 38, 3) := by decide +kernel
theorem fr_119_38 : sm_at mt_f (sm_ow 119) 38 = some (38, 8, 9, 0, 659) := by decide +kernel
theorem dc_119_21 : decode (sm_cc 119) 21 = .ok (.aload_n 0, 1) := by decide +kernel
theorem dc_119_22 : decode (sm_cc 119) 22 = .ok (.getfield 54, 3) := by decide +kernel
theorem dc_119_25 : decode (sm_cc 119) 25 = .ok (.iconst 1, 1) := by decide +kernel
theorem dc_119_26 : decode (sm_cc 119) 26 = .ok (.isub, 1) := by decide +kernel
theorem dc_119_27 : decode (sm_cc 119) 27 = .ok (.iaload, 1) := by decide +kernel
theorem dc_119_28 : decode (sm_cc 119) 28 = .ok (.iload_n 1, 1) := by decide +kernel
theorem dc_119_29 : decode (sm_cc 119) 29 = .ok (.if_icmp .lt (16), 3) := by decide +kernel
theorem dc_119_32 : decode (sm_cc 119) 32 = .ok (.aload_n 0, 1) := by decide +kernel
theorem dc_119_33 : decode (sm_cc 119) 33 = .ok (.dup, 1) := by decide +kernel
theorem dc_119_34 : decode (sm_cc 119) 34 = .ok (.getfield 54, 3) := by decide +kernel
theorem dc_119_37 : decode (sm_cc 119) 37 = .ok (.iconst 1, 1) := by decide +kernel
theorem dc_119_38 : decode (sm_cc 119) 38 = .ok (.isub, 1) := by decide +kernel
theorem dc_119_39 : decode (sm_cc 119) 39 = .ok (.putfield 54, 3) := by decide +kernel
theorem dc_119_42 : decode (sm_cc 119) 42 = .ok (.goto (-42), 3) := by decide +kernel
theorem dc_33_0 : decode (sm_cc 33) 0 = .ok (.aload_n 0, 1) := by decide +kernel
theorem dc_33_1 : decode (sm_cc 33) 1 = .ok (.getfield 15, 3) := by decide +kernel
theorem fr_33_15 : sm_at mt_f (sm_ow 33) 15 = some (15, 10, 1, 0, 727) := by decide +kernel
theorem dc_33_4 : decode (sm_cc 33) 4 = .ok (.iconst 0, 1) := by decide +kernel
theorem dc_33_5 : decode (sm_cc 33) 5 = .ok (.putfield 31, 3) := by decide +kernel
theorem fr_33_31 : sm_at mt_f (sm_ow 33) 31 = some (31, 7, 10, 1, 558) := by decide +kernel
theorem dc_33_8 : decode (sm_cc 33) 8 = .ok (.aload_n 0, 1) := by decide +kernel
theorem dc_33_9 : decode (sm_cc 33) 9 = .ok (.getfield 19, 3) := by decide +kernel
theorem fr_33_19 : sm_at mt_f (sm_ow 33) 19 = some (19, 10, 2, 0, 728) := by decide +kernel
theorem dc_33_12 : decode (sm_cc 33) 12 = .ok (.invokevirtual 37, 3) := by decide +kernel
theorem ow_34 : 8 = sm_ow 34 := by decide +kernel
theorem kr_33_37 : sm_at mt_k (sm_ow 33) 37 = some (37, 1, 34, 1, 953) := by decide +kernel
theorem np_34 : sm_np 34 = 0 := by decide +kernel
theorem dc_33_15 : decode (sm_cc 33) 15 = .ok (.aload_n 0, 1) := by decide +kernel
theorem dc_33_16 : decode (sm_cc 33) 16 = .ok (.iconst 0, 1) := by decide +kernel
theorem dc_33_17 : decode (sm_cc 33) 17 = .ok (.putfield 42, 3) := by decide +kernel
theorem fr_33_42 : sm_at mt_f (sm_ow 33) 42 = some (42, 10, 5, 0, 731) := by decide +kernel
theorem dc_33_20 : decode (sm_cc 33) 20 = .ok (.aload_n 0, 1) := by decide +kernel
theorem dc_33_21 : decode (sm_cc 33) 21 = .ok (.iconst 0, 1) := by decide +kernel
theorem dc_33_22 : decode (sm_cc 33) 22 = .ok (.putfield 46, 3) := by decide +kernel
theorem fr_33_46 : sm_at mt_f (sm_ow 33) 46 = some (46, 10, 8, 0, 734) := by decide +kernel
theorem dc_33_25 : decode (sm_cc 33) 25 = .ok (.aload_n 0, 1) := by decide +kernel
theorem dc_33_26 : decode (sm_cc 33) 26 = .ok (.iconst (-1), 1) := by decide +kernel
theorem dc_33_27 : decode (sm_cc 33) 27 = .ok (.putfield 49, 3) := by decide +kernel
theorem fr_33_49 : sm_at mt_f (sm_ow 33) 49 = some (49, 10, 9, 0, 735) := by decide +kernel
theorem dc_33_30 : decode (sm_cc 33) 30 = .ok (.aload_n 0, 1) := by decide +kernel
theorem dc_33_31 : decode (sm_cc 33) 31 = .ok (.aload_n 0, 1) := by decide +kernel
theorem dc_33_32 : decode (sm_cc 33) 32 = .ok (.getfield 15, 3) := by decide +kernel
theorem dc_33_35 : decode (sm_cc 33) 35 = .ok (.getfield 52, 3) := by decide +kernel
theorem fr_33_52 : sm_at mt_f (sm_ow 33) 52 = some (52, 7, 8, 1, 554) := by decide +kernel
theorem dc_33_38 : decode (sm_cc 33) 38 = .ok (.putfield 55, 3) := by decide +kernel
theorem fr_33_55 : sm_at mt_f (sm_ow 33) 55 = some (55, 10, 6, 0, 732) := by decide +kernel
theorem dc_33_41 : decode (sm_cc 33) 41 = .ok (.aload_n 0, 1) := by decide +kernel
theorem dc_33_42 : decode (sm_cc 33) 42 = .ok (.aload_n 0, 1) := by decide +kernel
theorem dc_33_43 : decode (sm_cc 33) 43 = .ok (.getfield 15, 3) := by decide +kernel
theorem dc_33_46 : decode (sm_cc 33) 46 = .ok (.getfield 58, 3) := by decide +kernel
theorem fr_33_58 : sm_at mt_f (sm_ow 33) 58 = some (58, 7, 9, 1, 556) := by decide +kernel
theorem dc_33_49 : decode (sm_cc 33) 49 = .ok (.putfield 61, 3) := by decide +kernel
theorem fr_33_61 : sm_at mt_f (sm_ow 33) 61 = some (61, 10, 7, 0, 733) := by decide +kernel
theorem dc_33_52 : decode (sm_cc 33) 52 = .ok (.aload_n 0, 1) := by decide +kernel
theorem dc_33_53 : decode (sm_cc 33) 53 = .ok (.getfield 9, 3) := by decide +kernel
theorem fr_33_9 : sm_at mt_f (sm_ow 33) 9 = some (9, 10, 0, 0, 726) := by decide +kernel
theorem dc_33_56 : decode (sm_cc 33) 56 = .ok (.iload_n 1, 1) := by decide +kernel
theorem dc_33_57 : decode (sm_cc 33) 57 = .ok (.invokevirtual 64, 3) := by decide +kernel
theorem ow_35 : 3 = sm_ow 35 := by decide +kernel
theorem kr_33_64 : sm_at mt_k (sm_ow 33) 64 = some (64, 1, 35, 1, 957) := by decide +kernel
theorem np_35 : sm_np 35 = 1 := by decide +kernel
theorem dc_33_60 : decode (sm_cc 33) 60 = .ok (.aload_n 0, 1) := by decide +kernel
theorem dc_33_61 : decode (sm_cc 33) 61 = .ok (.getfield 15, 3) := by decide +kernel
theorem dc_33_64 : decode (sm_cc 33) 64 = .ok (.getfield 69, 3) := by decide +kernel
theorem fr_33_69 : sm_at mt_f (sm_ow 33) 69 = some (69, 7, 7, 1, 553) := by decide +kernel
theorem dc_33_67 : decode (sm_cc 33) 67 = .ok (.ireturn, 1) := by decide +kernel
theorem rt_33 : sm_rt 33 = some .int := by decide +kernel
theorem dc_122_0 : decode (sm_cc 122) 0 = .ok (.aload_n 0, 1) := by decide +kernel
theorem dc_122_1 : decode (sm_cc 122) 1 = .ok (.getfield 15, 3) := by decide +kernel
theorem fr_122_15 : sm_at mt_f (sm_ow 122) 15 = some (15, 10, 1, 0, 727) := by decide +kernel
theorem dc_122_4 : decode (sm_cc 122) 4 = .ok (.iconst 0, 1) := by decide +kernel
theorem dc_122_5 : decode (sm_cc 122) 5 = .ok (.invokevirtual 72, 3) := by decide +kernel
theorem kr_122_72 : sm_at mt_k (sm_ow 122) 72 = some (72, 1, 71, 1, 1199) := by decide +kernel
theorem dc_122_8 : decode (sm_cc 122) 8 = .ok (.pop, 1) := by decide +kernel
theorem dc_122_9 : decode (sm_cc 122) 9 = .ok (.aload_n 0, 1) := by decide +kernel
theorem dc_122_10 : decode (sm_cc 122) 10 = .ok (.getfield 15, 3) := by decide +kernel
theorem dc_122_13 : decode (sm_cc 122) 13 = .ok (.getfield 31, 3) := by decide +kernel
theorem fr_122_31 : sm_at mt_f (sm_ow 122) 31 = some (31, 7, 10, 1, 558) := by decide +kernel
theorem dc_122_16 : decode (sm_cc 122) 16 = .ok (.ifCond .eq (10), 3) := by decide +kernel
theorem dc_122_26 : decode (sm_cc 122) 26 = .ok (.aload_n 0, 1) := by decide +kernel
theorem dc_122_27 : decode (sm_cc 122) 27 = .ok (.getfield 9, 3) := by decide +kernel
theorem fr_122_9 : sm_at mt_f (sm_ow 122) 9 = some (9, 10, 0, 0, 726) := by decide +kernel
theorem dc_122_30 : decode (sm_cc 122) 30 = .ok (.getfield 79, 3) := by decide +kernel
theorem fr_122_79 : sm_at mt_f (sm_ow 122) 79 = some (79, 3, 5, 1, 598) := by decide +kernel
theorem dc_122_33 : decode (sm_cc 122) 33 = .ok (.ifCond .eq (7), 3) := by decide +kernel
theorem dc_122_40 : decode (sm_cc 122) 40 = .ok (.iconst 0, 1) := by decide +kernel
theorem dc_122_41 : decode (sm_cc 122) 41 = .ok (.istore_n 2, 1) := by decide +kernel
theorem dc_122_42 : decode (sm_cc 122) 42 = .ok (.iload_n 2, 1) := by decide +kernel
theorem dc_122_43 : decode (sm_cc 122) 43 = .ok (.ifCond .eq (13), 3) := by decide +kernel
theorem dc_122_56 : decode (sm_cc 122) 56 = .ok (.aload_n 0, 1) := by decide +kernel
theorem dc_122_57 : decode (sm_cc 122) 57 = .ok (.getfield 15, 3) := by decide +kernel
theorem dc_122_60 : decode (sm_cc 122) 60 = .ok (.iload_n 1, 1) := by decide +kernel
theorem dc_122_61 : decode (sm_cc 122) 61 = .ok (.aload_n 0, 1) := by decide +kernel
theorem dc_122_62 : decode (sm_cc 122) 62 = .ok (.getfield 55, 3) := by decide +kernel
theorem fr_122_55 : sm_at mt_f (sm_ow 122) 55 = some (55, 10, 6, 0, 732) := by decide +kernel
theorem dc_122_65 : decode (sm_cc 122) 65 = .ok (.aload_n 0, 1) := by decide +kernel
theorem dc_122_66 : decode (sm_cc 122) 66 = .ok (.getfield 61, 3) := by decide +kernel
theorem fr_122_61 : sm_at mt_f (sm_ow 122) 61 = some (61, 10, 7, 0, 733) := by decide +kernel
theorem dc_122_69 : decode (sm_cc 122) 69 = .ok (.invokevirtual 85, 3) := by decide +kernel
theorem kr_122_85 : sm_at mt_k (sm_ow 122) 85 = some (85, 1, 118, 1, 1305) := by decide +kernel
theorem dc_122_72 : decode (sm_cc 122) 72 = .ok (.iload_n 2, 1) := by decide +kernel
theorem dc_122_73 : decode (sm_cc 122) 73 = .ok (.ireturn, 1) := by decide +kernel
theorem rt_122 : sm_rt 122 = some .boolean := by decide +kernel
theorem dc_122_36 : decode (sm_cc 122) 36 = .ok (.iconst 1, 1) := by decide +kernel
theorem dc_122_37 : decode (sm_cc 122) 37 = .ok (.goto (4), 3) := by decide +kernel
theorem dc_122_46 : decode (sm_cc 122) 46 = .ok (.aload_n 0, 1) := by decide +kernel
theorem dc_122_47 : decode (sm_cc 122) 47 = .ok (.getfield 19, 3) := by decide +kernel
theorem fr_122_19 : sm_at mt_f (sm_ow 122) 19 = some (19, 10, 2, 0, 728) := by decide +kernel
theorem dc_122_50 : decode (sm_cc 122) 50 = .ok (.invokevirtual 82, 3) := by decide +kernel
theorem ow_123 : 8 = sm_ow 123 := by decide +kernel
theorem kr_122_82 : sm_at mt_k (sm_ow 122) 82 = some (82, 1, 123, 1, 1324) := by decide +kernel
theorem np_123 : sm_np 123 = 0 := by decide +kernel
theorem dc_122_53 : decode (sm_cc 122) 53 = .ok (.goto (19), 3) := by decide +kernel
theorem dc_122_19 : decode (sm_cc 122) 19 = .ok (.aload_n 0, 1) := by decide +kernel
theorem dc_122_20 : decode (sm_cc 122) 20 = .ok (.getfield 9, 3) := by decide +kernel
theorem dc_122_23 : decode (sm_cc 122) 23 = .ok (.invokevirtual 76, 3) := by decide +kernel
theorem kr_122_76 : sm_at mt_k (sm_ow 122) 76 = some (76, 1, 44, 1, 1172) := by decide +kernel
theorem m1_lt0 {n : Nat} (h : n < 2 ^ 31) : Int32.ofInt (-1) < nI n := Int32.lt_of_lt_of_le (by decide : Int32.ofInt (-1) < 0) (nI_pos' h)
theorem ml_lt {n : Nat} (h : n < 2 ^ 31) : sm_c2 .lt (Int32.ofInt (-1)) (nI n) true false = true := if_pos (m1_lt0 h)
theorem ml_le {n : Nat} (h : n < 2 ^ 31) : sm_c2 .le (Int32.ofInt (-1)) (nI n) true false = true := if_pos (Int32.le_of_lt (m1_lt0 h))
theorem ml_gt {n : Nat} (h : n < 2 ^ 31) : sm_c2 .gt (Int32.ofInt (-1)) (nI n) true false = false := if_neg (Int32.not_lt.mpr (Int32.le_of_lt (m1_lt0 h)))
theorem ml_ge {n : Nat} (h : n < 2 ^ 31) : sm_c2 .ge (Int32.ofInt (-1)) (nI n) true false = false := if_neg (Int32.not_le.mpr (m1_lt0 h))
theorem ml_eq {n : Nat} (h : n < 2 ^ 31) : sm_c2 .eq (Int32.ofInt (-1)) (nI n) true false = false := if_neg (Int32.ne_of_lt (m1_lt0 h))
theorem ml_ne {n : Nat} (h : n < 2 ^ 31) : sm_c2 .ne (Int32.ofInt (-1)) (nI n) true false = true := if_neg (Int32.ne_of_lt (m1_lt0 h))
theorem mr_lt {n : Nat} (h : n < 2 ^ 31) : sm_c2 .lt (nI n) (Int32.ofInt (-1)) true false = false := if_neg (Int32.not_lt.mpr (Int32.le_of_lt (m1_lt0 h)))
theorem mr_le {n : Nat} (h : n < 2 ^ 31) : sm_c2 .le (nI n) (Int32.ofInt (-1)) true false = false := if_neg (Int32.not_le.mpr (m1_lt0 h))
theorem mr_gt {n : Nat} (h : n < 2 ^ 31) : sm_c2 .gt (nI n) (Int32.ofInt (-1)) true false = true := if_pos (m1_lt0 h)
theorem mr_ge {n : Nat} (h : n < 2 ^ 31) : sm_c2 .ge (nI n) (Int32.ofInt (-1)) true false = true := if_pos (Int32.le_of_lt (m1_lt0 h))
theorem mr_eq {n : Nat} (h : n < 2 ^ 31) : sm_c2 .eq (nI n) (Int32.ofInt (-1)) true false = false := if_neg (fun e => Int32.ne_of_lt (m1_lt0 h) e.symm)
theorem mr_ne {n : Nat} (h : n < 2 ^ 31) : sm_c2 .ne (nI n) (Int32.ofInt (-1)) true false = true := if_neg (fun e => Int32.ne_of_lt (m1_lt0 h) e.symm)
theorem cBnd_1 {d : Nat} {S : cS} {q : Nat} {S1 : cS} {cur : Nat} {S2 : cS} {a : Nat} (mq : q < 2 ^ 20) (c1 : Ans (d + 8) 69 [.ref 32] S (some (.int (nI 1))) S1) (hcur : sI S1 3211 = nI cur) (mcur : cur < 2 ^ 20) (ma : a < 2 ^ 20) (c2 : Ans (d + 8) 95 [.ref 32, .int (nI cur), .int (nI q)] S1 (some (.int (nI a))) S2) : Bod (d + 8) 94 0 [(0, .ref 32), (1, .int (nI q))] [] S none (S2) := by
  refine Bod.go dc_94_0 rfl ?_
  refine Bod.virt (r := []) dc_94_1 kr_94_63 ⟨Or.inl rfl, ow_69, cl_8⟩ (by rw [np_69]; rfl) (by rw [np_69]; rfl) (ob_of (mk_32 _)) (Nat.le_of_ble_eq_true rfl) (c1  ) ?_
  show Bod _ _ _ _ [_] _ _ _
  refine Bod.ifF dc_94_4 rfl (k1_eq_F (k_ne 1 0 rfl rfl (by omega) (by omega) (by omega))) ?_
  refine Bod.go dc_94_7 rfl ?_
  refine Bod.go dc_94_8 rfl ?_
  refine Bod.get dc_94_9 fr_94_44 (mk_32 _) rfl ?_
  refine Bod.eqI (nI cur) (by first | (simp (disch := omega) only [rI, rIe, rA, rIA, rLA, rJA, rVI, rQI, rVA, rQA, upd_at,  rAI, rLI, rJI, nI_add, pk_sub, kc_0, kc_1, kc_2, kc_3, kc_4, kc_5, reduceIte, Nat.reduceEqDiff, Nat.add_zero, rI_hold, rI_hold, rL_hold, hcur]; done) | (simp (disch := omega) only [rI, rIe, rA, rIA, rLA, rJA, rVI, rQI, rVA, rQA, upd_at,  rAI, rLI, rJI, nI_add, pk_sub, kc_0, kc_1, kc_2, kc_3, kc_4, kc_5, reduceIte, Nat.reduceEqDiff, Nat.add_zero, rI_hold, rI_hold, rL_hold, hcur]; exact congrArg nI (by omega))) ?_
  refine Bod.go dc_94_12 rfl ?_
  refine Bod.virt (r := []) dc_94_13 kr_94_67 ⟨Or.inl rfl, ow_95, cl_8⟩ (by rw [np_95]; rfl) (by rw [np_95]; rfl) (ob_of (mk_32 _)) (Nat.le_of_ble_eq_true rfl) (c2  ) ?_
  show Bod _ _ _ _ [_] _ _ _
  refine Bod.ifT dc_94_16 rfl (k1_ge_T a rfl (by omega)) ?_
  exact Bod.retV dc_94_25 rt_94
theorem cBnd_2 {d : Nat} {S : cS} {q : Nat} {S1 : cS} {cur : Nat} {S2 : cS} {S3 : cS} (mq : q < 2 ^ 20) (c1 : Ans (d + 8) 69 [.ref 32] S (some (.int (nI 1))) S1) (hcur : sI S1 3211 = nI cur) (mcur : cur < 2 ^ 20) (c2 : Ans (d + 8) 95 [.ref 32, .int (nI cur), .int (nI q)] S1 (some (.int (Int32.ofInt (-1)))) S2) (c3 : Ans (d + 8) 96 [.ref 32, .int (nI q), .int (nI 0)] S2 none S3) : Bod (d + 8) 94 0 [(0, .ref 32), (1, .int (nI q))] [] S none (S3) := by
  refine Bod.go dc_94_0 rfl ?_
  refine Bod.virt (r := []) dc_94_1 kr_94_63 ⟨Or.inl rfl, ow_69, cl_8⟩ (by rw [np_69]; rfl) (by rw [np_69]; rfl) (ob_of (mk_32 _)) (Nat.le_of_ble_eq_true rfl) (c1  ) ?_
  show Bod _ _ _ _ [_] _ _ _
  refine Bod.ifF dc_94_4 rfl (k1_eq_F (k_ne 1 0 rfl rfl (by omega) (by omega) (by omega))) ?_
  refine Bod.go dc_94_7 rfl ?_
  refine Bod.go dc_94_8 rfl ?_
  refine Bod.get dc_94_9 fr_94_44 (mk_32 _) rfl ?_
  refine Bod.eqI (nI cur) (by first | (simp (disch := omega) only [rI, rIe, rA, rIA, rLA, rJA, rVI, rQI, rVA, rQA, upd_at,  rAI, rLI, rJI, nI_add, pk_sub, kc_0, kc_1, kc_2, kc_3, kc_4, kc_5, reduceIte, Nat.reduceEqDiff, Nat.add_zero, rI_hold, rI_hold, rL_hold, hcur]; done) | (simp (disch := omega) only [rI, rIe, rA, rIA, rLA, rJA, rVI, rQI, rVA, rQA, upd_at,  rAI, rLI, rJI, nI_add, pk_sub, kc_0, kc_1, kc_2, kc_3, kc_4, kc_5, reduceIte, Nat.reduceEqDiff, Nat.add_zero, rI_hold, rI_hold, rL_hold, hcur]; exact congrArg nI (by omega))) ?_
  refine Bod.go dc_94_12 rfl ?_
  refine Bod.virt (r := []) dc_94_13 kr_94_67 ⟨Or.inl rfl, ow_95, cl_8⟩ (by rw [np_95]; rfl) (by rw [np_95]; rfl) (ob_of (mk_32 _)) (Nat.le_of_ble_eq_true rfl) (c2  ) ?_
  show Bod _ _ _ _ [_] _ _ _
  refine Bod.ifF dc_94_16 rfl (by decide) ?_
  refine Bod.go dc_94_19 rfl ?_
  refine Bod.go dc_94_20 rfl ?_
  refine Bod.ic 0 (by decide) dc_94_21 ?_
  refine Bod.virt (r := []) dc_94_22 kr_94_71 ⟨Or.inl rfl, ow_96, cl_8⟩ (by rw [np_96]; rfl) (by rw [np_96]; rfl) (ob_of (mk_32 _)) (Nat.le_of_ble_eq_true rfl) (c3  ) ?_
  show Bod _ _ _ _ [] _ _ _
  exact Bod.retV dc_94_25 rt_94
theorem cBnd_3 {d : Nat} {S : cS} {q : Nat} {S1 : cS} (mq : q < 2 ^ 20) (c1 : Ans (d + 8) 69 [.ref 32] S (some (.int (nI 0))) S1) : Bod (d + 8) 94 0 [(0, .ref 32), (1, .int (nI q))] [] S none (S1) := by
  refine Bod.go dc_94_0 rfl ?_
  refine Bod.virt (r := []) dc_94_1 kr_94_63 ⟨Or.inl rfl, ow_69, cl_8⟩ (by rw [np_69]; rfl) (by rw [np_69]; rfl) (ob_of (mk_32 _)) (Nat.le_of_ble_eq_true rfl) (c1  ) ?_
  show Bod _ _ _ _ [_] _ _ _
  refine Bod.ifT dc_94_4 rfl (k1_eq_T (k_eq 0 0 rfl rfl (by omega))) ?_
  exact Bod.retV dc_94_25 rt_94
theorem cPrm_1 {d : Nat} {S : cS} {q : Nat} {cur : Nat} {S1 : cS} {a : Nat} (mq : q < 2 ^ 20) (hcur : sI S 3211 = nI cur) (mcur : cur < 2 ^ 20) (ma : a < 2 ^ 20) (c1 : Ans (d + 8) 95 [.ref 32, .int (nI cur), .int (nI q)] S (some (.int (nI a))) S1) : Bod (d + 8) 101 0 [(0, .ref 32), (1, .int (nI q))] [] S (some (.int 0)) (S1) := by
  refine Bod.go dc_101_0 rfl ?_
  refine Bod.go dc_101_1 rfl ?_
  refine Bod.get dc_101_2 fr_101_44 (mk_32 _) rfl ?_
  refine Bod.eqI (nI cur) (by first | assumption | rfl | exact congrArg nI (by omega) | (simp (disch := omega) only [rI, rIe, rA, rIA, rLA, rJA, rVI, rQI, rVA, rQA, upd_at,  rAI, rLI, rJI, nI_add, pk_sub, kc_0, kc_1, kc_2, kc_3, kc_4, kc_5, reduceIte, Nat.reduceEqDiff, Nat.add_zero, rI_hold, rI_hold, rL_hold, hcur]; done)) ?_
  refine Bod.go dc_101_5 rfl ?_
  refine Bod.virt (r := []) dc_101_6 kr_101_67 ⟨Or.inl rfl, ow_95, cl_8⟩ (by rw [np_95]; rfl) (by rw [np_95]; rfl) (ob_of (mk_32 _)) (Nat.le_of_ble_eq_true rfl) (c1  ) ?_
  show Bod _ _ _ _ [_] _ _ _
  refine Bod.ifF dc_101_9 rfl (k1_lt_F a rfl (by omega)) ?_
  refine Bod.ic 0 (by decide) dc_101_12 ?_
  exact Bod.retZ dc_101_13 rt_101 (Or.inl rfl)
theorem cPrm_2 {d : Nat} {S : cS} {q : Nat} {cur : Nat} {S1 : cS} {S2 : cS} (mq : q < 2 ^ 20) (hcur : sI S 3211 = nI cur) (mcur : cur < 2 ^ 20) (c1 : Ans (d + 8) 95 [.ref 32, .int (nI cur), .int (nI q)] S (some (.int (Int32.ofInt (-1)))) S1) (c2 : Ans (d + 8) 96 [.ref 32, .int (nI q), .int (nI 1)] S1 none S2) : Bod (d + 8) 101 0 [(0, .ref 32), (1, .int (nI q))] [] S (some (.int 1)) (S2) := by
  refine Bod.go dc_101_0 rfl ?_
  refine Bod.go dc_101_1 rfl ?_
  refine Bod.get dc_101_2 fr_101_44 (mk_32 _) rfl ?_
  refine Bod.eqI (nI cur) (by first | assumption | rfl | exact congrArg nI (by omega) | (simp (disch := omega) only [rI, rIe, rA, rIA, rLA, rJA, rVI, rQI, rVA, rQA, upd_at,  rAI, rLI, rJI, nI_add, pk_sub, kc_0, kc_1, kc_2, kc_3, kc_4, kc_5, reduceIte, Nat.reduceEqDiff, Nat.add_zero, rI_hold, rI_hold, rL_hold, hcur]; done)) ?_
  refine Bod.go dc_101_5 rfl ?_
  refine Bod.virt (r := []) dc_101_6 kr_101_67 ⟨Or.inl rfl, ow_95, cl_8⟩ (by rw [np_95]; rfl) (by rw [np_95]; rfl) (ob_of (mk_32 _)) (Nat.le_of_ble_eq_true rfl) (c1  ) ?_
  show Bod _ _ _ _ [_] _ _ _
  refine Bod.ifT dc_101_9 rfl (by decide) ?_
  refine Bod.go dc_101_14 rfl ?_
  refine Bod.go dc_101_15 rfl ?_
  refine Bod.ic 1 (by decide) dc_101_16 ?_
  refine Bod.virt (r := []) dc_101_17 kr_101_71 ⟨Or.inl rfl, ow_96, cl_8⟩ (by rw [np_96]; rfl) (by rw [np_96]; rfl) (ob_of (mk_32 _)) (Nat.le_of_ble_eq_true rfl) (c2  ) ?_
  show Bod _ _ _ _ [] _ _ _
  refine Bod.ic 1 (by decide) dc_101_20 ?_
  exact Bod.retZ dc_101_21 rt_101 (Or.inr rfl)
theorem cGlb_1 {d : Nat} {S : cS} {q : Nat} {cur : Nat} {S1 : cS} {a : Nat} {e38 : Nat} (mq : q < 2 ^ 20) (hcur : sI S 3211 = nI cur) (mcur : cur < 2 ^ 20) (ma : a < 2 ^ 20) (c1 : Ans (d + 8) 95 [.ref 32, .int (nI cur), .int (nI q)] S (some (.int (nI a))) S1) (b1 : a < 1600) (he38 : sA S1 38 a = nI e38) (me38 : e38 < 2 ^ 20) (b2 : e38 ≠ 1) : Bod (d + 8) 116 0 [(0, .ref 32), (1, .int (nI q))] [] S (some (.int 1)) (wA 38 a (nI 2) S1) := by
  refine Bod.go dc_116_0 rfl ?_
  refine Bod.go dc_116_1 rfl ?_
  refine Bod.get dc_116_2 fr_116_44 (mk_32 _) rfl ?_
  refine Bod.eqI (nI cur) (by first | assumption | rfl | exact congrArg nI (by omega) | (simp (disch := omega) only [rI, rIe, rA, rIA, rLA, rJA, rVI, rQI, rVA, rQA, upd_at,  rAI, rLI, rJI, nI_add, pk_sub, kc_0, kc_1, kc_2, kc_3, kc_4, kc_5, reduceIte, Nat.reduceEqDiff, Nat.add_zero, rI_hold, rI_hold, rL_hold, hcur]; done)) ?_
  refine Bod.go dc_116_5 rfl ?_
  refine Bod.virt (r := []) dc_116_6 kr_116_67 ⟨Or.inl rfl, ow_95, cl_8⟩ (by rw [np_95]; rfl) (by rw [np_95]; rfl) (ob_of (mk_32 _)) (Nat.le_of_ble_eq_true rfl) (c1  ) ?_
  show Bod _ _ _ _ [_] _ _ _
  refine Bod.istn dc_116_9 (by rw [ml_116]; exact Nat.le_of_ble_eq_true rfl) ?_
  refine Bod.go dc_116_10 rfl ?_
  refine Bod.ifF dc_116_11 rfl (k1_lt_F a rfl (by omega)) ?_
  refine Bod.go dc_116_14 rfl ?_
  refine Bod.sip 1600 (by decide) dc_116_15 ?_
  refine Bod.icT dc_116_18 rfl (k2_lt_T a 1600 rfl rfl (by omega) (by omega)) ?_
  refine Bod.go dc_116_29 rfl ?_
  refine Bod.get dc_116_30 fr_116_29 (mk_32 _) rfl ?_
  refine Bod.go dc_116_33 rfl ?_
  refine Bod.ialdN a rfl (by omega) (by omega) dc_116_34 (mk_38 _) ?_
  refine Bod.eqI (nI e38) (by first | (simp (disch := omega) only [rI, rIe, rA, rIA, rLA, rJA, rVI, rQI, rVA, rQA, upd_at,  rAI, rLI, rJI, nI_add, pk_sub, kc_0, kc_1, kc_2, kc_3, kc_4, kc_5, reduceIte, Nat.reduceEqDiff, Nat.add_zero, rI_hold, rI_hold, rL_hold, hcur, he38]; done) | (simp (disch := omega) only [rI, rIe, rA, rIA, rLA, rJA, rVI, rQI, rVA, rQA, upd_at,  rAI, rLI, rJI, nI_add, pk_sub, kc_0, kc_1, kc_2, kc_3, kc_4, kc_5, reduceIte, Nat.reduceEqDiff, Nat.add_zero, rI_hold, rI_hold, rL_hold, hcur, he38]; exact congrArg nI (by omega))) ?_
  refine Bod.ic 1 (by decide) dc_116_35 ?_
  refine Bod.icT dc_116_36 rfl (k2_ne_T (k_ne e38 1 rfl rfl (by omega) (by omega) (by omega))) ?_
  refine Bod.go dc_116_41 rfl ?_
  refine Bod.get dc_116_42 fr_116_29 (mk_32 _) rfl ?_
  refine Bod.go dc_116_45 rfl ?_
  refine Bod.ic 2 (by decide) dc_116_46 ?_
  refine Bod.iastN a rfl (by omega) (by omega) dc_116_47 (mk_38 _) (sa_38 _ _ _) (mu_A _ _ _ _) ?_
  refine Bod.ic 1 (by decide) dc_116_48 ?_
  exact Bod.retZ dc_116_49 rt_116 (Or.inr rfl)
theorem cGlb_2 {d : Nat} {S : cS} {q : Nat} {cur : Nat} {S1 : cS} {a : Nat} {e38 : Nat} (mq : q < 2 ^ 20) (hcur : sI S 3211 = nI cur) (mcur : cur < 2 ^ 20) (ma : a < 2 ^ 20) (c1 : Ans (d + 8) 95 [.ref 32, .int (nI cur), .int (nI q)] S (some (.int (nI a))) S1) (b1 : a < 1600) (he38 : sA S1 38 a = nI e38) (me38 : e38 < 2 ^ 20) (b2 : e38 = 1) : Bod (d + 8) 116 0 [(0, .ref 32), (1, .int (nI q))] [] S (some (.int 0)) (S1) := by
  refine Bod.go dc_116_0 rfl ?_
  refine Bod.go dc_116_1 rfl ?_
  refine Bod.get dc_116_2 fr_116_44 (mk_32 _) rfl ?_
  refine Bod.eqI (nI cur) (by first | assumption | rfl | exact congrArg nI (by omega) | (simp (disch := omega) only [rI, rIe, rA, rIA, rLA, rJA, rVI, rQI, rVA, rQA, upd_at,  rAI, rLI, rJI, nI_add, pk_sub, kc_0, kc_1, kc_2, kc_3, kc_4, kc_5, reduceIte, Nat.reduceEqDiff, Nat.add_zero, rI_hold, rI_hold, rL_hold, hcur]; done)) ?_
  refine Bod.go dc_116_5 rfl ?_
  refine Bod.virt (r := []) dc_116_6 kr_116_67 ⟨Or.inl rfl, ow_95, cl_8⟩ (by rw [np_95]; rfl) (by rw [np_95]; rfl) (ob_of (mk_32 _)) (Nat.le_of_ble_eq_true rfl) (c1  ) ?_
  show Bod _ _ _ _ [_] _ _ _
  refine Bod.istn dc_116_9 (by rw [ml_116]; exact Nat.le_of_ble_eq_true rfl) ?_
  refine Bod.go dc_116_10 rfl ?_
  refine Bod.ifF dc_116_11 rfl (k1_lt_F a rfl (by omega)) ?_
  refine Bod.go dc_116_14 rfl ?_
  refine Bod.sip 1600 (by decide) dc_116_15 ?_
  refine Bod.icT dc_116_18 rfl (k2_lt_T a 1600 rfl rfl (by omega) (by omega)) ?_
  refine Bod.go dc_116_29 rfl ?_
  refine Bod.get dc_116_30 fr_116_29 (mk_32 _) rfl ?_
  refine Bod.go dc_116_33 rfl ?_
  refine Bod.ialdN a rfl (by omega) (by omega) dc_116_34 (mk_38 _) ?_
  refine Bod.eqI (nI e38) (by first | (simp (disch := omega) only [rI, rIe, rA, rIA, rLA, rJA, rVI, rQI, rVA, rQA, upd_at,  rAI, rLI, rJI, nI_add, pk_sub, kc_0, kc_1, kc_2, kc_3, kc_4, kc_5, reduceIte, Nat.reduceEqDiff, Nat.add_zero, rI_hold, rI_hold, rL_hold, hcur, he38]; done) | (simp (disch := omega) only [rI, rIe, rA, rIA, rLA, rJA, rVI, rQI, rVA, rQA, upd_at,  rAI, rLI, rJI, nI_add, pk_sub, kc_0, kc_1, kc_2, kc_3, kc_4, kc_5, reduceIte, Nat.reduceEqDiff, Nat.add_zero, rI_hold, rI_hold, rL_hold, hcur, he38]; exact congrArg nI (by omega))) ?_
  refine Bod.ic 1 (by decide) dc_116_35 ?_
  refine Bod.icF dc_116_36 rfl (k2_ne_F (k_eq e38 1 rfl rfl (by omega))) ?_
  refine Bod.ic 0 (by decide) dc_116_39 ?_
  exact Bod.retZ dc_116_40 rt_116 (Or.inl rfl)
theorem cGlb_3 {d : Nat} {S : cS} {q : Nat} {cur : Nat} {S1 : cS} {a : Nat} {S2 : cS} (mq : q < 2 ^ 20) (hcur : sI S 3211 = nI cur) (mcur : cur < 2 ^ 20) (ma : a < 2 ^ 20) (c1 : Ans (d + 8) 95 [.ref 32, .int (nI cur), .int (nI q)] S (some (.int (nI a))) S1) (b1 : 1600 ≤ a) (c2 : Ans (d + 8) 96 [.ref 32, .int (nI q), .int (nI 2)] S1 none S2) : Bod (d + 8) 116 0 [(0, .ref 32), (1, .int (nI q))] [] S (some (.int 1)) (S2) := by
  refine Bod.go dc_116_0 rfl ?_
  refine Bod.go dc_116_1 rfl ?_
  refine Bod.get dc_116_2 fr_116_44 (mk_32 _) rfl ?_
  refine Bod.eqI (nI cur) (by first | assumption | rfl | exact congrArg nI (by omega) | (simp (disch := omega) only [rI, rIe, rA, rIA, rLA, rJA, rVI, rQI, rVA, rQA, upd_at,  rAI, rLI, rJI, nI_add, pk_sub, kc_0, kc_1, kc_2, kc_3, kc_4, kc_5, reduceIte, Nat.reduceEqDiff, Nat.add_zero, rI_hold, rI_hold, rL_hold, hcur]; done)) ?_
  refine Bod.go dc_116_5 rfl ?_
  refine Bod.virt (r := []) dc_116_6 kr_116_67 ⟨Or.inl rfl, ow_95, cl_8⟩ (by rw [np_95]; rfl) (by rw [np_95]; rfl) (ob_of (mk_32 _)) (Nat.le_of_ble_eq_true rfl) (c1  ) ?_
  show Bod _ _ _ _ [_] _ _ _
  refine Bod.istn dc_116_9 (by rw [ml_116]; exact Nat.le_of_ble_eq_true rfl) ?_
  refine Bod.go dc_116_10 rfl ?_
  refine Bod.ifF dc_116_11 rfl (k1_lt_F a rfl (by omega)) ?_
  refine Bod.go dc_116_14 rfl ?_
  refine Bod.sip 1600 (by decide) dc_116_15 ?_
  refine Bod.icF dc_116_18 rfl (k2_lt_F a 1600 rfl rfl (by omega) (by omega)) ?_
  refine Bod.go dc_116_21 rfl ?_
  refine Bod.go dc_116_22 rfl ?_
  refine Bod.ic 2 (by decide) dc_116_23 ?_
  refine Bod.virt (r := []) dc_116_24 kr_116_71 ⟨Or.inl rfl, ow_96, cl_8⟩ (by rw [np_96]; rfl) (by rw [np_96]; rfl) (ob_of (mk_32 _)) (Nat.le_of_ble_eq_true rfl) (c2  ) ?_
  show Bod _ _ _ _ [] _ _ _
  refine Bod.ic 1 (by decide) dc_116_27 ?_
  exact Bod.retZ dc_116_28 rt_116 (Or.inr rfl)
theorem cGlb_4 {d : Nat} {S : cS} {q : Nat} {cur : Nat} {S1 : cS} {S2 : cS} (mq : q < 2 ^ 20) (hcur : sI S 3211 = nI cur) (mcur : cur < 2 ^ 20) (c1 : Ans (d + 8) 95 [.ref 32, .int (nI cur), .int (nI q)] S (some (.int (Int32.ofInt (-1)))) S1) (c2 : Ans (d + 8) 96 [.ref 32, .int (nI q), .int (nI 2)] S1 none S2) : Bod (d + 8) 116 0 [(0, .ref 32), (1, .int (nI q))] [] S (some (.int 1)) (S2) := by
  refine Bod.go dc_116_0 rfl ?_
  refine Bod.go dc_116_1 rfl ?_
  refine Bod.get dc_116_2 fr_116_44 (mk_32 _) rfl ?_
  refine Bod.eqI (nI cur) (by first | assumption | rfl | exact congrArg nI (by omega) | (simp (disch := omega) only [rI, rIe, rA, rIA, rLA, rJA, rVI, rQI, rVA, rQA, upd_at,  rAI, rLI, rJI, nI_add, pk_sub, kc_0, kc_1, kc_2, kc_3, kc_4, kc_5, reduceIte, Nat.reduceEqDiff, Nat.add_zero, rI_hold, rI_hold, rL_hold, hcur]; done)) ?_
  refine Bod.go dc_116_5 rfl ?_
  refine Bod.virt (r := []) dc_116_6 kr_116_67 ⟨Or.inl rfl, ow_95, cl_8⟩ (by rw [np_95]; rfl) (by rw [np_95]; rfl) (ob_of (mk_32 _)) (Nat.le_of_ble_eq_true rfl) (c1  ) ?_
  show Bod _ _ _ _ [_] _ _ _
  refine Bod.istn dc_116_9 (by rw [ml_116]; exact Nat.le_of_ble_eq_true rfl) ?_
  refine Bod.go dc_116_10 rfl ?_
  refine Bod.ifT dc_116_11 rfl (by decide) ?_
  refine Bod.go dc_116_21 rfl ?_
  refine Bod.go dc_116_22 rfl ?_
  refine Bod.ic 2 (by decide) dc_116_23 ?_
  refine Bod.virt (r := []) dc_116_24 kr_116_71 ⟨Or.inl rfl, ow_96, cl_8⟩ (by rw [np_96]; rfl) (by rw [np_96]; rfl) (ob_of (mk_32 _)) (Nat.le_of_ble_eq_true rfl) (c2  ) ?_
  show Bod _ _ _ _ [] _ _ _
  refine Bod.ic 1 (by decide) dc_116_27 ?_
  exact Bod.retZ dc_116_28 rt_116 (Or.inr rfl)
theorem cEnt0_1 {d : Nat} {S Sf : cS} {v : Option Value} {sc : Nat} {q : Nat} (msc : sc < 2 ^ 20) (mq : q < 2 ^ 20) (b1 : sc ≤ 0) (hB : ∀ lv1 : sm_L, sm_get lv1 0 = some (.ref 32) → sm_get lv1 2 = some (.int (nI q)) → sm_get lv1 3 = some (.int (Int32.ofInt (-1))) → sm_get lv1 4 = some (.int (nI 0)) → Bod (d + 8) 95 25 lv1 [] (S) v Sf) : Bod (d + 8) 95 0 [(0, .ref 32), (1, .int (nI sc)), (2, .int (nI q))] [] S v Sf := by
  refine Bod.go dc_95_0 rfl ?_
  refine Bod.ifT dc_95_1 rfl (k1_le_T (k_eq sc 0 (by first | assumption | rfl | exact congrArg nI (by omega) | (simp (disch := omega) only [rI, rIe, rA, rIA, rLA, rJA, rVI, rQI, rVA, rQA, upd_at,  rAI, rLI, rJI, nI_add, pk_sub, kc_0, kc_1, kc_2, kc_3, kc_4, kc_5, reduceIte, Nat.reduceEqDiff, Nat.add_zero, rI_hold, rI_hold, rL_hold]; done)) rfl (by omega))) ?_
  refine Bod.go dc_95_20 rfl ?_
  refine Bod.istn dc_95_21 (by rw [ml_95]; exact Nat.le_of_ble_eq_true rfl) ?_
  refine Bod.ic 0 (by decide) dc_95_22 ?_
  refine Bod.ist dc_95_23 (by rw [ml_95]; exact Nat.le_of_ble_eq_true rfl) ?_
  exact hB _ (by first | rfl | exact (by repeat (first | exact rfl | exact sm_get_p1 | exact sm_get_p2e | refine sm_get_p1m (by decide) (by decide) ?_ | refine sm_get_p1n (by decide) rfl ?_ | refine sm_get_p2n (by decide) (by decide) rfl ?_))) (by first | rfl | exact (by repeat (first | exact rfl | exact sm_get_p1 | exact sm_get_p2e | refine sm_get_p1m (by decide) (by decide) ?_ | refine sm_get_p1n (by decide) rfl ?_ | refine sm_get_p2n (by decide) (by decide) rfl ?_))) (by first | rfl | exact (by repeat (first | exact rfl | exact sm_get_p1 | exact sm_get_p2e | refine sm_get_p1m (by decide) (by decide) ?_ | refine sm_get_p1n (by decide) rfl ?_ | refine sm_get_p2n (by decide) (by decide) rfl ?_))) (by first | rfl | exact (by repeat (first | exact rfl | exact sm_get_p1 | exact sm_get_p2e | refine sm_get_p1m (by decide) (by decide) ?_ | refine sm_get_p1n (by decide) rfl ?_ | refine sm_get_p2n (by decide) (by decide) rfl ?_)))
theorem cEnt0_2 {d : Nat} {S Sf : cS} {v : Option Value} {sc : Nat} {q : Nat} (msc : sc < 2 ^ 20) (mq : q < 2 ^ 20) (b1 : 0 < sc) (b2 : 300 ≤ sc) (hB : ∀ lv1 : sm_L, sm_get lv1 0 = some (.ref 32) → sm_get lv1 2 = some (.int (nI q)) → sm_get lv1 3 = some (.int (Int32.ofInt (-1))) → sm_get lv1 4 = some (.int (nI 0)) → Bod (d + 8) 95 25 lv1 [] (S) v Sf) : Bod (d + 8) 95 0 [(0, .ref 32), (1, .int (nI sc)), (2, .int (nI q))] [] S v Sf := by
  refine Bod.go dc_95_0 rfl ?_
  refine Bod.ifF dc_95_1 rfl (k1_le_F sc rfl (by omega) (by omega)) ?_
  refine Bod.go dc_95_4 rfl ?_
  refine Bod.sip 300 (by decide) dc_95_5 ?_
  refine Bod.icT dc_95_8 rfl (k2_ge_T sc 300 rfl rfl (by omega) (by omega)) ?_
  refine Bod.go dc_95_20 rfl ?_
  refine Bod.istn dc_95_21 (by rw [ml_95]; exact Nat.le_of_ble_eq_true rfl) ?_
  refine Bod.ic 0 (by decide) dc_95_22 ?_
  refine Bod.ist dc_95_23 (by rw [ml_95]; exact Nat.le_of_ble_eq_true rfl) ?_
  exact hB _ (by first | rfl | exact (by repeat (first | exact rfl | exact sm_get_p1 | exact sm_get_p2e | refine sm_get_p1m (by decide) (by decide) ?_ | refine sm_get_p1n (by decide) rfl ?_ | refine sm_get_p2n (by decide) (by decide) rfl ?_))) (by first | rfl | exact (by repeat (first | exact rfl | exact sm_get_p1 | exact sm_get_p2e | refine sm_get_p1m (by decide) (by decide) ?_ | refine sm_get_p1n (by decide) rfl ?_ | refine sm_get_p2n (by decide) (by decide) rfl ?_))) (by first | rfl | exact (by repeat (first | exact rfl | exact sm_get_p1 | exact sm_get_p2e | refine sm_get_p1m (by decide) (by decide) ?_ | refine sm_get_p1n (by decide) rfl ?_ | refine sm_get_p2n (by decide) (by decide) rfl ?_))) (by first | rfl | exact (by repeat (first | exact rfl | exact sm_get_p1 | exact sm_get_p2e | refine sm_get_p1m (by decide) (by decide) ?_ | refine sm_get_p1n (by decide) rfl ?_ | refine sm_get_p2n (by decide) (by decide) rfl ?_)))
theorem cEnt0_3 {d : Nat} {S Sf : cS} {v : Option Value} {sc : Nat} {q : Nat} {e35 : Nat} (msc : sc < 2 ^ 20) (mq : q < 2 ^ 20) (b1 : 0 < sc) (b2 : sc < 300) (he35 : sA S 35 sc = nI e35) (me35 : e35 < 2 ^ 20) (hB : ∀ lv1 : sm_L, sm_get lv1 0 = some (.ref 32) → sm_get lv1 2 = some (.int (nI q)) → sm_get lv1 3 = some (.int (nI e35)) → sm_get lv1 4 = some (.int (nI 0)) → Bod (d + 8) 95 25 lv1 [] (S) v Sf) : Bod (d + 8) 95 0 [(0, .ref 32), (1, .int (nI sc)), (2, .int (nI q))] [] S v Sf := by
  refine Bod.go dc_95_0 rfl ?_
  refine Bod.ifF dc_95_1 rfl (k1_le_F sc rfl (by omega) (by omega)) ?_
  refine Bod.go dc_95_4 rfl ?_
  refine Bod.sip 300 (by decide) dc_95_5 ?_
  refine Bod.icF dc_95_8 rfl (k2_ge_F sc 300 rfl rfl (by omega) (by omega)) ?_
  refine Bod.go dc_95_11 rfl ?_
  refine Bod.get dc_95_12 fr_95_20 (mk_32 _) rfl ?_
  refine Bod.go dc_95_15 rfl ?_
  refine Bod.ialdN sc rfl (by omega) (by omega) dc_95_16 (mk_35 _) ?_
  refine Bod.eqI (nI e35) (by first | assumption | rfl | exact congrArg nI (by omega) | (simp (disch := omega) only [rI, rIe, rA, rIA, rLA, rJA, rVI, rQI, rVA, rQA, upd_at,  rAI, rLI, rJI, nI_add, pk_sub, kc_0, kc_1, kc_2, kc_3, kc_4, kc_5, reduceIte, Nat.reduceEqDiff, Nat.add_zero, rI_hold, rI_hold, rL_hold, he35]; done)) ?_
  refine Bod.go dc_95_17 rfl ?_
  refine Bod.istn dc_95_21 (by rw [ml_95]; exact Nat.le_of_ble_eq_true rfl) ?_
  refine Bod.ic 0 (by decide) dc_95_22 ?_
  refine Bod.ist dc_95_23 (by rw [ml_95]; exact Nat.le_of_ble_eq_true rfl) ?_
  exact hB _ (by first | rfl | exact (by repeat (first | exact rfl | exact sm_get_p1 | exact sm_get_p2e | refine sm_get_p1m (by decide) (by decide) ?_ | refine sm_get_p1n (by decide) rfl ?_ | refine sm_get_p2n (by decide) (by decide) rfl ?_))) (by first | rfl | exact (by repeat (first | exact rfl | exact sm_get_p1 | exact sm_get_p2e | refine sm_get_p1m (by decide) (by decide) ?_ | refine sm_get_p1n (by decide) rfl ?_ | refine sm_get_p2n (by decide) (by decide) rfl ?_))) (by first | rfl | exact (by repeat (first | exact rfl | exact sm_get_p1 | exact sm_get_p2e | refine sm_get_p1m (by decide) (by decide) ?_ | refine sm_get_p1n (by decide) rfl ?_ | refine sm_get_p2n (by decide) (by decide) rfl ?_))) (by first | rfl | exact (by repeat (first | exact rfl | exact sm_get_p1 | exact sm_get_p2e | refine sm_get_p1m (by decide) (by decide) ?_ | refine sm_get_p1n (by decide) rfl ?_ | refine sm_get_p2n (by decide) (by decide) rfl ?_)))
theorem cEntL_1 {d : Nat} {S : cS} {lv : sm_L} {t : Nat} {e : Nat} {q : Nat} (q4 : sm_get lv 4 = some (.int (nI t))) (q3 : sm_get lv 3 = some (.int (nI e))) (q2 : sm_get lv 2 = some (.int (nI q))) (q0 : sm_get lv 0 = some (.ref 32)) (mt : t < 2 ^ 20) (me : e < 2 ^ 20) (mq : q < 2 ^ 20) (b1 : 1600 ≤ t) : Bod (d + 8) 95 25 lv [] S (some (.int (Int32.ofInt (-1)))) (S) := by
  refine Bod.ildG dc_95_25 (by repeat (first | exact q4 | exact sm_get_p1 | exact sm_get_p2e | refine sm_get_p1m (by decide) (by decide) ?_ | refine sm_get_p1n (by decide) rfl ?_ | refine sm_get_p2n (by decide) (by decide) rfl ?_)) ?_
  refine Bod.sip 1600 (by decide) dc_95_27 ?_
  refine Bod.icT dc_95_30 rfl (k2_ge_T t 1600 rfl rfl (by omega) (by omega)) ?_
  refine Bod.go dc_95_69 rfl ?_
  exact Bod.retI dc_95_70 rt_95
theorem cEntL_2 {d : Nat} {S : cS} {lv : sm_L} {t : Nat} {e : Nat} {q : Nat} (q4 : sm_get lv 4 = some (.int (nI t))) (q3 : sm_get lv 3 = some (.int (nI e))) (q2 : sm_get lv 2 = some (.int (nI q))) (q0 : sm_get lv 0 = some (.ref 32)) (mt : t < 2 ^ 20) (me : e < 2 ^ 20) (mq : q < 2 ^ 20) (b1 : t < 1600) (b2 : 1600 ≤ e) : Bod (d + 8) 95 25 lv [] S (some (.int (Int32.ofInt (-1)))) (S) := by
  refine Bod.ildG dc_95_25 (by repeat (first | exact q4 | exact sm_get_p1 | exact sm_get_p2e | refine sm_get_p1m (by decide) (by decide) ?_ | refine sm_get_p1n (by decide) rfl ?_ | refine sm_get_p2n (by decide) (by decide) rfl ?_)) ?_
  refine Bod.sip 1600 (by decide) dc_95_27 ?_
  refine Bod.icF dc_95_30 rfl (k2_ge_F t 1600 rfl rfl (by omega) (by omega)) ?_
  refine Bod.ildnG dc_95_33 (by repeat (first | exact q3 | exact sm_get_p1 | exact sm_get_p2e | refine sm_get_p1m (by decide) (by decide) ?_ | refine sm_get_p1n (by decide) rfl ?_ | refine sm_get_p2n (by decide) (by decide) rfl ?_)) ?_
  refine Bod.ifF dc_95_34 rfl (k1_lt_F e rfl (by omega)) ?_
  refine Bod.ildnG dc_95_37 (by repeat (first | exact q3 | exact sm_get_p1 | exact sm_get_p2e | refine sm_get_p1m (by decide) (by decide) ?_ | refine sm_get_p1n (by decide) rfl ?_ | refine sm_get_p2n (by decide) (by decide) rfl ?_)) ?_
  refine Bod.sip 1600 (by decide) dc_95_38 ?_
  refine Bod.icT dc_95_41 rfl (k2_ge_T e 1600 rfl rfl (by omega) (by omega)) ?_
  refine Bod.go dc_95_69 rfl ?_
  exact Bod.retI dc_95_70 rt_95
theorem cEntL_3 {d : Nat} {S Sf : cS} {v : Option Value} {lv : sm_L} {t : Nat} {e : Nat} {q : Nat} {e36 : Nat} {e40 : Nat} (q4 : sm_get lv 4 = some (.int (nI t))) (q3 : sm_get lv 3 = some (.int (nI e))) (q2 : sm_get lv 2 = some (.int (nI q))) (q0 : sm_get lv 0 = some (.ref 32)) (mt : t < 2 ^ 20) (me : e < 2 ^ 20) (mq : q < 2 ^ 20) (b1 : t < 1600) (b2 : e < 1600) (he36 : sA S 36 e = nI e36) (me36 : e36 < 2 ^ 20) (b3 : e36 ≠ q) (he40 : sA S 40 e = nI e40) (me40 : e40 < 2 ^ 20) (hB : ∀ lv1 : sm_L, sm_get lv1 0 = some (.ref 32) → sm_get lv1 2 = some (.int (nI q)) → sm_get lv1 3 = some (.int (nI e40)) → sm_get lv1 4 = some (.int (nI (t + 1))) → Bod (d + 8) 95 25 lv1 [] (S) v Sf) : Bod (d + 8) 95 25 lv [] S v Sf := by
  refine Bod.ildG dc_95_25 (by repeat (first | exact q4 | exact sm_get_p1 | exact sm_get_p2e | refine sm_get_p1m (by decide) (by decide) ?_ | refine sm_get_p1n (by decide) rfl ?_ | refine sm_get_p2n (by decide) (by decide) rfl ?_)) ?_
  refine Bod.sip 1600 (by decide) dc_95_27 ?_
  refine Bod.icF dc_95_30 rfl (k2_ge_F t 1600 rfl rfl (by omega) (by omega)) ?_
  refine Bod.ildnG dc_95_33 (by repeat (first | exact q3 | exact sm_get_p1 | exact sm_get_p2e | refine sm_get_p1m (by decide) (by decide) ?_ | refine sm_get_p1n (by decide) rfl ?_ | refine sm_get_p2n (by decide) (by decide) rfl ?_)) ?_
  refine Bod.ifF dc_95_34 rfl (k1_lt_F e rfl (by omega)) ?_
  refine Bod.ildnG dc_95_37 (by repeat (first | exact q3 | exact sm_get_p1 | exact sm_get_p2e | refine sm_get_p1m (by decide) (by decide) ?_ | refine sm_get_p1n (by decide) rfl ?_ | refine sm_get_p2n (by decide) (by decide) rfl ?_)) ?_
  refine Bod.sip 1600 (by decide) dc_95_38 ?_
  refine Bod.icF dc_95_41 rfl (k2_ge_F e 1600 rfl rfl (by omega) (by omega)) ?_
  refine Bod.aldnG dc_95_44 (by repeat (first | exact q0 | exact sm_get_p1 | exact sm_get_p2e | refine sm_get_p1m (by decide) (by decide) ?_ | refine sm_get_p1n (by decide) rfl ?_ | refine sm_get_p2n (by decide) (by decide) rfl ?_)) ?_
  refine Bod.get dc_95_45 fr_95_23 (mk_32 _) rfl ?_
  refine Bod.ildnG dc_95_48 (by repeat (first | exact q3 | exact sm_get_p1 | exact sm_get_p2e | refine sm_get_p1m (by decide) (by decide) ?_ | refine sm_get_p1n (by decide) rfl ?_ | refine sm_get_p2n (by decide) (by decide) rfl ?_)) ?_
  refine Bod.ialdN e rfl (by omega) (by omega) dc_95_49 (mk_36 _) ?_
  refine Bod.eqI (nI e36) (by first | assumption | rfl | exact congrArg nI (by omega) | (simp (disch := omega) only [rI, rIe, rA, rIA, rLA, rJA, rVI, rQI, rVA, rQA, upd_at,  rAI, rLI, rJI, nI_add, pk_sub, kc_0, kc_1, kc_2, kc_3, kc_4, kc_5, reduceIte, Nat.reduceEqDiff, Nat.add_zero, rI_hold, rI_hold, rL_hold, he36]; done)) ?_
  refine Bod.ildnG dc_95_50 (by repeat (first | exact q2 | exact sm_get_p1 | exact sm_get_p2e | refine sm_get_p1m (by decide) (by decide) ?_ | refine sm_get_p1n (by decide) rfl ?_ | refine sm_get_p2n (by decide) (by decide) rfl ?_)) ?_
  refine Bod.icT dc_95_51 rfl (k2_ne_T (k_ne e36 q rfl rfl (by omega) (by omega) (by omega))) ?_
  refine Bod.aldnG dc_95_56 (by repeat (first | exact q0 | exact sm_get_p1 | exact sm_get_p2e | refine sm_get_p1m (by decide) (by decide) ?_ | refine sm_get_p1n (by decide) rfl ?_ | refine sm_get_p2n (by decide) (by decide) rfl ?_)) ?_
  refine Bod.get dc_95_57 fr_95_35 (mk_32 _) rfl ?_
  refine Bod.ildnG dc_95_60 (by repeat (first | exact q3 | exact sm_get_p1 | exact sm_get_p2e | refine sm_get_p1m (by decide) (by decide) ?_ | refine sm_get_p1n (by decide) rfl ?_ | refine sm_get_p2n (by decide) (by decide) rfl ?_)) ?_
  refine Bod.ialdN e rfl (by omega) (by omega) dc_95_61 (mk_40 _) ?_
  refine Bod.eqI (nI e40) (by first | assumption | rfl | exact congrArg nI (by omega) | (simp (disch := omega) only [rI, rIe, rA, rIA, rLA, rJA, rVI, rQI, rVA, rQA, upd_at,  rAI, rLI, rJI, nI_add, pk_sub, kc_0, kc_1, kc_2, kc_3, kc_4, kc_5, reduceIte, Nat.reduceEqDiff, Nat.add_zero, rI_hold, rI_hold, rL_hold, he36, he40]; done)) ?_
  refine Bod.istn dc_95_62 (by rw [ml_95]; exact Nat.le_of_ble_eq_true rfl) ?_
  refine Bod.incN (t + 1) (by rw [kc_1, nI_add]) dc_95_63 (by rw [ml_95]; exact Nat.le_of_ble_eq_true rfl) (by repeat (first | exact q4 | exact sm_get_p1 | exact sm_get_p2e | refine sm_get_p1m (by decide) (by decide) ?_ | refine sm_get_p1n (by decide) rfl ?_ | refine sm_get_p2n (by decide) (by decide) rfl ?_)) ?_
  refine Bod.go dc_95_66 rfl ?_
  exact hB _ (by repeat (first | exact q0 | exact sm_get_p1 | exact sm_get_p2e | refine sm_get_p1m (by decide) (by decide) ?_ | refine sm_get_p1n (by decide) rfl ?_ | refine sm_get_p2n (by decide) (by decide) rfl ?_)) (by repeat (first | exact q2 | exact sm_get_p1 | exact sm_get_p2e | refine sm_get_p1m (by decide) (by decide) ?_ | refine sm_get_p1n (by decide) rfl ?_ | refine sm_get_p2n (by decide) (by decide) rfl ?_)) (by repeat (first | exact q0 | exact sm_get_p1 | exact sm_get_p2e | refine sm_get_p1m (by decide) (by decide) ?_ | refine sm_get_p1n (by decide) rfl ?_ | refine sm_get_p2n (by decide) (by decide) rfl ?_)) (by repeat (first | exact q0 | exact sm_get_p1 | exact sm_get_p2e | refine sm_get_p1m (by decide) (by decide) ?_ | refine sm_get_p1n (by decide) rfl ?_ | refine sm_get_p2n (by decide) (by decide) rfl ?_))
theorem cEntL_4 {d : Nat} {S : cS} {lv : sm_L} {t : Nat} {e : Nat} {q : Nat} {e36 : Nat} (q4 : sm_get lv 4 = some (.int (nI t))) (q3 : sm_get lv 3 = some (.int (nI e))) (q2 : sm_get lv 2 = some (.int (nI q))) (q0 : sm_get lv 0 = some (.ref 32)) (mt : t < 2 ^ 20) (me : e < 2 ^ 20) (mq : q < 2 ^ 20) (b1 : t < 1600) (b2 : e < 1600) (he36 : sA S 36 e = nI e36) (me36 : e36 < 2 ^ 20) (b3 : e36 = q) : Bod (d + 8) 95 25 lv [] S (some (.int (nI e))) (S) := by
  refine Bod.ildG dc_95_25 (by repeat (first | exact q4 | exact sm_get_p1 | exact sm_get_p2e | refine sm_get_p1m (by decide) (by decide) ?_ | refine sm_get_p1n (by decide) rfl ?_ | refine sm_get_p2n (by decide) (by decide) rfl ?_)) ?_
  refine Bod.sip 1600 (by decide) dc_95_27 ?_
  refine Bod.icF dc_95_30 rfl (k2_ge_F t 1600 rfl rfl (by omega) (by omega)) ?_
  refine Bod.ildnG dc_95_33 (by repeat (first | exact q3 | exact sm_get_p1 | exact sm_get_p2e | refine sm_get_p1m (by decide) (by decide) ?_ | refine sm_get_p1n (by decide) rfl ?_ | refine sm_get_p2n (by decide) (by decide) rfl ?_)) ?_
  refine Bod.ifF dc_95_34 rfl (k1_lt_F e rfl (by omega)) ?_
  refine Bod.ildnG dc_95_37 (by repeat (first | exact q3 | exact sm_get_p1 | exact sm_get_p2e | refine sm_get_p1m (by decide) (by decide) ?_ | refine sm_get_p1n (by decide) rfl ?_ | refine sm_get_p2n (by decide) (by decide) rfl ?_)) ?_
  refine Bod.sip 1600 (by decide) dc_95_38 ?_
  refine Bod.icF dc_95_41 rfl (k2_ge_F e 1600 rfl rfl (by omega) (by omega)) ?_
  refine Bod.aldnG dc_95_44 (by repeat (first | exact q0 | exact sm_get_p1 | exact sm_get_p2e | refine sm_get_p1m (by decide) (by decide) ?_ | refine sm_get_p1n (by decide) rfl ?_ | refine sm_get_p2n (by decide) (by decide) rfl ?_)) ?_
  refine Bod.get dc_95_45 fr_95_23 (mk_32 _) rfl ?_
  refine Bod.ildnG dc_95_48 (by repeat (first | exact q3 | exact sm_get_p1 | exact sm_get_p2e | refine sm_get_p1m (by decide) (by decide) ?_ | refine sm_get_p1n (by decide) rfl ?_ | refine sm_get_p2n (by decide) (by decide) rfl ?_)) ?_
  refine Bod.ialdN e rfl (by omega) (by omega) dc_95_49 (mk_36 _) ?_
  refine Bod.eqI (nI e36) (by first | assumption | rfl | exact congrArg nI (by omega) | (simp (disch := omega) only [rI, rIe, rA, rIA, rLA, rJA, rVI, rQI, rVA, rQA, upd_at,  rAI, rLI, rJI, nI_add, pk_sub, kc_0, kc_1, kc_2, kc_3, kc_4, kc_5, reduceIte, Nat.reduceEqDiff, Nat.add_zero, rI_hold, rI_hold, rL_hold, he36]; done)) ?_
  refine Bod.ildnG dc_95_50 (by repeat (first | exact q2 | exact sm_get_p1 | exact sm_get_p2e | refine sm_get_p1m (by decide) (by decide) ?_ | refine sm_get_p1n (by decide) rfl ?_ | refine sm_get_p2n (by decide) (by decide) rfl ?_)) ?_
  refine Bod.icF dc_95_51 rfl (k2_ne_F (k_eq e36 q rfl rfl (by omega))) ?_
  refine Bod.ildnG dc_95_54 (by repeat (first | exact q3 | exact sm_get_p1 | exact sm_get_p2e | refine sm_get_p1m (by decide) (by decide) ?_ | refine sm_get_p1n (by decide) rfl ?_ | refine sm_get_p2n (by decide) (by decide) rfl ?_)) ?_
  exact Bod.retI dc_95_55 rt_95
theorem cEntE_1 {d : Nat} {S : cS} {lv : sm_L} {t : Nat} {q : Nat} (q4 : sm_get lv 4 = some (.int (nI t))) (q3 : sm_get lv 3 = some (.int (Int32.ofInt (-1)))) (q2 : sm_get lv 2 = some (.int (nI q))) (q0 : sm_get lv 0 = some (.ref 32)) (mt : t < 2 ^ 20) (mq : q < 2 ^ 20) (b1 : 1600 ≤ t) : Bod (d + 8) 95 25 lv [] S (some (.int (Int32.ofInt (-1)))) (S) := by
  refine Bod.ildG dc_95_25 (by repeat (first | exact q4 | exact sm_get_p1 | exact sm_get_p2e | refine sm_get_p1m (by decide) (by decide) ?_ | refine sm_get_p1n (by decide) rfl ?_ | refine sm_get_p2n (by decide) (by decide) rfl ?_)) ?_
  refine Bod.sip 1600 (by decide) dc_95_27 ?_
  refine Bod.icT dc_95_30 rfl (k2_ge_T t 1600 rfl rfl (by omega) (by omega)) ?_
  refine Bod.go dc_95_69 rfl ?_
  exact Bod.retI dc_95_70 rt_95
theorem cEntE_2 {d : Nat} {S : cS} {lv : sm_L} {t : Nat} {q : Nat} (q4 : sm_get lv 4 = some (.int (nI t))) (q3 : sm_get lv 3 = some (.int (Int32.ofInt (-1)))) (q2 : sm_get lv 2 = some (.int (nI q))) (q0 : sm_get lv 0 = some (.ref 32)) (mt : t < 2 ^ 20) (mq : q < 2 ^ 20) (b1 : t < 1600) : Bod (d + 8) 95 25 lv [] S (some (.int (Int32.ofInt (-1)))) (S) := by
  refine Bod.ildG dc_95_25 (by repeat (first | exact q4 | exact sm_get_p1 | exact sm_get_p2e | refine sm_get_p1m (by decide) (by decide) ?_ | refine sm_get_p1n (by decide) rfl ?_ | refine sm_get_p2n (by decide) (by decide) rfl ?_)) ?_
  refine Bod.sip 1600 (by decide) dc_95_27 ?_
  refine Bod.icF dc_95_30 rfl (k2_ge_F t 1600 rfl rfl (by omega) (by omega)) ?_
  refine Bod.ildnG dc_95_33 (by repeat (first | exact q3 | exact sm_get_p1 | exact sm_get_p2e | refine sm_get_p1m (by decide) (by decide) ?_ | refine sm_get_p1n (by decide) rfl ?_ | refine sm_get_p2n (by decide) (by decide) rfl ?_)) ?_
  refine Bod.ifT dc_95_34 rfl (by decide) ?_
  refine Bod.go dc_95_69 rfl ?_
  exact Bod.retI dc_95_70 rt_95
theorem cIns_1 {d : Nat} {S : cS} {i : Nat} {tk : Nat} (mi : i < 2 ^ 20) (htk : sI S 3105 = nI tk) (mtk : tk < 2 ^ 20) (b1 : tk = 0) : Bod (d + 8) 52 0 [(0, .ref 43), (1, .int (nI i))] [] S (some (.int 0)) (S) := by
  refine Bod.go dc_52_0 rfl ?_
  refine Bod.get dc_52_1 fr_52_9 (mk_43 _) rfl ?_
  refine Bod.get dc_52_4 fr_52_79 (mk_31 _) rfl ?_
  refine Bod.eqI (nI tk) (by first | assumption | rfl | exact congrArg nI (by omega) | (simp (disch := omega) only [rI, rIe, rA, rIA, rLA, rJA, rVI, rQI, rVA, rQA, upd_at,  rAI, rLI, rJI, nI_add, pk_sub, kc_0, kc_1, kc_2, kc_3, kc_4, kc_5, reduceIte, Nat.reduceEqDiff, Nat.add_zero, rI_hold, rI_hold, rL_hold, htk]; done)) ?_
  refine Bod.ifT dc_52_7 rfl (k1_eq_T (k_eq tk 0 rfl rfl (by omega))) ?_
  refine Bod.ic 0 (by decide) dc_52_36 ?_
  exact Bod.retZ dc_52_37 rt_52 (Or.inl rfl)
theorem cIns_2 {d : Nat} {S : cS} {i : Nat} {tk : Nat} (mi : i < 2 ^ 20) (htk : sI S 3105 = nI tk) (mtk : tk < 2 ^ 20) (b1 : tk ≠ 0) (b2 : tk = 1) : Bod (d + 8) 52 0 [(0, .ref 43), (1, .int (nI i))] [] S (some (.int 0)) (S) := by
  refine Bod.go dc_52_0 rfl ?_
  refine Bod.get dc_52_1 fr_52_9 (mk_43 _) rfl ?_
  refine Bod.get dc_52_4 fr_52_79 (mk_31 _) rfl ?_
  refine Bod.eqI (nI tk) (by first | assumption | rfl | exact congrArg nI (by omega) | (simp (disch := omega) only [rI, rIe, rA, rIA, rLA, rJA, rVI, rQI, rVA, rQA, upd_at,  rAI, rLI, rJI, nI_add, pk_sub, kc_0, kc_1, kc_2, kc_3, kc_4, kc_5, reduceIte, Nat.reduceEqDiff, Nat.add_zero, rI_hold, rI_hold, rL_hold, htk]; done)) ?_
  refine Bod.ifF dc_52_7 rfl (k1_eq_F (k_ne tk 0 rfl rfl (by omega) (by omega) (by omega))) ?_
  refine Bod.go dc_52_10 rfl ?_
  refine Bod.get dc_52_11 fr_52_9 (mk_43 _) rfl ?_
  refine Bod.get dc_52_14 fr_52_79 (mk_31 _) rfl ?_
  refine Bod.eqI (nI tk) (by first | assumption | rfl | exact congrArg nI (by omega) | (simp (disch := omega) only [rI, rIe, rA, rIA, rLA, rJA, rVI, rQI, rVA, rQA, upd_at,  rAI, rLI, rJI, nI_add, pk_sub, kc_0, kc_1, kc_2, kc_3, kc_4, kc_5, reduceIte, Nat.reduceEqDiff, Nat.add_zero, rI_hold, rI_hold, rL_hold, htk]; done)) ?_
  refine Bod.ic 1 (by decide) dc_52_17 ?_
  refine Bod.icT dc_52_18 rfl (k2_eq_T (k_eq tk 1 rfl rfl (by omega))) ?_
  refine Bod.ic 0 (by decide) dc_52_36 ?_
  exact Bod.retZ dc_52_37 rt_52 (Or.inl rfl)
theorem cIns_3 {d : Nat} {S : cS} {i : Nat} {tk : Nat} {ind : Nat} (mi : i < 2 ^ 20) (htk : sI S 3105 = nI tk) (mtk : tk < 2 ^ 20) (b1 : tk ≠ 0) (b2 : tk ≠ 1) (hind : sI S 3108 = nI ind) (mind : ind < 2 ^ 20) (b3 : ind ≠ i) : Bod (d + 8) 52 0 [(0, .ref 43), (1, .int (nI i))] [] S (some (.int 0)) (S) := by
  refine Bod.go dc_52_0 rfl ?_
  refine Bod.get dc_52_1 fr_52_9 (mk_43 _) rfl ?_
  refine Bod.get dc_52_4 fr_52_79 (mk_31 _) rfl ?_
  refine Bod.eqI (nI tk) (by first | assumption | rfl | exact congrArg nI (by omega) | (simp (disch := omega) only [rI, rIe, rA, rIA, rLA, rJA, rVI, rQI, rVA, rQA, upd_at,  rAI, rLI, rJI, nI_add, pk_sub, kc_0, kc_1, kc_2, kc_3, kc_4, kc_5, reduceIte, Nat.reduceEqDiff, Nat.add_zero, rI_hold, rI_hold, rL_hold, htk]; done)) ?_
  refine Bod.ifF dc_52_7 rfl (k1_eq_F (k_ne tk 0 rfl rfl (by omega) (by omega) (by omega))) ?_
  refine Bod.go dc_52_10 rfl ?_
  refine Bod.get dc_52_11 fr_52_9 (mk_43 _) rfl ?_
  refine Bod.get dc_52_14 fr_52_79 (mk_31 _) rfl ?_
  refine Bod.eqI (nI tk) (by first | assumption | rfl | exact congrArg nI (by omega) | (simp (disch := omega) only [rI, rIe, rA, rIA, rLA, rJA, rVI, rQI, rVA, rQA, upd_at,  rAI, rLI, rJI, nI_add, pk_sub, kc_0, kc_1, kc_2, kc_3, kc_4, kc_5, reduceIte, Nat.reduceEqDiff, Nat.add_zero, rI_hold, rI_hold, rL_hold, htk]; done)) ?_
  refine Bod.ic 1 (by decide) dc_52_17 ?_
  refine Bod.icF dc_52_18 rfl (k2_eq_F (k_ne tk 1 rfl rfl (by omega) (by omega) (by omega))) ?_
  refine Bod.go dc_52_21 rfl ?_
  refine Bod.get dc_52_22 fr_52_9 (mk_43 _) rfl ?_
  refine Bod.get dc_52_25 fr_52_96 (mk_31 _) rfl ?_
  refine Bod.eqI (nI ind) (by first | assumption | rfl | exact congrArg nI (by omega) | (simp (disch := omega) only [rI, rIe, rA, rIA, rLA, rJA, rVI, rQI, rVA, rQA, upd_at,  rAI, rLI, rJI, nI_add, pk_sub, kc_0, kc_1, kc_2, kc_3, kc_4, kc_5, reduceIte, Nat.reduceEqDiff, Nat.add_zero, rI_hold, rI_hold, rL_hold, htk, hind]; done)) ?_
  refine Bod.go dc_52_28 rfl ?_
  refine Bod.icT dc_52_29 rfl (k2_ne_T (k_ne ind i rfl rfl (by omega) (by omega) (by omega))) ?_
  refine Bod.ic 0 (by decide) dc_52_36 ?_
  exact Bod.retZ dc_52_37 rt_52 (Or.inl rfl)
theorem cIns_4 {d : Nat} {S : cS} {i : Nat} {tk : Nat} {ind : Nat} (mi : i < 2 ^ 20) (htk : sI S 3105 = nI tk) (mtk : tk < 2 ^ 20) (b1 : tk ≠ 0) (b2 : tk ≠ 1) (hind : sI S 3108 = nI ind) (mind : ind < 2 ^ 20) (b3 : ind = i) : Bod (d + 8) 52 0 [(0, .ref 43), (1, .int (nI i))] [] S (some (.int 1)) (S) := by
  refine Bod.go dc_52_0 rfl ?_
  refine Bod.get dc_52_1 fr_52_9 (mk_43 _) rfl ?_
  refine Bod.get dc_52_4 fr_52_79 (mk_31 _) rfl ?_
  refine Bod.eqI (nI tk) (by first | assumption | rfl | exact congrArg nI (by omega) | (simp (disch := omega) only [rI, rIe, rA, rIA, rLA, rJA, rVI, rQI, rVA, rQA, upd_at,  rAI, rLI, rJI, nI_add, pk_sub, kc_0, kc_1, kc_2, kc_3, kc_4, kc_5, reduceIte, Nat.reduceEqDiff, Nat.add_zero, rI_hold, rI_hold, rL_hold, htk]; done)) ?_
  refine Bod.ifF dc_52_7 rfl (k1_eq_F (k_ne tk 0 rfl rfl (by omega) (by omega) (by omega))) ?_
  refine Bod.go dc_52_10 rfl ?_
  refine Bod.get dc_52_11 fr_52_9 (mk_43 _) rfl ?_
  refine Bod.get dc_52_14 fr_52_79 (mk_31 _) rfl ?_
  refine Bod.eqI (nI tk) (by first | assumption | rfl | exact congrArg nI (by omega) | (simp (disch := omega) only [rI, rIe, rA, rIA, rLA, rJA, rVI, rQI, rVA, rQA, upd_at,  rAI, rLI, rJI, nI_add, pk_sub, kc_0, kc_1, kc_2, kc_3, kc_4, kc_5, reduceIte, Nat.reduceEqDiff, Nat.add_zero, rI_hold, rI_hold, rL_hold, htk]; done)) ?_
  refine Bod.ic 1 (by decide) dc_52_17 ?_
  refine Bod.icF dc_52_18 rfl (k2_eq_F (k_ne tk 1 rfl rfl (by omega) (by omega) (by omega))) ?_
  refine Bod.go dc_52_21 rfl ?_
  refine Bod.get dc_52_22 fr_52_9 (mk_43 _) rfl ?_
  refine Bod.get dc_52_25 fr_52_96 (mk_31 _) rfl ?_
  refine Bod.eqI (nI ind) (by first | assumption | rfl | exact congrArg nI (by omega) | (simp (disch := omega) only [rI, rIe, rA, rIA, rLA, rJA, rVI, rQI, rVA, rQA, upd_at,  rAI, rLI, rJI, nI_add, pk_sub, kc_0, kc_1, kc_2, kc_3, kc_4, kc_5, reduceIte, Nat.reduceEqDiff, Nat.add_zero, rI_hold, rI_hold, rL_hold, htk, hind]; done)) ?_
  refine Bod.go dc_52_28 rfl ?_
  refine Bod.icF dc_52_29 rfl (k2_ne_F (k_eq ind i rfl rfl (by omega))) ?_
  refine Bod.ic 1 (by decide) dc_52_32 ?_
  refine Bod.go dc_52_33 rfl ?_
  exact Bod.retZ dc_52_37 rt_52 (Or.inr rfl)
theorem cIns_5 {d : Nat} {S : cS} {i : Nat} {tk : Nat} (mi : i < 2 ^ 20) (htk : sI S 3105 = nI tk) (mtk : tk < 2 ^ 20) (b1 : tk ≠ 0) (b2 : tk ≠ 1) (n3 : sI S 3108 = Int32.ofInt (-1)) : Bod (d + 8) 52 0 [(0, .ref 43), (1, .int (nI i))] [] S (some (.int 0)) (S) := by
  refine Bod.go dc_52_0 rfl ?_
  refine Bod.get dc_52_1 fr_52_9 (mk_43 _) rfl ?_
  refine Bod.get dc_52_4 fr_52_79 (mk_31 _) rfl ?_
  refine Bod.eqI (nI tk) (by first | assumption | rfl | exact congrArg nI (by omega) | (simp (disch := omega) only [rI, rIe, rA, rIA, rLA, rJA, rVI, rQI, rVA, rQA, upd_at,  rAI, rLI, rJI, nI_add, pk_sub, kc_0, kc_1, kc_2, kc_3, kc_4, kc_5, reduceIte, Nat.reduceEqDiff, Nat.add_zero, rI_hold, rI_hold, rL_hold, htk]; done)) ?_
  refine Bod.ifF dc_52_7 rfl (k1_eq_F (k_ne tk 0 rfl rfl (by omega) (by omega) (by omega))) ?_
  refine Bod.go dc_52_10 rfl ?_
  refine Bod.get dc_52_11 fr_52_9 (mk_43 _) rfl ?_
  refine Bod.get dc_52_14 fr_52_79 (mk_31 _) rfl ?_
  refine Bod.eqI (nI tk) (by first | assumption | rfl | exact congrArg nI (by omega) | (simp (disch := omega) only [rI, rIe, rA, rIA, rLA, rJA, rVI, rQI, rVA, rQA, upd_at,  rAI, rLI, rJI, nI_add, pk_sub, kc_0, kc_1, kc_2, kc_3, kc_4, kc_5, reduceIte, Nat.reduceEqDiff, Nat.add_zero, rI_hold, rI_hold, rL_hold, htk]; done)) ?_
  refine Bod.ic 1 (by decide) dc_52_17 ?_
  refine Bod.icF dc_52_18 rfl (k2_eq_F (k_ne tk 1 rfl rfl (by omega) (by omega) (by omega))) ?_
  refine Bod.go dc_52_21 rfl ?_
  refine Bod.get dc_52_22 fr_52_9 (mk_43 _) rfl ?_
  refine Bod.get dc_52_25 fr_52_96 (mk_31 _) rfl ?_
  refine Bod.eqI (Int32.ofInt (-1)) (by first | assumption | rfl | exact congrArg nI (by omega) | (simp (disch := omega) only [rI, rIe, rA, rIA, rLA, rJA, rVI, rQI, rVA, rQA, upd_at,  rAI, rLI, rJI, nI_add, pk_sub, kc_0, kc_1, kc_2, kc_3, kc_4, kc_5, reduceIte, Nat.reduceEqDiff, Nat.add_zero, rI_hold, rI_hold, rL_hold, htk, n3]; done)) ?_
  refine Bod.go dc_52_28 rfl ?_
  refine Bod.icT dc_52_29 rfl (ml_ne (by omega)) ?_
  refine Bod.ic 0 (by decide) dc_52_36 ?_
  exact Bod.retZ dc_52_37 rt_52 (Or.inl rfl)
theorem cOpn_1 {d : Nat} {S : cS} {o : Nat} {dp : Nat} {S1 : cS} {S2 : cS} {ind : Nat} {S3 : cS} {tk : Nat} (mo : o < 2 ^ 20) (mdp : dp < 2 ^ 20) (c1 : Ans (d + 8) 75 [.ref 31, .int (nI 13)] S none S1) (c2 : Ans (d + 8) 86 [.ref 31] S1 none S2) (hind : sI S2 3108 = nI ind) (mind : ind < 2 ^ 20) (b1 : ind ≤ o) (c3 : Ans (d + 8) 44 [.ref 31] S2 none S3) (htk : sI S3 3105 = nI tk) (mtk : tk < 2 ^ 20) (b2 : tk = 0) : Bod (d + 8) 85 0 [(0, .ref 43), (1, .int (nI o)), (2, .int (nI dp))] [] S (some (.int 0)) (S3) := by
  refine Bod.go dc_85_0 rfl ?_
  refine Bod.get dc_85_1 fr_85_9 (mk_43 _) rfl ?_
  refine Bod.bip 13 (by decide) dc_85_4 ?_
  refine Bod.virt (r := []) dc_85_6 kr_85_107 ⟨Or.inr rfl, ow_75, cl_3⟩ (by rw [np_75]; rfl) (by rw [np_75]; rfl) (ob_of (mk_31 _)) (Nat.le_of_ble_eq_true rfl) (c1  ) ?_
  show Bod _ _ _ _ [] _ _ _
  refine Bod.go dc_85_9 rfl ?_
  refine Bod.get dc_85_10 fr_85_9 (mk_43 _) rfl ?_
  refine Bod.virt (r := []) dc_85_13 kr_85_110 ⟨Or.inr rfl, ow_86, cl_3⟩ (by rw [np_86]; rfl) (by rw [np_86]; rfl) (ob_of (mk_31 _)) (Nat.le_of_ble_eq_true rfl) (c2  ) ?_
  show Bod _ _ _ _ [] _ _ _
  refine Bod.go dc_85_16 rfl ?_
  refine Bod.get dc_85_17 fr_85_9 (mk_43 _) rfl ?_
  refine Bod.get dc_85_20 fr_85_96 (mk_31 _) rfl ?_
  refine Bod.eqI (nI ind) (by first | (simp (disch := omega) only [rI, rIe, rA, rIA, rLA, rJA, rVI, rQI, rVA, rQA, upd_at,  rAI, rLI, rJI, nI_add, pk_sub, kc_0, kc_1, kc_2, kc_3, kc_4, kc_5, reduceIte, Nat.reduceEqDiff, Nat.add_zero, rI_hold, rI_hold, rL_hold, hind]; done) | (simp (disch := omega) only [rI, rIe, rA, rIA, rLA, rJA, rVI, rQI, rVA, rQA, upd_at,  rAI, rLI, rJI, nI_add, pk_sub, kc_0, kc_1, kc_2, kc_3, kc_4, kc_5, reduceIte, Nat.reduceEqDiff, Nat.add_zero, rI_hold, rI_hold, rL_hold, hind]; exact congrArg nI (by omega))) ?_
  refine Bod.go dc_85_23 rfl ?_
  refine Bod.icT dc_85_24 rfl (k2_le_T ind o rfl rfl (by omega) (by omega)) ?_
  refine Bod.go dc_85_33 rfl ?_
  refine Bod.get dc_85_34 fr_85_9 (mk_43 _) rfl ?_
  refine Bod.virt (r := []) dc_85_37 kr_85_76 ⟨Or.inr rfl, ow_44, cl_3⟩ (by rw [np_44]; rfl) (by rw [np_44]; rfl) (ob_of (mk_31 _)) (Nat.le_of_ble_eq_true rfl) (c3  ) ?_
  show Bod _ _ _ _ [] _ _ _
  refine Bod.go dc_85_40 rfl ?_
  refine Bod.get dc_85_41 fr_85_9 (mk_43 _) rfl ?_
  refine Bod.get dc_85_44 fr_85_79 (mk_31 _) rfl ?_
  refine Bod.eqI (nI tk) (by first | (simp (disch := omega) only [rI, rIe, rA, rIA, rLA, rJA, rVI, rQI, rVA, rQA, upd_at,  rAI, rLI, rJI, nI_add, pk_sub, kc_0, kc_1, kc_2, kc_3, kc_4, kc_5, reduceIte, Nat.reduceEqDiff, Nat.add_zero, rI_hold, rI_hold, rL_hold, hind, htk]; done) | (simp (disch := omega) only [rI, rIe, rA, rIA, rLA, rJA, rVI, rQI, rVA, rQA, upd_at,  rAI, rLI, rJI, nI_add, pk_sub, kc_0, kc_1, kc_2, kc_3, kc_4, kc_5, reduceIte, Nat.reduceEqDiff, Nat.add_zero, rI_hold, rI_hold, rL_hold, hind, htk]; exact congrArg nI (by omega))) ?_
  refine Bod.ifT dc_85_47 rfl (k1_eq_T (k_eq tk 0 rfl rfl (by omega))) ?_
  refine Bod.ic 0 (by decide) dc_85_54 ?_
  exact Bod.retZ dc_85_55 rt_85 (Or.inl rfl)
theorem cOpn_2 {d : Nat} {S : cS} {o : Nat} {dp : Nat} {S1 : cS} {S2 : cS} {ind : Nat} {S3 : cS} {tk : Nat} (mo : o < 2 ^ 20) (mdp : dp < 2 ^ 20) (c1 : Ans (d + 8) 75 [.ref 31, .int (nI 13)] S none S1) (c2 : Ans (d + 8) 86 [.ref 31] S1 none S2) (hind : sI S2 3108 = nI ind) (mind : ind < 2 ^ 20) (b1 : ind ≤ o) (c3 : Ans (d + 8) 44 [.ref 31] S2 none S3) (htk : sI S3 3105 = nI tk) (mtk : tk < 2 ^ 20) (b2 : tk ≠ 0) : Bod (d + 8) 85 0 [(0, .ref 43), (1, .int (nI o)), (2, .int (nI dp))] [] S (some (.int 1)) (S3) := by
  refine Bod.go dc_85_0 rfl ?_
  refine Bod.get dc_85_1 fr_85_9 (mk_43 _) rfl ?_
  refine Bod.bip 13 (by decide) dc_85_4 ?_
  refine Bod.virt (r := []) dc_85_6 kr_85_107 ⟨Or.inr rfl, ow_75, cl_3⟩ (by rw [np_75]; rfl) (by rw [np_75]; rfl) (ob_of (mk_31 _)) (Nat.le_of_ble_eq_true rfl) (c1  ) ?_
  show Bod _ _ _ _ [] _ _ _
  refine Bod.go dc_85_9 rfl ?_
  refine Bod.get dc_85_10 fr_85_9 (mk_43 _) rfl ?_
  refine Bod.virt (r := []) dc_85_13 kr_85_110 ⟨Or.inr rfl, ow_86, cl_3⟩ (by rw [np_86]; rfl) (by rw [np_86]; rfl) (ob_of (mk_31 _)) (Nat.le_of_ble_eq_true rfl) (c2  ) ?_
  show Bod _ _ _ _ [] _ _ _
  refine Bod.go dc_85_16 rfl ?_
  refine Bod.get dc_85_17 fr_85_9 (mk_43 _) rfl ?_
  refine Bod.get dc_85_20 fr_85_96 (mk_31 _) rfl ?_
  refine Bod.eqI (nI ind) (by first | (simp (disch := omega) only [rI, rIe, rA, rIA, rLA, rJA, rVI, rQI, rVA, rQA, upd_at,  rAI, rLI, rJI, nI_add, pk_sub, kc_0, kc_1, kc_2, kc_3, kc_4, kc_5, reduceIte, Nat.reduceEqDiff, Nat.add_zero, rI_hold, rI_hold, rL_hold, hind]; done) | (simp (disch := omega) only [rI, rIe, rA, rIA, rLA, rJA, rVI, rQI, rVA, rQA, upd_at,  rAI, rLI, rJI, nI_add, pk_sub, kc_0, kc_1, kc_2, kc_3, kc_4, kc_5, reduceIte, Nat.reduceEqDiff, Nat.add_zero, rI_hold, rI_hold, rL_hold, hind]; exact congrArg nI (by omega))) ?_
  refine Bod.go dc_85_23 rfl ?_
  refine Bod.icT dc_85_24 rfl (k2_le_T ind o rfl rfl (by omega) (by omega)) ?_
  refine Bod.go dc_85_33 rfl ?_
  refine Bod.get dc_85_34 fr_85_9 (mk_43 _) rfl ?_
  refine Bod.virt (r := []) dc_85_37 kr_85_76 ⟨Or.inr rfl, ow_44, cl_3⟩ (by rw [np_44]; rfl) (by rw [np_44]; rfl) (ob_of (mk_31 _)) (Nat.le_of_ble_eq_true rfl) (c3  ) ?_
  show Bod _ _ _ _ [] _ _ _
  refine Bod.go dc_85_40 rfl ?_
  refine Bod.get dc_85_41 fr_85_9 (mk_43 _) rfl ?_
  refine Bod.get dc_85_44 fr_85_79 (mk_31 _) rfl ?_
  refine Bod.eqI (nI tk) (by first | (simp (disch := omega) only [rI, rIe, rA, rIA, rLA, rJA, rVI, rQI, rVA, rQA, upd_at,  rAI, rLI, rJI, nI_add, pk_sub, kc_0, kc_1, kc_2, kc_3, kc_4, kc_5, reduceIte, Nat.reduceEqDiff, Nat.add_zero, rI_hold, rI_hold, rL_hold, hind, htk]; done) | (simp (disch := omega) only [rI, rIe, rA, rIA, rLA, rJA, rVI, rQI, rVA, rQA, upd_at,  rAI, rLI, rJI, nI_add, pk_sub, kc_0, kc_1, kc_2, kc_3, kc_4, kc_5, reduceIte, Nat.reduceEqDiff, Nat.add_zero, rI_hold, rI_hold, rL_hold, hind, htk]; exact congrArg nI (by omega))) ?_
  refine Bod.ifF dc_85_47 rfl (k1_eq_F (k_ne tk 0 rfl rfl (by omega) (by omega) (by omega))) ?_
  refine Bod.ic 1 (by decide) dc_85_50 ?_
  refine Bod.go dc_85_51 rfl ?_
  exact Bod.retZ dc_85_55 rt_85 (Or.inr rfl)
theorem cOpn_3 {d : Nat} {S : cS} {o : Nat} {dp : Nat} {S1 : cS} {S2 : cS} {ind : Nat} {tk : Nat} (mo : o < 2 ^ 20) (mdp : dp < 2 ^ 20) (c1 : Ans (d + 8) 75 [.ref 31, .int (nI 13)] S none S1) (c2 : Ans (d + 8) 86 [.ref 31] S1 none S2) (hind : sI S2 3108 = nI ind) (mind : ind < 2 ^ 20) (b1 : o < ind) (b2 : dp ≤ 10) (htk : sI S2 3105 = nI tk) (mtk : tk < 2 ^ 20) (b3 : tk = 0) : Bod (d + 8) 85 0 [(0, .ref 43), (1, .int (nI o)), (2, .int (nI dp))] [] S (some (.int 0)) (S2) := by
  refine Bod.go dc_85_0 rfl ?_
  refine Bod.get dc_85_1 fr_85_9 (mk_43 _) rfl ?_
  refine Bod.bip 13 (by decide) dc_85_4 ?_
  refine Bod.virt (r := []) dc_85_6 kr_85_107 ⟨Or.inr rfl, ow_75, cl_3⟩ (by rw [np_75]; rfl) (by rw [np_75]; rfl) (ob_of (mk_31 _)) (Nat.le_of_ble_eq_true rfl) (c1  ) ?_
  show Bod _ _ _ _ [] _ _ _
  refine Bod.go dc_85_9 rfl ?_
  refine Bod.get dc_85_10 fr_85_9 (mk_43 _) rfl ?_
  refine Bod.virt (r := []) dc_85_13 kr_85_110 ⟨Or.inr rfl, ow_86, cl_3⟩ (by rw [np_86]; rfl) (by rw [np_86]; rfl) (ob_of (mk_31 _)) (Nat.le_of_ble_eq_true rfl) (c2  ) ?_
  show Bod _ _ _ _ [] _ _ _
  refine Bod.go dc_85_16 rfl ?_
  refine Bod.get dc_85_17 fr_85_9 (mk_43 _) rfl ?_
  refine Bod.get dc_85_20 fr_85_96 (mk_31 _) rfl ?_
  refine Bod.eqI (nI ind) (by first | (simp (disch := omega) only [rI, rIe, rA, rIA, rLA, rJA, rVI, rQI, rVA, rQA, upd_at,  rAI, rLI, rJI, nI_add, pk_sub, kc_0, kc_1, kc_2, kc_3, kc_4, kc_5, reduceIte, Nat.reduceEqDiff, Nat.add_zero, rI_hold, rI_hold, rL_hold, hind]; done) | (simp (disch := omega) only [rI, rIe, rA, rIA, rLA, rJA, rVI, rQI, rVA, rQA, upd_at,  rAI, rLI, rJI, nI_add, pk_sub, kc_0, kc_1, kc_2, kc_3, kc_4, kc_5, reduceIte, Nat.reduceEqDiff, Nat.add_zero, rI_hold, rI_hold, rL_hold, hind]; exact congrArg nI (by omega))) ?_
  refine Bod.go dc_85_23 rfl ?_
  refine Bod.icF dc_85_24 rfl (k2_le_F ind o rfl rfl (by omega) (by omega)) ?_
  refine Bod.go dc_85_27 rfl ?_
  refine Bod.bip 10 (by decide) dc_85_28 ?_
  refine Bod.icT dc_85_30 rfl (k2_le_T dp 10 rfl rfl (by omega) (by omega)) ?_
  refine Bod.go dc_85_40 rfl ?_
  refine Bod.get dc_85_41 fr_85_9 (mk_43 _) rfl ?_
  refine Bod.get dc_85_44 fr_85_79 (mk_31 _) rfl ?_
  refine Bod.eqI (nI tk) (by first | (simp (disch := omega) only [rI, rIe, rA, rIA, rLA, rJA, rVI, rQI, rVA, rQA, upd_at,  rAI, rLI, rJI, nI_add, pk_sub, kc_0, kc_1, kc_2, kc_3, kc_4, kc_5, reduceIte, Nat.reduceEqDiff, Nat.add_zero, rI_hold, rI_hold, rL_hold, hind, htk]; done) | (simp (disch := omega) only [rI, rIe, rA, rIA, rLA, rJA, rVI, rQI, rVA, rQA, upd_at,  rAI, rLI, rJI, nI_add, pk_sub, kc_0, kc_1, kc_2, kc_3, kc_4, kc_5, reduceIte, Nat.reduceEqDiff, Nat.add_zero, rI_hold, rI_hold, rL_hold, hind, htk]; exact congrArg nI (by omega))) ?_
  refine Bod.ifT dc_85_47 rfl (k1_eq_T (k_eq tk 0 rfl rfl (by omega))) ?_
  refine Bod.ic 0 (by decide) dc_85_54 ?_
  exact Bod.retZ dc_85_55 rt_85 (Or.inl rfl)
theorem cOpn_4 {d : Nat} {S : cS} {o : Nat} {dp : Nat} {S1 : cS} {S2 : cS} {ind : Nat} {tk : Nat} (mo : o < 2 ^ 20) (mdp : dp < 2 ^ 20) (c1 : Ans (d + 8) 75 [.ref 31, .int (nI 13)] S none S1) (c2 : Ans (d + 8) 86 [.ref 31] S1 none S2) (hind : sI S2 3108 = nI ind) (mind : ind < 2 ^ 20) (b1 : o < ind) (b2 : dp ≤ 10) (htk : sI S2 3105 = nI tk) (mtk : tk < 2 ^ 20) (b3 : tk ≠ 0) : Bod (d + 8) 85 0 [(0, .ref 43), (1, .int (nI o)), (2, .int (nI dp))] [] S (some (.int 1)) (S2) := by
  refine Bod.go dc_85_0 rfl ?_
  refine Bod.get dc_85_1 fr_85_9 (mk_43 _) rfl ?_
  refine Bod.bip 13 (by decide) dc_85_4 ?_
  refine Bod.virt (r := []) dc_85_6 kr_85_107 ⟨Or.inr rfl, ow_75, cl_3⟩ (by rw [np_75]; rfl) (by rw [np_75]; rfl) (ob_of (mk_31 _)) (Nat.le_of_ble_eq_true rfl) (c1  ) ?_
  show Bod _ _ _ _ [] _ _ _
  refine Bod.go dc_85_9 rfl ?_
  refine Bod.get dc_85_10 fr_85_9 (mk_43 _) rfl ?_
  refine Bod.virt (r := []) dc_85_13 kr_85_110 ⟨Or.inr rfl, ow_86, cl_3⟩ (by rw [np_86]; rfl) (by rw [np_86]; rfl) (ob_of (mk_31 _)) (Nat.le_of_ble_eq_true rfl) (c2  ) ?_
  show Bod _ _ _ _ [] _ _ _
  refine Bod.go dc_85_16 rfl ?_
  refine Bod.get dc_85_17 fr_85_9 (mk_43 _) rfl ?_
  refine Bod.get dc_85_20 fr_85_96 (mk_31 _) rfl ?_
  refine Bod.eqI (nI ind) (by first | (simp (disch := omega) only [rI, rIe, rA, rIA, rLA, rJA, rVI, rQI, rVA, rQA, upd_at,  rAI, rLI, rJI, nI_add, pk_sub, kc_0, kc_1, kc_2, kc_3, kc_4, kc_5, reduceIte, Nat.reduceEqDiff, Nat.add_zero, rI_hold, rI_hold, rL_hold, hind]; done) | (simp (disch := omega) only [rI, rIe, rA, rIA, rLA, rJA, rVI, rQI, rVA, rQA, upd_at,  rAI, rLI, rJI, nI_add, pk_sub, kc_0, kc_1, kc_2, kc_3, kc_4, kc_5, reduceIte, Nat.reduceEqDiff, Nat.add_zero, rI_hold, rI_hold, rL_hold, hind]; exact congrArg nI (by omega))) ?_
  refine Bod.go dc_85_23 rfl ?_
  refine Bod.icF dc_85_24 rfl (k2_le_F ind o rfl rfl (by omega) (by omega)) ?_
  refine Bod.go dc_85_27 rfl ?_
  refine Bod.bip 10 (by decide) dc_85_28 ?_
  refine Bod.icT dc_85_30 rfl (k2_le_T dp 10 rfl rfl (by omega) (by omega)) ?_
  refine Bod.go dc_85_40 rfl ?_
  refine Bod.get dc_85_41 fr_85_9 (mk_43 _) rfl ?_
  refine Bod.get dc_85_44 fr_85_79 (mk_31 _) rfl ?_
  refine Bod.eqI (nI tk) (by first | (simp (disch := omega) only [rI, rIe, rA, rIA, rLA, rJA, rVI, rQI, rVA, rQA, upd_at,  rAI, rLI, rJI, nI_add, pk_sub, kc_0, kc_1, kc_2, kc_3, kc_4, kc_5, reduceIte, Nat.reduceEqDiff, Nat.add_zero, rI_hold, rI_hold, rL_hold, hind, htk]; done) | (simp (disch := omega) only [rI, rIe, rA, rIA, rLA, rJA, rVI, rQI, rVA, rQA, upd_at,  rAI, rLI, rJI, nI_add, pk_sub, kc_0, kc_1, kc_2, kc_3, kc_4, kc_5, reduceIte, Nat.reduceEqDiff, Nat.add_zero, rI_hold, rI_hold, rL_hold, hind, htk]; exact congrArg nI (by omega))) ?_
  refine Bod.ifF dc_85_47 rfl (k1_eq_F (k_ne tk 0 rfl rfl (by omega) (by omega) (by omega))) ?_
  refine Bod.ic 1 (by decide) dc_85_50 ?_
  refine Bod.go dc_85_51 rfl ?_
  exact Bod.retZ dc_85_55 rt_85 (Or.inr rfl)
theorem cOpn_5 {d : Nat} {S : cS} {o : Nat} {dp : Nat} {S1 : cS} {S2 : cS} {ind : Nat} {S3 : cS} {tk : Nat} (mo : o < 2 ^ 20) (mdp : dp < 2 ^ 20) (c1 : Ans (d + 8) 75 [.ref 31, .int (nI 13)] S none S1) (c2 : Ans (d + 8) 86 [.ref 31] S1 none S2) (hind : sI S2 3108 = nI ind) (mind : ind < 2 ^ 20) (b1 : o < ind) (b2 : 10 < dp) (c3 : Ans (d + 8) 44 [.ref 31] S2 none S3) (htk : sI S3 3105 = nI tk) (mtk : tk < 2 ^ 20) (b3 : tk = 0) : Bod (d + 8) 85 0 [(0, .ref 43), (1, .int (nI o)), (2, .int (nI dp))] [] S (some (.int 0)) (S3) := by
  refine Bod.go dc_85_0 rfl ?_
  refine Bod.get dc_85_1 fr_85_9 (mk_43 _) rfl ?_
  refine Bod.bip 13 (by decide) dc_85_4 ?_
  refine Bod.virt (r := []) dc_85_6 kr_85_107 ⟨Or.inr rfl, ow_75, cl_3⟩ (by rw [np_75]; rfl) (by rw [np_75]; rfl) (ob_of (mk_31 _)) (Nat.le_of_ble_eq_true rfl) (c1  ) ?_
  show Bod _ _ _ _ [] _ _ _
  refine Bod.go dc_85_9 rfl ?_
  refine Bod.get dc_85_10 fr_85_9 (mk_43 _) rfl ?_
  refine Bod.virt (r := []) dc_85_13 kr_85_110 ⟨Or.inr rfl, ow_86, cl_3⟩ (by rw [np_86]; rfl) (by rw [np_86]; rfl) (ob_of (mk_31 _)) (Nat.le_of_ble_eq_true rfl) (c2  ) ?_
  show Bod _ _ _ _ [] _ _ _
  refine Bod.go dc_85_16 rfl ?_
  refine Bod.get dc_85_17 fr_85_9 (mk_43 _) rfl ?_
  refine Bod.get dc_85_20 fr_85_96 (mk_31 _) rfl ?_
  refine Bod.eqI (nI ind) (by first | (simp (disch := omega) only [rI, rIe, rA, rIA, rLA, rJA, rVI, rQI, rVA, rQA, upd_at,  rAI, rLI, rJI, nI_add, pk_sub, kc_0, kc_1, kc_2, kc_3, kc_4, kc_5, reduceIte, Nat.reduceEqDiff, Nat.add_zero, rI_hold, rI_hold, rL_hold, hind]; done) | (simp (disch := omega) only [rI, rIe, rA, rIA, rLA, rJA, rVI, rQI, rVA, rQA, upd_at,  rAI, rLI, rJI, nI_add, pk_sub, kc_0, kc_1, kc_2, kc_3, kc_4, kc_5, reduceIte, Nat.reduceEqDiff, Nat.add_zero, rI_hold, rI_hold, rL_hold, hind]; exact congrArg nI (by omega))) ?_
  refine Bod.go dc_85_23 rfl ?_
  refine Bod.icF dc_85_24 rfl (k2_le_F ind o rfl rfl (by omega) (by omega)) ?_
  refine Bod.go dc_85_27 rfl ?_
  refine Bod.bip 10 (by decide) dc_85_28 ?_
  refine Bod.icF dc_85_30 rfl (k2_le_F dp 10 rfl rfl (by omega) (by omega)) ?_
  refine Bod.go dc_85_33 rfl ?_
  refine Bod.get dc_85_34 fr_85_9 (mk_43 _) rfl ?_
  refine Bod.virt (r := []) dc_85_37 kr_85_76 ⟨Or.inr rfl, ow_44, cl_3⟩ (by rw [np_44]; rfl) (by rw [np_44]; rfl) (ob_of (mk_31 _)) (Nat.le_of_ble_eq_true rfl) (c3  ) ?_
  show Bod _ _ _ _ [] _ _ _
  refine Bod.go dc_85_40 rfl ?_
  refine Bod.get dc_85_41 fr_85_9 (mk_43 _) rfl ?_
  refine Bod.get dc_85_44 fr_85_79 (mk_31 _) rfl ?_
  refine Bod.eqI (nI tk) (by first | (simp (disch := omega) only [rI, rIe, rA, rIA, rLA, rJA, rVI, rQI, rVA, rQA, upd_at,  rAI, rLI, rJI, nI_add, pk_sub, kc_0, kc_1, kc_2, kc_3, kc_4, kc_5, reduceIte, Nat.reduceEqDiff, Nat.add_zero, rI_hold, rI_hold, rL_hold, hind, htk]; done) | (simp (disch := omega) only [rI, rIe, rA, rIA, rLA, rJA, rVI, rQI, rVA, rQA, upd_at,  rAI, rLI, rJI, nI_add, pk_sub, kc_0, kc_1, kc_2, kc_3, kc_4, kc_5, reduceIte, Nat.reduceEqDiff, Nat.add_zero, rI_hold, rI_hold, rL_hold, hind, htk]; exact congrArg nI (by omega))) ?_
  refine Bod.ifT dc_85_47 rfl (k1_eq_T (k_eq tk 0 rfl rfl (by omega))) ?_
  refine Bod.ic 0 (by decide) dc_85_54 ?_
  exact Bod.retZ dc_85_55 rt_85 (Or.inl rfl)
theorem cOpn_6 {d : Nat} {S : cS} {o : Nat} {dp : Nat} {S1 : cS} {S2 : cS} {ind : Nat} {S3 : cS} {tk : Nat} (mo : o < 2 ^ 20) (mdp : dp < 2 ^ 20) (c1 : Ans (d + 8) 75 [.ref 31, .int (nI 13)] S none S1) (c2 : Ans (d + 8) 86 [.ref 31] S1 none S2) (hind : sI S2 3108 = nI ind) (mind : ind < 2 ^ 20) (b1 : o < ind) (b2 : 10 < dp) (c3 : Ans (d + 8) 44 [.ref 31] S2 none S3) (htk : sI S3 3105 = nI tk) (mtk : tk < 2 ^ 20) (b3 : tk ≠ 0) : Bod (d + 8) 85 0 [(0, .ref 43), (1, .int (nI o)), (2, .int (nI dp))] [] S (some (.int 1)) (S3) := by
  refine Bod.go dc_85_0 rfl ?_
  refine Bod.get dc_85_1 fr_85_9 (mk_43 _) rfl ?_
  refine Bod.bip 13 (by decide) dc_85_4 ?_
  refine Bod.virt (r := []) dc_85_6 kr_85_107 ⟨Or.inr rfl, ow_75, cl_3⟩ (by rw [np_75]; rfl) (by rw [np_75]; rfl) (ob_of (mk_31 _)) (Nat.le_of_ble_eq_true rfl) (c1  ) ?_
  show Bod _ _ _ _ [] _ _ _
  refine Bod.go dc_85_9 rfl ?_
  refine Bod.get dc_85_10 fr_85_9 (mk_43 _) rfl ?_
  refine Bod.virt (r := []) dc_85_13 kr_85_110 ⟨Or.inr rfl, ow_86, cl_3⟩ (by rw [np_86]; rfl) (by rw [np_86]; rfl) (ob_of (mk_31 _)) (Nat.le_of_ble_eq_true rfl) (c2  ) ?_
  show Bod _ _ _ _ [] _ _ _
  refine Bod.go dc_85_16 rfl ?_
  refine Bod.get dc_85_17 fr_85_9 (mk_43 _) rfl ?_
  refine Bod.get dc_85_20 fr_85_96 (mk_31 _) rfl ?_
  refine Bod.eqI (nI ind) (by first | (simp (disch := omega) only [rI, rIe, rA, rIA, rLA, rJA, rVI, rQI, rVA, rQA, upd_at,  rAI, rLI, rJI, nI_add, pk_sub, kc_0, kc_1, kc_2, kc_3, kc_4, kc_5, reduceIte, Nat.reduceEqDiff, Nat.add_zero, rI_hold, rI_hold, rL_hold, hind]; done) | (simp (disch := omega) only [rI, rIe, rA, rIA, rLA, rJA, rVI, rQI, rVA, rQA, upd_at,  rAI, rLI, rJI, nI_add, pk_sub, kc_0, kc_1, kc_2, kc_3, kc_4, kc_5, reduceIte, Nat.reduceEqDiff, Nat.add_zero, rI_hold, rI_hold, rL_hold, hind]; exact congrArg nI (by omega))) ?_
  refine Bod.go dc_85_23 rfl ?_
  refine Bod.icF dc_85_24 rfl (k2_le_F ind o rfl rfl (by omega) (by omega)) ?_
  refine Bod.go dc_85_27 rfl ?_
  refine Bod.bip 10 (by decide) dc_85_28 ?_
  refine Bod.icF dc_85_30 rfl (k2_le_F dp 10 rfl rfl (by omega) (by omega)) ?_
  refine Bod.go dc_85_33 rfl ?_
  refine Bod.get dc_85_34 fr_85_9 (mk_43 _) rfl ?_
  refine Bod.virt (r := []) dc_85_37 kr_85_76 ⟨Or.inr rfl, ow_44, cl_3⟩ (by rw [np_44]; rfl) (by rw [np_44]; rfl) (ob_of (mk_31 _)) (Nat.le_of_ble_eq_true rfl) (c3  ) ?_
  show Bod _ _ _ _ [] _ _ _
  refine Bod.go dc_85_40 rfl ?_
  refine Bod.get dc_85_41 fr_85_9 (mk_43 _) rfl ?_
  refine Bod.get dc_85_44 fr_85_79 (mk_31 _) rfl ?_
  refine Bod.eqI (nI tk) (by first | (simp (disch := omega) only [rI, rIe, rA, rIA, rLA, rJA, rVI, rQI, rVA, rQA, upd_at,  rAI, rLI, rJI, nI_add, pk_sub, kc_0, kc_1, kc_2, kc_3, kc_4, kc_5, reduceIte, Nat.reduceEqDiff, Nat.add_zero, rI_hold, rI_hold, rL_hold, hind, htk]; done) | (simp (disch := omega) only [rI, rIe, rA, rIA, rLA, rJA, rVI, rQI, rVA, rQA, upd_at,  rAI, rLI, rJI, nI_add, pk_sub, kc_0, kc_1, kc_2, kc_3, kc_4, kc_5, reduceIte, Nat.reduceEqDiff, Nat.add_zero, rI_hold, rI_hold, rL_hold, hind, htk]; exact congrArg nI (by omega))) ?_
  refine Bod.ifF dc_85_47 rfl (k1_eq_F (k_ne tk 0 rfl rfl (by omega) (by omega) (by omega))) ?_
  refine Bod.ic 1 (by decide) dc_85_50 ?_
  refine Bod.go dc_85_51 rfl ?_
  exact Bod.retZ dc_85_55 rt_85 (Or.inr rfl)
theorem cOpn_7 {d : Nat} {S : cS} {o : Nat} {dp : Nat} {S1 : cS} {S2 : cS} {S3 : cS} {tk : Nat} (mo : o < 2 ^ 20) (mdp : dp < 2 ^ 20) (c1 : Ans (d + 8) 75 [.ref 31, .int (nI 13)] S none S1) (c2 : Ans (d + 8) 86 [.ref 31] S1 none S2) (n1 : sI S2 3108 = Int32.ofInt (-1)) (c3 : Ans (d + 8) 44 [.ref 31] S2 none S3) (htk : sI S3 3105 = nI tk) (mtk : tk < 2 ^ 20) (b2 : tk = 0) : Bod (d + 8) 85 0 [(0, .ref 43), (1, .int (nI o)), (2, .int (nI dp))] [] S (some (.int 0)) (S3) := by
  refine Bod.go dc_85_0 rfl ?_
  refine Bod.get dc_85_1 fr_85_9 (mk_43 _) rfl ?_
  refine Bod.bip 13 (by decide) dc_85_4 ?_
  refine Bod.virt (r := []) dc_85_6 kr_85_107 ⟨Or.inr rfl, ow_75, cl_3⟩ (by rw [np_75]; rfl) (by rw [np_75]; rfl) (ob_of (mk_31 _)) (Nat.le_of_ble_eq_true rfl) (c1  ) ?_
  show Bod _ _ _ _ [] _ _ _
  refine Bod.go dc_85_9 rfl ?_
  refine Bod.get dc_85_10 fr_85_9 (mk_43 _) rfl ?_
  refine Bod.virt (r := []) dc_85_13 kr_85_110 ⟨Or.inr rfl, ow_86, cl_3⟩ (by rw [np_86]; rfl) (by rw [np_86]; rfl) (ob_of (mk_31 _)) (Nat.le_of_ble_eq_true rfl) (c2  ) ?_
  show Bod _ _ _ _ [] _ _ _
  refine Bod.go dc_85_16 rfl ?_
  refine Bod.get dc_85_17 fr_85_9 (mk_43 _) rfl ?_
  refine Bod.get dc_85_20 fr_85_96 (mk_31 _) rfl ?_
  refine Bod.eqI (Int32.ofInt (-1)) (by first | (simp (disch := omega) only [rI, rIe, rA, rIA, rLA, rJA, rVI, rQI, rVA, rQA, upd_at,  rAI, rLI, rJI, nI_add, pk_sub, kc_0, kc_1, kc_2, kc_3, kc_4, kc_5, reduceIte, Nat.reduceEqDiff, Nat.add_zero, rI_hold, rI_hold, rL_hold, n1]; done) | (simp (disch := omega) only [rI, rIe, rA, rIA, rLA, rJA, rVI, rQI, rVA, rQA, upd_at,  rAI, rLI, rJI, nI_add, pk_sub, kc_0, kc_1, kc_2, kc_3, kc_4, kc_5, reduceIte, Nat.reduceEqDiff, Nat.add_zero, rI_hold, rI_hold, rL_hold, n1]; exact congrArg nI (by omega))) ?_
  refine Bod.go dc_85_23 rfl ?_
  refine Bod.icT dc_85_24 rfl (ml_le (by omega)) ?_
  refine Bod.go dc_85_33 rfl ?_
  refine Bod.get dc_85_34 fr_85_9 (mk_43 _) rfl ?_
  refine Bod.virt (r := []) dc_85_37 kr_85_76 ⟨Or.inr rfl, ow_44, cl_3⟩ (by rw [np_44]; rfl) (by rw [np_44]; rfl) (ob_of (mk_31 _)) (Nat.le_of_ble_eq_true rfl) (c3  ) ?_
  show Bod _ _ _ _ [] _ _ _
  refine Bod.go dc_85_40 rfl ?_
  refine Bod.get dc_85_41 fr_85_9 (mk_43 _) rfl ?_
  refine Bod.get dc_85_44 fr_85_79 (mk_31 _) rfl ?_
  refine Bod.eqI (nI tk) (by first | (simp (disch := omega) only [rI, rIe, rA, rIA, rLA, rJA, rVI, rQI, rVA, rQA, upd_at,  rAI, rLI, rJI, nI_add, pk_sub, kc_0, kc_1, kc_2, kc_3, kc_4, kc_5, reduceIte, Nat.reduceEqDiff, Nat.add_zero, rI_hold, rI_hold, rL_hold, n1, htk]; done) | (simp (disch := omega) only [rI, rIe, rA, rIA, rLA, rJA, rVI, rQI, rVA, rQA, upd_at,  rAI, rLI, rJI, nI_add, pk_sub, kc_0, kc_1, kc_2, kc_3, kc_4, kc_5, reduceIte, Nat.reduceEqDiff, Nat.add_zero, rI_hold, rI_hold, rL_hold, n1, htk]; exact congrArg nI (by omega))) ?_
  refine Bod.ifT dc_85_47 rfl (k1_eq_T (k_eq tk 0 rfl rfl (by omega))) ?_
  refine Bod.ic 0 (by decide) dc_85_54 ?_
  exact Bod.retZ dc_85_55 rt_85 (Or.inl rfl)
theorem cOpn_8 {d : Nat} {S : cS} {o : Nat} {dp : Nat} {S1 : cS} {S2 : cS} {S3 : cS} {tk : Nat} (mo : o < 2 ^ 20) (mdp : dp < 2 ^ 20) (c1 : Ans (d + 8) 75 [.ref 31, .int (nI 13)] S none S1) (c2 : Ans (d + 8) 86 [.ref 31] S1 none S2) (n1 : sI S2 3108 = Int32.ofInt (-1)) (c3 : Ans (d + 8) 44 [.ref 31] S2 none S3) (htk : sI S3 3105 = nI tk) (mtk : tk < 2 ^ 20) (b2 : tk ≠ 0) : Bod (d + 8) 85 0 [(0, .ref 43), (1, .int (nI o)), (2, .int (nI dp))] [] S (some (.int 1)) (S3) := by
  refine Bod.go dc_85_0 rfl ?_
  refine Bod.get dc_85_1 fr_85_9 (mk_43 _) rfl ?_
  refine Bod.bip 13 (by decide) dc_85_4 ?_
  refine Bod.virt (r := []) dc_85_6 kr_85_107 ⟨Or.inr rfl, ow_75, cl_3⟩ (by rw [np_75]; rfl) (by rw [np_75]; rfl) (ob_of (mk_31 _)) (Nat.le_of_ble_eq_true rfl) (c1  ) ?_
  show Bod _ _ _ _ [] _ _ _
  refine Bod.go dc_85_9 rfl ?_
  refine Bod.get dc_85_10 fr_85_9 (mk_43 _) rfl ?_
  refine Bod.virt (r := []) dc_85_13 kr_85_110 ⟨Or.inr rfl, ow_86, cl_3⟩ (by rw [np_86]; rfl) (by rw [np_86]; rfl) (ob_of (mk_31 _)) (Nat.le_of_ble_eq_true rfl) (c2  ) ?_
  show Bod _ _ _ _ [] _ _ _
  refine Bod.go dc_85_16 rfl ?_
  refine Bod.get dc_85_17 fr_85_9 (mk_43 _) rfl ?_
  refine Bod.get dc_85_20 fr_85_96 (mk_31 _) rfl ?_
  refine Bod.eqI (Int32.ofInt (-1)) (by first | (simp (disch := omega) only [rI, rIe, rA, rIA, rLA, rJA, rVI, rQI, rVA, rQA, upd_at,  rAI, rLI, rJI, nI_add, pk_sub, kc_0, kc_1, kc_2, kc_3, kc_4, kc_5, reduceIte, Nat.reduceEqDiff, Nat.add_zero, rI_hold, rI_hold, rL_hold, n1]; done) | (simp (disch := omega) only [rI, rIe, rA, rIA, rLA, rJA, rVI, rQI, rVA, rQA, upd_at,  rAI, rLI, rJI, nI_add, pk_sub, kc_0, kc_1, kc_2, kc_3, kc_4, kc_5, reduceIte, Nat.reduceEqDiff, Nat.add_zero, rI_hold, rI_hold, rL_hold, n1]; exact congrArg nI (by omega))) ?_
  refine Bod.go dc_85_23 rfl ?_
  refine Bod.icT dc_85_24 rfl (ml_le (by omega)) ?_
  refine Bod.go dc_85_33 rfl ?_
  refine Bod.get dc_85_34 fr_85_9 (mk_43 _) rfl ?_
  refine Bod.virt (r := []) dc_85_37 kr_85_76 ⟨Or.inr rfl, ow_44, cl_3⟩ (by rw [np_44]; rfl) (by rw [np_44]; rfl) (ob_of (mk_31 _)) (Nat.le_of_ble_eq_true rfl) (c3  ) ?_
  show Bod _ _ _ _ [] _ _ _
  refine Bod.go dc_85_40 rfl ?_
  refine Bod.get dc_85_41 fr_85_9 (mk_43 _) rfl ?_
  refine Bod.get dc_85_44 fr_85_79 (mk_31 _) rfl ?_
  refine Bod.eqI (nI tk) (by first | (simp (disch := omega) only [rI, rIe, rA, rIA, rLA, rJA, rVI, rQI, rVA, rQA, upd_at,  rAI, rLI, rJI, nI_add, pk_sub, kc_0, kc_1, kc_2, kc_3, kc_4, kc_5, reduceIte, Nat.reduceEqDiff, Nat.add_zero, rI_hold, rI_hold, rL_hold, n1, htk]; done) | (simp (disch := omega) only [rI, rIe, rA, rIA, rLA, rJA, rVI, rQI, rVA, rQA, upd_at,  rAI, rLI, rJI, nI_add, pk_sub, kc_0, kc_1, kc_2, kc_3, kc_4, kc_5, reduceIte, Nat.reduceEqDiff, Nat.add_zero, rI_hold, rI_hold, rL_hold, n1, htk]; exact congrArg nI (by omega))) ?_
  refine Bod.ifF dc_85_47 rfl (k1_eq_F (k_ne tk 0 rfl rfl (by omega) (by omega) (by omega))) ?_
  refine Bod.ic 1 (by decide) dc_85_50 ?_
  refine Bod.go dc_85_51 rfl ?_
  exact Bod.retZ dc_85_55 rt_85 (Or.inr rfl)
theorem cBlk_1 {d : Nat} {S : cS} {o : Nat} {dp : Nat} {S1 : cS} {ind : Nat} {S2 : cS} (mo : o < 2 ^ 20) (mdp : dp < 2 ^ 20) (c1 : Ans (d + 8) 85 [.ref 43, .int (nI o), .int (nI dp)] S (some (.int (nI 1))) S1) (hind : sI S1 3108 = nI ind) (mind : ind < 2 ^ 20) (c2 : Ans (d + 8) 51 [.ref 43, .int (nI ind), .int (nI dp)] S1 none S2) : Bod (d + 8) 84 0 [(0, .ref 43), (1, .int (nI o)), (2, .int (nI dp))] [] S none (S2) := by
  refine Bod.go dc_84_0 rfl ?_
  refine Bod.go dc_84_1 rfl ?_
  refine Bod.go dc_84_2 rfl ?_
  refine Bod.virt (r := []) dc_84_3 kr_84_99 ⟨Or.inl rfl, ow_85, cl_10⟩ (by rw [np_85]; rfl) (by rw [np_85]; rfl) (ob_of (mk_43 _)) (Nat.le_of_ble_eq_true rfl) (c1  ) ?_
  show Bod _ _ _ _ [_] _ _ _
  refine Bod.ifF dc_84_6 rfl (k1_eq_F (k_ne 1 0 rfl rfl (by omega) (by omega) (by omega))) ?_
  refine Bod.go dc_84_9 rfl ?_
  refine Bod.go dc_84_10 rfl ?_
  refine Bod.get dc_84_11 fr_84_9 (mk_43 _) rfl ?_
  refine Bod.get dc_84_14 fr_84_96 (mk_31 _) rfl ?_
  refine Bod.eqI (nI ind) (by first | (simp (disch := omega) only [rI, rIe, rA, rIA, rLA, rJA, rVI, rQI, rVA, rQA, upd_at,  rAI, rLI, rJI, nI_add, pk_sub, kc_0, kc_1, kc_2, kc_3, kc_4, kc_5, reduceIte, Nat.reduceEqDiff, Nat.add_zero, rI_hold, rI_hold, rL_hold, hind]; done) | (simp (disch := omega) only [rI, rIe, rA, rIA, rLA, rJA, rVI, rQI, rVA, rQA, upd_at,  rAI, rLI, rJI, nI_add, pk_sub, kc_0, kc_1, kc_2, kc_3, kc_4, kc_5, reduceIte, Nat.reduceEqDiff, Nat.add_zero, rI_hold, rI_hold, rL_hold, hind]; exact congrArg nI (by omega))) ?_
  refine Bod.go dc_84_17 rfl ?_
  refine Bod.virt (r := []) dc_84_18 kr_84_103 ⟨Or.inl rfl, ow_51, cl_10⟩ (by rw [np_51]; rfl) (by rw [np_51]; rfl) (ob_of (mk_43 _)) (Nat.le_of_ble_eq_true rfl) (c2  ) ?_
  show Bod _ _ _ _ [] _ _ _
  exact Bod.retV dc_84_21 rt_84
theorem cBlk_2 {d : Nat} {S : cS} {o : Nat} {dp : Nat} {S1 : cS} {S2 : cS} (mo : o < 2 ^ 20) (mdp : dp < 2 ^ 20) (c1 : Ans (d + 8) 85 [.ref 43, .int (nI o), .int (nI dp)] S (some (.int (nI 1))) S1) (n1 : sI S1 3108 = Int32.ofInt (-1)) (c2 : Ans (d + 8) 51 [.ref 43, .int (Int32.ofInt (-1)), .int (nI dp)] S1 none S2) : Bod (d + 8) 84 0 [(0, .ref 43), (1, .int (nI o)), (2, .int (nI dp))] [] S none (S2) := by
  refine Bod.go dc_84_0 rfl ?_
  refine Bod.go dc_84_1 rfl ?_
  refine Bod.go dc_84_2 rfl ?_
  refine Bod.virt (r := []) dc_84_3 kr_84_99 ⟨Or.inl rfl, ow_85, cl_10⟩ (by rw [np_85]; rfl) (by rw [np_85]; rfl) (ob_of (mk_43 _)) (Nat.le_of_ble_eq_true rfl) (c1  ) ?_
  show Bod _ _ _ _ [_] _ _ _
  refine Bod.ifF dc_84_6 rfl (k1_eq_F (k_ne 1 0 rfl rfl (by omega) (by omega) (by omega))) ?_
  refine Bod.go dc_84_9 rfl ?_
  refine Bod.go dc_84_10 rfl ?_
  refine Bod.get dc_84_11 fr_84_9 (mk_43 _) rfl ?_
  refine Bod.get dc_84_14 fr_84_96 (mk_31 _) rfl ?_
  refine Bod.eqI (Int32.ofInt (-1)) (by first | (simp (disch := omega) only [rI, rIe, rA, rIA, rLA, rJA, rVI, rQI, rVA, rQA, upd_at,  rAI, rLI, rJI, nI_add, pk_sub, kc_0, kc_1, kc_2, kc_3, kc_4, kc_5, reduceIte, Nat.reduceEqDiff, Nat.add_zero, rI_hold, rI_hold, rL_hold, n1]; done) | (simp (disch := omega) only [rI, rIe, rA, rIA, rLA, rJA, rVI, rQI, rVA, rQA, upd_at,  rAI, rLI, rJI, nI_add, pk_sub, kc_0, kc_1, kc_2, kc_3, kc_4, kc_5, reduceIte, Nat.reduceEqDiff, Nat.add_zero, rI_hold, rI_hold, rL_hold, n1]; exact congrArg nI (by omega))) ?_
  refine Bod.go dc_84_17 rfl ?_
  refine Bod.virt (r := []) dc_84_18 kr_84_103 ⟨Or.inl rfl, ow_51, cl_10⟩ (by rw [np_51]; rfl) (by rw [np_51]; rfl) (ob_of (mk_43 _)) (Nat.le_of_ble_eq_true rfl) (c2  ) ?_
  show Bod _ _ _ _ [] _ _ _
  exact Bod.retV dc_84_21 rt_84
theorem cBlk_3 {d : Nat} {S : cS} {o : Nat} {dp : Nat} {S1 : cS} (mo : o < 2 ^ 20) (mdp : dp < 2 ^ 20) (c1 : Ans (d + 8) 85 [.ref 43, .int (nI o), .int (nI dp)] S (some (.int (nI 0))) S1) : Bod (d + 8) 84 0 [(0, .ref 43), (1, .int (nI o)), (2, .int (nI dp))] [] S none (S1) := by
  refine Bod.go dc_84_0 rfl ?_
  refine Bod.go dc_84_1 rfl ?_
  refine Bod.go dc_84_2 rfl ?_
  refine Bod.virt (r := []) dc_84_3 kr_84_99 ⟨Or.inl rfl, ow_85, cl_10⟩ (by rw [np_85]; rfl) (by rw [np_85]; rfl) (ob_of (mk_43 _)) (Nat.le_of_ble_eq_true rfl) (c1  ) ?_
  show Bod _ _ _ _ [_] _ _ _
  refine Bod.ifT dc_84_6 rfl (k1_eq_T (k_eq 0 0 rfl rfl (by omega))) ?_
  exact Bod.retV dc_84_21 rt_84
theorem cPar0_1 {d : Nat} {S Sf : cS} {v : Option Value} {i : Nat} {dp : Nat} (mi : i < 2 ^ 20) (mdp : dp < 2 ^ 20) (hB : ∀ lv1 : sm_L, sm_get lv1 0 = some (.ref 43) → sm_get lv1 1 = some (.int (nI i)) → sm_get lv1 2 = some (.int (nI dp)) → sm_get lv1 3 = some (.int (nI 0)) → Bod (d + 8) 51 2 lv1 [] (S) v Sf) : Bod (d + 8) 51 0 [(0, .ref 43), (1, .int (nI i)), (2, .int (nI dp))] [] S v Sf := by
  refine Bod.ic 0 (by decide) dc_51_0 ?_
  refine Bod.istn dc_51_1 (by rw [ml_51]; exact Nat.le_of_ble_eq_true rfl) ?_
  exact hB _ (by first | rfl | exact (by repeat (first | exact rfl | exact sm_get_p1 | exact sm_get_p2e | refine sm_get_p1m (by decide) (by decide) ?_ | refine sm_get_p1n (by decide) rfl ?_ | refine sm_get_p2n (by decide) (by decide) rfl ?_))) (by first | rfl | exact (by repeat (first | exact rfl | exact sm_get_p1 | exact sm_get_p2e | refine sm_get_p1m (by decide) (by decide) ?_ | refine sm_get_p1n (by decide) rfl ?_ | refine sm_get_p2n (by decide) (by decide) rfl ?_))) (by first | rfl | exact (by repeat (first | exact rfl | exact sm_get_p1 | exact sm_get_p2e | refine sm_get_p1m (by decide) (by decide) ?_ | refine sm_get_p1n (by decide) rfl ?_ | refine sm_get_p2n (by decide) (by decide) rfl ?_))) (by first | rfl | exact (by repeat (first | exact rfl | exact sm_get_p1 | exact sm_get_p2e | refine sm_get_p1m (by decide) (by decide) ?_ | refine sm_get_p1n (by decide) rfl ?_ | refine sm_get_p2n (by decide) (by decide) rfl ?_)))
theorem cParL_1 {d : Nat} {S : cS} {lv : sm_L} {t : Nat} {i : Nat} {dp : Nat} {ind : Nat} (q3 : sm_get lv 3 = some (.int (nI t))) (q0 : sm_get lv 0 = some (.ref 43)) (q1 : sm_get lv 1 = some (.int (nI i))) (q2 : sm_get lv 2 = some (.int (nI dp))) (mt : t < 2 ^ 20) (mi : i < 2 ^ 20) (mdp : dp < 2 ^ 20) (b1 : 3000 < t) (hind : sI S 3108 = nI ind) (mind : ind < 2 ^ 20) (b2 : ind ≤ i) : Bod (d + 8) 51 2 lv [] S none (S) := by
  refine Bod.ildnG dc_51_2 (by repeat (first | exact q3 | exact sm_get_p1 | exact sm_get_p2e | refine sm_get_p1m (by decide) (by decide) ?_ | refine sm_get_p1n (by decide) rfl ?_ | refine sm_get_p2n (by decide) (by decide) rfl ?_)) ?_
  refine Bod.sip 3000 (by decide) dc_51_3 ?_
  refine Bod.icT dc_51_6 rfl (k2_gt_T t 3000 rfl rfl (by omega) (by omega)) ?_
  refine Bod.aldnG dc_51_28 (by repeat (first | exact q0 | exact sm_get_p1 | exact sm_get_p2e | refine sm_get_p1m (by decide) (by decide) ?_ | refine sm_get_p1n (by decide) rfl ?_ | refine sm_get_p2n (by decide) (by decide) rfl ?_)) ?_
  refine Bod.get dc_51_29 fr_51_9 (mk_43 _) rfl ?_
  refine Bod.get dc_51_32 fr_51_96 (mk_31 _) rfl ?_
  refine Bod.eqI (nI ind) (by first | assumption | rfl | exact congrArg nI (by omega) | (simp (disch := omega) only [rI, rIe, rA, rIA, rLA, rJA, rVI, rQI, rVA, rQA, upd_at,  rAI, rLI, rJI, nI_add, pk_sub, kc_0, kc_1, kc_2, kc_3, kc_4, kc_5, reduceIte, Nat.reduceEqDiff, Nat.add_zero, rI_hold, rI_hold, rL_hold, hind]; done)) ?_
  refine Bod.ildnG dc_51_35 (by repeat (first | exact q1 | exact sm_get_p1 | exact sm_get_p2e | refine sm_get_p1m (by decide) (by decide) ?_ | refine sm_get_p1n (by decide) rfl ?_ | refine sm_get_p2n (by decide) (by decide) rfl ?_)) ?_
  refine Bod.icT dc_51_36 rfl (k2_le_T ind i rfl rfl (by omega) (by omega)) ?_
  exact Bod.retV dc_51_46 rt_51
theorem cParL_2 {d : Nat} {S : cS} {lv : sm_L} {t : Nat} {i : Nat} {dp : Nat} {ind : Nat} {S1 : cS} (q3 : sm_get lv 3 = some (.int (nI t))) (q0 : sm_get lv 0 = some (.ref 43)) (q1 : sm_get lv 1 = some (.int (nI i))) (q2 : sm_get lv 2 = some (.int (nI dp))) (mt : t < 2 ^ 20) (mi : i < 2 ^ 20) (mdp : dp < 2 ^ 20) (b1 : 3000 < t) (hind : sI S 3108 = nI ind) (mind : ind < 2 ^ 20) (b2 : i < ind) (c1 : Ans (d + 8) 44 [.ref 31] S none S1) : Bod (d + 8) 51 2 lv [] S none (S1) := by
  refine Bod.ildnG dc_51_2 (by repeat (first | exact q3 | exact sm_get_p1 | exact sm_get_p2e | refine sm_get_p1m (by decide) (by decide) ?_ | refine sm_get_p1n (by decide) rfl ?_ | refine sm_get_p2n (by decide) (by decide) rfl ?_)) ?_
  refine Bod.sip 3000 (by decide) dc_51_3 ?_
  refine Bod.icT dc_51_6 rfl (k2_gt_T t 3000 rfl rfl (by omega) (by omega)) ?_
  refine Bod.aldnG dc_51_28 (by repeat (first | exact q0 | exact sm_get_p1 | exact sm_get_p2e | refine sm_get_p1m (by decide) (by decide) ?_ | refine sm_get_p1n (by decide) rfl ?_ | refine sm_get_p2n (by decide) (by decide) rfl ?_)) ?_
  refine Bod.get dc_51_29 fr_51_9 (mk_43 _) rfl ?_
  refine Bod.get dc_51_32 fr_51_96 (mk_31 _) rfl ?_
  refine Bod.eqI (nI ind) (by first | assumption | rfl | exact congrArg nI (by omega) | (simp (disch := omega) only [rI, rIe, rA, rIA, rLA, rJA, rVI, rQI, rVA, rQA, upd_at,  rAI, rLI, rJI, nI_add, pk_sub, kc_0, kc_1, kc_2, kc_3, kc_4, kc_5, reduceIte, Nat.reduceEqDiff, Nat.add_zero, rI_hold, rI_hold, rL_hold, hind]; done)) ?_
  refine Bod.ildnG dc_51_35 (by repeat (first | exact q1 | exact sm_get_p1 | exact sm_get_p2e | refine sm_get_p1m (by decide) (by decide) ?_ | refine sm_get_p1n (by decide) rfl ?_ | refine sm_get_p2n (by decide) (by decide) rfl ?_)) ?_
  refine Bod.icF dc_51_36 rfl (k2_le_F ind i rfl rfl (by omega) (by omega)) ?_
  refine Bod.aldnG dc_51_39 (by repeat (first | exact q0 | exact sm_get_p1 | exact sm_get_p2e | refine sm_get_p1m (by decide) (by decide) ?_ | refine sm_get_p1n (by decide) rfl ?_ | refine sm_get_p2n (by decide) (by decide) rfl ?_)) ?_
  refine Bod.get dc_51_40 fr_51_9 (mk_43 _) rfl ?_
  refine Bod.virt (r := []) dc_51_43 kr_51_76 ⟨Or.inr rfl, ow_44, cl_3⟩ (by rw [np_44]; rfl) (by rw [np_44]; rfl) (ob_of (mk_31 _)) (Nat.le_of_ble_eq_true rfl) (c1  ) ?_
  show Bod _ _ _ _ [] _ _ _
  exact Bod.retV dc_51_46 rt_51
theorem cParL_3 {d : Nat} {S : cS} {lv : sm_L} {t : Nat} {i : Nat} {dp : Nat} (q3 : sm_get lv 3 = some (.int (nI t))) (q0 : sm_get lv 0 = some (.ref 43)) (q1 : sm_get lv 1 = some (.int (nI i))) (q2 : sm_get lv 2 = some (.int (nI dp))) (mt : t < 2 ^ 20) (mi : i < 2 ^ 20) (mdp : dp < 2 ^ 20) (b1 : 3000 < t) (n2 : sI S 3108 = Int32.ofInt (-1)) : Bod (d + 8) 51 2 lv [] S none (S) := by
  refine Bod.ildnG dc_51_2 (by repeat (first | exact q3 | exact sm_get_p1 | exact sm_get_p2e | refine sm_get_p1m (by decide) (by decide) ?_ | refine sm_get_p1n (by decide) rfl ?_ | refine sm_get_p2n (by decide) (by decide) rfl ?_)) ?_
  refine Bod.sip 3000 (by decide) dc_51_3 ?_
  refine Bod.icT dc_51_6 rfl (k2_gt_T t 3000 rfl rfl (by omega) (by omega)) ?_
  refine Bod.aldnG dc_51_28 (by repeat (first | exact q0 | exact sm_get_p1 | exact sm_get_p2e | refine sm_get_p1m (by decide) (by decide) ?_ | refine sm_get_p1n (by decide) rfl ?_ | refine sm_get_p2n (by decide) (by decide) rfl ?_)) ?_
  refine Bod.get dc_51_29 fr_51_9 (mk_43 _) rfl ?_
  refine Bod.get dc_51_32 fr_51_96 (mk_31 _) rfl ?_
  refine Bod.eqI (Int32.ofInt (-1)) (by first | assumption | rfl | exact congrArg nI (by omega) | (simp (disch := omega) only [rI, rIe, rA, rIA, rLA, rJA, rVI, rQI, rVA, rQA, upd_at,  rAI, rLI, rJI, nI_add, pk_sub, kc_0, kc_1, kc_2, kc_3, kc_4, kc_5, reduceIte, Nat.reduceEqDiff, Nat.add_zero, rI_hold, rI_hold, rL_hold, n2]; done)) ?_
  refine Bod.ildnG dc_51_35 (by repeat (first | exact q1 | exact sm_get_p1 | exact sm_get_p2e | refine sm_get_p1m (by decide) (by decide) ?_ | refine sm_get_p1n (by decide) rfl ?_ | refine sm_get_p2n (by decide) (by decide) rfl ?_)) ?_
  refine Bod.icT dc_51_36 rfl (ml_le (by omega)) ?_
  exact Bod.retV dc_51_46 rt_51
theorem cParL_4 {d : Nat} {S Sf : cS} {v : Option Value} {lv : sm_L} {t : Nat} {i : Nat} {dp : Nat} {S1 : cS} {S2 : cS} (q3 : sm_get lv 3 = some (.int (nI t))) (q0 : sm_get lv 0 = some (.ref 43)) (q1 : sm_get lv 1 = some (.int (nI i))) (q2 : sm_get lv 2 = some (.int (nI dp))) (mt : t < 2 ^ 20) (mi : i < 2 ^ 20) (mdp : dp < 2 ^ 20) (b1 : t ≤ 3000) (c1 : Ans (d + 8) 52 [.ref 43, .int (nI i)] S (some (.int (nI 1))) S1) (c2 : Ans (d + 8) 53 [.ref 43, .int (nI dp)] S1 none S2) (hB : ∀ lv1 : sm_L, sm_get lv1 0 = some (.ref 43) → sm_get lv1 1 = some (.int (nI i)) → sm_get lv1 2 = some (.int (nI dp)) → sm_get lv1 3 = some (.int (nI (t + 1))) → Bod (d + 8) 51 2 lv1 [] (S2) v Sf) : Bod (d + 8) 51 2 lv [] S v Sf := by
  refine Bod.ildnG dc_51_2 (by repeat (first | exact q3 | exact sm_get_p1 | exact sm_get_p2e | refine sm_get_p1m (by decide) (by decide) ?_ | refine sm_get_p1n (by decide) rfl ?_ | refine sm_get_p2n (by decide) (by decide) rfl ?_)) ?_
  refine Bod.sip 3000 (by decide) dc_51_3 ?_
  refine Bod.icF dc_51_6 rfl (k2_gt_F t 3000 rfl rfl (by omega) (by omega)) ?_
  refine Bod.aldnG dc_51_9 (by repeat (first | exact q0 | exact sm_get_p1 | exact sm_get_p2e | refine sm_get_p1m (by decide) (by decide) ?_ | refine sm_get_p1n (by decide) rfl ?_ | refine sm_get_p2n (by decide) (by decide) rfl ?_)) ?_
  refine Bod.ildnG dc_51_10 (by repeat (first | exact q1 | exact sm_get_p1 | exact sm_get_p2e | refine sm_get_p1m (by decide) (by decide) ?_ | refine sm_get_p1n (by decide) rfl ?_ | refine sm_get_p2n (by decide) (by decide) rfl ?_)) ?_
  refine Bod.virt (r := []) dc_51_11 kr_51_89 ⟨Or.inl rfl, ow_52, cl_10⟩ (by rw [np_52]; rfl) (by rw [np_52]; rfl) (ob_of (mk_43 _)) (Nat.le_of_ble_eq_true rfl) (c1  ) ?_
  show Bod _ _ _ _ [_] _ _ _
  refine Bod.ifF dc_51_14 rfl (k1_eq_F (k_ne 1 0 rfl rfl (by omega) (by omega) (by omega))) ?_
  refine Bod.aldnG dc_51_17 (by repeat (first | exact q0 | exact sm_get_p1 | exact sm_get_p2e | refine sm_get_p1m (by decide) (by decide) ?_ | refine sm_get_p1n (by decide) rfl ?_ | refine sm_get_p2n (by decide) (by decide) rfl ?_)) ?_
  refine Bod.ildnG dc_51_18 (by repeat (first | exact q2 | exact sm_get_p1 | exact sm_get_p2e | refine sm_get_p1m (by decide) (by decide) ?_ | refine sm_get_p1n (by decide) rfl ?_ | refine sm_get_p2n (by decide) (by decide) rfl ?_)) ?_
  refine Bod.virt (r := []) dc_51_19 kr_51_93 ⟨Or.inl rfl, ow_53, cl_10⟩ (by rw [np_53]; rfl) (by rw [np_53]; rfl) (ob_of (mk_43 _)) (Nat.le_of_ble_eq_true rfl) (c2  ) ?_
  show Bod _ _ _ _ [] _ _ _
  refine Bod.incN (t + 1) (by rw [kc_1, nI_add]) dc_51_22 (by rw [ml_51]; exact Nat.le_of_ble_eq_true rfl) (by repeat (first | exact q3 | exact sm_get_p1 | exact sm_get_p2e | refine sm_get_p1m (by decide) (by decide) ?_ | refine sm_get_p1n (by decide) rfl ?_ | refine sm_get_p2n (by decide) (by decide) rfl ?_)) ?_
  refine Bod.go dc_51_25 rfl ?_
  exact hB _ (by repeat (first | exact q0 | exact sm_get_p1 | exact sm_get_p2e | refine sm_get_p1m (by decide) (by decide) ?_ | refine sm_get_p1n (by decide) rfl ?_ | refine sm_get_p2n (by decide) (by decide) rfl ?_)) (by repeat (first | exact q1 | exact sm_get_p1 | exact sm_get_p2e | refine sm_get_p1m (by decide) (by decide) ?_ | refine sm_get_p1n (by decide) rfl ?_ | refine sm_get_p2n (by decide) (by decide) rfl ?_)) (by repeat (first | exact q2 | exact sm_get_p1 | exact sm_get_p2e | refine sm_get_p1m (by decide) (by decide) ?_ | refine sm_get_p1n (by decide) rfl ?_ | refine sm_get_p2n (by decide) (by decide) rfl ?_)) (by repeat (first | exact q0 | exact sm_get_p1 | exact sm_get_p2e | refine sm_get_p1m (by decide) (by decide) ?_ | refine sm_get_p1n (by decide) rfl ?_ | refine sm_get_p2n (by decide) (by decide) rfl ?_))
theorem cParL_5 {d : Nat} {S : cS} {lv : sm_L} {t : Nat} {i : Nat} {dp : Nat} {S1 : cS} {ind : Nat} (q3 : sm_get lv 3 = some (.int (nI t))) (q0 : sm_get lv 0 = some (.ref 43)) (q1 : sm_get lv 1 = some (.int (nI i))) (q2 : sm_get lv 2 = some (.int (nI dp))) (mt : t < 2 ^ 20) (mi : i < 2 ^ 20) (mdp : dp < 2 ^ 20) (b1 : t ≤ 3000) (c1 : Ans (d + 8) 52 [.ref 43, .int (nI i)] S (some (.int (nI 0))) S1) (hind : sI S1 3108 = nI ind) (mind : ind < 2 ^ 20) (b2 : ind ≤ i) : Bod (d + 8) 51 2 lv [] S none (S1) := by
  refine Bod.ildnG dc_51_2 (by repeat (first | exact q3 | exact sm_get_p1 | exact sm_get_p2e | refine sm_get_p1m (by decide) (by decide) ?_ | refine sm_get_p1n (by decide) rfl ?_ | refine sm_get_p2n (by decide) (by decide) rfl ?_)) ?_
  refine Bod.sip 3000 (by decide) dc_51_3 ?_
  refine Bod.icF dc_51_6 rfl (k2_gt_F t 3000 rfl rfl (by omega) (by omega)) ?_
  refine Bod.aldnG dc_51_9 (by repeat (first | exact q0 | exact sm_get_p1 | exact sm_get_p2e | refine sm_get_p1m (by decide) (by decide) ?_ | refine sm_get_p1n (by decide) rfl ?_ | refine sm_get_p2n (by decide) (by decide) rfl ?_)) ?_
  refine Bod.ildnG dc_51_10 (by repeat (first | exact q1 | exact sm_get_p1 | exact sm_get_p2e | refine sm_get_p1m (by decide) (by decide) ?_ | refine sm_get_p1n (by decide) rfl ?_ | refine sm_get_p2n (by decide) (by decide) rfl ?_)) ?_
  refine Bod.virt (r := []) dc_51_11 kr_51_89 ⟨Or.inl rfl, ow_52, cl_10⟩ (by rw [np_52]; rfl) (by rw [np_52]; rfl) (ob_of (mk_43 _)) (Nat.le_of_ble_eq_true rfl) (c1  ) ?_
  show Bod _ _ _ _ [_] _ _ _
  refine Bod.ifT dc_51_14 rfl (k1_eq_T (k_eq 0 0 rfl rfl (by omega))) ?_
  refine Bod.aldnG dc_51_28 (by repeat (first | exact q0 | exact sm_get_p1 | exact sm_get_p2e | refine sm_get_p1m (by decide) (by decide) ?_ | refine sm_get_p1n (by decide) rfl ?_ | refine sm_get_p2n (by decide) (by decide) rfl ?_)) ?_
  refine Bod.get dc_51_29 fr_51_9 (mk_43 _) rfl ?_
  refine Bod.get dc_51_32 fr_51_96 (mk_31 _) rfl ?_
  refine Bod.eqI (nI ind) (by first | (simp (disch := omega) only [rI, rIe, rA, rIA, rLA, rJA, rVI, rQI, rVA, rQA, upd_at,  rAI, rLI, rJI, nI_add, pk_sub, kc_0, kc_1, kc_2, kc_3, kc_4, kc_5, reduceIte, Nat.reduceEqDiff, Nat.add_zero, rI_hold, rI_hold, rL_hold, hind]; done) | (simp (disch := omega) only [rI, rIe, rA, rIA, rLA, rJA, rVI, rQI, rVA, rQA, upd_at,  rAI, rLI, rJI, nI_add, pk_sub, kc_0, kc_1, kc_2, kc_3, kc_4, kc_5, reduceIte, Nat.reduceEqDiff, Nat.add_zero, rI_hold, rI_hold, rL_hold, hind]; exact congrArg nI (by omega))) ?_
  refine Bod.ildnG dc_51_35 (by repeat (first | exact q1 | exact sm_get_p1 | exact sm_get_p2e | refine sm_get_p1m (by decide) (by decide) ?_ | refine sm_get_p1n (by decide) rfl ?_ | refine sm_get_p2n (by decide) (by decide) rfl ?_)) ?_
  refine Bod.icT dc_51_36 rfl (k2_le_T ind i rfl rfl (by omega) (by omega)) ?_
  exact Bod.retV dc_51_46 rt_51
theorem cParL_6 {d : Nat} {S : cS} {lv : sm_L} {t : Nat} {i : Nat} {dp : Nat} {S1 : cS} {ind : Nat} {S2 : cS} (q3 : sm_get lv 3 = some (.int (nI t))) (q0 : sm_get lv 0 = some (.ref 43)) (q1 : sm_get lv 1 = some (.int (nI i))) (q2 : sm_get lv 2 = some (.int (nI dp))) (mt : t < 2 ^ 20) (mi : i < 2 ^ 20) (mdp : dp < 2 ^ 20) (b1 : t ≤ 3000) (c1 : Ans (d + 8) 52 [.ref 43, .int (nI i)] S (some (.int (nI 0))) S1) (hind : sI S1 3108 = nI ind) (mind : ind < 2 ^ 20) (b2 : i < ind) (c2 : Ans (d + 8) 44 [.ref 31] S1 none S2) : Bod (d + 8) 51 2 lv [] S none (S2) := by
  refine Bod.ildnG dc_51_2 (by repeat (first | exact q3 | exact sm_get_p1 | exact sm_get_p2e | refine sm_get_p1m (by decide) (by decide) ?_ | refine sm_get_p1n (by decide) rfl ?_ | refine sm_get_p2n (by decide) (by decide) rfl ?_)) ?_
  refine Bod.sip 3000 (by decide) dc_51_3 ?_
  refine Bod.icF dc_51_6 rfl (k2_gt_F t 3000 rfl rfl (by omega) (by omega)) ?_
  refine Bod.aldnG dc_51_9 (by repeat (first | exact q0 | exact sm_get_p1 | exact sm_get_p2e | refine sm_get_p1m (by decide) (by decide) ?_ | refine sm_get_p1n (by decide) rfl ?_ | refine sm_get_p2n (by decide) (by decide) rfl ?_)) ?_
  refine Bod.ildnG dc_51_10 (by repeat (first | exact q1 | exact sm_get_p1 | exact sm_get_p2e | refine sm_get_p1m (by decide) (by decide) ?_ | refine sm_get_p1n (by decide) rfl ?_ | refine sm_get_p2n (by decide) (by decide) rfl ?_)) ?_
  refine Bod.virt (r := []) dc_51_11 kr_51_89 ⟨Or.inl rfl, ow_52, cl_10⟩ (by rw [np_52]; rfl) (by rw [np_52]; rfl) (ob_of (mk_43 _)) (Nat.le_of_ble_eq_true rfl) (c1  ) ?_
  show Bod _ _ _ _ [_] _ _ _
  refine Bod.ifT dc_51_14 rfl (k1_eq_T (k_eq 0 0 rfl rfl (by omega))) ?_
  refine Bod.aldnG dc_51_28 (by repeat (first | exact q0 | exact sm_get_p1 | exact sm_get_p2e | refine sm_get_p1m (by decide) (by decide) ?_ | refine sm_get_p1n (by decide) rfl ?_ | refine sm_get_p2n (by decide) (by decide) rfl ?_)) ?_
  refine Bod.get dc_51_29 fr_51_9 (mk_43 _) rfl ?_
  refine Bod.get dc_51_32 fr_51_96 (mk_31 _) rfl ?_
  refine Bod.eqI (nI ind) (by first | (simp (disch := omega) only [rI, rIe, rA, rIA, rLA, rJA, rVI, rQI, rVA, rQA, upd_at,  rAI, rLI, rJI, nI_add, pk_sub, kc_0, kc_1, kc_2, kc_3, kc_4, kc_5, reduceIte, Nat.reduceEqDiff, Nat.add_zero, rI_hold, rI_hold, rL_hold, hind]; done) | (simp (disch := omega) only [rI, rIe, rA, rIA, rLA, rJA, rVI, rQI, rVA, rQA, upd_at,  rAI, rLI, rJI, nI_add, pk_sub, kc_0, kc_1, kc_2, kc_3, kc_4, kc_5, reduceIte, Nat.reduceEqDiff, Nat.add_zero, rI_hold, rI_hold, rL_hold, hind]; exact congrArg nI (by omega))) ?_
  refine Bod.ildnG dc_51_35 (by repeat (first | exact q1 | exact sm_get_p1 | exact sm_get_p2e | refine sm_get_p1m (by decide) (by decide) ?_ | refine sm_get_p1n (by decide) rfl ?_ | refine sm_get_p2n (by decide) (by decide) rfl ?_)) ?_
  refine Bod.icF dc_51_36 rfl (k2_le_F ind i rfl rfl (by omega) (by omega)) ?_
  refine Bod.aldnG dc_51_39 (by repeat (first | exact q0 | exact sm_get_p1 | exact sm_get_p2e | refine sm_get_p1m (by decide) (by decide) ?_ | refine sm_get_p1n (by decide) rfl ?_ | refine sm_get_p2n (by decide) (by decide) rfl ?_)) ?_
  refine Bod.get dc_51_40 fr_51_9 (mk_43 _) rfl ?_
  refine Bod.virt (r := []) dc_51_43 kr_51_76 ⟨Or.inr rfl, ow_44, cl_3⟩ (by rw [np_44]; rfl) (by rw [np_44]; rfl) (ob_of (mk_31 _)) (Nat.le_of_ble_eq_true rfl) (c2  ) ?_
  show Bod _ _ _ _ [] _ _ _
  exact Bod.retV dc_51_46 rt_51
theorem cParL_7 {d : Nat} {S : cS} {lv : sm_L} {t : Nat} {i : Nat} {dp : Nat} {S1 : cS} (q3 : sm_get lv 3 = some (.int (nI t))) (q0 : sm_get lv 0 = some (.ref 43)) (q1 : sm_get lv 1 = some (.int (nI i))) (q2 : sm_get lv 2 = some (.int (nI dp))) (mt : t < 2 ^ 20) (mi : i < 2 ^ 20) (mdp : dp < 2 ^ 20) (b1 : t ≤ 3000) (c1 : Ans (d + 8) 52 [.ref 43, .int (nI i)] S (some (.int (nI 0))) S1) (n2 : sI S1 3108 = Int32.ofInt (-1)) : Bod (d + 8) 51 2 lv [] S none (S1) := by
  refine Bod.ildnG dc_51_2 (by repeat (first | exact q3 | exact sm_get_p1 | exact sm_get_p2e | refine sm_get_p1m (by decide) (by decide) ?_ | refine sm_get_p1n (by decide) rfl ?_ | refine sm_get_p2n (by decide) (by decide) rfl ?_)) ?_
  refine Bod.sip 3000 (by decide) dc_51_3 ?_
  refine Bod.icF dc_51_6 rfl (k2_gt_F t 3000 rfl rfl (by omega) (by omega)) ?_
  refine Bod.aldnG dc_51_9 (by repeat (first | exact q0 | exact sm_get_p1 | exact sm_get_p2e | refine sm_get_p1m (by decide) (by decide) ?_ | refine sm_get_p1n (by decide) rfl ?_ | refine sm_get_p2n (by decide) (by decide) rfl ?_)) ?_
  refine Bod.ildnG dc_51_10 (by repeat (first | exact q1 | exact sm_get_p1 | exact sm_get_p2e | refine sm_get_p1m (by decide) (by decide) ?_ | refine sm_get_p1n (by decide) rfl ?_ | refine sm_get_p2n (by decide) (by decide) rfl ?_)) ?_
  refine Bod.virt (r := []) dc_51_11 kr_51_89 ⟨Or.inl rfl, ow_52, cl_10⟩ (by rw [np_52]; rfl) (by rw [np_52]; rfl) (ob_of (mk_43 _)) (Nat.le_of_ble_eq_true rfl) (c1  ) ?_
  show Bod _ _ _ _ [_] _ _ _
  refine Bod.ifT dc_51_14 rfl (k1_eq_T (k_eq 0 0 rfl rfl (by omega))) ?_
  refine Bod.aldnG dc_51_28 (by repeat (first | exact q0 | exact sm_get_p1 | exact sm_get_p2e | refine sm_get_p1m (by decide) (by decide) ?_ | refine sm_get_p1n (by decide) rfl ?_ | refine sm_get_p2n (by decide) (by decide) rfl ?_)) ?_
  refine Bod.get dc_51_29 fr_51_9 (mk_43 _) rfl ?_
  refine Bod.get dc_51_32 fr_51_96 (mk_31 _) rfl ?_
  refine Bod.eqI (Int32.ofInt (-1)) (by first | (simp (disch := omega) only [rI, rIe, rA, rIA, rLA, rJA, rVI, rQI, rVA, rQA, upd_at,  rAI, rLI, rJI, nI_add, pk_sub, kc_0, kc_1, kc_2, kc_3, kc_4, kc_5, reduceIte, Nat.reduceEqDiff, Nat.add_zero, rI_hold, rI_hold, rL_hold, n2]; done) | (simp (disch := omega) only [rI, rIe, rA, rIA, rLA, rJA, rVI, rQI, rVA, rQA, upd_at,  rAI, rLI, rJI, nI_add, pk_sub, kc_0, kc_1, kc_2, kc_3, kc_4, kc_5, reduceIte, Nat.reduceEqDiff, Nat.add_zero, rI_hold, rI_hold, rL_hold, n2]; exact congrArg nI (by omega))) ?_
  refine Bod.ildnG dc_51_35 (by repeat (first | exact q1 | exact sm_get_p1 | exact sm_get_p2e | refine sm_get_p1m (by decide) (by decide) ?_ | refine sm_get_p1n (by decide) rfl ?_ | refine sm_get_p2n (by decide) (by decide) rfl ?_)) ?_
  refine Bod.icT dc_51_36 rfl (ml_le (by omega)) ?_
  exact Bod.retV dc_51_46 rt_51
theorem cSt40_1 {d : Nat} {S : cS} {dp : Nat} {ln : Nat} {S1 : cS} {a : Nat} {S2 : cS} (mdp : dp < 2 ^ 20) (hln : sI S 3106 = nI ln) (mln : ln < 2 ^ 20) (ma : a < 2 ^ 20) (c1 : Ans (d + 8) 54 [.ref 23, .int (nI 1), .int (nI ln)] S (some (.int (nI a))) S1) (k1 : sI S1 3105 = nI 40) (c2 : Ans (d + 8) 56 [.ref 43, .int (nI dp)] S1 none S2) : Bod (d + 8) 53 0 [(0, .ref 43), (1, .int (nI dp))] [] S none (S2) := by
  refine Bod.go dc_53_0 rfl ?_
  refine Bod.get dc_53_1 fr_53_15 (mk_43 _) rfl ?_
  refine Bod.ic 1 (by decide) dc_53_4 ?_
  refine Bod.go dc_53_5 rfl ?_
  refine Bod.get dc_53_6 fr_53_9 (mk_43 _) rfl ?_
  refine Bod.get dc_53_9 fr_53_113 (mk_31 _) rfl ?_
  refine Bod.eqI (nI ln) (by first | assumption | rfl | exact congrArg nI (by omega) | (simp (disch := omega) only [rI, rIe, rA, rIA, rLA, rJA, rVI, rQI, rVA, rQA, upd_at,  rAI, rLI, rJI, nI_add, pk_sub, kc_0, kc_1, kc_2, kc_3, kc_4, kc_5, reduceIte, Nat.reduceEqDiff, Nat.add_zero, rI_hold, rI_hold, rL_hold, hln]; done)) ?_
  refine Bod.virt (r := []) dc_53_12 kr_53_116 ⟨Or.inr rfl, ow_54, cl_7⟩ (by rw [np_54]; rfl) (by rw [np_54]; rfl) (ob_of (mk_23 _)) (Nat.le_of_ble_eq_true rfl) (c1  ) ?_
  show Bod _ _ _ _ [_] _ _ _
  refine Bod.go dc_53_15 rfl ?_
  refine Bod.go dc_53_16 rfl ?_
  refine Bod.get dc_53_17 fr_53_9 (mk_43 _) rfl ?_
  refine Bod.get dc_53_20 fr_53_79 (mk_31 _) rfl ?_
  refine Bod.eqI (nI 40) (by first | (simp (disch := omega) only [rI, rIe, rA, rIA, rLA, rJA, rVI, rQI, rVA, rQA, upd_at,  rAI, rLI, rJI, nI_add, pk_sub, kc_0, kc_1, kc_2, kc_3, kc_4, kc_5, reduceIte, Nat.reduceEqDiff, Nat.add_zero, rI_hold, rI_hold, rL_hold, hln, k1]; done) | (simp (disch := omega) only [rI, rIe, rA, rIA, rLA, rJA, rVI, rQI, rVA, rQA, upd_at,  rAI, rLI, rJI, nI_add, pk_sub, kc_0, kc_1, kc_2, kc_3, kc_4, kc_5, reduceIte, Nat.reduceEqDiff, Nat.add_zero, rI_hold, rI_hold, rL_hold, hln, k1]; exact congrArg nI (by omega))) ?_
  refine Bod.sw (t := 104) dc_53_23 rfl rfl (by decide +kernel) ?_
  refine Bod.go dc_53_104 rfl ?_
  refine Bod.go dc_53_105 rfl ?_
  refine Bod.virt (r := []) dc_53_106 kr_53_119 ⟨Or.inl rfl, ow_56, cl_10⟩ (by rw [np_56]; rfl) (by rw [np_56]; rfl) (ob_of (mk_43 _)) (Nat.le_of_ble_eq_true rfl) (c2  ) ?_
  show Bod _ _ _ _ [] _ _ _
  exact Bod.retV dc_53_109 rt_53
theorem cSt43_1 {d : Nat} {S : cS} {dp : Nat} {ln : Nat} {S1 : cS} {a : Nat} {S2 : cS} (mdp : dp < 2 ^ 20) (hln : sI S 3106 = nI ln) (mln : ln < 2 ^ 20) (ma : a < 2 ^ 20) (c1 : Ans (d + 8) 54 [.ref 23, .int (nI 1), .int (nI ln)] S (some (.int (nI a))) S1) (k1 : sI S1 3105 = nI 43) (c2 : Ans (d + 8) 89 [.ref 43, .int (nI dp)] S1 none S2) : Bod (d + 8) 53 0 [(0, .ref 43), (1, .int (nI dp))] [] S none (S2) := by
  refine Bod.go dc_53_0 rfl ?_
  refine Bod.get dc_53_1 fr_53_15 (mk_43 _) rfl ?_
  refine Bod.ic 1 (by decide) dc_53_4 ?_
  refine Bod.go dc_53_5 rfl ?_
  refine Bod.get dc_53_6 fr_53_9 (mk_43 _) rfl ?_
  refine Bod.get dc_53_9 fr_53_113 (mk_31 _) rfl ?_
  refine Bod.eqI (nI ln) (by first | assumption | rfl | exact congrArg nI (by omega) | (simp (disch := omega) only [rI, rIe, rA, rIA, rLA, rJA, rVI, rQI, rVA, rQA, upd_at,  rAI, rLI, rJI, nI_add, pk_sub, kc_0, kc_1, kc_2, kc_3, kc_4, kc_5, reduceIte, Nat.reduceEqDiff, Nat.add_zero, rI_hold, rI_hold, rL_hold, hln]; done)) ?_
  refine Bod.virt (r := []) dc_53_12 kr_53_116 ⟨Or.inr rfl, ow_54, cl_7⟩ (by rw [np_54]; rfl) (by rw [np_54]; rfl) (ob_of (mk_23 _)) (Nat.le_of_ble_eq_true rfl) (c1  ) ?_
  show Bod _ _ _ _ [_] _ _ _
  refine Bod.go dc_53_15 rfl ?_
  refine Bod.go dc_53_16 rfl ?_
  refine Bod.get dc_53_17 fr_53_9 (mk_43 _) rfl ?_
  refine Bod.get dc_53_20 fr_53_79 (mk_31 _) rfl ?_
  refine Bod.eqI (nI 43) (by first | (simp (disch := omega) only [rI, rIe, rA, rIA, rLA, rJA, rVI, rQI, rVA, rQA, upd_at,  rAI, rLI, rJI, nI_add, pk_sub, kc_0, kc_1, kc_2, kc_3, kc_4, kc_5, reduceIte, Nat.reduceEqDiff, Nat.add_zero, rI_hold, rI_hold, rL_hold, hln, k1]; done) | (simp (disch := omega) only [rI, rIe, rA, rIA, rLA, rJA, rVI, rQI, rVA, rQA, upd_at,  rAI, rLI, rJI, nI_add, pk_sub, kc_0, kc_1, kc_2, kc_3, kc_4, kc_5, reduceIte, Nat.reduceEqDiff, Nat.add_zero, rI_hold, rI_hold, rL_hold, hln, k1]; exact congrArg nI (by omega))) ?_
  refine Bod.sw (t := 110) dc_53_23 rfl rfl (by decide +kernel) ?_
  refine Bod.go dc_53_110 rfl ?_
  refine Bod.go dc_53_111 rfl ?_
  refine Bod.virt (r := []) dc_53_112 kr_53_122 ⟨Or.inl rfl, ow_89, cl_10⟩ (by rw [np_89]; rfl) (by rw [np_89]; rfl) (ob_of (mk_43 _)) (Nat.le_of_ble_eq_true rfl) (c2  ) ?_
  show Bod _ _ _ _ [] _ _ _
  exact Bod.retV dc_53_115 rt_53
theorem cSt44_1 {d : Nat} {S : cS} {dp : Nat} {ln : Nat} {S1 : cS} {a : Nat} {S2 : cS} (mdp : dp < 2 ^ 20) (hln : sI S 3106 = nI ln) (mln : ln < 2 ^ 20) (ma : a < 2 ^ 20) (c1 : Ans (d + 8) 54 [.ref 23, .int (nI 1), .int (nI ln)] S (some (.int (nI a))) S1) (k1 : sI S1 3105 = nI 44) (c2 : Ans (d + 8) 91 [.ref 43, .int (nI dp)] S1 none S2) : Bod (d + 8) 53 0 [(0, .ref 43), (1, .int (nI dp))] [] S none (S2) := by
  refine Bod.go dc_53_0 rfl ?_
  refine Bod.get dc_53_1 fr_53_15 (mk_43 _) rfl ?_
  refine Bod.ic 1 (by decide) dc_53_4 ?_
  refine Bod.go dc_53_5 rfl ?_
  refine Bod.get dc_53_6 fr_53_9 (mk_43 _) rfl ?_
  refine Bod.get dc_53_9 fr_53_113 (mk_31 _) rfl ?_
  refine Bod.eqI (nI ln) (by first | assumption | rfl | exact congrArg nI (by omega) | (simp (disch := omega) only [rI, rIe, rA, rIA, rLA, rJA, rVI, rQI, rVA, rQA, upd_at,  rAI, rLI, rJI, nI_add, pk_sub, kc_0, kc_1, kc_2, kc_3, kc_4, kc_5, reduceIte, Nat.reduceEqDiff, Nat.add_zero, rI_hold, rI_hold, rL_hold, hln]; done)) ?_
  refine Bod.virt (r := []) dc_53_12 kr_53_116 ⟨Or.inr rfl, ow_54, cl_7⟩ (by rw [np_54]; rfl) (by rw [np_54]; rfl) (ob_of (mk_23 _)) (Nat.le_of_ble_eq_true rfl) (c1  ) ?_
  show Bod _ _ _ _ [_] _ _ _
  refine Bod.go dc_53_15 rfl ?_
  refine Bod.go dc_53_16 rfl ?_
  refine Bod.get dc_53_17 fr_53_9 (mk_43 _) rfl ?_
  refine Bod.get dc_53_20 fr_53_79 (mk_31 _) rfl ?_
  refine Bod.eqI (nI 44) (by first | (simp (disch := omega) only [rI, rIe, rA, rIA, rLA, rJA, rVI, rQI, rVA, rQA, upd_at,  rAI, rLI, rJI, nI_add, pk_sub, kc_0, kc_1, kc_2, kc_3, kc_4, kc_5, reduceIte, Nat.reduceEqDiff, Nat.add_zero, rI_hold, rI_hold, rL_hold, hln, k1]; done) | (simp (disch := omega) only [rI, rIe, rA, rIA, rLA, rJA, rVI, rQI, rVA, rQA, upd_at,  rAI, rLI, rJI, nI_add, pk_sub, kc_0, kc_1, kc_2, kc_3, kc_4, kc_5, reduceIte, Nat.reduceEqDiff, Nat.add_zero, rI_hold, rI_hold, rL_hold, hln, k1]; exact congrArg nI (by omega))) ?_
  refine Bod.sw (t := 116) dc_53_23 rfl rfl (by decide +kernel) ?_
  refine Bod.go dc_53_116 rfl ?_
  refine Bod.go dc_53_117 rfl ?_
  refine Bod.virt (r := []) dc_53_118 kr_53_125 ⟨Or.inl rfl, ow_91, cl_10⟩ (by rw [np_91]; rfl) (by rw [np_91]; rfl) (ob_of (mk_43 _)) (Nat.le_of_ble_eq_true rfl) (c2  ) ?_
  show Bod _ _ _ _ [] _ _ _
  exact Bod.retV dc_53_121 rt_53
theorem cSt46_1 {d : Nat} {S : cS} {dp : Nat} {ln : Nat} {S1 : cS} {a : Nat} {S2 : cS} {a1 : Nat} {S3 : cS} (mdp : dp < 2 ^ 20) (hln : sI S 3106 = nI ln) (mln : ln < 2 ^ 20) (ma : a < 2 ^ 20) (c1 : Ans (d + 8) 54 [.ref 23, .int (nI 1), .int (nI ln)] S (some (.int (nI a))) S1) (k1 : sI S1 3105 = nI 46) (ma1 : a1 < 2 ^ 20) (c2 : Ans (d + 8) 97 [.ref 43, .int (nI dp)] S1 (some (.int (nI a1))) S2) (c3 : Ans (d + 8) 93 [.ref 43, .int (nI a1)] S2 none S3) : Bod (d + 8) 53 0 [(0, .ref 43), (1, .int (nI dp))] [] S none (S3) := by
  refine Bod.go dc_53_0 rfl ?_
  refine Bod.get dc_53_1 fr_53_15 (mk_43 _) rfl ?_
  refine Bod.ic 1 (by decide) dc_53_4 ?_
  refine Bod.go dc_53_5 rfl ?_
  refine Bod.get dc_53_6 fr_53_9 (mk_43 _) rfl ?_
  refine Bod.get dc_53_9 fr_53_113 (mk_31 _) rfl ?_
  refine Bod.eqI (nI ln) (by first | assumption | rfl | exact congrArg nI (by omega) | (simp (disch := omega) only [rI, rIe, rA, rIA, rLA, rJA, rVI, rQI, rVA, rQA, upd_at,  rAI, rLI, rJI, nI_add, pk_sub, kc_0, kc_1, kc_2, kc_3, kc_4, kc_5, reduceIte, Nat.reduceEqDiff, Nat.add_zero, rI_hold, rI_hold, rL_hold, hln]; done)) ?_
  refine Bod.virt (r := []) dc_53_12 kr_53_116 ⟨Or.inr rfl, ow_54, cl_7⟩ (by rw [np_54]; rfl) (by rw [np_54]; rfl) (ob_of (mk_23 _)) (Nat.le_of_ble_eq_true rfl) (c1  ) ?_
  show Bod _ _ _ _ [_] _ _ _
  refine Bod.go dc_53_15 rfl ?_
  refine Bod.go dc_53_16 rfl ?_
  refine Bod.get dc_53_17 fr_53_9 (mk_43 _) rfl ?_
  refine Bod.get dc_53_20 fr_53_79 (mk_31 _) rfl ?_
  refine Bod.eqI (nI 46) (by first | (simp (disch := omega) only [rI, rIe, rA, rIA, rLA, rJA, rVI, rQI, rVA, rQA, upd_at,  rAI, rLI, rJI, nI_add, pk_sub, kc_0, kc_1, kc_2, kc_3, kc_4, kc_5, reduceIte, Nat.reduceEqDiff, Nat.add_zero, rI_hold, rI_hold, rL_hold, hln, k1]; done) | (simp (disch := omega) only [rI, rIe, rA, rIA, rLA, rJA, rVI, rQI, rVA, rQA, upd_at,  rAI, rLI, rJI, nI_add, pk_sub, kc_0, kc_1, kc_2, kc_3, kc_4, kc_5, reduceIte, Nat.reduceEqDiff, Nat.add_zero, rI_hold, rI_hold, rL_hold, hln, k1]; exact congrArg nI (by omega))) ?_
  refine Bod.sw (t := 122) dc_53_23 rfl rfl (by decide +kernel) ?_
  refine Bod.go dc_53_122 rfl ?_
  refine Bod.go dc_53_123 rfl ?_
  refine Bod.go dc_53_124 rfl ?_
  refine Bod.virt (r := [_]) dc_53_125 kr_53_128 ⟨Or.inl rfl, ow_97, cl_10⟩ (by rw [np_97]; rfl) (by rw [np_97]; rfl) (ob_of (mk_43 _)) (Nat.le_of_ble_eq_true rfl) (c2  ) ?_
  show Bod _ _ _ _ [_, _] _ _ _
  refine Bod.virt (r := []) dc_53_128 kr_53_131 ⟨Or.inl rfl, ow_93, cl_10⟩ (by rw [np_93]; rfl) (by rw [np_93]; rfl) (ob_of (mk_43 _)) (Nat.le_of_ble_eq_true rfl) (c3  ) ?_
  show Bod _ _ _ _ [] _ _ _
  exact Bod.retV dc_53_131 rt_53
theorem cSt47_1 {d : Nat} {S : cS} {dp : Nat} {ln : Nat} {S1 : cS} {a : Nat} {S2 : cS} (mdp : dp < 2 ^ 20) (hln : sI S 3106 = nI ln) (mln : ln < 2 ^ 20) (ma : a < 2 ^ 20) (c1 : Ans (d + 8) 54 [.ref 23, .int (nI 1), .int (nI ln)] S (some (.int (nI a))) S1) (k1 : sI S1 3105 = nI 47) (c2 : Ans (d + 8) 105 [.ref 43, .int (nI dp)] S1 none S2) : Bod (d + 8) 53 0 [(0, .ref 43), (1, .int (nI dp))] [] S none (S2) := by
  refine Bod.go dc_53_0 rfl ?_
  refine Bod.get dc_53_1 fr_53_15 (mk_43 _) rfl ?_
  refine Bod.ic 1 (by decide) dc_53_4 ?_
  refine Bod.go dc_53_5 rfl ?_
  refine Bod.get dc_53_6 fr_53_9 (mk_43 _) rfl ?_
  refine Bod.get dc_53_9 fr_53_113 (mk_31 _) rfl ?_
  refine Bod.eqI (nI ln) (by first | assumption | rfl | exact congrArg nI (by omega) | (simp (disch := omega) only [rI, rIe, rA, rIA, rLA, rJA, rVI, rQI, rVA, rQA, upd_at,  rAI, rLI, rJI, nI_add, pk_sub, kc_0, kc_1, kc_2, kc_3, kc_4, kc_5, reduceIte, Nat.reduceEqDiff, Nat.add_zero, rI_hold, rI_hold, rL_hold, hln]; done)) ?_
  refine Bod.virt (r := []) dc_53_12 kr_53_116 ⟨Or.inr rfl, ow_54, cl_7⟩ (by rw [np_54]; rfl) (by rw [np_54]; rfl) (ob_of (mk_23 _)) (Nat.le_of_ble_eq_true rfl) (c1  ) ?_
  show Bod _ _ _ _ [_] _ _ _
  refine Bod.go dc_53_15 rfl ?_
  refine Bod.go dc_53_16 rfl ?_
  refine Bod.get dc_53_17 fr_53_9 (mk_43 _) rfl ?_
  refine Bod.get dc_53_20 fr_53_79 (mk_31 _) rfl ?_
  refine Bod.eqI (nI 47) (by first | (simp (disch := omega) only [rI, rIe, rA, rIA, rLA, rJA, rVI, rQI, rVA, rQA, upd_at,  rAI, rLI, rJI, nI_add, pk_sub, kc_0, kc_1, kc_2, kc_3, kc_4, kc_5, reduceIte, Nat.reduceEqDiff, Nat.add_zero, rI_hold, rI_hold, rL_hold, hln, k1]; done) | (simp (disch := omega) only [rI, rIe, rA, rIA, rLA, rJA, rVI, rQI, rVA, rQA, upd_at,  rAI, rLI, rJI, nI_add, pk_sub, kc_0, kc_1, kc_2, kc_3, kc_4, kc_5, reduceIte, Nat.reduceEqDiff, Nat.add_zero, rI_hold, rI_hold, rL_hold, hln, k1]; exact congrArg nI (by omega))) ?_
  refine Bod.sw (t := 132) dc_53_23 rfl rfl (by decide +kernel) ?_
  refine Bod.go dc_53_132 rfl ?_
  refine Bod.go dc_53_133 rfl ?_
  refine Bod.virt (r := []) dc_53_134 kr_53_134 ⟨Or.inl rfl, ow_105, cl_10⟩ (by rw [np_105]; rfl) (by rw [np_105]; rfl) (ob_of (mk_43 _)) (Nat.le_of_ble_eq_true rfl) (c2  ) ?_
  show Bod _ _ _ _ [] _ _ _
  exact Bod.retV dc_53_137 rt_53
theorem cSt54_1 {d : Nat} {S : cS} {dp : Nat} {ln : Nat} {S1 : cS} {a : Nat} {S2 : cS} (mdp : dp < 2 ^ 20) (hln : sI S 3106 = nI ln) (mln : ln < 2 ^ 20) (ma : a < 2 ^ 20) (c1 : Ans (d + 8) 54 [.ref 23, .int (nI 1), .int (nI ln)] S (some (.int (nI a))) S1) (k1 : sI S1 3105 = nI 54) (c2 : Ans (d + 8) 108 [.ref 43, .int (nI dp)] S1 none S2) : Bod (d + 8) 53 0 [(0, .ref 43), (1, .int (nI dp))] [] S none (S2) := by
  refine Bod.go dc_53_0 rfl ?_
  refine Bod.get dc_53_1 fr_53_15 (mk_43 _) rfl ?_
  refine Bod.ic 1 (by decide) dc_53_4 ?_
  refine Bod.go dc_53_5 rfl ?_
  refine Bod.get dc_53_6 fr_53_9 (mk_43 _) rfl ?_
  refine Bod.get dc_53_9 fr_53_113 (mk_31 _) rfl ?_
  refine Bod.eqI (nI ln) (by first | assumption | rfl | exact congrArg nI (by omega) | (simp (disch := omega) only [rI, rIe, rA, rIA, rLA, rJA, rVI, rQI, rVA, rQA, upd_at,  rAI, rLI, rJI, nI_add, pk_sub, kc_0, kc_1, kc_2, kc_3, kc_4, kc_5, reduceIte, Nat.reduceEqDiff, Nat.add_zero, rI_hold, rI_hold, rL_hold, hln]; done)) ?_
  refine Bod.virt (r := []) dc_53_12 kr_53_116 ⟨Or.inr rfl, ow_54, cl_7⟩ (by rw [np_54]; rfl) (by rw [np_54]; rfl) (ob_of (mk_23 _)) (Nat.le_of_ble_eq_true rfl) (c1  ) ?_
  show Bod _ _ _ _ [_] _ _ _
  refine Bod.go dc_53_15 rfl ?_
  refine Bod.go dc_53_16 rfl ?_
  refine Bod.get dc_53_17 fr_53_9 (mk_43 _) rfl ?_
  refine Bod.get dc_53_20 fr_53_79 (mk_31 _) rfl ?_
  refine Bod.eqI (nI 54) (by first | (simp (disch := omega) only [rI, rIe, rA, rIA, rLA, rJA, rVI, rQI, rVA, rQA, upd_at,  rAI, rLI, rJI, nI_add, pk_sub, kc_0, kc_1, kc_2, kc_3, kc_4, kc_5, reduceIte, Nat.reduceEqDiff, Nat.add_zero, rI_hold, rI_hold, rL_hold, hln, k1]; done) | (simp (disch := omega) only [rI, rIe, rA, rIA, rLA, rJA, rVI, rQI, rVA, rQA, upd_at,  rAI, rLI, rJI, nI_add, pk_sub, kc_0, kc_1, kc_2, kc_3, kc_4, kc_5, reduceIte, Nat.reduceEqDiff, Nat.add_zero, rI_hold, rI_hold, rL_hold, hln, k1]; exact congrArg nI (by omega))) ?_
  refine Bod.sw (t := 138) dc_53_23 rfl rfl (by decide +kernel) ?_
  refine Bod.go dc_53_138 rfl ?_
  refine Bod.go dc_53_139 rfl ?_
  refine Bod.virt (r := []) dc_53_140 kr_53_137 ⟨Or.inl rfl, ow_108, cl_10⟩ (by rw [np_108]; rfl) (by rw [np_108]; rfl) (ob_of (mk_43 _)) (Nat.le_of_ble_eq_true rfl) (c2  ) ?_
  show Bod _ _ _ _ [] _ _ _
  exact Bod.retV dc_53_143 rt_53
theorem cSt52_1 {d : Nat} {S : cS} {dp : Nat} {ln : Nat} {S1 : cS} {a : Nat} {S2 : cS} {S3 : cS} (mdp : dp < 2 ^ 20) (hln : sI S 3106 = nI ln) (mln : ln < 2 ^ 20) (ma : a < 2 ^ 20) (c1 : Ans (d + 8) 54 [.ref 23, .int (nI 1), .int (nI ln)] S (some (.int (nI a))) S1) (k1 : sI S1 3105 = nI 52) (c2 : Ans (d + 8) 109 [.ref 43] S1 none S2) (c3 : Ans (d + 8) 86 [.ref 31] S2 none S3) : Bod (d + 8) 53 0 [(0, .ref 43), (1, .int (nI dp))] [] S none (S3) := by
  refine Bod.go dc_53_0 rfl ?_
  refine Bod.get dc_53_1 fr_53_15 (mk_43 _) rfl ?_
  refine Bod.ic 1 (by decide) dc_53_4 ?_
  refine Bod.go dc_53_5 rfl ?_
  refine Bod.get dc_53_6 fr_53_9 (mk_43 _) rfl ?_
  refine Bod.get dc_53_9 fr_53_113 (mk_31 _) rfl ?_
  refine Bod.eqI (nI ln) (by first | assumption | rfl | exact congrArg nI (by omega) | (simp (disch := omega) only [rI, rIe, rA, rIA, rLA, rJA, rVI, rQI, rVA, rQA, upd_at,  rAI, rLI, rJI, nI_add, pk_sub, kc_0, kc_1, kc_2, kc_3, kc_4, kc_5, reduceIte, Nat.reduceEqDiff, Nat.add_zero, rI_hold, rI_hold, rL_hold, hln]; done)) ?_
  refine Bod.virt (r := []) dc_53_12 kr_53_116 ⟨Or.inr rfl, ow_54, cl_7⟩ (by rw [np_54]; rfl) (by rw [np_54]; rfl) (ob_of (mk_23 _)) (Nat.le_of_ble_eq_true rfl) (c1  ) ?_
  show Bod _ _ _ _ [_] _ _ _
  refine Bod.go dc_53_15 rfl ?_
  refine Bod.go dc_53_16 rfl ?_
  refine Bod.get dc_53_17 fr_53_9 (mk_43 _) rfl ?_
  refine Bod.get dc_53_20 fr_53_79 (mk_31 _) rfl ?_
  refine Bod.eqI (nI 52) (by first | (simp (disch := omega) only [rI, rIe, rA, rIA, rLA, rJA, rVI, rQI, rVA, rQA, upd_at,  rAI, rLI, rJI, nI_add, pk_sub, kc_0, kc_1, kc_2, kc_3, kc_4, kc_5, reduceIte, Nat.reduceEqDiff, Nat.add_zero, rI_hold, rI_hold, rL_hold, hln, k1]; done) | (simp (disch := omega) only [rI, rIe, rA, rIA, rLA, rJA, rVI, rQI, rVA, rQA, upd_at,  rAI, rLI, rJI, nI_add, pk_sub, kc_0, kc_1, kc_2, kc_3, kc_4, kc_5, reduceIte, Nat.reduceEqDiff, Nat.add_zero, rI_hold, rI_hold, rL_hold, hln, k1]; exact congrArg nI (by omega))) ?_
  refine Bod.sw (t := 144) dc_53_23 rfl rfl (by decide +kernel) ?_
  refine Bod.go dc_53_144 rfl ?_
  refine Bod.virt (r := []) dc_53_145 kr_53_140 ⟨Or.inl rfl, ow_109, cl_10⟩ (by rw [np_109]; rfl) (by rw [np_109]; rfl) (ob_of (mk_43 _)) (Nat.le_of_ble_eq_true rfl) (c2  ) ?_
  show Bod _ _ _ _ [] _ _ _
  refine Bod.go dc_53_148 rfl ?_
  refine Bod.go dc_53_204 rfl ?_
  refine Bod.get dc_53_205 fr_53_9 (mk_43 _) rfl ?_
  refine Bod.virt (r := []) dc_53_208 kr_53_110 ⟨Or.inr rfl, ow_86, cl_3⟩ (by rw [np_86]; rfl) (by rw [np_86]; rfl) (ob_of (mk_31 _)) (Nat.le_of_ble_eq_true rfl) (c3  ) ?_
  show Bod _ _ _ _ [] _ _ _
  exact Bod.retV dc_53_211 rt_53
theorem cSt48_1 {d : Nat} {S : cS} {dp : Nat} {ln : Nat} {S1 : cS} {a : Nat} {S2 : cS} {S3 : cS} (mdp : dp < 2 ^ 20) (hln : sI S 3106 = nI ln) (mln : ln < 2 ^ 20) (ma : a < 2 ^ 20) (c1 : Ans (d + 8) 54 [.ref 23, .int (nI 1), .int (nI ln)] S (some (.int (nI a))) S1) (k1 : sI S1 3105 = nI 48) (c2 : Ans (d + 8) 112 [.ref 43] S1 none S2) (c3 : Ans (d + 8) 86 [.ref 31] S2 none S3) : Bod (d + 8) 53 0 [(0, .ref 43), (1, .int (nI dp))] [] S none (S3) := by
  refine Bod.go dc_53_0 rfl ?_
  refine Bod.get dc_53_1 fr_53_15 (mk_43 _) rfl ?_
  refine Bod.ic 1 (by decide) dc_53_4 ?_
  refine Bod.go dc_53_5 rfl ?_
  refine Bod.get dc_53_6 fr_53_9 (mk_43 _) rfl ?_
  refine Bod.get dc_53_9 fr_53_113 (mk_31 _) rfl ?_
  refine Bod.eqI (nI ln) (by first | assumption | rfl | exact congrArg nI (by omega) | (simp (disch := omega) only [rI, rIe, rA, rIA, rLA, rJA, rVI, rQI, rVA, rQA, upd_at,  rAI, rLI, rJI, nI_add, pk_sub, kc_0, kc_1, kc_2, kc_3, kc_4, kc_5, reduceIte, Nat.reduceEqDiff, Nat.add_zero, rI_hold, rI_hold, rL_hold, hln]; done)) ?_
  refine Bod.virt (r := []) dc_53_12 kr_53_116 ⟨Or.inr rfl, ow_54, cl_7⟩ (by rw [np_54]; rfl) (by rw [np_54]; rfl) (ob_of (mk_23 _)) (Nat.le_of_ble_eq_true rfl) (c1  ) ?_
  show Bod _ _ _ _ [_] _ _ _
  refine Bod.go dc_53_15 rfl ?_
  refine Bod.go dc_53_16 rfl ?_
  refine Bod.get dc_53_17 fr_53_9 (mk_43 _) rfl ?_
  refine Bod.get dc_53_20 fr_53_79 (mk_31 _) rfl ?_
  refine Bod.eqI (nI 48) (by first | (simp (disch := omega) only [rI, rIe, rA, rIA, rLA, rJA, rVI, rQI, rVA, rQA, upd_at,  rAI, rLI, rJI, nI_add, pk_sub, kc_0, kc_1, kc_2, kc_3, kc_4, kc_5, reduceIte, Nat.reduceEqDiff, Nat.add_zero, rI_hold, rI_hold, rL_hold, hln, k1]; done) | (simp (disch := omega) only [rI, rIe, rA, rIA, rLA, rJA, rVI, rQI, rVA, rQA, upd_at,  rAI, rLI, rJI, nI_add, pk_sub, kc_0, kc_1, kc_2, kc_3, kc_4, kc_5, reduceIte, Nat.reduceEqDiff, Nat.add_zero, rI_hold, rI_hold, rL_hold, hln, k1]; exact congrArg nI (by omega))) ?_
  refine Bod.sw (t := 151) dc_53_23 rfl rfl (by decide +kernel) ?_
  refine Bod.go dc_53_151 rfl ?_
  refine Bod.virt (r := []) dc_53_152 kr_53_143 ⟨Or.inl rfl, ow_112, cl_10⟩ (by rw [np_112]; rfl) (by rw [np_112]; rfl) (ob_of (mk_43 _)) (Nat.le_of_ble_eq_true rfl) (c2  ) ?_
  show Bod _ _ _ _ [] _ _ _
  refine Bod.go dc_53_155 rfl ?_
  refine Bod.go dc_53_204 rfl ?_
  refine Bod.get dc_53_205 fr_53_9 (mk_43 _) rfl ?_
  refine Bod.virt (r := []) dc_53_208 kr_53_110 ⟨Or.inr rfl, ow_86, cl_3⟩ (by rw [np_86]; rfl) (by rw [np_86]; rfl) (ob_of (mk_31 _)) (Nat.le_of_ble_eq_true rfl) (c3  ) ?_
  show Bod _ _ _ _ [] _ _ _
  exact Bod.retV dc_53_211 rt_53
theorem cSt56_1 {d : Nat} {S : cS} {dp : Nat} {ln : Nat} {S1 : cS} {a : Nat} {S2 : cS} {S3 : cS} (mdp : dp < 2 ^ 20) (hln : sI S 3106 = nI ln) (mln : ln < 2 ^ 20) (ma : a < 2 ^ 20) (c1 : Ans (d + 8) 54 [.ref 23, .int (nI 1), .int (nI ln)] S (some (.int (nI a))) S1) (k1 : sI S1 3105 = nI 56) (c2 : Ans (d + 8) 113 [.ref 43] S1 none S2) (c3 : Ans (d + 8) 86 [.ref 31] S2 none S3) : Bod (d + 8) 53 0 [(0, .ref 43), (1, .int (nI dp))] [] S none (S3) := by
  refine Bod.go dc_53_0 rfl ?_
  refine Bod.get dc_53_1 fr_53_15 (mk_43 _) rfl ?_
  refine Bod.ic 1 (by decide) dc_53_4 ?_
  refine Bod.go dc_53_5 rfl ?_
  refine Bod.get dc_53_6 fr_53_9 (mk_43 _) rfl ?_
  refine Bod.get dc_53_9 fr_53_113 (mk_31 _) rfl ?_
  refine Bod.eqI (nI ln) (by first | assumption | rfl | exact congrArg nI (by omega) | (simp (disch := omega) only [rI, rIe, rA, rIA, rLA, rJA, rVI, rQI, rVA, rQA, upd_at,  rAI, rLI, rJI, nI_add, pk_sub, kc_0, kc_1, kc_2, kc_3, kc_4, kc_5, reduceIte, Nat.reduceEqDiff, Nat.add_zero, rI_hold, rI_hold, rL_hold, hln]; done)) ?_
  refine Bod.virt (r := []) dc_53_12 kr_53_116 ⟨Or.inr rfl, ow_54, cl_7⟩ (by rw [np_54]; rfl) (by rw [np_54]; rfl) (ob_of (mk_23 _)) (Nat.le_of_ble_eq_true rfl) (c1  ) ?_
  show Bod _ _ _ _ [_] _ _ _
  refine Bod.go dc_53_15 rfl ?_
  refine Bod.go dc_53_16 rfl ?_
  refine Bod.get dc_53_17 fr_53_9 (mk_43 _) rfl ?_
  refine Bod.get dc_53_20 fr_53_79 (mk_31 _) rfl ?_
  refine Bod.eqI (nI 56) (by first | (simp (disch := omega) only [rI, rIe, rA, rIA, rLA, rJA, rVI, rQI, rVA, rQA, upd_at,  rAI, rLI, rJI, nI_add, pk_sub, kc_0, kc_1, kc_2, kc_3, kc_4, kc_5, reduceIte, Nat.reduceEqDiff, Nat.add_zero, rI_hold, rI_hold, rL_hold, hln, k1]; done) | (simp (disch := omega) only [rI, rIe, rA, rIA, rLA, rJA, rVI, rQI, rVA, rQA, upd_at,  rAI, rLI, rJI, nI_add, pk_sub, kc_0, kc_1, kc_2, kc_3, kc_4, kc_5, reduceIte, Nat.reduceEqDiff, Nat.add_zero, rI_hold, rI_hold, rL_hold, hln, k1]; exact congrArg nI (by omega))) ?_
  refine Bod.sw (t := 158) dc_53_23 rfl rfl (by decide +kernel) ?_
  refine Bod.go dc_53_158 rfl ?_
  refine Bod.virt (r := []) dc_53_159 kr_53_146 ⟨Or.inl rfl, ow_113, cl_10⟩ (by rw [np_113]; rfl) (by rw [np_113]; rfl) (ob_of (mk_43 _)) (Nat.le_of_ble_eq_true rfl) (c2  ) ?_
  show Bod _ _ _ _ [] _ _ _
  refine Bod.go dc_53_162 rfl ?_
  refine Bod.go dc_53_204 rfl ?_
  refine Bod.get dc_53_205 fr_53_9 (mk_43 _) rfl ?_
  refine Bod.virt (r := []) dc_53_208 kr_53_110 ⟨Or.inr rfl, ow_86, cl_3⟩ (by rw [np_86]; rfl) (by rw [np_86]; rfl) (ob_of (mk_31 _)) (Nat.le_of_ble_eq_true rfl) (c3  ) ?_
  show Bod _ _ _ _ [] _ _ _
  exact Bod.retV dc_53_211 rt_53
theorem cSt51_1 {d : Nat} {S : cS} {dp : Nat} {ln : Nat} {S1 : cS} {a : Nat} {S2 : cS} {S3 : cS} (mdp : dp < 2 ^ 20) (hln : sI S 3106 = nI ln) (mln : ln < 2 ^ 20) (ma : a < 2 ^ 20) (c1 : Ans (d + 8) 54 [.ref 23, .int (nI 1), .int (nI ln)] S (some (.int (nI a))) S1) (k1 : sI S1 3105 = nI 51) (c2 : Ans (d + 8) 75 [.ref 31, .int (nI 51)] S1 none S2) (c3 : Ans (d + 8) 86 [.ref 31] S2 none S3) : Bod (d + 8) 53 0 [(0, .ref 43), (1, .int (nI dp))] [] S none (S3) := by
  refine Bod.go dc_53_0 rfl ?_
  refine Bod.get dc_53_1 fr_53_15 (mk_43 _) rfl ?_
  refine Bod.ic 1 (by decide) dc_53_4 ?_
  refine Bod.go dc_53_5 rfl ?_
  refine Bod.get dc_53_6 fr_53_9 (mk_43 _) rfl ?_
  refine Bod.get dc_53_9 fr_53_113 (mk_31 _) rfl ?_
  refine Bod.eqI (nI ln) (by first | assumption | rfl | exact congrArg nI (by omega) | (simp (disch := omega) only [rI, rIe, rA, rIA, rLA, rJA, rVI, rQI, rVA, rQA, upd_at,  rAI, rLI, rJI, nI_add, pk_sub, kc_0, kc_1, kc_2, kc_3, kc_4, kc_5, reduceIte, Nat.reduceEqDiff, Nat.add_zero, rI_hold, rI_hold, rL_hold, hln]; done)) ?_
  refine Bod.virt (r := []) dc_53_12 kr_53_116 ⟨Or.inr rfl, ow_54, cl_7⟩ (by rw [np_54]; rfl) (by rw [np_54]; rfl) (ob_of (mk_23 _)) (Nat.le_of_ble_eq_true rfl) (c1  ) ?_
  show Bod _ _ _ _ [_] _ _ _
  refine Bod.go dc_53_15 rfl ?_
  refine Bod.go dc_53_16 rfl ?_
  refine Bod.get dc_53_17 fr_53_9 (mk_43 _) rfl ?_
  refine Bod.get dc_53_20 fr_53_79 (mk_31 _) rfl ?_
  refine Bod.eqI (nI 51) (by first | (simp (disch := omega) only [rI, rIe, rA, rIA, rLA, rJA, rVI, rQI, rVA, rQA, upd_at,  rAI, rLI, rJI, nI_add, pk_sub, kc_0, kc_1, kc_2, kc_3, kc_4, kc_5, reduceIte, Nat.reduceEqDiff, Nat.add_zero, rI_hold, rI_hold, rL_hold, hln, k1]; done) | (simp (disch := omega) only [rI, rIe, rA, rIA, rLA, rJA, rVI, rQI, rVA, rQA, upd_at,  rAI, rLI, rJI, nI_add, pk_sub, kc_0, kc_1, kc_2, kc_3, kc_4, kc_5, reduceIte, Nat.reduceEqDiff, Nat.add_zero, rI_hold, rI_hold, rL_hold, hln, k1]; exact congrArg nI (by omega))) ?_
  refine Bod.sw (t := 165) dc_53_23 rfl rfl (by decide +kernel) ?_
  refine Bod.go dc_53_165 rfl ?_
  refine Bod.get dc_53_166 fr_53_9 (mk_43 _) rfl ?_
  refine Bod.bip 51 (by decide) dc_53_169 ?_
  refine Bod.virt (r := []) dc_53_171 kr_53_107 ⟨Or.inr rfl, ow_75, cl_3⟩ (by rw [np_75]; rfl) (by rw [np_75]; rfl) (ob_of (mk_31 _)) (Nat.le_of_ble_eq_true rfl) (c2  ) ?_
  show Bod _ _ _ _ [] _ _ _
  refine Bod.go dc_53_174 rfl ?_
  refine Bod.go dc_53_204 rfl ?_
  refine Bod.get dc_53_205 fr_53_9 (mk_43 _) rfl ?_
  refine Bod.virt (r := []) dc_53_208 kr_53_110 ⟨Or.inr rfl, ow_86, cl_3⟩ (by rw [np_86]; rfl) (by rw [np_86]; rfl) (ob_of (mk_31 _)) (Nat.le_of_ble_eq_true rfl) (c3  ) ?_
  show Bod _ _ _ _ [] _ _ _
  exact Bod.retV dc_53_211 rt_53
theorem cSt49_1 {d : Nat} {S : cS} {dp : Nat} {ln : Nat} {S1 : cS} {a : Nat} {S2 : cS} {S3 : cS} (mdp : dp < 2 ^ 20) (hln : sI S 3106 = nI ln) (mln : ln < 2 ^ 20) (ma : a < 2 ^ 20) (c1 : Ans (d + 8) 54 [.ref 23, .int (nI 1), .int (nI ln)] S (some (.int (nI a))) S1) (k1 : sI S1 3105 = nI 49) (c2 : Ans (d + 8) 114 [.ref 43, .int (nI 1)] S1 none S2) (c3 : Ans (d + 8) 86 [.ref 31] S2 none S3) : Bod (d + 8) 53 0 [(0, .ref 43), (1, .int (nI dp))] [] S none (S3) := by
  refine Bod.go dc_53_0 rfl ?_
  refine Bod.get dc_53_1 fr_53_15 (mk_43 _) rfl ?_
  refine Bod.ic 1 (by decide) dc_53_4 ?_
  refine Bod.go dc_53_5 rfl ?_
  refine Bod.get dc_53_6 fr_53_9 (mk_43 _) rfl ?_
  refine Bod.get dc_53_9 fr_53_113 (mk_31 _) rfl ?_
  refine Bod.eqI (nI ln) (by first | assumption | rfl | exact congrArg nI (by omega) | (simp (disch := omega) only [rI, rIe, rA, rIA, rLA, rJA, rVI, rQI, rVA, rQA, upd_at,  rAI, rLI, rJI, nI_add, pk_sub, kc_0, kc_1, kc_2, kc_3, kc_4, kc_5, reduceIte, Nat.reduceEqDiff, Nat.add_zero, rI_hold, rI_hold, rL_hold, hln]; done)) ?_
  refine Bod.virt (r := []) dc_53_12 kr_53_116 ⟨Or.inr rfl, ow_54, cl_7⟩ (by rw [np_54]; rfl) (by rw [np_54]; rfl) (ob_of (mk_23 _)) (Nat.le_of_ble_eq_true rfl) (c1  ) ?_
  show Bod _ _ _ _ [_] _ _ _
  refine Bod.go dc_53_15 rfl ?_
  refine Bod.go dc_53_16 rfl ?_
  refine Bod.get dc_53_17 fr_53_9 (mk_43 _) rfl ?_
  refine Bod.get dc_53_20 fr_53_79 (mk_31 _) rfl ?_
  refine Bod.eqI (nI 49) (by first | (simp (disch := omega) only [rI, rIe, rA, rIA, rLA, rJA, rVI, rQI, rVA, rQA, upd_at,  rAI, rLI, rJI, nI_add, pk_sub, kc_0, kc_1, kc_2, kc_3, kc_4, kc_5, reduceIte, Nat.reduceEqDiff, Nat.add_zero, rI_hold, rI_hold, rL_hold, hln, k1]; done) | (simp (disch := omega) only [rI, rIe, rA, rIA, rLA, rJA, rVI, rQI, rVA, rQA, upd_at,  rAI, rLI, rJI, nI_add, pk_sub, kc_0, kc_1, kc_2, kc_3, kc_4, kc_5, reduceIte, Nat.reduceEqDiff, Nat.add_zero, rI_hold, rI_hold, rL_hold, hln, k1]; exact congrArg nI (by omega))) ?_
  refine Bod.sw (t := 177) dc_53_23 rfl rfl (by decide +kernel) ?_
  refine Bod.go dc_53_177 rfl ?_
  refine Bod.ic 1 (by decide) dc_53_178 ?_
  refine Bod.virt (r := []) dc_53_179 kr_53_149 ⟨Or.inl rfl, ow_114, cl_10⟩ (by rw [np_114]; rfl) (by rw [np_114]; rfl) (ob_of (mk_43 _)) (Nat.le_of_ble_eq_true rfl) (c2  ) ?_
  show Bod _ _ _ _ [] _ _ _
  refine Bod.go dc_53_182 rfl ?_
  refine Bod.go dc_53_204 rfl ?_
  refine Bod.get dc_53_205 fr_53_9 (mk_43 _) rfl ?_
  refine Bod.virt (r := []) dc_53_208 kr_53_110 ⟨Or.inr rfl, ow_86, cl_3⟩ (by rw [np_86]; rfl) (by rw [np_86]; rfl) (ob_of (mk_31 _)) (Nat.le_of_ble_eq_true rfl) (c3  ) ?_
  show Bod _ _ _ _ [] _ _ _
  exact Bod.retV dc_53_211 rt_53
theorem cSt50_1 {d : Nat} {S : cS} {dp : Nat} {ln : Nat} {S1 : cS} {a : Nat} {S2 : cS} {S3 : cS} (mdp : dp < 2 ^ 20) (hln : sI S 3106 = nI ln) (mln : ln < 2 ^ 20) (ma : a < 2 ^ 20) (c1 : Ans (d + 8) 54 [.ref 23, .int (nI 1), .int (nI ln)] S (some (.int (nI a))) S1) (k1 : sI S1 3105 = nI 50) (c2 : Ans (d + 8) 114 [.ref 43, .int (nI 0)] S1 none S2) (c3 : Ans (d + 8) 86 [.ref 31] S2 none S3) : Bod (d + 8) 53 0 [(0, .ref 43), (1, .int (nI dp))] [] S none (S3) := by
  refine Bod.go dc_53_0 rfl ?_
  refine Bod.get dc_53_1 fr_53_15 (mk_43 _) rfl ?_
  refine Bod.ic 1 (by decide) dc_53_4 ?_
  refine Bod.go dc_53_5 rfl ?_
  refine Bod.get dc_53_6 fr_53_9 (mk_43 _) rfl ?_
  refine Bod.get dc_53_9 fr_53_113 (mk_31 _) rfl ?_
  refine Bod.eqI (nI ln) (by first | assumption | rfl | exact congrArg nI (by omega) | (simp (disch := omega) only [rI, rIe, rA, rIA, rLA, rJA, rVI, rQI, rVA, rQA, upd_at,  rAI, rLI, rJI, nI_add, pk_sub, kc_0, kc_1, kc_2, kc_3, kc_4, kc_5, reduceIte, Nat.reduceEqDiff, Nat.add_zero, rI_hold, rI_hold, rL_hold, hln]; done)) ?_
  refine Bod.virt (r := []) dc_53_12 kr_53_116 ⟨Or.inr rfl, ow_54, cl_7⟩ (by rw [np_54]; rfl) (by rw [np_54]; rfl) (ob_of (mk_23 _)) (Nat.le_of_ble_eq_true rfl) (c1  ) ?_
  show Bod _ _ _ _ [_] _ _ _
  refine Bod.go dc_53_15 rfl ?_
  refine Bod.go dc_53_16 rfl ?_
  refine Bod.get dc_53_17 fr_53_9 (mk_43 _) rfl ?_
  refine Bod.get dc_53_20 fr_53_79 (mk_31 _) rfl ?_
  refine Bod.eqI (nI 50) (by first | (simp (disch := omega) only [rI, rIe, rA, rIA, rLA, rJA, rVI, rQI, rVA, rQA, upd_at,  rAI, rLI, rJI, nI_add, pk_sub, kc_0, kc_1, kc_2, kc_3, kc_4, kc_5, reduceIte, Nat.reduceEqDiff, Nat.add_zero, rI_hold, rI_hold, rL_hold, hln, k1]; done) | (simp (disch := omega) only [rI, rIe, rA, rIA, rLA, rJA, rVI, rQI, rVA, rQA, upd_at,  rAI, rLI, rJI, nI_add, pk_sub, kc_0, kc_1, kc_2, kc_3, kc_4, kc_5, reduceIte, Nat.reduceEqDiff, Nat.add_zero, rI_hold, rI_hold, rL_hold, hln, k1]; exact congrArg nI (by omega))) ?_
  refine Bod.sw (t := 185) dc_53_23 rfl rfl (by decide +kernel) ?_
  refine Bod.go dc_53_185 rfl ?_
  refine Bod.ic 0 (by decide) dc_53_186 ?_
  refine Bod.virt (r := []) dc_53_187 kr_53_149 ⟨Or.inl rfl, ow_114, cl_10⟩ (by rw [np_114]; rfl) (by rw [np_114]; rfl) (ob_of (mk_43 _)) (Nat.le_of_ble_eq_true rfl) (c2  ) ?_
  show Bod _ _ _ _ [] _ _ _
  refine Bod.go dc_53_190 rfl ?_
  refine Bod.go dc_53_204 rfl ?_
  refine Bod.get dc_53_205 fr_53_9 (mk_43 _) rfl ?_
  refine Bod.virt (r := []) dc_53_208 kr_53_110 ⟨Or.inr rfl, ow_86, cl_3⟩ (by rw [np_86]; rfl) (by rw [np_86]; rfl) (ob_of (mk_31 _)) (Nat.le_of_ble_eq_true rfl) (c3  ) ?_
  show Bod _ _ _ _ [] _ _ _
  exact Bod.retV dc_53_211 rt_53
theorem cSt53_1 {d : Nat} {S : cS} {dp : Nat} {ln : Nat} {S1 : cS} {a : Nat} {S2 : cS} {S3 : cS} (mdp : dp < 2 ^ 20) (hln : sI S 3106 = nI ln) (mln : ln < 2 ^ 20) (ma : a < 2 ^ 20) (c1 : Ans (d + 8) 54 [.ref 23, .int (nI 1), .int (nI ln)] S (some (.int (nI a))) S1) (k1 : sI S1 3105 = nI 53) (c2 : Ans (d + 8) 115 [.ref 43] S1 none S2) (c3 : Ans (d + 8) 86 [.ref 31] S2 none S3) : Bod (d + 8) 53 0 [(0, .ref 43), (1, .int (nI dp))] [] S none (S3) := by
  refine Bod.go dc_53_0 rfl ?_
  refine Bod.get dc_53_1 fr_53_15 (mk_43 _) rfl ?_
  refine Bod.ic 1 (by decide) dc_53_4 ?_
  refine Bod.go dc_53_5 rfl ?_
  refine Bod.get dc_53_6 fr_53_9 (mk_43 _) rfl ?_
  refine Bod.get dc_53_9 fr_53_113 (mk_31 _) rfl ?_
  refine Bod.eqI (nI ln) (by first | assumption | rfl | exact congrArg nI (by omega) | (simp (disch := omega) only [rI, rIe, rA, rIA, rLA, rJA, rVI, rQI, rVA, rQA, upd_at,  rAI, rLI, rJI, nI_add, pk_sub, kc_0, kc_1, kc_2, kc_3, kc_4, kc_5, reduceIte, Nat.reduceEqDiff, Nat.add_zero, rI_hold, rI_hold, rL_hold, hln]; done)) ?_
  refine Bod.virt (r := []) dc_53_12 kr_53_116 ⟨Or.inr rfl, ow_54, cl_7⟩ (by rw [np_54]; rfl) (by rw [np_54]; rfl) (ob_of (mk_23 _)) (Nat.le_of_ble_eq_true rfl) (c1  ) ?_
  show Bod _ _ _ _ [_] _ _ _
  refine Bod.go dc_53_15 rfl ?_
  refine Bod.go dc_53_16 rfl ?_
  refine Bod.get dc_53_17 fr_53_9 (mk_43 _) rfl ?_
  refine Bod.get dc_53_20 fr_53_79 (mk_31 _) rfl ?_
  refine Bod.eqI (nI 53) (by first | (simp (disch := omega) only [rI, rIe, rA, rIA, rLA, rJA, rVI, rQI, rVA, rQA, upd_at,  rAI, rLI, rJI, nI_add, pk_sub, kc_0, kc_1, kc_2, kc_3, kc_4, kc_5, reduceIte, Nat.reduceEqDiff, Nat.add_zero, rI_hold, rI_hold, rL_hold, hln, k1]; done) | (simp (disch := omega) only [rI, rIe, rA, rIA, rLA, rJA, rVI, rQI, rVA, rQA, upd_at,  rAI, rLI, rJI, nI_add, pk_sub, kc_0, kc_1, kc_2, kc_3, kc_4, kc_5, reduceIte, Nat.reduceEqDiff, Nat.add_zero, rI_hold, rI_hold, rL_hold, hln, k1]; exact congrArg nI (by omega))) ?_
  refine Bod.sw (t := 193) dc_53_23 rfl rfl (by decide +kernel) ?_
  refine Bod.go dc_53_193 rfl ?_
  refine Bod.virt (r := []) dc_53_194 kr_53_153 ⟨Or.inl rfl, ow_115, cl_10⟩ (by rw [np_115]; rfl) (by rw [np_115]; rfl) (ob_of (mk_43 _)) (Nat.le_of_ble_eq_true rfl) (c2  ) ?_
  show Bod _ _ _ _ [] _ _ _
  refine Bod.go dc_53_197 rfl ?_
  refine Bod.go dc_53_204 rfl ?_
  refine Bod.get dc_53_205 fr_53_9 (mk_43 _) rfl ?_
  refine Bod.virt (r := []) dc_53_208 kr_53_110 ⟨Or.inr rfl, ow_86, cl_3⟩ (by rw [np_86]; rfl) (by rw [np_86]; rfl) (ob_of (mk_31 _)) (Nat.le_of_ble_eq_true rfl) (c3  ) ?_
  show Bod _ _ _ _ [] _ _ _
  exact Bod.retV dc_53_211 rt_53
theorem xsw_53_23 : ∀ b, b < 64 → (b = 40 ∨ b = 41 ∨ b = 42 ∨ b = 43 ∨ b = 44 ∨ b = 45 ∨ b = 46 ∨ b = 47 ∨ b = 48 ∨ b = 49 ∨ b = 50 ∨ b = 51 ∨ b = 52 ∨ b = 53 ∨ b = 54 ∨ b = 55 ∨ b = 56 ∨ sm_br (.tableswitch (177) 40 56 #[81, 177, 177, 87, 93, 177, 99, 109, 128, 154, 162, 142, 121, 170, 115, 177, 135]) 81 23 [.int (nI b)] = some (200, [])) := by decide +kernel
theorem cStB_1 {d : Nat} {S : cS} {dp : Nat} {ln : Nat} {S1 : cS} {a : Nat} {tk : Nat} {S2 : cS} {S3 : cS} (mdp : dp < 2 ^ 20) (hln : sI S 3106 = nI ln) (mln : ln < 2 ^ 20) (ma : a < 2 ^ 20) (c1 : Ans (d + 8) 54 [.ref 23, .int (nI 1), .int (nI ln)] S (some (.int (nI a))) S1) (htk : sI S1 3105 = nI tk) (mtk : tk < 2 ^ 20) (b64 : tk < 64) (n40 : tk ≠ 40) (n41 : tk ≠ 41) (n42 : tk ≠ 42) (n43 : tk ≠ 43) (n44 : tk ≠ 44) (n45 : tk ≠ 45) (n46 : tk ≠ 46) (n47 : tk ≠ 47) (n48 : tk ≠ 48) (n49 : tk ≠ 49) (n50 : tk ≠ 50) (n51 : tk ≠ 51) (n52 : tk ≠ 52) (n53 : tk ≠ 53) (n54 : tk ≠ 54) (n55 : tk ≠ 55) (n56 : tk ≠ 56) (c2 : Ans (d + 8) 117 [.ref 43] S1 none S2) (c3 : Ans (d + 8) 86 [.ref 31] S2 none S3) : Bod (d + 8) 53 0 [(0, .ref 43), (1, .int (nI dp))] [] S none (S3) := by
  refine Bod.go dc_53_0 rfl ?_
  refine Bod.get dc_53_1 fr_53_15 (mk_43 _) rfl ?_
  refine Bod.ic 1 (by decide) dc_53_4 ?_
  refine Bod.go dc_53_5 rfl ?_
  refine Bod.get dc_53_6 fr_53_9 (mk_43 _) rfl ?_
  refine Bod.get dc_53_9 fr_53_113 (mk_31 _) rfl ?_
  refine Bod.eqI (nI ln) (by first | assumption | rfl | exact congrArg nI (by omega) | (simp (disch := omega) only [rI, rIe, rA, rIA, rLA, rJA, rVI, rQI, rVA, rQA, upd_at,  rAI, rLI, rJI, nI_add, pk_sub, kc_0, kc_1, kc_2, kc_3, kc_4, kc_5, reduceIte, Nat.reduceEqDiff, Nat.add_zero, rI_hold, rI_hold, rL_hold, hln]; done)) ?_
  refine Bod.virt (r := []) dc_53_12 kr_53_116 ⟨Or.inr rfl, ow_54, cl_7⟩ (by rw [np_54]; rfl) (by rw [np_54]; rfl) (ob_of (mk_23 _)) (Nat.le_of_ble_eq_true rfl) (c1  ) ?_
  show Bod _ _ _ _ [_] _ _ _
  refine Bod.go dc_53_15 rfl ?_
  refine Bod.go dc_53_16 rfl ?_
  refine Bod.get dc_53_17 fr_53_9 (mk_43 _) rfl ?_
  refine Bod.get dc_53_20 fr_53_79 (mk_31 _) rfl ?_
  refine Bod.eqI (nI tk) (by first | (simp (disch := omega) only [rI, rIe, rA, rIA, rLA, rJA, rVI, rQI, rVA, rQA, upd_at,  rAI, rLI, rJI, nI_add, pk_sub, kc_0, kc_1, kc_2, kc_3, kc_4, kc_5, reduceIte, Nat.reduceEqDiff, Nat.add_zero, rI_hold, rI_hold, rL_hold, hln, htk]; done) | (simp (disch := omega) only [rI, rIe, rA, rIA, rLA, rJA, rVI, rQI, rVA, rQA, upd_at,  rAI, rLI, rJI, nI_add, pk_sub, kc_0, kc_1, kc_2, kc_3, kc_4, kc_5, reduceIte, Nat.reduceEqDiff, Nat.add_zero, rI_hold, rI_hold, rL_hold, hln, htk]; exact congrArg nI (by omega))) ?_
  refine Bod.sw (t := 200) dc_53_23 rfl rfl (((((((((((((((((((xsw_53_23 tk b64).resolve_left n40).resolve_left n41).resolve_left n42).resolve_left n43).resolve_left n44).resolve_left n45).resolve_left n46).resolve_left n47).resolve_left n48).resolve_left n49).resolve_left n50).resolve_left n51).resolve_left n52).resolve_left n53).resolve_left n54).resolve_left n55).resolve_left n56)) ?_
  refine Bod.go dc_53_200 rfl ?_
  refine Bod.virt (r := []) dc_53_201 kr_53_156 ⟨Or.inl rfl, ow_117, cl_10⟩ (by rw [np_117]; rfl) (by rw [np_117]; rfl) (ob_of (mk_43 _)) (Nat.le_of_ble_eq_true rfl) (c2  ) ?_
  show Bod _ _ _ _ [] _ _ _
  refine Bod.go dc_53_204 rfl ?_
  refine Bod.get dc_53_205 fr_53_9 (mk_43 _) rfl ?_
  refine Bod.virt (r := []) dc_53_208 kr_53_110 ⟨Or.inr rfl, ow_86, cl_3⟩ (by rw [np_86]; rfl) (by rw [np_86]; rfl) (ob_of (mk_31 _)) (Nat.le_of_ble_eq_true rfl) (c3  ) ?_
  show Bod _ _ _ _ [] _ _ _
  exact Bod.retV dc_53_211 rt_53
theorem cTkn_1 {d : Nat} {S : cS} {nm : Nat} {S1 : cS} (hnm : sI S 3109 = nI nm) (mnm : nm < 2 ^ 20) (c1 : Ans (d + 8) 75 [.ref 31, .int (nI 3)] S none S1) : Bod (d + 8) 92 0 [(0, .ref 43)] [] S (some (.int (nI nm))) (S1) := by
  refine Bod.go dc_92_0 rfl ?_
  refine Bod.get dc_92_1 fr_92_9 (mk_43 _) rfl ?_
  refine Bod.get dc_92_4 fr_92_159 (mk_31 _) rfl ?_
  refine Bod.eqI (nI nm) (by first | assumption | rfl | exact congrArg nI (by omega) | (simp (disch := omega) only [rI, rIe, rA, rIA, rLA, rJA, rVI, rQI, rVA, rQA, upd_at,  rAI, rLI, rJI, nI_add, pk_sub, kc_0, kc_1, kc_2, kc_3, kc_4, kc_5, reduceIte, Nat.reduceEqDiff, Nat.add_zero, rI_hold, rI_hold, rL_hold, hnm]; done)) ?_
  refine Bod.istn dc_92_7 (by rw [ml_92]; exact Nat.le_of_ble_eq_true rfl) ?_
  refine Bod.go dc_92_8 rfl ?_
  refine Bod.get dc_92_9 fr_92_9 (mk_43 _) rfl ?_
  refine Bod.ic 3 (by decide) dc_92_12 ?_
  refine Bod.virt (r := []) dc_92_13 kr_92_107 ⟨Or.inr rfl, ow_75, cl_3⟩ (by rw [np_75]; rfl) (by rw [np_75]; rfl) (ob_of (mk_31 _)) (Nat.le_of_ble_eq_true rfl) (c1  ) ?_
  show Bod _ _ _ _ [] _ _ _
  refine Bod.go dc_92_16 rfl ?_
  exact Bod.retI dc_92_17 rt_92
theorem cBdt_1 {d : Nat} {S : cS} {q : Nat} {S1 : cS} {S2 : cS} {a : Nat} (mq : q < 2 ^ 20) (c1 : Ans (d + 8) 94 [.ref 32, .int (nI q)] S none S1) (ma : a < 2 ^ 20) (c2 : Ans (d + 8) 67 [.ref 32, .int (nI 19), .int (nI q)] S1 (some (.int (nI a))) S2) : Bod (d + 8) 93 0 [(0, .ref 43), (1, .int (nI q))] [] S none (S2) := by
  refine Bod.go dc_93_0 rfl ?_
  refine Bod.get dc_93_1 fr_93_19 (mk_43 _) rfl ?_
  refine Bod.go dc_93_4 rfl ?_
  refine Bod.virt (r := []) dc_93_5 kr_93_162 ⟨Or.inr rfl, ow_94, cl_8⟩ (by rw [np_94]; rfl) (by rw [np_94]; rfl) (ob_of (mk_32 _)) (Nat.le_of_ble_eq_true rfl) (c1  ) ?_
  show Bod _ _ _ _ [] _ _ _
  refine Bod.go dc_93_8 rfl ?_
  refine Bod.get dc_93_9 fr_93_19 (mk_43 _) rfl ?_
  refine Bod.bip 19 (by decide) dc_93_12 ?_
  refine Bod.go dc_93_14 rfl ?_
  refine Bod.virt (r := []) dc_93_15 kr_93_165 ⟨Or.inr rfl, ow_67, cl_8⟩ (by rw [np_67]; rfl) (by rw [np_67]; rfl) (ob_of (mk_32 _)) (Nat.le_of_ble_eq_true rfl) (c2  ) ?_
  show Bod _ _ _ _ [_] _ _ _
  refine Bod.go dc_93_18 rfl ?_
  exact Bod.retV dc_93_19 rt_93
theorem cWhl_1 {d : Nat} {S : cS} {dp : Nat} {ind : Nat} {S1 : cS} {a : Nat} {ln : Nat} {S2 : cS} {a1 : Nat} {top : Nat} {S3 : cS} {S4 : cS} {S5 : cS} {S6 : cS} {a2 : Nat} {S7 : cS} (mdp : dp < 2 ^ 20) (hind : sI S 3108 = nI ind) (mind : ind < 2 ^ 20) (ma : a < 2 ^ 20) (c1 : Ans (d + 8) 54 [.ref 23, .int (nI 4), .int (nI 0)] S (some (.int (nI a))) S1) (hln : sI S1 3106 = nI ln) (mln : ln < 2 ^ 20) (ma1 : a1 < 2 ^ 20) (c2 : Ans (d + 8) 54 [.ref 23, .int (nI 2), .int (nI ln)] S1 (some (.int (nI a1))) S2) (htop : sI S2 2307 = nI top) (mtop : top < 2 ^ 20) (c3 : Ans (d + 8) 83 [.ref 23, .int (nI (a + 1)), .int (nI top)] S2 none S3) (c4 : Ans (d + 8) 75 [.ref 31, .int (nI 43)] S3 none S4) (c5 : Ans (d + 8) 57 [.ref 44, .int (nI 0)] S4 none S5) (ma2 : a2 < 2 ^ 20) (c6 : Ans (d + 8) 54 [.ref 23, .int (nI 5), .int (Int32.ofInt (-1))] S5 (some (.int (nI a2))) S6) (c7 : Ans (d + 8) 90 [.ref 43, .int (nI ind), .int (nI dp), .int (nI a1), .int (nI a2)] S6 none S7) : Bod (d + 8) 89 0 [(0, .ref 43), (1, .int (nI dp))] [] S none (S7) := by
  refine Bod.go dc_89_0 rfl ?_
  refine Bod.get dc_89_1 fr_89_9 (mk_43 _) rfl ?_
  refine Bod.get dc_89_4 fr_89_96 (mk_31 _) rfl ?_
  refine Bod.eqI (nI ind) (by first | assumption | rfl | exact congrArg nI (by omega) | (simp (disch := omega) only [rI, rIe, rA, rIA, rLA, rJA, rVI, rQI, rVA, rQA, upd_at,  rAI, rLI, rJI, nI_add, pk_sub, kc_0, kc_1, kc_2, kc_3, kc_4, kc_5, reduceIte, Nat.reduceEqDiff, Nat.add_zero, rI_hold, rI_hold, rL_hold, hind]; done)) ?_
  refine Bod.istn dc_89_7 (by rw [ml_89]; exact Nat.le_of_ble_eq_true rfl) ?_
  refine Bod.go dc_89_8 rfl ?_
  refine Bod.get dc_89_9 fr_89_15 (mk_43 _) rfl ?_
  refine Bod.ic 4 (by decide) dc_89_12 ?_
  refine Bod.ic 0 (by decide) dc_89_13 ?_
  refine Bod.virt (r := []) dc_89_14 kr_89_116 ⟨Or.inr rfl, ow_54, cl_7⟩ (by rw [np_54]; rfl) (by rw [np_54]; rfl) (ob_of (mk_23 _)) (Nat.le_of_ble_eq_true rfl) (c1  ) ?_
  show Bod _ _ _ _ [_] _ _ _
  refine Bod.istn dc_89_17 (by rw [ml_89]; exact Nat.le_of_ble_eq_true rfl) ?_
  refine Bod.go dc_89_18 rfl ?_
  refine Bod.get dc_89_19 fr_89_15 (mk_43 _) rfl ?_
  refine Bod.ic 2 (by decide) dc_89_22 ?_
  refine Bod.go dc_89_23 rfl ?_
  refine Bod.get dc_89_24 fr_89_9 (mk_43 _) rfl ?_
  refine Bod.get dc_89_27 fr_89_113 (mk_31 _) rfl ?_
  refine Bod.eqI (nI ln) (by first | (simp (disch := omega) only [rI, rIe, rA, rIA, rLA, rJA, rVI, rQI, rVA, rQA, upd_at,  rAI, rLI, rJI, nI_add, pk_sub, kc_0, kc_1, kc_2, kc_3, kc_4, kc_5, reduceIte, Nat.reduceEqDiff, Nat.add_zero, rI_hold, rI_hold, rL_hold, hind, hln]; done) | (simp (disch := omega) only [rI, rIe, rA, rIA, rLA, rJA, rVI, rQI, rVA, rQA, upd_at,  rAI, rLI, rJI, nI_add, pk_sub, kc_0, kc_1, kc_2, kc_3, kc_4, kc_5, reduceIte, Nat.reduceEqDiff, Nat.add_zero, rI_hold, rI_hold, rL_hold, hind, hln]; exact congrArg nI (by omega))) ?_
  refine Bod.virt (r := []) dc_89_30 kr_89_116 ⟨Or.inr rfl, ow_54, cl_7⟩ (by rw [np_54]; rfl) (by rw [np_54]; rfl) (ob_of (mk_23 _)) (Nat.le_of_ble_eq_true rfl) (c2  ) ?_
  show Bod _ _ _ _ [_] _ _ _
  refine Bod.ist dc_89_33 (by rw [ml_89]; exact Nat.le_of_ble_eq_true rfl) ?_
  refine Bod.go dc_89_35 rfl ?_
  refine Bod.get dc_89_36 fr_89_15 (mk_43 _) rfl ?_
  refine Bod.go dc_89_39 rfl ?_
  refine Bod.ic 1 (by decide) dc_89_40 ?_
  refine Bod.addN (a + 1) (by omega) dc_89_41 ?_
  refine Bod.go dc_89_42 rfl ?_
  refine Bod.get dc_89_43 fr_89_15 (mk_43 _) rfl ?_
  refine Bod.get dc_89_46 fr_89_69 (mk_23 _) rfl ?_
  refine Bod.eqI (nI top) (by first | (simp (disch := omega) only [rI, rIe, rA, rIA, rLA, rJA, rVI, rQI, rVA, rQA, upd_at,  rAI, rLI, rJI, nI_add, pk_sub, kc_0, kc_1, kc_2, kc_3, kc_4, kc_5, reduceIte, Nat.reduceEqDiff, Nat.add_zero, rI_hold, rI_hold, rL_hold, hind, hln, htop]; done) | (simp (disch := omega) only [rI, rIe, rA, rIA, rLA, rJA, rVI, rQI, rVA, rQA, upd_at,  rAI, rLI, rJI, nI_add, pk_sub, kc_0, kc_1, kc_2, kc_3, kc_4, kc_5, reduceIte, Nat.reduceEqDiff, Nat.add_zero, rI_hold, rI_hold, rL_hold, hind, hln, htop]; exact congrArg nI (by omega))) ?_
  refine Bod.virt (r := []) dc_89_49 kr_89_201 ⟨Or.inr rfl, ow_83, cl_7⟩ (by rw [np_83]; rfl) (by rw [np_83]; rfl) (ob_of (mk_23 _)) (Nat.le_of_ble_eq_true rfl) (c3  ) ?_
  show Bod _ _ _ _ [] _ _ _
  refine Bod.go dc_89_52 rfl ?_
  refine Bod.get dc_89_53 fr_89_9 (mk_43 _) rfl ?_
  refine Bod.bip 43 (by decide) dc_89_56 ?_
  refine Bod.virt (r := []) dc_89_58 kr_89_107 ⟨Or.inr rfl, ow_75, cl_3⟩ (by rw [np_75]; rfl) (by rw [np_75]; rfl) (ob_of (mk_31 _)) (Nat.le_of_ble_eq_true rfl) (c4  ) ?_
  show Bod _ _ _ _ [] _ _ _
  refine Bod.go dc_89_61 rfl ?_
  refine Bod.get dc_89_62 fr_89_23 (mk_43 _) rfl ?_
  refine Bod.ic 0 (by decide) dc_89_65 ?_
  refine Bod.virt (r := []) dc_89_66 kr_89_169 ⟨Or.inr rfl, ow_57, cl_1⟩ (by rw [np_57]; rfl) (by rw [np_57]; rfl) (ob_of (mk_44 _)) (Nat.le_of_ble_eq_true rfl) (c5  ) ?_
  show Bod _ _ _ _ [] _ _ _
  refine Bod.go dc_89_69 rfl ?_
  refine Bod.get dc_89_70 fr_89_15 (mk_43 _) rfl ?_
  refine Bod.ic 5 (by decide) dc_89_73 ?_
  refine Bod.go dc_89_74 rfl ?_
  refine Bod.virt (r := []) dc_89_75 kr_89_116 ⟨Or.inr rfl, ow_54, cl_7⟩ (by rw [np_54]; rfl) (by rw [np_54]; rfl) (ob_of (mk_23 _)) (Nat.le_of_ble_eq_true rfl) (c6  ) ?_
  show Bod _ _ _ _ [_] _ _ _
  refine Bod.ist dc_89_78 (by rw [ml_89]; exact Nat.le_of_ble_eq_true rfl) ?_
  refine Bod.go dc_89_80 rfl ?_
  refine Bod.go dc_89_81 rfl ?_
  refine Bod.go dc_89_82 rfl ?_
  refine Bod.go dc_89_83 rfl ?_
  refine Bod.go dc_89_85 rfl ?_
  refine Bod.virt (r := []) dc_89_87 kr_89_232 ⟨Or.inl rfl, ow_90, cl_10⟩ (by rw [np_90]; rfl) (by rw [np_90]; rfl) (ob_of (mk_43 _)) (Nat.le_of_ble_eq_true rfl) (c7  ) ?_
  show Bod _ _ _ _ [] _ _ _
  exact Bod.retV dc_89_90 rt_89
theorem cFor_1 {d : Nat} {S : cS} {dp : Nat} {ind : Nat} {ln : Nat} {S1 : cS} {S2 : cS} {a : Nat} {S3 : cS} {S4 : cS} {S5 : cS} {a1 : Nat} {S6 : cS} {a2 : Nat} {S7 : cS} {a3 : Nat} {top : Nat} {S8 : cS} {S9 : cS} {a4 : Nat} {S10 : cS} {S11 : cS} {S12 : cS} {a5 : Nat} (mdp : dp < 2 ^ 20) (hind : sI S 3108 = nI ind) (mind : ind < 2 ^ 20) (hln : sI S 3106 = nI ln) (mln : ln < 2 ^ 20) (c1 : Ans (d + 8) 75 [.ref 31, .int (nI 44)] S none S1) (ma : a < 2 ^ 20) (c2 : Ans (d + 8) 92 [.ref 43] S1 (some (.int (nI a))) S2) (c3 : Ans (d + 8) 75 [.ref 31, .int (nI 45)] S2 none S3) (c4 : Ans (d + 8) 57 [.ref 44, .int (nI 0)] S3 none S4) (ma1 : a1 < 2 ^ 20) (c5 : Ans (d + 8) 71 [.ref 23, .int (nI 9)] S4 (some (.int (nI a1))) S5) (ma2 : a2 < 2 ^ 20) (c6 : Ans (d + 8) 54 [.ref 23, .int (nI 4), .int (nI 0)] S5 (some (.int (nI a2))) S6) (ma3 : a3 < 2 ^ 20) (c7 : Ans (d + 8) 54 [.ref 23, .int (nI 2), .int (nI ln)] S6 (some (.int (nI a3))) S7) (htop : sI S7 2307 = nI top) (mtop : top < 2 ^ 20) (c8 : Ans (d + 8) 83 [.ref 23, .int (nI (a2 + 1)), .int (nI top)] S7 none S8) (ma4 : a4 < 2 ^ 20) (c9 : Ans (d + 8) 54 [.ref 23, .int (nI 10), .int (Int32.ofInt (-1))] S8 (some (.int (nI a4))) S9) (c10 : Ans (d + 8) 93 [.ref 43, .int (nI a)] S9 none S10) (c11 : Ans (d + 8) 90 [.ref 43, .int (nI ind), .int (nI dp), .int (nI a3), .int (nI a4)] S10 none S11) (ma5 : a5 < 2 ^ 20) (c12 : Ans (d + 8) 71 [.ref 23, .int (nI 11)] S11 (some (.int (nI a5))) S12) : Bod (d + 8) 91 0 [(0, .ref 43), (1, .int (nI dp))] [] S none (S12) := by
  refine Bod.go dc_91_0 rfl ?_
  refine Bod.get dc_91_1 fr_91_9 (mk_43 _) rfl ?_
  refine Bod.get dc_91_4 fr_91_96 (mk_31 _) rfl ?_
  refine Bod.eqI (nI ind) (by first | assumption | rfl | exact congrArg nI (by omega) | (simp (disch := omega) only [rI, rIe, rA, rIA, rLA, rJA, rVI, rQI, rVA, rQA, upd_at,  rAI, rLI, rJI, nI_add, pk_sub, kc_0, kc_1, kc_2, kc_3, kc_4, kc_5, reduceIte, Nat.reduceEqDiff, Nat.add_zero, rI_hold, rI_hold, rL_hold, hind]; done)) ?_
  refine Bod.istn dc_91_7 (by rw [ml_91]; exact Nat.le_of_ble_eq_true rfl) ?_
  refine Bod.go dc_91_8 rfl ?_
  refine Bod.get dc_91_9 fr_91_9 (mk_43 _) rfl ?_
  refine Bod.get dc_91_12 fr_91_113 (mk_31 _) rfl ?_
  refine Bod.eqI (nI ln) (by first | assumption | rfl | exact congrArg nI (by omega) | (simp (disch := omega) only [rI, rIe, rA, rIA, rLA, rJA, rVI, rQI, rVA, rQA, upd_at,  rAI, rLI, rJI, nI_add, pk_sub, kc_0, kc_1, kc_2, kc_3, kc_4, kc_5, reduceIte, Nat.reduceEqDiff, Nat.add_zero, rI_hold, rI_hold, rL_hold, hind, hln]; done)) ?_
  refine Bod.istn dc_91_15 (by rw [ml_91]; exact Nat.le_of_ble_eq_true rfl) ?_
  refine Bod.go dc_91_16 rfl ?_
  refine Bod.get dc_91_17 fr_91_9 (mk_43 _) rfl ?_
  refine Bod.bip 44 (by decide) dc_91_20 ?_
  refine Bod.virt (r := []) dc_91_22 kr_91_107 ⟨Or.inr rfl, ow_75, cl_3⟩ (by rw [np_75]; rfl) (by rw [np_75]; rfl) (ob_of (mk_31 _)) (Nat.le_of_ble_eq_true rfl) (c1  ) ?_
  show Bod _ _ _ _ [] _ _ _
  refine Bod.go dc_91_25 rfl ?_
  refine Bod.virt (r := []) dc_91_26 kr_91_220 ⟨Or.inl rfl, ow_92, cl_10⟩ (by rw [np_92]; rfl) (by rw [np_92]; rfl) (ob_of (mk_43 _)) (Nat.le_of_ble_eq_true rfl) (c2  ) ?_
  show Bod _ _ _ _ [_] _ _ _
  refine Bod.ist dc_91_29 (by rw [ml_91]; exact Nat.le_of_ble_eq_true rfl) ?_
  refine Bod.go dc_91_31 rfl ?_
  refine Bod.get dc_91_32 fr_91_9 (mk_43 _) rfl ?_
  refine Bod.bip 45 (by decide) dc_91_35 ?_
  refine Bod.virt (r := []) dc_91_37 kr_91_107 ⟨Or.inr rfl, ow_75, cl_3⟩ (by rw [np_75]; rfl) (by rw [np_75]; rfl) (ob_of (mk_31 _)) (Nat.le_of_ble_eq_true rfl) (c3  ) ?_
  show Bod _ _ _ _ [] _ _ _
  refine Bod.go dc_91_40 rfl ?_
  refine Bod.get dc_91_41 fr_91_23 (mk_43 _) rfl ?_
  refine Bod.ic 0 (by decide) dc_91_44 ?_
  refine Bod.virt (r := []) dc_91_45 kr_91_169 ⟨Or.inr rfl, ow_57, cl_1⟩ (by rw [np_57]; rfl) (by rw [np_57]; rfl) (ob_of (mk_44 _)) (Nat.le_of_ble_eq_true rfl) (c4  ) ?_
  show Bod _ _ _ _ [] _ _ _
  refine Bod.go dc_91_48 rfl ?_
  refine Bod.get dc_91_49 fr_91_15 (mk_43 _) rfl ?_
  refine Bod.bip 9 (by decide) dc_91_52 ?_
  refine Bod.virt (r := []) dc_91_54 kr_91_72 ⟨Or.inr rfl, ow_71, cl_7⟩ (by rw [np_71]; rfl) (by rw [np_71]; rfl) (ob_of (mk_23 _)) (Nat.le_of_ble_eq_true rfl) (c5  ) ?_
  show Bod _ _ _ _ [_] _ _ _
  refine Bod.go dc_91_57 rfl ?_
  refine Bod.go dc_91_58 rfl ?_
  refine Bod.get dc_91_59 fr_91_15 (mk_43 _) rfl ?_
  refine Bod.ic 4 (by decide) dc_91_62 ?_
  refine Bod.ic 0 (by decide) dc_91_63 ?_
  refine Bod.virt (r := []) dc_91_64 kr_91_116 ⟨Or.inr rfl, ow_54, cl_7⟩ (by rw [np_54]; rfl) (by rw [np_54]; rfl) (ob_of (mk_23 _)) (Nat.le_of_ble_eq_true rfl) (c6  ) ?_
  show Bod _ _ _ _ [_] _ _ _
  refine Bod.ist dc_91_67 (by rw [ml_91]; exact Nat.le_of_ble_eq_true rfl) ?_
  refine Bod.go dc_91_69 rfl ?_
  refine Bod.get dc_91_70 fr_91_15 (mk_43 _) rfl ?_
  refine Bod.ic 2 (by decide) dc_91_73 ?_
  refine Bod.go dc_91_74 rfl ?_
  refine Bod.virt (r := []) dc_91_75 kr_91_116 ⟨Or.inr rfl, ow_54, cl_7⟩ (by rw [np_54]; rfl) (by rw [np_54]; rfl) (ob_of (mk_23 _)) (Nat.le_of_ble_eq_true rfl) (c7  ) ?_
  show Bod _ _ _ _ [_] _ _ _
  refine Bod.ist dc_91_78 (by rw [ml_91]; exact Nat.le_of_ble_eq_true rfl) ?_
  refine Bod.go dc_91_80 rfl ?_
  refine Bod.get dc_91_81 fr_91_15 (mk_43 _) rfl ?_
  refine Bod.go dc_91_84 rfl ?_
  refine Bod.ic 1 (by decide) dc_91_86 ?_
  refine Bod.addN (a2 + 1) (by omega) dc_91_87 ?_
  refine Bod.go dc_91_88 rfl ?_
  refine Bod.get dc_91_89 fr_91_15 (mk_43 _) rfl ?_
  refine Bod.get dc_91_92 fr_91_69 (mk_23 _) rfl ?_
  refine Bod.eqI (nI top) (by first | (simp (disch := omega) only [rI, rIe, rA, rIA, rLA, rJA, rVI, rQI, rVA, rQA, upd_at,  rAI, rLI, rJI, nI_add, pk_sub, kc_0, kc_1, kc_2, kc_3, kc_4, kc_5, reduceIte, Nat.reduceEqDiff, Nat.add_zero, rI_hold, rI_hold, rL_hold, hind, hln, htop]; done) | (simp (disch := omega) only [rI, rIe, rA, rIA, rLA, rJA, rVI, rQI, rVA, rQA, upd_at,  rAI, rLI, rJI, nI_add, pk_sub, kc_0, kc_1, kc_2, kc_3, kc_4, kc_5, reduceIte, Nat.reduceEqDiff, Nat.add_zero, rI_hold, rI_hold, rL_hold, hind, hln, htop]; exact congrArg nI (by omega))) ?_
  refine Bod.virt (r := []) dc_91_95 kr_91_201 ⟨Or.inr rfl, ow_83, cl_7⟩ (by rw [np_83]; rfl) (by rw [np_83]; rfl) (ob_of (mk_23 _)) (Nat.le_of_ble_eq_true rfl) (c8  ) ?_
  show Bod _ _ _ _ [] _ _ _
  refine Bod.go dc_91_98 rfl ?_
  refine Bod.get dc_91_99 fr_91_15 (mk_43 _) rfl ?_
  refine Bod.bip 10 (by decide) dc_91_102 ?_
  refine Bod.go dc_91_104 rfl ?_
  refine Bod.virt (r := []) dc_91_105 kr_91_116 ⟨Or.inr rfl, ow_54, cl_7⟩ (by rw [np_54]; rfl) (by rw [np_54]; rfl) (ob_of (mk_23 _)) (Nat.le_of_ble_eq_true rfl) (c9  ) ?_
  show Bod _ _ _ _ [_] _ _ _
  refine Bod.ist dc_91_108 (by rw [ml_91]; exact Nat.le_of_ble_eq_true rfl) ?_
  refine Bod.go dc_91_110 rfl ?_
  refine Bod.go dc_91_111 rfl ?_
  refine Bod.virt (r := []) dc_91_113 kr_91_131 ⟨Or.inl rfl, ow_93, cl_10⟩ (by rw [np_93]; rfl) (by rw [np_93]; rfl) (ob_of (mk_43 _)) (Nat.le_of_ble_eq_true rfl) (c10  ) ?_
  show Bod _ _ _ _ [] _ _ _
  refine Bod.go dc_91_116 rfl ?_
  refine Bod.go dc_91_117 rfl ?_
  refine Bod.go dc_91_118 rfl ?_
  refine Bod.go dc_91_119 rfl ?_
  refine Bod.go dc_91_121 rfl ?_
  refine Bod.virt (r := []) dc_91_123 kr_91_232 ⟨Or.inl rfl, ow_90, cl_10⟩ (by rw [np_90]; rfl) (by rw [np_90]; rfl) (ob_of (mk_43 _)) (Nat.le_of_ble_eq_true rfl) (c11  ) ?_
  show Bod _ _ _ _ [] _ _ _
  refine Bod.go dc_91_126 rfl ?_
  refine Bod.get dc_91_127 fr_91_15 (mk_43 _) rfl ?_
  refine Bod.bip 11 (by decide) dc_91_130 ?_
  refine Bod.virt (r := []) dc_91_132 kr_91_72 ⟨Or.inr rfl, ow_71, cl_7⟩ (by rw [np_71]; rfl) (by rw [np_71]; rfl) (ob_of (mk_23 _)) (Nat.le_of_ble_eq_true rfl) (c12  ) ?_
  show Bod _ _ _ _ [_] _ _ _
  refine Bod.go dc_91_135 rfl ?_
  exact Bod.retV dc_91_136 rt_91
theorem cTry_1 {d : Nat} {S : cS} {dp : Nat} {ind : Nat} {S1 : cS} {S2 : cS} {a : Nat} {f4308 : Nat} {S3 : cS} {f43081 : Nat} {S4 : cS} {a1 : Nat} {S5 : cS} {a2 : Nat} {top : Nat} {S6 : cS} {S7 : cS} {S8 : cS} {tk : Nat} {S9 : cS} {a3 : Nat} {S10 : cS} {top1 : Nat} {S11 : cS} (mdp : dp < 2 ^ 20) (hind : sI S 3108 = nI ind) (mind : ind < 2 ^ 20) (c1 : Ans (d + 8) 75 [.ref 31, .int (nI 54)] S none S1) (ma : a < 2 ^ 20) (c2 : Ans (d + 8) 54 [.ref 23, .int (nI 12), .int (nI 0)] S1 (some (.int (nI a))) S2) (hf4308 : sI S2 4308 = nI f4308) (mf4308 : f4308 < 2 ^ 20) (c3 : Ans (d + 8) 84 [.ref 43, .int (nI ind), .int (nI (dp + 1))] (wI 4308 (nI (f4308 + 1)) S2) none S3) (hf43081 : sI S3 4308 = nI f43081) (mf43081 : f43081 < 2 ^ 20) (b1 : 1 ≤ f43081) (ma1 : a1 < 2 ^ 20) (c4 : Ans (d + 8) 54 [.ref 23, .int (nI 13), .int (nI 1)] (wI 4308 (nI (f43081 - 1)) S3) (some (.int (nI a1))) S4) (ma2 : a2 < 2 ^ 20) (c5 : Ans (d + 8) 54 [.ref 23, .int (nI 4), .int (nI 0)] S4 (some (.int (nI a2))) S5) (htop : sI S5 2307 = nI top) (mtop : top < 2 ^ 20) (c6 : Ans (d + 8) 83 [.ref 23, .int (nI (a + 1)), .int (nI top)] S5 none S6) (c7 : Ans (d + 8) 52 [.ref 43, .int (nI ind)] S6 (some (.int (nI 1))) S7) (c8 : Ans (d + 8) 75 [.ref 31, .int (nI 55)] S7 none S8) (htk : sI S8 3105 = nI tk) (mtk : tk < 2 ^ 20) (b2 : tk ≠ 3) (ma3 : a3 < 2 ^ 20) (c9 : Ans (d + 8) 71 [.ref 23, .int (nI 17)] S8 (some (.int (nI a3))) S9) (c10 : Ans (d + 8) 84 [.ref 43, .int (nI ind), .int (nI (dp + 1))] S9 none S10) (htop1 : sI S10 2307 = nI top1) (mtop1 : top1 < 2 ^ 20) (c11 : Ans (d + 8) 83 [.ref 23, .int (nI (a2 + 1)), .int (nI top1)] S10 none S11) : Bod (d + 8) 108 0 [(0, .ref 43), (1, .int (nI dp))] [] S none (S11) := by
  refine Bod.go dc_108_0 rfl ?_
  refine Bod.get dc_108_1 fr_108_9 (mk_43 _) rfl ?_
  refine Bod.get dc_108_4 fr_108_96 (mk_31 _) rfl ?_
  refine Bod.eqI (nI ind) (by first | assumption | rfl | exact congrArg nI (by omega) | (simp (disch := omega) only [rI, rIe, rA, rIA, rLA, rJA, rVI, rQI, rVA, rQA, upd_at,  rAI, rLI, rJI, nI_add, pk_sub, kc_0, kc_1, kc_2, kc_3, kc_4, kc_5, reduceIte, Nat.reduceEqDiff, Nat.add_zero, rI_hold, rI_hold, rL_hold, hind]; done)) ?_
  refine Bod.istn dc_108_7 (by rw [ml_108]; exact Nat.le_of_ble_eq_true rfl) ?_
  refine Bod.go dc_108_8 rfl ?_
  refine Bod.get dc_108_9 fr_108_9 (mk_43 _) rfl ?_
  refine Bod.bip 54 (by decide) dc_108_12 ?_
  refine Bod.virt (r := []) dc_108_14 kr_108_107 ⟨Or.inr rfl, ow_75, cl_3⟩ (by rw [np_75]; rfl) (by rw [np_75]; rfl) (ob_of (mk_31 _)) (Nat.le_of_ble_eq_true rfl) (c1  ) ?_
  show Bod _ _ _ _ [] _ _ _
  refine Bod.go dc_108_17 rfl ?_
  refine Bod.get dc_108_18 fr_108_15 (mk_43 _) rfl ?_
  refine Bod.bip 12 (by decide) dc_108_21 ?_
  refine Bod.ic 0 (by decide) dc_108_23 ?_
  refine Bod.virt (r := []) dc_108_24 kr_108_116 ⟨Or.inr rfl, ow_54, cl_7⟩ (by rw [np_54]; rfl) (by rw [np_54]; rfl) (ob_of (mk_23 _)) (Nat.le_of_ble_eq_true rfl) (c2  ) ?_
  show Bod _ _ _ _ [_] _ _ _
  refine Bod.istn dc_108_27 (by rw [ml_108]; exact Nat.le_of_ble_eq_true rfl) ?_
  refine Bod.go dc_108_28 rfl ?_
  refine Bod.go dc_108_29 rfl ?_
  refine Bod.get dc_108_30 fr_108_46 (mk_43 _) rfl ?_
  refine Bod.eqI (nI f4308) (by first | (simp (disch := omega) only [rI, rIe, rA, rIA, rLA, rJA, rVI, rQI, rVA, rQA, upd_at,  rAI, rLI, rJI, nI_add, pk_sub, kc_0, kc_1, kc_2, kc_3, kc_4, kc_5, reduceIte, Nat.reduceEqDiff, Nat.add_zero, rI_hold, rI_hold, rL_hold, hind, hf4308]; done) | (simp (disch := omega) only [rI, rIe, rA, rIA, rLA, rJA, rVI, rQI, rVA, rQA, upd_at,  rAI, rLI, rJI, nI_add, pk_sub, kc_0, kc_1, kc_2, kc_3, kc_4, kc_5, reduceIte, Nat.reduceEqDiff, Nat.add_zero, rI_hold, rI_hold, rL_hold, hind, hf4308]; exact congrArg nI (by omega))) ?_
  refine Bod.ic 1 (by decide) dc_108_33 ?_
  refine Bod.addN (f4308 + 1) (by omega) dc_108_34 ?_
  refine Bod.put dc_108_35 fr_108_46 (mk_43 _) (Nat.le_of_ble_eq_true rfl) pf_10_8 (st_4308 _ _) (mu_I _ _ _) ?_
  refine Bod.go dc_108_38 rfl ?_
  refine Bod.go dc_108_39 rfl ?_
  refine Bod.go dc_108_40 rfl ?_
  refine Bod.ic 1 (by decide) dc_108_41 ?_
  refine Bod.addN (dp + 1) (by omega) dc_108_42 ?_
  refine Bod.virt (r := []) dc_108_43 kr_108_226 ⟨Or.inl rfl, ow_84, cl_10⟩ (by rw [np_84]; rfl) (by rw [np_84]; rfl) (ob_of (mk_43 _)) (Nat.le_of_ble_eq_true rfl) (c3  ) ?_
  show Bod _ _ _ _ [] _ _ _
  refine Bod.go dc_108_46 rfl ?_
  refine Bod.go dc_108_47 rfl ?_
  refine Bod.get dc_108_48 fr_108_46 (mk_43 _) rfl ?_
  refine Bod.eqI (nI f43081) (by first | (simp (disch := omega) only [rI, rIe, rA, rIA, rLA, rJA, rVI, rQI, rVA, rQA, upd_at,  rAI, rLI, rJI, nI_add, pk_sub, kc_0, kc_1, kc_2, kc_3, kc_4, kc_5, reduceIte, Nat.reduceEqDiff, Nat.add_zero, rI_hold, rI_hold, rL_hold, hind, hf4308, hf43081]; done) | (simp (disch := omega) only [rI, rIe, rA, rIA, rLA, rJA, rVI, rQI, rVA, rQA, upd_at,  rAI, rLI, rJI, nI_add, pk_sub, kc_0, kc_1, kc_2, kc_3, kc_4, kc_5, reduceIte, Nat.reduceEqDiff, Nat.add_zero, rI_hold, rI_hold, rL_hold, hind, hf4308, hf43081]; exact congrArg nI (by omega))) ?_
  refine Bod.ic 1 (by decide) dc_108_51 ?_
  refine Bod.subN (f43081 - 1) (by omega) (by omega) dc_108_52 ?_
  refine Bod.put dc_108_53 fr_108_46 (mk_43 _) (Nat.le_of_ble_eq_true rfl) pf_10_8 (st_4308 _ _) (mu_I _ _ _) ?_
  refine Bod.go dc_108_56 rfl ?_
  refine Bod.get dc_108_57 fr_108_15 (mk_43 _) rfl ?_
  refine Bod.bip 13 (by decide) dc_108_60 ?_
  refine Bod.ic 1 (by decide) dc_108_62 ?_
  refine Bod.virt (r := []) dc_108_63 kr_108_116 ⟨Or.inr rfl, ow_54, cl_7⟩ (by rw [np_54]; rfl) (by rw [np_54]; rfl) (ob_of (mk_23 _)) (Nat.le_of_ble_eq_true rfl) (c4  ) ?_
  show Bod _ _ _ _ [_] _ _ _
  refine Bod.go dc_108_66 rfl ?_
  refine Bod.go dc_108_67 rfl ?_
  refine Bod.get dc_108_68 fr_108_15 (mk_43 _) rfl ?_
  refine Bod.ic 4 (by decide) dc_108_71 ?_
  refine Bod.ic 0 (by decide) dc_108_72 ?_
  refine Bod.virt (r := []) dc_108_73 kr_108_116 ⟨Or.inr rfl, ow_54, cl_7⟩ (by rw [np_54]; rfl) (by rw [np_54]; rfl) (ob_of (mk_23 _)) (Nat.le_of_ble_eq_true rfl) (c5  ) ?_
  show Bod _ _ _ _ [_] _ _ _
  refine Bod.ist dc_108_76 (by rw [ml_108]; exact Nat.le_of_ble_eq_true rfl) ?_
  refine Bod.go dc_108_78 rfl ?_
  refine Bod.get dc_108_79 fr_108_15 (mk_43 _) rfl ?_
  refine Bod.go dc_108_82 rfl ?_
  refine Bod.ic 1 (by decide) dc_108_83 ?_
  refine Bod.addN (a + 1) (by omega) dc_108_84 ?_
  refine Bod.go dc_108_85 rfl ?_
  refine Bod.get dc_108_86 fr_108_15 (mk_43 _) rfl ?_
  refine Bod.get dc_108_89 fr_108_69 (mk_23 _) rfl ?_
  refine Bod.eqI (nI top) (by first | (simp (disch := omega) only [rI, rIe, rA, rIA, rLA, rJA, rVI, rQI, rVA, rQA, upd_at,  rAI, rLI, rJI, nI_add, pk_sub, kc_0, kc_1, kc_2, kc_3, kc_4, kc_5, reduceIte, Nat.reduceEqDiff, Nat.add_zero, rI_hold, rI_hold, rL_hold, hind, hf4308, hf43081, htop]; done) | (simp (disch := omega) only [rI, rIe, rA, rIA, rLA, rJA, rVI, rQI, rVA, rQA, upd_at,  rAI, rLI, rJI, nI_add, pk_sub, kc_0, kc_1, kc_2, kc_3, kc_4, kc_5, reduceIte, Nat.reduceEqDiff, Nat.add_zero, rI_hold, rI_hold, rL_hold, hind, hf4308, hf43081, htop]; exact congrArg nI (by omega))) ?_
  refine Bod.virt (r := []) dc_108_92 kr_108_201 ⟨Or.inr rfl, ow_83, cl_7⟩ (by rw [np_83]; rfl) (by rw [np_83]; rfl) (ob_of (mk_23 _)) (Nat.le_of_ble_eq_true rfl) (c6  ) ?_
  show Bod _ _ _ _ [] _ _ _
  refine Bod.go dc_108_95 rfl ?_
  refine Bod.go dc_108_96 rfl ?_
  refine Bod.virt (r := []) dc_108_97 kr_108_89 ⟨Or.inl rfl, ow_52, cl_10⟩ (by rw [np_52]; rfl) (by rw [np_52]; rfl) (ob_of (mk_43 _)) (Nat.le_of_ble_eq_true rfl) (c7  ) ?_
  show Bod _ _ _ _ [_] _ _ _
  refine Bod.ifT dc_108_100 rfl (k1_ne_T (k_ne 1 0 rfl rfl (by omega) (by omega) (by omega))) ?_
  refine Bod.go dc_108_110 rfl ?_
  refine Bod.get dc_108_111 fr_108_9 (mk_43 _) rfl ?_
  refine Bod.bip 55 (by decide) dc_108_114 ?_
  refine Bod.virt (r := []) dc_108_116 kr_108_107 ⟨Or.inr rfl, ow_75, cl_3⟩ (by rw [np_75]; rfl) (by rw [np_75]; rfl) (ob_of (mk_31 _)) (Nat.le_of_ble_eq_true rfl) (c8  ) ?_
  show Bod _ _ _ _ [] _ _ _
  refine Bod.go dc_108_119 rfl ?_
  refine Bod.get dc_108_120 fr_108_9 (mk_43 _) rfl ?_
  refine Bod.get dc_108_123 fr_108_79 (mk_31 _) rfl ?_
  refine Bod.eqI (nI tk) (by first | (simp (disch := omega) only [rI, rIe, rA, rIA, rLA, rJA, rVI, rQI, rVA, rQA, upd_at,  rAI, rLI, rJI, nI_add, pk_sub, kc_0, kc_1, kc_2, kc_3, kc_4, kc_5, reduceIte, Nat.reduceEqDiff, Nat.add_zero, rI_hold, rI_hold, rL_hold, hind, hf4308, hf43081, htop, htk]; done) | (simp (disch := omega) only [rI, rIe, rA, rIA, rLA, rJA, rVI, rQI, rVA, rQA, upd_at,  rAI, rLI, rJI, nI_add, pk_sub, kc_0, kc_1, kc_2, kc_3, kc_4, kc_5, reduceIte, Nat.reduceEqDiff, Nat.add_zero, rI_hold, rI_hold, rL_hold, hind, hf4308, hf43081, htop, htk]; exact congrArg nI (by omega))) ?_
  refine Bod.ic 3 (by decide) dc_108_126 ?_
  refine Bod.icT dc_108_127 rfl (k2_ne_T (k_ne tk 3 rfl rfl (by omega) (by omega) (by omega))) ?_
  refine Bod.go dc_108_141 rfl ?_
  refine Bod.get dc_108_142 fr_108_15 (mk_43 _) rfl ?_
  refine Bod.bip 17 (by decide) dc_108_145 ?_
  refine Bod.virt (r := []) dc_108_147 kr_108_72 ⟨Or.inr rfl, ow_71, cl_7⟩ (by rw [np_71]; rfl) (by rw [np_71]; rfl) (ob_of (mk_23 _)) (Nat.le_of_ble_eq_true rfl) (c9  ) ?_
  show Bod _ _ _ _ [_] _ _ _
  refine Bod.go dc_108_150 rfl ?_
  refine Bod.go dc_108_151 rfl ?_
  refine Bod.go dc_108_152 rfl ?_
  refine Bod.go dc_108_153 rfl ?_
  refine Bod.ic 1 (by decide) dc_108_154 ?_
  refine Bod.addN (dp + 1) (by omega) dc_108_155 ?_
  refine Bod.virt (r := []) dc_108_156 kr_108_226 ⟨Or.inl rfl, ow_84, cl_10⟩ (by rw [np_84]; rfl) (by rw [np_84]; rfl) (ob_of (mk_43 _)) (Nat.le_of_ble_eq_true rfl) (c10  ) ?_
  show Bod _ _ _ _ [] _ _ _
  refine Bod.go dc_108_159 rfl ?_
  refine Bod.get dc_108_160 fr_108_15 (mk_43 _) rfl ?_
  refine Bod.go dc_108_163 rfl ?_
  refine Bod.ic 1 (by decide) dc_108_165 ?_
  refine Bod.addN (a2 + 1) (by omega) dc_108_166 ?_
  refine Bod.go dc_108_167 rfl ?_
  refine Bod.get dc_108_168 fr_108_15 (mk_43 _) rfl ?_
  refine Bod.get dc_108_171 fr_108_69 (mk_23 _) rfl ?_
  refine Bod.eqI (nI top1) (by first | (simp (disch := omega) only [rI, rIe, rA, rIA, rLA, rJA, rVI, rQI, rVA, rQA, upd_at,  rAI, rLI, rJI, nI_add, pk_sub, kc_0, kc_1, kc_2, kc_3, kc_4, kc_5, reduceIte, Nat.reduceEqDiff, Nat.add_zero, rI_hold, rI_hold, rL_hold, hind, hf4308, hf43081, htop, htk, htop1]; done) | (simp (disch := omega) only [rI, rIe, rA, rIA, rLA, rJA, rVI, rQI, rVA, rQA, upd_at,  rAI, rLI, rJI, nI_add, pk_sub, kc_0, kc_1, kc_2, kc_3, kc_4, kc_5, reduceIte, Nat.reduceEqDiff, Nat.add_zero, rI_hold, rI_hold, rL_hold, hind, hf4308, hf43081, htop, htk, htop1]; exact congrArg nI (by omega))) ?_
  refine Bod.virt (r := []) dc_108_174 kr_108_201 ⟨Or.inr rfl, ow_83, cl_7⟩ (by rw [np_83]; rfl) (by rw [np_83]; rfl) (ob_of (mk_23 _)) (Nat.le_of_ble_eq_true rfl) (c11  ) ?_
  show Bod _ _ _ _ [] _ _ _
  exact Bod.retV dc_108_177 rt_108
theorem cTry_2 {d : Nat} {S : cS} {dp : Nat} {ind : Nat} {S1 : cS} {S2 : cS} {a : Nat} {f4308 : Nat} {S3 : cS} {f43081 : Nat} {S4 : cS} {a1 : Nat} {S5 : cS} {a2 : Nat} {top : Nat} {S6 : cS} {S7 : cS} {S8 : cS} {tk : Nat} {S9 : cS} {a3 : Nat} {S10 : cS} {S11 : cS} {top1 : Nat} {S12 : cS} (mdp : dp < 2 ^ 20) (hind : sI S 3108 = nI ind) (mind : ind < 2 ^ 20) (c1 : Ans (d + 8) 75 [.ref 31, .int (nI 54)] S none S1) (ma : a < 2 ^ 20) (c2 : Ans (d + 8) 54 [.ref 23, .int (nI 12), .int (nI 0)] S1 (some (.int (nI a))) S2) (hf4308 : sI S2 4308 = nI f4308) (mf4308 : f4308 < 2 ^ 20) (c3 : Ans (d + 8) 84 [.ref 43, .int (nI ind), .int (nI (dp + 1))] (wI 4308 (nI (f4308 + 1)) S2) none S3) (hf43081 : sI S3 4308 = nI f43081) (mf43081 : f43081 < 2 ^ 20) (b1 : 1 ≤ f43081) (ma1 : a1 < 2 ^ 20) (c4 : Ans (d + 8) 54 [.ref 23, .int (nI 13), .int (nI 1)] (wI 4308 (nI (f43081 - 1)) S3) (some (.int (nI a1))) S4) (ma2 : a2 < 2 ^ 20) (c5 : Ans (d + 8) 54 [.ref 23, .int (nI 4), .int (nI 0)] S4 (some (.int (nI a2))) S5) (htop : sI S5 2307 = nI top) (mtop : top < 2 ^ 20) (c6 : Ans (d + 8) 83 [.ref 23, .int (nI (a + 1)), .int (nI top)] S5 none S6) (c7 : Ans (d + 8) 52 [.ref 43, .int (nI ind)] S6 (some (.int (nI 1))) S7) (c8 : Ans (d + 8) 75 [.ref 31, .int (nI 55)] S7 none S8) (htk : sI S8 3105 = nI tk) (mtk : tk < 2 ^ 20) (b2 : tk = 3) (ma3 : a3 < 2 ^ 20) (c9 : Ans (d + 8) 92 [.ref 43] S8 (some (.int (nI a3))) S9) (c10 : Ans (d + 8) 93 [.ref 43, .int (nI a3)] S9 none S10) (c11 : Ans (d + 8) 84 [.ref 43, .int (nI ind), .int (nI (dp + 1))] S10 none S11) (htop1 : sI S11 2307 = nI top1) (mtop1 : top1 < 2 ^ 20) (c12 : Ans (d + 8) 83 [.ref 23, .int (nI (a2 + 1)), .int (nI top1)] S11 none S12) : Bod (d + 8) 108 0 [(0, .ref 43), (1, .int (nI dp))] [] S none (S12) := by
  refine Bod.go dc_108_0 rfl ?_
  refine Bod.get dc_108_1 fr_108_9 (mk_43 _) rfl ?_
  refine Bod.get dc_108_4 fr_108_96 (mk_31 _) rfl ?_
  refine Bod.eqI (nI ind) (by first | assumption | rfl | exact congrArg nI (by omega) | (simp (disch := omega) only [rI, rIe, rA, rIA, rLA, rJA, rVI, rQI, rVA, rQA, upd_at,  rAI, rLI, rJI, nI_add, pk_sub, kc_0, kc_1, kc_2, kc_3, kc_4, kc_5, reduceIte, Nat.reduceEqDiff, Nat.add_zero, rI_hold, rI_hold, rL_hold, hind]; done)) ?_
  refine Bod.istn dc_108_7 (by rw [ml_108]; exact Nat.le_of_ble_eq_true rfl) ?_
  refine Bod.go dc_108_8 rfl ?_
  refine Bod.get dc_108_9 fr_108_9 (mk_43 _) rfl ?_
  refine Bod.bip 54 (by decide) dc_108_12 ?_
  refine Bod.virt (r := []) dc_108_14 kr_108_107 ⟨Or.inr rfl, ow_75, cl_3⟩ (by rw [np_75]; rfl) (by rw [np_75]; rfl) (ob_of (mk_31 _)) (Nat.le_of_ble_eq_true rfl) (c1  ) ?_
  show Bod _ _ _ _ [] _ _ _
  refine Bod.go dc_108_17 rfl ?_
  refine Bod.get dc_108_18 fr_108_15 (mk_43 _) rfl ?_
  refine Bod.bip 12 (by decide) dc_108_21 ?_
  refine Bod.ic 0 (by decide) dc_108_23 ?_
  refine Bod.virt (r := []) dc_108_24 kr_108_116 ⟨Or.inr rfl, ow_54, cl_7⟩ (by rw [np_54]; rfl) (by rw [np_54]; rfl) (ob_of (mk_23 _)) (Nat.le_of_ble_eq_true rfl) (c2  ) ?_
  show Bod _ _ _ _ [_] _ _ _
  refine Bod.istn dc_108_27 (by rw [ml_108]; exact Nat.le_of_ble_eq_true rfl) ?_
  refine Bod.go dc_108_28 rfl ?_
  refine Bod.go dc_108_29 rfl ?_
  refine Bod.get dc_108_30 fr_108_46 (mk_43 _) rfl ?_
  refine Bod.eqI (nI f4308) (by first | (simp (disch := omega) only [rI, rIe, rA, rIA, rLA, rJA, rVI, rQI, rVA, rQA, upd_at,  rAI, rLI, rJI, nI_add, pk_sub, kc_0, kc_1, kc_2, kc_3, kc_4, kc_5, reduceIte, Nat.reduceEqDiff, Nat.add_zero, rI_hold, rI_hold, rL_hold, hind, hf4308]; done) | (simp (disch := omega) only [rI, rIe, rA, rIA, rLA, rJA, rVI, rQI, rVA, rQA, upd_at,  rAI, rLI, rJI, nI_add, pk_sub, kc_0, kc_1, kc_2, kc_3, kc_4, kc_5, reduceIte, Nat.reduceEqDiff, Nat.add_zero, rI_hold, rI_hold, rL_hold, hind, hf4308]; exact congrArg nI (by omega))) ?_
  refine Bod.ic 1 (by decide) dc_108_33 ?_
  refine Bod.addN (f4308 + 1) (by omega) dc_108_34 ?_
  refine Bod.put dc_108_35 fr_108_46 (mk_43 _) (Nat.le_of_ble_eq_true rfl) pf_10_8 (st_4308 _ _) (mu_I _ _ _) ?_
  refine Bod.go dc_108_38 rfl ?_
  refine Bod.go dc_108_39 rfl ?_
  refine Bod.go dc_108_40 rfl ?_
  refine Bod.ic 1 (by decide) dc_108_41 ?_
  refine Bod.addN (dp + 1) (by omega) dc_108_42 ?_
  refine Bod.virt (r := []) dc_108_43 kr_108_226 ⟨Or.inl rfl, ow_84, cl_10⟩ (by rw [np_84]; rfl) (by rw [np_84]; rfl) (ob_of (mk_43 _)) (Nat.le_of_ble_eq_true rfl) (c3  ) ?_
  show Bod _ _ _ _ [] _ _ _
  refine Bod.go dc_108_46 rfl ?_
  refine Bod.go dc_108_47 rfl ?_
  refine Bod.get dc_108_48 fr_108_46 (mk_43 _) rfl ?_
  refine Bod.eqI (nI f43081) (by first | (simp (disch := omega) only [rI, rIe, rA, rIA, rLA, rJA, rVI, rQI, rVA, rQA, upd_at,  rAI, rLI, rJI, nI_add, pk_sub, kc_0, kc_1, kc_2, kc_3, kc_4, kc_5, reduceIte, Nat.reduceEqDiff, Nat.add_zero, rI_hold, rI_hold, rL_hold, hind, hf4308, hf43081]; done) | (simp (disch := omega) only [rI, rIe, rA, rIA, rLA, rJA, rVI, rQI, rVA, rQA, upd_at,  rAI, rLI, rJI, nI_add, pk_sub, kc_0, kc_1, kc_2, kc_3, kc_4, kc_5, reduceIte, Nat.reduceEqDiff, Nat.add_zero, rI_hold, rI_hold, rL_hold, hind, hf4308, hf43081]; exact congrArg nI (by omega))) ?_
  refine Bod.ic 1 (by decide) dc_108_51 ?_
  refine Bod.subN (f43081 - 1) (by omega) (by omega) dc_108_52 ?_
  refine Bod.put dc_108_53 fr_108_46 (mk_43 _) (Nat.le_of_ble_eq_true rfl) pf_10_8 (st_4308 _ _) (mu_I _ _ _) ?_
  refine Bod.go dc_108_56 rfl ?_
  refine Bod.get dc_108_57 fr_108_15 (mk_43 _) rfl ?_
  refine Bod.bip 13 (by decide) dc_108_60 ?_
  refine Bod.ic 1 (by decide) dc_108_62 ?_
  refine Bod.virt (r := []) dc_108_63 kr_108_116 ⟨Or.inr rfl, ow_54, cl_7⟩ (by rw [np_54]; rfl) (by rw [np_54]; rfl) (ob_of (mk_23 _)) (Nat.le_of_ble_eq_true rfl) (c4  ) ?_
  show Bod _ _ _ _ [_] _ _ _
  refine Bod.go dc_108_66 rfl ?_
  refine Bod.go dc_108_67 rfl ?_
  refine Bod.get dc_108_68 fr_108_15 (mk_43 _) rfl ?_
  refine Bod.ic 4 (by decide) dc_108_71 ?_
  refine Bod.ic 0 (by decide) dc_108_72 ?_
  refine Bod.virt (r := []) dc_108_73 kr_108_116 ⟨Or.inr rfl, ow_54, cl_7⟩ (by rw [np_54]; rfl) (by rw [np_54]; rfl) (ob_of (mk_23 _)) (Nat.le_of_ble_eq_true rfl) (c5  ) ?_
  show Bod _ _ _ _ [_] _ _ _
  refine Bod.ist dc_108_76 (by rw [ml_108]; exact Nat.le_of_ble_eq_true rfl) ?_
  refine Bod.go dc_108_78 rfl ?_
  refine Bod.get dc_108_79 fr_108_15 (mk_43 _) rfl ?_
  refine Bod.go dc_108_82 rfl ?_
  refine Bod.ic 1 (by decide) dc_108_83 ?_
  refine Bod.addN (a + 1) (by omega) dc_108_84 ?_
  refine Bod.go dc_108_85 rfl ?_
  refine Bod.get dc_108_86 fr_108_15 (mk_43 _) rfl ?_
  refine Bod.get dc_108_89 fr_108_69 (mk_23 _) rfl ?_
  refine Bod.eqI (nI top) (by first | (simp (disch := omega) only [rI, rIe, rA, rIA, rLA, rJA, rVI, rQI, rVA, rQA, upd_at,  rAI, rLI, rJI, nI_add, pk_sub, kc_0, kc_1, kc_2, kc_3, kc_4, kc_5, reduceIte, Nat.reduceEqDiff, Nat.add_zero, rI_hold, rI_hold, rL_hold, hind, hf4308, hf43081, htop]; done) | (simp (disch := omega) only [rI, rIe, rA, rIA, rLA, rJA, rVI, rQI, rVA, rQA, upd_at,  rAI, rLI, rJI, nI_add, pk_sub, kc_0, kc_1, kc_2, kc_3, kc_4, kc_5, reduceIte, Nat.reduceEqDiff, Nat.add_zero, rI_hold, rI_hold, rL_hold, hind, hf4308, hf43081, htop]; exact congrArg nI (by omega))) ?_
  refine Bod.virt (r := []) dc_108_92 kr_108_201 ⟨Or.inr rfl, ow_83, cl_7⟩ (by rw [np_83]; rfl) (by rw [np_83]; rfl) (ob_of (mk_23 _)) (Nat.le_of_ble_eq_true rfl) (c6  ) ?_
  show Bod _ _ _ _ [] _ _ _
  refine Bod.go dc_108_95 rfl ?_
  refine Bod.go dc_108_96 rfl ?_
  refine Bod.virt (r := []) dc_108_97 kr_108_89 ⟨Or.inl rfl, ow_52, cl_10⟩ (by rw [np_52]; rfl) (by rw [np_52]; rfl) (ob_of (mk_43 _)) (Nat.le_of_ble_eq_true rfl) (c7  ) ?_
  show Bod _ _ _ _ [_] _ _ _
  refine Bod.ifT dc_108_100 rfl (k1_ne_T (k_ne 1 0 rfl rfl (by omega) (by omega) (by omega))) ?_
  refine Bod.go dc_108_110 rfl ?_
  refine Bod.get dc_108_111 fr_108_9 (mk_43 _) rfl ?_
  refine Bod.bip 55 (by decide) dc_108_114 ?_
  refine Bod.virt (r := []) dc_108_116 kr_108_107 ⟨Or.inr rfl, ow_75, cl_3⟩ (by rw [np_75]; rfl) (by rw [np_75]; rfl) (ob_of (mk_31 _)) (Nat.le_of_ble_eq_true rfl) (c8  ) ?_
  show Bod _ _ _ _ [] _ _ _
  refine Bod.go dc_108_119 rfl ?_
  refine Bod.get dc_108_120 fr_108_9 (mk_43 _) rfl ?_
  refine Bod.get dc_108_123 fr_108_79 (mk_31 _) rfl ?_
  refine Bod.eqI (nI tk) (by first | (simp (disch := omega) only [rI, rIe, rA, rIA, rLA, rJA, rVI, rQI, rVA, rQA, upd_at,  rAI, rLI, rJI, nI_add, pk_sub, kc_0, kc_1, kc_2, kc_3, kc_4, kc_5, reduceIte, Nat.reduceEqDiff, Nat.add_zero, rI_hold, rI_hold, rL_hold, hind, hf4308, hf43081, htop, htk]; done) | (simp (disch := omega) only [rI, rIe, rA, rIA, rLA, rJA, rVI, rQI, rVA, rQA, upd_at,  rAI, rLI, rJI, nI_add, pk_sub, kc_0, kc_1, kc_2, kc_3, kc_4, kc_5, reduceIte, Nat.reduceEqDiff, Nat.add_zero, rI_hold, rI_hold, rL_hold, hind, hf4308, hf43081, htop, htk]; exact congrArg nI (by omega))) ?_
  refine Bod.ic 3 (by decide) dc_108_126 ?_
  refine Bod.icF dc_108_127 rfl (k2_ne_F (k_eq tk 3 rfl rfl (by omega))) ?_
  refine Bod.go dc_108_130 rfl ?_
  refine Bod.go dc_108_131 rfl ?_
  refine Bod.virt (r := [_]) dc_108_132 kr_108_220 ⟨Or.inl rfl, ow_92, cl_10⟩ (by rw [np_92]; rfl) (by rw [np_92]; rfl) (ob_of (mk_43 _)) (Nat.le_of_ble_eq_true rfl) (c9  ) ?_
  show Bod _ _ _ _ [_, _] _ _ _
  refine Bod.virt (r := []) dc_108_135 kr_108_131 ⟨Or.inl rfl, ow_93, cl_10⟩ (by rw [np_93]; rfl) (by rw [np_93]; rfl) (ob_of (mk_43 _)) (Nat.le_of_ble_eq_true rfl) (c10  ) ?_
  show Bod _ _ _ _ [] _ _ _
  refine Bod.go dc_108_138 rfl ?_
  refine Bod.go dc_108_151 rfl ?_
  refine Bod.go dc_108_152 rfl ?_
  refine Bod.go dc_108_153 rfl ?_
  refine Bod.ic 1 (by decide) dc_108_154 ?_
  refine Bod.addN (dp + 1) (by omega) dc_108_155 ?_
  refine Bod.virt (r := []) dc_108_156 kr_108_226 ⟨Or.inl rfl, ow_84, cl_10⟩ (by rw [np_84]; rfl) (by rw [np_84]; rfl) (ob_of (mk_43 _)) (Nat.le_of_ble_eq_true rfl) (c11  ) ?_
  show Bod _ _ _ _ [] _ _ _
  refine Bod.go dc_108_159 rfl ?_
  refine Bod.get dc_108_160 fr_108_15 (mk_43 _) rfl ?_
  refine Bod.go dc_108_163 rfl ?_
  refine Bod.ic 1 (by decide) dc_108_165 ?_
  refine Bod.addN (a2 + 1) (by omega) dc_108_166 ?_
  refine Bod.go dc_108_167 rfl ?_
  refine Bod.get dc_108_168 fr_108_15 (mk_43 _) rfl ?_
  refine Bod.get dc_108_171 fr_108_69 (mk_23 _) rfl ?_
  refine Bod.eqI (nI top1) (by first | (simp (disch := omega) only [rI, rIe, rA, rIA, rLA, rJA, rVI, rQI, rVA, rQA, upd_at,  rAI, rLI, rJI, nI_add, pk_sub, kc_0, kc_1, kc_2, kc_3, kc_4, kc_5, reduceIte, Nat.reduceEqDiff, Nat.add_zero, rI_hold, rI_hold, rL_hold, hind, hf4308, hf43081, htop, htk, htop1]; done) | (simp (disch := omega) only [rI, rIe, rA, rIA, rLA, rJA, rVI, rQI, rVA, rQA, upd_at,  rAI, rLI, rJI, nI_add, pk_sub, kc_0, kc_1, kc_2, kc_3, kc_4, kc_5, reduceIte, Nat.reduceEqDiff, Nat.add_zero, rI_hold, rI_hold, rL_hold, hind, hf4308, hf43081, htop, htk, htop1]; exact congrArg nI (by omega))) ?_
  refine Bod.virt (r := []) dc_108_174 kr_108_201 ⟨Or.inr rfl, ow_83, cl_7⟩ (by rw [np_83]; rfl) (by rw [np_83]; rfl) (ob_of (mk_23 _)) (Nat.le_of_ble_eq_true rfl) (c12  ) ?_
  show Bod _ _ _ _ [] _ _ _
  exact Bod.retV dc_108_177 rt_108
theorem cTry_3 {d : Nat} {S : cS} {dp : Nat} {ind : Nat} {S1 : cS} {S2 : cS} {a : Nat} {f4308 : Nat} {S3 : cS} {f43081 : Nat} {S4 : cS} {a1 : Nat} {S5 : cS} {a2 : Nat} {top : Nat} {S6 : cS} {S7 : cS} {S8 : cS} {S9 : cS} {tk : Nat} {S10 : cS} {a3 : Nat} {S11 : cS} {top1 : Nat} {S12 : cS} (mdp : dp < 2 ^ 20) (hind : sI S 3108 = nI ind) (mind : ind < 2 ^ 20) (c1 : Ans (d + 8) 75 [.ref 31, .int (nI 54)] S none S1) (ma : a < 2 ^ 20) (c2 : Ans (d + 8) 54 [.ref 23, .int (nI 12), .int (nI 0)] S1 (some (.int (nI a))) S2) (hf4308 : sI S2 4308 = nI f4308) (mf4308 : f4308 < 2 ^ 20) (c3 : Ans (d + 8) 84 [.ref 43, .int (nI ind), .int (nI (dp + 1))] (wI 4308 (nI (f4308 + 1)) S2) none S3) (hf43081 : sI S3 4308 = nI f43081) (mf43081 : f43081 < 2 ^ 20) (b1 : 1 ≤ f43081) (ma1 : a1 < 2 ^ 20) (c4 : Ans (d + 8) 54 [.ref 23, .int (nI 13), .int (nI 1)] (wI 4308 (nI (f43081 - 1)) S3) (some (.int (nI a1))) S4) (ma2 : a2 < 2 ^ 20) (c5 : Ans (d + 8) 54 [.ref 23, .int (nI 4), .int (nI 0)] S4 (some (.int (nI a2))) S5) (htop : sI S5 2307 = nI top) (mtop : top < 2 ^ 20) (c6 : Ans (d + 8) 83 [.ref 23, .int (nI (a + 1)), .int (nI top)] S5 none S6) (c7 : Ans (d + 8) 52 [.ref 43, .int (nI ind)] S6 (some (.int (nI 0))) S7) (c8 : Ans (d + 8) 44 [.ref 31] S7 none S8) (c9 : Ans (d + 8) 75 [.ref 31, .int (nI 55)] S8 none S9) (htk : sI S9 3105 = nI tk) (mtk : tk < 2 ^ 20) (b2 : tk ≠ 3) (ma3 : a3 < 2 ^ 20) (c10 : Ans (d + 8) 71 [.ref 23, .int (nI 17)] S9 (some (.int (nI a3))) S10) (c11 : Ans (d + 8) 84 [.ref 43, .int (nI ind), .int (nI (dp + 1))] S10 none S11) (htop1 : sI S11 2307 = nI top1) (mtop1 : top1 < 2 ^ 20) (c12 : Ans (d + 8) 83 [.ref 23, .int (nI (a2 + 1)), .int (nI top1)] S11 none S12) : Bod (d + 8) 108 0 [(0, .ref 43), (1, .int (nI dp))] [] S none (S12) := by
  refine Bod.go dc_108_0 rfl ?_
  refine Bod.get dc_108_1 fr_108_9 (mk_43 _) rfl ?_
  refine Bod.get dc_108_4 fr_108_96 (mk_31 _) rfl ?_
  refine Bod.eqI (nI ind) (by first | assumption | rfl | exact congrArg nI (by omega) | (simp (disch := omega) only [rI, rIe, rA, rIA, rLA, rJA, rVI, rQI, rVA, rQA, upd_at,  rAI, rLI, rJI, nI_add, pk_sub, kc_0, kc_1, kc_2, kc_3, kc_4, kc_5, reduceIte, Nat.reduceEqDiff, Nat.add_zero, rI_hold, rI_hold, rL_hold, hind]; done)) ?_
  refine Bod.istn dc_108_7 (by rw [ml_108]; exact Nat.le_of_ble_eq_true rfl) ?_
  refine Bod.go dc_108_8 rfl ?_
  refine Bod.get dc_108_9 fr_108_9 (mk_43 _) rfl ?_
  refine Bod.bip 54 (by decide) dc_108_12 ?_
  refine Bod.virt (r := []) dc_108_14 kr_108_107 ⟨Or.inr rfl, ow_75, cl_3⟩ (by rw [np_75]; rfl) (by rw [np_75]; rfl) (ob_of (mk_31 _)) (Nat.le_of_ble_eq_true rfl) (c1  ) ?_
  show Bod _ _ _ _ [] _ _ _
  refine Bod.go dc_108_17 rfl ?_
  refine Bod.get dc_108_18 fr_108_15 (mk_43 _) rfl ?_
  refine Bod.bip 12 (by decide) dc_108_21 ?_
  refine Bod.ic 0 (by decide) dc_108_23 ?_
  refine Bod.virt (r := []) dc_108_24 kr_108_116 ⟨Or.inr rfl, ow_54, cl_7⟩ (by rw [np_54]; rfl) (by rw [np_54]; rfl) (ob_of (mk_23 _)) (Nat.le_of_ble_eq_true rfl) (c2  ) ?_
  show Bod _ _ _ _ [_] _ _ _
  refine Bod.istn dc_108_27 (by rw [ml_108]; exact Nat.le_of_ble_eq_true rfl) ?_
  refine Bod.go dc_108_28 rfl ?_
  refine Bod.go dc_108_29 rfl ?_
  refine Bod.get dc_108_30 fr_108_46 (mk_43 _) rfl ?_
  refine Bod.eqI (nI f4308) (by first | (simp (disch := omega) only [rI, rIe, rA, rIA, rLA, rJA, rVI, rQI, rVA, rQA, upd_at,  rAI, rLI, rJI, nI_add, pk_sub, kc_0, kc_1, kc_2, kc_3, kc_4, kc_5, reduceIte, Nat.reduceEqDiff, Nat.add_zero, rI_hold, rI_hold, rL_hold, hind, hf4308]; done) | (simp (disch := omega) only [rI, rIe, rA, rIA, rLA, rJA, rVI, rQI, rVA, rQA, upd_at,  rAI, rLI, rJI, nI_add, pk_sub, kc_0, kc_1, kc_2, kc_3, kc_4, kc_5, reduceIte, Nat.reduceEqDiff, Nat.add_zero, rI_hold, rI_hold, rL_hold, hind, hf4308]; exact congrArg nI (by omega))) ?_
  refine Bod.ic 1 (by decide) dc_108_33 ?_
  refine Bod.addN (f4308 + 1) (by omega) dc_108_34 ?_
  refine Bod.put dc_108_35 fr_108_46 (mk_43 _) (Nat.le_of_ble_eq_true rfl) pf_10_8 (st_4308 _ _) (mu_I _ _ _) ?_
  refine Bod.go dc_108_38 rfl ?_
  refine Bod.go dc_108_39 rfl ?_
  refine Bod.go dc_108_40 rfl ?_
  refine Bod.ic 1 (by decide) dc_108_41 ?_
  refine Bod.addN (dp + 1) (by omega) dc_108_42 ?_
  refine Bod.virt (r := []) dc_108_43 kr_108_226 ⟨Or.inl rfl, ow_84, cl_10⟩ (by rw [np_84]; rfl) (by rw [np_84]; rfl) (ob_of (mk_43 _)) (Nat.le_of_ble_eq_true rfl) (c3  ) ?_
  show Bod _ _ _ _ [] _ _ _
  refine Bod.go dc_108_46 rfl ?_
  refine Bod.go dc_108_47 rfl ?_
  refine Bod.get dc_108_48 fr_108_46 (mk_43 _) rfl ?_
  refine Bod.eqI (nI f43081) (by first | (simp (disch := omega) only [rI, rIe, rA, rIA, rLA, rJA, rVI, rQI, rVA, rQA, upd_at,  rAI, rLI, rJI, nI_add, pk_sub, kc_0, kc_1, kc_2, kc_3, kc_4, kc_5, reduceIte, Nat.reduceEqDiff, Nat.add_zero, rI_hold, rI_hold, rL_hold, hind, hf4308, hf43081]; done) | (simp (disch := omega) only [rI, rIe, rA, rIA, rLA, rJA, rVI, rQI, rVA, rQA, upd_at,  rAI, rLI, rJI, nI_add, pk_sub, kc_0, kc_1, kc_2, kc_3, kc_4, kc_5, reduceIte, Nat.reduceEqDiff, Nat.add_zero, rI_hold, rI_hold, rL_hold, hind, hf4308, hf43081]; exact congrArg nI (by omega))) ?_
  refine Bod.ic 1 (by decide) dc_108_51 ?_
  refine Bod.subN (f43081 - 1) (by omega) (by omega) dc_108_52 ?_
  refine Bod.put dc_108_53 fr_108_46 (mk_43 _) (Nat.le_of_ble_eq_true rfl) pf_10_8 (st_4308 _ _) (mu_I _ _ _) ?_
  refine Bod.go dc_108_56 rfl ?_
  refine Bod.get dc_108_57 fr_108_15 (mk_43 _) rfl ?_
  refine Bod.bip 13 (by decide) dc_108_60 ?_
  refine Bod.ic 1 (by decide) dc_108_62 ?_
  refine Bod.virt (r := []) dc_108_63 kr_108_116 ⟨Or.inr rfl, ow_54, cl_7⟩ (by rw [np_54]; rfl) (by rw [np_54]; rfl) (ob_of (mk_23 _)) (Nat.le_of_ble_eq_true rfl) (c4  ) ?_
  show Bod _ _ _ _ [_] _ _ _
  refine Bod.go dc_108_66 rfl ?_
  refine Bod.go dc_108_67 rfl ?_
  refine Bod.get dc_108_68 fr_108_15 (mk_43 _) rfl ?_
  refine Bod.ic 4 (by decide) dc_108_71 ?_
  refine Bod.ic 0 (by decide) dc_108_72 ?_
  refine Bod.virt (r := []) dc_108_73 kr_108_116 ⟨Or.inr rfl, ow_54, cl_7⟩ (by rw [np_54]; rfl) (by rw [np_54]; rfl) (ob_of (mk_23 _)) (Nat.le_of_ble_eq_true rfl) (c5  ) ?_
  show Bod _ _ _ _ [_] _ _ _
  refine Bod.ist dc_108_76 (by rw [ml_108]; exact Nat.le_of_ble_eq_true rfl) ?_
  refine Bod.go dc_108_78 rfl ?_
  refine Bod.get dc_108_79 fr_108_15 (mk_43 _) rfl ?_
  refine Bod.go dc_108_82 rfl ?_
  refine Bod.ic 1 (by decide) dc_108_83 ?_
  refine Bod.addN (a + 1) (by omega) dc_108_84 ?_
  refine Bod.go dc_108_85 rfl ?_
  refine Bod.get dc_108_86 fr_108_15 (mk_43 _) rfl ?_
  refine Bod.get dc_108_89 fr_108_69 (mk_23 _) rfl ?_
  refine Bod.eqI (nI top) (by first | (simp (disch := omega) only [rI, rIe, rA, rIA, rLA, rJA, rVI, rQI, rVA, rQA, upd_at,  rAI, rLI, rJI, nI_add, pk_sub, kc_0, kc_1, kc_2, kc_3, kc_4, kc_5, reduceIte, Nat.reduceEqDiff, Nat.add_zero, rI_hold, rI_hold, rL_hold, hind, hf4308, hf43081, htop]; done) | (simp (disch := omega) only [rI, rIe, rA, rIA, rLA, rJA, rVI, rQI, rVA, rQA, upd_at,  rAI, rLI, rJI, nI_add, pk_sub, kc_0, kc_1, kc_2, kc_3, kc_4, kc_5, reduceIte, Nat.reduceEqDiff, Nat.add_zero, rI_hold, rI_hold, rL_hold, hind, hf4308, hf43081, htop]; exact congrArg nI (by omega))) ?_
  refine Bod.virt (r := []) dc_108_92 kr_108_201 ⟨Or.inr rfl, ow_83, cl_7⟩ (by rw [np_83]; rfl) (by rw [np_83]; rfl) (ob_of (mk_23 _)) (Nat.le_of_ble_eq_true rfl) (c6  ) ?_
  show Bod _ _ _ _ [] _ _ _
  refine Bod.go dc_108_95 rfl ?_
  refine Bod.go dc_108_96 rfl ?_
  refine Bod.virt (r := []) dc_108_97 kr_108_89 ⟨Or.inl rfl, ow_52, cl_10⟩ (by rw [np_52]; rfl) (by rw [np_52]; rfl) (ob_of (mk_43 _)) (Nat.le_of_ble_eq_true rfl) (c7  ) ?_
  show Bod _ _ _ _ [_] _ _ _
  refine Bod.ifF dc_108_100 rfl (k1_ne_F (k_eq 0 0 rfl rfl (by omega))) ?_
  refine Bod.go dc_108_103 rfl ?_
  refine Bod.get dc_108_104 fr_108_9 (mk_43 _) rfl ?_
  refine Bod.virt (r := []) dc_108_107 kr_108_76 ⟨Or.inr rfl, ow_44, cl_3⟩ (by rw [np_44]; rfl) (by rw [np_44]; rfl) (ob_of (mk_31 _)) (Nat.le_of_ble_eq_true rfl) (c8  ) ?_
  show Bod _ _ _ _ [] _ _ _
  refine Bod.go dc_108_110 rfl ?_
  refine Bod.get dc_108_111 fr_108_9 (mk_43 _) rfl ?_
  refine Bod.bip 55 (by decide) dc_108_114 ?_
  refine Bod.virt (r := []) dc_108_116 kr_108_107 ⟨Or.inr rfl, ow_75, cl_3⟩ (by rw [np_75]; rfl) (by rw [np_75]; rfl) (ob_of (mk_31 _)) (Nat.le_of_ble_eq_true rfl) (c9  ) ?_
  show Bod _ _ _ _ [] _ _ _
  refine Bod.go dc_108_119 rfl ?_
  refine Bod.get dc_108_120 fr_108_9 (mk_43 _) rfl ?_
  refine Bod.get dc_108_123 fr_108_79 (mk_31 _) rfl ?_
  refine Bod.eqI (nI tk) (by first | (simp (disch := omega) only [rI, rIe, rA, rIA, rLA, rJA, rVI, rQI, rVA, rQA, upd_at,  rAI, rLI, rJI, nI_add, pk_sub, kc_0, kc_1, kc_2, kc_3, kc_4, kc_5, reduceIte, Nat.reduceEqDiff, Nat.add_zero, rI_hold, rI_hold, rL_hold, hind, hf4308, hf43081, htop, htk]; done) | (simp (disch := omega) only [rI, rIe, rA, rIA, rLA, rJA, rVI, rQI, rVA, rQA, upd_at,  rAI, rLI, rJI, nI_add, pk_sub, kc_0, kc_1, kc_2, kc_3, kc_4, kc_5, reduceIte, Nat.reduceEqDiff, Nat.add_zero, rI_hold, rI_hold, rL_hold, hind, hf4308, hf43081, htop, htk]; exact congrArg nI (by omega))) ?_
  refine Bod.ic 3 (by decide) dc_108_126 ?_
  refine Bod.icT dc_108_127 rfl (k2_ne_T (k_ne tk 3 rfl rfl (by omega) (by omega) (by omega))) ?_
  refine Bod.go dc_108_141 rfl ?_
  refine Bod.get dc_108_142 fr_108_15 (mk_43 _) rfl ?_
  refine Bod.bip 17 (by decide) dc_108_145 ?_
  refine Bod.virt (r := []) dc_108_147 kr_108_72 ⟨Or.inr rfl, ow_71, cl_7⟩ (by rw [np_71]; rfl) (by rw [np_71]; rfl) (ob_of (mk_23 _)) (Nat.le_of_ble_eq_true rfl) (c10  ) ?_
  show Bod _ _ _ _ [_] _ _ _
  refine Bod.go dc_108_150 rfl ?_
  refine Bod.go dc_108_151 rfl ?_
  refine Bod.go dc_108_152 rfl ?_
  refine Bod.go dc_108_153 rfl ?_
  refine Bod.ic 1 (by decide) dc_108_154 ?_
  refine Bod.addN (dp + 1) (by omega) dc_108_155 ?_
  refine Bod.virt (r := []) dc_108_156 kr_108_226 ⟨Or.inl rfl, ow_84, cl_10⟩ (by rw [np_84]; rfl) (by rw [np_84]; rfl) (ob_of (mk_43 _)) (Nat.le_of_ble_eq_true rfl) (c11  ) ?_
  show Bod _ _ _ _ [] _ _ _
  refine Bod.go dc_108_159 rfl ?_
  refine Bod.get dc_108_160 fr_108_15 (mk_43 _) rfl ?_
  refine Bod.go dc_108_163 rfl ?_
  refine Bod.ic 1 (by decide) dc_108_165 ?_
  refine Bod.addN (a2 + 1) (by omega) dc_108_166 ?_
  refine Bod.go dc_108_167 rfl ?_
  refine Bod.get dc_108_168 fr_108_15 (mk_43 _) rfl ?_
  refine Bod.get dc_108_171 fr_108_69 (mk_23 _) rfl ?_
  refine Bod.eqI (nI top1) (by first | (simp (disch := omega) only [rI, rIe, rA, rIA, rLA, rJA, rVI, rQI, rVA, rQA, upd_at,  rAI, rLI, rJI, nI_add, pk_sub, kc_0, kc_1, kc_2, kc_3, kc_4, kc_5, reduceIte, Nat.reduceEqDiff, Nat.add_zero, rI_hold, rI_hold, rL_hold, hind, hf4308, hf43081, htop, htk, htop1]; done) | (simp (disch := omega) only [rI, rIe, rA, rIA, rLA, rJA, rVI, rQI, rVA, rQA, upd_at,  rAI, rLI, rJI, nI_add, pk_sub, kc_0, kc_1, kc_2, kc_3, kc_4, kc_5, reduceIte, Nat.reduceEqDiff, Nat.add_zero, rI_hold, rI_hold, rL_hold, hind, hf4308, hf43081, htop, htk, htop1]; exact congrArg nI (by omega))) ?_
  refine Bod.virt (r := []) dc_108_174 kr_108_201 ⟨Or.inr rfl, ow_83, cl_7⟩ (by rw [np_83]; rfl) (by rw [np_83]; rfl) (ob_of (mk_23 _)) (Nat.le_of_ble_eq_true rfl) (c12  ) ?_
  show Bod _ _ _ _ [] _ _ _
  exact Bod.retV dc_108_177 rt_108
theorem cTry_4 {d : Nat} {S : cS} {dp : Nat} {ind : Nat} {S1 : cS} {S2 : cS} {a : Nat} {f4308 : Nat} {S3 : cS} {f43081 : Nat} {S4 : cS} {a1 : Nat} {S5 : cS} {a2 : Nat} {top : Nat} {S6 : cS} {S7 : cS} {S8 : cS} {S9 : cS} {tk : Nat} {S10 : cS} {a3 : Nat} {S11 : cS} {S12 : cS} {top1 : Nat} {S13 : cS} (mdp : dp < 2 ^ 20) (hind : sI S 3108 = nI ind) (mind : ind < 2 ^ 20) (c1 : Ans (d + 8) 75 [.ref 31, .int (nI 54)] S none S1) (ma : a < 2 ^ 20) (c2 : Ans (d + 8) 54 [.ref 23, .int (nI 12), .int (nI 0)] S1 (some (.int (nI a))) S2) (hf4308 : sI S2 4308 = nI f4308) (mf4308 : f4308 < 2 ^ 20) (c3 : Ans (d + 8) 84 [.ref 43, .int (nI ind), .int (nI (dp + 1))] (wI 4308 (nI (f4308 + 1)) S2) none S3) (hf43081 : sI S3 4308 = nI f43081) (mf43081 : f43081 < 2 ^ 20) (b1 : 1 ≤ f43081) (ma1 : a1 < 2 ^ 20) (c4 : Ans (d + 8) 54 [.ref 23, .int (nI 13), .int (nI 1)] (wI 4308 (nI (f43081 - 1)) S3) (some (.int (nI a1))) S4) (ma2 : a2 < 2 ^ 20) (c5 : Ans (d + 8) 54 [.ref 23, .int (nI 4), .int (nI 0)] S4 (some (.int (nI a2))) S5) (htop : sI S5 2307 = nI top) (mtop : top < 2 ^ 20) (c6 : Ans (d + 8) 83 [.ref 23, .int (nI (a + 1)), .int (nI top)] S5 none S6) (c7 : Ans (d + 8) 52 [.ref 43, .int (nI ind)] S6 (some (.int (nI 0))) S7) (c8 : Ans (d + 8) 44 [.ref 31] S7 none S8) (c9 : Ans (d + 8) 75 [.ref 31, .int (nI 55)] S8 none S9) (htk : sI S9 3105 = nI tk) (mtk : tk < 2 ^ 20) (b2 : tk = 3) (ma3 : a3 < 2 ^ 20) (c10 : Ans (d + 8) 92 [.ref 43] S9 (some (.int (nI a3))) S10) (c11 : Ans (d + 8) 93 [.ref 43, .int (nI a3)] S10 none S11) (c12 : Ans (d + 8) 84 [.ref 43, .int (nI ind), .int (nI (dp + 1))] S11 none S12) (htop1 : sI S12 2307 = nI top1) (mtop1 : top1 < 2 ^ 20) (c13 : Ans (d + 8) 83 [.ref 23, .int (nI (a2 + 1)), .int (nI top1)] S12 none S13) : Bod (d + 8) 108 0 [(0, .ref 43), (1, .int (nI dp))] [] S none (S13) := by
  refine Bod.go dc_108_0 rfl ?_
  refine Bod.get dc_108_1 fr_108_9 (mk_43 _) rfl ?_
  refine Bod.get dc_108_4 fr_108_96 (mk_31 _) rfl ?_
  refine Bod.eqI (nI ind) (by first | assumption | rfl | exact congrArg nI (by omega) | (simp (disch := omega) only [rI, rIe, rA, rIA, rLA, rJA, rVI, rQI, rVA, rQA, upd_at,  rAI, rLI, rJI, nI_add, pk_sub, kc_0, kc_1, kc_2, kc_3, kc_4, kc_5, reduceIte, Nat.reduceEqDiff, Nat.add_zero, rI_hold, rI_hold, rL_hold, hind]; done)) ?_
  refine Bod.istn dc_108_7 (by rw [ml_108]; exact Nat.le_of_ble_eq_true rfl) ?_
  refine Bod.go dc_108_8 rfl ?_
  refine Bod.get dc_108_9 fr_108_9 (mk_43 _) rfl ?_
  refine Bod.bip 54 (by decide) dc_108_12 ?_
  refine Bod.virt (r := []) dc_108_14 kr_108_107 ⟨Or.inr rfl, ow_75, cl_3⟩ (by rw [np_75]; rfl) (by rw [np_75]; rfl) (ob_of (mk_31 _)) (Nat.le_of_ble_eq_true rfl) (c1  ) ?_
  show Bod _ _ _ _ [] _ _ _
  refine Bod.go dc_108_17 rfl ?_
  refine Bod.get dc_108_18 fr_108_15 (mk_43 _) rfl ?_
  refine Bod.bip 12 (by decide) dc_108_21 ?_
  refine Bod.ic 0 (by decide) dc_108_23 ?_
  refine Bod.virt (r := []) dc_108_24 kr_108_116 ⟨Or.inr rfl, ow_54, cl_7⟩ (by rw [np_54]; rfl) (by rw [np_54]; rfl) (ob_of (mk_23 _)) (Nat.le_of_ble_eq_true rfl) (c2  ) ?_
  show Bod _ _ _ _ [_] _ _ _
  refine Bod.istn dc_108_27 (by rw [ml_108]; exact Nat.le_of_ble_eq_true rfl) ?_
  refine Bod.go dc_108_28 rfl ?_
  refine Bod.go dc_108_29 rfl ?_
  refine Bod.get dc_108_30 fr_108_46 (mk_43 _) rfl ?_
  refine Bod.eqI (nI f4308) (by first | (simp (disch := omega) only [rI, rIe, rA, rIA, rLA, rJA, rVI, rQI, rVA, rQA, upd_at,  rAI, rLI, rJI, nI_add, pk_sub, kc_0, kc_1, kc_2, kc_3, kc_4, kc_5, reduceIte, Nat.reduceEqDiff, Nat.add_zero, rI_hold, rI_hold, rL_hold, hind, hf4308]; done) | (simp (disch := omega) only [rI, rIe, rA, rIA, rLA, rJA, rVI, rQI, rVA, rQA, upd_at,  rAI, rLI, rJI, nI_add, pk_sub, kc_0, kc_1, kc_2, kc_3, kc_4, kc_5, reduceIte, Nat.reduceEqDiff, Nat.add_zero, rI_hold, rI_hold, rL_hold, hind, hf4308]; exact congrArg nI (by omega))) ?_
  refine Bod.ic 1 (by decide) dc_108_33 ?_
  refine Bod.addN (f4308 + 1) (by omega) dc_108_34 ?_
  refine Bod.put dc_108_35 fr_108_46 (mk_43 _) (Nat.le_of_ble_eq_true rfl) pf_10_8 (st_4308 _ _) (mu_I _ _ _) ?_
  refine Bod.go dc_108_38 rfl ?_
  refine Bod.go dc_108_39 rfl ?_
  refine Bod.go dc_108_40 rfl ?_
  refine Bod.ic 1 (by decide) dc_108_41 ?_
  refine Bod.addN (dp + 1) (by omega) dc_108_42 ?_
  refine Bod.virt (r := []) dc_108_43 kr_108_226 ⟨Or.inl rfl, ow_84, cl_10⟩ (by rw [np_84]; rfl) (by rw [np_84]; rfl) (ob_of (mk_43 _)) (Nat.le_of_ble_eq_true rfl) (c3  ) ?_
  show Bod _ _ _ _ [] _ _ _
  refine Bod.go dc_108_46 rfl ?_
  refine Bod.go dc_108_47 rfl ?_
  refine Bod.get dc_108_48 fr_108_46 (mk_43 _) rfl ?_
  refine Bod.eqI (nI f43081) (by first | (simp (disch := omega) only [rI, rIe, rA, rIA, rLA, rJA, rVI, rQI, rVA, rQA, upd_at,  rAI, rLI, rJI, nI_add, pk_sub, kc_0, kc_1, kc_2, kc_3, kc_4, kc_5, reduceIte, Nat.reduceEqDiff, Nat.add_zero, rI_hold, rI_hold, rL_hold, hind, hf4308, hf43081]; done) | (simp (disch := omega) only [rI, rIe, rA, rIA, rLA, rJA, rVI, rQI, rVA, rQA, upd_at,  rAI, rLI, rJI, nI_add, pk_sub, kc_0, kc_1, kc_2, kc_3, kc_4, kc_5, reduceIte, Nat.reduceEqDiff, Nat.add_zero, rI_hold, rI_hold, rL_hold, hind, hf4308, hf43081]; exact congrArg nI (by omega))) ?_
  refine Bod.ic 1 (by decide) dc_108_51 ?_
  refine Bod.subN (f43081 - 1) (by omega) (by omega) dc_108_52 ?_
  refine Bod.put dc_108_53 fr_108_46 (mk_43 _) (Nat.le_of_ble_eq_true rfl) pf_10_8 (st_4308 _ _) (mu_I _ _ _) ?_
  refine Bod.go dc_108_56 rfl ?_
  refine Bod.get dc_108_57 fr_108_15 (mk_43 _) rfl ?_
  refine Bod.bip 13 (by decide) dc_108_60 ?_
  refine Bod.ic 1 (by decide) dc_108_62 ?_
  refine Bod.virt (r := []) dc_108_63 kr_108_116 ⟨Or.inr rfl, ow_54, cl_7⟩ (by rw [np_54]; rfl) (by rw [np_54]; rfl) (ob_of (mk_23 _)) (Nat.le_of_ble_eq_true rfl) (c4  ) ?_
  show Bod _ _ _ _ [_] _ _ _
  refine Bod.go dc_108_66 rfl ?_
  refine Bod.go dc_108_67 rfl ?_
  refine Bod.get dc_108_68 fr_108_15 (mk_43 _) rfl ?_
  refine Bod.ic 4 (by decide) dc_108_71 ?_
  refine Bod.ic 0 (by decide) dc_108_72 ?_
  refine Bod.virt (r := []) dc_108_73 kr_108_116 ⟨Or.inr rfl, ow_54, cl_7⟩ (by rw [np_54]; rfl) (by rw [np_54]; rfl) (ob_of (mk_23 _)) (Nat.le_of_ble_eq_true rfl) (c5  ) ?_
  show Bod _ _ _ _ [_] _ _ _
  refine Bod.ist dc_108_76 (by rw [ml_108]; exact Nat.le_of_ble_eq_true rfl) ?_
  refine Bod.go dc_108_78 rfl ?_
  refine Bod.get dc_108_79 fr_108_15 (mk_43 _) rfl ?_
  refine Bod.go dc_108_82 rfl ?_
  refine Bod.ic 1 (by decide) dc_108_83 ?_
  refine Bod.addN (a + 1) (by omega) dc_108_84 ?_
  refine Bod.go dc_108_85 rfl ?_
  refine Bod.get dc_108_86 fr_108_15 (mk_43 _) rfl ?_
  refine Bod.get dc_108_89 fr_108_69 (mk_23 _) rfl ?_
  refine Bod.eqI (nI top) (by first | (simp (disch := omega) only [rI, rIe, rA, rIA, rLA, rJA, rVI, rQI, rVA, rQA, upd_at,  rAI, rLI, rJI, nI_add, pk_sub, kc_0, kc_1, kc_2, kc_3, kc_4, kc_5, reduceIte, Nat.reduceEqDiff, Nat.add_zero, rI_hold, rI_hold, rL_hold, hind, hf4308, hf43081, htop]; done) | (simp (disch := omega) only [rI, rIe, rA, rIA, rLA, rJA, rVI, rQI, rVA, rQA, upd_at,  rAI, rLI, rJI, nI_add, pk_sub, kc_0, kc_1, kc_2, kc_3, kc_4, kc_5, reduceIte, Nat.reduceEqDiff, Nat.add_zero, rI_hold, rI_hold, rL_hold, hind, hf4308, hf43081, htop]; exact congrArg nI (by omega))) ?_
  refine Bod.virt (r := []) dc_108_92 kr_108_201 ⟨Or.inr rfl, ow_83, cl_7⟩ (by rw [np_83]; rfl) (by rw [np_83]; rfl) (ob_of (mk_23 _)) (Nat.le_of_ble_eq_true rfl) (c6  ) ?_
  show Bod _ _ _ _ [] _ _ _
  refine Bod.go dc_108_95 rfl ?_
  refine Bod.go dc_108_96 rfl ?_
  refine Bod.virt (r := []) dc_108_97 kr_108_89 ⟨Or.inl rfl, ow_52, cl_10⟩ (by rw [np_52]; rfl) (by rw [np_52]; rfl) (ob_of (mk_43 _)) (Nat.le_of_ble_eq_true rfl) (c7  ) ?_
  show Bod _ _ _ _ [_] _ _ _
  refine Bod.ifF dc_108_100 rfl (k1_ne_F (k_eq 0 0 rfl rfl (by omega))) ?_
  refine Bod.go dc_108_103 rfl ?_
  refine Bod.get dc_108_104 fr_108_9 (mk_43 _) rfl ?_
  refine Bod.virt (r := []) dc_108_107 kr_108_76 ⟨Or.inr rfl, ow_44, cl_3⟩ (by rw [np_44]; rfl) (by rw [np_44]; rfl) (ob_of (mk_31 _)) (Nat.le_of_ble_eq_true rfl) (c8  ) ?_
  show Bod _ _ _ _ [] _ _ _
  refine Bod.go dc_108_110 rfl ?_
  refine Bod.get dc_108_111 fr_108_9 (mk_43 _) rfl ?_
  refine Bod.bip 55 (by decide) dc_108_114 ?_
  refine Bod.virt (r := []) dc_108_116 kr_108_107 ⟨Or.inr rfl, ow_75, cl_3⟩ (by rw [np_75]; rfl) (by rw [np_75]; rfl) (ob_of (mk_31 _)) (Nat.le_of_ble_eq_true rfl) (c9  ) ?_
  show Bod _ _ _ _ [] _ _ _
  refine Bod.go dc_108_119 rfl ?_
  refine Bod.get dc_108_120 fr_108_9 (mk_43 _) rfl ?_
  refine Bod.get dc_108_123 fr_108_79 (mk_31 _) rfl ?_
  refine Bod.eqI (nI tk) (by first | (simp (disch := omega) only [rI, rIe, rA, rIA, rLA, rJA, rVI, rQI, rVA, rQA, upd_at,  rAI, rLI, rJI, nI_add, pk_sub, kc_0, kc_1, kc_2, kc_3, kc_4, kc_5, reduceIte, Nat.reduceEqDiff, Nat.add_zero, rI_hold, rI_hold, rL_hold, hind, hf4308, hf43081, htop, htk]; done) | (simp (disch := omega) only [rI, rIe, rA, rIA, rLA, rJA, rVI, rQI, rVA, rQA, upd_at,  rAI, rLI, rJI, nI_add, pk_sub, kc_0, kc_1, kc_2, kc_3, kc_4, kc_5, reduceIte, Nat.reduceEqDiff, Nat.add_zero, rI_hold, rI_hold, rL_hold, hind, hf4308, hf43081, htop, htk]; exact congrArg nI (by omega))) ?_
  refine Bod.ic 3 (by decide) dc_108_126 ?_
  refine Bod.icF dc_108_127 rfl (k2_ne_F (k_eq tk 3 rfl rfl (by omega))) ?_
  refine Bod.go dc_108_130 rfl ?_
  refine Bod.go dc_108_131 rfl ?_
  refine Bod.virt (r := [_]) dc_108_132 kr_108_220 ⟨Or.inl rfl, ow_92, cl_10⟩ (by rw [np_92]; rfl) (by rw [np_92]; rfl) (ob_of (mk_43 _)) (Nat.le_of_ble_eq_true rfl) (c10  ) ?_
  show Bod _ _ _ _ [_, _] _ _ _
  refine Bod.virt (r := []) dc_108_135 kr_108_131 ⟨Or.inl rfl, ow_93, cl_10⟩ (by rw [np_93]; rfl) (by rw [np_93]; rfl) (ob_of (mk_43 _)) (Nat.le_of_ble_eq_true rfl) (c11  ) ?_
  show Bod _ _ _ _ [] _ _ _
  refine Bod.go dc_108_138 rfl ?_
  refine Bod.go dc_108_151 rfl ?_
  refine Bod.go dc_108_152 rfl ?_
  refine Bod.go dc_108_153 rfl ?_
  refine Bod.ic 1 (by decide) dc_108_154 ?_
  refine Bod.addN (dp + 1) (by omega) dc_108_155 ?_
  refine Bod.virt (r := []) dc_108_156 kr_108_226 ⟨Or.inl rfl, ow_84, cl_10⟩ (by rw [np_84]; rfl) (by rw [np_84]; rfl) (ob_of (mk_43 _)) (Nat.le_of_ble_eq_true rfl) (c12  ) ?_
  show Bod _ _ _ _ [] _ _ _
  refine Bod.go dc_108_159 rfl ?_
  refine Bod.get dc_108_160 fr_108_15 (mk_43 _) rfl ?_
  refine Bod.go dc_108_163 rfl ?_
  refine Bod.ic 1 (by decide) dc_108_165 ?_
  refine Bod.addN (a2 + 1) (by omega) dc_108_166 ?_
  refine Bod.go dc_108_167 rfl ?_
  refine Bod.get dc_108_168 fr_108_15 (mk_43 _) rfl ?_
  refine Bod.get dc_108_171 fr_108_69 (mk_23 _) rfl ?_
  refine Bod.eqI (nI top1) (by first | (simp (disch := omega) only [rI, rIe, rA, rIA, rLA, rJA, rVI, rQI, rVA, rQA, upd_at,  rAI, rLI, rJI, nI_add, pk_sub, kc_0, kc_1, kc_2, kc_3, kc_4, kc_5, reduceIte, Nat.reduceEqDiff, Nat.add_zero, rI_hold, rI_hold, rL_hold, hind, hf4308, hf43081, htop, htk, htop1]; done) | (simp (disch := omega) only [rI, rIe, rA, rIA, rLA, rJA, rVI, rQI, rVA, rQA, upd_at,  rAI, rLI, rJI, nI_add, pk_sub, kc_0, kc_1, kc_2, kc_3, kc_4, kc_5, reduceIte, Nat.reduceEqDiff, Nat.add_zero, rI_hold, rI_hold, rL_hold, hind, hf4308, hf43081, htop, htk, htop1]; exact congrArg nI (by omega))) ?_
  refine Bod.virt (r := []) dc_108_174 kr_108_201 ⟨Or.inr rfl, ow_83, cl_7⟩ (by rw [np_83]; rfl) (by rw [np_83]; rfl) (ob_of (mk_23 _)) (Nat.le_of_ble_eq_true rfl) (c13  ) ?_
  show Bod _ _ _ _ [] _ _ _
  exact Bod.retV dc_108_177 rt_108
theorem cDel_1 {d : Nat} {S : cS} {S1 : cS} {S2 : cS} {S3 : cS} (c1 : Ans (d + 8) 75 [.ref 31, .int (nI 52)] S none S1) (c2 : Ans (d + 8) 57 [.ref 44, .int (nI 0)] S1 none S2) (c3 : Ans (d + 8) 110 [.ref 43, .int (nI 20), .int (nI 43), .int (nI 48)] S2 none S3) : Bod (d + 8) 109 0 [(0, .ref 43)] [] S none (S3) := by
  refine Bod.go dc_109_0 rfl ?_
  refine Bod.get dc_109_1 fr_109_9 (mk_43 _) rfl ?_
  refine Bod.bip 52 (by decide) dc_109_4 ?_
  refine Bod.virt (r := []) dc_109_6 kr_109_107 ⟨Or.inr rfl, ow_75, cl_3⟩ (by rw [np_75]; rfl) (by rw [np_75]; rfl) (ob_of (mk_31 _)) (Nat.le_of_ble_eq_true rfl) (c1  ) ?_
  show Bod _ _ _ _ [] _ _ _
  refine Bod.go dc_109_9 rfl ?_
  refine Bod.get dc_109_10 fr_109_23 (mk_43 _) rfl ?_
  refine Bod.ic 0 (by decide) dc_109_13 ?_
  refine Bod.virt (r := []) dc_109_14 kr_109_169 ⟨Or.inr rfl, ow_57, cl_1⟩ (by rw [np_57]; rfl) (by rw [np_57]; rfl) (ob_of (mk_44 _)) (Nat.le_of_ble_eq_true rfl) (c2  ) ?_
  show Bod _ _ _ _ [] _ _ _
  refine Bod.go dc_109_17 rfl ?_
  refine Bod.bip 20 (by decide) dc_109_18 ?_
  refine Bod.bip 43 (by decide) dc_109_20 ?_
  refine Bod.bip 48 (by decide) dc_109_22 ?_
  refine Bod.virt (r := []) dc_109_24 kr_109_182 ⟨Or.inl rfl, ow_110, cl_10⟩ (by rw [np_110]; rfl) (by rw [np_110]; rfl) (ob_of (mk_43 _)) (Nat.le_of_ble_eq_true rfl) (c3  ) ?_
  show Bod _ _ _ _ [] _ _ _
  exact Bod.retV dc_109_27 rt_109
theorem cRet_1 {d : Nat} {S : cS} {S1 : cS} {S2 : cS} {tk : Nat} {S3 : cS} {S4 : cS} {a : Nat} (c1 : Ans (d + 8) 69 [.ref 32] S (some (.int (nI 1))) S1) (c2 : Ans (d + 8) 75 [.ref 31, .int (nI 48)] S1 none S2) (htk : sI S2 3105 = nI tk) (mtk : tk < 2 ^ 20) (b1 : tk ≠ 2) (c3 : Ans (d + 8) 57 [.ref 44, .int (nI 0)] S2 none S3) (ma : a < 2 ^ 20) (c4 : Ans (d + 8) 71 [.ref 23, .int (nI 8)] S3 (some (.int (nI a))) S4) : Bod (d + 8) 112 0 [(0, .ref 43)] [] S none (S4) := by
  refine Bod.go dc_112_0 rfl ?_
  refine Bod.get dc_112_1 fr_112_19 (mk_43 _) rfl ?_
  refine Bod.virt (r := []) dc_112_4 kr_112_204 ⟨Or.inr rfl, ow_69, cl_8⟩ (by rw [np_69]; rfl) (by rw [np_69]; rfl) (ob_of (mk_32 _)) (Nat.le_of_ble_eq_true rfl) (c1  ) ?_
  show Bod _ _ _ _ [_] _ _ _
  refine Bod.ifT dc_112_7 rfl (k1_ne_T (k_ne 1 0 rfl rfl (by omega) (by omega) (by omega))) ?_
  refine Bod.go dc_112_17 rfl ?_
  refine Bod.get dc_112_18 fr_112_9 (mk_43 _) rfl ?_
  refine Bod.bip 48 (by decide) dc_112_21 ?_
  refine Bod.virt (r := []) dc_112_23 kr_112_107 ⟨Or.inr rfl, ow_75, cl_3⟩ (by rw [np_75]; rfl) (by rw [np_75]; rfl) (ob_of (mk_31 _)) (Nat.le_of_ble_eq_true rfl) (c2  ) ?_
  show Bod _ _ _ _ [] _ _ _
  refine Bod.go dc_112_26 rfl ?_
  refine Bod.get dc_112_27 fr_112_9 (mk_43 _) rfl ?_
  refine Bod.get dc_112_30 fr_112_79 (mk_31 _) rfl ?_
  refine Bod.eqI (nI tk) (by first | (simp (disch := omega) only [rI, rIe, rA, rIA, rLA, rJA, rVI, rQI, rVA, rQA, upd_at,  rAI, rLI, rJI, nI_add, pk_sub, kc_0, kc_1, kc_2, kc_3, kc_4, kc_5, reduceIte, Nat.reduceEqDiff, Nat.add_zero, rI_hold, rI_hold, rL_hold, htk]; done) | (simp (disch := omega) only [rI, rIe, rA, rIA, rLA, rJA, rVI, rQI, rVA, rQA, upd_at,  rAI, rLI, rJI, nI_add, pk_sub, kc_0, kc_1, kc_2, kc_3, kc_4, kc_5, reduceIte, Nat.reduceEqDiff, Nat.add_zero, rI_hold, rI_hold, rL_hold, htk]; exact congrArg nI (by omega))) ?_
  refine Bod.ic 2 (by decide) dc_112_33 ?_
  refine Bod.icT dc_112_34 rfl (k2_ne_T (k_ne tk 2 rfl rfl (by omega) (by omega) (by omega))) ?_
  refine Bod.go dc_112_51 rfl ?_
  refine Bod.get dc_112_52 fr_112_23 (mk_43 _) rfl ?_
  refine Bod.ic 0 (by decide) dc_112_55 ?_
  refine Bod.virt (r := []) dc_112_56 kr_112_169 ⟨Or.inr rfl, ow_57, cl_1⟩ (by rw [np_57]; rfl) (by rw [np_57]; rfl) (ob_of (mk_44 _)) (Nat.le_of_ble_eq_true rfl) (c3  ) ?_
  show Bod _ _ _ _ [] _ _ _
  refine Bod.go dc_112_59 rfl ?_
  refine Bod.get dc_112_60 fr_112_15 (mk_43 _) rfl ?_
  refine Bod.bip 8 (by decide) dc_112_63 ?_
  refine Bod.virt (r := []) dc_112_65 kr_112_72 ⟨Or.inr rfl, ow_71, cl_7⟩ (by rw [np_71]; rfl) (by rw [np_71]; rfl) (ob_of (mk_23 _)) (Nat.le_of_ble_eq_true rfl) (c4  ) ?_
  show Bod _ _ _ _ [_] _ _ _
  refine Bod.go dc_112_68 rfl ?_
  exact Bod.retV dc_112_69 rt_112
theorem cRet_2 {d : Nat} {S : cS} {S1 : cS} {S2 : cS} {tk : Nat} {S3 : cS} {S4 : cS} {a : Nat} (c1 : Ans (d + 8) 69 [.ref 32] S (some (.int (nI 1))) S1) (c2 : Ans (d + 8) 75 [.ref 31, .int (nI 48)] S1 none S2) (htk : sI S2 3105 = nI tk) (mtk : tk < 2 ^ 20) (b1 : tk = 2) (c3 : Ans (d + 8) 73 [.ref 23, .long ((1152921504606846976)), .long 0] S2 none S3) (ma : a < 2 ^ 20) (c4 : Ans (d + 8) 71 [.ref 23, .int (nI 8)] S3 (some (.int (nI a))) S4) : Bod (d + 8) 112 0 [(0, .ref 43)] [] S none (S4) := by
  refine Bod.go dc_112_0 rfl ?_
  refine Bod.get dc_112_1 fr_112_19 (mk_43 _) rfl ?_
  refine Bod.virt (r := []) dc_112_4 kr_112_204 ⟨Or.inr rfl, ow_69, cl_8⟩ (by rw [np_69]; rfl) (by rw [np_69]; rfl) (ob_of (mk_32 _)) (Nat.le_of_ble_eq_true rfl) (c1  ) ?_
  show Bod _ _ _ _ [_] _ _ _
  refine Bod.ifT dc_112_7 rfl (k1_ne_T (k_ne 1 0 rfl rfl (by omega) (by omega) (by omega))) ?_
  refine Bod.go dc_112_17 rfl ?_
  refine Bod.get dc_112_18 fr_112_9 (mk_43 _) rfl ?_
  refine Bod.bip 48 (by decide) dc_112_21 ?_
  refine Bod.virt (r := []) dc_112_23 kr_112_107 ⟨Or.inr rfl, ow_75, cl_3⟩ (by rw [np_75]; rfl) (by rw [np_75]; rfl) (ob_of (mk_31 _)) (Nat.le_of_ble_eq_true rfl) (c2  ) ?_
  show Bod _ _ _ _ [] _ _ _
  refine Bod.go dc_112_26 rfl ?_
  refine Bod.get dc_112_27 fr_112_9 (mk_43 _) rfl ?_
  refine Bod.get dc_112_30 fr_112_79 (mk_31 _) rfl ?_
  refine Bod.eqI (nI tk) (by first | (simp (disch := omega) only [rI, rIe, rA, rIA, rLA, rJA, rVI, rQI, rVA, rQA, upd_at,  rAI, rLI, rJI, nI_add, pk_sub, kc_0, kc_1, kc_2, kc_3, kc_4, kc_5, reduceIte, Nat.reduceEqDiff, Nat.add_zero, rI_hold, rI_hold, rL_hold, htk]; done) | (simp (disch := omega) only [rI, rIe, rA, rIA, rLA, rJA, rVI, rQI, rVA, rQA, upd_at,  rAI, rLI, rJI, nI_add, pk_sub, kc_0, kc_1, kc_2, kc_3, kc_4, kc_5, reduceIte, Nat.reduceEqDiff, Nat.add_zero, rI_hold, rI_hold, rL_hold, htk]; exact congrArg nI (by omega))) ?_
  refine Bod.ic 2 (by decide) dc_112_33 ?_
  refine Bod.icF dc_112_34 rfl (k2_ne_F (k_eq tk 2 rfl rfl (by omega))) ?_
  refine Bod.go dc_112_37 rfl ?_
  refine Bod.get dc_112_38 fr_112_15 (mk_43 _) rfl ?_
  refine Bod.ldc2 dc_112_41 cj_112_208 ?_
  refine Bod.go dc_112_44 rfl ?_
  refine Bod.virt (r := []) dc_112_45 kr_112_210 ⟨Or.inr rfl, ow_73, cl_7⟩ (by rw [np_73]; rfl) (by rw [np_73]; rfl) (ob_of (mk_23 _)) (Nat.le_of_ble_eq_true rfl) (c3  ) ?_
  show Bod _ _ _ _ [] _ _ _
  refine Bod.go dc_112_48 rfl ?_
  refine Bod.go dc_112_59 rfl ?_
  refine Bod.get dc_112_60 fr_112_15 (mk_43 _) rfl ?_
  refine Bod.bip 8 (by decide) dc_112_63 ?_
  refine Bod.virt (r := []) dc_112_65 kr_112_72 ⟨Or.inr rfl, ow_71, cl_7⟩ (by rw [np_71]; rfl) (by rw [np_71]; rfl) (ob_of (mk_23 _)) (Nat.le_of_ble_eq_true rfl) (c4  ) ?_
  show Bod _ _ _ _ [_] _ _ _
  refine Bod.go dc_112_68 rfl ?_
  exact Bod.retV dc_112_69 rt_112
theorem cRet_3 {d : Nat} {S : cS} {S1 : cS} {S2 : cS} {S3 : cS} {tk : Nat} {S4 : cS} {S5 : cS} {a : Nat} (c1 : Ans (d + 8) 69 [.ref 32] S (some (.int (nI 0))) S1) (c2 : Ans (d + 8) 44 [.ref 31] S1 none S2) (c3 : Ans (d + 8) 75 [.ref 31, .int (nI 48)] S2 none S3) (htk : sI S3 3105 = nI tk) (mtk : tk < 2 ^ 20) (b1 : tk ≠ 2) (c4 : Ans (d + 8) 57 [.ref 44, .int (nI 0)] S3 none S4) (ma : a < 2 ^ 20) (c5 : Ans (d + 8) 71 [.ref 23, .int (nI 8)] S4 (some (.int (nI a))) S5) : Bod (d + 8) 112 0 [(0, .ref 43)] [] S none (S5) := by
  refine Bod.go dc_112_0 rfl ?_
  refine Bod.get dc_112_1 fr_112_19 (mk_43 _) rfl ?_
  refine Bod.virt (r := []) dc_112_4 kr_112_204 ⟨Or.inr rfl, ow_69, cl_8⟩ (by rw [np_69]; rfl) (by rw [np_69]; rfl) (ob_of (mk_32 _)) (Nat.le_of_ble_eq_true rfl) (c1  ) ?_
  show Bod _ _ _ _ [_] _ _ _
  refine Bod.ifF dc_112_7 rfl (k1_ne_F (k_eq 0 0 rfl rfl (by omega))) ?_
  refine Bod.go dc_112_10 rfl ?_
  refine Bod.get dc_112_11 fr_112_9 (mk_43 _) rfl ?_
  refine Bod.virt (r := []) dc_112_14 kr_112_76 ⟨Or.inr rfl, ow_44, cl_3⟩ (by rw [np_44]; rfl) (by rw [np_44]; rfl) (ob_of (mk_31 _)) (Nat.le_of_ble_eq_true rfl) (c2  ) ?_
  show Bod _ _ _ _ [] _ _ _
  refine Bod.go dc_112_17 rfl ?_
  refine Bod.get dc_112_18 fr_112_9 (mk_43 _) rfl ?_
  refine Bod.bip 48 (by decide) dc_112_21 ?_
  refine Bod.virt (r := []) dc_112_23 kr_112_107 ⟨Or.inr rfl, ow_75, cl_3⟩ (by rw [np_75]; rfl) (by rw [np_75]; rfl) (ob_of (mk_31 _)) (Nat.le_of_ble_eq_true rfl) (c3  ) ?_
  show Bod _ _ _ _ [] _ _ _
  refine Bod.go dc_112_26 rfl ?_
  refine Bod.get dc_112_27 fr_112_9 (mk_43 _) rfl ?_
  refine Bod.get dc_112_30 fr_112_79 (mk_31 _) rfl ?_
  refine Bod.eqI (nI tk) (by first | (simp (disch := omega) only [rI, rIe, rA, rIA, rLA, rJA, rVI, rQI, rVA, rQA, upd_at,  rAI, rLI, rJI, nI_add, pk_sub, kc_0, kc_1, kc_2, kc_3, kc_4, kc_5, reduceIte, Nat.reduceEqDiff, Nat.add_zero, rI_hold, rI_hold, rL_hold, htk]; done) | (simp (disch := omega) only [rI, rIe, rA, rIA, rLA, rJA, rVI, rQI, rVA, rQA, upd_at,  rAI, rLI, rJI, nI_add, pk_sub, kc_0, kc_1, kc_2, kc_3, kc_4, kc_5, reduceIte, Nat.reduceEqDiff, Nat.add_zero, rI_hold, rI_hold, rL_hold, htk]; exact congrArg nI (by omega))) ?_
  refine Bod.ic 2 (by decide) dc_112_33 ?_
  refine Bod.icT dc_112_34 rfl (k2_ne_T (k_ne tk 2 rfl rfl (by omega) (by omega) (by omega))) ?_
  refine Bod.go dc_112_51 rfl ?_
  refine Bod.get dc_112_52 fr_112_23 (mk_43 _) rfl ?_
  refine Bod.ic 0 (by decide) dc_112_55 ?_
  refine Bod.virt (r := []) dc_112_56 kr_112_169 ⟨Or.inr rfl, ow_57, cl_1⟩ (by rw [np_57]; rfl) (by rw [np_57]; rfl) (ob_of (mk_44 _)) (Nat.le_of_ble_eq_true rfl) (c4  ) ?_
  show Bod _ _ _ _ [] _ _ _
  refine Bod.go dc_112_59 rfl ?_
  refine Bod.get dc_112_60 fr_112_15 (mk_43 _) rfl ?_
  refine Bod.bip 8 (by decide) dc_112_63 ?_
  refine Bod.virt (r := []) dc_112_65 kr_112_72 ⟨Or.inr rfl, ow_71, cl_7⟩ (by rw [np_71]; rfl) (by rw [np_71]; rfl) (ob_of (mk_23 _)) (Nat.le_of_ble_eq_true rfl) (c5  ) ?_
  show Bod _ _ _ _ [_] _ _ _
  refine Bod.go dc_112_68 rfl ?_
  exact Bod.retV dc_112_69 rt_112
theorem cRet_4 {d : Nat} {S : cS} {S1 : cS} {S2 : cS} {S3 : cS} {tk : Nat} {S4 : cS} {S5 : cS} {a : Nat} (c1 : Ans (d + 8) 69 [.ref 32] S (some (.int (nI 0))) S1) (c2 : Ans (d + 8) 44 [.ref 31] S1 none S2) (c3 : Ans (d + 8) 75 [.ref 31, .int (nI 48)] S2 none S3) (htk : sI S3 3105 = nI tk) (mtk : tk < 2 ^ 20) (b1 : tk = 2) (c4 : Ans (d + 8) 73 [.ref 23, .long ((1152921504606846976)), .long 0] S3 none S4) (ma : a < 2 ^ 20) (c5 : Ans (d + 8) 71 [.ref 23, .int (nI 8)] S4 (some (.int (nI a))) S5) : Bod (d + 8) 112 0 [(0, .ref 43)] [] S none (S5) := by
  refine Bod.go dc_112_0 rfl ?_
  refine Bod.get dc_112_1 fr_112_19 (mk_43 _) rfl ?_
  refine Bod.virt (r := []) dc_112_4 kr_112_204 ⟨Or.inr rfl, ow_69, cl_8⟩ (by rw [np_69]; rfl) (by rw [np_69]; rfl) (ob_of (mk_32 _)) (Nat.le_of_ble_eq_true rfl) (c1  ) ?_
  show Bod _ _ _ _ [_] _ _ _
  refine Bod.ifF dc_112_7 rfl (k1_ne_F (k_eq 0 0 rfl rfl (by omega))) ?_
  refine Bod.go dc_112_10 rfl ?_
  refine Bod.get dc_112_11 fr_112_9 (mk_43 _) rfl ?_
  refine Bod.virt (r := []) dc_112_14 kr_112_76 ⟨Or.inr rfl, ow_44, cl_3⟩ (by rw [np_44]; rfl) (by rw [np_44]; rfl) (ob_of (mk_31 _)) (Nat.le_of_ble_eq_true rfl) (c2  ) ?_
  show Bod _ _ _ _ [] _ _ _
  refine Bod.go dc_112_17 rfl ?_
  refine Bod.get dc_112_18 fr_112_9 (mk_43 _) rfl ?_
  refine Bod.bip 48 (by decide) dc_112_21 ?_
  refine Bod.virt (r := []) dc_112_23 kr_112_107 ⟨Or.inr rfl, ow_75, cl_3⟩ (by rw [np_75]; rfl) (by rw [np_75]; rfl) (ob_of (mk_31 _)) (Nat.le_of_ble_eq_true rfl) (c3  ) ?_
  show Bod _ _ _ _ [] _ _ _
  refine Bod.go dc_112_26 rfl ?_
  refine Bod.get dc_112_27 fr_112_9 (mk_43 _) rfl ?_
  refine Bod.get dc_112_30 fr_112_79 (mk_31 _) rfl ?_
  refine Bod.eqI (nI tk) (by first | (simp (disch := omega) only [rI, rIe, rA, rIA, rLA, rJA, rVI, rQI, rVA, rQA, upd_at,  rAI, rLI, rJI, nI_add, pk_sub, kc_0, kc_1, kc_2, kc_3, kc_4, kc_5, reduceIte, Nat.reduceEqDiff, Nat.add_zero, rI_hold, rI_hold, rL_hold, htk]; done) | (simp (disch := omega) only [rI, rIe, rA, rIA, rLA, rJA, rVI, rQI, rVA, rQA, upd_at,  rAI, rLI, rJI, nI_add, pk_sub, kc_0, kc_1, kc_2, kc_3, kc_4, kc_5, reduceIte, Nat.reduceEqDiff, Nat.add_zero, rI_hold, rI_hold, rL_hold, htk]; exact congrArg nI (by omega))) ?_
  refine Bod.ic 2 (by decide) dc_112_33 ?_
  refine Bod.icF dc_112_34 rfl (k2_ne_F (k_eq tk 2 rfl rfl (by omega))) ?_
  refine Bod.go dc_112_37 rfl ?_
  refine Bod.get dc_112_38 fr_112_15 (mk_43 _) rfl ?_
  refine Bod.ldc2 dc_112_41 cj_112_208 ?_
  refine Bod.go dc_112_44 rfl ?_
  refine Bod.virt (r := []) dc_112_45 kr_112_210 ⟨Or.inr rfl, ow_73, cl_7⟩ (by rw [np_73]; rfl) (by rw [np_73]; rfl) (ob_of (mk_23 _)) (Nat.le_of_ble_eq_true rfl) (c4  ) ?_
  show Bod _ _ _ _ [] _ _ _
  refine Bod.go dc_112_48 rfl ?_
  refine Bod.go dc_112_59 rfl ?_
  refine Bod.get dc_112_60 fr_112_15 (mk_43 _) rfl ?_
  refine Bod.bip 8 (by decide) dc_112_63 ?_
  refine Bod.virt (r := []) dc_112_65 kr_112_72 ⟨Or.inr rfl, ow_71, cl_7⟩ (by rw [np_71]; rfl) (by rw [np_71]; rfl) (ob_of (mk_23 _)) (Nat.le_of_ble_eq_true rfl) (c5  ) ?_
  show Bod _ _ _ _ [_] _ _ _
  refine Bod.go dc_112_68 rfl ?_
  exact Bod.retV dc_112_69 rt_112
theorem cRse_1 {d : Nat} {S : cS} {S1 : cS} {S2 : cS} {S3 : cS} {a : Nat} (c1 : Ans (d + 8) 75 [.ref 31, .int (nI 56)] S none S1) (c2 : Ans (d + 8) 57 [.ref 44, .int (nI 0)] S1 none S2) (ma : a < 2 ^ 20) (c3 : Ans (d + 8) 71 [.ref 23, .int (nI 14)] S2 (some (.int (nI a))) S3) : Bod (d + 8) 113 0 [(0, .ref 43)] [] S none (S3) := by
  refine Bod.go dc_113_0 rfl ?_
  refine Bod.get dc_113_1 fr_113_9 (mk_43 _) rfl ?_
  refine Bod.bip 56 (by decide) dc_113_4 ?_
  refine Bod.virt (r := []) dc_113_6 kr_113_107 ⟨Or.inr rfl, ow_75, cl_3⟩ (by rw [np_75]; rfl) (by rw [np_75]; rfl) (ob_of (mk_31 _)) (Nat.le_of_ble_eq_true rfl) (c1  ) ?_
  show Bod _ _ _ _ [] _ _ _
  refine Bod.go dc_113_9 rfl ?_
  refine Bod.get dc_113_10 fr_113_23 (mk_43 _) rfl ?_
  refine Bod.ic 0 (by decide) dc_113_13 ?_
  refine Bod.virt (r := []) dc_113_14 kr_113_169 ⟨Or.inr rfl, ow_57, cl_1⟩ (by rw [np_57]; rfl) (by rw [np_57]; rfl) (ob_of (mk_44 _)) (Nat.le_of_ble_eq_true rfl) (c2  ) ?_
  show Bod _ _ _ _ [] _ _ _
  refine Bod.go dc_113_17 rfl ?_
  refine Bod.get dc_113_18 fr_113_15 (mk_43 _) rfl ?_
  refine Bod.bip 14 (by decide) dc_113_21 ?_
  refine Bod.virt (r := []) dc_113_23 kr_113_72 ⟨Or.inr rfl, ow_71, cl_7⟩ (by rw [np_71]; rfl) (by rw [np_71]; rfl) (ob_of (mk_23 _)) (Nat.le_of_ble_eq_true rfl) (c3  ) ?_
  show Bod _ _ _ _ [_] _ _ _
  refine Bod.go dc_113_26 rfl ?_
  exact Bod.retV dc_113_27 rt_113
theorem cNmt_1 {d : Nat} {S : cS} {tp : Nat} {tg : Nat} {S1 : cS} {a : Nat} (htp : sI S 4404 = nI tp) (mtp : tp < 2 ^ 20) (htg : sI S 4403 = nI tg) (mtg : tg < 2 ^ 20) (b1 : tg ≠ 1) (ma : a < 2 ^ 20) (c1 : Ans (d + 8) 88 [.ref 23, .int (nI (tp + 1))] S (some (.int (nI a))) S1) : Bod (d + 8) 111 0 [(0, .ref 43)] [] S (some (.int (nI a))) (S1) := by
  refine Bod.go dc_111_0 rfl ?_
  refine Bod.get dc_111_1 fr_111_15 (mk_43 _) rfl ?_
  refine Bod.go dc_111_4 rfl ?_
  refine Bod.get dc_111_5 fr_111_23 (mk_43 _) rfl ?_
  refine Bod.get dc_111_8 fr_111_195 (mk_44 _) rfl ?_
  refine Bod.eqI (nI tp) (by first | assumption | rfl | exact congrArg nI (by omega) | (simp (disch := omega) only [rI, rIe, rA, rIA, rLA, rJA, rVI, rQI, rVA, rQA, upd_at,  rAI, rLI, rJI, nI_add, pk_sub, kc_0, kc_1, kc_2, kc_3, kc_4, kc_5, reduceIte, Nat.reduceEqDiff, Nat.add_zero, rI_hold, rI_hold, rL_hold, htp]; done)) ?_
  refine Bod.go dc_111_11 rfl ?_
  refine Bod.get dc_111_12 fr_111_23 (mk_43 _) rfl ?_
  refine Bod.get dc_111_15 fr_111_173 (mk_44 _) rfl ?_
  refine Bod.eqI (nI tg) (by first | assumption | rfl | exact congrArg nI (by omega) | (simp (disch := omega) only [rI, rIe, rA, rIA, rLA, rJA, rVI, rQI, rVA, rQA, upd_at,  rAI, rLI, rJI, nI_add, pk_sub, kc_0, kc_1, kc_2, kc_3, kc_4, kc_5, reduceIte, Nat.reduceEqDiff, Nat.add_zero, rI_hold, rI_hold, rL_hold, htp, htg]; done)) ?_
  refine Bod.ic 1 (by decide) dc_111_18 ?_
  refine Bod.icT dc_111_19 rfl (k2_ne_T (k_ne tg 1 rfl rfl (by omega) (by omega) (by omega))) ?_
  refine Bod.ic 1 (by decide) dc_111_26 ?_
  refine Bod.addN (tp + 1) (by omega) dc_111_27 ?_
  refine Bod.virt (r := []) dc_111_28 kr_111_198 ⟨Or.inr rfl, ow_88, cl_7⟩ (by rw [np_88]; rfl) (by rw [np_88]; rfl) (ob_of (mk_23 _)) (Nat.le_of_ble_eq_true rfl) (c1  ) ?_
  show Bod _ _ _ _ [_] _ _ _
  exact Bod.retI dc_111_31 rt_111
theorem cNmt_2 {d : Nat} {S : cS} {tp : Nat} {tg : Nat} {S1 : cS} {a : Nat} (htp : sI S 4404 = nI tp) (mtp : tp < 2 ^ 20) (htg : sI S 4403 = nI tg) (mtg : tg < 2 ^ 20) (b1 : tg = 1) (ma : a < 2 ^ 20) (c1 : Ans (d + 8) 88 [.ref 23, .int (nI (tp + 2))] S (some (.int (nI a))) S1) : Bod (d + 8) 111 0 [(0, .ref 43)] [] S (some (.int (nI a))) (S1) := by
  refine Bod.go dc_111_0 rfl ?_
  refine Bod.get dc_111_1 fr_111_15 (mk_43 _) rfl ?_
  refine Bod.go dc_111_4 rfl ?_
  refine Bod.get dc_111_5 fr_111_23 (mk_43 _) rfl ?_
  refine Bod.get dc_111_8 fr_111_195 (mk_44 _) rfl ?_
  refine Bod.eqI (nI tp) (by first | assumption | rfl | exact congrArg nI (by omega) | (simp (disch := omega) only [rI, rIe, rA, rIA, rLA, rJA, rVI, rQI, rVA, rQA, upd_at,  rAI, rLI, rJI, nI_add, pk_sub, kc_0, kc_1, kc_2, kc_3, kc_4, kc_5, reduceIte, Nat.reduceEqDiff, Nat.add_zero, rI_hold, rI_hold, rL_hold, htp]; done)) ?_
  refine Bod.go dc_111_11 rfl ?_
  refine Bod.get dc_111_12 fr_111_23 (mk_43 _) rfl ?_
  refine Bod.get dc_111_15 fr_111_173 (mk_44 _) rfl ?_
  refine Bod.eqI (nI tg) (by first | assumption | rfl | exact congrArg nI (by omega) | (simp (disch := omega) only [rI, rIe, rA, rIA, rLA, rJA, rVI, rQI, rVA, rQA, upd_at,  rAI, rLI, rJI, nI_add, pk_sub, kc_0, kc_1, kc_2, kc_3, kc_4, kc_5, reduceIte, Nat.reduceEqDiff, Nat.add_zero, rI_hold, rI_hold, rL_hold, htp, htg]; done)) ?_
  refine Bod.ic 1 (by decide) dc_111_18 ?_
  refine Bod.icF dc_111_19 rfl (k2_ne_F (k_eq tg 1 rfl rfl (by omega))) ?_
  refine Bod.ic 2 (by decide) dc_111_22 ?_
  refine Bod.go dc_111_23 rfl ?_
  refine Bod.addN (tp + 2) (by omega) dc_111_27 ?_
  refine Bod.virt (r := []) dc_111_28 kr_111_198 ⟨Or.inr rfl, ow_88, cl_7⟩ (by rw [np_88]; rfl) (by rw [np_88]; rfl) (ob_of (mk_23 _)) (Nat.le_of_ble_eq_true rfl) (c1  ) ?_
  show Bod _ _ _ _ [_] _ _ _
  exact Bod.retI dc_111_31 rt_111
theorem cRtg0_1 {d : Nat} {S : cS} {x : Nat} {y : Nat} {z : Nat} {tp : Nat} {S1 : cS} (mx : x < 2 ^ 20) (my : y < 2 ^ 20) (mz : z < 2 ^ 20) (htp : sI S 4404 = nI tp) (mtp : tp < 2 ^ 20) (k1 : sI S 4403 = nI 0) (c1 : Ans (d + 8) 44 [.ref 31] S none S1) : Bod (d + 8) 110 0 [(0, .ref 43), (1, .int (nI x)), (2, .int (nI y)), (3, .int (nI z))] [] S none (S1) := by
  refine Bod.go dc_110_0 rfl ?_
  refine Bod.get dc_110_1 fr_110_23 (mk_43 _) rfl ?_
  refine Bod.get dc_110_4 fr_110_195 (mk_44 _) rfl ?_
  refine Bod.eqI (nI tp) (by first | assumption | rfl | exact congrArg nI (by omega) | (simp (disch := omega) only [rI, rIe, rA, rIA, rLA, rJA, rVI, rQI, rVA, rQA, upd_at,  rAI, rLI, rJI, nI_add, pk_sub, kc_0, kc_1, kc_2, kc_3, kc_4, kc_5, reduceIte, Nat.reduceEqDiff, Nat.add_zero, rI_hold, rI_hold, rL_hold, htp]; done)) ?_
  refine Bod.ist dc_110_7 (by rw [ml_110]; exact Nat.le_of_ble_eq_true rfl) ?_
  refine Bod.go dc_110_9 rfl ?_
  refine Bod.get dc_110_10 fr_110_23 (mk_43 _) rfl ?_
  refine Bod.get dc_110_13 fr_110_173 (mk_44 _) rfl ?_
  refine Bod.eqI (nI 0) (by first | assumption | rfl | exact congrArg nI (by omega) | (simp (disch := omega) only [rI, rIe, rA, rIA, rLA, rJA, rVI, rQI, rVA, rQA, upd_at,  rAI, rLI, rJI, nI_add, pk_sub, kc_0, kc_1, kc_2, kc_3, kc_4, kc_5, reduceIte, Nat.reduceEqDiff, Nat.add_zero, rI_hold, rI_hold, rL_hold, htp, k1]; done)) ?_
  refine Bod.sw (t := 94) dc_110_16 rfl rfl (by decide +kernel) ?_
  refine Bod.go dc_110_94 rfl ?_
  refine Bod.get dc_110_95 fr_110_9 (mk_43 _) rfl ?_
  refine Bod.virt (r := []) dc_110_98 kr_110_76 ⟨Or.inr rfl, ow_44, cl_3⟩ (by rw [np_44]; rfl) (by rw [np_44]; rfl) (ob_of (mk_31 _)) (Nat.le_of_ble_eq_true rfl) (c1  ) ?_
  show Bod _ _ _ _ [] _ _ _
  exact Bod.retV dc_110_101 rt_110
theorem cRtg1_1 {d : Nat} {S : cS} {x : Nat} {y : Nat} {z : Nat} {tp : Nat} {S1 : cS} {S2 : cS} {a : Nat} {S3 : cS} (mx : x < 2 ^ 20) (my : y < 2 ^ 20) (mz : z < 2 ^ 20) (htp : sI S 4404 = nI tp) (mtp : tp < 2 ^ 20) (k1 : sI S 4403 = nI 1) (c1 : Ans (d + 8) 83 [.ref 23, .int (nI tp), .int (nI x)] S none S1) (ma : a < 2 ^ 20) (c2 : Ans (d + 8) 111 [.ref 43] S1 (some (.int (nI a))) S2) (c3 : Ans (d + 8) 94 [.ref 32, .int (nI a)] S2 none S3) : Bod (d + 8) 110 0 [(0, .ref 43), (1, .int (nI x)), (2, .int (nI y)), (3, .int (nI z))] [] S none (S3) := by
  refine Bod.go dc_110_0 rfl ?_
  refine Bod.get dc_110_1 fr_110_23 (mk_43 _) rfl ?_
  refine Bod.get dc_110_4 fr_110_195 (mk_44 _) rfl ?_
  refine Bod.eqI (nI tp) (by first | assumption | rfl | exact congrArg nI (by omega) | (simp (disch := omega) only [rI, rIe, rA, rIA, rLA, rJA, rVI, rQI, rVA, rQA, upd_at,  rAI, rLI, rJI, nI_add, pk_sub, kc_0, kc_1, kc_2, kc_3, kc_4, kc_5, reduceIte, Nat.reduceEqDiff, Nat.add_zero, rI_hold, rI_hold, rL_hold, htp]; done)) ?_
  refine Bod.ist dc_110_7 (by rw [ml_110]; exact Nat.le_of_ble_eq_true rfl) ?_
  refine Bod.go dc_110_9 rfl ?_
  refine Bod.get dc_110_10 fr_110_23 (mk_43 _) rfl ?_
  refine Bod.get dc_110_13 fr_110_173 (mk_44 _) rfl ?_
  refine Bod.eqI (nI 1) (by first | assumption | rfl | exact congrArg nI (by omega) | (simp (disch := omega) only [rI, rIe, rA, rIA, rLA, rJA, rVI, rQI, rVA, rQA, upd_at,  rAI, rLI, rJI, nI_add, pk_sub, kc_0, kc_1, kc_2, kc_3, kc_4, kc_5, reduceIte, Nat.reduceEqDiff, Nat.add_zero, rI_hold, rI_hold, rL_hold, htp, k1]; done)) ?_
  refine Bod.sw (t := 44) dc_110_16 rfl rfl (by decide +kernel) ?_
  refine Bod.go dc_110_44 rfl ?_
  refine Bod.get dc_110_45 fr_110_15 (mk_43 _) rfl ?_
  refine Bod.go dc_110_48 rfl ?_
  refine Bod.go dc_110_50 rfl ?_
  refine Bod.virt (r := []) dc_110_51 kr_110_201 ⟨Or.inr rfl, ow_83, cl_7⟩ (by rw [np_83]; rfl) (by rw [np_83]; rfl) (ob_of (mk_23 _)) (Nat.le_of_ble_eq_true rfl) (c1  ) ?_
  show Bod _ _ _ _ [] _ _ _
  refine Bod.go dc_110_54 rfl ?_
  refine Bod.get dc_110_55 fr_110_19 (mk_43 _) rfl ?_
  refine Bod.go dc_110_58 rfl ?_
  refine Bod.virt (r := [_]) dc_110_59 kr_110_188 ⟨Or.inl rfl, ow_111, cl_10⟩ (by rw [np_111]; rfl) (by rw [np_111]; rfl) (ob_of (mk_43 _)) (Nat.le_of_ble_eq_true rfl) (c2  ) ?_
  show Bod _ _ _ _ [_, _] _ _ _
  refine Bod.virt (r := []) dc_110_62 kr_110_162 ⟨Or.inr rfl, ow_94, cl_8⟩ (by rw [np_94]; rfl) (by rw [np_94]; rfl) (ob_of (mk_32 _)) (Nat.le_of_ble_eq_true rfl) (c3  ) ?_
  show Bod _ _ _ _ [] _ _ _
  refine Bod.go dc_110_65 rfl ?_
  exact Bod.retV dc_110_101 rt_110
theorem cRtg2_1 {d : Nat} {S : cS} {x : Nat} {y : Nat} {z : Nat} {tp : Nat} {S1 : cS} (mx : x < 2 ^ 20) (my : y < 2 ^ 20) (mz : z < 2 ^ 20) (htp : sI S 4404 = nI tp) (mtp : tp < 2 ^ 20) (k1 : sI S 4403 = nI 2) (c1 : Ans (d + 8) 83 [.ref 23, .int (nI tp), .int (nI y)] S none S1) : Bod (d + 8) 110 0 [(0, .ref 43), (1, .int (nI x)), (2, .int (nI y)), (3, .int (nI z))] [] S none (S1) := by
  refine Bod.go dc_110_0 rfl ?_
  refine Bod.get dc_110_1 fr_110_23 (mk_43 _) rfl ?_
  refine Bod.get dc_110_4 fr_110_195 (mk_44 _) rfl ?_
  refine Bod.eqI (nI tp) (by first | assumption | rfl | exact congrArg nI (by omega) | (simp (disch := omega) only [rI, rIe, rA, rIA, rLA, rJA, rVI, rQI, rVA, rQA, upd_at,  rAI, rLI, rJI, nI_add, pk_sub, kc_0, kc_1, kc_2, kc_3, kc_4, kc_5, reduceIte, Nat.reduceEqDiff, Nat.add_zero, rI_hold, rI_hold, rL_hold, htp]; done)) ?_
  refine Bod.ist dc_110_7 (by rw [ml_110]; exact Nat.le_of_ble_eq_true rfl) ?_
  refine Bod.go dc_110_9 rfl ?_
  refine Bod.get dc_110_10 fr_110_23 (mk_43 _) rfl ?_
  refine Bod.get dc_110_13 fr_110_173 (mk_44 _) rfl ?_
  refine Bod.eqI (nI 2) (by first | assumption | rfl | exact congrArg nI (by omega) | (simp (disch := omega) only [rI, rIe, rA, rIA, rLA, rJA, rVI, rQI, rVA, rQA, upd_at,  rAI, rLI, rJI, nI_add, pk_sub, kc_0, kc_1, kc_2, kc_3, kc_4, kc_5, reduceIte, Nat.reduceEqDiff, Nat.add_zero, rI_hold, rI_hold, rL_hold, htp, k1]; done)) ?_
  refine Bod.sw (t := 68) dc_110_16 rfl rfl (by decide +kernel) ?_
  refine Bod.go dc_110_68 rfl ?_
  refine Bod.get dc_110_69 fr_110_15 (mk_43 _) rfl ?_
  refine Bod.go dc_110_72 rfl ?_
  refine Bod.go dc_110_74 rfl ?_
  refine Bod.virt (r := []) dc_110_75 kr_110_201 ⟨Or.inr rfl, ow_83, cl_7⟩ (by rw [np_83]; rfl) (by rw [np_83]; rfl) (ob_of (mk_23 _)) (Nat.le_of_ble_eq_true rfl) (c1  ) ?_
  show Bod _ _ _ _ [] _ _ _
  refine Bod.go dc_110_78 rfl ?_
  exact Bod.retV dc_110_101 rt_110
theorem cRtg3_1 {d : Nat} {S : cS} {x : Nat} {y : Nat} {z : Nat} {tp : Nat} {S1 : cS} (mx : x < 2 ^ 20) (my : y < 2 ^ 20) (mz : z < 2 ^ 20) (htp : sI S 4404 = nI tp) (mtp : tp < 2 ^ 20) (k1 : sI S 4403 = nI 3) (c1 : Ans (d + 8) 83 [.ref 23, .int (nI tp), .int (nI z)] S none S1) : Bod (d + 8) 110 0 [(0, .ref 43), (1, .int (nI x)), (2, .int (nI y)), (3, .int (nI z))] [] S none (S1) := by
  refine Bod.go dc_110_0 rfl ?_
  refine Bod.get dc_110_1 fr_110_23 (mk_43 _) rfl ?_
  refine Bod.get dc_110_4 fr_110_195 (mk_44 _) rfl ?_
  refine Bod.eqI (nI tp) (by first | assumption | rfl | exact congrArg nI (by omega) | (simp (disch := omega) only [rI, rIe, rA, rIA, rLA, rJA, rVI, rQI, rVA, rQA, upd_at,  rAI, rLI, rJI, nI_add, pk_sub, kc_0, kc_1, kc_2, kc_3, kc_4, kc_5, reduceIte, Nat.reduceEqDiff, Nat.add_zero, rI_hold, rI_hold, rL_hold, htp]; done)) ?_
  refine Bod.ist dc_110_7 (by rw [ml_110]; exact Nat.le_of_ble_eq_true rfl) ?_
  refine Bod.go dc_110_9 rfl ?_
  refine Bod.get dc_110_10 fr_110_23 (mk_43 _) rfl ?_
  refine Bod.get dc_110_13 fr_110_173 (mk_44 _) rfl ?_
  refine Bod.eqI (nI 3) (by first | assumption | rfl | exact congrArg nI (by omega) | (simp (disch := omega) only [rI, rIe, rA, rIA, rLA, rJA, rVI, rQI, rVA, rQA, upd_at,  rAI, rLI, rJI, nI_add, pk_sub, kc_0, kc_1, kc_2, kc_3, kc_4, kc_5, reduceIte, Nat.reduceEqDiff, Nat.add_zero, rI_hold, rI_hold, rL_hold, htp, k1]; done)) ?_
  refine Bod.sw (t := 81) dc_110_16 rfl rfl (by decide +kernel) ?_
  refine Bod.go dc_110_81 rfl ?_
  refine Bod.get dc_110_82 fr_110_15 (mk_43 _) rfl ?_
  refine Bod.go dc_110_85 rfl ?_
  refine Bod.go dc_110_87 rfl ?_
  refine Bod.virt (r := []) dc_110_88 kr_110_201 ⟨Or.inr rfl, ow_83, cl_7⟩ (by rw [np_83]; rfl) (by rw [np_83]; rfl) (ob_of (mk_23 _)) (Nat.le_of_ble_eq_true rfl) (c1  ) ?_
  show Bod _ _ _ _ [] _ _ _
  refine Bod.go dc_110_91 rfl ?_
  exact Bod.retV dc_110_101 rt_110
theorem cLvT_1 {d : Nat} {S : cS} {f4309 : Nat} {S1 : cS} {f4308 : Nat} {f4311 : Nat} {f4310 : Nat} {S2 : cS} {a : Nat} (hf4309 : sI S 4309 = nI f4309) (mf4309 : f4309 < 2 ^ 20) (c1 : Ans (d + 8) 40 [.ref 31] S none S1) (hf4308 : sI S1 4308 = nI f4308) (mf4308 : f4308 < 2 ^ 20) (hf4311 : sI S1 4311 = nI f4311) (mf4311 : f4311 < 2 ^ 20) (b1 : f4308 ≤ f4311) (hf4310 : sI S1 4310 = nI f4310) (mf4310 : f4310 < 2 ^ 20) (ma : a < 2 ^ 20) (c2 : Ans (d + 8) 54 [.ref 23, .int (nI 4), .int (nI f4310)] S1 (some (.int (nI a))) S2) : Bod (d + 8) 114 0 [(0, .ref 43), (1, .int (nI 1))] [] S none (wI 4310 (nI a) S2) := by
  refine Bod.go dc_114_0 rfl ?_
  refine Bod.get dc_114_1 fr_114_49 (mk_43 _) rfl ?_
  refine Bod.eqI (nI f4309) (by first | assumption | rfl | exact congrArg nI (by omega) | (simp (disch := omega) only [rI, rIe, rA, rIA, rLA, rJA, rVI, rQI, rVA, rQA, upd_at,  rAI, rLI, rJI, nI_add, pk_sub, kc_0, kc_1, kc_2, kc_3, kc_4, kc_5, reduceIte, Nat.reduceEqDiff, Nat.add_zero, rI_hold, rI_hold, rL_hold, hf4309]; done)) ?_
  refine Bod.go dc_114_4 rfl ?_
  refine Bod.icT dc_114_5 rfl (mr_ne (by omega)) ?_
  refine Bod.go dc_114_15 rfl ?_
  refine Bod.get dc_114_16 fr_114_9 (mk_43 _) rfl ?_
  refine Bod.virt (r := []) dc_114_19 kr_114_192 ⟨Or.inr rfl, ow_40, cl_3⟩ (by rw [np_40]; rfl) (by rw [np_40]; rfl) (ob_of (mk_31 _)) (Nat.le_of_ble_eq_true rfl) (c1  ) ?_
  show Bod _ _ _ _ [] _ _ _
  refine Bod.go dc_114_22 rfl ?_
  refine Bod.get dc_114_23 fr_114_46 (mk_43 _) rfl ?_
  refine Bod.eqI (nI f4308) (by first | (simp (disch := omega) only [rI, rIe, rA, rIA, rLA, rJA, rVI, rQI, rVA, rQA, upd_at,  rAI, rLI, rJI, nI_add, pk_sub, kc_0, kc_1, kc_2, kc_3, kc_4, kc_5, reduceIte, Nat.reduceEqDiff, Nat.add_zero, rI_hold, rI_hold, rL_hold, hf4309, hf4308]; done) | (simp (disch := omega) only [rI, rIe, rA, rIA, rLA, rJA, rVI, rQI, rVA, rQA, upd_at,  rAI, rLI, rJI, nI_add, pk_sub, kc_0, kc_1, kc_2, kc_3, kc_4, kc_5, reduceIte, Nat.reduceEqDiff, Nat.add_zero, rI_hold, rI_hold, rL_hold, hf4309, hf4308]; exact congrArg nI (by omega))) ?_
  refine Bod.go dc_114_26 rfl ?_
  refine Bod.get dc_114_27 fr_114_214 (mk_43 _) rfl ?_
  refine Bod.eqI (nI f4311) (by first | (simp (disch := omega) only [rI, rIe, rA, rIA, rLA, rJA, rVI, rQI, rVA, rQA, upd_at,  rAI, rLI, rJI, nI_add, pk_sub, kc_0, kc_1, kc_2, kc_3, kc_4, kc_5, reduceIte, Nat.reduceEqDiff, Nat.add_zero, rI_hold, rI_hold, rL_hold, hf4309, hf4308, hf4311]; done) | (simp (disch := omega) only [rI, rIe, rA, rIA, rLA, rJA, rVI, rQI, rVA, rQA, upd_at,  rAI, rLI, rJI, nI_add, pk_sub, kc_0, kc_1, kc_2, kc_3, kc_4, kc_5, reduceIte, Nat.reduceEqDiff, Nat.add_zero, rI_hold, rI_hold, rL_hold, hf4309, hf4308, hf4311]; exact congrArg nI (by omega))) ?_
  refine Bod.icT dc_114_30 rfl (k2_le_T f4308 f4311 rfl rfl (by omega) (by omega)) ?_
  refine Bod.go dc_114_52 rfl ?_
  refine Bod.ifF dc_114_53 rfl (k1_eq_F (k_ne 1 0 rfl rfl (by omega) (by omega) (by omega))) ?_
  refine Bod.go dc_114_56 rfl ?_
  refine Bod.go dc_114_57 rfl ?_
  refine Bod.get dc_114_58 fr_114_15 (mk_43 _) rfl ?_
  refine Bod.ic 4 (by decide) dc_114_61 ?_
  refine Bod.go dc_114_62 rfl ?_
  refine Bod.get dc_114_63 fr_114_217 (mk_43 _) rfl ?_
  refine Bod.eqI (nI f4310) (by first | (simp (disch := omega) only [rI, rIe, rA, rIA, rLA, rJA, rVI, rQI, rVA, rQA, upd_at,  rAI, rLI, rJI, nI_add, pk_sub, kc_0, kc_1, kc_2, kc_3, kc_4, kc_5, reduceIte, Nat.reduceEqDiff, Nat.add_zero, rI_hold, rI_hold, rL_hold, hf4309, hf4308, hf4311, hf4310]; done) | (simp (disch := omega) only [rI, rIe, rA, rIA, rLA, rJA, rVI, rQI, rVA, rQA, upd_at,  rAI, rLI, rJI, nI_add, pk_sub, kc_0, kc_1, kc_2, kc_3, kc_4, kc_5, reduceIte, Nat.reduceEqDiff, Nat.add_zero, rI_hold, rI_hold, rL_hold, hf4309, hf4308, hf4311, hf4310]; exact congrArg nI (by omega))) ?_
  refine Bod.virt (r := [_]) dc_114_66 kr_114_116 ⟨Or.inr rfl, ow_54, cl_7⟩ (by rw [np_54]; rfl) (by rw [np_54]; rfl) (ob_of (mk_23 _)) (Nat.le_of_ble_eq_true rfl) (c2  ) ?_
  show Bod _ _ _ _ [_, _] _ _ _
  refine Bod.put dc_114_69 fr_114_217 (mk_43 _) (Nat.le_of_ble_eq_true rfl) pf_10_10 (st_4310 _ _) (mu_I _ _ _) ?_
  refine Bod.go dc_114_72 rfl ?_
  exact Bod.retV dc_114_88 rt_114
theorem cLvT_2 {d : Nat} {S : cS} {f4309 : Nat} {S1 : cS} {f4308 : Nat} {f4311 : Nat} {S2 : cS} {a : Nat} {f4310 : Nat} {S3 : cS} {a1 : Nat} (hf4309 : sI S 4309 = nI f4309) (mf4309 : f4309 < 2 ^ 20) (c1 : Ans (d + 8) 40 [.ref 31] S none S1) (hf4308 : sI S1 4308 = nI f4308) (mf4308 : f4308 < 2 ^ 20) (hf4311 : sI S1 4311 = nI f4311) (mf4311 : f4311 < 2 ^ 20) (b1 : f4311 < f4308) (b2 : f4311 ≤ f4308) (ma : a < 2 ^ 20) (c2 : Ans (d + 8) 54 [.ref 23, .int (nI 13), .int (nI (f4308 - f4311))] S1 (some (.int (nI a))) S2) (hf4310 : sI S2 4310 = nI f4310) (mf4310 : f4310 < 2 ^ 20) (ma1 : a1 < 2 ^ 20) (c3 : Ans (d + 8) 54 [.ref 23, .int (nI 4), .int (nI f4310)] S2 (some (.int (nI a1))) S3) : Bod (d + 8) 114 0 [(0, .ref 43), (1, .int (nI 1))] [] S none (wI 4310 (nI a1) S3) := by
  refine Bod.go dc_114_0 rfl ?_
  refine Bod.get dc_114_1 fr_114_49 (mk_43 _) rfl ?_
  refine Bod.eqI (nI f4309) (by first | assumption | rfl | exact congrArg nI (by omega) | (simp (disch := omega) only [rI, rIe, rA, rIA, rLA, rJA, rVI, rQI, rVA, rQA, upd_at,  rAI, rLI, rJI, nI_add, pk_sub, kc_0, kc_1, kc_2, kc_3, kc_4, kc_5, reduceIte, Nat.reduceEqDiff, Nat.add_zero, rI_hold, rI_hold, rL_hold, hf4309]; done)) ?_
  refine Bod.go dc_114_4 rfl ?_
  refine Bod.icT dc_114_5 rfl (mr_ne (by omega)) ?_
  refine Bod.go dc_114_15 rfl ?_
  refine Bod.get dc_114_16 fr_114_9 (mk_43 _) rfl ?_
  refine Bod.virt (r := []) dc_114_19 kr_114_192 ⟨Or.inr rfl, ow_40, cl_3⟩ (by rw [np_40]; rfl) (by rw [np_40]; rfl) (ob_of (mk_31 _)) (Nat.le_of_ble_eq_true rfl) (c1  ) ?_
  show Bod _ _ _ _ [] _ _ _
  refine Bod.go dc_114_22 rfl ?_
  refine Bod.get dc_114_23 fr_114_46 (mk_43 _) rfl ?_
  refine Bod.eqI (nI f4308) (by first | (simp (disch := omega) only [rI, rIe, rA, rIA, rLA, rJA, rVI, rQI, rVA, rQA, upd_at,  rAI, rLI, rJI, nI_add, pk_sub, kc_0, kc_1, kc_2, kc_3, kc_4, kc_5, reduceIte, Nat.reduceEqDiff, Nat.add_zero, rI_hold, rI_hold, rL_hold, hf4309, hf4308]; done) | (simp (disch := omega) only [rI, rIe, rA, rIA, rLA, rJA, rVI, rQI, rVA, rQA, upd_at,  rAI, rLI, rJI, nI_add, pk_sub, kc_0, kc_1, kc_2, kc_3, kc_4, kc_5, reduceIte, Nat.reduceEqDiff, Nat.add_zero, rI_hold, rI_hold, rL_hold, hf4309, hf4308]; exact congrArg nI (by omega))) ?_
  refine Bod.go dc_114_26 rfl ?_
  refine Bod.get dc_114_27 fr_114_214 (mk_43 _) rfl ?_
  refine Bod.eqI (nI f4311) (by first | (simp (disch := omega) only [rI, rIe, rA, rIA, rLA, rJA, rVI, rQI, rVA, rQA, upd_at,  rAI, rLI, rJI, nI_add, pk_sub, kc_0, kc_1, kc_2, kc_3, kc_4, kc_5, reduceIte, Nat.reduceEqDiff, Nat.add_zero, rI_hold, rI_hold, rL_hold, hf4309, hf4308, hf4311]; done) | (simp (disch := omega) only [rI, rIe, rA, rIA, rLA, rJA, rVI, rQI, rVA, rQA, upd_at,  rAI, rLI, rJI, nI_add, pk_sub, kc_0, kc_1, kc_2, kc_3, kc_4, kc_5, reduceIte, Nat.reduceEqDiff, Nat.add_zero, rI_hold, rI_hold, rL_hold, hf4309, hf4308, hf4311]; exact congrArg nI (by omega))) ?_
  refine Bod.icF dc_114_30 rfl (k2_le_F f4308 f4311 rfl rfl (by omega) (by omega)) ?_
  refine Bod.go dc_114_33 rfl ?_
  refine Bod.get dc_114_34 fr_114_15 (mk_43 _) rfl ?_
  refine Bod.bip 13 (by decide) dc_114_37 ?_
  refine Bod.go dc_114_39 rfl ?_
  refine Bod.get dc_114_40 fr_114_46 (mk_43 _) rfl ?_
  refine Bod.eqI (nI f4308) (by first | (simp (disch := omega) only [rI, rIe, rA, rIA, rLA, rJA, rVI, rQI, rVA, rQA, upd_at,  rAI, rLI, rJI, nI_add, pk_sub, kc_0, kc_1, kc_2, kc_3, kc_4, kc_5, reduceIte, Nat.reduceEqDiff, Nat.add_zero, rI_hold, rI_hold, rL_hold, hf4309, hf4308, hf4311]; done) | (simp (disch := omega) only [rI, rIe, rA, rIA, rLA, rJA, rVI, rQI, rVA, rQA, upd_at,  rAI, rLI, rJI, nI_add, pk_sub, kc_0, kc_1, kc_2, kc_3, kc_4, kc_5, reduceIte, Nat.reduceEqDiff, Nat.add_zero, rI_hold, rI_hold, rL_hold, hf4309, hf4308, hf4311]; exact congrArg nI (by omega))) ?_
  refine Bod.go dc_114_43 rfl ?_
  refine Bod.get dc_114_44 fr_114_214 (mk_43 _) rfl ?_
  refine Bod.eqI (nI f4311) (by first | (simp (disch := omega) only [rI, rIe, rA, rIA, rLA, rJA, rVI, rQI, rVA, rQA, upd_at,  rAI, rLI, rJI, nI_add, pk_sub, kc_0, kc_1, kc_2, kc_3, kc_4, kc_5, reduceIte, Nat.reduceEqDiff, Nat.add_zero, rI_hold, rI_hold, rL_hold, hf4309, hf4308, hf4311]; done) | (simp (disch := omega) only [rI, rIe, rA, rIA, rLA, rJA, rVI, rQI, rVA, rQA, upd_at,  rAI, rLI, rJI, nI_add, pk_sub, kc_0, kc_1, kc_2, kc_3, kc_4, kc_5, reduceIte, Nat.reduceEqDiff, Nat.add_zero, rI_hold, rI_hold, rL_hold, hf4309, hf4308, hf4311]; exact congrArg nI (by omega))) ?_
  refine Bod.subN (f4308 - f4311) (by omega) (by omega) dc_114_47 ?_
  refine Bod.virt (r := []) dc_114_48 kr_114_116 ⟨Or.inr rfl, ow_54, cl_7⟩ (by rw [np_54]; rfl) (by rw [np_54]; rfl) (ob_of (mk_23 _)) (Nat.le_of_ble_eq_true rfl) (c2  ) ?_
  show Bod _ _ _ _ [_] _ _ _
  refine Bod.go dc_114_51 rfl ?_
  refine Bod.go dc_114_52 rfl ?_
  refine Bod.ifF dc_114_53 rfl (k1_eq_F (k_ne 1 0 rfl rfl (by omega) (by omega) (by omega))) ?_
  refine Bod.go dc_114_56 rfl ?_
  refine Bod.go dc_114_57 rfl ?_
  refine Bod.get dc_114_58 fr_114_15 (mk_43 _) rfl ?_
  refine Bod.ic 4 (by decide) dc_114_61 ?_
  refine Bod.go dc_114_62 rfl ?_
  refine Bod.get dc_114_63 fr_114_217 (mk_43 _) rfl ?_
  refine Bod.eqI (nI f4310) (by first | (simp (disch := omega) only [rI, rIe, rA, rIA, rLA, rJA, rVI, rQI, rVA, rQA, upd_at,  rAI, rLI, rJI, nI_add, pk_sub, kc_0, kc_1, kc_2, kc_3, kc_4, kc_5, reduceIte, Nat.reduceEqDiff, Nat.add_zero, rI_hold, rI_hold, rL_hold, hf4309, hf4308, hf4311, hf4310]; done) | (simp (disch := omega) only [rI, rIe, rA, rIA, rLA, rJA, rVI, rQI, rVA, rQA, upd_at,  rAI, rLI, rJI, nI_add, pk_sub, kc_0, kc_1, kc_2, kc_3, kc_4, kc_5, reduceIte, Nat.reduceEqDiff, Nat.add_zero, rI_hold, rI_hold, rL_hold, hf4309, hf4308, hf4311, hf4310]; exact congrArg nI (by omega))) ?_
  refine Bod.virt (r := [_]) dc_114_66 kr_114_116 ⟨Or.inr rfl, ow_54, cl_7⟩ (by rw [np_54]; rfl) (by rw [np_54]; rfl) (ob_of (mk_23 _)) (Nat.le_of_ble_eq_true rfl) (c3  ) ?_
  show Bod _ _ _ _ [_, _] _ _ _
  refine Bod.put dc_114_69 fr_114_217 (mk_43 _) (Nat.le_of_ble_eq_true rfl) pf_10_10 (st_4310 _ _) (mu_I _ _ _) ?_
  refine Bod.go dc_114_72 rfl ?_
  exact Bod.retV dc_114_88 rt_114
theorem cLvT_3 {d : Nat} {S : cS} {S1 : cS} {S2 : cS} {f4308 : Nat} {f4311 : Nat} {f4310 : Nat} {S3 : cS} {a : Nat} (n1 : sI S 4309 = Int32.ofInt (-1)) (c1 : Ans (d + 8) 44 [.ref 31] S none S1) (c2 : Ans (d + 8) 40 [.ref 31] S1 none S2) (hf4308 : sI S2 4308 = nI f4308) (mf4308 : f4308 < 2 ^ 20) (hf4311 : sI S2 4311 = nI f4311) (mf4311 : f4311 < 2 ^ 20) (b2 : f4308 ≤ f4311) (hf4310 : sI S2 4310 = nI f4310) (mf4310 : f4310 < 2 ^ 20) (ma : a < 2 ^ 20) (c3 : Ans (d + 8) 54 [.ref 23, .int (nI 4), .int (nI f4310)] S2 (some (.int (nI a))) S3) : Bod (d + 8) 114 0 [(0, .ref 43), (1, .int (nI 1))] [] S none (wI 4310 (nI a) S3) := by
  refine Bod.go dc_114_0 rfl ?_
  refine Bod.get dc_114_1 fr_114_49 (mk_43 _) rfl ?_
  refine Bod.eqI (Int32.ofInt (-1)) (by first | assumption | rfl | exact congrArg nI (by omega) | (simp (disch := omega) only [rI, rIe, rA, rIA, rLA, rJA, rVI, rQI, rVA, rQA, upd_at,  rAI, rLI, rJI, nI_add, pk_sub, kc_0, kc_1, kc_2, kc_3, kc_4, kc_5, reduceIte, Nat.reduceEqDiff, Nat.add_zero, rI_hold, rI_hold, rL_hold, n1]; done)) ?_
  refine Bod.go dc_114_4 rfl ?_
  refine Bod.icF dc_114_5 rfl (by decide) ?_
  refine Bod.go dc_114_8 rfl ?_
  refine Bod.get dc_114_9 fr_114_9 (mk_43 _) rfl ?_
  refine Bod.virt (r := []) dc_114_12 kr_114_76 ⟨Or.inr rfl, ow_44, cl_3⟩ (by rw [np_44]; rfl) (by rw [np_44]; rfl) (ob_of (mk_31 _)) (Nat.le_of_ble_eq_true rfl) (c1  ) ?_
  show Bod _ _ _ _ [] _ _ _
  refine Bod.go dc_114_15 rfl ?_
  refine Bod.get dc_114_16 fr_114_9 (mk_43 _) rfl ?_
  refine Bod.virt (r := []) dc_114_19 kr_114_192 ⟨Or.inr rfl, ow_40, cl_3⟩ (by rw [np_40]; rfl) (by rw [np_40]; rfl) (ob_of (mk_31 _)) (Nat.le_of_ble_eq_true rfl) (c2  ) ?_
  show Bod _ _ _ _ [] _ _ _
  refine Bod.go dc_114_22 rfl ?_
  refine Bod.get dc_114_23 fr_114_46 (mk_43 _) rfl ?_
  refine Bod.eqI (nI f4308) (by first | (simp (disch := omega) only [rI, rIe, rA, rIA, rLA, rJA, rVI, rQI, rVA, rQA, upd_at,  rAI, rLI, rJI, nI_add, pk_sub, kc_0, kc_1, kc_2, kc_3, kc_4, kc_5, reduceIte, Nat.reduceEqDiff, Nat.add_zero, rI_hold, rI_hold, rL_hold, n1, hf4308]; done) | (simp (disch := omega) only [rI, rIe, rA, rIA, rLA, rJA, rVI, rQI, rVA, rQA, upd_at,  rAI, rLI, rJI, nI_add, pk_sub, kc_0, kc_1, kc_2, kc_3, kc_4, kc_5, reduceIte, Nat.reduceEqDiff, Nat.add_zero, rI_hold, rI_hold, rL_hold, n1, hf4308]; exact congrArg nI (by omega))) ?_
  refine Bod.go dc_114_26 rfl ?_
  refine Bod.get dc_114_27 fr_114_214 (mk_43 _) rfl ?_
  refine Bod.eqI (nI f4311) (by first | (simp (disch := omega) only [rI, rIe, rA, rIA, rLA, rJA, rVI, rQI, rVA, rQA, upd_at,  rAI, rLI, rJI, nI_add, pk_sub, kc_0, kc_1, kc_2, kc_3, kc_4, kc_5, reduceIte, Nat.reduceEqDiff, Nat.add_zero, rI_hold, rI_hold, rL_hold, n1, hf4308, hf4311]; done) | (simp (disch := omega) only [rI, rIe, rA, rIA, rLA, rJA, rVI, rQI, rVA, rQA, upd_at,  rAI, rLI, rJI, nI_add, pk_sub, kc_0, kc_1, kc_2, kc_3, kc_4, kc_5, reduceIte, Nat.reduceEqDiff, Nat.add_zero, rI_hold, rI_hold, rL_hold, n1, hf4308, hf4311]; exact congrArg nI (by omega))) ?_
  refine Bod.icT dc_114_30 rfl (k2_le_T f4308 f4311 rfl rfl (by omega) (by omega)) ?_
  refine Bod.go dc_114_52 rfl ?_
  refine Bod.ifF dc_114_53 rfl (k1_eq_F (k_ne 1 0 rfl rfl (by omega) (by omega) (by omega))) ?_
  refine Bod.go dc_114_56 rfl ?_
  refine Bod.go dc_114_57 rfl ?_
  refine Bod.get dc_114_58 fr_114_15 (mk_43 _) rfl ?_
  refine Bod.ic 4 (by decide) dc_114_61 ?_
  refine Bod.go dc_114_62 rfl ?_
  refine Bod.get dc_114_63 fr_114_217 (mk_43 _) rfl ?_
  refine Bod.eqI (nI f4310) (by first | (simp (disch := omega) only [rI, rIe, rA, rIA, rLA, rJA, rVI, rQI, rVA, rQA, upd_at,  rAI, rLI, rJI, nI_add, pk_sub, kc_0, kc_1, kc_2, kc_3, kc_4, kc_5, reduceIte, Nat.reduceEqDiff, Nat.add_zero, rI_hold, rI_hold, rL_hold, n1, hf4308, hf4311, hf4310]; done) | (simp (disch := omega) only [rI, rIe, rA, rIA, rLA, rJA, rVI, rQI, rVA, rQA, upd_at,  rAI, rLI, rJI, nI_add, pk_sub, kc_0, kc_1, kc_2, kc_3, kc_4, kc_5, reduceIte, Nat.reduceEqDiff, Nat.add_zero, rI_hold, rI_hold, rL_hold, n1, hf4308, hf4311, hf4310]; exact congrArg nI (by omega))) ?_
  refine Bod.virt (r := [_]) dc_114_66 kr_114_116 ⟨Or.inr rfl, ow_54, cl_7⟩ (by rw [np_54]; rfl) (by rw [np_54]; rfl) (ob_of (mk_23 _)) (Nat.le_of_ble_eq_true rfl) (c3  ) ?_
  show Bod _ _ _ _ [_, _] _ _ _
  refine Bod.put dc_114_69 fr_114_217 (mk_43 _) (Nat.le_of_ble_eq_true rfl) pf_10_10 (st_4310 _ _) (mu_I _ _ _) ?_
  refine Bod.go dc_114_72 rfl ?_
  exact Bod.retV dc_114_88 rt_114
theorem cLvT_4 {d : Nat} {S : cS} {S1 : cS} {S2 : cS} {f4308 : Nat} {f4311 : Nat} {S3 : cS} {a : Nat} {f4310 : Nat} {S4 : cS} {a1 : Nat} (n1 : sI S 4309 = Int32.ofInt (-1)) (c1 : Ans (d + 8) 44 [.ref 31] S none S1) (c2 : Ans (d + 8) 40 [.ref 31] S1 none S2) (hf4308 : sI S2 4308 = nI f4308) (mf4308 : f4308 < 2 ^ 20) (hf4311 : sI S2 4311 = nI f4311) (mf4311 : f4311 < 2 ^ 20) (b2 : f4311 < f4308) (b3 : f4311 ≤ f4308) (ma : a < 2 ^ 20) (c3 : Ans (d + 8) 54 [.ref 23, .int (nI 13), .int (nI (f4308 - f4311))] S2 (some (.int (nI a))) S3) (hf4310 : sI S3 4310 = nI f4310) (mf4310 : f4310 < 2 ^ 20) (ma1 : a1 < 2 ^ 20) (c4 : Ans (d + 8) 54 [.ref 23, .int (nI 4), .int (nI f4310)] S3 (some (.int (nI a1))) S4) : Bod (d + 8) 114 0 [(0, .ref 43), (1, .int (nI 1))] [] S none (wI 4310 (nI a1) S4) := by
  refine Bod.go dc_114_0 rfl ?_
  refine Bod.get dc_114_1 fr_114_49 (mk_43 _) rfl ?_
  refine Bod.eqI (Int32.ofInt (-1)) (by first | assumption | rfl | exact congrArg nI (by omega) | (simp (disch := omega) only [rI, rIe, rA, rIA, rLA, rJA, rVI, rQI, rVA, rQA, upd_at,  rAI, rLI, rJI, nI_add, pk_sub, kc_0, kc_1, kc_2, kc_3, kc_4, kc_5, reduceIte, Nat.reduceEqDiff, Nat.add_zero, rI_hold, rI_hold, rL_hold, n1]; done)) ?_
  refine Bod.go dc_114_4 rfl ?_
  refine Bod.icF dc_114_5 rfl (by decide) ?_
  refine Bod.go dc_114_8 rfl ?_
  refine Bod.get dc_114_9 fr_114_9 (mk_43 _) rfl ?_
  refine Bod.virt (r := []) dc_114_12 kr_114_76 ⟨Or.inr rfl, ow_44, cl_3⟩ (by rw [np_44]; rfl) (by rw [np_44]; rfl) (ob_of (mk_31 _)) (Nat.le_of_ble_eq_true rfl) (c1  ) ?_
  show Bod _ _ _ _ [] _ _ _
  refine Bod.go dc_114_15 rfl ?_
  refine Bod.get dc_114_16 fr_114_9 (mk_43 _) rfl ?_
  refine Bod.virt (r := []) dc_114_19 kr_114_192 ⟨Or.inr rfl, ow_40, cl_3⟩ (by rw [np_40]; rfl) (by rw [np_40]; rfl) (ob_of (mk_31 _)) (Nat.le_of_ble_eq_true rfl) (c2  ) ?_
  show Bod _ _ _ _ [] _ _ _
  refine Bod.go dc_114_22 rfl ?_
  refine Bod.get dc_114_23 fr_114_46 (mk_43 _) rfl ?_
  refine Bod.eqI (nI f4308) (by first | (simp (disch := omega) only [rI, rIe, rA, rIA, rLA, rJA, rVI, rQI, rVA, rQA, upd_at,  rAI, rLI, rJI, nI_add, pk_sub, kc_0, kc_1, kc_2, kc_3, kc_4, kc_5, reduceIte, Nat.reduceEqDiff, Nat.add_zero, rI_hold, rI_hold, rL_hold, n1, hf4308]; done) | (simp (disch := omega) only [rI, rIe, rA, rIA, rLA, rJA, rVI, rQI, rVA, rQA, upd_at,  rAI, rLI, rJI, nI_add, pk_sub, kc_0, kc_1, kc_2, kc_3, kc_4, kc_5, reduceIte, Nat.reduceEqDiff, Nat.add_zero, rI_hold, rI_hold, rL_hold, n1, hf4308]; exact congrArg nI (by omega))) ?_
  refine Bod.go dc_114_26 rfl ?_
  refine Bod.get dc_114_27 fr_114_214 (mk_43 _) rfl ?_
  refine Bod.eqI (nI f4311) (by first | (simp (disch := omega) only [rI, rIe, rA, rIA, rLA, rJA, rVI, rQI, rVA, rQA, upd_at,  rAI, rLI, rJI, nI_add, pk_sub, kc_0, kc_1, kc_2, kc_3, kc_4, kc_5, reduceIte, Nat.reduceEqDiff, Nat.add_zero, rI_hold, rI_hold, rL_hold, n1, hf4308, hf4311]; done) | (simp (disch := omega) only [rI, rIe, rA, rIA, rLA, rJA, rVI, rQI, rVA, rQA, upd_at,  rAI, rLI, rJI, nI_add, pk_sub, kc_0, kc_1, kc_2, kc_3, kc_4, kc_5, reduceIte, Nat.reduceEqDiff, Nat.add_zero, rI_hold, rI_hold, rL_hold, n1, hf4308, hf4311]; exact congrArg nI (by omega))) ?_
  refine Bod.icF dc_114_30 rfl (k2_le_F f4308 f4311 rfl rfl (by omega) (by omega)) ?_
  refine Bod.go dc_114_33 rfl ?_
  refine Bod.get dc_114_34 fr_114_15 (mk_43 _) rfl ?_
  refine Bod.bip 13 (by decide) dc_114_37 ?_
  refine Bod.go dc_114_39 rfl ?_
  refine Bod.get dc_114_40 fr_114_46 (mk_43 _) rfl ?_
  refine Bod.eqI (nI f4308) (by first | (simp (disch := omega) only [rI, rIe, rA, rIA, rLA, rJA, rVI, rQI, rVA, rQA, upd_at,  rAI, rLI, rJI, nI_add, pk_sub, kc_0, kc_1, kc_2, kc_3, kc_4, kc_5, reduceIte, Nat.reduceEqDiff, Nat.add_zero, rI_hold, rI_hold, rL_hold, n1, hf4308, hf4311]; done) | (simp (disch := omega) only [rI, rIe, rA, rIA, rLA, rJA, rVI, rQI, rVA, rQA, upd_at,  rAI, rLI, rJI, nI_add, pk_sub, kc_0, kc_1, kc_2, kc_3, kc_4, kc_5, reduceIte, Nat.reduceEqDiff, Nat.add_zero, rI_hold, rI_hold, rL_hold, n1, hf4308, hf4311]; exact congrArg nI (by omega))) ?_
  refine Bod.go dc_114_43 rfl ?_
  refine Bod.get dc_114_44 fr_114_214 (mk_43 _) rfl ?_
  refine Bod.eqI (nI f4311) (by first | (simp (disch := omega) only [rI, rIe, rA, rIA, rLA, rJA, rVI, rQI, rVA, rQA, upd_at,  rAI, rLI, rJI, nI_add, pk_sub, kc_0, kc_1, kc_2, kc_3, kc_4, kc_5, reduceIte, Nat.reduceEqDiff, Nat.add_zero, rI_hold, rI_hold, rL_hold, n1, hf4308, hf4311]; done) | (simp (disch := omega) only [rI, rIe, rA, rIA, rLA, rJA, rVI, rQI, rVA, rQA, upd_at,  rAI, rLI, rJI, nI_add, pk_sub, kc_0, kc_1, kc_2, kc_3, kc_4, kc_5, reduceIte, Nat.reduceEqDiff, Nat.add_zero, rI_hold, rI_hold, rL_hold, n1, hf4308, hf4311]; exact congrArg nI (by omega))) ?_
  refine Bod.subN (f4308 - f4311) (by omega) (by omega) dc_114_47 ?_
  refine Bod.virt (r := []) dc_114_48 kr_114_116 ⟨Or.inr rfl, ow_54, cl_7⟩ (by rw [np_54]; rfl) (by rw [np_54]; rfl) (ob_of (mk_23 _)) (Nat.le_of_ble_eq_true rfl) (c3  ) ?_
  show Bod _ _ _ _ [_] _ _ _
  refine Bod.go dc_114_51 rfl ?_
  refine Bod.go dc_114_52 rfl ?_
  refine Bod.ifF dc_114_53 rfl (k1_eq_F (k_ne 1 0 rfl rfl (by omega) (by omega) (by omega))) ?_
  refine Bod.go dc_114_56 rfl ?_
  refine Bod.go dc_114_57 rfl ?_
  refine Bod.get dc_114_58 fr_114_15 (mk_43 _) rfl ?_
  refine Bod.ic 4 (by decide) dc_114_61 ?_
  refine Bod.go dc_114_62 rfl ?_
  refine Bod.get dc_114_63 fr_114_217 (mk_43 _) rfl ?_
  refine Bod.eqI (nI f4310) (by first | (simp (disch := omega) only [rI, rIe, rA, rIA, rLA, rJA, rVI, rQI, rVA, rQA, upd_at,  rAI, rLI, rJI, nI_add, pk_sub, kc_0, kc_1, kc_2, kc_3, kc_4, kc_5, reduceIte, Nat.reduceEqDiff, Nat.add_zero, rI_hold, rI_hold, rL_hold, n1, hf4308, hf4311, hf4310]; done) | (simp (disch := omega) only [rI, rIe, rA, rIA, rLA, rJA, rVI, rQI, rVA, rQA, upd_at,  rAI, rLI, rJI, nI_add, pk_sub, kc_0, kc_1, kc_2, kc_3, kc_4, kc_5, reduceIte, Nat.reduceEqDiff, Nat.add_zero, rI_hold, rI_hold, rL_hold, n1, hf4308, hf4311, hf4310]; exact congrArg nI (by omega))) ?_
  refine Bod.virt (r := [_]) dc_114_66 kr_114_116 ⟨Or.inr rfl, ow_54, cl_7⟩ (by rw [np_54]; rfl) (by rw [np_54]; rfl) (ob_of (mk_23 _)) (Nat.le_of_ble_eq_true rfl) (c4  ) ?_
  show Bod _ _ _ _ [_, _] _ _ _
  refine Bod.put dc_114_69 fr_114_217 (mk_43 _) (Nat.le_of_ble_eq_true rfl) pf_10_10 (st_4310 _ _) (mu_I _ _ _) ?_
  refine Bod.go dc_114_72 rfl ?_
  exact Bod.retV dc_114_88 rt_114
theorem cLvC_1 {d : Nat} {S : cS} {f4309 : Nat} {S1 : cS} {f4308 : Nat} {f4311 : Nat} {f43091 : Nat} {S2 : cS} {a : Nat} (hf4309 : sI S 4309 = nI f4309) (mf4309 : f4309 < 2 ^ 20) (c1 : Ans (d + 8) 40 [.ref 31] S none S1) (hf4308 : sI S1 4308 = nI f4308) (mf4308 : f4308 < 2 ^ 20) (hf4311 : sI S1 4311 = nI f4311) (mf4311 : f4311 < 2 ^ 20) (b1 : f4308 ≤ f4311) (hf43091 : sI S1 4309 = nI f43091) (mf43091 : f43091 < 2 ^ 20) (ma : a < 2 ^ 20) (c2 : Ans (d + 8) 54 [.ref 23, .int (nI 4), .int (nI f43091)] S1 (some (.int (nI a))) S2) : Bod (d + 8) 114 0 [(0, .ref 43), (1, .int (nI 0))] [] S none (S2) := by
  refine Bod.go dc_114_0 rfl ?_
  refine Bod.get dc_114_1 fr_114_49 (mk_43 _) rfl ?_
  refine Bod.eqI (nI f4309) (by first | assumption | rfl | exact congrArg nI (by omega) | (simp (disch := omega) only [rI, rIe, rA, rIA, rLA, rJA, rVI, rQI, rVA, rQA, upd_at,  rAI, rLI, rJI, nI_add, pk_sub, kc_0, kc_1, kc_2, kc_3, kc_4, kc_5, reduceIte, Nat.reduceEqDiff, Nat.add_zero, rI_hold, rI_hold, rL_hold, hf4309]; done)) ?_
  refine Bod.go dc_114_4 rfl ?_
  refine Bod.icT dc_114_5 rfl (mr_ne (by omega)) ?_
  refine Bod.go dc_114_15 rfl ?_
  refine Bod.get dc_114_16 fr_114_9 (mk_43 _) rfl ?_
  refine Bod.virt (r := []) dc_114_19 kr_114_192 ⟨Or.inr rfl, ow_40, cl_3⟩ (by rw [np_40]; rfl) (by rw [np_40]; rfl) (ob_of (mk_31 _)) (Nat.le_of_ble_eq_true rfl) (c1  ) ?_
  show Bod _ _ _ _ [] _ _ _
  refine Bod.go dc_114_22 rfl ?_
  refine Bod.get dc_114_23 fr_114_46 (mk_43 _) rfl ?_
  refine Bod.eqI (nI f4308) (by first | (simp (disch := omega) only [rI, rIe, rA, rIA, rLA, rJA, rVI, rQI, rVA, rQA, upd_at,  rAI, rLI, rJI, nI_add, pk_sub, kc_0, kc_1, kc_2, kc_3, kc_4, kc_5, reduceIte, Nat.reduceEqDiff, Nat.add_zero, rI_hold, rI_hold, rL_hold, hf4309, hf4308]; done) | (simp (disch := omega) only [rI, rIe, rA, rIA, rLA, rJA, rVI, rQI, rVA, rQA, upd_at,  rAI, rLI, rJI, nI_add, pk_sub, kc_0, kc_1, kc_2, kc_3, kc_4, kc_5, reduceIte, Nat.reduceEqDiff, Nat.add_zero, rI_hold, rI_hold, rL_hold, hf4309, hf4308]; exact congrArg nI (by omega))) ?_
  refine Bod.go dc_114_26 rfl ?_
  refine Bod.get dc_114_27 fr_114_214 (mk_43 _) rfl ?_
  refine Bod.eqI (nI f4311) (by first | (simp (disch := omega) only [rI, rIe, rA, rIA, rLA, rJA, rVI, rQI, rVA, rQA, upd_at,  rAI, rLI, rJI, nI_add, pk_sub, kc_0, kc_1, kc_2, kc_3, kc_4, kc_5, reduceIte, Nat.reduceEqDiff, Nat.add_zero, rI_hold, rI_hold, rL_hold, hf4309, hf4308, hf4311]; done) | (simp (disch := omega) only [rI, rIe, rA, rIA, rLA, rJA, rVI, rQI, rVA, rQA, upd_at,  rAI, rLI, rJI, nI_add, pk_sub, kc_0, kc_1, kc_2, kc_3, kc_4, kc_5, reduceIte, Nat.reduceEqDiff, Nat.add_zero, rI_hold, rI_hold, rL_hold, hf4309, hf4308, hf4311]; exact congrArg nI (by omega))) ?_
  refine Bod.icT dc_114_30 rfl (k2_le_T f4308 f4311 rfl rfl (by omega) (by omega)) ?_
  refine Bod.go dc_114_52 rfl ?_
  refine Bod.ifT dc_114_53 rfl (k1_eq_T (k_eq 0 0 rfl rfl (by omega))) ?_
  refine Bod.go dc_114_75 rfl ?_
  refine Bod.get dc_114_76 fr_114_15 (mk_43 _) rfl ?_
  refine Bod.ic 4 (by decide) dc_114_79 ?_
  refine Bod.go dc_114_80 rfl ?_
  refine Bod.get dc_114_81 fr_114_49 (mk_43 _) rfl ?_
  refine Bod.eqI (nI f43091) (by first | (simp (disch := omega) only [rI, rIe, rA, rIA, rLA, rJA, rVI, rQI, rVA, rQA, upd_at,  rAI, rLI, rJI, nI_add, pk_sub, kc_0, kc_1, kc_2, kc_3, kc_4, kc_5, reduceIte, Nat.reduceEqDiff, Nat.add_zero, rI_hold, rI_hold, rL_hold, hf4309, hf4308, hf4311, hf43091]; done) | (simp (disch := omega) only [rI, rIe, rA, rIA, rLA, rJA, rVI, rQI, rVA, rQA, upd_at,  rAI, rLI, rJI, nI_add, pk_sub, kc_0, kc_1, kc_2, kc_3, kc_4, kc_5, reduceIte, Nat.reduceEqDiff, Nat.add_zero, rI_hold, rI_hold, rL_hold, hf4309, hf4308, hf4311, hf43091]; exact congrArg nI (by omega))) ?_
  refine Bod.virt (r := []) dc_114_84 kr_114_116 ⟨Or.inr rfl, ow_54, cl_7⟩ (by rw [np_54]; rfl) (by rw [np_54]; rfl) (ob_of (mk_23 _)) (Nat.le_of_ble_eq_true rfl) (c2  ) ?_
  show Bod _ _ _ _ [_] _ _ _
  refine Bod.go dc_114_87 rfl ?_
  exact Bod.retV dc_114_88 rt_114
theorem cLvC_2 {d : Nat} {S : cS} {f4309 : Nat} {S1 : cS} {f4308 : Nat} {f4311 : Nat} {S2 : cS} {a : Nat} (hf4309 : sI S 4309 = nI f4309) (mf4309 : f4309 < 2 ^ 20) (c1 : Ans (d + 8) 40 [.ref 31] S none S1) (hf4308 : sI S1 4308 = nI f4308) (mf4308 : f4308 < 2 ^ 20) (hf4311 : sI S1 4311 = nI f4311) (mf4311 : f4311 < 2 ^ 20) (b1 : f4308 ≤ f4311) (n2 : sI S1 4309 = Int32.ofInt (-1)) (ma : a < 2 ^ 20) (c2 : Ans (d + 8) 54 [.ref 23, .int (nI 4), .int (Int32.ofInt (-1))] S1 (some (.int (nI a))) S2) : Bod (d + 8) 114 0 [(0, .ref 43), (1, .int (nI 0))] [] S none (S2) := by
  refine Bod.go dc_114_0 rfl ?_
  refine Bod.get dc_114_1 fr_114_49 (mk_43 _) rfl ?_
  refine Bod.eqI (nI f4309) (by first | assumption | rfl | exact congrArg nI (by omega) | (simp (disch := omega) only [rI, rIe, rA, rIA, rLA, rJA, rVI, rQI, rVA, rQA, upd_at,  rAI, rLI, rJI, nI_add, pk_sub, kc_0, kc_1, kc_2, kc_3, kc_4, kc_5, reduceIte, Nat.reduceEqDiff, Nat.add_zero, rI_hold, rI_hold, rL_hold, hf4309]; done)) ?_
  refine Bod.go dc_114_4 rfl ?_
  refine Bod.icT dc_114_5 rfl (mr_ne (by omega)) ?_
  refine Bod.go dc_114_15 rfl ?_
  refine Bod.get dc_114_16 fr_114_9 (mk_43 _) rfl ?_
  refine Bod.virt (r := []) dc_114_19 kr_114_192 ⟨Or.inr rfl, ow_40, cl_3⟩ (by rw [np_40]; rfl) (by rw [np_40]; rfl) (ob_of (mk_31 _)) (Nat.le_of_ble_eq_true rfl) (c1  ) ?_
  show Bod _ _ _ _ [] _ _ _
  refine Bod.go dc_114_22 rfl ?_
  refine Bod.get dc_114_23 fr_114_46 (mk_43 _) rfl ?_
  refine Bod.eqI (nI f4308) (by first | (simp (disch := omega) only [rI, rIe, rA, rIA, rLA, rJA, rVI, rQI, rVA, rQA, upd_at,  rAI, rLI, rJI, nI_add, pk_sub, kc_0, kc_1, kc_2, kc_3, kc_4, kc_5, reduceIte, Nat.reduceEqDiff, Nat.add_zero, rI_hold, rI_hold, rL_hold, hf4309, hf4308]; done) | (simp (disch := omega) only [rI, rIe, rA, rIA, rLA, rJA, rVI, rQI, rVA, rQA, upd_at,  rAI, rLI, rJI, nI_add, pk_sub, kc_0, kc_1, kc_2, kc_3, kc_4, kc_5, reduceIte, Nat.reduceEqDiff, Nat.add_zero, rI_hold, rI_hold, rL_hold, hf4309, hf4308]; exact congrArg nI (by omega))) ?_
  refine Bod.go dc_114_26 rfl ?_
  refine Bod.get dc_114_27 fr_114_214 (mk_43 _) rfl ?_
  refine Bod.eqI (nI f4311) (by first | (simp (disch := omega) only [rI, rIe, rA, rIA, rLA, rJA, rVI, rQI, rVA, rQA, upd_at,  rAI, rLI, rJI, nI_add, pk_sub, kc_0, kc_1, kc_2, kc_3, kc_4, kc_5, reduceIte, Nat.reduceEqDiff, Nat.add_zero, rI_hold, rI_hold, rL_hold, hf4309, hf4308, hf4311]; done) | (simp (disch := omega) only [rI, rIe, rA, rIA, rLA, rJA, rVI, rQI, rVA, rQA, upd_at,  rAI, rLI, rJI, nI_add, pk_sub, kc_0, kc_1, kc_2, kc_3, kc_4, kc_5, reduceIte, Nat.reduceEqDiff, Nat.add_zero, rI_hold, rI_hold, rL_hold, hf4309, hf4308, hf4311]; exact congrArg nI (by omega))) ?_
  refine Bod.icT dc_114_30 rfl (k2_le_T f4308 f4311 rfl rfl (by omega) (by omega)) ?_
  refine Bod.go dc_114_52 rfl ?_
  refine Bod.ifT dc_114_53 rfl (k1_eq_T (k_eq 0 0 rfl rfl (by omega))) ?_
  refine Bod.go dc_114_75 rfl ?_
  refine Bod.get dc_114_76 fr_114_15 (mk_43 _) rfl ?_
  refine Bod.ic 4 (by decide) dc_114_79 ?_
  refine Bod.go dc_114_80 rfl ?_
  refine Bod.get dc_114_81 fr_114_49 (mk_43 _) rfl ?_
  refine Bod.eqI (Int32.ofInt (-1)) (by first | (simp (disch := omega) only [rI, rIe, rA, rIA, rLA, rJA, rVI, rQI, rVA, rQA, upd_at,  rAI, rLI, rJI, nI_add, pk_sub, kc_0, kc_1, kc_2, kc_3, kc_4, kc_5, reduceIte, Nat.reduceEqDiff, Nat.add_zero, rI_hold, rI_hold, rL_hold, hf4309, hf4308, hf4311, n2]; done) | (simp (disch := omega) only [rI, rIe, rA, rIA, rLA, rJA, rVI, rQI, rVA, rQA, upd_at,  rAI, rLI, rJI, nI_add, pk_sub, kc_0, kc_1, kc_2, kc_3, kc_4, kc_5, reduceIte, Nat.reduceEqDiff, Nat.add_zero, rI_hold, rI_hold, rL_hold, hf4309, hf4308, hf4311, n2]; exact congrArg nI (by omega))) ?_
  refine Bod.virt (r := []) dc_114_84 kr_114_116 ⟨Or.inr rfl, ow_54, cl_7⟩ (by rw [np_54]; rfl) (by rw [np_54]; rfl) (ob_of (mk_23 _)) (Nat.le_of_ble_eq_true rfl) (c2  ) ?_
  show Bod _ _ _ _ [_] _ _ _
  refine Bod.go dc_114_87 rfl ?_
  exact Bod.retV dc_114_88 rt_114
theorem cLvC_3 {d : Nat} {S : cS} {f4309 : Nat} {S1 : cS} {f4308 : Nat} {f4311 : Nat} {S2 : cS} {a : Nat} {f43091 : Nat} {S3 : cS} {a1 : Nat} (hf4309 : sI S 4309 = nI f4309) (mf4309 : f4309 < 2 ^ 20) (c1 : Ans (d + 8) 40 [.ref 31] S none S1) (hf4308 : sI S1 4308 = nI f4308) (mf4308 : f4308 < 2 ^ 20) (hf4311 : sI S1 4311 = nI f4311) (mf4311 : f4311 < 2 ^ 20) (b1 : f4311 < f4308) (b2 : f4311 ≤ f4308) (ma : a < 2 ^ 20) (c2 : Ans (d + 8) 54 [.ref 23, .int (nI 13), .int (nI (f4308 - f4311))] S1 (some (.int (nI a))) S2) (hf43091 : sI S2 4309 = nI f43091) (mf43091 : f43091 < 2 ^ 20) (ma1 : a1 < 2 ^ 20) (c3 : Ans (d + 8) 54 [.ref 23, .int (nI 4), .int (nI f43091)] S2 (some (.int (nI a1))) S3) : Bod (d + 8) 114 0 [(0, .ref 43), (1, .int (nI 0))] [] S none (S3) := by
  refine Bod.go dc_114_0 rfl ?_
  refine Bod.get dc_114_1 fr_114_49 (mk_43 _) rfl ?_
  refine Bod.eqI (nI f4309) (by first | assumption | rfl | exact congrArg nI (by omega) | (simp (disch := omega) only [rI, rIe, rA, rIA, rLA, rJA, rVI, rQI, rVA, rQA, upd_at,  rAI, rLI, rJI, nI_add, pk_sub, kc_0, kc_1, kc_2, kc_3, kc_4, kc_5, reduceIte, Nat.reduceEqDiff, Nat.add_zero, rI_hold, rI_hold, rL_hold, hf4309]; done)) ?_
  refine Bod.go dc_114_4 rfl ?_
  refine Bod.icT dc_114_5 rfl (mr_ne (by omega)) ?_
  refine Bod.go dc_114_15 rfl ?_
  refine Bod.get dc_114_16 fr_114_9 (mk_43 _) rfl ?_
  refine Bod.virt (r := []) dc_114_19 kr_114_192 ⟨Or.inr rfl, ow_40, cl_3⟩ (by rw [np_40]; rfl) (by rw [np_40]; rfl) (ob_of (mk_31 _)) (Nat.le_of_ble_eq_true rfl) (c1  ) ?_
  show Bod _ _ _ _ [] _ _ _
  refine Bod.go dc_114_22 rfl ?_
  refine Bod.get dc_114_23 fr_114_46 (mk_43 _) rfl ?_
  refine Bod.eqI (nI f4308) (by first | (simp (disch := omega) only [rI, rIe, rA, rIA, rLA, rJA, rVI, rQI, rVA, rQA, upd_at,  rAI, rLI, rJI, nI_add, pk_sub, kc_0, kc_1, kc_2, kc_3, kc_4, kc_5, reduceIte, Nat.reduceEqDiff, Nat.add_zero, rI_hold, rI_hold, rL_hold, hf4309, hf4308]; done) | (simp (disch := omega) only [rI, rIe, rA, rIA, rLA, rJA, rVI, rQI, rVA, rQA, upd_at,  rAI, rLI, rJI, nI_add, pk_sub, kc_0, kc_1, kc_2, kc_3, kc_4, kc_5, reduceIte, Nat.reduceEqDiff, Nat.add_zero, rI_hold, rI_hold, rL_hold, hf4309, hf4308]; exact congrArg nI (by omega))) ?_
  refine Bod.go dc_114_26 rfl ?_
  refine Bod.get dc_114_27 fr_114_214 (mk_43 _) rfl ?_
  refine Bod.eqI (nI f4311) (by first | (simp (disch := omega) only [rI, rIe, rA, rIA, rLA, rJA, rVI, rQI, rVA, rQA, upd_at,  rAI, rLI, rJI, nI_add, pk_sub, kc_0, kc_1, kc_2, kc_3, kc_4, kc_5, reduceIte, Nat.reduceEqDiff, Nat.add_zero, rI_hold, rI_hold, rL_hold, hf4309, hf4308, hf4311]; done) | (simp (disch := omega) only [rI, rIe, rA, rIA, rLA, rJA, rVI, rQI, rVA, rQA, upd_at,  rAI, rLI, rJI, nI_add, pk_sub, kc_0, kc_1, kc_2, kc_3, kc_4, kc_5, reduceIte, Nat.reduceEqDiff, Nat.add_zero, rI_hold, rI_hold, rL_hold, hf4309, hf4308, hf4311]; exact congrArg nI (by omega))) ?_
  refine Bod.icF dc_114_30 rfl (k2_le_F f4308 f4311 rfl rfl (by omega) (by omega)) ?_
  refine Bod.go dc_114_33 rfl ?_
  refine Bod.get dc_114_34 fr_114_15 (mk_43 _) rfl ?_
  refine Bod.bip 13 (by decide) dc_114_37 ?_
  refine Bod.go dc_114_39 rfl ?_
  refine Bod.get dc_114_40 fr_114_46 (mk_43 _) rfl ?_
  refine Bod.eqI (nI f4308) (by first | (simp (disch := omega) only [rI, rIe, rA, rIA, rLA, rJA, rVI, rQI, rVA, rQA, upd_at,  rAI, rLI, rJI, nI_add, pk_sub, kc_0, kc_1, kc_2, kc_3, kc_4, kc_5, reduceIte, Nat.reduceEqDiff, Nat.add_zero, rI_hold, rI_hold, rL_hold, hf4309, hf4308, hf4311]; done) | (simp (disch := omega) only [rI, rIe, rA, rIA, rLA, rJA, rVI, rQI, rVA, rQA, upd_at,  rAI, rLI, rJI, nI_add, pk_sub, kc_0, kc_1, kc_2, kc_3, kc_4, kc_5, reduceIte, Nat.reduceEqDiff, Nat.add_zero, rI_hold, rI_hold, rL_hold, hf4309, hf4308, hf4311]; exact congrArg nI (by omega))) ?_
  refine Bod.go dc_114_43 rfl ?_
  refine Bod.get dc_114_44 fr_114_214 (mk_43 _) rfl ?_
  refine Bod.eqI (nI f4311) (by first | (simp (disch := omega) only [rI, rIe, rA, rIA, rLA, rJA, rVI, rQI, rVA, rQA, upd_at,  rAI, rLI, rJI, nI_add, pk_sub, kc_0, kc_1, kc_2, kc_3, kc_4, kc_5, reduceIte, Nat.reduceEqDiff, Nat.add_zero, rI_hold, rI_hold, rL_hold, hf4309, hf4308, hf4311]; done) | (simp (disch := omega) only [rI, rIe, rA, rIA, rLA, rJA, rVI, rQI, rVA, rQA, upd_at,  rAI, rLI, rJI, nI_add, pk_sub, kc_0, kc_1, kc_2, kc_3, kc_4, kc_5, reduceIte, Nat.reduceEqDiff, Nat.add_zero, rI_hold, rI_hold, rL_hold, hf4309, hf4308, hf4311]; exact congrArg nI (by omega))) ?_
  refine Bod.subN (f4308 - f4311) (by omega) (by omega) dc_114_47 ?_
  refine Bod.virt (r := []) dc_114_48 kr_114_116 ⟨Or.inr rfl, ow_54, cl_7⟩ (by rw [np_54]; rfl) (by rw [np_54]; rfl) (ob_of (mk_23 _)) (Nat.le_of_ble_eq_true rfl) (c2  ) ?_
  show Bod _ _ _ _ [_] _ _ _
  refine Bod.go dc_114_51 rfl ?_
  refine Bod.go dc_114_52 rfl ?_
  refine Bod.ifT dc_114_53 rfl (k1_eq_T (k_eq 0 0 rfl rfl (by omega))) ?_
  refine Bod.go dc_114_75 rfl ?_
  refine Bod.get dc_114_76 fr_114_15 (mk_43 _) rfl ?_
  refine Bod.ic 4 (by decide) dc_114_79 ?_
  refine Bod.go dc_114_80 rfl ?_
  refine Bod.get dc_114_81 fr_114_49 (mk_43 _) rfl ?_
  refine Bod.eqI (nI f43091) (by first | (simp (disch := omega) only [rI, rIe, rA, rIA, rLA, rJA, rVI, rQI, rVA, rQA, upd_at,  rAI, rLI, rJI, nI_add, pk_sub, kc_0, kc_1, kc_2, kc_3, kc_4, kc_5, reduceIte, Nat.reduceEqDiff, Nat.add_zero, rI_hold, rI_hold, rL_hold, hf4309, hf4308, hf4311, hf43091]; done) | (simp (disch := omega) only [rI, rIe, rA, rIA, rLA, rJA, rVI, rQI, rVA, rQA, upd_at,  rAI, rLI, rJI, nI_add, pk_sub, kc_0, kc_1, kc_2, kc_3, kc_4, kc_5, reduceIte, Nat.reduceEqDiff, Nat.add_zero, rI_hold, rI_hold, rL_hold, hf4309, hf4308, hf4311, hf43091]; exact congrArg nI (by omega))) ?_
  refine Bod.virt (r := []) dc_114_84 kr_114_116 ⟨Or.inr rfl, ow_54, cl_7⟩ (by rw [np_54]; rfl) (by rw [np_54]; rfl) (ob_of (mk_23 _)) (Nat.le_of_ble_eq_true rfl) (c3  ) ?_
  show Bod _ _ _ _ [_] _ _ _
  refine Bod.go dc_114_87 rfl ?_
  exact Bod.retV dc_114_88 rt_114
theorem cLvC_4 {d : Nat} {S : cS} {f4309 : Nat} {S1 : cS} {f4308 : Nat} {f4311 : Nat} {S2 : cS} {a : Nat} {S3 : cS} {a1 : Nat} (hf4309 : sI S 4309 = nI f4309) (mf4309 : f4309 < 2 ^ 20) (c1 : Ans (d + 8) 40 [.ref 31] S none S1) (hf4308 : sI S1 4308 = nI f4308) (mf4308 : f4308 < 2 ^ 20) (hf4311 : sI S1 4311 = nI f4311) (mf4311 : f4311 < 2 ^ 20) (b1 : f4311 < f4308) (b2 : f4311 ≤ f4308) (ma : a < 2 ^ 20) (c2 : Ans (d + 8) 54 [.ref 23, .int (nI 13), .int (nI (f4308 - f4311))] S1 (some (.int (nI a))) S2) (n3 : sI S2 4309 = Int32.ofInt (-1)) (ma1 : a1 < 2 ^ 20) (c3 : Ans (d + 8) 54 [.ref 23, .int (nI 4), .int (Int32.ofInt (-1))] S2 (some (.int (nI a1))) S3) : Bod (d + 8) 114 0 [(0, .ref 43), (1, .int (nI 0))] [] S none (S3) := by
  refine Bod.go dc_114_0 rfl ?_
  refine Bod.get dc_114_1 fr_114_49 (mk_43 _) rfl ?_
  refine Bod.eqI (nI f4309) (by first | assumption | rfl | exact congrArg nI (by omega) | (simp (disch := omega) only [rI, rIe, rA, rIA, rLA, rJA, rVI, rQI, rVA, rQA, upd_at,  rAI, rLI, rJI, nI_add, pk_sub, kc_0, kc_1, kc_2, kc_3, kc_4, kc_5, reduceIte, Nat.reduceEqDiff, Nat.add_zero, rI_hold, rI_hold, rL_hold, hf4309]; done)) ?_
  refine Bod.go dc_114_4 rfl ?_
  refine Bod.icT dc_114_5 rfl (mr_ne (by omega)) ?_
  refine Bod.go dc_114_15 rfl ?_
  refine Bod.get dc_114_16 fr_114_9 (mk_43 _) rfl ?_
  refine Bod.virt (r := []) dc_114_19 kr_114_192 ⟨Or.inr rfl, ow_40, cl_3⟩ (by rw [np_40]; rfl) (by rw [np_40]; rfl) (ob_of (mk_31 _)) (Nat.le_of_ble_eq_true rfl) (c1  ) ?_
  show Bod _ _ _ _ [] _ _ _
  refine Bod.go dc_114_22 rfl ?_
  refine Bod.get dc_114_23 fr_114_46 (mk_43 _) rfl ?_
  refine Bod.eqI (nI f4308) (by first | (simp (disch := omega) only [rI, rIe, rA, rIA, rLA, rJA, rVI, rQI, rVA, rQA, upd_at,  rAI, rLI, rJI, nI_add, pk_sub, kc_0, kc_1, kc_2, kc_3, kc_4, kc_5, reduceIte, Nat.reduceEqDiff, Nat.add_zero, rI_hold, rI_hold, rL_hold, hf4309, hf4308]; done) | (simp (disch := omega) only [rI, rIe, rA, rIA, rLA, rJA, rVI, rQI, rVA, rQA, upd_at,  rAI, rLI, rJI, nI_add, pk_sub, kc_0, kc_1, kc_2, kc_3, kc_4, kc_5, reduceIte, Nat.reduceEqDiff, Nat.add_zero, rI_hold, rI_hold, rL_hold, hf4309, hf4308]; exact congrArg nI (by omega))) ?_
  refine Bod.go dc_114_26 rfl ?_
  refine Bod.get dc_114_27 fr_114_214 (mk_43 _) rfl ?_
  refine Bod.eqI (nI f4311) (by first | (simp (disch := omega) only [rI, rIe, rA, rIA, rLA, rJA, rVI, rQI, rVA, rQA, upd_at,  rAI, rLI, rJI, nI_add, pk_sub, kc_0, kc_1, kc_2, kc_3, kc_4, kc_5, reduceIte, Nat.reduceEqDiff, Nat.add_zero, rI_hold, rI_hold, rL_hold, hf4309, hf4308, hf4311]; done) | (simp (disch := omega) only [rI, rIe, rA, rIA, rLA, rJA, rVI, rQI, rVA, rQA, upd_at,  rAI, rLI, rJI, nI_add, pk_sub, kc_0, kc_1, kc_2, kc_3, kc_4, kc_5, reduceIte, Nat.reduceEqDiff, Nat.add_zero, rI_hold, rI_hold, rL_hold, hf4309, hf4308, hf4311]; exact congrArg nI (by omega))) ?_
  refine Bod.icF dc_114_30 rfl (k2_le_F f4308 f4311 rfl rfl (by omega) (by omega)) ?_
  refine Bod.go dc_114_33 rfl ?_
  refine Bod.get dc_114_34 fr_114_15 (mk_43 _) rfl ?_
  refine Bod.bip 13 (by decide) dc_114_37 ?_
  refine Bod.go dc_114_39 rfl ?_
  refine Bod.get dc_114_40 fr_114_46 (mk_43 _) rfl ?_
  refine Bod.eqI (nI f4308) (by first | (simp (disch := omega) only [rI, rIe, rA, rIA, rLA, rJA, rVI, rQI, rVA, rQA, upd_at,  rAI, rLI, rJI, nI_add, pk_sub, kc_0, kc_1, kc_2, kc_3, kc_4, kc_5, reduceIte, Nat.reduceEqDiff, Nat.add_zero, rI_hold, rI_hold, rL_hold, hf4309, hf4308, hf4311]; done) | (simp (disch := omega) only [rI, rIe, rA, rIA, rLA, rJA, rVI, rQI, rVA, rQA, upd_at,  rAI, rLI, rJI, nI_add, pk_sub, kc_0, kc_1, kc_2, kc_3, kc_4, kc_5, reduceIte, Nat.reduceEqDiff, Nat.add_zero, rI_hold, rI_hold, rL_hold, hf4309, hf4308, hf4311]; exact congrArg nI (by omega))) ?_
  refine Bod.go dc_114_43 rfl ?_
  refine Bod.get dc_114_44 fr_114_214 (mk_43 _) rfl ?_
  refine Bod.eqI (nI f4311) (by first | (simp (disch := omega) only [rI, rIe, rA, rIA, rLA, rJA, rVI, rQI, rVA, rQA, upd_at,  rAI, rLI, rJI, nI_add, pk_sub, kc_0, kc_1, kc_2, kc_3, kc_4, kc_5, reduceIte, Nat.reduceEqDiff, Nat.add_zero, rI_hold, rI_hold, rL_hold, hf4309, hf4308, hf4311]; done) | (simp (disch := omega) only [rI, rIe, rA, rIA, rLA, rJA, rVI, rQI, rVA, rQA, upd_at,  rAI, rLI, rJI, nI_add, pk_sub, kc_0, kc_1, kc_2, kc_3, kc_4, kc_5, reduceIte, Nat.reduceEqDiff, Nat.add_zero, rI_hold, rI_hold, rL_hold, hf4309, hf4308, hf4311]; exact congrArg nI (by omega))) ?_
  refine Bod.subN (f4308 - f4311) (by omega) (by omega) dc_114_47 ?_
  refine Bod.virt (r := []) dc_114_48 kr_114_116 ⟨Or.inr rfl, ow_54, cl_7⟩ (by rw [np_54]; rfl) (by rw [np_54]; rfl) (ob_of (mk_23 _)) (Nat.le_of_ble_eq_true rfl) (c2  ) ?_
  show Bod _ _ _ _ [_] _ _ _
  refine Bod.go dc_114_51 rfl ?_
  refine Bod.go dc_114_52 rfl ?_
  refine Bod.ifT dc_114_53 rfl (k1_eq_T (k_eq 0 0 rfl rfl (by omega))) ?_
  refine Bod.go dc_114_75 rfl ?_
  refine Bod.get dc_114_76 fr_114_15 (mk_43 _) rfl ?_
  refine Bod.ic 4 (by decide) dc_114_79 ?_
  refine Bod.go dc_114_80 rfl ?_
  refine Bod.get dc_114_81 fr_114_49 (mk_43 _) rfl ?_
  refine Bod.eqI (Int32.ofInt (-1)) (by first | (simp (disch := omega) only [rI, rIe, rA, rIA, rLA, rJA, rVI, rQI, rVA, rQA, upd_at,  rAI, rLI, rJI, nI_add, pk_sub, kc_0, kc_1, kc_2, kc_3, kc_4, kc_5, reduceIte, Nat.reduceEqDiff, Nat.add_zero, rI_hold, rI_hold, rL_hold, hf4309, hf4308, hf4311, n3]; done) | (simp (disch := omega) only [rI, rIe, rA, rIA, rLA, rJA, rVI, rQI, rVA, rQA, upd_at,  rAI, rLI, rJI, nI_add, pk_sub, kc_0, kc_1, kc_2, kc_3, kc_4, kc_5, reduceIte, Nat.reduceEqDiff, Nat.add_zero, rI_hold, rI_hold, rL_hold, hf4309, hf4308, hf4311, n3]; exact congrArg nI (by omega))) ?_
  refine Bod.virt (r := []) dc_114_84 kr_114_116 ⟨Or.inr rfl, ow_54, cl_7⟩ (by rw [np_54]; rfl) (by rw [np_54]; rfl) (ob_of (mk_23 _)) (Nat.le_of_ble_eq_true rfl) (c3  ) ?_
  show Bod _ _ _ _ [_] _ _ _
  refine Bod.go dc_114_87 rfl ?_
  exact Bod.retV dc_114_88 rt_114
theorem cLvC_5 {d : Nat} {S : cS} {S1 : cS} {S2 : cS} {f4308 : Nat} {f4311 : Nat} {f4309 : Nat} {S3 : cS} {a : Nat} (n1 : sI S 4309 = Int32.ofInt (-1)) (c1 : Ans (d + 8) 44 [.ref 31] S none S1) (c2 : Ans (d + 8) 40 [.ref 31] S1 none S2) (hf4308 : sI S2 4308 = nI f4308) (mf4308 : f4308 < 2 ^ 20) (hf4311 : sI S2 4311 = nI f4311) (mf4311 : f4311 < 2 ^ 20) (b2 : f4308 ≤ f4311) (hf4309 : sI S2 4309 = nI f4309) (mf4309 : f4309 < 2 ^ 20) (ma : a < 2 ^ 20) (c3 : Ans (d + 8) 54 [.ref 23, .int (nI 4), .int (nI f4309)] S2 (some (.int (nI a))) S3) : Bod (d + 8) 114 0 [(0, .ref 43), (1, .int (nI 0))] [] S none (S3) := by
  refine Bod.go dc_114_0 rfl ?_
  refine Bod.get dc_114_1 fr_114_49 (mk_43 _) rfl ?_
  refine Bod.eqI (Int32.ofInt (-1)) (by first | assumption | rfl | exact congrArg nI (by omega) | (simp (disch := omega) only [rI, rIe, rA, rIA, rLA, rJA, rVI, rQI, rVA, rQA, upd_at,  rAI, rLI, rJI, nI_add, pk_sub, kc_0, kc_1, kc_2, kc_3, kc_4, kc_5, reduceIte, Nat.reduceEqDiff, Nat.add_zero, rI_hold, rI_hold, rL_hold, n1]; done)) ?_
  refine Bod.go dc_114_4 rfl ?_
  refine Bod.icF dc_114_5 rfl (by decide) ?_
  refine Bod.go dc_114_8 rfl ?_
  refine Bod.get dc_114_9 fr_114_9 (mk_43 _) rfl ?_
  refine Bod.virt (r := []) dc_114_12 kr_114_76 ⟨Or.inr rfl, ow_44, cl_3⟩ (by rw [np_44]; rfl) (by rw [np_44]; rfl) (ob_of (mk_31 _)) (Nat.le_of_ble_eq_true rfl) (c1  ) ?_
  show Bod _ _ _ _ [] _ _ _
  refine Bod.go dc_114_15 rfl ?_
  refine Bod.get dc_114_16 fr_114_9 (mk_43 _) rfl ?_
  refine Bod.virt (r := []) dc_114_19 kr_114_192 ⟨Or.inr rfl, ow_40, cl_3⟩ (by rw [np_40]; rfl) (by rw [np_40]; rfl) (ob_of (mk_31 _)) (Nat.le_of_ble_eq_true rfl) (c2  ) ?_
  show Bod _ _ _ _ [] _ _ _
  refine Bod.go dc_114_22 rfl ?_
  refine Bod.get dc_114_23 fr_114_46 (mk_43 _) rfl ?_
  refine Bod.eqI (nI f4308) (by first | (simp (disch := omega) only [rI, rIe, rA, rIA, rLA, rJA, rVI, rQI, rVA, rQA, upd_at,  rAI, rLI, rJI, nI_add, pk_sub, kc_0, kc_1, kc_2, kc_3, kc_4, kc_5, reduceIte, Nat.reduceEqDiff, Nat.add_zero, rI_hold, rI_hold, rL_hold, n1, hf4308]; done) | (simp (disch := omega) only [rI, rIe, rA, rIA, rLA, rJA, rVI, rQI, rVA, rQA, upd_at,  rAI, rLI, rJI, nI_add, pk_sub, kc_0, kc_1, kc_2, kc_3, kc_4, kc_5, reduceIte, Nat.reduceEqDiff, Nat.add_zero, rI_hold, rI_hold, rL_hold, n1, hf4308]; exact congrArg nI (by omega))) ?_
  refine Bod.go dc_114_26 rfl ?_
  refine Bod.get dc_114_27 fr_114_214 (mk_43 _) rfl ?_
  refine Bod.eqI (nI f4311) (by first | (simp (disch := omega) only [rI, rIe, rA, rIA, rLA, rJA, rVI, rQI, rVA, rQA, upd_at,  rAI, rLI, rJI, nI_add, pk_sub, kc_0, kc_1, kc_2, kc_3, kc_4, kc_5, reduceIte, Nat.reduceEqDiff, Nat.add_zero, rI_hold, rI_hold, rL_hold, n1, hf4308, hf4311]; done) | (simp (disch := omega) only [rI, rIe, rA, rIA, rLA, rJA, rVI, rQI, rVA, rQA, upd_at,  rAI, rLI, rJI, nI_add, pk_sub, kc_0, kc_1, kc_2, kc_3, kc_4, kc_5, reduceIte, Nat.reduceEqDiff, Nat.add_zero, rI_hold, rI_hold, rL_hold, n1, hf4308, hf4311]; exact congrArg nI (by omega))) ?_
  refine Bod.icT dc_114_30 rfl (k2_le_T f4308 f4311 rfl rfl (by omega) (by omega)) ?_
  refine Bod.go dc_114_52 rfl ?_
  refine Bod.ifT dc_114_53 rfl (k1_eq_T (k_eq 0 0 rfl rfl (by omega))) ?_
  refine Bod.go dc_114_75 rfl ?_
  refine Bod.get dc_114_76 fr_114_15 (mk_43 _) rfl ?_
  refine Bod.ic 4 (by decide) dc_114_79 ?_
  refine Bod.go dc_114_80 rfl ?_
  refine Bod.get dc_114_81 fr_114_49 (mk_43 _) rfl ?_
  refine Bod.eqI (nI f4309) (by first | (simp (disch := omega) only [rI, rIe, rA, rIA, rLA, rJA, rVI, rQI, rVA, rQA, upd_at,  rAI, rLI, rJI, nI_add, pk_sub, kc_0, kc_1, kc_2, kc_3, kc_4, kc_5, reduceIte, Nat.reduceEqDiff, Nat.add_zero, rI_hold, rI_hold, rL_hold, n1, hf4308, hf4311, hf4309]; done) | (simp (disch := omega) only [rI, rIe, rA, rIA, rLA, rJA, rVI, rQI, rVA, rQA, upd_at,  rAI, rLI, rJI, nI_add, pk_sub, kc_0, kc_1, kc_2, kc_3, kc_4, kc_5, reduceIte, Nat.reduceEqDiff, Nat.add_zero, rI_hold, rI_hold, rL_hold, n1, hf4308, hf4311, hf4309]; exact congrArg nI (by omega))) ?_
  refine Bod.virt (r := []) dc_114_84 kr_114_116 ⟨Or.inr rfl, ow_54, cl_7⟩ (by rw [np_54]; rfl) (by rw [np_54]; rfl) (ob_of (mk_23 _)) (Nat.le_of_ble_eq_true rfl) (c3  ) ?_
  show Bod _ _ _ _ [_] _ _ _
  refine Bod.go dc_114_87 rfl ?_
  exact Bod.retV dc_114_88 rt_114
theorem cLvC_6 {d : Nat} {S : cS} {S1 : cS} {S2 : cS} {f4308 : Nat} {f4311 : Nat} {S3 : cS} {a : Nat} (n1 : sI S 4309 = Int32.ofInt (-1)) (c1 : Ans (d + 8) 44 [.ref 31] S none S1) (c2 : Ans (d + 8) 40 [.ref 31] S1 none S2) (hf4308 : sI S2 4308 = nI f4308) (mf4308 : f4308 < 2 ^ 20) (hf4311 : sI S2 4311 = nI f4311) (mf4311 : f4311 < 2 ^ 20) (b2 : f4308 ≤ f4311) (n3 : sI S2 4309 = Int32.ofInt (-1)) (ma : a < 2 ^ 20) (c3 : Ans (d + 8) 54 [.ref 23, .int (nI 4), .int (Int32.ofInt (-1))] S2 (some (.int (nI a))) S3) : Bod (d + 8) 114 0 [(0, .ref 43), (1, .int (nI 0))] [] S none (S3) := by
  refine Bod.go dc_114_0 rfl ?_
  refine Bod.get dc_114_1 fr_114_49 (mk_43 _) rfl ?_
  refine Bod.eqI (Int32.ofInt (-1)) (by first | assumption | rfl | exact congrArg nI (by omega) | (simp (disch := omega) only [rI, rIe, rA, rIA, rLA, rJA, rVI, rQI, rVA, rQA, upd_at,  rAI, rLI, rJI, nI_add, pk_sub, kc_0, kc_1, kc_2, kc_3, kc_4, kc_5, reduceIte, Nat.reduceEqDiff, Nat.add_zero, rI_hold, rI_hold, rL_hold, n1]; done)) ?_
  refine Bod.go dc_114_4 rfl ?_
  refine Bod.icF dc_114_5 rfl (by decide) ?_
  refine Bod.go dc_114_8 rfl ?_
  refine Bod.get dc_114_9 fr_114_9 (mk_43 _) rfl ?_
  refine Bod.virt (r := []) dc_114_12 kr_114_76 ⟨Or.inr rfl, ow_44, cl_3⟩ (by rw [np_44]; rfl) (by rw [np_44]; rfl) (ob_of (mk_31 _)) (Nat.le_of_ble_eq_true rfl) (c1  ) ?_
  show Bod _ _ _ _ [] _ _ _
  refine Bod.go dc_114_15 rfl ?_
  refine Bod.get dc_114_16 fr_114_9 (mk_43 _) rfl ?_
  refine Bod.virt (r := []) dc_114_19 kr_114_192 ⟨Or.inr rfl, ow_40, cl_3⟩ (by rw [np_40]; rfl) (by rw [np_40]; rfl) (ob_of (mk_31 _)) (Nat.le_of_ble_eq_true rfl) (c2  ) ?_
  show Bod _ _ _ _ [] _ _ _
  refine Bod.go dc_114_22 rfl ?_
  refine Bod.get dc_114_23 fr_114_46 (mk_43 _) rfl ?_
  refine Bod.eqI (nI f4308) (by first | (simp (disch := omega) only [rI, rIe, rA, rIA, rLA, rJA, rVI, rQI, rVA, rQA, upd_at,  rAI, rLI, rJI, nI_add, pk_sub, kc_0, kc_1, kc_2, kc_3, kc_4, kc_5, reduceIte, Nat.reduceEqDiff, Nat.add_zero, rI_hold, rI_hold, rL_hold, n1, hf4308]; done) | (simp (disch := omega) only [rI, rIe, rA, rIA, rLA, rJA, rVI, rQI, rVA, rQA, upd_at,  rAI, rLI, rJI, nI_add, pk_sub, kc_0, kc_1, kc_2, kc_3, kc_4, kc_5, reduceIte, Nat.reduceEqDiff, Nat.add_zero, rI_hold, rI_hold, rL_hold, n1, hf4308]; exact congrArg nI (by omega))) ?_
  refine Bod.go dc_114_26 rfl ?_
  refine Bod.get dc_114_27 fr_114_214 (mk_43 _) rfl ?_
  refine Bod.eqI (nI f4311) (by first | (simp (disch := omega) only [rI, rIe, rA, rIA, rLA, rJA, rVI, rQI, rVA, rQA, upd_at,  rAI, rLI, rJI, nI_add, pk_sub, kc_0, kc_1, kc_2, kc_3, kc_4, kc_5, reduceIte, Nat.reduceEqDiff, Nat.add_zero, rI_hold, rI_hold, rL_hold, n1, hf4308, hf4311]; done) | (simp (disch := omega) only [rI, rIe, rA, rIA, rLA, rJA, rVI, rQI, rVA, rQA, upd_at,  rAI, rLI, rJI, nI_add, pk_sub, kc_0, kc_1, kc_2, kc_3, kc_4, kc_5, reduceIte, Nat.reduceEqDiff, Nat.add_zero, rI_hold, rI_hold, rL_hold, n1, hf4308, hf4311]; exact congrArg nI (by omega))) ?_
  refine Bod.icT dc_114_30 rfl (k2_le_T f4308 f4311 rfl rfl (by omega) (by omega)) ?_
  refine Bod.go dc_114_52 rfl ?_
  refine Bod.ifT dc_114_53 rfl (k1_eq_T (k_eq 0 0 rfl rfl (by omega))) ?_
  refine Bod.go dc_114_75 rfl ?_
  refine Bod.get dc_114_76 fr_114_15 (mk_43 _) rfl ?_
  refine Bod.ic 4 (by decide) dc_114_79 ?_
  refine Bod.go dc_114_80 rfl ?_
  refine Bod.get dc_114_81 fr_114_49 (mk_43 _) rfl ?_
  refine Bod.eqI (Int32.ofInt (-1)) (by first | (simp (disch := omega) only [rI, rIe, rA, rIA, rLA, rJA, rVI, rQI, rVA, rQA, upd_at,  rAI, rLI, rJI, nI_add, pk_sub, kc_0, kc_1, kc_2, kc_3, kc_4, kc_5, reduceIte, Nat.reduceEqDiff, Nat.add_zero, rI_hold, rI_hold, rL_hold, n1, hf4308, hf4311, n3]; done) | (simp (disch := omega) only [rI, rIe, rA, rIA, rLA, rJA, rVI, rQI, rVA, rQA, upd_at,  rAI, rLI, rJI, nI_add, pk_sub, kc_0, kc_1, kc_2, kc_3, kc_4, kc_5, reduceIte, Nat.reduceEqDiff, Nat.add_zero, rI_hold, rI_hold, rL_hold, n1, hf4308, hf4311, n3]; exact congrArg nI (by omega))) ?_
  refine Bod.virt (r := []) dc_114_84 kr_114_116 ⟨Or.inr rfl, ow_54, cl_7⟩ (by rw [np_54]; rfl) (by rw [np_54]; rfl) (ob_of (mk_23 _)) (Nat.le_of_ble_eq_true rfl) (c3  ) ?_
  show Bod _ _ _ _ [_] _ _ _
  refine Bod.go dc_114_87 rfl ?_
  exact Bod.retV dc_114_88 rt_114
theorem cLvC_7 {d : Nat} {S : cS} {S1 : cS} {S2 : cS} {f4308 : Nat} {f4311 : Nat} {S3 : cS} {a : Nat} {f4309 : Nat} {S4 : cS} {a1 : Nat} (n1 : sI S 4309 = Int32.ofInt (-1)) (c1 : Ans (d + 8) 44 [.ref 31] S none S1) (c2 : Ans (d + 8) 40 [.ref 31] S1 none S2) (hf4308 : sI S2 4308 = nI f4308) (mf4308 : f4308 < 2 ^ 20) (hf4311 : sI S2 4311 = nI f4311) (mf4311 : f4311 < 2 ^ 20) (b2 : f4311 < f4308) (b3 : f4311 ≤ f4308) (ma : a < 2 ^ 20) (c3 : Ans (d + 8) 54 [.ref 23, .int (nI 13), .int (nI (f4308 - f4311))] S2 (some (.int (nI a))) S3) (hf4309 : sI S3 4309 = nI f4309) (mf4309 : f4309 < 2 ^ 20) (ma1 : a1 < 2 ^ 20) (c4 : Ans (d + 8) 54 [.ref 23, .int (nI 4), .int (nI f4309)] S3 (some (.int (nI a1))) S4) : Bod (d + 8) 114 0 [(0, .ref 43), (1, .int (nI 0))] [] S none (S4) := by
  refine Bod.go dc_114_0 rfl ?_
  refine Bod.get dc_114_1 fr_114_49 (mk_43 _) rfl ?_
  refine Bod.eqI (Int32.ofInt (-1)) (by first | assumption | rfl | exact congrArg nI (by omega) | (simp (disch := omega) only [rI, rIe, rA, rIA, rLA, rJA, rVI, rQI, rVA, rQA, upd_at,  rAI, rLI, rJI, nI_add, pk_sub, kc_0, kc_1, kc_2, kc_3, kc_4, kc_5, reduceIte, Nat.reduceEqDiff, Nat.add_zero, rI_hold, rI_hold, rL_hold, n1]; done)) ?_
  refine Bod.go dc_114_4 rfl ?_
  refine Bod.icF dc_114_5 rfl (by decide) ?_
  refine Bod.go dc_114_8 rfl ?_
  refine Bod.get dc_114_9 fr_114_9 (mk_43 _) rfl ?_
  refine Bod.virt (r := []) dc_114_12 kr_114_76 ⟨Or.inr rfl, ow_44, cl_3⟩ (by rw [np_44]; rfl) (by rw [np_44]; rfl) (ob_of (mk_31 _)) (Nat.le_of_ble_eq_true rfl) (c1  ) ?_
  show Bod _ _ _ _ [] _ _ _
  refine Bod.go dc_114_15 rfl ?_
  refine Bod.get dc_114_16 fr_114_9 (mk_43 _) rfl ?_
  refine Bod.virt (r := []) dc_114_19 kr_114_192 ⟨Or.inr rfl, ow_40, cl_3⟩ (by rw [np_40]; rfl) (by rw [np_40]; rfl) (ob_of (mk_31 _)) (Nat.le_of_ble_eq_true rfl) (c2  ) ?_
  show Bod _ _ _ _ [] _ _ _
  refine Bod.go dc_114_22 rfl ?_
  refine Bod.get dc_114_23 fr_114_46 (mk_43 _) rfl ?_
  refine Bod.eqI (nI f4308) (by first | (simp (disch := omega) only [rI, rIe, rA, rIA, rLA, rJA, rVI, rQI, rVA, rQA, upd_at,  rAI, rLI, rJI, nI_add, pk_sub, kc_0, kc_1, kc_2, kc_3, kc_4, kc_5, reduceIte, Nat.reduceEqDiff, Nat.add_zero, rI_hold, rI_hold, rL_hold, n1, hf4308]; done) | (simp (disch := omega) only [rI, rIe, rA, rIA, rLA, rJA, rVI, rQI, rVA, rQA, upd_at,  rAI, rLI, rJI, nI_add, pk_sub, kc_0, kc_1, kc_2, kc_3, kc_4, kc_5, reduceIte, Nat.reduceEqDiff, Nat.add_zero, rI_hold, rI_hold, rL_hold, n1, hf4308]; exact congrArg nI (by omega))) ?_
  refine Bod.go dc_114_26 rfl ?_
  refine Bod.get dc_114_27 fr_114_214 (mk_43 _) rfl ?_
  refine Bod.eqI (nI f4311) (by first | (simp (disch := omega) only [rI, rIe, rA, rIA, rLA, rJA, rVI, rQI, rVA, rQA, upd_at,  rAI, rLI, rJI, nI_add, pk_sub, kc_0, kc_1, kc_2, kc_3, kc_4, kc_5, reduceIte, Nat.reduceEqDiff, Nat.add_zero, rI_hold, rI_hold, rL_hold, n1, hf4308, hf4311]; done) | (simp (disch := omega) only [rI, rIe, rA, rIA, rLA, rJA, rVI, rQI, rVA, rQA, upd_at,  rAI, rLI, rJI, nI_add, pk_sub, kc_0, kc_1, kc_2, kc_3, kc_4, kc_5, reduceIte, Nat.reduceEqDiff, Nat.add_zero, rI_hold, rI_hold, rL_hold, n1, hf4308, hf4311]; exact congrArg nI (by omega))) ?_
  refine Bod.icF dc_114_30 rfl (k2_le_F f4308 f4311 rfl rfl (by omega) (by omega)) ?_
  refine Bod.go dc_114_33 rfl ?_
  refine Bod.get dc_114_34 fr_114_15 (mk_43 _) rfl ?_
  refine Bod.bip 13 (by decide) dc_114_37 ?_
  refine Bod.go dc_114_39 rfl ?_
  refine Bod.get dc_114_40 fr_114_46 (mk_43 _) rfl ?_
  refine Bod.eqI (nI f4308) (by first | (simp (disch := omega) only [rI, rIe, rA, rIA, rLA, rJA, rVI, rQI, rVA, rQA, upd_at,  rAI, rLI, rJI, nI_add, pk_sub, kc_0, kc_1, kc_2, kc_3, kc_4, kc_5, reduceIte, Nat.reduceEqDiff, Nat.add_zero, rI_hold, rI_hold, rL_hold, n1, hf4308, hf4311]; done) | (simp (disch := omega) only [rI, rIe, rA, rIA, rLA, rJA, rVI, rQI, rVA, rQA, upd_at,  rAI, rLI, rJI, nI_add, pk_sub, kc_0, kc_1, kc_2, kc_3, kc_4, kc_5, reduceIte, Nat.reduceEqDiff, Nat.add_zero, rI_hold, rI_hold, rL_hold, n1, hf4308, hf4311]; exact congrArg nI (by omega))) ?_
  refine Bod.go dc_114_43 rfl ?_
  refine Bod.get dc_114_44 fr_114_214 (mk_43 _) rfl ?_
  refine Bod.eqI (nI f4311) (by first | (simp (disch := omega) only [rI, rIe, rA, rIA, rLA, rJA, rVI, rQI, rVA, rQA, upd_at,  rAI, rLI, rJI, nI_add, pk_sub, kc_0, kc_1, kc_2, kc_3, kc_4, kc_5, reduceIte, Nat.reduceEqDiff, Nat.add_zero, rI_hold, rI_hold, rL_hold, n1, hf4308, hf4311]; done) | (simp (disch := omega) only [rI, rIe, rA, rIA, rLA, rJA, rVI, rQI, rVA, rQA, upd_at,  rAI, rLI, rJI, nI_add, pk_sub, kc_0, kc_1, kc_2, kc_3, kc_4, kc_5, reduceIte, Nat.reduceEqDiff, Nat.add_zero, rI_hold, rI_hold, rL_hold, n1, hf4308, hf4311]; exact congrArg nI (by omega))) ?_
  refine Bod.subN (f4308 - f4311) (by omega) (by omega) dc_114_47 ?_
  refine Bod.virt (r := []) dc_114_48 kr_114_116 ⟨Or.inr rfl, ow_54, cl_7⟩ (by rw [np_54]; rfl) (by rw [np_54]; rfl) (ob_of (mk_23 _)) (Nat.le_of_ble_eq_true rfl) (c3  ) ?_
  show Bod _ _ _ _ [_] _ _ _
  refine Bod.go dc_114_51 rfl ?_
  refine Bod.go dc_114_52 rfl ?_
  refine Bod.ifT dc_114_53 rfl (k1_eq_T (k_eq 0 0 rfl rfl (by omega))) ?_
  refine Bod.go dc_114_75 rfl ?_
  refine Bod.get dc_114_76 fr_114_15 (mk_43 _) rfl ?_
  refine Bod.ic 4 (by decide) dc_114_79 ?_
  refine Bod.go dc_114_80 rfl ?_
  refine Bod.get dc_114_81 fr_114_49 (mk_43 _) rfl ?_
  refine Bod.eqI (nI f4309) (by first | (simp (disch := omega) only [rI, rIe, rA, rIA, rLA, rJA, rVI, rQI, rVA, rQA, upd_at,  rAI, rLI, rJI, nI_add, pk_sub, kc_0, kc_1, kc_2, kc_3, kc_4, kc_5, reduceIte, Nat.reduceEqDiff, Nat.add_zero, rI_hold, rI_hold, rL_hold, n1, hf4308, hf4311, hf4309]; done) | (simp (disch := omega) only [rI, rIe, rA, rIA, rLA, rJA, rVI, rQI, rVA, rQA, upd_at,  rAI, rLI, rJI, nI_add, pk_sub, kc_0, kc_1, kc_2, kc_3, kc_4, kc_5, reduceIte, Nat.reduceEqDiff, Nat.add_zero, rI_hold, rI_hold, rL_hold, n1, hf4308, hf4311, hf4309]; exact congrArg nI (by omega))) ?_
  refine Bod.virt (r := []) dc_114_84 kr_114_116 ⟨Or.inr rfl, ow_54, cl_7⟩ (by rw [np_54]; rfl) (by rw [np_54]; rfl) (ob_of (mk_23 _)) (Nat.le_of_ble_eq_true rfl) (c4  ) ?_
  show Bod _ _ _ _ [_] _ _ _
  refine Bod.go dc_114_87 rfl ?_
  exact Bod.retV dc_114_88 rt_114
theorem cLvC_8 {d : Nat} {S : cS} {S1 : cS} {S2 : cS} {f4308 : Nat} {f4311 : Nat} {S3 : cS} {a : Nat} {S4 : cS} {a1 : Nat} (n1 : sI S 4309 = Int32.ofInt (-1)) (c1 : Ans (d + 8) 44 [.ref 31] S none S1) (c2 : Ans (d + 8) 40 [.ref 31] S1 none S2) (hf4308 : sI S2 4308 = nI f4308) (mf4308 : f4308 < 2 ^ 20) (hf4311 : sI S2 4311 = nI f4311) (mf4311 : f4311 < 2 ^ 20) (b2 : f4311 < f4308) (b3 : f4311 ≤ f4308) (ma : a < 2 ^ 20) (c3 : Ans (d + 8) 54 [.ref 23, .int (nI 13), .int (nI (f4308 - f4311))] S2 (some (.int (nI a))) S3) (n4 : sI S3 4309 = Int32.ofInt (-1)) (ma1 : a1 < 2 ^ 20) (c4 : Ans (d + 8) 54 [.ref 23, .int (nI 4), .int (Int32.ofInt (-1))] S3 (some (.int (nI a1))) S4) : Bod (d + 8) 114 0 [(0, .ref 43), (1, .int (nI 0))] [] S none (S4) := by
  refine Bod.go dc_114_0 rfl ?_
  refine Bod.get dc_114_1 fr_114_49 (mk_43 _) rfl ?_
  refine Bod.eqI (Int32.ofInt (-1)) (by first | assumption | rfl | exact congrArg nI (by omega) | (simp (disch := omega) only [rI, rIe, rA, rIA, rLA, rJA, rVI, rQI, rVA, rQA, upd_at,  rAI, rLI, rJI, nI_add, pk_sub, kc_0, kc_1, kc_2, kc_3, kc_4, kc_5, reduceIte, Nat.reduceEqDiff, Nat.add_zero, rI_hold, rI_hold, rL_hold, n1]; done)) ?_
  refine Bod.go dc_114_4 rfl ?_
  refine Bod.icF dc_114_5 rfl (by decide) ?_
  refine Bod.go dc_114_8 rfl ?_
  refine Bod.get dc_114_9 fr_114_9 (mk_43 _) rfl ?_
  refine Bod.virt (r := []) dc_114_12 kr_114_76 ⟨Or.inr rfl, ow_44, cl_3⟩ (by rw [np_44]; rfl) (by rw [np_44]; rfl) (ob_of (mk_31 _)) (Nat.le_of_ble_eq_true rfl) (c1  ) ?_
  show Bod _ _ _ _ [] _ _ _
  refine Bod.go dc_114_15 rfl ?_
  refine Bod.get dc_114_16 fr_114_9 (mk_43 _) rfl ?_
  refine Bod.virt (r := []) dc_114_19 kr_114_192 ⟨Or.inr rfl, ow_40, cl_3⟩ (by rw [np_40]; rfl) (by rw [np_40]; rfl) (ob_of (mk_31 _)) (Nat.le_of_ble_eq_true rfl) (c2  ) ?_
  show Bod _ _ _ _ [] _ _ _
  refine Bod.go dc_114_22 rfl ?_
  refine Bod.get dc_114_23 fr_114_46 (mk_43 _) rfl ?_
  refine Bod.eqI (nI f4308) (by first | (simp (disch := omega) only [rI, rIe, rA, rIA, rLA, rJA, rVI, rQI, rVA, rQA, upd_at,  rAI, rLI, rJI, nI_add, pk_sub, kc_0, kc_1, kc_2, kc_3, kc_4, kc_5, reduceIte, Nat.reduceEqDiff, Nat.add_zero, rI_hold, rI_hold, rL_hold, n1, hf4308]; done) | (simp (disch := omega) only [rI, rIe, rA, rIA, rLA, rJA, rVI, rQI, rVA, rQA, upd_at,  rAI, rLI, rJI, nI_add, pk_sub, kc_0, kc_1, kc_2, kc_3, kc_4, kc_5, reduceIte, Nat.reduceEqDiff, Nat.add_zero, rI_hold, rI_hold, rL_hold, n1, hf4308]; exact congrArg nI (by omega))) ?_
  refine Bod.go dc_114_26 rfl ?_
  refine Bod.get dc_114_27 fr_114_214 (mk_43 _) rfl ?_
  refine Bod.eqI (nI f4311) (by first | (simp (disch := omega) only [rI, rIe, rA, rIA, rLA, rJA, rVI, rQI, rVA, rQA, upd_at,  rAI, rLI, rJI, nI_add, pk_sub, kc_0, kc_1, kc_2, kc_3, kc_4, kc_5, reduceIte, Nat.reduceEqDiff, Nat.add_zero, rI_hold, rI_hold, rL_hold, n1, hf4308, hf4311]; done) | (simp (disch := omega) only [rI, rIe, rA, rIA, rLA, rJA, rVI, rQI, rVA, rQA, upd_at,  rAI, rLI, rJI, nI_add, pk_sub, kc_0, kc_1, kc_2, kc_3, kc_4, kc_5, reduceIte, Nat.reduceEqDiff, Nat.add_zero, rI_hold, rI_hold, rL_hold, n1, hf4308, hf4311]; exact congrArg nI (by omega))) ?_
  refine Bod.icF dc_114_30 rfl (k2_le_F f4308 f4311 rfl rfl (by omega) (by omega)) ?_
  refine Bod.go dc_114_33 rfl ?_
  refine Bod.get dc_114_34 fr_114_15 (mk_43 _) rfl ?_
  refine Bod.bip 13 (by decide) dc_114_37 ?_
  refine Bod.go dc_114_39 rfl ?_
  refine Bod.get dc_114_40 fr_114_46 (mk_43 _) rfl ?_
  refine Bod.eqI (nI f4308) (by first | (simp (disch := omega) only [rI, rIe, rA, rIA, rLA, rJA, rVI, rQI, rVA, rQA, upd_at,  rAI, rLI, rJI, nI_add, pk_sub, kc_0, kc_1, kc_2, kc_3, kc_4, kc_5, reduceIte, Nat.reduceEqDiff, Nat.add_zero, rI_hold, rI_hold, rL_hold, n1, hf4308, hf4311]; done) | (simp (disch := omega) only [rI, rIe, rA, rIA, rLA, rJA, rVI, rQI, rVA, rQA, upd_at,  rAI, rLI, rJI, nI_add, pk_sub, kc_0, kc_1, kc_2, kc_3, kc_4, kc_5, reduceIte, Nat.reduceEqDiff, Nat.add_zero, rI_hold, rI_hold, rL_hold, n1, hf4308, hf4311]; exact congrArg nI (by omega))) ?_
  refine Bod.go dc_114_43 rfl ?_
  refine Bod.get dc_114_44 fr_114_214 (mk_43 _) rfl ?_
  refine Bod.eqI (nI f4311) (by first | (simp (disch := omega) only [rI, rIe, rA, rIA, rLA, rJA, rVI, rQI, rVA, rQA, upd_at,  rAI, rLI, rJI, nI_add, pk_sub, kc_0, kc_1, kc_2, kc_3, kc_4, kc_5, reduceIte, Nat.reduceEqDiff, Nat.add_zero, rI_hold, rI_hold, rL_hold, n1, hf4308, hf4311]; done) | (simp (disch := omega) only [rI, rIe, rA, rIA, rLA, rJA, rVI, rQI, rVA, rQA, upd_at,  rAI, rLI, rJI, nI_add, pk_sub, kc_0, kc_1, kc_2, kc_3, kc_4, kc_5, reduceIte, Nat.reduceEqDiff, Nat.add_zero, rI_hold, rI_hold, rL_hold, n1, hf4308, hf4311]; exact congrArg nI (by omega))) ?_
  refine Bod.subN (f4308 - f4311) (by omega) (by omega) dc_114_47 ?_
  refine Bod.virt (r := []) dc_114_48 kr_114_116 ⟨Or.inr rfl, ow_54, cl_7⟩ (by rw [np_54]; rfl) (by rw [np_54]; rfl) (ob_of (mk_23 _)) (Nat.le_of_ble_eq_true rfl) (c3  ) ?_
  show Bod _ _ _ _ [_] _ _ _
  refine Bod.go dc_114_51 rfl ?_
  refine Bod.go dc_114_52 rfl ?_
  refine Bod.ifT dc_114_53 rfl (k1_eq_T (k_eq 0 0 rfl rfl (by omega))) ?_
  refine Bod.go dc_114_75 rfl ?_
  refine Bod.get dc_114_76 fr_114_15 (mk_43 _) rfl ?_
  refine Bod.ic 4 (by decide) dc_114_79 ?_
  refine Bod.go dc_114_80 rfl ?_
  refine Bod.get dc_114_81 fr_114_49 (mk_43 _) rfl ?_
  refine Bod.eqI (Int32.ofInt (-1)) (by first | (simp (disch := omega) only [rI, rIe, rA, rIA, rLA, rJA, rVI, rQI, rVA, rQA, upd_at,  rAI, rLI, rJI, nI_add, pk_sub, kc_0, kc_1, kc_2, kc_3, kc_4, kc_5, reduceIte, Nat.reduceEqDiff, Nat.add_zero, rI_hold, rI_hold, rL_hold, n1, hf4308, hf4311, n4]; done) | (simp (disch := omega) only [rI, rIe, rA, rIA, rLA, rJA, rVI, rQI, rVA, rQA, upd_at,  rAI, rLI, rJI, nI_add, pk_sub, kc_0, kc_1, kc_2, kc_3, kc_4, kc_5, reduceIte, Nat.reduceEqDiff, Nat.add_zero, rI_hold, rI_hold, rL_hold, n1, hf4308, hf4311, n4]; exact congrArg nI (by omega))) ?_
  refine Bod.virt (r := []) dc_114_84 kr_114_116 ⟨Or.inr rfl, ow_54, cl_7⟩ (by rw [np_54]; rfl) (by rw [np_54]; rfl) (ob_of (mk_23 _)) (Nat.le_of_ble_eq_true rfl) (c4  ) ?_
  show Bod _ _ _ _ [_] _ _ _
  refine Bod.go dc_114_87 rfl ?_
  exact Bod.retV dc_114_88 rt_114
theorem cGl0_1 {d : Nat} {S Sf : cS} {v : Option Value} {S1 : cS} {tk : Nat} (c1 : Ans (d + 8) 69 [.ref 32] S (some (.int (nI 1))) S1) (htk : sI S1 3105 = nI tk) (mtk : tk < 2 ^ 20) (b1 : tk = 0) (hB : ∀ lv1 : sm_L, sm_get lv1 0 = some (.ref 43) → sm_get lv1 1 = some (.int (nI 0)) → sm_get lv1 2 = some (.int (nI 0)) → Bod (d + 8) 115 35 lv1 [] (S1) v Sf) : Bod (d + 8) 115 0 [(0, .ref 43)] [] S v Sf := by
  refine Bod.go dc_115_0 rfl ?_
  refine Bod.get dc_115_1 fr_115_19 (mk_43 _) rfl ?_
  refine Bod.virt (r := []) dc_115_4 kr_115_204 ⟨Or.inr rfl, ow_69, cl_8⟩ (by rw [np_69]; rfl) (by rw [np_69]; rfl) (ob_of (mk_32 _)) (Nat.le_of_ble_eq_true rfl) (c1  ) ?_
  show Bod _ _ _ _ [_] _ _ _
  refine Bod.ifT dc_115_7 rfl (k1_ne_T (k_ne 1 0 rfl rfl (by omega) (by omega) (by omega))) ?_
  refine Bod.go dc_115_17 rfl ?_
  refine Bod.get dc_115_18 fr_115_9 (mk_43 _) rfl ?_
  refine Bod.get dc_115_21 fr_115_79 (mk_31 _) rfl ?_
  refine Bod.eqI (nI tk) (by first | (simp (disch := omega) only [rI, rIe, rA, rIA, rLA, rJA, rVI, rQI, rVA, rQA, upd_at,  rAI, rLI, rJI, nI_add, pk_sub, kc_0, kc_1, kc_2, kc_3, kc_4, kc_5, reduceIte, Nat.reduceEqDiff, Nat.add_zero, rI_hold, rI_hold, rL_hold, htk]; done) | (simp (disch := omega) only [rI, rIe, rA, rIA, rLA, rJA, rVI, rQI, rVA, rQA, upd_at,  rAI, rLI, rJI, nI_add, pk_sub, kc_0, kc_1, kc_2, kc_3, kc_4, kc_5, reduceIte, Nat.reduceEqDiff, Nat.add_zero, rI_hold, rI_hold, rL_hold, htk]; exact congrArg nI (by omega))) ?_
  refine Bod.ifT dc_115_24 rfl (k1_eq_T (k_eq tk 0 rfl rfl (by omega))) ?_
  refine Bod.ic 0 (by decide) dc_115_31 ?_
  refine Bod.istn dc_115_32 (by rw [ml_115]; exact Nat.le_of_ble_eq_true rfl) ?_
  refine Bod.ic 0 (by decide) dc_115_33 ?_
  refine Bod.istn dc_115_34 (by rw [ml_115]; exact Nat.le_of_ble_eq_true rfl) ?_
  exact hB _ (by first | rfl | exact (by repeat (first | exact rfl | exact sm_get_p1 | exact sm_get_p2e | refine sm_get_p1m (by decide) (by decide) ?_ | refine sm_get_p1n (by decide) rfl ?_ | refine sm_get_p2n (by decide) (by decide) rfl ?_))) (by first | rfl | exact (by repeat (first | exact rfl | exact sm_get_p1 | exact sm_get_p2e | refine sm_get_p1m (by decide) (by decide) ?_ | refine sm_get_p1n (by decide) rfl ?_ | refine sm_get_p2n (by decide) (by decide) rfl ?_))) (by first | rfl | exact (by repeat (first | exact rfl | exact sm_get_p1 | exact sm_get_p2e | refine sm_get_p1m (by decide) (by decide) ?_ | refine sm_get_p1n (by decide) rfl ?_ | refine sm_get_p2n (by decide) (by decide) rfl ?_)))
theorem cGl0_2 {d : Nat} {S Sf : cS} {v : Option Value} {S1 : cS} {tk : Nat} (c1 : Ans (d + 8) 69 [.ref 32] S (some (.int (nI 1))) S1) (htk : sI S1 3105 = nI tk) (mtk : tk < 2 ^ 20) (b1 : tk ≠ 0) (hB : ∀ lv1 : sm_L, sm_get lv1 0 = some (.ref 43) → sm_get lv1 1 = some (.int (nI 1)) → sm_get lv1 2 = some (.int (nI 0)) → Bod (d + 8) 115 35 lv1 [] (S1) v Sf) : Bod (d + 8) 115 0 [(0, .ref 43)] [] S v Sf := by
  refine Bod.go dc_115_0 rfl ?_
  refine Bod.get dc_115_1 fr_115_19 (mk_43 _) rfl ?_
  refine Bod.virt (r := []) dc_115_4 kr_115_204 ⟨Or.inr rfl, ow_69, cl_8⟩ (by rw [np_69]; rfl) (by rw [np_69]; rfl) (ob_of (mk_32 _)) (Nat.le_of_ble_eq_true rfl) (c1  ) ?_
  show Bod _ _ _ _ [_] _ _ _
  refine Bod.ifT dc_115_7 rfl (k1_ne_T (k_ne 1 0 rfl rfl (by omega) (by omega) (by omega))) ?_
  refine Bod.go dc_115_17 rfl ?_
  refine Bod.get dc_115_18 fr_115_9 (mk_43 _) rfl ?_
  refine Bod.get dc_115_21 fr_115_79 (mk_31 _) rfl ?_
  refine Bod.eqI (nI tk) (by first | (simp (disch := omega) only [rI, rIe, rA, rIA, rLA, rJA, rVI, rQI, rVA, rQA, upd_at,  rAI, rLI, rJI, nI_add, pk_sub, kc_0, kc_1, kc_2, kc_3, kc_4, kc_5, reduceIte, Nat.reduceEqDiff, Nat.add_zero, rI_hold, rI_hold, rL_hold, htk]; done) | (simp (disch := omega) only [rI, rIe, rA, rIA, rLA, rJA, rVI, rQI, rVA, rQA, upd_at,  rAI, rLI, rJI, nI_add, pk_sub, kc_0, kc_1, kc_2, kc_3, kc_4, kc_5, reduceIte, Nat.reduceEqDiff, Nat.add_zero, rI_hold, rI_hold, rL_hold, htk]; exact congrArg nI (by omega))) ?_
  refine Bod.ifF dc_115_24 rfl (k1_eq_F (k_ne tk 0 rfl rfl (by omega) (by omega) (by omega))) ?_
  refine Bod.ic 1 (by decide) dc_115_27 ?_
  refine Bod.go dc_115_28 rfl ?_
  refine Bod.istn dc_115_32 (by rw [ml_115]; exact Nat.le_of_ble_eq_true rfl) ?_
  refine Bod.ic 0 (by decide) dc_115_33 ?_
  refine Bod.istn dc_115_34 (by rw [ml_115]; exact Nat.le_of_ble_eq_true rfl) ?_
  exact hB _ (by first | rfl | exact (by repeat (first | exact rfl | exact sm_get_p1 | exact sm_get_p2e | refine sm_get_p1m (by decide) (by decide) ?_ | refine sm_get_p1n (by decide) rfl ?_ | refine sm_get_p2n (by decide) (by decide) rfl ?_))) (by first | rfl | exact (by repeat (first | exact rfl | exact sm_get_p1 | exact sm_get_p2e | refine sm_get_p1m (by decide) (by decide) ?_ | refine sm_get_p1n (by decide) rfl ?_ | refine sm_get_p2n (by decide) (by decide) rfl ?_))) (by first | rfl | exact (by repeat (first | exact rfl | exact sm_get_p1 | exact sm_get_p2e | refine sm_get_p1m (by decide) (by decide) ?_ | refine sm_get_p1n (by decide) rfl ?_ | refine sm_get_p2n (by decide) (by decide) rfl ?_)))
theorem cGl0_3 {d : Nat} {S Sf : cS} {v : Option Value} {S1 : cS} {S2 : cS} {tk : Nat} (c1 : Ans (d + 8) 69 [.ref 32] S (some (.int (nI 0))) S1) (c2 : Ans (d + 8) 44 [.ref 31] S1 none S2) (htk : sI S2 3105 = nI tk) (mtk : tk < 2 ^ 20) (b1 : tk = 0) (hB : ∀ lv1 : sm_L, sm_get lv1 0 = some (.ref 43) → sm_get lv1 1 = some (.int (nI 0)) → sm_get lv1 2 = some (.int (nI 0)) → Bod (d + 8) 115 35 lv1 [] (S2) v Sf) : Bod (d + 8) 115 0 [(0, .ref 43)] [] S v Sf := by
  refine Bod.go dc_115_0 rfl ?_
  refine Bod.get dc_115_1 fr_115_19 (mk_43 _) rfl ?_
  refine Bod.virt (r := []) dc_115_4 kr_115_204 ⟨Or.inr rfl, ow_69, cl_8⟩ (by rw [np_69]; rfl) (by rw [np_69]; rfl) (ob_of (mk_32 _)) (Nat.le_of_ble_eq_true rfl) (c1  ) ?_
  show Bod _ _ _ _ [_] _ _ _
  refine Bod.ifF dc_115_7 rfl (k1_ne_F (k_eq 0 0 rfl rfl (by omega))) ?_
  refine Bod.go dc_115_10 rfl ?_
  refine Bod.get dc_115_11 fr_115_9 (mk_43 _) rfl ?_
  refine Bod.virt (r := []) dc_115_14 kr_115_76 ⟨Or.inr rfl, ow_44, cl_3⟩ (by rw [np_44]; rfl) (by rw [np_44]; rfl) (ob_of (mk_31 _)) (Nat.le_of_ble_eq_true rfl) (c2  ) ?_
  show Bod _ _ _ _ [] _ _ _
  refine Bod.go dc_115_17 rfl ?_
  refine Bod.get dc_115_18 fr_115_9 (mk_43 _) rfl ?_
  refine Bod.get dc_115_21 fr_115_79 (mk_31 _) rfl ?_
  refine Bod.eqI (nI tk) (by first | (simp (disch := omega) only [rI, rIe, rA, rIA, rLA, rJA, rVI, rQI, rVA, rQA, upd_at,  rAI, rLI, rJI, nI_add, pk_sub, kc_0, kc_1, kc_2, kc_3, kc_4, kc_5, reduceIte, Nat.reduceEqDiff, Nat.add_zero, rI_hold, rI_hold, rL_hold, htk]; done) | (simp (disch := omega) only [rI, rIe, rA, rIA, rLA, rJA, rVI, rQI, rVA, rQA, upd_at,  rAI, rLI, rJI, nI_add, pk_sub, kc_0, kc_1, kc_2, kc_3, kc_4, kc_5, reduceIte, Nat.reduceEqDiff, Nat.add_zero, rI_hold, rI_hold, rL_hold, htk]; exact congrArg nI (by omega))) ?_
  refine Bod.ifT dc_115_24 rfl (k1_eq_T (k_eq tk 0 rfl rfl (by omega))) ?_
  refine Bod.ic 0 (by decide) dc_115_31 ?_
  refine Bod.istn dc_115_32 (by rw [ml_115]; exact Nat.le_of_ble_eq_true rfl) ?_
  refine Bod.ic 0 (by decide) dc_115_33 ?_
  refine Bod.istn dc_115_34 (by rw [ml_115]; exact Nat.le_of_ble_eq_true rfl) ?_
  exact hB _ (by first | rfl | exact (by repeat (first | exact rfl | exact sm_get_p1 | exact sm_get_p2e | refine sm_get_p1m (by decide) (by decide) ?_ | refine sm_get_p1n (by decide) rfl ?_ | refine sm_get_p2n (by decide) (by decide) rfl ?_))) (by first | rfl | exact (by repeat (first | exact rfl | exact sm_get_p1 | exact sm_get_p2e | refine sm_get_p1m (by decide) (by decide) ?_ | refine sm_get_p1n (by decide) rfl ?_ | refine sm_get_p2n (by decide) (by decide) rfl ?_))) (by first | rfl | exact (by repeat (first | exact rfl | exact sm_get_p1 | exact sm_get_p2e | refine sm_get_p1m (by decide) (by decide) ?_ | refine sm_get_p1n (by decide) rfl ?_ | refine sm_get_p2n (by decide) (by decide) rfl ?_)))
theorem cGl0_4 {d : Nat} {S Sf : cS} {v : Option Value} {S1 : cS} {S2 : cS} {tk : Nat} (c1 : Ans (d + 8) 69 [.ref 32] S (some (.int (nI 0))) S1) (c2 : Ans (d + 8) 44 [.ref 31] S1 none S2) (htk : sI S2 3105 = nI tk) (mtk : tk < 2 ^ 20) (b1 : tk ≠ 0) (hB : ∀ lv1 : sm_L, sm_get lv1 0 = some (.ref 43) → sm_get lv1 1 = some (.int (nI 1)) → sm_get lv1 2 = some (.int (nI 0)) → Bod (d + 8) 115 35 lv1 [] (S2) v Sf) : Bod (d + 8) 115 0 [(0, .ref 43)] [] S v Sf := by
  refine Bod.go dc_115_0 rfl ?_
  refine Bod.get dc_115_1 fr_115_19 (mk_43 _) rfl ?_
  refine Bod.virt (r := []) dc_115_4 kr_115_204 ⟨Or.inr rfl, ow_69, cl_8⟩ (by rw [np_69]; rfl) (by rw [np_69]; rfl) (ob_of (mk_32 _)) (Nat.le_of_ble_eq_true rfl) (c1  ) ?_
  show Bod _ _ _ _ [_] _ _ _
  refine Bod.ifF dc_115_7 rfl (k1_ne_F (k_eq 0 0 rfl rfl (by omega))) ?_
  refine Bod.go dc_115_10 rfl ?_
  refine Bod.get dc_115_11 fr_115_9 (mk_43 _) rfl ?_
  refine Bod.virt (r := []) dc_115_14 kr_115_76 ⟨Or.inr rfl, ow_44, cl_3⟩ (by rw [np_44]; rfl) (by rw [np_44]; rfl) (ob_of (mk_31 _)) (Nat.le_of_ble_eq_true rfl) (c2  ) ?_
  show Bod _ _ _ _ [] _ _ _
  refine Bod.go dc_115_17 rfl ?_
  refine Bod.get dc_115_18 fr_115_9 (mk_43 _) rfl ?_
  refine Bod.get dc_115_21 fr_115_79 (mk_31 _) rfl ?_
  refine Bod.eqI (nI tk) (by first | (simp (disch := omega) only [rI, rIe, rA, rIA, rLA, rJA, rVI, rQI, rVA, rQA, upd_at,  rAI, rLI, rJI, nI_add, pk_sub, kc_0, kc_1, kc_2, kc_3, kc_4, kc_5, reduceIte, Nat.reduceEqDiff, Nat.add_zero, rI_hold, rI_hold, rL_hold, htk]; done) | (simp (disch := omega) only [rI, rIe, rA, rIA, rLA, rJA, rVI, rQI, rVA, rQA, upd_at,  rAI, rLI, rJI, nI_add, pk_sub, kc_0, kc_1, kc_2, kc_3, kc_4, kc_5, reduceIte, Nat.reduceEqDiff, Nat.add_zero, rI_hold, rI_hold, rL_hold, htk]; exact congrArg nI (by omega))) ?_
  refine Bod.ifF dc_115_24 rfl (k1_eq_F (k_ne tk 0 rfl rfl (by omega) (by omega) (by omega))) ?_
  refine Bod.ic 1 (by decide) dc_115_27 ?_
  refine Bod.go dc_115_28 rfl ?_
  refine Bod.istn dc_115_32 (by rw [ml_115]; exact Nat.le_of_ble_eq_true rfl) ?_
  refine Bod.ic 0 (by decide) dc_115_33 ?_
  refine Bod.istn dc_115_34 (by rw [ml_115]; exact Nat.le_of_ble_eq_true rfl) ?_
  exact hB _ (by first | rfl | exact (by repeat (first | exact rfl | exact sm_get_p1 | exact sm_get_p2e | refine sm_get_p1m (by decide) (by decide) ?_ | refine sm_get_p1n (by decide) rfl ?_ | refine sm_get_p2n (by decide) (by decide) rfl ?_))) (by first | rfl | exact (by repeat (first | exact rfl | exact sm_get_p1 | exact sm_get_p2e | refine sm_get_p1m (by decide) (by decide) ?_ | refine sm_get_p1n (by decide) rfl ?_ | refine sm_get_p2n (by decide) (by decide) rfl ?_))) (by first | rfl | exact (by repeat (first | exact rfl | exact sm_get_p1 | exact sm_get_p2e | refine sm_get_p1m (by decide) (by decide) ?_ | refine sm_get_p1n (by decide) rfl ?_ | refine sm_get_p2n (by decide) (by decide) rfl ?_)))
theorem cGlL_1 {d : Nat} {S : cS} {lv : sm_L} {m : Nat} {t : Nat} (q1 : sm_get lv 1 = some (.int (nI m))) (q2 : sm_get lv 2 = some (.int (nI t))) (q0 : sm_get lv 0 = some (.ref 43)) (mm : m < 2 ^ 20) (mt : t < 2 ^ 20) (b1 : m = 0) : Bod (d + 8) 115 35 lv [] S none (S) := by
  refine Bod.ildnG dc_115_35 (by repeat (first | exact q1 | exact sm_get_p1 | exact sm_get_p2e | refine sm_get_p1m (by decide) (by decide) ?_ | refine sm_get_p1n (by decide) rfl ?_ | refine sm_get_p2n (by decide) (by decide) rfl ?_)) ?_
  refine Bod.ifT dc_115_36 rfl (k1_eq_T (k_eq m 0 rfl rfl (by omega))) ?_
  exact Bod.retV dc_115_110 rt_115
theorem cGlL_2 {d : Nat} {S : cS} {lv : sm_L} {m : Nat} {t : Nat} (q1 : sm_get lv 1 = some (.int (nI m))) (q2 : sm_get lv 2 = some (.int (nI t))) (q0 : sm_get lv 0 = some (.ref 43)) (mm : m < 2 ^ 20) (mt : t < 2 ^ 20) (b1 : m ≠ 0) (b2 : 3000 ≤ t) : Bod (d + 8) 115 35 lv [] S none (S) := by
  refine Bod.ildnG dc_115_35 (by repeat (first | exact q1 | exact sm_get_p1 | exact sm_get_p2e | refine sm_get_p1m (by decide) (by decide) ?_ | refine sm_get_p1n (by decide) rfl ?_ | refine sm_get_p2n (by decide) (by decide) rfl ?_)) ?_
  refine Bod.ifF dc_115_36 rfl (k1_eq_F (k_ne m 0 rfl rfl (by omega) (by omega) (by omega))) ?_
  refine Bod.ildnG dc_115_39 (by repeat (first | exact q2 | exact sm_get_p1 | exact sm_get_p2e | refine sm_get_p1m (by decide) (by decide) ?_ | refine sm_get_p1n (by decide) rfl ?_ | refine sm_get_p2n (by decide) (by decide) rfl ?_)) ?_
  refine Bod.sip 3000 (by decide) dc_115_40 ?_
  refine Bod.icT dc_115_43 rfl (k2_ge_T t 3000 rfl rfl (by omega) (by omega)) ?_
  exact Bod.retV dc_115_110 rt_115
theorem cGlL_3 {d : Nat} {S Sf : cS} {v : Option Value} {lv : sm_L} {m : Nat} {t : Nat} {S1 : cS} {S2 : cS} {a : Nat} {tk : Nat} (q1 : sm_get lv 1 = some (.int (nI m))) (q2 : sm_get lv 2 = some (.int (nI t))) (q0 : sm_get lv 0 = some (.ref 43)) (mm : m < 2 ^ 20) (mt : t < 2 ^ 20) (b1 : m ≠ 0) (b2 : t < 3000) (c1 : Ans (d + 8) 40 [.ref 31] S none S1) (ma : a < 2 ^ 20) (c2 : Ans (d + 8) 92 [.ref 43] S1 (some (.int (nI a))) S2) (htk : sI S2 3105 = nI tk) (mtk : tk < 2 ^ 20) (b3 : tk = 0) (b4 : tk ≠ 12) (hB : ∀ lv1 : sm_L, sm_get lv1 0 = some (.ref 43) → sm_get lv1 1 = some (.int (nI 0)) → sm_get lv1 2 = some (.int (nI (t + 1))) → Bod (d + 8) 115 35 lv1 [] (S2) v Sf) : Bod (d + 8) 115 35 lv [] S v Sf := by
  refine Bod.ildnG dc_115_35 (by repeat (first | exact q1 | exact sm_get_p1 | exact sm_get_p2e | refine sm_get_p1m (by decide) (by decide) ?_ | refine sm_get_p1n (by decide) rfl ?_ | refine sm_get_p2n (by decide) (by decide) rfl ?_)) ?_
  refine Bod.ifF dc_115_36 rfl (k1_eq_F (k_ne m 0 rfl rfl (by omega) (by omega) (by omega))) ?_
  refine Bod.ildnG dc_115_39 (by repeat (first | exact q2 | exact sm_get_p1 | exact sm_get_p2e | refine sm_get_p1m (by decide) (by decide) ?_ | refine sm_get_p1n (by decide) rfl ?_ | refine sm_get_p2n (by decide) (by decide) rfl ?_)) ?_
  refine Bod.sip 3000 (by decide) dc_115_40 ?_
  refine Bod.icF dc_115_43 rfl (k2_ge_F t 3000 rfl rfl (by omega) (by omega)) ?_
  refine Bod.aldnG dc_115_46 (by repeat (first | exact q0 | exact sm_get_p1 | exact sm_get_p2e | refine sm_get_p1m (by decide) (by decide) ?_ | refine sm_get_p1n (by decide) rfl ?_ | refine sm_get_p2n (by decide) (by decide) rfl ?_)) ?_
  refine Bod.get dc_115_47 fr_115_9 (mk_43 _) rfl ?_
  refine Bod.virt (r := []) dc_115_50 kr_115_192 ⟨Or.inr rfl, ow_40, cl_3⟩ (by rw [np_40]; rfl) (by rw [np_40]; rfl) (ob_of (mk_31 _)) (Nat.le_of_ble_eq_true rfl) (c1  ) ?_
  show Bod _ _ _ _ [] _ _ _
  refine Bod.aldnG dc_115_53 (by repeat (first | exact q0 | exact sm_get_p1 | exact sm_get_p2e | refine sm_get_p1m (by decide) (by decide) ?_ | refine sm_get_p1n (by decide) rfl ?_ | refine sm_get_p2n (by decide) (by decide) rfl ?_)) ?_
  refine Bod.virt (r := []) dc_115_54 kr_115_220 ⟨Or.inl rfl, ow_92, cl_10⟩ (by rw [np_92]; rfl) (by rw [np_92]; rfl) (ob_of (mk_43 _)) (Nat.le_of_ble_eq_true rfl) (c2  ) ?_
  show Bod _ _ _ _ [_] _ _ _
  refine Bod.istn dc_115_57 (by rw [ml_115]; exact Nat.le_of_ble_eq_true rfl) ?_
  refine Bod.aldnG dc_115_58 (by repeat (first | exact q0 | exact sm_get_p1 | exact sm_get_p2e | refine sm_get_p1m (by decide) (by decide) ?_ | refine sm_get_p1n (by decide) rfl ?_ | refine sm_get_p2n (by decide) (by decide) rfl ?_)) ?_
  refine Bod.get dc_115_59 fr_115_9 (mk_43 _) rfl ?_
  refine Bod.get dc_115_62 fr_115_79 (mk_31 _) rfl ?_
  refine Bod.eqI (nI tk) (by first | (simp (disch := omega) only [rI, rIe, rA, rIA, rLA, rJA, rVI, rQI, rVA, rQA, upd_at,  rAI, rLI, rJI, nI_add, pk_sub, kc_0, kc_1, kc_2, kc_3, kc_4, kc_5, reduceIte, Nat.reduceEqDiff, Nat.add_zero, rI_hold, rI_hold, rL_hold, htk]; done) | (simp (disch := omega) only [rI, rIe, rA, rIA, rLA, rJA, rVI, rQI, rVA, rQA, upd_at,  rAI, rLI, rJI, nI_add, pk_sub, kc_0, kc_1, kc_2, kc_3, kc_4, kc_5, reduceIte, Nat.reduceEqDiff, Nat.add_zero, rI_hold, rI_hold, rL_hold, htk]; exact congrArg nI (by omega))) ?_
  refine Bod.ifT dc_115_65 rfl (k1_eq_T (k_eq tk 0 rfl rfl (by omega))) ?_
  refine Bod.aldnG dc_115_86 (by repeat (first | exact q0 | exact sm_get_p1 | exact sm_get_p2e | refine sm_get_p1m (by decide) (by decide) ?_ | refine sm_get_p1n (by decide) rfl ?_ | refine sm_get_p2n (by decide) (by decide) rfl ?_)) ?_
  refine Bod.get dc_115_87 fr_115_9 (mk_43 _) rfl ?_
  refine Bod.get dc_115_90 fr_115_79 (mk_31 _) rfl ?_
  refine Bod.eqI (nI tk) (by first | (simp (disch := omega) only [rI, rIe, rA, rIA, rLA, rJA, rVI, rQI, rVA, rQA, upd_at,  rAI, rLI, rJI, nI_add, pk_sub, kc_0, kc_1, kc_2, kc_3, kc_4, kc_5, reduceIte, Nat.reduceEqDiff, Nat.add_zero, rI_hold, rI_hold, rL_hold, htk]; done) | (simp (disch := omega) only [rI, rIe, rA, rIA, rLA, rJA, rVI, rQI, rVA, rQA, upd_at,  rAI, rLI, rJI, nI_add, pk_sub, kc_0, kc_1, kc_2, kc_3, kc_4, kc_5, reduceIte, Nat.reduceEqDiff, Nat.add_zero, rI_hold, rI_hold, rL_hold, htk]; exact congrArg nI (by omega))) ?_
  refine Bod.bip 12 (by decide) dc_115_93 ?_
  refine Bod.icT dc_115_95 rfl (k2_ne_T (k_ne tk 12 rfl rfl (by omega) (by omega) (by omega))) ?_
  refine Bod.ic 0 (by decide) dc_115_102 ?_
  refine Bod.istn dc_115_103 (by rw [ml_115]; exact Nat.le_of_ble_eq_true rfl) ?_
  refine Bod.incN (t + 1) (by rw [kc_1, nI_add]) dc_115_104 (by rw [ml_115]; exact Nat.le_of_ble_eq_true rfl) (by repeat (first | exact q2 | exact sm_get_p1 | exact sm_get_p2e | refine sm_get_p1m (by decide) (by decide) ?_ | refine sm_get_p1n (by decide) rfl ?_ | refine sm_get_p2n (by decide) (by decide) rfl ?_)) ?_
  refine Bod.go dc_115_107 rfl ?_
  exact hB _ (by repeat (first | exact q0 | exact sm_get_p1 | exact sm_get_p2e | refine sm_get_p1m (by decide) (by decide) ?_ | refine sm_get_p1n (by decide) rfl ?_ | refine sm_get_p2n (by decide) (by decide) rfl ?_)) (by repeat (first | exact q0 | exact sm_get_p1 | exact sm_get_p2e | refine sm_get_p1m (by decide) (by decide) ?_ | refine sm_get_p1n (by decide) rfl ?_ | refine sm_get_p2n (by decide) (by decide) rfl ?_)) (by repeat (first | exact q0 | exact sm_get_p1 | exact sm_get_p2e | refine sm_get_p1m (by decide) (by decide) ?_ | refine sm_get_p1n (by decide) rfl ?_ | refine sm_get_p2n (by decide) (by decide) rfl ?_))
theorem cGlL_4 {d : Nat} {S Sf : cS} {v : Option Value} {lv : sm_L} {m : Nat} {t : Nat} {S1 : cS} {S2 : cS} {a : Nat} {tk : Nat} (q1 : sm_get lv 1 = some (.int (nI m))) (q2 : sm_get lv 2 = some (.int (nI t))) (q0 : sm_get lv 0 = some (.ref 43)) (mm : m < 2 ^ 20) (mt : t < 2 ^ 20) (b1 : m ≠ 0) (b2 : t < 3000) (c1 : Ans (d + 8) 40 [.ref 31] S none S1) (ma : a < 2 ^ 20) (c2 : Ans (d + 8) 92 [.ref 43] S1 (some (.int (nI a))) S2) (htk : sI S2 3105 = nI tk) (mtk : tk < 2 ^ 20) (b3 : tk = 0) (b4 : tk = 12) (hB : ∀ lv1 : sm_L, sm_get lv1 0 = some (.ref 43) → sm_get lv1 1 = some (.int (nI 1)) → sm_get lv1 2 = some (.int (nI (t + 1))) → Bod (d + 8) 115 35 lv1 [] (S2) v Sf) : Bod (d + 8) 115 35 lv [] S v Sf := by
  refine Bod.ildnG dc_115_35 (by repeat (first | exact q1 | exact sm_get_p1 | exact sm_get_p2e | refine sm_get_p1m (by decide) (by decide) ?_ | refine sm_get_p1n (by decide) rfl ?_ | refine sm_get_p2n (by decide) (by decide) rfl ?_)) ?_
  refine Bod.ifF dc_115_36 rfl (k1_eq_F (k_ne m 0 rfl rfl (by omega) (by omega) (by omega))) ?_
  refine Bod.ildnG dc_115_39 (by repeat (first | exact q2 | exact sm_get_p1 | exact sm_get_p2e | refine sm_get_p1m (by decide) (by decide) ?_ | refine sm_get_p1n (by decide) rfl ?_ | refine sm_get_p2n (by decide) (by decide) rfl ?_)) ?_
  refine Bod.sip 3000 (by decide) dc_115_40 ?_
  refine Bod.icF dc_115_43 rfl (k2_ge_F t 3000 rfl rfl (by omega) (by omega)) ?_
  refine Bod.aldnG dc_115_46 (by repeat (first | exact q0 | exact sm_get_p1 | exact sm_get_p2e | refine sm_get_p1m (by decide) (by decide) ?_ | refine sm_get_p1n (by decide) rfl ?_ | refine sm_get_p2n (by decide) (by decide) rfl ?_)) ?_
  refine Bod.get dc_115_47 fr_115_9 (mk_43 _) rfl ?_
  refine Bod.virt (r := []) dc_115_50 kr_115_192 ⟨Or.inr rfl, ow_40, cl_3⟩ (by rw [np_40]; rfl) (by rw [np_40]; rfl) (ob_of (mk_31 _)) (Nat.le_of_ble_eq_true rfl) (c1  ) ?_
  show Bod _ _ _ _ [] _ _ _
  refine Bod.aldnG dc_115_53 (by repeat (first | exact q0 | exact sm_get_p1 | exact sm_get_p2e | refine sm_get_p1m (by decide) (by decide) ?_ | refine sm_get_p1n (by decide) rfl ?_ | refine sm_get_p2n (by decide) (by decide) rfl ?_)) ?_
  refine Bod.virt (r := []) dc_115_54 kr_115_220 ⟨Or.inl rfl, ow_92, cl_10⟩ (by rw [np_92]; rfl) (by rw [np_92]; rfl) (ob_of (mk_43 _)) (Nat.le_of_ble_eq_true rfl) (c2  ) ?_
  show Bod _ _ _ _ [_] _ _ _
  refine Bod.istn dc_115_57 (by rw [ml_115]; exact Nat.le_of_ble_eq_true rfl) ?_
  refine Bod.aldnG dc_115_58 (by repeat (first | exact q0 | exact sm_get_p1 | exact sm_get_p2e | refine sm_get_p1m (by decide) (by decide) ?_ | refine sm_get_p1n (by decide) rfl ?_ | refine sm_get_p2n (by decide) (by decide) rfl ?_)) ?_
  refine Bod.get dc_115_59 fr_115_9 (mk_43 _) rfl ?_
  refine Bod.get dc_115_62 fr_115_79 (mk_31 _) rfl ?_
  refine Bod.eqI (nI tk) (by first | (simp (disch := omega) only [rI, rIe, rA, rIA, rLA, rJA, rVI, rQI, rVA, rQA, upd_at,  rAI, rLI, rJI, nI_add, pk_sub, kc_0, kc_1, kc_2, kc_3, kc_4, kc_5, reduceIte, Nat.reduceEqDiff, Nat.add_zero, rI_hold, rI_hold, rL_hold, htk]; done) | (simp (disch := omega) only [rI, rIe, rA, rIA, rLA, rJA, rVI, rQI, rVA, rQA, upd_at,  rAI, rLI, rJI, nI_add, pk_sub, kc_0, kc_1, kc_2, kc_3, kc_4, kc_5, reduceIte, Nat.reduceEqDiff, Nat.add_zero, rI_hold, rI_hold, rL_hold, htk]; exact congrArg nI (by omega))) ?_
  refine Bod.ifT dc_115_65 rfl (k1_eq_T (k_eq tk 0 rfl rfl (by omega))) ?_
  refine Bod.aldnG dc_115_86 (by repeat (first | exact q0 | exact sm_get_p1 | exact sm_get_p2e | refine sm_get_p1m (by decide) (by decide) ?_ | refine sm_get_p1n (by decide) rfl ?_ | refine sm_get_p2n (by decide) (by decide) rfl ?_)) ?_
  refine Bod.get dc_115_87 fr_115_9 (mk_43 _) rfl ?_
  refine Bod.get dc_115_90 fr_115_79 (mk_31 _) rfl ?_
  refine Bod.eqI (nI tk) (by first | (simp (disch := omega) only [rI, rIe, rA, rIA, rLA, rJA, rVI, rQI, rVA, rQA, upd_at,  rAI, rLI, rJI, nI_add, pk_sub, kc_0, kc_1, kc_2, kc_3, kc_4, kc_5, reduceIte, Nat.reduceEqDiff, Nat.add_zero, rI_hold, rI_hold, rL_hold, htk]; done) | (simp (disch := omega) only [rI, rIe, rA, rIA, rLA, rJA, rVI, rQI, rVA, rQA, upd_at,  rAI, rLI, rJI, nI_add, pk_sub, kc_0, kc_1, kc_2, kc_3, kc_4, kc_5, reduceIte, Nat.reduceEqDiff, Nat.add_zero, rI_hold, rI_hold, rL_hold, htk]; exact congrArg nI (by omega))) ?_
  refine Bod.bip 12 (by decide) dc_115_93 ?_
  refine Bod.icF dc_115_95 rfl (k2_ne_F (k_eq tk 12 rfl rfl (by omega))) ?_
  refine Bod.ic 1 (by decide) dc_115_98 ?_
  refine Bod.go dc_115_99 rfl ?_
  refine Bod.istn dc_115_103 (by rw [ml_115]; exact Nat.le_of_ble_eq_true rfl) ?_
  refine Bod.incN (t + 1) (by rw [kc_1, nI_add]) dc_115_104 (by rw [ml_115]; exact Nat.le_of_ble_eq_true rfl) (by repeat (first | exact q2 | exact sm_get_p1 | exact sm_get_p2e | refine sm_get_p1m (by decide) (by decide) ?_ | refine sm_get_p1n (by decide) rfl ?_ | refine sm_get_p2n (by decide) (by decide) rfl ?_)) ?_
  refine Bod.go dc_115_107 rfl ?_
  exact hB _ (by repeat (first | exact q0 | exact sm_get_p1 | exact sm_get_p2e | refine sm_get_p1m (by decide) (by decide) ?_ | refine sm_get_p1n (by decide) rfl ?_ | refine sm_get_p2n (by decide) (by decide) rfl ?_)) (by repeat (first | exact q0 | exact sm_get_p1 | exact sm_get_p2e | refine sm_get_p1m (by decide) (by decide) ?_ | refine sm_get_p1n (by decide) rfl ?_ | refine sm_get_p2n (by decide) (by decide) rfl ?_)) (by repeat (first | exact q0 | exact sm_get_p1 | exact sm_get_p2e | refine sm_get_p1m (by decide) (by decide) ?_ | refine sm_get_p1n (by decide) rfl ?_ | refine sm_get_p2n (by decide) (by decide) rfl ?_))
theorem cGlL_5 {d : Nat} {S Sf : cS} {v : Option Value} {lv : sm_L} {m : Nat} {t : Nat} {S1 : cS} {S2 : cS} {a : Nat} {tk : Nat} {S3 : cS} {tk1 : Nat} (q1 : sm_get lv 1 = some (.int (nI m))) (q2 : sm_get lv 2 = some (.int (nI t))) (q0 : sm_get lv 0 = some (.ref 43)) (mm : m < 2 ^ 20) (mt : t < 2 ^ 20) (b1 : m ≠ 0) (b2 : t < 3000) (c1 : Ans (d + 8) 40 [.ref 31] S none S1) (ma : a < 2 ^ 20) (c2 : Ans (d + 8) 92 [.ref 43] S1 (some (.int (nI a))) S2) (htk : sI S2 3105 = nI tk) (mtk : tk < 2 ^ 20) (b3 : tk ≠ 0) (c3 : Ans (d + 8) 116 [.ref 32, .int (nI a)] S2 (some (.int (nI 1))) S3) (htk1 : sI S3 3105 = nI tk1) (mtk1 : tk1 < 2 ^ 20) (b4 : tk1 ≠ 12) (hB : ∀ lv1 : sm_L, sm_get lv1 0 = some (.ref 43) → sm_get lv1 1 = some (.int (nI 0)) → sm_get lv1 2 = some (.int (nI (t + 1))) → Bod (d + 8) 115 35 lv1 [] (S3) v Sf) : Bod (d + 8) 115 35 lv [] S v Sf := by
  refine Bod.ildnG dc_115_35 (by repeat (first | exact q1 | exact sm_get_p1 | exact sm_get_p2e | refine sm_get_p1m (by decide) (by decide) ?_ | refine sm_get_p1n (by decide) rfl ?_ | refine sm_get_p2n (by decide) (by decide) rfl ?_)) ?_
  refine Bod.ifF dc_115_36 rfl (k1_eq_F (k_ne m 0 rfl rfl (by omega) (by omega) (by omega))) ?_
  refine Bod.ildnG dc_115_39 (by repeat (first | exact q2 | exact sm_get_p1 | exact sm_get_p2e | refine sm_get_p1m (by decide) (by decide) ?_ | refine sm_get_p1n (by decide) rfl ?_ | refine sm_get_p2n (by decide) (by decide) rfl ?_)) ?_
  refine Bod.sip 3000 (by decide) dc_115_40 ?_
  refine Bod.icF dc_115_43 rfl (k2_ge_F t 3000 rfl rfl (by omega) (by omega)) ?_
  refine Bod.aldnG dc_115_46 (by repeat (first | exact q0 | exact sm_get_p1 | exact sm_get_p2e | refine sm_get_p1m (by decide) (by decide) ?_ | refine sm_get_p1n (by decide) rfl ?_ | refine sm_get_p2n (by decide) (by decide) rfl ?_)) ?_
  refine Bod.get dc_115_47 fr_115_9 (mk_43 _) rfl ?_
  refine Bod.virt (r := []) dc_115_50 kr_115_192 ⟨Or.inr rfl, ow_40, cl_3⟩ (by rw [np_40]; rfl) (by rw [np_40]; rfl) (ob_of (mk_31 _)) (Nat.le_of_ble_eq_true rfl) (c1  ) ?_
  show Bod _ _ _ _ [] _ _ _
  refine Bod.aldnG dc_115_53 (by repeat (first | exact q0 | exact sm_get_p1 | exact sm_get_p2e | refine sm_get_p1m (by decide) (by decide) ?_ | refine sm_get_p1n (by decide) rfl ?_ | refine sm_get_p2n (by decide) (by decide) rfl ?_)) ?_
  refine Bod.virt (r := []) dc_115_54 kr_115_220 ⟨Or.inl rfl, ow_92, cl_10⟩ (by rw [np_92]; rfl) (by rw [np_92]; rfl) (ob_of (mk_43 _)) (Nat.le_of_ble_eq_true rfl) (c2  ) ?_
  show Bod _ _ _ _ [_] _ _ _
  refine Bod.istn dc_115_57 (by rw [ml_115]; exact Nat.le_of_ble_eq_true rfl) ?_
  refine Bod.aldnG dc_115_58 (by repeat (first | exact q0 | exact sm_get_p1 | exact sm_get_p2e | refine sm_get_p1m (by decide) (by decide) ?_ | refine sm_get_p1n (by decide) rfl ?_ | refine sm_get_p2n (by decide) (by decide) rfl ?_)) ?_
  refine Bod.get dc_115_59 fr_115_9 (mk_43 _) rfl ?_
  refine Bod.get dc_115_62 fr_115_79 (mk_31 _) rfl ?_
  refine Bod.eqI (nI tk) (by first | (simp (disch := omega) only [rI, rIe, rA, rIA, rLA, rJA, rVI, rQI, rVA, rQA, upd_at,  rAI, rLI, rJI, nI_add, pk_sub, kc_0, kc_1, kc_2, kc_3, kc_4, kc_5, reduceIte, Nat.reduceEqDiff, Nat.add_zero, rI_hold, rI_hold, rL_hold, htk]; done) | (simp (disch := omega) only [rI, rIe, rA, rIA, rLA, rJA, rVI, rQI, rVA, rQA, upd_at,  rAI, rLI, rJI, nI_add, pk_sub, kc_0, kc_1, kc_2, kc_3, kc_4, kc_5, reduceIte, Nat.reduceEqDiff, Nat.add_zero, rI_hold, rI_hold, rL_hold, htk]; exact congrArg nI (by omega))) ?_
  refine Bod.ifF dc_115_65 rfl (k1_eq_F (k_ne tk 0 rfl rfl (by omega) (by omega) (by omega))) ?_
  refine Bod.aldnG dc_115_68 (by repeat (first | exact q0 | exact sm_get_p1 | exact sm_get_p2e | refine sm_get_p1m (by decide) (by decide) ?_ | refine sm_get_p1n (by decide) rfl ?_ | refine sm_get_p2n (by decide) (by decide) rfl ?_)) ?_
  refine Bod.get dc_115_69 fr_115_19 (mk_43 _) rfl ?_
  refine Bod.ildnG dc_115_72 (by repeat (first | exact q0 | exact sm_get_p1 | exact sm_get_p2e | refine sm_get_p1m (by decide) (by decide) ?_ | refine sm_get_p1n (by decide) rfl ?_ | refine sm_get_p2n (by decide) (by decide) rfl ?_)) ?_
  refine Bod.virt (r := []) dc_115_73 kr_115_223 ⟨Or.inr rfl, ow_116, cl_8⟩ (by rw [np_116]; rfl) (by rw [np_116]; rfl) (ob_of (mk_32 _)) (Nat.le_of_ble_eq_true rfl) (c3  ) ?_
  show Bod _ _ _ _ [_] _ _ _
  refine Bod.ifT dc_115_76 rfl (k1_ne_T (k_ne 1 0 rfl rfl (by omega) (by omega) (by omega))) ?_
  refine Bod.aldnG dc_115_86 (by repeat (first | exact q0 | exact sm_get_p1 | exact sm_get_p2e | refine sm_get_p1m (by decide) (by decide) ?_ | refine sm_get_p1n (by decide) rfl ?_ | refine sm_get_p2n (by decide) (by decide) rfl ?_)) ?_
  refine Bod.get dc_115_87 fr_115_9 (mk_43 _) rfl ?_
  refine Bod.get dc_115_90 fr_115_79 (mk_31 _) rfl ?_
  refine Bod.eqI (nI tk1) (by first | (simp (disch := omega) only [rI, rIe, rA, rIA, rLA, rJA, rVI, rQI, rVA, rQA, upd_at,  rAI, rLI, rJI, nI_add, pk_sub, kc_0, kc_1, kc_2, kc_3, kc_4, kc_5, reduceIte, Nat.reduceEqDiff, Nat.add_zero, rI_hold, rI_hold, rL_hold, htk, htk1]; done) | (simp (disch := omega) only [rI, rIe, rA, rIA, rLA, rJA, rVI, rQI, rVA, rQA, upd_at,  rAI, rLI, rJI, nI_add, pk_sub, kc_0, kc_1, kc_2, kc_3, kc_4, kc_5, reduceIte, Nat.reduceEqDiff, Nat.add_zero, rI_hold, rI_hold, rL_hold, htk, htk1]; exact congrArg nI (by omega))) ?_
  refine Bod.bip 12 (by decide) dc_115_93 ?_
  refine Bod.icT dc_115_95 rfl (k2_ne_T (k_ne tk1 12 rfl rfl (by omega) (by omega) (by omega))) ?_
  refine Bod.ic 0 (by decide) dc_115_102 ?_
  refine Bod.istn dc_115_103 (by rw [ml_115]; exact Nat.le_of_ble_eq_true rfl) ?_
  refine Bod.incN (t + 1) (by rw [kc_1, nI_add]) dc_115_104 (by rw [ml_115]; exact Nat.le_of_ble_eq_true rfl) (by repeat (first | exact q2 | exact sm_get_p1 | exact sm_get_p2e | refine sm_get_p1m (by decide) (by decide) ?_ | refine sm_get_p1n (by decide) rfl ?_ | refine sm_get_p2n (by decide) (by decide) rfl ?_)) ?_
  refine Bod.go dc_115_107 rfl ?_
  exact hB _ (by repeat (first | exact q0 | exact sm_get_p1 | exact sm_get_p2e | refine sm_get_p1m (by decide) (by decide) ?_ | refine sm_get_p1n (by decide) rfl ?_ | refine sm_get_p2n (by decide) (by decide) rfl ?_)) (by repeat (first | exact q0 | exact sm_get_p1 | exact sm_get_p2e | refine sm_get_p1m (by decide) (by decide) ?_ | refine sm_get_p1n (by decide) rfl ?_ | refine sm_get_p2n (by decide) (by decide) rfl ?_)) (by repeat (first | exact q0 | exact sm_get_p1 | exact sm_get_p2e | refine sm_get_p1m (by decide) (by decide) ?_ | refine sm_get_p1n (by decide) rfl ?_ | refine sm_get_p2n (by decide) (by decide) rfl ?_))
theorem cGlL_6 {d : Nat} {S Sf : cS} {v : Option Value} {lv : sm_L} {m : Nat} {t : Nat} {S1 : cS} {S2 : cS} {a : Nat} {tk : Nat} {S3 : cS} {tk1 : Nat} (q1 : sm_get lv 1 = some (.int (nI m))) (q2 : sm_get lv 2 = some (.int (nI t))) (q0 : sm_get lv 0 = some (.ref 43)) (mm : m < 2 ^ 20) (mt : t < 2 ^ 20) (b1 : m ≠ 0) (b2 : t < 3000) (c1 : Ans (d + 8) 40 [.ref 31] S none S1) (ma : a < 2 ^ 20) (c2 : Ans (d + 8) 92 [.ref 43] S1 (some (.int (nI a))) S2) (htk : sI S2 3105 = nI tk) (mtk : tk < 2 ^ 20) (b3 : tk ≠ 0) (c3 : Ans (d + 8) 116 [.ref 32, .int (nI a)] S2 (some (.int (nI 1))) S3) (htk1 : sI S3 3105 = nI tk1) (mtk1 : tk1 < 2 ^ 20) (b4 : tk1 = 12) (hB : ∀ lv1 : sm_L, sm_get lv1 0 = some (.ref 43) → sm_get lv1 1 = some (.int (nI 1)) → sm_get lv1 2 = some (.int (nI (t + 1))) → Bod (d + 8) 115 35 lv1 [] (S3) v Sf) : Bod (d + 8) 115 35 lv [] S v Sf := by
  refine Bod.ildnG dc_115_35 (by repeat (first | exact q1 | exact sm_get_p1 | exact sm_get_p2e | refine sm_get_p1m (by decide) (by decide) ?_ | refine sm_get_p1n (by decide) rfl ?_ | refine sm_get_p2n (by decide) (by decide) rfl ?_)) ?_
  refine Bod.ifF dc_115_36 rfl (k1_eq_F (k_ne m 0 rfl rfl (by omega) (by omega) (by omega))) ?_
  refine Bod.ildnG dc_115_39 (by repeat (first | exact q2 | exact sm_get_p1 | exact sm_get_p2e | refine sm_get_p1m (by decide) (by decide) ?_ | refine sm_get_p1n (by decide) rfl ?_ | refine sm_get_p2n (by decide) (by decide) rfl ?_)) ?_
  refine Bod.sip 3000 (by decide) dc_115_40 ?_
  refine Bod.icF dc_115_43 rfl (k2_ge_F t 3000 rfl rfl (by omega) (by omega)) ?_
  refine Bod.aldnG dc_115_46 (by repeat (first | exact q0 | exact sm_get_p1 | exact sm_get_p2e | refine sm_get_p1m (by decide) (by decide) ?_ | refine sm_get_p1n (by decide) rfl ?_ | refine sm_get_p2n (by decide) (by decide) rfl ?_)) ?_
  refine Bod.get dc_115_47 fr_115_9 (mk_43 _) rfl ?_
  refine Bod.virt (r := []) dc_115_50 kr_115_192 ⟨Or.inr rfl, ow_40, cl_3⟩ (by rw [np_40]; rfl) (by rw [np_40]; rfl) (ob_of (mk_31 _)) (Nat.le_of_ble_eq_true rfl) (c1  ) ?_
  show Bod _ _ _ _ [] _ _ _
  refine Bod.aldnG dc_115_53 (by repeat (first | exact q0 | exact sm_get_p1 | exact sm_get_p2e | refine sm_get_p1m (by decide) (by decide) ?_ | refine sm_get_p1n (by decide) rfl ?_ | refine sm_get_p2n (by decide) (by decide) rfl ?_)) ?_
  refine Bod.virt (r := []) dc_115_54 kr_115_220 ⟨Or.inl rfl, ow_92, cl_10⟩ (by rw [np_92]; rfl) (by rw [np_92]; rfl) (ob_of (mk_43 _)) (Nat.le_of_ble_eq_true rfl) (c2  ) ?_
  show Bod _ _ _ _ [_] _ _ _
  refine Bod.istn dc_115_57 (by rw [ml_115]; exact Nat.le_of_ble_eq_true rfl) ?_
  refine Bod.aldnG dc_115_58 (by repeat (first | exact q0 | exact sm_get_p1 | exact sm_get_p2e | refine sm_get_p1m (by decide) (by decide) ?_ | refine sm_get_p1n (by decide) rfl ?_ | refine sm_get_p2n (by decide) (by decide) rfl ?_)) ?_
  refine Bod.get dc_115_59 fr_115_9 (mk_43 _) rfl ?_
  refine Bod.get dc_115_62 fr_115_79 (mk_31 _) rfl ?_
  refine Bod.eqI (nI tk) (by first | (simp (disch := omega) only [rI, rIe, rA, rIA, rLA, rJA, rVI, rQI, rVA, rQA, upd_at,  rAI, rLI, rJI, nI_add, pk_sub, kc_0, kc_1, kc_2, kc_3, kc_4, kc_5, reduceIte, Nat.reduceEqDiff, Nat.add_zero, rI_hold, rI_hold, rL_hold, htk]; done) | (simp (disch := omega) only [rI, rIe, rA, rIA, rLA, rJA, rVI, rQI, rVA, rQA, upd_at,  rAI, rLI, rJI, nI_add, pk_sub, kc_0, kc_1, kc_2, kc_3, kc_4, kc_5, reduceIte, Nat.reduceEqDiff, Nat.add_zero, rI_hold, rI_hold, rL_hold, htk]; exact congrArg nI (by omega))) ?_
  refine Bod.ifF dc_115_65 rfl (k1_eq_F (k_ne tk 0 rfl rfl (by omega) (by omega) (by omega))) ?_
  refine Bod.aldnG dc_115_68 (by repeat (first | exact q0 | exact sm_get_p1 | exact sm_get_p2e | refine sm_get_p1m (by decide) (by decide) ?_ | refine sm_get_p1n (by decide) rfl ?_ | refine sm_get_p2n (by decide) (by decide) rfl ?_)) ?_
  refine Bod.get dc_115_69 fr_115_19 (mk_43 _) rfl ?_
  refine Bod.ildnG dc_115_72 (by repeat (first | exact q0 | exact sm_get_p1 | exact sm_get_p2e | refine sm_get_p1m (by decide) (by decide) ?_ | refine sm_get_p1n (by decide) rfl ?_ | refine sm_get_p2n (by decide) (by decide) rfl ?_)) ?_
  refine Bod.virt (r := []) dc_115_73 kr_115_223 ⟨Or.inr rfl, ow_116, cl_8⟩ (by rw [np_116]; rfl) (by rw [np_116]; rfl) (ob_of (mk_32 _)) (Nat.le_of_ble_eq_true rfl) (c3  ) ?_
  show Bod _ _ _ _ [_] _ _ _
  refine Bod.ifT dc_115_76 rfl (k1_ne_T (k_ne 1 0 rfl rfl (by omega) (by omega) (by omega))) ?_
  refine Bod.aldnG dc_115_86 (by repeat (first | exact q0 | exact sm_get_p1 | exact sm_get_p2e | refine sm_get_p1m (by decide) (by decide) ?_ | refine sm_get_p1n (by decide) rfl ?_ | refine sm_get_p2n (by decide) (by decide) rfl ?_)) ?_
  refine Bod.get dc_115_87 fr_115_9 (mk_43 _) rfl ?_
  refine Bod.get dc_115_90 fr_115_79 (mk_31 _) rfl ?_
  refine Bod.eqI (nI tk1) (by first | (simp (disch := omega) only [rI, rIe, rA, rIA, rLA, rJA, rVI, rQI, rVA, rQA, upd_at,  rAI, rLI, rJI, nI_add, pk_sub, kc_0, kc_1, kc_2, kc_3, kc_4, kc_5, reduceIte, Nat.reduceEqDiff, Nat.add_zero, rI_hold, rI_hold, rL_hold, htk, htk1]; done) | (simp (disch := omega) only [rI, rIe, rA, rIA, rLA, rJA, rVI, rQI, rVA, rQA, upd_at,  rAI, rLI, rJI, nI_add, pk_sub, kc_0, kc_1, kc_2, kc_3, kc_4, kc_5, reduceIte, Nat.reduceEqDiff, Nat.add_zero, rI_hold, rI_hold, rL_hold, htk, htk1]; exact congrArg nI (by omega))) ?_
  refine Bod.bip 12 (by decide) dc_115_93 ?_
  refine Bod.icF dc_115_95 rfl (k2_ne_F (k_eq tk1 12 rfl rfl (by omega))) ?_
  refine Bod.ic 1 (by decide) dc_115_98 ?_
  refine Bod.go dc_115_99 rfl ?_
  refine Bod.istn dc_115_103 (by rw [ml_115]; exact Nat.le_of_ble_eq_true rfl) ?_
  refine Bod.incN (t + 1) (by rw [kc_1, nI_add]) dc_115_104 (by rw [ml_115]; exact Nat.le_of_ble_eq_true rfl) (by repeat (first | exact q2 | exact sm_get_p1 | exact sm_get_p2e | refine sm_get_p1m (by decide) (by decide) ?_ | refine sm_get_p1n (by decide) rfl ?_ | refine sm_get_p2n (by decide) (by decide) rfl ?_)) ?_
  refine Bod.go dc_115_107 rfl ?_
  exact hB _ (by repeat (first | exact q0 | exact sm_get_p1 | exact sm_get_p2e | refine sm_get_p1m (by decide) (by decide) ?_ | refine sm_get_p1n (by decide) rfl ?_ | refine sm_get_p2n (by decide) (by decide) rfl ?_)) (by repeat (first | exact q0 | exact sm_get_p1 | exact sm_get_p2e | refine sm_get_p1m (by decide) (by decide) ?_ | refine sm_get_p1n (by decide) rfl ?_ | refine sm_get_p2n (by decide) (by decide) rfl ?_)) (by repeat (first | exact q0 | exact sm_get_p1 | exact sm_get_p2e | refine sm_get_p1m (by decide) (by decide) ?_ | refine sm_get_p1n (by decide) rfl ?_ | refine sm_get_p2n (by decide) (by decide) rfl ?_))
theorem cGlL_7 {d : Nat} {S Sf : cS} {v : Option Value} {lv : sm_L} {m : Nat} {t : Nat} {S1 : cS} {S2 : cS} {a : Nat} {tk : Nat} {S3 : cS} {S4 : cS} {tk1 : Nat} (q1 : sm_get lv 1 = some (.int (nI m))) (q2 : sm_get lv 2 = some (.int (nI t))) (q0 : sm_get lv 0 = some (.ref 43)) (mm : m < 2 ^ 20) (mt : t < 2 ^ 20) (b1 : m ≠ 0) (b2 : t < 3000) (c1 : Ans (d + 8) 40 [.ref 31] S none S1) (ma : a < 2 ^ 20) (c2 : Ans (d + 8) 92 [.ref 43] S1 (some (.int (nI a))) S2) (htk : sI S2 3105 = nI tk) (mtk : tk < 2 ^ 20) (b3 : tk ≠ 0) (c3 : Ans (d + 8) 116 [.ref 32, .int (nI a)] S2 (some (.int (nI 0))) S3) (c4 : Ans (d + 8) 44 [.ref 31] S3 none S4) (htk1 : sI S4 3105 = nI tk1) (mtk1 : tk1 < 2 ^ 20) (b4 : tk1 ≠ 12) (hB : ∀ lv1 : sm_L, sm_get lv1 0 = some (.ref 43) → sm_get lv1 1 = some (.int (nI 0)) → sm_get lv1 2 = some (.int (nI (t + 1))) → Bod (d + 8) 115 35 lv1 [] (S4) v Sf) : Bod (d + 8) 115 35 lv [] S v Sf := by
  refine Bod.ildnG dc_115_35 (by repeat (first | exact q1 | exact sm_get_p1 | exact sm_get_p2e | refine sm_get_p1m (by decide) (by decide) ?_ | refine sm_get_p1n (by decide) rfl ?_ | refine sm_get_p2n (by decide) (by decide) rfl ?_)) ?_
  refine Bod.ifF dc_115_36 rfl (k1_eq_F (k_ne m 0 rfl rfl (by omega) (by omega) (by omega))) ?_
  refine Bod.ildnG dc_115_39 (by repeat (first | exact q2 | exact sm_get_p1 | exact sm_get_p2e | refine sm_get_p1m (by decide) (by decide) ?_ | refine sm_get_p1n (by decide) rfl ?_ | refine sm_get_p2n (by decide) (by decide) rfl ?_)) ?_
  refine Bod.sip 3000 (by decide) dc_115_40 ?_
  refine Bod.icF dc_115_43 rfl (k2_ge_F t 3000 rfl rfl (by omega) (by omega)) ?_
  refine Bod.aldnG dc_115_46 (by repeat (first | exact q0 | exact sm_get_p1 | exact sm_get_p2e | refine sm_get_p1m (by decide) (by decide) ?_ | refine sm_get_p1n (by decide) rfl ?_ | refine sm_get_p2n (by decide) (by decide) rfl ?_)) ?_
  refine Bod.get dc_115_47 fr_115_9 (mk_43 _) rfl ?_
  refine Bod.virt (r := []) dc_115_50 kr_115_192 ⟨Or.inr rfl, ow_40, cl_3⟩ (by rw [np_40]; rfl) (by rw [np_40]; rfl) (ob_of (mk_31 _)) (Nat.le_of_ble_eq_true rfl) (c1  ) ?_
  show Bod _ _ _ _ [] _ _ _
  refine Bod.aldnG dc_115_53 (by repeat (first | exact q0 | exact sm_get_p1 | exact sm_get_p2e | refine sm_get_p1m (by decide) (by decide) ?_ | refine sm_get_p1n (by decide) rfl ?_ | refine sm_get_p2n (by decide) (by decide) rfl ?_)) ?_
  refine Bod.virt (r := []) dc_115_54 kr_115_220 ⟨Or.inl rfl, ow_92, cl_10⟩ (by rw [np_92]; rfl) (by rw [np_92]; rfl) (ob_of (mk_43 _)) (Nat.le_of_ble_eq_true rfl) (c2  ) ?_
  show Bod _ _ _ _ [_] _ _ _
  refine Bod.istn dc_115_57 (by rw [ml_115]; exact Nat.le_of_ble_eq_true rfl) ?_
  refine Bod.aldnG dc_115_58 (by repeat (first | exact q0 | exact sm_get_p1 | exact sm_get_p2e | refine sm_get_p1m (by decide) (by decide) ?_ | refine sm_get_p1n (by decide) rfl ?_ | refine sm_get_p2n (by decide) (by decide) rfl ?_)) ?_
  refine Bod.get dc_115_59 fr_115_9 (mk_43 _) rfl ?_
  refine Bod.get dc_115_62 fr_115_79 (mk_31 _) rfl ?_
  refine Bod.eqI (nI tk) (by first | (simp (disch := omega) only [rI, rIe, rA, rIA, rLA, rJA, rVI, rQI, rVA, rQA, upd_at,  rAI, rLI, rJI, nI_add, pk_sub, kc_0, kc_1, kc_2, kc_3, kc_4, kc_5, reduceIte, Nat.reduceEqDiff, Nat.add_zero, rI_hold, rI_hold, rL_hold, htk]; done) | (simp (disch := omega) only [rI, rIe, rA, rIA, rLA, rJA, rVI, rQI, rVA, rQA, upd_at,  rAI, rLI, rJI, nI_add, pk_sub, kc_0, kc_1, kc_2, kc_3, kc_4, kc_5, reduceIte, Nat.reduceEqDiff, Nat.add_zero, rI_hold, rI_hold, rL_hold, htk]; exact congrArg nI (by omega))) ?_
  refine Bod.ifF dc_115_65 rfl (k1_eq_F (k_ne tk 0 rfl rfl (by omega) (by omega) (by omega))) ?_
  refine Bod.aldnG dc_115_68 (by repeat (first | exact q0 | exact sm_get_p1 | exact sm_get_p2e | refine sm_get_p1m (by decide) (by decide) ?_ | refine sm_get_p1n (by decide) rfl ?_ | refine sm_get_p2n (by decide) (by decide) rfl ?_)) ?_
  refine Bod.get dc_115_69 fr_115_19 (mk_43 _) rfl ?_
  refine Bod.ildnG dc_115_72 (by repeat (first | exact q0 | exact sm_get_p1 | exact sm_get_p2e | refine sm_get_p1m (by decide) (by decide) ?_ | refine sm_get_p1n (by decide) rfl ?_ | refine sm_get_p2n (by decide) (by decide) rfl ?_)) ?_
  refine Bod.virt (r := []) dc_115_73 kr_115_223 ⟨Or.inr rfl, ow_116, cl_8⟩ (by rw [np_116]; rfl) (by rw [np_116]; rfl) (ob_of (mk_32 _)) (Nat.le_of_ble_eq_true rfl) (c3  ) ?_
  show Bod _ _ _ _ [_] _ _ _
  refine Bod.ifF dc_115_76 rfl (k1_ne_F (k_eq 0 0 rfl rfl (by omega))) ?_
  refine Bod.aldnG dc_115_79 (by repeat (first | exact q0 | exact sm_get_p1 | exact sm_get_p2e | refine sm_get_p1m (by decide) (by decide) ?_ | refine sm_get_p1n (by decide) rfl ?_ | refine sm_get_p2n (by decide) (by decide) rfl ?_)) ?_
  refine Bod.get dc_115_80 fr_115_9 (mk_43 _) rfl ?_
  refine Bod.virt (r := []) dc_115_83 kr_115_76 ⟨Or.inr rfl, ow_44, cl_3⟩ (by rw [np_44]; rfl) (by rw [np_44]; rfl) (ob_of (mk_31 _)) (Nat.le_of_ble_eq_true rfl) (c4  ) ?_
  show Bod _ _ _ _ [] _ _ _
  refine Bod.aldnG dc_115_86 (by repeat (first | exact q0 | exact sm_get_p1 | exact sm_get_p2e | refine sm_get_p1m (by decide) (by decide) ?_ | refine sm_get_p1n (by decide) rfl ?_ | refine sm_get_p2n (by decide) (by decide) rfl ?_)) ?_
  refine Bod.get dc_115_87 fr_115_9 (mk_43 _) rfl ?_
  refine Bod.get dc_115_90 fr_115_79 (mk_31 _) rfl ?_
  refine Bod.eqI (nI tk1) (by first | (simp (disch := omega) only [rI, rIe, rA, rIA, rLA, rJA, rVI, rQI, rVA, rQA, upd_at,  rAI, rLI, rJI, nI_add, pk_sub, kc_0, kc_1, kc_2, kc_3, kc_4, kc_5, reduceIte, Nat.reduceEqDiff, Nat.add_zero, rI_hold, rI_hold, rL_hold, htk, htk1]; done) | (simp (disch := omega) only [rI, rIe, rA, rIA, rLA, rJA, rVI, rQI, rVA, rQA, upd_at,  rAI, rLI, rJI, nI_add, pk_sub, kc_0, kc_1, kc_2, kc_3, kc_4, kc_5, reduceIte, Nat.reduceEqDiff, Nat.add_zero, rI_hold, rI_hold, rL_hold, htk, htk1]; exact congrArg nI (by omega))) ?_
  refine Bod.bip 12 (by decide) dc_115_93 ?_
  refine Bod.icT dc_115_95 rfl (k2_ne_T (k_ne tk1 12 rfl rfl (by omega) (by omega) (by omega))) ?_
  refine Bod.ic 0 (by decide) dc_115_102 ?_
  refine Bod.istn dc_115_103 (by rw [ml_115]; exact Nat.le_of_ble_eq_true rfl) ?_
  refine Bod.incN (t + 1) (by rw [kc_1, nI_add]) dc_115_104 (by rw [ml_115]; exact Nat.le_of_ble_eq_true rfl) (by repeat (first | exact q2 | exact sm_get_p1 | exact sm_get_p2e | refine sm_get_p1m (by decide) (by decide) ?_ | refine sm_get_p1n (by decide) rfl ?_ | refine sm_get_p2n (by decide) (by decide) rfl ?_)) ?_
  refine Bod.go dc_115_107 rfl ?_
  exact hB _ (by repeat (first | exact q0 | exact sm_get_p1 | exact sm_get_p2e | refine sm_get_p1m (by decide) (by decide) ?_ | refine sm_get_p1n (by decide) rfl ?_ | refine sm_get_p2n (by decide) (by decide) rfl ?_)) (by repeat (first | exact q0 | exact sm_get_p1 | exact sm_get_p2e | refine sm_get_p1m (by decide) (by decide) ?_ | refine sm_get_p1n (by decide) rfl ?_ | refine sm_get_p2n (by decide) (by decide) rfl ?_)) (by repeat (first | exact q0 | exact sm_get_p1 | exact sm_get_p2e | refine sm_get_p1m (by decide) (by decide) ?_ | refine sm_get_p1n (by decide) rfl ?_ | refine sm_get_p2n (by decide) (by decide) rfl ?_))
theorem cGlL_8 {d : Nat} {S Sf : cS} {v : Option Value} {lv : sm_L} {m : Nat} {t : Nat} {S1 : cS} {S2 : cS} {a : Nat} {tk : Nat} {S3 : cS} {S4 : cS} {tk1 : Nat} (q1 : sm_get lv 1 = some (.int (nI m))) (q2 : sm_get lv 2 = some (.int (nI t))) (q0 : sm_get lv 0 = some (.ref 43)) (mm : m < 2 ^ 20) (mt : t < 2 ^ 20) (b1 : m ≠ 0) (b2 : t < 3000) (c1 : Ans (d + 8) 40 [.ref 31] S none S1) (ma : a < 2 ^ 20) (c2 : Ans (d + 8) 92 [.ref 43] S1 (some (.int (nI a))) S2) (htk : sI S2 3105 = nI tk) (mtk : tk < 2 ^ 20) (b3 : tk ≠ 0) (c3 : Ans (d + 8) 116 [.ref 32, .int (nI a)] S2 (some (.int (nI 0))) S3) (c4 : Ans (d + 8) 44 [.ref 31] S3 none S4) (htk1 : sI S4 3105 = nI tk1) (mtk1 : tk1 < 2 ^ 20) (b4 : tk1 = 12) (hB : ∀ lv1 : sm_L, sm_get lv1 0 = some (.ref 43) → sm_get lv1 1 = some (.int (nI 1)) → sm_get lv1 2 = some (.int (nI (t + 1))) → Bod (d + 8) 115 35 lv1 [] (S4) v Sf) : Bod (d + 8) 115 35 lv [] S v Sf := by
  refine Bod.ildnG dc_115_35 (by repeat (first | exact q1 | exact sm_get_p1 | exact sm_get_p2e | refine sm_get_p1m (by decide) (by decide) ?_ | refine sm_get_p1n (by decide) rfl ?_ | refine sm_get_p2n (by decide) (by decide) rfl ?_)) ?_
  refine Bod.ifF dc_115_36 rfl (k1_eq_F (k_ne m 0 rfl rfl (by omega) (by omega) (by omega))) ?_
  refine Bod.ildnG dc_115_39 (by repeat (first | exact q2 | exact sm_get_p1 | exact sm_get_p2e | refine sm_get_p1m (by decide) (by decide) ?_ | refine sm_get_p1n (by decide) rfl ?_ | refine sm_get_p2n (by decide) (by decide) rfl ?_)) ?_
  refine Bod.sip 3000 (by decide) dc_115_40 ?_
  refine Bod.icF dc_115_43 rfl (k2_ge_F t 3000 rfl rfl (by omega) (by omega)) ?_
  refine Bod.aldnG dc_115_46 (by repeat (first | exact q0 | exact sm_get_p1 | exact sm_get_p2e | refine sm_get_p1m (by decide) (by decide) ?_ | refine sm_get_p1n (by decide) rfl ?_ | refine sm_get_p2n (by decide) (by decide) rfl ?_)) ?_
  refine Bod.get dc_115_47 fr_115_9 (mk_43 _) rfl ?_
  refine Bod.virt (r := []) dc_115_50 kr_115_192 ⟨Or.inr rfl, ow_40, cl_3⟩ (by rw [np_40]; rfl) (by rw [np_40]; rfl) (ob_of (mk_31 _)) (Nat.le_of_ble_eq_true rfl) (c1  ) ?_
  show Bod _ _ _ _ [] _ _ _
  refine Bod.aldnG dc_115_53 (by repeat (first | exact q0 | exact sm_get_p1 | exact sm_get_p2e | refine sm_get_p1m (by decide) (by decide) ?_ | refine sm_get_p1n (by decide) rfl ?_ | refine sm_get_p2n (by decide) (by decide) rfl ?_)) ?_
  refine Bod.virt (r := []) dc_115_54 kr_115_220 ⟨Or.inl rfl, ow_92, cl_10⟩ (by rw [np_92]; rfl) (by rw [np_92]; rfl) (ob_of (mk_43 _)) (Nat.le_of_ble_eq_true rfl) (c2  ) ?_
  show Bod _ _ _ _ [_] _ _ _
  refine Bod.istn dc_115_57 (by rw [ml_115]; exact Nat.le_of_ble_eq_true rfl) ?_
  refine Bod.aldnG dc_115_58 (by repeat (first | exact q0 | exact sm_get_p1 | exact sm_get_p2e | refine sm_get_p1m (by decide) (by decide) ?_ | refine sm_get_p1n (by decide) rfl ?_ | refine sm_get_p2n (by decide) (by decide) rfl ?_)) ?_
  refine Bod.get dc_115_59 fr_115_9 (mk_43 _) rfl ?_
  refine Bod.get dc_115_62 fr_115_79 (mk_31 _) rfl ?_
  refine Bod.eqI (nI tk) (by first | (simp (disch := omega) only [rI, rIe, rA, rIA, rLA, rJA, rVI, rQI, rVA, rQA, upd_at,  rAI, rLI, rJI, nI_add, pk_sub, kc_0, kc_1, kc_2, kc_3, kc_4, kc_5, reduceIte, Nat.reduceEqDiff, Nat.add_zero, rI_hold, rI_hold, rL_hold, htk]; done) | (simp (disch := omega) only [rI, rIe, rA, rIA, rLA, rJA, rVI, rQI, rVA, rQA, upd_at,  rAI, rLI, rJI, nI_add, pk_sub, kc_0, kc_1, kc_2, kc_3, kc_4, kc_5, reduceIte, Nat.reduceEqDiff, Nat.add_zero, rI_hold, rI_hold, rL_hold, htk]; exact congrArg nI (by omega))) ?_
  refine Bod.ifF dc_115_65 rfl (k1_eq_F (k_ne tk 0 rfl rfl (by omega) (by omega) (by omega))) ?_
  refine Bod.aldnG dc_115_68 (by repeat (first | exact q0 | exact sm_get_p1 | exact sm_get_p2e | refine sm_get_p1m (by decide) (by decide) ?_ | refine sm_get_p1n (by decide) rfl ?_ | refine sm_get_p2n (by decide) (by decide) rfl ?_)) ?_
  refine Bod.get dc_115_69 fr_115_19 (mk_43 _) rfl ?_
  refine Bod.ildnG dc_115_72 (by repeat (first | exact q0 | exact sm_get_p1 | exact sm_get_p2e | refine sm_get_p1m (by decide) (by decide) ?_ | refine sm_get_p1n (by decide) rfl ?_ | refine sm_get_p2n (by decide) (by decide) rfl ?_)) ?_
  refine Bod.virt (r := []) dc_115_73 kr_115_223 ⟨Or.inr rfl, ow_116, cl_8⟩ (by rw [np_116]; rfl) (by rw [np_116]; rfl) (ob_of (mk_32 _)) (Nat.le_of_ble_eq_true rfl) (c3  ) ?_
  show Bod _ _ _ _ [_] _ _ _
  refine Bod.ifF dc_115_76 rfl (k1_ne_F (k_eq 0 0 rfl rfl (by omega))) ?_
  refine Bod.aldnG dc_115_79 (by repeat (first | exact q0 | exact sm_get_p1 | exact sm_get_p2e | refine sm_get_p1m (by decide) (by decide) ?_ | refine sm_get_p1n (by decide) rfl ?_ | refine sm_get_p2n (by decide) (by decide) rfl ?_)) ?_
  refine Bod.get dc_115_80 fr_115_9 (mk_43 _) rfl ?_
  refine Bod.virt (r := []) dc_115_83 kr_115_76 ⟨Or.inr rfl, ow_44, cl_3⟩ (by rw [np_44]; rfl) (by rw [np_44]; rfl) (ob_of (mk_31 _)) (Nat.le_of_ble_eq_true rfl) (c4  ) ?_
  show Bod _ _ _ _ [] _ _ _
  refine Bod.aldnG dc_115_86 (by repeat (first | exact q0 | exact sm_get_p1 | exact sm_get_p2e | refine sm_get_p1m (by decide) (by decide) ?_ | refine sm_get_p1n (by decide) rfl ?_ | refine sm_get_p2n (by decide) (by decide) rfl ?_)) ?_
  refine Bod.get dc_115_87 fr_115_9 (mk_43 _) rfl ?_
  refine Bod.get dc_115_90 fr_115_79 (mk_31 _) rfl ?_
  refine Bod.eqI (nI tk1) (by first | (simp (disch := omega) only [rI, rIe, rA, rIA, rLA, rJA, rVI, rQI, rVA, rQA, upd_at,  rAI, rLI, rJI, nI_add, pk_sub, kc_0, kc_1, kc_2, kc_3, kc_4, kc_5, reduceIte, Nat.reduceEqDiff, Nat.add_zero, rI_hold, rI_hold, rL_hold, htk, htk1]; done) | (simp (disch := omega) only [rI, rIe, rA, rIA, rLA, rJA, rVI, rQI, rVA, rQA, upd_at,  rAI, rLI, rJI, nI_add, pk_sub, kc_0, kc_1, kc_2, kc_3, kc_4, kc_5, reduceIte, Nat.reduceEqDiff, Nat.add_zero, rI_hold, rI_hold, rL_hold, htk, htk1]; exact congrArg nI (by omega))) ?_
  refine Bod.bip 12 (by decide) dc_115_93 ?_
  refine Bod.icF dc_115_95 rfl (k2_ne_F (k_eq tk1 12 rfl rfl (by omega))) ?_
  refine Bod.ic 1 (by decide) dc_115_98 ?_
  refine Bod.go dc_115_99 rfl ?_
  refine Bod.istn dc_115_103 (by rw [ml_115]; exact Nat.le_of_ble_eq_true rfl) ?_
  refine Bod.incN (t + 1) (by rw [kc_1, nI_add]) dc_115_104 (by rw [ml_115]; exact Nat.le_of_ble_eq_true rfl) (by repeat (first | exact q2 | exact sm_get_p1 | exact sm_get_p2e | refine sm_get_p1m (by decide) (by decide) ?_ | refine sm_get_p1n (by decide) rfl ?_ | refine sm_get_p2n (by decide) (by decide) rfl ?_)) ?_
  refine Bod.go dc_115_107 rfl ?_
  exact hB _ (by repeat (first | exact q0 | exact sm_get_p1 | exact sm_get_p2e | refine sm_get_p1m (by decide) (by decide) ?_ | refine sm_get_p1n (by decide) rfl ?_ | refine sm_get_p2n (by decide) (by decide) rfl ?_)) (by repeat (first | exact q0 | exact sm_get_p1 | exact sm_get_p2e | refine sm_get_p1m (by decide) (by decide) ?_ | refine sm_get_p1n (by decide) rfl ?_ | refine sm_get_p2n (by decide) (by decide) rfl ?_)) (by repeat (first | exact q0 | exact sm_get_p1 | exact sm_get_p2e | refine sm_get_p1m (by decide) (by decide) ?_ | refine sm_get_p1n (by decide) rfl ?_ | refine sm_get_p2n (by decide) (by decide) rfl ?_))
theorem cBin_1 {d : Nat} {S : cS} {st : Nat} {top : Nat} {cs : Nat} {S1 : cS} {tk : Nat} {S2 : cS} {a : Nat} {tk1 : Nat} {S3 : cS} {a1 : Nat} {tg : Nat} {S4 : cS} {a2 : Nat} {S5 : cS} {S6 : cS} {S7 : cS} {S8 : cS} {a3 : Nat} {S9 : cS} {a4 : Nat} (hst : sI S 3104 = nI st) (mst : st < 2 ^ 20) (htop : sI S 2307 = nI top) (mtop : top < 2 ^ 20) (hcs : sI S 2308 = nI cs) (mcs : cs < 2 ^ 20) (c1 : Ans (d + 8) 57 [.ref 44, .int (nI 0)] S none S1) (htk : sI S1 3105 = nI tk) (mtk : tk < 2 ^ 20) (b1 : tk ≠ 19) (ma : a < 2 ^ 20) (c2 : Ans (d + 8) 121 [.int (nI tk)] S1 (some (.int (nI a))) S2) (b2 : a ≠ 0) (htk1 : sI S2 3105 = nI tk1) (mtk1 : tk1 < 2 ^ 20) (ma1 : a1 < 2 ^ 20) (c3 : Ans (d + 8) 121 [.int (nI tk1)] S2 (some (.int (nI a1))) S3) (htg : sI S3 4403 = nI tg) (mtg : tg < 2 ^ 20) (ma2 : a2 < 2 ^ 20) (c4 : Ans (d + 8) 111 [.ref 43] S3 (some (.int (nI a2))) S4) (c5 : Ans (d + 8) 110 [.ref 43, .int (nI 18), .int (nI 40), .int (nI 45)] S4 none S5) (c6 : Ans (d + 8) 40 [.ref 31] S5 none S6) (c7 : Ans (d + 8) 57 [.ref 44, .int (nI 0)] S6 none S7) (ma3 : a3 < 2 ^ 20) (c8 : Ans (d + 8) 71 [.ref 23, .int (nI a1)] S7 (some (.int (nI a3))) S8) (b3 : tg ≠ 1) (b4 : tg ≠ 2) (ma4 : a4 < 2 ^ 20) (c9 : Ans (d + 8) 54 [.ref 23, .int (nI 47), .int (nI a2)] S8 (some (.int (nI a4))) S9) : Bod (d + 8) 117 0 [(0, .ref 43)] [] S none (S9) := by
  refine Bod.go dc_117_0 rfl ?_
  refine Bod.get dc_117_1 fr_117_9 (mk_43 _) rfl ?_
  refine Bod.get dc_117_4 fr_117_166 (mk_31 _) rfl ?_
  refine Bod.eqI (nI st) (by first | assumption | rfl | exact congrArg nI (by omega) | (simp (disch := omega) only [rI, rIe, rA, rIA, rLA, rJA, rVI, rQI, rVA, rQA, upd_at,  rAI, rLI, rJI, nI_add, pk_sub, kc_0, kc_1, kc_2, kc_3, kc_4, kc_5, reduceIte, Nat.reduceEqDiff, Nat.add_zero, rI_hold, rI_hold, rL_hold, hst]; done)) ?_
  refine Bod.istn dc_117_7 (by rw [ml_117]; exact Nat.le_of_ble_eq_true rfl) ?_
  refine Bod.go dc_117_8 rfl ?_
  refine Bod.get dc_117_9 fr_117_15 (mk_43 _) rfl ?_
  refine Bod.get dc_117_12 fr_117_69 (mk_23 _) rfl ?_
  refine Bod.eqI (nI top) (by first | assumption | rfl | exact congrArg nI (by omega) | (simp (disch := omega) only [rI, rIe, rA, rIA, rLA, rJA, rVI, rQI, rVA, rQA, upd_at,  rAI, rLI, rJI, nI_add, pk_sub, kc_0, kc_1, kc_2, kc_3, kc_4, kc_5, reduceIte, Nat.reduceEqDiff, Nat.add_zero, rI_hold, rI_hold, rL_hold, hst, htop]; done)) ?_
  refine Bod.istn dc_117_15 (by rw [ml_117]; exact Nat.le_of_ble_eq_true rfl) ?_
  refine Bod.go dc_117_16 rfl ?_
  refine Bod.get dc_117_17 fr_117_15 (mk_43 _) rfl ?_
  refine Bod.get dc_117_20 fr_117_52 (mk_23 _) rfl ?_
  refine Bod.eqI (nI cs) (by first | assumption | rfl | exact congrArg nI (by omega) | (simp (disch := omega) only [rI, rIe, rA, rIA, rLA, rJA, rVI, rQI, rVA, rQA, upd_at,  rAI, rLI, rJI, nI_add, pk_sub, kc_0, kc_1, kc_2, kc_3, kc_4, kc_5, reduceIte, Nat.reduceEqDiff, Nat.add_zero, rI_hold, rI_hold, rL_hold, hst, htop, hcs]; done)) ?_
  refine Bod.istn dc_117_23 (by rw [ml_117]; exact Nat.le_of_ble_eq_true rfl) ?_
  refine Bod.go dc_117_24 rfl ?_
  refine Bod.get dc_117_25 fr_117_23 (mk_43 _) rfl ?_
  refine Bod.ic 0 (by decide) dc_117_28 ?_
  refine Bod.virt (r := []) dc_117_29 kr_117_169 ⟨Or.inr rfl, ow_57, cl_1⟩ (by rw [np_57]; rfl) (by rw [np_57]; rfl) (ob_of (mk_44 _)) (Nat.le_of_ble_eq_true rfl) (c1  ) ?_
  show Bod _ _ _ _ [] _ _ _
  refine Bod.go dc_117_32 rfl ?_
  refine Bod.get dc_117_33 fr_117_9 (mk_43 _) rfl ?_
  refine Bod.get dc_117_36 fr_117_79 (mk_31 _) rfl ?_
  refine Bod.eqI (nI tk) (by first | (simp (disch := omega) only [rI, rIe, rA, rIA, rLA, rJA, rVI, rQI, rVA, rQA, upd_at,  rAI, rLI, rJI, nI_add, pk_sub, kc_0, kc_1, kc_2, kc_3, kc_4, kc_5, reduceIte, Nat.reduceEqDiff, Nat.add_zero, rI_hold, rI_hold, rL_hold, hst, htop, hcs, htk]; done) | (simp (disch := omega) only [rI, rIe, rA, rIA, rLA, rJA, rVI, rQI, rVA, rQA, upd_at,  rAI, rLI, rJI, nI_add, pk_sub, kc_0, kc_1, kc_2, kc_3, kc_4, kc_5, reduceIte, Nat.reduceEqDiff, Nat.add_zero, rI_hold, rI_hold, rL_hold, hst, htop, hcs, htk]; exact congrArg nI (by omega))) ?_
  refine Bod.bip 19 (by decide) dc_117_39 ?_
  refine Bod.icT dc_117_41 rfl (k2_ne_T (k_ne tk 19 rfl rfl (by omega) (by omega) (by omega))) ?_
  refine Bod.go dc_117_167 rfl ?_
  refine Bod.get dc_117_168 fr_117_9 (mk_43 _) rfl ?_
  refine Bod.get dc_117_171 fr_117_79 (mk_31 _) rfl ?_
  refine Bod.eqI (nI tk) (by first | (simp (disch := omega) only [rI, rIe, rA, rIA, rLA, rJA, rVI, rQI, rVA, rQA, upd_at,  rAI, rLI, rJI, nI_add, pk_sub, kc_0, kc_1, kc_2, kc_3, kc_4, kc_5, reduceIte, Nat.reduceEqDiff, Nat.add_zero, rI_hold, rI_hold, rL_hold, hst, htop, hcs, htk]; done) | (simp (disch := omega) only [rI, rIe, rA, rIA, rLA, rJA, rVI, rQI, rVA, rQA, upd_at,  rAI, rLI, rJI, nI_add, pk_sub, kc_0, kc_1, kc_2, kc_3, kc_4, kc_5, reduceIte, Nat.reduceEqDiff, Nat.add_zero, rI_hold, rI_hold, rL_hold, hst, htop, hcs, htk]; exact congrArg nI (by omega))) ?_
  refine Bod.stat (r := []) dc_117_174 kr_117_185 (Or.inl rfl) (by rw [np_121]; rfl) (by rw [np_121]; rfl) (by rw [np_121]; exact Nat.le_of_ble_eq_true rfl) (Nat.le_of_ble_eq_true rfl) (c2  ) ?_
  show Bod _ _ _ _ [_] _ _ _
  refine Bod.ifT dc_117_177 rfl (k1_ne_T (k_ne a 0 rfl rfl (by omega) (by omega) (by omega))) ?_
  refine Bod.go dc_117_193 rfl ?_
  refine Bod.get dc_117_194 fr_117_9 (mk_43 _) rfl ?_
  refine Bod.get dc_117_197 fr_117_79 (mk_31 _) rfl ?_
  refine Bod.eqI (nI tk1) (by first | (simp (disch := omega) only [rI, rIe, rA, rIA, rLA, rJA, rVI, rQI, rVA, rQA, upd_at,  rAI, rLI, rJI, nI_add, pk_sub, kc_0, kc_1, kc_2, kc_3, kc_4, kc_5, reduceIte, Nat.reduceEqDiff, Nat.add_zero, rI_hold, rI_hold, rL_hold, hst, htop, hcs, htk, htk1]; done) | (simp (disch := omega) only [rI, rIe, rA, rIA, rLA, rJA, rVI, rQI, rVA, rQA, upd_at,  rAI, rLI, rJI, nI_add, pk_sub, kc_0, kc_1, kc_2, kc_3, kc_4, kc_5, reduceIte, Nat.reduceEqDiff, Nat.add_zero, rI_hold, rI_hold, rL_hold, hst, htop, hcs, htk, htk1]; exact congrArg nI (by omega))) ?_
  refine Bod.stat (r := []) dc_117_200 kr_117_185 (Or.inl rfl) (by rw [np_121]; rfl) (by rw [np_121]; rfl) (by rw [np_121]; exact Nat.le_of_ble_eq_true rfl) (Nat.le_of_ble_eq_true rfl) (c3  ) ?_
  show Bod _ _ _ _ [_] _ _ _
  refine Bod.ist dc_117_203 (by rw [ml_117]; exact Nat.le_of_ble_eq_true rfl) ?_
  refine Bod.go dc_117_205 rfl ?_
  refine Bod.get dc_117_206 fr_117_23 (mk_43 _) rfl ?_
  refine Bod.get dc_117_209 fr_117_173 (mk_44 _) rfl ?_
  refine Bod.eqI (nI tg) (by first | (simp (disch := omega) only [rI, rIe, rA, rIA, rLA, rJA, rVI, rQI, rVA, rQA, upd_at,  rAI, rLI, rJI, nI_add, pk_sub, kc_0, kc_1, kc_2, kc_3, kc_4, kc_5, reduceIte, Nat.reduceEqDiff, Nat.add_zero, rI_hold, rI_hold, rL_hold, hst, htop, hcs, htk, htk1, htg]; done) | (simp (disch := omega) only [rI, rIe, rA, rIA, rLA, rJA, rVI, rQI, rVA, rQA, upd_at,  rAI, rLI, rJI, nI_add, pk_sub, kc_0, kc_1, kc_2, kc_3, kc_4, kc_5, reduceIte, Nat.reduceEqDiff, Nat.add_zero, rI_hold, rI_hold, rL_hold, hst, htop, hcs, htk, htk1, htg]; exact congrArg nI (by omega))) ?_
  refine Bod.ist dc_117_212 (by rw [ml_117]; exact Nat.le_of_ble_eq_true rfl) ?_
  refine Bod.go dc_117_214 rfl ?_
  refine Bod.virt (r := []) dc_117_215 kr_117_188 ⟨Or.inl rfl, ow_111, cl_10⟩ (by rw [np_111]; rfl) (by rw [np_111]; rfl) (ob_of (mk_43 _)) (Nat.le_of_ble_eq_true rfl) (c4  ) ?_
  show Bod _ _ _ _ [_] _ _ _
  refine Bod.ist dc_117_218 (by rw [ml_117]; exact Nat.le_of_ble_eq_true rfl) ?_
  refine Bod.go dc_117_220 rfl ?_
  refine Bod.bip 18 (by decide) dc_117_221 ?_
  refine Bod.bip 40 (by decide) dc_117_223 ?_
  refine Bod.bip 45 (by decide) dc_117_225 ?_
  refine Bod.virt (r := []) dc_117_227 kr_117_182 ⟨Or.inl rfl, ow_110, cl_10⟩ (by rw [np_110]; rfl) (by rw [np_110]; rfl) (ob_of (mk_43 _)) (Nat.le_of_ble_eq_true rfl) (c5  ) ?_
  show Bod _ _ _ _ [] _ _ _
  refine Bod.go dc_117_230 rfl ?_
  refine Bod.get dc_117_231 fr_117_9 (mk_43 _) rfl ?_
  refine Bod.virt (r := []) dc_117_234 kr_117_192 ⟨Or.inr rfl, ow_40, cl_3⟩ (by rw [np_40]; rfl) (by rw [np_40]; rfl) (ob_of (mk_31 _)) (Nat.le_of_ble_eq_true rfl) (c6  ) ?_
  show Bod _ _ _ _ [] _ _ _
  refine Bod.go dc_117_237 rfl ?_
  refine Bod.get dc_117_238 fr_117_23 (mk_43 _) rfl ?_
  refine Bod.ic 0 (by decide) dc_117_241 ?_
  refine Bod.virt (r := []) dc_117_242 kr_117_169 ⟨Or.inr rfl, ow_57, cl_1⟩ (by rw [np_57]; rfl) (by rw [np_57]; rfl) (ob_of (mk_44 _)) (Nat.le_of_ble_eq_true rfl) (c7  ) ?_
  show Bod _ _ _ _ [] _ _ _
  refine Bod.go dc_117_245 rfl ?_
  refine Bod.get dc_117_246 fr_117_15 (mk_43 _) rfl ?_
  refine Bod.go dc_117_249 rfl ?_
  refine Bod.virt (r := []) dc_117_251 kr_117_72 ⟨Or.inr rfl, ow_71, cl_7⟩ (by rw [np_71]; rfl) (by rw [np_71]; rfl) (ob_of (mk_23 _)) (Nat.le_of_ble_eq_true rfl) (c8  ) ?_
  show Bod _ _ _ _ [_] _ _ _
  refine Bod.go dc_117_254 rfl ?_
  refine Bod.go dc_117_255 rfl ?_
  refine Bod.ic 1 (by decide) dc_117_257 ?_
  refine Bod.icT dc_117_258 rfl (k2_ne_T (k_ne tg 1 rfl rfl (by omega) (by omega) (by omega))) ?_
  refine Bod.go dc_117_270 rfl ?_
  refine Bod.ic 2 (by decide) dc_117_272 ?_
  refine Bod.icT dc_117_273 rfl (k2_ne_T (k_ne tg 2 rfl rfl (by omega) (by omega) (by omega))) ?_
  refine Bod.go dc_117_289 rfl ?_
  refine Bod.get dc_117_290 fr_117_15 (mk_43 _) rfl ?_
  refine Bod.bip 47 (by decide) dc_117_293 ?_
  refine Bod.go dc_117_295 rfl ?_
  refine Bod.virt (r := []) dc_117_297 kr_117_116 ⟨Or.inr rfl, ow_54, cl_7⟩ (by rw [np_54]; rfl) (by rw [np_54]; rfl) (ob_of (mk_23 _)) (Nat.le_of_ble_eq_true rfl) (c9  ) ?_
  show Bod _ _ _ _ [_] _ _ _
  refine Bod.go dc_117_300 rfl ?_
  exact Bod.retV dc_117_301 rt_117
theorem cBin_2 {d : Nat} {S : cS} {st : Nat} {top : Nat} {cs : Nat} {S1 : cS} {tk : Nat} {S2 : cS} {a : Nat} {tk1 : Nat} {S3 : cS} {a1 : Nat} {tg : Nat} {S4 : cS} {a2 : Nat} {S5 : cS} {S6 : cS} {S7 : cS} {S8 : cS} {a3 : Nat} {S9 : cS} {a4 : Nat} (hst : sI S 3104 = nI st) (mst : st < 2 ^ 20) (htop : sI S 2307 = nI top) (mtop : top < 2 ^ 20) (hcs : sI S 2308 = nI cs) (mcs : cs < 2 ^ 20) (c1 : Ans (d + 8) 57 [.ref 44, .int (nI 0)] S none S1) (htk : sI S1 3105 = nI tk) (mtk : tk < 2 ^ 20) (b1 : tk ≠ 19) (ma : a < 2 ^ 20) (c2 : Ans (d + 8) 121 [.int (nI tk)] S1 (some (.int (nI a))) S2) (b2 : a ≠ 0) (htk1 : sI S2 3105 = nI tk1) (mtk1 : tk1 < 2 ^ 20) (ma1 : a1 < 2 ^ 20) (c3 : Ans (d + 8) 121 [.int (nI tk1)] S2 (some (.int (nI a1))) S3) (htg : sI S3 4403 = nI tg) (mtg : tg < 2 ^ 20) (ma2 : a2 < 2 ^ 20) (c4 : Ans (d + 8) 111 [.ref 43] S3 (some (.int (nI a2))) S4) (c5 : Ans (d + 8) 110 [.ref 43, .int (nI 18), .int (nI 40), .int (nI 45)] S4 none S5) (c6 : Ans (d + 8) 40 [.ref 31] S5 none S6) (c7 : Ans (d + 8) 57 [.ref 44, .int (nI 0)] S6 none S7) (ma3 : a3 < 2 ^ 20) (c8 : Ans (d + 8) 71 [.ref 23, .int (nI a1)] S7 (some (.int (nI a3))) S8) (b3 : tg ≠ 1) (b4 : tg = 2) (ma4 : a4 < 2 ^ 20) (c9 : Ans (d + 8) 71 [.ref 23, .int (nI 42)] S8 (some (.int (nI a4))) S9) : Bod (d + 8) 117 0 [(0, .ref 43)] [] S none (S9) := by
  refine Bod.go dc_117_0 rfl ?_
  refine Bod.get dc_117_1 fr_117_9 (mk_43 _) rfl ?_
  refine Bod.get dc_117_4 fr_117_166 (mk_31 _) rfl ?_
  refine Bod.eqI (nI st) (by first | assumption | rfl | exact congrArg nI (by omega) | (simp (disch := omega) only [rI, rIe, rA, rIA, rLA, rJA, rVI, rQI, rVA, rQA, upd_at,  rAI, rLI, rJI, nI_add, pk_sub, kc_0, kc_1, kc_2, kc_3, kc_4, kc_5, reduceIte, Nat.reduceEqDiff, Nat.add_zero, rI_hold, rI_hold, rL_hold, hst]; done)) ?_
  refine Bod.istn dc_117_7 (by rw [ml_117]; exact Nat.le_of_ble_eq_true rfl) ?_
  refine Bod.go dc_117_8 rfl ?_
  refine Bod.get dc_117_9 fr_117_15 (mk_43 _) rfl ?_
  refine Bod.get dc_117_12 fr_117_69 (mk_23 _) rfl ?_
  refine Bod.eqI (nI top) (by first | assumption | rfl | exact congrArg nI (by omega) | (simp (disch := omega) only [rI, rIe, rA, rIA, rLA, rJA, rVI, rQI, rVA, rQA, upd_at,  rAI, rLI, rJI, nI_add, pk_sub, kc_0, kc_1, kc_2, kc_3, kc_4, kc_5, reduceIte, Nat.reduceEqDiff, Nat.add_zero, rI_hold, rI_hold, rL_hold, hst, htop]; done)) ?_
  refine Bod.istn dc_117_15 (by rw [ml_117]; exact Nat.le_of_ble_eq_true rfl) ?_
  refine Bod.go dc_117_16 rfl ?_
  refine Bod.get dc_117_17 fr_117_15 (mk_43 _) rfl ?_
  refine Bod.get dc_117_20 fr_117_52 (mk_23 _) rfl ?_
  refine Bod.eqI (nI cs) (by first | assumption | rfl | exact congrArg nI (by omega) | (simp (disch := omega) only [rI, rIe, rA, rIA, rLA, rJA, rVI, rQI, rVA, rQA, upd_at,  rAI, rLI, rJI, nI_add, pk_sub, kc_0, kc_1, kc_2, kc_3, kc_4, kc_5, reduceIte, Nat.reduceEqDiff, Nat.add_zero, rI_hold, rI_hold, rL_hold, hst, htop, hcs]; done)) ?_
  refine Bod.istn dc_117_23 (by rw [ml_117]; exact Nat.le_of_ble_eq_true rfl) ?_
  refine Bod.go dc_117_24 rfl ?_
  refine Bod.get dc_117_25 fr_117_23 (mk_43 _) rfl ?_
  refine Bod.ic 0 (by decide) dc_117_28 ?_
  refine Bod.virt (r := []) dc_117_29 kr_117_169 ⟨Or.inr rfl, ow_57, cl_1⟩ (by rw [np_57]; rfl) (by rw [np_57]; rfl) (ob_of (mk_44 _)) (Nat.le_of_ble_eq_true rfl) (c1  ) ?_
  show Bod _ _ _ _ [] _ _ _
  refine Bod.go dc_117_32 rfl ?_
  refine Bod.get dc_117_33 fr_117_9 (mk_43 _) rfl ?_
  refine Bod.get dc_117_36 fr_117_79 (mk_31 _) rfl ?_
  refine Bod.eqI (nI tk) (by first | (simp (disch := omega) only [rI, rIe, rA, rIA, rLA, rJA, rVI, rQI, rVA, rQA, upd_at,  rAI, rLI, rJI, nI_add, pk_sub, kc_0, kc_1, kc_2, kc_3, kc_4, kc_5, reduceIte, Nat.reduceEqDiff, Nat.add_zero, rI_hold, rI_hold, rL_hold, hst, htop, hcs, htk]; done) | (simp (disch := omega) only [rI, rIe, rA, rIA, rLA, rJA, rVI, rQI, rVA, rQA, upd_at,  rAI, rLI, rJI, nI_add, pk_sub, kc_0, kc_1, kc_2, kc_3, kc_4, kc_5, reduceIte, Nat.reduceEqDiff, Nat.add_zero, rI_hold, rI_hold, rL_hold, hst, htop, hcs, htk]; exact congrArg nI (by omega))) ?_
  refine Bod.bip 19 (by decide) dc_117_39 ?_
  refine Bod.icT dc_117_41 rfl (k2_ne_T (k_ne tk 19 rfl rfl (by omega) (by omega) (by omega))) ?_
  refine Bod.go dc_117_167 rfl ?_
  refine Bod.get dc_117_168 fr_117_9 (mk_43 _) rfl ?_
  refine Bod.get dc_117_171 fr_117_79 (mk_31 _) rfl ?_
  refine Bod.eqI (nI tk) (by first | (simp (disch := omega) only [rI, rIe, rA, rIA, rLA, rJA, rVI, rQI, rVA, rQA, upd_at,  rAI, rLI, rJI, nI_add, pk_sub, kc_0, kc_1, kc_2, kc_3, kc_4, kc_5, reduceIte, Nat.reduceEqDiff, Nat.add_zero, rI_hold, rI_hold, rL_hold, hst, htop, hcs, htk]; done) | (simp (disch := omega) only [rI, rIe, rA, rIA, rLA, rJA, rVI, rQI, rVA, rQA, upd_at,  rAI, rLI, rJI, nI_add, pk_sub, kc_0, kc_1, kc_2, kc_3, kc_4, kc_5, reduceIte, Nat.reduceEqDiff, Nat.add_zero, rI_hold, rI_hold, rL_hold, hst, htop, hcs, htk]; exact congrArg nI (by omega))) ?_
  refine Bod.stat (r := []) dc_117_174 kr_117_185 (Or.inl rfl) (by rw [np_121]; rfl) (by rw [np_121]; rfl) (by rw [np_121]; exact Nat.le_of_ble_eq_true rfl) (Nat.le_of_ble_eq_true rfl) (c2  ) ?_
  show Bod _ _ _ _ [_] _ _ _
  refine Bod.ifT dc_117_177 rfl (k1_ne_T (k_ne a 0 rfl rfl (by omega) (by omega) (by omega))) ?_
  refine Bod.go dc_117_193 rfl ?_
  refine Bod.get dc_117_194 fr_117_9 (mk_43 _) rfl ?_
  refine Bod.get dc_117_197 fr_117_79 (mk_31 _) rfl ?_
  refine Bod.eqI (nI tk1) (by first | (simp (disch := omega) only [rI, rIe, rA, rIA, rLA, rJA, rVI, rQI, rVA, rQA, upd_at,  rAI, rLI, rJI, nI_add, pk_sub, kc_0, kc_1, kc_2, kc_3, kc_4, kc_5, reduceIte, Nat.reduceEqDiff, Nat.add_zero, rI_hold, rI_hold, rL_hold, hst, htop, hcs, htk, htk1]; done) | (simp (disch := omega) only [rI, rIe, rA, rIA, rLA, rJA, rVI, rQI, rVA, rQA, upd_at,  rAI, rLI, rJI, nI_add, pk_sub, kc_0, kc_1, kc_2, kc_3, kc_4, kc_5, reduceIte, Nat.reduceEqDiff, Nat.add_zero, rI_hold, rI_hold, rL_hold, hst, htop, hcs, htk, htk1]; exact congrArg nI (by omega))) ?_
  refine Bod.stat (r := []) dc_117_200 kr_117_185 (Or.inl rfl) (by rw [np_121]; rfl) (by rw [np_121]; rfl) (by rw [np_121]; exact Nat.le_of_ble_eq_true rfl) (Nat.le_of_ble_eq_true rfl) (c3  ) ?_
  show Bod _ _ _ _ [_] _ _ _
  refine Bod.ist dc_117_203 (by rw [ml_117]; exact Nat.le_of_ble_eq_true rfl) ?_
  refine Bod.go dc_117_205 rfl ?_
  refine Bod.get dc_117_206 fr_117_23 (mk_43 _) rfl ?_
  refine Bod.get dc_117_209 fr_117_173 (mk_44 _) rfl ?_
  refine Bod.eqI (nI tg) (by first | (simp (disch := omega) only [rI, rIe, rA, rIA, rLA, rJA, rVI, rQI, rVA, rQA, upd_at,  rAI, rLI, rJI, nI_add, pk_sub, kc_0, kc_1, kc_2, kc_3, kc_4, kc_5, reduceIte, Nat.reduceEqDiff, Nat.add_zero, rI_hold, rI_hold, rL_hold, hst, htop, hcs, htk, htk1, htg]; done) | (simp (disch := omega) only [rI, rIe, rA, rIA, rLA, rJA, rVI, rQI, rVA, rQA, upd_at,  rAI, rLI, rJI, nI_add, pk_sub, kc_0, kc_1, kc_2, kc_3, kc_4, kc_5, reduceIte, Nat.reduceEqDiff, Nat.add_zero, rI_hold, rI_hold, rL_hold, hst, htop, hcs, htk, htk1, htg]; exact congrArg nI (by omega))) ?_
  refine Bod.ist dc_117_212 (by rw [ml_117]; exact Nat.le_of_ble_eq_true rfl) ?_
  refine Bod.go dc_117_214 rfl ?_
  refine Bod.virt (r := []) dc_117_215 kr_117_188 ⟨Or.inl rfl, ow_111, cl_10⟩ (by rw [np_111]; rfl) (by rw [np_111]; rfl) (ob_of (mk_43 _)) (Nat.le_of_ble_eq_true rfl) (c4  ) ?_
  show Bod _ _ _ _ [_] _ _ _
  refine Bod.ist dc_117_218 (by rw [ml_117]; exact Nat.le_of_ble_eq_true rfl) ?_
  refine Bod.go dc_117_220 rfl ?_
  refine Bod.bip 18 (by decide) dc_117_221 ?_
  refine Bod.bip 40 (by decide) dc_117_223 ?_
  refine Bod.bip 45 (by decide) dc_117_225 ?_
  refine Bod.virt (r := []) dc_117_227 kr_117_182 ⟨Or.inl rfl, ow_110, cl_10⟩ (by rw [np_110]; rfl) (by rw [np_110]; rfl) (ob_of (mk_43 _)) (Nat.le_of_ble_eq_true rfl) (c5  ) ?_
  show Bod _ _ _ _ [] _ _ _
  refine Bod.go dc_117_230 rfl ?_
  refine Bod.get dc_117_231 fr_117_9 (mk_43 _) rfl ?_
  refine Bod.virt (r := []) dc_117_234 kr_117_192 ⟨Or.inr rfl, ow_40, cl_3⟩ (by rw [np_40]; rfl) (by rw [np_40]; rfl) (ob_of (mk_31 _)) (Nat.le_of_ble_eq_true rfl) (c6  ) ?_
  show Bod _ _ _ _ [] _ _ _
  refine Bod.go dc_117_237 rfl ?_
  refine Bod.get dc_117_238 fr_117_23 (mk_43 _) rfl ?_
  refine Bod.ic 0 (by decide) dc_117_241 ?_
  refine Bod.virt (r := []) dc_117_242 kr_117_169 ⟨Or.inr rfl, ow_57, cl_1⟩ (by rw [np_57]; rfl) (by rw [np_57]; rfl) (ob_of (mk_44 _)) (Nat.le_of_ble_eq_true rfl) (c7  ) ?_
  show Bod _ _ _ _ [] _ _ _
  refine Bod.go dc_117_245 rfl ?_
  refine Bod.get dc_117_246 fr_117_15 (mk_43 _) rfl ?_
  refine Bod.go dc_117_249 rfl ?_
  refine Bod.virt (r := []) dc_117_251 kr_117_72 ⟨Or.inr rfl, ow_71, cl_7⟩ (by rw [np_71]; rfl) (by rw [np_71]; rfl) (ob_of (mk_23 _)) (Nat.le_of_ble_eq_true rfl) (c8  ) ?_
  show Bod _ _ _ _ [_] _ _ _
  refine Bod.go dc_117_254 rfl ?_
  refine Bod.go dc_117_255 rfl ?_
  refine Bod.ic 1 (by decide) dc_117_257 ?_
  refine Bod.icT dc_117_258 rfl (k2_ne_T (k_ne tg 1 rfl rfl (by omega) (by omega) (by omega))) ?_
  refine Bod.go dc_117_270 rfl ?_
  refine Bod.ic 2 (by decide) dc_117_272 ?_
  refine Bod.icF dc_117_273 rfl (k2_ne_F (k_eq tg 2 rfl rfl (by omega))) ?_
  refine Bod.go dc_117_276 rfl ?_
  refine Bod.get dc_117_277 fr_117_15 (mk_43 _) rfl ?_
  refine Bod.bip 42 (by decide) dc_117_280 ?_
  refine Bod.virt (r := []) dc_117_282 kr_117_72 ⟨Or.inr rfl, ow_71, cl_7⟩ (by rw [np_71]; rfl) (by rw [np_71]; rfl) (ob_of (mk_23 _)) (Nat.le_of_ble_eq_true rfl) (c9  ) ?_
  show Bod _ _ _ _ [_] _ _ _
  refine Bod.go dc_117_285 rfl ?_
  refine Bod.go dc_117_286 rfl ?_
  exact Bod.retV dc_117_301 rt_117
theorem cBin_3 {d : Nat} {S : cS} {st : Nat} {top : Nat} {cs : Nat} {S1 : cS} {tk : Nat} {S2 : cS} {a : Nat} {tk1 : Nat} {S3 : cS} {a1 : Nat} {tg : Nat} {S4 : cS} {a2 : Nat} {S5 : cS} {S6 : cS} {S7 : cS} {S8 : cS} {a3 : Nat} {S9 : cS} (hst : sI S 3104 = nI st) (mst : st < 2 ^ 20) (htop : sI S 2307 = nI top) (mtop : top < 2 ^ 20) (hcs : sI S 2308 = nI cs) (mcs : cs < 2 ^ 20) (c1 : Ans (d + 8) 57 [.ref 44, .int (nI 0)] S none S1) (htk : sI S1 3105 = nI tk) (mtk : tk < 2 ^ 20) (b1 : tk ≠ 19) (ma : a < 2 ^ 20) (c2 : Ans (d + 8) 121 [.int (nI tk)] S1 (some (.int (nI a))) S2) (b2 : a ≠ 0) (htk1 : sI S2 3105 = nI tk1) (mtk1 : tk1 < 2 ^ 20) (ma1 : a1 < 2 ^ 20) (c3 : Ans (d + 8) 121 [.int (nI tk1)] S2 (some (.int (nI a1))) S3) (htg : sI S3 4403 = nI tg) (mtg : tg < 2 ^ 20) (ma2 : a2 < 2 ^ 20) (c4 : Ans (d + 8) 111 [.ref 43] S3 (some (.int (nI a2))) S4) (c5 : Ans (d + 8) 110 [.ref 43, .int (nI 18), .int (nI 40), .int (nI 45)] S4 none S5) (c6 : Ans (d + 8) 40 [.ref 31] S5 none S6) (c7 : Ans (d + 8) 57 [.ref 44, .int (nI 0)] S6 none S7) (ma3 : a3 < 2 ^ 20) (c8 : Ans (d + 8) 71 [.ref 23, .int (nI a1)] S7 (some (.int (nI a3))) S8) (b3 : tg = 1) (c9 : Ans (d + 8) 93 [.ref 43, .int (nI a2)] S8 none S9) : Bod (d + 8) 117 0 [(0, .ref 43)] [] S none (S9) := by
  refine Bod.go dc_117_0 rfl ?_
  refine Bod.get dc_117_1 fr_117_9 (mk_43 _) rfl ?_
  refine Bod.get dc_117_4 fr_117_166 (mk_31 _) rfl ?_
  refine Bod.eqI (nI st) (by first | assumption | rfl | exact congrArg nI (by omega) | (simp (disch := omega) only [rI, rIe, rA, rIA, rLA, rJA, rVI, rQI, rVA, rQA, upd_at,  rAI, rLI, rJI, nI_add, pk_sub, kc_0, kc_1, kc_2, kc_3, kc_4, kc_5, reduceIte, Nat.reduceEqDiff, Nat.add_zero, rI_hold, rI_hold, rL_hold, hst]; done)) ?_
  refine Bod.istn dc_117_7 (by rw [ml_117]; exact Nat.le_of_ble_eq_true rfl) ?_
  refine Bod.go dc_117_8 rfl ?_
  refine Bod.get dc_117_9 fr_117_15 (mk_43 _) rfl ?_
  refine Bod.get dc_117_12 fr_117_69 (mk_23 _) rfl ?_
  refine Bod.eqI (nI top) (by first | assumption | rfl | exact congrArg nI (by omega) | (simp (disch := omega) only [rI, rIe, rA, rIA, rLA, rJA, rVI, rQI, rVA, rQA, upd_at,  rAI, rLI, rJI, nI_add, pk_sub, kc_0, kc_1, kc_2, kc_3, kc_4, kc_5, reduceIte, Nat.reduceEqDiff, Nat.add_zero, rI_hold, rI_hold, rL_hold, hst, htop]; done)) ?_
  refine Bod.istn dc_117_15 (by rw [ml_117]; exact Nat.le_of_ble_eq_true rfl) ?_
  refine Bod.go dc_117_16 rfl ?_
  refine Bod.get dc_117_17 fr_117_15 (mk_43 _) rfl ?_
  refine Bod.get dc_117_20 fr_117_52 (mk_23 _) rfl ?_
  refine Bod.eqI (nI cs) (by first | assumption | rfl | exact congrArg nI (by omega) | (simp (disch := omega) only [rI, rIe, rA, rIA, rLA, rJA, rVI, rQI, rVA, rQA, upd_at,  rAI, rLI, rJI, nI_add, pk_sub, kc_0, kc_1, kc_2, kc_3, kc_4, kc_5, reduceIte, Nat.reduceEqDiff, Nat.add_zero, rI_hold, rI_hold, rL_hold, hst, htop, hcs]; done)) ?_
  refine Bod.istn dc_117_23 (by rw [ml_117]; exact Nat.le_of_ble_eq_true rfl) ?_
  refine Bod.go dc_117_24 rfl ?_
  refine Bod.get dc_117_25 fr_117_23 (mk_43 _) rfl ?_
  refine Bod.ic 0 (by decide) dc_117_28 ?_
  refine Bod.virt (r := []) dc_117_29 kr_117_169 ⟨Or.inr rfl, ow_57, cl_1⟩ (by rw [np_57]; rfl) (by rw [np_57]; rfl) (ob_of (mk_44 _)) (Nat.le_of_ble_eq_true rfl) (c1  ) ?_
  show Bod _ _ _ _ [] _ _ _
  refine Bod.go dc_117_32 rfl ?_
  refine Bod.get dc_117_33 fr_117_9 (mk_43 _) rfl ?_
  refine Bod.get dc_117_36 fr_117_79 (mk_31 _) rfl ?_
  refine Bod.eqI (nI tk) (by first | (simp (disch := omega) only [rI, rIe, rA, rIA, rLA, rJA, rVI, rQI, rVA, rQA, upd_at,  rAI, rLI, rJI, nI_add, pk_sub, kc_0, kc_1, kc_2, kc_3, kc_4, kc_5, reduceIte, Nat.reduceEqDiff, Nat.add_zero, rI_hold, rI_hold, rL_hold, hst, htop, hcs, htk]; done) | (simp (disch := omega) only [rI, rIe, rA, rIA, rLA, rJA, rVI, rQI, rVA, rQA, upd_at,  rAI, rLI, rJI, nI_add, pk_sub, kc_0, kc_1, kc_2, kc_3, kc_4, kc_5, reduceIte, Nat.reduceEqDiff, Nat.add_zero, rI_hold, rI_hold, rL_hold, hst, htop, hcs, htk]; exact congrArg nI (by omega))) ?_
  refine Bod.bip 19 (by decide) dc_117_39 ?_
  refine Bod.icT dc_117_41 rfl (k2_ne_T (k_ne tk 19 rfl rfl (by omega) (by omega) (by omega))) ?_
  refine Bod.go dc_117_167 rfl ?_
  refine Bod.get dc_117_168 fr_117_9 (mk_43 _) rfl ?_
  refine Bod.get dc_117_171 fr_117_79 (mk_31 _) rfl ?_
  refine Bod.eqI (nI tk) (by first | (simp (disch := omega) only [rI, rIe, rA, rIA, rLA, rJA, rVI, rQI, rVA, rQA, upd_at,  rAI, rLI, rJI, nI_add, pk_sub, kc_0, kc_1, kc_2, kc_3, kc_4, kc_5, reduceIte, Nat.reduceEqDiff, Nat.add_zero, rI_hold, rI_hold, rL_hold, hst, htop, hcs, htk]; done) | (simp (disch := omega) only [rI, rIe, rA, rIA, rLA, rJA, rVI, rQI, rVA, rQA, upd_at,  rAI, rLI, rJI, nI_add, pk_sub, kc_0, kc_1, kc_2, kc_3, kc_4, kc_5, reduceIte, Nat.reduceEqDiff, Nat.add_zero, rI_hold, rI_hold, rL_hold, hst, htop, hcs, htk]; exact congrArg nI (by omega))) ?_
  refine Bod.stat (r := []) dc_117_174 kr_117_185 (Or.inl rfl) (by rw [np_121]; rfl) (by rw [np_121]; rfl) (by rw [np_121]; exact Nat.le_of_ble_eq_true rfl) (Nat.le_of_ble_eq_true rfl) (c2  ) ?_
  show Bod _ _ _ _ [_] _ _ _
  refine Bod.ifT dc_117_177 rfl (k1_ne_T (k_ne a 0 rfl rfl (by omega) (by omega) (by omega))) ?_
  refine Bod.go dc_117_193 rfl ?_
  refine Bod.get dc_117_194 fr_117_9 (mk_43 _) rfl ?_
  refine Bod.get dc_117_197 fr_117_79 (mk_31 _) rfl ?_
  refine Bod.eqI (nI tk1) (by first | (simp (disch := omega) only [rI, rIe, rA, rIA, rLA, rJA, rVI, rQI, rVA, rQA, upd_at,  rAI, rLI, rJI, nI_add, pk_sub, kc_0, kc_1, kc_2, kc_3, kc_4, kc_5, reduceIte, Nat.reduceEqDiff, Nat.add_zero, rI_hold, rI_hold, rL_hold, hst, htop, hcs, htk, htk1]; done) | (simp (disch := omega) only [rI, rIe, rA, rIA, rLA, rJA, rVI, rQI, rVA, rQA, upd_at,  rAI, rLI, rJI, nI_add, pk_sub, kc_0, kc_1, kc_2, kc_3, kc_4, kc_5, reduceIte, Nat.reduceEqDiff, Nat.add_zero, rI_hold, rI_hold, rL_hold, hst, htop, hcs, htk, htk1]; exact congrArg nI (by omega))) ?_
  refine Bod.stat (r := []) dc_117_200 kr_117_185 (Or.inl rfl) (by rw [np_121]; rfl) (by rw [np_121]; rfl) (by rw [np_121]; exact Nat.le_of_ble_eq_true rfl) (Nat.le_of_ble_eq_true rfl) (c3  ) ?_
  show Bod _ _ _ _ [_] _ _ _
  refine Bod.ist dc_117_203 (by rw [ml_117]; exact Nat.le_of_ble_eq_true rfl) ?_
  refine Bod.go dc_117_205 rfl ?_
  refine Bod.get dc_117_206 fr_117_23 (mk_43 _) rfl ?_
  refine Bod.get dc_117_209 fr_117_173 (mk_44 _) rfl ?_
  refine Bod.eqI (nI tg) (by first | (simp (disch := omega) only [rI, rIe, rA, rIA, rLA, rJA, rVI, rQI, rVA, rQA, upd_at,  rAI, rLI, rJI, nI_add, pk_sub, kc_0, kc_1, kc_2, kc_3, kc_4, kc_5, reduceIte, Nat.reduceEqDiff, Nat.add_zero, rI_hold, rI_hold, rL_hold, hst, htop, hcs, htk, htk1, htg]; done) | (simp (disch := omega) only [rI, rIe, rA, rIA, rLA, rJA, rVI, rQI, rVA, rQA, upd_at,  rAI, rLI, rJI, nI_add, pk_sub, kc_0, kc_1, kc_2, kc_3, kc_4, kc_5, reduceIte, Nat.reduceEqDiff, Nat.add_zero, rI_hold, rI_hold, rL_hold, hst, htop, hcs, htk, htk1, htg]; exact congrArg nI (by omega))) ?_
  refine Bod.ist dc_117_212 (by rw [ml_117]; exact Nat.le_of_ble_eq_true rfl) ?_
  refine Bod.go dc_117_214 rfl ?_
  refine Bod.virt (r := []) dc_117_215 kr_117_188 ⟨Or.inl rfl, ow_111, cl_10⟩ (by rw [np_111]; rfl) (by rw [np_111]; rfl) (ob_of (mk_43 _)) (Nat.le_of_ble_eq_true rfl) (c4  ) ?_
  show Bod _ _ _ _ [_] _ _ _
  refine Bod.ist dc_117_218 (by rw [ml_117]; exact Nat.le_of_ble_eq_true rfl) ?_
  refine Bod.go dc_117_220 rfl ?_
  refine Bod.bip 18 (by decide) dc_117_221 ?_
  refine Bod.bip 40 (by decide) dc_117_223 ?_
  refine Bod.bip 45 (by decide) dc_117_225 ?_
  refine Bod.virt (r := []) dc_117_227 kr_117_182 ⟨Or.inl rfl, ow_110, cl_10⟩ (by rw [np_110]; rfl) (by rw [np_110]; rfl) (ob_of (mk_43 _)) (Nat.le_of_ble_eq_true rfl) (c5  ) ?_
  show Bod _ _ _ _ [] _ _ _
  refine Bod.go dc_117_230 rfl ?_
  refine Bod.get dc_117_231 fr_117_9 (mk_43 _) rfl ?_
  refine Bod.virt (r := []) dc_117_234 kr_117_192 ⟨Or.inr rfl, ow_40, cl_3⟩ (by rw [np_40]; rfl) (by rw [np_40]; rfl) (ob_of (mk_31 _)) (Nat.le_of_ble_eq_true rfl) (c6  ) ?_
  show Bod _ _ _ _ [] _ _ _
  refine Bod.go dc_117_237 rfl ?_
  refine Bod.get dc_117_238 fr_117_23 (mk_43 _) rfl ?_
  refine Bod.ic 0 (by decide) dc_117_241 ?_
  refine Bod.virt (r := []) dc_117_242 kr_117_169 ⟨Or.inr rfl, ow_57, cl_1⟩ (by rw [np_57]; rfl) (by rw [np_57]; rfl) (ob_of (mk_44 _)) (Nat.le_of_ble_eq_true rfl) (c7  ) ?_
  show Bod _ _ _ _ [] _ _ _
  refine Bod.go dc_117_245 rfl ?_
  refine Bod.get dc_117_246 fr_117_15 (mk_43 _) rfl ?_
  refine Bod.go dc_117_249 rfl ?_
  refine Bod.virt (r := []) dc_117_251 kr_117_72 ⟨Or.inr rfl, ow_71, cl_7⟩ (by rw [np_71]; rfl) (by rw [np_71]; rfl) (ob_of (mk_23 _)) (Nat.le_of_ble_eq_true rfl) (c8  ) ?_
  show Bod _ _ _ _ [_] _ _ _
  refine Bod.go dc_117_254 rfl ?_
  refine Bod.go dc_117_255 rfl ?_
  refine Bod.ic 1 (by decide) dc_117_257 ?_
  refine Bod.icF dc_117_258 rfl (k2_ne_F (k_eq tg 1 rfl rfl (by omega))) ?_
  refine Bod.go dc_117_261 rfl ?_
  refine Bod.go dc_117_262 rfl ?_
  refine Bod.virt (r := []) dc_117_264 kr_117_131 ⟨Or.inl rfl, ow_93, cl_10⟩ (by rw [np_93]; rfl) (by rw [np_93]; rfl) (ob_of (mk_43 _)) (Nat.le_of_ble_eq_true rfl) (c9  ) ?_
  show Bod _ _ _ _ [] _ _ _
  refine Bod.go dc_117_267 rfl ?_
  exact Bod.retV dc_117_301 rt_117
theorem cBin_4 {d : Nat} {S : cS} {st : Nat} {top : Nat} {cs : Nat} {S1 : cS} {tk : Nat} {S2 : cS} {a : Nat} {S3 : cS} {a1 : Nat} (hst : sI S 3104 = nI st) (mst : st < 2 ^ 20) (htop : sI S 2307 = nI top) (mtop : top < 2 ^ 20) (hcs : sI S 2308 = nI cs) (mcs : cs < 2 ^ 20) (c1 : Ans (d + 8) 57 [.ref 44, .int (nI 0)] S none S1) (htk : sI S1 3105 = nI tk) (mtk : tk < 2 ^ 20) (b1 : tk ≠ 19) (ma : a < 2 ^ 20) (c2 : Ans (d + 8) 121 [.int (nI tk)] S1 (some (.int (nI a))) S2) (b2 : a = 0) (ma1 : a1 < 2 ^ 20) (c3 : Ans (d + 8) 71 [.ref 23, .int (nI 17)] S2 (some (.int (nI a1))) S3) : Bod (d + 8) 117 0 [(0, .ref 43)] [] S none (S3) := by
  refine Bod.go dc_117_0 rfl ?_
  refine Bod.get dc_117_1 fr_117_9 (mk_43 _) rfl ?_
  refine Bod.get dc_117_4 fr_117_166 (mk_31 _) rfl ?_
  refine Bod.eqI (nI st) (by first | assumption | rfl | exact congrArg nI (by omega) | (simp (disch := omega) only [rI, rIe, rA, rIA, rLA, rJA, rVI, rQI, rVA, rQA, upd_at,  rAI, rLI, rJI, nI_add, pk_sub, kc_0, kc_1, kc_2, kc_3, kc_4, kc_5, reduceIte, Nat.reduceEqDiff, Nat.add_zero, rI_hold, rI_hold, rL_hold, hst]; done)) ?_
  refine Bod.istn dc_117_7 (by rw [ml_117]; exact Nat.le_of_ble_eq_true rfl) ?_
  refine Bod.go dc_117_8 rfl ?_
  refine Bod.get dc_117_9 fr_117_15 (mk_43 _) rfl ?_
  refine Bod.get dc_117_12 fr_117_69 (mk_23 _) rfl ?_
  refine Bod.eqI (nI top) (by first | assumption | rfl | exact congrArg nI (by omega) | (simp (disch := omega) only [rI, rIe, rA, rIA, rLA, rJA, rVI, rQI, rVA, rQA, upd_at,  rAI, rLI, rJI, nI_add, pk_sub, kc_0, kc_1, kc_2, kc_3, kc_4, kc_5, reduceIte, Nat.reduceEqDiff, Nat.add_zero, rI_hold, rI_hold, rL_hold, hst, htop]; done)) ?_
  refine Bod.istn dc_117_15 (by rw [ml_117]; exact Nat.le_of_ble_eq_true rfl) ?_
  refine Bod.go dc_117_16 rfl ?_
  refine Bod.get dc_117_17 fr_117_15 (mk_43 _) rfl ?_
  refine Bod.get dc_117_20 fr_117_52 (mk_23 _) rfl ?_
  refine Bod.eqI (nI cs) (by first | assumption | rfl | exact congrArg nI (by omega) | (simp (disch := omega) only [rI, rIe, rA, rIA, rLA, rJA, rVI, rQI, rVA, rQA, upd_at,  rAI, rLI, rJI, nI_add, pk_sub, kc_0, kc_1, kc_2, kc_3, kc_4, kc_5, reduceIte, Nat.reduceEqDiff, Nat.add_zero, rI_hold, rI_hold, rL_hold, hst, htop, hcs]; done)) ?_
  refine Bod.istn dc_117_23 (by rw [ml_117]; exact Nat.le_of_ble_eq_true rfl) ?_
  refine Bod.go dc_117_24 rfl ?_
  refine Bod.get dc_117_25 fr_117_23 (mk_43 _) rfl ?_
  refine Bod.ic 0 (by decide) dc_117_28 ?_
  refine Bod.virt (r := []) dc_117_29 kr_117_169 ⟨Or.inr rfl, ow_57, cl_1⟩ (by rw [np_57]; rfl) (by rw [np_57]; rfl) (ob_of (mk_44 _)) (Nat.le_of_ble_eq_true rfl) (c1  ) ?_
  show Bod _ _ _ _ [] _ _ _
  refine Bod.go dc_117_32 rfl ?_
  refine Bod.get dc_117_33 fr_117_9 (mk_43 _) rfl ?_
  refine Bod.get dc_117_36 fr_117_79 (mk_31 _) rfl ?_
  refine Bod.eqI (nI tk) (by first | (simp (disch := omega) only [rI, rIe, rA, rIA, rLA, rJA, rVI, rQI, rVA, rQA, upd_at,  rAI, rLI, rJI, nI_add, pk_sub, kc_0, kc_1, kc_2, kc_3, kc_4, kc_5, reduceIte, Nat.reduceEqDiff, Nat.add_zero, rI_hold, rI_hold, rL_hold, hst, htop, hcs, htk]; done) | (simp (disch := omega) only [rI, rIe, rA, rIA, rLA, rJA, rVI, rQI, rVA, rQA, upd_at,  rAI, rLI, rJI, nI_add, pk_sub, kc_0, kc_1, kc_2, kc_3, kc_4, kc_5, reduceIte, Nat.reduceEqDiff, Nat.add_zero, rI_hold, rI_hold, rL_hold, hst, htop, hcs, htk]; exact congrArg nI (by omega))) ?_
  refine Bod.bip 19 (by decide) dc_117_39 ?_
  refine Bod.icT dc_117_41 rfl (k2_ne_T (k_ne tk 19 rfl rfl (by omega) (by omega) (by omega))) ?_
  refine Bod.go dc_117_167 rfl ?_
  refine Bod.get dc_117_168 fr_117_9 (mk_43 _) rfl ?_
  refine Bod.get dc_117_171 fr_117_79 (mk_31 _) rfl ?_
  refine Bod.eqI (nI tk) (by first | (simp (disch := omega) only [rI, rIe, rA, rIA, rLA, rJA, rVI, rQI, rVA, rQA, upd_at,  rAI, rLI, rJI, nI_add, pk_sub, kc_0, kc_1, kc_2, kc_3, kc_4, kc_5, reduceIte, Nat.reduceEqDiff, Nat.add_zero, rI_hold, rI_hold, rL_hold, hst, htop, hcs, htk]; done) | (simp (disch := omega) only [rI, rIe, rA, rIA, rLA, rJA, rVI, rQI, rVA, rQA, upd_at,  rAI, rLI, rJI, nI_add, pk_sub, kc_0, kc_1, kc_2, kc_3, kc_4, kc_5, reduceIte, Nat.reduceEqDiff, Nat.add_zero, rI_hold, rI_hold, rL_hold, hst, htop, hcs, htk]; exact congrArg nI (by omega))) ?_
  refine Bod.stat (r := []) dc_117_174 kr_117_185 (Or.inl rfl) (by rw [np_121]; rfl) (by rw [np_121]; rfl) (by rw [np_121]; exact Nat.le_of_ble_eq_true rfl) (Nat.le_of_ble_eq_true rfl) (c2  ) ?_
  show Bod _ _ _ _ [_] _ _ _
  refine Bod.ifF dc_117_177 rfl (k1_ne_F (k_eq a 0 rfl rfl (by omega))) ?_
  refine Bod.go dc_117_180 rfl ?_
  refine Bod.get dc_117_181 fr_117_15 (mk_43 _) rfl ?_
  refine Bod.bip 17 (by decide) dc_117_184 ?_
  refine Bod.virt (r := []) dc_117_186 kr_117_72 ⟨Or.inr rfl, ow_71, cl_7⟩ (by rw [np_71]; rfl) (by rw [np_71]; rfl) (ob_of (mk_23 _)) (Nat.le_of_ble_eq_true rfl) (c3  ) ?_
  show Bod _ _ _ _ [_] _ _ _
  refine Bod.go dc_117_189 rfl ?_
  refine Bod.go dc_117_190 rfl ?_
  exact Bod.retV dc_117_301 rt_117
theorem cBin_5 {d : Nat} {S : cS} {st : Nat} {top : Nat} {cs : Nat} {S1 : cS} {tk : Nat} {tg : Nat} {fs : Nat} {S2 : cS} {S3 : cS} {S4 : cS} {S5 : cS} {tk1 : Nat} {st1 : Nat} {S6 : cS} {S7 : cS} {S8 : cS} {S9 : cS} (hst : sI S 3104 = nI st) (mst : st < 2 ^ 20) (htop : sI S 2307 = nI top) (mtop : top < 2 ^ 20) (hcs : sI S 2308 = nI cs) (mcs : cs < 2 ^ 20) (c1 : Ans (d + 8) 57 [.ref 44, .int (nI 0)] S none S1) (htk : sI S1 3105 = nI tk) (mtk : tk < 2 ^ 20) (b1 : tk = 19) (htg : sI S1 4403 = nI tg) (mtg : tg < 2 ^ 20) (b2 : tg ≠ 0) (hfs : sI S1 2309 = nI fs) (mfs : fs < 2 ^ 20) (c2 : Ans (d + 8) 118 [.ref 23, .int (nI top), .int (nI cs), .int (nI fs)] S1 none S2) (c3 : Ans (d + 8) 119 [.ref 32, .int (nI top)] S2 none S3) (c4 : Ans (d + 8) 75 [.ref 31, .int (nI 19)] S3 none S4) (c5 : Ans (d + 8) 57 [.ref 44, .int (nI 0)] S4 none S5) (htk1 : sI S5 3105 = nI tk1) (mtk1 : tk1 < 2 ^ 20) (b3 : tk1 = 2) (hst1 : sI S5 3104 = nI st1) (mst1 : st1 < 2 ^ 20) (c6 : Ans (d + 8) 120 [.ref 31, .int (nI st)] S5 none S6) (c7 : Ans (d + 8) 57 [.ref 44, .int (nI 0)] S6 none S7) (c8 : Ans (d + 8) 110 [.ref 43, .int (nI 19), .int (nI 41), .int (nI 46)] S7 none S8) (c9 : Ans (d + 8) 120 [.ref 31, .int (nI st1)] S8 none S9) : Bod (d + 8) 117 0 [(0, .ref 43)] [] S none (S9) := by
  refine Bod.go dc_117_0 rfl ?_
  refine Bod.get dc_117_1 fr_117_9 (mk_43 _) rfl ?_
  refine Bod.get dc_117_4 fr_117_166 (mk_31 _) rfl ?_
  refine Bod.eqI (nI st) (by first | assumption | rfl | exact congrArg nI (by omega) | (simp (disch := omega) only [rI, rIe, rA, rIA, rLA, rJA, rVI, rQI, rVA, rQA, upd_at,  rAI, rLI, rJI, nI_add, pk_sub, kc_0, kc_1, kc_2, kc_3, kc_4, kc_5, reduceIte, Nat.reduceEqDiff, Nat.add_zero, rI_hold, rI_hold, rL_hold, hst]; done)) ?_
  refine Bod.istn dc_117_7 (by rw [ml_117]; exact Nat.le_of_ble_eq_true rfl) ?_
  refine Bod.go dc_117_8 rfl ?_
  refine Bod.get dc_117_9 fr_117_15 (mk_43 _) rfl ?_
  refine Bod.get dc_117_12 fr_117_69 (mk_23 _) rfl ?_
  refine Bod.eqI (nI top) (by first | assumption | rfl | exact congrArg nI (by omega) | (simp (disch := omega) only [rI, rIe, rA, rIA, rLA, rJA, rVI, rQI, rVA, rQA, upd_at,  rAI, rLI, rJI, nI_add, pk_sub, kc_0, kc_1, kc_2, kc_3, kc_4, kc_5, reduceIte, Nat.reduceEqDiff, Nat.add_zero, rI_hold, rI_hold, rL_hold, hst, htop]; done)) ?_
  refine Bod.istn dc_117_15 (by rw [ml_117]; exact Nat.le_of_ble_eq_true rfl) ?_
  refine Bod.go dc_117_16 rfl ?_
  refine Bod.get dc_117_17 fr_117_15 (mk_43 _) rfl ?_
  refine Bod.get dc_117_20 fr_117_52 (mk_23 _) rfl ?_
  refine Bod.eqI (nI cs) (by first | assumption | rfl | exact congrArg nI (by omega) | (simp (disch := omega) only [rI, rIe, rA, rIA, rLA, rJA, rVI, rQI, rVA, rQA, upd_at,  rAI, rLI, rJI, nI_add, pk_sub, kc_0, kc_1, kc_2, kc_3, kc_4, kc_5, reduceIte, Nat.reduceEqDiff, Nat.add_zero, rI_hold, rI_hold, rL_hold, hst, htop, hcs]; done)) ?_
  refine Bod.istn dc_117_23 (by rw [ml_117]; exact Nat.le_of_ble_eq_true rfl) ?_
  refine Bod.go dc_117_24 rfl ?_
  refine Bod.get dc_117_25 fr_117_23 (mk_43 _) rfl ?_
  refine Bod.ic 0 (by decide) dc_117_28 ?_
  refine Bod.virt (r := []) dc_117_29 kr_117_169 ⟨Or.inr rfl, ow_57, cl_1⟩ (by rw [np_57]; rfl) (by rw [np_57]; rfl) (ob_of (mk_44 _)) (Nat.le_of_ble_eq_true rfl) (c1  ) ?_
  show Bod _ _ _ _ [] _ _ _
  refine Bod.go dc_117_32 rfl ?_
  refine Bod.get dc_117_33 fr_117_9 (mk_43 _) rfl ?_
  refine Bod.get dc_117_36 fr_117_79 (mk_31 _) rfl ?_
  refine Bod.eqI (nI tk) (by first | (simp (disch := omega) only [rI, rIe, rA, rIA, rLA, rJA, rVI, rQI, rVA, rQA, upd_at,  rAI, rLI, rJI, nI_add, pk_sub, kc_0, kc_1, kc_2, kc_3, kc_4, kc_5, reduceIte, Nat.reduceEqDiff, Nat.add_zero, rI_hold, rI_hold, rL_hold, hst, htop, hcs, htk]; done) | (simp (disch := omega) only [rI, rIe, rA, rIA, rLA, rJA, rVI, rQI, rVA, rQA, upd_at,  rAI, rLI, rJI, nI_add, pk_sub, kc_0, kc_1, kc_2, kc_3, kc_4, kc_5, reduceIte, Nat.reduceEqDiff, Nat.add_zero, rI_hold, rI_hold, rL_hold, hst, htop, hcs, htk]; exact congrArg nI (by omega))) ?_
  refine Bod.bip 19 (by decide) dc_117_39 ?_
  refine Bod.icF dc_117_41 rfl (k2_ne_F (k_eq tk 19 rfl rfl (by omega))) ?_
  refine Bod.go dc_117_44 rfl ?_
  refine Bod.get dc_117_45 fr_117_23 (mk_43 _) rfl ?_
  refine Bod.get dc_117_48 fr_117_173 (mk_44 _) rfl ?_
  refine Bod.eqI (nI tg) (by first | (simp (disch := omega) only [rI, rIe, rA, rIA, rLA, rJA, rVI, rQI, rVA, rQA, upd_at,  rAI, rLI, rJI, nI_add, pk_sub, kc_0, kc_1, kc_2, kc_3, kc_4, kc_5, reduceIte, Nat.reduceEqDiff, Nat.add_zero, rI_hold, rI_hold, rL_hold, hst, htop, hcs, htk, htg]; done) | (simp (disch := omega) only [rI, rIe, rA, rIA, rLA, rJA, rVI, rQI, rVA, rQA, upd_at,  rAI, rLI, rJI, nI_add, pk_sub, kc_0, kc_1, kc_2, kc_3, kc_4, kc_5, reduceIte, Nat.reduceEqDiff, Nat.add_zero, rI_hold, rI_hold, rL_hold, hst, htop, hcs, htk, htg]; exact congrArg nI (by omega))) ?_
  refine Bod.ifT dc_117_51 rfl (k1_ne_T (k_ne tg 0 rfl rfl (by omega) (by omega) (by omega))) ?_
  refine Bod.go dc_117_61 rfl ?_
  refine Bod.get dc_117_62 fr_117_15 (mk_43 _) rfl ?_
  refine Bod.go dc_117_65 rfl ?_
  refine Bod.go dc_117_66 rfl ?_
  refine Bod.go dc_117_67 rfl ?_
  refine Bod.get dc_117_68 fr_117_15 (mk_43 _) rfl ?_
  refine Bod.get dc_117_71 fr_117_58 (mk_23 _) rfl ?_
  refine Bod.eqI (nI fs) (by first | (simp (disch := omega) only [rI, rIe, rA, rIA, rLA, rJA, rVI, rQI, rVA, rQA, upd_at,  rAI, rLI, rJI, nI_add, pk_sub, kc_0, kc_1, kc_2, kc_3, kc_4, kc_5, reduceIte, Nat.reduceEqDiff, Nat.add_zero, rI_hold, rI_hold, rL_hold, hst, htop, hcs, htk, htg, hfs]; done) | (simp (disch := omega) only [rI, rIe, rA, rIA, rLA, rJA, rVI, rQI, rVA, rQA, upd_at,  rAI, rLI, rJI, nI_add, pk_sub, kc_0, kc_1, kc_2, kc_3, kc_4, kc_5, reduceIte, Nat.reduceEqDiff, Nat.add_zero, rI_hold, rI_hold, rL_hold, hst, htop, hcs, htk, htg, hfs]; exact congrArg nI (by omega))) ?_
  refine Bod.virt (r := []) dc_117_74 kr_117_85 ⟨Or.inr rfl, ow_118, cl_7⟩ (by rw [np_118]; rfl) (by rw [np_118]; rfl) (ob_of (mk_23 _)) (Nat.le_of_ble_eq_true rfl) (c2  ) ?_
  show Bod _ _ _ _ [] _ _ _
  refine Bod.go dc_117_77 rfl ?_
  refine Bod.get dc_117_78 fr_117_19 (mk_43 _) rfl ?_
  refine Bod.go dc_117_81 rfl ?_
  refine Bod.virt (r := []) dc_117_82 kr_117_176 ⟨Or.inr rfl, ow_119, cl_8⟩ (by rw [np_119]; rfl) (by rw [np_119]; rfl) (ob_of (mk_32 _)) (Nat.le_of_ble_eq_true rfl) (c3  ) ?_
  show Bod _ _ _ _ [] _ _ _
  refine Bod.go dc_117_85 rfl ?_
  refine Bod.get dc_117_86 fr_117_9 (mk_43 _) rfl ?_
  refine Bod.bip 19 (by decide) dc_117_89 ?_
  refine Bod.virt (r := []) dc_117_91 kr_117_107 ⟨Or.inr rfl, ow_75, cl_3⟩ (by rw [np_75]; rfl) (by rw [np_75]; rfl) (ob_of (mk_31 _)) (Nat.le_of_ble_eq_true rfl) (c4  ) ?_
  show Bod _ _ _ _ [] _ _ _
  refine Bod.go dc_117_94 rfl ?_
  refine Bod.get dc_117_95 fr_117_23 (mk_43 _) rfl ?_
  refine Bod.ic 0 (by decide) dc_117_98 ?_
  refine Bod.virt (r := []) dc_117_99 kr_117_169 ⟨Or.inr rfl, ow_57, cl_1⟩ (by rw [np_57]; rfl) (by rw [np_57]; rfl) (ob_of (mk_44 _)) (Nat.le_of_ble_eq_true rfl) (c5  ) ?_
  show Bod _ _ _ _ [] _ _ _
  refine Bod.go dc_117_102 rfl ?_
  refine Bod.get dc_117_103 fr_117_9 (mk_43 _) rfl ?_
  refine Bod.get dc_117_106 fr_117_79 (mk_31 _) rfl ?_
  refine Bod.eqI (nI tk1) (by first | (simp (disch := omega) only [rI, rIe, rA, rIA, rLA, rJA, rVI, rQI, rVA, rQA, upd_at,  rAI, rLI, rJI, nI_add, pk_sub, kc_0, kc_1, kc_2, kc_3, kc_4, kc_5, reduceIte, Nat.reduceEqDiff, Nat.add_zero, rI_hold, rI_hold, rL_hold, hst, htop, hcs, htk, htg, hfs, htk1]; done) | (simp (disch := omega) only [rI, rIe, rA, rIA, rLA, rJA, rVI, rQI, rVA, rQA, upd_at,  rAI, rLI, rJI, nI_add, pk_sub, kc_0, kc_1, kc_2, kc_3, kc_4, kc_5, reduceIte, Nat.reduceEqDiff, Nat.add_zero, rI_hold, rI_hold, rL_hold, hst, htop, hcs, htk, htg, hfs, htk1]; exact congrArg nI (by omega))) ?_
  refine Bod.ic 2 (by decide) dc_117_109 ?_
  refine Bod.icT dc_117_110 rfl (k2_eq_T (k_eq tk1 2 rfl rfl (by omega))) ?_
  refine Bod.go dc_117_120 rfl ?_
  refine Bod.get dc_117_121 fr_117_9 (mk_43 _) rfl ?_
  refine Bod.get dc_117_124 fr_117_166 (mk_31 _) rfl ?_
  refine Bod.eqI (nI st1) (by first | (simp (disch := omega) only [rI, rIe, rA, rIA, rLA, rJA, rVI, rQI, rVA, rQA, upd_at,  rAI, rLI, rJI, nI_add, pk_sub, kc_0, kc_1, kc_2, kc_3, kc_4, kc_5, reduceIte, Nat.reduceEqDiff, Nat.add_zero, rI_hold, rI_hold, rL_hold, hst, htop, hcs, htk, htg, hfs, htk1, hst1]; done) | (simp (disch := omega) only [rI, rIe, rA, rIA, rLA, rJA, rVI, rQI, rVA, rQA, upd_at,  rAI, rLI, rJI, nI_add, pk_sub, kc_0, kc_1, kc_2, kc_3, kc_4, kc_5, reduceIte, Nat.reduceEqDiff, Nat.add_zero, rI_hold, rI_hold, rL_hold, hst, htop, hcs, htk, htg, hfs, htk1, hst1]; exact congrArg nI (by omega))) ?_
  refine Bod.ist dc_117_127 (by rw [ml_117]; exact Nat.le_of_ble_eq_true rfl) ?_
  refine Bod.go dc_117_129 rfl ?_
  refine Bod.get dc_117_130 fr_117_9 (mk_43 _) rfl ?_
  refine Bod.go dc_117_133 rfl ?_
  refine Bod.virt (r := []) dc_117_134 kr_117_179 ⟨Or.inr rfl, ow_120, cl_3⟩ (by rw [np_120]; rfl) (by rw [np_120]; rfl) (ob_of (mk_31 _)) (Nat.le_of_ble_eq_true rfl) (c6  ) ?_
  show Bod _ _ _ _ [] _ _ _
  refine Bod.go dc_117_137 rfl ?_
  refine Bod.get dc_117_138 fr_117_23 (mk_43 _) rfl ?_
  refine Bod.ic 0 (by decide) dc_117_141 ?_
  refine Bod.virt (r := []) dc_117_142 kr_117_169 ⟨Or.inr rfl, ow_57, cl_1⟩ (by rw [np_57]; rfl) (by rw [np_57]; rfl) (ob_of (mk_44 _)) (Nat.le_of_ble_eq_true rfl) (c7  ) ?_
  show Bod _ _ _ _ [] _ _ _
  refine Bod.go dc_117_145 rfl ?_
  refine Bod.bip 19 (by decide) dc_117_146 ?_
  refine Bod.bip 41 (by decide) dc_117_148 ?_
  refine Bod.bip 46 (by decide) dc_117_150 ?_
  refine Bod.virt (r := []) dc_117_152 kr_117_182 ⟨Or.inl rfl, ow_110, cl_10⟩ (by rw [np_110]; rfl) (by rw [np_110]; rfl) (ob_of (mk_43 _)) (Nat.le_of_ble_eq_true rfl) (c8  ) ?_
  show Bod _ _ _ _ [] _ _ _
  refine Bod.go dc_117_155 rfl ?_
  refine Bod.get dc_117_156 fr_117_9 (mk_43 _) rfl ?_
  refine Bod.go dc_117_159 rfl ?_
  refine Bod.virt (r := []) dc_117_161 kr_117_179 ⟨Or.inr rfl, ow_120, cl_3⟩ (by rw [np_120]; rfl) (by rw [np_120]; rfl) (ob_of (mk_31 _)) (Nat.le_of_ble_eq_true rfl) (c9  ) ?_
  show Bod _ _ _ _ [] _ _ _
  refine Bod.go dc_117_164 rfl ?_
  exact Bod.retV dc_117_301 rt_117
theorem cBin_6 {d : Nat} {S : cS} {st : Nat} {top : Nat} {cs : Nat} {S1 : cS} {tk : Nat} {tg : Nat} {fs : Nat} {S2 : cS} {S3 : cS} {S4 : cS} {S5 : cS} {tk1 : Nat} {S6 : cS} {st1 : Nat} {S7 : cS} {S8 : cS} {S9 : cS} {S10 : cS} (hst : sI S 3104 = nI st) (mst : st < 2 ^ 20) (htop : sI S 2307 = nI top) (mtop : top < 2 ^ 20) (hcs : sI S 2308 = nI cs) (mcs : cs < 2 ^ 20) (c1 : Ans (d + 8) 57 [.ref 44, .int (nI 0)] S none S1) (htk : sI S1 3105 = nI tk) (mtk : tk < 2 ^ 20) (b1 : tk = 19) (htg : sI S1 4403 = nI tg) (mtg : tg < 2 ^ 20) (b2 : tg ≠ 0) (hfs : sI S1 2309 = nI fs) (mfs : fs < 2 ^ 20) (c2 : Ans (d + 8) 118 [.ref 23, .int (nI top), .int (nI cs), .int (nI fs)] S1 none S2) (c3 : Ans (d + 8) 119 [.ref 32, .int (nI top)] S2 none S3) (c4 : Ans (d + 8) 75 [.ref 31, .int (nI 19)] S3 none S4) (c5 : Ans (d + 8) 57 [.ref 44, .int (nI 0)] S4 none S5) (htk1 : sI S5 3105 = nI tk1) (mtk1 : tk1 < 2 ^ 20) (b3 : tk1 ≠ 2) (c6 : Ans (d + 8) 44 [.ref 31] S5 none S6) (hst1 : sI S6 3104 = nI st1) (mst1 : st1 < 2 ^ 20) (c7 : Ans (d + 8) 120 [.ref 31, .int (nI st)] S6 none S7) (c8 : Ans (d + 8) 57 [.ref 44, .int (nI 0)] S7 none S8) (c9 : Ans (d + 8) 110 [.ref 43, .int (nI 19), .int (nI 41), .int (nI 46)] S8 none S9) (c10 : Ans (d + 8) 120 [.ref 31, .int (nI st1)] S9 none S10) : Bod (d + 8) 117 0 [(0, .ref 43)] [] S none (S10) := by
  refine Bod.go dc_117_0 rfl ?_
  refine Bod.get dc_117_1 fr_117_9 (mk_43 _) rfl ?_
  refine Bod.get dc_117_4 fr_117_166 (mk_31 _) rfl ?_
  refine Bod.eqI (nI st) (by first | assumption | rfl | exact congrArg nI (by omega) | (simp (disch := omega) only [rI, rIe, rA, rIA, rLA, rJA, rVI, rQI, rVA, rQA, upd_at,  rAI, rLI, rJI, nI_add, pk_sub, kc_0, kc_1, kc_2, kc_3, kc_4, kc_5, reduceIte, Nat.reduceEqDiff, Nat.add_zero, rI_hold, rI_hold, rL_hold, hst]; done)) ?_
  refine Bod.istn dc_117_7 (by rw [ml_117]; exact Nat.le_of_ble_eq_true rfl) ?_
  refine Bod.go dc_117_8 rfl ?_
  refine Bod.get dc_117_9 fr_117_15 (mk_43 _) rfl ?_
  refine Bod.get dc_117_12 fr_117_69 (mk_23 _) rfl ?_
  refine Bod.eqI (nI top) (by first | assumption | rfl | exact congrArg nI (by omega) | (simp (disch := omega) only [rI, rIe, rA, rIA, rLA, rJA, rVI, rQI, rVA, rQA, upd_at,  rAI, rLI, rJI, nI_add, pk_sub, kc_0, kc_1, kc_2, kc_3, kc_4, kc_5, reduceIte, Nat.reduceEqDiff, Nat.add_zero, rI_hold, rI_hold, rL_hold, hst, htop]; done)) ?_
  refine Bod.istn dc_117_15 (by rw [ml_117]; exact Nat.le_of_ble_eq_true rfl) ?_
  refine Bod.go dc_117_16 rfl ?_
  refine Bod.get dc_117_17 fr_117_15 (mk_43 _) rfl ?_
  refine Bod.get dc_117_20 fr_117_52 (mk_23 _) rfl ?_
  refine Bod.eqI (nI cs) (by first | assumption | rfl | exact congrArg nI (by omega) | (simp (disch := omega) only [rI, rIe, rA, rIA, rLA, rJA, rVI, rQI, rVA, rQA, upd_at,  rAI, rLI, rJI, nI_add, pk_sub, kc_0, kc_1, kc_2, kc_3, kc_4, kc_5, reduceIte, Nat.reduceEqDiff, Nat.add_zero, rI_hold, rI_hold, rL_hold, hst, htop, hcs]; done)) ?_
  refine Bod.istn dc_117_23 (by rw [ml_117]; exact Nat.le_of_ble_eq_true rfl) ?_
  refine Bod.go dc_117_24 rfl ?_
  refine Bod.get dc_117_25 fr_117_23 (mk_43 _) rfl ?_
  refine Bod.ic 0 (by decide) dc_117_28 ?_
  refine Bod.virt (r := []) dc_117_29 kr_117_169 ⟨Or.inr rfl, ow_57, cl_1⟩ (by rw [np_57]; rfl) (by rw [np_57]; rfl) (ob_of (mk_44 _)) (Nat.le_of_ble_eq_true rfl) (c1  ) ?_
  show Bod _ _ _ _ [] _ _ _
  refine Bod.go dc_117_32 rfl ?_
  refine Bod.get dc_117_33 fr_117_9 (mk_43 _) rfl ?_
  refine Bod.get dc_117_36 fr_117_79 (mk_31 _) rfl ?_
  refine Bod.eqI (nI tk) (by first | (simp (disch := omega) only [rI, rIe, rA, rIA, rLA, rJA, rVI, rQI, rVA, rQA, upd_at,  rAI, rLI, rJI, nI_add, pk_sub, kc_0, kc_1, kc_2, kc_3, kc_4, kc_5, reduceIte, Nat.reduceEqDiff, Nat.add_zero, rI_hold, rI_hold, rL_hold, hst, htop, hcs, htk]; done) | (simp (disch := omega) only [rI, rIe, rA, rIA, rLA, rJA, rVI, rQI, rVA, rQA, upd_at,  rAI, rLI, rJI, nI_add, pk_sub, kc_0, kc_1, kc_2, kc_3, kc_4, kc_5, reduceIte, Nat.reduceEqDiff, Nat.add_zero, rI_hold, rI_hold, rL_hold, hst, htop, hcs, htk]; exact congrArg nI (by omega))) ?_
  refine Bod.bip 19 (by decide) dc_117_39 ?_
  refine Bod.icF dc_117_41 rfl (k2_ne_F (k_eq tk 19 rfl rfl (by omega))) ?_
  refine Bod.go dc_117_44 rfl ?_
  refine Bod.get dc_117_45 fr_117_23 (mk_43 _) rfl ?_
  refine Bod.get dc_117_48 fr_117_173 (mk_44 _) rfl ?_
  refine Bod.eqI (nI tg) (by first | (simp (disch := omega) only [rI, rIe, rA, rIA, rLA, rJA, rVI, rQI, rVA, rQA, upd_at,  rAI, rLI, rJI, nI_add, pk_sub, kc_0, kc_1, kc_2, kc_3, kc_4, kc_5, reduceIte, Nat.reduceEqDiff, Nat.add_zero, rI_hold, rI_hold, rL_hold, hst, htop, hcs, htk, htg]; done) | (simp (disch := omega) only [rI, rIe, rA, rIA, rLA, rJA, rVI, rQI, rVA, rQA, upd_at,  rAI, rLI, rJI, nI_add, pk_sub, kc_0, kc_1, kc_2, kc_3, kc_4, kc_5, reduceIte, Nat.reduceEqDiff, Nat.add_zero, rI_hold, rI_hold, rL_hold, hst, htop, hcs, htk, htg]; exact congrArg nI (by omega))) ?_
  refine Bod.ifT dc_117_51 rfl (k1_ne_T (k_ne tg 0 rfl rfl (by omega) (by omega) (by omega))) ?_
  refine Bod.go dc_117_61 rfl ?_
  refine Bod.get dc_117_62 fr_117_15 (mk_43 _) rfl ?_
  refine Bod.go dc_117_65 rfl ?_
  refine Bod.go dc_117_66 rfl ?_
  refine Bod.go dc_117_67 rfl ?_
  refine Bod.get dc_117_68 fr_117_15 (mk_43 _) rfl ?_
  refine Bod.get dc_117_71 fr_117_58 (mk_23 _) rfl ?_
  refine Bod.eqI (nI fs) (by first | (simp (disch := omega) only [rI, rIe, rA, rIA, rLA, rJA, rVI, rQI, rVA, rQA, upd_at,  rAI, rLI, rJI, nI_add, pk_sub, kc_0, kc_1, kc_2, kc_3, kc_4, kc_5, reduceIte, Nat.reduceEqDiff, Nat.add_zero, rI_hold, rI_hold, rL_hold, hst, htop, hcs, htk, htg, hfs]; done) | (simp (disch := omega) only [rI, rIe, rA, rIA, rLA, rJA, rVI, rQI, rVA, rQA, upd_at,  rAI, rLI, rJI, nI_add, pk_sub, kc_0, kc_1, kc_2, kc_3, kc_4, kc_5, reduceIte, Nat.reduceEqDiff, Nat.add_zero, rI_hold, rI_hold, rL_hold, hst, htop, hcs, htk, htg, hfs]; exact congrArg nI (by omega))) ?_
  refine Bod.virt (r := []) dc_117_74 kr_117_85 ⟨Or.inr rfl, ow_118, cl_7⟩ (by rw [np_118]; rfl) (by rw [np_118]; rfl) (ob_of (mk_23 _)) (Nat.le_of_ble_eq_true rfl) (c2  ) ?_
  show Bod _ _ _ _ [] _ _ _
  refine Bod.go dc_117_77 rfl ?_
  refine Bod.get dc_117_78 fr_117_19 (mk_43 _) rfl ?_
  refine Bod.go dc_117_81 rfl ?_
  refine Bod.virt (r := []) dc_117_82 kr_117_176 ⟨Or.inr rfl, ow_119, cl_8⟩ (by rw [np_119]; rfl) (by rw [np_119]; rfl) (ob_of (mk_32 _)) (Nat.le_of_ble_eq_true rfl) (c3  ) ?_
  show Bod _ _ _ _ [] _ _ _
  refine Bod.go dc_117_85 rfl ?_
  refine Bod.get dc_117_86 fr_117_9 (mk_43 _) rfl ?_
  refine Bod.bip 19 (by decide) dc_117_89 ?_
  refine Bod.virt (r := []) dc_117_91 kr_117_107 ⟨Or.inr rfl, ow_75, cl_3⟩ (by rw [np_75]; rfl) (by rw [np_75]; rfl) (ob_of (mk_31 _)) (Nat.le_of_ble_eq_true rfl) (c4  ) ?_
  show Bod _ _ _ _ [] _ _ _
  refine Bod.go dc_117_94 rfl ?_
  refine Bod.get dc_117_95 fr_117_23 (mk_43 _) rfl ?_
  refine Bod.ic 0 (by decide) dc_117_98 ?_
  refine Bod.virt (r := []) dc_117_99 kr_117_169 ⟨Or.inr rfl, ow_57, cl_1⟩ (by rw [np_57]; rfl) (by rw [np_57]; rfl) (ob_of (mk_44 _)) (Nat.le_of_ble_eq_true rfl) (c5  ) ?_
  show Bod _ _ _ _ [] _ _ _
  refine Bod.go dc_117_102 rfl ?_
  refine Bod.get dc_117_103 fr_117_9 (mk_43 _) rfl ?_
  refine Bod.get dc_117_106 fr_117_79 (mk_31 _) rfl ?_
  refine Bod.eqI (nI tk1) (by first | (simp (disch := omega) only [rI, rIe, rA, rIA, rLA, rJA, rVI, rQI, rVA, rQA, upd_at,  rAI, rLI, rJI, nI_add, pk_sub, kc_0, kc_1, kc_2, kc_3, kc_4, kc_5, reduceIte, Nat.reduceEqDiff, Nat.add_zero, rI_hold, rI_hold, rL_hold, hst, htop, hcs, htk, htg, hfs, htk1]; done) | (simp (disch := omega) only [rI, rIe, rA, rIA, rLA, rJA, rVI, rQI, rVA, rQA, upd_at,  rAI, rLI, rJI, nI_add, pk_sub, kc_0, kc_1, kc_2, kc_3, kc_4, kc_5, reduceIte, Nat.reduceEqDiff, Nat.add_zero, rI_hold, rI_hold, rL_hold, hst, htop, hcs, htk, htg, hfs, htk1]; exact congrArg nI (by omega))) ?_
  refine Bod.ic 2 (by decide) dc_117_109 ?_
  refine Bod.icF dc_117_110 rfl (k2_eq_F (k_ne tk1 2 rfl rfl (by omega) (by omega) (by omega))) ?_
  refine Bod.go dc_117_113 rfl ?_
  refine Bod.get dc_117_114 fr_117_9 (mk_43 _) rfl ?_
  refine Bod.virt (r := []) dc_117_117 kr_117_76 ⟨Or.inr rfl, ow_44, cl_3⟩ (by rw [np_44]; rfl) (by rw [np_44]; rfl) (ob_of (mk_31 _)) (Nat.le_of_ble_eq_true rfl) (c6  ) ?_
  show Bod _ _ _ _ [] _ _ _
  refine Bod.go dc_117_120 rfl ?_
  refine Bod.get dc_117_121 fr_117_9 (mk_43 _) rfl ?_
  refine Bod.get dc_117_124 fr_117_166 (mk_31 _) rfl ?_
  refine Bod.eqI (nI st1) (by first | (simp (disch := omega) only [rI, rIe, rA, rIA, rLA, rJA, rVI, rQI, rVA, rQA, upd_at,  rAI, rLI, rJI, nI_add, pk_sub, kc_0, kc_1, kc_2, kc_3, kc_4, kc_5, reduceIte, Nat.reduceEqDiff, Nat.add_zero, rI_hold, rI_hold, rL_hold, hst, htop, hcs, htk, htg, hfs, htk1, hst1]; done) | (simp (disch := omega) only [rI, rIe, rA, rIA, rLA, rJA, rVI, rQI, rVA, rQA, upd_at,  rAI, rLI, rJI, nI_add, pk_sub, kc_0, kc_1, kc_2, kc_3, kc_4, kc_5, reduceIte, Nat.reduceEqDiff, Nat.add_zero, rI_hold, rI_hold, rL_hold, hst, htop, hcs, htk, htg, hfs, htk1, hst1]; exact congrArg nI (by omega))) ?_
  refine Bod.ist dc_117_127 (by rw [ml_117]; exact Nat.le_of_ble_eq_true rfl) ?_
  refine Bod.go dc_117_129 rfl ?_
  refine Bod.get dc_117_130 fr_117_9 (mk_43 _) rfl ?_
  refine Bod.go dc_117_133 rfl ?_
  refine Bod.virt (r := []) dc_117_134 kr_117_179 ⟨Or.inr rfl, ow_120, cl_3⟩ (by rw [np_120]; rfl) (by rw [np_120]; rfl) (ob_of (mk_31 _)) (Nat.le_of_ble_eq_true rfl) (c7  ) ?_
  show Bod _ _ _ _ [] _ _ _
  refine Bod.go dc_117_137 rfl ?_
  refine Bod.get dc_117_138 fr_117_23 (mk_43 _) rfl ?_
  refine Bod.ic 0 (by decide) dc_117_141 ?_
  refine Bod.virt (r := []) dc_117_142 kr_117_169 ⟨Or.inr rfl, ow_57, cl_1⟩ (by rw [np_57]; rfl) (by rw [np_57]; rfl) (ob_of (mk_44 _)) (Nat.le_of_ble_eq_true rfl) (c8  ) ?_
  show Bod _ _ _ _ [] _ _ _
  refine Bod.go dc_117_145 rfl ?_
  refine Bod.bip 19 (by decide) dc_117_146 ?_
  refine Bod.bip 41 (by decide) dc_117_148 ?_
  refine Bod.bip 46 (by decide) dc_117_150 ?_
  refine Bod.virt (r := []) dc_117_152 kr_117_182 ⟨Or.inl rfl, ow_110, cl_10⟩ (by rw [np_110]; rfl) (by rw [np_110]; rfl) (ob_of (mk_43 _)) (Nat.le_of_ble_eq_true rfl) (c9  ) ?_
  show Bod _ _ _ _ [] _ _ _
  refine Bod.go dc_117_155 rfl ?_
  refine Bod.get dc_117_156 fr_117_9 (mk_43 _) rfl ?_
  refine Bod.go dc_117_159 rfl ?_
  refine Bod.virt (r := []) dc_117_161 kr_117_179 ⟨Or.inr rfl, ow_120, cl_3⟩ (by rw [np_120]; rfl) (by rw [np_120]; rfl) (ob_of (mk_31 _)) (Nat.le_of_ble_eq_true rfl) (c10  ) ?_
  show Bod _ _ _ _ [] _ _ _
  refine Bod.go dc_117_164 rfl ?_
  exact Bod.retV dc_117_301 rt_117
theorem cBin_7 {d : Nat} {S : cS} {st : Nat} {top : Nat} {cs : Nat} {S1 : cS} {tk : Nat} {tg : Nat} {S2 : cS} {fs : Nat} {S3 : cS} {S4 : cS} {S5 : cS} {S6 : cS} {tk1 : Nat} {st1 : Nat} {S7 : cS} {S8 : cS} {S9 : cS} {S10 : cS} (hst : sI S 3104 = nI st) (mst : st < 2 ^ 20) (htop : sI S 2307 = nI top) (mtop : top < 2 ^ 20) (hcs : sI S 2308 = nI cs) (mcs : cs < 2 ^ 20) (c1 : Ans (d + 8) 57 [.ref 44, .int (nI 0)] S none S1) (htk : sI S1 3105 = nI tk) (mtk : tk < 2 ^ 20) (b1 : tk = 19) (htg : sI S1 4403 = nI tg) (mtg : tg < 2 ^ 20) (b2 : tg = 0) (c2 : Ans (d + 8) 44 [.ref 31] S1 none S2) (hfs : sI S2 2309 = nI fs) (mfs : fs < 2 ^ 20) (c3 : Ans (d + 8) 118 [.ref 23, .int (nI top), .int (nI cs), .int (nI fs)] S2 none S3) (c4 : Ans (d + 8) 119 [.ref 32, .int (nI top)] S3 none S4) (c5 : Ans (d + 8) 75 [.ref 31, .int (nI 19)] S4 none S5) (c6 : Ans (d + 8) 57 [.ref 44, .int (nI 0)] S5 none S6) (htk1 : sI S6 3105 = nI tk1) (mtk1 : tk1 < 2 ^ 20) (b3 : tk1 = 2) (hst1 : sI S6 3104 = nI st1) (mst1 : st1 < 2 ^ 20) (c7 : Ans (d + 8) 120 [.ref 31, .int (nI st)] S6 none S7) (c8 : Ans (d + 8) 57 [.ref 44, .int (nI 0)] S7 none S8) (c9 : Ans (d + 8) 110 [.ref 43, .int (nI 19), .int (nI 41), .int (nI 46)] S8 none S9) (c10 : Ans (d + 8) 120 [.ref 31, .int (nI st1)] S9 none S10) : Bod (d + 8) 117 0 [(0, .ref 43)] [] S none (S10) := by
  refine Bod.go dc_117_0 rfl ?_
  refine Bod.get dc_117_1 fr_117_9 (mk_43 _) rfl ?_
  refine Bod.get dc_117_4 fr_117_166 (mk_31 _) rfl ?_
  refine Bod.eqI (nI st) (by first | assumption | rfl | exact congrArg nI (by omega) | (simp (disch := omega) only [rI, rIe, rA, rIA, rLA, rJA, rVI, rQI, rVA, rQA, upd_at,  rAI, rLI, rJI, nI_add, pk_sub, kc_0, kc_1, kc_2, kc_3, kc_4, kc_5, reduceIte, Nat.reduceEqDiff, Nat.add_zero, rI_hold, rI_hold, rL_hold, hst]; done)) ?_
  refine Bod.istn dc_117_7 (by rw [ml_117]; exact Nat.le_of_ble_eq_true rfl) ?_
  refine Bod.go dc_117_8 rfl ?_
  refine Bod.get dc_117_9 fr_117_15 (mk_43 _) rfl ?_
  refine Bod.get dc_117_12 fr_117_69 (mk_23 _) rfl ?_
  refine Bod.eqI (nI top) (by first | assumption | rfl | exact congrArg nI (by omega) | (simp (disch := omega) only [rI, rIe, rA, rIA, rLA, rJA, rVI, rQI, rVA, rQA, upd_at,  rAI, rLI, rJI, nI_add, pk_sub, kc_0, kc_1, kc_2, kc_3, kc_4, kc_5, reduceIte, Nat.reduceEqDiff, Nat.add_zero, rI_hold, rI_hold, rL_hold, hst, htop]; done)) ?_
  refine Bod.istn dc_117_15 (by rw [ml_117]; exact Nat.le_of_ble_eq_true rfl) ?_
  refine Bod.go dc_117_16 rfl ?_
  refine Bod.get dc_117_17 fr_117_15 (mk_43 _) rfl ?_
  refine Bod.get dc_117_20 fr_117_52 (mk_23 _) rfl ?_
  refine Bod.eqI (nI cs) (by first | assumption | rfl | exact congrArg nI (by omega) | (simp (disch := omega) only [rI, rIe, rA, rIA, rLA, rJA, rVI, rQI, rVA, rQA, upd_at,  rAI, rLI, rJI, nI_add, pk_sub, kc_0, kc_1, kc_2, kc_3, kc_4, kc_5, reduceIte, Nat.reduceEqDiff, Nat.add_zero, rI_hold, rI_hold, rL_hold, hst, htop, hcs]; done)) ?_
  refine Bod.istn dc_117_23 (by rw [ml_117]; exact Nat.le_of_ble_eq_true rfl) ?_
  refine Bod.go dc_117_24 rfl ?_
  refine Bod.get dc_117_25 fr_117_23 (mk_43 _) rfl ?_
  refine Bod.ic 0 (by decide) dc_117_28 ?_
  refine Bod.virt (r := []) dc_117_29 kr_117_169 ⟨Or.inr rfl, ow_57, cl_1⟩ (by rw [np_57]; rfl) (by rw [np_57]; rfl) (ob_of (mk_44 _)) (Nat.le_of_ble_eq_true rfl) (c1  ) ?_
  show Bod _ _ _ _ [] _ _ _
  refine Bod.go dc_117_32 rfl ?_
  refine Bod.get dc_117_33 fr_117_9 (mk_43 _) rfl ?_
  refine Bod.get dc_117_36 fr_117_79 (mk_31 _) rfl ?_
  refine Bod.eqI (nI tk) (by first | (simp (disch := omega) only [rI, rIe, rA, rIA, rLA, rJA, rVI, rQI, rVA, rQA, upd_at,  rAI, rLI, rJI, nI_add, pk_sub, kc_0, kc_1, kc_2, kc_3, kc_4, kc_5, reduceIte, Nat.reduceEqDiff, Nat.add_zero, rI_hold, rI_hold, rL_hold, hst, htop, hcs, htk]; done) | (simp (disch := omega) only [rI, rIe, rA, rIA, rLA, rJA, rVI, rQI, rVA, rQA, upd_at,  rAI, rLI, rJI, nI_add, pk_sub, kc_0, kc_1, kc_2, kc_3, kc_4, kc_5, reduceIte, Nat.reduceEqDiff, Nat.add_zero, rI_hold, rI_hold, rL_hold, hst, htop, hcs, htk]; exact congrArg nI (by omega))) ?_
  refine Bod.bip 19 (by decide) dc_117_39 ?_
  refine Bod.icF dc_117_41 rfl (k2_ne_F (k_eq tk 19 rfl rfl (by omega))) ?_
  refine Bod.go dc_117_44 rfl ?_
  refine Bod.get dc_117_45 fr_117_23 (mk_43 _) rfl ?_
  refine Bod.get dc_117_48 fr_117_173 (mk_44 _) rfl ?_
  refine Bod.eqI (nI tg) (by first | (simp (disch := omega) only [rI, rIe, rA, rIA, rLA, rJA, rVI, rQI, rVA, rQA, upd_at,  rAI, rLI, rJI, nI_add, pk_sub, kc_0, kc_1, kc_2, kc_3, kc_4, kc_5, reduceIte, Nat.reduceEqDiff, Nat.add_zero, rI_hold, rI_hold, rL_hold, hst, htop, hcs, htk, htg]; done) | (simp (disch := omega) only [rI, rIe, rA, rIA, rLA, rJA, rVI, rQI, rVA, rQA, upd_at,  rAI, rLI, rJI, nI_add, pk_sub, kc_0, kc_1, kc_2, kc_3, kc_4, kc_5, reduceIte, Nat.reduceEqDiff, Nat.add_zero, rI_hold, rI_hold, rL_hold, hst, htop, hcs, htk, htg]; exact congrArg nI (by omega))) ?_
  refine Bod.ifF dc_117_51 rfl (k1_ne_F (k_eq tg 0 rfl rfl (by omega))) ?_
  refine Bod.go dc_117_54 rfl ?_
  refine Bod.get dc_117_55 fr_117_9 (mk_43 _) rfl ?_
  refine Bod.virt (r := []) dc_117_58 kr_117_76 ⟨Or.inr rfl, ow_44, cl_3⟩ (by rw [np_44]; rfl) (by rw [np_44]; rfl) (ob_of (mk_31 _)) (Nat.le_of_ble_eq_true rfl) (c2  ) ?_
  show Bod _ _ _ _ [] _ _ _
  refine Bod.go dc_117_61 rfl ?_
  refine Bod.get dc_117_62 fr_117_15 (mk_43 _) rfl ?_
  refine Bod.go dc_117_65 rfl ?_
  refine Bod.go dc_117_66 rfl ?_
  refine Bod.go dc_117_67 rfl ?_
  refine Bod.get dc_117_68 fr_117_15 (mk_43 _) rfl ?_
  refine Bod.get dc_117_71 fr_117_58 (mk_23 _) rfl ?_
  refine Bod.eqI (nI fs) (by first | (simp (disch := omega) only [rI, rIe, rA, rIA, rLA, rJA, rVI, rQI, rVA, rQA, upd_at,  rAI, rLI, rJI, nI_add, pk_sub, kc_0, kc_1, kc_2, kc_3, kc_4, kc_5, reduceIte, Nat.reduceEqDiff, Nat.add_zero, rI_hold, rI_hold, rL_hold, hst, htop, hcs, htk, htg, hfs]; done) | (simp (disch := omega) only [rI, rIe, rA, rIA, rLA, rJA, rVI, rQI, rVA, rQA, upd_at,  rAI, rLI, rJI, nI_add, pk_sub, kc_0, kc_1, kc_2, kc_3, kc_4, kc_5, reduceIte, Nat.reduceEqDiff, Nat.add_zero, rI_hold, rI_hold, rL_hold, hst, htop, hcs, htk, htg, hfs]; exact congrArg nI (by omega))) ?_
  refine Bod.virt (r := []) dc_117_74 kr_117_85 ⟨Or.inr rfl, ow_118, cl_7⟩ (by rw [np_118]; rfl) (by rw [np_118]; rfl) (ob_of (mk_23 _)) (Nat.le_of_ble_eq_true rfl) (c3  ) ?_
  show Bod _ _ _ _ [] _ _ _
  refine Bod.go dc_117_77 rfl ?_
  refine Bod.get dc_117_78 fr_117_19 (mk_43 _) rfl ?_
  refine Bod.go dc_117_81 rfl ?_
  refine Bod.virt (r := []) dc_117_82 kr_117_176 ⟨Or.inr rfl, ow_119, cl_8⟩ (by rw [np_119]; rfl) (by rw [np_119]; rfl) (ob_of (mk_32 _)) (Nat.le_of_ble_eq_true rfl) (c4  ) ?_
  show Bod _ _ _ _ [] _ _ _
  refine Bod.go dc_117_85 rfl ?_
  refine Bod.get dc_117_86 fr_117_9 (mk_43 _) rfl ?_
  refine Bod.bip 19 (by decide) dc_117_89 ?_
  refine Bod.virt (r := []) dc_117_91 kr_117_107 ⟨Or.inr rfl, ow_75, cl_3⟩ (by rw [np_75]; rfl) (by rw [np_75]; rfl) (ob_of (mk_31 _)) (Nat.le_of_ble_eq_true rfl) (c5  ) ?_
  show Bod _ _ _ _ [] _ _ _
  refine Bod.go dc_117_94 rfl ?_
  refine Bod.get dc_117_95 fr_117_23 (mk_43 _) rfl ?_
  refine Bod.ic 0 (by decide) dc_117_98 ?_
  refine Bod.virt (r := []) dc_117_99 kr_117_169 ⟨Or.inr rfl, ow_57, cl_1⟩ (by rw [np_57]; rfl) (by rw [np_57]; rfl) (ob_of (mk_44 _)) (Nat.le_of_ble_eq_true rfl) (c6  ) ?_
  show Bod _ _ _ _ [] _ _ _
  refine Bod.go dc_117_102 rfl ?_
  refine Bod.get dc_117_103 fr_117_9 (mk_43 _) rfl ?_
  refine Bod.get dc_117_106 fr_117_79 (mk_31 _) rfl ?_
  refine Bod.eqI (nI tk1) (by first | (simp (disch := omega) only [rI, rIe, rA, rIA, rLA, rJA, rVI, rQI, rVA, rQA, upd_at,  rAI, rLI, rJI, nI_add, pk_sub, kc_0, kc_1, kc_2, kc_3, kc_4, kc_5, reduceIte, Nat.reduceEqDiff, Nat.add_zero, rI_hold, rI_hold, rL_hold, hst, htop, hcs, htk, htg, hfs, htk1]; done) | (simp (disch := omega) only [rI, rIe, rA, rIA, rLA, rJA, rVI, rQI, rVA, rQA, upd_at,  rAI, rLI, rJI, nI_add, pk_sub, kc_0, kc_1, kc_2, kc_3, kc_4, kc_5, reduceIte, Nat.reduceEqDiff, Nat.add_zero, rI_hold, rI_hold, rL_hold, hst, htop, hcs, htk, htg, hfs, htk1]; exact congrArg nI (by omega))) ?_
  refine Bod.ic 2 (by decide) dc_117_109 ?_
  refine Bod.icT dc_117_110 rfl (k2_eq_T (k_eq tk1 2 rfl rfl (by omega))) ?_
  refine Bod.go dc_117_120 rfl ?_
  refine Bod.get dc_117_121 fr_117_9 (mk_43 _) rfl ?_
  refine Bod.get dc_117_124 fr_117_166 (mk_31 _) rfl ?_
  refine Bod.eqI (nI st1) (by first | (simp (disch := omega) only [rI, rIe, rA, rIA, rLA, rJA, rVI, rQI, rVA, rQA, upd_at,  rAI, rLI, rJI, nI_add, pk_sub, kc_0, kc_1, kc_2, kc_3, kc_4, kc_5, reduceIte, Nat.reduceEqDiff, Nat.add_zero, rI_hold, rI_hold, rL_hold, hst, htop, hcs, htk, htg, hfs, htk1, hst1]; done) | (simp (disch := omega) only [rI, rIe, rA, rIA, rLA, rJA, rVI, rQI, rVA, rQA, upd_at,  rAI, rLI, rJI, nI_add, pk_sub, kc_0, kc_1, kc_2, kc_3, kc_4, kc_5, reduceIte, Nat.reduceEqDiff, Nat.add_zero, rI_hold, rI_hold, rL_hold, hst, htop, hcs, htk, htg, hfs, htk1, hst1]; exact congrArg nI (by omega))) ?_
  refine Bod.ist dc_117_127 (by rw [ml_117]; exact Nat.le_of_ble_eq_true rfl) ?_
  refine Bod.go dc_117_129 rfl ?_
  refine Bod.get dc_117_130 fr_117_9 (mk_43 _) rfl ?_
  refine Bod.go dc_117_133 rfl ?_
  refine Bod.virt (r := []) dc_117_134 kr_117_179 ⟨Or.inr rfl, ow_120, cl_3⟩ (by rw [np_120]; rfl) (by rw [np_120]; rfl) (ob_of (mk_31 _)) (Nat.le_of_ble_eq_true rfl) (c7  ) ?_
  show Bod _ _ _ _ [] _ _ _
  refine Bod.go dc_117_137 rfl ?_
  refine Bod.get dc_117_138 fr_117_23 (mk_43 _) rfl ?_
  refine Bod.ic 0 (by decide) dc_117_141 ?_
  refine Bod.virt (r := []) dc_117_142 kr_117_169 ⟨Or.inr rfl, ow_57, cl_1⟩ (by rw [np_57]; rfl) (by rw [np_57]; rfl) (ob_of (mk_44 _)) (Nat.le_of_ble_eq_true rfl) (c8  ) ?_
  show Bod _ _ _ _ [] _ _ _
  refine Bod.go dc_117_145 rfl ?_
  refine Bod.bip 19 (by decide) dc_117_146 ?_
  refine Bod.bip 41 (by decide) dc_117_148 ?_
  refine Bod.bip 46 (by decide) dc_117_150 ?_
  refine Bod.virt (r := []) dc_117_152 kr_117_182 ⟨Or.inl rfl, ow_110, cl_10⟩ (by rw [np_110]; rfl) (by rw [np_110]; rfl) (ob_of (mk_43 _)) (Nat.le_of_ble_eq_true rfl) (c9  ) ?_
  show Bod _ _ _ _ [] _ _ _
  refine Bod.go dc_117_155 rfl ?_
  refine Bod.get dc_117_156 fr_117_9 (mk_43 _) rfl ?_
  refine Bod.go dc_117_159 rfl ?_
  refine Bod.virt (r := []) dc_117_161 kr_117_179 ⟨Or.inr rfl, ow_120, cl_3⟩ (by rw [np_120]; rfl) (by rw [np_120]; rfl) (ob_of (mk_31 _)) (Nat.le_of_ble_eq_true rfl) (c10  ) ?_
  show Bod _ _ _ _ [] _ _ _
  refine Bod.go dc_117_164 rfl ?_
  exact Bod.retV dc_117_301 rt_117
theorem cBin_8 {d : Nat} {S : cS} {st : Nat} {top : Nat} {cs : Nat} {S1 : cS} {tk : Nat} {tg : Nat} {S2 : cS} {fs : Nat} {S3 : cS} {S4 : cS} {S5 : cS} {S6 : cS} {tk1 : Nat} {S7 : cS} {st1 : Nat} {S8 : cS} {S9 : cS} {S10 : cS} {S11 : cS} (hst : sI S 3104 = nI st) (mst : st < 2 ^ 20) (htop : sI S 2307 = nI top) (mtop : top < 2 ^ 20) (hcs : sI S 2308 = nI cs) (mcs : cs < 2 ^ 20) (c1 : Ans (d + 8) 57 [.ref 44, .int (nI 0)] S none S1) (htk : sI S1 3105 = nI tk) (mtk : tk < 2 ^ 20) (b1 : tk = 19) (htg : sI S1 4403 = nI tg) (mtg : tg < 2 ^ 20) (b2 : tg = 0) (c2 : Ans (d + 8) 44 [.ref 31] S1 none S2) (hfs : sI S2 2309 = nI fs) (mfs : fs < 2 ^ 20) (c3 : Ans (d + 8) 118 [.ref 23, .int (nI top), .int (nI cs), .int (nI fs)] S2 none S3) (c4 : Ans (d + 8) 119 [.ref 32, .int (nI top)] S3 none S4) (c5 : Ans (d + 8) 75 [.ref 31, .int (nI 19)] S4 none S5) (c6 : Ans (d + 8) 57 [.ref 44, .int (nI 0)] S5 none S6) (htk1 : sI S6 3105 = nI tk1) (mtk1 : tk1 < 2 ^ 20) (b3 : tk1 ≠ 2) (c7 : Ans (d + 8) 44 [.ref 31] S6 none S7) (hst1 : sI S7 3104 = nI st1) (mst1 : st1 < 2 ^ 20) (c8 : Ans (d + 8) 120 [.ref 31, .int (nI st)] S7 none S8) (c9 : Ans (d + 8) 57 [.ref 44, .int (nI 0)] S8 none S9) (c10 : Ans (d + 8) 110 [.ref 43, .int (nI 19), .int (nI 41), .int (nI 46)] S9 none S10) (c11 : Ans (d + 8) 120 [.ref 31, .int (nI st1)] S10 none S11) : Bod (d + 8) 117 0 [(0, .ref 43)] [] S none (S11) := by
  refine Bod.go dc_117_0 rfl ?_
  refine Bod.get dc_117_1 fr_117_9 (mk_43 _) rfl ?_
  refine Bod.get dc_117_4 fr_117_166 (mk_31 _) rfl ?_
  refine Bod.eqI (nI st) (by first | assumption | rfl | exact congrArg nI (by omega) | (simp (disch := omega) only [rI, rIe, rA, rIA, rLA, rJA, rVI, rQI, rVA, rQA, upd_at,  rAI, rLI, rJI, nI_add, pk_sub, kc_0, kc_1, kc_2, kc_3, kc_4, kc_5, reduceIte, Nat.reduceEqDiff, Nat.add_zero, rI_hold, rI_hold, rL_hold, hst]; done)) ?_
  refine Bod.istn dc_117_7 (by rw [ml_117]; exact Nat.le_of_ble_eq_true rfl) ?_
  refine Bod.go dc_117_8 rfl ?_
  refine Bod.get dc_117_9 fr_117_15 (mk_43 _) rfl ?_
  refine Bod.get dc_117_12 fr_117_69 (mk_23 _) rfl ?_
  refine Bod.eqI (nI top) (by first | assumption | rfl | exact congrArg nI (by omega) | (simp (disch := omega) only [rI, rIe, rA, rIA, rLA, rJA, rVI, rQI, rVA, rQA, upd_at,  rAI, rLI, rJI, nI_add, pk_sub, kc_0, kc_1, kc_2, kc_3, kc_4, kc_5, reduceIte, Nat.reduceEqDiff, Nat.add_zero, rI_hold, rI_hold, rL_hold, hst, htop]; done)) ?_
  refine Bod.istn dc_117_15 (by rw [ml_117]; exact Nat.le_of_ble_eq_true rfl) ?_
  refine Bod.go dc_117_16 rfl ?_
  refine Bod.get dc_117_17 fr_117_15 (mk_43 _) rfl ?_
  refine Bod.get dc_117_20 fr_117_52 (mk_23 _) rfl ?_
  refine Bod.eqI (nI cs) (by first | assumption | rfl | exact congrArg nI (by omega) | (simp (disch := omega) only [rI, rIe, rA, rIA, rLA, rJA, rVI, rQI, rVA, rQA, upd_at,  rAI, rLI, rJI, nI_add, pk_sub, kc_0, kc_1, kc_2, kc_3, kc_4, kc_5, reduceIte, Nat.reduceEqDiff, Nat.add_zero, rI_hold, rI_hold, rL_hold, hst, htop, hcs]; done)) ?_
  refine Bod.istn dc_117_23 (by rw [ml_117]; exact Nat.le_of_ble_eq_true rfl) ?_
  refine Bod.go dc_117_24 rfl ?_
  refine Bod.get dc_117_25 fr_117_23 (mk_43 _) rfl ?_
  refine Bod.ic 0 (by decide) dc_117_28 ?_
  refine Bod.virt (r := []) dc_117_29 kr_117_169 ⟨Or.inr rfl, ow_57, cl_1⟩ (by rw [np_57]; rfl) (by rw [np_57]; rfl) (ob_of (mk_44 _)) (Nat.le_of_ble_eq_true rfl) (c1  ) ?_
  show Bod _ _ _ _ [] _ _ _
  refine Bod.go dc_117_32 rfl ?_
  refine Bod.get dc_117_33 fr_117_9 (mk_43 _) rfl ?_
  refine Bod.get dc_117_36 fr_117_79 (mk_31 _) rfl ?_
  refine Bod.eqI (nI tk) (by first | (simp (disch := omega) only [rI, rIe, rA, rIA, rLA, rJA, rVI, rQI, rVA, rQA, upd_at,  rAI, rLI, rJI, nI_add, pk_sub, kc_0, kc_1, kc_2, kc_3, kc_4, kc_5, reduceIte, Nat.reduceEqDiff, Nat.add_zero, rI_hold, rI_hold, rL_hold, hst, htop, hcs, htk]; done) | (simp (disch := omega) only [rI, rIe, rA, rIA, rLA, rJA, rVI, rQI, rVA, rQA, upd_at,  rAI, rLI, rJI, nI_add, pk_sub, kc_0, kc_1, kc_2, kc_3, kc_4, kc_5, reduceIte, Nat.reduceEqDiff, Nat.add_zero, rI_hold, rI_hold, rL_hold, hst, htop, hcs, htk]; exact congrArg nI (by omega))) ?_
  refine Bod.bip 19 (by decide) dc_117_39 ?_
  refine Bod.icF dc_117_41 rfl (k2_ne_F (k_eq tk 19 rfl rfl (by omega))) ?_
  refine Bod.go dc_117_44 rfl ?_
  refine Bod.get dc_117_45 fr_117_23 (mk_43 _) rfl ?_
  refine Bod.get dc_117_48 fr_117_173 (mk_44 _) rfl ?_
  refine Bod.eqI (nI tg) (by first | (simp (disch := omega) only [rI, rIe, rA, rIA, rLA, rJA, rVI, rQI, rVA, rQA, upd_at,  rAI, rLI, rJI, nI_add, pk_sub, kc_0, kc_1, kc_2, kc_3, kc_4, kc_5, reduceIte, Nat.reduceEqDiff, Nat.add_zero, rI_hold, rI_hold, rL_hold, hst, htop, hcs, htk, htg]; done) | (simp (disch := omega) only [rI, rIe, rA, rIA, rLA, rJA, rVI, rQI, rVA, rQA, upd_at,  rAI, rLI, rJI, nI_add, pk_sub, kc_0, kc_1, kc_2, kc_3, kc_4, kc_5, reduceIte, Nat.reduceEqDiff, Nat.add_zero, rI_hold, rI_hold, rL_hold, hst, htop, hcs, htk, htg]; exact congrArg nI (by omega))) ?_
  refine Bod.ifF dc_117_51 rfl (k1_ne_F (k_eq tg 0 rfl rfl (by omega))) ?_
  refine Bod.go dc_117_54 rfl ?_
  refine Bod.get dc_117_55 fr_117_9 (mk_43 _) rfl ?_
  refine Bod.virt (r := []) dc_117_58 kr_117_76 ⟨Or.inr rfl, ow_44, cl_3⟩ (by rw [np_44]; rfl) (by rw [np_44]; rfl) (ob_of (mk_31 _)) (Nat.le_of_ble_eq_true rfl) (c2  ) ?_
  show Bod _ _ _ _ [] _ _ _
  refine Bod.go dc_117_61 rfl ?_
  refine Bod.get dc_117_62 fr_117_15 (mk_43 _) rfl ?_
  refine Bod.go dc_117_65 rfl ?_
  refine Bod.go dc_117_66 rfl ?_
  refine Bod.go dc_117_67 rfl ?_
  refine Bod.get dc_117_68 fr_117_15 (mk_43 _) rfl ?_
  refine Bod.get dc_117_71 fr_117_58 (mk_23 _) rfl ?_
  refine Bod.eqI (nI fs) (by first | (simp (disch := omega) only [rI, rIe, rA, rIA, rLA, rJA, rVI, rQI, rVA, rQA, upd_at,  rAI, rLI, rJI, nI_add, pk_sub, kc_0, kc_1, kc_2, kc_3, kc_4, kc_5, reduceIte, Nat.reduceEqDiff, Nat.add_zero, rI_hold, rI_hold, rL_hold, hst, htop, hcs, htk, htg, hfs]; done) | (simp (disch := omega) only [rI, rIe, rA, rIA, rLA, rJA, rVI, rQI, rVA, rQA, upd_at,  rAI, rLI, rJI, nI_add, pk_sub, kc_0, kc_1, kc_2, kc_3, kc_4, kc_5, reduceIte, Nat.reduceEqDiff, Nat.add_zero, rI_hold, rI_hold, rL_hold, hst, htop, hcs, htk, htg, hfs]; exact congrArg nI (by omega))) ?_
  refine Bod.virt (r := []) dc_117_74 kr_117_85 ⟨Or.inr rfl, ow_118, cl_7⟩ (by rw [np_118]; rfl) (by rw [np_118]; rfl) (ob_of (mk_23 _)) (Nat.le_of_ble_eq_true rfl) (c3  ) ?_
  show Bod _ _ _ _ [] _ _ _
  refine Bod.go dc_117_77 rfl ?_
  refine Bod.get dc_117_78 fr_117_19 (mk_43 _) rfl ?_
  refine Bod.go dc_117_81 rfl ?_
  refine Bod.virt (r := []) dc_117_82 kr_117_176 ⟨Or.inr rfl, ow_119, cl_8⟩ (by rw [np_119]; rfl) (by rw [np_119]; rfl) (ob_of (mk_32 _)) (Nat.le_of_ble_eq_true rfl) (c4  ) ?_
  show Bod _ _ _ _ [] _ _ _
  refine Bod.go dc_117_85 rfl ?_
  refine Bod.get dc_117_86 fr_117_9 (mk_43 _) rfl ?_
  refine Bod.bip 19 (by decide) dc_117_89 ?_
  refine Bod.virt (r := []) dc_117_91 kr_117_107 ⟨Or.inr rfl, ow_75, cl_3⟩ (by rw [np_75]; rfl) (by rw [np_75]; rfl) (ob_of (mk_31 _)) (Nat.le_of_ble_eq_true rfl) (c5  ) ?_
  show Bod _ _ _ _ [] _ _ _
  refine Bod.go dc_117_94 rfl ?_
  refine Bod.get dc_117_95 fr_117_23 (mk_43 _) rfl ?_
  refine Bod.ic 0 (by decide) dc_117_98 ?_
  refine Bod.virt (r := []) dc_117_99 kr_117_169 ⟨Or.inr rfl, ow_57, cl_1⟩ (by rw [np_57]; rfl) (by rw [np_57]; rfl) (ob_of (mk_44 _)) (Nat.le_of_ble_eq_true rfl) (c6  ) ?_
  show Bod _ _ _ _ [] _ _ _
  refine Bod.go dc_117_102 rfl ?_
  refine Bod.get dc_117_103 fr_117_9 (mk_43 _) rfl ?_
  refine Bod.get dc_117_106 fr_117_79 (mk_31 _) rfl ?_
  refine Bod.eqI (nI tk1) (by first | (simp (disch := omega) only [rI, rIe, rA, rIA, rLA, rJA, rVI, rQI, rVA, rQA, upd_at,  rAI, rLI, rJI, nI_add, pk_sub, kc_0, kc_1, kc_2, kc_3, kc_4, kc_5, reduceIte, Nat.reduceEqDiff, Nat.add_zero, rI_hold, rI_hold, rL_hold, hst, htop, hcs, htk, htg, hfs, htk1]; done) | (simp (disch := omega) only [rI, rIe, rA, rIA, rLA, rJA, rVI, rQI, rVA, rQA, upd_at,  rAI, rLI, rJI, nI_add, pk_sub, kc_0, kc_1, kc_2, kc_3, kc_4, kc_5, reduceIte, Nat.reduceEqDiff, Nat.add_zero, rI_hold, rI_hold, rL_hold, hst, htop, hcs, htk, htg, hfs, htk1]; exact congrArg nI (by omega))) ?_
  refine Bod.ic 2 (by decide) dc_117_109 ?_
  refine Bod.icF dc_117_110 rfl (k2_eq_F (k_ne tk1 2 rfl rfl (by omega) (by omega) (by omega))) ?_
  refine Bod.go dc_117_113 rfl ?_
  refine Bod.get dc_117_114 fr_117_9 (mk_43 _) rfl ?_
  refine Bod.virt (r := []) dc_117_117 kr_117_76 ⟨Or.inr rfl, ow_44, cl_3⟩ (by rw [np_44]; rfl) (by rw [np_44]; rfl) (ob_of (mk_31 _)) (Nat.le_of_ble_eq_true rfl) (c7  ) ?_
  show Bod _ _ _ _ [] _ _ _
  refine Bod.go dc_117_120 rfl ?_
  refine Bod.get dc_117_121 fr_117_9 (mk_43 _) rfl ?_
  refine Bod.get dc_117_124 fr_117_166 (mk_31 _) rfl ?_
  refine Bod.eqI (nI st1) (by first | (simp (disch := omega) only [rI, rIe, rA, rIA, rLA, rJA, rVI, rQI, rVA, rQA, upd_at,  rAI, rLI, rJI, nI_add, pk_sub, kc_0, kc_1, kc_2, kc_3, kc_4, kc_5, reduceIte, Nat.reduceEqDiff, Nat.add_zero, rI_hold, rI_hold, rL_hold, hst, htop, hcs, htk, htg, hfs, htk1, hst1]; done) | (simp (disch := omega) only [rI, rIe, rA, rIA, rLA, rJA, rVI, rQI, rVA, rQA, upd_at,  rAI, rLI, rJI, nI_add, pk_sub, kc_0, kc_1, kc_2, kc_3, kc_4, kc_5, reduceIte, Nat.reduceEqDiff, Nat.add_zero, rI_hold, rI_hold, rL_hold, hst, htop, hcs, htk, htg, hfs, htk1, hst1]; exact congrArg nI (by omega))) ?_
  refine Bod.ist dc_117_127 (by rw [ml_117]; exact Nat.le_of_ble_eq_true rfl) ?_
  refine Bod.go dc_117_129 rfl ?_
  refine Bod.get dc_117_130 fr_117_9 (mk_43 _) rfl ?_
  refine Bod.go dc_117_133 rfl ?_
  refine Bod.virt (r := []) dc_117_134 kr_117_179 ⟨Or.inr rfl, ow_120, cl_3⟩ (by rw [np_120]; rfl) (by rw [np_120]; rfl) (ob_of (mk_31 _)) (Nat.le_of_ble_eq_true rfl) (c8  ) ?_
  show Bod _ _ _ _ [] _ _ _
  refine Bod.go dc_117_137 rfl ?_
  refine Bod.get dc_117_138 fr_117_23 (mk_43 _) rfl ?_
  refine Bod.ic 0 (by decide) dc_117_141 ?_
  refine Bod.virt (r := []) dc_117_142 kr_117_169 ⟨Or.inr rfl, ow_57, cl_1⟩ (by rw [np_57]; rfl) (by rw [np_57]; rfl) (ob_of (mk_44 _)) (Nat.le_of_ble_eq_true rfl) (c9  ) ?_
  show Bod _ _ _ _ [] _ _ _
  refine Bod.go dc_117_145 rfl ?_
  refine Bod.bip 19 (by decide) dc_117_146 ?_
  refine Bod.bip 41 (by decide) dc_117_148 ?_
  refine Bod.bip 46 (by decide) dc_117_150 ?_
  refine Bod.virt (r := []) dc_117_152 kr_117_182 ⟨Or.inl rfl, ow_110, cl_10⟩ (by rw [np_110]; rfl) (by rw [np_110]; rfl) (ob_of (mk_43 _)) (Nat.le_of_ble_eq_true rfl) (c10  ) ?_
  show Bod _ _ _ _ [] _ _ _
  refine Bod.go dc_117_155 rfl ?_
  refine Bod.get dc_117_156 fr_117_9 (mk_43 _) rfl ?_
  refine Bod.go dc_117_159 rfl ?_
  refine Bod.virt (r := []) dc_117_161 kr_117_179 ⟨Or.inr rfl, ow_120, cl_3⟩ (by rw [np_120]; rfl) (by rw [np_120]; rfl) (ob_of (mk_31 _)) (Nat.le_of_ble_eq_true rfl) (c11  ) ?_
  show Bod _ _ _ _ [] _ _ _
  refine Bod.go dc_117_164 rfl ?_
  exact Bod.retV dc_117_301 rt_117
theorem cBr0_1 {d : Nat} {S Sf : cS} {v : Option Value} {dp : Nat} {ind : Nat} (mdp : dp < 2 ^ 20) (hind : sI S 3108 = nI ind) (mind : ind < 2 ^ 20) (hB : ∀ lv1 : sm_L, sm_get lv1 0 = some (.ref 43) → sm_get lv1 1 = some (.int (nI dp)) → sm_get lv1 2 = some (.int (nI ind)) → sm_get lv1 3 = some (.int (Int32.ofInt (-1))) → sm_get lv1 4 = some (.int (nI 1)) → sm_get lv1 5 = some (.int (nI 0)) → Bod (d + 8) 56 16 lv1 [] (S) v Sf) : Bod (d + 8) 56 0 [(0, .ref 43), (1, .int (nI dp))] [] S v Sf := by
  refine Bod.go dc_56_0 rfl ?_
  refine Bod.get dc_56_1 fr_56_9 (mk_43 _) rfl ?_
  refine Bod.get dc_56_4 fr_56_96 (mk_31 _) rfl ?_
  refine Bod.eqI (nI ind) (by first | assumption | rfl | exact congrArg nI (by omega) | (simp (disch := omega) only [rI, rIe, rA, rIA, rLA, rJA, rVI, rQI, rVA, rQA, upd_at,  rAI, rLI, rJI, nI_add, pk_sub, kc_0, kc_1, kc_2, kc_3, kc_4, kc_5, reduceIte, Nat.reduceEqDiff, Nat.add_zero, rI_hold, rI_hold, rL_hold, hind]; done)) ?_
  refine Bod.istn dc_56_7 (by rw [ml_56]; exact Nat.le_of_ble_eq_true rfl) ?_
  refine Bod.go dc_56_8 rfl ?_
  refine Bod.istn dc_56_9 (by rw [ml_56]; exact Nat.le_of_ble_eq_true rfl) ?_
  refine Bod.ic 1 (by decide) dc_56_10 ?_
  refine Bod.ist dc_56_11 (by rw [ml_56]; exact Nat.le_of_ble_eq_true rfl) ?_
  refine Bod.ic 0 (by decide) dc_56_13 ?_
  refine Bod.ist dc_56_14 (by rw [ml_56]; exact Nat.le_of_ble_eq_true rfl) ?_
  exact hB _ (by first | rfl | exact (by repeat (first | exact rfl | exact sm_get_p1 | exact sm_get_p2e | refine sm_get_p1m (by decide) (by decide) ?_ | refine sm_get_p1n (by decide) rfl ?_ | refine sm_get_p2n (by decide) (by decide) rfl ?_))) (by first | rfl | exact (by repeat (first | exact rfl | exact sm_get_p1 | exact sm_get_p2e | refine sm_get_p1m (by decide) (by decide) ?_ | refine sm_get_p1n (by decide) rfl ?_ | refine sm_get_p2n (by decide) (by decide) rfl ?_))) (by first | rfl | exact (by repeat (first | exact rfl | exact sm_get_p1 | exact sm_get_p2e | refine sm_get_p1m (by decide) (by decide) ?_ | refine sm_get_p1n (by decide) rfl ?_ | refine sm_get_p2n (by decide) (by decide) rfl ?_))) (by first | rfl | exact (by repeat (first | exact rfl | exact sm_get_p1 | exact sm_get_p2e | refine sm_get_p1m (by decide) (by decide) ?_ | refine sm_get_p1n (by decide) rfl ?_ | refine sm_get_p2n (by decide) (by decide) rfl ?_))) (by first | rfl | exact (by repeat (first | exact rfl | exact sm_get_p1 | exact sm_get_p2e | refine sm_get_p1m (by decide) (by decide) ?_ | refine sm_get_p1n (by decide) rfl ?_ | refine sm_get_p2n (by decide) (by decide) rfl ?_))) (by first | rfl | exact (by repeat (first | exact rfl | exact sm_get_p1 | exact sm_get_p2e | refine sm_get_p1m (by decide) (by decide) ?_ | refine sm_get_p1n (by decide) rfl ?_ | refine sm_get_p2n (by decide) (by decide) rfl ?_)))
theorem cBrL_1 {d : Nat} {S : cS} {lv : sm_L} {t : Nat} {m : Nat} {ex : Int32} {i : Nat} {dp : Nat} {S1 : cS} {tk : Nat} {S2 : cS} (q5 : sm_get lv 5 = some (.int (nI t))) (q4 : sm_get lv 4 = some (.int (nI m))) (q3 : sm_get lv 3 = some (.int ex)) (q2 : sm_get lv 2 = some (.int (nI i))) (q0 : sm_get lv 0 = some (.ref 43)) (q1 : sm_get lv 1 = some (.int (nI dp))) (mt : t < 2 ^ 20) (mm : m < 2 ^ 20) (mi : i < 2 ^ 20) (mdp : dp < 2 ^ 20) (b1 : m = 0) (c1 : Ans (d + 8) 52 [.ref 43, .int (nI i)] S (some (.int (nI 1))) S1) (htk : sI S1 3105 = nI tk) (mtk : tk < 2 ^ 20) (b2 : tk ≠ 42) (c2 : Ans (d + 8) 87 [.ref 43, .int ex] S1 none S2) : Bod (d + 8) 56 16 lv [] S none (S2) := by
  refine Bod.ildG dc_56_16 (by repeat (first | exact q4 | exact sm_get_p1 | exact sm_get_p2e | refine sm_get_p1m (by decide) (by decide) ?_ | refine sm_get_p1n (by decide) rfl ?_ | refine sm_get_p2n (by decide) (by decide) rfl ?_)) ?_
  refine Bod.ifT dc_56_18 rfl (k1_eq_T (k_eq m 0 rfl rfl (by omega))) ?_
  refine Bod.aldnG dc_56_124 (by repeat (first | exact q0 | exact sm_get_p1 | exact sm_get_p2e | refine sm_get_p1m (by decide) (by decide) ?_ | refine sm_get_p1n (by decide) rfl ?_ | refine sm_get_p2n (by decide) (by decide) rfl ?_)) ?_
  refine Bod.ildnG dc_56_125 (by repeat (first | exact q2 | exact sm_get_p1 | exact sm_get_p2e | refine sm_get_p1m (by decide) (by decide) ?_ | refine sm_get_p1n (by decide) rfl ?_ | refine sm_get_p2n (by decide) (by decide) rfl ?_)) ?_
  refine Bod.virt (r := []) dc_56_126 kr_56_89 ⟨Or.inl rfl, ow_52, cl_10⟩ (by rw [np_52]; rfl) (by rw [np_52]; rfl) (ob_of (mk_43 _)) (Nat.le_of_ble_eq_true rfl) (c1  ) ?_
  show Bod _ _ _ _ [_] _ _ _
  refine Bod.ifF dc_56_129 rfl (k1_eq_F (k_ne 1 0 rfl rfl (by omega) (by omega) (by omega))) ?_
  refine Bod.aldnG dc_56_132 (by repeat (first | exact q0 | exact sm_get_p1 | exact sm_get_p2e | refine sm_get_p1m (by decide) (by decide) ?_ | refine sm_get_p1n (by decide) rfl ?_ | refine sm_get_p2n (by decide) (by decide) rfl ?_)) ?_
  refine Bod.get dc_56_133 fr_56_9 (mk_43 _) rfl ?_
  refine Bod.get dc_56_136 fr_56_79 (mk_31 _) rfl ?_
  refine Bod.eqI (nI tk) (by first | (simp (disch := omega) only [rI, rIe, rA, rIA, rLA, rJA, rVI, rQI, rVA, rQA, upd_at,  rAI, rLI, rJI, nI_add, pk_sub, kc_0, kc_1, kc_2, kc_3, kc_4, kc_5, reduceIte, Nat.reduceEqDiff, Nat.add_zero, rI_hold, rI_hold, rL_hold, htk]; done) | (simp (disch := omega) only [rI, rIe, rA, rIA, rLA, rJA, rVI, rQI, rVA, rQA, upd_at,  rAI, rLI, rJI, nI_add, pk_sub, kc_0, kc_1, kc_2, kc_3, kc_4, kc_5, reduceIte, Nat.reduceEqDiff, Nat.add_zero, rI_hold, rI_hold, rL_hold, htk]; exact congrArg nI (by omega))) ?_
  refine Bod.bip 42 (by decide) dc_56_139 ?_
  refine Bod.icT dc_56_141 rfl (k2_ne_T (k_ne tk 42 rfl rfl (by omega) (by omega) (by omega))) ?_
  refine Bod.aldnG dc_56_161 (by repeat (first | exact q0 | exact sm_get_p1 | exact sm_get_p2e | refine sm_get_p1m (by decide) (by decide) ?_ | refine sm_get_p1n (by decide) rfl ?_ | refine sm_get_p2n (by decide) (by decide) rfl ?_)) ?_
  refine Bod.ildnG dc_56_162 (by repeat (first | exact q3 | exact sm_get_p1 | exact sm_get_p2e | refine sm_get_p1m (by decide) (by decide) ?_ | refine sm_get_p1n (by decide) rfl ?_ | refine sm_get_p2n (by decide) (by decide) rfl ?_)) ?_
  refine Bod.virt (r := []) dc_56_163 kr_56_229 ⟨Or.inl rfl, ow_87, cl_10⟩ (by rw [np_87]; rfl) (by rw [np_87]; rfl) (ob_of (mk_43 _)) (Nat.le_of_ble_eq_true rfl) (c2  ) ?_
  show Bod _ _ _ _ [] _ _ _
  exact Bod.retV dc_56_166 rt_56
theorem cBrL_2 {d : Nat} {S : cS} {lv : sm_L} {t : Nat} {m : Nat} {ex : Int32} {i : Nat} {dp : Nat} {S1 : cS} {tk : Nat} {S2 : cS} {S3 : cS} {S4 : cS} (q5 : sm_get lv 5 = some (.int (nI t))) (q4 : sm_get lv 4 = some (.int (nI m))) (q3 : sm_get lv 3 = some (.int ex)) (q2 : sm_get lv 2 = some (.int (nI i))) (q0 : sm_get lv 0 = some (.ref 43)) (q1 : sm_get lv 1 = some (.int (nI dp))) (mt : t < 2 ^ 20) (mm : m < 2 ^ 20) (mi : i < 2 ^ 20) (mdp : dp < 2 ^ 20) (b1 : m = 0) (c1 : Ans (d + 8) 52 [.ref 43, .int (nI i)] S (some (.int (nI 1))) S1) (htk : sI S1 3105 = nI tk) (mtk : tk < 2 ^ 20) (b2 : tk = 42) (c2 : Ans (d + 8) 75 [.ref 31, .int (nI 42)] S1 none S2) (c3 : Ans (d + 8) 84 [.ref 43, .int (nI i), .int (nI (dp + 1))] S2 none S3) (c4 : Ans (d + 8) 87 [.ref 43, .int ex] S3 none S4) : Bod (d + 8) 56 16 lv [] S none (S4) := by
  refine Bod.ildG dc_56_16 (by repeat (first | exact q4 | exact sm_get_p1 | exact sm_get_p2e | refine sm_get_p1m (by decide) (by decide) ?_ | refine sm_get_p1n (by decide) rfl ?_ | refine sm_get_p2n (by decide) (by decide) rfl ?_)) ?_
  refine Bod.ifT dc_56_18 rfl (k1_eq_T (k_eq m 0 rfl rfl (by omega))) ?_
  refine Bod.aldnG dc_56_124 (by repeat (first | exact q0 | exact sm_get_p1 | exact sm_get_p2e | refine sm_get_p1m (by decide) (by decide) ?_ | refine sm_get_p1n (by decide) rfl ?_ | refine sm_get_p2n (by decide) (by decide) rfl ?_)) ?_
  refine Bod.ildnG dc_56_125 (by repeat (first | exact q2 | exact sm_get_p1 | exact sm_get_p2e | refine sm_get_p1m (by decide) (by decide) ?_ | refine sm_get_p1n (by decide) rfl ?_ | refine sm_get_p2n (by decide) (by decide) rfl ?_)) ?_
  refine Bod.virt (r := []) dc_56_126 kr_56_89 ⟨Or.inl rfl, ow_52, cl_10⟩ (by rw [np_52]; rfl) (by rw [np_52]; rfl) (ob_of (mk_43 _)) (Nat.le_of_ble_eq_true rfl) (c1  ) ?_
  show Bod _ _ _ _ [_] _ _ _
  refine Bod.ifF dc_56_129 rfl (k1_eq_F (k_ne 1 0 rfl rfl (by omega) (by omega) (by omega))) ?_
  refine Bod.aldnG dc_56_132 (by repeat (first | exact q0 | exact sm_get_p1 | exact sm_get_p2e | refine sm_get_p1m (by decide) (by decide) ?_ | refine sm_get_p1n (by decide) rfl ?_ | refine sm_get_p2n (by decide) (by decide) rfl ?_)) ?_
  refine Bod.get dc_56_133 fr_56_9 (mk_43 _) rfl ?_
  refine Bod.get dc_56_136 fr_56_79 (mk_31 _) rfl ?_
  refine Bod.eqI (nI tk) (by first | (simp (disch := omega) only [rI, rIe, rA, rIA, rLA, rJA, rVI, rQI, rVA, rQA, upd_at,  rAI, rLI, rJI, nI_add, pk_sub, kc_0, kc_1, kc_2, kc_3, kc_4, kc_5, reduceIte, Nat.reduceEqDiff, Nat.add_zero, rI_hold, rI_hold, rL_hold, htk]; done) | (simp (disch := omega) only [rI, rIe, rA, rIA, rLA, rJA, rVI, rQI, rVA, rQA, upd_at,  rAI, rLI, rJI, nI_add, pk_sub, kc_0, kc_1, kc_2, kc_3, kc_4, kc_5, reduceIte, Nat.reduceEqDiff, Nat.add_zero, rI_hold, rI_hold, rL_hold, htk]; exact congrArg nI (by omega))) ?_
  refine Bod.bip 42 (by decide) dc_56_139 ?_
  refine Bod.icF dc_56_141 rfl (k2_ne_F (k_eq tk 42 rfl rfl (by omega))) ?_
  refine Bod.aldnG dc_56_144 (by repeat (first | exact q0 | exact sm_get_p1 | exact sm_get_p2e | refine sm_get_p1m (by decide) (by decide) ?_ | refine sm_get_p1n (by decide) rfl ?_ | refine sm_get_p2n (by decide) (by decide) rfl ?_)) ?_
  refine Bod.get dc_56_145 fr_56_9 (mk_43 _) rfl ?_
  refine Bod.bip 42 (by decide) dc_56_148 ?_
  refine Bod.virt (r := []) dc_56_150 kr_56_107 ⟨Or.inr rfl, ow_75, cl_3⟩ (by rw [np_75]; rfl) (by rw [np_75]; rfl) (ob_of (mk_31 _)) (Nat.le_of_ble_eq_true rfl) (c2  ) ?_
  show Bod _ _ _ _ [] _ _ _
  refine Bod.aldnG dc_56_153 (by repeat (first | exact q0 | exact sm_get_p1 | exact sm_get_p2e | refine sm_get_p1m (by decide) (by decide) ?_ | refine sm_get_p1n (by decide) rfl ?_ | refine sm_get_p2n (by decide) (by decide) rfl ?_)) ?_
  refine Bod.ildnG dc_56_154 (by repeat (first | exact q2 | exact sm_get_p1 | exact sm_get_p2e | refine sm_get_p1m (by decide) (by decide) ?_ | refine sm_get_p1n (by decide) rfl ?_ | refine sm_get_p2n (by decide) (by decide) rfl ?_)) ?_
  refine Bod.ildnG dc_56_155 (by repeat (first | exact q1 | exact sm_get_p1 | exact sm_get_p2e | refine sm_get_p1m (by decide) (by decide) ?_ | refine sm_get_p1n (by decide) rfl ?_ | refine sm_get_p2n (by decide) (by decide) rfl ?_)) ?_
  refine Bod.ic 1 (by decide) dc_56_156 ?_
  refine Bod.addN (dp + 1) (by omega) dc_56_157 ?_
  refine Bod.virt (r := []) dc_56_158 kr_56_226 ⟨Or.inl rfl, ow_84, cl_10⟩ (by rw [np_84]; rfl) (by rw [np_84]; rfl) (ob_of (mk_43 _)) (Nat.le_of_ble_eq_true rfl) (c3  ) ?_
  show Bod _ _ _ _ [] _ _ _
  refine Bod.aldnG dc_56_161 (by repeat (first | exact q0 | exact sm_get_p1 | exact sm_get_p2e | refine sm_get_p1m (by decide) (by decide) ?_ | refine sm_get_p1n (by decide) rfl ?_ | refine sm_get_p2n (by decide) (by decide) rfl ?_)) ?_
  refine Bod.ildnG dc_56_162 (by repeat (first | exact q3 | exact sm_get_p1 | exact sm_get_p2e | refine sm_get_p1m (by decide) (by decide) ?_ | refine sm_get_p1n (by decide) rfl ?_ | refine sm_get_p2n (by decide) (by decide) rfl ?_)) ?_
  refine Bod.virt (r := []) dc_56_163 kr_56_229 ⟨Or.inl rfl, ow_87, cl_10⟩ (by rw [np_87]; rfl) (by rw [np_87]; rfl) (ob_of (mk_43 _)) (Nat.le_of_ble_eq_true rfl) (c4  ) ?_
  show Bod _ _ _ _ [] _ _ _
  exact Bod.retV dc_56_166 rt_56
theorem cBrL_3 {d : Nat} {S : cS} {lv : sm_L} {t : Nat} {m : Nat} {ex : Int32} {i : Nat} {dp : Nat} {S1 : cS} {S2 : cS} (q5 : sm_get lv 5 = some (.int (nI t))) (q4 : sm_get lv 4 = some (.int (nI m))) (q3 : sm_get lv 3 = some (.int ex)) (q2 : sm_get lv 2 = some (.int (nI i))) (q0 : sm_get lv 0 = some (.ref 43)) (q1 : sm_get lv 1 = some (.int (nI dp))) (mt : t < 2 ^ 20) (mm : m < 2 ^ 20) (mi : i < 2 ^ 20) (mdp : dp < 2 ^ 20) (b1 : m = 0) (c1 : Ans (d + 8) 52 [.ref 43, .int (nI i)] S (some (.int (nI 0))) S1) (c2 : Ans (d + 8) 87 [.ref 43, .int ex] S1 none S2) : Bod (d + 8) 56 16 lv [] S none (S2) := by
  refine Bod.ildG dc_56_16 (by repeat (first | exact q4 | exact sm_get_p1 | exact sm_get_p2e | refine sm_get_p1m (by decide) (by decide) ?_ | refine sm_get_p1n (by decide) rfl ?_ | refine sm_get_p2n (by decide) (by decide) rfl ?_)) ?_
  refine Bod.ifT dc_56_18 rfl (k1_eq_T (k_eq m 0 rfl rfl (by omega))) ?_
  refine Bod.aldnG dc_56_124 (by repeat (first | exact q0 | exact sm_get_p1 | exact sm_get_p2e | refine sm_get_p1m (by decide) (by decide) ?_ | refine sm_get_p1n (by decide) rfl ?_ | refine sm_get_p2n (by decide) (by decide) rfl ?_)) ?_
  refine Bod.ildnG dc_56_125 (by repeat (first | exact q2 | exact sm_get_p1 | exact sm_get_p2e | refine sm_get_p1m (by decide) (by decide) ?_ | refine sm_get_p1n (by decide) rfl ?_ | refine sm_get_p2n (by decide) (by decide) rfl ?_)) ?_
  refine Bod.virt (r := []) dc_56_126 kr_56_89 ⟨Or.inl rfl, ow_52, cl_10⟩ (by rw [np_52]; rfl) (by rw [np_52]; rfl) (ob_of (mk_43 _)) (Nat.le_of_ble_eq_true rfl) (c1  ) ?_
  show Bod _ _ _ _ [_] _ _ _
  refine Bod.ifT dc_56_129 rfl (k1_eq_T (k_eq 0 0 rfl rfl (by omega))) ?_
  refine Bod.aldnG dc_56_161 (by repeat (first | exact q0 | exact sm_get_p1 | exact sm_get_p2e | refine sm_get_p1m (by decide) (by decide) ?_ | refine sm_get_p1n (by decide) rfl ?_ | refine sm_get_p2n (by decide) (by decide) rfl ?_)) ?_
  refine Bod.ildnG dc_56_162 (by repeat (first | exact q3 | exact sm_get_p1 | exact sm_get_p2e | refine sm_get_p1m (by decide) (by decide) ?_ | refine sm_get_p1n (by decide) rfl ?_ | refine sm_get_p2n (by decide) (by decide) rfl ?_)) ?_
  refine Bod.virt (r := []) dc_56_163 kr_56_229 ⟨Or.inl rfl, ow_87, cl_10⟩ (by rw [np_87]; rfl) (by rw [np_87]; rfl) (ob_of (mk_43 _)) (Nat.le_of_ble_eq_true rfl) (c2  ) ?_
  show Bod _ _ _ _ [] _ _ _
  exact Bod.retV dc_56_166 rt_56
theorem cBrL_4 {d : Nat} {S : cS} {lv : sm_L} {t : Nat} {m : Nat} {ex : Int32} {i : Nat} {dp : Nat} {S1 : cS} {tk : Nat} {S2 : cS} (q5 : sm_get lv 5 = some (.int (nI t))) (q4 : sm_get lv 4 = some (.int (nI m))) (q3 : sm_get lv 3 = some (.int ex)) (q2 : sm_get lv 2 = some (.int (nI i))) (q0 : sm_get lv 0 = some (.ref 43)) (q1 : sm_get lv 1 = some (.int (nI dp))) (mt : t < 2 ^ 20) (mm : m < 2 ^ 20) (mi : i < 2 ^ 20) (mdp : dp < 2 ^ 20) (b1 : m ≠ 0) (b2 : 3000 ≤ t) (c1 : Ans (d + 8) 52 [.ref 43, .int (nI i)] S (some (.int (nI 1))) S1) (htk : sI S1 3105 = nI tk) (mtk : tk < 2 ^ 20) (b3 : tk ≠ 42) (c2 : Ans (d + 8) 87 [.ref 43, .int ex] S1 none S2) : Bod (d + 8) 56 16 lv [] S none (S2) := by
  refine Bod.ildG dc_56_16 (by repeat (first | exact q4 | exact sm_get_p1 | exact sm_get_p2e | refine sm_get_p1m (by decide) (by decide) ?_ | refine sm_get_p1n (by decide) rfl ?_ | refine sm_get_p2n (by decide) (by decide) rfl ?_)) ?_
  refine Bod.ifF dc_56_18 rfl (k1_eq_F (k_ne m 0 rfl rfl (by omega) (by omega) (by omega))) ?_
  refine Bod.ildG dc_56_21 (by repeat (first | exact q5 | exact sm_get_p1 | exact sm_get_p2e | refine sm_get_p1m (by decide) (by decide) ?_ | refine sm_get_p1n (by decide) rfl ?_ | refine sm_get_p2n (by decide) (by decide) rfl ?_)) ?_
  refine Bod.sip 3000 (by decide) dc_56_23 ?_
  refine Bod.icT dc_56_26 rfl (k2_ge_T t 3000 rfl rfl (by omega) (by omega)) ?_
  refine Bod.aldnG dc_56_124 (by repeat (first | exact q0 | exact sm_get_p1 | exact sm_get_p2e | refine sm_get_p1m (by decide) (by decide) ?_ | refine sm_get_p1n (by decide) rfl ?_ | refine sm_get_p2n (by decide) (by decide) rfl ?_)) ?_
  refine Bod.ildnG dc_56_125 (by repeat (first | exact q2 | exact sm_get_p1 | exact sm_get_p2e | refine sm_get_p1m (by decide) (by decide) ?_ | refine sm_get_p1n (by decide) rfl ?_ | refine sm_get_p2n (by decide) (by decide) rfl ?_)) ?_
  refine Bod.virt (r := []) dc_56_126 kr_56_89 ⟨Or.inl rfl, ow_52, cl_10⟩ (by rw [np_52]; rfl) (by rw [np_52]; rfl) (ob_of (mk_43 _)) (Nat.le_of_ble_eq_true rfl) (c1  ) ?_
  show Bod _ _ _ _ [_] _ _ _
  refine Bod.ifF dc_56_129 rfl (k1_eq_F (k_ne 1 0 rfl rfl (by omega) (by omega) (by omega))) ?_
  refine Bod.aldnG dc_56_132 (by repeat (first | exact q0 | exact sm_get_p1 | exact sm_get_p2e | refine sm_get_p1m (by decide) (by decide) ?_ | refine sm_get_p1n (by decide) rfl ?_ | refine sm_get_p2n (by decide) (by decide) rfl ?_)) ?_
  refine Bod.get dc_56_133 fr_56_9 (mk_43 _) rfl ?_
  refine Bod.get dc_56_136 fr_56_79 (mk_31 _) rfl ?_
  refine Bod.eqI (nI tk) (by first | (simp (disch := omega) only [rI, rIe, rA, rIA, rLA, rJA, rVI, rQI, rVA, rQA, upd_at,  rAI, rLI, rJI, nI_add, pk_sub, kc_0, kc_1, kc_2, kc_3, kc_4, kc_5, reduceIte, Nat.reduceEqDiff, Nat.add_zero, rI_hold, rI_hold, rL_hold, htk]; done) | (simp (disch := omega) only [rI, rIe, rA, rIA, rLA, rJA, rVI, rQI, rVA, rQA, upd_at,  rAI, rLI, rJI, nI_add, pk_sub, kc_0, kc_1, kc_2, kc_3, kc_4, kc_5, reduceIte, Nat.reduceEqDiff, Nat.add_zero, rI_hold, rI_hold, rL_hold, htk]; exact congrArg nI (by omega))) ?_
  refine Bod.bip 42 (by decide) dc_56_139 ?_
  refine Bod.icT dc_56_141 rfl (k2_ne_T (k_ne tk 42 rfl rfl (by omega) (by omega) (by omega))) ?_
  refine Bod.aldnG dc_56_161 (by repeat (first | exact q0 | exact sm_get_p1 | exact sm_get_p2e | refine sm_get_p1m (by decide) (by decide) ?_ | refine sm_get_p1n (by decide) rfl ?_ | refine sm_get_p2n (by decide) (by decide) rfl ?_)) ?_
  refine Bod.ildnG dc_56_162 (by repeat (first | exact q3 | exact sm_get_p1 | exact sm_get_p2e | refine sm_get_p1m (by decide) (by decide) ?_ | refine sm_get_p1n (by decide) rfl ?_ | refine sm_get_p2n (by decide) (by decide) rfl ?_)) ?_
  refine Bod.virt (r := []) dc_56_163 kr_56_229 ⟨Or.inl rfl, ow_87, cl_10⟩ (by rw [np_87]; rfl) (by rw [np_87]; rfl) (ob_of (mk_43 _)) (Nat.le_of_ble_eq_true rfl) (c2  ) ?_
  show Bod _ _ _ _ [] _ _ _
  exact Bod.retV dc_56_166 rt_56
theorem cBrL_5 {d : Nat} {S : cS} {lv : sm_L} {t : Nat} {m : Nat} {ex : Int32} {i : Nat} {dp : Nat} {S1 : cS} {tk : Nat} {S2 : cS} {S3 : cS} {S4 : cS} (q5 : sm_get lv 5 = some (.int (nI t))) (q4 : sm_get lv 4 = some (.int (nI m))) (q3 : sm_get lv 3 = some (.int ex)) (q2 : sm_get lv 2 = some (.int (nI i))) (q0 : sm_get lv 0 = some (.ref 43)) (q1 : sm_get lv 1 = some (.int (nI dp))) (mt : t < 2 ^ 20) (mm : m < 2 ^ 20) (mi : i < 2 ^ 20) (mdp : dp < 2 ^ 20) (b1 : m ≠ 0) (b2 : 3000 ≤ t) (c1 : Ans (d + 8) 52 [.ref 43, .int (nI i)] S (some (.int (nI 1))) S1) (htk : sI S1 3105 = nI tk) (mtk : tk < 2 ^ 20) (b3 : tk = 42) (c2 : Ans (d + 8) 75 [.ref 31, .int (nI 42)] S1 none S2) (c3 : Ans (d + 8) 84 [.ref 43, .int (nI i), .int (nI (dp + 1))] S2 none S3) (c4 : Ans (d + 8) 87 [.ref 43, .int ex] S3 none S4) : Bod (d + 8) 56 16 lv [] S none (S4) := by
  refine Bod.ildG dc_56_16 (by repeat (first | exact q4 | exact sm_get_p1 | exact sm_get_p2e | refine sm_get_p1m (by decide) (by decide) ?_ | refine sm_get_p1n (by decide) rfl ?_ | refine sm_get_p2n (by decide) (by decide) rfl ?_)) ?_
  refine Bod.ifF dc_56_18 rfl (k1_eq_F (k_ne m 0 rfl rfl (by omega) (by omega) (by omega))) ?_
  refine Bod.ildG dc_56_21 (by repeat (first | exact q5 | exact sm_get_p1 | exact sm_get_p2e | refine sm_get_p1m (by decide) (by decide) ?_ | refine sm_get_p1n (by decide) rfl ?_ | refine sm_get_p2n (by decide) (by decide) rfl ?_)) ?_
  refine Bod.sip 3000 (by decide) dc_56_23 ?_
  refine Bod.icT dc_56_26 rfl (k2_ge_T t 3000 rfl rfl (by omega) (by omega)) ?_
  refine Bod.aldnG dc_56_124 (by repeat (first | exact q0 | exact sm_get_p1 | exact sm_get_p2e | refine sm_get_p1m (by decide) (by decide) ?_ | refine sm_get_p1n (by decide) rfl ?_ | refine sm_get_p2n (by decide) (by decide) rfl ?_)) ?_
  refine Bod.ildnG dc_56_125 (by repeat (first | exact q2 | exact sm_get_p1 | exact sm_get_p2e | refine sm_get_p1m (by decide) (by decide) ?_ | refine sm_get_p1n (by decide) rfl ?_ | refine sm_get_p2n (by decide) (by decide) rfl ?_)) ?_
  refine Bod.virt (r := []) dc_56_126 kr_56_89 ⟨Or.inl rfl, ow_52, cl_10⟩ (by rw [np_52]; rfl) (by rw [np_52]; rfl) (ob_of (mk_43 _)) (Nat.le_of_ble_eq_true rfl) (c1  ) ?_
  show Bod _ _ _ _ [_] _ _ _
  refine Bod.ifF dc_56_129 rfl (k1_eq_F (k_ne 1 0 rfl rfl (by omega) (by omega) (by omega))) ?_
  refine Bod.aldnG dc_56_132 (by repeat (first | exact q0 | exact sm_get_p1 | exact sm_get_p2e | refine sm_get_p1m (by decide) (by decide) ?_ | refine sm_get_p1n (by decide) rfl ?_ | refine sm_get_p2n (by decide) (by decide) rfl ?_)) ?_
  refine Bod.get dc_56_133 fr_56_9 (mk_43 _) rfl ?_
  refine Bod.get dc_56_136 fr_56_79 (mk_31 _) rfl ?_
  refine Bod.eqI (nI tk) (by first | (simp (disch := omega) only [rI, rIe, rA, rIA, rLA, rJA, rVI, rQI, rVA, rQA, upd_at,  rAI, rLI, rJI, nI_add, pk_sub, kc_0, kc_1, kc_2, kc_3, kc_4, kc_5, reduceIte, Nat.reduceEqDiff, Nat.add_zero, rI_hold, rI_hold, rL_hold, htk]; done) | (simp (disch := omega) only [rI, rIe, rA, rIA, rLA, rJA, rVI, rQI, rVA, rQA, upd_at,  rAI, rLI, rJI, nI_add, pk_sub, kc_0, kc_1, kc_2, kc_3, kc_4, kc_5, reduceIte, Nat.reduceEqDiff, Nat.add_zero, rI_hold, rI_hold, rL_hold, htk]; exact congrArg nI (by omega))) ?_
  refine Bod.bip 42 (by decide) dc_56_139 ?_
  refine Bod.icF dc_56_141 rfl (k2_ne_F (k_eq tk 42 rfl rfl (by omega))) ?_
  refine Bod.aldnG dc_56_144 (by repeat (first | exact q0 | exact sm_get_p1 | exact sm_get_p2e | refine sm_get_p1m (by decide) (by decide) ?_ | refine sm_get_p1n (by decide) rfl ?_ | refine sm_get_p2n (by decide) (by decide) rfl ?_)) ?_
  refine Bod.get dc_56_145 fr_56_9 (mk_43 _) rfl ?_
  refine Bod.bip 42 (by decide) dc_56_148 ?_
  refine Bod.virt (r := []) dc_56_150 kr_56_107 ⟨Or.inr rfl, ow_75, cl_3⟩ (by rw [np_75]; rfl) (by rw [np_75]; rfl) (ob_of (mk_31 _)) (Nat.le_of_ble_eq_true rfl) (c2  ) ?_
  show Bod _ _ _ _ [] _ _ _
  refine Bod.aldnG dc_56_153 (by repeat (first | exact q0 | exact sm_get_p1 | exact sm_get_p2e | refine sm_get_p1m (by decide) (by decide) ?_ | refine sm_get_p1n (by decide) rfl ?_ | refine sm_get_p2n (by decide) (by decide) rfl ?_)) ?_
  refine Bod.ildnG dc_56_154 (by repeat (first | exact q2 | exact sm_get_p1 | exact sm_get_p2e | refine sm_get_p1m (by decide) (by decide) ?_ | refine sm_get_p1n (by decide) rfl ?_ | refine sm_get_p2n (by decide) (by decide) rfl ?_)) ?_
  refine Bod.ildnG dc_56_155 (by repeat (first | exact q1 | exact sm_get_p1 | exact sm_get_p2e | refine sm_get_p1m (by decide) (by decide) ?_ | refine sm_get_p1n (by decide) rfl ?_ | refine sm_get_p2n (by decide) (by decide) rfl ?_)) ?_
  refine Bod.ic 1 (by decide) dc_56_156 ?_
  refine Bod.addN (dp + 1) (by omega) dc_56_157 ?_
  refine Bod.virt (r := []) dc_56_158 kr_56_226 ⟨Or.inl rfl, ow_84, cl_10⟩ (by rw [np_84]; rfl) (by rw [np_84]; rfl) (ob_of (mk_43 _)) (Nat.le_of_ble_eq_true rfl) (c3  ) ?_
  show Bod _ _ _ _ [] _ _ _
  refine Bod.aldnG dc_56_161 (by repeat (first | exact q0 | exact sm_get_p1 | exact sm_get_p2e | refine sm_get_p1m (by decide) (by decide) ?_ | refine sm_get_p1n (by decide) rfl ?_ | refine sm_get_p2n (by decide) (by decide) rfl ?_)) ?_
  refine Bod.ildnG dc_56_162 (by repeat (first | exact q3 | exact sm_get_p1 | exact sm_get_p2e | refine sm_get_p1m (by decide) (by decide) ?_ | refine sm_get_p1n (by decide) rfl ?_ | refine sm_get_p2n (by decide) (by decide) rfl ?_)) ?_
  refine Bod.virt (r := []) dc_56_163 kr_56_229 ⟨Or.inl rfl, ow_87, cl_10⟩ (by rw [np_87]; rfl) (by rw [np_87]; rfl) (ob_of (mk_43 _)) (Nat.le_of_ble_eq_true rfl) (c4  ) ?_
  show Bod _ _ _ _ [] _ _ _
  exact Bod.retV dc_56_166 rt_56
theorem cBrL_6 {d : Nat} {S : cS} {lv : sm_L} {t : Nat} {m : Nat} {ex : Int32} {i : Nat} {dp : Nat} {S1 : cS} {S2 : cS} (q5 : sm_get lv 5 = some (.int (nI t))) (q4 : sm_get lv 4 = some (.int (nI m))) (q3 : sm_get lv 3 = some (.int ex)) (q2 : sm_get lv 2 = some (.int (nI i))) (q0 : sm_get lv 0 = some (.ref 43)) (q1 : sm_get lv 1 = some (.int (nI dp))) (mt : t < 2 ^ 20) (mm : m < 2 ^ 20) (mi : i < 2 ^ 20) (mdp : dp < 2 ^ 20) (b1 : m ≠ 0) (b2 : 3000 ≤ t) (c1 : Ans (d + 8) 52 [.ref 43, .int (nI i)] S (some (.int (nI 0))) S1) (c2 : Ans (d + 8) 87 [.ref 43, .int ex] S1 none S2) : Bod (d + 8) 56 16 lv [] S none (S2) := by
  refine Bod.ildG dc_56_16 (by repeat (first | exact q4 | exact sm_get_p1 | exact sm_get_p2e | refine sm_get_p1m (by decide) (by decide) ?_ | refine sm_get_p1n (by decide) rfl ?_ | refine sm_get_p2n (by decide) (by decide) rfl ?_)) ?_
  refine Bod.ifF dc_56_18 rfl (k1_eq_F (k_ne m 0 rfl rfl (by omega) (by omega) (by omega))) ?_
  refine Bod.ildG dc_56_21 (by repeat (first | exact q5 | exact sm_get_p1 | exact sm_get_p2e | refine sm_get_p1m (by decide) (by decide) ?_ | refine sm_get_p1n (by decide) rfl ?_ | refine sm_get_p2n (by decide) (by decide) rfl ?_)) ?_
  refine Bod.sip 3000 (by decide) dc_56_23 ?_
  refine Bod.icT dc_56_26 rfl (k2_ge_T t 3000 rfl rfl (by omega) (by omega)) ?_
  refine Bod.aldnG dc_56_124 (by repeat (first | exact q0 | exact sm_get_p1 | exact sm_get_p2e | refine sm_get_p1m (by decide) (by decide) ?_ | refine sm_get_p1n (by decide) rfl ?_ | refine sm_get_p2n (by decide) (by decide) rfl ?_)) ?_
  refine Bod.ildnG dc_56_125 (by repeat (first | exact q2 | exact sm_get_p1 | exact sm_get_p2e | refine sm_get_p1m (by decide) (by decide) ?_ | refine sm_get_p1n (by decide) rfl ?_ | refine sm_get_p2n (by decide) (by decide) rfl ?_)) ?_
  refine Bod.virt (r := []) dc_56_126 kr_56_89 ⟨Or.inl rfl, ow_52, cl_10⟩ (by rw [np_52]; rfl) (by rw [np_52]; rfl) (ob_of (mk_43 _)) (Nat.le_of_ble_eq_true rfl) (c1  ) ?_
  show Bod _ _ _ _ [_] _ _ _
  refine Bod.ifT dc_56_129 rfl (k1_eq_T (k_eq 0 0 rfl rfl (by omega))) ?_
  refine Bod.aldnG dc_56_161 (by repeat (first | exact q0 | exact sm_get_p1 | exact sm_get_p2e | refine sm_get_p1m (by decide) (by decide) ?_ | refine sm_get_p1n (by decide) rfl ?_ | refine sm_get_p2n (by decide) (by decide) rfl ?_)) ?_
  refine Bod.ildnG dc_56_162 (by repeat (first | exact q3 | exact sm_get_p1 | exact sm_get_p2e | refine sm_get_p1m (by decide) (by decide) ?_ | refine sm_get_p1n (by decide) rfl ?_ | refine sm_get_p2n (by decide) (by decide) rfl ?_)) ?_
  refine Bod.virt (r := []) dc_56_163 kr_56_229 ⟨Or.inl rfl, ow_87, cl_10⟩ (by rw [np_87]; rfl) (by rw [np_87]; rfl) (ob_of (mk_43 _)) (Nat.le_of_ble_eq_true rfl) (c2  ) ?_
  show Bod _ _ _ _ [] _ _ _
  exact Bod.retV dc_56_166 rt_56
theorem cBrL_7 {d : Nat} {S Sf : cS} {v : Option Value} {lv : sm_L} {t : Nat} {m : Nat} {ex : Int32} {i : Nat} {dp : Nat} {S1 : cS} {S2 : cS} {S3 : cS} {a : Nat} {S4 : cS} {S5 : cS} {tk : Nat} {S6 : cS} {a1 : Nat} {top : Nat} {S7 : cS} (q5 : sm_get lv 5 = some (.int (nI t))) (q4 : sm_get lv 4 = some (.int (nI m))) (q3 : sm_get lv 3 = some (.int ex)) (q2 : sm_get lv 2 = some (.int (nI i))) (q0 : sm_get lv 0 = some (.ref 43)) (q1 : sm_get lv 1 = some (.int (nI dp))) (mt : t < 2 ^ 20) (mm : m < 2 ^ 20) (mi : i < 2 ^ 20) (mdp : dp < 2 ^ 20) (b1 : m ≠ 0) (b2 : t < 3000) (c1 : Ans (d + 8) 40 [.ref 31] S none S1) (c2 : Ans (d + 8) 57 [.ref 44, .int (nI 0)] S1 none S2) (ma : a < 2 ^ 20) (c3 : Ans (d + 8) 54 [.ref 23, .int (nI 5), .int (nI 0)] S2 (some (.int (nI a))) S3) (c4 : Ans (d + 8) 84 [.ref 43, .int (nI i), .int (nI (dp + 1))] S3 none S4) (c5 : Ans (d + 8) 52 [.ref 43, .int (nI i)] S4 (some (.int (nI 1))) S5) (htk : sI S5 3105 = nI tk) (mtk : tk < 2 ^ 20) (b3 : tk ≠ 41) (ma1 : a1 < 2 ^ 20) (c6 : Ans (d + 8) 54 [.ref 23, .int (nI 4), .int ex] S5 (some (.int (nI a1))) S6) (htop : sI S6 2307 = nI top) (mtop : top < 2 ^ 20) (c7 : Ans (d + 8) 83 [.ref 23, .int (nI (a + 1)), .int (nI top)] S6 none S7) (hB : ∀ lv1 : sm_L, sm_get lv1 0 = some (.ref 43) → sm_get lv1 1 = some (.int (nI dp)) → sm_get lv1 2 = some (.int (nI i)) → sm_get lv1 3 = some (.int (nI a1)) → sm_get lv1 4 = some (.int (nI 0)) → sm_get lv1 5 = some (.int (nI (t + 1))) → Bod (d + 8) 56 16 lv1 [] (S7) v Sf) : Bod (d + 8) 56 16 lv [] S v Sf := by
  refine Bod.ildG dc_56_16 (by repeat (first | exact q4 | exact sm_get_p1 | exact sm_get_p2e | refine sm_get_p1m (by decide) (by decide) ?_ | refine sm_get_p1n (by decide) rfl ?_ | refine sm_get_p2n (by decide) (by decide) rfl ?_)) ?_
  refine Bod.ifF dc_56_18 rfl (k1_eq_F (k_ne m 0 rfl rfl (by omega) (by omega) (by omega))) ?_
  refine Bod.ildG dc_56_21 (by repeat (first | exact q5 | exact sm_get_p1 | exact sm_get_p2e | refine sm_get_p1m (by decide) (by decide) ?_ | refine sm_get_p1n (by decide) rfl ?_ | refine sm_get_p2n (by decide) (by decide) rfl ?_)) ?_
  refine Bod.sip 3000 (by decide) dc_56_23 ?_
  refine Bod.icF dc_56_26 rfl (k2_ge_F t 3000 rfl rfl (by omega) (by omega)) ?_
  refine Bod.aldnG dc_56_29 (by repeat (first | exact q0 | exact sm_get_p1 | exact sm_get_p2e | refine sm_get_p1m (by decide) (by decide) ?_ | refine sm_get_p1n (by decide) rfl ?_ | refine sm_get_p2n (by decide) (by decide) rfl ?_)) ?_
  refine Bod.get dc_56_30 fr_56_9 (mk_43 _) rfl ?_
  refine Bod.virt (r := []) dc_56_33 kr_56_192 ⟨Or.inr rfl, ow_40, cl_3⟩ (by rw [np_40]; rfl) (by rw [np_40]; rfl) (ob_of (mk_31 _)) (Nat.le_of_ble_eq_true rfl) (c1  ) ?_
  show Bod _ _ _ _ [] _ _ _
  refine Bod.aldnG dc_56_36 (by repeat (first | exact q0 | exact sm_get_p1 | exact sm_get_p2e | refine sm_get_p1m (by decide) (by decide) ?_ | refine sm_get_p1n (by decide) rfl ?_ | refine sm_get_p2n (by decide) (by decide) rfl ?_)) ?_
  refine Bod.get dc_56_37 fr_56_23 (mk_43 _) rfl ?_
  refine Bod.ic 0 (by decide) dc_56_40 ?_
  refine Bod.virt (r := []) dc_56_41 kr_56_169 ⟨Or.inr rfl, ow_57, cl_1⟩ (by rw [np_57]; rfl) (by rw [np_57]; rfl) (ob_of (mk_44 _)) (Nat.le_of_ble_eq_true rfl) (c2  ) ?_
  show Bod _ _ _ _ [] _ _ _
  refine Bod.aldnG dc_56_44 (by repeat (first | exact q0 | exact sm_get_p1 | exact sm_get_p2e | refine sm_get_p1m (by decide) (by decide) ?_ | refine sm_get_p1n (by decide) rfl ?_ | refine sm_get_p2n (by decide) (by decide) rfl ?_)) ?_
  refine Bod.get dc_56_45 fr_56_15 (mk_43 _) rfl ?_
  refine Bod.ic 5 (by decide) dc_56_48 ?_
  refine Bod.ic 0 (by decide) dc_56_49 ?_
  refine Bod.virt (r := []) dc_56_50 kr_56_116 ⟨Or.inr rfl, ow_54, cl_7⟩ (by rw [np_54]; rfl) (by rw [np_54]; rfl) (ob_of (mk_23 _)) (Nat.le_of_ble_eq_true rfl) (c3  ) ?_
  show Bod _ _ _ _ [_] _ _ _
  refine Bod.ist dc_56_53 (by rw [ml_56]; exact Nat.le_of_ble_eq_true rfl) ?_
  refine Bod.aldnG dc_56_55 (by repeat (first | exact q0 | exact sm_get_p1 | exact sm_get_p2e | refine sm_get_p1m (by decide) (by decide) ?_ | refine sm_get_p1n (by decide) rfl ?_ | refine sm_get_p2n (by decide) (by decide) rfl ?_)) ?_
  refine Bod.ildnG dc_56_56 (by repeat (first | exact q2 | exact sm_get_p1 | exact sm_get_p2e | refine sm_get_p1m (by decide) (by decide) ?_ | refine sm_get_p1n (by decide) rfl ?_ | refine sm_get_p2n (by decide) (by decide) rfl ?_)) ?_
  refine Bod.ildnG dc_56_57 (by repeat (first | exact q1 | exact sm_get_p1 | exact sm_get_p2e | refine sm_get_p1m (by decide) (by decide) ?_ | refine sm_get_p1n (by decide) rfl ?_ | refine sm_get_p2n (by decide) (by decide) rfl ?_)) ?_
  refine Bod.ic 1 (by decide) dc_56_58 ?_
  refine Bod.addN (dp + 1) (by omega) dc_56_59 ?_
  refine Bod.virt (r := []) dc_56_60 kr_56_226 ⟨Or.inl rfl, ow_84, cl_10⟩ (by rw [np_84]; rfl) (by rw [np_84]; rfl) (ob_of (mk_43 _)) (Nat.le_of_ble_eq_true rfl) (c4  ) ?_
  show Bod _ _ _ _ [] _ _ _
  refine Bod.aldnG dc_56_63 (by repeat (first | exact q0 | exact sm_get_p1 | exact sm_get_p2e | refine sm_get_p1m (by decide) (by decide) ?_ | refine sm_get_p1n (by decide) rfl ?_ | refine sm_get_p2n (by decide) (by decide) rfl ?_)) ?_
  refine Bod.ildnG dc_56_64 (by repeat (first | exact q2 | exact sm_get_p1 | exact sm_get_p2e | refine sm_get_p1m (by decide) (by decide) ?_ | refine sm_get_p1n (by decide) rfl ?_ | refine sm_get_p2n (by decide) (by decide) rfl ?_)) ?_
  refine Bod.virt (r := []) dc_56_65 kr_56_89 ⟨Or.inl rfl, ow_52, cl_10⟩ (by rw [np_52]; rfl) (by rw [np_52]; rfl) (ob_of (mk_43 _)) (Nat.le_of_ble_eq_true rfl) (c5  ) ?_
  show Bod _ _ _ _ [_] _ _ _
  refine Bod.ifF dc_56_68 rfl (k1_eq_F (k_ne 1 0 rfl rfl (by omega) (by omega) (by omega))) ?_
  refine Bod.aldnG dc_56_71 (by repeat (first | exact q0 | exact sm_get_p1 | exact sm_get_p2e | refine sm_get_p1m (by decide) (by decide) ?_ | refine sm_get_p1n (by decide) rfl ?_ | refine sm_get_p2n (by decide) (by decide) rfl ?_)) ?_
  refine Bod.get dc_56_72 fr_56_9 (mk_43 _) rfl ?_
  refine Bod.get dc_56_75 fr_56_79 (mk_31 _) rfl ?_
  refine Bod.eqI (nI tk) (by first | (simp (disch := omega) only [rI, rIe, rA, rIA, rLA, rJA, rVI, rQI, rVA, rQA, upd_at,  rAI, rLI, rJI, nI_add, pk_sub, kc_0, kc_1, kc_2, kc_3, kc_4, kc_5, reduceIte, Nat.reduceEqDiff, Nat.add_zero, rI_hold, rI_hold, rL_hold, htk]; done) | (simp (disch := omega) only [rI, rIe, rA, rIA, rLA, rJA, rVI, rQI, rVA, rQA, upd_at,  rAI, rLI, rJI, nI_add, pk_sub, kc_0, kc_1, kc_2, kc_3, kc_4, kc_5, reduceIte, Nat.reduceEqDiff, Nat.add_zero, rI_hold, rI_hold, rL_hold, htk]; exact congrArg nI (by omega))) ?_
  refine Bod.bip 41 (by decide) dc_56_78 ?_
  refine Bod.icT dc_56_80 rfl (k2_ne_T (k_ne tk 41 rfl rfl (by omega) (by omega) (by omega))) ?_
  refine Bod.ic 0 (by decide) dc_56_87 ?_
  refine Bod.ist dc_56_88 (by rw [ml_56]; exact Nat.le_of_ble_eq_true rfl) ?_
  refine Bod.aldnG dc_56_90 (by repeat (first | exact q0 | exact sm_get_p1 | exact sm_get_p2e | refine sm_get_p1m (by decide) (by decide) ?_ | refine sm_get_p1n (by decide) rfl ?_ | refine sm_get_p2n (by decide) (by decide) rfl ?_)) ?_
  refine Bod.get dc_56_91 fr_56_15 (mk_43 _) rfl ?_
  refine Bod.ic 4 (by decide) dc_56_94 ?_
  refine Bod.ildnG dc_56_95 (by repeat (first | exact q3 | exact sm_get_p1 | exact sm_get_p2e | refine sm_get_p1m (by decide) (by decide) ?_ | refine sm_get_p1n (by decide) rfl ?_ | refine sm_get_p2n (by decide) (by decide) rfl ?_)) ?_
  refine Bod.virt (r := []) dc_56_96 kr_56_116 ⟨Or.inr rfl, ow_54, cl_7⟩ (by rw [np_54]; rfl) (by rw [np_54]; rfl) (ob_of (mk_23 _)) (Nat.le_of_ble_eq_true rfl) (c6  ) ?_
  show Bod _ _ _ _ [_] _ _ _
  refine Bod.istn dc_56_99 (by rw [ml_56]; exact Nat.le_of_ble_eq_true rfl) ?_
  refine Bod.aldnG dc_56_100 (by repeat (first | exact q0 | exact sm_get_p1 | exact sm_get_p2e | refine sm_get_p1m (by decide) (by decide) ?_ | refine sm_get_p1n (by decide) rfl ?_ | refine sm_get_p2n (by decide) (by decide) rfl ?_)) ?_
  refine Bod.get dc_56_101 fr_56_15 (mk_43 _) rfl ?_
  refine Bod.ildG dc_56_104 (by repeat (first | exact q0 | exact sm_get_p1 | exact sm_get_p2e | refine sm_get_p1m (by decide) (by decide) ?_ | refine sm_get_p1n (by decide) rfl ?_ | refine sm_get_p2n (by decide) (by decide) rfl ?_)) ?_
  refine Bod.ic 1 (by decide) dc_56_106 ?_
  refine Bod.addN (a + 1) (by omega) dc_56_107 ?_
  refine Bod.aldnG dc_56_108 (by repeat (first | exact q0 | exact sm_get_p1 | exact sm_get_p2e | refine sm_get_p1m (by decide) (by decide) ?_ | refine sm_get_p1n (by decide) rfl ?_ | refine sm_get_p2n (by decide) (by decide) rfl ?_)) ?_
  refine Bod.get dc_56_109 fr_56_15 (mk_43 _) rfl ?_
  refine Bod.get dc_56_112 fr_56_69 (mk_23 _) rfl ?_
  refine Bod.eqI (nI top) (by first | (simp (disch := omega) only [rI, rIe, rA, rIA, rLA, rJA, rVI, rQI, rVA, rQA, upd_at,  rAI, rLI, rJI, nI_add, pk_sub, kc_0, kc_1, kc_2, kc_3, kc_4, kc_5, reduceIte, Nat.reduceEqDiff, Nat.add_zero, rI_hold, rI_hold, rL_hold, htk, htop]; done) | (simp (disch := omega) only [rI, rIe, rA, rIA, rLA, rJA, rVI, rQI, rVA, rQA, upd_at,  rAI, rLI, rJI, nI_add, pk_sub, kc_0, kc_1, kc_2, kc_3, kc_4, kc_5, reduceIte, Nat.reduceEqDiff, Nat.add_zero, rI_hold, rI_hold, rL_hold, htk, htop]; exact congrArg nI (by omega))) ?_
  refine Bod.virt (r := []) dc_56_115 kr_56_201 ⟨Or.inr rfl, ow_83, cl_7⟩ (by rw [np_83]; rfl) (by rw [np_83]; rfl) (ob_of (mk_23 _)) (Nat.le_of_ble_eq_true rfl) (c7  ) ?_
  show Bod _ _ _ _ [] _ _ _
  refine Bod.incN (t + 1) (by rw [kc_1, nI_add]) dc_56_118 (by rw [ml_56]; exact Nat.le_of_ble_eq_true rfl) (by repeat (first | exact q5 | exact sm_get_p1 | exact sm_get_p2e | refine sm_get_p1m (by decide) (by decide) ?_ | refine sm_get_p1n (by decide) rfl ?_ | refine sm_get_p2n (by decide) (by decide) rfl ?_)) ?_
  refine Bod.go dc_56_121 rfl ?_
  exact hB _ (by repeat (first | exact q0 | exact sm_get_p1 | exact sm_get_p2e | refine sm_get_p1m (by decide) (by decide) ?_ | refine sm_get_p1n (by decide) rfl ?_ | refine sm_get_p2n (by decide) (by decide) rfl ?_)) (by repeat (first | exact q1 | exact sm_get_p1 | exact sm_get_p2e | refine sm_get_p1m (by decide) (by decide) ?_ | refine sm_get_p1n (by decide) rfl ?_ | refine sm_get_p2n (by decide) (by decide) rfl ?_)) (by repeat (first | exact q2 | exact sm_get_p1 | exact sm_get_p2e | refine sm_get_p1m (by decide) (by decide) ?_ | refine sm_get_p1n (by decide) rfl ?_ | refine sm_get_p2n (by decide) (by decide) rfl ?_)) (by repeat (first | exact q0 | exact sm_get_p1 | exact sm_get_p2e | refine sm_get_p1m (by decide) (by decide) ?_ | refine sm_get_p1n (by decide) rfl ?_ | refine sm_get_p2n (by decide) (by decide) rfl ?_)) (by repeat (first | exact q0 | exact sm_get_p1 | exact sm_get_p2e | refine sm_get_p1m (by decide) (by decide) ?_ | refine sm_get_p1n (by decide) rfl ?_ | refine sm_get_p2n (by decide) (by decide) rfl ?_)) (by repeat (first | exact q0 | exact sm_get_p1 | exact sm_get_p2e | refine sm_get_p1m (by decide) (by decide) ?_ | refine sm_get_p1n (by decide) rfl ?_ | refine sm_get_p2n (by decide) (by decide) rfl ?_))
theorem cBrL_8 {d : Nat} {S Sf : cS} {v : Option Value} {lv : sm_L} {t : Nat} {m : Nat} {ex : Int32} {i : Nat} {dp : Nat} {S1 : cS} {S2 : cS} {S3 : cS} {a : Nat} {S4 : cS} {S5 : cS} {tk : Nat} {S6 : cS} {a1 : Nat} {top : Nat} {S7 : cS} (q5 : sm_get lv 5 = some (.int (nI t))) (q4 : sm_get lv 4 = some (.int (nI m))) (q3 : sm_get lv 3 = some (.int ex)) (q2 : sm_get lv 2 = some (.int (nI i))) (q0 : sm_get lv 0 = some (.ref 43)) (q1 : sm_get lv 1 = some (.int (nI dp))) (mt : t < 2 ^ 20) (mm : m < 2 ^ 20) (mi : i < 2 ^ 20) (mdp : dp < 2 ^ 20) (b1 : m ≠ 0) (b2 : t < 3000) (c1 : Ans (d + 8) 40 [.ref 31] S none S1) (c2 : Ans (d + 8) 57 [.ref 44, .int (nI 0)] S1 none S2) (ma : a < 2 ^ 20) (c3 : Ans (d + 8) 54 [.ref 23, .int (nI 5), .int (nI 0)] S2 (some (.int (nI a))) S3) (c4 : Ans (d + 8) 84 [.ref 43, .int (nI i), .int (nI (dp + 1))] S3 none S4) (c5 : Ans (d + 8) 52 [.ref 43, .int (nI i)] S4 (some (.int (nI 1))) S5) (htk : sI S5 3105 = nI tk) (mtk : tk < 2 ^ 20) (b3 : tk = 41) (ma1 : a1 < 2 ^ 20) (c6 : Ans (d + 8) 54 [.ref 23, .int (nI 4), .int ex] S5 (some (.int (nI a1))) S6) (htop : sI S6 2307 = nI top) (mtop : top < 2 ^ 20) (c7 : Ans (d + 8) 83 [.ref 23, .int (nI (a + 1)), .int (nI top)] S6 none S7) (hB : ∀ lv1 : sm_L, sm_get lv1 0 = some (.ref 43) → sm_get lv1 1 = some (.int (nI dp)) → sm_get lv1 2 = some (.int (nI i)) → sm_get lv1 3 = some (.int (nI a1)) → sm_get lv1 4 = some (.int (nI 1)) → sm_get lv1 5 = some (.int (nI (t + 1))) → Bod (d + 8) 56 16 lv1 [] (S7) v Sf) : Bod (d + 8) 56 16 lv [] S v Sf := by
  refine Bod.ildG dc_56_16 (by repeat (first | exact q4 | exact sm_get_p1 | exact sm_get_p2e | refine sm_get_p1m (by decide) (by decide) ?_ | refine sm_get_p1n (by decide) rfl ?_ | refine sm_get_p2n (by decide) (by decide) rfl ?_)) ?_
  refine Bod.ifF dc_56_18 rfl (k1_eq_F (k_ne m 0 rfl rfl (by omega) (by omega) (by omega))) ?_
  refine Bod.ildG dc_56_21 (by repeat (first | exact q5 | exact sm_get_p1 | exact sm_get_p2e | refine sm_get_p1m (by decide) (by decide) ?_ | refine sm_get_p1n (by decide) rfl ?_ | refine sm_get_p2n (by decide) (by decide) rfl ?_)) ?_
  refine Bod.sip 3000 (by decide) dc_56_23 ?_
  refine Bod.icF dc_56_26 rfl (k2_ge_F t 3000 rfl rfl (by omega) (by omega)) ?_
  refine Bod.aldnG dc_56_29 (by repeat (first | exact q0 | exact sm_get_p1 | exact sm_get_p2e | refine sm_get_p1m (by decide) (by decide) ?_ | refine sm_get_p1n (by decide) rfl ?_ | refine sm_get_p2n (by decide) (by decide) rfl ?_)) ?_
  refine Bod.get dc_56_30 fr_56_9 (mk_43 _) rfl ?_
  refine Bod.virt (r := []) dc_56_33 kr_56_192 ⟨Or.inr rfl, ow_40, cl_3⟩ (by rw [np_40]; rfl) (by rw [np_40]; rfl) (ob_of (mk_31 _)) (Nat.le_of_ble_eq_true rfl) (c1  ) ?_
  show Bod _ _ _ _ [] _ _ _
  refine Bod.aldnG dc_56_36 (by repeat (first | exact q0 | exact sm_get_p1 | exact sm_get_p2e | refine sm_get_p1m (by decide) (by decide) ?_ | refine sm_get_p1n (by decide) rfl ?_ | refine sm_get_p2n (by decide) (by decide) rfl ?_)) ?_
  refine Bod.get dc_56_37 fr_56_23 (mk_43 _) rfl ?_
  refine Bod.ic 0 (by decide) dc_56_40 ?_
  refine Bod.virt (r := []) dc_56_41 kr_56_169 ⟨Or.inr rfl, ow_57, cl_1⟩ (by rw [np_57]; rfl) (by rw [np_57]; rfl) (ob_of (mk_44 _)) (Nat.le_of_ble_eq_true rfl) (c2  ) ?_
  show Bod _ _ _ _ [] _ _ _
  refine Bod.aldnG dc_56_44 (by repeat (first | exact q0 | exact sm_get_p1 | exact sm_get_p2e | refine sm_get_p1m (by decide) (by decide) ?_ | refine sm_get_p1n (by decide) rfl ?_ | refine sm_get_p2n (by decide) (by decide) rfl ?_)) ?_
  refine Bod.get dc_56_45 fr_56_15 (mk_43 _) rfl ?_
  refine Bod.ic 5 (by decide) dc_56_48 ?_
  refine Bod.ic 0 (by decide) dc_56_49 ?_
  refine Bod.virt (r := []) dc_56_50 kr_56_116 ⟨Or.inr rfl, ow_54, cl_7⟩ (by rw [np_54]; rfl) (by rw [np_54]; rfl) (ob_of (mk_23 _)) (Nat.le_of_ble_eq_true rfl) (c3  ) ?_
  show Bod _ _ _ _ [_] _ _ _
  refine Bod.ist dc_56_53 (by rw [ml_56]; exact Nat.le_of_ble_eq_true rfl) ?_
  refine Bod.aldnG dc_56_55 (by repeat (first | exact q0 | exact sm_get_p1 | exact sm_get_p2e | refine sm_get_p1m (by decide) (by decide) ?_ | refine sm_get_p1n (by decide) rfl ?_ | refine sm_get_p2n (by decide) (by decide) rfl ?_)) ?_
  refine Bod.ildnG dc_56_56 (by repeat (first | exact q2 | exact sm_get_p1 | exact sm_get_p2e | refine sm_get_p1m (by decide) (by decide) ?_ | refine sm_get_p1n (by decide) rfl ?_ | refine sm_get_p2n (by decide) (by decide) rfl ?_)) ?_
  refine Bod.ildnG dc_56_57 (by repeat (first | exact q1 | exact sm_get_p1 | exact sm_get_p2e | refine sm_get_p1m (by decide) (by decide) ?_ | refine sm_get_p1n (by decide) rfl ?_ | refine sm_get_p2n (by decide) (by decide) rfl ?_)) ?_
  refine Bod.ic 1 (by decide) dc_56_58 ?_
  refine Bod.addN (dp + 1) (by omega) dc_56_59 ?_
  refine Bod.virt (r := []) dc_56_60 kr_56_226 ⟨Or.inl rfl, ow_84, cl_10⟩ (by rw [np_84]; rfl) (by rw [np_84]; rfl) (ob_of (mk_43 _)) (Nat.le_of_ble_eq_true rfl) (c4  ) ?_
  show Bod _ _ _ _ [] _ _ _
  refine Bod.aldnG dc_56_63 (by repeat (first | exact q0 | exact sm_get_p1 | exact sm_get_p2e | refine sm_get_p1m (by decide) (by decide) ?_ | refine sm_get_p1n (by decide) rfl ?_ | refine sm_get_p2n (by decide) (by decide) rfl ?_)) ?_
  refine Bod.ildnG dc_56_64 (by repeat (first | exact q2 | exact sm_get_p1 | exact sm_get_p2e | refine sm_get_p1m (by decide) (by decide) ?_ | refine sm_get_p1n (by decide) rfl ?_ | refine sm_get_p2n (by decide) (by decide) rfl ?_)) ?_
  refine Bod.virt (r := []) dc_56_65 kr_56_89 ⟨Or.inl rfl, ow_52, cl_10⟩ (by rw [np_52]; rfl) (by rw [np_52]; rfl) (ob_of (mk_43 _)) (Nat.le_of_ble_eq_true rfl) (c5  ) ?_
  show Bod _ _ _ _ [_] _ _ _
  refine Bod.ifF dc_56_68 rfl (k1_eq_F (k_ne 1 0 rfl rfl (by omega) (by omega) (by omega))) ?_
  refine Bod.aldnG dc_56_71 (by repeat (first | exact q0 | exact sm_get_p1 | exact sm_get_p2e | refine sm_get_p1m (by decide) (by decide) ?_ | refine sm_get_p1n (by decide) rfl ?_ | refine sm_get_p2n (by decide) (by decide) rfl ?_)) ?_
  refine Bod.get dc_56_72 fr_56_9 (mk_43 _) rfl ?_
  refine Bod.get dc_56_75 fr_56_79 (mk_31 _) rfl ?_
  refine Bod.eqI (nI tk) (by first | (simp (disch := omega) only [rI, rIe, rA, rIA, rLA, rJA, rVI, rQI, rVA, rQA, upd_at,  rAI, rLI, rJI, nI_add, pk_sub, kc_0, kc_1, kc_2, kc_3, kc_4, kc_5, reduceIte, Nat.reduceEqDiff, Nat.add_zero, rI_hold, rI_hold, rL_hold, htk]; done) | (simp (disch := omega) only [rI, rIe, rA, rIA, rLA, rJA, rVI, rQI, rVA, rQA, upd_at,  rAI, rLI, rJI, nI_add, pk_sub, kc_0, kc_1, kc_2, kc_3, kc_4, kc_5, reduceIte, Nat.reduceEqDiff, Nat.add_zero, rI_hold, rI_hold, rL_hold, htk]; exact congrArg nI (by omega))) ?_
  refine Bod.bip 41 (by decide) dc_56_78 ?_
  refine Bod.icF dc_56_80 rfl (k2_ne_F (k_eq tk 41 rfl rfl (by omega))) ?_
  refine Bod.ic 1 (by decide) dc_56_83 ?_
  refine Bod.go dc_56_84 rfl ?_
  refine Bod.ist dc_56_88 (by rw [ml_56]; exact Nat.le_of_ble_eq_true rfl) ?_
  refine Bod.aldnG dc_56_90 (by repeat (first | exact q0 | exact sm_get_p1 | exact sm_get_p2e | refine sm_get_p1m (by decide) (by decide) ?_ | refine sm_get_p1n (by decide) rfl ?_ | refine sm_get_p2n (by decide) (by decide) rfl ?_)) ?_
  refine Bod.get dc_56_91 fr_56_15 (mk_43 _) rfl ?_
  refine Bod.ic 4 (by decide) dc_56_94 ?_
  refine Bod.ildnG dc_56_95 (by repeat (first | exact q3 | exact sm_get_p1 | exact sm_get_p2e | refine sm_get_p1m (by decide) (by decide) ?_ | refine sm_get_p1n (by decide) rfl ?_ | refine sm_get_p2n (by decide) (by decide) rfl ?_)) ?_
  refine Bod.virt (r := []) dc_56_96 kr_56_116 ⟨Or.inr rfl, ow_54, cl_7⟩ (by rw [np_54]; rfl) (by rw [np_54]; rfl) (ob_of (mk_23 _)) (Nat.le_of_ble_eq_true rfl) (c6  ) ?_
  show Bod _ _ _ _ [_] _ _ _
  refine Bod.istn dc_56_99 (by rw [ml_56]; exact Nat.le_of_ble_eq_true rfl) ?_
  refine Bod.aldnG dc_56_100 (by repeat (first | exact q0 | exact sm_get_p1 | exact sm_get_p2e | refine sm_get_p1m (by decide) (by decide) ?_ | refine sm_get_p1n (by decide) rfl ?_ | refine sm_get_p2n (by decide) (by decide) rfl ?_)) ?_
  refine Bod.get dc_56_101 fr_56_15 (mk_43 _) rfl ?_
  refine Bod.ildG dc_56_104 (by repeat (first | exact q0 | exact sm_get_p1 | exact sm_get_p2e | refine sm_get_p1m (by decide) (by decide) ?_ | refine sm_get_p1n (by decide) rfl ?_ | refine sm_get_p2n (by decide) (by decide) rfl ?_)) ?_
  refine Bod.ic 1 (by decide) dc_56_106 ?_
  refine Bod.addN (a + 1) (by omega) dc_56_107 ?_
  refine Bod.aldnG dc_56_108 (by repeat (first | exact q0 | exact sm_get_p1 | exact sm_get_p2e | refine sm_get_p1m (by decide) (by decide) ?_ | refine sm_get_p1n (by decide) rfl ?_ | refine sm_get_p2n (by decide) (by decide) rfl ?_)) ?_
  refine Bod.get dc_56_109 fr_56_15 (mk_43 _) rfl ?_
  refine Bod.get dc_56_112 fr_56_69 (mk_23 _) rfl ?_
  refine Bod.eqI (nI top) (by first | (simp (disch := omega) only [rI, rIe, rA, rIA, rLA, rJA, rVI, rQI, rVA, rQA, upd_at,  rAI, rLI, rJI, nI_add, pk_sub, kc_0, kc_1, kc_2, kc_3, kc_4, kc_5, reduceIte, Nat.reduceEqDiff, Nat.add_zero, rI_hold, rI_hold, rL_hold, htk, htop]; done) | (simp (disch := omega) only [rI, rIe, rA, rIA, rLA, rJA, rVI, rQI, rVA, rQA, upd_at,  rAI, rLI, rJI, nI_add, pk_sub, kc_0, kc_1, kc_2, kc_3, kc_4, kc_5, reduceIte, Nat.reduceEqDiff, Nat.add_zero, rI_hold, rI_hold, rL_hold, htk, htop]; exact congrArg nI (by omega))) ?_
  refine Bod.virt (r := []) dc_56_115 kr_56_201 ⟨Or.inr rfl, ow_83, cl_7⟩ (by rw [np_83]; rfl) (by rw [np_83]; rfl) (ob_of (mk_23 _)) (Nat.le_of_ble_eq_true rfl) (c7  ) ?_
  show Bod _ _ _ _ [] _ _ _
  refine Bod.incN (t + 1) (by rw [kc_1, nI_add]) dc_56_118 (by rw [ml_56]; exact Nat.le_of_ble_eq_true rfl) (by repeat (first | exact q5 | exact sm_get_p1 | exact sm_get_p2e | refine sm_get_p1m (by decide) (by decide) ?_ | refine sm_get_p1n (by decide) rfl ?_ | refine sm_get_p2n (by decide) (by decide) rfl ?_)) ?_
  refine Bod.go dc_56_121 rfl ?_
  exact hB _ (by repeat (first | exact q0 | exact sm_get_p1 | exact sm_get_p2e | refine sm_get_p1m (by decide) (by decide) ?_ | refine sm_get_p1n (by decide) rfl ?_ | refine sm_get_p2n (by decide) (by decide) rfl ?_)) (by repeat (first | exact q1 | exact sm_get_p1 | exact sm_get_p2e | refine sm_get_p1m (by decide) (by decide) ?_ | refine sm_get_p1n (by decide) rfl ?_ | refine sm_get_p2n (by decide) (by decide) rfl ?_)) (by repeat (first | exact q2 | exact sm_get_p1 | exact sm_get_p2e | refine sm_get_p1m (by decide) (by decide) ?_ | refine sm_get_p1n (by decide) rfl ?_ | refine sm_get_p2n (by decide) (by decide) rfl ?_)) (by repeat (first | exact q0 | exact sm_get_p1 | exact sm_get_p2e | refine sm_get_p1m (by decide) (by decide) ?_ | refine sm_get_p1n (by decide) rfl ?_ | refine sm_get_p2n (by decide) (by decide) rfl ?_)) (by repeat (first | exact q0 | exact sm_get_p1 | exact sm_get_p2e | refine sm_get_p1m (by decide) (by decide) ?_ | refine sm_get_p1n (by decide) rfl ?_ | refine sm_get_p2n (by decide) (by decide) rfl ?_)) (by repeat (first | exact q0 | exact sm_get_p1 | exact sm_get_p2e | refine sm_get_p1m (by decide) (by decide) ?_ | refine sm_get_p1n (by decide) rfl ?_ | refine sm_get_p2n (by decide) (by decide) rfl ?_))
theorem cBrL_9 {d : Nat} {S Sf : cS} {v : Option Value} {lv : sm_L} {t : Nat} {m : Nat} {ex : Int32} {i : Nat} {dp : Nat} {S1 : cS} {S2 : cS} {S3 : cS} {a : Nat} {S4 : cS} {S5 : cS} {S6 : cS} {a1 : Nat} {top : Nat} {S7 : cS} (q5 : sm_get lv 5 = some (.int (nI t))) (q4 : sm_get lv 4 = some (.int (nI m))) (q3 : sm_get lv 3 = some (.int ex)) (q2 : sm_get lv 2 = some (.int (nI i))) (q0 : sm_get lv 0 = some (.ref 43)) (q1 : sm_get lv 1 = some (.int (nI dp))) (mt : t < 2 ^ 20) (mm : m < 2 ^ 20) (mi : i < 2 ^ 20) (mdp : dp < 2 ^ 20) (b1 : m ≠ 0) (b2 : t < 3000) (c1 : Ans (d + 8) 40 [.ref 31] S none S1) (c2 : Ans (d + 8) 57 [.ref 44, .int (nI 0)] S1 none S2) (ma : a < 2 ^ 20) (c3 : Ans (d + 8) 54 [.ref 23, .int (nI 5), .int (nI 0)] S2 (some (.int (nI a))) S3) (c4 : Ans (d + 8) 84 [.ref 43, .int (nI i), .int (nI (dp + 1))] S3 none S4) (c5 : Ans (d + 8) 52 [.ref 43, .int (nI i)] S4 (some (.int (nI 0))) S5) (ma1 : a1 < 2 ^ 20) (c6 : Ans (d + 8) 54 [.ref 23, .int (nI 4), .int ex] S5 (some (.int (nI a1))) S6) (htop : sI S6 2307 = nI top) (mtop : top < 2 ^ 20) (c7 : Ans (d + 8) 83 [.ref 23, .int (nI (a + 1)), .int (nI top)] S6 none S7) (hB : ∀ lv1 : sm_L, sm_get lv1 0 = some (.ref 43) → sm_get lv1 1 = some (.int (nI dp)) → sm_get lv1 2 = some (.int (nI i)) → sm_get lv1 3 = some (.int (nI a1)) → sm_get lv1 4 = some (.int (nI 0)) → sm_get lv1 5 = some (.int (nI (t + 1))) → Bod (d + 8) 56 16 lv1 [] (S7) v Sf) : Bod (d + 8) 56 16 lv [] S v Sf := by
  refine Bod.ildG dc_56_16 (by repeat (first | exact q4 | exact sm_get_p1 | exact sm_get_p2e | refine sm_get_p1m (by decide) (by decide) ?_ | refine sm_get_p1n (by decide) rfl ?_ | refine sm_get_p2n (by decide) (by decide) rfl ?_)) ?_
  refine Bod.ifF dc_56_18 rfl (k1_eq_F (k_ne m 0 rfl rfl (by omega) (by omega) (by omega))) ?_
  refine Bod.ildG dc_56_21 (by repeat (first | exact q5 | exact sm_get_p1 | exact sm_get_p2e | refine sm_get_p1m (by decide) (by decide) ?_ | refine sm_get_p1n (by decide) rfl ?_ | refine sm_get_p2n (by decide) (by decide) rfl ?_)) ?_
  refine Bod.sip 3000 (by decide) dc_56_23 ?_
  refine Bod.icF dc_56_26 rfl (k2_ge_F t 3000 rfl rfl (by omega) (by omega)) ?_
  refine Bod.aldnG dc_56_29 (by repeat (first | exact q0 | exact sm_get_p1 | exact sm_get_p2e | refine sm_get_p1m (by decide) (by decide) ?_ | refine sm_get_p1n (by decide) rfl ?_ | refine sm_get_p2n (by decide) (by decide) rfl ?_)) ?_
  refine Bod.get dc_56_30 fr_56_9 (mk_43 _) rfl ?_
  refine Bod.virt (r := []) dc_56_33 kr_56_192 ⟨Or.inr rfl, ow_40, cl_3⟩ (by rw [np_40]; rfl) (by rw [np_40]; rfl) (ob_of (mk_31 _)) (Nat.le_of_ble_eq_true rfl) (c1  ) ?_
  show Bod _ _ _ _ [] _ _ _
  refine Bod.aldnG dc_56_36 (by repeat (first | exact q0 | exact sm_get_p1 | exact sm_get_p2e | refine sm_get_p1m (by decide) (by decide) ?_ | refine sm_get_p1n (by decide) rfl ?_ | refine sm_get_p2n (by decide) (by decide) rfl ?_)) ?_
  refine Bod.get dc_56_37 fr_56_23 (mk_43 _) rfl ?_
  refine Bod.ic 0 (by decide) dc_56_40 ?_
  refine Bod.virt (r := []) dc_56_41 kr_56_169 ⟨Or.inr rfl, ow_57, cl_1⟩ (by rw [np_57]; rfl) (by rw [np_57]; rfl) (ob_of (mk_44 _)) (Nat.le_of_ble_eq_true rfl) (c2  ) ?_
  show Bod _ _ _ _ [] _ _ _
  refine Bod.aldnG dc_56_44 (by repeat (first | exact q0 | exact sm_get_p1 | exact sm_get_p2e | refine sm_get_p1m (by decide) (by decide) ?_ | refine sm_get_p1n (by decide) rfl ?_ | refine sm_get_p2n (by decide) (by decide) rfl ?_)) ?_
  refine Bod.get dc_56_45 fr_56_15 (mk_43 _) rfl ?_
  refine Bod.ic 5 (by decide) dc_56_48 ?_
  refine Bod.ic 0 (by decide) dc_56_49 ?_
  refine Bod.virt (r := []) dc_56_50 kr_56_116 ⟨Or.inr rfl, ow_54, cl_7⟩ (by rw [np_54]; rfl) (by rw [np_54]; rfl) (ob_of (mk_23 _)) (Nat.le_of_ble_eq_true rfl) (c3  ) ?_
  show Bod _ _ _ _ [_] _ _ _
  refine Bod.ist dc_56_53 (by rw [ml_56]; exact Nat.le_of_ble_eq_true rfl) ?_
  refine Bod.aldnG dc_56_55 (by repeat (first | exact q0 | exact sm_get_p1 | exact sm_get_p2e | refine sm_get_p1m (by decide) (by decide) ?_ | refine sm_get_p1n (by decide) rfl ?_ | refine sm_get_p2n (by decide) (by decide) rfl ?_)) ?_
  refine Bod.ildnG dc_56_56 (by repeat (first | exact q2 | exact sm_get_p1 | exact sm_get_p2e | refine sm_get_p1m (by decide) (by decide) ?_ | refine sm_get_p1n (by decide) rfl ?_ | refine sm_get_p2n (by decide) (by decide) rfl ?_)) ?_
  refine Bod.ildnG dc_56_57 (by repeat (first | exact q1 | exact sm_get_p1 | exact sm_get_p2e | refine sm_get_p1m (by decide) (by decide) ?_ | refine sm_get_p1n (by decide) rfl ?_ | refine sm_get_p2n (by decide) (by decide) rfl ?_)) ?_
  refine Bod.ic 1 (by decide) dc_56_58 ?_
  refine Bod.addN (dp + 1) (by omega) dc_56_59 ?_
  refine Bod.virt (r := []) dc_56_60 kr_56_226 ⟨Or.inl rfl, ow_84, cl_10⟩ (by rw [np_84]; rfl) (by rw [np_84]; rfl) (ob_of (mk_43 _)) (Nat.le_of_ble_eq_true rfl) (c4  ) ?_
  show Bod _ _ _ _ [] _ _ _
  refine Bod.aldnG dc_56_63 (by repeat (first | exact q0 | exact sm_get_p1 | exact sm_get_p2e | refine sm_get_p1m (by decide) (by decide) ?_ | refine sm_get_p1n (by decide) rfl ?_ | refine sm_get_p2n (by decide) (by decide) rfl ?_)) ?_
  refine Bod.ildnG dc_56_64 (by repeat (first | exact q2 | exact sm_get_p1 | exact sm_get_p2e | refine sm_get_p1m (by decide) (by decide) ?_ | refine sm_get_p1n (by decide) rfl ?_ | refine sm_get_p2n (by decide) (by decide) rfl ?_)) ?_
  refine Bod.virt (r := []) dc_56_65 kr_56_89 ⟨Or.inl rfl, ow_52, cl_10⟩ (by rw [np_52]; rfl) (by rw [np_52]; rfl) (ob_of (mk_43 _)) (Nat.le_of_ble_eq_true rfl) (c5  ) ?_
  show Bod _ _ _ _ [_] _ _ _
  refine Bod.ifT dc_56_68 rfl (k1_eq_T (k_eq 0 0 rfl rfl (by omega))) ?_
  refine Bod.ic 0 (by decide) dc_56_87 ?_
  refine Bod.ist dc_56_88 (by rw [ml_56]; exact Nat.le_of_ble_eq_true rfl) ?_
  refine Bod.aldnG dc_56_90 (by repeat (first | exact q0 | exact sm_get_p1 | exact sm_get_p2e | refine sm_get_p1m (by decide) (by decide) ?_ | refine sm_get_p1n (by decide) rfl ?_ | refine sm_get_p2n (by decide) (by decide) rfl ?_)) ?_
  refine Bod.get dc_56_91 fr_56_15 (mk_43 _) rfl ?_
  refine Bod.ic 4 (by decide) dc_56_94 ?_
  refine Bod.ildnG dc_56_95 (by repeat (first | exact q3 | exact sm_get_p1 | exact sm_get_p2e | refine sm_get_p1m (by decide) (by decide) ?_ | refine sm_get_p1n (by decide) rfl ?_ | refine sm_get_p2n (by decide) (by decide) rfl ?_)) ?_
  refine Bod.virt (r := []) dc_56_96 kr_56_116 ⟨Or.inr rfl, ow_54, cl_7⟩ (by rw [np_54]; rfl) (by rw [np_54]; rfl) (ob_of (mk_23 _)) (Nat.le_of_ble_eq_true rfl) (c6  ) ?_
  show Bod _ _ _ _ [_] _ _ _
  refine Bod.istn dc_56_99 (by rw [ml_56]; exact Nat.le_of_ble_eq_true rfl) ?_
  refine Bod.aldnG dc_56_100 (by repeat (first | exact q0 | exact sm_get_p1 | exact sm_get_p2e | refine sm_get_p1m (by decide) (by decide) ?_ | refine sm_get_p1n (by decide) rfl ?_ | refine sm_get_p2n (by decide) (by decide) rfl ?_)) ?_
  refine Bod.get dc_56_101 fr_56_15 (mk_43 _) rfl ?_
  refine Bod.ildG dc_56_104 (by repeat (first | exact q0 | exact sm_get_p1 | exact sm_get_p2e | refine sm_get_p1m (by decide) (by decide) ?_ | refine sm_get_p1n (by decide) rfl ?_ | refine sm_get_p2n (by decide) (by decide) rfl ?_)) ?_
  refine Bod.ic 1 (by decide) dc_56_106 ?_
  refine Bod.addN (a + 1) (by omega) dc_56_107 ?_
  refine Bod.aldnG dc_56_108 (by repeat (first | exact q0 | exact sm_get_p1 | exact sm_get_p2e | refine sm_get_p1m (by decide) (by decide) ?_ | refine sm_get_p1n (by decide) rfl ?_ | refine sm_get_p2n (by decide) (by decide) rfl ?_)) ?_
  refine Bod.get dc_56_109 fr_56_15 (mk_43 _) rfl ?_
  refine Bod.get dc_56_112 fr_56_69 (mk_23 _) rfl ?_
  refine Bod.eqI (nI top) (by first | (simp (disch := omega) only [rI, rIe, rA, rIA, rLA, rJA, rVI, rQI, rVA, rQA, upd_at,  rAI, rLI, rJI, nI_add, pk_sub, kc_0, kc_1, kc_2, kc_3, kc_4, kc_5, reduceIte, Nat.reduceEqDiff, Nat.add_zero, rI_hold, rI_hold, rL_hold, htop]; done) | (simp (disch := omega) only [rI, rIe, rA, rIA, rLA, rJA, rVI, rQI, rVA, rQA, upd_at,  rAI, rLI, rJI, nI_add, pk_sub, kc_0, kc_1, kc_2, kc_3, kc_4, kc_5, reduceIte, Nat.reduceEqDiff, Nat.add_zero, rI_hold, rI_hold, rL_hold, htop]; exact congrArg nI (by omega))) ?_
  refine Bod.virt (r := []) dc_56_115 kr_56_201 ⟨Or.inr rfl, ow_83, cl_7⟩ (by rw [np_83]; rfl) (by rw [np_83]; rfl) (ob_of (mk_23 _)) (Nat.le_of_ble_eq_true rfl) (c7  ) ?_
  show Bod _ _ _ _ [] _ _ _
  refine Bod.incN (t + 1) (by rw [kc_1, nI_add]) dc_56_118 (by rw [ml_56]; exact Nat.le_of_ble_eq_true rfl) (by repeat (first | exact q5 | exact sm_get_p1 | exact sm_get_p2e | refine sm_get_p1m (by decide) (by decide) ?_ | refine sm_get_p1n (by decide) rfl ?_ | refine sm_get_p2n (by decide) (by decide) rfl ?_)) ?_
  refine Bod.go dc_56_121 rfl ?_
  exact hB _ (by repeat (first | exact q0 | exact sm_get_p1 | exact sm_get_p2e | refine sm_get_p1m (by decide) (by decide) ?_ | refine sm_get_p1n (by decide) rfl ?_ | refine sm_get_p2n (by decide) (by decide) rfl ?_)) (by repeat (first | exact q1 | exact sm_get_p1 | exact sm_get_p2e | refine sm_get_p1m (by decide) (by decide) ?_ | refine sm_get_p1n (by decide) rfl ?_ | refine sm_get_p2n (by decide) (by decide) rfl ?_)) (by repeat (first | exact q2 | exact sm_get_p1 | exact sm_get_p2e | refine sm_get_p1m (by decide) (by decide) ?_ | refine sm_get_p1n (by decide) rfl ?_ | refine sm_get_p2n (by decide) (by decide) rfl ?_)) (by repeat (first | exact q0 | exact sm_get_p1 | exact sm_get_p2e | refine sm_get_p1m (by decide) (by decide) ?_ | refine sm_get_p1n (by decide) rfl ?_ | refine sm_get_p2n (by decide) (by decide) rfl ?_)) (by repeat (first | exact q0 | exact sm_get_p1 | exact sm_get_p2e | refine sm_get_p1m (by decide) (by decide) ?_ | refine sm_get_p1n (by decide) rfl ?_ | refine sm_get_p2n (by decide) (by decide) rfl ?_)) (by repeat (first | exact q0 | exact sm_get_p1 | exact sm_get_p2e | refine sm_get_p1m (by decide) (by decide) ?_ | refine sm_get_p1n (by decide) rfl ?_ | refine sm_get_p2n (by decide) (by decide) rfl ?_))
theorem cLpB_1 {d : Nat} {S : cS} {i : Nat} {dp : Nat} {bk : Nat} {xt : Nat} {lt : Nat} {tr : Nat} {S1 : cS} {S2 : cS} {a : Nat} {S3 : cS} (mi : i < 2 ^ 20) (mdp : dp < 2 ^ 20) (mbk : bk < 2 ^ 20) (mxt : xt < 2 ^ 20) (hlt : sI S 4311 = nI lt) (mlt : lt < 2 ^ 20) (htr : sI (wI 4310 (nI xt) (wI 4309 (nI bk) S)) 4308 = nI tr) (mtr : tr < 2 ^ 20) (c1 : Ans (d + 8) 84 [.ref 43, .int (nI i), .int (nI (dp + 1))] (wI 4311 (nI tr) (wI 4310 (nI xt) (wI 4309 (nI bk) S))) none S1) (ma : a < 2 ^ 20) (c2 : Ans (d + 8) 54 [.ref 23, .int (nI 4), .int (nI bk)] S1 (some (.int (nI a))) S2) (c3 : Ans (d + 8) 87 [.ref 43, .int (sI S2 4310)] S2 none S3) : Bod (d + 8) 90 0 [(0, .ref 43), (1, .int (nI i)), (2, .int (nI dp)), (3, .int (nI bk)), (4, .int (nI xt))] [] S none (wI 4311 (nI lt) (wI 4310 (sI S 4310) (wI 4309 (sI S 4309) S3))) := by
  refine Bod.go dc_90_0 rfl ?_
  refine Bod.get dc_90_1 fr_90_49 (mk_43 _) rfl ?_
  refine Bod.ist dc_90_4 (by rw [ml_90]; exact Nat.le_of_ble_eq_true rfl) ?_
  refine Bod.go dc_90_6 rfl ?_
  refine Bod.get dc_90_7 fr_90_217 (mk_43 _) rfl ?_
  refine Bod.ist dc_90_10 (by rw [ml_90]; exact Nat.le_of_ble_eq_true rfl) ?_
  refine Bod.go dc_90_12 rfl ?_
  refine Bod.get dc_90_13 fr_90_214 (mk_43 _) rfl ?_
  refine Bod.eqI (nI lt) (by first | assumption | rfl | exact congrArg nI (by omega) | (simp (disch := omega) only [rI, rIe, rA, rIA, rLA, rJA, rVI, rQI, rVA, rQA, upd_at,  rAI, rLI, rJI, nI_add, pk_sub, kc_0, kc_1, kc_2, kc_3, kc_4, kc_5, reduceIte, Nat.reduceEqDiff, Nat.add_zero, rI_hold, rI_hold, rL_hold, hlt]; done)) ?_
  refine Bod.ist dc_90_16 (by rw [ml_90]; exact Nat.le_of_ble_eq_true rfl) ?_
  refine Bod.go dc_90_18 rfl ?_
  refine Bod.go dc_90_19 rfl ?_
  refine Bod.put dc_90_20 fr_90_49 (mk_43 _) (Nat.le_of_ble_eq_true rfl) pf_10_9 (st_4309 _ _) (mu_I _ _ _) ?_
  refine Bod.go dc_90_23 rfl ?_
  refine Bod.go dc_90_24 rfl ?_
  refine Bod.put dc_90_26 fr_90_217 (mk_43 _) (Nat.le_of_ble_eq_true rfl) pf_10_10 (st_4310 _ _) (mu_I _ _ _) ?_
  refine Bod.go dc_90_29 rfl ?_
  refine Bod.go dc_90_30 rfl ?_
  refine Bod.get dc_90_31 fr_90_46 (mk_43 _) rfl ?_
  refine Bod.eqI (nI tr) (by first | (simp (disch := omega) only [rI, rIe, rA, rIA, rLA, rJA, rVI, rQI, rVA, rQA, upd_at,  rAI, rLI, rJI, nI_add, pk_sub, kc_0, kc_1, kc_2, kc_3, kc_4, kc_5, reduceIte, Nat.reduceEqDiff, Nat.add_zero, rI_hold, rI_hold, rL_hold, hlt, htr]; done) | (simp (disch := omega) only [rI, rIe, rA, rIA, rLA, rJA, rVI, rQI, rVA, rQA, upd_at,  rAI, rLI, rJI, nI_add, pk_sub, kc_0, kc_1, kc_2, kc_3, kc_4, kc_5, reduceIte, Nat.reduceEqDiff, Nat.add_zero, rI_hold, rI_hold, rL_hold, hlt, htr]; exact congrArg nI (by omega))) ?_
  refine Bod.put dc_90_34 fr_90_214 (mk_43 _) (Nat.le_of_ble_eq_true rfl) pf_10_11 (st_4311 _ _) (mu_I _ _ _) ?_
  refine Bod.go dc_90_37 rfl ?_
  refine Bod.go dc_90_38 rfl ?_
  refine Bod.go dc_90_39 rfl ?_
  refine Bod.ic 1 (by decide) dc_90_40 ?_
  refine Bod.addN (dp + 1) (by omega) dc_90_41 ?_
  refine Bod.virt (r := []) dc_90_42 kr_90_226 ⟨Or.inl rfl, ow_84, cl_10⟩ (by rw [np_84]; rfl) (by rw [np_84]; rfl) (ob_of (mk_43 _)) (Nat.le_of_ble_eq_true rfl) (c1  ) ?_
  show Bod _ _ _ _ [] _ _ _
  refine Bod.go dc_90_45 rfl ?_
  refine Bod.get dc_90_46 fr_90_15 (mk_43 _) rfl ?_
  refine Bod.ic 4 (by decide) dc_90_49 ?_
  refine Bod.go dc_90_50 rfl ?_
  refine Bod.virt (r := []) dc_90_51 kr_90_116 ⟨Or.inr rfl, ow_54, cl_7⟩ (by rw [np_54]; rfl) (by rw [np_54]; rfl) (ob_of (mk_23 _)) (Nat.le_of_ble_eq_true rfl) (c2  ) ?_
  show Bod _ _ _ _ [_] _ _ _
  refine Bod.go dc_90_54 rfl ?_
  refine Bod.go dc_90_55 rfl ?_
  refine Bod.go dc_90_56 rfl ?_
  refine Bod.get dc_90_57 fr_90_217 (mk_43 _) rfl ?_
  refine Bod.virt (r := []) dc_90_60 kr_90_229 ⟨Or.inl rfl, ow_87, cl_10⟩ (by rw [np_87]; rfl) (by rw [np_87]; rfl) (ob_of (mk_43 _)) (Nat.le_of_ble_eq_true rfl) (c3  ) ?_
  show Bod _ _ _ _ [] _ _ _
  refine Bod.go dc_90_63 rfl ?_
  refine Bod.go dc_90_64 rfl ?_
  refine Bod.put dc_90_66 fr_90_49 (mk_43 _) (Nat.le_of_ble_eq_true rfl) pf_10_9 (st_4309 _ _) (mu_I _ _ _) ?_
  refine Bod.go dc_90_69 rfl ?_
  refine Bod.go dc_90_70 rfl ?_
  refine Bod.put dc_90_72 fr_90_217 (mk_43 _) (Nat.le_of_ble_eq_true rfl) pf_10_10 (st_4310 _ _) (mu_I _ _ _) ?_
  refine Bod.go dc_90_75 rfl ?_
  refine Bod.go dc_90_76 rfl ?_
  refine Bod.put dc_90_78 fr_90_214 (mk_43 _) (Nat.le_of_ble_eq_true rfl) pf_10_11 (st_4311 _ _) (mu_I _ _ _) ?_
  exact Bod.retV dc_90_81 rt_90
theorem cFun_1 {d : Nat} {S : cS} {dp : Nat} {ind : Nat} {S1 : cS} {S2 : cS} {a : Nat} {S3 : cS} {a1 : Nat} {S4 : cS} {a2 : Nat} {S5 : cS} {a3 : Nat} {S6 : cS} {tr : Nat} {S7 : cS} {S8 : cS} {S9 : cS} {a4 : Nat} {S10 : cS} {top : Nat} {S11 : cS} {S12 : cS} {a5 : Nat} (mdp : dp < 2 ^ 20) (hind : sI S 3108 = nI ind) (mind : ind < 2 ^ 20) (c1 : Ans (d + 8) 75 [.ref 31, .int (nI 46)] S none S1) (ma : a < 2 ^ 20) (c2 : Ans (d + 8) 92 [.ref 43] S1 (some (.int (nI a))) S2) (ma1 : a1 < 2 ^ 20) (c3 : Ans (d + 8) 54 [.ref 23, .int (nI 4), .int (nI 0)] S2 (some (.int (nI a1))) S3) (ma2 : a2 < 2 ^ 20) (c4 : Ans (d + 8) 98 [.ref 23, .int (nI a)] S3 (some (.int (nI a2))) S4) (ma3 : a3 < 2 ^ 20) (c5 : Ans (d + 8) 99 [.ref 32, .int (nI a2)] S4 (some (.int (nI a3))) S5) (c6 : Ans (d + 8) 100 [.ref 43, .int (nI a2)] S5 none S6) (htr : sI S6 4308 = nI tr) (mtr : tr < 2 ^ 20) (c7 : Ans (d + 8) 84 [.ref 43, .int (nI ind), .int (nI (dp + 1))] (wI 4308 (nI 0) (wI 4309 (Int32.ofInt (-1)) S6)) none S7) (c8 : Ans (d + 8) 73 [.ref 23, .long ((1152921504606846976)), .long 0] S7 none S8) (ma4 : a4 < 2 ^ 20) (c9 : Ans (d + 8) 71 [.ref 23, .int (nI 8)] S8 (some (.int (nI a4))) S9) (c10 : Ans (d + 8) 104 [.ref 32, .int (nI a3)] (wI 4308 (nI tr) (wI 4309 (sI S6 4309) S9)) none S10) (htop : sI S10 2307 = nI top) (mtop : top < 2 ^ 20) (c11 : Ans (d + 8) 83 [.ref 23, .int (nI (a1 + 1)), .int (nI top)] S10 none S11) (ma5 : a5 < 2 ^ 20) (c12 : Ans (d + 8) 54 [.ref 23, .int (nI 22), .int (nI a2)] S11 (some (.int (nI a5))) S12) : Bod (d + 8) 97 0 [(0, .ref 43), (1, .int (nI dp))] [] S (some (.int (nI a))) (S12) := by
  refine Bod.go dc_97_0 rfl ?_
  refine Bod.get dc_97_1 fr_97_9 (mk_43 _) rfl ?_
  refine Bod.get dc_97_4 fr_97_96 (mk_31 _) rfl ?_
  refine Bod.eqI (nI ind) (by first | assumption | rfl | exact congrArg nI (by omega) | (simp (disch := omega) only [rI, rIe, rA, rIA, rLA, rJA, rVI, rQI, rVA, rQA, upd_at,  rAI, rLI, rJI, nI_add, pk_sub, kc_0, kc_1, kc_2, kc_3, kc_4, kc_5, reduceIte, Nat.reduceEqDiff, Nat.add_zero, rI_hold, rI_hold, rL_hold, hind]; done)) ?_
  refine Bod.istn dc_97_7 (by rw [ml_97]; exact Nat.le_of_ble_eq_true rfl) ?_
  refine Bod.go dc_97_8 rfl ?_
  refine Bod.get dc_97_9 fr_97_9 (mk_43 _) rfl ?_
  refine Bod.bip 46 (by decide) dc_97_12 ?_
  refine Bod.virt (r := []) dc_97_14 kr_97_107 ⟨Or.inr rfl, ow_75, cl_3⟩ (by rw [np_75]; rfl) (by rw [np_75]; rfl) (ob_of (mk_31 _)) (Nat.le_of_ble_eq_true rfl) (c1  ) ?_
  show Bod _ _ _ _ [] _ _ _
  refine Bod.go dc_97_17 rfl ?_
  refine Bod.virt (r := []) dc_97_18 kr_97_220 ⟨Or.inl rfl, ow_92, cl_10⟩ (by rw [np_92]; rfl) (by rw [np_92]; rfl) (ob_of (mk_43 _)) (Nat.le_of_ble_eq_true rfl) (c2  ) ?_
  show Bod _ _ _ _ [_] _ _ _
  refine Bod.istn dc_97_21 (by rw [ml_97]; exact Nat.le_of_ble_eq_true rfl) ?_
  refine Bod.go dc_97_22 rfl ?_
  refine Bod.get dc_97_23 fr_97_15 (mk_43 _) rfl ?_
  refine Bod.ic 4 (by decide) dc_97_26 ?_
  refine Bod.ic 0 (by decide) dc_97_27 ?_
  refine Bod.virt (r := []) dc_97_28 kr_97_116 ⟨Or.inr rfl, ow_54, cl_7⟩ (by rw [np_54]; rfl) (by rw [np_54]; rfl) (ob_of (mk_23 _)) (Nat.le_of_ble_eq_true rfl) (c3  ) ?_
  show Bod _ _ _ _ [_] _ _ _
  refine Bod.ist dc_97_31 (by rw [ml_97]; exact Nat.le_of_ble_eq_true rfl) ?_
  refine Bod.go dc_97_33 rfl ?_
  refine Bod.get dc_97_34 fr_97_15 (mk_43 _) rfl ?_
  refine Bod.go dc_97_37 rfl ?_
  refine Bod.virt (r := []) dc_97_38 kr_97_236 ⟨Or.inr rfl, ow_98, cl_7⟩ (by rw [np_98]; rfl) (by rw [np_98]; rfl) (ob_of (mk_23 _)) (Nat.le_of_ble_eq_true rfl) (c4  ) ?_
  show Bod _ _ _ _ [_] _ _ _
  refine Bod.ist dc_97_41 (by rw [ml_97]; exact Nat.le_of_ble_eq_true rfl) ?_
  refine Bod.go dc_97_43 rfl ?_
  refine Bod.get dc_97_44 fr_97_19 (mk_43 _) rfl ?_
  refine Bod.go dc_97_47 rfl ?_
  refine Bod.virt (r := []) dc_97_49 kr_97_239 ⟨Or.inr rfl, ow_99, cl_8⟩ (by rw [np_99]; rfl) (by rw [np_99]; rfl) (ob_of (mk_32 _)) (Nat.le_of_ble_eq_true rfl) (c5  ) ?_
  show Bod _ _ _ _ [_] _ _ _
  refine Bod.ist dc_97_52 (by rw [ml_97]; exact Nat.le_of_ble_eq_true rfl) ?_
  refine Bod.go dc_97_54 rfl ?_
  refine Bod.go dc_97_55 rfl ?_
  refine Bod.virt (r := []) dc_97_57 kr_97_242 ⟨Or.inl rfl, ow_100, cl_10⟩ (by rw [np_100]; rfl) (by rw [np_100]; rfl) (ob_of (mk_43 _)) (Nat.le_of_ble_eq_true rfl) (c6  ) ?_
  show Bod _ _ _ _ [] _ _ _
  refine Bod.go dc_97_60 rfl ?_
  refine Bod.get dc_97_61 fr_97_49 (mk_43 _) rfl ?_
  refine Bod.ist dc_97_64 (by rw [ml_97]; exact Nat.le_of_ble_eq_true rfl) ?_
  refine Bod.go dc_97_66 rfl ?_
  refine Bod.get dc_97_67 fr_97_46 (mk_43 _) rfl ?_
  refine Bod.eqI (nI tr) (by first | (simp (disch := omega) only [rI, rIe, rA, rIA, rLA, rJA, rVI, rQI, rVA, rQA, upd_at,  rAI, rLI, rJI, nI_add, pk_sub, kc_0, kc_1, kc_2, kc_3, kc_4, kc_5, reduceIte, Nat.reduceEqDiff, Nat.add_zero, rI_hold, rI_hold, rL_hold, hind, htr]; done) | (simp (disch := omega) only [rI, rIe, rA, rIA, rLA, rJA, rVI, rQI, rVA, rQA, upd_at,  rAI, rLI, rJI, nI_add, pk_sub, kc_0, kc_1, kc_2, kc_3, kc_4, kc_5, reduceIte, Nat.reduceEqDiff, Nat.add_zero, rI_hold, rI_hold, rL_hold, hind, htr]; exact congrArg nI (by omega))) ?_
  refine Bod.ist dc_97_70 (by rw [ml_97]; exact Nat.le_of_ble_eq_true rfl) ?_
  refine Bod.go dc_97_72 rfl ?_
  refine Bod.go dc_97_73 rfl ?_
  refine Bod.put dc_97_74 fr_97_49 (mk_43 _) (Nat.le_of_ble_eq_true rfl) pf_10_9 (st_4309 _ _) (mu_I _ _ _) ?_
  refine Bod.go dc_97_77 rfl ?_
  refine Bod.ic 0 (by decide) dc_97_78 ?_
  refine Bod.put dc_97_79 fr_97_46 (mk_43 _) (Nat.le_of_ble_eq_true rfl) pf_10_8 (st_4308 _ _) (mu_I _ _ _) ?_
  refine Bod.go dc_97_82 rfl ?_
  refine Bod.go dc_97_83 rfl ?_
  refine Bod.go dc_97_84 rfl ?_
  refine Bod.ic 1 (by decide) dc_97_85 ?_
  refine Bod.addN (dp + 1) (by omega) dc_97_86 ?_
  refine Bod.virt (r := []) dc_97_87 kr_97_226 ⟨Or.inl rfl, ow_84, cl_10⟩ (by rw [np_84]; rfl) (by rw [np_84]; rfl) (ob_of (mk_43 _)) (Nat.le_of_ble_eq_true rfl) (c7  ) ?_
  show Bod _ _ _ _ [] _ _ _
  refine Bod.go dc_97_90 rfl ?_
  refine Bod.get dc_97_91 fr_97_15 (mk_43 _) rfl ?_
  refine Bod.ldc2 dc_97_94 cj_97_208 ?_
  refine Bod.go dc_97_97 rfl ?_
  refine Bod.virt (r := []) dc_97_98 kr_97_210 ⟨Or.inr rfl, ow_73, cl_7⟩ (by rw [np_73]; rfl) (by rw [np_73]; rfl) (ob_of (mk_23 _)) (Nat.le_of_ble_eq_true rfl) (c8  ) ?_
  show Bod _ _ _ _ [] _ _ _
  refine Bod.go dc_97_101 rfl ?_
  refine Bod.get dc_97_102 fr_97_15 (mk_43 _) rfl ?_
  refine Bod.bip 8 (by decide) dc_97_105 ?_
  refine Bod.virt (r := []) dc_97_107 kr_97_72 ⟨Or.inr rfl, ow_71, cl_7⟩ (by rw [np_71]; rfl) (by rw [np_71]; rfl) (ob_of (mk_23 _)) (Nat.le_of_ble_eq_true rfl) (c9  ) ?_
  show Bod _ _ _ _ [_] _ _ _
  refine Bod.go dc_97_110 rfl ?_
  refine Bod.go dc_97_111 rfl ?_
  refine Bod.go dc_97_112 rfl ?_
  refine Bod.put dc_97_114 fr_97_49 (mk_43 _) (Nat.le_of_ble_eq_true rfl) pf_10_9 (st_4309 _ _) (mu_I _ _ _) ?_
  refine Bod.go dc_97_117 rfl ?_
  refine Bod.go dc_97_118 rfl ?_
  refine Bod.put dc_97_120 fr_97_46 (mk_43 _) (Nat.le_of_ble_eq_true rfl) pf_10_8 (st_4308 _ _) (mu_I _ _ _) ?_
  refine Bod.go dc_97_123 rfl ?_
  refine Bod.get dc_97_124 fr_97_19 (mk_43 _) rfl ?_
  refine Bod.go dc_97_127 rfl ?_
  refine Bod.virt (r := []) dc_97_129 kr_97_245 ⟨Or.inr rfl, ow_104, cl_8⟩ (by rw [np_104]; rfl) (by rw [np_104]; rfl) (ob_of (mk_32 _)) (Nat.le_of_ble_eq_true rfl) (c10  ) ?_
  show Bod _ _ _ _ [] _ _ _
  refine Bod.go dc_97_132 rfl ?_
  refine Bod.get dc_97_133 fr_97_15 (mk_43 _) rfl ?_
  refine Bod.go dc_97_136 rfl ?_
  refine Bod.ic 1 (by decide) dc_97_138 ?_
  refine Bod.addN (a1 + 1) (by omega) dc_97_139 ?_
  refine Bod.go dc_97_140 rfl ?_
  refine Bod.get dc_97_141 fr_97_15 (mk_43 _) rfl ?_
  refine Bod.get dc_97_144 fr_97_69 (mk_23 _) rfl ?_
  refine Bod.eqI (nI top) (by first | (simp (disch := omega) only [rI, rIe, rA, rIA, rLA, rJA, rVI, rQI, rVA, rQA, upd_at,  rAI, rLI, rJI, nI_add, pk_sub, kc_0, kc_1, kc_2, kc_3, kc_4, kc_5, reduceIte, Nat.reduceEqDiff, Nat.add_zero, rI_hold, rI_hold, rL_hold, hind, htr, htop]; done) | (simp (disch := omega) only [rI, rIe, rA, rIA, rLA, rJA, rVI, rQI, rVA, rQA, upd_at,  rAI, rLI, rJI, nI_add, pk_sub, kc_0, kc_1, kc_2, kc_3, kc_4, kc_5, reduceIte, Nat.reduceEqDiff, Nat.add_zero, rI_hold, rI_hold, rL_hold, hind, htr, htop]; exact congrArg nI (by omega))) ?_
  refine Bod.virt (r := []) dc_97_147 kr_97_201 ⟨Or.inr rfl, ow_83, cl_7⟩ (by rw [np_83]; rfl) (by rw [np_83]; rfl) (ob_of (mk_23 _)) (Nat.le_of_ble_eq_true rfl) (c11  ) ?_
  show Bod _ _ _ _ [] _ _ _
  refine Bod.go dc_97_150 rfl ?_
  refine Bod.get dc_97_151 fr_97_15 (mk_43 _) rfl ?_
  refine Bod.bip 22 (by decide) dc_97_154 ?_
  refine Bod.go dc_97_156 rfl ?_
  refine Bod.virt (r := []) dc_97_158 kr_97_116 ⟨Or.inr rfl, ow_54, cl_7⟩ (by rw [np_54]; rfl) (by rw [np_54]; rfl) (ob_of (mk_23 _)) (Nat.le_of_ble_eq_true rfl) (c12  ) ?_
  show Bod _ _ _ _ [_] _ _ _
  refine Bod.go dc_97_161 rfl ?_
  refine Bod.go dc_97_162 rfl ?_
  exact Bod.retI dc_97_163 rt_97
theorem cPs0_1 {d : Nat} {S Sf : cS} {v : Option Value} {nu : Nat} {S1 : cS} {tk : Nat} (mnu : nu < 2 ^ 20) (c1 : Ans (d + 8) 75 [.ref 31, .int (nI 6)] S none S1) (htk : sI S1 3105 = nI tk) (mtk : tk < 2 ^ 20) (b1 : tk = 7) (hB : ∀ lv1 : sm_L, sm_get lv1 0 = some (.ref 43) → sm_get lv1 1 = some (.int (nI nu)) → sm_get lv1 2 = some (.int (nI 0)) → sm_get lv1 3 = some (.int (nI 0)) → Bod (d + 8) 100 29 lv1 [] (S1) v Sf) : Bod (d + 8) 100 0 [(0, .ref 43), (1, .int (nI nu))] [] S v Sf := by
  refine Bod.go dc_100_0 rfl ?_
  refine Bod.get dc_100_1 fr_100_9 (mk_43 _) rfl ?_
  refine Bod.bip 6 (by decide) dc_100_4 ?_
  refine Bod.virt (r := []) dc_100_6 kr_100_107 ⟨Or.inr rfl, ow_75, cl_3⟩ (by rw [np_75]; rfl) (by rw [np_75]; rfl) (ob_of (mk_31 _)) (Nat.le_of_ble_eq_true rfl) (c1  ) ?_
  show Bod _ _ _ _ [] _ _ _
  refine Bod.go dc_100_9 rfl ?_
  refine Bod.get dc_100_10 fr_100_9 (mk_43 _) rfl ?_
  refine Bod.get dc_100_13 fr_100_79 (mk_31 _) rfl ?_
  refine Bod.eqI (nI tk) (by first | (simp (disch := omega) only [rI, rIe, rA, rIA, rLA, rJA, rVI, rQI, rVA, rQA, upd_at,  rAI, rLI, rJI, nI_add, pk_sub, kc_0, kc_1, kc_2, kc_3, kc_4, kc_5, reduceIte, Nat.reduceEqDiff, Nat.add_zero, rI_hold, rI_hold, rL_hold, htk]; done) | (simp (disch := omega) only [rI, rIe, rA, rIA, rLA, rJA, rVI, rQI, rVA, rQA, upd_at,  rAI, rLI, rJI, nI_add, pk_sub, kc_0, kc_1, kc_2, kc_3, kc_4, kc_5, reduceIte, Nat.reduceEqDiff, Nat.add_zero, rI_hold, rI_hold, rL_hold, htk]; exact congrArg nI (by omega))) ?_
  refine Bod.bip 7 (by decide) dc_100_16 ?_
  refine Bod.icT dc_100_18 rfl (k2_eq_T (k_eq tk 7 rfl rfl (by omega))) ?_
  refine Bod.ic 0 (by decide) dc_100_25 ?_
  refine Bod.istn dc_100_26 (by rw [ml_100]; exact Nat.le_of_ble_eq_true rfl) ?_
  refine Bod.ic 0 (by decide) dc_100_27 ?_
  refine Bod.istn dc_100_28 (by rw [ml_100]; exact Nat.le_of_ble_eq_true rfl) ?_
  exact hB _ (by first | rfl | exact (by repeat (first | exact rfl | exact sm_get_p1 | exact sm_get_p2e | refine sm_get_p1m (by decide) (by decide) ?_ | refine sm_get_p1n (by decide) rfl ?_ | refine sm_get_p2n (by decide) (by decide) rfl ?_))) (by first | rfl | exact (by repeat (first | exact rfl | exact sm_get_p1 | exact sm_get_p2e | refine sm_get_p1m (by decide) (by decide) ?_ | refine sm_get_p1n (by decide) rfl ?_ | refine sm_get_p2n (by decide) (by decide) rfl ?_))) (by first | rfl | exact (by repeat (first | exact rfl | exact sm_get_p1 | exact sm_get_p2e | refine sm_get_p1m (by decide) (by decide) ?_ | refine sm_get_p1n (by decide) rfl ?_ | refine sm_get_p2n (by decide) (by decide) rfl ?_))) (by first | rfl | exact (by repeat (first | exact rfl | exact sm_get_p1 | exact sm_get_p2e | refine sm_get_p1m (by decide) (by decide) ?_ | refine sm_get_p1n (by decide) rfl ?_ | refine sm_get_p2n (by decide) (by decide) rfl ?_)))
theorem cPs0_2 {d : Nat} {S Sf : cS} {v : Option Value} {nu : Nat} {S1 : cS} {tk : Nat} (mnu : nu < 2 ^ 20) (c1 : Ans (d + 8) 75 [.ref 31, .int (nI 6)] S none S1) (htk : sI S1 3105 = nI tk) (mtk : tk < 2 ^ 20) (b1 : tk ≠ 7) (hB : ∀ lv1 : sm_L, sm_get lv1 0 = some (.ref 43) → sm_get lv1 1 = some (.int (nI nu)) → sm_get lv1 2 = some (.int (nI 1)) → sm_get lv1 3 = some (.int (nI 0)) → Bod (d + 8) 100 29 lv1 [] (S1) v Sf) : Bod (d + 8) 100 0 [(0, .ref 43), (1, .int (nI nu))] [] S v Sf := by
  refine Bod.go dc_100_0 rfl ?_
  refine Bod.get dc_100_1 fr_100_9 (mk_43 _) rfl ?_
  refine Bod.bip 6 (by decide) dc_100_4 ?_
  refine Bod.virt (r := []) dc_100_6 kr_100_107 ⟨Or.inr rfl, ow_75, cl_3⟩ (by rw [np_75]; rfl) (by rw [np_75]; rfl) (ob_of (mk_31 _)) (Nat.le_of_ble_eq_true rfl) (c1  ) ?_
  show Bod _ _ _ _ [] _ _ _
  refine Bod.go dc_100_9 rfl ?_
  refine Bod.get dc_100_10 fr_100_9 (mk_43 _) rfl ?_
  refine Bod.get dc_100_13 fr_100_79 (mk_31 _) rfl ?_
  refine Bod.eqI (nI tk) (by first | (simp (disch := omega) only [rI, rIe, rA, rIA, rLA, rJA, rVI, rQI, rVA, rQA, upd_at,  rAI, rLI, rJI, nI_add, pk_sub, kc_0, kc_1, kc_2, kc_3, kc_4, kc_5, reduceIte, Nat.reduceEqDiff, Nat.add_zero, rI_hold, rI_hold, rL_hold, htk]; done) | (simp (disch := omega) only [rI, rIe, rA, rIA, rLA, rJA, rVI, rQI, rVA, rQA, upd_at,  rAI, rLI, rJI, nI_add, pk_sub, kc_0, kc_1, kc_2, kc_3, kc_4, kc_5, reduceIte, Nat.reduceEqDiff, Nat.add_zero, rI_hold, rI_hold, rL_hold, htk]; exact congrArg nI (by omega))) ?_
  refine Bod.bip 7 (by decide) dc_100_16 ?_
  refine Bod.icF dc_100_18 rfl (k2_eq_F (k_ne tk 7 rfl rfl (by omega) (by omega) (by omega))) ?_
  refine Bod.ic 1 (by decide) dc_100_21 ?_
  refine Bod.go dc_100_22 rfl ?_
  refine Bod.istn dc_100_26 (by rw [ml_100]; exact Nat.le_of_ble_eq_true rfl) ?_
  refine Bod.ic 0 (by decide) dc_100_27 ?_
  refine Bod.istn dc_100_28 (by rw [ml_100]; exact Nat.le_of_ble_eq_true rfl) ?_
  exact hB _ (by first | rfl | exact (by repeat (first | exact rfl | exact sm_get_p1 | exact sm_get_p2e | refine sm_get_p1m (by decide) (by decide) ?_ | refine sm_get_p1n (by decide) rfl ?_ | refine sm_get_p2n (by decide) (by decide) rfl ?_))) (by first | rfl | exact (by repeat (first | exact rfl | exact sm_get_p1 | exact sm_get_p2e | refine sm_get_p1m (by decide) (by decide) ?_ | refine sm_get_p1n (by decide) rfl ?_ | refine sm_get_p2n (by decide) (by decide) rfl ?_))) (by first | rfl | exact (by repeat (first | exact rfl | exact sm_get_p1 | exact sm_get_p2e | refine sm_get_p1m (by decide) (by decide) ?_ | refine sm_get_p1n (by decide) rfl ?_ | refine sm_get_p2n (by decide) (by decide) rfl ?_))) (by first | rfl | exact (by repeat (first | exact rfl | exact sm_get_p1 | exact sm_get_p2e | refine sm_get_p1m (by decide) (by decide) ?_ | refine sm_get_p1n (by decide) rfl ?_ | refine sm_get_p2n (by decide) (by decide) rfl ?_)))
theorem cPsL_1 {d : Nat} {S : cS} {lv : sm_L} {fd : Nat} {m : Nat} {nu : Nat} {S1 : cS} (q3 : sm_get lv 3 = some (.int (nI fd))) (q2 : sm_get lv 2 = some (.int (nI m))) (q0 : sm_get lv 0 = some (.ref 43)) (q1 : sm_get lv 1 = some (.int (nI nu))) (mfd : fd < 2 ^ 20) (mm : m < 2 ^ 20) (mnu : nu < 2 ^ 20) (b1 : m = 0) (b2 : fd ≤ 8) (c1 : Ans (d + 8) 75 [.ref 31, .int (nI 7)] S none S1) : Bod (d + 8) 100 29 lv [] S none (S1) := by
  refine Bod.ildnG dc_100_29 (by repeat (first | exact q2 | exact sm_get_p1 | exact sm_get_p2e | refine sm_get_p1m (by decide) (by decide) ?_ | refine sm_get_p1n (by decide) rfl ?_ | refine sm_get_p2n (by decide) (by decide) rfl ?_)) ?_
  refine Bod.ifT dc_100_30 rfl (k1_eq_T (k_eq m 0 rfl rfl (by omega))) ?_
  refine Bod.ildnG dc_100_119 (by repeat (first | exact q3 | exact sm_get_p1 | exact sm_get_p2e | refine sm_get_p1m (by decide) (by decide) ?_ | refine sm_get_p1n (by decide) rfl ?_ | refine sm_get_p2n (by decide) (by decide) rfl ?_)) ?_
  refine Bod.bip 8 (by decide) dc_100_120 ?_
  refine Bod.icT dc_100_122 rfl (k2_le_T fd 8 rfl rfl (by omega) (by omega)) ?_
  refine Bod.aldnG dc_100_132 (by repeat (first | exact q0 | exact sm_get_p1 | exact sm_get_p2e | refine sm_get_p1m (by decide) (by decide) ?_ | refine sm_get_p1n (by decide) rfl ?_ | refine sm_get_p2n (by decide) (by decide) rfl ?_)) ?_
  refine Bod.get dc_100_133 fr_100_9 (mk_43 _) rfl ?_
  refine Bod.bip 7 (by decide) dc_100_136 ?_
  refine Bod.virt (r := []) dc_100_138 kr_100_107 ⟨Or.inr rfl, ow_75, cl_3⟩ (by rw [np_75]; rfl) (by rw [np_75]; rfl) (ob_of (mk_31 _)) (Nat.le_of_ble_eq_true rfl) (c1  ) ?_
  show Bod _ _ _ _ [] _ _ _
  exact Bod.retV dc_100_141 rt_100
theorem cPsL_2 {d : Nat} {S : cS} {lv : sm_L} {fd : Nat} {m : Nat} {nu : Nat} {S1 : cS} {S2 : cS} (q3 : sm_get lv 3 = some (.int (nI fd))) (q2 : sm_get lv 2 = some (.int (nI m))) (q0 : sm_get lv 0 = some (.ref 43)) (q1 : sm_get lv 1 = some (.int (nI nu))) (mfd : fd < 2 ^ 20) (mm : m < 2 ^ 20) (mnu : nu < 2 ^ 20) (b1 : m = 0) (b2 : 8 < fd) (c1 : Ans (d + 8) 44 [.ref 31] S none S1) (c2 : Ans (d + 8) 75 [.ref 31, .int (nI 7)] S1 none S2) : Bod (d + 8) 100 29 lv [] S none (S2) := by
  refine Bod.ildnG dc_100_29 (by repeat (first | exact q2 | exact sm_get_p1 | exact sm_get_p2e | refine sm_get_p1m (by decide) (by decide) ?_ | refine sm_get_p1n (by decide) rfl ?_ | refine sm_get_p2n (by decide) (by decide) rfl ?_)) ?_
  refine Bod.ifT dc_100_30 rfl (k1_eq_T (k_eq m 0 rfl rfl (by omega))) ?_
  refine Bod.ildnG dc_100_119 (by repeat (first | exact q3 | exact sm_get_p1 | exact sm_get_p2e | refine sm_get_p1m (by decide) (by decide) ?_ | refine sm_get_p1n (by decide) rfl ?_ | refine sm_get_p2n (by decide) (by decide) rfl ?_)) ?_
  refine Bod.bip 8 (by decide) dc_100_120 ?_
  refine Bod.icF dc_100_122 rfl (k2_le_F fd 8 rfl rfl (by omega) (by omega)) ?_
  refine Bod.aldnG dc_100_125 (by repeat (first | exact q0 | exact sm_get_p1 | exact sm_get_p2e | refine sm_get_p1m (by decide) (by decide) ?_ | refine sm_get_p1n (by decide) rfl ?_ | refine sm_get_p2n (by decide) (by decide) rfl ?_)) ?_
  refine Bod.get dc_100_126 fr_100_9 (mk_43 _) rfl ?_
  refine Bod.virt (r := []) dc_100_129 kr_100_76 ⟨Or.inr rfl, ow_44, cl_3⟩ (by rw [np_44]; rfl) (by rw [np_44]; rfl) (ob_of (mk_31 _)) (Nat.le_of_ble_eq_true rfl) (c1  ) ?_
  show Bod _ _ _ _ [] _ _ _
  refine Bod.aldnG dc_100_132 (by repeat (first | exact q0 | exact sm_get_p1 | exact sm_get_p2e | refine sm_get_p1m (by decide) (by decide) ?_ | refine sm_get_p1n (by decide) rfl ?_ | refine sm_get_p2n (by decide) (by decide) rfl ?_)) ?_
  refine Bod.get dc_100_133 fr_100_9 (mk_43 _) rfl ?_
  refine Bod.bip 7 (by decide) dc_100_136 ?_
  refine Bod.virt (r := []) dc_100_138 kr_100_107 ⟨Or.inr rfl, ow_75, cl_3⟩ (by rw [np_75]; rfl) (by rw [np_75]; rfl) (ob_of (mk_31 _)) (Nat.le_of_ble_eq_true rfl) (c2  ) ?_
  show Bod _ _ _ _ [] _ _ _
  exact Bod.retV dc_100_141 rt_100
theorem cPsL_3 {d : Nat} {S : cS} {lv : sm_L} {fd : Nat} {m : Nat} {nu : Nat} {S1 : cS} {S2 : cS} (q3 : sm_get lv 3 = some (.int (nI fd))) (q2 : sm_get lv 2 = some (.int (nI m))) (q0 : sm_get lv 0 = some (.ref 43)) (q1 : sm_get lv 1 = some (.int (nI nu))) (mfd : fd < 2 ^ 20) (mm : m < 2 ^ 20) (mnu : nu < 2 ^ 20) (b1 : m ≠ 0) (b2 : 8 < fd) (c1 : Ans (d + 8) 44 [.ref 31] S none S1) (c2 : Ans (d + 8) 75 [.ref 31, .int (nI 7)] S1 none S2) : Bod (d + 8) 100 29 lv [] S none (S2) := by
  refine Bod.ildnG dc_100_29 (by repeat (first | exact q2 | exact sm_get_p1 | exact sm_get_p2e | refine sm_get_p1m (by decide) (by decide) ?_ | refine sm_get_p1n (by decide) rfl ?_ | refine sm_get_p2n (by decide) (by decide) rfl ?_)) ?_
  refine Bod.ifF dc_100_30 rfl (k1_eq_F (k_ne m 0 rfl rfl (by omega) (by omega) (by omega))) ?_
  refine Bod.ildnG dc_100_33 (by repeat (first | exact q3 | exact sm_get_p1 | exact sm_get_p2e | refine sm_get_p1m (by decide) (by decide) ?_ | refine sm_get_p1n (by decide) rfl ?_ | refine sm_get_p2n (by decide) (by decide) rfl ?_)) ?_
  refine Bod.bip 8 (by decide) dc_100_34 ?_
  refine Bod.icT dc_100_36 rfl (k2_gt_T fd 8 rfl rfl (by omega) (by omega)) ?_
  refine Bod.ildnG dc_100_119 (by repeat (first | exact q3 | exact sm_get_p1 | exact sm_get_p2e | refine sm_get_p1m (by decide) (by decide) ?_ | refine sm_get_p1n (by decide) rfl ?_ | refine sm_get_p2n (by decide) (by decide) rfl ?_)) ?_
  refine Bod.bip 8 (by decide) dc_100_120 ?_
  refine Bod.icF dc_100_122 rfl (k2_le_F fd 8 rfl rfl (by omega) (by omega)) ?_
  refine Bod.aldnG dc_100_125 (by repeat (first | exact q0 | exact sm_get_p1 | exact sm_get_p2e | refine sm_get_p1m (by decide) (by decide) ?_ | refine sm_get_p1n (by decide) rfl ?_ | refine sm_get_p2n (by decide) (by decide) rfl ?_)) ?_
  refine Bod.get dc_100_126 fr_100_9 (mk_43 _) rfl ?_
  refine Bod.virt (r := []) dc_100_129 kr_100_76 ⟨Or.inr rfl, ow_44, cl_3⟩ (by rw [np_44]; rfl) (by rw [np_44]; rfl) (ob_of (mk_31 _)) (Nat.le_of_ble_eq_true rfl) (c1  ) ?_
  show Bod _ _ _ _ [] _ _ _
  refine Bod.aldnG dc_100_132 (by repeat (first | exact q0 | exact sm_get_p1 | exact sm_get_p2e | refine sm_get_p1m (by decide) (by decide) ?_ | refine sm_get_p1n (by decide) rfl ?_ | refine sm_get_p2n (by decide) (by decide) rfl ?_)) ?_
  refine Bod.get dc_100_133 fr_100_9 (mk_43 _) rfl ?_
  refine Bod.bip 7 (by decide) dc_100_136 ?_
  refine Bod.virt (r := []) dc_100_138 kr_100_107 ⟨Or.inr rfl, ow_75, cl_3⟩ (by rw [np_75]; rfl) (by rw [np_75]; rfl) (ob_of (mk_31 _)) (Nat.le_of_ble_eq_true rfl) (c2  ) ?_
  show Bod _ _ _ _ [] _ _ _
  exact Bod.retV dc_100_141 rt_100
theorem cPsL_4 {d : Nat} {S Sf : cS} {v : Option Value} {lv : sm_L} {fd : Nat} {m : Nat} {nu : Nat} {S1 : cS} {a : Nat} {tk : Nat} {S2 : cS} {tk1 : Nat} (q3 : sm_get lv 3 = some (.int (nI fd))) (q2 : sm_get lv 2 = some (.int (nI m))) (q0 : sm_get lv 0 = some (.ref 43)) (q1 : sm_get lv 1 = some (.int (nI nu))) (mfd : fd < 2 ^ 20) (mm : m < 2 ^ 20) (mnu : nu < 2 ^ 20) (b1 : m ≠ 0) (b2 : fd ≤ 8) (ma : a < 2 ^ 20) (c1 : Ans (d + 8) 92 [.ref 43] S (some (.int (nI a))) S1) (htk : sI S1 3105 = nI tk) (mtk : tk < 2 ^ 20) (b3 : tk = 0) (c2 : Ans (d + 8) 102 [.ref 23, .int (nI nu)] S1 none S2) (htk1 : sI S2 3105 = nI tk1) (mtk1 : tk1 < 2 ^ 20) (b4 : tk1 ≠ 12) (hB : ∀ lv1 : sm_L, sm_get lv1 0 = some (.ref 43) → sm_get lv1 1 = some (.int (nI nu)) → sm_get lv1 2 = some (.int (nI 0)) → sm_get lv1 3 = some (.int (nI (fd + 1))) → Bod (d + 8) 100 29 lv1 [] (S2) v Sf) : Bod (d + 8) 100 29 lv [] S v Sf := by
  refine Bod.ildnG dc_100_29 (by repeat (first | exact q2 | exact sm_get_p1 | exact sm_get_p2e | refine sm_get_p1m (by decide) (by decide) ?_ | refine sm_get_p1n (by decide) rfl ?_ | refine sm_get_p2n (by decide) (by decide) rfl ?_)) ?_
  refine Bod.ifF dc_100_30 rfl (k1_eq_F (k_ne m 0 rfl rfl (by omega) (by omega) (by omega))) ?_
  refine Bod.ildnG dc_100_33 (by repeat (first | exact q3 | exact sm_get_p1 | exact sm_get_p2e | refine sm_get_p1m (by decide) (by decide) ?_ | refine sm_get_p1n (by decide) rfl ?_ | refine sm_get_p2n (by decide) (by decide) rfl ?_)) ?_
  refine Bod.bip 8 (by decide) dc_100_34 ?_
  refine Bod.icF dc_100_36 rfl (k2_gt_F fd 8 rfl rfl (by omega) (by omega)) ?_
  refine Bod.aldnG dc_100_39 (by repeat (first | exact q0 | exact sm_get_p1 | exact sm_get_p2e | refine sm_get_p1m (by decide) (by decide) ?_ | refine sm_get_p1n (by decide) rfl ?_ | refine sm_get_p2n (by decide) (by decide) rfl ?_)) ?_
  refine Bod.virt (r := []) dc_100_40 kr_100_220 ⟨Or.inl rfl, ow_92, cl_10⟩ (by rw [np_92]; rfl) (by rw [np_92]; rfl) (ob_of (mk_43 _)) (Nat.le_of_ble_eq_true rfl) (c1  ) ?_
  show Bod _ _ _ _ [_] _ _ _
  refine Bod.ist dc_100_43 (by rw [ml_100]; exact Nat.le_of_ble_eq_true rfl) ?_
  refine Bod.aldnG dc_100_45 (by repeat (first | exact q0 | exact sm_get_p1 | exact sm_get_p2e | refine sm_get_p1m (by decide) (by decide) ?_ | refine sm_get_p1n (by decide) rfl ?_ | refine sm_get_p2n (by decide) (by decide) rfl ?_)) ?_
  refine Bod.get dc_100_46 fr_100_9 (mk_43 _) rfl ?_
  refine Bod.get dc_100_49 fr_100_79 (mk_31 _) rfl ?_
  refine Bod.eqI (nI tk) (by first | (simp (disch := omega) only [rI, rIe, rA, rIA, rLA, rJA, rVI, rQI, rVA, rQA, upd_at,  rAI, rLI, rJI, nI_add, pk_sub, kc_0, kc_1, kc_2, kc_3, kc_4, kc_5, reduceIte, Nat.reduceEqDiff, Nat.add_zero, rI_hold, rI_hold, rL_hold, htk]; done) | (simp (disch := omega) only [rI, rIe, rA, rIA, rLA, rJA, rVI, rQI, rVA, rQA, upd_at,  rAI, rLI, rJI, nI_add, pk_sub, kc_0, kc_1, kc_2, kc_3, kc_4, kc_5, reduceIte, Nat.reduceEqDiff, Nat.add_zero, rI_hold, rI_hold, rL_hold, htk]; exact congrArg nI (by omega))) ?_
  refine Bod.ifT dc_100_52 rfl (k1_eq_T (k_eq tk 0 rfl rfl (by omega))) ?_
  refine Bod.aldnG dc_100_74 (by repeat (first | exact q0 | exact sm_get_p1 | exact sm_get_p2e | refine sm_get_p1m (by decide) (by decide) ?_ | refine sm_get_p1n (by decide) rfl ?_ | refine sm_get_p2n (by decide) (by decide) rfl ?_)) ?_
  refine Bod.get dc_100_75 fr_100_15 (mk_43 _) rfl ?_
  refine Bod.ildnG dc_100_78 (by repeat (first | exact q1 | exact sm_get_p1 | exact sm_get_p2e | refine sm_get_p1m (by decide) (by decide) ?_ | refine sm_get_p1n (by decide) rfl ?_ | refine sm_get_p2n (by decide) (by decide) rfl ?_)) ?_
  refine Bod.virt (r := []) dc_100_79 kr_100_251 ⟨Or.inr rfl, ow_102, cl_7⟩ (by rw [np_102]; rfl) (by rw [np_102]; rfl) (ob_of (mk_23 _)) (Nat.le_of_ble_eq_true rfl) (c2  ) ?_
  show Bod _ _ _ _ [] _ _ _
  refine Bod.incN (fd + 1) (by rw [kc_1, nI_add]) dc_100_82 (by rw [ml_100]; exact Nat.le_of_ble_eq_true rfl) (by repeat (first | exact q3 | exact sm_get_p1 | exact sm_get_p2e | refine sm_get_p1m (by decide) (by decide) ?_ | refine sm_get_p1n (by decide) rfl ?_ | refine sm_get_p2n (by decide) (by decide) rfl ?_)) ?_
  refine Bod.aldnG dc_100_85 (by repeat (first | exact q0 | exact sm_get_p1 | exact sm_get_p2e | refine sm_get_p1m (by decide) (by decide) ?_ | refine sm_get_p1n (by decide) rfl ?_ | refine sm_get_p2n (by decide) (by decide) rfl ?_)) ?_
  refine Bod.get dc_100_86 fr_100_9 (mk_43 _) rfl ?_
  refine Bod.get dc_100_89 fr_100_79 (mk_31 _) rfl ?_
  refine Bod.eqI (nI tk1) (by first | (simp (disch := omega) only [rI, rIe, rA, rIA, rLA, rJA, rVI, rQI, rVA, rQA, upd_at,  rAI, rLI, rJI, nI_add, pk_sub, kc_0, kc_1, kc_2, kc_3, kc_4, kc_5, reduceIte, Nat.reduceEqDiff, Nat.add_zero, rI_hold, rI_hold, rL_hold, htk, htk1]; done) | (simp (disch := omega) only [rI, rIe, rA, rIA, rLA, rJA, rVI, rQI, rVA, rQA, upd_at,  rAI, rLI, rJI, nI_add, pk_sub, kc_0, kc_1, kc_2, kc_3, kc_4, kc_5, reduceIte, Nat.reduceEqDiff, Nat.add_zero, rI_hold, rI_hold, rL_hold, htk, htk1]; exact congrArg nI (by omega))) ?_
  refine Bod.bip 12 (by decide) dc_100_92 ?_
  refine Bod.icT dc_100_94 rfl (k2_ne_T (k_ne tk1 12 rfl rfl (by omega) (by omega) (by omega))) ?_
  refine Bod.ic 0 (by decide) dc_100_101 ?_
  refine Bod.istn dc_100_102 (by rw [ml_100]; exact Nat.le_of_ble_eq_true rfl) ?_
  refine Bod.ildnG dc_100_103 (by repeat (first | exact q0 | exact sm_get_p1 | exact sm_get_p2e | refine sm_get_p1m (by decide) (by decide) ?_ | refine sm_get_p1n (by decide) rfl ?_ | refine sm_get_p2n (by decide) (by decide) rfl ?_)) ?_
  refine Bod.ifT dc_100_104 rfl (k1_eq_T (k_eq 0 0 rfl rfl (by omega))) ?_
  refine Bod.go dc_100_116 rfl ?_
  exact hB _ (by repeat (first | exact q0 | exact sm_get_p1 | exact sm_get_p2e | refine sm_get_p1m (by decide) (by decide) ?_ | refine sm_get_p1n (by decide) rfl ?_ | refine sm_get_p2n (by decide) (by decide) rfl ?_)) (by repeat (first | exact q1 | exact sm_get_p1 | exact sm_get_p2e | refine sm_get_p1m (by decide) (by decide) ?_ | refine sm_get_p1n (by decide) rfl ?_ | refine sm_get_p2n (by decide) (by decide) rfl ?_)) (by repeat (first | exact q0 | exact sm_get_p1 | exact sm_get_p2e | refine sm_get_p1m (by decide) (by decide) ?_ | refine sm_get_p1n (by decide) rfl ?_ | refine sm_get_p2n (by decide) (by decide) rfl ?_)) (by repeat (first | exact q0 | exact sm_get_p1 | exact sm_get_p2e | refine sm_get_p1m (by decide) (by decide) ?_ | refine sm_get_p1n (by decide) rfl ?_ | refine sm_get_p2n (by decide) (by decide) rfl ?_))
theorem cPsL_5 {d : Nat} {S Sf : cS} {v : Option Value} {lv : sm_L} {fd : Nat} {m : Nat} {nu : Nat} {S1 : cS} {a : Nat} {tk : Nat} {S2 : cS} {tk1 : Nat} {S3 : cS} (q3 : sm_get lv 3 = some (.int (nI fd))) (q2 : sm_get lv 2 = some (.int (nI m))) (q0 : sm_get lv 0 = some (.ref 43)) (q1 : sm_get lv 1 = some (.int (nI nu))) (mfd : fd < 2 ^ 20) (mm : m < 2 ^ 20) (mnu : nu < 2 ^ 20) (b1 : m ≠ 0) (b2 : fd ≤ 8) (ma : a < 2 ^ 20) (c1 : Ans (d + 8) 92 [.ref 43] S (some (.int (nI a))) S1) (htk : sI S1 3105 = nI tk) (mtk : tk < 2 ^ 20) (b3 : tk = 0) (c2 : Ans (d + 8) 102 [.ref 23, .int (nI nu)] S1 none S2) (htk1 : sI S2 3105 = nI tk1) (mtk1 : tk1 < 2 ^ 20) (b4 : tk1 = 12) (c3 : Ans (d + 8) 75 [.ref 31, .int (nI 12)] S2 none S3) (hB : ∀ lv1 : sm_L, sm_get lv1 0 = some (.ref 43) → sm_get lv1 1 = some (.int (nI nu)) → sm_get lv1 2 = some (.int (nI 1)) → sm_get lv1 3 = some (.int (nI (fd + 1))) → Bod (d + 8) 100 29 lv1 [] (S3) v Sf) : Bod (d + 8) 100 29 lv [] S v Sf := by
  refine Bod.ildnG dc_100_29 (by repeat (first | exact q2 | exact sm_get_p1 | exact sm_get_p2e | refine sm_get_p1m (by decide) (by decide) ?_ | refine sm_get_p1n (by decide) rfl ?_ | refine sm_get_p2n (by decide) (by decide) rfl ?_)) ?_
  refine Bod.ifF dc_100_30 rfl (k1_eq_F (k_ne m 0 rfl rfl (by omega) (by omega) (by omega))) ?_
  refine Bod.ildnG dc_100_33 (by repeat (first | exact q3 | exact sm_get_p1 | exact sm_get_p2e | refine sm_get_p1m (by decide) (by decide) ?_ | refine sm_get_p1n (by decide) rfl ?_ | refine sm_get_p2n (by decide) (by decide) rfl ?_)) ?_
  refine Bod.bip 8 (by decide) dc_100_34 ?_
  refine Bod.icF dc_100_36 rfl (k2_gt_F fd 8 rfl rfl (by omega) (by omega)) ?_
  refine Bod.aldnG dc_100_39 (by repeat (first | exact q0 | exact sm_get_p1 | exact sm_get_p2e | refine sm_get_p1m (by decide) (by decide) ?_ | refine sm_get_p1n (by decide) rfl ?_ | refine sm_get_p2n (by decide) (by decide) rfl ?_)) ?_
  refine Bod.virt (r := []) dc_100_40 kr_100_220 ⟨Or.inl rfl, ow_92, cl_10⟩ (by rw [np_92]; rfl) (by rw [np_92]; rfl) (ob_of (mk_43 _)) (Nat.le_of_ble_eq_true rfl) (c1  ) ?_
  show Bod _ _ _ _ [_] _ _ _
  refine Bod.ist dc_100_43 (by rw [ml_100]; exact Nat.le_of_ble_eq_true rfl) ?_
  refine Bod.aldnG dc_100_45 (by repeat (first | exact q0 | exact sm_get_p1 | exact sm_get_p2e | refine sm_get_p1m (by decide) (by decide) ?_ | refine sm_get_p1n (by decide) rfl ?_ | refine sm_get_p2n (by decide) (by decide) rfl ?_)) ?_
  refine Bod.get dc_100_46 fr_100_9 (mk_43 _) rfl ?_
  refine Bod.get dc_100_49 fr_100_79 (mk_31 _) rfl ?_
  refine Bod.eqI (nI tk) (by first | (simp (disch := omega) only [rI, rIe, rA, rIA, rLA, rJA, rVI, rQI, rVA, rQA, upd_at,  rAI, rLI, rJI, nI_add, pk_sub, kc_0, kc_1, kc_2, kc_3, kc_4, kc_5, reduceIte, Nat.reduceEqDiff, Nat.add_zero, rI_hold, rI_hold, rL_hold, htk]; done) | (simp (disch := omega) only [rI, rIe, rA, rIA, rLA, rJA, rVI, rQI, rVA, rQA, upd_at,  rAI, rLI, rJI, nI_add, pk_sub, kc_0, kc_1, kc_2, kc_3, kc_4, kc_5, reduceIte, Nat.reduceEqDiff, Nat.add_zero, rI_hold, rI_hold, rL_hold, htk]; exact congrArg nI (by omega))) ?_
  refine Bod.ifT dc_100_52 rfl (k1_eq_T (k_eq tk 0 rfl rfl (by omega))) ?_
  refine Bod.aldnG dc_100_74 (by repeat (first | exact q0 | exact sm_get_p1 | exact sm_get_p2e | refine sm_get_p1m (by decide) (by decide) ?_ | refine sm_get_p1n (by decide) rfl ?_ | refine sm_get_p2n (by decide) (by decide) rfl ?_)) ?_
  refine Bod.get dc_100_75 fr_100_15 (mk_43 _) rfl ?_
  refine Bod.ildnG dc_100_78 (by repeat (first | exact q1 | exact sm_get_p1 | exact sm_get_p2e | refine sm_get_p1m (by decide) (by decide) ?_ | refine sm_get_p1n (by decide) rfl ?_ | refine sm_get_p2n (by decide) (by decide) rfl ?_)) ?_
  refine Bod.virt (r := []) dc_100_79 kr_100_251 ⟨Or.inr rfl, ow_102, cl_7⟩ (by rw [np_102]; rfl) (by rw [np_102]; rfl) (ob_of (mk_23 _)) (Nat.le_of_ble_eq_true rfl) (c2  ) ?_
  show Bod _ _ _ _ [] _ _ _
  refine Bod.incN (fd + 1) (by rw [kc_1, nI_add]) dc_100_82 (by rw [ml_100]; exact Nat.le_of_ble_eq_true rfl) (by repeat (first | exact q3 | exact sm_get_p1 | exact sm_get_p2e | refine sm_get_p1m (by decide) (by decide) ?_ | refine sm_get_p1n (by decide) rfl ?_ | refine sm_get_p2n (by decide) (by decide) rfl ?_)) ?_
  refine Bod.aldnG dc_100_85 (by repeat (first | exact q0 | exact sm_get_p1 | exact sm_get_p2e | refine sm_get_p1m (by decide) (by decide) ?_ | refine sm_get_p1n (by decide) rfl ?_ | refine sm_get_p2n (by decide) (by decide) rfl ?_)) ?_
  refine Bod.get dc_100_86 fr_100_9 (mk_43 _) rfl ?_
  refine Bod.get dc_100_89 fr_100_79 (mk_31 _) rfl ?_
  refine Bod.eqI (nI tk1) (by first | (simp (disch := omega) only [rI, rIe, rA, rIA, rLA, rJA, rVI, rQI, rVA, rQA, upd_at,  rAI, rLI, rJI, nI_add, pk_sub, kc_0, kc_1, kc_2, kc_3, kc_4, kc_5, reduceIte, Nat.reduceEqDiff, Nat.add_zero, rI_hold, rI_hold, rL_hold, htk, htk1]; done) | (simp (disch := omega) only [rI, rIe, rA, rIA, rLA, rJA, rVI, rQI, rVA, rQA, upd_at,  rAI, rLI, rJI, nI_add, pk_sub, kc_0, kc_1, kc_2, kc_3, kc_4, kc_5, reduceIte, Nat.reduceEqDiff, Nat.add_zero, rI_hold, rI_hold, rL_hold, htk, htk1]; exact congrArg nI (by omega))) ?_
  refine Bod.bip 12 (by decide) dc_100_92 ?_
  refine Bod.icF dc_100_94 rfl (k2_ne_F (k_eq tk1 12 rfl rfl (by omega))) ?_
  refine Bod.ic 1 (by decide) dc_100_97 ?_
  refine Bod.go dc_100_98 rfl ?_
  refine Bod.istn dc_100_102 (by rw [ml_100]; exact Nat.le_of_ble_eq_true rfl) ?_
  refine Bod.ildnG dc_100_103 (by repeat (first | exact q0 | exact sm_get_p1 | exact sm_get_p2e | refine sm_get_p1m (by decide) (by decide) ?_ | refine sm_get_p1n (by decide) rfl ?_ | refine sm_get_p2n (by decide) (by decide) rfl ?_)) ?_
  refine Bod.ifF dc_100_104 rfl (k1_eq_F (k_ne 1 0 rfl rfl (by omega) (by omega) (by omega))) ?_
  refine Bod.aldnG dc_100_107 (by repeat (first | exact q0 | exact sm_get_p1 | exact sm_get_p2e | refine sm_get_p1m (by decide) (by decide) ?_ | refine sm_get_p1n (by decide) rfl ?_ | refine sm_get_p2n (by decide) (by decide) rfl ?_)) ?_
  refine Bod.get dc_100_108 fr_100_9 (mk_43 _) rfl ?_
  refine Bod.bip 12 (by decide) dc_100_111 ?_
  refine Bod.virt (r := []) dc_100_113 kr_100_107 ⟨Or.inr rfl, ow_75, cl_3⟩ (by rw [np_75]; rfl) (by rw [np_75]; rfl) (ob_of (mk_31 _)) (Nat.le_of_ble_eq_true rfl) (c3  ) ?_
  show Bod _ _ _ _ [] _ _ _
  refine Bod.go dc_100_116 rfl ?_
  exact hB _ (by repeat (first | exact q0 | exact sm_get_p1 | exact sm_get_p2e | refine sm_get_p1m (by decide) (by decide) ?_ | refine sm_get_p1n (by decide) rfl ?_ | refine sm_get_p2n (by decide) (by decide) rfl ?_)) (by repeat (first | exact q1 | exact sm_get_p1 | exact sm_get_p2e | refine sm_get_p1m (by decide) (by decide) ?_ | refine sm_get_p1n (by decide) rfl ?_ | refine sm_get_p2n (by decide) (by decide) rfl ?_)) (by repeat (first | exact q0 | exact sm_get_p1 | exact sm_get_p2e | refine sm_get_p1m (by decide) (by decide) ?_ | refine sm_get_p1n (by decide) rfl ?_ | refine sm_get_p2n (by decide) (by decide) rfl ?_)) (by repeat (first | exact q0 | exact sm_get_p1 | exact sm_get_p2e | refine sm_get_p1m (by decide) (by decide) ?_ | refine sm_get_p1n (by decide) rfl ?_ | refine sm_get_p2n (by decide) (by decide) rfl ?_))
theorem cPsL_6 {d : Nat} {S Sf : cS} {v : Option Value} {lv : sm_L} {fd : Nat} {m : Nat} {nu : Nat} {S1 : cS} {a : Nat} {tk : Nat} {S2 : cS} {S3 : cS} {tk1 : Nat} (q3 : sm_get lv 3 = some (.int (nI fd))) (q2 : sm_get lv 2 = some (.int (nI m))) (q0 : sm_get lv 0 = some (.ref 43)) (q1 : sm_get lv 1 = some (.int (nI nu))) (mfd : fd < 2 ^ 20) (mm : m < 2 ^ 20) (mnu : nu < 2 ^ 20) (b1 : m ≠ 0) (b2 : fd ≤ 8) (ma : a < 2 ^ 20) (c1 : Ans (d + 8) 92 [.ref 43] S (some (.int (nI a))) S1) (htk : sI S1 3105 = nI tk) (mtk : tk < 2 ^ 20) (b3 : tk ≠ 0) (c2 : Ans (d + 8) 101 [.ref 32, .int (nI a)] S1 (some (.int (nI 1))) S2) (c3 : Ans (d + 8) 102 [.ref 23, .int (nI nu)] S2 none S3) (htk1 : sI S3 3105 = nI tk1) (mtk1 : tk1 < 2 ^ 20) (b4 : tk1 ≠ 12) (hB : ∀ lv1 : sm_L, sm_get lv1 0 = some (.ref 43) → sm_get lv1 1 = some (.int (nI nu)) → sm_get lv1 2 = some (.int (nI 0)) → sm_get lv1 3 = some (.int (nI (fd + 1))) → Bod (d + 8) 100 29 lv1 [] (S3) v Sf) : Bod (d + 8) 100 29 lv [] S v Sf := by
  refine Bod.ildnG dc_100_29 (by repeat (first | exact q2 | exact sm_get_p1 | exact sm_get_p2e | refine sm_get_p1m (by decide) (by decide) ?_ | refine sm_get_p1n (by decide) rfl ?_ | refine sm_get_p2n (by decide) (by decide) rfl ?_)) ?_
  refine Bod.ifF dc_100_30 rfl (k1_eq_F (k_ne m 0 rfl rfl (by omega) (by omega) (by omega))) ?_
  refine Bod.ildnG dc_100_33 (by repeat (first | exact q3 | exact sm_get_p1 | exact sm_get_p2e | refine sm_get_p1m (by decide) (by decide) ?_ | refine sm_get_p1n (by decide) rfl ?_ | refine sm_get_p2n (by decide) (by decide) rfl ?_)) ?_
  refine Bod.bip 8 (by decide) dc_100_34 ?_
  refine Bod.icF dc_100_36 rfl (k2_gt_F fd 8 rfl rfl (by omega) (by omega)) ?_
  refine Bod.aldnG dc_100_39 (by repeat (first | exact q0 | exact sm_get_p1 | exact sm_get_p2e | refine sm_get_p1m (by decide) (by decide) ?_ | refine sm_get_p1n (by decide) rfl ?_ | refine sm_get_p2n (by decide) (by decide) rfl ?_)) ?_
  refine Bod.virt (r := []) dc_100_40 kr_100_220 ⟨Or.inl rfl, ow_92, cl_10⟩ (by rw [np_92]; rfl) (by rw [np_92]; rfl) (ob_of (mk_43 _)) (Nat.le_of_ble_eq_true rfl) (c1  ) ?_
  show Bod _ _ _ _ [_] _ _ _
  refine Bod.ist dc_100_43 (by rw [ml_100]; exact Nat.le_of_ble_eq_true rfl) ?_
  refine Bod.aldnG dc_100_45 (by repeat (first | exact q0 | exact sm_get_p1 | exact sm_get_p2e | refine sm_get_p1m (by decide) (by decide) ?_ | refine sm_get_p1n (by decide) rfl ?_ | refine sm_get_p2n (by decide) (by decide) rfl ?_)) ?_
  refine Bod.get dc_100_46 fr_100_9 (mk_43 _) rfl ?_
  refine Bod.get dc_100_49 fr_100_79 (mk_31 _) rfl ?_
  refine Bod.eqI (nI tk) (by first | (simp (disch := omega) only [rI, rIe, rA, rIA, rLA, rJA, rVI, rQI, rVA, rQA, upd_at,  rAI, rLI, rJI, nI_add, pk_sub, kc_0, kc_1, kc_2, kc_3, kc_4, kc_5, reduceIte, Nat.reduceEqDiff, Nat.add_zero, rI_hold, rI_hold, rL_hold, htk]; done) | (simp (disch := omega) only [rI, rIe, rA, rIA, rLA, rJA, rVI, rQI, rVA, rQA, upd_at,  rAI, rLI, rJI, nI_add, pk_sub, kc_0, kc_1, kc_2, kc_3, kc_4, kc_5, reduceIte, Nat.reduceEqDiff, Nat.add_zero, rI_hold, rI_hold, rL_hold, htk]; exact congrArg nI (by omega))) ?_
  refine Bod.ifF dc_100_52 rfl (k1_eq_F (k_ne tk 0 rfl rfl (by omega) (by omega) (by omega))) ?_
  refine Bod.aldnG dc_100_55 (by repeat (first | exact q0 | exact sm_get_p1 | exact sm_get_p2e | refine sm_get_p1m (by decide) (by decide) ?_ | refine sm_get_p1n (by decide) rfl ?_ | refine sm_get_p2n (by decide) (by decide) rfl ?_)) ?_
  refine Bod.get dc_100_56 fr_100_19 (mk_43 _) rfl ?_
  refine Bod.ildG dc_100_59 (by repeat (first | exact q0 | exact sm_get_p1 | exact sm_get_p2e | refine sm_get_p1m (by decide) (by decide) ?_ | refine sm_get_p1n (by decide) rfl ?_ | refine sm_get_p2n (by decide) (by decide) rfl ?_)) ?_
  refine Bod.virt (r := []) dc_100_61 kr_100_248 ⟨Or.inr rfl, ow_101, cl_8⟩ (by rw [np_101]; rfl) (by rw [np_101]; rfl) (ob_of (mk_32 _)) (Nat.le_of_ble_eq_true rfl) (c2  ) ?_
  show Bod _ _ _ _ [_] _ _ _
  refine Bod.ifT dc_100_64 rfl (k1_ne_T (k_ne 1 0 rfl rfl (by omega) (by omega) (by omega))) ?_
  refine Bod.aldnG dc_100_74 (by repeat (first | exact q0 | exact sm_get_p1 | exact sm_get_p2e | refine sm_get_p1m (by decide) (by decide) ?_ | refine sm_get_p1n (by decide) rfl ?_ | refine sm_get_p2n (by decide) (by decide) rfl ?_)) ?_
  refine Bod.get dc_100_75 fr_100_15 (mk_43 _) rfl ?_
  refine Bod.ildnG dc_100_78 (by repeat (first | exact q1 | exact sm_get_p1 | exact sm_get_p2e | refine sm_get_p1m (by decide) (by decide) ?_ | refine sm_get_p1n (by decide) rfl ?_ | refine sm_get_p2n (by decide) (by decide) rfl ?_)) ?_
  refine Bod.virt (r := []) dc_100_79 kr_100_251 ⟨Or.inr rfl, ow_102, cl_7⟩ (by rw [np_102]; rfl) (by rw [np_102]; rfl) (ob_of (mk_23 _)) (Nat.le_of_ble_eq_true rfl) (c3  ) ?_
  show Bod _ _ _ _ [] _ _ _
  refine Bod.incN (fd + 1) (by rw [kc_1, nI_add]) dc_100_82 (by rw [ml_100]; exact Nat.le_of_ble_eq_true rfl) (by repeat (first | exact q3 | exact sm_get_p1 | exact sm_get_p2e | refine sm_get_p1m (by decide) (by decide) ?_ | refine sm_get_p1n (by decide) rfl ?_ | refine sm_get_p2n (by decide) (by decide) rfl ?_)) ?_
  refine Bod.aldnG dc_100_85 (by repeat (first | exact q0 | exact sm_get_p1 | exact sm_get_p2e | refine sm_get_p1m (by decide) (by decide) ?_ | refine sm_get_p1n (by decide) rfl ?_ | refine sm_get_p2n (by decide) (by decide) rfl ?_)) ?_
  refine Bod.get dc_100_86 fr_100_9 (mk_43 _) rfl ?_
  refine Bod.get dc_100_89 fr_100_79 (mk_31 _) rfl ?_
  refine Bod.eqI (nI tk1) (by first | (simp (disch := omega) only [rI, rIe, rA, rIA, rLA, rJA, rVI, rQI, rVA, rQA, upd_at,  rAI, rLI, rJI, nI_add, pk_sub, kc_0, kc_1, kc_2, kc_3, kc_4, kc_5, reduceIte, Nat.reduceEqDiff, Nat.add_zero, rI_hold, rI_hold, rL_hold, htk, htk1]; done) | (simp (disch := omega) only [rI, rIe, rA, rIA, rLA, rJA, rVI, rQI, rVA, rQA, upd_at,  rAI, rLI, rJI, nI_add, pk_sub, kc_0, kc_1, kc_2, kc_3, kc_4, kc_5, reduceIte, Nat.reduceEqDiff, Nat.add_zero, rI_hold, rI_hold, rL_hold, htk, htk1]; exact congrArg nI (by omega))) ?_
  refine Bod.bip 12 (by decide) dc_100_92 ?_
  refine Bod.icT dc_100_94 rfl (k2_ne_T (k_ne tk1 12 rfl rfl (by omega) (by omega) (by omega))) ?_
  refine Bod.ic 0 (by decide) dc_100_101 ?_
  refine Bod.istn dc_100_102 (by rw [ml_100]; exact Nat.le_of_ble_eq_true rfl) ?_
  refine Bod.ildnG dc_100_103 (by repeat (first | exact q0 | exact sm_get_p1 | exact sm_get_p2e | refine sm_get_p1m (by decide) (by decide) ?_ | refine sm_get_p1n (by decide) rfl ?_ | refine sm_get_p2n (by decide) (by decide) rfl ?_)) ?_
  refine Bod.ifT dc_100_104 rfl (k1_eq_T (k_eq 0 0 rfl rfl (by omega))) ?_
  refine Bod.go dc_100_116 rfl ?_
  exact hB _ (by repeat (first | exact q0 | exact sm_get_p1 | exact sm_get_p2e | refine sm_get_p1m (by decide) (by decide) ?_ | refine sm_get_p1n (by decide) rfl ?_ | refine sm_get_p2n (by decide) (by decide) rfl ?_)) (by repeat (first | exact q1 | exact sm_get_p1 | exact sm_get_p2e | refine sm_get_p1m (by decide) (by decide) ?_ | refine sm_get_p1n (by decide) rfl ?_ | refine sm_get_p2n (by decide) (by decide) rfl ?_)) (by repeat (first | exact q0 | exact sm_get_p1 | exact sm_get_p2e | refine sm_get_p1m (by decide) (by decide) ?_ | refine sm_get_p1n (by decide) rfl ?_ | refine sm_get_p2n (by decide) (by decide) rfl ?_)) (by repeat (first | exact q0 | exact sm_get_p1 | exact sm_get_p2e | refine sm_get_p1m (by decide) (by decide) ?_ | refine sm_get_p1n (by decide) rfl ?_ | refine sm_get_p2n (by decide) (by decide) rfl ?_))
theorem cPsL_7 {d : Nat} {S Sf : cS} {v : Option Value} {lv : sm_L} {fd : Nat} {m : Nat} {nu : Nat} {S1 : cS} {a : Nat} {tk : Nat} {S2 : cS} {S3 : cS} {tk1 : Nat} {S4 : cS} (q3 : sm_get lv 3 = some (.int (nI fd))) (q2 : sm_get lv 2 = some (.int (nI m))) (q0 : sm_get lv 0 = some (.ref 43)) (q1 : sm_get lv 1 = some (.int (nI nu))) (mfd : fd < 2 ^ 20) (mm : m < 2 ^ 20) (mnu : nu < 2 ^ 20) (b1 : m ≠ 0) (b2 : fd ≤ 8) (ma : a < 2 ^ 20) (c1 : Ans (d + 8) 92 [.ref 43] S (some (.int (nI a))) S1) (htk : sI S1 3105 = nI tk) (mtk : tk < 2 ^ 20) (b3 : tk ≠ 0) (c2 : Ans (d + 8) 101 [.ref 32, .int (nI a)] S1 (some (.int (nI 1))) S2) (c3 : Ans (d + 8) 102 [.ref 23, .int (nI nu)] S2 none S3) (htk1 : sI S3 3105 = nI tk1) (mtk1 : tk1 < 2 ^ 20) (b4 : tk1 = 12) (c4 : Ans (d + 8) 75 [.ref 31, .int (nI 12)] S3 none S4) (hB : ∀ lv1 : sm_L, sm_get lv1 0 = some (.ref 43) → sm_get lv1 1 = some (.int (nI nu)) → sm_get lv1 2 = some (.int (nI 1)) → sm_get lv1 3 = some (.int (nI (fd + 1))) → Bod (d + 8) 100 29 lv1 [] (S4) v Sf) : Bod (d + 8) 100 29 lv [] S v Sf := by
  refine Bod.ildnG dc_100_29 (by repeat (first | exact q2 | exact sm_get_p1 | exact sm_get_p2e | refine sm_get_p1m (by decide) (by decide) ?_ | refine sm_get_p1n (by decide) rfl ?_ | refine sm_get_p2n (by decide) (by decide) rfl ?_)) ?_
  refine Bod.ifF dc_100_30 rfl (k1_eq_F (k_ne m 0 rfl rfl (by omega) (by omega) (by omega))) ?_
  refine Bod.ildnG dc_100_33 (by repeat (first | exact q3 | exact sm_get_p1 | exact sm_get_p2e | refine sm_get_p1m (by decide) (by decide) ?_ | refine sm_get_p1n (by decide) rfl ?_ | refine sm_get_p2n (by decide) (by decide) rfl ?_)) ?_
  refine Bod.bip 8 (by decide) dc_100_34 ?_
  refine Bod.icF dc_100_36 rfl (k2_gt_F fd 8 rfl rfl (by omega) (by omega)) ?_
  refine Bod.aldnG dc_100_39 (by repeat (first | exact q0 | exact sm_get_p1 | exact sm_get_p2e | refine sm_get_p1m (by decide) (by decide) ?_ | refine sm_get_p1n (by decide) rfl ?_ | refine sm_get_p2n (by decide) (by decide) rfl ?_)) ?_
  refine Bod.virt (r := []) dc_100_40 kr_100_220 ⟨Or.inl rfl, ow_92, cl_10⟩ (by rw [np_92]; rfl) (by rw [np_92]; rfl) (ob_of (mk_43 _)) (Nat.le_of_ble_eq_true rfl) (c1  ) ?_
  show Bod _ _ _ _ [_] _ _ _
  refine Bod.ist dc_100_43 (by rw [ml_100]; exact Nat.le_of_ble_eq_true rfl) ?_
  refine Bod.aldnG dc_100_45 (by repeat (first | exact q0 | exact sm_get_p1 | exact sm_get_p2e | refine sm_get_p1m (by decide) (by decide) ?_ | refine sm_get_p1n (by decide) rfl ?_ | refine sm_get_p2n (by decide) (by decide) rfl ?_)) ?_
  refine Bod.get dc_100_46 fr_100_9 (mk_43 _) rfl ?_
  refine Bod.get dc_100_49 fr_100_79 (mk_31 _) rfl ?_
  refine Bod.eqI (nI tk) (by first | (simp (disch := omega) only [rI, rIe, rA, rIA, rLA, rJA, rVI, rQI, rVA, rQA, upd_at,  rAI, rLI, rJI, nI_add, pk_sub, kc_0, kc_1, kc_2, kc_3, kc_4, kc_5, reduceIte, Nat.reduceEqDiff, Nat.add_zero, rI_hold, rI_hold, rL_hold, htk]; done) | (simp (disch := omega) only [rI, rIe, rA, rIA, rLA, rJA, rVI, rQI, rVA, rQA, upd_at,  rAI, rLI, rJI, nI_add, pk_sub, kc_0, kc_1, kc_2, kc_3, kc_4, kc_5, reduceIte, Nat.reduceEqDiff, Nat.add_zero, rI_hold, rI_hold, rL_hold, htk]; exact congrArg nI (by omega))) ?_
  refine Bod.ifF dc_100_52 rfl (k1_eq_F (k_ne tk 0 rfl rfl (by omega) (by omega) (by omega))) ?_
  refine Bod.aldnG dc_100_55 (by repeat (first | exact q0 | exact sm_get_p1 | exact sm_get_p2e | refine sm_get_p1m (by decide) (by decide) ?_ | refine sm_get_p1n (by decide) rfl ?_ | refine sm_get_p2n (by decide) (by decide) rfl ?_)) ?_
  refine Bod.get dc_100_56 fr_100_19 (mk_43 _) rfl ?_
  refine Bod.ildG dc_100_59 (by repeat (first | exact q0 | exact sm_get_p1 | exact sm_get_p2e | refine sm_get_p1m (by decide) (by decide) ?_ | refine sm_get_p1n (by decide) rfl ?_ | refine sm_get_p2n (by decide) (by decide) rfl ?_)) ?_
  refine Bod.virt (r := []) dc_100_61 kr_100_248 ⟨Or.inr rfl, ow_101, cl_8⟩ (by rw [np_101]; rfl) (by rw [np_101]; rfl) (ob_of (mk_32 _)) (Nat.le_of_ble_eq_true rfl) (c2  ) ?_
  show Bod _ _ _ _ [_] _ _ _
  refine Bod.ifT dc_100_64 rfl (k1_ne_T (k_ne 1 0 rfl rfl (by omega) (by omega) (by omega))) ?_
  refine Bod.aldnG dc_100_74 (by repeat (first | exact q0 | exact sm_get_p1 | exact sm_get_p2e | refine sm_get_p1m (by decide) (by decide) ?_ | refine sm_get_p1n (by decide) rfl ?_ | refine sm_get_p2n (by decide) (by decide) rfl ?_)) ?_
  refine Bod.get dc_100_75 fr_100_15 (mk_43 _) rfl ?_
  refine Bod.ildnG dc_100_78 (by repeat (first | exact q1 | exact sm_get_p1 | exact sm_get_p2e | refine sm_get_p1m (by decide) (by decide) ?_ | refine sm_get_p1n (by decide) rfl ?_ | refine sm_get_p2n (by decide) (by decide) rfl ?_)) ?_
  refine Bod.virt (r := []) dc_100_79 kr_100_251 ⟨Or.inr rfl, ow_102, cl_7⟩ (by rw [np_102]; rfl) (by rw [np_102]; rfl) (ob_of (mk_23 _)) (Nat.le_of_ble_eq_true rfl) (c3  ) ?_
  show Bod _ _ _ _ [] _ _ _
  refine Bod.incN (fd + 1) (by rw [kc_1, nI_add]) dc_100_82 (by rw [ml_100]; exact Nat.le_of_ble_eq_true rfl) (by repeat (first | exact q3 | exact sm_get_p1 | exact sm_get_p2e | refine sm_get_p1m (by decide) (by decide) ?_ | refine sm_get_p1n (by decide) rfl ?_ | refine sm_get_p2n (by decide) (by decide) rfl ?_)) ?_
  refine Bod.aldnG dc_100_85 (by repeat (first | exact q0 | exact sm_get_p1 | exact sm_get_p2e | refine sm_get_p1m (by decide) (by decide) ?_ | refine sm_get_p1n (by decide) rfl ?_ | refine sm_get_p2n (by decide) (by decide) rfl ?_)) ?_
  refine Bod.get dc_100_86 fr_100_9 (mk_43 _) rfl ?_
  refine Bod.get dc_100_89 fr_100_79 (mk_31 _) rfl ?_
  refine Bod.eqI (nI tk1) (by first | (simp (disch := omega) only [rI, rIe, rA, rIA, rLA, rJA, rVI, rQI, rVA, rQA, upd_at,  rAI, rLI, rJI, nI_add, pk_sub, kc_0, kc_1, kc_2, kc_3, kc_4, kc_5, reduceIte, Nat.reduceEqDiff, Nat.add_zero, rI_hold, rI_hold, rL_hold, htk, htk1]; done) | (simp (disch := omega) only [rI, rIe, rA, rIA, rLA, rJA, rVI, rQI, rVA, rQA, upd_at,  rAI, rLI, rJI, nI_add, pk_sub, kc_0, kc_1, kc_2, kc_3, kc_4, kc_5, reduceIte, Nat.reduceEqDiff, Nat.add_zero, rI_hold, rI_hold, rL_hold, htk, htk1]; exact congrArg nI (by omega))) ?_
  refine Bod.bip 12 (by decide) dc_100_92 ?_
  refine Bod.icF dc_100_94 rfl (k2_ne_F (k_eq tk1 12 rfl rfl (by omega))) ?_
  refine Bod.ic 1 (by decide) dc_100_97 ?_
  refine Bod.go dc_100_98 rfl ?_
  refine Bod.istn dc_100_102 (by rw [ml_100]; exact Nat.le_of_ble_eq_true rfl) ?_
  refine Bod.ildnG dc_100_103 (by repeat (first | exact q0 | exact sm_get_p1 | exact sm_get_p2e | refine sm_get_p1m (by decide) (by decide) ?_ | refine sm_get_p1n (by decide) rfl ?_ | refine sm_get_p2n (by decide) (by decide) rfl ?_)) ?_
  refine Bod.ifF dc_100_104 rfl (k1_eq_F (k_ne 1 0 rfl rfl (by omega) (by omega) (by omega))) ?_
  refine Bod.aldnG dc_100_107 (by repeat (first | exact q0 | exact sm_get_p1 | exact sm_get_p2e | refine sm_get_p1m (by decide) (by decide) ?_ | refine sm_get_p1n (by decide) rfl ?_ | refine sm_get_p2n (by decide) (by decide) rfl ?_)) ?_
  refine Bod.get dc_100_108 fr_100_9 (mk_43 _) rfl ?_
  refine Bod.bip 12 (by decide) dc_100_111 ?_
  refine Bod.virt (r := []) dc_100_113 kr_100_107 ⟨Or.inr rfl, ow_75, cl_3⟩ (by rw [np_75]; rfl) (by rw [np_75]; rfl) (ob_of (mk_31 _)) (Nat.le_of_ble_eq_true rfl) (c4  ) ?_
  show Bod _ _ _ _ [] _ _ _
  refine Bod.go dc_100_116 rfl ?_
  exact hB _ (by repeat (first | exact q0 | exact sm_get_p1 | exact sm_get_p2e | refine sm_get_p1m (by decide) (by decide) ?_ | refine sm_get_p1n (by decide) rfl ?_ | refine sm_get_p2n (by decide) (by decide) rfl ?_)) (by repeat (first | exact q1 | exact sm_get_p1 | exact sm_get_p2e | refine sm_get_p1m (by decide) (by decide) ?_ | refine sm_get_p1n (by decide) rfl ?_ | refine sm_get_p2n (by decide) (by decide) rfl ?_)) (by repeat (first | exact q0 | exact sm_get_p1 | exact sm_get_p2e | refine sm_get_p1m (by decide) (by decide) ?_ | refine sm_get_p1n (by decide) rfl ?_ | refine sm_get_p2n (by decide) (by decide) rfl ?_)) (by repeat (first | exact q0 | exact sm_get_p1 | exact sm_get_p2e | refine sm_get_p1m (by decide) (by decide) ?_ | refine sm_get_p1n (by decide) rfl ?_ | refine sm_get_p2n (by decide) (by decide) rfl ?_))
theorem cPsL_8 {d : Nat} {S Sf : cS} {v : Option Value} {lv : sm_L} {fd : Nat} {m : Nat} {nu : Nat} {S1 : cS} {a : Nat} {tk : Nat} {S2 : cS} {S3 : cS} {S4 : cS} {tk1 : Nat} (q3 : sm_get lv 3 = some (.int (nI fd))) (q2 : sm_get lv 2 = some (.int (nI m))) (q0 : sm_get lv 0 = some (.ref 43)) (q1 : sm_get lv 1 = some (.int (nI nu))) (mfd : fd < 2 ^ 20) (mm : m < 2 ^ 20) (mnu : nu < 2 ^ 20) (b1 : m ≠ 0) (b2 : fd ≤ 8) (ma : a < 2 ^ 20) (c1 : Ans (d + 8) 92 [.ref 43] S (some (.int (nI a))) S1) (htk : sI S1 3105 = nI tk) (mtk : tk < 2 ^ 20) (b3 : tk ≠ 0) (c2 : Ans (d + 8) 101 [.ref 32, .int (nI a)] S1 (some (.int (nI 0))) S2) (c3 : Ans (d + 8) 44 [.ref 31] S2 none S3) (c4 : Ans (d + 8) 102 [.ref 23, .int (nI nu)] S3 none S4) (htk1 : sI S4 3105 = nI tk1) (mtk1 : tk1 < 2 ^ 20) (b4 : tk1 ≠ 12) (hB : ∀ lv1 : sm_L, sm_get lv1 0 = some (.ref 43) → sm_get lv1 1 = some (.int (nI nu)) → sm_get lv1 2 = some (.int (nI 0)) → sm_get lv1 3 = some (.int (nI (fd + 1))) → Bod (d + 8) 100 29 lv1 [] (S4) v Sf) : Bod (d + 8) 100 29 lv [] S v Sf := by
  refine Bod.ildnG dc_100_29 (by repeat (first | exact q2 | exact sm_get_p1 | exact sm_get_p2e | refine sm_get_p1m (by decide) (by decide) ?_ | refine sm_get_p1n (by decide) rfl ?_ | refine sm_get_p2n (by decide) (by decide) rfl ?_)) ?_
  refine Bod.ifF dc_100_30 rfl (k1_eq_F (k_ne m 0 rfl rfl (by omega) (by omega) (by omega))) ?_
  refine Bod.ildnG dc_100_33 (by repeat (first | exact q3 | exact sm_get_p1 | exact sm_get_p2e | refine sm_get_p1m (by decide) (by decide) ?_ | refine sm_get_p1n (by decide) rfl ?_ | refine sm_get_p2n (by decide) (by decide) rfl ?_)) ?_
  refine Bod.bip 8 (by decide) dc_100_34 ?_
  refine Bod.icF dc_100_36 rfl (k2_gt_F fd 8 rfl rfl (by omega) (by omega)) ?_
  refine Bod.aldnG dc_100_39 (by repeat (first | exact q0 | exact sm_get_p1 | exact sm_get_p2e | refine sm_get_p1m (by decide) (by decide) ?_ | refine sm_get_p1n (by decide) rfl ?_ | refine sm_get_p2n (by decide) (by decide) rfl ?_)) ?_
  refine Bod.virt (r := []) dc_100_40 kr_100_220 ⟨Or.inl rfl, ow_92, cl_10⟩ (by rw [np_92]; rfl) (by rw [np_92]; rfl) (ob_of (mk_43 _)) (Nat.le_of_ble_eq_true rfl) (c1  ) ?_
  show Bod _ _ _ _ [_] _ _ _
  refine Bod.ist dc_100_43 (by rw [ml_100]; exact Nat.le_of_ble_eq_true rfl) ?_
  refine Bod.aldnG dc_100_45 (by repeat (first | exact q0 | exact sm_get_p1 | exact sm_get_p2e | refine sm_get_p1m (by decide) (by decide) ?_ | refine sm_get_p1n (by decide) rfl ?_ | refine sm_get_p2n (by decide) (by decide) rfl ?_)) ?_
  refine Bod.get dc_100_46 fr_100_9 (mk_43 _) rfl ?_
  refine Bod.get dc_100_49 fr_100_79 (mk_31 _) rfl ?_
  refine Bod.eqI (nI tk) (by first | (simp (disch := omega) only [rI, rIe, rA, rIA, rLA, rJA, rVI, rQI, rVA, rQA, upd_at,  rAI, rLI, rJI, nI_add, pk_sub, kc_0, kc_1, kc_2, kc_3, kc_4, kc_5, reduceIte, Nat.reduceEqDiff, Nat.add_zero, rI_hold, rI_hold, rL_hold, htk]; done) | (simp (disch := omega) only [rI, rIe, rA, rIA, rLA, rJA, rVI, rQI, rVA, rQA, upd_at,  rAI, rLI, rJI, nI_add, pk_sub, kc_0, kc_1, kc_2, kc_3, kc_4, kc_5, reduceIte, Nat.reduceEqDiff, Nat.add_zero, rI_hold, rI_hold, rL_hold, htk]; exact congrArg nI (by omega))) ?_
  refine Bod.ifF dc_100_52 rfl (k1_eq_F (k_ne tk 0 rfl rfl (by omega) (by omega) (by omega))) ?_
  refine Bod.aldnG dc_100_55 (by repeat (first | exact q0 | exact sm_get_p1 | exact sm_get_p2e | refine sm_get_p1m (by decide) (by decide) ?_ | refine sm_get_p1n (by decide) rfl ?_ | refine sm_get_p2n (by decide) (by decide) rfl ?_)) ?_
  refine Bod.get dc_100_56 fr_100_19 (mk_43 _) rfl ?_
  refine Bod.ildG dc_100_59 (by repeat (first | exact q0 | exact sm_get_p1 | exact sm_get_p2e | refine sm_get_p1m (by decide) (by decide) ?_ | refine sm_get_p1n (by decide) rfl ?_ | refine sm_get_p2n (by decide) (by decide) rfl ?_)) ?_
  refine Bod.virt (r := []) dc_100_61 kr_100_248 ⟨Or.inr rfl, ow_101, cl_8⟩ (by rw [np_101]; rfl) (by rw [np_101]; rfl) (ob_of (mk_32 _)) (Nat.le_of_ble_eq_true rfl) (c2  ) ?_
  show Bod _ _ _ _ [_] _ _ _
  refine Bod.ifF dc_100_64 rfl (k1_ne_F (k_eq 0 0 rfl rfl (by omega))) ?_
  refine Bod.aldnG dc_100_67 (by repeat (first | exact q0 | exact sm_get_p1 | exact sm_get_p2e | refine sm_get_p1m (by decide) (by decide) ?_ | refine sm_get_p1n (by decide) rfl ?_ | refine sm_get_p2n (by decide) (by decide) rfl ?_)) ?_
  refine Bod.get dc_100_68 fr_100_9 (mk_43 _) rfl ?_
  refine Bod.virt (r := []) dc_100_71 kr_100_76 ⟨Or.inr rfl, ow_44, cl_3⟩ (by rw [np_44]; rfl) (by rw [np_44]; rfl) (ob_of (mk_31 _)) (Nat.le_of_ble_eq_true rfl) (c3  ) ?_
  show Bod _ _ _ _ [] _ _ _
  refine Bod.aldnG dc_100_74 (by repeat (first | exact q0 | exact sm_get_p1 | exact sm_get_p2e | refine sm_get_p1m (by decide) (by decide) ?_ | refine sm_get_p1n (by decide) rfl ?_ | refine sm_get_p2n (by decide) (by decide) rfl ?_)) ?_
  refine Bod.get dc_100_75 fr_100_15 (mk_43 _) rfl ?_
  refine Bod.ildnG dc_100_78 (by repeat (first | exact q1 | exact sm_get_p1 | exact sm_get_p2e | refine sm_get_p1m (by decide) (by decide) ?_ | refine sm_get_p1n (by decide) rfl ?_ | refine sm_get_p2n (by decide) (by decide) rfl ?_)) ?_
  refine Bod.virt (r := []) dc_100_79 kr_100_251 ⟨Or.inr rfl, ow_102, cl_7⟩ (by rw [np_102]; rfl) (by rw [np_102]; rfl) (ob_of (mk_23 _)) (Nat.le_of_ble_eq_true rfl) (c4  ) ?_
  show Bod _ _ _ _ [] _ _ _
  refine Bod.incN (fd + 1) (by rw [kc_1, nI_add]) dc_100_82 (by rw [ml_100]; exact Nat.le_of_ble_eq_true rfl) (by repeat (first | exact q3 | exact sm_get_p1 | exact sm_get_p2e | refine sm_get_p1m (by decide) (by decide) ?_ | refine sm_get_p1n (by decide) rfl ?_ | refine sm_get_p2n (by decide) (by decide) rfl ?_)) ?_
  refine Bod.aldnG dc_100_85 (by repeat (first | exact q0 | exact sm_get_p1 | exact sm_get_p2e | refine sm_get_p1m (by decide) (by decide) ?_ | refine sm_get_p1n (by decide) rfl ?_ | refine sm_get_p2n (by decide) (by decide) rfl ?_)) ?_
  refine Bod.get dc_100_86 fr_100_9 (mk_43 _) rfl ?_
  refine Bod.get dc_100_89 fr_100_79 (mk_31 _) rfl ?_
  refine Bod.eqI (nI tk1) (by first | (simp (disch := omega) only [rI, rIe, rA, rIA, rLA, rJA, rVI, rQI, rVA, rQA, upd_at,  rAI, rLI, rJI, nI_add, pk_sub, kc_0, kc_1, kc_2, kc_3, kc_4, kc_5, reduceIte, Nat.reduceEqDiff, Nat.add_zero, rI_hold, rI_hold, rL_hold, htk, htk1]; done) | (simp (disch := omega) only [rI, rIe, rA, rIA, rLA, rJA, rVI, rQI, rVA, rQA, upd_at,  rAI, rLI, rJI, nI_add, pk_sub, kc_0, kc_1, kc_2, kc_3, kc_4, kc_5, reduceIte, Nat.reduceEqDiff, Nat.add_zero, rI_hold, rI_hold, rL_hold, htk, htk1]; exact congrArg nI (by omega))) ?_
  refine Bod.bip 12 (by decide) dc_100_92 ?_
  refine Bod.icT dc_100_94 rfl (k2_ne_T (k_ne tk1 12 rfl rfl (by omega) (by omega) (by omega))) ?_
  refine Bod.ic 0 (by decide) dc_100_101 ?_
  refine Bod.istn dc_100_102 (by rw [ml_100]; exact Nat.le_of_ble_eq_true rfl) ?_
  refine Bod.ildnG dc_100_103 (by repeat (first | exact q0 | exact sm_get_p1 | exact sm_get_p2e | refine sm_get_p1m (by decide) (by decide) ?_ | refine sm_get_p1n (by decide) rfl ?_ | refine sm_get_p2n (by decide) (by decide) rfl ?_)) ?_
  refine Bod.ifT dc_100_104 rfl (k1_eq_T (k_eq 0 0 rfl rfl (by omega))) ?_
  refine Bod.go dc_100_116 rfl ?_
  exact hB _ (by repeat (first | exact q0 | exact sm_get_p1 | exact sm_get_p2e | refine sm_get_p1m (by decide) (by decide) ?_ | refine sm_get_p1n (by decide) rfl ?_ | refine sm_get_p2n (by decide) (by decide) rfl ?_)) (by repeat (first | exact q1 | exact sm_get_p1 | exact sm_get_p2e | refine sm_get_p1m (by decide) (by decide) ?_ | refine sm_get_p1n (by decide) rfl ?_ | refine sm_get_p2n (by decide) (by decide) rfl ?_)) (by repeat (first | exact q0 | exact sm_get_p1 | exact sm_get_p2e | refine sm_get_p1m (by decide) (by decide) ?_ | refine sm_get_p1n (by decide) rfl ?_ | refine sm_get_p2n (by decide) (by decide) rfl ?_)) (by repeat (first | exact q0 | exact sm_get_p1 | exact sm_get_p2e | refine sm_get_p1m (by decide) (by decide) ?_ | refine sm_get_p1n (by decide) rfl ?_ | refine sm_get_p2n (by decide) (by decide) rfl ?_))
theorem cPsL_9 {d : Nat} {S Sf : cS} {v : Option Value} {lv : sm_L} {fd : Nat} {m : Nat} {nu : Nat} {S1 : cS} {a : Nat} {tk : Nat} {S2 : cS} {S3 : cS} {S4 : cS} {tk1 : Nat} {S5 : cS} (q3 : sm_get lv 3 = some (.int (nI fd))) (q2 : sm_get lv 2 = some (.int (nI m))) (q0 : sm_get lv 0 = some (.ref 43)) (q1 : sm_get lv 1 = some (.int (nI nu))) (mfd : fd < 2 ^ 20) (mm : m < 2 ^ 20) (mnu : nu < 2 ^ 20) (b1 : m ≠ 0) (b2 : fd ≤ 8) (ma : a < 2 ^ 20) (c1 : Ans (d + 8) 92 [.ref 43] S (some (.int (nI a))) S1) (htk : sI S1 3105 = nI tk) (mtk : tk < 2 ^ 20) (b3 : tk ≠ 0) (c2 : Ans (d + 8) 101 [.ref 32, .int (nI a)] S1 (some (.int (nI 0))) S2) (c3 : Ans (d + 8) 44 [.ref 31] S2 none S3) (c4 : Ans (d + 8) 102 [.ref 23, .int (nI nu)] S3 none S4) (htk1 : sI S4 3105 = nI tk1) (mtk1 : tk1 < 2 ^ 20) (b4 : tk1 = 12) (c5 : Ans (d + 8) 75 [.ref 31, .int (nI 12)] S4 none S5) (hB : ∀ lv1 : sm_L, sm_get lv1 0 = some (.ref 43) → sm_get lv1 1 = some (.int (nI nu)) → sm_get lv1 2 = some (.int (nI 1)) → sm_get lv1 3 = some (.int (nI (fd + 1))) → Bod (d + 8) 100 29 lv1 [] (S5) v Sf) : Bod (d + 8) 100 29 lv [] S v Sf := by
  refine Bod.ildnG dc_100_29 (by repeat (first | exact q2 | exact sm_get_p1 | exact sm_get_p2e | refine sm_get_p1m (by decide) (by decide) ?_ | refine sm_get_p1n (by decide) rfl ?_ | refine sm_get_p2n (by decide) (by decide) rfl ?_)) ?_
  refine Bod.ifF dc_100_30 rfl (k1_eq_F (k_ne m 0 rfl rfl (by omega) (by omega) (by omega))) ?_
  refine Bod.ildnG dc_100_33 (by repeat (first | exact q3 | exact sm_get_p1 | exact sm_get_p2e | refine sm_get_p1m (by decide) (by decide) ?_ | refine sm_get_p1n (by decide) rfl ?_ | refine sm_get_p2n (by decide) (by decide) rfl ?_)) ?_
  refine Bod.bip 8 (by decide) dc_100_34 ?_
  refine Bod.icF dc_100_36 rfl (k2_gt_F fd 8 rfl rfl (by omega) (by omega)) ?_
  refine Bod.aldnG dc_100_39 (by repeat (first | exact q0 | exact sm_get_p1 | exact sm_get_p2e | refine sm_get_p1m (by decide) (by decide) ?_ | refine sm_get_p1n (by decide) rfl ?_ | refine sm_get_p2n (by decide) (by decide) rfl ?_)) ?_
  refine Bod.virt (r := []) dc_100_40 kr_100_220 ⟨Or.inl rfl, ow_92, cl_10⟩ (by rw [np_92]; rfl) (by rw [np_92]; rfl) (ob_of (mk_43 _)) (Nat.le_of_ble_eq_true rfl) (c1  ) ?_
  show Bod _ _ _ _ [_] _ _ _
  refine Bod.ist dc_100_43 (by rw [ml_100]; exact Nat.le_of_ble_eq_true rfl) ?_
  refine Bod.aldnG dc_100_45 (by repeat (first | exact q0 | exact sm_get_p1 | exact sm_get_p2e | refine sm_get_p1m (by decide) (by decide) ?_ | refine sm_get_p1n (by decide) rfl ?_ | refine sm_get_p2n (by decide) (by decide) rfl ?_)) ?_
  refine Bod.get dc_100_46 fr_100_9 (mk_43 _) rfl ?_
  refine Bod.get dc_100_49 fr_100_79 (mk_31 _) rfl ?_
  refine Bod.eqI (nI tk) (by first | (simp (disch := omega) only [rI, rIe, rA, rIA, rLA, rJA, rVI, rQI, rVA, rQA, upd_at,  rAI, rLI, rJI, nI_add, pk_sub, kc_0, kc_1, kc_2, kc_3, kc_4, kc_5, reduceIte, Nat.reduceEqDiff, Nat.add_zero, rI_hold, rI_hold, rL_hold, htk]; done) | (simp (disch := omega) only [rI, rIe, rA, rIA, rLA, rJA, rVI, rQI, rVA, rQA, upd_at,  rAI, rLI, rJI, nI_add, pk_sub, kc_0, kc_1, kc_2, kc_3, kc_4, kc_5, reduceIte, Nat.reduceEqDiff, Nat.add_zero, rI_hold, rI_hold, rL_hold, htk]; exact congrArg nI (by omega))) ?_
  refine Bod.ifF dc_100_52 rfl (k1_eq_F (k_ne tk 0 rfl rfl (by omega) (by omega) (by omega))) ?_
  refine Bod.aldnG dc_100_55 (by repeat (first | exact q0 | exact sm_get_p1 | exact sm_get_p2e | refine sm_get_p1m (by decide) (by decide) ?_ | refine sm_get_p1n (by decide) rfl ?_ | refine sm_get_p2n (by decide) (by decide) rfl ?_)) ?_
  refine Bod.get dc_100_56 fr_100_19 (mk_43 _) rfl ?_
  refine Bod.ildG dc_100_59 (by repeat (first | exact q0 | exact sm_get_p1 | exact sm_get_p2e | refine sm_get_p1m (by decide) (by decide) ?_ | refine sm_get_p1n (by decide) rfl ?_ | refine sm_get_p2n (by decide) (by decide) rfl ?_)) ?_
  refine Bod.virt (r := []) dc_100_61 kr_100_248 ⟨Or.inr rfl, ow_101, cl_8⟩ (by rw [np_101]; rfl) (by rw [np_101]; rfl) (ob_of (mk_32 _)) (Nat.le_of_ble_eq_true rfl) (c2  ) ?_
  show Bod _ _ _ _ [_] _ _ _
  refine Bod.ifF dc_100_64 rfl (k1_ne_F (k_eq 0 0 rfl rfl (by omega))) ?_
  refine Bod.aldnG dc_100_67 (by repeat (first | exact q0 | exact sm_get_p1 | exact sm_get_p2e | refine sm_get_p1m (by decide) (by decide) ?_ | refine sm_get_p1n (by decide) rfl ?_ | refine sm_get_p2n (by decide) (by decide) rfl ?_)) ?_
  refine Bod.get dc_100_68 fr_100_9 (mk_43 _) rfl ?_
  refine Bod.virt (r := []) dc_100_71 kr_100_76 ⟨Or.inr rfl, ow_44, cl_3⟩ (by rw [np_44]; rfl) (by rw [np_44]; rfl) (ob_of (mk_31 _)) (Nat.le_of_ble_eq_true rfl) (c3  ) ?_
  show Bod _ _ _ _ [] _ _ _
  refine Bod.aldnG dc_100_74 (by repeat (first | exact q0 | exact sm_get_p1 | exact sm_get_p2e | refine sm_get_p1m (by decide) (by decide) ?_ | refine sm_get_p1n (by decide) rfl ?_ | refine sm_get_p2n (by decide) (by decide) rfl ?_)) ?_
  refine Bod.get dc_100_75 fr_100_15 (mk_43 _) rfl ?_
  refine Bod.ildnG dc_100_78 (by repeat (first | exact q1 | exact sm_get_p1 | exact sm_get_p2e | refine sm_get_p1m (by decide) (by decide) ?_ | refine sm_get_p1n (by decide) rfl ?_ | refine sm_get_p2n (by decide) (by decide) rfl ?_)) ?_
  refine Bod.virt (r := []) dc_100_79 kr_100_251 ⟨Or.inr rfl, ow_102, cl_7⟩ (by rw [np_102]; rfl) (by rw [np_102]; rfl) (ob_of (mk_23 _)) (Nat.le_of_ble_eq_true rfl) (c4  ) ?_
  show Bod _ _ _ _ [] _ _ _
  refine Bod.incN (fd + 1) (by rw [kc_1, nI_add]) dc_100_82 (by rw [ml_100]; exact Nat.le_of_ble_eq_true rfl) (by repeat (first | exact q3 | exact sm_get_p1 | exact sm_get_p2e | refine sm_get_p1m (by decide) (by decide) ?_ | refine sm_get_p1n (by decide) rfl ?_ | refine sm_get_p2n (by decide) (by decide) rfl ?_)) ?_
  refine Bod.aldnG dc_100_85 (by repeat (first | exact q0 | exact sm_get_p1 | exact sm_get_p2e | refine sm_get_p1m (by decide) (by decide) ?_ | refine sm_get_p1n (by decide) rfl ?_ | refine sm_get_p2n (by decide) (by decide) rfl ?_)) ?_
  refine Bod.get dc_100_86 fr_100_9 (mk_43 _) rfl ?_
  refine Bod.get dc_100_89 fr_100_79 (mk_31 _) rfl ?_
  refine Bod.eqI (nI tk1) (by first | (simp (disch := omega) only [rI, rIe, rA, rIA, rLA, rJA, rVI, rQI, rVA, rQA, upd_at,  rAI, rLI, rJI, nI_add, pk_sub, kc_0, kc_1, kc_2, kc_3, kc_4, kc_5, reduceIte, Nat.reduceEqDiff, Nat.add_zero, rI_hold, rI_hold, rL_hold, htk, htk1]; done) | (simp (disch := omega) only [rI, rIe, rA, rIA, rLA, rJA, rVI, rQI, rVA, rQA, upd_at,  rAI, rLI, rJI, nI_add, pk_sub, kc_0, kc_1, kc_2, kc_3, kc_4, kc_5, reduceIte, Nat.reduceEqDiff, Nat.add_zero, rI_hold, rI_hold, rL_hold, htk, htk1]; exact congrArg nI (by omega))) ?_
  refine Bod.bip 12 (by decide) dc_100_92 ?_
  refine Bod.icF dc_100_94 rfl (k2_ne_F (k_eq tk1 12 rfl rfl (by omega))) ?_
  refine Bod.ic 1 (by decide) dc_100_97 ?_
  refine Bod.go dc_100_98 rfl ?_
  refine Bod.istn dc_100_102 (by rw [ml_100]; exact Nat.le_of_ble_eq_true rfl) ?_
  refine Bod.ildnG dc_100_103 (by repeat (first | exact q0 | exact sm_get_p1 | exact sm_get_p2e | refine sm_get_p1m (by decide) (by decide) ?_ | refine sm_get_p1n (by decide) rfl ?_ | refine sm_get_p2n (by decide) (by decide) rfl ?_)) ?_
  refine Bod.ifF dc_100_104 rfl (k1_eq_F (k_ne 1 0 rfl rfl (by omega) (by omega) (by omega))) ?_
  refine Bod.aldnG dc_100_107 (by repeat (first | exact q0 | exact sm_get_p1 | exact sm_get_p2e | refine sm_get_p1m (by decide) (by decide) ?_ | refine sm_get_p1n (by decide) rfl ?_ | refine sm_get_p2n (by decide) (by decide) rfl ?_)) ?_
  refine Bod.get dc_100_108 fr_100_9 (mk_43 _) rfl ?_
  refine Bod.bip 12 (by decide) dc_100_111 ?_
  refine Bod.virt (r := []) dc_100_113 kr_100_107 ⟨Or.inr rfl, ow_75, cl_3⟩ (by rw [np_75]; rfl) (by rw [np_75]; rfl) (ob_of (mk_31 _)) (Nat.le_of_ble_eq_true rfl) (c5  ) ?_
  show Bod _ _ _ _ [] _ _ _
  refine Bod.go dc_100_116 rfl ?_
  exact hB _ (by repeat (first | exact q0 | exact sm_get_p1 | exact sm_get_p2e | refine sm_get_p1m (by decide) (by decide) ?_ | refine sm_get_p1n (by decide) rfl ?_ | refine sm_get_p2n (by decide) (by decide) rfl ?_)) (by repeat (first | exact q1 | exact sm_get_p1 | exact sm_get_p2e | refine sm_get_p1m (by decide) (by decide) ?_ | refine sm_get_p1n (by decide) rfl ?_ | refine sm_get_p2n (by decide) (by decide) rfl ?_)) (by repeat (first | exact q0 | exact sm_get_p1 | exact sm_get_p2e | refine sm_get_p1m (by decide) (by decide) ?_ | refine sm_get_p1n (by decide) rfl ?_ | refine sm_get_p2n (by decide) (by decide) rfl ?_)) (by repeat (first | exact q0 | exact sm_get_p1 | exact sm_get_p2e | refine sm_get_p1m (by decide) (by decide) ?_ | refine sm_get_p1n (by decide) rfl ?_ | refine sm_get_p2n (by decide) (by decide) rfl ?_))
theorem cCls0_1 {d : Nat} {S Sf : cS} {v : Option Value} {dp : Nat} {ind : Nat} {ln : Nat} {S1 : cS} {S2 : cS} {a : Nat} {tk : Nat} {av : Nat} {S3 : cS} {ind1 : Nat} {S4 : cS} {S5 : cS} {a1 : Nat} {S6 : cS} {a2 : Nat} {av1 : Nat} {S7 : cS} {a3 : Nat} (mdp : dp < 2 ^ 20) (hind : sI S 3108 = nI ind) (mind : ind < 2 ^ 20) (hln : sI S 3106 = nI ln) (mln : ln < 2 ^ 20) (c1 : Ans (d + 8) 75 [.ref 31, .int (nI 47)] S none S1) (ma : a < 2 ^ 20) (c2 : Ans (d + 8) 92 [.ref 43] S1 (some (.int (nI a))) S2) (htk : sI S2 3105 = nI tk) (mtk : tk < 2 ^ 20) (b1 : tk ≠ 6) (hav : sI S2 4305 = nI av) (mav : av < 2 ^ 20) (c3 : Ans (d + 8) 85 [.ref 43, .int (nI ind), .int (nI (dp + 1))] S2 (some (.int (nI 1))) S3) (hind1 : sI S3 3108 = nI ind1) (mind1 : ind1 < 2 ^ 20) (c4 : Ans (d + 8) 106 [.ref 43, .int (nI ind1), .int (nI (dp + 1)), .int (nI av)] S3 none S4) (ma1 : a1 < 2 ^ 20) (c5 : Ans (d + 8) 54 [.ref 23, .int (nI 3), .int (nI ln)] S4 (some (.int (nI a1))) S5) (ma2 : a2 < 2 ^ 20) (c6 : Ans (d + 8) 68 [.ref 23, .int (nI 23), .int (nI a), .int (nI 0)] S5 (some (.int (nI a2))) S6) (hav1 : sI S6 4305 = nI av1) (mav1 : av1 < 2 ^ 20) (b2 : av ≤ av1) (ma3 : a3 < 2 ^ 20) (c7 : Ans (d + 8) 71 [.ref 23, .int (nI (av1 - av))] S6 (some (.int (nI a3))) S7) (hB : ∀ lv1 : sm_L, sm_get lv1 0 = some (.ref 43) → sm_get lv1 7 = some (.int (nI av)) → sm_get lv1 8 = some (.int (nI av)) → sm_get lv1 4 = some (.int (nI a)) → Bod (d + 8) 105 184 lv1 [] (S7) v Sf) : Bod (d + 8) 105 0 [(0, .ref 43), (1, .int (nI dp))] [] S v Sf := by
  refine Bod.go dc_105_0 rfl ?_
  refine Bod.get dc_105_1 fr_105_9 (mk_43 _) rfl ?_
  refine Bod.get dc_105_4 fr_105_96 (mk_31 _) rfl ?_
  refine Bod.eqI (nI ind) (by first | assumption | rfl | exact congrArg nI (by omega) | (simp (disch := omega) only [rI, rIe, rA, rIA, rLA, rJA, rVI, rQI, rVA, rQA, upd_at,  rAI, rLI, rJI, nI_add, pk_sub, kc_0, kc_1, kc_2, kc_3, kc_4, kc_5, reduceIte, Nat.reduceEqDiff, Nat.add_zero, rI_hold, rI_hold, rL_hold, hind]; done)) ?_
  refine Bod.istn dc_105_7 (by rw [ml_105]; exact Nat.le_of_ble_eq_true rfl) ?_
  refine Bod.go dc_105_8 rfl ?_
  refine Bod.get dc_105_9 fr_105_9 (mk_43 _) rfl ?_
  refine Bod.get dc_105_12 fr_105_113 (mk_31 _) rfl ?_
  refine Bod.eqI (nI ln) (by first | assumption | rfl | exact congrArg nI (by omega) | (simp (disch := omega) only [rI, rIe, rA, rIA, rLA, rJA, rVI, rQI, rVA, rQA, upd_at,  rAI, rLI, rJI, nI_add, pk_sub, kc_0, kc_1, kc_2, kc_3, kc_4, kc_5, reduceIte, Nat.reduceEqDiff, Nat.add_zero, rI_hold, rI_hold, rL_hold, hind, hln]; done)) ?_
  refine Bod.istn dc_105_15 (by rw [ml_105]; exact Nat.le_of_ble_eq_true rfl) ?_
  refine Bod.go dc_105_16 rfl ?_
  refine Bod.get dc_105_17 fr_105_9 (mk_43 _) rfl ?_
  refine Bod.bip 47 (by decide) dc_105_20 ?_
  refine Bod.virt (r := []) dc_105_22 kr_105_107 ⟨Or.inr rfl, ow_75, cl_3⟩ (by rw [np_75]; rfl) (by rw [np_75]; rfl) (ob_of (mk_31 _)) (Nat.le_of_ble_eq_true rfl) (c1  ) ?_
  show Bod _ _ _ _ [] _ _ _
  refine Bod.go dc_105_25 rfl ?_
  refine Bod.virt (r := []) dc_105_26 kr_105_220 ⟨Or.inl rfl, ow_92, cl_10⟩ (by rw [np_92]; rfl) (by rw [np_92]; rfl) (ob_of (mk_43 _)) (Nat.le_of_ble_eq_true rfl) (c2  ) ?_
  show Bod _ _ _ _ [_] _ _ _
  refine Bod.ist dc_105_29 (by rw [ml_105]; exact Nat.le_of_ble_eq_true rfl) ?_
  refine Bod.go dc_105_31 rfl ?_
  refine Bod.get dc_105_32 fr_105_9 (mk_43 _) rfl ?_
  refine Bod.get dc_105_35 fr_105_79 (mk_31 _) rfl ?_
  refine Bod.eqI (nI tk) (by first | (simp (disch := omega) only [rI, rIe, rA, rIA, rLA, rJA, rVI, rQI, rVA, rQA, upd_at,  rAI, rLI, rJI, nI_add, pk_sub, kc_0, kc_1, kc_2, kc_3, kc_4, kc_5, reduceIte, Nat.reduceEqDiff, Nat.add_zero, rI_hold, rI_hold, rL_hold, hind, hln, htk]; done) | (simp (disch := omega) only [rI, rIe, rA, rIA, rLA, rJA, rVI, rQI, rVA, rQA, upd_at,  rAI, rLI, rJI, nI_add, pk_sub, kc_0, kc_1, kc_2, kc_3, kc_4, kc_5, reduceIte, Nat.reduceEqDiff, Nat.add_zero, rI_hold, rI_hold, rL_hold, hind, hln, htk]; exact congrArg nI (by omega))) ?_
  refine Bod.bip 6 (by decide) dc_105_38 ?_
  refine Bod.icT dc_105_40 rfl (k2_ne_T (k_ne tk 6 rfl rfl (by omega) (by omega) (by omega))) ?_
  refine Bod.ic 0 (by decide) dc_105_47 ?_
  refine Bod.ist dc_105_48 (by rw [ml_105]; exact Nat.le_of_ble_eq_true rfl) ?_
  refine Bod.go dc_105_50 rfl ?_
  refine Bod.ist dc_105_52 (by rw [ml_105]; exact Nat.le_of_ble_eq_true rfl) ?_
  refine Bod.go dc_105_54 rfl ?_
  refine Bod.ifT dc_105_56 rfl (k1_eq_T (k_eq 0 0 rfl rfl (by omega))) ?_
  refine Bod.go dc_105_83 rfl ?_
  refine Bod.get dc_105_84 fr_105_42 (mk_43 _) rfl ?_
  refine Bod.eqI (nI av) (by first | (simp (disch := omega) only [rI, rIe, rA, rIA, rLA, rJA, rVI, rQI, rVA, rQA, upd_at,  rAI, rLI, rJI, nI_add, pk_sub, kc_0, kc_1, kc_2, kc_3, kc_4, kc_5, reduceIte, Nat.reduceEqDiff, Nat.add_zero, rI_hold, rI_hold, rL_hold, hind, hln, htk, hav]; done) | (simp (disch := omega) only [rI, rIe, rA, rIA, rLA, rJA, rVI, rQI, rVA, rQA, upd_at,  rAI, rLI, rJI, nI_add, pk_sub, kc_0, kc_1, kc_2, kc_3, kc_4, kc_5, reduceIte, Nat.reduceEqDiff, Nat.add_zero, rI_hold, rI_hold, rL_hold, hind, hln, htk, hav]; exact congrArg nI (by omega))) ?_
  refine Bod.ist dc_105_87 (by rw [ml_105]; exact Nat.le_of_ble_eq_true rfl) ?_
  refine Bod.go dc_105_89 rfl ?_
  refine Bod.go dc_105_90 rfl ?_
  refine Bod.go dc_105_91 rfl ?_
  refine Bod.ic 1 (by decide) dc_105_92 ?_
  refine Bod.addN (dp + 1) (by omega) dc_105_93 ?_
  refine Bod.virt (r := []) dc_105_94 kr_105_99 ⟨Or.inl rfl, ow_85, cl_10⟩ (by rw [np_85]; rfl) (by rw [np_85]; rfl) (ob_of (mk_43 _)) (Nat.le_of_ble_eq_true rfl) (c3  ) ?_
  show Bod _ _ _ _ [_] _ _ _
  refine Bod.ifF dc_105_97 rfl (k1_eq_F (k_ne 1 0 rfl rfl (by omega) (by omega) (by omega))) ?_
  refine Bod.go dc_105_100 rfl ?_
  refine Bod.go dc_105_101 rfl ?_
  refine Bod.get dc_105_102 fr_105_9 (mk_43 _) rfl ?_
  refine Bod.get dc_105_105 fr_105_96 (mk_31 _) rfl ?_
  refine Bod.eqI (nI ind1) (by first | (simp (disch := omega) only [rI, rIe, rA, rIA, rLA, rJA, rVI, rQI, rVA, rQA, upd_at,  rAI, rLI, rJI, nI_add, pk_sub, kc_0, kc_1, kc_2, kc_3, kc_4, kc_5, reduceIte, Nat.reduceEqDiff, Nat.add_zero, rI_hold, rI_hold, rL_hold, hind, hln, htk, hav, hind1]; done) | (simp (disch := omega) only [rI, rIe, rA, rIA, rLA, rJA, rVI, rQI, rVA, rQA, upd_at,  rAI, rLI, rJI, nI_add, pk_sub, kc_0, kc_1, kc_2, kc_3, kc_4, kc_5, reduceIte, Nat.reduceEqDiff, Nat.add_zero, rI_hold, rI_hold, rL_hold, hind, hln, htk, hav, hind1]; exact congrArg nI (by omega))) ?_
  refine Bod.go dc_105_108 rfl ?_
  refine Bod.ic 1 (by decide) dc_105_109 ?_
  refine Bod.addN (dp + 1) (by omega) dc_105_110 ?_
  refine Bod.go dc_105_111 rfl ?_
  refine Bod.virt (r := []) dc_105_113 kr_105_254 ⟨Or.inl rfl, ow_106, cl_10⟩ (by rw [np_106]; rfl) (by rw [np_106]; rfl) (ob_of (mk_43 _)) (Nat.le_of_ble_eq_true rfl) (c4  ) ?_
  show Bod _ _ _ _ [] _ _ _
  refine Bod.go dc_105_116 rfl ?_
  refine Bod.get dc_105_117 fr_105_15 (mk_43 _) rfl ?_
  refine Bod.ic 3 (by decide) dc_105_120 ?_
  refine Bod.go dc_105_121 rfl ?_
  refine Bod.virt (r := []) dc_105_122 kr_105_116 ⟨Or.inr rfl, ow_54, cl_7⟩ (by rw [np_54]; rfl) (by rw [np_54]; rfl) (ob_of (mk_23 _)) (Nat.le_of_ble_eq_true rfl) (c5  ) ?_
  show Bod _ _ _ _ [_] _ _ _
  refine Bod.go dc_105_125 rfl ?_
  refine Bod.go dc_105_126 rfl ?_
  refine Bod.ifT dc_105_128 rfl (k1_eq_T (k_eq 0 0 rfl rfl (by omega))) ?_
  refine Bod.go dc_105_143 rfl ?_
  refine Bod.get dc_105_144 fr_105_15 (mk_43 _) rfl ?_
  refine Bod.bip 23 (by decide) dc_105_147 ?_
  refine Bod.go dc_105_149 rfl ?_
  refine Bod.go dc_105_151 rfl ?_
  refine Bod.ifT dc_105_153 rfl (k1_eq_T (k_eq 0 0 rfl rfl (by omega))) ?_
  refine Bod.ic 0 (by decide) dc_105_160 ?_
  refine Bod.virt (r := []) dc_105_161 kr_105_257 ⟨Or.inr rfl, ow_68, cl_7⟩ (by rw [np_68]; rfl) (by rw [np_68]; rfl) (ob_of (mk_23 _)) (Nat.le_of_ble_eq_true rfl) (c6  ) ?_
  show Bod _ _ _ _ [_] _ _ _
  refine Bod.go dc_105_164 rfl ?_
  refine Bod.go dc_105_165 rfl ?_
  refine Bod.get dc_105_166 fr_105_15 (mk_43 _) rfl ?_
  refine Bod.go dc_105_169 rfl ?_
  refine Bod.get dc_105_170 fr_105_42 (mk_43 _) rfl ?_
  refine Bod.eqI (nI av1) (by first | (simp (disch := omega) only [rI, rIe, rA, rIA, rLA, rJA, rVI, rQI, rVA, rQA, upd_at,  rAI, rLI, rJI, nI_add, pk_sub, kc_0, kc_1, kc_2, kc_3, kc_4, kc_5, reduceIte, Nat.reduceEqDiff, Nat.add_zero, rI_hold, rI_hold, rL_hold, hind, hln, htk, hav, hind1, hav1]; done) | (simp (disch := omega) only [rI, rIe, rA, rIA, rLA, rJA, rVI, rQI, rVA, rQA, upd_at,  rAI, rLI, rJI, nI_add, pk_sub, kc_0, kc_1, kc_2, kc_3, kc_4, kc_5, reduceIte, Nat.reduceEqDiff, Nat.add_zero, rI_hold, rI_hold, rL_hold, hind, hln, htk, hav, hind1, hav1]; exact congrArg nI (by omega))) ?_
  refine Bod.go dc_105_173 rfl ?_
  refine Bod.subN (av1 - av) (by omega) (by omega) dc_105_175 ?_
  refine Bod.virt (r := []) dc_105_176 kr_105_72 ⟨Or.inr rfl, ow_71, cl_7⟩ (by rw [np_71]; rfl) (by rw [np_71]; rfl) (ob_of (mk_23 _)) (Nat.le_of_ble_eq_true rfl) (c7  ) ?_
  show Bod _ _ _ _ [_] _ _ _
  refine Bod.go dc_105_179 rfl ?_
  refine Bod.go dc_105_180 rfl ?_
  refine Bod.ist dc_105_182 (by rw [ml_105]; exact Nat.le_of_ble_eq_true rfl) ?_
  exact hB _ (by first | rfl | exact (by repeat (first | exact rfl | exact sm_get_p1 | exact sm_get_p2e | refine sm_get_p1m (by decide) (by decide) ?_ | refine sm_get_p1n (by decide) rfl ?_ | refine sm_get_p2n (by decide) (by decide) rfl ?_))) (by first | rfl | exact (by repeat (first | exact rfl | exact sm_get_p1 | exact sm_get_p2e | refine sm_get_p1m (by decide) (by decide) ?_ | refine sm_get_p1n (by decide) rfl ?_ | refine sm_get_p2n (by decide) (by decide) rfl ?_))) (by first | rfl | exact (by repeat (first | exact rfl | exact sm_get_p1 | exact sm_get_p2e | refine sm_get_p1m (by decide) (by decide) ?_ | refine sm_get_p1n (by decide) rfl ?_ | refine sm_get_p2n (by decide) (by decide) rfl ?_))) (by first | rfl | exact (by repeat (first | exact rfl | exact sm_get_p1 | exact sm_get_p2e | refine sm_get_p1m (by decide) (by decide) ?_ | refine sm_get_p1n (by decide) rfl ?_ | refine sm_get_p2n (by decide) (by decide) rfl ?_)))
theorem cCls0_2 {d : Nat} {S Sf : cS} {v : Option Value} {dp : Nat} {ind : Nat} {ln : Nat} {S1 : cS} {S2 : cS} {a : Nat} {tk : Nat} {av : Nat} {S3 : cS} {S4 : cS} {a1 : Nat} {S5 : cS} {a2 : Nat} {av1 : Nat} {S6 : cS} {a3 : Nat} (mdp : dp < 2 ^ 20) (hind : sI S 3108 = nI ind) (mind : ind < 2 ^ 20) (hln : sI S 3106 = nI ln) (mln : ln < 2 ^ 20) (c1 : Ans (d + 8) 75 [.ref 31, .int (nI 47)] S none S1) (ma : a < 2 ^ 20) (c2 : Ans (d + 8) 92 [.ref 43] S1 (some (.int (nI a))) S2) (htk : sI S2 3105 = nI tk) (mtk : tk < 2 ^ 20) (b1 : tk ≠ 6) (hav : sI S2 4305 = nI av) (mav : av < 2 ^ 20) (c3 : Ans (d + 8) 85 [.ref 43, .int (nI ind), .int (nI (dp + 1))] S2 (some (.int (nI 0))) S3) (ma1 : a1 < 2 ^ 20) (c4 : Ans (d + 8) 54 [.ref 23, .int (nI 3), .int (nI ln)] S3 (some (.int (nI a1))) S4) (ma2 : a2 < 2 ^ 20) (c5 : Ans (d + 8) 68 [.ref 23, .int (nI 23), .int (nI a), .int (nI 0)] S4 (some (.int (nI a2))) S5) (hav1 : sI S5 4305 = nI av1) (mav1 : av1 < 2 ^ 20) (b2 : av ≤ av1) (ma3 : a3 < 2 ^ 20) (c6 : Ans (d + 8) 71 [.ref 23, .int (nI (av1 - av))] S5 (some (.int (nI a3))) S6) (hB : ∀ lv1 : sm_L, sm_get lv1 0 = some (.ref 43) → sm_get lv1 7 = some (.int (nI av)) → sm_get lv1 8 = some (.int (nI av)) → sm_get lv1 4 = some (.int (nI a)) → Bod (d + 8) 105 184 lv1 [] (S6) v Sf) : Bod (d + 8) 105 0 [(0, .ref 43), (1, .int (nI dp))] [] S v Sf := by
  refine Bod.go dc_105_0 rfl ?_
  refine Bod.get dc_105_1 fr_105_9 (mk_43 _) rfl ?_
  refine Bod.get dc_105_4 fr_105_96 (mk_31 _) rfl ?_
  refine Bod.eqI (nI ind) (by first | assumption | rfl | exact congrArg nI (by omega) | (simp (disch := omega) only [rI, rIe, rA, rIA, rLA, rJA, rVI, rQI, rVA, rQA, upd_at,  rAI, rLI, rJI, nI_add, pk_sub, kc_0, kc_1, kc_2, kc_3, kc_4, kc_5, reduceIte, Nat.reduceEqDiff, Nat.add_zero, rI_hold, rI_hold, rL_hold, hind]; done)) ?_
  refine Bod.istn dc_105_7 (by rw [ml_105]; exact Nat.le_of_ble_eq_true rfl) ?_
  refine Bod.go dc_105_8 rfl ?_
  refine Bod.get dc_105_9 fr_105_9 (mk_43 _) rfl ?_
  refine Bod.get dc_105_12 fr_105_113 (mk_31 _) rfl ?_
  refine Bod.eqI (nI ln) (by first | assumption | rfl | exact congrArg nI (by omega) | (simp (disch := omega) only [rI, rIe, rA, rIA, rLA, rJA, rVI, rQI, rVA, rQA, upd_at,  rAI, rLI, rJI, nI_add, pk_sub, kc_0, kc_1, kc_2, kc_3, kc_4, kc_5, reduceIte, Nat.reduceEqDiff, Nat.add_zero, rI_hold, rI_hold, rL_hold, hind, hln]; done)) ?_
  refine Bod.istn dc_105_15 (by rw [ml_105]; exact Nat.le_of_ble_eq_true rfl) ?_
  refine Bod.go dc_105_16 rfl ?_
  refine Bod.get dc_105_17 fr_105_9 (mk_43 _) rfl ?_
  refine Bod.bip 47 (by decide) dc_105_20 ?_
  refine Bod.virt (r := []) dc_105_22 kr_105_107 ⟨Or.inr rfl, ow_75, cl_3⟩ (by rw [np_75]; rfl) (by rw [np_75]; rfl) (ob_of (mk_31 _)) (Nat.le_of_ble_eq_true rfl) (c1  ) ?_
  show Bod _ _ _ _ [] _ _ _
  refine Bod.go dc_105_25 rfl ?_
  refine Bod.virt (r := []) dc_105_26 kr_105_220 ⟨Or.inl rfl, ow_92, cl_10⟩ (by rw [np_92]; rfl) (by rw [np_92]; rfl) (ob_of (mk_43 _)) (Nat.le_of_ble_eq_true rfl) (c2  ) ?_
  show Bod _ _ _ _ [_] _ _ _
  refine Bod.ist dc_105_29 (by rw [ml_105]; exact Nat.le_of_ble_eq_true rfl) ?_
  refine Bod.go dc_105_31 rfl ?_
  refine Bod.get dc_105_32 fr_105_9 (mk_43 _) rfl ?_
  refine Bod.get dc_105_35 fr_105_79 (mk_31 _) rfl ?_
  refine Bod.eqI (nI tk) (by first | (simp (disch := omega) only [rI, rIe, rA, rIA, rLA, rJA, rVI, rQI, rVA, rQA, upd_at,  rAI, rLI, rJI, nI_add, pk_sub, kc_0, kc_1, kc_2, kc_3, kc_4, kc_5, reduceIte, Nat.reduceEqDiff, Nat.add_zero, rI_hold, rI_hold, rL_hold, hind, hln, htk]; done) | (simp (disch := omega) only [rI, rIe, rA, rIA, rLA, rJA, rVI, rQI, rVA, rQA, upd_at,  rAI, rLI, rJI, nI_add, pk_sub, kc_0, kc_1, kc_2, kc_3, kc_4, kc_5, reduceIte, Nat.reduceEqDiff, Nat.add_zero, rI_hold, rI_hold, rL_hold, hind, hln, htk]; exact congrArg nI (by omega))) ?_
  refine Bod.bip 6 (by decide) dc_105_38 ?_
  refine Bod.icT dc_105_40 rfl (k2_ne_T (k_ne tk 6 rfl rfl (by omega) (by omega) (by omega))) ?_
  refine Bod.ic 0 (by decide) dc_105_47 ?_
  refine Bod.ist dc_105_48 (by rw [ml_105]; exact Nat.le_of_ble_eq_true rfl) ?_
  refine Bod.go dc_105_50 rfl ?_
  refine Bod.ist dc_105_52 (by rw [ml_105]; exact Nat.le_of_ble_eq_true rfl) ?_
  refine Bod.go dc_105_54 rfl ?_
  refine Bod.ifT dc_105_56 rfl (k1_eq_T (k_eq 0 0 rfl rfl (by omega))) ?_
  refine Bod.go dc_105_83 rfl ?_
  refine Bod.get dc_105_84 fr_105_42 (mk_43 _) rfl ?_
  refine Bod.eqI (nI av) (by first | (simp (disch := omega) only [rI, rIe, rA, rIA, rLA, rJA, rVI, rQI, rVA, rQA, upd_at,  rAI, rLI, rJI, nI_add, pk_sub, kc_0, kc_1, kc_2, kc_3, kc_4, kc_5, reduceIte, Nat.reduceEqDiff, Nat.add_zero, rI_hold, rI_hold, rL_hold, hind, hln, htk, hav]; done) | (simp (disch := omega) only [rI, rIe, rA, rIA, rLA, rJA, rVI, rQI, rVA, rQA, upd_at,  rAI, rLI, rJI, nI_add, pk_sub, kc_0, kc_1, kc_2, kc_3, kc_4, kc_5, reduceIte, Nat.reduceEqDiff, Nat.add_zero, rI_hold, rI_hold, rL_hold, hind, hln, htk, hav]; exact congrArg nI (by omega))) ?_
  refine Bod.ist dc_105_87 (by rw [ml_105]; exact Nat.le_of_ble_eq_true rfl) ?_
  refine Bod.go dc_105_89 rfl ?_
  refine Bod.go dc_105_90 rfl ?_
  refine Bod.go dc_105_91 rfl ?_
  refine Bod.ic 1 (by decide) dc_105_92 ?_
  refine Bod.addN (dp + 1) (by omega) dc_105_93 ?_
  refine Bod.virt (r := []) dc_105_94 kr_105_99 ⟨Or.inl rfl, ow_85, cl_10⟩ (by rw [np_85]; rfl) (by rw [np_85]; rfl) (ob_of (mk_43 _)) (Nat.le_of_ble_eq_true rfl) (c3  ) ?_
  show Bod _ _ _ _ [_] _ _ _
  refine Bod.ifT dc_105_97 rfl (k1_eq_T (k_eq 0 0 rfl rfl (by omega))) ?_
  refine Bod.go dc_105_116 rfl ?_
  refine Bod.get dc_105_117 fr_105_15 (mk_43 _) rfl ?_
  refine Bod.ic 3 (by decide) dc_105_120 ?_
  refine Bod.go dc_105_121 rfl ?_
  refine Bod.virt (r := []) dc_105_122 kr_105_116 ⟨Or.inr rfl, ow_54, cl_7⟩ (by rw [np_54]; rfl) (by rw [np_54]; rfl) (ob_of (mk_23 _)) (Nat.le_of_ble_eq_true rfl) (c4  ) ?_
  show Bod _ _ _ _ [_] _ _ _
  refine Bod.go dc_105_125 rfl ?_
  refine Bod.go dc_105_126 rfl ?_
  refine Bod.ifT dc_105_128 rfl (k1_eq_T (k_eq 0 0 rfl rfl (by omega))) ?_
  refine Bod.go dc_105_143 rfl ?_
  refine Bod.get dc_105_144 fr_105_15 (mk_43 _) rfl ?_
  refine Bod.bip 23 (by decide) dc_105_147 ?_
  refine Bod.go dc_105_149 rfl ?_
  refine Bod.go dc_105_151 rfl ?_
  refine Bod.ifT dc_105_153 rfl (k1_eq_T (k_eq 0 0 rfl rfl (by omega))) ?_
  refine Bod.ic 0 (by decide) dc_105_160 ?_
  refine Bod.virt (r := []) dc_105_161 kr_105_257 ⟨Or.inr rfl, ow_68, cl_7⟩ (by rw [np_68]; rfl) (by rw [np_68]; rfl) (ob_of (mk_23 _)) (Nat.le_of_ble_eq_true rfl) (c5  ) ?_
  show Bod _ _ _ _ [_] _ _ _
  refine Bod.go dc_105_164 rfl ?_
  refine Bod.go dc_105_165 rfl ?_
  refine Bod.get dc_105_166 fr_105_15 (mk_43 _) rfl ?_
  refine Bod.go dc_105_169 rfl ?_
  refine Bod.get dc_105_170 fr_105_42 (mk_43 _) rfl ?_
  refine Bod.eqI (nI av1) (by first | (simp (disch := omega) only [rI, rIe, rA, rIA, rLA, rJA, rVI, rQI, rVA, rQA, upd_at,  rAI, rLI, rJI, nI_add, pk_sub, kc_0, kc_1, kc_2, kc_3, kc_4, kc_5, reduceIte, Nat.reduceEqDiff, Nat.add_zero, rI_hold, rI_hold, rL_hold, hind, hln, htk, hav, hav1]; done) | (simp (disch := omega) only [rI, rIe, rA, rIA, rLA, rJA, rVI, rQI, rVA, rQA, upd_at,  rAI, rLI, rJI, nI_add, pk_sub, kc_0, kc_1, kc_2, kc_3, kc_4, kc_5, reduceIte, Nat.reduceEqDiff, Nat.add_zero, rI_hold, rI_hold, rL_hold, hind, hln, htk, hav, hav1]; exact congrArg nI (by omega))) ?_
  refine Bod.go dc_105_173 rfl ?_
  refine Bod.subN (av1 - av) (by omega) (by omega) dc_105_175 ?_
  refine Bod.virt (r := []) dc_105_176 kr_105_72 ⟨Or.inr rfl, ow_71, cl_7⟩ (by rw [np_71]; rfl) (by rw [np_71]; rfl) (ob_of (mk_23 _)) (Nat.le_of_ble_eq_true rfl) (c6  ) ?_
  show Bod _ _ _ _ [_] _ _ _
  refine Bod.go dc_105_179 rfl ?_
  refine Bod.go dc_105_180 rfl ?_
  refine Bod.ist dc_105_182 (by rw [ml_105]; exact Nat.le_of_ble_eq_true rfl) ?_
  exact hB _ (by first | rfl | exact (by repeat (first | exact rfl | exact sm_get_p1 | exact sm_get_p2e | refine sm_get_p1m (by decide) (by decide) ?_ | refine sm_get_p1n (by decide) rfl ?_ | refine sm_get_p2n (by decide) (by decide) rfl ?_))) (by first | rfl | exact (by repeat (first | exact rfl | exact sm_get_p1 | exact sm_get_p2e | refine sm_get_p1m (by decide) (by decide) ?_ | refine sm_get_p1n (by decide) rfl ?_ | refine sm_get_p2n (by decide) (by decide) rfl ?_))) (by first | rfl | exact (by repeat (first | exact rfl | exact sm_get_p1 | exact sm_get_p2e | refine sm_get_p1m (by decide) (by decide) ?_ | refine sm_get_p1n (by decide) rfl ?_ | refine sm_get_p2n (by decide) (by decide) rfl ?_))) (by first | rfl | exact (by repeat (first | exact rfl | exact sm_get_p1 | exact sm_get_p2e | refine sm_get_p1m (by decide) (by decide) ?_ | refine sm_get_p1n (by decide) rfl ?_ | refine sm_get_p2n (by decide) (by decide) rfl ?_)))
theorem cCls0_3 {d : Nat} {S Sf : cS} {v : Option Value} {dp : Nat} {ind : Nat} {ln : Nat} {S1 : cS} {S2 : cS} {a : Nat} {tk : Nat} {S3 : cS} {S4 : cS} {a1 : Nat} {S5 : cS} {av : Nat} {S6 : cS} {ind1 : Nat} {S7 : cS} {S8 : cS} {a2 : Nat} {S9 : cS} {a3 : Nat} {S10 : cS} {a4 : Nat} {av1 : Nat} {S11 : cS} {a5 : Nat} (mdp : dp < 2 ^ 20) (hind : sI S 3108 = nI ind) (mind : ind < 2 ^ 20) (hln : sI S 3106 = nI ln) (mln : ln < 2 ^ 20) (c1 : Ans (d + 8) 75 [.ref 31, .int (nI 47)] S none S1) (ma : a < 2 ^ 20) (c2 : Ans (d + 8) 92 [.ref 43] S1 (some (.int (nI a))) S2) (htk : sI S2 3105 = nI tk) (mtk : tk < 2 ^ 20) (b1 : tk = 6) (c3 : Ans (d + 8) 75 [.ref 31, .int (nI 6)] S2 none S3) (ma1 : a1 < 2 ^ 20) (c4 : Ans (d + 8) 92 [.ref 43] S3 (some (.int (nI a1))) S4) (c5 : Ans (d + 8) 75 [.ref 31, .int (nI 7)] S4 none S5) (hav : sI S5 4305 = nI av) (mav : av < 2 ^ 20) (c6 : Ans (d + 8) 85 [.ref 43, .int (nI ind), .int (nI (dp + 1))] S5 (some (.int (nI 1))) S6) (hind1 : sI S6 3108 = nI ind1) (mind1 : ind1 < 2 ^ 20) (c7 : Ans (d + 8) 106 [.ref 43, .int (nI ind1), .int (nI (dp + 1)), .int (nI av)] S6 none S7) (ma2 : a2 < 2 ^ 20) (c8 : Ans (d + 8) 54 [.ref 23, .int (nI 3), .int (nI ln)] S7 (some (.int (nI a2))) S8) (ma3 : a3 < 2 ^ 20) (c9 : Ans (d + 8) 67 [.ref 32, .int (nI 18), .int (nI a1)] S8 (some (.int (nI a3))) S9) (ma4 : a4 < 2 ^ 20) (c10 : Ans (d + 8) 68 [.ref 23, .int (nI 23), .int (nI a), .int (nI 1)] S9 (some (.int (nI a4))) S10) (hav1 : sI S10 4305 = nI av1) (mav1 : av1 < 2 ^ 20) (b2 : av ≤ av1) (ma5 : a5 < 2 ^ 20) (c11 : Ans (d + 8) 71 [.ref 23, .int (nI (av1 - av))] S10 (some (.int (nI a5))) S11) (hB : ∀ lv1 : sm_L, sm_get lv1 0 = some (.ref 43) → sm_get lv1 7 = some (.int (nI av)) → sm_get lv1 8 = some (.int (nI av)) → sm_get lv1 4 = some (.int (nI a)) → Bod (d + 8) 105 184 lv1 [] (S11) v Sf) : Bod (d + 8) 105 0 [(0, .ref 43), (1, .int (nI dp))] [] S v Sf := by
  refine Bod.go dc_105_0 rfl ?_
  refine Bod.get dc_105_1 fr_105_9 (mk_43 _) rfl ?_
  refine Bod.get dc_105_4 fr_105_96 (mk_31 _) rfl ?_
  refine Bod.eqI (nI ind) (by first | assumption | rfl | exact congrArg nI (by omega) | (simp (disch := omega) only [rI, rIe, rA, rIA, rLA, rJA, rVI, rQI, rVA, rQA, upd_at,  rAI, rLI, rJI, nI_add, pk_sub, kc_0, kc_1, kc_2, kc_3, kc_4, kc_5, reduceIte, Nat.reduceEqDiff, Nat.add_zero, rI_hold, rI_hold, rL_hold, hind]; done)) ?_
  refine Bod.istn dc_105_7 (by rw [ml_105]; exact Nat.le_of_ble_eq_true rfl) ?_
  refine Bod.go dc_105_8 rfl ?_
  refine Bod.get dc_105_9 fr_105_9 (mk_43 _) rfl ?_
  refine Bod.get dc_105_12 fr_105_113 (mk_31 _) rfl ?_
  refine Bod.eqI (nI ln) (by first | assumption | rfl | exact congrArg nI (by omega) | (simp (disch := omega) only [rI, rIe, rA, rIA, rLA, rJA, rVI, rQI, rVA, rQA, upd_at,  rAI, rLI, rJI, nI_add, pk_sub, kc_0, kc_1, kc_2, kc_3, kc_4, kc_5, reduceIte, Nat.reduceEqDiff, Nat.add_zero, rI_hold, rI_hold, rL_hold, hind, hln]; done)) ?_
  refine Bod.istn dc_105_15 (by rw [ml_105]; exact Nat.le_of_ble_eq_true rfl) ?_
  refine Bod.go dc_105_16 rfl ?_
  refine Bod.get dc_105_17 fr_105_9 (mk_43 _) rfl ?_
  refine Bod.bip 47 (by decide) dc_105_20 ?_
  refine Bod.virt (r := []) dc_105_22 kr_105_107 ⟨Or.inr rfl, ow_75, cl_3⟩ (by rw [np_75]; rfl) (by rw [np_75]; rfl) (ob_of (mk_31 _)) (Nat.le_of_ble_eq_true rfl) (c1  ) ?_
  show Bod _ _ _ _ [] _ _ _
  refine Bod.go dc_105_25 rfl ?_
  refine Bod.virt (r := []) dc_105_26 kr_105_220 ⟨Or.inl rfl, ow_92, cl_10⟩ (by rw [np_92]; rfl) (by rw [np_92]; rfl) (ob_of (mk_43 _)) (Nat.le_of_ble_eq_true rfl) (c2  ) ?_
  show Bod _ _ _ _ [_] _ _ _
  refine Bod.ist dc_105_29 (by rw [ml_105]; exact Nat.le_of_ble_eq_true rfl) ?_
  refine Bod.go dc_105_31 rfl ?_
  refine Bod.get dc_105_32 fr_105_9 (mk_43 _) rfl ?_
  refine Bod.get dc_105_35 fr_105_79 (mk_31 _) rfl ?_
  refine Bod.eqI (nI tk) (by first | (simp (disch := omega) only [rI, rIe, rA, rIA, rLA, rJA, rVI, rQI, rVA, rQA, upd_at,  rAI, rLI, rJI, nI_add, pk_sub, kc_0, kc_1, kc_2, kc_3, kc_4, kc_5, reduceIte, Nat.reduceEqDiff, Nat.add_zero, rI_hold, rI_hold, rL_hold, hind, hln, htk]; done) | (simp (disch := omega) only [rI, rIe, rA, rIA, rLA, rJA, rVI, rQI, rVA, rQA, upd_at,  rAI, rLI, rJI, nI_add, pk_sub, kc_0, kc_1, kc_2, kc_3, kc_4, kc_5, reduceIte, Nat.reduceEqDiff, Nat.add_zero, rI_hold, rI_hold, rL_hold, hind, hln, htk]; exact congrArg nI (by omega))) ?_
  refine Bod.bip 6 (by decide) dc_105_38 ?_
  refine Bod.icF dc_105_40 rfl (k2_ne_F (k_eq tk 6 rfl rfl (by omega))) ?_
  refine Bod.ic 1 (by decide) dc_105_43 ?_
  refine Bod.go dc_105_44 rfl ?_
  refine Bod.ist dc_105_48 (by rw [ml_105]; exact Nat.le_of_ble_eq_true rfl) ?_
  refine Bod.go dc_105_50 rfl ?_
  refine Bod.ist dc_105_52 (by rw [ml_105]; exact Nat.le_of_ble_eq_true rfl) ?_
  refine Bod.go dc_105_54 rfl ?_
  refine Bod.ifF dc_105_56 rfl (k1_eq_F (k_ne 1 0 rfl rfl (by omega) (by omega) (by omega))) ?_
  refine Bod.go dc_105_59 rfl ?_
  refine Bod.get dc_105_60 fr_105_9 (mk_43 _) rfl ?_
  refine Bod.bip 6 (by decide) dc_105_63 ?_
  refine Bod.virt (r := []) dc_105_65 kr_105_107 ⟨Or.inr rfl, ow_75, cl_3⟩ (by rw [np_75]; rfl) (by rw [np_75]; rfl) (ob_of (mk_31 _)) (Nat.le_of_ble_eq_true rfl) (c3  ) ?_
  show Bod _ _ _ _ [] _ _ _
  refine Bod.go dc_105_68 rfl ?_
  refine Bod.virt (r := []) dc_105_69 kr_105_220 ⟨Or.inl rfl, ow_92, cl_10⟩ (by rw [np_92]; rfl) (by rw [np_92]; rfl) (ob_of (mk_43 _)) (Nat.le_of_ble_eq_true rfl) (c4  ) ?_
  show Bod _ _ _ _ [_] _ _ _
  refine Bod.ist dc_105_72 (by rw [ml_105]; exact Nat.le_of_ble_eq_true rfl) ?_
  refine Bod.go dc_105_74 rfl ?_
  refine Bod.get dc_105_75 fr_105_9 (mk_43 _) rfl ?_
  refine Bod.bip 7 (by decide) dc_105_78 ?_
  refine Bod.virt (r := []) dc_105_80 kr_105_107 ⟨Or.inr rfl, ow_75, cl_3⟩ (by rw [np_75]; rfl) (by rw [np_75]; rfl) (ob_of (mk_31 _)) (Nat.le_of_ble_eq_true rfl) (c5  ) ?_
  show Bod _ _ _ _ [] _ _ _
  refine Bod.go dc_105_83 rfl ?_
  refine Bod.get dc_105_84 fr_105_42 (mk_43 _) rfl ?_
  refine Bod.eqI (nI av) (by first | (simp (disch := omega) only [rI, rIe, rA, rIA, rLA, rJA, rVI, rQI, rVA, rQA, upd_at,  rAI, rLI, rJI, nI_add, pk_sub, kc_0, kc_1, kc_2, kc_3, kc_4, kc_5, reduceIte, Nat.reduceEqDiff, Nat.add_zero, rI_hold, rI_hold, rL_hold, hind, hln, htk, hav]; done) | (simp (disch := omega) only [rI, rIe, rA, rIA, rLA, rJA, rVI, rQI, rVA, rQA, upd_at,  rAI, rLI, rJI, nI_add, pk_sub, kc_0, kc_1, kc_2, kc_3, kc_4, kc_5, reduceIte, Nat.reduceEqDiff, Nat.add_zero, rI_hold, rI_hold, rL_hold, hind, hln, htk, hav]; exact congrArg nI (by omega))) ?_
  refine Bod.ist dc_105_87 (by rw [ml_105]; exact Nat.le_of_ble_eq_true rfl) ?_
  refine Bod.go dc_105_89 rfl ?_
  refine Bod.go dc_105_90 rfl ?_
  refine Bod.go dc_105_91 rfl ?_
  refine Bod.ic 1 (by decide) dc_105_92 ?_
  refine Bod.addN (dp + 1) (by omega) dc_105_93 ?_
  refine Bod.virt (r := []) dc_105_94 kr_105_99 ⟨Or.inl rfl, ow_85, cl_10⟩ (by rw [np_85]; rfl) (by rw [np_85]; rfl) (ob_of (mk_43 _)) (Nat.le_of_ble_eq_true rfl) (c6  ) ?_
  show Bod _ _ _ _ [_] _ _ _
  refine Bod.ifF dc_105_97 rfl (k1_eq_F (k_ne 1 0 rfl rfl (by omega) (by omega) (by omega))) ?_
  refine Bod.go dc_105_100 rfl ?_
  refine Bod.go dc_105_101 rfl ?_
  refine Bod.get dc_105_102 fr_105_9 (mk_43 _) rfl ?_
  refine Bod.get dc_105_105 fr_105_96 (mk_31 _) rfl ?_
  refine Bod.eqI (nI ind1) (by first | (simp (disch := omega) only [rI, rIe, rA, rIA, rLA, rJA, rVI, rQI, rVA, rQA, upd_at,  rAI, rLI, rJI, nI_add, pk_sub, kc_0, kc_1, kc_2, kc_3, kc_4, kc_5, reduceIte, Nat.reduceEqDiff, Nat.add_zero, rI_hold, rI_hold, rL_hold, hind, hln, htk, hav, hind1]; done) | (simp (disch := omega) only [rI, rIe, rA, rIA, rLA, rJA, rVI, rQI, rVA, rQA, upd_at,  rAI, rLI, rJI, nI_add, pk_sub, kc_0, kc_1, kc_2, kc_3, kc_4, kc_5, reduceIte, Nat.reduceEqDiff, Nat.add_zero, rI_hold, rI_hold, rL_hold, hind, hln, htk, hav, hind1]; exact congrArg nI (by omega))) ?_
  refine Bod.go dc_105_108 rfl ?_
  refine Bod.ic 1 (by decide) dc_105_109 ?_
  refine Bod.addN (dp + 1) (by omega) dc_105_110 ?_
  refine Bod.go dc_105_111 rfl ?_
  refine Bod.virt (r := []) dc_105_113 kr_105_254 ⟨Or.inl rfl, ow_106, cl_10⟩ (by rw [np_106]; rfl) (by rw [np_106]; rfl) (ob_of (mk_43 _)) (Nat.le_of_ble_eq_true rfl) (c7  ) ?_
  show Bod _ _ _ _ [] _ _ _
  refine Bod.go dc_105_116 rfl ?_
  refine Bod.get dc_105_117 fr_105_15 (mk_43 _) rfl ?_
  refine Bod.ic 3 (by decide) dc_105_120 ?_
  refine Bod.go dc_105_121 rfl ?_
  refine Bod.virt (r := []) dc_105_122 kr_105_116 ⟨Or.inr rfl, ow_54, cl_7⟩ (by rw [np_54]; rfl) (by rw [np_54]; rfl) (ob_of (mk_23 _)) (Nat.le_of_ble_eq_true rfl) (c8  ) ?_
  show Bod _ _ _ _ [_] _ _ _
  refine Bod.go dc_105_125 rfl ?_
  refine Bod.go dc_105_126 rfl ?_
  refine Bod.ifF dc_105_128 rfl (k1_eq_F (k_ne 1 0 rfl rfl (by omega) (by omega) (by omega))) ?_
  refine Bod.go dc_105_131 rfl ?_
  refine Bod.get dc_105_132 fr_105_19 (mk_43 _) rfl ?_
  refine Bod.bip 18 (by decide) dc_105_135 ?_
  refine Bod.go dc_105_137 rfl ?_
  refine Bod.virt (r := []) dc_105_139 kr_105_165 ⟨Or.inr rfl, ow_67, cl_8⟩ (by rw [np_67]; rfl) (by rw [np_67]; rfl) (ob_of (mk_32 _)) (Nat.le_of_ble_eq_true rfl) (c9  ) ?_
  show Bod _ _ _ _ [_] _ _ _
  refine Bod.go dc_105_142 rfl ?_
  refine Bod.go dc_105_143 rfl ?_
  refine Bod.get dc_105_144 fr_105_15 (mk_43 _) rfl ?_
  refine Bod.bip 23 (by decide) dc_105_147 ?_
  refine Bod.go dc_105_149 rfl ?_
  refine Bod.go dc_105_151 rfl ?_
  refine Bod.ifF dc_105_153 rfl (k1_eq_F (k_ne 1 0 rfl rfl (by omega) (by omega) (by omega))) ?_
  refine Bod.ic 1 (by decide) dc_105_156 ?_
  refine Bod.go dc_105_157 rfl ?_
  refine Bod.virt (r := []) dc_105_161 kr_105_257 ⟨Or.inr rfl, ow_68, cl_7⟩ (by rw [np_68]; rfl) (by rw [np_68]; rfl) (ob_of (mk_23 _)) (Nat.le_of_ble_eq_true rfl) (c10  ) ?_
  show Bod _ _ _ _ [_] _ _ _
  refine Bod.go dc_105_164 rfl ?_
  refine Bod.go dc_105_165 rfl ?_
  refine Bod.get dc_105_166 fr_105_15 (mk_43 _) rfl ?_
  refine Bod.go dc_105_169 rfl ?_
  refine Bod.get dc_105_170 fr_105_42 (mk_43 _) rfl ?_
  refine Bod.eqI (nI av1) (by first | (simp (disch := omega) only [rI, rIe, rA, rIA, rLA, rJA, rVI, rQI, rVA, rQA, upd_at,  rAI, rLI, rJI, nI_add, pk_sub, kc_0, kc_1, kc_2, kc_3, kc_4, kc_5, reduceIte, Nat.reduceEqDiff, Nat.add_zero, rI_hold, rI_hold, rL_hold, hind, hln, htk, hav, hind1, hav1]; done) | (simp (disch := omega) only [rI, rIe, rA, rIA, rLA, rJA, rVI, rQI, rVA, rQA, upd_at,  rAI, rLI, rJI, nI_add, pk_sub, kc_0, kc_1, kc_2, kc_3, kc_4, kc_5, reduceIte, Nat.reduceEqDiff, Nat.add_zero, rI_hold, rI_hold, rL_hold, hind, hln, htk, hav, hind1, hav1]; exact congrArg nI (by omega))) ?_
  refine Bod.go dc_105_173 rfl ?_
  refine Bod.subN (av1 - av) (by omega) (by omega) dc_105_175 ?_
  refine Bod.virt (r := []) dc_105_176 kr_105_72 ⟨Or.inr rfl, ow_71, cl_7⟩ (by rw [np_71]; rfl) (by rw [np_71]; rfl) (ob_of (mk_23 _)) (Nat.le_of_ble_eq_true rfl) (c11  ) ?_
  show Bod _ _ _ _ [_] _ _ _
  refine Bod.go dc_105_179 rfl ?_
  refine Bod.go dc_105_180 rfl ?_
  refine Bod.ist dc_105_182 (by rw [ml_105]; exact Nat.le_of_ble_eq_true rfl) ?_
  exact hB _ (by first | rfl | exact (by repeat (first | exact rfl | exact sm_get_p1 | exact sm_get_p2e | refine sm_get_p1m (by decide) (by decide) ?_ | refine sm_get_p1n (by decide) rfl ?_ | refine sm_get_p2n (by decide) (by decide) rfl ?_))) (by first | rfl | exact (by repeat (first | exact rfl | exact sm_get_p1 | exact sm_get_p2e | refine sm_get_p1m (by decide) (by decide) ?_ | refine sm_get_p1n (by decide) rfl ?_ | refine sm_get_p2n (by decide) (by decide) rfl ?_))) (by first | rfl | exact (by repeat (first | exact rfl | exact sm_get_p1 | exact sm_get_p2e | refine sm_get_p1m (by decide) (by decide) ?_ | refine sm_get_p1n (by decide) rfl ?_ | refine sm_get_p2n (by decide) (by decide) rfl ?_))) (by first | rfl | exact (by repeat (first | exact rfl | exact sm_get_p1 | exact sm_get_p2e | refine sm_get_p1m (by decide) (by decide) ?_ | refine sm_get_p1n (by decide) rfl ?_ | refine sm_get_p2n (by decide) (by decide) rfl ?_)))
theorem cCls0_4 {d : Nat} {S Sf : cS} {v : Option Value} {dp : Nat} {ind : Nat} {ln : Nat} {S1 : cS} {S2 : cS} {a : Nat} {tk : Nat} {S3 : cS} {S4 : cS} {a1 : Nat} {S5 : cS} {av : Nat} {S6 : cS} {S7 : cS} {a2 : Nat} {S8 : cS} {a3 : Nat} {S9 : cS} {a4 : Nat} {av1 : Nat} {S10 : cS} {a5 : Nat} (mdp : dp < 2 ^ 20) (hind : sI S 3108 = nI ind) (mind : ind < 2 ^ 20) (hln : sI S 3106 = nI ln) (mln : ln < 2 ^ 20) (c1 : Ans (d + 8) 75 [.ref 31, .int (nI 47)] S none S1) (ma : a < 2 ^ 20) (c2 : Ans (d + 8) 92 [.ref 43] S1 (some (.int (nI a))) S2) (htk : sI S2 3105 = nI tk) (mtk : tk < 2 ^ 20) (b1 : tk = 6) (c3 : Ans (d + 8) 75 [.ref 31, .int (nI 6)] S2 none S3) (ma1 : a1 < 2 ^ 20) (c4 : Ans (d + 8) 92 [.ref 43] S3 (some (.int (nI a1))) S4) (c5 : Ans (d + 8) 75 [.ref 31, .int (nI 7)] S4 none S5) (hav : sI S5 4305 = nI av) (mav : av < 2 ^ 20) (c6 : Ans (d + 8) 85 [.ref 43, .int (nI ind), .int (nI (dp + 1))] S5 (some (.int (nI 0))) S6) (ma2 : a2 < 2 ^ 20) (c7 : Ans (d + 8) 54 [.ref 23, .int (nI 3), .int (nI ln)] S6 (some (.int (nI a2))) S7) (ma3 : a3 < 2 ^ 20) (c8 : Ans (d + 8) 67 [.ref 32, .int (nI 18), .int (nI a1)] S7 (some (.int (nI a3))) S8) (ma4 : a4 < 2 ^ 20) (c9 : Ans (d + 8) 68 [.ref 23, .int (nI 23), .int (nI a), .int (nI 1)] S8 (some (.int (nI a4))) S9) (hav1 : sI S9 4305 = nI av1) (mav1 : av1 < 2 ^ 20) (b2 : av ≤ av1) (ma5 : a5 < 2 ^ 20) (c10 : Ans (d + 8) 71 [.ref 23, .int (nI (av1 - av))] S9 (some (.int (nI a5))) S10) (hB : ∀ lv1 : sm_L, sm_get lv1 0 = some (.ref 43) → sm_get lv1 7 = some (.int (nI av)) → sm_get lv1 8 = some (.int (nI av)) → sm_get lv1 4 = some (.int (nI a)) → Bod (d + 8) 105 184 lv1 [] (S10) v Sf) : Bod (d + 8) 105 0 [(0, .ref 43), (1, .int (nI dp))] [] S v Sf := by
  refine Bod.go dc_105_0 rfl ?_
  refine Bod.get dc_105_1 fr_105_9 (mk_43 _) rfl ?_
  refine Bod.get dc_105_4 fr_105_96 (mk_31 _) rfl ?_
  refine Bod.eqI (nI ind) (by first | assumption | rfl | exact congrArg nI (by omega) | (simp (disch := omega) only [rI, rIe, rA, rIA, rLA, rJA, rVI, rQI, rVA, rQA, upd_at,  rAI, rLI, rJI, nI_add, pk_sub, kc_0, kc_1, kc_2, kc_3, kc_4, kc_5, reduceIte, Nat.reduceEqDiff, Nat.add_zero, rI_hold, rI_hold, rL_hold, hind]; done)) ?_
  refine Bod.istn dc_105_7 (by rw [ml_105]; exact Nat.le_of_ble_eq_true rfl) ?_
  refine Bod.go dc_105_8 rfl ?_
  refine Bod.get dc_105_9 fr_105_9 (mk_43 _) rfl ?_
  refine Bod.get dc_105_12 fr_105_113 (mk_31 _) rfl ?_
  refine Bod.eqI (nI ln) (by first | assumption | rfl | exact congrArg nI (by omega) | (simp (disch := omega) only [rI, rIe, rA, rIA, rLA, rJA, rVI, rQI, rVA, rQA, upd_at,  rAI, rLI, rJI, nI_add, pk_sub, kc_0, kc_1, kc_2, kc_3, kc_4, kc_5, reduceIte, Nat.reduceEqDiff, Nat.add_zero, rI_hold, rI_hold, rL_hold, hind, hln]; done)) ?_
  refine Bod.istn dc_105_15 (by rw [ml_105]; exact Nat.le_of_ble_eq_true rfl) ?_
  refine Bod.go dc_105_16 rfl ?_
  refine Bod.get dc_105_17 fr_105_9 (mk_43 _) rfl ?_
  refine Bod.bip 47 (by decide) dc_105_20 ?_
  refine Bod.virt (r := []) dc_105_22 kr_105_107 ⟨Or.inr rfl, ow_75, cl_3⟩ (by rw [np_75]; rfl) (by rw [np_75]; rfl) (ob_of (mk_31 _)) (Nat.le_of_ble_eq_true rfl) (c1  ) ?_
  show Bod _ _ _ _ [] _ _ _
  refine Bod.go dc_105_25 rfl ?_
  refine Bod.virt (r := []) dc_105_26 kr_105_220 ⟨Or.inl rfl, ow_92, cl_10⟩ (by rw [np_92]; rfl) (by rw [np_92]; rfl) (ob_of (mk_43 _)) (Nat.le_of_ble_eq_true rfl) (c2  ) ?_
  show Bod _ _ _ _ [_] _ _ _
  refine Bod.ist dc_105_29 (by rw [ml_105]; exact Nat.le_of_ble_eq_true rfl) ?_
  refine Bod.go dc_105_31 rfl ?_
  refine Bod.get dc_105_32 fr_105_9 (mk_43 _) rfl ?_
  refine Bod.get dc_105_35 fr_105_79 (mk_31 _) rfl ?_
  refine Bod.eqI (nI tk) (by first | (simp (disch := omega) only [rI, rIe, rA, rIA, rLA, rJA, rVI, rQI, rVA, rQA, upd_at,  rAI, rLI, rJI, nI_add, pk_sub, kc_0, kc_1, kc_2, kc_3, kc_4, kc_5, reduceIte, Nat.reduceEqDiff, Nat.add_zero, rI_hold, rI_hold, rL_hold, hind, hln, htk]; done) | (simp (disch := omega) only [rI, rIe, rA, rIA, rLA, rJA, rVI, rQI, rVA, rQA, upd_at,  rAI, rLI, rJI, nI_add, pk_sub, kc_0, kc_1, kc_2, kc_3, kc_4, kc_5, reduceIte, Nat.reduceEqDiff, Nat.add_zero, rI_hold, rI_hold, rL_hold, hind, hln, htk]; exact congrArg nI (by omega))) ?_
  refine Bod.bip 6 (by decide) dc_105_38 ?_
  refine Bod.icF dc_105_40 rfl (k2_ne_F (k_eq tk 6 rfl rfl (by omega))) ?_
  refine Bod.ic 1 (by decide) dc_105_43 ?_
  refine Bod.go dc_105_44 rfl ?_
  refine Bod.ist dc_105_48 (by rw [ml_105]; exact Nat.le_of_ble_eq_true rfl) ?_
  refine Bod.go dc_105_50 rfl ?_
  refine Bod.ist dc_105_52 (by rw [ml_105]; exact Nat.le_of_ble_eq_true rfl) ?_
  refine Bod.go dc_105_54 rfl ?_
  refine Bod.ifF dc_105_56 rfl (k1_eq_F (k_ne 1 0 rfl rfl (by omega) (by omega) (by omega))) ?_
  refine Bod.go dc_105_59 rfl ?_
  refine Bod.get dc_105_60 fr_105_9 (mk_43 _) rfl ?_
  refine Bod.bip 6 (by decide) dc_105_63 ?_
  refine Bod.virt (r := []) dc_105_65 kr_105_107 ⟨Or.inr rfl, ow_75, cl_3⟩ (by rw [np_75]; rfl) (by rw [np_75]; rfl) (ob_of (mk_31 _)) (Nat.le_of_ble_eq_true rfl) (c3  ) ?_
  show Bod _ _ _ _ [] _ _ _
  refine Bod.go dc_105_68 rfl ?_
  refine Bod.virt (r := []) dc_105_69 kr_105_220 ⟨Or.inl rfl, ow_92, cl_10⟩ (by rw [np_92]; rfl) (by rw [np_92]; rfl) (ob_of (mk_43 _)) (Nat.le_of_ble_eq_true rfl) (c4  ) ?_
  show Bod _ _ _ _ [_] _ _ _
  refine Bod.ist dc_105_72 (by rw [ml_105]; exact Nat.le_of_ble_eq_true rfl) ?_
  refine Bod.go dc_105_74 rfl ?_
  refine Bod.get dc_105_75 fr_105_9 (mk_43 _) rfl ?_
  refine Bod.bip 7 (by decide) dc_105_78 ?_
  refine Bod.virt (r := []) dc_105_80 kr_105_107 ⟨Or.inr rfl, ow_75, cl_3⟩ (by rw [np_75]; rfl) (by rw [np_75]; rfl) (ob_of (mk_31 _)) (Nat.le_of_ble_eq_true rfl) (c5  ) ?_
  show Bod _ _ _ _ [] _ _ _
  refine Bod.go dc_105_83 rfl ?_
  refine Bod.get dc_105_84 fr_105_42 (mk_43 _) rfl ?_
  refine Bod.eqI (nI av) (by first | (simp (disch := omega) only [rI, rIe, rA, rIA, rLA, rJA, rVI, rQI, rVA, rQA, upd_at,  rAI, rLI, rJI, nI_add, pk_sub, kc_0, kc_1, kc_2, kc_3, kc_4, kc_5, reduceIte, Nat.reduceEqDiff, Nat.add_zero, rI_hold, rI_hold, rL_hold, hind, hln, htk, hav]; done) | (simp (disch := omega) only [rI, rIe, rA, rIA, rLA, rJA, rVI, rQI, rVA, rQA, upd_at,  rAI, rLI, rJI, nI_add, pk_sub, kc_0, kc_1, kc_2, kc_3, kc_4, kc_5, reduceIte, Nat.reduceEqDiff, Nat.add_zero, rI_hold, rI_hold, rL_hold, hind, hln, htk, hav]; exact congrArg nI (by omega))) ?_
  refine Bod.ist dc_105_87 (by rw [ml_105]; exact Nat.le_of_ble_eq_true rfl) ?_
  refine Bod.go dc_105_89 rfl ?_
  refine Bod.go dc_105_90 rfl ?_
  refine Bod.go dc_105_91 rfl ?_
  refine Bod.ic 1 (by decide) dc_105_92 ?_
  refine Bod.addN (dp + 1) (by omega) dc_105_93 ?_
  refine Bod.virt (r := []) dc_105_94 kr_105_99 ⟨Or.inl rfl, ow_85, cl_10⟩ (by rw [np_85]; rfl) (by rw [np_85]; rfl) (ob_of (mk_43 _)) (Nat.le_of_ble_eq_true rfl) (c6  ) ?_
  show Bod _ _ _ _ [_] _ _ _
  refine Bod.ifT dc_105_97 rfl (k1_eq_T (k_eq 0 0 rfl rfl (by omega))) ?_
  refine Bod.go dc_105_116 rfl ?_
  refine Bod.get dc_105_117 fr_105_15 (mk_43 _) rfl ?_
  refine Bod.ic 3 (by decide) dc_105_120 ?_
  refine Bod.go dc_105_121 rfl ?_
  refine Bod.virt (r := []) dc_105_122 kr_105_116 ⟨Or.inr rfl, ow_54, cl_7⟩ (by rw [np_54]; rfl) (by rw [np_54]; rfl) (ob_of (mk_23 _)) (Nat.le_of_ble_eq_true rfl) (c7  ) ?_
  show Bod _ _ _ _ [_] _ _ _
  refine Bod.go dc_105_125 rfl ?_
  refine Bod.go dc_105_126 rfl ?_
  refine Bod.ifF dc_105_128 rfl (k1_eq_F (k_ne 1 0 rfl rfl (by omega) (by omega) (by omega))) ?_
  refine Bod.go dc_105_131 rfl ?_
  refine Bod.get dc_105_132 fr_105_19 (mk_43 _) rfl ?_
  refine Bod.bip 18 (by decide) dc_105_135 ?_
  refine Bod.go dc_105_137 rfl ?_
  refine Bod.virt (r := []) dc_105_139 kr_105_165 ⟨Or.inr rfl, ow_67, cl_8⟩ (by rw [np_67]; rfl) (by rw [np_67]; rfl) (ob_of (mk_32 _)) (Nat.le_of_ble_eq_true rfl) (c8  ) ?_
  show Bod _ _ _ _ [_] _ _ _
  refine Bod.go dc_105_142 rfl ?_
  refine Bod.go dc_105_143 rfl ?_
  refine Bod.get dc_105_144 fr_105_15 (mk_43 _) rfl ?_
  refine Bod.bip 23 (by decide) dc_105_147 ?_
  refine Bod.go dc_105_149 rfl ?_
  refine Bod.go dc_105_151 rfl ?_
  refine Bod.ifF dc_105_153 rfl (k1_eq_F (k_ne 1 0 rfl rfl (by omega) (by omega) (by omega))) ?_
  refine Bod.ic 1 (by decide) dc_105_156 ?_
  refine Bod.go dc_105_157 rfl ?_
  refine Bod.virt (r := []) dc_105_161 kr_105_257 ⟨Or.inr rfl, ow_68, cl_7⟩ (by rw [np_68]; rfl) (by rw [np_68]; rfl) (ob_of (mk_23 _)) (Nat.le_of_ble_eq_true rfl) (c9  ) ?_
  show Bod _ _ _ _ [_] _ _ _
  refine Bod.go dc_105_164 rfl ?_
  refine Bod.go dc_105_165 rfl ?_
  refine Bod.get dc_105_166 fr_105_15 (mk_43 _) rfl ?_
  refine Bod.go dc_105_169 rfl ?_
  refine Bod.get dc_105_170 fr_105_42 (mk_43 _) rfl ?_
  refine Bod.eqI (nI av1) (by first | (simp (disch := omega) only [rI, rIe, rA, rIA, rLA, rJA, rVI, rQI, rVA, rQA, upd_at,  rAI, rLI, rJI, nI_add, pk_sub, kc_0, kc_1, kc_2, kc_3, kc_4, kc_5, reduceIte, Nat.reduceEqDiff, Nat.add_zero, rI_hold, rI_hold, rL_hold, hind, hln, htk, hav, hav1]; done) | (simp (disch := omega) only [rI, rIe, rA, rIA, rLA, rJA, rVI, rQI, rVA, rQA, upd_at,  rAI, rLI, rJI, nI_add, pk_sub, kc_0, kc_1, kc_2, kc_3, kc_4, kc_5, reduceIte, Nat.reduceEqDiff, Nat.add_zero, rI_hold, rI_hold, rL_hold, hind, hln, htk, hav, hav1]; exact congrArg nI (by omega))) ?_
  refine Bod.go dc_105_173 rfl ?_
  refine Bod.subN (av1 - av) (by omega) (by omega) dc_105_175 ?_
  refine Bod.virt (r := []) dc_105_176 kr_105_72 ⟨Or.inr rfl, ow_71, cl_7⟩ (by rw [np_71]; rfl) (by rw [np_71]; rfl) (ob_of (mk_23 _)) (Nat.le_of_ble_eq_true rfl) (c10  ) ?_
  show Bod _ _ _ _ [_] _ _ _
  refine Bod.go dc_105_179 rfl ?_
  refine Bod.go dc_105_180 rfl ?_
  refine Bod.ist dc_105_182 (by rw [ml_105]; exact Nat.le_of_ble_eq_true rfl) ?_
  exact hB _ (by first | rfl | exact (by repeat (first | exact rfl | exact sm_get_p1 | exact sm_get_p2e | refine sm_get_p1m (by decide) (by decide) ?_ | refine sm_get_p1n (by decide) rfl ?_ | refine sm_get_p2n (by decide) (by decide) rfl ?_))) (by first | rfl | exact (by repeat (first | exact rfl | exact sm_get_p1 | exact sm_get_p2e | refine sm_get_p1m (by decide) (by decide) ?_ | refine sm_get_p1n (by decide) rfl ?_ | refine sm_get_p2n (by decide) (by decide) rfl ?_))) (by first | rfl | exact (by repeat (first | exact rfl | exact sm_get_p1 | exact sm_get_p2e | refine sm_get_p1m (by decide) (by decide) ?_ | refine sm_get_p1n (by decide) rfl ?_ | refine sm_get_p2n (by decide) (by decide) rfl ?_))) (by first | rfl | exact (by repeat (first | exact rfl | exact sm_get_p1 | exact sm_get_p2e | refine sm_get_p1m (by decide) (by decide) ?_ | refine sm_get_p1n (by decide) rfl ?_ | refine sm_get_p2n (by decide) (by decide) rfl ?_)))
theorem cClsL_1 {d : Nat} {S : cS} {lv : sm_L} {i : Nat} {fi : Nat} {nm0 : Nat} {av : Nat} {S1 : cS} (q8 : sm_get lv 8 = some (.int (nI i))) (q7 : sm_get lv 7 = some (.int (nI fi))) (q4 : sm_get lv 4 = some (.int (nI nm0))) (q0 : sm_get lv 0 = some (.ref 43)) (mi : i < 2 ^ 20) (mfi : fi < 2 ^ 20) (mnm0 : nm0 < 2 ^ 20) (hav : sI S 4305 = nI av) (mav : av < 2 ^ 20) (b1 : av ≤ i) (c1 : Ans (d + 8) 93 [.ref 43, .int (nI nm0)] (wI 4305 (nI fi) S) none S1) : Bod (d + 8) 105 184 lv [] S none (S1) := by
  refine Bod.ildG dc_105_184 (by repeat (first | exact q8 | exact sm_get_p1 | exact sm_get_p2e | refine sm_get_p1m (by decide) (by decide) ?_ | refine sm_get_p1n (by decide) rfl ?_ | refine sm_get_p2n (by decide) (by decide) rfl ?_)) ?_
  refine Bod.aldnG dc_105_186 (by repeat (first | exact q0 | exact sm_get_p1 | exact sm_get_p2e | refine sm_get_p1m (by decide) (by decide) ?_ | refine sm_get_p1n (by decide) rfl ?_ | refine sm_get_p2n (by decide) (by decide) rfl ?_)) ?_
  refine Bod.get dc_105_187 fr_105_42 (mk_43 _) rfl ?_
  refine Bod.eqI (nI av) (by first | assumption | rfl | exact congrArg nI (by omega) | (simp (disch := omega) only [rI, rIe, rA, rIA, rLA, rJA, rVI, rQI, rVA, rQA, upd_at,  rAI, rLI, rJI, nI_add, pk_sub, kc_0, kc_1, kc_2, kc_3, kc_4, kc_5, reduceIte, Nat.reduceEqDiff, Nat.add_zero, rI_hold, rI_hold, rL_hold, hav]; done)) ?_
  refine Bod.icT dc_105_190 rfl (k2_ge_T i av rfl rfl (by omega) (by omega)) ?_
  refine Bod.aldnG dc_105_224 (by repeat (first | exact q0 | exact sm_get_p1 | exact sm_get_p2e | refine sm_get_p1m (by decide) (by decide) ?_ | refine sm_get_p1n (by decide) rfl ?_ | refine sm_get_p2n (by decide) (by decide) rfl ?_)) ?_
  refine Bod.ildG dc_105_225 (by repeat (first | exact q7 | exact sm_get_p1 | exact sm_get_p2e | refine sm_get_p1m (by decide) (by decide) ?_ | refine sm_get_p1n (by decide) rfl ?_ | refine sm_get_p2n (by decide) (by decide) rfl ?_)) ?_
  refine Bod.put dc_105_227 fr_105_42 (mk_43 _) (Nat.le_of_ble_eq_true rfl) pf_10_5 (st_4305 _ _) (mu_I _ _ _) ?_
  refine Bod.aldnG dc_105_230 (by repeat (first | exact q0 | exact sm_get_p1 | exact sm_get_p2e | refine sm_get_p1m (by decide) (by decide) ?_ | refine sm_get_p1n (by decide) rfl ?_ | refine sm_get_p2n (by decide) (by decide) rfl ?_)) ?_
  refine Bod.ildG dc_105_231 (by repeat (first | exact q4 | exact sm_get_p1 | exact sm_get_p2e | refine sm_get_p1m (by decide) (by decide) ?_ | refine sm_get_p1n (by decide) rfl ?_ | refine sm_get_p2n (by decide) (by decide) rfl ?_)) ?_
  refine Bod.virt (r := []) dc_105_233 kr_105_131 ⟨Or.inl rfl, ow_93, cl_10⟩ (by rw [np_93]; rfl) (by rw [np_93]; rfl) (ob_of (mk_43 _)) (Nat.le_of_ble_eq_true rfl) (c1  ) ?_
  show Bod _ _ _ _ [] _ _ _
  exact Bod.retV dc_105_236 rt_105
theorem cClsL_2 {d : Nat} {S : cS} {lv : sm_L} {i : Nat} {fi : Nat} {nm0 : Nat} {av : Nat} {S1 : cS} (q8 : sm_get lv 8 = some (.int (nI i))) (q7 : sm_get lv 7 = some (.int (nI fi))) (q4 : sm_get lv 4 = some (.int (nI nm0))) (q0 : sm_get lv 0 = some (.ref 43)) (mi : i < 2 ^ 20) (mfi : fi < 2 ^ 20) (mnm0 : nm0 < 2 ^ 20) (hav : sI S 4305 = nI av) (mav : av < 2 ^ 20) (b1 : i < av) (b2 : 440 ≤ i) (c1 : Ans (d + 8) 93 [.ref 43, .int (nI nm0)] (wI 4305 (nI fi) S) none S1) : Bod (d + 8) 105 184 lv [] S none (S1) := by
  refine Bod.ildG dc_105_184 (by repeat (first | exact q8 | exact sm_get_p1 | exact sm_get_p2e | refine sm_get_p1m (by decide) (by decide) ?_ | refine sm_get_p1n (by decide) rfl ?_ | refine sm_get_p2n (by decide) (by decide) rfl ?_)) ?_
  refine Bod.aldnG dc_105_186 (by repeat (first | exact q0 | exact sm_get_p1 | exact sm_get_p2e | refine sm_get_p1m (by decide) (by decide) ?_ | refine sm_get_p1n (by decide) rfl ?_ | refine sm_get_p2n (by decide) (by decide) rfl ?_)) ?_
  refine Bod.get dc_105_187 fr_105_42 (mk_43 _) rfl ?_
  refine Bod.eqI (nI av) (by first | assumption | rfl | exact congrArg nI (by omega) | (simp (disch := omega) only [rI, rIe, rA, rIA, rLA, rJA, rVI, rQI, rVA, rQA, upd_at,  rAI, rLI, rJI, nI_add, pk_sub, kc_0, kc_1, kc_2, kc_3, kc_4, kc_5, reduceIte, Nat.reduceEqDiff, Nat.add_zero, rI_hold, rI_hold, rL_hold, hav]; done)) ?_
  refine Bod.icF dc_105_190 rfl (k2_ge_F i av rfl rfl (by omega) (by omega)) ?_
  refine Bod.ildG dc_105_193 (by repeat (first | exact q8 | exact sm_get_p1 | exact sm_get_p2e | refine sm_get_p1m (by decide) (by decide) ?_ | refine sm_get_p1n (by decide) rfl ?_ | refine sm_get_p2n (by decide) (by decide) rfl ?_)) ?_
  refine Bod.aldnG dc_105_195 (by repeat (first | exact q0 | exact sm_get_p1 | exact sm_get_p2e | refine sm_get_p1m (by decide) (by decide) ?_ | refine sm_get_p1n (by decide) rfl ?_ | refine sm_get_p2n (by decide) (by decide) rfl ?_)) ?_
  refine Bod.get dc_105_196 fr_105_27 (mk_43 _) rfl ?_
  refine Bod.alenN dc_105_199 (mk_45 _) (by decide +kernel) ?_
  refine Bod.icT dc_105_200 rfl (k2_ge_T i 440 rfl rfl (by omega) (by omega)) ?_
  refine Bod.aldnG dc_105_224 (by repeat (first | exact q0 | exact sm_get_p1 | exact sm_get_p2e | refine sm_get_p1m (by decide) (by decide) ?_ | refine sm_get_p1n (by decide) rfl ?_ | refine sm_get_p2n (by decide) (by decide) rfl ?_)) ?_
  refine Bod.ildG dc_105_225 (by repeat (first | exact q7 | exact sm_get_p1 | exact sm_get_p2e | refine sm_get_p1m (by decide) (by decide) ?_ | refine sm_get_p1n (by decide) rfl ?_ | refine sm_get_p2n (by decide) (by decide) rfl ?_)) ?_
  refine Bod.put dc_105_227 fr_105_42 (mk_43 _) (Nat.le_of_ble_eq_true rfl) pf_10_5 (st_4305 _ _) (mu_I _ _ _) ?_
  refine Bod.aldnG dc_105_230 (by repeat (first | exact q0 | exact sm_get_p1 | exact sm_get_p2e | refine sm_get_p1m (by decide) (by decide) ?_ | refine sm_get_p1n (by decide) rfl ?_ | refine sm_get_p2n (by decide) (by decide) rfl ?_)) ?_
  refine Bod.ildG dc_105_231 (by repeat (first | exact q4 | exact sm_get_p1 | exact sm_get_p2e | refine sm_get_p1m (by decide) (by decide) ?_ | refine sm_get_p1n (by decide) rfl ?_ | refine sm_get_p2n (by decide) (by decide) rfl ?_)) ?_
  refine Bod.virt (r := []) dc_105_233 kr_105_131 ⟨Or.inl rfl, ow_93, cl_10⟩ (by rw [np_93]; rfl) (by rw [np_93]; rfl) (ob_of (mk_43 _)) (Nat.le_of_ble_eq_true rfl) (c1  ) ?_
  show Bod _ _ _ _ [] _ _ _
  exact Bod.retV dc_105_236 rt_105
theorem cClsL_3 {d : Nat} {S Sf : cS} {v : Option Value} {lv : sm_L} {i : Nat} {fi : Nat} {nm0 : Nat} {av : Nat} {e45 : Nat} {S1 : cS} {a : Nat} (q8 : sm_get lv 8 = some (.int (nI i))) (q7 : sm_get lv 7 = some (.int (nI fi))) (q4 : sm_get lv 4 = some (.int (nI nm0))) (q0 : sm_get lv 0 = some (.ref 43)) (mi : i < 2 ^ 20) (mfi : fi < 2 ^ 20) (mnm0 : nm0 < 2 ^ 20) (hav : sI S 4305 = nI av) (mav : av < 2 ^ 20) (b1 : i < av) (b2 : i < 440) (he45 : sA S 45 i = nI e45) (me45 : e45 < 2 ^ 20) (ma : a < 2 ^ 20) (c1 : Ans (d + 8) 71 [.ref 23, .int (nI e45)] S (some (.int (nI a))) S1) (hB : ∀ lv1 : sm_L, sm_get lv1 0 = some (.ref 43) → sm_get lv1 7 = some (.int (nI fi)) → sm_get lv1 8 = some (.int (nI (i + 1))) → sm_get lv1 4 = some (.int (nI nm0)) → Bod (d + 8) 105 184 lv1 [] (S1) v Sf) : Bod (d + 8) 105 184 lv [] S v Sf := by
  refine Bod.ildG dc_105_184 (by repeat (first | exact q8 | exact sm_get_p1 | exact sm_get_p2e | refine sm_get_p1m (by decide) (by decide) ?_ | refine sm_get_p1n (by decide) rfl ?_ | refine sm_get_p2n (by decide) (by decide) rfl ?_)) ?_
  refine Bod.aldnG dc_105_186 (by repeat (first | exact q0 | exact sm_get_p1 | exact sm_get_p2e | refine sm_get_p1m (by decide) (by decide) ?_ | refine sm_get_p1n (by decide) rfl ?_ | refine sm_get_p2n (by decide) (by decide) rfl ?_)) ?_
  refine Bod.get dc_105_187 fr_105_42 (mk_43 _) rfl ?_
  refine Bod.eqI (nI av) (by first | assumption | rfl | exact congrArg nI (by omega) | (simp (disch := omega) only [rI, rIe, rA, rIA, rLA, rJA, rVI, rQI, rVA, rQA, upd_at,  rAI, rLI, rJI, nI_add, pk_sub, kc_0, kc_1, kc_2, kc_3, kc_4, kc_5, reduceIte, Nat.reduceEqDiff, Nat.add_zero, rI_hold, rI_hold, rL_hold, hav]; done)) ?_
  refine Bod.icF dc_105_190 rfl (k2_ge_F i av rfl rfl (by omega) (by omega)) ?_
  refine Bod.ildG dc_105_193 (by repeat (first | exact q8 | exact sm_get_p1 | exact sm_get_p2e | refine sm_get_p1m (by decide) (by decide) ?_ | refine sm_get_p1n (by decide) rfl ?_ | refine sm_get_p2n (by decide) (by decide) rfl ?_)) ?_
  refine Bod.aldnG dc_105_195 (by repeat (first | exact q0 | exact sm_get_p1 | exact sm_get_p2e | refine sm_get_p1m (by decide) (by decide) ?_ | refine sm_get_p1n (by decide) rfl ?_ | refine sm_get_p2n (by decide) (by decide) rfl ?_)) ?_
  refine Bod.get dc_105_196 fr_105_27 (mk_43 _) rfl ?_
  refine Bod.alenN dc_105_199 (mk_45 _) (by decide +kernel) ?_
  refine Bod.icF dc_105_200 rfl (k2_ge_F i 440 rfl rfl (by omega) (by omega)) ?_
  refine Bod.aldnG dc_105_203 (by repeat (first | exact q0 | exact sm_get_p1 | exact sm_get_p2e | refine sm_get_p1m (by decide) (by decide) ?_ | refine sm_get_p1n (by decide) rfl ?_ | refine sm_get_p2n (by decide) (by decide) rfl ?_)) ?_
  refine Bod.get dc_105_204 fr_105_15 (mk_43 _) rfl ?_
  refine Bod.aldnG dc_105_207 (by repeat (first | exact q0 | exact sm_get_p1 | exact sm_get_p2e | refine sm_get_p1m (by decide) (by decide) ?_ | refine sm_get_p1n (by decide) rfl ?_ | refine sm_get_p2n (by decide) (by decide) rfl ?_)) ?_
  refine Bod.get dc_105_208 fr_105_27 (mk_43 _) rfl ?_
  refine Bod.ildG dc_105_211 (by repeat (first | exact q8 | exact sm_get_p1 | exact sm_get_p2e | refine sm_get_p1m (by decide) (by decide) ?_ | refine sm_get_p1n (by decide) rfl ?_ | refine sm_get_p2n (by decide) (by decide) rfl ?_)) ?_
  refine Bod.ialdN i rfl (by omega) (by omega) dc_105_213 (mk_45 _) ?_
  refine Bod.eqI (nI e45) (by first | assumption | rfl | exact congrArg nI (by omega) | (simp (disch := omega) only [rI, rIe, rA, rIA, rLA, rJA, rVI, rQI, rVA, rQA, upd_at,  rAI, rLI, rJI, nI_add, pk_sub, kc_0, kc_1, kc_2, kc_3, kc_4, kc_5, reduceIte, Nat.reduceEqDiff, Nat.add_zero, rI_hold, rI_hold, rL_hold, hav, he45]; done)) ?_
  refine Bod.virt (r := []) dc_105_214 kr_105_72 ⟨Or.inr rfl, ow_71, cl_7⟩ (by rw [np_71]; rfl) (by rw [np_71]; rfl) (ob_of (mk_23 _)) (Nat.le_of_ble_eq_true rfl) (c1  ) ?_
  show Bod _ _ _ _ [_] _ _ _
  refine Bod.go dc_105_217 rfl ?_
  refine Bod.incN (i + 1) (by rw [kc_1, nI_add]) dc_105_218 (by rw [ml_105]; exact Nat.le_of_ble_eq_true rfl) (by repeat (first | exact q8 | exact sm_get_p1 | exact sm_get_p2e | refine sm_get_p1m (by decide) (by decide) ?_ | refine sm_get_p1n (by decide) rfl ?_ | refine sm_get_p2n (by decide) (by decide) rfl ?_)) ?_
  refine Bod.go dc_105_221 rfl ?_
  exact hB _ (by repeat (first | exact q0 | exact sm_get_p1 | exact sm_get_p2e | refine sm_get_p1m (by decide) (by decide) ?_ | refine sm_get_p1n (by decide) rfl ?_ | refine sm_get_p2n (by decide) (by decide) rfl ?_)) (by repeat (first | exact q7 | exact sm_get_p1 | exact sm_get_p2e | refine sm_get_p1m (by decide) (by decide) ?_ | refine sm_get_p1n (by decide) rfl ?_ | refine sm_get_p2n (by decide) (by decide) rfl ?_)) (by repeat (first | exact q0 | exact sm_get_p1 | exact sm_get_p2e | refine sm_get_p1m (by decide) (by decide) ?_ | refine sm_get_p1n (by decide) rfl ?_ | refine sm_get_p2n (by decide) (by decide) rfl ?_)) (by repeat (first | exact q4 | exact sm_get_p1 | exact sm_get_p2e | refine sm_get_p1m (by decide) (by decide) ?_ | refine sm_get_p1n (by decide) rfl ?_ | refine sm_get_p2n (by decide) (by decide) rfl ?_))
theorem cCb0_1 {d : Nat} {S Sf : cS} {v : Option Value} {i : Nat} {dp : Nat} {fi : Nat} (mi : i < 2 ^ 20) (mdp : dp < 2 ^ 20) (mfi : fi < 2 ^ 20) (hB : ∀ lv1 : sm_L, sm_get lv1 0 = some (.ref 43) → sm_get lv1 1 = some (.int (nI i)) → sm_get lv1 2 = some (.int (nI dp)) → sm_get lv1 3 = some (.int (nI fi)) → sm_get lv1 4 = some (.int (nI 0)) → Bod (d + 8) 106 3 lv1 [] (S) v Sf) : Bod (d + 8) 106 0 [(0, .ref 43), (1, .int (nI i)), (2, .int (nI dp)), (3, .int (nI fi))] [] S v Sf := by
  refine Bod.ic 0 (by decide) dc_106_0 ?_
  refine Bod.ist dc_106_1 (by rw [ml_106]; exact Nat.le_of_ble_eq_true rfl) ?_
  exact hB _ (by first | rfl | exact (by repeat (first | exact rfl | exact sm_get_p1 | exact sm_get_p2e | refine sm_get_p1m (by decide) (by decide) ?_ | refine sm_get_p1n (by decide) rfl ?_ | refine sm_get_p2n (by decide) (by decide) rfl ?_))) (by first | rfl | exact (by repeat (first | exact rfl | exact sm_get_p1 | exact sm_get_p2e | refine sm_get_p1m (by decide) (by decide) ?_ | refine sm_get_p1n (by decide) rfl ?_ | refine sm_get_p2n (by decide) (by decide) rfl ?_))) (by first | rfl | exact (by repeat (first | exact rfl | exact sm_get_p1 | exact sm_get_p2e | refine sm_get_p1m (by decide) (by decide) ?_ | refine sm_get_p1n (by decide) rfl ?_ | refine sm_get_p2n (by decide) (by decide) rfl ?_))) (by first | rfl | exact (by repeat (first | exact rfl | exact sm_get_p1 | exact sm_get_p2e | refine sm_get_p1m (by decide) (by decide) ?_ | refine sm_get_p1n (by decide) rfl ?_ | refine sm_get_p2n (by decide) (by decide) rfl ?_))) (by first | rfl | exact (by repeat (first | exact rfl | exact sm_get_p1 | exact sm_get_p2e | refine sm_get_p1m (by decide) (by decide) ?_ | refine sm_get_p1n (by decide) rfl ?_ | refine sm_get_p2n (by decide) (by decide) rfl ?_)))
theorem cCbL_1 {d : Nat} {S : cS} {lv : sm_L} {t : Nat} {i : Nat} {dp : Nat} {fi : Nat} {ind : Nat} (q4 : sm_get lv 4 = some (.int (nI t))) (q0 : sm_get lv 0 = some (.ref 43)) (q1 : sm_get lv 1 = some (.int (nI i))) (q2 : sm_get lv 2 = some (.int (nI dp))) (q3 : sm_get lv 3 = some (.int (nI fi))) (mt : t < 2 ^ 20) (mi : i < 2 ^ 20) (mdp : dp < 2 ^ 20) (mfi : fi < 2 ^ 20) (b1 : 3000 < t) (hind : sI S 3108 = nI ind) (mind : ind < 2 ^ 20) (b2 : ind ≤ i) : Bod (d + 8) 106 3 lv [] S none (S) := by
  refine Bod.ildG dc_106_3 (by repeat (first | exact q4 | exact sm_get_p1 | exact sm_get_p2e | refine sm_get_p1m (by decide) (by decide) ?_ | refine sm_get_p1n (by decide) rfl ?_ | refine sm_get_p2n (by decide) (by decide) rfl ?_)) ?_
  refine Bod.sip 3000 (by decide) dc_106_5 ?_
  refine Bod.icT dc_106_8 rfl (k2_gt_T t 3000 rfl rfl (by omega) (by omega)) ?_
  refine Bod.aldnG dc_106_134 (by repeat (first | exact q0 | exact sm_get_p1 | exact sm_get_p2e | refine sm_get_p1m (by decide) (by decide) ?_ | refine sm_get_p1n (by decide) rfl ?_ | refine sm_get_p2n (by decide) (by decide) rfl ?_)) ?_
  refine Bod.get dc_106_135 fr_106_9 (mk_43 _) rfl ?_
  refine Bod.get dc_106_138 fr_106_96 (mk_31 _) rfl ?_
  refine Bod.eqI (nI ind) (by first | assumption | rfl | exact congrArg nI (by omega) | (simp (disch := omega) only [rI, rIe, rA, rIA, rLA, rJA, rVI, rQI, rVA, rQA, upd_at,  rAI, rLI, rJI, nI_add, pk_sub, kc_0, kc_1, kc_2, kc_3, kc_4, kc_5, reduceIte, Nat.reduceEqDiff, Nat.add_zero, rI_hold, rI_hold, rL_hold, hind]; done)) ?_
  refine Bod.ildnG dc_106_141 (by repeat (first | exact q1 | exact sm_get_p1 | exact sm_get_p2e | refine sm_get_p1m (by decide) (by decide) ?_ | refine sm_get_p1n (by decide) rfl ?_ | refine sm_get_p2n (by decide) (by decide) rfl ?_)) ?_
  refine Bod.icT dc_106_142 rfl (k2_le_T ind i rfl rfl (by omega) (by omega)) ?_
  exact Bod.retV dc_106_152 rt_106
theorem cCbL_2 {d : Nat} {S : cS} {lv : sm_L} {t : Nat} {i : Nat} {dp : Nat} {fi : Nat} {ind : Nat} {S1 : cS} (q4 : sm_get lv 4 = some (.int (nI t))) (q0 : sm_get lv 0 = some (.ref 43)) (q1 : sm_get lv 1 = some (.int (nI i))) (q2 : sm_get lv 2 = some (.int (nI dp))) (q3 : sm_get lv 3 = some (.int (nI fi))) (mt : t < 2 ^ 20) (mi : i < 2 ^ 20) (mdp : dp < 2 ^ 20) (mfi : fi < 2 ^ 20) (b1 : 3000 < t) (hind : sI S 3108 = nI ind) (mind : ind < 2 ^ 20) (b2 : i < ind) (c1 : Ans (d + 8) 44 [.ref 31] S none S1) : Bod (d + 8) 106 3 lv [] S none (S1) := by
  refine Bod.ildG dc_106_3 (by repeat (first | exact q4 | exact sm_get_p1 | exact sm_get_p2e | refine sm_get_p1m (by decide) (by decide) ?_ | refine sm_get_p1n (by decide) rfl ?_ | refine sm_get_p2n (by decide) (by decide) rfl ?_)) ?_
  refine Bod.sip 3000 (by decide) dc_106_5 ?_
  refine Bod.icT dc_106_8 rfl (k2_gt_T t 3000 rfl rfl (by omega) (by omega)) ?_
  refine Bod.aldnG dc_106_134 (by repeat (first | exact q0 | exact sm_get_p1 | exact sm_get_p2e | refine sm_get_p1m (by decide) (by decide) ?_ | refine sm_get_p1n (by decide) rfl ?_ | refine sm_get_p2n (by decide) (by decide) rfl ?_)) ?_
  refine Bod.get dc_106_135 fr_106_9 (mk_43 _) rfl ?_
  refine Bod.get dc_106_138 fr_106_96 (mk_31 _) rfl ?_
  refine Bod.eqI (nI ind) (by first | assumption | rfl | exact congrArg nI (by omega) | (simp (disch := omega) only [rI, rIe, rA, rIA, rLA, rJA, rVI, rQI, rVA, rQA, upd_at,  rAI, rLI, rJI, nI_add, pk_sub, kc_0, kc_1, kc_2, kc_3, kc_4, kc_5, reduceIte, Nat.reduceEqDiff, Nat.add_zero, rI_hold, rI_hold, rL_hold, hind]; done)) ?_
  refine Bod.ildnG dc_106_141 (by repeat (first | exact q1 | exact sm_get_p1 | exact sm_get_p2e | refine sm_get_p1m (by decide) (by decide) ?_ | refine sm_get_p1n (by decide) rfl ?_ | refine sm_get_p2n (by decide) (by decide) rfl ?_)) ?_
  refine Bod.icF dc_106_142 rfl (k2_le_F ind i rfl rfl (by omega) (by omega)) ?_
  refine Bod.aldnG dc_106_145 (by repeat (first | exact q0 | exact sm_get_p1 | exact sm_get_p2e | refine sm_get_p1m (by decide) (by decide) ?_ | refine sm_get_p1n (by decide) rfl ?_ | refine sm_get_p2n (by decide) (by decide) rfl ?_)) ?_
  refine Bod.get dc_106_146 fr_106_9 (mk_43 _) rfl ?_
  refine Bod.virt (r := []) dc_106_149 kr_106_76 ⟨Or.inr rfl, ow_44, cl_3⟩ (by rw [np_44]; rfl) (by rw [np_44]; rfl) (ob_of (mk_31 _)) (Nat.le_of_ble_eq_true rfl) (c1  ) ?_
  show Bod _ _ _ _ [] _ _ _
  exact Bod.retV dc_106_152 rt_106
theorem cCbL_3 {d : Nat} {S : cS} {lv : sm_L} {t : Nat} {i : Nat} {dp : Nat} {fi : Nat} (q4 : sm_get lv 4 = some (.int (nI t))) (q0 : sm_get lv 0 = some (.ref 43)) (q1 : sm_get lv 1 = some (.int (nI i))) (q2 : sm_get lv 2 = some (.int (nI dp))) (q3 : sm_get lv 3 = some (.int (nI fi))) (mt : t < 2 ^ 20) (mi : i < 2 ^ 20) (mdp : dp < 2 ^ 20) (mfi : fi < 2 ^ 20) (b1 : 3000 < t) (n2 : sI S 3108 = Int32.ofInt (-1)) : Bod (d + 8) 106 3 lv [] S none (S) := by
  refine Bod.ildG dc_106_3 (by repeat (first | exact q4 | exact sm_get_p1 | exact sm_get_p2e | refine sm_get_p1m (by decide) (by decide) ?_ | refine sm_get_p1n (by decide) rfl ?_ | refine sm_get_p2n (by decide) (by decide) rfl ?_)) ?_
  refine Bod.sip 3000 (by decide) dc_106_5 ?_
  refine Bod.icT dc_106_8 rfl (k2_gt_T t 3000 rfl rfl (by omega) (by omega)) ?_
  refine Bod.aldnG dc_106_134 (by repeat (first | exact q0 | exact sm_get_p1 | exact sm_get_p2e | refine sm_get_p1m (by decide) (by decide) ?_ | refine sm_get_p1n (by decide) rfl ?_ | refine sm_get_p2n (by decide) (by decide) rfl ?_)) ?_
  refine Bod.get dc_106_135 fr_106_9 (mk_43 _) rfl ?_
  refine Bod.get dc_106_138 fr_106_96 (mk_31 _) rfl ?_
  refine Bod.eqI (Int32.ofInt (-1)) (by first | assumption | rfl | exact congrArg nI (by omega) | (simp (disch := omega) only [rI, rIe, rA, rIA, rLA, rJA, rVI, rQI, rVA, rQA, upd_at,  rAI, rLI, rJI, nI_add, pk_sub, kc_0, kc_1, kc_2, kc_3, kc_4, kc_5, reduceIte, Nat.reduceEqDiff, Nat.add_zero, rI_hold, rI_hold, rL_hold, n2]; done)) ?_
  refine Bod.ildnG dc_106_141 (by repeat (first | exact q1 | exact sm_get_p1 | exact sm_get_p2e | refine sm_get_p1m (by decide) (by decide) ?_ | refine sm_get_p1n (by decide) rfl ?_ | refine sm_get_p2n (by decide) (by decide) rfl ?_)) ?_
  refine Bod.icT dc_106_142 rfl (ml_le (by omega)) ?_
  exact Bod.retV dc_106_152 rt_106
theorem cCbL_4 {d : Nat} {S Sf : cS} {v : Option Value} {lv : sm_L} {t : Nat} {i : Nat} {dp : Nat} {fi : Nat} {S1 : cS} {ln : Nat} {S2 : cS} {a : Nat} {tk : Nat} {S3 : cS} {a1 : Nat} {S4 : cS} {S5 : cS} {S6 : cS} {S7 : cS} (q4 : sm_get lv 4 = some (.int (nI t))) (q0 : sm_get lv 0 = some (.ref 43)) (q1 : sm_get lv 1 = some (.int (nI i))) (q2 : sm_get lv 2 = some (.int (nI dp))) (q3 : sm_get lv 3 = some (.int (nI fi))) (mt : t < 2 ^ 20) (mi : i < 2 ^ 20) (mdp : dp < 2 ^ 20) (mfi : fi < 2 ^ 20) (b1 : t ≤ 3000) (c1 : Ans (d + 8) 52 [.ref 43, .int (nI i)] S (some (.int (nI 1))) S1) (hln : sI S1 3106 = nI ln) (mln : ln < 2 ^ 20) (ma : a < 2 ^ 20) (c2 : Ans (d + 8) 54 [.ref 23, .int (nI 1), .int (nI ln)] S1 (some (.int (nI a))) S2) (htk : sI S2 3105 = nI tk) (mtk : tk < 2 ^ 20) (b2 : tk ≠ 46) (b3 : tk ≠ 51) (ma1 : a1 < 2 ^ 20) (c3 : Ans (d + 8) 92 [.ref 43] S2 (some (.int (nI a1))) S3) (c4 : Ans (d + 8) 75 [.ref 31, .int (nI 19)] S3 none S4) (c5 : Ans (d + 8) 57 [.ref 44, .int (nI 0)] S4 none S5) (c6 : Ans (d + 8) 107 [.ref 43, .int (nI a1), .int (nI fi)] S5 none S6) (c7 : Ans (d + 8) 86 [.ref 31] S6 none S7) (hB : ∀ lv1 : sm_L, sm_get lv1 0 = some (.ref 43) → sm_get lv1 1 = some (.int (nI i)) → sm_get lv1 2 = some (.int (nI dp)) → sm_get lv1 3 = some (.int (nI fi)) → sm_get lv1 4 = some (.int (nI (t + 1))) → Bod (d + 8) 106 3 lv1 [] (S7) v Sf) : Bod (d + 8) 106 3 lv [] S v Sf := by
  refine Bod.ildG dc_106_3 (by repeat (first | exact q4 | exact sm_get_p1 | exact sm_get_p2e | refine sm_get_p1m (by decide) (by decide) ?_ | refine sm_get_p1n (by decide) rfl ?_ | refine sm_get_p2n (by decide) (by decide) rfl ?_)) ?_
  refine Bod.sip 3000 (by decide) dc_106_5 ?_
  refine Bod.icF dc_106_8 rfl (k2_gt_F t 3000 rfl rfl (by omega) (by omega)) ?_
  refine Bod.aldnG dc_106_11 (by repeat (first | exact q0 | exact sm_get_p1 | exact sm_get_p2e | refine sm_get_p1m (by decide) (by decide) ?_ | refine sm_get_p1n (by decide) rfl ?_ | refine sm_get_p2n (by decide) (by decide) rfl ?_)) ?_
  refine Bod.ildnG dc_106_12 (by repeat (first | exact q1 | exact sm_get_p1 | exact sm_get_p2e | refine sm_get_p1m (by decide) (by decide) ?_ | refine sm_get_p1n (by decide) rfl ?_ | refine sm_get_p2n (by decide) (by decide) rfl ?_)) ?_
  refine Bod.virt (r := []) dc_106_13 kr_106_89 ⟨Or.inl rfl, ow_52, cl_10⟩ (by rw [np_52]; rfl) (by rw [np_52]; rfl) (ob_of (mk_43 _)) (Nat.le_of_ble_eq_true rfl) (c1  ) ?_
  show Bod _ _ _ _ [_] _ _ _
  refine Bod.ifF dc_106_16 rfl (k1_eq_F (k_ne 1 0 rfl rfl (by omega) (by omega) (by omega))) ?_
  refine Bod.aldnG dc_106_19 (by repeat (first | exact q0 | exact sm_get_p1 | exact sm_get_p2e | refine sm_get_p1m (by decide) (by decide) ?_ | refine sm_get_p1n (by decide) rfl ?_ | refine sm_get_p2n (by decide) (by decide) rfl ?_)) ?_
  refine Bod.get dc_106_20 fr_106_15 (mk_43 _) rfl ?_
  refine Bod.ic 1 (by decide) dc_106_23 ?_
  refine Bod.aldnG dc_106_24 (by repeat (first | exact q0 | exact sm_get_p1 | exact sm_get_p2e | refine sm_get_p1m (by decide) (by decide) ?_ | refine sm_get_p1n (by decide) rfl ?_ | refine sm_get_p2n (by decide) (by decide) rfl ?_)) ?_
  refine Bod.get dc_106_25 fr_106_9 (mk_43 _) rfl ?_
  refine Bod.get dc_106_28 fr_106_113 (mk_31 _) rfl ?_
  refine Bod.eqI (nI ln) (by first | (simp (disch := omega) only [rI, rIe, rA, rIA, rLA, rJA, rVI, rQI, rVA, rQA, upd_at,  rAI, rLI, rJI, nI_add, pk_sub, kc_0, kc_1, kc_2, kc_3, kc_4, kc_5, reduceIte, Nat.reduceEqDiff, Nat.add_zero, rI_hold, rI_hold, rL_hold, hln]; done) | (simp (disch := omega) only [rI, rIe, rA, rIA, rLA, rJA, rVI, rQI, rVA, rQA, upd_at,  rAI, rLI, rJI, nI_add, pk_sub, kc_0, kc_1, kc_2, kc_3, kc_4, kc_5, reduceIte, Nat.reduceEqDiff, Nat.add_zero, rI_hold, rI_hold, rL_hold, hln]; exact congrArg nI (by omega))) ?_
  refine Bod.virt (r := []) dc_106_31 kr_106_116 ⟨Or.inr rfl, ow_54, cl_7⟩ (by rw [np_54]; rfl) (by rw [np_54]; rfl) (ob_of (mk_23 _)) (Nat.le_of_ble_eq_true rfl) (c2  ) ?_
  show Bod _ _ _ _ [_] _ _ _
  refine Bod.go dc_106_34 rfl ?_
  refine Bod.aldnG dc_106_35 (by repeat (first | exact q0 | exact sm_get_p1 | exact sm_get_p2e | refine sm_get_p1m (by decide) (by decide) ?_ | refine sm_get_p1n (by decide) rfl ?_ | refine sm_get_p2n (by decide) (by decide) rfl ?_)) ?_
  refine Bod.get dc_106_36 fr_106_9 (mk_43 _) rfl ?_
  refine Bod.get dc_106_39 fr_106_79 (mk_31 _) rfl ?_
  refine Bod.eqI (nI tk) (by first | (simp (disch := omega) only [rI, rIe, rA, rIA, rLA, rJA, rVI, rQI, rVA, rQA, upd_at,  rAI, rLI, rJI, nI_add, pk_sub, kc_0, kc_1, kc_2, kc_3, kc_4, kc_5, reduceIte, Nat.reduceEqDiff, Nat.add_zero, rI_hold, rI_hold, rL_hold, hln, htk]; done) | (simp (disch := omega) only [rI, rIe, rA, rIA, rLA, rJA, rVI, rQI, rVA, rQA, upd_at,  rAI, rLI, rJI, nI_add, pk_sub, kc_0, kc_1, kc_2, kc_3, kc_4, kc_5, reduceIte, Nat.reduceEqDiff, Nat.add_zero, rI_hold, rI_hold, rL_hold, hln, htk]; exact congrArg nI (by omega))) ?_
  refine Bod.bip 46 (by decide) dc_106_42 ?_
  refine Bod.icT dc_106_44 rfl (k2_ne_T (k_ne tk 46 rfl rfl (by omega) (by omega) (by omega))) ?_
  refine Bod.aldnG dc_106_60 (by repeat (first | exact q0 | exact sm_get_p1 | exact sm_get_p2e | refine sm_get_p1m (by decide) (by decide) ?_ | refine sm_get_p1n (by decide) rfl ?_ | refine sm_get_p2n (by decide) (by decide) rfl ?_)) ?_
  refine Bod.get dc_106_61 fr_106_9 (mk_43 _) rfl ?_
  refine Bod.get dc_106_64 fr_106_79 (mk_31 _) rfl ?_
  refine Bod.eqI (nI tk) (by first | (simp (disch := omega) only [rI, rIe, rA, rIA, rLA, rJA, rVI, rQI, rVA, rQA, upd_at,  rAI, rLI, rJI, nI_add, pk_sub, kc_0, kc_1, kc_2, kc_3, kc_4, kc_5, reduceIte, Nat.reduceEqDiff, Nat.add_zero, rI_hold, rI_hold, rL_hold, hln, htk]; done) | (simp (disch := omega) only [rI, rIe, rA, rIA, rLA, rJA, rVI, rQI, rVA, rQA, upd_at,  rAI, rLI, rJI, nI_add, pk_sub, kc_0, kc_1, kc_2, kc_3, kc_4, kc_5, reduceIte, Nat.reduceEqDiff, Nat.add_zero, rI_hold, rI_hold, rL_hold, hln, htk]; exact congrArg nI (by omega))) ?_
  refine Bod.bip 51 (by decide) dc_106_67 ?_
  refine Bod.icT dc_106_69 rfl (k2_ne_T (k_ne tk 51 rfl rfl (by omega) (by omega) (by omega))) ?_
  refine Bod.aldnG dc_106_91 (by repeat (first | exact q0 | exact sm_get_p1 | exact sm_get_p2e | refine sm_get_p1m (by decide) (by decide) ?_ | refine sm_get_p1n (by decide) rfl ?_ | refine sm_get_p2n (by decide) (by decide) rfl ?_)) ?_
  refine Bod.virt (r := []) dc_106_92 kr_106_220 ⟨Or.inl rfl, ow_92, cl_10⟩ (by rw [np_92]; rfl) (by rw [np_92]; rfl) (ob_of (mk_43 _)) (Nat.le_of_ble_eq_true rfl) (c3  ) ?_
  show Bod _ _ _ _ [_] _ _ _
  refine Bod.ist dc_106_95 (by rw [ml_106]; exact Nat.le_of_ble_eq_true rfl) ?_
  refine Bod.aldnG dc_106_97 (by repeat (first | exact q0 | exact sm_get_p1 | exact sm_get_p2e | refine sm_get_p1m (by decide) (by decide) ?_ | refine sm_get_p1n (by decide) rfl ?_ | refine sm_get_p2n (by decide) (by decide) rfl ?_)) ?_
  refine Bod.get dc_106_98 fr_106_9 (mk_43 _) rfl ?_
  refine Bod.bip 19 (by decide) dc_106_101 ?_
  refine Bod.virt (r := []) dc_106_103 kr_106_107 ⟨Or.inr rfl, ow_75, cl_3⟩ (by rw [np_75]; rfl) (by rw [np_75]; rfl) (ob_of (mk_31 _)) (Nat.le_of_ble_eq_true rfl) (c4  ) ?_
  show Bod _ _ _ _ [] _ _ _
  refine Bod.aldnG dc_106_106 (by repeat (first | exact q0 | exact sm_get_p1 | exact sm_get_p2e | refine sm_get_p1m (by decide) (by decide) ?_ | refine sm_get_p1n (by decide) rfl ?_ | refine sm_get_p2n (by decide) (by decide) rfl ?_)) ?_
  refine Bod.get dc_106_107 fr_106_23 (mk_43 _) rfl ?_
  refine Bod.ic 0 (by decide) dc_106_110 ?_
  refine Bod.virt (r := []) dc_106_111 kr_106_169 ⟨Or.inr rfl, ow_57, cl_1⟩ (by rw [np_57]; rfl) (by rw [np_57]; rfl) (ob_of (mk_44 _)) (Nat.le_of_ble_eq_true rfl) (c5  ) ?_
  show Bod _ _ _ _ [] _ _ _
  refine Bod.aldnG dc_106_114 (by repeat (first | exact q0 | exact sm_get_p1 | exact sm_get_p2e | refine sm_get_p1m (by decide) (by decide) ?_ | refine sm_get_p1n (by decide) rfl ?_ | refine sm_get_p2n (by decide) (by decide) rfl ?_)) ?_
  refine Bod.ildG dc_106_115 (by repeat (first | exact q0 | exact sm_get_p1 | exact sm_get_p2e | refine sm_get_p1m (by decide) (by decide) ?_ | refine sm_get_p1n (by decide) rfl ?_ | refine sm_get_p2n (by decide) (by decide) rfl ?_)) ?_
  refine Bod.ildnG dc_106_117 (by repeat (first | exact q3 | exact sm_get_p1 | exact sm_get_p2e | refine sm_get_p1m (by decide) (by decide) ?_ | refine sm_get_p1n (by decide) rfl ?_ | refine sm_get_p2n (by decide) (by decide) rfl ?_)) ?_
  refine Bod.virt (r := []) dc_106_118 kr_106_260 ⟨Or.inl rfl, ow_107, cl_10⟩ (by rw [np_107]; rfl) (by rw [np_107]; rfl) (ob_of (mk_43 _)) (Nat.le_of_ble_eq_true rfl) (c6  ) ?_
  show Bod _ _ _ _ [] _ _ _
  refine Bod.aldnG dc_106_121 (by repeat (first | exact q0 | exact sm_get_p1 | exact sm_get_p2e | refine sm_get_p1m (by decide) (by decide) ?_ | refine sm_get_p1n (by decide) rfl ?_ | refine sm_get_p2n (by decide) (by decide) rfl ?_)) ?_
  refine Bod.get dc_106_122 fr_106_9 (mk_43 _) rfl ?_
  refine Bod.virt (r := []) dc_106_125 kr_106_110 ⟨Or.inr rfl, ow_86, cl_3⟩ (by rw [np_86]; rfl) (by rw [np_86]; rfl) (ob_of (mk_31 _)) (Nat.le_of_ble_eq_true rfl) (c7  ) ?_
  show Bod _ _ _ _ [] _ _ _
  refine Bod.incN (t + 1) (by rw [kc_1, nI_add]) dc_106_128 (by rw [ml_106]; exact Nat.le_of_ble_eq_true rfl) (by repeat (first | exact q4 | exact sm_get_p1 | exact sm_get_p2e | refine sm_get_p1m (by decide) (by decide) ?_ | refine sm_get_p1n (by decide) rfl ?_ | refine sm_get_p2n (by decide) (by decide) rfl ?_)) ?_
  refine Bod.go dc_106_131 rfl ?_
  exact hB _ (by repeat (first | exact q0 | exact sm_get_p1 | exact sm_get_p2e | refine sm_get_p1m (by decide) (by decide) ?_ | refine sm_get_p1n (by decide) rfl ?_ | refine sm_get_p2n (by decide) (by decide) rfl ?_)) (by repeat (first | exact q1 | exact sm_get_p1 | exact sm_get_p2e | refine sm_get_p1m (by decide) (by decide) ?_ | refine sm_get_p1n (by decide) rfl ?_ | refine sm_get_p2n (by decide) (by decide) rfl ?_)) (by repeat (first | exact q2 | exact sm_get_p1 | exact sm_get_p2e | refine sm_get_p1m (by decide) (by decide) ?_ | refine sm_get_p1n (by decide) rfl ?_ | refine sm_get_p2n (by decide) (by decide) rfl ?_)) (by repeat (first | exact q3 | exact sm_get_p1 | exact sm_get_p2e | refine sm_get_p1m (by decide) (by decide) ?_ | refine sm_get_p1n (by decide) rfl ?_ | refine sm_get_p2n (by decide) (by decide) rfl ?_)) (by repeat (first | exact q0 | exact sm_get_p1 | exact sm_get_p2e | refine sm_get_p1m (by decide) (by decide) ?_ | refine sm_get_p1n (by decide) rfl ?_ | refine sm_get_p2n (by decide) (by decide) rfl ?_))
theorem cCbL_5 {d : Nat} {S Sf : cS} {v : Option Value} {lv : sm_L} {t : Nat} {i : Nat} {dp : Nat} {fi : Nat} {S1 : cS} {ln : Nat} {S2 : cS} {a : Nat} {tk : Nat} {S3 : cS} {S4 : cS} (q4 : sm_get lv 4 = some (.int (nI t))) (q0 : sm_get lv 0 = some (.ref 43)) (q1 : sm_get lv 1 = some (.int (nI i))) (q2 : sm_get lv 2 = some (.int (nI dp))) (q3 : sm_get lv 3 = some (.int (nI fi))) (mt : t < 2 ^ 20) (mi : i < 2 ^ 20) (mdp : dp < 2 ^ 20) (mfi : fi < 2 ^ 20) (b1 : t ≤ 3000) (c1 : Ans (d + 8) 52 [.ref 43, .int (nI i)] S (some (.int (nI 1))) S1) (hln : sI S1 3106 = nI ln) (mln : ln < 2 ^ 20) (ma : a < 2 ^ 20) (c2 : Ans (d + 8) 54 [.ref 23, .int (nI 1), .int (nI ln)] S1 (some (.int (nI a))) S2) (htk : sI S2 3105 = nI tk) (mtk : tk < 2 ^ 20) (b2 : tk ≠ 46) (b3 : tk = 51) (c3 : Ans (d + 8) 75 [.ref 31, .int (nI 51)] S2 none S3) (c4 : Ans (d + 8) 86 [.ref 31] S3 none S4) (hB : ∀ lv1 : sm_L, sm_get lv1 0 = some (.ref 43) → sm_get lv1 1 = some (.int (nI i)) → sm_get lv1 2 = some (.int (nI dp)) → sm_get lv1 3 = some (.int (nI fi)) → sm_get lv1 4 = some (.int (nI (t + 1))) → Bod (d + 8) 106 3 lv1 [] (S4) v Sf) : Bod (d + 8) 106 3 lv [] S v Sf := by
  refine Bod.ildG dc_106_3 (by repeat (first | exact q4 | exact sm_get_p1 | exact sm_get_p2e | refine sm_get_p1m (by decide) (by decide) ?_ | refine sm_get_p1n (by decide) rfl ?_ | refine sm_get_p2n (by decide) (by decide) rfl ?_)) ?_
  refine Bod.sip 3000 (by decide) dc_106_5 ?_
  refine Bod.icF dc_106_8 rfl (k2_gt_F t 3000 rfl rfl (by omega) (by omega)) ?_
  refine Bod.aldnG dc_106_11 (by repeat (first | exact q0 | exact sm_get_p1 | exact sm_get_p2e | refine sm_get_p1m (by decide) (by decide) ?_ | refine sm_get_p1n (by decide) rfl ?_ | refine sm_get_p2n (by decide) (by decide) rfl ?_)) ?_
  refine Bod.ildnG dc_106_12 (by repeat (first | exact q1 | exact sm_get_p1 | exact sm_get_p2e | refine sm_get_p1m (by decide) (by decide) ?_ | refine sm_get_p1n (by decide) rfl ?_ | refine sm_get_p2n (by decide) (by decide) rfl ?_)) ?_
  refine Bod.virt (r := []) dc_106_13 kr_106_89 ⟨Or.inl rfl, ow_52, cl_10⟩ (by rw [np_52]; rfl) (by rw [np_52]; rfl) (ob_of (mk_43 _)) (Nat.le_of_ble_eq_true rfl) (c1  ) ?_
  show Bod _ _ _ _ [_] _ _ _
  refine Bod.ifF dc_106_16 rfl (k1_eq_F (k_ne 1 0 rfl rfl (by omega) (by omega) (by omega))) ?_
  refine Bod.aldnG dc_106_19 (by repeat (first | exact q0 | exact sm_get_p1 | exact sm_get_p2e | refine sm_get_p1m (by decide) (by decide) ?_ | refine sm_get_p1n (by decide) rfl ?_ | refine sm_get_p2n (by decide) (by decide) rfl ?_)) ?_
  refine Bod.get dc_106_20 fr_106_15 (mk_43 _) rfl ?_
  refine Bod.ic 1 (by decide) dc_106_23 ?_
  refine Bod.aldnG dc_106_24 (by repeat (first | exact q0 | exact sm_get_p1 | exact sm_get_p2e | refine sm_get_p1m (by decide) (by decide) ?_ | refine sm_get_p1n (by decide) rfl ?_ | refine sm_get_p2n (by decide) (by decide) rfl ?_)) ?_
  refine Bod.get dc_106_25 fr_106_9 (mk_43 _) rfl ?_
  refine Bod.get dc_106_28 fr_106_113 (mk_31 _) rfl ?_
  refine Bod.eqI (nI ln) (by first | (simp (disch := omega) only [rI, rIe, rA, rIA, rLA, rJA, rVI, rQI, rVA, rQA, upd_at,  rAI, rLI, rJI, nI_add, pk_sub, kc_0, kc_1, kc_2, kc_3, kc_4, kc_5, reduceIte, Nat.reduceEqDiff, Nat.add_zero, rI_hold, rI_hold, rL_hold, hln]; done) | (simp (disch := omega) only [rI, rIe, rA, rIA, rLA, rJA, rVI, rQI, rVA, rQA, upd_at,  rAI, rLI, rJI, nI_add, pk_sub, kc_0, kc_1, kc_2, kc_3, kc_4, kc_5, reduceIte, Nat.reduceEqDiff, Nat.add_zero, rI_hold, rI_hold, rL_hold, hln]; exact congrArg nI (by omega))) ?_
  refine Bod.virt (r := []) dc_106_31 kr_106_116 ⟨Or.inr rfl, ow_54, cl_7⟩ (by rw [np_54]; rfl) (by rw [np_54]; rfl) (ob_of (mk_23 _)) (Nat.le_of_ble_eq_true rfl) (c2  ) ?_
  show Bod _ _ _ _ [_] _ _ _
  refine Bod.go dc_106_34 rfl ?_
  refine Bod.aldnG dc_106_35 (by repeat (first | exact q0 | exact sm_get_p1 | exact sm_get_p2e | refine sm_get_p1m (by decide) (by decide) ?_ | refine sm_get_p1n (by decide) rfl ?_ | refine sm_get_p2n (by decide) (by decide) rfl ?_)) ?_
  refine Bod.get dc_106_36 fr_106_9 (mk_43 _) rfl ?_
  refine Bod.get dc_106_39 fr_106_79 (mk_31 _) rfl ?_
  refine Bod.eqI (nI tk) (by first | (simp (disch := omega) only [rI, rIe, rA, rIA, rLA, rJA, rVI, rQI, rVA, rQA, upd_at,  rAI, rLI, rJI, nI_add, pk_sub, kc_0, kc_1, kc_2, kc_3, kc_4, kc_5, reduceIte, Nat.reduceEqDiff, Nat.add_zero, rI_hold, rI_hold, rL_hold, hln, htk]; done) | (simp (disch := omega) only [rI, rIe, rA, rIA, rLA, rJA, rVI, rQI, rVA, rQA, upd_at,  rAI, rLI, rJI, nI_add, pk_sub, kc_0, kc_1, kc_2, kc_3, kc_4, kc_5, reduceIte, Nat.reduceEqDiff, Nat.add_zero, rI_hold, rI_hold, rL_hold, hln, htk]; exact congrArg nI (by omega))) ?_
  refine Bod.bip 46 (by decide) dc_106_42 ?_
  refine Bod.icT dc_106_44 rfl (k2_ne_T (k_ne tk 46 rfl rfl (by omega) (by omega) (by omega))) ?_
  refine Bod.aldnG dc_106_60 (by repeat (first | exact q0 | exact sm_get_p1 | exact sm_get_p2e | refine sm_get_p1m (by decide) (by decide) ?_ | refine sm_get_p1n (by decide) rfl ?_ | refine sm_get_p2n (by decide) (by decide) rfl ?_)) ?_
  refine Bod.get dc_106_61 fr_106_9 (mk_43 _) rfl ?_
  refine Bod.get dc_106_64 fr_106_79 (mk_31 _) rfl ?_
  refine Bod.eqI (nI tk) (by first | (simp (disch := omega) only [rI, rIe, rA, rIA, rLA, rJA, rVI, rQI, rVA, rQA, upd_at,  rAI, rLI, rJI, nI_add, pk_sub, kc_0, kc_1, kc_2, kc_3, kc_4, kc_5, reduceIte, Nat.reduceEqDiff, Nat.add_zero, rI_hold, rI_hold, rL_hold, hln, htk]; done) | (simp (disch := omega) only [rI, rIe, rA, rIA, rLA, rJA, rVI, rQI, rVA, rQA, upd_at,  rAI, rLI, rJI, nI_add, pk_sub, kc_0, kc_1, kc_2, kc_3, kc_4, kc_5, reduceIte, Nat.reduceEqDiff, Nat.add_zero, rI_hold, rI_hold, rL_hold, hln, htk]; exact congrArg nI (by omega))) ?_
  refine Bod.bip 51 (by decide) dc_106_67 ?_
  refine Bod.icF dc_106_69 rfl (k2_ne_F (k_eq tk 51 rfl rfl (by omega))) ?_
  refine Bod.aldnG dc_106_72 (by repeat (first | exact q0 | exact sm_get_p1 | exact sm_get_p2e | refine sm_get_p1m (by decide) (by decide) ?_ | refine sm_get_p1n (by decide) rfl ?_ | refine sm_get_p2n (by decide) (by decide) rfl ?_)) ?_
  refine Bod.get dc_106_73 fr_106_9 (mk_43 _) rfl ?_
  refine Bod.bip 51 (by decide) dc_106_76 ?_
  refine Bod.virt (r := []) dc_106_78 kr_106_107 ⟨Or.inr rfl, ow_75, cl_3⟩ (by rw [np_75]; rfl) (by rw [np_75]; rfl) (ob_of (mk_31 _)) (Nat.le_of_ble_eq_true rfl) (c3  ) ?_
  show Bod _ _ _ _ [] _ _ _
  refine Bod.aldnG dc_106_81 (by repeat (first | exact q0 | exact sm_get_p1 | exact sm_get_p2e | refine sm_get_p1m (by decide) (by decide) ?_ | refine sm_get_p1n (by decide) rfl ?_ | refine sm_get_p2n (by decide) (by decide) rfl ?_)) ?_
  refine Bod.get dc_106_82 fr_106_9 (mk_43 _) rfl ?_
  refine Bod.virt (r := []) dc_106_85 kr_106_110 ⟨Or.inr rfl, ow_86, cl_3⟩ (by rw [np_86]; rfl) (by rw [np_86]; rfl) (ob_of (mk_31 _)) (Nat.le_of_ble_eq_true rfl) (c4  ) ?_
  show Bod _ _ _ _ [] _ _ _
  refine Bod.go dc_106_88 rfl ?_
  refine Bod.incN (t + 1) (by rw [kc_1, nI_add]) dc_106_128 (by rw [ml_106]; exact Nat.le_of_ble_eq_true rfl) (by repeat (first | exact q4 | exact sm_get_p1 | exact sm_get_p2e | refine sm_get_p1m (by decide) (by decide) ?_ | refine sm_get_p1n (by decide) rfl ?_ | refine sm_get_p2n (by decide) (by decide) rfl ?_)) ?_
  refine Bod.go dc_106_131 rfl ?_
  exact hB _ (by repeat (first | exact q0 | exact sm_get_p1 | exact sm_get_p2e | refine sm_get_p1m (by decide) (by decide) ?_ | refine sm_get_p1n (by decide) rfl ?_ | refine sm_get_p2n (by decide) (by decide) rfl ?_)) (by repeat (first | exact q1 | exact sm_get_p1 | exact sm_get_p2e | refine sm_get_p1m (by decide) (by decide) ?_ | refine sm_get_p1n (by decide) rfl ?_ | refine sm_get_p2n (by decide) (by decide) rfl ?_)) (by repeat (first | exact q2 | exact sm_get_p1 | exact sm_get_p2e | refine sm_get_p1m (by decide) (by decide) ?_ | refine sm_get_p1n (by decide) rfl ?_ | refine sm_get_p2n (by decide) (by decide) rfl ?_)) (by repeat (first | exact q3 | exact sm_get_p1 | exact sm_get_p2e | refine sm_get_p1m (by decide) (by decide) ?_ | refine sm_get_p1n (by decide) rfl ?_ | refine sm_get_p2n (by decide) (by decide) rfl ?_)) (by repeat (first | exact q0 | exact sm_get_p1 | exact sm_get_p2e | refine sm_get_p1m (by decide) (by decide) ?_ | refine sm_get_p1n (by decide) rfl ?_ | refine sm_get_p2n (by decide) (by decide) rfl ?_))
theorem cCbL_6 {d : Nat} {S Sf : cS} {v : Option Value} {lv : sm_L} {t : Nat} {i : Nat} {dp : Nat} {fi : Nat} {S1 : cS} {ln : Nat} {S2 : cS} {a : Nat} {tk : Nat} {S3 : cS} {a1 : Nat} {S4 : cS} (q4 : sm_get lv 4 = some (.int (nI t))) (q0 : sm_get lv 0 = some (.ref 43)) (q1 : sm_get lv 1 = some (.int (nI i))) (q2 : sm_get lv 2 = some (.int (nI dp))) (q3 : sm_get lv 3 = some (.int (nI fi))) (mt : t < 2 ^ 20) (mi : i < 2 ^ 20) (mdp : dp < 2 ^ 20) (mfi : fi < 2 ^ 20) (b1 : t ≤ 3000) (c1 : Ans (d + 8) 52 [.ref 43, .int (nI i)] S (some (.int (nI 1))) S1) (hln : sI S1 3106 = nI ln) (mln : ln < 2 ^ 20) (ma : a < 2 ^ 20) (c2 : Ans (d + 8) 54 [.ref 23, .int (nI 1), .int (nI ln)] S1 (some (.int (nI a))) S2) (htk : sI S2 3105 = nI tk) (mtk : tk < 2 ^ 20) (b2 : tk = 46) (ma1 : a1 < 2 ^ 20) (c3 : Ans (d + 8) 97 [.ref 43, .int (nI dp)] S2 (some (.int (nI a1))) S3) (c4 : Ans (d + 8) 107 [.ref 43, .int (nI a1), .int (nI fi)] S3 none S4) (hB : ∀ lv1 : sm_L, sm_get lv1 0 = some (.ref 43) → sm_get lv1 1 = some (.int (nI i)) → sm_get lv1 2 = some (.int (nI dp)) → sm_get lv1 3 = some (.int (nI fi)) → sm_get lv1 4 = some (.int (nI (t + 1))) → Bod (d + 8) 106 3 lv1 [] (S4) v Sf) : Bod (d + 8) 106 3 lv [] S v Sf := by
  refine Bod.ildG dc_106_3 (by repeat (first | exact q4 | exact sm_get_p1 | exact sm_get_p2e | refine sm_get_p1m (by decide) (by decide) ?_ | refine sm_get_p1n (by decide) rfl ?_ | refine sm_get_p2n (by decide) (by decide) rfl ?_)) ?_
  refine Bod.sip 3000 (by decide) dc_106_5 ?_
  refine Bod.icF dc_106_8 rfl (k2_gt_F t 3000 rfl rfl (by omega) (by omega)) ?_
  refine Bod.aldnG dc_106_11 (by repeat (first | exact q0 | exact sm_get_p1 | exact sm_get_p2e | refine sm_get_p1m (by decide) (by decide) ?_ | refine sm_get_p1n (by decide) rfl ?_ | refine sm_get_p2n (by decide) (by decide) rfl ?_)) ?_
  refine Bod.ildnG dc_106_12 (by repeat (first | exact q1 | exact sm_get_p1 | exact sm_get_p2e | refine sm_get_p1m (by decide) (by decide) ?_ | refine sm_get_p1n (by decide) rfl ?_ | refine sm_get_p2n (by decide) (by decide) rfl ?_)) ?_
  refine Bod.virt (r := []) dc_106_13 kr_106_89 ⟨Or.inl rfl, ow_52, cl_10⟩ (by rw [np_52]; rfl) (by rw [np_52]; rfl) (ob_of (mk_43 _)) (Nat.le_of_ble_eq_true rfl) (c1  ) ?_
  show Bod _ _ _ _ [_] _ _ _
  refine Bod.ifF dc_106_16 rfl (k1_eq_F (k_ne 1 0 rfl rfl (by omega) (by omega) (by omega))) ?_
  refine Bod.aldnG dc_106_19 (by repeat (first | exact q0 | exact sm_get_p1 | exact sm_get_p2e | refine sm_get_p1m (by decide) (by decide) ?_ | refine sm_get_p1n (by decide) rfl ?_ | refine sm_get_p2n (by decide) (by decide) rfl ?_)) ?_
  refine Bod.get dc_106_20 fr_106_15 (mk_43 _) rfl ?_
  refine Bod.ic 1 (by decide) dc_106_23 ?_
  refine Bod.aldnG dc_106_24 (by repeat (first | exact q0 | exact sm_get_p1 | exact sm_get_p2e | refine sm_get_p1m (by decide) (by decide) ?_ | refine sm_get_p1n (by decide) rfl ?_ | refine sm_get_p2n (by decide) (by decide) rfl ?_)) ?_
  refine Bod.get dc_106_25 fr_106_9 (mk_43 _) rfl ?_
  refine Bod.get dc_106_28 fr_106_113 (mk_31 _) rfl ?_
  refine Bod.eqI (nI ln) (by first | (simp (disch := omega) only [rI, rIe, rA, rIA, rLA, rJA, rVI, rQI, rVA, rQA, upd_at,  rAI, rLI, rJI, nI_add, pk_sub, kc_0, kc_1, kc_2, kc_3, kc_4, kc_5, reduceIte, Nat.reduceEqDiff, Nat.add_zero, rI_hold, rI_hold, rL_hold, hln]; done) | (simp (disch := omega) only [rI, rIe, rA, rIA, rLA, rJA, rVI, rQI, rVA, rQA, upd_at,  rAI, rLI, rJI, nI_add, pk_sub, kc_0, kc_1, kc_2, kc_3, kc_4, kc_5, reduceIte, Nat.reduceEqDiff, Nat.add_zero, rI_hold, rI_hold, rL_hold, hln]; exact congrArg nI (by omega))) ?_
  refine Bod.virt (r := []) dc_106_31 kr_106_116 ⟨Or.inr rfl, ow_54, cl_7⟩ (by rw [np_54]; rfl) (by rw [np_54]; rfl) (ob_of (mk_23 _)) (Nat.le_of_ble_eq_true rfl) (c2  ) ?_
  show Bod _ _ _ _ [_] _ _ _
  refine Bod.go dc_106_34 rfl ?_
  refine Bod.aldnG dc_106_35 (by repeat (first | exact q0 | exact sm_get_p1 | exact sm_get_p2e | refine sm_get_p1m (by decide) (by decide) ?_ | refine sm_get_p1n (by decide) rfl ?_ | refine sm_get_p2n (by decide) (by decide) rfl ?_)) ?_
  refine Bod.get dc_106_36 fr_106_9 (mk_43 _) rfl ?_
  refine Bod.get dc_106_39 fr_106_79 (mk_31 _) rfl ?_
  refine Bod.eqI (nI tk) (by first | (simp (disch := omega) only [rI, rIe, rA, rIA, rLA, rJA, rVI, rQI, rVA, rQA, upd_at,  rAI, rLI, rJI, nI_add, pk_sub, kc_0, kc_1, kc_2, kc_3, kc_4, kc_5, reduceIte, Nat.reduceEqDiff, Nat.add_zero, rI_hold, rI_hold, rL_hold, hln, htk]; done) | (simp (disch := omega) only [rI, rIe, rA, rIA, rLA, rJA, rVI, rQI, rVA, rQA, upd_at,  rAI, rLI, rJI, nI_add, pk_sub, kc_0, kc_1, kc_2, kc_3, kc_4, kc_5, reduceIte, Nat.reduceEqDiff, Nat.add_zero, rI_hold, rI_hold, rL_hold, hln, htk]; exact congrArg nI (by omega))) ?_
  refine Bod.bip 46 (by decide) dc_106_42 ?_
  refine Bod.icF dc_106_44 rfl (k2_ne_F (k_eq tk 46 rfl rfl (by omega))) ?_
  refine Bod.aldnG dc_106_47 (by repeat (first | exact q0 | exact sm_get_p1 | exact sm_get_p2e | refine sm_get_p1m (by decide) (by decide) ?_ | refine sm_get_p1n (by decide) rfl ?_ | refine sm_get_p2n (by decide) (by decide) rfl ?_)) ?_
  refine Bod.aldnG dc_106_48 (by repeat (first | exact q0 | exact sm_get_p1 | exact sm_get_p2e | refine sm_get_p1m (by decide) (by decide) ?_ | refine sm_get_p1n (by decide) rfl ?_ | refine sm_get_p2n (by decide) (by decide) rfl ?_)) ?_
  refine Bod.ildnG dc_106_49 (by repeat (first | exact q2 | exact sm_get_p1 | exact sm_get_p2e | refine sm_get_p1m (by decide) (by decide) ?_ | refine sm_get_p1n (by decide) rfl ?_ | refine sm_get_p2n (by decide) (by decide) rfl ?_)) ?_
  refine Bod.virt (r := [_]) dc_106_50 kr_106_128 ⟨Or.inl rfl, ow_97, cl_10⟩ (by rw [np_97]; rfl) (by rw [np_97]; rfl) (ob_of (mk_43 _)) (Nat.le_of_ble_eq_true rfl) (c3  ) ?_
  show Bod _ _ _ _ [_, _] _ _ _
  refine Bod.ildnG dc_106_53 (by repeat (first | exact q3 | exact sm_get_p1 | exact sm_get_p2e | refine sm_get_p1m (by decide) (by decide) ?_ | refine sm_get_p1n (by decide) rfl ?_ | refine sm_get_p2n (by decide) (by decide) rfl ?_)) ?_
  refine Bod.virt (r := []) dc_106_54 kr_106_260 ⟨Or.inl rfl, ow_107, cl_10⟩ (by rw [np_107]; rfl) (by rw [np_107]; rfl) (ob_of (mk_43 _)) (Nat.le_of_ble_eq_true rfl) (c4  ) ?_
  show Bod _ _ _ _ [] _ _ _
  refine Bod.go dc_106_57 rfl ?_
  refine Bod.incN (t + 1) (by rw [kc_1, nI_add]) dc_106_128 (by rw [ml_106]; exact Nat.le_of_ble_eq_true rfl) (by repeat (first | exact q4 | exact sm_get_p1 | exact sm_get_p2e | refine sm_get_p1m (by decide) (by decide) ?_ | refine sm_get_p1n (by decide) rfl ?_ | refine sm_get_p2n (by decide) (by decide) rfl ?_)) ?_
  refine Bod.go dc_106_131 rfl ?_
  exact hB _ (by repeat (first | exact q0 | exact sm_get_p1 | exact sm_get_p2e | refine sm_get_p1m (by decide) (by decide) ?_ | refine sm_get_p1n (by decide) rfl ?_ | refine sm_get_p2n (by decide) (by decide) rfl ?_)) (by repeat (first | exact q1 | exact sm_get_p1 | exact sm_get_p2e | refine sm_get_p1m (by decide) (by decide) ?_ | refine sm_get_p1n (by decide) rfl ?_ | refine sm_get_p2n (by decide) (by decide) rfl ?_)) (by repeat (first | exact q2 | exact sm_get_p1 | exact sm_get_p2e | refine sm_get_p1m (by decide) (by decide) ?_ | refine sm_get_p1n (by decide) rfl ?_ | refine sm_get_p2n (by decide) (by decide) rfl ?_)) (by repeat (first | exact q3 | exact sm_get_p1 | exact sm_get_p2e | refine sm_get_p1m (by decide) (by decide) ?_ | refine sm_get_p1n (by decide) rfl ?_ | refine sm_get_p2n (by decide) (by decide) rfl ?_)) (by repeat (first | exact q0 | exact sm_get_p1 | exact sm_get_p2e | refine sm_get_p1m (by decide) (by decide) ?_ | refine sm_get_p1n (by decide) rfl ?_ | refine sm_get_p2n (by decide) (by decide) rfl ?_))
theorem cCbL_7 {d : Nat} {S : cS} {lv : sm_L} {t : Nat} {i : Nat} {dp : Nat} {fi : Nat} {S1 : cS} {ind : Nat} (q4 : sm_get lv 4 = some (.int (nI t))) (q0 : sm_get lv 0 = some (.ref 43)) (q1 : sm_get lv 1 = some (.int (nI i))) (q2 : sm_get lv 2 = some (.int (nI dp))) (q3 : sm_get lv 3 = some (.int (nI fi))) (mt : t < 2 ^ 20) (mi : i < 2 ^ 20) (mdp : dp < 2 ^ 20) (mfi : fi < 2 ^ 20) (b1 : t ≤ 3000) (c1 : Ans (d + 8) 52 [.ref 43, .int (nI i)] S (some (.int (nI 0))) S1) (hind : sI S1 3108 = nI ind) (mind : ind < 2 ^ 20) (b2 : ind ≤ i) : Bod (d + 8) 106 3 lv [] S none (S1) := by
  refine Bod.ildG dc_106_3 (by repeat (first | exact q4 | exact sm_get_p1 | exact sm_get_p2e | refine sm_get_p1m (by decide) (by decide) ?_ | refine sm_get_p1n (by decide) rfl ?_ | refine sm_get_p2n (by decide) (by decide) rfl ?_)) ?_
  refine Bod.sip 3000 (by decide) dc_106_5 ?_
  refine Bod.icF dc_106_8 rfl (k2_gt_F t 3000 rfl rfl (by omega) (by omega)) ?_
  refine Bod.aldnG dc_106_11 (by repeat (first | exact q0 | exact sm_get_p1 | exact sm_get_p2e | refine sm_get_p1m (by decide) (by decide) ?_ | refine sm_get_p1n (by decide) rfl ?_ | refine sm_get_p2n (by decide) (by decide) rfl ?_)) ?_
  refine Bod.ildnG dc_106_12 (by repeat (first | exact q1 | exact sm_get_p1 | exact sm_get_p2e | refine sm_get_p1m (by decide) (by decide) ?_ | refine sm_get_p1n (by decide) rfl ?_ | refine sm_get_p2n (by decide) (by decide) rfl ?_)) ?_
  refine Bod.virt (r := []) dc_106_13 kr_106_89 ⟨Or.inl rfl, ow_52, cl_10⟩ (by rw [np_52]; rfl) (by rw [np_52]; rfl) (ob_of (mk_43 _)) (Nat.le_of_ble_eq_true rfl) (c1  ) ?_
  show Bod _ _ _ _ [_] _ _ _
  refine Bod.ifT dc_106_16 rfl (k1_eq_T (k_eq 0 0 rfl rfl (by omega))) ?_
  refine Bod.aldnG dc_106_134 (by repeat (first | exact q0 | exact sm_get_p1 | exact sm_get_p2e | refine sm_get_p1m (by decide) (by decide) ?_ | refine sm_get_p1n (by decide) rfl ?_ | refine sm_get_p2n (by decide) (by decide) rfl ?_)) ?_
  refine Bod.get dc_106_135 fr_106_9 (mk_43 _) rfl ?_
  refine Bod.get dc_106_138 fr_106_96 (mk_31 _) rfl ?_
  refine Bod.eqI (nI ind) (by first | (simp (disch := omega) only [rI, rIe, rA, rIA, rLA, rJA, rVI, rQI, rVA, rQA, upd_at,  rAI, rLI, rJI, nI_add, pk_sub, kc_0, kc_1, kc_2, kc_3, kc_4, kc_5, reduceIte, Nat.reduceEqDiff, Nat.add_zero, rI_hold, rI_hold, rL_hold, hind]; done) | (simp (disch := omega) only [rI, rIe, rA, rIA, rLA, rJA, rVI, rQI, rVA, rQA, upd_at,  rAI, rLI, rJI, nI_add, pk_sub, kc_0, kc_1, kc_2, kc_3, kc_4, kc_5, reduceIte, Nat.reduceEqDiff, Nat.add_zero, rI_hold, rI_hold, rL_hold, hind]; exact congrArg nI (by omega))) ?_
  refine Bod.ildnG dc_106_141 (by repeat (first | exact q1 | exact sm_get_p1 | exact sm_get_p2e | refine sm_get_p1m (by decide) (by decide) ?_ | refine sm_get_p1n (by decide) rfl ?_ | refine sm_get_p2n (by decide) (by decide) rfl ?_)) ?_
  refine Bod.icT dc_106_142 rfl (k2_le_T ind i rfl rfl (by omega) (by omega)) ?_
  exact Bod.retV dc_106_152 rt_106
theorem cCbL_8 {d : Nat} {S : cS} {lv : sm_L} {t : Nat} {i : Nat} {dp : Nat} {fi : Nat} {S1 : cS} {ind : Nat} {S2 : cS} (q4 : sm_get lv 4 = some (.int (nI t))) (q0 : sm_get lv 0 = some (.ref 43)) (q1 : sm_get lv 1 = some (.int (nI i))) (q2 : sm_get lv 2 = some (.int (nI dp))) (q3 : sm_get lv 3 = some (.int (nI fi))) (mt : t < 2 ^ 20) (mi : i < 2 ^ 20) (mdp : dp < 2 ^ 20) (mfi : fi < 2 ^ 20) (b1 : t ≤ 3000) (c1 : Ans (d + 8) 52 [.ref 43, .int (nI i)] S (some (.int (nI 0))) S1) (hind : sI S1 3108 = nI ind) (mind : ind < 2 ^ 20) (b2 : i < ind) (c2 : Ans (d + 8) 44 [.ref 31] S1 none S2) : Bod (d + 8) 106 3 lv [] S none (S2) := by
  refine Bod.ildG dc_106_3 (by repeat (first | exact q4 | exact sm_get_p1 | exact sm_get_p2e | refine sm_get_p1m (by decide) (by decide) ?_ | refine sm_get_p1n (by decide) rfl ?_ | refine sm_get_p2n (by decide) (by decide) rfl ?_)) ?_
  refine Bod.sip 3000 (by decide) dc_106_5 ?_
  refine Bod.icF dc_106_8 rfl (k2_gt_F t 3000 rfl rfl (by omega) (by omega)) ?_
  refine Bod.aldnG dc_106_11 (by repeat (first | exact q0 | exact sm_get_p1 | exact sm_get_p2e | refine sm_get_p1m (by decide) (by decide) ?_ | refine sm_get_p1n (by decide) rfl ?_ | refine sm_get_p2n (by decide) (by decide) rfl ?_)) ?_
  refine Bod.ildnG dc_106_12 (by repeat (first | exact q1 | exact sm_get_p1 | exact sm_get_p2e | refine sm_get_p1m (by decide) (by decide) ?_ | refine sm_get_p1n (by decide) rfl ?_ | refine sm_get_p2n (by decide) (by decide) rfl ?_)) ?_
  refine Bod.virt (r := []) dc_106_13 kr_106_89 ⟨Or.inl rfl, ow_52, cl_10⟩ (by rw [np_52]; rfl) (by rw [np_52]; rfl) (ob_of (mk_43 _)) (Nat.le_of_ble_eq_true rfl) (c1  ) ?_
  show Bod _ _ _ _ [_] _ _ _
  refine Bod.ifT dc_106_16 rfl (k1_eq_T (k_eq 0 0 rfl rfl (by omega))) ?_
  refine Bod.aldnG dc_106_134 (by repeat (first | exact q0 | exact sm_get_p1 | exact sm_get_p2e | refine sm_get_p1m (by decide) (by decide) ?_ | refine sm_get_p1n (by decide) rfl ?_ | refine sm_get_p2n (by decide) (by decide) rfl ?_)) ?_
  refine Bod.get dc_106_135 fr_106_9 (mk_43 _) rfl ?_
  refine Bod.get dc_106_138 fr_106_96 (mk_31 _) rfl ?_
  refine Bod.eqI (nI ind) (by first | (simp (disch := omega) only [rI, rIe, rA, rIA, rLA, rJA, rVI, rQI, rVA, rQA, upd_at,  rAI, rLI, rJI, nI_add, pk_sub, kc_0, kc_1, kc_2, kc_3, kc_4, kc_5, reduceIte, Nat.reduceEqDiff, Nat.add_zero, rI_hold, rI_hold, rL_hold, hind]; done) | (simp (disch := omega) only [rI, rIe, rA, rIA, rLA, rJA, rVI, rQI, rVA, rQA, upd_at,  rAI, rLI, rJI, nI_add, pk_sub, kc_0, kc_1, kc_2, kc_3, kc_4, kc_5, reduceIte, Nat.reduceEqDiff, Nat.add_zero, rI_hold, rI_hold, rL_hold, hind]; exact congrArg nI (by omega))) ?_
  refine Bod.ildnG dc_106_141 (by repeat (first | exact q1 | exact sm_get_p1 | exact sm_get_p2e | refine sm_get_p1m (by decide) (by decide) ?_ | refine sm_get_p1n (by decide) rfl ?_ | refine sm_get_p2n (by decide) (by decide) rfl ?_)) ?_
  refine Bod.icF dc_106_142 rfl (k2_le_F ind i rfl rfl (by omega) (by omega)) ?_
  refine Bod.aldnG dc_106_145 (by repeat (first | exact q0 | exact sm_get_p1 | exact sm_get_p2e | refine sm_get_p1m (by decide) (by decide) ?_ | refine sm_get_p1n (by decide) rfl ?_ | refine sm_get_p2n (by decide) (by decide) rfl ?_)) ?_
  refine Bod.get dc_106_146 fr_106_9 (mk_43 _) rfl ?_
  refine Bod.virt (r := []) dc_106_149 kr_106_76 ⟨Or.inr rfl, ow_44, cl_3⟩ (by rw [np_44]; rfl) (by rw [np_44]; rfl) (ob_of (mk_31 _)) (Nat.le_of_ble_eq_true rfl) (c2  ) ?_
  show Bod _ _ _ _ [] _ _ _
  exact Bod.retV dc_106_152 rt_106
theorem cCbL_9 {d : Nat} {S : cS} {lv : sm_L} {t : Nat} {i : Nat} {dp : Nat} {fi : Nat} {S1 : cS} (q4 : sm_get lv 4 = some (.int (nI t))) (q0 : sm_get lv 0 = some (.ref 43)) (q1 : sm_get lv 1 = some (.int (nI i))) (q2 : sm_get lv 2 = some (.int (nI dp))) (q3 : sm_get lv 3 = some (.int (nI fi))) (mt : t < 2 ^ 20) (mi : i < 2 ^ 20) (mdp : dp < 2 ^ 20) (mfi : fi < 2 ^ 20) (b1 : t ≤ 3000) (c1 : Ans (d + 8) 52 [.ref 43, .int (nI i)] S (some (.int (nI 0))) S1) (n2 : sI S1 3108 = Int32.ofInt (-1)) : Bod (d + 8) 106 3 lv [] S none (S1) := by
  refine Bod.ildG dc_106_3 (by repeat (first | exact q4 | exact sm_get_p1 | exact sm_get_p2e | refine sm_get_p1m (by decide) (by decide) ?_ | refine sm_get_p1n (by decide) rfl ?_ | refine sm_get_p2n (by decide) (by decide) rfl ?_)) ?_
  refine Bod.sip 3000 (by decide) dc_106_5 ?_
  refine Bod.icF dc_106_8 rfl (k2_gt_F t 3000 rfl rfl (by omega) (by omega)) ?_
  refine Bod.aldnG dc_106_11 (by repeat (first | exact q0 | exact sm_get_p1 | exact sm_get_p2e | refine sm_get_p1m (by decide) (by decide) ?_ | refine sm_get_p1n (by decide) rfl ?_ | refine sm_get_p2n (by decide) (by decide) rfl ?_)) ?_
  refine Bod.ildnG dc_106_12 (by repeat (first | exact q1 | exact sm_get_p1 | exact sm_get_p2e | refine sm_get_p1m (by decide) (by decide) ?_ | refine sm_get_p1n (by decide) rfl ?_ | refine sm_get_p2n (by decide) (by decide) rfl ?_)) ?_
  refine Bod.virt (r := []) dc_106_13 kr_106_89 ⟨Or.inl rfl, ow_52, cl_10⟩ (by rw [np_52]; rfl) (by rw [np_52]; rfl) (ob_of (mk_43 _)) (Nat.le_of_ble_eq_true rfl) (c1  ) ?_
  show Bod _ _ _ _ [_] _ _ _
  refine Bod.ifT dc_106_16 rfl (k1_eq_T (k_eq 0 0 rfl rfl (by omega))) ?_
  refine Bod.aldnG dc_106_134 (by repeat (first | exact q0 | exact sm_get_p1 | exact sm_get_p2e | refine sm_get_p1m (by decide) (by decide) ?_ | refine sm_get_p1n (by decide) rfl ?_ | refine sm_get_p2n (by decide) (by decide) rfl ?_)) ?_
  refine Bod.get dc_106_135 fr_106_9 (mk_43 _) rfl ?_
  refine Bod.get dc_106_138 fr_106_96 (mk_31 _) rfl ?_
  refine Bod.eqI (Int32.ofInt (-1)) (by first | (simp (disch := omega) only [rI, rIe, rA, rIA, rLA, rJA, rVI, rQI, rVA, rQA, upd_at,  rAI, rLI, rJI, nI_add, pk_sub, kc_0, kc_1, kc_2, kc_3, kc_4, kc_5, reduceIte, Nat.reduceEqDiff, Nat.add_zero, rI_hold, rI_hold, rL_hold, n2]; done) | (simp (disch := omega) only [rI, rIe, rA, rIA, rLA, rJA, rVI, rQI, rVA, rQA, upd_at,  rAI, rLI, rJI, nI_add, pk_sub, kc_0, kc_1, kc_2, kc_3, kc_4, kc_5, reduceIte, Nat.reduceEqDiff, Nat.add_zero, rI_hold, rI_hold, rL_hold, n2]; exact congrArg nI (by omega))) ?_
  refine Bod.ildnG dc_106_141 (by repeat (first | exact q1 | exact sm_get_p1 | exact sm_get_p2e | refine sm_get_p1m (by decide) (by decide) ?_ | refine sm_get_p1n (by decide) rfl ?_ | refine sm_get_p2n (by decide) (by decide) rfl ?_)) ?_
  refine Bod.icT dc_106_142 rfl (ml_le (by omega)) ?_
  exact Bod.retV dc_106_152 rt_106
theorem cGv0_1 {d : Nat} {S Sf : cS} {v : Option Value} {q : Nat} {fi : Nat} (mq : q < 2 ^ 20) (mfi : fi < 2 ^ 20) (hB : ∀ lv1 : sm_L, sm_get lv1 0 = some (.ref 43) → sm_get lv1 1 = some (.int (nI q)) → sm_get lv1 2 = some (.int (nI fi)) → sm_get lv1 3 = some (.int (nI fi)) → Bod (d + 8) 107 2 lv1 [] (S) v Sf) : Bod (d + 8) 107 0 [(0, .ref 43), (1, .int (nI q)), (2, .int (nI fi))] [] S v Sf := by
  refine Bod.go dc_107_0 rfl ?_
  refine Bod.istn dc_107_1 (by rw [ml_107]; exact Nat.le_of_ble_eq_true rfl) ?_
  exact hB _ (by first | rfl | exact (by repeat (first | exact rfl | exact sm_get_p1 | exact sm_get_p2e | refine sm_get_p1m (by decide) (by decide) ?_ | refine sm_get_p1n (by decide) rfl ?_ | refine sm_get_p2n (by decide) (by decide) rfl ?_))) (by first | rfl | exact (by repeat (first | exact rfl | exact sm_get_p1 | exact sm_get_p2e | refine sm_get_p1m (by decide) (by decide) ?_ | refine sm_get_p1n (by decide) rfl ?_ | refine sm_get_p2n (by decide) (by decide) rfl ?_))) (by first | rfl | exact (by repeat (first | exact rfl | exact sm_get_p1 | exact sm_get_p2e | refine sm_get_p1m (by decide) (by decide) ?_ | refine sm_get_p1n (by decide) rfl ?_ | refine sm_get_p2n (by decide) (by decide) rfl ?_))) (by first | rfl | exact (by repeat (first | exact rfl | exact sm_get_p1 | exact sm_get_p2e | refine sm_get_p1m (by decide) (by decide) ?_ | refine sm_get_p1n (by decide) rfl ?_ | refine sm_get_p2n (by decide) (by decide) rfl ?_)))
theorem cGvL_1 {d : Nat} {S : cS} {lv : sm_L} {i : Nat} {q : Nat} {fi : Nat} {av : Nat} {S1 : cS} {a : Nat} (q3 : sm_get lv 3 = some (.int (nI i))) (q0 : sm_get lv 0 = some (.ref 43)) (q1 : sm_get lv 1 = some (.int (nI q))) (q2 : sm_get lv 2 = some (.int (nI fi))) (mi : i < 2 ^ 20) (mq : q < 2 ^ 20) (mfi : fi < 2 ^ 20) (hav : sI S 4305 = nI av) (mav : av < 2 ^ 20) (b1 : av ≤ i) (b2 : fi ≤ av) (b3 : 40 ≤ (av - fi)) (ma : a < 2 ^ 20) (c1 : Ans (d + 8) 54 [.ref 23, .int (nI 15), .int (nI 8)] S (some (.int (nI a))) S1) : Bod (d + 8) 107 2 lv [] S none (S1) := by
  refine Bod.ildnG dc_107_2 (by repeat (first | exact q3 | exact sm_get_p1 | exact sm_get_p2e | refine sm_get_p1m (by decide) (by decide) ?_ | refine sm_get_p1n (by decide) rfl ?_ | refine sm_get_p2n (by decide) (by decide) rfl ?_)) ?_
  refine Bod.aldnG dc_107_3 (by repeat (first | exact q0 | exact sm_get_p1 | exact sm_get_p2e | refine sm_get_p1m (by decide) (by decide) ?_ | refine sm_get_p1n (by decide) rfl ?_ | refine sm_get_p2n (by decide) (by decide) rfl ?_)) ?_
  refine Bod.get dc_107_4 fr_107_42 (mk_43 _) rfl ?_
  refine Bod.eqI (nI av) (by first | assumption | rfl | exact congrArg nI (by omega) | (simp (disch := omega) only [rI, rIe, rA, rIA, rLA, rJA, rVI, rQI, rVA, rQA, upd_at,  rAI, rLI, rJI, nI_add, pk_sub, kc_0, kc_1, kc_2, kc_3, kc_4, kc_5, reduceIte, Nat.reduceEqDiff, Nat.add_zero, rI_hold, rI_hold, rL_hold, hav]; done)) ?_
  refine Bod.icT dc_107_7 rfl (k2_ge_T i av rfl rfl (by omega) (by omega)) ?_
  refine Bod.aldnG dc_107_52 (by repeat (first | exact q0 | exact sm_get_p1 | exact sm_get_p2e | refine sm_get_p1m (by decide) (by decide) ?_ | refine sm_get_p1n (by decide) rfl ?_ | refine sm_get_p2n (by decide) (by decide) rfl ?_)) ?_
  refine Bod.get dc_107_53 fr_107_42 (mk_43 _) rfl ?_
  refine Bod.eqI (nI av) (by first | assumption | rfl | exact congrArg nI (by omega) | (simp (disch := omega) only [rI, rIe, rA, rIA, rLA, rJA, rVI, rQI, rVA, rQA, upd_at,  rAI, rLI, rJI, nI_add, pk_sub, kc_0, kc_1, kc_2, kc_3, kc_4, kc_5, reduceIte, Nat.reduceEqDiff, Nat.add_zero, rI_hold, rI_hold, rL_hold, hav]; done)) ?_
  refine Bod.ildnG dc_107_56 (by repeat (first | exact q2 | exact sm_get_p1 | exact sm_get_p2e | refine sm_get_p1m (by decide) (by decide) ?_ | refine sm_get_p1n (by decide) rfl ?_ | refine sm_get_p2n (by decide) (by decide) rfl ?_)) ?_
  refine Bod.subN (av - fi) (by omega) (by omega) dc_107_57 ?_
  refine Bod.bip 40 (by decide) dc_107_58 ?_
  refine Bod.icT dc_107_60 rfl (k2_ge_T (av - fi) 40 rfl rfl (by omega) (by omega)) ?_
  refine Bod.aldnG dc_107_75 (by repeat (first | exact q0 | exact sm_get_p1 | exact sm_get_p2e | refine sm_get_p1m (by decide) (by decide) ?_ | refine sm_get_p1n (by decide) rfl ?_ | refine sm_get_p2n (by decide) (by decide) rfl ?_)) ?_
  refine Bod.get dc_107_76 fr_107_15 (mk_43 _) rfl ?_
  refine Bod.bip 15 (by decide) dc_107_79 ?_
  refine Bod.bip 8 (by decide) dc_107_81 ?_
  refine Bod.virt (r := []) dc_107_83 kr_107_116 ⟨Or.inr rfl, ow_54, cl_7⟩ (by rw [np_54]; rfl) (by rw [np_54]; rfl) (ob_of (mk_23 _)) (Nat.le_of_ble_eq_true rfl) (c1  ) ?_
  show Bod _ _ _ _ [_] _ _ _
  refine Bod.go dc_107_86 rfl ?_
  exact Bod.retV dc_107_87 rt_107
theorem cGvL_2 {d : Nat} {S : cS} {lv : sm_L} {i : Nat} {q : Nat} {fi : Nat} {av : Nat} (q3 : sm_get lv 3 = some (.int (nI i))) (q0 : sm_get lv 0 = some (.ref 43)) (q1 : sm_get lv 1 = some (.int (nI q))) (q2 : sm_get lv 2 = some (.int (nI fi))) (mi : i < 2 ^ 20) (mq : q < 2 ^ 20) (mfi : fi < 2 ^ 20) (hav : sI S 4305 = nI av) (mav : av < 2 ^ 20) (b1 : av ≤ i) (b2 : fi ≤ av) (b3 : (av - fi) < 40) (b4 : av < 440) : Bod (d + 8) 107 2 lv [] S none (wI 4305 (nI (av + 1)) (wA 45 av (nI q) S)) := by
  refine Bod.ildnG dc_107_2 (by repeat (first | exact q3 | exact sm_get_p1 | exact sm_get_p2e | refine sm_get_p1m (by decide) (by decide) ?_ | refine sm_get_p1n (by decide) rfl ?_ | refine sm_get_p2n (by decide) (by decide) rfl ?_)) ?_
  refine Bod.aldnG dc_107_3 (by repeat (first | exact q0 | exact sm_get_p1 | exact sm_get_p2e | refine sm_get_p1m (by decide) (by decide) ?_ | refine sm_get_p1n (by decide) rfl ?_ | refine sm_get_p2n (by decide) (by decide) rfl ?_)) ?_
  refine Bod.get dc_107_4 fr_107_42 (mk_43 _) rfl ?_
  refine Bod.eqI (nI av) (by first | assumption | rfl | exact congrArg nI (by omega) | (simp (disch := omega) only [rI, rIe, rA, rIA, rLA, rJA, rVI, rQI, rVA, rQA, upd_at,  rAI, rLI, rJI, nI_add, pk_sub, kc_0, kc_1, kc_2, kc_3, kc_4, kc_5, reduceIte, Nat.reduceEqDiff, Nat.add_zero, rI_hold, rI_hold, rL_hold, hav]; done)) ?_
  refine Bod.icT dc_107_7 rfl (k2_ge_T i av rfl rfl (by omega) (by omega)) ?_
  refine Bod.aldnG dc_107_52 (by repeat (first | exact q0 | exact sm_get_p1 | exact sm_get_p2e | refine sm_get_p1m (by decide) (by decide) ?_ | refine sm_get_p1n (by decide) rfl ?_ | refine sm_get_p2n (by decide) (by decide) rfl ?_)) ?_
  refine Bod.get dc_107_53 fr_107_42 (mk_43 _) rfl ?_
  refine Bod.eqI (nI av) (by first | assumption | rfl | exact congrArg nI (by omega) | (simp (disch := omega) only [rI, rIe, rA, rIA, rLA, rJA, rVI, rQI, rVA, rQA, upd_at,  rAI, rLI, rJI, nI_add, pk_sub, kc_0, kc_1, kc_2, kc_3, kc_4, kc_5, reduceIte, Nat.reduceEqDiff, Nat.add_zero, rI_hold, rI_hold, rL_hold, hav]; done)) ?_
  refine Bod.ildnG dc_107_56 (by repeat (first | exact q2 | exact sm_get_p1 | exact sm_get_p2e | refine sm_get_p1m (by decide) (by decide) ?_ | refine sm_get_p1n (by decide) rfl ?_ | refine sm_get_p2n (by decide) (by decide) rfl ?_)) ?_
  refine Bod.subN (av - fi) (by omega) (by omega) dc_107_57 ?_
  refine Bod.bip 40 (by decide) dc_107_58 ?_
  refine Bod.icF dc_107_60 rfl (k2_ge_F (av - fi) 40 rfl rfl (by omega) (by omega)) ?_
  refine Bod.aldnG dc_107_63 (by repeat (first | exact q0 | exact sm_get_p1 | exact sm_get_p2e | refine sm_get_p1m (by decide) (by decide) ?_ | refine sm_get_p1n (by decide) rfl ?_ | refine sm_get_p2n (by decide) (by decide) rfl ?_)) ?_
  refine Bod.get dc_107_64 fr_107_42 (mk_43 _) rfl ?_
  refine Bod.eqI (nI av) (by first | assumption | rfl | exact congrArg nI (by omega) | (simp (disch := omega) only [rI, rIe, rA, rIA, rLA, rJA, rVI, rQI, rVA, rQA, upd_at,  rAI, rLI, rJI, nI_add, pk_sub, kc_0, kc_1, kc_2, kc_3, kc_4, kc_5, reduceIte, Nat.reduceEqDiff, Nat.add_zero, rI_hold, rI_hold, rL_hold, hav]; done)) ?_
  refine Bod.aldnG dc_107_67 (by repeat (first | exact q0 | exact sm_get_p1 | exact sm_get_p2e | refine sm_get_p1m (by decide) (by decide) ?_ | refine sm_get_p1n (by decide) rfl ?_ | refine sm_get_p2n (by decide) (by decide) rfl ?_)) ?_
  refine Bod.get dc_107_68 fr_107_27 (mk_43 _) rfl ?_
  refine Bod.alenN dc_107_71 (mk_45 _) (by decide +kernel) ?_
  refine Bod.icT dc_107_72 rfl (k2_lt_T av 440 rfl rfl (by omega) (by omega)) ?_
  refine Bod.aldnG dc_107_88 (by repeat (first | exact q0 | exact sm_get_p1 | exact sm_get_p2e | refine sm_get_p1m (by decide) (by decide) ?_ | refine sm_get_p1n (by decide) rfl ?_ | refine sm_get_p2n (by decide) (by decide) rfl ?_)) ?_
  refine Bod.get dc_107_89 fr_107_27 (mk_43 _) rfl ?_
  refine Bod.aldnG dc_107_92 (by repeat (first | exact q0 | exact sm_get_p1 | exact sm_get_p2e | refine sm_get_p1m (by decide) (by decide) ?_ | refine sm_get_p1n (by decide) rfl ?_ | refine sm_get_p2n (by decide) (by decide) rfl ?_)) ?_
  refine Bod.get dc_107_93 fr_107_42 (mk_43 _) rfl ?_
  refine Bod.eqI (nI av) (by first | assumption | rfl | exact congrArg nI (by omega) | (simp (disch := omega) only [rI, rIe, rA, rIA, rLA, rJA, rVI, rQI, rVA, rQA, upd_at,  rAI, rLI, rJI, nI_add, pk_sub, kc_0, kc_1, kc_2, kc_3, kc_4, kc_5, reduceIte, Nat.reduceEqDiff, Nat.add_zero, rI_hold, rI_hold, rL_hold, hav]; done)) ?_
  refine Bod.ildnG dc_107_96 (by repeat (first | exact q1 | exact sm_get_p1 | exact sm_get_p2e | refine sm_get_p1m (by decide) (by decide) ?_ | refine sm_get_p1n (by decide) rfl ?_ | refine sm_get_p2n (by decide) (by decide) rfl ?_)) ?_
  refine Bod.iastN av rfl (by omega) (by omega) dc_107_97 (mk_45 _) (sa_45 _ _ _) (mu_A _ _ _ _) ?_
  refine Bod.aldnG dc_107_98 (by repeat (first | exact q0 | exact sm_get_p1 | exact sm_get_p2e | refine sm_get_p1m (by decide) (by decide) ?_ | refine sm_get_p1n (by decide) rfl ?_ | refine sm_get_p2n (by decide) (by decide) rfl ?_)) ?_
  refine Bod.go dc_107_99 rfl ?_
  refine Bod.get dc_107_100 fr_107_42 (mk_43 _) rfl ?_
  refine Bod.eqI (nI av) (by first | (simp (disch := omega) only [rI, rIe, rA, rIA, rLA, rJA, rVI, rQI, rVA, rQA, upd_at,  rAI, rLI, rJI, nI_add, pk_sub, kc_0, kc_1, kc_2, kc_3, kc_4, kc_5, reduceIte, Nat.reduceEqDiff, Nat.add_zero, rI_hold, rI_hold, rL_hold, hav]; done) | (simp (disch := omega) only [rI, rIe, rA, rIA, rLA, rJA, rVI, rQI, rVA, rQA, upd_at,  rAI, rLI, rJI, nI_add, pk_sub, kc_0, kc_1, kc_2, kc_3, kc_4, kc_5, reduceIte, Nat.reduceEqDiff, Nat.add_zero, rI_hold, rI_hold, rL_hold, hav]; exact congrArg nI (by omega))) ?_
  refine Bod.ic 1 (by decide) dc_107_103 ?_
  refine Bod.addN (av + 1) (by omega) dc_107_104 ?_
  refine Bod.put dc_107_105 fr_107_42 (mk_43 _) (Nat.le_of_ble_eq_true rfl) pf_10_5 (st_4305 _ _) (mu_I _ _ _) ?_
  exact Bod.retV dc_107_108 rt_107
theorem cGvL_3 {d : Nat} {S : cS} {lv : sm_L} {i : Nat} {q : Nat} {fi : Nat} {av : Nat} {S1 : cS} {a : Nat} (q3 : sm_get lv 3 = some (.int (nI i))) (q0 : sm_get lv 0 = some (.ref 43)) (q1 : sm_get lv 1 = some (.int (nI q))) (q2 : sm_get lv 2 = some (.int (nI fi))) (mi : i < 2 ^ 20) (mq : q < 2 ^ 20) (mfi : fi < 2 ^ 20) (hav : sI S 4305 = nI av) (mav : av < 2 ^ 20) (b1 : av ≤ i) (b2 : fi ≤ av) (b3 : (av - fi) < 40) (b4 : 440 ≤ av) (ma : a < 2 ^ 20) (c1 : Ans (d + 8) 54 [.ref 23, .int (nI 15), .int (nI 8)] S (some (.int (nI a))) S1) : Bod (d + 8) 107 2 lv [] S none (S1) := by
  refine Bod.ildnG dc_107_2 (by repeat (first | exact q3 | exact sm_get_p1 | exact sm_get_p2e | refine sm_get_p1m (by decide) (by decide) ?_ | refine sm_get_p1n (by decide) rfl ?_ | refine sm_get_p2n (by decide) (by decide) rfl ?_)) ?_
  refine Bod.aldnG dc_107_3 (by repeat (first | exact q0 | exact sm_get_p1 | exact sm_get_p2e | refine sm_get_p1m (by decide) (by decide) ?_ | refine sm_get_p1n (by decide) rfl ?_ | refine sm_get_p2n (by decide) (by decide) rfl ?_)) ?_
  refine Bod.get dc_107_4 fr_107_42 (mk_43 _) rfl ?_
  refine Bod.eqI (nI av) (by first | assumption | rfl | exact congrArg nI (by omega) | (simp (disch := omega) only [rI, rIe, rA, rIA, rLA, rJA, rVI, rQI, rVA, rQA, upd_at,  rAI, rLI, rJI, nI_add, pk_sub, kc_0, kc_1, kc_2, kc_3, kc_4, kc_5, reduceIte, Nat.reduceEqDiff, Nat.add_zero, rI_hold, rI_hold, rL_hold, hav]; done)) ?_
  refine Bod.icT dc_107_7 rfl (k2_ge_T i av rfl rfl (by omega) (by omega)) ?_
  refine Bod.aldnG dc_107_52 (by repeat (first | exact q0 | exact sm_get_p1 | exact sm_get_p2e | refine sm_get_p1m (by decide) (by decide) ?_ | refine sm_get_p1n (by decide) rfl ?_ | refine sm_get_p2n (by decide) (by decide) rfl ?_)) ?_
  refine Bod.get dc_107_53 fr_107_42 (mk_43 _) rfl ?_
  refine Bod.eqI (nI av) (by first | assumption | rfl | exact congrArg nI (by omega) | (simp (disch := omega) only [rI, rIe, rA, rIA, rLA, rJA, rVI, rQI, rVA, rQA, upd_at,  rAI, rLI, rJI, nI_add, pk_sub, kc_0, kc_1, kc_2, kc_3, kc_4, kc_5, reduceIte, Nat.reduceEqDiff, Nat.add_zero, rI_hold, rI_hold, rL_hold, hav]; done)) ?_
  refine Bod.ildnG dc_107_56 (by repeat (first | exact q2 | exact sm_get_p1 | exact sm_get_p2e | refine sm_get_p1m (by decide) (by decide) ?_ | refine sm_get_p1n (by decide) rfl ?_ | refine sm_get_p2n (by decide) (by decide) rfl ?_)) ?_
  refine Bod.subN (av - fi) (by omega) (by omega) dc_107_57 ?_
  refine Bod.bip 40 (by decide) dc_107_58 ?_
  refine Bod.icF dc_107_60 rfl (k2_ge_F (av - fi) 40 rfl rfl (by omega) (by omega)) ?_
  refine Bod.aldnG dc_107_63 (by repeat (first | exact q0 | exact sm_get_p1 | exact sm_get_p2e | refine sm_get_p1m (by decide) (by decide) ?_ | refine sm_get_p1n (by decide) rfl ?_ | refine sm_get_p2n (by decide) (by decide) rfl ?_)) ?_
  refine Bod.get dc_107_64 fr_107_42 (mk_43 _) rfl ?_
  refine Bod.eqI (nI av) (by first | assumption | rfl | exact congrArg nI (by omega) | (simp (disch := omega) only [rI, rIe, rA, rIA, rLA, rJA, rVI, rQI, rVA, rQA, upd_at,  rAI, rLI, rJI, nI_add, pk_sub, kc_0, kc_1, kc_2, kc_3, kc_4, kc_5, reduceIte, Nat.reduceEqDiff, Nat.add_zero, rI_hold, rI_hold, rL_hold, hav]; done)) ?_
  refine Bod.aldnG dc_107_67 (by repeat (first | exact q0 | exact sm_get_p1 | exact sm_get_p2e | refine sm_get_p1m (by decide) (by decide) ?_ | refine sm_get_p1n (by decide) rfl ?_ | refine sm_get_p2n (by decide) (by decide) rfl ?_)) ?_
  refine Bod.get dc_107_68 fr_107_27 (mk_43 _) rfl ?_
  refine Bod.alenN dc_107_71 (mk_45 _) (by decide +kernel) ?_
  refine Bod.icF dc_107_72 rfl (k2_lt_F av 440 rfl rfl (by omega) (by omega)) ?_
  refine Bod.aldnG dc_107_75 (by repeat (first | exact q0 | exact sm_get_p1 | exact sm_get_p2e | refine sm_get_p1m (by decide) (by decide) ?_ | refine sm_get_p1n (by decide) rfl ?_ | refine sm_get_p2n (by decide) (by decide) rfl ?_)) ?_
  refine Bod.get dc_107_76 fr_107_15 (mk_43 _) rfl ?_
  refine Bod.bip 15 (by decide) dc_107_79 ?_
  refine Bod.bip 8 (by decide) dc_107_81 ?_
  refine Bod.virt (r := []) dc_107_83 kr_107_116 ⟨Or.inr rfl, ow_54, cl_7⟩ (by rw [np_54]; rfl) (by rw [np_54]; rfl) (ob_of (mk_23 _)) (Nat.le_of_ble_eq_true rfl) (c1  ) ?_
  show Bod _ _ _ _ [_] _ _ _
  refine Bod.go dc_107_86 rfl ?_
  exact Bod.retV dc_107_87 rt_107
theorem cGvL_4 {d : Nat} {S : cS} {lv : sm_L} {i : Nat} {q : Nat} {fi : Nat} {av : Nat} {S1 : cS} {a : Nat} (q3 : sm_get lv 3 = some (.int (nI i))) (q0 : sm_get lv 0 = some (.ref 43)) (q1 : sm_get lv 1 = some (.int (nI q))) (q2 : sm_get lv 2 = some (.int (nI fi))) (mi : i < 2 ^ 20) (mq : q < 2 ^ 20) (mfi : fi < 2 ^ 20) (hav : sI S 4305 = nI av) (mav : av < 2 ^ 20) (b1 : i < av) (b2 : 440 ≤ i) (b3 : fi ≤ av) (b4 : 40 ≤ (av - fi)) (ma : a < 2 ^ 20) (c1 : Ans (d + 8) 54 [.ref 23, .int (nI 15), .int (nI 8)] S (some (.int (nI a))) S1) : Bod (d + 8) 107 2 lv [] S none (S1) := by
  refine Bod.ildnG dc_107_2 (by repeat (first | exact q3 | exact sm_get_p1 | exact sm_get_p2e | refine sm_get_p1m (by decide) (by decide) ?_ | refine sm_get_p1n (by decide) rfl ?_ | refine sm_get_p2n (by decide) (by decide) rfl ?_)) ?_
  refine Bod.aldnG dc_107_3 (by repeat (first | exact q0 | exact sm_get_p1 | exact sm_get_p2e | refine sm_get_p1m (by decide) (by decide) ?_ | refine sm_get_p1n (by decide) rfl ?_ | refine sm_get_p2n (by decide) (by decide) rfl ?_)) ?_
  refine Bod.get dc_107_4 fr_107_42 (mk_43 _) rfl ?_
  refine Bod.eqI (nI av) (by first | assumption | rfl | exact congrArg nI (by omega) | (simp (disch := omega) only [rI, rIe, rA, rIA, rLA, rJA, rVI, rQI, rVA, rQA, upd_at,  rAI, rLI, rJI, nI_add, pk_sub, kc_0, kc_1, kc_2, kc_3, kc_4, kc_5, reduceIte, Nat.reduceEqDiff, Nat.add_zero, rI_hold, rI_hold, rL_hold, hav]; done)) ?_
  refine Bod.icF dc_107_7 rfl (k2_ge_F i av rfl rfl (by omega) (by omega)) ?_
  refine Bod.ildnG dc_107_10 (by repeat (first | exact q3 | exact sm_get_p1 | exact sm_get_p2e | refine sm_get_p1m (by decide) (by decide) ?_ | refine sm_get_p1n (by decide) rfl ?_ | refine sm_get_p2n (by decide) (by decide) rfl ?_)) ?_
  refine Bod.aldnG dc_107_11 (by repeat (first | exact q0 | exact sm_get_p1 | exact sm_get_p2e | refine sm_get_p1m (by decide) (by decide) ?_ | refine sm_get_p1n (by decide) rfl ?_ | refine sm_get_p2n (by decide) (by decide) rfl ?_)) ?_
  refine Bod.get dc_107_12 fr_107_27 (mk_43 _) rfl ?_
  refine Bod.alenN dc_107_15 (mk_45 _) (by decide +kernel) ?_
  refine Bod.icT dc_107_16 rfl (k2_ge_T i 440 rfl rfl (by omega) (by omega)) ?_
  refine Bod.aldnG dc_107_52 (by repeat (first | exact q0 | exact sm_get_p1 | exact sm_get_p2e | refine sm_get_p1m (by decide) (by decide) ?_ | refine sm_get_p1n (by decide) rfl ?_ | refine sm_get_p2n (by decide) (by decide) rfl ?_)) ?_
  refine Bod.get dc_107_53 fr_107_42 (mk_43 _) rfl ?_
  refine Bod.eqI (nI av) (by first | assumption | rfl | exact congrArg nI (by omega) | (simp (disch := omega) only [rI, rIe, rA, rIA, rLA, rJA, rVI, rQI, rVA, rQA, upd_at,  rAI, rLI, rJI, nI_add, pk_sub, kc_0, kc_1, kc_2, kc_3, kc_4, kc_5, reduceIte, Nat.reduceEqDiff, Nat.add_zero, rI_hold, rI_hold, rL_hold, hav]; done)) ?_
  refine Bod.ildnG dc_107_56 (by repeat (first | exact q2 | exact sm_get_p1 | exact sm_get_p2e | refine sm_get_p1m (by decide) (by decide) ?_ | refine sm_get_p1n (by decide) rfl ?_ | refine sm_get_p2n (by decide) (by decide) rfl ?_)) ?_
  refine Bod.subN (av - fi) (by omega) (by omega) dc_107_57 ?_
  refine Bod.bip 40 (by decide) dc_107_58 ?_
  refine Bod.icT dc_107_60 rfl (k2_ge_T (av - fi) 40 rfl rfl (by omega) (by omega)) ?_
  refine Bod.aldnG dc_107_75 (by repeat (first | exact q0 | exact sm_get_p1 | exact sm_get_p2e | refine sm_get_p1m (by decide) (by decide) ?_ | refine sm_get_p1n (by decide) rfl ?_ | refine sm_get_p2n (by decide) (by decide) rfl ?_)) ?_
  refine Bod.get dc_107_76 fr_107_15 (mk_43 _) rfl ?_
  refine Bod.bip 15 (by decide) dc_107_79 ?_
  refine Bod.bip 8 (by decide) dc_107_81 ?_
  refine Bod.virt (r := []) dc_107_83 kr_107_116 ⟨Or.inr rfl, ow_54, cl_7⟩ (by rw [np_54]; rfl) (by rw [np_54]; rfl) (ob_of (mk_23 _)) (Nat.le_of_ble_eq_true rfl) (c1  ) ?_
  show Bod _ _ _ _ [_] _ _ _
  refine Bod.go dc_107_86 rfl ?_
  exact Bod.retV dc_107_87 rt_107
theorem cGvL_5 {d : Nat} {S : cS} {lv : sm_L} {i : Nat} {q : Nat} {fi : Nat} {av : Nat} (q3 : sm_get lv 3 = some (.int (nI i))) (q0 : sm_get lv 0 = some (.ref 43)) (q1 : sm_get lv 1 = some (.int (nI q))) (q2 : sm_get lv 2 = some (.int (nI fi))) (mi : i < 2 ^ 20) (mq : q < 2 ^ 20) (mfi : fi < 2 ^ 20) (hav : sI S 4305 = nI av) (mav : av < 2 ^ 20) (b1 : i < av) (b2 : 440 ≤ i) (b3 : fi ≤ av) (b4 : (av - fi) < 40) (b5 : av < 440) : Bod (d + 8) 107 2 lv [] S none (wI 4305 (nI (av + 1)) (wA 45 av (nI q) S)) := by
  refine Bod.ildnG dc_107_2 (by repeat (first | exact q3 | exact sm_get_p1 | exact sm_get_p2e | refine sm_get_p1m (by decide) (by decide) ?_ | refine sm_get_p1n (by decide) rfl ?_ | refine sm_get_p2n (by decide) (by decide) rfl ?_)) ?_
  refine Bod.aldnG dc_107_3 (by repeat (first | exact q0 | exact sm_get_p1 | exact sm_get_p2e | refine sm_get_p1m (by decide) (by decide) ?_ | refine sm_get_p1n (by decide) rfl ?_ | refine sm_get_p2n (by decide) (by decide) rfl ?_)) ?_
  refine Bod.get dc_107_4 fr_107_42 (mk_43 _) rfl ?_
  refine Bod.eqI (nI av) (by first | assumption | rfl | exact congrArg nI (by omega) | (simp (disch := omega) only [rI, rIe, rA, rIA, rLA, rJA, rVI, rQI, rVA, rQA, upd_at,  rAI, rLI, rJI, nI_add, pk_sub, kc_0, kc_1, kc_2, kc_3, kc_4, kc_5, reduceIte, Nat.reduceEqDiff, Nat.add_zero, rI_hold, rI_hold, rL_hold, hav]; done)) ?_
  refine Bod.icF dc_107_7 rfl (k2_ge_F i av rfl rfl (by omega) (by omega)) ?_
  refine Bod.ildnG dc_107_10 (by repeat (first | exact q3 | exact sm_get_p1 | exact sm_get_p2e | refine sm_get_p1m (by decide) (by decide) ?_ | refine sm_get_p1n (by decide) rfl ?_ | refine sm_get_p2n (by decide) (by decide) rfl ?_)) ?_
  refine Bod.aldnG dc_107_11 (by repeat (first | exact q0 | exact sm_get_p1 | exact sm_get_p2e | refine sm_get_p1m (by decide) (by decide) ?_ | refine sm_get_p1n (by decide) rfl ?_ | refine sm_get_p2n (by decide) (by decide) rfl ?_)) ?_
  refine Bod.get dc_107_12 fr_107_27 (mk_43 _) rfl ?_
  refine Bod.alenN dc_107_15 (mk_45 _) (by decide +kernel) ?_
  refine Bod.icT dc_107_16 rfl (k2_ge_T i 440 rfl rfl (by omega) (by omega)) ?_
  refine Bod.aldnG dc_107_52 (by repeat (first | exact q0 | exact sm_get_p1 | exact sm_get_p2e | refine sm_get_p1m (by decide) (by decide) ?_ | refine sm_get_p1n (by decide) rfl ?_ | refine sm_get_p2n (by decide) (by decide) rfl ?_)) ?_
  refine Bod.get dc_107_53 fr_107_42 (mk_43 _) rfl ?_
  refine Bod.eqI (nI av) (by first | assumption | rfl | exact congrArg nI (by omega) | (simp (disch := omega) only [rI, rIe, rA, rIA, rLA, rJA, rVI, rQI, rVA, rQA, upd_at,  rAI, rLI, rJI, nI_add, pk_sub, kc_0, kc_1, kc_2, kc_3, kc_4, kc_5, reduceIte, Nat.reduceEqDiff, Nat.add_zero, rI_hold, rI_hold, rL_hold, hav]; done)) ?_
  refine Bod.ildnG dc_107_56 (by repeat (first | exact q2 | exact sm_get_p1 | exact sm_get_p2e | refine sm_get_p1m (by decide) (by decide) ?_ | refine sm_get_p1n (by decide) rfl ?_ | refine sm_get_p2n (by decide) (by decide) rfl ?_)) ?_
  refine Bod.subN (av - fi) (by omega) (by omega) dc_107_57 ?_
  refine Bod.bip 40 (by decide) dc_107_58 ?_
  refine Bod.icF dc_107_60 rfl (k2_ge_F (av - fi) 40 rfl rfl (by omega) (by omega)) ?_
  refine Bod.aldnG dc_107_63 (by repeat (first | exact q0 | exact sm_get_p1 | exact sm_get_p2e | refine sm_get_p1m (by decide) (by decide) ?_ | refine sm_get_p1n (by decide) rfl ?_ | refine sm_get_p2n (by decide) (by decide) rfl ?_)) ?_
  refine Bod.get dc_107_64 fr_107_42 (mk_43 _) rfl ?_
  refine Bod.eqI (nI av) (by first | assumption | rfl | exact congrArg nI (by omega) | (simp (disch := omega) only [rI, rIe, rA, rIA, rLA, rJA, rVI, rQI, rVA, rQA, upd_at,  rAI, rLI, rJI, nI_add, pk_sub, kc_0, kc_1, kc_2, kc_3, kc_4, kc_5, reduceIte, Nat.reduceEqDiff, Nat.add_zero, rI_hold, rI_hold, rL_hold, hav]; done)) ?_
  refine Bod.aldnG dc_107_67 (by repeat (first | exact q0 | exact sm_get_p1 | exact sm_get_p2e | refine sm_get_p1m (by decide) (by decide) ?_ | refine sm_get_p1n (by decide) rfl ?_ | refine sm_get_p2n (by decide) (by decide) rfl ?_)) ?_
  refine Bod.get dc_107_68 fr_107_27 (mk_43 _) rfl ?_
  refine Bod.alenN dc_107_71 (mk_45 _) (by decide +kernel) ?_
  refine Bod.icT dc_107_72 rfl (k2_lt_T av 440 rfl rfl (by omega) (by omega)) ?_
  refine Bod.aldnG dc_107_88 (by repeat (first | exact q0 | exact sm_get_p1 | exact sm_get_p2e | refine sm_get_p1m (by decide) (by decide) ?_ | refine sm_get_p1n (by decide) rfl ?_ | refine sm_get_p2n (by decide) (by decide) rfl ?_)) ?_
  refine Bod.get dc_107_89 fr_107_27 (mk_43 _) rfl ?_
  refine Bod.aldnG dc_107_92 (by repeat (first | exact q0 | exact sm_get_p1 | exact sm_get_p2e | refine sm_get_p1m (by decide) (by decide) ?_ | refine sm_get_p1n (by decide) rfl ?_ | refine sm_get_p2n (by decide) (by decide) rfl ?_)) ?_
  refine Bod.get dc_107_93 fr_107_42 (mk_43 _) rfl ?_
  refine Bod.eqI (nI av) (by first | assumption | rfl | exact congrArg nI (by omega) | (simp (disch := omega) only [rI, rIe, rA, rIA, rLA, rJA, rVI, rQI, rVA, rQA, upd_at,  rAI, rLI, rJI, nI_add, pk_sub, kc_0, kc_1, kc_2, kc_3, kc_4, kc_5, reduceIte, Nat.reduceEqDiff, Nat.add_zero, rI_hold, rI_hold, rL_hold, hav]; done)) ?_
  refine Bod.ildnG dc_107_96 (by repeat (first | exact q1 | exact sm_get_p1 | exact sm_get_p2e | refine sm_get_p1m (by decide) (by decide) ?_ | refine sm_get_p1n (by decide) rfl ?_ | refine sm_get_p2n (by decide) (by decide) rfl ?_)) ?_
  refine Bod.iastN av rfl (by omega) (by omega) dc_107_97 (mk_45 _) (sa_45 _ _ _) (mu_A _ _ _ _) ?_
  refine Bod.aldnG dc_107_98 (by repeat (first | exact q0 | exact sm_get_p1 | exact sm_get_p2e | refine sm_get_p1m (by decide) (by decide) ?_ | refine sm_get_p1n (by decide) rfl ?_ | refine sm_get_p2n (by decide) (by decide) rfl ?_)) ?_
  refine Bod.go dc_107_99 rfl ?_
  refine Bod.get dc_107_100 fr_107_42 (mk_43 _) rfl ?_
  refine Bod.eqI (nI av) (by first | (simp (disch := omega) only [rI, rIe, rA, rIA, rLA, rJA, rVI, rQI, rVA, rQA, upd_at,  rAI, rLI, rJI, nI_add, pk_sub, kc_0, kc_1, kc_2, kc_3, kc_4, kc_5, reduceIte, Nat.reduceEqDiff, Nat.add_zero, rI_hold, rI_hold, rL_hold, hav]; done) | (simp (disch := omega) only [rI, rIe, rA, rIA, rLA, rJA, rVI, rQI, rVA, rQA, upd_at,  rAI, rLI, rJI, nI_add, pk_sub, kc_0, kc_1, kc_2, kc_3, kc_4, kc_5, reduceIte, Nat.reduceEqDiff, Nat.add_zero, rI_hold, rI_hold, rL_hold, hav]; exact congrArg nI (by omega))) ?_
  refine Bod.ic 1 (by decide) dc_107_103 ?_
  refine Bod.addN (av + 1) (by omega) dc_107_104 ?_
  refine Bod.put dc_107_105 fr_107_42 (mk_43 _) (Nat.le_of_ble_eq_true rfl) pf_10_5 (st_4305 _ _) (mu_I _ _ _) ?_
  exact Bod.retV dc_107_108 rt_107
theorem cGvL_6 {d : Nat} {S : cS} {lv : sm_L} {i : Nat} {q : Nat} {fi : Nat} {av : Nat} {S1 : cS} {a : Nat} (q3 : sm_get lv 3 = some (.int (nI i))) (q0 : sm_get lv 0 = some (.ref 43)) (q1 : sm_get lv 1 = some (.int (nI q))) (q2 : sm_get lv 2 = some (.int (nI fi))) (mi : i < 2 ^ 20) (mq : q < 2 ^ 20) (mfi : fi < 2 ^ 20) (hav : sI S 4305 = nI av) (mav : av < 2 ^ 20) (b1 : i < av) (b2 : 440 ≤ i) (b3 : fi ≤ av) (b4 : (av - fi) < 40) (b5 : 440 ≤ av) (ma : a < 2 ^ 20) (c1 : Ans (d + 8) 54 [.ref 23, .int (nI 15), .int (nI 8)] S (some (.int (nI a))) S1) : Bod (d + 8) 107 2 lv [] S none (S1) := by
  refine Bod.ildnG dc_107_2 (by repeat (first | exact q3 | exact sm_get_p1 | exact sm_get_p2e | refine sm_get_p1m (by decide) (by decide) ?_ | refine sm_get_p1n (by decide) rfl ?_ | refine sm_get_p2n (by decide) (by decide) rfl ?_)) ?_
  refine Bod.aldnG dc_107_3 (by repeat (first | exact q0 | exact sm_get_p1 | exact sm_get_p2e | refine sm_get_p1m (by decide) (by decide) ?_ | refine sm_get_p1n (by decide) rfl ?_ | refine sm_get_p2n (by decide) (by decide) rfl ?_)) ?_
  refine Bod.get dc_107_4 fr_107_42 (mk_43 _) rfl ?_
  refine Bod.eqI (nI av) (by first | assumption | rfl | exact congrArg nI (by omega) | (simp (disch := omega) only [rI, rIe, rA, rIA, rLA, rJA, rVI, rQI, rVA, rQA, upd_at,  rAI, rLI, rJI, nI_add, pk_sub, kc_0, kc_1, kc_2, kc_3, kc_4, kc_5, reduceIte, Nat.reduceEqDiff, Nat.add_zero, rI_hold, rI_hold, rL_hold, hav]; done)) ?_
  refine Bod.icF dc_107_7 rfl (k2_ge_F i av rfl rfl (by omega) (by omega)) ?_
  refine Bod.ildnG dc_107_10 (by repeat (first | exact q3 | exact sm_get_p1 | exact sm_get_p2e | refine sm_get_p1m (by decide) (by decide) ?_ | refine sm_get_p1n (by decide) rfl ?_ | refine sm_get_p2n (by decide) (by decide) rfl ?_)) ?_
  refine Bod.aldnG dc_107_11 (by repeat (first | exact q0 | exact sm_get_p1 | exact sm_get_p2e | refine sm_get_p1m (by decide) (by decide) ?_ | refine sm_get_p1n (by decide) rfl ?_ | refine sm_get_p2n (by decide) (by decide) rfl ?_)) ?_
  refine Bod.get dc_107_12 fr_107_27 (mk_43 _) rfl ?_
  refine Bod.alenN dc_107_15 (mk_45 _) (by decide +kernel) ?_
  refine Bod.icT dc_107_16 rfl (k2_ge_T i 440 rfl rfl (by omega) (by omega)) ?_
  refine Bod.aldnG dc_107_52 (by repeat (first | exact q0 | exact sm_get_p1 | exact sm_get_p2e | refine sm_get_p1m (by decide) (by decide) ?_ | refine sm_get_p1n (by decide) rfl ?_ | refine sm_get_p2n (by decide) (by decide) rfl ?_)) ?_
  refine Bod.get dc_107_53 fr_107_42 (mk_43 _) rfl ?_
  refine Bod.eqI (nI av) (by first | assumption | rfl | exact congrArg nI (by omega) | (simp (disch := omega) only [rI, rIe, rA, rIA, rLA, rJA, rVI, rQI, rVA, rQA, upd_at,  rAI, rLI, rJI, nI_add, pk_sub, kc_0, kc_1, kc_2, kc_3, kc_4, kc_5, reduceIte, Nat.reduceEqDiff, Nat.add_zero, rI_hold, rI_hold, rL_hold, hav]; done)) ?_
  refine Bod.ildnG dc_107_56 (by repeat (first | exact q2 | exact sm_get_p1 | exact sm_get_p2e | refine sm_get_p1m (by decide) (by decide) ?_ | refine sm_get_p1n (by decide) rfl ?_ | refine sm_get_p2n (by decide) (by decide) rfl ?_)) ?_
  refine Bod.subN (av - fi) (by omega) (by omega) dc_107_57 ?_
  refine Bod.bip 40 (by decide) dc_107_58 ?_
  refine Bod.icF dc_107_60 rfl (k2_ge_F (av - fi) 40 rfl rfl (by omega) (by omega)) ?_
  refine Bod.aldnG dc_107_63 (by repeat (first | exact q0 | exact sm_get_p1 | exact sm_get_p2e | refine sm_get_p1m (by decide) (by decide) ?_ | refine sm_get_p1n (by decide) rfl ?_ | refine sm_get_p2n (by decide) (by decide) rfl ?_)) ?_
  refine Bod.get dc_107_64 fr_107_42 (mk_43 _) rfl ?_
  refine Bod.eqI (nI av) (by first | assumption | rfl | exact congrArg nI (by omega) | (simp (disch := omega) only [rI, rIe, rA, rIA, rLA, rJA, rVI, rQI, rVA, rQA, upd_at,  rAI, rLI, rJI, nI_add, pk_sub, kc_0, kc_1, kc_2, kc_3, kc_4, kc_5, reduceIte, Nat.reduceEqDiff, Nat.add_zero, rI_hold, rI_hold, rL_hold, hav]; done)) ?_
  refine Bod.aldnG dc_107_67 (by repeat (first | exact q0 | exact sm_get_p1 | exact sm_get_p2e | refine sm_get_p1m (by decide) (by decide) ?_ | refine sm_get_p1n (by decide) rfl ?_ | refine sm_get_p2n (by decide) (by decide) rfl ?_)) ?_
  refine Bod.get dc_107_68 fr_107_27 (mk_43 _) rfl ?_
  refine Bod.alenN dc_107_71 (mk_45 _) (by decide +kernel) ?_
  refine Bod.icF dc_107_72 rfl (k2_lt_F av 440 rfl rfl (by omega) (by omega)) ?_
  refine Bod.aldnG dc_107_75 (by repeat (first | exact q0 | exact sm_get_p1 | exact sm_get_p2e | refine sm_get_p1m (by decide) (by decide) ?_ | refine sm_get_p1n (by decide) rfl ?_ | refine sm_get_p2n (by decide) (by decide) rfl ?_)) ?_
  refine Bod.get dc_107_76 fr_107_15 (mk_43 _) rfl ?_
  refine Bod.bip 15 (by decide) dc_107_79 ?_
  refine Bod.bip 8 (by decide) dc_107_81 ?_
  refine Bod.virt (r := []) dc_107_83 kr_107_116 ⟨Or.inr rfl, ow_54, cl_7⟩ (by rw [np_54]; rfl) (by rw [np_54]; rfl) (ob_of (mk_23 _)) (Nat.le_of_ble_eq_true rfl) (c1  ) ?_
  show Bod _ _ _ _ [_] _ _ _
  refine Bod.go dc_107_86 rfl ?_
  exact Bod.retV dc_107_87 rt_107
theorem cGvL_7 {d : Nat} {S Sf : cS} {v : Option Value} {lv : sm_L} {i : Nat} {q : Nat} {fi : Nat} {av : Nat} {e45 : Nat} (q3 : sm_get lv 3 = some (.int (nI i))) (q0 : sm_get lv 0 = some (.ref 43)) (q1 : sm_get lv 1 = some (.int (nI q))) (q2 : sm_get lv 2 = some (.int (nI fi))) (mi : i < 2 ^ 20) (mq : q < 2 ^ 20) (mfi : fi < 2 ^ 20) (hav : sI S 4305 = nI av) (mav : av < 2 ^ 20) (b1 : i < av) (b2 : i < 440) (he45 : sA S 45 i = nI e45) (me45 : e45 < 2 ^ 20) (b3 : e45 ≠ q) (hB : ∀ lv1 : sm_L, sm_get lv1 0 = some (.ref 43) → sm_get lv1 1 = some (.int (nI q)) → sm_get lv1 2 = some (.int (nI fi)) → sm_get lv1 3 = some (.int (nI (i + 1))) → Bod (d + 8) 107 2 lv1 [] (S) v Sf) : Bod (d + 8) 107 2 lv [] S v Sf := by
  refine Bod.ildnG dc_107_2 (by repeat (first | exact q3 | exact sm_get_p1 | exact sm_get_p2e | refine sm_get_p1m (by decide) (by decide) ?_ | refine sm_get_p1n (by decide) rfl ?_ | refine sm_get_p2n (by decide) (by decide) rfl ?_)) ?_
  refine Bod.aldnG dc_107_3 (by repeat (first | exact q0 | exact sm_get_p1 | exact sm_get_p2e | refine sm_get_p1m (by decide) (by decide) ?_ | refine sm_get_p1n (by decide) rfl ?_ | refine sm_get_p2n (by decide) (by decide) rfl ?_)) ?_
  refine Bod.get dc_107_4 fr_107_42 (mk_43 _) rfl ?_
  refine Bod.eqI (nI av) (by first | assumption | rfl | exact congrArg nI (by omega) | (simp (disch := omega) only [rI, rIe, rA, rIA, rLA, rJA, rVI, rQI, rVA, rQA, upd_at,  rAI, rLI, rJI, nI_add, pk_sub, kc_0, kc_1, kc_2, kc_3, kc_4, kc_5, reduceIte, Nat.reduceEqDiff, Nat.add_zero, rI_hold, rI_hold, rL_hold, hav]; done)) ?_
  refine Bod.icF dc_107_7 rfl (k2_ge_F i av rfl rfl (by omega) (by omega)) ?_
  refine Bod.ildnG dc_107_10 (by repeat (first | exact q3 | exact sm_get_p1 | exact sm_get_p2e | refine sm_get_p1m (by decide) (by decide) ?_ | refine sm_get_p1n (by decide) rfl ?_ | refine sm_get_p2n (by decide) (by decide) rfl ?_)) ?_
  refine Bod.aldnG dc_107_11 (by repeat (first | exact q0 | exact sm_get_p1 | exact sm_get_p2e | refine sm_get_p1m (by decide) (by decide) ?_ | refine sm_get_p1n (by decide) rfl ?_ | refine sm_get_p2n (by decide) (by decide) rfl ?_)) ?_
  refine Bod.get dc_107_12 fr_107_27 (mk_43 _) rfl ?_
  refine Bod.alenN dc_107_15 (mk_45 _) (by decide +kernel) ?_
  refine Bod.icF dc_107_16 rfl (k2_ge_F i 440 rfl rfl (by omega) (by omega)) ?_
  refine Bod.aldnG dc_107_19 (by repeat (first | exact q0 | exact sm_get_p1 | exact sm_get_p2e | refine sm_get_p1m (by decide) (by decide) ?_ | refine sm_get_p1n (by decide) rfl ?_ | refine sm_get_p2n (by decide) (by decide) rfl ?_)) ?_
  refine Bod.get dc_107_20 fr_107_27 (mk_43 _) rfl ?_
  refine Bod.ildnG dc_107_23 (by repeat (first | exact q3 | exact sm_get_p1 | exact sm_get_p2e | refine sm_get_p1m (by decide) (by decide) ?_ | refine sm_get_p1n (by decide) rfl ?_ | refine sm_get_p2n (by decide) (by decide) rfl ?_)) ?_
  refine Bod.ialdN i rfl (by omega) (by omega) dc_107_24 (mk_45 _) ?_
  refine Bod.eqI (nI e45) (by first | assumption | rfl | exact congrArg nI (by omega) | (simp (disch := omega) only [rI, rIe, rA, rIA, rLA, rJA, rVI, rQI, rVA, rQA, upd_at,  rAI, rLI, rJI, nI_add, pk_sub, kc_0, kc_1, kc_2, kc_3, kc_4, kc_5, reduceIte, Nat.reduceEqDiff, Nat.add_zero, rI_hold, rI_hold, rL_hold, hav, he45]; done)) ?_
  refine Bod.ildnG dc_107_25 (by repeat (first | exact q1 | exact sm_get_p1 | exact sm_get_p2e | refine sm_get_p1m (by decide) (by decide) ?_ | refine sm_get_p1n (by decide) rfl ?_ | refine sm_get_p2n (by decide) (by decide) rfl ?_)) ?_
  refine Bod.icT dc_107_26 rfl (k2_ne_T (k_ne e45 q rfl rfl (by omega) (by omega) (by omega))) ?_
  refine Bod.incN (i + 1) (by rw [kc_1, nI_add]) dc_107_46 (by rw [ml_107]; exact Nat.le_of_ble_eq_true rfl) (by repeat (first | exact q3 | exact sm_get_p1 | exact sm_get_p2e | refine sm_get_p1m (by decide) (by decide) ?_ | refine sm_get_p1n (by decide) rfl ?_ | refine sm_get_p2n (by decide) (by decide) rfl ?_)) ?_
  refine Bod.go dc_107_49 rfl ?_
  exact hB _ (by repeat (first | exact q0 | exact sm_get_p1 | exact sm_get_p2e | refine sm_get_p1m (by decide) (by decide) ?_ | refine sm_get_p1n (by decide) rfl ?_ | refine sm_get_p2n (by decide) (by decide) rfl ?_)) (by repeat (first | exact q1 | exact sm_get_p1 | exact sm_get_p2e | refine sm_get_p1m (by decide) (by decide) ?_ | refine sm_get_p1n (by decide) rfl ?_ | refine sm_get_p2n (by decide) (by decide) rfl ?_)) (by repeat (first | exact q2 | exact sm_get_p1 | exact sm_get_p2e | refine sm_get_p1m (by decide) (by decide) ?_ | refine sm_get_p1n (by decide) rfl ?_ | refine sm_get_p2n (by decide) (by decide) rfl ?_)) (by repeat (first | exact q0 | exact sm_get_p1 | exact sm_get_p2e | refine sm_get_p1m (by decide) (by decide) ?_ | refine sm_get_p1n (by decide) rfl ?_ | refine sm_get_p2n (by decide) (by decide) rfl ?_))
theorem cGvL_8 {d : Nat} {S : cS} {lv : sm_L} {i : Nat} {q : Nat} {fi : Nat} {av : Nat} {e45 : Nat} {S1 : cS} {a : Nat} (q3 : sm_get lv 3 = some (.int (nI i))) (q0 : sm_get lv 0 = some (.ref 43)) (q1 : sm_get lv 1 = some (.int (nI q))) (q2 : sm_get lv 2 = some (.int (nI fi))) (mi : i < 2 ^ 20) (mq : q < 2 ^ 20) (mfi : fi < 2 ^ 20) (hav : sI S 4305 = nI av) (mav : av < 2 ^ 20) (b1 : i < av) (b2 : i < 440) (he45 : sA S 45 i = nI e45) (me45 : e45 < 2 ^ 20) (b3 : e45 = q) (b4 : i ≤ av) (ma : a < 2 ^ 20) (c1 : Ans (d + 8) 54 [.ref 23, .int (nI 24), .int (nI (av - i))] S (some (.int (nI a))) S1) : Bod (d + 8) 107 2 lv [] S none (S1) := by
  refine Bod.ildnG dc_107_2 (by repeat (first | exact q3 | exact sm_get_p1 | exact sm_get_p2e | refine sm_get_p1m (by decide) (by decide) ?_ | refine sm_get_p1n (by decide) rfl ?_ | refine sm_get_p2n (by decide) (by decide) rfl ?_)) ?_
  refine Bod.aldnG dc_107_3 (by repeat (first | exact q0 | exact sm_get_p1 | exact sm_get_p2e | refine sm_get_p1m (by decide) (by decide) ?_ | refine sm_get_p1n (by decide) rfl ?_ | refine sm_get_p2n (by decide) (by decide) rfl ?_)) ?_
  refine Bod.get dc_107_4 fr_107_42 (mk_43 _) rfl ?_
  refine Bod.eqI (nI av) (by first | assumption | rfl | exact congrArg nI (by omega) | (simp (disch := omega) only [rI, rIe, rA, rIA, rLA, rJA, rVI, rQI, rVA, rQA, upd_at,  rAI, rLI, rJI, nI_add, pk_sub, kc_0, kc_1, kc_2, kc_3, kc_4, kc_5, reduceIte, Nat.reduceEqDiff, Nat.add_zero, rI_hold, rI_hold, rL_hold, hav]; done)) ?_
  refine Bod.icF dc_107_7 rfl (k2_ge_F i av rfl rfl (by omega) (by omega)) ?_
  refine Bod.ildnG dc_107_10 (by repeat (first | exact q3 | exact sm_get_p1 | exact sm_get_p2e | refine sm_get_p1m (by decide) (by decide) ?_ | refine sm_get_p1n (by decide) rfl ?_ | refine sm_get_p2n (by decide) (by decide) rfl ?_)) ?_
  refine Bod.aldnG dc_107_11 (by repeat (first | exact q0 | exact sm_get_p1 | exact sm_get_p2e | refine sm_get_p1m (by decide) (by decide) ?_ | refine sm_get_p1n (by decide) rfl ?_ | refine sm_get_p2n (by decide) (by decide) rfl ?_)) ?_
  refine Bod.get dc_107_12 fr_107_27 (mk_43 _) rfl ?_
  refine Bod.alenN dc_107_15 (mk_45 _) (by decide +kernel) ?_
  refine Bod.icF dc_107_16 rfl (k2_ge_F i 440 rfl rfl (by omega) (by omega)) ?_
  refine Bod.aldnG dc_107_19 (by repeat (first | exact q0 | exact sm_get_p1 | exact sm_get_p2e | refine sm_get_p1m (by decide) (by decide) ?_ | refine sm_get_p1n (by decide) rfl ?_ | refine sm_get_p2n (by decide) (by decide) rfl ?_)) ?_
  refine Bod.get dc_107_20 fr_107_27 (mk_43 _) rfl ?_
  refine Bod.ildnG dc_107_23 (by repeat (first | exact q3 | exact sm_get_p1 | exact sm_get_p2e | refine sm_get_p1m (by decide) (by decide) ?_ | refine sm_get_p1n (by decide) rfl ?_ | refine sm_get_p2n (by decide) (by decide) rfl ?_)) ?_
  refine Bod.ialdN i rfl (by omega) (by omega) dc_107_24 (mk_45 _) ?_
  refine Bod.eqI (nI e45) (by first | assumption | rfl | exact congrArg nI (by omega) | (simp (disch := omega) only [rI, rIe, rA, rIA, rLA, rJA, rVI, rQI, rVA, rQA, upd_at,  rAI, rLI, rJI, nI_add, pk_sub, kc_0, kc_1, kc_2, kc_3, kc_4, kc_5, reduceIte, Nat.reduceEqDiff, Nat.add_zero, rI_hold, rI_hold, rL_hold, hav, he45]; done)) ?_
  refine Bod.ildnG dc_107_25 (by repeat (first | exact q1 | exact sm_get_p1 | exact sm_get_p2e | refine sm_get_p1m (by decide) (by decide) ?_ | refine sm_get_p1n (by decide) rfl ?_ | refine sm_get_p2n (by decide) (by decide) rfl ?_)) ?_
  refine Bod.icF dc_107_26 rfl (k2_ne_F (k_eq e45 q rfl rfl (by omega))) ?_
  refine Bod.aldnG dc_107_29 (by repeat (first | exact q0 | exact sm_get_p1 | exact sm_get_p2e | refine sm_get_p1m (by decide) (by decide) ?_ | refine sm_get_p1n (by decide) rfl ?_ | refine sm_get_p2n (by decide) (by decide) rfl ?_)) ?_
  refine Bod.get dc_107_30 fr_107_15 (mk_43 _) rfl ?_
  refine Bod.bip 24 (by decide) dc_107_33 ?_
  refine Bod.aldnG dc_107_35 (by repeat (first | exact q0 | exact sm_get_p1 | exact sm_get_p2e | refine sm_get_p1m (by decide) (by decide) ?_ | refine sm_get_p1n (by decide) rfl ?_ | refine sm_get_p2n (by decide) (by decide) rfl ?_)) ?_
  refine Bod.get dc_107_36 fr_107_42 (mk_43 _) rfl ?_
  refine Bod.eqI (nI av) (by first | assumption | rfl | exact congrArg nI (by omega) | (simp (disch := omega) only [rI, rIe, rA, rIA, rLA, rJA, rVI, rQI, rVA, rQA, upd_at,  rAI, rLI, rJI, nI_add, pk_sub, kc_0, kc_1, kc_2, kc_3, kc_4, kc_5, reduceIte, Nat.reduceEqDiff, Nat.add_zero, rI_hold, rI_hold, rL_hold, hav, he45]; done)) ?_
  refine Bod.ildnG dc_107_39 (by repeat (first | exact q3 | exact sm_get_p1 | exact sm_get_p2e | refine sm_get_p1m (by decide) (by decide) ?_ | refine sm_get_p1n (by decide) rfl ?_ | refine sm_get_p2n (by decide) (by decide) rfl ?_)) ?_
  refine Bod.subN (av - i) (by omega) (by omega) dc_107_40 ?_
  refine Bod.virt (r := []) dc_107_41 kr_107_116 ⟨Or.inr rfl, ow_54, cl_7⟩ (by rw [np_54]; rfl) (by rw [np_54]; rfl) (ob_of (mk_23 _)) (Nat.le_of_ble_eq_true rfl) (c1  ) ?_
  show Bod _ _ _ _ [_] _ _ _
  refine Bod.go dc_107_44 rfl ?_
  exact Bod.retV dc_107_45 rt_107
theorem cChL_1 {d : Nat} {S : cS} {lv : sm_L} {t : Nat} {p : Nat} (q3 : sm_get lv 3 = some (.int (nI t))) (q2 : sm_get lv 2 = some (.int (nI p))) (q0 : sm_get lv 0 = some (.ref 43)) (mt : t < 2 ^ 20) (mp : p < 2 ^ 20) (b1 : 3000 ≤ t) : Bod (d + 8) 87 4 lv [] S none (S) := by
  refine Bod.ildnG dc_87_4 (by repeat (first | exact q3 | exact sm_get_p1 | exact sm_get_p2e | refine sm_get_p1m (by decide) (by decide) ?_ | refine sm_get_p1n (by decide) rfl ?_ | refine sm_get_p2n (by decide) (by decide) rfl ?_)) ?_
  refine Bod.sip 3000 (by decide) dc_87_5 ?_
  refine Bod.icT dc_87_8 rfl (k2_ge_T t 3000 rfl rfl (by omega) (by omega)) ?_
  exact Bod.retV dc_87_53 rt_87
theorem cChL_2 {d : Nat} {S Sf : cS} {v : Option Value} {lv : sm_L} {t : Nat} {p : Nat} {S1 : cS} {a : Nat} {top : Nat} {S2 : cS} (q3 : sm_get lv 3 = some (.int (nI t))) (q2 : sm_get lv 2 = some (.int (nI p))) (q0 : sm_get lv 0 = some (.ref 43)) (mt : t < 2 ^ 20) (mp : p < 2 ^ 20) (b1 : t < 3000) (ma : a < 2 ^ 20) (c1 : Ans (d + 8) 88 [.ref 23, .int (nI (p + 1))] S (some (.int (nI a))) S1) (htop : sI S1 2307 = nI top) (mtop : top < 2 ^ 20) (c2 : Ans (d + 8) 83 [.ref 23, .int (nI (p + 1)), .int (nI top)] S1 none S2) (hB : ∀ lv1 : sm_L, sm_get lv1 0 = some (.ref 43) → sm_get lv1 2 = some (.int (nI a)) → sm_get lv1 3 = some (.int (nI (t + 1))) → Bod (d + 8) 87 4 lv1 [] (S2) v Sf) : Bod (d + 8) 87 4 lv [] S v Sf := by
  refine Bod.ildnG dc_87_4 (by repeat (first | exact q3 | exact sm_get_p1 | exact sm_get_p2e | refine sm_get_p1m (by decide) (by decide) ?_ | refine sm_get_p1n (by decide) rfl ?_ | refine sm_get_p2n (by decide) (by decide) rfl ?_)) ?_
  refine Bod.sip 3000 (by decide) dc_87_5 ?_
  refine Bod.icF dc_87_8 rfl (k2_ge_F t 3000 rfl rfl (by omega) (by omega)) ?_
  refine Bod.ildnG dc_87_11 (by repeat (first | exact q2 | exact sm_get_p1 | exact sm_get_p2e | refine sm_get_p1m (by decide) (by decide) ?_ | refine sm_get_p1n (by decide) rfl ?_ | refine sm_get_p2n (by decide) (by decide) rfl ?_)) ?_
  refine Bod.ifF dc_87_12 rfl (k1_lt_F p rfl (by omega)) ?_
  refine Bod.aldnG dc_87_15 (by repeat (first | exact q0 | exact sm_get_p1 | exact sm_get_p2e | refine sm_get_p1m (by decide) (by decide) ?_ | refine sm_get_p1n (by decide) rfl ?_ | refine sm_get_p2n (by decide) (by decide) rfl ?_)) ?_
  refine Bod.get dc_87_16 fr_87_15 (mk_43 _) rfl ?_
  refine Bod.ildnG dc_87_19 (by repeat (first | exact q2 | exact sm_get_p1 | exact sm_get_p2e | refine sm_get_p1m (by decide) (by decide) ?_ | refine sm_get_p1n (by decide) rfl ?_ | refine sm_get_p2n (by decide) (by decide) rfl ?_)) ?_
  refine Bod.ic 1 (by decide) dc_87_20 ?_
  refine Bod.addN (p + 1) (by omega) dc_87_21 ?_
  refine Bod.virt (r := []) dc_87_22 kr_87_198 ⟨Or.inr rfl, ow_88, cl_7⟩ (by rw [np_88]; rfl) (by rw [np_88]; rfl) (ob_of (mk_23 _)) (Nat.le_of_ble_eq_true rfl) (c1  ) ?_
  show Bod _ _ _ _ [_] _ _ _
  refine Bod.ist dc_87_25 (by rw [ml_87]; exact Nat.le_of_ble_eq_true rfl) ?_
  refine Bod.aldnG dc_87_27 (by repeat (first | exact q0 | exact sm_get_p1 | exact sm_get_p2e | refine sm_get_p1m (by decide) (by decide) ?_ | refine sm_get_p1n (by decide) rfl ?_ | refine sm_get_p2n (by decide) (by decide) rfl ?_)) ?_
  refine Bod.get dc_87_28 fr_87_15 (mk_43 _) rfl ?_
  refine Bod.ildnG dc_87_31 (by repeat (first | exact q2 | exact sm_get_p1 | exact sm_get_p2e | refine sm_get_p1m (by decide) (by decide) ?_ | refine sm_get_p1n (by decide) rfl ?_ | refine sm_get_p2n (by decide) (by decide) rfl ?_)) ?_
  refine Bod.ic 1 (by decide) dc_87_32 ?_
  refine Bod.addN (p + 1) (by omega) dc_87_33 ?_
  refine Bod.aldnG dc_87_34 (by repeat (first | exact q0 | exact sm_get_p1 | exact sm_get_p2e | refine sm_get_p1m (by decide) (by decide) ?_ | refine sm_get_p1n (by decide) rfl ?_ | refine sm_get_p2n (by decide) (by decide) rfl ?_)) ?_
  refine Bod.get dc_87_35 fr_87_15 (mk_43 _) rfl ?_
  refine Bod.get dc_87_38 fr_87_69 (mk_23 _) rfl ?_
  refine Bod.eqI (nI top) (by first | (simp (disch := omega) only [rI, rIe, rA, rIA, rLA, rJA, rVI, rQI, rVA, rQA, upd_at,  rAI, rLI, rJI, nI_add, pk_sub, kc_0, kc_1, kc_2, kc_3, kc_4, kc_5, reduceIte, Nat.reduceEqDiff, Nat.add_zero, rI_hold, rI_hold, rL_hold, htop]; done) | (simp (disch := omega) only [rI, rIe, rA, rIA, rLA, rJA, rVI, rQI, rVA, rQA, upd_at,  rAI, rLI, rJI, nI_add, pk_sub, kc_0, kc_1, kc_2, kc_3, kc_4, kc_5, reduceIte, Nat.reduceEqDiff, Nat.add_zero, rI_hold, rI_hold, rL_hold, htop]; exact congrArg nI (by omega))) ?_
  refine Bod.virt (r := []) dc_87_41 kr_87_201 ⟨Or.inr rfl, ow_83, cl_7⟩ (by rw [np_83]; rfl) (by rw [np_83]; rfl) (ob_of (mk_23 _)) (Nat.le_of_ble_eq_true rfl) (c2  ) ?_
  show Bod _ _ _ _ [] _ _ _
  refine Bod.ildG dc_87_44 (by repeat (first | exact q0 | exact sm_get_p1 | exact sm_get_p2e | refine sm_get_p1m (by decide) (by decide) ?_ | refine sm_get_p1n (by decide) rfl ?_ | refine sm_get_p2n (by decide) (by decide) rfl ?_)) ?_
  refine Bod.istn dc_87_46 (by rw [ml_87]; exact Nat.le_of_ble_eq_true rfl) ?_
  refine Bod.incN (t + 1) (by rw [kc_1, nI_add]) dc_87_47 (by rw [ml_87]; exact Nat.le_of_ble_eq_true rfl) (by repeat (first | exact q3 | exact sm_get_p1 | exact sm_get_p2e | refine sm_get_p1m (by decide) (by decide) ?_ | refine sm_get_p1n (by decide) rfl ?_ | refine sm_get_p2n (by decide) (by decide) rfl ?_)) ?_
  refine Bod.go dc_87_50 rfl ?_
  exact hB _ (by repeat (first | exact q0 | exact sm_get_p1 | exact sm_get_p2e | refine sm_get_p1m (by decide) (by decide) ?_ | refine sm_get_p1n (by decide) rfl ?_ | refine sm_get_p2n (by decide) (by decide) rfl ?_)) (by repeat (first | exact q0 | exact sm_get_p1 | exact sm_get_p2e | refine sm_get_p1m (by decide) (by decide) ?_ | refine sm_get_p1n (by decide) rfl ?_ | refine sm_get_p2n (by decide) (by decide) rfl ?_)) (by repeat (first | exact q0 | exact sm_get_p1 | exact sm_get_p2e | refine sm_get_p1m (by decide) (by decide) ?_ | refine sm_get_p1n (by decide) rfl ?_ | refine sm_get_p2n (by decide) (by decide) rfl ?_))
theorem cChL_3 {d : Nat} {S Sf : cS} {v : Option Value} {lv : sm_L} {t : Nat} {p : Nat} {S1 : cS} {top : Nat} {S2 : cS} (q3 : sm_get lv 3 = some (.int (nI t))) (q2 : sm_get lv 2 = some (.int (nI p))) (q0 : sm_get lv 0 = some (.ref 43)) (mt : t < 2 ^ 20) (mp : p < 2 ^ 20) (b1 : t < 3000) (c1 : Ans (d + 8) 88 [.ref 23, .int (nI (p + 1))] S (some (.int (Int32.ofInt (-1)))) S1) (htop : sI S1 2307 = nI top) (mtop : top < 2 ^ 20) (c2 : Ans (d + 8) 83 [.ref 23, .int (nI (p + 1)), .int (nI top)] S1 none S2) (hB : ∀ lv1 : sm_L, sm_get lv1 0 = some (.ref 43) → sm_get lv1 2 = some (.int (Int32.ofInt (-1))) → sm_get lv1 3 = some (.int (nI (t + 1))) → Bod (d + 8) 87 4 lv1 [] (S2) v Sf) : Bod (d + 8) 87 4 lv [] S v Sf := by
  refine Bod.ildnG dc_87_4 (by repeat (first | exact q3 | exact sm_get_p1 | exact sm_get_p2e | refine sm_get_p1m (by decide) (by decide) ?_ | refine sm_get_p1n (by decide) rfl ?_ | refine sm_get_p2n (by decide) (by decide) rfl ?_)) ?_
  refine Bod.sip 3000 (by decide) dc_87_5 ?_
  refine Bod.icF dc_87_8 rfl (k2_ge_F t 3000 rfl rfl (by omega) (by omega)) ?_
  refine Bod.ildnG dc_87_11 (by repeat (first | exact q2 | exact sm_get_p1 | exact sm_get_p2e | refine sm_get_p1m (by decide) (by decide) ?_ | refine sm_get_p1n (by decide) rfl ?_ | refine sm_get_p2n (by decide) (by decide) rfl ?_)) ?_
  refine Bod.ifF dc_87_12 rfl (k1_lt_F p rfl (by omega)) ?_
  refine Bod.aldnG dc_87_15 (by repeat (first | exact q0 | exact sm_get_p1 | exact sm_get_p2e | refine sm_get_p1m (by decide) (by decide) ?_ | refine sm_get_p1n (by decide) rfl ?_ | refine sm_get_p2n (by decide) (by decide) rfl ?_)) ?_
  refine Bod.get dc_87_16 fr_87_15 (mk_43 _) rfl ?_
  refine Bod.ildnG dc_87_19 (by repeat (first | exact q2 | exact sm_get_p1 | exact sm_get_p2e | refine sm_get_p1m (by decide) (by decide) ?_ | refine sm_get_p1n (by decide) rfl ?_ | refine sm_get_p2n (by decide) (by decide) rfl ?_)) ?_
  refine Bod.ic 1 (by decide) dc_87_20 ?_
  refine Bod.addN (p + 1) (by omega) dc_87_21 ?_
  refine Bod.virt (r := []) dc_87_22 kr_87_198 ⟨Or.inr rfl, ow_88, cl_7⟩ (by rw [np_88]; rfl) (by rw [np_88]; rfl) (ob_of (mk_23 _)) (Nat.le_of_ble_eq_true rfl) (c1  ) ?_
  show Bod _ _ _ _ [_] _ _ _
  refine Bod.ist dc_87_25 (by rw [ml_87]; exact Nat.le_of_ble_eq_true rfl) ?_
  refine Bod.aldnG dc_87_27 (by repeat (first | exact q0 | exact sm_get_p1 | exact sm_get_p2e | refine sm_get_p1m (by decide) (by decide) ?_ | refine sm_get_p1n (by decide) rfl ?_ | refine sm_get_p2n (by decide) (by decide) rfl ?_)) ?_
  refine Bod.get dc_87_28 fr_87_15 (mk_43 _) rfl ?_
  refine Bod.ildnG dc_87_31 (by repeat (first | exact q2 | exact sm_get_p1 | exact sm_get_p2e | refine sm_get_p1m (by decide) (by decide) ?_ | refine sm_get_p1n (by decide) rfl ?_ | refine sm_get_p2n (by decide) (by decide) rfl ?_)) ?_
  refine Bod.ic 1 (by decide) dc_87_32 ?_
  refine Bod.addN (p + 1) (by omega) dc_87_33 ?_
  refine Bod.aldnG dc_87_34 (by repeat (first | exact q0 | exact sm_get_p1 | exact sm_get_p2e | refine sm_get_p1m (by decide) (by decide) ?_ | refine sm_get_p1n (by decide) rfl ?_ | refine sm_get_p2n (by decide) (by decide) rfl ?_)) ?_
  refine Bod.get dc_87_35 fr_87_15 (mk_43 _) rfl ?_
  refine Bod.get dc_87_38 fr_87_69 (mk_23 _) rfl ?_
  refine Bod.eqI (nI top) (by first | (simp (disch := omega) only [rI, rIe, rA, rIA, rLA, rJA, rVI, rQI, rVA, rQA, upd_at,  rAI, rLI, rJI, nI_add, pk_sub, kc_0, kc_1, kc_2, kc_3, kc_4, kc_5, reduceIte, Nat.reduceEqDiff, Nat.add_zero, rI_hold, rI_hold, rL_hold, htop]; done) | (simp (disch := omega) only [rI, rIe, rA, rIA, rLA, rJA, rVI, rQI, rVA, rQA, upd_at,  rAI, rLI, rJI, nI_add, pk_sub, kc_0, kc_1, kc_2, kc_3, kc_4, kc_5, reduceIte, Nat.reduceEqDiff, Nat.add_zero, rI_hold, rI_hold, rL_hold, htop]; exact congrArg nI (by omega))) ?_
  refine Bod.virt (r := []) dc_87_41 kr_87_201 ⟨Or.inr rfl, ow_83, cl_7⟩ (by rw [np_83]; rfl) (by rw [np_83]; rfl) (ob_of (mk_23 _)) (Nat.le_of_ble_eq_true rfl) (c2  ) ?_
  show Bod _ _ _ _ [] _ _ _
  refine Bod.ildG dc_87_44 (by repeat (first | exact q0 | exact sm_get_p1 | exact sm_get_p2e | refine sm_get_p1m (by decide) (by decide) ?_ | refine sm_get_p1n (by decide) rfl ?_ | refine sm_get_p2n (by decide) (by decide) rfl ?_)) ?_
  refine Bod.istn dc_87_46 (by rw [ml_87]; exact Nat.le_of_ble_eq_true rfl) ?_
  refine Bod.incN (t + 1) (by rw [kc_1, nI_add]) dc_87_47 (by rw [ml_87]; exact Nat.le_of_ble_eq_true rfl) (by repeat (first | exact q3 | exact sm_get_p1 | exact sm_get_p2e | refine sm_get_p1m (by decide) (by decide) ?_ | refine sm_get_p1n (by decide) rfl ?_ | refine sm_get_p2n (by decide) (by decide) rfl ?_)) ?_
  refine Bod.go dc_87_50 rfl ?_
  exact hB _ (by repeat (first | exact q0 | exact sm_get_p1 | exact sm_get_p2e | refine sm_get_p1m (by decide) (by decide) ?_ | refine sm_get_p1n (by decide) rfl ?_ | refine sm_get_p2n (by decide) (by decide) rfl ?_)) (by repeat (first | exact q0 | exact sm_get_p1 | exact sm_get_p2e | refine sm_get_p1m (by decide) (by decide) ?_ | refine sm_get_p1n (by decide) rfl ?_ | refine sm_get_p2n (by decide) (by decide) rfl ?_)) (by repeat (first | exact q0 | exact sm_get_p1 | exact sm_get_p2e | refine sm_get_p1m (by decide) (by decide) ?_ | refine sm_get_p1n (by decide) rfl ?_ | refine sm_get_p2n (by decide) (by decide) rfl ?_))
theorem cChE_1 {d : Nat} {S : cS} {lv : sm_L} {t : Nat} (q3 : sm_get lv 3 = some (.int (nI t))) (q2 : sm_get lv 2 = some (.int (Int32.ofInt (-1)))) (q0 : sm_get lv 0 = some (.ref 43)) (mt : t < 2 ^ 20) (b1 : 3000 ≤ t) : Bod (d + 8) 87 4 lv [] S none (S) := by
  refine Bod.ildnG dc_87_4 (by repeat (first | exact q3 | exact sm_get_p1 | exact sm_get_p2e | refine sm_get_p1m (by decide) (by decide) ?_ | refine sm_get_p1n (by decide) rfl ?_ | refine sm_get_p2n (by decide) (by decide) rfl ?_)) ?_
  refine Bod.sip 3000 (by decide) dc_87_5 ?_
  refine Bod.icT dc_87_8 rfl (k2_ge_T t 3000 rfl rfl (by omega) (by omega)) ?_
  exact Bod.retV dc_87_53 rt_87
theorem cChE_2 {d : Nat} {S : cS} {lv : sm_L} {t : Nat} (q3 : sm_get lv 3 = some (.int (nI t))) (q2 : sm_get lv 2 = some (.int (Int32.ofInt (-1)))) (q0 : sm_get lv 0 = some (.ref 43)) (mt : t < 2 ^ 20) (b1 : t < 3000) : Bod (d + 8) 87 4 lv [] S none (S) := by
  refine Bod.ildnG dc_87_4 (by repeat (first | exact q3 | exact sm_get_p1 | exact sm_get_p2e | refine sm_get_p1m (by decide) (by decide) ?_ | refine sm_get_p1n (by decide) rfl ?_ | refine sm_get_p2n (by decide) (by decide) rfl ?_)) ?_
  refine Bod.sip 3000 (by decide) dc_87_5 ?_
  refine Bod.icF dc_87_8 rfl (k2_ge_F t 3000 rfl rfl (by omega) (by omega)) ?_
  refine Bod.ildnG dc_87_11 (by repeat (first | exact q2 | exact sm_get_p1 | exact sm_get_p2e | refine sm_get_p1m (by decide) (by decide) ?_ | refine sm_get_p1n (by decide) rfl ?_ | refine sm_get_p2n (by decide) (by decide) rfl ?_)) ?_
  refine Bod.ifT dc_87_12 rfl (by decide) ?_
  exact Bod.retV dc_87_53 rt_87
theorem cFgL_1 {d : Nat} {S : cS} {lv : sm_L} {p : Nat} {fx : Nat} (q0 : sm_get lv 0 = some (.ref 32)) (q1 : sm_get lv 1 = some (.int (nI p))) (mp : p < 2 ^ 20) (hfx : sI S 3214 = nI fx) (mfx : fx < 2 ^ 20) (b1 : fx ≤ 0) : Bod (d + 8) 119 0 lv [] S none (S) := by
  refine Bod.aldnG dc_119_0 (by repeat (first | exact q0 | exact sm_get_p1 | exact sm_get_p2e | refine sm_get_p1m (by decide) (by decide) ?_ | refine sm_get_p1n (by decide) rfl ?_ | refine sm_get_p2n (by decide) (by decide) rfl ?_)) ?_
  refine Bod.get dc_119_1 fr_119_54 (mk_32 _) rfl ?_
  refine Bod.eqI (nI fx) (by first | assumption | rfl | exact congrArg nI (by omega) | (simp (disch := omega) only [rI, rIe, rA, rIA, rLA, rJA, rVI, rQI, rVA, rQA, upd_at,  rAI, rLI, rJI, nI_add, pk_sub, kc_0, kc_1, kc_2, kc_3, kc_4, kc_5, reduceIte, Nat.reduceEqDiff, Nat.add_zero, rI_hold, rI_hold, rL_hold, hfx]; done)) ?_
  refine Bod.ifT dc_119_4 rfl (k1_le_T (k_eq fx 0 (by first | assumption | rfl | exact congrArg nI (by omega) | (simp (disch := omega) only [rI, rIe, rA, rIA, rLA, rJA, rVI, rQI, rVA, rQA, upd_at,  rAI, rLI, rJI, nI_add, pk_sub, kc_0, kc_1, kc_2, kc_3, kc_4, kc_5, reduceIte, Nat.reduceEqDiff, Nat.add_zero, rI_hold, rI_hold, rL_hold, hfx]; done)) rfl (by omega))) ?_
  exact Bod.retV dc_119_45 rt_119
theorem cFgL_2 {d : Nat} {S : cS} {lv : sm_L} {p : Nat} {fx : Nat} (q0 : sm_get lv 0 = some (.ref 32)) (q1 : sm_get lv 1 = some (.int (nI p))) (mp : p < 2 ^ 20) (hfx : sI S 3214 = nI fx) (mfx : fx < 2 ^ 20) (b1 : 0 < fx) (b2 : 1600 < fx) : Bod (d + 8) 119 0 lv [] S none (S) := by
  refine Bod.aldnG dc_119_0 (by repeat (first | exact q0 | exact sm_get_p1 | exact sm_get_p2e | refine sm_get_p1m (by decide) (by decide) ?_ | refine sm_get_p1n (by decide) rfl ?_ | refine sm_get_p2n (by decide) (by decide) rfl ?_)) ?_
  refine Bod.get dc_119_1 fr_119_54 (mk_32 _) rfl ?_
  refine Bod.eqI (nI fx) (by first | assumption | rfl | exact congrArg nI (by omega) | (simp (disch := omega) only [rI, rIe, rA, rIA, rLA, rJA, rVI, rQI, rVA, rQA, upd_at,  rAI, rLI, rJI, nI_add, pk_sub, kc_0, kc_1, kc_2, kc_3, kc_4, kc_5, reduceIte, Nat.reduceEqDiff, Nat.add_zero, rI_hold, rI_hold, rL_hold, hfx]; done)) ?_
  refine Bod.ifF dc_119_4 rfl (k1_le_F fx rfl (by omega) (by omega)) ?_
  refine Bod.aldnG dc_119_7 (by repeat (first | exact q0 | exact sm_get_p1 | exact sm_get_p2e | refine sm_get_p1m (by decide) (by decide) ?_ | refine sm_get_p1n (by decide) rfl ?_ | refine sm_get_p2n (by decide) (by decide) rfl ?_)) ?_
  refine Bod.get dc_119_8 fr_119_54 (mk_32 _) rfl ?_
  refine Bod.eqI (nI fx) (by first | assumption | rfl | exact congrArg nI (by omega) | (simp (disch := omega) only [rI, rIe, rA, rIA, rLA, rJA, rVI, rQI, rVA, rQA, upd_at,  rAI, rLI, rJI, nI_add, pk_sub, kc_0, kc_1, kc_2, kc_3, kc_4, kc_5, reduceIte, Nat.reduceEqDiff, Nat.add_zero, rI_hold, rI_hold, rL_hold, hfx]; done)) ?_
  refine Bod.sip 1600 (by decide) dc_119_11 ?_
  refine Bod.icT dc_119_14 rfl (k2_gt_T fx 1600 rfl rfl (by omega) (by omega)) ?_
  exact Bod.retV dc_119_45 rt_119
theorem cFgL_3 {d : Nat} {S : cS} {lv : sm_L} {p : Nat} {fx : Nat} {e41 : Nat} (q0 : sm_get lv 0 = some (.ref 32)) (q1 : sm_get lv 1 = some (.int (nI p))) (mp : p < 2 ^ 20) (hfx : sI S 3214 = nI fx) (mfx : fx < 2 ^ 20) (b1 : 0 < fx) (b2 : fx ≤ 1600) (b3 : 1 ≤ fx) (he41 : sA S 41 (fx - 1) = nI e41) (me41 : e41 < 2 ^ 20) (b4 : e41 < p) : Bod (d + 8) 119 0 lv [] S none (S) := by
  refine Bod.aldnG dc_119_0 (by repeat (first | exact q0 | exact sm_get_p1 | exact sm_get_p2e | refine sm_get_p1m (by decide) (by decide) ?_ | refine sm_get_p1n (by decide) rfl ?_ | refine sm_get_p2n (by decide) (by decide) rfl ?_)) ?_
  refine Bod.get dc_119_1 fr_119_54 (mk_32 _) rfl ?_
  refine Bod.eqI (nI fx) (by first | assumption | rfl | exact congrArg nI (by omega) | (simp (disch := omega) only [rI, rIe, rA, rIA, rLA, rJA, rVI, rQI, rVA, rQA, upd_at,  rAI, rLI, rJI, nI_add, pk_sub, kc_0, kc_1, kc_2, kc_3, kc_4, kc_5, reduceIte, Nat.reduceEqDiff, Nat.add_zero, rI_hold, rI_hold, rL_hold, hfx]; done)) ?_
  refine Bod.ifF dc_119_4 rfl (k1_le_F fx rfl (by omega) (by omega)) ?_
  refine Bod.aldnG dc_119_7 (by repeat (first | exact q0 | exact sm_get_p1 | exact sm_get_p2e | refine sm_get_p1m (by decide) (by decide) ?_ | refine sm_get_p1n (by decide) rfl ?_ | refine sm_get_p2n (by decide) (by decide) rfl ?_)) ?_
  refine Bod.get dc_119_8 fr_119_54 (mk_32 _) rfl ?_
  refine Bod.eqI (nI fx) (by first | assumption | rfl | exact congrArg nI (by omega) | (simp (disch := omega) only [rI, rIe, rA, rIA, rLA, rJA, rVI, rQI, rVA, rQA, upd_at,  rAI, rLI, rJI, nI_add, pk_sub, kc_0, kc_1, kc_2, kc_3, kc_4, kc_5, reduceIte, Nat.reduceEqDiff, Nat.add_zero, rI_hold, rI_hold, rL_hold, hfx]; done)) ?_
  refine Bod.sip 1600 (by decide) dc_119_11 ?_
  refine Bod.icF dc_119_14 rfl (k2_gt_F fx 1600 rfl rfl (by omega) (by omega)) ?_
  refine Bod.aldnG dc_119_17 (by repeat (first | exact q0 | exact sm_get_p1 | exact sm_get_p2e | refine sm_get_p1m (by decide) (by decide) ?_ | refine sm_get_p1n (by decide) rfl ?_ | refine sm_get_p2n (by decide) (by decide) rfl ?_)) ?_
  refine Bod.get dc_119_18 fr_119_38 (mk_32 _) rfl ?_
  refine Bod.aldnG dc_119_21 (by repeat (first | exact q0 | exact sm_get_p1 | exact sm_get_p2e | refine sm_get_p1m (by decide) (by decide) ?_ | refine sm_get_p1n (by decide) rfl ?_ | refine sm_get_p2n (by decide) (by decide) rfl ?_)) ?_
  refine Bod.get dc_119_22 fr_119_54 (mk_32 _) rfl ?_
  refine Bod.eqI (nI fx) (by first | assumption | rfl | exact congrArg nI (by omega) | (simp (disch := omega) only [rI, rIe, rA, rIA, rLA, rJA, rVI, rQI, rVA, rQA, upd_at,  rAI, rLI, rJI, nI_add, pk_sub, kc_0, kc_1, kc_2, kc_3, kc_4, kc_5, reduceIte, Nat.reduceEqDiff, Nat.add_zero, rI_hold, rI_hold, rL_hold, hfx]; done)) ?_
  refine Bod.ic 1 (by decide) dc_119_25 ?_
  refine Bod.subN (fx - 1) (by omega) (by omega) dc_119_26 ?_
  refine Bod.ialdN (fx - 1) rfl (by omega) (by omega) dc_119_27 (mk_41 _) ?_
  refine Bod.eqI (nI e41) (by first | assumption | rfl | exact congrArg nI (by omega) | (simp (disch := omega) only [rI, rIe, rA, rIA, rLA, rJA, rVI, rQI, rVA, rQA, upd_at,  rAI, rLI, rJI, nI_add, pk_sub, kc_0, kc_1, kc_2, kc_3, kc_4, kc_5, reduceIte, Nat.reduceEqDiff, Nat.add_zero, rI_hold, rI_hold, rL_hold, hfx, he41]; done)) ?_
  refine Bod.ildnG dc_119_28 (by repeat (first | exact q1 | exact sm_get_p1 | exact sm_get_p2e | refine sm_get_p1m (by decide) (by decide) ?_ | refine sm_get_p1n (by decide) rfl ?_ | refine sm_get_p2n (by decide) (by decide) rfl ?_)) ?_
  refine Bod.icT dc_119_29 rfl (k2_lt_T e41 p rfl rfl (by omega) (by omega)) ?_
  exact Bod.retV dc_119_45 rt_119
theorem cFgL_4 {d : Nat} {S Sf : cS} {v : Option Value} {lv : sm_L} {p : Nat} {fx : Nat} {e41 : Nat} (q0 : sm_get lv 0 = some (.ref 32)) (q1 : sm_get lv 1 = some (.int (nI p))) (mp : p < 2 ^ 20) (hfx : sI S 3214 = nI fx) (mfx : fx < 2 ^ 20) (b1 : 0 < fx) (b2 : fx ≤ 1600) (b3 : 1 ≤ fx) (he41 : sA S 41 (fx - 1) = nI e41) (me41 : e41 < 2 ^ 20) (b4 : p ≤ e41) (hB : ∀ lv1 : sm_L, sm_get lv1 0 = some (.ref 32) → sm_get lv1 1 = some (.int (nI p)) → Bod (d + 8) 119 0 lv1 [] (wI 3214 (nI (fx - 1)) S) v Sf) : Bod (d + 8) 119 0 lv [] S v Sf := by
  refine Bod.aldnG dc_119_0 (by repeat (first | exact q0 | exact sm_get_p1 | exact sm_get_p2e | refine sm_get_p1m (by decide) (by decide) ?_ | refine sm_get_p1n (by decide) rfl ?_ | refine sm_get_p2n (by decide) (by decide) rfl ?_)) ?_
  refine Bod.get dc_119_1 fr_119_54 (mk_32 _) rfl ?_
  refine Bod.eqI (nI fx) (by first | assumption | rfl | exact congrArg nI (by omega) | (simp (disch := omega) only [rI, rIe, rA, rIA, rLA, rJA, rVI, rQI, rVA, rQA, upd_at,  rAI, rLI, rJI, nI_add, pk_sub, kc_0, kc_1, kc_2, kc_3, kc_4, kc_5, reduceIte, Nat.reduceEqDiff, Nat.add_zero, rI_hold, rI_hold, rL_hold, hfx]; done)) ?_
  refine Bod.ifF dc_119_4 rfl (k1_le_F fx rfl (by omega) (by omega)) ?_
  refine Bod.aldnG dc_119_7 (by repeat (first | exact q0 | exact sm_get_p1 | exact sm_get_p2e | refine sm_get_p1m (by decide) (by decide) ?_ | refine sm_get_p1n (by decide) rfl ?_ | refine sm_get_p2n (by decide) (by decide) rfl ?_)) ?_
  refine Bod.get dc_119_8 fr_119_54 (mk_32 _) rfl ?_
  refine Bod.eqI (nI fx) (by first | assumption | rfl | exact congrArg nI (by omega) | (simp (disch := omega) only [rI, rIe, rA, rIA, rLA, rJA, rVI, rQI, rVA, rQA, upd_at,  rAI, rLI, rJI, nI_add, pk_sub, kc_0, kc_1, kc_2, kc_3, kc_4, kc_5, reduceIte, Nat.reduceEqDiff, Nat.add_zero, rI_hold, rI_hold, rL_hold, hfx]; done)) ?_
  refine Bod.sip 1600 (by decide) dc_119_11 ?_
  refine Bod.icF dc_119_14 rfl (k2_gt_F fx 1600 rfl rfl (by omega) (by omega)) ?_
  refine Bod.aldnG dc_119_17 (by repeat (first | exact q0 | exact sm_get_p1 | exact sm_get_p2e | refine sm_get_p1m (by decide) (by decide) ?_ | refine sm_get_p1n (by decide) rfl ?_ | refine sm_get_p2n (by decide) (by decide) rfl ?_)) ?_
  refine Bod.get dc_119_18 fr_119_38 (mk_32 _) rfl ?_
  refine Bod.aldnG dc_119_21 (by repeat (first | exact q0 | exact sm_get_p1 | exact sm_get_p2e | refine sm_get_p1m (by decide) (by decide) ?_ | refine sm_get_p1n (by decide) rfl ?_ | refine sm_get_p2n (by decide) (by decide) rfl ?_)) ?_
  refine Bod.get dc_119_22 fr_119_54 (mk_32 _) rfl ?_
  refine Bod.eqI (nI fx) (by first | assumption | rfl | exact congrArg nI (by omega) | (simp (disch := omega) only [rI, rIe, rA, rIA, rLA, rJA, rVI, rQI, rVA, rQA, upd_at,  rAI, rLI, rJI, nI_add, pk_sub, kc_0, kc_1, kc_2, kc_3, kc_4, kc_5, reduceIte, Nat.reduceEqDiff, Nat.add_zero, rI_hold, rI_hold, rL_hold, hfx]; done)) ?_
  refine Bod.ic 1 (by decide) dc_119_25 ?_
  refine Bod.subN (fx - 1) (by omega) (by omega) dc_119_26 ?_
  refine Bod.ialdN (fx - 1) rfl (by omega) (by omega) dc_119_27 (mk_41 _) ?_
  refine Bod.eqI (nI e41) (by first | assumption | rfl | exact congrArg nI (by omega) | (simp (disch := omega) only [rI, rIe, rA, rIA, rLA, rJA, rVI, rQI, rVA, rQA, upd_at,  rAI, rLI, rJI, nI_add, pk_sub, kc_0, kc_1, kc_2, kc_3, kc_4, kc_5, reduceIte, Nat.reduceEqDiff, Nat.add_zero, rI_hold, rI_hold, rL_hold, hfx, he41]; done)) ?_
  refine Bod.ildnG dc_119_28 (by repeat (first | exact q1 | exact sm_get_p1 | exact sm_get_p2e | refine sm_get_p1m (by decide) (by decide) ?_ | refine sm_get_p1n (by decide) rfl ?_ | refine sm_get_p2n (by decide) (by decide) rfl ?_)) ?_
  refine Bod.icF dc_119_29 rfl (k2_lt_F e41 p rfl rfl (by omega) (by omega)) ?_
  refine Bod.aldnG dc_119_32 (by repeat (first | exact q0 | exact sm_get_p1 | exact sm_get_p2e | refine sm_get_p1m (by decide) (by decide) ?_ | refine sm_get_p1n (by decide) rfl ?_ | refine sm_get_p2n (by decide) (by decide) rfl ?_)) ?_
  refine Bod.go dc_119_33 rfl ?_
  refine Bod.get dc_119_34 fr_119_54 (mk_32 _) rfl ?_
  refine Bod.eqI (nI fx) (by first | assumption | rfl | exact congrArg nI (by omega) | (simp (disch := omega) only [rI, rIe, rA, rIA, rLA, rJA, rVI, rQI, rVA, rQA, upd_at,  rAI, rLI, rJI, nI_add, pk_sub, kc_0, kc_1, kc_2, kc_3, kc_4, kc_5, reduceIte, Nat.reduceEqDiff, Nat.add_zero, rI_hold, rI_hold, rL_hold, hfx, he41]; done)) ?_
  refine Bod.ic 1 (by decide) dc_119_37 ?_
  refine Bod.subN (fx - 1) (by omega) (by omega) dc_119_38 ?_
  refine Bod.put dc_119_39 fr_119_54 (mk_32 _) (Nat.le_of_ble_eq_true rfl) pf_8_14 (st_3214 _ _) (mu_I _ _ _) ?_
  refine Bod.go dc_119_42 rfl ?_
  exact hB _ (by repeat (first | exact q0 | exact sm_get_p1 | exact sm_get_p2e | refine sm_get_p1m (by decide) (by decide) ?_ | refine sm_get_p1n (by decide) rfl ?_ | refine sm_get_p2n (by decide) (by decide) rfl ?_)) (by repeat (first | exact q1 | exact sm_get_p1 | exact sm_get_p2e | refine sm_get_p1m (by decide) (by decide) ?_ | refine sm_get_p1n (by decide) rfl ?_ | refine sm_get_p2n (by decide) (by decide) rfl ?_))
theorem cBeg_1 {d : Nat} {S : cS} {n0 : Nat} {S1 : cS} {cs : Nat} {fs : Nat} {S2 : cS} {top : Nat} (mn0 : n0 < 2 ^ 20) (c1 : Ans (d + 8) 34 [.ref 32] (wI 2310 (nI 0) S) none S1) (hcs : sI (wI 4309 (Int32.ofInt (-1)) (wI 4308 (nI 0) (wI 4305 (nI 0) S1))) 2308 = nI cs) (mcs : cs < 2 ^ 20) (hfs : sI (wI 4306 (nI cs) (wI 4309 (Int32.ofInt (-1)) (wI 4308 (nI 0) (wI 4305 (nI 0) S1)))) 2309 = nI fs) (mfs : fs < 2 ^ 20) (c2 : Ans (d + 8) 35 [.ref 31, .int (nI n0)] (wI 4307 (nI fs) (wI 4306 (nI cs) (wI 4309 (Int32.ofInt (-1)) (wI 4308 (nI 0) (wI 4305 (nI 0) S1))))) none S2) (htop : sI S2 2307 = nI top) (mtop : top < 2 ^ 20) : Bod (d + 8) 33 0 [(0, .ref 43), (1, .int (nI n0))] [] S (some (.int (nI top))) (S2) := by
  refine Bod.go dc_33_0 rfl ?_
  refine Bod.get dc_33_1 fr_33_15 (mk_43 _) rfl ?_
  refine Bod.ic 0 (by decide) dc_33_4 ?_
  refine Bod.put dc_33_5 fr_33_31 (mk_23 _) (Nat.le_of_ble_eq_true rfl) (pf_7_10 (Or.inl rfl)) (st_2310 _ _) (mu_I _ _ _) ?_
  refine Bod.go dc_33_8 rfl ?_
  refine Bod.get dc_33_9 fr_33_19 (mk_43 _) rfl ?_
  refine Bod.virt (r := []) dc_33_12 kr_33_37 ⟨Or.inr rfl, ow_34, cl_8⟩ (by rw [np_34]; rfl) (by rw [np_34]; rfl) (ob_of (mk_32 _)) (Nat.le_of_ble_eq_true rfl) (c1  ) ?_
  show Bod _ _ _ _ [] _ _ _
  refine Bod.go dc_33_15 rfl ?_
  refine Bod.ic 0 (by decide) dc_33_16 ?_
  refine Bod.put dc_33_17 fr_33_42 (mk_43 _) (Nat.le_of_ble_eq_true rfl) pf_10_5 (st_4305 _ _) (mu_I _ _ _) ?_
  refine Bod.go dc_33_20 rfl ?_
  refine Bod.ic 0 (by decide) dc_33_21 ?_
  refine Bod.put dc_33_22 fr_33_46 (mk_43 _) (Nat.le_of_ble_eq_true rfl) pf_10_8 (st_4308 _ _) (mu_I _ _ _) ?_
  refine Bod.go dc_33_25 rfl ?_
  refine Bod.go dc_33_26 rfl ?_
  refine Bod.put dc_33_27 fr_33_49 (mk_43 _) (Nat.le_of_ble_eq_true rfl) pf_10_9 (st_4309 _ _) (mu_I _ _ _) ?_
  refine Bod.go dc_33_30 rfl ?_
  refine Bod.go dc_33_31 rfl ?_
  refine Bod.get dc_33_32 fr_33_15 (mk_43 _) rfl ?_
  refine Bod.get dc_33_35 fr_33_52 (mk_23 _) rfl ?_
  refine Bod.eqI (nI cs) (by first | (simp (disch := omega) only [rI, rIe, rA, rIA, rLA, rJA, rVI, rQI, rVA, rQA, upd_at,  rAI, rLI, rJI, nI_add, pk_sub, kc_0, kc_1, kc_2, kc_3, kc_4, kc_5, reduceIte, Nat.reduceEqDiff, Nat.add_zero, rI_hold, rI_hold, rL_hold, hcs]; done) | (simp (disch := omega) only [rI, rIe, rA, rIA, rLA, rJA, rVI, rQI, rVA, rQA, upd_at,  rAI, rLI, rJI, nI_add, pk_sub, kc_0, kc_1, kc_2, kc_3, kc_4, kc_5, reduceIte, Nat.reduceEqDiff, Nat.add_zero, rI_hold, rI_hold, rL_hold, hcs]; exact congrArg nI (by omega))) ?_
  refine Bod.put dc_33_38 fr_33_55 (mk_43 _) (Nat.le_of_ble_eq_true rfl) pf_10_6 (st_4306 _ _) (mu_I _ _ _) ?_
  refine Bod.go dc_33_41 rfl ?_
  refine Bod.go dc_33_42 rfl ?_
  refine Bod.get dc_33_43 fr_33_15 (mk_43 _) rfl ?_
  refine Bod.get dc_33_46 fr_33_58 (mk_23 _) rfl ?_
  refine Bod.eqI (nI fs) (by first | (simp (disch := omega) only [rI, rIe, rA, rIA, rLA, rJA, rVI, rQI, rVA, rQA, upd_at,  rAI, rLI, rJI, nI_add, pk_sub, kc_0, kc_1, kc_2, kc_3, kc_4, kc_5, reduceIte, Nat.reduceEqDiff, Nat.add_zero, rI_hold, rI_hold, rL_hold, hcs, hfs]; done) | (simp (disch := omega) only [rI, rIe, rA, rIA, rLA, rJA, rVI, rQI, rVA, rQA, upd_at,  rAI, rLI, rJI, nI_add, pk_sub, kc_0, kc_1, kc_2, kc_3, kc_4, kc_5, reduceIte, Nat.reduceEqDiff, Nat.add_zero, rI_hold, rI_hold, rL_hold, hcs, hfs]; exact congrArg nI (by omega))) ?_
  refine Bod.put dc_33_49 fr_33_61 (mk_43 _) (Nat.le_of_ble_eq_true rfl) pf_10_7 (st_4307 _ _) (mu_I _ _ _) ?_
  refine Bod.go dc_33_52 rfl ?_
  refine Bod.get dc_33_53 fr_33_9 (mk_43 _) rfl ?_
  refine Bod.go dc_33_56 rfl ?_
  refine Bod.virt (r := []) dc_33_57 kr_33_64 ⟨Or.inr rfl, ow_35, cl_3⟩ (by rw [np_35]; rfl) (by rw [np_35]; rfl) (ob_of (mk_31 _)) (Nat.le_of_ble_eq_true rfl) (c2  ) ?_
  show Bod _ _ _ _ [] _ _ _
  refine Bod.go dc_33_60 rfl ?_
  refine Bod.get dc_33_61 fr_33_15 (mk_43 _) rfl ?_
  refine Bod.get dc_33_64 fr_33_69 (mk_23 _) rfl ?_
  refine Bod.eqI (nI top) (by first | (simp (disch := omega) only [rI, rIe, rA, rIA, rLA, rJA, rVI, rQI, rVA, rQA, upd_at,  rAI, rLI, rJI, nI_add, pk_sub, kc_0, kc_1, kc_2, kc_3, kc_4, kc_5, reduceIte, Nat.reduceEqDiff, Nat.add_zero, rI_hold, rI_hold, rL_hold, hcs, hfs, htop]; done) | (simp (disch := omega) only [rI, rIe, rA, rIA, rLA, rJA, rVI, rQI, rVA, rQA, upd_at,  rAI, rLI, rJI, nI_add, pk_sub, kc_0, kc_1, kc_2, kc_3, kc_4, kc_5, reduceIte, Nat.reduceEqDiff, Nat.add_zero, rI_hold, rI_hold, rL_hold, hcs, hfs, htop]; exact congrArg nI (by omega))) ?_
  exact Bod.retI dc_33_67 rt_33
theorem cFin_1 {d : Nat} {S : cS} {st0 : Nat} {S1 : cS} {a : Nat} {f2310 : Nat} {tk : Nat} {f4306 : Nat} {f4307 : Nat} {S2 : cS} (mst0 : st0 < 2 ^ 20) (ma : a < 2 ^ 20) (c1 : Ans (d + 8) 71 [.ref 23, .int (nI 0)] S (some (.int (nI a))) S1) (hf2310 : sI S1 2310 = nI f2310) (mf2310 : f2310 < 2 ^ 20) (b1 : f2310 = 0) (htk : sI S1 3105 = nI tk) (mtk : tk < 2 ^ 20) (b2 : tk = 0) (hf4306 : sI S1 4306 = nI f4306) (mf4306 : f4306 < 2 ^ 20) (hf4307 : sI S1 4307 = nI f4307) (mf4307 : f4307 < 2 ^ 20) (c2 : Ans (d + 8) 118 [.ref 23, .int (nI st0), .int (nI f4306), .int (nI f4307)] S1 none S2) : Bod (d + 8) 122 0 [(0, .ref 43), (1, .int (nI st0))] [] S (some (.int 0)) (S2) := by
  refine Bod.go dc_122_0 rfl ?_
  refine Bod.get dc_122_1 fr_122_15 (mk_43 _) rfl ?_
  refine Bod.ic 0 (by decide) dc_122_4 ?_
  refine Bod.virt (r := []) dc_122_5 kr_122_72 ⟨Or.inr rfl, ow_71, cl_7⟩ (by rw [np_71]; rfl) (by rw [np_71]; rfl) (ob_of (mk_23 _)) (Nat.le_of_ble_eq_true rfl) (c1  ) ?_
  show Bod _ _ _ _ [_] _ _ _
  refine Bod.go dc_122_8 rfl ?_
  refine Bod.go dc_122_9 rfl ?_
  refine Bod.get dc_122_10 fr_122_15 (mk_43 _) rfl ?_
  refine Bod.get dc_122_13 fr_122_31 (mk_23 _) rfl ?_
  refine Bod.eqI (nI f2310) (by first | (simp (disch := omega) only [rI, rIe, rA, rIA, rLA, rJA, rVI, rQI, rVA, rQA, upd_at,  rAI, rLI, rJI, nI_add, pk_sub, kc_0, kc_1, kc_2, kc_3, kc_4, kc_5, reduceIte, Nat.reduceEqDiff, Nat.add_zero, rI_hold, rI_hold, rL_hold, hf2310]; done) | (simp (disch := omega) only [rI, rIe, rA, rIA, rLA, rJA, rVI, rQI, rVA, rQA, upd_at,  rAI, rLI, rJI, nI_add, pk_sub, kc_0, kc_1, kc_2, kc_3, kc_4, kc_5, reduceIte, Nat.reduceEqDiff, Nat.add_zero, rI_hold, rI_hold, rL_hold, hf2310]; exact congrArg nI (by omega))) ?_
  refine Bod.ifT dc_122_16 rfl (k1_eq_T (k_eq f2310 0 rfl rfl (by omega))) ?_
  refine Bod.go dc_122_26 rfl ?_
  refine Bod.get dc_122_27 fr_122_9 (mk_43 _) rfl ?_
  refine Bod.get dc_122_30 fr_122_79 (mk_31 _) rfl ?_
  refine Bod.eqI (nI tk) (by first | (simp (disch := omega) only [rI, rIe, rA, rIA, rLA, rJA, rVI, rQI, rVA, rQA, upd_at,  rAI, rLI, rJI, nI_add, pk_sub, kc_0, kc_1, kc_2, kc_3, kc_4, kc_5, reduceIte, Nat.reduceEqDiff, Nat.add_zero, rI_hold, rI_hold, rL_hold, hf2310, htk]; done) | (simp (disch := omega) only [rI, rIe, rA, rIA, rLA, rJA, rVI, rQI, rVA, rQA, upd_at,  rAI, rLI, rJI, nI_add, pk_sub, kc_0, kc_1, kc_2, kc_3, kc_4, kc_5, reduceIte, Nat.reduceEqDiff, Nat.add_zero, rI_hold, rI_hold, rL_hold, hf2310, htk]; exact congrArg nI (by omega))) ?_
  refine Bod.ifT dc_122_33 rfl (k1_eq_T (k_eq tk 0 rfl rfl (by omega))) ?_
  refine Bod.ic 0 (by decide) dc_122_40 ?_
  refine Bod.istn dc_122_41 (by rw [ml_122]; exact Nat.le_of_ble_eq_true rfl) ?_
  refine Bod.go dc_122_42 rfl ?_
  refine Bod.ifT dc_122_43 rfl (k1_eq_T (k_eq 0 0 rfl rfl (by omega))) ?_
  refine Bod.go dc_122_56 rfl ?_
  refine Bod.get dc_122_57 fr_122_15 (mk_43 _) rfl ?_
  refine Bod.go dc_122_60 rfl ?_
  refine Bod.go dc_122_61 rfl ?_
  refine Bod.get dc_122_62 fr_122_55 (mk_43 _) rfl ?_
  refine Bod.eqI (nI f4306) (by first | (simp (disch := omega) only [rI, rIe, rA, rIA, rLA, rJA, rVI, rQI, rVA, rQA, upd_at,  rAI, rLI, rJI, nI_add, pk_sub, kc_0, kc_1, kc_2, kc_3, kc_4, kc_5, reduceIte, Nat.reduceEqDiff, Nat.add_zero, rI_hold, rI_hold, rL_hold, hf2310, htk, hf4306]; done) | (simp (disch := omega) only [rI, rIe, rA, rIA, rLA, rJA, rVI, rQI, rVA, rQA, upd_at,  rAI, rLI, rJI, nI_add, pk_sub, kc_0, kc_1, kc_2, kc_3, kc_4, kc_5, reduceIte, Nat.reduceEqDiff, Nat.add_zero, rI_hold, rI_hold, rL_hold, hf2310, htk, hf4306]; exact congrArg nI (by omega))) ?_
  refine Bod.go dc_122_65 rfl ?_
  refine Bod.get dc_122_66 fr_122_61 (mk_43 _) rfl ?_
  refine Bod.eqI (nI f4307) (by first | (simp (disch := omega) only [rI, rIe, rA, rIA, rLA, rJA, rVI, rQI, rVA, rQA, upd_at,  rAI, rLI, rJI, nI_add, pk_sub, kc_0, kc_1, kc_2, kc_3, kc_4, kc_5, reduceIte, Nat.reduceEqDiff, Nat.add_zero, rI_hold, rI_hold, rL_hold, hf2310, htk, hf4306, hf4307]; done) | (simp (disch := omega) only [rI, rIe, rA, rIA, rLA, rJA, rVI, rQI, rVA, rQA, upd_at,  rAI, rLI, rJI, nI_add, pk_sub, kc_0, kc_1, kc_2, kc_3, kc_4, kc_5, reduceIte, Nat.reduceEqDiff, Nat.add_zero, rI_hold, rI_hold, rL_hold, hf2310, htk, hf4306, hf4307]; exact congrArg nI (by omega))) ?_
  refine Bod.virt (r := []) dc_122_69 kr_122_85 ⟨Or.inr rfl, ow_118, cl_7⟩ (by rw [np_118]; rfl) (by rw [np_118]; rfl) (ob_of (mk_23 _)) (Nat.le_of_ble_eq_true rfl) (c2  ) ?_
  show Bod _ _ _ _ [] _ _ _
  refine Bod.go dc_122_72 rfl ?_
  exact Bod.retZ dc_122_73 rt_122 (Or.inl rfl)
theorem cFin_2 {d : Nat} {S : cS} {st0 : Nat} {S1 : cS} {a : Nat} {f2310 : Nat} {tk : Nat} {S2 : cS} (mst0 : st0 < 2 ^ 20) (ma : a < 2 ^ 20) (c1 : Ans (d + 8) 71 [.ref 23, .int (nI 0)] S (some (.int (nI a))) S1) (hf2310 : sI S1 2310 = nI f2310) (mf2310 : f2310 < 2 ^ 20) (b1 : f2310 = 0) (htk : sI S1 3105 = nI tk) (mtk : tk < 2 ^ 20) (b2 : tk ≠ 0) (c2 : Ans (d + 8) 123 [.ref 32] S1 none S2) : Bod (d + 8) 122 0 [(0, .ref 43), (1, .int (nI st0))] [] S (some (.int 1)) (S2) := by
  refine Bod.go dc_122_0 rfl ?_
  refine Bod.get dc_122_1 fr_122_15 (mk_43 _) rfl ?_
  refine Bod.ic 0 (by decide) dc_122_4 ?_
  refine Bod.virt (r := []) dc_122_5 kr_122_72 ⟨Or.inr rfl, ow_71, cl_7⟩ (by rw [np_71]; rfl) (by rw [np_71]; rfl) (ob_of (mk_23 _)) (Nat.le_of_ble_eq_true rfl) (c1  ) ?_
  show Bod _ _ _ _ [_] _ _ _
  refine Bod.go dc_122_8 rfl ?_
  refine Bod.go dc_122_9 rfl ?_
  refine Bod.get dc_122_10 fr_122_15 (mk_43 _) rfl ?_
  refine Bod.get dc_122_13 fr_122_31 (mk_23 _) rfl ?_
  refine Bod.eqI (nI f2310) (by first | (simp (disch := omega) only [rI, rIe, rA, rIA, rLA, rJA, rVI, rQI, rVA, rQA, upd_at,  rAI, rLI, rJI, nI_add, pk_sub, kc_0, kc_1, kc_2, kc_3, kc_4, kc_5, reduceIte, Nat.reduceEqDiff, Nat.add_zero, rI_hold, rI_hold, rL_hold, hf2310]; done) | (simp (disch := omega) only [rI, rIe, rA, rIA, rLA, rJA, rVI, rQI, rVA, rQA, upd_at,  rAI, rLI, rJI, nI_add, pk_sub, kc_0, kc_1, kc_2, kc_3, kc_4, kc_5, reduceIte, Nat.reduceEqDiff, Nat.add_zero, rI_hold, rI_hold, rL_hold, hf2310]; exact congrArg nI (by omega))) ?_
  refine Bod.ifT dc_122_16 rfl (k1_eq_T (k_eq f2310 0 rfl rfl (by omega))) ?_
  refine Bod.go dc_122_26 rfl ?_
  refine Bod.get dc_122_27 fr_122_9 (mk_43 _) rfl ?_
  refine Bod.get dc_122_30 fr_122_79 (mk_31 _) rfl ?_
  refine Bod.eqI (nI tk) (by first | (simp (disch := omega) only [rI, rIe, rA, rIA, rLA, rJA, rVI, rQI, rVA, rQA, upd_at,  rAI, rLI, rJI, nI_add, pk_sub, kc_0, kc_1, kc_2, kc_3, kc_4, kc_5, reduceIte, Nat.reduceEqDiff, Nat.add_zero, rI_hold, rI_hold, rL_hold, hf2310, htk]; done) | (simp (disch := omega) only [rI, rIe, rA, rIA, rLA, rJA, rVI, rQI, rVA, rQA, upd_at,  rAI, rLI, rJI, nI_add, pk_sub, kc_0, kc_1, kc_2, kc_3, kc_4, kc_5, reduceIte, Nat.reduceEqDiff, Nat.add_zero, rI_hold, rI_hold, rL_hold, hf2310, htk]; exact congrArg nI (by omega))) ?_
  refine Bod.ifF dc_122_33 rfl (k1_eq_F (k_ne tk 0 rfl rfl (by omega) (by omega) (by omega))) ?_
  refine Bod.ic 1 (by decide) dc_122_36 ?_
  refine Bod.go dc_122_37 rfl ?_
  refine Bod.istn dc_122_41 (by rw [ml_122]; exact Nat.le_of_ble_eq_true rfl) ?_
  refine Bod.go dc_122_42 rfl ?_
  refine Bod.ifF dc_122_43 rfl (k1_eq_F (k_ne 1 0 rfl rfl (by omega) (by omega) (by omega))) ?_
  refine Bod.go dc_122_46 rfl ?_
  refine Bod.get dc_122_47 fr_122_19 (mk_43 _) rfl ?_
  refine Bod.virt (r := []) dc_122_50 kr_122_82 ⟨Or.inr rfl, ow_123, cl_8⟩ (by rw [np_123]; rfl) (by rw [np_123]; rfl) (ob_of (mk_32 _)) (Nat.le_of_ble_eq_true rfl) (c2  ) ?_
  show Bod _ _ _ _ [] _ _ _
  refine Bod.go dc_122_53 rfl ?_
  refine Bod.go dc_122_72 rfl ?_
  exact Bod.retZ dc_122_73 rt_122 (Or.inr rfl)
theorem cFin_3 {d : Nat} {S : cS} {st0 : Nat} {S1 : cS} {a : Nat} {f2310 : Nat} {S2 : cS} {tk : Nat} {f4306 : Nat} {f4307 : Nat} {S3 : cS} (mst0 : st0 < 2 ^ 20) (ma : a < 2 ^ 20) (c1 : Ans (d + 8) 71 [.ref 23, .int (nI 0)] S (some (.int (nI a))) S1) (hf2310 : sI S1 2310 = nI f2310) (mf2310 : f2310 < 2 ^ 20) (b1 : f2310 ≠ 0) (c2 : Ans (d + 8) 44 [.ref 31] S1 none S2) (htk : sI S2 3105 = nI tk) (mtk : tk < 2 ^ 20) (b2 : tk = 0) (hf4306 : sI S2 4306 = nI f4306) (mf4306 : f4306 < 2 ^ 20) (hf4307 : sI S2 4307 = nI f4307) (mf4307 : f4307 < 2 ^ 20) (c3 : Ans (d + 8) 118 [.ref 23, .int (nI st0), .int (nI f4306), .int (nI f4307)] S2 none S3) : Bod (d + 8) 122 0 [(0, .ref 43), (1, .int (nI st0))] [] S (some (.int 0)) (S3) := by
  refine Bod.go dc_122_0 rfl ?_
  refine Bod.get dc_122_1 fr_122_15 (mk_43 _) rfl ?_
  refine Bod.ic 0 (by decide) dc_122_4 ?_
  refine Bod.virt (r := []) dc_122_5 kr_122_72 ⟨Or.inr rfl, ow_71, cl_7⟩ (by rw [np_71]; rfl) (by rw [np_71]; rfl) (ob_of (mk_23 _)) (Nat.le_of_ble_eq_true rfl) (c1  ) ?_
  show Bod _ _ _ _ [_] _ _ _
  refine Bod.go dc_122_8 rfl ?_
  refine Bod.go dc_122_9 rfl ?_
  refine Bod.get dc_122_10 fr_122_15 (mk_43 _) rfl ?_
  refine Bod.get dc_122_13 fr_122_31 (mk_23 _) rfl ?_
  refine Bod.eqI (nI f2310) (by first | (simp (disch := omega) only [rI, rIe, rA, rIA, rLA, rJA, rVI, rQI, rVA, rQA, upd_at,  rAI, rLI, rJI, nI_add, pk_sub, kc_0, kc_1, kc_2, kc_3, kc_4, kc_5, reduceIte, Nat.reduceEqDiff, Nat.add_zero, rI_hold, rI_hold, rL_hold, hf2310]; done) | (simp (disch := omega) only [rI, rIe, rA, rIA, rLA, rJA, rVI, rQI, rVA, rQA, upd_at,  rAI, rLI, rJI, nI_add, pk_sub, kc_0, kc_1, kc_2, kc_3, kc_4, kc_5, reduceIte, Nat.reduceEqDiff, Nat.add_zero, rI_hold, rI_hold, rL_hold, hf2310]; exact congrArg nI (by omega))) ?_
  refine Bod.ifF dc_122_16 rfl (k1_eq_F (k_ne f2310 0 rfl rfl (by omega) (by omega) (by omega))) ?_
  refine Bod.go dc_122_19 rfl ?_
  refine Bod.get dc_122_20 fr_122_9 (mk_43 _) rfl ?_
  refine Bod.virt (r := []) dc_122_23 kr_122_76 ⟨Or.inr rfl, ow_44, cl_3⟩ (by rw [np_44]; rfl) (by rw [np_44]; rfl) (ob_of (mk_31 _)) (Nat.le_of_ble_eq_true rfl) (c2  ) ?_
  show Bod _ _ _ _ [] _ _ _
  refine Bod.go dc_122_26 rfl ?_
  refine Bod.get dc_122_27 fr_122_9 (mk_43 _) rfl ?_
  refine Bod.get dc_122_30 fr_122_79 (mk_31 _) rfl ?_
  refine Bod.eqI (nI tk) (by first | (simp (disch := omega) only [rI, rIe, rA, rIA, rLA, rJA, rVI, rQI, rVA, rQA, upd_at,  rAI, rLI, rJI, nI_add, pk_sub, kc_0, kc_1, kc_2, kc_3, kc_4, kc_5, reduceIte, Nat.reduceEqDiff, Nat.add_zero, rI_hold, rI_hold, rL_hold, hf2310, htk]; done) | (simp (disch := omega) only [rI, rIe, rA, rIA, rLA, rJA, rVI, rQI, rVA, rQA, upd_at,  rAI, rLI, rJI, nI_add, pk_sub, kc_0, kc_1, kc_2, kc_3, kc_4, kc_5, reduceIte, Nat.reduceEqDiff, Nat.add_zero, rI_hold, rI_hold, rL_hold, hf2310, htk]; exact congrArg nI (by omega))) ?_
  refine Bod.ifT dc_122_33 rfl (k1_eq_T (k_eq tk 0 rfl rfl (by omega))) ?_
  refine Bod.ic 0 (by decide) dc_122_40 ?_
  refine Bod.istn dc_122_41 (by rw [ml_122]; exact Nat.le_of_ble_eq_true rfl) ?_
  refine Bod.go dc_122_42 rfl ?_
  refine Bod.ifT dc_122_43 rfl (k1_eq_T (k_eq 0 0 rfl rfl (by omega))) ?_
  refine Bod.go dc_122_56 rfl ?_
  refine Bod.get dc_122_57 fr_122_15 (mk_43 _) rfl ?_
  refine Bod.go dc_122_60 rfl ?_
  refine Bod.go dc_122_61 rfl ?_
  refine Bod.get dc_122_62 fr_122_55 (mk_43 _) rfl ?_
  refine Bod.eqI (nI f4306) (by first | (simp (disch := omega) only [rI, rIe, rA, rIA, rLA, rJA, rVI, rQI, rVA, rQA, upd_at,  rAI, rLI, rJI, nI_add, pk_sub, kc_0, kc_1, kc_2, kc_3, kc_4, kc_5, reduceIte, Nat.reduceEqDiff, Nat.add_zero, rI_hold, rI_hold, rL_hold, hf2310, htk, hf4306]; done) | (simp (disch := omega) only [rI, rIe, rA, rIA, rLA, rJA, rVI, rQI, rVA, rQA, upd_at,  rAI, rLI, rJI, nI_add, pk_sub, kc_0, kc_1, kc_2, kc_3, kc_4, kc_5, reduceIte, Nat.reduceEqDiff, Nat.add_zero, rI_hold, rI_hold, rL_hold, hf2310, htk, hf4306]; exact congrArg nI (by omega))) ?_
  refine Bod.go dc_122_65 rfl ?_
  refine Bod.get dc_122_66 fr_122_61 (mk_43 _) rfl ?_
  refine Bod.eqI (nI f4307) (by first | (simp (disch := omega) only [rI, rIe, rA, rIA, rLA, rJA, rVI, rQI, rVA, rQA, upd_at,  rAI, rLI, rJI, nI_add, pk_sub, kc_0, kc_1, kc_2, kc_3, kc_4, kc_5, reduceIte, Nat.reduceEqDiff, Nat.add_zero, rI_hold, rI_hold, rL_hold, hf2310, htk, hf4306, hf4307]; done) | (simp (disch := omega) only [rI, rIe, rA, rIA, rLA, rJA, rVI, rQI, rVA, rQA, upd_at,  rAI, rLI, rJI, nI_add, pk_sub, kc_0, kc_1, kc_2, kc_3, kc_4, kc_5, reduceIte, Nat.reduceEqDiff, Nat.add_zero, rI_hold, rI_hold, rL_hold, hf2310, htk, hf4306, hf4307]; exact congrArg nI (by omega))) ?_
  refine Bod.virt (r := []) dc_122_69 kr_122_85 ⟨Or.inr rfl, ow_118, cl_7⟩ (by rw [np_118]; rfl) (by rw [np_118]; rfl) (ob_of (mk_23 _)) (Nat.le_of_ble_eq_true rfl) (c3  ) ?_
  show Bod _ _ _ _ [] _ _ _
  refine Bod.go dc_122_72 rfl ?_
  exact Bod.retZ dc_122_73 rt_122 (Or.inl rfl)
theorem cFin_4 {d : Nat} {S : cS} {st0 : Nat} {S1 : cS} {a : Nat} {f2310 : Nat} {S2 : cS} {tk : Nat} {S3 : cS} (mst0 : st0 < 2 ^ 20) (ma : a < 2 ^ 20) (c1 : Ans (d + 8) 71 [.ref 23, .int (nI 0)] S (some (.int (nI a))) S1) (hf2310 : sI S1 2310 = nI f2310) (mf2310 : f2310 < 2 ^ 20) (b1 : f2310 ≠ 0) (c2 : Ans (d + 8) 44 [.ref 31] S1 none S2) (htk : sI S2 3105 = nI tk) (mtk : tk < 2 ^ 20) (b2 : tk ≠ 0) (c3 : Ans (d + 8) 123 [.ref 32] S2 none S3) : Bod (d + 8) 122 0 [(0, .ref 43), (1, .int (nI st0))] [] S (some (.int 1)) (S3) := by
  refine Bod.go dc_122_0 rfl ?_
  refine Bod.get dc_122_1 fr_122_15 (mk_43 _) rfl ?_
  refine Bod.ic 0 (by decide) dc_122_4 ?_
  refine Bod.virt (r := []) dc_122_5 kr_122_72 ⟨Or.inr rfl, ow_71, cl_7⟩ (by rw [np_71]; rfl) (by rw [np_71]; rfl) (ob_of (mk_23 _)) (Nat.le_of_ble_eq_true rfl) (c1  ) ?_
  show Bod _ _ _ _ [_] _ _ _
  refine Bod.go dc_122_8 rfl ?_
  refine Bod.go dc_122_9 rfl ?_
  refine Bod.get dc_122_10 fr_122_15 (mk_43 _) rfl ?_
  refine Bod.get dc_122_13 fr_122_31 (mk_23 _) rfl ?_
  refine Bod.eqI (nI f2310) (by first | (simp (disch := omega) only [rI, rIe, rA, rIA, rLA, rJA, rVI, rQI, rVA, rQA, upd_at,  rAI, rLI, rJI, nI_add, pk_sub, kc_0, kc_1, kc_2, kc_3, kc_4, kc_5, reduceIte, Nat.reduceEqDiff, Nat.add_zero, rI_hold, rI_hold, rL_hold, hf2310]; done) | (simp (disch := omega) only [rI, rIe, rA, rIA, rLA, rJA, rVI, rQI, rVA, rQA, upd_at,  rAI, rLI, rJI, nI_add, pk_sub, kc_0, kc_1, kc_2, kc_3, kc_4, kc_5, reduceIte, Nat.reduceEqDiff, Nat.add_zero, rI_hold, rI_hold, rL_hold, hf2310]; exact congrArg nI (by omega))) ?_
  refine Bod.ifF dc_122_16 rfl (k1_eq_F (k_ne f2310 0 rfl rfl (by omega) (by omega) (by omega))) ?_
  refine Bod.go dc_122_19 rfl ?_
  refine Bod.get dc_122_20 fr_122_9 (mk_43 _) rfl ?_
  refine Bod.virt (r := []) dc_122_23 kr_122_76 ⟨Or.inr rfl, ow_44, cl_3⟩ (by rw [np_44]; rfl) (by rw [np_44]; rfl) (ob_of (mk_31 _)) (Nat.le_of_ble_eq_true rfl) (c2  ) ?_
  show Bod _ _ _ _ [] _ _ _
  refine Bod.go dc_122_26 rfl ?_
  refine Bod.get dc_122_27 fr_122_9 (mk_43 _) rfl ?_
  refine Bod.get dc_122_30 fr_122_79 (mk_31 _) rfl ?_
  refine Bod.eqI (nI tk) (by first | (simp (disch := omega) only [rI, rIe, rA, rIA, rLA, rJA, rVI, rQI, rVA, rQA, upd_at,  rAI, rLI, rJI, nI_add, pk_sub, kc_0, kc_1, kc_2, kc_3, kc_4, kc_5, reduceIte, Nat.reduceEqDiff, Nat.add_zero, rI_hold, rI_hold, rL_hold, hf2310, htk]; done) | (simp (disch := omega) only [rI, rIe, rA, rIA, rLA, rJA, rVI, rQI, rVA, rQA, upd_at,  rAI, rLI, rJI, nI_add, pk_sub, kc_0, kc_1, kc_2, kc_3, kc_4, kc_5, reduceIte, Nat.reduceEqDiff, Nat.add_zero, rI_hold, rI_hold, rL_hold, hf2310, htk]; exact congrArg nI (by omega))) ?_
  refine Bod.ifF dc_122_33 rfl (k1_eq_F (k_ne tk 0 rfl rfl (by omega) (by omega) (by omega))) ?_
  refine Bod.ic 1 (by decide) dc_122_36 ?_
  refine Bod.go dc_122_37 rfl ?_
  refine Bod.istn dc_122_41 (by rw [ml_122]; exact Nat.le_of_ble_eq_true rfl) ?_
  refine Bod.go dc_122_42 rfl ?_
  refine Bod.ifF dc_122_43 rfl (k1_eq_F (k_ne 1 0 rfl rfl (by omega) (by omega) (by omega))) ?_
  refine Bod.go dc_122_46 rfl ?_
  refine Bod.get dc_122_47 fr_122_19 (mk_43 _) rfl ?_
  refine Bod.virt (r := []) dc_122_50 kr_122_82 ⟨Or.inr rfl, ow_123, cl_8⟩ (by rw [np_123]; rfl) (by rw [np_123]; rfl) (ob_of (mk_32 _)) (Nat.le_of_ble_eq_true rfl) (c3  ) ?_
  show Bod _ _ _ _ [] _ _ _
  refine Bod.go dc_122_53 rfl ?_
  refine Bod.go dc_122_72 rfl ?_
  exact Bod.retZ dc_122_73 rt_122 (Or.inr rfl)
theorem cFc_1 {d : Nat} {S : cS} {x : Nat} (mx : x < 2 ^ 20) : Bod (d + 8) 104 0 [(0, .ref 32), (1, .int (nI x))] [] S none (wI 3211 (nI x) S) := by
  refine Bod.go dc_104_0 rfl ?_
  refine Bod.go dc_104_1 rfl ?_
  refine Bod.put dc_104_2 fr_104_44 (mk_32 _) (Nat.le_of_ble_eq_true rfl) pf_8_11 (st_3211 _ _) (mu_I _ _ _) ?_
  exact Bod.retV dc_104_5 rt_104
theorem cApr_1 {d : Nat} {S : cS} {x : Nat} {S1 : cS} {e28 : Nat} (mx : x < 2 ^ 20) (hx : x < 900) (c1 : Ans (d + 8) 103 [.ref 23, .int (nI x)] S (some (.int (nI 1))) S1) (he28 : sA S1 28 x = nI e28) (me28 : e28 < 2 ^ 20) : Bod (d + 8) 102 0 [(0, .ref 23), (1, .int (nI x))] [] S none (wA 28 x (nI (e28 + 1)) S1) := by
  refine Bod.go dc_102_0 rfl ?_
  refine Bod.go dc_102_1 rfl ?_
  refine Bod.virt (r := []) dc_102_2 kr_102_62 ⟨Or.inl rfl, ow_103, cl_7⟩ (by rw [np_103]; rfl) (by rw [np_103]; rfl) (ob_of (mk_23 _)) (Nat.le_of_ble_eq_true rfl) (c1  ) ?_
  show Bod _ _ _ _ [_] _ _ _
  refine Bod.ifF dc_102_5 rfl (k1_eq_F (k_ne 1 0 rfl rfl (by omega) (by omega) (by omega))) ?_
  refine Bod.go dc_102_8 rfl ?_
  refine Bod.get dc_102_9 fr_102_26 (mk_23 _) rfl ?_
  refine Bod.go dc_102_12 rfl ?_
  refine Bod.go dc_102_13 rfl ?_
  refine Bod.ialdN x rfl (by omega) (by omega) dc_102_14 (mk_28 _) ?_
  refine Bod.eqI (nI e28) (by first | (simp (disch := omega) only [rI, rIe, rA, rIA, rLA, rJA, rVI, rQI, rVA, rQA, upd_at,  rAI, rLI, rJI, nI_add, pk_sub, kc_0, kc_1, kc_2, kc_3, kc_4, kc_5, reduceIte, Nat.reduceEqDiff, Nat.add_zero, rI_hold, rI_hold, rL_hold, he28]; done) | (simp (disch := omega) only [rI, rIe, rA, rIA, rLA, rJA, rVI, rQI, rVA, rQA, upd_at,  rAI, rLI, rJI, nI_add, pk_sub, kc_0, kc_1, kc_2, kc_3, kc_4, kc_5, reduceIte, Nat.reduceEqDiff, Nat.add_zero, rI_hold, rI_hold, rL_hold, he28]; exact congrArg nI (by omega))) ?_
  refine Bod.ic 1 (by decide) dc_102_15 ?_
  refine Bod.addN (e28 + 1) (by omega) dc_102_16 ?_
  refine Bod.iastN x rfl (by omega) (by omega) dc_102_17 (mk_28 _) (sa_28 _ _ _) (mu_A _ _ _ _) ?_
  exact Bod.retV dc_102_18 rt_102
theorem cApr_2 {d : Nat} {S : cS} {x : Nat} {S1 : cS} (mx : x < 2 ^ 20) (hx : x < 900) (c1 : Ans (d + 8) 103 [.ref 23, .int (nI x)] S (some (.int (nI 0))) S1) : Bod (d + 8) 102 0 [(0, .ref 23), (1, .int (nI x))] [] S none (S1) := by
  refine Bod.go dc_102_0 rfl ?_
  refine Bod.go dc_102_1 rfl ?_
  refine Bod.virt (r := []) dc_102_2 kr_102_62 ⟨Or.inl rfl, ow_103, cl_7⟩ (by rw [np_103]; rfl) (by rw [np_103]; rfl) (ob_of (mk_23 _)) (Nat.le_of_ble_eq_true rfl) (c1  ) ?_
  show Bod _ _ _ _ [_] _ _ _
  refine Bod.ifT dc_102_5 rfl (k1_eq_T (k_eq 0 0 rfl rfl (by omega))) ?_
  exact Bod.retV dc_102_18 rt_102
theorem cInF_1 {d : Nat} {S : cS} {cur : Nat} (hcur : sI S 3211 = nI cur) (mcur : cur < 2 ^ 20) (b1 : cur = 0) : Bod (d + 8) 69 0 [(0, .ref 32)] [] S (some (.int 0)) (S) := by
  refine Bod.go dc_69_0 rfl ?_
  refine Bod.get dc_69_1 fr_69_44 (mk_32 _) rfl ?_
  refine Bod.eqI (nI cur) (by first | assumption | rfl | exact congrArg nI (by omega) | (simp (disch := omega) only [rI, rIe, rA, rIA, rLA, rJA, rVI, rQI, rVA, rQA, upd_at,  rAI, rLI, rJI, nI_add, pk_sub, kc_0, kc_1, kc_2, kc_3, kc_4, kc_5, reduceIte, Nat.reduceEqDiff, Nat.add_zero, rI_hold, rI_hold, rL_hold, hcur]; done)) ?_
  refine Bod.ifT dc_69_4 rfl (k1_eq_T (k_eq cur 0 rfl rfl (by omega))) ?_
  refine Bod.ic 0 (by decide) dc_69_11 ?_
  exact Bod.retZ dc_69_12 rt_69 (Or.inl rfl)
theorem cInF_2 {d : Nat} {S : cS} {cur : Nat} (hcur : sI S 3211 = nI cur) (mcur : cur < 2 ^ 20) (b1 : cur ≠ 0) : Bod (d + 8) 69 0 [(0, .ref 32)] [] S (some (.int 1)) (S) := by
  refine Bod.go dc_69_0 rfl ?_
  refine Bod.get dc_69_1 fr_69_44 (mk_32 _) rfl ?_
  refine Bod.eqI (nI cur) (by first | assumption | rfl | exact congrArg nI (by omega) | (simp (disch := omega) only [rI, rIe, rA, rIA, rLA, rJA, rVI, rQI, rVA, rQA, upd_at,  rAI, rLI, rJI, nI_add, pk_sub, kc_0, kc_1, kc_2, kc_3, kc_4, kc_5, reduceIte, Nat.reduceEqDiff, Nat.add_zero, rI_hold, rI_hold, rL_hold, hcur]; done)) ?_
  refine Bod.ifF dc_69_4 rfl (k1_eq_F (k_ne cur 0 rfl rfl (by omega) (by omega) (by omega))) ?_
  refine Bod.ic 1 (by decide) dc_69_7 ?_
  refine Bod.go dc_69_8 rfl ?_
  exact Bod.retZ dc_69_12 rt_69 (Or.inr rfl)
theorem cSc0_1 {d : Nat} {S : cS}   : Bod (d + 8) 34 0 [(0, .ref 32)] [] S none (wI 3214 (nI 0) (wI 3213 (nI 0) (wI 3212 (nI 1) (wI 3211 (nI 0) S)))) := by
  refine Bod.go dc_34_0 rfl ?_
  refine Bod.ic 0 (by decide) dc_34_1 ?_
  refine Bod.put dc_34_2 fr_34_44 (mk_32 _) (Nat.le_of_ble_eq_true rfl) pf_8_11 (st_3211 _ _) (mu_I _ _ _) ?_
  refine Bod.go dc_34_5 rfl ?_
  refine Bod.ic 1 (by decide) dc_34_6 ?_
  refine Bod.put dc_34_7 fr_34_48 (mk_32 _) (Nat.le_of_ble_eq_true rfl) pf_8_12 (st_3212 _ _) (mu_I _ _ _) ?_
  refine Bod.go dc_34_10 rfl ?_
  refine Bod.ic 0 (by decide) dc_34_11 ?_
  refine Bod.put dc_34_12 fr_34_51 (mk_32 _) (Nat.le_of_ble_eq_true rfl) pf_8_13 (st_3213 _ _) (mu_I _ _ _) ?_
  refine Bod.go dc_34_15 rfl ?_
  refine Bod.ic 0 (by decide) dc_34_16 ?_
  refine Bod.put dc_34_17 fr_34_54 (mk_32 _) (Nat.le_of_ble_eq_true rfl) pf_8_14 (st_3214 _ _) (mu_I _ _ _) ?_
  exact Bod.retV dc_34_20 rt_34
