/-! WAYS of the class through EXPR -/
theorem dc_57_0 : decode (sm_cc 57) 0 = .ok (.aload_n 0, 1) := by decide +kernel
theorem dc_57_1 : decode (sm_cc 57) 1 = .ok (.iload_n 1, 1) := by decide +kernel
theorem dc_57_2 : decode (sm_cc 57) 2 = .ok (.invokevirtual 23, 3) := by decide +kernel
theorem ow_58 : 1 = sm_ow 58 := by decide +kernel
theorem cl_1 : 1 < mt_cl.length := by decide +kernel
theorem kr_57_23 : sm_at mt_k (sm_ow 57) 23 = some (23, 0, 58, 0, 1051) := by decide +kernel
theorem np_58 : sm_np 58 = 1 := by decide +kernel
theorem dc_57_5 : decode (sm_cc 57) 5 = .ok (.iconst 0, 1) := by decide +kernel
theorem dc_57_6 : decode (sm_cc 57) 6 = .ok (.istore_n 2, 1) := by decide +kernel
theorem ml_57 : sm_ml 57 = 4 := by decide +kernel
theorem dc_57_7 : decode (sm_cc 57) 7 = .ok (.iload_n 2, 1) := by decide +kernel
theorem dc_57_8 : decode (sm_cc 57) 8 = .ok (.sipush (3000), 3) := by decide +kernel
theorem dc_57_11 : decode (sm_cc 57) 11 = .ok (.if_icmp .ge (68), 3) := by decide +kernel
theorem dc_57_14 : decode (sm_cc 57) 14 = .ok (.aload_n 0, 1) := by decide +kernel
theorem dc_57_15 : decode (sm_cc 57) 15 = .ok (.getfield 9, 3) := by decide +kernel
theorem fr_57_9 : sm_at mt_f (sm_ow 57) 9 = some (9, 1, 0, 0, 704) := by decide +kernel
theorem dc_57_18 : decode (sm_cc 57) 18 = .ok (.getfield 27, 3) := by decide +kernel
theorem fr_57_27 : sm_at mt_f (sm_ow 57) 27 = some (27, 3, 5, 1, 596) := by decide +kernel
theorem dc_57_21 : decode (sm_cc 57) 21 = .ok (.bipush (58), 2) := by decide +kernel
theorem dc_57_23 : decode (sm_cc 57) 23 = .ok (.if_icmp .ne (56), 3) := by decide +kernel
theorem dc_57_79 : decode (sm_cc 57) 79 = .ok (.return_, 1) := by decide +kernel
theorem rt_57 : sm_rt 57 = none := by decide +kernel
theorem dc_57_26 : decode (sm_cc 57) 26 = .ok (.aload_n 0, 1) := by decide +kernel
theorem dc_57_27 : decode (sm_cc 57) 27 = .ok (.getfield 9, 3) := by decide +kernel
theorem dc_57_30 : decode (sm_cc 57) 30 = .ok (.bipush (58), 2) := by decide +kernel
theorem dc_57_32 : decode (sm_cc 57) 32 = .ok (.invokevirtual 33, 3) := by decide +kernel
theorem ow_75 : 3 = sm_ow 75 := by decide +kernel
theorem kr_57_33 : sm_at mt_k (sm_ow 57) 33 = some (33, 1, 75, 1, 1124) := by decide +kernel
theorem np_75 : sm_np 75 = 1 := by decide +kernel
theorem dc_57_35 : decode (sm_cc 57) 35 = .ok (.aload_n 0, 1) := by decide +kernel
theorem dc_57_36 : decode (sm_cc 57) 36 = .ok (.getfield 15, 3) := by decide +kernel
theorem fr_57_15 : sm_at mt_f (sm_ow 57) 15 = some (15, 1, 1, 0, 705) := by decide +kernel
theorem dc_57_39 : decode (sm_cc 57) 39 = .ok (.bipush (7), 2) := by decide +kernel
theorem dc_57_41 : decode (sm_cc 57) 41 = .ok (.iconst 0, 1) := by decide +kernel
theorem dc_57_42 : decode (sm_cc 57) 42 = .ok (.invokevirtual 38, 3) := by decide +kernel
theorem kr_57_38 : sm_at mt_k (sm_ow 57) 38 = some (38, 1, 54, 1, 1136) := by decide +kernel
theorem dc_57_45 : decode (sm_cc 57) 45 = .ok (.istore_n 3, 1) := by decide +kernel
theorem dc_57_46 : decode (sm_cc 57) 46 = .ok (.aload_n 0, 1) := by decide +kernel
theorem dc_57_47 : decode (sm_cc 57) 47 = .ok (.iload_n 1, 1) := by decide +kernel
theorem dc_57_48 : decode (sm_cc 57) 48 = .ok (.invokevirtual 23, 3) := by decide +kernel
theorem dc_57_51 : decode (sm_cc 57) 51 = .ok (.aload_n 0, 1) := by decide +kernel
theorem dc_57_52 : decode (sm_cc 57) 52 = .ok (.getfield 15, 3) := by decide +kernel
theorem dc_57_55 : decode (sm_cc 57) 55 = .ok (.iload_n 3, 1) := by decide +kernel
theorem dc_57_56 : decode (sm_cc 57) 56 = .ok (.iconst 1, 1) := by decide +kernel
theorem dc_57_57 : decode (sm_cc 57) 57 = .ok (.iadd, 1) := by decide +kernel
theorem dc_57_58 : decode (sm_cc 57) 58 = .ok (.aload_n 0, 1) := by decide +kernel
theorem dc_57_59 : decode (sm_cc 57) 59 = .ok (.getfield 15, 3) := by decide +kernel
theorem dc_57_62 : decode (sm_cc 57) 62 = .ok (.getfield 42, 3) := by decide +kernel
theorem fr_57_42 : sm_at mt_f (sm_ow 57) 42 = some (42, 7, 7, 1, 552) := by decide +kernel
theorem dc_57_65 : decode (sm_cc 57) 65 = .ok (.invokevirtual 45, 3) := by decide +kernel
theorem ow_83 : 7 = sm_ow 83 := by decide +kernel
theorem kr_57_45 : sm_at mt_k (sm_ow 57) 45 = some (45, 1, 83, 1, 1155) := by decide +kernel
theorem np_83 : sm_np 83 = 2 := by decide +kernel
theorem dc_57_68 : decode (sm_cc 57) 68 = .ok (.aload_n 0, 1) := by decide +kernel
theorem dc_57_69 : decode (sm_cc 57) 69 = .ok (.iconst 0, 1) := by decide +kernel
theorem dc_57_70 : decode (sm_cc 57) 70 = .ok (.putfield 49, 3) := by decide +kernel
theorem fr_57_49 : sm_at mt_f (sm_ow 57) 49 = some (49, 1, 3, 0, 707) := by decide +kernel
theorem dc_57_73 : decode (sm_cc 57) 73 = .ok (.iinc 2 (1), 3) := by decide +kernel
theorem dc_57_76 : decode (sm_cc 57) 76 = .ok (.goto (-69), 3) := by decide +kernel
theorem dc_58_0 : decode (sm_cc 58) 0 = .ok (.aload_n 0, 1) := by decide +kernel
theorem dc_58_1 : decode (sm_cc 58) 1 = .ok (.iload_n 1, 1) := by decide +kernel
theorem dc_58_2 : decode (sm_cc 58) 2 = .ok (.invokevirtual 52, 3) := by decide +kernel
theorem ow_59 : 1 = sm_ow 59 := by decide +kernel
theorem kr_58_52 : sm_at mt_k (sm_ow 58) 52 = some (52, 0, 59, 0, 1055) := by decide +kernel
theorem np_59 : sm_np 59 = 1 := by decide +kernel
theorem dc_58_5 : decode (sm_cc 58) 5 = .ok (.iconst 0, 1) := by decide +kernel
theorem dc_58_6 : decode (sm_cc 58) 6 = .ok (.istore_n 2, 1) := by decide +kernel
theorem ml_58 : sm_ml 58 = 4 := by decide +kernel
theorem dc_58_7 : decode (sm_cc 58) 7 = .ok (.iload_n 2, 1) := by decide +kernel
theorem dc_58_8 : decode (sm_cc 58) 8 = .ok (.sipush (3000), 3) := by decide +kernel
theorem dc_58_11 : decode (sm_cc 58) 11 = .ok (.if_icmp .ge (68), 3) := by decide +kernel
theorem dc_58_14 : decode (sm_cc 58) 14 = .ok (.aload_n 0, 1) := by decide +kernel
theorem dc_58_15 : decode (sm_cc 58) 15 = .ok (.getfield 9, 3) := by decide +kernel
theorem fr_58_9 : sm_at mt_f (sm_ow 58) 9 = some (9, 1, 0, 0, 704) := by decide +kernel
theorem dc_58_18 : decode (sm_cc 58) 18 = .ok (.getfield 27, 3) := by decide +kernel
theorem fr_58_27 : sm_at mt_f (sm_ow 58) 27 = some (27, 3, 5, 1, 596) := by decide +kernel
theorem dc_58_21 : decode (sm_cc 58) 21 = .ok (.bipush (57), 2) := by decide +kernel
theorem dc_58_23 : decode (sm_cc 58) 23 = .ok (.if_icmp .ne (56), 3) := by decide +kernel
theorem dc_58_79 : decode (sm_cc 58) 79 = .ok (.return_, 1) := by decide +kernel
theorem rt_58 : sm_rt 58 = none := by decide +kernel
theorem dc_58_26 : decode (sm_cc 58) 26 = .ok (.aload_n 0, 1) := by decide +kernel
theorem dc_58_27 : decode (sm_cc 58) 27 = .ok (.getfield 9, 3) := by decide +kernel
theorem dc_58_30 : decode (sm_cc 58) 30 = .ok (.bipush (57), 2) := by decide +kernel
theorem dc_58_32 : decode (sm_cc 58) 32 = .ok (.invokevirtual 33, 3) := by decide +kernel
theorem kr_58_33 : sm_at mt_k (sm_ow 58) 33 = some (33, 1, 75, 1, 1124) := by decide +kernel
theorem dc_58_35 : decode (sm_cc 58) 35 = .ok (.aload_n 0, 1) := by decide +kernel
theorem dc_58_36 : decode (sm_cc 58) 36 = .ok (.getfield 15, 3) := by decide +kernel
theorem fr_58_15 : sm_at mt_f (sm_ow 58) 15 = some (15, 1, 1, 0, 705) := by decide +kernel
theorem dc_58_39 : decode (sm_cc 58) 39 = .ok (.bipush (6), 2) := by decide +kernel
theorem dc_58_41 : decode (sm_cc 58) 41 = .ok (.iconst 0, 1) := by decide +kernel
theorem dc_58_42 : decode (sm_cc 58) 42 = .ok (.invokevirtual 38, 3) := by decide +kernel
theorem kr_58_38 : sm_at mt_k (sm_ow 58) 38 = some (38, 1, 54, 1, 1136) := by decide +kernel
theorem dc_58_45 : decode (sm_cc 58) 45 = .ok (.istore_n 3, 1) := by decide +kernel
theorem dc_58_46 : decode (sm_cc 58) 46 = .ok (.aload_n 0, 1) := by decide +kernel
theorem dc_58_47 : decode (sm_cc 58) 47 = .ok (.iload_n 1, 1) := by decide +kernel
theorem dc_58_48 : decode (sm_cc 58) 48 = .ok (.invokevirtual 52, 3) := by decide +kernel
theorem dc_58_51 : decode (sm_cc 58) 51 = .ok (.aload_n 0, 1) := by decide +kernel
theorem dc_58_52 : decode (sm_cc 58) 52 = .ok (.getfield 15, 3) := by decide +kernel
theorem dc_58_55 : decode (sm_cc 58) 55 = .ok (.iload_n 3, 1) := by decide +kernel
theorem dc_58_56 : decode (sm_cc 58) 56 = .ok (.iconst 1, 1) := by decide +kernel
theorem dc_58_57 : decode (sm_cc 58) 57 = .ok (.iadd, 1) := by decide +kernel
theorem dc_58_58 : decode (sm_cc 58) 58 = .ok (.aload_n 0, 1) := by decide +kernel
theorem dc_58_59 : decode (sm_cc 58) 59 = .ok (.getfield 15, 3) := by decide +kernel
theorem dc_58_62 : decode (sm_cc 58) 62 = .ok (.getfield 42, 3) := by decide +kernel
theorem fr_58_42 : sm_at mt_f (sm_ow 58) 42 = some (42, 7, 7, 1, 552) := by decide +kernel
theorem dc_58_65 : decode (sm_cc 58) 65 = .ok (.invokevirtual 45, 3) := by decide +kernel
theorem kr_58_45 : sm_at mt_k (sm_ow 58) 45 = some (45, 1, 83, 1, 1155) := by decide +kernel
theorem dc_58_68 : decode (sm_cc 58) 68 = .ok (.aload_n 0, 1) := by decide +kernel
theorem dc_58_69 : decode (sm_cc 58) 69 = .ok (.iconst 0, 1) := by decide +kernel
theorem dc_58_70 : decode (sm_cc 58) 70 = .ok (.putfield 49, 3) := by decide +kernel
theorem fr_58_49 : sm_at mt_f (sm_ow 58) 49 = some (49, 1, 3, 0, 707) := by decide +kernel
theorem dc_58_73 : decode (sm_cc 58) 73 = .ok (.iinc 2 (1), 3) := by decide +kernel
theorem dc_58_76 : decode (sm_cc 58) 76 = .ok (.goto (-69), 3) := by decide +kernel
theorem dc_81_0 : decode (sm_cc 81) 0 = .ok (.iload_n 0, 1) := by decide +kernel
theorem dc_81_1 : decode (sm_cc 81) 1 = .ok (.lookupswitch (44) #[(17, 35), (18, 41), (22, 38)], 35) := by decide +kernel
theorem dc_81_36 : decode (sm_cc 81) 36 = .ok (.bipush (29), 2) := by decide +kernel
theorem dc_81_38 : decode (sm_cc 81) 38 = .ok (.ireturn, 1) := by decide +kernel
theorem rt_81 : sm_rt 81 = some .int := by decide +kernel
theorem ml_81 : sm_ml 81 = 1 := by decide +kernel
theorem dc_81_42 : decode (sm_cc 81) 42 = .ok (.bipush (31), 2) := by decide +kernel
theorem dc_81_44 : decode (sm_cc 81) 44 = .ok (.ireturn, 1) := by decide +kernel
theorem dc_81_39 : decode (sm_cc 81) 39 = .ok (.bipush (30), 2) := by decide +kernel
theorem dc_81_41 : decode (sm_cc 81) 41 = .ok (.ireturn, 1) := by decide +kernel
theorem dc_81_45 : decode (sm_cc 81) 45 = .ok (.iconst 0, 1) := by decide +kernel
theorem dc_81_46 : decode (sm_cc 81) 46 = .ok (.ireturn, 1) := by decide +kernel
theorem dc_82_0 : decode (sm_cc 82) 0 = .ok (.iload_n 0, 1) := by decide +kernel
theorem dc_82_1 : decode (sm_cc 82) 1 = .ok (.lookupswitch (99) #[(20, 84), (21, 90), (26, 75), (27, 81), (28, 87), (29, 93), (45, 96), (60, 78)], 75) := by decide +kernel
theorem dc_82_85 : decode (sm_cc 82) 85 = .ok (.bipush (34), 2) := by decide +kernel
theorem dc_82_87 : decode (sm_cc 82) 87 = .ok (.ireturn, 1) := by decide +kernel
theorem rt_82 : sm_rt 82 = some .int := by decide +kernel
theorem ml_82 : sm_ml 82 = 1 := by decide +kernel
theorem dc_82_91 : decode (sm_cc 82) 91 = .ok (.bipush (36), 2) := by decide +kernel
theorem dc_82_93 : decode (sm_cc 82) 93 = .ok (.ireturn, 1) := by decide +kernel
theorem dc_82_76 : decode (sm_cc 82) 76 = .ok (.bipush (32), 2) := by decide +kernel
theorem dc_82_78 : decode (sm_cc 82) 78 = .ok (.ireturn, 1) := by decide +kernel
theorem dc_82_82 : decode (sm_cc 82) 82 = .ok (.bipush (33), 2) := by decide +kernel
theorem dc_82_84 : decode (sm_cc 82) 84 = .ok (.ireturn, 1) := by decide +kernel
theorem dc_82_88 : decode (sm_cc 82) 88 = .ok (.bipush (35), 2) := by decide +kernel
theorem dc_82_90 : decode (sm_cc 82) 90 = .ok (.ireturn, 1) := by decide +kernel
theorem dc_82_94 : decode (sm_cc 82) 94 = .ok (.bipush (37), 2) := by decide +kernel
theorem dc_82_96 : decode (sm_cc 82) 96 = .ok (.ireturn, 1) := by decide +kernel
theorem dc_82_97 : decode (sm_cc 82) 97 = .ok (.bipush (38), 2) := by decide +kernel
theorem dc_82_99 : decode (sm_cc 82) 99 = .ok (.ireturn, 1) := by decide +kernel
theorem dc_82_79 : decode (sm_cc 82) 79 = .ok (.bipush (32), 2) := by decide +kernel
theorem dc_82_81 : decode (sm_cc 82) 81 = .ok (.ireturn, 1) := by decide +kernel
theorem dc_82_100 : decode (sm_cc 82) 100 = .ok (.iconst 0, 1) := by decide +kernel
theorem dc_82_101 : decode (sm_cc 82) 101 = .ok (.ireturn, 1) := by decide +kernel
theorem dc_74_0 : decode (sm_cc 74) 0 = .ok (.iload_n 1, 1) := by decide +kernel
theorem dc_74_1 : decode (sm_cc 74) 1 = .ok (.bipush (12), 2) := by decide +kernel
theorem dc_74_3 : decode (sm_cc 74) 3 = .ok (.if_icmp .lt (10), 3) := by decide +kernel
theorem dc_74_13 : decode (sm_cc 74) 13 = .ok (.aload_n 0, 1) := by decide +kernel
theorem dc_74_14 : decode (sm_cc 74) 14 = .ok (.getfield 9, 3) := by decide +kernel
theorem fr_74_9 : sm_at mt_f (sm_ow 74) 9 = some (9, 1, 0, 0, 704) := by decide +kernel
theorem dc_74_17 : decode (sm_cc 74) 17 = .ok (.invokevirtual 68, 3) := by decide +kernel
theorem kr_74_68 : sm_at mt_k (sm_ow 74) 68 = some (68, 1, 40, 1, 1087) := by decide +kernel
theorem dc_74_20 : decode (sm_cc 74) 20 = .ok (.aload_n 0, 1) := by decide +kernel
theorem dc_74_21 : decode (sm_cc 74) 21 = .ok (.getfield 9, 3) := by decide +kernel
theorem dc_74_24 : decode (sm_cc 74) 24 = .ok (.getfield 27, 3) := by decide +kernel
theorem fr_74_27 : sm_at mt_f (sm_ow 74) 27 = some (27, 3, 5, 1, 596) := by decide +kernel
theorem dc_74_27 : decode (sm_cc 74) 27 = .ok (.ifCond .eq (7), 3) := by decide +kernel
theorem dc_74_30 : decode (sm_cc 74) 30 = .ok (.iconst 1, 1) := by decide +kernel
theorem dc_74_31 : decode (sm_cc 74) 31 = .ok (.goto (4), 3) := by decide +kernel
theorem dc_74_35 : decode (sm_cc 74) 35 = .ok (.ireturn, 1) := by decide +kernel
theorem rt_74 : sm_rt 74 = some .boolean := by decide +kernel
theorem dc_74_34 : decode (sm_cc 74) 34 = .ok (.iconst 0, 1) := by decide +kernel
theorem dc_74_6 : decode (sm_cc 74) 6 = .ok (.aload_n 0, 1) := by decide +kernel
theorem dc_74_7 : decode (sm_cc 74) 7 = .ok (.getfield 9, 3) := by decide +kernel
theorem dc_74_10 : decode (sm_cc 74) 10 = .ok (.invokevirtual 65, 3) := by decide +kernel
theorem kr_74_65 : sm_at mt_k (sm_ow 74) 65 = some (65, 1, 44, 1, 1122) := by decide +kernel
theorem dc_59_0 : decode (sm_cc 59) 0 = .ok (.aload_n 0, 1) := by decide +kernel
theorem dc_59_1 : decode (sm_cc 59) 1 = .ok (.getfield 9, 3) := by decide +kernel
theorem fr_59_9 : sm_at mt_f (sm_ow 59) 9 = some (9, 1, 0, 0, 704) := by decide +kernel
theorem dc_59_4 : decode (sm_cc 59) 4 = .ok (.getfield 27, 3) := by decide +kernel
theorem fr_59_27 : sm_at mt_f (sm_ow 59) 27 = some (27, 3, 5, 1, 596) := by decide +kernel
theorem dc_59_7 : decode (sm_cc 59) 7 = .ok (.bipush (59), 2) := by decide +kernel
theorem dc_59_9 : decode (sm_cc 59) 9 = .ok (.if_icmp .eq (9), 3) := by decide +kernel
theorem dc_59_12 : decode (sm_cc 59) 12 = .ok (.aload_n 0, 1) := by decide +kernel
theorem dc_59_13 : decode (sm_cc 59) 13 = .ok (.iload_n 1, 1) := by decide +kernel
theorem dc_59_14 : decode (sm_cc 59) 14 = .ok (.invokevirtual 55, 3) := by decide +kernel
theorem ow_60 : 1 = sm_ow 60 := by decide +kernel
theorem kr_59_55 : sm_at mt_k (sm_ow 59) 55 = some (55, 0, 60, 0, 1059) := by decide +kernel
theorem np_60 : sm_np 60 = 1 := by decide +kernel
theorem dc_59_17 : decode (sm_cc 59) 17 = .ok (.return_, 1) := by decide +kernel
theorem rt_59 : sm_rt 59 = none := by decide +kernel
theorem dc_59_18 : decode (sm_cc 59) 18 = .ok (.aload_n 0, 1) := by decide +kernel
theorem dc_59_19 : decode (sm_cc 59) 19 = .ok (.iload_n 1, 1) := by decide +kernel
theorem dc_59_20 : decode (sm_cc 59) 20 = .ok (.invokevirtual 58, 3) := by decide +kernel
theorem ow_74 : 1 = sm_ow 74 := by decide +kernel
theorem kr_59_58 : sm_at mt_k (sm_ow 59) 58 = some (58, 0, 74, 0, 1118) := by decide +kernel
theorem np_74 : sm_np 74 = 1 := by decide +kernel
theorem dc_59_23 : decode (sm_cc 59) 23 = .ok (.ifCond .eq (10), 3) := by decide +kernel
theorem dc_59_26 : decode (sm_cc 59) 26 = .ok (.aload_n 0, 1) := by decide +kernel
theorem dc_59_27 : decode (sm_cc 59) 27 = .ok (.iload_n 1, 1) := by decide +kernel
theorem dc_59_28 : decode (sm_cc 59) 28 = .ok (.iconst 1, 1) := by decide +kernel
theorem dc_59_29 : decode (sm_cc 59) 29 = .ok (.iadd, 1) := by decide +kernel
theorem dc_59_30 : decode (sm_cc 59) 30 = .ok (.invokevirtual 52, 3) := by decide +kernel
theorem kr_59_52 : sm_at mt_k (sm_ow 59) 52 = some (52, 0, 59, 0, 1055) := by decide +kernel
theorem dc_59_33 : decode (sm_cc 59) 33 = .ok (.aload_n 0, 1) := by decide +kernel
theorem dc_59_34 : decode (sm_cc 59) 34 = .ok (.getfield 15, 3) := by decide +kernel
theorem fr_59_15 : sm_at mt_f (sm_ow 59) 15 = some (15, 1, 1, 0, 705) := by decide +kernel
theorem dc_59_37 : decode (sm_cc 59) 37 = .ok (.bipush (25), 2) := by decide +kernel
theorem dc_59_39 : decode (sm_cc 59) 39 = .ok (.invokevirtual 62, 3) := by decide +kernel
theorem ow_71 : 7 = sm_ow 71 := by decide +kernel
theorem kr_59_62 : sm_at mt_k (sm_ow 59) 62 = some (62, 1, 71, 1, 1103) := by decide +kernel
theorem np_71 : sm_np 71 = 1 := by decide +kernel
theorem dc_59_42 : decode (sm_cc 59) 42 = .ok (.pop, 1) := by decide +kernel
theorem dc_59_43 : decode (sm_cc 59) 43 = .ok (.aload_n 0, 1) := by decide +kernel
theorem dc_59_44 : decode (sm_cc 59) 44 = .ok (.iconst 0, 1) := by decide +kernel
theorem dc_59_45 : decode (sm_cc 59) 45 = .ok (.putfield 49, 3) := by decide +kernel
theorem fr_59_49 : sm_at mt_f (sm_ow 59) 49 = some (49, 1, 3, 0, 707) := by decide +kernel
theorem dc_59_48 : decode (sm_cc 59) 48 = .ok (.return_, 1) := by decide +kernel
theorem dc_63_0 : decode (sm_cc 63) 0 = .ok (.aload_n 0, 1) := by decide +kernel
theorem dc_63_1 : decode (sm_cc 63) 1 = .ok (.getfield 9, 3) := by decide +kernel
theorem fr_63_9 : sm_at mt_f (sm_ow 63) 9 = some (9, 1, 0, 0, 704) := by decide +kernel
theorem dc_63_4 : decode (sm_cc 63) 4 = .ok (.getfield 27, 3) := by decide +kernel
theorem fr_63_27 : sm_at mt_f (sm_ow 63) 27 = some (27, 3, 5, 1, 596) := by decide +kernel
theorem dc_63_7 : decode (sm_cc 63) 7 = .ok (.bipush (16), 2) := by decide +kernel
theorem dc_63_9 : decode (sm_cc 63) 9 = .ok (.if_icmp .eq (9), 3) := by decide +kernel
theorem dc_63_12 : decode (sm_cc 63) 12 = .ok (.aload_n 0, 1) := by decide +kernel
theorem dc_63_13 : decode (sm_cc 63) 13 = .ok (.iload_n 1, 1) := by decide +kernel
theorem dc_63_14 : decode (sm_cc 63) 14 = .ok (.invokevirtual 86, 3) := by decide +kernel
theorem ow_64 : 1 = sm_ow 64 := by decide +kernel
theorem kr_63_86 : sm_at mt_k (sm_ow 63) 86 = some (86, 0, 64, 0, 1075) := by decide +kernel
theorem np_64 : sm_np 64 = 1 := by decide +kernel
theorem dc_63_17 : decode (sm_cc 63) 17 = .ok (.return_, 1) := by decide +kernel
theorem rt_63 : sm_rt 63 = none := by decide +kernel
theorem dc_63_18 : decode (sm_cc 63) 18 = .ok (.aload_n 0, 1) := by decide +kernel
theorem dc_63_19 : decode (sm_cc 63) 19 = .ok (.iload_n 1, 1) := by decide +kernel
theorem dc_63_20 : decode (sm_cc 63) 20 = .ok (.invokevirtual 58, 3) := by decide +kernel
theorem kr_63_58 : sm_at mt_k (sm_ow 63) 58 = some (58, 0, 74, 0, 1118) := by decide +kernel
theorem dc_63_23 : decode (sm_cc 63) 23 = .ok (.ifCond .eq (10), 3) := by decide +kernel
theorem dc_63_26 : decode (sm_cc 63) 26 = .ok (.aload_n 0, 1) := by decide +kernel
theorem dc_63_27 : decode (sm_cc 63) 27 = .ok (.iload_n 1, 1) := by decide +kernel
theorem dc_63_28 : decode (sm_cc 63) 28 = .ok (.iconst 1, 1) := by decide +kernel
theorem dc_63_29 : decode (sm_cc 63) 29 = .ok (.iadd, 1) := by decide +kernel
theorem dc_63_30 : decode (sm_cc 63) 30 = .ok (.invokevirtual 80, 3) := by decide +kernel
theorem ow_63 : 1 = sm_ow 63 := by decide +kernel
theorem kr_63_80 : sm_at mt_k (sm_ow 63) 80 = some (80, 0, 63, 0, 1071) := by decide +kernel
theorem np_63 : sm_np 63 = 1 := by decide +kernel
theorem dc_63_33 : decode (sm_cc 63) 33 = .ok (.aload_n 0, 1) := by decide +kernel
theorem dc_63_34 : decode (sm_cc 63) 34 = .ok (.getfield 15, 3) := by decide +kernel
theorem fr_63_15 : sm_at mt_f (sm_ow 63) 15 = some (15, 1, 1, 0, 705) := by decide +kernel
theorem dc_63_37 : decode (sm_cc 63) 37 = .ok (.bipush (26), 2) := by decide +kernel
theorem dc_63_39 : decode (sm_cc 63) 39 = .ok (.invokevirtual 62, 3) := by decide +kernel
theorem kr_63_62 : sm_at mt_k (sm_ow 63) 62 = some (62, 1, 71, 1, 1103) := by decide +kernel
theorem dc_63_42 : decode (sm_cc 63) 42 = .ok (.pop, 1) := by decide +kernel
theorem dc_63_43 : decode (sm_cc 63) 43 = .ok (.aload_n 0, 1) := by decide +kernel
theorem dc_63_44 : decode (sm_cc 63) 44 = .ok (.iconst 0, 1) := by decide +kernel
theorem dc_63_45 : decode (sm_cc 63) 45 = .ok (.putfield 49, 3) := by decide +kernel
theorem fr_63_49 : sm_at mt_f (sm_ow 63) 49 = some (49, 1, 3, 0, 707) := by decide +kernel
theorem dc_63_48 : decode (sm_cc 63) 48 = .ok (.return_, 1) := by decide +kernel
theorem dc_60_0 : decode (sm_cc 60) 0 = .ok (.aload_n 0, 1) := by decide +kernel
theorem dc_60_1 : decode (sm_cc 60) 1 = .ok (.iload_n 1, 1) := by decide +kernel
theorem dc_60_2 : decode (sm_cc 60) 2 = .ok (.invokevirtual 71, 3) := by decide +kernel
theorem ow_61 : 1 = sm_ow 61 := by decide +kernel
theorem kr_60_71 : sm_at mt_k (sm_ow 60) 71 = some (71, 0, 61, 0, 1063) := by decide +kernel
theorem np_61 : sm_np 61 = 1 := by decide +kernel
theorem dc_60_5 : decode (sm_cc 60) 5 = .ok (.aload_n 0, 1) := by decide +kernel
theorem dc_60_6 : decode (sm_cc 60) 6 = .ok (.getfield 9, 3) := by decide +kernel
theorem fr_60_9 : sm_at mt_f (sm_ow 60) 9 = some (9, 1, 0, 0, 704) := by decide +kernel
theorem dc_60_9 : decode (sm_cc 60) 9 = .ok (.getfield 27, 3) := by decide +kernel
theorem fr_60_27 : sm_at mt_f (sm_ow 60) 27 = some (27, 3, 5, 1, 596) := by decide +kernel
theorem dc_60_12 : decode (sm_cc 60) 12 = .ok (.invokestatic 74, 3) := by decide +kernel
theorem kr_60_74 : sm_at mt_k (sm_ow 60) 74 = some (74, 2, 82, 0, 1152) := by decide +kernel
theorem np_82 : sm_np 82 = 1 := by decide +kernel
theorem dc_60_15 : decode (sm_cc 60) 15 = .ok (.istore_n 2, 1) := by decide +kernel
theorem ml_60 : sm_ml 60 = 3 := by decide +kernel
theorem dc_60_16 : decode (sm_cc 60) 16 = .ok (.iload_n 2, 1) := by decide +kernel
theorem dc_60_17 : decode (sm_cc 60) 17 = .ok (.ifCond .ne (4), 3) := by decide +kernel
theorem dc_60_20 : decode (sm_cc 60) 20 = .ok (.return_, 1) := by decide +kernel
theorem rt_60 : sm_rt 60 = none := by decide +kernel
theorem dc_60_21 : decode (sm_cc 60) 21 = .ok (.aload_n 0, 1) := by decide +kernel
theorem dc_60_22 : decode (sm_cc 60) 22 = .ok (.getfield 9, 3) := by decide +kernel
theorem dc_60_25 : decode (sm_cc 60) 25 = .ok (.invokevirtual 68, 3) := by decide +kernel
theorem kr_60_68 : sm_at mt_k (sm_ow 60) 68 = some (68, 1, 40, 1, 1087) := by decide +kernel
theorem dc_60_28 : decode (sm_cc 60) 28 = .ok (.aload_n 0, 1) := by decide +kernel
theorem dc_60_29 : decode (sm_cc 60) 29 = .ok (.iload_n 1, 1) := by decide +kernel
theorem dc_60_30 : decode (sm_cc 60) 30 = .ok (.invokevirtual 71, 3) := by decide +kernel
theorem dc_60_33 : decode (sm_cc 60) 33 = .ok (.aload_n 0, 1) := by decide +kernel
theorem dc_60_34 : decode (sm_cc 60) 34 = .ok (.getfield 15, 3) := by decide +kernel
theorem fr_60_15 : sm_at mt_f (sm_ow 60) 15 = some (15, 1, 1, 0, 705) := by decide +kernel
theorem dc_60_37 : decode (sm_cc 60) 37 = .ok (.iload_n 2, 1) := by decide +kernel
theorem dc_60_38 : decode (sm_cc 60) 38 = .ok (.invokevirtual 62, 3) := by decide +kernel
theorem kr_60_62 : sm_at mt_k (sm_ow 60) 62 = some (62, 1, 71, 1, 1103) := by decide +kernel
theorem dc_60_41 : decode (sm_cc 60) 41 = .ok (.pop, 1) := by decide +kernel
theorem dc_60_42 : decode (sm_cc 60) 42 = .ok (.aload_n 0, 1) := by decide +kernel
theorem dc_60_43 : decode (sm_cc 60) 43 = .ok (.iconst 0, 1) := by decide +kernel
theorem dc_60_44 : decode (sm_cc 60) 44 = .ok (.putfield 49, 3) := by decide +kernel
theorem fr_60_49 : sm_at mt_f (sm_ow 60) 49 = some (49, 1, 3, 0, 707) := by decide +kernel
theorem dc_60_47 : decode (sm_cc 60) 47 = .ok (.return_, 1) := by decide +kernel
theorem dc_61_0 : decode (sm_cc 61) 0 = .ok (.aload_n 0, 1) := by decide +kernel
theorem dc_61_1 : decode (sm_cc 61) 1 = .ok (.iload_n 1, 1) := by decide +kernel
theorem dc_61_2 : decode (sm_cc 61) 2 = .ok (.invokevirtual 77, 3) := by decide +kernel
theorem ow_62 : 1 = sm_ow 62 := by decide +kernel
theorem kr_61_77 : sm_at mt_k (sm_ow 61) 77 = some (77, 0, 62, 0, 1067) := by decide +kernel
theorem np_62 : sm_np 62 = 1 := by decide +kernel
theorem dc_61_5 : decode (sm_cc 61) 5 = .ok (.iconst 0, 1) := by decide +kernel
theorem dc_61_6 : decode (sm_cc 61) 6 = .ok (.istore_n 2, 1) := by decide +kernel
theorem ml_61 : sm_ml 61 = 4 := by decide +kernel
theorem dc_61_7 : decode (sm_cc 61) 7 = .ok (.iload_n 2, 1) := by decide +kernel
theorem dc_61_8 : decode (sm_cc 61) 8 = .ok (.sipush (3000), 3) := by decide +kernel
theorem dc_61_11 : decode (sm_cc 61) 11 = .ok (.if_icmp .ge (82), 3) := by decide +kernel
theorem dc_61_14 : decode (sm_cc 61) 14 = .ok (.aload_n 0, 1) := by decide +kernel
theorem dc_61_15 : decode (sm_cc 61) 15 = .ok (.getfield 9, 3) := by decide +kernel
theorem fr_61_9 : sm_at mt_f (sm_ow 61) 9 = some (9, 1, 0, 0, 704) := by decide +kernel
theorem dc_61_18 : decode (sm_cc 61) 18 = .ok (.getfield 27, 3) := by decide +kernel
theorem fr_61_27 : sm_at mt_f (sm_ow 61) 27 = some (27, 3, 5, 1, 596) := by decide +kernel
theorem dc_61_21 : decode (sm_cc 61) 21 = .ok (.bipush (15), 2) := by decide +kernel
theorem dc_61_23 : decode (sm_cc 61) 23 = .ok (.if_icmp .eq (18), 3) := by decide +kernel
theorem dc_61_26 : decode (sm_cc 61) 26 = .ok (.aload_n 0, 1) := by decide +kernel
theorem dc_61_27 : decode (sm_cc 61) 27 = .ok (.getfield 9, 3) := by decide +kernel
theorem dc_61_30 : decode (sm_cc 61) 30 = .ok (.getfield 27, 3) := by decide +kernel
theorem dc_61_33 : decode (sm_cc 61) 33 = .ok (.bipush (16), 2) := by decide +kernel
theorem dc_61_35 : decode (sm_cc 61) 35 = .ok (.if_icmp .eq (6), 3) := by decide +kernel
theorem dc_61_38 : decode (sm_cc 61) 38 = .ok (.goto (55), 3) := by decide +kernel
theorem dc_61_93 : decode (sm_cc 61) 93 = .ok (.return_, 1) := by decide +kernel
theorem rt_61 : sm_rt 61 = none := by decide +kernel
theorem dc_61_41 : decode (sm_cc 61) 41 = .ok (.aload_n 0, 1) := by decide +kernel
theorem dc_61_42 : decode (sm_cc 61) 42 = .ok (.getfield 9, 3) := by decide +kernel
theorem dc_61_45 : decode (sm_cc 61) 45 = .ok (.getfield 27, 3) := by decide +kernel
theorem dc_61_48 : decode (sm_cc 61) 48 = .ok (.bipush (15), 2) := by decide +kernel
theorem dc_61_50 : decode (sm_cc 61) 50 = .ok (.if_icmp .ne (8), 3) := by decide +kernel
theorem dc_61_53 : decode (sm_cc 61) 53 = .ok (.bipush (27), 2) := by decide +kernel
theorem dc_61_55 : decode (sm_cc 61) 55 = .ok (.goto (5), 3) := by decide +kernel
theorem dc_61_60 : decode (sm_cc 61) 60 = .ok (.istore_n 3, 1) := by decide +kernel
theorem dc_61_61 : decode (sm_cc 61) 61 = .ok (.aload_n 0, 1) := by decide +kernel
theorem dc_61_62 : decode (sm_cc 61) 62 = .ok (.getfield 9, 3) := by decide +kernel
theorem dc_61_65 : decode (sm_cc 61) 65 = .ok (.invokevirtual 68, 3) := by decide +kernel
theorem kr_61_68 : sm_at mt_k (sm_ow 61) 68 = some (68, 1, 40, 1, 1087) := by decide +kernel
theorem dc_61_68 : decode (sm_cc 61) 68 = .ok (.aload_n 0, 1) := by decide +kernel
theorem dc_61_69 : decode (sm_cc 61) 69 = .ok (.iload_n 1, 1) := by decide +kernel
theorem dc_61_70 : decode (sm_cc 61) 70 = .ok (.invokevirtual 77, 3) := by decide +kernel
theorem dc_61_73 : decode (sm_cc 61) 73 = .ok (.aload_n 0, 1) := by decide +kernel
theorem dc_61_74 : decode (sm_cc 61) 74 = .ok (.getfield 15, 3) := by decide +kernel
theorem fr_61_15 : sm_at mt_f (sm_ow 61) 15 = some (15, 1, 1, 0, 705) := by decide +kernel
theorem dc_61_77 : decode (sm_cc 61) 77 = .ok (.iload_n 3, 1) := by decide +kernel
theorem dc_61_78 : decode (sm_cc 61) 78 = .ok (.invokevirtual 62, 3) := by decide +kernel
theorem kr_61_62 : sm_at mt_k (sm_ow 61) 62 = some (62, 1, 71, 1, 1103) := by decide +kernel
theorem dc_61_81 : decode (sm_cc 61) 81 = .ok (.pop, 1) := by decide +kernel
theorem dc_61_82 : decode (sm_cc 61) 82 = .ok (.aload_n 0, 1) := by decide +kernel
theorem dc_61_83 : decode (sm_cc 61) 83 = .ok (.iconst 0, 1) := by decide +kernel
theorem dc_61_84 : decode (sm_cc 61) 84 = .ok (.putfield 49, 3) := by decide +kernel
theorem fr_61_49 : sm_at mt_f (sm_ow 61) 49 = some (49, 1, 3, 0, 707) := by decide +kernel
theorem dc_61_87 : decode (sm_cc 61) 87 = .ok (.iinc 2 (1), 3) := by decide +kernel
theorem dc_61_90 : decode (sm_cc 61) 90 = .ok (.goto (-83), 3) := by decide +kernel
theorem dc_61_58 : decode (sm_cc 61) 58 = .ok (.bipush (28), 2) := by decide +kernel
theorem dc_62_0 : decode (sm_cc 62) 0 = .ok (.aload_n 0, 1) := by decide +kernel
theorem dc_62_1 : decode (sm_cc 62) 1 = .ok (.iload_n 1, 1) := by decide +kernel
theorem dc_62_2 : decode (sm_cc 62) 2 = .ok (.invokevirtual 80, 3) := by decide +kernel
theorem kr_62_80 : sm_at mt_k (sm_ow 62) 80 = some (80, 0, 63, 0, 1071) := by decide +kernel
theorem dc_62_5 : decode (sm_cc 62) 5 = .ok (.aload_n 0, 1) := by decide +kernel
theorem dc_62_6 : decode (sm_cc 62) 6 = .ok (.getfield 9, 3) := by decide +kernel
theorem fr_62_9 : sm_at mt_f (sm_ow 62) 9 = some (9, 1, 0, 0, 704) := by decide +kernel
theorem dc_62_9 : decode (sm_cc 62) 9 = .ok (.getfield 27, 3) := by decide +kernel
theorem fr_62_27 : sm_at mt_f (sm_ow 62) 27 = some (27, 3, 5, 1, 596) := by decide +kernel
theorem dc_62_12 : decode (sm_cc 62) 12 = .ok (.invokestatic 83, 3) := by decide +kernel
theorem kr_62_83 : sm_at mt_k (sm_ow 62) 83 = some (83, 2, 81, 0, 1149) := by decide +kernel
theorem np_81 : sm_np 81 = 1 := by decide +kernel
theorem dc_62_15 : decode (sm_cc 62) 15 = .ok (.istore_n 2, 1) := by decide +kernel
theorem ml_62 : sm_ml 62 = 4 := by decide +kernel
theorem dc_62_16 : decode (sm_cc 62) 16 = .ok (.iconst 0, 1) := by decide +kernel
theorem dc_62_17 : decode (sm_cc 62) 17 = .ok (.istore_n 3, 1) := by decide +kernel
theorem dc_62_18 : decode (sm_cc 62) 18 = .ok (.iload_n 3, 1) := by decide +kernel
theorem dc_62_19 : decode (sm_cc 62) 19 = .ok (.sipush (3000), 3) := by decide +kernel
theorem dc_62_22 : decode (sm_cc 62) 22 = .ok (.if_icmp .ge (50), 3) := by decide +kernel
theorem dc_62_25 : decode (sm_cc 62) 25 = .ok (.iload_n 2, 1) := by decide +kernel
theorem dc_62_26 : decode (sm_cc 62) 26 = .ok (.ifCond .eq (46), 3) := by decide +kernel
theorem dc_62_72 : decode (sm_cc 62) 72 = .ok (.return_, 1) := by decide +kernel
theorem rt_62 : sm_rt 62 = none := by decide +kernel
theorem dc_62_29 : decode (sm_cc 62) 29 = .ok (.aload_n 0, 1) := by decide +kernel
theorem dc_62_30 : decode (sm_cc 62) 30 = .ok (.getfield 9, 3) := by decide +kernel
theorem dc_62_33 : decode (sm_cc 62) 33 = .ok (.invokevirtual 68, 3) := by decide +kernel
theorem kr_62_68 : sm_at mt_k (sm_ow 62) 68 = some (68, 1, 40, 1, 1087) := by decide +kernel
theorem dc_62_36 : decode (sm_cc 62) 36 = .ok (.aload_n 0, 1) := by decide +kernel
theorem dc_62_37 : decode (sm_cc 62) 37 = .ok (.iload_n 1, 1) := by decide +kernel
theorem dc_62_38 : decode (sm_cc 62) 38 = .ok (.invokevirtual 80, 3) := by decide +kernel
theorem dc_62_41 : decode (sm_cc 62) 41 = .ok (.aload_n 0, 1) := by decide +kernel
theorem dc_62_42 : decode (sm_cc 62) 42 = .ok (.getfield 15, 3) := by decide +kernel
theorem fr_62_15 : sm_at mt_f (sm_ow 62) 15 = some (15, 1, 1, 0, 705) := by decide +kernel
theorem dc_62_45 : decode (sm_cc 62) 45 = .ok (.iload_n 2, 1) := by decide +kernel
theorem dc_62_46 : decode (sm_cc 62) 46 = .ok (.invokevirtual 62, 3) := by decide +kernel
theorem kr_62_62 : sm_at mt_k (sm_ow 62) 62 = some (62, 1, 71, 1, 1103) := by decide +kernel
theorem dc_62_49 : decode (sm_cc 62) 49 = .ok (.pop, 1) := by decide +kernel
theorem dc_62_50 : decode (sm_cc 62) 50 = .ok (.aload_n 0, 1) := by decide +kernel
theorem dc_62_51 : decode (sm_cc 62) 51 = .ok (.iconst 0, 1) := by decide +kernel
theorem dc_62_52 : decode (sm_cc 62) 52 = .ok (.putfield 49, 3) := by decide +kernel
theorem fr_62_49 : sm_at mt_f (sm_ow 62) 49 = some (49, 1, 3, 0, 707) := by decide +kernel
theorem dc_62_55 : decode (sm_cc 62) 55 = .ok (.aload_n 0, 1) := by decide +kernel
theorem dc_62_56 : decode (sm_cc 62) 56 = .ok (.getfield 9, 3) := by decide +kernel
theorem dc_62_59 : decode (sm_cc 62) 59 = .ok (.getfield 27, 3) := by decide +kernel
theorem dc_62_62 : decode (sm_cc 62) 62 = .ok (.invokestatic 83, 3) := by decide +kernel
theorem dc_62_65 : decode (sm_cc 62) 65 = .ok (.istore_n 2, 1) := by decide +kernel
theorem dc_62_66 : decode (sm_cc 62) 66 = .ok (.iinc 3 (1), 3) := by decide +kernel
theorem dc_62_69 : decode (sm_cc 62) 69 = .ok (.goto (-51), 3) := by decide +kernel
theorem dc_77_0 : decode (sm_cc 77) 0 = .ok (.aload_n 0, 1) := by decide +kernel
theorem dc_77_1 : decode (sm_cc 77) 1 = .ok (.getfield 15, 3) := by decide +kernel
theorem fr_77_15 : sm_at mt_f (sm_ow 77) 15 = some (15, 1, 1, 0, 705) := by decide +kernel
theorem dc_77_4 : decode (sm_cc 77) 4 = .ok (.iload_n 1, 1) := by decide +kernel
theorem dc_77_5 : decode (sm_cc 77) 5 = .ok (.iload_n 2, 1) := by decide +kernel
theorem dc_77_6 : decode (sm_cc 77) 6 = .ok (.invokevirtual 38, 3) := by decide +kernel
theorem kr_77_38 : sm_at mt_k (sm_ow 77) 38 = some (38, 1, 54, 1, 1136) := by decide +kernel
theorem dc_77_9 : decode (sm_cc 77) 9 = .ok (.pop, 1) := by decide +kernel
theorem dc_77_10 : decode (sm_cc 77) 10 = .ok (.aload_n 0, 1) := by decide +kernel
theorem dc_77_11 : decode (sm_cc 77) 11 = .ok (.iconst 0, 1) := by decide +kernel
theorem dc_77_12 : decode (sm_cc 77) 12 = .ok (.putfield 49, 3) := by decide +kernel
theorem fr_77_49 : sm_at mt_f (sm_ow 77) 49 = some (49, 1, 3, 0, 707) := by decide +kernel
theorem dc_77_15 : decode (sm_cc 77) 15 = .ok (.return_, 1) := by decide +kernel
theorem rt_77 : sm_rt 77 = none := by decide +kernel
theorem ml_77 : sm_ml 77 = 3 := by decide +kernel
theorem dc_72_0 : decode (sm_cc 72) 0 = .ok (.aload_n 0, 1) := by decide +kernel
theorem dc_72_1 : decode (sm_cc 72) 1 = .ok (.getfield 15, 3) := by decide +kernel
theorem fr_72_15 : sm_at mt_f (sm_ow 72) 15 = some (15, 1, 1, 0, 705) := by decide +kernel
theorem dc_72_4 : decode (sm_cc 72) 4 = .ok (.lload_n 1, 1) := by decide +kernel
theorem dc_72_5 : decode (sm_cc 72) 5 = .ok (.lload_n 3, 1) := by decide +kernel
theorem dc_72_6 : decode (sm_cc 72) 6 = .ok (.invokevirtual 137, 3) := by decide +kernel
theorem ow_73 : 7 = sm_ow 73 := by decide +kernel
theorem kr_72_137 : sm_at mt_k (sm_ow 72) 137 = some (137, 1, 73, 1, 1112) := by decide +kernel
theorem np_73 : sm_np 73 = 2 := by decide +kernel
theorem dc_72_9 : decode (sm_cc 72) 9 = .ok (.aload_n 0, 1) := by decide +kernel
theorem dc_72_10 : decode (sm_cc 72) 10 = .ok (.getfield 9, 3) := by decide +kernel
theorem fr_72_9 : sm_at mt_f (sm_ow 72) 9 = some (9, 1, 0, 0, 704) := by decide +kernel
theorem dc_72_13 : decode (sm_cc 72) 13 = .ok (.invokevirtual 68, 3) := by decide +kernel
theorem kr_72_68 : sm_at mt_k (sm_ow 72) 68 = some (68, 1, 40, 1, 1087) := by decide +kernel
theorem dc_72_16 : decode (sm_cc 72) 16 = .ok (.return_, 1) := by decide +kernel
theorem rt_72 : sm_rt 72 = none := by decide +kernel
theorem dc_66_0 : decode (sm_cc 66) 0 = .ok (.aload_n 0, 1) := by decide +kernel
theorem dc_66_1 : decode (sm_cc 66) 1 = .ok (.getfield 9, 3) := by decide +kernel
theorem fr_66_9 : sm_at mt_f (sm_ow 66) 9 = some (9, 1, 0, 0, 704) := by decide +kernel
theorem dc_66_4 : decode (sm_cc 66) 4 = .ok (.getfield 111, 3) := by decide +kernel
theorem fr_66_111 : sm_at mt_f (sm_ow 66) 111 = some (111, 3, 9, 1, 606) := by decide +kernel
theorem dc_66_7 : decode (sm_cc 66) 7 = .ok (.istore_n 1, 1) := by decide +kernel
theorem ml_66 : sm_ml 66 = 2 := by decide +kernel
theorem dc_66_8 : decode (sm_cc 66) 8 = .ok (.aload_n 0, 1) := by decide +kernel
theorem dc_66_9 : decode (sm_cc 66) 9 = .ok (.getfield 9, 3) := by decide +kernel
theorem dc_66_12 : decode (sm_cc 66) 12 = .ok (.invokevirtual 68, 3) := by decide +kernel
theorem kr_66_68 : sm_at mt_k (sm_ow 66) 68 = some (68, 1, 40, 1, 1087) := by decide +kernel
theorem dc_66_15 : decode (sm_cc 66) 15 = .ok (.aload_n 0, 1) := by decide +kernel
theorem dc_66_16 : decode (sm_cc 66) 16 = .ok (.getfield 9, 3) := by decide +kernel
theorem dc_66_19 : decode (sm_cc 66) 19 = .ok (.getfield 27, 3) := by decide +kernel
theorem fr_66_27 : sm_at mt_f (sm_ow 66) 27 = some (27, 3, 5, 1, 596) := by decide +kernel
theorem dc_66_22 : decode (sm_cc 66) 22 = .ok (.bipush (6), 2) := by decide +kernel
theorem dc_66_24 : decode (sm_cc 66) 24 = .ok (.if_icmp .ne (27), 3) := by decide +kernel
theorem dc_66_27 : decode (sm_cc 66) 27 = .ok (.aload_n 0, 1) := by decide +kernel
theorem dc_66_28 : decode (sm_cc 66) 28 = .ok (.getfield 19, 3) := by decide +kernel
theorem fr_66_19 : sm_at mt_f (sm_ow 66) 19 = some (19, 1, 2, 0, 706) := by decide +kernel
theorem dc_66_31 : decode (sm_cc 66) 31 = .ok (.bipush (21), 2) := by decide +kernel
theorem dc_66_33 : decode (sm_cc 66) 33 = .ok (.iload_n 1, 1) := by decide +kernel
theorem dc_66_34 : decode (sm_cc 66) 34 = .ok (.invokevirtual 140, 3) := by decide +kernel
theorem ow_67 : 8 = sm_ow 67 := by decide +kernel
theorem kr_66_140 : sm_at mt_k (sm_ow 66) 140 = some (140, 1, 67, 1, 1088) := by decide +kernel
theorem np_67 : sm_np 67 = 2 := by decide +kernel
theorem dc_66_37 : decode (sm_cc 66) 37 = .ok (.pop, 1) := by decide +kernel
theorem dc_66_38 : decode (sm_cc 66) 38 = .ok (.aload_n 0, 1) := by decide +kernel
theorem dc_66_39 : decode (sm_cc 66) 39 = .ok (.getfield 15, 3) := by decide +kernel
theorem fr_66_15 : sm_at mt_f (sm_ow 66) 15 = some (15, 1, 1, 0, 705) := by decide +kernel
theorem dc_66_42 : decode (sm_cc 66) 42 = .ok (.iload_n 1, 1) := by decide +kernel
theorem dc_66_43 : decode (sm_cc 66) 43 = .ok (.invokestatic 143, 3) := by decide +kernel
theorem kr_66_143 : sm_at mt_k (sm_ow 66) 143 = some (143, 3, 70, 1, 1100) := by decide +kernel
theorem np_70 : sm_np 70 = 1 := by decide +kernel
theorem dc_66_46 : decode (sm_cc 66) 46 = .ok (.invokevirtual 62, 3) := by decide +kernel
theorem kr_66_62 : sm_at mt_k (sm_ow 66) 62 = some (62, 1, 71, 1, 1103) := by decide +kernel
theorem dc_66_49 : decode (sm_cc 66) 49 = .ok (.pop, 1) := by decide +kernel
theorem dc_66_50 : decode (sm_cc 66) 50 = .ok (.return_, 1) := by decide +kernel
theorem rt_66 : sm_rt 66 = none := by decide +kernel
theorem dc_66_51 : decode (sm_cc 66) 51 = .ok (.aload_n 0, 1) := by decide +kernel
theorem dc_66_52 : decode (sm_cc 66) 52 = .ok (.aload_n 0, 1) := by decide +kernel
theorem dc_66_53 : decode (sm_cc 66) 53 = .ok (.getfield 19, 3) := by decide +kernel
theorem dc_66_56 : decode (sm_cc 66) 56 = .ok (.bipush (18), 2) := by decide +kernel
theorem dc_66_58 : decode (sm_cc 66) 58 = .ok (.iload_n 1, 1) := by decide +kernel
theorem dc_66_59 : decode (sm_cc 66) 59 = .ok (.invokevirtual 140, 3) := by decide +kernel
theorem dc_66_62 : decode (sm_cc 66) 62 = .ok (.putfield 108, 3) := by decide +kernel
theorem fr_66_108 : sm_at mt_f (sm_ow 66) 108 = some (108, 1, 4, 0, 710) := by decide +kernel
theorem dc_66_65 : decode (sm_cc 66) 65 = .ok (.aload_n 0, 1) := by decide +kernel
theorem dc_66_66 : decode (sm_cc 66) 66 = .ok (.iconst 1, 1) := by decide +kernel
theorem dc_66_67 : decode (sm_cc 66) 67 = .ok (.putfield 49, 3) := by decide +kernel
theorem fr_66_49 : sm_at mt_f (sm_ow 66) 49 = some (49, 1, 3, 0, 707) := by decide +kernel
theorem dc_66_70 : decode (sm_cc 66) 70 = .ok (.return_, 1) := by decide +kernel
theorem dc_79_0 : decode (sm_cc 79) 0 = .ok (.aload_n 0, 1) := by decide +kernel
theorem dc_79_1 : decode (sm_cc 79) 1 = .ok (.iload_n 1, 1) := by decide +kernel
theorem dc_79_2 : decode (sm_cc 79) 2 = .ok (.invokevirtual 58, 3) := by decide +kernel
theorem kr_79_58 : sm_at mt_k (sm_ow 79) 58 = some (58, 0, 74, 0, 1118) := by decide +kernel
theorem dc_79_5 : decode (sm_cc 79) 5 = .ok (.ifCond .eq (10), 3) := by decide +kernel
theorem dc_79_8 : decode (sm_cc 79) 8 = .ok (.aload_n 0, 1) := by decide +kernel
theorem dc_79_9 : decode (sm_cc 79) 9 = .ok (.iload_n 1, 1) := by decide +kernel
theorem dc_79_10 : decode (sm_cc 79) 10 = .ok (.iconst 1, 1) := by decide +kernel
theorem dc_79_11 : decode (sm_cc 79) 11 = .ok (.iadd, 1) := by decide +kernel
theorem dc_79_12 : decode (sm_cc 79) 12 = .ok (.invokevirtual 105, 3) := by decide +kernel
theorem ow_57 : 1 = sm_ow 57 := by decide +kernel
theorem kr_79_105 : sm_at mt_k (sm_ow 79) 105 = some (105, 0, 57, 0, 1123) := by decide +kernel
theorem np_57 : sm_np 57 = 1 := by decide +kernel
theorem dc_79_15 : decode (sm_cc 79) 15 = .ok (.aload_n 0, 1) := by decide +kernel
theorem dc_79_16 : decode (sm_cc 79) 16 = .ok (.getfield 9, 3) := by decide +kernel
theorem fr_79_9 : sm_at mt_f (sm_ow 79) 9 = some (9, 1, 0, 0, 704) := by decide +kernel
theorem dc_79_19 : decode (sm_cc 79) 19 = .ok (.bipush (9), 2) := by decide +kernel
theorem dc_79_21 : decode (sm_cc 79) 21 = .ok (.invokevirtual 33, 3) := by decide +kernel
theorem kr_79_33 : sm_at mt_k (sm_ow 79) 33 = some (33, 1, 75, 1, 1124) := by decide +kernel
theorem dc_79_24 : decode (sm_cc 79) 24 = .ok (.aload_n 0, 1) := by decide +kernel
theorem dc_79_25 : decode (sm_cc 79) 25 = .ok (.aload_n 0, 1) := by decide +kernel
theorem dc_79_26 : decode (sm_cc 79) 26 = .ok (.getfield 15, 3) := by decide +kernel
theorem fr_79_15 : sm_at mt_f (sm_ow 79) 15 = some (15, 1, 1, 0, 705) := by decide +kernel
theorem dc_79_29 : decode (sm_cc 79) 29 = .ok (.bipush (39), 2) := by decide +kernel
theorem dc_79_31 : decode (sm_cc 79) 31 = .ok (.invokevirtual 62, 3) := by decide +kernel
theorem kr_79_62 : sm_at mt_k (sm_ow 79) 62 = some (62, 1, 71, 1, 1103) := by decide +kernel
theorem dc_79_34 : decode (sm_cc 79) 34 = .ok (.putfield 108, 3) := by decide +kernel
theorem fr_79_108 : sm_at mt_f (sm_ow 79) 108 = some (108, 1, 4, 0, 710) := by decide +kernel
theorem dc_79_37 : decode (sm_cc 79) 37 = .ok (.aload_n 0, 1) := by decide +kernel
theorem dc_79_38 : decode (sm_cc 79) 38 = .ok (.iconst 2, 1) := by decide +kernel
theorem dc_79_39 : decode (sm_cc 79) 39 = .ok (.putfield 49, 3) := by decide +kernel
theorem fr_79_49 : sm_at mt_f (sm_ow 79) 49 = some (49, 1, 3, 0, 707) := by decide +kernel
theorem dc_79_42 : decode (sm_cc 79) 42 = .ok (.return_, 1) := by decide +kernel
theorem rt_79 : sm_rt 79 = none := by decide +kernel
theorem dc_80_0 : decode (sm_cc 80) 0 = .ok (.aload_n 0, 1) := by decide +kernel
theorem dc_80_1 : decode (sm_cc 80) 1 = .ok (.getfield 9, 3) := by decide +kernel
theorem fr_80_9 : sm_at mt_f (sm_ow 80) 9 = some (9, 1, 0, 0, 704) := by decide +kernel
theorem dc_80_4 : decode (sm_cc 80) 4 = .ok (.invokevirtual 68, 3) := by decide +kernel
theorem kr_80_68 : sm_at mt_k (sm_ow 80) 68 = some (68, 1, 40, 1, 1087) := by decide +kernel
theorem dc_80_7 : decode (sm_cc 80) 7 = .ok (.aload_n 0, 1) := by decide +kernel
theorem dc_80_8 : decode (sm_cc 80) 8 = .ok (.getfield 9, 3) := by decide +kernel
theorem dc_80_11 : decode (sm_cc 80) 11 = .ok (.getfield 27, 3) := by decide +kernel
theorem fr_80_27 : sm_at mt_f (sm_ow 80) 27 = some (27, 3, 5, 1, 596) := by decide +kernel
theorem dc_80_14 : decode (sm_cc 80) 14 = .ok (.iconst 3, 1) := by decide +kernel
theorem dc_80_15 : decode (sm_cc 80) 15 = .ok (.if_icmp .eq (10), 3) := by decide +kernel
theorem dc_80_25 : decode (sm_cc 80) 25 = .ok (.aload_n 0, 1) := by decide +kernel
theorem dc_80_26 : decode (sm_cc 80) 26 = .ok (.aload_n 0, 1) := by decide +kernel
theorem dc_80_27 : decode (sm_cc 80) 27 = .ok (.getfield 15, 3) := by decide +kernel
theorem fr_80_15 : sm_at mt_f (sm_ow 80) 15 = some (15, 1, 1, 0, 705) := by decide +kernel
theorem dc_80_30 : decode (sm_cc 80) 30 = .ok (.bipush (44), 2) := by decide +kernel
theorem dc_80_32 : decode (sm_cc 80) 32 = .ok (.aload_n 0, 1) := by decide +kernel
theorem dc_80_33 : decode (sm_cc 80) 33 = .ok (.getfield 9, 3) := by decide +kernel
theorem dc_80_36 : decode (sm_cc 80) 36 = .ok (.getfield 111, 3) := by decide +kernel
theorem fr_80_111 : sm_at mt_f (sm_ow 80) 111 = some (111, 3, 9, 1, 606) := by decide +kernel
theorem dc_80_39 : decode (sm_cc 80) 39 = .ok (.invokevirtual 38, 3) := by decide +kernel
theorem kr_80_38 : sm_at mt_k (sm_ow 80) 38 = some (38, 1, 54, 1, 1136) := by decide +kernel
theorem dc_80_42 : decode (sm_cc 80) 42 = .ok (.putfield 108, 3) := by decide +kernel
theorem fr_80_108 : sm_at mt_f (sm_ow 80) 108 = some (108, 1, 4, 0, 710) := by decide +kernel
theorem dc_80_45 : decode (sm_cc 80) 45 = .ok (.aload_n 0, 1) := by decide +kernel
theorem dc_80_46 : decode (sm_cc 80) 46 = .ok (.iconst 3, 1) := by decide +kernel
theorem dc_80_47 : decode (sm_cc 80) 47 = .ok (.putfield 49, 3) := by decide +kernel
theorem fr_80_49 : sm_at mt_f (sm_ow 80) 49 = some (49, 1, 3, 0, 707) := by decide +kernel
theorem dc_80_50 : decode (sm_cc 80) 50 = .ok (.aload_n 0, 1) := by decide +kernel
theorem dc_80_51 : decode (sm_cc 80) 51 = .ok (.getfield 9, 3) := by decide +kernel
theorem dc_80_54 : decode (sm_cc 80) 54 = .ok (.invokevirtual 68, 3) := by decide +kernel
theorem dc_80_57 : decode (sm_cc 80) 57 = .ok (.return_, 1) := by decide +kernel
theorem rt_80 : sm_rt 80 = none := by decide +kernel
theorem dc_80_18 : decode (sm_cc 80) 18 = .ok (.aload_n 0, 1) := by decide +kernel
theorem dc_80_19 : decode (sm_cc 80) 19 = .ok (.getfield 9, 3) := by decide +kernel
theorem dc_80_22 : decode (sm_cc 80) 22 = .ok (.invokevirtual 65, 3) := by decide +kernel
theorem kr_80_65 : sm_at mt_k (sm_ow 80) 65 = some (65, 1, 44, 1, 1122) := by decide +kernel
theorem dc_64_0 : decode (sm_cc 64) 0 = .ok (.aload_n 0, 1) := by decide +kernel
theorem dc_64_1 : decode (sm_cc 64) 1 = .ok (.iload_n 1, 1) := by decide +kernel
theorem dc_64_2 : decode (sm_cc 64) 2 = .ok (.invokevirtual 89, 3) := by decide +kernel
theorem ow_65 : 1 = sm_ow 65 := by decide +kernel
theorem kr_64_89 : sm_at mt_k (sm_ow 64) 89 = some (89, 0, 65, 0, 1079) := by decide +kernel
theorem np_65 : sm_np 65 = 1 := by decide +kernel
theorem dc_64_5 : decode (sm_cc 64) 5 = .ok (.iconst 1, 1) := by decide +kernel
theorem dc_64_6 : decode (sm_cc 64) 6 = .ok (.istore_n 2, 1) := by decide +kernel
theorem ml_64 : sm_ml 64 = 4 := by decide +kernel
theorem dc_64_7 : decode (sm_cc 64) 7 = .ok (.iconst 0, 1) := by decide +kernel
theorem dc_64_8 : decode (sm_cc 64) 8 = .ok (.istore_n 3, 1) := by decide +kernel
theorem dc_64_9 : decode (sm_cc 64) 9 = .ok (.iload_n 2, 1) := by decide +kernel
theorem dc_64_10 : decode (sm_cc 64) 10 = .ok (.ifCond .eq (91), 3) := by decide +kernel
theorem dc_64_13 : decode (sm_cc 64) 13 = .ok (.iload_n 3, 1) := by decide +kernel
theorem dc_64_14 : decode (sm_cc 64) 14 = .ok (.sipush (3000), 3) := by decide +kernel
theorem dc_64_17 : decode (sm_cc 64) 17 = .ok (.if_icmp .ge (84), 3) := by decide +kernel
theorem dc_64_20 : decode (sm_cc 64) 20 = .ok (.aload_n 0, 1) := by decide +kernel
theorem dc_64_21 : decode (sm_cc 64) 21 = .ok (.getfield 9, 3) := by decide +kernel
theorem fr_64_9 : sm_at mt_f (sm_ow 64) 9 = some (9, 1, 0, 0, 704) := by decide +kernel
theorem dc_64_24 : decode (sm_cc 64) 24 = .ok (.getfield 27, 3) := by decide +kernel
theorem fr_64_27 : sm_at mt_f (sm_ow 64) 27 = some (27, 3, 5, 1, 596) := by decide +kernel
theorem dc_64_27 : decode (sm_cc 64) 27 = .ok (.lookupswitch (66) #[(6, 33), (8, 51), (14, 59)], 33) := by decide +kernel
theorem dc_64_93 : decode (sm_cc 64) 93 = .ok (.iconst 0, 1) := by decide +kernel
theorem dc_64_94 : decode (sm_cc 64) 94 = .ok (.istore_n 2, 1) := by decide +kernel
theorem dc_64_95 : decode (sm_cc 64) 95 = .ok (.iinc 3 (1), 3) := by decide +kernel
theorem dc_64_98 : decode (sm_cc 64) 98 = .ok (.goto (-89), 3) := by decide +kernel
theorem dc_64_101 : decode (sm_cc 64) 101 = .ok (.return_, 1) := by decide +kernel
theorem rt_64 : sm_rt 64 = none := by decide +kernel
theorem dc_64_60 : decode (sm_cc 64) 60 = .ok (.aload_n 0, 1) := by decide +kernel
theorem dc_64_61 : decode (sm_cc 64) 61 = .ok (.bipush (51), 2) := by decide +kernel
theorem dc_64_63 : decode (sm_cc 64) 63 = .ok (.aload_n 0, 1) := by decide +kernel
theorem dc_64_64 : decode (sm_cc 64) 64 = .ok (.iload_n 1, 1) := by decide +kernel
theorem dc_64_65 : decode (sm_cc 64) 65 = .ok (.bipush (7), 2) := by decide +kernel
theorem dc_64_67 : decode (sm_cc 64) 67 = .ok (.bipush (8), 2) := by decide +kernel
theorem dc_64_69 : decode (sm_cc 64) 69 = .ok (.invokevirtual 92, 3) := by decide +kernel
theorem ow_76 : 1 = sm_ow 76 := by decide +kernel
theorem kr_64_92 : sm_at mt_k (sm_ow 64) 92 = some (92, 0, 76, 0, 1128) := by decide +kernel
theorem np_76 : sm_np 76 = 3 := by decide +kernel
theorem dc_64_72 : decode (sm_cc 64) 72 = .ok (.invokevirtual 96, 3) := by decide +kernel
theorem ow_77 : 1 = sm_ow 77 := by decide +kernel
theorem kr_64_96 : sm_at mt_k (sm_ow 64) 96 = some (96, 0, 77, 0, 1132) := by decide +kernel
theorem np_77 : sm_np 77 = 2 := by decide +kernel
theorem dc_64_75 : decode (sm_cc 64) 75 = .ok (.goto (20), 3) := by decide +kernel
theorem dc_64_78 : decode (sm_cc 64) 78 = .ok (.aload_n 0, 1) := by decide +kernel
theorem dc_64_79 : decode (sm_cc 64) 79 = .ok (.iload_n 1, 1) := by decide +kernel
theorem dc_64_80 : decode (sm_cc 64) 80 = .ok (.invokevirtual 99, 3) := by decide +kernel
theorem ow_79 : 1 = sm_ow 79 := by decide +kernel
theorem kr_64_99 : sm_at mt_k (sm_ow 64) 99 = some (99, 0, 79, 0, 1141) := by decide +kernel
theorem np_79 : sm_np 79 = 1 := by decide +kernel
theorem dc_64_83 : decode (sm_cc 64) 83 = .ok (.goto (12), 3) := by decide +kernel
theorem dc_64_86 : decode (sm_cc 64) 86 = .ok (.aload_n 0, 1) := by decide +kernel
theorem dc_64_87 : decode (sm_cc 64) 87 = .ok (.invokevirtual 102, 3) := by decide +kernel
theorem ow_80 : 1 = sm_ow 80 := by decide +kernel
theorem kr_64_102 : sm_at mt_k (sm_ow 64) 102 = some (102, 0, 80, 0, 1145) := by decide +kernel
theorem np_80 : sm_np 80 = 0 := by decide +kernel
theorem dc_64_90 : decode (sm_cc 64) 90 = .ok (.goto (5), 3) := by decide +kernel
theorem dc_76_0 : decode (sm_cc 76) 0 = .ok (.aload_n 0, 1) := by decide +kernel
theorem dc_76_1 : decode (sm_cc 76) 1 = .ok (.iload_n 1, 1) := by decide +kernel
theorem dc_76_2 : decode (sm_cc 76) 2 = .ok (.invokevirtual 58, 3) := by decide +kernel
theorem kr_76_58 : sm_at mt_k (sm_ow 76) 58 = some (58, 0, 74, 0, 1118) := by decide +kernel
theorem dc_76_5 : decode (sm_cc 76) 5 = .ok (.ifCond .ne (5), 3) := by decide +kernel
theorem dc_76_8 : decode (sm_cc 76) 8 = .ok (.iconst 0, 1) := by decide +kernel
theorem dc_76_9 : decode (sm_cc 76) 9 = .ok (.ireturn, 1) := by decide +kernel
theorem rt_76 : sm_rt 76 = some .int := by decide +kernel
theorem dc_76_10 : decode (sm_cc 76) 10 = .ok (.iconst 0, 1) := by decide +kernel
theorem dc_76_11 : decode (sm_cc 76) 11 = .ok (.istore 4, 2) := by decide +kernel
theorem ml_76 : sm_ml 76 = 6 := by decide +kernel
theorem dc_76_13 : decode (sm_cc 76) 13 = .ok (.aload_n 0, 1) := by decide +kernel
theorem dc_76_14 : decode (sm_cc 76) 14 = .ok (.getfield 9, 3) := by decide +kernel
theorem fr_76_9 : sm_at mt_f (sm_ow 76) 9 = some (9, 1, 0, 0, 704) := by decide +kernel
theorem dc_76_17 : decode (sm_cc 76) 17 = .ok (.getfield 27, 3) := by decide +kernel
theorem fr_76_27 : sm_at mt_f (sm_ow 76) 27 = some (27, 3, 5, 1, 596) := by decide +kernel
theorem dc_76_20 : decode (sm_cc 76) 20 = .ok (.iload_n 2, 1) := by decide +kernel
theorem dc_76_21 : decode (sm_cc 76) 21 = .ok (.if_icmp .eq (7), 3) := by decide +kernel
theorem dc_76_24 : decode (sm_cc 76) 24 = .ok (.iconst 1, 1) := by decide +kernel
theorem dc_76_25 : decode (sm_cc 76) 25 = .ok (.goto (4), 3) := by decide +kernel
theorem dc_76_29 : decode (sm_cc 76) 29 = .ok (.istore 5, 2) := by decide +kernel
theorem dc_76_28 : decode (sm_cc 76) 28 = .ok (.iconst 0, 1) := by decide +kernel
theorem dc_76_31 : decode (sm_cc 76) 31 = .ok (.iload 5, 2) := by decide +kernel
theorem dc_76_33 : decode (sm_cc 76) 33 = .ok (.ifCond .eq (55), 3) := by decide +kernel
theorem dc_76_36 : decode (sm_cc 76) 36 = .ok (.iload 4, 2) := by decide +kernel
theorem dc_76_38 : decode (sm_cc 76) 38 = .ok (.iload_n 3, 1) := by decide +kernel
theorem dc_76_39 : decode (sm_cc 76) 39 = .ok (.if_icmp .gt (49), 3) := by decide +kernel
theorem dc_76_42 : decode (sm_cc 76) 42 = .ok (.aload_n 0, 1) := by decide +kernel
theorem dc_76_43 : decode (sm_cc 76) 43 = .ok (.iload_n 1, 1) := by decide +kernel
theorem dc_76_44 : decode (sm_cc 76) 44 = .ok (.iconst 1, 1) := by decide +kernel
theorem dc_76_45 : decode (sm_cc 76) 45 = .ok (.iadd, 1) := by decide +kernel
theorem dc_76_46 : decode (sm_cc 76) 46 = .ok (.invokevirtual 105, 3) := by decide +kernel
theorem kr_76_105 : sm_at mt_k (sm_ow 76) 105 = some (105, 0, 57, 0, 1123) := by decide +kernel
theorem dc_76_49 : decode (sm_cc 76) 49 = .ok (.iinc 4 (1), 3) := by decide +kernel
theorem dc_76_52 : decode (sm_cc 76) 52 = .ok (.aload_n 0, 1) := by decide +kernel
theorem dc_76_53 : decode (sm_cc 76) 53 = .ok (.getfield 9, 3) := by decide +kernel
theorem dc_76_56 : decode (sm_cc 76) 56 = .ok (.getfield 27, 3) := by decide +kernel
theorem dc_76_59 : decode (sm_cc 76) 59 = .ok (.bipush (12), 2) := by decide +kernel
theorem dc_76_61 : decode (sm_cc 76) 61 = .ok (.if_icmp .ne (7), 3) := by decide +kernel
theorem dc_76_64 : decode (sm_cc 76) 64 = .ok (.iconst 1, 1) := by decide +kernel
theorem dc_76_65 : decode (sm_cc 76) 65 = .ok (.goto (4), 3) := by decide +kernel
theorem dc_76_69 : decode (sm_cc 76) 69 = .ok (.istore 5, 2) := by decide +kernel
theorem dc_76_71 : decode (sm_cc 76) 71 = .ok (.iload 5, 2) := by decide +kernel
theorem dc_76_73 : decode (sm_cc 76) 73 = .ok (.ifCond .eq (-42), 3) := by decide +kernel
theorem dc_76_76 : decode (sm_cc 76) 76 = .ok (.aload_n 0, 1) := by decide +kernel
theorem dc_76_77 : decode (sm_cc 76) 77 = .ok (.getfield 9, 3) := by decide +kernel
theorem dc_76_80 : decode (sm_cc 76) 80 = .ok (.bipush (12), 2) := by decide +kernel
theorem dc_76_82 : decode (sm_cc 76) 82 = .ok (.invokevirtual 33, 3) := by decide +kernel
theorem kr_76_33 : sm_at mt_k (sm_ow 76) 33 = some (33, 1, 75, 1, 1124) := by decide +kernel
theorem dc_76_85 : decode (sm_cc 76) 85 = .ok (.goto (-54), 3) := by decide +kernel
theorem dc_76_68 : decode (sm_cc 76) 68 = .ok (.iconst 0, 1) := by decide +kernel
theorem dc_76_88 : decode (sm_cc 76) 88 = .ok (.iload 4, 2) := by decide +kernel
theorem dc_76_90 : decode (sm_cc 76) 90 = .ok (.iload_n 3, 1) := by decide +kernel
theorem dc_76_91 : decode (sm_cc 76) 91 = .ok (.if_icmp .le (10), 3) := by decide +kernel
theorem dc_76_101 : decode (sm_cc 76) 101 = .ok (.aload_n 0, 1) := by decide +kernel
theorem dc_76_102 : decode (sm_cc 76) 102 = .ok (.getfield 9, 3) := by decide +kernel
theorem dc_76_105 : decode (sm_cc 76) 105 = .ok (.iload_n 2, 1) := by decide +kernel
theorem dc_76_106 : decode (sm_cc 76) 106 = .ok (.invokevirtual 33, 3) := by decide +kernel
theorem dc_76_109 : decode (sm_cc 76) 109 = .ok (.iload 4, 2) := by decide +kernel
theorem dc_76_111 : decode (sm_cc 76) 111 = .ok (.ireturn, 1) := by decide +kernel
theorem dc_76_94 : decode (sm_cc 76) 94 = .ok (.aload_n 0, 1) := by decide +kernel
theorem dc_76_95 : decode (sm_cc 76) 95 = .ok (.getfield 9, 3) := by decide +kernel
theorem dc_76_98 : decode (sm_cc 76) 98 = .ok (.invokevirtual 65, 3) := by decide +kernel
theorem kr_76_65 : sm_at mt_k (sm_ow 76) 65 = some (65, 1, 44, 1, 1122) := by decide +kernel
theorem dc_78_0 : decode (sm_cc 78) 0 = .ok (.aload_n 0, 1) := by decide +kernel
theorem dc_78_1 : decode (sm_cc 78) 1 = .ok (.iload_n 1, 1) := by decide +kernel
theorem dc_78_2 : decode (sm_cc 78) 2 = .ok (.invokevirtual 58, 3) := by decide +kernel
theorem kr_78_58 : sm_at mt_k (sm_ow 78) 58 = some (58, 0, 74, 0, 1118) := by decide +kernel
theorem dc_78_5 : decode (sm_cc 78) 5 = .ok (.ifCond .ne (5), 3) := by decide +kernel
theorem dc_78_8 : decode (sm_cc 78) 8 = .ok (.iconst 0, 1) := by decide +kernel
theorem dc_78_9 : decode (sm_cc 78) 9 = .ok (.ireturn, 1) := by decide +kernel
theorem rt_78 : sm_rt 78 = some .int := by decide +kernel
theorem dc_78_10 : decode (sm_cc 78) 10 = .ok (.iconst 0, 1) := by decide +kernel
theorem dc_78_11 : decode (sm_cc 78) 11 = .ok (.istore_n 2, 1) := by decide +kernel
theorem ml_78 : sm_ml 78 = 4 := by decide +kernel
theorem dc_78_12 : decode (sm_cc 78) 12 = .ok (.aload_n 0, 1) := by decide +kernel
theorem dc_78_13 : decode (sm_cc 78) 13 = .ok (.getfield 9, 3) := by decide +kernel
theorem fr_78_9 : sm_at mt_f (sm_ow 78) 9 = some (9, 1, 0, 0, 704) := by decide +kernel
theorem dc_78_16 : decode (sm_cc 78) 16 = .ok (.getfield 27, 3) := by decide +kernel
theorem fr_78_27 : sm_at mt_f (sm_ow 78) 27 = some (27, 3, 5, 1, 596) := by decide +kernel
theorem dc_78_19 : decode (sm_cc 78) 19 = .ok (.bipush (11), 2) := by decide +kernel
theorem dc_78_21 : decode (sm_cc 78) 21 = .ok (.if_icmp .eq (7), 3) := by decide +kernel
theorem dc_78_24 : decode (sm_cc 78) 24 = .ok (.iconst 1, 1) := by decide +kernel
theorem dc_78_25 : decode (sm_cc 78) 25 = .ok (.goto (4), 3) := by decide +kernel
theorem dc_78_29 : decode (sm_cc 78) 29 = .ok (.istore_n 3, 1) := by decide +kernel
theorem dc_78_28 : decode (sm_cc 78) 28 = .ok (.iconst 0, 1) := by decide +kernel
theorem dc_78_30 : decode (sm_cc 78) 30 = .ok (.iload_n 3, 1) := by decide +kernel
theorem dc_78_31 : decode (sm_cc 78) 31 = .ok (.ifCond .eq (69), 3) := by decide +kernel
theorem dc_78_34 : decode (sm_cc 78) 34 = .ok (.iload_n 2, 1) := by decide +kernel
theorem dc_78_35 : decode (sm_cc 78) 35 = .ok (.bipush (20), 2) := by decide +kernel
theorem dc_78_37 : decode (sm_cc 78) 37 = .ok (.if_icmp .gt (63), 3) := by decide +kernel
theorem dc_78_40 : decode (sm_cc 78) 40 = .ok (.aload_n 0, 1) := by decide +kernel
theorem dc_78_41 : decode (sm_cc 78) 41 = .ok (.iload_n 1, 1) := by decide +kernel
theorem dc_78_42 : decode (sm_cc 78) 42 = .ok (.iconst 1, 1) := by decide +kernel
theorem dc_78_43 : decode (sm_cc 78) 43 = .ok (.iadd, 1) := by decide +kernel
theorem dc_78_44 : decode (sm_cc 78) 44 = .ok (.invokevirtual 105, 3) := by decide +kernel
theorem kr_78_105 : sm_at mt_k (sm_ow 78) 105 = some (105, 0, 57, 0, 1123) := by decide +kernel
theorem dc_78_47 : decode (sm_cc 78) 47 = .ok (.aload_n 0, 1) := by decide +kernel
theorem dc_78_48 : decode (sm_cc 78) 48 = .ok (.getfield 9, 3) := by decide +kernel
theorem dc_78_51 : decode (sm_cc 78) 51 = .ok (.bipush (13), 2) := by decide +kernel
theorem dc_78_53 : decode (sm_cc 78) 53 = .ok (.invokevirtual 33, 3) := by decide +kernel
theorem kr_78_33 : sm_at mt_k (sm_ow 78) 33 = some (33, 1, 75, 1, 1124) := by decide +kernel
theorem dc_78_56 : decode (sm_cc 78) 56 = .ok (.aload_n 0, 1) := by decide +kernel
theorem dc_78_57 : decode (sm_cc 78) 57 = .ok (.iload_n 1, 1) := by decide +kernel
theorem dc_78_58 : decode (sm_cc 78) 58 = .ok (.iconst 1, 1) := by decide +kernel
theorem dc_78_59 : decode (sm_cc 78) 59 = .ok (.iadd, 1) := by decide +kernel
theorem dc_78_60 : decode (sm_cc 78) 60 = .ok (.invokevirtual 105, 3) := by decide +kernel
theorem dc_78_63 : decode (sm_cc 78) 63 = .ok (.iinc 2 (1), 3) := by decide +kernel
theorem dc_78_66 : decode (sm_cc 78) 66 = .ok (.aload_n 0, 1) := by decide +kernel
theorem dc_78_67 : decode (sm_cc 78) 67 = .ok (.getfield 9, 3) := by decide +kernel
theorem dc_78_70 : decode (sm_cc 78) 70 = .ok (.getfield 27, 3) := by decide +kernel
theorem dc_78_73 : decode (sm_cc 78) 73 = .ok (.bipush (12), 2) := by decide +kernel
theorem dc_78_75 : decode (sm_cc 78) 75 = .ok (.if_icmp .ne (7), 3) := by decide +kernel
theorem dc_78_78 : decode (sm_cc 78) 78 = .ok (.iconst 1, 1) := by decide +kernel
theorem dc_78_79 : decode (sm_cc 78) 79 = .ok (.goto (4), 3) := by decide +kernel
theorem dc_78_83 : decode (sm_cc 78) 83 = .ok (.istore_n 3, 1) := by decide +kernel
theorem dc_78_84 : decode (sm_cc 78) 84 = .ok (.iload_n 3, 1) := by decide +kernel
theorem dc_78_85 : decode (sm_cc 78) 85 = .ok (.ifCond .eq (-55), 3) := by decide +kernel
theorem dc_78_88 : decode (sm_cc 78) 88 = .ok (.aload_n 0, 1) := by decide +kernel
theorem dc_78_89 : decode (sm_cc 78) 89 = .ok (.getfield 9, 3) := by decide +kernel
theorem dc_78_92 : decode (sm_cc 78) 92 = .ok (.bipush (12), 2) := by decide +kernel
theorem dc_78_94 : decode (sm_cc 78) 94 = .ok (.invokevirtual 33, 3) := by decide +kernel
theorem dc_78_97 : decode (sm_cc 78) 97 = .ok (.goto (-67), 3) := by decide +kernel
theorem dc_78_82 : decode (sm_cc 78) 82 = .ok (.iconst 0, 1) := by decide +kernel
theorem dc_78_100 : decode (sm_cc 78) 100 = .ok (.iload_n 2, 1) := by decide +kernel
theorem dc_78_101 : decode (sm_cc 78) 101 = .ok (.bipush (20), 2) := by decide +kernel
theorem dc_78_103 : decode (sm_cc 78) 103 = .ok (.if_icmp .le (10), 3) := by decide +kernel
theorem dc_78_113 : decode (sm_cc 78) 113 = .ok (.aload_n 0, 1) := by decide +kernel
theorem dc_78_114 : decode (sm_cc 78) 114 = .ok (.getfield 9, 3) := by decide +kernel
theorem dc_78_117 : decode (sm_cc 78) 117 = .ok (.bipush (11), 2) := by decide +kernel
theorem dc_78_119 : decode (sm_cc 78) 119 = .ok (.invokevirtual 33, 3) := by decide +kernel
theorem dc_78_122 : decode (sm_cc 78) 122 = .ok (.iload_n 2, 1) := by decide +kernel
theorem dc_78_123 : decode (sm_cc 78) 123 = .ok (.ireturn, 1) := by decide +kernel
theorem dc_78_106 : decode (sm_cc 78) 106 = .ok (.aload_n 0, 1) := by decide +kernel
theorem dc_78_107 : decode (sm_cc 78) 107 = .ok (.getfield 9, 3) := by decide +kernel
theorem dc_78_110 : decode (sm_cc 78) 110 = .ok (.invokevirtual 65, 3) := by decide +kernel
theorem kr_78_65 : sm_at mt_k (sm_ow 78) 65 = some (65, 1, 44, 1, 1122) := by decide +kernel
theorem dc_65_0 : decode (sm_cc 65) 0 = .ok (.aload_n 0, 1) := by decide +kernel
theorem dc_65_1 : decode (sm_cc 65) 1 = .ok (.iconst 0, 1) := by decide +kernel
theorem dc_65_2 : decode (sm_cc 65) 2 = .ok (.putfield 49, 3) := by decide +kernel
theorem fr_65_49 : sm_at mt_f (sm_ow 65) 49 = some (49, 1, 3, 0, 707) := by decide +kernel
theorem dc_65_5 : decode (sm_cc 65) 5 = .ok (.aload_n 0, 1) := by decide +kernel
theorem dc_65_6 : decode (sm_cc 65) 6 = .ok (.getfield 9, 3) := by decide +kernel
theorem fr_65_9 : sm_at mt_f (sm_ow 65) 9 = some (9, 1, 0, 0, 704) := by decide +kernel
theorem dc_65_9 : decode (sm_cc 65) 9 = .ok (.getfield 27, 3) := by decide +kernel
theorem fr_65_27 : sm_at mt_f (sm_ow 65) 27 = some (27, 3, 5, 1, 596) := by decide +kernel
theorem dc_65_12 : decode (sm_cc 65) 12 = .ok (.lookupswitch (226) #[(3, 84), (4, 91), (5, 108), (6, 162), (8, 194), (10, 212), (61, 129), (62, 140), (63, 151)], 84) := by decide +kernel
theorem dc_65_96 : decode (sm_cc 65) 96 = .ok (.aload_n 0, 1) := by decide +kernel
theorem dc_65_97 : decode (sm_cc 65) 97 = .ok (.invokevirtual 114, 3) := by decide +kernel
theorem ow_66 : 1 = sm_ow 66 := by decide +kernel
theorem kr_65_114 : sm_at mt_k (sm_ow 65) 114 = some (114, 0, 66, 0, 1083) := by decide +kernel
theorem np_66 : sm_np 66 = 0 := by decide +kernel
theorem dc_65_100 : decode (sm_cc 65) 100 = .ok (.goto (145), 3) := by decide +kernel
theorem dc_65_245 : decode (sm_cc 65) 245 = .ok (.return_, 1) := by decide +kernel
theorem rt_65 : sm_rt 65 = none := by decide +kernel
theorem dc_65_103 : decode (sm_cc 65) 103 = .ok (.aload_n 0, 1) := by decide +kernel
theorem dc_65_104 : decode (sm_cc 65) 104 = .ok (.ldc2_w 116, 3) := by decide +kernel
theorem cj_65_116 : sm_at mt_cj (sm_ow 65) 116 = some (116, (2305843009213693952), 1107) := by decide +kernel
theorem dc_65_107 : decode (sm_cc 65) 107 = .ok (.aload_n 0, 1) := by decide +kernel
theorem dc_65_108 : decode (sm_cc 65) 108 = .ok (.getfield 9, 3) := by decide +kernel
theorem dc_65_111 : decode (sm_cc 65) 111 = .ok (.getfield 118, 3) := by decide +kernel
theorem fr_65_118 : sm_at mt_f (sm_ow 65) 118 = some (118, 3, 10, 1, 608) := by decide +kernel
theorem dc_65_114 : decode (sm_cc 65) 114 = .ok (.invokevirtual 122, 3) := by decide +kernel
theorem ow_72 : 1 = sm_ow 72 := by decide +kernel
theorem kr_65_122 : sm_at mt_k (sm_ow 65) 122 = some (122, 0, 72, 0, 1108) := by decide +kernel
theorem np_72 : sm_np 72 = 2 := by decide +kernel
theorem dc_65_117 : decode (sm_cc 65) 117 = .ok (.goto (128), 3) := by decide +kernel
theorem dc_65_120 : decode (sm_cc 65) 120 = .ok (.aload_n 0, 1) := by decide +kernel
theorem dc_65_121 : decode (sm_cc 65) 121 = .ok (.aload_n 0, 1) := by decide +kernel
theorem dc_65_122 : decode (sm_cc 65) 122 = .ok (.getfield 9, 3) := by decide +kernel
theorem dc_65_125 : decode (sm_cc 65) 125 = .ok (.getfield 126, 3) := by decide +kernel
theorem fr_65_126 : sm_at mt_f (sm_ow 65) 126 = some (126, 3, 11, 1, 610) := by decide +kernel
theorem dc_65_128 : decode (sm_cc 65) 128 = .ok (.aload_n 0, 1) := by decide +kernel
theorem dc_65_129 : decode (sm_cc 65) 129 = .ok (.getfield 9, 3) := by decide +kernel
theorem dc_65_132 : decode (sm_cc 65) 132 = .ok (.getfield 129, 3) := by decide +kernel
theorem fr_65_129 : sm_at mt_f (sm_ow 65) 129 = some (129, 3, 12, 1, 612) := by decide +kernel
theorem dc_65_135 : decode (sm_cc 65) 135 = .ok (.invokevirtual 122, 3) := by decide +kernel
theorem dc_65_138 : decode (sm_cc 65) 138 = .ok (.goto (107), 3) := by decide +kernel
theorem dc_65_141 : decode (sm_cc 65) 141 = .ok (.aload_n 0, 1) := by decide +kernel
theorem dc_65_142 : decode (sm_cc 65) 142 = .ok (.ldc2_w 132, 3) := by decide +kernel
theorem cj_65_132 : sm_at mt_cj (sm_ow 65) 132 = some (132, (1152921504606846976), 1117) := by decide +kernel
theorem dc_65_145 : decode (sm_cc 65) 145 = .ok (.lconst 0, 1) := by decide +kernel
theorem dc_65_146 : decode (sm_cc 65) 146 = .ok (.invokevirtual 122, 3) := by decide +kernel
theorem dc_65_149 : decode (sm_cc 65) 149 = .ok (.goto (96), 3) := by decide +kernel
theorem dc_65_152 : decode (sm_cc 65) 152 = .ok (.aload_n 0, 1) := by decide +kernel
theorem dc_65_153 : decode (sm_cc 65) 153 = .ok (.ldc2_w 116, 3) := by decide +kernel
theorem dc_65_156 : decode (sm_cc 65) 156 = .ok (.lconst 1, 1) := by decide +kernel
theorem dc_65_157 : decode (sm_cc 65) 157 = .ok (.invokevirtual 122, 3) := by decide +kernel
theorem dc_65_160 : decode (sm_cc 65) 160 = .ok (.goto (85), 3) := by decide +kernel
theorem dc_65_163 : decode (sm_cc 65) 163 = .ok (.aload_n 0, 1) := by decide +kernel
theorem dc_65_164 : decode (sm_cc 65) 164 = .ok (.ldc2_w 116, 3) := by decide +kernel
theorem dc_65_167 : decode (sm_cc 65) 167 = .ok (.lconst 0, 1) := by decide +kernel
theorem dc_65_168 : decode (sm_cc 65) 168 = .ok (.invokevirtual 122, 3) := by decide +kernel
theorem dc_65_171 : decode (sm_cc 65) 171 = .ok (.goto (74), 3) := by decide +kernel
theorem dc_65_174 : decode (sm_cc 65) 174 = .ok (.aload_n 0, 1) := by decide +kernel
theorem dc_65_175 : decode (sm_cc 65) 175 = .ok (.iload_n 1, 1) := by decide +kernel
theorem dc_65_176 : decode (sm_cc 65) 176 = .ok (.invokevirtual 58, 3) := by decide +kernel
theorem kr_65_58 : sm_at mt_k (sm_ow 65) 58 = some (58, 0, 74, 0, 1118) := by decide +kernel
theorem dc_65_179 : decode (sm_cc 65) 179 = .ok (.ifCond .eq (10), 3) := by decide +kernel
theorem dc_65_182 : decode (sm_cc 65) 182 = .ok (.aload_n 0, 1) := by decide +kernel
theorem dc_65_183 : decode (sm_cc 65) 183 = .ok (.iload_n 1, 1) := by decide +kernel
theorem dc_65_184 : decode (sm_cc 65) 184 = .ok (.iconst 1, 1) := by decide +kernel
theorem dc_65_185 : decode (sm_cc 65) 185 = .ok (.iadd, 1) := by decide +kernel
theorem dc_65_186 : decode (sm_cc 65) 186 = .ok (.invokevirtual 105, 3) := by decide +kernel
theorem kr_65_105 : sm_at mt_k (sm_ow 65) 105 = some (105, 0, 57, 0, 1123) := by decide +kernel
theorem dc_65_189 : decode (sm_cc 65) 189 = .ok (.aload_n 0, 1) := by decide +kernel
theorem dc_65_190 : decode (sm_cc 65) 190 = .ok (.getfield 9, 3) := by decide +kernel
theorem dc_65_193 : decode (sm_cc 65) 193 = .ok (.bipush (7), 2) := by decide +kernel
theorem dc_65_195 : decode (sm_cc 65) 195 = .ok (.invokevirtual 33, 3) := by decide +kernel
theorem kr_65_33 : sm_at mt_k (sm_ow 65) 33 = some (33, 1, 75, 1, 1124) := by decide +kernel
theorem dc_65_198 : decode (sm_cc 65) 198 = .ok (.aload_n 0, 1) := by decide +kernel
theorem dc_65_199 : decode (sm_cc 65) 199 = .ok (.iconst 0, 1) := by decide +kernel
theorem dc_65_200 : decode (sm_cc 65) 200 = .ok (.putfield 49, 3) := by decide +kernel
theorem dc_65_203 : decode (sm_cc 65) 203 = .ok (.goto (42), 3) := by decide +kernel
theorem dc_65_206 : decode (sm_cc 65) 206 = .ok (.aload_n 0, 1) := by decide +kernel
theorem dc_65_207 : decode (sm_cc 65) 207 = .ok (.bipush (49), 2) := by decide +kernel
theorem dc_65_209 : decode (sm_cc 65) 209 = .ok (.aload_n 0, 1) := by decide +kernel
theorem dc_65_210 : decode (sm_cc 65) 210 = .ok (.iload_n 1, 1) := by decide +kernel
theorem dc_65_211 : decode (sm_cc 65) 211 = .ok (.bipush (9), 2) := by decide +kernel
theorem dc_65_213 : decode (sm_cc 65) 213 = .ok (.bipush (40), 2) := by decide +kernel
theorem dc_65_215 : decode (sm_cc 65) 215 = .ok (.invokevirtual 92, 3) := by decide +kernel
theorem kr_65_92 : sm_at mt_k (sm_ow 65) 92 = some (92, 0, 76, 0, 1128) := by decide +kernel
theorem dc_65_218 : decode (sm_cc 65) 218 = .ok (.invokevirtual 96, 3) := by decide +kernel
theorem kr_65_96 : sm_at mt_k (sm_ow 65) 96 = some (96, 0, 77, 0, 1132) := by decide +kernel
theorem dc_65_221 : decode (sm_cc 65) 221 = .ok (.goto (24), 3) := by decide +kernel
theorem dc_65_224 : decode (sm_cc 65) 224 = .ok (.aload_n 0, 1) := by decide +kernel
theorem dc_65_225 : decode (sm_cc 65) 225 = .ok (.bipush (50), 2) := by decide +kernel
theorem dc_65_227 : decode (sm_cc 65) 227 = .ok (.aload_n 0, 1) := by decide +kernel
theorem dc_65_228 : decode (sm_cc 65) 228 = .ok (.iload_n 1, 1) := by decide +kernel
theorem dc_65_229 : decode (sm_cc 65) 229 = .ok (.invokevirtual 134, 3) := by decide +kernel
theorem ow_78 : 1 = sm_ow 78 := by decide +kernel
theorem kr_65_134 : sm_at mt_k (sm_ow 65) 134 = some (134, 0, 78, 0, 1137) := by decide +kernel
theorem np_78 : sm_np 78 = 1 := by decide +kernel
theorem dc_65_232 : decode (sm_cc 65) 232 = .ok (.invokevirtual 96, 3) := by decide +kernel
theorem dc_65_235 : decode (sm_cc 65) 235 = .ok (.goto (10), 3) := by decide +kernel
theorem dc_65_238 : decode (sm_cc 65) 238 = .ok (.aload_n 0, 1) := by decide +kernel
theorem dc_65_239 : decode (sm_cc 65) 239 = .ok (.getfield 9, 3) := by decide +kernel
theorem dc_65_242 : decode (sm_cc 65) 242 = .ok (.invokevirtual 65, 3) := by decide +kernel
theorem kr_65_65 : sm_at mt_k (sm_ow 65) 65 = some (65, 1, 44, 1, 1122) := by decide +kernel
theorem eOr_go {d : Nat} {S Sf : cS} {v : Option Value} {dp : Nat} {S1 : cS} (hC : Ans (d + 8) 58 [.ref 44, .int (nI dp)] S none S1) (hB : Bod (d + 8) 57 7 [(2, .int (nI 0)), (0, .ref 44), (1, .int (nI dp))] [] (S1) v Sf) : Bod (d + 8) 57 0 [(0, .ref 44), (1, .int (nI dp))] [] S v Sf := by
  refine Bod.go dc_57_0 rfl ?_
  refine Bod.go dc_57_1 rfl ?_
  refine Bod.virt (r := []) dc_57_2 kr_57_23 ⟨Or.inl rfl, ow_58, cl_1⟩ (by rw [np_58]; rfl) (by rw [np_58]; rfl) (ob_of (mk_44 _)) (Nat.le_of_ble_eq_true rfl) (hC  ) ?_
  show Bod _ _ _ _ [] _ _ _
  refine Bod.ic 0 (by decide) dc_57_5 ?_
  refine Bod.istn dc_57_6 (by rw [ml_57]; exact Nat.le_of_ble_eq_true rfl) ?_
  exact Bod.lv (by rfl) hB
theorem eOr_stop {d : Nat} {S : cS} {dp : Nat} {t : Nat} {tk : Nat} (htk : sI S 3105 = nI tk) (htk2 : tk < 64) (hn : tk ≠ 58) (ht : t < 3000) : Bod (d + 8) 57 7 [(2, .int (nI t)), (0, .ref 44), (1, .int (nI dp))] [] S none (S) := by
  refine Bod.go dc_57_7 rfl ?_
  refine Bod.sip 3000 (by decide) dc_57_8 ?_
  refine Bod.icF dc_57_11 rfl (k2_ge_F t 3000 rfl rfl (by omega) (by omega)) ?_
  refine Bod.go dc_57_14 rfl ?_
  refine Bod.get dc_57_15 fr_57_9 (mk_44 _) rfl ?_
  refine Bod.get dc_57_18 fr_57_27 (mk_31 _) rfl ?_
  refine Bod.eqI (nI tk) (by first | assumption | rfl | exact congrArg nI (by omega) | (simp (disch := omega) only [rI, rIe, rA, rIA, rLA, rJA, rVI, rQI, rVA, rQA, upd_at,  rAI, rLI, rJI, nI_add, pk_sub, kc_0, kc_1, kc_2, kc_3, kc_4, kc_5, reduceIte, Nat.reduceEqDiff, Nat.add_zero, rI_hold, rI_hold, rL_hold, htk]; done)) ?_
  refine Bod.bip 58 (by decide) dc_57_21 ?_
  refine Bod.icT dc_57_23 rfl (k2_ne_T (k_ne tk 58 rfl rfl (by omega) (by omega) (by omega))) ?_
  exact Bod.retV dc_57_79 rt_57
theorem eOr_stop2 {d : Nat} {S : cS} {dp : Nat} {t : Nat} {tk : Nat} {z : Int32} (htk : sI S 3105 = nI tk) (htk2 : tk < 64) (hn : tk ≠ 58) (ht : t < 3000) : Bod (d + 8) 57 7 [(2, .int (nI t)), (3, .int z), (0, .ref 44), (1, .int (nI dp))] [] S none (S) := by
  refine Bod.go dc_57_7 rfl ?_
  refine Bod.sip 3000 (by decide) dc_57_8 ?_
  refine Bod.icF dc_57_11 rfl (k2_ge_F t 3000 rfl rfl (by omega) (by omega)) ?_
  refine Bod.go dc_57_14 rfl ?_
  refine Bod.get dc_57_15 fr_57_9 (mk_44 _) rfl ?_
  refine Bod.get dc_57_18 fr_57_27 (mk_31 _) rfl ?_
  refine Bod.eqI (nI tk) (by first | assumption | rfl | exact congrArg nI (by omega) | (simp (disch := omega) only [rI, rIe, rA, rIA, rLA, rJA, rVI, rQI, rVA, rQA, upd_at,  rAI, rLI, rJI, nI_add, pk_sub, kc_0, kc_1, kc_2, kc_3, kc_4, kc_5, reduceIte, Nat.reduceEqDiff, Nat.add_zero, rI_hold, rI_hold, rL_hold, htk]; done)) ?_
  refine Bod.bip 58 (by decide) dc_57_21 ?_
  refine Bod.icT dc_57_23 rfl (k2_ne_T (k_ne tk 58 rfl rfl (by omega) (by omega) (by omega))) ?_
  exact Bod.retV dc_57_79 rt_57
theorem eOr_turn {d : Nat} {S Sf : cS} {v : Option Value} {dp : Nat} {t : Nat} {a : Nat} {b : Nat} {S1 : cS} {S3 : cS} (htk : sI S 3105 = nI 58) (ht : t < 3000) (hP : Ans (d + 8) 75 [.ref 31, .int (nI 58)] S none S1) (ha : sI S1 2307 = nI a) (haM : a + 2 ≤ 40960) (hC : Ans (d + 8) 58 [.ref 44, .int (nI dp)] (wI 2307 (nI (a + 2)) (wA 24 (a + 1) (nI 0) (wA 24 a (nI 7) S1))) none S3) (hb : sI S3 2307 = nI b) (hab : a + 2 ≤ b) (hbM : b ≤ 40960) (hB : Bod (d + 8) 57 7 [(2, .int (nI (t + 1))), (3, .int (nI a)), (0, .ref 44), (1, .int (nI dp))] [] (wI 4403 (nI 0) (wA 24 (a + 1) ((nI b)) S3)) v Sf) : Bod (d + 8) 57 7 [(2, .int (nI t)), (0, .ref 44), (1, .int (nI dp))] [] S v Sf := by
  refine Bod.go dc_57_7 rfl ?_
  refine Bod.sip 3000 (by decide) dc_57_8 ?_
  refine Bod.icF dc_57_11 rfl (k2_ge_F t 3000 rfl rfl (by omega) (by omega)) ?_
  refine Bod.go dc_57_14 rfl ?_
  refine Bod.get dc_57_15 fr_57_9 (mk_44 _) rfl ?_
  refine Bod.get dc_57_18 fr_57_27 (mk_31 _) rfl ?_
  refine Bod.eqI (nI 58) (by first | assumption | rfl | exact congrArg nI (by omega) | (simp (disch := omega) only [rI, rIe, rA, rIA, rLA, rJA, rVI, rQI, rVA, rQA, upd_at,  rAI, rLI, rJI, nI_add, pk_sub, kc_0, kc_1, kc_2, kc_3, kc_4, kc_5, reduceIte, Nat.reduceEqDiff, Nat.add_zero, rI_hold, rI_hold, rL_hold, htk, ha, hb]; done)) ?_
  refine Bod.bip 58 (by decide) dc_57_21 ?_
  refine Bod.icF dc_57_23 rfl (k2_ne_F (k_eq 58 58 rfl rfl (by omega))) ?_
  refine Bod.go dc_57_26 rfl ?_
  refine Bod.get dc_57_27 fr_57_9 (mk_44 _) rfl ?_
  refine Bod.bip 58 (by decide) dc_57_30 ?_
  refine Bod.virt (r := []) dc_57_32 kr_57_33 ⟨Or.inr rfl, ow_75, cl_3⟩ (by rw [np_75]; rfl) (by rw [np_75]; rfl) (ob_of (mk_31 _)) (Nat.le_of_ble_eq_true rfl) (hP  ) ?_
  show Bod _ _ _ _ [] _ _ _
  refine Bod.go dc_57_35 rfl ?_
  refine Bod.get dc_57_36 fr_57_15 (mk_44 _) rfl ?_
  refine Bod.bip 7 (by decide) dc_57_39 ?_
  refine Bod.ic 0 (by decide) dc_57_41 ?_
  refine Bod.virt (r := []) dc_57_42 kr_57_38 ⟨Or.inr rfl, ow_54, cl_7⟩ (by rw [np_54]; rfl) (by rw [np_54]; rfl) (ob_of (mk_23 _)) (Nat.le_of_ble_eq_true rfl) (put2_ev (p := a) (x0 := (nI 7)) (x1 := (nI 0)) (by first | (simp (disch := omega) only [rI, rIe, rA, rIA, rLA, rJA, rVI, rQI, rVA, rQA, upd_at,  rAI, rLI, rJI, nI_add, pk_sub, kc_0, kc_1, kc_2, kc_3, kc_4, kc_5, reduceIte, Nat.reduceEqDiff, Nat.add_zero, rI_hold, rI_hold, rL_hold, htk, ha, hb]; done) | (simp (disch := omega) only [rI, rIe, rA, rIA, rLA, rJA, rVI, rQI, rVA, rQA, upd_at,  rAI, rLI, rJI, nI_add, pk_sub, kc_0, kc_1, kc_2, kc_3, kc_4, kc_5, reduceIte, Nat.reduceEqDiff, Nat.add_zero, rI_hold, rI_hold, rL_hold, htk, ha, hb]; exact congrArg nI (by omega))) (by omega)) ?_
  show Bod _ _ _ _ [_] _ _ _
  refine Bod.istn dc_57_45 (by rw [ml_57]; exact Nat.le_of_ble_eq_true rfl) ?_
  refine Bod.go dc_57_46 rfl ?_
  refine Bod.go dc_57_47 rfl ?_
  refine Bod.virt (r := []) dc_57_48 kr_57_23 ⟨Or.inl rfl, ow_58, cl_1⟩ (by rw [np_58]; rfl) (by rw [np_58]; rfl) (ob_of (mk_44 _)) (Nat.le_of_ble_eq_true rfl) (hC  ) ?_
  show Bod _ _ _ _ [] _ _ _
  refine Bod.go dc_57_51 rfl ?_
  refine Bod.get dc_57_52 fr_57_15 (mk_44 _) rfl ?_
  refine Bod.go dc_57_55 rfl ?_
  refine Bod.ic 1 (by decide) dc_57_56 ?_
  refine Bod.addN (a + 1) (by omega) dc_57_57 ?_
  refine Bod.go dc_57_58 rfl ?_
  refine Bod.get dc_57_59 fr_57_15 (mk_44 _) rfl ?_
  refine Bod.get dc_57_62 fr_57_42 (mk_23 _) rfl ?_
  refine Bod.eqI (nI b) (by first | (simp (disch := omega) only [rI, rIe, rA, rIA, rLA, rJA, rVI, rQI, rVA, rQA, upd_at,  rAI, rLI, rJI, nI_add, pk_sub, kc_0, kc_1, kc_2, kc_3, kc_4, kc_5, reduceIte, Nat.reduceEqDiff, Nat.add_zero, rI_hold, rI_hold, rL_hold, htk, ha, hb]; done) | (simp (disch := omega) only [rI, rIe, rA, rIA, rLA, rJA, rVI, rQI, rVA, rQA, upd_at,  rAI, rLI, rJI, nI_add, pk_sub, kc_0, kc_1, kc_2, kc_3, kc_4, kc_5, reduceIte, Nat.reduceEqDiff, Nat.add_zero, rI_hold, rI_hold, rL_hold, htk, ha, hb]; exact congrArg nI (by omega))) ?_
  refine Bod.virt (r := []) dc_57_65 kr_57_45 ⟨Or.inr rfl, ow_83, cl_7⟩ (by rw [np_83]; rfl) (by rw [np_83]; rfl) (ob_of (mk_23 _)) (Nat.le_of_ble_eq_true rfl) (patch_T (p := b) (q := a + 1) (x := (nI b)) (by first | (simp (disch := omega) only [rI, rIe, rA, rIA, rLA, rJA, rVI, rQI, rVA, rQA, upd_at,  rAI, rLI, rJI, nI_add, pk_sub, kc_0, kc_1, kc_2, kc_3, kc_4, kc_5, reduceIte, Nat.reduceEqDiff, Nat.add_zero, rI_hold, rI_hold, rL_hold, htk, ha, hb]; done) | (simp (disch := omega) only [rI, rIe, rA, rIA, rLA, rJA, rVI, rQI, rVA, rQA, upd_at,  rAI, rLI, rJI, nI_add, pk_sub, kc_0, kc_1, kc_2, kc_3, kc_4, kc_5, reduceIte, Nat.reduceEqDiff, Nat.add_zero, rI_hold, rI_hold, rL_hold, htk, ha, hb]; exact congrArg nI (by omega))) (by omega) (by omega)) ?_
  show Bod _ _ _ _ [] _ _ _
  refine Bod.go dc_57_68 rfl ?_
  refine Bod.ic 0 (by decide) dc_57_69 ?_
  refine Bod.put dc_57_70 fr_57_49 (mk_44 _) (Nat.le_of_ble_eq_true rfl) pf_1_3 (st_4403 _ _) (mu_I _ _ _) ?_
  refine Bod.incN (t + 1) (by rw [kc_1, nI_add]) dc_57_73 (by rw [ml_57]; exact Nat.le_of_ble_eq_true rfl) rfl ?_
  refine Bod.go dc_57_76 rfl ?_
  exact Bod.lv (by rfl) hB
theorem eOr_turn2 {d : Nat} {S Sf : cS} {v : Option Value} {dp : Nat} {t : Nat} {a : Nat} {b : Nat} {S1 : cS} {S3 : cS} {z : Int32} (htk : sI S 3105 = nI 58) (ht : t < 3000) (hP : Ans (d + 8) 75 [.ref 31, .int (nI 58)] S none S1) (ha : sI S1 2307 = nI a) (haM : a + 2 ≤ 40960) (hC : Ans (d + 8) 58 [.ref 44, .int (nI dp)] (wI 2307 (nI (a + 2)) (wA 24 (a + 1) (nI 0) (wA 24 a (nI 7) S1))) none S3) (hb : sI S3 2307 = nI b) (hab : a + 2 ≤ b) (hbM : b ≤ 40960) (hB : Bod (d + 8) 57 7 [(2, .int (nI (t + 1))), (3, .int (nI a)), (0, .ref 44), (1, .int (nI dp))] [] (wI 4403 (nI 0) (wA 24 (a + 1) ((nI b)) S3)) v Sf) : Bod (d + 8) 57 7 [(2, .int (nI t)), (3, .int z), (0, .ref 44), (1, .int (nI dp))] [] S v Sf := by
  refine Bod.go dc_57_7 rfl ?_
  refine Bod.sip 3000 (by decide) dc_57_8 ?_
  refine Bod.icF dc_57_11 rfl (k2_ge_F t 3000 rfl rfl (by omega) (by omega)) ?_
  refine Bod.go dc_57_14 rfl ?_
  refine Bod.get dc_57_15 fr_57_9 (mk_44 _) rfl ?_
  refine Bod.get dc_57_18 fr_57_27 (mk_31 _) rfl ?_
  refine Bod.eqI (nI 58) (by first | assumption | rfl | exact congrArg nI (by omega) | (simp (disch := omega) only [rI, rIe, rA, rIA, rLA, rJA, rVI, rQI, rVA, rQA, upd_at,  rAI, rLI, rJI, nI_add, pk_sub, kc_0, kc_1, kc_2, kc_3, kc_4, kc_5, reduceIte, Nat.reduceEqDiff, Nat.add_zero, rI_hold, rI_hold, rL_hold, htk, ha, hb]; done)) ?_
  refine Bod.bip 58 (by decide) dc_57_21 ?_
  refine Bod.icF dc_57_23 rfl (k2_ne_F (k_eq 58 58 rfl rfl (by omega))) ?_
  refine Bod.go dc_57_26 rfl ?_
  refine Bod.get dc_57_27 fr_57_9 (mk_44 _) rfl ?_
  refine Bod.bip 58 (by decide) dc_57_30 ?_
  refine Bod.virt (r := []) dc_57_32 kr_57_33 ⟨Or.inr rfl, ow_75, cl_3⟩ (by rw [np_75]; rfl) (by rw [np_75]; rfl) (ob_of (mk_31 _)) (Nat.le_of_ble_eq_true rfl) (hP  ) ?_
  show Bod _ _ _ _ [] _ _ _
  refine Bod.go dc_57_35 rfl ?_
  refine Bod.get dc_57_36 fr_57_15 (mk_44 _) rfl ?_
  refine Bod.bip 7 (by decide) dc_57_39 ?_
  refine Bod.ic 0 (by decide) dc_57_41 ?_
  refine Bod.virt (r := []) dc_57_42 kr_57_38 ⟨Or.inr rfl, ow_54, cl_7⟩ (by rw [np_54]; rfl) (by rw [np_54]; rfl) (ob_of (mk_23 _)) (Nat.le_of_ble_eq_true rfl) (put2_ev (p := a) (x0 := (nI 7)) (x1 := (nI 0)) (by first | (simp (disch := omega) only [rI, rIe, rA, rIA, rLA, rJA, rVI, rQI, rVA, rQA, upd_at,  rAI, rLI, rJI, nI_add, pk_sub, kc_0, kc_1, kc_2, kc_3, kc_4, kc_5, reduceIte, Nat.reduceEqDiff, Nat.add_zero, rI_hold, rI_hold, rL_hold, htk, ha, hb]; done) | (simp (disch := omega) only [rI, rIe, rA, rIA, rLA, rJA, rVI, rQI, rVA, rQA, upd_at,  rAI, rLI, rJI, nI_add, pk_sub, kc_0, kc_1, kc_2, kc_3, kc_4, kc_5, reduceIte, Nat.reduceEqDiff, Nat.add_zero, rI_hold, rI_hold, rL_hold, htk, ha, hb]; exact congrArg nI (by omega))) (by omega)) ?_
  show Bod _ _ _ _ [_] _ _ _
  refine Bod.istn dc_57_45 (by rw [ml_57]; exact Nat.le_of_ble_eq_true rfl) ?_
  refine Bod.go dc_57_46 rfl ?_
  refine Bod.go dc_57_47 rfl ?_
  refine Bod.virt (r := []) dc_57_48 kr_57_23 ⟨Or.inl rfl, ow_58, cl_1⟩ (by rw [np_58]; rfl) (by rw [np_58]; rfl) (ob_of (mk_44 _)) (Nat.le_of_ble_eq_true rfl) (hC  ) ?_
  show Bod _ _ _ _ [] _ _ _
  refine Bod.go dc_57_51 rfl ?_
  refine Bod.get dc_57_52 fr_57_15 (mk_44 _) rfl ?_
  refine Bod.go dc_57_55 rfl ?_
  refine Bod.ic 1 (by decide) dc_57_56 ?_
  refine Bod.addN (a + 1) (by omega) dc_57_57 ?_
  refine Bod.go dc_57_58 rfl ?_
  refine Bod.get dc_57_59 fr_57_15 (mk_44 _) rfl ?_
  refine Bod.get dc_57_62 fr_57_42 (mk_23 _) rfl ?_
  refine Bod.eqI (nI b) (by first | (simp (disch := omega) only [rI, rIe, rA, rIA, rLA, rJA, rVI, rQI, rVA, rQA, upd_at,  rAI, rLI, rJI, nI_add, pk_sub, kc_0, kc_1, kc_2, kc_3, kc_4, kc_5, reduceIte, Nat.reduceEqDiff, Nat.add_zero, rI_hold, rI_hold, rL_hold, htk, ha, hb]; done) | (simp (disch := omega) only [rI, rIe, rA, rIA, rLA, rJA, rVI, rQI, rVA, rQA, upd_at,  rAI, rLI, rJI, nI_add, pk_sub, kc_0, kc_1, kc_2, kc_3, kc_4, kc_5, reduceIte, Nat.reduceEqDiff, Nat.add_zero, rI_hold, rI_hold, rL_hold, htk, ha, hb]; exact congrArg nI (by omega))) ?_
  refine Bod.virt (r := []) dc_57_65 kr_57_45 ⟨Or.inr rfl, ow_83, cl_7⟩ (by rw [np_83]; rfl) (by rw [np_83]; rfl) (ob_of (mk_23 _)) (Nat.le_of_ble_eq_true rfl) (patch_T (p := b) (q := a + 1) (x := (nI b)) (by first | (simp (disch := omega) only [rI, rIe, rA, rIA, rLA, rJA, rVI, rQI, rVA, rQA, upd_at,  rAI, rLI, rJI, nI_add, pk_sub, kc_0, kc_1, kc_2, kc_3, kc_4, kc_5, reduceIte, Nat.reduceEqDiff, Nat.add_zero, rI_hold, rI_hold, rL_hold, htk, ha, hb]; done) | (simp (disch := omega) only [rI, rIe, rA, rIA, rLA, rJA, rVI, rQI, rVA, rQA, upd_at,  rAI, rLI, rJI, nI_add, pk_sub, kc_0, kc_1, kc_2, kc_3, kc_4, kc_5, reduceIte, Nat.reduceEqDiff, Nat.add_zero, rI_hold, rI_hold, rL_hold, htk, ha, hb]; exact congrArg nI (by omega))) (by omega) (by omega)) ?_
  show Bod _ _ _ _ [] _ _ _
  refine Bod.go dc_57_68 rfl ?_
  refine Bod.ic 0 (by decide) dc_57_69 ?_
  refine Bod.put dc_57_70 fr_57_49 (mk_44 _) (Nat.le_of_ble_eq_true rfl) pf_1_3 (st_4403 _ _) (mu_I _ _ _) ?_
  refine Bod.incN (t + 1) (by rw [kc_1, nI_add]) dc_57_73 (by rw [ml_57]; exact Nat.le_of_ble_eq_true rfl) rfl ?_
  refine Bod.go dc_57_76 rfl ?_
  exact Bod.lv (by rfl) hB
theorem eAnd_go {d : Nat} {S Sf : cS} {v : Option Value} {dp : Nat} {S1 : cS} (hC : Ans (d + 8) 59 [.ref 44, .int (nI dp)] S none S1) (hB : Bod (d + 8) 58 7 [(2, .int (nI 0)), (0, .ref 44), (1, .int (nI dp))] [] (S1) v Sf) : Bod (d + 8) 58 0 [(0, .ref 44), (1, .int (nI dp))] [] S v Sf := by
  refine Bod.go dc_58_0 rfl ?_
  refine Bod.go dc_58_1 rfl ?_
  refine Bod.virt (r := []) dc_58_2 kr_58_52 ⟨Or.inl rfl, ow_59, cl_1⟩ (by rw [np_59]; rfl) (by rw [np_59]; rfl) (ob_of (mk_44 _)) (Nat.le_of_ble_eq_true rfl) (hC  ) ?_
  show Bod _ _ _ _ [] _ _ _
  refine Bod.ic 0 (by decide) dc_58_5 ?_
  refine Bod.istn dc_58_6 (by rw [ml_58]; exact Nat.le_of_ble_eq_true rfl) ?_
  exact Bod.lv (by rfl) hB
theorem eAnd_stop {d : Nat} {S : cS} {dp : Nat} {t : Nat} {tk : Nat} (htk : sI S 3105 = nI tk) (htk2 : tk < 64) (hn : tk ≠ 57) (ht : t < 3000) : Bod (d + 8) 58 7 [(2, .int (nI t)), (0, .ref 44), (1, .int (nI dp))] [] S none (S) := by
  refine Bod.go dc_58_7 rfl ?_
  refine Bod.sip 3000 (by decide) dc_58_8 ?_
  refine Bod.icF dc_58_11 rfl (k2_ge_F t 3000 rfl rfl (by omega) (by omega)) ?_
  refine Bod.go dc_58_14 rfl ?_
  refine Bod.get dc_58_15 fr_58_9 (mk_44 _) rfl ?_
  refine Bod.get dc_58_18 fr_58_27 (mk_31 _) rfl ?_
  refine Bod.eqI (nI tk) (by first | assumption | rfl | exact congrArg nI (by omega) | (simp (disch := omega) only [rI, rIe, rA, rIA, rLA, rJA, rVI, rQI, rVA, rQA, upd_at,  rAI, rLI, rJI, nI_add, pk_sub, kc_0, kc_1, kc_2, kc_3, kc_4, kc_5, reduceIte, Nat.reduceEqDiff, Nat.add_zero, rI_hold, rI_hold, rL_hold, htk]; done)) ?_
  refine Bod.bip 57 (by decide) dc_58_21 ?_
  refine Bod.icT dc_58_23 rfl (k2_ne_T (k_ne tk 57 rfl rfl (by omega) (by omega) (by omega))) ?_
  exact Bod.retV dc_58_79 rt_58
theorem eAnd_stop2 {d : Nat} {S : cS} {dp : Nat} {t : Nat} {tk : Nat} {z : Int32} (htk : sI S 3105 = nI tk) (htk2 : tk < 64) (hn : tk ≠ 57) (ht : t < 3000) : Bod (d + 8) 58 7 [(2, .int (nI t)), (3, .int z), (0, .ref 44), (1, .int (nI dp))] [] S none (S) := by
  refine Bod.go dc_58_7 rfl ?_
  refine Bod.sip 3000 (by decide) dc_58_8 ?_
  refine Bod.icF dc_58_11 rfl (k2_ge_F t 3000 rfl rfl (by omega) (by omega)) ?_
  refine Bod.go dc_58_14 rfl ?_
  refine Bod.get dc_58_15 fr_58_9 (mk_44 _) rfl ?_
  refine Bod.get dc_58_18 fr_58_27 (mk_31 _) rfl ?_
  refine Bod.eqI (nI tk) (by first | assumption | rfl | exact congrArg nI (by omega) | (simp (disch := omega) only [rI, rIe, rA, rIA, rLA, rJA, rVI, rQI, rVA, rQA, upd_at,  rAI, rLI, rJI, nI_add, pk_sub, kc_0, kc_1, kc_2, kc_3, kc_4, kc_5, reduceIte, Nat.reduceEqDiff, Nat.add_zero, rI_hold, rI_hold, rL_hold, htk]; done)) ?_
  refine Bod.bip 57 (by decide) dc_58_21 ?_
  refine Bod.icT dc_58_23 rfl (k2_ne_T (k_ne tk 57 rfl rfl (by omega) (by omega) (by omega))) ?_
  exact Bod.retV dc_58_79 rt_58
theorem eAnd_turn {d : Nat} {S Sf : cS} {v : Option Value} {dp : Nat} {t : Nat} {a : Nat} {b : Nat} {S1 : cS} {S3 : cS} (htk : sI S 3105 = nI 57) (ht : t < 3000) (hP : Ans (d + 8) 75 [.ref 31, .int (nI 57)] S none S1) (ha : sI S1 2307 = nI a) (haM : a + 2 ≤ 40960) (hC : Ans (d + 8) 59 [.ref 44, .int (nI dp)] (wI 2307 (nI (a + 2)) (wA 24 (a + 1) (nI 0) (wA 24 a (nI 6) S1))) none S3) (hb : sI S3 2307 = nI b) (hab : a + 2 ≤ b) (hbM : b ≤ 40960) (hB : Bod (d + 8) 58 7 [(2, .int (nI (t + 1))), (3, .int (nI a)), (0, .ref 44), (1, .int (nI dp))] [] (wI 4403 (nI 0) (wA 24 (a + 1) ((nI b)) S3)) v Sf) : Bod (d + 8) 58 7 [(2, .int (nI t)), (0, .ref 44), (1, .int (nI dp))] [] S v Sf := by
  refine Bod.go dc_58_7 rfl ?_
  refine Bod.sip 3000 (by decide) dc_58_8 ?_
  refine Bod.icF dc_58_11 rfl (k2_ge_F t 3000 rfl rfl (by omega) (by omega)) ?_
  refine Bod.go dc_58_14 rfl ?_
  refine Bod.get dc_58_15 fr_58_9 (mk_44 _) rfl ?_
  refine Bod.get dc_58_18 fr_58_27 (mk_31 _) rfl ?_
  refine Bod.eqI (nI 57) (by first | assumption | rfl | exact congrArg nI (by omega) | (simp (disch := omega) only [rI, rIe, rA, rIA, rLA, rJA, rVI, rQI, rVA, rQA, upd_at,  rAI, rLI, rJI, nI_add, pk_sub, kc_0, kc_1, kc_2, kc_3, kc_4, kc_5, reduceIte, Nat.reduceEqDiff, Nat.add_zero, rI_hold, rI_hold, rL_hold, htk, ha, hb]; done)) ?_
  refine Bod.bip 57 (by decide) dc_58_21 ?_
  refine Bod.icF dc_58_23 rfl (k2_ne_F (k_eq 57 57 rfl rfl (by omega))) ?_
  refine Bod.go dc_58_26 rfl ?_
  refine Bod.get dc_58_27 fr_58_9 (mk_44 _) rfl ?_
  refine Bod.bip 57 (by decide) dc_58_30 ?_
  refine Bod.virt (r := []) dc_58_32 kr_58_33 ⟨Or.inr rfl, ow_75, cl_3⟩ (by rw [np_75]; rfl) (by rw [np_75]; rfl) (ob_of (mk_31 _)) (Nat.le_of_ble_eq_true rfl) (hP  ) ?_
  show Bod _ _ _ _ [] _ _ _
  refine Bod.go dc_58_35 rfl ?_
  refine Bod.get dc_58_36 fr_58_15 (mk_44 _) rfl ?_
  refine Bod.bip 6 (by decide) dc_58_39 ?_
  refine Bod.ic 0 (by decide) dc_58_41 ?_
  refine Bod.virt (r := []) dc_58_42 kr_58_38 ⟨Or.inr rfl, ow_54, cl_7⟩ (by rw [np_54]; rfl) (by rw [np_54]; rfl) (ob_of (mk_23 _)) (Nat.le_of_ble_eq_true rfl) (put2_ev (p := a) (x0 := (nI 6)) (x1 := (nI 0)) (by first | (simp (disch := omega) only [rI, rIe, rA, rIA, rLA, rJA, rVI, rQI, rVA, rQA, upd_at,  rAI, rLI, rJI, nI_add, pk_sub, kc_0, kc_1, kc_2, kc_3, kc_4, kc_5, reduceIte, Nat.reduceEqDiff, Nat.add_zero, rI_hold, rI_hold, rL_hold, htk, ha, hb]; done) | (simp (disch := omega) only [rI, rIe, rA, rIA, rLA, rJA, rVI, rQI, rVA, rQA, upd_at,  rAI, rLI, rJI, nI_add, pk_sub, kc_0, kc_1, kc_2, kc_3, kc_4, kc_5, reduceIte, Nat.reduceEqDiff, Nat.add_zero, rI_hold, rI_hold, rL_hold, htk, ha, hb]; exact congrArg nI (by omega))) (by omega)) ?_
  show Bod _ _ _ _ [_] _ _ _
  refine Bod.istn dc_58_45 (by rw [ml_58]; exact Nat.le_of_ble_eq_true rfl) ?_
  refine Bod.go dc_58_46 rfl ?_
  refine Bod.go dc_58_47 rfl ?_
  refine Bod.virt (r := []) dc_58_48 kr_58_52 ⟨Or.inl rfl, ow_59, cl_1⟩ (by rw [np_59]; rfl) (by rw [np_59]; rfl) (ob_of (mk_44 _)) (Nat.le_of_ble_eq_true rfl) (hC  ) ?_
  show Bod _ _ _ _ [] _ _ _
  refine Bod.go dc_58_51 rfl ?_
  refine Bod.get dc_58_52 fr_58_15 (mk_44 _) rfl ?_
  refine Bod.go dc_58_55 rfl ?_
  refine Bod.ic 1 (by decide) dc_58_56 ?_
  refine Bod.addN (a + 1) (by omega) dc_58_57 ?_
  refine Bod.go dc_58_58 rfl ?_
  refine Bod.get dc_58_59 fr_58_15 (mk_44 _) rfl ?_
  refine Bod.get dc_58_62 fr_58_42 (mk_23 _) rfl ?_
  refine Bod.eqI (nI b) (by first | (simp (disch := omega) only [rI, rIe, rA, rIA, rLA, rJA, rVI, rQI, rVA, rQA, upd_at,  rAI, rLI, rJI, nI_add, pk_sub, kc_0, kc_1, kc_2, kc_3, kc_4, kc_5, reduceIte, Nat.reduceEqDiff, Nat.add_zero, rI_hold, rI_hold, rL_hold, htk, ha, hb]; done) | (simp (disch := omega) only [rI, rIe, rA, rIA, rLA, rJA, rVI, rQI, rVA, rQA, upd_at,  rAI, rLI, rJI, nI_add, pk_sub, kc_0, kc_1, kc_2, kc_3, kc_4, kc_5, reduceIte, Nat.reduceEqDiff, Nat.add_zero, rI_hold, rI_hold, rL_hold, htk, ha, hb]; exact congrArg nI (by omega))) ?_
  refine Bod.virt (r := []) dc_58_65 kr_58_45 ⟨Or.inr rfl, ow_83, cl_7⟩ (by rw [np_83]; rfl) (by rw [np_83]; rfl) (ob_of (mk_23 _)) (Nat.le_of_ble_eq_true rfl) (patch_T (p := b) (q := a + 1) (x := (nI b)) (by first | (simp (disch := omega) only [rI, rIe, rA, rIA, rLA, rJA, rVI, rQI, rVA, rQA, upd_at,  rAI, rLI, rJI, nI_add, pk_sub, kc_0, kc_1, kc_2, kc_3, kc_4, kc_5, reduceIte, Nat.reduceEqDiff, Nat.add_zero, rI_hold, rI_hold, rL_hold, htk, ha, hb]; done) | (simp (disch := omega) only [rI, rIe, rA, rIA, rLA, rJA, rVI, rQI, rVA, rQA, upd_at,  rAI, rLI, rJI, nI_add, pk_sub, kc_0, kc_1, kc_2, kc_3, kc_4, kc_5, reduceIte, Nat.reduceEqDiff, Nat.add_zero, rI_hold, rI_hold, rL_hold, htk, ha, hb]; exact congrArg nI (by omega))) (by omega) (by omega)) ?_
  show Bod _ _ _ _ [] _ _ _
  refine Bod.go dc_58_68 rfl ?_
  refine Bod.ic 0 (by decide) dc_58_69 ?_
  refine Bod.put dc_58_70 fr_58_49 (mk_44 _) (Nat.le_of_ble_eq_true rfl) pf_1_3 (st_4403 _ _) (mu_I _ _ _) ?_
  refine Bod.incN (t + 1) (by rw [kc_1, nI_add]) dc_58_73 (by rw [ml_58]; exact Nat.le_of_ble_eq_true rfl) rfl ?_
  refine Bod.go dc_58_76 rfl ?_
  exact Bod.lv (by rfl) hB
theorem eAnd_turn2 {d : Nat} {S Sf : cS} {v : Option Value} {dp : Nat} {t : Nat} {a : Nat} {b : Nat} {S1 : cS} {S3 : cS} {z : Int32} (htk : sI S 3105 = nI 57) (ht : t < 3000) (hP : Ans (d + 8) 75 [.ref 31, .int (nI 57)] S none S1) (ha : sI S1 2307 = nI a) (haM : a + 2 ≤ 40960) (hC : Ans (d + 8) 59 [.ref 44, .int (nI dp)] (wI 2307 (nI (a + 2)) (wA 24 (a + 1) (nI 0) (wA 24 a (nI 6) S1))) none S3) (hb : sI S3 2307 = nI b) (hab : a + 2 ≤ b) (hbM : b ≤ 40960) (hB : Bod (d + 8) 58 7 [(2, .int (nI (t + 1))), (3, .int (nI a)), (0, .ref 44), (1, .int (nI dp))] [] (wI 4403 (nI 0) (wA 24 (a + 1) ((nI b)) S3)) v Sf) : Bod (d + 8) 58 7 [(2, .int (nI t)), (3, .int z), (0, .ref 44), (1, .int (nI dp))] [] S v Sf := by
  refine Bod.go dc_58_7 rfl ?_
  refine Bod.sip 3000 (by decide) dc_58_8 ?_
  refine Bod.icF dc_58_11 rfl (k2_ge_F t 3000 rfl rfl (by omega) (by omega)) ?_
  refine Bod.go dc_58_14 rfl ?_
  refine Bod.get dc_58_15 fr_58_9 (mk_44 _) rfl ?_
  refine Bod.get dc_58_18 fr_58_27 (mk_31 _) rfl ?_
  refine Bod.eqI (nI 57) (by first | assumption | rfl | exact congrArg nI (by omega) | (simp (disch := omega) only [rI, rIe, rA, rIA, rLA, rJA, rVI, rQI, rVA, rQA, upd_at,  rAI, rLI, rJI, nI_add, pk_sub, kc_0, kc_1, kc_2, kc_3, kc_4, kc_5, reduceIte, Nat.reduceEqDiff, Nat.add_zero, rI_hold, rI_hold, rL_hold, htk, ha, hb]; done)) ?_
  refine Bod.bip 57 (by decide) dc_58_21 ?_
  refine Bod.icF dc_58_23 rfl (k2_ne_F (k_eq 57 57 rfl rfl (by omega))) ?_
  refine Bod.go dc_58_26 rfl ?_
  refine Bod.get dc_58_27 fr_58_9 (mk_44 _) rfl ?_
  refine Bod.bip 57 (by decide) dc_58_30 ?_
  refine Bod.virt (r := []) dc_58_32 kr_58_33 ⟨Or.inr rfl, ow_75, cl_3⟩ (by rw [np_75]; rfl) (by rw [np_75]; rfl) (ob_of (mk_31 _)) (Nat.le_of_ble_eq_true rfl) (hP  ) ?_
  show Bod _ _ _ _ [] _ _ _
  refine Bod.go dc_58_35 rfl ?_
  refine Bod.get dc_58_36 fr_58_15 (mk_44 _) rfl ?_
  refine Bod.bip 6 (by decide) dc_58_39 ?_
  refine Bod.ic 0 (by decide) dc_58_41 ?_
  refine Bod.virt (r := []) dc_58_42 kr_58_38 ⟨Or.inr rfl, ow_54, cl_7⟩ (by rw [np_54]; rfl) (by rw [np_54]; rfl) (ob_of (mk_23 _)) (Nat.le_of_ble_eq_true rfl) (put2_ev (p := a) (x0 := (nI 6)) (x1 := (nI 0)) (by first | (simp (disch := omega) only [rI, rIe, rA, rIA, rLA, rJA, rVI, rQI, rVA, rQA, upd_at,  rAI, rLI, rJI, nI_add, pk_sub, kc_0, kc_1, kc_2, kc_3, kc_4, kc_5, reduceIte, Nat.reduceEqDiff, Nat.add_zero, rI_hold, rI_hold, rL_hold, htk, ha, hb]; done) | (simp (disch := omega) only [rI, rIe, rA, rIA, rLA, rJA, rVI, rQI, rVA, rQA, upd_at,  rAI, rLI, rJI, nI_add, pk_sub, kc_0, kc_1, kc_2, kc_3, kc_4, kc_5, reduceIte, Nat.reduceEqDiff, Nat.add_zero, rI_hold, rI_hold, rL_hold, htk, ha, hb]; exact congrArg nI (by omega))) (by omega)) ?_
  show Bod _ _ _ _ [_] _ _ _
  refine Bod.istn dc_58_45 (by rw [ml_58]; exact Nat.le_of_ble_eq_true rfl) ?_
  refine Bod.go dc_58_46 rfl ?_
  refine Bod.go dc_58_47 rfl ?_
  refine Bod.virt (r := []) dc_58_48 kr_58_52 ⟨Or.inl rfl, ow_59, cl_1⟩ (by rw [np_59]; rfl) (by rw [np_59]; rfl) (ob_of (mk_44 _)) (Nat.le_of_ble_eq_true rfl) (hC  ) ?_
  show Bod _ _ _ _ [] _ _ _
  refine Bod.go dc_58_51 rfl ?_
  refine Bod.get dc_58_52 fr_58_15 (mk_44 _) rfl ?_
  refine Bod.go dc_58_55 rfl ?_
  refine Bod.ic 1 (by decide) dc_58_56 ?_
  refine Bod.addN (a + 1) (by omega) dc_58_57 ?_
  refine Bod.go dc_58_58 rfl ?_
  refine Bod.get dc_58_59 fr_58_15 (mk_44 _) rfl ?_
  refine Bod.get dc_58_62 fr_58_42 (mk_23 _) rfl ?_
  refine Bod.eqI (nI b) (by first | (simp (disch := omega) only [rI, rIe, rA, rIA, rLA, rJA, rVI, rQI, rVA, rQA, upd_at,  rAI, rLI, rJI, nI_add, pk_sub, kc_0, kc_1, kc_2, kc_3, kc_4, kc_5, reduceIte, Nat.reduceEqDiff, Nat.add_zero, rI_hold, rI_hold, rL_hold, htk, ha, hb]; done) | (simp (disch := omega) only [rI, rIe, rA, rIA, rLA, rJA, rVI, rQI, rVA, rQA, upd_at,  rAI, rLI, rJI, nI_add, pk_sub, kc_0, kc_1, kc_2, kc_3, kc_4, kc_5, reduceIte, Nat.reduceEqDiff, Nat.add_zero, rI_hold, rI_hold, rL_hold, htk, ha, hb]; exact congrArg nI (by omega))) ?_
  refine Bod.virt (r := []) dc_58_65 kr_58_45 ⟨Or.inr rfl, ow_83, cl_7⟩ (by rw [np_83]; rfl) (by rw [np_83]; rfl) (ob_of (mk_23 _)) (Nat.le_of_ble_eq_true rfl) (patch_T (p := b) (q := a + 1) (x := (nI b)) (by first | (simp (disch := omega) only [rI, rIe, rA, rIA, rLA, rJA, rVI, rQI, rVA, rQA, upd_at,  rAI, rLI, rJI, nI_add, pk_sub, kc_0, kc_1, kc_2, kc_3, kc_4, kc_5, reduceIte, Nat.reduceEqDiff, Nat.add_zero, rI_hold, rI_hold, rL_hold, htk, ha, hb]; done) | (simp (disch := omega) only [rI, rIe, rA, rIA, rLA, rJA, rVI, rQI, rVA, rQA, upd_at,  rAI, rLI, rJI, nI_add, pk_sub, kc_0, kc_1, kc_2, kc_3, kc_4, kc_5, reduceIte, Nat.reduceEqDiff, Nat.add_zero, rI_hold, rI_hold, rL_hold, htk, ha, hb]; exact congrArg nI (by omega))) (by omega) (by omega)) ?_
  show Bod _ _ _ _ [] _ _ _
  refine Bod.go dc_58_68 rfl ?_
  refine Bod.ic 0 (by decide) dc_58_69 ?_
  refine Bod.put dc_58_70 fr_58_49 (mk_44 _) (Nat.le_of_ble_eq_true rfl) pf_1_3 (st_4403 _ _) (mu_I _ _ _) ?_
  refine Bod.incN (t + 1) (by rw [kc_1, nI_add]) dc_58_73 (by rw [ml_58]; exact Nat.le_of_ble_eq_true rfl) rfl ?_
  refine Bod.go dc_58_76 rfl ?_
  exact Bod.lv (by rfl) hB
theorem trm_sw : ∀ b, b < 64 → (b = 17 ∨ b = 18 ∨ b = 22 ∨ sm_br (.lookupswitch (44) #[(17, 35), (18, 41), (22, 38)]) 35 1 [.int (nI b)] = some (45, [])) := by decide +kernel
theorem trm_17 {d : Nat} {S : cS}   : Ans (d + 1) 81 [.int (nI 17)] S (some (.int (nI 29))) (S) := by
  refine Ans.of (by rw [ml_81]; exact Nat.le_of_ble_eq_true rfl) ?_
  refine Bod.go dc_81_0 rfl ?_
  refine Bod.sw (t := 36) dc_81_1 rfl rfl (by decide +kernel) ?_
  refine Bod.bip 29 (by decide) dc_81_36 ?_
  exact Bod.retI dc_81_38 rt_81
theorem trm_18 {d : Nat} {S : cS}   : Ans (d + 1) 81 [.int (nI 18)] S (some (.int (nI 31))) (S) := by
  refine Ans.of (by rw [ml_81]; exact Nat.le_of_ble_eq_true rfl) ?_
  refine Bod.go dc_81_0 rfl ?_
  refine Bod.sw (t := 42) dc_81_1 rfl rfl (by decide +kernel) ?_
  refine Bod.bip 31 (by decide) dc_81_42 ?_
  exact Bod.retI dc_81_44 rt_81
theorem trm_22 {d : Nat} {S : cS}   : Ans (d + 1) 81 [.int (nI 22)] S (some (.int (nI 30))) (S) := by
  refine Ans.of (by rw [ml_81]; exact Nat.le_of_ble_eq_true rfl) ?_
  refine Bod.go dc_81_0 rfl ?_
  refine Bod.sw (t := 39) dc_81_1 rfl rfl (by decide +kernel) ?_
  refine Bod.bip 30 (by decide) dc_81_39 ?_
  exact Bod.retI dc_81_41 rt_81
theorem trm_no {d : Nat} {S : cS} {b : Nat} (hb : b < 64) (h17 : b ≠ 17) (h18 : b ≠ 18) (h22 : b ≠ 22) : Ans (d + 1) 81 [.int (nI b)] S (some (.int (nI 0))) (S) := by
  refine Ans.of (by rw [ml_81]; exact Nat.le_of_ble_eq_true rfl) ?_
  refine Bod.go dc_81_0 rfl ?_
  refine Bod.sw (t := 45) dc_81_1 rfl rfl ((((trm_sw b hb).resolve_left h17).resolve_left h18).resolve_left h22) ?_
  refine Bod.ic 0 (by decide) dc_81_45 ?_
  exact Bod.retI dc_81_46 rt_81
theorem trm_ev {d : Nat} {S : cS} {b : Nat} (hb : b < 64) : Ans (d + 1) 81 [.int (nI b)] S (some (.int (nI (trmO b)))) S := by
  by_cases h17 : b = 17
  · subst h17
    exact trm_17
  by_cases h18 : b = 18
  · subst h18
    exact trm_18
  by_cases h22 : b = 22
  · subst h22
    exact trm_22
  have e : trmO b = 0 := by
    unfold trmO
    simp only [h17, h18, h22, if_false]
  rw [e]
  exact trm_no hb h17 h18 h22
theorem cmp_sw : ∀ b, b < 64 → (b = 20 ∨ b = 21 ∨ b = 26 ∨ b = 27 ∨ b = 28 ∨ b = 29 ∨ b = 45 ∨ b = 60 ∨ sm_br (.lookupswitch (99) #[(20, 84), (21, 90), (26, 75), (27, 81), (28, 87), (29, 93), (45, 96), (60, 78)]) 75 1 [.int (nI b)] = some (100, [])) := by decide +kernel
theorem cmp_20 {d : Nat} {S : cS}   : Ans (d + 1) 82 [.int (nI 20)] S (some (.int (nI 34))) (S) := by
  refine Ans.of (by rw [ml_82]; exact Nat.le_of_ble_eq_true rfl) ?_
  refine Bod.go dc_82_0 rfl ?_
  refine Bod.sw (t := 85) dc_82_1 rfl rfl (by decide +kernel) ?_
  refine Bod.bip 34 (by decide) dc_82_85 ?_
  exact Bod.retI dc_82_87 rt_82
theorem cmp_21 {d : Nat} {S : cS}   : Ans (d + 1) 82 [.int (nI 21)] S (some (.int (nI 36))) (S) := by
  refine Ans.of (by rw [ml_82]; exact Nat.le_of_ble_eq_true rfl) ?_
  refine Bod.go dc_82_0 rfl ?_
  refine Bod.sw (t := 91) dc_82_1 rfl rfl (by decide +kernel) ?_
  refine Bod.bip 36 (by decide) dc_82_91 ?_
  exact Bod.retI dc_82_93 rt_82
theorem cmp_26 {d : Nat} {S : cS}   : Ans (d + 1) 82 [.int (nI 26)] S (some (.int (nI 32))) (S) := by
  refine Ans.of (by rw [ml_82]; exact Nat.le_of_ble_eq_true rfl) ?_
  refine Bod.go dc_82_0 rfl ?_
  refine Bod.sw (t := 76) dc_82_1 rfl rfl (by decide +kernel) ?_
  refine Bod.bip 32 (by decide) dc_82_76 ?_
  exact Bod.retI dc_82_78 rt_82
theorem cmp_27 {d : Nat} {S : cS}   : Ans (d + 1) 82 [.int (nI 27)] S (some (.int (nI 33))) (S) := by
  refine Ans.of (by rw [ml_82]; exact Nat.le_of_ble_eq_true rfl) ?_
  refine Bod.go dc_82_0 rfl ?_
  refine Bod.sw (t := 82) dc_82_1 rfl rfl (by decide +kernel) ?_
  refine Bod.bip 33 (by decide) dc_82_82 ?_
  exact Bod.retI dc_82_84 rt_82
theorem cmp_28 {d : Nat} {S : cS}   : Ans (d + 1) 82 [.int (nI 28)] S (some (.int (nI 35))) (S) := by
  refine Ans.of (by rw [ml_82]; exact Nat.le_of_ble_eq_true rfl) ?_
  refine Bod.go dc_82_0 rfl ?_
  refine Bod.sw (t := 88) dc_82_1 rfl rfl (by decide +kernel) ?_
  refine Bod.bip 35 (by decide) dc_82_88 ?_
  exact Bod.retI dc_82_90 rt_82
theorem cmp_29 {d : Nat} {S : cS}   : Ans (d + 1) 82 [.int (nI 29)] S (some (.int (nI 37))) (S) := by
  refine Ans.of (by rw [ml_82]; exact Nat.le_of_ble_eq_true rfl) ?_
  refine Bod.go dc_82_0 rfl ?_
  refine Bod.sw (t := 94) dc_82_1 rfl rfl (by decide +kernel) ?_
  refine Bod.bip 37 (by decide) dc_82_94 ?_
  exact Bod.retI dc_82_96 rt_82
theorem cmp_45 {d : Nat} {S : cS}   : Ans (d + 1) 82 [.int (nI 45)] S (some (.int (nI 38))) (S) := by
  refine Ans.of (by rw [ml_82]; exact Nat.le_of_ble_eq_true rfl) ?_
  refine Bod.go dc_82_0 rfl ?_
  refine Bod.sw (t := 97) dc_82_1 rfl rfl (by decide +kernel) ?_
  refine Bod.bip 38 (by decide) dc_82_97 ?_
  exact Bod.retI dc_82_99 rt_82
theorem cmp_60 {d : Nat} {S : cS}   : Ans (d + 1) 82 [.int (nI 60)] S (some (.int (nI 32))) (S) := by
  refine Ans.of (by rw [ml_82]; exact Nat.le_of_ble_eq_true rfl) ?_
  refine Bod.go dc_82_0 rfl ?_
  refine Bod.sw (t := 79) dc_82_1 rfl rfl (by decide +kernel) ?_
  refine Bod.bip 32 (by decide) dc_82_79 ?_
  exact Bod.retI dc_82_81 rt_82
theorem cmp_no {d : Nat} {S : cS} {b : Nat} (hb : b < 64) (h20 : b ≠ 20) (h21 : b ≠ 21) (h26 : b ≠ 26) (h27 : b ≠ 27) (h28 : b ≠ 28) (h29 : b ≠ 29) (h45 : b ≠ 45) (h60 : b ≠ 60) : Ans (d + 1) 82 [.int (nI b)] S (some (.int (nI 0))) (S) := by
  refine Ans.of (by rw [ml_82]; exact Nat.le_of_ble_eq_true rfl) ?_
  refine Bod.go dc_82_0 rfl ?_
  refine Bod.sw (t := 100) dc_82_1 rfl rfl (((((((((cmp_sw b hb).resolve_left h20).resolve_left h21).resolve_left h26).resolve_left h27).resolve_left h28).resolve_left h29).resolve_left h45).resolve_left h60) ?_
  refine Bod.ic 0 (by decide) dc_82_100 ?_
  exact Bod.retI dc_82_101 rt_82
theorem cmp_ev {d : Nat} {S : cS} {b : Nat} (hb : b < 64) : Ans (d + 1) 82 [.int (nI b)] S (some (.int (nI (cmpO b)))) S := by
  by_cases h20 : b = 20
  · subst h20
    exact cmp_20
  by_cases h21 : b = 21
  · subst h21
    exact cmp_21
  by_cases h26 : b = 26
  · subst h26
    exact cmp_26
  by_cases h27 : b = 27
  · subst h27
    exact cmp_27
  by_cases h28 : b = 28
  · subst h28
    exact cmp_28
  by_cases h29 : b = 29
  · subst h29
    exact cmp_29
  by_cases h45 : b = 45
  · subst h45
    exact cmp_45
  by_cases h60 : b = 60
  · subst h60
    exact cmp_60
  have e : cmpO b = 0 := by
    unfold cmpO
    simp only [h20, h21, h26, h27, h28, h29, h45, h60, if_false]
  rw [e]
  exact cmp_no hb h20 h21 h26 h27 h28 h29 h45 h60
theorem eDeep_go {d : Nat} {S : cS} {dp : Nat} {tk : Nat} {S1 : cS} (hd : dp < 12) (hR : Ans (d + 8) 40 [.ref 31] S none S1) (h5 : sI S1 3105 = nI tk) (htk0 : 1 ≤ tk) (htk2 : tk < 64) : Bod (d + 8) 74 0 [(0, .ref 44), (1, .int (nI dp))] [] S (some (.int 1)) (S1) := by
  refine Bod.go dc_74_0 rfl ?_
  refine Bod.bip 12 (by decide) dc_74_1 ?_
  refine Bod.icT dc_74_3 rfl (k2_lt_T dp 12 rfl rfl (by omega) (by omega)) ?_
  refine Bod.go dc_74_13 rfl ?_
  refine Bod.get dc_74_14 fr_74_9 (mk_44 _) rfl ?_
  refine Bod.virt (r := []) dc_74_17 kr_74_68 ⟨Or.inr rfl, ow_40, cl_3⟩ (by rw [np_40]; rfl) (by rw [np_40]; rfl) (ob_of (mk_31 _)) (Nat.le_of_ble_eq_true rfl) (hR  ) ?_
  show Bod _ _ _ _ [] _ _ _
  refine Bod.go dc_74_20 rfl ?_
  refine Bod.get dc_74_21 fr_74_9 (mk_44 _) rfl ?_
  refine Bod.get dc_74_24 fr_74_27 (mk_31 _) rfl ?_
  refine Bod.eqI (nI tk) (by first | (simp (disch := omega) only [rI, rIe, rA, rIA, rLA, rJA, rVI, rQI, rVA, rQA, upd_at,  rAI, rLI, rJI, nI_add, pk_sub, kc_0, kc_1, kc_2, kc_3, kc_4, kc_5, reduceIte, Nat.reduceEqDiff, Nat.add_zero, rI_hold, rI_hold, rL_hold, h5]; done) | (simp (disch := omega) only [rI, rIe, rA, rIA, rLA, rJA, rVI, rQI, rVA, rQA, upd_at,  rAI, rLI, rJI, nI_add, pk_sub, kc_0, kc_1, kc_2, kc_3, kc_4, kc_5, reduceIte, Nat.reduceEqDiff, Nat.add_zero, rI_hold, rI_hold, rL_hold, h5]; exact congrArg nI (by omega))) ?_
  refine Bod.ifF dc_74_27 rfl (k1_eq_F (k_ne tk 0 rfl rfl (by omega) (by omega) (by omega))) ?_
  refine Bod.ic 1 (by decide) dc_74_30 ?_
  refine Bod.go dc_74_31 rfl ?_
  exact Bod.retZ dc_74_35 rt_74 (Or.inr rfl)
theorem eDeep_no {d : Nat} {S : cS} {dp : Nat} {S1 : cS} (hd : dp < 12) (hR : Ans (d + 8) 40 [.ref 31] S none S1) (h5 : sI S1 3105 = nI 0) : Bod (d + 8) 74 0 [(0, .ref 44), (1, .int (nI dp))] [] S (some (.int 0)) (S1) := by
  refine Bod.go dc_74_0 rfl ?_
  refine Bod.bip 12 (by decide) dc_74_1 ?_
  refine Bod.icT dc_74_3 rfl (k2_lt_T dp 12 rfl rfl (by omega) (by omega)) ?_
  refine Bod.go dc_74_13 rfl ?_
  refine Bod.get dc_74_14 fr_74_9 (mk_44 _) rfl ?_
  refine Bod.virt (r := []) dc_74_17 kr_74_68 ⟨Or.inr rfl, ow_40, cl_3⟩ (by rw [np_40]; rfl) (by rw [np_40]; rfl) (ob_of (mk_31 _)) (Nat.le_of_ble_eq_true rfl) (hR  ) ?_
  show Bod _ _ _ _ [] _ _ _
  refine Bod.go dc_74_20 rfl ?_
  refine Bod.get dc_74_21 fr_74_9 (mk_44 _) rfl ?_
  refine Bod.get dc_74_24 fr_74_27 (mk_31 _) rfl ?_
  refine Bod.eqI (nI 0) (by first | (simp (disch := omega) only [rI, rIe, rA, rIA, rLA, rJA, rVI, rQI, rVA, rQA, upd_at,  rAI, rLI, rJI, nI_add, pk_sub, kc_0, kc_1, kc_2, kc_3, kc_4, kc_5, reduceIte, Nat.reduceEqDiff, Nat.add_zero, rI_hold, rI_hold, rL_hold, h5]; done) | (simp (disch := omega) only [rI, rIe, rA, rIA, rLA, rJA, rVI, rQI, rVA, rQA, upd_at,  rAI, rLI, rJI, nI_add, pk_sub, kc_0, kc_1, kc_2, kc_3, kc_4, kc_5, reduceIte, Nat.reduceEqDiff, Nat.add_zero, rI_hold, rI_hold, rL_hold, h5]; exact congrArg nI (by omega))) ?_
  refine Bod.ifT dc_74_27 rfl (k1_eq_T (k_eq 0 0 rfl rfl (by omega))) ?_
  refine Bod.ic 0 (by decide) dc_74_34 ?_
  exact Bod.retZ dc_74_35 rt_74 (Or.inl rfl)
theorem eDeep_deep {d : Nat} {S : cS} {dp : Nat} {S1 : cS} {S0 : cS} (hd : 12 ≤ dp) (hd2 : dp < 100) (hF : Ans (d + 8) 44 [.ref 31] S none S0) (hR : Ans (d + 8) 40 [.ref 31] S0 none S1) (h5 : sI S1 3105 = nI 0) : Bod (d + 8) 74 0 [(0, .ref 44), (1, .int (nI dp))] [] S (some (.int 0)) (S1) := by
  refine Bod.go dc_74_0 rfl ?_
  refine Bod.bip 12 (by decide) dc_74_1 ?_
  refine Bod.icF dc_74_3 rfl (k2_lt_F dp 12 rfl rfl (by omega) (by omega)) ?_
  refine Bod.go dc_74_6 rfl ?_
  refine Bod.get dc_74_7 fr_74_9 (mk_44 _) rfl ?_
  refine Bod.virt (r := []) dc_74_10 kr_74_65 ⟨Or.inr rfl, ow_44, cl_3⟩ (by rw [np_44]; rfl) (by rw [np_44]; rfl) (ob_of (mk_31 _)) (Nat.le_of_ble_eq_true rfl) (hF  ) ?_
  show Bod _ _ _ _ [] _ _ _
  refine Bod.go dc_74_13 rfl ?_
  refine Bod.get dc_74_14 fr_74_9 (mk_44 _) rfl ?_
  refine Bod.virt (r := []) dc_74_17 kr_74_68 ⟨Or.inr rfl, ow_40, cl_3⟩ (by rw [np_40]; rfl) (by rw [np_40]; rfl) (ob_of (mk_31 _)) (Nat.le_of_ble_eq_true rfl) (hR  ) ?_
  show Bod _ _ _ _ [] _ _ _
  refine Bod.go dc_74_20 rfl ?_
  refine Bod.get dc_74_21 fr_74_9 (mk_44 _) rfl ?_
  refine Bod.get dc_74_24 fr_74_27 (mk_31 _) rfl ?_
  refine Bod.eqI (nI 0) (by first | (simp (disch := omega) only [rI, rIe, rA, rIA, rLA, rJA, rVI, rQI, rVA, rQA, upd_at,  rAI, rLI, rJI, nI_add, pk_sub, kc_0, kc_1, kc_2, kc_3, kc_4, kc_5, reduceIte, Nat.reduceEqDiff, Nat.add_zero, rI_hold, rI_hold, rL_hold, h5]; done) | (simp (disch := omega) only [rI, rIe, rA, rIA, rLA, rJA, rVI, rQI, rVA, rQA, upd_at,  rAI, rLI, rJI, nI_add, pk_sub, kc_0, kc_1, kc_2, kc_3, kc_4, kc_5, reduceIte, Nat.reduceEqDiff, Nat.add_zero, rI_hold, rI_hold, rL_hold, h5]; exact congrArg nI (by omega))) ?_
  refine Bod.ifT dc_74_27 rfl (k1_eq_T (k_eq 0 0 rfl rfl (by omega))) ?_
  refine Bod.ic 0 (by decide) dc_74_34 ?_
  exact Bod.retZ dc_74_35 rt_74 (Or.inl rfl)
theorem eNot_pass {d : Nat} {S : cS} {dp : Nat} {tk : Nat} {S1 : cS} (htk : sI S 3105 = nI tk) (htk2 : tk < 64) (hn : tk ≠ 59) (hC : Ans (d + 8) 60 [.ref 44, .int (nI dp)] S none S1) : Bod (d + 8) 59 0 [(0, .ref 44), (1, .int (nI dp))] [] S none (S1) := by
  refine Bod.go dc_59_0 rfl ?_
  refine Bod.get dc_59_1 fr_59_9 (mk_44 _) rfl ?_
  refine Bod.get dc_59_4 fr_59_27 (mk_31 _) rfl ?_
  refine Bod.eqI (nI tk) (by first | assumption | rfl | exact congrArg nI (by omega) | (simp (disch := omega) only [rI, rIe, rA, rIA, rLA, rJA, rVI, rQI, rVA, rQA, upd_at,  rAI, rLI, rJI, nI_add, pk_sub, kc_0, kc_1, kc_2, kc_3, kc_4, kc_5, reduceIte, Nat.reduceEqDiff, Nat.add_zero, rI_hold, rI_hold, rL_hold, htk]; done)) ?_
  refine Bod.bip 59 (by decide) dc_59_7 ?_
  refine Bod.icF dc_59_9 rfl (k2_eq_F (k_ne tk 59 rfl rfl (by omega) (by omega) (by omega))) ?_
  refine Bod.go dc_59_12 rfl ?_
  refine Bod.go dc_59_13 rfl ?_
  refine Bod.virt (r := []) dc_59_14 kr_59_55 ⟨Or.inl rfl, ow_60, cl_1⟩ (by rw [np_60]; rfl) (by rw [np_60]; rfl) (ob_of (mk_44 _)) (Nat.le_of_ble_eq_true rfl) (hC  ) ?_
  show Bod _ _ _ _ [] _ _ _
  exact Bod.retV dc_59_17 rt_59
theorem eNot_go {d : Nat} {S : cS} {dp : Nat} {a : Nat} {S1 : cS} {S2 : cS} (htk : sI S 3105 = nI 59) (hG : Ans (d + 8) 74 [.ref 44, .int (nI dp)] S (some (.int (nI 1))) S1) (hC : Ans (d + 8) 59 [.ref 44, .int (nI (dp + 1))] S1 none S2) (ha : sI S2 2307 = nI a) (haM : a + 1 ≤ 40960) : Bod (d + 8) 59 0 [(0, .ref 44), (1, .int (nI dp))] [] S none (wI 4403 (nI 0) (wI 2307 (nI (a + 1)) (wA 24 a ((nI 25)) S2))) := by
  refine Bod.go dc_59_0 rfl ?_
  refine Bod.get dc_59_1 fr_59_9 (mk_44 _) rfl ?_
  refine Bod.get dc_59_4 fr_59_27 (mk_31 _) rfl ?_
  refine Bod.eqI (nI 59) (by first | assumption | rfl | exact congrArg nI (by omega) | (simp (disch := omega) only [rI, rIe, rA, rIA, rLA, rJA, rVI, rQI, rVA, rQA, upd_at,  rAI, rLI, rJI, nI_add, pk_sub, kc_0, kc_1, kc_2, kc_3, kc_4, kc_5, reduceIte, Nat.reduceEqDiff, Nat.add_zero, rI_hold, rI_hold, rL_hold, htk, ha]; done)) ?_
  refine Bod.bip 59 (by decide) dc_59_7 ?_
  refine Bod.icT dc_59_9 rfl (k2_eq_T (k_eq 59 59 rfl rfl (by omega))) ?_
  refine Bod.go dc_59_18 rfl ?_
  refine Bod.go dc_59_19 rfl ?_
  refine Bod.virt (r := []) dc_59_20 kr_59_58 ⟨Or.inl rfl, ow_74, cl_1⟩ (by rw [np_74]; rfl) (by rw [np_74]; rfl) (ob_of (mk_44 _)) (Nat.le_of_ble_eq_true rfl) (hG  ) ?_
  show Bod _ _ _ _ [_] _ _ _
  refine Bod.ifF dc_59_23 rfl (k1_eq_F (k_ne 1 0 rfl rfl (by omega) (by omega) (by omega))) ?_
  refine Bod.go dc_59_26 rfl ?_
  refine Bod.go dc_59_27 rfl ?_
  refine Bod.ic 1 (by decide) dc_59_28 ?_
  refine Bod.addN (dp + 1) (by omega) dc_59_29 ?_
  refine Bod.virt (r := []) dc_59_30 kr_59_52 ⟨Or.inl rfl, ow_59, cl_1⟩ (by rw [np_59]; rfl) (by rw [np_59]; rfl) (ob_of (mk_44 _)) (Nat.le_of_ble_eq_true rfl) (hC  ) ?_
  show Bod _ _ _ _ [] _ _ _
  refine Bod.go dc_59_33 rfl ?_
  refine Bod.get dc_59_34 fr_59_15 (mk_44 _) rfl ?_
  refine Bod.bip 25 (by decide) dc_59_37 ?_
  refine Bod.virt (r := []) dc_59_39 kr_59_62 ⟨Or.inr rfl, ow_71, cl_7⟩ (by rw [np_71]; rfl) (by rw [np_71]; rfl) (ob_of (mk_23 _)) (Nat.le_of_ble_eq_true rfl) (put1_ev (p := a) (x0 := (nI 25)) (by first | (simp (disch := omega) only [rI, rIe, rA, rIA, rLA, rJA, rVI, rQI, rVA, rQA, upd_at,  rAI, rLI, rJI, nI_add, pk_sub, kc_0, kc_1, kc_2, kc_3, kc_4, kc_5, reduceIte, Nat.reduceEqDiff, Nat.add_zero, rI_hold, rI_hold, rL_hold, htk, ha]; done) | (simp (disch := omega) only [rI, rIe, rA, rIA, rLA, rJA, rVI, rQI, rVA, rQA, upd_at,  rAI, rLI, rJI, nI_add, pk_sub, kc_0, kc_1, kc_2, kc_3, kc_4, kc_5, reduceIte, Nat.reduceEqDiff, Nat.add_zero, rI_hold, rI_hold, rL_hold, htk, ha]; exact congrArg nI (by omega))) (by omega)) ?_
  show Bod _ _ _ _ [_] _ _ _
  refine Bod.go dc_59_42 rfl ?_
  refine Bod.go dc_59_43 rfl ?_
  refine Bod.ic 0 (by decide) dc_59_44 ?_
  refine Bod.put dc_59_45 fr_59_49 (mk_44 _) (Nat.le_of_ble_eq_true rfl) pf_1_3 (st_4403 _ _) (mu_I _ _ _) ?_
  exact Bod.retV dc_59_48 rt_59
theorem eNot_no {d : Nat} {S : cS} {dp : Nat} {a : Nat} {S1 : cS} (htk : sI S 3105 = nI 59) (hG : Ans (d + 8) 74 [.ref 44, .int (nI dp)] S (some (.int (nI 0))) S1) (ha : sI S1 2307 = nI a) (haM : a + 1 ≤ 40960) : Bod (d + 8) 59 0 [(0, .ref 44), (1, .int (nI dp))] [] S none (wI 4403 (nI 0) (wI 2307 (nI (a + 1)) (wA 24 a ((nI 25)) S1))) := by
  refine Bod.go dc_59_0 rfl ?_
  refine Bod.get dc_59_1 fr_59_9 (mk_44 _) rfl ?_
  refine Bod.get dc_59_4 fr_59_27 (mk_31 _) rfl ?_
  refine Bod.eqI (nI 59) (by first | assumption | rfl | exact congrArg nI (by omega) | (simp (disch := omega) only [rI, rIe, rA, rIA, rLA, rJA, rVI, rQI, rVA, rQA, upd_at,  rAI, rLI, rJI, nI_add, pk_sub, kc_0, kc_1, kc_2, kc_3, kc_4, kc_5, reduceIte, Nat.reduceEqDiff, Nat.add_zero, rI_hold, rI_hold, rL_hold, htk, ha]; done)) ?_
  refine Bod.bip 59 (by decide) dc_59_7 ?_
  refine Bod.icT dc_59_9 rfl (k2_eq_T (k_eq 59 59 rfl rfl (by omega))) ?_
  refine Bod.go dc_59_18 rfl ?_
  refine Bod.go dc_59_19 rfl ?_
  refine Bod.virt (r := []) dc_59_20 kr_59_58 ⟨Or.inl rfl, ow_74, cl_1⟩ (by rw [np_74]; rfl) (by rw [np_74]; rfl) (ob_of (mk_44 _)) (Nat.le_of_ble_eq_true rfl) (hG  ) ?_
  show Bod _ _ _ _ [_] _ _ _
  refine Bod.ifT dc_59_23 rfl (k1_eq_T (k_eq 0 0 rfl rfl (by omega))) ?_
  refine Bod.go dc_59_33 rfl ?_
  refine Bod.get dc_59_34 fr_59_15 (mk_44 _) rfl ?_
  refine Bod.bip 25 (by decide) dc_59_37 ?_
  refine Bod.virt (r := []) dc_59_39 kr_59_62 ⟨Or.inr rfl, ow_71, cl_7⟩ (by rw [np_71]; rfl) (by rw [np_71]; rfl) (ob_of (mk_23 _)) (Nat.le_of_ble_eq_true rfl) (put1_ev (p := a) (x0 := (nI 25)) (by first | (simp (disch := omega) only [rI, rIe, rA, rIA, rLA, rJA, rVI, rQI, rVA, rQA, upd_at,  rAI, rLI, rJI, nI_add, pk_sub, kc_0, kc_1, kc_2, kc_3, kc_4, kc_5, reduceIte, Nat.reduceEqDiff, Nat.add_zero, rI_hold, rI_hold, rL_hold, htk, ha]; done) | (simp (disch := omega) only [rI, rIe, rA, rIA, rLA, rJA, rVI, rQI, rVA, rQA, upd_at,  rAI, rLI, rJI, nI_add, pk_sub, kc_0, kc_1, kc_2, kc_3, kc_4, kc_5, reduceIte, Nat.reduceEqDiff, Nat.add_zero, rI_hold, rI_hold, rL_hold, htk, ha]; exact congrArg nI (by omega))) (by omega)) ?_
  show Bod _ _ _ _ [_] _ _ _
  refine Bod.go dc_59_42 rfl ?_
  refine Bod.go dc_59_43 rfl ?_
  refine Bod.ic 0 (by decide) dc_59_44 ?_
  refine Bod.put dc_59_45 fr_59_49 (mk_44 _) (Nat.le_of_ble_eq_true rfl) pf_1_3 (st_4403 _ _) (mu_I _ _ _) ?_
  exact Bod.retV dc_59_48 rt_59
theorem eNeg_pass {d : Nat} {S : cS} {dp : Nat} {tk : Nat} {S1 : cS} (htk : sI S 3105 = nI tk) (htk2 : tk < 64) (hn : tk ≠ 16) (hC : Ans (d + 8) 64 [.ref 44, .int (nI dp)] S none S1) : Bod (d + 8) 63 0 [(0, .ref 44), (1, .int (nI dp))] [] S none (S1) := by
  refine Bod.go dc_63_0 rfl ?_
  refine Bod.get dc_63_1 fr_63_9 (mk_44 _) rfl ?_
  refine Bod.get dc_63_4 fr_63_27 (mk_31 _) rfl ?_
  refine Bod.eqI (nI tk) (by first | assumption | rfl | exact congrArg nI (by omega) | (simp (disch := omega) only [rI, rIe, rA, rIA, rLA, rJA, rVI, rQI, rVA, rQA, upd_at,  rAI, rLI, rJI, nI_add, pk_sub, kc_0, kc_1, kc_2, kc_3, kc_4, kc_5, reduceIte, Nat.reduceEqDiff, Nat.add_zero, rI_hold, rI_hold, rL_hold, htk]; done)) ?_
  refine Bod.bip 16 (by decide) dc_63_7 ?_
  refine Bod.icF dc_63_9 rfl (k2_eq_F (k_ne tk 16 rfl rfl (by omega) (by omega) (by omega))) ?_
  refine Bod.go dc_63_12 rfl ?_
  refine Bod.go dc_63_13 rfl ?_
  refine Bod.virt (r := []) dc_63_14 kr_63_86 ⟨Or.inl rfl, ow_64, cl_1⟩ (by rw [np_64]; rfl) (by rw [np_64]; rfl) (ob_of (mk_44 _)) (Nat.le_of_ble_eq_true rfl) (hC  ) ?_
  show Bod _ _ _ _ [] _ _ _
  exact Bod.retV dc_63_17 rt_63
theorem eNeg_go {d : Nat} {S : cS} {dp : Nat} {a : Nat} {S1 : cS} {S2 : cS} (htk : sI S 3105 = nI 16) (hG : Ans (d + 8) 74 [.ref 44, .int (nI dp)] S (some (.int (nI 1))) S1) (hC : Ans (d + 8) 63 [.ref 44, .int (nI (dp + 1))] S1 none S2) (ha : sI S2 2307 = nI a) (haM : a + 1 ≤ 40960) : Bod (d + 8) 63 0 [(0, .ref 44), (1, .int (nI dp))] [] S none (wI 4403 (nI 0) (wI 2307 (nI (a + 1)) (wA 24 a ((nI 26)) S2))) := by
  refine Bod.go dc_63_0 rfl ?_
  refine Bod.get dc_63_1 fr_63_9 (mk_44 _) rfl ?_
  refine Bod.get dc_63_4 fr_63_27 (mk_31 _) rfl ?_
  refine Bod.eqI (nI 16) (by first | assumption | rfl | exact congrArg nI (by omega) | (simp (disch := omega) only [rI, rIe, rA, rIA, rLA, rJA, rVI, rQI, rVA, rQA, upd_at,  rAI, rLI, rJI, nI_add, pk_sub, kc_0, kc_1, kc_2, kc_3, kc_4, kc_5, reduceIte, Nat.reduceEqDiff, Nat.add_zero, rI_hold, rI_hold, rL_hold, htk, ha]; done)) ?_
  refine Bod.bip 16 (by decide) dc_63_7 ?_
  refine Bod.icT dc_63_9 rfl (k2_eq_T (k_eq 16 16 rfl rfl (by omega))) ?_
  refine Bod.go dc_63_18 rfl ?_
  refine Bod.go dc_63_19 rfl ?_
  refine Bod.virt (r := []) dc_63_20 kr_63_58 ⟨Or.inl rfl, ow_74, cl_1⟩ (by rw [np_74]; rfl) (by rw [np_74]; rfl) (ob_of (mk_44 _)) (Nat.le_of_ble_eq_true rfl) (hG  ) ?_
  show Bod _ _ _ _ [_] _ _ _
  refine Bod.ifF dc_63_23 rfl (k1_eq_F (k_ne 1 0 rfl rfl (by omega) (by omega) (by omega))) ?_
  refine Bod.go dc_63_26 rfl ?_
  refine Bod.go dc_63_27 rfl ?_
  refine Bod.ic 1 (by decide) dc_63_28 ?_
  refine Bod.addN (dp + 1) (by omega) dc_63_29 ?_
  refine Bod.virt (r := []) dc_63_30 kr_63_80 ⟨Or.inl rfl, ow_63, cl_1⟩ (by rw [np_63]; rfl) (by rw [np_63]; rfl) (ob_of (mk_44 _)) (Nat.le_of_ble_eq_true rfl) (hC  ) ?_
  show Bod _ _ _ _ [] _ _ _
  refine Bod.go dc_63_33 rfl ?_
  refine Bod.get dc_63_34 fr_63_15 (mk_44 _) rfl ?_
  refine Bod.bip 26 (by decide) dc_63_37 ?_
  refine Bod.virt (r := []) dc_63_39 kr_63_62 ⟨Or.inr rfl, ow_71, cl_7⟩ (by rw [np_71]; rfl) (by rw [np_71]; rfl) (ob_of (mk_23 _)) (Nat.le_of_ble_eq_true rfl) (put1_ev (p := a) (x0 := (nI 26)) (by first | (simp (disch := omega) only [rI, rIe, rA, rIA, rLA, rJA, rVI, rQI, rVA, rQA, upd_at,  rAI, rLI, rJI, nI_add, pk_sub, kc_0, kc_1, kc_2, kc_3, kc_4, kc_5, reduceIte, Nat.reduceEqDiff, Nat.add_zero, rI_hold, rI_hold, rL_hold, htk, ha]; done) | (simp (disch := omega) only [rI, rIe, rA, rIA, rLA, rJA, rVI, rQI, rVA, rQA, upd_at,  rAI, rLI, rJI, nI_add, pk_sub, kc_0, kc_1, kc_2, kc_3, kc_4, kc_5, reduceIte, Nat.reduceEqDiff, Nat.add_zero, rI_hold, rI_hold, rL_hold, htk, ha]; exact congrArg nI (by omega))) (by omega)) ?_
  show Bod _ _ _ _ [_] _ _ _
  refine Bod.go dc_63_42 rfl ?_
  refine Bod.go dc_63_43 rfl ?_
  refine Bod.ic 0 (by decide) dc_63_44 ?_
  refine Bod.put dc_63_45 fr_63_49 (mk_44 _) (Nat.le_of_ble_eq_true rfl) pf_1_3 (st_4403 _ _) (mu_I _ _ _) ?_
  exact Bod.retV dc_63_48 rt_63
theorem eNeg_no {d : Nat} {S : cS} {dp : Nat} {a : Nat} {S1 : cS} (htk : sI S 3105 = nI 16) (hG : Ans (d + 8) 74 [.ref 44, .int (nI dp)] S (some (.int (nI 0))) S1) (ha : sI S1 2307 = nI a) (haM : a + 1 ≤ 40960) : Bod (d + 8) 63 0 [(0, .ref 44), (1, .int (nI dp))] [] S none (wI 4403 (nI 0) (wI 2307 (nI (a + 1)) (wA 24 a ((nI 26)) S1))) := by
  refine Bod.go dc_63_0 rfl ?_
  refine Bod.get dc_63_1 fr_63_9 (mk_44 _) rfl ?_
  refine Bod.get dc_63_4 fr_63_27 (mk_31 _) rfl ?_
  refine Bod.eqI (nI 16) (by first | assumption | rfl | exact congrArg nI (by omega) | (simp (disch := omega) only [rI, rIe, rA, rIA, rLA, rJA, rVI, rQI, rVA, rQA, upd_at,  rAI, rLI, rJI, nI_add, pk_sub, kc_0, kc_1, kc_2, kc_3, kc_4, kc_5, reduceIte, Nat.reduceEqDiff, Nat.add_zero, rI_hold, rI_hold, rL_hold, htk, ha]; done)) ?_
  refine Bod.bip 16 (by decide) dc_63_7 ?_
  refine Bod.icT dc_63_9 rfl (k2_eq_T (k_eq 16 16 rfl rfl (by omega))) ?_
  refine Bod.go dc_63_18 rfl ?_
  refine Bod.go dc_63_19 rfl ?_
  refine Bod.virt (r := []) dc_63_20 kr_63_58 ⟨Or.inl rfl, ow_74, cl_1⟩ (by rw [np_74]; rfl) (by rw [np_74]; rfl) (ob_of (mk_44 _)) (Nat.le_of_ble_eq_true rfl) (hG  ) ?_
  show Bod _ _ _ _ [_] _ _ _
  refine Bod.ifT dc_63_23 rfl (k1_eq_T (k_eq 0 0 rfl rfl (by omega))) ?_
  refine Bod.go dc_63_33 rfl ?_
  refine Bod.get dc_63_34 fr_63_15 (mk_44 _) rfl ?_
  refine Bod.bip 26 (by decide) dc_63_37 ?_
  refine Bod.virt (r := []) dc_63_39 kr_63_62 ⟨Or.inr rfl, ow_71, cl_7⟩ (by rw [np_71]; rfl) (by rw [np_71]; rfl) (ob_of (mk_23 _)) (Nat.le_of_ble_eq_true rfl) (put1_ev (p := a) (x0 := (nI 26)) (by first | (simp (disch := omega) only [rI, rIe, rA, rIA, rLA, rJA, rVI, rQI, rVA, rQA, upd_at,  rAI, rLI, rJI, nI_add, pk_sub, kc_0, kc_1, kc_2, kc_3, kc_4, kc_5, reduceIte, Nat.reduceEqDiff, Nat.add_zero, rI_hold, rI_hold, rL_hold, htk, ha]; done) | (simp (disch := omega) only [rI, rIe, rA, rIA, rLA, rJA, rVI, rQI, rVA, rQA, upd_at,  rAI, rLI, rJI, nI_add, pk_sub, kc_0, kc_1, kc_2, kc_3, kc_4, kc_5, reduceIte, Nat.reduceEqDiff, Nat.add_zero, rI_hold, rI_hold, rL_hold, htk, ha]; exact congrArg nI (by omega))) (by omega)) ?_
  show Bod _ _ _ _ [_] _ _ _
  refine Bod.go dc_63_42 rfl ?_
  refine Bod.go dc_63_43 rfl ?_
  refine Bod.ic 0 (by decide) dc_63_44 ?_
  refine Bod.put dc_63_45 fr_63_49 (mk_44 _) (Nat.le_of_ble_eq_true rfl) pf_1_3 (st_4403 _ _) (mu_I _ _ _) ?_
  exact Bod.retV dc_63_48 rt_63
theorem eCmp_no {d : Nat} {S : cS} {dp : Nat} {tk : Nat} {S1 : cS} (hC : Ans (d + 8) 61 [.ref 44, .int (nI dp)] S none S1) (htk : sI S1 3105 = nI tk) (htk2 : tk < 64) (hc0 : cmpO tk = 0) : Bod (d + 8) 60 0 [(0, .ref 44), (1, .int (nI dp))] [] S none (S1) := by
  refine Bod.go dc_60_0 rfl ?_
  refine Bod.go dc_60_1 rfl ?_
  refine Bod.virt (r := []) dc_60_2 kr_60_71 ⟨Or.inl rfl, ow_61, cl_1⟩ (by rw [np_61]; rfl) (by rw [np_61]; rfl) (ob_of (mk_44 _)) (Nat.le_of_ble_eq_true rfl) (hC  ) ?_
  show Bod _ _ _ _ [] _ _ _
  refine Bod.go dc_60_5 rfl ?_
  refine Bod.get dc_60_6 fr_60_9 (mk_44 _) rfl ?_
  refine Bod.get dc_60_9 fr_60_27 (mk_31 _) rfl ?_
  refine Bod.eqI (nI tk) (by assumption) ?_
  refine Bod.stat (r := []) dc_60_12 kr_60_74 (Or.inl rfl) (by rw [np_82]; rfl) (by rw [np_82]; rfl) (by rw [np_82]; exact Nat.le_of_ble_eq_true rfl) (Nat.le_of_ble_eq_true rfl) (cmp_ev (b := tk) (by omega)) ?_
  show Bod _ _ _ _ [_] _ _ _
  refine Bod.istn dc_60_15 (by rw [ml_60]; exact Nat.le_of_ble_eq_true rfl) ?_
  refine Bod.go dc_60_16 rfl ?_
  refine Bod.ifF dc_60_17 rfl (k1_ne_F (k_eq (cmpO tk) 0 rfl rfl (by omega))) ?_
  exact Bod.retV dc_60_20 rt_60
theorem eCmp_op {d : Nat} {S : cS} {dp : Nat} {tk : Nat} {a : Nat} {S1 : cS} {S2 : cS} {S3 : cS} (hC : Ans (d + 8) 61 [.ref 44, .int (nI dp)] S none S1) (htk : sI S1 3105 = nI tk) (htk2 : tk < 64) (hc0 : cmpO tk ≠ 0) (hc1 : cmpO tk < 64) (hR : Ans (d + 8) 40 [.ref 31] S1 none S2) (hC2 : Ans (d + 8) 61 [.ref 44, .int (nI dp)] S2 none S3) (ha : sI S3 2307 = nI a) (haM : a + 1 ≤ 40960) : Bod (d + 8) 60 0 [(0, .ref 44), (1, .int (nI dp))] [] S none (wI 4403 (nI 0) (wI 2307 (nI (a + 1)) (wA 24 a ((nI (cmpO tk))) S3))) := by
  refine Bod.go dc_60_0 rfl ?_
  refine Bod.go dc_60_1 rfl ?_
  refine Bod.virt (r := []) dc_60_2 kr_60_71 ⟨Or.inl rfl, ow_61, cl_1⟩ (by rw [np_61]; rfl) (by rw [np_61]; rfl) (ob_of (mk_44 _)) (Nat.le_of_ble_eq_true rfl) (hC  ) ?_
  show Bod _ _ _ _ [] _ _ _
  refine Bod.go dc_60_5 rfl ?_
  refine Bod.get dc_60_6 fr_60_9 (mk_44 _) rfl ?_
  refine Bod.get dc_60_9 fr_60_27 (mk_31 _) rfl ?_
  refine Bod.eqI (nI tk) (by assumption) ?_
  refine Bod.stat (r := []) dc_60_12 kr_60_74 (Or.inl rfl) (by rw [np_82]; rfl) (by rw [np_82]; rfl) (by rw [np_82]; exact Nat.le_of_ble_eq_true rfl) (Nat.le_of_ble_eq_true rfl) (cmp_ev (b := tk) (by omega)) ?_
  show Bod _ _ _ _ [_] _ _ _
  refine Bod.istn dc_60_15 (by rw [ml_60]; exact Nat.le_of_ble_eq_true rfl) ?_
  refine Bod.go dc_60_16 rfl ?_
  refine Bod.ifT dc_60_17 rfl (k1_ne_T (k_ne (cmpO tk) 0 rfl rfl (by omega) (by omega) (by omega))) ?_
  refine Bod.go dc_60_21 rfl ?_
  refine Bod.get dc_60_22 fr_60_9 (mk_44 _) rfl ?_
  refine Bod.virt (r := []) dc_60_25 kr_60_68 ⟨Or.inr rfl, ow_40, cl_3⟩ (by rw [np_40]; rfl) (by rw [np_40]; rfl) (ob_of (mk_31 _)) (Nat.le_of_ble_eq_true rfl) (hR  ) ?_
  show Bod _ _ _ _ [] _ _ _
  refine Bod.go dc_60_28 rfl ?_
  refine Bod.go dc_60_29 rfl ?_
  refine Bod.virt (r := []) dc_60_30 kr_60_71 ⟨Or.inl rfl, ow_61, cl_1⟩ (by rw [np_61]; rfl) (by rw [np_61]; rfl) (ob_of (mk_44 _)) (Nat.le_of_ble_eq_true rfl) (hC2  ) ?_
  show Bod _ _ _ _ [] _ _ _
  refine Bod.go dc_60_33 rfl ?_
  refine Bod.get dc_60_34 fr_60_15 (mk_44 _) rfl ?_
  refine Bod.go dc_60_37 rfl ?_
  refine Bod.virt (r := []) dc_60_38 kr_60_62 ⟨Or.inr rfl, ow_71, cl_7⟩ (by rw [np_71]; rfl) (by rw [np_71]; rfl) (ob_of (mk_23 _)) (Nat.le_of_ble_eq_true rfl) (put1_ev (p := a) (x0 := (nI (cmpO tk))) (by first | (simp (disch := omega) only [rI, rIe, rA, rIA, rLA, rJA, rVI, rQI, rVA, rQA, upd_at,  rAI, rLI, rJI, nI_add, pk_sub, kc_0, kc_1, kc_2, kc_3, kc_4, kc_5, reduceIte, Nat.reduceEqDiff, Nat.add_zero, rI_hold, rI_hold, rL_hold, htk, ha]; done) | (simp (disch := omega) only [rI, rIe, rA, rIA, rLA, rJA, rVI, rQI, rVA, rQA, upd_at,  rAI, rLI, rJI, nI_add, pk_sub, kc_0, kc_1, kc_2, kc_3, kc_4, kc_5, reduceIte, Nat.reduceEqDiff, Nat.add_zero, rI_hold, rI_hold, rL_hold, htk, ha]; exact congrArg nI (by omega))) (by omega)) ?_
  show Bod _ _ _ _ [_] _ _ _
  refine Bod.go dc_60_41 rfl ?_
  refine Bod.go dc_60_42 rfl ?_
  refine Bod.ic 0 (by decide) dc_60_43 ?_
  refine Bod.put dc_60_44 fr_60_49 (mk_44 _) (Nat.le_of_ble_eq_true rfl) pf_1_3 (st_4403 _ _) (mu_I _ _ _) ?_
  exact Bod.retV dc_60_47 rt_60
theorem eSum_go {d : Nat} {S Sf : cS} {v : Option Value} {dp : Nat} {S1 : cS} (hC : Ans (d + 8) 62 [.ref 44, .int (nI dp)] S none S1) (hB : Bod (d + 8) 61 7 [(2, .int (nI 0)), (0, .ref 44), (1, .int (nI dp))] [] (S1) v Sf) : Bod (d + 8) 61 0 [(0, .ref 44), (1, .int (nI dp))] [] S v Sf := by
  refine Bod.go dc_61_0 rfl ?_
  refine Bod.go dc_61_1 rfl ?_
  refine Bod.virt (r := []) dc_61_2 kr_61_77 ⟨Or.inl rfl, ow_62, cl_1⟩ (by rw [np_62]; rfl) (by rw [np_62]; rfl) (ob_of (mk_44 _)) (Nat.le_of_ble_eq_true rfl) (hC  ) ?_
  show Bod _ _ _ _ [] _ _ _
  refine Bod.ic 0 (by decide) dc_61_5 ?_
  refine Bod.istn dc_61_6 (by rw [ml_61]; exact Nat.le_of_ble_eq_true rfl) ?_
  exact Bod.lv (by rfl) hB
theorem eSum_stop {d : Nat} {S : cS} {dp : Nat} {t : Nat} {tk : Nat} (htk : sI S 3105 = nI tk) (htk2 : tk < 64) (hn : tk ≠ 15) (hn2 : tk ≠ 16) (ht : t < 3000) : Bod (d + 8) 61 7 [(2, .int (nI t)), (0, .ref 44), (1, .int (nI dp))] [] S none (S) := by
  refine Bod.go dc_61_7 rfl ?_
  refine Bod.sip 3000 (by decide) dc_61_8 ?_
  refine Bod.icF dc_61_11 rfl (k2_ge_F t 3000 rfl rfl (by omega) (by omega)) ?_
  refine Bod.go dc_61_14 rfl ?_
  refine Bod.get dc_61_15 fr_61_9 (mk_44 _) rfl ?_
  refine Bod.get dc_61_18 fr_61_27 (mk_31 _) rfl ?_
  refine Bod.eqI (nI tk) (by first | assumption | rfl | exact congrArg nI (by omega) | (simp (disch := omega) only [rI, rIe, rA, rIA, rLA, rJA, rVI, rQI, rVA, rQA, upd_at,  rAI, rLI, rJI, nI_add, pk_sub, kc_0, kc_1, kc_2, kc_3, kc_4, kc_5, reduceIte, Nat.reduceEqDiff, Nat.add_zero, rI_hold, rI_hold, rL_hold, htk]; done)) ?_
  refine Bod.bip 15 (by decide) dc_61_21 ?_
  refine Bod.icF dc_61_23 rfl (k2_eq_F (k_ne tk 15 rfl rfl (by omega) (by omega) (by omega))) ?_
  refine Bod.go dc_61_26 rfl ?_
  refine Bod.get dc_61_27 fr_61_9 (mk_44 _) rfl ?_
  refine Bod.get dc_61_30 fr_61_27 (mk_31 _) rfl ?_
  refine Bod.eqI (nI tk) (by first | assumption | rfl | exact congrArg nI (by omega) | (simp (disch := omega) only [rI, rIe, rA, rIA, rLA, rJA, rVI, rQI, rVA, rQA, upd_at,  rAI, rLI, rJI, nI_add, pk_sub, kc_0, kc_1, kc_2, kc_3, kc_4, kc_5, reduceIte, Nat.reduceEqDiff, Nat.add_zero, rI_hold, rI_hold, rL_hold, htk]; done)) ?_
  refine Bod.bip 16 (by decide) dc_61_33 ?_
  refine Bod.icF dc_61_35 rfl (k2_eq_F (k_ne tk 16 rfl rfl (by omega) (by omega) (by omega))) ?_
  refine Bod.go dc_61_38 rfl ?_
  exact Bod.retV dc_61_93 rt_61
theorem eSum_15 {d : Nat} {S Sf : cS} {v : Option Value} {dp : Nat} {t : Nat} {a : Nat} {S1 : cS} {S2 : cS} (htk : sI S 3105 = nI 15) (ht : t < 3000) (hR : Ans (d + 8) 40 [.ref 31] S none S1) (hC : Ans (d + 8) 62 [.ref 44, .int (nI dp)] S1 none S2) (ha : sI S2 2307 = nI a) (haM : a + 1 ≤ 40960) (hB : Bod (d + 8) 61 7 [(2, .int (nI (t + 1))), (3, .int (nI 27)), (0, .ref 44), (1, .int (nI dp))] [] (wI 4403 (nI 0) (wI 2307 (nI (a + 1)) (wA 24 a ((nI 27)) S2))) v Sf) : Bod (d + 8) 61 7 [(2, .int (nI t)), (0, .ref 44), (1, .int (nI dp))] [] S v Sf := by
  refine Bod.go dc_61_7 rfl ?_
  refine Bod.sip 3000 (by decide) dc_61_8 ?_
  refine Bod.icF dc_61_11 rfl (k2_ge_F t 3000 rfl rfl (by omega) (by omega)) ?_
  refine Bod.go dc_61_14 rfl ?_
  refine Bod.get dc_61_15 fr_61_9 (mk_44 _) rfl ?_
  refine Bod.get dc_61_18 fr_61_27 (mk_31 _) rfl ?_
  refine Bod.eqI (nI 15) (by first | assumption | rfl | exact congrArg nI (by omega) | (simp (disch := omega) only [rI, rIe, rA, rIA, rLA, rJA, rVI, rQI, rVA, rQA, upd_at,  rAI, rLI, rJI, nI_add, pk_sub, kc_0, kc_1, kc_2, kc_3, kc_4, kc_5, reduceIte, Nat.reduceEqDiff, Nat.add_zero, rI_hold, rI_hold, rL_hold, htk, ha]; done)) ?_
  refine Bod.bip 15 (by decide) dc_61_21 ?_
  refine Bod.icT dc_61_23 rfl (k2_eq_T (k_eq 15 15 rfl rfl (by omega))) ?_
  refine Bod.go dc_61_41 rfl ?_
  refine Bod.get dc_61_42 fr_61_9 (mk_44 _) rfl ?_
  refine Bod.get dc_61_45 fr_61_27 (mk_31 _) rfl ?_
  refine Bod.eqI (nI 15) (by first | assumption | rfl | exact congrArg nI (by omega) | (simp (disch := omega) only [rI, rIe, rA, rIA, rLA, rJA, rVI, rQI, rVA, rQA, upd_at,  rAI, rLI, rJI, nI_add, pk_sub, kc_0, kc_1, kc_2, kc_3, kc_4, kc_5, reduceIte, Nat.reduceEqDiff, Nat.add_zero, rI_hold, rI_hold, rL_hold, htk, ha]; done)) ?_
  refine Bod.bip 15 (by decide) dc_61_48 ?_
  refine Bod.icF dc_61_50 rfl (k2_ne_F (k_eq 15 15 rfl rfl (by omega))) ?_
  refine Bod.bip 27 (by decide) dc_61_53 ?_
  refine Bod.go dc_61_55 rfl ?_
  refine Bod.istn dc_61_60 (by rw [ml_61]; exact Nat.le_of_ble_eq_true rfl) ?_
  refine Bod.go dc_61_61 rfl ?_
  refine Bod.get dc_61_62 fr_61_9 (mk_44 _) rfl ?_
  refine Bod.virt (r := []) dc_61_65 kr_61_68 ⟨Or.inr rfl, ow_40, cl_3⟩ (by rw [np_40]; rfl) (by rw [np_40]; rfl) (ob_of (mk_31 _)) (Nat.le_of_ble_eq_true rfl) (hR  ) ?_
  show Bod _ _ _ _ [] _ _ _
  refine Bod.go dc_61_68 rfl ?_
  refine Bod.go dc_61_69 rfl ?_
  refine Bod.virt (r := []) dc_61_70 kr_61_77 ⟨Or.inl rfl, ow_62, cl_1⟩ (by rw [np_62]; rfl) (by rw [np_62]; rfl) (ob_of (mk_44 _)) (Nat.le_of_ble_eq_true rfl) (hC  ) ?_
  show Bod _ _ _ _ [] _ _ _
  refine Bod.go dc_61_73 rfl ?_
  refine Bod.get dc_61_74 fr_61_15 (mk_44 _) rfl ?_
  refine Bod.go dc_61_77 rfl ?_
  refine Bod.virt (r := []) dc_61_78 kr_61_62 ⟨Or.inr rfl, ow_71, cl_7⟩ (by rw [np_71]; rfl) (by rw [np_71]; rfl) (ob_of (mk_23 _)) (Nat.le_of_ble_eq_true rfl) (put1_ev (p := a) (x0 := (nI 27)) (by first | (simp (disch := omega) only [rI, rIe, rA, rIA, rLA, rJA, rVI, rQI, rVA, rQA, upd_at,  rAI, rLI, rJI, nI_add, pk_sub, kc_0, kc_1, kc_2, kc_3, kc_4, kc_5, reduceIte, Nat.reduceEqDiff, Nat.add_zero, rI_hold, rI_hold, rL_hold, htk, ha]; done) | (simp (disch := omega) only [rI, rIe, rA, rIA, rLA, rJA, rVI, rQI, rVA, rQA, upd_at,  rAI, rLI, rJI, nI_add, pk_sub, kc_0, kc_1, kc_2, kc_3, kc_4, kc_5, reduceIte, Nat.reduceEqDiff, Nat.add_zero, rI_hold, rI_hold, rL_hold, htk, ha]; exact congrArg nI (by omega))) (by omega)) ?_
  show Bod _ _ _ _ [_] _ _ _
  refine Bod.go dc_61_81 rfl ?_
  refine Bod.go dc_61_82 rfl ?_
  refine Bod.ic 0 (by decide) dc_61_83 ?_
  refine Bod.put dc_61_84 fr_61_49 (mk_44 _) (Nat.le_of_ble_eq_true rfl) pf_1_3 (st_4403 _ _) (mu_I _ _ _) ?_
  refine Bod.incN (t + 1) (by rw [kc_1, nI_add]) dc_61_87 (by rw [ml_61]; exact Nat.le_of_ble_eq_true rfl) rfl ?_
  refine Bod.go dc_61_90 rfl ?_
  exact Bod.lv (by rfl) hB
theorem eSum_16 {d : Nat} {S Sf : cS} {v : Option Value} {dp : Nat} {t : Nat} {a : Nat} {S1 : cS} {S2 : cS} (htk : sI S 3105 = nI 16) (ht : t < 3000) (hR : Ans (d + 8) 40 [.ref 31] S none S1) (hC : Ans (d + 8) 62 [.ref 44, .int (nI dp)] S1 none S2) (ha : sI S2 2307 = nI a) (haM : a + 1 ≤ 40960) (hB : Bod (d + 8) 61 7 [(2, .int (nI (t + 1))), (3, .int (nI 28)), (0, .ref 44), (1, .int (nI dp))] [] (wI 4403 (nI 0) (wI 2307 (nI (a + 1)) (wA 24 a ((nI 28)) S2))) v Sf) : Bod (d + 8) 61 7 [(2, .int (nI t)), (0, .ref 44), (1, .int (nI dp))] [] S v Sf := by
  refine Bod.go dc_61_7 rfl ?_
  refine Bod.sip 3000 (by decide) dc_61_8 ?_
  refine Bod.icF dc_61_11 rfl (k2_ge_F t 3000 rfl rfl (by omega) (by omega)) ?_
  refine Bod.go dc_61_14 rfl ?_
  refine Bod.get dc_61_15 fr_61_9 (mk_44 _) rfl ?_
  refine Bod.get dc_61_18 fr_61_27 (mk_31 _) rfl ?_
  refine Bod.eqI (nI 16) (by first | assumption | rfl | exact congrArg nI (by omega) | (simp (disch := omega) only [rI, rIe, rA, rIA, rLA, rJA, rVI, rQI, rVA, rQA, upd_at,  rAI, rLI, rJI, nI_add, pk_sub, kc_0, kc_1, kc_2, kc_3, kc_4, kc_5, reduceIte, Nat.reduceEqDiff, Nat.add_zero, rI_hold, rI_hold, rL_hold, htk, ha]; done)) ?_
  refine Bod.bip 15 (by decide) dc_61_21 ?_
  refine Bod.icF dc_61_23 rfl (k2_eq_F (k_ne 16 15 rfl rfl (by omega) (by omega) (by omega))) ?_
  refine Bod.go dc_61_26 rfl ?_
  refine Bod.get dc_61_27 fr_61_9 (mk_44 _) rfl ?_
  refine Bod.get dc_61_30 fr_61_27 (mk_31 _) rfl ?_
  refine Bod.eqI (nI 16) (by first | assumption | rfl | exact congrArg nI (by omega) | (simp (disch := omega) only [rI, rIe, rA, rIA, rLA, rJA, rVI, rQI, rVA, rQA, upd_at,  rAI, rLI, rJI, nI_add, pk_sub, kc_0, kc_1, kc_2, kc_3, kc_4, kc_5, reduceIte, Nat.reduceEqDiff, Nat.add_zero, rI_hold, rI_hold, rL_hold, htk, ha]; done)) ?_
  refine Bod.bip 16 (by decide) dc_61_33 ?_
  refine Bod.icT dc_61_35 rfl (k2_eq_T (k_eq 16 16 rfl rfl (by omega))) ?_
  refine Bod.go dc_61_41 rfl ?_
  refine Bod.get dc_61_42 fr_61_9 (mk_44 _) rfl ?_
  refine Bod.get dc_61_45 fr_61_27 (mk_31 _) rfl ?_
  refine Bod.eqI (nI 16) (by first | assumption | rfl | exact congrArg nI (by omega) | (simp (disch := omega) only [rI, rIe, rA, rIA, rLA, rJA, rVI, rQI, rVA, rQA, upd_at,  rAI, rLI, rJI, nI_add, pk_sub, kc_0, kc_1, kc_2, kc_3, kc_4, kc_5, reduceIte, Nat.reduceEqDiff, Nat.add_zero, rI_hold, rI_hold, rL_hold, htk, ha]; done)) ?_
  refine Bod.bip 15 (by decide) dc_61_48 ?_
  refine Bod.icT dc_61_50 rfl (k2_ne_T (k_ne 16 15 rfl rfl (by omega) (by omega) (by omega))) ?_
  refine Bod.bip 28 (by decide) dc_61_58 ?_
  refine Bod.istn dc_61_60 (by rw [ml_61]; exact Nat.le_of_ble_eq_true rfl) ?_
  refine Bod.go dc_61_61 rfl ?_
  refine Bod.get dc_61_62 fr_61_9 (mk_44 _) rfl ?_
  refine Bod.virt (r := []) dc_61_65 kr_61_68 ⟨Or.inr rfl, ow_40, cl_3⟩ (by rw [np_40]; rfl) (by rw [np_40]; rfl) (ob_of (mk_31 _)) (Nat.le_of_ble_eq_true rfl) (hR  ) ?_
  show Bod _ _ _ _ [] _ _ _
  refine Bod.go dc_61_68 rfl ?_
  refine Bod.go dc_61_69 rfl ?_
  refine Bod.virt (r := []) dc_61_70 kr_61_77 ⟨Or.inl rfl, ow_62, cl_1⟩ (by rw [np_62]; rfl) (by rw [np_62]; rfl) (ob_of (mk_44 _)) (Nat.le_of_ble_eq_true rfl) (hC  ) ?_
  show Bod _ _ _ _ [] _ _ _
  refine Bod.go dc_61_73 rfl ?_
  refine Bod.get dc_61_74 fr_61_15 (mk_44 _) rfl ?_
  refine Bod.go dc_61_77 rfl ?_
  refine Bod.virt (r := []) dc_61_78 kr_61_62 ⟨Or.inr rfl, ow_71, cl_7⟩ (by rw [np_71]; rfl) (by rw [np_71]; rfl) (ob_of (mk_23 _)) (Nat.le_of_ble_eq_true rfl) (put1_ev (p := a) (x0 := (nI 28)) (by first | (simp (disch := omega) only [rI, rIe, rA, rIA, rLA, rJA, rVI, rQI, rVA, rQA, upd_at,  rAI, rLI, rJI, nI_add, pk_sub, kc_0, kc_1, kc_2, kc_3, kc_4, kc_5, reduceIte, Nat.reduceEqDiff, Nat.add_zero, rI_hold, rI_hold, rL_hold, htk, ha]; done) | (simp (disch := omega) only [rI, rIe, rA, rIA, rLA, rJA, rVI, rQI, rVA, rQA, upd_at,  rAI, rLI, rJI, nI_add, pk_sub, kc_0, kc_1, kc_2, kc_3, kc_4, kc_5, reduceIte, Nat.reduceEqDiff, Nat.add_zero, rI_hold, rI_hold, rL_hold, htk, ha]; exact congrArg nI (by omega))) (by omega)) ?_
  show Bod _ _ _ _ [_] _ _ _
  refine Bod.go dc_61_81 rfl ?_
  refine Bod.go dc_61_82 rfl ?_
  refine Bod.ic 0 (by decide) dc_61_83 ?_
  refine Bod.put dc_61_84 fr_61_49 (mk_44 _) (Nat.le_of_ble_eq_true rfl) pf_1_3 (st_4403 _ _) (mu_I _ _ _) ?_
  refine Bod.incN (t + 1) (by rw [kc_1, nI_add]) dc_61_87 (by rw [ml_61]; exact Nat.le_of_ble_eq_true rfl) rfl ?_
  refine Bod.go dc_61_90 rfl ?_
  exact Bod.lv (by rfl) hB
theorem eSum_stop2 {d : Nat} {S : cS} {dp : Nat} {t : Nat} {tk : Nat} {z : Int32} (htk : sI S 3105 = nI tk) (htk2 : tk < 64) (hn : tk ≠ 15) (hn2 : tk ≠ 16) (ht : t < 3000) : Bod (d + 8) 61 7 [(2, .int (nI t)), (3, .int z), (0, .ref 44), (1, .int (nI dp))] [] S none (S) := by
  refine Bod.go dc_61_7 rfl ?_
  refine Bod.sip 3000 (by decide) dc_61_8 ?_
  refine Bod.icF dc_61_11 rfl (k2_ge_F t 3000 rfl rfl (by omega) (by omega)) ?_
  refine Bod.go dc_61_14 rfl ?_
  refine Bod.get dc_61_15 fr_61_9 (mk_44 _) rfl ?_
  refine Bod.get dc_61_18 fr_61_27 (mk_31 _) rfl ?_
  refine Bod.eqI (nI tk) (by first | assumption | rfl | exact congrArg nI (by omega) | (simp (disch := omega) only [rI, rIe, rA, rIA, rLA, rJA, rVI, rQI, rVA, rQA, upd_at,  rAI, rLI, rJI, nI_add, pk_sub, kc_0, kc_1, kc_2, kc_3, kc_4, kc_5, reduceIte, Nat.reduceEqDiff, Nat.add_zero, rI_hold, rI_hold, rL_hold, htk]; done)) ?_
  refine Bod.bip 15 (by decide) dc_61_21 ?_
  refine Bod.icF dc_61_23 rfl (k2_eq_F (k_ne tk 15 rfl rfl (by omega) (by omega) (by omega))) ?_
  refine Bod.go dc_61_26 rfl ?_
  refine Bod.get dc_61_27 fr_61_9 (mk_44 _) rfl ?_
  refine Bod.get dc_61_30 fr_61_27 (mk_31 _) rfl ?_
  refine Bod.eqI (nI tk) (by first | assumption | rfl | exact congrArg nI (by omega) | (simp (disch := omega) only [rI, rIe, rA, rIA, rLA, rJA, rVI, rQI, rVA, rQA, upd_at,  rAI, rLI, rJI, nI_add, pk_sub, kc_0, kc_1, kc_2, kc_3, kc_4, kc_5, reduceIte, Nat.reduceEqDiff, Nat.add_zero, rI_hold, rI_hold, rL_hold, htk]; done)) ?_
  refine Bod.bip 16 (by decide) dc_61_33 ?_
  refine Bod.icF dc_61_35 rfl (k2_eq_F (k_ne tk 16 rfl rfl (by omega) (by omega) (by omega))) ?_
  refine Bod.go dc_61_38 rfl ?_
  exact Bod.retV dc_61_93 rt_61
theorem eSum_152 {d : Nat} {S Sf : cS} {v : Option Value} {dp : Nat} {t : Nat} {a : Nat} {S1 : cS} {S2 : cS} {z : Int32} (htk : sI S 3105 = nI 15) (ht : t < 3000) (hR : Ans (d + 8) 40 [.ref 31] S none S1) (hC : Ans (d + 8) 62 [.ref 44, .int (nI dp)] S1 none S2) (ha : sI S2 2307 = nI a) (haM : a + 1 ≤ 40960) (hB : Bod (d + 8) 61 7 [(2, .int (nI (t + 1))), (3, .int (nI 27)), (0, .ref 44), (1, .int (nI dp))] [] (wI 4403 (nI 0) (wI 2307 (nI (a + 1)) (wA 24 a ((nI 27)) S2))) v Sf) : Bod (d + 8) 61 7 [(2, .int (nI t)), (3, .int z), (0, .ref 44), (1, .int (nI dp))] [] S v Sf := by
  refine Bod.go dc_61_7 rfl ?_
  refine Bod.sip 3000 (by decide) dc_61_8 ?_
  refine Bod.icF dc_61_11 rfl (k2_ge_F t 3000 rfl rfl (by omega) (by omega)) ?_
  refine Bod.go dc_61_14 rfl ?_
  refine Bod.get dc_61_15 fr_61_9 (mk_44 _) rfl ?_
  refine Bod.get dc_61_18 fr_61_27 (mk_31 _) rfl ?_
  refine Bod.eqI (nI 15) (by first | assumption | rfl | exact congrArg nI (by omega) | (simp (disch := omega) only [rI, rIe, rA, rIA, rLA, rJA, rVI, rQI, rVA, rQA, upd_at,  rAI, rLI, rJI, nI_add, pk_sub, kc_0, kc_1, kc_2, kc_3, kc_4, kc_5, reduceIte, Nat.reduceEqDiff, Nat.add_zero, rI_hold, rI_hold, rL_hold, htk, ha]; done)) ?_
  refine Bod.bip 15 (by decide) dc_61_21 ?_
  refine Bod.icT dc_61_23 rfl (k2_eq_T (k_eq 15 15 rfl rfl (by omega))) ?_
  refine Bod.go dc_61_41 rfl ?_
  refine Bod.get dc_61_42 fr_61_9 (mk_44 _) rfl ?_
  refine Bod.get dc_61_45 fr_61_27 (mk_31 _) rfl ?_
  refine Bod.eqI (nI 15) (by first | assumption | rfl | exact congrArg nI (by omega) | (simp (disch := omega) only [rI, rIe, rA, rIA, rLA, rJA, rVI, rQI, rVA, rQA, upd_at,  rAI, rLI, rJI, nI_add, pk_sub, kc_0, kc_1, kc_2, kc_3, kc_4, kc_5, reduceIte, Nat.reduceEqDiff, Nat.add_zero, rI_hold, rI_hold, rL_hold, htk, ha]; done)) ?_
  refine Bod.bip 15 (by decide) dc_61_48 ?_
  refine Bod.icF dc_61_50 rfl (k2_ne_F (k_eq 15 15 rfl rfl (by omega))) ?_
  refine Bod.bip 27 (by decide) dc_61_53 ?_
  refine Bod.go dc_61_55 rfl ?_
  refine Bod.istn dc_61_60 (by rw [ml_61]; exact Nat.le_of_ble_eq_true rfl) ?_
  refine Bod.go dc_61_61 rfl ?_
  refine Bod.get dc_61_62 fr_61_9 (mk_44 _) rfl ?_
  refine Bod.virt (r := []) dc_61_65 kr_61_68 ⟨Or.inr rfl, ow_40, cl_3⟩ (by rw [np_40]; rfl) (by rw [np_40]; rfl) (ob_of (mk_31 _)) (Nat.le_of_ble_eq_true rfl) (hR  ) ?_
  show Bod _ _ _ _ [] _ _ _
  refine Bod.go dc_61_68 rfl ?_
  refine Bod.go dc_61_69 rfl ?_
  refine Bod.virt (r := []) dc_61_70 kr_61_77 ⟨Or.inl rfl, ow_62, cl_1⟩ (by rw [np_62]; rfl) (by rw [np_62]; rfl) (ob_of (mk_44 _)) (Nat.le_of_ble_eq_true rfl) (hC  ) ?_
  show Bod _ _ _ _ [] _ _ _
  refine Bod.go dc_61_73 rfl ?_
  refine Bod.get dc_61_74 fr_61_15 (mk_44 _) rfl ?_
  refine Bod.go dc_61_77 rfl ?_
  refine Bod.virt (r := []) dc_61_78 kr_61_62 ⟨Or.inr rfl, ow_71, cl_7⟩ (by rw [np_71]; rfl) (by rw [np_71]; rfl) (ob_of (mk_23 _)) (Nat.le_of_ble_eq_true rfl) (put1_ev (p := a) (x0 := (nI 27)) (by first | (simp (disch := omega) only [rI, rIe, rA, rIA, rLA, rJA, rVI, rQI, rVA, rQA, upd_at,  rAI, rLI, rJI, nI_add, pk_sub, kc_0, kc_1, kc_2, kc_3, kc_4, kc_5, reduceIte, Nat.reduceEqDiff, Nat.add_zero, rI_hold, rI_hold, rL_hold, htk, ha]; done) | (simp (disch := omega) only [rI, rIe, rA, rIA, rLA, rJA, rVI, rQI, rVA, rQA, upd_at,  rAI, rLI, rJI, nI_add, pk_sub, kc_0, kc_1, kc_2, kc_3, kc_4, kc_5, reduceIte, Nat.reduceEqDiff, Nat.add_zero, rI_hold, rI_hold, rL_hold, htk, ha]; exact congrArg nI (by omega))) (by omega)) ?_
  show Bod _ _ _ _ [_] _ _ _
  refine Bod.go dc_61_81 rfl ?_
  refine Bod.go dc_61_82 rfl ?_
  refine Bod.ic 0 (by decide) dc_61_83 ?_
  refine Bod.put dc_61_84 fr_61_49 (mk_44 _) (Nat.le_of_ble_eq_true rfl) pf_1_3 (st_4403 _ _) (mu_I _ _ _) ?_
  refine Bod.incN (t + 1) (by rw [kc_1, nI_add]) dc_61_87 (by rw [ml_61]; exact Nat.le_of_ble_eq_true rfl) rfl ?_
  refine Bod.go dc_61_90 rfl ?_
  exact Bod.lv (by rfl) hB
theorem eSum_162 {d : Nat} {S Sf : cS} {v : Option Value} {dp : Nat} {t : Nat} {a : Nat} {S1 : cS} {S2 : cS} {z : Int32} (htk : sI S 3105 = nI 16) (ht : t < 3000) (hR : Ans (d + 8) 40 [.ref 31] S none S1) (hC : Ans (d + 8) 62 [.ref 44, .int (nI dp)] S1 none S2) (ha : sI S2 2307 = nI a) (haM : a + 1 ≤ 40960) (hB : Bod (d + 8) 61 7 [(2, .int (nI (t + 1))), (3, .int (nI 28)), (0, .ref 44), (1, .int (nI dp))] [] (wI 4403 (nI 0) (wI 2307 (nI (a + 1)) (wA 24 a ((nI 28)) S2))) v Sf) : Bod (d + 8) 61 7 [(2, .int (nI t)), (3, .int z), (0, .ref 44), (1, .int (nI dp))] [] S v Sf := by
  refine Bod.go dc_61_7 rfl ?_
  refine Bod.sip 3000 (by decide) dc_61_8 ?_
  refine Bod.icF dc_61_11 rfl (k2_ge_F t 3000 rfl rfl (by omega) (by omega)) ?_
  refine Bod.go dc_61_14 rfl ?_
  refine Bod.get dc_61_15 fr_61_9 (mk_44 _) rfl ?_
  refine Bod.get dc_61_18 fr_61_27 (mk_31 _) rfl ?_
  refine Bod.eqI (nI 16) (by first | assumption | rfl | exact congrArg nI (by omega) | (simp (disch := omega) only [rI, rIe, rA, rIA, rLA, rJA, rVI, rQI, rVA, rQA, upd_at,  rAI, rLI, rJI, nI_add, pk_sub, kc_0, kc_1, kc_2, kc_3, kc_4, kc_5, reduceIte, Nat.reduceEqDiff, Nat.add_zero, rI_hold, rI_hold, rL_hold, htk, ha]; done)) ?_
  refine Bod.bip 15 (by decide) dc_61_21 ?_
  refine Bod.icF dc_61_23 rfl (k2_eq_F (k_ne 16 15 rfl rfl (by omega) (by omega) (by omega))) ?_
  refine Bod.go dc_61_26 rfl ?_
  refine Bod.get dc_61_27 fr_61_9 (mk_44 _) rfl ?_
  refine Bod.get dc_61_30 fr_61_27 (mk_31 _) rfl ?_
  refine Bod.eqI (nI 16) (by first | assumption | rfl | exact congrArg nI (by omega) | (simp (disch := omega) only [rI, rIe, rA, rIA, rLA, rJA, rVI, rQI, rVA, rQA, upd_at,  rAI, rLI, rJI, nI_add, pk_sub, kc_0, kc_1, kc_2, kc_3, kc_4, kc_5, reduceIte, Nat.reduceEqDiff, Nat.add_zero, rI_hold, rI_hold, rL_hold, htk, ha]; done)) ?_
  refine Bod.bip 16 (by decide) dc_61_33 ?_
  refine Bod.icT dc_61_35 rfl (k2_eq_T (k_eq 16 16 rfl rfl (by omega))) ?_
  refine Bod.go dc_61_41 rfl ?_
  refine Bod.get dc_61_42 fr_61_9 (mk_44 _) rfl ?_
  refine Bod.get dc_61_45 fr_61_27 (mk_31 _) rfl ?_
  refine Bod.eqI (nI 16) (by first | assumption | rfl | exact congrArg nI (by omega) | (simp (disch := omega) only [rI, rIe, rA, rIA, rLA, rJA, rVI, rQI, rVA, rQA, upd_at,  rAI, rLI, rJI, nI_add, pk_sub, kc_0, kc_1, kc_2, kc_3, kc_4, kc_5, reduceIte, Nat.reduceEqDiff, Nat.add_zero, rI_hold, rI_hold, rL_hold, htk, ha]; done)) ?_
  refine Bod.bip 15 (by decide) dc_61_48 ?_
  refine Bod.icT dc_61_50 rfl (k2_ne_T (k_ne 16 15 rfl rfl (by omega) (by omega) (by omega))) ?_
  refine Bod.bip 28 (by decide) dc_61_58 ?_
  refine Bod.istn dc_61_60 (by rw [ml_61]; exact Nat.le_of_ble_eq_true rfl) ?_
  refine Bod.go dc_61_61 rfl ?_
  refine Bod.get dc_61_62 fr_61_9 (mk_44 _) rfl ?_
  refine Bod.virt (r := []) dc_61_65 kr_61_68 ⟨Or.inr rfl, ow_40, cl_3⟩ (by rw [np_40]; rfl) (by rw [np_40]; rfl) (ob_of (mk_31 _)) (Nat.le_of_ble_eq_true rfl) (hR  ) ?_
  show Bod _ _ _ _ [] _ _ _
  refine Bod.go dc_61_68 rfl ?_
  refine Bod.go dc_61_69 rfl ?_
  refine Bod.virt (r := []) dc_61_70 kr_61_77 ⟨Or.inl rfl, ow_62, cl_1⟩ (by rw [np_62]; rfl) (by rw [np_62]; rfl) (ob_of (mk_44 _)) (Nat.le_of_ble_eq_true rfl) (hC  ) ?_
  show Bod _ _ _ _ [] _ _ _
  refine Bod.go dc_61_73 rfl ?_
  refine Bod.get dc_61_74 fr_61_15 (mk_44 _) rfl ?_
  refine Bod.go dc_61_77 rfl ?_
  refine Bod.virt (r := []) dc_61_78 kr_61_62 ⟨Or.inr rfl, ow_71, cl_7⟩ (by rw [np_71]; rfl) (by rw [np_71]; rfl) (ob_of (mk_23 _)) (Nat.le_of_ble_eq_true rfl) (put1_ev (p := a) (x0 := (nI 28)) (by first | (simp (disch := omega) only [rI, rIe, rA, rIA, rLA, rJA, rVI, rQI, rVA, rQA, upd_at,  rAI, rLI, rJI, nI_add, pk_sub, kc_0, kc_1, kc_2, kc_3, kc_4, kc_5, reduceIte, Nat.reduceEqDiff, Nat.add_zero, rI_hold, rI_hold, rL_hold, htk, ha]; done) | (simp (disch := omega) only [rI, rIe, rA, rIA, rLA, rJA, rVI, rQI, rVA, rQA, upd_at,  rAI, rLI, rJI, nI_add, pk_sub, kc_0, kc_1, kc_2, kc_3, kc_4, kc_5, reduceIte, Nat.reduceEqDiff, Nat.add_zero, rI_hold, rI_hold, rL_hold, htk, ha]; exact congrArg nI (by omega))) (by omega)) ?_
  show Bod _ _ _ _ [_] _ _ _
  refine Bod.go dc_61_81 rfl ?_
  refine Bod.go dc_61_82 rfl ?_
  refine Bod.ic 0 (by decide) dc_61_83 ?_
  refine Bod.put dc_61_84 fr_61_49 (mk_44 _) (Nat.le_of_ble_eq_true rfl) pf_1_3 (st_4403 _ _) (mu_I _ _ _) ?_
  refine Bod.incN (t + 1) (by rw [kc_1, nI_add]) dc_61_87 (by rw [ml_61]; exact Nat.le_of_ble_eq_true rfl) rfl ?_
  refine Bod.go dc_61_90 rfl ?_
  exact Bod.lv (by rfl) hB
theorem eTrm_go {d : Nat} {S Sf : cS} {v : Option Value} {dp : Nat} {tk : Nat} {S1 : cS} (hC : Ans (d + 8) 63 [.ref 44, .int (nI dp)] S none S1) (htk : sI S1 3105 = nI tk) (htk2 : tk < 64) (hB : Bod (d + 8) 62 18 [(3, .int (nI 0)), (2, .int (nI (trmO tk))), (0, .ref 44), (1, .int (nI dp))] [] (S1) v Sf) : Bod (d + 8) 62 0 [(0, .ref 44), (1, .int (nI dp))] [] S v Sf := by
  refine Bod.go dc_62_0 rfl ?_
  refine Bod.go dc_62_1 rfl ?_
  refine Bod.virt (r := []) dc_62_2 kr_62_80 ⟨Or.inl rfl, ow_63, cl_1⟩ (by rw [np_63]; rfl) (by rw [np_63]; rfl) (ob_of (mk_44 _)) (Nat.le_of_ble_eq_true rfl) (hC  ) ?_
  show Bod _ _ _ _ [] _ _ _
  refine Bod.go dc_62_5 rfl ?_
  refine Bod.get dc_62_6 fr_62_9 (mk_44 _) rfl ?_
  refine Bod.get dc_62_9 fr_62_27 (mk_31 _) rfl ?_
  refine Bod.eqI (nI tk) (by assumption) ?_
  refine Bod.stat (r := []) dc_62_12 kr_62_83 (Or.inl rfl) (by rw [np_81]; rfl) (by rw [np_81]; rfl) (by rw [np_81]; exact Nat.le_of_ble_eq_true rfl) (Nat.le_of_ble_eq_true rfl) (trm_ev (b := tk) (by omega)) ?_
  show Bod _ _ _ _ [_] _ _ _
  refine Bod.istn dc_62_15 (by rw [ml_62]; exact Nat.le_of_ble_eq_true rfl) ?_
  refine Bod.ic 0 (by decide) dc_62_16 ?_
  refine Bod.istn dc_62_17 (by rw [ml_62]; exact Nat.le_of_ble_eq_true rfl) ?_
  exact Bod.lv (by rfl) hB
theorem eTrm_stop {d : Nat} {S : cS} {dp : Nat} {t : Nat} {op : Nat} (hop : op = 0) (ht : t < 3000) : Bod (d + 8) 62 18 [(3, .int (nI t)), (2, .int (nI op)), (0, .ref 44), (1, .int (nI dp))] [] S none (S) := by
  refine Bod.go dc_62_18 rfl ?_
  refine Bod.sip 3000 (by decide) dc_62_19 ?_
  refine Bod.icF dc_62_22 rfl (k2_ge_F t 3000 rfl rfl (by omega) (by omega)) ?_
  refine Bod.go dc_62_25 rfl ?_
  refine Bod.ifT dc_62_26 rfl (k1_eq_T (k_eq op 0 rfl rfl (by omega))) ?_
  exact Bod.retV dc_62_72 rt_62
theorem eTrm_turn {d : Nat} {S Sf : cS} {v : Option Value} {dp : Nat} {t : Nat} {op : Nat} {a : Nat} {tk : Nat} {S1 : cS} {S2 : cS} (hop : op ≠ 0) (hop2 : op < 64) (ht : t < 3000) (hR : Ans (d + 8) 40 [.ref 31] S none S1) (hC2 : Ans (d + 8) 63 [.ref 44, .int (nI dp)] S1 none S2) (ha : sI S2 2307 = nI a) (haM : a + 1 ≤ 40960) (htk : sI S2 3105 = nI tk) (htk2 : tk < 64) (hB : Bod (d + 8) 62 18 [(3, .int (nI (t + 1))), (2, .int (nI (trmO tk))), (0, .ref 44), (1, .int (nI dp))] [] (wI 4403 (nI 0) (wI 2307 (nI (a + 1)) (wA 24 a ((nI op)) S2))) v Sf) : Bod (d + 8) 62 18 [(3, .int (nI t)), (2, .int (nI op)), (0, .ref 44), (1, .int (nI dp))] [] S v Sf := by
  refine Bod.go dc_62_18 rfl ?_
  refine Bod.sip 3000 (by decide) dc_62_19 ?_
  refine Bod.icF dc_62_22 rfl (k2_ge_F t 3000 rfl rfl (by omega) (by omega)) ?_
  refine Bod.go dc_62_25 rfl ?_
  refine Bod.ifF dc_62_26 rfl (k1_eq_F (k_ne op 0 rfl rfl (by omega) (by omega) (by omega))) ?_
  refine Bod.go dc_62_29 rfl ?_
  refine Bod.get dc_62_30 fr_62_9 (mk_44 _) rfl ?_
  refine Bod.virt (r := []) dc_62_33 kr_62_68 ⟨Or.inr rfl, ow_40, cl_3⟩ (by rw [np_40]; rfl) (by rw [np_40]; rfl) (ob_of (mk_31 _)) (Nat.le_of_ble_eq_true rfl) (hR  ) ?_
  show Bod _ _ _ _ [] _ _ _
  refine Bod.go dc_62_36 rfl ?_
  refine Bod.go dc_62_37 rfl ?_
  refine Bod.virt (r := []) dc_62_38 kr_62_80 ⟨Or.inl rfl, ow_63, cl_1⟩ (by rw [np_63]; rfl) (by rw [np_63]; rfl) (ob_of (mk_44 _)) (Nat.le_of_ble_eq_true rfl) (hC2  ) ?_
  show Bod _ _ _ _ [] _ _ _
  refine Bod.go dc_62_41 rfl ?_
  refine Bod.get dc_62_42 fr_62_15 (mk_44 _) rfl ?_
  refine Bod.go dc_62_45 rfl ?_
  refine Bod.virt (r := []) dc_62_46 kr_62_62 ⟨Or.inr rfl, ow_71, cl_7⟩ (by rw [np_71]; rfl) (by rw [np_71]; rfl) (ob_of (mk_23 _)) (Nat.le_of_ble_eq_true rfl) (put1_ev (p := a) (x0 := (nI op)) (by first | (simp (disch := omega) only [rI, rIe, rA, rIA, rLA, rJA, rVI, rQI, rVA, rQA, upd_at,  rAI, rLI, rJI, nI_add, pk_sub, kc_0, kc_1, kc_2, kc_3, kc_4, kc_5, reduceIte, Nat.reduceEqDiff, Nat.add_zero, rI_hold, rI_hold, rL_hold, ha, htk]; done) | (simp (disch := omega) only [rI, rIe, rA, rIA, rLA, rJA, rVI, rQI, rVA, rQA, upd_at,  rAI, rLI, rJI, nI_add, pk_sub, kc_0, kc_1, kc_2, kc_3, kc_4, kc_5, reduceIte, Nat.reduceEqDiff, Nat.add_zero, rI_hold, rI_hold, rL_hold, ha, htk]; exact congrArg nI (by omega))) (by omega)) ?_
  show Bod _ _ _ _ [_] _ _ _
  refine Bod.go dc_62_49 rfl ?_
  refine Bod.go dc_62_50 rfl ?_
  refine Bod.ic 0 (by decide) dc_62_51 ?_
  refine Bod.put dc_62_52 fr_62_49 (mk_44 _) (Nat.le_of_ble_eq_true rfl) pf_1_3 (st_4403 _ _) (mu_I _ _ _) ?_
  refine Bod.go dc_62_55 rfl ?_
  refine Bod.get dc_62_56 fr_62_9 (mk_44 _) rfl ?_
  refine Bod.get dc_62_59 fr_62_27 (mk_31 _) rfl ?_
  refine Bod.eqI (nI tk) (by simp only [rI, rAI, reduceIte, Nat.reduceEqDiff]; assumption) ?_
  refine Bod.stat (r := []) dc_62_62 kr_62_83 (Or.inl rfl) (by rw [np_81]; rfl) (by rw [np_81]; rfl) (by rw [np_81]; exact Nat.le_of_ble_eq_true rfl) (Nat.le_of_ble_eq_true rfl) (trm_ev (b := tk) (by omega)) ?_
  show Bod _ _ _ _ [_] _ _ _
  refine Bod.istn dc_62_65 (by rw [ml_62]; exact Nat.le_of_ble_eq_true rfl) ?_
  refine Bod.incN (t + 1) (by rw [kc_1, nI_add]) dc_62_66 (by rw [ml_62]; exact Nat.le_of_ble_eq_true rfl) rfl ?_
  refine Bod.go dc_62_69 rfl ?_
  exact Bod.lv (by rfl) hB
theorem made_ev {d : Nat} {S : cS} {a : Nat} {x : Int32} {y : Int32} (ha : sI S 2307 = nI a) (haM : a + 2 ≤ 40960) : Ans (d + 3) 77 [.ref 44, .int x, .int y] S (none) (wI 4403 (nI 0) (wI 2307 (nI (a + 2)) (wA 24 (a + 1) y (wA 24 a x S)))) := by
  refine Ans.of (by rw [ml_77]; exact Nat.le_of_ble_eq_true rfl) ?_
  refine Bod.go dc_77_0 rfl ?_
  refine Bod.get dc_77_1 fr_77_15 (mk_44 _) rfl ?_
  refine Bod.go dc_77_4 rfl ?_
  refine Bod.go dc_77_5 rfl ?_
  refine Bod.virt (r := []) dc_77_6 kr_77_38 ⟨Or.inr rfl, ow_54, cl_7⟩ (by rw [np_54]; rfl) (by rw [np_54]; rfl) (ob_of (mk_23 _)) (Nat.le_of_ble_eq_true rfl) (put2_ev (p := a) (x0 := x) (x1 := y) (by first | assumption | rfl | exact congrArg nI (by omega) | (simp (disch := omega) only [rI, rIe, rA, rIA, rLA, rJA, rVI, rQI, rVA, rQA, upd_at,  rAI, rLI, rJI, nI_add, pk_sub, kc_0, kc_1, kc_2, kc_3, kc_4, kc_5, reduceIte, Nat.reduceEqDiff, Nat.add_zero, rI_hold, rI_hold, rL_hold, ha]; done)) (by omega)) ?_
  show Bod _ _ _ _ [_] _ _ _
  refine Bod.go dc_77_9 rfl ?_
  refine Bod.go dc_77_10 rfl ?_
  refine Bod.ic 0 (by decide) dc_77_11 ?_
  refine Bod.put dc_77_12 fr_77_49 (mk_44 _) (Nat.le_of_ble_eq_true rfl) pf_1_3 (st_4403 _ _) (mu_I _ _ _) ?_
  exact Bod.retV dc_77_15 rt_77
theorem eCst {d : Nat} {S : cS} {a : Nat} {c : Nat} {hi : Int64} {lo : Int64} {S1 : cS} (ha : sI S 2307 = nI a) (hc : sI S 2308 = nI c) (haM : a + 2 ≤ 40960) (hcM : c < 5200) (hR : Ans (d + 8) 40 [.ref 31] (wI 2307 (nI (a + 2)) (wA 24 (a + 1) (nI c) (wA 24 a (nI 16) (wI 2308 (nI (c + 1)) (wL 26 c lo (wL 25 c hi S)))))) none S1) : Bod (d + 8) 72 0 [(0, .ref 44), (1, .long hi), (3, .long lo)] [] S none (S1) := by
  refine Bod.go dc_72_0 rfl ?_
  refine Bod.get dc_72_1 fr_72_15 (mk_44 _) rfl ?_
  refine Bod.go dc_72_4 rfl ?_
  refine Bod.go dc_72_5 rfl ?_
  refine Bod.virt (r := []) dc_72_6 kr_72_137 ⟨Or.inr rfl, ow_73, cl_7⟩ (by rw [np_73]; rfl) (by rw [np_73]; rfl) (ob_of (mk_23 _)) (Nat.le_of_ble_eq_true rfl) (putConstant_ev (p := a) (c := c) (hi := hi) (lo := lo) (by first | assumption | rfl | exact congrArg nI (by omega) | (simp (disch := omega) only [rI, rIe, rA, rIA, rLA, rJA, rVI, rQI, rVA, rQA, upd_at,  rAI, rLI, rJI, nI_add, pk_sub, kc_0, kc_1, kc_2, kc_3, kc_4, kc_5, reduceIte, Nat.reduceEqDiff, Nat.add_zero, rI_hold, rI_hold, rL_hold, ha, hc]; done)) (by first | assumption | rfl | exact congrArg nI (by omega) | (simp (disch := omega) only [rI, rIe, rA, rIA, rLA, rJA, rVI, rQI, rVA, rQA, upd_at,  rAI, rLI, rJI, nI_add, pk_sub, kc_0, kc_1, kc_2, kc_3, kc_4, kc_5, reduceIte, Nat.reduceEqDiff, Nat.add_zero, rI_hold, rI_hold, rL_hold, ha, hc]; done)) (by omega) (by omega)) ?_
  show Bod _ _ _ _ [] _ _ _
  refine Bod.go dc_72_9 rfl ?_
  refine Bod.get dc_72_10 fr_72_9 (mk_44 _) rfl ?_
  refine Bod.virt (r := []) dc_72_13 kr_72_68 ⟨Or.inr rfl, ow_40, cl_3⟩ (by rw [np_40]; rfl) (by rw [np_40]; rfl) (ob_of (mk_31 _)) (Nat.le_of_ble_eq_true rfl) (hR  ) ?_
  show Bod _ _ _ _ [] _ _ _
  exact Bod.retV dc_72_16 rt_72
theorem eNam_call {d : Nat} {S : cS} {q : Nat} {a : Nat} {w : Nat} {S1 : cS} {S2 : cS} (hq : sI S 3109 = nI q) (hR : Ans (d + 8) 40 [.ref 31] S none S1) (htk : sI S1 3105 = nI 6) (hS : Ans (d + 8) 67 [.ref 32, .int (nI 21), .int (nI q)] S1 (some (.int (nI a))) S2) (hW : Ans (d + 8) 70 [.int (nI q)] S2 (some (.int (nI w))) S2) (ha : sI S2 2307 = nI (a + 3)) (haM : a + 4 ≤ 40960) : Bod (d + 8) 66 0 [(0, .ref 44)] [] S none (wI 2307 (nI ((a + 3) + 1)) (wA 24 (a + 3) ((nI w)) S2)) := by
  refine Bod.go dc_66_0 rfl ?_
  refine Bod.get dc_66_1 fr_66_9 (mk_44 _) rfl ?_
  refine Bod.get dc_66_4 fr_66_111 (mk_31 _) rfl ?_
  refine Bod.eqI (nI q) (by first | assumption | rfl | exact congrArg nI (by omega) | (simp (disch := omega) only [rI, rIe, rA, rIA, rLA, rJA, rVI, rQI, rVA, rQA, upd_at,  rAI, rLI, rJI, nI_add, pk_sub, kc_0, kc_1, kc_2, kc_3, kc_4, kc_5, reduceIte, Nat.reduceEqDiff, Nat.add_zero, rI_hold, rI_hold, rL_hold, hq, htk, ha]; done)) ?_
  refine Bod.istn dc_66_7 (by rw [ml_66]; exact Nat.le_of_ble_eq_true rfl) ?_
  refine Bod.go dc_66_8 rfl ?_
  refine Bod.get dc_66_9 fr_66_9 (mk_44 _) rfl ?_
  refine Bod.virt (r := []) dc_66_12 kr_66_68 ⟨Or.inr rfl, ow_40, cl_3⟩ (by rw [np_40]; rfl) (by rw [np_40]; rfl) (ob_of (mk_31 _)) (Nat.le_of_ble_eq_true rfl) (hR  ) ?_
  show Bod _ _ _ _ [] _ _ _
  refine Bod.go dc_66_15 rfl ?_
  refine Bod.get dc_66_16 fr_66_9 (mk_44 _) rfl ?_
  refine Bod.get dc_66_19 fr_66_27 (mk_31 _) rfl ?_
  refine Bod.eqI (nI 6) (by first | (simp (disch := omega) only [rI, rIe, rA, rIA, rLA, rJA, rVI, rQI, rVA, rQA, upd_at,  rAI, rLI, rJI, nI_add, pk_sub, kc_0, kc_1, kc_2, kc_3, kc_4, kc_5, reduceIte, Nat.reduceEqDiff, Nat.add_zero, rI_hold, rI_hold, rL_hold, hq, htk, ha]; done) | (simp (disch := omega) only [rI, rIe, rA, rIA, rLA, rJA, rVI, rQI, rVA, rQA, upd_at,  rAI, rLI, rJI, nI_add, pk_sub, kc_0, kc_1, kc_2, kc_3, kc_4, kc_5, reduceIte, Nat.reduceEqDiff, Nat.add_zero, rI_hold, rI_hold, rL_hold, hq, htk, ha]; exact congrArg nI (by omega))) ?_
  refine Bod.bip 6 (by decide) dc_66_22 ?_
  refine Bod.icF dc_66_24 rfl (k2_ne_F (k_eq 6 6 rfl rfl (by omega))) ?_
  refine Bod.go dc_66_27 rfl ?_
  refine Bod.get dc_66_28 fr_66_19 (mk_44 _) rfl ?_
  refine Bod.bip 21 (by decide) dc_66_31 ?_
  refine Bod.go dc_66_33 rfl ?_
  refine Bod.virt (r := []) dc_66_34 kr_66_140 ⟨Or.inr rfl, ow_67, cl_8⟩ (by rw [np_67]; rfl) (by rw [np_67]; rfl) (ob_of (mk_32 _)) (Nat.le_of_ble_eq_true rfl) (hS  ) ?_
  show Bod _ _ _ _ [_] _ _ _
  refine Bod.go dc_66_37 rfl ?_
  refine Bod.go dc_66_38 rfl ?_
  refine Bod.get dc_66_39 fr_66_15 (mk_44 _) rfl ?_
  refine Bod.go dc_66_42 rfl ?_
  refine Bod.stat (r := [_]) dc_66_43 kr_66_143 (Or.inr rfl) (by rw [np_70]; rfl) (by rw [np_70]; rfl) (by rw [np_70]; exact Nat.le_of_ble_eq_true rfl) (Nat.le_of_ble_eq_true rfl) (hW  ) ?_
  show Bod _ _ _ _ [_, _] _ _ _
  refine Bod.virt (r := []) dc_66_46 kr_66_62 ⟨Or.inr rfl, ow_71, cl_7⟩ (by rw [np_71]; rfl) (by rw [np_71]; rfl) (ob_of (mk_23 _)) (Nat.le_of_ble_eq_true rfl) (put1_ev (p := a + 3) (x0 := (nI w)) (by first | (simp (disch := omega) only [rI, rIe, rA, rIA, rLA, rJA, rVI, rQI, rVA, rQA, upd_at,  rAI, rLI, rJI, nI_add, pk_sub, kc_0, kc_1, kc_2, kc_3, kc_4, kc_5, reduceIte, Nat.reduceEqDiff, Nat.add_zero, rI_hold, rI_hold, rL_hold, hq, htk, ha]; done) | (simp (disch := omega) only [rI, rIe, rA, rIA, rLA, rJA, rVI, rQI, rVA, rQA, upd_at,  rAI, rLI, rJI, nI_add, pk_sub, kc_0, kc_1, kc_2, kc_3, kc_4, kc_5, reduceIte, Nat.reduceEqDiff, Nat.add_zero, rI_hold, rI_hold, rL_hold, hq, htk, ha]; exact congrArg nI (by omega))) (by omega)) ?_
  show Bod _ _ _ _ [_] _ _ _
  refine Bod.go dc_66_49 rfl ?_
  exact Bod.retV dc_66_50 rt_66
theorem eNam_load {d : Nat} {S : cS} {q : Nat} {a : Nat} {tk : Nat} {S1 : cS} {S2 : cS} (hq : sI S 3109 = nI q) (hR : Ans (d + 8) 40 [.ref 31] S none S1) (htk : sI S1 3105 = nI tk) (htk2 : tk < 64) (hn : tk ≠ 6) (hS : Ans (d + 8) 67 [.ref 32, .int (nI 18), .int (nI q)] S1 (some (.int (nI a))) S2) : Bod (d + 8) 66 0 [(0, .ref 44)] [] S none (wI 4403 (nI 1) (wI 4404 (nI a) S2)) := by
  refine Bod.go dc_66_0 rfl ?_
  refine Bod.get dc_66_1 fr_66_9 (mk_44 _) rfl ?_
  refine Bod.get dc_66_4 fr_66_111 (mk_31 _) rfl ?_
  refine Bod.eqI (nI q) (by first | assumption | rfl | exact congrArg nI (by omega) | (simp (disch := omega) only [rI, rIe, rA, rIA, rLA, rJA, rVI, rQI, rVA, rQA, upd_at,  rAI, rLI, rJI, nI_add, pk_sub, kc_0, kc_1, kc_2, kc_3, kc_4, kc_5, reduceIte, Nat.reduceEqDiff, Nat.add_zero, rI_hold, rI_hold, rL_hold, hq, htk]; done)) ?_
  refine Bod.istn dc_66_7 (by rw [ml_66]; exact Nat.le_of_ble_eq_true rfl) ?_
  refine Bod.go dc_66_8 rfl ?_
  refine Bod.get dc_66_9 fr_66_9 (mk_44 _) rfl ?_
  refine Bod.virt (r := []) dc_66_12 kr_66_68 ⟨Or.inr rfl, ow_40, cl_3⟩ (by rw [np_40]; rfl) (by rw [np_40]; rfl) (ob_of (mk_31 _)) (Nat.le_of_ble_eq_true rfl) (hR  ) ?_
  show Bod _ _ _ _ [] _ _ _
  refine Bod.go dc_66_15 rfl ?_
  refine Bod.get dc_66_16 fr_66_9 (mk_44 _) rfl ?_
  refine Bod.get dc_66_19 fr_66_27 (mk_31 _) rfl ?_
  refine Bod.eqI (nI tk) (by assumption) ?_
  refine Bod.bip 6 (by decide) dc_66_22 ?_
  refine Bod.icT dc_66_24 rfl (k2_ne_T (k_ne tk 6 rfl rfl (by omega) (by omega) (by omega))) ?_
  refine Bod.go dc_66_51 rfl ?_
  refine Bod.go dc_66_52 rfl ?_
  refine Bod.get dc_66_53 fr_66_19 (mk_44 _) rfl ?_
  refine Bod.bip 18 (by decide) dc_66_56 ?_
  refine Bod.go dc_66_58 rfl ?_
  refine Bod.virt (r := [_]) dc_66_59 kr_66_140 ⟨Or.inr rfl, ow_67, cl_8⟩ (by rw [np_67]; rfl) (by rw [np_67]; rfl) (ob_of (mk_32 _)) (Nat.le_of_ble_eq_true rfl) (hS  ) ?_
  show Bod _ _ _ _ [_, _] _ _ _
  refine Bod.put dc_66_62 fr_66_108 (mk_44 _) (Nat.le_of_ble_eq_true rfl) pf_1_4 (st_4404 _ _) (mu_I _ _ _) ?_
  refine Bod.go dc_66_65 rfl ?_
  refine Bod.ic 1 (by decide) dc_66_66 ?_
  refine Bod.put dc_66_67 fr_66_49 (mk_44 _) (Nat.le_of_ble_eq_true rfl) pf_1_3 (st_4403 _ _) (mu_I _ _ _) ?_
  exact Bod.retV dc_66_70 rt_66
theorem eIdx_go {d : Nat} {S : cS} {dp : Nat} {a : Nat} {S1 : cS} {S2 : cS} {S3 : cS} (hG : Ans (d + 8) 74 [.ref 44, .int (nI dp)] S (some (.int (nI 1))) S1) (hC : Ans (d + 8) 57 [.ref 44, .int (nI (dp + 1))] S1 none S2) (hP : Ans (d + 8) 75 [.ref 31, .int (nI 9)] S2 none S3) (ha : sI S3 2307 = nI a) (haM : a + 1 ≤ 40960) : Bod (d + 8) 79 0 [(0, .ref 44), (1, .int (nI dp))] [] S none (wI 4403 (nI 2) (wI 4404 (nI a) (wI 2307 (nI (a + 1)) (wA 24 a ((nI 39)) S3)))) := by
  refine Bod.go dc_79_0 rfl ?_
  refine Bod.go dc_79_1 rfl ?_
  refine Bod.virt (r := []) dc_79_2 kr_79_58 ⟨Or.inl rfl, ow_74, cl_1⟩ (by rw [np_74]; rfl) (by rw [np_74]; rfl) (ob_of (mk_44 _)) (Nat.le_of_ble_eq_true rfl) (hG  ) ?_
  show Bod _ _ _ _ [_] _ _ _
  refine Bod.ifF dc_79_5 rfl (k1_eq_F (k_ne 1 0 rfl rfl (by omega) (by omega) (by omega))) ?_
  refine Bod.go dc_79_8 rfl ?_
  refine Bod.go dc_79_9 rfl ?_
  refine Bod.ic 1 (by decide) dc_79_10 ?_
  refine Bod.addN (dp + 1) (by omega) dc_79_11 ?_
  refine Bod.virt (r := []) dc_79_12 kr_79_105 ⟨Or.inl rfl, ow_57, cl_1⟩ (by rw [np_57]; rfl) (by rw [np_57]; rfl) (ob_of (mk_44 _)) (Nat.le_of_ble_eq_true rfl) (hC  ) ?_
  show Bod _ _ _ _ [] _ _ _
  refine Bod.go dc_79_15 rfl ?_
  refine Bod.get dc_79_16 fr_79_9 (mk_44 _) rfl ?_
  refine Bod.bip 9 (by decide) dc_79_19 ?_
  refine Bod.virt (r := []) dc_79_21 kr_79_33 ⟨Or.inr rfl, ow_75, cl_3⟩ (by rw [np_75]; rfl) (by rw [np_75]; rfl) (ob_of (mk_31 _)) (Nat.le_of_ble_eq_true rfl) (hP  ) ?_
  show Bod _ _ _ _ [] _ _ _
  refine Bod.go dc_79_24 rfl ?_
  refine Bod.go dc_79_25 rfl ?_
  refine Bod.get dc_79_26 fr_79_15 (mk_44 _) rfl ?_
  refine Bod.bip 39 (by decide) dc_79_29 ?_
  refine Bod.virt (r := [_]) dc_79_31 kr_79_62 ⟨Or.inr rfl, ow_71, cl_7⟩ (by rw [np_71]; rfl) (by rw [np_71]; rfl) (ob_of (mk_23 _)) (Nat.le_of_ble_eq_true rfl) (put1_ev (p := a) (x0 := (nI 39)) (by first | (simp (disch := omega) only [rI, rIe, rA, rIA, rLA, rJA, rVI, rQI, rVA, rQA, upd_at,  rAI, rLI, rJI, nI_add, pk_sub, kc_0, kc_1, kc_2, kc_3, kc_4, kc_5, reduceIte, Nat.reduceEqDiff, Nat.add_zero, rI_hold, rI_hold, rL_hold, ha]; done) | (simp (disch := omega) only [rI, rIe, rA, rIA, rLA, rJA, rVI, rQI, rVA, rQA, upd_at,  rAI, rLI, rJI, nI_add, pk_sub, kc_0, kc_1, kc_2, kc_3, kc_4, kc_5, reduceIte, Nat.reduceEqDiff, Nat.add_zero, rI_hold, rI_hold, rL_hold, ha]; exact congrArg nI (by omega))) (by omega)) ?_
  show Bod _ _ _ _ [_, _] _ _ _
  refine Bod.put dc_79_34 fr_79_108 (mk_44 _) (Nat.le_of_ble_eq_true rfl) pf_1_4 (st_4404 _ _) (mu_I _ _ _) ?_
  refine Bod.go dc_79_37 rfl ?_
  refine Bod.ic 2 (by decide) dc_79_38 ?_
  refine Bod.put dc_79_39 fr_79_49 (mk_44 _) (Nat.le_of_ble_eq_true rfl) pf_1_3 (st_4403 _ _) (mu_I _ _ _) ?_
  exact Bod.retV dc_79_42 rt_79
theorem eIdx_no {d : Nat} {S : cS} {dp : Nat} {a : Nat} {S1 : cS} {S3 : cS} (hG : Ans (d + 8) 74 [.ref 44, .int (nI dp)] S (some (.int (nI 0))) S1) (hP : Ans (d + 8) 75 [.ref 31, .int (nI 9)] S1 none S3) (ha : sI S3 2307 = nI a) (haM : a + 1 ≤ 40960) : Bod (d + 8) 79 0 [(0, .ref 44), (1, .int (nI dp))] [] S none (wI 4403 (nI 2) (wI 4404 (nI a) (wI 2307 (nI (a + 1)) (wA 24 a ((nI 39)) S3)))) := by
  refine Bod.go dc_79_0 rfl ?_
  refine Bod.go dc_79_1 rfl ?_
  refine Bod.virt (r := []) dc_79_2 kr_79_58 ⟨Or.inl rfl, ow_74, cl_1⟩ (by rw [np_74]; rfl) (by rw [np_74]; rfl) (ob_of (mk_44 _)) (Nat.le_of_ble_eq_true rfl) (hG  ) ?_
  show Bod _ _ _ _ [_] _ _ _
  refine Bod.ifT dc_79_5 rfl (k1_eq_T (k_eq 0 0 rfl rfl (by omega))) ?_
  refine Bod.go dc_79_15 rfl ?_
  refine Bod.get dc_79_16 fr_79_9 (mk_44 _) rfl ?_
  refine Bod.bip 9 (by decide) dc_79_19 ?_
  refine Bod.virt (r := []) dc_79_21 kr_79_33 ⟨Or.inr rfl, ow_75, cl_3⟩ (by rw [np_75]; rfl) (by rw [np_75]; rfl) (ob_of (mk_31 _)) (Nat.le_of_ble_eq_true rfl) (hP  ) ?_
  show Bod _ _ _ _ [] _ _ _
  refine Bod.go dc_79_24 rfl ?_
  refine Bod.go dc_79_25 rfl ?_
  refine Bod.get dc_79_26 fr_79_15 (mk_44 _) rfl ?_
  refine Bod.bip 39 (by decide) dc_79_29 ?_
  refine Bod.virt (r := [_]) dc_79_31 kr_79_62 ⟨Or.inr rfl, ow_71, cl_7⟩ (by rw [np_71]; rfl) (by rw [np_71]; rfl) (ob_of (mk_23 _)) (Nat.le_of_ble_eq_true rfl) (put1_ev (p := a) (x0 := (nI 39)) (by first | (simp (disch := omega) only [rI, rIe, rA, rIA, rLA, rJA, rVI, rQI, rVA, rQA, upd_at,  rAI, rLI, rJI, nI_add, pk_sub, kc_0, kc_1, kc_2, kc_3, kc_4, kc_5, reduceIte, Nat.reduceEqDiff, Nat.add_zero, rI_hold, rI_hold, rL_hold, ha]; done) | (simp (disch := omega) only [rI, rIe, rA, rIA, rLA, rJA, rVI, rQI, rVA, rQA, upd_at,  rAI, rLI, rJI, nI_add, pk_sub, kc_0, kc_1, kc_2, kc_3, kc_4, kc_5, reduceIte, Nat.reduceEqDiff, Nat.add_zero, rI_hold, rI_hold, rL_hold, ha]; exact congrArg nI (by omega))) (by omega)) ?_
  show Bod _ _ _ _ [_, _] _ _ _
  refine Bod.put dc_79_34 fr_79_108 (mk_44 _) (Nat.le_of_ble_eq_true rfl) pf_1_4 (st_4404 _ _) (mu_I _ _ _) ?_
  refine Bod.go dc_79_37 rfl ?_
  refine Bod.ic 2 (by decide) dc_79_38 ?_
  refine Bod.put dc_79_39 fr_79_49 (mk_44 _) (Nat.le_of_ble_eq_true rfl) pf_1_3 (st_4403 _ _) (mu_I _ _ _) ?_
  exact Bod.retV dc_79_42 rt_79
theorem eAtt_go {d : Nat} {S : cS} {a : Nat} {q : Nat} {S1 : cS} {S2 : cS} (hR : Ans (d + 8) 40 [.ref 31] S none S1) (htk : sI S1 3105 = nI 3) (hq : sI S1 3109 = nI q) (ha : sI S1 2307 = nI a) (haM : a + 2 ≤ 40960) (hR2 : Ans (d + 8) 40 [.ref 31] (wI 4403 (nI 3) (wI 4404 (nI a) (wI 2307 (nI (a + 2)) (wA 24 (a + 1) (nI q) (wA 24 a (nI 44) S1))))) none S2) : Bod (d + 8) 80 0 [(0, .ref 44)] [] S none (S2) := by
  refine Bod.go dc_80_0 rfl ?_
  refine Bod.get dc_80_1 fr_80_9 (mk_44 _) rfl ?_
  refine Bod.virt (r := []) dc_80_4 kr_80_68 ⟨Or.inr rfl, ow_40, cl_3⟩ (by rw [np_40]; rfl) (by rw [np_40]; rfl) (ob_of (mk_31 _)) (Nat.le_of_ble_eq_true rfl) (hR  ) ?_
  show Bod _ _ _ _ [] _ _ _
  refine Bod.go dc_80_7 rfl ?_
  refine Bod.get dc_80_8 fr_80_9 (mk_44 _) rfl ?_
  refine Bod.get dc_80_11 fr_80_27 (mk_31 _) rfl ?_
  refine Bod.eqI (nI 3) (by assumption) ?_
  refine Bod.ic 3 (by decide) dc_80_14 ?_
  refine Bod.icT dc_80_15 rfl (k2_eq_T (k_eq 3 3 rfl rfl (by omega))) ?_
  refine Bod.go dc_80_25 rfl ?_
  refine Bod.go dc_80_26 rfl ?_
  refine Bod.get dc_80_27 fr_80_15 (mk_44 _) rfl ?_
  refine Bod.bip 44 (by decide) dc_80_30 ?_
  refine Bod.go dc_80_32 rfl ?_
  refine Bod.get dc_80_33 fr_80_9 (mk_44 _) rfl ?_
  refine Bod.get dc_80_36 fr_80_111 (mk_31 _) rfl ?_
  refine Bod.eqI (nI q) (by assumption) ?_
  refine Bod.virt (r := [_]) dc_80_39 kr_80_38 ⟨Or.inr rfl, ow_54, cl_7⟩ (by rw [np_54]; rfl) (by rw [np_54]; rfl) (ob_of (mk_23 _)) (Nat.le_of_ble_eq_true rfl) (put2_ev (p := a) (x0 := (nI 44)) (x1 := (nI q)) (by first | (simp (disch := omega) only [rI, rIe, rA, rIA, rLA, rJA, rVI, rQI, rVA, rQA, upd_at,  rAI, rLI, rJI, nI_add, pk_sub, kc_0, kc_1, kc_2, kc_3, kc_4, kc_5, reduceIte, Nat.reduceEqDiff, Nat.add_zero, rI_hold, rI_hold, rL_hold, htk, hq, ha]; done) | (simp (disch := omega) only [rI, rIe, rA, rIA, rLA, rJA, rVI, rQI, rVA, rQA, upd_at,  rAI, rLI, rJI, nI_add, pk_sub, kc_0, kc_1, kc_2, kc_3, kc_4, kc_5, reduceIte, Nat.reduceEqDiff, Nat.add_zero, rI_hold, rI_hold, rL_hold, htk, hq, ha]; exact congrArg nI (by omega))) (by omega)) ?_
  show Bod _ _ _ _ [_, _] _ _ _
  refine Bod.put dc_80_42 fr_80_108 (mk_44 _) (Nat.le_of_ble_eq_true rfl) pf_1_4 (st_4404 _ _) (mu_I _ _ _) ?_
  refine Bod.go dc_80_45 rfl ?_
  refine Bod.ic 3 (by decide) dc_80_46 ?_
  refine Bod.put dc_80_47 fr_80_49 (mk_44 _) (Nat.le_of_ble_eq_true rfl) pf_1_3 (st_4403 _ _) (mu_I _ _ _) ?_
  refine Bod.go dc_80_50 rfl ?_
  refine Bod.get dc_80_51 fr_80_9 (mk_44 _) rfl ?_
  refine Bod.virt (r := []) dc_80_54 kr_80_68 ⟨Or.inr rfl, ow_40, cl_3⟩ (by rw [np_40]; rfl) (by rw [np_40]; rfl) (ob_of (mk_31 _)) (Nat.le_of_ble_eq_true rfl) (hR2  ) ?_
  show Bod _ _ _ _ [] _ _ _
  exact Bod.retV dc_80_57 rt_80
theorem eAtt_no {d : Nat} {S : cS} {a : Nat} {tk : Nat} {S1 : cS} {S0 : cS} {S2 : cS} (hR : Ans (d + 8) 40 [.ref 31] S none S1) (htk : sI S1 3105 = nI tk) (htk2 : tk < 64) (hn : tk ≠ 3) (hF : Ans (d + 8) 44 [.ref 31] S1 none S0) (ha : sI S0 2307 = nI a) (haM : a + 2 ≤ 40960) (hR2 : Ans (d + 8) 40 [.ref 31] (wI 4403 (nI 3) (wI 4404 (nI a) (wI 2307 (nI (a + 2)) (wA 24 (a + 1) (sI S0 3109) (wA 24 a (nI 44) S0))))) none S2) : Bod (d + 8) 80 0 [(0, .ref 44)] [] S none (S2) := by
  refine Bod.go dc_80_0 rfl ?_
  refine Bod.get dc_80_1 fr_80_9 (mk_44 _) rfl ?_
  refine Bod.virt (r := []) dc_80_4 kr_80_68 ⟨Or.inr rfl, ow_40, cl_3⟩ (by rw [np_40]; rfl) (by rw [np_40]; rfl) (ob_of (mk_31 _)) (Nat.le_of_ble_eq_true rfl) (hR  ) ?_
  show Bod _ _ _ _ [] _ _ _
  refine Bod.go dc_80_7 rfl ?_
  refine Bod.get dc_80_8 fr_80_9 (mk_44 _) rfl ?_
  refine Bod.get dc_80_11 fr_80_27 (mk_31 _) rfl ?_
  refine Bod.eqI (nI tk) (by assumption) ?_
  refine Bod.ic 3 (by decide) dc_80_14 ?_
  refine Bod.icF dc_80_15 rfl (k2_eq_F (k_ne tk 3 rfl rfl (by omega) (by omega) (by omega))) ?_
  refine Bod.go dc_80_18 rfl ?_
  refine Bod.get dc_80_19 fr_80_9 (mk_44 _) rfl ?_
  refine Bod.virt (r := []) dc_80_22 kr_80_65 ⟨Or.inr rfl, ow_44, cl_3⟩ (by rw [np_44]; rfl) (by rw [np_44]; rfl) (ob_of (mk_31 _)) (Nat.le_of_ble_eq_true rfl) (hF  ) ?_
  show Bod _ _ _ _ [] _ _ _
  refine Bod.go dc_80_25 rfl ?_
  refine Bod.go dc_80_26 rfl ?_
  refine Bod.get dc_80_27 fr_80_15 (mk_44 _) rfl ?_
  refine Bod.bip 44 (by decide) dc_80_30 ?_
  refine Bod.go dc_80_32 rfl ?_
  refine Bod.get dc_80_33 fr_80_9 (mk_44 _) rfl ?_
  refine Bod.get dc_80_36 fr_80_111 (mk_31 _) rfl ?_
  refine Bod.virt (r := [_]) dc_80_39 kr_80_38 ⟨Or.inr rfl, ow_54, cl_7⟩ (by rw [np_54]; rfl) (by rw [np_54]; rfl) (ob_of (mk_23 _)) (Nat.le_of_ble_eq_true rfl) (put2_ev (p := a) (x0 := (nI 44)) (x1 := (sI S0 3109)) (by first | (simp (disch := omega) only [rI, rIe, rA, rIA, rLA, rJA, rVI, rQI, rVA, rQA, upd_at,  rAI, rLI, rJI, nI_add, pk_sub, kc_0, kc_1, kc_2, kc_3, kc_4, kc_5, reduceIte, Nat.reduceEqDiff, Nat.add_zero, rI_hold, rI_hold, rL_hold, htk, ha]; done) | (simp (disch := omega) only [rI, rIe, rA, rIA, rLA, rJA, rVI, rQI, rVA, rQA, upd_at,  rAI, rLI, rJI, nI_add, pk_sub, kc_0, kc_1, kc_2, kc_3, kc_4, kc_5, reduceIte, Nat.reduceEqDiff, Nat.add_zero, rI_hold, rI_hold, rL_hold, htk, ha]; exact congrArg nI (by omega))) (by omega)) ?_
  show Bod _ _ _ _ [_, _] _ _ _
  refine Bod.put dc_80_42 fr_80_108 (mk_44 _) (Nat.le_of_ble_eq_true rfl) pf_1_4 (st_4404 _ _) (mu_I _ _ _) ?_
  refine Bod.go dc_80_45 rfl ?_
  refine Bod.ic 3 (by decide) dc_80_46 ?_
  refine Bod.put dc_80_47 fr_80_49 (mk_44 _) (Nat.le_of_ble_eq_true rfl) pf_1_3 (st_4403 _ _) (mu_I _ _ _) ?_
  refine Bod.go dc_80_50 rfl ?_
  refine Bod.get dc_80_51 fr_80_9 (mk_44 _) rfl ?_
  refine Bod.virt (r := []) dc_80_54 kr_80_68 ⟨Or.inr rfl, ow_40, cl_3⟩ (by rw [np_40]; rfl) (by rw [np_40]; rfl) (ob_of (mk_31 _)) (Nat.le_of_ble_eq_true rfl) (hR2  ) ?_
  show Bod _ _ _ _ [] _ _ _
  exact Bod.retV dc_80_57 rt_80
theorem ePst_go {d : Nat} {S Sf : cS} {v : Option Value} {dp : Nat} {S1 : cS} (hC : Ans (d + 8) 65 [.ref 44, .int (nI dp)] S none S1) (hB : Bod (d + 8) 64 9 [(3, .int (nI 0)), (2, .int (nI 1)), (0, .ref 44), (1, .int (nI dp))] [] (S1) v Sf) : Bod (d + 8) 64 0 [(0, .ref 44), (1, .int (nI dp))] [] S v Sf := by
  refine Bod.go dc_64_0 rfl ?_
  refine Bod.go dc_64_1 rfl ?_
  refine Bod.virt (r := []) dc_64_2 kr_64_89 ⟨Or.inl rfl, ow_65, cl_1⟩ (by rw [np_65]; rfl) (by rw [np_65]; rfl) (ob_of (mk_44 _)) (Nat.le_of_ble_eq_true rfl) (hC  ) ?_
  show Bod _ _ _ _ [] _ _ _
  refine Bod.ic 1 (by decide) dc_64_5 ?_
  refine Bod.istn dc_64_6 (by rw [ml_64]; exact Nat.le_of_ble_eq_true rfl) ?_
  refine Bod.ic 0 (by decide) dc_64_7 ?_
  refine Bod.istn dc_64_8 (by rw [ml_64]; exact Nat.le_of_ble_eq_true rfl) ?_
  exact Bod.lv (by rfl) hB
theorem post_sw : ∀ b, b < 64 → (b = 6 ∨ b = 8 ∨ b = 14 ∨ sm_br (.lookupswitch (66) #[(6, 33), (8, 51), (14, 59)]) 33 27 [.int (nI b)] = some (93, [])) := by decide +kernel
theorem ePst_stop {d : Nat} {S : cS} {dp : Nat} {t : Nat} {tk : Nat} (htk : sI S 3105 = nI tk) (htk2 : tk < 64) (hn6 : tk ≠ 6) (hn8 : tk ≠ 8) (hn14 : tk ≠ 14) (ht : t < 3000) : Bod (d + 8) 64 9 [(3, .int (nI t)), (2, .int (nI 1)), (0, .ref 44), (1, .int (nI dp))] [] S none (S) := by
  refine Bod.go dc_64_9 rfl ?_
  refine Bod.ifF dc_64_10 rfl (k1_eq_F (k_ne 1 0 rfl rfl (by omega) (by omega) (by omega))) ?_
  refine Bod.go dc_64_13 rfl ?_
  refine Bod.sip 3000 (by decide) dc_64_14 ?_
  refine Bod.icF dc_64_17 rfl (k2_ge_F t 3000 rfl rfl (by omega) (by omega)) ?_
  refine Bod.go dc_64_20 rfl ?_
  refine Bod.get dc_64_21 fr_64_9 (mk_44 _) rfl ?_
  refine Bod.get dc_64_24 fr_64_27 (mk_31 _) rfl ?_
  refine Bod.eqI (nI tk) (by first | assumption | rfl | exact congrArg nI (by omega) | (simp (disch := omega) only [rI, rIe, rA, rIA, rLA, rJA, rVI, rQI, rVA, rQA, upd_at,  rAI, rLI, rJI, nI_add, pk_sub, kc_0, kc_1, kc_2, kc_3, kc_4, kc_5, reduceIte, Nat.reduceEqDiff, Nat.add_zero, rI_hold, rI_hold, rL_hold, htk]; done)) ?_
  refine Bod.sw (t := 93) dc_64_27 rfl rfl ((((post_sw tk (by omega)).resolve_left hn6).resolve_left hn8).resolve_left hn14) ?_
  refine Bod.ic 0 (by decide) dc_64_93 ?_
  refine Bod.istn dc_64_94 (by rw [ml_64]; exact Nat.le_of_ble_eq_true rfl) ?_
  refine Bod.incN (t + 1) (by rw [kc_1, nI_add]) dc_64_95 (by rw [ml_64]; exact Nat.le_of_ble_eq_true rfl) rfl ?_
  refine Bod.go dc_64_98 rfl ?_
  refine Bod.go dc_64_9 rfl ?_
  refine Bod.ifT dc_64_10 rfl (k1_eq_T (k_eq 0 0 rfl rfl (by omega))) ?_
  exact Bod.retV dc_64_101 rt_64
theorem ePst_call {d : Nat} {S Sf : cS} {v : Option Value} {dp : Nat} {t : Nat} {m : Nat} {S1 : cS} {S2 : cS} (htk : sI S 3105 = nI 6) (ht : t < 3000) (hL : Ans (d + 8) 76 [.ref 44, .int (nI dp), .int (nI 7), .int (nI 8)] S (some (.int (nI m))) S1) (hM : Ans (d + 8) 77 [.ref 44, .int (nI 51), .int (nI m)] S1 none S2) (hB : Bod (d + 8) 64 9 [(3, .int (nI (t + 1))), (2, .int (nI 1)), (0, .ref 44), (1, .int (nI dp))] [] (S2) v Sf) : Bod (d + 8) 64 9 [(3, .int (nI t)), (2, .int (nI 1)), (0, .ref 44), (1, .int (nI dp))] [] S v Sf := by
  refine Bod.go dc_64_9 rfl ?_
  refine Bod.ifF dc_64_10 rfl (k1_eq_F (k_ne 1 0 rfl rfl (by omega) (by omega) (by omega))) ?_
  refine Bod.go dc_64_13 rfl ?_
  refine Bod.sip 3000 (by decide) dc_64_14 ?_
  refine Bod.icF dc_64_17 rfl (k2_ge_F t 3000 rfl rfl (by omega) (by omega)) ?_
  refine Bod.go dc_64_20 rfl ?_
  refine Bod.get dc_64_21 fr_64_9 (mk_44 _) rfl ?_
  refine Bod.get dc_64_24 fr_64_27 (mk_31 _) rfl ?_
  refine Bod.eqI (nI 6) (by first | assumption | rfl | exact congrArg nI (by omega) | (simp (disch := omega) only [rI, rIe, rA, rIA, rLA, rJA, rVI, rQI, rVA, rQA, upd_at,  rAI, rLI, rJI, nI_add, pk_sub, kc_0, kc_1, kc_2, kc_3, kc_4, kc_5, reduceIte, Nat.reduceEqDiff, Nat.add_zero, rI_hold, rI_hold, rL_hold, htk]; done)) ?_
  refine Bod.sw (t := 60) dc_64_27 rfl rfl (by decide +kernel) ?_
  refine Bod.go dc_64_60 rfl ?_
  refine Bod.bip 51 (by decide) dc_64_61 ?_
  refine Bod.go dc_64_63 rfl ?_
  refine Bod.go dc_64_64 rfl ?_
  refine Bod.bip 7 (by decide) dc_64_65 ?_
  refine Bod.bip 8 (by decide) dc_64_67 ?_
  refine Bod.virt (r := [_, _]) dc_64_69 kr_64_92 ⟨Or.inl rfl, ow_76, cl_1⟩ (by rw [np_76]; rfl) (by rw [np_76]; rfl) (ob_of (mk_44 _)) (Nat.le_of_ble_eq_true rfl) (hL  ) ?_
  show Bod _ _ _ _ [_, _, _] _ _ _
  refine Bod.virt (r := []) dc_64_72 kr_64_96 ⟨Or.inl rfl, ow_77, cl_1⟩ (by rw [np_77]; rfl) (by rw [np_77]; rfl) (ob_of (mk_44 _)) (Nat.le_of_ble_eq_true rfl) (hM  ) ?_
  show Bod _ _ _ _ [] _ _ _
  refine Bod.go dc_64_75 rfl ?_
  refine Bod.incN (t + 1) (by rw [kc_1, nI_add]) dc_64_95 (by rw [ml_64]; exact Nat.le_of_ble_eq_true rfl) rfl ?_
  refine Bod.go dc_64_98 rfl ?_
  exact Bod.lv (by rfl) hB
theorem ePst_index {d : Nat} {S Sf : cS} {v : Option Value} {dp : Nat} {t : Nat} {S1 : cS} (htk : sI S 3105 = nI 8) (ht : t < 3000) (hX : Ans (d + 8) 79 [.ref 44, .int (nI dp)] S none S1) (hB : Bod (d + 8) 64 9 [(3, .int (nI (t + 1))), (2, .int (nI 1)), (0, .ref 44), (1, .int (nI dp))] [] (S1) v Sf) : Bod (d + 8) 64 9 [(3, .int (nI t)), (2, .int (nI 1)), (0, .ref 44), (1, .int (nI dp))] [] S v Sf := by
  refine Bod.go dc_64_9 rfl ?_
  refine Bod.ifF dc_64_10 rfl (k1_eq_F (k_ne 1 0 rfl rfl (by omega) (by omega) (by omega))) ?_
  refine Bod.go dc_64_13 rfl ?_
  refine Bod.sip 3000 (by decide) dc_64_14 ?_
  refine Bod.icF dc_64_17 rfl (k2_ge_F t 3000 rfl rfl (by omega) (by omega)) ?_
  refine Bod.go dc_64_20 rfl ?_
  refine Bod.get dc_64_21 fr_64_9 (mk_44 _) rfl ?_
  refine Bod.get dc_64_24 fr_64_27 (mk_31 _) rfl ?_
  refine Bod.eqI (nI 8) (by first | assumption | rfl | exact congrArg nI (by omega) | (simp (disch := omega) only [rI, rIe, rA, rIA, rLA, rJA, rVI, rQI, rVA, rQA, upd_at,  rAI, rLI, rJI, nI_add, pk_sub, kc_0, kc_1, kc_2, kc_3, kc_4, kc_5, reduceIte, Nat.reduceEqDiff, Nat.add_zero, rI_hold, rI_hold, rL_hold, htk]; done)) ?_
  refine Bod.sw (t := 78) dc_64_27 rfl rfl (by decide +kernel) ?_
  refine Bod.go dc_64_78 rfl ?_
  refine Bod.go dc_64_79 rfl ?_
  refine Bod.virt (r := []) dc_64_80 kr_64_99 ⟨Or.inl rfl, ow_79, cl_1⟩ (by rw [np_79]; rfl) (by rw [np_79]; rfl) (ob_of (mk_44 _)) (Nat.le_of_ble_eq_true rfl) (hX  ) ?_
  show Bod _ _ _ _ [] _ _ _
  refine Bod.go dc_64_83 rfl ?_
  refine Bod.incN (t + 1) (by rw [kc_1, nI_add]) dc_64_95 (by rw [ml_64]; exact Nat.le_of_ble_eq_true rfl) rfl ?_
  refine Bod.go dc_64_98 rfl ?_
  exact Bod.lv (by rfl) hB
theorem ePst_attr {d : Nat} {S Sf : cS} {v : Option Value} {dp : Nat} {t : Nat} {S1 : cS} (htk : sI S 3105 = nI 14) (ht : t < 3000) (hY : Ans (d + 8) 80 [.ref 44] S none S1) (hB : Bod (d + 8) 64 9 [(3, .int (nI (t + 1))), (2, .int (nI 1)), (0, .ref 44), (1, .int (nI dp))] [] (S1) v Sf) : Bod (d + 8) 64 9 [(3, .int (nI t)), (2, .int (nI 1)), (0, .ref 44), (1, .int (nI dp))] [] S v Sf := by
  refine Bod.go dc_64_9 rfl ?_
  refine Bod.ifF dc_64_10 rfl (k1_eq_F (k_ne 1 0 rfl rfl (by omega) (by omega) (by omega))) ?_
  refine Bod.go dc_64_13 rfl ?_
  refine Bod.sip 3000 (by decide) dc_64_14 ?_
  refine Bod.icF dc_64_17 rfl (k2_ge_F t 3000 rfl rfl (by omega) (by omega)) ?_
  refine Bod.go dc_64_20 rfl ?_
  refine Bod.get dc_64_21 fr_64_9 (mk_44 _) rfl ?_
  refine Bod.get dc_64_24 fr_64_27 (mk_31 _) rfl ?_
  refine Bod.eqI (nI 14) (by first | assumption | rfl | exact congrArg nI (by omega) | (simp (disch := omega) only [rI, rIe, rA, rIA, rLA, rJA, rVI, rQI, rVA, rQA, upd_at,  rAI, rLI, rJI, nI_add, pk_sub, kc_0, kc_1, kc_2, kc_3, kc_4, kc_5, reduceIte, Nat.reduceEqDiff, Nat.add_zero, rI_hold, rI_hold, rL_hold, htk]; done)) ?_
  refine Bod.sw (t := 86) dc_64_27 rfl rfl (by decide +kernel) ?_
  refine Bod.go dc_64_86 rfl ?_
  refine Bod.virt (r := []) dc_64_87 kr_64_102 ⟨Or.inl rfl, ow_80, cl_1⟩ (by rw [np_80]; rfl) (by rw [np_80]; rfl) (ob_of (mk_44 _)) (Nat.le_of_ble_eq_true rfl) (hY  ) ?_
  show Bod _ _ _ _ [] _ _ _
  refine Bod.go dc_64_90 rfl ?_
  refine Bod.incN (t + 1) (by rw [kc_1, nI_add]) dc_64_95 (by rw [ml_64]; exact Nat.le_of_ble_eq_true rfl) rfl ?_
  refine Bod.go dc_64_98 rfl ?_
  exact Bod.lv (by rfl) hB
theorem eLst_no {d : Nat} {S : cS} {dp : Nat} {cl : Nat} {ms : Nat} {S1 : cS} (hG : Ans (d + 8) 74 [.ref 44, .int (nI dp)] S (some (.int (nI 0))) S1) : Bod (d + 8) 76 0 [(0, .ref 44), (1, .int (nI dp)), (2, .int (nI cl)), (3, .int (nI ms))] [] S (some (.int (nI 0))) (S1) := by
  refine Bod.go dc_76_0 rfl ?_
  refine Bod.go dc_76_1 rfl ?_
  refine Bod.virt (r := []) dc_76_2 kr_76_58 ⟨Or.inl rfl, ow_74, cl_1⟩ (by rw [np_74]; rfl) (by rw [np_74]; rfl) (ob_of (mk_44 _)) (Nat.le_of_ble_eq_true rfl) (hG  ) ?_
  show Bod _ _ _ _ [_] _ _ _
  refine Bod.ifF dc_76_5 rfl (k1_ne_F (k_eq 0 0 rfl rfl (by omega))) ?_
  refine Bod.ic 0 (by decide) dc_76_8 ?_
  exact Bod.retI dc_76_9 rt_76
theorem eLst_go {d : Nat} {S Sf : cS} {v : Option Value} {dp : Nat} {cl : Nat} {ms : Nat} {tk : Nat} {S1 : cS} (hcl : cl < 64) (hms : ms < 64) (hG : Ans (d + 8) 74 [.ref 44, .int (nI dp)] S (some (.int (nI 1))) S1) (htk : sI S1 3105 = nI tk) (htk2 : tk < 64) (hn : tk ≠ cl) (hB : Bod (d + 8) 76 31 [(5, .int (nI 1)), (4, .int (nI 0)), (0, .ref 44), (1, .int (nI dp)), (2, .int (nI cl)), (3, .int (nI ms))] [] (S1) v Sf) : Bod (d + 8) 76 0 [(0, .ref 44), (1, .int (nI dp)), (2, .int (nI cl)), (3, .int (nI ms))] [] S v Sf := by
  refine Bod.go dc_76_0 rfl ?_
  refine Bod.go dc_76_1 rfl ?_
  refine Bod.virt (r := []) dc_76_2 kr_76_58 ⟨Or.inl rfl, ow_74, cl_1⟩ (by rw [np_74]; rfl) (by rw [np_74]; rfl) (ob_of (mk_44 _)) (Nat.le_of_ble_eq_true rfl) (hG  ) ?_
  show Bod _ _ _ _ [_] _ _ _
  refine Bod.ifT dc_76_5 rfl (k1_ne_T (k_ne 1 0 rfl rfl (by omega) (by omega) (by omega))) ?_
  refine Bod.ic 0 (by decide) dc_76_10 ?_
  refine Bod.ist dc_76_11 (by rw [ml_76]; exact Nat.le_of_ble_eq_true rfl) ?_
  refine Bod.go dc_76_13 rfl ?_
  refine Bod.get dc_76_14 fr_76_9 (mk_44 _) rfl ?_
  refine Bod.get dc_76_17 fr_76_27 (mk_31 _) rfl ?_
  refine Bod.eqI (nI tk) (by assumption) ?_
  refine Bod.go dc_76_20 rfl ?_
  refine Bod.icF dc_76_21 rfl (k2_eq_F (k_ne tk cl rfl rfl (by omega) (by omega) (by omega))) ?_
  refine Bod.ic 1 (by decide) dc_76_24 ?_
  refine Bod.go dc_76_25 rfl ?_
  refine Bod.ist dc_76_29 (by rw [ml_76]; exact Nat.le_of_ble_eq_true rfl) ?_
  exact Bod.lv (by rfl) hB
theorem eLst_empty {d : Nat} {S Sf : cS} {v : Option Value} {dp : Nat} {cl : Nat} {ms : Nat} {tk : Nat} {S1 : cS} (hcl : cl < 64) (hms : ms < 64) (hG : Ans (d + 8) 74 [.ref 44, .int (nI dp)] S (some (.int (nI 1))) S1) (htk : sI S1 3105 = nI tk) (htk2 : tk < 64) (hn : tk = cl) (hB : Bod (d + 8) 76 31 [(5, .int (nI 0)), (4, .int (nI 0)), (0, .ref 44), (1, .int (nI dp)), (2, .int (nI cl)), (3, .int (nI ms))] [] (S1) v Sf) : Bod (d + 8) 76 0 [(0, .ref 44), (1, .int (nI dp)), (2, .int (nI cl)), (3, .int (nI ms))] [] S v Sf := by
  refine Bod.go dc_76_0 rfl ?_
  refine Bod.go dc_76_1 rfl ?_
  refine Bod.virt (r := []) dc_76_2 kr_76_58 ⟨Or.inl rfl, ow_74, cl_1⟩ (by rw [np_74]; rfl) (by rw [np_74]; rfl) (ob_of (mk_44 _)) (Nat.le_of_ble_eq_true rfl) (hG  ) ?_
  show Bod _ _ _ _ [_] _ _ _
  refine Bod.ifT dc_76_5 rfl (k1_ne_T (k_ne 1 0 rfl rfl (by omega) (by omega) (by omega))) ?_
  refine Bod.ic 0 (by decide) dc_76_10 ?_
  refine Bod.ist dc_76_11 (by rw [ml_76]; exact Nat.le_of_ble_eq_true rfl) ?_
  refine Bod.go dc_76_13 rfl ?_
  refine Bod.get dc_76_14 fr_76_9 (mk_44 _) rfl ?_
  refine Bod.get dc_76_17 fr_76_27 (mk_31 _) rfl ?_
  refine Bod.eqI (nI tk) (by assumption) ?_
  refine Bod.go dc_76_20 rfl ?_
  refine Bod.icT dc_76_21 rfl (k2_eq_T (k_eq tk cl rfl rfl (by omega))) ?_
  refine Bod.ic 0 (by decide) dc_76_28 ?_
  refine Bod.ist dc_76_29 (by rw [ml_76]; exact Nat.le_of_ble_eq_true rfl) ?_
  exact Bod.lv (by rfl) hB
theorem eLst_more {d : Nat} {S Sf : cS} {v : Option Value} {dp : Nat} {cl : Nat} {ms : Nat} {fd : Nat} {S1 : cS} {S2 : cS} (hcl : cl < 64) (hms : ms < 64) (hfd : fd ≤ ms) (hC : Ans (d + 8) 57 [.ref 44, .int (nI (dp + 1))] S none S1) (htk : sI S1 3105 = nI 12) (hP : Ans (d + 8) 75 [.ref 31, .int (nI 12)] S1 none S2) (hB : Bod (d + 8) 76 31 [(5, .int (nI 1)), (4, .int (nI (fd + 1))), (0, .ref 44), (1, .int (nI dp)), (2, .int (nI cl)), (3, .int (nI ms))] [] (S2) v Sf) : Bod (d + 8) 76 31 [(5, .int (nI 1)), (4, .int (nI fd)), (0, .ref 44), (1, .int (nI dp)), (2, .int (nI cl)), (3, .int (nI ms))] [] S v Sf := by
  refine Bod.go dc_76_31 rfl ?_
  refine Bod.ifF dc_76_33 rfl (k1_eq_F (k_ne 1 0 rfl rfl (by omega) (by omega) (by omega))) ?_
  refine Bod.go dc_76_36 rfl ?_
  refine Bod.go dc_76_38 rfl ?_
  refine Bod.icF dc_76_39 rfl (k2_gt_F fd ms rfl rfl (by omega) (by omega)) ?_
  refine Bod.go dc_76_42 rfl ?_
  refine Bod.go dc_76_43 rfl ?_
  refine Bod.ic 1 (by decide) dc_76_44 ?_
  refine Bod.addN (dp + 1) (by omega) dc_76_45 ?_
  refine Bod.virt (r := []) dc_76_46 kr_76_105 ⟨Or.inl rfl, ow_57, cl_1⟩ (by rw [np_57]; rfl) (by rw [np_57]; rfl) (ob_of (mk_44 _)) (Nat.le_of_ble_eq_true rfl) (hC  ) ?_
  show Bod _ _ _ _ [] _ _ _
  refine Bod.incN (fd + 1) (by rw [kc_1, nI_add]) dc_76_49 (by rw [ml_76]; exact Nat.le_of_ble_eq_true rfl) rfl ?_
  refine Bod.go dc_76_52 rfl ?_
  refine Bod.get dc_76_53 fr_76_9 (mk_44 _) rfl ?_
  refine Bod.get dc_76_56 fr_76_27 (mk_31 _) rfl ?_
  refine Bod.eqI (nI 12) (by assumption) ?_
  refine Bod.bip 12 (by decide) dc_76_59 ?_
  refine Bod.icF dc_76_61 rfl (k2_ne_F (k_eq 12 12 rfl rfl (by omega))) ?_
  refine Bod.ic 1 (by decide) dc_76_64 ?_
  refine Bod.go dc_76_65 rfl ?_
  refine Bod.ist dc_76_69 (by rw [ml_76]; exact Nat.le_of_ble_eq_true rfl) ?_
  refine Bod.go dc_76_71 rfl ?_
  refine Bod.ifF dc_76_73 rfl (k1_eq_F (k_ne 1 0 rfl rfl (by omega) (by omega) (by omega))) ?_
  refine Bod.go dc_76_76 rfl ?_
  refine Bod.get dc_76_77 fr_76_9 (mk_44 _) rfl ?_
  refine Bod.bip 12 (by decide) dc_76_80 ?_
  refine Bod.virt (r := []) dc_76_82 kr_76_33 ⟨Or.inr rfl, ow_75, cl_3⟩ (by rw [np_75]; rfl) (by rw [np_75]; rfl) (ob_of (mk_31 _)) (Nat.le_of_ble_eq_true rfl) (hP  ) ?_
  show Bod _ _ _ _ [] _ _ _
  refine Bod.go dc_76_85 rfl ?_
  exact Bod.lv (by rfl) hB
theorem eLst_last {d : Nat} {S Sf : cS} {v : Option Value} {dp : Nat} {cl : Nat} {ms : Nat} {fd : Nat} {tk : Nat} {S1 : cS} (hcl : cl < 64) (hms : ms < 64) (hfd : fd ≤ ms) (hC : Ans (d + 8) 57 [.ref 44, .int (nI (dp + 1))] S none S1) (htk : sI S1 3105 = nI tk) (htk2 : tk < 64) (hn : tk ≠ 12) (hB : Bod (d + 8) 76 31 [(5, .int (nI 0)), (4, .int (nI (fd + 1))), (0, .ref 44), (1, .int (nI dp)), (2, .int (nI cl)), (3, .int (nI ms))] [] (S1) v Sf) : Bod (d + 8) 76 31 [(5, .int (nI 1)), (4, .int (nI fd)), (0, .ref 44), (1, .int (nI dp)), (2, .int (nI cl)), (3, .int (nI ms))] [] S v Sf := by
  refine Bod.go dc_76_31 rfl ?_
  refine Bod.ifF dc_76_33 rfl (k1_eq_F (k_ne 1 0 rfl rfl (by omega) (by omega) (by omega))) ?_
  refine Bod.go dc_76_36 rfl ?_
  refine Bod.go dc_76_38 rfl ?_
  refine Bod.icF dc_76_39 rfl (k2_gt_F fd ms rfl rfl (by omega) (by omega)) ?_
  refine Bod.go dc_76_42 rfl ?_
  refine Bod.go dc_76_43 rfl ?_
  refine Bod.ic 1 (by decide) dc_76_44 ?_
  refine Bod.addN (dp + 1) (by omega) dc_76_45 ?_
  refine Bod.virt (r := []) dc_76_46 kr_76_105 ⟨Or.inl rfl, ow_57, cl_1⟩ (by rw [np_57]; rfl) (by rw [np_57]; rfl) (ob_of (mk_44 _)) (Nat.le_of_ble_eq_true rfl) (hC  ) ?_
  show Bod _ _ _ _ [] _ _ _
  refine Bod.incN (fd + 1) (by rw [kc_1, nI_add]) dc_76_49 (by rw [ml_76]; exact Nat.le_of_ble_eq_true rfl) rfl ?_
  refine Bod.go dc_76_52 rfl ?_
  refine Bod.get dc_76_53 fr_76_9 (mk_44 _) rfl ?_
  refine Bod.get dc_76_56 fr_76_27 (mk_31 _) rfl ?_
  refine Bod.eqI (nI tk) (by assumption) ?_
  refine Bod.bip 12 (by decide) dc_76_59 ?_
  refine Bod.icT dc_76_61 rfl (k2_ne_T (k_ne tk 12 rfl rfl (by omega) (by omega) (by omega))) ?_
  refine Bod.ic 0 (by decide) dc_76_68 ?_
  refine Bod.ist dc_76_69 (by rw [ml_76]; exact Nat.le_of_ble_eq_true rfl) ?_
  refine Bod.go dc_76_71 rfl ?_
  refine Bod.ifT dc_76_73 rfl (k1_eq_T (k_eq 0 0 rfl rfl (by omega))) ?_
  exact Bod.lv (by rfl) hB
theorem eLst_end {d : Nat} {S : cS} {dp : Nat} {cl : Nat} {ms : Nat} {fd : Nat} {S1 : cS} (hcl : cl < 64) (hms : ms < 64) (hfd : fd ≤ ms) (hP : Ans (d + 8) 75 [.ref 31, .int (nI cl)] S none S1) : Bod (d + 8) 76 31 [(5, .int (nI 0)), (4, .int (nI fd)), (0, .ref 44), (1, .int (nI dp)), (2, .int (nI cl)), (3, .int (nI ms))] [] S (some (.int (nI fd))) (S1) := by
  refine Bod.go dc_76_31 rfl ?_
  refine Bod.ifT dc_76_33 rfl (k1_eq_T (k_eq 0 0 rfl rfl (by omega))) ?_
  refine Bod.go dc_76_88 rfl ?_
  refine Bod.go dc_76_90 rfl ?_
  refine Bod.icT dc_76_91 rfl (k2_le_T fd ms rfl rfl (by omega) (by omega)) ?_
  refine Bod.go dc_76_101 rfl ?_
  refine Bod.get dc_76_102 fr_76_9 (mk_44 _) rfl ?_
  refine Bod.go dc_76_105 rfl ?_
  refine Bod.virt (r := []) dc_76_106 kr_76_33 ⟨Or.inr rfl, ow_75, cl_3⟩ (by rw [np_75]; rfl) (by rw [np_75]; rfl) (ob_of (mk_31 _)) (Nat.le_of_ble_eq_true rfl) (hP  ) ?_
  show Bod _ _ _ _ [] _ _ _
  refine Bod.go dc_76_109 rfl ?_
  exact Bod.retI dc_76_111 rt_76
theorem eLst_much0 {d : Nat} {S : cS} {dp : Nat} {cl : Nat} {ms : Nat} {fd : Nat} {S0 : cS} {S1 : cS} (hcl : cl < 64) (hms : ms < 64) (hfd : ms < fd) (hfd2 : fd < 100) (hF : Ans (d + 8) 44 [.ref 31] S none S0) (hP : Ans (d + 8) 75 [.ref 31, .int (nI cl)] S0 none S1) : Bod (d + 8) 76 31 [(5, .int (nI 0)), (4, .int (nI fd)), (0, .ref 44), (1, .int (nI dp)), (2, .int (nI cl)), (3, .int (nI ms))] [] S (some (.int (nI fd))) (S1) := by
  refine Bod.go dc_76_31 rfl ?_
  refine Bod.ifT dc_76_33 rfl (k1_eq_T (k_eq 0 0 rfl rfl (by omega))) ?_
  refine Bod.go dc_76_88 rfl ?_
  refine Bod.go dc_76_90 rfl ?_
  refine Bod.icF dc_76_91 rfl (k2_le_F fd ms rfl rfl (by omega) (by omega)) ?_
  refine Bod.go dc_76_94 rfl ?_
  refine Bod.get dc_76_95 fr_76_9 (mk_44 _) rfl ?_
  refine Bod.virt (r := []) dc_76_98 kr_76_65 ⟨Or.inr rfl, ow_44, cl_3⟩ (by rw [np_44]; rfl) (by rw [np_44]; rfl) (ob_of (mk_31 _)) (Nat.le_of_ble_eq_true rfl) (hF  ) ?_
  show Bod _ _ _ _ [] _ _ _
  refine Bod.go dc_76_101 rfl ?_
  refine Bod.get dc_76_102 fr_76_9 (mk_44 _) rfl ?_
  refine Bod.go dc_76_105 rfl ?_
  refine Bod.virt (r := []) dc_76_106 kr_76_33 ⟨Or.inr rfl, ow_75, cl_3⟩ (by rw [np_75]; rfl) (by rw [np_75]; rfl) (ob_of (mk_31 _)) (Nat.le_of_ble_eq_true rfl) (hP  ) ?_
  show Bod _ _ _ _ [] _ _ _
  refine Bod.go dc_76_109 rfl ?_
  exact Bod.retI dc_76_111 rt_76
theorem eLst_much1 {d : Nat} {S : cS} {dp : Nat} {cl : Nat} {ms : Nat} {fd : Nat} {S0 : cS} {S1 : cS} (hcl : cl < 64) (hms : ms < 64) (hfd : ms < fd) (hfd2 : fd < 100) (hF : Ans (d + 8) 44 [.ref 31] S none S0) (hP : Ans (d + 8) 75 [.ref 31, .int (nI cl)] S0 none S1) : Bod (d + 8) 76 31 [(5, .int (nI 1)), (4, .int (nI fd)), (0, .ref 44), (1, .int (nI dp)), (2, .int (nI cl)), (3, .int (nI ms))] [] S (some (.int (nI fd))) (S1) := by
  refine Bod.go dc_76_31 rfl ?_
  refine Bod.ifF dc_76_33 rfl (k1_eq_F (k_ne 1 0 rfl rfl (by omega) (by omega) (by omega))) ?_
  refine Bod.go dc_76_36 rfl ?_
  refine Bod.go dc_76_38 rfl ?_
  refine Bod.icT dc_76_39 rfl (k2_gt_T fd ms rfl rfl (by omega) (by omega)) ?_
  refine Bod.go dc_76_88 rfl ?_
  refine Bod.go dc_76_90 rfl ?_
  refine Bod.icF dc_76_91 rfl (k2_le_F fd ms rfl rfl (by omega) (by omega)) ?_
  refine Bod.go dc_76_94 rfl ?_
  refine Bod.get dc_76_95 fr_76_9 (mk_44 _) rfl ?_
  refine Bod.virt (r := []) dc_76_98 kr_76_65 ⟨Or.inr rfl, ow_44, cl_3⟩ (by rw [np_44]; rfl) (by rw [np_44]; rfl) (ob_of (mk_31 _)) (Nat.le_of_ble_eq_true rfl) (hF  ) ?_
  show Bod _ _ _ _ [] _ _ _
  refine Bod.go dc_76_101 rfl ?_
  refine Bod.get dc_76_102 fr_76_9 (mk_44 _) rfl ?_
  refine Bod.go dc_76_105 rfl ?_
  refine Bod.virt (r := []) dc_76_106 kr_76_33 ⟨Or.inr rfl, ow_75, cl_3⟩ (by rw [np_75]; rfl) (by rw [np_75]; rfl) (ob_of (mk_31 _)) (Nat.le_of_ble_eq_true rfl) (hP  ) ?_
  show Bod _ _ _ _ [] _ _ _
  refine Bod.go dc_76_109 rfl ?_
  exact Bod.retI dc_76_111 rt_76
theorem ePrs_no {d : Nat} {S : cS} {dp : Nat} {S1 : cS} (hG : Ans (d + 8) 74 [.ref 44, .int (nI dp)] S (some (.int (nI 0))) S1) : Bod (d + 8) 78 0 [(0, .ref 44), (1, .int (nI dp))] [] S (some (.int (nI 0))) (S1) := by
  refine Bod.go dc_78_0 rfl ?_
  refine Bod.go dc_78_1 rfl ?_
  refine Bod.virt (r := []) dc_78_2 kr_78_58 ⟨Or.inl rfl, ow_74, cl_1⟩ (by rw [np_74]; rfl) (by rw [np_74]; rfl) (ob_of (mk_44 _)) (Nat.le_of_ble_eq_true rfl) (hG  ) ?_
  show Bod _ _ _ _ [_] _ _ _
  refine Bod.ifF dc_78_5 rfl (k1_ne_F (k_eq 0 0 rfl rfl (by omega))) ?_
  refine Bod.ic 0 (by decide) dc_78_8 ?_
  exact Bod.retI dc_78_9 rt_78
theorem ePrs_go {d : Nat} {S Sf : cS} {v : Option Value} {dp : Nat} {tk : Nat} {S1 : cS} (hG : Ans (d + 8) 74 [.ref 44, .int (nI dp)] S (some (.int (nI 1))) S1) (htk : sI S1 3105 = nI tk) (htk2 : tk < 64) (hn : tk ≠ 11) (hB : Bod (d + 8) 78 30 [(3, .int (nI 1)), (2, .int (nI 0)), (0, .ref 44), (1, .int (nI dp))] [] (S1) v Sf) : Bod (d + 8) 78 0 [(0, .ref 44), (1, .int (nI dp))] [] S v Sf := by
  refine Bod.go dc_78_0 rfl ?_
  refine Bod.go dc_78_1 rfl ?_
  refine Bod.virt (r := []) dc_78_2 kr_78_58 ⟨Or.inl rfl, ow_74, cl_1⟩ (by rw [np_74]; rfl) (by rw [np_74]; rfl) (ob_of (mk_44 _)) (Nat.le_of_ble_eq_true rfl) (hG  ) ?_
  show Bod _ _ _ _ [_] _ _ _
  refine Bod.ifT dc_78_5 rfl (k1_ne_T (k_ne 1 0 rfl rfl (by omega) (by omega) (by omega))) ?_
  refine Bod.ic 0 (by decide) dc_78_10 ?_
  refine Bod.istn dc_78_11 (by rw [ml_78]; exact Nat.le_of_ble_eq_true rfl) ?_
  refine Bod.go dc_78_12 rfl ?_
  refine Bod.get dc_78_13 fr_78_9 (mk_44 _) rfl ?_
  refine Bod.get dc_78_16 fr_78_27 (mk_31 _) rfl ?_
  refine Bod.eqI (nI tk) (by assumption) ?_
  refine Bod.bip 11 (by decide) dc_78_19 ?_
  refine Bod.icF dc_78_21 rfl (k2_eq_F (k_ne tk 11 rfl rfl (by omega) (by omega) (by omega))) ?_
  refine Bod.ic 1 (by decide) dc_78_24 ?_
  refine Bod.go dc_78_25 rfl ?_
  refine Bod.istn dc_78_29 (by rw [ml_78]; exact Nat.le_of_ble_eq_true rfl) ?_
  exact Bod.lv (by rfl) hB
theorem ePrs_empty {d : Nat} {S Sf : cS} {v : Option Value} {dp : Nat} {tk : Nat} {S1 : cS} (hG : Ans (d + 8) 74 [.ref 44, .int (nI dp)] S (some (.int (nI 1))) S1) (htk : sI S1 3105 = nI tk) (htk2 : tk < 64) (hn : tk = 11) (hB : Bod (d + 8) 78 30 [(3, .int (nI 0)), (2, .int (nI 0)), (0, .ref 44), (1, .int (nI dp))] [] (S1) v Sf) : Bod (d + 8) 78 0 [(0, .ref 44), (1, .int (nI dp))] [] S v Sf := by
  refine Bod.go dc_78_0 rfl ?_
  refine Bod.go dc_78_1 rfl ?_
  refine Bod.virt (r := []) dc_78_2 kr_78_58 ⟨Or.inl rfl, ow_74, cl_1⟩ (by rw [np_74]; rfl) (by rw [np_74]; rfl) (ob_of (mk_44 _)) (Nat.le_of_ble_eq_true rfl) (hG  ) ?_
  show Bod _ _ _ _ [_] _ _ _
  refine Bod.ifT dc_78_5 rfl (k1_ne_T (k_ne 1 0 rfl rfl (by omega) (by omega) (by omega))) ?_
  refine Bod.ic 0 (by decide) dc_78_10 ?_
  refine Bod.istn dc_78_11 (by rw [ml_78]; exact Nat.le_of_ble_eq_true rfl) ?_
  refine Bod.go dc_78_12 rfl ?_
  refine Bod.get dc_78_13 fr_78_9 (mk_44 _) rfl ?_
  refine Bod.get dc_78_16 fr_78_27 (mk_31 _) rfl ?_
  refine Bod.eqI (nI tk) (by assumption) ?_
  refine Bod.bip 11 (by decide) dc_78_19 ?_
  refine Bod.icT dc_78_21 rfl (k2_eq_T (k_eq tk 11 rfl rfl (by omega))) ?_
  refine Bod.ic 0 (by decide) dc_78_28 ?_
  refine Bod.istn dc_78_29 (by rw [ml_78]; exact Nat.le_of_ble_eq_true rfl) ?_
  exact Bod.lv (by rfl) hB
theorem ePrs_more {d : Nat} {S Sf : cS} {v : Option Value} {dp : Nat} {fd : Nat} {tk : Nat} {S1 : cS} {S2 : cS} {S3 : cS} {S4 : cS} (hfd : fd ≤ 20) (hC : Ans (d + 8) 57 [.ref 44, .int (nI (dp + 1))] S none S1) (hP : Ans (d + 8) 75 [.ref 31, .int (nI 13)] S1 none S2) (hC2 : Ans (d + 8) 57 [.ref 44, .int (nI (dp + 1))] S2 none S3) (htk : sI S3 3105 = nI tk) (hn : tk = 12) (hP2 : Ans (d + 8) 75 [.ref 31, .int (nI 12)] S3 none S4) (hB : Bod (d + 8) 78 30 [(3, .int (nI 1)), (2, .int (nI (fd + 1))), (0, .ref 44), (1, .int (nI dp))] [] (S4) v Sf) : Bod (d + 8) 78 30 [(3, .int (nI 1)), (2, .int (nI fd)), (0, .ref 44), (1, .int (nI dp))] [] S v Sf := by
  refine Bod.go dc_78_30 rfl ?_
  refine Bod.ifF dc_78_31 rfl (k1_eq_F (k_ne 1 0 rfl rfl (by omega) (by omega) (by omega))) ?_
  refine Bod.go dc_78_34 rfl ?_
  refine Bod.bip 20 (by decide) dc_78_35 ?_
  refine Bod.icF dc_78_37 rfl (k2_gt_F fd 20 rfl rfl (by omega) (by omega)) ?_
  refine Bod.go dc_78_40 rfl ?_
  refine Bod.go dc_78_41 rfl ?_
  refine Bod.ic 1 (by decide) dc_78_42 ?_
  refine Bod.addN (dp + 1) (by omega) dc_78_43 ?_
  refine Bod.virt (r := []) dc_78_44 kr_78_105 ⟨Or.inl rfl, ow_57, cl_1⟩ (by rw [np_57]; rfl) (by rw [np_57]; rfl) (ob_of (mk_44 _)) (Nat.le_of_ble_eq_true rfl) (hC  ) ?_
  show Bod _ _ _ _ [] _ _ _
  refine Bod.go dc_78_47 rfl ?_
  refine Bod.get dc_78_48 fr_78_9 (mk_44 _) rfl ?_
  refine Bod.bip 13 (by decide) dc_78_51 ?_
  refine Bod.virt (r := []) dc_78_53 kr_78_33 ⟨Or.inr rfl, ow_75, cl_3⟩ (by rw [np_75]; rfl) (by rw [np_75]; rfl) (ob_of (mk_31 _)) (Nat.le_of_ble_eq_true rfl) (hP  ) ?_
  show Bod _ _ _ _ [] _ _ _
  refine Bod.go dc_78_56 rfl ?_
  refine Bod.go dc_78_57 rfl ?_
  refine Bod.ic 1 (by decide) dc_78_58 ?_
  refine Bod.addN (dp + 1) (by omega) dc_78_59 ?_
  refine Bod.virt (r := []) dc_78_60 kr_78_105 ⟨Or.inl rfl, ow_57, cl_1⟩ (by rw [np_57]; rfl) (by rw [np_57]; rfl) (ob_of (mk_44 _)) (Nat.le_of_ble_eq_true rfl) (hC2  ) ?_
  show Bod _ _ _ _ [] _ _ _
  refine Bod.incN (fd + 1) (by rw [kc_1, nI_add]) dc_78_63 (by rw [ml_78]; exact Nat.le_of_ble_eq_true rfl) rfl ?_
  refine Bod.go dc_78_66 rfl ?_
  refine Bod.get dc_78_67 fr_78_9 (mk_44 _) rfl ?_
  refine Bod.get dc_78_70 fr_78_27 (mk_31 _) rfl ?_
  refine Bod.eqI (nI tk) (by assumption) ?_
  refine Bod.bip 12 (by decide) dc_78_73 ?_
  refine Bod.icF dc_78_75 rfl (k2_ne_F (k_eq tk 12 rfl rfl (by omega))) ?_
  refine Bod.ic 1 (by decide) dc_78_78 ?_
  refine Bod.go dc_78_79 rfl ?_
  refine Bod.istn dc_78_83 (by rw [ml_78]; exact Nat.le_of_ble_eq_true rfl) ?_
  refine Bod.go dc_78_84 rfl ?_
  refine Bod.ifF dc_78_85 rfl (k1_eq_F (k_ne 1 0 rfl rfl (by omega) (by omega) (by omega))) ?_
  refine Bod.go dc_78_88 rfl ?_
  refine Bod.get dc_78_89 fr_78_9 (mk_44 _) rfl ?_
  refine Bod.bip 12 (by decide) dc_78_92 ?_
  refine Bod.virt (r := []) dc_78_94 kr_78_33 ⟨Or.inr rfl, ow_75, cl_3⟩ (by rw [np_75]; rfl) (by rw [np_75]; rfl) (ob_of (mk_31 _)) (Nat.le_of_ble_eq_true rfl) (hP2  ) ?_
  show Bod _ _ _ _ [] _ _ _
  refine Bod.go dc_78_97 rfl ?_
  exact Bod.lv (by rfl) hB
theorem ePrs_last {d : Nat} {S Sf : cS} {v : Option Value} {dp : Nat} {fd : Nat} {tk : Nat} {S1 : cS} {S2 : cS} {S3 : cS} (hfd : fd ≤ 20) (hC : Ans (d + 8) 57 [.ref 44, .int (nI (dp + 1))] S none S1) (hP : Ans (d + 8) 75 [.ref 31, .int (nI 13)] S1 none S2) (hC2 : Ans (d + 8) 57 [.ref 44, .int (nI (dp + 1))] S2 none S3) (htk : sI S3 3105 = nI tk) (htk2 : tk < 64) (hn : tk ≠ 12) (hB : Bod (d + 8) 78 30 [(3, .int (nI 0)), (2, .int (nI (fd + 1))), (0, .ref 44), (1, .int (nI dp))] [] (S3) v Sf) : Bod (d + 8) 78 30 [(3, .int (nI 1)), (2, .int (nI fd)), (0, .ref 44), (1, .int (nI dp))] [] S v Sf := by
  refine Bod.go dc_78_30 rfl ?_
  refine Bod.ifF dc_78_31 rfl (k1_eq_F (k_ne 1 0 rfl rfl (by omega) (by omega) (by omega))) ?_
  refine Bod.go dc_78_34 rfl ?_
  refine Bod.bip 20 (by decide) dc_78_35 ?_
  refine Bod.icF dc_78_37 rfl (k2_gt_F fd 20 rfl rfl (by omega) (by omega)) ?_
  refine Bod.go dc_78_40 rfl ?_
  refine Bod.go dc_78_41 rfl ?_
  refine Bod.ic 1 (by decide) dc_78_42 ?_
  refine Bod.addN (dp + 1) (by omega) dc_78_43 ?_
  refine Bod.virt (r := []) dc_78_44 kr_78_105 ⟨Or.inl rfl, ow_57, cl_1⟩ (by rw [np_57]; rfl) (by rw [np_57]; rfl) (ob_of (mk_44 _)) (Nat.le_of_ble_eq_true rfl) (hC  ) ?_
  show Bod _ _ _ _ [] _ _ _
  refine Bod.go dc_78_47 rfl ?_
  refine Bod.get dc_78_48 fr_78_9 (mk_44 _) rfl ?_
  refine Bod.bip 13 (by decide) dc_78_51 ?_
  refine Bod.virt (r := []) dc_78_53 kr_78_33 ⟨Or.inr rfl, ow_75, cl_3⟩ (by rw [np_75]; rfl) (by rw [np_75]; rfl) (ob_of (mk_31 _)) (Nat.le_of_ble_eq_true rfl) (hP  ) ?_
  show Bod _ _ _ _ [] _ _ _
  refine Bod.go dc_78_56 rfl ?_
  refine Bod.go dc_78_57 rfl ?_
  refine Bod.ic 1 (by decide) dc_78_58 ?_
  refine Bod.addN (dp + 1) (by omega) dc_78_59 ?_
  refine Bod.virt (r := []) dc_78_60 kr_78_105 ⟨Or.inl rfl, ow_57, cl_1⟩ (by rw [np_57]; rfl) (by rw [np_57]; rfl) (ob_of (mk_44 _)) (Nat.le_of_ble_eq_true rfl) (hC2  ) ?_
  show Bod _ _ _ _ [] _ _ _
  refine Bod.incN (fd + 1) (by rw [kc_1, nI_add]) dc_78_63 (by rw [ml_78]; exact Nat.le_of_ble_eq_true rfl) rfl ?_
  refine Bod.go dc_78_66 rfl ?_
  refine Bod.get dc_78_67 fr_78_9 (mk_44 _) rfl ?_
  refine Bod.get dc_78_70 fr_78_27 (mk_31 _) rfl ?_
  refine Bod.eqI (nI tk) (by assumption) ?_
  refine Bod.bip 12 (by decide) dc_78_73 ?_
  refine Bod.icT dc_78_75 rfl (k2_ne_T (k_ne tk 12 rfl rfl (by omega) (by omega) (by omega))) ?_
  refine Bod.ic 0 (by decide) dc_78_82 ?_
  refine Bod.istn dc_78_83 (by rw [ml_78]; exact Nat.le_of_ble_eq_true rfl) ?_
  refine Bod.go dc_78_84 rfl ?_
  refine Bod.ifT dc_78_85 rfl (k1_eq_T (k_eq 0 0 rfl rfl (by omega))) ?_
  exact Bod.lv (by rfl) hB
theorem ePrs_end {d : Nat} {S : cS} {dp : Nat} {fd : Nat} {S1 : cS} (hfd : fd ≤ 20) (hP : Ans (d + 8) 75 [.ref 31, .int (nI 11)] S none S1) : Bod (d + 8) 78 30 [(3, .int (nI 0)), (2, .int (nI fd)), (0, .ref 44), (1, .int (nI dp))] [] S (some (.int (nI fd))) (S1) := by
  refine Bod.go dc_78_30 rfl ?_
  refine Bod.ifT dc_78_31 rfl (k1_eq_T (k_eq 0 0 rfl rfl (by omega))) ?_
  refine Bod.go dc_78_100 rfl ?_
  refine Bod.bip 20 (by decide) dc_78_101 ?_
  refine Bod.icT dc_78_103 rfl (k2_le_T fd 20 rfl rfl (by omega) (by omega)) ?_
  refine Bod.go dc_78_113 rfl ?_
  refine Bod.get dc_78_114 fr_78_9 (mk_44 _) rfl ?_
  refine Bod.bip 11 (by decide) dc_78_117 ?_
  refine Bod.virt (r := []) dc_78_119 kr_78_33 ⟨Or.inr rfl, ow_75, cl_3⟩ (by rw [np_75]; rfl) (by rw [np_75]; rfl) (ob_of (mk_31 _)) (Nat.le_of_ble_eq_true rfl) (hP  ) ?_
  show Bod _ _ _ _ [] _ _ _
  refine Bod.go dc_78_122 rfl ?_
  exact Bod.retI dc_78_123 rt_78
theorem ePrs_much0 {d : Nat} {S : cS} {dp : Nat} {fd : Nat} {S0 : cS} {S1 : cS} (hfd : 20 < fd) (hfd2 : fd < 100) (hF : Ans (d + 8) 44 [.ref 31] S none S0) (hP : Ans (d + 8) 75 [.ref 31, .int (nI 11)] S0 none S1) : Bod (d + 8) 78 30 [(3, .int (nI 0)), (2, .int (nI fd)), (0, .ref 44), (1, .int (nI dp))] [] S (some (.int (nI fd))) (S1) := by
  refine Bod.go dc_78_30 rfl ?_
  refine Bod.ifT dc_78_31 rfl (k1_eq_T (k_eq 0 0 rfl rfl (by omega))) ?_
  refine Bod.go dc_78_100 rfl ?_
  refine Bod.bip 20 (by decide) dc_78_101 ?_
  refine Bod.icF dc_78_103 rfl (k2_le_F fd 20 rfl rfl (by omega) (by omega)) ?_
  refine Bod.go dc_78_106 rfl ?_
  refine Bod.get dc_78_107 fr_78_9 (mk_44 _) rfl ?_
  refine Bod.virt (r := []) dc_78_110 kr_78_65 ⟨Or.inr rfl, ow_44, cl_3⟩ (by rw [np_44]; rfl) (by rw [np_44]; rfl) (ob_of (mk_31 _)) (Nat.le_of_ble_eq_true rfl) (hF  ) ?_
  show Bod _ _ _ _ [] _ _ _
  refine Bod.go dc_78_113 rfl ?_
  refine Bod.get dc_78_114 fr_78_9 (mk_44 _) rfl ?_
  refine Bod.bip 11 (by decide) dc_78_117 ?_
  refine Bod.virt (r := []) dc_78_119 kr_78_33 ⟨Or.inr rfl, ow_75, cl_3⟩ (by rw [np_75]; rfl) (by rw [np_75]; rfl) (ob_of (mk_31 _)) (Nat.le_of_ble_eq_true rfl) (hP  ) ?_
  show Bod _ _ _ _ [] _ _ _
  refine Bod.go dc_78_122 rfl ?_
  exact Bod.retI dc_78_123 rt_78
theorem ePrs_much1 {d : Nat} {S : cS} {dp : Nat} {fd : Nat} {S0 : cS} {S1 : cS} (hfd : 20 < fd) (hfd2 : fd < 100) (hF : Ans (d + 8) 44 [.ref 31] S none S0) (hP : Ans (d + 8) 75 [.ref 31, .int (nI 11)] S0 none S1) : Bod (d + 8) 78 30 [(3, .int (nI 1)), (2, .int (nI fd)), (0, .ref 44), (1, .int (nI dp))] [] S (some (.int (nI fd))) (S1) := by
  refine Bod.go dc_78_30 rfl ?_
  refine Bod.ifF dc_78_31 rfl (k1_eq_F (k_ne 1 0 rfl rfl (by omega) (by omega) (by omega))) ?_
  refine Bod.go dc_78_34 rfl ?_
  refine Bod.bip 20 (by decide) dc_78_35 ?_
  refine Bod.icT dc_78_37 rfl (k2_gt_T fd 20 rfl rfl (by omega) (by omega)) ?_
  refine Bod.go dc_78_100 rfl ?_
  refine Bod.bip 20 (by decide) dc_78_101 ?_
  refine Bod.icF dc_78_103 rfl (k2_le_F fd 20 rfl rfl (by omega) (by omega)) ?_
  refine Bod.go dc_78_106 rfl ?_
  refine Bod.get dc_78_107 fr_78_9 (mk_44 _) rfl ?_
  refine Bod.virt (r := []) dc_78_110 kr_78_65 ⟨Or.inr rfl, ow_44, cl_3⟩ (by rw [np_44]; rfl) (by rw [np_44]; rfl) (ob_of (mk_31 _)) (Nat.le_of_ble_eq_true rfl) (hF  ) ?_
  show Bod _ _ _ _ [] _ _ _
  refine Bod.go dc_78_113 rfl ?_
  refine Bod.get dc_78_114 fr_78_9 (mk_44 _) rfl ?_
  refine Bod.bip 11 (by decide) dc_78_117 ?_
  refine Bod.virt (r := []) dc_78_119 kr_78_33 ⟨Or.inr rfl, ow_75, cl_3⟩ (by rw [np_75]; rfl) (by rw [np_75]; rfl) (ob_of (mk_31 _)) (Nat.le_of_ble_eq_true rfl) (hP  ) ?_
  show Bod _ _ _ _ [] _ _ _
  refine Bod.go dc_78_122 rfl ?_
  exact Bod.retI dc_78_123 rt_78
theorem atom_sw : ∀ b, b < 64 → (b = 3 ∨ b = 4 ∨ b = 5 ∨ b = 6 ∨ b = 8 ∨ b = 10 ∨ b = 61 ∨ b = 62 ∨ b = 63 ∨ sm_br (.lookupswitch (226) #[(3, 84), (4, 91), (5, 108), (6, 162), (8, 194), (10, 212), (61, 129), (62, 140), (63, 151)]) 84 12 [.int (nI b)] = some (238, [])) := by decide +kernel
theorem eAtm_name {d : Nat} {S : cS} {dp : Nat} {S1 : cS} (htk : sI S 3105 = nI 3) (hN : Ans (d + 8) 66 [.ref 44] (wI 4403 (nI 0) S) none S1) : Bod (d + 8) 65 0 [(0, .ref 44), (1, .int (nI dp))] [] S none (S1) := by
  refine Bod.go dc_65_0 rfl ?_
  refine Bod.ic 0 (by decide) dc_65_1 ?_
  refine Bod.put dc_65_2 fr_65_49 (mk_44 _) (Nat.le_of_ble_eq_true rfl) pf_1_3 (st_4403 _ _) (mu_I _ _ _) ?_
  refine Bod.go dc_65_5 rfl ?_
  refine Bod.get dc_65_6 fr_65_9 (mk_44 _) rfl ?_
  refine Bod.get dc_65_9 fr_65_27 (mk_31 _) rfl ?_
  refine Bod.eqI (nI 3) (by first | (simp (disch := omega) only [rI, rIe, rA, rIA, rLA, rJA, rVI, rQI, rVA, rQA, upd_at,  rAI, rLI, rJI, nI_add, pk_sub, kc_0, kc_1, kc_2, kc_3, kc_4, kc_5, reduceIte, Nat.reduceEqDiff, Nat.add_zero, rI_hold, rI_hold, rL_hold, htk]; done) | (simp (disch := omega) only [rI, rIe, rA, rIA, rLA, rJA, rVI, rQI, rVA, rQA, upd_at,  rAI, rLI, rJI, nI_add, pk_sub, kc_0, kc_1, kc_2, kc_3, kc_4, kc_5, reduceIte, Nat.reduceEqDiff, Nat.add_zero, rI_hold, rI_hold, rL_hold, htk]; exact congrArg nI (by omega))) ?_
  refine Bod.sw (t := 96) dc_65_12 rfl rfl (by decide +kernel) ?_
  refine Bod.go dc_65_96 rfl ?_
  refine Bod.virt (r := []) dc_65_97 kr_65_114 ⟨Or.inl rfl, ow_66, cl_1⟩ (by rw [np_66]; rfl) (by rw [np_66]; rfl) (ob_of (mk_44 _)) (Nat.le_of_ble_eq_true rfl) (hN  ) ?_
  show Bod _ _ _ _ [] _ _ _
  refine Bod.go dc_65_100 rfl ?_
  exact Bod.retV dc_65_245 rt_65
theorem eAtm_4 {d : Nat} {S : cS} {dp : Nat} {S1 : cS} (htk : sI S 3105 = nI 4) (hC : Ans (d + 8) 72 [.ref 44, .long 2305843009213693952, .long (sJ S 3110)] (wI 4403 (nI 0) S) none S1) : Bod (d + 8) 65 0 [(0, .ref 44), (1, .int (nI dp))] [] S none (S1) := by
  refine Bod.go dc_65_0 rfl ?_
  refine Bod.ic 0 (by decide) dc_65_1 ?_
  refine Bod.put dc_65_2 fr_65_49 (mk_44 _) (Nat.le_of_ble_eq_true rfl) pf_1_3 (st_4403 _ _) (mu_I _ _ _) ?_
  refine Bod.go dc_65_5 rfl ?_
  refine Bod.get dc_65_6 fr_65_9 (mk_44 _) rfl ?_
  refine Bod.get dc_65_9 fr_65_27 (mk_31 _) rfl ?_
  refine Bod.eqI (nI 4) (by first | (simp (disch := omega) only [rI, rIe, rA, rIA, rLA, rJA, rVI, rQI, rVA, rQA, upd_at,  rAI, rLI, rJI, nI_add, pk_sub, kc_0, kc_1, kc_2, kc_3, kc_4, kc_5, reduceIte, Nat.reduceEqDiff, Nat.add_zero, rI_hold, rI_hold, rL_hold, htk]; done) | (simp (disch := omega) only [rI, rIe, rA, rIA, rLA, rJA, rVI, rQI, rVA, rQA, upd_at,  rAI, rLI, rJI, nI_add, pk_sub, kc_0, kc_1, kc_2, kc_3, kc_4, kc_5, reduceIte, Nat.reduceEqDiff, Nat.add_zero, rI_hold, rI_hold, rL_hold, htk]; exact congrArg nI (by omega))) ?_
  refine Bod.sw (t := 103) dc_65_12 rfl rfl (by decide +kernel) ?_
  refine Bod.go dc_65_103 rfl ?_
  refine Bod.ldc2 dc_65_104 cj_65_116 ?_
  refine Bod.go dc_65_107 rfl ?_
  refine Bod.get dc_65_108 fr_65_9 (mk_44 _) rfl ?_
  refine Bod.get dc_65_111 fr_65_118 (mk_31 _) rfl ?_
  refine Bod.virt (r := []) dc_65_114 kr_65_122 ⟨Or.inl rfl, ow_72, cl_1⟩ (by rw [np_72]; rfl) (by rw [np_72]; rfl) (ob_of (mk_44 _)) (Nat.le_of_ble_eq_true rfl) (hC  ) ?_
  show Bod _ _ _ _ [] _ _ _
  refine Bod.go dc_65_117 rfl ?_
  exact Bod.retV dc_65_245 rt_65
theorem eAtm_5 {d : Nat} {S : cS} {dp : Nat} {S1 : cS} (htk : sI S 3105 = nI 5) (hC : Ans (d + 8) 72 [.ref 44, .long (sJ S 3111), .long (sJ S 3112)] (wI 4403 (nI 0) S) none S1) : Bod (d + 8) 65 0 [(0, .ref 44), (1, .int (nI dp))] [] S none (S1) := by
  refine Bod.go dc_65_0 rfl ?_
  refine Bod.ic 0 (by decide) dc_65_1 ?_
  refine Bod.put dc_65_2 fr_65_49 (mk_44 _) (Nat.le_of_ble_eq_true rfl) pf_1_3 (st_4403 _ _) (mu_I _ _ _) ?_
  refine Bod.go dc_65_5 rfl ?_
  refine Bod.get dc_65_6 fr_65_9 (mk_44 _) rfl ?_
  refine Bod.get dc_65_9 fr_65_27 (mk_31 _) rfl ?_
  refine Bod.eqI (nI 5) (by first | (simp (disch := omega) only [rI, rIe, rA, rIA, rLA, rJA, rVI, rQI, rVA, rQA, upd_at,  rAI, rLI, rJI, nI_add, pk_sub, kc_0, kc_1, kc_2, kc_3, kc_4, kc_5, reduceIte, Nat.reduceEqDiff, Nat.add_zero, rI_hold, rI_hold, rL_hold, htk]; done) | (simp (disch := omega) only [rI, rIe, rA, rIA, rLA, rJA, rVI, rQI, rVA, rQA, upd_at,  rAI, rLI, rJI, nI_add, pk_sub, kc_0, kc_1, kc_2, kc_3, kc_4, kc_5, reduceIte, Nat.reduceEqDiff, Nat.add_zero, rI_hold, rI_hold, rL_hold, htk]; exact congrArg nI (by omega))) ?_
  refine Bod.sw (t := 120) dc_65_12 rfl rfl (by decide +kernel) ?_
  refine Bod.go dc_65_120 rfl ?_
  refine Bod.go dc_65_121 rfl ?_
  refine Bod.get dc_65_122 fr_65_9 (mk_44 _) rfl ?_
  refine Bod.get dc_65_125 fr_65_126 (mk_31 _) rfl ?_
  refine Bod.go dc_65_128 rfl ?_
  refine Bod.get dc_65_129 fr_65_9 (mk_44 _) rfl ?_
  refine Bod.get dc_65_132 fr_65_129 (mk_31 _) rfl ?_
  refine Bod.virt (r := []) dc_65_135 kr_65_122 ⟨Or.inl rfl, ow_72, cl_1⟩ (by rw [np_72]; rfl) (by rw [np_72]; rfl) (ob_of (mk_44 _)) (Nat.le_of_ble_eq_true rfl) (hC  ) ?_
  show Bod _ _ _ _ [] _ _ _
  refine Bod.go dc_65_138 rfl ?_
  exact Bod.retV dc_65_245 rt_65
theorem eAtm_61 {d : Nat} {S : cS} {dp : Nat} {S1 : cS} (htk : sI S 3105 = nI 61) (hC : Ans (d + 8) 72 [.ref 44, .long 1152921504606846976, .long 0] (wI 4403 (nI 0) S) none S1) : Bod (d + 8) 65 0 [(0, .ref 44), (1, .int (nI dp))] [] S none (S1) := by
  refine Bod.go dc_65_0 rfl ?_
  refine Bod.ic 0 (by decide) dc_65_1 ?_
  refine Bod.put dc_65_2 fr_65_49 (mk_44 _) (Nat.le_of_ble_eq_true rfl) pf_1_3 (st_4403 _ _) (mu_I _ _ _) ?_
  refine Bod.go dc_65_5 rfl ?_
  refine Bod.get dc_65_6 fr_65_9 (mk_44 _) rfl ?_
  refine Bod.get dc_65_9 fr_65_27 (mk_31 _) rfl ?_
  refine Bod.eqI (nI 61) (by first | (simp (disch := omega) only [rI, rIe, rA, rIA, rLA, rJA, rVI, rQI, rVA, rQA, upd_at,  rAI, rLI, rJI, nI_add, pk_sub, kc_0, kc_1, kc_2, kc_3, kc_4, kc_5, reduceIte, Nat.reduceEqDiff, Nat.add_zero, rI_hold, rI_hold, rL_hold, htk]; done) | (simp (disch := omega) only [rI, rIe, rA, rIA, rLA, rJA, rVI, rQI, rVA, rQA, upd_at,  rAI, rLI, rJI, nI_add, pk_sub, kc_0, kc_1, kc_2, kc_3, kc_4, kc_5, reduceIte, Nat.reduceEqDiff, Nat.add_zero, rI_hold, rI_hold, rL_hold, htk]; exact congrArg nI (by omega))) ?_
  refine Bod.sw (t := 141) dc_65_12 rfl rfl (by decide +kernel) ?_
  refine Bod.go dc_65_141 rfl ?_
  refine Bod.ldc2 dc_65_142 cj_65_132 ?_
  refine Bod.go dc_65_145 rfl ?_
  refine Bod.virt (r := []) dc_65_146 kr_65_122 ⟨Or.inl rfl, ow_72, cl_1⟩ (by rw [np_72]; rfl) (by rw [np_72]; rfl) (ob_of (mk_44 _)) (Nat.le_of_ble_eq_true rfl) (hC  ) ?_
  show Bod _ _ _ _ [] _ _ _
  refine Bod.go dc_65_149 rfl ?_
  exact Bod.retV dc_65_245 rt_65
theorem eAtm_62 {d : Nat} {S : cS} {dp : Nat} {S1 : cS} (htk : sI S 3105 = nI 62) (hC : Ans (d + 8) 72 [.ref 44, .long 2305843009213693952, .long 1] (wI 4403 (nI 0) S) none S1) : Bod (d + 8) 65 0 [(0, .ref 44), (1, .int (nI dp))] [] S none (S1) := by
  refine Bod.go dc_65_0 rfl ?_
  refine Bod.ic 0 (by decide) dc_65_1 ?_
  refine Bod.put dc_65_2 fr_65_49 (mk_44 _) (Nat.le_of_ble_eq_true rfl) pf_1_3 (st_4403 _ _) (mu_I _ _ _) ?_
  refine Bod.go dc_65_5 rfl ?_
  refine Bod.get dc_65_6 fr_65_9 (mk_44 _) rfl ?_
  refine Bod.get dc_65_9 fr_65_27 (mk_31 _) rfl ?_
  refine Bod.eqI (nI 62) (by first | (simp (disch := omega) only [rI, rIe, rA, rIA, rLA, rJA, rVI, rQI, rVA, rQA, upd_at,  rAI, rLI, rJI, nI_add, pk_sub, kc_0, kc_1, kc_2, kc_3, kc_4, kc_5, reduceIte, Nat.reduceEqDiff, Nat.add_zero, rI_hold, rI_hold, rL_hold, htk]; done) | (simp (disch := omega) only [rI, rIe, rA, rIA, rLA, rJA, rVI, rQI, rVA, rQA, upd_at,  rAI, rLI, rJI, nI_add, pk_sub, kc_0, kc_1, kc_2, kc_3, kc_4, kc_5, reduceIte, Nat.reduceEqDiff, Nat.add_zero, rI_hold, rI_hold, rL_hold, htk]; exact congrArg nI (by omega))) ?_
  refine Bod.sw (t := 152) dc_65_12 rfl rfl (by decide +kernel) ?_
  refine Bod.go dc_65_152 rfl ?_
  refine Bod.ldc2 dc_65_153 cj_65_116 ?_
  refine Bod.go dc_65_156 rfl ?_
  refine Bod.virt (r := []) dc_65_157 kr_65_122 ⟨Or.inl rfl, ow_72, cl_1⟩ (by rw [np_72]; rfl) (by rw [np_72]; rfl) (ob_of (mk_44 _)) (Nat.le_of_ble_eq_true rfl) (hC  ) ?_
  show Bod _ _ _ _ [] _ _ _
  refine Bod.go dc_65_160 rfl ?_
  exact Bod.retV dc_65_245 rt_65
theorem eAtm_63 {d : Nat} {S : cS} {dp : Nat} {S1 : cS} (htk : sI S 3105 = nI 63) (hC : Ans (d + 8) 72 [.ref 44, .long 2305843009213693952, .long 0] (wI 4403 (nI 0) S) none S1) : Bod (d + 8) 65 0 [(0, .ref 44), (1, .int (nI dp))] [] S none (S1) := by
  refine Bod.go dc_65_0 rfl ?_
  refine Bod.ic 0 (by decide) dc_65_1 ?_
  refine Bod.put dc_65_2 fr_65_49 (mk_44 _) (Nat.le_of_ble_eq_true rfl) pf_1_3 (st_4403 _ _) (mu_I _ _ _) ?_
  refine Bod.go dc_65_5 rfl ?_
  refine Bod.get dc_65_6 fr_65_9 (mk_44 _) rfl ?_
  refine Bod.get dc_65_9 fr_65_27 (mk_31 _) rfl ?_
  refine Bod.eqI (nI 63) (by first | (simp (disch := omega) only [rI, rIe, rA, rIA, rLA, rJA, rVI, rQI, rVA, rQA, upd_at,  rAI, rLI, rJI, nI_add, pk_sub, kc_0, kc_1, kc_2, kc_3, kc_4, kc_5, reduceIte, Nat.reduceEqDiff, Nat.add_zero, rI_hold, rI_hold, rL_hold, htk]; done) | (simp (disch := omega) only [rI, rIe, rA, rIA, rLA, rJA, rVI, rQI, rVA, rQA, upd_at,  rAI, rLI, rJI, nI_add, pk_sub, kc_0, kc_1, kc_2, kc_3, kc_4, kc_5, reduceIte, Nat.reduceEqDiff, Nat.add_zero, rI_hold, rI_hold, rL_hold, htk]; exact congrArg nI (by omega))) ?_
  refine Bod.sw (t := 163) dc_65_12 rfl rfl (by decide +kernel) ?_
  refine Bod.go dc_65_163 rfl ?_
  refine Bod.ldc2 dc_65_164 cj_65_116 ?_
  refine Bod.go dc_65_167 rfl ?_
  refine Bod.virt (r := []) dc_65_168 kr_65_122 ⟨Or.inl rfl, ow_72, cl_1⟩ (by rw [np_72]; rfl) (by rw [np_72]; rfl) (ob_of (mk_44 _)) (Nat.le_of_ble_eq_true rfl) (hC  ) ?_
  show Bod _ _ _ _ [] _ _ _
  refine Bod.go dc_65_171 rfl ?_
  exact Bod.retV dc_65_245 rt_65
theorem eAtm_par {d : Nat} {S : cS} {dp : Nat} {S1 : cS} {S2 : cS} {S3 : cS} (htk : sI S 3105 = nI 6) (hG : Ans (d + 8) 74 [.ref 44, .int (nI dp)] (wI 4403 (nI 0) S) (some (.int (nI 1))) S1) (hC : Ans (d + 8) 57 [.ref 44, .int (nI (dp + 1))] S1 none S2) (hP : Ans (d + 8) 75 [.ref 31, .int (nI 7)] S2 none S3) : Bod (d + 8) 65 0 [(0, .ref 44), (1, .int (nI dp))] [] S none (wI 4403 (nI 0) S3) := by
  refine Bod.go dc_65_0 rfl ?_
  refine Bod.ic 0 (by decide) dc_65_1 ?_
  refine Bod.put dc_65_2 fr_65_49 (mk_44 _) (Nat.le_of_ble_eq_true rfl) pf_1_3 (st_4403 _ _) (mu_I _ _ _) ?_
  refine Bod.go dc_65_5 rfl ?_
  refine Bod.get dc_65_6 fr_65_9 (mk_44 _) rfl ?_
  refine Bod.get dc_65_9 fr_65_27 (mk_31 _) rfl ?_
  refine Bod.eqI (nI 6) (by first | (simp (disch := omega) only [rI, rIe, rA, rIA, rLA, rJA, rVI, rQI, rVA, rQA, upd_at,  rAI, rLI, rJI, nI_add, pk_sub, kc_0, kc_1, kc_2, kc_3, kc_4, kc_5, reduceIte, Nat.reduceEqDiff, Nat.add_zero, rI_hold, rI_hold, rL_hold, htk]; done) | (simp (disch := omega) only [rI, rIe, rA, rIA, rLA, rJA, rVI, rQI, rVA, rQA, upd_at,  rAI, rLI, rJI, nI_add, pk_sub, kc_0, kc_1, kc_2, kc_3, kc_4, kc_5, reduceIte, Nat.reduceEqDiff, Nat.add_zero, rI_hold, rI_hold, rL_hold, htk]; exact congrArg nI (by omega))) ?_
  refine Bod.sw (t := 174) dc_65_12 rfl rfl (by decide +kernel) ?_
  refine Bod.go dc_65_174 rfl ?_
  refine Bod.go dc_65_175 rfl ?_
  refine Bod.virt (r := []) dc_65_176 kr_65_58 ⟨Or.inl rfl, ow_74, cl_1⟩ (by rw [np_74]; rfl) (by rw [np_74]; rfl) (ob_of (mk_44 _)) (Nat.le_of_ble_eq_true rfl) (hG  ) ?_
  show Bod _ _ _ _ [_] _ _ _
  refine Bod.ifF dc_65_179 rfl (k1_eq_F (k_ne 1 0 rfl rfl (by omega) (by omega) (by omega))) ?_
  refine Bod.go dc_65_182 rfl ?_
  refine Bod.go dc_65_183 rfl ?_
  refine Bod.ic 1 (by decide) dc_65_184 ?_
  refine Bod.addN (dp + 1) (by omega) dc_65_185 ?_
  refine Bod.virt (r := []) dc_65_186 kr_65_105 ⟨Or.inl rfl, ow_57, cl_1⟩ (by rw [np_57]; rfl) (by rw [np_57]; rfl) (ob_of (mk_44 _)) (Nat.le_of_ble_eq_true rfl) (hC  ) ?_
  show Bod _ _ _ _ [] _ _ _
  refine Bod.go dc_65_189 rfl ?_
  refine Bod.get dc_65_190 fr_65_9 (mk_44 _) rfl ?_
  refine Bod.bip 7 (by decide) dc_65_193 ?_
  refine Bod.virt (r := []) dc_65_195 kr_65_33 ⟨Or.inr rfl, ow_75, cl_3⟩ (by rw [np_75]; rfl) (by rw [np_75]; rfl) (ob_of (mk_31 _)) (Nat.le_of_ble_eq_true rfl) (hP  ) ?_
  show Bod _ _ _ _ [] _ _ _
  refine Bod.go dc_65_198 rfl ?_
  refine Bod.ic 0 (by decide) dc_65_199 ?_
  refine Bod.put dc_65_200 fr_65_49 (mk_44 _) (Nat.le_of_ble_eq_true rfl) pf_1_3 (st_4403 _ _) (mu_I _ _ _) ?_
  refine Bod.go dc_65_203 rfl ?_
  exact Bod.retV dc_65_245 rt_65
theorem eAtm_parno {d : Nat} {S : cS} {dp : Nat} {S1 : cS} {S3 : cS} (htk : sI S 3105 = nI 6) (hG : Ans (d + 8) 74 [.ref 44, .int (nI dp)] (wI 4403 (nI 0) S) (some (.int (nI 0))) S1) (hP : Ans (d + 8) 75 [.ref 31, .int (nI 7)] S1 none S3) : Bod (d + 8) 65 0 [(0, .ref 44), (1, .int (nI dp))] [] S none (wI 4403 (nI 0) S3) := by
  refine Bod.go dc_65_0 rfl ?_
  refine Bod.ic 0 (by decide) dc_65_1 ?_
  refine Bod.put dc_65_2 fr_65_49 (mk_44 _) (Nat.le_of_ble_eq_true rfl) pf_1_3 (st_4403 _ _) (mu_I _ _ _) ?_
  refine Bod.go dc_65_5 rfl ?_
  refine Bod.get dc_65_6 fr_65_9 (mk_44 _) rfl ?_
  refine Bod.get dc_65_9 fr_65_27 (mk_31 _) rfl ?_
  refine Bod.eqI (nI 6) (by first | (simp (disch := omega) only [rI, rIe, rA, rIA, rLA, rJA, rVI, rQI, rVA, rQA, upd_at,  rAI, rLI, rJI, nI_add, pk_sub, kc_0, kc_1, kc_2, kc_3, kc_4, kc_5, reduceIte, Nat.reduceEqDiff, Nat.add_zero, rI_hold, rI_hold, rL_hold, htk]; done) | (simp (disch := omega) only [rI, rIe, rA, rIA, rLA, rJA, rVI, rQI, rVA, rQA, upd_at,  rAI, rLI, rJI, nI_add, pk_sub, kc_0, kc_1, kc_2, kc_3, kc_4, kc_5, reduceIte, Nat.reduceEqDiff, Nat.add_zero, rI_hold, rI_hold, rL_hold, htk]; exact congrArg nI (by omega))) ?_
  refine Bod.sw (t := 174) dc_65_12 rfl rfl (by decide +kernel) ?_
  refine Bod.go dc_65_174 rfl ?_
  refine Bod.go dc_65_175 rfl ?_
  refine Bod.virt (r := []) dc_65_176 kr_65_58 ⟨Or.inl rfl, ow_74, cl_1⟩ (by rw [np_74]; rfl) (by rw [np_74]; rfl) (ob_of (mk_44 _)) (Nat.le_of_ble_eq_true rfl) (hG  ) ?_
  show Bod _ _ _ _ [_] _ _ _
  refine Bod.ifT dc_65_179 rfl (k1_eq_T (k_eq 0 0 rfl rfl (by omega))) ?_
  refine Bod.go dc_65_189 rfl ?_
  refine Bod.get dc_65_190 fr_65_9 (mk_44 _) rfl ?_
  refine Bod.bip 7 (by decide) dc_65_193 ?_
  refine Bod.virt (r := []) dc_65_195 kr_65_33 ⟨Or.inr rfl, ow_75, cl_3⟩ (by rw [np_75]; rfl) (by rw [np_75]; rfl) (ob_of (mk_31 _)) (Nat.le_of_ble_eq_true rfl) (hP  ) ?_
  show Bod _ _ _ _ [] _ _ _
  refine Bod.go dc_65_198 rfl ?_
  refine Bod.ic 0 (by decide) dc_65_199 ?_
  refine Bod.put dc_65_200 fr_65_49 (mk_44 _) (Nat.le_of_ble_eq_true rfl) pf_1_3 (st_4403 _ _) (mu_I _ _ _) ?_
  refine Bod.go dc_65_203 rfl ?_
  exact Bod.retV dc_65_245 rt_65
theorem eAtm_list {d : Nat} {S : cS} {dp : Nat} {m : Nat} {S1 : cS} {S2 : cS} (htk : sI S 3105 = nI 8) (hL : Ans (d + 8) 76 [.ref 44, .int (nI dp), .int (nI 9), .int (nI 40)] (wI 4403 (nI 0) S) (some (.int (nI m))) S1) (hM : Ans (d + 8) 77 [.ref 44, .int (nI 49), .int (nI m)] S1 none S2) : Bod (d + 8) 65 0 [(0, .ref 44), (1, .int (nI dp))] [] S none (S2) := by
  refine Bod.go dc_65_0 rfl ?_
  refine Bod.ic 0 (by decide) dc_65_1 ?_
  refine Bod.put dc_65_2 fr_65_49 (mk_44 _) (Nat.le_of_ble_eq_true rfl) pf_1_3 (st_4403 _ _) (mu_I _ _ _) ?_
  refine Bod.go dc_65_5 rfl ?_
  refine Bod.get dc_65_6 fr_65_9 (mk_44 _) rfl ?_
  refine Bod.get dc_65_9 fr_65_27 (mk_31 _) rfl ?_
  refine Bod.eqI (nI 8) (by first | (simp (disch := omega) only [rI, rIe, rA, rIA, rLA, rJA, rVI, rQI, rVA, rQA, upd_at,  rAI, rLI, rJI, nI_add, pk_sub, kc_0, kc_1, kc_2, kc_3, kc_4, kc_5, reduceIte, Nat.reduceEqDiff, Nat.add_zero, rI_hold, rI_hold, rL_hold, htk]; done) | (simp (disch := omega) only [rI, rIe, rA, rIA, rLA, rJA, rVI, rQI, rVA, rQA, upd_at,  rAI, rLI, rJI, nI_add, pk_sub, kc_0, kc_1, kc_2, kc_3, kc_4, kc_5, reduceIte, Nat.reduceEqDiff, Nat.add_zero, rI_hold, rI_hold, rL_hold, htk]; exact congrArg nI (by omega))) ?_
  refine Bod.sw (t := 206) dc_65_12 rfl rfl (by decide +kernel) ?_
  refine Bod.go dc_65_206 rfl ?_
  refine Bod.bip 49 (by decide) dc_65_207 ?_
  refine Bod.go dc_65_209 rfl ?_
  refine Bod.go dc_65_210 rfl ?_
  refine Bod.bip 9 (by decide) dc_65_211 ?_
  refine Bod.bip 40 (by decide) dc_65_213 ?_
  refine Bod.virt (r := [_, _]) dc_65_215 kr_65_92 ⟨Or.inl rfl, ow_76, cl_1⟩ (by rw [np_76]; rfl) (by rw [np_76]; rfl) (ob_of (mk_44 _)) (Nat.le_of_ble_eq_true rfl) (hL  ) ?_
  show Bod _ _ _ _ [_, _, _] _ _ _
  refine Bod.virt (r := []) dc_65_218 kr_65_96 ⟨Or.inl rfl, ow_77, cl_1⟩ (by rw [np_77]; rfl) (by rw [np_77]; rfl) (ob_of (mk_44 _)) (Nat.le_of_ble_eq_true rfl) (hM  ) ?_
  show Bod _ _ _ _ [] _ _ _
  refine Bod.go dc_65_221 rfl ?_
  exact Bod.retV dc_65_245 rt_65
theorem eAtm_dict {d : Nat} {S : cS} {dp : Nat} {m : Nat} {S1 : cS} {S2 : cS} (htk : sI S 3105 = nI 10) (hQ : Ans (d + 8) 78 [.ref 44, .int (nI dp)] (wI 4403 (nI 0) S) (some (.int (nI m))) S1) (hM : Ans (d + 8) 77 [.ref 44, .int (nI 50), .int (nI m)] S1 none S2) : Bod (d + 8) 65 0 [(0, .ref 44), (1, .int (nI dp))] [] S none (S2) := by
  refine Bod.go dc_65_0 rfl ?_
  refine Bod.ic 0 (by decide) dc_65_1 ?_
  refine Bod.put dc_65_2 fr_65_49 (mk_44 _) (Nat.le_of_ble_eq_true rfl) pf_1_3 (st_4403 _ _) (mu_I _ _ _) ?_
  refine Bod.go dc_65_5 rfl ?_
  refine Bod.get dc_65_6 fr_65_9 (mk_44 _) rfl ?_
  refine Bod.get dc_65_9 fr_65_27 (mk_31 _) rfl ?_
  refine Bod.eqI (nI 10) (by first | (simp (disch := omega) only [rI, rIe, rA, rIA, rLA, rJA, rVI, rQI, rVA, rQA, upd_at,  rAI, rLI, rJI, nI_add, pk_sub, kc_0, kc_1, kc_2, kc_3, kc_4, kc_5, reduceIte, Nat.reduceEqDiff, Nat.add_zero, rI_hold, rI_hold, rL_hold, htk]; done) | (simp (disch := omega) only [rI, rIe, rA, rIA, rLA, rJA, rVI, rQI, rVA, rQA, upd_at,  rAI, rLI, rJI, nI_add, pk_sub, kc_0, kc_1, kc_2, kc_3, kc_4, kc_5, reduceIte, Nat.reduceEqDiff, Nat.add_zero, rI_hold, rI_hold, rL_hold, htk]; exact congrArg nI (by omega))) ?_
  refine Bod.sw (t := 224) dc_65_12 rfl rfl (by decide +kernel) ?_
  refine Bod.go dc_65_224 rfl ?_
  refine Bod.bip 50 (by decide) dc_65_225 ?_
  refine Bod.go dc_65_227 rfl ?_
  refine Bod.go dc_65_228 rfl ?_
  refine Bod.virt (r := [_, _]) dc_65_229 kr_65_134 ⟨Or.inl rfl, ow_78, cl_1⟩ (by rw [np_78]; rfl) (by rw [np_78]; rfl) (ob_of (mk_44 _)) (Nat.le_of_ble_eq_true rfl) (hQ  ) ?_
  show Bod _ _ _ _ [_, _, _] _ _ _
  refine Bod.virt (r := []) dc_65_232 kr_65_96 ⟨Or.inl rfl, ow_77, cl_1⟩ (by rw [np_77]; rfl) (by rw [np_77]; rfl) (ob_of (mk_44 _)) (Nat.le_of_ble_eq_true rfl) (hM  ) ?_
  show Bod _ _ _ _ [] _ _ _
  refine Bod.go dc_65_235 rfl ?_
  exact Bod.retV dc_65_245 rt_65
theorem eAtm_no {d : Nat} {S : cS} {dp : Nat} {tk : Nat} {S1 : cS} (htk : sI S 3105 = nI tk) (htk2 : tk < 64) (hn3 : tk ≠ 3) (hn4 : tk ≠ 4) (hn5 : tk ≠ 5) (hn6 : tk ≠ 6) (hn8 : tk ≠ 8) (hn10 : tk ≠ 10) (hn61 : tk ≠ 61) (hn62 : tk ≠ 62) (hn63 : tk ≠ 63) (hF : Ans (d + 8) 44 [.ref 31] (wI 4403 (nI 0) S) none S1) : Bod (d + 8) 65 0 [(0, .ref 44), (1, .int (nI dp))] [] S none (S1) := by
  refine Bod.go dc_65_0 rfl ?_
  refine Bod.ic 0 (by decide) dc_65_1 ?_
  refine Bod.put dc_65_2 fr_65_49 (mk_44 _) (Nat.le_of_ble_eq_true rfl) pf_1_3 (st_4403 _ _) (mu_I _ _ _) ?_
  refine Bod.go dc_65_5 rfl ?_
  refine Bod.get dc_65_6 fr_65_9 (mk_44 _) rfl ?_
  refine Bod.get dc_65_9 fr_65_27 (mk_31 _) rfl ?_
  refine Bod.eqI (nI tk) (by first | (simp (disch := omega) only [rI, rIe, rA, rIA, rLA, rJA, rVI, rQI, rVA, rQA, upd_at,  rAI, rLI, rJI, nI_add, pk_sub, kc_0, kc_1, kc_2, kc_3, kc_4, kc_5, reduceIte, Nat.reduceEqDiff, Nat.add_zero, rI_hold, rI_hold, rL_hold, htk]; done) | (simp (disch := omega) only [rI, rIe, rA, rIA, rLA, rJA, rVI, rQI, rVA, rQA, upd_at,  rAI, rLI, rJI, nI_add, pk_sub, kc_0, kc_1, kc_2, kc_3, kc_4, kc_5, reduceIte, Nat.reduceEqDiff, Nat.add_zero, rI_hold, rI_hold, rL_hold, htk]; exact congrArg nI (by omega))) ?_
  refine Bod.sw (t := 238) dc_65_12 rfl rfl ((((((((((atom_sw tk (by omega)).resolve_left hn3).resolve_left hn4).resolve_left hn5).resolve_left hn6).resolve_left hn8).resolve_left hn10).resolve_left hn61).resolve_left hn62).resolve_left hn63) ?_
  refine Bod.go dc_65_238 rfl ?_
  refine Bod.get dc_65_239 fr_65_9 (mk_44 _) rfl ?_
  refine Bod.virt (r := []) dc_65_242 kr_65_65 ⟨Or.inr rfl, ow_44, cl_3⟩ (by rw [np_44]; rfl) (by rw [np_44]; rfl) (ob_of (mk_31 _)) (Nat.le_of_ble_eq_true rfl) (hF  ) ?_
  show Bod _ _ _ _ [] _ _ _
  exact Bod.retV dc_65_245 rt_65
