/-! WAYS of the class's machine: every call is a hypothesis -/
theorem ml_141 : sm_ml 141 = 3 := by decide +kernel
theorem dc_141_0 : decode (sm_cc 141) 0 = .ok (.iconst 0, 1) := by decide +kernel
theorem dc_141_1 : decode (sm_cc 141) 1 = .ok (.istore_n 2, 1) := by decide +kernel
theorem dc_141_2 : decode (sm_cc 141) 2 = .ok (.iload_n 2, 1) := by decide +kernel
theorem dc_141_3 : decode (sm_cc 141) 3 = .ok (.iload_n 1, 1) := by decide +kernel
theorem dc_141_4 : decode (sm_cc 141) 4 = .ok (.if_icmp .ge (71), 3) := by decide +kernel
theorem dc_141_75 : decode (sm_cc 141) 75 = .ok (.return_, 1) := by decide +kernel
theorem rt_141 : sm_rt 141 = none := by decide +kernel
theorem dc_141_7 : decode (sm_cc 141) 7 = .ok (.aload_n 0, 1) := by decide +kernel
theorem dc_141_8 : decode (sm_cc 141) 8 = .ok (.getfield 22, 3) := by decide +kernel
theorem fr_141_22 : sm_at mt_f (sm_ow 141) 22 = some (22, 9, 3, 0, 772) := by decide +kernel
theorem dc_141_11 : decode (sm_cc 141) 11 = .ok (.ifCond .le (64), 3) := by decide +kernel
theorem dc_141_14 : decode (sm_cc 141) 14 = .ok (.aload_n 0, 1) := by decide +kernel
theorem dc_141_15 : decode (sm_cc 141) 15 = .ok (.getfield 22, 3) := by decide +kernel
theorem dc_141_18 : decode (sm_cc 141) 18 = .ok (.sipush (20480), 3) := by decide +kernel
theorem dc_141_21 : decode (sm_cc 141) 21 = .ok (.if_icmp .gt (54), 3) := by decide +kernel
theorem dc_141_24 : decode (sm_cc 141) 24 = .ok (.aload_n 0, 1) := by decide +kernel
theorem dc_141_25 : decode (sm_cc 141) 25 = .ok (.dup, 1) := by decide +kernel
theorem dc_141_26 : decode (sm_cc 141) 26 = .ok (.getfield 22, 3) := by decide +kernel
theorem dc_141_29 : decode (sm_cc 141) 29 = .ok (.iconst 1, 1) := by decide +kernel
theorem dc_141_30 : decode (sm_cc 141) 30 = .ok (.isub, 1) := by decide +kernel
theorem dc_141_31 : decode (sm_cc 141) 31 = .ok (.putfield 22, 3) := by decide +kernel
theorem dc_141_34 : decode (sm_cc 141) 34 = .ok (.aload_n 0, 1) := by decide +kernel
theorem dc_141_35 : decode (sm_cc 141) 35 = .ok (.getfield 9, 3) := by decide +kernel
theorem fr_141_9 : sm_at mt_f (sm_ow 141) 9 = some (9, 9, 0, 0, 769) := by decide +kernel
theorem dc_141_38 : decode (sm_cc 141) 38 = .ok (.aload_n 0, 1) := by decide +kernel
theorem dc_141_39 : decode (sm_cc 141) 39 = .ok (.getfield 9, 3) := by decide +kernel
theorem dc_141_42 : decode (sm_cc 141) 42 = .ok (.getfield 50, 3) := by decide +kernel
theorem fr_141_50 : sm_at mt_f (sm_ow 141) 50 = some (50, 2, 3, 1, 378) := by decide +kernel
theorem dc_141_45 : decode (sm_cc 141) 45 = .ok (.aload_n 0, 1) := by decide +kernel
theorem dc_141_46 : decode (sm_cc 141) 46 = .ok (.getfield 15, 3) := by decide +kernel
theorem fr_141_15 : sm_at mt_f (sm_ow 141) 15 = some (15, 9, 1, 0, 770) := by decide +kernel
theorem dc_141_49 : decode (sm_cc 141) 49 = .ok (.aload_n 0, 1) := by decide +kernel
theorem dc_141_50 : decode (sm_cc 141) 50 = .ok (.getfield 22, 3) := by decide +kernel
theorem dc_141_53 : decode (sm_cc 141) 53 = .ok (.laload, 1) := by decide +kernel
theorem dc_141_54 : decode (sm_cc 141) 54 = .ok (.aload_n 0, 1) := by decide +kernel
theorem dc_141_55 : decode (sm_cc 141) 55 = .ok (.getfield 19, 3) := by decide +kernel
theorem fr_141_19 : sm_at mt_f (sm_ow 141) 19 = some (19, 9, 2, 0, 771) := by decide +kernel
theorem dc_141_58 : decode (sm_cc 141) 58 = .ok (.aload_n 0, 1) := by decide +kernel
theorem dc_141_59 : decode (sm_cc 141) 59 = .ok (.getfield 22, 3) := by decide +kernel
theorem dc_141_62 : decode (sm_cc 141) 62 = .ok (.laload, 1) := by decide +kernel
theorem dc_141_63 : decode (sm_cc 141) 63 = .ok (.invokestatic 37, 3) := by decide +kernel
theorem kr_141_37 : sm_at mt_k (sm_ow 141) 37 = some (37, 3, 137, 1, 1384) := by decide +kernel
theorem dc_141_66 : decode (sm_cc 141) 66 = .ok (.invokevirtual 58, 3) := by decide +kernel
theorem kr_141_58 : sm_at mt_k (sm_ow 141) 58 = some (58, 1, 142, 1, 1403) := by decide +kernel
theorem dc_141_69 : decode (sm_cc 141) 69 = .ok (.iinc 2 (1), 3) := by decide +kernel
theorem dc_141_72 : decode (sm_cc 141) 72 = .ok (.goto (-70), 3) := by decide +kernel
theorem ml_148 : sm_ml 148 = 7 := by decide +kernel
theorem dc_148_0 : decode (sm_cc 148) 0 = .ok (.aload_n 0, 1) := by decide +kernel
theorem dc_148_1 : decode (sm_cc 148) 1 = .ok (.getfield 9, 3) := by decide +kernel
theorem fr_148_9 : sm_at mt_f (sm_ow 148) 9 = some (9, 9, 0, 0, 769) := by decide +kernel
theorem dc_148_4 : decode (sm_cc 148) 4 = .ok (.aload_n 0, 1) := by decide +kernel
theorem dc_148_5 : decode (sm_cc 148) 5 = .ok (.getfield 9, 3) := by decide +kernel
theorem dc_148_8 : decode (sm_cc 148) 8 = .ok (.getfield 50, 3) := by decide +kernel
theorem fr_148_50 : sm_at mt_f (sm_ow 148) 50 = some (50, 2, 3, 1, 378) := by decide +kernel
theorem dc_148_11 : decode (sm_cc 148) 11 = .ok (.lload_n 2, 1) := by decide +kernel
theorem dc_148_12 : decode (sm_cc 148) 12 = .ok (.lload 4, 2) := by decide +kernel
theorem dc_148_14 : decode (sm_cc 148) 14 = .ok (.invokestatic 37, 3) := by decide +kernel
theorem kr_148_37 : sm_at mt_k (sm_ow 148) 37 = some (37, 3, 137, 1, 1384) := by decide +kernel
theorem dc_148_17 : decode (sm_cc 148) 17 = .ok (.invokevirtual 54, 3) := by decide +kernel
theorem kr_148_54 : sm_at mt_k (sm_ow 148) 54 = some (54, 1, 149, 1, 1434) := by decide +kernel
theorem dc_148_20 : decode (sm_cc 148) 20 = .ok (.iconst 0, 1) := by decide +kernel
theorem dc_148_21 : decode (sm_cc 148) 21 = .ok (.istore 6, 2) := by decide +kernel
theorem dc_148_23 : decode (sm_cc 148) 23 = .ok (.iload 6, 2) := by decide +kernel
theorem dc_148_25 : decode (sm_cc 148) 25 = .ok (.iload_n 1, 1) := by decide +kernel
theorem dc_148_26 : decode (sm_cc 148) 26 = .ok (.if_icmp .ge (71), 3) := by decide +kernel
theorem dc_148_29 : decode (sm_cc 148) 29 = .ok (.aload_n 0, 1) := by decide +kernel
theorem dc_148_30 : decode (sm_cc 148) 30 = .ok (.getfield 22, 3) := by decide +kernel
theorem fr_148_22 : sm_at mt_f (sm_ow 148) 22 = some (22, 9, 3, 0, 772) := by decide +kernel
theorem dc_148_33 : decode (sm_cc 148) 33 = .ok (.ifCond .le (64), 3) := by decide +kernel
theorem dc_148_36 : decode (sm_cc 148) 36 = .ok (.aload_n 0, 1) := by decide +kernel
theorem dc_148_37 : decode (sm_cc 148) 37 = .ok (.getfield 22, 3) := by decide +kernel
theorem dc_148_40 : decode (sm_cc 148) 40 = .ok (.sipush (20480), 3) := by decide +kernel
theorem dc_148_43 : decode (sm_cc 148) 43 = .ok (.if_icmp .gt (54), 3) := by decide +kernel
theorem dc_148_46 : decode (sm_cc 148) 46 = .ok (.aload_n 0, 1) := by decide +kernel
theorem dc_148_47 : decode (sm_cc 148) 47 = .ok (.dup, 1) := by decide +kernel
theorem dc_148_48 : decode (sm_cc 148) 48 = .ok (.getfield 22, 3) := by decide +kernel
theorem dc_148_51 : decode (sm_cc 148) 51 = .ok (.iconst 1, 1) := by decide +kernel
theorem dc_148_52 : decode (sm_cc 148) 52 = .ok (.isub, 1) := by decide +kernel
theorem dc_148_53 : decode (sm_cc 148) 53 = .ok (.putfield 22, 3) := by decide +kernel
theorem dc_148_56 : decode (sm_cc 148) 56 = .ok (.aload_n 0, 1) := by decide +kernel
theorem dc_148_57 : decode (sm_cc 148) 57 = .ok (.getfield 9, 3) := by decide +kernel
theorem dc_148_60 : decode (sm_cc 148) 60 = .ok (.aload_n 0, 1) := by decide +kernel
theorem dc_148_61 : decode (sm_cc 148) 61 = .ok (.getfield 9, 3) := by decide +kernel
theorem dc_148_64 : decode (sm_cc 148) 64 = .ok (.getfield 50, 3) := by decide +kernel
theorem dc_148_67 : decode (sm_cc 148) 67 = .ok (.aload_n 0, 1) := by decide +kernel
theorem dc_148_68 : decode (sm_cc 148) 68 = .ok (.getfield 15, 3) := by decide +kernel
theorem fr_148_15 : sm_at mt_f (sm_ow 148) 15 = some (15, 9, 1, 0, 770) := by decide +kernel
theorem dc_148_71 : decode (sm_cc 148) 71 = .ok (.aload_n 0, 1) := by decide +kernel
theorem dc_148_72 : decode (sm_cc 148) 72 = .ok (.getfield 22, 3) := by decide +kernel
theorem dc_148_75 : decode (sm_cc 148) 75 = .ok (.laload, 1) := by decide +kernel
theorem dc_148_76 : decode (sm_cc 148) 76 = .ok (.aload_n 0, 1) := by decide +kernel
theorem dc_148_77 : decode (sm_cc 148) 77 = .ok (.getfield 19, 3) := by decide +kernel
theorem fr_148_19 : sm_at mt_f (sm_ow 148) 19 = some (19, 9, 2, 0, 771) := by decide +kernel
theorem dc_148_80 : decode (sm_cc 148) 80 = .ok (.aload_n 0, 1) := by decide +kernel
theorem dc_148_81 : decode (sm_cc 148) 81 = .ok (.getfield 22, 3) := by decide +kernel
theorem dc_148_84 : decode (sm_cc 148) 84 = .ok (.laload, 1) := by decide +kernel
theorem dc_148_85 : decode (sm_cc 148) 85 = .ok (.invokestatic 37, 3) := by decide +kernel
theorem dc_148_88 : decode (sm_cc 148) 88 = .ok (.invokevirtual 58, 3) := by decide +kernel
theorem kr_148_58 : sm_at mt_k (sm_ow 148) 58 = some (58, 1, 142, 1, 1403) := by decide +kernel
theorem dc_148_91 : decode (sm_cc 148) 91 = .ok (.iinc 6 (1), 3) := by decide +kernel
theorem dc_148_94 : decode (sm_cc 148) 94 = .ok (.goto (-71), 3) := by decide +kernel
theorem dc_148_97 : decode (sm_cc 148) 97 = .ok (.aload_n 0, 1) := by decide +kernel
theorem dc_148_98 : decode (sm_cc 148) 98 = .ok (.getfield 22, 3) := by decide +kernel
theorem dc_148_101 : decode (sm_cc 148) 101 = .ok (.ifCond .lt (13), 3) := by decide +kernel
theorem dc_148_104 : decode (sm_cc 148) 104 = .ok (.aload_n 0, 1) := by decide +kernel
theorem dc_148_105 : decode (sm_cc 148) 105 = .ok (.getfield 22, 3) := by decide +kernel
theorem dc_148_108 : decode (sm_cc 148) 108 = .ok (.sipush (20480), 3) := by decide +kernel
theorem dc_148_111 : decode (sm_cc 148) 111 = .ok (.if_icmp .lt (6), 3) := by decide +kernel
theorem dc_148_117 : decode (sm_cc 148) 117 = .ok (.aload_n 0, 1) := by decide +kernel
theorem dc_148_118 : decode (sm_cc 148) 118 = .ok (.getfield 15, 3) := by decide +kernel
theorem dc_148_121 : decode (sm_cc 148) 121 = .ok (.aload_n 0, 1) := by decide +kernel
theorem dc_148_122 : decode (sm_cc 148) 122 = .ok (.getfield 22, 3) := by decide +kernel
theorem dc_148_125 : decode (sm_cc 148) 125 = .ok (.lload_n 2, 1) := by decide +kernel
theorem dc_148_126 : decode (sm_cc 148) 126 = .ok (.lastore, 1) := by decide +kernel
theorem dc_148_127 : decode (sm_cc 148) 127 = .ok (.aload_n 0, 1) := by decide +kernel
theorem dc_148_128 : decode (sm_cc 148) 128 = .ok (.getfield 19, 3) := by decide +kernel
theorem dc_148_131 : decode (sm_cc 148) 131 = .ok (.aload_n 0, 1) := by decide +kernel
theorem dc_148_132 : decode (sm_cc 148) 132 = .ok (.getfield 22, 3) := by decide +kernel
theorem dc_148_135 : decode (sm_cc 148) 135 = .ok (.lload 4, 2) := by decide +kernel
theorem dc_148_137 : decode (sm_cc 148) 137 = .ok (.lastore, 1) := by decide +kernel
theorem dc_148_138 : decode (sm_cc 148) 138 = .ok (.aload_n 0, 1) := by decide +kernel
theorem dc_148_139 : decode (sm_cc 148) 139 = .ok (.dup, 1) := by decide +kernel
theorem dc_148_140 : decode (sm_cc 148) 140 = .ok (.getfield 22, 3) := by decide +kernel
theorem dc_148_143 : decode (sm_cc 148) 143 = .ok (.iconst 1, 1) := by decide +kernel
theorem dc_148_144 : decode (sm_cc 148) 144 = .ok (.iadd, 1) := by decide +kernel
theorem dc_148_145 : decode (sm_cc 148) 145 = .ok (.putfield 22, 3) := by decide +kernel
theorem dc_148_148 : decode (sm_cc 148) 148 = .ok (.iconst 0, 1) := by decide +kernel
theorem dc_148_149 : decode (sm_cc 148) 149 = .ok (.ireturn, 1) := by decide +kernel
theorem rt_148 : sm_rt 148 = some .int := by decide +kernel
theorem dc_148_114 : decode (sm_cc 148) 114 = .ok (.bipush (8), 2) := by decide +kernel
theorem dc_148_116 : decode (sm_cc 148) 116 = .ok (.ireturn, 1) := by decide +kernel
theorem ml_261 : sm_ml 261 = 3 := by decide +kernel
theorem dc_261_0 : decode (sm_cc 261) 0 = .ok (.iconst 0, 1) := by decide +kernel
theorem dc_261_1 : decode (sm_cc 261) 1 = .ok (.istore_n 2, 1) := by decide +kernel
theorem dc_261_2 : decode (sm_cc 261) 2 = .ok (.iload_n 2, 1) := by decide +kernel
theorem dc_261_3 : decode (sm_cc 261) 3 = .ok (.iload_n 1, 1) := by decide +kernel
theorem dc_261_4 : decode (sm_cc 261) 4 = .ok (.if_icmp .ge (64), 3) := by decide +kernel
theorem dc_261_68 : decode (sm_cc 261) 68 = .ok (.return_, 1) := by decide +kernel
theorem rt_261 : sm_rt 261 = none := by decide +kernel
theorem dc_261_7 : decode (sm_cc 261) 7 = .ok (.aload_n 0, 1) := by decide +kernel
theorem dc_261_8 : decode (sm_cc 261) 8 = .ok (.getfield 22, 3) := by decide +kernel
theorem fr_261_22 : sm_at mt_f (sm_ow 261) 22 = some (22, 9, 3, 0, 772) := by decide +kernel
theorem dc_261_11 : decode (sm_cc 261) 11 = .ok (.ifCond .le (57), 3) := by decide +kernel
theorem dc_261_14 : decode (sm_cc 261) 14 = .ok (.aload_n 0, 1) := by decide +kernel
theorem dc_261_15 : decode (sm_cc 261) 15 = .ok (.getfield 22, 3) := by decide +kernel
theorem dc_261_18 : decode (sm_cc 261) 18 = .ok (.sipush (20480), 3) := by decide +kernel
theorem dc_261_21 : decode (sm_cc 261) 21 = .ok (.if_icmp .gt (47), 3) := by decide +kernel
theorem dc_261_24 : decode (sm_cc 261) 24 = .ok (.aload_n 0, 1) := by decide +kernel
theorem dc_261_25 : decode (sm_cc 261) 25 = .ok (.dup, 1) := by decide +kernel
theorem dc_261_26 : decode (sm_cc 261) 26 = .ok (.getfield 22, 3) := by decide +kernel
theorem dc_261_29 : decode (sm_cc 261) 29 = .ok (.iconst 1, 1) := by decide +kernel
theorem dc_261_30 : decode (sm_cc 261) 30 = .ok (.isub, 1) := by decide +kernel
theorem dc_261_31 : decode (sm_cc 261) 31 = .ok (.putfield 22, 3) := by decide +kernel
theorem dc_261_34 : decode (sm_cc 261) 34 = .ok (.aload_n 0, 1) := by decide +kernel
theorem dc_261_35 : decode (sm_cc 261) 35 = .ok (.getfield 9, 3) := by decide +kernel
theorem fr_261_9 : sm_at mt_f (sm_ow 261) 9 = some (9, 9, 0, 0, 769) := by decide +kernel
theorem dc_261_38 : decode (sm_cc 261) 38 = .ok (.aload_n 0, 1) := by decide +kernel
theorem dc_261_39 : decode (sm_cc 261) 39 = .ok (.getfield 15, 3) := by decide +kernel
theorem fr_261_15 : sm_at mt_f (sm_ow 261) 15 = some (15, 9, 1, 0, 770) := by decide +kernel
theorem dc_261_42 : decode (sm_cc 261) 42 = .ok (.aload_n 0, 1) := by decide +kernel
theorem dc_261_43 : decode (sm_cc 261) 43 = .ok (.getfield 22, 3) := by decide +kernel
theorem dc_261_46 : decode (sm_cc 261) 46 = .ok (.laload, 1) := by decide +kernel
theorem dc_261_47 : decode (sm_cc 261) 47 = .ok (.aload_n 0, 1) := by decide +kernel
theorem dc_261_48 : decode (sm_cc 261) 48 = .ok (.getfield 19, 3) := by decide +kernel
theorem fr_261_19 : sm_at mt_f (sm_ow 261) 19 = some (19, 9, 2, 0, 771) := by decide +kernel
theorem dc_261_51 : decode (sm_cc 261) 51 = .ok (.aload_n 0, 1) := by decide +kernel
theorem dc_261_52 : decode (sm_cc 261) 52 = .ok (.getfield 22, 3) := by decide +kernel
theorem dc_261_55 : decode (sm_cc 261) 55 = .ok (.laload, 1) := by decide +kernel
theorem dc_261_56 : decode (sm_cc 261) 56 = .ok (.invokestatic 37, 3) := by decide +kernel
theorem kr_261_37 : sm_at mt_k (sm_ow 261) 37 = some (37, 3, 137, 1, 1384) := by decide +kernel
theorem dc_261_59 : decode (sm_cc 261) 59 = .ok (.invokevirtual 61, 3) := by decide +kernel
theorem ow_262 : 2 = sm_ow 262 := by decide +kernel
theorem kr_261_61 : sm_at mt_k (sm_ow 261) 61 = some (61, 1, 262, 1, 1977) := by decide +kernel
theorem np_262 : sm_np 262 = 1 := by decide +kernel
theorem dc_261_62 : decode (sm_cc 261) 62 = .ok (.iinc 2 (1), 3) := by decide +kernel
theorem dc_261_65 : decode (sm_cc 261) 65 = .ok (.goto (-63), 3) := by decide +kernel
theorem ml_188 : sm_ml 188 = 4 := by decide +kernel
theorem dc_188_0 : decode (sm_cc 188) 0 = .ok (.aload_n 0, 1) := by decide +kernel
theorem dc_188_1 : decode (sm_cc 188) 1 = .ok (.iload_n 1, 1) := by decide +kernel
theorem dc_188_2 : decode (sm_cc 188) 2 = .ok (.invokevirtual 26, 3) := by decide +kernel
theorem kr_188_26 : sm_at mt_k (sm_ow 188) 26 = some (26, 0, 133, 0, 1368) := by decide +kernel
theorem dc_188_5 : decode (sm_cc 188) 5 = .ok (.ifCond .eq (7), 3) := by decide +kernel
theorem dc_188_8 : decode (sm_cc 188) 8 = .ok (.iload_n 1, 1) := by decide +kernel
theorem dc_188_9 : decode (sm_cc 188) 9 = .ok (.ifCond .ne (4), 3) := by decide +kernel
theorem dc_188_13 : decode (sm_cc 188) 13 = .ok (.aload_n 0, 1) := by decide +kernel
theorem dc_188_14 : decode (sm_cc 188) 14 = .ok (.getfield 22, 3) := by decide +kernel
theorem fr_188_22 : sm_at mt_f (sm_ow 188) 22 = some (22, 9, 3, 0, 772) := by decide +kernel
theorem dc_188_17 : decode (sm_cc 188) 17 = .ok (.iconst 1, 1) := by decide +kernel
theorem dc_188_18 : decode (sm_cc 188) 18 = .ok (.isub, 1) := by decide +kernel
theorem dc_188_19 : decode (sm_cc 188) 19 = .ok (.iload_n 1, 1) := by decide +kernel
theorem dc_188_20 : decode (sm_cc 188) 20 = .ok (.isub, 1) := by decide +kernel
theorem dc_188_21 : decode (sm_cc 188) 21 = .ok (.istore_n 2, 1) := by decide +kernel
theorem dc_188_22 : decode (sm_cc 188) 22 = .ok (.aload_n 0, 1) := by decide +kernel
theorem dc_188_23 : decode (sm_cc 188) 23 = .ok (.getfield 15, 3) := by decide +kernel
theorem fr_188_15 : sm_at mt_f (sm_ow 188) 15 = some (15, 9, 1, 0, 770) := by decide +kernel
theorem dc_188_26 : decode (sm_cc 188) 26 = .ok (.iload_n 2, 1) := by decide +kernel
theorem dc_188_27 : decode (sm_cc 188) 27 = .ok (.laload, 1) := by decide +kernel
theorem dc_188_28 : decode (sm_cc 188) 28 = .ok (.aload_n 0, 1) := by decide +kernel
theorem dc_188_29 : decode (sm_cc 188) 29 = .ok (.getfield 19, 3) := by decide +kernel
theorem fr_188_19 : sm_at mt_f (sm_ow 188) 19 = some (19, 9, 2, 0, 771) := by decide +kernel
theorem dc_188_32 : decode (sm_cc 188) 32 = .ok (.iload_n 2, 1) := by decide +kernel
theorem dc_188_33 : decode (sm_cc 188) 33 = .ok (.laload, 1) := by decide +kernel
theorem dc_188_34 : decode (sm_cc 188) 34 = .ok (.invokestatic 37, 3) := by decide +kernel
theorem kr_188_37 : sm_at mt_k (sm_ow 188) 37 = some (37, 3, 137, 1, 1384) := by decide +kernel
theorem dc_188_37 : decode (sm_cc 188) 37 = .ok (.istore_n 3, 1) := by decide +kernel
theorem dc_188_38 : decode (sm_cc 188) 38 = .ok (.aload_n 0, 1) := by decide +kernel
theorem dc_188_39 : decode (sm_cc 188) 39 = .ok (.dup, 1) := by decide +kernel
theorem dc_188_40 : decode (sm_cc 188) 40 = .ok (.getfield 22, 3) := by decide +kernel
theorem dc_188_43 : decode (sm_cc 188) 43 = .ok (.iconst 1, 1) := by decide +kernel
theorem dc_188_44 : decode (sm_cc 188) 44 = .ok (.isub, 1) := by decide +kernel
theorem dc_188_45 : decode (sm_cc 188) 45 = .ok (.putfield 22, 3) := by decide +kernel
theorem dc_188_48 : decode (sm_cc 188) 48 = .ok (.aload_n 0, 1) := by decide +kernel
theorem dc_188_49 : decode (sm_cc 188) 49 = .ok (.getfield 15, 3) := by decide +kernel
theorem dc_188_52 : decode (sm_cc 188) 52 = .ok (.iload_n 2, 1) := by decide +kernel
theorem dc_188_53 : decode (sm_cc 188) 53 = .ok (.aload_n 0, 1) := by decide +kernel
theorem dc_188_54 : decode (sm_cc 188) 54 = .ok (.getfield 15, 3) := by decide +kernel
theorem dc_188_57 : decode (sm_cc 188) 57 = .ok (.aload_n 0, 1) := by decide +kernel
theorem dc_188_58 : decode (sm_cc 188) 58 = .ok (.getfield 22, 3) := by decide +kernel
theorem dc_188_61 : decode (sm_cc 188) 61 = .ok (.laload, 1) := by decide +kernel
theorem dc_188_62 : decode (sm_cc 188) 62 = .ok (.lastore, 1) := by decide +kernel
theorem dc_188_63 : decode (sm_cc 188) 63 = .ok (.aload_n 0, 1) := by decide +kernel
theorem dc_188_64 : decode (sm_cc 188) 64 = .ok (.getfield 19, 3) := by decide +kernel
theorem dc_188_67 : decode (sm_cc 188) 67 = .ok (.iload_n 2, 1) := by decide +kernel
theorem dc_188_68 : decode (sm_cc 188) 68 = .ok (.aload_n 0, 1) := by decide +kernel
theorem dc_188_69 : decode (sm_cc 188) 69 = .ok (.getfield 19, 3) := by decide +kernel
theorem dc_188_72 : decode (sm_cc 188) 72 = .ok (.aload_n 0, 1) := by decide +kernel
theorem dc_188_73 : decode (sm_cc 188) 73 = .ok (.getfield 22, 3) := by decide +kernel
theorem dc_188_76 : decode (sm_cc 188) 76 = .ok (.laload, 1) := by decide +kernel
theorem dc_188_77 : decode (sm_cc 188) 77 = .ok (.lastore, 1) := by decide +kernel
theorem dc_188_78 : decode (sm_cc 188) 78 = .ok (.aload_n 0, 1) := by decide +kernel
theorem dc_188_79 : decode (sm_cc 188) 79 = .ok (.getfield 9, 3) := by decide +kernel
theorem fr_188_9 : sm_at mt_f (sm_ow 188) 9 = some (9, 9, 0, 0, 769) := by decide +kernel
theorem dc_188_82 : decode (sm_cc 188) 82 = .ok (.aload_n 0, 1) := by decide +kernel
theorem dc_188_83 : decode (sm_cc 188) 83 = .ok (.getfield 9, 3) := by decide +kernel
theorem dc_188_86 : decode (sm_cc 188) 86 = .ok (.getfield 50, 3) := by decide +kernel
theorem fr_188_50 : sm_at mt_f (sm_ow 188) 50 = some (50, 2, 3, 1, 378) := by decide +kernel
theorem dc_188_89 : decode (sm_cc 188) 89 = .ok (.iload_n 3, 1) := by decide +kernel
theorem dc_188_90 : decode (sm_cc 188) 90 = .ok (.invokevirtual 58, 3) := by decide +kernel
theorem kr_188_58 : sm_at mt_k (sm_ow 188) 58 = some (58, 1, 142, 1, 1403) := by decide +kernel
theorem dc_188_93 : decode (sm_cc 188) 93 = .ok (.return_, 1) := by decide +kernel
theorem rt_188 : sm_rt 188 = none := by decide +kernel
theorem dc_188_12 : decode (sm_cc 188) 12 = .ok (.return_, 1) := by decide +kernel
theorem ml_152 : sm_ml 152 = 4 := by decide +kernel
theorem dc_152_0 : decode (sm_cc 152) 0 = .ok (.aload_n 0, 1) := by decide +kernel
theorem dc_152_1 : decode (sm_cc 152) 1 = .ok (.iload_n 1, 1) := by decide +kernel
theorem dc_152_2 : decode (sm_cc 152) 2 = .ok (.invokevirtual 41, 3) := by decide +kernel
theorem ow_136 : 9 = sm_ow 136 := by decide +kernel
theorem kr_152_41 : sm_at mt_k (sm_ow 152) 41 = some (41, 0, 136, 0, 1380) := by decide +kernel
theorem np_136 : sm_np 136 = 1 := by decide +kernel
theorem dc_152_5 : decode (sm_cc 152) 5 = .ok (.istore_n 3, 1) := by decide +kernel
theorem dc_152_6 : decode (sm_cc 152) 6 = .ok (.aload_n 0, 1) := by decide +kernel
theorem dc_152_7 : decode (sm_cc 152) 7 = .ok (.getfield 9, 3) := by decide +kernel
theorem fr_152_9 : sm_at mt_f (sm_ow 152) 9 = some (9, 9, 0, 0, 769) := by decide +kernel
theorem dc_152_10 : decode (sm_cc 152) 10 = .ok (.iload_n 3, 1) := by decide +kernel
theorem dc_152_11 : decode (sm_cc 152) 11 = .ok (.invokevirtual 45, 3) := by decide +kernel
theorem ow_138 : 2 = sm_ow 138 := by decide +kernel
theorem kr_152_45 : sm_at mt_k (sm_ow 152) 45 = some (45, 1, 138, 1, 1388) := by decide +kernel
theorem np_138 : sm_np 138 = 1 := by decide +kernel
theorem dc_152_14 : decode (sm_cc 152) 14 = .ok (.iload_n 2, 1) := by decide +kernel
theorem dc_152_15 : decode (sm_cc 152) 15 = .ok (.if_icmp .ne (7), 3) := by decide +kernel
theorem dc_152_22 : decode (sm_cc 152) 22 = .ok (.iconst 0, 1) := by decide +kernel
theorem dc_152_23 : decode (sm_cc 152) 23 = .ok (.ireturn, 1) := by decide +kernel
theorem rt_152 : sm_rt 152 = some .int := by decide +kernel
theorem dc_152_18 : decode (sm_cc 152) 18 = .ok (.iload_n 3, 1) := by decide +kernel
theorem dc_152_19 : decode (sm_cc 152) 19 = .ok (.goto (4), 3) := by decide +kernel
theorem ml_131 : sm_ml 131 = 6 := by decide +kernel
theorem dc_131_0 : decode (sm_cc 131) 0 = .ok (.aload_n 0, 1) := by decide +kernel
theorem dc_131_1 : decode (sm_cc 131) 1 = .ok (.iload_n 1, 1) := by decide +kernel
theorem dc_131_2 : decode (sm_cc 131) 2 = .ok (.invokevirtual 30, 3) := by decide +kernel
theorem kr_131_30 : sm_at mt_k (sm_ow 131) 30 = some (30, 0, 132, 0, 1364) := by decide +kernel
theorem dc_131_5 : decode (sm_cc 131) 5 = .ok (.lstore_n 2, 1) := by decide +kernel
theorem dc_131_6 : decode (sm_cc 131) 6 = .ok (.lload_n 2, 1) := by decide +kernel
theorem dc_131_7 : decode (sm_cc 131) 7 = .ok (.invokestatic 65, 3) := by decide +kernel
theorem kr_131_65 : sm_at mt_k (sm_ow 131) 65 = some (65, 3, 134, 1, 1372) := by decide +kernel
theorem dc_131_10 : decode (sm_cc 131) 10 = .ok (.tableswitch (57) 1 3 #[26, 28, 44], 26) := by decide +kernel
theorem dc_131_36 : decode (sm_cc 131) 36 = .ok (.iconst 0, 1) := by decide +kernel
theorem dc_131_37 : decode (sm_cc 131) 37 = .ok (.ireturn, 1) := by decide +kernel
theorem rt_131 : sm_rt 131 = some .boolean := by decide +kernel
theorem dc_131_38 : decode (sm_cc 131) 38 = .ok (.aload_n 0, 1) := by decide +kernel
theorem dc_131_39 : decode (sm_cc 131) 39 = .ok (.iload_n 1, 1) := by decide +kernel
theorem dc_131_40 : decode (sm_cc 131) 40 = .ok (.invokevirtual 34, 3) := by decide +kernel
theorem kr_131_34 : sm_at mt_k (sm_ow 131) 34 = some (34, 0, 135, 0, 1375) := by decide +kernel
theorem dc_131_43 : decode (sm_cc 131) 43 = .ok (.lconst 0, 1) := by decide +kernel
theorem dc_131_44 : decode (sm_cc 131) 44 = .ok (.lcmp, 1) := by decide +kernel
theorem dc_131_45 : decode (sm_cc 131) 45 = .ok (.ifCond .eq (7), 3) := by decide +kernel
theorem dc_131_52 : decode (sm_cc 131) 52 = .ok (.iconst 0, 1) := by decide +kernel
theorem dc_131_53 : decode (sm_cc 131) 53 = .ok (.ireturn, 1) := by decide +kernel
theorem dc_131_48 : decode (sm_cc 131) 48 = .ok (.iconst 1, 1) := by decide +kernel
theorem dc_131_49 : decode (sm_cc 131) 49 = .ok (.goto (4), 3) := by decide +kernel
theorem dc_131_54 : decode (sm_cc 131) 54 = .ok (.lload_n 2, 1) := by decide +kernel
theorem dc_131_55 : decode (sm_cc 131) 55 = .ok (.invokestatic 69, 3) := by decide +kernel
theorem kr_131_69 : sm_at mt_k (sm_ow 131) 69 = some (69, 3, 47, 1, 1379) := by decide +kernel
theorem dc_131_58 : decode (sm_cc 131) 58 = .ok (.ifCond .le (7), 3) := by decide +kernel
theorem dc_131_65 : decode (sm_cc 131) 65 = .ok (.iconst 0, 1) := by decide +kernel
theorem dc_131_66 : decode (sm_cc 131) 66 = .ok (.ireturn, 1) := by decide +kernel
theorem dc_131_61 : decode (sm_cc 131) 61 = .ok (.iconst 1, 1) := by decide +kernel
theorem dc_131_62 : decode (sm_cc 131) 62 = .ok (.goto (4), 3) := by decide +kernel
theorem dc_131_67 : decode (sm_cc 131) 67 = .ok (.aload_n 0, 1) := by decide +kernel
theorem dc_131_68 : decode (sm_cc 131) 68 = .ok (.iload_n 1, 1) := by decide +kernel
theorem dc_131_69 : decode (sm_cc 131) 69 = .ok (.invokevirtual 41, 3) := by decide +kernel
theorem kr_131_41 : sm_at mt_k (sm_ow 131) 41 = some (41, 0, 136, 0, 1380) := by decide +kernel
theorem dc_131_72 : decode (sm_cc 131) 72 = .ok (.istore 4, 2) := by decide +kernel
theorem dc_131_74 : decode (sm_cc 131) 74 = .ok (.aload_n 0, 1) := by decide +kernel
theorem dc_131_75 : decode (sm_cc 131) 75 = .ok (.getfield 9, 3) := by decide +kernel
theorem fr_131_9 : sm_at mt_f (sm_ow 131) 9 = some (9, 9, 0, 0, 769) := by decide +kernel
theorem dc_131_78 : decode (sm_cc 131) 78 = .ok (.iload 4, 2) := by decide +kernel
theorem dc_131_80 : decode (sm_cc 131) 80 = .ok (.invokevirtual 45, 3) := by decide +kernel
theorem kr_131_45 : sm_at mt_k (sm_ow 131) 45 = some (45, 1, 138, 1, 1388) := by decide +kernel
theorem dc_131_83 : decode (sm_cc 131) 83 = .ok (.istore 5, 2) := by decide +kernel
theorem dc_131_85 : decode (sm_cc 131) 85 = .ok (.iload 5, 2) := by decide +kernel
theorem dc_131_87 : decode (sm_cc 131) 87 = .ok (.iconst 1, 1) := by decide +kernel
theorem dc_131_88 : decode (sm_cc 131) 88 = .ok (.if_icmp .eq (9), 3) := by decide +kernel
theorem dc_131_97 : decode (sm_cc 131) 97 = .ok (.aload_n 0, 1) := by decide +kernel
theorem dc_131_98 : decode (sm_cc 131) 98 = .ok (.getfield 9, 3) := by decide +kernel
theorem dc_131_101 : decode (sm_cc 131) 101 = .ok (.iload 4, 2) := by decide +kernel
theorem dc_131_103 : decode (sm_cc 131) 103 = .ok (.invokevirtual 72, 3) := by decide +kernel
theorem ow_140 : 2 = sm_ow 140 := by decide +kernel
theorem kr_131_72 : sm_at mt_k (sm_ow 131) 72 = some (72, 1, 140, 1, 1395) := by decide +kernel
theorem np_140 : sm_np 140 = 1 := by decide +kernel
theorem dc_131_106 : decode (sm_cc 131) 106 = .ok (.ifCond .le (7), 3) := by decide +kernel
theorem dc_131_113 : decode (sm_cc 131) 113 = .ok (.iconst 0, 1) := by decide +kernel
theorem dc_131_114 : decode (sm_cc 131) 114 = .ok (.ireturn, 1) := by decide +kernel
theorem dc_131_109 : decode (sm_cc 131) 109 = .ok (.iconst 1, 1) := by decide +kernel
theorem dc_131_110 : decode (sm_cc 131) 110 = .ok (.goto (4), 3) := by decide +kernel
theorem dc_131_91 : decode (sm_cc 131) 91 = .ok (.iload 5, 2) := by decide +kernel
theorem dc_131_93 : decode (sm_cc 131) 93 = .ok (.iconst 2, 1) := by decide +kernel
theorem dc_131_94 : decode (sm_cc 131) 94 = .ok (.if_icmp .ne (15), 3) := by decide +kernel
theorem Bod.lldnG {d j pc : Nat} {lv : sm_L} {st : List Value} {S Sf : cS} {v : Option Value} {q : Fin 4} {x : Int64} (hd : decode (sm_cc j) pc = .ok (.lload_n q, 1)) (hg : sm_get lv q = some (.long x)) (h : Bod d j (pc + 1) lv (.long x :: st) S v Sf) : Bod d j pc lv st S v Sf := Bod.of (fun _ _ => sx_go hd (sd_loc (by rcases st with _ | ⟨a, _ | ⟨b, st⟩⟩ <;> rfl) (by
  unfold sm_loc
  rcases st with _ | ⟨a, st⟩ <;> simp only [hg]))) h
theorem mPo_1 {d : Nat} {S Sf : cS} {v : Option Value} {nv : Nat} (mnv : nv < 2 ^ 20) (hB : ∀ lv1 : sm_L, sm_get lv1 0 = some (.ref 46) → sm_get lv1 1 = some (.int (nI nv)) → sm_get lv1 2 = some (.int (nI 0)) → Bod (d + 8) 141 2 lv1 [] (S) v Sf) : Bod (d + 8) 141 0 [(0, .ref 46), (1, .int (nI nv))] [] S v Sf := by
  refine Bod.ic 0 (by decide) dc_141_0 ?_
  refine Bod.istn dc_141_1 (by rw [ml_141]; exact Nat.le_of_ble_eq_true rfl) ?_
  exact hB _ (by first | rfl | exact (by repeat (first | exact rfl | exact sm_get_p1 | exact sm_get_p2e | refine sm_get_p1m (by decide) (by decide) ?_ | refine sm_get_p1n (by decide) rfl ?_ | refine sm_get_p2n (by decide) (by decide) rfl ?_))) (by first | rfl | exact (by repeat (first | exact rfl | exact sm_get_p1 | exact sm_get_p2e | refine sm_get_p1m (by decide) (by decide) ?_ | refine sm_get_p1n (by decide) rfl ?_ | refine sm_get_p2n (by decide) (by decide) rfl ?_))) (by first | rfl | exact (by repeat (first | exact rfl | exact sm_get_p1 | exact sm_get_p2e | refine sm_get_p1m (by decide) (by decide) ?_ | refine sm_get_p1n (by decide) rfl ?_ | refine sm_get_p2n (by decide) (by decide) rfl ?_)))
theorem mPoL_1 {d : Nat} {S : cS} {lv : sm_L} {nv : Nat} {ni : Nat} (q0 : sm_get lv 0 = some (.ref 46)) (q1 : sm_get lv 1 = some (.int (nI nv))) (q2 : sm_get lv 2 = some (.int (nI ni))) (mnv : nv < 2 ^ 20) (mni : ni < 2 ^ 20) (b1 : nv ≤ ni) : Bod (d + 8) 141 2 lv [] S none (S) := by
  refine Bod.ildnG dc_141_2 (by repeat (first | exact q2 | exact sm_get_p1 | exact sm_get_p2e | refine sm_get_p1m (by decide) (by decide) ?_ | refine sm_get_p1n (by decide) rfl ?_ | refine sm_get_p2n (by decide) (by decide) rfl ?_)) ?_
  refine Bod.ildnG dc_141_3 (by repeat (first | exact q1 | exact sm_get_p1 | exact sm_get_p2e | refine sm_get_p1m (by decide) (by decide) ?_ | refine sm_get_p1n (by decide) rfl ?_ | refine sm_get_p2n (by decide) (by decide) rfl ?_)) ?_
  refine Bod.icT dc_141_4 rfl (k2_ge_T ni nv rfl rfl (by omega) (by omega)) ?_
  exact Bod.retV dc_141_75 rt_141
theorem mPoL_2 {d : Nat} {S : cS} {lv : sm_L} {nv : Nat} {ni : Nat} {t : Nat} (q0 : sm_get lv 0 = some (.ref 46)) (q1 : sm_get lv 1 = some (.int (nI nv))) (q2 : sm_get lv 2 = some (.int (nI ni))) (mnv : nv < 2 ^ 20) (mni : ni < 2 ^ 20) (b1 : ni < nv) (ht : sI S 4603 = nI t) (mt : t < 20481) (b2 : t ≤ 0) : Bod (d + 8) 141 2 lv [] S none (S) := by
  refine Bod.ildnG dc_141_2 (by repeat (first | exact q2 | exact sm_get_p1 | exact sm_get_p2e | refine sm_get_p1m (by decide) (by decide) ?_ | refine sm_get_p1n (by decide) rfl ?_ | refine sm_get_p2n (by decide) (by decide) rfl ?_)) ?_
  refine Bod.ildnG dc_141_3 (by repeat (first | exact q1 | exact sm_get_p1 | exact sm_get_p2e | refine sm_get_p1m (by decide) (by decide) ?_ | refine sm_get_p1n (by decide) rfl ?_ | refine sm_get_p2n (by decide) (by decide) rfl ?_)) ?_
  refine Bod.icF dc_141_4 rfl (k2_ge_F ni nv rfl rfl (by omega) (by omega)) ?_
  refine Bod.aldnG dc_141_7 (by repeat (first | exact q0 | exact sm_get_p1 | exact sm_get_p2e | refine sm_get_p1m (by decide) (by decide) ?_ | refine sm_get_p1n (by decide) rfl ?_ | refine sm_get_p2n (by decide) (by decide) rfl ?_)) ?_
  refine Bod.get dc_141_8 fr_141_22 (mk_46 _) rfl ?_
  refine Bod.eqI (nI t) (by first | assumption | rfl | exact congrArg nI (by omega) | (simp (disch := omega) only [rI, rIe, rA, rIA, rLA, rJA, rVI, rQI, rVA, rQA, upd_at,  rAI, rLI, rJI, nI_add, pk_sub, kc_0, kc_1, kc_2, kc_3, kc_4, kc_5, reduceIte, Nat.reduceEqDiff, Nat.add_zero, rI_hold, rI_hold, rL_hold, ht]; done)) ?_
  refine Bod.ifT dc_141_11 rfl (k1_le_T (k_eq t 0 (by first | assumption | rfl | exact congrArg nI (by omega) | (simp (disch := omega) only [rI, rIe, rA, rIA, rLA, rJA, rVI, rQI, rVA, rQA, upd_at,  rAI, rLI, rJI, nI_add, pk_sub, kc_0, kc_1, kc_2, kc_3, kc_4, kc_5, reduceIte, Nat.reduceEqDiff, Nat.add_zero, rI_hold, rI_hold, rL_hold, ht]; done)) rfl (by omega))) ?_
  exact Bod.retV dc_141_75 rt_141
theorem mPoL_3 {d : Nat} {S : cS} {lv : sm_L} {nv : Nat} {ni : Nat} {t : Nat} (q0 : sm_get lv 0 = some (.ref 46)) (q1 : sm_get lv 1 = some (.int (nI nv))) (q2 : sm_get lv 2 = some (.int (nI ni))) (mnv : nv < 2 ^ 20) (mni : ni < 2 ^ 20) (b1 : ni < nv) (ht : sI S 4603 = nI t) (mt : t < 20481) (b2 : 0 < t) (b3 : 20480 < t) : Bod (d + 8) 141 2 lv [] S none (S) := by
  refine Bod.ildnG dc_141_2 (by repeat (first | exact q2 | exact sm_get_p1 | exact sm_get_p2e | refine sm_get_p1m (by decide) (by decide) ?_ | refine sm_get_p1n (by decide) rfl ?_ | refine sm_get_p2n (by decide) (by decide) rfl ?_)) ?_
  refine Bod.ildnG dc_141_3 (by repeat (first | exact q1 | exact sm_get_p1 | exact sm_get_p2e | refine sm_get_p1m (by decide) (by decide) ?_ | refine sm_get_p1n (by decide) rfl ?_ | refine sm_get_p2n (by decide) (by decide) rfl ?_)) ?_
  refine Bod.icF dc_141_4 rfl (k2_ge_F ni nv rfl rfl (by omega) (by omega)) ?_
  refine Bod.aldnG dc_141_7 (by repeat (first | exact q0 | exact sm_get_p1 | exact sm_get_p2e | refine sm_get_p1m (by decide) (by decide) ?_ | refine sm_get_p1n (by decide) rfl ?_ | refine sm_get_p2n (by decide) (by decide) rfl ?_)) ?_
  refine Bod.get dc_141_8 fr_141_22 (mk_46 _) rfl ?_
  refine Bod.eqI (nI t) (by first | assumption | rfl | exact congrArg nI (by omega) | (simp (disch := omega) only [rI, rIe, rA, rIA, rLA, rJA, rVI, rQI, rVA, rQA, upd_at,  rAI, rLI, rJI, nI_add, pk_sub, kc_0, kc_1, kc_2, kc_3, kc_4, kc_5, reduceIte, Nat.reduceEqDiff, Nat.add_zero, rI_hold, rI_hold, rL_hold, ht]; done)) ?_
  refine Bod.ifF dc_141_11 rfl (k1_le_F t rfl (by omega) (by omega)) ?_
  refine Bod.aldnG dc_141_14 (by repeat (first | exact q0 | exact sm_get_p1 | exact sm_get_p2e | refine sm_get_p1m (by decide) (by decide) ?_ | refine sm_get_p1n (by decide) rfl ?_ | refine sm_get_p2n (by decide) (by decide) rfl ?_)) ?_
  refine Bod.get dc_141_15 fr_141_22 (mk_46 _) rfl ?_
  refine Bod.eqI (nI t) (by first | assumption | rfl | exact congrArg nI (by omega) | (simp (disch := omega) only [rI, rIe, rA, rIA, rLA, rJA, rVI, rQI, rVA, rQA, upd_at,  rAI, rLI, rJI, nI_add, pk_sub, kc_0, kc_1, kc_2, kc_3, kc_4, kc_5, reduceIte, Nat.reduceEqDiff, Nat.add_zero, rI_hold, rI_hold, rL_hold, ht]; done)) ?_
  refine Bod.sip 20480 (by decide) dc_141_18 ?_
  refine Bod.icT dc_141_21 rfl (k2_gt_T t 20480 rfl rfl (by omega) (by omega)) ?_
  exact Bod.retV dc_141_75 rt_141
theorem mPoL_4 {d : Nat} {S Sf : cS} {v : Option Value} {lv : sm_L} {nv : Nat} {ni : Nat} {t : Nat} {S1 : cS} {rb : Int32} {S2 : cS} (q0 : sm_get lv 0 = some (.ref 46)) (q1 : sm_get lv 1 = some (.int (nI nv))) (q2 : sm_get lv 2 = some (.int (nI ni))) (mnv : nv < 2 ^ 20) (mni : ni < 2 ^ 20) (b1 : ni < nv) (ht : sI S 4603 = nI t) (mt : t < 20481) (b2 : 0 < t) (b3 : t ≤ 20480) (b4 : 1 ≤ t) (c1 : Ans (d + 8) 137 [.long (sL (wI 4603 (nI (t - 1)) S) 47 (t - 1)), .long (sL (wI 4603 (nI (t - 1)) S) 48 (t - 1))] (wI 4603 (nI (t - 1)) S) (some (.int rb)) S1) (c2 : Ans (d + 8) 142 [.ref 2, .ref 6, .int rb] S1 none S2) (hB : ∀ lv1 : sm_L, sm_get lv1 0 = some (.ref 46) → sm_get lv1 1 = some (.int (nI nv)) → sm_get lv1 2 = some (.int (nI (ni + 1))) → Bod (d + 8) 141 2 lv1 [] (S2) v Sf) : Bod (d + 8) 141 2 lv [] S v Sf := by
  refine Bod.ildnG dc_141_2 (by repeat (first | exact q2 | exact sm_get_p1 | exact sm_get_p2e | refine sm_get_p1m (by decide) (by decide) ?_ | refine sm_get_p1n (by decide) rfl ?_ | refine sm_get_p2n (by decide) (by decide) rfl ?_)) ?_
  refine Bod.ildnG dc_141_3 (by repeat (first | exact q1 | exact sm_get_p1 | exact sm_get_p2e | refine sm_get_p1m (by decide) (by decide) ?_ | refine sm_get_p1n (by decide) rfl ?_ | refine sm_get_p2n (by decide) (by decide) rfl ?_)) ?_
  refine Bod.icF dc_141_4 rfl (k2_ge_F ni nv rfl rfl (by omega) (by omega)) ?_
  refine Bod.aldnG dc_141_7 (by repeat (first | exact q0 | exact sm_get_p1 | exact sm_get_p2e | refine sm_get_p1m (by decide) (by decide) ?_ | refine sm_get_p1n (by decide) rfl ?_ | refine sm_get_p2n (by decide) (by decide) rfl ?_)) ?_
  refine Bod.get dc_141_8 fr_141_22 (mk_46 _) rfl ?_
  refine Bod.eqI (nI t) (by first | assumption | rfl | exact congrArg nI (by omega) | (simp (disch := omega) only [rI, rIe, rA, rIA, rLA, rJA, rVI, rQI, rVA, rQA, upd_at,  rAI, rLI, rJI, nI_add, pk_sub, kc_0, kc_1, kc_2, kc_3, kc_4, kc_5, reduceIte, Nat.reduceEqDiff, Nat.add_zero, rI_hold, rI_hold, rL_hold, ht]; done)) ?_
  refine Bod.ifF dc_141_11 rfl (k1_le_F t rfl (by omega) (by omega)) ?_
  refine Bod.aldnG dc_141_14 (by repeat (first | exact q0 | exact sm_get_p1 | exact sm_get_p2e | refine sm_get_p1m (by decide) (by decide) ?_ | refine sm_get_p1n (by decide) rfl ?_ | refine sm_get_p2n (by decide) (by decide) rfl ?_)) ?_
  refine Bod.get dc_141_15 fr_141_22 (mk_46 _) rfl ?_
  refine Bod.eqI (nI t) (by first | assumption | rfl | exact congrArg nI (by omega) | (simp (disch := omega) only [rI, rIe, rA, rIA, rLA, rJA, rVI, rQI, rVA, rQA, upd_at,  rAI, rLI, rJI, nI_add, pk_sub, kc_0, kc_1, kc_2, kc_3, kc_4, kc_5, reduceIte, Nat.reduceEqDiff, Nat.add_zero, rI_hold, rI_hold, rL_hold, ht]; done)) ?_
  refine Bod.sip 20480 (by decide) dc_141_18 ?_
  refine Bod.icF dc_141_21 rfl (k2_gt_F t 20480 rfl rfl (by omega) (by omega)) ?_
  refine Bod.aldnG dc_141_24 (by repeat (first | exact q0 | exact sm_get_p1 | exact sm_get_p2e | refine sm_get_p1m (by decide) (by decide) ?_ | refine sm_get_p1n (by decide) rfl ?_ | refine sm_get_p2n (by decide) (by decide) rfl ?_)) ?_
  refine Bod.go dc_141_25 rfl ?_
  refine Bod.get dc_141_26 fr_141_22 (mk_46 _) rfl ?_
  refine Bod.eqI (nI t) (by first | assumption | rfl | exact congrArg nI (by omega) | (simp (disch := omega) only [rI, rIe, rA, rIA, rLA, rJA, rVI, rQI, rVA, rQA, upd_at,  rAI, rLI, rJI, nI_add, pk_sub, kc_0, kc_1, kc_2, kc_3, kc_4, kc_5, reduceIte, Nat.reduceEqDiff, Nat.add_zero, rI_hold, rI_hold, rL_hold, ht]; done)) ?_
  refine Bod.ic 1 (by decide) dc_141_29 ?_
  refine Bod.subN (t - 1) (by omega) (by omega) dc_141_30 ?_
  refine Bod.put dc_141_31 fr_141_22 (mk_46 _) (Nat.le_of_ble_eq_true rfl) pf_9_3 (st_4603 _ _) (mu_I _ _ _) ?_
  refine Bod.aldnG dc_141_34 (by repeat (first | exact q0 | exact sm_get_p1 | exact sm_get_p2e | refine sm_get_p1m (by decide) (by decide) ?_ | refine sm_get_p1n (by decide) rfl ?_ | refine sm_get_p2n (by decide) (by decide) rfl ?_)) ?_
  refine Bod.get dc_141_35 fr_141_9 (mk_46 _) rfl ?_
  refine Bod.aldnG dc_141_38 (by repeat (first | exact q0 | exact sm_get_p1 | exact sm_get_p2e | refine sm_get_p1m (by decide) (by decide) ?_ | refine sm_get_p1n (by decide) rfl ?_ | refine sm_get_p2n (by decide) (by decide) rfl ?_)) ?_
  refine Bod.get dc_141_39 fr_141_9 (mk_46 _) rfl ?_
  refine Bod.get dc_141_42 fr_141_50 (mk_2 _) rfl ?_
  refine Bod.aldnG dc_141_45 (by repeat (first | exact q0 | exact sm_get_p1 | exact sm_get_p2e | refine sm_get_p1m (by decide) (by decide) ?_ | refine sm_get_p1n (by decide) rfl ?_ | refine sm_get_p2n (by decide) (by decide) rfl ?_)) ?_
  refine Bod.get dc_141_46 fr_141_15 (mk_46 _) rfl ?_
  refine Bod.aldnG dc_141_49 (by repeat (first | exact q0 | exact sm_get_p1 | exact sm_get_p2e | refine sm_get_p1m (by decide) (by decide) ?_ | refine sm_get_p1n (by decide) rfl ?_ | refine sm_get_p2n (by decide) (by decide) rfl ?_)) ?_
  refine Bod.get dc_141_50 fr_141_22 (mk_46 _) rfl ?_
  refine Bod.eqI (nI (t - 1)) (by first | (simp (disch := omega) only [rI, rIe, rA, rIA, rLA, rJA, rVI, rQI, rVA, rQA, upd_at,  rAI, rLI, rJI, nI_add, pk_sub, kc_0, kc_1, kc_2, kc_3, kc_4, kc_5, reduceIte, Nat.reduceEqDiff, Nat.add_zero, rI_hold, rI_hold, rL_hold, ht]; done) | (simp (disch := omega) only [rI, rIe, rA, rIA, rLA, rJA, rVI, rQI, rVA, rQA, upd_at,  rAI, rLI, rJI, nI_add, pk_sub, kc_0, kc_1, kc_2, kc_3, kc_4, kc_5, reduceIte, Nat.reduceEqDiff, Nat.add_zero, rI_hold, rI_hold, rL_hold, ht]; exact congrArg nI (by omega))) ?_
  refine Bod.laldN (t - 1) rfl (by omega) (by omega) dc_141_53 (mk_47 _) ?_
  refine Bod.aldnG dc_141_54 (by repeat (first | exact q0 | exact sm_get_p1 | exact sm_get_p2e | refine sm_get_p1m (by decide) (by decide) ?_ | refine sm_get_p1n (by decide) rfl ?_ | refine sm_get_p2n (by decide) (by decide) rfl ?_)) ?_
  refine Bod.get dc_141_55 fr_141_19 (mk_46 _) rfl ?_
  refine Bod.aldnG dc_141_58 (by repeat (first | exact q0 | exact sm_get_p1 | exact sm_get_p2e | refine sm_get_p1m (by decide) (by decide) ?_ | refine sm_get_p1n (by decide) rfl ?_ | refine sm_get_p2n (by decide) (by decide) rfl ?_)) ?_
  refine Bod.get dc_141_59 fr_141_22 (mk_46 _) rfl ?_
  refine Bod.eqI (nI (t - 1)) (by first | (simp (disch := omega) only [rI, rIe, rA, rIA, rLA, rJA, rVI, rQI, rVA, rQA, upd_at,  rAI, rLI, rJI, nI_add, pk_sub, kc_0, kc_1, kc_2, kc_3, kc_4, kc_5, reduceIte, Nat.reduceEqDiff, Nat.add_zero, rI_hold, rI_hold, rL_hold, ht]; done) | (simp (disch := omega) only [rI, rIe, rA, rIA, rLA, rJA, rVI, rQI, rVA, rQA, upd_at,  rAI, rLI, rJI, nI_add, pk_sub, kc_0, kc_1, kc_2, kc_3, kc_4, kc_5, reduceIte, Nat.reduceEqDiff, Nat.add_zero, rI_hold, rI_hold, rL_hold, ht]; exact congrArg nI (by omega))) ?_
  refine Bod.laldN (t - 1) rfl (by omega) (by omega) dc_141_62 (mk_48 _) ?_
  refine Bod.stat (r := [_, _]) dc_141_63 kr_141_37 (Or.inr rfl) (by rw [np_137]; rfl) (by rw [np_137]; rfl) (by rw [np_137]; exact Nat.le_of_ble_eq_true rfl) (Nat.le_of_ble_eq_true rfl) (c1  ) ?_
  show Bod _ _ _ _ [_, _, _] _ _ _
  refine Bod.virt (r := []) dc_141_66 kr_141_58 ⟨Or.inr rfl, ow_142, cl_2⟩ (by rw [np_142]; rfl) (by rw [np_142]; rfl) (ob_of (mk_2 _)) (Nat.le_of_ble_eq_true rfl) (c2  ) ?_
  show Bod _ _ _ _ [] _ _ _
  refine Bod.incN (ni + 1) (by rw [kc_1, nI_add]) dc_141_69 (by rw [ml_141]; exact Nat.le_of_ble_eq_true rfl) (by repeat (first | exact q2 | exact sm_get_p1 | exact sm_get_p2e | refine sm_get_p1m (by decide) (by decide) ?_ | refine sm_get_p1n (by decide) rfl ?_ | refine sm_get_p2n (by decide) (by decide) rfl ?_)) ?_
  refine Bod.go dc_141_72 rfl ?_
  exact hB _ (by repeat (first | exact q0 | exact sm_get_p1 | exact sm_get_p2e | refine sm_get_p1m (by decide) (by decide) ?_ | refine sm_get_p1n (by decide) rfl ?_ | refine sm_get_p2n (by decide) (by decide) rfl ?_)) (by repeat (first | exact q1 | exact sm_get_p1 | exact sm_get_p2e | refine sm_get_p1m (by decide) (by decide) ?_ | refine sm_get_p1n (by decide) rfl ?_ | refine sm_get_p2n (by decide) (by decide) rfl ?_)) (by repeat (first | exact q0 | exact sm_get_p1 | exact sm_get_p2e | refine sm_get_p1m (by decide) (by decide) ?_ | refine sm_get_p1n (by decide) rfl ?_ | refine sm_get_p2n (by decide) (by decide) rfl ?_))
theorem mGi_1 {d : Nat} {S Sf : cS} {v : Option Value} {nv : Nat} {xh : Int64} {xl : Int64} {S1 : cS} {rb : Int32} {S2 : cS} (mnv : nv < 2 ^ 20) (c1 : Ans (d + 8) 137 [.long xh, .long xl] S (some (.int rb)) S1) (c2 : Ans (d + 8) 149 [.ref 2, .ref 6, .int rb] S1 none S2) (hB : ∀ lv1 : sm_L, sm_get lv1 0 = some (.ref 46) → sm_get lv1 1 = some (.int (nI nv)) → sm_get lv1 2 = some (.long xh) → sm_get lv1 4 = some (.long xl) → sm_get lv1 6 = some (.int (nI 0)) → Bod (d + 8) 148 23 lv1 [] (S2) v Sf) : Bod (d + 8) 148 0 [(0, .ref 46), (1, .int (nI nv)), (2, .long xh), (4, .long xl)] [] S v Sf := by
  refine Bod.go dc_148_0 rfl ?_
  refine Bod.get dc_148_1 fr_148_9 (mk_46 _) rfl ?_
  refine Bod.go dc_148_4 rfl ?_
  refine Bod.get dc_148_5 fr_148_9 (mk_46 _) rfl ?_
  refine Bod.get dc_148_8 fr_148_50 (mk_2 _) rfl ?_
  refine Bod.go dc_148_11 rfl ?_
  refine Bod.go dc_148_12 rfl ?_
  refine Bod.stat (r := [_, _]) dc_148_14 kr_148_37 (Or.inr rfl) (by rw [np_137]; rfl) (by rw [np_137]; rfl) (by rw [np_137]; exact Nat.le_of_ble_eq_true rfl) (Nat.le_of_ble_eq_true rfl) (c1  ) ?_
  show Bod _ _ _ _ [_, _, _] _ _ _
  refine Bod.virt (r := []) dc_148_17 kr_148_54 ⟨Or.inr rfl, ow_149, cl_2⟩ (by rw [np_149]; rfl) (by rw [np_149]; rfl) (ob_of (mk_2 _)) (Nat.le_of_ble_eq_true rfl) (c2  ) ?_
  show Bod _ _ _ _ [] _ _ _
  refine Bod.ic 0 (by decide) dc_148_20 ?_
  refine Bod.ist dc_148_21 (by rw [ml_148]; exact Nat.le_of_ble_eq_true rfl) ?_
  exact hB _ (by first | rfl | exact (by repeat (first | exact rfl | exact sm_get_p1 | exact sm_get_p2e | refine sm_get_p1m (by decide) (by decide) ?_ | refine sm_get_p1n (by decide) rfl ?_ | refine sm_get_p2n (by decide) (by decide) rfl ?_))) (by first | rfl | exact (by repeat (first | exact rfl | exact sm_get_p1 | exact sm_get_p2e | refine sm_get_p1m (by decide) (by decide) ?_ | refine sm_get_p1n (by decide) rfl ?_ | refine sm_get_p2n (by decide) (by decide) rfl ?_))) (by first | rfl | exact (by repeat (first | exact rfl | exact sm_get_p1 | exact sm_get_p2e | refine sm_get_p1m (by decide) (by decide) ?_ | refine sm_get_p1n (by decide) rfl ?_ | refine sm_get_p2n (by decide) (by decide) rfl ?_))) (by first | rfl | exact (by repeat (first | exact rfl | exact sm_get_p1 | exact sm_get_p2e | refine sm_get_p1m (by decide) (by decide) ?_ | refine sm_get_p1n (by decide) rfl ?_ | refine sm_get_p2n (by decide) (by decide) rfl ?_))) (by first | rfl | exact (by repeat (first | exact rfl | exact sm_get_p1 | exact sm_get_p2e | refine sm_get_p1m (by decide) (by decide) ?_ | refine sm_get_p1n (by decide) rfl ?_ | refine sm_get_p2n (by decide) (by decide) rfl ?_)))
theorem mGiL_1 {d : Nat} {S Sf : cS} {v : Option Value} {lv : sm_L} {nv : Nat} {xh : Int64} {xl : Int64} {ni : Nat} (q0 : sm_get lv 0 = some (.ref 46)) (q1 : sm_get lv 1 = some (.int (nI nv))) (q2 : sm_get lv 2 = some (.long xh)) (q4 : sm_get lv 4 = some (.long xl)) (q6 : sm_get lv 6 = some (.int (nI ni))) (mnv : nv < 2 ^ 20) (mni : ni < 2 ^ 20) (b1 : nv ≤ ni) (hB : ∀ lv1 : sm_L, sm_get lv1 0 = some (.ref 46) → sm_get lv1 2 = some (.long xh) → sm_get lv1 4 = some (.long xl) → Bod (d + 8) 148 97 lv1 [] (S) v Sf) : Bod (d + 8) 148 23 lv [] S v Sf := by
  refine Bod.ildG dc_148_23 (by repeat (first | exact q6 | exact sm_get_p1 | exact sm_get_p2e | refine sm_get_p1m (by decide) (by decide) ?_ | refine sm_get_p1n (by decide) rfl ?_ | refine sm_get_p2n (by decide) (by decide) rfl ?_)) ?_
  refine Bod.ildnG dc_148_25 (by repeat (first | exact q1 | exact sm_get_p1 | exact sm_get_p2e | refine sm_get_p1m (by decide) (by decide) ?_ | refine sm_get_p1n (by decide) rfl ?_ | refine sm_get_p2n (by decide) (by decide) rfl ?_)) ?_
  refine Bod.icT dc_148_26 rfl (k2_ge_T ni nv rfl rfl (by omega) (by omega)) ?_
  exact hB _ (by repeat (first | exact q0 | exact sm_get_p1 | exact sm_get_p2e | refine sm_get_p1m (by decide) (by decide) ?_ | refine sm_get_p1n (by decide) rfl ?_ | refine sm_get_p2n (by decide) (by decide) rfl ?_)) (by repeat (first | exact q2 | exact sm_get_p1 | exact sm_get_p2e | refine sm_get_p1m (by decide) (by decide) ?_ | refine sm_get_p1n (by decide) rfl ?_ | refine sm_get_p2n (by decide) (by decide) rfl ?_)) (by repeat (first | exact q4 | exact sm_get_p1 | exact sm_get_p2e | refine sm_get_p1m (by decide) (by decide) ?_ | refine sm_get_p1n (by decide) rfl ?_ | refine sm_get_p2n (by decide) (by decide) rfl ?_))
theorem mGiL_2 {d : Nat} {S Sf : cS} {v : Option Value} {lv : sm_L} {nv : Nat} {xh : Int64} {xl : Int64} {ni : Nat} {t : Nat} (q0 : sm_get lv 0 = some (.ref 46)) (q1 : sm_get lv 1 = some (.int (nI nv))) (q2 : sm_get lv 2 = some (.long xh)) (q4 : sm_get lv 4 = some (.long xl)) (q6 : sm_get lv 6 = some (.int (nI ni))) (mnv : nv < 2 ^ 20) (mni : ni < 2 ^ 20) (b1 : ni < nv) (ht : sI S 4603 = nI t) (mt : t < 20481) (b2 : t ≤ 0) (hB : ∀ lv1 : sm_L, sm_get lv1 0 = some (.ref 46) → sm_get lv1 2 = some (.long xh) → sm_get lv1 4 = some (.long xl) → Bod (d + 8) 148 97 lv1 [] (S) v Sf) : Bod (d + 8) 148 23 lv [] S v Sf := by
  refine Bod.ildG dc_148_23 (by repeat (first | exact q6 | exact sm_get_p1 | exact sm_get_p2e | refine sm_get_p1m (by decide) (by decide) ?_ | refine sm_get_p1n (by decide) rfl ?_ | refine sm_get_p2n (by decide) (by decide) rfl ?_)) ?_
  refine Bod.ildnG dc_148_25 (by repeat (first | exact q1 | exact sm_get_p1 | exact sm_get_p2e | refine sm_get_p1m (by decide) (by decide) ?_ | refine sm_get_p1n (by decide) rfl ?_ | refine sm_get_p2n (by decide) (by decide) rfl ?_)) ?_
  refine Bod.icF dc_148_26 rfl (k2_ge_F ni nv rfl rfl (by omega) (by omega)) ?_
  refine Bod.aldnG dc_148_29 (by repeat (first | exact q0 | exact sm_get_p1 | exact sm_get_p2e | refine sm_get_p1m (by decide) (by decide) ?_ | refine sm_get_p1n (by decide) rfl ?_ | refine sm_get_p2n (by decide) (by decide) rfl ?_)) ?_
  refine Bod.get dc_148_30 fr_148_22 (mk_46 _) rfl ?_
  refine Bod.eqI (nI t) (by first | assumption | rfl | exact congrArg nI (by omega) | (simp (disch := omega) only [rI, rIe, rA, rIA, rLA, rJA, rVI, rQI, rVA, rQA, upd_at,  rAI, rLI, rJI, nI_add, pk_sub, kc_0, kc_1, kc_2, kc_3, kc_4, kc_5, reduceIte, Nat.reduceEqDiff, Nat.add_zero, rI_hold, rI_hold, rL_hold, ht]; done)) ?_
  refine Bod.ifT dc_148_33 rfl (k1_le_T (k_eq t 0 (by first | assumption | rfl | exact congrArg nI (by omega) | (simp (disch := omega) only [rI, rIe, rA, rIA, rLA, rJA, rVI, rQI, rVA, rQA, upd_at,  rAI, rLI, rJI, nI_add, pk_sub, kc_0, kc_1, kc_2, kc_3, kc_4, kc_5, reduceIte, Nat.reduceEqDiff, Nat.add_zero, rI_hold, rI_hold, rL_hold, ht]; done)) rfl (by omega))) ?_
  exact hB _ (by repeat (first | exact q0 | exact sm_get_p1 | exact sm_get_p2e | refine sm_get_p1m (by decide) (by decide) ?_ | refine sm_get_p1n (by decide) rfl ?_ | refine sm_get_p2n (by decide) (by decide) rfl ?_)) (by repeat (first | exact q2 | exact sm_get_p1 | exact sm_get_p2e | refine sm_get_p1m (by decide) (by decide) ?_ | refine sm_get_p1n (by decide) rfl ?_ | refine sm_get_p2n (by decide) (by decide) rfl ?_)) (by repeat (first | exact q4 | exact sm_get_p1 | exact sm_get_p2e | refine sm_get_p1m (by decide) (by decide) ?_ | refine sm_get_p1n (by decide) rfl ?_ | refine sm_get_p2n (by decide) (by decide) rfl ?_))
theorem mGiL_3 {d : Nat} {S Sf : cS} {v : Option Value} {lv : sm_L} {nv : Nat} {xh : Int64} {xl : Int64} {ni : Nat} {t : Nat} (q0 : sm_get lv 0 = some (.ref 46)) (q1 : sm_get lv 1 = some (.int (nI nv))) (q2 : sm_get lv 2 = some (.long xh)) (q4 : sm_get lv 4 = some (.long xl)) (q6 : sm_get lv 6 = some (.int (nI ni))) (mnv : nv < 2 ^ 20) (mni : ni < 2 ^ 20) (b1 : ni < nv) (ht : sI S 4603 = nI t) (mt : t < 20481) (b2 : 0 < t) (b3 : 20480 < t) (hB : ∀ lv1 : sm_L, sm_get lv1 0 = some (.ref 46) → sm_get lv1 2 = some (.long xh) → sm_get lv1 4 = some (.long xl) → Bod (d + 8) 148 97 lv1 [] (S) v Sf) : Bod (d + 8) 148 23 lv [] S v Sf := by
  refine Bod.ildG dc_148_23 (by repeat (first | exact q6 | exact sm_get_p1 | exact sm_get_p2e | refine sm_get_p1m (by decide) (by decide) ?_ | refine sm_get_p1n (by decide) rfl ?_ | refine sm_get_p2n (by decide) (by decide) rfl ?_)) ?_
  refine Bod.ildnG dc_148_25 (by repeat (first | exact q1 | exact sm_get_p1 | exact sm_get_p2e | refine sm_get_p1m (by decide) (by decide) ?_ | refine sm_get_p1n (by decide) rfl ?_ | refine sm_get_p2n (by decide) (by decide) rfl ?_)) ?_
  refine Bod.icF dc_148_26 rfl (k2_ge_F ni nv rfl rfl (by omega) (by omega)) ?_
  refine Bod.aldnG dc_148_29 (by repeat (first | exact q0 | exact sm_get_p1 | exact sm_get_p2e | refine sm_get_p1m (by decide) (by decide) ?_ | refine sm_get_p1n (by decide) rfl ?_ | refine sm_get_p2n (by decide) (by decide) rfl ?_)) ?_
  refine Bod.get dc_148_30 fr_148_22 (mk_46 _) rfl ?_
  refine Bod.eqI (nI t) (by first | assumption | rfl | exact congrArg nI (by omega) | (simp (disch := omega) only [rI, rIe, rA, rIA, rLA, rJA, rVI, rQI, rVA, rQA, upd_at,  rAI, rLI, rJI, nI_add, pk_sub, kc_0, kc_1, kc_2, kc_3, kc_4, kc_5, reduceIte, Nat.reduceEqDiff, Nat.add_zero, rI_hold, rI_hold, rL_hold, ht]; done)) ?_
  refine Bod.ifF dc_148_33 rfl (k1_le_F t rfl (by omega) (by omega)) ?_
  refine Bod.aldnG dc_148_36 (by repeat (first | exact q0 | exact sm_get_p1 | exact sm_get_p2e | refine sm_get_p1m (by decide) (by decide) ?_ | refine sm_get_p1n (by decide) rfl ?_ | refine sm_get_p2n (by decide) (by decide) rfl ?_)) ?_
  refine Bod.get dc_148_37 fr_148_22 (mk_46 _) rfl ?_
  refine Bod.eqI (nI t) (by first | assumption | rfl | exact congrArg nI (by omega) | (simp (disch := omega) only [rI, rIe, rA, rIA, rLA, rJA, rVI, rQI, rVA, rQA, upd_at,  rAI, rLI, rJI, nI_add, pk_sub, kc_0, kc_1, kc_2, kc_3, kc_4, kc_5, reduceIte, Nat.reduceEqDiff, Nat.add_zero, rI_hold, rI_hold, rL_hold, ht]; done)) ?_
  refine Bod.sip 20480 (by decide) dc_148_40 ?_
  refine Bod.icT dc_148_43 rfl (k2_gt_T t 20480 rfl rfl (by omega) (by omega)) ?_
  exact hB _ (by repeat (first | exact q0 | exact sm_get_p1 | exact sm_get_p2e | refine sm_get_p1m (by decide) (by decide) ?_ | refine sm_get_p1n (by decide) rfl ?_ | refine sm_get_p2n (by decide) (by decide) rfl ?_)) (by repeat (first | exact q2 | exact sm_get_p1 | exact sm_get_p2e | refine sm_get_p1m (by decide) (by decide) ?_ | refine sm_get_p1n (by decide) rfl ?_ | refine sm_get_p2n (by decide) (by decide) rfl ?_)) (by repeat (first | exact q4 | exact sm_get_p1 | exact sm_get_p2e | refine sm_get_p1m (by decide) (by decide) ?_ | refine sm_get_p1n (by decide) rfl ?_ | refine sm_get_p2n (by decide) (by decide) rfl ?_))
theorem mGiL_4 {d : Nat} {S Sf : cS} {v : Option Value} {lv : sm_L} {nv : Nat} {xh : Int64} {xl : Int64} {ni : Nat} {t : Nat} {S1 : cS} {rb : Int32} {S2 : cS} (q0 : sm_get lv 0 = some (.ref 46)) (q1 : sm_get lv 1 = some (.int (nI nv))) (q2 : sm_get lv 2 = some (.long xh)) (q4 : sm_get lv 4 = some (.long xl)) (q6 : sm_get lv 6 = some (.int (nI ni))) (mnv : nv < 2 ^ 20) (mni : ni < 2 ^ 20) (b1 : ni < nv) (ht : sI S 4603 = nI t) (mt : t < 20481) (b2 : 0 < t) (b3 : t ≤ 20480) (b4 : 1 ≤ t) (c1 : Ans (d + 8) 137 [.long (sL (wI 4603 (nI (t - 1)) S) 47 (t - 1)), .long (sL (wI 4603 (nI (t - 1)) S) 48 (t - 1))] (wI 4603 (nI (t - 1)) S) (some (.int rb)) S1) (c2 : Ans (d + 8) 142 [.ref 2, .ref 6, .int rb] S1 none S2) (hB : ∀ lv1 : sm_L, sm_get lv1 0 = some (.ref 46) → sm_get lv1 1 = some (.int (nI nv)) → sm_get lv1 2 = some (.long xh) → sm_get lv1 4 = some (.long xl) → sm_get lv1 6 = some (.int (nI (ni + 1))) → Bod (d + 8) 148 23 lv1 [] (S2) v Sf) : Bod (d + 8) 148 23 lv [] S v Sf := by
  refine Bod.ildG dc_148_23 (by repeat (first | exact q6 | exact sm_get_p1 | exact sm_get_p2e | refine sm_get_p1m (by decide) (by decide) ?_ | refine sm_get_p1n (by decide) rfl ?_ | refine sm_get_p2n (by decide) (by decide) rfl ?_)) ?_
  refine Bod.ildnG dc_148_25 (by repeat (first | exact q1 | exact sm_get_p1 | exact sm_get_p2e | refine sm_get_p1m (by decide) (by decide) ?_ | refine sm_get_p1n (by decide) rfl ?_ | refine sm_get_p2n (by decide) (by decide) rfl ?_)) ?_
  refine Bod.icF dc_148_26 rfl (k2_ge_F ni nv rfl rfl (by omega) (by omega)) ?_
  refine Bod.aldnG dc_148_29 (by repeat (first | exact q0 | exact sm_get_p1 | exact sm_get_p2e | refine sm_get_p1m (by decide) (by decide) ?_ | refine sm_get_p1n (by decide) rfl ?_ | refine sm_get_p2n (by decide) (by decide) rfl ?_)) ?_
  refine Bod.get dc_148_30 fr_148_22 (mk_46 _) rfl ?_
  refine Bod.eqI (nI t) (by first | assumption | rfl | exact congrArg nI (by omega) | (simp (disch := omega) only [rI, rIe, rA, rIA, rLA, rJA, rVI, rQI, rVA, rQA, upd_at,  rAI, rLI, rJI, nI_add, pk_sub, kc_0, kc_1, kc_2, kc_3, kc_4, kc_5, reduceIte, Nat.reduceEqDiff, Nat.add_zero, rI_hold, rI_hold, rL_hold, ht]; done)) ?_
  refine Bod.ifF dc_148_33 rfl (k1_le_F t rfl (by omega) (by omega)) ?_
  refine Bod.aldnG dc_148_36 (by repeat (first | exact q0 | exact sm_get_p1 | exact sm_get_p2e | refine sm_get_p1m (by decide) (by decide) ?_ | refine sm_get_p1n (by decide) rfl ?_ | refine sm_get_p2n (by decide) (by decide) rfl ?_)) ?_
  refine Bod.get dc_148_37 fr_148_22 (mk_46 _) rfl ?_
  refine Bod.eqI (nI t) (by first | assumption | rfl | exact congrArg nI (by omega) | (simp (disch := omega) only [rI, rIe, rA, rIA, rLA, rJA, rVI, rQI, rVA, rQA, upd_at,  rAI, rLI, rJI, nI_add, pk_sub, kc_0, kc_1, kc_2, kc_3, kc_4, kc_5, reduceIte, Nat.reduceEqDiff, Nat.add_zero, rI_hold, rI_hold, rL_hold, ht]; done)) ?_
  refine Bod.sip 20480 (by decide) dc_148_40 ?_
  refine Bod.icF dc_148_43 rfl (k2_gt_F t 20480 rfl rfl (by omega) (by omega)) ?_
  refine Bod.aldnG dc_148_46 (by repeat (first | exact q0 | exact sm_get_p1 | exact sm_get_p2e | refine sm_get_p1m (by decide) (by decide) ?_ | refine sm_get_p1n (by decide) rfl ?_ | refine sm_get_p2n (by decide) (by decide) rfl ?_)) ?_
  refine Bod.go dc_148_47 rfl ?_
  refine Bod.get dc_148_48 fr_148_22 (mk_46 _) rfl ?_
  refine Bod.eqI (nI t) (by first | assumption | rfl | exact congrArg nI (by omega) | (simp (disch := omega) only [rI, rIe, rA, rIA, rLA, rJA, rVI, rQI, rVA, rQA, upd_at,  rAI, rLI, rJI, nI_add, pk_sub, kc_0, kc_1, kc_2, kc_3, kc_4, kc_5, reduceIte, Nat.reduceEqDiff, Nat.add_zero, rI_hold, rI_hold, rL_hold, ht]; done)) ?_
  refine Bod.ic 1 (by decide) dc_148_51 ?_
  refine Bod.subN (t - 1) (by omega) (by omega) dc_148_52 ?_
  refine Bod.put dc_148_53 fr_148_22 (mk_46 _) (Nat.le_of_ble_eq_true rfl) pf_9_3 (st_4603 _ _) (mu_I _ _ _) ?_
  refine Bod.aldnG dc_148_56 (by repeat (first | exact q0 | exact sm_get_p1 | exact sm_get_p2e | refine sm_get_p1m (by decide) (by decide) ?_ | refine sm_get_p1n (by decide) rfl ?_ | refine sm_get_p2n (by decide) (by decide) rfl ?_)) ?_
  refine Bod.get dc_148_57 fr_148_9 (mk_46 _) rfl ?_
  refine Bod.aldnG dc_148_60 (by repeat (first | exact q0 | exact sm_get_p1 | exact sm_get_p2e | refine sm_get_p1m (by decide) (by decide) ?_ | refine sm_get_p1n (by decide) rfl ?_ | refine sm_get_p2n (by decide) (by decide) rfl ?_)) ?_
  refine Bod.get dc_148_61 fr_148_9 (mk_46 _) rfl ?_
  refine Bod.get dc_148_64 fr_148_50 (mk_2 _) rfl ?_
  refine Bod.aldnG dc_148_67 (by repeat (first | exact q0 | exact sm_get_p1 | exact sm_get_p2e | refine sm_get_p1m (by decide) (by decide) ?_ | refine sm_get_p1n (by decide) rfl ?_ | refine sm_get_p2n (by decide) (by decide) rfl ?_)) ?_
  refine Bod.get dc_148_68 fr_148_15 (mk_46 _) rfl ?_
  refine Bod.aldnG dc_148_71 (by repeat (first | exact q0 | exact sm_get_p1 | exact sm_get_p2e | refine sm_get_p1m (by decide) (by decide) ?_ | refine sm_get_p1n (by decide) rfl ?_ | refine sm_get_p2n (by decide) (by decide) rfl ?_)) ?_
  refine Bod.get dc_148_72 fr_148_22 (mk_46 _) rfl ?_
  refine Bod.eqI (nI (t - 1)) (by first | (simp (disch := omega) only [rI, rIe, rA, rIA, rLA, rJA, rVI, rQI, rVA, rQA, upd_at,  rAI, rLI, rJI, nI_add, pk_sub, kc_0, kc_1, kc_2, kc_3, kc_4, kc_5, reduceIte, Nat.reduceEqDiff, Nat.add_zero, rI_hold, rI_hold, rL_hold, ht]; done) | (simp (disch := omega) only [rI, rIe, rA, rIA, rLA, rJA, rVI, rQI, rVA, rQA, upd_at,  rAI, rLI, rJI, nI_add, pk_sub, kc_0, kc_1, kc_2, kc_3, kc_4, kc_5, reduceIte, Nat.reduceEqDiff, Nat.add_zero, rI_hold, rI_hold, rL_hold, ht]; exact congrArg nI (by omega))) ?_
  refine Bod.laldN (t - 1) rfl (by omega) (by omega) dc_148_75 (mk_47 _) ?_
  refine Bod.aldnG dc_148_76 (by repeat (first | exact q0 | exact sm_get_p1 | exact sm_get_p2e | refine sm_get_p1m (by decide) (by decide) ?_ | refine sm_get_p1n (by decide) rfl ?_ | refine sm_get_p2n (by decide) (by decide) rfl ?_)) ?_
  refine Bod.get dc_148_77 fr_148_19 (mk_46 _) rfl ?_
  refine Bod.aldnG dc_148_80 (by repeat (first | exact q0 | exact sm_get_p1 | exact sm_get_p2e | refine sm_get_p1m (by decide) (by decide) ?_ | refine sm_get_p1n (by decide) rfl ?_ | refine sm_get_p2n (by decide) (by decide) rfl ?_)) ?_
  refine Bod.get dc_148_81 fr_148_22 (mk_46 _) rfl ?_
  refine Bod.eqI (nI (t - 1)) (by first | (simp (disch := omega) only [rI, rIe, rA, rIA, rLA, rJA, rVI, rQI, rVA, rQA, upd_at,  rAI, rLI, rJI, nI_add, pk_sub, kc_0, kc_1, kc_2, kc_3, kc_4, kc_5, reduceIte, Nat.reduceEqDiff, Nat.add_zero, rI_hold, rI_hold, rL_hold, ht]; done) | (simp (disch := omega) only [rI, rIe, rA, rIA, rLA, rJA, rVI, rQI, rVA, rQA, upd_at,  rAI, rLI, rJI, nI_add, pk_sub, kc_0, kc_1, kc_2, kc_3, kc_4, kc_5, reduceIte, Nat.reduceEqDiff, Nat.add_zero, rI_hold, rI_hold, rL_hold, ht]; exact congrArg nI (by omega))) ?_
  refine Bod.laldN (t - 1) rfl (by omega) (by omega) dc_148_84 (mk_48 _) ?_
  refine Bod.stat (r := [_, _]) dc_148_85 kr_148_37 (Or.inr rfl) (by rw [np_137]; rfl) (by rw [np_137]; rfl) (by rw [np_137]; exact Nat.le_of_ble_eq_true rfl) (Nat.le_of_ble_eq_true rfl) (c1  ) ?_
  show Bod _ _ _ _ [_, _, _] _ _ _
  refine Bod.virt (r := []) dc_148_88 kr_148_58 ⟨Or.inr rfl, ow_142, cl_2⟩ (by rw [np_142]; rfl) (by rw [np_142]; rfl) (ob_of (mk_2 _)) (Nat.le_of_ble_eq_true rfl) (c2  ) ?_
  show Bod _ _ _ _ [] _ _ _
  refine Bod.incN (ni + 1) (by rw [kc_1, nI_add]) dc_148_91 (by rw [ml_148]; exact Nat.le_of_ble_eq_true rfl) (by repeat (first | exact q6 | exact sm_get_p1 | exact sm_get_p2e | refine sm_get_p1m (by decide) (by decide) ?_ | refine sm_get_p1n (by decide) rfl ?_ | refine sm_get_p2n (by decide) (by decide) rfl ?_)) ?_
  refine Bod.go dc_148_94 rfl ?_
  exact hB _ (by repeat (first | exact q0 | exact sm_get_p1 | exact sm_get_p2e | refine sm_get_p1m (by decide) (by decide) ?_ | refine sm_get_p1n (by decide) rfl ?_ | refine sm_get_p2n (by decide) (by decide) rfl ?_)) (by repeat (first | exact q1 | exact sm_get_p1 | exact sm_get_p2e | refine sm_get_p1m (by decide) (by decide) ?_ | refine sm_get_p1n (by decide) rfl ?_ | refine sm_get_p2n (by decide) (by decide) rfl ?_)) (by repeat (first | exact q2 | exact sm_get_p1 | exact sm_get_p2e | refine sm_get_p1m (by decide) (by decide) ?_ | refine sm_get_p1n (by decide) rfl ?_ | refine sm_get_p2n (by decide) (by decide) rfl ?_)) (by repeat (first | exact q4 | exact sm_get_p1 | exact sm_get_p2e | refine sm_get_p1m (by decide) (by decide) ?_ | refine sm_get_p1n (by decide) rfl ?_ | refine sm_get_p2n (by decide) (by decide) rfl ?_)) (by repeat (first | exact q0 | exact sm_get_p1 | exact sm_get_p2e | refine sm_get_p1m (by decide) (by decide) ?_ | refine sm_get_p1n (by decide) rfl ?_ | refine sm_get_p2n (by decide) (by decide) rfl ?_))
theorem mGiE_1 {d : Nat} {S : cS} {lv : sm_L} {xh : Int64} {xl : Int64} {t : Nat} (q0 : sm_get lv 0 = some (.ref 46)) (q2 : sm_get lv 2 = some (.long xh)) (q4 : sm_get lv 4 = some (.long xl)) (ht : sI S 4603 = nI t) (mt : t < 20481) (b1 : t < 20480) : Bod (d + 8) 148 97 lv [] S (some (.int (nI 0))) (wI 4603 (nI (t + 1)) (wL 48 t xl (wL 47 t xh S))) := by
  refine Bod.aldnG dc_148_97 (by repeat (first | exact q0 | exact sm_get_p1 | exact sm_get_p2e | refine sm_get_p1m (by decide) (by decide) ?_ | refine sm_get_p1n (by decide) rfl ?_ | refine sm_get_p2n (by decide) (by decide) rfl ?_)) ?_
  refine Bod.get dc_148_98 fr_148_22 (mk_46 _) rfl ?_
  refine Bod.eqI (nI t) (by first | assumption | rfl | exact congrArg nI (by omega) | (simp (disch := omega) only [rI, rIe, rA, rIA, rLA, rJA, rVI, rQI, rVA, rQA, upd_at,  rAI, rLI, rJI, nI_add, pk_sub, kc_0, kc_1, kc_2, kc_3, kc_4, kc_5, reduceIte, Nat.reduceEqDiff, Nat.add_zero, rI_hold, rI_hold, rL_hold, ht]; done)) ?_
  refine Bod.ifF dc_148_101 rfl (k1_lt_F t rfl (by omega)) ?_
  refine Bod.aldnG dc_148_104 (by repeat (first | exact q0 | exact sm_get_p1 | exact sm_get_p2e | refine sm_get_p1m (by decide) (by decide) ?_ | refine sm_get_p1n (by decide) rfl ?_ | refine sm_get_p2n (by decide) (by decide) rfl ?_)) ?_
  refine Bod.get dc_148_105 fr_148_22 (mk_46 _) rfl ?_
  refine Bod.eqI (nI t) (by first | assumption | rfl | exact congrArg nI (by omega) | (simp (disch := omega) only [rI, rIe, rA, rIA, rLA, rJA, rVI, rQI, rVA, rQA, upd_at,  rAI, rLI, rJI, nI_add, pk_sub, kc_0, kc_1, kc_2, kc_3, kc_4, kc_5, reduceIte, Nat.reduceEqDiff, Nat.add_zero, rI_hold, rI_hold, rL_hold, ht]; done)) ?_
  refine Bod.sip 20480 (by decide) dc_148_108 ?_
  refine Bod.icT dc_148_111 rfl (k2_lt_T t 20480 rfl rfl (by omega) (by omega)) ?_
  refine Bod.aldnG dc_148_117 (by repeat (first | exact q0 | exact sm_get_p1 | exact sm_get_p2e | refine sm_get_p1m (by decide) (by decide) ?_ | refine sm_get_p1n (by decide) rfl ?_ | refine sm_get_p2n (by decide) (by decide) rfl ?_)) ?_
  refine Bod.get dc_148_118 fr_148_15 (mk_46 _) rfl ?_
  refine Bod.aldnG dc_148_121 (by repeat (first | exact q0 | exact sm_get_p1 | exact sm_get_p2e | refine sm_get_p1m (by decide) (by decide) ?_ | refine sm_get_p1n (by decide) rfl ?_ | refine sm_get_p2n (by decide) (by decide) rfl ?_)) ?_
  refine Bod.get dc_148_122 fr_148_22 (mk_46 _) rfl ?_
  refine Bod.eqI (nI t) (by first | assumption | rfl | exact congrArg nI (by omega) | (simp (disch := omega) only [rI, rIe, rA, rIA, rLA, rJA, rVI, rQI, rVA, rQA, upd_at,  rAI, rLI, rJI, nI_add, pk_sub, kc_0, kc_1, kc_2, kc_3, kc_4, kc_5, reduceIte, Nat.reduceEqDiff, Nat.add_zero, rI_hold, rI_hold, rL_hold, ht]; done)) ?_
  refine Bod.lldnG dc_148_125 (by repeat (first | exact q2 | exact sm_get_p1 | exact sm_get_p2e | refine sm_get_p1m (by decide) (by decide) ?_ | refine sm_get_p1n (by decide) rfl ?_ | refine sm_get_p2n (by decide) (by decide) rfl ?_)) ?_
  refine Bod.lastN t rfl (by omega) (by omega) dc_148_126 (mk_47 _) (sa_47 _ _ _) (mu_L _ _ _ _) ?_
  refine Bod.aldnG dc_148_127 (by repeat (first | exact q0 | exact sm_get_p1 | exact sm_get_p2e | refine sm_get_p1m (by decide) (by decide) ?_ | refine sm_get_p1n (by decide) rfl ?_ | refine sm_get_p2n (by decide) (by decide) rfl ?_)) ?_
  refine Bod.get dc_148_128 fr_148_19 (mk_46 _) rfl ?_
  refine Bod.aldnG dc_148_131 (by repeat (first | exact q0 | exact sm_get_p1 | exact sm_get_p2e | refine sm_get_p1m (by decide) (by decide) ?_ | refine sm_get_p1n (by decide) rfl ?_ | refine sm_get_p2n (by decide) (by decide) rfl ?_)) ?_
  refine Bod.get dc_148_132 fr_148_22 (mk_46 _) rfl ?_
  refine Bod.eqI (nI t) (by first | (simp (disch := omega) only [rI, rIe, rA, rIA, rLA, rJA, rVI, rQI, rVA, rQA, upd_at,  rAI, rLI, rJI, nI_add, pk_sub, kc_0, kc_1, kc_2, kc_3, kc_4, kc_5, reduceIte, Nat.reduceEqDiff, Nat.add_zero, rI_hold, rI_hold, rL_hold, ht]; done) | (simp (disch := omega) only [rI, rIe, rA, rIA, rLA, rJA, rVI, rQI, rVA, rQA, upd_at,  rAI, rLI, rJI, nI_add, pk_sub, kc_0, kc_1, kc_2, kc_3, kc_4, kc_5, reduceIte, Nat.reduceEqDiff, Nat.add_zero, rI_hold, rI_hold, rL_hold, ht]; exact congrArg nI (by omega))) ?_
  refine Bod.lldG dc_148_135 (by repeat (first | exact q4 | exact sm_get_p1 | exact sm_get_p2e | refine sm_get_p1m (by decide) (by decide) ?_ | refine sm_get_p1n (by decide) rfl ?_ | refine sm_get_p2n (by decide) (by decide) rfl ?_)) ?_
  refine Bod.lastN t rfl (by omega) (by omega) dc_148_137 (mk_48 _) (sa_48 _ _ _) (mu_L _ _ _ _) ?_
  refine Bod.aldnG dc_148_138 (by repeat (first | exact q0 | exact sm_get_p1 | exact sm_get_p2e | refine sm_get_p1m (by decide) (by decide) ?_ | refine sm_get_p1n (by decide) rfl ?_ | refine sm_get_p2n (by decide) (by decide) rfl ?_)) ?_
  refine Bod.go dc_148_139 rfl ?_
  refine Bod.get dc_148_140 fr_148_22 (mk_46 _) rfl ?_
  refine Bod.eqI (nI t) (by first | (simp (disch := omega) only [rI, rIe, rA, rIA, rLA, rJA, rVI, rQI, rVA, rQA, upd_at,  rAI, rLI, rJI, nI_add, pk_sub, kc_0, kc_1, kc_2, kc_3, kc_4, kc_5, reduceIte, Nat.reduceEqDiff, Nat.add_zero, rI_hold, rI_hold, rL_hold, ht]; done) | (simp (disch := omega) only [rI, rIe, rA, rIA, rLA, rJA, rVI, rQI, rVA, rQA, upd_at,  rAI, rLI, rJI, nI_add, pk_sub, kc_0, kc_1, kc_2, kc_3, kc_4, kc_5, reduceIte, Nat.reduceEqDiff, Nat.add_zero, rI_hold, rI_hold, rL_hold, ht]; exact congrArg nI (by omega))) ?_
  refine Bod.ic 1 (by decide) dc_148_143 ?_
  refine Bod.addN (t + 1) (by omega) dc_148_144 ?_
  refine Bod.put dc_148_145 fr_148_22 (mk_46 _) (Nat.le_of_ble_eq_true rfl) pf_9_3 (st_4603 _ _) (mu_I _ _ _) ?_
  refine Bod.ic 0 (by decide) dc_148_148 ?_
  exact Bod.retI dc_148_149 rt_148
theorem mGiE_2 {d : Nat} {S : cS} {lv : sm_L} {xh : Int64} {xl : Int64} {t : Nat} (q0 : sm_get lv 0 = some (.ref 46)) (q2 : sm_get lv 2 = some (.long xh)) (q4 : sm_get lv 4 = some (.long xl)) (ht : sI S 4603 = nI t) (mt : t < 20481) (b1 : 20480 ≤ t) : Bod (d + 8) 148 97 lv [] S (some (.int (nI 8))) (S) := by
  refine Bod.aldnG dc_148_97 (by repeat (first | exact q0 | exact sm_get_p1 | exact sm_get_p2e | refine sm_get_p1m (by decide) (by decide) ?_ | refine sm_get_p1n (by decide) rfl ?_ | refine sm_get_p2n (by decide) (by decide) rfl ?_)) ?_
  refine Bod.get dc_148_98 fr_148_22 (mk_46 _) rfl ?_
  refine Bod.eqI (nI t) (by first | assumption | rfl | exact congrArg nI (by omega) | (simp (disch := omega) only [rI, rIe, rA, rIA, rLA, rJA, rVI, rQI, rVA, rQA, upd_at,  rAI, rLI, rJI, nI_add, pk_sub, kc_0, kc_1, kc_2, kc_3, kc_4, kc_5, reduceIte, Nat.reduceEqDiff, Nat.add_zero, rI_hold, rI_hold, rL_hold, ht]; done)) ?_
  refine Bod.ifF dc_148_101 rfl (k1_lt_F t rfl (by omega)) ?_
  refine Bod.aldnG dc_148_104 (by repeat (first | exact q0 | exact sm_get_p1 | exact sm_get_p2e | refine sm_get_p1m (by decide) (by decide) ?_ | refine sm_get_p1n (by decide) rfl ?_ | refine sm_get_p2n (by decide) (by decide) rfl ?_)) ?_
  refine Bod.get dc_148_105 fr_148_22 (mk_46 _) rfl ?_
  refine Bod.eqI (nI t) (by first | assumption | rfl | exact congrArg nI (by omega) | (simp (disch := omega) only [rI, rIe, rA, rIA, rLA, rJA, rVI, rQI, rVA, rQA, upd_at,  rAI, rLI, rJI, nI_add, pk_sub, kc_0, kc_1, kc_2, kc_3, kc_4, kc_5, reduceIte, Nat.reduceEqDiff, Nat.add_zero, rI_hold, rI_hold, rL_hold, ht]; done)) ?_
  refine Bod.sip 20480 (by decide) dc_148_108 ?_
  refine Bod.icF dc_148_111 rfl (k2_lt_F t 20480 rfl rfl (by omega) (by omega)) ?_
  refine Bod.bip 8 (by decide) dc_148_114 ?_
  exact Bod.retI dc_148_116 rt_148
theorem mHo_1 {d : Nat} {S Sf : cS} {v : Option Value} {nv : Nat} (mnv : nv < 2 ^ 20) (hB : ∀ lv1 : sm_L, sm_get lv1 0 = some (.ref 46) → sm_get lv1 1 = some (.int (nI nv)) → sm_get lv1 2 = some (.int (nI 0)) → Bod (d + 8) 261 2 lv1 [] (S) v Sf) : Bod (d + 8) 261 0 [(0, .ref 46), (1, .int (nI nv))] [] S v Sf := by
  refine Bod.ic 0 (by decide) dc_261_0 ?_
  refine Bod.istn dc_261_1 (by rw [ml_261]; exact Nat.le_of_ble_eq_true rfl) ?_
  exact hB _ (by first | rfl | exact (by repeat (first | exact rfl | exact sm_get_p1 | exact sm_get_p2e | refine sm_get_p1m (by decide) (by decide) ?_ | refine sm_get_p1n (by decide) rfl ?_ | refine sm_get_p2n (by decide) (by decide) rfl ?_))) (by first | rfl | exact (by repeat (first | exact rfl | exact sm_get_p1 | exact sm_get_p2e | refine sm_get_p1m (by decide) (by decide) ?_ | refine sm_get_p1n (by decide) rfl ?_ | refine sm_get_p2n (by decide) (by decide) rfl ?_))) (by first | rfl | exact (by repeat (first | exact rfl | exact sm_get_p1 | exact sm_get_p2e | refine sm_get_p1m (by decide) (by decide) ?_ | refine sm_get_p1n (by decide) rfl ?_ | refine sm_get_p2n (by decide) (by decide) rfl ?_)))
theorem mHoL_1 {d : Nat} {S : cS} {lv : sm_L} {nv : Nat} {ni : Nat} (q0 : sm_get lv 0 = some (.ref 46)) (q1 : sm_get lv 1 = some (.int (nI nv))) (q2 : sm_get lv 2 = some (.int (nI ni))) (mnv : nv < 2 ^ 20) (mni : ni < 2 ^ 20) (b1 : nv ≤ ni) : Bod (d + 8) 261 2 lv [] S none (S) := by
  refine Bod.ildnG dc_261_2 (by repeat (first | exact q2 | exact sm_get_p1 | exact sm_get_p2e | refine sm_get_p1m (by decide) (by decide) ?_ | refine sm_get_p1n (by decide) rfl ?_ | refine sm_get_p2n (by decide) (by decide) rfl ?_)) ?_
  refine Bod.ildnG dc_261_3 (by repeat (first | exact q1 | exact sm_get_p1 | exact sm_get_p2e | refine sm_get_p1m (by decide) (by decide) ?_ | refine sm_get_p1n (by decide) rfl ?_ | refine sm_get_p2n (by decide) (by decide) rfl ?_)) ?_
  refine Bod.icT dc_261_4 rfl (k2_ge_T ni nv rfl rfl (by omega) (by omega)) ?_
  exact Bod.retV dc_261_68 rt_261
theorem mHoL_2 {d : Nat} {S : cS} {lv : sm_L} {nv : Nat} {ni : Nat} {t : Nat} (q0 : sm_get lv 0 = some (.ref 46)) (q1 : sm_get lv 1 = some (.int (nI nv))) (q2 : sm_get lv 2 = some (.int (nI ni))) (mnv : nv < 2 ^ 20) (mni : ni < 2 ^ 20) (b1 : ni < nv) (ht : sI S 4603 = nI t) (mt : t < 20481) (b2 : t ≤ 0) : Bod (d + 8) 261 2 lv [] S none (S) := by
  refine Bod.ildnG dc_261_2 (by repeat (first | exact q2 | exact sm_get_p1 | exact sm_get_p2e | refine sm_get_p1m (by decide) (by decide) ?_ | refine sm_get_p1n (by decide) rfl ?_ | refine sm_get_p2n (by decide) (by decide) rfl ?_)) ?_
  refine Bod.ildnG dc_261_3 (by repeat (first | exact q1 | exact sm_get_p1 | exact sm_get_p2e | refine sm_get_p1m (by decide) (by decide) ?_ | refine sm_get_p1n (by decide) rfl ?_ | refine sm_get_p2n (by decide) (by decide) rfl ?_)) ?_
  refine Bod.icF dc_261_4 rfl (k2_ge_F ni nv rfl rfl (by omega) (by omega)) ?_
  refine Bod.aldnG dc_261_7 (by repeat (first | exact q0 | exact sm_get_p1 | exact sm_get_p2e | refine sm_get_p1m (by decide) (by decide) ?_ | refine sm_get_p1n (by decide) rfl ?_ | refine sm_get_p2n (by decide) (by decide) rfl ?_)) ?_
  refine Bod.get dc_261_8 fr_261_22 (mk_46 _) rfl ?_
  refine Bod.eqI (nI t) (by first | assumption | rfl | exact congrArg nI (by omega) | (simp (disch := omega) only [rI, rIe, rA, rIA, rLA, rJA, rVI, rQI, rVA, rQA, upd_at,  rAI, rLI, rJI, nI_add, pk_sub, kc_0, kc_1, kc_2, kc_3, kc_4, kc_5, reduceIte, Nat.reduceEqDiff, Nat.add_zero, rI_hold, rI_hold, rL_hold, ht]; done)) ?_
  refine Bod.ifT dc_261_11 rfl (k1_le_T (k_eq t 0 (by first | assumption | rfl | exact congrArg nI (by omega) | (simp (disch := omega) only [rI, rIe, rA, rIA, rLA, rJA, rVI, rQI, rVA, rQA, upd_at,  rAI, rLI, rJI, nI_add, pk_sub, kc_0, kc_1, kc_2, kc_3, kc_4, kc_5, reduceIte, Nat.reduceEqDiff, Nat.add_zero, rI_hold, rI_hold, rL_hold, ht]; done)) rfl (by omega))) ?_
  exact Bod.retV dc_261_68 rt_261
theorem mHoL_3 {d : Nat} {S : cS} {lv : sm_L} {nv : Nat} {ni : Nat} {t : Nat} (q0 : sm_get lv 0 = some (.ref 46)) (q1 : sm_get lv 1 = some (.int (nI nv))) (q2 : sm_get lv 2 = some (.int (nI ni))) (mnv : nv < 2 ^ 20) (mni : ni < 2 ^ 20) (b1 : ni < nv) (ht : sI S 4603 = nI t) (mt : t < 20481) (b2 : 0 < t) (b3 : 20480 < t) : Bod (d + 8) 261 2 lv [] S none (S) := by
  refine Bod.ildnG dc_261_2 (by repeat (first | exact q2 | exact sm_get_p1 | exact sm_get_p2e | refine sm_get_p1m (by decide) (by decide) ?_ | refine sm_get_p1n (by decide) rfl ?_ | refine sm_get_p2n (by decide) (by decide) rfl ?_)) ?_
  refine Bod.ildnG dc_261_3 (by repeat (first | exact q1 | exact sm_get_p1 | exact sm_get_p2e | refine sm_get_p1m (by decide) (by decide) ?_ | refine sm_get_p1n (by decide) rfl ?_ | refine sm_get_p2n (by decide) (by decide) rfl ?_)) ?_
  refine Bod.icF dc_261_4 rfl (k2_ge_F ni nv rfl rfl (by omega) (by omega)) ?_
  refine Bod.aldnG dc_261_7 (by repeat (first | exact q0 | exact sm_get_p1 | exact sm_get_p2e | refine sm_get_p1m (by decide) (by decide) ?_ | refine sm_get_p1n (by decide) rfl ?_ | refine sm_get_p2n (by decide) (by decide) rfl ?_)) ?_
  refine Bod.get dc_261_8 fr_261_22 (mk_46 _) rfl ?_
  refine Bod.eqI (nI t) (by first | assumption | rfl | exact congrArg nI (by omega) | (simp (disch := omega) only [rI, rIe, rA, rIA, rLA, rJA, rVI, rQI, rVA, rQA, upd_at,  rAI, rLI, rJI, nI_add, pk_sub, kc_0, kc_1, kc_2, kc_3, kc_4, kc_5, reduceIte, Nat.reduceEqDiff, Nat.add_zero, rI_hold, rI_hold, rL_hold, ht]; done)) ?_
  refine Bod.ifF dc_261_11 rfl (k1_le_F t rfl (by omega) (by omega)) ?_
  refine Bod.aldnG dc_261_14 (by repeat (first | exact q0 | exact sm_get_p1 | exact sm_get_p2e | refine sm_get_p1m (by decide) (by decide) ?_ | refine sm_get_p1n (by decide) rfl ?_ | refine sm_get_p2n (by decide) (by decide) rfl ?_)) ?_
  refine Bod.get dc_261_15 fr_261_22 (mk_46 _) rfl ?_
  refine Bod.eqI (nI t) (by first | assumption | rfl | exact congrArg nI (by omega) | (simp (disch := omega) only [rI, rIe, rA, rIA, rLA, rJA, rVI, rQI, rVA, rQA, upd_at,  rAI, rLI, rJI, nI_add, pk_sub, kc_0, kc_1, kc_2, kc_3, kc_4, kc_5, reduceIte, Nat.reduceEqDiff, Nat.add_zero, rI_hold, rI_hold, rL_hold, ht]; done)) ?_
  refine Bod.sip 20480 (by decide) dc_261_18 ?_
  refine Bod.icT dc_261_21 rfl (k2_gt_T t 20480 rfl rfl (by omega) (by omega)) ?_
  exact Bod.retV dc_261_68 rt_261
theorem mHoL_4 {d : Nat} {S Sf : cS} {v : Option Value} {lv : sm_L} {nv : Nat} {ni : Nat} {t : Nat} {S1 : cS} {rb : Int32} {S2 : cS} (q0 : sm_get lv 0 = some (.ref 46)) (q1 : sm_get lv 1 = some (.int (nI nv))) (q2 : sm_get lv 2 = some (.int (nI ni))) (mnv : nv < 2 ^ 20) (mni : ni < 2 ^ 20) (b1 : ni < nv) (ht : sI S 4603 = nI t) (mt : t < 20481) (b2 : 0 < t) (b3 : t ≤ 20480) (b4 : 1 ≤ t) (c1 : Ans (d + 8) 137 [.long (sL (wI 4603 (nI (t - 1)) S) 47 (t - 1)), .long (sL (wI 4603 (nI (t - 1)) S) 48 (t - 1))] (wI 4603 (nI (t - 1)) S) (some (.int rb)) S1) (c2 : Ans (d + 8) 262 [.ref 2, .int rb] S1 none S2) (hB : ∀ lv1 : sm_L, sm_get lv1 0 = some (.ref 46) → sm_get lv1 1 = some (.int (nI nv)) → sm_get lv1 2 = some (.int (nI (ni + 1))) → Bod (d + 8) 261 2 lv1 [] (S2) v Sf) : Bod (d + 8) 261 2 lv [] S v Sf := by
  refine Bod.ildnG dc_261_2 (by repeat (first | exact q2 | exact sm_get_p1 | exact sm_get_p2e | refine sm_get_p1m (by decide) (by decide) ?_ | refine sm_get_p1n (by decide) rfl ?_ | refine sm_get_p2n (by decide) (by decide) rfl ?_)) ?_
  refine Bod.ildnG dc_261_3 (by repeat (first | exact q1 | exact sm_get_p1 | exact sm_get_p2e | refine sm_get_p1m (by decide) (by decide) ?_ | refine sm_get_p1n (by decide) rfl ?_ | refine sm_get_p2n (by decide) (by decide) rfl ?_)) ?_
  refine Bod.icF dc_261_4 rfl (k2_ge_F ni nv rfl rfl (by omega) (by omega)) ?_
  refine Bod.aldnG dc_261_7 (by repeat (first | exact q0 | exact sm_get_p1 | exact sm_get_p2e | refine sm_get_p1m (by decide) (by decide) ?_ | refine sm_get_p1n (by decide) rfl ?_ | refine sm_get_p2n (by decide) (by decide) rfl ?_)) ?_
  refine Bod.get dc_261_8 fr_261_22 (mk_46 _) rfl ?_
  refine Bod.eqI (nI t) (by first | assumption | rfl | exact congrArg nI (by omega) | (simp (disch := omega) only [rI, rIe, rA, rIA, rLA, rJA, rVI, rQI, rVA, rQA, upd_at,  rAI, rLI, rJI, nI_add, pk_sub, kc_0, kc_1, kc_2, kc_3, kc_4, kc_5, reduceIte, Nat.reduceEqDiff, Nat.add_zero, rI_hold, rI_hold, rL_hold, ht]; done)) ?_
  refine Bod.ifF dc_261_11 rfl (k1_le_F t rfl (by omega) (by omega)) ?_
  refine Bod.aldnG dc_261_14 (by repeat (first | exact q0 | exact sm_get_p1 | exact sm_get_p2e | refine sm_get_p1m (by decide) (by decide) ?_ | refine sm_get_p1n (by decide) rfl ?_ | refine sm_get_p2n (by decide) (by decide) rfl ?_)) ?_
  refine Bod.get dc_261_15 fr_261_22 (mk_46 _) rfl ?_
  refine Bod.eqI (nI t) (by first | assumption | rfl | exact congrArg nI (by omega) | (simp (disch := omega) only [rI, rIe, rA, rIA, rLA, rJA, rVI, rQI, rVA, rQA, upd_at,  rAI, rLI, rJI, nI_add, pk_sub, kc_0, kc_1, kc_2, kc_3, kc_4, kc_5, reduceIte, Nat.reduceEqDiff, Nat.add_zero, rI_hold, rI_hold, rL_hold, ht]; done)) ?_
  refine Bod.sip 20480 (by decide) dc_261_18 ?_
  refine Bod.icF dc_261_21 rfl (k2_gt_F t 20480 rfl rfl (by omega) (by omega)) ?_
  refine Bod.aldnG dc_261_24 (by repeat (first | exact q0 | exact sm_get_p1 | exact sm_get_p2e | refine sm_get_p1m (by decide) (by decide) ?_ | refine sm_get_p1n (by decide) rfl ?_ | refine sm_get_p2n (by decide) (by decide) rfl ?_)) ?_
  refine Bod.go dc_261_25 rfl ?_
  refine Bod.get dc_261_26 fr_261_22 (mk_46 _) rfl ?_
  refine Bod.eqI (nI t) (by first | assumption | rfl | exact congrArg nI (by omega) | (simp (disch := omega) only [rI, rIe, rA, rIA, rLA, rJA, rVI, rQI, rVA, rQA, upd_at,  rAI, rLI, rJI, nI_add, pk_sub, kc_0, kc_1, kc_2, kc_3, kc_4, kc_5, reduceIte, Nat.reduceEqDiff, Nat.add_zero, rI_hold, rI_hold, rL_hold, ht]; done)) ?_
  refine Bod.ic 1 (by decide) dc_261_29 ?_
  refine Bod.subN (t - 1) (by omega) (by omega) dc_261_30 ?_
  refine Bod.put dc_261_31 fr_261_22 (mk_46 _) (Nat.le_of_ble_eq_true rfl) pf_9_3 (st_4603 _ _) (mu_I _ _ _) ?_
  refine Bod.aldnG dc_261_34 (by repeat (first | exact q0 | exact sm_get_p1 | exact sm_get_p2e | refine sm_get_p1m (by decide) (by decide) ?_ | refine sm_get_p1n (by decide) rfl ?_ | refine sm_get_p2n (by decide) (by decide) rfl ?_)) ?_
  refine Bod.get dc_261_35 fr_261_9 (mk_46 _) rfl ?_
  refine Bod.aldnG dc_261_38 (by repeat (first | exact q0 | exact sm_get_p1 | exact sm_get_p2e | refine sm_get_p1m (by decide) (by decide) ?_ | refine sm_get_p1n (by decide) rfl ?_ | refine sm_get_p2n (by decide) (by decide) rfl ?_)) ?_
  refine Bod.get dc_261_39 fr_261_15 (mk_46 _) rfl ?_
  refine Bod.aldnG dc_261_42 (by repeat (first | exact q0 | exact sm_get_p1 | exact sm_get_p2e | refine sm_get_p1m (by decide) (by decide) ?_ | refine sm_get_p1n (by decide) rfl ?_ | refine sm_get_p2n (by decide) (by decide) rfl ?_)) ?_
  refine Bod.get dc_261_43 fr_261_22 (mk_46 _) rfl ?_
  refine Bod.eqI (nI (t - 1)) (by first | (simp (disch := omega) only [rI, rIe, rA, rIA, rLA, rJA, rVI, rQI, rVA, rQA, upd_at,  rAI, rLI, rJI, nI_add, pk_sub, kc_0, kc_1, kc_2, kc_3, kc_4, kc_5, reduceIte, Nat.reduceEqDiff, Nat.add_zero, rI_hold, rI_hold, rL_hold, ht]; done) | (simp (disch := omega) only [rI, rIe, rA, rIA, rLA, rJA, rVI, rQI, rVA, rQA, upd_at,  rAI, rLI, rJI, nI_add, pk_sub, kc_0, kc_1, kc_2, kc_3, kc_4, kc_5, reduceIte, Nat.reduceEqDiff, Nat.add_zero, rI_hold, rI_hold, rL_hold, ht]; exact congrArg nI (by omega))) ?_
  refine Bod.laldN (t - 1) rfl (by omega) (by omega) dc_261_46 (mk_47 _) ?_
  refine Bod.aldnG dc_261_47 (by repeat (first | exact q0 | exact sm_get_p1 | exact sm_get_p2e | refine sm_get_p1m (by decide) (by decide) ?_ | refine sm_get_p1n (by decide) rfl ?_ | refine sm_get_p2n (by decide) (by decide) rfl ?_)) ?_
  refine Bod.get dc_261_48 fr_261_19 (mk_46 _) rfl ?_
  refine Bod.aldnG dc_261_51 (by repeat (first | exact q0 | exact sm_get_p1 | exact sm_get_p2e | refine sm_get_p1m (by decide) (by decide) ?_ | refine sm_get_p1n (by decide) rfl ?_ | refine sm_get_p2n (by decide) (by decide) rfl ?_)) ?_
  refine Bod.get dc_261_52 fr_261_22 (mk_46 _) rfl ?_
  refine Bod.eqI (nI (t - 1)) (by first | (simp (disch := omega) only [rI, rIe, rA, rIA, rLA, rJA, rVI, rQI, rVA, rQA, upd_at,  rAI, rLI, rJI, nI_add, pk_sub, kc_0, kc_1, kc_2, kc_3, kc_4, kc_5, reduceIte, Nat.reduceEqDiff, Nat.add_zero, rI_hold, rI_hold, rL_hold, ht]; done) | (simp (disch := omega) only [rI, rIe, rA, rIA, rLA, rJA, rVI, rQI, rVA, rQA, upd_at,  rAI, rLI, rJI, nI_add, pk_sub, kc_0, kc_1, kc_2, kc_3, kc_4, kc_5, reduceIte, Nat.reduceEqDiff, Nat.add_zero, rI_hold, rI_hold, rL_hold, ht]; exact congrArg nI (by omega))) ?_
  refine Bod.laldN (t - 1) rfl (by omega) (by omega) dc_261_55 (mk_48 _) ?_
  refine Bod.stat (r := [_]) dc_261_56 kr_261_37 (Or.inr rfl) (by rw [np_137]; rfl) (by rw [np_137]; rfl) (by rw [np_137]; exact Nat.le_of_ble_eq_true rfl) (Nat.le_of_ble_eq_true rfl) (c1  ) ?_
  show Bod _ _ _ _ [_, _] _ _ _
  refine Bod.virt (r := []) dc_261_59 kr_261_61 ⟨Or.inr rfl, ow_262, cl_2⟩ (by rw [np_262]; rfl) (by rw [np_262]; rfl) (ob_of (mk_2 _)) (Nat.le_of_ble_eq_true rfl) (c2  ) ?_
  show Bod _ _ _ _ [] _ _ _
  refine Bod.incN (ni + 1) (by rw [kc_1, nI_add]) dc_261_62 (by rw [ml_261]; exact Nat.le_of_ble_eq_true rfl) (by repeat (first | exact q2 | exact sm_get_p1 | exact sm_get_p2e | refine sm_get_p1m (by decide) (by decide) ?_ | refine sm_get_p1n (by decide) rfl ?_ | refine sm_get_p2n (by decide) (by decide) rfl ?_)) ?_
  refine Bod.go dc_261_65 rfl ?_
  exact hB _ (by repeat (first | exact q0 | exact sm_get_p1 | exact sm_get_p2e | refine sm_get_p1m (by decide) (by decide) ?_ | refine sm_get_p1n (by decide) rfl ?_ | refine sm_get_p2n (by decide) (by decide) rfl ?_)) (by repeat (first | exact q1 | exact sm_get_p1 | exact sm_get_p2e | refine sm_get_p1m (by decide) (by decide) ?_ | refine sm_get_p1n (by decide) rfl ?_ | refine sm_get_p2n (by decide) (by decide) rfl ?_)) (by repeat (first | exact q0 | exact sm_get_p1 | exact sm_get_p2e | refine sm_get_p1m (by decide) (by decide) ?_ | refine sm_get_p1n (by decide) rfl ?_ | refine sm_get_p2n (by decide) (by decide) rfl ?_))
theorem mRp_1 {d : Nat} {S : cS} {nv : Nat} {S1 : cS} {t : Nat} {S2 : cS} {a : Nat} {t1 : Nat} {S3 : cS} (mnv : nv < 2 ^ 20) (c1 : Ans (d + 8) 133 [.ref 46, .int (nI nv)] S (some (.int (nI 1))) S1) (b1 : nv ≠ 0) (ht : sI S1 4603 = nI t) (mt : t < 20481) (b2 : 1 ≤ t) (b3 : nv ≤ t - 1) (ma : a < 2 ^ 20) (c2 : Ans (d + 8) 137 [.long (sL S1 47 (t - 1 - nv)), .long (sL S1 48 (t - 1 - nv))] S1 (some (.int (nI a))) S2) (ht1 : sI S2 4603 = nI t1) (mt1 : t1 < 20481) (b4 : 1 ≤ t1) (c3 : Ans (d + 8) 142 [.ref 2, .ref 6, .int (nI a)] (wL 48 (t - 1 - nv) (sL (wL 47 (t - 1 - nv) (sL (wI 4603 (nI (t1 - 1)) S2) 47 (t1 - 1)) (wI 4603 (nI (t1 - 1)) S2)) 48 (t1 - 1)) (wL 47 (t - 1 - nv) (sL (wI 4603 (nI (t1 - 1)) S2) 47 (t1 - 1)) (wI 4603 (nI (t1 - 1)) S2))) none S3) : Bod (d + 8) 188 0 [(0, .ref 46), (1, .int (nI nv))] [] S none (S3) := by
  refine Bod.go dc_188_0 rfl ?_
  refine Bod.go dc_188_1 rfl ?_
  refine Bod.virt (r := []) dc_188_2 kr_188_26 ⟨Or.inl rfl, ow_133, cl_9⟩ (by rw [np_133]; rfl) (by rw [np_133]; rfl) (ob_of (mk_46 _)) (Nat.le_of_ble_eq_true rfl) (c1  ) ?_
  show Bod _ _ _ _ [_] _ _ _
  refine Bod.ifF dc_188_5 rfl (k1_eq_F (k_ne 1 0 rfl rfl (by omega) (by omega) (by omega))) ?_
  refine Bod.go dc_188_8 rfl ?_
  refine Bod.ifT dc_188_9 rfl (k1_ne_T (k_ne nv 0 rfl rfl (by omega) (by omega) (by omega))) ?_
  refine Bod.go dc_188_13 rfl ?_
  refine Bod.get dc_188_14 fr_188_22 (mk_46 _) rfl ?_
  refine Bod.eqI (nI t) (by first | (simp (disch := omega) only [rI, rIe, rA, rIA, rLA, rJA, rVI, rQI, rVA, rQA, upd_at,  rAI, rLI, rJI, nI_add, pk_sub, kc_0, kc_1, kc_2, kc_3, kc_4, kc_5, reduceIte, Nat.reduceEqDiff, Nat.add_zero, rI_hold, rI_hold, rL_hold, ht]; done) | (simp (disch := omega) only [rI, rIe, rA, rIA, rLA, rJA, rVI, rQI, rVA, rQA, upd_at,  rAI, rLI, rJI, nI_add, pk_sub, kc_0, kc_1, kc_2, kc_3, kc_4, kc_5, reduceIte, Nat.reduceEqDiff, Nat.add_zero, rI_hold, rI_hold, rL_hold, ht]; exact congrArg nI (by omega))) ?_
  refine Bod.ic 1 (by decide) dc_188_17 ?_
  refine Bod.subN (t - 1) (by omega) (by omega) dc_188_18 ?_
  refine Bod.go dc_188_19 rfl ?_
  refine Bod.subN (t - 1 - nv) (by omega) (by omega) dc_188_20 ?_
  refine Bod.istn dc_188_21 (by rw [ml_188]; exact Nat.le_of_ble_eq_true rfl) ?_
  refine Bod.go dc_188_22 rfl ?_
  refine Bod.get dc_188_23 fr_188_15 (mk_46 _) rfl ?_
  refine Bod.go dc_188_26 rfl ?_
  refine Bod.laldN (t - 1 - nv) rfl (by omega) (by omega) dc_188_27 (mk_47 _) ?_
  refine Bod.go dc_188_28 rfl ?_
  refine Bod.get dc_188_29 fr_188_19 (mk_46 _) rfl ?_
  refine Bod.go dc_188_32 rfl ?_
  refine Bod.laldN (t - 1 - nv) rfl (by omega) (by omega) dc_188_33 (mk_48 _) ?_
  refine Bod.stat (r := []) dc_188_34 kr_188_37 (Or.inr rfl) (by rw [np_137]; rfl) (by rw [np_137]; rfl) (by rw [np_137]; exact Nat.le_of_ble_eq_true rfl) (Nat.le_of_ble_eq_true rfl) (c2  ) ?_
  show Bod _ _ _ _ [_] _ _ _
  refine Bod.istn dc_188_37 (by rw [ml_188]; exact Nat.le_of_ble_eq_true rfl) ?_
  refine Bod.go dc_188_38 rfl ?_
  refine Bod.go dc_188_39 rfl ?_
  refine Bod.get dc_188_40 fr_188_22 (mk_46 _) rfl ?_
  refine Bod.eqI (nI t1) (by first | (simp (disch := omega) only [rI, rIe, rA, rIA, rLA, rJA, rVI, rQI, rVA, rQA, upd_at,  rAI, rLI, rJI, nI_add, pk_sub, kc_0, kc_1, kc_2, kc_3, kc_4, kc_5, reduceIte, Nat.reduceEqDiff, Nat.add_zero, rI_hold, rI_hold, rL_hold, ht, ht1]; done) | (simp (disch := omega) only [rI, rIe, rA, rIA, rLA, rJA, rVI, rQI, rVA, rQA, upd_at,  rAI, rLI, rJI, nI_add, pk_sub, kc_0, kc_1, kc_2, kc_3, kc_4, kc_5, reduceIte, Nat.reduceEqDiff, Nat.add_zero, rI_hold, rI_hold, rL_hold, ht, ht1]; exact congrArg nI (by omega))) ?_
  refine Bod.ic 1 (by decide) dc_188_43 ?_
  refine Bod.subN (t1 - 1) (by omega) (by omega) dc_188_44 ?_
  refine Bod.put dc_188_45 fr_188_22 (mk_46 _) (Nat.le_of_ble_eq_true rfl) pf_9_3 (st_4603 _ _) (mu_I _ _ _) ?_
  refine Bod.go dc_188_48 rfl ?_
  refine Bod.get dc_188_49 fr_188_15 (mk_46 _) rfl ?_
  refine Bod.go dc_188_52 rfl ?_
  refine Bod.go dc_188_53 rfl ?_
  refine Bod.get dc_188_54 fr_188_15 (mk_46 _) rfl ?_
  refine Bod.go dc_188_57 rfl ?_
  refine Bod.get dc_188_58 fr_188_22 (mk_46 _) rfl ?_
  refine Bod.eqI (nI (t1 - 1)) (by first | (simp (disch := omega) only [rI, rIe, rA, rIA, rLA, rJA, rVI, rQI, rVA, rQA, upd_at,  rAI, rLI, rJI, nI_add, pk_sub, kc_0, kc_1, kc_2, kc_3, kc_4, kc_5, reduceIte, Nat.reduceEqDiff, Nat.add_zero, rI_hold, rI_hold, rL_hold, ht, ht1]; done) | (simp (disch := omega) only [rI, rIe, rA, rIA, rLA, rJA, rVI, rQI, rVA, rQA, upd_at,  rAI, rLI, rJI, nI_add, pk_sub, kc_0, kc_1, kc_2, kc_3, kc_4, kc_5, reduceIte, Nat.reduceEqDiff, Nat.add_zero, rI_hold, rI_hold, rL_hold, ht, ht1]; exact congrArg nI (by omega))) ?_
  refine Bod.laldN (t1 - 1) rfl (by omega) (by omega) dc_188_61 (mk_47 _) ?_
  refine Bod.lastN (t - 1 - nv) rfl (by omega) (by omega) dc_188_62 (mk_47 _) (sa_47 _ _ _) (mu_L _ _ _ _) ?_
  refine Bod.go dc_188_63 rfl ?_
  refine Bod.get dc_188_64 fr_188_19 (mk_46 _) rfl ?_
  refine Bod.go dc_188_67 rfl ?_
  refine Bod.go dc_188_68 rfl ?_
  refine Bod.get dc_188_69 fr_188_19 (mk_46 _) rfl ?_
  refine Bod.go dc_188_72 rfl ?_
  refine Bod.get dc_188_73 fr_188_22 (mk_46 _) rfl ?_
  refine Bod.eqI (nI (t1 - 1)) (by first | (simp (disch := omega) only [rI, rIe, rA, rIA, rLA, rJA, rVI, rQI, rVA, rQA, upd_at,  rAI, rLI, rJI, nI_add, pk_sub, kc_0, kc_1, kc_2, kc_3, kc_4, kc_5, reduceIte, Nat.reduceEqDiff, Nat.add_zero, rI_hold, rI_hold, rL_hold, ht, ht1]; done) | (simp (disch := omega) only [rI, rIe, rA, rIA, rLA, rJA, rVI, rQI, rVA, rQA, upd_at,  rAI, rLI, rJI, nI_add, pk_sub, kc_0, kc_1, kc_2, kc_3, kc_4, kc_5, reduceIte, Nat.reduceEqDiff, Nat.add_zero, rI_hold, rI_hold, rL_hold, ht, ht1]; exact congrArg nI (by omega))) ?_
  refine Bod.laldN (t1 - 1) rfl (by omega) (by omega) dc_188_76 (mk_48 _) ?_
  refine Bod.lastN (t - 1 - nv) rfl (by omega) (by omega) dc_188_77 (mk_48 _) (sa_48 _ _ _) (mu_L _ _ _ _) ?_
  refine Bod.go dc_188_78 rfl ?_
  refine Bod.get dc_188_79 fr_188_9 (mk_46 _) rfl ?_
  refine Bod.go dc_188_82 rfl ?_
  refine Bod.get dc_188_83 fr_188_9 (mk_46 _) rfl ?_
  refine Bod.get dc_188_86 fr_188_50 (mk_2 _) rfl ?_
  refine Bod.go dc_188_89 rfl ?_
  refine Bod.virt (r := []) dc_188_90 kr_188_58 ⟨Or.inr rfl, ow_142, cl_2⟩ (by rw [np_142]; rfl) (by rw [np_142]; rfl) (ob_of (mk_2 _)) (Nat.le_of_ble_eq_true rfl) (c3  ) ?_
  show Bod _ _ _ _ [] _ _ _
  exact Bod.retV dc_188_93 rt_188
theorem mRp_2 {d : Nat} {S : cS} {nv : Nat} {S1 : cS} (mnv : nv < 2 ^ 20) (c1 : Ans (d + 8) 133 [.ref 46, .int (nI nv)] S (some (.int (nI 1))) S1) (b1 : nv = 0) : Bod (d + 8) 188 0 [(0, .ref 46), (1, .int (nI nv))] [] S none (S1) := by
  refine Bod.go dc_188_0 rfl ?_
  refine Bod.go dc_188_1 rfl ?_
  refine Bod.virt (r := []) dc_188_2 kr_188_26 ⟨Or.inl rfl, ow_133, cl_9⟩ (by rw [np_133]; rfl) (by rw [np_133]; rfl) (ob_of (mk_46 _)) (Nat.le_of_ble_eq_true rfl) (c1  ) ?_
  show Bod _ _ _ _ [_] _ _ _
  refine Bod.ifF dc_188_5 rfl (k1_eq_F (k_ne 1 0 rfl rfl (by omega) (by omega) (by omega))) ?_
  refine Bod.go dc_188_8 rfl ?_
  refine Bod.ifF dc_188_9 rfl (k1_ne_F (k_eq nv 0 rfl rfl (by omega))) ?_
  exact Bod.retV dc_188_12 rt_188
theorem mRp_3 {d : Nat} {S : cS} {nv : Nat} {S1 : cS} (mnv : nv < 2 ^ 20) (c1 : Ans (d + 8) 133 [.ref 46, .int (nI nv)] S (some (.int (nI 0))) S1) : Bod (d + 8) 188 0 [(0, .ref 46), (1, .int (nI nv))] [] S none (S1) := by
  refine Bod.go dc_188_0 rfl ?_
  refine Bod.go dc_188_1 rfl ?_
  refine Bod.virt (r := []) dc_188_2 kr_188_26 ⟨Or.inl rfl, ow_133, cl_9⟩ (by rw [np_133]; rfl) (by rw [np_133]; rfl) (ob_of (mk_46 _)) (Nat.le_of_ble_eq_true rfl) (c1  ) ?_
  show Bod _ _ _ _ [_] _ _ _
  refine Bod.ifT dc_188_5 rfl (k1_eq_T (k_eq 0 0 rfl rfl (by omega))) ?_
  exact Bod.retV dc_188_12 rt_188
theorem mOb_1 {d : Nat} {S : cS} {nv : Nat} {kd : Nat} {S1 : cS} {a : Nat} {S2 : cS} {a1 : Nat} (mnv : nv < 2 ^ 20) (mkd : kd < 2 ^ 20) (ma : a < 2 ^ 20) (c1 : Ans (d + 8) 136 [.ref 46, .int (nI nv)] S (some (.int (nI a))) S1) (ma1 : a1 < 2 ^ 20) (c2 : Ans (d + 8) 138 [.ref 2, .int (nI a)] S1 (some (.int (nI a1))) S2) (b1 : a1 ≠ kd) : Bod (d + 8) 152 0 [(0, .ref 46), (1, .int (nI nv)), (2, .int (nI kd))] [] S (some (.int (nI 0))) (S2) := by
  refine Bod.go dc_152_0 rfl ?_
  refine Bod.go dc_152_1 rfl ?_
  refine Bod.virt (r := []) dc_152_2 kr_152_41 ⟨Or.inl rfl, ow_136, cl_9⟩ (by rw [np_136]; rfl) (by rw [np_136]; rfl) (ob_of (mk_46 _)) (Nat.le_of_ble_eq_true rfl) (c1  ) ?_
  show Bod _ _ _ _ [_] _ _ _
  refine Bod.istn dc_152_5 (by rw [ml_152]; exact Nat.le_of_ble_eq_true rfl) ?_
  refine Bod.go dc_152_6 rfl ?_
  refine Bod.get dc_152_7 fr_152_9 (mk_46 _) rfl ?_
  refine Bod.go dc_152_10 rfl ?_
  refine Bod.virt (r := []) dc_152_11 kr_152_45 ⟨Or.inr rfl, ow_138, cl_2⟩ (by rw [np_138]; rfl) (by rw [np_138]; rfl) (ob_of (mk_2 _)) (Nat.le_of_ble_eq_true rfl) (c2  ) ?_
  show Bod _ _ _ _ [_] _ _ _
  refine Bod.go dc_152_14 rfl ?_
  refine Bod.icT dc_152_15 rfl (k2_ne_T (k_ne a1 kd rfl rfl (by omega) (by omega) (by omega))) ?_
  refine Bod.ic 0 (by decide) dc_152_22 ?_
  exact Bod.retI dc_152_23 rt_152
theorem mOb_2 {d : Nat} {S : cS} {nv : Nat} {kd : Nat} {S1 : cS} {a : Nat} {S2 : cS} {a1 : Nat} (mnv : nv < 2 ^ 20) (mkd : kd < 2 ^ 20) (ma : a < 2 ^ 20) (c1 : Ans (d + 8) 136 [.ref 46, .int (nI nv)] S (some (.int (nI a))) S1) (ma1 : a1 < 2 ^ 20) (c2 : Ans (d + 8) 138 [.ref 2, .int (nI a)] S1 (some (.int (nI a1))) S2) (b1 : a1 = kd) : Bod (d + 8) 152 0 [(0, .ref 46), (1, .int (nI nv)), (2, .int (nI kd))] [] S (some (.int (nI a))) (S2) := by
  refine Bod.go dc_152_0 rfl ?_
  refine Bod.go dc_152_1 rfl ?_
  refine Bod.virt (r := []) dc_152_2 kr_152_41 ⟨Or.inl rfl, ow_136, cl_9⟩ (by rw [np_136]; rfl) (by rw [np_136]; rfl) (ob_of (mk_46 _)) (Nat.le_of_ble_eq_true rfl) (c1  ) ?_
  show Bod _ _ _ _ [_] _ _ _
  refine Bod.istn dc_152_5 (by rw [ml_152]; exact Nat.le_of_ble_eq_true rfl) ?_
  refine Bod.go dc_152_6 rfl ?_
  refine Bod.get dc_152_7 fr_152_9 (mk_46 _) rfl ?_
  refine Bod.go dc_152_10 rfl ?_
  refine Bod.virt (r := []) dc_152_11 kr_152_45 ⟨Or.inr rfl, ow_138, cl_2⟩ (by rw [np_138]; rfl) (by rw [np_138]; rfl) (ob_of (mk_2 _)) (Nat.le_of_ble_eq_true rfl) (c2  ) ?_
  show Bod _ _ _ _ [_] _ _ _
  refine Bod.go dc_152_14 rfl ?_
  refine Bod.icF dc_152_15 rfl (k2_ne_F (k_eq a1 kd rfl rfl (by omega))) ?_
  refine Bod.go dc_152_18 rfl ?_
  refine Bod.go dc_152_19 rfl ?_
  exact Bod.retI dc_152_23 rt_152
theorem xsw_131_10 : ∀ b, b < 64 → (b = 1 ∨ b = 2 ∨ b = 3 ∨ sm_br (.tableswitch (57) 1 3 #[26, 28, 44]) 26 10 [.int (nI b)] = some (67, [])) := by decide +kernel
theorem mTr_1 {d : Nat} {S : cS} {nv : Nat} {S1 : cS} {u : Int64} {S2 : cS} {a : Nat} (mnv : nv < 2 ^ 20) (c1 : Ans (d + 8) 132 [.ref 46, .int (nI nv)] S (some (.long u)) S1) (ma : a < 2 ^ 20) (c2 : Ans (d + 8) 134 [.long u] S1 (some (.int (nI a))) S2) (sw5 : a = 1) : Bod (d + 8) 131 0 [(0, .ref 46), (1, .int (nI nv))] [] S (some (.int 0)) (S2) := by
  refine Bod.go dc_131_0 rfl ?_
  refine Bod.go dc_131_1 rfl ?_
  refine Bod.virt (r := []) dc_131_2 kr_131_30 ⟨Or.inl rfl, ow_132, cl_9⟩ (by rw [np_132]; rfl) (by rw [np_132]; rfl) (ob_of (mk_46 _)) (Nat.le_of_ble_eq_true rfl) (c1  ) ?_
  show Bod _ _ _ _ [_] _ _ _
  refine Bod.lstn dc_131_5 (by rw [ml_131]; exact Nat.le_of_ble_eq_true rfl) ?_
  refine Bod.go dc_131_6 rfl ?_
  refine Bod.stat (r := []) dc_131_7 kr_131_65 (Or.inr rfl) (by rw [np_134]; rfl) (by rw [np_134]; rfl) (by rw [np_134]; exact Nat.le_of_ble_eq_true rfl) (Nat.le_of_ble_eq_true rfl) (c2  ) ?_
  show Bod _ _ _ _ [_] _ _ _
  refine Bod.sw (t := 36) dc_131_10 rfl rfl (by rw [sw5]; decide +kernel) ?_
  refine Bod.ic 0 (by decide) dc_131_36 ?_
  exact Bod.retZ dc_131_37 rt_131 (Or.inl rfl)
theorem mTr_2 {d : Nat} {S : cS} {nv : Nat} {S1 : cS} {u : Int64} {S2 : cS} {a : Nat} {S3 : cS} {u1 : Int64} (mnv : nv < 2 ^ 20) (c1 : Ans (d + 8) 132 [.ref 46, .int (nI nv)] S (some (.long u)) S1) (ma : a < 2 ^ 20) (c2 : Ans (d + 8) 134 [.long u] S1 (some (.int (nI a))) S2) (sw5 : a = 2) (c3 : Ans (d + 8) 135 [.ref 46, .int (nI nv)] S2 (some (.long u1)) S3) (w7 : sm_c1 .eq (lg_cmp u1 0) true false = true) : Bod (d + 8) 131 0 [(0, .ref 46), (1, .int (nI nv))] [] S (some (.int 0)) (S3) := by
  refine Bod.go dc_131_0 rfl ?_
  refine Bod.go dc_131_1 rfl ?_
  refine Bod.virt (r := []) dc_131_2 kr_131_30 ⟨Or.inl rfl, ow_132, cl_9⟩ (by rw [np_132]; rfl) (by rw [np_132]; rfl) (ob_of (mk_46 _)) (Nat.le_of_ble_eq_true rfl) (c1  ) ?_
  show Bod _ _ _ _ [_] _ _ _
  refine Bod.lstn dc_131_5 (by rw [ml_131]; exact Nat.le_of_ble_eq_true rfl) ?_
  refine Bod.go dc_131_6 rfl ?_
  refine Bod.stat (r := []) dc_131_7 kr_131_65 (Or.inr rfl) (by rw [np_134]; rfl) (by rw [np_134]; rfl) (by rw [np_134]; exact Nat.le_of_ble_eq_true rfl) (Nat.le_of_ble_eq_true rfl) (c2  ) ?_
  show Bod _ _ _ _ [_] _ _ _
  refine Bod.sw (t := 38) dc_131_10 rfl rfl (by rw [sw5]; decide +kernel) ?_
  refine Bod.go dc_131_38 rfl ?_
  refine Bod.go dc_131_39 rfl ?_
  refine Bod.virt (r := []) dc_131_40 kr_131_34 ⟨Or.inl rfl, ow_135, cl_9⟩ (by rw [np_135]; rfl) (by rw [np_135]; rfl) (ob_of (mk_46 _)) (Nat.le_of_ble_eq_true rfl) (c3  ) ?_
  show Bod _ _ _ _ [_] _ _ _
  refine Bod.go dc_131_43 rfl ?_
  refine Bod.go dc_131_44 rfl ?_
  refine Bod.ifT dc_131_45 rfl w7 ?_
  refine Bod.ic 0 (by decide) dc_131_52 ?_
  exact Bod.retZ dc_131_53 rt_131 (Or.inl rfl)
theorem mTr_3 {d : Nat} {S : cS} {nv : Nat} {S1 : cS} {u : Int64} {S2 : cS} {a : Nat} {S3 : cS} {u1 : Int64} (mnv : nv < 2 ^ 20) (c1 : Ans (d + 8) 132 [.ref 46, .int (nI nv)] S (some (.long u)) S1) (ma : a < 2 ^ 20) (c2 : Ans (d + 8) 134 [.long u] S1 (some (.int (nI a))) S2) (sw5 : a = 2) (c3 : Ans (d + 8) 135 [.ref 46, .int (nI nv)] S2 (some (.long u1)) S3) (w7 : sm_c1 .eq (lg_cmp u1 0) true false = false) : Bod (d + 8) 131 0 [(0, .ref 46), (1, .int (nI nv))] [] S (some (.int 1)) (S3) := by
  refine Bod.go dc_131_0 rfl ?_
  refine Bod.go dc_131_1 rfl ?_
  refine Bod.virt (r := []) dc_131_2 kr_131_30 ⟨Or.inl rfl, ow_132, cl_9⟩ (by rw [np_132]; rfl) (by rw [np_132]; rfl) (ob_of (mk_46 _)) (Nat.le_of_ble_eq_true rfl) (c1  ) ?_
  show Bod _ _ _ _ [_] _ _ _
  refine Bod.lstn dc_131_5 (by rw [ml_131]; exact Nat.le_of_ble_eq_true rfl) ?_
  refine Bod.go dc_131_6 rfl ?_
  refine Bod.stat (r := []) dc_131_7 kr_131_65 (Or.inr rfl) (by rw [np_134]; rfl) (by rw [np_134]; rfl) (by rw [np_134]; exact Nat.le_of_ble_eq_true rfl) (Nat.le_of_ble_eq_true rfl) (c2  ) ?_
  show Bod _ _ _ _ [_] _ _ _
  refine Bod.sw (t := 38) dc_131_10 rfl rfl (by rw [sw5]; decide +kernel) ?_
  refine Bod.go dc_131_38 rfl ?_
  refine Bod.go dc_131_39 rfl ?_
  refine Bod.virt (r := []) dc_131_40 kr_131_34 ⟨Or.inl rfl, ow_135, cl_9⟩ (by rw [np_135]; rfl) (by rw [np_135]; rfl) (ob_of (mk_46 _)) (Nat.le_of_ble_eq_true rfl) (c3  ) ?_
  show Bod _ _ _ _ [_] _ _ _
  refine Bod.go dc_131_43 rfl ?_
  refine Bod.go dc_131_44 rfl ?_
  refine Bod.ifF dc_131_45 rfl w7 ?_
  refine Bod.ic 1 (by decide) dc_131_48 ?_
  refine Bod.go dc_131_49 rfl ?_
  exact Bod.retZ dc_131_53 rt_131 (Or.inr rfl)
theorem mTr_4 {d : Nat} {S : cS} {nv : Nat} {S1 : cS} {u : Int64} {S2 : cS} {a : Nat} {S3 : cS} {a1 : Nat} (mnv : nv < 2 ^ 20) (c1 : Ans (d + 8) 132 [.ref 46, .int (nI nv)] S (some (.long u)) S1) (ma : a < 2 ^ 20) (c2 : Ans (d + 8) 134 [.long u] S1 (some (.int (nI a))) S2) (sw5 : a = 3) (ma1 : a1 < 2 ^ 20) (c3 : Ans (d + 8) 47 [.long u] S2 (some (.int (nI a1))) S3) (b1 : a1 ≤ 0) : Bod (d + 8) 131 0 [(0, .ref 46), (1, .int (nI nv))] [] S (some (.int 0)) (S3) := by
  refine Bod.go dc_131_0 rfl ?_
  refine Bod.go dc_131_1 rfl ?_
  refine Bod.virt (r := []) dc_131_2 kr_131_30 ⟨Or.inl rfl, ow_132, cl_9⟩ (by rw [np_132]; rfl) (by rw [np_132]; rfl) (ob_of (mk_46 _)) (Nat.le_of_ble_eq_true rfl) (c1  ) ?_
  show Bod _ _ _ _ [_] _ _ _
  refine Bod.lstn dc_131_5 (by rw [ml_131]; exact Nat.le_of_ble_eq_true rfl) ?_
  refine Bod.go dc_131_6 rfl ?_
  refine Bod.stat (r := []) dc_131_7 kr_131_65 (Or.inr rfl) (by rw [np_134]; rfl) (by rw [np_134]; rfl) (by rw [np_134]; exact Nat.le_of_ble_eq_true rfl) (Nat.le_of_ble_eq_true rfl) (c2  ) ?_
  show Bod _ _ _ _ [_] _ _ _
  refine Bod.sw (t := 54) dc_131_10 rfl rfl (by rw [sw5]; decide +kernel) ?_
  refine Bod.go dc_131_54 rfl ?_
  refine Bod.stat (r := []) dc_131_55 kr_131_69 (Or.inr rfl) (by rw [np_47]; rfl) (by rw [np_47]; rfl) (by rw [np_47]; exact Nat.le_of_ble_eq_true rfl) (Nat.le_of_ble_eq_true rfl) (c3  ) ?_
  show Bod _ _ _ _ [_] _ _ _
  refine Bod.ifT dc_131_58 rfl (k1_le_T (k_eq a1 0 (by first | (simp (disch := omega) only [rI, rIe, rA, rIA, rLA, rJA, rVI, rQI, rVA, rQA, upd_at,  rAI, rLI, rJI, nI_add, pk_sub, kc_0, kc_1, kc_2, kc_3, kc_4, kc_5, reduceIte, Nat.reduceEqDiff, Nat.add_zero, rI_hold, rI_hold, rL_hold]; done) | (simp (disch := omega) only [rI, rIe, rA, rIA, rLA, rJA, rVI, rQI, rVA, rQA, upd_at,  rAI, rLI, rJI, nI_add, pk_sub, kc_0, kc_1, kc_2, kc_3, kc_4, kc_5, reduceIte, Nat.reduceEqDiff, Nat.add_zero, rI_hold, rI_hold, rL_hold]; exact congrArg nI (by omega))) rfl (by omega))) ?_
  refine Bod.ic 0 (by decide) dc_131_65 ?_
  exact Bod.retZ dc_131_66 rt_131 (Or.inl rfl)
theorem mTr_5 {d : Nat} {S : cS} {nv : Nat} {S1 : cS} {u : Int64} {S2 : cS} {a : Nat} {S3 : cS} {a1 : Nat} (mnv : nv < 2 ^ 20) (c1 : Ans (d + 8) 132 [.ref 46, .int (nI nv)] S (some (.long u)) S1) (ma : a < 2 ^ 20) (c2 : Ans (d + 8) 134 [.long u] S1 (some (.int (nI a))) S2) (sw5 : a = 3) (ma1 : a1 < 2 ^ 20) (c3 : Ans (d + 8) 47 [.long u] S2 (some (.int (nI a1))) S3) (b1 : 0 < a1) : Bod (d + 8) 131 0 [(0, .ref 46), (1, .int (nI nv))] [] S (some (.int 1)) (S3) := by
  refine Bod.go dc_131_0 rfl ?_
  refine Bod.go dc_131_1 rfl ?_
  refine Bod.virt (r := []) dc_131_2 kr_131_30 ⟨Or.inl rfl, ow_132, cl_9⟩ (by rw [np_132]; rfl) (by rw [np_132]; rfl) (ob_of (mk_46 _)) (Nat.le_of_ble_eq_true rfl) (c1  ) ?_
  show Bod _ _ _ _ [_] _ _ _
  refine Bod.lstn dc_131_5 (by rw [ml_131]; exact Nat.le_of_ble_eq_true rfl) ?_
  refine Bod.go dc_131_6 rfl ?_
  refine Bod.stat (r := []) dc_131_7 kr_131_65 (Or.inr rfl) (by rw [np_134]; rfl) (by rw [np_134]; rfl) (by rw [np_134]; exact Nat.le_of_ble_eq_true rfl) (Nat.le_of_ble_eq_true rfl) (c2  ) ?_
  show Bod _ _ _ _ [_] _ _ _
  refine Bod.sw (t := 54) dc_131_10 rfl rfl (by rw [sw5]; decide +kernel) ?_
  refine Bod.go dc_131_54 rfl ?_
  refine Bod.stat (r := []) dc_131_55 kr_131_69 (Or.inr rfl) (by rw [np_47]; rfl) (by rw [np_47]; rfl) (by rw [np_47]; exact Nat.le_of_ble_eq_true rfl) (Nat.le_of_ble_eq_true rfl) (c3  ) ?_
  show Bod _ _ _ _ [_] _ _ _
  refine Bod.ifF dc_131_58 rfl (k1_le_F a1 rfl (by omega) (by omega)) ?_
  refine Bod.ic 1 (by decide) dc_131_61 ?_
  refine Bod.go dc_131_62 rfl ?_
  exact Bod.retZ dc_131_66 rt_131 (Or.inr rfl)
theorem mTr_6 {d : Nat} {S : cS} {nv : Nat} {S1 : cS} {u : Int64} {S2 : cS} {a : Nat} {S3 : cS} {a1 : Nat} {S4 : cS} {a2 : Nat} {S5 : cS} {a3 : Nat} (mnv : nv < 2 ^ 20) (c1 : Ans (d + 8) 132 [.ref 46, .int (nI nv)] S (some (.long u)) S1) (ma : a < 2 ^ 20) (c2 : Ans (d + 8) 134 [.long u] S1 (some (.int (nI a))) S2) (b64 : a < 64) (n1 : a ≠ 1) (n2 : a ≠ 2) (n3 : a ≠ 3) (ma1 : a1 < 2 ^ 20) (c3 : Ans (d + 8) 136 [.ref 46, .int (nI nv)] S2 (some (.int (nI a1))) S3) (ma2 : a2 < 2 ^ 20) (c4 : Ans (d + 8) 138 [.ref 2, .int (nI a1)] S3 (some (.int (nI a2))) S4) (b1 : a2 = 1) (ma3 : a3 < 2 ^ 20) (c5 : Ans (d + 8) 140 [.ref 2, .int (nI a1)] S4 (some (.int (nI a3))) S5) (b2 : a3 ≤ 0) : Bod (d + 8) 131 0 [(0, .ref 46), (1, .int (nI nv))] [] S (some (.int 0)) (S5) := by
  refine Bod.go dc_131_0 rfl ?_
  refine Bod.go dc_131_1 rfl ?_
  refine Bod.virt (r := []) dc_131_2 kr_131_30 ⟨Or.inl rfl, ow_132, cl_9⟩ (by rw [np_132]; rfl) (by rw [np_132]; rfl) (ob_of (mk_46 _)) (Nat.le_of_ble_eq_true rfl) (c1  ) ?_
  show Bod _ _ _ _ [_] _ _ _
  refine Bod.lstn dc_131_5 (by rw [ml_131]; exact Nat.le_of_ble_eq_true rfl) ?_
  refine Bod.go dc_131_6 rfl ?_
  refine Bod.stat (r := []) dc_131_7 kr_131_65 (Or.inr rfl) (by rw [np_134]; rfl) (by rw [np_134]; rfl) (by rw [np_134]; exact Nat.le_of_ble_eq_true rfl) (Nat.le_of_ble_eq_true rfl) (c2  ) ?_
  show Bod _ _ _ _ [_] _ _ _
  refine Bod.sw (t := 67) dc_131_10 rfl rfl (((((xsw_131_10 a b64).resolve_left n1).resolve_left n2).resolve_left n3)) ?_
  refine Bod.go dc_131_67 rfl ?_
  refine Bod.go dc_131_68 rfl ?_
  refine Bod.virt (r := []) dc_131_69 kr_131_41 ⟨Or.inl rfl, ow_136, cl_9⟩ (by rw [np_136]; rfl) (by rw [np_136]; rfl) (ob_of (mk_46 _)) (Nat.le_of_ble_eq_true rfl) (c3  ) ?_
  show Bod _ _ _ _ [_] _ _ _
  refine Bod.ist dc_131_72 (by rw [ml_131]; exact Nat.le_of_ble_eq_true rfl) ?_
  refine Bod.go dc_131_74 rfl ?_
  refine Bod.get dc_131_75 fr_131_9 (mk_46 _) rfl ?_
  refine Bod.go dc_131_78 rfl ?_
  refine Bod.virt (r := []) dc_131_80 kr_131_45 ⟨Or.inr rfl, ow_138, cl_2⟩ (by rw [np_138]; rfl) (by rw [np_138]; rfl) (ob_of (mk_2 _)) (Nat.le_of_ble_eq_true rfl) (c4  ) ?_
  show Bod _ _ _ _ [_] _ _ _
  refine Bod.ist dc_131_83 (by rw [ml_131]; exact Nat.le_of_ble_eq_true rfl) ?_
  refine Bod.go dc_131_85 rfl ?_
  refine Bod.ic 1 (by decide) dc_131_87 ?_
  refine Bod.icT dc_131_88 rfl (k2_eq_T (k_eq a2 1 rfl rfl (by omega))) ?_
  refine Bod.go dc_131_97 rfl ?_
  refine Bod.get dc_131_98 fr_131_9 (mk_46 _) rfl ?_
  refine Bod.go dc_131_101 rfl ?_
  refine Bod.virt (r := []) dc_131_103 kr_131_72 ⟨Or.inr rfl, ow_140, cl_2⟩ (by rw [np_140]; rfl) (by rw [np_140]; rfl) (ob_of (mk_2 _)) (Nat.le_of_ble_eq_true rfl) (c5  ) ?_
  show Bod _ _ _ _ [_] _ _ _
  refine Bod.ifT dc_131_106 rfl (k1_le_T (k_eq a3 0 (by first | (simp (disch := omega) only [rI, rIe, rA, rIA, rLA, rJA, rVI, rQI, rVA, rQA, upd_at,  rAI, rLI, rJI, nI_add, pk_sub, kc_0, kc_1, kc_2, kc_3, kc_4, kc_5, reduceIte, Nat.reduceEqDiff, Nat.add_zero, rI_hold, rI_hold, rL_hold]; done) | (simp (disch := omega) only [rI, rIe, rA, rIA, rLA, rJA, rVI, rQI, rVA, rQA, upd_at,  rAI, rLI, rJI, nI_add, pk_sub, kc_0, kc_1, kc_2, kc_3, kc_4, kc_5, reduceIte, Nat.reduceEqDiff, Nat.add_zero, rI_hold, rI_hold, rL_hold]; exact congrArg nI (by omega))) rfl (by omega))) ?_
  refine Bod.ic 0 (by decide) dc_131_113 ?_
  exact Bod.retZ dc_131_114 rt_131 (Or.inl rfl)
theorem mTr_7 {d : Nat} {S : cS} {nv : Nat} {S1 : cS} {u : Int64} {S2 : cS} {a : Nat} {S3 : cS} {a1 : Nat} {S4 : cS} {a2 : Nat} {S5 : cS} {a3 : Nat} (mnv : nv < 2 ^ 20) (c1 : Ans (d + 8) 132 [.ref 46, .int (nI nv)] S (some (.long u)) S1) (ma : a < 2 ^ 20) (c2 : Ans (d + 8) 134 [.long u] S1 (some (.int (nI a))) S2) (b64 : a < 64) (n1 : a ≠ 1) (n2 : a ≠ 2) (n3 : a ≠ 3) (ma1 : a1 < 2 ^ 20) (c3 : Ans (d + 8) 136 [.ref 46, .int (nI nv)] S2 (some (.int (nI a1))) S3) (ma2 : a2 < 2 ^ 20) (c4 : Ans (d + 8) 138 [.ref 2, .int (nI a1)] S3 (some (.int (nI a2))) S4) (b1 : a2 = 1) (ma3 : a3 < 2 ^ 20) (c5 : Ans (d + 8) 140 [.ref 2, .int (nI a1)] S4 (some (.int (nI a3))) S5) (b2 : 0 < a3) : Bod (d + 8) 131 0 [(0, .ref 46), (1, .int (nI nv))] [] S (some (.int 1)) (S5) := by
  refine Bod.go dc_131_0 rfl ?_
  refine Bod.go dc_131_1 rfl ?_
  refine Bod.virt (r := []) dc_131_2 kr_131_30 ⟨Or.inl rfl, ow_132, cl_9⟩ (by rw [np_132]; rfl) (by rw [np_132]; rfl) (ob_of (mk_46 _)) (Nat.le_of_ble_eq_true rfl) (c1  ) ?_
  show Bod _ _ _ _ [_] _ _ _
  refine Bod.lstn dc_131_5 (by rw [ml_131]; exact Nat.le_of_ble_eq_true rfl) ?_
  refine Bod.go dc_131_6 rfl ?_
  refine Bod.stat (r := []) dc_131_7 kr_131_65 (Or.inr rfl) (by rw [np_134]; rfl) (by rw [np_134]; rfl) (by rw [np_134]; exact Nat.le_of_ble_eq_true rfl) (Nat.le_of_ble_eq_true rfl) (c2  ) ?_
  show Bod _ _ _ _ [_] _ _ _
  refine Bod.sw (t := 67) dc_131_10 rfl rfl (((((xsw_131_10 a b64).resolve_left n1).resolve_left n2).resolve_left n3)) ?_
  refine Bod.go dc_131_67 rfl ?_
  refine Bod.go dc_131_68 rfl ?_
  refine Bod.virt (r := []) dc_131_69 kr_131_41 ⟨Or.inl rfl, ow_136, cl_9⟩ (by rw [np_136]; rfl) (by rw [np_136]; rfl) (ob_of (mk_46 _)) (Nat.le_of_ble_eq_true rfl) (c3  ) ?_
  show Bod _ _ _ _ [_] _ _ _
  refine Bod.ist dc_131_72 (by rw [ml_131]; exact Nat.le_of_ble_eq_true rfl) ?_
  refine Bod.go dc_131_74 rfl ?_
  refine Bod.get dc_131_75 fr_131_9 (mk_46 _) rfl ?_
  refine Bod.go dc_131_78 rfl ?_
  refine Bod.virt (r := []) dc_131_80 kr_131_45 ⟨Or.inr rfl, ow_138, cl_2⟩ (by rw [np_138]; rfl) (by rw [np_138]; rfl) (ob_of (mk_2 _)) (Nat.le_of_ble_eq_true rfl) (c4  ) ?_
  show Bod _ _ _ _ [_] _ _ _
  refine Bod.ist dc_131_83 (by rw [ml_131]; exact Nat.le_of_ble_eq_true rfl) ?_
  refine Bod.go dc_131_85 rfl ?_
  refine Bod.ic 1 (by decide) dc_131_87 ?_
  refine Bod.icT dc_131_88 rfl (k2_eq_T (k_eq a2 1 rfl rfl (by omega))) ?_
  refine Bod.go dc_131_97 rfl ?_
  refine Bod.get dc_131_98 fr_131_9 (mk_46 _) rfl ?_
  refine Bod.go dc_131_101 rfl ?_
  refine Bod.virt (r := []) dc_131_103 kr_131_72 ⟨Or.inr rfl, ow_140, cl_2⟩ (by rw [np_140]; rfl) (by rw [np_140]; rfl) (ob_of (mk_2 _)) (Nat.le_of_ble_eq_true rfl) (c5  ) ?_
  show Bod _ _ _ _ [_] _ _ _
  refine Bod.ifF dc_131_106 rfl (k1_le_F a3 rfl (by omega) (by omega)) ?_
  refine Bod.ic 1 (by decide) dc_131_109 ?_
  refine Bod.go dc_131_110 rfl ?_
  exact Bod.retZ dc_131_114 rt_131 (Or.inr rfl)
theorem mTr_8 {d : Nat} {S : cS} {nv : Nat} {S1 : cS} {u : Int64} {S2 : cS} {a : Nat} {S3 : cS} {a1 : Nat} {S4 : cS} {a2 : Nat} (mnv : nv < 2 ^ 20) (c1 : Ans (d + 8) 132 [.ref 46, .int (nI nv)] S (some (.long u)) S1) (ma : a < 2 ^ 20) (c2 : Ans (d + 8) 134 [.long u] S1 (some (.int (nI a))) S2) (b64 : a < 64) (n1 : a ≠ 1) (n2 : a ≠ 2) (n3 : a ≠ 3) (ma1 : a1 < 2 ^ 20) (c3 : Ans (d + 8) 136 [.ref 46, .int (nI nv)] S2 (some (.int (nI a1))) S3) (ma2 : a2 < 2 ^ 20) (c4 : Ans (d + 8) 138 [.ref 2, .int (nI a1)] S3 (some (.int (nI a2))) S4) (b1 : a2 ≠ 1) (b2 : a2 ≠ 2) : Bod (d + 8) 131 0 [(0, .ref 46), (1, .int (nI nv))] [] S (some (.int 1)) (S4) := by
  refine Bod.go dc_131_0 rfl ?_
  refine Bod.go dc_131_1 rfl ?_
  refine Bod.virt (r := []) dc_131_2 kr_131_30 ⟨Or.inl rfl, ow_132, cl_9⟩ (by rw [np_132]; rfl) (by rw [np_132]; rfl) (ob_of (mk_46 _)) (Nat.le_of_ble_eq_true rfl) (c1  ) ?_
  show Bod _ _ _ _ [_] _ _ _
  refine Bod.lstn dc_131_5 (by rw [ml_131]; exact Nat.le_of_ble_eq_true rfl) ?_
  refine Bod.go dc_131_6 rfl ?_
  refine Bod.stat (r := []) dc_131_7 kr_131_65 (Or.inr rfl) (by rw [np_134]; rfl) (by rw [np_134]; rfl) (by rw [np_134]; exact Nat.le_of_ble_eq_true rfl) (Nat.le_of_ble_eq_true rfl) (c2  ) ?_
  show Bod _ _ _ _ [_] _ _ _
  refine Bod.sw (t := 67) dc_131_10 rfl rfl (((((xsw_131_10 a b64).resolve_left n1).resolve_left n2).resolve_left n3)) ?_
  refine Bod.go dc_131_67 rfl ?_
  refine Bod.go dc_131_68 rfl ?_
  refine Bod.virt (r := []) dc_131_69 kr_131_41 ⟨Or.inl rfl, ow_136, cl_9⟩ (by rw [np_136]; rfl) (by rw [np_136]; rfl) (ob_of (mk_46 _)) (Nat.le_of_ble_eq_true rfl) (c3  ) ?_
  show Bod _ _ _ _ [_] _ _ _
  refine Bod.ist dc_131_72 (by rw [ml_131]; exact Nat.le_of_ble_eq_true rfl) ?_
  refine Bod.go dc_131_74 rfl ?_
  refine Bod.get dc_131_75 fr_131_9 (mk_46 _) rfl ?_
  refine Bod.go dc_131_78 rfl ?_
  refine Bod.virt (r := []) dc_131_80 kr_131_45 ⟨Or.inr rfl, ow_138, cl_2⟩ (by rw [np_138]; rfl) (by rw [np_138]; rfl) (ob_of (mk_2 _)) (Nat.le_of_ble_eq_true rfl) (c4  ) ?_
  show Bod _ _ _ _ [_] _ _ _
  refine Bod.ist dc_131_83 (by rw [ml_131]; exact Nat.le_of_ble_eq_true rfl) ?_
  refine Bod.go dc_131_85 rfl ?_
  refine Bod.ic 1 (by decide) dc_131_87 ?_
  refine Bod.icF dc_131_88 rfl (k2_eq_F (k_ne a2 1 rfl rfl (by omega) (by omega) (by omega))) ?_
  refine Bod.go dc_131_91 rfl ?_
  refine Bod.ic 2 (by decide) dc_131_93 ?_
  refine Bod.icT dc_131_94 rfl (k2_ne_T (k_ne a2 2 rfl rfl (by omega) (by omega) (by omega))) ?_
  refine Bod.ic 1 (by decide) dc_131_109 ?_
  refine Bod.go dc_131_110 rfl ?_
  exact Bod.retZ dc_131_114 rt_131 (Or.inr rfl)
theorem mTr_9 {d : Nat} {S : cS} {nv : Nat} {S1 : cS} {u : Int64} {S2 : cS} {a : Nat} {S3 : cS} {a1 : Nat} {S4 : cS} {a2 : Nat} {S5 : cS} {a3 : Nat} (mnv : nv < 2 ^ 20) (c1 : Ans (d + 8) 132 [.ref 46, .int (nI nv)] S (some (.long u)) S1) (ma : a < 2 ^ 20) (c2 : Ans (d + 8) 134 [.long u] S1 (some (.int (nI a))) S2) (b64 : a < 64) (n1 : a ≠ 1) (n2 : a ≠ 2) (n3 : a ≠ 3) (ma1 : a1 < 2 ^ 20) (c3 : Ans (d + 8) 136 [.ref 46, .int (nI nv)] S2 (some (.int (nI a1))) S3) (ma2 : a2 < 2 ^ 20) (c4 : Ans (d + 8) 138 [.ref 2, .int (nI a1)] S3 (some (.int (nI a2))) S4) (b1 : a2 ≠ 1) (b2 : a2 = 2) (ma3 : a3 < 2 ^ 20) (c5 : Ans (d + 8) 140 [.ref 2, .int (nI a1)] S4 (some (.int (nI a3))) S5) (b3 : a3 ≤ 0) : Bod (d + 8) 131 0 [(0, .ref 46), (1, .int (nI nv))] [] S (some (.int 0)) (S5) := by
  refine Bod.go dc_131_0 rfl ?_
  refine Bod.go dc_131_1 rfl ?_
  refine Bod.virt (r := []) dc_131_2 kr_131_30 ⟨Or.inl rfl, ow_132, cl_9⟩ (by rw [np_132]; rfl) (by rw [np_132]; rfl) (ob_of (mk_46 _)) (Nat.le_of_ble_eq_true rfl) (c1  ) ?_
  show Bod _ _ _ _ [_] _ _ _
  refine Bod.lstn dc_131_5 (by rw [ml_131]; exact Nat.le_of_ble_eq_true rfl) ?_
  refine Bod.go dc_131_6 rfl ?_
  refine Bod.stat (r := []) dc_131_7 kr_131_65 (Or.inr rfl) (by rw [np_134]; rfl) (by rw [np_134]; rfl) (by rw [np_134]; exact Nat.le_of_ble_eq_true rfl) (Nat.le_of_ble_eq_true rfl) (c2  ) ?_
  show Bod _ _ _ _ [_] _ _ _
  refine Bod.sw (t := 67) dc_131_10 rfl rfl (((((xsw_131_10 a b64).resolve_left n1).resolve_left n2).resolve_left n3)) ?_
  refine Bod.go dc_131_67 rfl ?_
  refine Bod.go dc_131_68 rfl ?_
  refine Bod.virt (r := []) dc_131_69 kr_131_41 ⟨Or.inl rfl, ow_136, cl_9⟩ (by rw [np_136]; rfl) (by rw [np_136]; rfl) (ob_of (mk_46 _)) (Nat.le_of_ble_eq_true rfl) (c3  ) ?_
  show Bod _ _ _ _ [_] _ _ _
  refine Bod.ist dc_131_72 (by rw [ml_131]; exact Nat.le_of_ble_eq_true rfl) ?_
  refine Bod.go dc_131_74 rfl ?_
  refine Bod.get dc_131_75 fr_131_9 (mk_46 _) rfl ?_
  refine Bod.go dc_131_78 rfl ?_
  refine Bod.virt (r := []) dc_131_80 kr_131_45 ⟨Or.inr rfl, ow_138, cl_2⟩ (by rw [np_138]; rfl) (by rw [np_138]; rfl) (ob_of (mk_2 _)) (Nat.le_of_ble_eq_true rfl) (c4  ) ?_
  show Bod _ _ _ _ [_] _ _ _
  refine Bod.ist dc_131_83 (by rw [ml_131]; exact Nat.le_of_ble_eq_true rfl) ?_
  refine Bod.go dc_131_85 rfl ?_
  refine Bod.ic 1 (by decide) dc_131_87 ?_
  refine Bod.icF dc_131_88 rfl (k2_eq_F (k_ne a2 1 rfl rfl (by omega) (by omega) (by omega))) ?_
  refine Bod.go dc_131_91 rfl ?_
  refine Bod.ic 2 (by decide) dc_131_93 ?_
  refine Bod.icF dc_131_94 rfl (k2_ne_F (k_eq a2 2 rfl rfl (by omega))) ?_
  refine Bod.go dc_131_97 rfl ?_
  refine Bod.get dc_131_98 fr_131_9 (mk_46 _) rfl ?_
  refine Bod.go dc_131_101 rfl ?_
  refine Bod.virt (r := []) dc_131_103 kr_131_72 ⟨Or.inr rfl, ow_140, cl_2⟩ (by rw [np_140]; rfl) (by rw [np_140]; rfl) (ob_of (mk_2 _)) (Nat.le_of_ble_eq_true rfl) (c5  ) ?_
  show Bod _ _ _ _ [_] _ _ _
  refine Bod.ifT dc_131_106 rfl (k1_le_T (k_eq a3 0 (by first | (simp (disch := omega) only [rI, rIe, rA, rIA, rLA, rJA, rVI, rQI, rVA, rQA, upd_at,  rAI, rLI, rJI, nI_add, pk_sub, kc_0, kc_1, kc_2, kc_3, kc_4, kc_5, reduceIte, Nat.reduceEqDiff, Nat.add_zero, rI_hold, rI_hold, rL_hold]; done) | (simp (disch := omega) only [rI, rIe, rA, rIA, rLA, rJA, rVI, rQI, rVA, rQA, upd_at,  rAI, rLI, rJI, nI_add, pk_sub, kc_0, kc_1, kc_2, kc_3, kc_4, kc_5, reduceIte, Nat.reduceEqDiff, Nat.add_zero, rI_hold, rI_hold, rL_hold]; exact congrArg nI (by omega))) rfl (by omega))) ?_
  refine Bod.ic 0 (by decide) dc_131_113 ?_
  exact Bod.retZ dc_131_114 rt_131 (Or.inl rfl)
theorem mTr_10 {d : Nat} {S : cS} {nv : Nat} {S1 : cS} {u : Int64} {S2 : cS} {a : Nat} {S3 : cS} {a1 : Nat} {S4 : cS} {a2 : Nat} {S5 : cS} {a3 : Nat} (mnv : nv < 2 ^ 20) (c1 : Ans (d + 8) 132 [.ref 46, .int (nI nv)] S (some (.long u)) S1) (ma : a < 2 ^ 20) (c2 : Ans (d + 8) 134 [.long u] S1 (some (.int (nI a))) S2) (b64 : a < 64) (n1 : a ≠ 1) (n2 : a ≠ 2) (n3 : a ≠ 3) (ma1 : a1 < 2 ^ 20) (c3 : Ans (d + 8) 136 [.ref 46, .int (nI nv)] S2 (some (.int (nI a1))) S3) (ma2 : a2 < 2 ^ 20) (c4 : Ans (d + 8) 138 [.ref 2, .int (nI a1)] S3 (some (.int (nI a2))) S4) (b1 : a2 ≠ 1) (b2 : a2 = 2) (ma3 : a3 < 2 ^ 20) (c5 : Ans (d + 8) 140 [.ref 2, .int (nI a1)] S4 (some (.int (nI a3))) S5) (b3 : 0 < a3) : Bod (d + 8) 131 0 [(0, .ref 46), (1, .int (nI nv))] [] S (some (.int 1)) (S5) := by
  refine Bod.go dc_131_0 rfl ?_
  refine Bod.go dc_131_1 rfl ?_
  refine Bod.virt (r := []) dc_131_2 kr_131_30 ⟨Or.inl rfl, ow_132, cl_9⟩ (by rw [np_132]; rfl) (by rw [np_132]; rfl) (ob_of (mk_46 _)) (Nat.le_of_ble_eq_true rfl) (c1  ) ?_
  show Bod _ _ _ _ [_] _ _ _
  refine Bod.lstn dc_131_5 (by rw [ml_131]; exact Nat.le_of_ble_eq_true rfl) ?_
  refine Bod.go dc_131_6 rfl ?_
  refine Bod.stat (r := []) dc_131_7 kr_131_65 (Or.inr rfl) (by rw [np_134]; rfl) (by rw [np_134]; rfl) (by rw [np_134]; exact Nat.le_of_ble_eq_true rfl) (Nat.le_of_ble_eq_true rfl) (c2  ) ?_
  show Bod _ _ _ _ [_] _ _ _
  refine Bod.sw (t := 67) dc_131_10 rfl rfl (((((xsw_131_10 a b64).resolve_left n1).resolve_left n2).resolve_left n3)) ?_
  refine Bod.go dc_131_67 rfl ?_
  refine Bod.go dc_131_68 rfl ?_
  refine Bod.virt (r := []) dc_131_69 kr_131_41 ⟨Or.inl rfl, ow_136, cl_9⟩ (by rw [np_136]; rfl) (by rw [np_136]; rfl) (ob_of (mk_46 _)) (Nat.le_of_ble_eq_true rfl) (c3  ) ?_
  show Bod _ _ _ _ [_] _ _ _
  refine Bod.ist dc_131_72 (by rw [ml_131]; exact Nat.le_of_ble_eq_true rfl) ?_
  refine Bod.go dc_131_74 rfl ?_
  refine Bod.get dc_131_75 fr_131_9 (mk_46 _) rfl ?_
  refine Bod.go dc_131_78 rfl ?_
  refine Bod.virt (r := []) dc_131_80 kr_131_45 ⟨Or.inr rfl, ow_138, cl_2⟩ (by rw [np_138]; rfl) (by rw [np_138]; rfl) (ob_of (mk_2 _)) (Nat.le_of_ble_eq_true rfl) (c4  ) ?_
  show Bod _ _ _ _ [_] _ _ _
  refine Bod.ist dc_131_83 (by rw [ml_131]; exact Nat.le_of_ble_eq_true rfl) ?_
  refine Bod.go dc_131_85 rfl ?_
  refine Bod.ic 1 (by decide) dc_131_87 ?_
  refine Bod.icF dc_131_88 rfl (k2_eq_F (k_ne a2 1 rfl rfl (by omega) (by omega) (by omega))) ?_
  refine Bod.go dc_131_91 rfl ?_
  refine Bod.ic 2 (by decide) dc_131_93 ?_
  refine Bod.icF dc_131_94 rfl (k2_ne_F (k_eq a2 2 rfl rfl (by omega))) ?_
  refine Bod.go dc_131_97 rfl ?_
  refine Bod.get dc_131_98 fr_131_9 (mk_46 _) rfl ?_
  refine Bod.go dc_131_101 rfl ?_
  refine Bod.virt (r := []) dc_131_103 kr_131_72 ⟨Or.inr rfl, ow_140, cl_2⟩ (by rw [np_140]; rfl) (by rw [np_140]; rfl) (ob_of (mk_2 _)) (Nat.le_of_ble_eq_true rfl) (c5  ) ?_
  show Bod _ _ _ _ [_] _ _ _
  refine Bod.ifF dc_131_106 rfl (k1_le_F a3 rfl (by omega) (by omega)) ?_
  refine Bod.ic 1 (by decide) dc_131_109 ?_
  refine Bod.go dc_131_110 rfl ?_
  exact Bod.retZ dc_131_114 rt_131 (Or.inr rfl)
