/-! WAYS of the class's machine: every call is a hypothesis -/
theorem ml_130 : sm_ml 130 = 5 := by decide +kernel
theorem dc_130_0 : decode (sm_cc 130) 0 = .ok (.aload_n 0, 1) := by decide +kernel
theorem dc_130_1 : decode (sm_cc 130) 1 = .ok (.invokevirtual 82, 3) := by decide +kernel
theorem kr_130_82 : sm_at mt_k (sm_ow 130) 82 = some (82, 0, 127, 0, 1343) := by decide +kernel
theorem dc_130_4 : decode (sm_cc 130) 4 = .ok (.istore_n 3, 1) := by decide +kernel
theorem dc_130_5 : decode (sm_cc 130) 5 = .ok (.aload_n 0, 1) := by decide +kernel
theorem dc_130_6 : decode (sm_cc 130) 6 = .ok (.getfield 23, 3) := by decide +kernel
theorem fr_130_23 : sm_at mt_f (sm_ow 130) 23 = some (23, 4, 3, 0, 839) := by decide +kernel
theorem dc_130_9 : decode (sm_cc 130) 9 = .ok (.iconst 0, 1) := by decide +kernel
theorem dc_130_10 : decode (sm_cc 130) 10 = .ok (.invokevirtual 187, 3) := by decide +kernel
theorem ow_131 : 9 = sm_ow 131 := by decide +kernel
theorem kr_130_187 : sm_at mt_k (sm_ow 130) 187 = some (187, 1, 131, 1, 1360) := by decide +kernel
theorem np_131 : sm_np 131 = 1 := by decide +kernel
theorem dc_130_13 : decode (sm_cc 130) 13 = .ok (.iload_n 1, 1) := by decide +kernel
theorem dc_130_14 : decode (sm_cc 130) 14 = .ok (.if_icmp .ne (7), 3) := by decide +kernel
theorem dc_130_21 : decode (sm_cc 130) 21 = .ok (.iconst 0, 1) := by decide +kernel
theorem dc_130_22 : decode (sm_cc 130) 22 = .ok (.istore 4, 2) := by decide +kernel
theorem dc_130_24 : decode (sm_cc 130) 24 = .ok (.iload 4, 2) := by decide +kernel
theorem dc_130_26 : decode (sm_cc 130) 26 = .ok (.ifCond .eq (8), 3) := by decide +kernel
theorem dc_130_34 : decode (sm_cc 130) 34 = .ok (.iload_n 2, 1) := by decide +kernel
theorem dc_130_35 : decode (sm_cc 130) 35 = .ok (.ifCond .ne (8), 3) := by decide +kernel
theorem dc_130_43 : decode (sm_cc 130) 43 = .ok (.aload_n 0, 1) := by decide +kernel
theorem dc_130_44 : decode (sm_cc 130) 44 = .ok (.getfield 23, 3) := by decide +kernel
theorem dc_130_47 : decode (sm_cc 130) 47 = .ok (.iconst 1, 1) := by decide +kernel
theorem dc_130_48 : decode (sm_cc 130) 48 = .ok (.invokevirtual 127, 3) := by decide +kernel
theorem ow_141 : 9 = sm_ow 141 := by decide +kernel
theorem kr_130_127 : sm_at mt_k (sm_ow 130) 127 = some (127, 1, 141, 1, 1399) := by decide +kernel
theorem np_141 : sm_np 141 = 1 := by decide +kernel
theorem dc_130_51 : decode (sm_cc 130) 51 = .ok (.iconst 0, 1) := by decide +kernel
theorem dc_130_52 : decode (sm_cc 130) 52 = .ok (.ireturn, 1) := by decide +kernel
theorem rt_130 : sm_rt 130 = some .int := by decide +kernel
theorem dc_130_38 : decode (sm_cc 130) 38 = .ok (.iload 4, 2) := by decide +kernel
theorem dc_130_40 : decode (sm_cc 130) 40 = .ok (.ifCond .ne (11), 3) := by decide +kernel
theorem dc_130_17 : decode (sm_cc 130) 17 = .ok (.iconst 1, 1) := by decide +kernel
theorem dc_130_18 : decode (sm_cc 130) 18 = .ok (.goto (4), 3) := by decide +kernel
theorem dc_130_29 : decode (sm_cc 130) 29 = .ok (.aload_n 0, 1) := by decide +kernel
theorem dc_130_30 : decode (sm_cc 130) 30 = .ok (.iload_n 3, 1) := by decide +kernel
theorem dc_130_31 : decode (sm_cc 130) 31 = .ok (.putfield 69, 3) := by decide +kernel
theorem fr_130_69 : sm_at mt_f (sm_ow 130) 69 = some (69, 4, 16, 0, 852) := by decide +kernel
theorem ml_151 : sm_ml 151 = 1 := by decide +kernel
theorem dc_151_0 : decode (sm_cc 151) 0 = .ok (.aload_n 0, 1) := by decide +kernel
theorem dc_151_1 : decode (sm_cc 151) 1 = .ok (.getfield 23, 3) := by decide +kernel
theorem fr_151_23 : sm_at mt_f (sm_ow 151) 23 = some (23, 4, 3, 0, 839) := by decide +kernel
theorem dc_151_4 : decode (sm_cc 151) 4 = .ok (.iconst 0, 1) := by decide +kernel
theorem dc_151_5 : decode (sm_cc 151) 5 = .ok (.iconst 1, 1) := by decide +kernel
theorem dc_151_6 : decode (sm_cc 151) 6 = .ok (.invokevirtual 190, 3) := by decide +kernel
theorem ow_152 : 9 = sm_ow 152 := by decide +kernel
theorem kr_151_190 : sm_at mt_k (sm_ow 151) 190 = some (190, 1, 152, 1, 1447) := by decide +kernel
theorem np_152 : sm_np 152 = 2 := by decide +kernel
theorem dc_151_9 : decode (sm_cc 151) 9 = .ok (.ifCond .ne (5), 3) := by decide +kernel
theorem dc_151_14 : decode (sm_cc 151) 14 = .ok (.aload_n 0, 1) := by decide +kernel
theorem dc_151_15 : decode (sm_cc 151) 15 = .ok (.getfield 23, 3) := by decide +kernel
theorem dc_151_18 : decode (sm_cc 151) 18 = .ok (.ldc2_w 144, 3) := by decide +kernel
theorem cj_151_144 : sm_at mt_cj (sm_ow 151) 144 = some (144, (2305843009213693952), 1451) := by decide +kernel
theorem dc_151_21 : decode (sm_cc 151) 21 = .ok (.lconst 0, 1) := by decide +kernel
theorem dc_151_22 : decode (sm_cc 151) 22 = .ok (.invokevirtual 146, 3) := by decide +kernel
theorem ow_153 : 9 = sm_ow 153 := by decide +kernel
theorem kr_151_146 : sm_at mt_k (sm_ow 151) 146 = some (146, 1, 153, 1, 1452) := by decide +kernel
theorem np_153 : sm_np 153 = 2 := by decide +kernel
theorem dc_151_25 : decode (sm_cc 151) 25 = .ok (.iconst 0, 1) := by decide +kernel
theorem dc_151_26 : decode (sm_cc 151) 26 = .ok (.ireturn, 1) := by decide +kernel
theorem rt_151 : sm_rt 151 = some .int := by decide +kernel
theorem dc_151_12 : decode (sm_cc 151) 12 = .ok (.iconst 2, 1) := by decide +kernel
theorem dc_151_13 : decode (sm_cc 151) 13 = .ok (.ireturn, 1) := by decide +kernel
theorem ml_154 : sm_ml 154 = 5 := by decide +kernel
theorem dc_154_0 : decode (sm_cc 154) 0 = .ok (.aload_n 0, 1) := by decide +kernel
theorem dc_154_1 : decode (sm_cc 154) 1 = .ok (.getfield 23, 3) := by decide +kernel
theorem fr_154_23 : sm_at mt_f (sm_ow 154) 23 = some (23, 4, 3, 0, 839) := by decide +kernel
theorem dc_154_4 : decode (sm_cc 154) 4 = .ok (.iconst 1, 1) := by decide +kernel
theorem dc_154_5 : decode (sm_cc 154) 5 = .ok (.iconst 1, 1) := by decide +kernel
theorem dc_154_6 : decode (sm_cc 154) 6 = .ok (.invokevirtual 190, 3) := by decide +kernel
theorem kr_154_190 : sm_at mt_k (sm_ow 154) 190 = some (190, 1, 152, 1, 1447) := by decide +kernel
theorem dc_154_9 : decode (sm_cc 154) 9 = .ok (.istore_n 2, 1) := by decide +kernel
theorem dc_154_10 : decode (sm_cc 154) 10 = .ok (.aload_n 0, 1) := by decide +kernel
theorem dc_154_11 : decode (sm_cc 154) 11 = .ok (.getfield 23, 3) := by decide +kernel
theorem dc_154_14 : decode (sm_cc 154) 14 = .ok (.iconst 0, 1) := by decide +kernel
theorem dc_154_15 : decode (sm_cc 154) 15 = .ok (.invokevirtual 141, 3) := by decide +kernel
theorem kr_154_141 : sm_at mt_k (sm_ow 154) 141 = some (141, 1, 135, 1, 1429) := by decide +kernel
theorem dc_154_18 : decode (sm_cc 154) 18 = .ok (.lstore_n 3, 1) := by decide +kernel
theorem dc_154_19 : decode (sm_cc 154) 19 = .ok (.lload_n 3, 1) := by decide +kernel
theorem dc_154_20 : decode (sm_cc 154) 20 = .ok (.lconst 0, 1) := by decide +kernel
theorem dc_154_21 : decode (sm_cc 154) 21 = .ok (.lcmp, 1) := by decide +kernel
theorem dc_154_22 : decode (sm_cc 154) 22 = .ok (.ifCond .lt (17), 3) := by decide +kernel
theorem dc_154_39 : decode (sm_cc 154) 39 = .ok (.aload_n 0, 1) := by decide +kernel
theorem dc_154_40 : decode (sm_cc 154) 40 = .ok (.iload_n 1, 1) := by decide +kernel
theorem dc_154_41 : decode (sm_cc 154) 41 = .ok (.putfield 69, 3) := by decide +kernel
theorem fr_154_69 : sm_at mt_f (sm_ow 154) 69 = some (69, 4, 16, 0, 852) := by decide +kernel
theorem dc_154_44 : decode (sm_cc 154) 44 = .ok (.iconst 0, 1) := by decide +kernel
theorem dc_154_45 : decode (sm_cc 154) 45 = .ok (.ireturn, 1) := by decide +kernel
theorem rt_154 : sm_rt 154 = some .int := by decide +kernel
theorem dc_154_25 : decode (sm_cc 154) 25 = .ok (.lload_n 3, 1) := by decide +kernel
theorem dc_154_26 : decode (sm_cc 154) 26 = .ok (.aload_n 0, 1) := by decide +kernel
theorem dc_154_27 : decode (sm_cc 154) 27 = .ok (.getfield 15, 3) := by decide +kernel
theorem fr_154_15 : sm_at mt_f (sm_ow 154) 15 = some (15, 4, 1, 0, 837) := by decide +kernel
theorem dc_154_30 : decode (sm_cc 154) 30 = .ok (.iload_n 2, 1) := by decide +kernel
theorem dc_154_31 : decode (sm_cc 154) 31 = .ok (.invokevirtual 193, 3) := by decide +kernel
theorem kr_154_193 : sm_at mt_k (sm_ow 154) 193 = some (193, 1, 140, 1, 1460) := by decide +kernel
theorem dc_154_34 : decode (sm_cc 154) 34 = .ok (.i2l, 1) := by decide +kernel
theorem dc_154_35 : decode (sm_cc 154) 35 = .ok (.lcmp, 1) := by decide +kernel
theorem dc_154_36 : decode (sm_cc 154) 36 = .ok (.ifCond .lt (10), 3) := by decide +kernel
theorem dc_154_46 : decode (sm_cc 154) 46 = .ok (.aload_n 0, 1) := by decide +kernel
theorem dc_154_47 : decode (sm_cc 154) 47 = .ok (.getfield 23, 3) := by decide +kernel
theorem dc_154_50 : decode (sm_cc 154) 50 = .ok (.iconst 0, 1) := by decide +kernel
theorem dc_154_51 : decode (sm_cc 154) 51 = .ok (.lload_n 3, 1) := by decide +kernel
theorem dc_154_52 : decode (sm_cc 154) 52 = .ok (.lconst 1, 1) := by decide +kernel
theorem dc_154_53 : decode (sm_cc 154) 53 = .ok (.ladd, 1) := by decide +kernel
theorem dc_154_54 : decode (sm_cc 154) 54 = .ok (.invokevirtual 196, 3) := by decide +kernel
theorem ow_155 : 9 = sm_ow 155 := by decide +kernel
theorem kr_154_196 : sm_at mt_k (sm_ow 154) 196 = some (196, 1, 155, 1, 1461) := by decide +kernel
theorem np_155 : sm_np 155 = 2 := by decide +kernel
theorem dc_154_57 : decode (sm_cc 154) 57 = .ok (.aload_n 0, 1) := by decide +kernel
theorem dc_154_58 : decode (sm_cc 154) 58 = .ok (.getfield 23, 3) := by decide +kernel
theorem dc_154_61 : decode (sm_cc 154) 61 = .ok (.aload_n 0, 1) := by decide +kernel
theorem dc_154_62 : decode (sm_cc 154) 62 = .ok (.getfield 15, 3) := by decide +kernel
theorem dc_154_65 : decode (sm_cc 154) 65 = .ok (.iload_n 2, 1) := by decide +kernel
theorem dc_154_66 : decode (sm_cc 154) 66 = .ok (.lload_n 3, 1) := by decide +kernel
theorem dc_154_67 : decode (sm_cc 154) 67 = .ok (.l2i, 1) := by decide +kernel
theorem dc_154_68 : decode (sm_cc 154) 68 = .ok (.invokevirtual 200, 3) := by decide +kernel
theorem ow_156 : 2 = sm_ow 156 := by decide +kernel
theorem kr_154_200 : sm_at mt_k (sm_ow 154) 200 = some (200, 1, 156, 1, 1465) := by decide +kernel
theorem np_156 : sm_np 156 = 2 := by decide +kernel
theorem dc_154_71 : decode (sm_cc 154) 71 = .ok (.aload_n 0, 1) := by decide +kernel
theorem dc_154_72 : decode (sm_cc 154) 72 = .ok (.getfield 15, 3) := by decide +kernel
theorem dc_154_75 : decode (sm_cc 154) 75 = .ok (.iload_n 2, 1) := by decide +kernel
theorem dc_154_76 : decode (sm_cc 154) 76 = .ok (.lload_n 3, 1) := by decide +kernel
theorem dc_154_77 : decode (sm_cc 154) 77 = .ok (.l2i, 1) := by decide +kernel
theorem dc_154_78 : decode (sm_cc 154) 78 = .ok (.invokevirtual 204, 3) := by decide +kernel
theorem ow_158 : 2 = sm_ow 158 := by decide +kernel
theorem kr_154_204 : sm_at mt_k (sm_ow 154) 204 = some (204, 1, 158, 1, 1473) := by decide +kernel
theorem np_158 : sm_np 158 = 2 := by decide +kernel
theorem dc_154_81 : decode (sm_cc 154) 81 = .ok (.invokevirtual 146, 3) := by decide +kernel
theorem kr_154_146 : sm_at mt_k (sm_ow 154) 146 = some (146, 1, 153, 1, 1452) := by decide +kernel
theorem dc_154_84 : decode (sm_cc 154) 84 = .ok (.iconst 0, 1) := by decide +kernel
theorem dc_154_85 : decode (sm_cc 154) 85 = .ok (.ireturn, 1) := by decide +kernel
theorem ml_147 : sm_ml 147 = 7 := by decide +kernel
theorem dc_147_0 : decode (sm_cc 147) 0 = .ok (.aload_n 0, 1) := by decide +kernel
theorem dc_147_1 : decode (sm_cc 147) 1 = .ok (.getfield 150, 3) := by decide +kernel
theorem fr_147_150 : sm_at mt_f (sm_ow 147) 150 = some (150, 4, 13, 0, 849) := by decide +kernel
theorem dc_147_4 : decode (sm_cc 147) 4 = .ok (.iconst 1, 1) := by decide +kernel
theorem dc_147_5 : decode (sm_cc 147) 5 = .ok (.isub, 1) := by decide +kernel
theorem dc_147_6 : decode (sm_cc 147) 6 = .ok (.istore_n 1, 1) := by decide +kernel
theorem dc_147_7 : decode (sm_cc 147) 7 = .ok (.iload_n 1, 1) := by decide +kernel
theorem dc_147_8 : decode (sm_cc 147) 8 = .ok (.ifCond .lt (9), 3) := by decide +kernel
theorem dc_147_11 : decode (sm_cc 147) 11 = .ok (.iload_n 1, 1) := by decide +kernel
theorem dc_147_12 : decode (sm_cc 147) 12 = .ok (.bipush (30), 2) := by decide +kernel
theorem dc_147_14 : decode (sm_cc 147) 14 = .ok (.if_icmp .lt (5), 3) := by decide +kernel
theorem dc_147_19 : decode (sm_cc 147) 19 = .ok (.aload_n 0, 1) := by decide +kernel
theorem dc_147_20 : decode (sm_cc 147) 20 = .ok (.getfield 56, 3) := by decide +kernel
theorem fr_147_56 : sm_at mt_f (sm_ow 147) 56 = some (56, 4, 11, 0, 847) := by decide +kernel
theorem dc_147_23 : decode (sm_cc 147) 23 = .ok (.iload_n 1, 1) := by decide +kernel
theorem dc_147_24 : decode (sm_cc 147) 24 = .ok (.iaload, 1) := by decide +kernel
theorem dc_147_25 : decode (sm_cc 147) 25 = .ok (.istore_n 2, 1) := by decide +kernel
theorem dc_147_26 : decode (sm_cc 147) 26 = .ok (.iload_n 2, 1) := by decide +kernel
theorem dc_147_27 : decode (sm_cc 147) 27 = .ok (.ifCond .ne (14), 3) := by decide +kernel
theorem dc_147_41 : decode (sm_cc 147) 41 = .ok (.ldc2_w 270, 3) := by decide +kernel
theorem cj_147_270 : sm_at mt_cj (sm_ow 147) 270 = some (270, (4611686018427387904), 1428) := by decide +kernel
theorem dc_147_44 : decode (sm_cc 147) 44 = .ok (.lstore_n 3, 1) := by decide +kernel
theorem dc_147_45 : decode (sm_cc 147) 45 = .ok (.iload_n 2, 1) := by decide +kernel
theorem dc_147_46 : decode (sm_cc 147) 46 = .ok (.ifCond .ne (14), 3) := by decide +kernel
theorem dc_147_60 : decode (sm_cc 147) 60 = .ok (.iload_n 2, 1) := by decide +kernel
theorem dc_147_61 : decode (sm_cc 147) 61 = .ok (.i2l, 1) := by decide +kernel
theorem dc_147_62 : decode (sm_cc 147) 62 = .ok (.lstore 5, 2) := by decide +kernel
theorem dc_147_64 : decode (sm_cc 147) 64 = .ok (.aload_n 0, 1) := by decide +kernel
theorem dc_147_65 : decode (sm_cc 147) 65 = .ok (.getfield 23, 3) := by decide +kernel
theorem fr_147_23 : sm_at mt_f (sm_ow 147) 23 = some (23, 4, 3, 0, 839) := by decide +kernel
theorem dc_147_68 : decode (sm_cc 147) 68 = .ok (.aload_n 0, 1) := by decide +kernel
theorem dc_147_69 : decode (sm_cc 147) 69 = .ok (.getfield 23, 3) := by decide +kernel
theorem dc_147_72 : decode (sm_cc 147) 72 = .ok (.getfield 122, 3) := by decide +kernel
theorem fr_147_122 : sm_at mt_f (sm_ow 147) 122 = some (122, 9, 3, 1, 773) := by decide +kernel
theorem dc_147_75 : decode (sm_cc 147) 75 = .ok (.aload_n 0, 1) := by decide +kernel
theorem dc_147_76 : decode (sm_cc 147) 76 = .ok (.getfield 47, 3) := by decide +kernel
theorem fr_147_47 : sm_at mt_f (sm_ow 147) 47 = some (47, 4, 8, 0, 844) := by decide +kernel
theorem dc_147_79 : decode (sm_cc 147) 79 = .ok (.iload_n 1, 1) := by decide +kernel
theorem dc_147_80 : decode (sm_cc 147) 80 = .ok (.iaload, 1) := by decide +kernel
theorem dc_147_81 : decode (sm_cc 147) 81 = .ok (.isub, 1) := by decide +kernel
theorem dc_147_82 : decode (sm_cc 147) 82 = .ok (.lload_n 3, 1) := by decide +kernel
theorem dc_147_83 : decode (sm_cc 147) 83 = .ok (.lload 5, 2) := by decide +kernel
theorem dc_147_85 : decode (sm_cc 147) 85 = .ok (.invokevirtual 282, 3) := by decide +kernel
theorem ow_148 : 9 = sm_ow 148 := by decide +kernel
theorem kr_147_282 : sm_at mt_k (sm_ow 147) 282 = some (282, 1, 148, 1, 1430) := by decide +kernel
theorem np_148 : sm_np 148 = 3 := by decide +kernel
theorem dc_147_88 : decode (sm_cc 147) 88 = .ok (.pop, 1) := by decide +kernel
theorem dc_147_89 : decode (sm_cc 147) 89 = .ok (.aload_n 0, 1) := by decide +kernel
theorem dc_147_90 : decode (sm_cc 147) 90 = .ok (.aload_n 0, 1) := by decide +kernel
theorem dc_147_91 : decode (sm_cc 147) 91 = .ok (.getfield 40, 3) := by decide +kernel
theorem fr_147_40 : sm_at mt_f (sm_ow 147) 40 = some (40, 4, 6, 0, 842) := by decide +kernel
theorem dc_147_94 : decode (sm_cc 147) 94 = .ok (.iload_n 1, 1) := by decide +kernel
theorem dc_147_95 : decode (sm_cc 147) 95 = .ok (.iaload, 1) := by decide +kernel
theorem dc_147_96 : decode (sm_cc 147) 96 = .ok (.putfield 69, 3) := by decide +kernel
theorem fr_147_69 : sm_at mt_f (sm_ow 147) 69 = some (69, 4, 16, 0, 852) := by decide +kernel
theorem dc_147_99 : decode (sm_cc 147) 99 = .ok (.aload_n 0, 1) := by decide +kernel
theorem dc_147_100 : decode (sm_cc 147) 100 = .ok (.aload_n 0, 1) := by decide +kernel
theorem dc_147_101 : decode (sm_cc 147) 101 = .ok (.getfield 50, 3) := by decide +kernel
theorem fr_147_50 : sm_at mt_f (sm_ow 147) 50 = some (50, 4, 9, 0, 845) := by decide +kernel
theorem dc_147_104 : decode (sm_cc 147) 104 = .ok (.iload_n 1, 1) := by decide +kernel
theorem dc_147_105 : decode (sm_cc 147) 105 = .ok (.iaload, 1) := by decide +kernel
theorem dc_147_106 : decode (sm_cc 147) 106 = .ok (.putfield 75, 3) := by decide +kernel
theorem fr_147_75 : sm_at mt_f (sm_ow 147) 75 = some (75, 4, 14, 0, 850) := by decide +kernel
theorem dc_147_109 : decode (sm_cc 147) 109 = .ok (.aload_n 0, 1) := by decide +kernel
theorem dc_147_110 : decode (sm_cc 147) 110 = .ok (.invokevirtual 153, 3) := by decide +kernel
theorem ow_150 : 4 = sm_ow 150 := by decide +kernel
theorem kr_147_153 : sm_at mt_k (sm_ow 147) 153 = some (153, 0, 150, 0, 1438) := by decide +kernel
theorem np_150 : sm_np 150 = 0 := by decide +kernel
theorem dc_147_113 : decode (sm_cc 147) 113 = .ok (.iconst 0, 1) := by decide +kernel
theorem dc_147_114 : decode (sm_cc 147) 114 = .ok (.ireturn, 1) := by decide +kernel
theorem rt_147 : sm_rt 147 = some .int := by decide +kernel
theorem dc_147_49 : decode (sm_cc 147) 49 = .ok (.aload_n 0, 1) := by decide +kernel
theorem dc_147_50 : decode (sm_cc 147) 50 = .ok (.getfield 23, 3) := by decide +kernel
theorem dc_147_53 : decode (sm_cc 147) 53 = .ok (.iconst 0, 1) := by decide +kernel
theorem dc_147_54 : decode (sm_cc 147) 54 = .ok (.invokevirtual 141, 3) := by decide +kernel
theorem kr_147_141 : sm_at mt_k (sm_ow 147) 141 = some (141, 1, 135, 1, 1429) := by decide +kernel
theorem dc_147_57 : decode (sm_cc 147) 57 = .ok (.goto (5), 3) := by decide +kernel
theorem dc_147_30 : decode (sm_cc 147) 30 = .ok (.aload_n 0, 1) := by decide +kernel
theorem dc_147_31 : decode (sm_cc 147) 31 = .ok (.getfield 23, 3) := by decide +kernel
theorem dc_147_34 : decode (sm_cc 147) 34 = .ok (.iconst 0, 1) := by decide +kernel
theorem dc_147_35 : decode (sm_cc 147) 35 = .ok (.invokevirtual 133, 3) := by decide +kernel
theorem kr_147_133 : sm_at mt_k (sm_ow 147) 133 = some (133, 1, 132, 1, 1427) := by decide +kernel
theorem dc_147_38 : decode (sm_cc 147) 38 = .ok (.goto (6), 3) := by decide +kernel
theorem dc_147_17 : decode (sm_cc 147) 17 = .ok (.iconst 0, 1) := by decide +kernel
theorem dc_147_18 : decode (sm_cc 147) 18 = .ok (.ireturn, 1) := by decide +kernel
theorem ml_150 : sm_ml 150 = 2 := by decide +kernel
theorem dc_150_0 : decode (sm_cc 150) 0 = .ok (.aload_n 0, 1) := by decide +kernel
theorem dc_150_1 : decode (sm_cc 150) 1 = .ok (.dup, 1) := by decide +kernel
theorem dc_150_2 : decode (sm_cc 150) 2 = .ok (.getfield 150, 3) := by decide +kernel
theorem fr_150_150 : sm_at mt_f (sm_ow 150) 150 = some (150, 4, 13, 0, 849) := by decide +kernel
theorem dc_150_5 : decode (sm_cc 150) 5 = .ok (.iconst 1, 1) := by decide +kernel
theorem dc_150_6 : decode (sm_cc 150) 6 = .ok (.isub, 1) := by decide +kernel
theorem dc_150_7 : decode (sm_cc 150) 7 = .ok (.putfield 150, 3) := by decide +kernel
theorem dc_150_10 : decode (sm_cc 150) 10 = .ok (.aload_n 0, 1) := by decide +kernel
theorem dc_150_11 : decode (sm_cc 150) 11 = .ok (.getfield 150, 3) := by decide +kernel
theorem dc_150_14 : decode (sm_cc 150) 14 = .ok (.ifCond .lt (12), 3) := by decide +kernel
theorem dc_150_17 : decode (sm_cc 150) 17 = .ok (.aload_n 0, 1) := by decide +kernel
theorem dc_150_18 : decode (sm_cc 150) 18 = .ok (.getfield 150, 3) := by decide +kernel
theorem dc_150_21 : decode (sm_cc 150) 21 = .ok (.bipush (30), 2) := by decide +kernel
theorem dc_150_23 : decode (sm_cc 150) 23 = .ok (.if_icmp .lt (4), 3) := by decide +kernel
theorem dc_150_27 : decode (sm_cc 150) 27 = .ok (.aload_n 0, 1) := by decide +kernel
theorem dc_150_28 : decode (sm_cc 150) 28 = .ok (.getfield 78, 3) := by decide +kernel
theorem fr_150_78 : sm_at mt_f (sm_ow 150) 78 = some (78, 4, 15, 0, 851) := by decide +kernel
theorem dc_150_31 : decode (sm_cc 150) 31 = .ok (.istore_n 1, 1) := by decide +kernel
theorem dc_150_32 : decode (sm_cc 150) 32 = .ok (.aload_n 0, 1) := by decide +kernel
theorem dc_150_33 : decode (sm_cc 150) 33 = .ok (.aload_n 0, 1) := by decide +kernel
theorem dc_150_34 : decode (sm_cc 150) 34 = .ok (.getfield 53, 3) := by decide +kernel
theorem fr_150_53 : sm_at mt_f (sm_ow 150) 53 = some (53, 4, 10, 0, 846) := by decide +kernel
theorem dc_150_37 : decode (sm_cc 150) 37 = .ok (.aload_n 0, 1) := by decide +kernel
theorem dc_150_38 : decode (sm_cc 150) 38 = .ok (.getfield 150, 3) := by decide +kernel
theorem dc_150_41 : decode (sm_cc 150) 41 = .ok (.iaload, 1) := by decide +kernel
theorem dc_150_42 : decode (sm_cc 150) 42 = .ok (.putfield 78, 3) := by decide +kernel
theorem dc_150_45 : decode (sm_cc 150) 45 = .ok (.aload_n 0, 1) := by decide +kernel
theorem dc_150_46 : decode (sm_cc 150) 46 = .ok (.aload_n 0, 1) := by decide +kernel
theorem dc_150_47 : decode (sm_cc 150) 47 = .ok (.getfield 44, 3) := by decide +kernel
theorem fr_150_44 : sm_at mt_f (sm_ow 150) 44 = some (44, 4, 7, 0, 843) := by decide +kernel
theorem dc_150_50 : decode (sm_cc 150) 50 = .ok (.aload_n 0, 1) := by decide +kernel
theorem dc_150_51 : decode (sm_cc 150) 51 = .ok (.getfield 150, 3) := by decide +kernel
theorem dc_150_54 : decode (sm_cc 150) 54 = .ok (.iaload, 1) := by decide +kernel
theorem dc_150_55 : decode (sm_cc 150) 55 = .ok (.putfield 66, 3) := by decide +kernel
theorem fr_150_66 : sm_at mt_f (sm_ow 150) 66 = some (66, 4, 17, 0, 853) := by decide +kernel
theorem dc_150_58 : decode (sm_cc 150) 58 = .ok (.aload_n 0, 1) := by decide +kernel
theorem dc_150_59 : decode (sm_cc 150) 59 = .ok (.getfield 15, 3) := by decide +kernel
theorem fr_150_15 : sm_at mt_f (sm_ow 150) 15 = some (15, 4, 1, 0, 837) := by decide +kernel
theorem dc_150_62 : decode (sm_cc 150) 62 = .ok (.aload_n 0, 1) := by decide +kernel
theorem dc_150_63 : decode (sm_cc 150) 63 = .ok (.getfield 15, 3) := by decide +kernel
theorem dc_150_66 : decode (sm_cc 150) 66 = .ok (.getfield 156, 3) := by decide +kernel
theorem fr_150_156 : sm_at mt_f (sm_ow 150) 156 = some (156, 2, 3, 1, 379) := by decide +kernel
theorem dc_150_69 : decode (sm_cc 150) 69 = .ok (.iload_n 1, 1) := by decide +kernel
theorem dc_150_70 : decode (sm_cc 150) 70 = .ok (.invokevirtual 161, 3) := by decide +kernel
theorem kr_150_161 : sm_at mt_k (sm_ow 150) 161 = some (161, 1, 142, 1, 1442) := by decide +kernel
theorem dc_150_73 : decode (sm_cc 150) 73 = .ok (.aload_n 0, 1) := by decide +kernel
theorem dc_150_74 : decode (sm_cc 150) 74 = .ok (.getfield 15, 3) := by decide +kernel
theorem dc_150_77 : decode (sm_cc 150) 77 = .ok (.aload_n 0, 1) := by decide +kernel
theorem dc_150_78 : decode (sm_cc 150) 78 = .ok (.getfield 15, 3) := by decide +kernel
theorem dc_150_81 : decode (sm_cc 150) 81 = .ok (.getfield 156, 3) := by decide +kernel
theorem dc_150_84 : decode (sm_cc 150) 84 = .ok (.aload_n 0, 1) := by decide +kernel
theorem dc_150_85 : decode (sm_cc 150) 85 = .ok (.getfield 56, 3) := by decide +kernel
theorem fr_150_56 : sm_at mt_f (sm_ow 150) 56 = some (56, 4, 11, 0, 847) := by decide +kernel
theorem dc_150_88 : decode (sm_cc 150) 88 = .ok (.aload_n 0, 1) := by decide +kernel
theorem dc_150_89 : decode (sm_cc 150) 89 = .ok (.getfield 150, 3) := by decide +kernel
theorem dc_150_92 : decode (sm_cc 150) 92 = .ok (.iaload, 1) := by decide +kernel
theorem dc_150_93 : decode (sm_cc 150) 93 = .ok (.invokevirtual 161, 3) := by decide +kernel
theorem dc_150_96 : decode (sm_cc 150) 96 = .ok (.return_, 1) := by decide +kernel
theorem rt_150 : sm_rt 150 = none := by decide +kernel
theorem dc_150_26 : decode (sm_cc 150) 26 = .ok (.return_, 1) := by decide +kernel
theorem ml_160 : sm_ml 160 = 4 := by decide +kernel
theorem dc_160_0 : decode (sm_cc 160) 0 = .ok (.aload_n 0, 1) := by decide +kernel
theorem dc_160_1 : decode (sm_cc 160) 1 = .ok (.getfield 23, 3) := by decide +kernel
theorem fr_160_23 : sm_at mt_f (sm_ow 160) 23 = some (23, 4, 3, 0, 839) := by decide +kernel
theorem dc_160_4 : decode (sm_cc 160) 4 = .ok (.iconst 0, 1) := by decide +kernel
theorem dc_160_5 : decode (sm_cc 160) 5 = .ok (.invokevirtual 141, 3) := by decide +kernel
theorem kr_160_141 : sm_at mt_k (sm_ow 160) 141 = some (141, 1, 135, 1, 1429) := by decide +kernel
theorem dc_160_8 : decode (sm_cc 160) 8 = .ok (.lstore_n 1, 1) := by decide +kernel
theorem dc_160_9 : decode (sm_cc 160) 9 = .ok (.aload_n 0, 1) := by decide +kernel
theorem dc_160_10 : decode (sm_cc 160) 10 = .ok (.getfield 23, 3) := by decide +kernel
theorem dc_160_13 : decode (sm_cc 160) 13 = .ok (.iconst 0, 1) := by decide +kernel
theorem dc_160_14 : decode (sm_cc 160) 14 = .ok (.invokevirtual 133, 3) := by decide +kernel
theorem kr_160_133 : sm_at mt_k (sm_ow 160) 133 = some (133, 1, 132, 1, 1427) := by decide +kernel
theorem dc_160_17 : decode (sm_cc 160) 17 = .ok (.invokestatic 137, 3) := by decide +kernel
theorem kr_160_137 : sm_at mt_k (sm_ow 160) 137 = some (137, 3, 134, 1, 1485) := by decide +kernel
theorem dc_160_20 : decode (sm_cc 160) 20 = .ok (.iconst 2, 1) := by decide +kernel
theorem dc_160_21 : decode (sm_cc 160) 21 = .ok (.if_icmp .ne (23), 3) := by decide +kernel
theorem dc_160_44 : decode (sm_cc 160) 44 = .ok (.iconst 0, 1) := by decide +kernel
theorem dc_160_45 : decode (sm_cc 160) 45 = .ok (.istore_n 3, 1) := by decide +kernel
theorem dc_160_46 : decode (sm_cc 160) 46 = .ok (.iload_n 3, 1) := by decide +kernel
theorem dc_160_47 : decode (sm_cc 160) 47 = .ok (.ifCond .eq (8), 3) := by decide +kernel
theorem dc_160_55 : decode (sm_cc 160) 55 = .ok (.iconst 2, 1) := by decide +kernel
theorem dc_160_56 : decode (sm_cc 160) 56 = .ok (.ireturn, 1) := by decide +kernel
theorem rt_160 : sm_rt 160 = some .int := by decide +kernel
theorem dc_160_24 : decode (sm_cc 160) 24 = .ok (.lload_n 1, 1) := by decide +kernel
theorem dc_160_25 : decode (sm_cc 160) 25 = .ok (.ldc2_w 207, 3) := by decide +kernel
theorem cj_160_207 : sm_at mt_cj (sm_ow 160) 207 = some (207, (10), 1486) := by decide +kernel
theorem dc_160_28 : decode (sm_cc 160) 28 = .ok (.lcmp, 1) := by decide +kernel
theorem dc_160_29 : decode (sm_cc 160) 29 = .ok (.ifCond .lt (15), 3) := by decide +kernel
theorem dc_160_32 : decode (sm_cc 160) 32 = .ok (.lload_n 1, 1) := by decide +kernel
theorem dc_160_33 : decode (sm_cc 160) 33 = .ok (.ldc2_w 209, 3) := by decide +kernel
theorem cj_160_209 : sm_at mt_cj (sm_ow 160) 209 = some (209, (99), 1487) := by decide +kernel
theorem dc_160_36 : decode (sm_cc 160) 36 = .ok (.lcmp, 1) := by decide +kernel
theorem dc_160_37 : decode (sm_cc 160) 37 = .ok (.ifCond .gt (7), 3) := by decide +kernel
theorem dc_160_40 : decode (sm_cc 160) 40 = .ok (.iconst 1, 1) := by decide +kernel
theorem dc_160_41 : decode (sm_cc 160) 41 = .ok (.goto (4), 3) := by decide +kernel
theorem dc_160_50 : decode (sm_cc 160) 50 = .ok (.lload_n 1, 1) := by decide +kernel
theorem dc_160_51 : decode (sm_cc 160) 51 = .ok (.l2i, 1) := by decide +kernel
theorem dc_160_52 : decode (sm_cc 160) 52 = .ok (.goto (4), 3) := by decide +kernel
theorem ml_266 : sm_ml 266 = 2 := by decide +kernel
theorem dc_266_0 : decode (sm_cc 266) 0 = .ok (.iload_n 1, 1) := by decide +kernel
theorem dc_266_1 : decode (sm_cc 266) 1 = .ok (.bipush (100), 2) := by decide +kernel
theorem dc_266_3 : decode (sm_cc 266) 3 = .ok (.if_icmp .eq (20), 3) := by decide +kernel
theorem dc_266_23 : decode (sm_cc 266) 23 = .ok (.iconst 0, 1) := by decide +kernel
theorem dc_266_24 : decode (sm_cc 266) 24 = .ok (.ireturn, 1) := by decide +kernel
theorem rt_266 : sm_rt 266 = some .boolean := by decide +kernel
theorem dc_266_6 : decode (sm_cc 266) 6 = .ok (.aload_n 0, 1) := by decide +kernel
theorem dc_266_7 : decode (sm_cc 266) 7 = .ok (.getfield 75, 3) := by decide +kernel
theorem fr_266_75 : sm_at mt_f (sm_ow 266) 75 = some (75, 4, 14, 0, 850) := by decide +kernel
theorem dc_266_10 : decode (sm_cc 266) 10 = .ok (.ifCond .le (13), 3) := by decide +kernel
theorem dc_266_13 : decode (sm_cc 266) 13 = .ok (.aload_n 0, 1) := by decide +kernel
theorem dc_266_14 : decode (sm_cc 266) 14 = .ok (.getfield 75, 3) := by decide +kernel
theorem dc_266_17 : decode (sm_cc 266) 17 = .ok (.sipush (341), 3) := by decide +kernel
theorem dc_266_20 : decode (sm_cc 266) 20 = .ok (.if_icmp .le (5), 3) := by decide +kernel
theorem dc_266_25 : decode (sm_cc 266) 25 = .ok (.aload_n 0, 1) := by decide +kernel
theorem dc_266_26 : decode (sm_cc 266) 26 = .ok (.dup, 1) := by decide +kernel
theorem dc_266_27 : decode (sm_cc 266) 27 = .ok (.getfield 75, 3) := by decide +kernel
theorem dc_266_30 : decode (sm_cc 266) 30 = .ok (.iconst 1, 1) := by decide +kernel
theorem dc_266_31 : decode (sm_cc 266) 31 = .ok (.isub, 1) := by decide +kernel
theorem dc_266_32 : decode (sm_cc 266) 32 = .ok (.putfield 75, 3) := by decide +kernel
theorem dc_266_35 : decode (sm_cc 266) 35 = .ok (.aload_n 0, 1) := by decide +kernel
theorem dc_266_36 : decode (sm_cc 266) 36 = .ok (.aload_n 0, 1) := by decide +kernel
theorem dc_266_37 : decode (sm_cc 266) 37 = .ok (.getfield 59, 3) := by decide +kernel
theorem fr_266_59 : sm_at mt_f (sm_ow 266) 59 = some (59, 4, 12, 0, 848) := by decide +kernel
theorem dc_266_40 : decode (sm_cc 266) 40 = .ok (.iconst 3, 1) := by decide +kernel
theorem dc_266_41 : decode (sm_cc 266) 41 = .ok (.aload_n 0, 1) := by decide +kernel
theorem dc_266_42 : decode (sm_cc 266) 42 = .ok (.getfield 75, 3) := by decide +kernel
theorem dc_266_45 : decode (sm_cc 266) 45 = .ok (.imul, 1) := by decide +kernel
theorem dc_266_46 : decode (sm_cc 266) 46 = .ok (.iaload, 1) := by decide +kernel
theorem dc_266_47 : decode (sm_cc 266) 47 = .ok (.putfield 69, 3) := by decide +kernel
theorem fr_266_69 : sm_at mt_f (sm_ow 266) 69 = some (69, 4, 16, 0, 852) := by decide +kernel
theorem dc_266_50 : decode (sm_cc 266) 50 = .ok (.aload_n 0, 1) := by decide +kernel
theorem dc_266_51 : decode (sm_cc 266) 51 = .ok (.aload_n 0, 1) := by decide +kernel
theorem dc_266_52 : decode (sm_cc 266) 52 = .ok (.getfield 59, 3) := by decide +kernel
theorem dc_266_55 : decode (sm_cc 266) 55 = .ok (.iconst 3, 1) := by decide +kernel
theorem dc_266_56 : decode (sm_cc 266) 56 = .ok (.aload_n 0, 1) := by decide +kernel
theorem dc_266_57 : decode (sm_cc 266) 57 = .ok (.getfield 75, 3) := by decide +kernel
theorem dc_266_60 : decode (sm_cc 266) 60 = .ok (.imul, 1) := by decide +kernel
theorem dc_266_61 : decode (sm_cc 266) 61 = .ok (.iconst 2, 1) := by decide +kernel
theorem dc_266_62 : decode (sm_cc 266) 62 = .ok (.iadd, 1) := by decide +kernel
theorem dc_266_63 : decode (sm_cc 266) 63 = .ok (.iaload, 1) := by decide +kernel
theorem dc_266_64 : decode (sm_cc 266) 64 = .ok (.invokevirtual 118, 3) := by decide +kernel
theorem ow_267 : 4 = sm_ow 267 := by decide +kernel
theorem kr_266_118 : sm_at mt_k (sm_ow 266) 118 = some (118, 0, 267, 0, 2000) := by decide +kernel
theorem np_267 : sm_np 267 = 1 := by decide +kernel
theorem dc_266_67 : decode (sm_cc 266) 67 = .ok (.aload_n 0, 1) := by decide +kernel
theorem dc_266_68 : decode (sm_cc 266) 68 = .ok (.getfield 23, 3) := by decide +kernel
theorem fr_266_23 : sm_at mt_f (sm_ow 266) 23 = some (23, 4, 3, 0, 839) := by decide +kernel
theorem dc_266_71 : decode (sm_cc 266) 71 = .ok (.aload_n 0, 1) := by decide +kernel
theorem dc_266_72 : decode (sm_cc 266) 72 = .ok (.getfield 23, 3) := by decide +kernel
theorem dc_266_75 : decode (sm_cc 266) 75 = .ok (.getfield 122, 3) := by decide +kernel
theorem fr_266_122 : sm_at mt_f (sm_ow 266) 122 = some (122, 9, 3, 1, 773) := by decide +kernel
theorem dc_266_78 : decode (sm_cc 266) 78 = .ok (.aload_n 0, 1) := by decide +kernel
theorem dc_266_79 : decode (sm_cc 266) 79 = .ok (.getfield 59, 3) := by decide +kernel
theorem dc_266_82 : decode (sm_cc 266) 82 = .ok (.iconst 3, 1) := by decide +kernel
theorem dc_266_83 : decode (sm_cc 266) 83 = .ok (.aload_n 0, 1) := by decide +kernel
theorem dc_266_84 : decode (sm_cc 266) 84 = .ok (.getfield 75, 3) := by decide +kernel
theorem dc_266_87 : decode (sm_cc 266) 87 = .ok (.imul, 1) := by decide +kernel
theorem dc_266_88 : decode (sm_cc 266) 88 = .ok (.iconst 1, 1) := by decide +kernel
theorem dc_266_89 : decode (sm_cc 266) 89 = .ok (.iadd, 1) := by decide +kernel
theorem dc_266_90 : decode (sm_cc 266) 90 = .ok (.iaload, 1) := by decide +kernel
theorem dc_266_91 : decode (sm_cc 266) 91 = .ok (.isub, 1) := by decide +kernel
theorem dc_266_92 : decode (sm_cc 266) 92 = .ok (.invokevirtual 127, 3) := by decide +kernel
theorem kr_266_127 : sm_at mt_k (sm_ow 266) 127 = some (127, 1, 141, 1, 1399) := by decide +kernel
theorem dc_266_95 : decode (sm_cc 266) 95 = .ok (.aload_n 0, 1) := by decide +kernel
theorem dc_266_96 : decode (sm_cc 266) 96 = .ok (.getfield 23, 3) := by decide +kernel
theorem dc_266_99 : decode (sm_cc 266) 99 = .ok (.ldc2_w 144, 3) := by decide +kernel
theorem cj_266_144 : sm_at mt_cj (sm_ow 266) 144 = some (144, (2305843009213693952), 1451) := by decide +kernel
theorem dc_266_102 : decode (sm_cc 266) 102 = .ok (.iload_n 1, 1) := by decide +kernel
theorem dc_266_103 : decode (sm_cc 266) 103 = .ok (.i2l, 1) := by decide +kernel
theorem dc_266_104 : decode (sm_cc 266) 104 = .ok (.invokevirtual 146, 3) := by decide +kernel
theorem kr_266_146 : sm_at mt_k (sm_ow 266) 146 = some (146, 1, 153, 1, 1452) := by decide +kernel
theorem dc_266_107 : decode (sm_cc 266) 107 = .ok (.iconst 1, 1) := by decide +kernel
theorem dc_266_108 : decode (sm_cc 266) 108 = .ok (.ireturn, 1) := by decide +kernel
theorem ml_161 : sm_ml 161 = 2 := by decide +kernel
theorem dc_161_0 : decode (sm_cc 161) 0 = .ok (.iload_n 1, 1) := by decide +kernel
theorem dc_161_1 : decode (sm_cc 161) 1 = .ok (.tableswitch (125) 16 24 #[51, 60, 70, 83, 88, 93, 98, 107, 112], 51) := by decide +kernel
theorem dc_161_52 : decode (sm_cc 161) 52 = .ok (.aload_n 0, 1) := by decide +kernel
theorem dc_161_53 : decode (sm_cc 161) 53 = .ok (.aload_n 0, 1) := by decide +kernel
theorem dc_161_54 : decode (sm_cc 161) 54 = .ok (.invokevirtual 82, 3) := by decide +kernel
theorem kr_161_82 : sm_at mt_k (sm_ow 161) 82 = some (82, 0, 127, 0, 1343) := by decide +kernel
theorem dc_161_57 : decode (sm_cc 161) 57 = .ok (.invokevirtual 211, 3) := by decide +kernel
theorem ow_162 : 4 = sm_ow 162 := by decide +kernel
theorem kr_161_211 : sm_at mt_k (sm_ow 161) 211 = some (211, 0, 162, 0, 1492) := by decide +kernel
theorem np_162 : sm_np 162 = 1 := by decide +kernel
theorem dc_161_60 : decode (sm_cc 161) 60 = .ok (.ireturn, 1) := by decide +kernel
theorem rt_161 : sm_rt 161 = some .int := by decide +kernel
theorem dc_161_61 : decode (sm_cc 161) 61 = .ok (.aload_n 0, 1) := by decide +kernel
theorem dc_161_62 : decode (sm_cc 161) 62 = .ok (.getfield 23, 3) := by decide +kernel
theorem fr_161_23 : sm_at mt_f (sm_ow 161) 23 = some (23, 4, 3, 0, 839) := by decide +kernel
theorem dc_161_65 : decode (sm_cc 161) 65 = .ok (.iconst 1, 1) := by decide +kernel
theorem dc_161_66 : decode (sm_cc 161) 66 = .ok (.invokevirtual 127, 3) := by decide +kernel
theorem kr_161_127 : sm_at mt_k (sm_ow 161) 127 = some (127, 1, 141, 1, 1399) := by decide +kernel
theorem dc_161_69 : decode (sm_cc 161) 69 = .ok (.iconst 0, 1) := by decide +kernel
theorem dc_161_70 : decode (sm_cc 161) 70 = .ok (.ireturn, 1) := by decide +kernel
theorem dc_161_71 : decode (sm_cc 161) 71 = .ok (.aload_n 0, 1) := by decide +kernel
theorem dc_161_72 : decode (sm_cc 161) 72 = .ok (.invokevirtual 214, 3) := by decide +kernel
theorem ow_166 : 4 = sm_ow 166 := by decide +kernel
theorem kr_161_214 : sm_at mt_k (sm_ow 161) 214 = some (214, 0, 166, 0, 1509) := by decide +kernel
theorem np_166 : sm_np 166 = 0 := by decide +kernel
theorem dc_161_75 : decode (sm_cc 161) 75 = .ok (.ifCond .eq (7), 3) := by decide +kernel
theorem dc_161_78 : decode (sm_cc 161) 78 = .ok (.iconst 0, 1) := by decide +kernel
theorem dc_161_79 : decode (sm_cc 161) 79 = .ok (.goto (4), 3) := by decide +kernel
theorem dc_161_83 : decode (sm_cc 161) 83 = .ok (.ireturn, 1) := by decide +kernel
theorem dc_161_82 : decode (sm_cc 161) 82 = .ok (.iconst 1, 1) := by decide +kernel
theorem dc_161_84 : decode (sm_cc 161) 84 = .ok (.aload_n 0, 1) := by decide +kernel
theorem dc_161_85 : decode (sm_cc 161) 85 = .ok (.invokevirtual 217, 3) := by decide +kernel
theorem ow_172 : 4 = sm_ow 172 := by decide +kernel
theorem kr_161_217 : sm_at mt_k (sm_ow 161) 217 = some (217, 0, 172, 0, 1533) := by decide +kernel
theorem np_172 : sm_np 172 = 0 := by decide +kernel
theorem dc_161_88 : decode (sm_cc 161) 88 = .ok (.ireturn, 1) := by decide +kernel
theorem dc_161_89 : decode (sm_cc 161) 89 = .ok (.aload_n 0, 1) := by decide +kernel
theorem dc_161_90 : decode (sm_cc 161) 90 = .ok (.invokevirtual 220, 3) := by decide +kernel
theorem ow_175 : 4 = sm_ow 175 := by decide +kernel
theorem kr_161_220 : sm_at mt_k (sm_ow 161) 220 = some (220, 0, 175, 0, 1551) := by decide +kernel
theorem np_175 : sm_np 175 = 0 := by decide +kernel
theorem dc_161_93 : decode (sm_cc 161) 93 = .ok (.ireturn, 1) := by decide +kernel
theorem dc_161_94 : decode (sm_cc 161) 94 = .ok (.aload_n 0, 1) := by decide +kernel
theorem dc_161_95 : decode (sm_cc 161) 95 = .ok (.invokevirtual 223, 3) := by decide +kernel
theorem ow_176 : 4 = sm_ow 176 := by decide +kernel
theorem kr_161_223 : sm_at mt_k (sm_ow 161) 223 = some (223, 0, 176, 0, 1555) := by decide +kernel
theorem np_176 : sm_np 176 = 0 := by decide +kernel
theorem dc_161_98 : decode (sm_cc 161) 98 = .ok (.ireturn, 1) := by decide +kernel
theorem dc_161_99 : decode (sm_cc 161) 99 = .ok (.aload_n 0, 1) := by decide +kernel
theorem dc_161_100 : decode (sm_cc 161) 100 = .ok (.aload_n 0, 1) := by decide +kernel
theorem dc_161_101 : decode (sm_cc 161) 101 = .ok (.invokevirtual 82, 3) := by decide +kernel
theorem dc_161_104 : decode (sm_cc 161) 104 = .ok (.invokevirtual 226, 3) := by decide +kernel
theorem ow_177 : 4 = sm_ow 177 := by decide +kernel
theorem kr_161_226 : sm_at mt_k (sm_ow 161) 226 = some (226, 0, 177, 0, 1560) := by decide +kernel
theorem np_177 : sm_np 177 = 1 := by decide +kernel
theorem dc_161_107 : decode (sm_cc 161) 107 = .ok (.ireturn, 1) := by decide +kernel
theorem dc_161_108 : decode (sm_cc 161) 108 = .ok (.aload_n 0, 1) := by decide +kernel
theorem dc_161_109 : decode (sm_cc 161) 109 = .ok (.invokevirtual 229, 3) := by decide +kernel
theorem ow_180 : 4 = sm_ow 180 := by decide +kernel
theorem kr_161_229 : sm_at mt_k (sm_ow 161) 229 = some (229, 0, 180, 0, 1572) := by decide +kernel
theorem np_180 : sm_np 180 = 0 := by decide +kernel
theorem dc_161_112 : decode (sm_cc 161) 112 = .ok (.ireturn, 1) := by decide +kernel
theorem dc_161_113 : decode (sm_cc 161) 113 = .ok (.aload_n 0, 1) := by decide +kernel
theorem dc_161_114 : decode (sm_cc 161) 114 = .ok (.getfield 23, 3) := by decide +kernel
theorem dc_161_117 : decode (sm_cc 161) 117 = .ok (.aload_n 0, 1) := by decide +kernel
theorem dc_161_118 : decode (sm_cc 161) 118 = .ok (.invokevirtual 82, 3) := by decide +kernel
theorem dc_161_121 : decode (sm_cc 161) 121 = .ok (.invokevirtual 232, 3) := by decide +kernel
theorem ow_188 : 9 = sm_ow 188 := by decide +kernel
theorem kr_161_232 : sm_at mt_k (sm_ow 161) 232 = some (232, 1, 188, 1, 1611) := by decide +kernel
theorem np_188 : sm_np 188 = 1 := by decide +kernel
theorem dc_161_124 : decode (sm_cc 161) 124 = .ok (.iconst 0, 1) := by decide +kernel
theorem dc_161_125 : decode (sm_cc 161) 125 = .ok (.ireturn, 1) := by decide +kernel
theorem dc_161_126 : decode (sm_cc 161) 126 = .ok (.iconst 0, 1) := by decide +kernel
theorem dc_161_127 : decode (sm_cc 161) 127 = .ok (.ireturn, 1) := by decide +kernel
theorem ml_162 : sm_ml 162 = 2 := by decide +kernel
theorem dc_162_0 : decode (sm_cc 162) 0 = .ok (.aload_n 0, 1) := by decide +kernel
theorem dc_162_1 : decode (sm_cc 162) 1 = .ok (.getfield 23, 3) := by decide +kernel
theorem fr_162_23 : sm_at mt_f (sm_ow 162) 23 = some (23, 4, 3, 0, 839) := by decide +kernel
theorem dc_162_4 : decode (sm_cc 162) 4 = .ok (.aload_n 0, 1) := by decide +kernel
theorem dc_162_5 : decode (sm_cc 162) 5 = .ok (.getfield 11, 3) := by decide +kernel
theorem fr_162_11 : sm_at mt_f (sm_ow 162) 11 = some (11, 4, 0, 0, 836) := by decide +kernel
theorem dc_162_8 : decode (sm_cc 162) 8 = .ok (.iload_n 1, 1) := by decide +kernel
theorem dc_162_9 : decode (sm_cc 162) 9 = .ok (.invokevirtual 235, 3) := by decide +kernel
theorem ow_163 : 7 = sm_ow 163 := by decide +kernel
theorem kr_162_235 : sm_at mt_k (sm_ow 162) 235 = some (235, 1, 163, 1, 1496) := by decide +kernel
theorem np_163 : sm_np 163 = 1 := by decide +kernel
theorem dc_162_12 : decode (sm_cc 162) 12 = .ok (.aload_n 0, 1) := by decide +kernel
theorem dc_162_13 : decode (sm_cc 162) 13 = .ok (.getfield 11, 3) := by decide +kernel
theorem dc_162_16 : decode (sm_cc 162) 16 = .ok (.iload_n 1, 1) := by decide +kernel
theorem dc_162_17 : decode (sm_cc 162) 17 = .ok (.invokevirtual 238, 3) := by decide +kernel
theorem ow_165 : 7 = sm_ow 165 := by decide +kernel
theorem kr_162_238 : sm_at mt_k (sm_ow 162) 238 = some (238, 1, 165, 1, 1505) := by decide +kernel
theorem np_165 : sm_np 165 = 1 := by decide +kernel
theorem dc_162_20 : decode (sm_cc 162) 20 = .ok (.invokevirtual 146, 3) := by decide +kernel
theorem kr_162_146 : sm_at mt_k (sm_ow 162) 146 = some (146, 1, 153, 1, 1452) := by decide +kernel
theorem dc_162_23 : decode (sm_cc 162) 23 = .ok (.iconst 0, 1) := by decide +kernel
theorem dc_162_24 : decode (sm_cc 162) 24 = .ok (.ireturn, 1) := by decide +kernel
theorem rt_162 : sm_rt 162 = some .int := by decide +kernel
theorem ml_166 : sm_ml 166 = 8 := by decide +kernel
theorem dc_166_0 : decode (sm_cc 166) 0 = .ok (.aload_n 0, 1) := by decide +kernel
theorem dc_166_1 : decode (sm_cc 166) 1 = .ok (.invokevirtual 82, 3) := by decide +kernel
theorem kr_166_82 : sm_at mt_k (sm_ow 166) 82 = some (82, 0, 127, 0, 1343) := by decide +kernel
theorem dc_166_4 : decode (sm_cc 166) 4 = .ok (.istore_n 1, 1) := by decide +kernel
theorem dc_166_5 : decode (sm_cc 166) 5 = .ok (.aload_n 0, 1) := by decide +kernel
theorem dc_166_6 : decode (sm_cc 166) 6 = .ok (.invokevirtual 82, 3) := by decide +kernel
theorem dc_166_9 : decode (sm_cc 166) 9 = .ok (.istore_n 2, 1) := by decide +kernel
theorem dc_166_10 : decode (sm_cc 166) 10 = .ok (.aload_n 0, 1) := by decide +kernel
theorem dc_166_11 : decode (sm_cc 166) 11 = .ok (.iload_n 1, 1) := by decide +kernel
theorem dc_166_12 : decode (sm_cc 166) 12 = .ok (.invokevirtual 244, 3) := by decide +kernel
theorem ow_167 : 4 = sm_ow 167 := by decide +kernel
theorem kr_166_244 : sm_at mt_k (sm_ow 166) 244 = some (244, 0, 167, 0, 1513) := by decide +kernel
theorem np_167 : sm_np 167 = 1 := by decide +kernel
theorem dc_166_15 : decode (sm_cc 166) 15 = .ok (.istore_n 3, 1) := by decide +kernel
theorem dc_166_16 : decode (sm_cc 166) 16 = .ok (.iload_n 1, 1) := by decide +kernel
theorem dc_166_17 : decode (sm_cc 166) 17 = .ok (.ifCond .ge (14), 3) := by decide +kernel
theorem dc_166_31 : decode (sm_cc 166) 31 = .ok (.aload_n 0, 1) := by decide +kernel
theorem dc_166_32 : decode (sm_cc 166) 32 = .ok (.getfield 15, 3) := by decide +kernel
theorem fr_166_15 : sm_at mt_f (sm_ow 166) 15 = some (15, 4, 1, 0, 837) := by decide +kernel
theorem dc_166_35 : decode (sm_cc 166) 35 = .ok (.iload_n 3, 1) := by decide +kernel
theorem dc_166_36 : decode (sm_cc 166) 36 = .ok (.iload_n 2, 1) := by decide +kernel
theorem dc_166_37 : decode (sm_cc 166) 37 = .ok (.invokevirtual 200, 3) := by decide +kernel
theorem kr_166_200 : sm_at mt_k (sm_ow 166) 200 = some (200, 1, 156, 1, 1465) := by decide +kernel
theorem dc_166_40 : decode (sm_cc 166) 40 = .ok (.lstore 4, 2) := by decide +kernel
theorem dc_166_42 : decode (sm_cc 166) 42 = .ok (.iload_n 1, 1) := by decide +kernel
theorem dc_166_43 : decode (sm_cc 166) 43 = .ok (.ifCond .ge (14), 3) := by decide +kernel
theorem dc_166_57 : decode (sm_cc 166) 57 = .ok (.aload_n 0, 1) := by decide +kernel
theorem dc_166_58 : decode (sm_cc 166) 58 = .ok (.getfield 15, 3) := by decide +kernel
theorem dc_166_61 : decode (sm_cc 166) 61 = .ok (.iload_n 3, 1) := by decide +kernel
theorem dc_166_62 : decode (sm_cc 166) 62 = .ok (.iload_n 2, 1) := by decide +kernel
theorem dc_166_63 : decode (sm_cc 166) 63 = .ok (.invokevirtual 204, 3) := by decide +kernel
theorem kr_166_204 : sm_at mt_k (sm_ow 166) 204 = some (204, 1, 158, 1, 1473) := by decide +kernel
theorem dc_166_66 : decode (sm_cc 166) 66 = .ok (.lstore 6, 2) := by decide +kernel
theorem dc_166_68 : decode (sm_cc 166) 68 = .ok (.lload 4, 2) := by decide +kernel
theorem dc_166_70 : decode (sm_cc 166) 70 = .ok (.invokestatic 137, 3) := by decide +kernel
theorem kr_166_137 : sm_at mt_k (sm_ow 166) 137 = some (137, 3, 134, 1, 1485) := by decide +kernel
theorem dc_166_73 : decode (sm_cc 166) 73 = .ok (.ifCond .ne (5), 3) := by decide +kernel
theorem dc_166_78 : decode (sm_cc 166) 78 = .ok (.aload_n 0, 1) := by decide +kernel
theorem dc_166_79 : decode (sm_cc 166) 79 = .ok (.getfield 23, 3) := by decide +kernel
theorem fr_166_23 : sm_at mt_f (sm_ow 166) 23 = some (23, 4, 3, 0, 839) := by decide +kernel
theorem dc_166_82 : decode (sm_cc 166) 82 = .ok (.lload 4, 2) := by decide +kernel
theorem dc_166_84 : decode (sm_cc 166) 84 = .ok (.lload 6, 2) := by decide +kernel
theorem dc_166_86 : decode (sm_cc 166) 86 = .ok (.invokevirtual 146, 3) := by decide +kernel
theorem kr_166_146 : sm_at mt_k (sm_ow 166) 146 = some (146, 1, 153, 1, 1452) := by decide +kernel
theorem dc_166_89 : decode (sm_cc 166) 89 = .ok (.iconst 1, 1) := by decide +kernel
theorem dc_166_90 : decode (sm_cc 166) 90 = .ok (.ireturn, 1) := by decide +kernel
theorem rt_166 : sm_rt 166 = some .boolean := by decide +kernel
theorem dc_166_76 : decode (sm_cc 166) 76 = .ok (.iconst 0, 1) := by decide +kernel
theorem dc_166_77 : decode (sm_cc 166) 77 = .ok (.ireturn, 1) := by decide +kernel
theorem dc_166_46 : decode (sm_cc 166) 46 = .ok (.aload_n 0, 1) := by decide +kernel
theorem dc_166_47 : decode (sm_cc 166) 47 = .ok (.getfield 19, 3) := by decide +kernel
theorem fr_166_19 : sm_at mt_f (sm_ow 166) 19 = some (19, 4, 2, 0, 838) := by decide +kernel
theorem dc_166_50 : decode (sm_cc 166) 50 = .ok (.iload_n 2, 1) := by decide +kernel
theorem dc_166_51 : decode (sm_cc 166) 51 = .ok (.invokevirtual 251, 3) := by decide +kernel
theorem kr_166_251 : sm_at mt_k (sm_ow 166) 251 = some (251, 1, 171, 1, 1529) := by decide +kernel
theorem dc_166_54 : decode (sm_cc 166) 54 = .ok (.goto (12), 3) := by decide +kernel
theorem dc_166_20 : decode (sm_cc 166) 20 = .ok (.aload_n 0, 1) := by decide +kernel
theorem dc_166_21 : decode (sm_cc 166) 21 = .ok (.getfield 19, 3) := by decide +kernel
theorem dc_166_24 : decode (sm_cc 166) 24 = .ok (.iload_n 2, 1) := by decide +kernel
theorem dc_166_25 : decode (sm_cc 166) 25 = .ok (.invokevirtual 247, 3) := by decide +kernel
theorem kr_166_247 : sm_at mt_k (sm_ow 166) 247 = some (247, 1, 169, 1, 1521) := by decide +kernel
theorem dc_166_28 : decode (sm_cc 166) 28 = .ok (.goto (12), 3) := by decide +kernel
theorem ml_172 : sm_ml 172 = 3 := by decide +kernel
theorem dc_172_0 : decode (sm_cc 172) 0 = .ok (.aload_n 0, 1) := by decide +kernel
theorem dc_172_1 : decode (sm_cc 172) 1 = .ok (.invokevirtual 82, 3) := by decide +kernel
theorem kr_172_82 : sm_at mt_k (sm_ow 172) 82 = some (82, 0, 127, 0, 1343) := by decide +kernel
theorem dc_172_4 : decode (sm_cc 172) 4 = .ok (.istore_n 1, 1) := by decide +kernel
theorem dc_172_5 : decode (sm_cc 172) 5 = .ok (.aload_n 0, 1) := by decide +kernel
theorem dc_172_6 : decode (sm_cc 172) 6 = .ok (.invokevirtual 82, 3) := by decide +kernel
theorem dc_172_9 : decode (sm_cc 172) 9 = .ok (.istore_n 2, 1) := by decide +kernel
theorem dc_172_10 : decode (sm_cc 172) 10 = .ok (.iload_n 1, 1) := by decide +kernel
theorem dc_172_11 : decode (sm_cc 172) 11 = .ok (.ifCond .ge (30), 3) := by decide +kernel
theorem dc_172_41 : decode (sm_cc 172) 41 = .ok (.aload_n 0, 1) := by decide +kernel
theorem dc_172_42 : decode (sm_cc 172) 42 = .ok (.getfield 15, 3) := by decide +kernel
theorem fr_172_15 : sm_at mt_f (sm_ow 172) 15 = some (15, 4, 1, 0, 837) := by decide +kernel
theorem dc_172_45 : decode (sm_cc 172) 45 = .ok (.aload_n 0, 1) := by decide +kernel
theorem dc_172_46 : decode (sm_cc 172) 46 = .ok (.iload_n 1, 1) := by decide +kernel
theorem dc_172_47 : decode (sm_cc 172) 47 = .ok (.invokevirtual 244, 3) := by decide +kernel
theorem kr_172_244 : sm_at mt_k (sm_ow 172) 244 = some (244, 0, 167, 0, 1513) := by decide +kernel
theorem dc_172_50 : decode (sm_cc 172) 50 = .ok (.iload_n 2, 1) := by decide +kernel
theorem dc_172_51 : decode (sm_cc 172) 51 = .ok (.aload_n 0, 1) := by decide +kernel
theorem dc_172_52 : decode (sm_cc 172) 52 = .ok (.getfield 23, 3) := by decide +kernel
theorem fr_172_23 : sm_at mt_f (sm_ow 172) 23 = some (23, 4, 3, 0, 839) := by decide +kernel
theorem dc_172_55 : decode (sm_cc 172) 55 = .ok (.iconst 0, 1) := by decide +kernel
theorem dc_172_56 : decode (sm_cc 172) 56 = .ok (.invokevirtual 133, 3) := by decide +kernel
theorem kr_172_133 : sm_at mt_k (sm_ow 172) 133 = some (133, 1, 132, 1, 1427) := by decide +kernel
theorem dc_172_59 : decode (sm_cc 172) 59 = .ok (.aload_n 0, 1) := by decide +kernel
theorem dc_172_60 : decode (sm_cc 172) 60 = .ok (.getfield 23, 3) := by decide +kernel
theorem dc_172_63 : decode (sm_cc 172) 63 = .ok (.iconst 0, 1) := by decide +kernel
theorem dc_172_64 : decode (sm_cc 172) 64 = .ok (.invokevirtual 141, 3) := by decide +kernel
theorem kr_172_141 : sm_at mt_k (sm_ow 172) 141 = some (141, 1, 135, 1, 1429) := by decide +kernel
theorem dc_172_67 : decode (sm_cc 172) 67 = .ok (.invokevirtual 257, 3) := by decide +kernel
theorem ow_174 : 2 = sm_ow 174 := by decide +kernel
theorem kr_172_257 : sm_at mt_k (sm_ow 172) 257 = some (257, 1, 174, 1, 1545) := by decide +kernel
theorem np_174 : sm_np 174 = 4 := by decide +kernel
theorem dc_172_70 : decode (sm_cc 172) 70 = .ok (.aload_n 0, 1) := by decide +kernel
theorem dc_172_71 : decode (sm_cc 172) 71 = .ok (.getfield 23, 3) := by decide +kernel
theorem dc_172_74 : decode (sm_cc 172) 74 = .ok (.iconst 1, 1) := by decide +kernel
theorem dc_172_75 : decode (sm_cc 172) 75 = .ok (.invokevirtual 127, 3) := by decide +kernel
theorem kr_172_127 : sm_at mt_k (sm_ow 172) 127 = some (127, 1, 141, 1, 1399) := by decide +kernel
theorem dc_172_78 : decode (sm_cc 172) 78 = .ok (.iconst 0, 1) := by decide +kernel
theorem dc_172_79 : decode (sm_cc 172) 79 = .ok (.ireturn, 1) := by decide +kernel
theorem rt_172 : sm_rt 172 = some .int := by decide +kernel
theorem dc_172_14 : decode (sm_cc 172) 14 = .ok (.aload_n 0, 1) := by decide +kernel
theorem dc_172_15 : decode (sm_cc 172) 15 = .ok (.getfield 19, 3) := by decide +kernel
theorem fr_172_19 : sm_at mt_f (sm_ow 172) 19 = some (19, 4, 2, 0, 838) := by decide +kernel
theorem dc_172_18 : decode (sm_cc 172) 18 = .ok (.iload_n 2, 1) := by decide +kernel
theorem dc_172_19 : decode (sm_cc 172) 19 = .ok (.aload_n 0, 1) := by decide +kernel
theorem dc_172_20 : decode (sm_cc 172) 20 = .ok (.getfield 23, 3) := by decide +kernel
theorem dc_172_23 : decode (sm_cc 172) 23 = .ok (.iconst 0, 1) := by decide +kernel
theorem dc_172_24 : decode (sm_cc 172) 24 = .ok (.invokevirtual 133, 3) := by decide +kernel
theorem dc_172_27 : decode (sm_cc 172) 27 = .ok (.aload_n 0, 1) := by decide +kernel
theorem dc_172_28 : decode (sm_cc 172) 28 = .ok (.getfield 23, 3) := by decide +kernel
theorem dc_172_31 : decode (sm_cc 172) 31 = .ok (.iconst 0, 1) := by decide +kernel
theorem dc_172_32 : decode (sm_cc 172) 32 = .ok (.invokevirtual 141, 3) := by decide +kernel
theorem dc_172_35 : decode (sm_cc 172) 35 = .ok (.invokevirtual 253, 3) := by decide +kernel
theorem kr_172_253 : sm_at mt_k (sm_ow 172) 253 = some (253, 1, 173, 1, 1537) := by decide +kernel
theorem dc_172_38 : decode (sm_cc 172) 38 = .ok (.goto (32), 3) := by decide +kernel
theorem ml_175 : sm_ml 175 = 5 := by decide +kernel
theorem dc_175_0 : decode (sm_cc 175) 0 = .ok (.aload_n 0, 1) := by decide +kernel
theorem dc_175_1 : decode (sm_cc 175) 1 = .ok (.invokevirtual 82, 3) := by decide +kernel
theorem kr_175_82 : sm_at mt_k (sm_ow 175) 82 = some (82, 0, 127, 0, 1343) := by decide +kernel
theorem dc_175_4 : decode (sm_cc 175) 4 = .ok (.istore_n 1, 1) := by decide +kernel
theorem dc_175_5 : decode (sm_cc 175) 5 = .ok (.aload_n 0, 1) := by decide +kernel
theorem dc_175_6 : decode (sm_cc 175) 6 = .ok (.invokevirtual 82, 3) := by decide +kernel
theorem dc_175_9 : decode (sm_cc 175) 9 = .ok (.istore_n 2, 1) := by decide +kernel
theorem dc_175_10 : decode (sm_cc 175) 10 = .ok (.iload_n 1, 1) := by decide +kernel
theorem dc_175_11 : decode (sm_cc 175) 11 = .ok (.ifCond .ge (14), 3) := by decide +kernel
theorem dc_175_25 : decode (sm_cc 175) 25 = .ok (.aload_n 0, 1) := by decide +kernel
theorem dc_175_26 : decode (sm_cc 175) 26 = .ok (.getfield 15, 3) := by decide +kernel
theorem fr_175_15 : sm_at mt_f (sm_ow 175) 15 = some (15, 4, 1, 0, 837) := by decide +kernel
theorem dc_175_29 : decode (sm_cc 175) 29 = .ok (.aload_n 0, 1) := by decide +kernel
theorem dc_175_30 : decode (sm_cc 175) 30 = .ok (.iload_n 1, 1) := by decide +kernel
theorem dc_175_31 : decode (sm_cc 175) 31 = .ok (.invokevirtual 244, 3) := by decide +kernel
theorem kr_175_244 : sm_at mt_k (sm_ow 175) 244 = some (244, 0, 167, 0, 1513) := by decide +kernel
theorem dc_175_34 : decode (sm_cc 175) 34 = .ok (.iload_n 2, 1) := by decide +kernel
theorem dc_175_35 : decode (sm_cc 175) 35 = .ok (.invokevirtual 200, 3) := by decide +kernel
theorem kr_175_200 : sm_at mt_k (sm_ow 175) 200 = some (200, 1, 156, 1, 1465) := by decide +kernel
theorem dc_175_38 : decode (sm_cc 175) 38 = .ok (.lstore_n 3, 1) := by decide +kernel
theorem dc_175_39 : decode (sm_cc 175) 39 = .ok (.lload_n 3, 1) := by decide +kernel
theorem dc_175_40 : decode (sm_cc 175) 40 = .ok (.invokestatic 137, 3) := by decide +kernel
theorem kr_175_137 : sm_at mt_k (sm_ow 175) 137 = some (137, 3, 134, 1, 1485) := by decide +kernel
theorem dc_175_43 : decode (sm_cc 175) 43 = .ok (.ifCond .ne (5), 3) := by decide +kernel
theorem dc_175_48 : decode (sm_cc 175) 48 = .ok (.iload_n 1, 1) := by decide +kernel
theorem dc_175_49 : decode (sm_cc 175) 49 = .ok (.ifCond .ge (16), 3) := by decide +kernel
theorem dc_175_65 : decode (sm_cc 175) 65 = .ok (.aload_n 0, 1) := by decide +kernel
theorem dc_175_66 : decode (sm_cc 175) 66 = .ok (.getfield 15, 3) := by decide +kernel
theorem dc_175_69 : decode (sm_cc 175) 69 = .ok (.aload_n 0, 1) := by decide +kernel
theorem dc_175_70 : decode (sm_cc 175) 70 = .ok (.iload_n 1, 1) := by decide +kernel
theorem dc_175_71 : decode (sm_cc 175) 71 = .ok (.invokevirtual 244, 3) := by decide +kernel
theorem dc_175_74 : decode (sm_cc 175) 74 = .ok (.iload_n 2, 1) := by decide +kernel
theorem dc_175_75 : decode (sm_cc 175) 75 = .ok (.lconst 0, 1) := by decide +kernel
theorem dc_175_76 : decode (sm_cc 175) 76 = .ok (.lconst 0, 1) := by decide +kernel
theorem dc_175_77 : decode (sm_cc 175) 77 = .ok (.invokevirtual 257, 3) := by decide +kernel
theorem kr_175_257 : sm_at mt_k (sm_ow 175) 257 = some (257, 1, 174, 1, 1545) := by decide +kernel
theorem dc_175_80 : decode (sm_cc 175) 80 = .ok (.iconst 0, 1) := by decide +kernel
theorem dc_175_81 : decode (sm_cc 175) 81 = .ok (.ireturn, 1) := by decide +kernel
theorem rt_175 : sm_rt 175 = some .int := by decide +kernel
theorem dc_175_52 : decode (sm_cc 175) 52 = .ok (.aload_n 0, 1) := by decide +kernel
theorem dc_175_53 : decode (sm_cc 175) 53 = .ok (.getfield 19, 3) := by decide +kernel
theorem fr_175_19 : sm_at mt_f (sm_ow 175) 19 = some (19, 4, 2, 0, 838) := by decide +kernel
theorem dc_175_56 : decode (sm_cc 175) 56 = .ok (.iload_n 2, 1) := by decide +kernel
theorem dc_175_57 : decode (sm_cc 175) 57 = .ok (.lconst 0, 1) := by decide +kernel
theorem dc_175_58 : decode (sm_cc 175) 58 = .ok (.lconst 0, 1) := by decide +kernel
theorem dc_175_59 : decode (sm_cc 175) 59 = .ok (.invokevirtual 253, 3) := by decide +kernel
theorem kr_175_253 : sm_at mt_k (sm_ow 175) 253 = some (253, 1, 173, 1, 1537) := by decide +kernel
theorem dc_175_62 : decode (sm_cc 175) 62 = .ok (.goto (18), 3) := by decide +kernel
theorem dc_175_46 : decode (sm_cc 175) 46 = .ok (.iconst 1, 1) := by decide +kernel
theorem dc_175_47 : decode (sm_cc 175) 47 = .ok (.ireturn, 1) := by decide +kernel
theorem dc_175_14 : decode (sm_cc 175) 14 = .ok (.aload_n 0, 1) := by decide +kernel
theorem dc_175_15 : decode (sm_cc 175) 15 = .ok (.getfield 19, 3) := by decide +kernel
theorem dc_175_18 : decode (sm_cc 175) 18 = .ok (.iload_n 2, 1) := by decide +kernel
theorem dc_175_19 : decode (sm_cc 175) 19 = .ok (.invokevirtual 247, 3) := by decide +kernel
theorem kr_175_247 : sm_at mt_k (sm_ow 175) 247 = some (247, 1, 169, 1, 1521) := by decide +kernel
theorem dc_175_22 : decode (sm_cc 175) 22 = .ok (.goto (16), 3) := by decide +kernel
theorem ml_176 : sm_ml 176 = 3 := by decide +kernel
theorem dc_176_0 : decode (sm_cc 176) 0 = .ok (.aload_n 0, 1) := by decide +kernel
theorem dc_176_1 : decode (sm_cc 176) 1 = .ok (.invokevirtual 214, 3) := by decide +kernel
theorem kr_176_214 : sm_at mt_k (sm_ow 176) 214 = some (214, 0, 166, 0, 1509) := by decide +kernel
theorem dc_176_4 : decode (sm_cc 176) 4 = .ok (.istore_n 1, 1) := by decide +kernel
theorem dc_176_5 : decode (sm_cc 176) 5 = .ok (.aload_n 0, 1) := by decide +kernel
theorem dc_176_6 : decode (sm_cc 176) 6 = .ok (.invokevirtual 82, 3) := by decide +kernel
theorem kr_176_82 : sm_at mt_k (sm_ow 176) 82 = some (82, 0, 127, 0, 1343) := by decide +kernel
theorem dc_176_9 : decode (sm_cc 176) 9 = .ok (.istore_n 2, 1) := by decide +kernel
theorem dc_176_10 : decode (sm_cc 176) 10 = .ok (.iload_n 1, 1) := by decide +kernel
theorem dc_176_11 : decode (sm_cc 176) 11 = .ok (.ifCond .eq (5), 3) := by decide +kernel
theorem dc_176_14 : decode (sm_cc 176) 14 = .ok (.iconst 0, 1) := by decide +kernel
theorem dc_176_15 : decode (sm_cc 176) 15 = .ok (.ireturn, 1) := by decide +kernel
theorem rt_176 : sm_rt 176 = some .int := by decide +kernel
theorem dc_176_16 : decode (sm_cc 176) 16 = .ok (.iload_n 2, 1) := by decide +kernel
theorem dc_176_17 : decode (sm_cc 176) 17 = .ok (.ifCond .ne (5), 3) := by decide +kernel
theorem dc_176_22 : decode (sm_cc 176) 22 = .ok (.aload_n 0, 1) := by decide +kernel
theorem dc_176_23 : decode (sm_cc 176) 23 = .ok (.getfield 23, 3) := by decide +kernel
theorem fr_176_23 : sm_at mt_f (sm_ow 176) 23 = some (23, 4, 3, 0, 839) := by decide +kernel
theorem dc_176_26 : decode (sm_cc 176) 26 = .ok (.ldc2_w 261, 3) := by decide +kernel
theorem cj_176_261 : sm_at mt_cj (sm_ow 176) 261 = some (261, (5764607523034234880), 1559) := by decide +kernel
theorem dc_176_29 : decode (sm_cc 176) 29 = .ok (.iload_n 2, 1) := by decide +kernel
theorem dc_176_30 : decode (sm_cc 176) 30 = .ok (.i2l, 1) := by decide +kernel
theorem dc_176_31 : decode (sm_cc 176) 31 = .ok (.invokevirtual 146, 3) := by decide +kernel
theorem kr_176_146 : sm_at mt_k (sm_ow 176) 146 = some (146, 1, 153, 1, 1452) := by decide +kernel
theorem dc_176_34 : decode (sm_cc 176) 34 = .ok (.iconst 0, 1) := by decide +kernel
theorem dc_176_35 : decode (sm_cc 176) 35 = .ok (.ireturn, 1) := by decide +kernel
theorem dc_176_20 : decode (sm_cc 176) 20 = .ok (.iconst 1, 1) := by decide +kernel
theorem dc_176_21 : decode (sm_cc 176) 21 = .ok (.ireturn, 1) := by decide +kernel
theorem ml_177 : sm_ml 177 = 3 := by decide +kernel
theorem dc_177_0 : decode (sm_cc 177) 0 = .ok (.aload_n 0, 1) := by decide +kernel
theorem dc_177_1 : decode (sm_cc 177) 1 = .ok (.getfield 15, 3) := by decide +kernel
theorem fr_177_15 : sm_at mt_f (sm_ow 177) 15 = some (15, 4, 1, 0, 837) := by decide +kernel
theorem dc_177_4 : decode (sm_cc 177) 4 = .ok (.iconst 3, 1) := by decide +kernel
theorem dc_177_5 : decode (sm_cc 177) 5 = .ok (.invokevirtual 263, 3) := by decide +kernel
theorem ow_178 : 2 = sm_ow 178 := by decide +kernel
theorem kr_177_263 : sm_at mt_k (sm_ow 177) 263 = some (263, 1, 178, 1, 1564) := by decide +kernel
theorem np_178 : sm_np 178 = 1 := by decide +kernel
theorem dc_177_8 : decode (sm_cc 177) 8 = .ok (.istore_n 2, 1) := by decide +kernel
theorem dc_177_9 : decode (sm_cc 177) 9 = .ok (.iload_n 2, 1) := by decide +kernel
theorem dc_177_10 : decode (sm_cc 177) 10 = .ok (.ifCond .ne (6), 3) := by decide +kernel
theorem dc_177_16 : decode (sm_cc 177) 16 = .ok (.aload_n 0, 1) := by decide +kernel
theorem dc_177_17 : decode (sm_cc 177) 17 = .ok (.getfield 15, 3) := by decide +kernel
theorem dc_177_20 : decode (sm_cc 177) 20 = .ok (.iload_n 2, 1) := by decide +kernel
theorem dc_177_21 : decode (sm_cc 177) 21 = .ok (.iload_n 1, 1) := by decide +kernel
theorem dc_177_22 : decode (sm_cc 177) 22 = .ok (.aload_n 0, 1) := by decide +kernel
theorem dc_177_23 : decode (sm_cc 177) 23 = .ok (.getfield 78, 3) := by decide +kernel
theorem fr_177_78 : sm_at mt_f (sm_ow 177) 78 = some (78, 4, 15, 0, 851) := by decide +kernel
theorem dc_177_26 : decode (sm_cc 177) 26 = .ok (.iconst 0, 1) := by decide +kernel
theorem dc_177_27 : decode (sm_cc 177) 27 = .ok (.invokevirtual 266, 3) := by decide +kernel
theorem ow_179 : 2 = sm_ow 179 := by decide +kernel
theorem kr_177_266 : sm_at mt_k (sm_ow 177) 266 = some (266, 1, 179, 1, 1568) := by decide +kernel
theorem np_179 : sm_np 179 = 4 := by decide +kernel
theorem dc_177_30 : decode (sm_cc 177) 30 = .ok (.aload_n 0, 1) := by decide +kernel
theorem dc_177_31 : decode (sm_cc 177) 31 = .ok (.getfield 23, 3) := by decide +kernel
theorem fr_177_23 : sm_at mt_f (sm_ow 177) 23 = some (23, 4, 3, 0, 839) := by decide +kernel
theorem dc_177_34 : decode (sm_cc 177) 34 = .ok (.ldc2_w 270, 3) := by decide +kernel
theorem cj_177_270 : sm_at mt_cj (sm_ow 177) 270 = some (270, (4611686018427387904), 1428) := by decide +kernel
theorem dc_177_37 : decode (sm_cc 177) 37 = .ok (.iload_n 2, 1) := by decide +kernel
theorem dc_177_38 : decode (sm_cc 177) 38 = .ok (.i2l, 1) := by decide +kernel
theorem dc_177_39 : decode (sm_cc 177) 39 = .ok (.invokevirtual 146, 3) := by decide +kernel
theorem kr_177_146 : sm_at mt_k (sm_ow 177) 146 = some (146, 1, 153, 1, 1452) := by decide +kernel
theorem dc_177_42 : decode (sm_cc 177) 42 = .ok (.iconst 0, 1) := by decide +kernel
theorem dc_177_43 : decode (sm_cc 177) 43 = .ok (.ireturn, 1) := by decide +kernel
theorem rt_177 : sm_rt 177 = some .int := by decide +kernel
theorem dc_177_13 : decode (sm_cc 177) 13 = .ok (.bipush (8), 2) := by decide +kernel
theorem dc_177_15 : decode (sm_cc 177) 15 = .ok (.ireturn, 1) := by decide +kernel
theorem ml_225 : sm_ml 225 = 1 := by decide +kernel
theorem dc_225_0 : decode (sm_cc 225) 0 = .ok (.aload_n 0, 1) := by decide +kernel
theorem dc_225_1 : decode (sm_cc 225) 1 = .ok (.getfield 23, 3) := by decide +kernel
theorem fr_225_23 : sm_at mt_f (sm_ow 225) 23 = some (23, 4, 3, 0, 839) := by decide +kernel
theorem dc_225_4 : decode (sm_cc 225) 4 = .ok (.aload_n 0, 1) := by decide +kernel
theorem dc_225_5 : decode (sm_cc 225) 5 = .ok (.getfield 11, 3) := by decide +kernel
theorem fr_225_11 : sm_at mt_f (sm_ow 225) 11 = some (11, 4, 0, 0, 836) := by decide +kernel
theorem dc_225_8 : decode (sm_cc 225) 8 = .ok (.aload_n 0, 1) := by decide +kernel
theorem dc_225_9 : decode (sm_cc 225) 9 = .ok (.getfield 69, 3) := by decide +kernel
theorem fr_225_69 : sm_at mt_f (sm_ow 225) 69 = some (69, 4, 16, 0, 852) := by decide +kernel
theorem dc_225_12 : decode (sm_cc 225) 12 = .ok (.invokevirtual 130, 3) := by decide +kernel
theorem kr_225_130 : sm_at mt_k (sm_ow 225) 130 = some (130, 1, 88, 1, 1347) := by decide +kernel
theorem dc_225_15 : decode (sm_cc 225) 15 = .ok (.invokevirtual 133, 3) := by decide +kernel
theorem kr_225_133 : sm_at mt_k (sm_ow 225) 133 = some (133, 1, 132, 1, 1427) := by decide +kernel
theorem dc_225_18 : decode (sm_cc 225) 18 = .ok (.invokestatic 137, 3) := by decide +kernel
theorem kr_225_137 : sm_at mt_k (sm_ow 225) 137 = some (137, 3, 134, 1, 1485) := by decide +kernel
theorem dc_225_21 : decode (sm_cc 225) 21 = .ok (.iconst 5, 1) := by decide +kernel
theorem dc_225_22 : decode (sm_cc 225) 22 = .ok (.if_icmp .ne (7), 3) := by decide +kernel
theorem dc_225_29 : decode (sm_cc 225) 29 = .ok (.iconst 0, 1) := by decide +kernel
theorem dc_225_30 : decode (sm_cc 225) 30 = .ok (.ireturn, 1) := by decide +kernel
theorem rt_225 : sm_rt 225 = some .boolean := by decide +kernel
theorem dc_225_25 : decode (sm_cc 225) 25 = .ok (.iconst 1, 1) := by decide +kernel
theorem dc_225_26 : decode (sm_cc 225) 26 = .ok (.goto (4), 3) := by decide +kernel
theorem ml_226 : sm_ml 226 = 1 := by decide +kernel
theorem dc_226_0 : decode (sm_cc 226) 0 = .ok (.aload_n 0, 1) := by decide +kernel
theorem dc_226_1 : decode (sm_cc 226) 1 = .ok (.getfield 23, 3) := by decide +kernel
theorem fr_226_23 : sm_at mt_f (sm_ow 226) 23 = some (23, 4, 3, 0, 839) := by decide +kernel
theorem dc_226_4 : decode (sm_cc 226) 4 = .ok (.aload_n 0, 1) := by decide +kernel
theorem dc_226_5 : decode (sm_cc 226) 5 = .ok (.getfield 11, 3) := by decide +kernel
theorem fr_226_11 : sm_at mt_f (sm_ow 226) 11 = some (11, 4, 0, 0, 836) := by decide +kernel
theorem dc_226_8 : decode (sm_cc 226) 8 = .ok (.aload_n 0, 1) := by decide +kernel
theorem dc_226_9 : decode (sm_cc 226) 9 = .ok (.getfield 69, 3) := by decide +kernel
theorem fr_226_69 : sm_at mt_f (sm_ow 226) 69 = some (69, 4, 16, 0, 852) := by decide +kernel
theorem dc_226_12 : decode (sm_cc 226) 12 = .ok (.invokevirtual 130, 3) := by decide +kernel
theorem kr_226_130 : sm_at mt_k (sm_ow 226) 130 = some (130, 1, 88, 1, 1347) := by decide +kernel
theorem dc_226_15 : decode (sm_cc 226) 15 = .ok (.invokevirtual 141, 3) := by decide +kernel
theorem kr_226_141 : sm_at mt_k (sm_ow 226) 141 = some (141, 1, 135, 1, 1429) := by decide +kernel
theorem dc_226_18 : decode (sm_cc 226) 18 = .ok (.l2i, 1) := by decide +kernel
theorem dc_226_19 : decode (sm_cc 226) 19 = .ok (.ireturn, 1) := by decide +kernel
theorem rt_226 : sm_rt 226 = some .int := by decide +kernel
theorem ml_253 : sm_ml 253 = 3 := by decide +kernel
theorem dc_253_0 : decode (sm_cc 253) 0 = .ok (.aload_n 0, 1) := by decide +kernel
theorem dc_253_1 : decode (sm_cc 253) 1 = .ok (.getfield 23, 3) := by decide +kernel
theorem fr_253_23 : sm_at mt_f (sm_ow 253) 23 = some (23, 4, 3, 0, 839) := by decide +kernel
theorem dc_253_4 : decode (sm_cc 253) 4 = .ok (.iload_n 1, 1) := by decide +kernel
theorem dc_253_5 : decode (sm_cc 253) 5 = .ok (.invokevirtual 286, 3) := by decide +kernel
theorem kr_253_286 : sm_at mt_k (sm_ow 253) 286 = some (286, 1, 136, 1, 1943) := by decide +kernel
theorem dc_253_8 : decode (sm_cc 253) 8 = .ok (.istore_n 2, 1) := by decide +kernel
theorem dc_253_9 : decode (sm_cc 253) 9 = .ok (.aload_n 0, 1) := by decide +kernel
theorem dc_253_10 : decode (sm_cc 253) 10 = .ok (.getfield 15, 3) := by decide +kernel
theorem fr_253_15 : sm_at mt_f (sm_ow 253) 15 = some (15, 4, 1, 0, 837) := by decide +kernel
theorem dc_253_13 : decode (sm_cc 253) 13 = .ok (.iload_n 2, 1) := by decide +kernel
theorem dc_253_14 : decode (sm_cc 253) 14 = .ok (.invokevirtual 288, 3) := by decide +kernel
theorem kr_253_288 : sm_at mt_k (sm_ow 253) 288 = some (288, 1, 138, 1, 1944) := by decide +kernel
theorem dc_253_17 : decode (sm_cc 253) 17 = .ok (.tableswitch (70) 3 6 #[31, 63, 70, 40], 31) := by decide +kernel
theorem dc_253_48 : decode (sm_cc 253) 48 = .ok (.aload_n 0, 1) := by decide +kernel
theorem dc_253_49 : decode (sm_cc 253) 49 = .ok (.iload_n 2, 1) := by decide +kernel
theorem dc_253_50 : decode (sm_cc 253) 50 = .ok (.iload_n 1, 1) := by decide +kernel
theorem dc_253_51 : decode (sm_cc 253) 51 = .ok (.iconst 0, 1) := by decide +kernel
theorem dc_253_52 : decode (sm_cc 253) 52 = .ok (.iconst 0, 1) := by decide +kernel
theorem dc_253_53 : decode (sm_cc 253) 53 = .ok (.invokevirtual 291, 3) := by decide +kernel
theorem ow_254 : 4 = sm_ow 254 := by decide +kernel
theorem kr_253_291 : sm_at mt_k (sm_ow 253) 291 = some (291, 0, 254, 0, 1945) := by decide +kernel
theorem np_254 : sm_np 254 = 4 := by decide +kernel
theorem dc_253_56 : decode (sm_cc 253) 56 = .ok (.ireturn, 1) := by decide +kernel
theorem rt_253 : sm_rt 253 = some .int := by decide +kernel
theorem dc_253_80 : decode (sm_cc 253) 80 = .ok (.aload_n 0, 1) := by decide +kernel
theorem dc_253_81 : decode (sm_cc 253) 81 = .ok (.iload_n 2, 1) := by decide +kernel
theorem dc_253_82 : decode (sm_cc 253) 82 = .ok (.iload_n 1, 1) := by decide +kernel
theorem dc_253_83 : decode (sm_cc 253) 83 = .ok (.invokevirtual 298, 3) := by decide +kernel
theorem ow_265 : 4 = sm_ow 265 := by decide +kernel
theorem kr_253_298 : sm_at mt_k (sm_ow 253) 298 = some (298, 0, 265, 0, 1989) := by decide +kernel
theorem np_265 : sm_np 265 = 2 := by decide +kernel
theorem dc_253_86 : decode (sm_cc 253) 86 = .ok (.ireturn, 1) := by decide +kernel
theorem dc_253_57 : decode (sm_cc 253) 57 = .ok (.aload_n 0, 1) := by decide +kernel
theorem dc_253_58 : decode (sm_cc 253) 58 = .ok (.aload_n 0, 1) := by decide +kernel
theorem dc_253_59 : decode (sm_cc 253) 59 = .ok (.getfield 15, 3) := by decide +kernel
theorem dc_253_62 : decode (sm_cc 253) 62 = .ok (.iload_n 2, 1) := by decide +kernel
theorem dc_253_63 : decode (sm_cc 253) 63 = .ok (.invokevirtual 241, 3) := by decide +kernel
theorem ow_168 : 2 = sm_ow 168 := by decide +kernel
theorem kr_253_241 : sm_at mt_k (sm_ow 253) 241 = some (241, 1, 168, 1, 1517) := by decide +kernel
theorem np_168 : sm_np 168 = 1 := by decide +kernel
theorem dc_253_66 : decode (sm_cc 253) 66 = .ok (.iload_n 1, 1) := by decide +kernel
theorem dc_253_67 : decode (sm_cc 253) 67 = .ok (.aload_n 0, 1) := by decide +kernel
theorem dc_253_68 : decode (sm_cc 253) 68 = .ok (.getfield 15, 3) := by decide +kernel
theorem dc_253_71 : decode (sm_cc 253) 71 = .ok (.iload_n 2, 1) := by decide +kernel
theorem dc_253_72 : decode (sm_cc 253) 72 = .ok (.invokevirtual 295, 3) := by decide +kernel
theorem ow_264 : 2 = sm_ow 264 := by decide +kernel
theorem kr_253_295 : sm_at mt_k (sm_ow 253) 295 = some (295, 1, 264, 1, 1985) := by decide +kernel
theorem np_264 : sm_np 264 = 1 := by decide +kernel
theorem dc_253_75 : decode (sm_cc 253) 75 = .ok (.iconst 0, 1) := by decide +kernel
theorem dc_253_76 : decode (sm_cc 253) 76 = .ok (.invokevirtual 291, 3) := by decide +kernel
theorem dc_253_79 : decode (sm_cc 253) 79 = .ok (.ireturn, 1) := by decide +kernel
theorem dc_253_87 : decode (sm_cc 253) 87 = .ok (.iconst 2, 1) := by decide +kernel
theorem dc_253_88 : decode (sm_cc 253) 88 = .ok (.ireturn, 1) := by decide +kernel
theorem ml_265 : sm_ml 265 = 12 := by decide +kernel
theorem dc_265_0 : decode (sm_cc 265) 0 = .ok (.aload_n 0, 1) := by decide +kernel
theorem dc_265_1 : decode (sm_cc 265) 1 = .ok (.getfield 15, 3) := by decide +kernel
theorem fr_265_15 : sm_at mt_f (sm_ow 265) 15 = some (15, 4, 1, 0, 837) := by decide +kernel
theorem dc_265_4 : decode (sm_cc 265) 4 = .ok (.iconst 5, 1) := by decide +kernel
theorem dc_265_5 : decode (sm_cc 265) 5 = .ok (.invokevirtual 263, 3) := by decide +kernel
theorem kr_265_263 : sm_at mt_k (sm_ow 265) 263 = some (263, 1, 178, 1, 1564) := by decide +kernel
theorem dc_265_8 : decode (sm_cc 265) 8 = .ok (.istore_n 3, 1) := by decide +kernel
theorem dc_265_9 : decode (sm_cc 265) 9 = .ok (.iload_n 3, 1) := by decide +kernel
theorem dc_265_10 : decode (sm_cc 265) 10 = .ok (.ifCond .ne (6), 3) := by decide +kernel
theorem dc_265_16 : decode (sm_cc 265) 16 = .ok (.aload_n 0, 1) := by decide +kernel
theorem dc_265_17 : decode (sm_cc 265) 17 = .ok (.getfield 15, 3) := by decide +kernel
theorem dc_265_20 : decode (sm_cc 265) 20 = .ok (.aload_n 0, 1) := by decide +kernel
theorem dc_265_21 : decode (sm_cc 265) 21 = .ok (.getfield 15, 3) := by decide +kernel
theorem dc_265_24 : decode (sm_cc 265) 24 = .ok (.getfield 156, 3) := by decide +kernel
theorem fr_265_156 : sm_at mt_f (sm_ow 265) 156 = some (156, 2, 3, 1, 379) := by decide +kernel
theorem dc_265_27 : decode (sm_cc 265) 27 = .ok (.iload_n 3, 1) := by decide +kernel
theorem dc_265_28 : decode (sm_cc 265) 28 = .ok (.invokevirtual 301, 3) := by decide +kernel
theorem kr_265_301 : sm_at mt_k (sm_ow 265) 301 = some (301, 1, 149, 1, 1958) := by decide +kernel
theorem dc_265_31 : decode (sm_cc 265) 31 = .ok (.aload_n 0, 1) := by decide +kernel
theorem dc_265_32 : decode (sm_cc 265) 32 = .ok (.getfield 15, 3) := by decide +kernel
theorem dc_265_35 : decode (sm_cc 265) 35 = .ok (.iload_n 3, 1) := by decide +kernel
theorem dc_265_36 : decode (sm_cc 265) 36 = .ok (.iconst 0, 1) := by decide +kernel
theorem dc_265_37 : decode (sm_cc 265) 37 = .ok (.iload_n 1, 1) := by decide +kernel
theorem dc_265_38 : decode (sm_cc 265) 38 = .ok (.iconst 0, 1) := by decide +kernel
theorem dc_265_39 : decode (sm_cc 265) 39 = .ok (.invokevirtual 266, 3) := by decide +kernel
theorem kr_265_266 : sm_at mt_k (sm_ow 265) 266 = some (266, 1, 179, 1, 1568) := by decide +kernel
theorem dc_265_42 : decode (sm_cc 265) 42 = .ok (.aload_n 0, 1) := by decide +kernel
theorem dc_265_43 : decode (sm_cc 265) 43 = .ok (.getfield 19, 3) := by decide +kernel
theorem fr_265_19 : sm_at mt_f (sm_ow 265) 19 = some (19, 4, 2, 0, 838) := by decide +kernel
theorem dc_265_46 : decode (sm_cc 265) 46 = .ok (.bipush (34), 2) := by decide +kernel
theorem dc_265_48 : decode (sm_cc 265) 48 = .ok (.invokevirtual 272, 3) := by decide +kernel
theorem ow_181 : 5 = sm_ow 181 := by decide +kernel
theorem kr_265_272 : sm_at mt_k (sm_ow 265) 272 = some (272, 1, 181, 1, 1576) := by decide +kernel
theorem np_181 : sm_np 181 = 1 := by decide +kernel
theorem dc_265_51 : decode (sm_cc 265) 51 = .ok (.lstore 4, 2) := by decide +kernel
theorem dc_265_53 : decode (sm_cc 265) 53 = .ok (.aload_n 0, 1) := by decide +kernel
theorem dc_265_54 : decode (sm_cc 265) 54 = .ok (.getfield 19, 3) := by decide +kernel
theorem dc_265_57 : decode (sm_cc 265) 57 = .ok (.bipush (34), 2) := by decide +kernel
theorem dc_265_59 : decode (sm_cc 265) 59 = .ok (.invokevirtual 275, 3) := by decide +kernel
theorem ow_182 : 5 = sm_ow 182 := by decide +kernel
theorem kr_265_275 : sm_at mt_k (sm_ow 265) 275 = some (275, 1, 182, 1, 1580) := by decide +kernel
theorem np_182 : sm_np 182 = 1 := by decide +kernel
theorem dc_265_62 : decode (sm_cc 265) 62 = .ok (.lstore 6, 2) := by decide +kernel
theorem dc_265_64 : decode (sm_cc 265) 64 = .ok (.aload_n 0, 1) := by decide +kernel
theorem dc_265_65 : decode (sm_cc 265) 65 = .ok (.getfield 15, 3) := by decide +kernel
theorem dc_265_68 : decode (sm_cc 265) 68 = .ok (.iload_n 1, 1) := by decide +kernel
theorem dc_265_69 : decode (sm_cc 265) 69 = .ok (.lload 4, 2) := by decide +kernel
theorem dc_265_71 : decode (sm_cc 265) 71 = .ok (.lload 6, 2) := by decide +kernel
theorem dc_265_73 : decode (sm_cc 265) 73 = .ok (.invokevirtual 304, 3) := by decide +kernel
theorem ow_220 : 2 = sm_ow 220 := by decide +kernel
theorem kr_265_304 : sm_at mt_k (sm_ow 265) 304 = some (304, 1, 220, 1, 1993) := by decide +kernel
theorem np_220 : sm_np 220 = 3 := by decide +kernel
theorem dc_265_76 : decode (sm_cc 265) 76 = .ok (.istore 8, 2) := by decide +kernel
theorem dc_265_78 : decode (sm_cc 265) 78 = .ok (.aload_n 0, 1) := by decide +kernel
theorem dc_265_79 : decode (sm_cc 265) 79 = .ok (.getfield 15, 3) := by decide +kernel
theorem dc_265_82 : decode (sm_cc 265) 82 = .ok (.iload 8, 2) := by decide +kernel
theorem dc_265_84 : decode (sm_cc 265) 84 = .ok (.lload 4, 2) := by decide +kernel
theorem dc_265_86 : decode (sm_cc 265) 86 = .ok (.lload 6, 2) := by decide +kernel
theorem dc_265_88 : decode (sm_cc 265) 88 = .ok (.invokevirtual 307, 3) := by decide +kernel
theorem ow_206 : 2 = sm_ow 206 := by decide +kernel
theorem kr_265_307 : sm_at mt_k (sm_ow 265) 307 = some (307, 1, 206, 1, 1994) := by decide +kernel
theorem np_206 : sm_np 206 = 3 := by decide +kernel
theorem dc_265_91 : decode (sm_cc 265) 91 = .ok (.istore 9, 2) := by decide +kernel
theorem dc_265_93 : decode (sm_cc 265) 93 = .ok (.aload_n 0, 1) := by decide +kernel
theorem dc_265_94 : decode (sm_cc 265) 94 = .ok (.getfield 15, 3) := by decide +kernel
theorem dc_265_97 : decode (sm_cc 265) 97 = .ok (.iload 8, 2) := by decide +kernel
theorem dc_265_99 : decode (sm_cc 265) 99 = .ok (.iload 9, 2) := by decide +kernel
theorem dc_265_101 : decode (sm_cc 265) 101 = .ok (.invokevirtual 200, 3) := by decide +kernel
theorem kr_265_200 : sm_at mt_k (sm_ow 265) 200 = some (200, 1, 156, 1, 1465) := by decide +kernel
theorem dc_265_104 : decode (sm_cc 265) 104 = .ok (.aload_n 0, 1) := by decide +kernel
theorem dc_265_105 : decode (sm_cc 265) 105 = .ok (.getfield 15, 3) := by decide +kernel
theorem dc_265_108 : decode (sm_cc 265) 108 = .ok (.iload 8, 2) := by decide +kernel
theorem dc_265_110 : decode (sm_cc 265) 110 = .ok (.iload 9, 2) := by decide +kernel
theorem dc_265_112 : decode (sm_cc 265) 112 = .ok (.invokevirtual 204, 3) := by decide +kernel
theorem kr_265_204 : sm_at mt_k (sm_ow 265) 204 = some (204, 1, 158, 1, 1473) := by decide +kernel
theorem dc_265_115 : decode (sm_cc 265) 115 = .ok (.invokestatic 310, 3) := by decide +kernel
theorem kr_265_310 : sm_at mt_k (sm_ow 265) 310 = some (310, 3, 137, 1, 1995) := by decide +kernel
theorem dc_265_118 : decode (sm_cc 265) 118 = .ok (.istore 10, 2) := by decide +kernel
theorem dc_265_120 : decode (sm_cc 265) 120 = .ok (.iconst 2, 1) := by decide +kernel
theorem dc_265_121 : decode (sm_cc 265) 121 = .ok (.istore 11, 2) := by decide +kernel
theorem dc_265_123 : decode (sm_cc 265) 123 = .ok (.aload_n 0, 1) := by decide +kernel
theorem dc_265_124 : decode (sm_cc 265) 124 = .ok (.getfield 15, 3) := by decide +kernel
theorem dc_265_127 : decode (sm_cc 265) 127 = .ok (.iload 10, 2) := by decide +kernel
theorem dc_265_129 : decode (sm_cc 265) 129 = .ok (.invokevirtual 288, 3) := by decide +kernel
theorem kr_265_288 : sm_at mt_k (sm_ow 265) 288 = some (288, 1, 138, 1, 1944) := by decide +kernel
theorem dc_265_132 : decode (sm_cc 265) 132 = .ok (.iconst 3, 1) := by decide +kernel
theorem dc_265_133 : decode (sm_cc 265) 133 = .ok (.if_icmp .ne (21), 3) := by decide +kernel
theorem dc_265_154 : decode (sm_cc 265) 154 = .ok (.iload_n 2, 1) := by decide +kernel
theorem dc_265_155 : decode (sm_cc 265) 155 = .ok (.ifCond .ne (18), 3) := by decide +kernel
theorem dc_265_173 : decode (sm_cc 265) 173 = .ok (.aload_n 0, 1) := by decide +kernel
theorem dc_265_174 : decode (sm_cc 265) 174 = .ok (.getfield 15, 3) := by decide +kernel
theorem dc_265_177 : decode (sm_cc 265) 177 = .ok (.aload_n 0, 1) := by decide +kernel
theorem dc_265_178 : decode (sm_cc 265) 178 = .ok (.getfield 15, 3) := by decide +kernel
theorem dc_265_181 : decode (sm_cc 265) 181 = .ok (.getfield 156, 3) := by decide +kernel
theorem dc_265_184 : decode (sm_cc 265) 184 = .ok (.iload_n 3, 1) := by decide +kernel
theorem dc_265_185 : decode (sm_cc 265) 185 = .ok (.invokevirtual 161, 3) := by decide +kernel
theorem kr_265_161 : sm_at mt_k (sm_ow 265) 161 = some (161, 1, 142, 1, 1442) := by decide +kernel
theorem dc_265_188 : decode (sm_cc 265) 188 = .ok (.iload 11, 2) := by decide +kernel
theorem dc_265_190 : decode (sm_cc 265) 190 = .ok (.ireturn, 1) := by decide +kernel
theorem rt_265 : sm_rt 265 = some .int := by decide +kernel
theorem dc_265_158 : decode (sm_cc 265) 158 = .ok (.aload_n 0, 1) := by decide +kernel
theorem dc_265_159 : decode (sm_cc 265) 159 = .ok (.getfield 23, 3) := by decide +kernel
theorem fr_265_23 : sm_at mt_f (sm_ow 265) 23 = some (23, 4, 3, 0, 839) := by decide +kernel
theorem dc_265_162 : decode (sm_cc 265) 162 = .ok (.iconst 1, 1) := by decide +kernel
theorem dc_265_163 : decode (sm_cc 265) 163 = .ok (.ldc2_w 270, 3) := by decide +kernel
theorem cj_265_270 : sm_at mt_cj (sm_ow 265) 270 = some (270, (4611686018427387904), 1428) := by decide +kernel
theorem dc_265_166 : decode (sm_cc 265) 166 = .ok (.iload_n 3, 1) := by decide +kernel
theorem dc_265_167 : decode (sm_cc 265) 167 = .ok (.i2l, 1) := by decide +kernel
theorem dc_265_168 : decode (sm_cc 265) 168 = .ok (.invokevirtual 282, 3) := by decide +kernel
theorem kr_265_282 : sm_at mt_k (sm_ow 265) 282 = some (282, 1, 148, 1, 1430) := by decide +kernel
theorem dc_265_171 : decode (sm_cc 265) 171 = .ok (.istore 11, 2) := by decide +kernel
theorem dc_265_136 : decode (sm_cc 265) 136 = .ok (.aload_n 0, 1) := by decide +kernel
theorem dc_265_137 : decode (sm_cc 265) 137 = .ok (.iload 10, 2) := by decide +kernel
theorem dc_265_139 : decode (sm_cc 265) 139 = .ok (.iload_n 2, 1) := by decide +kernel
theorem dc_265_140 : decode (sm_cc 265) 140 = .ok (.iload_n 3, 1) := by decide +kernel
theorem dc_265_141 : decode (sm_cc 265) 141 = .ok (.iload_n 3, 1) := by decide +kernel
theorem dc_265_142 : decode (sm_cc 265) 142 = .ok (.invokevirtual 291, 3) := by decide +kernel
theorem kr_265_291 : sm_at mt_k (sm_ow 265) 291 = some (291, 0, 254, 0, 1945) := by decide +kernel
theorem dc_265_145 : decode (sm_cc 265) 145 = .ok (.istore 11, 2) := by decide +kernel
theorem dc_265_147 : decode (sm_cc 265) 147 = .ok (.iload 11, 2) := by decide +kernel
theorem dc_265_149 : decode (sm_cc 265) 149 = .ok (.ifCond .ne (24), 3) := by decide +kernel
theorem dc_265_152 : decode (sm_cc 265) 152 = .ok (.iconst 0, 1) := by decide +kernel
theorem dc_265_153 : decode (sm_cc 265) 153 = .ok (.ireturn, 1) := by decide +kernel
theorem dc_265_13 : decode (sm_cc 265) 13 = .ok (.bipush (8), 2) := by decide +kernel
theorem dc_265_15 : decode (sm_cc 265) 15 = .ok (.ireturn, 1) := by decide +kernel
theorem ml_267 : sm_ml 267 = 3 := by decide +kernel
theorem dc_267_0 : decode (sm_cc 267) 0 = .ok (.aload_n 0, 1) := by decide +kernel
theorem dc_267_1 : decode (sm_cc 267) 1 = .ok (.getfield 150, 3) := by decide +kernel
theorem fr_267_150 : sm_at mt_f (sm_ow 267) 150 = some (150, 4, 13, 0, 849) := by decide +kernel
theorem dc_267_4 : decode (sm_cc 267) 4 = .ok (.istore_n 2, 1) := by decide +kernel
theorem dc_267_5 : decode (sm_cc 267) 5 = .ok (.iload_n 2, 1) := by decide +kernel
theorem dc_267_6 : decode (sm_cc 267) 6 = .ok (.iload_n 1, 1) := by decide +kernel
theorem dc_267_7 : decode (sm_cc 267) 7 = .ok (.if_icmp .le (17), 3) := by decide +kernel
theorem dc_267_24 : decode (sm_cc 267) 24 = .ok (.return_, 1) := by decide +kernel
theorem rt_267 : sm_rt 267 = none := by decide +kernel
theorem dc_267_10 : decode (sm_cc 267) 10 = .ok (.iload_n 2, 1) := by decide +kernel
theorem dc_267_11 : decode (sm_cc 267) 11 = .ok (.ifCond .le (13), 3) := by decide +kernel
theorem dc_267_14 : decode (sm_cc 267) 14 = .ok (.aload_n 0, 1) := by decide +kernel
theorem dc_267_15 : decode (sm_cc 267) 15 = .ok (.invokevirtual 153, 3) := by decide +kernel
theorem kr_267_153 : sm_at mt_k (sm_ow 267) 153 = some (153, 0, 150, 0, 1438) := by decide +kernel
theorem dc_267_18 : decode (sm_cc 267) 18 = .ok (.iinc 2 (-1), 3) := by decide +kernel
theorem dc_267_21 : decode (sm_cc 267) 21 = .ok (.goto (-16), 3) := by decide +kernel
theorem mJf_1 {d : Nat} {S : cS} {tu : Nat} {al : Nat} {S1 : cS} {rb : Int32} {S2 : cS} {S3 : cS} (mtu : tu < 2 ^ 20) (mal : al < 2 ^ 20) (c1 : Ans (d + 8) 127 [.ref 52] S (some (.int rb)) S1) (c2 : Ans (d + 8) 131 [.ref 46, .int (nI 0)] S1 (some (.int (nI 1))) S2) (b1 : 1 ≠ tu) (b2 : al ≠ 0) (c3 : Ans (d + 8) 141 [.ref 46, .int (nI 1)] S2 none S3) : Bod (d + 8) 130 0 [(0, .ref 52), (1, .int (nI tu)), (2, .int (nI al))] [] S (some (.int (nI 0))) (S3) := by
  refine Bod.go dc_130_0 rfl ?_
  refine Bod.virt (r := []) dc_130_1 kr_130_82 ⟨Or.inl rfl, ow_127, cl_4⟩ (by rw [np_127]; rfl) (by rw [np_127]; rfl) (ob_of (mk_52 _)) (Nat.le_of_ble_eq_true rfl) (c1  ) ?_
  show Bod _ _ _ _ [_] _ _ _
  refine Bod.istn dc_130_4 (by rw [ml_130]; exact Nat.le_of_ble_eq_true rfl) ?_
  refine Bod.go dc_130_5 rfl ?_
  refine Bod.get dc_130_6 fr_130_23 (mk_52 _) rfl ?_
  refine Bod.ic 0 (by decide) dc_130_9 ?_
  refine Bod.virt (r := []) dc_130_10 kr_130_187 ⟨Or.inr rfl, ow_131, cl_9⟩ (by rw [np_131]; rfl) (by rw [np_131]; rfl) (ob_of (mk_46 _)) (Nat.le_of_ble_eq_true rfl) (c2  ) ?_
  show Bod _ _ _ _ [_] _ _ _
  refine Bod.go dc_130_13 rfl ?_
  refine Bod.icT dc_130_14 rfl (k2_ne_T (k_ne 1 tu rfl rfl (by omega) (by omega) (by omega))) ?_
  refine Bod.ic 0 (by decide) dc_130_21 ?_
  refine Bod.ist dc_130_22 (by rw [ml_130]; exact Nat.le_of_ble_eq_true rfl) ?_
  refine Bod.go dc_130_24 rfl ?_
  refine Bod.ifT dc_130_26 rfl (k1_eq_T (k_eq 0 0 rfl rfl (by omega))) ?_
  refine Bod.go dc_130_34 rfl ?_
  refine Bod.ifT dc_130_35 rfl (k1_ne_T (k_ne al 0 rfl rfl (by omega) (by omega) (by omega))) ?_
  refine Bod.go dc_130_43 rfl ?_
  refine Bod.get dc_130_44 fr_130_23 (mk_52 _) rfl ?_
  refine Bod.ic 1 (by decide) dc_130_47 ?_
  refine Bod.virt (r := []) dc_130_48 kr_130_127 ⟨Or.inr rfl, ow_141, cl_9⟩ (by rw [np_141]; rfl) (by rw [np_141]; rfl) (ob_of (mk_46 _)) (Nat.le_of_ble_eq_true rfl) (c3  ) ?_
  show Bod _ _ _ _ [] _ _ _
  refine Bod.ic 0 (by decide) dc_130_51 ?_
  exact Bod.retI dc_130_52 rt_130
theorem mJf_2 {d : Nat} {S : cS} {tu : Nat} {al : Nat} {S1 : cS} {rb : Int32} {S2 : cS} {S3 : cS} (mtu : tu < 2 ^ 20) (mal : al < 2 ^ 20) (c1 : Ans (d + 8) 127 [.ref 52] S (some (.int rb)) S1) (c2 : Ans (d + 8) 131 [.ref 46, .int (nI 0)] S1 (some (.int (nI 1))) S2) (b1 : 1 ≠ tu) (b2 : al = 0) (c3 : Ans (d + 8) 141 [.ref 46, .int (nI 1)] S2 none S3) : Bod (d + 8) 130 0 [(0, .ref 52), (1, .int (nI tu)), (2, .int (nI al))] [] S (some (.int (nI 0))) (S3) := by
  refine Bod.go dc_130_0 rfl ?_
  refine Bod.virt (r := []) dc_130_1 kr_130_82 ⟨Or.inl rfl, ow_127, cl_4⟩ (by rw [np_127]; rfl) (by rw [np_127]; rfl) (ob_of (mk_52 _)) (Nat.le_of_ble_eq_true rfl) (c1  ) ?_
  show Bod _ _ _ _ [_] _ _ _
  refine Bod.istn dc_130_4 (by rw [ml_130]; exact Nat.le_of_ble_eq_true rfl) ?_
  refine Bod.go dc_130_5 rfl ?_
  refine Bod.get dc_130_6 fr_130_23 (mk_52 _) rfl ?_
  refine Bod.ic 0 (by decide) dc_130_9 ?_
  refine Bod.virt (r := []) dc_130_10 kr_130_187 ⟨Or.inr rfl, ow_131, cl_9⟩ (by rw [np_131]; rfl) (by rw [np_131]; rfl) (ob_of (mk_46 _)) (Nat.le_of_ble_eq_true rfl) (c2  ) ?_
  show Bod _ _ _ _ [_] _ _ _
  refine Bod.go dc_130_13 rfl ?_
  refine Bod.icT dc_130_14 rfl (k2_ne_T (k_ne 1 tu rfl rfl (by omega) (by omega) (by omega))) ?_
  refine Bod.ic 0 (by decide) dc_130_21 ?_
  refine Bod.ist dc_130_22 (by rw [ml_130]; exact Nat.le_of_ble_eq_true rfl) ?_
  refine Bod.go dc_130_24 rfl ?_
  refine Bod.ifT dc_130_26 rfl (k1_eq_T (k_eq 0 0 rfl rfl (by omega))) ?_
  refine Bod.go dc_130_34 rfl ?_
  refine Bod.ifF dc_130_35 rfl (k1_ne_F (k_eq al 0 rfl rfl (by omega))) ?_
  refine Bod.go dc_130_38 rfl ?_
  refine Bod.ifF dc_130_40 rfl (k1_ne_F (k_eq 0 0 rfl rfl (by omega))) ?_
  refine Bod.go dc_130_43 rfl ?_
  refine Bod.get dc_130_44 fr_130_23 (mk_52 _) rfl ?_
  refine Bod.ic 1 (by decide) dc_130_47 ?_
  refine Bod.virt (r := []) dc_130_48 kr_130_127 ⟨Or.inr rfl, ow_141, cl_9⟩ (by rw [np_141]; rfl) (by rw [np_141]; rfl) (ob_of (mk_46 _)) (Nat.le_of_ble_eq_true rfl) (c3  ) ?_
  show Bod _ _ _ _ [] _ _ _
  refine Bod.ic 0 (by decide) dc_130_51 ?_
  exact Bod.retI dc_130_52 rt_130
theorem mJf_3 {d : Nat} {S : cS} {tu : Nat} {al : Nat} {S1 : cS} {rb : Int32} {S2 : cS} {S3 : cS} (mtu : tu < 2 ^ 20) (mal : al < 2 ^ 20) (c1 : Ans (d + 8) 127 [.ref 52] S (some (.int rb)) S1) (c2 : Ans (d + 8) 131 [.ref 46, .int (nI 0)] S1 (some (.int (nI 1))) S2) (b1 : 1 = tu) (b2 : al ≠ 0) (c3 : Ans (d + 8) 141 [.ref 46, .int (nI 1)] (wI 5216 rb S2) none S3) : Bod (d + 8) 130 0 [(0, .ref 52), (1, .int (nI tu)), (2, .int (nI al))] [] S (some (.int (nI 0))) (S3) := by
  refine Bod.go dc_130_0 rfl ?_
  refine Bod.virt (r := []) dc_130_1 kr_130_82 ⟨Or.inl rfl, ow_127, cl_4⟩ (by rw [np_127]; rfl) (by rw [np_127]; rfl) (ob_of (mk_52 _)) (Nat.le_of_ble_eq_true rfl) (c1  ) ?_
  show Bod _ _ _ _ [_] _ _ _
  refine Bod.istn dc_130_4 (by rw [ml_130]; exact Nat.le_of_ble_eq_true rfl) ?_
  refine Bod.go dc_130_5 rfl ?_
  refine Bod.get dc_130_6 fr_130_23 (mk_52 _) rfl ?_
  refine Bod.ic 0 (by decide) dc_130_9 ?_
  refine Bod.virt (r := []) dc_130_10 kr_130_187 ⟨Or.inr rfl, ow_131, cl_9⟩ (by rw [np_131]; rfl) (by rw [np_131]; rfl) (ob_of (mk_46 _)) (Nat.le_of_ble_eq_true rfl) (c2  ) ?_
  show Bod _ _ _ _ [_] _ _ _
  refine Bod.go dc_130_13 rfl ?_
  refine Bod.icF dc_130_14 rfl (k2_ne_F (k_eq 1 tu rfl rfl (by omega))) ?_
  refine Bod.ic 1 (by decide) dc_130_17 ?_
  refine Bod.go dc_130_18 rfl ?_
  refine Bod.ist dc_130_22 (by rw [ml_130]; exact Nat.le_of_ble_eq_true rfl) ?_
  refine Bod.go dc_130_24 rfl ?_
  refine Bod.ifF dc_130_26 rfl (k1_eq_F (k_ne 1 0 rfl rfl (by omega) (by omega) (by omega))) ?_
  refine Bod.go dc_130_29 rfl ?_
  refine Bod.go dc_130_30 rfl ?_
  refine Bod.put dc_130_31 fr_130_69 (mk_52 _) (Nat.le_of_ble_eq_true rfl) pf_4_16 (st_5216 _ _) (mu_I _ _ _) ?_
  refine Bod.go dc_130_34 rfl ?_
  refine Bod.ifT dc_130_35 rfl (k1_ne_T (k_ne al 0 rfl rfl (by omega) (by omega) (by omega))) ?_
  refine Bod.go dc_130_43 rfl ?_
  refine Bod.get dc_130_44 fr_130_23 (mk_52 _) rfl ?_
  refine Bod.ic 1 (by decide) dc_130_47 ?_
  refine Bod.virt (r := []) dc_130_48 kr_130_127 ⟨Or.inr rfl, ow_141, cl_9⟩ (by rw [np_141]; rfl) (by rw [np_141]; rfl) (ob_of (mk_46 _)) (Nat.le_of_ble_eq_true rfl) (c3  ) ?_
  show Bod _ _ _ _ [] _ _ _
  refine Bod.ic 0 (by decide) dc_130_51 ?_
  exact Bod.retI dc_130_52 rt_130
theorem mJf_4 {d : Nat} {S : cS} {tu : Nat} {al : Nat} {S1 : cS} {rb : Int32} {S2 : cS} (mtu : tu < 2 ^ 20) (mal : al < 2 ^ 20) (c1 : Ans (d + 8) 127 [.ref 52] S (some (.int rb)) S1) (c2 : Ans (d + 8) 131 [.ref 46, .int (nI 0)] S1 (some (.int (nI 1))) S2) (b1 : 1 = tu) (b2 : al = 0) : Bod (d + 8) 130 0 [(0, .ref 52), (1, .int (nI tu)), (2, .int (nI al))] [] S (some (.int (nI 0))) (wI 5216 rb S2) := by
  refine Bod.go dc_130_0 rfl ?_
  refine Bod.virt (r := []) dc_130_1 kr_130_82 ⟨Or.inl rfl, ow_127, cl_4⟩ (by rw [np_127]; rfl) (by rw [np_127]; rfl) (ob_of (mk_52 _)) (Nat.le_of_ble_eq_true rfl) (c1  ) ?_
  show Bod _ _ _ _ [_] _ _ _
  refine Bod.istn dc_130_4 (by rw [ml_130]; exact Nat.le_of_ble_eq_true rfl) ?_
  refine Bod.go dc_130_5 rfl ?_
  refine Bod.get dc_130_6 fr_130_23 (mk_52 _) rfl ?_
  refine Bod.ic 0 (by decide) dc_130_9 ?_
  refine Bod.virt (r := []) dc_130_10 kr_130_187 ⟨Or.inr rfl, ow_131, cl_9⟩ (by rw [np_131]; rfl) (by rw [np_131]; rfl) (ob_of (mk_46 _)) (Nat.le_of_ble_eq_true rfl) (c2  ) ?_
  show Bod _ _ _ _ [_] _ _ _
  refine Bod.go dc_130_13 rfl ?_
  refine Bod.icF dc_130_14 rfl (k2_ne_F (k_eq 1 tu rfl rfl (by omega))) ?_
  refine Bod.ic 1 (by decide) dc_130_17 ?_
  refine Bod.go dc_130_18 rfl ?_
  refine Bod.ist dc_130_22 (by rw [ml_130]; exact Nat.le_of_ble_eq_true rfl) ?_
  refine Bod.go dc_130_24 rfl ?_
  refine Bod.ifF dc_130_26 rfl (k1_eq_F (k_ne 1 0 rfl rfl (by omega) (by omega) (by omega))) ?_
  refine Bod.go dc_130_29 rfl ?_
  refine Bod.go dc_130_30 rfl ?_
  refine Bod.put dc_130_31 fr_130_69 (mk_52 _) (Nat.le_of_ble_eq_true rfl) pf_4_16 (st_5216 _ _) (mu_I _ _ _) ?_
  refine Bod.go dc_130_34 rfl ?_
  refine Bod.ifF dc_130_35 rfl (k1_ne_F (k_eq al 0 rfl rfl (by omega))) ?_
  refine Bod.go dc_130_38 rfl ?_
  refine Bod.ifT dc_130_40 rfl (k1_ne_T (k_ne 1 0 rfl rfl (by omega) (by omega) (by omega))) ?_
  refine Bod.ic 0 (by decide) dc_130_51 ?_
  exact Bod.retI dc_130_52 rt_130
theorem mJf_5 {d : Nat} {S : cS} {tu : Nat} {al : Nat} {S1 : cS} {rb : Int32} {S2 : cS} {S3 : cS} (mtu : tu < 2 ^ 20) (mal : al < 2 ^ 20) (c1 : Ans (d + 8) 127 [.ref 52] S (some (.int rb)) S1) (c2 : Ans (d + 8) 131 [.ref 46, .int (nI 0)] S1 (some (.int (nI 0))) S2) (b1 : 0 ≠ tu) (b2 : al ≠ 0) (c3 : Ans (d + 8) 141 [.ref 46, .int (nI 1)] S2 none S3) : Bod (d + 8) 130 0 [(0, .ref 52), (1, .int (nI tu)), (2, .int (nI al))] [] S (some (.int (nI 0))) (S3) := by
  refine Bod.go dc_130_0 rfl ?_
  refine Bod.virt (r := []) dc_130_1 kr_130_82 ⟨Or.inl rfl, ow_127, cl_4⟩ (by rw [np_127]; rfl) (by rw [np_127]; rfl) (ob_of (mk_52 _)) (Nat.le_of_ble_eq_true rfl) (c1  ) ?_
  show Bod _ _ _ _ [_] _ _ _
  refine Bod.istn dc_130_4 (by rw [ml_130]; exact Nat.le_of_ble_eq_true rfl) ?_
  refine Bod.go dc_130_5 rfl ?_
  refine Bod.get dc_130_6 fr_130_23 (mk_52 _) rfl ?_
  refine Bod.ic 0 (by decide) dc_130_9 ?_
  refine Bod.virt (r := []) dc_130_10 kr_130_187 ⟨Or.inr rfl, ow_131, cl_9⟩ (by rw [np_131]; rfl) (by rw [np_131]; rfl) (ob_of (mk_46 _)) (Nat.le_of_ble_eq_true rfl) (c2  ) ?_
  show Bod _ _ _ _ [_] _ _ _
  refine Bod.go dc_130_13 rfl ?_
  refine Bod.icT dc_130_14 rfl (k2_ne_T (k_ne 0 tu rfl rfl (by omega) (by omega) (by omega))) ?_
  refine Bod.ic 0 (by decide) dc_130_21 ?_
  refine Bod.ist dc_130_22 (by rw [ml_130]; exact Nat.le_of_ble_eq_true rfl) ?_
  refine Bod.go dc_130_24 rfl ?_
  refine Bod.ifT dc_130_26 rfl (k1_eq_T (k_eq 0 0 rfl rfl (by omega))) ?_
  refine Bod.go dc_130_34 rfl ?_
  refine Bod.ifT dc_130_35 rfl (k1_ne_T (k_ne al 0 rfl rfl (by omega) (by omega) (by omega))) ?_
  refine Bod.go dc_130_43 rfl ?_
  refine Bod.get dc_130_44 fr_130_23 (mk_52 _) rfl ?_
  refine Bod.ic 1 (by decide) dc_130_47 ?_
  refine Bod.virt (r := []) dc_130_48 kr_130_127 ⟨Or.inr rfl, ow_141, cl_9⟩ (by rw [np_141]; rfl) (by rw [np_141]; rfl) (ob_of (mk_46 _)) (Nat.le_of_ble_eq_true rfl) (c3  ) ?_
  show Bod _ _ _ _ [] _ _ _
  refine Bod.ic 0 (by decide) dc_130_51 ?_
  exact Bod.retI dc_130_52 rt_130
theorem mJf_6 {d : Nat} {S : cS} {tu : Nat} {al : Nat} {S1 : cS} {rb : Int32} {S2 : cS} {S3 : cS} (mtu : tu < 2 ^ 20) (mal : al < 2 ^ 20) (c1 : Ans (d + 8) 127 [.ref 52] S (some (.int rb)) S1) (c2 : Ans (d + 8) 131 [.ref 46, .int (nI 0)] S1 (some (.int (nI 0))) S2) (b1 : 0 ≠ tu) (b2 : al = 0) (c3 : Ans (d + 8) 141 [.ref 46, .int (nI 1)] S2 none S3) : Bod (d + 8) 130 0 [(0, .ref 52), (1, .int (nI tu)), (2, .int (nI al))] [] S (some (.int (nI 0))) (S3) := by
  refine Bod.go dc_130_0 rfl ?_
  refine Bod.virt (r := []) dc_130_1 kr_130_82 ⟨Or.inl rfl, ow_127, cl_4⟩ (by rw [np_127]; rfl) (by rw [np_127]; rfl) (ob_of (mk_52 _)) (Nat.le_of_ble_eq_true rfl) (c1  ) ?_
  show Bod _ _ _ _ [_] _ _ _
  refine Bod.istn dc_130_4 (by rw [ml_130]; exact Nat.le_of_ble_eq_true rfl) ?_
  refine Bod.go dc_130_5 rfl ?_
  refine Bod.get dc_130_6 fr_130_23 (mk_52 _) rfl ?_
  refine Bod.ic 0 (by decide) dc_130_9 ?_
  refine Bod.virt (r := []) dc_130_10 kr_130_187 ⟨Or.inr rfl, ow_131, cl_9⟩ (by rw [np_131]; rfl) (by rw [np_131]; rfl) (ob_of (mk_46 _)) (Nat.le_of_ble_eq_true rfl) (c2  ) ?_
  show Bod _ _ _ _ [_] _ _ _
  refine Bod.go dc_130_13 rfl ?_
  refine Bod.icT dc_130_14 rfl (k2_ne_T (k_ne 0 tu rfl rfl (by omega) (by omega) (by omega))) ?_
  refine Bod.ic 0 (by decide) dc_130_21 ?_
  refine Bod.ist dc_130_22 (by rw [ml_130]; exact Nat.le_of_ble_eq_true rfl) ?_
  refine Bod.go dc_130_24 rfl ?_
  refine Bod.ifT dc_130_26 rfl (k1_eq_T (k_eq 0 0 rfl rfl (by omega))) ?_
  refine Bod.go dc_130_34 rfl ?_
  refine Bod.ifF dc_130_35 rfl (k1_ne_F (k_eq al 0 rfl rfl (by omega))) ?_
  refine Bod.go dc_130_38 rfl ?_
  refine Bod.ifF dc_130_40 rfl (k1_ne_F (k_eq 0 0 rfl rfl (by omega))) ?_
  refine Bod.go dc_130_43 rfl ?_
  refine Bod.get dc_130_44 fr_130_23 (mk_52 _) rfl ?_
  refine Bod.ic 1 (by decide) dc_130_47 ?_
  refine Bod.virt (r := []) dc_130_48 kr_130_127 ⟨Or.inr rfl, ow_141, cl_9⟩ (by rw [np_141]; rfl) (by rw [np_141]; rfl) (ob_of (mk_46 _)) (Nat.le_of_ble_eq_true rfl) (c3  ) ?_
  show Bod _ _ _ _ [] _ _ _
  refine Bod.ic 0 (by decide) dc_130_51 ?_
  exact Bod.retI dc_130_52 rt_130
theorem mJf_7 {d : Nat} {S : cS} {tu : Nat} {al : Nat} {S1 : cS} {rb : Int32} {S2 : cS} {S3 : cS} (mtu : tu < 2 ^ 20) (mal : al < 2 ^ 20) (c1 : Ans (d + 8) 127 [.ref 52] S (some (.int rb)) S1) (c2 : Ans (d + 8) 131 [.ref 46, .int (nI 0)] S1 (some (.int (nI 0))) S2) (b1 : 0 = tu) (b2 : al ≠ 0) (c3 : Ans (d + 8) 141 [.ref 46, .int (nI 1)] (wI 5216 rb S2) none S3) : Bod (d + 8) 130 0 [(0, .ref 52), (1, .int (nI tu)), (2, .int (nI al))] [] S (some (.int (nI 0))) (S3) := by
  refine Bod.go dc_130_0 rfl ?_
  refine Bod.virt (r := []) dc_130_1 kr_130_82 ⟨Or.inl rfl, ow_127, cl_4⟩ (by rw [np_127]; rfl) (by rw [np_127]; rfl) (ob_of (mk_52 _)) (Nat.le_of_ble_eq_true rfl) (c1  ) ?_
  show Bod _ _ _ _ [_] _ _ _
  refine Bod.istn dc_130_4 (by rw [ml_130]; exact Nat.le_of_ble_eq_true rfl) ?_
  refine Bod.go dc_130_5 rfl ?_
  refine Bod.get dc_130_6 fr_130_23 (mk_52 _) rfl ?_
  refine Bod.ic 0 (by decide) dc_130_9 ?_
  refine Bod.virt (r := []) dc_130_10 kr_130_187 ⟨Or.inr rfl, ow_131, cl_9⟩ (by rw [np_131]; rfl) (by rw [np_131]; rfl) (ob_of (mk_46 _)) (Nat.le_of_ble_eq_true rfl) (c2  ) ?_
  show Bod _ _ _ _ [_] _ _ _
  refine Bod.go dc_130_13 rfl ?_
  refine Bod.icF dc_130_14 rfl (k2_ne_F (k_eq 0 tu rfl rfl (by omega))) ?_
  refine Bod.ic 1 (by decide) dc_130_17 ?_
  refine Bod.go dc_130_18 rfl ?_
  refine Bod.ist dc_130_22 (by rw [ml_130]; exact Nat.le_of_ble_eq_true rfl) ?_
  refine Bod.go dc_130_24 rfl ?_
  refine Bod.ifF dc_130_26 rfl (k1_eq_F (k_ne 1 0 rfl rfl (by omega) (by omega) (by omega))) ?_
  refine Bod.go dc_130_29 rfl ?_
  refine Bod.go dc_130_30 rfl ?_
  refine Bod.put dc_130_31 fr_130_69 (mk_52 _) (Nat.le_of_ble_eq_true rfl) pf_4_16 (st_5216 _ _) (mu_I _ _ _) ?_
  refine Bod.go dc_130_34 rfl ?_
  refine Bod.ifT dc_130_35 rfl (k1_ne_T (k_ne al 0 rfl rfl (by omega) (by omega) (by omega))) ?_
  refine Bod.go dc_130_43 rfl ?_
  refine Bod.get dc_130_44 fr_130_23 (mk_52 _) rfl ?_
  refine Bod.ic 1 (by decide) dc_130_47 ?_
  refine Bod.virt (r := []) dc_130_48 kr_130_127 ⟨Or.inr rfl, ow_141, cl_9⟩ (by rw [np_141]; rfl) (by rw [np_141]; rfl) (ob_of (mk_46 _)) (Nat.le_of_ble_eq_true rfl) (c3  ) ?_
  show Bod _ _ _ _ [] _ _ _
  refine Bod.ic 0 (by decide) dc_130_51 ?_
  exact Bod.retI dc_130_52 rt_130
theorem mJf_8 {d : Nat} {S : cS} {tu : Nat} {al : Nat} {S1 : cS} {rb : Int32} {S2 : cS} (mtu : tu < 2 ^ 20) (mal : al < 2 ^ 20) (c1 : Ans (d + 8) 127 [.ref 52] S (some (.int rb)) S1) (c2 : Ans (d + 8) 131 [.ref 46, .int (nI 0)] S1 (some (.int (nI 0))) S2) (b1 : 0 = tu) (b2 : al = 0) : Bod (d + 8) 130 0 [(0, .ref 52), (1, .int (nI tu)), (2, .int (nI al))] [] S (some (.int (nI 0))) (wI 5216 rb S2) := by
  refine Bod.go dc_130_0 rfl ?_
  refine Bod.virt (r := []) dc_130_1 kr_130_82 ⟨Or.inl rfl, ow_127, cl_4⟩ (by rw [np_127]; rfl) (by rw [np_127]; rfl) (ob_of (mk_52 _)) (Nat.le_of_ble_eq_true rfl) (c1  ) ?_
  show Bod _ _ _ _ [_] _ _ _
  refine Bod.istn dc_130_4 (by rw [ml_130]; exact Nat.le_of_ble_eq_true rfl) ?_
  refine Bod.go dc_130_5 rfl ?_
  refine Bod.get dc_130_6 fr_130_23 (mk_52 _) rfl ?_
  refine Bod.ic 0 (by decide) dc_130_9 ?_
  refine Bod.virt (r := []) dc_130_10 kr_130_187 ⟨Or.inr rfl, ow_131, cl_9⟩ (by rw [np_131]; rfl) (by rw [np_131]; rfl) (ob_of (mk_46 _)) (Nat.le_of_ble_eq_true rfl) (c2  ) ?_
  show Bod _ _ _ _ [_] _ _ _
  refine Bod.go dc_130_13 rfl ?_
  refine Bod.icF dc_130_14 rfl (k2_ne_F (k_eq 0 tu rfl rfl (by omega))) ?_
  refine Bod.ic 1 (by decide) dc_130_17 ?_
  refine Bod.go dc_130_18 rfl ?_
  refine Bod.ist dc_130_22 (by rw [ml_130]; exact Nat.le_of_ble_eq_true rfl) ?_
  refine Bod.go dc_130_24 rfl ?_
  refine Bod.ifF dc_130_26 rfl (k1_eq_F (k_ne 1 0 rfl rfl (by omega) (by omega) (by omega))) ?_
  refine Bod.go dc_130_29 rfl ?_
  refine Bod.go dc_130_30 rfl ?_
  refine Bod.put dc_130_31 fr_130_69 (mk_52 _) (Nat.le_of_ble_eq_true rfl) pf_4_16 (st_5216 _ _) (mu_I _ _ _) ?_
  refine Bod.go dc_130_34 rfl ?_
  refine Bod.ifF dc_130_35 rfl (k1_ne_F (k_eq al 0 rfl rfl (by omega))) ?_
  refine Bod.go dc_130_38 rfl ?_
  refine Bod.ifT dc_130_40 rfl (k1_ne_T (k_ne 1 0 rfl rfl (by omega) (by omega) (by omega))) ?_
  refine Bod.ic 0 (by decide) dc_130_51 ?_
  exact Bod.retI dc_130_52 rt_130
theorem mBf_1 {d : Nat} {S : cS} {S1 : cS} {rb : Int32} {S2 : cS} (c1 : Ans (d + 8) 152 [.ref 46, .int (nI 0), .int (nI 1)] S (some (.int rb)) S1) (w2 : sm_c1 .ne rb true false = true) (c2 : Ans (d + 8) 153 [.ref 46, .long ((2305843009213693952)), .long 0] S1 none S2) : Bod (d + 8) 151 0 [(0, .ref 52)] [] S (some (.int (nI 0))) (S2) := by
  refine Bod.go dc_151_0 rfl ?_
  refine Bod.get dc_151_1 fr_151_23 (mk_52 _) rfl ?_
  refine Bod.ic 0 (by decide) dc_151_4 ?_
  refine Bod.ic 1 (by decide) dc_151_5 ?_
  refine Bod.virt (r := []) dc_151_6 kr_151_190 ⟨Or.inr rfl, ow_152, cl_9⟩ (by rw [np_152]; rfl) (by rw [np_152]; rfl) (ob_of (mk_46 _)) (Nat.le_of_ble_eq_true rfl) (c1  ) ?_
  show Bod _ _ _ _ [_] _ _ _
  refine Bod.ifT dc_151_9 rfl w2 ?_
  refine Bod.go dc_151_14 rfl ?_
  refine Bod.get dc_151_15 fr_151_23 (mk_52 _) rfl ?_
  refine Bod.ldc2 dc_151_18 cj_151_144 ?_
  refine Bod.go dc_151_21 rfl ?_
  refine Bod.virt (r := []) dc_151_22 kr_151_146 ⟨Or.inr rfl, ow_153, cl_9⟩ (by rw [np_153]; rfl) (by rw [np_153]; rfl) (ob_of (mk_46 _)) (Nat.le_of_ble_eq_true rfl) (c2  ) ?_
  show Bod _ _ _ _ [] _ _ _
  refine Bod.ic 0 (by decide) dc_151_25 ?_
  exact Bod.retI dc_151_26 rt_151
theorem mBf_2 {d : Nat} {S : cS} {S1 : cS} {rb : Int32} (c1 : Ans (d + 8) 152 [.ref 46, .int (nI 0), .int (nI 1)] S (some (.int rb)) S1) (w2 : sm_c1 .ne rb true false = false) : Bod (d + 8) 151 0 [(0, .ref 52)] [] S (some (.int (nI 2))) (S1) := by
  refine Bod.go dc_151_0 rfl ?_
  refine Bod.get dc_151_1 fr_151_23 (mk_52 _) rfl ?_
  refine Bod.ic 0 (by decide) dc_151_4 ?_
  refine Bod.ic 1 (by decide) dc_151_5 ?_
  refine Bod.virt (r := []) dc_151_6 kr_151_190 ⟨Or.inr rfl, ow_152, cl_9⟩ (by rw [np_152]; rfl) (by rw [np_152]; rfl) (ob_of (mk_46 _)) (Nat.le_of_ble_eq_true rfl) (c1  ) ?_
  show Bod _ _ _ _ [_] _ _ _
  refine Bod.ifF dc_151_9 rfl w2 ?_
  refine Bod.ic 2 (by decide) dc_151_12 ?_
  exact Bod.retI dc_151_13 rt_151
theorem mNi_1 {d : Nat} {S : cS} {ex : Int32} {S1 : cS} {rb : Int32} {S2 : cS} {u : Int64} (c1 : Ans (d + 8) 152 [.ref 46, .int (nI 1), .int (nI 1)] S (some (.int rb)) S1) (c2 : Ans (d + 8) 135 [.ref 46, .int (nI 0)] S1 (some (.long u)) S2) (w3 : sm_c1 .lt (lg_cmp u 0) true false = true) : Bod (d + 8) 154 0 [(0, .ref 52), (1, .int ex)] [] S (some (.int (nI 0))) (wI 5216 ex S2) := by
  refine Bod.go dc_154_0 rfl ?_
  refine Bod.get dc_154_1 fr_154_23 (mk_52 _) rfl ?_
  refine Bod.ic 1 (by decide) dc_154_4 ?_
  refine Bod.ic 1 (by decide) dc_154_5 ?_
  refine Bod.virt (r := []) dc_154_6 kr_154_190 ⟨Or.inr rfl, ow_152, cl_9⟩ (by rw [np_152]; rfl) (by rw [np_152]; rfl) (ob_of (mk_46 _)) (Nat.le_of_ble_eq_true rfl) (c1  ) ?_
  show Bod _ _ _ _ [_] _ _ _
  refine Bod.istn dc_154_9 (by rw [ml_154]; exact Nat.le_of_ble_eq_true rfl) ?_
  refine Bod.go dc_154_10 rfl ?_
  refine Bod.get dc_154_11 fr_154_23 (mk_52 _) rfl ?_
  refine Bod.ic 0 (by decide) dc_154_14 ?_
  refine Bod.virt (r := []) dc_154_15 kr_154_141 ⟨Or.inr rfl, ow_135, cl_9⟩ (by rw [np_135]; rfl) (by rw [np_135]; rfl) (ob_of (mk_46 _)) (Nat.le_of_ble_eq_true rfl) (c2  ) ?_
  show Bod _ _ _ _ [_] _ _ _
  refine Bod.lstn dc_154_18 (by rw [ml_154]; exact Nat.le_of_ble_eq_true rfl) ?_
  refine Bod.go dc_154_19 rfl ?_
  refine Bod.go dc_154_20 rfl ?_
  refine Bod.go dc_154_21 rfl ?_
  refine Bod.ifT dc_154_22 rfl w3 ?_
  refine Bod.go dc_154_39 rfl ?_
  refine Bod.go dc_154_40 rfl ?_
  refine Bod.put dc_154_41 fr_154_69 (mk_52 _) (Nat.le_of_ble_eq_true rfl) pf_4_16 (st_5216 _ _) (mu_I _ _ _) ?_
  refine Bod.ic 0 (by decide) dc_154_44 ?_
  exact Bod.retI dc_154_45 rt_154
theorem mNi_2 {d : Nat} {S : cS} {ex : Int32} {S1 : cS} {rb : Int32} {S2 : cS} {u : Int64} {S3 : cS} {a : Nat} {S4 : cS} {S5 : cS} {u1 : Int64} {S6 : cS} {u2 : Int64} {S7 : cS} (c1 : Ans (d + 8) 152 [.ref 46, .int (nI 1), .int (nI 1)] S (some (.int rb)) S1) (c2 : Ans (d + 8) 135 [.ref 46, .int (nI 0)] S1 (some (.long u)) S2) (w3 : sm_c1 .lt (lg_cmp u 0) true false = false) (ma : a < 2 ^ 20) (c3 : Ans (d + 8) 140 [.ref 2, .int rb] S2 (some (.int (nI a))) S3) (w6 : sm_c1 .lt (lg_cmp u ((nI a).toInt64)) true false = true) (c4 : Ans (d + 8) 155 [.ref 46, .int (nI 0), .long (u + 1)] S3 none S4) (c5 : Ans (d + 8) 156 [.ref 2, .int rb, .int u.toInt32] S4 (some (.long u1)) S5) (c6 : Ans (d + 8) 158 [.ref 2, .int rb, .int u.toInt32] S5 (some (.long u2)) S6) (c7 : Ans (d + 8) 153 [.ref 46, .long u1, .long u2] S6 none S7) : Bod (d + 8) 154 0 [(0, .ref 52), (1, .int ex)] [] S (some (.int (nI 0))) (S7) := by
  refine Bod.go dc_154_0 rfl ?_
  refine Bod.get dc_154_1 fr_154_23 (mk_52 _) rfl ?_
  refine Bod.ic 1 (by decide) dc_154_4 ?_
  refine Bod.ic 1 (by decide) dc_154_5 ?_
  refine Bod.virt (r := []) dc_154_6 kr_154_190 ⟨Or.inr rfl, ow_152, cl_9⟩ (by rw [np_152]; rfl) (by rw [np_152]; rfl) (ob_of (mk_46 _)) (Nat.le_of_ble_eq_true rfl) (c1  ) ?_
  show Bod _ _ _ _ [_] _ _ _
  refine Bod.istn dc_154_9 (by rw [ml_154]; exact Nat.le_of_ble_eq_true rfl) ?_
  refine Bod.go dc_154_10 rfl ?_
  refine Bod.get dc_154_11 fr_154_23 (mk_52 _) rfl ?_
  refine Bod.ic 0 (by decide) dc_154_14 ?_
  refine Bod.virt (r := []) dc_154_15 kr_154_141 ⟨Or.inr rfl, ow_135, cl_9⟩ (by rw [np_135]; rfl) (by rw [np_135]; rfl) (ob_of (mk_46 _)) (Nat.le_of_ble_eq_true rfl) (c2  ) ?_
  show Bod _ _ _ _ [_] _ _ _
  refine Bod.lstn dc_154_18 (by rw [ml_154]; exact Nat.le_of_ble_eq_true rfl) ?_
  refine Bod.go dc_154_19 rfl ?_
  refine Bod.go dc_154_20 rfl ?_
  refine Bod.go dc_154_21 rfl ?_
  refine Bod.ifF dc_154_22 rfl w3 ?_
  refine Bod.go dc_154_25 rfl ?_
  refine Bod.go dc_154_26 rfl ?_
  refine Bod.get dc_154_27 fr_154_15 (mk_52 _) rfl ?_
  refine Bod.go dc_154_30 rfl ?_
  refine Bod.virt (r := [_]) dc_154_31 kr_154_193 ⟨Or.inr rfl, ow_140, cl_2⟩ (by rw [np_140]; rfl) (by rw [np_140]; rfl) (ob_of (mk_2 _)) (Nat.le_of_ble_eq_true rfl) (c3  ) ?_
  show Bod _ _ _ _ [_, _] _ _ _
  refine Bod.go dc_154_34 rfl ?_
  refine Bod.go dc_154_35 rfl ?_
  refine Bod.ifT dc_154_36 rfl w6 ?_
  refine Bod.go dc_154_46 rfl ?_
  refine Bod.get dc_154_47 fr_154_23 (mk_52 _) rfl ?_
  refine Bod.ic 0 (by decide) dc_154_50 ?_
  refine Bod.go dc_154_51 rfl ?_
  refine Bod.go dc_154_52 rfl ?_
  refine Bod.go dc_154_53 rfl ?_
  refine Bod.virt (r := []) dc_154_54 kr_154_196 ⟨Or.inr rfl, ow_155, cl_9⟩ (by rw [np_155]; rfl) (by rw [np_155]; rfl) (ob_of (mk_46 _)) (Nat.le_of_ble_eq_true rfl) (c4  ) ?_
  show Bod _ _ _ _ [] _ _ _
  refine Bod.go dc_154_57 rfl ?_
  refine Bod.get dc_154_58 fr_154_23 (mk_52 _) rfl ?_
  refine Bod.go dc_154_61 rfl ?_
  refine Bod.get dc_154_62 fr_154_15 (mk_52 _) rfl ?_
  refine Bod.go dc_154_65 rfl ?_
  refine Bod.go dc_154_66 rfl ?_
  refine Bod.go dc_154_67 rfl ?_
  refine Bod.virt (r := [_]) dc_154_68 kr_154_200 ⟨Or.inr rfl, ow_156, cl_2⟩ (by rw [np_156]; rfl) (by rw [np_156]; rfl) (ob_of (mk_2 _)) (Nat.le_of_ble_eq_true rfl) (c5  ) ?_
  show Bod _ _ _ _ [_, _] _ _ _
  refine Bod.go dc_154_71 rfl ?_
  refine Bod.get dc_154_72 fr_154_15 (mk_52 _) rfl ?_
  refine Bod.go dc_154_75 rfl ?_
  refine Bod.go dc_154_76 rfl ?_
  refine Bod.go dc_154_77 rfl ?_
  refine Bod.virt (r := [_, _]) dc_154_78 kr_154_204 ⟨Or.inr rfl, ow_158, cl_2⟩ (by rw [np_158]; rfl) (by rw [np_158]; rfl) (ob_of (mk_2 _)) (Nat.le_of_ble_eq_true rfl) (c6  ) ?_
  show Bod _ _ _ _ [_, _, _] _ _ _
  refine Bod.virt (r := []) dc_154_81 kr_154_146 ⟨Or.inr rfl, ow_153, cl_9⟩ (by rw [np_153]; rfl) (by rw [np_153]; rfl) (ob_of (mk_46 _)) (Nat.le_of_ble_eq_true rfl) (c7  ) ?_
  show Bod _ _ _ _ [] _ _ _
  refine Bod.ic 0 (by decide) dc_154_84 ?_
  exact Bod.retI dc_154_85 rt_154
theorem mNi_3 {d : Nat} {S : cS} {ex : Int32} {S1 : cS} {rb : Int32} {S2 : cS} {u : Int64} {S3 : cS} {a : Nat} (c1 : Ans (d + 8) 152 [.ref 46, .int (nI 1), .int (nI 1)] S (some (.int rb)) S1) (c2 : Ans (d + 8) 135 [.ref 46, .int (nI 0)] S1 (some (.long u)) S2) (w3 : sm_c1 .lt (lg_cmp u 0) true false = false) (ma : a < 2 ^ 20) (c3 : Ans (d + 8) 140 [.ref 2, .int rb] S2 (some (.int (nI a))) S3) (w6 : sm_c1 .lt (lg_cmp u ((nI a).toInt64)) true false = false) : Bod (d + 8) 154 0 [(0, .ref 52), (1, .int ex)] [] S (some (.int (nI 0))) (wI 5216 ex S3) := by
  refine Bod.go dc_154_0 rfl ?_
  refine Bod.get dc_154_1 fr_154_23 (mk_52 _) rfl ?_
  refine Bod.ic 1 (by decide) dc_154_4 ?_
  refine Bod.ic 1 (by decide) dc_154_5 ?_
  refine Bod.virt (r := []) dc_154_6 kr_154_190 ⟨Or.inr rfl, ow_152, cl_9⟩ (by rw [np_152]; rfl) (by rw [np_152]; rfl) (ob_of (mk_46 _)) (Nat.le_of_ble_eq_true rfl) (c1  ) ?_
  show Bod _ _ _ _ [_] _ _ _
  refine Bod.istn dc_154_9 (by rw [ml_154]; exact Nat.le_of_ble_eq_true rfl) ?_
  refine Bod.go dc_154_10 rfl ?_
  refine Bod.get dc_154_11 fr_154_23 (mk_52 _) rfl ?_
  refine Bod.ic 0 (by decide) dc_154_14 ?_
  refine Bod.virt (r := []) dc_154_15 kr_154_141 ⟨Or.inr rfl, ow_135, cl_9⟩ (by rw [np_135]; rfl) (by rw [np_135]; rfl) (ob_of (mk_46 _)) (Nat.le_of_ble_eq_true rfl) (c2  ) ?_
  show Bod _ _ _ _ [_] _ _ _
  refine Bod.lstn dc_154_18 (by rw [ml_154]; exact Nat.le_of_ble_eq_true rfl) ?_
  refine Bod.go dc_154_19 rfl ?_
  refine Bod.go dc_154_20 rfl ?_
  refine Bod.go dc_154_21 rfl ?_
  refine Bod.ifF dc_154_22 rfl w3 ?_
  refine Bod.go dc_154_25 rfl ?_
  refine Bod.go dc_154_26 rfl ?_
  refine Bod.get dc_154_27 fr_154_15 (mk_52 _) rfl ?_
  refine Bod.go dc_154_30 rfl ?_
  refine Bod.virt (r := [_]) dc_154_31 kr_154_193 ⟨Or.inr rfl, ow_140, cl_2⟩ (by rw [np_140]; rfl) (by rw [np_140]; rfl) (ob_of (mk_2 _)) (Nat.le_of_ble_eq_true rfl) (c3  ) ?_
  show Bod _ _ _ _ [_, _] _ _ _
  refine Bod.go dc_154_34 rfl ?_
  refine Bod.go dc_154_35 rfl ?_
  refine Bod.ifF dc_154_36 rfl w6 ?_
  refine Bod.go dc_154_39 rfl ?_
  refine Bod.go dc_154_40 rfl ?_
  refine Bod.put dc_154_41 fr_154_69 (mk_52 _) (Nat.le_of_ble_eq_true rfl) pf_4_16 (st_5216 _ _) (mu_I _ _ _) ?_
  refine Bod.ic 0 (by decide) dc_154_44 ?_
  exact Bod.retI dc_154_45 rt_154
theorem mGb_1 {d : Nat} {S : cS} {cl : Nat} {t : Nat} {e56 : Nat} {S1 : cS} {a : Nat} {e57 : Nat} {S2 : cS} (hcl : sI S 5213 = nI cl) (mcl : cl < 31) (b1 : 1 ≤ cl) (b2 : (cl - 1) < 30) (w5 : sm_c1 .ne (sA S 59 (cl - 1)) true false = true) (ht : sI S 4603 = nI t) (mt : t < 20481) (he56 : sA S 56 (cl - 1) = nI e56) (me56 : e56 < 2 ^ 20) (b3 : e56 ≤ t) (ma : a < 2 ^ 20) (c1 : Ans (d + 8) 148 [.ref 46, .int (nI (t - e56)), .long ((4611686018427387904)), .long ((sA S 59 (cl - 1)).toInt64)] S (some (.int (nI a))) S1) (he57 : sA (wI 5216 (sA S1 54 (cl - 1)) S1) 57 (cl - 1) = nI e57) (me57 : e57 < 2 ^ 20) (c2 : Ans (d + 8) 150 [.ref 52] (wI 5214 (nI e57) (wI 5216 (sA S1 54 (cl - 1)) S1)) none S2) : Bod (d + 8) 147 0 [(0, .ref 52)] [] S (some (.int (nI 0))) (S2) := by
  refine Bod.go dc_147_0 rfl ?_
  refine Bod.get dc_147_1 fr_147_150 (mk_52 _) rfl ?_
  refine Bod.eqI (nI cl) (by first | assumption | rfl | exact congrArg nI (by omega) | (simp (disch := omega) only [rI, rIe, rA, rIA, rLA, rJA, rVI, rQI, rVA, rQA, upd_at,  rAI, rLI, rJI, nI_add, pk_sub, kc_0, kc_1, kc_2, kc_3, kc_4, kc_5, reduceIte, Nat.reduceEqDiff, Nat.add_zero, rI_hold, rI_hold, rL_hold, hcl]; done)) ?_
  refine Bod.ic 1 (by decide) dc_147_4 ?_
  refine Bod.subN (cl - 1) (by omega) (by omega) dc_147_5 ?_
  refine Bod.istn dc_147_6 (by rw [ml_147]; exact Nat.le_of_ble_eq_true rfl) ?_
  refine Bod.go dc_147_7 rfl ?_
  refine Bod.ifF dc_147_8 rfl (k1_lt_F (cl - 1) rfl (by omega)) ?_
  refine Bod.go dc_147_11 rfl ?_
  refine Bod.bip 30 (by decide) dc_147_12 ?_
  refine Bod.icT dc_147_14 rfl (k2_lt_T (cl - 1) 30 rfl rfl (by omega) (by omega)) ?_
  refine Bod.go dc_147_19 rfl ?_
  refine Bod.get dc_147_20 fr_147_56 (mk_52 _) rfl ?_
  refine Bod.go dc_147_23 rfl ?_
  refine Bod.ialdN (cl - 1) rfl (by omega) (by omega) dc_147_24 (mk_59 _) ?_
  refine Bod.istn dc_147_25 (by rw [ml_147]; exact Nat.le_of_ble_eq_true rfl) ?_
  refine Bod.go dc_147_26 rfl ?_
  refine Bod.ifT dc_147_27 rfl w5 ?_
  refine Bod.ldc2 dc_147_41 cj_147_270 ?_
  refine Bod.lstn dc_147_44 (by rw [ml_147]; exact Nat.le_of_ble_eq_true rfl) ?_
  refine Bod.go dc_147_45 rfl ?_
  refine Bod.ifT dc_147_46 rfl w5 ?_
  refine Bod.go dc_147_60 rfl ?_
  refine Bod.go dc_147_61 rfl ?_
  refine Bod.lst dc_147_62 (by rw [ml_147]; exact Nat.le_of_ble_eq_true rfl) ?_
  refine Bod.go dc_147_64 rfl ?_
  refine Bod.get dc_147_65 fr_147_23 (mk_52 _) rfl ?_
  refine Bod.go dc_147_68 rfl ?_
  refine Bod.get dc_147_69 fr_147_23 (mk_52 _) rfl ?_
  refine Bod.get dc_147_72 fr_147_122 (mk_46 _) rfl ?_
  refine Bod.eqI (nI t) (by first | assumption | rfl | exact congrArg nI (by omega) | (simp (disch := omega) only [rI, rIe, rA, rIA, rLA, rJA, rVI, rQI, rVA, rQA, upd_at,  rAI, rLI, rJI, nI_add, pk_sub, kc_0, kc_1, kc_2, kc_3, kc_4, kc_5, reduceIte, Nat.reduceEqDiff, Nat.add_zero, rI_hold, rI_hold, rL_hold, hcl, ht]; done)) ?_
  refine Bod.go dc_147_75 rfl ?_
  refine Bod.get dc_147_76 fr_147_47 (mk_52 _) rfl ?_
  refine Bod.go dc_147_79 rfl ?_
  refine Bod.ialdN (cl - 1) rfl (by omega) (by omega) dc_147_80 (mk_56 _) ?_
  refine Bod.eqI (nI e56) (by first | assumption | rfl | exact congrArg nI (by omega) | (simp (disch := omega) only [rI, rIe, rA, rIA, rLA, rJA, rVI, rQI, rVA, rQA, upd_at,  rAI, rLI, rJI, nI_add, pk_sub, kc_0, kc_1, kc_2, kc_3, kc_4, kc_5, reduceIte, Nat.reduceEqDiff, Nat.add_zero, rI_hold, rI_hold, rL_hold, hcl, ht, he56]; done)) ?_
  refine Bod.subN (t - e56) (by omega) (by omega) dc_147_81 ?_
  refine Bod.go dc_147_82 rfl ?_
  refine Bod.go dc_147_83 rfl ?_
  refine Bod.virt (r := []) dc_147_85 kr_147_282 ⟨Or.inr rfl, ow_148, cl_9⟩ (by rw [np_148]; rfl) (by rw [np_148]; rfl) (ob_of (mk_46 _)) (Nat.le_of_ble_eq_true rfl) (c1  ) ?_
  show Bod _ _ _ _ [_] _ _ _
  refine Bod.go dc_147_88 rfl ?_
  refine Bod.go dc_147_89 rfl ?_
  refine Bod.go dc_147_90 rfl ?_
  refine Bod.get dc_147_91 fr_147_40 (mk_52 _) rfl ?_
  refine Bod.go dc_147_94 rfl ?_
  refine Bod.ialdN (cl - 1) rfl (by omega) (by omega) dc_147_95 (mk_54 _) ?_
  refine Bod.put dc_147_96 fr_147_69 (mk_52 _) (Nat.le_of_ble_eq_true rfl) pf_4_16 (st_5216 _ _) (mu_I _ _ _) ?_
  refine Bod.go dc_147_99 rfl ?_
  refine Bod.go dc_147_100 rfl ?_
  refine Bod.get dc_147_101 fr_147_50 (mk_52 _) rfl ?_
  refine Bod.go dc_147_104 rfl ?_
  refine Bod.ialdN (cl - 1) rfl (by omega) (by omega) dc_147_105 (mk_57 _) ?_
  refine Bod.eqI (nI e57) (by first | (simp (disch := omega) only [rI, rIe, rA, rIA, rLA, rJA, rVI, rQI, rVA, rQA, upd_at,  rAI, rLI, rJI, nI_add, pk_sub, kc_0, kc_1, kc_2, kc_3, kc_4, kc_5, reduceIte, Nat.reduceEqDiff, Nat.add_zero, rI_hold, rI_hold, rL_hold, hcl, ht, he56, he57]; done) | (simp (disch := omega) only [rI, rIe, rA, rIA, rLA, rJA, rVI, rQI, rVA, rQA, upd_at,  rAI, rLI, rJI, nI_add, pk_sub, kc_0, kc_1, kc_2, kc_3, kc_4, kc_5, reduceIte, Nat.reduceEqDiff, Nat.add_zero, rI_hold, rI_hold, rL_hold, hcl, ht, he56, he57]; exact congrArg nI (by omega))) ?_
  refine Bod.put dc_147_106 fr_147_75 (mk_52 _) (Nat.le_of_ble_eq_true rfl) pf_4_14 (st_5214 _ _) (mu_I _ _ _) ?_
  refine Bod.go dc_147_109 rfl ?_
  refine Bod.virt (r := []) dc_147_110 kr_147_153 ⟨Or.inl rfl, ow_150, cl_4⟩ (by rw [np_150]; rfl) (by rw [np_150]; rfl) (ob_of (mk_52 _)) (Nat.le_of_ble_eq_true rfl) (c2  ) ?_
  show Bod _ _ _ _ [] _ _ _
  refine Bod.ic 0 (by decide) dc_147_113 ?_
  exact Bod.retI dc_147_114 rt_147
theorem mGb_2 {d : Nat} {S : cS} {cl : Nat} {S1 : cS} {u : Int64} {t : Nat} {e56 : Nat} {S2 : cS} {a : Nat} {e57 : Nat} {S3 : cS} (hcl : sI S 5213 = nI cl) (mcl : cl < 31) (b1 : 1 ≤ cl) (b2 : (cl - 1) < 30) (w5 : sm_c1 .ne (sA S 59 (cl - 1)) true false = true) (w6 : sm_c1 .ne (sA S 59 (cl - 1)) true false = false) (c1 : Ans (d + 8) 135 [.ref 46, .int (nI 0)] S (some (.long u)) S1) (ht : sI S1 4603 = nI t) (mt : t < 20481) (he56 : sA S1 56 (cl - 1) = nI e56) (me56 : e56 < 2 ^ 20) (b3 : e56 ≤ t) (ma : a < 2 ^ 20) (c2 : Ans (d + 8) 148 [.ref 46, .int (nI (t - e56)), .long ((4611686018427387904)), .long u] S1 (some (.int (nI a))) S2) (he57 : sA (wI 5216 (sA S2 54 (cl - 1)) S2) 57 (cl - 1) = nI e57) (me57 : e57 < 2 ^ 20) (c3 : Ans (d + 8) 150 [.ref 52] (wI 5214 (nI e57) (wI 5216 (sA S2 54 (cl - 1)) S2)) none S3) : Bod (d + 8) 147 0 [(0, .ref 52)] [] S (some (.int (nI 0))) (S3) := by
  refine Bod.go dc_147_0 rfl ?_
  refine Bod.get dc_147_1 fr_147_150 (mk_52 _) rfl ?_
  refine Bod.eqI (nI cl) (by first | assumption | rfl | exact congrArg nI (by omega) | (simp (disch := omega) only [rI, rIe, rA, rIA, rLA, rJA, rVI, rQI, rVA, rQA, upd_at,  rAI, rLI, rJI, nI_add, pk_sub, kc_0, kc_1, kc_2, kc_3, kc_4, kc_5, reduceIte, Nat.reduceEqDiff, Nat.add_zero, rI_hold, rI_hold, rL_hold, hcl]; done)) ?_
  refine Bod.ic 1 (by decide) dc_147_4 ?_
  refine Bod.subN (cl - 1) (by omega) (by omega) dc_147_5 ?_
  refine Bod.istn dc_147_6 (by rw [ml_147]; exact Nat.le_of_ble_eq_true rfl) ?_
  refine Bod.go dc_147_7 rfl ?_
  refine Bod.ifF dc_147_8 rfl (k1_lt_F (cl - 1) rfl (by omega)) ?_
  refine Bod.go dc_147_11 rfl ?_
  refine Bod.bip 30 (by decide) dc_147_12 ?_
  refine Bod.icT dc_147_14 rfl (k2_lt_T (cl - 1) 30 rfl rfl (by omega) (by omega)) ?_
  refine Bod.go dc_147_19 rfl ?_
  refine Bod.get dc_147_20 fr_147_56 (mk_52 _) rfl ?_
  refine Bod.go dc_147_23 rfl ?_
  refine Bod.ialdN (cl - 1) rfl (by omega) (by omega) dc_147_24 (mk_59 _) ?_
  refine Bod.istn dc_147_25 (by rw [ml_147]; exact Nat.le_of_ble_eq_true rfl) ?_
  refine Bod.go dc_147_26 rfl ?_
  refine Bod.ifT dc_147_27 rfl w5 ?_
  refine Bod.ldc2 dc_147_41 cj_147_270 ?_
  refine Bod.lstn dc_147_44 (by rw [ml_147]; exact Nat.le_of_ble_eq_true rfl) ?_
  refine Bod.go dc_147_45 rfl ?_
  refine Bod.ifF dc_147_46 rfl w6 ?_
  refine Bod.go dc_147_49 rfl ?_
  refine Bod.get dc_147_50 fr_147_23 (mk_52 _) rfl ?_
  refine Bod.ic 0 (by decide) dc_147_53 ?_
  refine Bod.virt (r := []) dc_147_54 kr_147_141 ⟨Or.inr rfl, ow_135, cl_9⟩ (by rw [np_135]; rfl) (by rw [np_135]; rfl) (ob_of (mk_46 _)) (Nat.le_of_ble_eq_true rfl) (c1  ) ?_
  show Bod _ _ _ _ [_] _ _ _
  refine Bod.go dc_147_57 rfl ?_
  refine Bod.lst dc_147_62 (by rw [ml_147]; exact Nat.le_of_ble_eq_true rfl) ?_
  refine Bod.go dc_147_64 rfl ?_
  refine Bod.get dc_147_65 fr_147_23 (mk_52 _) rfl ?_
  refine Bod.go dc_147_68 rfl ?_
  refine Bod.get dc_147_69 fr_147_23 (mk_52 _) rfl ?_
  refine Bod.get dc_147_72 fr_147_122 (mk_46 _) rfl ?_
  refine Bod.eqI (nI t) (by first | (simp (disch := omega) only [rI, rIe, rA, rIA, rLA, rJA, rVI, rQI, rVA, rQA, upd_at,  rAI, rLI, rJI, nI_add, pk_sub, kc_0, kc_1, kc_2, kc_3, kc_4, kc_5, reduceIte, Nat.reduceEqDiff, Nat.add_zero, rI_hold, rI_hold, rL_hold, hcl, ht]; done) | (simp (disch := omega) only [rI, rIe, rA, rIA, rLA, rJA, rVI, rQI, rVA, rQA, upd_at,  rAI, rLI, rJI, nI_add, pk_sub, kc_0, kc_1, kc_2, kc_3, kc_4, kc_5, reduceIte, Nat.reduceEqDiff, Nat.add_zero, rI_hold, rI_hold, rL_hold, hcl, ht]; exact congrArg nI (by omega))) ?_
  refine Bod.go dc_147_75 rfl ?_
  refine Bod.get dc_147_76 fr_147_47 (mk_52 _) rfl ?_
  refine Bod.go dc_147_79 rfl ?_
  refine Bod.ialdN (cl - 1) rfl (by omega) (by omega) dc_147_80 (mk_56 _) ?_
  refine Bod.eqI (nI e56) (by first | (simp (disch := omega) only [rI, rIe, rA, rIA, rLA, rJA, rVI, rQI, rVA, rQA, upd_at,  rAI, rLI, rJI, nI_add, pk_sub, kc_0, kc_1, kc_2, kc_3, kc_4, kc_5, reduceIte, Nat.reduceEqDiff, Nat.add_zero, rI_hold, rI_hold, rL_hold, hcl, ht, he56]; done) | (simp (disch := omega) only [rI, rIe, rA, rIA, rLA, rJA, rVI, rQI, rVA, rQA, upd_at,  rAI, rLI, rJI, nI_add, pk_sub, kc_0, kc_1, kc_2, kc_3, kc_4, kc_5, reduceIte, Nat.reduceEqDiff, Nat.add_zero, rI_hold, rI_hold, rL_hold, hcl, ht, he56]; exact congrArg nI (by omega))) ?_
  refine Bod.subN (t - e56) (by omega) (by omega) dc_147_81 ?_
  refine Bod.go dc_147_82 rfl ?_
  refine Bod.go dc_147_83 rfl ?_
  refine Bod.virt (r := []) dc_147_85 kr_147_282 ⟨Or.inr rfl, ow_148, cl_9⟩ (by rw [np_148]; rfl) (by rw [np_148]; rfl) (ob_of (mk_46 _)) (Nat.le_of_ble_eq_true rfl) (c2  ) ?_
  show Bod _ _ _ _ [_] _ _ _
  refine Bod.go dc_147_88 rfl ?_
  refine Bod.go dc_147_89 rfl ?_
  refine Bod.go dc_147_90 rfl ?_
  refine Bod.get dc_147_91 fr_147_40 (mk_52 _) rfl ?_
  refine Bod.go dc_147_94 rfl ?_
  refine Bod.ialdN (cl - 1) rfl (by omega) (by omega) dc_147_95 (mk_54 _) ?_
  refine Bod.put dc_147_96 fr_147_69 (mk_52 _) (Nat.le_of_ble_eq_true rfl) pf_4_16 (st_5216 _ _) (mu_I _ _ _) ?_
  refine Bod.go dc_147_99 rfl ?_
  refine Bod.go dc_147_100 rfl ?_
  refine Bod.get dc_147_101 fr_147_50 (mk_52 _) rfl ?_
  refine Bod.go dc_147_104 rfl ?_
  refine Bod.ialdN (cl - 1) rfl (by omega) (by omega) dc_147_105 (mk_57 _) ?_
  refine Bod.eqI (nI e57) (by first | (simp (disch := omega) only [rI, rIe, rA, rIA, rLA, rJA, rVI, rQI, rVA, rQA, upd_at,  rAI, rLI, rJI, nI_add, pk_sub, kc_0, kc_1, kc_2, kc_3, kc_4, kc_5, reduceIte, Nat.reduceEqDiff, Nat.add_zero, rI_hold, rI_hold, rL_hold, hcl, ht, he56, he57]; done) | (simp (disch := omega) only [rI, rIe, rA, rIA, rLA, rJA, rVI, rQI, rVA, rQA, upd_at,  rAI, rLI, rJI, nI_add, pk_sub, kc_0, kc_1, kc_2, kc_3, kc_4, kc_5, reduceIte, Nat.reduceEqDiff, Nat.add_zero, rI_hold, rI_hold, rL_hold, hcl, ht, he56, he57]; exact congrArg nI (by omega))) ?_
  refine Bod.put dc_147_106 fr_147_75 (mk_52 _) (Nat.le_of_ble_eq_true rfl) pf_4_14 (st_5214 _ _) (mu_I _ _ _) ?_
  refine Bod.go dc_147_109 rfl ?_
  refine Bod.virt (r := []) dc_147_110 kr_147_153 ⟨Or.inl rfl, ow_150, cl_4⟩ (by rw [np_150]; rfl) (by rw [np_150]; rfl) (ob_of (mk_52 _)) (Nat.le_of_ble_eq_true rfl) (c3  ) ?_
  show Bod _ _ _ _ [] _ _ _
  refine Bod.ic 0 (by decide) dc_147_113 ?_
  exact Bod.retI dc_147_114 rt_147
theorem mGb_3 {d : Nat} {S : cS} {cl : Nat} {S1 : cS} {u : Int64} {t : Nat} {e56 : Nat} {S2 : cS} {a : Nat} {e57 : Nat} {S3 : cS} (hcl : sI S 5213 = nI cl) (mcl : cl < 31) (b1 : 1 ≤ cl) (b2 : (cl - 1) < 30) (w5 : sm_c1 .ne (sA S 59 (cl - 1)) true false = false) (c1 : Ans (d + 8) 132 [.ref 46, .int (nI 0)] S (some (.long u)) S1) (w7 : sm_c1 .ne (sA S 59 (cl - 1)) true false = true) (ht : sI S1 4603 = nI t) (mt : t < 20481) (he56 : sA S1 56 (cl - 1) = nI e56) (me56 : e56 < 2 ^ 20) (b3 : e56 ≤ t) (ma : a < 2 ^ 20) (c2 : Ans (d + 8) 148 [.ref 46, .int (nI (t - e56)), .long u, .long ((sA S 59 (cl - 1)).toInt64)] S1 (some (.int (nI a))) S2) (he57 : sA (wI 5216 (sA S2 54 (cl - 1)) S2) 57 (cl - 1) = nI e57) (me57 : e57 < 2 ^ 20) (c3 : Ans (d + 8) 150 [.ref 52] (wI 5214 (nI e57) (wI 5216 (sA S2 54 (cl - 1)) S2)) none S3) : Bod (d + 8) 147 0 [(0, .ref 52)] [] S (some (.int (nI 0))) (S3) := by
  refine Bod.go dc_147_0 rfl ?_
  refine Bod.get dc_147_1 fr_147_150 (mk_52 _) rfl ?_
  refine Bod.eqI (nI cl) (by first | assumption | rfl | exact congrArg nI (by omega) | (simp (disch := omega) only [rI, rIe, rA, rIA, rLA, rJA, rVI, rQI, rVA, rQA, upd_at,  rAI, rLI, rJI, nI_add, pk_sub, kc_0, kc_1, kc_2, kc_3, kc_4, kc_5, reduceIte, Nat.reduceEqDiff, Nat.add_zero, rI_hold, rI_hold, rL_hold, hcl]; done)) ?_
  refine Bod.ic 1 (by decide) dc_147_4 ?_
  refine Bod.subN (cl - 1) (by omega) (by omega) dc_147_5 ?_
  refine Bod.istn dc_147_6 (by rw [ml_147]; exact Nat.le_of_ble_eq_true rfl) ?_
  refine Bod.go dc_147_7 rfl ?_
  refine Bod.ifF dc_147_8 rfl (k1_lt_F (cl - 1) rfl (by omega)) ?_
  refine Bod.go dc_147_11 rfl ?_
  refine Bod.bip 30 (by decide) dc_147_12 ?_
  refine Bod.icT dc_147_14 rfl (k2_lt_T (cl - 1) 30 rfl rfl (by omega) (by omega)) ?_
  refine Bod.go dc_147_19 rfl ?_
  refine Bod.get dc_147_20 fr_147_56 (mk_52 _) rfl ?_
  refine Bod.go dc_147_23 rfl ?_
  refine Bod.ialdN (cl - 1) rfl (by omega) (by omega) dc_147_24 (mk_59 _) ?_
  refine Bod.istn dc_147_25 (by rw [ml_147]; exact Nat.le_of_ble_eq_true rfl) ?_
  refine Bod.go dc_147_26 rfl ?_
  refine Bod.ifF dc_147_27 rfl w5 ?_
  refine Bod.go dc_147_30 rfl ?_
  refine Bod.get dc_147_31 fr_147_23 (mk_52 _) rfl ?_
  refine Bod.ic 0 (by decide) dc_147_34 ?_
  refine Bod.virt (r := []) dc_147_35 kr_147_133 ⟨Or.inr rfl, ow_132, cl_9⟩ (by rw [np_132]; rfl) (by rw [np_132]; rfl) (ob_of (mk_46 _)) (Nat.le_of_ble_eq_true rfl) (c1  ) ?_
  show Bod _ _ _ _ [_] _ _ _
  refine Bod.go dc_147_38 rfl ?_
  refine Bod.lstn dc_147_44 (by rw [ml_147]; exact Nat.le_of_ble_eq_true rfl) ?_
  refine Bod.go dc_147_45 rfl ?_
  refine Bod.ifT dc_147_46 rfl w7 ?_
  refine Bod.go dc_147_60 rfl ?_
  refine Bod.go dc_147_61 rfl ?_
  refine Bod.lst dc_147_62 (by rw [ml_147]; exact Nat.le_of_ble_eq_true rfl) ?_
  refine Bod.go dc_147_64 rfl ?_
  refine Bod.get dc_147_65 fr_147_23 (mk_52 _) rfl ?_
  refine Bod.go dc_147_68 rfl ?_
  refine Bod.get dc_147_69 fr_147_23 (mk_52 _) rfl ?_
  refine Bod.get dc_147_72 fr_147_122 (mk_46 _) rfl ?_
  refine Bod.eqI (nI t) (by first | (simp (disch := omega) only [rI, rIe, rA, rIA, rLA, rJA, rVI, rQI, rVA, rQA, upd_at,  rAI, rLI, rJI, nI_add, pk_sub, kc_0, kc_1, kc_2, kc_3, kc_4, kc_5, reduceIte, Nat.reduceEqDiff, Nat.add_zero, rI_hold, rI_hold, rL_hold, hcl, ht]; done) | (simp (disch := omega) only [rI, rIe, rA, rIA, rLA, rJA, rVI, rQI, rVA, rQA, upd_at,  rAI, rLI, rJI, nI_add, pk_sub, kc_0, kc_1, kc_2, kc_3, kc_4, kc_5, reduceIte, Nat.reduceEqDiff, Nat.add_zero, rI_hold, rI_hold, rL_hold, hcl, ht]; exact congrArg nI (by omega))) ?_
  refine Bod.go dc_147_75 rfl ?_
  refine Bod.get dc_147_76 fr_147_47 (mk_52 _) rfl ?_
  refine Bod.go dc_147_79 rfl ?_
  refine Bod.ialdN (cl - 1) rfl (by omega) (by omega) dc_147_80 (mk_56 _) ?_
  refine Bod.eqI (nI e56) (by first | (simp (disch := omega) only [rI, rIe, rA, rIA, rLA, rJA, rVI, rQI, rVA, rQA, upd_at,  rAI, rLI, rJI, nI_add, pk_sub, kc_0, kc_1, kc_2, kc_3, kc_4, kc_5, reduceIte, Nat.reduceEqDiff, Nat.add_zero, rI_hold, rI_hold, rL_hold, hcl, ht, he56]; done) | (simp (disch := omega) only [rI, rIe, rA, rIA, rLA, rJA, rVI, rQI, rVA, rQA, upd_at,  rAI, rLI, rJI, nI_add, pk_sub, kc_0, kc_1, kc_2, kc_3, kc_4, kc_5, reduceIte, Nat.reduceEqDiff, Nat.add_zero, rI_hold, rI_hold, rL_hold, hcl, ht, he56]; exact congrArg nI (by omega))) ?_
  refine Bod.subN (t - e56) (by omega) (by omega) dc_147_81 ?_
  refine Bod.go dc_147_82 rfl ?_
  refine Bod.go dc_147_83 rfl ?_
  refine Bod.virt (r := []) dc_147_85 kr_147_282 ⟨Or.inr rfl, ow_148, cl_9⟩ (by rw [np_148]; rfl) (by rw [np_148]; rfl) (ob_of (mk_46 _)) (Nat.le_of_ble_eq_true rfl) (c2  ) ?_
  show Bod _ _ _ _ [_] _ _ _
  refine Bod.go dc_147_88 rfl ?_
  refine Bod.go dc_147_89 rfl ?_
  refine Bod.go dc_147_90 rfl ?_
  refine Bod.get dc_147_91 fr_147_40 (mk_52 _) rfl ?_
  refine Bod.go dc_147_94 rfl ?_
  refine Bod.ialdN (cl - 1) rfl (by omega) (by omega) dc_147_95 (mk_54 _) ?_
  refine Bod.put dc_147_96 fr_147_69 (mk_52 _) (Nat.le_of_ble_eq_true rfl) pf_4_16 (st_5216 _ _) (mu_I _ _ _) ?_
  refine Bod.go dc_147_99 rfl ?_
  refine Bod.go dc_147_100 rfl ?_
  refine Bod.get dc_147_101 fr_147_50 (mk_52 _) rfl ?_
  refine Bod.go dc_147_104 rfl ?_
  refine Bod.ialdN (cl - 1) rfl (by omega) (by omega) dc_147_105 (mk_57 _) ?_
  refine Bod.eqI (nI e57) (by first | (simp (disch := omega) only [rI, rIe, rA, rIA, rLA, rJA, rVI, rQI, rVA, rQA, upd_at,  rAI, rLI, rJI, nI_add, pk_sub, kc_0, kc_1, kc_2, kc_3, kc_4, kc_5, reduceIte, Nat.reduceEqDiff, Nat.add_zero, rI_hold, rI_hold, rL_hold, hcl, ht, he56, he57]; done) | (simp (disch := omega) only [rI, rIe, rA, rIA, rLA, rJA, rVI, rQI, rVA, rQA, upd_at,  rAI, rLI, rJI, nI_add, pk_sub, kc_0, kc_1, kc_2, kc_3, kc_4, kc_5, reduceIte, Nat.reduceEqDiff, Nat.add_zero, rI_hold, rI_hold, rL_hold, hcl, ht, he56, he57]; exact congrArg nI (by omega))) ?_
  refine Bod.put dc_147_106 fr_147_75 (mk_52 _) (Nat.le_of_ble_eq_true rfl) pf_4_14 (st_5214 _ _) (mu_I _ _ _) ?_
  refine Bod.go dc_147_109 rfl ?_
  refine Bod.virt (r := []) dc_147_110 kr_147_153 ⟨Or.inl rfl, ow_150, cl_4⟩ (by rw [np_150]; rfl) (by rw [np_150]; rfl) (ob_of (mk_52 _)) (Nat.le_of_ble_eq_true rfl) (c3  ) ?_
  show Bod _ _ _ _ [] _ _ _
  refine Bod.ic 0 (by decide) dc_147_113 ?_
  exact Bod.retI dc_147_114 rt_147
theorem mGb_4 {d : Nat} {S : cS} {cl : Nat} {S1 : cS} {u : Int64} {S2 : cS} {u1 : Int64} {t : Nat} {e56 : Nat} {S3 : cS} {a : Nat} {e57 : Nat} {S4 : cS} (hcl : sI S 5213 = nI cl) (mcl : cl < 31) (b1 : 1 ≤ cl) (b2 : (cl - 1) < 30) (w5 : sm_c1 .ne (sA S 59 (cl - 1)) true false = false) (c1 : Ans (d + 8) 132 [.ref 46, .int (nI 0)] S (some (.long u)) S1) (c2 : Ans (d + 8) 135 [.ref 46, .int (nI 0)] S1 (some (.long u1)) S2) (ht : sI S2 4603 = nI t) (mt : t < 20481) (he56 : sA S2 56 (cl - 1) = nI e56) (me56 : e56 < 2 ^ 20) (b3 : e56 ≤ t) (ma : a < 2 ^ 20) (c3 : Ans (d + 8) 148 [.ref 46, .int (nI (t - e56)), .long u, .long u1] S2 (some (.int (nI a))) S3) (he57 : sA (wI 5216 (sA S3 54 (cl - 1)) S3) 57 (cl - 1) = nI e57) (me57 : e57 < 2 ^ 20) (c4 : Ans (d + 8) 150 [.ref 52] (wI 5214 (nI e57) (wI 5216 (sA S3 54 (cl - 1)) S3)) none S4) : Bod (d + 8) 147 0 [(0, .ref 52)] [] S (some (.int (nI 0))) (S4) := by
  refine Bod.go dc_147_0 rfl ?_
  refine Bod.get dc_147_1 fr_147_150 (mk_52 _) rfl ?_
  refine Bod.eqI (nI cl) (by first | assumption | rfl | exact congrArg nI (by omega) | (simp (disch := omega) only [rI, rIe, rA, rIA, rLA, rJA, rVI, rQI, rVA, rQA, upd_at,  rAI, rLI, rJI, nI_add, pk_sub, kc_0, kc_1, kc_2, kc_3, kc_4, kc_5, reduceIte, Nat.reduceEqDiff, Nat.add_zero, rI_hold, rI_hold, rL_hold, hcl]; done)) ?_
  refine Bod.ic 1 (by decide) dc_147_4 ?_
  refine Bod.subN (cl - 1) (by omega) (by omega) dc_147_5 ?_
  refine Bod.istn dc_147_6 (by rw [ml_147]; exact Nat.le_of_ble_eq_true rfl) ?_
  refine Bod.go dc_147_7 rfl ?_
  refine Bod.ifF dc_147_8 rfl (k1_lt_F (cl - 1) rfl (by omega)) ?_
  refine Bod.go dc_147_11 rfl ?_
  refine Bod.bip 30 (by decide) dc_147_12 ?_
  refine Bod.icT dc_147_14 rfl (k2_lt_T (cl - 1) 30 rfl rfl (by omega) (by omega)) ?_
  refine Bod.go dc_147_19 rfl ?_
  refine Bod.get dc_147_20 fr_147_56 (mk_52 _) rfl ?_
  refine Bod.go dc_147_23 rfl ?_
  refine Bod.ialdN (cl - 1) rfl (by omega) (by omega) dc_147_24 (mk_59 _) ?_
  refine Bod.istn dc_147_25 (by rw [ml_147]; exact Nat.le_of_ble_eq_true rfl) ?_
  refine Bod.go dc_147_26 rfl ?_
  refine Bod.ifF dc_147_27 rfl w5 ?_
  refine Bod.go dc_147_30 rfl ?_
  refine Bod.get dc_147_31 fr_147_23 (mk_52 _) rfl ?_
  refine Bod.ic 0 (by decide) dc_147_34 ?_
  refine Bod.virt (r := []) dc_147_35 kr_147_133 ⟨Or.inr rfl, ow_132, cl_9⟩ (by rw [np_132]; rfl) (by rw [np_132]; rfl) (ob_of (mk_46 _)) (Nat.le_of_ble_eq_true rfl) (c1  ) ?_
  show Bod _ _ _ _ [_] _ _ _
  refine Bod.go dc_147_38 rfl ?_
  refine Bod.lstn dc_147_44 (by rw [ml_147]; exact Nat.le_of_ble_eq_true rfl) ?_
  refine Bod.go dc_147_45 rfl ?_
  refine Bod.ifF dc_147_46 rfl w5 ?_
  refine Bod.go dc_147_49 rfl ?_
  refine Bod.get dc_147_50 fr_147_23 (mk_52 _) rfl ?_
  refine Bod.ic 0 (by decide) dc_147_53 ?_
  refine Bod.virt (r := []) dc_147_54 kr_147_141 ⟨Or.inr rfl, ow_135, cl_9⟩ (by rw [np_135]; rfl) (by rw [np_135]; rfl) (ob_of (mk_46 _)) (Nat.le_of_ble_eq_true rfl) (c2  ) ?_
  show Bod _ _ _ _ [_] _ _ _
  refine Bod.go dc_147_57 rfl ?_
  refine Bod.lst dc_147_62 (by rw [ml_147]; exact Nat.le_of_ble_eq_true rfl) ?_
  refine Bod.go dc_147_64 rfl ?_
  refine Bod.get dc_147_65 fr_147_23 (mk_52 _) rfl ?_
  refine Bod.go dc_147_68 rfl ?_
  refine Bod.get dc_147_69 fr_147_23 (mk_52 _) rfl ?_
  refine Bod.get dc_147_72 fr_147_122 (mk_46 _) rfl ?_
  refine Bod.eqI (nI t) (by first | (simp (disch := omega) only [rI, rIe, rA, rIA, rLA, rJA, rVI, rQI, rVA, rQA, upd_at,  rAI, rLI, rJI, nI_add, pk_sub, kc_0, kc_1, kc_2, kc_3, kc_4, kc_5, reduceIte, Nat.reduceEqDiff, Nat.add_zero, rI_hold, rI_hold, rL_hold, hcl, ht]; done) | (simp (disch := omega) only [rI, rIe, rA, rIA, rLA, rJA, rVI, rQI, rVA, rQA, upd_at,  rAI, rLI, rJI, nI_add, pk_sub, kc_0, kc_1, kc_2, kc_3, kc_4, kc_5, reduceIte, Nat.reduceEqDiff, Nat.add_zero, rI_hold, rI_hold, rL_hold, hcl, ht]; exact congrArg nI (by omega))) ?_
  refine Bod.go dc_147_75 rfl ?_
  refine Bod.get dc_147_76 fr_147_47 (mk_52 _) rfl ?_
  refine Bod.go dc_147_79 rfl ?_
  refine Bod.ialdN (cl - 1) rfl (by omega) (by omega) dc_147_80 (mk_56 _) ?_
  refine Bod.eqI (nI e56) (by first | (simp (disch := omega) only [rI, rIe, rA, rIA, rLA, rJA, rVI, rQI, rVA, rQA, upd_at,  rAI, rLI, rJI, nI_add, pk_sub, kc_0, kc_1, kc_2, kc_3, kc_4, kc_5, reduceIte, Nat.reduceEqDiff, Nat.add_zero, rI_hold, rI_hold, rL_hold, hcl, ht, he56]; done) | (simp (disch := omega) only [rI, rIe, rA, rIA, rLA, rJA, rVI, rQI, rVA, rQA, upd_at,  rAI, rLI, rJI, nI_add, pk_sub, kc_0, kc_1, kc_2, kc_3, kc_4, kc_5, reduceIte, Nat.reduceEqDiff, Nat.add_zero, rI_hold, rI_hold, rL_hold, hcl, ht, he56]; exact congrArg nI (by omega))) ?_
  refine Bod.subN (t - e56) (by omega) (by omega) dc_147_81 ?_
  refine Bod.go dc_147_82 rfl ?_
  refine Bod.go dc_147_83 rfl ?_
  refine Bod.virt (r := []) dc_147_85 kr_147_282 ⟨Or.inr rfl, ow_148, cl_9⟩ (by rw [np_148]; rfl) (by rw [np_148]; rfl) (ob_of (mk_46 _)) (Nat.le_of_ble_eq_true rfl) (c3  ) ?_
  show Bod _ _ _ _ [_] _ _ _
  refine Bod.go dc_147_88 rfl ?_
  refine Bod.go dc_147_89 rfl ?_
  refine Bod.go dc_147_90 rfl ?_
  refine Bod.get dc_147_91 fr_147_40 (mk_52 _) rfl ?_
  refine Bod.go dc_147_94 rfl ?_
  refine Bod.ialdN (cl - 1) rfl (by omega) (by omega) dc_147_95 (mk_54 _) ?_
  refine Bod.put dc_147_96 fr_147_69 (mk_52 _) (Nat.le_of_ble_eq_true rfl) pf_4_16 (st_5216 _ _) (mu_I _ _ _) ?_
  refine Bod.go dc_147_99 rfl ?_
  refine Bod.go dc_147_100 rfl ?_
  refine Bod.get dc_147_101 fr_147_50 (mk_52 _) rfl ?_
  refine Bod.go dc_147_104 rfl ?_
  refine Bod.ialdN (cl - 1) rfl (by omega) (by omega) dc_147_105 (mk_57 _) ?_
  refine Bod.eqI (nI e57) (by first | (simp (disch := omega) only [rI, rIe, rA, rIA, rLA, rJA, rVI, rQI, rVA, rQA, upd_at,  rAI, rLI, rJI, nI_add, pk_sub, kc_0, kc_1, kc_2, kc_3, kc_4, kc_5, reduceIte, Nat.reduceEqDiff, Nat.add_zero, rI_hold, rI_hold, rL_hold, hcl, ht, he56, he57]; done) | (simp (disch := omega) only [rI, rIe, rA, rIA, rLA, rJA, rVI, rQI, rVA, rQA, upd_at,  rAI, rLI, rJI, nI_add, pk_sub, kc_0, kc_1, kc_2, kc_3, kc_4, kc_5, reduceIte, Nat.reduceEqDiff, Nat.add_zero, rI_hold, rI_hold, rL_hold, hcl, ht, he56, he57]; exact congrArg nI (by omega))) ?_
  refine Bod.put dc_147_106 fr_147_75 (mk_52 _) (Nat.le_of_ble_eq_true rfl) pf_4_14 (st_5214 _ _) (mu_I _ _ _) ?_
  refine Bod.go dc_147_109 rfl ?_
  refine Bod.virt (r := []) dc_147_110 kr_147_153 ⟨Or.inl rfl, ow_150, cl_4⟩ (by rw [np_150]; rfl) (by rw [np_150]; rfl) (ob_of (mk_52 _)) (Nat.le_of_ble_eq_true rfl) (c4  ) ?_
  show Bod _ _ _ _ [] _ _ _
  refine Bod.ic 0 (by decide) dc_147_113 ?_
  exact Bod.retI dc_147_114 rt_147
theorem mGb_5 {d : Nat} {S : cS} {cl : Nat} (hcl : sI S 5213 = nI cl) (mcl : cl < 31) (b1 : 1 ≤ cl) (b2 : 30 ≤ (cl - 1)) : Bod (d + 8) 147 0 [(0, .ref 52)] [] S (some (.int (nI 0))) (S) := by
  refine Bod.go dc_147_0 rfl ?_
  refine Bod.get dc_147_1 fr_147_150 (mk_52 _) rfl ?_
  refine Bod.eqI (nI cl) (by first | assumption | rfl | exact congrArg nI (by omega) | (simp (disch := omega) only [rI, rIe, rA, rIA, rLA, rJA, rVI, rQI, rVA, rQA, upd_at,  rAI, rLI, rJI, nI_add, pk_sub, kc_0, kc_1, kc_2, kc_3, kc_4, kc_5, reduceIte, Nat.reduceEqDiff, Nat.add_zero, rI_hold, rI_hold, rL_hold, hcl]; done)) ?_
  refine Bod.ic 1 (by decide) dc_147_4 ?_
  refine Bod.subN (cl - 1) (by omega) (by omega) dc_147_5 ?_
  refine Bod.istn dc_147_6 (by rw [ml_147]; exact Nat.le_of_ble_eq_true rfl) ?_
  refine Bod.go dc_147_7 rfl ?_
  refine Bod.ifF dc_147_8 rfl (k1_lt_F (cl - 1) rfl (by omega)) ?_
  refine Bod.go dc_147_11 rfl ?_
  refine Bod.bip 30 (by decide) dc_147_12 ?_
  refine Bod.icF dc_147_14 rfl (k2_lt_F (cl - 1) 30 rfl rfl (by omega) (by omega)) ?_
  refine Bod.ic 0 (by decide) dc_147_17 ?_
  exact Bod.retI dc_147_18 rt_147
theorem mEc_1 {d : Nat} {S : cS} {cl : Nat} {S1 : cS} {cl1 : Nat} {S2 : cS} (hcl : sI S 5213 = nI cl) (mcl : cl < 31) (b1 : 1 ≤ cl) (b2 : (cl - 1) < 30) (c1 : Ans (d + 8) 142 [.ref 2, .ref 6, .int (sI (wI 5213 (nI (cl - 1)) S) 5215)] (wI 5217 (sA (wI 5215 (sA (wI 5213 (nI (cl - 1)) S) 58 (cl - 1)) (wI 5213 (nI (cl - 1)) S)) 55 (cl - 1)) (wI 5215 (sA (wI 5213 (nI (cl - 1)) S) 58 (cl - 1)) (wI 5213 (nI (cl - 1)) S))) none S1) (hcl1 : sI S1 5213 = nI cl1) (mcl1 : cl1 < 31) (b3 : cl1 < 30) (c2 : Ans (d + 8) 142 [.ref 2, .ref 6, .int (sA S1 59 cl1)] S1 none S2) : Bod (d + 8) 150 0 [(0, .ref 52)] [] S none (S2) := by
  refine Bod.go dc_150_0 rfl ?_
  refine Bod.go dc_150_1 rfl ?_
  refine Bod.get dc_150_2 fr_150_150 (mk_52 _) rfl ?_
  refine Bod.eqI (nI cl) (by first | assumption | rfl | exact congrArg nI (by omega) | (simp (disch := omega) only [rI, rIe, rA, rIA, rLA, rJA, rVI, rQI, rVA, rQA, upd_at,  rAI, rLI, rJI, nI_add, pk_sub, kc_0, kc_1, kc_2, kc_3, kc_4, kc_5, reduceIte, Nat.reduceEqDiff, Nat.add_zero, rI_hold, rI_hold, rL_hold, hcl]; done)) ?_
  refine Bod.ic 1 (by decide) dc_150_5 ?_
  refine Bod.subN (cl - 1) (by omega) (by omega) dc_150_6 ?_
  refine Bod.put dc_150_7 fr_150_150 (mk_52 _) (Nat.le_of_ble_eq_true rfl) pf_4_13 (st_5213 _ _) (mu_I _ _ _) ?_
  refine Bod.go dc_150_10 rfl ?_
  refine Bod.get dc_150_11 fr_150_150 (mk_52 _) rfl ?_
  refine Bod.eqI (nI (cl - 1)) (by first | (simp (disch := omega) only [rI, rIe, rA, rIA, rLA, rJA, rVI, rQI, rVA, rQA, upd_at,  rAI, rLI, rJI, nI_add, pk_sub, kc_0, kc_1, kc_2, kc_3, kc_4, kc_5, reduceIte, Nat.reduceEqDiff, Nat.add_zero, rI_hold, rI_hold, rL_hold, hcl]; done) | (simp (disch := omega) only [rI, rIe, rA, rIA, rLA, rJA, rVI, rQI, rVA, rQA, upd_at,  rAI, rLI, rJI, nI_add, pk_sub, kc_0, kc_1, kc_2, kc_3, kc_4, kc_5, reduceIte, Nat.reduceEqDiff, Nat.add_zero, rI_hold, rI_hold, rL_hold, hcl]; exact congrArg nI (by omega))) ?_
  refine Bod.ifF dc_150_14 rfl (k1_lt_F (cl - 1) rfl (by omega)) ?_
  refine Bod.go dc_150_17 rfl ?_
  refine Bod.get dc_150_18 fr_150_150 (mk_52 _) rfl ?_
  refine Bod.eqI (nI (cl - 1)) (by first | (simp (disch := omega) only [rI, rIe, rA, rIA, rLA, rJA, rVI, rQI, rVA, rQA, upd_at,  rAI, rLI, rJI, nI_add, pk_sub, kc_0, kc_1, kc_2, kc_3, kc_4, kc_5, reduceIte, Nat.reduceEqDiff, Nat.add_zero, rI_hold, rI_hold, rL_hold, hcl]; done) | (simp (disch := omega) only [rI, rIe, rA, rIA, rLA, rJA, rVI, rQI, rVA, rQA, upd_at,  rAI, rLI, rJI, nI_add, pk_sub, kc_0, kc_1, kc_2, kc_3, kc_4, kc_5, reduceIte, Nat.reduceEqDiff, Nat.add_zero, rI_hold, rI_hold, rL_hold, hcl]; exact congrArg nI (by omega))) ?_
  refine Bod.bip 30 (by decide) dc_150_21 ?_
  refine Bod.icT dc_150_23 rfl (k2_lt_T (cl - 1) 30 rfl rfl (by omega) (by omega)) ?_
  refine Bod.go dc_150_27 rfl ?_
  refine Bod.get dc_150_28 fr_150_78 (mk_52 _) rfl ?_
  refine Bod.istn dc_150_31 (by rw [ml_150]; exact Nat.le_of_ble_eq_true rfl) ?_
  refine Bod.go dc_150_32 rfl ?_
  refine Bod.go dc_150_33 rfl ?_
  refine Bod.get dc_150_34 fr_150_53 (mk_52 _) rfl ?_
  refine Bod.go dc_150_37 rfl ?_
  refine Bod.get dc_150_38 fr_150_150 (mk_52 _) rfl ?_
  refine Bod.eqI (nI (cl - 1)) (by first | (simp (disch := omega) only [rI, rIe, rA, rIA, rLA, rJA, rVI, rQI, rVA, rQA, upd_at,  rAI, rLI, rJI, nI_add, pk_sub, kc_0, kc_1, kc_2, kc_3, kc_4, kc_5, reduceIte, Nat.reduceEqDiff, Nat.add_zero, rI_hold, rI_hold, rL_hold, hcl]; done) | (simp (disch := omega) only [rI, rIe, rA, rIA, rLA, rJA, rVI, rQI, rVA, rQA, upd_at,  rAI, rLI, rJI, nI_add, pk_sub, kc_0, kc_1, kc_2, kc_3, kc_4, kc_5, reduceIte, Nat.reduceEqDiff, Nat.add_zero, rI_hold, rI_hold, rL_hold, hcl]; exact congrArg nI (by omega))) ?_
  refine Bod.ialdN (cl - 1) rfl (by omega) (by omega) dc_150_41 (mk_58 _) ?_
  refine Bod.put dc_150_42 fr_150_78 (mk_52 _) (Nat.le_of_ble_eq_true rfl) pf_4_15 (st_5215 _ _) (mu_I _ _ _) ?_
  refine Bod.go dc_150_45 rfl ?_
  refine Bod.go dc_150_46 rfl ?_
  refine Bod.get dc_150_47 fr_150_44 (mk_52 _) rfl ?_
  refine Bod.go dc_150_50 rfl ?_
  refine Bod.get dc_150_51 fr_150_150 (mk_52 _) rfl ?_
  refine Bod.eqI (nI (cl - 1)) (by first | (simp (disch := omega) only [rI, rIe, rA, rIA, rLA, rJA, rVI, rQI, rVA, rQA, upd_at,  rAI, rLI, rJI, nI_add, pk_sub, kc_0, kc_1, kc_2, kc_3, kc_4, kc_5, reduceIte, Nat.reduceEqDiff, Nat.add_zero, rI_hold, rI_hold, rL_hold, hcl]; done) | (simp (disch := omega) only [rI, rIe, rA, rIA, rLA, rJA, rVI, rQI, rVA, rQA, upd_at,  rAI, rLI, rJI, nI_add, pk_sub, kc_0, kc_1, kc_2, kc_3, kc_4, kc_5, reduceIte, Nat.reduceEqDiff, Nat.add_zero, rI_hold, rI_hold, rL_hold, hcl]; exact congrArg nI (by omega))) ?_
  refine Bod.ialdN (cl - 1) rfl (by omega) (by omega) dc_150_54 (mk_55 _) ?_
  refine Bod.put dc_150_55 fr_150_66 (mk_52 _) (Nat.le_of_ble_eq_true rfl) pf_4_17 (st_5217 _ _) (mu_I _ _ _) ?_
  refine Bod.go dc_150_58 rfl ?_
  refine Bod.get dc_150_59 fr_150_15 (mk_52 _) rfl ?_
  refine Bod.go dc_150_62 rfl ?_
  refine Bod.get dc_150_63 fr_150_15 (mk_52 _) rfl ?_
  refine Bod.get dc_150_66 fr_150_156 (mk_2 _) rfl ?_
  refine Bod.go dc_150_69 rfl ?_
  refine Bod.virt (r := []) dc_150_70 kr_150_161 ⟨Or.inr rfl, ow_142, cl_2⟩ (by rw [np_142]; rfl) (by rw [np_142]; rfl) (ob_of (mk_2 _)) (Nat.le_of_ble_eq_true rfl) (c1  ) ?_
  show Bod _ _ _ _ [] _ _ _
  refine Bod.go dc_150_73 rfl ?_
  refine Bod.get dc_150_74 fr_150_15 (mk_52 _) rfl ?_
  refine Bod.go dc_150_77 rfl ?_
  refine Bod.get dc_150_78 fr_150_15 (mk_52 _) rfl ?_
  refine Bod.get dc_150_81 fr_150_156 (mk_2 _) rfl ?_
  refine Bod.go dc_150_84 rfl ?_
  refine Bod.get dc_150_85 fr_150_56 (mk_52 _) rfl ?_
  refine Bod.go dc_150_88 rfl ?_
  refine Bod.get dc_150_89 fr_150_150 (mk_52 _) rfl ?_
  refine Bod.eqI (nI cl1) (by first | (simp (disch := omega) only [rI, rIe, rA, rIA, rLA, rJA, rVI, rQI, rVA, rQA, upd_at,  rAI, rLI, rJI, nI_add, pk_sub, kc_0, kc_1, kc_2, kc_3, kc_4, kc_5, reduceIte, Nat.reduceEqDiff, Nat.add_zero, rI_hold, rI_hold, rL_hold, hcl, hcl1]; done) | (simp (disch := omega) only [rI, rIe, rA, rIA, rLA, rJA, rVI, rQI, rVA, rQA, upd_at,  rAI, rLI, rJI, nI_add, pk_sub, kc_0, kc_1, kc_2, kc_3, kc_4, kc_5, reduceIte, Nat.reduceEqDiff, Nat.add_zero, rI_hold, rI_hold, rL_hold, hcl, hcl1]; exact congrArg nI (by omega))) ?_
  refine Bod.ialdN cl1 rfl (by omega) (by omega) dc_150_92 (mk_59 _) ?_
  refine Bod.virt (r := []) dc_150_93 kr_150_161 ⟨Or.inr rfl, ow_142, cl_2⟩ (by rw [np_142]; rfl) (by rw [np_142]; rfl) (ob_of (mk_2 _)) (Nat.le_of_ble_eq_true rfl) (c2  ) ?_
  show Bod _ _ _ _ [] _ _ _
  exact Bod.retV dc_150_96 rt_150
theorem mEc_2 {d : Nat} {S : cS} {cl : Nat} (hcl : sI S 5213 = nI cl) (mcl : cl < 31) (b1 : 1 ≤ cl) (b2 : 30 ≤ (cl - 1)) : Bod (d + 8) 150 0 [(0, .ref 52)] [] S none (wI 5213 (nI (cl - 1)) S) := by
  refine Bod.go dc_150_0 rfl ?_
  refine Bod.go dc_150_1 rfl ?_
  refine Bod.get dc_150_2 fr_150_150 (mk_52 _) rfl ?_
  refine Bod.eqI (nI cl) (by first | assumption | rfl | exact congrArg nI (by omega) | (simp (disch := omega) only [rI, rIe, rA, rIA, rLA, rJA, rVI, rQI, rVA, rQA, upd_at,  rAI, rLI, rJI, nI_add, pk_sub, kc_0, kc_1, kc_2, kc_3, kc_4, kc_5, reduceIte, Nat.reduceEqDiff, Nat.add_zero, rI_hold, rI_hold, rL_hold, hcl]; done)) ?_
  refine Bod.ic 1 (by decide) dc_150_5 ?_
  refine Bod.subN (cl - 1) (by omega) (by omega) dc_150_6 ?_
  refine Bod.put dc_150_7 fr_150_150 (mk_52 _) (Nat.le_of_ble_eq_true rfl) pf_4_13 (st_5213 _ _) (mu_I _ _ _) ?_
  refine Bod.go dc_150_10 rfl ?_
  refine Bod.get dc_150_11 fr_150_150 (mk_52 _) rfl ?_
  refine Bod.eqI (nI (cl - 1)) (by first | (simp (disch := omega) only [rI, rIe, rA, rIA, rLA, rJA, rVI, rQI, rVA, rQA, upd_at,  rAI, rLI, rJI, nI_add, pk_sub, kc_0, kc_1, kc_2, kc_3, kc_4, kc_5, reduceIte, Nat.reduceEqDiff, Nat.add_zero, rI_hold, rI_hold, rL_hold, hcl]; done) | (simp (disch := omega) only [rI, rIe, rA, rIA, rLA, rJA, rVI, rQI, rVA, rQA, upd_at,  rAI, rLI, rJI, nI_add, pk_sub, kc_0, kc_1, kc_2, kc_3, kc_4, kc_5, reduceIte, Nat.reduceEqDiff, Nat.add_zero, rI_hold, rI_hold, rL_hold, hcl]; exact congrArg nI (by omega))) ?_
  refine Bod.ifF dc_150_14 rfl (k1_lt_F (cl - 1) rfl (by omega)) ?_
  refine Bod.go dc_150_17 rfl ?_
  refine Bod.get dc_150_18 fr_150_150 (mk_52 _) rfl ?_
  refine Bod.eqI (nI (cl - 1)) (by first | (simp (disch := omega) only [rI, rIe, rA, rIA, rLA, rJA, rVI, rQI, rVA, rQA, upd_at,  rAI, rLI, rJI, nI_add, pk_sub, kc_0, kc_1, kc_2, kc_3, kc_4, kc_5, reduceIte, Nat.reduceEqDiff, Nat.add_zero, rI_hold, rI_hold, rL_hold, hcl]; done) | (simp (disch := omega) only [rI, rIe, rA, rIA, rLA, rJA, rVI, rQI, rVA, rQA, upd_at,  rAI, rLI, rJI, nI_add, pk_sub, kc_0, kc_1, kc_2, kc_3, kc_4, kc_5, reduceIte, Nat.reduceEqDiff, Nat.add_zero, rI_hold, rI_hold, rL_hold, hcl]; exact congrArg nI (by omega))) ?_
  refine Bod.bip 30 (by decide) dc_150_21 ?_
  refine Bod.icF dc_150_23 rfl (k2_lt_F (cl - 1) 30 rfl rfl (by omega) (by omega)) ?_
  exact Bod.retV dc_150_26 rt_150
theorem mRa_1 {d : Nat} {S : cS} {S1 : cS} {u : Int64} {S2 : cS} {u1 : Int64} {S3 : cS} {a : Nat} (c1 : Ans (d + 8) 135 [.ref 46, .int (nI 0)] S (some (.long u)) S1) (c2 : Ans (d + 8) 132 [.ref 46, .int (nI 0)] S1 (some (.long u1)) S2) (ma : a < 2 ^ 20) (c3 : Ans (d + 8) 134 [.long u1] S2 (some (.int (nI a))) S3) (b1 : a ≠ 2) : Bod (d + 8) 160 0 [(0, .ref 52)] [] S (some (.int (nI 2))) (S3) := by
  refine Bod.go dc_160_0 rfl ?_
  refine Bod.get dc_160_1 fr_160_23 (mk_52 _) rfl ?_
  refine Bod.ic 0 (by decide) dc_160_4 ?_
  refine Bod.virt (r := []) dc_160_5 kr_160_141 ⟨Or.inr rfl, ow_135, cl_9⟩ (by rw [np_135]; rfl) (by rw [np_135]; rfl) (ob_of (mk_46 _)) (Nat.le_of_ble_eq_true rfl) (c1  ) ?_
  show Bod _ _ _ _ [_] _ _ _
  refine Bod.lstn dc_160_8 (by rw [ml_160]; exact Nat.le_of_ble_eq_true rfl) ?_
  refine Bod.go dc_160_9 rfl ?_
  refine Bod.get dc_160_10 fr_160_23 (mk_52 _) rfl ?_
  refine Bod.ic 0 (by decide) dc_160_13 ?_
  refine Bod.virt (r := []) dc_160_14 kr_160_133 ⟨Or.inr rfl, ow_132, cl_9⟩ (by rw [np_132]; rfl) (by rw [np_132]; rfl) (ob_of (mk_46 _)) (Nat.le_of_ble_eq_true rfl) (c2  ) ?_
  show Bod _ _ _ _ [_] _ _ _
  refine Bod.stat (r := []) dc_160_17 kr_160_137 (Or.inr rfl) (by rw [np_134]; rfl) (by rw [np_134]; rfl) (by rw [np_134]; exact Nat.le_of_ble_eq_true rfl) (Nat.le_of_ble_eq_true rfl) (c3  ) ?_
  show Bod _ _ _ _ [_] _ _ _
  refine Bod.ic 2 (by decide) dc_160_20 ?_
  refine Bod.icT dc_160_21 rfl (k2_ne_T (k_ne a 2 rfl rfl (by omega) (by omega) (by omega))) ?_
  refine Bod.ic 0 (by decide) dc_160_44 ?_
  refine Bod.istn dc_160_45 (by rw [ml_160]; exact Nat.le_of_ble_eq_true rfl) ?_
  refine Bod.go dc_160_46 rfl ?_
  refine Bod.ifT dc_160_47 rfl (k1_eq_T (k_eq 0 0 rfl rfl (by omega))) ?_
  refine Bod.ic 2 (by decide) dc_160_55 ?_
  exact Bod.retI dc_160_56 rt_160
theorem mRa_2 {d : Nat} {S : cS} {S1 : cS} {u : Int64} {S2 : cS} {u1 : Int64} {S3 : cS} {a : Nat} (c1 : Ans (d + 8) 135 [.ref 46, .int (nI 0)] S (some (.long u)) S1) (c2 : Ans (d + 8) 132 [.ref 46, .int (nI 0)] S1 (some (.long u1)) S2) (ma : a < 2 ^ 20) (c3 : Ans (d + 8) 134 [.long u1] S2 (some (.int (nI a))) S3) (b1 : a = 2) (w6 : sm_c1 .lt (lg_cmp u ((10))) true false = true) : Bod (d + 8) 160 0 [(0, .ref 52)] [] S (some (.int (nI 2))) (S3) := by
  refine Bod.go dc_160_0 rfl ?_
  refine Bod.get dc_160_1 fr_160_23 (mk_52 _) rfl ?_
  refine Bod.ic 0 (by decide) dc_160_4 ?_
  refine Bod.virt (r := []) dc_160_5 kr_160_141 ⟨Or.inr rfl, ow_135, cl_9⟩ (by rw [np_135]; rfl) (by rw [np_135]; rfl) (ob_of (mk_46 _)) (Nat.le_of_ble_eq_true rfl) (c1  ) ?_
  show Bod _ _ _ _ [_] _ _ _
  refine Bod.lstn dc_160_8 (by rw [ml_160]; exact Nat.le_of_ble_eq_true rfl) ?_
  refine Bod.go dc_160_9 rfl ?_
  refine Bod.get dc_160_10 fr_160_23 (mk_52 _) rfl ?_
  refine Bod.ic 0 (by decide) dc_160_13 ?_
  refine Bod.virt (r := []) dc_160_14 kr_160_133 ⟨Or.inr rfl, ow_132, cl_9⟩ (by rw [np_132]; rfl) (by rw [np_132]; rfl) (ob_of (mk_46 _)) (Nat.le_of_ble_eq_true rfl) (c2  ) ?_
  show Bod _ _ _ _ [_] _ _ _
  refine Bod.stat (r := []) dc_160_17 kr_160_137 (Or.inr rfl) (by rw [np_134]; rfl) (by rw [np_134]; rfl) (by rw [np_134]; exact Nat.le_of_ble_eq_true rfl) (Nat.le_of_ble_eq_true rfl) (c3  ) ?_
  show Bod _ _ _ _ [_] _ _ _
  refine Bod.ic 2 (by decide) dc_160_20 ?_
  refine Bod.icF dc_160_21 rfl (k2_ne_F (k_eq a 2 rfl rfl (by omega))) ?_
  refine Bod.go dc_160_24 rfl ?_
  refine Bod.ldc2 dc_160_25 cj_160_207 ?_
  refine Bod.go dc_160_28 rfl ?_
  refine Bod.ifT dc_160_29 rfl w6 ?_
  refine Bod.ic 0 (by decide) dc_160_44 ?_
  refine Bod.istn dc_160_45 (by rw [ml_160]; exact Nat.le_of_ble_eq_true rfl) ?_
  refine Bod.go dc_160_46 rfl ?_
  refine Bod.ifT dc_160_47 rfl (k1_eq_T (k_eq 0 0 rfl rfl (by omega))) ?_
  refine Bod.ic 2 (by decide) dc_160_55 ?_
  exact Bod.retI dc_160_56 rt_160
theorem mRa_3 {d : Nat} {S : cS} {S1 : cS} {u : Int64} {S2 : cS} {u1 : Int64} {S3 : cS} {a : Nat} (c1 : Ans (d + 8) 135 [.ref 46, .int (nI 0)] S (some (.long u)) S1) (c2 : Ans (d + 8) 132 [.ref 46, .int (nI 0)] S1 (some (.long u1)) S2) (ma : a < 2 ^ 20) (c3 : Ans (d + 8) 134 [.long u1] S2 (some (.int (nI a))) S3) (b1 : a = 2) (w6 : sm_c1 .lt (lg_cmp u ((10))) true false = false) (w7 : sm_c1 .gt (lg_cmp u ((99))) true false = true) : Bod (d + 8) 160 0 [(0, .ref 52)] [] S (some (.int (nI 2))) (S3) := by
  refine Bod.go dc_160_0 rfl ?_
  refine Bod.get dc_160_1 fr_160_23 (mk_52 _) rfl ?_
  refine Bod.ic 0 (by decide) dc_160_4 ?_
  refine Bod.virt (r := []) dc_160_5 kr_160_141 ⟨Or.inr rfl, ow_135, cl_9⟩ (by rw [np_135]; rfl) (by rw [np_135]; rfl) (ob_of (mk_46 _)) (Nat.le_of_ble_eq_true rfl) (c1  ) ?_
  show Bod _ _ _ _ [_] _ _ _
  refine Bod.lstn dc_160_8 (by rw [ml_160]; exact Nat.le_of_ble_eq_true rfl) ?_
  refine Bod.go dc_160_9 rfl ?_
  refine Bod.get dc_160_10 fr_160_23 (mk_52 _) rfl ?_
  refine Bod.ic 0 (by decide) dc_160_13 ?_
  refine Bod.virt (r := []) dc_160_14 kr_160_133 ⟨Or.inr rfl, ow_132, cl_9⟩ (by rw [np_132]; rfl) (by rw [np_132]; rfl) (ob_of (mk_46 _)) (Nat.le_of_ble_eq_true rfl) (c2  ) ?_
  show Bod _ _ _ _ [_] _ _ _
  refine Bod.stat (r := []) dc_160_17 kr_160_137 (Or.inr rfl) (by rw [np_134]; rfl) (by rw [np_134]; rfl) (by rw [np_134]; exact Nat.le_of_ble_eq_true rfl) (Nat.le_of_ble_eq_true rfl) (c3  ) ?_
  show Bod _ _ _ _ [_] _ _ _
  refine Bod.ic 2 (by decide) dc_160_20 ?_
  refine Bod.icF dc_160_21 rfl (k2_ne_F (k_eq a 2 rfl rfl (by omega))) ?_
  refine Bod.go dc_160_24 rfl ?_
  refine Bod.ldc2 dc_160_25 cj_160_207 ?_
  refine Bod.go dc_160_28 rfl ?_
  refine Bod.ifF dc_160_29 rfl w6 ?_
  refine Bod.go dc_160_32 rfl ?_
  refine Bod.ldc2 dc_160_33 cj_160_209 ?_
  refine Bod.go dc_160_36 rfl ?_
  refine Bod.ifT dc_160_37 rfl w7 ?_
  refine Bod.ic 0 (by decide) dc_160_44 ?_
  refine Bod.istn dc_160_45 (by rw [ml_160]; exact Nat.le_of_ble_eq_true rfl) ?_
  refine Bod.go dc_160_46 rfl ?_
  refine Bod.ifT dc_160_47 rfl (k1_eq_T (k_eq 0 0 rfl rfl (by omega))) ?_
  refine Bod.ic 2 (by decide) dc_160_55 ?_
  exact Bod.retI dc_160_56 rt_160
theorem mRa_4 {d : Nat} {S : cS} {S1 : cS} {u : Int64} {S2 : cS} {u1 : Int64} {S3 : cS} {a : Nat} (c1 : Ans (d + 8) 135 [.ref 46, .int (nI 0)] S (some (.long u)) S1) (c2 : Ans (d + 8) 132 [.ref 46, .int (nI 0)] S1 (some (.long u1)) S2) (ma : a < 2 ^ 20) (c3 : Ans (d + 8) 134 [.long u1] S2 (some (.int (nI a))) S3) (b1 : a = 2) (w6 : sm_c1 .lt (lg_cmp u ((10))) true false = false) (w7 : sm_c1 .gt (lg_cmp u ((99))) true false = false) : Bod (d + 8) 160 0 [(0, .ref 52)] [] S (some (.int u.toInt32)) (S3) := by
  refine Bod.go dc_160_0 rfl ?_
  refine Bod.get dc_160_1 fr_160_23 (mk_52 _) rfl ?_
  refine Bod.ic 0 (by decide) dc_160_4 ?_
  refine Bod.virt (r := []) dc_160_5 kr_160_141 ⟨Or.inr rfl, ow_135, cl_9⟩ (by rw [np_135]; rfl) (by rw [np_135]; rfl) (ob_of (mk_46 _)) (Nat.le_of_ble_eq_true rfl) (c1  ) ?_
  show Bod _ _ _ _ [_] _ _ _
  refine Bod.lstn dc_160_8 (by rw [ml_160]; exact Nat.le_of_ble_eq_true rfl) ?_
  refine Bod.go dc_160_9 rfl ?_
  refine Bod.get dc_160_10 fr_160_23 (mk_52 _) rfl ?_
  refine Bod.ic 0 (by decide) dc_160_13 ?_
  refine Bod.virt (r := []) dc_160_14 kr_160_133 ⟨Or.inr rfl, ow_132, cl_9⟩ (by rw [np_132]; rfl) (by rw [np_132]; rfl) (ob_of (mk_46 _)) (Nat.le_of_ble_eq_true rfl) (c2  ) ?_
  show Bod _ _ _ _ [_] _ _ _
  refine Bod.stat (r := []) dc_160_17 kr_160_137 (Or.inr rfl) (by rw [np_134]; rfl) (by rw [np_134]; rfl) (by rw [np_134]; exact Nat.le_of_ble_eq_true rfl) (Nat.le_of_ble_eq_true rfl) (c3  ) ?_
  show Bod _ _ _ _ [_] _ _ _
  refine Bod.ic 2 (by decide) dc_160_20 ?_
  refine Bod.icF dc_160_21 rfl (k2_ne_F (k_eq a 2 rfl rfl (by omega))) ?_
  refine Bod.go dc_160_24 rfl ?_
  refine Bod.ldc2 dc_160_25 cj_160_207 ?_
  refine Bod.go dc_160_28 rfl ?_
  refine Bod.ifF dc_160_29 rfl w6 ?_
  refine Bod.go dc_160_32 rfl ?_
  refine Bod.ldc2 dc_160_33 cj_160_209 ?_
  refine Bod.go dc_160_36 rfl ?_
  refine Bod.ifF dc_160_37 rfl w7 ?_
  refine Bod.ic 1 (by decide) dc_160_40 ?_
  refine Bod.go dc_160_41 rfl ?_
  refine Bod.istn dc_160_45 (by rw [ml_160]; exact Nat.le_of_ble_eq_true rfl) ?_
  refine Bod.go dc_160_46 rfl ?_
  refine Bod.ifF dc_160_47 rfl (k1_eq_F (k_ne 1 0 rfl rfl (by omega) (by omega) (by omega))) ?_
  refine Bod.go dc_160_50 rfl ?_
  refine Bod.go dc_160_51 rfl ?_
  refine Bod.go dc_160_52 rfl ?_
  exact Bod.retI dc_160_56 rt_160
theorem mCg_1 {d : Nat} {S : cS} {er : Nat} (mer : er < 2 ^ 20) (b1 : er = 100) : Bod (d + 8) 266 0 [(0, .ref 52), (1, .int (nI er))] [] S (some (.int 0)) (S) := by
  refine Bod.go dc_266_0 rfl ?_
  refine Bod.bip 100 (by decide) dc_266_1 ?_
  refine Bod.icT dc_266_3 rfl (k2_eq_T (k_eq er 100 rfl rfl (by omega))) ?_
  refine Bod.ic 0 (by decide) dc_266_23 ?_
  exact Bod.retZ dc_266_24 rt_266 (Or.inl rfl)
theorem mCg_2 {d : Nat} {S : cS} {er : Nat} {tr : Nat} (mer : er < 2 ^ 20) (b1 : er ≠ 100) (htr : sI S 5214 = nI tr) (mtr : tr < 341) (b2 : tr ≤ 0) : Bod (d + 8) 266 0 [(0, .ref 52), (1, .int (nI er))] [] S (some (.int 0)) (S) := by
  refine Bod.go dc_266_0 rfl ?_
  refine Bod.bip 100 (by decide) dc_266_1 ?_
  refine Bod.icF dc_266_3 rfl (k2_eq_F (k_ne er 100 rfl rfl (by omega) (by omega) (by omega))) ?_
  refine Bod.go dc_266_6 rfl ?_
  refine Bod.get dc_266_7 fr_266_75 (mk_52 _) rfl ?_
  refine Bod.eqI (nI tr) (by first | assumption | rfl | exact congrArg nI (by omega) | (simp (disch := omega) only [rI, rIe, rA, rIA, rLA, rJA, rVI, rQI, rVA, rQA, upd_at,  rAI, rLI, rJI, nI_add, pk_sub, kc_0, kc_1, kc_2, kc_3, kc_4, kc_5, reduceIte, Nat.reduceEqDiff, Nat.add_zero, rI_hold, rI_hold, rL_hold, htr]; done)) ?_
  refine Bod.ifT dc_266_10 rfl (k1_le_T (k_eq tr 0 (by first | assumption | rfl | exact congrArg nI (by omega) | (simp (disch := omega) only [rI, rIe, rA, rIA, rLA, rJA, rVI, rQI, rVA, rQA, upd_at,  rAI, rLI, rJI, nI_add, pk_sub, kc_0, kc_1, kc_2, kc_3, kc_4, kc_5, reduceIte, Nat.reduceEqDiff, Nat.add_zero, rI_hold, rI_hold, rL_hold, htr]; done)) rfl (by omega))) ?_
  refine Bod.ic 0 (by decide) dc_266_23 ?_
  exact Bod.retZ dc_266_24 rt_266 (Or.inl rfl)
theorem mCg_3 {d : Nat} {S : cS} {er : Nat} {tr : Nat} {S1 : cS} {t : Nat} {tr1 : Nat} {S2 : cS} {S3 : cS} (mer : er < 2 ^ 20) (b1 : er ≠ 100) (htr : sI S 5214 = nI tr) (mtr : tr < 341) (b2 : 0 < tr) (b3 : tr ≤ 341) (b4 : 1 ≤ tr) (c1 : Ans (d + 8) 267 [.ref 52, .int (sA (wI 5216 (sA (wI 5214 (nI (tr - 1)) S) 60 (3 * tr - 3)) (wI 5214 (nI (tr - 1)) S)) 60 (3 * tr - 1))] (wI 5216 (sA (wI 5214 (nI (tr - 1)) S) 60 (3 * tr - 3)) (wI 5214 (nI (tr - 1)) S)) none S1) (ht : sI S1 4603 = nI t) (mt : t < 20481) (htr1 : sI S1 5214 = nI tr1) (mtr1 : tr1 < 341) (c2 : Ans (d + 8) 141 [.ref 46, .int ((nI t) - (sA S1 60 (3 * tr1 + 1)))] S1 none S2) (c3 : Ans (d + 8) 153 [.ref 46, .long ((2305843009213693952)), .long ((nI er).toInt64)] S2 none S3) : Bod (d + 8) 266 0 [(0, .ref 52), (1, .int (nI er))] [] S (some (.int 1)) (S3) := by
  refine Bod.go dc_266_0 rfl ?_
  refine Bod.bip 100 (by decide) dc_266_1 ?_
  refine Bod.icF dc_266_3 rfl (k2_eq_F (k_ne er 100 rfl rfl (by omega) (by omega) (by omega))) ?_
  refine Bod.go dc_266_6 rfl ?_
  refine Bod.get dc_266_7 fr_266_75 (mk_52 _) rfl ?_
  refine Bod.eqI (nI tr) (by first | assumption | rfl | exact congrArg nI (by omega) | (simp (disch := omega) only [rI, rIe, rA, rIA, rLA, rJA, rVI, rQI, rVA, rQA, upd_at,  rAI, rLI, rJI, nI_add, pk_sub, kc_0, kc_1, kc_2, kc_3, kc_4, kc_5, reduceIte, Nat.reduceEqDiff, Nat.add_zero, rI_hold, rI_hold, rL_hold, htr]; done)) ?_
  refine Bod.ifF dc_266_10 rfl (k1_le_F tr rfl (by omega) (by omega)) ?_
  refine Bod.go dc_266_13 rfl ?_
  refine Bod.get dc_266_14 fr_266_75 (mk_52 _) rfl ?_
  refine Bod.eqI (nI tr) (by first | assumption | rfl | exact congrArg nI (by omega) | (simp (disch := omega) only [rI, rIe, rA, rIA, rLA, rJA, rVI, rQI, rVA, rQA, upd_at,  rAI, rLI, rJI, nI_add, pk_sub, kc_0, kc_1, kc_2, kc_3, kc_4, kc_5, reduceIte, Nat.reduceEqDiff, Nat.add_zero, rI_hold, rI_hold, rL_hold, htr]; done)) ?_
  refine Bod.sip 341 (by decide) dc_266_17 ?_
  refine Bod.icT dc_266_20 rfl (k2_le_T tr 341 rfl rfl (by omega) (by omega)) ?_
  refine Bod.go dc_266_25 rfl ?_
  refine Bod.go dc_266_26 rfl ?_
  refine Bod.get dc_266_27 fr_266_75 (mk_52 _) rfl ?_
  refine Bod.eqI (nI tr) (by first | assumption | rfl | exact congrArg nI (by omega) | (simp (disch := omega) only [rI, rIe, rA, rIA, rLA, rJA, rVI, rQI, rVA, rQA, upd_at,  rAI, rLI, rJI, nI_add, pk_sub, kc_0, kc_1, kc_2, kc_3, kc_4, kc_5, reduceIte, Nat.reduceEqDiff, Nat.add_zero, rI_hold, rI_hold, rL_hold, htr]; done)) ?_
  refine Bod.ic 1 (by decide) dc_266_30 ?_
  refine Bod.subN (tr - 1) (by omega) (by omega) dc_266_31 ?_
  refine Bod.put dc_266_32 fr_266_75 (mk_52 _) (Nat.le_of_ble_eq_true rfl) pf_4_14 (st_5214 _ _) (mu_I _ _ _) ?_
  refine Bod.go dc_266_35 rfl ?_
  refine Bod.go dc_266_36 rfl ?_
  refine Bod.get dc_266_37 fr_266_59 (mk_52 _) rfl ?_
  refine Bod.ic 3 (by decide) dc_266_40 ?_
  refine Bod.go dc_266_41 rfl ?_
  refine Bod.get dc_266_42 fr_266_75 (mk_52 _) rfl ?_
  refine Bod.eqI (nI (tr - 1)) (by first | (simp (disch := omega) only [rI, rIe, rA, rIA, rLA, rJA, rVI, rQI, rVA, rQA, upd_at,  rAI, rLI, rJI, nI_add, pk_sub, kc_0, kc_1, kc_2, kc_3, kc_4, kc_5, reduceIte, Nat.reduceEqDiff, Nat.add_zero, rI_hold, rI_hold, rL_hold, htr]; done) | (simp (disch := omega) only [rI, rIe, rA, rIA, rLA, rJA, rVI, rQI, rVA, rQA, upd_at,  rAI, rLI, rJI, nI_add, pk_sub, kc_0, kc_1, kc_2, kc_3, kc_4, kc_5, reduceIte, Nat.reduceEqDiff, Nat.add_zero, rI_hold, rI_hold, rL_hold, htr]; exact congrArg nI (by omega))) ?_
  refine Bod.mulN (3 * tr - 3) (by omega) dc_266_45 ?_
  refine Bod.ialdN (3 * tr - 3) rfl (by omega) (by omega) dc_266_46 (mk_60 _) ?_
  refine Bod.put dc_266_47 fr_266_69 (mk_52 _) (Nat.le_of_ble_eq_true rfl) pf_4_16 (st_5216 _ _) (mu_I _ _ _) ?_
  refine Bod.go dc_266_50 rfl ?_
  refine Bod.go dc_266_51 rfl ?_
  refine Bod.get dc_266_52 fr_266_59 (mk_52 _) rfl ?_
  refine Bod.ic 3 (by decide) dc_266_55 ?_
  refine Bod.go dc_266_56 rfl ?_
  refine Bod.get dc_266_57 fr_266_75 (mk_52 _) rfl ?_
  refine Bod.eqI (nI (tr - 1)) (by first | (simp (disch := omega) only [rI, rIe, rA, rIA, rLA, rJA, rVI, rQI, rVA, rQA, upd_at,  rAI, rLI, rJI, nI_add, pk_sub, kc_0, kc_1, kc_2, kc_3, kc_4, kc_5, reduceIte, Nat.reduceEqDiff, Nat.add_zero, rI_hold, rI_hold, rL_hold, htr]; done) | (simp (disch := omega) only [rI, rIe, rA, rIA, rLA, rJA, rVI, rQI, rVA, rQA, upd_at,  rAI, rLI, rJI, nI_add, pk_sub, kc_0, kc_1, kc_2, kc_3, kc_4, kc_5, reduceIte, Nat.reduceEqDiff, Nat.add_zero, rI_hold, rI_hold, rL_hold, htr]; exact congrArg nI (by omega))) ?_
  refine Bod.mulN (3 * tr - 3) (by omega) dc_266_60 ?_
  refine Bod.ic 2 (by decide) dc_266_61 ?_
  refine Bod.addN (3 * tr - 1) (by omega) dc_266_62 ?_
  refine Bod.ialdN (3 * tr - 1) rfl (by omega) (by omega) dc_266_63 (mk_60 _) ?_
  refine Bod.virt (r := []) dc_266_64 kr_266_118 ⟨Or.inl rfl, ow_267, cl_4⟩ (by rw [np_267]; rfl) (by rw [np_267]; rfl) (ob_of (mk_52 _)) (Nat.le_of_ble_eq_true rfl) (c1  ) ?_
  show Bod _ _ _ _ [] _ _ _
  refine Bod.go dc_266_67 rfl ?_
  refine Bod.get dc_266_68 fr_266_23 (mk_52 _) rfl ?_
  refine Bod.go dc_266_71 rfl ?_
  refine Bod.get dc_266_72 fr_266_23 (mk_52 _) rfl ?_
  refine Bod.get dc_266_75 fr_266_122 (mk_46 _) rfl ?_
  refine Bod.eqI (nI t) (by first | (simp (disch := omega) only [rI, rIe, rA, rIA, rLA, rJA, rVI, rQI, rVA, rQA, upd_at,  rAI, rLI, rJI, nI_add, pk_sub, kc_0, kc_1, kc_2, kc_3, kc_4, kc_5, reduceIte, Nat.reduceEqDiff, Nat.add_zero, rI_hold, rI_hold, rL_hold, htr, ht]; done) | (simp (disch := omega) only [rI, rIe, rA, rIA, rLA, rJA, rVI, rQI, rVA, rQA, upd_at,  rAI, rLI, rJI, nI_add, pk_sub, kc_0, kc_1, kc_2, kc_3, kc_4, kc_5, reduceIte, Nat.reduceEqDiff, Nat.add_zero, rI_hold, rI_hold, rL_hold, htr, ht]; exact congrArg nI (by omega))) ?_
  refine Bod.go dc_266_78 rfl ?_
  refine Bod.get dc_266_79 fr_266_59 (mk_52 _) rfl ?_
  refine Bod.ic 3 (by decide) dc_266_82 ?_
  refine Bod.go dc_266_83 rfl ?_
  refine Bod.get dc_266_84 fr_266_75 (mk_52 _) rfl ?_
  refine Bod.eqI (nI tr1) (by first | (simp (disch := omega) only [rI, rIe, rA, rIA, rLA, rJA, rVI, rQI, rVA, rQA, upd_at,  rAI, rLI, rJI, nI_add, pk_sub, kc_0, kc_1, kc_2, kc_3, kc_4, kc_5, reduceIte, Nat.reduceEqDiff, Nat.add_zero, rI_hold, rI_hold, rL_hold, htr, ht, htr1]; done) | (simp (disch := omega) only [rI, rIe, rA, rIA, rLA, rJA, rVI, rQI, rVA, rQA, upd_at,  rAI, rLI, rJI, nI_add, pk_sub, kc_0, kc_1, kc_2, kc_3, kc_4, kc_5, reduceIte, Nat.reduceEqDiff, Nat.add_zero, rI_hold, rI_hold, rL_hold, htr, ht, htr1]; exact congrArg nI (by omega))) ?_
  refine Bod.mulN (3 * tr1) (by omega) dc_266_87 ?_
  refine Bod.ic 1 (by decide) dc_266_88 ?_
  refine Bod.addN (3 * tr1 + 1) (by omega) dc_266_89 ?_
  refine Bod.ialdN (3 * tr1 + 1) rfl (by omega) (by omega) dc_266_90 (mk_60 _) ?_
  refine Bod.go dc_266_91 rfl ?_
  refine Bod.virt (r := []) dc_266_92 kr_266_127 ⟨Or.inr rfl, ow_141, cl_9⟩ (by rw [np_141]; rfl) (by rw [np_141]; rfl) (ob_of (mk_46 _)) (Nat.le_of_ble_eq_true rfl) (c2  ) ?_
  show Bod _ _ _ _ [] _ _ _
  refine Bod.go dc_266_95 rfl ?_
  refine Bod.get dc_266_96 fr_266_23 (mk_52 _) rfl ?_
  refine Bod.ldc2 dc_266_99 cj_266_144 ?_
  refine Bod.go dc_266_102 rfl ?_
  refine Bod.go dc_266_103 rfl ?_
  refine Bod.virt (r := []) dc_266_104 kr_266_146 ⟨Or.inr rfl, ow_153, cl_9⟩ (by rw [np_153]; rfl) (by rw [np_153]; rfl) (ob_of (mk_46 _)) (Nat.le_of_ble_eq_true rfl) (c3  ) ?_
  show Bod _ _ _ _ [] _ _ _
  refine Bod.ic 1 (by decide) dc_266_107 ?_
  exact Bod.retZ dc_266_108 rt_266 (Or.inr rfl)
theorem mCg_4 {d : Nat} {S : cS} {er : Nat} {tr : Nat} (mer : er < 2 ^ 20) (b1 : er ≠ 100) (htr : sI S 5214 = nI tr) (mtr : tr < 341) (b2 : 0 < tr) (b3 : 341 < tr) : Bod (d + 8) 266 0 [(0, .ref 52), (1, .int (nI er))] [] S (some (.int 0)) (S) := by
  refine Bod.go dc_266_0 rfl ?_
  refine Bod.bip 100 (by decide) dc_266_1 ?_
  refine Bod.icF dc_266_3 rfl (k2_eq_F (k_ne er 100 rfl rfl (by omega) (by omega) (by omega))) ?_
  refine Bod.go dc_266_6 rfl ?_
  refine Bod.get dc_266_7 fr_266_75 (mk_52 _) rfl ?_
  refine Bod.eqI (nI tr) (by first | assumption | rfl | exact congrArg nI (by omega) | (simp (disch := omega) only [rI, rIe, rA, rIA, rLA, rJA, rVI, rQI, rVA, rQA, upd_at,  rAI, rLI, rJI, nI_add, pk_sub, kc_0, kc_1, kc_2, kc_3, kc_4, kc_5, reduceIte, Nat.reduceEqDiff, Nat.add_zero, rI_hold, rI_hold, rL_hold, htr]; done)) ?_
  refine Bod.ifF dc_266_10 rfl (k1_le_F tr rfl (by omega) (by omega)) ?_
  refine Bod.go dc_266_13 rfl ?_
  refine Bod.get dc_266_14 fr_266_75 (mk_52 _) rfl ?_
  refine Bod.eqI (nI tr) (by first | assumption | rfl | exact congrArg nI (by omega) | (simp (disch := omega) only [rI, rIe, rA, rIA, rLA, rJA, rVI, rQI, rVA, rQA, upd_at,  rAI, rLI, rJI, nI_add, pk_sub, kc_0, kc_1, kc_2, kc_3, kc_4, kc_5, reduceIte, Nat.reduceEqDiff, Nat.add_zero, rI_hold, rI_hold, rL_hold, htr]; done)) ?_
  refine Bod.sip 341 (by decide) dc_266_17 ?_
  refine Bod.icF dc_266_20 rfl (k2_le_F tr 341 rfl rfl (by omega) (by omega)) ?_
  refine Bod.ic 0 (by decide) dc_266_23 ?_
  exact Bod.retZ dc_266_24 rt_266 (Or.inl rfl)
theorem xsw_161_1 : ∀ b, b < 64 → (b = 16 ∨ b = 17 ∨ b = 18 ∨ b = 19 ∨ b = 20 ∨ b = 21 ∨ b = 22 ∨ b = 23 ∨ b = 24 ∨ sm_br (.tableswitch (125) 16 24 #[51, 60, 70, 83, 88, 93, 98, 107, 112]) 51 1 [.int (nI b)] = some (126, [])) := by decide +kernel
theorem mNm_1 {d : Nat} {S : cS} {op : Nat} {S1 : cS} {rb : Int32} {S2 : cS} {a : Nat} (mop : op < 2 ^ 20) (sw2 : op = 16) (c1 : Ans (d + 8) 127 [.ref 52] S (some (.int rb)) S1) (ma : a < 2 ^ 20) (c2 : Ans (d + 8) 162 [.ref 52, .int rb] S1 (some (.int (nI a))) S2) : Bod (d + 8) 161 0 [(0, .ref 52), (1, .int (nI op))] [] S (some (.int (nI a))) (S2) := by
  refine Bod.go dc_161_0 rfl ?_
  refine Bod.sw (t := 52) dc_161_1 rfl rfl (by rw [sw2]; decide +kernel) ?_
  refine Bod.go dc_161_52 rfl ?_
  refine Bod.go dc_161_53 rfl ?_
  refine Bod.virt (r := [_]) dc_161_54 kr_161_82 ⟨Or.inl rfl, ow_127, cl_4⟩ (by rw [np_127]; rfl) (by rw [np_127]; rfl) (ob_of (mk_52 _)) (Nat.le_of_ble_eq_true rfl) (c1  ) ?_
  show Bod _ _ _ _ [_, _] _ _ _
  refine Bod.virt (r := []) dc_161_57 kr_161_211 ⟨Or.inl rfl, ow_162, cl_4⟩ (by rw [np_162]; rfl) (by rw [np_162]; rfl) (ob_of (mk_52 _)) (Nat.le_of_ble_eq_true rfl) (c2  ) ?_
  show Bod _ _ _ _ [_] _ _ _
  exact Bod.retI dc_161_60 rt_161
theorem mNm_2 {d : Nat} {S : cS} {op : Nat} {S1 : cS} (mop : op < 2 ^ 20) (sw2 : op = 17) (c1 : Ans (d + 8) 141 [.ref 46, .int (nI 1)] S none S1) : Bod (d + 8) 161 0 [(0, .ref 52), (1, .int (nI op))] [] S (some (.int (nI 0))) (S1) := by
  refine Bod.go dc_161_0 rfl ?_
  refine Bod.sw (t := 61) dc_161_1 rfl rfl (by rw [sw2]; decide +kernel) ?_
  refine Bod.go dc_161_61 rfl ?_
  refine Bod.get dc_161_62 fr_161_23 (mk_52 _) rfl ?_
  refine Bod.ic 1 (by decide) dc_161_65 ?_
  refine Bod.virt (r := []) dc_161_66 kr_161_127 ⟨Or.inr rfl, ow_141, cl_9⟩ (by rw [np_141]; rfl) (by rw [np_141]; rfl) (ob_of (mk_46 _)) (Nat.le_of_ble_eq_true rfl) (c1  ) ?_
  show Bod _ _ _ _ [] _ _ _
  refine Bod.ic 0 (by decide) dc_161_69 ?_
  exact Bod.retI dc_161_70 rt_161
theorem mNm_3 {d : Nat} {S : cS} {op : Nat} {S1 : cS} (mop : op < 2 ^ 20) (sw2 : op = 18) (c1 : Ans (d + 8) 166 [.ref 52] S (some (.int (nI 1))) S1) : Bod (d + 8) 161 0 [(0, .ref 52), (1, .int (nI op))] [] S (some (.int (nI 0))) (S1) := by
  refine Bod.go dc_161_0 rfl ?_
  refine Bod.sw (t := 71) dc_161_1 rfl rfl (by rw [sw2]; decide +kernel) ?_
  refine Bod.go dc_161_71 rfl ?_
  refine Bod.virt (r := []) dc_161_72 kr_161_214 ⟨Or.inl rfl, ow_166, cl_4⟩ (by rw [np_166]; rfl) (by rw [np_166]; rfl) (ob_of (mk_52 _)) (Nat.le_of_ble_eq_true rfl) (c1  ) ?_
  show Bod _ _ _ _ [_] _ _ _
  refine Bod.ifF dc_161_75 rfl (k1_eq_F (k_ne 1 0 rfl rfl (by omega) (by omega) (by omega))) ?_
  refine Bod.ic 0 (by decide) dc_161_78 ?_
  refine Bod.go dc_161_79 rfl ?_
  exact Bod.retI dc_161_83 rt_161
theorem mNm_4 {d : Nat} {S : cS} {op : Nat} {S1 : cS} (mop : op < 2 ^ 20) (sw2 : op = 18) (c1 : Ans (d + 8) 166 [.ref 52] S (some (.int (nI 0))) S1) : Bod (d + 8) 161 0 [(0, .ref 52), (1, .int (nI op))] [] S (some (.int (nI 1))) (S1) := by
  refine Bod.go dc_161_0 rfl ?_
  refine Bod.sw (t := 71) dc_161_1 rfl rfl (by rw [sw2]; decide +kernel) ?_
  refine Bod.go dc_161_71 rfl ?_
  refine Bod.virt (r := []) dc_161_72 kr_161_214 ⟨Or.inl rfl, ow_166, cl_4⟩ (by rw [np_166]; rfl) (by rw [np_166]; rfl) (ob_of (mk_52 _)) (Nat.le_of_ble_eq_true rfl) (c1  ) ?_
  show Bod _ _ _ _ [_] _ _ _
  refine Bod.ifT dc_161_75 rfl (k1_eq_T (k_eq 0 0 rfl rfl (by omega))) ?_
  refine Bod.ic 1 (by decide) dc_161_82 ?_
  exact Bod.retI dc_161_83 rt_161
theorem mNm_5 {d : Nat} {S : cS} {op : Nat} {S1 : cS} {rb : Int32} (mop : op < 2 ^ 20) (sw2 : op = 19) (c1 : Ans (d + 8) 172 [.ref 52] S (some (.int rb)) S1) : Bod (d + 8) 161 0 [(0, .ref 52), (1, .int (nI op))] [] S (some (.int rb)) (S1) := by
  refine Bod.go dc_161_0 rfl ?_
  refine Bod.sw (t := 84) dc_161_1 rfl rfl (by rw [sw2]; decide +kernel) ?_
  refine Bod.go dc_161_84 rfl ?_
  refine Bod.virt (r := []) dc_161_85 kr_161_217 ⟨Or.inl rfl, ow_172, cl_4⟩ (by rw [np_172]; rfl) (by rw [np_172]; rfl) (ob_of (mk_52 _)) (Nat.le_of_ble_eq_true rfl) (c1  ) ?_
  show Bod _ _ _ _ [_] _ _ _
  exact Bod.retI dc_161_88 rt_161
theorem mNm_6 {d : Nat} {S : cS} {op : Nat} {S1 : cS} {a : Nat} (mop : op < 2 ^ 20) (sw2 : op = 20) (ma : a < 2 ^ 20) (c1 : Ans (d + 8) 175 [.ref 52] S (some (.int (nI a))) S1) : Bod (d + 8) 161 0 [(0, .ref 52), (1, .int (nI op))] [] S (some (.int (nI a))) (S1) := by
  refine Bod.go dc_161_0 rfl ?_
  refine Bod.sw (t := 89) dc_161_1 rfl rfl (by rw [sw2]; decide +kernel) ?_
  refine Bod.go dc_161_89 rfl ?_
  refine Bod.virt (r := []) dc_161_90 kr_161_220 ⟨Or.inl rfl, ow_175, cl_4⟩ (by rw [np_175]; rfl) (by rw [np_175]; rfl) (ob_of (mk_52 _)) (Nat.le_of_ble_eq_true rfl) (c1  ) ?_
  show Bod _ _ _ _ [_] _ _ _
  exact Bod.retI dc_161_93 rt_161
theorem mNm_7 {d : Nat} {S : cS} {op : Nat} {S1 : cS} {a : Nat} (mop : op < 2 ^ 20) (sw2 : op = 21) (ma : a < 2 ^ 20) (c1 : Ans (d + 8) 176 [.ref 52] S (some (.int (nI a))) S1) : Bod (d + 8) 161 0 [(0, .ref 52), (1, .int (nI op))] [] S (some (.int (nI a))) (S1) := by
  refine Bod.go dc_161_0 rfl ?_
  refine Bod.sw (t := 94) dc_161_1 rfl rfl (by rw [sw2]; decide +kernel) ?_
  refine Bod.go dc_161_94 rfl ?_
  refine Bod.virt (r := []) dc_161_95 kr_161_223 ⟨Or.inl rfl, ow_176, cl_4⟩ (by rw [np_176]; rfl) (by rw [np_176]; rfl) (ob_of (mk_52 _)) (Nat.le_of_ble_eq_true rfl) (c1  ) ?_
  show Bod _ _ _ _ [_] _ _ _
  exact Bod.retI dc_161_98 rt_161
theorem mNm_8 {d : Nat} {S : cS} {op : Nat} {S1 : cS} {rb : Int32} {S2 : cS} {a : Nat} (mop : op < 2 ^ 20) (sw2 : op = 22) (c1 : Ans (d + 8) 127 [.ref 52] S (some (.int rb)) S1) (ma : a < 2 ^ 20) (c2 : Ans (d + 8) 177 [.ref 52, .int rb] S1 (some (.int (nI a))) S2) : Bod (d + 8) 161 0 [(0, .ref 52), (1, .int (nI op))] [] S (some (.int (nI a))) (S2) := by
  refine Bod.go dc_161_0 rfl ?_
  refine Bod.sw (t := 99) dc_161_1 rfl rfl (by rw [sw2]; decide +kernel) ?_
  refine Bod.go dc_161_99 rfl ?_
  refine Bod.go dc_161_100 rfl ?_
  refine Bod.virt (r := [_]) dc_161_101 kr_161_82 ⟨Or.inl rfl, ow_127, cl_4⟩ (by rw [np_127]; rfl) (by rw [np_127]; rfl) (ob_of (mk_52 _)) (Nat.le_of_ble_eq_true rfl) (c1  ) ?_
  show Bod _ _ _ _ [_, _] _ _ _
  refine Bod.virt (r := []) dc_161_104 kr_161_226 ⟨Or.inl rfl, ow_177, cl_4⟩ (by rw [np_177]; rfl) (by rw [np_177]; rfl) (ob_of (mk_52 _)) (Nat.le_of_ble_eq_true rfl) (c2  ) ?_
  show Bod _ _ _ _ [_] _ _ _
  exact Bod.retI dc_161_107 rt_161
theorem mNm_9 {d : Nat} {S : cS} {op : Nat} {S1 : cS} {a : Nat} (mop : op < 2 ^ 20) (sw2 : op = 23) (ma : a < 2 ^ 20) (c1 : Ans (d + 8) 180 [.ref 52] S (some (.int (nI a))) S1) : Bod (d + 8) 161 0 [(0, .ref 52), (1, .int (nI op))] [] S (some (.int (nI a))) (S1) := by
  refine Bod.go dc_161_0 rfl ?_
  refine Bod.sw (t := 108) dc_161_1 rfl rfl (by rw [sw2]; decide +kernel) ?_
  refine Bod.go dc_161_108 rfl ?_
  refine Bod.virt (r := []) dc_161_109 kr_161_229 ⟨Or.inl rfl, ow_180, cl_4⟩ (by rw [np_180]; rfl) (by rw [np_180]; rfl) (ob_of (mk_52 _)) (Nat.le_of_ble_eq_true rfl) (c1  ) ?_
  show Bod _ _ _ _ [_] _ _ _
  exact Bod.retI dc_161_112 rt_161
theorem mNm_10 {d : Nat} {S : cS} {op : Nat} {S1 : cS} {rb : Int32} {S2 : cS} (mop : op < 2 ^ 20) (sw2 : op = 24) (c1 : Ans (d + 8) 127 [.ref 52] S (some (.int rb)) S1) (c2 : Ans (d + 8) 188 [.ref 46, .int rb] S1 none S2) : Bod (d + 8) 161 0 [(0, .ref 52), (1, .int (nI op))] [] S (some (.int (nI 0))) (S2) := by
  refine Bod.go dc_161_0 rfl ?_
  refine Bod.sw (t := 113) dc_161_1 rfl rfl (by rw [sw2]; decide +kernel) ?_
  refine Bod.go dc_161_113 rfl ?_
  refine Bod.get dc_161_114 fr_161_23 (mk_52 _) rfl ?_
  refine Bod.go dc_161_117 rfl ?_
  refine Bod.virt (r := [_]) dc_161_118 kr_161_82 ⟨Or.inl rfl, ow_127, cl_4⟩ (by rw [np_127]; rfl) (by rw [np_127]; rfl) (ob_of (mk_52 _)) (Nat.le_of_ble_eq_true rfl) (c1  ) ?_
  show Bod _ _ _ _ [_, _] _ _ _
  refine Bod.virt (r := []) dc_161_121 kr_161_232 ⟨Or.inr rfl, ow_188, cl_9⟩ (by rw [np_188]; rfl) (by rw [np_188]; rfl) (ob_of (mk_46 _)) (Nat.le_of_ble_eq_true rfl) (c2  ) ?_
  show Bod _ _ _ _ [] _ _ _
  refine Bod.ic 0 (by decide) dc_161_124 ?_
  exact Bod.retI dc_161_125 rt_161
theorem mNm_11 {d : Nat} {S : cS} {op : Nat} (mop : op < 2 ^ 20) (b64 : op < 64) (n16 : op ≠ 16) (n17 : op ≠ 17) (n18 : op ≠ 18) (n19 : op ≠ 19) (n20 : op ≠ 20) (n21 : op ≠ 21) (n22 : op ≠ 22) (n23 : op ≠ 23) (n24 : op ≠ 24) : Bod (d + 8) 161 0 [(0, .ref 52), (1, .int (nI op))] [] S (some (.int (nI 0))) (S) := by
  refine Bod.go dc_161_0 rfl ?_
  refine Bod.sw (t := 126) dc_161_1 rfl rfl (((((((((((xsw_161_1 op b64).resolve_left n16).resolve_left n17).resolve_left n18).resolve_left n19).resolve_left n20).resolve_left n21).resolve_left n22).resolve_left n23).resolve_left n24)) ?_
  refine Bod.ic 0 (by decide) dc_161_126 ?_
  exact Bod.retI dc_161_127 rt_161
theorem mCo_1 {d : Nat} {S : cS} {nm : Int32} {S1 : cS} {u : Int64} {S2 : cS} {u1 : Int64} {S3 : cS} (c1 : Ans (d + 8) 163 [.ref 23, .int nm] S (some (.long u)) S1) (c2 : Ans (d + 8) 165 [.ref 23, .int nm] S1 (some (.long u1)) S2) (c3 : Ans (d + 8) 153 [.ref 46, .long u, .long u1] S2 none S3) : Bod (d + 8) 162 0 [(0, .ref 52), (1, .int nm)] [] S (some (.int (nI 0))) (S3) := by
  refine Bod.go dc_162_0 rfl ?_
  refine Bod.get dc_162_1 fr_162_23 (mk_52 _) rfl ?_
  refine Bod.go dc_162_4 rfl ?_
  refine Bod.get dc_162_5 fr_162_11 (mk_52 _) rfl ?_
  refine Bod.go dc_162_8 rfl ?_
  refine Bod.virt (r := [_]) dc_162_9 kr_162_235 ⟨Or.inr rfl, ow_163, cl_7⟩ (by rw [np_163]; rfl) (by rw [np_163]; rfl) (ob_of (mk_23 _)) (Nat.le_of_ble_eq_true rfl) (c1  ) ?_
  show Bod _ _ _ _ [_, _] _ _ _
  refine Bod.go dc_162_12 rfl ?_
  refine Bod.get dc_162_13 fr_162_11 (mk_52 _) rfl ?_
  refine Bod.go dc_162_16 rfl ?_
  refine Bod.virt (r := [_, _]) dc_162_17 kr_162_238 ⟨Or.inr rfl, ow_165, cl_7⟩ (by rw [np_165]; rfl) (by rw [np_165]; rfl) (ob_of (mk_23 _)) (Nat.le_of_ble_eq_true rfl) (c2  ) ?_
  show Bod _ _ _ _ [_, _, _] _ _ _
  refine Bod.virt (r := []) dc_162_20 kr_162_146 ⟨Or.inr rfl, ow_153, cl_9⟩ (by rw [np_153]; rfl) (by rw [np_153]; rfl) (ob_of (mk_46 _)) (Nat.le_of_ble_eq_true rfl) (c3  ) ?_
  show Bod _ _ _ _ [] _ _ _
  refine Bod.ic 0 (by decide) dc_162_23 ?_
  exact Bod.retI dc_162_24 rt_162
theorem mLd_1 {d : Nat} {S : cS} {S1 : cS} {rb : Int32} {S2 : cS} {rb1 : Int32} {S3 : cS} {rb2 : Int32} {S4 : cS} {u : Int64} {S5 : cS} {u1 : Int64} {S6 : cS} {a : Nat} {S7 : cS} (c1 : Ans (d + 8) 127 [.ref 52] S (some (.int rb)) S1) (c2 : Ans (d + 8) 127 [.ref 52] S1 (some (.int rb1)) S2) (c3 : Ans (d + 8) 167 [.ref 52, .int rb] S2 (some (.int rb2)) S3) (w4 : sm_c1 .ge rb true false = true) (c4 : Ans (d + 8) 156 [.ref 2, .int rb2, .int rb1] S3 (some (.long u)) S4) (c5 : Ans (d + 8) 158 [.ref 2, .int rb2, .int rb1] S4 (some (.long u1)) S5) (ma : a < 2 ^ 20) (c6 : Ans (d + 8) 134 [.long u] S5 (some (.int (nI a))) S6) (b1 : a ≠ 0) (c7 : Ans (d + 8) 153 [.ref 46, .long u, .long u1] S6 none S7) : Bod (d + 8) 166 0 [(0, .ref 52)] [] S (some (.int 1)) (S7) := by
  refine Bod.go dc_166_0 rfl ?_
  refine Bod.virt (r := []) dc_166_1 kr_166_82 ⟨Or.inl rfl, ow_127, cl_4⟩ (by rw [np_127]; rfl) (by rw [np_127]; rfl) (ob_of (mk_52 _)) (Nat.le_of_ble_eq_true rfl) (c1  ) ?_
  show Bod _ _ _ _ [_] _ _ _
  refine Bod.istn dc_166_4 (by rw [ml_166]; exact Nat.le_of_ble_eq_true rfl) ?_
  refine Bod.go dc_166_5 rfl ?_
  refine Bod.virt (r := []) dc_166_6 kr_166_82 ⟨Or.inl rfl, ow_127, cl_4⟩ (by rw [np_127]; rfl) (by rw [np_127]; rfl) (ob_of (mk_52 _)) (Nat.le_of_ble_eq_true rfl) (c2  ) ?_
  show Bod _ _ _ _ [_] _ _ _
  refine Bod.istn dc_166_9 (by rw [ml_166]; exact Nat.le_of_ble_eq_true rfl) ?_
  refine Bod.go dc_166_10 rfl ?_
  refine Bod.go dc_166_11 rfl ?_
  refine Bod.virt (r := []) dc_166_12 kr_166_244 ⟨Or.inl rfl, ow_167, cl_4⟩ (by rw [np_167]; rfl) (by rw [np_167]; rfl) (ob_of (mk_52 _)) (Nat.le_of_ble_eq_true rfl) (c3  ) ?_
  show Bod _ _ _ _ [_] _ _ _
  refine Bod.istn dc_166_15 (by rw [ml_166]; exact Nat.le_of_ble_eq_true rfl) ?_
  refine Bod.go dc_166_16 rfl ?_
  refine Bod.ifT dc_166_17 rfl w4 ?_
  refine Bod.go dc_166_31 rfl ?_
  refine Bod.get dc_166_32 fr_166_15 (mk_52 _) rfl ?_
  refine Bod.go dc_166_35 rfl ?_
  refine Bod.go dc_166_36 rfl ?_
  refine Bod.virt (r := []) dc_166_37 kr_166_200 ⟨Or.inr rfl, ow_156, cl_2⟩ (by rw [np_156]; rfl) (by rw [np_156]; rfl) (ob_of (mk_2 _)) (Nat.le_of_ble_eq_true rfl) (c4  ) ?_
  show Bod _ _ _ _ [_] _ _ _
  refine Bod.lst dc_166_40 (by rw [ml_166]; exact Nat.le_of_ble_eq_true rfl) ?_
  refine Bod.go dc_166_42 rfl ?_
  refine Bod.ifT dc_166_43 rfl w4 ?_
  refine Bod.go dc_166_57 rfl ?_
  refine Bod.get dc_166_58 fr_166_15 (mk_52 _) rfl ?_
  refine Bod.go dc_166_61 rfl ?_
  refine Bod.go dc_166_62 rfl ?_
  refine Bod.virt (r := []) dc_166_63 kr_166_204 ⟨Or.inr rfl, ow_158, cl_2⟩ (by rw [np_158]; rfl) (by rw [np_158]; rfl) (ob_of (mk_2 _)) (Nat.le_of_ble_eq_true rfl) (c5  ) ?_
  show Bod _ _ _ _ [_] _ _ _
  refine Bod.lst dc_166_66 (by rw [ml_166]; exact Nat.le_of_ble_eq_true rfl) ?_
  refine Bod.go dc_166_68 rfl ?_
  refine Bod.stat (r := []) dc_166_70 kr_166_137 (Or.inr rfl) (by rw [np_134]; rfl) (by rw [np_134]; rfl) (by rw [np_134]; exact Nat.le_of_ble_eq_true rfl) (Nat.le_of_ble_eq_true rfl) (c6  ) ?_
  show Bod _ _ _ _ [_] _ _ _
  refine Bod.ifT dc_166_73 rfl (k1_ne_T (k_ne a 0 rfl rfl (by omega) (by omega) (by omega))) ?_
  refine Bod.go dc_166_78 rfl ?_
  refine Bod.get dc_166_79 fr_166_23 (mk_52 _) rfl ?_
  refine Bod.go dc_166_82 rfl ?_
  refine Bod.go dc_166_84 rfl ?_
  refine Bod.virt (r := []) dc_166_86 kr_166_146 ⟨Or.inr rfl, ow_153, cl_9⟩ (by rw [np_153]; rfl) (by rw [np_153]; rfl) (ob_of (mk_46 _)) (Nat.le_of_ble_eq_true rfl) (c7  ) ?_
  show Bod _ _ _ _ [] _ _ _
  refine Bod.ic 1 (by decide) dc_166_89 ?_
  exact Bod.retZ dc_166_90 rt_166 (Or.inr rfl)
theorem mLd_2 {d : Nat} {S : cS} {S1 : cS} {rb : Int32} {S2 : cS} {rb1 : Int32} {S3 : cS} {rb2 : Int32} {S4 : cS} {u : Int64} {S5 : cS} {u1 : Int64} {S6 : cS} {a : Nat} (c1 : Ans (d + 8) 127 [.ref 52] S (some (.int rb)) S1) (c2 : Ans (d + 8) 127 [.ref 52] S1 (some (.int rb1)) S2) (c3 : Ans (d + 8) 167 [.ref 52, .int rb] S2 (some (.int rb2)) S3) (w4 : sm_c1 .ge rb true false = true) (c4 : Ans (d + 8) 156 [.ref 2, .int rb2, .int rb1] S3 (some (.long u)) S4) (c5 : Ans (d + 8) 158 [.ref 2, .int rb2, .int rb1] S4 (some (.long u1)) S5) (ma : a < 2 ^ 20) (c6 : Ans (d + 8) 134 [.long u] S5 (some (.int (nI a))) S6) (b1 : a = 0) : Bod (d + 8) 166 0 [(0, .ref 52)] [] S (some (.int 0)) (S6) := by
  refine Bod.go dc_166_0 rfl ?_
  refine Bod.virt (r := []) dc_166_1 kr_166_82 ⟨Or.inl rfl, ow_127, cl_4⟩ (by rw [np_127]; rfl) (by rw [np_127]; rfl) (ob_of (mk_52 _)) (Nat.le_of_ble_eq_true rfl) (c1  ) ?_
  show Bod _ _ _ _ [_] _ _ _
  refine Bod.istn dc_166_4 (by rw [ml_166]; exact Nat.le_of_ble_eq_true rfl) ?_
  refine Bod.go dc_166_5 rfl ?_
  refine Bod.virt (r := []) dc_166_6 kr_166_82 ⟨Or.inl rfl, ow_127, cl_4⟩ (by rw [np_127]; rfl) (by rw [np_127]; rfl) (ob_of (mk_52 _)) (Nat.le_of_ble_eq_true rfl) (c2  ) ?_
  show Bod _ _ _ _ [_] _ _ _
  refine Bod.istn dc_166_9 (by rw [ml_166]; exact Nat.le_of_ble_eq_true rfl) ?_
  refine Bod.go dc_166_10 rfl ?_
  refine Bod.go dc_166_11 rfl ?_
  refine Bod.virt (r := []) dc_166_12 kr_166_244 ⟨Or.inl rfl, ow_167, cl_4⟩ (by rw [np_167]; rfl) (by rw [np_167]; rfl) (ob_of (mk_52 _)) (Nat.le_of_ble_eq_true rfl) (c3  ) ?_
  show Bod _ _ _ _ [_] _ _ _
  refine Bod.istn dc_166_15 (by rw [ml_166]; exact Nat.le_of_ble_eq_true rfl) ?_
  refine Bod.go dc_166_16 rfl ?_
  refine Bod.ifT dc_166_17 rfl w4 ?_
  refine Bod.go dc_166_31 rfl ?_
  refine Bod.get dc_166_32 fr_166_15 (mk_52 _) rfl ?_
  refine Bod.go dc_166_35 rfl ?_
  refine Bod.go dc_166_36 rfl ?_
  refine Bod.virt (r := []) dc_166_37 kr_166_200 ⟨Or.inr rfl, ow_156, cl_2⟩ (by rw [np_156]; rfl) (by rw [np_156]; rfl) (ob_of (mk_2 _)) (Nat.le_of_ble_eq_true rfl) (c4  ) ?_
  show Bod _ _ _ _ [_] _ _ _
  refine Bod.lst dc_166_40 (by rw [ml_166]; exact Nat.le_of_ble_eq_true rfl) ?_
  refine Bod.go dc_166_42 rfl ?_
  refine Bod.ifT dc_166_43 rfl w4 ?_
  refine Bod.go dc_166_57 rfl ?_
  refine Bod.get dc_166_58 fr_166_15 (mk_52 _) rfl ?_
  refine Bod.go dc_166_61 rfl ?_
  refine Bod.go dc_166_62 rfl ?_
  refine Bod.virt (r := []) dc_166_63 kr_166_204 ⟨Or.inr rfl, ow_158, cl_2⟩ (by rw [np_158]; rfl) (by rw [np_158]; rfl) (ob_of (mk_2 _)) (Nat.le_of_ble_eq_true rfl) (c5  ) ?_
  show Bod _ _ _ _ [_] _ _ _
  refine Bod.lst dc_166_66 (by rw [ml_166]; exact Nat.le_of_ble_eq_true rfl) ?_
  refine Bod.go dc_166_68 rfl ?_
  refine Bod.stat (r := []) dc_166_70 kr_166_137 (Or.inr rfl) (by rw [np_134]; rfl) (by rw [np_134]; rfl) (by rw [np_134]; exact Nat.le_of_ble_eq_true rfl) (Nat.le_of_ble_eq_true rfl) (c6  ) ?_
  show Bod _ _ _ _ [_] _ _ _
  refine Bod.ifF dc_166_73 rfl (k1_ne_F (k_eq a 0 rfl rfl (by omega))) ?_
  refine Bod.ic 0 (by decide) dc_166_76 ?_
  exact Bod.retZ dc_166_77 rt_166 (Or.inl rfl)
theorem mLd_3 {d : Nat} {S : cS} {S1 : cS} {rb : Int32} {S2 : cS} {rb1 : Int32} {S3 : cS} {rb2 : Int32} {S4 : cS} {u : Int64} {S5 : cS} {u1 : Int64} {S6 : cS} {a : Nat} {S7 : cS} (c1 : Ans (d + 8) 127 [.ref 52] S (some (.int rb)) S1) (c2 : Ans (d + 8) 127 [.ref 52] S1 (some (.int rb1)) S2) (c3 : Ans (d + 8) 167 [.ref 52, .int rb] S2 (some (.int rb2)) S3) (w4 : sm_c1 .ge rb true false = true) (c4 : Ans (d + 8) 156 [.ref 2, .int rb2, .int rb1] S3 (some (.long u)) S4) (w6 : sm_c1 .ge rb true false = false) (c5 : Ans (d + 8) 171 [.ref 16, .int rb1] S4 (some (.long u1)) S5) (ma : a < 2 ^ 20) (c6 : Ans (d + 8) 134 [.long u] S5 (some (.int (nI a))) S6) (b1 : a ≠ 0) (c7 : Ans (d + 8) 153 [.ref 46, .long u, .long u1] S6 none S7) : Bod (d + 8) 166 0 [(0, .ref 52)] [] S (some (.int 1)) (S7) := by
  refine Bod.go dc_166_0 rfl ?_
  refine Bod.virt (r := []) dc_166_1 kr_166_82 ⟨Or.inl rfl, ow_127, cl_4⟩ (by rw [np_127]; rfl) (by rw [np_127]; rfl) (ob_of (mk_52 _)) (Nat.le_of_ble_eq_true rfl) (c1  ) ?_
  show Bod _ _ _ _ [_] _ _ _
  refine Bod.istn dc_166_4 (by rw [ml_166]; exact Nat.le_of_ble_eq_true rfl) ?_
  refine Bod.go dc_166_5 rfl ?_
  refine Bod.virt (r := []) dc_166_6 kr_166_82 ⟨Or.inl rfl, ow_127, cl_4⟩ (by rw [np_127]; rfl) (by rw [np_127]; rfl) (ob_of (mk_52 _)) (Nat.le_of_ble_eq_true rfl) (c2  ) ?_
  show Bod _ _ _ _ [_] _ _ _
  refine Bod.istn dc_166_9 (by rw [ml_166]; exact Nat.le_of_ble_eq_true rfl) ?_
  refine Bod.go dc_166_10 rfl ?_
  refine Bod.go dc_166_11 rfl ?_
  refine Bod.virt (r := []) dc_166_12 kr_166_244 ⟨Or.inl rfl, ow_167, cl_4⟩ (by rw [np_167]; rfl) (by rw [np_167]; rfl) (ob_of (mk_52 _)) (Nat.le_of_ble_eq_true rfl) (c3  ) ?_
  show Bod _ _ _ _ [_] _ _ _
  refine Bod.istn dc_166_15 (by rw [ml_166]; exact Nat.le_of_ble_eq_true rfl) ?_
  refine Bod.go dc_166_16 rfl ?_
  refine Bod.ifT dc_166_17 rfl w4 ?_
  refine Bod.go dc_166_31 rfl ?_
  refine Bod.get dc_166_32 fr_166_15 (mk_52 _) rfl ?_
  refine Bod.go dc_166_35 rfl ?_
  refine Bod.go dc_166_36 rfl ?_
  refine Bod.virt (r := []) dc_166_37 kr_166_200 ⟨Or.inr rfl, ow_156, cl_2⟩ (by rw [np_156]; rfl) (by rw [np_156]; rfl) (ob_of (mk_2 _)) (Nat.le_of_ble_eq_true rfl) (c4  ) ?_
  show Bod _ _ _ _ [_] _ _ _
  refine Bod.lst dc_166_40 (by rw [ml_166]; exact Nat.le_of_ble_eq_true rfl) ?_
  refine Bod.go dc_166_42 rfl ?_
  refine Bod.ifF dc_166_43 rfl w6 ?_
  refine Bod.go dc_166_46 rfl ?_
  refine Bod.get dc_166_47 fr_166_19 (mk_52 _) rfl ?_
  refine Bod.go dc_166_50 rfl ?_
  refine Bod.virt (r := []) dc_166_51 kr_166_251 ⟨Or.inr rfl, ow_171, cl_5⟩ (by rw [np_171]; rfl) (by rw [np_171]; rfl) (ob_of (mk_16 _)) (Nat.le_of_ble_eq_true rfl) (c5  ) ?_
  show Bod _ _ _ _ [_] _ _ _
  refine Bod.go dc_166_54 rfl ?_
  refine Bod.lst dc_166_66 (by rw [ml_166]; exact Nat.le_of_ble_eq_true rfl) ?_
  refine Bod.go dc_166_68 rfl ?_
  refine Bod.stat (r := []) dc_166_70 kr_166_137 (Or.inr rfl) (by rw [np_134]; rfl) (by rw [np_134]; rfl) (by rw [np_134]; exact Nat.le_of_ble_eq_true rfl) (Nat.le_of_ble_eq_true rfl) (c6  ) ?_
  show Bod _ _ _ _ [_] _ _ _
  refine Bod.ifT dc_166_73 rfl (k1_ne_T (k_ne a 0 rfl rfl (by omega) (by omega) (by omega))) ?_
  refine Bod.go dc_166_78 rfl ?_
  refine Bod.get dc_166_79 fr_166_23 (mk_52 _) rfl ?_
  refine Bod.go dc_166_82 rfl ?_
  refine Bod.go dc_166_84 rfl ?_
  refine Bod.virt (r := []) dc_166_86 kr_166_146 ⟨Or.inr rfl, ow_153, cl_9⟩ (by rw [np_153]; rfl) (by rw [np_153]; rfl) (ob_of (mk_46 _)) (Nat.le_of_ble_eq_true rfl) (c7  ) ?_
  show Bod _ _ _ _ [] _ _ _
  refine Bod.ic 1 (by decide) dc_166_89 ?_
  exact Bod.retZ dc_166_90 rt_166 (Or.inr rfl)
theorem mLd_4 {d : Nat} {S : cS} {S1 : cS} {rb : Int32} {S2 : cS} {rb1 : Int32} {S3 : cS} {rb2 : Int32} {S4 : cS} {u : Int64} {S5 : cS} {u1 : Int64} {S6 : cS} {a : Nat} (c1 : Ans (d + 8) 127 [.ref 52] S (some (.int rb)) S1) (c2 : Ans (d + 8) 127 [.ref 52] S1 (some (.int rb1)) S2) (c3 : Ans (d + 8) 167 [.ref 52, .int rb] S2 (some (.int rb2)) S3) (w4 : sm_c1 .ge rb true false = true) (c4 : Ans (d + 8) 156 [.ref 2, .int rb2, .int rb1] S3 (some (.long u)) S4) (w6 : sm_c1 .ge rb true false = false) (c5 : Ans (d + 8) 171 [.ref 16, .int rb1] S4 (some (.long u1)) S5) (ma : a < 2 ^ 20) (c6 : Ans (d + 8) 134 [.long u] S5 (some (.int (nI a))) S6) (b1 : a = 0) : Bod (d + 8) 166 0 [(0, .ref 52)] [] S (some (.int 0)) (S6) := by
  refine Bod.go dc_166_0 rfl ?_
  refine Bod.virt (r := []) dc_166_1 kr_166_82 ⟨Or.inl rfl, ow_127, cl_4⟩ (by rw [np_127]; rfl) (by rw [np_127]; rfl) (ob_of (mk_52 _)) (Nat.le_of_ble_eq_true rfl) (c1  ) ?_
  show Bod _ _ _ _ [_] _ _ _
  refine Bod.istn dc_166_4 (by rw [ml_166]; exact Nat.le_of_ble_eq_true rfl) ?_
  refine Bod.go dc_166_5 rfl ?_
  refine Bod.virt (r := []) dc_166_6 kr_166_82 ⟨Or.inl rfl, ow_127, cl_4⟩ (by rw [np_127]; rfl) (by rw [np_127]; rfl) (ob_of (mk_52 _)) (Nat.le_of_ble_eq_true rfl) (c2  ) ?_
  show Bod _ _ _ _ [_] _ _ _
  refine Bod.istn dc_166_9 (by rw [ml_166]; exact Nat.le_of_ble_eq_true rfl) ?_
  refine Bod.go dc_166_10 rfl ?_
  refine Bod.go dc_166_11 rfl ?_
  refine Bod.virt (r := []) dc_166_12 kr_166_244 ⟨Or.inl rfl, ow_167, cl_4⟩ (by rw [np_167]; rfl) (by rw [np_167]; rfl) (ob_of (mk_52 _)) (Nat.le_of_ble_eq_true rfl) (c3  ) ?_
  show Bod _ _ _ _ [_] _ _ _
  refine Bod.istn dc_166_15 (by rw [ml_166]; exact Nat.le_of_ble_eq_true rfl) ?_
  refine Bod.go dc_166_16 rfl ?_
  refine Bod.ifT dc_166_17 rfl w4 ?_
  refine Bod.go dc_166_31 rfl ?_
  refine Bod.get dc_166_32 fr_166_15 (mk_52 _) rfl ?_
  refine Bod.go dc_166_35 rfl ?_
  refine Bod.go dc_166_36 rfl ?_
  refine Bod.virt (r := []) dc_166_37 kr_166_200 ⟨Or.inr rfl, ow_156, cl_2⟩ (by rw [np_156]; rfl) (by rw [np_156]; rfl) (ob_of (mk_2 _)) (Nat.le_of_ble_eq_true rfl) (c4  ) ?_
  show Bod _ _ _ _ [_] _ _ _
  refine Bod.lst dc_166_40 (by rw [ml_166]; exact Nat.le_of_ble_eq_true rfl) ?_
  refine Bod.go dc_166_42 rfl ?_
  refine Bod.ifF dc_166_43 rfl w6 ?_
  refine Bod.go dc_166_46 rfl ?_
  refine Bod.get dc_166_47 fr_166_19 (mk_52 _) rfl ?_
  refine Bod.go dc_166_50 rfl ?_
  refine Bod.virt (r := []) dc_166_51 kr_166_251 ⟨Or.inr rfl, ow_171, cl_5⟩ (by rw [np_171]; rfl) (by rw [np_171]; rfl) (ob_of (mk_16 _)) (Nat.le_of_ble_eq_true rfl) (c5  ) ?_
  show Bod _ _ _ _ [_] _ _ _
  refine Bod.go dc_166_54 rfl ?_
  refine Bod.lst dc_166_66 (by rw [ml_166]; exact Nat.le_of_ble_eq_true rfl) ?_
  refine Bod.go dc_166_68 rfl ?_
  refine Bod.stat (r := []) dc_166_70 kr_166_137 (Or.inr rfl) (by rw [np_134]; rfl) (by rw [np_134]; rfl) (by rw [np_134]; exact Nat.le_of_ble_eq_true rfl) (Nat.le_of_ble_eq_true rfl) (c6  ) ?_
  show Bod _ _ _ _ [_] _ _ _
  refine Bod.ifF dc_166_73 rfl (k1_ne_F (k_eq a 0 rfl rfl (by omega))) ?_
  refine Bod.ic 0 (by decide) dc_166_76 ?_
  exact Bod.retZ dc_166_77 rt_166 (Or.inl rfl)
theorem mLd_5 {d : Nat} {S : cS} {S1 : cS} {rb : Int32} {S2 : cS} {rb1 : Int32} {S3 : cS} {rb2 : Int32} {S4 : cS} {u : Int64} {S5 : cS} {u1 : Int64} {S6 : cS} {a : Nat} {S7 : cS} (c1 : Ans (d + 8) 127 [.ref 52] S (some (.int rb)) S1) (c2 : Ans (d + 8) 127 [.ref 52] S1 (some (.int rb1)) S2) (c3 : Ans (d + 8) 167 [.ref 52, .int rb] S2 (some (.int rb2)) S3) (w4 : sm_c1 .ge rb true false = false) (c4 : Ans (d + 8) 169 [.ref 16, .int rb1] S3 (some (.long u)) S4) (w6 : sm_c1 .ge rb true false = true) (c5 : Ans (d + 8) 158 [.ref 2, .int rb2, .int rb1] S4 (some (.long u1)) S5) (ma : a < 2 ^ 20) (c6 : Ans (d + 8) 134 [.long u] S5 (some (.int (nI a))) S6) (b1 : a ≠ 0) (c7 : Ans (d + 8) 153 [.ref 46, .long u, .long u1] S6 none S7) : Bod (d + 8) 166 0 [(0, .ref 52)] [] S (some (.int 1)) (S7) := by
  refine Bod.go dc_166_0 rfl ?_
  refine Bod.virt (r := []) dc_166_1 kr_166_82 ⟨Or.inl rfl, ow_127, cl_4⟩ (by rw [np_127]; rfl) (by rw [np_127]; rfl) (ob_of (mk_52 _)) (Nat.le_of_ble_eq_true rfl) (c1  ) ?_
  show Bod _ _ _ _ [_] _ _ _
  refine Bod.istn dc_166_4 (by rw [ml_166]; exact Nat.le_of_ble_eq_true rfl) ?_
  refine Bod.go dc_166_5 rfl ?_
  refine Bod.virt (r := []) dc_166_6 kr_166_82 ⟨Or.inl rfl, ow_127, cl_4⟩ (by rw [np_127]; rfl) (by rw [np_127]; rfl) (ob_of (mk_52 _)) (Nat.le_of_ble_eq_true rfl) (c2  ) ?_
  show Bod _ _ _ _ [_] _ _ _
  refine Bod.istn dc_166_9 (by rw [ml_166]; exact Nat.le_of_ble_eq_true rfl) ?_
  refine Bod.go dc_166_10 rfl ?_
  refine Bod.go dc_166_11 rfl ?_
  refine Bod.virt (r := []) dc_166_12 kr_166_244 ⟨Or.inl rfl, ow_167, cl_4⟩ (by rw [np_167]; rfl) (by rw [np_167]; rfl) (ob_of (mk_52 _)) (Nat.le_of_ble_eq_true rfl) (c3  ) ?_
  show Bod _ _ _ _ [_] _ _ _
  refine Bod.istn dc_166_15 (by rw [ml_166]; exact Nat.le_of_ble_eq_true rfl) ?_
  refine Bod.go dc_166_16 rfl ?_
  refine Bod.ifF dc_166_17 rfl w4 ?_
  refine Bod.go dc_166_20 rfl ?_
  refine Bod.get dc_166_21 fr_166_19 (mk_52 _) rfl ?_
  refine Bod.go dc_166_24 rfl ?_
  refine Bod.virt (r := []) dc_166_25 kr_166_247 ⟨Or.inr rfl, ow_169, cl_5⟩ (by rw [np_169]; rfl) (by rw [np_169]; rfl) (ob_of (mk_16 _)) (Nat.le_of_ble_eq_true rfl) (c4  ) ?_
  show Bod _ _ _ _ [_] _ _ _
  refine Bod.go dc_166_28 rfl ?_
  refine Bod.lst dc_166_40 (by rw [ml_166]; exact Nat.le_of_ble_eq_true rfl) ?_
  refine Bod.go dc_166_42 rfl ?_
  refine Bod.ifT dc_166_43 rfl w6 ?_
  refine Bod.go dc_166_57 rfl ?_
  refine Bod.get dc_166_58 fr_166_15 (mk_52 _) rfl ?_
  refine Bod.go dc_166_61 rfl ?_
  refine Bod.go dc_166_62 rfl ?_
  refine Bod.virt (r := []) dc_166_63 kr_166_204 ⟨Or.inr rfl, ow_158, cl_2⟩ (by rw [np_158]; rfl) (by rw [np_158]; rfl) (ob_of (mk_2 _)) (Nat.le_of_ble_eq_true rfl) (c5  ) ?_
  show Bod _ _ _ _ [_] _ _ _
  refine Bod.lst dc_166_66 (by rw [ml_166]; exact Nat.le_of_ble_eq_true rfl) ?_
  refine Bod.go dc_166_68 rfl ?_
  refine Bod.stat (r := []) dc_166_70 kr_166_137 (Or.inr rfl) (by rw [np_134]; rfl) (by rw [np_134]; rfl) (by rw [np_134]; exact Nat.le_of_ble_eq_true rfl) (Nat.le_of_ble_eq_true rfl) (c6  ) ?_
  show Bod _ _ _ _ [_] _ _ _
  refine Bod.ifT dc_166_73 rfl (k1_ne_T (k_ne a 0 rfl rfl (by omega) (by omega) (by omega))) ?_
  refine Bod.go dc_166_78 rfl ?_
  refine Bod.get dc_166_79 fr_166_23 (mk_52 _) rfl ?_
  refine Bod.go dc_166_82 rfl ?_
  refine Bod.go dc_166_84 rfl ?_
  refine Bod.virt (r := []) dc_166_86 kr_166_146 ⟨Or.inr rfl, ow_153, cl_9⟩ (by rw [np_153]; rfl) (by rw [np_153]; rfl) (ob_of (mk_46 _)) (Nat.le_of_ble_eq_true rfl) (c7  ) ?_
  show Bod _ _ _ _ [] _ _ _
  refine Bod.ic 1 (by decide) dc_166_89 ?_
  exact Bod.retZ dc_166_90 rt_166 (Or.inr rfl)
theorem mLd_6 {d : Nat} {S : cS} {S1 : cS} {rb : Int32} {S2 : cS} {rb1 : Int32} {S3 : cS} {rb2 : Int32} {S4 : cS} {u : Int64} {S5 : cS} {u1 : Int64} {S6 : cS} {a : Nat} (c1 : Ans (d + 8) 127 [.ref 52] S (some (.int rb)) S1) (c2 : Ans (d + 8) 127 [.ref 52] S1 (some (.int rb1)) S2) (c3 : Ans (d + 8) 167 [.ref 52, .int rb] S2 (some (.int rb2)) S3) (w4 : sm_c1 .ge rb true false = false) (c4 : Ans (d + 8) 169 [.ref 16, .int rb1] S3 (some (.long u)) S4) (w6 : sm_c1 .ge rb true false = true) (c5 : Ans (d + 8) 158 [.ref 2, .int rb2, .int rb1] S4 (some (.long u1)) S5) (ma : a < 2 ^ 20) (c6 : Ans (d + 8) 134 [.long u] S5 (some (.int (nI a))) S6) (b1 : a = 0) : Bod (d + 8) 166 0 [(0, .ref 52)] [] S (some (.int 0)) (S6) := by
  refine Bod.go dc_166_0 rfl ?_
  refine Bod.virt (r := []) dc_166_1 kr_166_82 ⟨Or.inl rfl, ow_127, cl_4⟩ (by rw [np_127]; rfl) (by rw [np_127]; rfl) (ob_of (mk_52 _)) (Nat.le_of_ble_eq_true rfl) (c1  ) ?_
  show Bod _ _ _ _ [_] _ _ _
  refine Bod.istn dc_166_4 (by rw [ml_166]; exact Nat.le_of_ble_eq_true rfl) ?_
  refine Bod.go dc_166_5 rfl ?_
  refine Bod.virt (r := []) dc_166_6 kr_166_82 ⟨Or.inl rfl, ow_127, cl_4⟩ (by rw [np_127]; rfl) (by rw [np_127]; rfl) (ob_of (mk_52 _)) (Nat.le_of_ble_eq_true rfl) (c2  ) ?_
  show Bod _ _ _ _ [_] _ _ _
  refine Bod.istn dc_166_9 (by rw [ml_166]; exact Nat.le_of_ble_eq_true rfl) ?_
  refine Bod.go dc_166_10 rfl ?_
  refine Bod.go dc_166_11 rfl ?_
  refine Bod.virt (r := []) dc_166_12 kr_166_244 ⟨Or.inl rfl, ow_167, cl_4⟩ (by rw [np_167]; rfl) (by rw [np_167]; rfl) (ob_of (mk_52 _)) (Nat.le_of_ble_eq_true rfl) (c3  ) ?_
  show Bod _ _ _ _ [_] _ _ _
  refine Bod.istn dc_166_15 (by rw [ml_166]; exact Nat.le_of_ble_eq_true rfl) ?_
  refine Bod.go dc_166_16 rfl ?_
  refine Bod.ifF dc_166_17 rfl w4 ?_
  refine Bod.go dc_166_20 rfl ?_
  refine Bod.get dc_166_21 fr_166_19 (mk_52 _) rfl ?_
  refine Bod.go dc_166_24 rfl ?_
  refine Bod.virt (r := []) dc_166_25 kr_166_247 ⟨Or.inr rfl, ow_169, cl_5⟩ (by rw [np_169]; rfl) (by rw [np_169]; rfl) (ob_of (mk_16 _)) (Nat.le_of_ble_eq_true rfl) (c4  ) ?_
  show Bod _ _ _ _ [_] _ _ _
  refine Bod.go dc_166_28 rfl ?_
  refine Bod.lst dc_166_40 (by rw [ml_166]; exact Nat.le_of_ble_eq_true rfl) ?_
  refine Bod.go dc_166_42 rfl ?_
  refine Bod.ifT dc_166_43 rfl w6 ?_
  refine Bod.go dc_166_57 rfl ?_
  refine Bod.get dc_166_58 fr_166_15 (mk_52 _) rfl ?_
  refine Bod.go dc_166_61 rfl ?_
  refine Bod.go dc_166_62 rfl ?_
  refine Bod.virt (r := []) dc_166_63 kr_166_204 ⟨Or.inr rfl, ow_158, cl_2⟩ (by rw [np_158]; rfl) (by rw [np_158]; rfl) (ob_of (mk_2 _)) (Nat.le_of_ble_eq_true rfl) (c5  ) ?_
  show Bod _ _ _ _ [_] _ _ _
  refine Bod.lst dc_166_66 (by rw [ml_166]; exact Nat.le_of_ble_eq_true rfl) ?_
  refine Bod.go dc_166_68 rfl ?_
  refine Bod.stat (r := []) dc_166_70 kr_166_137 (Or.inr rfl) (by rw [np_134]; rfl) (by rw [np_134]; rfl) (by rw [np_134]; exact Nat.le_of_ble_eq_true rfl) (Nat.le_of_ble_eq_true rfl) (c6  ) ?_
  show Bod _ _ _ _ [_] _ _ _
  refine Bod.ifF dc_166_73 rfl (k1_ne_F (k_eq a 0 rfl rfl (by omega))) ?_
  refine Bod.ic 0 (by decide) dc_166_76 ?_
  exact Bod.retZ dc_166_77 rt_166 (Or.inl rfl)
theorem mLd_7 {d : Nat} {S : cS} {S1 : cS} {rb : Int32} {S2 : cS} {rb1 : Int32} {S3 : cS} {rb2 : Int32} {S4 : cS} {u : Int64} {S5 : cS} {u1 : Int64} {S6 : cS} {a : Nat} {S7 : cS} (c1 : Ans (d + 8) 127 [.ref 52] S (some (.int rb)) S1) (c2 : Ans (d + 8) 127 [.ref 52] S1 (some (.int rb1)) S2) (c3 : Ans (d + 8) 167 [.ref 52, .int rb] S2 (some (.int rb2)) S3) (w4 : sm_c1 .ge rb true false = false) (c4 : Ans (d + 8) 169 [.ref 16, .int rb1] S3 (some (.long u)) S4) (c5 : Ans (d + 8) 171 [.ref 16, .int rb1] S4 (some (.long u1)) S5) (ma : a < 2 ^ 20) (c6 : Ans (d + 8) 134 [.long u] S5 (some (.int (nI a))) S6) (b1 : a ≠ 0) (c7 : Ans (d + 8) 153 [.ref 46, .long u, .long u1] S6 none S7) : Bod (d + 8) 166 0 [(0, .ref 52)] [] S (some (.int 1)) (S7) := by
  refine Bod.go dc_166_0 rfl ?_
  refine Bod.virt (r := []) dc_166_1 kr_166_82 ⟨Or.inl rfl, ow_127, cl_4⟩ (by rw [np_127]; rfl) (by rw [np_127]; rfl) (ob_of (mk_52 _)) (Nat.le_of_ble_eq_true rfl) (c1  ) ?_
  show Bod _ _ _ _ [_] _ _ _
  refine Bod.istn dc_166_4 (by rw [ml_166]; exact Nat.le_of_ble_eq_true rfl) ?_
  refine Bod.go dc_166_5 rfl ?_
  refine Bod.virt (r := []) dc_166_6 kr_166_82 ⟨Or.inl rfl, ow_127, cl_4⟩ (by rw [np_127]; rfl) (by rw [np_127]; rfl) (ob_of (mk_52 _)) (Nat.le_of_ble_eq_true rfl) (c2  ) ?_
  show Bod _ _ _ _ [_] _ _ _
  refine Bod.istn dc_166_9 (by rw [ml_166]; exact Nat.le_of_ble_eq_true rfl) ?_
  refine Bod.go dc_166_10 rfl ?_
  refine Bod.go dc_166_11 rfl ?_
  refine Bod.virt (r := []) dc_166_12 kr_166_244 ⟨Or.inl rfl, ow_167, cl_4⟩ (by rw [np_167]; rfl) (by rw [np_167]; rfl) (ob_of (mk_52 _)) (Nat.le_of_ble_eq_true rfl) (c3  ) ?_
  show Bod _ _ _ _ [_] _ _ _
  refine Bod.istn dc_166_15 (by rw [ml_166]; exact Nat.le_of_ble_eq_true rfl) ?_
  refine Bod.go dc_166_16 rfl ?_
  refine Bod.ifF dc_166_17 rfl w4 ?_
  refine Bod.go dc_166_20 rfl ?_
  refine Bod.get dc_166_21 fr_166_19 (mk_52 _) rfl ?_
  refine Bod.go dc_166_24 rfl ?_
  refine Bod.virt (r := []) dc_166_25 kr_166_247 ⟨Or.inr rfl, ow_169, cl_5⟩ (by rw [np_169]; rfl) (by rw [np_169]; rfl) (ob_of (mk_16 _)) (Nat.le_of_ble_eq_true rfl) (c4  ) ?_
  show Bod _ _ _ _ [_] _ _ _
  refine Bod.go dc_166_28 rfl ?_
  refine Bod.lst dc_166_40 (by rw [ml_166]; exact Nat.le_of_ble_eq_true rfl) ?_
  refine Bod.go dc_166_42 rfl ?_
  refine Bod.ifF dc_166_43 rfl w4 ?_
  refine Bod.go dc_166_46 rfl ?_
  refine Bod.get dc_166_47 fr_166_19 (mk_52 _) rfl ?_
  refine Bod.go dc_166_50 rfl ?_
  refine Bod.virt (r := []) dc_166_51 kr_166_251 ⟨Or.inr rfl, ow_171, cl_5⟩ (by rw [np_171]; rfl) (by rw [np_171]; rfl) (ob_of (mk_16 _)) (Nat.le_of_ble_eq_true rfl) (c5  ) ?_
  show Bod _ _ _ _ [_] _ _ _
  refine Bod.go dc_166_54 rfl ?_
  refine Bod.lst dc_166_66 (by rw [ml_166]; exact Nat.le_of_ble_eq_true rfl) ?_
  refine Bod.go dc_166_68 rfl ?_
  refine Bod.stat (r := []) dc_166_70 kr_166_137 (Or.inr rfl) (by rw [np_134]; rfl) (by rw [np_134]; rfl) (by rw [np_134]; exact Nat.le_of_ble_eq_true rfl) (Nat.le_of_ble_eq_true rfl) (c6  ) ?_
  show Bod _ _ _ _ [_] _ _ _
  refine Bod.ifT dc_166_73 rfl (k1_ne_T (k_ne a 0 rfl rfl (by omega) (by omega) (by omega))) ?_
  refine Bod.go dc_166_78 rfl ?_
  refine Bod.get dc_166_79 fr_166_23 (mk_52 _) rfl ?_
  refine Bod.go dc_166_82 rfl ?_
  refine Bod.go dc_166_84 rfl ?_
  refine Bod.virt (r := []) dc_166_86 kr_166_146 ⟨Or.inr rfl, ow_153, cl_9⟩ (by rw [np_153]; rfl) (by rw [np_153]; rfl) (ob_of (mk_46 _)) (Nat.le_of_ble_eq_true rfl) (c7  ) ?_
  show Bod _ _ _ _ [] _ _ _
  refine Bod.ic 1 (by decide) dc_166_89 ?_
  exact Bod.retZ dc_166_90 rt_166 (Or.inr rfl)
theorem mLd_8 {d : Nat} {S : cS} {S1 : cS} {rb : Int32} {S2 : cS} {rb1 : Int32} {S3 : cS} {rb2 : Int32} {S4 : cS} {u : Int64} {S5 : cS} {u1 : Int64} {S6 : cS} {a : Nat} (c1 : Ans (d + 8) 127 [.ref 52] S (some (.int rb)) S1) (c2 : Ans (d + 8) 127 [.ref 52] S1 (some (.int rb1)) S2) (c3 : Ans (d + 8) 167 [.ref 52, .int rb] S2 (some (.int rb2)) S3) (w4 : sm_c1 .ge rb true false = false) (c4 : Ans (d + 8) 169 [.ref 16, .int rb1] S3 (some (.long u)) S4) (c5 : Ans (d + 8) 171 [.ref 16, .int rb1] S4 (some (.long u1)) S5) (ma : a < 2 ^ 20) (c6 : Ans (d + 8) 134 [.long u] S5 (some (.int (nI a))) S6) (b1 : a = 0) : Bod (d + 8) 166 0 [(0, .ref 52)] [] S (some (.int 0)) (S6) := by
  refine Bod.go dc_166_0 rfl ?_
  refine Bod.virt (r := []) dc_166_1 kr_166_82 ⟨Or.inl rfl, ow_127, cl_4⟩ (by rw [np_127]; rfl) (by rw [np_127]; rfl) (ob_of (mk_52 _)) (Nat.le_of_ble_eq_true rfl) (c1  ) ?_
  show Bod _ _ _ _ [_] _ _ _
  refine Bod.istn dc_166_4 (by rw [ml_166]; exact Nat.le_of_ble_eq_true rfl) ?_
  refine Bod.go dc_166_5 rfl ?_
  refine Bod.virt (r := []) dc_166_6 kr_166_82 ⟨Or.inl rfl, ow_127, cl_4⟩ (by rw [np_127]; rfl) (by rw [np_127]; rfl) (ob_of (mk_52 _)) (Nat.le_of_ble_eq_true rfl) (c2  ) ?_
  show Bod _ _ _ _ [_] _ _ _
  refine Bod.istn dc_166_9 (by rw [ml_166]; exact Nat.le_of_ble_eq_true rfl) ?_
  refine Bod.go dc_166_10 rfl ?_
  refine Bod.go dc_166_11 rfl ?_
  refine Bod.virt (r := []) dc_166_12 kr_166_244 ⟨Or.inl rfl, ow_167, cl_4⟩ (by rw [np_167]; rfl) (by rw [np_167]; rfl) (ob_of (mk_52 _)) (Nat.le_of_ble_eq_true rfl) (c3  ) ?_
  show Bod _ _ _ _ [_] _ _ _
  refine Bod.istn dc_166_15 (by rw [ml_166]; exact Nat.le_of_ble_eq_true rfl) ?_
  refine Bod.go dc_166_16 rfl ?_
  refine Bod.ifF dc_166_17 rfl w4 ?_
  refine Bod.go dc_166_20 rfl ?_
  refine Bod.get dc_166_21 fr_166_19 (mk_52 _) rfl ?_
  refine Bod.go dc_166_24 rfl ?_
  refine Bod.virt (r := []) dc_166_25 kr_166_247 ⟨Or.inr rfl, ow_169, cl_5⟩ (by rw [np_169]; rfl) (by rw [np_169]; rfl) (ob_of (mk_16 _)) (Nat.le_of_ble_eq_true rfl) (c4  ) ?_
  show Bod _ _ _ _ [_] _ _ _
  refine Bod.go dc_166_28 rfl ?_
  refine Bod.lst dc_166_40 (by rw [ml_166]; exact Nat.le_of_ble_eq_true rfl) ?_
  refine Bod.go dc_166_42 rfl ?_
  refine Bod.ifF dc_166_43 rfl w4 ?_
  refine Bod.go dc_166_46 rfl ?_
  refine Bod.get dc_166_47 fr_166_19 (mk_52 _) rfl ?_
  refine Bod.go dc_166_50 rfl ?_
  refine Bod.virt (r := []) dc_166_51 kr_166_251 ⟨Or.inr rfl, ow_171, cl_5⟩ (by rw [np_171]; rfl) (by rw [np_171]; rfl) (ob_of (mk_16 _)) (Nat.le_of_ble_eq_true rfl) (c5  ) ?_
  show Bod _ _ _ _ [_] _ _ _
  refine Bod.go dc_166_54 rfl ?_
  refine Bod.lst dc_166_66 (by rw [ml_166]; exact Nat.le_of_ble_eq_true rfl) ?_
  refine Bod.go dc_166_68 rfl ?_
  refine Bod.stat (r := []) dc_166_70 kr_166_137 (Or.inr rfl) (by rw [np_134]; rfl) (by rw [np_134]; rfl) (by rw [np_134]; exact Nat.le_of_ble_eq_true rfl) (Nat.le_of_ble_eq_true rfl) (c6  ) ?_
  show Bod _ _ _ _ [_] _ _ _
  refine Bod.ifF dc_166_73 rfl (k1_ne_F (k_eq a 0 rfl rfl (by omega))) ?_
  refine Bod.ic 0 (by decide) dc_166_76 ?_
  exact Bod.retZ dc_166_77 rt_166 (Or.inl rfl)
theorem mSt_1 {d : Nat} {S : cS} {S1 : cS} {rb : Int32} {S2 : cS} {rb1 : Int32} {S3 : cS} {rb2 : Int32} {S4 : cS} {u : Int64} {S5 : cS} {u1 : Int64} {S6 : cS} {S7 : cS} (c1 : Ans (d + 8) 127 [.ref 52] S (some (.int rb)) S1) (c2 : Ans (d + 8) 127 [.ref 52] S1 (some (.int rb1)) S2) (w3 : sm_c1 .ge rb true false = true) (c3 : Ans (d + 8) 167 [.ref 52, .int rb] S2 (some (.int rb2)) S3) (c4 : Ans (d + 8) 132 [.ref 46, .int (nI 0)] S3 (some (.long u)) S4) (c5 : Ans (d + 8) 135 [.ref 46, .int (nI 0)] S4 (some (.long u1)) S5) (c6 : Ans (d + 8) 174 [.ref 2, .int rb2, .int rb1, .long u, .long u1] S5 none S6) (c7 : Ans (d + 8) 141 [.ref 46, .int (nI 1)] S6 none S7) : Bod (d + 8) 172 0 [(0, .ref 52)] [] S (some (.int (nI 0))) (S7) := by
  refine Bod.go dc_172_0 rfl ?_
  refine Bod.virt (r := []) dc_172_1 kr_172_82 ⟨Or.inl rfl, ow_127, cl_4⟩ (by rw [np_127]; rfl) (by rw [np_127]; rfl) (ob_of (mk_52 _)) (Nat.le_of_ble_eq_true rfl) (c1  ) ?_
  show Bod _ _ _ _ [_] _ _ _
  refine Bod.istn dc_172_4 (by rw [ml_172]; exact Nat.le_of_ble_eq_true rfl) ?_
  refine Bod.go dc_172_5 rfl ?_
  refine Bod.virt (r := []) dc_172_6 kr_172_82 ⟨Or.inl rfl, ow_127, cl_4⟩ (by rw [np_127]; rfl) (by rw [np_127]; rfl) (ob_of (mk_52 _)) (Nat.le_of_ble_eq_true rfl) (c2  ) ?_
  show Bod _ _ _ _ [_] _ _ _
  refine Bod.istn dc_172_9 (by rw [ml_172]; exact Nat.le_of_ble_eq_true rfl) ?_
  refine Bod.go dc_172_10 rfl ?_
  refine Bod.ifT dc_172_11 rfl w3 ?_
  refine Bod.go dc_172_41 rfl ?_
  refine Bod.get dc_172_42 fr_172_15 (mk_52 _) rfl ?_
  refine Bod.go dc_172_45 rfl ?_
  refine Bod.go dc_172_46 rfl ?_
  refine Bod.virt (r := [_]) dc_172_47 kr_172_244 ⟨Or.inl rfl, ow_167, cl_4⟩ (by rw [np_167]; rfl) (by rw [np_167]; rfl) (ob_of (mk_52 _)) (Nat.le_of_ble_eq_true rfl) (c3  ) ?_
  show Bod _ _ _ _ [_, _] _ _ _
  refine Bod.go dc_172_50 rfl ?_
  refine Bod.go dc_172_51 rfl ?_
  refine Bod.get dc_172_52 fr_172_23 (mk_52 _) rfl ?_
  refine Bod.ic 0 (by decide) dc_172_55 ?_
  refine Bod.virt (r := [_, _, _]) dc_172_56 kr_172_133 ⟨Or.inr rfl, ow_132, cl_9⟩ (by rw [np_132]; rfl) (by rw [np_132]; rfl) (ob_of (mk_46 _)) (Nat.le_of_ble_eq_true rfl) (c4  ) ?_
  show Bod _ _ _ _ [_, _, _, _] _ _ _
  refine Bod.go dc_172_59 rfl ?_
  refine Bod.get dc_172_60 fr_172_23 (mk_52 _) rfl ?_
  refine Bod.ic 0 (by decide) dc_172_63 ?_
  refine Bod.virt (r := [_, _, _, _]) dc_172_64 kr_172_141 ⟨Or.inr rfl, ow_135, cl_9⟩ (by rw [np_135]; rfl) (by rw [np_135]; rfl) (ob_of (mk_46 _)) (Nat.le_of_ble_eq_true rfl) (c5  ) ?_
  show Bod _ _ _ _ [_, _, _, _, _] _ _ _
  refine Bod.virt (r := []) dc_172_67 kr_172_257 ⟨Or.inr rfl, ow_174, cl_2⟩ (by rw [np_174]; rfl) (by rw [np_174]; rfl) (ob_of (mk_2 _)) (Nat.le_of_ble_eq_true rfl) (c6  ) ?_
  show Bod _ _ _ _ [] _ _ _
  refine Bod.go dc_172_70 rfl ?_
  refine Bod.get dc_172_71 fr_172_23 (mk_52 _) rfl ?_
  refine Bod.ic 1 (by decide) dc_172_74 ?_
  refine Bod.virt (r := []) dc_172_75 kr_172_127 ⟨Or.inr rfl, ow_141, cl_9⟩ (by rw [np_141]; rfl) (by rw [np_141]; rfl) (ob_of (mk_46 _)) (Nat.le_of_ble_eq_true rfl) (c7  ) ?_
  show Bod _ _ _ _ [] _ _ _
  refine Bod.ic 0 (by decide) dc_172_78 ?_
  exact Bod.retI dc_172_79 rt_172
theorem mSt_2 {d : Nat} {S : cS} {S1 : cS} {rb : Int32} {S2 : cS} {rb1 : Int32} {S3 : cS} {u : Int64} {S4 : cS} {u1 : Int64} {S5 : cS} {S6 : cS} (c1 : Ans (d + 8) 127 [.ref 52] S (some (.int rb)) S1) (c2 : Ans (d + 8) 127 [.ref 52] S1 (some (.int rb1)) S2) (w3 : sm_c1 .ge rb true false = false) (c3 : Ans (d + 8) 132 [.ref 46, .int (nI 0)] S2 (some (.long u)) S3) (c4 : Ans (d + 8) 135 [.ref 46, .int (nI 0)] S3 (some (.long u1)) S4) (c5 : Ans (d + 8) 173 [.ref 16, .int rb1, .long u, .long u1] S4 none S5) (c6 : Ans (d + 8) 141 [.ref 46, .int (nI 1)] S5 none S6) : Bod (d + 8) 172 0 [(0, .ref 52)] [] S (some (.int (nI 0))) (S6) := by
  refine Bod.go dc_172_0 rfl ?_
  refine Bod.virt (r := []) dc_172_1 kr_172_82 ⟨Or.inl rfl, ow_127, cl_4⟩ (by rw [np_127]; rfl) (by rw [np_127]; rfl) (ob_of (mk_52 _)) (Nat.le_of_ble_eq_true rfl) (c1  ) ?_
  show Bod _ _ _ _ [_] _ _ _
  refine Bod.istn dc_172_4 (by rw [ml_172]; exact Nat.le_of_ble_eq_true rfl) ?_
  refine Bod.go dc_172_5 rfl ?_
  refine Bod.virt (r := []) dc_172_6 kr_172_82 ⟨Or.inl rfl, ow_127, cl_4⟩ (by rw [np_127]; rfl) (by rw [np_127]; rfl) (ob_of (mk_52 _)) (Nat.le_of_ble_eq_true rfl) (c2  ) ?_
  show Bod _ _ _ _ [_] _ _ _
  refine Bod.istn dc_172_9 (by rw [ml_172]; exact Nat.le_of_ble_eq_true rfl) ?_
  refine Bod.go dc_172_10 rfl ?_
  refine Bod.ifF dc_172_11 rfl w3 ?_
  refine Bod.go dc_172_14 rfl ?_
  refine Bod.get dc_172_15 fr_172_19 (mk_52 _) rfl ?_
  refine Bod.go dc_172_18 rfl ?_
  refine Bod.go dc_172_19 rfl ?_
  refine Bod.get dc_172_20 fr_172_23 (mk_52 _) rfl ?_
  refine Bod.ic 0 (by decide) dc_172_23 ?_
  refine Bod.virt (r := [_, _]) dc_172_24 kr_172_133 ⟨Or.inr rfl, ow_132, cl_9⟩ (by rw [np_132]; rfl) (by rw [np_132]; rfl) (ob_of (mk_46 _)) (Nat.le_of_ble_eq_true rfl) (c3  ) ?_
  show Bod _ _ _ _ [_, _, _] _ _ _
  refine Bod.go dc_172_27 rfl ?_
  refine Bod.get dc_172_28 fr_172_23 (mk_52 _) rfl ?_
  refine Bod.ic 0 (by decide) dc_172_31 ?_
  refine Bod.virt (r := [_, _, _]) dc_172_32 kr_172_141 ⟨Or.inr rfl, ow_135, cl_9⟩ (by rw [np_135]; rfl) (by rw [np_135]; rfl) (ob_of (mk_46 _)) (Nat.le_of_ble_eq_true rfl) (c4  ) ?_
  show Bod _ _ _ _ [_, _, _, _] _ _ _
  refine Bod.virt (r := []) dc_172_35 kr_172_253 ⟨Or.inr rfl, ow_173, cl_5⟩ (by rw [np_173]; rfl) (by rw [np_173]; rfl) (ob_of (mk_16 _)) (Nat.le_of_ble_eq_true rfl) (c5  ) ?_
  show Bod _ _ _ _ [] _ _ _
  refine Bod.go dc_172_38 rfl ?_
  refine Bod.go dc_172_70 rfl ?_
  refine Bod.get dc_172_71 fr_172_23 (mk_52 _) rfl ?_
  refine Bod.ic 1 (by decide) dc_172_74 ?_
  refine Bod.virt (r := []) dc_172_75 kr_172_127 ⟨Or.inr rfl, ow_141, cl_9⟩ (by rw [np_141]; rfl) (by rw [np_141]; rfl) (ob_of (mk_46 _)) (Nat.le_of_ble_eq_true rfl) (c6  ) ?_
  show Bod _ _ _ _ [] _ _ _
  refine Bod.ic 0 (by decide) dc_172_78 ?_
  exact Bod.retI dc_172_79 rt_172
theorem mUb_1 {d : Nat} {S : cS} {S1 : cS} {rb : Int32} {S2 : cS} {rb1 : Int32} {S3 : cS} {rb2 : Int32} {S4 : cS} {u : Int64} {S5 : cS} {a : Nat} {S6 : cS} {rb3 : Int32} {S7 : cS} (c1 : Ans (d + 8) 127 [.ref 52] S (some (.int rb)) S1) (c2 : Ans (d + 8) 127 [.ref 52] S1 (some (.int rb1)) S2) (w3 : sm_c1 .ge rb true false = true) (c3 : Ans (d + 8) 167 [.ref 52, .int rb] S2 (some (.int rb2)) S3) (c4 : Ans (d + 8) 156 [.ref 2, .int rb2, .int rb1] S3 (some (.long u)) S4) (ma : a < 2 ^ 20) (c5 : Ans (d + 8) 134 [.long u] S4 (some (.int (nI a))) S5) (b1 : a ≠ 0) (c6 : Ans (d + 8) 167 [.ref 52, .int rb] S5 (some (.int rb3)) S6) (c7 : Ans (d + 8) 174 [.ref 2, .int rb3, .int rb1, .long 0, .long 0] S6 none S7) : Bod (d + 8) 175 0 [(0, .ref 52)] [] S (some (.int (nI 0))) (S7) := by
  refine Bod.go dc_175_0 rfl ?_
  refine Bod.virt (r := []) dc_175_1 kr_175_82 ⟨Or.inl rfl, ow_127, cl_4⟩ (by rw [np_127]; rfl) (by rw [np_127]; rfl) (ob_of (mk_52 _)) (Nat.le_of_ble_eq_true rfl) (c1  ) ?_
  show Bod _ _ _ _ [_] _ _ _
  refine Bod.istn dc_175_4 (by rw [ml_175]; exact Nat.le_of_ble_eq_true rfl) ?_
  refine Bod.go dc_175_5 rfl ?_
  refine Bod.virt (r := []) dc_175_6 kr_175_82 ⟨Or.inl rfl, ow_127, cl_4⟩ (by rw [np_127]; rfl) (by rw [np_127]; rfl) (ob_of (mk_52 _)) (Nat.le_of_ble_eq_true rfl) (c2  ) ?_
  show Bod _ _ _ _ [_] _ _ _
  refine Bod.istn dc_175_9 (by rw [ml_175]; exact Nat.le_of_ble_eq_true rfl) ?_
  refine Bod.go dc_175_10 rfl ?_
  refine Bod.ifT dc_175_11 rfl w3 ?_
  refine Bod.go dc_175_25 rfl ?_
  refine Bod.get dc_175_26 fr_175_15 (mk_52 _) rfl ?_
  refine Bod.go dc_175_29 rfl ?_
  refine Bod.go dc_175_30 rfl ?_
  refine Bod.virt (r := [_]) dc_175_31 kr_175_244 ⟨Or.inl rfl, ow_167, cl_4⟩ (by rw [np_167]; rfl) (by rw [np_167]; rfl) (ob_of (mk_52 _)) (Nat.le_of_ble_eq_true rfl) (c3  ) ?_
  show Bod _ _ _ _ [_, _] _ _ _
  refine Bod.go dc_175_34 rfl ?_
  refine Bod.virt (r := []) dc_175_35 kr_175_200 ⟨Or.inr rfl, ow_156, cl_2⟩ (by rw [np_156]; rfl) (by rw [np_156]; rfl) (ob_of (mk_2 _)) (Nat.le_of_ble_eq_true rfl) (c4  ) ?_
  show Bod _ _ _ _ [_] _ _ _
  refine Bod.lstn dc_175_38 (by rw [ml_175]; exact Nat.le_of_ble_eq_true rfl) ?_
  refine Bod.go dc_175_39 rfl ?_
  refine Bod.stat (r := []) dc_175_40 kr_175_137 (Or.inr rfl) (by rw [np_134]; rfl) (by rw [np_134]; rfl) (by rw [np_134]; exact Nat.le_of_ble_eq_true rfl) (Nat.le_of_ble_eq_true rfl) (c5  ) ?_
  show Bod _ _ _ _ [_] _ _ _
  refine Bod.ifT dc_175_43 rfl (k1_ne_T (k_ne a 0 rfl rfl (by omega) (by omega) (by omega))) ?_
  refine Bod.go dc_175_48 rfl ?_
  refine Bod.ifT dc_175_49 rfl w3 ?_
  refine Bod.go dc_175_65 rfl ?_
  refine Bod.get dc_175_66 fr_175_15 (mk_52 _) rfl ?_
  refine Bod.go dc_175_69 rfl ?_
  refine Bod.go dc_175_70 rfl ?_
  refine Bod.virt (r := [_]) dc_175_71 kr_175_244 ⟨Or.inl rfl, ow_167, cl_4⟩ (by rw [np_167]; rfl) (by rw [np_167]; rfl) (ob_of (mk_52 _)) (Nat.le_of_ble_eq_true rfl) (c6  ) ?_
  show Bod _ _ _ _ [_, _] _ _ _
  refine Bod.go dc_175_74 rfl ?_
  refine Bod.go dc_175_75 rfl ?_
  refine Bod.go dc_175_76 rfl ?_
  refine Bod.virt (r := []) dc_175_77 kr_175_257 ⟨Or.inr rfl, ow_174, cl_2⟩ (by rw [np_174]; rfl) (by rw [np_174]; rfl) (ob_of (mk_2 _)) (Nat.le_of_ble_eq_true rfl) (c7  ) ?_
  show Bod _ _ _ _ [] _ _ _
  refine Bod.ic 0 (by decide) dc_175_80 ?_
  exact Bod.retI dc_175_81 rt_175
theorem mUb_2 {d : Nat} {S : cS} {S1 : cS} {rb : Int32} {S2 : cS} {rb1 : Int32} {S3 : cS} {rb2 : Int32} {S4 : cS} {u : Int64} {S5 : cS} {a : Nat} {S6 : cS} (c1 : Ans (d + 8) 127 [.ref 52] S (some (.int rb)) S1) (c2 : Ans (d + 8) 127 [.ref 52] S1 (some (.int rb1)) S2) (w3 : sm_c1 .ge rb true false = true) (c3 : Ans (d + 8) 167 [.ref 52, .int rb] S2 (some (.int rb2)) S3) (c4 : Ans (d + 8) 156 [.ref 2, .int rb2, .int rb1] S3 (some (.long u)) S4) (ma : a < 2 ^ 20) (c5 : Ans (d + 8) 134 [.long u] S4 (some (.int (nI a))) S5) (b1 : a ≠ 0) (w9 : sm_c1 .ge rb true false = false) (c6 : Ans (d + 8) 173 [.ref 16, .int rb1, .long 0, .long 0] S5 none S6) : Bod (d + 8) 175 0 [(0, .ref 52)] [] S (some (.int (nI 0))) (S6) := by
  refine Bod.go dc_175_0 rfl ?_
  refine Bod.virt (r := []) dc_175_1 kr_175_82 ⟨Or.inl rfl, ow_127, cl_4⟩ (by rw [np_127]; rfl) (by rw [np_127]; rfl) (ob_of (mk_52 _)) (Nat.le_of_ble_eq_true rfl) (c1  ) ?_
  show Bod _ _ _ _ [_] _ _ _
  refine Bod.istn dc_175_4 (by rw [ml_175]; exact Nat.le_of_ble_eq_true rfl) ?_
  refine Bod.go dc_175_5 rfl ?_
  refine Bod.virt (r := []) dc_175_6 kr_175_82 ⟨Or.inl rfl, ow_127, cl_4⟩ (by rw [np_127]; rfl) (by rw [np_127]; rfl) (ob_of (mk_52 _)) (Nat.le_of_ble_eq_true rfl) (c2  ) ?_
  show Bod _ _ _ _ [_] _ _ _
  refine Bod.istn dc_175_9 (by rw [ml_175]; exact Nat.le_of_ble_eq_true rfl) ?_
  refine Bod.go dc_175_10 rfl ?_
  refine Bod.ifT dc_175_11 rfl w3 ?_
  refine Bod.go dc_175_25 rfl ?_
  refine Bod.get dc_175_26 fr_175_15 (mk_52 _) rfl ?_
  refine Bod.go dc_175_29 rfl ?_
  refine Bod.go dc_175_30 rfl ?_
  refine Bod.virt (r := [_]) dc_175_31 kr_175_244 ⟨Or.inl rfl, ow_167, cl_4⟩ (by rw [np_167]; rfl) (by rw [np_167]; rfl) (ob_of (mk_52 _)) (Nat.le_of_ble_eq_true rfl) (c3  ) ?_
  show Bod _ _ _ _ [_, _] _ _ _
  refine Bod.go dc_175_34 rfl ?_
  refine Bod.virt (r := []) dc_175_35 kr_175_200 ⟨Or.inr rfl, ow_156, cl_2⟩ (by rw [np_156]; rfl) (by rw [np_156]; rfl) (ob_of (mk_2 _)) (Nat.le_of_ble_eq_true rfl) (c4  ) ?_
  show Bod _ _ _ _ [_] _ _ _
  refine Bod.lstn dc_175_38 (by rw [ml_175]; exact Nat.le_of_ble_eq_true rfl) ?_
  refine Bod.go dc_175_39 rfl ?_
  refine Bod.stat (r := []) dc_175_40 kr_175_137 (Or.inr rfl) (by rw [np_134]; rfl) (by rw [np_134]; rfl) (by rw [np_134]; exact Nat.le_of_ble_eq_true rfl) (Nat.le_of_ble_eq_true rfl) (c5  ) ?_
  show Bod _ _ _ _ [_] _ _ _
  refine Bod.ifT dc_175_43 rfl (k1_ne_T (k_ne a 0 rfl rfl (by omega) (by omega) (by omega))) ?_
  refine Bod.go dc_175_48 rfl ?_
  refine Bod.ifF dc_175_49 rfl w9 ?_
  refine Bod.go dc_175_52 rfl ?_
  refine Bod.get dc_175_53 fr_175_19 (mk_52 _) rfl ?_
  refine Bod.go dc_175_56 rfl ?_
  refine Bod.go dc_175_57 rfl ?_
  refine Bod.go dc_175_58 rfl ?_
  refine Bod.virt (r := []) dc_175_59 kr_175_253 ⟨Or.inr rfl, ow_173, cl_5⟩ (by rw [np_173]; rfl) (by rw [np_173]; rfl) (ob_of (mk_16 _)) (Nat.le_of_ble_eq_true rfl) (c6  ) ?_
  show Bod _ _ _ _ [] _ _ _
  refine Bod.go dc_175_62 rfl ?_
  refine Bod.ic 0 (by decide) dc_175_80 ?_
  exact Bod.retI dc_175_81 rt_175
theorem mUb_3 {d : Nat} {S : cS} {S1 : cS} {rb : Int32} {S2 : cS} {rb1 : Int32} {S3 : cS} {rb2 : Int32} {S4 : cS} {u : Int64} {S5 : cS} {a : Nat} (c1 : Ans (d + 8) 127 [.ref 52] S (some (.int rb)) S1) (c2 : Ans (d + 8) 127 [.ref 52] S1 (some (.int rb1)) S2) (w3 : sm_c1 .ge rb true false = true) (c3 : Ans (d + 8) 167 [.ref 52, .int rb] S2 (some (.int rb2)) S3) (c4 : Ans (d + 8) 156 [.ref 2, .int rb2, .int rb1] S3 (some (.long u)) S4) (ma : a < 2 ^ 20) (c5 : Ans (d + 8) 134 [.long u] S4 (some (.int (nI a))) S5) (b1 : a = 0) : Bod (d + 8) 175 0 [(0, .ref 52)] [] S (some (.int (nI 1))) (S5) := by
  refine Bod.go dc_175_0 rfl ?_
  refine Bod.virt (r := []) dc_175_1 kr_175_82 ⟨Or.inl rfl, ow_127, cl_4⟩ (by rw [np_127]; rfl) (by rw [np_127]; rfl) (ob_of (mk_52 _)) (Nat.le_of_ble_eq_true rfl) (c1  ) ?_
  show Bod _ _ _ _ [_] _ _ _
  refine Bod.istn dc_175_4 (by rw [ml_175]; exact Nat.le_of_ble_eq_true rfl) ?_
  refine Bod.go dc_175_5 rfl ?_
  refine Bod.virt (r := []) dc_175_6 kr_175_82 ⟨Or.inl rfl, ow_127, cl_4⟩ (by rw [np_127]; rfl) (by rw [np_127]; rfl) (ob_of (mk_52 _)) (Nat.le_of_ble_eq_true rfl) (c2  ) ?_
  show Bod _ _ _ _ [_] _ _ _
  refine Bod.istn dc_175_9 (by rw [ml_175]; exact Nat.le_of_ble_eq_true rfl) ?_
  refine Bod.go dc_175_10 rfl ?_
  refine Bod.ifT dc_175_11 rfl w3 ?_
  refine Bod.go dc_175_25 rfl ?_
  refine Bod.get dc_175_26 fr_175_15 (mk_52 _) rfl ?_
  refine Bod.go dc_175_29 rfl ?_
  refine Bod.go dc_175_30 rfl ?_
  refine Bod.virt (r := [_]) dc_175_31 kr_175_244 ⟨Or.inl rfl, ow_167, cl_4⟩ (by rw [np_167]; rfl) (by rw [np_167]; rfl) (ob_of (mk_52 _)) (Nat.le_of_ble_eq_true rfl) (c3  ) ?_
  show Bod _ _ _ _ [_, _] _ _ _
  refine Bod.go dc_175_34 rfl ?_
  refine Bod.virt (r := []) dc_175_35 kr_175_200 ⟨Or.inr rfl, ow_156, cl_2⟩ (by rw [np_156]; rfl) (by rw [np_156]; rfl) (ob_of (mk_2 _)) (Nat.le_of_ble_eq_true rfl) (c4  ) ?_
  show Bod _ _ _ _ [_] _ _ _
  refine Bod.lstn dc_175_38 (by rw [ml_175]; exact Nat.le_of_ble_eq_true rfl) ?_
  refine Bod.go dc_175_39 rfl ?_
  refine Bod.stat (r := []) dc_175_40 kr_175_137 (Or.inr rfl) (by rw [np_134]; rfl) (by rw [np_134]; rfl) (by rw [np_134]; exact Nat.le_of_ble_eq_true rfl) (Nat.le_of_ble_eq_true rfl) (c5  ) ?_
  show Bod _ _ _ _ [_] _ _ _
  refine Bod.ifF dc_175_43 rfl (k1_ne_F (k_eq a 0 rfl rfl (by omega))) ?_
  refine Bod.ic 1 (by decide) dc_175_46 ?_
  exact Bod.retI dc_175_47 rt_175
theorem mUb_4 {d : Nat} {S : cS} {S1 : cS} {rb : Int32} {S2 : cS} {rb1 : Int32} {S3 : cS} {u : Int64} {S4 : cS} {a : Nat} {S5 : cS} {rb2 : Int32} {S6 : cS} (c1 : Ans (d + 8) 127 [.ref 52] S (some (.int rb)) S1) (c2 : Ans (d + 8) 127 [.ref 52] S1 (some (.int rb1)) S2) (w3 : sm_c1 .ge rb true false = false) (c3 : Ans (d + 8) 169 [.ref 16, .int rb1] S2 (some (.long u)) S3) (ma : a < 2 ^ 20) (c4 : Ans (d + 8) 134 [.long u] S3 (some (.int (nI a))) S4) (b1 : a ≠ 0) (w8 : sm_c1 .ge rb true false = true) (c5 : Ans (d + 8) 167 [.ref 52, .int rb] S4 (some (.int rb2)) S5) (c6 : Ans (d + 8) 174 [.ref 2, .int rb2, .int rb1, .long 0, .long 0] S5 none S6) : Bod (d + 8) 175 0 [(0, .ref 52)] [] S (some (.int (nI 0))) (S6) := by
  refine Bod.go dc_175_0 rfl ?_
  refine Bod.virt (r := []) dc_175_1 kr_175_82 ⟨Or.inl rfl, ow_127, cl_4⟩ (by rw [np_127]; rfl) (by rw [np_127]; rfl) (ob_of (mk_52 _)) (Nat.le_of_ble_eq_true rfl) (c1  ) ?_
  show Bod _ _ _ _ [_] _ _ _
  refine Bod.istn dc_175_4 (by rw [ml_175]; exact Nat.le_of_ble_eq_true rfl) ?_
  refine Bod.go dc_175_5 rfl ?_
  refine Bod.virt (r := []) dc_175_6 kr_175_82 ⟨Or.inl rfl, ow_127, cl_4⟩ (by rw [np_127]; rfl) (by rw [np_127]; rfl) (ob_of (mk_52 _)) (Nat.le_of_ble_eq_true rfl) (c2  ) ?_
  show Bod _ _ _ _ [_] _ _ _
  refine Bod.istn dc_175_9 (by rw [ml_175]; exact Nat.le_of_ble_eq_true rfl) ?_
  refine Bod.go dc_175_10 rfl ?_
  refine Bod.ifF dc_175_11 rfl w3 ?_
  refine Bod.go dc_175_14 rfl ?_
  refine Bod.get dc_175_15 fr_175_19 (mk_52 _) rfl ?_
  refine Bod.go dc_175_18 rfl ?_
  refine Bod.virt (r := []) dc_175_19 kr_175_247 ⟨Or.inr rfl, ow_169, cl_5⟩ (by rw [np_169]; rfl) (by rw [np_169]; rfl) (ob_of (mk_16 _)) (Nat.le_of_ble_eq_true rfl) (c3  ) ?_
  show Bod _ _ _ _ [_] _ _ _
  refine Bod.go dc_175_22 rfl ?_
  refine Bod.lstn dc_175_38 (by rw [ml_175]; exact Nat.le_of_ble_eq_true rfl) ?_
  refine Bod.go dc_175_39 rfl ?_
  refine Bod.stat (r := []) dc_175_40 kr_175_137 (Or.inr rfl) (by rw [np_134]; rfl) (by rw [np_134]; rfl) (by rw [np_134]; exact Nat.le_of_ble_eq_true rfl) (Nat.le_of_ble_eq_true rfl) (c4  ) ?_
  show Bod _ _ _ _ [_] _ _ _
  refine Bod.ifT dc_175_43 rfl (k1_ne_T (k_ne a 0 rfl rfl (by omega) (by omega) (by omega))) ?_
  refine Bod.go dc_175_48 rfl ?_
  refine Bod.ifT dc_175_49 rfl w8 ?_
  refine Bod.go dc_175_65 rfl ?_
  refine Bod.get dc_175_66 fr_175_15 (mk_52 _) rfl ?_
  refine Bod.go dc_175_69 rfl ?_
  refine Bod.go dc_175_70 rfl ?_
  refine Bod.virt (r := [_]) dc_175_71 kr_175_244 ⟨Or.inl rfl, ow_167, cl_4⟩ (by rw [np_167]; rfl) (by rw [np_167]; rfl) (ob_of (mk_52 _)) (Nat.le_of_ble_eq_true rfl) (c5  ) ?_
  show Bod _ _ _ _ [_, _] _ _ _
  refine Bod.go dc_175_74 rfl ?_
  refine Bod.go dc_175_75 rfl ?_
  refine Bod.go dc_175_76 rfl ?_
  refine Bod.virt (r := []) dc_175_77 kr_175_257 ⟨Or.inr rfl, ow_174, cl_2⟩ (by rw [np_174]; rfl) (by rw [np_174]; rfl) (ob_of (mk_2 _)) (Nat.le_of_ble_eq_true rfl) (c6  ) ?_
  show Bod _ _ _ _ [] _ _ _
  refine Bod.ic 0 (by decide) dc_175_80 ?_
  exact Bod.retI dc_175_81 rt_175
theorem mUb_5 {d : Nat} {S : cS} {S1 : cS} {rb : Int32} {S2 : cS} {rb1 : Int32} {S3 : cS} {u : Int64} {S4 : cS} {a : Nat} {S5 : cS} (c1 : Ans (d + 8) 127 [.ref 52] S (some (.int rb)) S1) (c2 : Ans (d + 8) 127 [.ref 52] S1 (some (.int rb1)) S2) (w3 : sm_c1 .ge rb true false = false) (c3 : Ans (d + 8) 169 [.ref 16, .int rb1] S2 (some (.long u)) S3) (ma : a < 2 ^ 20) (c4 : Ans (d + 8) 134 [.long u] S3 (some (.int (nI a))) S4) (b1 : a ≠ 0) (c5 : Ans (d + 8) 173 [.ref 16, .int rb1, .long 0, .long 0] S4 none S5) : Bod (d + 8) 175 0 [(0, .ref 52)] [] S (some (.int (nI 0))) (S5) := by
  refine Bod.go dc_175_0 rfl ?_
  refine Bod.virt (r := []) dc_175_1 kr_175_82 ⟨Or.inl rfl, ow_127, cl_4⟩ (by rw [np_127]; rfl) (by rw [np_127]; rfl) (ob_of (mk_52 _)) (Nat.le_of_ble_eq_true rfl) (c1  ) ?_
  show Bod _ _ _ _ [_] _ _ _
  refine Bod.istn dc_175_4 (by rw [ml_175]; exact Nat.le_of_ble_eq_true rfl) ?_
  refine Bod.go dc_175_5 rfl ?_
  refine Bod.virt (r := []) dc_175_6 kr_175_82 ⟨Or.inl rfl, ow_127, cl_4⟩ (by rw [np_127]; rfl) (by rw [np_127]; rfl) (ob_of (mk_52 _)) (Nat.le_of_ble_eq_true rfl) (c2  ) ?_
  show Bod _ _ _ _ [_] _ _ _
  refine Bod.istn dc_175_9 (by rw [ml_175]; exact Nat.le_of_ble_eq_true rfl) ?_
  refine Bod.go dc_175_10 rfl ?_
  refine Bod.ifF dc_175_11 rfl w3 ?_
  refine Bod.go dc_175_14 rfl ?_
  refine Bod.get dc_175_15 fr_175_19 (mk_52 _) rfl ?_
  refine Bod.go dc_175_18 rfl ?_
  refine Bod.virt (r := []) dc_175_19 kr_175_247 ⟨Or.inr rfl, ow_169, cl_5⟩ (by rw [np_169]; rfl) (by rw [np_169]; rfl) (ob_of (mk_16 _)) (Nat.le_of_ble_eq_true rfl) (c3  ) ?_
  show Bod _ _ _ _ [_] _ _ _
  refine Bod.go dc_175_22 rfl ?_
  refine Bod.lstn dc_175_38 (by rw [ml_175]; exact Nat.le_of_ble_eq_true rfl) ?_
  refine Bod.go dc_175_39 rfl ?_
  refine Bod.stat (r := []) dc_175_40 kr_175_137 (Or.inr rfl) (by rw [np_134]; rfl) (by rw [np_134]; rfl) (by rw [np_134]; exact Nat.le_of_ble_eq_true rfl) (Nat.le_of_ble_eq_true rfl) (c4  ) ?_
  show Bod _ _ _ _ [_] _ _ _
  refine Bod.ifT dc_175_43 rfl (k1_ne_T (k_ne a 0 rfl rfl (by omega) (by omega) (by omega))) ?_
  refine Bod.go dc_175_48 rfl ?_
  refine Bod.ifF dc_175_49 rfl w3 ?_
  refine Bod.go dc_175_52 rfl ?_
  refine Bod.get dc_175_53 fr_175_19 (mk_52 _) rfl ?_
  refine Bod.go dc_175_56 rfl ?_
  refine Bod.go dc_175_57 rfl ?_
  refine Bod.go dc_175_58 rfl ?_
  refine Bod.virt (r := []) dc_175_59 kr_175_253 ⟨Or.inr rfl, ow_173, cl_5⟩ (by rw [np_173]; rfl) (by rw [np_173]; rfl) (ob_of (mk_16 _)) (Nat.le_of_ble_eq_true rfl) (c5  ) ?_
  show Bod _ _ _ _ [] _ _ _
  refine Bod.go dc_175_62 rfl ?_
  refine Bod.ic 0 (by decide) dc_175_80 ?_
  exact Bod.retI dc_175_81 rt_175
theorem mUb_6 {d : Nat} {S : cS} {S1 : cS} {rb : Int32} {S2 : cS} {rb1 : Int32} {S3 : cS} {u : Int64} {S4 : cS} {a : Nat} (c1 : Ans (d + 8) 127 [.ref 52] S (some (.int rb)) S1) (c2 : Ans (d + 8) 127 [.ref 52] S1 (some (.int rb1)) S2) (w3 : sm_c1 .ge rb true false = false) (c3 : Ans (d + 8) 169 [.ref 16, .int rb1] S2 (some (.long u)) S3) (ma : a < 2 ^ 20) (c4 : Ans (d + 8) 134 [.long u] S3 (some (.int (nI a))) S4) (b1 : a = 0) : Bod (d + 8) 175 0 [(0, .ref 52)] [] S (some (.int (nI 1))) (S4) := by
  refine Bod.go dc_175_0 rfl ?_
  refine Bod.virt (r := []) dc_175_1 kr_175_82 ⟨Or.inl rfl, ow_127, cl_4⟩ (by rw [np_127]; rfl) (by rw [np_127]; rfl) (ob_of (mk_52 _)) (Nat.le_of_ble_eq_true rfl) (c1  ) ?_
  show Bod _ _ _ _ [_] _ _ _
  refine Bod.istn dc_175_4 (by rw [ml_175]; exact Nat.le_of_ble_eq_true rfl) ?_
  refine Bod.go dc_175_5 rfl ?_
  refine Bod.virt (r := []) dc_175_6 kr_175_82 ⟨Or.inl rfl, ow_127, cl_4⟩ (by rw [np_127]; rfl) (by rw [np_127]; rfl) (ob_of (mk_52 _)) (Nat.le_of_ble_eq_true rfl) (c2  ) ?_
  show Bod _ _ _ _ [_] _ _ _
  refine Bod.istn dc_175_9 (by rw [ml_175]; exact Nat.le_of_ble_eq_true rfl) ?_
  refine Bod.go dc_175_10 rfl ?_
  refine Bod.ifF dc_175_11 rfl w3 ?_
  refine Bod.go dc_175_14 rfl ?_
  refine Bod.get dc_175_15 fr_175_19 (mk_52 _) rfl ?_
  refine Bod.go dc_175_18 rfl ?_
  refine Bod.virt (r := []) dc_175_19 kr_175_247 ⟨Or.inr rfl, ow_169, cl_5⟩ (by rw [np_169]; rfl) (by rw [np_169]; rfl) (ob_of (mk_16 _)) (Nat.le_of_ble_eq_true rfl) (c3  ) ?_
  show Bod _ _ _ _ [_] _ _ _
  refine Bod.go dc_175_22 rfl ?_
  refine Bod.lstn dc_175_38 (by rw [ml_175]; exact Nat.le_of_ble_eq_true rfl) ?_
  refine Bod.go dc_175_39 rfl ?_
  refine Bod.stat (r := []) dc_175_40 kr_175_137 (Or.inr rfl) (by rw [np_134]; rfl) (by rw [np_134]; rfl) (by rw [np_134]; exact Nat.le_of_ble_eq_true rfl) (Nat.le_of_ble_eq_true rfl) (c4  ) ?_
  show Bod _ _ _ _ [_] _ _ _
  refine Bod.ifF dc_175_43 rfl (k1_ne_F (k_eq a 0 rfl rfl (by omega))) ?_
  refine Bod.ic 1 (by decide) dc_175_46 ?_
  exact Bod.retI dc_175_47 rt_175
theorem mCe_1 {d : Nat} {S : cS} {S1 : cS} {S2 : cS} {rb : Int32} (c1 : Ans (d + 8) 166 [.ref 52] S (some (.int (nI 1))) S1) (c2 : Ans (d + 8) 127 [.ref 52] S1 (some (.int rb)) S2) : Bod (d + 8) 176 0 [(0, .ref 52)] [] S (some (.int (nI 0))) (S2) := by
  refine Bod.go dc_176_0 rfl ?_
  refine Bod.virt (r := []) dc_176_1 kr_176_214 ⟨Or.inl rfl, ow_166, cl_4⟩ (by rw [np_166]; rfl) (by rw [np_166]; rfl) (ob_of (mk_52 _)) (Nat.le_of_ble_eq_true rfl) (c1  ) ?_
  show Bod _ _ _ _ [_] _ _ _
  refine Bod.istn dc_176_4 (by rw [ml_176]; exact Nat.le_of_ble_eq_true rfl) ?_
  refine Bod.go dc_176_5 rfl ?_
  refine Bod.virt (r := []) dc_176_6 kr_176_82 ⟨Or.inl rfl, ow_127, cl_4⟩ (by rw [np_127]; rfl) (by rw [np_127]; rfl) (ob_of (mk_52 _)) (Nat.le_of_ble_eq_true rfl) (c2  ) ?_
  show Bod _ _ _ _ [_] _ _ _
  refine Bod.istn dc_176_9 (by rw [ml_176]; exact Nat.le_of_ble_eq_true rfl) ?_
  refine Bod.go dc_176_10 rfl ?_
  refine Bod.ifF dc_176_11 rfl (k1_eq_F (k_ne 1 0 rfl rfl (by omega) (by omega) (by omega))) ?_
  refine Bod.ic 0 (by decide) dc_176_14 ?_
  exact Bod.retI dc_176_15 rt_176
theorem mCe_2 {d : Nat} {S : cS} {S1 : cS} {S2 : cS} {rb : Int32} {S3 : cS} (c1 : Ans (d + 8) 166 [.ref 52] S (some (.int (nI 0))) S1) (c2 : Ans (d + 8) 127 [.ref 52] S1 (some (.int rb)) S2) (w3 : sm_c1 .ne rb true false = true) (c3 : Ans (d + 8) 153 [.ref 46, .long ((5764607523034234880)), .long rb.toInt64] S2 none S3) : Bod (d + 8) 176 0 [(0, .ref 52)] [] S (some (.int (nI 0))) (S3) := by
  refine Bod.go dc_176_0 rfl ?_
  refine Bod.virt (r := []) dc_176_1 kr_176_214 ⟨Or.inl rfl, ow_166, cl_4⟩ (by rw [np_166]; rfl) (by rw [np_166]; rfl) (ob_of (mk_52 _)) (Nat.le_of_ble_eq_true rfl) (c1  ) ?_
  show Bod _ _ _ _ [_] _ _ _
  refine Bod.istn dc_176_4 (by rw [ml_176]; exact Nat.le_of_ble_eq_true rfl) ?_
  refine Bod.go dc_176_5 rfl ?_
  refine Bod.virt (r := []) dc_176_6 kr_176_82 ⟨Or.inl rfl, ow_127, cl_4⟩ (by rw [np_127]; rfl) (by rw [np_127]; rfl) (ob_of (mk_52 _)) (Nat.le_of_ble_eq_true rfl) (c2  ) ?_
  show Bod _ _ _ _ [_] _ _ _
  refine Bod.istn dc_176_9 (by rw [ml_176]; exact Nat.le_of_ble_eq_true rfl) ?_
  refine Bod.go dc_176_10 rfl ?_
  refine Bod.ifT dc_176_11 rfl (k1_eq_T (k_eq 0 0 rfl rfl (by omega))) ?_
  refine Bod.go dc_176_16 rfl ?_
  refine Bod.ifT dc_176_17 rfl w3 ?_
  refine Bod.go dc_176_22 rfl ?_
  refine Bod.get dc_176_23 fr_176_23 (mk_52 _) rfl ?_
  refine Bod.ldc2 dc_176_26 cj_176_261 ?_
  refine Bod.go dc_176_29 rfl ?_
  refine Bod.go dc_176_30 rfl ?_
  refine Bod.virt (r := []) dc_176_31 kr_176_146 ⟨Or.inr rfl, ow_153, cl_9⟩ (by rw [np_153]; rfl) (by rw [np_153]; rfl) (ob_of (mk_46 _)) (Nat.le_of_ble_eq_true rfl) (c3  ) ?_
  show Bod _ _ _ _ [] _ _ _
  refine Bod.ic 0 (by decide) dc_176_34 ?_
  exact Bod.retI dc_176_35 rt_176
theorem mCe_3 {d : Nat} {S : cS} {S1 : cS} {S2 : cS} {rb : Int32} (c1 : Ans (d + 8) 166 [.ref 52] S (some (.int (nI 0))) S1) (c2 : Ans (d + 8) 127 [.ref 52] S1 (some (.int rb)) S2) (w3 : sm_c1 .ne rb true false = false) : Bod (d + 8) 176 0 [(0, .ref 52)] [] S (some (.int (nI 1))) (S2) := by
  refine Bod.go dc_176_0 rfl ?_
  refine Bod.virt (r := []) dc_176_1 kr_176_214 ⟨Or.inl rfl, ow_166, cl_4⟩ (by rw [np_166]; rfl) (by rw [np_166]; rfl) (ob_of (mk_52 _)) (Nat.le_of_ble_eq_true rfl) (c1  ) ?_
  show Bod _ _ _ _ [_] _ _ _
  refine Bod.istn dc_176_4 (by rw [ml_176]; exact Nat.le_of_ble_eq_true rfl) ?_
  refine Bod.go dc_176_5 rfl ?_
  refine Bod.virt (r := []) dc_176_6 kr_176_82 ⟨Or.inl rfl, ow_127, cl_4⟩ (by rw [np_127]; rfl) (by rw [np_127]; rfl) (ob_of (mk_52 _)) (Nat.le_of_ble_eq_true rfl) (c2  ) ?_
  show Bod _ _ _ _ [_] _ _ _
  refine Bod.istn dc_176_9 (by rw [ml_176]; exact Nat.le_of_ble_eq_true rfl) ?_
  refine Bod.go dc_176_10 rfl ?_
  refine Bod.ifT dc_176_11 rfl (k1_eq_T (k_eq 0 0 rfl rfl (by omega))) ?_
  refine Bod.go dc_176_16 rfl ?_
  refine Bod.ifF dc_176_17 rfl w3 ?_
  refine Bod.ic 1 (by decide) dc_176_20 ?_
  exact Bod.retI dc_176_21 rt_176
theorem mMf_1 {d : Nat} {S : cS} {nm : Int32} {S1 : cS} {rb : Int32} {S2 : cS} {S3 : cS} (c1 : Ans (d + 8) 178 [.ref 2, .int (nI 3)] S (some (.int rb)) S1) (w2 : sm_c1 .ne rb true false = true) (c2 : Ans (d + 8) 179 [.ref 2, .int rb, .int nm, .int (sI S1 5215), .int (nI 0)] S1 none S2) (c3 : Ans (d + 8) 153 [.ref 46, .long ((4611686018427387904)), .long rb.toInt64] S2 none S3) : Bod (d + 8) 177 0 [(0, .ref 52), (1, .int nm)] [] S (some (.int (nI 0))) (S3) := by
  refine Bod.go dc_177_0 rfl ?_
  refine Bod.get dc_177_1 fr_177_15 (mk_52 _) rfl ?_
  refine Bod.ic 3 (by decide) dc_177_4 ?_
  refine Bod.virt (r := []) dc_177_5 kr_177_263 ⟨Or.inr rfl, ow_178, cl_2⟩ (by rw [np_178]; rfl) (by rw [np_178]; rfl) (ob_of (mk_2 _)) (Nat.le_of_ble_eq_true rfl) (c1  ) ?_
  show Bod _ _ _ _ [_] _ _ _
  refine Bod.istn dc_177_8 (by rw [ml_177]; exact Nat.le_of_ble_eq_true rfl) ?_
  refine Bod.go dc_177_9 rfl ?_
  refine Bod.ifT dc_177_10 rfl w2 ?_
  refine Bod.go dc_177_16 rfl ?_
  refine Bod.get dc_177_17 fr_177_15 (mk_52 _) rfl ?_
  refine Bod.go dc_177_20 rfl ?_
  refine Bod.go dc_177_21 rfl ?_
  refine Bod.go dc_177_22 rfl ?_
  refine Bod.get dc_177_23 fr_177_78 (mk_52 _) rfl ?_
  refine Bod.ic 0 (by decide) dc_177_26 ?_
  refine Bod.virt (r := []) dc_177_27 kr_177_266 ⟨Or.inr rfl, ow_179, cl_2⟩ (by rw [np_179]; rfl) (by rw [np_179]; rfl) (ob_of (mk_2 _)) (Nat.le_of_ble_eq_true rfl) (c2  ) ?_
  show Bod _ _ _ _ [] _ _ _
  refine Bod.go dc_177_30 rfl ?_
  refine Bod.get dc_177_31 fr_177_23 (mk_52 _) rfl ?_
  refine Bod.ldc2 dc_177_34 cj_177_270 ?_
  refine Bod.go dc_177_37 rfl ?_
  refine Bod.go dc_177_38 rfl ?_
  refine Bod.virt (r := []) dc_177_39 kr_177_146 ⟨Or.inr rfl, ow_153, cl_9⟩ (by rw [np_153]; rfl) (by rw [np_153]; rfl) (ob_of (mk_46 _)) (Nat.le_of_ble_eq_true rfl) (c3  ) ?_
  show Bod _ _ _ _ [] _ _ _
  refine Bod.ic 0 (by decide) dc_177_42 ?_
  exact Bod.retI dc_177_43 rt_177
theorem mMf_2 {d : Nat} {S : cS} {nm : Int32} {S1 : cS} {rb : Int32} (c1 : Ans (d + 8) 178 [.ref 2, .int (nI 3)] S (some (.int rb)) S1) (w2 : sm_c1 .ne rb true false = false) : Bod (d + 8) 177 0 [(0, .ref 52), (1, .int nm)] [] S (some (.int (nI 8))) (S1) := by
  refine Bod.go dc_177_0 rfl ?_
  refine Bod.get dc_177_1 fr_177_15 (mk_52 _) rfl ?_
  refine Bod.ic 3 (by decide) dc_177_4 ?_
  refine Bod.virt (r := []) dc_177_5 kr_177_263 ⟨Or.inr rfl, ow_178, cl_2⟩ (by rw [np_178]; rfl) (by rw [np_178]; rfl) (ob_of (mk_2 _)) (Nat.le_of_ble_eq_true rfl) (c1  ) ?_
  show Bod _ _ _ _ [_] _ _ _
  refine Bod.istn dc_177_8 (by rw [ml_177]; exact Nat.le_of_ble_eq_true rfl) ?_
  refine Bod.go dc_177_9 rfl ?_
  refine Bod.ifF dc_177_10 rfl w2 ?_
  refine Bod.bip 8 (by decide) dc_177_13 ?_
  exact Bod.retI dc_177_15 rt_177
theorem mCb_1 {d : Nat} {S : cS} {S1 : cS} {rb : Int32} {S2 : cS} {u : Int64} {S3 : cS} {a : Nat} (c1 : Ans (d + 8) 88 [.ref 23, .int (sI S 5216)] S (some (.int rb)) S1) (c2 : Ans (d + 8) 132 [.ref 46, .int rb] S1 (some (.long u)) S2) (ma : a < 2 ^ 20) (c3 : Ans (d + 8) 134 [.long u] S2 (some (.int (nI a))) S3) (b1 : a ≠ 5) : Bod (d + 8) 225 0 [(0, .ref 52)] [] S (some (.int 0)) (S3) := by
  refine Bod.go dc_225_0 rfl ?_
  refine Bod.get dc_225_1 fr_225_23 (mk_52 _) rfl ?_
  refine Bod.go dc_225_4 rfl ?_
  refine Bod.get dc_225_5 fr_225_11 (mk_52 _) rfl ?_
  refine Bod.go dc_225_8 rfl ?_
  refine Bod.get dc_225_9 fr_225_69 (mk_52 _) rfl ?_
  refine Bod.virt (r := [_]) dc_225_12 kr_225_130 ⟨Or.inr rfl, ow_88, cl_7⟩ (by rw [np_88]; rfl) (by rw [np_88]; rfl) (ob_of (mk_23 _)) (Nat.le_of_ble_eq_true rfl) (c1  ) ?_
  show Bod _ _ _ _ [_, _] _ _ _
  refine Bod.virt (r := []) dc_225_15 kr_225_133 ⟨Or.inr rfl, ow_132, cl_9⟩ (by rw [np_132]; rfl) (by rw [np_132]; rfl) (ob_of (mk_46 _)) (Nat.le_of_ble_eq_true rfl) (c2  ) ?_
  show Bod _ _ _ _ [_] _ _ _
  refine Bod.stat (r := []) dc_225_18 kr_225_137 (Or.inr rfl) (by rw [np_134]; rfl) (by rw [np_134]; rfl) (by rw [np_134]; exact Nat.le_of_ble_eq_true rfl) (Nat.le_of_ble_eq_true rfl) (c3  ) ?_
  show Bod _ _ _ _ [_] _ _ _
  refine Bod.ic 5 (by decide) dc_225_21 ?_
  refine Bod.icT dc_225_22 rfl (k2_ne_T (k_ne a 5 rfl rfl (by omega) (by omega) (by omega))) ?_
  refine Bod.ic 0 (by decide) dc_225_29 ?_
  exact Bod.retZ dc_225_30 rt_225 (Or.inl rfl)
theorem mCb_2 {d : Nat} {S : cS} {S1 : cS} {rb : Int32} {S2 : cS} {u : Int64} {S3 : cS} {a : Nat} (c1 : Ans (d + 8) 88 [.ref 23, .int (sI S 5216)] S (some (.int rb)) S1) (c2 : Ans (d + 8) 132 [.ref 46, .int rb] S1 (some (.long u)) S2) (ma : a < 2 ^ 20) (c3 : Ans (d + 8) 134 [.long u] S2 (some (.int (nI a))) S3) (b1 : a = 5) : Bod (d + 8) 225 0 [(0, .ref 52)] [] S (some (.int 1)) (S3) := by
  refine Bod.go dc_225_0 rfl ?_
  refine Bod.get dc_225_1 fr_225_23 (mk_52 _) rfl ?_
  refine Bod.go dc_225_4 rfl ?_
  refine Bod.get dc_225_5 fr_225_11 (mk_52 _) rfl ?_
  refine Bod.go dc_225_8 rfl ?_
  refine Bod.get dc_225_9 fr_225_69 (mk_52 _) rfl ?_
  refine Bod.virt (r := [_]) dc_225_12 kr_225_130 ⟨Or.inr rfl, ow_88, cl_7⟩ (by rw [np_88]; rfl) (by rw [np_88]; rfl) (ob_of (mk_23 _)) (Nat.le_of_ble_eq_true rfl) (c1  ) ?_
  show Bod _ _ _ _ [_, _] _ _ _
  refine Bod.virt (r := []) dc_225_15 kr_225_133 ⟨Or.inr rfl, ow_132, cl_9⟩ (by rw [np_132]; rfl) (by rw [np_132]; rfl) (ob_of (mk_46 _)) (Nat.le_of_ble_eq_true rfl) (c2  ) ?_
  show Bod _ _ _ _ [_] _ _ _
  refine Bod.stat (r := []) dc_225_18 kr_225_137 (Or.inr rfl) (by rw [np_134]; rfl) (by rw [np_134]; rfl) (by rw [np_134]; exact Nat.le_of_ble_eq_true rfl) (Nat.le_of_ble_eq_true rfl) (c3  ) ?_
  show Bod _ _ _ _ [_] _ _ _
  refine Bod.ic 5 (by decide) dc_225_21 ?_
  refine Bod.icF dc_225_22 rfl (k2_ne_F (k_eq a 5 rfl rfl (by omega))) ?_
  refine Bod.ic 1 (by decide) dc_225_25 ?_
  refine Bod.go dc_225_26 rfl ?_
  exact Bod.retZ dc_225_30 rt_225 (Or.inr rfl)
theorem mBi_1 {d : Nat} {S : cS} {S1 : cS} {rb : Int32} {S2 : cS} {u : Int64} (c1 : Ans (d + 8) 88 [.ref 23, .int (sI S 5216)] S (some (.int rb)) S1) (c2 : Ans (d + 8) 135 [.ref 46, .int rb] S1 (some (.long u)) S2) : Bod (d + 8) 226 0 [(0, .ref 52)] [] S (some (.int u.toInt32)) (S2) := by
  refine Bod.go dc_226_0 rfl ?_
  refine Bod.get dc_226_1 fr_226_23 (mk_52 _) rfl ?_
  refine Bod.go dc_226_4 rfl ?_
  refine Bod.get dc_226_5 fr_226_11 (mk_52 _) rfl ?_
  refine Bod.go dc_226_8 rfl ?_
  refine Bod.get dc_226_9 fr_226_69 (mk_52 _) rfl ?_
  refine Bod.virt (r := [_]) dc_226_12 kr_226_130 ⟨Or.inr rfl, ow_88, cl_7⟩ (by rw [np_88]; rfl) (by rw [np_88]; rfl) (ob_of (mk_23 _)) (Nat.le_of_ble_eq_true rfl) (c1  ) ?_
  show Bod _ _ _ _ [_, _] _ _ _
  refine Bod.virt (r := []) dc_226_15 kr_226_141 ⟨Or.inr rfl, ow_135, cl_9⟩ (by rw [np_135]; rfl) (by rw [np_135]; rfl) (ob_of (mk_46 _)) (Nat.le_of_ble_eq_true rfl) (c2  ) ?_
  show Bod _ _ _ _ [_] _ _ _
  refine Bod.go dc_226_18 rfl ?_
  exact Bod.retI dc_226_19 rt_226
theorem xsw_253_17 : ∀ b, b < 64 → (b = 3 ∨ b = 4 ∨ b = 6 ∨ sm_br (.tableswitch (70) 3 6 #[31, 63, 70, 40]) 31 17 [.int (nI b)] = some (87, [])) := by decide +kernel
theorem mCl_1 {d : Nat} {S : cS} {gv : Nat} {S1 : cS} {a : Nat} {S2 : cS} {a1 : Nat} {S3 : cS} {rb : Int32} (mgv : gv < 2 ^ 20) (ma : a < 2 ^ 20) (c1 : Ans (d + 8) 136 [.ref 46, .int (nI gv)] S (some (.int (nI a))) S1) (ma1 : a1 < 2 ^ 20) (c2 : Ans (d + 8) 138 [.ref 2, .int (nI a)] S1 (some (.int (nI a1))) S2) (sw6 : a1 = 3) (c3 : Ans (d + 8) 254 [.ref 52, .int (nI a), .int (nI gv), .int (nI 0), .int (nI 0)] S2 (some (.int rb)) S3) : Bod (d + 8) 253 0 [(0, .ref 52), (1, .int (nI gv))] [] S (some (.int rb)) (S3) := by
  refine Bod.go dc_253_0 rfl ?_
  refine Bod.get dc_253_1 fr_253_23 (mk_52 _) rfl ?_
  refine Bod.go dc_253_4 rfl ?_
  refine Bod.virt (r := []) dc_253_5 kr_253_286 ⟨Or.inr rfl, ow_136, cl_9⟩ (by rw [np_136]; rfl) (by rw [np_136]; rfl) (ob_of (mk_46 _)) (Nat.le_of_ble_eq_true rfl) (c1  ) ?_
  show Bod _ _ _ _ [_] _ _ _
  refine Bod.istn dc_253_8 (by rw [ml_253]; exact Nat.le_of_ble_eq_true rfl) ?_
  refine Bod.go dc_253_9 rfl ?_
  refine Bod.get dc_253_10 fr_253_15 (mk_52 _) rfl ?_
  refine Bod.go dc_253_13 rfl ?_
  refine Bod.virt (r := []) dc_253_14 kr_253_288 ⟨Or.inr rfl, ow_138, cl_2⟩ (by rw [np_138]; rfl) (by rw [np_138]; rfl) (ob_of (mk_2 _)) (Nat.le_of_ble_eq_true rfl) (c2  ) ?_
  show Bod _ _ _ _ [_] _ _ _
  refine Bod.sw (t := 48) dc_253_17 rfl rfl (by rw [sw6]; decide +kernel) ?_
  refine Bod.go dc_253_48 rfl ?_
  refine Bod.go dc_253_49 rfl ?_
  refine Bod.go dc_253_50 rfl ?_
  refine Bod.ic 0 (by decide) dc_253_51 ?_
  refine Bod.ic 0 (by decide) dc_253_52 ?_
  refine Bod.virt (r := []) dc_253_53 kr_253_291 ⟨Or.inl rfl, ow_254, cl_4⟩ (by rw [np_254]; rfl) (by rw [np_254]; rfl) (ob_of (mk_52 _)) (Nat.le_of_ble_eq_true rfl) (c3  ) ?_
  show Bod _ _ _ _ [_] _ _ _
  exact Bod.retI dc_253_56 rt_253
theorem mCl_2 {d : Nat} {S : cS} {gv : Nat} {S1 : cS} {a : Nat} {S2 : cS} {a1 : Nat} {S3 : cS} {a2 : Nat} (mgv : gv < 2 ^ 20) (ma : a < 2 ^ 20) (c1 : Ans (d + 8) 136 [.ref 46, .int (nI gv)] S (some (.int (nI a))) S1) (ma1 : a1 < 2 ^ 20) (c2 : Ans (d + 8) 138 [.ref 2, .int (nI a)] S1 (some (.int (nI a1))) S2) (sw6 : a1 = 4) (ma2 : a2 < 2 ^ 20) (c3 : Ans (d + 8) 265 [.ref 52, .int (nI a), .int (nI gv)] S2 (some (.int (nI a2))) S3) : Bod (d + 8) 253 0 [(0, .ref 52), (1, .int (nI gv))] [] S (some (.int (nI a2))) (S3) := by
  refine Bod.go dc_253_0 rfl ?_
  refine Bod.get dc_253_1 fr_253_23 (mk_52 _) rfl ?_
  refine Bod.go dc_253_4 rfl ?_
  refine Bod.virt (r := []) dc_253_5 kr_253_286 ⟨Or.inr rfl, ow_136, cl_9⟩ (by rw [np_136]; rfl) (by rw [np_136]; rfl) (ob_of (mk_46 _)) (Nat.le_of_ble_eq_true rfl) (c1  ) ?_
  show Bod _ _ _ _ [_] _ _ _
  refine Bod.istn dc_253_8 (by rw [ml_253]; exact Nat.le_of_ble_eq_true rfl) ?_
  refine Bod.go dc_253_9 rfl ?_
  refine Bod.get dc_253_10 fr_253_15 (mk_52 _) rfl ?_
  refine Bod.go dc_253_13 rfl ?_
  refine Bod.virt (r := []) dc_253_14 kr_253_288 ⟨Or.inr rfl, ow_138, cl_2⟩ (by rw [np_138]; rfl) (by rw [np_138]; rfl) (ob_of (mk_2 _)) (Nat.le_of_ble_eq_true rfl) (c2  ) ?_
  show Bod _ _ _ _ [_] _ _ _
  refine Bod.sw (t := 80) dc_253_17 rfl rfl (by rw [sw6]; decide +kernel) ?_
  refine Bod.go dc_253_80 rfl ?_
  refine Bod.go dc_253_81 rfl ?_
  refine Bod.go dc_253_82 rfl ?_
  refine Bod.virt (r := []) dc_253_83 kr_253_298 ⟨Or.inl rfl, ow_265, cl_4⟩ (by rw [np_265]; rfl) (by rw [np_265]; rfl) (ob_of (mk_52 _)) (Nat.le_of_ble_eq_true rfl) (c3  ) ?_
  show Bod _ _ _ _ [_] _ _ _
  exact Bod.retI dc_253_86 rt_253
theorem mCl_3 {d : Nat} {S : cS} {gv : Nat} {S1 : cS} {a : Nat} {S2 : cS} {a1 : Nat} {S3 : cS} {rb : Int32} {S4 : cS} {a2 : Nat} {S5 : cS} {rb1 : Int32} (mgv : gv < 2 ^ 20) (ma : a < 2 ^ 20) (c1 : Ans (d + 8) 136 [.ref 46, .int (nI gv)] S (some (.int (nI a))) S1) (ma1 : a1 < 2 ^ 20) (c2 : Ans (d + 8) 138 [.ref 2, .int (nI a)] S1 (some (.int (nI a1))) S2) (sw6 : a1 = 6) (c3 : Ans (d + 8) 168 [.ref 2, .int (nI a)] S2 (some (.int rb)) S3) (ma2 : a2 < 2 ^ 20) (c4 : Ans (d + 8) 264 [.ref 2, .int (nI a)] S3 (some (.int (nI a2))) S4) (c5 : Ans (d + 8) 254 [.ref 52, .int rb, .int (nI gv), .int (nI a2), .int (nI 0)] S4 (some (.int rb1)) S5) : Bod (d + 8) 253 0 [(0, .ref 52), (1, .int (nI gv))] [] S (some (.int rb1)) (S5) := by
  refine Bod.go dc_253_0 rfl ?_
  refine Bod.get dc_253_1 fr_253_23 (mk_52 _) rfl ?_
  refine Bod.go dc_253_4 rfl ?_
  refine Bod.virt (r := []) dc_253_5 kr_253_286 ⟨Or.inr rfl, ow_136, cl_9⟩ (by rw [np_136]; rfl) (by rw [np_136]; rfl) (ob_of (mk_46 _)) (Nat.le_of_ble_eq_true rfl) (c1  ) ?_
  show Bod _ _ _ _ [_] _ _ _
  refine Bod.istn dc_253_8 (by rw [ml_253]; exact Nat.le_of_ble_eq_true rfl) ?_
  refine Bod.go dc_253_9 rfl ?_
  refine Bod.get dc_253_10 fr_253_15 (mk_52 _) rfl ?_
  refine Bod.go dc_253_13 rfl ?_
  refine Bod.virt (r := []) dc_253_14 kr_253_288 ⟨Or.inr rfl, ow_138, cl_2⟩ (by rw [np_138]; rfl) (by rw [np_138]; rfl) (ob_of (mk_2 _)) (Nat.le_of_ble_eq_true rfl) (c2  ) ?_
  show Bod _ _ _ _ [_] _ _ _
  refine Bod.sw (t := 57) dc_253_17 rfl rfl (by rw [sw6]; decide +kernel) ?_
  refine Bod.go dc_253_57 rfl ?_
  refine Bod.go dc_253_58 rfl ?_
  refine Bod.get dc_253_59 fr_253_15 (mk_52 _) rfl ?_
  refine Bod.go dc_253_62 rfl ?_
  refine Bod.virt (r := [_]) dc_253_63 kr_253_241 ⟨Or.inr rfl, ow_168, cl_2⟩ (by rw [np_168]; rfl) (by rw [np_168]; rfl) (ob_of (mk_2 _)) (Nat.le_of_ble_eq_true rfl) (c3  ) ?_
  show Bod _ _ _ _ [_, _] _ _ _
  refine Bod.go dc_253_66 rfl ?_
  refine Bod.go dc_253_67 rfl ?_
  refine Bod.get dc_253_68 fr_253_15 (mk_52 _) rfl ?_
  refine Bod.go dc_253_71 rfl ?_
  refine Bod.virt (r := [_, _, _]) dc_253_72 kr_253_295 ⟨Or.inr rfl, ow_264, cl_2⟩ (by rw [np_264]; rfl) (by rw [np_264]; rfl) (ob_of (mk_2 _)) (Nat.le_of_ble_eq_true rfl) (c4  ) ?_
  show Bod _ _ _ _ [_, _, _, _] _ _ _
  refine Bod.ic 0 (by decide) dc_253_75 ?_
  refine Bod.virt (r := []) dc_253_76 kr_253_291 ⟨Or.inl rfl, ow_254, cl_4⟩ (by rw [np_254]; rfl) (by rw [np_254]; rfl) (ob_of (mk_52 _)) (Nat.le_of_ble_eq_true rfl) (c5  ) ?_
  show Bod _ _ _ _ [_] _ _ _
  exact Bod.retI dc_253_79 rt_253
theorem mCl_4 {d : Nat} {S : cS} {gv : Nat} {S1 : cS} {a : Nat} {S2 : cS} {a1 : Nat} (mgv : gv < 2 ^ 20) (ma : a < 2 ^ 20) (c1 : Ans (d + 8) 136 [.ref 46, .int (nI gv)] S (some (.int (nI a))) S1) (ma1 : a1 < 2 ^ 20) (c2 : Ans (d + 8) 138 [.ref 2, .int (nI a)] S1 (some (.int (nI a1))) S2) (b64 : a1 < 64) (n3 : a1 ≠ 3) (n4 : a1 ≠ 4) (n6 : a1 ≠ 6) : Bod (d + 8) 253 0 [(0, .ref 52), (1, .int (nI gv))] [] S (some (.int (nI 2))) (S2) := by
  refine Bod.go dc_253_0 rfl ?_
  refine Bod.get dc_253_1 fr_253_23 (mk_52 _) rfl ?_
  refine Bod.go dc_253_4 rfl ?_
  refine Bod.virt (r := []) dc_253_5 kr_253_286 ⟨Or.inr rfl, ow_136, cl_9⟩ (by rw [np_136]; rfl) (by rw [np_136]; rfl) (ob_of (mk_46 _)) (Nat.le_of_ble_eq_true rfl) (c1  ) ?_
  show Bod _ _ _ _ [_] _ _ _
  refine Bod.istn dc_253_8 (by rw [ml_253]; exact Nat.le_of_ble_eq_true rfl) ?_
  refine Bod.go dc_253_9 rfl ?_
  refine Bod.get dc_253_10 fr_253_15 (mk_52 _) rfl ?_
  refine Bod.go dc_253_13 rfl ?_
  refine Bod.virt (r := []) dc_253_14 kr_253_288 ⟨Or.inr rfl, ow_138, cl_2⟩ (by rw [np_138]; rfl) (by rw [np_138]; rfl) (ob_of (mk_2 _)) (Nat.le_of_ble_eq_true rfl) (c2  ) ?_
  show Bod _ _ _ _ [_] _ _ _
  refine Bod.sw (t := 87) dc_253_17 rfl rfl (((((xsw_253_17 a1 b64).resolve_left n3).resolve_left n4).resolve_left n6)) ?_
  refine Bod.ic 2 (by decide) dc_253_87 ?_
  exact Bod.retI dc_253_88 rt_253
theorem mMi_1 {d : Nat} {S : cS} {id : Nat} {gv : Nat} {S1 : cS} {rb : Int32} {S2 : cS} {S3 : cS} {S4 : cS} {u : Int64} {S5 : cS} {u1 : Int64} {S6 : cS} {a : Nat} {S7 : cS} {a1 : Nat} {S8 : cS} {u2 : Int64} {S9 : cS} {u3 : Int64} {S10 : cS} {rb1 : Int32} {S11 : cS} {a2 : Nat} {S12 : cS} (mid : id < 2 ^ 20) (mgv : gv < 2 ^ 20) (c1 : Ans (d + 8) 178 [.ref 2, .int (nI 5)] S (some (.int rb)) S1) (w4 : sm_c1 .ne rb true false = true) (c2 : Ans (d + 8) 149 [.ref 2, .ref 6, .int rb] S1 none S2) (c3 : Ans (d + 8) 179 [.ref 2, .int rb, .int (nI 0), .int (nI id), .int (nI 0)] S2 none S3) (c4 : Ans (d + 8) 181 [.ref 16, .int (nI 34)] S3 (some (.long u)) S4) (c5 : Ans (d + 8) 182 [.ref 16, .int (nI 34)] S4 (some (.long u1)) S5) (ma : a < 2 ^ 20) (c6 : Ans (d + 8) 220 [.ref 2, .int (nI id), .long u, .long u1] S5 (some (.int (nI a))) S6) (ma1 : a1 < 2 ^ 20) (c7 : Ans (d + 8) 206 [.ref 2, .int (nI a), .long u, .long u1] S6 (some (.int (nI a1))) S7) (c8 : Ans (d + 8) 156 [.ref 2, .int (nI a), .int (nI a1)] S7 (some (.long u2)) S8) (c9 : Ans (d + 8) 158 [.ref 2, .int (nI a), .int (nI a1)] S8 (some (.long u3)) S9) (c10 : Ans (d + 8) 137 [.long u2, .long u3] S9 (some (.int rb1)) S10) (ma2 : a2 < 2 ^ 20) (c11 : Ans (d + 8) 138 [.ref 2, .int rb1] S10 (some (.int (nI a2))) S11) (b1 : a2 ≠ 3) (b2 : gv ≠ 0) (c12 : Ans (d + 8) 142 [.ref 2, .ref 6, .int rb] S11 none S12) : Bod (d + 8) 265 0 [(0, .ref 52), (1, .int (nI id)), (2, .int (nI gv))] [] S (some (.int (nI 2))) (S12) := by
  refine Bod.go dc_265_0 rfl ?_
  refine Bod.get dc_265_1 fr_265_15 (mk_52 _) rfl ?_
  refine Bod.ic 5 (by decide) dc_265_4 ?_
  refine Bod.virt (r := []) dc_265_5 kr_265_263 ⟨Or.inr rfl, ow_178, cl_2⟩ (by rw [np_178]; rfl) (by rw [np_178]; rfl) (ob_of (mk_2 _)) (Nat.le_of_ble_eq_true rfl) (c1  ) ?_
  show Bod _ _ _ _ [_] _ _ _
  refine Bod.istn dc_265_8 (by rw [ml_265]; exact Nat.le_of_ble_eq_true rfl) ?_
  refine Bod.go dc_265_9 rfl ?_
  refine Bod.ifT dc_265_10 rfl w4 ?_
  refine Bod.go dc_265_16 rfl ?_
  refine Bod.get dc_265_17 fr_265_15 (mk_52 _) rfl ?_
  refine Bod.go dc_265_20 rfl ?_
  refine Bod.get dc_265_21 fr_265_15 (mk_52 _) rfl ?_
  refine Bod.get dc_265_24 fr_265_156 (mk_2 _) rfl ?_
  refine Bod.go dc_265_27 rfl ?_
  refine Bod.virt (r := []) dc_265_28 kr_265_301 ⟨Or.inr rfl, ow_149, cl_2⟩ (by rw [np_149]; rfl) (by rw [np_149]; rfl) (ob_of (mk_2 _)) (Nat.le_of_ble_eq_true rfl) (c2  ) ?_
  show Bod _ _ _ _ [] _ _ _
  refine Bod.go dc_265_31 rfl ?_
  refine Bod.get dc_265_32 fr_265_15 (mk_52 _) rfl ?_
  refine Bod.go dc_265_35 rfl ?_
  refine Bod.ic 0 (by decide) dc_265_36 ?_
  refine Bod.go dc_265_37 rfl ?_
  refine Bod.ic 0 (by decide) dc_265_38 ?_
  refine Bod.virt (r := []) dc_265_39 kr_265_266 ⟨Or.inr rfl, ow_179, cl_2⟩ (by rw [np_179]; rfl) (by rw [np_179]; rfl) (ob_of (mk_2 _)) (Nat.le_of_ble_eq_true rfl) (c3  ) ?_
  show Bod _ _ _ _ [] _ _ _
  refine Bod.go dc_265_42 rfl ?_
  refine Bod.get dc_265_43 fr_265_19 (mk_52 _) rfl ?_
  refine Bod.bip 34 (by decide) dc_265_46 ?_
  refine Bod.virt (r := []) dc_265_48 kr_265_272 ⟨Or.inr rfl, ow_181, cl_5⟩ (by rw [np_181]; rfl) (by rw [np_181]; rfl) (ob_of (mk_16 _)) (Nat.le_of_ble_eq_true rfl) (c4  ) ?_
  show Bod _ _ _ _ [_] _ _ _
  refine Bod.lst dc_265_51 (by rw [ml_265]; exact Nat.le_of_ble_eq_true rfl) ?_
  refine Bod.go dc_265_53 rfl ?_
  refine Bod.get dc_265_54 fr_265_19 (mk_52 _) rfl ?_
  refine Bod.bip 34 (by decide) dc_265_57 ?_
  refine Bod.virt (r := []) dc_265_59 kr_265_275 ⟨Or.inr rfl, ow_182, cl_5⟩ (by rw [np_182]; rfl) (by rw [np_182]; rfl) (ob_of (mk_16 _)) (Nat.le_of_ble_eq_true rfl) (c5  ) ?_
  show Bod _ _ _ _ [_] _ _ _
  refine Bod.lst dc_265_62 (by rw [ml_265]; exact Nat.le_of_ble_eq_true rfl) ?_
  refine Bod.go dc_265_64 rfl ?_
  refine Bod.get dc_265_65 fr_265_15 (mk_52 _) rfl ?_
  refine Bod.go dc_265_68 rfl ?_
  refine Bod.go dc_265_69 rfl ?_
  refine Bod.go dc_265_71 rfl ?_
  refine Bod.virt (r := []) dc_265_73 kr_265_304 ⟨Or.inr rfl, ow_220, cl_2⟩ (by rw [np_220]; rfl) (by rw [np_220]; rfl) (ob_of (mk_2 _)) (Nat.le_of_ble_eq_true rfl) (c6  ) ?_
  show Bod _ _ _ _ [_] _ _ _
  refine Bod.ist dc_265_76 (by rw [ml_265]; exact Nat.le_of_ble_eq_true rfl) ?_
  refine Bod.go dc_265_78 rfl ?_
  refine Bod.get dc_265_79 fr_265_15 (mk_52 _) rfl ?_
  refine Bod.go dc_265_82 rfl ?_
  refine Bod.go dc_265_84 rfl ?_
  refine Bod.go dc_265_86 rfl ?_
  refine Bod.virt (r := []) dc_265_88 kr_265_307 ⟨Or.inr rfl, ow_206, cl_2⟩ (by rw [np_206]; rfl) (by rw [np_206]; rfl) (ob_of (mk_2 _)) (Nat.le_of_ble_eq_true rfl) (c7  ) ?_
  show Bod _ _ _ _ [_] _ _ _
  refine Bod.ist dc_265_91 (by rw [ml_265]; exact Nat.le_of_ble_eq_true rfl) ?_
  refine Bod.go dc_265_93 rfl ?_
  refine Bod.get dc_265_94 fr_265_15 (mk_52 _) rfl ?_
  refine Bod.go dc_265_97 rfl ?_
  refine Bod.go dc_265_99 rfl ?_
  refine Bod.virt (r := []) dc_265_101 kr_265_200 ⟨Or.inr rfl, ow_156, cl_2⟩ (by rw [np_156]; rfl) (by rw [np_156]; rfl) (ob_of (mk_2 _)) (Nat.le_of_ble_eq_true rfl) (c8  ) ?_
  show Bod _ _ _ _ [_] _ _ _
  refine Bod.go dc_265_104 rfl ?_
  refine Bod.get dc_265_105 fr_265_15 (mk_52 _) rfl ?_
  refine Bod.go dc_265_108 rfl ?_
  refine Bod.go dc_265_110 rfl ?_
  refine Bod.virt (r := [_]) dc_265_112 kr_265_204 ⟨Or.inr rfl, ow_158, cl_2⟩ (by rw [np_158]; rfl) (by rw [np_158]; rfl) (ob_of (mk_2 _)) (Nat.le_of_ble_eq_true rfl) (c9  ) ?_
  show Bod _ _ _ _ [_, _] _ _ _
  refine Bod.stat (r := []) dc_265_115 kr_265_310 (Or.inr rfl) (by rw [np_137]; rfl) (by rw [np_137]; rfl) (by rw [np_137]; exact Nat.le_of_ble_eq_true rfl) (Nat.le_of_ble_eq_true rfl) (c10  ) ?_
  show Bod _ _ _ _ [_] _ _ _
  refine Bod.ist dc_265_118 (by rw [ml_265]; exact Nat.le_of_ble_eq_true rfl) ?_
  refine Bod.ic 2 (by decide) dc_265_120 ?_
  refine Bod.ist dc_265_121 (by rw [ml_265]; exact Nat.le_of_ble_eq_true rfl) ?_
  refine Bod.go dc_265_123 rfl ?_
  refine Bod.get dc_265_124 fr_265_15 (mk_52 _) rfl ?_
  refine Bod.go dc_265_127 rfl ?_
  refine Bod.virt (r := []) dc_265_129 kr_265_288 ⟨Or.inr rfl, ow_138, cl_2⟩ (by rw [np_138]; rfl) (by rw [np_138]; rfl) (ob_of (mk_2 _)) (Nat.le_of_ble_eq_true rfl) (c11  ) ?_
  show Bod _ _ _ _ [_] _ _ _
  refine Bod.ic 3 (by decide) dc_265_132 ?_
  refine Bod.icT dc_265_133 rfl (k2_ne_T (k_ne a2 3 rfl rfl (by omega) (by omega) (by omega))) ?_
  refine Bod.go dc_265_154 rfl ?_
  refine Bod.ifT dc_265_155 rfl (k1_ne_T (k_ne gv 0 rfl rfl (by omega) (by omega) (by omega))) ?_
  refine Bod.go dc_265_173 rfl ?_
  refine Bod.get dc_265_174 fr_265_15 (mk_52 _) rfl ?_
  refine Bod.go dc_265_177 rfl ?_
  refine Bod.get dc_265_178 fr_265_15 (mk_52 _) rfl ?_
  refine Bod.get dc_265_181 fr_265_156 (mk_2 _) rfl ?_
  refine Bod.go dc_265_184 rfl ?_
  refine Bod.virt (r := []) dc_265_185 kr_265_161 ⟨Or.inr rfl, ow_142, cl_2⟩ (by rw [np_142]; rfl) (by rw [np_142]; rfl) (ob_of (mk_2 _)) (Nat.le_of_ble_eq_true rfl) (c12  ) ?_
  show Bod _ _ _ _ [] _ _ _
  refine Bod.go dc_265_188 rfl ?_
  exact Bod.retI dc_265_190 rt_265
theorem mMi_2 {d : Nat} {S : cS} {id : Nat} {gv : Nat} {S1 : cS} {rb : Int32} {S2 : cS} {S3 : cS} {S4 : cS} {u : Int64} {S5 : cS} {u1 : Int64} {S6 : cS} {a : Nat} {S7 : cS} {a1 : Nat} {S8 : cS} {u2 : Int64} {S9 : cS} {u3 : Int64} {S10 : cS} {rb1 : Int32} {S11 : cS} {a2 : Nat} {S12 : cS} {a3 : Nat} {S13 : cS} (mid : id < 2 ^ 20) (mgv : gv < 2 ^ 20) (c1 : Ans (d + 8) 178 [.ref 2, .int (nI 5)] S (some (.int rb)) S1) (w4 : sm_c1 .ne rb true false = true) (c2 : Ans (d + 8) 149 [.ref 2, .ref 6, .int rb] S1 none S2) (c3 : Ans (d + 8) 179 [.ref 2, .int rb, .int (nI 0), .int (nI id), .int (nI 0)] S2 none S3) (c4 : Ans (d + 8) 181 [.ref 16, .int (nI 34)] S3 (some (.long u)) S4) (c5 : Ans (d + 8) 182 [.ref 16, .int (nI 34)] S4 (some (.long u1)) S5) (ma : a < 2 ^ 20) (c6 : Ans (d + 8) 220 [.ref 2, .int (nI id), .long u, .long u1] S5 (some (.int (nI a))) S6) (ma1 : a1 < 2 ^ 20) (c7 : Ans (d + 8) 206 [.ref 2, .int (nI a), .long u, .long u1] S6 (some (.int (nI a1))) S7) (c8 : Ans (d + 8) 156 [.ref 2, .int (nI a), .int (nI a1)] S7 (some (.long u2)) S8) (c9 : Ans (d + 8) 158 [.ref 2, .int (nI a), .int (nI a1)] S8 (some (.long u3)) S9) (c10 : Ans (d + 8) 137 [.long u2, .long u3] S9 (some (.int rb1)) S10) (ma2 : a2 < 2 ^ 20) (c11 : Ans (d + 8) 138 [.ref 2, .int rb1] S10 (some (.int (nI a2))) S11) (b1 : a2 ≠ 3) (b2 : gv = 0) (ma3 : a3 < 2 ^ 20) (c12 : Ans (d + 8) 148 [.ref 46, .int (nI 1), .long ((4611686018427387904)), .long rb.toInt64] S11 (some (.int (nI a3))) S12) (c13 : Ans (d + 8) 142 [.ref 2, .ref 6, .int rb] S12 none S13) : Bod (d + 8) 265 0 [(0, .ref 52), (1, .int (nI id)), (2, .int (nI gv))] [] S (some (.int (nI a3))) (S13) := by
  refine Bod.go dc_265_0 rfl ?_
  refine Bod.get dc_265_1 fr_265_15 (mk_52 _) rfl ?_
  refine Bod.ic 5 (by decide) dc_265_4 ?_
  refine Bod.virt (r := []) dc_265_5 kr_265_263 ⟨Or.inr rfl, ow_178, cl_2⟩ (by rw [np_178]; rfl) (by rw [np_178]; rfl) (ob_of (mk_2 _)) (Nat.le_of_ble_eq_true rfl) (c1  ) ?_
  show Bod _ _ _ _ [_] _ _ _
  refine Bod.istn dc_265_8 (by rw [ml_265]; exact Nat.le_of_ble_eq_true rfl) ?_
  refine Bod.go dc_265_9 rfl ?_
  refine Bod.ifT dc_265_10 rfl w4 ?_
  refine Bod.go dc_265_16 rfl ?_
  refine Bod.get dc_265_17 fr_265_15 (mk_52 _) rfl ?_
  refine Bod.go dc_265_20 rfl ?_
  refine Bod.get dc_265_21 fr_265_15 (mk_52 _) rfl ?_
  refine Bod.get dc_265_24 fr_265_156 (mk_2 _) rfl ?_
  refine Bod.go dc_265_27 rfl ?_
  refine Bod.virt (r := []) dc_265_28 kr_265_301 ⟨Or.inr rfl, ow_149, cl_2⟩ (by rw [np_149]; rfl) (by rw [np_149]; rfl) (ob_of (mk_2 _)) (Nat.le_of_ble_eq_true rfl) (c2  ) ?_
  show Bod _ _ _ _ [] _ _ _
  refine Bod.go dc_265_31 rfl ?_
  refine Bod.get dc_265_32 fr_265_15 (mk_52 _) rfl ?_
  refine Bod.go dc_265_35 rfl ?_
  refine Bod.ic 0 (by decide) dc_265_36 ?_
  refine Bod.go dc_265_37 rfl ?_
  refine Bod.ic 0 (by decide) dc_265_38 ?_
  refine Bod.virt (r := []) dc_265_39 kr_265_266 ⟨Or.inr rfl, ow_179, cl_2⟩ (by rw [np_179]; rfl) (by rw [np_179]; rfl) (ob_of (mk_2 _)) (Nat.le_of_ble_eq_true rfl) (c3  ) ?_
  show Bod _ _ _ _ [] _ _ _
  refine Bod.go dc_265_42 rfl ?_
  refine Bod.get dc_265_43 fr_265_19 (mk_52 _) rfl ?_
  refine Bod.bip 34 (by decide) dc_265_46 ?_
  refine Bod.virt (r := []) dc_265_48 kr_265_272 ⟨Or.inr rfl, ow_181, cl_5⟩ (by rw [np_181]; rfl) (by rw [np_181]; rfl) (ob_of (mk_16 _)) (Nat.le_of_ble_eq_true rfl) (c4  ) ?_
  show Bod _ _ _ _ [_] _ _ _
  refine Bod.lst dc_265_51 (by rw [ml_265]; exact Nat.le_of_ble_eq_true rfl) ?_
  refine Bod.go dc_265_53 rfl ?_
  refine Bod.get dc_265_54 fr_265_19 (mk_52 _) rfl ?_
  refine Bod.bip 34 (by decide) dc_265_57 ?_
  refine Bod.virt (r := []) dc_265_59 kr_265_275 ⟨Or.inr rfl, ow_182, cl_5⟩ (by rw [np_182]; rfl) (by rw [np_182]; rfl) (ob_of (mk_16 _)) (Nat.le_of_ble_eq_true rfl) (c5  ) ?_
  show Bod _ _ _ _ [_] _ _ _
  refine Bod.lst dc_265_62 (by rw [ml_265]; exact Nat.le_of_ble_eq_true rfl) ?_
  refine Bod.go dc_265_64 rfl ?_
  refine Bod.get dc_265_65 fr_265_15 (mk_52 _) rfl ?_
  refine Bod.go dc_265_68 rfl ?_
  refine Bod.go dc_265_69 rfl ?_
  refine Bod.go dc_265_71 rfl ?_
  refine Bod.virt (r := []) dc_265_73 kr_265_304 ⟨Or.inr rfl, ow_220, cl_2⟩ (by rw [np_220]; rfl) (by rw [np_220]; rfl) (ob_of (mk_2 _)) (Nat.le_of_ble_eq_true rfl) (c6  ) ?_
  show Bod _ _ _ _ [_] _ _ _
  refine Bod.ist dc_265_76 (by rw [ml_265]; exact Nat.le_of_ble_eq_true rfl) ?_
  refine Bod.go dc_265_78 rfl ?_
  refine Bod.get dc_265_79 fr_265_15 (mk_52 _) rfl ?_
  refine Bod.go dc_265_82 rfl ?_
  refine Bod.go dc_265_84 rfl ?_
  refine Bod.go dc_265_86 rfl ?_
  refine Bod.virt (r := []) dc_265_88 kr_265_307 ⟨Or.inr rfl, ow_206, cl_2⟩ (by rw [np_206]; rfl) (by rw [np_206]; rfl) (ob_of (mk_2 _)) (Nat.le_of_ble_eq_true rfl) (c7  ) ?_
  show Bod _ _ _ _ [_] _ _ _
  refine Bod.ist dc_265_91 (by rw [ml_265]; exact Nat.le_of_ble_eq_true rfl) ?_
  refine Bod.go dc_265_93 rfl ?_
  refine Bod.get dc_265_94 fr_265_15 (mk_52 _) rfl ?_
  refine Bod.go dc_265_97 rfl ?_
  refine Bod.go dc_265_99 rfl ?_
  refine Bod.virt (r := []) dc_265_101 kr_265_200 ⟨Or.inr rfl, ow_156, cl_2⟩ (by rw [np_156]; rfl) (by rw [np_156]; rfl) (ob_of (mk_2 _)) (Nat.le_of_ble_eq_true rfl) (c8  ) ?_
  show Bod _ _ _ _ [_] _ _ _
  refine Bod.go dc_265_104 rfl ?_
  refine Bod.get dc_265_105 fr_265_15 (mk_52 _) rfl ?_
  refine Bod.go dc_265_108 rfl ?_
  refine Bod.go dc_265_110 rfl ?_
  refine Bod.virt (r := [_]) dc_265_112 kr_265_204 ⟨Or.inr rfl, ow_158, cl_2⟩ (by rw [np_158]; rfl) (by rw [np_158]; rfl) (ob_of (mk_2 _)) (Nat.le_of_ble_eq_true rfl) (c9  ) ?_
  show Bod _ _ _ _ [_, _] _ _ _
  refine Bod.stat (r := []) dc_265_115 kr_265_310 (Or.inr rfl) (by rw [np_137]; rfl) (by rw [np_137]; rfl) (by rw [np_137]; exact Nat.le_of_ble_eq_true rfl) (Nat.le_of_ble_eq_true rfl) (c10  ) ?_
  show Bod _ _ _ _ [_] _ _ _
  refine Bod.ist dc_265_118 (by rw [ml_265]; exact Nat.le_of_ble_eq_true rfl) ?_
  refine Bod.ic 2 (by decide) dc_265_120 ?_
  refine Bod.ist dc_265_121 (by rw [ml_265]; exact Nat.le_of_ble_eq_true rfl) ?_
  refine Bod.go dc_265_123 rfl ?_
  refine Bod.get dc_265_124 fr_265_15 (mk_52 _) rfl ?_
  refine Bod.go dc_265_127 rfl ?_
  refine Bod.virt (r := []) dc_265_129 kr_265_288 ⟨Or.inr rfl, ow_138, cl_2⟩ (by rw [np_138]; rfl) (by rw [np_138]; rfl) (ob_of (mk_2 _)) (Nat.le_of_ble_eq_true rfl) (c11  ) ?_
  show Bod _ _ _ _ [_] _ _ _
  refine Bod.ic 3 (by decide) dc_265_132 ?_
  refine Bod.icT dc_265_133 rfl (k2_ne_T (k_ne a2 3 rfl rfl (by omega) (by omega) (by omega))) ?_
  refine Bod.go dc_265_154 rfl ?_
  refine Bod.ifF dc_265_155 rfl (k1_ne_F (k_eq gv 0 rfl rfl (by omega))) ?_
  refine Bod.go dc_265_158 rfl ?_
  refine Bod.get dc_265_159 fr_265_23 (mk_52 _) rfl ?_
  refine Bod.ic 1 (by decide) dc_265_162 ?_
  refine Bod.ldc2 dc_265_163 cj_265_270 ?_
  refine Bod.go dc_265_166 rfl ?_
  refine Bod.go dc_265_167 rfl ?_
  refine Bod.virt (r := []) dc_265_168 kr_265_282 ⟨Or.inr rfl, ow_148, cl_9⟩ (by rw [np_148]; rfl) (by rw [np_148]; rfl) (ob_of (mk_46 _)) (Nat.le_of_ble_eq_true rfl) (c12  ) ?_
  show Bod _ _ _ _ [_] _ _ _
  refine Bod.ist dc_265_171 (by rw [ml_265]; exact Nat.le_of_ble_eq_true rfl) ?_
  refine Bod.go dc_265_173 rfl ?_
  refine Bod.get dc_265_174 fr_265_15 (mk_52 _) rfl ?_
  refine Bod.go dc_265_177 rfl ?_
  refine Bod.get dc_265_178 fr_265_15 (mk_52 _) rfl ?_
  refine Bod.get dc_265_181 fr_265_156 (mk_2 _) rfl ?_
  refine Bod.go dc_265_184 rfl ?_
  refine Bod.virt (r := []) dc_265_185 kr_265_161 ⟨Or.inr rfl, ow_142, cl_2⟩ (by rw [np_142]; rfl) (by rw [np_142]; rfl) (ob_of (mk_2 _)) (Nat.le_of_ble_eq_true rfl) (c13  ) ?_
  show Bod _ _ _ _ [] _ _ _
  refine Bod.go dc_265_188 rfl ?_
  exact Bod.retI dc_265_190 rt_265
theorem mMi_3 {d : Nat} {S : cS} {id : Nat} {gv : Nat} {S1 : cS} {rb : Int32} {S2 : cS} {S3 : cS} {S4 : cS} {u : Int64} {S5 : cS} {u1 : Int64} {S6 : cS} {a : Nat} {S7 : cS} {a1 : Nat} {S8 : cS} {u2 : Int64} {S9 : cS} {u3 : Int64} {S10 : cS} {rb1 : Int32} {S11 : cS} {a2 : Nat} {S12 : cS} {rb2 : Int32} {S13 : cS} (mid : id < 2 ^ 20) (mgv : gv < 2 ^ 20) (c1 : Ans (d + 8) 178 [.ref 2, .int (nI 5)] S (some (.int rb)) S1) (w4 : sm_c1 .ne rb true false = true) (c2 : Ans (d + 8) 149 [.ref 2, .ref 6, .int rb] S1 none S2) (c3 : Ans (d + 8) 179 [.ref 2, .int rb, .int (nI 0), .int (nI id), .int (nI 0)] S2 none S3) (c4 : Ans (d + 8) 181 [.ref 16, .int (nI 34)] S3 (some (.long u)) S4) (c5 : Ans (d + 8) 182 [.ref 16, .int (nI 34)] S4 (some (.long u1)) S5) (ma : a < 2 ^ 20) (c6 : Ans (d + 8) 220 [.ref 2, .int (nI id), .long u, .long u1] S5 (some (.int (nI a))) S6) (ma1 : a1 < 2 ^ 20) (c7 : Ans (d + 8) 206 [.ref 2, .int (nI a), .long u, .long u1] S6 (some (.int (nI a1))) S7) (c8 : Ans (d + 8) 156 [.ref 2, .int (nI a), .int (nI a1)] S7 (some (.long u2)) S8) (c9 : Ans (d + 8) 158 [.ref 2, .int (nI a), .int (nI a1)] S8 (some (.long u3)) S9) (c10 : Ans (d + 8) 137 [.long u2, .long u3] S9 (some (.int rb1)) S10) (ma2 : a2 < 2 ^ 20) (c11 : Ans (d + 8) 138 [.ref 2, .int rb1] S10 (some (.int (nI a2))) S11) (b1 : a2 = 3) (c12 : Ans (d + 8) 254 [.ref 52, .int rb1, .int (nI gv), .int rb, .int rb] S11 (some (.int rb2)) S12) (w20 : sm_c1 .ne rb2 true false = true) (c13 : Ans (d + 8) 142 [.ref 2, .ref 6, .int rb] S12 none S13) : Bod (d + 8) 265 0 [(0, .ref 52), (1, .int (nI id)), (2, .int (nI gv))] [] S (some (.int rb2)) (S13) := by
  refine Bod.go dc_265_0 rfl ?_
  refine Bod.get dc_265_1 fr_265_15 (mk_52 _) rfl ?_
  refine Bod.ic 5 (by decide) dc_265_4 ?_
  refine Bod.virt (r := []) dc_265_5 kr_265_263 ⟨Or.inr rfl, ow_178, cl_2⟩ (by rw [np_178]; rfl) (by rw [np_178]; rfl) (ob_of (mk_2 _)) (Nat.le_of_ble_eq_true rfl) (c1  ) ?_
  show Bod _ _ _ _ [_] _ _ _
  refine Bod.istn dc_265_8 (by rw [ml_265]; exact Nat.le_of_ble_eq_true rfl) ?_
  refine Bod.go dc_265_9 rfl ?_
  refine Bod.ifT dc_265_10 rfl w4 ?_
  refine Bod.go dc_265_16 rfl ?_
  refine Bod.get dc_265_17 fr_265_15 (mk_52 _) rfl ?_
  refine Bod.go dc_265_20 rfl ?_
  refine Bod.get dc_265_21 fr_265_15 (mk_52 _) rfl ?_
  refine Bod.get dc_265_24 fr_265_156 (mk_2 _) rfl ?_
  refine Bod.go dc_265_27 rfl ?_
  refine Bod.virt (r := []) dc_265_28 kr_265_301 ⟨Or.inr rfl, ow_149, cl_2⟩ (by rw [np_149]; rfl) (by rw [np_149]; rfl) (ob_of (mk_2 _)) (Nat.le_of_ble_eq_true rfl) (c2  ) ?_
  show Bod _ _ _ _ [] _ _ _
  refine Bod.go dc_265_31 rfl ?_
  refine Bod.get dc_265_32 fr_265_15 (mk_52 _) rfl ?_
  refine Bod.go dc_265_35 rfl ?_
  refine Bod.ic 0 (by decide) dc_265_36 ?_
  refine Bod.go dc_265_37 rfl ?_
  refine Bod.ic 0 (by decide) dc_265_38 ?_
  refine Bod.virt (r := []) dc_265_39 kr_265_266 ⟨Or.inr rfl, ow_179, cl_2⟩ (by rw [np_179]; rfl) (by rw [np_179]; rfl) (ob_of (mk_2 _)) (Nat.le_of_ble_eq_true rfl) (c3  ) ?_
  show Bod _ _ _ _ [] _ _ _
  refine Bod.go dc_265_42 rfl ?_
  refine Bod.get dc_265_43 fr_265_19 (mk_52 _) rfl ?_
  refine Bod.bip 34 (by decide) dc_265_46 ?_
  refine Bod.virt (r := []) dc_265_48 kr_265_272 ⟨Or.inr rfl, ow_181, cl_5⟩ (by rw [np_181]; rfl) (by rw [np_181]; rfl) (ob_of (mk_16 _)) (Nat.le_of_ble_eq_true rfl) (c4  ) ?_
  show Bod _ _ _ _ [_] _ _ _
  refine Bod.lst dc_265_51 (by rw [ml_265]; exact Nat.le_of_ble_eq_true rfl) ?_
  refine Bod.go dc_265_53 rfl ?_
  refine Bod.get dc_265_54 fr_265_19 (mk_52 _) rfl ?_
  refine Bod.bip 34 (by decide) dc_265_57 ?_
  refine Bod.virt (r := []) dc_265_59 kr_265_275 ⟨Or.inr rfl, ow_182, cl_5⟩ (by rw [np_182]; rfl) (by rw [np_182]; rfl) (ob_of (mk_16 _)) (Nat.le_of_ble_eq_true rfl) (c5  ) ?_
  show Bod _ _ _ _ [_] _ _ _
  refine Bod.lst dc_265_62 (by rw [ml_265]; exact Nat.le_of_ble_eq_true rfl) ?_
  refine Bod.go dc_265_64 rfl ?_
  refine Bod.get dc_265_65 fr_265_15 (mk_52 _) rfl ?_
  refine Bod.go dc_265_68 rfl ?_
  refine Bod.go dc_265_69 rfl ?_
  refine Bod.go dc_265_71 rfl ?_
  refine Bod.virt (r := []) dc_265_73 kr_265_304 ⟨Or.inr rfl, ow_220, cl_2⟩ (by rw [np_220]; rfl) (by rw [np_220]; rfl) (ob_of (mk_2 _)) (Nat.le_of_ble_eq_true rfl) (c6  ) ?_
  show Bod _ _ _ _ [_] _ _ _
  refine Bod.ist dc_265_76 (by rw [ml_265]; exact Nat.le_of_ble_eq_true rfl) ?_
  refine Bod.go dc_265_78 rfl ?_
  refine Bod.get dc_265_79 fr_265_15 (mk_52 _) rfl ?_
  refine Bod.go dc_265_82 rfl ?_
  refine Bod.go dc_265_84 rfl ?_
  refine Bod.go dc_265_86 rfl ?_
  refine Bod.virt (r := []) dc_265_88 kr_265_307 ⟨Or.inr rfl, ow_206, cl_2⟩ (by rw [np_206]; rfl) (by rw [np_206]; rfl) (ob_of (mk_2 _)) (Nat.le_of_ble_eq_true rfl) (c7  ) ?_
  show Bod _ _ _ _ [_] _ _ _
  refine Bod.ist dc_265_91 (by rw [ml_265]; exact Nat.le_of_ble_eq_true rfl) ?_
  refine Bod.go dc_265_93 rfl ?_
  refine Bod.get dc_265_94 fr_265_15 (mk_52 _) rfl ?_
  refine Bod.go dc_265_97 rfl ?_
  refine Bod.go dc_265_99 rfl ?_
  refine Bod.virt (r := []) dc_265_101 kr_265_200 ⟨Or.inr rfl, ow_156, cl_2⟩ (by rw [np_156]; rfl) (by rw [np_156]; rfl) (ob_of (mk_2 _)) (Nat.le_of_ble_eq_true rfl) (c8  ) ?_
  show Bod _ _ _ _ [_] _ _ _
  refine Bod.go dc_265_104 rfl ?_
  refine Bod.get dc_265_105 fr_265_15 (mk_52 _) rfl ?_
  refine Bod.go dc_265_108 rfl ?_
  refine Bod.go dc_265_110 rfl ?_
  refine Bod.virt (r := [_]) dc_265_112 kr_265_204 ⟨Or.inr rfl, ow_158, cl_2⟩ (by rw [np_158]; rfl) (by rw [np_158]; rfl) (ob_of (mk_2 _)) (Nat.le_of_ble_eq_true rfl) (c9  ) ?_
  show Bod _ _ _ _ [_, _] _ _ _
  refine Bod.stat (r := []) dc_265_115 kr_265_310 (Or.inr rfl) (by rw [np_137]; rfl) (by rw [np_137]; rfl) (by rw [np_137]; exact Nat.le_of_ble_eq_true rfl) (Nat.le_of_ble_eq_true rfl) (c10  ) ?_
  show Bod _ _ _ _ [_] _ _ _
  refine Bod.ist dc_265_118 (by rw [ml_265]; exact Nat.le_of_ble_eq_true rfl) ?_
  refine Bod.ic 2 (by decide) dc_265_120 ?_
  refine Bod.ist dc_265_121 (by rw [ml_265]; exact Nat.le_of_ble_eq_true rfl) ?_
  refine Bod.go dc_265_123 rfl ?_
  refine Bod.get dc_265_124 fr_265_15 (mk_52 _) rfl ?_
  refine Bod.go dc_265_127 rfl ?_
  refine Bod.virt (r := []) dc_265_129 kr_265_288 ⟨Or.inr rfl, ow_138, cl_2⟩ (by rw [np_138]; rfl) (by rw [np_138]; rfl) (ob_of (mk_2 _)) (Nat.le_of_ble_eq_true rfl) (c11  ) ?_
  show Bod _ _ _ _ [_] _ _ _
  refine Bod.ic 3 (by decide) dc_265_132 ?_
  refine Bod.icF dc_265_133 rfl (k2_ne_F (k_eq a2 3 rfl rfl (by omega))) ?_
  refine Bod.go dc_265_136 rfl ?_
  refine Bod.go dc_265_137 rfl ?_
  refine Bod.go dc_265_139 rfl ?_
  refine Bod.go dc_265_140 rfl ?_
  refine Bod.go dc_265_141 rfl ?_
  refine Bod.virt (r := []) dc_265_142 kr_265_291 ⟨Or.inl rfl, ow_254, cl_4⟩ (by rw [np_254]; rfl) (by rw [np_254]; rfl) (ob_of (mk_52 _)) (Nat.le_of_ble_eq_true rfl) (c12  ) ?_
  show Bod _ _ _ _ [_] _ _ _
  refine Bod.ist dc_265_145 (by rw [ml_265]; exact Nat.le_of_ble_eq_true rfl) ?_
  refine Bod.go dc_265_147 rfl ?_
  refine Bod.ifT dc_265_149 rfl w20 ?_
  refine Bod.go dc_265_173 rfl ?_
  refine Bod.get dc_265_174 fr_265_15 (mk_52 _) rfl ?_
  refine Bod.go dc_265_177 rfl ?_
  refine Bod.get dc_265_178 fr_265_15 (mk_52 _) rfl ?_
  refine Bod.get dc_265_181 fr_265_156 (mk_2 _) rfl ?_
  refine Bod.go dc_265_184 rfl ?_
  refine Bod.virt (r := []) dc_265_185 kr_265_161 ⟨Or.inr rfl, ow_142, cl_2⟩ (by rw [np_142]; rfl) (by rw [np_142]; rfl) (ob_of (mk_2 _)) (Nat.le_of_ble_eq_true rfl) (c13  ) ?_
  show Bod _ _ _ _ [] _ _ _
  refine Bod.go dc_265_188 rfl ?_
  exact Bod.retI dc_265_190 rt_265
theorem mMi_4 {d : Nat} {S : cS} {id : Nat} {gv : Nat} {S1 : cS} {rb : Int32} {S2 : cS} {S3 : cS} {S4 : cS} {u : Int64} {S5 : cS} {u1 : Int64} {S6 : cS} {a : Nat} {S7 : cS} {a1 : Nat} {S8 : cS} {u2 : Int64} {S9 : cS} {u3 : Int64} {S10 : cS} {rb1 : Int32} {S11 : cS} {a2 : Nat} {S12 : cS} {rb2 : Int32} (mid : id < 2 ^ 20) (mgv : gv < 2 ^ 20) (c1 : Ans (d + 8) 178 [.ref 2, .int (nI 5)] S (some (.int rb)) S1) (w4 : sm_c1 .ne rb true false = true) (c2 : Ans (d + 8) 149 [.ref 2, .ref 6, .int rb] S1 none S2) (c3 : Ans (d + 8) 179 [.ref 2, .int rb, .int (nI 0), .int (nI id), .int (nI 0)] S2 none S3) (c4 : Ans (d + 8) 181 [.ref 16, .int (nI 34)] S3 (some (.long u)) S4) (c5 : Ans (d + 8) 182 [.ref 16, .int (nI 34)] S4 (some (.long u1)) S5) (ma : a < 2 ^ 20) (c6 : Ans (d + 8) 220 [.ref 2, .int (nI id), .long u, .long u1] S5 (some (.int (nI a))) S6) (ma1 : a1 < 2 ^ 20) (c7 : Ans (d + 8) 206 [.ref 2, .int (nI a), .long u, .long u1] S6 (some (.int (nI a1))) S7) (c8 : Ans (d + 8) 156 [.ref 2, .int (nI a), .int (nI a1)] S7 (some (.long u2)) S8) (c9 : Ans (d + 8) 158 [.ref 2, .int (nI a), .int (nI a1)] S8 (some (.long u3)) S9) (c10 : Ans (d + 8) 137 [.long u2, .long u3] S9 (some (.int rb1)) S10) (ma2 : a2 < 2 ^ 20) (c11 : Ans (d + 8) 138 [.ref 2, .int rb1] S10 (some (.int (nI a2))) S11) (b1 : a2 = 3) (c12 : Ans (d + 8) 254 [.ref 52, .int rb1, .int (nI gv), .int rb, .int rb] S11 (some (.int rb2)) S12) (w20 : sm_c1 .ne rb2 true false = false) : Bod (d + 8) 265 0 [(0, .ref 52), (1, .int (nI id)), (2, .int (nI gv))] [] S (some (.int (nI 0))) (S12) := by
  refine Bod.go dc_265_0 rfl ?_
  refine Bod.get dc_265_1 fr_265_15 (mk_52 _) rfl ?_
  refine Bod.ic 5 (by decide) dc_265_4 ?_
  refine Bod.virt (r := []) dc_265_5 kr_265_263 ⟨Or.inr rfl, ow_178, cl_2⟩ (by rw [np_178]; rfl) (by rw [np_178]; rfl) (ob_of (mk_2 _)) (Nat.le_of_ble_eq_true rfl) (c1  ) ?_
  show Bod _ _ _ _ [_] _ _ _
  refine Bod.istn dc_265_8 (by rw [ml_265]; exact Nat.le_of_ble_eq_true rfl) ?_
  refine Bod.go dc_265_9 rfl ?_
  refine Bod.ifT dc_265_10 rfl w4 ?_
  refine Bod.go dc_265_16 rfl ?_
  refine Bod.get dc_265_17 fr_265_15 (mk_52 _) rfl ?_
  refine Bod.go dc_265_20 rfl ?_
  refine Bod.get dc_265_21 fr_265_15 (mk_52 _) rfl ?_
  refine Bod.get dc_265_24 fr_265_156 (mk_2 _) rfl ?_
  refine Bod.go dc_265_27 rfl ?_
  refine Bod.virt (r := []) dc_265_28 kr_265_301 ⟨Or.inr rfl, ow_149, cl_2⟩ (by rw [np_149]; rfl) (by rw [np_149]; rfl) (ob_of (mk_2 _)) (Nat.le_of_ble_eq_true rfl) (c2  ) ?_
  show Bod _ _ _ _ [] _ _ _
  refine Bod.go dc_265_31 rfl ?_
  refine Bod.get dc_265_32 fr_265_15 (mk_52 _) rfl ?_
  refine Bod.go dc_265_35 rfl ?_
  refine Bod.ic 0 (by decide) dc_265_36 ?_
  refine Bod.go dc_265_37 rfl ?_
  refine Bod.ic 0 (by decide) dc_265_38 ?_
  refine Bod.virt (r := []) dc_265_39 kr_265_266 ⟨Or.inr rfl, ow_179, cl_2⟩ (by rw [np_179]; rfl) (by rw [np_179]; rfl) (ob_of (mk_2 _)) (Nat.le_of_ble_eq_true rfl) (c3  ) ?_
  show Bod _ _ _ _ [] _ _ _
  refine Bod.go dc_265_42 rfl ?_
  refine Bod.get dc_265_43 fr_265_19 (mk_52 _) rfl ?_
  refine Bod.bip 34 (by decide) dc_265_46 ?_
  refine Bod.virt (r := []) dc_265_48 kr_265_272 ⟨Or.inr rfl, ow_181, cl_5⟩ (by rw [np_181]; rfl) (by rw [np_181]; rfl) (ob_of (mk_16 _)) (Nat.le_of_ble_eq_true rfl) (c4  ) ?_
  show Bod _ _ _ _ [_] _ _ _
  refine Bod.lst dc_265_51 (by rw [ml_265]; exact Nat.le_of_ble_eq_true rfl) ?_
  refine Bod.go dc_265_53 rfl ?_
  refine Bod.get dc_265_54 fr_265_19 (mk_52 _) rfl ?_
  refine Bod.bip 34 (by decide) dc_265_57 ?_
  refine Bod.virt (r := []) dc_265_59 kr_265_275 ⟨Or.inr rfl, ow_182, cl_5⟩ (by rw [np_182]; rfl) (by rw [np_182]; rfl) (ob_of (mk_16 _)) (Nat.le_of_ble_eq_true rfl) (c5  ) ?_
  show Bod _ _ _ _ [_] _ _ _
  refine Bod.lst dc_265_62 (by rw [ml_265]; exact Nat.le_of_ble_eq_true rfl) ?_
  refine Bod.go dc_265_64 rfl ?_
  refine Bod.get dc_265_65 fr_265_15 (mk_52 _) rfl ?_
  refine Bod.go dc_265_68 rfl ?_
  refine Bod.go dc_265_69 rfl ?_
  refine Bod.go dc_265_71 rfl ?_
  refine Bod.virt (r := []) dc_265_73 kr_265_304 ⟨Or.inr rfl, ow_220, cl_2⟩ (by rw [np_220]; rfl) (by rw [np_220]; rfl) (ob_of (mk_2 _)) (Nat.le_of_ble_eq_true rfl) (c6  ) ?_
  show Bod _ _ _ _ [_] _ _ _
  refine Bod.ist dc_265_76 (by rw [ml_265]; exact Nat.le_of_ble_eq_true rfl) ?_
  refine Bod.go dc_265_78 rfl ?_
  refine Bod.get dc_265_79 fr_265_15 (mk_52 _) rfl ?_
  refine Bod.go dc_265_82 rfl ?_
  refine Bod.go dc_265_84 rfl ?_
  refine Bod.go dc_265_86 rfl ?_
  refine Bod.virt (r := []) dc_265_88 kr_265_307 ⟨Or.inr rfl, ow_206, cl_2⟩ (by rw [np_206]; rfl) (by rw [np_206]; rfl) (ob_of (mk_2 _)) (Nat.le_of_ble_eq_true rfl) (c7  ) ?_
  show Bod _ _ _ _ [_] _ _ _
  refine Bod.ist dc_265_91 (by rw [ml_265]; exact Nat.le_of_ble_eq_true rfl) ?_
  refine Bod.go dc_265_93 rfl ?_
  refine Bod.get dc_265_94 fr_265_15 (mk_52 _) rfl ?_
  refine Bod.go dc_265_97 rfl ?_
  refine Bod.go dc_265_99 rfl ?_
  refine Bod.virt (r := []) dc_265_101 kr_265_200 ⟨Or.inr rfl, ow_156, cl_2⟩ (by rw [np_156]; rfl) (by rw [np_156]; rfl) (ob_of (mk_2 _)) (Nat.le_of_ble_eq_true rfl) (c8  ) ?_
  show Bod _ _ _ _ [_] _ _ _
  refine Bod.go dc_265_104 rfl ?_
  refine Bod.get dc_265_105 fr_265_15 (mk_52 _) rfl ?_
  refine Bod.go dc_265_108 rfl ?_
  refine Bod.go dc_265_110 rfl ?_
  refine Bod.virt (r := [_]) dc_265_112 kr_265_204 ⟨Or.inr rfl, ow_158, cl_2⟩ (by rw [np_158]; rfl) (by rw [np_158]; rfl) (ob_of (mk_2 _)) (Nat.le_of_ble_eq_true rfl) (c9  ) ?_
  show Bod _ _ _ _ [_, _] _ _ _
  refine Bod.stat (r := []) dc_265_115 kr_265_310 (Or.inr rfl) (by rw [np_137]; rfl) (by rw [np_137]; rfl) (by rw [np_137]; exact Nat.le_of_ble_eq_true rfl) (Nat.le_of_ble_eq_true rfl) (c10  ) ?_
  show Bod _ _ _ _ [_] _ _ _
  refine Bod.ist dc_265_118 (by rw [ml_265]; exact Nat.le_of_ble_eq_true rfl) ?_
  refine Bod.ic 2 (by decide) dc_265_120 ?_
  refine Bod.ist dc_265_121 (by rw [ml_265]; exact Nat.le_of_ble_eq_true rfl) ?_
  refine Bod.go dc_265_123 rfl ?_
  refine Bod.get dc_265_124 fr_265_15 (mk_52 _) rfl ?_
  refine Bod.go dc_265_127 rfl ?_
  refine Bod.virt (r := []) dc_265_129 kr_265_288 ⟨Or.inr rfl, ow_138, cl_2⟩ (by rw [np_138]; rfl) (by rw [np_138]; rfl) (ob_of (mk_2 _)) (Nat.le_of_ble_eq_true rfl) (c11  ) ?_
  show Bod _ _ _ _ [_] _ _ _
  refine Bod.ic 3 (by decide) dc_265_132 ?_
  refine Bod.icF dc_265_133 rfl (k2_ne_F (k_eq a2 3 rfl rfl (by omega))) ?_
  refine Bod.go dc_265_136 rfl ?_
  refine Bod.go dc_265_137 rfl ?_
  refine Bod.go dc_265_139 rfl ?_
  refine Bod.go dc_265_140 rfl ?_
  refine Bod.go dc_265_141 rfl ?_
  refine Bod.virt (r := []) dc_265_142 kr_265_291 ⟨Or.inl rfl, ow_254, cl_4⟩ (by rw [np_254]; rfl) (by rw [np_254]; rfl) (ob_of (mk_52 _)) (Nat.le_of_ble_eq_true rfl) (c12  ) ?_
  show Bod _ _ _ _ [_] _ _ _
  refine Bod.ist dc_265_145 (by rw [ml_265]; exact Nat.le_of_ble_eq_true rfl) ?_
  refine Bod.go dc_265_147 rfl ?_
  refine Bod.ifF dc_265_149 rfl w20 ?_
  refine Bod.ic 0 (by decide) dc_265_152 ?_
  exact Bod.retI dc_265_153 rt_265
theorem mMi_5 {d : Nat} {S : cS} {id : Nat} {gv : Nat} {S1 : cS} {rb : Int32} (mid : id < 2 ^ 20) (mgv : gv < 2 ^ 20) (c1 : Ans (d + 8) 178 [.ref 2, .int (nI 5)] S (some (.int rb)) S1) (w4 : sm_c1 .ne rb true false = false) : Bod (d + 8) 265 0 [(0, .ref 52), (1, .int (nI id)), (2, .int (nI gv))] [] S (some (.int (nI 8))) (S1) := by
  refine Bod.go dc_265_0 rfl ?_
  refine Bod.get dc_265_1 fr_265_15 (mk_52 _) rfl ?_
  refine Bod.ic 5 (by decide) dc_265_4 ?_
  refine Bod.virt (r := []) dc_265_5 kr_265_263 ⟨Or.inr rfl, ow_178, cl_2⟩ (by rw [np_178]; rfl) (by rw [np_178]; rfl) (ob_of (mk_2 _)) (Nat.le_of_ble_eq_true rfl) (c1  ) ?_
  show Bod _ _ _ _ [_] _ _ _
  refine Bod.istn dc_265_8 (by rw [ml_265]; exact Nat.le_of_ble_eq_true rfl) ?_
  refine Bod.go dc_265_9 rfl ?_
  refine Bod.ifF dc_265_10 rfl w4 ?_
  refine Bod.bip 8 (by decide) dc_265_13 ?_
  exact Bod.retI dc_265_15 rt_265
theorem mEs_1 {d : Nat} {S Sf : cS} {v : Option Value} {op : Nat} {cl : Nat} (mop : op < 2 ^ 20) (hcl : sI S 5213 = nI cl) (mcl : cl < 31) (hB : ∀ lv1 : sm_L, sm_get lv1 0 = some (.ref 52) → sm_get lv1 1 = some (.int (nI op)) → sm_get lv1 2 = some (.int (nI cl)) → Bod (d + 8) 267 5 lv1 [] (S) v Sf) : Bod (d + 8) 267 0 [(0, .ref 52), (1, .int (nI op))] [] S v Sf := by
  refine Bod.go dc_267_0 rfl ?_
  refine Bod.get dc_267_1 fr_267_150 (mk_52 _) rfl ?_
  refine Bod.eqI (nI cl) (by first | assumption | rfl | exact congrArg nI (by omega) | (simp (disch := omega) only [rI, rIe, rA, rIA, rLA, rJA, rVI, rQI, rVA, rQA, upd_at,  rAI, rLI, rJI, nI_add, pk_sub, kc_0, kc_1, kc_2, kc_3, kc_4, kc_5, reduceIte, Nat.reduceEqDiff, Nat.add_zero, rI_hold, rI_hold, rL_hold, hcl]; done)) ?_
  refine Bod.istn dc_267_4 (by rw [ml_267]; exact Nat.le_of_ble_eq_true rfl) ?_
  exact hB _ (by first | rfl | exact (by repeat (first | exact rfl | exact sm_get_p1 | exact sm_get_p2e | refine sm_get_p1m (by decide) (by decide) ?_ | refine sm_get_p1n (by decide) rfl ?_ | refine sm_get_p2n (by decide) (by decide) rfl ?_))) (by first | rfl | exact (by repeat (first | exact rfl | exact sm_get_p1 | exact sm_get_p2e | refine sm_get_p1m (by decide) (by decide) ?_ | refine sm_get_p1n (by decide) rfl ?_ | refine sm_get_p2n (by decide) (by decide) rfl ?_))) (by first | rfl | exact (by repeat (first | exact rfl | exact sm_get_p1 | exact sm_get_p2e | refine sm_get_p1m (by decide) (by decide) ?_ | refine sm_get_p1n (by decide) rfl ?_ | refine sm_get_p2n (by decide) (by decide) rfl ?_)))
theorem mEsL_1 {d : Nat} {S : cS} {lv : sm_L} {op : Nat} {ni : Nat} (q0 : sm_get lv 0 = some (.ref 52)) (q1 : sm_get lv 1 = some (.int (nI op))) (q2 : sm_get lv 2 = some (.int (nI ni))) (mop : op < 2 ^ 20) (mni : ni < 2 ^ 20) (b1 : ni ≤ op) : Bod (d + 8) 267 5 lv [] S none (S) := by
  refine Bod.ildnG dc_267_5 (by repeat (first | exact q2 | exact sm_get_p1 | exact sm_get_p2e | refine sm_get_p1m (by decide) (by decide) ?_ | refine sm_get_p1n (by decide) rfl ?_ | refine sm_get_p2n (by decide) (by decide) rfl ?_)) ?_
  refine Bod.ildnG dc_267_6 (by repeat (first | exact q1 | exact sm_get_p1 | exact sm_get_p2e | refine sm_get_p1m (by decide) (by decide) ?_ | refine sm_get_p1n (by decide) rfl ?_ | refine sm_get_p2n (by decide) (by decide) rfl ?_)) ?_
  refine Bod.icT dc_267_7 rfl (k2_le_T ni op rfl rfl (by omega) (by omega)) ?_
  exact Bod.retV dc_267_24 rt_267
theorem mEsM_1 {d : Nat} {S : cS} {lv : sm_L} {op : Nat} {ni : Nat} (q0 : sm_get lv 0 = some (.ref 52)) (q1 : sm_get lv 1 = some (.int (nI op))) (q2 : sm_get lv 2 = some (.int (nI (ni + 1)))) (mop : op < 2 ^ 20) (mni : ni < 2 ^ 20) (b1 : (ni + 1) ≤ op) : Bod (d + 8) 267 5 lv [] S none (S) := by
  refine Bod.ildnG dc_267_5 (by repeat (first | exact q2 | exact sm_get_p1 | exact sm_get_p2e | refine sm_get_p1m (by decide) (by decide) ?_ | refine sm_get_p1n (by decide) rfl ?_ | refine sm_get_p2n (by decide) (by decide) rfl ?_)) ?_
  refine Bod.ildnG dc_267_6 (by repeat (first | exact q1 | exact sm_get_p1 | exact sm_get_p2e | refine sm_get_p1m (by decide) (by decide) ?_ | refine sm_get_p1n (by decide) rfl ?_ | refine sm_get_p2n (by decide) (by decide) rfl ?_)) ?_
  refine Bod.icT dc_267_7 rfl (k2_le_T (ni + 1) op rfl rfl (by omega) (by omega)) ?_
  exact Bod.retV dc_267_24 rt_267
theorem mEsM_2 {d : Nat} {S : cS} {lv : sm_L} {op : Nat} {ni : Nat} (q0 : sm_get lv 0 = some (.ref 52)) (q1 : sm_get lv 1 = some (.int (nI op))) (q2 : sm_get lv 2 = some (.int (nI (ni + 1)))) (mop : op < 2 ^ 20) (mni : ni < 2 ^ 20) (b1 : op < (ni + 1)) (b2 : (ni + 1) ≤ 0) : Bod (d + 8) 267 5 lv [] S none (S) := by
  refine Bod.ildnG dc_267_5 (by repeat (first | exact q2 | exact sm_get_p1 | exact sm_get_p2e | refine sm_get_p1m (by decide) (by decide) ?_ | refine sm_get_p1n (by decide) rfl ?_ | refine sm_get_p2n (by decide) (by decide) rfl ?_)) ?_
  refine Bod.ildnG dc_267_6 (by repeat (first | exact q1 | exact sm_get_p1 | exact sm_get_p2e | refine sm_get_p1m (by decide) (by decide) ?_ | refine sm_get_p1n (by decide) rfl ?_ | refine sm_get_p2n (by decide) (by decide) rfl ?_)) ?_
  refine Bod.icF dc_267_7 rfl (k2_le_F (ni + 1) op rfl rfl (by omega) (by omega)) ?_
  refine Bod.ildnG dc_267_10 (by repeat (first | exact q2 | exact sm_get_p1 | exact sm_get_p2e | refine sm_get_p1m (by decide) (by decide) ?_ | refine sm_get_p1n (by decide) rfl ?_ | refine sm_get_p2n (by decide) (by decide) rfl ?_)) ?_
  refine Bod.ifT dc_267_11 rfl (k1_le_T (k_eq (ni + 1) 0 (by first | assumption | rfl | exact congrArg nI (by omega) | (simp (disch := omega) only [rI, rIe, rA, rIA, rLA, rJA, rVI, rQI, rVA, rQA, upd_at,  rAI, rLI, rJI, nI_add, pk_sub, kc_0, kc_1, kc_2, kc_3, kc_4, kc_5, reduceIte, Nat.reduceEqDiff, Nat.add_zero, rI_hold, rI_hold, rL_hold]; done)) rfl (by omega))) ?_
  exact Bod.retV dc_267_24 rt_267
theorem mEsM_3 {d : Nat} {S Sf : cS} {v : Option Value} {lv : sm_L} {op : Nat} {ni : Nat} {S1 : cS} (q0 : sm_get lv 0 = some (.ref 52)) (q1 : sm_get lv 1 = some (.int (nI op))) (q2 : sm_get lv 2 = some (.int (nI (ni + 1)))) (mop : op < 2 ^ 20) (mni : ni < 2 ^ 20) (b1 : op < (ni + 1)) (b2 : 0 < (ni + 1)) (c1 : Ans (d + 8) 150 [.ref 52] S none S1) (hB : ∀ lv1 : sm_L, sm_get lv1 0 = some (.ref 52) → sm_get lv1 1 = some (.int (nI op)) → sm_get lv1 2 = some (.int (nI ni)) → Bod (d + 8) 267 5 lv1 [] (S1) v Sf) : Bod (d + 8) 267 5 lv [] S v Sf := by
  refine Bod.ildnG dc_267_5 (by repeat (first | exact q2 | exact sm_get_p1 | exact sm_get_p2e | refine sm_get_p1m (by decide) (by decide) ?_ | refine sm_get_p1n (by decide) rfl ?_ | refine sm_get_p2n (by decide) (by decide) rfl ?_)) ?_
  refine Bod.ildnG dc_267_6 (by repeat (first | exact q1 | exact sm_get_p1 | exact sm_get_p2e | refine sm_get_p1m (by decide) (by decide) ?_ | refine sm_get_p1n (by decide) rfl ?_ | refine sm_get_p2n (by decide) (by decide) rfl ?_)) ?_
  refine Bod.icF dc_267_7 rfl (k2_le_F (ni + 1) op rfl rfl (by omega) (by omega)) ?_
  refine Bod.ildnG dc_267_10 (by repeat (first | exact q2 | exact sm_get_p1 | exact sm_get_p2e | refine sm_get_p1m (by decide) (by decide) ?_ | refine sm_get_p1n (by decide) rfl ?_ | refine sm_get_p2n (by decide) (by decide) rfl ?_)) ?_
  refine Bod.ifF dc_267_11 rfl (k1_le_F (ni + 1) rfl (by omega) (by omega)) ?_
  refine Bod.aldnG dc_267_14 (by repeat (first | exact q0 | exact sm_get_p1 | exact sm_get_p2e | refine sm_get_p1m (by decide) (by decide) ?_ | refine sm_get_p1n (by decide) rfl ?_ | refine sm_get_p2n (by decide) (by decide) rfl ?_)) ?_
  refine Bod.virt (r := []) dc_267_15 kr_267_153 ⟨Or.inl rfl, ow_150, cl_4⟩ (by rw [np_150]; rfl) (by rw [np_150]; rfl) (ob_of (mk_52 _)) (Nat.le_of_ble_eq_true rfl) (c1  ) ?_
  show Bod _ _ _ _ [] _ _ _
  refine Bod.incN ni nI_dec dc_267_18 (by rw [ml_267]; exact Nat.le_of_ble_eq_true rfl) (by repeat (first | exact q2 | exact sm_get_p1 | exact sm_get_p2e | refine sm_get_p1m (by decide) (by decide) ?_ | refine sm_get_p1n (by decide) rfl ?_ | refine sm_get_p2n (by decide) (by decide) rfl ?_)) ?_
  refine Bod.go dc_267_21 rfl ?_
  exact hB _ (by repeat (first | exact q0 | exact sm_get_p1 | exact sm_get_p2e | refine sm_get_p1m (by decide) (by decide) ?_ | refine sm_get_p1n (by decide) rfl ?_ | refine sm_get_p2n (by decide) (by decide) rfl ?_)) (by repeat (first | exact q1 | exact sm_get_p1 | exact sm_get_p2e | refine sm_get_p1m (by decide) (by decide) ?_ | refine sm_get_p1n (by decide) rfl ?_ | refine sm_get_p2n (by decide) (by decide) rfl ?_)) (by repeat (first | exact q0 | exact sm_get_p1 | exact sm_get_p2e | refine sm_get_p1m (by decide) (by decide) ?_ | refine sm_get_p1n (by decide) rfl ?_ | refine sm_get_p2n (by decide) (by decide) rfl ?_))
