/-! WAYS of the class's machine: every call is a hypothesis -/
theorem ml_167 : sm_ml 167 = 4 := by decide +kernel
theorem dc_167_0 : decode (sm_cc 167) 0 = .ok (.aload_n 0, 1) := by decide +kernel
theorem dc_167_1 : decode (sm_cc 167) 1 = .ok (.getfield 78, 3) := by decide +kernel
theorem fr_167_78 : sm_at mt_f (sm_ow 167) 78 = some (78, 4, 15, 0, 851) := by decide +kernel
theorem dc_167_4 : decode (sm_cc 167) 4 = .ok (.istore_n 2, 1) := by decide +kernel
theorem dc_167_5 : decode (sm_cc 167) 5 = .ok (.iconst 0, 1) := by decide +kernel
theorem dc_167_6 : decode (sm_cc 167) 6 = .ok (.istore_n 3, 1) := by decide +kernel
theorem dc_167_7 : decode (sm_cc 167) 7 = .ok (.iload_n 3, 1) := by decide +kernel
theorem dc_167_8 : decode (sm_cc 167) 8 = .ok (.iload_n 1, 1) := by decide +kernel
theorem dc_167_9 : decode (sm_cc 167) 9 = .ok (.if_icmp .ge (22), 3) := by decide +kernel
theorem dc_167_31 : decode (sm_cc 167) 31 = .ok (.iload_n 2, 1) := by decide +kernel
theorem dc_167_32 : decode (sm_cc 167) 32 = .ok (.ireturn, 1) := by decide +kernel
theorem rt_167 : sm_rt 167 = some .int := by decide +kernel
theorem dc_167_12 : decode (sm_cc 167) 12 = .ok (.iload_n 2, 1) := by decide +kernel
theorem dc_167_13 : decode (sm_cc 167) 13 = .ok (.ifCond .eq (18), 3) := by decide +kernel
theorem dc_167_16 : decode (sm_cc 167) 16 = .ok (.aload_n 0, 1) := by decide +kernel
theorem dc_167_17 : decode (sm_cc 167) 17 = .ok (.getfield 15, 3) := by decide +kernel
theorem fr_167_15 : sm_at mt_f (sm_ow 167) 15 = some (15, 4, 1, 0, 837) := by decide +kernel
theorem dc_167_20 : decode (sm_cc 167) 20 = .ok (.iload_n 2, 1) := by decide +kernel
theorem dc_167_21 : decode (sm_cc 167) 21 = .ok (.invokevirtual 241, 3) := by decide +kernel
theorem kr_167_241 : sm_at mt_k (sm_ow 167) 241 = some (241, 1, 168, 1, 1517) := by decide +kernel
theorem dc_167_24 : decode (sm_cc 167) 24 = .ok (.istore_n 2, 1) := by decide +kernel
theorem dc_167_25 : decode (sm_cc 167) 25 = .ok (.iinc 3 (1), 3) := by decide +kernel
theorem dc_167_28 : decode (sm_cc 167) 28 = .ok (.goto (-21), 3) := by decide +kernel
theorem ml_180 : sm_ml 180 = 9 := by decide +kernel
theorem dc_180_0 : decode (sm_cc 180) 0 = .ok (.aload_n 0, 1) := by decide +kernel
theorem dc_180_1 : decode (sm_cc 180) 1 = .ok (.invokevirtual 82, 3) := by decide +kernel
theorem kr_180_82 : sm_at mt_k (sm_ow 180) 82 = some (82, 0, 127, 0, 1343) := by decide +kernel
theorem dc_180_4 : decode (sm_cc 180) 4 = .ok (.istore_n 1, 1) := by decide +kernel
theorem dc_180_5 : decode (sm_cc 180) 5 = .ok (.aload_n 0, 1) := by decide +kernel
theorem dc_180_6 : decode (sm_cc 180) 6 = .ok (.invokevirtual 82, 3) := by decide +kernel
theorem dc_180_9 : decode (sm_cc 180) 9 = .ok (.istore_n 2, 1) := by decide +kernel
theorem dc_180_10 : decode (sm_cc 180) 10 = .ok (.aload_n 0, 1) := by decide +kernel
theorem dc_180_11 : decode (sm_cc 180) 11 = .ok (.invokevirtual 82, 3) := by decide +kernel
theorem dc_180_14 : decode (sm_cc 180) 14 = .ok (.istore_n 3, 1) := by decide +kernel
theorem dc_180_15 : decode (sm_cc 180) 15 = .ok (.iload_n 2, 1) := by decide +kernel
theorem dc_180_16 : decode (sm_cc 180) 16 = .ok (.iconst 1, 1) := by decide +kernel
theorem dc_180_17 : decode (sm_cc 180) 17 = .ok (.if_icmp .ne (15), 3) := by decide +kernel
theorem dc_180_32 : decode (sm_cc 180) 32 = .ok (.iconst 0, 1) := by decide +kernel
theorem dc_180_33 : decode (sm_cc 180) 33 = .ok (.istore 4, 2) := by decide +kernel
theorem dc_180_35 : decode (sm_cc 180) 35 = .ok (.iload_n 2, 1) := by decide +kernel
theorem dc_180_36 : decode (sm_cc 180) 36 = .ok (.iconst 1, 1) := by decide +kernel
theorem dc_180_37 : decode (sm_cc 180) 37 = .ok (.if_icmp .ne (10), 3) := by decide +kernel
theorem dc_180_47 : decode (sm_cc 180) 47 = .ok (.aload_n 0, 1) := by decide +kernel
theorem dc_180_48 : decode (sm_cc 180) 48 = .ok (.getfield 15, 3) := by decide +kernel
theorem fr_180_15 : sm_at mt_f (sm_ow 180) 15 = some (15, 4, 1, 0, 837) := by decide +kernel
theorem dc_180_51 : decode (sm_cc 180) 51 = .ok (.iconst 4, 1) := by decide +kernel
theorem dc_180_52 : decode (sm_cc 180) 52 = .ok (.invokevirtual 263, 3) := by decide +kernel
theorem kr_180_263 : sm_at mt_k (sm_ow 180) 263 = some (263, 1, 178, 1, 1564) := by decide +kernel
theorem dc_180_55 : decode (sm_cc 180) 55 = .ok (.istore 5, 2) := by decide +kernel
theorem dc_180_57 : decode (sm_cc 180) 57 = .ok (.iload 5, 2) := by decide +kernel
theorem dc_180_59 : decode (sm_cc 180) 59 = .ok (.ifCond .ne (6), 3) := by decide +kernel
theorem dc_180_65 : decode (sm_cc 180) 65 = .ok (.aload_n 0, 1) := by decide +kernel
theorem dc_180_66 : decode (sm_cc 180) 66 = .ok (.getfield 15, 3) := by decide +kernel
theorem dc_180_69 : decode (sm_cc 180) 69 = .ok (.iload 5, 2) := by decide +kernel
theorem dc_180_71 : decode (sm_cc 180) 71 = .ok (.iload_n 1, 1) := by decide +kernel
theorem dc_180_72 : decode (sm_cc 180) 72 = .ok (.iload 4, 2) := by decide +kernel
theorem dc_180_74 : decode (sm_cc 180) 74 = .ok (.iconst 0, 1) := by decide +kernel
theorem dc_180_75 : decode (sm_cc 180) 75 = .ok (.invokevirtual 266, 3) := by decide +kernel
theorem kr_180_266 : sm_at mt_k (sm_ow 180) 266 = some (266, 1, 179, 1, 1568) := by decide +kernel
theorem dc_180_78 : decode (sm_cc 180) 78 = .ok (.iload_n 3, 1) := by decide +kernel
theorem dc_180_79 : decode (sm_cc 180) 79 = .ok (.iconst 1, 1) := by decide +kernel
theorem dc_180_80 : decode (sm_cc 180) 80 = .ok (.isub, 1) := by decide +kernel
theorem dc_180_81 : decode (sm_cc 180) 81 = .ok (.istore 6, 2) := by decide +kernel
theorem dc_180_62 : decode (sm_cc 180) 62 = .ok (.bipush (8), 2) := by decide +kernel
theorem dc_180_64 : decode (sm_cc 180) 64 = .ok (.ireturn, 1) := by decide +kernel
theorem rt_180 : sm_rt 180 = some .int := by decide +kernel
theorem dc_180_20 : decode (sm_cc 180) 20 = .ok (.aload_n 0, 1) := by decide +kernel
theorem dc_180_21 : decode (sm_cc 180) 21 = .ok (.getfield 23, 3) := by decide +kernel
theorem fr_180_23 : sm_at mt_f (sm_ow 180) 23 = some (23, 4, 3, 0, 839) := by decide +kernel
theorem dc_180_24 : decode (sm_cc 180) 24 = .ok (.iconst 0, 1) := by decide +kernel
theorem dc_180_25 : decode (sm_cc 180) 25 = .ok (.iconst 4, 1) := by decide +kernel
theorem dc_180_26 : decode (sm_cc 180) 26 = .ok (.invokevirtual 190, 3) := by decide +kernel
theorem kr_180_190 : sm_at mt_k (sm_ow 180) 190 = some (190, 1, 152, 1, 1447) := by decide +kernel
theorem dc_180_29 : decode (sm_cc 180) 29 = .ok (.goto (4), 3) := by decide +kernel
theorem dc_180_40 : decode (sm_cc 180) 40 = .ok (.iload 4, 2) := by decide +kernel
theorem dc_180_42 : decode (sm_cc 180) 42 = .ok (.ifCond .ne (5), 3) := by decide +kernel
theorem dc_180_45 : decode (sm_cc 180) 45 = .ok (.iconst 2, 1) := by decide +kernel
theorem dc_180_46 : decode (sm_cc 180) 46 = .ok (.ireturn, 1) := by decide +kernel
theorem dc_180_83 : decode (sm_cc 180) 83 = .ok (.iload 6, 2) := by decide +kernel
theorem dc_180_85 : decode (sm_cc 180) 85 = .ok (.ifCond .lt (67), 3) := by decide +kernel
theorem dc_180_88 : decode (sm_cc 180) 88 = .ok (.aload_n 0, 1) := by decide +kernel
theorem dc_180_89 : decode (sm_cc 180) 89 = .ok (.invokevirtual 82, 3) := by decide +kernel
theorem dc_180_92 : decode (sm_cc 180) 92 = .ok (.istore 7, 2) := by decide +kernel
theorem dc_180_94 : decode (sm_cc 180) 94 = .ok (.iload 6, 2) := by decide +kernel
theorem dc_180_96 : decode (sm_cc 180) 96 = .ok (.iload_n 2, 1) := by decide +kernel
theorem dc_180_97 : decode (sm_cc 180) 97 = .ok (.iadd, 1) := by decide +kernel
theorem dc_180_98 : decode (sm_cc 180) 98 = .ok (.istore 8, 2) := by decide +kernel
theorem dc_180_100 : decode (sm_cc 180) 100 = .ok (.aload_n 0, 1) := by decide +kernel
theorem dc_180_101 : decode (sm_cc 180) 101 = .ok (.getfield 15, 3) := by decide +kernel
theorem dc_180_104 : decode (sm_cc 180) 104 = .ok (.iload 5, 2) := by decide +kernel
theorem dc_180_106 : decode (sm_cc 180) 106 = .ok (.aload_n 0, 1) := by decide +kernel
theorem dc_180_107 : decode (sm_cc 180) 107 = .ok (.getfield 19, 3) := by decide +kernel
theorem fr_180_19 : sm_at mt_f (sm_ow 180) 19 = some (19, 4, 2, 0, 838) := by decide +kernel
theorem dc_180_110 : decode (sm_cc 180) 110 = .ok (.iload 7, 2) := by decide +kernel
theorem dc_180_112 : decode (sm_cc 180) 112 = .ok (.invokevirtual 272, 3) := by decide +kernel
theorem kr_180_272 : sm_at mt_k (sm_ow 180) 272 = some (272, 1, 181, 1, 1576) := by decide +kernel
theorem dc_180_115 : decode (sm_cc 180) 115 = .ok (.aload_n 0, 1) := by decide +kernel
theorem dc_180_116 : decode (sm_cc 180) 116 = .ok (.getfield 19, 3) := by decide +kernel
theorem dc_180_119 : decode (sm_cc 180) 119 = .ok (.iload 7, 2) := by decide +kernel
theorem dc_180_121 : decode (sm_cc 180) 121 = .ok (.invokevirtual 275, 3) := by decide +kernel
theorem kr_180_275 : sm_at mt_k (sm_ow 180) 275 = some (275, 1, 182, 1, 1580) := by decide +kernel
theorem dc_180_124 : decode (sm_cc 180) 124 = .ok (.aload_n 0, 1) := by decide +kernel
theorem dc_180_125 : decode (sm_cc 180) 125 = .ok (.getfield 23, 3) := by decide +kernel
theorem dc_180_128 : decode (sm_cc 180) 128 = .ok (.iload 8, 2) := by decide +kernel
theorem dc_180_130 : decode (sm_cc 180) 130 = .ok (.invokevirtual 133, 3) := by decide +kernel
theorem kr_180_133 : sm_at mt_k (sm_ow 180) 133 = some (133, 1, 132, 1, 1427) := by decide +kernel
theorem dc_180_133 : decode (sm_cc 180) 133 = .ok (.aload_n 0, 1) := by decide +kernel
theorem dc_180_134 : decode (sm_cc 180) 134 = .ok (.getfield 23, 3) := by decide +kernel
theorem dc_180_137 : decode (sm_cc 180) 137 = .ok (.iload 8, 2) := by decide +kernel
theorem dc_180_139 : decode (sm_cc 180) 139 = .ok (.invokevirtual 141, 3) := by decide +kernel
theorem kr_180_141 : sm_at mt_k (sm_ow 180) 141 = some (141, 1, 135, 1, 1429) := by decide +kernel
theorem dc_180_142 : decode (sm_cc 180) 142 = .ok (.invokevirtual 278, 3) := by decide +kernel
theorem kr_180_278 : sm_at mt_k (sm_ow 180) 278 = some (278, 1, 183, 1, 1584) := by decide +kernel
theorem dc_180_145 : decode (sm_cc 180) 145 = .ok (.pop, 1) := by decide +kernel
theorem dc_180_146 : decode (sm_cc 180) 146 = .ok (.iinc 6 (-1), 3) := by decide +kernel
theorem dc_180_149 : decode (sm_cc 180) 149 = .ok (.goto (-66), 3) := by decide +kernel
theorem dc_180_152 : decode (sm_cc 180) 152 = .ok (.aload_n 0, 1) := by decide +kernel
theorem dc_180_153 : decode (sm_cc 180) 153 = .ok (.getfield 23, 3) := by decide +kernel
theorem dc_180_156 : decode (sm_cc 180) 156 = .ok (.iload_n 3, 1) := by decide +kernel
theorem dc_180_157 : decode (sm_cc 180) 157 = .ok (.iload_n 2, 1) := by decide +kernel
theorem dc_180_158 : decode (sm_cc 180) 158 = .ok (.iadd, 1) := by decide +kernel
theorem dc_180_159 : decode (sm_cc 180) 159 = .ok (.ldc2_w 270, 3) := by decide +kernel
theorem cj_180_270 : sm_at mt_cj (sm_ow 180) 270 = some (270, (4611686018427387904), 1428) := by decide +kernel
theorem dc_180_162 : decode (sm_cc 180) 162 = .ok (.iload 5, 2) := by decide +kernel
theorem dc_180_164 : decode (sm_cc 180) 164 = .ok (.i2l, 1) := by decide +kernel
theorem dc_180_165 : decode (sm_cc 180) 165 = .ok (.invokevirtual 282, 3) := by decide +kernel
theorem kr_180_282 : sm_at mt_k (sm_ow 180) 282 = some (282, 1, 148, 1, 1430) := by decide +kernel
theorem dc_180_168 : decode (sm_cc 180) 168 = .ok (.ireturn, 1) := by decide +kernel
theorem ml_254 : sm_ml 254 = 10 := by decide +kernel
theorem dc_254_0 : decode (sm_cc 254) 0 = .ok (.aload_n 0, 1) := by decide +kernel
theorem dc_254_1 : decode (sm_cc 254) 1 = .ok (.getfield 15, 3) := by decide +kernel
theorem fr_254_15 : sm_at mt_f (sm_ow 254) 15 = some (15, 4, 1, 0, 837) := by decide +kernel
theorem dc_254_4 : decode (sm_cc 254) 4 = .ok (.iload_n 1, 1) := by decide +kernel
theorem dc_254_5 : decode (sm_cc 254) 5 = .ok (.invokevirtual 314, 3) := by decide +kernel
theorem ow_241 : 2 = sm_ow 241 := by decide +kernel
theorem kr_254_314 : sm_at mt_k (sm_ow 254) 314 = some (314, 1, 241, 1, 1949) := by decide +kernel
theorem np_241 : sm_np 241 = 1 := by decide +kernel
theorem dc_254_8 : decode (sm_cc 254) 8 = .ok (.istore 5, 2) := by decide +kernel
theorem dc_254_10 : decode (sm_cc 254) 10 = .ok (.iload_n 3, 1) := by decide +kernel
theorem dc_254_11 : decode (sm_cc 254) 11 = .ok (.ifCond .ne (7), 3) := by decide +kernel
theorem dc_254_14 : decode (sm_cc 254) 14 = .ok (.iconst 0, 1) := by decide +kernel
theorem dc_254_15 : decode (sm_cc 254) 15 = .ok (.goto (4), 3) := by decide +kernel
theorem dc_254_19 : decode (sm_cc 254) 19 = .ok (.istore 6, 2) := by decide +kernel
theorem dc_254_21 : decode (sm_cc 254) 21 = .ok (.iload_n 2, 1) := by decide +kernel
theorem dc_254_22 : decode (sm_cc 254) 22 = .ok (.iload 6, 2) := by decide +kernel
theorem dc_254_24 : decode (sm_cc 254) 24 = .ok (.iadd, 1) := by decide +kernel
theorem dc_254_25 : decode (sm_cc 254) 25 = .ok (.aload_n 0, 1) := by decide +kernel
theorem dc_254_26 : decode (sm_cc 254) 26 = .ok (.getfield 11, 3) := by decide +kernel
theorem fr_254_11 : sm_at mt_f (sm_ow 254) 11 = some (11, 4, 0, 0, 836) := by decide +kernel
theorem dc_254_29 : decode (sm_cc 254) 29 = .ok (.iload 5, 2) := by decide +kernel
theorem dc_254_31 : decode (sm_cc 254) 31 = .ok (.invokevirtual 317, 3) := by decide +kernel
theorem ow_255 : 7 = sm_ow 255 := by decide +kernel
theorem kr_254_317 : sm_at mt_k (sm_ow 254) 317 = some (317, 1, 255, 1, 1950) := by decide +kernel
theorem np_255 : sm_np 255 = 1 := by decide +kernel
theorem dc_254_34 : decode (sm_cc 254) 34 = .ok (.if_icmp .eq (5), 3) := by decide +kernel
theorem dc_254_39 : decode (sm_cc 254) 39 = .ok (.aload_n 0, 1) := by decide +kernel
theorem dc_254_40 : decode (sm_cc 254) 40 = .ok (.getfield 150, 3) := by decide +kernel
theorem fr_254_150 : sm_at mt_f (sm_ow 254) 150 = some (150, 4, 13, 0, 849) := by decide +kernel
theorem dc_254_43 : decode (sm_cc 254) 43 = .ok (.ifCond .lt (12), 3) := by decide +kernel
theorem dc_254_46 : decode (sm_cc 254) 46 = .ok (.aload_n 0, 1) := by decide +kernel
theorem dc_254_47 : decode (sm_cc 254) 47 = .ok (.getfield 150, 3) := by decide +kernel
theorem dc_254_50 : decode (sm_cc 254) 50 = .ok (.bipush (30), 2) := by decide +kernel
theorem dc_254_52 : decode (sm_cc 254) 52 = .ok (.if_icmp .lt (6), 3) := by decide +kernel
theorem dc_254_58 : decode (sm_cc 254) 58 = .ok (.aload_n 0, 1) := by decide +kernel
theorem dc_254_59 : decode (sm_cc 254) 59 = .ok (.getfield 11, 3) := by decide +kernel
theorem dc_254_62 : decode (sm_cc 254) 62 = .ok (.iload 5, 2) := by decide +kernel
theorem dc_254_64 : decode (sm_cc 254) 64 = .ok (.invokevirtual 320, 3) := by decide +kernel
theorem ow_256 : 7 = sm_ow 256 := by decide +kernel
theorem kr_254_320 : sm_at mt_k (sm_ow 254) 320 = some (320, 1, 256, 1, 1954) := by decide +kernel
theorem np_256 : sm_np 256 = 1 := by decide +kernel
theorem dc_254_67 : decode (sm_cc 254) 67 = .ok (.istore 7, 2) := by decide +kernel
theorem dc_254_69 : decode (sm_cc 254) 69 = .ok (.iload 7, 2) := by decide +kernel
theorem dc_254_71 : decode (sm_cc 254) 71 = .ok (.sipush (300), 3) := by decide +kernel
theorem dc_254_74 : decode (sm_cc 254) 74 = .ok (.if_icmp .le (7), 3) := by decide +kernel
theorem dc_254_81 : decode (sm_cc 254) 81 = .ok (.aload_n 0, 1) := by decide +kernel
theorem dc_254_82 : decode (sm_cc 254) 82 = .ok (.getfield 15, 3) := by decide +kernel
theorem dc_254_85 : decode (sm_cc 254) 85 = .ok (.bipush (7), 2) := by decide +kernel
theorem dc_254_87 : decode (sm_cc 254) 87 = .ok (.invokevirtual 263, 3) := by decide +kernel
theorem kr_254_263 : sm_at mt_k (sm_ow 254) 263 = some (263, 1, 178, 1, 1564) := by decide +kernel
theorem dc_254_90 : decode (sm_cc 254) 90 = .ok (.istore 8, 2) := by decide +kernel
theorem dc_254_92 : decode (sm_cc 254) 92 = .ok (.iload 8, 2) := by decide +kernel
theorem dc_254_94 : decode (sm_cc 254) 94 = .ok (.ifCond .ne (6), 3) := by decide +kernel
theorem dc_254_100 : decode (sm_cc 254) 100 = .ok (.aload_n 0, 1) := by decide +kernel
theorem dc_254_101 : decode (sm_cc 254) 101 = .ok (.getfield 15, 3) := by decide +kernel
theorem dc_254_104 : decode (sm_cc 254) 104 = .ok (.aload_n 0, 1) := by decide +kernel
theorem dc_254_105 : decode (sm_cc 254) 105 = .ok (.getfield 15, 3) := by decide +kernel
theorem dc_254_108 : decode (sm_cc 254) 108 = .ok (.getfield 156, 3) := by decide +kernel
theorem fr_254_156 : sm_at mt_f (sm_ow 254) 156 = some (156, 2, 3, 1, 379) := by decide +kernel
theorem dc_254_111 : decode (sm_cc 254) 111 = .ok (.iload 8, 2) := by decide +kernel
theorem dc_254_113 : decode (sm_cc 254) 113 = .ok (.invokevirtual 301, 3) := by decide +kernel
theorem kr_254_301 : sm_at mt_k (sm_ow 254) 301 = some (301, 1, 149, 1, 1958) := by decide +kernel
theorem dc_254_116 : decode (sm_cc 254) 116 = .ok (.aload_n 0, 1) := by decide +kernel
theorem dc_254_117 : decode (sm_cc 254) 117 = .ok (.getfield 15, 3) := by decide +kernel
theorem dc_254_120 : decode (sm_cc 254) 120 = .ok (.iload 8, 2) := by decide +kernel
theorem dc_254_122 : decode (sm_cc 254) 122 = .ok (.iconst 0, 1) := by decide +kernel
theorem dc_254_123 : decode (sm_cc 254) 123 = .ok (.aload_n 0, 1) := by decide +kernel
theorem dc_254_124 : decode (sm_cc 254) 124 = .ok (.getfield 15, 3) := by decide +kernel
theorem dc_254_127 : decode (sm_cc 254) 127 = .ok (.iload_n 1, 1) := by decide +kernel
theorem dc_254_128 : decode (sm_cc 254) 128 = .ok (.invokevirtual 241, 3) := by decide +kernel
theorem kr_254_241 : sm_at mt_k (sm_ow 254) 241 = some (241, 1, 168, 1, 1517) := by decide +kernel
theorem dc_254_131 : decode (sm_cc 254) 131 = .ok (.iconst 0, 1) := by decide +kernel
theorem dc_254_132 : decode (sm_cc 254) 132 = .ok (.invokevirtual 266, 3) := by decide +kernel
theorem kr_254_266 : sm_at mt_k (sm_ow 254) 266 = some (266, 1, 179, 1, 1568) := by decide +kernel
theorem dc_254_135 : decode (sm_cc 254) 135 = .ok (.aload_n 0, 1) := by decide +kernel
theorem dc_254_136 : decode (sm_cc 254) 136 = .ok (.getfield 15, 3) := by decide +kernel
theorem dc_254_139 : decode (sm_cc 254) 139 = .ok (.iload 8, 2) := by decide +kernel
theorem dc_254_141 : decode (sm_cc 254) 141 = .ok (.iload 7, 2) := by decide +kernel
theorem dc_254_143 : decode (sm_cc 254) 143 = .ok (.invokevirtual 323, 3) := by decide +kernel
theorem ow_257 : 2 = sm_ow 257 := by decide +kernel
theorem kr_254_323 : sm_at mt_k (sm_ow 254) 323 = some (323, 1, 257, 1, 1959) := by decide +kernel
theorem np_257 : sm_np 257 = 2 := by decide +kernel
theorem dc_254_146 : decode (sm_cc 254) 146 = .ok (.iload_n 3, 1) := by decide +kernel
theorem dc_254_147 : decode (sm_cc 254) 147 = .ok (.ifCond .eq (18), 3) := by decide +kernel
theorem dc_254_165 : decode (sm_cc 254) 165 = .ok (.iconst 0, 1) := by decide +kernel
theorem dc_254_166 : decode (sm_cc 254) 166 = .ok (.istore 9, 2) := by decide +kernel
theorem dc_254_97 : decode (sm_cc 254) 97 = .ok (.bipush (8), 2) := by decide +kernel
theorem dc_254_99 : decode (sm_cc 254) 99 = .ok (.ireturn, 1) := by decide +kernel
theorem rt_254 : sm_rt 254 = some .int := by decide +kernel
theorem dc_254_77 : decode (sm_cc 254) 77 = .ok (.iconst 0, 1) := by decide +kernel
theorem dc_254_78 : decode (sm_cc 254) 78 = .ok (.goto (12), 3) := by decide +kernel
theorem dc_254_55 : decode (sm_cc 254) 55 = .ok (.bipush (7), 2) := by decide +kernel
theorem dc_254_57 : decode (sm_cc 254) 57 = .ok (.ireturn, 1) := by decide +kernel
theorem dc_254_37 : decode (sm_cc 254) 37 = .ok (.iconst 2, 1) := by decide +kernel
theorem dc_254_38 : decode (sm_cc 254) 38 = .ok (.ireturn, 1) := by decide +kernel
theorem dc_254_18 : decode (sm_cc 254) 18 = .ok (.iconst 1, 1) := by decide +kernel
theorem dc_254_150 : decode (sm_cc 254) 150 = .ok (.aload_n 0, 1) := by decide +kernel
theorem dc_254_151 : decode (sm_cc 254) 151 = .ok (.getfield 15, 3) := by decide +kernel
theorem dc_254_154 : decode (sm_cc 254) 154 = .ok (.iload 8, 2) := by decide +kernel
theorem dc_254_156 : decode (sm_cc 254) 156 = .ok (.iconst 0, 1) := by decide +kernel
theorem dc_254_157 : decode (sm_cc 254) 157 = .ok (.ldc2_w 270, 3) := by decide +kernel
theorem cj_254_270 : sm_at mt_cj (sm_ow 254) 270 = some (270, (4611686018427387904), 1428) := by decide +kernel
theorem dc_254_160 : decode (sm_cc 254) 160 = .ok (.iload_n 3, 1) := by decide +kernel
theorem dc_254_161 : decode (sm_cc 254) 161 = .ok (.i2l, 1) := by decide +kernel
theorem dc_254_162 : decode (sm_cc 254) 162 = .ok (.invokevirtual 327, 3) := by decide +kernel
theorem ow_260 : 2 = sm_ow 260 := by decide +kernel
theorem kr_254_327 : sm_at mt_k (sm_ow 254) 327 = some (327, 1, 260, 1, 1969) := by decide +kernel
theorem np_260 : sm_np 260 = 4 := by decide +kernel
theorem dc_254_168 : decode (sm_cc 254) 168 = .ok (.iload 9, 2) := by decide +kernel
theorem dc_254_170 : decode (sm_cc 254) 170 = .ok (.iload_n 2, 1) := by decide +kernel
theorem dc_254_171 : decode (sm_cc 254) 171 = .ok (.if_icmp .ge (49), 3) := by decide +kernel
theorem dc_254_220 : decode (sm_cc 254) 220 = .ok (.aload_n 0, 1) := by decide +kernel
theorem dc_254_221 : decode (sm_cc 254) 221 = .ok (.getfield 23, 3) := by decide +kernel
theorem fr_254_23 : sm_at mt_f (sm_ow 254) 23 = some (23, 4, 3, 0, 839) := by decide +kernel
theorem dc_254_224 : decode (sm_cc 254) 224 = .ok (.iload_n 2, 1) := by decide +kernel
theorem dc_254_225 : decode (sm_cc 254) 225 = .ok (.invokevirtual 330, 3) := by decide +kernel
theorem ow_261 : 9 = sm_ow 261 := by decide +kernel
theorem kr_254_330 : sm_at mt_k (sm_ow 254) 330 = some (330, 1, 261, 1, 1973) := by decide +kernel
theorem np_261 : sm_np 261 = 1 := by decide +kernel
theorem dc_254_228 : decode (sm_cc 254) 228 = .ok (.aload_n 0, 1) := by decide +kernel
theorem dc_254_229 : decode (sm_cc 254) 229 = .ok (.getfield 40, 3) := by decide +kernel
theorem fr_254_40 : sm_at mt_f (sm_ow 254) 40 = some (40, 4, 6, 0, 842) := by decide +kernel
theorem dc_254_232 : decode (sm_cc 254) 232 = .ok (.aload_n 0, 1) := by decide +kernel
theorem dc_254_233 : decode (sm_cc 254) 233 = .ok (.getfield 150, 3) := by decide +kernel
theorem dc_254_236 : decode (sm_cc 254) 236 = .ok (.aload_n 0, 1) := by decide +kernel
theorem dc_254_237 : decode (sm_cc 254) 237 = .ok (.getfield 69, 3) := by decide +kernel
theorem fr_254_69 : sm_at mt_f (sm_ow 254) 69 = some (69, 4, 16, 0, 852) := by decide +kernel
theorem dc_254_240 : decode (sm_cc 254) 240 = .ok (.iastore, 1) := by decide +kernel
theorem dc_254_241 : decode (sm_cc 254) 241 = .ok (.aload_n 0, 1) := by decide +kernel
theorem dc_254_242 : decode (sm_cc 254) 242 = .ok (.getfield 44, 3) := by decide +kernel
theorem fr_254_44 : sm_at mt_f (sm_ow 254) 44 = some (44, 4, 7, 0, 843) := by decide +kernel
theorem dc_254_245 : decode (sm_cc 254) 245 = .ok (.aload_n 0, 1) := by decide +kernel
theorem dc_254_246 : decode (sm_cc 254) 246 = .ok (.getfield 150, 3) := by decide +kernel
theorem dc_254_249 : decode (sm_cc 254) 249 = .ok (.aload_n 0, 1) := by decide +kernel
theorem dc_254_250 : decode (sm_cc 254) 250 = .ok (.getfield 66, 3) := by decide +kernel
theorem fr_254_66 : sm_at mt_f (sm_ow 254) 66 = some (66, 4, 17, 0, 853) := by decide +kernel
theorem dc_254_253 : decode (sm_cc 254) 253 = .ok (.iastore, 1) := by decide +kernel
theorem dc_254_254 : decode (sm_cc 254) 254 = .ok (.aload_n 0, 1) := by decide +kernel
theorem dc_254_255 : decode (sm_cc 254) 255 = .ok (.getfield 47, 3) := by decide +kernel
theorem fr_254_47 : sm_at mt_f (sm_ow 254) 47 = some (47, 4, 8, 0, 844) := by decide +kernel
theorem dc_254_258 : decode (sm_cc 254) 258 = .ok (.aload_n 0, 1) := by decide +kernel
theorem dc_254_259 : decode (sm_cc 254) 259 = .ok (.getfield 150, 3) := by decide +kernel
theorem dc_254_262 : decode (sm_cc 254) 262 = .ok (.aload_n 0, 1) := by decide +kernel
theorem dc_254_263 : decode (sm_cc 254) 263 = .ok (.getfield 23, 3) := by decide +kernel
theorem dc_254_266 : decode (sm_cc 254) 266 = .ok (.getfield 122, 3) := by decide +kernel
theorem fr_254_122 : sm_at mt_f (sm_ow 254) 122 = some (122, 9, 3, 1, 773) := by decide +kernel
theorem dc_254_269 : decode (sm_cc 254) 269 = .ok (.iconst 1, 1) := by decide +kernel
theorem dc_254_270 : decode (sm_cc 254) 270 = .ok (.isub, 1) := by decide +kernel
theorem dc_254_271 : decode (sm_cc 254) 271 = .ok (.iastore, 1) := by decide +kernel
theorem dc_254_272 : decode (sm_cc 254) 272 = .ok (.aload_n 0, 1) := by decide +kernel
theorem dc_254_273 : decode (sm_cc 254) 273 = .ok (.getfield 50, 3) := by decide +kernel
theorem fr_254_50 : sm_at mt_f (sm_ow 254) 50 = some (50, 4, 9, 0, 845) := by decide +kernel
theorem dc_254_276 : decode (sm_cc 254) 276 = .ok (.aload_n 0, 1) := by decide +kernel
theorem dc_254_277 : decode (sm_cc 254) 277 = .ok (.getfield 150, 3) := by decide +kernel
theorem dc_254_280 : decode (sm_cc 254) 280 = .ok (.aload_n 0, 1) := by decide +kernel
theorem dc_254_281 : decode (sm_cc 254) 281 = .ok (.getfield 75, 3) := by decide +kernel
theorem fr_254_75 : sm_at mt_f (sm_ow 254) 75 = some (75, 4, 14, 0, 850) := by decide +kernel
theorem dc_254_284 : decode (sm_cc 254) 284 = .ok (.iastore, 1) := by decide +kernel
theorem dc_254_285 : decode (sm_cc 254) 285 = .ok (.aload_n 0, 1) := by decide +kernel
theorem dc_254_286 : decode (sm_cc 254) 286 = .ok (.getfield 53, 3) := by decide +kernel
theorem fr_254_53 : sm_at mt_f (sm_ow 254) 53 = some (53, 4, 10, 0, 846) := by decide +kernel
theorem dc_254_289 : decode (sm_cc 254) 289 = .ok (.aload_n 0, 1) := by decide +kernel
theorem dc_254_290 : decode (sm_cc 254) 290 = .ok (.getfield 150, 3) := by decide +kernel
theorem dc_254_293 : decode (sm_cc 254) 293 = .ok (.aload_n 0, 1) := by decide +kernel
theorem dc_254_294 : decode (sm_cc 254) 294 = .ok (.getfield 78, 3) := by decide +kernel
theorem fr_254_78 : sm_at mt_f (sm_ow 254) 78 = some (78, 4, 15, 0, 851) := by decide +kernel
theorem dc_254_297 : decode (sm_cc 254) 297 = .ok (.iastore, 1) := by decide +kernel
theorem dc_254_298 : decode (sm_cc 254) 298 = .ok (.aload_n 0, 1) := by decide +kernel
theorem dc_254_299 : decode (sm_cc 254) 299 = .ok (.getfield 56, 3) := by decide +kernel
theorem fr_254_56 : sm_at mt_f (sm_ow 254) 56 = some (56, 4, 11, 0, 847) := by decide +kernel
theorem dc_254_302 : decode (sm_cc 254) 302 = .ok (.aload_n 0, 1) := by decide +kernel
theorem dc_254_303 : decode (sm_cc 254) 303 = .ok (.getfield 150, 3) := by decide +kernel
theorem dc_254_306 : decode (sm_cc 254) 306 = .ok (.iload 4, 2) := by decide +kernel
theorem dc_254_308 : decode (sm_cc 254) 308 = .ok (.iastore, 1) := by decide +kernel
theorem dc_254_309 : decode (sm_cc 254) 309 = .ok (.aload_n 0, 1) := by decide +kernel
theorem dc_254_310 : decode (sm_cc 254) 310 = .ok (.dup, 1) := by decide +kernel
theorem dc_254_311 : decode (sm_cc 254) 311 = .ok (.getfield 150, 3) := by decide +kernel
theorem dc_254_314 : decode (sm_cc 254) 314 = .ok (.iconst 1, 1) := by decide +kernel
theorem dc_254_315 : decode (sm_cc 254) 315 = .ok (.iadd, 1) := by decide +kernel
theorem dc_254_316 : decode (sm_cc 254) 316 = .ok (.putfield 150, 3) := by decide +kernel
theorem dc_254_319 : decode (sm_cc 254) 319 = .ok (.aload_n 0, 1) := by decide +kernel
theorem dc_254_320 : decode (sm_cc 254) 320 = .ok (.iload 8, 2) := by decide +kernel
theorem dc_254_322 : decode (sm_cc 254) 322 = .ok (.putfield 78, 3) := by decide +kernel
theorem dc_254_325 : decode (sm_cc 254) 325 = .ok (.aload_n 0, 1) := by decide +kernel
theorem dc_254_326 : decode (sm_cc 254) 326 = .ok (.aload_n 0, 1) := by decide +kernel
theorem dc_254_327 : decode (sm_cc 254) 327 = .ok (.getfield 11, 3) := by decide +kernel
theorem dc_254_330 : decode (sm_cc 254) 330 = .ok (.iload 5, 2) := by decide +kernel
theorem dc_254_332 : decode (sm_cc 254) 332 = .ok (.invokevirtual 333, 3) := by decide +kernel
theorem ow_263 : 7 = sm_ow 263 := by decide +kernel
theorem kr_254_333 : sm_at mt_k (sm_ow 254) 333 = some (333, 1, 263, 1, 1981) := by decide +kernel
theorem np_263 : sm_np 263 = 1 := by decide +kernel
theorem dc_254_335 : decode (sm_cc 254) 335 = .ok (.putfield 69, 3) := by decide +kernel
theorem dc_254_338 : decode (sm_cc 254) 338 = .ok (.iconst 0, 1) := by decide +kernel
theorem dc_254_339 : decode (sm_cc 254) 339 = .ok (.ireturn, 1) := by decide +kernel
theorem dc_254_174 : decode (sm_cc 254) 174 = .ok (.aload_n 0, 1) := by decide +kernel
theorem dc_254_175 : decode (sm_cc 254) 175 = .ok (.getfield 15, 3) := by decide +kernel
theorem dc_254_178 : decode (sm_cc 254) 178 = .ok (.iload 8, 2) := by decide +kernel
theorem dc_254_180 : decode (sm_cc 254) 180 = .ok (.iload 6, 2) := by decide +kernel
theorem dc_254_182 : decode (sm_cc 254) 182 = .ok (.iload 9, 2) := by decide +kernel
theorem dc_254_184 : decode (sm_cc 254) 184 = .ok (.iadd, 1) := by decide +kernel
theorem dc_254_185 : decode (sm_cc 254) 185 = .ok (.aload_n 0, 1) := by decide +kernel
theorem dc_254_186 : decode (sm_cc 254) 186 = .ok (.getfield 23, 3) := by decide +kernel
theorem dc_254_189 : decode (sm_cc 254) 189 = .ok (.iload_n 2, 1) := by decide +kernel
theorem dc_254_190 : decode (sm_cc 254) 190 = .ok (.iconst 1, 1) := by decide +kernel
theorem dc_254_191 : decode (sm_cc 254) 191 = .ok (.isub, 1) := by decide +kernel
theorem dc_254_192 : decode (sm_cc 254) 192 = .ok (.iload 9, 2) := by decide +kernel
theorem dc_254_194 : decode (sm_cc 254) 194 = .ok (.isub, 1) := by decide +kernel
theorem dc_254_195 : decode (sm_cc 254) 195 = .ok (.invokevirtual 133, 3) := by decide +kernel
theorem kr_254_133 : sm_at mt_k (sm_ow 254) 133 = some (133, 1, 132, 1, 1427) := by decide +kernel
theorem dc_254_198 : decode (sm_cc 254) 198 = .ok (.aload_n 0, 1) := by decide +kernel
theorem dc_254_199 : decode (sm_cc 254) 199 = .ok (.getfield 23, 3) := by decide +kernel
theorem dc_254_202 : decode (sm_cc 254) 202 = .ok (.iload_n 2, 1) := by decide +kernel
theorem dc_254_203 : decode (sm_cc 254) 203 = .ok (.iconst 1, 1) := by decide +kernel
theorem dc_254_204 : decode (sm_cc 254) 204 = .ok (.isub, 1) := by decide +kernel
theorem dc_254_205 : decode (sm_cc 254) 205 = .ok (.iload 9, 2) := by decide +kernel
theorem dc_254_207 : decode (sm_cc 254) 207 = .ok (.isub, 1) := by decide +kernel
theorem dc_254_208 : decode (sm_cc 254) 208 = .ok (.invokevirtual 141, 3) := by decide +kernel
theorem kr_254_141 : sm_at mt_k (sm_ow 254) 141 = some (141, 1, 135, 1, 1429) := by decide +kernel
theorem dc_254_211 : decode (sm_cc 254) 211 = .ok (.invokevirtual 327, 3) := by decide +kernel
theorem dc_254_214 : decode (sm_cc 254) 214 = .ok (.iinc 9 (1), 3) := by decide +kernel
theorem dc_254_217 : decode (sm_cc 254) 217 = .ok (.goto (-49), 3) := by decide +kernel
theorem Bod.incM {d j pc q : Nat} {lv : sm_L} {st : List Value} {S Sf : cS} {v : Option Value} (hd : decode (sm_cc j) pc = .ok (.iinc q (-1), 3)) (hl : q < sm_ml j) (hg : sm_get lv q = some (.int (nI 0))) (h : Bod d j (pc + 3) (sm_p1 lv q (.int (Int32.ofInt (-1)))) st S v Sf) : Bod d j pc lv st S v Sf := Bod.inc hd hl hg (by rw [show nI 0 + Int32.ofInt (-1) = Int32.ofInt (-1) by decide]; exact h)
theorem Bod.subM {d j pc : Nat} {lv : sm_L} {st : List Value} {S Sf : cS} {v : Option Value} (hd : decode (sm_cc j) pc = .ok (.isub, 1)) (h : Bod d j (pc + 1) lv (.int (Int32.ofInt (-1)) :: st) S v Sf) : Bod d j pc lv (.int (nI 1) :: .int (nI 0) :: st) S v Sf := Bod.go hd rfl (by rw [show nI 0 - nI 1 = Int32.ofInt (-1) by decide]; exact h)
theorem mFu_1 {d : Nat} {S Sf : cS} {v : Option Value} {up : Nat} {fr : Nat} (mup : up < 2 ^ 20) (hfr : sI S 5215 = nI fr) (mfr : fr < 2 ^ 20) (hB : ∀ lv1 : sm_L, sm_get lv1 0 = some (.ref 52) → sm_get lv1 1 = some (.int (nI up)) → sm_get lv1 2 = some (.int (nI fr)) → sm_get lv1 3 = some (.int (nI 0)) → Bod (d + 8) 167 7 lv1 [] (S) v Sf) : Bod (d + 8) 167 0 [(0, .ref 52), (1, .int (nI up))] [] S v Sf := by
  refine Bod.go dc_167_0 rfl ?_
  refine Bod.get dc_167_1 fr_167_78 (mk_52 _) rfl ?_
  refine Bod.eqI (nI fr) (by first | assumption | rfl | exact congrArg nI (by omega) | (simp (disch := omega) only [rI, rIe, rA, rIA, rLA, rJA, rVI, rQI, rVA, rQA, upd_at,  rAI, rLI, rJI, nI_add, pk_sub, kc_0, kc_1, kc_2, kc_3, kc_4, kc_5, reduceIte, Nat.reduceEqDiff, Nat.add_zero, rI_hold, rI_hold, rL_hold, hfr]; done)) ?_
  refine Bod.istn dc_167_4 (by rw [ml_167]; exact Nat.le_of_ble_eq_true rfl) ?_
  refine Bod.ic 0 (by decide) dc_167_5 ?_
  refine Bod.istn dc_167_6 (by rw [ml_167]; exact Nat.le_of_ble_eq_true rfl) ?_
  exact hB _ (by first | rfl | exact (by repeat (first | exact rfl | exact sm_get_p1 | exact sm_get_p2e | refine sm_get_p1m (by decide) (by decide) ?_ | refine sm_get_p1n (by decide) rfl ?_ | refine sm_get_p2n (by decide) (by decide) rfl ?_))) (by first | rfl | exact (by repeat (first | exact rfl | exact sm_get_p1 | exact sm_get_p2e | refine sm_get_p1m (by decide) (by decide) ?_ | refine sm_get_p1n (by decide) rfl ?_ | refine sm_get_p2n (by decide) (by decide) rfl ?_))) (by first | rfl | exact (by repeat (first | exact rfl | exact sm_get_p1 | exact sm_get_p2e | refine sm_get_p1m (by decide) (by decide) ?_ | refine sm_get_p1n (by decide) rfl ?_ | refine sm_get_p2n (by decide) (by decide) rfl ?_))) (by first | rfl | exact (by repeat (first | exact rfl | exact sm_get_p1 | exact sm_get_p2e | refine sm_get_p1m (by decide) (by decide) ?_ | refine sm_get_p1n (by decide) rfl ?_ | refine sm_get_p2n (by decide) (by decide) rfl ?_)))
theorem mFuL_1 {d : Nat} {S : cS} {lv : sm_L} {up : Nat} {id : Nat} {ni : Nat} (q0 : sm_get lv 0 = some (.ref 52)) (q1 : sm_get lv 1 = some (.int (nI up))) (q2 : sm_get lv 2 = some (.int (nI id))) (q3 : sm_get lv 3 = some (.int (nI ni))) (mup : up < 2 ^ 20) (mid : id < 2 ^ 20) (mni : ni < 2 ^ 20) (b1 : up ≤ ni) : Bod (d + 8) 167 7 lv [] S (some (.int (nI id))) (S) := by
  refine Bod.ildnG dc_167_7 (by repeat (first | exact q3 | exact sm_get_p1 | exact sm_get_p2e | refine sm_get_p1m (by decide) (by decide) ?_ | refine sm_get_p1n (by decide) rfl ?_ | refine sm_get_p2n (by decide) (by decide) rfl ?_)) ?_
  refine Bod.ildnG dc_167_8 (by repeat (first | exact q1 | exact sm_get_p1 | exact sm_get_p2e | refine sm_get_p1m (by decide) (by decide) ?_ | refine sm_get_p1n (by decide) rfl ?_ | refine sm_get_p2n (by decide) (by decide) rfl ?_)) ?_
  refine Bod.icT dc_167_9 rfl (k2_ge_T ni up rfl rfl (by omega) (by omega)) ?_
  refine Bod.ildnG dc_167_31 (by repeat (first | exact q2 | exact sm_get_p1 | exact sm_get_p2e | refine sm_get_p1m (by decide) (by decide) ?_ | refine sm_get_p1n (by decide) rfl ?_ | refine sm_get_p2n (by decide) (by decide) rfl ?_)) ?_
  exact Bod.retI dc_167_32 rt_167
theorem mFuL_2 {d : Nat} {S : cS} {lv : sm_L} {up : Nat} {id : Nat} {ni : Nat} (q0 : sm_get lv 0 = some (.ref 52)) (q1 : sm_get lv 1 = some (.int (nI up))) (q2 : sm_get lv 2 = some (.int (nI id))) (q3 : sm_get lv 3 = some (.int (nI ni))) (mup : up < 2 ^ 20) (mid : id < 2 ^ 20) (mni : ni < 2 ^ 20) (b1 : ni < up) (b2 : id = 0) : Bod (d + 8) 167 7 lv [] S (some (.int (nI id))) (S) := by
  refine Bod.ildnG dc_167_7 (by repeat (first | exact q3 | exact sm_get_p1 | exact sm_get_p2e | refine sm_get_p1m (by decide) (by decide) ?_ | refine sm_get_p1n (by decide) rfl ?_ | refine sm_get_p2n (by decide) (by decide) rfl ?_)) ?_
  refine Bod.ildnG dc_167_8 (by repeat (first | exact q1 | exact sm_get_p1 | exact sm_get_p2e | refine sm_get_p1m (by decide) (by decide) ?_ | refine sm_get_p1n (by decide) rfl ?_ | refine sm_get_p2n (by decide) (by decide) rfl ?_)) ?_
  refine Bod.icF dc_167_9 rfl (k2_ge_F ni up rfl rfl (by omega) (by omega)) ?_
  refine Bod.ildnG dc_167_12 (by repeat (first | exact q2 | exact sm_get_p1 | exact sm_get_p2e | refine sm_get_p1m (by decide) (by decide) ?_ | refine sm_get_p1n (by decide) rfl ?_ | refine sm_get_p2n (by decide) (by decide) rfl ?_)) ?_
  refine Bod.ifT dc_167_13 rfl (k1_eq_T (k_eq id 0 rfl rfl (by omega))) ?_
  refine Bod.ildnG dc_167_31 (by repeat (first | exact q2 | exact sm_get_p1 | exact sm_get_p2e | refine sm_get_p1m (by decide) (by decide) ?_ | refine sm_get_p1n (by decide) rfl ?_ | refine sm_get_p2n (by decide) (by decide) rfl ?_)) ?_
  exact Bod.retI dc_167_32 rt_167
theorem mFuL_3 {d : Nat} {S Sf : cS} {v : Option Value} {lv : sm_L} {up : Nat} {id : Nat} {ni : Nat} {S1 : cS} {a : Nat} (q0 : sm_get lv 0 = some (.ref 52)) (q1 : sm_get lv 1 = some (.int (nI up))) (q2 : sm_get lv 2 = some (.int (nI id))) (q3 : sm_get lv 3 = some (.int (nI ni))) (mup : up < 2 ^ 20) (mid : id < 2 ^ 20) (mni : ni < 2 ^ 20) (b1 : ni < up) (b2 : id ≠ 0) (ma : a < 2 ^ 20) (c1 : Ans (d + 8) 168 [.ref 2, .int (nI id)] S (some (.int (nI a))) S1) (hB : ∀ lv1 : sm_L, sm_get lv1 0 = some (.ref 52) → sm_get lv1 1 = some (.int (nI up)) → sm_get lv1 2 = some (.int (nI a)) → sm_get lv1 3 = some (.int (nI (ni + 1))) → Bod (d + 8) 167 7 lv1 [] (S1) v Sf) : Bod (d + 8) 167 7 lv [] S v Sf := by
  refine Bod.ildnG dc_167_7 (by repeat (first | exact q3 | exact sm_get_p1 | exact sm_get_p2e | refine sm_get_p1m (by decide) (by decide) ?_ | refine sm_get_p1n (by decide) rfl ?_ | refine sm_get_p2n (by decide) (by decide) rfl ?_)) ?_
  refine Bod.ildnG dc_167_8 (by repeat (first | exact q1 | exact sm_get_p1 | exact sm_get_p2e | refine sm_get_p1m (by decide) (by decide) ?_ | refine sm_get_p1n (by decide) rfl ?_ | refine sm_get_p2n (by decide) (by decide) rfl ?_)) ?_
  refine Bod.icF dc_167_9 rfl (k2_ge_F ni up rfl rfl (by omega) (by omega)) ?_
  refine Bod.ildnG dc_167_12 (by repeat (first | exact q2 | exact sm_get_p1 | exact sm_get_p2e | refine sm_get_p1m (by decide) (by decide) ?_ | refine sm_get_p1n (by decide) rfl ?_ | refine sm_get_p2n (by decide) (by decide) rfl ?_)) ?_
  refine Bod.ifF dc_167_13 rfl (k1_eq_F (k_ne id 0 rfl rfl (by omega) (by omega) (by omega))) ?_
  refine Bod.aldnG dc_167_16 (by repeat (first | exact q0 | exact sm_get_p1 | exact sm_get_p2e | refine sm_get_p1m (by decide) (by decide) ?_ | refine sm_get_p1n (by decide) rfl ?_ | refine sm_get_p2n (by decide) (by decide) rfl ?_)) ?_
  refine Bod.get dc_167_17 fr_167_15 (mk_52 _) rfl ?_
  refine Bod.ildnG dc_167_20 (by repeat (first | exact q2 | exact sm_get_p1 | exact sm_get_p2e | refine sm_get_p1m (by decide) (by decide) ?_ | refine sm_get_p1n (by decide) rfl ?_ | refine sm_get_p2n (by decide) (by decide) rfl ?_)) ?_
  refine Bod.virt (r := []) dc_167_21 kr_167_241 ⟨Or.inr rfl, ow_168, cl_2⟩ (by rw [np_168]; rfl) (by rw [np_168]; rfl) (ob_of (mk_2 _)) (Nat.le_of_ble_eq_true rfl) (c1  ) ?_
  show Bod _ _ _ _ [_] _ _ _
  refine Bod.istn dc_167_24 (by rw [ml_167]; exact Nat.le_of_ble_eq_true rfl) ?_
  refine Bod.incN (ni + 1) (by rw [kc_1, nI_add]) dc_167_25 (by rw [ml_167]; exact Nat.le_of_ble_eq_true rfl) (by repeat (first | exact q3 | exact sm_get_p1 | exact sm_get_p2e | refine sm_get_p1m (by decide) (by decide) ?_ | refine sm_get_p1n (by decide) rfl ?_ | refine sm_get_p2n (by decide) (by decide) rfl ?_)) ?_
  refine Bod.go dc_167_28 rfl ?_
  exact hB _ (by repeat (first | exact q0 | exact sm_get_p1 | exact sm_get_p2e | refine sm_get_p1m (by decide) (by decide) ?_ | refine sm_get_p1n (by decide) rfl ?_ | refine sm_get_p2n (by decide) (by decide) rfl ?_)) (by repeat (first | exact q1 | exact sm_get_p1 | exact sm_get_p2e | refine sm_get_p1m (by decide) (by decide) ?_ | refine sm_get_p1n (by decide) rfl ?_ | refine sm_get_p2n (by decide) (by decide) rfl ?_)) (by repeat (first | exact q0 | exact sm_get_p1 | exact sm_get_p2e | refine sm_get_p1m (by decide) (by decide) ?_ | refine sm_get_p1n (by decide) rfl ?_ | refine sm_get_p2n (by decide) (by decide) rfl ?_)) (by repeat (first | exact q0 | exact sm_get_p1 | exact sm_get_p2e | refine sm_get_p1m (by decide) (by decide) ?_ | refine sm_get_p1n (by decide) rfl ?_ | refine sm_get_p2n (by decide) (by decide) rfl ?_))
theorem mMc_1 {d : Nat} {S Sf : cS} {v : Option Value} {S1 : cS} {a : Nat} {S2 : cS} {a1 : Nat} {S3 : cS} {a2 : Nat} {S4 : cS} {a3 : Nat} {S5 : cS} (ma : a < 2 ^ 20) (c1 : Ans (d + 8) 127 [.ref 52] S (some (.int (nI a))) S1) (ma1 : a1 < 2 ^ 20) (c2 : Ans (d + 8) 127 [.ref 52] S1 (some (.int (nI a1))) S2) (ma2 : a2 < 2 ^ 20) (c3 : Ans (d + 8) 127 [.ref 52] S2 (some (.int (nI a2))) S3) (b1 : a1 ≠ 1) (ma3 : a3 < 2 ^ 20) (c4 : Ans (d + 8) 178 [.ref 2, .int (nI 4)] S3 (some (.int (nI a3))) S4) (b2 : a3 ≠ 0) (c5 : Ans (d + 8) 179 [.ref 2, .int (nI a3), .int (nI a), .int (nI 0), .int (nI 0)] S4 none S5) (b3 : 1 ≤ a2) (hB : ∀ lv1 : sm_L, sm_get lv1 0 = some (.ref 52) → sm_get lv1 2 = some (.int (nI a1)) → sm_get lv1 3 = some (.int (nI a2)) → sm_get lv1 5 = some (.int (nI a3)) → sm_get lv1 6 = some (.int (nI (a2 - 1))) → Bod (d + 8) 180 83 lv1 [] (S5) v Sf) : Bod (d + 8) 180 0 [(0, .ref 52)] [] S v Sf := by
  refine Bod.go dc_180_0 rfl ?_
  refine Bod.virt (r := []) dc_180_1 kr_180_82 ⟨Or.inl rfl, ow_127, cl_4⟩ (by rw [np_127]; rfl) (by rw [np_127]; rfl) (ob_of (mk_52 _)) (Nat.le_of_ble_eq_true rfl) (c1  ) ?_
  show Bod _ _ _ _ [_] _ _ _
  refine Bod.istn dc_180_4 (by rw [ml_180]; exact Nat.le_of_ble_eq_true rfl) ?_
  refine Bod.go dc_180_5 rfl ?_
  refine Bod.virt (r := []) dc_180_6 kr_180_82 ⟨Or.inl rfl, ow_127, cl_4⟩ (by rw [np_127]; rfl) (by rw [np_127]; rfl) (ob_of (mk_52 _)) (Nat.le_of_ble_eq_true rfl) (c2  ) ?_
  show Bod _ _ _ _ [_] _ _ _
  refine Bod.istn dc_180_9 (by rw [ml_180]; exact Nat.le_of_ble_eq_true rfl) ?_
  refine Bod.go dc_180_10 rfl ?_
  refine Bod.virt (r := []) dc_180_11 kr_180_82 ⟨Or.inl rfl, ow_127, cl_4⟩ (by rw [np_127]; rfl) (by rw [np_127]; rfl) (ob_of (mk_52 _)) (Nat.le_of_ble_eq_true rfl) (c3  ) ?_
  show Bod _ _ _ _ [_] _ _ _
  refine Bod.istn dc_180_14 (by rw [ml_180]; exact Nat.le_of_ble_eq_true rfl) ?_
  refine Bod.go dc_180_15 rfl ?_
  refine Bod.ic 1 (by decide) dc_180_16 ?_
  refine Bod.icT dc_180_17 rfl (k2_ne_T (k_ne a1 1 rfl rfl (by omega) (by omega) (by omega))) ?_
  refine Bod.ic 0 (by decide) dc_180_32 ?_
  refine Bod.ist dc_180_33 (by rw [ml_180]; exact Nat.le_of_ble_eq_true rfl) ?_
  refine Bod.go dc_180_35 rfl ?_
  refine Bod.ic 1 (by decide) dc_180_36 ?_
  refine Bod.icT dc_180_37 rfl (k2_ne_T (k_ne a1 1 rfl rfl (by omega) (by omega) (by omega))) ?_
  refine Bod.go dc_180_47 rfl ?_
  refine Bod.get dc_180_48 fr_180_15 (mk_52 _) rfl ?_
  refine Bod.ic 4 (by decide) dc_180_51 ?_
  refine Bod.virt (r := []) dc_180_52 kr_180_263 ⟨Or.inr rfl, ow_178, cl_2⟩ (by rw [np_178]; rfl) (by rw [np_178]; rfl) (ob_of (mk_2 _)) (Nat.le_of_ble_eq_true rfl) (c4  ) ?_
  show Bod _ _ _ _ [_] _ _ _
  refine Bod.ist dc_180_55 (by rw [ml_180]; exact Nat.le_of_ble_eq_true rfl) ?_
  refine Bod.go dc_180_57 rfl ?_
  refine Bod.ifT dc_180_59 rfl (k1_ne_T (k_ne a3 0 rfl rfl (by omega) (by omega) (by omega))) ?_
  refine Bod.go dc_180_65 rfl ?_
  refine Bod.get dc_180_66 fr_180_15 (mk_52 _) rfl ?_
  refine Bod.go dc_180_69 rfl ?_
  refine Bod.go dc_180_71 rfl ?_
  refine Bod.go dc_180_72 rfl ?_
  refine Bod.ic 0 (by decide) dc_180_74 ?_
  refine Bod.virt (r := []) dc_180_75 kr_180_266 ⟨Or.inr rfl, ow_179, cl_2⟩ (by rw [np_179]; rfl) (by rw [np_179]; rfl) (ob_of (mk_2 _)) (Nat.le_of_ble_eq_true rfl) (c5  ) ?_
  show Bod _ _ _ _ [] _ _ _
  refine Bod.go dc_180_78 rfl ?_
  refine Bod.ic 1 (by decide) dc_180_79 ?_
  refine Bod.subN (a2 - 1) (by omega) (by omega) dc_180_80 ?_
  refine Bod.ist dc_180_81 (by rw [ml_180]; exact Nat.le_of_ble_eq_true rfl) ?_
  exact hB _ (by first | rfl | exact (by repeat (first | exact rfl | exact sm_get_p1 | exact sm_get_p2e | refine sm_get_p1m (by decide) (by decide) ?_ | refine sm_get_p1n (by decide) rfl ?_ | refine sm_get_p2n (by decide) (by decide) rfl ?_))) (by first | rfl | exact (by repeat (first | exact rfl | exact sm_get_p1 | exact sm_get_p2e | refine sm_get_p1m (by decide) (by decide) ?_ | refine sm_get_p1n (by decide) rfl ?_ | refine sm_get_p2n (by decide) (by decide) rfl ?_))) (by first | rfl | exact (by repeat (first | exact rfl | exact sm_get_p1 | exact sm_get_p2e | refine sm_get_p1m (by decide) (by decide) ?_ | refine sm_get_p1n (by decide) rfl ?_ | refine sm_get_p2n (by decide) (by decide) rfl ?_))) (by first | rfl | exact (by repeat (first | exact rfl | exact sm_get_p1 | exact sm_get_p2e | refine sm_get_p1m (by decide) (by decide) ?_ | refine sm_get_p1n (by decide) rfl ?_ | refine sm_get_p2n (by decide) (by decide) rfl ?_))) (by first | rfl | exact (by repeat (first | exact rfl | exact sm_get_p1 | exact sm_get_p2e | refine sm_get_p1m (by decide) (by decide) ?_ | refine sm_get_p1n (by decide) rfl ?_ | refine sm_get_p2n (by decide) (by decide) rfl ?_)))
theorem mMc_2 {d : Nat} {S : cS} {S1 : cS} {a : Nat} {S2 : cS} {a1 : Nat} {S3 : cS} {a2 : Nat} {S4 : cS} {a3 : Nat} (ma : a < 2 ^ 20) (c1 : Ans (d + 8) 127 [.ref 52] S (some (.int (nI a))) S1) (ma1 : a1 < 2 ^ 20) (c2 : Ans (d + 8) 127 [.ref 52] S1 (some (.int (nI a1))) S2) (ma2 : a2 < 2 ^ 20) (c3 : Ans (d + 8) 127 [.ref 52] S2 (some (.int (nI a2))) S3) (b1 : a1 ≠ 1) (ma3 : a3 < 2 ^ 20) (c4 : Ans (d + 8) 178 [.ref 2, .int (nI 4)] S3 (some (.int (nI a3))) S4) (b2 : a3 = 0) : Bod (d + 8) 180 0 [(0, .ref 52)] [] S (some (.int (nI 8))) (S4) := by
  refine Bod.go dc_180_0 rfl ?_
  refine Bod.virt (r := []) dc_180_1 kr_180_82 ⟨Or.inl rfl, ow_127, cl_4⟩ (by rw [np_127]; rfl) (by rw [np_127]; rfl) (ob_of (mk_52 _)) (Nat.le_of_ble_eq_true rfl) (c1  ) ?_
  show Bod _ _ _ _ [_] _ _ _
  refine Bod.istn dc_180_4 (by rw [ml_180]; exact Nat.le_of_ble_eq_true rfl) ?_
  refine Bod.go dc_180_5 rfl ?_
  refine Bod.virt (r := []) dc_180_6 kr_180_82 ⟨Or.inl rfl, ow_127, cl_4⟩ (by rw [np_127]; rfl) (by rw [np_127]; rfl) (ob_of (mk_52 _)) (Nat.le_of_ble_eq_true rfl) (c2  ) ?_
  show Bod _ _ _ _ [_] _ _ _
  refine Bod.istn dc_180_9 (by rw [ml_180]; exact Nat.le_of_ble_eq_true rfl) ?_
  refine Bod.go dc_180_10 rfl ?_
  refine Bod.virt (r := []) dc_180_11 kr_180_82 ⟨Or.inl rfl, ow_127, cl_4⟩ (by rw [np_127]; rfl) (by rw [np_127]; rfl) (ob_of (mk_52 _)) (Nat.le_of_ble_eq_true rfl) (c3  ) ?_
  show Bod _ _ _ _ [_] _ _ _
  refine Bod.istn dc_180_14 (by rw [ml_180]; exact Nat.le_of_ble_eq_true rfl) ?_
  refine Bod.go dc_180_15 rfl ?_
  refine Bod.ic 1 (by decide) dc_180_16 ?_
  refine Bod.icT dc_180_17 rfl (k2_ne_T (k_ne a1 1 rfl rfl (by omega) (by omega) (by omega))) ?_
  refine Bod.ic 0 (by decide) dc_180_32 ?_
  refine Bod.ist dc_180_33 (by rw [ml_180]; exact Nat.le_of_ble_eq_true rfl) ?_
  refine Bod.go dc_180_35 rfl ?_
  refine Bod.ic 1 (by decide) dc_180_36 ?_
  refine Bod.icT dc_180_37 rfl (k2_ne_T (k_ne a1 1 rfl rfl (by omega) (by omega) (by omega))) ?_
  refine Bod.go dc_180_47 rfl ?_
  refine Bod.get dc_180_48 fr_180_15 (mk_52 _) rfl ?_
  refine Bod.ic 4 (by decide) dc_180_51 ?_
  refine Bod.virt (r := []) dc_180_52 kr_180_263 ⟨Or.inr rfl, ow_178, cl_2⟩ (by rw [np_178]; rfl) (by rw [np_178]; rfl) (ob_of (mk_2 _)) (Nat.le_of_ble_eq_true rfl) (c4  ) ?_
  show Bod _ _ _ _ [_] _ _ _
  refine Bod.ist dc_180_55 (by rw [ml_180]; exact Nat.le_of_ble_eq_true rfl) ?_
  refine Bod.go dc_180_57 rfl ?_
  refine Bod.ifF dc_180_59 rfl (k1_ne_F (k_eq a3 0 rfl rfl (by omega))) ?_
  refine Bod.bip 8 (by decide) dc_180_62 ?_
  exact Bod.retI dc_180_64 rt_180
theorem mMc_3 {d : Nat} {S Sf : cS} {v : Option Value} {S1 : cS} {a : Nat} {S2 : cS} {a1 : Nat} {S3 : cS} {a2 : Nat} {S4 : cS} {a3 : Nat} {S5 : cS} {a4 : Nat} {S6 : cS} (ma : a < 2 ^ 20) (c1 : Ans (d + 8) 127 [.ref 52] S (some (.int (nI a))) S1) (ma1 : a1 < 2 ^ 20) (c2 : Ans (d + 8) 127 [.ref 52] S1 (some (.int (nI a1))) S2) (ma2 : a2 < 2 ^ 20) (c3 : Ans (d + 8) 127 [.ref 52] S2 (some (.int (nI a2))) S3) (b1 : a1 = 1) (ma3 : a3 < 2 ^ 20) (c4 : Ans (d + 8) 152 [.ref 46, .int (nI 0), .int (nI 4)] S3 (some (.int (nI a3))) S4) (b2 : a1 ≠ 1) (ma4 : a4 < 2 ^ 20) (c5 : Ans (d + 8) 178 [.ref 2, .int (nI 4)] S4 (some (.int (nI a4))) S5) (b3 : a4 ≠ 0) (c6 : Ans (d + 8) 179 [.ref 2, .int (nI a4), .int (nI a), .int (nI a3), .int (nI 0)] S5 none S6) (b4 : 1 ≤ a2) (hB : ∀ lv1 : sm_L, sm_get lv1 0 = some (.ref 52) → sm_get lv1 2 = some (.int (nI a1)) → sm_get lv1 3 = some (.int (nI a2)) → sm_get lv1 5 = some (.int (nI a4)) → sm_get lv1 6 = some (.int (nI (a2 - 1))) → Bod (d + 8) 180 83 lv1 [] (S6) v Sf) : Bod (d + 8) 180 0 [(0, .ref 52)] [] S v Sf := by
  refine Bod.go dc_180_0 rfl ?_
  refine Bod.virt (r := []) dc_180_1 kr_180_82 ⟨Or.inl rfl, ow_127, cl_4⟩ (by rw [np_127]; rfl) (by rw [np_127]; rfl) (ob_of (mk_52 _)) (Nat.le_of_ble_eq_true rfl) (c1  ) ?_
  show Bod _ _ _ _ [_] _ _ _
  refine Bod.istn dc_180_4 (by rw [ml_180]; exact Nat.le_of_ble_eq_true rfl) ?_
  refine Bod.go dc_180_5 rfl ?_
  refine Bod.virt (r := []) dc_180_6 kr_180_82 ⟨Or.inl rfl, ow_127, cl_4⟩ (by rw [np_127]; rfl) (by rw [np_127]; rfl) (ob_of (mk_52 _)) (Nat.le_of_ble_eq_true rfl) (c2  ) ?_
  show Bod _ _ _ _ [_] _ _ _
  refine Bod.istn dc_180_9 (by rw [ml_180]; exact Nat.le_of_ble_eq_true rfl) ?_
  refine Bod.go dc_180_10 rfl ?_
  refine Bod.virt (r := []) dc_180_11 kr_180_82 ⟨Or.inl rfl, ow_127, cl_4⟩ (by rw [np_127]; rfl) (by rw [np_127]; rfl) (ob_of (mk_52 _)) (Nat.le_of_ble_eq_true rfl) (c3  ) ?_
  show Bod _ _ _ _ [_] _ _ _
  refine Bod.istn dc_180_14 (by rw [ml_180]; exact Nat.le_of_ble_eq_true rfl) ?_
  refine Bod.go dc_180_15 rfl ?_
  refine Bod.ic 1 (by decide) dc_180_16 ?_
  refine Bod.icF dc_180_17 rfl (k2_ne_F (k_eq a1 1 rfl rfl (by omega))) ?_
  refine Bod.go dc_180_20 rfl ?_
  refine Bod.get dc_180_21 fr_180_23 (mk_52 _) rfl ?_
  refine Bod.ic 0 (by decide) dc_180_24 ?_
  refine Bod.ic 4 (by decide) dc_180_25 ?_
  refine Bod.virt (r := []) dc_180_26 kr_180_190 ⟨Or.inr rfl, ow_152, cl_9⟩ (by rw [np_152]; rfl) (by rw [np_152]; rfl) (ob_of (mk_46 _)) (Nat.le_of_ble_eq_true rfl) (c4  ) ?_
  show Bod _ _ _ _ [_] _ _ _
  refine Bod.go dc_180_29 rfl ?_
  refine Bod.ist dc_180_33 (by rw [ml_180]; exact Nat.le_of_ble_eq_true rfl) ?_
  refine Bod.go dc_180_35 rfl ?_
  refine Bod.ic 1 (by decide) dc_180_36 ?_
  refine Bod.icT dc_180_37 rfl (k2_ne_T (k_ne a1 1 rfl rfl (by omega) (by omega) (by omega))) ?_
  refine Bod.go dc_180_47 rfl ?_
  refine Bod.get dc_180_48 fr_180_15 (mk_52 _) rfl ?_
  refine Bod.ic 4 (by decide) dc_180_51 ?_
  refine Bod.virt (r := []) dc_180_52 kr_180_263 ⟨Or.inr rfl, ow_178, cl_2⟩ (by rw [np_178]; rfl) (by rw [np_178]; rfl) (ob_of (mk_2 _)) (Nat.le_of_ble_eq_true rfl) (c5  ) ?_
  show Bod _ _ _ _ [_] _ _ _
  refine Bod.ist dc_180_55 (by rw [ml_180]; exact Nat.le_of_ble_eq_true rfl) ?_
  refine Bod.go dc_180_57 rfl ?_
  refine Bod.ifT dc_180_59 rfl (k1_ne_T (k_ne a4 0 rfl rfl (by omega) (by omega) (by omega))) ?_
  refine Bod.go dc_180_65 rfl ?_
  refine Bod.get dc_180_66 fr_180_15 (mk_52 _) rfl ?_
  refine Bod.go dc_180_69 rfl ?_
  refine Bod.go dc_180_71 rfl ?_
  refine Bod.go dc_180_72 rfl ?_
  refine Bod.ic 0 (by decide) dc_180_74 ?_
  refine Bod.virt (r := []) dc_180_75 kr_180_266 ⟨Or.inr rfl, ow_179, cl_2⟩ (by rw [np_179]; rfl) (by rw [np_179]; rfl) (ob_of (mk_2 _)) (Nat.le_of_ble_eq_true rfl) (c6  ) ?_
  show Bod _ _ _ _ [] _ _ _
  refine Bod.go dc_180_78 rfl ?_
  refine Bod.ic 1 (by decide) dc_180_79 ?_
  refine Bod.subN (a2 - 1) (by omega) (by omega) dc_180_80 ?_
  refine Bod.ist dc_180_81 (by rw [ml_180]; exact Nat.le_of_ble_eq_true rfl) ?_
  exact hB _ (by first | rfl | exact (by repeat (first | exact rfl | exact sm_get_p1 | exact sm_get_p2e | refine sm_get_p1m (by decide) (by decide) ?_ | refine sm_get_p1n (by decide) rfl ?_ | refine sm_get_p2n (by decide) (by decide) rfl ?_))) (by first | rfl | exact (by repeat (first | exact rfl | exact sm_get_p1 | exact sm_get_p2e | refine sm_get_p1m (by decide) (by decide) ?_ | refine sm_get_p1n (by decide) rfl ?_ | refine sm_get_p2n (by decide) (by decide) rfl ?_))) (by first | rfl | exact (by repeat (first | exact rfl | exact sm_get_p1 | exact sm_get_p2e | refine sm_get_p1m (by decide) (by decide) ?_ | refine sm_get_p1n (by decide) rfl ?_ | refine sm_get_p2n (by decide) (by decide) rfl ?_))) (by first | rfl | exact (by repeat (first | exact rfl | exact sm_get_p1 | exact sm_get_p2e | refine sm_get_p1m (by decide) (by decide) ?_ | refine sm_get_p1n (by decide) rfl ?_ | refine sm_get_p2n (by decide) (by decide) rfl ?_))) (by first | rfl | exact (by repeat (first | exact rfl | exact sm_get_p1 | exact sm_get_p2e | refine sm_get_p1m (by decide) (by decide) ?_ | refine sm_get_p1n (by decide) rfl ?_ | refine sm_get_p2n (by decide) (by decide) rfl ?_)))
theorem mMc_4 {d : Nat} {S : cS} {S1 : cS} {a : Nat} {S2 : cS} {a1 : Nat} {S3 : cS} {a2 : Nat} {S4 : cS} {a3 : Nat} {S5 : cS} {a4 : Nat} (ma : a < 2 ^ 20) (c1 : Ans (d + 8) 127 [.ref 52] S (some (.int (nI a))) S1) (ma1 : a1 < 2 ^ 20) (c2 : Ans (d + 8) 127 [.ref 52] S1 (some (.int (nI a1))) S2) (ma2 : a2 < 2 ^ 20) (c3 : Ans (d + 8) 127 [.ref 52] S2 (some (.int (nI a2))) S3) (b1 : a1 = 1) (ma3 : a3 < 2 ^ 20) (c4 : Ans (d + 8) 152 [.ref 46, .int (nI 0), .int (nI 4)] S3 (some (.int (nI a3))) S4) (b2 : a1 ≠ 1) (ma4 : a4 < 2 ^ 20) (c5 : Ans (d + 8) 178 [.ref 2, .int (nI 4)] S4 (some (.int (nI a4))) S5) (b3 : a4 = 0) : Bod (d + 8) 180 0 [(0, .ref 52)] [] S (some (.int (nI 8))) (S5) := by
  refine Bod.go dc_180_0 rfl ?_
  refine Bod.virt (r := []) dc_180_1 kr_180_82 ⟨Or.inl rfl, ow_127, cl_4⟩ (by rw [np_127]; rfl) (by rw [np_127]; rfl) (ob_of (mk_52 _)) (Nat.le_of_ble_eq_true rfl) (c1  ) ?_
  show Bod _ _ _ _ [_] _ _ _
  refine Bod.istn dc_180_4 (by rw [ml_180]; exact Nat.le_of_ble_eq_true rfl) ?_
  refine Bod.go dc_180_5 rfl ?_
  refine Bod.virt (r := []) dc_180_6 kr_180_82 ⟨Or.inl rfl, ow_127, cl_4⟩ (by rw [np_127]; rfl) (by rw [np_127]; rfl) (ob_of (mk_52 _)) (Nat.le_of_ble_eq_true rfl) (c2  ) ?_
  show Bod _ _ _ _ [_] _ _ _
  refine Bod.istn dc_180_9 (by rw [ml_180]; exact Nat.le_of_ble_eq_true rfl) ?_
  refine Bod.go dc_180_10 rfl ?_
  refine Bod.virt (r := []) dc_180_11 kr_180_82 ⟨Or.inl rfl, ow_127, cl_4⟩ (by rw [np_127]; rfl) (by rw [np_127]; rfl) (ob_of (mk_52 _)) (Nat.le_of_ble_eq_true rfl) (c3  ) ?_
  show Bod _ _ _ _ [_] _ _ _
  refine Bod.istn dc_180_14 (by rw [ml_180]; exact Nat.le_of_ble_eq_true rfl) ?_
  refine Bod.go dc_180_15 rfl ?_
  refine Bod.ic 1 (by decide) dc_180_16 ?_
  refine Bod.icF dc_180_17 rfl (k2_ne_F (k_eq a1 1 rfl rfl (by omega))) ?_
  refine Bod.go dc_180_20 rfl ?_
  refine Bod.get dc_180_21 fr_180_23 (mk_52 _) rfl ?_
  refine Bod.ic 0 (by decide) dc_180_24 ?_
  refine Bod.ic 4 (by decide) dc_180_25 ?_
  refine Bod.virt (r := []) dc_180_26 kr_180_190 ⟨Or.inr rfl, ow_152, cl_9⟩ (by rw [np_152]; rfl) (by rw [np_152]; rfl) (ob_of (mk_46 _)) (Nat.le_of_ble_eq_true rfl) (c4  ) ?_
  show Bod _ _ _ _ [_] _ _ _
  refine Bod.go dc_180_29 rfl ?_
  refine Bod.ist dc_180_33 (by rw [ml_180]; exact Nat.le_of_ble_eq_true rfl) ?_
  refine Bod.go dc_180_35 rfl ?_
  refine Bod.ic 1 (by decide) dc_180_36 ?_
  refine Bod.icT dc_180_37 rfl (k2_ne_T (k_ne a1 1 rfl rfl (by omega) (by omega) (by omega))) ?_
  refine Bod.go dc_180_47 rfl ?_
  refine Bod.get dc_180_48 fr_180_15 (mk_52 _) rfl ?_
  refine Bod.ic 4 (by decide) dc_180_51 ?_
  refine Bod.virt (r := []) dc_180_52 kr_180_263 ⟨Or.inr rfl, ow_178, cl_2⟩ (by rw [np_178]; rfl) (by rw [np_178]; rfl) (ob_of (mk_2 _)) (Nat.le_of_ble_eq_true rfl) (c5  ) ?_
  show Bod _ _ _ _ [_] _ _ _
  refine Bod.ist dc_180_55 (by rw [ml_180]; exact Nat.le_of_ble_eq_true rfl) ?_
  refine Bod.go dc_180_57 rfl ?_
  refine Bod.ifF dc_180_59 rfl (k1_ne_F (k_eq a4 0 rfl rfl (by omega))) ?_
  refine Bod.bip 8 (by decide) dc_180_62 ?_
  exact Bod.retI dc_180_64 rt_180
theorem mMc_5 {d : Nat} {S Sf : cS} {v : Option Value} {S1 : cS} {a : Nat} {S2 : cS} {a1 : Nat} {S3 : cS} {a2 : Nat} {S4 : cS} {a3 : Nat} {S5 : cS} {a4 : Nat} {S6 : cS} (ma : a < 2 ^ 20) (c1 : Ans (d + 8) 127 [.ref 52] S (some (.int (nI a))) S1) (ma1 : a1 < 2 ^ 20) (c2 : Ans (d + 8) 127 [.ref 52] S1 (some (.int (nI a1))) S2) (ma2 : a2 < 2 ^ 20) (c3 : Ans (d + 8) 127 [.ref 52] S2 (some (.int (nI a2))) S3) (b1 : a1 = 1) (ma3 : a3 < 2 ^ 20) (c4 : Ans (d + 8) 152 [.ref 46, .int (nI 0), .int (nI 4)] S3 (some (.int (nI a3))) S4) (b2 : a1 = 1) (b3 : a3 ≠ 0) (ma4 : a4 < 2 ^ 20) (c5 : Ans (d + 8) 178 [.ref 2, .int (nI 4)] S4 (some (.int (nI a4))) S5) (b4 : a4 ≠ 0) (c6 : Ans (d + 8) 179 [.ref 2, .int (nI a4), .int (nI a), .int (nI a3), .int (nI 0)] S5 none S6) (b5 : 1 ≤ a2) (hB : ∀ lv1 : sm_L, sm_get lv1 0 = some (.ref 52) → sm_get lv1 2 = some (.int (nI a1)) → sm_get lv1 3 = some (.int (nI a2)) → sm_get lv1 5 = some (.int (nI a4)) → sm_get lv1 6 = some (.int (nI (a2 - 1))) → Bod (d + 8) 180 83 lv1 [] (S6) v Sf) : Bod (d + 8) 180 0 [(0, .ref 52)] [] S v Sf := by
  refine Bod.go dc_180_0 rfl ?_
  refine Bod.virt (r := []) dc_180_1 kr_180_82 ⟨Or.inl rfl, ow_127, cl_4⟩ (by rw [np_127]; rfl) (by rw [np_127]; rfl) (ob_of (mk_52 _)) (Nat.le_of_ble_eq_true rfl) (c1  ) ?_
  show Bod _ _ _ _ [_] _ _ _
  refine Bod.istn dc_180_4 (by rw [ml_180]; exact Nat.le_of_ble_eq_true rfl) ?_
  refine Bod.go dc_180_5 rfl ?_
  refine Bod.virt (r := []) dc_180_6 kr_180_82 ⟨Or.inl rfl, ow_127, cl_4⟩ (by rw [np_127]; rfl) (by rw [np_127]; rfl) (ob_of (mk_52 _)) (Nat.le_of_ble_eq_true rfl) (c2  ) ?_
  show Bod _ _ _ _ [_] _ _ _
  refine Bod.istn dc_180_9 (by rw [ml_180]; exact Nat.le_of_ble_eq_true rfl) ?_
  refine Bod.go dc_180_10 rfl ?_
  refine Bod.virt (r := []) dc_180_11 kr_180_82 ⟨Or.inl rfl, ow_127, cl_4⟩ (by rw [np_127]; rfl) (by rw [np_127]; rfl) (ob_of (mk_52 _)) (Nat.le_of_ble_eq_true rfl) (c3  ) ?_
  show Bod _ _ _ _ [_] _ _ _
  refine Bod.istn dc_180_14 (by rw [ml_180]; exact Nat.le_of_ble_eq_true rfl) ?_
  refine Bod.go dc_180_15 rfl ?_
  refine Bod.ic 1 (by decide) dc_180_16 ?_
  refine Bod.icF dc_180_17 rfl (k2_ne_F (k_eq a1 1 rfl rfl (by omega))) ?_
  refine Bod.go dc_180_20 rfl ?_
  refine Bod.get dc_180_21 fr_180_23 (mk_52 _) rfl ?_
  refine Bod.ic 0 (by decide) dc_180_24 ?_
  refine Bod.ic 4 (by decide) dc_180_25 ?_
  refine Bod.virt (r := []) dc_180_26 kr_180_190 ⟨Or.inr rfl, ow_152, cl_9⟩ (by rw [np_152]; rfl) (by rw [np_152]; rfl) (ob_of (mk_46 _)) (Nat.le_of_ble_eq_true rfl) (c4  ) ?_
  show Bod _ _ _ _ [_] _ _ _
  refine Bod.go dc_180_29 rfl ?_
  refine Bod.ist dc_180_33 (by rw [ml_180]; exact Nat.le_of_ble_eq_true rfl) ?_
  refine Bod.go dc_180_35 rfl ?_
  refine Bod.ic 1 (by decide) dc_180_36 ?_
  refine Bod.icF dc_180_37 rfl (k2_ne_F (k_eq a1 1 rfl rfl (by omega))) ?_
  refine Bod.go dc_180_40 rfl ?_
  refine Bod.ifT dc_180_42 rfl (k1_ne_T (k_ne a3 0 rfl rfl (by omega) (by omega) (by omega))) ?_
  refine Bod.go dc_180_47 rfl ?_
  refine Bod.get dc_180_48 fr_180_15 (mk_52 _) rfl ?_
  refine Bod.ic 4 (by decide) dc_180_51 ?_
  refine Bod.virt (r := []) dc_180_52 kr_180_263 ⟨Or.inr rfl, ow_178, cl_2⟩ (by rw [np_178]; rfl) (by rw [np_178]; rfl) (ob_of (mk_2 _)) (Nat.le_of_ble_eq_true rfl) (c5  ) ?_
  show Bod _ _ _ _ [_] _ _ _
  refine Bod.ist dc_180_55 (by rw [ml_180]; exact Nat.le_of_ble_eq_true rfl) ?_
  refine Bod.go dc_180_57 rfl ?_
  refine Bod.ifT dc_180_59 rfl (k1_ne_T (k_ne a4 0 rfl rfl (by omega) (by omega) (by omega))) ?_
  refine Bod.go dc_180_65 rfl ?_
  refine Bod.get dc_180_66 fr_180_15 (mk_52 _) rfl ?_
  refine Bod.go dc_180_69 rfl ?_
  refine Bod.go dc_180_71 rfl ?_
  refine Bod.go dc_180_72 rfl ?_
  refine Bod.ic 0 (by decide) dc_180_74 ?_
  refine Bod.virt (r := []) dc_180_75 kr_180_266 ⟨Or.inr rfl, ow_179, cl_2⟩ (by rw [np_179]; rfl) (by rw [np_179]; rfl) (ob_of (mk_2 _)) (Nat.le_of_ble_eq_true rfl) (c6  ) ?_
  show Bod _ _ _ _ [] _ _ _
  refine Bod.go dc_180_78 rfl ?_
  refine Bod.ic 1 (by decide) dc_180_79 ?_
  refine Bod.subN (a2 - 1) (by omega) (by omega) dc_180_80 ?_
  refine Bod.ist dc_180_81 (by rw [ml_180]; exact Nat.le_of_ble_eq_true rfl) ?_
  exact hB _ (by first | rfl | exact (by repeat (first | exact rfl | exact sm_get_p1 | exact sm_get_p2e | refine sm_get_p1m (by decide) (by decide) ?_ | refine sm_get_p1n (by decide) rfl ?_ | refine sm_get_p2n (by decide) (by decide) rfl ?_))) (by first | rfl | exact (by repeat (first | exact rfl | exact sm_get_p1 | exact sm_get_p2e | refine sm_get_p1m (by decide) (by decide) ?_ | refine sm_get_p1n (by decide) rfl ?_ | refine sm_get_p2n (by decide) (by decide) rfl ?_))) (by first | rfl | exact (by repeat (first | exact rfl | exact sm_get_p1 | exact sm_get_p2e | refine sm_get_p1m (by decide) (by decide) ?_ | refine sm_get_p1n (by decide) rfl ?_ | refine sm_get_p2n (by decide) (by decide) rfl ?_))) (by first | rfl | exact (by repeat (first | exact rfl | exact sm_get_p1 | exact sm_get_p2e | refine sm_get_p1m (by decide) (by decide) ?_ | refine sm_get_p1n (by decide) rfl ?_ | refine sm_get_p2n (by decide) (by decide) rfl ?_))) (by first | rfl | exact (by repeat (first | exact rfl | exact sm_get_p1 | exact sm_get_p2e | refine sm_get_p1m (by decide) (by decide) ?_ | refine sm_get_p1n (by decide) rfl ?_ | refine sm_get_p2n (by decide) (by decide) rfl ?_)))
theorem mMc_6 {d : Nat} {S : cS} {S1 : cS} {a : Nat} {S2 : cS} {a1 : Nat} {S3 : cS} {a2 : Nat} {S4 : cS} {a3 : Nat} {S5 : cS} {a4 : Nat} (ma : a < 2 ^ 20) (c1 : Ans (d + 8) 127 [.ref 52] S (some (.int (nI a))) S1) (ma1 : a1 < 2 ^ 20) (c2 : Ans (d + 8) 127 [.ref 52] S1 (some (.int (nI a1))) S2) (ma2 : a2 < 2 ^ 20) (c3 : Ans (d + 8) 127 [.ref 52] S2 (some (.int (nI a2))) S3) (b1 : a1 = 1) (ma3 : a3 < 2 ^ 20) (c4 : Ans (d + 8) 152 [.ref 46, .int (nI 0), .int (nI 4)] S3 (some (.int (nI a3))) S4) (b2 : a1 = 1) (b3 : a3 ≠ 0) (ma4 : a4 < 2 ^ 20) (c5 : Ans (d + 8) 178 [.ref 2, .int (nI 4)] S4 (some (.int (nI a4))) S5) (b4 : a4 = 0) : Bod (d + 8) 180 0 [(0, .ref 52)] [] S (some (.int (nI 8))) (S5) := by
  refine Bod.go dc_180_0 rfl ?_
  refine Bod.virt (r := []) dc_180_1 kr_180_82 ⟨Or.inl rfl, ow_127, cl_4⟩ (by rw [np_127]; rfl) (by rw [np_127]; rfl) (ob_of (mk_52 _)) (Nat.le_of_ble_eq_true rfl) (c1  ) ?_
  show Bod _ _ _ _ [_] _ _ _
  refine Bod.istn dc_180_4 (by rw [ml_180]; exact Nat.le_of_ble_eq_true rfl) ?_
  refine Bod.go dc_180_5 rfl ?_
  refine Bod.virt (r := []) dc_180_6 kr_180_82 ⟨Or.inl rfl, ow_127, cl_4⟩ (by rw [np_127]; rfl) (by rw [np_127]; rfl) (ob_of (mk_52 _)) (Nat.le_of_ble_eq_true rfl) (c2  ) ?_
  show Bod _ _ _ _ [_] _ _ _
  refine Bod.istn dc_180_9 (by rw [ml_180]; exact Nat.le_of_ble_eq_true rfl) ?_
  refine Bod.go dc_180_10 rfl ?_
  refine Bod.virt (r := []) dc_180_11 kr_180_82 ⟨Or.inl rfl, ow_127, cl_4⟩ (by rw [np_127]; rfl) (by rw [np_127]; rfl) (ob_of (mk_52 _)) (Nat.le_of_ble_eq_true rfl) (c3  ) ?_
  show Bod _ _ _ _ [_] _ _ _
  refine Bod.istn dc_180_14 (by rw [ml_180]; exact Nat.le_of_ble_eq_true rfl) ?_
  refine Bod.go dc_180_15 rfl ?_
  refine Bod.ic 1 (by decide) dc_180_16 ?_
  refine Bod.icF dc_180_17 rfl (k2_ne_F (k_eq a1 1 rfl rfl (by omega))) ?_
  refine Bod.go dc_180_20 rfl ?_
  refine Bod.get dc_180_21 fr_180_23 (mk_52 _) rfl ?_
  refine Bod.ic 0 (by decide) dc_180_24 ?_
  refine Bod.ic 4 (by decide) dc_180_25 ?_
  refine Bod.virt (r := []) dc_180_26 kr_180_190 ⟨Or.inr rfl, ow_152, cl_9⟩ (by rw [np_152]; rfl) (by rw [np_152]; rfl) (ob_of (mk_46 _)) (Nat.le_of_ble_eq_true rfl) (c4  ) ?_
  show Bod _ _ _ _ [_] _ _ _
  refine Bod.go dc_180_29 rfl ?_
  refine Bod.ist dc_180_33 (by rw [ml_180]; exact Nat.le_of_ble_eq_true rfl) ?_
  refine Bod.go dc_180_35 rfl ?_
  refine Bod.ic 1 (by decide) dc_180_36 ?_
  refine Bod.icF dc_180_37 rfl (k2_ne_F (k_eq a1 1 rfl rfl (by omega))) ?_
  refine Bod.go dc_180_40 rfl ?_
  refine Bod.ifT dc_180_42 rfl (k1_ne_T (k_ne a3 0 rfl rfl (by omega) (by omega) (by omega))) ?_
  refine Bod.go dc_180_47 rfl ?_
  refine Bod.get dc_180_48 fr_180_15 (mk_52 _) rfl ?_
  refine Bod.ic 4 (by decide) dc_180_51 ?_
  refine Bod.virt (r := []) dc_180_52 kr_180_263 ⟨Or.inr rfl, ow_178, cl_2⟩ (by rw [np_178]; rfl) (by rw [np_178]; rfl) (ob_of (mk_2 _)) (Nat.le_of_ble_eq_true rfl) (c5  ) ?_
  show Bod _ _ _ _ [_] _ _ _
  refine Bod.ist dc_180_55 (by rw [ml_180]; exact Nat.le_of_ble_eq_true rfl) ?_
  refine Bod.go dc_180_57 rfl ?_
  refine Bod.ifF dc_180_59 rfl (k1_ne_F (k_eq a4 0 rfl rfl (by omega))) ?_
  refine Bod.bip 8 (by decide) dc_180_62 ?_
  exact Bod.retI dc_180_64 rt_180
theorem mMc_7 {d : Nat} {S : cS} {S1 : cS} {a : Nat} {S2 : cS} {a1 : Nat} {S3 : cS} {a2 : Nat} {S4 : cS} {a3 : Nat} (ma : a < 2 ^ 20) (c1 : Ans (d + 8) 127 [.ref 52] S (some (.int (nI a))) S1) (ma1 : a1 < 2 ^ 20) (c2 : Ans (d + 8) 127 [.ref 52] S1 (some (.int (nI a1))) S2) (ma2 : a2 < 2 ^ 20) (c3 : Ans (d + 8) 127 [.ref 52] S2 (some (.int (nI a2))) S3) (b1 : a1 = 1) (ma3 : a3 < 2 ^ 20) (c4 : Ans (d + 8) 152 [.ref 46, .int (nI 0), .int (nI 4)] S3 (some (.int (nI a3))) S4) (b2 : a1 = 1) (b3 : a3 = 0) : Bod (d + 8) 180 0 [(0, .ref 52)] [] S (some (.int (nI 2))) (S4) := by
  refine Bod.go dc_180_0 rfl ?_
  refine Bod.virt (r := []) dc_180_1 kr_180_82 ⟨Or.inl rfl, ow_127, cl_4⟩ (by rw [np_127]; rfl) (by rw [np_127]; rfl) (ob_of (mk_52 _)) (Nat.le_of_ble_eq_true rfl) (c1  ) ?_
  show Bod _ _ _ _ [_] _ _ _
  refine Bod.istn dc_180_4 (by rw [ml_180]; exact Nat.le_of_ble_eq_true rfl) ?_
  refine Bod.go dc_180_5 rfl ?_
  refine Bod.virt (r := []) dc_180_6 kr_180_82 ⟨Or.inl rfl, ow_127, cl_4⟩ (by rw [np_127]; rfl) (by rw [np_127]; rfl) (ob_of (mk_52 _)) (Nat.le_of_ble_eq_true rfl) (c2  ) ?_
  show Bod _ _ _ _ [_] _ _ _
  refine Bod.istn dc_180_9 (by rw [ml_180]; exact Nat.le_of_ble_eq_true rfl) ?_
  refine Bod.go dc_180_10 rfl ?_
  refine Bod.virt (r := []) dc_180_11 kr_180_82 ⟨Or.inl rfl, ow_127, cl_4⟩ (by rw [np_127]; rfl) (by rw [np_127]; rfl) (ob_of (mk_52 _)) (Nat.le_of_ble_eq_true rfl) (c3  ) ?_
  show Bod _ _ _ _ [_] _ _ _
  refine Bod.istn dc_180_14 (by rw [ml_180]; exact Nat.le_of_ble_eq_true rfl) ?_
  refine Bod.go dc_180_15 rfl ?_
  refine Bod.ic 1 (by decide) dc_180_16 ?_
  refine Bod.icF dc_180_17 rfl (k2_ne_F (k_eq a1 1 rfl rfl (by omega))) ?_
  refine Bod.go dc_180_20 rfl ?_
  refine Bod.get dc_180_21 fr_180_23 (mk_52 _) rfl ?_
  refine Bod.ic 0 (by decide) dc_180_24 ?_
  refine Bod.ic 4 (by decide) dc_180_25 ?_
  refine Bod.virt (r := []) dc_180_26 kr_180_190 ⟨Or.inr rfl, ow_152, cl_9⟩ (by rw [np_152]; rfl) (by rw [np_152]; rfl) (ob_of (mk_46 _)) (Nat.le_of_ble_eq_true rfl) (c4  ) ?_
  show Bod _ _ _ _ [_] _ _ _
  refine Bod.go dc_180_29 rfl ?_
  refine Bod.ist dc_180_33 (by rw [ml_180]; exact Nat.le_of_ble_eq_true rfl) ?_
  refine Bod.go dc_180_35 rfl ?_
  refine Bod.ic 1 (by decide) dc_180_36 ?_
  refine Bod.icF dc_180_37 rfl (k2_ne_F (k_eq a1 1 rfl rfl (by omega))) ?_
  refine Bod.go dc_180_40 rfl ?_
  refine Bod.ifF dc_180_42 rfl (k1_ne_F (k_eq a3 0 rfl rfl (by omega))) ?_
  refine Bod.ic 2 (by decide) dc_180_45 ?_
  exact Bod.retI dc_180_46 rt_180
theorem mMcL_1 {d : Nat} {S Sf : cS} {v : Option Value} {lv : sm_L} {bs : Nat} {nt : Nat} {id : Nat} {ni : Nat} {S1 : cS} {a : Nat} {S2 : cS} {u : Int64} {S3 : cS} {u1 : Int64} {S4 : cS} {u2 : Int64} {S5 : cS} {u3 : Int64} {S6 : cS} (q0 : sm_get lv 0 = some (.ref 52)) (q2 : sm_get lv 2 = some (.int (nI bs))) (q3 : sm_get lv 3 = some (.int (nI nt))) (q5 : sm_get lv 5 = some (.int (nI id))) (q6 : sm_get lv 6 = some (.int (nI (ni + 1)))) (mbs : bs < 2 ^ 20) (mnt : nt < 2 ^ 20) (mid : id < 2 ^ 20) (mni : ni < 2 ^ 20) (ma : a < 2 ^ 20) (c1 : Ans (d + 8) 127 [.ref 52] S (some (.int (nI a))) S1) (c2 : Ans (d + 8) 181 [.ref 16, .int (nI a)] S1 (some (.long u)) S2) (c3 : Ans (d + 8) 182 [.ref 16, .int (nI a)] S2 (some (.long u1)) S3) (c4 : Ans (d + 8) 132 [.ref 46, .int (nI (ni + bs + 1))] S3 (some (.long u2)) S4) (c5 : Ans (d + 8) 135 [.ref 46, .int (nI (ni + bs + 1))] S4 (some (.long u3)) S5) (c6 : Ans (d + 8) 183 [.ref 2, .int (nI id), .long u, .long u1, .long u2, .long u3] S5 (some (.int (nI 1))) S6) (hB : ∀ lv1 : sm_L, sm_get lv1 0 = some (.ref 52) → sm_get lv1 2 = some (.int (nI bs)) → sm_get lv1 3 = some (.int (nI nt)) → sm_get lv1 5 = some (.int (nI id)) → sm_get lv1 6 = some (.int (nI ni)) → Bod (d + 8) 180 83 lv1 [] (S6) v Sf) : Bod (d + 8) 180 83 lv [] S v Sf := by
  refine Bod.ildG dc_180_83 (by repeat (first | exact q6 | exact sm_get_p1 | exact sm_get_p2e | refine sm_get_p1m (by decide) (by decide) ?_ | refine sm_get_p1n (by decide) rfl ?_ | refine sm_get_p2n (by decide) (by decide) rfl ?_)) ?_
  refine Bod.ifF dc_180_85 rfl (k1_lt_F (ni + 1) rfl (by omega)) ?_
  refine Bod.aldnG dc_180_88 (by repeat (first | exact q0 | exact sm_get_p1 | exact sm_get_p2e | refine sm_get_p1m (by decide) (by decide) ?_ | refine sm_get_p1n (by decide) rfl ?_ | refine sm_get_p2n (by decide) (by decide) rfl ?_)) ?_
  refine Bod.virt (r := []) dc_180_89 kr_180_82 ⟨Or.inl rfl, ow_127, cl_4⟩ (by rw [np_127]; rfl) (by rw [np_127]; rfl) (ob_of (mk_52 _)) (Nat.le_of_ble_eq_true rfl) (c1  ) ?_
  show Bod _ _ _ _ [_] _ _ _
  refine Bod.ist dc_180_92 (by rw [ml_180]; exact Nat.le_of_ble_eq_true rfl) ?_
  refine Bod.ildG dc_180_94 (by repeat (first | exact q6 | exact sm_get_p1 | exact sm_get_p2e | refine sm_get_p1m (by decide) (by decide) ?_ | refine sm_get_p1n (by decide) rfl ?_ | refine sm_get_p2n (by decide) (by decide) rfl ?_)) ?_
  refine Bod.ildnG dc_180_96 (by repeat (first | exact q2 | exact sm_get_p1 | exact sm_get_p2e | refine sm_get_p1m (by decide) (by decide) ?_ | refine sm_get_p1n (by decide) rfl ?_ | refine sm_get_p2n (by decide) (by decide) rfl ?_)) ?_
  refine Bod.addN (ni + bs + 1) (by omega) dc_180_97 ?_
  refine Bod.ist dc_180_98 (by rw [ml_180]; exact Nat.le_of_ble_eq_true rfl) ?_
  refine Bod.aldnG dc_180_100 (by repeat (first | exact q0 | exact sm_get_p1 | exact sm_get_p2e | refine sm_get_p1m (by decide) (by decide) ?_ | refine sm_get_p1n (by decide) rfl ?_ | refine sm_get_p2n (by decide) (by decide) rfl ?_)) ?_
  refine Bod.get dc_180_101 fr_180_15 (mk_52 _) rfl ?_
  refine Bod.ildG dc_180_104 (by repeat (first | exact q5 | exact sm_get_p1 | exact sm_get_p2e | refine sm_get_p1m (by decide) (by decide) ?_ | refine sm_get_p1n (by decide) rfl ?_ | refine sm_get_p2n (by decide) (by decide) rfl ?_)) ?_
  refine Bod.aldnG dc_180_106 (by repeat (first | exact q0 | exact sm_get_p1 | exact sm_get_p2e | refine sm_get_p1m (by decide) (by decide) ?_ | refine sm_get_p1n (by decide) rfl ?_ | refine sm_get_p2n (by decide) (by decide) rfl ?_)) ?_
  refine Bod.get dc_180_107 fr_180_19 (mk_52 _) rfl ?_
  refine Bod.ildG dc_180_110 (by repeat (first | exact q0 | exact sm_get_p1 | exact sm_get_p2e | refine sm_get_p1m (by decide) (by decide) ?_ | refine sm_get_p1n (by decide) rfl ?_ | refine sm_get_p2n (by decide) (by decide) rfl ?_)) ?_
  refine Bod.virt (r := [_, _]) dc_180_112 kr_180_272 ⟨Or.inr rfl, ow_181, cl_5⟩ (by rw [np_181]; rfl) (by rw [np_181]; rfl) (ob_of (mk_16 _)) (Nat.le_of_ble_eq_true rfl) (c2  ) ?_
  show Bod _ _ _ _ [_, _, _] _ _ _
  refine Bod.aldnG dc_180_115 (by repeat (first | exact q0 | exact sm_get_p1 | exact sm_get_p2e | refine sm_get_p1m (by decide) (by decide) ?_ | refine sm_get_p1n (by decide) rfl ?_ | refine sm_get_p2n (by decide) (by decide) rfl ?_)) ?_
  refine Bod.get dc_180_116 fr_180_19 (mk_52 _) rfl ?_
  refine Bod.ildG dc_180_119 (by repeat (first | exact q0 | exact sm_get_p1 | exact sm_get_p2e | refine sm_get_p1m (by decide) (by decide) ?_ | refine sm_get_p1n (by decide) rfl ?_ | refine sm_get_p2n (by decide) (by decide) rfl ?_)) ?_
  refine Bod.virt (r := [_, _, _]) dc_180_121 kr_180_275 ⟨Or.inr rfl, ow_182, cl_5⟩ (by rw [np_182]; rfl) (by rw [np_182]; rfl) (ob_of (mk_16 _)) (Nat.le_of_ble_eq_true rfl) (c3  ) ?_
  show Bod _ _ _ _ [_, _, _, _] _ _ _
  refine Bod.aldnG dc_180_124 (by repeat (first | exact q0 | exact sm_get_p1 | exact sm_get_p2e | refine sm_get_p1m (by decide) (by decide) ?_ | refine sm_get_p1n (by decide) rfl ?_ | refine sm_get_p2n (by decide) (by decide) rfl ?_)) ?_
  refine Bod.get dc_180_125 fr_180_23 (mk_52 _) rfl ?_
  refine Bod.ildG dc_180_128 (by repeat (first | exact q0 | exact sm_get_p1 | exact sm_get_p2e | refine sm_get_p1m (by decide) (by decide) ?_ | refine sm_get_p1n (by decide) rfl ?_ | refine sm_get_p2n (by decide) (by decide) rfl ?_)) ?_
  refine Bod.virt (r := [_, _, _, _]) dc_180_130 kr_180_133 ⟨Or.inr rfl, ow_132, cl_9⟩ (by rw [np_132]; rfl) (by rw [np_132]; rfl) (ob_of (mk_46 _)) (Nat.le_of_ble_eq_true rfl) (c4  ) ?_
  show Bod _ _ _ _ [_, _, _, _, _] _ _ _
  refine Bod.aldnG dc_180_133 (by repeat (first | exact q0 | exact sm_get_p1 | exact sm_get_p2e | refine sm_get_p1m (by decide) (by decide) ?_ | refine sm_get_p1n (by decide) rfl ?_ | refine sm_get_p2n (by decide) (by decide) rfl ?_)) ?_
  refine Bod.get dc_180_134 fr_180_23 (mk_52 _) rfl ?_
  refine Bod.ildG dc_180_137 (by repeat (first | exact q0 | exact sm_get_p1 | exact sm_get_p2e | refine sm_get_p1m (by decide) (by decide) ?_ | refine sm_get_p1n (by decide) rfl ?_ | refine sm_get_p2n (by decide) (by decide) rfl ?_)) ?_
  refine Bod.virt (r := [_, _, _, _, _]) dc_180_139 kr_180_141 ⟨Or.inr rfl, ow_135, cl_9⟩ (by rw [np_135]; rfl) (by rw [np_135]; rfl) (ob_of (mk_46 _)) (Nat.le_of_ble_eq_true rfl) (c5  ) ?_
  show Bod _ _ _ _ [_, _, _, _, _, _] _ _ _
  refine Bod.virt (r := []) dc_180_142 kr_180_278 ⟨Or.inr rfl, ow_183, cl_2⟩ (by rw [np_183]; rfl) (by rw [np_183]; rfl) (ob_of (mk_2 _)) (Nat.le_of_ble_eq_true rfl) (c6  ) ?_
  show Bod _ _ _ _ [_] _ _ _
  refine Bod.go dc_180_145 rfl ?_
  refine Bod.incN ni nI_dec dc_180_146 (by rw [ml_180]; exact Nat.le_of_ble_eq_true rfl) (by repeat (first | exact q6 | exact sm_get_p1 | exact sm_get_p2e | refine sm_get_p1m (by decide) (by decide) ?_ | refine sm_get_p1n (by decide) rfl ?_ | refine sm_get_p2n (by decide) (by decide) rfl ?_)) ?_
  refine Bod.go dc_180_149 rfl ?_
  exact hB _ (by repeat (first | exact q0 | exact sm_get_p1 | exact sm_get_p2e | refine sm_get_p1m (by decide) (by decide) ?_ | refine sm_get_p1n (by decide) rfl ?_ | refine sm_get_p2n (by decide) (by decide) rfl ?_)) (by repeat (first | exact q2 | exact sm_get_p1 | exact sm_get_p2e | refine sm_get_p1m (by decide) (by decide) ?_ | refine sm_get_p1n (by decide) rfl ?_ | refine sm_get_p2n (by decide) (by decide) rfl ?_)) (by repeat (first | exact q3 | exact sm_get_p1 | exact sm_get_p2e | refine sm_get_p1m (by decide) (by decide) ?_ | refine sm_get_p1n (by decide) rfl ?_ | refine sm_get_p2n (by decide) (by decide) rfl ?_)) (by repeat (first | exact q5 | exact sm_get_p1 | exact sm_get_p2e | refine sm_get_p1m (by decide) (by decide) ?_ | refine sm_get_p1n (by decide) rfl ?_ | refine sm_get_p2n (by decide) (by decide) rfl ?_)) (by repeat (first | exact q0 | exact sm_get_p1 | exact sm_get_p2e | refine sm_get_p1m (by decide) (by decide) ?_ | refine sm_get_p1n (by decide) rfl ?_ | refine sm_get_p2n (by decide) (by decide) rfl ?_))
theorem mMcL_2 {d : Nat} {S Sf : cS} {v : Option Value} {lv : sm_L} {bs : Nat} {nt : Nat} {id : Nat} {ni : Nat} {S1 : cS} {a : Nat} {S2 : cS} {u : Int64} {S3 : cS} {u1 : Int64} {S4 : cS} {u2 : Int64} {S5 : cS} {u3 : Int64} {S6 : cS} (q0 : sm_get lv 0 = some (.ref 52)) (q2 : sm_get lv 2 = some (.int (nI bs))) (q3 : sm_get lv 3 = some (.int (nI nt))) (q5 : sm_get lv 5 = some (.int (nI id))) (q6 : sm_get lv 6 = some (.int (nI (ni + 1)))) (mbs : bs < 2 ^ 20) (mnt : nt < 2 ^ 20) (mid : id < 2 ^ 20) (mni : ni < 2 ^ 20) (ma : a < 2 ^ 20) (c1 : Ans (d + 8) 127 [.ref 52] S (some (.int (nI a))) S1) (c2 : Ans (d + 8) 181 [.ref 16, .int (nI a)] S1 (some (.long u)) S2) (c3 : Ans (d + 8) 182 [.ref 16, .int (nI a)] S2 (some (.long u1)) S3) (c4 : Ans (d + 8) 132 [.ref 46, .int (nI (ni + bs + 1))] S3 (some (.long u2)) S4) (c5 : Ans (d + 8) 135 [.ref 46, .int (nI (ni + bs + 1))] S4 (some (.long u3)) S5) (c6 : Ans (d + 8) 183 [.ref 2, .int (nI id), .long u, .long u1, .long u2, .long u3] S5 (some (.int (nI 0))) S6) (hB : ∀ lv1 : sm_L, sm_get lv1 0 = some (.ref 52) → sm_get lv1 2 = some (.int (nI bs)) → sm_get lv1 3 = some (.int (nI nt)) → sm_get lv1 5 = some (.int (nI id)) → sm_get lv1 6 = some (.int (nI ni)) → Bod (d + 8) 180 83 lv1 [] (S6) v Sf) : Bod (d + 8) 180 83 lv [] S v Sf := by
  refine Bod.ildG dc_180_83 (by repeat (first | exact q6 | exact sm_get_p1 | exact sm_get_p2e | refine sm_get_p1m (by decide) (by decide) ?_ | refine sm_get_p1n (by decide) rfl ?_ | refine sm_get_p2n (by decide) (by decide) rfl ?_)) ?_
  refine Bod.ifF dc_180_85 rfl (k1_lt_F (ni + 1) rfl (by omega)) ?_
  refine Bod.aldnG dc_180_88 (by repeat (first | exact q0 | exact sm_get_p1 | exact sm_get_p2e | refine sm_get_p1m (by decide) (by decide) ?_ | refine sm_get_p1n (by decide) rfl ?_ | refine sm_get_p2n (by decide) (by decide) rfl ?_)) ?_
  refine Bod.virt (r := []) dc_180_89 kr_180_82 ⟨Or.inl rfl, ow_127, cl_4⟩ (by rw [np_127]; rfl) (by rw [np_127]; rfl) (ob_of (mk_52 _)) (Nat.le_of_ble_eq_true rfl) (c1  ) ?_
  show Bod _ _ _ _ [_] _ _ _
  refine Bod.ist dc_180_92 (by rw [ml_180]; exact Nat.le_of_ble_eq_true rfl) ?_
  refine Bod.ildG dc_180_94 (by repeat (first | exact q6 | exact sm_get_p1 | exact sm_get_p2e | refine sm_get_p1m (by decide) (by decide) ?_ | refine sm_get_p1n (by decide) rfl ?_ | refine sm_get_p2n (by decide) (by decide) rfl ?_)) ?_
  refine Bod.ildnG dc_180_96 (by repeat (first | exact q2 | exact sm_get_p1 | exact sm_get_p2e | refine sm_get_p1m (by decide) (by decide) ?_ | refine sm_get_p1n (by decide) rfl ?_ | refine sm_get_p2n (by decide) (by decide) rfl ?_)) ?_
  refine Bod.addN (ni + bs + 1) (by omega) dc_180_97 ?_
  refine Bod.ist dc_180_98 (by rw [ml_180]; exact Nat.le_of_ble_eq_true rfl) ?_
  refine Bod.aldnG dc_180_100 (by repeat (first | exact q0 | exact sm_get_p1 | exact sm_get_p2e | refine sm_get_p1m (by decide) (by decide) ?_ | refine sm_get_p1n (by decide) rfl ?_ | refine sm_get_p2n (by decide) (by decide) rfl ?_)) ?_
  refine Bod.get dc_180_101 fr_180_15 (mk_52 _) rfl ?_
  refine Bod.ildG dc_180_104 (by repeat (first | exact q5 | exact sm_get_p1 | exact sm_get_p2e | refine sm_get_p1m (by decide) (by decide) ?_ | refine sm_get_p1n (by decide) rfl ?_ | refine sm_get_p2n (by decide) (by decide) rfl ?_)) ?_
  refine Bod.aldnG dc_180_106 (by repeat (first | exact q0 | exact sm_get_p1 | exact sm_get_p2e | refine sm_get_p1m (by decide) (by decide) ?_ | refine sm_get_p1n (by decide) rfl ?_ | refine sm_get_p2n (by decide) (by decide) rfl ?_)) ?_
  refine Bod.get dc_180_107 fr_180_19 (mk_52 _) rfl ?_
  refine Bod.ildG dc_180_110 (by repeat (first | exact q0 | exact sm_get_p1 | exact sm_get_p2e | refine sm_get_p1m (by decide) (by decide) ?_ | refine sm_get_p1n (by decide) rfl ?_ | refine sm_get_p2n (by decide) (by decide) rfl ?_)) ?_
  refine Bod.virt (r := [_, _]) dc_180_112 kr_180_272 ⟨Or.inr rfl, ow_181, cl_5⟩ (by rw [np_181]; rfl) (by rw [np_181]; rfl) (ob_of (mk_16 _)) (Nat.le_of_ble_eq_true rfl) (c2  ) ?_
  show Bod _ _ _ _ [_, _, _] _ _ _
  refine Bod.aldnG dc_180_115 (by repeat (first | exact q0 | exact sm_get_p1 | exact sm_get_p2e | refine sm_get_p1m (by decide) (by decide) ?_ | refine sm_get_p1n (by decide) rfl ?_ | refine sm_get_p2n (by decide) (by decide) rfl ?_)) ?_
  refine Bod.get dc_180_116 fr_180_19 (mk_52 _) rfl ?_
  refine Bod.ildG dc_180_119 (by repeat (first | exact q0 | exact sm_get_p1 | exact sm_get_p2e | refine sm_get_p1m (by decide) (by decide) ?_ | refine sm_get_p1n (by decide) rfl ?_ | refine sm_get_p2n (by decide) (by decide) rfl ?_)) ?_
  refine Bod.virt (r := [_, _, _]) dc_180_121 kr_180_275 ⟨Or.inr rfl, ow_182, cl_5⟩ (by rw [np_182]; rfl) (by rw [np_182]; rfl) (ob_of (mk_16 _)) (Nat.le_of_ble_eq_true rfl) (c3  ) ?_
  show Bod _ _ _ _ [_, _, _, _] _ _ _
  refine Bod.aldnG dc_180_124 (by repeat (first | exact q0 | exact sm_get_p1 | exact sm_get_p2e | refine sm_get_p1m (by decide) (by decide) ?_ | refine sm_get_p1n (by decide) rfl ?_ | refine sm_get_p2n (by decide) (by decide) rfl ?_)) ?_
  refine Bod.get dc_180_125 fr_180_23 (mk_52 _) rfl ?_
  refine Bod.ildG dc_180_128 (by repeat (first | exact q0 | exact sm_get_p1 | exact sm_get_p2e | refine sm_get_p1m (by decide) (by decide) ?_ | refine sm_get_p1n (by decide) rfl ?_ | refine sm_get_p2n (by decide) (by decide) rfl ?_)) ?_
  refine Bod.virt (r := [_, _, _, _]) dc_180_130 kr_180_133 ⟨Or.inr rfl, ow_132, cl_9⟩ (by rw [np_132]; rfl) (by rw [np_132]; rfl) (ob_of (mk_46 _)) (Nat.le_of_ble_eq_true rfl) (c4  ) ?_
  show Bod _ _ _ _ [_, _, _, _, _] _ _ _
  refine Bod.aldnG dc_180_133 (by repeat (first | exact q0 | exact sm_get_p1 | exact sm_get_p2e | refine sm_get_p1m (by decide) (by decide) ?_ | refine sm_get_p1n (by decide) rfl ?_ | refine sm_get_p2n (by decide) (by decide) rfl ?_)) ?_
  refine Bod.get dc_180_134 fr_180_23 (mk_52 _) rfl ?_
  refine Bod.ildG dc_180_137 (by repeat (first | exact q0 | exact sm_get_p1 | exact sm_get_p2e | refine sm_get_p1m (by decide) (by decide) ?_ | refine sm_get_p1n (by decide) rfl ?_ | refine sm_get_p2n (by decide) (by decide) rfl ?_)) ?_
  refine Bod.virt (r := [_, _, _, _, _]) dc_180_139 kr_180_141 ⟨Or.inr rfl, ow_135, cl_9⟩ (by rw [np_135]; rfl) (by rw [np_135]; rfl) (ob_of (mk_46 _)) (Nat.le_of_ble_eq_true rfl) (c5  ) ?_
  show Bod _ _ _ _ [_, _, _, _, _, _] _ _ _
  refine Bod.virt (r := []) dc_180_142 kr_180_278 ⟨Or.inr rfl, ow_183, cl_2⟩ (by rw [np_183]; rfl) (by rw [np_183]; rfl) (ob_of (mk_2 _)) (Nat.le_of_ble_eq_true rfl) (c6  ) ?_
  show Bod _ _ _ _ [_] _ _ _
  refine Bod.go dc_180_145 rfl ?_
  refine Bod.incN ni nI_dec dc_180_146 (by rw [ml_180]; exact Nat.le_of_ble_eq_true rfl) (by repeat (first | exact q6 | exact sm_get_p1 | exact sm_get_p2e | refine sm_get_p1m (by decide) (by decide) ?_ | refine sm_get_p1n (by decide) rfl ?_ | refine sm_get_p2n (by decide) (by decide) rfl ?_)) ?_
  refine Bod.go dc_180_149 rfl ?_
  exact hB _ (by repeat (first | exact q0 | exact sm_get_p1 | exact sm_get_p2e | refine sm_get_p1m (by decide) (by decide) ?_ | refine sm_get_p1n (by decide) rfl ?_ | refine sm_get_p2n (by decide) (by decide) rfl ?_)) (by repeat (first | exact q2 | exact sm_get_p1 | exact sm_get_p2e | refine sm_get_p1m (by decide) (by decide) ?_ | refine sm_get_p1n (by decide) rfl ?_ | refine sm_get_p2n (by decide) (by decide) rfl ?_)) (by repeat (first | exact q3 | exact sm_get_p1 | exact sm_get_p2e | refine sm_get_p1m (by decide) (by decide) ?_ | refine sm_get_p1n (by decide) rfl ?_ | refine sm_get_p2n (by decide) (by decide) rfl ?_)) (by repeat (first | exact q5 | exact sm_get_p1 | exact sm_get_p2e | refine sm_get_p1m (by decide) (by decide) ?_ | refine sm_get_p1n (by decide) rfl ?_ | refine sm_get_p2n (by decide) (by decide) rfl ?_)) (by repeat (first | exact q0 | exact sm_get_p1 | exact sm_get_p2e | refine sm_get_p1m (by decide) (by decide) ?_ | refine sm_get_p1n (by decide) rfl ?_ | refine sm_get_p2n (by decide) (by decide) rfl ?_))
theorem mMcZ_1 {d : Nat} {S Sf : cS} {v : Option Value} {lv : sm_L} {bs : Nat} {nt : Nat} {id : Nat} {S1 : cS} {a : Nat} {S2 : cS} {u : Int64} {S3 : cS} {u1 : Int64} {S4 : cS} {u2 : Int64} {S5 : cS} {u3 : Int64} {S6 : cS} (q0 : sm_get lv 0 = some (.ref 52)) (q2 : sm_get lv 2 = some (.int (nI bs))) (q3 : sm_get lv 3 = some (.int (nI nt))) (q5 : sm_get lv 5 = some (.int (nI id))) (q6 : sm_get lv 6 = some (.int (nI 0))) (mbs : bs < 2 ^ 20) (mnt : nt < 2 ^ 20) (mid : id < 2 ^ 20) (ma : a < 2 ^ 20) (c1 : Ans (d + 8) 127 [.ref 52] S (some (.int (nI a))) S1) (c2 : Ans (d + 8) 181 [.ref 16, .int (nI a)] S1 (some (.long u)) S2) (c3 : Ans (d + 8) 182 [.ref 16, .int (nI a)] S2 (some (.long u1)) S3) (c4 : Ans (d + 8) 132 [.ref 46, .int (nI bs)] S3 (some (.long u2)) S4) (c5 : Ans (d + 8) 135 [.ref 46, .int (nI bs)] S4 (some (.long u3)) S5) (c6 : Ans (d + 8) 183 [.ref 2, .int (nI id), .long u, .long u1, .long u2, .long u3] S5 (some (.int (nI 1))) S6) (hB : ∀ lv1 : sm_L, sm_get lv1 0 = some (.ref 52) → sm_get lv1 2 = some (.int (nI bs)) → sm_get lv1 3 = some (.int (nI nt)) → sm_get lv1 5 = some (.int (nI id)) → sm_get lv1 6 = some (.int (Int32.ofInt (-1))) → Bod (d + 8) 180 83 lv1 [] (S6) v Sf) : Bod (d + 8) 180 83 lv [] S v Sf := by
  refine Bod.ildG dc_180_83 (by repeat (first | exact q6 | exact sm_get_p1 | exact sm_get_p2e | refine sm_get_p1m (by decide) (by decide) ?_ | refine sm_get_p1n (by decide) rfl ?_ | refine sm_get_p2n (by decide) (by decide) rfl ?_)) ?_
  refine Bod.ifF dc_180_85 rfl (k1_lt_F 0 rfl (by omega)) ?_
  refine Bod.aldnG dc_180_88 (by repeat (first | exact q0 | exact sm_get_p1 | exact sm_get_p2e | refine sm_get_p1m (by decide) (by decide) ?_ | refine sm_get_p1n (by decide) rfl ?_ | refine sm_get_p2n (by decide) (by decide) rfl ?_)) ?_
  refine Bod.virt (r := []) dc_180_89 kr_180_82 ⟨Or.inl rfl, ow_127, cl_4⟩ (by rw [np_127]; rfl) (by rw [np_127]; rfl) (ob_of (mk_52 _)) (Nat.le_of_ble_eq_true rfl) (c1  ) ?_
  show Bod _ _ _ _ [_] _ _ _
  refine Bod.ist dc_180_92 (by rw [ml_180]; exact Nat.le_of_ble_eq_true rfl) ?_
  refine Bod.ildG dc_180_94 (by repeat (first | exact q6 | exact sm_get_p1 | exact sm_get_p2e | refine sm_get_p1m (by decide) (by decide) ?_ | refine sm_get_p1n (by decide) rfl ?_ | refine sm_get_p2n (by decide) (by decide) rfl ?_)) ?_
  refine Bod.ildnG dc_180_96 (by repeat (first | exact q2 | exact sm_get_p1 | exact sm_get_p2e | refine sm_get_p1m (by decide) (by decide) ?_ | refine sm_get_p1n (by decide) rfl ?_ | refine sm_get_p2n (by decide) (by decide) rfl ?_)) ?_
  refine Bod.addN bs (by omega) dc_180_97 ?_
  refine Bod.ist dc_180_98 (by rw [ml_180]; exact Nat.le_of_ble_eq_true rfl) ?_
  refine Bod.aldnG dc_180_100 (by repeat (first | exact q0 | exact sm_get_p1 | exact sm_get_p2e | refine sm_get_p1m (by decide) (by decide) ?_ | refine sm_get_p1n (by decide) rfl ?_ | refine sm_get_p2n (by decide) (by decide) rfl ?_)) ?_
  refine Bod.get dc_180_101 fr_180_15 (mk_52 _) rfl ?_
  refine Bod.ildG dc_180_104 (by repeat (first | exact q5 | exact sm_get_p1 | exact sm_get_p2e | refine sm_get_p1m (by decide) (by decide) ?_ | refine sm_get_p1n (by decide) rfl ?_ | refine sm_get_p2n (by decide) (by decide) rfl ?_)) ?_
  refine Bod.aldnG dc_180_106 (by repeat (first | exact q0 | exact sm_get_p1 | exact sm_get_p2e | refine sm_get_p1m (by decide) (by decide) ?_ | refine sm_get_p1n (by decide) rfl ?_ | refine sm_get_p2n (by decide) (by decide) rfl ?_)) ?_
  refine Bod.get dc_180_107 fr_180_19 (mk_52 _) rfl ?_
  refine Bod.ildG dc_180_110 (by repeat (first | exact q0 | exact sm_get_p1 | exact sm_get_p2e | refine sm_get_p1m (by decide) (by decide) ?_ | refine sm_get_p1n (by decide) rfl ?_ | refine sm_get_p2n (by decide) (by decide) rfl ?_)) ?_
  refine Bod.virt (r := [_, _]) dc_180_112 kr_180_272 ⟨Or.inr rfl, ow_181, cl_5⟩ (by rw [np_181]; rfl) (by rw [np_181]; rfl) (ob_of (mk_16 _)) (Nat.le_of_ble_eq_true rfl) (c2  ) ?_
  show Bod _ _ _ _ [_, _, _] _ _ _
  refine Bod.aldnG dc_180_115 (by repeat (first | exact q0 | exact sm_get_p1 | exact sm_get_p2e | refine sm_get_p1m (by decide) (by decide) ?_ | refine sm_get_p1n (by decide) rfl ?_ | refine sm_get_p2n (by decide) (by decide) rfl ?_)) ?_
  refine Bod.get dc_180_116 fr_180_19 (mk_52 _) rfl ?_
  refine Bod.ildG dc_180_119 (by repeat (first | exact q0 | exact sm_get_p1 | exact sm_get_p2e | refine sm_get_p1m (by decide) (by decide) ?_ | refine sm_get_p1n (by decide) rfl ?_ | refine sm_get_p2n (by decide) (by decide) rfl ?_)) ?_
  refine Bod.virt (r := [_, _, _]) dc_180_121 kr_180_275 ⟨Or.inr rfl, ow_182, cl_5⟩ (by rw [np_182]; rfl) (by rw [np_182]; rfl) (ob_of (mk_16 _)) (Nat.le_of_ble_eq_true rfl) (c3  ) ?_
  show Bod _ _ _ _ [_, _, _, _] _ _ _
  refine Bod.aldnG dc_180_124 (by repeat (first | exact q0 | exact sm_get_p1 | exact sm_get_p2e | refine sm_get_p1m (by decide) (by decide) ?_ | refine sm_get_p1n (by decide) rfl ?_ | refine sm_get_p2n (by decide) (by decide) rfl ?_)) ?_
  refine Bod.get dc_180_125 fr_180_23 (mk_52 _) rfl ?_
  refine Bod.ildG dc_180_128 (by repeat (first | exact q0 | exact sm_get_p1 | exact sm_get_p2e | refine sm_get_p1m (by decide) (by decide) ?_ | refine sm_get_p1n (by decide) rfl ?_ | refine sm_get_p2n (by decide) (by decide) rfl ?_)) ?_
  refine Bod.virt (r := [_, _, _, _]) dc_180_130 kr_180_133 ⟨Or.inr rfl, ow_132, cl_9⟩ (by rw [np_132]; rfl) (by rw [np_132]; rfl) (ob_of (mk_46 _)) (Nat.le_of_ble_eq_true rfl) (c4  ) ?_
  show Bod _ _ _ _ [_, _, _, _, _] _ _ _
  refine Bod.aldnG dc_180_133 (by repeat (first | exact q0 | exact sm_get_p1 | exact sm_get_p2e | refine sm_get_p1m (by decide) (by decide) ?_ | refine sm_get_p1n (by decide) rfl ?_ | refine sm_get_p2n (by decide) (by decide) rfl ?_)) ?_
  refine Bod.get dc_180_134 fr_180_23 (mk_52 _) rfl ?_
  refine Bod.ildG dc_180_137 (by repeat (first | exact q0 | exact sm_get_p1 | exact sm_get_p2e | refine sm_get_p1m (by decide) (by decide) ?_ | refine sm_get_p1n (by decide) rfl ?_ | refine sm_get_p2n (by decide) (by decide) rfl ?_)) ?_
  refine Bod.virt (r := [_, _, _, _, _]) dc_180_139 kr_180_141 ⟨Or.inr rfl, ow_135, cl_9⟩ (by rw [np_135]; rfl) (by rw [np_135]; rfl) (ob_of (mk_46 _)) (Nat.le_of_ble_eq_true rfl) (c5  ) ?_
  show Bod _ _ _ _ [_, _, _, _, _, _] _ _ _
  refine Bod.virt (r := []) dc_180_142 kr_180_278 ⟨Or.inr rfl, ow_183, cl_2⟩ (by rw [np_183]; rfl) (by rw [np_183]; rfl) (ob_of (mk_2 _)) (Nat.le_of_ble_eq_true rfl) (c6  ) ?_
  show Bod _ _ _ _ [_] _ _ _
  refine Bod.go dc_180_145 rfl ?_
  refine Bod.incM dc_180_146 (by rw [ml_180]; exact Nat.le_of_ble_eq_true rfl) (by repeat (first | exact q6 | exact sm_get_p1 | exact sm_get_p2e | refine sm_get_p1m (by decide) (by decide) ?_ | refine sm_get_p1n (by decide) rfl ?_ | refine sm_get_p2n (by decide) (by decide) rfl ?_)) ?_
  refine Bod.go dc_180_149 rfl ?_
  exact hB _ (by repeat (first | exact q0 | exact sm_get_p1 | exact sm_get_p2e | refine sm_get_p1m (by decide) (by decide) ?_ | refine sm_get_p1n (by decide) rfl ?_ | refine sm_get_p2n (by decide) (by decide) rfl ?_)) (by repeat (first | exact q2 | exact sm_get_p1 | exact sm_get_p2e | refine sm_get_p1m (by decide) (by decide) ?_ | refine sm_get_p1n (by decide) rfl ?_ | refine sm_get_p2n (by decide) (by decide) rfl ?_)) (by repeat (first | exact q3 | exact sm_get_p1 | exact sm_get_p2e | refine sm_get_p1m (by decide) (by decide) ?_ | refine sm_get_p1n (by decide) rfl ?_ | refine sm_get_p2n (by decide) (by decide) rfl ?_)) (by repeat (first | exact q5 | exact sm_get_p1 | exact sm_get_p2e | refine sm_get_p1m (by decide) (by decide) ?_ | refine sm_get_p1n (by decide) rfl ?_ | refine sm_get_p2n (by decide) (by decide) rfl ?_)) (by repeat (first | exact q0 | exact sm_get_p1 | exact sm_get_p2e | refine sm_get_p1m (by decide) (by decide) ?_ | refine sm_get_p1n (by decide) rfl ?_ | refine sm_get_p2n (by decide) (by decide) rfl ?_))
theorem mMcZ_2 {d : Nat} {S Sf : cS} {v : Option Value} {lv : sm_L} {bs : Nat} {nt : Nat} {id : Nat} {S1 : cS} {a : Nat} {S2 : cS} {u : Int64} {S3 : cS} {u1 : Int64} {S4 : cS} {u2 : Int64} {S5 : cS} {u3 : Int64} {S6 : cS} (q0 : sm_get lv 0 = some (.ref 52)) (q2 : sm_get lv 2 = some (.int (nI bs))) (q3 : sm_get lv 3 = some (.int (nI nt))) (q5 : sm_get lv 5 = some (.int (nI id))) (q6 : sm_get lv 6 = some (.int (nI 0))) (mbs : bs < 2 ^ 20) (mnt : nt < 2 ^ 20) (mid : id < 2 ^ 20) (ma : a < 2 ^ 20) (c1 : Ans (d + 8) 127 [.ref 52] S (some (.int (nI a))) S1) (c2 : Ans (d + 8) 181 [.ref 16, .int (nI a)] S1 (some (.long u)) S2) (c3 : Ans (d + 8) 182 [.ref 16, .int (nI a)] S2 (some (.long u1)) S3) (c4 : Ans (d + 8) 132 [.ref 46, .int (nI bs)] S3 (some (.long u2)) S4) (c5 : Ans (d + 8) 135 [.ref 46, .int (nI bs)] S4 (some (.long u3)) S5) (c6 : Ans (d + 8) 183 [.ref 2, .int (nI id), .long u, .long u1, .long u2, .long u3] S5 (some (.int (nI 0))) S6) (hB : ∀ lv1 : sm_L, sm_get lv1 0 = some (.ref 52) → sm_get lv1 2 = some (.int (nI bs)) → sm_get lv1 3 = some (.int (nI nt)) → sm_get lv1 5 = some (.int (nI id)) → sm_get lv1 6 = some (.int (Int32.ofInt (-1))) → Bod (d + 8) 180 83 lv1 [] (S6) v Sf) : Bod (d + 8) 180 83 lv [] S v Sf := by
  refine Bod.ildG dc_180_83 (by repeat (first | exact q6 | exact sm_get_p1 | exact sm_get_p2e | refine sm_get_p1m (by decide) (by decide) ?_ | refine sm_get_p1n (by decide) rfl ?_ | refine sm_get_p2n (by decide) (by decide) rfl ?_)) ?_
  refine Bod.ifF dc_180_85 rfl (k1_lt_F 0 rfl (by omega)) ?_
  refine Bod.aldnG dc_180_88 (by repeat (first | exact q0 | exact sm_get_p1 | exact sm_get_p2e | refine sm_get_p1m (by decide) (by decide) ?_ | refine sm_get_p1n (by decide) rfl ?_ | refine sm_get_p2n (by decide) (by decide) rfl ?_)) ?_
  refine Bod.virt (r := []) dc_180_89 kr_180_82 ⟨Or.inl rfl, ow_127, cl_4⟩ (by rw [np_127]; rfl) (by rw [np_127]; rfl) (ob_of (mk_52 _)) (Nat.le_of_ble_eq_true rfl) (c1  ) ?_
  show Bod _ _ _ _ [_] _ _ _
  refine Bod.ist dc_180_92 (by rw [ml_180]; exact Nat.le_of_ble_eq_true rfl) ?_
  refine Bod.ildG dc_180_94 (by repeat (first | exact q6 | exact sm_get_p1 | exact sm_get_p2e | refine sm_get_p1m (by decide) (by decide) ?_ | refine sm_get_p1n (by decide) rfl ?_ | refine sm_get_p2n (by decide) (by decide) rfl ?_)) ?_
  refine Bod.ildnG dc_180_96 (by repeat (first | exact q2 | exact sm_get_p1 | exact sm_get_p2e | refine sm_get_p1m (by decide) (by decide) ?_ | refine sm_get_p1n (by decide) rfl ?_ | refine sm_get_p2n (by decide) (by decide) rfl ?_)) ?_
  refine Bod.addN bs (by omega) dc_180_97 ?_
  refine Bod.ist dc_180_98 (by rw [ml_180]; exact Nat.le_of_ble_eq_true rfl) ?_
  refine Bod.aldnG dc_180_100 (by repeat (first | exact q0 | exact sm_get_p1 | exact sm_get_p2e | refine sm_get_p1m (by decide) (by decide) ?_ | refine sm_get_p1n (by decide) rfl ?_ | refine sm_get_p2n (by decide) (by decide) rfl ?_)) ?_
  refine Bod.get dc_180_101 fr_180_15 (mk_52 _) rfl ?_
  refine Bod.ildG dc_180_104 (by repeat (first | exact q5 | exact sm_get_p1 | exact sm_get_p2e | refine sm_get_p1m (by decide) (by decide) ?_ | refine sm_get_p1n (by decide) rfl ?_ | refine sm_get_p2n (by decide) (by decide) rfl ?_)) ?_
  refine Bod.aldnG dc_180_106 (by repeat (first | exact q0 | exact sm_get_p1 | exact sm_get_p2e | refine sm_get_p1m (by decide) (by decide) ?_ | refine sm_get_p1n (by decide) rfl ?_ | refine sm_get_p2n (by decide) (by decide) rfl ?_)) ?_
  refine Bod.get dc_180_107 fr_180_19 (mk_52 _) rfl ?_
  refine Bod.ildG dc_180_110 (by repeat (first | exact q0 | exact sm_get_p1 | exact sm_get_p2e | refine sm_get_p1m (by decide) (by decide) ?_ | refine sm_get_p1n (by decide) rfl ?_ | refine sm_get_p2n (by decide) (by decide) rfl ?_)) ?_
  refine Bod.virt (r := [_, _]) dc_180_112 kr_180_272 ⟨Or.inr rfl, ow_181, cl_5⟩ (by rw [np_181]; rfl) (by rw [np_181]; rfl) (ob_of (mk_16 _)) (Nat.le_of_ble_eq_true rfl) (c2  ) ?_
  show Bod _ _ _ _ [_, _, _] _ _ _
  refine Bod.aldnG dc_180_115 (by repeat (first | exact q0 | exact sm_get_p1 | exact sm_get_p2e | refine sm_get_p1m (by decide) (by decide) ?_ | refine sm_get_p1n (by decide) rfl ?_ | refine sm_get_p2n (by decide) (by decide) rfl ?_)) ?_
  refine Bod.get dc_180_116 fr_180_19 (mk_52 _) rfl ?_
  refine Bod.ildG dc_180_119 (by repeat (first | exact q0 | exact sm_get_p1 | exact sm_get_p2e | refine sm_get_p1m (by decide) (by decide) ?_ | refine sm_get_p1n (by decide) rfl ?_ | refine sm_get_p2n (by decide) (by decide) rfl ?_)) ?_
  refine Bod.virt (r := [_, _, _]) dc_180_121 kr_180_275 ⟨Or.inr rfl, ow_182, cl_5⟩ (by rw [np_182]; rfl) (by rw [np_182]; rfl) (ob_of (mk_16 _)) (Nat.le_of_ble_eq_true rfl) (c3  ) ?_
  show Bod _ _ _ _ [_, _, _, _] _ _ _
  refine Bod.aldnG dc_180_124 (by repeat (first | exact q0 | exact sm_get_p1 | exact sm_get_p2e | refine sm_get_p1m (by decide) (by decide) ?_ | refine sm_get_p1n (by decide) rfl ?_ | refine sm_get_p2n (by decide) (by decide) rfl ?_)) ?_
  refine Bod.get dc_180_125 fr_180_23 (mk_52 _) rfl ?_
  refine Bod.ildG dc_180_128 (by repeat (first | exact q0 | exact sm_get_p1 | exact sm_get_p2e | refine sm_get_p1m (by decide) (by decide) ?_ | refine sm_get_p1n (by decide) rfl ?_ | refine sm_get_p2n (by decide) (by decide) rfl ?_)) ?_
  refine Bod.virt (r := [_, _, _, _]) dc_180_130 kr_180_133 ⟨Or.inr rfl, ow_132, cl_9⟩ (by rw [np_132]; rfl) (by rw [np_132]; rfl) (ob_of (mk_46 _)) (Nat.le_of_ble_eq_true rfl) (c4  ) ?_
  show Bod _ _ _ _ [_, _, _, _, _] _ _ _
  refine Bod.aldnG dc_180_133 (by repeat (first | exact q0 | exact sm_get_p1 | exact sm_get_p2e | refine sm_get_p1m (by decide) (by decide) ?_ | refine sm_get_p1n (by decide) rfl ?_ | refine sm_get_p2n (by decide) (by decide) rfl ?_)) ?_
  refine Bod.get dc_180_134 fr_180_23 (mk_52 _) rfl ?_
  refine Bod.ildG dc_180_137 (by repeat (first | exact q0 | exact sm_get_p1 | exact sm_get_p2e | refine sm_get_p1m (by decide) (by decide) ?_ | refine sm_get_p1n (by decide) rfl ?_ | refine sm_get_p2n (by decide) (by decide) rfl ?_)) ?_
  refine Bod.virt (r := [_, _, _, _, _]) dc_180_139 kr_180_141 ⟨Or.inr rfl, ow_135, cl_9⟩ (by rw [np_135]; rfl) (by rw [np_135]; rfl) (ob_of (mk_46 _)) (Nat.le_of_ble_eq_true rfl) (c5  ) ?_
  show Bod _ _ _ _ [_, _, _, _, _, _] _ _ _
  refine Bod.virt (r := []) dc_180_142 kr_180_278 ⟨Or.inr rfl, ow_183, cl_2⟩ (by rw [np_183]; rfl) (by rw [np_183]; rfl) (ob_of (mk_2 _)) (Nat.le_of_ble_eq_true rfl) (c6  ) ?_
  show Bod _ _ _ _ [_] _ _ _
  refine Bod.go dc_180_145 rfl ?_
  refine Bod.incM dc_180_146 (by rw [ml_180]; exact Nat.le_of_ble_eq_true rfl) (by repeat (first | exact q6 | exact sm_get_p1 | exact sm_get_p2e | refine sm_get_p1m (by decide) (by decide) ?_ | refine sm_get_p1n (by decide) rfl ?_ | refine sm_get_p2n (by decide) (by decide) rfl ?_)) ?_
  refine Bod.go dc_180_149 rfl ?_
  exact hB _ (by repeat (first | exact q0 | exact sm_get_p1 | exact sm_get_p2e | refine sm_get_p1m (by decide) (by decide) ?_ | refine sm_get_p1n (by decide) rfl ?_ | refine sm_get_p2n (by decide) (by decide) rfl ?_)) (by repeat (first | exact q2 | exact sm_get_p1 | exact sm_get_p2e | refine sm_get_p1m (by decide) (by decide) ?_ | refine sm_get_p1n (by decide) rfl ?_ | refine sm_get_p2n (by decide) (by decide) rfl ?_)) (by repeat (first | exact q3 | exact sm_get_p1 | exact sm_get_p2e | refine sm_get_p1m (by decide) (by decide) ?_ | refine sm_get_p1n (by decide) rfl ?_ | refine sm_get_p2n (by decide) (by decide) rfl ?_)) (by repeat (first | exact q5 | exact sm_get_p1 | exact sm_get_p2e | refine sm_get_p1m (by decide) (by decide) ?_ | refine sm_get_p1n (by decide) rfl ?_ | refine sm_get_p2n (by decide) (by decide) rfl ?_)) (by repeat (first | exact q0 | exact sm_get_p1 | exact sm_get_p2e | refine sm_get_p1m (by decide) (by decide) ?_ | refine sm_get_p1n (by decide) rfl ?_ | refine sm_get_p2n (by decide) (by decide) rfl ?_))
theorem mMcE_1 {d : Nat} {S : cS} {lv : sm_L} {bs : Nat} {nt : Nat} {id : Nat} {S1 : cS} {rb : Int32} (q0 : sm_get lv 0 = some (.ref 52)) (q2 : sm_get lv 2 = some (.int (nI bs))) (q3 : sm_get lv 3 = some (.int (nI nt))) (q5 : sm_get lv 5 = some (.int (nI id))) (q6 : sm_get lv 6 = some (.int (Int32.ofInt (-1)))) (mbs : bs < 2 ^ 20) (mnt : nt < 2 ^ 20) (mid : id < 2 ^ 20) (c1 : Ans (d + 8) 148 [.ref 46, .int (nI (nt + bs)), .long ((4611686018427387904)), .long ((nI id).toInt64)] S (some (.int rb)) S1) : Bod (d + 8) 180 83 lv [] S (some (.int rb)) (S1) := by
  refine Bod.ildG dc_180_83 (by repeat (first | exact q6 | exact sm_get_p1 | exact sm_get_p2e | refine sm_get_p1m (by decide) (by decide) ?_ | refine sm_get_p1n (by decide) rfl ?_ | refine sm_get_p2n (by decide) (by decide) rfl ?_)) ?_
  refine Bod.ifT dc_180_85 rfl (by decide) ?_
  refine Bod.aldnG dc_180_152 (by repeat (first | exact q0 | exact sm_get_p1 | exact sm_get_p2e | refine sm_get_p1m (by decide) (by decide) ?_ | refine sm_get_p1n (by decide) rfl ?_ | refine sm_get_p2n (by decide) (by decide) rfl ?_)) ?_
  refine Bod.get dc_180_153 fr_180_23 (mk_52 _) rfl ?_
  refine Bod.ildnG dc_180_156 (by repeat (first | exact q3 | exact sm_get_p1 | exact sm_get_p2e | refine sm_get_p1m (by decide) (by decide) ?_ | refine sm_get_p1n (by decide) rfl ?_ | refine sm_get_p2n (by decide) (by decide) rfl ?_)) ?_
  refine Bod.ildnG dc_180_157 (by repeat (first | exact q2 | exact sm_get_p1 | exact sm_get_p2e | refine sm_get_p1m (by decide) (by decide) ?_ | refine sm_get_p1n (by decide) rfl ?_ | refine sm_get_p2n (by decide) (by decide) rfl ?_)) ?_
  refine Bod.addN (nt + bs) (by omega) dc_180_158 ?_
  refine Bod.ldc2 dc_180_159 cj_180_270 ?_
  refine Bod.ildG dc_180_162 (by repeat (first | exact q5 | exact sm_get_p1 | exact sm_get_p2e | refine sm_get_p1m (by decide) (by decide) ?_ | refine sm_get_p1n (by decide) rfl ?_ | refine sm_get_p2n (by decide) (by decide) rfl ?_)) ?_
  refine Bod.go dc_180_164 rfl ?_
  refine Bod.virt (r := []) dc_180_165 kr_180_282 ⟨Or.inr rfl, ow_148, cl_9⟩ (by rw [np_148]; rfl) (by rw [np_148]; rfl) (ob_of (mk_46 _)) (Nat.le_of_ble_eq_true rfl) (c1  ) ?_
  show Bod _ _ _ _ [_] _ _ _
  exact Bod.retI dc_180_168 rt_180
theorem mEn0_1 {d : Nat} {S Sf : cS} {v : Option Value} {fn : Nat} {gv : Nat} {S1 : cS} {a : Nat} {S2 : cS} {a1 : Nat} {cl : Nat} {S3 : cS} {a2 : Nat} {S4 : cS} {a3 : Nat} {S5 : cS} {S6 : cS} {a4 : Nat} {S7 : cS} {S8 : cS} (mfn : fn < 2 ^ 20) (mgv : gv < 2 ^ 20) (ma : a < 2 ^ 20) (c1 : Ans (d + 8) 241 [.ref 2, .int (nI fn)] S (some (.int (nI a))) S1) (ma1 : a1 < 2 ^ 20) (c2 : Ans (d + 8) 255 [.ref 23, .int (nI a)] S1 (some (.int (nI a1))) S2) (b1 : gv = a1) (hcl : sI S2 5213 = nI cl) (mcl : cl < 31) (b2 : cl < 30) (ma2 : a2 < 2 ^ 20) (c3 : Ans (d + 8) 256 [.ref 23, .int (nI a)] S2 (some (.int (nI a2))) S3) (b3 : a2 ≤ 300) (ma3 : a3 < 2 ^ 20) (c4 : Ans (d + 8) 178 [.ref 2, .int (nI 7)] S3 (some (.int (nI a3))) S4) (b4 : a3 ≠ 0) (c5 : Ans (d + 8) 149 [.ref 2, .ref 6, .int (nI a3)] S4 none S5) (ma4 : a4 < 2 ^ 20) (c6 : Ans (d + 8) 168 [.ref 2, .int (nI fn)] S5 (some (.int (nI a4))) S6) (c7 : Ans (d + 8) 179 [.ref 2, .int (nI a3), .int (nI 0), .int (nI a4), .int (nI 0)] S6 none S7) (c8 : Ans (d + 8) 257 [.ref 2, .int (nI a3), .int (nI a2)] S7 none S8) (hB : ∀ lv1 : sm_L, sm_get lv1 0 = some (.ref 52) → sm_get lv1 2 = some (.int (nI gv)) → sm_get lv1 4 = some (.int (nI 0)) → sm_get lv1 5 = some (.int (nI a)) → sm_get lv1 6 = some (.int (nI 0)) → sm_get lv1 8 = some (.int (nI a3)) → sm_get lv1 9 = some (.int (nI 0)) → Bod (d + 8) 254 168 lv1 [] (S8) v Sf) : Bod (d + 8) 254 0 [(0, .ref 52), (1, .int (nI fn)), (2, .int (nI gv)), (3, .int (nI 0)), (4, .int (nI 0))] [] S v Sf := by
  refine Bod.go dc_254_0 rfl ?_
  refine Bod.get dc_254_1 fr_254_15 (mk_52 _) rfl ?_
  refine Bod.go dc_254_4 rfl ?_
  refine Bod.virt (r := []) dc_254_5 kr_254_314 ⟨Or.inr rfl, ow_241, cl_2⟩ (by rw [np_241]; rfl) (by rw [np_241]; rfl) (ob_of (mk_2 _)) (Nat.le_of_ble_eq_true rfl) (c1  ) ?_
  show Bod _ _ _ _ [_] _ _ _
  refine Bod.ist dc_254_8 (by rw [ml_254]; exact Nat.le_of_ble_eq_true rfl) ?_
  refine Bod.go dc_254_10 rfl ?_
  refine Bod.ifF dc_254_11 rfl (k1_ne_F (k_eq 0 0 rfl rfl (by omega))) ?_
  refine Bod.ic 0 (by decide) dc_254_14 ?_
  refine Bod.go dc_254_15 rfl ?_
  refine Bod.ist dc_254_19 (by rw [ml_254]; exact Nat.le_of_ble_eq_true rfl) ?_
  refine Bod.go dc_254_21 rfl ?_
  refine Bod.go dc_254_22 rfl ?_
  refine Bod.addN gv (by omega) dc_254_24 ?_
  refine Bod.go dc_254_25 rfl ?_
  refine Bod.get dc_254_26 fr_254_11 (mk_52 _) rfl ?_
  refine Bod.go dc_254_29 rfl ?_
  refine Bod.virt (r := [_]) dc_254_31 kr_254_317 ⟨Or.inr rfl, ow_255, cl_7⟩ (by rw [np_255]; rfl) (by rw [np_255]; rfl) (ob_of (mk_23 _)) (Nat.le_of_ble_eq_true rfl) (c2  ) ?_
  show Bod _ _ _ _ [_, _] _ _ _
  refine Bod.icT dc_254_34 rfl (k2_eq_T (k_eq gv a1 rfl rfl (by omega))) ?_
  refine Bod.go dc_254_39 rfl ?_
  refine Bod.get dc_254_40 fr_254_150 (mk_52 _) rfl ?_
  refine Bod.eqI (nI cl) (by first | assumption | (simp (disch := omega) only [rI, rIe, rA, rIA, rLA, rJA, rVI, rQI, rVA, rQA, upd_at,  rAI, rLI, rJI, nI_add, pk_sub, kc_0, kc_1, kc_2, kc_3, kc_4, kc_5, reduceIte, Nat.reduceEqDiff, Nat.add_zero, rI_hold, rI_hold, rL_hold, hcl]; done) | (simp (disch := omega) only [rI, rIe, rA, rIA, rLA, rJA, rVI, rQI, rVA, rQA, upd_at,  rAI, rLI, rJI, nI_add, pk_sub, kc_0, kc_1, kc_2, kc_3, kc_4, kc_5, reduceIte, Nat.reduceEqDiff, Nat.add_zero, rI_hold, rI_hold, rL_hold, hcl]; exact congrArg nI (by omega))) ?_
  refine Bod.ifF dc_254_43 rfl (k1_lt_F cl rfl (by omega)) ?_
  refine Bod.go dc_254_46 rfl ?_
  refine Bod.get dc_254_47 fr_254_150 (mk_52 _) rfl ?_
  refine Bod.eqI (nI cl) (by first | assumption | (simp (disch := omega) only [rI, rIe, rA, rIA, rLA, rJA, rVI, rQI, rVA, rQA, upd_at,  rAI, rLI, rJI, nI_add, pk_sub, kc_0, kc_1, kc_2, kc_3, kc_4, kc_5, reduceIte, Nat.reduceEqDiff, Nat.add_zero, rI_hold, rI_hold, rL_hold, hcl]; done) | (simp (disch := omega) only [rI, rIe, rA, rIA, rLA, rJA, rVI, rQI, rVA, rQA, upd_at,  rAI, rLI, rJI, nI_add, pk_sub, kc_0, kc_1, kc_2, kc_3, kc_4, kc_5, reduceIte, Nat.reduceEqDiff, Nat.add_zero, rI_hold, rI_hold, rL_hold, hcl]; exact congrArg nI (by omega))) ?_
  refine Bod.bip 30 (by decide) dc_254_50 ?_
  refine Bod.icT dc_254_52 rfl (k2_lt_T cl 30 rfl rfl (by omega) (by omega)) ?_
  refine Bod.go dc_254_58 rfl ?_
  refine Bod.get dc_254_59 fr_254_11 (mk_52 _) rfl ?_
  refine Bod.go dc_254_62 rfl ?_
  refine Bod.virt (r := []) dc_254_64 kr_254_320 ⟨Or.inr rfl, ow_256, cl_7⟩ (by rw [np_256]; rfl) (by rw [np_256]; rfl) (ob_of (mk_23 _)) (Nat.le_of_ble_eq_true rfl) (c3  ) ?_
  show Bod _ _ _ _ [_] _ _ _
  refine Bod.ist dc_254_67 (by rw [ml_254]; exact Nat.le_of_ble_eq_true rfl) ?_
  refine Bod.go dc_254_69 rfl ?_
  refine Bod.sip 300 (by decide) dc_254_71 ?_
  refine Bod.icT dc_254_74 rfl (k2_le_T a2 300 rfl rfl (by omega) (by omega)) ?_
  refine Bod.go dc_254_81 rfl ?_
  refine Bod.get dc_254_82 fr_254_15 (mk_52 _) rfl ?_
  refine Bod.bip 7 (by decide) dc_254_85 ?_
  refine Bod.virt (r := []) dc_254_87 kr_254_263 ⟨Or.inr rfl, ow_178, cl_2⟩ (by rw [np_178]; rfl) (by rw [np_178]; rfl) (ob_of (mk_2 _)) (Nat.le_of_ble_eq_true rfl) (c4  ) ?_
  show Bod _ _ _ _ [_] _ _ _
  refine Bod.ist dc_254_90 (by rw [ml_254]; exact Nat.le_of_ble_eq_true rfl) ?_
  refine Bod.go dc_254_92 rfl ?_
  refine Bod.ifT dc_254_94 rfl (k1_ne_T (k_ne a3 0 rfl rfl (by omega) (by omega) (by omega))) ?_
  refine Bod.go dc_254_100 rfl ?_
  refine Bod.get dc_254_101 fr_254_15 (mk_52 _) rfl ?_
  refine Bod.go dc_254_104 rfl ?_
  refine Bod.get dc_254_105 fr_254_15 (mk_52 _) rfl ?_
  refine Bod.get dc_254_108 fr_254_156 (mk_2 _) rfl ?_
  refine Bod.go dc_254_111 rfl ?_
  refine Bod.virt (r := []) dc_254_113 kr_254_301 ⟨Or.inr rfl, ow_149, cl_2⟩ (by rw [np_149]; rfl) (by rw [np_149]; rfl) (ob_of (mk_2 _)) (Nat.le_of_ble_eq_true rfl) (c5  ) ?_
  show Bod _ _ _ _ [] _ _ _
  refine Bod.go dc_254_116 rfl ?_
  refine Bod.get dc_254_117 fr_254_15 (mk_52 _) rfl ?_
  refine Bod.go dc_254_120 rfl ?_
  refine Bod.ic 0 (by decide) dc_254_122 ?_
  refine Bod.go dc_254_123 rfl ?_
  refine Bod.get dc_254_124 fr_254_15 (mk_52 _) rfl ?_
  refine Bod.go dc_254_127 rfl ?_
  refine Bod.virt (r := [_, _, _]) dc_254_128 kr_254_241 ⟨Or.inr rfl, ow_168, cl_2⟩ (by rw [np_168]; rfl) (by rw [np_168]; rfl) (ob_of (mk_2 _)) (Nat.le_of_ble_eq_true rfl) (c6  ) ?_
  show Bod _ _ _ _ [_, _, _, _] _ _ _
  refine Bod.ic 0 (by decide) dc_254_131 ?_
  refine Bod.virt (r := []) dc_254_132 kr_254_266 ⟨Or.inr rfl, ow_179, cl_2⟩ (by rw [np_179]; rfl) (by rw [np_179]; rfl) (ob_of (mk_2 _)) (Nat.le_of_ble_eq_true rfl) (c7  ) ?_
  show Bod _ _ _ _ [] _ _ _
  refine Bod.go dc_254_135 rfl ?_
  refine Bod.get dc_254_136 fr_254_15 (mk_52 _) rfl ?_
  refine Bod.go dc_254_139 rfl ?_
  refine Bod.go dc_254_141 rfl ?_
  refine Bod.virt (r := []) dc_254_143 kr_254_323 ⟨Or.inr rfl, ow_257, cl_2⟩ (by rw [np_257]; rfl) (by rw [np_257]; rfl) (ob_of (mk_2 _)) (Nat.le_of_ble_eq_true rfl) (c8  ) ?_
  show Bod _ _ _ _ [] _ _ _
  refine Bod.go dc_254_146 rfl ?_
  refine Bod.ifT dc_254_147 rfl (k1_eq_T (k_eq 0 0 rfl rfl (by omega))) ?_
  refine Bod.ic 0 (by decide) dc_254_165 ?_
  refine Bod.ist dc_254_166 (by rw [ml_254]; exact Nat.le_of_ble_eq_true rfl) ?_
  exact hB _ (by first | rfl | exact (by repeat (first | exact rfl | exact sm_get_p1 | exact sm_get_p2e | refine sm_get_p1m (by decide) (by decide) ?_ | refine sm_get_p1n (by decide) rfl ?_ | refine sm_get_p2n (by decide) (by decide) rfl ?_))) (by first | rfl | exact (by repeat (first | exact rfl | exact sm_get_p1 | exact sm_get_p2e | refine sm_get_p1m (by decide) (by decide) ?_ | refine sm_get_p1n (by decide) rfl ?_ | refine sm_get_p2n (by decide) (by decide) rfl ?_))) (by first | rfl | exact (by repeat (first | exact rfl | exact sm_get_p1 | exact sm_get_p2e | refine sm_get_p1m (by decide) (by decide) ?_ | refine sm_get_p1n (by decide) rfl ?_ | refine sm_get_p2n (by decide) (by decide) rfl ?_))) (by first | rfl | exact (by repeat (first | exact rfl | exact sm_get_p1 | exact sm_get_p2e | refine sm_get_p1m (by decide) (by decide) ?_ | refine sm_get_p1n (by decide) rfl ?_ | refine sm_get_p2n (by decide) (by decide) rfl ?_))) (by first | rfl | exact (by repeat (first | exact rfl | exact sm_get_p1 | exact sm_get_p2e | refine sm_get_p1m (by decide) (by decide) ?_ | refine sm_get_p1n (by decide) rfl ?_ | refine sm_get_p2n (by decide) (by decide) rfl ?_))) (by first | rfl | exact (by repeat (first | exact rfl | exact sm_get_p1 | exact sm_get_p2e | refine sm_get_p1m (by decide) (by decide) ?_ | refine sm_get_p1n (by decide) rfl ?_ | refine sm_get_p2n (by decide) (by decide) rfl ?_))) (by first | rfl | exact (by repeat (first | exact rfl | exact sm_get_p1 | exact sm_get_p2e | refine sm_get_p1m (by decide) (by decide) ?_ | refine sm_get_p1n (by decide) rfl ?_ | refine sm_get_p2n (by decide) (by decide) rfl ?_)))
theorem mEn0_2 {d : Nat} {S : cS} {fn : Nat} {gv : Nat} {S1 : cS} {a : Nat} {S2 : cS} {a1 : Nat} {cl : Nat} {S3 : cS} {a2 : Nat} {S4 : cS} {a3 : Nat} (mfn : fn < 2 ^ 20) (mgv : gv < 2 ^ 20) (ma : a < 2 ^ 20) (c1 : Ans (d + 8) 241 [.ref 2, .int (nI fn)] S (some (.int (nI a))) S1) (ma1 : a1 < 2 ^ 20) (c2 : Ans (d + 8) 255 [.ref 23, .int (nI a)] S1 (some (.int (nI a1))) S2) (b1 : gv = a1) (hcl : sI S2 5213 = nI cl) (mcl : cl < 31) (b2 : cl < 30) (ma2 : a2 < 2 ^ 20) (c3 : Ans (d + 8) 256 [.ref 23, .int (nI a)] S2 (some (.int (nI a2))) S3) (b3 : a2 ≤ 300) (ma3 : a3 < 2 ^ 20) (c4 : Ans (d + 8) 178 [.ref 2, .int (nI 7)] S3 (some (.int (nI a3))) S4) (b4 : a3 = 0) : Bod (d + 8) 254 0 [(0, .ref 52), (1, .int (nI fn)), (2, .int (nI gv)), (3, .int (nI 0)), (4, .int (nI 0))] [] S (some (.int (nI 8))) (S4) := by
  refine Bod.go dc_254_0 rfl ?_
  refine Bod.get dc_254_1 fr_254_15 (mk_52 _) rfl ?_
  refine Bod.go dc_254_4 rfl ?_
  refine Bod.virt (r := []) dc_254_5 kr_254_314 ⟨Or.inr rfl, ow_241, cl_2⟩ (by rw [np_241]; rfl) (by rw [np_241]; rfl) (ob_of (mk_2 _)) (Nat.le_of_ble_eq_true rfl) (c1  ) ?_
  show Bod _ _ _ _ [_] _ _ _
  refine Bod.ist dc_254_8 (by rw [ml_254]; exact Nat.le_of_ble_eq_true rfl) ?_
  refine Bod.go dc_254_10 rfl ?_
  refine Bod.ifF dc_254_11 rfl (k1_ne_F (k_eq 0 0 rfl rfl (by omega))) ?_
  refine Bod.ic 0 (by decide) dc_254_14 ?_
  refine Bod.go dc_254_15 rfl ?_
  refine Bod.ist dc_254_19 (by rw [ml_254]; exact Nat.le_of_ble_eq_true rfl) ?_
  refine Bod.go dc_254_21 rfl ?_
  refine Bod.go dc_254_22 rfl ?_
  refine Bod.addN gv (by omega) dc_254_24 ?_
  refine Bod.go dc_254_25 rfl ?_
  refine Bod.get dc_254_26 fr_254_11 (mk_52 _) rfl ?_
  refine Bod.go dc_254_29 rfl ?_
  refine Bod.virt (r := [_]) dc_254_31 kr_254_317 ⟨Or.inr rfl, ow_255, cl_7⟩ (by rw [np_255]; rfl) (by rw [np_255]; rfl) (ob_of (mk_23 _)) (Nat.le_of_ble_eq_true rfl) (c2  ) ?_
  show Bod _ _ _ _ [_, _] _ _ _
  refine Bod.icT dc_254_34 rfl (k2_eq_T (k_eq gv a1 rfl rfl (by omega))) ?_
  refine Bod.go dc_254_39 rfl ?_
  refine Bod.get dc_254_40 fr_254_150 (mk_52 _) rfl ?_
  refine Bod.eqI (nI cl) (by first | assumption | (simp (disch := omega) only [rI, rIe, rA, rIA, rLA, rJA, rVI, rQI, rVA, rQA, upd_at,  rAI, rLI, rJI, nI_add, pk_sub, kc_0, kc_1, kc_2, kc_3, kc_4, kc_5, reduceIte, Nat.reduceEqDiff, Nat.add_zero, rI_hold, rI_hold, rL_hold, hcl]; done) | (simp (disch := omega) only [rI, rIe, rA, rIA, rLA, rJA, rVI, rQI, rVA, rQA, upd_at,  rAI, rLI, rJI, nI_add, pk_sub, kc_0, kc_1, kc_2, kc_3, kc_4, kc_5, reduceIte, Nat.reduceEqDiff, Nat.add_zero, rI_hold, rI_hold, rL_hold, hcl]; exact congrArg nI (by omega))) ?_
  refine Bod.ifF dc_254_43 rfl (k1_lt_F cl rfl (by omega)) ?_
  refine Bod.go dc_254_46 rfl ?_
  refine Bod.get dc_254_47 fr_254_150 (mk_52 _) rfl ?_
  refine Bod.eqI (nI cl) (by first | assumption | (simp (disch := omega) only [rI, rIe, rA, rIA, rLA, rJA, rVI, rQI, rVA, rQA, upd_at,  rAI, rLI, rJI, nI_add, pk_sub, kc_0, kc_1, kc_2, kc_3, kc_4, kc_5, reduceIte, Nat.reduceEqDiff, Nat.add_zero, rI_hold, rI_hold, rL_hold, hcl]; done) | (simp (disch := omega) only [rI, rIe, rA, rIA, rLA, rJA, rVI, rQI, rVA, rQA, upd_at,  rAI, rLI, rJI, nI_add, pk_sub, kc_0, kc_1, kc_2, kc_3, kc_4, kc_5, reduceIte, Nat.reduceEqDiff, Nat.add_zero, rI_hold, rI_hold, rL_hold, hcl]; exact congrArg nI (by omega))) ?_
  refine Bod.bip 30 (by decide) dc_254_50 ?_
  refine Bod.icT dc_254_52 rfl (k2_lt_T cl 30 rfl rfl (by omega) (by omega)) ?_
  refine Bod.go dc_254_58 rfl ?_
  refine Bod.get dc_254_59 fr_254_11 (mk_52 _) rfl ?_
  refine Bod.go dc_254_62 rfl ?_
  refine Bod.virt (r := []) dc_254_64 kr_254_320 ⟨Or.inr rfl, ow_256, cl_7⟩ (by rw [np_256]; rfl) (by rw [np_256]; rfl) (ob_of (mk_23 _)) (Nat.le_of_ble_eq_true rfl) (c3  ) ?_
  show Bod _ _ _ _ [_] _ _ _
  refine Bod.ist dc_254_67 (by rw [ml_254]; exact Nat.le_of_ble_eq_true rfl) ?_
  refine Bod.go dc_254_69 rfl ?_
  refine Bod.sip 300 (by decide) dc_254_71 ?_
  refine Bod.icT dc_254_74 rfl (k2_le_T a2 300 rfl rfl (by omega) (by omega)) ?_
  refine Bod.go dc_254_81 rfl ?_
  refine Bod.get dc_254_82 fr_254_15 (mk_52 _) rfl ?_
  refine Bod.bip 7 (by decide) dc_254_85 ?_
  refine Bod.virt (r := []) dc_254_87 kr_254_263 ⟨Or.inr rfl, ow_178, cl_2⟩ (by rw [np_178]; rfl) (by rw [np_178]; rfl) (ob_of (mk_2 _)) (Nat.le_of_ble_eq_true rfl) (c4  ) ?_
  show Bod _ _ _ _ [_] _ _ _
  refine Bod.ist dc_254_90 (by rw [ml_254]; exact Nat.le_of_ble_eq_true rfl) ?_
  refine Bod.go dc_254_92 rfl ?_
  refine Bod.ifF dc_254_94 rfl (k1_ne_F (k_eq a3 0 rfl rfl (by omega))) ?_
  refine Bod.bip 8 (by decide) dc_254_97 ?_
  exact Bod.retI dc_254_99 rt_254
theorem mEn0_3 {d : Nat} {S : cS} {fn : Nat} {gv : Nat} {S1 : cS} {a : Nat} {S2 : cS} {a1 : Nat} {cl : Nat} {S3 : cS} {a2 : Nat} (mfn : fn < 2 ^ 20) (mgv : gv < 2 ^ 20) (ma : a < 2 ^ 20) (c1 : Ans (d + 8) 241 [.ref 2, .int (nI fn)] S (some (.int (nI a))) S1) (ma1 : a1 < 2 ^ 20) (c2 : Ans (d + 8) 255 [.ref 23, .int (nI a)] S1 (some (.int (nI a1))) S2) (b1 : gv = a1) (hcl : sI S2 5213 = nI cl) (mcl : cl < 31) (b2 : cl < 30) (ma2 : a2 < 2 ^ 20) (c3 : Ans (d + 8) 256 [.ref 23, .int (nI a)] S2 (some (.int (nI a2))) S3) (b3 : 300 < a2) : Bod (d + 8) 254 0 [(0, .ref 52), (1, .int (nI fn)), (2, .int (nI gv)), (3, .int (nI 0)), (4, .int (nI 0))] [] S (some (.int (nI 8))) (S3) := by
  refine Bod.go dc_254_0 rfl ?_
  refine Bod.get dc_254_1 fr_254_15 (mk_52 _) rfl ?_
  refine Bod.go dc_254_4 rfl ?_
  refine Bod.virt (r := []) dc_254_5 kr_254_314 ⟨Or.inr rfl, ow_241, cl_2⟩ (by rw [np_241]; rfl) (by rw [np_241]; rfl) (ob_of (mk_2 _)) (Nat.le_of_ble_eq_true rfl) (c1  ) ?_
  show Bod _ _ _ _ [_] _ _ _
  refine Bod.ist dc_254_8 (by rw [ml_254]; exact Nat.le_of_ble_eq_true rfl) ?_
  refine Bod.go dc_254_10 rfl ?_
  refine Bod.ifF dc_254_11 rfl (k1_ne_F (k_eq 0 0 rfl rfl (by omega))) ?_
  refine Bod.ic 0 (by decide) dc_254_14 ?_
  refine Bod.go dc_254_15 rfl ?_
  refine Bod.ist dc_254_19 (by rw [ml_254]; exact Nat.le_of_ble_eq_true rfl) ?_
  refine Bod.go dc_254_21 rfl ?_
  refine Bod.go dc_254_22 rfl ?_
  refine Bod.addN gv (by omega) dc_254_24 ?_
  refine Bod.go dc_254_25 rfl ?_
  refine Bod.get dc_254_26 fr_254_11 (mk_52 _) rfl ?_
  refine Bod.go dc_254_29 rfl ?_
  refine Bod.virt (r := [_]) dc_254_31 kr_254_317 ⟨Or.inr rfl, ow_255, cl_7⟩ (by rw [np_255]; rfl) (by rw [np_255]; rfl) (ob_of (mk_23 _)) (Nat.le_of_ble_eq_true rfl) (c2  ) ?_
  show Bod _ _ _ _ [_, _] _ _ _
  refine Bod.icT dc_254_34 rfl (k2_eq_T (k_eq gv a1 rfl rfl (by omega))) ?_
  refine Bod.go dc_254_39 rfl ?_
  refine Bod.get dc_254_40 fr_254_150 (mk_52 _) rfl ?_
  refine Bod.eqI (nI cl) (by first | assumption | (simp (disch := omega) only [rI, rIe, rA, rIA, rLA, rJA, rVI, rQI, rVA, rQA, upd_at,  rAI, rLI, rJI, nI_add, pk_sub, kc_0, kc_1, kc_2, kc_3, kc_4, kc_5, reduceIte, Nat.reduceEqDiff, Nat.add_zero, rI_hold, rI_hold, rL_hold, hcl]; done) | (simp (disch := omega) only [rI, rIe, rA, rIA, rLA, rJA, rVI, rQI, rVA, rQA, upd_at,  rAI, rLI, rJI, nI_add, pk_sub, kc_0, kc_1, kc_2, kc_3, kc_4, kc_5, reduceIte, Nat.reduceEqDiff, Nat.add_zero, rI_hold, rI_hold, rL_hold, hcl]; exact congrArg nI (by omega))) ?_
  refine Bod.ifF dc_254_43 rfl (k1_lt_F cl rfl (by omega)) ?_
  refine Bod.go dc_254_46 rfl ?_
  refine Bod.get dc_254_47 fr_254_150 (mk_52 _) rfl ?_
  refine Bod.eqI (nI cl) (by first | assumption | (simp (disch := omega) only [rI, rIe, rA, rIA, rLA, rJA, rVI, rQI, rVA, rQA, upd_at,  rAI, rLI, rJI, nI_add, pk_sub, kc_0, kc_1, kc_2, kc_3, kc_4, kc_5, reduceIte, Nat.reduceEqDiff, Nat.add_zero, rI_hold, rI_hold, rL_hold, hcl]; done) | (simp (disch := omega) only [rI, rIe, rA, rIA, rLA, rJA, rVI, rQI, rVA, rQA, upd_at,  rAI, rLI, rJI, nI_add, pk_sub, kc_0, kc_1, kc_2, kc_3, kc_4, kc_5, reduceIte, Nat.reduceEqDiff, Nat.add_zero, rI_hold, rI_hold, rL_hold, hcl]; exact congrArg nI (by omega))) ?_
  refine Bod.bip 30 (by decide) dc_254_50 ?_
  refine Bod.icT dc_254_52 rfl (k2_lt_T cl 30 rfl rfl (by omega) (by omega)) ?_
  refine Bod.go dc_254_58 rfl ?_
  refine Bod.get dc_254_59 fr_254_11 (mk_52 _) rfl ?_
  refine Bod.go dc_254_62 rfl ?_
  refine Bod.virt (r := []) dc_254_64 kr_254_320 ⟨Or.inr rfl, ow_256, cl_7⟩ (by rw [np_256]; rfl) (by rw [np_256]; rfl) (ob_of (mk_23 _)) (Nat.le_of_ble_eq_true rfl) (c3  ) ?_
  show Bod _ _ _ _ [_] _ _ _
  refine Bod.ist dc_254_67 (by rw [ml_254]; exact Nat.le_of_ble_eq_true rfl) ?_
  refine Bod.go dc_254_69 rfl ?_
  refine Bod.sip 300 (by decide) dc_254_71 ?_
  refine Bod.icF dc_254_74 rfl (k2_le_F a2 300 rfl rfl (by omega) (by omega)) ?_
  refine Bod.ic 0 (by decide) dc_254_77 ?_
  refine Bod.go dc_254_78 rfl ?_
  refine Bod.ist dc_254_90 (by rw [ml_254]; exact Nat.le_of_ble_eq_true rfl) ?_
  refine Bod.go dc_254_92 rfl ?_
  refine Bod.ifF dc_254_94 rfl (k1_ne_F (k_eq 0 0 rfl rfl (by omega))) ?_
  refine Bod.bip 8 (by decide) dc_254_97 ?_
  exact Bod.retI dc_254_99 rt_254
theorem mEn0_4 {d : Nat} {S : cS} {fn : Nat} {gv : Nat} {S1 : cS} {a : Nat} {S2 : cS} {a1 : Nat} {cl : Nat} (mfn : fn < 2 ^ 20) (mgv : gv < 2 ^ 20) (ma : a < 2 ^ 20) (c1 : Ans (d + 8) 241 [.ref 2, .int (nI fn)] S (some (.int (nI a))) S1) (ma1 : a1 < 2 ^ 20) (c2 : Ans (d + 8) 255 [.ref 23, .int (nI a)] S1 (some (.int (nI a1))) S2) (b1 : gv = a1) (hcl : sI S2 5213 = nI cl) (mcl : cl < 31) (b2 : 30 ≤ cl) : Bod (d + 8) 254 0 [(0, .ref 52), (1, .int (nI fn)), (2, .int (nI gv)), (3, .int (nI 0)), (4, .int (nI 0))] [] S (some (.int (nI 7))) (S2) := by
  refine Bod.go dc_254_0 rfl ?_
  refine Bod.get dc_254_1 fr_254_15 (mk_52 _) rfl ?_
  refine Bod.go dc_254_4 rfl ?_
  refine Bod.virt (r := []) dc_254_5 kr_254_314 ⟨Or.inr rfl, ow_241, cl_2⟩ (by rw [np_241]; rfl) (by rw [np_241]; rfl) (ob_of (mk_2 _)) (Nat.le_of_ble_eq_true rfl) (c1  ) ?_
  show Bod _ _ _ _ [_] _ _ _
  refine Bod.ist dc_254_8 (by rw [ml_254]; exact Nat.le_of_ble_eq_true rfl) ?_
  refine Bod.go dc_254_10 rfl ?_
  refine Bod.ifF dc_254_11 rfl (k1_ne_F (k_eq 0 0 rfl rfl (by omega))) ?_
  refine Bod.ic 0 (by decide) dc_254_14 ?_
  refine Bod.go dc_254_15 rfl ?_
  refine Bod.ist dc_254_19 (by rw [ml_254]; exact Nat.le_of_ble_eq_true rfl) ?_
  refine Bod.go dc_254_21 rfl ?_
  refine Bod.go dc_254_22 rfl ?_
  refine Bod.addN gv (by omega) dc_254_24 ?_
  refine Bod.go dc_254_25 rfl ?_
  refine Bod.get dc_254_26 fr_254_11 (mk_52 _) rfl ?_
  refine Bod.go dc_254_29 rfl ?_
  refine Bod.virt (r := [_]) dc_254_31 kr_254_317 ⟨Or.inr rfl, ow_255, cl_7⟩ (by rw [np_255]; rfl) (by rw [np_255]; rfl) (ob_of (mk_23 _)) (Nat.le_of_ble_eq_true rfl) (c2  ) ?_
  show Bod _ _ _ _ [_, _] _ _ _
  refine Bod.icT dc_254_34 rfl (k2_eq_T (k_eq gv a1 rfl rfl (by omega))) ?_
  refine Bod.go dc_254_39 rfl ?_
  refine Bod.get dc_254_40 fr_254_150 (mk_52 _) rfl ?_
  refine Bod.eqI (nI cl) (by first | assumption | (simp (disch := omega) only [rI, rIe, rA, rIA, rLA, rJA, rVI, rQI, rVA, rQA, upd_at,  rAI, rLI, rJI, nI_add, pk_sub, kc_0, kc_1, kc_2, kc_3, kc_4, kc_5, reduceIte, Nat.reduceEqDiff, Nat.add_zero, rI_hold, rI_hold, rL_hold, hcl]; done) | (simp (disch := omega) only [rI, rIe, rA, rIA, rLA, rJA, rVI, rQI, rVA, rQA, upd_at,  rAI, rLI, rJI, nI_add, pk_sub, kc_0, kc_1, kc_2, kc_3, kc_4, kc_5, reduceIte, Nat.reduceEqDiff, Nat.add_zero, rI_hold, rI_hold, rL_hold, hcl]; exact congrArg nI (by omega))) ?_
  refine Bod.ifF dc_254_43 rfl (k1_lt_F cl rfl (by omega)) ?_
  refine Bod.go dc_254_46 rfl ?_
  refine Bod.get dc_254_47 fr_254_150 (mk_52 _) rfl ?_
  refine Bod.eqI (nI cl) (by first | assumption | (simp (disch := omega) only [rI, rIe, rA, rIA, rLA, rJA, rVI, rQI, rVA, rQA, upd_at,  rAI, rLI, rJI, nI_add, pk_sub, kc_0, kc_1, kc_2, kc_3, kc_4, kc_5, reduceIte, Nat.reduceEqDiff, Nat.add_zero, rI_hold, rI_hold, rL_hold, hcl]; done) | (simp (disch := omega) only [rI, rIe, rA, rIA, rLA, rJA, rVI, rQI, rVA, rQA, upd_at,  rAI, rLI, rJI, nI_add, pk_sub, kc_0, kc_1, kc_2, kc_3, kc_4, kc_5, reduceIte, Nat.reduceEqDiff, Nat.add_zero, rI_hold, rI_hold, rL_hold, hcl]; exact congrArg nI (by omega))) ?_
  refine Bod.bip 30 (by decide) dc_254_50 ?_
  refine Bod.icF dc_254_52 rfl (k2_lt_F cl 30 rfl rfl (by omega) (by omega)) ?_
  refine Bod.bip 7 (by decide) dc_254_55 ?_
  exact Bod.retI dc_254_57 rt_254
theorem mEn0_5 {d : Nat} {S : cS} {fn : Nat} {gv : Nat} {S1 : cS} {a : Nat} {S2 : cS} {a1 : Nat} (mfn : fn < 2 ^ 20) (mgv : gv < 2 ^ 20) (ma : a < 2 ^ 20) (c1 : Ans (d + 8) 241 [.ref 2, .int (nI fn)] S (some (.int (nI a))) S1) (ma1 : a1 < 2 ^ 20) (c2 : Ans (d + 8) 255 [.ref 23, .int (nI a)] S1 (some (.int (nI a1))) S2) (b1 : gv ≠ a1) : Bod (d + 8) 254 0 [(0, .ref 52), (1, .int (nI fn)), (2, .int (nI gv)), (3, .int (nI 0)), (4, .int (nI 0))] [] S (some (.int (nI 2))) (S2) := by
  refine Bod.go dc_254_0 rfl ?_
  refine Bod.get dc_254_1 fr_254_15 (mk_52 _) rfl ?_
  refine Bod.go dc_254_4 rfl ?_
  refine Bod.virt (r := []) dc_254_5 kr_254_314 ⟨Or.inr rfl, ow_241, cl_2⟩ (by rw [np_241]; rfl) (by rw [np_241]; rfl) (ob_of (mk_2 _)) (Nat.le_of_ble_eq_true rfl) (c1  ) ?_
  show Bod _ _ _ _ [_] _ _ _
  refine Bod.ist dc_254_8 (by rw [ml_254]; exact Nat.le_of_ble_eq_true rfl) ?_
  refine Bod.go dc_254_10 rfl ?_
  refine Bod.ifF dc_254_11 rfl (k1_ne_F (k_eq 0 0 rfl rfl (by omega))) ?_
  refine Bod.ic 0 (by decide) dc_254_14 ?_
  refine Bod.go dc_254_15 rfl ?_
  refine Bod.ist dc_254_19 (by rw [ml_254]; exact Nat.le_of_ble_eq_true rfl) ?_
  refine Bod.go dc_254_21 rfl ?_
  refine Bod.go dc_254_22 rfl ?_
  refine Bod.addN gv (by omega) dc_254_24 ?_
  refine Bod.go dc_254_25 rfl ?_
  refine Bod.get dc_254_26 fr_254_11 (mk_52 _) rfl ?_
  refine Bod.go dc_254_29 rfl ?_
  refine Bod.virt (r := [_]) dc_254_31 kr_254_317 ⟨Or.inr rfl, ow_255, cl_7⟩ (by rw [np_255]; rfl) (by rw [np_255]; rfl) (ob_of (mk_23 _)) (Nat.le_of_ble_eq_true rfl) (c2  ) ?_
  show Bod _ _ _ _ [_, _] _ _ _
  refine Bod.icF dc_254_34 rfl (k2_eq_F (k_ne gv a1 rfl rfl (by omega) (by omega) (by omega))) ?_
  refine Bod.ic 2 (by decide) dc_254_37 ?_
  exact Bod.retI dc_254_38 rt_254
theorem mEnS_1 {d : Nat} {S Sf : cS} {v : Option Value} {fn : Nat} {gv : Nat} {se : Nat} {md : Nat} {S1 : cS} {a : Nat} {S2 : cS} {a1 : Nat} {cl : Nat} {S3 : cS} {a2 : Nat} {S4 : cS} {a3 : Nat} {S5 : cS} {S6 : cS} {a4 : Nat} {S7 : cS} {S8 : cS} (mfn : fn < 2 ^ 20) (mgv : gv < 2 ^ 20) (mse : se < 2 ^ 20) (mmd : md < 2 ^ 20) (ma : a < 2 ^ 20) (c1 : Ans (d + 8) 241 [.ref 2, .int (nI fn)] S (some (.int (nI a))) S1) (b1 : se ≠ 0) (ma1 : a1 < 2 ^ 20) (c2 : Ans (d + 8) 255 [.ref 23, .int (nI a)] S1 (some (.int (nI a1))) S2) (b2 : (gv + 1) = a1) (hcl : sI S2 5213 = nI cl) (mcl : cl < 31) (b3 : cl < 30) (ma2 : a2 < 2 ^ 20) (c3 : Ans (d + 8) 256 [.ref 23, .int (nI a)] S2 (some (.int (nI a2))) S3) (b4 : a2 ≤ 300) (ma3 : a3 < 2 ^ 20) (c4 : Ans (d + 8) 178 [.ref 2, .int (nI 7)] S3 (some (.int (nI a3))) S4) (b5 : a3 ≠ 0) (c5 : Ans (d + 8) 149 [.ref 2, .ref 6, .int (nI a3)] S4 none S5) (ma4 : a4 < 2 ^ 20) (c6 : Ans (d + 8) 168 [.ref 2, .int (nI fn)] S5 (some (.int (nI a4))) S6) (c7 : Ans (d + 8) 179 [.ref 2, .int (nI a3), .int (nI 0), .int (nI a4), .int (nI 0)] S6 none S7) (c8 : Ans (d + 8) 257 [.ref 2, .int (nI a3), .int (nI a2)] S7 none S8) (b6 : se = 0) (hB : ∀ lv1 : sm_L, sm_get lv1 0 = some (.ref 52) → sm_get lv1 2 = some (.int (nI gv)) → sm_get lv1 4 = some (.int (nI md)) → sm_get lv1 5 = some (.int (nI a)) → sm_get lv1 6 = some (.int (nI 1)) → sm_get lv1 8 = some (.int (nI a3)) → sm_get lv1 9 = some (.int (nI 0)) → Bod (d + 8) 254 168 lv1 [] (S8) v Sf) : Bod (d + 8) 254 0 [(0, .ref 52), (1, .int (nI fn)), (2, .int (nI gv)), (3, .int (nI se)), (4, .int (nI md))] [] S v Sf := by
  refine Bod.go dc_254_0 rfl ?_
  refine Bod.get dc_254_1 fr_254_15 (mk_52 _) rfl ?_
  refine Bod.go dc_254_4 rfl ?_
  refine Bod.virt (r := []) dc_254_5 kr_254_314 ⟨Or.inr rfl, ow_241, cl_2⟩ (by rw [np_241]; rfl) (by rw [np_241]; rfl) (ob_of (mk_2 _)) (Nat.le_of_ble_eq_true rfl) (c1  ) ?_
  show Bod _ _ _ _ [_] _ _ _
  refine Bod.ist dc_254_8 (by rw [ml_254]; exact Nat.le_of_ble_eq_true rfl) ?_
  refine Bod.go dc_254_10 rfl ?_
  refine Bod.ifT dc_254_11 rfl (k1_ne_T (k_ne se 0 rfl rfl (by omega) (by omega) (by omega))) ?_
  refine Bod.ic 1 (by decide) dc_254_18 ?_
  refine Bod.ist dc_254_19 (by rw [ml_254]; exact Nat.le_of_ble_eq_true rfl) ?_
  refine Bod.go dc_254_21 rfl ?_
  refine Bod.go dc_254_22 rfl ?_
  refine Bod.addN (gv + 1) (by omega) dc_254_24 ?_
  refine Bod.go dc_254_25 rfl ?_
  refine Bod.get dc_254_26 fr_254_11 (mk_52 _) rfl ?_
  refine Bod.go dc_254_29 rfl ?_
  refine Bod.virt (r := [_]) dc_254_31 kr_254_317 ⟨Or.inr rfl, ow_255, cl_7⟩ (by rw [np_255]; rfl) (by rw [np_255]; rfl) (ob_of (mk_23 _)) (Nat.le_of_ble_eq_true rfl) (c2  ) ?_
  show Bod _ _ _ _ [_, _] _ _ _
  refine Bod.icT dc_254_34 rfl (k2_eq_T (k_eq (gv + 1) a1 rfl rfl (by omega))) ?_
  refine Bod.go dc_254_39 rfl ?_
  refine Bod.get dc_254_40 fr_254_150 (mk_52 _) rfl ?_
  refine Bod.eqI (nI cl) (by first | assumption | (simp (disch := omega) only [rI, rIe, rA, rIA, rLA, rJA, rVI, rQI, rVA, rQA, upd_at,  rAI, rLI, rJI, nI_add, pk_sub, kc_0, kc_1, kc_2, kc_3, kc_4, kc_5, reduceIte, Nat.reduceEqDiff, Nat.add_zero, rI_hold, rI_hold, rL_hold, hcl]; done) | (simp (disch := omega) only [rI, rIe, rA, rIA, rLA, rJA, rVI, rQI, rVA, rQA, upd_at,  rAI, rLI, rJI, nI_add, pk_sub, kc_0, kc_1, kc_2, kc_3, kc_4, kc_5, reduceIte, Nat.reduceEqDiff, Nat.add_zero, rI_hold, rI_hold, rL_hold, hcl]; exact congrArg nI (by omega))) ?_
  refine Bod.ifF dc_254_43 rfl (k1_lt_F cl rfl (by omega)) ?_
  refine Bod.go dc_254_46 rfl ?_
  refine Bod.get dc_254_47 fr_254_150 (mk_52 _) rfl ?_
  refine Bod.eqI (nI cl) (by first | assumption | (simp (disch := omega) only [rI, rIe, rA, rIA, rLA, rJA, rVI, rQI, rVA, rQA, upd_at,  rAI, rLI, rJI, nI_add, pk_sub, kc_0, kc_1, kc_2, kc_3, kc_4, kc_5, reduceIte, Nat.reduceEqDiff, Nat.add_zero, rI_hold, rI_hold, rL_hold, hcl]; done) | (simp (disch := omega) only [rI, rIe, rA, rIA, rLA, rJA, rVI, rQI, rVA, rQA, upd_at,  rAI, rLI, rJI, nI_add, pk_sub, kc_0, kc_1, kc_2, kc_3, kc_4, kc_5, reduceIte, Nat.reduceEqDiff, Nat.add_zero, rI_hold, rI_hold, rL_hold, hcl]; exact congrArg nI (by omega))) ?_
  refine Bod.bip 30 (by decide) dc_254_50 ?_
  refine Bod.icT dc_254_52 rfl (k2_lt_T cl 30 rfl rfl (by omega) (by omega)) ?_
  refine Bod.go dc_254_58 rfl ?_
  refine Bod.get dc_254_59 fr_254_11 (mk_52 _) rfl ?_
  refine Bod.go dc_254_62 rfl ?_
  refine Bod.virt (r := []) dc_254_64 kr_254_320 ⟨Or.inr rfl, ow_256, cl_7⟩ (by rw [np_256]; rfl) (by rw [np_256]; rfl) (ob_of (mk_23 _)) (Nat.le_of_ble_eq_true rfl) (c3  ) ?_
  show Bod _ _ _ _ [_] _ _ _
  refine Bod.ist dc_254_67 (by rw [ml_254]; exact Nat.le_of_ble_eq_true rfl) ?_
  refine Bod.go dc_254_69 rfl ?_
  refine Bod.sip 300 (by decide) dc_254_71 ?_
  refine Bod.icT dc_254_74 rfl (k2_le_T a2 300 rfl rfl (by omega) (by omega)) ?_
  refine Bod.go dc_254_81 rfl ?_
  refine Bod.get dc_254_82 fr_254_15 (mk_52 _) rfl ?_
  refine Bod.bip 7 (by decide) dc_254_85 ?_
  refine Bod.virt (r := []) dc_254_87 kr_254_263 ⟨Or.inr rfl, ow_178, cl_2⟩ (by rw [np_178]; rfl) (by rw [np_178]; rfl) (ob_of (mk_2 _)) (Nat.le_of_ble_eq_true rfl) (c4  ) ?_
  show Bod _ _ _ _ [_] _ _ _
  refine Bod.ist dc_254_90 (by rw [ml_254]; exact Nat.le_of_ble_eq_true rfl) ?_
  refine Bod.go dc_254_92 rfl ?_
  refine Bod.ifT dc_254_94 rfl (k1_ne_T (k_ne a3 0 rfl rfl (by omega) (by omega) (by omega))) ?_
  refine Bod.go dc_254_100 rfl ?_
  refine Bod.get dc_254_101 fr_254_15 (mk_52 _) rfl ?_
  refine Bod.go dc_254_104 rfl ?_
  refine Bod.get dc_254_105 fr_254_15 (mk_52 _) rfl ?_
  refine Bod.get dc_254_108 fr_254_156 (mk_2 _) rfl ?_
  refine Bod.go dc_254_111 rfl ?_
  refine Bod.virt (r := []) dc_254_113 kr_254_301 ⟨Or.inr rfl, ow_149, cl_2⟩ (by rw [np_149]; rfl) (by rw [np_149]; rfl) (ob_of (mk_2 _)) (Nat.le_of_ble_eq_true rfl) (c5  ) ?_
  show Bod _ _ _ _ [] _ _ _
  refine Bod.go dc_254_116 rfl ?_
  refine Bod.get dc_254_117 fr_254_15 (mk_52 _) rfl ?_
  refine Bod.go dc_254_120 rfl ?_
  refine Bod.ic 0 (by decide) dc_254_122 ?_
  refine Bod.go dc_254_123 rfl ?_
  refine Bod.get dc_254_124 fr_254_15 (mk_52 _) rfl ?_
  refine Bod.go dc_254_127 rfl ?_
  refine Bod.virt (r := [_, _, _]) dc_254_128 kr_254_241 ⟨Or.inr rfl, ow_168, cl_2⟩ (by rw [np_168]; rfl) (by rw [np_168]; rfl) (ob_of (mk_2 _)) (Nat.le_of_ble_eq_true rfl) (c6  ) ?_
  show Bod _ _ _ _ [_, _, _, _] _ _ _
  refine Bod.ic 0 (by decide) dc_254_131 ?_
  refine Bod.virt (r := []) dc_254_132 kr_254_266 ⟨Or.inr rfl, ow_179, cl_2⟩ (by rw [np_179]; rfl) (by rw [np_179]; rfl) (ob_of (mk_2 _)) (Nat.le_of_ble_eq_true rfl) (c7  ) ?_
  show Bod _ _ _ _ [] _ _ _
  refine Bod.go dc_254_135 rfl ?_
  refine Bod.get dc_254_136 fr_254_15 (mk_52 _) rfl ?_
  refine Bod.go dc_254_139 rfl ?_
  refine Bod.go dc_254_141 rfl ?_
  refine Bod.virt (r := []) dc_254_143 kr_254_323 ⟨Or.inr rfl, ow_257, cl_2⟩ (by rw [np_257]; rfl) (by rw [np_257]; rfl) (ob_of (mk_2 _)) (Nat.le_of_ble_eq_true rfl) (c8  ) ?_
  show Bod _ _ _ _ [] _ _ _
  refine Bod.go dc_254_146 rfl ?_
  refine Bod.ifT dc_254_147 rfl (k1_eq_T (k_eq se 0 rfl rfl (by omega))) ?_
  refine Bod.ic 0 (by decide) dc_254_165 ?_
  refine Bod.ist dc_254_166 (by rw [ml_254]; exact Nat.le_of_ble_eq_true rfl) ?_
  exact hB _ (by first | rfl | exact (by repeat (first | exact rfl | exact sm_get_p1 | exact sm_get_p2e | refine sm_get_p1m (by decide) (by decide) ?_ | refine sm_get_p1n (by decide) rfl ?_ | refine sm_get_p2n (by decide) (by decide) rfl ?_))) (by first | rfl | exact (by repeat (first | exact rfl | exact sm_get_p1 | exact sm_get_p2e | refine sm_get_p1m (by decide) (by decide) ?_ | refine sm_get_p1n (by decide) rfl ?_ | refine sm_get_p2n (by decide) (by decide) rfl ?_))) (by first | rfl | exact (by repeat (first | exact rfl | exact sm_get_p1 | exact sm_get_p2e | refine sm_get_p1m (by decide) (by decide) ?_ | refine sm_get_p1n (by decide) rfl ?_ | refine sm_get_p2n (by decide) (by decide) rfl ?_))) (by first | rfl | exact (by repeat (first | exact rfl | exact sm_get_p1 | exact sm_get_p2e | refine sm_get_p1m (by decide) (by decide) ?_ | refine sm_get_p1n (by decide) rfl ?_ | refine sm_get_p2n (by decide) (by decide) rfl ?_))) (by first | rfl | exact (by repeat (first | exact rfl | exact sm_get_p1 | exact sm_get_p2e | refine sm_get_p1m (by decide) (by decide) ?_ | refine sm_get_p1n (by decide) rfl ?_ | refine sm_get_p2n (by decide) (by decide) rfl ?_))) (by first | rfl | exact (by repeat (first | exact rfl | exact sm_get_p1 | exact sm_get_p2e | refine sm_get_p1m (by decide) (by decide) ?_ | refine sm_get_p1n (by decide) rfl ?_ | refine sm_get_p2n (by decide) (by decide) rfl ?_))) (by first | rfl | exact (by repeat (first | exact rfl | exact sm_get_p1 | exact sm_get_p2e | refine sm_get_p1m (by decide) (by decide) ?_ | refine sm_get_p1n (by decide) rfl ?_ | refine sm_get_p2n (by decide) (by decide) rfl ?_)))
theorem mEnS_2 {d : Nat} {S Sf : cS} {v : Option Value} {fn : Nat} {gv : Nat} {se : Nat} {md : Nat} {S1 : cS} {a : Nat} {S2 : cS} {a1 : Nat} {cl : Nat} {S3 : cS} {a2 : Nat} {S4 : cS} {a3 : Nat} {S5 : cS} {S6 : cS} {a4 : Nat} {S7 : cS} {S8 : cS} {S9 : cS} (mfn : fn < 2 ^ 20) (mgv : gv < 2 ^ 20) (mse : se < 2 ^ 20) (mmd : md < 2 ^ 20) (ma : a < 2 ^ 20) (c1 : Ans (d + 8) 241 [.ref 2, .int (nI fn)] S (some (.int (nI a))) S1) (b1 : se ≠ 0) (ma1 : a1 < 2 ^ 20) (c2 : Ans (d + 8) 255 [.ref 23, .int (nI a)] S1 (some (.int (nI a1))) S2) (b2 : (gv + 1) = a1) (hcl : sI S2 5213 = nI cl) (mcl : cl < 31) (b3 : cl < 30) (ma2 : a2 < 2 ^ 20) (c3 : Ans (d + 8) 256 [.ref 23, .int (nI a)] S2 (some (.int (nI a2))) S3) (b4 : a2 ≤ 300) (ma3 : a3 < 2 ^ 20) (c4 : Ans (d + 8) 178 [.ref 2, .int (nI 7)] S3 (some (.int (nI a3))) S4) (b5 : a3 ≠ 0) (c5 : Ans (d + 8) 149 [.ref 2, .ref 6, .int (nI a3)] S4 none S5) (ma4 : a4 < 2 ^ 20) (c6 : Ans (d + 8) 168 [.ref 2, .int (nI fn)] S5 (some (.int (nI a4))) S6) (c7 : Ans (d + 8) 179 [.ref 2, .int (nI a3), .int (nI 0), .int (nI a4), .int (nI 0)] S6 none S7) (c8 : Ans (d + 8) 257 [.ref 2, .int (nI a3), .int (nI a2)] S7 none S8) (b6 : se ≠ 0) (c9 : Ans (d + 8) 260 [.ref 2, .int (nI a3), .int (nI 0), .long ((4611686018427387904)), .long ((nI se).toInt64)] S8 none S9) (hB : ∀ lv1 : sm_L, sm_get lv1 0 = some (.ref 52) → sm_get lv1 2 = some (.int (nI gv)) → sm_get lv1 4 = some (.int (nI md)) → sm_get lv1 5 = some (.int (nI a)) → sm_get lv1 6 = some (.int (nI 1)) → sm_get lv1 8 = some (.int (nI a3)) → sm_get lv1 9 = some (.int (nI 0)) → Bod (d + 8) 254 168 lv1 [] (S9) v Sf) : Bod (d + 8) 254 0 [(0, .ref 52), (1, .int (nI fn)), (2, .int (nI gv)), (3, .int (nI se)), (4, .int (nI md))] [] S v Sf := by
  refine Bod.go dc_254_0 rfl ?_
  refine Bod.get dc_254_1 fr_254_15 (mk_52 _) rfl ?_
  refine Bod.go dc_254_4 rfl ?_
  refine Bod.virt (r := []) dc_254_5 kr_254_314 ⟨Or.inr rfl, ow_241, cl_2⟩ (by rw [np_241]; rfl) (by rw [np_241]; rfl) (ob_of (mk_2 _)) (Nat.le_of_ble_eq_true rfl) (c1  ) ?_
  show Bod _ _ _ _ [_] _ _ _
  refine Bod.ist dc_254_8 (by rw [ml_254]; exact Nat.le_of_ble_eq_true rfl) ?_
  refine Bod.go dc_254_10 rfl ?_
  refine Bod.ifT dc_254_11 rfl (k1_ne_T (k_ne se 0 rfl rfl (by omega) (by omega) (by omega))) ?_
  refine Bod.ic 1 (by decide) dc_254_18 ?_
  refine Bod.ist dc_254_19 (by rw [ml_254]; exact Nat.le_of_ble_eq_true rfl) ?_
  refine Bod.go dc_254_21 rfl ?_
  refine Bod.go dc_254_22 rfl ?_
  refine Bod.addN (gv + 1) (by omega) dc_254_24 ?_
  refine Bod.go dc_254_25 rfl ?_
  refine Bod.get dc_254_26 fr_254_11 (mk_52 _) rfl ?_
  refine Bod.go dc_254_29 rfl ?_
  refine Bod.virt (r := [_]) dc_254_31 kr_254_317 ⟨Or.inr rfl, ow_255, cl_7⟩ (by rw [np_255]; rfl) (by rw [np_255]; rfl) (ob_of (mk_23 _)) (Nat.le_of_ble_eq_true rfl) (c2  ) ?_
  show Bod _ _ _ _ [_, _] _ _ _
  refine Bod.icT dc_254_34 rfl (k2_eq_T (k_eq (gv + 1) a1 rfl rfl (by omega))) ?_
  refine Bod.go dc_254_39 rfl ?_
  refine Bod.get dc_254_40 fr_254_150 (mk_52 _) rfl ?_
  refine Bod.eqI (nI cl) (by first | assumption | (simp (disch := omega) only [rI, rIe, rA, rIA, rLA, rJA, rVI, rQI, rVA, rQA, upd_at,  rAI, rLI, rJI, nI_add, pk_sub, kc_0, kc_1, kc_2, kc_3, kc_4, kc_5, reduceIte, Nat.reduceEqDiff, Nat.add_zero, rI_hold, rI_hold, rL_hold, hcl]; done) | (simp (disch := omega) only [rI, rIe, rA, rIA, rLA, rJA, rVI, rQI, rVA, rQA, upd_at,  rAI, rLI, rJI, nI_add, pk_sub, kc_0, kc_1, kc_2, kc_3, kc_4, kc_5, reduceIte, Nat.reduceEqDiff, Nat.add_zero, rI_hold, rI_hold, rL_hold, hcl]; exact congrArg nI (by omega))) ?_
  refine Bod.ifF dc_254_43 rfl (k1_lt_F cl rfl (by omega)) ?_
  refine Bod.go dc_254_46 rfl ?_
  refine Bod.get dc_254_47 fr_254_150 (mk_52 _) rfl ?_
  refine Bod.eqI (nI cl) (by first | assumption | (simp (disch := omega) only [rI, rIe, rA, rIA, rLA, rJA, rVI, rQI, rVA, rQA, upd_at,  rAI, rLI, rJI, nI_add, pk_sub, kc_0, kc_1, kc_2, kc_3, kc_4, kc_5, reduceIte, Nat.reduceEqDiff, Nat.add_zero, rI_hold, rI_hold, rL_hold, hcl]; done) | (simp (disch := omega) only [rI, rIe, rA, rIA, rLA, rJA, rVI, rQI, rVA, rQA, upd_at,  rAI, rLI, rJI, nI_add, pk_sub, kc_0, kc_1, kc_2, kc_3, kc_4, kc_5, reduceIte, Nat.reduceEqDiff, Nat.add_zero, rI_hold, rI_hold, rL_hold, hcl]; exact congrArg nI (by omega))) ?_
  refine Bod.bip 30 (by decide) dc_254_50 ?_
  refine Bod.icT dc_254_52 rfl (k2_lt_T cl 30 rfl rfl (by omega) (by omega)) ?_
  refine Bod.go dc_254_58 rfl ?_
  refine Bod.get dc_254_59 fr_254_11 (mk_52 _) rfl ?_
  refine Bod.go dc_254_62 rfl ?_
  refine Bod.virt (r := []) dc_254_64 kr_254_320 ⟨Or.inr rfl, ow_256, cl_7⟩ (by rw [np_256]; rfl) (by rw [np_256]; rfl) (ob_of (mk_23 _)) (Nat.le_of_ble_eq_true rfl) (c3  ) ?_
  show Bod _ _ _ _ [_] _ _ _
  refine Bod.ist dc_254_67 (by rw [ml_254]; exact Nat.le_of_ble_eq_true rfl) ?_
  refine Bod.go dc_254_69 rfl ?_
  refine Bod.sip 300 (by decide) dc_254_71 ?_
  refine Bod.icT dc_254_74 rfl (k2_le_T a2 300 rfl rfl (by omega) (by omega)) ?_
  refine Bod.go dc_254_81 rfl ?_
  refine Bod.get dc_254_82 fr_254_15 (mk_52 _) rfl ?_
  refine Bod.bip 7 (by decide) dc_254_85 ?_
  refine Bod.virt (r := []) dc_254_87 kr_254_263 ⟨Or.inr rfl, ow_178, cl_2⟩ (by rw [np_178]; rfl) (by rw [np_178]; rfl) (ob_of (mk_2 _)) (Nat.le_of_ble_eq_true rfl) (c4  ) ?_
  show Bod _ _ _ _ [_] _ _ _
  refine Bod.ist dc_254_90 (by rw [ml_254]; exact Nat.le_of_ble_eq_true rfl) ?_
  refine Bod.go dc_254_92 rfl ?_
  refine Bod.ifT dc_254_94 rfl (k1_ne_T (k_ne a3 0 rfl rfl (by omega) (by omega) (by omega))) ?_
  refine Bod.go dc_254_100 rfl ?_
  refine Bod.get dc_254_101 fr_254_15 (mk_52 _) rfl ?_
  refine Bod.go dc_254_104 rfl ?_
  refine Bod.get dc_254_105 fr_254_15 (mk_52 _) rfl ?_
  refine Bod.get dc_254_108 fr_254_156 (mk_2 _) rfl ?_
  refine Bod.go dc_254_111 rfl ?_
  refine Bod.virt (r := []) dc_254_113 kr_254_301 ⟨Or.inr rfl, ow_149, cl_2⟩ (by rw [np_149]; rfl) (by rw [np_149]; rfl) (ob_of (mk_2 _)) (Nat.le_of_ble_eq_true rfl) (c5  ) ?_
  show Bod _ _ _ _ [] _ _ _
  refine Bod.go dc_254_116 rfl ?_
  refine Bod.get dc_254_117 fr_254_15 (mk_52 _) rfl ?_
  refine Bod.go dc_254_120 rfl ?_
  refine Bod.ic 0 (by decide) dc_254_122 ?_
  refine Bod.go dc_254_123 rfl ?_
  refine Bod.get dc_254_124 fr_254_15 (mk_52 _) rfl ?_
  refine Bod.go dc_254_127 rfl ?_
  refine Bod.virt (r := [_, _, _]) dc_254_128 kr_254_241 ⟨Or.inr rfl, ow_168, cl_2⟩ (by rw [np_168]; rfl) (by rw [np_168]; rfl) (ob_of (mk_2 _)) (Nat.le_of_ble_eq_true rfl) (c6  ) ?_
  show Bod _ _ _ _ [_, _, _, _] _ _ _
  refine Bod.ic 0 (by decide) dc_254_131 ?_
  refine Bod.virt (r := []) dc_254_132 kr_254_266 ⟨Or.inr rfl, ow_179, cl_2⟩ (by rw [np_179]; rfl) (by rw [np_179]; rfl) (ob_of (mk_2 _)) (Nat.le_of_ble_eq_true rfl) (c7  ) ?_
  show Bod _ _ _ _ [] _ _ _
  refine Bod.go dc_254_135 rfl ?_
  refine Bod.get dc_254_136 fr_254_15 (mk_52 _) rfl ?_
  refine Bod.go dc_254_139 rfl ?_
  refine Bod.go dc_254_141 rfl ?_
  refine Bod.virt (r := []) dc_254_143 kr_254_323 ⟨Or.inr rfl, ow_257, cl_2⟩ (by rw [np_257]; rfl) (by rw [np_257]; rfl) (ob_of (mk_2 _)) (Nat.le_of_ble_eq_true rfl) (c8  ) ?_
  show Bod _ _ _ _ [] _ _ _
  refine Bod.go dc_254_146 rfl ?_
  refine Bod.ifF dc_254_147 rfl (k1_eq_F (k_ne se 0 rfl rfl (by omega) (by omega) (by omega))) ?_
  refine Bod.go dc_254_150 rfl ?_
  refine Bod.get dc_254_151 fr_254_15 (mk_52 _) rfl ?_
  refine Bod.go dc_254_154 rfl ?_
  refine Bod.ic 0 (by decide) dc_254_156 ?_
  refine Bod.ldc2 dc_254_157 cj_254_270 ?_
  refine Bod.go dc_254_160 rfl ?_
  refine Bod.go dc_254_161 rfl ?_
  refine Bod.virt (r := []) dc_254_162 kr_254_327 ⟨Or.inr rfl, ow_260, cl_2⟩ (by rw [np_260]; rfl) (by rw [np_260]; rfl) (ob_of (mk_2 _)) (Nat.le_of_ble_eq_true rfl) (c9  ) ?_
  show Bod _ _ _ _ [] _ _ _
  refine Bod.ic 0 (by decide) dc_254_165 ?_
  refine Bod.ist dc_254_166 (by rw [ml_254]; exact Nat.le_of_ble_eq_true rfl) ?_
  exact hB _ (by first | rfl | exact (by repeat (first | exact rfl | exact sm_get_p1 | exact sm_get_p2e | refine sm_get_p1m (by decide) (by decide) ?_ | refine sm_get_p1n (by decide) rfl ?_ | refine sm_get_p2n (by decide) (by decide) rfl ?_))) (by first | rfl | exact (by repeat (first | exact rfl | exact sm_get_p1 | exact sm_get_p2e | refine sm_get_p1m (by decide) (by decide) ?_ | refine sm_get_p1n (by decide) rfl ?_ | refine sm_get_p2n (by decide) (by decide) rfl ?_))) (by first | rfl | exact (by repeat (first | exact rfl | exact sm_get_p1 | exact sm_get_p2e | refine sm_get_p1m (by decide) (by decide) ?_ | refine sm_get_p1n (by decide) rfl ?_ | refine sm_get_p2n (by decide) (by decide) rfl ?_))) (by first | rfl | exact (by repeat (first | exact rfl | exact sm_get_p1 | exact sm_get_p2e | refine sm_get_p1m (by decide) (by decide) ?_ | refine sm_get_p1n (by decide) rfl ?_ | refine sm_get_p2n (by decide) (by decide) rfl ?_))) (by first | rfl | exact (by repeat (first | exact rfl | exact sm_get_p1 | exact sm_get_p2e | refine sm_get_p1m (by decide) (by decide) ?_ | refine sm_get_p1n (by decide) rfl ?_ | refine sm_get_p2n (by decide) (by decide) rfl ?_))) (by first | rfl | exact (by repeat (first | exact rfl | exact sm_get_p1 | exact sm_get_p2e | refine sm_get_p1m (by decide) (by decide) ?_ | refine sm_get_p1n (by decide) rfl ?_ | refine sm_get_p2n (by decide) (by decide) rfl ?_))) (by first | rfl | exact (by repeat (first | exact rfl | exact sm_get_p1 | exact sm_get_p2e | refine sm_get_p1m (by decide) (by decide) ?_ | refine sm_get_p1n (by decide) rfl ?_ | refine sm_get_p2n (by decide) (by decide) rfl ?_)))
theorem mEnS_3 {d : Nat} {S : cS} {fn : Nat} {gv : Nat} {se : Nat} {md : Nat} {S1 : cS} {a : Nat} {S2 : cS} {a1 : Nat} {cl : Nat} {S3 : cS} {a2 : Nat} {S4 : cS} {a3 : Nat} (mfn : fn < 2 ^ 20) (mgv : gv < 2 ^ 20) (mse : se < 2 ^ 20) (mmd : md < 2 ^ 20) (ma : a < 2 ^ 20) (c1 : Ans (d + 8) 241 [.ref 2, .int (nI fn)] S (some (.int (nI a))) S1) (b1 : se ≠ 0) (ma1 : a1 < 2 ^ 20) (c2 : Ans (d + 8) 255 [.ref 23, .int (nI a)] S1 (some (.int (nI a1))) S2) (b2 : (gv + 1) = a1) (hcl : sI S2 5213 = nI cl) (mcl : cl < 31) (b3 : cl < 30) (ma2 : a2 < 2 ^ 20) (c3 : Ans (d + 8) 256 [.ref 23, .int (nI a)] S2 (some (.int (nI a2))) S3) (b4 : a2 ≤ 300) (ma3 : a3 < 2 ^ 20) (c4 : Ans (d + 8) 178 [.ref 2, .int (nI 7)] S3 (some (.int (nI a3))) S4) (b5 : a3 = 0) : Bod (d + 8) 254 0 [(0, .ref 52), (1, .int (nI fn)), (2, .int (nI gv)), (3, .int (nI se)), (4, .int (nI md))] [] S (some (.int (nI 8))) (S4) := by
  refine Bod.go dc_254_0 rfl ?_
  refine Bod.get dc_254_1 fr_254_15 (mk_52 _) rfl ?_
  refine Bod.go dc_254_4 rfl ?_
  refine Bod.virt (r := []) dc_254_5 kr_254_314 ⟨Or.inr rfl, ow_241, cl_2⟩ (by rw [np_241]; rfl) (by rw [np_241]; rfl) (ob_of (mk_2 _)) (Nat.le_of_ble_eq_true rfl) (c1  ) ?_
  show Bod _ _ _ _ [_] _ _ _
  refine Bod.ist dc_254_8 (by rw [ml_254]; exact Nat.le_of_ble_eq_true rfl) ?_
  refine Bod.go dc_254_10 rfl ?_
  refine Bod.ifT dc_254_11 rfl (k1_ne_T (k_ne se 0 rfl rfl (by omega) (by omega) (by omega))) ?_
  refine Bod.ic 1 (by decide) dc_254_18 ?_
  refine Bod.ist dc_254_19 (by rw [ml_254]; exact Nat.le_of_ble_eq_true rfl) ?_
  refine Bod.go dc_254_21 rfl ?_
  refine Bod.go dc_254_22 rfl ?_
  refine Bod.addN (gv + 1) (by omega) dc_254_24 ?_
  refine Bod.go dc_254_25 rfl ?_
  refine Bod.get dc_254_26 fr_254_11 (mk_52 _) rfl ?_
  refine Bod.go dc_254_29 rfl ?_
  refine Bod.virt (r := [_]) dc_254_31 kr_254_317 ⟨Or.inr rfl, ow_255, cl_7⟩ (by rw [np_255]; rfl) (by rw [np_255]; rfl) (ob_of (mk_23 _)) (Nat.le_of_ble_eq_true rfl) (c2  ) ?_
  show Bod _ _ _ _ [_, _] _ _ _
  refine Bod.icT dc_254_34 rfl (k2_eq_T (k_eq (gv + 1) a1 rfl rfl (by omega))) ?_
  refine Bod.go dc_254_39 rfl ?_
  refine Bod.get dc_254_40 fr_254_150 (mk_52 _) rfl ?_
  refine Bod.eqI (nI cl) (by first | assumption | (simp (disch := omega) only [rI, rIe, rA, rIA, rLA, rJA, rVI, rQI, rVA, rQA, upd_at,  rAI, rLI, rJI, nI_add, pk_sub, kc_0, kc_1, kc_2, kc_3, kc_4, kc_5, reduceIte, Nat.reduceEqDiff, Nat.add_zero, rI_hold, rI_hold, rL_hold, hcl]; done) | (simp (disch := omega) only [rI, rIe, rA, rIA, rLA, rJA, rVI, rQI, rVA, rQA, upd_at,  rAI, rLI, rJI, nI_add, pk_sub, kc_0, kc_1, kc_2, kc_3, kc_4, kc_5, reduceIte, Nat.reduceEqDiff, Nat.add_zero, rI_hold, rI_hold, rL_hold, hcl]; exact congrArg nI (by omega))) ?_
  refine Bod.ifF dc_254_43 rfl (k1_lt_F cl rfl (by omega)) ?_
  refine Bod.go dc_254_46 rfl ?_
  refine Bod.get dc_254_47 fr_254_150 (mk_52 _) rfl ?_
  refine Bod.eqI (nI cl) (by first | assumption | (simp (disch := omega) only [rI, rIe, rA, rIA, rLA, rJA, rVI, rQI, rVA, rQA, upd_at,  rAI, rLI, rJI, nI_add, pk_sub, kc_0, kc_1, kc_2, kc_3, kc_4, kc_5, reduceIte, Nat.reduceEqDiff, Nat.add_zero, rI_hold, rI_hold, rL_hold, hcl]; done) | (simp (disch := omega) only [rI, rIe, rA, rIA, rLA, rJA, rVI, rQI, rVA, rQA, upd_at,  rAI, rLI, rJI, nI_add, pk_sub, kc_0, kc_1, kc_2, kc_3, kc_4, kc_5, reduceIte, Nat.reduceEqDiff, Nat.add_zero, rI_hold, rI_hold, rL_hold, hcl]; exact congrArg nI (by omega))) ?_
  refine Bod.bip 30 (by decide) dc_254_50 ?_
  refine Bod.icT dc_254_52 rfl (k2_lt_T cl 30 rfl rfl (by omega) (by omega)) ?_
  refine Bod.go dc_254_58 rfl ?_
  refine Bod.get dc_254_59 fr_254_11 (mk_52 _) rfl ?_
  refine Bod.go dc_254_62 rfl ?_
  refine Bod.virt (r := []) dc_254_64 kr_254_320 ⟨Or.inr rfl, ow_256, cl_7⟩ (by rw [np_256]; rfl) (by rw [np_256]; rfl) (ob_of (mk_23 _)) (Nat.le_of_ble_eq_true rfl) (c3  ) ?_
  show Bod _ _ _ _ [_] _ _ _
  refine Bod.ist dc_254_67 (by rw [ml_254]; exact Nat.le_of_ble_eq_true rfl) ?_
  refine Bod.go dc_254_69 rfl ?_
  refine Bod.sip 300 (by decide) dc_254_71 ?_
  refine Bod.icT dc_254_74 rfl (k2_le_T a2 300 rfl rfl (by omega) (by omega)) ?_
  refine Bod.go dc_254_81 rfl ?_
  refine Bod.get dc_254_82 fr_254_15 (mk_52 _) rfl ?_
  refine Bod.bip 7 (by decide) dc_254_85 ?_
  refine Bod.virt (r := []) dc_254_87 kr_254_263 ⟨Or.inr rfl, ow_178, cl_2⟩ (by rw [np_178]; rfl) (by rw [np_178]; rfl) (ob_of (mk_2 _)) (Nat.le_of_ble_eq_true rfl) (c4  ) ?_
  show Bod _ _ _ _ [_] _ _ _
  refine Bod.ist dc_254_90 (by rw [ml_254]; exact Nat.le_of_ble_eq_true rfl) ?_
  refine Bod.go dc_254_92 rfl ?_
  refine Bod.ifF dc_254_94 rfl (k1_ne_F (k_eq a3 0 rfl rfl (by omega))) ?_
  refine Bod.bip 8 (by decide) dc_254_97 ?_
  exact Bod.retI dc_254_99 rt_254
theorem mEnS_4 {d : Nat} {S : cS} {fn : Nat} {gv : Nat} {se : Nat} {md : Nat} {S1 : cS} {a : Nat} {S2 : cS} {a1 : Nat} {cl : Nat} {S3 : cS} {a2 : Nat} (mfn : fn < 2 ^ 20) (mgv : gv < 2 ^ 20) (mse : se < 2 ^ 20) (mmd : md < 2 ^ 20) (ma : a < 2 ^ 20) (c1 : Ans (d + 8) 241 [.ref 2, .int (nI fn)] S (some (.int (nI a))) S1) (b1 : se ≠ 0) (ma1 : a1 < 2 ^ 20) (c2 : Ans (d + 8) 255 [.ref 23, .int (nI a)] S1 (some (.int (nI a1))) S2) (b2 : (gv + 1) = a1) (hcl : sI S2 5213 = nI cl) (mcl : cl < 31) (b3 : cl < 30) (ma2 : a2 < 2 ^ 20) (c3 : Ans (d + 8) 256 [.ref 23, .int (nI a)] S2 (some (.int (nI a2))) S3) (b4 : 300 < a2) : Bod (d + 8) 254 0 [(0, .ref 52), (1, .int (nI fn)), (2, .int (nI gv)), (3, .int (nI se)), (4, .int (nI md))] [] S (some (.int (nI 8))) (S3) := by
  refine Bod.go dc_254_0 rfl ?_
  refine Bod.get dc_254_1 fr_254_15 (mk_52 _) rfl ?_
  refine Bod.go dc_254_4 rfl ?_
  refine Bod.virt (r := []) dc_254_5 kr_254_314 ⟨Or.inr rfl, ow_241, cl_2⟩ (by rw [np_241]; rfl) (by rw [np_241]; rfl) (ob_of (mk_2 _)) (Nat.le_of_ble_eq_true rfl) (c1  ) ?_
  show Bod _ _ _ _ [_] _ _ _
  refine Bod.ist dc_254_8 (by rw [ml_254]; exact Nat.le_of_ble_eq_true rfl) ?_
  refine Bod.go dc_254_10 rfl ?_
  refine Bod.ifT dc_254_11 rfl (k1_ne_T (k_ne se 0 rfl rfl (by omega) (by omega) (by omega))) ?_
  refine Bod.ic 1 (by decide) dc_254_18 ?_
  refine Bod.ist dc_254_19 (by rw [ml_254]; exact Nat.le_of_ble_eq_true rfl) ?_
  refine Bod.go dc_254_21 rfl ?_
  refine Bod.go dc_254_22 rfl ?_
  refine Bod.addN (gv + 1) (by omega) dc_254_24 ?_
  refine Bod.go dc_254_25 rfl ?_
  refine Bod.get dc_254_26 fr_254_11 (mk_52 _) rfl ?_
  refine Bod.go dc_254_29 rfl ?_
  refine Bod.virt (r := [_]) dc_254_31 kr_254_317 ⟨Or.inr rfl, ow_255, cl_7⟩ (by rw [np_255]; rfl) (by rw [np_255]; rfl) (ob_of (mk_23 _)) (Nat.le_of_ble_eq_true rfl) (c2  ) ?_
  show Bod _ _ _ _ [_, _] _ _ _
  refine Bod.icT dc_254_34 rfl (k2_eq_T (k_eq (gv + 1) a1 rfl rfl (by omega))) ?_
  refine Bod.go dc_254_39 rfl ?_
  refine Bod.get dc_254_40 fr_254_150 (mk_52 _) rfl ?_
  refine Bod.eqI (nI cl) (by first | assumption | (simp (disch := omega) only [rI, rIe, rA, rIA, rLA, rJA, rVI, rQI, rVA, rQA, upd_at,  rAI, rLI, rJI, nI_add, pk_sub, kc_0, kc_1, kc_2, kc_3, kc_4, kc_5, reduceIte, Nat.reduceEqDiff, Nat.add_zero, rI_hold, rI_hold, rL_hold, hcl]; done) | (simp (disch := omega) only [rI, rIe, rA, rIA, rLA, rJA, rVI, rQI, rVA, rQA, upd_at,  rAI, rLI, rJI, nI_add, pk_sub, kc_0, kc_1, kc_2, kc_3, kc_4, kc_5, reduceIte, Nat.reduceEqDiff, Nat.add_zero, rI_hold, rI_hold, rL_hold, hcl]; exact congrArg nI (by omega))) ?_
  refine Bod.ifF dc_254_43 rfl (k1_lt_F cl rfl (by omega)) ?_
  refine Bod.go dc_254_46 rfl ?_
  refine Bod.get dc_254_47 fr_254_150 (mk_52 _) rfl ?_
  refine Bod.eqI (nI cl) (by first | assumption | (simp (disch := omega) only [rI, rIe, rA, rIA, rLA, rJA, rVI, rQI, rVA, rQA, upd_at,  rAI, rLI, rJI, nI_add, pk_sub, kc_0, kc_1, kc_2, kc_3, kc_4, kc_5, reduceIte, Nat.reduceEqDiff, Nat.add_zero, rI_hold, rI_hold, rL_hold, hcl]; done) | (simp (disch := omega) only [rI, rIe, rA, rIA, rLA, rJA, rVI, rQI, rVA, rQA, upd_at,  rAI, rLI, rJI, nI_add, pk_sub, kc_0, kc_1, kc_2, kc_3, kc_4, kc_5, reduceIte, Nat.reduceEqDiff, Nat.add_zero, rI_hold, rI_hold, rL_hold, hcl]; exact congrArg nI (by omega))) ?_
  refine Bod.bip 30 (by decide) dc_254_50 ?_
  refine Bod.icT dc_254_52 rfl (k2_lt_T cl 30 rfl rfl (by omega) (by omega)) ?_
  refine Bod.go dc_254_58 rfl ?_
  refine Bod.get dc_254_59 fr_254_11 (mk_52 _) rfl ?_
  refine Bod.go dc_254_62 rfl ?_
  refine Bod.virt (r := []) dc_254_64 kr_254_320 ⟨Or.inr rfl, ow_256, cl_7⟩ (by rw [np_256]; rfl) (by rw [np_256]; rfl) (ob_of (mk_23 _)) (Nat.le_of_ble_eq_true rfl) (c3  ) ?_
  show Bod _ _ _ _ [_] _ _ _
  refine Bod.ist dc_254_67 (by rw [ml_254]; exact Nat.le_of_ble_eq_true rfl) ?_
  refine Bod.go dc_254_69 rfl ?_
  refine Bod.sip 300 (by decide) dc_254_71 ?_
  refine Bod.icF dc_254_74 rfl (k2_le_F a2 300 rfl rfl (by omega) (by omega)) ?_
  refine Bod.ic 0 (by decide) dc_254_77 ?_
  refine Bod.go dc_254_78 rfl ?_
  refine Bod.ist dc_254_90 (by rw [ml_254]; exact Nat.le_of_ble_eq_true rfl) ?_
  refine Bod.go dc_254_92 rfl ?_
  refine Bod.ifF dc_254_94 rfl (k1_ne_F (k_eq 0 0 rfl rfl (by omega))) ?_
  refine Bod.bip 8 (by decide) dc_254_97 ?_
  exact Bod.retI dc_254_99 rt_254
theorem mEnS_5 {d : Nat} {S : cS} {fn : Nat} {gv : Nat} {se : Nat} {md : Nat} {S1 : cS} {a : Nat} {S2 : cS} {a1 : Nat} {cl : Nat} (mfn : fn < 2 ^ 20) (mgv : gv < 2 ^ 20) (mse : se < 2 ^ 20) (mmd : md < 2 ^ 20) (ma : a < 2 ^ 20) (c1 : Ans (d + 8) 241 [.ref 2, .int (nI fn)] S (some (.int (nI a))) S1) (b1 : se ≠ 0) (ma1 : a1 < 2 ^ 20) (c2 : Ans (d + 8) 255 [.ref 23, .int (nI a)] S1 (some (.int (nI a1))) S2) (b2 : (gv + 1) = a1) (hcl : sI S2 5213 = nI cl) (mcl : cl < 31) (b3 : 30 ≤ cl) : Bod (d + 8) 254 0 [(0, .ref 52), (1, .int (nI fn)), (2, .int (nI gv)), (3, .int (nI se)), (4, .int (nI md))] [] S (some (.int (nI 7))) (S2) := by
  refine Bod.go dc_254_0 rfl ?_
  refine Bod.get dc_254_1 fr_254_15 (mk_52 _) rfl ?_
  refine Bod.go dc_254_4 rfl ?_
  refine Bod.virt (r := []) dc_254_5 kr_254_314 ⟨Or.inr rfl, ow_241, cl_2⟩ (by rw [np_241]; rfl) (by rw [np_241]; rfl) (ob_of (mk_2 _)) (Nat.le_of_ble_eq_true rfl) (c1  ) ?_
  show Bod _ _ _ _ [_] _ _ _
  refine Bod.ist dc_254_8 (by rw [ml_254]; exact Nat.le_of_ble_eq_true rfl) ?_
  refine Bod.go dc_254_10 rfl ?_
  refine Bod.ifT dc_254_11 rfl (k1_ne_T (k_ne se 0 rfl rfl (by omega) (by omega) (by omega))) ?_
  refine Bod.ic 1 (by decide) dc_254_18 ?_
  refine Bod.ist dc_254_19 (by rw [ml_254]; exact Nat.le_of_ble_eq_true rfl) ?_
  refine Bod.go dc_254_21 rfl ?_
  refine Bod.go dc_254_22 rfl ?_
  refine Bod.addN (gv + 1) (by omega) dc_254_24 ?_
  refine Bod.go dc_254_25 rfl ?_
  refine Bod.get dc_254_26 fr_254_11 (mk_52 _) rfl ?_
  refine Bod.go dc_254_29 rfl ?_
  refine Bod.virt (r := [_]) dc_254_31 kr_254_317 ⟨Or.inr rfl, ow_255, cl_7⟩ (by rw [np_255]; rfl) (by rw [np_255]; rfl) (ob_of (mk_23 _)) (Nat.le_of_ble_eq_true rfl) (c2  ) ?_
  show Bod _ _ _ _ [_, _] _ _ _
  refine Bod.icT dc_254_34 rfl (k2_eq_T (k_eq (gv + 1) a1 rfl rfl (by omega))) ?_
  refine Bod.go dc_254_39 rfl ?_
  refine Bod.get dc_254_40 fr_254_150 (mk_52 _) rfl ?_
  refine Bod.eqI (nI cl) (by first | assumption | (simp (disch := omega) only [rI, rIe, rA, rIA, rLA, rJA, rVI, rQI, rVA, rQA, upd_at,  rAI, rLI, rJI, nI_add, pk_sub, kc_0, kc_1, kc_2, kc_3, kc_4, kc_5, reduceIte, Nat.reduceEqDiff, Nat.add_zero, rI_hold, rI_hold, rL_hold, hcl]; done) | (simp (disch := omega) only [rI, rIe, rA, rIA, rLA, rJA, rVI, rQI, rVA, rQA, upd_at,  rAI, rLI, rJI, nI_add, pk_sub, kc_0, kc_1, kc_2, kc_3, kc_4, kc_5, reduceIte, Nat.reduceEqDiff, Nat.add_zero, rI_hold, rI_hold, rL_hold, hcl]; exact congrArg nI (by omega))) ?_
  refine Bod.ifF dc_254_43 rfl (k1_lt_F cl rfl (by omega)) ?_
  refine Bod.go dc_254_46 rfl ?_
  refine Bod.get dc_254_47 fr_254_150 (mk_52 _) rfl ?_
  refine Bod.eqI (nI cl) (by first | assumption | (simp (disch := omega) only [rI, rIe, rA, rIA, rLA, rJA, rVI, rQI, rVA, rQA, upd_at,  rAI, rLI, rJI, nI_add, pk_sub, kc_0, kc_1, kc_2, kc_3, kc_4, kc_5, reduceIte, Nat.reduceEqDiff, Nat.add_zero, rI_hold, rI_hold, rL_hold, hcl]; done) | (simp (disch := omega) only [rI, rIe, rA, rIA, rLA, rJA, rVI, rQI, rVA, rQA, upd_at,  rAI, rLI, rJI, nI_add, pk_sub, kc_0, kc_1, kc_2, kc_3, kc_4, kc_5, reduceIte, Nat.reduceEqDiff, Nat.add_zero, rI_hold, rI_hold, rL_hold, hcl]; exact congrArg nI (by omega))) ?_
  refine Bod.bip 30 (by decide) dc_254_50 ?_
  refine Bod.icF dc_254_52 rfl (k2_lt_F cl 30 rfl rfl (by omega) (by omega)) ?_
  refine Bod.bip 7 (by decide) dc_254_55 ?_
  exact Bod.retI dc_254_57 rt_254
theorem mEnS_6 {d : Nat} {S : cS} {fn : Nat} {gv : Nat} {se : Nat} {md : Nat} {S1 : cS} {a : Nat} {S2 : cS} {a1 : Nat} (mfn : fn < 2 ^ 20) (mgv : gv < 2 ^ 20) (mse : se < 2 ^ 20) (mmd : md < 2 ^ 20) (ma : a < 2 ^ 20) (c1 : Ans (d + 8) 241 [.ref 2, .int (nI fn)] S (some (.int (nI a))) S1) (b1 : se ≠ 0) (ma1 : a1 < 2 ^ 20) (c2 : Ans (d + 8) 255 [.ref 23, .int (nI a)] S1 (some (.int (nI a1))) S2) (b2 : (gv + 1) ≠ a1) : Bod (d + 8) 254 0 [(0, .ref 52), (1, .int (nI fn)), (2, .int (nI gv)), (3, .int (nI se)), (4, .int (nI md))] [] S (some (.int (nI 2))) (S2) := by
  refine Bod.go dc_254_0 rfl ?_
  refine Bod.get dc_254_1 fr_254_15 (mk_52 _) rfl ?_
  refine Bod.go dc_254_4 rfl ?_
  refine Bod.virt (r := []) dc_254_5 kr_254_314 ⟨Or.inr rfl, ow_241, cl_2⟩ (by rw [np_241]; rfl) (by rw [np_241]; rfl) (ob_of (mk_2 _)) (Nat.le_of_ble_eq_true rfl) (c1  ) ?_
  show Bod _ _ _ _ [_] _ _ _
  refine Bod.ist dc_254_8 (by rw [ml_254]; exact Nat.le_of_ble_eq_true rfl) ?_
  refine Bod.go dc_254_10 rfl ?_
  refine Bod.ifT dc_254_11 rfl (k1_ne_T (k_ne se 0 rfl rfl (by omega) (by omega) (by omega))) ?_
  refine Bod.ic 1 (by decide) dc_254_18 ?_
  refine Bod.ist dc_254_19 (by rw [ml_254]; exact Nat.le_of_ble_eq_true rfl) ?_
  refine Bod.go dc_254_21 rfl ?_
  refine Bod.go dc_254_22 rfl ?_
  refine Bod.addN (gv + 1) (by omega) dc_254_24 ?_
  refine Bod.go dc_254_25 rfl ?_
  refine Bod.get dc_254_26 fr_254_11 (mk_52 _) rfl ?_
  refine Bod.go dc_254_29 rfl ?_
  refine Bod.virt (r := [_]) dc_254_31 kr_254_317 ⟨Or.inr rfl, ow_255, cl_7⟩ (by rw [np_255]; rfl) (by rw [np_255]; rfl) (ob_of (mk_23 _)) (Nat.le_of_ble_eq_true rfl) (c2  ) ?_
  show Bod _ _ _ _ [_, _] _ _ _
  refine Bod.icF dc_254_34 rfl (k2_eq_F (k_ne (gv + 1) a1 rfl rfl (by omega) (by omega) (by omega))) ?_
  refine Bod.ic 2 (by decide) dc_254_37 ?_
  exact Bod.retI dc_254_38 rt_254
theorem mEnS_7 {d : Nat} {S Sf : cS} {v : Option Value} {fn : Nat} {gv : Nat} {se : Nat} {md : Nat} {S1 : cS} {a : Nat} {S2 : cS} {a1 : Nat} {cl : Nat} {S3 : cS} {a2 : Nat} {S4 : cS} {a3 : Nat} {S5 : cS} {S6 : cS} {a4 : Nat} {S7 : cS} {S8 : cS} (mfn : fn < 2 ^ 20) (mgv : gv < 2 ^ 20) (mse : se < 2 ^ 20) (mmd : md < 2 ^ 20) (ma : a < 2 ^ 20) (c1 : Ans (d + 8) 241 [.ref 2, .int (nI fn)] S (some (.int (nI a))) S1) (b1 : se = 0) (ma1 : a1 < 2 ^ 20) (c2 : Ans (d + 8) 255 [.ref 23, .int (nI a)] S1 (some (.int (nI a1))) S2) (b2 : gv = a1) (hcl : sI S2 5213 = nI cl) (mcl : cl < 31) (b3 : cl < 30) (ma2 : a2 < 2 ^ 20) (c3 : Ans (d + 8) 256 [.ref 23, .int (nI a)] S2 (some (.int (nI a2))) S3) (b4 : a2 ≤ 300) (ma3 : a3 < 2 ^ 20) (c4 : Ans (d + 8) 178 [.ref 2, .int (nI 7)] S3 (some (.int (nI a3))) S4) (b5 : a3 ≠ 0) (c5 : Ans (d + 8) 149 [.ref 2, .ref 6, .int (nI a3)] S4 none S5) (ma4 : a4 < 2 ^ 20) (c6 : Ans (d + 8) 168 [.ref 2, .int (nI fn)] S5 (some (.int (nI a4))) S6) (c7 : Ans (d + 8) 179 [.ref 2, .int (nI a3), .int (nI 0), .int (nI a4), .int (nI 0)] S6 none S7) (c8 : Ans (d + 8) 257 [.ref 2, .int (nI a3), .int (nI a2)] S7 none S8) (b6 : se = 0) (hB : ∀ lv1 : sm_L, sm_get lv1 0 = some (.ref 52) → sm_get lv1 2 = some (.int (nI gv)) → sm_get lv1 4 = some (.int (nI md)) → sm_get lv1 5 = some (.int (nI a)) → sm_get lv1 6 = some (.int (nI 0)) → sm_get lv1 8 = some (.int (nI a3)) → sm_get lv1 9 = some (.int (nI 0)) → Bod (d + 8) 254 168 lv1 [] (S8) v Sf) : Bod (d + 8) 254 0 [(0, .ref 52), (1, .int (nI fn)), (2, .int (nI gv)), (3, .int (nI se)), (4, .int (nI md))] [] S v Sf := by
  refine Bod.go dc_254_0 rfl ?_
  refine Bod.get dc_254_1 fr_254_15 (mk_52 _) rfl ?_
  refine Bod.go dc_254_4 rfl ?_
  refine Bod.virt (r := []) dc_254_5 kr_254_314 ⟨Or.inr rfl, ow_241, cl_2⟩ (by rw [np_241]; rfl) (by rw [np_241]; rfl) (ob_of (mk_2 _)) (Nat.le_of_ble_eq_true rfl) (c1  ) ?_
  show Bod _ _ _ _ [_] _ _ _
  refine Bod.ist dc_254_8 (by rw [ml_254]; exact Nat.le_of_ble_eq_true rfl) ?_
  refine Bod.go dc_254_10 rfl ?_
  refine Bod.ifF dc_254_11 rfl (k1_ne_F (k_eq se 0 rfl rfl (by omega))) ?_
  refine Bod.ic 0 (by decide) dc_254_14 ?_
  refine Bod.go dc_254_15 rfl ?_
  refine Bod.ist dc_254_19 (by rw [ml_254]; exact Nat.le_of_ble_eq_true rfl) ?_
  refine Bod.go dc_254_21 rfl ?_
  refine Bod.go dc_254_22 rfl ?_
  refine Bod.addN gv (by omega) dc_254_24 ?_
  refine Bod.go dc_254_25 rfl ?_
  refine Bod.get dc_254_26 fr_254_11 (mk_52 _) rfl ?_
  refine Bod.go dc_254_29 rfl ?_
  refine Bod.virt (r := [_]) dc_254_31 kr_254_317 ⟨Or.inr rfl, ow_255, cl_7⟩ (by rw [np_255]; rfl) (by rw [np_255]; rfl) (ob_of (mk_23 _)) (Nat.le_of_ble_eq_true rfl) (c2  ) ?_
  show Bod _ _ _ _ [_, _] _ _ _
  refine Bod.icT dc_254_34 rfl (k2_eq_T (k_eq gv a1 rfl rfl (by omega))) ?_
  refine Bod.go dc_254_39 rfl ?_
  refine Bod.get dc_254_40 fr_254_150 (mk_52 _) rfl ?_
  refine Bod.eqI (nI cl) (by first | assumption | (simp (disch := omega) only [rI, rIe, rA, rIA, rLA, rJA, rVI, rQI, rVA, rQA, upd_at,  rAI, rLI, rJI, nI_add, pk_sub, kc_0, kc_1, kc_2, kc_3, kc_4, kc_5, reduceIte, Nat.reduceEqDiff, Nat.add_zero, rI_hold, rI_hold, rL_hold, hcl]; done) | (simp (disch := omega) only [rI, rIe, rA, rIA, rLA, rJA, rVI, rQI, rVA, rQA, upd_at,  rAI, rLI, rJI, nI_add, pk_sub, kc_0, kc_1, kc_2, kc_3, kc_4, kc_5, reduceIte, Nat.reduceEqDiff, Nat.add_zero, rI_hold, rI_hold, rL_hold, hcl]; exact congrArg nI (by omega))) ?_
  refine Bod.ifF dc_254_43 rfl (k1_lt_F cl rfl (by omega)) ?_
  refine Bod.go dc_254_46 rfl ?_
  refine Bod.get dc_254_47 fr_254_150 (mk_52 _) rfl ?_
  refine Bod.eqI (nI cl) (by first | assumption | (simp (disch := omega) only [rI, rIe, rA, rIA, rLA, rJA, rVI, rQI, rVA, rQA, upd_at,  rAI, rLI, rJI, nI_add, pk_sub, kc_0, kc_1, kc_2, kc_3, kc_4, kc_5, reduceIte, Nat.reduceEqDiff, Nat.add_zero, rI_hold, rI_hold, rL_hold, hcl]; done) | (simp (disch := omega) only [rI, rIe, rA, rIA, rLA, rJA, rVI, rQI, rVA, rQA, upd_at,  rAI, rLI, rJI, nI_add, pk_sub, kc_0, kc_1, kc_2, kc_3, kc_4, kc_5, reduceIte, Nat.reduceEqDiff, Nat.add_zero, rI_hold, rI_hold, rL_hold, hcl]; exact congrArg nI (by omega))) ?_
  refine Bod.bip 30 (by decide) dc_254_50 ?_
  refine Bod.icT dc_254_52 rfl (k2_lt_T cl 30 rfl rfl (by omega) (by omega)) ?_
  refine Bod.go dc_254_58 rfl ?_
  refine Bod.get dc_254_59 fr_254_11 (mk_52 _) rfl ?_
  refine Bod.go dc_254_62 rfl ?_
  refine Bod.virt (r := []) dc_254_64 kr_254_320 ⟨Or.inr rfl, ow_256, cl_7⟩ (by rw [np_256]; rfl) (by rw [np_256]; rfl) (ob_of (mk_23 _)) (Nat.le_of_ble_eq_true rfl) (c3  ) ?_
  show Bod _ _ _ _ [_] _ _ _
  refine Bod.ist dc_254_67 (by rw [ml_254]; exact Nat.le_of_ble_eq_true rfl) ?_
  refine Bod.go dc_254_69 rfl ?_
  refine Bod.sip 300 (by decide) dc_254_71 ?_
  refine Bod.icT dc_254_74 rfl (k2_le_T a2 300 rfl rfl (by omega) (by omega)) ?_
  refine Bod.go dc_254_81 rfl ?_
  refine Bod.get dc_254_82 fr_254_15 (mk_52 _) rfl ?_
  refine Bod.bip 7 (by decide) dc_254_85 ?_
  refine Bod.virt (r := []) dc_254_87 kr_254_263 ⟨Or.inr rfl, ow_178, cl_2⟩ (by rw [np_178]; rfl) (by rw [np_178]; rfl) (ob_of (mk_2 _)) (Nat.le_of_ble_eq_true rfl) (c4  ) ?_
  show Bod _ _ _ _ [_] _ _ _
  refine Bod.ist dc_254_90 (by rw [ml_254]; exact Nat.le_of_ble_eq_true rfl) ?_
  refine Bod.go dc_254_92 rfl ?_
  refine Bod.ifT dc_254_94 rfl (k1_ne_T (k_ne a3 0 rfl rfl (by omega) (by omega) (by omega))) ?_
  refine Bod.go dc_254_100 rfl ?_
  refine Bod.get dc_254_101 fr_254_15 (mk_52 _) rfl ?_
  refine Bod.go dc_254_104 rfl ?_
  refine Bod.get dc_254_105 fr_254_15 (mk_52 _) rfl ?_
  refine Bod.get dc_254_108 fr_254_156 (mk_2 _) rfl ?_
  refine Bod.go dc_254_111 rfl ?_
  refine Bod.virt (r := []) dc_254_113 kr_254_301 ⟨Or.inr rfl, ow_149, cl_2⟩ (by rw [np_149]; rfl) (by rw [np_149]; rfl) (ob_of (mk_2 _)) (Nat.le_of_ble_eq_true rfl) (c5  ) ?_
  show Bod _ _ _ _ [] _ _ _
  refine Bod.go dc_254_116 rfl ?_
  refine Bod.get dc_254_117 fr_254_15 (mk_52 _) rfl ?_
  refine Bod.go dc_254_120 rfl ?_
  refine Bod.ic 0 (by decide) dc_254_122 ?_
  refine Bod.go dc_254_123 rfl ?_
  refine Bod.get dc_254_124 fr_254_15 (mk_52 _) rfl ?_
  refine Bod.go dc_254_127 rfl ?_
  refine Bod.virt (r := [_, _, _]) dc_254_128 kr_254_241 ⟨Or.inr rfl, ow_168, cl_2⟩ (by rw [np_168]; rfl) (by rw [np_168]; rfl) (ob_of (mk_2 _)) (Nat.le_of_ble_eq_true rfl) (c6  ) ?_
  show Bod _ _ _ _ [_, _, _, _] _ _ _
  refine Bod.ic 0 (by decide) dc_254_131 ?_
  refine Bod.virt (r := []) dc_254_132 kr_254_266 ⟨Or.inr rfl, ow_179, cl_2⟩ (by rw [np_179]; rfl) (by rw [np_179]; rfl) (ob_of (mk_2 _)) (Nat.le_of_ble_eq_true rfl) (c7  ) ?_
  show Bod _ _ _ _ [] _ _ _
  refine Bod.go dc_254_135 rfl ?_
  refine Bod.get dc_254_136 fr_254_15 (mk_52 _) rfl ?_
  refine Bod.go dc_254_139 rfl ?_
  refine Bod.go dc_254_141 rfl ?_
  refine Bod.virt (r := []) dc_254_143 kr_254_323 ⟨Or.inr rfl, ow_257, cl_2⟩ (by rw [np_257]; rfl) (by rw [np_257]; rfl) (ob_of (mk_2 _)) (Nat.le_of_ble_eq_true rfl) (c8  ) ?_
  show Bod _ _ _ _ [] _ _ _
  refine Bod.go dc_254_146 rfl ?_
  refine Bod.ifT dc_254_147 rfl (k1_eq_T (k_eq se 0 rfl rfl (by omega))) ?_
  refine Bod.ic 0 (by decide) dc_254_165 ?_
  refine Bod.ist dc_254_166 (by rw [ml_254]; exact Nat.le_of_ble_eq_true rfl) ?_
  exact hB _ (by first | rfl | exact (by repeat (first | exact rfl | exact sm_get_p1 | exact sm_get_p2e | refine sm_get_p1m (by decide) (by decide) ?_ | refine sm_get_p1n (by decide) rfl ?_ | refine sm_get_p2n (by decide) (by decide) rfl ?_))) (by first | rfl | exact (by repeat (first | exact rfl | exact sm_get_p1 | exact sm_get_p2e | refine sm_get_p1m (by decide) (by decide) ?_ | refine sm_get_p1n (by decide) rfl ?_ | refine sm_get_p2n (by decide) (by decide) rfl ?_))) (by first | rfl | exact (by repeat (first | exact rfl | exact sm_get_p1 | exact sm_get_p2e | refine sm_get_p1m (by decide) (by decide) ?_ | refine sm_get_p1n (by decide) rfl ?_ | refine sm_get_p2n (by decide) (by decide) rfl ?_))) (by first | rfl | exact (by repeat (first | exact rfl | exact sm_get_p1 | exact sm_get_p2e | refine sm_get_p1m (by decide) (by decide) ?_ | refine sm_get_p1n (by decide) rfl ?_ | refine sm_get_p2n (by decide) (by decide) rfl ?_))) (by first | rfl | exact (by repeat (first | exact rfl | exact sm_get_p1 | exact sm_get_p2e | refine sm_get_p1m (by decide) (by decide) ?_ | refine sm_get_p1n (by decide) rfl ?_ | refine sm_get_p2n (by decide) (by decide) rfl ?_))) (by first | rfl | exact (by repeat (first | exact rfl | exact sm_get_p1 | exact sm_get_p2e | refine sm_get_p1m (by decide) (by decide) ?_ | refine sm_get_p1n (by decide) rfl ?_ | refine sm_get_p2n (by decide) (by decide) rfl ?_))) (by first | rfl | exact (by repeat (first | exact rfl | exact sm_get_p1 | exact sm_get_p2e | refine sm_get_p1m (by decide) (by decide) ?_ | refine sm_get_p1n (by decide) rfl ?_ | refine sm_get_p2n (by decide) (by decide) rfl ?_)))
theorem mEnS_8 {d : Nat} {S Sf : cS} {v : Option Value} {fn : Nat} {gv : Nat} {se : Nat} {md : Nat} {S1 : cS} {a : Nat} {S2 : cS} {a1 : Nat} {cl : Nat} {S3 : cS} {a2 : Nat} {S4 : cS} {a3 : Nat} {S5 : cS} {S6 : cS} {a4 : Nat} {S7 : cS} {S8 : cS} {S9 : cS} (mfn : fn < 2 ^ 20) (mgv : gv < 2 ^ 20) (mse : se < 2 ^ 20) (mmd : md < 2 ^ 20) (ma : a < 2 ^ 20) (c1 : Ans (d + 8) 241 [.ref 2, .int (nI fn)] S (some (.int (nI a))) S1) (b1 : se = 0) (ma1 : a1 < 2 ^ 20) (c2 : Ans (d + 8) 255 [.ref 23, .int (nI a)] S1 (some (.int (nI a1))) S2) (b2 : gv = a1) (hcl : sI S2 5213 = nI cl) (mcl : cl < 31) (b3 : cl < 30) (ma2 : a2 < 2 ^ 20) (c3 : Ans (d + 8) 256 [.ref 23, .int (nI a)] S2 (some (.int (nI a2))) S3) (b4 : a2 ≤ 300) (ma3 : a3 < 2 ^ 20) (c4 : Ans (d + 8) 178 [.ref 2, .int (nI 7)] S3 (some (.int (nI a3))) S4) (b5 : a3 ≠ 0) (c5 : Ans (d + 8) 149 [.ref 2, .ref 6, .int (nI a3)] S4 none S5) (ma4 : a4 < 2 ^ 20) (c6 : Ans (d + 8) 168 [.ref 2, .int (nI fn)] S5 (some (.int (nI a4))) S6) (c7 : Ans (d + 8) 179 [.ref 2, .int (nI a3), .int (nI 0), .int (nI a4), .int (nI 0)] S6 none S7) (c8 : Ans (d + 8) 257 [.ref 2, .int (nI a3), .int (nI a2)] S7 none S8) (b6 : se ≠ 0) (c9 : Ans (d + 8) 260 [.ref 2, .int (nI a3), .int (nI 0), .long ((4611686018427387904)), .long ((nI se).toInt64)] S8 none S9) (hB : ∀ lv1 : sm_L, sm_get lv1 0 = some (.ref 52) → sm_get lv1 2 = some (.int (nI gv)) → sm_get lv1 4 = some (.int (nI md)) → sm_get lv1 5 = some (.int (nI a)) → sm_get lv1 6 = some (.int (nI 0)) → sm_get lv1 8 = some (.int (nI a3)) → sm_get lv1 9 = some (.int (nI 0)) → Bod (d + 8) 254 168 lv1 [] (S9) v Sf) : Bod (d + 8) 254 0 [(0, .ref 52), (1, .int (nI fn)), (2, .int (nI gv)), (3, .int (nI se)), (4, .int (nI md))] [] S v Sf := by
  refine Bod.go dc_254_0 rfl ?_
  refine Bod.get dc_254_1 fr_254_15 (mk_52 _) rfl ?_
  refine Bod.go dc_254_4 rfl ?_
  refine Bod.virt (r := []) dc_254_5 kr_254_314 ⟨Or.inr rfl, ow_241, cl_2⟩ (by rw [np_241]; rfl) (by rw [np_241]; rfl) (ob_of (mk_2 _)) (Nat.le_of_ble_eq_true rfl) (c1  ) ?_
  show Bod _ _ _ _ [_] _ _ _
  refine Bod.ist dc_254_8 (by rw [ml_254]; exact Nat.le_of_ble_eq_true rfl) ?_
  refine Bod.go dc_254_10 rfl ?_
  refine Bod.ifF dc_254_11 rfl (k1_ne_F (k_eq se 0 rfl rfl (by omega))) ?_
  refine Bod.ic 0 (by decide) dc_254_14 ?_
  refine Bod.go dc_254_15 rfl ?_
  refine Bod.ist dc_254_19 (by rw [ml_254]; exact Nat.le_of_ble_eq_true rfl) ?_
  refine Bod.go dc_254_21 rfl ?_
  refine Bod.go dc_254_22 rfl ?_
  refine Bod.addN gv (by omega) dc_254_24 ?_
  refine Bod.go dc_254_25 rfl ?_
  refine Bod.get dc_254_26 fr_254_11 (mk_52 _) rfl ?_
  refine Bod.go dc_254_29 rfl ?_
  refine Bod.virt (r := [_]) dc_254_31 kr_254_317 ⟨Or.inr rfl, ow_255, cl_7⟩ (by rw [np_255]; rfl) (by rw [np_255]; rfl) (ob_of (mk_23 _)) (Nat.le_of_ble_eq_true rfl) (c2  ) ?_
  show Bod _ _ _ _ [_, _] _ _ _
  refine Bod.icT dc_254_34 rfl (k2_eq_T (k_eq gv a1 rfl rfl (by omega))) ?_
  refine Bod.go dc_254_39 rfl ?_
  refine Bod.get dc_254_40 fr_254_150 (mk_52 _) rfl ?_
  refine Bod.eqI (nI cl) (by first | assumption | (simp (disch := omega) only [rI, rIe, rA, rIA, rLA, rJA, rVI, rQI, rVA, rQA, upd_at,  rAI, rLI, rJI, nI_add, pk_sub, kc_0, kc_1, kc_2, kc_3, kc_4, kc_5, reduceIte, Nat.reduceEqDiff, Nat.add_zero, rI_hold, rI_hold, rL_hold, hcl]; done) | (simp (disch := omega) only [rI, rIe, rA, rIA, rLA, rJA, rVI, rQI, rVA, rQA, upd_at,  rAI, rLI, rJI, nI_add, pk_sub, kc_0, kc_1, kc_2, kc_3, kc_4, kc_5, reduceIte, Nat.reduceEqDiff, Nat.add_zero, rI_hold, rI_hold, rL_hold, hcl]; exact congrArg nI (by omega))) ?_
  refine Bod.ifF dc_254_43 rfl (k1_lt_F cl rfl (by omega)) ?_
  refine Bod.go dc_254_46 rfl ?_
  refine Bod.get dc_254_47 fr_254_150 (mk_52 _) rfl ?_
  refine Bod.eqI (nI cl) (by first | assumption | (simp (disch := omega) only [rI, rIe, rA, rIA, rLA, rJA, rVI, rQI, rVA, rQA, upd_at,  rAI, rLI, rJI, nI_add, pk_sub, kc_0, kc_1, kc_2, kc_3, kc_4, kc_5, reduceIte, Nat.reduceEqDiff, Nat.add_zero, rI_hold, rI_hold, rL_hold, hcl]; done) | (simp (disch := omega) only [rI, rIe, rA, rIA, rLA, rJA, rVI, rQI, rVA, rQA, upd_at,  rAI, rLI, rJI, nI_add, pk_sub, kc_0, kc_1, kc_2, kc_3, kc_4, kc_5, reduceIte, Nat.reduceEqDiff, Nat.add_zero, rI_hold, rI_hold, rL_hold, hcl]; exact congrArg nI (by omega))) ?_
  refine Bod.bip 30 (by decide) dc_254_50 ?_
  refine Bod.icT dc_254_52 rfl (k2_lt_T cl 30 rfl rfl (by omega) (by omega)) ?_
  refine Bod.go dc_254_58 rfl ?_
  refine Bod.get dc_254_59 fr_254_11 (mk_52 _) rfl ?_
  refine Bod.go dc_254_62 rfl ?_
  refine Bod.virt (r := []) dc_254_64 kr_254_320 ⟨Or.inr rfl, ow_256, cl_7⟩ (by rw [np_256]; rfl) (by rw [np_256]; rfl) (ob_of (mk_23 _)) (Nat.le_of_ble_eq_true rfl) (c3  ) ?_
  show Bod _ _ _ _ [_] _ _ _
  refine Bod.ist dc_254_67 (by rw [ml_254]; exact Nat.le_of_ble_eq_true rfl) ?_
  refine Bod.go dc_254_69 rfl ?_
  refine Bod.sip 300 (by decide) dc_254_71 ?_
  refine Bod.icT dc_254_74 rfl (k2_le_T a2 300 rfl rfl (by omega) (by omega)) ?_
  refine Bod.go dc_254_81 rfl ?_
  refine Bod.get dc_254_82 fr_254_15 (mk_52 _) rfl ?_
  refine Bod.bip 7 (by decide) dc_254_85 ?_
  refine Bod.virt (r := []) dc_254_87 kr_254_263 ⟨Or.inr rfl, ow_178, cl_2⟩ (by rw [np_178]; rfl) (by rw [np_178]; rfl) (ob_of (mk_2 _)) (Nat.le_of_ble_eq_true rfl) (c4  ) ?_
  show Bod _ _ _ _ [_] _ _ _
  refine Bod.ist dc_254_90 (by rw [ml_254]; exact Nat.le_of_ble_eq_true rfl) ?_
  refine Bod.go dc_254_92 rfl ?_
  refine Bod.ifT dc_254_94 rfl (k1_ne_T (k_ne a3 0 rfl rfl (by omega) (by omega) (by omega))) ?_
  refine Bod.go dc_254_100 rfl ?_
  refine Bod.get dc_254_101 fr_254_15 (mk_52 _) rfl ?_
  refine Bod.go dc_254_104 rfl ?_
  refine Bod.get dc_254_105 fr_254_15 (mk_52 _) rfl ?_
  refine Bod.get dc_254_108 fr_254_156 (mk_2 _) rfl ?_
  refine Bod.go dc_254_111 rfl ?_
  refine Bod.virt (r := []) dc_254_113 kr_254_301 ⟨Or.inr rfl, ow_149, cl_2⟩ (by rw [np_149]; rfl) (by rw [np_149]; rfl) (ob_of (mk_2 _)) (Nat.le_of_ble_eq_true rfl) (c5  ) ?_
  show Bod _ _ _ _ [] _ _ _
  refine Bod.go dc_254_116 rfl ?_
  refine Bod.get dc_254_117 fr_254_15 (mk_52 _) rfl ?_
  refine Bod.go dc_254_120 rfl ?_
  refine Bod.ic 0 (by decide) dc_254_122 ?_
  refine Bod.go dc_254_123 rfl ?_
  refine Bod.get dc_254_124 fr_254_15 (mk_52 _) rfl ?_
  refine Bod.go dc_254_127 rfl ?_
  refine Bod.virt (r := [_, _, _]) dc_254_128 kr_254_241 ⟨Or.inr rfl, ow_168, cl_2⟩ (by rw [np_168]; rfl) (by rw [np_168]; rfl) (ob_of (mk_2 _)) (Nat.le_of_ble_eq_true rfl) (c6  ) ?_
  show Bod _ _ _ _ [_, _, _, _] _ _ _
  refine Bod.ic 0 (by decide) dc_254_131 ?_
  refine Bod.virt (r := []) dc_254_132 kr_254_266 ⟨Or.inr rfl, ow_179, cl_2⟩ (by rw [np_179]; rfl) (by rw [np_179]; rfl) (ob_of (mk_2 _)) (Nat.le_of_ble_eq_true rfl) (c7  ) ?_
  show Bod _ _ _ _ [] _ _ _
  refine Bod.go dc_254_135 rfl ?_
  refine Bod.get dc_254_136 fr_254_15 (mk_52 _) rfl ?_
  refine Bod.go dc_254_139 rfl ?_
  refine Bod.go dc_254_141 rfl ?_
  refine Bod.virt (r := []) dc_254_143 kr_254_323 ⟨Or.inr rfl, ow_257, cl_2⟩ (by rw [np_257]; rfl) (by rw [np_257]; rfl) (ob_of (mk_2 _)) (Nat.le_of_ble_eq_true rfl) (c8  ) ?_
  show Bod _ _ _ _ [] _ _ _
  refine Bod.go dc_254_146 rfl ?_
  refine Bod.ifF dc_254_147 rfl (k1_eq_F (k_ne se 0 rfl rfl (by omega) (by omega) (by omega))) ?_
  refine Bod.go dc_254_150 rfl ?_
  refine Bod.get dc_254_151 fr_254_15 (mk_52 _) rfl ?_
  refine Bod.go dc_254_154 rfl ?_
  refine Bod.ic 0 (by decide) dc_254_156 ?_
  refine Bod.ldc2 dc_254_157 cj_254_270 ?_
  refine Bod.go dc_254_160 rfl ?_
  refine Bod.go dc_254_161 rfl ?_
  refine Bod.virt (r := []) dc_254_162 kr_254_327 ⟨Or.inr rfl, ow_260, cl_2⟩ (by rw [np_260]; rfl) (by rw [np_260]; rfl) (ob_of (mk_2 _)) (Nat.le_of_ble_eq_true rfl) (c9  ) ?_
  show Bod _ _ _ _ [] _ _ _
  refine Bod.ic 0 (by decide) dc_254_165 ?_
  refine Bod.ist dc_254_166 (by rw [ml_254]; exact Nat.le_of_ble_eq_true rfl) ?_
  exact hB _ (by first | rfl | exact (by repeat (first | exact rfl | exact sm_get_p1 | exact sm_get_p2e | refine sm_get_p1m (by decide) (by decide) ?_ | refine sm_get_p1n (by decide) rfl ?_ | refine sm_get_p2n (by decide) (by decide) rfl ?_))) (by first | rfl | exact (by repeat (first | exact rfl | exact sm_get_p1 | exact sm_get_p2e | refine sm_get_p1m (by decide) (by decide) ?_ | refine sm_get_p1n (by decide) rfl ?_ | refine sm_get_p2n (by decide) (by decide) rfl ?_))) (by first | rfl | exact (by repeat (first | exact rfl | exact sm_get_p1 | exact sm_get_p2e | refine sm_get_p1m (by decide) (by decide) ?_ | refine sm_get_p1n (by decide) rfl ?_ | refine sm_get_p2n (by decide) (by decide) rfl ?_))) (by first | rfl | exact (by repeat (first | exact rfl | exact sm_get_p1 | exact sm_get_p2e | refine sm_get_p1m (by decide) (by decide) ?_ | refine sm_get_p1n (by decide) rfl ?_ | refine sm_get_p2n (by decide) (by decide) rfl ?_))) (by first | rfl | exact (by repeat (first | exact rfl | exact sm_get_p1 | exact sm_get_p2e | refine sm_get_p1m (by decide) (by decide) ?_ | refine sm_get_p1n (by decide) rfl ?_ | refine sm_get_p2n (by decide) (by decide) rfl ?_))) (by first | rfl | exact (by repeat (first | exact rfl | exact sm_get_p1 | exact sm_get_p2e | refine sm_get_p1m (by decide) (by decide) ?_ | refine sm_get_p1n (by decide) rfl ?_ | refine sm_get_p2n (by decide) (by decide) rfl ?_))) (by first | rfl | exact (by repeat (first | exact rfl | exact sm_get_p1 | exact sm_get_p2e | refine sm_get_p1m (by decide) (by decide) ?_ | refine sm_get_p1n (by decide) rfl ?_ | refine sm_get_p2n (by decide) (by decide) rfl ?_)))
theorem mEnS_9 {d : Nat} {S : cS} {fn : Nat} {gv : Nat} {se : Nat} {md : Nat} {S1 : cS} {a : Nat} {S2 : cS} {a1 : Nat} {cl : Nat} {S3 : cS} {a2 : Nat} {S4 : cS} {a3 : Nat} (mfn : fn < 2 ^ 20) (mgv : gv < 2 ^ 20) (mse : se < 2 ^ 20) (mmd : md < 2 ^ 20) (ma : a < 2 ^ 20) (c1 : Ans (d + 8) 241 [.ref 2, .int (nI fn)] S (some (.int (nI a))) S1) (b1 : se = 0) (ma1 : a1 < 2 ^ 20) (c2 : Ans (d + 8) 255 [.ref 23, .int (nI a)] S1 (some (.int (nI a1))) S2) (b2 : gv = a1) (hcl : sI S2 5213 = nI cl) (mcl : cl < 31) (b3 : cl < 30) (ma2 : a2 < 2 ^ 20) (c3 : Ans (d + 8) 256 [.ref 23, .int (nI a)] S2 (some (.int (nI a2))) S3) (b4 : a2 ≤ 300) (ma3 : a3 < 2 ^ 20) (c4 : Ans (d + 8) 178 [.ref 2, .int (nI 7)] S3 (some (.int (nI a3))) S4) (b5 : a3 = 0) : Bod (d + 8) 254 0 [(0, .ref 52), (1, .int (nI fn)), (2, .int (nI gv)), (3, .int (nI se)), (4, .int (nI md))] [] S (some (.int (nI 8))) (S4) := by
  refine Bod.go dc_254_0 rfl ?_
  refine Bod.get dc_254_1 fr_254_15 (mk_52 _) rfl ?_
  refine Bod.go dc_254_4 rfl ?_
  refine Bod.virt (r := []) dc_254_5 kr_254_314 ⟨Or.inr rfl, ow_241, cl_2⟩ (by rw [np_241]; rfl) (by rw [np_241]; rfl) (ob_of (mk_2 _)) (Nat.le_of_ble_eq_true rfl) (c1  ) ?_
  show Bod _ _ _ _ [_] _ _ _
  refine Bod.ist dc_254_8 (by rw [ml_254]; exact Nat.le_of_ble_eq_true rfl) ?_
  refine Bod.go dc_254_10 rfl ?_
  refine Bod.ifF dc_254_11 rfl (k1_ne_F (k_eq se 0 rfl rfl (by omega))) ?_
  refine Bod.ic 0 (by decide) dc_254_14 ?_
  refine Bod.go dc_254_15 rfl ?_
  refine Bod.ist dc_254_19 (by rw [ml_254]; exact Nat.le_of_ble_eq_true rfl) ?_
  refine Bod.go dc_254_21 rfl ?_
  refine Bod.go dc_254_22 rfl ?_
  refine Bod.addN gv (by omega) dc_254_24 ?_
  refine Bod.go dc_254_25 rfl ?_
  refine Bod.get dc_254_26 fr_254_11 (mk_52 _) rfl ?_
  refine Bod.go dc_254_29 rfl ?_
  refine Bod.virt (r := [_]) dc_254_31 kr_254_317 ⟨Or.inr rfl, ow_255, cl_7⟩ (by rw [np_255]; rfl) (by rw [np_255]; rfl) (ob_of (mk_23 _)) (Nat.le_of_ble_eq_true rfl) (c2  ) ?_
  show Bod _ _ _ _ [_, _] _ _ _
  refine Bod.icT dc_254_34 rfl (k2_eq_T (k_eq gv a1 rfl rfl (by omega))) ?_
  refine Bod.go dc_254_39 rfl ?_
  refine Bod.get dc_254_40 fr_254_150 (mk_52 _) rfl ?_
  refine Bod.eqI (nI cl) (by first | assumption | (simp (disch := omega) only [rI, rIe, rA, rIA, rLA, rJA, rVI, rQI, rVA, rQA, upd_at,  rAI, rLI, rJI, nI_add, pk_sub, kc_0, kc_1, kc_2, kc_3, kc_4, kc_5, reduceIte, Nat.reduceEqDiff, Nat.add_zero, rI_hold, rI_hold, rL_hold, hcl]; done) | (simp (disch := omega) only [rI, rIe, rA, rIA, rLA, rJA, rVI, rQI, rVA, rQA, upd_at,  rAI, rLI, rJI, nI_add, pk_sub, kc_0, kc_1, kc_2, kc_3, kc_4, kc_5, reduceIte, Nat.reduceEqDiff, Nat.add_zero, rI_hold, rI_hold, rL_hold, hcl]; exact congrArg nI (by omega))) ?_
  refine Bod.ifF dc_254_43 rfl (k1_lt_F cl rfl (by omega)) ?_
  refine Bod.go dc_254_46 rfl ?_
  refine Bod.get dc_254_47 fr_254_150 (mk_52 _) rfl ?_
  refine Bod.eqI (nI cl) (by first | assumption | (simp (disch := omega) only [rI, rIe, rA, rIA, rLA, rJA, rVI, rQI, rVA, rQA, upd_at,  rAI, rLI, rJI, nI_add, pk_sub, kc_0, kc_1, kc_2, kc_3, kc_4, kc_5, reduceIte, Nat.reduceEqDiff, Nat.add_zero, rI_hold, rI_hold, rL_hold, hcl]; done) | (simp (disch := omega) only [rI, rIe, rA, rIA, rLA, rJA, rVI, rQI, rVA, rQA, upd_at,  rAI, rLI, rJI, nI_add, pk_sub, kc_0, kc_1, kc_2, kc_3, kc_4, kc_5, reduceIte, Nat.reduceEqDiff, Nat.add_zero, rI_hold, rI_hold, rL_hold, hcl]; exact congrArg nI (by omega))) ?_
  refine Bod.bip 30 (by decide) dc_254_50 ?_
  refine Bod.icT dc_254_52 rfl (k2_lt_T cl 30 rfl rfl (by omega) (by omega)) ?_
  refine Bod.go dc_254_58 rfl ?_
  refine Bod.get dc_254_59 fr_254_11 (mk_52 _) rfl ?_
  refine Bod.go dc_254_62 rfl ?_
  refine Bod.virt (r := []) dc_254_64 kr_254_320 ⟨Or.inr rfl, ow_256, cl_7⟩ (by rw [np_256]; rfl) (by rw [np_256]; rfl) (ob_of (mk_23 _)) (Nat.le_of_ble_eq_true rfl) (c3  ) ?_
  show Bod _ _ _ _ [_] _ _ _
  refine Bod.ist dc_254_67 (by rw [ml_254]; exact Nat.le_of_ble_eq_true rfl) ?_
  refine Bod.go dc_254_69 rfl ?_
  refine Bod.sip 300 (by decide) dc_254_71 ?_
  refine Bod.icT dc_254_74 rfl (k2_le_T a2 300 rfl rfl (by omega) (by omega)) ?_
  refine Bod.go dc_254_81 rfl ?_
  refine Bod.get dc_254_82 fr_254_15 (mk_52 _) rfl ?_
  refine Bod.bip 7 (by decide) dc_254_85 ?_
  refine Bod.virt (r := []) dc_254_87 kr_254_263 ⟨Or.inr rfl, ow_178, cl_2⟩ (by rw [np_178]; rfl) (by rw [np_178]; rfl) (ob_of (mk_2 _)) (Nat.le_of_ble_eq_true rfl) (c4  ) ?_
  show Bod _ _ _ _ [_] _ _ _
  refine Bod.ist dc_254_90 (by rw [ml_254]; exact Nat.le_of_ble_eq_true rfl) ?_
  refine Bod.go dc_254_92 rfl ?_
  refine Bod.ifF dc_254_94 rfl (k1_ne_F (k_eq a3 0 rfl rfl (by omega))) ?_
  refine Bod.bip 8 (by decide) dc_254_97 ?_
  exact Bod.retI dc_254_99 rt_254
theorem mEnS_10 {d : Nat} {S : cS} {fn : Nat} {gv : Nat} {se : Nat} {md : Nat} {S1 : cS} {a : Nat} {S2 : cS} {a1 : Nat} {cl : Nat} {S3 : cS} {a2 : Nat} (mfn : fn < 2 ^ 20) (mgv : gv < 2 ^ 20) (mse : se < 2 ^ 20) (mmd : md < 2 ^ 20) (ma : a < 2 ^ 20) (c1 : Ans (d + 8) 241 [.ref 2, .int (nI fn)] S (some (.int (nI a))) S1) (b1 : se = 0) (ma1 : a1 < 2 ^ 20) (c2 : Ans (d + 8) 255 [.ref 23, .int (nI a)] S1 (some (.int (nI a1))) S2) (b2 : gv = a1) (hcl : sI S2 5213 = nI cl) (mcl : cl < 31) (b3 : cl < 30) (ma2 : a2 < 2 ^ 20) (c3 : Ans (d + 8) 256 [.ref 23, .int (nI a)] S2 (some (.int (nI a2))) S3) (b4 : 300 < a2) : Bod (d + 8) 254 0 [(0, .ref 52), (1, .int (nI fn)), (2, .int (nI gv)), (3, .int (nI se)), (4, .int (nI md))] [] S (some (.int (nI 8))) (S3) := by
  refine Bod.go dc_254_0 rfl ?_
  refine Bod.get dc_254_1 fr_254_15 (mk_52 _) rfl ?_
  refine Bod.go dc_254_4 rfl ?_
  refine Bod.virt (r := []) dc_254_5 kr_254_314 ⟨Or.inr rfl, ow_241, cl_2⟩ (by rw [np_241]; rfl) (by rw [np_241]; rfl) (ob_of (mk_2 _)) (Nat.le_of_ble_eq_true rfl) (c1  ) ?_
  show Bod _ _ _ _ [_] _ _ _
  refine Bod.ist dc_254_8 (by rw [ml_254]; exact Nat.le_of_ble_eq_true rfl) ?_
  refine Bod.go dc_254_10 rfl ?_
  refine Bod.ifF dc_254_11 rfl (k1_ne_F (k_eq se 0 rfl rfl (by omega))) ?_
  refine Bod.ic 0 (by decide) dc_254_14 ?_
  refine Bod.go dc_254_15 rfl ?_
  refine Bod.ist dc_254_19 (by rw [ml_254]; exact Nat.le_of_ble_eq_true rfl) ?_
  refine Bod.go dc_254_21 rfl ?_
  refine Bod.go dc_254_22 rfl ?_
  refine Bod.addN gv (by omega) dc_254_24 ?_
  refine Bod.go dc_254_25 rfl ?_
  refine Bod.get dc_254_26 fr_254_11 (mk_52 _) rfl ?_
  refine Bod.go dc_254_29 rfl ?_
  refine Bod.virt (r := [_]) dc_254_31 kr_254_317 ⟨Or.inr rfl, ow_255, cl_7⟩ (by rw [np_255]; rfl) (by rw [np_255]; rfl) (ob_of (mk_23 _)) (Nat.le_of_ble_eq_true rfl) (c2  ) ?_
  show Bod _ _ _ _ [_, _] _ _ _
  refine Bod.icT dc_254_34 rfl (k2_eq_T (k_eq gv a1 rfl rfl (by omega))) ?_
  refine Bod.go dc_254_39 rfl ?_
  refine Bod.get dc_254_40 fr_254_150 (mk_52 _) rfl ?_
  refine Bod.eqI (nI cl) (by first | assumption | (simp (disch := omega) only [rI, rIe, rA, rIA, rLA, rJA, rVI, rQI, rVA, rQA, upd_at,  rAI, rLI, rJI, nI_add, pk_sub, kc_0, kc_1, kc_2, kc_3, kc_4, kc_5, reduceIte, Nat.reduceEqDiff, Nat.add_zero, rI_hold, rI_hold, rL_hold, hcl]; done) | (simp (disch := omega) only [rI, rIe, rA, rIA, rLA, rJA, rVI, rQI, rVA, rQA, upd_at,  rAI, rLI, rJI, nI_add, pk_sub, kc_0, kc_1, kc_2, kc_3, kc_4, kc_5, reduceIte, Nat.reduceEqDiff, Nat.add_zero, rI_hold, rI_hold, rL_hold, hcl]; exact congrArg nI (by omega))) ?_
  refine Bod.ifF dc_254_43 rfl (k1_lt_F cl rfl (by omega)) ?_
  refine Bod.go dc_254_46 rfl ?_
  refine Bod.get dc_254_47 fr_254_150 (mk_52 _) rfl ?_
  refine Bod.eqI (nI cl) (by first | assumption | (simp (disch := omega) only [rI, rIe, rA, rIA, rLA, rJA, rVI, rQI, rVA, rQA, upd_at,  rAI, rLI, rJI, nI_add, pk_sub, kc_0, kc_1, kc_2, kc_3, kc_4, kc_5, reduceIte, Nat.reduceEqDiff, Nat.add_zero, rI_hold, rI_hold, rL_hold, hcl]; done) | (simp (disch := omega) only [rI, rIe, rA, rIA, rLA, rJA, rVI, rQI, rVA, rQA, upd_at,  rAI, rLI, rJI, nI_add, pk_sub, kc_0, kc_1, kc_2, kc_3, kc_4, kc_5, reduceIte, Nat.reduceEqDiff, Nat.add_zero, rI_hold, rI_hold, rL_hold, hcl]; exact congrArg nI (by omega))) ?_
  refine Bod.bip 30 (by decide) dc_254_50 ?_
  refine Bod.icT dc_254_52 rfl (k2_lt_T cl 30 rfl rfl (by omega) (by omega)) ?_
  refine Bod.go dc_254_58 rfl ?_
  refine Bod.get dc_254_59 fr_254_11 (mk_52 _) rfl ?_
  refine Bod.go dc_254_62 rfl ?_
  refine Bod.virt (r := []) dc_254_64 kr_254_320 ⟨Or.inr rfl, ow_256, cl_7⟩ (by rw [np_256]; rfl) (by rw [np_256]; rfl) (ob_of (mk_23 _)) (Nat.le_of_ble_eq_true rfl) (c3  ) ?_
  show Bod _ _ _ _ [_] _ _ _
  refine Bod.ist dc_254_67 (by rw [ml_254]; exact Nat.le_of_ble_eq_true rfl) ?_
  refine Bod.go dc_254_69 rfl ?_
  refine Bod.sip 300 (by decide) dc_254_71 ?_
  refine Bod.icF dc_254_74 rfl (k2_le_F a2 300 rfl rfl (by omega) (by omega)) ?_
  refine Bod.ic 0 (by decide) dc_254_77 ?_
  refine Bod.go dc_254_78 rfl ?_
  refine Bod.ist dc_254_90 (by rw [ml_254]; exact Nat.le_of_ble_eq_true rfl) ?_
  refine Bod.go dc_254_92 rfl ?_
  refine Bod.ifF dc_254_94 rfl (k1_ne_F (k_eq 0 0 rfl rfl (by omega))) ?_
  refine Bod.bip 8 (by decide) dc_254_97 ?_
  exact Bod.retI dc_254_99 rt_254
theorem mEnS_11 {d : Nat} {S : cS} {fn : Nat} {gv : Nat} {se : Nat} {md : Nat} {S1 : cS} {a : Nat} {S2 : cS} {a1 : Nat} {cl : Nat} (mfn : fn < 2 ^ 20) (mgv : gv < 2 ^ 20) (mse : se < 2 ^ 20) (mmd : md < 2 ^ 20) (ma : a < 2 ^ 20) (c1 : Ans (d + 8) 241 [.ref 2, .int (nI fn)] S (some (.int (nI a))) S1) (b1 : se = 0) (ma1 : a1 < 2 ^ 20) (c2 : Ans (d + 8) 255 [.ref 23, .int (nI a)] S1 (some (.int (nI a1))) S2) (b2 : gv = a1) (hcl : sI S2 5213 = nI cl) (mcl : cl < 31) (b3 : 30 ≤ cl) : Bod (d + 8) 254 0 [(0, .ref 52), (1, .int (nI fn)), (2, .int (nI gv)), (3, .int (nI se)), (4, .int (nI md))] [] S (some (.int (nI 7))) (S2) := by
  refine Bod.go dc_254_0 rfl ?_
  refine Bod.get dc_254_1 fr_254_15 (mk_52 _) rfl ?_
  refine Bod.go dc_254_4 rfl ?_
  refine Bod.virt (r := []) dc_254_5 kr_254_314 ⟨Or.inr rfl, ow_241, cl_2⟩ (by rw [np_241]; rfl) (by rw [np_241]; rfl) (ob_of (mk_2 _)) (Nat.le_of_ble_eq_true rfl) (c1  ) ?_
  show Bod _ _ _ _ [_] _ _ _
  refine Bod.ist dc_254_8 (by rw [ml_254]; exact Nat.le_of_ble_eq_true rfl) ?_
  refine Bod.go dc_254_10 rfl ?_
  refine Bod.ifF dc_254_11 rfl (k1_ne_F (k_eq se 0 rfl rfl (by omega))) ?_
  refine Bod.ic 0 (by decide) dc_254_14 ?_
  refine Bod.go dc_254_15 rfl ?_
  refine Bod.ist dc_254_19 (by rw [ml_254]; exact Nat.le_of_ble_eq_true rfl) ?_
  refine Bod.go dc_254_21 rfl ?_
  refine Bod.go dc_254_22 rfl ?_
  refine Bod.addN gv (by omega) dc_254_24 ?_
  refine Bod.go dc_254_25 rfl ?_
  refine Bod.get dc_254_26 fr_254_11 (mk_52 _) rfl ?_
  refine Bod.go dc_254_29 rfl ?_
  refine Bod.virt (r := [_]) dc_254_31 kr_254_317 ⟨Or.inr rfl, ow_255, cl_7⟩ (by rw [np_255]; rfl) (by rw [np_255]; rfl) (ob_of (mk_23 _)) (Nat.le_of_ble_eq_true rfl) (c2  ) ?_
  show Bod _ _ _ _ [_, _] _ _ _
  refine Bod.icT dc_254_34 rfl (k2_eq_T (k_eq gv a1 rfl rfl (by omega))) ?_
  refine Bod.go dc_254_39 rfl ?_
  refine Bod.get dc_254_40 fr_254_150 (mk_52 _) rfl ?_
  refine Bod.eqI (nI cl) (by first | assumption | (simp (disch := omega) only [rI, rIe, rA, rIA, rLA, rJA, rVI, rQI, rVA, rQA, upd_at,  rAI, rLI, rJI, nI_add, pk_sub, kc_0, kc_1, kc_2, kc_3, kc_4, kc_5, reduceIte, Nat.reduceEqDiff, Nat.add_zero, rI_hold, rI_hold, rL_hold, hcl]; done) | (simp (disch := omega) only [rI, rIe, rA, rIA, rLA, rJA, rVI, rQI, rVA, rQA, upd_at,  rAI, rLI, rJI, nI_add, pk_sub, kc_0, kc_1, kc_2, kc_3, kc_4, kc_5, reduceIte, Nat.reduceEqDiff, Nat.add_zero, rI_hold, rI_hold, rL_hold, hcl]; exact congrArg nI (by omega))) ?_
  refine Bod.ifF dc_254_43 rfl (k1_lt_F cl rfl (by omega)) ?_
  refine Bod.go dc_254_46 rfl ?_
  refine Bod.get dc_254_47 fr_254_150 (mk_52 _) rfl ?_
  refine Bod.eqI (nI cl) (by first | assumption | (simp (disch := omega) only [rI, rIe, rA, rIA, rLA, rJA, rVI, rQI, rVA, rQA, upd_at,  rAI, rLI, rJI, nI_add, pk_sub, kc_0, kc_1, kc_2, kc_3, kc_4, kc_5, reduceIte, Nat.reduceEqDiff, Nat.add_zero, rI_hold, rI_hold, rL_hold, hcl]; done) | (simp (disch := omega) only [rI, rIe, rA, rIA, rLA, rJA, rVI, rQI, rVA, rQA, upd_at,  rAI, rLI, rJI, nI_add, pk_sub, kc_0, kc_1, kc_2, kc_3, kc_4, kc_5, reduceIte, Nat.reduceEqDiff, Nat.add_zero, rI_hold, rI_hold, rL_hold, hcl]; exact congrArg nI (by omega))) ?_
  refine Bod.bip 30 (by decide) dc_254_50 ?_
  refine Bod.icF dc_254_52 rfl (k2_lt_F cl 30 rfl rfl (by omega) (by omega)) ?_
  refine Bod.bip 7 (by decide) dc_254_55 ?_
  exact Bod.retI dc_254_57 rt_254
theorem mEnS_12 {d : Nat} {S : cS} {fn : Nat} {gv : Nat} {se : Nat} {md : Nat} {S1 : cS} {a : Nat} {S2 : cS} {a1 : Nat} (mfn : fn < 2 ^ 20) (mgv : gv < 2 ^ 20) (mse : se < 2 ^ 20) (mmd : md < 2 ^ 20) (ma : a < 2 ^ 20) (c1 : Ans (d + 8) 241 [.ref 2, .int (nI fn)] S (some (.int (nI a))) S1) (b1 : se = 0) (ma1 : a1 < 2 ^ 20) (c2 : Ans (d + 8) 255 [.ref 23, .int (nI a)] S1 (some (.int (nI a1))) S2) (b2 : gv ≠ a1) : Bod (d + 8) 254 0 [(0, .ref 52), (1, .int (nI fn)), (2, .int (nI gv)), (3, .int (nI se)), (4, .int (nI md))] [] S (some (.int (nI 2))) (S2) := by
  refine Bod.go dc_254_0 rfl ?_
  refine Bod.get dc_254_1 fr_254_15 (mk_52 _) rfl ?_
  refine Bod.go dc_254_4 rfl ?_
  refine Bod.virt (r := []) dc_254_5 kr_254_314 ⟨Or.inr rfl, ow_241, cl_2⟩ (by rw [np_241]; rfl) (by rw [np_241]; rfl) (ob_of (mk_2 _)) (Nat.le_of_ble_eq_true rfl) (c1  ) ?_
  show Bod _ _ _ _ [_] _ _ _
  refine Bod.ist dc_254_8 (by rw [ml_254]; exact Nat.le_of_ble_eq_true rfl) ?_
  refine Bod.go dc_254_10 rfl ?_
  refine Bod.ifF dc_254_11 rfl (k1_ne_F (k_eq se 0 rfl rfl (by omega))) ?_
  refine Bod.ic 0 (by decide) dc_254_14 ?_
  refine Bod.go dc_254_15 rfl ?_
  refine Bod.ist dc_254_19 (by rw [ml_254]; exact Nat.le_of_ble_eq_true rfl) ?_
  refine Bod.go dc_254_21 rfl ?_
  refine Bod.go dc_254_22 rfl ?_
  refine Bod.addN gv (by omega) dc_254_24 ?_
  refine Bod.go dc_254_25 rfl ?_
  refine Bod.get dc_254_26 fr_254_11 (mk_52 _) rfl ?_
  refine Bod.go dc_254_29 rfl ?_
  refine Bod.virt (r := [_]) dc_254_31 kr_254_317 ⟨Or.inr rfl, ow_255, cl_7⟩ (by rw [np_255]; rfl) (by rw [np_255]; rfl) (ob_of (mk_23 _)) (Nat.le_of_ble_eq_true rfl) (c2  ) ?_
  show Bod _ _ _ _ [_, _] _ _ _
  refine Bod.icF dc_254_34 rfl (k2_eq_F (k_ne gv a1 rfl rfl (by omega) (by omega) (by omega))) ?_
  refine Bod.ic 2 (by decide) dc_254_37 ?_
  exact Bod.retI dc_254_38 rt_254
theorem mEnL_1 {d : Nat} {S : cS} {lv : sm_L} {gv : Nat} {md : Nat} {nb : Nat} {f1 : Nat} {op : Nat} {ni : Nat} {S1 : cS} {cl : Nat} {t : Nat} {tr : Nat} {S2 : cS} {a : Nat} (q0 : sm_get lv 0 = some (.ref 52)) (q2 : sm_get lv 2 = some (.int (nI gv))) (q4 : sm_get lv 4 = some (.int (nI md))) (q5 : sm_get lv 5 = some (.int (nI nb))) (q6 : sm_get lv 6 = some (.int (nI f1))) (q8 : sm_get lv 8 = some (.int (nI op))) (q9 : sm_get lv 9 = some (.int (nI ni))) (mgv : gv < 2 ^ 20) (mmd : md < 2 ^ 20) (mnb : nb < 2 ^ 20) (mf1 : f1 < 2 ^ 20) (mop : op < 2 ^ 20) (mni : ni < 2 ^ 20) (b1 : gv ≤ ni) (c1 : Ans (d + 8) 261 [.ref 46, .int (nI gv)] S none S1) (hcl : sI S1 5213 = nI cl) (mcl : cl < 31) (b2 : cl < 30) (ht : sI (wA 55 cl (sI (wA 54 cl (sI S1 5216) S1) 5217) (wA 54 cl (sI S1 5216) S1)) 4603 = nI t) (mt : t < 20481) (b3 : 1 ≤ t) (htr : sI (wA 56 cl (nI (t - 1)) (wA 55 cl (sI (wA 54 cl (sI S1 5216) S1) 5217) (wA 54 cl (sI S1 5216) S1))) 5214 = nI tr) (mtr : tr < 341) (ma : a < 2 ^ 20) (c2 : Ans (d + 8) 263 [.ref 23, .int (nI nb)] (wI 5215 (nI op) (wI 5213 (nI (cl + 1)) (wA 59 cl (nI md) (wA 58 cl (sI (wA 57 cl (nI tr) (wA 56 cl (nI (t - 1)) (wA 55 cl (sI (wA 54 cl (sI S1 5216) S1) 5217) (wA 54 cl (sI S1 5216) S1)))) 5215) (wA 57 cl (nI tr) (wA 56 cl (nI (t - 1)) (wA 55 cl (sI (wA 54 cl (sI S1 5216) S1) 5217) (wA 54 cl (sI S1 5216) S1)))))))) (some (.int (nI a))) S2) : Bod (d + 8) 254 168 lv [] S (some (.int (nI 0))) (wI 5216 (nI a) S2) := by
  refine Bod.ildG dc_254_168 (by repeat (first | exact q9 | exact sm_get_p1 | exact sm_get_p2e | refine sm_get_p1m (by decide) (by decide) ?_ | refine sm_get_p1n (by decide) rfl ?_ | refine sm_get_p2n (by decide) (by decide) rfl ?_)) ?_
  refine Bod.ildnG dc_254_170 (by repeat (first | exact q2 | exact sm_get_p1 | exact sm_get_p2e | refine sm_get_p1m (by decide) (by decide) ?_ | refine sm_get_p1n (by decide) rfl ?_ | refine sm_get_p2n (by decide) (by decide) rfl ?_)) ?_
  refine Bod.icT dc_254_171 rfl (k2_ge_T ni gv rfl rfl (by omega) (by omega)) ?_
  refine Bod.aldnG dc_254_220 (by repeat (first | exact q0 | exact sm_get_p1 | exact sm_get_p2e | refine sm_get_p1m (by decide) (by decide) ?_ | refine sm_get_p1n (by decide) rfl ?_ | refine sm_get_p2n (by decide) (by decide) rfl ?_)) ?_
  refine Bod.get dc_254_221 fr_254_23 (mk_52 _) rfl ?_
  refine Bod.ildnG dc_254_224 (by repeat (first | exact q2 | exact sm_get_p1 | exact sm_get_p2e | refine sm_get_p1m (by decide) (by decide) ?_ | refine sm_get_p1n (by decide) rfl ?_ | refine sm_get_p2n (by decide) (by decide) rfl ?_)) ?_
  refine Bod.virt (r := []) dc_254_225 kr_254_330 ⟨Or.inr rfl, ow_261, cl_9⟩ (by rw [np_261]; rfl) (by rw [np_261]; rfl) (ob_of (mk_46 _)) (Nat.le_of_ble_eq_true rfl) (c1  ) ?_
  show Bod _ _ _ _ [] _ _ _
  refine Bod.aldnG dc_254_228 (by repeat (first | exact q0 | exact sm_get_p1 | exact sm_get_p2e | refine sm_get_p1m (by decide) (by decide) ?_ | refine sm_get_p1n (by decide) rfl ?_ | refine sm_get_p2n (by decide) (by decide) rfl ?_)) ?_
  refine Bod.get dc_254_229 fr_254_40 (mk_52 _) rfl ?_
  refine Bod.aldnG dc_254_232 (by repeat (first | exact q0 | exact sm_get_p1 | exact sm_get_p2e | refine sm_get_p1m (by decide) (by decide) ?_ | refine sm_get_p1n (by decide) rfl ?_ | refine sm_get_p2n (by decide) (by decide) rfl ?_)) ?_
  refine Bod.get dc_254_233 fr_254_150 (mk_52 _) rfl ?_
  refine Bod.eqI (nI cl) (by first | assumption | (simp (disch := omega) only [rI, rIe, rA, rIA, rLA, rJA, rVI, rQI, rVA, rQA, upd_at,  rAI, rLI, rJI, nI_add, pk_sub, kc_0, kc_1, kc_2, kc_3, kc_4, kc_5, reduceIte, Nat.reduceEqDiff, Nat.add_zero, rI_hold, rI_hold, rL_hold, hcl]; done) | (simp (disch := omega) only [rI, rIe, rA, rIA, rLA, rJA, rVI, rQI, rVA, rQA, upd_at,  rAI, rLI, rJI, nI_add, pk_sub, kc_0, kc_1, kc_2, kc_3, kc_4, kc_5, reduceIte, Nat.reduceEqDiff, Nat.add_zero, rI_hold, rI_hold, rL_hold, hcl]; exact congrArg nI (by omega))) ?_
  refine Bod.aldnG dc_254_236 (by repeat (first | exact q0 | exact sm_get_p1 | exact sm_get_p2e | refine sm_get_p1m (by decide) (by decide) ?_ | refine sm_get_p1n (by decide) rfl ?_ | refine sm_get_p2n (by decide) (by decide) rfl ?_)) ?_
  refine Bod.get dc_254_237 fr_254_69 (mk_52 _) rfl ?_
  refine Bod.iastN cl rfl (by omega) (by omega) dc_254_240 (mk_54 _) (sa_54 _ _ _) (mu_A _ _ _ _) ?_
  refine Bod.aldnG dc_254_241 (by repeat (first | exact q0 | exact sm_get_p1 | exact sm_get_p2e | refine sm_get_p1m (by decide) (by decide) ?_ | refine sm_get_p1n (by decide) rfl ?_ | refine sm_get_p2n (by decide) (by decide) rfl ?_)) ?_
  refine Bod.get dc_254_242 fr_254_44 (mk_52 _) rfl ?_
  refine Bod.aldnG dc_254_245 (by repeat (first | exact q0 | exact sm_get_p1 | exact sm_get_p2e | refine sm_get_p1m (by decide) (by decide) ?_ | refine sm_get_p1n (by decide) rfl ?_ | refine sm_get_p2n (by decide) (by decide) rfl ?_)) ?_
  refine Bod.get dc_254_246 fr_254_150 (mk_52 _) rfl ?_
  refine Bod.eqI (nI cl) (by first | assumption | (simp (disch := omega) only [rI, rIe, rA, rIA, rLA, rJA, rVI, rQI, rVA, rQA, upd_at,  rAI, rLI, rJI, nI_add, pk_sub, kc_0, kc_1, kc_2, kc_3, kc_4, kc_5, reduceIte, Nat.reduceEqDiff, Nat.add_zero, rI_hold, rI_hold, rL_hold, hcl]; done) | (simp (disch := omega) only [rI, rIe, rA, rIA, rLA, rJA, rVI, rQI, rVA, rQA, upd_at,  rAI, rLI, rJI, nI_add, pk_sub, kc_0, kc_1, kc_2, kc_3, kc_4, kc_5, reduceIte, Nat.reduceEqDiff, Nat.add_zero, rI_hold, rI_hold, rL_hold, hcl]; exact congrArg nI (by omega))) ?_
  refine Bod.aldnG dc_254_249 (by repeat (first | exact q0 | exact sm_get_p1 | exact sm_get_p2e | refine sm_get_p1m (by decide) (by decide) ?_ | refine sm_get_p1n (by decide) rfl ?_ | refine sm_get_p2n (by decide) (by decide) rfl ?_)) ?_
  refine Bod.get dc_254_250 fr_254_66 (mk_52 _) rfl ?_
  refine Bod.iastN cl rfl (by omega) (by omega) dc_254_253 (mk_55 _) (sa_55 _ _ _) (mu_A _ _ _ _) ?_
  refine Bod.aldnG dc_254_254 (by repeat (first | exact q0 | exact sm_get_p1 | exact sm_get_p2e | refine sm_get_p1m (by decide) (by decide) ?_ | refine sm_get_p1n (by decide) rfl ?_ | refine sm_get_p2n (by decide) (by decide) rfl ?_)) ?_
  refine Bod.get dc_254_255 fr_254_47 (mk_52 _) rfl ?_
  refine Bod.aldnG dc_254_258 (by repeat (first | exact q0 | exact sm_get_p1 | exact sm_get_p2e | refine sm_get_p1m (by decide) (by decide) ?_ | refine sm_get_p1n (by decide) rfl ?_ | refine sm_get_p2n (by decide) (by decide) rfl ?_)) ?_
  refine Bod.get dc_254_259 fr_254_150 (mk_52 _) rfl ?_
  refine Bod.eqI (nI cl) (by first | assumption | (simp (disch := omega) only [rI, rIe, rA, rIA, rLA, rJA, rVI, rQI, rVA, rQA, upd_at,  rAI, rLI, rJI, nI_add, pk_sub, kc_0, kc_1, kc_2, kc_3, kc_4, kc_5, reduceIte, Nat.reduceEqDiff, Nat.add_zero, rI_hold, rI_hold, rL_hold, hcl]; done) | (simp (disch := omega) only [rI, rIe, rA, rIA, rLA, rJA, rVI, rQI, rVA, rQA, upd_at,  rAI, rLI, rJI, nI_add, pk_sub, kc_0, kc_1, kc_2, kc_3, kc_4, kc_5, reduceIte, Nat.reduceEqDiff, Nat.add_zero, rI_hold, rI_hold, rL_hold, hcl]; exact congrArg nI (by omega))) ?_
  refine Bod.aldnG dc_254_262 (by repeat (first | exact q0 | exact sm_get_p1 | exact sm_get_p2e | refine sm_get_p1m (by decide) (by decide) ?_ | refine sm_get_p1n (by decide) rfl ?_ | refine sm_get_p2n (by decide) (by decide) rfl ?_)) ?_
  refine Bod.get dc_254_263 fr_254_23 (mk_52 _) rfl ?_
  refine Bod.get dc_254_266 fr_254_122 (mk_46 _) rfl ?_
  refine Bod.eqI (nI t) (by first | assumption | (simp (disch := omega) only [rI, rIe, rA, rIA, rLA, rJA, rVI, rQI, rVA, rQA, upd_at,  rAI, rLI, rJI, nI_add, pk_sub, kc_0, kc_1, kc_2, kc_3, kc_4, kc_5, reduceIte, Nat.reduceEqDiff, Nat.add_zero, rI_hold, rI_hold, rL_hold, hcl, ht]; done) | (simp (disch := omega) only [rI, rIe, rA, rIA, rLA, rJA, rVI, rQI, rVA, rQA, upd_at,  rAI, rLI, rJI, nI_add, pk_sub, kc_0, kc_1, kc_2, kc_3, kc_4, kc_5, reduceIte, Nat.reduceEqDiff, Nat.add_zero, rI_hold, rI_hold, rL_hold, hcl, ht]; exact congrArg nI (by omega))) ?_
  refine Bod.ic 1 (by decide) dc_254_269 ?_
  refine Bod.subN (t - 1) (by omega) (by omega) dc_254_270 ?_
  refine Bod.iastN cl rfl (by omega) (by omega) dc_254_271 (mk_56 _) (sa_56 _ _ _) (mu_A _ _ _ _) ?_
  refine Bod.aldnG dc_254_272 (by repeat (first | exact q0 | exact sm_get_p1 | exact sm_get_p2e | refine sm_get_p1m (by decide) (by decide) ?_ | refine sm_get_p1n (by decide) rfl ?_ | refine sm_get_p2n (by decide) (by decide) rfl ?_)) ?_
  refine Bod.get dc_254_273 fr_254_50 (mk_52 _) rfl ?_
  refine Bod.aldnG dc_254_276 (by repeat (first | exact q0 | exact sm_get_p1 | exact sm_get_p2e | refine sm_get_p1m (by decide) (by decide) ?_ | refine sm_get_p1n (by decide) rfl ?_ | refine sm_get_p2n (by decide) (by decide) rfl ?_)) ?_
  refine Bod.get dc_254_277 fr_254_150 (mk_52 _) rfl ?_
  refine Bod.eqI (nI cl) (by first | assumption | (simp (disch := omega) only [rI, rIe, rA, rIA, rLA, rJA, rVI, rQI, rVA, rQA, upd_at,  rAI, rLI, rJI, nI_add, pk_sub, kc_0, kc_1, kc_2, kc_3, kc_4, kc_5, reduceIte, Nat.reduceEqDiff, Nat.add_zero, rI_hold, rI_hold, rL_hold, hcl, ht]; done) | (simp (disch := omega) only [rI, rIe, rA, rIA, rLA, rJA, rVI, rQI, rVA, rQA, upd_at,  rAI, rLI, rJI, nI_add, pk_sub, kc_0, kc_1, kc_2, kc_3, kc_4, kc_5, reduceIte, Nat.reduceEqDiff, Nat.add_zero, rI_hold, rI_hold, rL_hold, hcl, ht]; exact congrArg nI (by omega))) ?_
  refine Bod.aldnG dc_254_280 (by repeat (first | exact q0 | exact sm_get_p1 | exact sm_get_p2e | refine sm_get_p1m (by decide) (by decide) ?_ | refine sm_get_p1n (by decide) rfl ?_ | refine sm_get_p2n (by decide) (by decide) rfl ?_)) ?_
  refine Bod.get dc_254_281 fr_254_75 (mk_52 _) rfl ?_
  refine Bod.eqI (nI tr) (by first | assumption | (simp (disch := omega) only [rI, rIe, rA, rIA, rLA, rJA, rVI, rQI, rVA, rQA, upd_at,  rAI, rLI, rJI, nI_add, pk_sub, kc_0, kc_1, kc_2, kc_3, kc_4, kc_5, reduceIte, Nat.reduceEqDiff, Nat.add_zero, rI_hold, rI_hold, rL_hold, hcl, ht, htr]; done) | (simp (disch := omega) only [rI, rIe, rA, rIA, rLA, rJA, rVI, rQI, rVA, rQA, upd_at,  rAI, rLI, rJI, nI_add, pk_sub, kc_0, kc_1, kc_2, kc_3, kc_4, kc_5, reduceIte, Nat.reduceEqDiff, Nat.add_zero, rI_hold, rI_hold, rL_hold, hcl, ht, htr]; exact congrArg nI (by omega))) ?_
  refine Bod.iastN cl rfl (by omega) (by omega) dc_254_284 (mk_57 _) (sa_57 _ _ _) (mu_A _ _ _ _) ?_
  refine Bod.aldnG dc_254_285 (by repeat (first | exact q0 | exact sm_get_p1 | exact sm_get_p2e | refine sm_get_p1m (by decide) (by decide) ?_ | refine sm_get_p1n (by decide) rfl ?_ | refine sm_get_p2n (by decide) (by decide) rfl ?_)) ?_
  refine Bod.get dc_254_286 fr_254_53 (mk_52 _) rfl ?_
  refine Bod.aldnG dc_254_289 (by repeat (first | exact q0 | exact sm_get_p1 | exact sm_get_p2e | refine sm_get_p1m (by decide) (by decide) ?_ | refine sm_get_p1n (by decide) rfl ?_ | refine sm_get_p2n (by decide) (by decide) rfl ?_)) ?_
  refine Bod.get dc_254_290 fr_254_150 (mk_52 _) rfl ?_
  refine Bod.eqI (nI cl) (by first | assumption | (simp (disch := omega) only [rI, rIe, rA, rIA, rLA, rJA, rVI, rQI, rVA, rQA, upd_at,  rAI, rLI, rJI, nI_add, pk_sub, kc_0, kc_1, kc_2, kc_3, kc_4, kc_5, reduceIte, Nat.reduceEqDiff, Nat.add_zero, rI_hold, rI_hold, rL_hold, hcl, ht, htr]; done) | (simp (disch := omega) only [rI, rIe, rA, rIA, rLA, rJA, rVI, rQI, rVA, rQA, upd_at,  rAI, rLI, rJI, nI_add, pk_sub, kc_0, kc_1, kc_2, kc_3, kc_4, kc_5, reduceIte, Nat.reduceEqDiff, Nat.add_zero, rI_hold, rI_hold, rL_hold, hcl, ht, htr]; exact congrArg nI (by omega))) ?_
  refine Bod.aldnG dc_254_293 (by repeat (first | exact q0 | exact sm_get_p1 | exact sm_get_p2e | refine sm_get_p1m (by decide) (by decide) ?_ | refine sm_get_p1n (by decide) rfl ?_ | refine sm_get_p2n (by decide) (by decide) rfl ?_)) ?_
  refine Bod.get dc_254_294 fr_254_78 (mk_52 _) rfl ?_
  refine Bod.iastN cl rfl (by omega) (by omega) dc_254_297 (mk_58 _) (sa_58 _ _ _) (mu_A _ _ _ _) ?_
  refine Bod.aldnG dc_254_298 (by repeat (first | exact q0 | exact sm_get_p1 | exact sm_get_p2e | refine sm_get_p1m (by decide) (by decide) ?_ | refine sm_get_p1n (by decide) rfl ?_ | refine sm_get_p2n (by decide) (by decide) rfl ?_)) ?_
  refine Bod.get dc_254_299 fr_254_56 (mk_52 _) rfl ?_
  refine Bod.aldnG dc_254_302 (by repeat (first | exact q0 | exact sm_get_p1 | exact sm_get_p2e | refine sm_get_p1m (by decide) (by decide) ?_ | refine sm_get_p1n (by decide) rfl ?_ | refine sm_get_p2n (by decide) (by decide) rfl ?_)) ?_
  refine Bod.get dc_254_303 fr_254_150 (mk_52 _) rfl ?_
  refine Bod.eqI (nI cl) (by first | assumption | (simp (disch := omega) only [rI, rIe, rA, rIA, rLA, rJA, rVI, rQI, rVA, rQA, upd_at,  rAI, rLI, rJI, nI_add, pk_sub, kc_0, kc_1, kc_2, kc_3, kc_4, kc_5, reduceIte, Nat.reduceEqDiff, Nat.add_zero, rI_hold, rI_hold, rL_hold, hcl, ht, htr]; done) | (simp (disch := omega) only [rI, rIe, rA, rIA, rLA, rJA, rVI, rQI, rVA, rQA, upd_at,  rAI, rLI, rJI, nI_add, pk_sub, kc_0, kc_1, kc_2, kc_3, kc_4, kc_5, reduceIte, Nat.reduceEqDiff, Nat.add_zero, rI_hold, rI_hold, rL_hold, hcl, ht, htr]; exact congrArg nI (by omega))) ?_
  refine Bod.ildG dc_254_306 (by repeat (first | exact q4 | exact sm_get_p1 | exact sm_get_p2e | refine sm_get_p1m (by decide) (by decide) ?_ | refine sm_get_p1n (by decide) rfl ?_ | refine sm_get_p2n (by decide) (by decide) rfl ?_)) ?_
  refine Bod.iastN cl rfl (by omega) (by omega) dc_254_308 (mk_59 _) (sa_59 _ _ _) (mu_A _ _ _ _) ?_
  refine Bod.aldnG dc_254_309 (by repeat (first | exact q0 | exact sm_get_p1 | exact sm_get_p2e | refine sm_get_p1m (by decide) (by decide) ?_ | refine sm_get_p1n (by decide) rfl ?_ | refine sm_get_p2n (by decide) (by decide) rfl ?_)) ?_
  refine Bod.go dc_254_310 rfl ?_
  refine Bod.get dc_254_311 fr_254_150 (mk_52 _) rfl ?_
  refine Bod.eqI (nI cl) (by first | assumption | (simp (disch := omega) only [rI, rIe, rA, rIA, rLA, rJA, rVI, rQI, rVA, rQA, upd_at,  rAI, rLI, rJI, nI_add, pk_sub, kc_0, kc_1, kc_2, kc_3, kc_4, kc_5, reduceIte, Nat.reduceEqDiff, Nat.add_zero, rI_hold, rI_hold, rL_hold, hcl, ht, htr]; done) | (simp (disch := omega) only [rI, rIe, rA, rIA, rLA, rJA, rVI, rQI, rVA, rQA, upd_at,  rAI, rLI, rJI, nI_add, pk_sub, kc_0, kc_1, kc_2, kc_3, kc_4, kc_5, reduceIte, Nat.reduceEqDiff, Nat.add_zero, rI_hold, rI_hold, rL_hold, hcl, ht, htr]; exact congrArg nI (by omega))) ?_
  refine Bod.ic 1 (by decide) dc_254_314 ?_
  refine Bod.addN (cl + 1) (by omega) dc_254_315 ?_
  refine Bod.put dc_254_316 fr_254_150 (mk_52 _) (Nat.le_of_ble_eq_true rfl) pf_4_13 (st_5213 _ _) (mu_I _ _ _) ?_
  refine Bod.aldnG dc_254_319 (by repeat (first | exact q0 | exact sm_get_p1 | exact sm_get_p2e | refine sm_get_p1m (by decide) (by decide) ?_ | refine sm_get_p1n (by decide) rfl ?_ | refine sm_get_p2n (by decide) (by decide) rfl ?_)) ?_
  refine Bod.ildG dc_254_320 (by repeat (first | exact q8 | exact sm_get_p1 | exact sm_get_p2e | refine sm_get_p1m (by decide) (by decide) ?_ | refine sm_get_p1n (by decide) rfl ?_ | refine sm_get_p2n (by decide) (by decide) rfl ?_)) ?_
  refine Bod.put dc_254_322 fr_254_78 (mk_52 _) (Nat.le_of_ble_eq_true rfl) pf_4_15 (st_5215 _ _) (mu_I _ _ _) ?_
  refine Bod.aldnG dc_254_325 (by repeat (first | exact q0 | exact sm_get_p1 | exact sm_get_p2e | refine sm_get_p1m (by decide) (by decide) ?_ | refine sm_get_p1n (by decide) rfl ?_ | refine sm_get_p2n (by decide) (by decide) rfl ?_)) ?_
  refine Bod.aldnG dc_254_326 (by repeat (first | exact q0 | exact sm_get_p1 | exact sm_get_p2e | refine sm_get_p1m (by decide) (by decide) ?_ | refine sm_get_p1n (by decide) rfl ?_ | refine sm_get_p2n (by decide) (by decide) rfl ?_)) ?_
  refine Bod.get dc_254_327 fr_254_11 (mk_52 _) rfl ?_
  refine Bod.ildG dc_254_330 (by repeat (first | exact q5 | exact sm_get_p1 | exact sm_get_p2e | refine sm_get_p1m (by decide) (by decide) ?_ | refine sm_get_p1n (by decide) rfl ?_ | refine sm_get_p2n (by decide) (by decide) rfl ?_)) ?_
  refine Bod.virt (r := [_]) dc_254_332 kr_254_333 ⟨Or.inr rfl, ow_263, cl_7⟩ (by rw [np_263]; rfl) (by rw [np_263]; rfl) (ob_of (mk_23 _)) (Nat.le_of_ble_eq_true rfl) (c2  ) ?_
  show Bod _ _ _ _ [_, _] _ _ _
  refine Bod.put dc_254_335 fr_254_69 (mk_52 _) (Nat.le_of_ble_eq_true rfl) pf_4_16 (st_5216 _ _) (mu_I _ _ _) ?_
  refine Bod.ic 0 (by decide) dc_254_338 ?_
  exact Bod.retI dc_254_339 rt_254
theorem mEnL_2 {d : Nat} {S Sf : cS} {v : Option Value} {lv : sm_L} {gv : Nat} {md : Nat} {nb : Nat} {f1 : Nat} {op : Nat} {ni : Nat} {S1 : cS} {u : Int64} {S2 : cS} {u1 : Int64} {S3 : cS} (q0 : sm_get lv 0 = some (.ref 52)) (q2 : sm_get lv 2 = some (.int (nI gv))) (q4 : sm_get lv 4 = some (.int (nI md))) (q5 : sm_get lv 5 = some (.int (nI nb))) (q6 : sm_get lv 6 = some (.int (nI f1))) (q8 : sm_get lv 8 = some (.int (nI op))) (q9 : sm_get lv 9 = some (.int (nI ni))) (mgv : gv < 2 ^ 20) (mmd : md < 2 ^ 20) (mnb : nb < 2 ^ 20) (mf1 : f1 < 2 ^ 20) (mop : op < 2 ^ 20) (mni : ni < 2 ^ 20) (b1 : ni < gv) (b2 : 1 ≤ gv) (b3 : ni ≤ gv - 1) (c1 : Ans (d + 8) 132 [.ref 46, .int (nI (gv - 1 - ni))] S (some (.long u)) S1) (b4 : 1 ≤ gv) (b5 : ni ≤ gv - 1) (c2 : Ans (d + 8) 135 [.ref 46, .int (nI (gv - 1 - ni))] S1 (some (.long u1)) S2) (c3 : Ans (d + 8) 260 [.ref 2, .int (nI op), .int (nI (f1 + ni)), .long u, .long u1] S2 none S3) (hB : ∀ lv1 : sm_L, sm_get lv1 0 = some (.ref 52) → sm_get lv1 2 = some (.int (nI gv)) → sm_get lv1 4 = some (.int (nI md)) → sm_get lv1 5 = some (.int (nI nb)) → sm_get lv1 6 = some (.int (nI f1)) → sm_get lv1 8 = some (.int (nI op)) → sm_get lv1 9 = some (.int (nI (ni + 1))) → Bod (d + 8) 254 168 lv1 [] (S3) v Sf) : Bod (d + 8) 254 168 lv [] S v Sf := by
  refine Bod.ildG dc_254_168 (by repeat (first | exact q9 | exact sm_get_p1 | exact sm_get_p2e | refine sm_get_p1m (by decide) (by decide) ?_ | refine sm_get_p1n (by decide) rfl ?_ | refine sm_get_p2n (by decide) (by decide) rfl ?_)) ?_
  refine Bod.ildnG dc_254_170 (by repeat (first | exact q2 | exact sm_get_p1 | exact sm_get_p2e | refine sm_get_p1m (by decide) (by decide) ?_ | refine sm_get_p1n (by decide) rfl ?_ | refine sm_get_p2n (by decide) (by decide) rfl ?_)) ?_
  refine Bod.icF dc_254_171 rfl (k2_ge_F ni gv rfl rfl (by omega) (by omega)) ?_
  refine Bod.aldnG dc_254_174 (by repeat (first | exact q0 | exact sm_get_p1 | exact sm_get_p2e | refine sm_get_p1m (by decide) (by decide) ?_ | refine sm_get_p1n (by decide) rfl ?_ | refine sm_get_p2n (by decide) (by decide) rfl ?_)) ?_
  refine Bod.get dc_254_175 fr_254_15 (mk_52 _) rfl ?_
  refine Bod.ildG dc_254_178 (by repeat (first | exact q8 | exact sm_get_p1 | exact sm_get_p2e | refine sm_get_p1m (by decide) (by decide) ?_ | refine sm_get_p1n (by decide) rfl ?_ | refine sm_get_p2n (by decide) (by decide) rfl ?_)) ?_
  refine Bod.ildG dc_254_180 (by repeat (first | exact q6 | exact sm_get_p1 | exact sm_get_p2e | refine sm_get_p1m (by decide) (by decide) ?_ | refine sm_get_p1n (by decide) rfl ?_ | refine sm_get_p2n (by decide) (by decide) rfl ?_)) ?_
  refine Bod.ildG dc_254_182 (by repeat (first | exact q9 | exact sm_get_p1 | exact sm_get_p2e | refine sm_get_p1m (by decide) (by decide) ?_ | refine sm_get_p1n (by decide) rfl ?_ | refine sm_get_p2n (by decide) (by decide) rfl ?_)) ?_
  refine Bod.addN (f1 + ni) (by omega) dc_254_184 ?_
  refine Bod.aldnG dc_254_185 (by repeat (first | exact q0 | exact sm_get_p1 | exact sm_get_p2e | refine sm_get_p1m (by decide) (by decide) ?_ | refine sm_get_p1n (by decide) rfl ?_ | refine sm_get_p2n (by decide) (by decide) rfl ?_)) ?_
  refine Bod.get dc_254_186 fr_254_23 (mk_52 _) rfl ?_
  refine Bod.ildnG dc_254_189 (by repeat (first | exact q2 | exact sm_get_p1 | exact sm_get_p2e | refine sm_get_p1m (by decide) (by decide) ?_ | refine sm_get_p1n (by decide) rfl ?_ | refine sm_get_p2n (by decide) (by decide) rfl ?_)) ?_
  refine Bod.ic 1 (by decide) dc_254_190 ?_
  refine Bod.subN (gv - 1) (by omega) (by omega) dc_254_191 ?_
  refine Bod.ildG dc_254_192 (by repeat (first | exact q9 | exact sm_get_p1 | exact sm_get_p2e | refine sm_get_p1m (by decide) (by decide) ?_ | refine sm_get_p1n (by decide) rfl ?_ | refine sm_get_p2n (by decide) (by decide) rfl ?_)) ?_
  refine Bod.subN (gv - 1 - ni) (by omega) (by omega) dc_254_194 ?_
  refine Bod.virt (r := [_, _, _]) dc_254_195 kr_254_133 ⟨Or.inr rfl, ow_132, cl_9⟩ (by rw [np_132]; rfl) (by rw [np_132]; rfl) (ob_of (mk_46 _)) (Nat.le_of_ble_eq_true rfl) (c1  ) ?_
  show Bod _ _ _ _ [_, _, _, _] _ _ _
  refine Bod.aldnG dc_254_198 (by repeat (first | exact q0 | exact sm_get_p1 | exact sm_get_p2e | refine sm_get_p1m (by decide) (by decide) ?_ | refine sm_get_p1n (by decide) rfl ?_ | refine sm_get_p2n (by decide) (by decide) rfl ?_)) ?_
  refine Bod.get dc_254_199 fr_254_23 (mk_52 _) rfl ?_
  refine Bod.ildnG dc_254_202 (by repeat (first | exact q2 | exact sm_get_p1 | exact sm_get_p2e | refine sm_get_p1m (by decide) (by decide) ?_ | refine sm_get_p1n (by decide) rfl ?_ | refine sm_get_p2n (by decide) (by decide) rfl ?_)) ?_
  refine Bod.ic 1 (by decide) dc_254_203 ?_
  refine Bod.subN (gv - 1) (by omega) (by omega) dc_254_204 ?_
  refine Bod.ildG dc_254_205 (by repeat (first | exact q9 | exact sm_get_p1 | exact sm_get_p2e | refine sm_get_p1m (by decide) (by decide) ?_ | refine sm_get_p1n (by decide) rfl ?_ | refine sm_get_p2n (by decide) (by decide) rfl ?_)) ?_
  refine Bod.subN (gv - 1 - ni) (by omega) (by omega) dc_254_207 ?_
  refine Bod.virt (r := [_, _, _, _]) dc_254_208 kr_254_141 ⟨Or.inr rfl, ow_135, cl_9⟩ (by rw [np_135]; rfl) (by rw [np_135]; rfl) (ob_of (mk_46 _)) (Nat.le_of_ble_eq_true rfl) (c2  ) ?_
  show Bod _ _ _ _ [_, _, _, _, _] _ _ _
  refine Bod.virt (r := []) dc_254_211 kr_254_327 ⟨Or.inr rfl, ow_260, cl_2⟩ (by rw [np_260]; rfl) (by rw [np_260]; rfl) (ob_of (mk_2 _)) (Nat.le_of_ble_eq_true rfl) (c3  ) ?_
  show Bod _ _ _ _ [] _ _ _
  refine Bod.incN (ni + 1) (by rw [kc_1, nI_add]) dc_254_214 (by rw [ml_254]; exact Nat.le_of_ble_eq_true rfl) (by repeat (first | exact q9 | exact sm_get_p1 | exact sm_get_p2e | refine sm_get_p1m (by decide) (by decide) ?_ | refine sm_get_p1n (by decide) rfl ?_ | refine sm_get_p2n (by decide) (by decide) rfl ?_)) ?_
  refine Bod.go dc_254_217 rfl ?_
  exact hB _ (by repeat (first | exact q0 | exact sm_get_p1 | exact sm_get_p2e | refine sm_get_p1m (by decide) (by decide) ?_ | refine sm_get_p1n (by decide) rfl ?_ | refine sm_get_p2n (by decide) (by decide) rfl ?_)) (by repeat (first | exact q2 | exact sm_get_p1 | exact sm_get_p2e | refine sm_get_p1m (by decide) (by decide) ?_ | refine sm_get_p1n (by decide) rfl ?_ | refine sm_get_p2n (by decide) (by decide) rfl ?_)) (by repeat (first | exact q4 | exact sm_get_p1 | exact sm_get_p2e | refine sm_get_p1m (by decide) (by decide) ?_ | refine sm_get_p1n (by decide) rfl ?_ | refine sm_get_p2n (by decide) (by decide) rfl ?_)) (by repeat (first | exact q5 | exact sm_get_p1 | exact sm_get_p2e | refine sm_get_p1m (by decide) (by decide) ?_ | refine sm_get_p1n (by decide) rfl ?_ | refine sm_get_p2n (by decide) (by decide) rfl ?_)) (by repeat (first | exact q6 | exact sm_get_p1 | exact sm_get_p2e | refine sm_get_p1m (by decide) (by decide) ?_ | refine sm_get_p1n (by decide) rfl ?_ | refine sm_get_p2n (by decide) (by decide) rfl ?_)) (by repeat (first | exact q8 | exact sm_get_p1 | exact sm_get_p2e | refine sm_get_p1m (by decide) (by decide) ?_ | refine sm_get_p1n (by decide) rfl ?_ | refine sm_get_p2n (by decide) (by decide) rfl ?_)) (by repeat (first | exact q0 | exact sm_get_p1 | exact sm_get_p2e | refine sm_get_p1m (by decide) (by decide) ?_ | refine sm_get_p1n (by decide) rfl ?_ | refine sm_get_p2n (by decide) (by decide) rfl ?_))
