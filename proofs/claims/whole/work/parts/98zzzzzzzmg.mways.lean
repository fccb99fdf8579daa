/-! WAYS of the class's machine: every call is a hypothesis -/
theorem ml_192 : sm_ml 192 = 8 := by decide +kernel
theorem dc_192_0 : decode (sm_cc 192) 0 = .ok (.aload_n 0, 1) := by decide +kernel
theorem dc_192_1 : decode (sm_cc 192) 1 = .ok (.getfield 15, 3) := by decide +kernel
theorem fr_192_15 : sm_at mt_f (sm_ow 192) 15 = some (15, 6, 1, 0, 827) := by decide +kernel
theorem dc_192_4 : decode (sm_cc 192) 4 = .ok (.iconst 1, 1) := by decide +kernel
theorem dc_192_5 : decode (sm_cc 192) 5 = .ok (.invokevirtual 70, 3) := by decide +kernel
theorem kr_192_70 : sm_at mt_k (sm_ow 192) 70 = some (70, 1, 132, 1, 1627) := by decide +kernel
theorem dc_192_8 : decode (sm_cc 192) 8 = .ok (.lstore_n 1, 1) := by decide +kernel
theorem dc_192_9 : decode (sm_cc 192) 9 = .ok (.aload_n 0, 1) := by decide +kernel
theorem dc_192_10 : decode (sm_cc 192) 10 = .ok (.getfield 15, 3) := by decide +kernel
theorem dc_192_13 : decode (sm_cc 192) 13 = .ok (.iconst 1, 1) := by decide +kernel
theorem dc_192_14 : decode (sm_cc 192) 14 = .ok (.invokevirtual 111, 3) := by decide +kernel
theorem kr_192_111 : sm_at mt_k (sm_ow 192) 111 = some (111, 1, 135, 1, 1626) := by decide +kernel
theorem dc_192_17 : decode (sm_cc 192) 17 = .ok (.lstore_n 3, 1) := by decide +kernel
theorem dc_192_18 : decode (sm_cc 192) 18 = .ok (.aload_n 0, 1) := by decide +kernel
theorem dc_192_19 : decode (sm_cc 192) 19 = .ok (.getfield 15, 3) := by decide +kernel
theorem dc_192_22 : decode (sm_cc 192) 22 = .ok (.iconst 0, 1) := by decide +kernel
theorem dc_192_23 : decode (sm_cc 192) 23 = .ok (.invokevirtual 70, 3) := by decide +kernel
theorem dc_192_26 : decode (sm_cc 192) 26 = .ok (.invokestatic 116, 3) := by decide +kernel
theorem kr_192_116 : sm_at mt_k (sm_ow 192) 116 = some (116, 3, 47, 1, 1638) := by decide +kernel
theorem dc_192_29 : decode (sm_cc 192) 29 = .ok (.istore 5, 2) := by decide +kernel
theorem dc_192_31 : decode (sm_cc 192) 31 = .ok (.lload_n 1, 1) := by decide +kernel
theorem dc_192_32 : decode (sm_cc 192) 32 = .ok (.invokestatic 116, 3) := by decide +kernel
theorem dc_192_35 : decode (sm_cc 192) 35 = .ok (.iload 5, 2) := by decide +kernel
theorem dc_192_37 : decode (sm_cc 192) 37 = .ok (.iadd, 1) := by decide +kernel
theorem dc_192_38 : decode (sm_cc 192) 38 = .ok (.bipush (15), 2) := by decide +kernel
theorem dc_192_40 : decode (sm_cc 192) 40 = .ok (.if_icmp .le (6), 3) := by decide +kernel
theorem dc_192_46 : decode (sm_cc 192) 46 = .ok (.iconst 0, 1) := by decide +kernel
theorem dc_192_47 : decode (sm_cc 192) 47 = .ok (.istore 6, 2) := by decide +kernel
theorem dc_192_43 : decode (sm_cc 192) 43 = .ok (.bipush (8), 2) := by decide +kernel
theorem dc_192_45 : decode (sm_cc 192) 45 = .ok (.ireturn, 1) := by decide +kernel
theorem rt_192 : sm_rt 192 = some .int := by decide +kernel
theorem dc_192_49 : decode (sm_cc 192) 49 = .ok (.iload 6, 2) := by decide +kernel
theorem dc_192_51 : decode (sm_cc 192) 51 = .ok (.iload 5, 2) := by decide +kernel
theorem dc_192_53 : decode (sm_cc 192) 53 = .ok (.if_icmp .ge (47), 3) := by decide +kernel
theorem dc_192_100 : decode (sm_cc 192) 100 = .ok (.aload_n 0, 1) := by decide +kernel
theorem dc_192_101 : decode (sm_cc 192) 101 = .ok (.getfield 15, 3) := by decide +kernel
theorem dc_192_104 : decode (sm_cc 192) 104 = .ok (.iconst 2, 1) := by decide +kernel
theorem dc_192_105 : decode (sm_cc 192) 105 = .ok (.lload_n 1, 1) := by decide +kernel
theorem dc_192_106 : decode (sm_cc 192) 106 = .ok (.lload_n 3, 1) := by decide +kernel
theorem dc_192_107 : decode (sm_cc 192) 107 = .ok (.invokevirtual 31, 3) := by decide +kernel
theorem kr_192_31 : sm_at mt_k (sm_ow 192) 31 = some (31, 1, 148, 1, 1621) := by decide +kernel
theorem dc_192_110 : decode (sm_cc 192) 110 = .ok (.ireturn, 1) := by decide +kernel
theorem dc_192_56 : decode (sm_cc 192) 56 = .ok (.aload_n 0, 1) := by decide +kernel
theorem dc_192_57 : decode (sm_cc 192) 57 = .ok (.getfield 15, 3) := by decide +kernel
theorem dc_192_60 : decode (sm_cc 192) 60 = .ok (.iconst 0, 1) := by decide +kernel
theorem dc_192_61 : decode (sm_cc 192) 61 = .ok (.invokevirtual 70, 3) := by decide +kernel
theorem dc_192_64 : decode (sm_cc 192) 64 = .ok (.aload_n 0, 1) := by decide +kernel
theorem dc_192_65 : decode (sm_cc 192) 65 = .ok (.getfield 15, 3) := by decide +kernel
theorem dc_192_68 : decode (sm_cc 192) 68 = .ok (.iconst 0, 1) := by decide +kernel
theorem dc_192_69 : decode (sm_cc 192) 69 = .ok (.invokevirtual 111, 3) := by decide +kernel
theorem dc_192_72 : decode (sm_cc 192) 72 = .ok (.iload 6, 2) := by decide +kernel
theorem dc_192_74 : decode (sm_cc 192) 74 = .ok (.invokestatic 119, 3) := by decide +kernel
theorem kr_192_119 : sm_at mt_k (sm_ow 192) 119 = some (119, 3, 193, 1, 1639) := by decide +kernel
theorem dc_192_77 : decode (sm_cc 192) 77 = .ok (.istore 7, 2) := by decide +kernel
theorem dc_192_79 : decode (sm_cc 192) 79 = .ok (.lload_n 1, 1) := by decide +kernel
theorem dc_192_80 : decode (sm_cc 192) 80 = .ok (.lload_n 3, 1) := by decide +kernel
theorem dc_192_81 : decode (sm_cc 192) 81 = .ok (.iload 7, 2) := by decide +kernel
theorem dc_192_83 : decode (sm_cc 192) 83 = .ok (.invokestatic 123, 3) := by decide +kernel
theorem kr_192_123 : sm_at mt_k (sm_ow 192) 123 = some (123, 3, 16, 1, 1642) := by decide +kernel
theorem dc_192_86 : decode (sm_cc 192) 86 = .ok (.lstore_n 3, 1) := by decide +kernel
theorem dc_192_87 : decode (sm_cc 192) 87 = .ok (.lload_n 1, 1) := by decide +kernel
theorem dc_192_88 : decode (sm_cc 192) 88 = .ok (.iload 7, 2) := by decide +kernel
theorem dc_192_90 : decode (sm_cc 192) 90 = .ok (.invokestatic 127, 3) := by decide +kernel
theorem kr_192_127 : sm_at mt_k (sm_ow 192) 127 = some (127, 3, 17, 1, 1643) := by decide +kernel
theorem dc_192_93 : decode (sm_cc 192) 93 = .ok (.lstore_n 1, 1) := by decide +kernel
theorem dc_192_94 : decode (sm_cc 192) 94 = .ok (.iinc 6 (1), 3) := by decide +kernel
theorem dc_192_97 : decode (sm_cc 192) 97 = .ok (.goto (-48), 3) := by decide +kernel
theorem ml_195 : sm_ml 195 = 5 := by decide +kernel
theorem dc_195_0 : decode (sm_cc 195) 0 = .ok (.aload_n 0, 1) := by decide +kernel
theorem dc_195_1 : decode (sm_cc 195) 1 = .ok (.iload_n 2, 1) := by decide +kernel
theorem dc_195_2 : decode (sm_cc 195) 2 = .ok (.invokevirtual 121, 3) := by decide +kernel
theorem kr_195_121 : sm_at mt_k (sm_ow 195) 121 = some (121, 0, 140, 0, 1655) := by decide +kernel
theorem dc_195_5 : decode (sm_cc 195) 5 = .ok (.istore_n 3, 1) := by decide +kernel
theorem dc_195_6 : decode (sm_cc 195) 6 = .ok (.iconst 0, 1) := by decide +kernel
theorem dc_195_7 : decode (sm_cc 195) 7 = .ok (.istore 4, 2) := by decide +kernel
theorem dc_195_9 : decode (sm_cc 195) 9 = .ok (.iload 4, 2) := by decide +kernel
theorem dc_195_11 : decode (sm_cc 195) 11 = .ok (.iload_n 3, 1) := by decide +kernel
theorem dc_195_12 : decode (sm_cc 195) 12 = .ok (.if_icmp .ge (31), 3) := by decide +kernel
theorem dc_195_43 : decode (sm_cc 195) 43 = .ok (.return_, 1) := by decide +kernel
theorem rt_195 : sm_rt 195 = none := by decide +kernel
theorem dc_195_15 : decode (sm_cc 195) 15 = .ok (.aload_n 0, 1) := by decide +kernel
theorem dc_195_16 : decode (sm_cc 195) 16 = .ok (.iload_n 1, 1) := by decide +kernel
theorem dc_195_17 : decode (sm_cc 195) 17 = .ok (.lconst 0, 1) := by decide +kernel
theorem dc_195_18 : decode (sm_cc 195) 18 = .ok (.lconst 0, 1) := by decide +kernel
theorem dc_195_19 : decode (sm_cc 195) 19 = .ok (.aload_n 0, 1) := by decide +kernel
theorem dc_195_20 : decode (sm_cc 195) 20 = .ok (.iload_n 2, 1) := by decide +kernel
theorem dc_195_21 : decode (sm_cc 195) 21 = .ok (.iload 4, 2) := by decide +kernel
theorem dc_195_23 : decode (sm_cc 195) 23 = .ok (.invokevirtual 124, 3) := by decide +kernel
theorem kr_195_124 : sm_at mt_k (sm_ow 195) 124 = some (124, 0, 156, 0, 1656) := by decide +kernel
theorem dc_195_26 : decode (sm_cc 195) 26 = .ok (.aload_n 0, 1) := by decide +kernel
theorem dc_195_27 : decode (sm_cc 195) 27 = .ok (.iload_n 2, 1) := by decide +kernel
theorem dc_195_28 : decode (sm_cc 195) 28 = .ok (.iload 4, 2) := by decide +kernel
theorem dc_195_30 : decode (sm_cc 195) 30 = .ok (.invokevirtual 128, 3) := by decide +kernel
theorem kr_195_128 : sm_at mt_k (sm_ow 195) 128 = some (128, 0, 158, 0, 1657) := by decide +kernel
theorem dc_195_33 : decode (sm_cc 195) 33 = .ok (.invokevirtual 131, 3) := by decide +kernel
theorem kr_195_131 : sm_at mt_k (sm_ow 195) 131 = some (131, 0, 183, 0, 1658) := by decide +kernel
theorem dc_195_36 : decode (sm_cc 195) 36 = .ok (.pop, 1) := by decide +kernel
theorem dc_195_37 : decode (sm_cc 195) 37 = .ok (.iinc 4 (1), 3) := by decide +kernel
theorem dc_195_40 : decode (sm_cc 195) 40 = .ok (.goto (-31), 3) := by decide +kernel
theorem ml_204 : sm_ml 204 = 9 := by decide +kernel
theorem dc_204_0 : decode (sm_cc 204) 0 = .ok (.aload_n 0, 1) := by decide +kernel
theorem dc_204_1 : decode (sm_cc 204) 1 = .ok (.getfield 15, 3) := by decide +kernel
theorem fr_204_15 : sm_at mt_f (sm_ow 204) 15 = some (15, 6, 1, 0, 827) := by decide +kernel
theorem dc_204_4 : decode (sm_cc 204) 4 = .ok (.iconst 0, 1) := by decide +kernel
theorem dc_204_5 : decode (sm_cc 204) 5 = .ok (.invokevirtual 169, 3) := by decide +kernel
theorem kr_204_169 : sm_at mt_k (sm_ow 204) 169 = some (169, 1, 136, 1, 1695) := by decide +kernel
theorem dc_204_8 : decode (sm_cc 204) 8 = .ok (.istore_n 1, 1) := by decide +kernel
theorem dc_204_9 : decode (sm_cc 204) 9 = .ok (.aload_n 0, 1) := by decide +kernel
theorem dc_204_10 : decode (sm_cc 204) 10 = .ok (.getfield 15, 3) := by decide +kernel
theorem dc_204_13 : decode (sm_cc 204) 13 = .ok (.iconst 1, 1) := by decide +kernel
theorem dc_204_14 : decode (sm_cc 204) 14 = .ok (.invokevirtual 70, 3) := by decide +kernel
theorem kr_204_70 : sm_at mt_k (sm_ow 204) 70 = some (70, 1, 132, 1, 1627) := by decide +kernel
theorem dc_204_17 : decode (sm_cc 204) 17 = .ok (.lstore_n 2, 1) := by decide +kernel
theorem dc_204_18 : decode (sm_cc 204) 18 = .ok (.aload_n 0, 1) := by decide +kernel
theorem dc_204_19 : decode (sm_cc 204) 19 = .ok (.getfield 15, 3) := by decide +kernel
theorem dc_204_22 : decode (sm_cc 204) 22 = .ok (.iconst 1, 1) := by decide +kernel
theorem dc_204_23 : decode (sm_cc 204) 23 = .ok (.invokevirtual 111, 3) := by decide +kernel
theorem kr_204_111 : sm_at mt_k (sm_ow 204) 111 = some (111, 1, 135, 1, 1626) := by decide +kernel
theorem dc_204_26 : decode (sm_cc 204) 26 = .ok (.lstore 4, 2) := by decide +kernel
theorem dc_204_28 : decode (sm_cc 204) 28 = .ok (.iconst 0, 1) := by decide +kernel
theorem dc_204_29 : decode (sm_cc 204) 29 = .ok (.istore 6, 2) := by decide +kernel
theorem dc_204_31 : decode (sm_cc 204) 31 = .ok (.aload_n 0, 1) := by decide +kernel
theorem dc_204_32 : decode (sm_cc 204) 32 = .ok (.getfield 9, 3) := by decide +kernel
theorem fr_204_9 : sm_at mt_f (sm_ow 204) 9 = some (9, 6, 0, 0, 826) := by decide +kernel
theorem dc_204_35 : decode (sm_cc 204) 35 = .ok (.iload_n 1, 1) := by decide +kernel
theorem dc_204_36 : decode (sm_cc 204) 36 = .ok (.invokevirtual 171, 3) := by decide +kernel
theorem kr_204_171 : sm_at mt_k (sm_ow 204) 171 = some (171, 1, 138, 1, 1696) := by decide +kernel
theorem dc_204_39 : decode (sm_cc 204) 39 = .ok (.iconst 2, 1) := by decide +kernel
theorem dc_204_40 : decode (sm_cc 204) 40 = .ok (.if_icmp .ne (36), 3) := by decide +kernel
theorem dc_204_76 : decode (sm_cc 204) 76 = .ok (.aload_n 0, 1) := by decide +kernel
theorem dc_204_77 : decode (sm_cc 204) 77 = .ok (.getfield 9, 3) := by decide +kernel
theorem dc_204_80 : decode (sm_cc 204) 80 = .ok (.iload_n 1, 1) := by decide +kernel
theorem dc_204_81 : decode (sm_cc 204) 81 = .ok (.invokevirtual 171, 3) := by decide +kernel
theorem dc_204_84 : decode (sm_cc 204) 84 = .ok (.iconst 1, 1) := by decide +kernel
theorem dc_204_85 : decode (sm_cc 204) 85 = .ok (.if_icmp .ne (75), 3) := by decide +kernel
theorem dc_204_160 : decode (sm_cc 204) 160 = .ok (.iconst 2, 1) := by decide +kernel
theorem dc_204_161 : decode (sm_cc 204) 161 = .ok (.ireturn, 1) := by decide +kernel
theorem rt_204 : sm_rt 204 = some .int := by decide +kernel
theorem dc_204_88 : decode (sm_cc 204) 88 = .ok (.aload_n 0, 1) := by decide +kernel
theorem dc_204_89 : decode (sm_cc 204) 89 = .ok (.getfield 9, 3) := by decide +kernel
theorem dc_204_92 : decode (sm_cc 204) 92 = .ok (.iload_n 1, 1) := by decide +kernel
theorem dc_204_93 : decode (sm_cc 204) 93 = .ok (.invokevirtual 136, 3) := by decide +kernel
theorem kr_204_136 : sm_at mt_k (sm_ow 204) 136 = some (136, 1, 140, 1, 1649) := by decide +kernel
theorem dc_204_96 : decode (sm_cc 204) 96 = .ok (.istore 7, 2) := by decide +kernel
theorem dc_204_98 : decode (sm_cc 204) 98 = .ok (.iconst 0, 1) := by decide +kernel
theorem dc_204_99 : decode (sm_cc 204) 99 = .ok (.istore 8, 2) := by decide +kernel
theorem dc_204_43 : decode (sm_cc 204) 43 = .ok (.lload_n 2, 1) := by decide +kernel
theorem dc_204_44 : decode (sm_cc 204) 44 = .ok (.invokestatic 174, 3) := by decide +kernel
theorem kr_204_174 : sm_at mt_k (sm_ow 204) 174 = some (174, 3, 205, 1, 1697) := by decide +kernel
theorem dc_204_47 : decode (sm_cc 204) 47 = .ok (.ifCond .ne (5), 3) := by decide +kernel
theorem dc_204_52 : decode (sm_cc 204) 52 = .ok (.aload_n 0, 1) := by decide +kernel
theorem dc_204_53 : decode (sm_cc 204) 53 = .ok (.getfield 9, 3) := by decide +kernel
theorem dc_204_56 : decode (sm_cc 204) 56 = .ok (.iload_n 1, 1) := by decide +kernel
theorem dc_204_57 : decode (sm_cc 204) 57 = .ok (.lload_n 2, 1) := by decide +kernel
theorem dc_204_58 : decode (sm_cc 204) 58 = .ok (.lload 4, 2) := by decide +kernel
theorem dc_204_60 : decode (sm_cc 204) 60 = .ok (.invokevirtual 178, 3) := by decide +kernel
theorem kr_204_178 : sm_at mt_k (sm_ow 204) 178 = some (178, 1, 206, 1, 1701) := by decide +kernel
theorem dc_204_63 : decode (sm_cc 204) 63 = .ok (.ifCond .lt (7), 3) := by decide +kernel
theorem dc_204_70 : decode (sm_cc 204) 70 = .ok (.iconst 0, 1) := by decide +kernel
theorem dc_204_71 : decode (sm_cc 204) 71 = .ok (.istore 6, 2) := by decide +kernel
theorem dc_204_73 : decode (sm_cc 204) 73 = .ok (.goto (89), 3) := by decide +kernel
theorem dc_204_162 : decode (sm_cc 204) 162 = .ok (.aload_n 0, 1) := by decide +kernel
theorem dc_204_163 : decode (sm_cc 204) 163 = .ok (.getfield 15, 3) := by decide +kernel
theorem dc_204_166 : decode (sm_cc 204) 166 = .ok (.iconst 2, 1) := by decide +kernel
theorem dc_204_167 : decode (sm_cc 204) 167 = .ok (.ldc2_w 23, 3) := by decide +kernel
theorem cj_204_23 : sm_at mt_cj (sm_ow 204) 23 = some (23, (2305843009213693952), 1619) := by decide +kernel
theorem dc_204_170 : decode (sm_cc 204) 170 = .ok (.iload 6, 2) := by decide +kernel
theorem dc_204_172 : decode (sm_cc 204) 172 = .ok (.ifCond .eq (7), 3) := by decide +kernel
theorem dc_204_179 : decode (sm_cc 204) 179 = .ok (.lconst 0, 1) := by decide +kernel
theorem dc_204_180 : decode (sm_cc 204) 180 = .ok (.invokevirtual 31, 3) := by decide +kernel
theorem kr_204_31 : sm_at mt_k (sm_ow 204) 31 = some (31, 1, 148, 1, 1621) := by decide +kernel
theorem dc_204_183 : decode (sm_cc 204) 183 = .ok (.ireturn, 1) := by decide +kernel
theorem dc_204_66 : decode (sm_cc 204) 66 = .ok (.iconst 1, 1) := by decide +kernel
theorem dc_204_67 : decode (sm_cc 204) 67 = .ok (.goto (4), 3) := by decide +kernel
theorem dc_204_175 : decode (sm_cc 204) 175 = .ok (.lconst 1, 1) := by decide +kernel
theorem dc_204_176 : decode (sm_cc 204) 176 = .ok (.goto (4), 3) := by decide +kernel
theorem dc_204_50 : decode (sm_cc 204) 50 = .ok (.iconst 2, 1) := by decide +kernel
theorem dc_204_51 : decode (sm_cc 204) 51 = .ok (.ireturn, 1) := by decide +kernel
theorem dc_204_101 : decode (sm_cc 204) 101 = .ok (.iload 8, 2) := by decide +kernel
theorem dc_204_103 : decode (sm_cc 204) 103 = .ok (.iload 7, 2) := by decide +kernel
theorem dc_204_105 : decode (sm_cc 204) 105 = .ok (.if_icmp .ge (52), 3) := by decide +kernel
theorem dc_204_157 : decode (sm_cc 204) 157 = .ok (.goto (5), 3) := by decide +kernel
theorem dc_204_108 : decode (sm_cc 204) 108 = .ok (.iload 6, 2) := by decide +kernel
theorem dc_204_110 : decode (sm_cc 204) 110 = .ok (.ifCond .ne (47), 3) := by decide +kernel
theorem dc_204_113 : decode (sm_cc 204) 113 = .ok (.aload_n 0, 1) := by decide +kernel
theorem dc_204_114 : decode (sm_cc 204) 114 = .ok (.getfield 9, 3) := by decide +kernel
theorem dc_204_117 : decode (sm_cc 204) 117 = .ok (.iload_n 1, 1) := by decide +kernel
theorem dc_204_118 : decode (sm_cc 204) 118 = .ok (.iload 8, 2) := by decide +kernel
theorem dc_204_120 : decode (sm_cc 204) 120 = .ok (.invokevirtual 181, 3) := by decide +kernel
theorem kr_204_181 : sm_at mt_k (sm_ow 204) 181 = some (181, 1, 156, 1, 1705) := by decide +kernel
theorem dc_204_123 : decode (sm_cc 204) 123 = .ok (.lload_n 2, 1) := by decide +kernel
theorem dc_204_124 : decode (sm_cc 204) 124 = .ok (.lcmp, 1) := by decide +kernel
theorem dc_204_125 : decode (sm_cc 204) 125 = .ok (.ifCond .ne (23), 3) := by decide +kernel
theorem dc_204_148 : decode (sm_cc 204) 148 = .ok (.iconst 0, 1) := by decide +kernel
theorem dc_204_149 : decode (sm_cc 204) 149 = .ok (.istore 6, 2) := by decide +kernel
theorem dc_204_151 : decode (sm_cc 204) 151 = .ok (.iinc 8 (1), 3) := by decide +kernel
theorem dc_204_154 : decode (sm_cc 204) 154 = .ok (.goto (-53), 3) := by decide +kernel
theorem dc_204_128 : decode (sm_cc 204) 128 = .ok (.aload_n 0, 1) := by decide +kernel
theorem dc_204_129 : decode (sm_cc 204) 129 = .ok (.getfield 9, 3) := by decide +kernel
theorem dc_204_132 : decode (sm_cc 204) 132 = .ok (.iload_n 1, 1) := by decide +kernel
theorem dc_204_133 : decode (sm_cc 204) 133 = .ok (.iload 8, 2) := by decide +kernel
theorem dc_204_135 : decode (sm_cc 204) 135 = .ok (.invokevirtual 185, 3) := by decide +kernel
theorem kr_204_185 : sm_at mt_k (sm_ow 204) 185 = some (185, 1, 158, 1, 1706) := by decide +kernel
theorem dc_204_138 : decode (sm_cc 204) 138 = .ok (.lload 4, 2) := by decide +kernel
theorem dc_204_140 : decode (sm_cc 204) 140 = .ok (.lcmp, 1) := by decide +kernel
theorem dc_204_141 : decode (sm_cc 204) 141 = .ok (.ifCond .ne (7), 3) := by decide +kernel
theorem dc_204_144 : decode (sm_cc 204) 144 = .ok (.iconst 1, 1) := by decide +kernel
theorem dc_204_145 : decode (sm_cc 204) 145 = .ok (.goto (4), 3) := by decide +kernel
theorem ml_220 : sm_ml 220 = 8 := by decide +kernel
theorem dc_220_0 : decode (sm_cc 220) 0 = .ok (.iload_n 1, 1) := by decide +kernel
theorem dc_220_1 : decode (sm_cc 220) 1 = .ok (.istore 6, 2) := by decide +kernel
theorem dc_220_3 : decode (sm_cc 220) 3 = .ok (.iconst 0, 1) := by decide +kernel
theorem dc_220_4 : decode (sm_cc 220) 4 = .ok (.istore 7, 2) := by decide +kernel
theorem dc_220_6 : decode (sm_cc 220) 6 = .ok (.iload 7, 2) := by decide +kernel
theorem dc_220_8 : decode (sm_cc 220) 8 = .ok (.sipush (1500), 3) := by decide +kernel
theorem dc_220_11 : decode (sm_cc 220) 11 = .ok (.if_icmp .gt (37), 3) := by decide +kernel
theorem dc_220_48 : decode (sm_cc 220) 48 = .ok (.iconst 0, 1) := by decide +kernel
theorem dc_220_49 : decode (sm_cc 220) 49 = .ok (.ireturn, 1) := by decide +kernel
theorem rt_220 : sm_rt 220 = some .int := by decide +kernel
theorem dc_220_14 : decode (sm_cc 220) 14 = .ok (.iload 6, 2) := by decide +kernel
theorem dc_220_16 : decode (sm_cc 220) 16 = .ok (.ifCond .eq (32), 3) := by decide +kernel
theorem dc_220_19 : decode (sm_cc 220) 19 = .ok (.aload_n 0, 1) := by decide +kernel
theorem dc_220_20 : decode (sm_cc 220) 20 = .ok (.iload 6, 2) := by decide +kernel
theorem dc_220_22 : decode (sm_cc 220) 22 = .ok (.lload_n 2, 1) := by decide +kernel
theorem dc_220_23 : decode (sm_cc 220) 23 = .ok (.lload 4, 2) := by decide +kernel
theorem dc_220_25 : decode (sm_cc 220) 25 = .ok (.invokevirtual 102, 3) := by decide +kernel
theorem kr_220_102 : sm_at mt_k (sm_ow 220) 102 = some (102, 0, 206, 0, 1770) := by decide +kernel
theorem dc_220_28 : decode (sm_cc 220) 28 = .ok (.ifCond .lt (6), 3) := by decide +kernel
theorem dc_220_34 : decode (sm_cc 220) 34 = .ok (.aload_n 0, 1) := by decide +kernel
theorem dc_220_35 : decode (sm_cc 220) 35 = .ok (.iload 6, 2) := by decide +kernel
theorem dc_220_37 : decode (sm_cc 220) 37 = .ok (.invokevirtual 106, 3) := by decide +kernel
theorem kr_220_106 : sm_at mt_k (sm_ow 220) 106 = some (106, 0, 168, 0, 1771) := by decide +kernel
theorem dc_220_40 : decode (sm_cc 220) 40 = .ok (.istore 6, 2) := by decide +kernel
theorem dc_220_42 : decode (sm_cc 220) 42 = .ok (.iinc 7 (1), 3) := by decide +kernel
theorem dc_220_45 : decode (sm_cc 220) 45 = .ok (.goto (-39), 3) := by decide +kernel
theorem dc_220_31 : decode (sm_cc 220) 31 = .ok (.iload 6, 2) := by decide +kernel
theorem dc_220_33 : decode (sm_cc 220) 33 = .ok (.ireturn, 1) := by decide +kernel
theorem ml_223 : sm_ml 223 = 4 := by decide +kernel
theorem dc_223_0 : decode (sm_cc 223) 0 = .ok (.aload_n 0, 1) := by decide +kernel
theorem dc_223_1 : decode (sm_cc 223) 1 = .ok (.getfield 9, 3) := by decide +kernel
theorem fr_223_9 : sm_at mt_f (sm_ow 223) 9 = some (9, 6, 0, 0, 826) := by decide +kernel
theorem dc_223_4 : decode (sm_cc 223) 4 = .ok (.iconst 1, 1) := by decide +kernel
theorem dc_223_5 : decode (sm_cc 223) 5 = .ok (.invokevirtual 139, 3) := by decide +kernel
theorem kr_223_139 : sm_at mt_k (sm_ow 223) 139 = some (139, 1, 178, 1, 1650) := by decide +kernel
theorem dc_223_8 : decode (sm_cc 223) 8 = .ok (.istore_n 2, 1) := by decide +kernel
theorem dc_223_9 : decode (sm_cc 223) 9 = .ok (.iload_n 2, 1) := by decide +kernel
theorem dc_223_10 : decode (sm_cc 223) 10 = .ok (.ifCond .ne (6), 3) := by decide +kernel
theorem dc_223_16 : decode (sm_cc 223) 16 = .ok (.iload_n 1, 1) := by decide +kernel
theorem dc_223_17 : decode (sm_cc 223) 17 = .ok (.iconst 1, 1) := by decide +kernel
theorem dc_223_18 : decode (sm_cc 223) 18 = .ok (.isub, 1) := by decide +kernel
theorem dc_223_19 : decode (sm_cc 223) 19 = .ok (.istore_n 3, 1) := by decide +kernel
theorem dc_223_13 : decode (sm_cc 223) 13 = .ok (.bipush (8), 2) := by decide +kernel
theorem dc_223_15 : decode (sm_cc 223) 15 = .ok (.ireturn, 1) := by decide +kernel
theorem rt_223 : sm_rt 223 = some .int := by decide +kernel
theorem dc_223_20 : decode (sm_cc 223) 20 = .ok (.iload_n 3, 1) := by decide +kernel
theorem dc_223_21 : decode (sm_cc 223) 21 = .ok (.ifCond .lt (36), 3) := by decide +kernel
theorem dc_223_24 : decode (sm_cc 223) 24 = .ok (.aload_n 0, 1) := by decide +kernel
theorem dc_223_25 : decode (sm_cc 223) 25 = .ok (.getfield 9, 3) := by decide +kernel
theorem dc_223_28 : decode (sm_cc 223) 28 = .ok (.iload_n 2, 1) := by decide +kernel
theorem dc_223_29 : decode (sm_cc 223) 29 = .ok (.lconst 0, 1) := by decide +kernel
theorem dc_223_30 : decode (sm_cc 223) 30 = .ok (.lconst 0, 1) := by decide +kernel
theorem dc_223_31 : decode (sm_cc 223) 31 = .ok (.aload_n 0, 1) := by decide +kernel
theorem dc_223_32 : decode (sm_cc 223) 32 = .ok (.getfield 15, 3) := by decide +kernel
theorem fr_223_15 : sm_at mt_f (sm_ow 223) 15 = some (15, 6, 1, 0, 827) := by decide +kernel
theorem dc_223_35 : decode (sm_cc 223) 35 = .ok (.iload_n 3, 1) := by decide +kernel
theorem dc_223_36 : decode (sm_cc 223) 36 = .ok (.invokevirtual 70, 3) := by decide +kernel
theorem kr_223_70 : sm_at mt_k (sm_ow 223) 70 = some (70, 1, 132, 1, 1627) := by decide +kernel
theorem dc_223_39 : decode (sm_cc 223) 39 = .ok (.aload_n 0, 1) := by decide +kernel
theorem dc_223_40 : decode (sm_cc 223) 40 = .ok (.getfield 15, 3) := by decide +kernel
theorem dc_223_43 : decode (sm_cc 223) 43 = .ok (.iload_n 3, 1) := by decide +kernel
theorem dc_223_44 : decode (sm_cc 223) 44 = .ok (.invokevirtual 111, 3) := by decide +kernel
theorem kr_223_111 : sm_at mt_k (sm_ow 223) 111 = some (111, 1, 135, 1, 1626) := by decide +kernel
theorem dc_223_47 : decode (sm_cc 223) 47 = .ok (.invokevirtual 201, 3) := by decide +kernel
theorem kr_223_201 : sm_at mt_k (sm_ow 223) 201 = some (201, 1, 183, 1, 1728) := by decide +kernel
theorem dc_223_50 : decode (sm_cc 223) 50 = .ok (.pop, 1) := by decide +kernel
theorem dc_223_51 : decode (sm_cc 223) 51 = .ok (.iinc 3 (-1), 3) := by decide +kernel
theorem dc_223_54 : decode (sm_cc 223) 54 = .ok (.goto (-34), 3) := by decide +kernel
theorem dc_223_57 : decode (sm_cc 223) 57 = .ok (.aload_n 0, 1) := by decide +kernel
theorem dc_223_58 : decode (sm_cc 223) 58 = .ok (.getfield 15, 3) := by decide +kernel
theorem dc_223_61 : decode (sm_cc 223) 61 = .ok (.iload_n 1, 1) := by decide +kernel
theorem dc_223_62 : decode (sm_cc 223) 62 = .ok (.ldc2_w 146, 3) := by decide +kernel
theorem cj_223_146 : sm_at mt_cj (sm_ow 223) 146 = some (146, (4611686018427387904), 1659) := by decide +kernel
theorem dc_223_65 : decode (sm_cc 223) 65 = .ok (.iload_n 2, 1) := by decide +kernel
theorem dc_223_66 : decode (sm_cc 223) 66 = .ok (.i2l, 1) := by decide +kernel
theorem dc_223_67 : decode (sm_cc 223) 67 = .ok (.invokevirtual 31, 3) := by decide +kernel
theorem kr_223_31 : sm_at mt_k (sm_ow 223) 31 = some (31, 1, 148, 1, 1621) := by decide +kernel
theorem dc_223_70 : decode (sm_cc 223) 70 = .ok (.ireturn, 1) := by decide +kernel
theorem ml_224 : sm_ml 224 = 9 := by decide +kernel
theorem dc_224_0 : decode (sm_cc 224) 0 = .ok (.iconst 0, 1) := by decide +kernel
theorem dc_224_1 : decode (sm_cc 224) 1 = .ok (.istore_n 2, 1) := by decide +kernel
theorem dc_224_2 : decode (sm_cc 224) 2 = .ok (.iload_n 2, 1) := by decide +kernel
theorem dc_224_3 : decode (sm_cc 224) 3 = .ok (.iload_n 1, 1) := by decide +kernel
theorem dc_224_4 : decode (sm_cc 224) 4 = .ok (.if_icmp .ge (29), 3) := by decide +kernel
theorem dc_224_7 : decode (sm_cc 224) 7 = .ok (.aload_n 0, 1) := by decide +kernel
theorem dc_224_8 : decode (sm_cc 224) 8 = .ok (.getfield 15, 3) := by decide +kernel
theorem fr_224_15 : sm_at mt_f (sm_ow 224) 15 = some (15, 6, 1, 0, 827) := by decide +kernel
theorem dc_224_11 : decode (sm_cc 224) 11 = .ok (.iconst 2, 1) := by decide +kernel
theorem dc_224_12 : decode (sm_cc 224) 12 = .ok (.iload_n 2, 1) := by decide +kernel
theorem dc_224_13 : decode (sm_cc 224) 13 = .ok (.imul, 1) := by decide +kernel
theorem dc_224_14 : decode (sm_cc 224) 14 = .ok (.iconst 1, 1) := by decide +kernel
theorem dc_224_15 : decode (sm_cc 224) 15 = .ok (.iadd, 1) := by decide +kernel
theorem dc_224_16 : decode (sm_cc 224) 16 = .ok (.invokevirtual 70, 3) := by decide +kernel
theorem kr_224_70 : sm_at mt_k (sm_ow 224) 70 = some (70, 1, 132, 1, 1627) := by decide +kernel
theorem dc_224_19 : decode (sm_cc 224) 19 = .ok (.invokestatic 174, 3) := by decide +kernel
theorem kr_224_174 : sm_at mt_k (sm_ow 224) 174 = some (174, 3, 205, 1, 1697) := by decide +kernel
theorem dc_224_22 : decode (sm_cc 224) 22 = .ok (.ifCond .ne (5), 3) := by decide +kernel
theorem dc_224_27 : decode (sm_cc 224) 27 = .ok (.iinc 2 (1), 3) := by decide +kernel
theorem dc_224_30 : decode (sm_cc 224) 30 = .ok (.goto (-28), 3) := by decide +kernel
theorem dc_224_25 : decode (sm_cc 224) 25 = .ok (.iconst 2, 1) := by decide +kernel
theorem dc_224_26 : decode (sm_cc 224) 26 = .ok (.ireturn, 1) := by decide +kernel
theorem rt_224 : sm_rt 224 = some .int := by decide +kernel
theorem dc_224_33 : decode (sm_cc 224) 33 = .ok (.aload_n 0, 1) := by decide +kernel
theorem dc_224_34 : decode (sm_cc 224) 34 = .ok (.getfield 9, 3) := by decide +kernel
theorem fr_224_9 : sm_at mt_f (sm_ow 224) 9 = some (9, 6, 0, 0, 826) := by decide +kernel
theorem dc_224_37 : decode (sm_cc 224) 37 = .ok (.iconst 2, 1) := by decide +kernel
theorem dc_224_38 : decode (sm_cc 224) 38 = .ok (.invokevirtual 139, 3) := by decide +kernel
theorem kr_224_139 : sm_at mt_k (sm_ow 224) 139 = some (139, 1, 178, 1, 1650) := by decide +kernel
theorem dc_224_41 : decode (sm_cc 224) 41 = .ok (.istore_n 2, 1) := by decide +kernel
theorem dc_224_42 : decode (sm_cc 224) 42 = .ok (.iload_n 2, 1) := by decide +kernel
theorem dc_224_43 : decode (sm_cc 224) 43 = .ok (.ifCond .ne (6), 3) := by decide +kernel
theorem dc_224_49 : decode (sm_cc 224) 49 = .ok (.iload_n 1, 1) := by decide +kernel
theorem dc_224_50 : decode (sm_cc 224) 50 = .ok (.iconst 1, 1) := by decide +kernel
theorem dc_224_51 : decode (sm_cc 224) 51 = .ok (.isub, 1) := by decide +kernel
theorem dc_224_52 : decode (sm_cc 224) 52 = .ok (.istore_n 3, 1) := by decide +kernel
theorem dc_224_46 : decode (sm_cc 224) 46 = .ok (.bipush (8), 2) := by decide +kernel
theorem dc_224_48 : decode (sm_cc 224) 48 = .ok (.ireturn, 1) := by decide +kernel
theorem dc_224_53 : decode (sm_cc 224) 53 = .ok (.iload_n 3, 1) := by decide +kernel
theorem dc_224_54 : decode (sm_cc 224) 54 = .ok (.ifCond .lt (122), 3) := by decide +kernel
theorem dc_224_57 : decode (sm_cc 224) 57 = .ok (.aload_n 0, 1) := by decide +kernel
theorem dc_224_58 : decode (sm_cc 224) 58 = .ok (.getfield 15, 3) := by decide +kernel
theorem dc_224_61 : decode (sm_cc 224) 61 = .ok (.iconst 2, 1) := by decide +kernel
theorem dc_224_62 : decode (sm_cc 224) 62 = .ok (.iload_n 3, 1) := by decide +kernel
theorem dc_224_63 : decode (sm_cc 224) 63 = .ok (.imul, 1) := by decide +kernel
theorem dc_224_64 : decode (sm_cc 224) 64 = .ok (.iconst 1, 1) := by decide +kernel
theorem dc_224_65 : decode (sm_cc 224) 65 = .ok (.iadd, 1) := by decide +kernel
theorem dc_224_66 : decode (sm_cc 224) 66 = .ok (.invokevirtual 70, 3) := by decide +kernel
theorem dc_224_69 : decode (sm_cc 224) 69 = .ok (.lstore 4, 2) := by decide +kernel
theorem dc_224_71 : decode (sm_cc 224) 71 = .ok (.aload_n 0, 1) := by decide +kernel
theorem dc_224_72 : decode (sm_cc 224) 72 = .ok (.getfield 15, 3) := by decide +kernel
theorem dc_224_75 : decode (sm_cc 224) 75 = .ok (.iconst 2, 1) := by decide +kernel
theorem dc_224_76 : decode (sm_cc 224) 76 = .ok (.iload_n 3, 1) := by decide +kernel
theorem dc_224_77 : decode (sm_cc 224) 77 = .ok (.imul, 1) := by decide +kernel
theorem dc_224_78 : decode (sm_cc 224) 78 = .ok (.iconst 1, 1) := by decide +kernel
theorem dc_224_79 : decode (sm_cc 224) 79 = .ok (.iadd, 1) := by decide +kernel
theorem dc_224_80 : decode (sm_cc 224) 80 = .ok (.invokevirtual 111, 3) := by decide +kernel
theorem kr_224_111 : sm_at mt_k (sm_ow 224) 111 = some (111, 1, 135, 1, 1626) := by decide +kernel
theorem dc_224_83 : decode (sm_cc 224) 83 = .ok (.lstore 6, 2) := by decide +kernel
theorem dc_224_85 : decode (sm_cc 224) 85 = .ok (.aload_n 0, 1) := by decide +kernel
theorem dc_224_86 : decode (sm_cc 224) 86 = .ok (.getfield 9, 3) := by decide +kernel
theorem dc_224_89 : decode (sm_cc 224) 89 = .ok (.iload_n 2, 1) := by decide +kernel
theorem dc_224_90 : decode (sm_cc 224) 90 = .ok (.lload 4, 2) := by decide +kernel
theorem dc_224_92 : decode (sm_cc 224) 92 = .ok (.lload 6, 2) := by decide +kernel
theorem dc_224_94 : decode (sm_cc 224) 94 = .ok (.invokevirtual 178, 3) := by decide +kernel
theorem kr_224_178 : sm_at mt_k (sm_ow 224) 178 = some (178, 1, 206, 1, 1701) := by decide +kernel
theorem dc_224_97 : decode (sm_cc 224) 97 = .ok (.istore 8, 2) := by decide +kernel
theorem dc_224_99 : decode (sm_cc 224) 99 = .ok (.iload 8, 2) := by decide +kernel
theorem dc_224_101 : decode (sm_cc 224) 101 = .ok (.ifCond .lt (36), 3) := by decide +kernel
theorem dc_224_137 : decode (sm_cc 224) 137 = .ok (.aload_n 0, 1) := by decide +kernel
theorem dc_224_138 : decode (sm_cc 224) 138 = .ok (.getfield 9, 3) := by decide +kernel
theorem dc_224_141 : decode (sm_cc 224) 141 = .ok (.iload_n 2, 1) := by decide +kernel
theorem dc_224_142 : decode (sm_cc 224) 142 = .ok (.lload 4, 2) := by decide +kernel
theorem dc_224_144 : decode (sm_cc 224) 144 = .ok (.lload 6, 2) := by decide +kernel
theorem dc_224_146 : decode (sm_cc 224) 146 = .ok (.aload_n 0, 1) := by decide +kernel
theorem dc_224_147 : decode (sm_cc 224) 147 = .ok (.getfield 15, 3) := by decide +kernel
theorem dc_224_150 : decode (sm_cc 224) 150 = .ok (.iconst 2, 1) := by decide +kernel
theorem dc_224_151 : decode (sm_cc 224) 151 = .ok (.iload_n 3, 1) := by decide +kernel
theorem dc_224_152 : decode (sm_cc 224) 152 = .ok (.imul, 1) := by decide +kernel
theorem dc_224_153 : decode (sm_cc 224) 153 = .ok (.invokevirtual 70, 3) := by decide +kernel
theorem dc_224_156 : decode (sm_cc 224) 156 = .ok (.aload_n 0, 1) := by decide +kernel
theorem dc_224_157 : decode (sm_cc 224) 157 = .ok (.getfield 15, 3) := by decide +kernel
theorem dc_224_160 : decode (sm_cc 224) 160 = .ok (.iconst 2, 1) := by decide +kernel
theorem dc_224_161 : decode (sm_cc 224) 161 = .ok (.iload_n 3, 1) := by decide +kernel
theorem dc_224_162 : decode (sm_cc 224) 162 = .ok (.imul, 1) := by decide +kernel
theorem dc_224_163 : decode (sm_cc 224) 163 = .ok (.invokevirtual 111, 3) := by decide +kernel
theorem dc_224_166 : decode (sm_cc 224) 166 = .ok (.invokevirtual 201, 3) := by decide +kernel
theorem kr_224_201 : sm_at mt_k (sm_ow 224) 201 = some (201, 1, 183, 1, 1728) := by decide +kernel
theorem dc_224_169 : decode (sm_cc 224) 169 = .ok (.pop, 1) := by decide +kernel
theorem dc_224_170 : decode (sm_cc 224) 170 = .ok (.iinc 3 (-1), 3) := by decide +kernel
theorem dc_224_173 : decode (sm_cc 224) 173 = .ok (.goto (-120), 3) := by decide +kernel
theorem dc_224_104 : decode (sm_cc 224) 104 = .ok (.aload_n 0, 1) := by decide +kernel
theorem dc_224_105 : decode (sm_cc 224) 105 = .ok (.getfield 9, 3) := by decide +kernel
theorem dc_224_108 : decode (sm_cc 224) 108 = .ok (.iload_n 2, 1) := by decide +kernel
theorem dc_224_109 : decode (sm_cc 224) 109 = .ok (.iload 8, 2) := by decide +kernel
theorem dc_224_111 : decode (sm_cc 224) 111 = .ok (.aload_n 0, 1) := by decide +kernel
theorem dc_224_112 : decode (sm_cc 224) 112 = .ok (.getfield 15, 3) := by decide +kernel
theorem dc_224_115 : decode (sm_cc 224) 115 = .ok (.iconst 2, 1) := by decide +kernel
theorem dc_224_116 : decode (sm_cc 224) 116 = .ok (.iload_n 3, 1) := by decide +kernel
theorem dc_224_117 : decode (sm_cc 224) 117 = .ok (.imul, 1) := by decide +kernel
theorem dc_224_118 : decode (sm_cc 224) 118 = .ok (.invokevirtual 70, 3) := by decide +kernel
theorem dc_224_121 : decode (sm_cc 224) 121 = .ok (.aload_n 0, 1) := by decide +kernel
theorem dc_224_122 : decode (sm_cc 224) 122 = .ok (.getfield 15, 3) := by decide +kernel
theorem dc_224_125 : decode (sm_cc 224) 125 = .ok (.iconst 2, 1) := by decide +kernel
theorem dc_224_126 : decode (sm_cc 224) 126 = .ok (.iload_n 3, 1) := by decide +kernel
theorem dc_224_127 : decode (sm_cc 224) 127 = .ok (.imul, 1) := by decide +kernel
theorem dc_224_128 : decode (sm_cc 224) 128 = .ok (.invokevirtual 111, 3) := by decide +kernel
theorem dc_224_131 : decode (sm_cc 224) 131 = .ok (.invokevirtual 197, 3) := by decide +kernel
theorem kr_224_197 : sm_at mt_k (sm_ow 224) 197 = some (197, 1, 174, 1, 1727) := by decide +kernel
theorem dc_224_134 : decode (sm_cc 224) 134 = .ok (.goto (36), 3) := by decide +kernel
theorem dc_224_176 : decode (sm_cc 224) 176 = .ok (.aload_n 0, 1) := by decide +kernel
theorem dc_224_177 : decode (sm_cc 224) 177 = .ok (.getfield 15, 3) := by decide +kernel
theorem dc_224_180 : decode (sm_cc 224) 180 = .ok (.iconst 2, 1) := by decide +kernel
theorem dc_224_181 : decode (sm_cc 224) 181 = .ok (.iload_n 1, 1) := by decide +kernel
theorem dc_224_182 : decode (sm_cc 224) 182 = .ok (.imul, 1) := by decide +kernel
theorem dc_224_183 : decode (sm_cc 224) 183 = .ok (.ldc2_w 146, 3) := by decide +kernel
theorem cj_224_146 : sm_at mt_cj (sm_ow 224) 146 = some (146, (4611686018427387904), 1659) := by decide +kernel
theorem dc_224_186 : decode (sm_cc 224) 186 = .ok (.iload_n 2, 1) := by decide +kernel
theorem dc_224_187 : decode (sm_cc 224) 187 = .ok (.i2l, 1) := by decide +kernel
theorem dc_224_188 : decode (sm_cc 224) 188 = .ok (.invokevirtual 31, 3) := by decide +kernel
theorem kr_224_31 : sm_at mt_k (sm_ow 224) 31 = some (31, 1, 148, 1, 1621) := by decide +kernel
theorem dc_224_191 : decode (sm_cc 224) 191 = .ok (.ireturn, 1) := by decide +kernel
theorem sm_get_p2m {lv : sm_L} {q p : Nat} {v w : Value} (h : p ≠ q) (hp : p ≠ q + 1) (hq : p + 1 ≠ q) : sm_get lv p = some w → sm_get (sm_p2 lv q v) p = some w := by
  unfold sm_get sm_p2
  intro h1
  have h2 : (q == p) = false := by
    rw [beq_eq_false_iff_ne]
    exact fun e => h e.symm
  rw [List.find?_cons]
  simp only [h2]
  induction lv with
  | nil => cases h1
  | cons e lv ih =>
    rw [List.find?_cons] at h1
    cases he : e.1 == p with
    | true =>
      rw [he] at h1
      have h4 : (e.1 == q) = false := by
        rw [beq_eq_false_iff_ne, eq_of_beq he]
        exact h
      have h6 : (e.1 == q + 1) = false := by
        rw [beq_eq_false_iff_ne, eq_of_beq he]
        exact hp
      have h7 : (e.1 + 1 == q) = false := by
        rw [beq_eq_false_iff_ne, eq_of_beq he]
        exact hq
      have h5 : (!(e.1 == q) && (!(e.1 == q + 1) && !(e.1 + 1 == q && e.2.category == 2))) = true := by
        rw [h4, h6, h7]
        rfl
      rw [List.filter_cons, if_pos h5, List.find?_cons, he]
      exact h1
    | false =>
      rw [he] at h1
      rw [List.filter_cons]
      split
      · rw [List.find?_cons, he]
        exact ih h1
      · exact ih h1
theorem mJs_1 {d : Nat} {S Sf : cS} {v : Option Value} {S1 : cS} {u : Int64} {S2 : cS} {u1 : Int64} {S3 : cS} {u2 : Int64} {S4 : cS} {a : Nat} {S5 : cS} {a1 : Nat} (c1 : Ans (d + 8) 132 [.ref 46, .int (nI 1)] S (some (.long u)) S1) (c2 : Ans (d + 8) 135 [.ref 46, .int (nI 1)] S1 (some (.long u1)) S2) (c3 : Ans (d + 8) 132 [.ref 46, .int (nI 0)] S2 (some (.long u2)) S3) (ma : a < 2 ^ 20) (c4 : Ans (d + 8) 47 [.long u2] S3 (some (.int (nI a))) S4) (ma1 : a1 < 2 ^ 20) (c5 : Ans (d + 8) 47 [.long u] S4 (some (.int (nI a1))) S5) (b1 : (a1 + a) ≤ 15) (hB : ∀ lv1 : sm_L, sm_get lv1 0 = some (.ref 53) → sm_get lv1 1 = some (.long u) → sm_get lv1 3 = some (.long u1) → sm_get lv1 5 = some (.int (nI a)) → sm_get lv1 6 = some (.int (nI 0)) → Bod (d + 8) 192 49 lv1 [] (S5) v Sf) : Bod (d + 8) 192 0 [(0, .ref 53)] [] S v Sf := by
  refine Bod.go dc_192_0 rfl ?_
  refine Bod.get dc_192_1 fr_192_15 (mk_53 _) rfl ?_
  refine Bod.ic 1 (by decide) dc_192_4 ?_
  refine Bod.virt (r := []) dc_192_5 kr_192_70 ⟨Or.inr rfl, ow_132, cl_9⟩ (by rw [np_132]; rfl) (by rw [np_132]; rfl) (ob_of (mk_46 _)) (Nat.le_of_ble_eq_true rfl) (c1  ) ?_
  show Bod _ _ _ _ [_] _ _ _
  refine Bod.lstn dc_192_8 (by rw [ml_192]; exact Nat.le_of_ble_eq_true rfl) ?_
  refine Bod.go dc_192_9 rfl ?_
  refine Bod.get dc_192_10 fr_192_15 (mk_53 _) rfl ?_
  refine Bod.ic 1 (by decide) dc_192_13 ?_
  refine Bod.virt (r := []) dc_192_14 kr_192_111 ⟨Or.inr rfl, ow_135, cl_9⟩ (by rw [np_135]; rfl) (by rw [np_135]; rfl) (ob_of (mk_46 _)) (Nat.le_of_ble_eq_true rfl) (c2  ) ?_
  show Bod _ _ _ _ [_] _ _ _
  refine Bod.lstn dc_192_17 (by rw [ml_192]; exact Nat.le_of_ble_eq_true rfl) ?_
  refine Bod.go dc_192_18 rfl ?_
  refine Bod.get dc_192_19 fr_192_15 (mk_53 _) rfl ?_
  refine Bod.ic 0 (by decide) dc_192_22 ?_
  refine Bod.virt (r := []) dc_192_23 kr_192_70 ⟨Or.inr rfl, ow_132, cl_9⟩ (by rw [np_132]; rfl) (by rw [np_132]; rfl) (ob_of (mk_46 _)) (Nat.le_of_ble_eq_true rfl) (c3  ) ?_
  show Bod _ _ _ _ [_] _ _ _
  refine Bod.stat (r := []) dc_192_26 kr_192_116 (Or.inr rfl) (by rw [np_47]; rfl) (by rw [np_47]; rfl) (by rw [np_47]; exact Nat.le_of_ble_eq_true rfl) (Nat.le_of_ble_eq_true rfl) (c4  ) ?_
  show Bod _ _ _ _ [_] _ _ _
  refine Bod.ist dc_192_29 (by rw [ml_192]; exact Nat.le_of_ble_eq_true rfl) ?_
  refine Bod.go dc_192_31 rfl ?_
  refine Bod.stat (r := []) dc_192_32 kr_192_116 (Or.inr rfl) (by rw [np_47]; rfl) (by rw [np_47]; rfl) (by rw [np_47]; exact Nat.le_of_ble_eq_true rfl) (Nat.le_of_ble_eq_true rfl) (c5  ) ?_
  show Bod _ _ _ _ [_] _ _ _
  refine Bod.go dc_192_35 rfl ?_
  refine Bod.addN (a1 + a) (by omega) dc_192_37 ?_
  refine Bod.bip 15 (by decide) dc_192_38 ?_
  refine Bod.icT dc_192_40 rfl (k2_le_T (a1 + a) 15 rfl rfl (by omega) (by omega)) ?_
  refine Bod.ic 0 (by decide) dc_192_46 ?_
  refine Bod.ist dc_192_47 (by rw [ml_192]; exact Nat.le_of_ble_eq_true rfl) ?_
  exact hB _ (by first | rfl | exact (by repeat (first | exact rfl | exact sm_get_p1 | exact sm_get_p2e | refine sm_get_p1m (by decide) (by decide) ?_ | refine sm_get_p1n (by decide) rfl ?_ | refine sm_get_p2n (by decide) (by decide) rfl ?_ | refine sm_get_p2m (by decide) (by decide) (by decide) ?_))) (by first | rfl | exact (by repeat (first | exact rfl | exact sm_get_p1 | exact sm_get_p2e | refine sm_get_p1m (by decide) (by decide) ?_ | refine sm_get_p1n (by decide) rfl ?_ | refine sm_get_p2n (by decide) (by decide) rfl ?_ | refine sm_get_p2m (by decide) (by decide) (by decide) ?_))) (by first | rfl | exact (by repeat (first | exact rfl | exact sm_get_p1 | exact sm_get_p2e | refine sm_get_p1m (by decide) (by decide) ?_ | refine sm_get_p1n (by decide) rfl ?_ | refine sm_get_p2n (by decide) (by decide) rfl ?_ | refine sm_get_p2m (by decide) (by decide) (by decide) ?_))) (by first | rfl | exact (by repeat (first | exact rfl | exact sm_get_p1 | exact sm_get_p2e | refine sm_get_p1m (by decide) (by decide) ?_ | refine sm_get_p1n (by decide) rfl ?_ | refine sm_get_p2n (by decide) (by decide) rfl ?_ | refine sm_get_p2m (by decide) (by decide) (by decide) ?_))) (by first | rfl | exact (by repeat (first | exact rfl | exact sm_get_p1 | exact sm_get_p2e | refine sm_get_p1m (by decide) (by decide) ?_ | refine sm_get_p1n (by decide) rfl ?_ | refine sm_get_p2n (by decide) (by decide) rfl ?_ | refine sm_get_p2m (by decide) (by decide) (by decide) ?_)))
theorem mJs_2 {d : Nat} {S : cS} {S1 : cS} {u : Int64} {S2 : cS} {u1 : Int64} {S3 : cS} {u2 : Int64} {S4 : cS} {a : Nat} {S5 : cS} {a1 : Nat} (c1 : Ans (d + 8) 132 [.ref 46, .int (nI 1)] S (some (.long u)) S1) (c2 : Ans (d + 8) 135 [.ref 46, .int (nI 1)] S1 (some (.long u1)) S2) (c3 : Ans (d + 8) 132 [.ref 46, .int (nI 0)] S2 (some (.long u2)) S3) (ma : a < 2 ^ 20) (c4 : Ans (d + 8) 47 [.long u2] S3 (some (.int (nI a))) S4) (ma1 : a1 < 2 ^ 20) (c5 : Ans (d + 8) 47 [.long u] S4 (some (.int (nI a1))) S5) (b1 : 15 < (a1 + a)) : Bod (d + 8) 192 0 [(0, .ref 53)] [] S (some (.int (nI 8))) (S5) := by
  refine Bod.go dc_192_0 rfl ?_
  refine Bod.get dc_192_1 fr_192_15 (mk_53 _) rfl ?_
  refine Bod.ic 1 (by decide) dc_192_4 ?_
  refine Bod.virt (r := []) dc_192_5 kr_192_70 ⟨Or.inr rfl, ow_132, cl_9⟩ (by rw [np_132]; rfl) (by rw [np_132]; rfl) (ob_of (mk_46 _)) (Nat.le_of_ble_eq_true rfl) (c1  ) ?_
  show Bod _ _ _ _ [_] _ _ _
  refine Bod.lstn dc_192_8 (by rw [ml_192]; exact Nat.le_of_ble_eq_true rfl) ?_
  refine Bod.go dc_192_9 rfl ?_
  refine Bod.get dc_192_10 fr_192_15 (mk_53 _) rfl ?_
  refine Bod.ic 1 (by decide) dc_192_13 ?_
  refine Bod.virt (r := []) dc_192_14 kr_192_111 ⟨Or.inr rfl, ow_135, cl_9⟩ (by rw [np_135]; rfl) (by rw [np_135]; rfl) (ob_of (mk_46 _)) (Nat.le_of_ble_eq_true rfl) (c2  ) ?_
  show Bod _ _ _ _ [_] _ _ _
  refine Bod.lstn dc_192_17 (by rw [ml_192]; exact Nat.le_of_ble_eq_true rfl) ?_
  refine Bod.go dc_192_18 rfl ?_
  refine Bod.get dc_192_19 fr_192_15 (mk_53 _) rfl ?_
  refine Bod.ic 0 (by decide) dc_192_22 ?_
  refine Bod.virt (r := []) dc_192_23 kr_192_70 ⟨Or.inr rfl, ow_132, cl_9⟩ (by rw [np_132]; rfl) (by rw [np_132]; rfl) (ob_of (mk_46 _)) (Nat.le_of_ble_eq_true rfl) (c3  ) ?_
  show Bod _ _ _ _ [_] _ _ _
  refine Bod.stat (r := []) dc_192_26 kr_192_116 (Or.inr rfl) (by rw [np_47]; rfl) (by rw [np_47]; rfl) (by rw [np_47]; exact Nat.le_of_ble_eq_true rfl) (Nat.le_of_ble_eq_true rfl) (c4  ) ?_
  show Bod _ _ _ _ [_] _ _ _
  refine Bod.ist dc_192_29 (by rw [ml_192]; exact Nat.le_of_ble_eq_true rfl) ?_
  refine Bod.go dc_192_31 rfl ?_
  refine Bod.stat (r := []) dc_192_32 kr_192_116 (Or.inr rfl) (by rw [np_47]; rfl) (by rw [np_47]; rfl) (by rw [np_47]; exact Nat.le_of_ble_eq_true rfl) (Nat.le_of_ble_eq_true rfl) (c5  ) ?_
  show Bod _ _ _ _ [_] _ _ _
  refine Bod.go dc_192_35 rfl ?_
  refine Bod.addN (a1 + a) (by omega) dc_192_37 ?_
  refine Bod.bip 15 (by decide) dc_192_38 ?_
  refine Bod.icF dc_192_40 rfl (k2_le_F (a1 + a) 15 rfl rfl (by omega) (by omega)) ?_
  refine Bod.bip 8 (by decide) dc_192_43 ?_
  exact Bod.retI dc_192_45 rt_192
theorem mJsL_1 {d : Nat} {S : cS} {lv : sm_L} {xh : Int64} {xl : Int64} {nb : Nat} {ni : Nat} {S1 : cS} {rb : Int32} (q0 : sm_get lv 0 = some (.ref 53)) (q1 : sm_get lv 1 = some (.long xh)) (q3 : sm_get lv 3 = some (.long xl)) (q5 : sm_get lv 5 = some (.int (nI nb))) (q6 : sm_get lv 6 = some (.int (nI ni))) (mnb : nb < 2 ^ 20) (mni : ni < 2 ^ 20) (b1 : nb ≤ ni) (c1 : Ans (d + 8) 148 [.ref 46, .int (nI 2), .long xh, .long xl] S (some (.int rb)) S1) : Bod (d + 8) 192 49 lv [] S (some (.int rb)) (S1) := by
  refine Bod.ildG dc_192_49 (by repeat (first | exact q6 | exact sm_get_p1 | exact sm_get_p2e | refine sm_get_p1m (by decide) (by decide) ?_ | refine sm_get_p1n (by decide) rfl ?_ | refine sm_get_p2n (by decide) (by decide) rfl ?_ | refine sm_get_p2m (by decide) (by decide) (by decide) ?_)) ?_
  refine Bod.ildG dc_192_51 (by repeat (first | exact q5 | exact sm_get_p1 | exact sm_get_p2e | refine sm_get_p1m (by decide) (by decide) ?_ | refine sm_get_p1n (by decide) rfl ?_ | refine sm_get_p2n (by decide) (by decide) rfl ?_ | refine sm_get_p2m (by decide) (by decide) (by decide) ?_)) ?_
  refine Bod.icT dc_192_53 rfl (k2_ge_T ni nb rfl rfl (by omega) (by omega)) ?_
  refine Bod.aldnG dc_192_100 (by repeat (first | exact q0 | exact sm_get_p1 | exact sm_get_p2e | refine sm_get_p1m (by decide) (by decide) ?_ | refine sm_get_p1n (by decide) rfl ?_ | refine sm_get_p2n (by decide) (by decide) rfl ?_ | refine sm_get_p2m (by decide) (by decide) (by decide) ?_)) ?_
  refine Bod.get dc_192_101 fr_192_15 (mk_53 _) rfl ?_
  refine Bod.ic 2 (by decide) dc_192_104 ?_
  refine Bod.lldnG dc_192_105 (by repeat (first | exact q1 | exact sm_get_p1 | exact sm_get_p2e | refine sm_get_p1m (by decide) (by decide) ?_ | refine sm_get_p1n (by decide) rfl ?_ | refine sm_get_p2n (by decide) (by decide) rfl ?_ | refine sm_get_p2m (by decide) (by decide) (by decide) ?_)) ?_
  refine Bod.lldnG dc_192_106 (by repeat (first | exact q3 | exact sm_get_p1 | exact sm_get_p2e | refine sm_get_p1m (by decide) (by decide) ?_ | refine sm_get_p1n (by decide) rfl ?_ | refine sm_get_p2n (by decide) (by decide) rfl ?_ | refine sm_get_p2m (by decide) (by decide) (by decide) ?_)) ?_
  refine Bod.virt (r := []) dc_192_107 kr_192_31 ⟨Or.inr rfl, ow_148, cl_9⟩ (by rw [np_148]; rfl) (by rw [np_148]; rfl) (ob_of (mk_46 _)) (Nat.le_of_ble_eq_true rfl) (c1  ) ?_
  show Bod _ _ _ _ [_] _ _ _
  exact Bod.retI dc_192_110 rt_192
theorem mJsL_2 {d : Nat} {S Sf : cS} {v : Option Value} {lv : sm_L} {xh : Int64} {xl : Int64} {nb : Nat} {ni : Nat} {S1 : cS} {u : Int64} {S2 : cS} {u1 : Int64} {S3 : cS} {a : Nat} {S4 : cS} {u2 : Int64} {S5 : cS} {u3 : Int64} (q0 : sm_get lv 0 = some (.ref 53)) (q1 : sm_get lv 1 = some (.long xh)) (q3 : sm_get lv 3 = some (.long xl)) (q5 : sm_get lv 5 = some (.int (nI nb))) (q6 : sm_get lv 6 = some (.int (nI ni))) (mnb : nb < 2 ^ 20) (mni : ni < 2 ^ 20) (b1 : ni < nb) (c1 : Ans (d + 8) 132 [.ref 46, .int (nI 0)] S (some (.long u)) S1) (c2 : Ans (d + 8) 135 [.ref 46, .int (nI 0)] S1 (some (.long u1)) S2) (ma : a < 2 ^ 20) (c3 : Ans (d + 8) 193 [.long u, .long u1, .int (nI ni)] S2 (some (.int (nI a))) S3) (c4 : Ans (d + 8) 16 [.long xh, .long xl, .int (nI a)] S3 (some (.long u2)) S4) (c5 : Ans (d + 8) 17 [.long xh, .int (nI a)] S4 (some (.long u3)) S5) (hB : ∀ lv1 : sm_L, sm_get lv1 0 = some (.ref 53) → sm_get lv1 1 = some (.long u3) → sm_get lv1 3 = some (.long u2) → sm_get lv1 5 = some (.int (nI nb)) → sm_get lv1 6 = some (.int (nI (ni + 1))) → Bod (d + 8) 192 49 lv1 [] (S5) v Sf) : Bod (d + 8) 192 49 lv [] S v Sf := by
  refine Bod.ildG dc_192_49 (by repeat (first | exact q6 | exact sm_get_p1 | exact sm_get_p2e | refine sm_get_p1m (by decide) (by decide) ?_ | refine sm_get_p1n (by decide) rfl ?_ | refine sm_get_p2n (by decide) (by decide) rfl ?_ | refine sm_get_p2m (by decide) (by decide) (by decide) ?_)) ?_
  refine Bod.ildG dc_192_51 (by repeat (first | exact q5 | exact sm_get_p1 | exact sm_get_p2e | refine sm_get_p1m (by decide) (by decide) ?_ | refine sm_get_p1n (by decide) rfl ?_ | refine sm_get_p2n (by decide) (by decide) rfl ?_ | refine sm_get_p2m (by decide) (by decide) (by decide) ?_)) ?_
  refine Bod.icF dc_192_53 rfl (k2_ge_F ni nb rfl rfl (by omega) (by omega)) ?_
  refine Bod.aldnG dc_192_56 (by repeat (first | exact q0 | exact sm_get_p1 | exact sm_get_p2e | refine sm_get_p1m (by decide) (by decide) ?_ | refine sm_get_p1n (by decide) rfl ?_ | refine sm_get_p2n (by decide) (by decide) rfl ?_ | refine sm_get_p2m (by decide) (by decide) (by decide) ?_)) ?_
  refine Bod.get dc_192_57 fr_192_15 (mk_53 _) rfl ?_
  refine Bod.ic 0 (by decide) dc_192_60 ?_
  refine Bod.virt (r := []) dc_192_61 kr_192_70 ⟨Or.inr rfl, ow_132, cl_9⟩ (by rw [np_132]; rfl) (by rw [np_132]; rfl) (ob_of (mk_46 _)) (Nat.le_of_ble_eq_true rfl) (c1  ) ?_
  show Bod _ _ _ _ [_] _ _ _
  refine Bod.aldnG dc_192_64 (by repeat (first | exact q0 | exact sm_get_p1 | exact sm_get_p2e | refine sm_get_p1m (by decide) (by decide) ?_ | refine sm_get_p1n (by decide) rfl ?_ | refine sm_get_p2n (by decide) (by decide) rfl ?_ | refine sm_get_p2m (by decide) (by decide) (by decide) ?_)) ?_
  refine Bod.get dc_192_65 fr_192_15 (mk_53 _) rfl ?_
  refine Bod.ic 0 (by decide) dc_192_68 ?_
  refine Bod.virt (r := [_]) dc_192_69 kr_192_111 ⟨Or.inr rfl, ow_135, cl_9⟩ (by rw [np_135]; rfl) (by rw [np_135]; rfl) (ob_of (mk_46 _)) (Nat.le_of_ble_eq_true rfl) (c2  ) ?_
  show Bod _ _ _ _ [_, _] _ _ _
  refine Bod.ildG dc_192_72 (by repeat (first | exact q6 | exact sm_get_p1 | exact sm_get_p2e | refine sm_get_p1m (by decide) (by decide) ?_ | refine sm_get_p1n (by decide) rfl ?_ | refine sm_get_p2n (by decide) (by decide) rfl ?_ | refine sm_get_p2m (by decide) (by decide) (by decide) ?_)) ?_
  refine Bod.stat (r := []) dc_192_74 kr_192_119 (Or.inr rfl) (by rw [np_193]; rfl) (by rw [np_193]; rfl) (by rw [np_193]; exact Nat.le_of_ble_eq_true rfl) (Nat.le_of_ble_eq_true rfl) (c3  ) ?_
  show Bod _ _ _ _ [_] _ _ _
  refine Bod.ist dc_192_77 (by rw [ml_192]; exact Nat.le_of_ble_eq_true rfl) ?_
  refine Bod.lldnG dc_192_79 (by repeat (first | exact q1 | exact sm_get_p1 | exact sm_get_p2e | refine sm_get_p1m (by decide) (by decide) ?_ | refine sm_get_p1n (by decide) rfl ?_ | refine sm_get_p2n (by decide) (by decide) rfl ?_ | refine sm_get_p2m (by decide) (by decide) (by decide) ?_)) ?_
  refine Bod.lldnG dc_192_80 (by repeat (first | exact q3 | exact sm_get_p1 | exact sm_get_p2e | refine sm_get_p1m (by decide) (by decide) ?_ | refine sm_get_p1n (by decide) rfl ?_ | refine sm_get_p2n (by decide) (by decide) rfl ?_ | refine sm_get_p2m (by decide) (by decide) (by decide) ?_)) ?_
  refine Bod.ildG dc_192_81 (by repeat (first | exact q0 | exact sm_get_p1 | exact sm_get_p2e | refine sm_get_p1m (by decide) (by decide) ?_ | refine sm_get_p1n (by decide) rfl ?_ | refine sm_get_p2n (by decide) (by decide) rfl ?_ | refine sm_get_p2m (by decide) (by decide) (by decide) ?_)) ?_
  refine Bod.stat (r := []) dc_192_83 kr_192_123 (Or.inr rfl) (by rw [np_16]; rfl) (by rw [np_16]; rfl) (by rw [np_16]; exact Nat.le_of_ble_eq_true rfl) (Nat.le_of_ble_eq_true rfl) (c4  ) ?_
  show Bod _ _ _ _ [_] _ _ _
  refine Bod.lstn dc_192_86 (by rw [ml_192]; exact Nat.le_of_ble_eq_true rfl) ?_
  refine Bod.lldnG dc_192_87 (by repeat (first | exact q1 | exact sm_get_p1 | exact sm_get_p2e | refine sm_get_p1m (by decide) (by decide) ?_ | refine sm_get_p1n (by decide) rfl ?_ | refine sm_get_p2n (by decide) (by decide) rfl ?_ | refine sm_get_p2m (by decide) (by decide) (by decide) ?_)) ?_
  refine Bod.ildG dc_192_88 (by repeat (first | exact q0 | exact sm_get_p1 | exact sm_get_p2e | refine sm_get_p1m (by decide) (by decide) ?_ | refine sm_get_p1n (by decide) rfl ?_ | refine sm_get_p2n (by decide) (by decide) rfl ?_ | refine sm_get_p2m (by decide) (by decide) (by decide) ?_)) ?_
  refine Bod.stat (r := []) dc_192_90 kr_192_127 (Or.inr rfl) (by rw [np_17]; rfl) (by rw [np_17]; rfl) (by rw [np_17]; exact Nat.le_of_ble_eq_true rfl) (Nat.le_of_ble_eq_true rfl) (c5  ) ?_
  show Bod _ _ _ _ [_] _ _ _
  refine Bod.lstn dc_192_93 (by rw [ml_192]; exact Nat.le_of_ble_eq_true rfl) ?_
  refine Bod.incN (ni + 1) (by rw [kc_1, nI_add]) dc_192_94 (by rw [ml_192]; exact Nat.le_of_ble_eq_true rfl) (by repeat (first | exact q6 | exact sm_get_p1 | exact sm_get_p2e | refine sm_get_p1m (by decide) (by decide) ?_ | refine sm_get_p1n (by decide) rfl ?_ | refine sm_get_p2n (by decide) (by decide) rfl ?_ | refine sm_get_p2m (by decide) (by decide) (by decide) ?_)) ?_
  refine Bod.go dc_192_97 rfl ?_
  exact hB _ (by repeat (first | exact q0 | exact sm_get_p1 | exact sm_get_p2e | refine sm_get_p1m (by decide) (by decide) ?_ | refine sm_get_p1n (by decide) rfl ?_ | refine sm_get_p2n (by decide) (by decide) rfl ?_ | refine sm_get_p2m (by decide) (by decide) (by decide) ?_)) (by repeat (first | exact q0 | exact sm_get_p1 | exact sm_get_p2e | refine sm_get_p1m (by decide) (by decide) ?_ | refine sm_get_p1n (by decide) rfl ?_ | refine sm_get_p2n (by decide) (by decide) rfl ?_ | refine sm_get_p2m (by decide) (by decide) (by decide) ?_)) (by repeat (first | exact q0 | exact sm_get_p1 | exact sm_get_p2e | refine sm_get_p1m (by decide) (by decide) ?_ | refine sm_get_p1n (by decide) rfl ?_ | refine sm_get_p2n (by decide) (by decide) rfl ?_ | refine sm_get_p2m (by decide) (by decide) (by decide) ?_)) (by repeat (first | exact q5 | exact sm_get_p1 | exact sm_get_p2e | refine sm_get_p1m (by decide) (by decide) ?_ | refine sm_get_p1n (by decide) rfl ?_ | refine sm_get_p2n (by decide) (by decide) rfl ?_ | refine sm_get_p2m (by decide) (by decide) (by decide) ?_)) (by repeat (first | exact q0 | exact sm_get_p1 | exact sm_get_p2e | refine sm_get_p1m (by decide) (by decide) ?_ | refine sm_get_p1n (by decide) rfl ?_ | refine sm_get_p2n (by decide) (by decide) rfl ?_ | refine sm_get_p2m (by decide) (by decide) (by decide) ?_))
theorem mAa_1 {d : Nat} {S Sf : cS} {v : Option Value} {id : Nat} {fm : Nat} {S1 : cS} {a : Nat} (mid : id < 2 ^ 20) (mfm : fm < 2 ^ 20) (ma : a < 2 ^ 20) (c1 : Ans (d + 8) 140 [.ref 2, .int (nI fm)] S (some (.int (nI a))) S1) (hB : ∀ lv1 : sm_L, sm_get lv1 0 = some (.ref 2) → sm_get lv1 1 = some (.int (nI id)) → sm_get lv1 2 = some (.int (nI fm)) → sm_get lv1 3 = some (.int (nI a)) → sm_get lv1 4 = some (.int (nI 0)) → Bod (d + 8) 195 9 lv1 [] (S1) v Sf) : Bod (d + 8) 195 0 [(0, .ref 2), (1, .int (nI id)), (2, .int (nI fm))] [] S v Sf := by
  refine Bod.go dc_195_0 rfl ?_
  refine Bod.go dc_195_1 rfl ?_
  refine Bod.virt (r := []) dc_195_2 kr_195_121 ⟨Or.inl rfl, ow_140, cl_2⟩ (by rw [np_140]; rfl) (by rw [np_140]; rfl) (ob_of (mk_2 _)) (Nat.le_of_ble_eq_true rfl) (c1  ) ?_
  show Bod _ _ _ _ [_] _ _ _
  refine Bod.istn dc_195_5 (by rw [ml_195]; exact Nat.le_of_ble_eq_true rfl) ?_
  refine Bod.ic 0 (by decide) dc_195_6 ?_
  refine Bod.ist dc_195_7 (by rw [ml_195]; exact Nat.le_of_ble_eq_true rfl) ?_
  exact hB _ (by first | rfl | exact (by repeat (first | exact rfl | exact sm_get_p1 | exact sm_get_p2e | refine sm_get_p1m (by decide) (by decide) ?_ | refine sm_get_p1n (by decide) rfl ?_ | refine sm_get_p2n (by decide) (by decide) rfl ?_ | refine sm_get_p2m (by decide) (by decide) (by decide) ?_))) (by first | rfl | exact (by repeat (first | exact rfl | exact sm_get_p1 | exact sm_get_p2e | refine sm_get_p1m (by decide) (by decide) ?_ | refine sm_get_p1n (by decide) rfl ?_ | refine sm_get_p2n (by decide) (by decide) rfl ?_ | refine sm_get_p2m (by decide) (by decide) (by decide) ?_))) (by first | rfl | exact (by repeat (first | exact rfl | exact sm_get_p1 | exact sm_get_p2e | refine sm_get_p1m (by decide) (by decide) ?_ | refine sm_get_p1n (by decide) rfl ?_ | refine sm_get_p2n (by decide) (by decide) rfl ?_ | refine sm_get_p2m (by decide) (by decide) (by decide) ?_))) (by first | rfl | exact (by repeat (first | exact rfl | exact sm_get_p1 | exact sm_get_p2e | refine sm_get_p1m (by decide) (by decide) ?_ | refine sm_get_p1n (by decide) rfl ?_ | refine sm_get_p2n (by decide) (by decide) rfl ?_ | refine sm_get_p2m (by decide) (by decide) (by decide) ?_))) (by first | rfl | exact (by repeat (first | exact rfl | exact sm_get_p1 | exact sm_get_p2e | refine sm_get_p1m (by decide) (by decide) ?_ | refine sm_get_p1n (by decide) rfl ?_ | refine sm_get_p2n (by decide) (by decide) rfl ?_ | refine sm_get_p2m (by decide) (by decide) (by decide) ?_)))
theorem mAaL_1 {d : Nat} {S : cS} {lv : sm_L} {id : Nat} {fm : Nat} {sz : Nat} {ni : Nat} (q0 : sm_get lv 0 = some (.ref 2)) (q1 : sm_get lv 1 = some (.int (nI id))) (q2 : sm_get lv 2 = some (.int (nI fm))) (q3 : sm_get lv 3 = some (.int (nI sz))) (q4 : sm_get lv 4 = some (.int (nI ni))) (mid : id < 2 ^ 20) (mfm : fm < 2 ^ 20) (msz : sz < 2 ^ 20) (mni : ni < 2 ^ 20) (b1 : sz ≤ ni) : Bod (d + 8) 195 9 lv [] S none (S) := by
  refine Bod.ildG dc_195_9 (by repeat (first | exact q4 | exact sm_get_p1 | exact sm_get_p2e | refine sm_get_p1m (by decide) (by decide) ?_ | refine sm_get_p1n (by decide) rfl ?_ | refine sm_get_p2n (by decide) (by decide) rfl ?_ | refine sm_get_p2m (by decide) (by decide) (by decide) ?_)) ?_
  refine Bod.ildnG dc_195_11 (by repeat (first | exact q3 | exact sm_get_p1 | exact sm_get_p2e | refine sm_get_p1m (by decide) (by decide) ?_ | refine sm_get_p1n (by decide) rfl ?_ | refine sm_get_p2n (by decide) (by decide) rfl ?_ | refine sm_get_p2m (by decide) (by decide) (by decide) ?_)) ?_
  refine Bod.icT dc_195_12 rfl (k2_ge_T ni sz rfl rfl (by omega) (by omega)) ?_
  exact Bod.retV dc_195_43 rt_195
theorem mAaL_2 {d : Nat} {S Sf : cS} {v : Option Value} {lv : sm_L} {id : Nat} {fm : Nat} {sz : Nat} {ni : Nat} {S1 : cS} {u : Int64} {S2 : cS} {u1 : Int64} {S3 : cS} (q0 : sm_get lv 0 = some (.ref 2)) (q1 : sm_get lv 1 = some (.int (nI id))) (q2 : sm_get lv 2 = some (.int (nI fm))) (q3 : sm_get lv 3 = some (.int (nI sz))) (q4 : sm_get lv 4 = some (.int (nI ni))) (mid : id < 2 ^ 20) (mfm : fm < 2 ^ 20) (msz : sz < 2 ^ 20) (mni : ni < 2 ^ 20) (b1 : ni < sz) (c1 : Ans (d + 8) 156 [.ref 2, .int (nI fm), .int (nI ni)] S (some (.long u)) S1) (c2 : Ans (d + 8) 158 [.ref 2, .int (nI fm), .int (nI ni)] S1 (some (.long u1)) S2) (c3 : Ans (d + 8) 183 [.ref 2, .int (nI id), .long 0, .long 0, .long u, .long u1] S2 (some (.int (nI 1))) S3) (hB : ∀ lv1 : sm_L, sm_get lv1 0 = some (.ref 2) → sm_get lv1 1 = some (.int (nI id)) → sm_get lv1 2 = some (.int (nI fm)) → sm_get lv1 3 = some (.int (nI sz)) → sm_get lv1 4 = some (.int (nI (ni + 1))) → Bod (d + 8) 195 9 lv1 [] (S3) v Sf) : Bod (d + 8) 195 9 lv [] S v Sf := by
  refine Bod.ildG dc_195_9 (by repeat (first | exact q4 | exact sm_get_p1 | exact sm_get_p2e | refine sm_get_p1m (by decide) (by decide) ?_ | refine sm_get_p1n (by decide) rfl ?_ | refine sm_get_p2n (by decide) (by decide) rfl ?_ | refine sm_get_p2m (by decide) (by decide) (by decide) ?_)) ?_
  refine Bod.ildnG dc_195_11 (by repeat (first | exact q3 | exact sm_get_p1 | exact sm_get_p2e | refine sm_get_p1m (by decide) (by decide) ?_ | refine sm_get_p1n (by decide) rfl ?_ | refine sm_get_p2n (by decide) (by decide) rfl ?_ | refine sm_get_p2m (by decide) (by decide) (by decide) ?_)) ?_
  refine Bod.icF dc_195_12 rfl (k2_ge_F ni sz rfl rfl (by omega) (by omega)) ?_
  refine Bod.aldnG dc_195_15 (by repeat (first | exact q0 | exact sm_get_p1 | exact sm_get_p2e | refine sm_get_p1m (by decide) (by decide) ?_ | refine sm_get_p1n (by decide) rfl ?_ | refine sm_get_p2n (by decide) (by decide) rfl ?_ | refine sm_get_p2m (by decide) (by decide) (by decide) ?_)) ?_
  refine Bod.ildnG dc_195_16 (by repeat (first | exact q1 | exact sm_get_p1 | exact sm_get_p2e | refine sm_get_p1m (by decide) (by decide) ?_ | refine sm_get_p1n (by decide) rfl ?_ | refine sm_get_p2n (by decide) (by decide) rfl ?_ | refine sm_get_p2m (by decide) (by decide) (by decide) ?_)) ?_
  refine Bod.go dc_195_17 rfl ?_
  refine Bod.go dc_195_18 rfl ?_
  refine Bod.aldnG dc_195_19 (by repeat (first | exact q0 | exact sm_get_p1 | exact sm_get_p2e | refine sm_get_p1m (by decide) (by decide) ?_ | refine sm_get_p1n (by decide) rfl ?_ | refine sm_get_p2n (by decide) (by decide) rfl ?_ | refine sm_get_p2m (by decide) (by decide) (by decide) ?_)) ?_
  refine Bod.ildnG dc_195_20 (by repeat (first | exact q2 | exact sm_get_p1 | exact sm_get_p2e | refine sm_get_p1m (by decide) (by decide) ?_ | refine sm_get_p1n (by decide) rfl ?_ | refine sm_get_p2n (by decide) (by decide) rfl ?_ | refine sm_get_p2m (by decide) (by decide) (by decide) ?_)) ?_
  refine Bod.ildG dc_195_21 (by repeat (first | exact q4 | exact sm_get_p1 | exact sm_get_p2e | refine sm_get_p1m (by decide) (by decide) ?_ | refine sm_get_p1n (by decide) rfl ?_ | refine sm_get_p2n (by decide) (by decide) rfl ?_ | refine sm_get_p2m (by decide) (by decide) (by decide) ?_)) ?_
  refine Bod.virt (r := [_, _, _, _]) dc_195_23 kr_195_124 ⟨Or.inl rfl, ow_156, cl_2⟩ (by rw [np_156]; rfl) (by rw [np_156]; rfl) (ob_of (mk_2 _)) (Nat.le_of_ble_eq_true rfl) (c1  ) ?_
  show Bod _ _ _ _ [_, _, _, _, _] _ _ _
  refine Bod.aldnG dc_195_26 (by repeat (first | exact q0 | exact sm_get_p1 | exact sm_get_p2e | refine sm_get_p1m (by decide) (by decide) ?_ | refine sm_get_p1n (by decide) rfl ?_ | refine sm_get_p2n (by decide) (by decide) rfl ?_ | refine sm_get_p2m (by decide) (by decide) (by decide) ?_)) ?_
  refine Bod.ildnG dc_195_27 (by repeat (first | exact q2 | exact sm_get_p1 | exact sm_get_p2e | refine sm_get_p1m (by decide) (by decide) ?_ | refine sm_get_p1n (by decide) rfl ?_ | refine sm_get_p2n (by decide) (by decide) rfl ?_ | refine sm_get_p2m (by decide) (by decide) (by decide) ?_)) ?_
  refine Bod.ildG dc_195_28 (by repeat (first | exact q4 | exact sm_get_p1 | exact sm_get_p2e | refine sm_get_p1m (by decide) (by decide) ?_ | refine sm_get_p1n (by decide) rfl ?_ | refine sm_get_p2n (by decide) (by decide) rfl ?_ | refine sm_get_p2m (by decide) (by decide) (by decide) ?_)) ?_
  refine Bod.virt (r := [_, _, _, _, _]) dc_195_30 kr_195_128 ⟨Or.inl rfl, ow_158, cl_2⟩ (by rw [np_158]; rfl) (by rw [np_158]; rfl) (ob_of (mk_2 _)) (Nat.le_of_ble_eq_true rfl) (c2  ) ?_
  show Bod _ _ _ _ [_, _, _, _, _, _] _ _ _
  refine Bod.virt (r := []) dc_195_33 kr_195_131 ⟨Or.inl rfl, ow_183, cl_2⟩ (by rw [np_183]; rfl) (by rw [np_183]; rfl) (ob_of (mk_2 _)) (Nat.le_of_ble_eq_true rfl) (c3  ) ?_
  show Bod _ _ _ _ [_] _ _ _
  refine Bod.go dc_195_36 rfl ?_
  refine Bod.incN (ni + 1) (by rw [kc_1, nI_add]) dc_195_37 (by rw [ml_195]; exact Nat.le_of_ble_eq_true rfl) (by repeat (first | exact q4 | exact sm_get_p1 | exact sm_get_p2e | refine sm_get_p1m (by decide) (by decide) ?_ | refine sm_get_p1n (by decide) rfl ?_ | refine sm_get_p2n (by decide) (by decide) rfl ?_ | refine sm_get_p2m (by decide) (by decide) (by decide) ?_)) ?_
  refine Bod.go dc_195_40 rfl ?_
  exact hB _ (by repeat (first | exact q0 | exact sm_get_p1 | exact sm_get_p2e | refine sm_get_p1m (by decide) (by decide) ?_ | refine sm_get_p1n (by decide) rfl ?_ | refine sm_get_p2n (by decide) (by decide) rfl ?_ | refine sm_get_p2m (by decide) (by decide) (by decide) ?_)) (by repeat (first | exact q1 | exact sm_get_p1 | exact sm_get_p2e | refine sm_get_p1m (by decide) (by decide) ?_ | refine sm_get_p1n (by decide) rfl ?_ | refine sm_get_p2n (by decide) (by decide) rfl ?_ | refine sm_get_p2m (by decide) (by decide) (by decide) ?_)) (by repeat (first | exact q2 | exact sm_get_p1 | exact sm_get_p2e | refine sm_get_p1m (by decide) (by decide) ?_ | refine sm_get_p1n (by decide) rfl ?_ | refine sm_get_p2n (by decide) (by decide) rfl ?_ | refine sm_get_p2m (by decide) (by decide) (by decide) ?_)) (by repeat (first | exact q3 | exact sm_get_p1 | exact sm_get_p2e | refine sm_get_p1m (by decide) (by decide) ?_ | refine sm_get_p1n (by decide) rfl ?_ | refine sm_get_p2n (by decide) (by decide) rfl ?_ | refine sm_get_p2m (by decide) (by decide) (by decide) ?_)) (by repeat (first | exact q0 | exact sm_get_p1 | exact sm_get_p2e | refine sm_get_p1m (by decide) (by decide) ?_ | refine sm_get_p1n (by decide) rfl ?_ | refine sm_get_p2n (by decide) (by decide) rfl ?_ | refine sm_get_p2m (by decide) (by decide) (by decide) ?_))
theorem mAaL_3 {d : Nat} {S Sf : cS} {v : Option Value} {lv : sm_L} {id : Nat} {fm : Nat} {sz : Nat} {ni : Nat} {S1 : cS} {u : Int64} {S2 : cS} {u1 : Int64} {S3 : cS} (q0 : sm_get lv 0 = some (.ref 2)) (q1 : sm_get lv 1 = some (.int (nI id))) (q2 : sm_get lv 2 = some (.int (nI fm))) (q3 : sm_get lv 3 = some (.int (nI sz))) (q4 : sm_get lv 4 = some (.int (nI ni))) (mid : id < 2 ^ 20) (mfm : fm < 2 ^ 20) (msz : sz < 2 ^ 20) (mni : ni < 2 ^ 20) (b1 : ni < sz) (c1 : Ans (d + 8) 156 [.ref 2, .int (nI fm), .int (nI ni)] S (some (.long u)) S1) (c2 : Ans (d + 8) 158 [.ref 2, .int (nI fm), .int (nI ni)] S1 (some (.long u1)) S2) (c3 : Ans (d + 8) 183 [.ref 2, .int (nI id), .long 0, .long 0, .long u, .long u1] S2 (some (.int (nI 0))) S3) (hB : ∀ lv1 : sm_L, sm_get lv1 0 = some (.ref 2) → sm_get lv1 1 = some (.int (nI id)) → sm_get lv1 2 = some (.int (nI fm)) → sm_get lv1 3 = some (.int (nI sz)) → sm_get lv1 4 = some (.int (nI (ni + 1))) → Bod (d + 8) 195 9 lv1 [] (S3) v Sf) : Bod (d + 8) 195 9 lv [] S v Sf := by
  refine Bod.ildG dc_195_9 (by repeat (first | exact q4 | exact sm_get_p1 | exact sm_get_p2e | refine sm_get_p1m (by decide) (by decide) ?_ | refine sm_get_p1n (by decide) rfl ?_ | refine sm_get_p2n (by decide) (by decide) rfl ?_ | refine sm_get_p2m (by decide) (by decide) (by decide) ?_)) ?_
  refine Bod.ildnG dc_195_11 (by repeat (first | exact q3 | exact sm_get_p1 | exact sm_get_p2e | refine sm_get_p1m (by decide) (by decide) ?_ | refine sm_get_p1n (by decide) rfl ?_ | refine sm_get_p2n (by decide) (by decide) rfl ?_ | refine sm_get_p2m (by decide) (by decide) (by decide) ?_)) ?_
  refine Bod.icF dc_195_12 rfl (k2_ge_F ni sz rfl rfl (by omega) (by omega)) ?_
  refine Bod.aldnG dc_195_15 (by repeat (first | exact q0 | exact sm_get_p1 | exact sm_get_p2e | refine sm_get_p1m (by decide) (by decide) ?_ | refine sm_get_p1n (by decide) rfl ?_ | refine sm_get_p2n (by decide) (by decide) rfl ?_ | refine sm_get_p2m (by decide) (by decide) (by decide) ?_)) ?_
  refine Bod.ildnG dc_195_16 (by repeat (first | exact q1 | exact sm_get_p1 | exact sm_get_p2e | refine sm_get_p1m (by decide) (by decide) ?_ | refine sm_get_p1n (by decide) rfl ?_ | refine sm_get_p2n (by decide) (by decide) rfl ?_ | refine sm_get_p2m (by decide) (by decide) (by decide) ?_)) ?_
  refine Bod.go dc_195_17 rfl ?_
  refine Bod.go dc_195_18 rfl ?_
  refine Bod.aldnG dc_195_19 (by repeat (first | exact q0 | exact sm_get_p1 | exact sm_get_p2e | refine sm_get_p1m (by decide) (by decide) ?_ | refine sm_get_p1n (by decide) rfl ?_ | refine sm_get_p2n (by decide) (by decide) rfl ?_ | refine sm_get_p2m (by decide) (by decide) (by decide) ?_)) ?_
  refine Bod.ildnG dc_195_20 (by repeat (first | exact q2 | exact sm_get_p1 | exact sm_get_p2e | refine sm_get_p1m (by decide) (by decide) ?_ | refine sm_get_p1n (by decide) rfl ?_ | refine sm_get_p2n (by decide) (by decide) rfl ?_ | refine sm_get_p2m (by decide) (by decide) (by decide) ?_)) ?_
  refine Bod.ildG dc_195_21 (by repeat (first | exact q4 | exact sm_get_p1 | exact sm_get_p2e | refine sm_get_p1m (by decide) (by decide) ?_ | refine sm_get_p1n (by decide) rfl ?_ | refine sm_get_p2n (by decide) (by decide) rfl ?_ | refine sm_get_p2m (by decide) (by decide) (by decide) ?_)) ?_
  refine Bod.virt (r := [_, _, _, _]) dc_195_23 kr_195_124 ⟨Or.inl rfl, ow_156, cl_2⟩ (by rw [np_156]; rfl) (by rw [np_156]; rfl) (ob_of (mk_2 _)) (Nat.le_of_ble_eq_true rfl) (c1  ) ?_
  show Bod _ _ _ _ [_, _, _, _, _] _ _ _
  refine Bod.aldnG dc_195_26 (by repeat (first | exact q0 | exact sm_get_p1 | exact sm_get_p2e | refine sm_get_p1m (by decide) (by decide) ?_ | refine sm_get_p1n (by decide) rfl ?_ | refine sm_get_p2n (by decide) (by decide) rfl ?_ | refine sm_get_p2m (by decide) (by decide) (by decide) ?_)) ?_
  refine Bod.ildnG dc_195_27 (by repeat (first | exact q2 | exact sm_get_p1 | exact sm_get_p2e | refine sm_get_p1m (by decide) (by decide) ?_ | refine sm_get_p1n (by decide) rfl ?_ | refine sm_get_p2n (by decide) (by decide) rfl ?_ | refine sm_get_p2m (by decide) (by decide) (by decide) ?_)) ?_
  refine Bod.ildG dc_195_28 (by repeat (first | exact q4 | exact sm_get_p1 | exact sm_get_p2e | refine sm_get_p1m (by decide) (by decide) ?_ | refine sm_get_p1n (by decide) rfl ?_ | refine sm_get_p2n (by decide) (by decide) rfl ?_ | refine sm_get_p2m (by decide) (by decide) (by decide) ?_)) ?_
  refine Bod.virt (r := [_, _, _, _, _]) dc_195_30 kr_195_128 ⟨Or.inl rfl, ow_158, cl_2⟩ (by rw [np_158]; rfl) (by rw [np_158]; rfl) (ob_of (mk_2 _)) (Nat.le_of_ble_eq_true rfl) (c2  ) ?_
  show Bod _ _ _ _ [_, _, _, _, _, _] _ _ _
  refine Bod.virt (r := []) dc_195_33 kr_195_131 ⟨Or.inl rfl, ow_183, cl_2⟩ (by rw [np_183]; rfl) (by rw [np_183]; rfl) (ob_of (mk_2 _)) (Nat.le_of_ble_eq_true rfl) (c3  ) ?_
  show Bod _ _ _ _ [_] _ _ _
  refine Bod.go dc_195_36 rfl ?_
  refine Bod.incN (ni + 1) (by rw [kc_1, nI_add]) dc_195_37 (by rw [ml_195]; exact Nat.le_of_ble_eq_true rfl) (by repeat (first | exact q4 | exact sm_get_p1 | exact sm_get_p2e | refine sm_get_p1m (by decide) (by decide) ?_ | refine sm_get_p1n (by decide) rfl ?_ | refine sm_get_p2n (by decide) (by decide) rfl ?_ | refine sm_get_p2m (by decide) (by decide) (by decide) ?_)) ?_
  refine Bod.go dc_195_40 rfl ?_
  exact hB _ (by repeat (first | exact q0 | exact sm_get_p1 | exact sm_get_p2e | refine sm_get_p1m (by decide) (by decide) ?_ | refine sm_get_p1n (by decide) rfl ?_ | refine sm_get_p2n (by decide) (by decide) rfl ?_ | refine sm_get_p2m (by decide) (by decide) (by decide) ?_)) (by repeat (first | exact q1 | exact sm_get_p1 | exact sm_get_p2e | refine sm_get_p1m (by decide) (by decide) ?_ | refine sm_get_p1n (by decide) rfl ?_ | refine sm_get_p2n (by decide) (by decide) rfl ?_ | refine sm_get_p2m (by decide) (by decide) (by decide) ?_)) (by repeat (first | exact q2 | exact sm_get_p1 | exact sm_get_p2e | refine sm_get_p1m (by decide) (by decide) ?_ | refine sm_get_p1n (by decide) rfl ?_ | refine sm_get_p2n (by decide) (by decide) rfl ?_ | refine sm_get_p2m (by decide) (by decide) (by decide) ?_)) (by repeat (first | exact q3 | exact sm_get_p1 | exact sm_get_p2e | refine sm_get_p1m (by decide) (by decide) ?_ | refine sm_get_p1n (by decide) rfl ?_ | refine sm_get_p2n (by decide) (by decide) rfl ?_ | refine sm_get_p2m (by decide) (by decide) (by decide) ?_)) (by repeat (first | exact q0 | exact sm_get_p1 | exact sm_get_p2e | refine sm_get_p1m (by decide) (by decide) ?_ | refine sm_get_p1n (by decide) rfl ?_ | refine sm_get_p2n (by decide) (by decide) rfl ?_ | refine sm_get_p2m (by decide) (by decide) (by decide) ?_))
theorem mIn_1 {d : Nat} {S : cS} {S1 : cS} {a : Nat} {S2 : cS} {u : Int64} {S3 : cS} {u1 : Int64} {S4 : cS} {a1 : Nat} {S5 : cS} {a2 : Nat} (ma : a < 2 ^ 20) (c1 : Ans (d + 8) 136 [.ref 46, .int (nI 0)] S (some (.int (nI a))) S1) (c2 : Ans (d + 8) 132 [.ref 46, .int (nI 1)] S1 (some (.long u)) S2) (c3 : Ans (d + 8) 135 [.ref 46, .int (nI 1)] S2 (some (.long u1)) S3) (ma1 : a1 < 2 ^ 20) (c4 : Ans (d + 8) 138 [.ref 2, .int (nI a)] S3 (some (.int (nI a1))) S4) (b1 : a1 ≠ 2) (ma2 : a2 < 2 ^ 20) (c5 : Ans (d + 8) 138 [.ref 2, .int (nI a)] S4 (some (.int (nI a2))) S5) (b2 : a2 ≠ 1) : Bod (d + 8) 204 0 [(0, .ref 53)] [] S (some (.int (nI 2))) (S5) := by
  refine Bod.go dc_204_0 rfl ?_
  refine Bod.get dc_204_1 fr_204_15 (mk_53 _) rfl ?_
  refine Bod.ic 0 (by decide) dc_204_4 ?_
  refine Bod.virt (r := []) dc_204_5 kr_204_169 ⟨Or.inr rfl, ow_136, cl_9⟩ (by rw [np_136]; rfl) (by rw [np_136]; rfl) (ob_of (mk_46 _)) (Nat.le_of_ble_eq_true rfl) (c1  ) ?_
  show Bod _ _ _ _ [_] _ _ _
  refine Bod.istn dc_204_8 (by rw [ml_204]; exact Nat.le_of_ble_eq_true rfl) ?_
  refine Bod.go dc_204_9 rfl ?_
  refine Bod.get dc_204_10 fr_204_15 (mk_53 _) rfl ?_
  refine Bod.ic 1 (by decide) dc_204_13 ?_
  refine Bod.virt (r := []) dc_204_14 kr_204_70 ⟨Or.inr rfl, ow_132, cl_9⟩ (by rw [np_132]; rfl) (by rw [np_132]; rfl) (ob_of (mk_46 _)) (Nat.le_of_ble_eq_true rfl) (c2  ) ?_
  show Bod _ _ _ _ [_] _ _ _
  refine Bod.lstn dc_204_17 (by rw [ml_204]; exact Nat.le_of_ble_eq_true rfl) ?_
  refine Bod.go dc_204_18 rfl ?_
  refine Bod.get dc_204_19 fr_204_15 (mk_53 _) rfl ?_
  refine Bod.ic 1 (by decide) dc_204_22 ?_
  refine Bod.virt (r := []) dc_204_23 kr_204_111 ⟨Or.inr rfl, ow_135, cl_9⟩ (by rw [np_135]; rfl) (by rw [np_135]; rfl) (ob_of (mk_46 _)) (Nat.le_of_ble_eq_true rfl) (c3  ) ?_
  show Bod _ _ _ _ [_] _ _ _
  refine Bod.lst dc_204_26 (by rw [ml_204]; exact Nat.le_of_ble_eq_true rfl) ?_
  refine Bod.ic 0 (by decide) dc_204_28 ?_
  refine Bod.ist dc_204_29 (by rw [ml_204]; exact Nat.le_of_ble_eq_true rfl) ?_
  refine Bod.go dc_204_31 rfl ?_
  refine Bod.get dc_204_32 fr_204_9 (mk_53 _) rfl ?_
  refine Bod.go dc_204_35 rfl ?_
  refine Bod.virt (r := []) dc_204_36 kr_204_171 ⟨Or.inr rfl, ow_138, cl_2⟩ (by rw [np_138]; rfl) (by rw [np_138]; rfl) (ob_of (mk_2 _)) (Nat.le_of_ble_eq_true rfl) (c4  ) ?_
  show Bod _ _ _ _ [_] _ _ _
  refine Bod.ic 2 (by decide) dc_204_39 ?_
  refine Bod.icT dc_204_40 rfl (k2_ne_T (k_ne a1 2 rfl rfl (by omega) (by omega) (by omega))) ?_
  refine Bod.go dc_204_76 rfl ?_
  refine Bod.get dc_204_77 fr_204_9 (mk_53 _) rfl ?_
  refine Bod.go dc_204_80 rfl ?_
  refine Bod.virt (r := []) dc_204_81 kr_204_171 ⟨Or.inr rfl, ow_138, cl_2⟩ (by rw [np_138]; rfl) (by rw [np_138]; rfl) (ob_of (mk_2 _)) (Nat.le_of_ble_eq_true rfl) (c5  ) ?_
  show Bod _ _ _ _ [_] _ _ _
  refine Bod.ic 1 (by decide) dc_204_84 ?_
  refine Bod.icT dc_204_85 rfl (k2_ne_T (k_ne a2 1 rfl rfl (by omega) (by omega) (by omega))) ?_
  refine Bod.ic 2 (by decide) dc_204_160 ?_
  exact Bod.retI dc_204_161 rt_204
theorem mIn_2 {d : Nat} {S Sf : cS} {v : Option Value} {S1 : cS} {a : Nat} {S2 : cS} {u : Int64} {S3 : cS} {u1 : Int64} {S4 : cS} {a1 : Nat} {S5 : cS} {a2 : Nat} {S6 : cS} {a3 : Nat} (ma : a < 2 ^ 20) (c1 : Ans (d + 8) 136 [.ref 46, .int (nI 0)] S (some (.int (nI a))) S1) (c2 : Ans (d + 8) 132 [.ref 46, .int (nI 1)] S1 (some (.long u)) S2) (c3 : Ans (d + 8) 135 [.ref 46, .int (nI 1)] S2 (some (.long u1)) S3) (ma1 : a1 < 2 ^ 20) (c4 : Ans (d + 8) 138 [.ref 2, .int (nI a)] S3 (some (.int (nI a1))) S4) (b1 : a1 ≠ 2) (ma2 : a2 < 2 ^ 20) (c5 : Ans (d + 8) 138 [.ref 2, .int (nI a)] S4 (some (.int (nI a2))) S5) (b2 : a2 = 1) (ma3 : a3 < 2 ^ 20) (c6 : Ans (d + 8) 140 [.ref 2, .int (nI a)] S5 (some (.int (nI a3))) S6) (hB : ∀ lv1 : sm_L, sm_get lv1 0 = some (.ref 53) → sm_get lv1 1 = some (.int (nI a)) → sm_get lv1 2 = some (.long u) → sm_get lv1 4 = some (.long u1) → sm_get lv1 6 = some (.int (nI 0)) → sm_get lv1 7 = some (.int (nI a3)) → sm_get lv1 8 = some (.int (nI 0)) → Bod (d + 8) 204 101 lv1 [] (S6) v Sf) : Bod (d + 8) 204 0 [(0, .ref 53)] [] S v Sf := by
  refine Bod.go dc_204_0 rfl ?_
  refine Bod.get dc_204_1 fr_204_15 (mk_53 _) rfl ?_
  refine Bod.ic 0 (by decide) dc_204_4 ?_
  refine Bod.virt (r := []) dc_204_5 kr_204_169 ⟨Or.inr rfl, ow_136, cl_9⟩ (by rw [np_136]; rfl) (by rw [np_136]; rfl) (ob_of (mk_46 _)) (Nat.le_of_ble_eq_true rfl) (c1  ) ?_
  show Bod _ _ _ _ [_] _ _ _
  refine Bod.istn dc_204_8 (by rw [ml_204]; exact Nat.le_of_ble_eq_true rfl) ?_
  refine Bod.go dc_204_9 rfl ?_
  refine Bod.get dc_204_10 fr_204_15 (mk_53 _) rfl ?_
  refine Bod.ic 1 (by decide) dc_204_13 ?_
  refine Bod.virt (r := []) dc_204_14 kr_204_70 ⟨Or.inr rfl, ow_132, cl_9⟩ (by rw [np_132]; rfl) (by rw [np_132]; rfl) (ob_of (mk_46 _)) (Nat.le_of_ble_eq_true rfl) (c2  ) ?_
  show Bod _ _ _ _ [_] _ _ _
  refine Bod.lstn dc_204_17 (by rw [ml_204]; exact Nat.le_of_ble_eq_true rfl) ?_
  refine Bod.go dc_204_18 rfl ?_
  refine Bod.get dc_204_19 fr_204_15 (mk_53 _) rfl ?_
  refine Bod.ic 1 (by decide) dc_204_22 ?_
  refine Bod.virt (r := []) dc_204_23 kr_204_111 ⟨Or.inr rfl, ow_135, cl_9⟩ (by rw [np_135]; rfl) (by rw [np_135]; rfl) (ob_of (mk_46 _)) (Nat.le_of_ble_eq_true rfl) (c3  ) ?_
  show Bod _ _ _ _ [_] _ _ _
  refine Bod.lst dc_204_26 (by rw [ml_204]; exact Nat.le_of_ble_eq_true rfl) ?_
  refine Bod.ic 0 (by decide) dc_204_28 ?_
  refine Bod.ist dc_204_29 (by rw [ml_204]; exact Nat.le_of_ble_eq_true rfl) ?_
  refine Bod.go dc_204_31 rfl ?_
  refine Bod.get dc_204_32 fr_204_9 (mk_53 _) rfl ?_
  refine Bod.go dc_204_35 rfl ?_
  refine Bod.virt (r := []) dc_204_36 kr_204_171 ⟨Or.inr rfl, ow_138, cl_2⟩ (by rw [np_138]; rfl) (by rw [np_138]; rfl) (ob_of (mk_2 _)) (Nat.le_of_ble_eq_true rfl) (c4  ) ?_
  show Bod _ _ _ _ [_] _ _ _
  refine Bod.ic 2 (by decide) dc_204_39 ?_
  refine Bod.icT dc_204_40 rfl (k2_ne_T (k_ne a1 2 rfl rfl (by omega) (by omega) (by omega))) ?_
  refine Bod.go dc_204_76 rfl ?_
  refine Bod.get dc_204_77 fr_204_9 (mk_53 _) rfl ?_
  refine Bod.go dc_204_80 rfl ?_
  refine Bod.virt (r := []) dc_204_81 kr_204_171 ⟨Or.inr rfl, ow_138, cl_2⟩ (by rw [np_138]; rfl) (by rw [np_138]; rfl) (ob_of (mk_2 _)) (Nat.le_of_ble_eq_true rfl) (c5  ) ?_
  show Bod _ _ _ _ [_] _ _ _
  refine Bod.ic 1 (by decide) dc_204_84 ?_
  refine Bod.icF dc_204_85 rfl (k2_ne_F (k_eq a2 1 rfl rfl (by omega))) ?_
  refine Bod.go dc_204_88 rfl ?_
  refine Bod.get dc_204_89 fr_204_9 (mk_53 _) rfl ?_
  refine Bod.go dc_204_92 rfl ?_
  refine Bod.virt (r := []) dc_204_93 kr_204_136 ⟨Or.inr rfl, ow_140, cl_2⟩ (by rw [np_140]; rfl) (by rw [np_140]; rfl) (ob_of (mk_2 _)) (Nat.le_of_ble_eq_true rfl) (c6  ) ?_
  show Bod _ _ _ _ [_] _ _ _
  refine Bod.ist dc_204_96 (by rw [ml_204]; exact Nat.le_of_ble_eq_true rfl) ?_
  refine Bod.ic 0 (by decide) dc_204_98 ?_
  refine Bod.ist dc_204_99 (by rw [ml_204]; exact Nat.le_of_ble_eq_true rfl) ?_
  exact hB _ (by first | rfl | exact (by repeat (first | exact rfl | exact sm_get_p1 | exact sm_get_p2e | refine sm_get_p1m (by decide) (by decide) ?_ | refine sm_get_p1n (by decide) rfl ?_ | refine sm_get_p2n (by decide) (by decide) rfl ?_ | refine sm_get_p2m (by decide) (by decide) (by decide) ?_))) (by first | rfl | exact (by repeat (first | exact rfl | exact sm_get_p1 | exact sm_get_p2e | refine sm_get_p1m (by decide) (by decide) ?_ | refine sm_get_p1n (by decide) rfl ?_ | refine sm_get_p2n (by decide) (by decide) rfl ?_ | refine sm_get_p2m (by decide) (by decide) (by decide) ?_))) (by first | rfl | exact (by repeat (first | exact rfl | exact sm_get_p1 | exact sm_get_p2e | refine sm_get_p1m (by decide) (by decide) ?_ | refine sm_get_p1n (by decide) rfl ?_ | refine sm_get_p2n (by decide) (by decide) rfl ?_ | refine sm_get_p2m (by decide) (by decide) (by decide) ?_))) (by first | rfl | exact (by repeat (first | exact rfl | exact sm_get_p1 | exact sm_get_p2e | refine sm_get_p1m (by decide) (by decide) ?_ | refine sm_get_p1n (by decide) rfl ?_ | refine sm_get_p2n (by decide) (by decide) rfl ?_ | refine sm_get_p2m (by decide) (by decide) (by decide) ?_))) (by first | rfl | exact (by repeat (first | exact rfl | exact sm_get_p1 | exact sm_get_p2e | refine sm_get_p1m (by decide) (by decide) ?_ | refine sm_get_p1n (by decide) rfl ?_ | refine sm_get_p2n (by decide) (by decide) rfl ?_ | refine sm_get_p2m (by decide) (by decide) (by decide) ?_))) (by first | rfl | exact (by repeat (first | exact rfl | exact sm_get_p1 | exact sm_get_p2e | refine sm_get_p1m (by decide) (by decide) ?_ | refine sm_get_p1n (by decide) rfl ?_ | refine sm_get_p2n (by decide) (by decide) rfl ?_ | refine sm_get_p2m (by decide) (by decide) (by decide) ?_))) (by first | rfl | exact (by repeat (first | exact rfl | exact sm_get_p1 | exact sm_get_p2e | refine sm_get_p1m (by decide) (by decide) ?_ | refine sm_get_p1n (by decide) rfl ?_ | refine sm_get_p2n (by decide) (by decide) rfl ?_ | refine sm_get_p2m (by decide) (by decide) (by decide) ?_)))
theorem mIn_3 {d : Nat} {S : cS} {S1 : cS} {a : Nat} {S2 : cS} {u : Int64} {S3 : cS} {u1 : Int64} {S4 : cS} {a1 : Nat} {S5 : cS} {S6 : cS} {rb : Int32} {S7 : cS} {rb1 : Int32} (ma : a < 2 ^ 20) (c1 : Ans (d + 8) 136 [.ref 46, .int (nI 0)] S (some (.int (nI a))) S1) (c2 : Ans (d + 8) 132 [.ref 46, .int (nI 1)] S1 (some (.long u)) S2) (c3 : Ans (d + 8) 135 [.ref 46, .int (nI 1)] S2 (some (.long u1)) S3) (ma1 : a1 < 2 ^ 20) (c4 : Ans (d + 8) 138 [.ref 2, .int (nI a)] S3 (some (.int (nI a1))) S4) (b1 : a1 = 2) (c5 : Ans (d + 8) 205 [.long u] S4 (some (.int (nI 1))) S5) (c6 : Ans (d + 8) 206 [.ref 2, .int (nI a), .long u, .long u1] S5 (some (.int rb)) S6) (w10 : sm_c1 .lt rb true false = true) (c7 : Ans (d + 8) 148 [.ref 46, .int (nI 2), .long ((2305843009213693952)), .long 0] S6 (some (.int rb1)) S7) : Bod (d + 8) 204 0 [(0, .ref 53)] [] S (some (.int rb1)) (S7) := by
  refine Bod.go dc_204_0 rfl ?_
  refine Bod.get dc_204_1 fr_204_15 (mk_53 _) rfl ?_
  refine Bod.ic 0 (by decide) dc_204_4 ?_
  refine Bod.virt (r := []) dc_204_5 kr_204_169 ⟨Or.inr rfl, ow_136, cl_9⟩ (by rw [np_136]; rfl) (by rw [np_136]; rfl) (ob_of (mk_46 _)) (Nat.le_of_ble_eq_true rfl) (c1  ) ?_
  show Bod _ _ _ _ [_] _ _ _
  refine Bod.istn dc_204_8 (by rw [ml_204]; exact Nat.le_of_ble_eq_true rfl) ?_
  refine Bod.go dc_204_9 rfl ?_
  refine Bod.get dc_204_10 fr_204_15 (mk_53 _) rfl ?_
  refine Bod.ic 1 (by decide) dc_204_13 ?_
  refine Bod.virt (r := []) dc_204_14 kr_204_70 ⟨Or.inr rfl, ow_132, cl_9⟩ (by rw [np_132]; rfl) (by rw [np_132]; rfl) (ob_of (mk_46 _)) (Nat.le_of_ble_eq_true rfl) (c2  ) ?_
  show Bod _ _ _ _ [_] _ _ _
  refine Bod.lstn dc_204_17 (by rw [ml_204]; exact Nat.le_of_ble_eq_true rfl) ?_
  refine Bod.go dc_204_18 rfl ?_
  refine Bod.get dc_204_19 fr_204_15 (mk_53 _) rfl ?_
  refine Bod.ic 1 (by decide) dc_204_22 ?_
  refine Bod.virt (r := []) dc_204_23 kr_204_111 ⟨Or.inr rfl, ow_135, cl_9⟩ (by rw [np_135]; rfl) (by rw [np_135]; rfl) (ob_of (mk_46 _)) (Nat.le_of_ble_eq_true rfl) (c3  ) ?_
  show Bod _ _ _ _ [_] _ _ _
  refine Bod.lst dc_204_26 (by rw [ml_204]; exact Nat.le_of_ble_eq_true rfl) ?_
  refine Bod.ic 0 (by decide) dc_204_28 ?_
  refine Bod.ist dc_204_29 (by rw [ml_204]; exact Nat.le_of_ble_eq_true rfl) ?_
  refine Bod.go dc_204_31 rfl ?_
  refine Bod.get dc_204_32 fr_204_9 (mk_53 _) rfl ?_
  refine Bod.go dc_204_35 rfl ?_
  refine Bod.virt (r := []) dc_204_36 kr_204_171 ⟨Or.inr rfl, ow_138, cl_2⟩ (by rw [np_138]; rfl) (by rw [np_138]; rfl) (ob_of (mk_2 _)) (Nat.le_of_ble_eq_true rfl) (c4  ) ?_
  show Bod _ _ _ _ [_] _ _ _
  refine Bod.ic 2 (by decide) dc_204_39 ?_
  refine Bod.icF dc_204_40 rfl (k2_ne_F (k_eq a1 2 rfl rfl (by omega))) ?_
  refine Bod.go dc_204_43 rfl ?_
  refine Bod.stat (r := []) dc_204_44 kr_204_174 (Or.inr rfl) (by rw [np_205]; rfl) (by rw [np_205]; rfl) (by rw [np_205]; exact Nat.le_of_ble_eq_true rfl) (Nat.le_of_ble_eq_true rfl) (c5  ) ?_
  show Bod _ _ _ _ [_] _ _ _
  refine Bod.ifT dc_204_47 rfl (k1_ne_T (k_ne 1 0 rfl rfl (by omega) (by omega) (by omega))) ?_
  refine Bod.go dc_204_52 rfl ?_
  refine Bod.get dc_204_53 fr_204_9 (mk_53 _) rfl ?_
  refine Bod.go dc_204_56 rfl ?_
  refine Bod.go dc_204_57 rfl ?_
  refine Bod.go dc_204_58 rfl ?_
  refine Bod.virt (r := []) dc_204_60 kr_204_178 ⟨Or.inr rfl, ow_206, cl_2⟩ (by rw [np_206]; rfl) (by rw [np_206]; rfl) (ob_of (mk_2 _)) (Nat.le_of_ble_eq_true rfl) (c6  ) ?_
  show Bod _ _ _ _ [_] _ _ _
  refine Bod.ifT dc_204_63 rfl w10 ?_
  refine Bod.ic 0 (by decide) dc_204_70 ?_
  refine Bod.ist dc_204_71 (by rw [ml_204]; exact Nat.le_of_ble_eq_true rfl) ?_
  refine Bod.go dc_204_73 rfl ?_
  refine Bod.go dc_204_162 rfl ?_
  refine Bod.get dc_204_163 fr_204_15 (mk_53 _) rfl ?_
  refine Bod.ic 2 (by decide) dc_204_166 ?_
  refine Bod.ldc2 dc_204_167 cj_204_23 ?_
  refine Bod.go dc_204_170 rfl ?_
  refine Bod.ifT dc_204_172 rfl (k1_eq_T (k_eq 0 0 rfl rfl (by omega))) ?_
  refine Bod.go dc_204_179 rfl ?_
  refine Bod.virt (r := []) dc_204_180 kr_204_31 ⟨Or.inr rfl, ow_148, cl_9⟩ (by rw [np_148]; rfl) (by rw [np_148]; rfl) (ob_of (mk_46 _)) (Nat.le_of_ble_eq_true rfl) (c7  ) ?_
  show Bod _ _ _ _ [_] _ _ _
  exact Bod.retI dc_204_183 rt_204
theorem mIn_4 {d : Nat} {S : cS} {S1 : cS} {a : Nat} {S2 : cS} {u : Int64} {S3 : cS} {u1 : Int64} {S4 : cS} {a1 : Nat} {S5 : cS} {S6 : cS} {rb : Int32} {S7 : cS} {rb1 : Int32} (ma : a < 2 ^ 20) (c1 : Ans (d + 8) 136 [.ref 46, .int (nI 0)] S (some (.int (nI a))) S1) (c2 : Ans (d + 8) 132 [.ref 46, .int (nI 1)] S1 (some (.long u)) S2) (c3 : Ans (d + 8) 135 [.ref 46, .int (nI 1)] S2 (some (.long u1)) S3) (ma1 : a1 < 2 ^ 20) (c4 : Ans (d + 8) 138 [.ref 2, .int (nI a)] S3 (some (.int (nI a1))) S4) (b1 : a1 = 2) (c5 : Ans (d + 8) 205 [.long u] S4 (some (.int (nI 1))) S5) (c6 : Ans (d + 8) 206 [.ref 2, .int (nI a), .long u, .long u1] S5 (some (.int rb)) S6) (w10 : sm_c1 .lt rb true false = false) (c7 : Ans (d + 8) 148 [.ref 46, .int (nI 2), .long ((2305843009213693952)), .long 1] S6 (some (.int rb1)) S7) : Bod (d + 8) 204 0 [(0, .ref 53)] [] S (some (.int rb1)) (S7) := by
  refine Bod.go dc_204_0 rfl ?_
  refine Bod.get dc_204_1 fr_204_15 (mk_53 _) rfl ?_
  refine Bod.ic 0 (by decide) dc_204_4 ?_
  refine Bod.virt (r := []) dc_204_5 kr_204_169 ⟨Or.inr rfl, ow_136, cl_9⟩ (by rw [np_136]; rfl) (by rw [np_136]; rfl) (ob_of (mk_46 _)) (Nat.le_of_ble_eq_true rfl) (c1  ) ?_
  show Bod _ _ _ _ [_] _ _ _
  refine Bod.istn dc_204_8 (by rw [ml_204]; exact Nat.le_of_ble_eq_true rfl) ?_
  refine Bod.go dc_204_9 rfl ?_
  refine Bod.get dc_204_10 fr_204_15 (mk_53 _) rfl ?_
  refine Bod.ic 1 (by decide) dc_204_13 ?_
  refine Bod.virt (r := []) dc_204_14 kr_204_70 ⟨Or.inr rfl, ow_132, cl_9⟩ (by rw [np_132]; rfl) (by rw [np_132]; rfl) (ob_of (mk_46 _)) (Nat.le_of_ble_eq_true rfl) (c2  ) ?_
  show Bod _ _ _ _ [_] _ _ _
  refine Bod.lstn dc_204_17 (by rw [ml_204]; exact Nat.le_of_ble_eq_true rfl) ?_
  refine Bod.go dc_204_18 rfl ?_
  refine Bod.get dc_204_19 fr_204_15 (mk_53 _) rfl ?_
  refine Bod.ic 1 (by decide) dc_204_22 ?_
  refine Bod.virt (r := []) dc_204_23 kr_204_111 ⟨Or.inr rfl, ow_135, cl_9⟩ (by rw [np_135]; rfl) (by rw [np_135]; rfl) (ob_of (mk_46 _)) (Nat.le_of_ble_eq_true rfl) (c3  ) ?_
  show Bod _ _ _ _ [_] _ _ _
  refine Bod.lst dc_204_26 (by rw [ml_204]; exact Nat.le_of_ble_eq_true rfl) ?_
  refine Bod.ic 0 (by decide) dc_204_28 ?_
  refine Bod.ist dc_204_29 (by rw [ml_204]; exact Nat.le_of_ble_eq_true rfl) ?_
  refine Bod.go dc_204_31 rfl ?_
  refine Bod.get dc_204_32 fr_204_9 (mk_53 _) rfl ?_
  refine Bod.go dc_204_35 rfl ?_
  refine Bod.virt (r := []) dc_204_36 kr_204_171 ⟨Or.inr rfl, ow_138, cl_2⟩ (by rw [np_138]; rfl) (by rw [np_138]; rfl) (ob_of (mk_2 _)) (Nat.le_of_ble_eq_true rfl) (c4  ) ?_
  show Bod _ _ _ _ [_] _ _ _
  refine Bod.ic 2 (by decide) dc_204_39 ?_
  refine Bod.icF dc_204_40 rfl (k2_ne_F (k_eq a1 2 rfl rfl (by omega))) ?_
  refine Bod.go dc_204_43 rfl ?_
  refine Bod.stat (r := []) dc_204_44 kr_204_174 (Or.inr rfl) (by rw [np_205]; rfl) (by rw [np_205]; rfl) (by rw [np_205]; exact Nat.le_of_ble_eq_true rfl) (Nat.le_of_ble_eq_true rfl) (c5  ) ?_
  show Bod _ _ _ _ [_] _ _ _
  refine Bod.ifT dc_204_47 rfl (k1_ne_T (k_ne 1 0 rfl rfl (by omega) (by omega) (by omega))) ?_
  refine Bod.go dc_204_52 rfl ?_
  refine Bod.get dc_204_53 fr_204_9 (mk_53 _) rfl ?_
  refine Bod.go dc_204_56 rfl ?_
  refine Bod.go dc_204_57 rfl ?_
  refine Bod.go dc_204_58 rfl ?_
  refine Bod.virt (r := []) dc_204_60 kr_204_178 ⟨Or.inr rfl, ow_206, cl_2⟩ (by rw [np_206]; rfl) (by rw [np_206]; rfl) (ob_of (mk_2 _)) (Nat.le_of_ble_eq_true rfl) (c6  ) ?_
  show Bod _ _ _ _ [_] _ _ _
  refine Bod.ifF dc_204_63 rfl w10 ?_
  refine Bod.ic 1 (by decide) dc_204_66 ?_
  refine Bod.go dc_204_67 rfl ?_
  refine Bod.ist dc_204_71 (by rw [ml_204]; exact Nat.le_of_ble_eq_true rfl) ?_
  refine Bod.go dc_204_73 rfl ?_
  refine Bod.go dc_204_162 rfl ?_
  refine Bod.get dc_204_163 fr_204_15 (mk_53 _) rfl ?_
  refine Bod.ic 2 (by decide) dc_204_166 ?_
  refine Bod.ldc2 dc_204_167 cj_204_23 ?_
  refine Bod.go dc_204_170 rfl ?_
  refine Bod.ifF dc_204_172 rfl (k1_eq_F (k_ne 1 0 rfl rfl (by omega) (by omega) (by omega))) ?_
  refine Bod.go dc_204_175 rfl ?_
  refine Bod.go dc_204_176 rfl ?_
  refine Bod.virt (r := []) dc_204_180 kr_204_31 ⟨Or.inr rfl, ow_148, cl_9⟩ (by rw [np_148]; rfl) (by rw [np_148]; rfl) (ob_of (mk_46 _)) (Nat.le_of_ble_eq_true rfl) (c7  ) ?_
  show Bod _ _ _ _ [_] _ _ _
  exact Bod.retI dc_204_183 rt_204
theorem mIn_5 {d : Nat} {S : cS} {S1 : cS} {a : Nat} {S2 : cS} {u : Int64} {S3 : cS} {u1 : Int64} {S4 : cS} {a1 : Nat} {S5 : cS} (ma : a < 2 ^ 20) (c1 : Ans (d + 8) 136 [.ref 46, .int (nI 0)] S (some (.int (nI a))) S1) (c2 : Ans (d + 8) 132 [.ref 46, .int (nI 1)] S1 (some (.long u)) S2) (c3 : Ans (d + 8) 135 [.ref 46, .int (nI 1)] S2 (some (.long u1)) S3) (ma1 : a1 < 2 ^ 20) (c4 : Ans (d + 8) 138 [.ref 2, .int (nI a)] S3 (some (.int (nI a1))) S4) (b1 : a1 = 2) (c5 : Ans (d + 8) 205 [.long u] S4 (some (.int (nI 0))) S5) : Bod (d + 8) 204 0 [(0, .ref 53)] [] S (some (.int (nI 2))) (S5) := by
  refine Bod.go dc_204_0 rfl ?_
  refine Bod.get dc_204_1 fr_204_15 (mk_53 _) rfl ?_
  refine Bod.ic 0 (by decide) dc_204_4 ?_
  refine Bod.virt (r := []) dc_204_5 kr_204_169 ⟨Or.inr rfl, ow_136, cl_9⟩ (by rw [np_136]; rfl) (by rw [np_136]; rfl) (ob_of (mk_46 _)) (Nat.le_of_ble_eq_true rfl) (c1  ) ?_
  show Bod _ _ _ _ [_] _ _ _
  refine Bod.istn dc_204_8 (by rw [ml_204]; exact Nat.le_of_ble_eq_true rfl) ?_
  refine Bod.go dc_204_9 rfl ?_
  refine Bod.get dc_204_10 fr_204_15 (mk_53 _) rfl ?_
  refine Bod.ic 1 (by decide) dc_204_13 ?_
  refine Bod.virt (r := []) dc_204_14 kr_204_70 ⟨Or.inr rfl, ow_132, cl_9⟩ (by rw [np_132]; rfl) (by rw [np_132]; rfl) (ob_of (mk_46 _)) (Nat.le_of_ble_eq_true rfl) (c2  ) ?_
  show Bod _ _ _ _ [_] _ _ _
  refine Bod.lstn dc_204_17 (by rw [ml_204]; exact Nat.le_of_ble_eq_true rfl) ?_
  refine Bod.go dc_204_18 rfl ?_
  refine Bod.get dc_204_19 fr_204_15 (mk_53 _) rfl ?_
  refine Bod.ic 1 (by decide) dc_204_22 ?_
  refine Bod.virt (r := []) dc_204_23 kr_204_111 ⟨Or.inr rfl, ow_135, cl_9⟩ (by rw [np_135]; rfl) (by rw [np_135]; rfl) (ob_of (mk_46 _)) (Nat.le_of_ble_eq_true rfl) (c3  ) ?_
  show Bod _ _ _ _ [_] _ _ _
  refine Bod.lst dc_204_26 (by rw [ml_204]; exact Nat.le_of_ble_eq_true rfl) ?_
  refine Bod.ic 0 (by decide) dc_204_28 ?_
  refine Bod.ist dc_204_29 (by rw [ml_204]; exact Nat.le_of_ble_eq_true rfl) ?_
  refine Bod.go dc_204_31 rfl ?_
  refine Bod.get dc_204_32 fr_204_9 (mk_53 _) rfl ?_
  refine Bod.go dc_204_35 rfl ?_
  refine Bod.virt (r := []) dc_204_36 kr_204_171 ⟨Or.inr rfl, ow_138, cl_2⟩ (by rw [np_138]; rfl) (by rw [np_138]; rfl) (ob_of (mk_2 _)) (Nat.le_of_ble_eq_true rfl) (c4  ) ?_
  show Bod _ _ _ _ [_] _ _ _
  refine Bod.ic 2 (by decide) dc_204_39 ?_
  refine Bod.icF dc_204_40 rfl (k2_ne_F (k_eq a1 2 rfl rfl (by omega))) ?_
  refine Bod.go dc_204_43 rfl ?_
  refine Bod.stat (r := []) dc_204_44 kr_204_174 (Or.inr rfl) (by rw [np_205]; rfl) (by rw [np_205]; rfl) (by rw [np_205]; exact Nat.le_of_ble_eq_true rfl) (Nat.le_of_ble_eq_true rfl) (c5  ) ?_
  show Bod _ _ _ _ [_] _ _ _
  refine Bod.ifF dc_204_47 rfl (k1_ne_F (k_eq 0 0 rfl rfl (by omega))) ?_
  refine Bod.ic 2 (by decide) dc_204_50 ?_
  exact Bod.retI dc_204_51 rt_204
theorem mInL_1 {d : Nat} {S : cS} {lv : sm_L} {id : Nat} {xh : Int64} {xl : Int64} {sz : Nat} {ni : Nat} {S1 : cS} {rb : Int32} (q0 : sm_get lv 0 = some (.ref 53)) (q1 : sm_get lv 1 = some (.int (nI id))) (q2 : sm_get lv 2 = some (.long xh)) (q4 : sm_get lv 4 = some (.long xl)) (q6 : sm_get lv 6 = some (.int (nI 0))) (q7 : sm_get lv 7 = some (.int (nI sz))) (q8 : sm_get lv 8 = some (.int (nI ni))) (mid : id < 2 ^ 20) (msz : sz < 2 ^ 20) (mni : ni < 2 ^ 20) (b1 : sz ≤ ni) (c1 : Ans (d + 8) 148 [.ref 46, .int (nI 2), .long ((2305843009213693952)), .long 0] S (some (.int rb)) S1) : Bod (d + 8) 204 101 lv [] S (some (.int rb)) (S1) := by
  refine Bod.ildG dc_204_101 (by repeat (first | exact q8 | exact sm_get_p1 | exact sm_get_p2e | refine sm_get_p1m (by decide) (by decide) ?_ | refine sm_get_p1n (by decide) rfl ?_ | refine sm_get_p2n (by decide) (by decide) rfl ?_ | refine sm_get_p2m (by decide) (by decide) (by decide) ?_)) ?_
  refine Bod.ildG dc_204_103 (by repeat (first | exact q7 | exact sm_get_p1 | exact sm_get_p2e | refine sm_get_p1m (by decide) (by decide) ?_ | refine sm_get_p1n (by decide) rfl ?_ | refine sm_get_p2n (by decide) (by decide) rfl ?_ | refine sm_get_p2m (by decide) (by decide) (by decide) ?_)) ?_
  refine Bod.icT dc_204_105 rfl (k2_ge_T ni sz rfl rfl (by omega) (by omega)) ?_
  refine Bod.go dc_204_157 rfl ?_
  refine Bod.aldnG dc_204_162 (by repeat (first | exact q0 | exact sm_get_p1 | exact sm_get_p2e | refine sm_get_p1m (by decide) (by decide) ?_ | refine sm_get_p1n (by decide) rfl ?_ | refine sm_get_p2n (by decide) (by decide) rfl ?_ | refine sm_get_p2m (by decide) (by decide) (by decide) ?_)) ?_
  refine Bod.get dc_204_163 fr_204_15 (mk_53 _) rfl ?_
  refine Bod.ic 2 (by decide) dc_204_166 ?_
  refine Bod.ldc2 dc_204_167 cj_204_23 ?_
  refine Bod.ildG dc_204_170 (by repeat (first | exact q6 | exact sm_get_p1 | exact sm_get_p2e | refine sm_get_p1m (by decide) (by decide) ?_ | refine sm_get_p1n (by decide) rfl ?_ | refine sm_get_p2n (by decide) (by decide) rfl ?_ | refine sm_get_p2m (by decide) (by decide) (by decide) ?_)) ?_
  refine Bod.ifT dc_204_172 rfl (k1_eq_T (k_eq 0 0 rfl rfl (by omega))) ?_
  refine Bod.go dc_204_179 rfl ?_
  refine Bod.virt (r := []) dc_204_180 kr_204_31 ⟨Or.inr rfl, ow_148, cl_9⟩ (by rw [np_148]; rfl) (by rw [np_148]; rfl) (ob_of (mk_46 _)) (Nat.le_of_ble_eq_true rfl) (c1  ) ?_
  show Bod _ _ _ _ [_] _ _ _
  exact Bod.retI dc_204_183 rt_204
theorem mInL_2 {d : Nat} {S Sf : cS} {v : Option Value} {lv : sm_L} {id : Nat} {xh : Int64} {xl : Int64} {sz : Nat} {ni : Nat} {S1 : cS} {u : Int64} (q0 : sm_get lv 0 = some (.ref 53)) (q1 : sm_get lv 1 = some (.int (nI id))) (q2 : sm_get lv 2 = some (.long xh)) (q4 : sm_get lv 4 = some (.long xl)) (q6 : sm_get lv 6 = some (.int (nI 0))) (q7 : sm_get lv 7 = some (.int (nI sz))) (q8 : sm_get lv 8 = some (.int (nI ni))) (mid : id < 2 ^ 20) (msz : sz < 2 ^ 20) (mni : ni < 2 ^ 20) (b1 : ni < sz) (c1 : Ans (d + 8) 156 [.ref 2, .int (nI id), .int (nI ni)] S (some (.long u)) S1) (w6 : sm_c1 .ne (lg_cmp u xh) true false = true) (hB : ∀ lv1 : sm_L, sm_get lv1 0 = some (.ref 53) → sm_get lv1 1 = some (.int (nI id)) → sm_get lv1 2 = some (.long xh) → sm_get lv1 4 = some (.long xl) → sm_get lv1 6 = some (.int (nI 0)) → sm_get lv1 7 = some (.int (nI sz)) → sm_get lv1 8 = some (.int (nI (ni + 1))) → Bod (d + 8) 204 101 lv1 [] (S1) v Sf) : Bod (d + 8) 204 101 lv [] S v Sf := by
  refine Bod.ildG dc_204_101 (by repeat (first | exact q8 | exact sm_get_p1 | exact sm_get_p2e | refine sm_get_p1m (by decide) (by decide) ?_ | refine sm_get_p1n (by decide) rfl ?_ | refine sm_get_p2n (by decide) (by decide) rfl ?_ | refine sm_get_p2m (by decide) (by decide) (by decide) ?_)) ?_
  refine Bod.ildG dc_204_103 (by repeat (first | exact q7 | exact sm_get_p1 | exact sm_get_p2e | refine sm_get_p1m (by decide) (by decide) ?_ | refine sm_get_p1n (by decide) rfl ?_ | refine sm_get_p2n (by decide) (by decide) rfl ?_ | refine sm_get_p2m (by decide) (by decide) (by decide) ?_)) ?_
  refine Bod.icF dc_204_105 rfl (k2_ge_F ni sz rfl rfl (by omega) (by omega)) ?_
  refine Bod.ildG dc_204_108 (by repeat (first | exact q6 | exact sm_get_p1 | exact sm_get_p2e | refine sm_get_p1m (by decide) (by decide) ?_ | refine sm_get_p1n (by decide) rfl ?_ | refine sm_get_p2n (by decide) (by decide) rfl ?_ | refine sm_get_p2m (by decide) (by decide) (by decide) ?_)) ?_
  refine Bod.ifF dc_204_110 rfl (k1_ne_F (k_eq 0 0 rfl rfl (by omega))) ?_
  refine Bod.aldnG dc_204_113 (by repeat (first | exact q0 | exact sm_get_p1 | exact sm_get_p2e | refine sm_get_p1m (by decide) (by decide) ?_ | refine sm_get_p1n (by decide) rfl ?_ | refine sm_get_p2n (by decide) (by decide) rfl ?_ | refine sm_get_p2m (by decide) (by decide) (by decide) ?_)) ?_
  refine Bod.get dc_204_114 fr_204_9 (mk_53 _) rfl ?_
  refine Bod.ildnG dc_204_117 (by repeat (first | exact q1 | exact sm_get_p1 | exact sm_get_p2e | refine sm_get_p1m (by decide) (by decide) ?_ | refine sm_get_p1n (by decide) rfl ?_ | refine sm_get_p2n (by decide) (by decide) rfl ?_ | refine sm_get_p2m (by decide) (by decide) (by decide) ?_)) ?_
  refine Bod.ildG dc_204_118 (by repeat (first | exact q8 | exact sm_get_p1 | exact sm_get_p2e | refine sm_get_p1m (by decide) (by decide) ?_ | refine sm_get_p1n (by decide) rfl ?_ | refine sm_get_p2n (by decide) (by decide) rfl ?_ | refine sm_get_p2m (by decide) (by decide) (by decide) ?_)) ?_
  refine Bod.virt (r := []) dc_204_120 kr_204_181 ⟨Or.inr rfl, ow_156, cl_2⟩ (by rw [np_156]; rfl) (by rw [np_156]; rfl) (ob_of (mk_2 _)) (Nat.le_of_ble_eq_true rfl) (c1  ) ?_
  show Bod _ _ _ _ [_] _ _ _
  refine Bod.lldnG dc_204_123 (by repeat (first | exact q2 | exact sm_get_p1 | exact sm_get_p2e | refine sm_get_p1m (by decide) (by decide) ?_ | refine sm_get_p1n (by decide) rfl ?_ | refine sm_get_p2n (by decide) (by decide) rfl ?_ | refine sm_get_p2m (by decide) (by decide) (by decide) ?_)) ?_
  refine Bod.go dc_204_124 rfl ?_
  refine Bod.ifT dc_204_125 rfl w6 ?_
  refine Bod.ic 0 (by decide) dc_204_148 ?_
  refine Bod.ist dc_204_149 (by rw [ml_204]; exact Nat.le_of_ble_eq_true rfl) ?_
  refine Bod.incN (ni + 1) (by rw [kc_1, nI_add]) dc_204_151 (by rw [ml_204]; exact Nat.le_of_ble_eq_true rfl) (by repeat (first | exact q8 | exact sm_get_p1 | exact sm_get_p2e | refine sm_get_p1m (by decide) (by decide) ?_ | refine sm_get_p1n (by decide) rfl ?_ | refine sm_get_p2n (by decide) (by decide) rfl ?_ | refine sm_get_p2m (by decide) (by decide) (by decide) ?_)) ?_
  refine Bod.go dc_204_154 rfl ?_
  exact hB _ (by repeat (first | exact q0 | exact sm_get_p1 | exact sm_get_p2e | refine sm_get_p1m (by decide) (by decide) ?_ | refine sm_get_p1n (by decide) rfl ?_ | refine sm_get_p2n (by decide) (by decide) rfl ?_ | refine sm_get_p2m (by decide) (by decide) (by decide) ?_)) (by repeat (first | exact q1 | exact sm_get_p1 | exact sm_get_p2e | refine sm_get_p1m (by decide) (by decide) ?_ | refine sm_get_p1n (by decide) rfl ?_ | refine sm_get_p2n (by decide) (by decide) rfl ?_ | refine sm_get_p2m (by decide) (by decide) (by decide) ?_)) (by repeat (first | exact q2 | exact sm_get_p1 | exact sm_get_p2e | refine sm_get_p1m (by decide) (by decide) ?_ | refine sm_get_p1n (by decide) rfl ?_ | refine sm_get_p2n (by decide) (by decide) rfl ?_ | refine sm_get_p2m (by decide) (by decide) (by decide) ?_)) (by repeat (first | exact q4 | exact sm_get_p1 | exact sm_get_p2e | refine sm_get_p1m (by decide) (by decide) ?_ | refine sm_get_p1n (by decide) rfl ?_ | refine sm_get_p2n (by decide) (by decide) rfl ?_ | refine sm_get_p2m (by decide) (by decide) (by decide) ?_)) (by repeat (first | exact q0 | exact sm_get_p1 | exact sm_get_p2e | refine sm_get_p1m (by decide) (by decide) ?_ | refine sm_get_p1n (by decide) rfl ?_ | refine sm_get_p2n (by decide) (by decide) rfl ?_ | refine sm_get_p2m (by decide) (by decide) (by decide) ?_)) (by repeat (first | exact q7 | exact sm_get_p1 | exact sm_get_p2e | refine sm_get_p1m (by decide) (by decide) ?_ | refine sm_get_p1n (by decide) rfl ?_ | refine sm_get_p2n (by decide) (by decide) rfl ?_ | refine sm_get_p2m (by decide) (by decide) (by decide) ?_)) (by repeat (first | exact q0 | exact sm_get_p1 | exact sm_get_p2e | refine sm_get_p1m (by decide) (by decide) ?_ | refine sm_get_p1n (by decide) rfl ?_ | refine sm_get_p2n (by decide) (by decide) rfl ?_ | refine sm_get_p2m (by decide) (by decide) (by decide) ?_))
theorem mInL_3 {d : Nat} {S Sf : cS} {v : Option Value} {lv : sm_L} {id : Nat} {xh : Int64} {xl : Int64} {sz : Nat} {ni : Nat} {S1 : cS} {u : Int64} {S2 : cS} {u1 : Int64} (q0 : sm_get lv 0 = some (.ref 53)) (q1 : sm_get lv 1 = some (.int (nI id))) (q2 : sm_get lv 2 = some (.long xh)) (q4 : sm_get lv 4 = some (.long xl)) (q6 : sm_get lv 6 = some (.int (nI 0))) (q7 : sm_get lv 7 = some (.int (nI sz))) (q8 : sm_get lv 8 = some (.int (nI ni))) (mid : id < 2 ^ 20) (msz : sz < 2 ^ 20) (mni : ni < 2 ^ 20) (b1 : ni < sz) (c1 : Ans (d + 8) 156 [.ref 2, .int (nI id), .int (nI ni)] S (some (.long u)) S1) (w6 : sm_c1 .ne (lg_cmp u xh) true false = false) (c2 : Ans (d + 8) 158 [.ref 2, .int (nI id), .int (nI ni)] S1 (some (.long u1)) S2) (w8 : sm_c1 .ne (lg_cmp u1 xl) true false = true) (hB : ∀ lv1 : sm_L, sm_get lv1 0 = some (.ref 53) → sm_get lv1 1 = some (.int (nI id)) → sm_get lv1 2 = some (.long xh) → sm_get lv1 4 = some (.long xl) → sm_get lv1 6 = some (.int (nI 0)) → sm_get lv1 7 = some (.int (nI sz)) → sm_get lv1 8 = some (.int (nI (ni + 1))) → Bod (d + 8) 204 101 lv1 [] (S2) v Sf) : Bod (d + 8) 204 101 lv [] S v Sf := by
  refine Bod.ildG dc_204_101 (by repeat (first | exact q8 | exact sm_get_p1 | exact sm_get_p2e | refine sm_get_p1m (by decide) (by decide) ?_ | refine sm_get_p1n (by decide) rfl ?_ | refine sm_get_p2n (by decide) (by decide) rfl ?_ | refine sm_get_p2m (by decide) (by decide) (by decide) ?_)) ?_
  refine Bod.ildG dc_204_103 (by repeat (first | exact q7 | exact sm_get_p1 | exact sm_get_p2e | refine sm_get_p1m (by decide) (by decide) ?_ | refine sm_get_p1n (by decide) rfl ?_ | refine sm_get_p2n (by decide) (by decide) rfl ?_ | refine sm_get_p2m (by decide) (by decide) (by decide) ?_)) ?_
  refine Bod.icF dc_204_105 rfl (k2_ge_F ni sz rfl rfl (by omega) (by omega)) ?_
  refine Bod.ildG dc_204_108 (by repeat (first | exact q6 | exact sm_get_p1 | exact sm_get_p2e | refine sm_get_p1m (by decide) (by decide) ?_ | refine sm_get_p1n (by decide) rfl ?_ | refine sm_get_p2n (by decide) (by decide) rfl ?_ | refine sm_get_p2m (by decide) (by decide) (by decide) ?_)) ?_
  refine Bod.ifF dc_204_110 rfl (k1_ne_F (k_eq 0 0 rfl rfl (by omega))) ?_
  refine Bod.aldnG dc_204_113 (by repeat (first | exact q0 | exact sm_get_p1 | exact sm_get_p2e | refine sm_get_p1m (by decide) (by decide) ?_ | refine sm_get_p1n (by decide) rfl ?_ | refine sm_get_p2n (by decide) (by decide) rfl ?_ | refine sm_get_p2m (by decide) (by decide) (by decide) ?_)) ?_
  refine Bod.get dc_204_114 fr_204_9 (mk_53 _) rfl ?_
  refine Bod.ildnG dc_204_117 (by repeat (first | exact q1 | exact sm_get_p1 | exact sm_get_p2e | refine sm_get_p1m (by decide) (by decide) ?_ | refine sm_get_p1n (by decide) rfl ?_ | refine sm_get_p2n (by decide) (by decide) rfl ?_ | refine sm_get_p2m (by decide) (by decide) (by decide) ?_)) ?_
  refine Bod.ildG dc_204_118 (by repeat (first | exact q8 | exact sm_get_p1 | exact sm_get_p2e | refine sm_get_p1m (by decide) (by decide) ?_ | refine sm_get_p1n (by decide) rfl ?_ | refine sm_get_p2n (by decide) (by decide) rfl ?_ | refine sm_get_p2m (by decide) (by decide) (by decide) ?_)) ?_
  refine Bod.virt (r := []) dc_204_120 kr_204_181 ⟨Or.inr rfl, ow_156, cl_2⟩ (by rw [np_156]; rfl) (by rw [np_156]; rfl) (ob_of (mk_2 _)) (Nat.le_of_ble_eq_true rfl) (c1  ) ?_
  show Bod _ _ _ _ [_] _ _ _
  refine Bod.lldnG dc_204_123 (by repeat (first | exact q2 | exact sm_get_p1 | exact sm_get_p2e | refine sm_get_p1m (by decide) (by decide) ?_ | refine sm_get_p1n (by decide) rfl ?_ | refine sm_get_p2n (by decide) (by decide) rfl ?_ | refine sm_get_p2m (by decide) (by decide) (by decide) ?_)) ?_
  refine Bod.go dc_204_124 rfl ?_
  refine Bod.ifF dc_204_125 rfl w6 ?_
  refine Bod.aldnG dc_204_128 (by repeat (first | exact q0 | exact sm_get_p1 | exact sm_get_p2e | refine sm_get_p1m (by decide) (by decide) ?_ | refine sm_get_p1n (by decide) rfl ?_ | refine sm_get_p2n (by decide) (by decide) rfl ?_ | refine sm_get_p2m (by decide) (by decide) (by decide) ?_)) ?_
  refine Bod.get dc_204_129 fr_204_9 (mk_53 _) rfl ?_
  refine Bod.ildnG dc_204_132 (by repeat (first | exact q1 | exact sm_get_p1 | exact sm_get_p2e | refine sm_get_p1m (by decide) (by decide) ?_ | refine sm_get_p1n (by decide) rfl ?_ | refine sm_get_p2n (by decide) (by decide) rfl ?_ | refine sm_get_p2m (by decide) (by decide) (by decide) ?_)) ?_
  refine Bod.ildG dc_204_133 (by repeat (first | exact q8 | exact sm_get_p1 | exact sm_get_p2e | refine sm_get_p1m (by decide) (by decide) ?_ | refine sm_get_p1n (by decide) rfl ?_ | refine sm_get_p2n (by decide) (by decide) rfl ?_ | refine sm_get_p2m (by decide) (by decide) (by decide) ?_)) ?_
  refine Bod.virt (r := []) dc_204_135 kr_204_185 ⟨Or.inr rfl, ow_158, cl_2⟩ (by rw [np_158]; rfl) (by rw [np_158]; rfl) (ob_of (mk_2 _)) (Nat.le_of_ble_eq_true rfl) (c2  ) ?_
  show Bod _ _ _ _ [_] _ _ _
  refine Bod.lldG dc_204_138 (by repeat (first | exact q4 | exact sm_get_p1 | exact sm_get_p2e | refine sm_get_p1m (by decide) (by decide) ?_ | refine sm_get_p1n (by decide) rfl ?_ | refine sm_get_p2n (by decide) (by decide) rfl ?_ | refine sm_get_p2m (by decide) (by decide) (by decide) ?_)) ?_
  refine Bod.go dc_204_140 rfl ?_
  refine Bod.ifT dc_204_141 rfl w8 ?_
  refine Bod.ic 0 (by decide) dc_204_148 ?_
  refine Bod.ist dc_204_149 (by rw [ml_204]; exact Nat.le_of_ble_eq_true rfl) ?_
  refine Bod.incN (ni + 1) (by rw [kc_1, nI_add]) dc_204_151 (by rw [ml_204]; exact Nat.le_of_ble_eq_true rfl) (by repeat (first | exact q8 | exact sm_get_p1 | exact sm_get_p2e | refine sm_get_p1m (by decide) (by decide) ?_ | refine sm_get_p1n (by decide) rfl ?_ | refine sm_get_p2n (by decide) (by decide) rfl ?_ | refine sm_get_p2m (by decide) (by decide) (by decide) ?_)) ?_
  refine Bod.go dc_204_154 rfl ?_
  exact hB _ (by repeat (first | exact q0 | exact sm_get_p1 | exact sm_get_p2e | refine sm_get_p1m (by decide) (by decide) ?_ | refine sm_get_p1n (by decide) rfl ?_ | refine sm_get_p2n (by decide) (by decide) rfl ?_ | refine sm_get_p2m (by decide) (by decide) (by decide) ?_)) (by repeat (first | exact q1 | exact sm_get_p1 | exact sm_get_p2e | refine sm_get_p1m (by decide) (by decide) ?_ | refine sm_get_p1n (by decide) rfl ?_ | refine sm_get_p2n (by decide) (by decide) rfl ?_ | refine sm_get_p2m (by decide) (by decide) (by decide) ?_)) (by repeat (first | exact q2 | exact sm_get_p1 | exact sm_get_p2e | refine sm_get_p1m (by decide) (by decide) ?_ | refine sm_get_p1n (by decide) rfl ?_ | refine sm_get_p2n (by decide) (by decide) rfl ?_ | refine sm_get_p2m (by decide) (by decide) (by decide) ?_)) (by repeat (first | exact q4 | exact sm_get_p1 | exact sm_get_p2e | refine sm_get_p1m (by decide) (by decide) ?_ | refine sm_get_p1n (by decide) rfl ?_ | refine sm_get_p2n (by decide) (by decide) rfl ?_ | refine sm_get_p2m (by decide) (by decide) (by decide) ?_)) (by repeat (first | exact q0 | exact sm_get_p1 | exact sm_get_p2e | refine sm_get_p1m (by decide) (by decide) ?_ | refine sm_get_p1n (by decide) rfl ?_ | refine sm_get_p2n (by decide) (by decide) rfl ?_ | refine sm_get_p2m (by decide) (by decide) (by decide) ?_)) (by repeat (first | exact q7 | exact sm_get_p1 | exact sm_get_p2e | refine sm_get_p1m (by decide) (by decide) ?_ | refine sm_get_p1n (by decide) rfl ?_ | refine sm_get_p2n (by decide) (by decide) rfl ?_ | refine sm_get_p2m (by decide) (by decide) (by decide) ?_)) (by repeat (first | exact q0 | exact sm_get_p1 | exact sm_get_p2e | refine sm_get_p1m (by decide) (by decide) ?_ | refine sm_get_p1n (by decide) rfl ?_ | refine sm_get_p2n (by decide) (by decide) rfl ?_ | refine sm_get_p2m (by decide) (by decide) (by decide) ?_))
theorem mInL_4 {d : Nat} {S Sf : cS} {v : Option Value} {lv : sm_L} {id : Nat} {xh : Int64} {xl : Int64} {sz : Nat} {ni : Nat} {S1 : cS} {u : Int64} {S2 : cS} {u1 : Int64} (q0 : sm_get lv 0 = some (.ref 53)) (q1 : sm_get lv 1 = some (.int (nI id))) (q2 : sm_get lv 2 = some (.long xh)) (q4 : sm_get lv 4 = some (.long xl)) (q6 : sm_get lv 6 = some (.int (nI 0))) (q7 : sm_get lv 7 = some (.int (nI sz))) (q8 : sm_get lv 8 = some (.int (nI ni))) (mid : id < 2 ^ 20) (msz : sz < 2 ^ 20) (mni : ni < 2 ^ 20) (b1 : ni < sz) (c1 : Ans (d + 8) 156 [.ref 2, .int (nI id), .int (nI ni)] S (some (.long u)) S1) (w6 : sm_c1 .ne (lg_cmp u xh) true false = false) (c2 : Ans (d + 8) 158 [.ref 2, .int (nI id), .int (nI ni)] S1 (some (.long u1)) S2) (w8 : sm_c1 .ne (lg_cmp u1 xl) true false = false) (hB : ∀ lv1 : sm_L, sm_get lv1 0 = some (.ref 53) → sm_get lv1 1 = some (.int (nI id)) → sm_get lv1 2 = some (.long xh) → sm_get lv1 4 = some (.long xl) → sm_get lv1 6 = some (.int (nI 1)) → sm_get lv1 7 = some (.int (nI sz)) → sm_get lv1 8 = some (.int (nI (ni + 1))) → Bod (d + 8) 204 101 lv1 [] (S2) v Sf) : Bod (d + 8) 204 101 lv [] S v Sf := by
  refine Bod.ildG dc_204_101 (by repeat (first | exact q8 | exact sm_get_p1 | exact sm_get_p2e | refine sm_get_p1m (by decide) (by decide) ?_ | refine sm_get_p1n (by decide) rfl ?_ | refine sm_get_p2n (by decide) (by decide) rfl ?_ | refine sm_get_p2m (by decide) (by decide) (by decide) ?_)) ?_
  refine Bod.ildG dc_204_103 (by repeat (first | exact q7 | exact sm_get_p1 | exact sm_get_p2e | refine sm_get_p1m (by decide) (by decide) ?_ | refine sm_get_p1n (by decide) rfl ?_ | refine sm_get_p2n (by decide) (by decide) rfl ?_ | refine sm_get_p2m (by decide) (by decide) (by decide) ?_)) ?_
  refine Bod.icF dc_204_105 rfl (k2_ge_F ni sz rfl rfl (by omega) (by omega)) ?_
  refine Bod.ildG dc_204_108 (by repeat (first | exact q6 | exact sm_get_p1 | exact sm_get_p2e | refine sm_get_p1m (by decide) (by decide) ?_ | refine sm_get_p1n (by decide) rfl ?_ | refine sm_get_p2n (by decide) (by decide) rfl ?_ | refine sm_get_p2m (by decide) (by decide) (by decide) ?_)) ?_
  refine Bod.ifF dc_204_110 rfl (k1_ne_F (k_eq 0 0 rfl rfl (by omega))) ?_
  refine Bod.aldnG dc_204_113 (by repeat (first | exact q0 | exact sm_get_p1 | exact sm_get_p2e | refine sm_get_p1m (by decide) (by decide) ?_ | refine sm_get_p1n (by decide) rfl ?_ | refine sm_get_p2n (by decide) (by decide) rfl ?_ | refine sm_get_p2m (by decide) (by decide) (by decide) ?_)) ?_
  refine Bod.get dc_204_114 fr_204_9 (mk_53 _) rfl ?_
  refine Bod.ildnG dc_204_117 (by repeat (first | exact q1 | exact sm_get_p1 | exact sm_get_p2e | refine sm_get_p1m (by decide) (by decide) ?_ | refine sm_get_p1n (by decide) rfl ?_ | refine sm_get_p2n (by decide) (by decide) rfl ?_ | refine sm_get_p2m (by decide) (by decide) (by decide) ?_)) ?_
  refine Bod.ildG dc_204_118 (by repeat (first | exact q8 | exact sm_get_p1 | exact sm_get_p2e | refine sm_get_p1m (by decide) (by decide) ?_ | refine sm_get_p1n (by decide) rfl ?_ | refine sm_get_p2n (by decide) (by decide) rfl ?_ | refine sm_get_p2m (by decide) (by decide) (by decide) ?_)) ?_
  refine Bod.virt (r := []) dc_204_120 kr_204_181 ⟨Or.inr rfl, ow_156, cl_2⟩ (by rw [np_156]; rfl) (by rw [np_156]; rfl) (ob_of (mk_2 _)) (Nat.le_of_ble_eq_true rfl) (c1  ) ?_
  show Bod _ _ _ _ [_] _ _ _
  refine Bod.lldnG dc_204_123 (by repeat (first | exact q2 | exact sm_get_p1 | exact sm_get_p2e | refine sm_get_p1m (by decide) (by decide) ?_ | refine sm_get_p1n (by decide) rfl ?_ | refine sm_get_p2n (by decide) (by decide) rfl ?_ | refine sm_get_p2m (by decide) (by decide) (by decide) ?_)) ?_
  refine Bod.go dc_204_124 rfl ?_
  refine Bod.ifF dc_204_125 rfl w6 ?_
  refine Bod.aldnG dc_204_128 (by repeat (first | exact q0 | exact sm_get_p1 | exact sm_get_p2e | refine sm_get_p1m (by decide) (by decide) ?_ | refine sm_get_p1n (by decide) rfl ?_ | refine sm_get_p2n (by decide) (by decide) rfl ?_ | refine sm_get_p2m (by decide) (by decide) (by decide) ?_)) ?_
  refine Bod.get dc_204_129 fr_204_9 (mk_53 _) rfl ?_
  refine Bod.ildnG dc_204_132 (by repeat (first | exact q1 | exact sm_get_p1 | exact sm_get_p2e | refine sm_get_p1m (by decide) (by decide) ?_ | refine sm_get_p1n (by decide) rfl ?_ | refine sm_get_p2n (by decide) (by decide) rfl ?_ | refine sm_get_p2m (by decide) (by decide) (by decide) ?_)) ?_
  refine Bod.ildG dc_204_133 (by repeat (first | exact q8 | exact sm_get_p1 | exact sm_get_p2e | refine sm_get_p1m (by decide) (by decide) ?_ | refine sm_get_p1n (by decide) rfl ?_ | refine sm_get_p2n (by decide) (by decide) rfl ?_ | refine sm_get_p2m (by decide) (by decide) (by decide) ?_)) ?_
  refine Bod.virt (r := []) dc_204_135 kr_204_185 ⟨Or.inr rfl, ow_158, cl_2⟩ (by rw [np_158]; rfl) (by rw [np_158]; rfl) (ob_of (mk_2 _)) (Nat.le_of_ble_eq_true rfl) (c2  ) ?_
  show Bod _ _ _ _ [_] _ _ _
  refine Bod.lldG dc_204_138 (by repeat (first | exact q4 | exact sm_get_p1 | exact sm_get_p2e | refine sm_get_p1m (by decide) (by decide) ?_ | refine sm_get_p1n (by decide) rfl ?_ | refine sm_get_p2n (by decide) (by decide) rfl ?_ | refine sm_get_p2m (by decide) (by decide) (by decide) ?_)) ?_
  refine Bod.go dc_204_140 rfl ?_
  refine Bod.ifF dc_204_141 rfl w8 ?_
  refine Bod.ic 1 (by decide) dc_204_144 ?_
  refine Bod.go dc_204_145 rfl ?_
  refine Bod.ist dc_204_149 (by rw [ml_204]; exact Nat.le_of_ble_eq_true rfl) ?_
  refine Bod.incN (ni + 1) (by rw [kc_1, nI_add]) dc_204_151 (by rw [ml_204]; exact Nat.le_of_ble_eq_true rfl) (by repeat (first | exact q8 | exact sm_get_p1 | exact sm_get_p2e | refine sm_get_p1m (by decide) (by decide) ?_ | refine sm_get_p1n (by decide) rfl ?_ | refine sm_get_p2n (by decide) (by decide) rfl ?_ | refine sm_get_p2m (by decide) (by decide) (by decide) ?_)) ?_
  refine Bod.go dc_204_154 rfl ?_
  exact hB _ (by repeat (first | exact q0 | exact sm_get_p1 | exact sm_get_p2e | refine sm_get_p1m (by decide) (by decide) ?_ | refine sm_get_p1n (by decide) rfl ?_ | refine sm_get_p2n (by decide) (by decide) rfl ?_ | refine sm_get_p2m (by decide) (by decide) (by decide) ?_)) (by repeat (first | exact q1 | exact sm_get_p1 | exact sm_get_p2e | refine sm_get_p1m (by decide) (by decide) ?_ | refine sm_get_p1n (by decide) rfl ?_ | refine sm_get_p2n (by decide) (by decide) rfl ?_ | refine sm_get_p2m (by decide) (by decide) (by decide) ?_)) (by repeat (first | exact q2 | exact sm_get_p1 | exact sm_get_p2e | refine sm_get_p1m (by decide) (by decide) ?_ | refine sm_get_p1n (by decide) rfl ?_ | refine sm_get_p2n (by decide) (by decide) rfl ?_ | refine sm_get_p2m (by decide) (by decide) (by decide) ?_)) (by repeat (first | exact q4 | exact sm_get_p1 | exact sm_get_p2e | refine sm_get_p1m (by decide) (by decide) ?_ | refine sm_get_p1n (by decide) rfl ?_ | refine sm_get_p2n (by decide) (by decide) rfl ?_ | refine sm_get_p2m (by decide) (by decide) (by decide) ?_)) (by repeat (first | exact q0 | exact sm_get_p1 | exact sm_get_p2e | refine sm_get_p1m (by decide) (by decide) ?_ | refine sm_get_p1n (by decide) rfl ?_ | refine sm_get_p2n (by decide) (by decide) rfl ?_ | refine sm_get_p2m (by decide) (by decide) (by decide) ?_)) (by repeat (first | exact q7 | exact sm_get_p1 | exact sm_get_p2e | refine sm_get_p1m (by decide) (by decide) ?_ | refine sm_get_p1n (by decide) rfl ?_ | refine sm_get_p2n (by decide) (by decide) rfl ?_ | refine sm_get_p2m (by decide) (by decide) (by decide) ?_)) (by repeat (first | exact q0 | exact sm_get_p1 | exact sm_get_p2e | refine sm_get_p1m (by decide) (by decide) ?_ | refine sm_get_p1n (by decide) rfl ?_ | refine sm_get_p2n (by decide) (by decide) rfl ?_ | refine sm_get_p2m (by decide) (by decide) (by decide) ?_))
theorem mInE_1 {d : Nat} {S : cS} {lv : sm_L} {id : Nat} {xh : Int64} {xl : Int64} {sz : Nat} {ni : Nat} {S1 : cS} {rb : Int32} (q0 : sm_get lv 0 = some (.ref 53)) (q1 : sm_get lv 1 = some (.int (nI id))) (q2 : sm_get lv 2 = some (.long xh)) (q4 : sm_get lv 4 = some (.long xl)) (q6 : sm_get lv 6 = some (.int (nI 1))) (q7 : sm_get lv 7 = some (.int (nI sz))) (q8 : sm_get lv 8 = some (.int (nI ni))) (mid : id < 2 ^ 20) (msz : sz < 2 ^ 20) (mni : ni < 2 ^ 20) (b1 : sz ≤ ni) (c1 : Ans (d + 8) 148 [.ref 46, .int (nI 2), .long ((2305843009213693952)), .long 1] S (some (.int rb)) S1) : Bod (d + 8) 204 101 lv [] S (some (.int rb)) (S1) := by
  refine Bod.ildG dc_204_101 (by repeat (first | exact q8 | exact sm_get_p1 | exact sm_get_p2e | refine sm_get_p1m (by decide) (by decide) ?_ | refine sm_get_p1n (by decide) rfl ?_ | refine sm_get_p2n (by decide) (by decide) rfl ?_ | refine sm_get_p2m (by decide) (by decide) (by decide) ?_)) ?_
  refine Bod.ildG dc_204_103 (by repeat (first | exact q7 | exact sm_get_p1 | exact sm_get_p2e | refine sm_get_p1m (by decide) (by decide) ?_ | refine sm_get_p1n (by decide) rfl ?_ | refine sm_get_p2n (by decide) (by decide) rfl ?_ | refine sm_get_p2m (by decide) (by decide) (by decide) ?_)) ?_
  refine Bod.icT dc_204_105 rfl (k2_ge_T ni sz rfl rfl (by omega) (by omega)) ?_
  refine Bod.go dc_204_157 rfl ?_
  refine Bod.aldnG dc_204_162 (by repeat (first | exact q0 | exact sm_get_p1 | exact sm_get_p2e | refine sm_get_p1m (by decide) (by decide) ?_ | refine sm_get_p1n (by decide) rfl ?_ | refine sm_get_p2n (by decide) (by decide) rfl ?_ | refine sm_get_p2m (by decide) (by decide) (by decide) ?_)) ?_
  refine Bod.get dc_204_163 fr_204_15 (mk_53 _) rfl ?_
  refine Bod.ic 2 (by decide) dc_204_166 ?_
  refine Bod.ldc2 dc_204_167 cj_204_23 ?_
  refine Bod.ildG dc_204_170 (by repeat (first | exact q6 | exact sm_get_p1 | exact sm_get_p2e | refine sm_get_p1m (by decide) (by decide) ?_ | refine sm_get_p1n (by decide) rfl ?_ | refine sm_get_p2n (by decide) (by decide) rfl ?_ | refine sm_get_p2m (by decide) (by decide) (by decide) ?_)) ?_
  refine Bod.ifF dc_204_172 rfl (k1_eq_F (k_ne 1 0 rfl rfl (by omega) (by omega) (by omega))) ?_
  refine Bod.go dc_204_175 rfl ?_
  refine Bod.go dc_204_176 rfl ?_
  refine Bod.virt (r := []) dc_204_180 kr_204_31 ⟨Or.inr rfl, ow_148, cl_9⟩ (by rw [np_148]; rfl) (by rw [np_148]; rfl) (ob_of (mk_46 _)) (Nat.le_of_ble_eq_true rfl) (c1  ) ?_
  show Bod _ _ _ _ [_] _ _ _
  exact Bod.retI dc_204_183 rt_204
theorem mInE_2 {d : Nat} {S : cS} {lv : sm_L} {id : Nat} {xh : Int64} {xl : Int64} {sz : Nat} {ni : Nat} {S1 : cS} {rb : Int32} (q0 : sm_get lv 0 = some (.ref 53)) (q1 : sm_get lv 1 = some (.int (nI id))) (q2 : sm_get lv 2 = some (.long xh)) (q4 : sm_get lv 4 = some (.long xl)) (q6 : sm_get lv 6 = some (.int (nI 1))) (q7 : sm_get lv 7 = some (.int (nI sz))) (q8 : sm_get lv 8 = some (.int (nI ni))) (mid : id < 2 ^ 20) (msz : sz < 2 ^ 20) (mni : ni < 2 ^ 20) (b1 : ni < sz) (c1 : Ans (d + 8) 148 [.ref 46, .int (nI 2), .long ((2305843009213693952)), .long 1] S (some (.int rb)) S1) : Bod (d + 8) 204 101 lv [] S (some (.int rb)) (S1) := by
  refine Bod.ildG dc_204_101 (by repeat (first | exact q8 | exact sm_get_p1 | exact sm_get_p2e | refine sm_get_p1m (by decide) (by decide) ?_ | refine sm_get_p1n (by decide) rfl ?_ | refine sm_get_p2n (by decide) (by decide) rfl ?_ | refine sm_get_p2m (by decide) (by decide) (by decide) ?_)) ?_
  refine Bod.ildG dc_204_103 (by repeat (first | exact q7 | exact sm_get_p1 | exact sm_get_p2e | refine sm_get_p1m (by decide) (by decide) ?_ | refine sm_get_p1n (by decide) rfl ?_ | refine sm_get_p2n (by decide) (by decide) rfl ?_ | refine sm_get_p2m (by decide) (by decide) (by decide) ?_)) ?_
  refine Bod.icF dc_204_105 rfl (k2_ge_F ni sz rfl rfl (by omega) (by omega)) ?_
  refine Bod.ildG dc_204_108 (by repeat (first | exact q6 | exact sm_get_p1 | exact sm_get_p2e | refine sm_get_p1m (by decide) (by decide) ?_ | refine sm_get_p1n (by decide) rfl ?_ | refine sm_get_p2n (by decide) (by decide) rfl ?_ | refine sm_get_p2m (by decide) (by decide) (by decide) ?_)) ?_
  refine Bod.ifT dc_204_110 rfl (k1_ne_T (k_ne 1 0 rfl rfl (by omega) (by omega) (by omega))) ?_
  refine Bod.go dc_204_157 rfl ?_
  refine Bod.aldnG dc_204_162 (by repeat (first | exact q0 | exact sm_get_p1 | exact sm_get_p2e | refine sm_get_p1m (by decide) (by decide) ?_ | refine sm_get_p1n (by decide) rfl ?_ | refine sm_get_p2n (by decide) (by decide) rfl ?_ | refine sm_get_p2m (by decide) (by decide) (by decide) ?_)) ?_
  refine Bod.get dc_204_163 fr_204_15 (mk_53 _) rfl ?_
  refine Bod.ic 2 (by decide) dc_204_166 ?_
  refine Bod.ldc2 dc_204_167 cj_204_23 ?_
  refine Bod.ildG dc_204_170 (by repeat (first | exact q6 | exact sm_get_p1 | exact sm_get_p2e | refine sm_get_p1m (by decide) (by decide) ?_ | refine sm_get_p1n (by decide) rfl ?_ | refine sm_get_p2n (by decide) (by decide) rfl ?_ | refine sm_get_p2m (by decide) (by decide) (by decide) ?_)) ?_
  refine Bod.ifF dc_204_172 rfl (k1_eq_F (k_ne 1 0 rfl rfl (by omega) (by omega) (by omega))) ?_
  refine Bod.go dc_204_175 rfl ?_
  refine Bod.go dc_204_176 rfl ?_
  refine Bod.virt (r := []) dc_204_180 kr_204_31 ⟨Or.inr rfl, ow_148, cl_9⟩ (by rw [np_148]; rfl) (by rw [np_148]; rfl) (ob_of (mk_46 _)) (Nat.le_of_ble_eq_true rfl) (c1  ) ?_
  show Bod _ _ _ _ [_] _ _ _
  exact Bod.retI dc_204_183 rt_204
theorem mHd_1 {d : Nat} {S Sf : cS} {v : Option Value} {id : Nat} {xh : Int64} {xl : Int64} (mid : id < 2 ^ 20) (hB : ∀ lv1 : sm_L, sm_get lv1 0 = some (.ref 2) → sm_get lv1 2 = some (.long xh) → sm_get lv1 4 = some (.long xl) → sm_get lv1 6 = some (.int (nI id)) → sm_get lv1 7 = some (.int (nI 0)) → Bod (d + 8) 220 6 lv1 [] (S) v Sf) : Bod (d + 8) 220 0 [(0, .ref 2), (1, .int (nI id)), (2, .long xh), (4, .long xl)] [] S v Sf := by
  refine Bod.go dc_220_0 rfl ?_
  refine Bod.ist dc_220_1 (by rw [ml_220]; exact Nat.le_of_ble_eq_true rfl) ?_
  refine Bod.ic 0 (by decide) dc_220_3 ?_
  refine Bod.ist dc_220_4 (by rw [ml_220]; exact Nat.le_of_ble_eq_true rfl) ?_
  exact hB _ (by first | rfl | exact (by repeat (first | exact rfl | exact sm_get_p1 | exact sm_get_p2e | refine sm_get_p1m (by decide) (by decide) ?_ | refine sm_get_p1n (by decide) rfl ?_ | refine sm_get_p2n (by decide) (by decide) rfl ?_ | refine sm_get_p2m (by decide) (by decide) (by decide) ?_))) (by first | rfl | exact (by repeat (first | exact rfl | exact sm_get_p1 | exact sm_get_p2e | refine sm_get_p1m (by decide) (by decide) ?_ | refine sm_get_p1n (by decide) rfl ?_ | refine sm_get_p2n (by decide) (by decide) rfl ?_ | refine sm_get_p2m (by decide) (by decide) (by decide) ?_))) (by first | rfl | exact (by repeat (first | exact rfl | exact sm_get_p1 | exact sm_get_p2e | refine sm_get_p1m (by decide) (by decide) ?_ | refine sm_get_p1n (by decide) rfl ?_ | refine sm_get_p2n (by decide) (by decide) rfl ?_ | refine sm_get_p2m (by decide) (by decide) (by decide) ?_))) (by first | rfl | exact (by repeat (first | exact rfl | exact sm_get_p1 | exact sm_get_p2e | refine sm_get_p1m (by decide) (by decide) ?_ | refine sm_get_p1n (by decide) rfl ?_ | refine sm_get_p2n (by decide) (by decide) rfl ?_ | refine sm_get_p2m (by decide) (by decide) (by decide) ?_))) (by first | rfl | exact (by repeat (first | exact rfl | exact sm_get_p1 | exact sm_get_p2e | refine sm_get_p1m (by decide) (by decide) ?_ | refine sm_get_p1n (by decide) rfl ?_ | refine sm_get_p2n (by decide) (by decide) rfl ?_ | refine sm_get_p2m (by decide) (by decide) (by decide) ?_)))
theorem mHdL_1 {d : Nat} {S : cS} {lv : sm_L} {xh : Int64} {xl : Int64} {hd : Nat} {ni : Nat} (q0 : sm_get lv 0 = some (.ref 2)) (q2 : sm_get lv 2 = some (.long xh)) (q4 : sm_get lv 4 = some (.long xl)) (q6 : sm_get lv 6 = some (.int (nI hd))) (q7 : sm_get lv 7 = some (.int (nI ni))) (mhd : hd < 2 ^ 20) (mni : ni < 2 ^ 20) (b1 : 1500 < ni) : Bod (d + 8) 220 6 lv [] S (some (.int (nI 0))) (S) := by
  refine Bod.ildG dc_220_6 (by repeat (first | exact q7 | exact sm_get_p1 | exact sm_get_p2e | refine sm_get_p1m (by decide) (by decide) ?_ | refine sm_get_p1n (by decide) rfl ?_ | refine sm_get_p2n (by decide) (by decide) rfl ?_ | refine sm_get_p2m (by decide) (by decide) (by decide) ?_)) ?_
  refine Bod.sip 1500 (by decide) dc_220_8 ?_
  refine Bod.icT dc_220_11 rfl (k2_gt_T ni 1500 rfl rfl (by omega) (by omega)) ?_
  refine Bod.ic 0 (by decide) dc_220_48 ?_
  exact Bod.retI dc_220_49 rt_220
theorem mHdL_2 {d : Nat} {S : cS} {lv : sm_L} {xh : Int64} {xl : Int64} {hd : Nat} {ni : Nat} (q0 : sm_get lv 0 = some (.ref 2)) (q2 : sm_get lv 2 = some (.long xh)) (q4 : sm_get lv 4 = some (.long xl)) (q6 : sm_get lv 6 = some (.int (nI hd))) (q7 : sm_get lv 7 = some (.int (nI ni))) (mhd : hd < 2 ^ 20) (mni : ni < 2 ^ 20) (b1 : ni ≤ 1500) (b2 : hd = 0) : Bod (d + 8) 220 6 lv [] S (some (.int (nI 0))) (S) := by
  refine Bod.ildG dc_220_6 (by repeat (first | exact q7 | exact sm_get_p1 | exact sm_get_p2e | refine sm_get_p1m (by decide) (by decide) ?_ | refine sm_get_p1n (by decide) rfl ?_ | refine sm_get_p2n (by decide) (by decide) rfl ?_ | refine sm_get_p2m (by decide) (by decide) (by decide) ?_)) ?_
  refine Bod.sip 1500 (by decide) dc_220_8 ?_
  refine Bod.icF dc_220_11 rfl (k2_gt_F ni 1500 rfl rfl (by omega) (by omega)) ?_
  refine Bod.ildG dc_220_14 (by repeat (first | exact q6 | exact sm_get_p1 | exact sm_get_p2e | refine sm_get_p1m (by decide) (by decide) ?_ | refine sm_get_p1n (by decide) rfl ?_ | refine sm_get_p2n (by decide) (by decide) rfl ?_ | refine sm_get_p2m (by decide) (by decide) (by decide) ?_)) ?_
  refine Bod.ifT dc_220_16 rfl (k1_eq_T (k_eq hd 0 rfl rfl (by omega))) ?_
  refine Bod.ic 0 (by decide) dc_220_48 ?_
  exact Bod.retI dc_220_49 rt_220
theorem mHdL_3 {d : Nat} {S Sf : cS} {v : Option Value} {lv : sm_L} {xh : Int64} {xl : Int64} {hd : Nat} {ni : Nat} {S1 : cS} {rb : Int32} {S2 : cS} {a : Nat} (q0 : sm_get lv 0 = some (.ref 2)) (q2 : sm_get lv 2 = some (.long xh)) (q4 : sm_get lv 4 = some (.long xl)) (q6 : sm_get lv 6 = some (.int (nI hd))) (q7 : sm_get lv 7 = some (.int (nI ni))) (mhd : hd < 2 ^ 20) (mni : ni < 2 ^ 20) (b1 : ni ≤ 1500) (b2 : hd ≠ 0) (c1 : Ans (d + 8) 206 [.ref 2, .int (nI hd), .long xh, .long xl] S (some (.int rb)) S1) (w6 : sm_c1 .lt rb true false = true) (ma : a < 2 ^ 20) (c2 : Ans (d + 8) 168 [.ref 2, .int (nI hd)] S1 (some (.int (nI a))) S2) (hB : ∀ lv1 : sm_L, sm_get lv1 0 = some (.ref 2) → sm_get lv1 2 = some (.long xh) → sm_get lv1 4 = some (.long xl) → sm_get lv1 6 = some (.int (nI a)) → sm_get lv1 7 = some (.int (nI (ni + 1))) → Bod (d + 8) 220 6 lv1 [] (S2) v Sf) : Bod (d + 8) 220 6 lv [] S v Sf := by
  refine Bod.ildG dc_220_6 (by repeat (first | exact q7 | exact sm_get_p1 | exact sm_get_p2e | refine sm_get_p1m (by decide) (by decide) ?_ | refine sm_get_p1n (by decide) rfl ?_ | refine sm_get_p2n (by decide) (by decide) rfl ?_ | refine sm_get_p2m (by decide) (by decide) (by decide) ?_)) ?_
  refine Bod.sip 1500 (by decide) dc_220_8 ?_
  refine Bod.icF dc_220_11 rfl (k2_gt_F ni 1500 rfl rfl (by omega) (by omega)) ?_
  refine Bod.ildG dc_220_14 (by repeat (first | exact q6 | exact sm_get_p1 | exact sm_get_p2e | refine sm_get_p1m (by decide) (by decide) ?_ | refine sm_get_p1n (by decide) rfl ?_ | refine sm_get_p2n (by decide) (by decide) rfl ?_ | refine sm_get_p2m (by decide) (by decide) (by decide) ?_)) ?_
  refine Bod.ifF dc_220_16 rfl (k1_eq_F (k_ne hd 0 rfl rfl (by omega) (by omega) (by omega))) ?_
  refine Bod.aldnG dc_220_19 (by repeat (first | exact q0 | exact sm_get_p1 | exact sm_get_p2e | refine sm_get_p1m (by decide) (by decide) ?_ | refine sm_get_p1n (by decide) rfl ?_ | refine sm_get_p2n (by decide) (by decide) rfl ?_ | refine sm_get_p2m (by decide) (by decide) (by decide) ?_)) ?_
  refine Bod.ildG dc_220_20 (by repeat (first | exact q6 | exact sm_get_p1 | exact sm_get_p2e | refine sm_get_p1m (by decide) (by decide) ?_ | refine sm_get_p1n (by decide) rfl ?_ | refine sm_get_p2n (by decide) (by decide) rfl ?_ | refine sm_get_p2m (by decide) (by decide) (by decide) ?_)) ?_
  refine Bod.lldnG dc_220_22 (by repeat (first | exact q2 | exact sm_get_p1 | exact sm_get_p2e | refine sm_get_p1m (by decide) (by decide) ?_ | refine sm_get_p1n (by decide) rfl ?_ | refine sm_get_p2n (by decide) (by decide) rfl ?_ | refine sm_get_p2m (by decide) (by decide) (by decide) ?_)) ?_
  refine Bod.lldG dc_220_23 (by repeat (first | exact q4 | exact sm_get_p1 | exact sm_get_p2e | refine sm_get_p1m (by decide) (by decide) ?_ | refine sm_get_p1n (by decide) rfl ?_ | refine sm_get_p2n (by decide) (by decide) rfl ?_ | refine sm_get_p2m (by decide) (by decide) (by decide) ?_)) ?_
  refine Bod.virt (r := []) dc_220_25 kr_220_102 ⟨Or.inl rfl, ow_206, cl_2⟩ (by rw [np_206]; rfl) (by rw [np_206]; rfl) (ob_of (mk_2 _)) (Nat.le_of_ble_eq_true rfl) (c1  ) ?_
  show Bod _ _ _ _ [_] _ _ _
  refine Bod.ifT dc_220_28 rfl w6 ?_
  refine Bod.aldnG dc_220_34 (by repeat (first | exact q0 | exact sm_get_p1 | exact sm_get_p2e | refine sm_get_p1m (by decide) (by decide) ?_ | refine sm_get_p1n (by decide) rfl ?_ | refine sm_get_p2n (by decide) (by decide) rfl ?_ | refine sm_get_p2m (by decide) (by decide) (by decide) ?_)) ?_
  refine Bod.ildG dc_220_35 (by repeat (first | exact q6 | exact sm_get_p1 | exact sm_get_p2e | refine sm_get_p1m (by decide) (by decide) ?_ | refine sm_get_p1n (by decide) rfl ?_ | refine sm_get_p2n (by decide) (by decide) rfl ?_ | refine sm_get_p2m (by decide) (by decide) (by decide) ?_)) ?_
  refine Bod.virt (r := []) dc_220_37 kr_220_106 ⟨Or.inl rfl, ow_168, cl_2⟩ (by rw [np_168]; rfl) (by rw [np_168]; rfl) (ob_of (mk_2 _)) (Nat.le_of_ble_eq_true rfl) (c2  ) ?_
  show Bod _ _ _ _ [_] _ _ _
  refine Bod.ist dc_220_40 (by rw [ml_220]; exact Nat.le_of_ble_eq_true rfl) ?_
  refine Bod.incN (ni + 1) (by rw [kc_1, nI_add]) dc_220_42 (by rw [ml_220]; exact Nat.le_of_ble_eq_true rfl) (by repeat (first | exact q7 | exact sm_get_p1 | exact sm_get_p2e | refine sm_get_p1m (by decide) (by decide) ?_ | refine sm_get_p1n (by decide) rfl ?_ | refine sm_get_p2n (by decide) (by decide) rfl ?_ | refine sm_get_p2m (by decide) (by decide) (by decide) ?_)) ?_
  refine Bod.go dc_220_45 rfl ?_
  exact hB _ (by repeat (first | exact q0 | exact sm_get_p1 | exact sm_get_p2e | refine sm_get_p1m (by decide) (by decide) ?_ | refine sm_get_p1n (by decide) rfl ?_ | refine sm_get_p2n (by decide) (by decide) rfl ?_ | refine sm_get_p2m (by decide) (by decide) (by decide) ?_)) (by repeat (first | exact q2 | exact sm_get_p1 | exact sm_get_p2e | refine sm_get_p1m (by decide) (by decide) ?_ | refine sm_get_p1n (by decide) rfl ?_ | refine sm_get_p2n (by decide) (by decide) rfl ?_ | refine sm_get_p2m (by decide) (by decide) (by decide) ?_)) (by repeat (first | exact q4 | exact sm_get_p1 | exact sm_get_p2e | refine sm_get_p1m (by decide) (by decide) ?_ | refine sm_get_p1n (by decide) rfl ?_ | refine sm_get_p2n (by decide) (by decide) rfl ?_ | refine sm_get_p2m (by decide) (by decide) (by decide) ?_)) (by repeat (first | exact q0 | exact sm_get_p1 | exact sm_get_p2e | refine sm_get_p1m (by decide) (by decide) ?_ | refine sm_get_p1n (by decide) rfl ?_ | refine sm_get_p2n (by decide) (by decide) rfl ?_ | refine sm_get_p2m (by decide) (by decide) (by decide) ?_)) (by repeat (first | exact q0 | exact sm_get_p1 | exact sm_get_p2e | refine sm_get_p1m (by decide) (by decide) ?_ | refine sm_get_p1n (by decide) rfl ?_ | refine sm_get_p2n (by decide) (by decide) rfl ?_ | refine sm_get_p2m (by decide) (by decide) (by decide) ?_))
theorem mHdL_4 {d : Nat} {S : cS} {lv : sm_L} {xh : Int64} {xl : Int64} {hd : Nat} {ni : Nat} {S1 : cS} {rb : Int32} (q0 : sm_get lv 0 = some (.ref 2)) (q2 : sm_get lv 2 = some (.long xh)) (q4 : sm_get lv 4 = some (.long xl)) (q6 : sm_get lv 6 = some (.int (nI hd))) (q7 : sm_get lv 7 = some (.int (nI ni))) (mhd : hd < 2 ^ 20) (mni : ni < 2 ^ 20) (b1 : ni ≤ 1500) (b2 : hd ≠ 0) (c1 : Ans (d + 8) 206 [.ref 2, .int (nI hd), .long xh, .long xl] S (some (.int rb)) S1) (w6 : sm_c1 .lt rb true false = false) : Bod (d + 8) 220 6 lv [] S (some (.int (nI hd))) (S1) := by
  refine Bod.ildG dc_220_6 (by repeat (first | exact q7 | exact sm_get_p1 | exact sm_get_p2e | refine sm_get_p1m (by decide) (by decide) ?_ | refine sm_get_p1n (by decide) rfl ?_ | refine sm_get_p2n (by decide) (by decide) rfl ?_ | refine sm_get_p2m (by decide) (by decide) (by decide) ?_)) ?_
  refine Bod.sip 1500 (by decide) dc_220_8 ?_
  refine Bod.icF dc_220_11 rfl (k2_gt_F ni 1500 rfl rfl (by omega) (by omega)) ?_
  refine Bod.ildG dc_220_14 (by repeat (first | exact q6 | exact sm_get_p1 | exact sm_get_p2e | refine sm_get_p1m (by decide) (by decide) ?_ | refine sm_get_p1n (by decide) rfl ?_ | refine sm_get_p2n (by decide) (by decide) rfl ?_ | refine sm_get_p2m (by decide) (by decide) (by decide) ?_)) ?_
  refine Bod.ifF dc_220_16 rfl (k1_eq_F (k_ne hd 0 rfl rfl (by omega) (by omega) (by omega))) ?_
  refine Bod.aldnG dc_220_19 (by repeat (first | exact q0 | exact sm_get_p1 | exact sm_get_p2e | refine sm_get_p1m (by decide) (by decide) ?_ | refine sm_get_p1n (by decide) rfl ?_ | refine sm_get_p2n (by decide) (by decide) rfl ?_ | refine sm_get_p2m (by decide) (by decide) (by decide) ?_)) ?_
  refine Bod.ildG dc_220_20 (by repeat (first | exact q6 | exact sm_get_p1 | exact sm_get_p2e | refine sm_get_p1m (by decide) (by decide) ?_ | refine sm_get_p1n (by decide) rfl ?_ | refine sm_get_p2n (by decide) (by decide) rfl ?_ | refine sm_get_p2m (by decide) (by decide) (by decide) ?_)) ?_
  refine Bod.lldnG dc_220_22 (by repeat (first | exact q2 | exact sm_get_p1 | exact sm_get_p2e | refine sm_get_p1m (by decide) (by decide) ?_ | refine sm_get_p1n (by decide) rfl ?_ | refine sm_get_p2n (by decide) (by decide) rfl ?_ | refine sm_get_p2m (by decide) (by decide) (by decide) ?_)) ?_
  refine Bod.lldG dc_220_23 (by repeat (first | exact q4 | exact sm_get_p1 | exact sm_get_p2e | refine sm_get_p1m (by decide) (by decide) ?_ | refine sm_get_p1n (by decide) rfl ?_ | refine sm_get_p2n (by decide) (by decide) rfl ?_ | refine sm_get_p2m (by decide) (by decide) (by decide) ?_)) ?_
  refine Bod.virt (r := []) dc_220_25 kr_220_102 ⟨Or.inl rfl, ow_206, cl_2⟩ (by rw [np_206]; rfl) (by rw [np_206]; rfl) (ob_of (mk_2 _)) (Nat.le_of_ble_eq_true rfl) (c1  ) ?_
  show Bod _ _ _ _ [_] _ _ _
  refine Bod.ifF dc_220_28 rfl w6 ?_
  refine Bod.ildG dc_220_31 (by repeat (first | exact q6 | exact sm_get_p1 | exact sm_get_p2e | refine sm_get_p1m (by decide) (by decide) ?_ | refine sm_get_p1n (by decide) rfl ?_ | refine sm_get_p2n (by decide) (by decide) rfl ?_ | refine sm_get_p2m (by decide) (by decide) (by decide) ?_)) ?_
  exact Bod.retI dc_220_33 rt_220
theorem mMl_1 {d : Nat} {S Sf : cS} {v : Option Value} {nt : Nat} {S1 : cS} {a : Nat} (mnt : nt < 2 ^ 20) (ma : a < 2 ^ 20) (c1 : Ans (d + 8) 178 [.ref 2, .int (nI 1)] S (some (.int (nI a))) S1) (b1 : a ≠ 0) (b2 : 1 ≤ nt + 1) (hB : ∀ lv1 : sm_L, sm_get lv1 0 = some (.ref 53) → sm_get lv1 1 = some (.int (nI (nt + 1))) → sm_get lv1 2 = some (.int (nI a)) → sm_get lv1 3 = some (.int (nI nt)) → Bod (d + 8) 223 20 lv1 [] (S1) v Sf) : Bod (d + 8) 223 0 [(0, .ref 53), (1, .int (nI (nt + 1)))] [] S v Sf := by
  refine Bod.go dc_223_0 rfl ?_
  refine Bod.get dc_223_1 fr_223_9 (mk_53 _) rfl ?_
  refine Bod.ic 1 (by decide) dc_223_4 ?_
  refine Bod.virt (r := []) dc_223_5 kr_223_139 ⟨Or.inr rfl, ow_178, cl_2⟩ (by rw [np_178]; rfl) (by rw [np_178]; rfl) (ob_of (mk_2 _)) (Nat.le_of_ble_eq_true rfl) (c1  ) ?_
  show Bod _ _ _ _ [_] _ _ _
  refine Bod.istn dc_223_8 (by rw [ml_223]; exact Nat.le_of_ble_eq_true rfl) ?_
  refine Bod.go dc_223_9 rfl ?_
  refine Bod.ifT dc_223_10 rfl (k1_ne_T (k_ne a 0 rfl rfl (by omega) (by omega) (by omega))) ?_
  refine Bod.go dc_223_16 rfl ?_
  refine Bod.ic 1 (by decide) dc_223_17 ?_
  refine Bod.subN nt (by omega) (by omega) dc_223_18 ?_
  refine Bod.istn dc_223_19 (by rw [ml_223]; exact Nat.le_of_ble_eq_true rfl) ?_
  exact hB _ (by first | rfl | exact (by repeat (first | exact rfl | exact sm_get_p1 | exact sm_get_p2e | refine sm_get_p1m (by decide) (by decide) ?_ | refine sm_get_p1n (by decide) rfl ?_ | refine sm_get_p2n (by decide) (by decide) rfl ?_ | refine sm_get_p2m (by decide) (by decide) (by decide) ?_))) (by first | rfl | exact (by repeat (first | exact rfl | exact sm_get_p1 | exact sm_get_p2e | refine sm_get_p1m (by decide) (by decide) ?_ | refine sm_get_p1n (by decide) rfl ?_ | refine sm_get_p2n (by decide) (by decide) rfl ?_ | refine sm_get_p2m (by decide) (by decide) (by decide) ?_))) (by first | rfl | exact (by repeat (first | exact rfl | exact sm_get_p1 | exact sm_get_p2e | refine sm_get_p1m (by decide) (by decide) ?_ | refine sm_get_p1n (by decide) rfl ?_ | refine sm_get_p2n (by decide) (by decide) rfl ?_ | refine sm_get_p2m (by decide) (by decide) (by decide) ?_))) (by first | rfl | exact (by repeat (first | exact rfl | exact sm_get_p1 | exact sm_get_p2e | refine sm_get_p1m (by decide) (by decide) ?_ | refine sm_get_p1n (by decide) rfl ?_ | refine sm_get_p2n (by decide) (by decide) rfl ?_ | refine sm_get_p2m (by decide) (by decide) (by decide) ?_)))
theorem mMl_2 {d : Nat} {S : cS} {nt : Nat} {S1 : cS} {a : Nat} (mnt : nt < 2 ^ 20) (ma : a < 2 ^ 20) (c1 : Ans (d + 8) 178 [.ref 2, .int (nI 1)] S (some (.int (nI a))) S1) (b1 : a = 0) : Bod (d + 8) 223 0 [(0, .ref 53), (1, .int (nI (nt + 1)))] [] S (some (.int (nI 8))) (S1) := by
  refine Bod.go dc_223_0 rfl ?_
  refine Bod.get dc_223_1 fr_223_9 (mk_53 _) rfl ?_
  refine Bod.ic 1 (by decide) dc_223_4 ?_
  refine Bod.virt (r := []) dc_223_5 kr_223_139 ⟨Or.inr rfl, ow_178, cl_2⟩ (by rw [np_178]; rfl) (by rw [np_178]; rfl) (ob_of (mk_2 _)) (Nat.le_of_ble_eq_true rfl) (c1  ) ?_
  show Bod _ _ _ _ [_] _ _ _
  refine Bod.istn dc_223_8 (by rw [ml_223]; exact Nat.le_of_ble_eq_true rfl) ?_
  refine Bod.go dc_223_9 rfl ?_
  refine Bod.ifF dc_223_10 rfl (k1_ne_F (k_eq a 0 rfl rfl (by omega))) ?_
  refine Bod.bip 8 (by decide) dc_223_13 ?_
  exact Bod.retI dc_223_15 rt_223
theorem mMlZ_1 {d : Nat} {S Sf : cS} {v : Option Value} {S1 : cS} {a : Nat} (ma : a < 2 ^ 20) (c1 : Ans (d + 8) 178 [.ref 2, .int (nI 1)] S (some (.int (nI a))) S1) (b1 : a ≠ 0) (hB : ∀ lv1 : sm_L, sm_get lv1 0 = some (.ref 53) → sm_get lv1 1 = some (.int (nI 0)) → sm_get lv1 2 = some (.int (nI a)) → sm_get lv1 3 = some (.int (Int32.ofInt (-1))) → Bod (d + 8) 223 20 lv1 [] (S1) v Sf) : Bod (d + 8) 223 0 [(0, .ref 53), (1, .int (nI 0))] [] S v Sf := by
  refine Bod.go dc_223_0 rfl ?_
  refine Bod.get dc_223_1 fr_223_9 (mk_53 _) rfl ?_
  refine Bod.ic 1 (by decide) dc_223_4 ?_
  refine Bod.virt (r := []) dc_223_5 kr_223_139 ⟨Or.inr rfl, ow_178, cl_2⟩ (by rw [np_178]; rfl) (by rw [np_178]; rfl) (ob_of (mk_2 _)) (Nat.le_of_ble_eq_true rfl) (c1  ) ?_
  show Bod _ _ _ _ [_] _ _ _
  refine Bod.istn dc_223_8 (by rw [ml_223]; exact Nat.le_of_ble_eq_true rfl) ?_
  refine Bod.go dc_223_9 rfl ?_
  refine Bod.ifT dc_223_10 rfl (k1_ne_T (k_ne a 0 rfl rfl (by omega) (by omega) (by omega))) ?_
  refine Bod.go dc_223_16 rfl ?_
  refine Bod.ic 1 (by decide) dc_223_17 ?_
  refine Bod.subM dc_223_18 ?_
  refine Bod.istn dc_223_19 (by rw [ml_223]; exact Nat.le_of_ble_eq_true rfl) ?_
  exact hB _ (by first | rfl | exact (by repeat (first | exact rfl | exact sm_get_p1 | exact sm_get_p2e | refine sm_get_p1m (by decide) (by decide) ?_ | refine sm_get_p1n (by decide) rfl ?_ | refine sm_get_p2n (by decide) (by decide) rfl ?_ | refine sm_get_p2m (by decide) (by decide) (by decide) ?_))) (by first | rfl | exact (by repeat (first | exact rfl | exact sm_get_p1 | exact sm_get_p2e | refine sm_get_p1m (by decide) (by decide) ?_ | refine sm_get_p1n (by decide) rfl ?_ | refine sm_get_p2n (by decide) (by decide) rfl ?_ | refine sm_get_p2m (by decide) (by decide) (by decide) ?_))) (by first | rfl | exact (by repeat (first | exact rfl | exact sm_get_p1 | exact sm_get_p2e | refine sm_get_p1m (by decide) (by decide) ?_ | refine sm_get_p1n (by decide) rfl ?_ | refine sm_get_p2n (by decide) (by decide) rfl ?_ | refine sm_get_p2m (by decide) (by decide) (by decide) ?_))) (by first | rfl | exact (by repeat (first | exact rfl | exact sm_get_p1 | exact sm_get_p2e | refine sm_get_p1m (by decide) (by decide) ?_ | refine sm_get_p1n (by decide) rfl ?_ | refine sm_get_p2n (by decide) (by decide) rfl ?_ | refine sm_get_p2m (by decide) (by decide) (by decide) ?_)))
theorem mMlZ_2 {d : Nat} {S : cS} {S1 : cS} {a : Nat} (ma : a < 2 ^ 20) (c1 : Ans (d + 8) 178 [.ref 2, .int (nI 1)] S (some (.int (nI a))) S1) (b1 : a = 0) : Bod (d + 8) 223 0 [(0, .ref 53), (1, .int (nI 0))] [] S (some (.int (nI 8))) (S1) := by
  refine Bod.go dc_223_0 rfl ?_
  refine Bod.get dc_223_1 fr_223_9 (mk_53 _) rfl ?_
  refine Bod.ic 1 (by decide) dc_223_4 ?_
  refine Bod.virt (r := []) dc_223_5 kr_223_139 ⟨Or.inr rfl, ow_178, cl_2⟩ (by rw [np_178]; rfl) (by rw [np_178]; rfl) (ob_of (mk_2 _)) (Nat.le_of_ble_eq_true rfl) (c1  ) ?_
  show Bod _ _ _ _ [_] _ _ _
  refine Bod.istn dc_223_8 (by rw [ml_223]; exact Nat.le_of_ble_eq_true rfl) ?_
  refine Bod.go dc_223_9 rfl ?_
  refine Bod.ifF dc_223_10 rfl (k1_ne_F (k_eq a 0 rfl rfl (by omega))) ?_
  refine Bod.bip 8 (by decide) dc_223_13 ?_
  exact Bod.retI dc_223_15 rt_223
theorem mMlL_1 {d : Nat} {S Sf : cS} {v : Option Value} {lv : sm_L} {nt : Nat} {id : Nat} {ni : Nat} {S1 : cS} {u : Int64} {S2 : cS} {u1 : Int64} {S3 : cS} (q0 : sm_get lv 0 = some (.ref 53)) (q1 : sm_get lv 1 = some (.int (nI nt))) (q2 : sm_get lv 2 = some (.int (nI id))) (q3 : sm_get lv 3 = some (.int (nI (ni + 1)))) (mnt : nt < 2 ^ 20) (mid : id < 2 ^ 20) (mni : ni < 2 ^ 20) (c1 : Ans (d + 8) 132 [.ref 46, .int (nI (ni + 1))] S (some (.long u)) S1) (c2 : Ans (d + 8) 135 [.ref 46, .int (nI (ni + 1))] S1 (some (.long u1)) S2) (c3 : Ans (d + 8) 183 [.ref 2, .int (nI id), .long 0, .long 0, .long u, .long u1] S2 (some (.int (nI 1))) S3) (hB : ∀ lv1 : sm_L, sm_get lv1 0 = some (.ref 53) → sm_get lv1 1 = some (.int (nI nt)) → sm_get lv1 2 = some (.int (nI id)) → sm_get lv1 3 = some (.int (nI ni)) → Bod (d + 8) 223 20 lv1 [] (S3) v Sf) : Bod (d + 8) 223 20 lv [] S v Sf := by
  refine Bod.ildnG dc_223_20 (by repeat (first | exact q3 | exact sm_get_p1 | exact sm_get_p2e | refine sm_get_p1m (by decide) (by decide) ?_ | refine sm_get_p1n (by decide) rfl ?_ | refine sm_get_p2n (by decide) (by decide) rfl ?_ | refine sm_get_p2m (by decide) (by decide) (by decide) ?_)) ?_
  refine Bod.ifF dc_223_21 rfl (k1_lt_F (ni + 1) rfl (by omega)) ?_
  refine Bod.aldnG dc_223_24 (by repeat (first | exact q0 | exact sm_get_p1 | exact sm_get_p2e | refine sm_get_p1m (by decide) (by decide) ?_ | refine sm_get_p1n (by decide) rfl ?_ | refine sm_get_p2n (by decide) (by decide) rfl ?_ | refine sm_get_p2m (by decide) (by decide) (by decide) ?_)) ?_
  refine Bod.get dc_223_25 fr_223_9 (mk_53 _) rfl ?_
  refine Bod.ildnG dc_223_28 (by repeat (first | exact q2 | exact sm_get_p1 | exact sm_get_p2e | refine sm_get_p1m (by decide) (by decide) ?_ | refine sm_get_p1n (by decide) rfl ?_ | refine sm_get_p2n (by decide) (by decide) rfl ?_ | refine sm_get_p2m (by decide) (by decide) (by decide) ?_)) ?_
  refine Bod.go dc_223_29 rfl ?_
  refine Bod.go dc_223_30 rfl ?_
  refine Bod.aldnG dc_223_31 (by repeat (first | exact q0 | exact sm_get_p1 | exact sm_get_p2e | refine sm_get_p1m (by decide) (by decide) ?_ | refine sm_get_p1n (by decide) rfl ?_ | refine sm_get_p2n (by decide) (by decide) rfl ?_ | refine sm_get_p2m (by decide) (by decide) (by decide) ?_)) ?_
  refine Bod.get dc_223_32 fr_223_15 (mk_53 _) rfl ?_
  refine Bod.ildnG dc_223_35 (by repeat (first | exact q3 | exact sm_get_p1 | exact sm_get_p2e | refine sm_get_p1m (by decide) (by decide) ?_ | refine sm_get_p1n (by decide) rfl ?_ | refine sm_get_p2n (by decide) (by decide) rfl ?_ | refine sm_get_p2m (by decide) (by decide) (by decide) ?_)) ?_
  refine Bod.virt (r := [_, _, _, _]) dc_223_36 kr_223_70 ⟨Or.inr rfl, ow_132, cl_9⟩ (by rw [np_132]; rfl) (by rw [np_132]; rfl) (ob_of (mk_46 _)) (Nat.le_of_ble_eq_true rfl) (c1  ) ?_
  show Bod _ _ _ _ [_, _, _, _, _] _ _ _
  refine Bod.aldnG dc_223_39 (by repeat (first | exact q0 | exact sm_get_p1 | exact sm_get_p2e | refine sm_get_p1m (by decide) (by decide) ?_ | refine sm_get_p1n (by decide) rfl ?_ | refine sm_get_p2n (by decide) (by decide) rfl ?_ | refine sm_get_p2m (by decide) (by decide) (by decide) ?_)) ?_
  refine Bod.get dc_223_40 fr_223_15 (mk_53 _) rfl ?_
  refine Bod.ildnG dc_223_43 (by repeat (first | exact q3 | exact sm_get_p1 | exact sm_get_p2e | refine sm_get_p1m (by decide) (by decide) ?_ | refine sm_get_p1n (by decide) rfl ?_ | refine sm_get_p2n (by decide) (by decide) rfl ?_ | refine sm_get_p2m (by decide) (by decide) (by decide) ?_)) ?_
  refine Bod.virt (r := [_, _, _, _, _]) dc_223_44 kr_223_111 ⟨Or.inr rfl, ow_135, cl_9⟩ (by rw [np_135]; rfl) (by rw [np_135]; rfl) (ob_of (mk_46 _)) (Nat.le_of_ble_eq_true rfl) (c2  ) ?_
  show Bod _ _ _ _ [_, _, _, _, _, _] _ _ _
  refine Bod.virt (r := []) dc_223_47 kr_223_201 ⟨Or.inr rfl, ow_183, cl_2⟩ (by rw [np_183]; rfl) (by rw [np_183]; rfl) (ob_of (mk_2 _)) (Nat.le_of_ble_eq_true rfl) (c3  ) ?_
  show Bod _ _ _ _ [_] _ _ _
  refine Bod.go dc_223_50 rfl ?_
  refine Bod.incN ni nI_dec dc_223_51 (by rw [ml_223]; exact Nat.le_of_ble_eq_true rfl) (by repeat (first | exact q3 | exact sm_get_p1 | exact sm_get_p2e | refine sm_get_p1m (by decide) (by decide) ?_ | refine sm_get_p1n (by decide) rfl ?_ | refine sm_get_p2n (by decide) (by decide) rfl ?_ | refine sm_get_p2m (by decide) (by decide) (by decide) ?_)) ?_
  refine Bod.go dc_223_54 rfl ?_
  exact hB _ (by repeat (first | exact q0 | exact sm_get_p1 | exact sm_get_p2e | refine sm_get_p1m (by decide) (by decide) ?_ | refine sm_get_p1n (by decide) rfl ?_ | refine sm_get_p2n (by decide) (by decide) rfl ?_ | refine sm_get_p2m (by decide) (by decide) (by decide) ?_)) (by repeat (first | exact q1 | exact sm_get_p1 | exact sm_get_p2e | refine sm_get_p1m (by decide) (by decide) ?_ | refine sm_get_p1n (by decide) rfl ?_ | refine sm_get_p2n (by decide) (by decide) rfl ?_ | refine sm_get_p2m (by decide) (by decide) (by decide) ?_)) (by repeat (first | exact q2 | exact sm_get_p1 | exact sm_get_p2e | refine sm_get_p1m (by decide) (by decide) ?_ | refine sm_get_p1n (by decide) rfl ?_ | refine sm_get_p2n (by decide) (by decide) rfl ?_ | refine sm_get_p2m (by decide) (by decide) (by decide) ?_)) (by repeat (first | exact q0 | exact sm_get_p1 | exact sm_get_p2e | refine sm_get_p1m (by decide) (by decide) ?_ | refine sm_get_p1n (by decide) rfl ?_ | refine sm_get_p2n (by decide) (by decide) rfl ?_ | refine sm_get_p2m (by decide) (by decide) (by decide) ?_))
theorem mMlL_2 {d : Nat} {S Sf : cS} {v : Option Value} {lv : sm_L} {nt : Nat} {id : Nat} {ni : Nat} {S1 : cS} {u : Int64} {S2 : cS} {u1 : Int64} {S3 : cS} (q0 : sm_get lv 0 = some (.ref 53)) (q1 : sm_get lv 1 = some (.int (nI nt))) (q2 : sm_get lv 2 = some (.int (nI id))) (q3 : sm_get lv 3 = some (.int (nI (ni + 1)))) (mnt : nt < 2 ^ 20) (mid : id < 2 ^ 20) (mni : ni < 2 ^ 20) (c1 : Ans (d + 8) 132 [.ref 46, .int (nI (ni + 1))] S (some (.long u)) S1) (c2 : Ans (d + 8) 135 [.ref 46, .int (nI (ni + 1))] S1 (some (.long u1)) S2) (c3 : Ans (d + 8) 183 [.ref 2, .int (nI id), .long 0, .long 0, .long u, .long u1] S2 (some (.int (nI 0))) S3) (hB : ∀ lv1 : sm_L, sm_get lv1 0 = some (.ref 53) → sm_get lv1 1 = some (.int (nI nt)) → sm_get lv1 2 = some (.int (nI id)) → sm_get lv1 3 = some (.int (nI ni)) → Bod (d + 8) 223 20 lv1 [] (S3) v Sf) : Bod (d + 8) 223 20 lv [] S v Sf := by
  refine Bod.ildnG dc_223_20 (by repeat (first | exact q3 | exact sm_get_p1 | exact sm_get_p2e | refine sm_get_p1m (by decide) (by decide) ?_ | refine sm_get_p1n (by decide) rfl ?_ | refine sm_get_p2n (by decide) (by decide) rfl ?_ | refine sm_get_p2m (by decide) (by decide) (by decide) ?_)) ?_
  refine Bod.ifF dc_223_21 rfl (k1_lt_F (ni + 1) rfl (by omega)) ?_
  refine Bod.aldnG dc_223_24 (by repeat (first | exact q0 | exact sm_get_p1 | exact sm_get_p2e | refine sm_get_p1m (by decide) (by decide) ?_ | refine sm_get_p1n (by decide) rfl ?_ | refine sm_get_p2n (by decide) (by decide) rfl ?_ | refine sm_get_p2m (by decide) (by decide) (by decide) ?_)) ?_
  refine Bod.get dc_223_25 fr_223_9 (mk_53 _) rfl ?_
  refine Bod.ildnG dc_223_28 (by repeat (first | exact q2 | exact sm_get_p1 | exact sm_get_p2e | refine sm_get_p1m (by decide) (by decide) ?_ | refine sm_get_p1n (by decide) rfl ?_ | refine sm_get_p2n (by decide) (by decide) rfl ?_ | refine sm_get_p2m (by decide) (by decide) (by decide) ?_)) ?_
  refine Bod.go dc_223_29 rfl ?_
  refine Bod.go dc_223_30 rfl ?_
  refine Bod.aldnG dc_223_31 (by repeat (first | exact q0 | exact sm_get_p1 | exact sm_get_p2e | refine sm_get_p1m (by decide) (by decide) ?_ | refine sm_get_p1n (by decide) rfl ?_ | refine sm_get_p2n (by decide) (by decide) rfl ?_ | refine sm_get_p2m (by decide) (by decide) (by decide) ?_)) ?_
  refine Bod.get dc_223_32 fr_223_15 (mk_53 _) rfl ?_
  refine Bod.ildnG dc_223_35 (by repeat (first | exact q3 | exact sm_get_p1 | exact sm_get_p2e | refine sm_get_p1m (by decide) (by decide) ?_ | refine sm_get_p1n (by decide) rfl ?_ | refine sm_get_p2n (by decide) (by decide) rfl ?_ | refine sm_get_p2m (by decide) (by decide) (by decide) ?_)) ?_
  refine Bod.virt (r := [_, _, _, _]) dc_223_36 kr_223_70 ⟨Or.inr rfl, ow_132, cl_9⟩ (by rw [np_132]; rfl) (by rw [np_132]; rfl) (ob_of (mk_46 _)) (Nat.le_of_ble_eq_true rfl) (c1  ) ?_
  show Bod _ _ _ _ [_, _, _, _, _] _ _ _
  refine Bod.aldnG dc_223_39 (by repeat (first | exact q0 | exact sm_get_p1 | exact sm_get_p2e | refine sm_get_p1m (by decide) (by decide) ?_ | refine sm_get_p1n (by decide) rfl ?_ | refine sm_get_p2n (by decide) (by decide) rfl ?_ | refine sm_get_p2m (by decide) (by decide) (by decide) ?_)) ?_
  refine Bod.get dc_223_40 fr_223_15 (mk_53 _) rfl ?_
  refine Bod.ildnG dc_223_43 (by repeat (first | exact q3 | exact sm_get_p1 | exact sm_get_p2e | refine sm_get_p1m (by decide) (by decide) ?_ | refine sm_get_p1n (by decide) rfl ?_ | refine sm_get_p2n (by decide) (by decide) rfl ?_ | refine sm_get_p2m (by decide) (by decide) (by decide) ?_)) ?_
  refine Bod.virt (r := [_, _, _, _, _]) dc_223_44 kr_223_111 ⟨Or.inr rfl, ow_135, cl_9⟩ (by rw [np_135]; rfl) (by rw [np_135]; rfl) (ob_of (mk_46 _)) (Nat.le_of_ble_eq_true rfl) (c2  ) ?_
  show Bod _ _ _ _ [_, _, _, _, _, _] _ _ _
  refine Bod.virt (r := []) dc_223_47 kr_223_201 ⟨Or.inr rfl, ow_183, cl_2⟩ (by rw [np_183]; rfl) (by rw [np_183]; rfl) (ob_of (mk_2 _)) (Nat.le_of_ble_eq_true rfl) (c3  ) ?_
  show Bod _ _ _ _ [_] _ _ _
  refine Bod.go dc_223_50 rfl ?_
  refine Bod.incN ni nI_dec dc_223_51 (by rw [ml_223]; exact Nat.le_of_ble_eq_true rfl) (by repeat (first | exact q3 | exact sm_get_p1 | exact sm_get_p2e | refine sm_get_p1m (by decide) (by decide) ?_ | refine sm_get_p1n (by decide) rfl ?_ | refine sm_get_p2n (by decide) (by decide) rfl ?_ | refine sm_get_p2m (by decide) (by decide) (by decide) ?_)) ?_
  refine Bod.go dc_223_54 rfl ?_
  exact hB _ (by repeat (first | exact q0 | exact sm_get_p1 | exact sm_get_p2e | refine sm_get_p1m (by decide) (by decide) ?_ | refine sm_get_p1n (by decide) rfl ?_ | refine sm_get_p2n (by decide) (by decide) rfl ?_ | refine sm_get_p2m (by decide) (by decide) (by decide) ?_)) (by repeat (first | exact q1 | exact sm_get_p1 | exact sm_get_p2e | refine sm_get_p1m (by decide) (by decide) ?_ | refine sm_get_p1n (by decide) rfl ?_ | refine sm_get_p2n (by decide) (by decide) rfl ?_ | refine sm_get_p2m (by decide) (by decide) (by decide) ?_)) (by repeat (first | exact q2 | exact sm_get_p1 | exact sm_get_p2e | refine sm_get_p1m (by decide) (by decide) ?_ | refine sm_get_p1n (by decide) rfl ?_ | refine sm_get_p2n (by decide) (by decide) rfl ?_ | refine sm_get_p2m (by decide) (by decide) (by decide) ?_)) (by repeat (first | exact q0 | exact sm_get_p1 | exact sm_get_p2e | refine sm_get_p1m (by decide) (by decide) ?_ | refine sm_get_p1n (by decide) rfl ?_ | refine sm_get_p2n (by decide) (by decide) rfl ?_ | refine sm_get_p2m (by decide) (by decide) (by decide) ?_))
theorem mMlM_1 {d : Nat} {S Sf : cS} {v : Option Value} {lv : sm_L} {nt : Nat} {id : Nat} {S1 : cS} {u : Int64} {S2 : cS} {u1 : Int64} {S3 : cS} (q0 : sm_get lv 0 = some (.ref 53)) (q1 : sm_get lv 1 = some (.int (nI nt))) (q2 : sm_get lv 2 = some (.int (nI id))) (q3 : sm_get lv 3 = some (.int (nI 0))) (mnt : nt < 2 ^ 20) (mid : id < 2 ^ 20) (c1 : Ans (d + 8) 132 [.ref 46, .int (nI 0)] S (some (.long u)) S1) (c2 : Ans (d + 8) 135 [.ref 46, .int (nI 0)] S1 (some (.long u1)) S2) (c3 : Ans (d + 8) 183 [.ref 2, .int (nI id), .long 0, .long 0, .long u, .long u1] S2 (some (.int (nI 1))) S3) (hB : ∀ lv1 : sm_L, sm_get lv1 0 = some (.ref 53) → sm_get lv1 1 = some (.int (nI nt)) → sm_get lv1 2 = some (.int (nI id)) → sm_get lv1 3 = some (.int (Int32.ofInt (-1))) → Bod (d + 8) 223 20 lv1 [] (S3) v Sf) : Bod (d + 8) 223 20 lv [] S v Sf := by
  refine Bod.ildnG dc_223_20 (by repeat (first | exact q3 | exact sm_get_p1 | exact sm_get_p2e | refine sm_get_p1m (by decide) (by decide) ?_ | refine sm_get_p1n (by decide) rfl ?_ | refine sm_get_p2n (by decide) (by decide) rfl ?_ | refine sm_get_p2m (by decide) (by decide) (by decide) ?_)) ?_
  refine Bod.ifF dc_223_21 rfl (k1_lt_F 0 rfl (by omega)) ?_
  refine Bod.aldnG dc_223_24 (by repeat (first | exact q0 | exact sm_get_p1 | exact sm_get_p2e | refine sm_get_p1m (by decide) (by decide) ?_ | refine sm_get_p1n (by decide) rfl ?_ | refine sm_get_p2n (by decide) (by decide) rfl ?_ | refine sm_get_p2m (by decide) (by decide) (by decide) ?_)) ?_
  refine Bod.get dc_223_25 fr_223_9 (mk_53 _) rfl ?_
  refine Bod.ildnG dc_223_28 (by repeat (first | exact q2 | exact sm_get_p1 | exact sm_get_p2e | refine sm_get_p1m (by decide) (by decide) ?_ | refine sm_get_p1n (by decide) rfl ?_ | refine sm_get_p2n (by decide) (by decide) rfl ?_ | refine sm_get_p2m (by decide) (by decide) (by decide) ?_)) ?_
  refine Bod.go dc_223_29 rfl ?_
  refine Bod.go dc_223_30 rfl ?_
  refine Bod.aldnG dc_223_31 (by repeat (first | exact q0 | exact sm_get_p1 | exact sm_get_p2e | refine sm_get_p1m (by decide) (by decide) ?_ | refine sm_get_p1n (by decide) rfl ?_ | refine sm_get_p2n (by decide) (by decide) rfl ?_ | refine sm_get_p2m (by decide) (by decide) (by decide) ?_)) ?_
  refine Bod.get dc_223_32 fr_223_15 (mk_53 _) rfl ?_
  refine Bod.ildnG dc_223_35 (by repeat (first | exact q3 | exact sm_get_p1 | exact sm_get_p2e | refine sm_get_p1m (by decide) (by decide) ?_ | refine sm_get_p1n (by decide) rfl ?_ | refine sm_get_p2n (by decide) (by decide) rfl ?_ | refine sm_get_p2m (by decide) (by decide) (by decide) ?_)) ?_
  refine Bod.virt (r := [_, _, _, _]) dc_223_36 kr_223_70 ⟨Or.inr rfl, ow_132, cl_9⟩ (by rw [np_132]; rfl) (by rw [np_132]; rfl) (ob_of (mk_46 _)) (Nat.le_of_ble_eq_true rfl) (c1  ) ?_
  show Bod _ _ _ _ [_, _, _, _, _] _ _ _
  refine Bod.aldnG dc_223_39 (by repeat (first | exact q0 | exact sm_get_p1 | exact sm_get_p2e | refine sm_get_p1m (by decide) (by decide) ?_ | refine sm_get_p1n (by decide) rfl ?_ | refine sm_get_p2n (by decide) (by decide) rfl ?_ | refine sm_get_p2m (by decide) (by decide) (by decide) ?_)) ?_
  refine Bod.get dc_223_40 fr_223_15 (mk_53 _) rfl ?_
  refine Bod.ildnG dc_223_43 (by repeat (first | exact q3 | exact sm_get_p1 | exact sm_get_p2e | refine sm_get_p1m (by decide) (by decide) ?_ | refine sm_get_p1n (by decide) rfl ?_ | refine sm_get_p2n (by decide) (by decide) rfl ?_ | refine sm_get_p2m (by decide) (by decide) (by decide) ?_)) ?_
  refine Bod.virt (r := [_, _, _, _, _]) dc_223_44 kr_223_111 ⟨Or.inr rfl, ow_135, cl_9⟩ (by rw [np_135]; rfl) (by rw [np_135]; rfl) (ob_of (mk_46 _)) (Nat.le_of_ble_eq_true rfl) (c2  ) ?_
  show Bod _ _ _ _ [_, _, _, _, _, _] _ _ _
  refine Bod.virt (r := []) dc_223_47 kr_223_201 ⟨Or.inr rfl, ow_183, cl_2⟩ (by rw [np_183]; rfl) (by rw [np_183]; rfl) (ob_of (mk_2 _)) (Nat.le_of_ble_eq_true rfl) (c3  ) ?_
  show Bod _ _ _ _ [_] _ _ _
  refine Bod.go dc_223_50 rfl ?_
  refine Bod.incM dc_223_51 (by rw [ml_223]; exact Nat.le_of_ble_eq_true rfl) (by repeat (first | exact q3 | exact sm_get_p1 | exact sm_get_p2e | refine sm_get_p1m (by decide) (by decide) ?_ | refine sm_get_p1n (by decide) rfl ?_ | refine sm_get_p2n (by decide) (by decide) rfl ?_ | refine sm_get_p2m (by decide) (by decide) (by decide) ?_)) ?_
  refine Bod.go dc_223_54 rfl ?_
  exact hB _ (by repeat (first | exact q0 | exact sm_get_p1 | exact sm_get_p2e | refine sm_get_p1m (by decide) (by decide) ?_ | refine sm_get_p1n (by decide) rfl ?_ | refine sm_get_p2n (by decide) (by decide) rfl ?_ | refine sm_get_p2m (by decide) (by decide) (by decide) ?_)) (by repeat (first | exact q1 | exact sm_get_p1 | exact sm_get_p2e | refine sm_get_p1m (by decide) (by decide) ?_ | refine sm_get_p1n (by decide) rfl ?_ | refine sm_get_p2n (by decide) (by decide) rfl ?_ | refine sm_get_p2m (by decide) (by decide) (by decide) ?_)) (by repeat (first | exact q2 | exact sm_get_p1 | exact sm_get_p2e | refine sm_get_p1m (by decide) (by decide) ?_ | refine sm_get_p1n (by decide) rfl ?_ | refine sm_get_p2n (by decide) (by decide) rfl ?_ | refine sm_get_p2m (by decide) (by decide) (by decide) ?_)) (by repeat (first | exact q0 | exact sm_get_p1 | exact sm_get_p2e | refine sm_get_p1m (by decide) (by decide) ?_ | refine sm_get_p1n (by decide) rfl ?_ | refine sm_get_p2n (by decide) (by decide) rfl ?_ | refine sm_get_p2m (by decide) (by decide) (by decide) ?_))
theorem mMlM_2 {d : Nat} {S Sf : cS} {v : Option Value} {lv : sm_L} {nt : Nat} {id : Nat} {S1 : cS} {u : Int64} {S2 : cS} {u1 : Int64} {S3 : cS} (q0 : sm_get lv 0 = some (.ref 53)) (q1 : sm_get lv 1 = some (.int (nI nt))) (q2 : sm_get lv 2 = some (.int (nI id))) (q3 : sm_get lv 3 = some (.int (nI 0))) (mnt : nt < 2 ^ 20) (mid : id < 2 ^ 20) (c1 : Ans (d + 8) 132 [.ref 46, .int (nI 0)] S (some (.long u)) S1) (c2 : Ans (d + 8) 135 [.ref 46, .int (nI 0)] S1 (some (.long u1)) S2) (c3 : Ans (d + 8) 183 [.ref 2, .int (nI id), .long 0, .long 0, .long u, .long u1] S2 (some (.int (nI 0))) S3) (hB : ∀ lv1 : sm_L, sm_get lv1 0 = some (.ref 53) → sm_get lv1 1 = some (.int (nI nt)) → sm_get lv1 2 = some (.int (nI id)) → sm_get lv1 3 = some (.int (Int32.ofInt (-1))) → Bod (d + 8) 223 20 lv1 [] (S3) v Sf) : Bod (d + 8) 223 20 lv [] S v Sf := by
  refine Bod.ildnG dc_223_20 (by repeat (first | exact q3 | exact sm_get_p1 | exact sm_get_p2e | refine sm_get_p1m (by decide) (by decide) ?_ | refine sm_get_p1n (by decide) rfl ?_ | refine sm_get_p2n (by decide) (by decide) rfl ?_ | refine sm_get_p2m (by decide) (by decide) (by decide) ?_)) ?_
  refine Bod.ifF dc_223_21 rfl (k1_lt_F 0 rfl (by omega)) ?_
  refine Bod.aldnG dc_223_24 (by repeat (first | exact q0 | exact sm_get_p1 | exact sm_get_p2e | refine sm_get_p1m (by decide) (by decide) ?_ | refine sm_get_p1n (by decide) rfl ?_ | refine sm_get_p2n (by decide) (by decide) rfl ?_ | refine sm_get_p2m (by decide) (by decide) (by decide) ?_)) ?_
  refine Bod.get dc_223_25 fr_223_9 (mk_53 _) rfl ?_
  refine Bod.ildnG dc_223_28 (by repeat (first | exact q2 | exact sm_get_p1 | exact sm_get_p2e | refine sm_get_p1m (by decide) (by decide) ?_ | refine sm_get_p1n (by decide) rfl ?_ | refine sm_get_p2n (by decide) (by decide) rfl ?_ | refine sm_get_p2m (by decide) (by decide) (by decide) ?_)) ?_
  refine Bod.go dc_223_29 rfl ?_
  refine Bod.go dc_223_30 rfl ?_
  refine Bod.aldnG dc_223_31 (by repeat (first | exact q0 | exact sm_get_p1 | exact sm_get_p2e | refine sm_get_p1m (by decide) (by decide) ?_ | refine sm_get_p1n (by decide) rfl ?_ | refine sm_get_p2n (by decide) (by decide) rfl ?_ | refine sm_get_p2m (by decide) (by decide) (by decide) ?_)) ?_
  refine Bod.get dc_223_32 fr_223_15 (mk_53 _) rfl ?_
  refine Bod.ildnG dc_223_35 (by repeat (first | exact q3 | exact sm_get_p1 | exact sm_get_p2e | refine sm_get_p1m (by decide) (by decide) ?_ | refine sm_get_p1n (by decide) rfl ?_ | refine sm_get_p2n (by decide) (by decide) rfl ?_ | refine sm_get_p2m (by decide) (by decide) (by decide) ?_)) ?_
  refine Bod.virt (r := [_, _, _, _]) dc_223_36 kr_223_70 ⟨Or.inr rfl, ow_132, cl_9⟩ (by rw [np_132]; rfl) (by rw [np_132]; rfl) (ob_of (mk_46 _)) (Nat.le_of_ble_eq_true rfl) (c1  ) ?_
  show Bod _ _ _ _ [_, _, _, _, _] _ _ _
  refine Bod.aldnG dc_223_39 (by repeat (first | exact q0 | exact sm_get_p1 | exact sm_get_p2e | refine sm_get_p1m (by decide) (by decide) ?_ | refine sm_get_p1n (by decide) rfl ?_ | refine sm_get_p2n (by decide) (by decide) rfl ?_ | refine sm_get_p2m (by decide) (by decide) (by decide) ?_)) ?_
  refine Bod.get dc_223_40 fr_223_15 (mk_53 _) rfl ?_
  refine Bod.ildnG dc_223_43 (by repeat (first | exact q3 | exact sm_get_p1 | exact sm_get_p2e | refine sm_get_p1m (by decide) (by decide) ?_ | refine sm_get_p1n (by decide) rfl ?_ | refine sm_get_p2n (by decide) (by decide) rfl ?_ | refine sm_get_p2m (by decide) (by decide) (by decide) ?_)) ?_
  refine Bod.virt (r := [_, _, _, _, _]) dc_223_44 kr_223_111 ⟨Or.inr rfl, ow_135, cl_9⟩ (by rw [np_135]; rfl) (by rw [np_135]; rfl) (ob_of (mk_46 _)) (Nat.le_of_ble_eq_true rfl) (c2  ) ?_
  show Bod _ _ _ _ [_, _, _, _, _, _] _ _ _
  refine Bod.virt (r := []) dc_223_47 kr_223_201 ⟨Or.inr rfl, ow_183, cl_2⟩ (by rw [np_183]; rfl) (by rw [np_183]; rfl) (ob_of (mk_2 _)) (Nat.le_of_ble_eq_true rfl) (c3  ) ?_
  show Bod _ _ _ _ [_] _ _ _
  refine Bod.go dc_223_50 rfl ?_
  refine Bod.incM dc_223_51 (by rw [ml_223]; exact Nat.le_of_ble_eq_true rfl) (by repeat (first | exact q3 | exact sm_get_p1 | exact sm_get_p2e | refine sm_get_p1m (by decide) (by decide) ?_ | refine sm_get_p1n (by decide) rfl ?_ | refine sm_get_p2n (by decide) (by decide) rfl ?_ | refine sm_get_p2m (by decide) (by decide) (by decide) ?_)) ?_
  refine Bod.go dc_223_54 rfl ?_
  exact hB _ (by repeat (first | exact q0 | exact sm_get_p1 | exact sm_get_p2e | refine sm_get_p1m (by decide) (by decide) ?_ | refine sm_get_p1n (by decide) rfl ?_ | refine sm_get_p2n (by decide) (by decide) rfl ?_ | refine sm_get_p2m (by decide) (by decide) (by decide) ?_)) (by repeat (first | exact q1 | exact sm_get_p1 | exact sm_get_p2e | refine sm_get_p1m (by decide) (by decide) ?_ | refine sm_get_p1n (by decide) rfl ?_ | refine sm_get_p2n (by decide) (by decide) rfl ?_ | refine sm_get_p2m (by decide) (by decide) (by decide) ?_)) (by repeat (first | exact q2 | exact sm_get_p1 | exact sm_get_p2e | refine sm_get_p1m (by decide) (by decide) ?_ | refine sm_get_p1n (by decide) rfl ?_ | refine sm_get_p2n (by decide) (by decide) rfl ?_ | refine sm_get_p2m (by decide) (by decide) (by decide) ?_)) (by repeat (first | exact q0 | exact sm_get_p1 | exact sm_get_p2e | refine sm_get_p1m (by decide) (by decide) ?_ | refine sm_get_p1n (by decide) rfl ?_ | refine sm_get_p2n (by decide) (by decide) rfl ?_ | refine sm_get_p2m (by decide) (by decide) (by decide) ?_))
theorem mMlE_1 {d : Nat} {S : cS} {lv : sm_L} {nt : Nat} {id : Nat} {S1 : cS} {rb : Int32} (q0 : sm_get lv 0 = some (.ref 53)) (q1 : sm_get lv 1 = some (.int (nI nt))) (q2 : sm_get lv 2 = some (.int (nI id))) (q3 : sm_get lv 3 = some (.int (Int32.ofInt (-1)))) (mnt : nt < 2 ^ 20) (mid : id < 2 ^ 20) (c1 : Ans (d + 8) 148 [.ref 46, .int (nI nt), .long ((4611686018427387904)), .long ((nI id).toInt64)] S (some (.int rb)) S1) : Bod (d + 8) 223 20 lv [] S (some (.int rb)) (S1) := by
  refine Bod.ildnG dc_223_20 (by repeat (first | exact q3 | exact sm_get_p1 | exact sm_get_p2e | refine sm_get_p1m (by decide) (by decide) ?_ | refine sm_get_p1n (by decide) rfl ?_ | refine sm_get_p2n (by decide) (by decide) rfl ?_ | refine sm_get_p2m (by decide) (by decide) (by decide) ?_)) ?_
  refine Bod.ifT dc_223_21 rfl (by decide) ?_
  refine Bod.aldnG dc_223_57 (by repeat (first | exact q0 | exact sm_get_p1 | exact sm_get_p2e | refine sm_get_p1m (by decide) (by decide) ?_ | refine sm_get_p1n (by decide) rfl ?_ | refine sm_get_p2n (by decide) (by decide) rfl ?_ | refine sm_get_p2m (by decide) (by decide) (by decide) ?_)) ?_
  refine Bod.get dc_223_58 fr_223_15 (mk_53 _) rfl ?_
  refine Bod.ildnG dc_223_61 (by repeat (first | exact q1 | exact sm_get_p1 | exact sm_get_p2e | refine sm_get_p1m (by decide) (by decide) ?_ | refine sm_get_p1n (by decide) rfl ?_ | refine sm_get_p2n (by decide) (by decide) rfl ?_ | refine sm_get_p2m (by decide) (by decide) (by decide) ?_)) ?_
  refine Bod.ldc2 dc_223_62 cj_223_146 ?_
  refine Bod.ildnG dc_223_65 (by repeat (first | exact q2 | exact sm_get_p1 | exact sm_get_p2e | refine sm_get_p1m (by decide) (by decide) ?_ | refine sm_get_p1n (by decide) rfl ?_ | refine sm_get_p2n (by decide) (by decide) rfl ?_ | refine sm_get_p2m (by decide) (by decide) (by decide) ?_)) ?_
  refine Bod.go dc_223_66 rfl ?_
  refine Bod.virt (r := []) dc_223_67 kr_223_31 ⟨Or.inr rfl, ow_148, cl_9⟩ (by rw [np_148]; rfl) (by rw [np_148]; rfl) (ob_of (mk_46 _)) (Nat.le_of_ble_eq_true rfl) (c1  ) ?_
  show Bod _ _ _ _ [_] _ _ _
  exact Bod.retI dc_223_70 rt_223
theorem mMd_1 {d : Nat} {S Sf : cS} {v : Option Value} {nt : Nat} (mnt : nt < 2 ^ 20) (hB : ∀ lv1 : sm_L, sm_get lv1 0 = some (.ref 53) → sm_get lv1 1 = some (.int (nI nt)) → sm_get lv1 2 = some (.int (nI 0)) → Bod (d + 8) 224 2 lv1 [] (S) v Sf) : Bod (d + 8) 224 0 [(0, .ref 53), (1, .int (nI nt))] [] S v Sf := by
  refine Bod.ic 0 (by decide) dc_224_0 ?_
  refine Bod.istn dc_224_1 (by rw [ml_224]; exact Nat.le_of_ble_eq_true rfl) ?_
  exact hB _ (by first | rfl | exact (by repeat (first | exact rfl | exact sm_get_p1 | exact sm_get_p2e | refine sm_get_p1m (by decide) (by decide) ?_ | refine sm_get_p1n (by decide) rfl ?_ | refine sm_get_p2n (by decide) (by decide) rfl ?_ | refine sm_get_p2m (by decide) (by decide) (by decide) ?_))) (by first | rfl | exact (by repeat (first | exact rfl | exact sm_get_p1 | exact sm_get_p2e | refine sm_get_p1m (by decide) (by decide) ?_ | refine sm_get_p1n (by decide) rfl ?_ | refine sm_get_p2n (by decide) (by decide) rfl ?_ | refine sm_get_p2m (by decide) (by decide) (by decide) ?_))) (by first | rfl | exact (by repeat (first | exact rfl | exact sm_get_p1 | exact sm_get_p2e | refine sm_get_p1m (by decide) (by decide) ?_ | refine sm_get_p1n (by decide) rfl ?_ | refine sm_get_p2n (by decide) (by decide) rfl ?_ | refine sm_get_p2m (by decide) (by decide) (by decide) ?_)))
theorem mMdK_1 {d : Nat} {S Sf : cS} {v : Option Value} {lv : sm_L} {nt : Nat} {ni : Nat} (q0 : sm_get lv 0 = some (.ref 53)) (q1 : sm_get lv 1 = some (.int (nI nt))) (q2 : sm_get lv 2 = some (.int (nI ni))) (mnt : nt < 2 ^ 20) (mni : ni < 2 ^ 20) (b1 : nt ≤ ni) (hB : ∀ lv1 : sm_L, sm_get lv1 0 = some (.ref 53) → sm_get lv1 1 = some (.int (nI nt)) → Bod (d + 8) 224 33 lv1 [] (S) v Sf) : Bod (d + 8) 224 2 lv [] S v Sf := by
  refine Bod.ildnG dc_224_2 (by repeat (first | exact q2 | exact sm_get_p1 | exact sm_get_p2e | refine sm_get_p1m (by decide) (by decide) ?_ | refine sm_get_p1n (by decide) rfl ?_ | refine sm_get_p2n (by decide) (by decide) rfl ?_ | refine sm_get_p2m (by decide) (by decide) (by decide) ?_)) ?_
  refine Bod.ildnG dc_224_3 (by repeat (first | exact q1 | exact sm_get_p1 | exact sm_get_p2e | refine sm_get_p1m (by decide) (by decide) ?_ | refine sm_get_p1n (by decide) rfl ?_ | refine sm_get_p2n (by decide) (by decide) rfl ?_ | refine sm_get_p2m (by decide) (by decide) (by decide) ?_)) ?_
  refine Bod.icT dc_224_4 rfl (k2_ge_T ni nt rfl rfl (by omega) (by omega)) ?_
  exact hB _ (by repeat (first | exact q0 | exact sm_get_p1 | exact sm_get_p2e | refine sm_get_p1m (by decide) (by decide) ?_ | refine sm_get_p1n (by decide) rfl ?_ | refine sm_get_p2n (by decide) (by decide) rfl ?_ | refine sm_get_p2m (by decide) (by decide) (by decide) ?_)) (by repeat (first | exact q1 | exact sm_get_p1 | exact sm_get_p2e | refine sm_get_p1m (by decide) (by decide) ?_ | refine sm_get_p1n (by decide) rfl ?_ | refine sm_get_p2n (by decide) (by decide) rfl ?_ | refine sm_get_p2m (by decide) (by decide) (by decide) ?_))
theorem mMdK_2 {d : Nat} {S Sf : cS} {v : Option Value} {lv : sm_L} {nt : Nat} {ni : Nat} {S1 : cS} {u : Int64} {S2 : cS} (q0 : sm_get lv 0 = some (.ref 53)) (q1 : sm_get lv 1 = some (.int (nI nt))) (q2 : sm_get lv 2 = some (.int (nI ni))) (mnt : nt < 2 ^ 20) (mni : ni < 2 ^ 20) (b1 : ni < nt) (c1 : Ans (d + 8) 132 [.ref 46, .int (nI (2 * ni + 1))] S (some (.long u)) S1) (c2 : Ans (d + 8) 205 [.long u] S1 (some (.int (nI 1))) S2) (hB : ∀ lv1 : sm_L, sm_get lv1 0 = some (.ref 53) → sm_get lv1 1 = some (.int (nI nt)) → sm_get lv1 2 = some (.int (nI (ni + 1))) → Bod (d + 8) 224 2 lv1 [] (S2) v Sf) : Bod (d + 8) 224 2 lv [] S v Sf := by
  refine Bod.ildnG dc_224_2 (by repeat (first | exact q2 | exact sm_get_p1 | exact sm_get_p2e | refine sm_get_p1m (by decide) (by decide) ?_ | refine sm_get_p1n (by decide) rfl ?_ | refine sm_get_p2n (by decide) (by decide) rfl ?_ | refine sm_get_p2m (by decide) (by decide) (by decide) ?_)) ?_
  refine Bod.ildnG dc_224_3 (by repeat (first | exact q1 | exact sm_get_p1 | exact sm_get_p2e | refine sm_get_p1m (by decide) (by decide) ?_ | refine sm_get_p1n (by decide) rfl ?_ | refine sm_get_p2n (by decide) (by decide) rfl ?_ | refine sm_get_p2m (by decide) (by decide) (by decide) ?_)) ?_
  refine Bod.icF dc_224_4 rfl (k2_ge_F ni nt rfl rfl (by omega) (by omega)) ?_
  refine Bod.aldnG dc_224_7 (by repeat (first | exact q0 | exact sm_get_p1 | exact sm_get_p2e | refine sm_get_p1m (by decide) (by decide) ?_ | refine sm_get_p1n (by decide) rfl ?_ | refine sm_get_p2n (by decide) (by decide) rfl ?_ | refine sm_get_p2m (by decide) (by decide) (by decide) ?_)) ?_
  refine Bod.get dc_224_8 fr_224_15 (mk_53 _) rfl ?_
  refine Bod.ic 2 (by decide) dc_224_11 ?_
  refine Bod.ildnG dc_224_12 (by repeat (first | exact q2 | exact sm_get_p1 | exact sm_get_p2e | refine sm_get_p1m (by decide) (by decide) ?_ | refine sm_get_p1n (by decide) rfl ?_ | refine sm_get_p2n (by decide) (by decide) rfl ?_ | refine sm_get_p2m (by decide) (by decide) (by decide) ?_)) ?_
  refine Bod.mulN (2 * ni) (by omega) dc_224_13 ?_
  refine Bod.ic 1 (by decide) dc_224_14 ?_
  refine Bod.addN (2 * ni + 1) (by omega) dc_224_15 ?_
  refine Bod.virt (r := []) dc_224_16 kr_224_70 ⟨Or.inr rfl, ow_132, cl_9⟩ (by rw [np_132]; rfl) (by rw [np_132]; rfl) (ob_of (mk_46 _)) (Nat.le_of_ble_eq_true rfl) (c1  ) ?_
  show Bod _ _ _ _ [_] _ _ _
  refine Bod.stat (r := []) dc_224_19 kr_224_174 (Or.inr rfl) (by rw [np_205]; rfl) (by rw [np_205]; rfl) (by rw [np_205]; exact Nat.le_of_ble_eq_true rfl) (Nat.le_of_ble_eq_true rfl) (c2  ) ?_
  show Bod _ _ _ _ [_] _ _ _
  refine Bod.ifT dc_224_22 rfl (k1_ne_T (k_ne 1 0 rfl rfl (by omega) (by omega) (by omega))) ?_
  refine Bod.incN (ni + 1) (by rw [kc_1, nI_add]) dc_224_27 (by rw [ml_224]; exact Nat.le_of_ble_eq_true rfl) (by repeat (first | exact q2 | exact sm_get_p1 | exact sm_get_p2e | refine sm_get_p1m (by decide) (by decide) ?_ | refine sm_get_p1n (by decide) rfl ?_ | refine sm_get_p2n (by decide) (by decide) rfl ?_ | refine sm_get_p2m (by decide) (by decide) (by decide) ?_)) ?_
  refine Bod.go dc_224_30 rfl ?_
  exact hB _ (by repeat (first | exact q0 | exact sm_get_p1 | exact sm_get_p2e | refine sm_get_p1m (by decide) (by decide) ?_ | refine sm_get_p1n (by decide) rfl ?_ | refine sm_get_p2n (by decide) (by decide) rfl ?_ | refine sm_get_p2m (by decide) (by decide) (by decide) ?_)) (by repeat (first | exact q1 | exact sm_get_p1 | exact sm_get_p2e | refine sm_get_p1m (by decide) (by decide) ?_ | refine sm_get_p1n (by decide) rfl ?_ | refine sm_get_p2n (by decide) (by decide) rfl ?_ | refine sm_get_p2m (by decide) (by decide) (by decide) ?_)) (by repeat (first | exact q0 | exact sm_get_p1 | exact sm_get_p2e | refine sm_get_p1m (by decide) (by decide) ?_ | refine sm_get_p1n (by decide) rfl ?_ | refine sm_get_p2n (by decide) (by decide) rfl ?_ | refine sm_get_p2m (by decide) (by decide) (by decide) ?_))
theorem mMdK_3 {d : Nat} {S : cS} {lv : sm_L} {nt : Nat} {ni : Nat} {S1 : cS} {u : Int64} {S2 : cS} (q0 : sm_get lv 0 = some (.ref 53)) (q1 : sm_get lv 1 = some (.int (nI nt))) (q2 : sm_get lv 2 = some (.int (nI ni))) (mnt : nt < 2 ^ 20) (mni : ni < 2 ^ 20) (b1 : ni < nt) (c1 : Ans (d + 8) 132 [.ref 46, .int (nI (2 * ni + 1))] S (some (.long u)) S1) (c2 : Ans (d + 8) 205 [.long u] S1 (some (.int (nI 0))) S2) : Bod (d + 8) 224 2 lv [] S (some (.int (nI 2))) (S2) := by
  refine Bod.ildnG dc_224_2 (by repeat (first | exact q2 | exact sm_get_p1 | exact sm_get_p2e | refine sm_get_p1m (by decide) (by decide) ?_ | refine sm_get_p1n (by decide) rfl ?_ | refine sm_get_p2n (by decide) (by decide) rfl ?_ | refine sm_get_p2m (by decide) (by decide) (by decide) ?_)) ?_
  refine Bod.ildnG dc_224_3 (by repeat (first | exact q1 | exact sm_get_p1 | exact sm_get_p2e | refine sm_get_p1m (by decide) (by decide) ?_ | refine sm_get_p1n (by decide) rfl ?_ | refine sm_get_p2n (by decide) (by decide) rfl ?_ | refine sm_get_p2m (by decide) (by decide) (by decide) ?_)) ?_
  refine Bod.icF dc_224_4 rfl (k2_ge_F ni nt rfl rfl (by omega) (by omega)) ?_
  refine Bod.aldnG dc_224_7 (by repeat (first | exact q0 | exact sm_get_p1 | exact sm_get_p2e | refine sm_get_p1m (by decide) (by decide) ?_ | refine sm_get_p1n (by decide) rfl ?_ | refine sm_get_p2n (by decide) (by decide) rfl ?_ | refine sm_get_p2m (by decide) (by decide) (by decide) ?_)) ?_
  refine Bod.get dc_224_8 fr_224_15 (mk_53 _) rfl ?_
  refine Bod.ic 2 (by decide) dc_224_11 ?_
  refine Bod.ildnG dc_224_12 (by repeat (first | exact q2 | exact sm_get_p1 | exact sm_get_p2e | refine sm_get_p1m (by decide) (by decide) ?_ | refine sm_get_p1n (by decide) rfl ?_ | refine sm_get_p2n (by decide) (by decide) rfl ?_ | refine sm_get_p2m (by decide) (by decide) (by decide) ?_)) ?_
  refine Bod.mulN (2 * ni) (by omega) dc_224_13 ?_
  refine Bod.ic 1 (by decide) dc_224_14 ?_
  refine Bod.addN (2 * ni + 1) (by omega) dc_224_15 ?_
  refine Bod.virt (r := []) dc_224_16 kr_224_70 ⟨Or.inr rfl, ow_132, cl_9⟩ (by rw [np_132]; rfl) (by rw [np_132]; rfl) (ob_of (mk_46 _)) (Nat.le_of_ble_eq_true rfl) (c1  ) ?_
  show Bod _ _ _ _ [_] _ _ _
  refine Bod.stat (r := []) dc_224_19 kr_224_174 (Or.inr rfl) (by rw [np_205]; rfl) (by rw [np_205]; rfl) (by rw [np_205]; exact Nat.le_of_ble_eq_true rfl) (Nat.le_of_ble_eq_true rfl) (c2  ) ?_
  show Bod _ _ _ _ [_] _ _ _
  refine Bod.ifF dc_224_22 rfl (k1_ne_F (k_eq 0 0 rfl rfl (by omega))) ?_
  refine Bod.ic 2 (by decide) dc_224_25 ?_
  exact Bod.retI dc_224_26 rt_224
theorem mMdC_1 {d : Nat} {S Sf : cS} {v : Option Value} {lv : sm_L} {nt : Nat} {S1 : cS} {a : Nat} (q0 : sm_get lv 0 = some (.ref 53)) (q1 : sm_get lv 1 = some (.int (nI (nt + 1)))) (mnt : nt < 2 ^ 20) (ma : a < 2 ^ 20) (c1 : Ans (d + 8) 178 [.ref 2, .int (nI 2)] S (some (.int (nI a))) S1) (b1 : a ≠ 0) (b2 : 1 ≤ nt + 1) (hB : ∀ lv1 : sm_L, sm_get lv1 0 = some (.ref 53) → sm_get lv1 1 = some (.int (nI (nt + 1))) → sm_get lv1 2 = some (.int (nI a)) → sm_get lv1 3 = some (.int (nI nt)) → Bod (d + 8) 224 53 lv1 [] (S1) v Sf) : Bod (d + 8) 224 33 lv [] S v Sf := by
  refine Bod.aldnG dc_224_33 (by repeat (first | exact q0 | exact sm_get_p1 | exact sm_get_p2e | refine sm_get_p1m (by decide) (by decide) ?_ | refine sm_get_p1n (by decide) rfl ?_ | refine sm_get_p2n (by decide) (by decide) rfl ?_ | refine sm_get_p2m (by decide) (by decide) (by decide) ?_)) ?_
  refine Bod.get dc_224_34 fr_224_9 (mk_53 _) rfl ?_
  refine Bod.ic 2 (by decide) dc_224_37 ?_
  refine Bod.virt (r := []) dc_224_38 kr_224_139 ⟨Or.inr rfl, ow_178, cl_2⟩ (by rw [np_178]; rfl) (by rw [np_178]; rfl) (ob_of (mk_2 _)) (Nat.le_of_ble_eq_true rfl) (c1  ) ?_
  show Bod _ _ _ _ [_] _ _ _
  refine Bod.istn dc_224_41 (by rw [ml_224]; exact Nat.le_of_ble_eq_true rfl) ?_
  refine Bod.ildnG dc_224_42 (by repeat (first | exact q0 | exact sm_get_p1 | exact sm_get_p2e | refine sm_get_p1m (by decide) (by decide) ?_ | refine sm_get_p1n (by decide) rfl ?_ | refine sm_get_p2n (by decide) (by decide) rfl ?_ | refine sm_get_p2m (by decide) (by decide) (by decide) ?_)) ?_
  refine Bod.ifT dc_224_43 rfl (k1_ne_T (k_ne a 0 rfl rfl (by omega) (by omega) (by omega))) ?_
  refine Bod.ildnG dc_224_49 (by repeat (first | exact q1 | exact sm_get_p1 | exact sm_get_p2e | refine sm_get_p1m (by decide) (by decide) ?_ | refine sm_get_p1n (by decide) rfl ?_ | refine sm_get_p2n (by decide) (by decide) rfl ?_ | refine sm_get_p2m (by decide) (by decide) (by decide) ?_)) ?_
  refine Bod.ic 1 (by decide) dc_224_50 ?_
  refine Bod.subN nt (by omega) (by omega) dc_224_51 ?_
  refine Bod.istn dc_224_52 (by rw [ml_224]; exact Nat.le_of_ble_eq_true rfl) ?_
  exact hB _ (by repeat (first | exact q0 | exact sm_get_p1 | exact sm_get_p2e | refine sm_get_p1m (by decide) (by decide) ?_ | refine sm_get_p1n (by decide) rfl ?_ | refine sm_get_p2n (by decide) (by decide) rfl ?_ | refine sm_get_p2m (by decide) (by decide) (by decide) ?_)) (by repeat (first | exact q1 | exact sm_get_p1 | exact sm_get_p2e | refine sm_get_p1m (by decide) (by decide) ?_ | refine sm_get_p1n (by decide) rfl ?_ | refine sm_get_p2n (by decide) (by decide) rfl ?_ | refine sm_get_p2m (by decide) (by decide) (by decide) ?_)) (by repeat (first | exact q0 | exact sm_get_p1 | exact sm_get_p2e | refine sm_get_p1m (by decide) (by decide) ?_ | refine sm_get_p1n (by decide) rfl ?_ | refine sm_get_p2n (by decide) (by decide) rfl ?_ | refine sm_get_p2m (by decide) (by decide) (by decide) ?_)) (by repeat (first | exact q0 | exact sm_get_p1 | exact sm_get_p2e | refine sm_get_p1m (by decide) (by decide) ?_ | refine sm_get_p1n (by decide) rfl ?_ | refine sm_get_p2n (by decide) (by decide) rfl ?_ | refine sm_get_p2m (by decide) (by decide) (by decide) ?_))
theorem mMdC_2 {d : Nat} {S : cS} {lv : sm_L} {nt : Nat} {S1 : cS} {a : Nat} (q0 : sm_get lv 0 = some (.ref 53)) (q1 : sm_get lv 1 = some (.int (nI (nt + 1)))) (mnt : nt < 2 ^ 20) (ma : a < 2 ^ 20) (c1 : Ans (d + 8) 178 [.ref 2, .int (nI 2)] S (some (.int (nI a))) S1) (b1 : a = 0) : Bod (d + 8) 224 33 lv [] S (some (.int (nI 8))) (S1) := by
  refine Bod.aldnG dc_224_33 (by repeat (first | exact q0 | exact sm_get_p1 | exact sm_get_p2e | refine sm_get_p1m (by decide) (by decide) ?_ | refine sm_get_p1n (by decide) rfl ?_ | refine sm_get_p2n (by decide) (by decide) rfl ?_ | refine sm_get_p2m (by decide) (by decide) (by decide) ?_)) ?_
  refine Bod.get dc_224_34 fr_224_9 (mk_53 _) rfl ?_
  refine Bod.ic 2 (by decide) dc_224_37 ?_
  refine Bod.virt (r := []) dc_224_38 kr_224_139 ⟨Or.inr rfl, ow_178, cl_2⟩ (by rw [np_178]; rfl) (by rw [np_178]; rfl) (ob_of (mk_2 _)) (Nat.le_of_ble_eq_true rfl) (c1  ) ?_
  show Bod _ _ _ _ [_] _ _ _
  refine Bod.istn dc_224_41 (by rw [ml_224]; exact Nat.le_of_ble_eq_true rfl) ?_
  refine Bod.ildnG dc_224_42 (by repeat (first | exact q0 | exact sm_get_p1 | exact sm_get_p2e | refine sm_get_p1m (by decide) (by decide) ?_ | refine sm_get_p1n (by decide) rfl ?_ | refine sm_get_p2n (by decide) (by decide) rfl ?_ | refine sm_get_p2m (by decide) (by decide) (by decide) ?_)) ?_
  refine Bod.ifF dc_224_43 rfl (k1_ne_F (k_eq a 0 rfl rfl (by omega))) ?_
  refine Bod.bip 8 (by decide) dc_224_46 ?_
  exact Bod.retI dc_224_48 rt_224
theorem mMdZ_1 {d : Nat} {S Sf : cS} {v : Option Value} {lv : sm_L} {S1 : cS} {a : Nat} (q0 : sm_get lv 0 = some (.ref 53)) (q1 : sm_get lv 1 = some (.int (nI 0))) (ma : a < 2 ^ 20) (c1 : Ans (d + 8) 178 [.ref 2, .int (nI 2)] S (some (.int (nI a))) S1) (b1 : a ≠ 0) (hB : ∀ lv1 : sm_L, sm_get lv1 0 = some (.ref 53) → sm_get lv1 1 = some (.int (nI 0)) → sm_get lv1 2 = some (.int (nI a)) → sm_get lv1 3 = some (.int (Int32.ofInt (-1))) → Bod (d + 8) 224 53 lv1 [] (S1) v Sf) : Bod (d + 8) 224 33 lv [] S v Sf := by
  refine Bod.aldnG dc_224_33 (by repeat (first | exact q0 | exact sm_get_p1 | exact sm_get_p2e | refine sm_get_p1m (by decide) (by decide) ?_ | refine sm_get_p1n (by decide) rfl ?_ | refine sm_get_p2n (by decide) (by decide) rfl ?_ | refine sm_get_p2m (by decide) (by decide) (by decide) ?_)) ?_
  refine Bod.get dc_224_34 fr_224_9 (mk_53 _) rfl ?_
  refine Bod.ic 2 (by decide) dc_224_37 ?_
  refine Bod.virt (r := []) dc_224_38 kr_224_139 ⟨Or.inr rfl, ow_178, cl_2⟩ (by rw [np_178]; rfl) (by rw [np_178]; rfl) (ob_of (mk_2 _)) (Nat.le_of_ble_eq_true rfl) (c1  ) ?_
  show Bod _ _ _ _ [_] _ _ _
  refine Bod.istn dc_224_41 (by rw [ml_224]; exact Nat.le_of_ble_eq_true rfl) ?_
  refine Bod.ildnG dc_224_42 (by repeat (first | exact q0 | exact sm_get_p1 | exact sm_get_p2e | refine sm_get_p1m (by decide) (by decide) ?_ | refine sm_get_p1n (by decide) rfl ?_ | refine sm_get_p2n (by decide) (by decide) rfl ?_ | refine sm_get_p2m (by decide) (by decide) (by decide) ?_)) ?_
  refine Bod.ifT dc_224_43 rfl (k1_ne_T (k_ne a 0 rfl rfl (by omega) (by omega) (by omega))) ?_
  refine Bod.ildnG dc_224_49 (by repeat (first | exact q1 | exact sm_get_p1 | exact sm_get_p2e | refine sm_get_p1m (by decide) (by decide) ?_ | refine sm_get_p1n (by decide) rfl ?_ | refine sm_get_p2n (by decide) (by decide) rfl ?_ | refine sm_get_p2m (by decide) (by decide) (by decide) ?_)) ?_
  refine Bod.ic 1 (by decide) dc_224_50 ?_
  refine Bod.subM dc_224_51 ?_
  refine Bod.istn dc_224_52 (by rw [ml_224]; exact Nat.le_of_ble_eq_true rfl) ?_
  exact hB _ (by repeat (first | exact q0 | exact sm_get_p1 | exact sm_get_p2e | refine sm_get_p1m (by decide) (by decide) ?_ | refine sm_get_p1n (by decide) rfl ?_ | refine sm_get_p2n (by decide) (by decide) rfl ?_ | refine sm_get_p2m (by decide) (by decide) (by decide) ?_)) (by repeat (first | exact q1 | exact sm_get_p1 | exact sm_get_p2e | refine sm_get_p1m (by decide) (by decide) ?_ | refine sm_get_p1n (by decide) rfl ?_ | refine sm_get_p2n (by decide) (by decide) rfl ?_ | refine sm_get_p2m (by decide) (by decide) (by decide) ?_)) (by repeat (first | exact q0 | exact sm_get_p1 | exact sm_get_p2e | refine sm_get_p1m (by decide) (by decide) ?_ | refine sm_get_p1n (by decide) rfl ?_ | refine sm_get_p2n (by decide) (by decide) rfl ?_ | refine sm_get_p2m (by decide) (by decide) (by decide) ?_)) (by repeat (first | exact q0 | exact sm_get_p1 | exact sm_get_p2e | refine sm_get_p1m (by decide) (by decide) ?_ | refine sm_get_p1n (by decide) rfl ?_ | refine sm_get_p2n (by decide) (by decide) rfl ?_ | refine sm_get_p2m (by decide) (by decide) (by decide) ?_))
theorem mMdZ_2 {d : Nat} {S : cS} {lv : sm_L} {S1 : cS} {a : Nat} (q0 : sm_get lv 0 = some (.ref 53)) (q1 : sm_get lv 1 = some (.int (nI 0))) (ma : a < 2 ^ 20) (c1 : Ans (d + 8) 178 [.ref 2, .int (nI 2)] S (some (.int (nI a))) S1) (b1 : a = 0) : Bod (d + 8) 224 33 lv [] S (some (.int (nI 8))) (S1) := by
  refine Bod.aldnG dc_224_33 (by repeat (first | exact q0 | exact sm_get_p1 | exact sm_get_p2e | refine sm_get_p1m (by decide) (by decide) ?_ | refine sm_get_p1n (by decide) rfl ?_ | refine sm_get_p2n (by decide) (by decide) rfl ?_ | refine sm_get_p2m (by decide) (by decide) (by decide) ?_)) ?_
  refine Bod.get dc_224_34 fr_224_9 (mk_53 _) rfl ?_
  refine Bod.ic 2 (by decide) dc_224_37 ?_
  refine Bod.virt (r := []) dc_224_38 kr_224_139 ⟨Or.inr rfl, ow_178, cl_2⟩ (by rw [np_178]; rfl) (by rw [np_178]; rfl) (ob_of (mk_2 _)) (Nat.le_of_ble_eq_true rfl) (c1  ) ?_
  show Bod _ _ _ _ [_] _ _ _
  refine Bod.istn dc_224_41 (by rw [ml_224]; exact Nat.le_of_ble_eq_true rfl) ?_
  refine Bod.ildnG dc_224_42 (by repeat (first | exact q0 | exact sm_get_p1 | exact sm_get_p2e | refine sm_get_p1m (by decide) (by decide) ?_ | refine sm_get_p1n (by decide) rfl ?_ | refine sm_get_p2n (by decide) (by decide) rfl ?_ | refine sm_get_p2m (by decide) (by decide) (by decide) ?_)) ?_
  refine Bod.ifF dc_224_43 rfl (k1_ne_F (k_eq a 0 rfl rfl (by omega))) ?_
  refine Bod.bip 8 (by decide) dc_224_46 ?_
  exact Bod.retI dc_224_48 rt_224
theorem mMdL_1 {d : Nat} {S Sf : cS} {v : Option Value} {lv : sm_L} {nt : Nat} {id : Nat} {ni : Nat} {S1 : cS} {u : Int64} {S2 : cS} {u1 : Int64} {S3 : cS} {rb : Int32} {S4 : cS} {u2 : Int64} {S5 : cS} {u3 : Int64} {S6 : cS} (q0 : sm_get lv 0 = some (.ref 53)) (q1 : sm_get lv 1 = some (.int (nI nt))) (q2 : sm_get lv 2 = some (.int (nI id))) (q3 : sm_get lv 3 = some (.int (nI (ni + 1)))) (mnt : nt < 2 ^ 20) (mid : id < 2 ^ 20) (mni : ni < 2 ^ 20) (c1 : Ans (d + 8) 132 [.ref 46, .int (nI (2 * ni + 3))] S (some (.long u)) S1) (c2 : Ans (d + 8) 135 [.ref 46, .int (nI (2 * ni + 3))] S1 (some (.long u1)) S2) (c3 : Ans (d + 8) 206 [.ref 2, .int (nI id), .long u, .long u1] S2 (some (.int rb)) S3) (w7 : sm_c1 .lt rb true false = true) (c4 : Ans (d + 8) 132 [.ref 46, .int (nI (2 * ni + 2))] S3 (some (.long u2)) S4) (c5 : Ans (d + 8) 135 [.ref 46, .int (nI (2 * ni + 2))] S4 (some (.long u3)) S5) (c6 : Ans (d + 8) 183 [.ref 2, .int (nI id), .long u, .long u1, .long u2, .long u3] S5 (some (.int (nI 1))) S6) (hB : ∀ lv1 : sm_L, sm_get lv1 0 = some (.ref 53) → sm_get lv1 1 = some (.int (nI nt)) → sm_get lv1 2 = some (.int (nI id)) → sm_get lv1 3 = some (.int (nI ni)) → Bod (d + 8) 224 53 lv1 [] (S6) v Sf) : Bod (d + 8) 224 53 lv [] S v Sf := by
  refine Bod.ildnG dc_224_53 (by repeat (first | exact q3 | exact sm_get_p1 | exact sm_get_p2e | refine sm_get_p1m (by decide) (by decide) ?_ | refine sm_get_p1n (by decide) rfl ?_ | refine sm_get_p2n (by decide) (by decide) rfl ?_ | refine sm_get_p2m (by decide) (by decide) (by decide) ?_)) ?_
  refine Bod.ifF dc_224_54 rfl (k1_lt_F (ni + 1) rfl (by omega)) ?_
  refine Bod.aldnG dc_224_57 (by repeat (first | exact q0 | exact sm_get_p1 | exact sm_get_p2e | refine sm_get_p1m (by decide) (by decide) ?_ | refine sm_get_p1n (by decide) rfl ?_ | refine sm_get_p2n (by decide) (by decide) rfl ?_ | refine sm_get_p2m (by decide) (by decide) (by decide) ?_)) ?_
  refine Bod.get dc_224_58 fr_224_15 (mk_53 _) rfl ?_
  refine Bod.ic 2 (by decide) dc_224_61 ?_
  refine Bod.ildnG dc_224_62 (by repeat (first | exact q3 | exact sm_get_p1 | exact sm_get_p2e | refine sm_get_p1m (by decide) (by decide) ?_ | refine sm_get_p1n (by decide) rfl ?_ | refine sm_get_p2n (by decide) (by decide) rfl ?_ | refine sm_get_p2m (by decide) (by decide) (by decide) ?_)) ?_
  refine Bod.mulN (2 * ni + 2) (by omega) dc_224_63 ?_
  refine Bod.ic 1 (by decide) dc_224_64 ?_
  refine Bod.addN (2 * ni + 3) (by omega) dc_224_65 ?_
  refine Bod.virt (r := []) dc_224_66 kr_224_70 ⟨Or.inr rfl, ow_132, cl_9⟩ (by rw [np_132]; rfl) (by rw [np_132]; rfl) (ob_of (mk_46 _)) (Nat.le_of_ble_eq_true rfl) (c1  ) ?_
  show Bod _ _ _ _ [_] _ _ _
  refine Bod.lst dc_224_69 (by rw [ml_224]; exact Nat.le_of_ble_eq_true rfl) ?_
  refine Bod.aldnG dc_224_71 (by repeat (first | exact q0 | exact sm_get_p1 | exact sm_get_p2e | refine sm_get_p1m (by decide) (by decide) ?_ | refine sm_get_p1n (by decide) rfl ?_ | refine sm_get_p2n (by decide) (by decide) rfl ?_ | refine sm_get_p2m (by decide) (by decide) (by decide) ?_)) ?_
  refine Bod.get dc_224_72 fr_224_15 (mk_53 _) rfl ?_
  refine Bod.ic 2 (by decide) dc_224_75 ?_
  refine Bod.ildnG dc_224_76 (by repeat (first | exact q3 | exact sm_get_p1 | exact sm_get_p2e | refine sm_get_p1m (by decide) (by decide) ?_ | refine sm_get_p1n (by decide) rfl ?_ | refine sm_get_p2n (by decide) (by decide) rfl ?_ | refine sm_get_p2m (by decide) (by decide) (by decide) ?_)) ?_
  refine Bod.mulN (2 * ni + 2) (by omega) dc_224_77 ?_
  refine Bod.ic 1 (by decide) dc_224_78 ?_
  refine Bod.addN (2 * ni + 3) (by omega) dc_224_79 ?_
  refine Bod.virt (r := []) dc_224_80 kr_224_111 ⟨Or.inr rfl, ow_135, cl_9⟩ (by rw [np_135]; rfl) (by rw [np_135]; rfl) (ob_of (mk_46 _)) (Nat.le_of_ble_eq_true rfl) (c2  ) ?_
  show Bod _ _ _ _ [_] _ _ _
  refine Bod.lst dc_224_83 (by rw [ml_224]; exact Nat.le_of_ble_eq_true rfl) ?_
  refine Bod.aldnG dc_224_85 (by repeat (first | exact q0 | exact sm_get_p1 | exact sm_get_p2e | refine sm_get_p1m (by decide) (by decide) ?_ | refine sm_get_p1n (by decide) rfl ?_ | refine sm_get_p2n (by decide) (by decide) rfl ?_ | refine sm_get_p2m (by decide) (by decide) (by decide) ?_)) ?_
  refine Bod.get dc_224_86 fr_224_9 (mk_53 _) rfl ?_
  refine Bod.ildnG dc_224_89 (by repeat (first | exact q2 | exact sm_get_p1 | exact sm_get_p2e | refine sm_get_p1m (by decide) (by decide) ?_ | refine sm_get_p1n (by decide) rfl ?_ | refine sm_get_p2n (by decide) (by decide) rfl ?_ | refine sm_get_p2m (by decide) (by decide) (by decide) ?_)) ?_
  refine Bod.lldG dc_224_90 (by repeat (first | exact q0 | exact sm_get_p1 | exact sm_get_p2e | refine sm_get_p1m (by decide) (by decide) ?_ | refine sm_get_p1n (by decide) rfl ?_ | refine sm_get_p2n (by decide) (by decide) rfl ?_ | refine sm_get_p2m (by decide) (by decide) (by decide) ?_)) ?_
  refine Bod.lldG dc_224_92 (by repeat (first | exact q0 | exact sm_get_p1 | exact sm_get_p2e | refine sm_get_p1m (by decide) (by decide) ?_ | refine sm_get_p1n (by decide) rfl ?_ | refine sm_get_p2n (by decide) (by decide) rfl ?_ | refine sm_get_p2m (by decide) (by decide) (by decide) ?_)) ?_
  refine Bod.virt (r := []) dc_224_94 kr_224_178 ⟨Or.inr rfl, ow_206, cl_2⟩ (by rw [np_206]; rfl) (by rw [np_206]; rfl) (ob_of (mk_2 _)) (Nat.le_of_ble_eq_true rfl) (c3  ) ?_
  show Bod _ _ _ _ [_] _ _ _
  refine Bod.ist dc_224_97 (by rw [ml_224]; exact Nat.le_of_ble_eq_true rfl) ?_
  refine Bod.ildG dc_224_99 (by repeat (first | exact q0 | exact sm_get_p1 | exact sm_get_p2e | refine sm_get_p1m (by decide) (by decide) ?_ | refine sm_get_p1n (by decide) rfl ?_ | refine sm_get_p2n (by decide) (by decide) rfl ?_ | refine sm_get_p2m (by decide) (by decide) (by decide) ?_)) ?_
  refine Bod.ifT dc_224_101 rfl w7 ?_
  refine Bod.aldnG dc_224_137 (by repeat (first | exact q0 | exact sm_get_p1 | exact sm_get_p2e | refine sm_get_p1m (by decide) (by decide) ?_ | refine sm_get_p1n (by decide) rfl ?_ | refine sm_get_p2n (by decide) (by decide) rfl ?_ | refine sm_get_p2m (by decide) (by decide) (by decide) ?_)) ?_
  refine Bod.get dc_224_138 fr_224_9 (mk_53 _) rfl ?_
  refine Bod.ildnG dc_224_141 (by repeat (first | exact q2 | exact sm_get_p1 | exact sm_get_p2e | refine sm_get_p1m (by decide) (by decide) ?_ | refine sm_get_p1n (by decide) rfl ?_ | refine sm_get_p2n (by decide) (by decide) rfl ?_ | refine sm_get_p2m (by decide) (by decide) (by decide) ?_)) ?_
  refine Bod.lldG dc_224_142 (by repeat (first | exact q0 | exact sm_get_p1 | exact sm_get_p2e | refine sm_get_p1m (by decide) (by decide) ?_ | refine sm_get_p1n (by decide) rfl ?_ | refine sm_get_p2n (by decide) (by decide) rfl ?_ | refine sm_get_p2m (by decide) (by decide) (by decide) ?_)) ?_
  refine Bod.lldG dc_224_144 (by repeat (first | exact q0 | exact sm_get_p1 | exact sm_get_p2e | refine sm_get_p1m (by decide) (by decide) ?_ | refine sm_get_p1n (by decide) rfl ?_ | refine sm_get_p2n (by decide) (by decide) rfl ?_ | refine sm_get_p2m (by decide) (by decide) (by decide) ?_)) ?_
  refine Bod.aldnG dc_224_146 (by repeat (first | exact q0 | exact sm_get_p1 | exact sm_get_p2e | refine sm_get_p1m (by decide) (by decide) ?_ | refine sm_get_p1n (by decide) rfl ?_ | refine sm_get_p2n (by decide) (by decide) rfl ?_ | refine sm_get_p2m (by decide) (by decide) (by decide) ?_)) ?_
  refine Bod.get dc_224_147 fr_224_15 (mk_53 _) rfl ?_
  refine Bod.ic 2 (by decide) dc_224_150 ?_
  refine Bod.ildnG dc_224_151 (by repeat (first | exact q3 | exact sm_get_p1 | exact sm_get_p2e | refine sm_get_p1m (by decide) (by decide) ?_ | refine sm_get_p1n (by decide) rfl ?_ | refine sm_get_p2n (by decide) (by decide) rfl ?_ | refine sm_get_p2m (by decide) (by decide) (by decide) ?_)) ?_
  refine Bod.mulN (2 * ni + 2) (by omega) dc_224_152 ?_
  refine Bod.virt (r := [_, _, _, _]) dc_224_153 kr_224_70 ⟨Or.inr rfl, ow_132, cl_9⟩ (by rw [np_132]; rfl) (by rw [np_132]; rfl) (ob_of (mk_46 _)) (Nat.le_of_ble_eq_true rfl) (c4  ) ?_
  show Bod _ _ _ _ [_, _, _, _, _] _ _ _
  refine Bod.aldnG dc_224_156 (by repeat (first | exact q0 | exact sm_get_p1 | exact sm_get_p2e | refine sm_get_p1m (by decide) (by decide) ?_ | refine sm_get_p1n (by decide) rfl ?_ | refine sm_get_p2n (by decide) (by decide) rfl ?_ | refine sm_get_p2m (by decide) (by decide) (by decide) ?_)) ?_
  refine Bod.get dc_224_157 fr_224_15 (mk_53 _) rfl ?_
  refine Bod.ic 2 (by decide) dc_224_160 ?_
  refine Bod.ildnG dc_224_161 (by repeat (first | exact q3 | exact sm_get_p1 | exact sm_get_p2e | refine sm_get_p1m (by decide) (by decide) ?_ | refine sm_get_p1n (by decide) rfl ?_ | refine sm_get_p2n (by decide) (by decide) rfl ?_ | refine sm_get_p2m (by decide) (by decide) (by decide) ?_)) ?_
  refine Bod.mulN (2 * ni + 2) (by omega) dc_224_162 ?_
  refine Bod.virt (r := [_, _, _, _, _]) dc_224_163 kr_224_111 ⟨Or.inr rfl, ow_135, cl_9⟩ (by rw [np_135]; rfl) (by rw [np_135]; rfl) (ob_of (mk_46 _)) (Nat.le_of_ble_eq_true rfl) (c5  ) ?_
  show Bod _ _ _ _ [_, _, _, _, _, _] _ _ _
  refine Bod.virt (r := []) dc_224_166 kr_224_201 ⟨Or.inr rfl, ow_183, cl_2⟩ (by rw [np_183]; rfl) (by rw [np_183]; rfl) (ob_of (mk_2 _)) (Nat.le_of_ble_eq_true rfl) (c6  ) ?_
  show Bod _ _ _ _ [_] _ _ _
  refine Bod.go dc_224_169 rfl ?_
  refine Bod.incN ni nI_dec dc_224_170 (by rw [ml_224]; exact Nat.le_of_ble_eq_true rfl) (by repeat (first | exact q3 | exact sm_get_p1 | exact sm_get_p2e | refine sm_get_p1m (by decide) (by decide) ?_ | refine sm_get_p1n (by decide) rfl ?_ | refine sm_get_p2n (by decide) (by decide) rfl ?_ | refine sm_get_p2m (by decide) (by decide) (by decide) ?_)) ?_
  refine Bod.go dc_224_173 rfl ?_
  exact hB _ (by repeat (first | exact q0 | exact sm_get_p1 | exact sm_get_p2e | refine sm_get_p1m (by decide) (by decide) ?_ | refine sm_get_p1n (by decide) rfl ?_ | refine sm_get_p2n (by decide) (by decide) rfl ?_ | refine sm_get_p2m (by decide) (by decide) (by decide) ?_)) (by repeat (first | exact q1 | exact sm_get_p1 | exact sm_get_p2e | refine sm_get_p1m (by decide) (by decide) ?_ | refine sm_get_p1n (by decide) rfl ?_ | refine sm_get_p2n (by decide) (by decide) rfl ?_ | refine sm_get_p2m (by decide) (by decide) (by decide) ?_)) (by repeat (first | exact q2 | exact sm_get_p1 | exact sm_get_p2e | refine sm_get_p1m (by decide) (by decide) ?_ | refine sm_get_p1n (by decide) rfl ?_ | refine sm_get_p2n (by decide) (by decide) rfl ?_ | refine sm_get_p2m (by decide) (by decide) (by decide) ?_)) (by repeat (first | exact q0 | exact sm_get_p1 | exact sm_get_p2e | refine sm_get_p1m (by decide) (by decide) ?_ | refine sm_get_p1n (by decide) rfl ?_ | refine sm_get_p2n (by decide) (by decide) rfl ?_ | refine sm_get_p2m (by decide) (by decide) (by decide) ?_))
theorem mMdL_2 {d : Nat} {S Sf : cS} {v : Option Value} {lv : sm_L} {nt : Nat} {id : Nat} {ni : Nat} {S1 : cS} {u : Int64} {S2 : cS} {u1 : Int64} {S3 : cS} {rb : Int32} {S4 : cS} {u2 : Int64} {S5 : cS} {u3 : Int64} {S6 : cS} (q0 : sm_get lv 0 = some (.ref 53)) (q1 : sm_get lv 1 = some (.int (nI nt))) (q2 : sm_get lv 2 = some (.int (nI id))) (q3 : sm_get lv 3 = some (.int (nI (ni + 1)))) (mnt : nt < 2 ^ 20) (mid : id < 2 ^ 20) (mni : ni < 2 ^ 20) (c1 : Ans (d + 8) 132 [.ref 46, .int (nI (2 * ni + 3))] S (some (.long u)) S1) (c2 : Ans (d + 8) 135 [.ref 46, .int (nI (2 * ni + 3))] S1 (some (.long u1)) S2) (c3 : Ans (d + 8) 206 [.ref 2, .int (nI id), .long u, .long u1] S2 (some (.int rb)) S3) (w7 : sm_c1 .lt rb true false = true) (c4 : Ans (d + 8) 132 [.ref 46, .int (nI (2 * ni + 2))] S3 (some (.long u2)) S4) (c5 : Ans (d + 8) 135 [.ref 46, .int (nI (2 * ni + 2))] S4 (some (.long u3)) S5) (c6 : Ans (d + 8) 183 [.ref 2, .int (nI id), .long u, .long u1, .long u2, .long u3] S5 (some (.int (nI 0))) S6) (hB : ∀ lv1 : sm_L, sm_get lv1 0 = some (.ref 53) → sm_get lv1 1 = some (.int (nI nt)) → sm_get lv1 2 = some (.int (nI id)) → sm_get lv1 3 = some (.int (nI ni)) → Bod (d + 8) 224 53 lv1 [] (S6) v Sf) : Bod (d + 8) 224 53 lv [] S v Sf := by
  refine Bod.ildnG dc_224_53 (by repeat (first | exact q3 | exact sm_get_p1 | exact sm_get_p2e | refine sm_get_p1m (by decide) (by decide) ?_ | refine sm_get_p1n (by decide) rfl ?_ | refine sm_get_p2n (by decide) (by decide) rfl ?_ | refine sm_get_p2m (by decide) (by decide) (by decide) ?_)) ?_
  refine Bod.ifF dc_224_54 rfl (k1_lt_F (ni + 1) rfl (by omega)) ?_
  refine Bod.aldnG dc_224_57 (by repeat (first | exact q0 | exact sm_get_p1 | exact sm_get_p2e | refine sm_get_p1m (by decide) (by decide) ?_ | refine sm_get_p1n (by decide) rfl ?_ | refine sm_get_p2n (by decide) (by decide) rfl ?_ | refine sm_get_p2m (by decide) (by decide) (by decide) ?_)) ?_
  refine Bod.get dc_224_58 fr_224_15 (mk_53 _) rfl ?_
  refine Bod.ic 2 (by decide) dc_224_61 ?_
  refine Bod.ildnG dc_224_62 (by repeat (first | exact q3 | exact sm_get_p1 | exact sm_get_p2e | refine sm_get_p1m (by decide) (by decide) ?_ | refine sm_get_p1n (by decide) rfl ?_ | refine sm_get_p2n (by decide) (by decide) rfl ?_ | refine sm_get_p2m (by decide) (by decide) (by decide) ?_)) ?_
  refine Bod.mulN (2 * ni + 2) (by omega) dc_224_63 ?_
  refine Bod.ic 1 (by decide) dc_224_64 ?_
  refine Bod.addN (2 * ni + 3) (by omega) dc_224_65 ?_
  refine Bod.virt (r := []) dc_224_66 kr_224_70 ⟨Or.inr rfl, ow_132, cl_9⟩ (by rw [np_132]; rfl) (by rw [np_132]; rfl) (ob_of (mk_46 _)) (Nat.le_of_ble_eq_true rfl) (c1  ) ?_
  show Bod _ _ _ _ [_] _ _ _
  refine Bod.lst dc_224_69 (by rw [ml_224]; exact Nat.le_of_ble_eq_true rfl) ?_
  refine Bod.aldnG dc_224_71 (by repeat (first | exact q0 | exact sm_get_p1 | exact sm_get_p2e | refine sm_get_p1m (by decide) (by decide) ?_ | refine sm_get_p1n (by decide) rfl ?_ | refine sm_get_p2n (by decide) (by decide) rfl ?_ | refine sm_get_p2m (by decide) (by decide) (by decide) ?_)) ?_
  refine Bod.get dc_224_72 fr_224_15 (mk_53 _) rfl ?_
  refine Bod.ic 2 (by decide) dc_224_75 ?_
  refine Bod.ildnG dc_224_76 (by repeat (first | exact q3 | exact sm_get_p1 | exact sm_get_p2e | refine sm_get_p1m (by decide) (by decide) ?_ | refine sm_get_p1n (by decide) rfl ?_ | refine sm_get_p2n (by decide) (by decide) rfl ?_ | refine sm_get_p2m (by decide) (by decide) (by decide) ?_)) ?_
  refine Bod.mulN (2 * ni + 2) (by omega) dc_224_77 ?_
  refine Bod.ic 1 (by decide) dc_224_78 ?_
  refine Bod.addN (2 * ni + 3) (by omega) dc_224_79 ?_
  refine Bod.virt (r := []) dc_224_80 kr_224_111 ⟨Or.inr rfl, ow_135, cl_9⟩ (by rw [np_135]; rfl) (by rw [np_135]; rfl) (ob_of (mk_46 _)) (Nat.le_of_ble_eq_true rfl) (c2  ) ?_
  show Bod _ _ _ _ [_] _ _ _
  refine Bod.lst dc_224_83 (by rw [ml_224]; exact Nat.le_of_ble_eq_true rfl) ?_
  refine Bod.aldnG dc_224_85 (by repeat (first | exact q0 | exact sm_get_p1 | exact sm_get_p2e | refine sm_get_p1m (by decide) (by decide) ?_ | refine sm_get_p1n (by decide) rfl ?_ | refine sm_get_p2n (by decide) (by decide) rfl ?_ | refine sm_get_p2m (by decide) (by decide) (by decide) ?_)) ?_
  refine Bod.get dc_224_86 fr_224_9 (mk_53 _) rfl ?_
  refine Bod.ildnG dc_224_89 (by repeat (first | exact q2 | exact sm_get_p1 | exact sm_get_p2e | refine sm_get_p1m (by decide) (by decide) ?_ | refine sm_get_p1n (by decide) rfl ?_ | refine sm_get_p2n (by decide) (by decide) rfl ?_ | refine sm_get_p2m (by decide) (by decide) (by decide) ?_)) ?_
  refine Bod.lldG dc_224_90 (by repeat (first | exact q0 | exact sm_get_p1 | exact sm_get_p2e | refine sm_get_p1m (by decide) (by decide) ?_ | refine sm_get_p1n (by decide) rfl ?_ | refine sm_get_p2n (by decide) (by decide) rfl ?_ | refine sm_get_p2m (by decide) (by decide) (by decide) ?_)) ?_
  refine Bod.lldG dc_224_92 (by repeat (first | exact q0 | exact sm_get_p1 | exact sm_get_p2e | refine sm_get_p1m (by decide) (by decide) ?_ | refine sm_get_p1n (by decide) rfl ?_ | refine sm_get_p2n (by decide) (by decide) rfl ?_ | refine sm_get_p2m (by decide) (by decide) (by decide) ?_)) ?_
  refine Bod.virt (r := []) dc_224_94 kr_224_178 ⟨Or.inr rfl, ow_206, cl_2⟩ (by rw [np_206]; rfl) (by rw [np_206]; rfl) (ob_of (mk_2 _)) (Nat.le_of_ble_eq_true rfl) (c3  ) ?_
  show Bod _ _ _ _ [_] _ _ _
  refine Bod.ist dc_224_97 (by rw [ml_224]; exact Nat.le_of_ble_eq_true rfl) ?_
  refine Bod.ildG dc_224_99 (by repeat (first | exact q0 | exact sm_get_p1 | exact sm_get_p2e | refine sm_get_p1m (by decide) (by decide) ?_ | refine sm_get_p1n (by decide) rfl ?_ | refine sm_get_p2n (by decide) (by decide) rfl ?_ | refine sm_get_p2m (by decide) (by decide) (by decide) ?_)) ?_
  refine Bod.ifT dc_224_101 rfl w7 ?_
  refine Bod.aldnG dc_224_137 (by repeat (first | exact q0 | exact sm_get_p1 | exact sm_get_p2e | refine sm_get_p1m (by decide) (by decide) ?_ | refine sm_get_p1n (by decide) rfl ?_ | refine sm_get_p2n (by decide) (by decide) rfl ?_ | refine sm_get_p2m (by decide) (by decide) (by decide) ?_)) ?_
  refine Bod.get dc_224_138 fr_224_9 (mk_53 _) rfl ?_
  refine Bod.ildnG dc_224_141 (by repeat (first | exact q2 | exact sm_get_p1 | exact sm_get_p2e | refine sm_get_p1m (by decide) (by decide) ?_ | refine sm_get_p1n (by decide) rfl ?_ | refine sm_get_p2n (by decide) (by decide) rfl ?_ | refine sm_get_p2m (by decide) (by decide) (by decide) ?_)) ?_
  refine Bod.lldG dc_224_142 (by repeat (first | exact q0 | exact sm_get_p1 | exact sm_get_p2e | refine sm_get_p1m (by decide) (by decide) ?_ | refine sm_get_p1n (by decide) rfl ?_ | refine sm_get_p2n (by decide) (by decide) rfl ?_ | refine sm_get_p2m (by decide) (by decide) (by decide) ?_)) ?_
  refine Bod.lldG dc_224_144 (by repeat (first | exact q0 | exact sm_get_p1 | exact sm_get_p2e | refine sm_get_p1m (by decide) (by decide) ?_ | refine sm_get_p1n (by decide) rfl ?_ | refine sm_get_p2n (by decide) (by decide) rfl ?_ | refine sm_get_p2m (by decide) (by decide) (by decide) ?_)) ?_
  refine Bod.aldnG dc_224_146 (by repeat (first | exact q0 | exact sm_get_p1 | exact sm_get_p2e | refine sm_get_p1m (by decide) (by decide) ?_ | refine sm_get_p1n (by decide) rfl ?_ | refine sm_get_p2n (by decide) (by decide) rfl ?_ | refine sm_get_p2m (by decide) (by decide) (by decide) ?_)) ?_
  refine Bod.get dc_224_147 fr_224_15 (mk_53 _) rfl ?_
  refine Bod.ic 2 (by decide) dc_224_150 ?_
  refine Bod.ildnG dc_224_151 (by repeat (first | exact q3 | exact sm_get_p1 | exact sm_get_p2e | refine sm_get_p1m (by decide) (by decide) ?_ | refine sm_get_p1n (by decide) rfl ?_ | refine sm_get_p2n (by decide) (by decide) rfl ?_ | refine sm_get_p2m (by decide) (by decide) (by decide) ?_)) ?_
  refine Bod.mulN (2 * ni + 2) (by omega) dc_224_152 ?_
  refine Bod.virt (r := [_, _, _, _]) dc_224_153 kr_224_70 ⟨Or.inr rfl, ow_132, cl_9⟩ (by rw [np_132]; rfl) (by rw [np_132]; rfl) (ob_of (mk_46 _)) (Nat.le_of_ble_eq_true rfl) (c4  ) ?_
  show Bod _ _ _ _ [_, _, _, _, _] _ _ _
  refine Bod.aldnG dc_224_156 (by repeat (first | exact q0 | exact sm_get_p1 | exact sm_get_p2e | refine sm_get_p1m (by decide) (by decide) ?_ | refine sm_get_p1n (by decide) rfl ?_ | refine sm_get_p2n (by decide) (by decide) rfl ?_ | refine sm_get_p2m (by decide) (by decide) (by decide) ?_)) ?_
  refine Bod.get dc_224_157 fr_224_15 (mk_53 _) rfl ?_
  refine Bod.ic 2 (by decide) dc_224_160 ?_
  refine Bod.ildnG dc_224_161 (by repeat (first | exact q3 | exact sm_get_p1 | exact sm_get_p2e | refine sm_get_p1m (by decide) (by decide) ?_ | refine sm_get_p1n (by decide) rfl ?_ | refine sm_get_p2n (by decide) (by decide) rfl ?_ | refine sm_get_p2m (by decide) (by decide) (by decide) ?_)) ?_
  refine Bod.mulN (2 * ni + 2) (by omega) dc_224_162 ?_
  refine Bod.virt (r := [_, _, _, _, _]) dc_224_163 kr_224_111 ⟨Or.inr rfl, ow_135, cl_9⟩ (by rw [np_135]; rfl) (by rw [np_135]; rfl) (ob_of (mk_46 _)) (Nat.le_of_ble_eq_true rfl) (c5  ) ?_
  show Bod _ _ _ _ [_, _, _, _, _, _] _ _ _
  refine Bod.virt (r := []) dc_224_166 kr_224_201 ⟨Or.inr rfl, ow_183, cl_2⟩ (by rw [np_183]; rfl) (by rw [np_183]; rfl) (ob_of (mk_2 _)) (Nat.le_of_ble_eq_true rfl) (c6  ) ?_
  show Bod _ _ _ _ [_] _ _ _
  refine Bod.go dc_224_169 rfl ?_
  refine Bod.incN ni nI_dec dc_224_170 (by rw [ml_224]; exact Nat.le_of_ble_eq_true rfl) (by repeat (first | exact q3 | exact sm_get_p1 | exact sm_get_p2e | refine sm_get_p1m (by decide) (by decide) ?_ | refine sm_get_p1n (by decide) rfl ?_ | refine sm_get_p2n (by decide) (by decide) rfl ?_ | refine sm_get_p2m (by decide) (by decide) (by decide) ?_)) ?_
  refine Bod.go dc_224_173 rfl ?_
  exact hB _ (by repeat (first | exact q0 | exact sm_get_p1 | exact sm_get_p2e | refine sm_get_p1m (by decide) (by decide) ?_ | refine sm_get_p1n (by decide) rfl ?_ | refine sm_get_p2n (by decide) (by decide) rfl ?_ | refine sm_get_p2m (by decide) (by decide) (by decide) ?_)) (by repeat (first | exact q1 | exact sm_get_p1 | exact sm_get_p2e | refine sm_get_p1m (by decide) (by decide) ?_ | refine sm_get_p1n (by decide) rfl ?_ | refine sm_get_p2n (by decide) (by decide) rfl ?_ | refine sm_get_p2m (by decide) (by decide) (by decide) ?_)) (by repeat (first | exact q2 | exact sm_get_p1 | exact sm_get_p2e | refine sm_get_p1m (by decide) (by decide) ?_ | refine sm_get_p1n (by decide) rfl ?_ | refine sm_get_p2n (by decide) (by decide) rfl ?_ | refine sm_get_p2m (by decide) (by decide) (by decide) ?_)) (by repeat (first | exact q0 | exact sm_get_p1 | exact sm_get_p2e | refine sm_get_p1m (by decide) (by decide) ?_ | refine sm_get_p1n (by decide) rfl ?_ | refine sm_get_p2n (by decide) (by decide) rfl ?_ | refine sm_get_p2m (by decide) (by decide) (by decide) ?_))
theorem mMdL_3 {d : Nat} {S Sf : cS} {v : Option Value} {lv : sm_L} {nt : Nat} {id : Nat} {ni : Nat} {S1 : cS} {u : Int64} {S2 : cS} {u1 : Int64} {S3 : cS} {rb : Int32} {S4 : cS} {u2 : Int64} {S5 : cS} {u3 : Int64} {S6 : cS} (q0 : sm_get lv 0 = some (.ref 53)) (q1 : sm_get lv 1 = some (.int (nI nt))) (q2 : sm_get lv 2 = some (.int (nI id))) (q3 : sm_get lv 3 = some (.int (nI (ni + 1)))) (mnt : nt < 2 ^ 20) (mid : id < 2 ^ 20) (mni : ni < 2 ^ 20) (c1 : Ans (d + 8) 132 [.ref 46, .int (nI (2 * ni + 3))] S (some (.long u)) S1) (c2 : Ans (d + 8) 135 [.ref 46, .int (nI (2 * ni + 3))] S1 (some (.long u1)) S2) (c3 : Ans (d + 8) 206 [.ref 2, .int (nI id), .long u, .long u1] S2 (some (.int rb)) S3) (w7 : sm_c1 .lt rb true false = false) (c4 : Ans (d + 8) 132 [.ref 46, .int (nI (2 * ni + 2))] S3 (some (.long u2)) S4) (c5 : Ans (d + 8) 135 [.ref 46, .int (nI (2 * ni + 2))] S4 (some (.long u3)) S5) (c6 : Ans (d + 8) 174 [.ref 2, .int (nI id), .int rb, .long u2, .long u3] S5 none S6) (hB : ∀ lv1 : sm_L, sm_get lv1 0 = some (.ref 53) → sm_get lv1 1 = some (.int (nI nt)) → sm_get lv1 2 = some (.int (nI id)) → sm_get lv1 3 = some (.int (nI ni)) → Bod (d + 8) 224 53 lv1 [] (S6) v Sf) : Bod (d + 8) 224 53 lv [] S v Sf := by
  refine Bod.ildnG dc_224_53 (by repeat (first | exact q3 | exact sm_get_p1 | exact sm_get_p2e | refine sm_get_p1m (by decide) (by decide) ?_ | refine sm_get_p1n (by decide) rfl ?_ | refine sm_get_p2n (by decide) (by decide) rfl ?_ | refine sm_get_p2m (by decide) (by decide) (by decide) ?_)) ?_
  refine Bod.ifF dc_224_54 rfl (k1_lt_F (ni + 1) rfl (by omega)) ?_
  refine Bod.aldnG dc_224_57 (by repeat (first | exact q0 | exact sm_get_p1 | exact sm_get_p2e | refine sm_get_p1m (by decide) (by decide) ?_ | refine sm_get_p1n (by decide) rfl ?_ | refine sm_get_p2n (by decide) (by decide) rfl ?_ | refine sm_get_p2m (by decide) (by decide) (by decide) ?_)) ?_
  refine Bod.get dc_224_58 fr_224_15 (mk_53 _) rfl ?_
  refine Bod.ic 2 (by decide) dc_224_61 ?_
  refine Bod.ildnG dc_224_62 (by repeat (first | exact q3 | exact sm_get_p1 | exact sm_get_p2e | refine sm_get_p1m (by decide) (by decide) ?_ | refine sm_get_p1n (by decide) rfl ?_ | refine sm_get_p2n (by decide) (by decide) rfl ?_ | refine sm_get_p2m (by decide) (by decide) (by decide) ?_)) ?_
  refine Bod.mulN (2 * ni + 2) (by omega) dc_224_63 ?_
  refine Bod.ic 1 (by decide) dc_224_64 ?_
  refine Bod.addN (2 * ni + 3) (by omega) dc_224_65 ?_
  refine Bod.virt (r := []) dc_224_66 kr_224_70 ⟨Or.inr rfl, ow_132, cl_9⟩ (by rw [np_132]; rfl) (by rw [np_132]; rfl) (ob_of (mk_46 _)) (Nat.le_of_ble_eq_true rfl) (c1  ) ?_
  show Bod _ _ _ _ [_] _ _ _
  refine Bod.lst dc_224_69 (by rw [ml_224]; exact Nat.le_of_ble_eq_true rfl) ?_
  refine Bod.aldnG dc_224_71 (by repeat (first | exact q0 | exact sm_get_p1 | exact sm_get_p2e | refine sm_get_p1m (by decide) (by decide) ?_ | refine sm_get_p1n (by decide) rfl ?_ | refine sm_get_p2n (by decide) (by decide) rfl ?_ | refine sm_get_p2m (by decide) (by decide) (by decide) ?_)) ?_
  refine Bod.get dc_224_72 fr_224_15 (mk_53 _) rfl ?_
  refine Bod.ic 2 (by decide) dc_224_75 ?_
  refine Bod.ildnG dc_224_76 (by repeat (first | exact q3 | exact sm_get_p1 | exact sm_get_p2e | refine sm_get_p1m (by decide) (by decide) ?_ | refine sm_get_p1n (by decide) rfl ?_ | refine sm_get_p2n (by decide) (by decide) rfl ?_ | refine sm_get_p2m (by decide) (by decide) (by decide) ?_)) ?_
  refine Bod.mulN (2 * ni + 2) (by omega) dc_224_77 ?_
  refine Bod.ic 1 (by decide) dc_224_78 ?_
  refine Bod.addN (2 * ni + 3) (by omega) dc_224_79 ?_
  refine Bod.virt (r := []) dc_224_80 kr_224_111 ⟨Or.inr rfl, ow_135, cl_9⟩ (by rw [np_135]; rfl) (by rw [np_135]; rfl) (ob_of (mk_46 _)) (Nat.le_of_ble_eq_true rfl) (c2  ) ?_
  show Bod _ _ _ _ [_] _ _ _
  refine Bod.lst dc_224_83 (by rw [ml_224]; exact Nat.le_of_ble_eq_true rfl) ?_
  refine Bod.aldnG dc_224_85 (by repeat (first | exact q0 | exact sm_get_p1 | exact sm_get_p2e | refine sm_get_p1m (by decide) (by decide) ?_ | refine sm_get_p1n (by decide) rfl ?_ | refine sm_get_p2n (by decide) (by decide) rfl ?_ | refine sm_get_p2m (by decide) (by decide) (by decide) ?_)) ?_
  refine Bod.get dc_224_86 fr_224_9 (mk_53 _) rfl ?_
  refine Bod.ildnG dc_224_89 (by repeat (first | exact q2 | exact sm_get_p1 | exact sm_get_p2e | refine sm_get_p1m (by decide) (by decide) ?_ | refine sm_get_p1n (by decide) rfl ?_ | refine sm_get_p2n (by decide) (by decide) rfl ?_ | refine sm_get_p2m (by decide) (by decide) (by decide) ?_)) ?_
  refine Bod.lldG dc_224_90 (by repeat (first | exact q0 | exact sm_get_p1 | exact sm_get_p2e | refine sm_get_p1m (by decide) (by decide) ?_ | refine sm_get_p1n (by decide) rfl ?_ | refine sm_get_p2n (by decide) (by decide) rfl ?_ | refine sm_get_p2m (by decide) (by decide) (by decide) ?_)) ?_
  refine Bod.lldG dc_224_92 (by repeat (first | exact q0 | exact sm_get_p1 | exact sm_get_p2e | refine sm_get_p1m (by decide) (by decide) ?_ | refine sm_get_p1n (by decide) rfl ?_ | refine sm_get_p2n (by decide) (by decide) rfl ?_ | refine sm_get_p2m (by decide) (by decide) (by decide) ?_)) ?_
  refine Bod.virt (r := []) dc_224_94 kr_224_178 ⟨Or.inr rfl, ow_206, cl_2⟩ (by rw [np_206]; rfl) (by rw [np_206]; rfl) (ob_of (mk_2 _)) (Nat.le_of_ble_eq_true rfl) (c3  ) ?_
  show Bod _ _ _ _ [_] _ _ _
  refine Bod.ist dc_224_97 (by rw [ml_224]; exact Nat.le_of_ble_eq_true rfl) ?_
  refine Bod.ildG dc_224_99 (by repeat (first | exact q0 | exact sm_get_p1 | exact sm_get_p2e | refine sm_get_p1m (by decide) (by decide) ?_ | refine sm_get_p1n (by decide) rfl ?_ | refine sm_get_p2n (by decide) (by decide) rfl ?_ | refine sm_get_p2m (by decide) (by decide) (by decide) ?_)) ?_
  refine Bod.ifF dc_224_101 rfl w7 ?_
  refine Bod.aldnG dc_224_104 (by repeat (first | exact q0 | exact sm_get_p1 | exact sm_get_p2e | refine sm_get_p1m (by decide) (by decide) ?_ | refine sm_get_p1n (by decide) rfl ?_ | refine sm_get_p2n (by decide) (by decide) rfl ?_ | refine sm_get_p2m (by decide) (by decide) (by decide) ?_)) ?_
  refine Bod.get dc_224_105 fr_224_9 (mk_53 _) rfl ?_
  refine Bod.ildnG dc_224_108 (by repeat (first | exact q2 | exact sm_get_p1 | exact sm_get_p2e | refine sm_get_p1m (by decide) (by decide) ?_ | refine sm_get_p1n (by decide) rfl ?_ | refine sm_get_p2n (by decide) (by decide) rfl ?_ | refine sm_get_p2m (by decide) (by decide) (by decide) ?_)) ?_
  refine Bod.ildG dc_224_109 (by repeat (first | exact q0 | exact sm_get_p1 | exact sm_get_p2e | refine sm_get_p1m (by decide) (by decide) ?_ | refine sm_get_p1n (by decide) rfl ?_ | refine sm_get_p2n (by decide) (by decide) rfl ?_ | refine sm_get_p2m (by decide) (by decide) (by decide) ?_)) ?_
  refine Bod.aldnG dc_224_111 (by repeat (first | exact q0 | exact sm_get_p1 | exact sm_get_p2e | refine sm_get_p1m (by decide) (by decide) ?_ | refine sm_get_p1n (by decide) rfl ?_ | refine sm_get_p2n (by decide) (by decide) rfl ?_ | refine sm_get_p2m (by decide) (by decide) (by decide) ?_)) ?_
  refine Bod.get dc_224_112 fr_224_15 (mk_53 _) rfl ?_
  refine Bod.ic 2 (by decide) dc_224_115 ?_
  refine Bod.ildnG dc_224_116 (by repeat (first | exact q3 | exact sm_get_p1 | exact sm_get_p2e | refine sm_get_p1m (by decide) (by decide) ?_ | refine sm_get_p1n (by decide) rfl ?_ | refine sm_get_p2n (by decide) (by decide) rfl ?_ | refine sm_get_p2m (by decide) (by decide) (by decide) ?_)) ?_
  refine Bod.mulN (2 * ni + 2) (by omega) dc_224_117 ?_
  refine Bod.virt (r := [_, _, _]) dc_224_118 kr_224_70 ⟨Or.inr rfl, ow_132, cl_9⟩ (by rw [np_132]; rfl) (by rw [np_132]; rfl) (ob_of (mk_46 _)) (Nat.le_of_ble_eq_true rfl) (c4  ) ?_
  show Bod _ _ _ _ [_, _, _, _] _ _ _
  refine Bod.aldnG dc_224_121 (by repeat (first | exact q0 | exact sm_get_p1 | exact sm_get_p2e | refine sm_get_p1m (by decide) (by decide) ?_ | refine sm_get_p1n (by decide) rfl ?_ | refine sm_get_p2n (by decide) (by decide) rfl ?_ | refine sm_get_p2m (by decide) (by decide) (by decide) ?_)) ?_
  refine Bod.get dc_224_122 fr_224_15 (mk_53 _) rfl ?_
  refine Bod.ic 2 (by decide) dc_224_125 ?_
  refine Bod.ildnG dc_224_126 (by repeat (first | exact q3 | exact sm_get_p1 | exact sm_get_p2e | refine sm_get_p1m (by decide) (by decide) ?_ | refine sm_get_p1n (by decide) rfl ?_ | refine sm_get_p2n (by decide) (by decide) rfl ?_ | refine sm_get_p2m (by decide) (by decide) (by decide) ?_)) ?_
  refine Bod.mulN (2 * ni + 2) (by omega) dc_224_127 ?_
  refine Bod.virt (r := [_, _, _, _]) dc_224_128 kr_224_111 ⟨Or.inr rfl, ow_135, cl_9⟩ (by rw [np_135]; rfl) (by rw [np_135]; rfl) (ob_of (mk_46 _)) (Nat.le_of_ble_eq_true rfl) (c5  ) ?_
  show Bod _ _ _ _ [_, _, _, _, _] _ _ _
  refine Bod.virt (r := []) dc_224_131 kr_224_197 ⟨Or.inr rfl, ow_174, cl_2⟩ (by rw [np_174]; rfl) (by rw [np_174]; rfl) (ob_of (mk_2 _)) (Nat.le_of_ble_eq_true rfl) (c6  ) ?_
  show Bod _ _ _ _ [] _ _ _
  refine Bod.go dc_224_134 rfl ?_
  refine Bod.incN ni nI_dec dc_224_170 (by rw [ml_224]; exact Nat.le_of_ble_eq_true rfl) (by repeat (first | exact q3 | exact sm_get_p1 | exact sm_get_p2e | refine sm_get_p1m (by decide) (by decide) ?_ | refine sm_get_p1n (by decide) rfl ?_ | refine sm_get_p2n (by decide) (by decide) rfl ?_ | refine sm_get_p2m (by decide) (by decide) (by decide) ?_)) ?_
  refine Bod.go dc_224_173 rfl ?_
  exact hB _ (by repeat (first | exact q0 | exact sm_get_p1 | exact sm_get_p2e | refine sm_get_p1m (by decide) (by decide) ?_ | refine sm_get_p1n (by decide) rfl ?_ | refine sm_get_p2n (by decide) (by decide) rfl ?_ | refine sm_get_p2m (by decide) (by decide) (by decide) ?_)) (by repeat (first | exact q1 | exact sm_get_p1 | exact sm_get_p2e | refine sm_get_p1m (by decide) (by decide) ?_ | refine sm_get_p1n (by decide) rfl ?_ | refine sm_get_p2n (by decide) (by decide) rfl ?_ | refine sm_get_p2m (by decide) (by decide) (by decide) ?_)) (by repeat (first | exact q2 | exact sm_get_p1 | exact sm_get_p2e | refine sm_get_p1m (by decide) (by decide) ?_ | refine sm_get_p1n (by decide) rfl ?_ | refine sm_get_p2n (by decide) (by decide) rfl ?_ | refine sm_get_p2m (by decide) (by decide) (by decide) ?_)) (by repeat (first | exact q0 | exact sm_get_p1 | exact sm_get_p2e | refine sm_get_p1m (by decide) (by decide) ?_ | refine sm_get_p1n (by decide) rfl ?_ | refine sm_get_p2n (by decide) (by decide) rfl ?_ | refine sm_get_p2m (by decide) (by decide) (by decide) ?_))
theorem mMdM_1 {d : Nat} {S Sf : cS} {v : Option Value} {lv : sm_L} {nt : Nat} {id : Nat} {S1 : cS} {u : Int64} {S2 : cS} {u1 : Int64} {S3 : cS} {rb : Int32} {S4 : cS} {u2 : Int64} {S5 : cS} {u3 : Int64} {S6 : cS} (q0 : sm_get lv 0 = some (.ref 53)) (q1 : sm_get lv 1 = some (.int (nI nt))) (q2 : sm_get lv 2 = some (.int (nI id))) (q3 : sm_get lv 3 = some (.int (nI 0))) (mnt : nt < 2 ^ 20) (mid : id < 2 ^ 20) (c1 : Ans (d + 8) 132 [.ref 46, .int (nI 1)] S (some (.long u)) S1) (c2 : Ans (d + 8) 135 [.ref 46, .int (nI 1)] S1 (some (.long u1)) S2) (c3 : Ans (d + 8) 206 [.ref 2, .int (nI id), .long u, .long u1] S2 (some (.int rb)) S3) (w6 : sm_c1 .lt rb true false = true) (c4 : Ans (d + 8) 132 [.ref 46, .int (nI 0)] S3 (some (.long u2)) S4) (c5 : Ans (d + 8) 135 [.ref 46, .int (nI 0)] S4 (some (.long u3)) S5) (c6 : Ans (d + 8) 183 [.ref 2, .int (nI id), .long u, .long u1, .long u2, .long u3] S5 (some (.int (nI 1))) S6) (hB : ∀ lv1 : sm_L, sm_get lv1 0 = some (.ref 53) → sm_get lv1 1 = some (.int (nI nt)) → sm_get lv1 2 = some (.int (nI id)) → sm_get lv1 3 = some (.int (Int32.ofInt (-1))) → Bod (d + 8) 224 53 lv1 [] (S6) v Sf) : Bod (d + 8) 224 53 lv [] S v Sf := by
  refine Bod.ildnG dc_224_53 (by repeat (first | exact q3 | exact sm_get_p1 | exact sm_get_p2e | refine sm_get_p1m (by decide) (by decide) ?_ | refine sm_get_p1n (by decide) rfl ?_ | refine sm_get_p2n (by decide) (by decide) rfl ?_ | refine sm_get_p2m (by decide) (by decide) (by decide) ?_)) ?_
  refine Bod.ifF dc_224_54 rfl (k1_lt_F 0 rfl (by omega)) ?_
  refine Bod.aldnG dc_224_57 (by repeat (first | exact q0 | exact sm_get_p1 | exact sm_get_p2e | refine sm_get_p1m (by decide) (by decide) ?_ | refine sm_get_p1n (by decide) rfl ?_ | refine sm_get_p2n (by decide) (by decide) rfl ?_ | refine sm_get_p2m (by decide) (by decide) (by decide) ?_)) ?_
  refine Bod.get dc_224_58 fr_224_15 (mk_53 _) rfl ?_
  refine Bod.ic 2 (by decide) dc_224_61 ?_
  refine Bod.ildnG dc_224_62 (by repeat (first | exact q3 | exact sm_get_p1 | exact sm_get_p2e | refine sm_get_p1m (by decide) (by decide) ?_ | refine sm_get_p1n (by decide) rfl ?_ | refine sm_get_p2n (by decide) (by decide) rfl ?_ | refine sm_get_p2m (by decide) (by decide) (by decide) ?_)) ?_
  refine Bod.mulN 0 (by omega) dc_224_63 ?_
  refine Bod.ic 1 (by decide) dc_224_64 ?_
  refine Bod.addN 1 (by omega) dc_224_65 ?_
  refine Bod.virt (r := []) dc_224_66 kr_224_70 ⟨Or.inr rfl, ow_132, cl_9⟩ (by rw [np_132]; rfl) (by rw [np_132]; rfl) (ob_of (mk_46 _)) (Nat.le_of_ble_eq_true rfl) (c1  ) ?_
  show Bod _ _ _ _ [_] _ _ _
  refine Bod.lst dc_224_69 (by rw [ml_224]; exact Nat.le_of_ble_eq_true rfl) ?_
  refine Bod.aldnG dc_224_71 (by repeat (first | exact q0 | exact sm_get_p1 | exact sm_get_p2e | refine sm_get_p1m (by decide) (by decide) ?_ | refine sm_get_p1n (by decide) rfl ?_ | refine sm_get_p2n (by decide) (by decide) rfl ?_ | refine sm_get_p2m (by decide) (by decide) (by decide) ?_)) ?_
  refine Bod.get dc_224_72 fr_224_15 (mk_53 _) rfl ?_
  refine Bod.ic 2 (by decide) dc_224_75 ?_
  refine Bod.ildnG dc_224_76 (by repeat (first | exact q3 | exact sm_get_p1 | exact sm_get_p2e | refine sm_get_p1m (by decide) (by decide) ?_ | refine sm_get_p1n (by decide) rfl ?_ | refine sm_get_p2n (by decide) (by decide) rfl ?_ | refine sm_get_p2m (by decide) (by decide) (by decide) ?_)) ?_
  refine Bod.mulN 0 (by omega) dc_224_77 ?_
  refine Bod.ic 1 (by decide) dc_224_78 ?_
  refine Bod.addN 1 (by omega) dc_224_79 ?_
  refine Bod.virt (r := []) dc_224_80 kr_224_111 ⟨Or.inr rfl, ow_135, cl_9⟩ (by rw [np_135]; rfl) (by rw [np_135]; rfl) (ob_of (mk_46 _)) (Nat.le_of_ble_eq_true rfl) (c2  ) ?_
  show Bod _ _ _ _ [_] _ _ _
  refine Bod.lst dc_224_83 (by rw [ml_224]; exact Nat.le_of_ble_eq_true rfl) ?_
  refine Bod.aldnG dc_224_85 (by repeat (first | exact q0 | exact sm_get_p1 | exact sm_get_p2e | refine sm_get_p1m (by decide) (by decide) ?_ | refine sm_get_p1n (by decide) rfl ?_ | refine sm_get_p2n (by decide) (by decide) rfl ?_ | refine sm_get_p2m (by decide) (by decide) (by decide) ?_)) ?_
  refine Bod.get dc_224_86 fr_224_9 (mk_53 _) rfl ?_
  refine Bod.ildnG dc_224_89 (by repeat (first | exact q2 | exact sm_get_p1 | exact sm_get_p2e | refine sm_get_p1m (by decide) (by decide) ?_ | refine sm_get_p1n (by decide) rfl ?_ | refine sm_get_p2n (by decide) (by decide) rfl ?_ | refine sm_get_p2m (by decide) (by decide) (by decide) ?_)) ?_
  refine Bod.lldG dc_224_90 (by repeat (first | exact q0 | exact sm_get_p1 | exact sm_get_p2e | refine sm_get_p1m (by decide) (by decide) ?_ | refine sm_get_p1n (by decide) rfl ?_ | refine sm_get_p2n (by decide) (by decide) rfl ?_ | refine sm_get_p2m (by decide) (by decide) (by decide) ?_)) ?_
  refine Bod.lldG dc_224_92 (by repeat (first | exact q0 | exact sm_get_p1 | exact sm_get_p2e | refine sm_get_p1m (by decide) (by decide) ?_ | refine sm_get_p1n (by decide) rfl ?_ | refine sm_get_p2n (by decide) (by decide) rfl ?_ | refine sm_get_p2m (by decide) (by decide) (by decide) ?_)) ?_
  refine Bod.virt (r := []) dc_224_94 kr_224_178 ⟨Or.inr rfl, ow_206, cl_2⟩ (by rw [np_206]; rfl) (by rw [np_206]; rfl) (ob_of (mk_2 _)) (Nat.le_of_ble_eq_true rfl) (c3  ) ?_
  show Bod _ _ _ _ [_] _ _ _
  refine Bod.ist dc_224_97 (by rw [ml_224]; exact Nat.le_of_ble_eq_true rfl) ?_
  refine Bod.ildG dc_224_99 (by repeat (first | exact q0 | exact sm_get_p1 | exact sm_get_p2e | refine sm_get_p1m (by decide) (by decide) ?_ | refine sm_get_p1n (by decide) rfl ?_ | refine sm_get_p2n (by decide) (by decide) rfl ?_ | refine sm_get_p2m (by decide) (by decide) (by decide) ?_)) ?_
  refine Bod.ifT dc_224_101 rfl w6 ?_
  refine Bod.aldnG dc_224_137 (by repeat (first | exact q0 | exact sm_get_p1 | exact sm_get_p2e | refine sm_get_p1m (by decide) (by decide) ?_ | refine sm_get_p1n (by decide) rfl ?_ | refine sm_get_p2n (by decide) (by decide) rfl ?_ | refine sm_get_p2m (by decide) (by decide) (by decide) ?_)) ?_
  refine Bod.get dc_224_138 fr_224_9 (mk_53 _) rfl ?_
  refine Bod.ildnG dc_224_141 (by repeat (first | exact q2 | exact sm_get_p1 | exact sm_get_p2e | refine sm_get_p1m (by decide) (by decide) ?_ | refine sm_get_p1n (by decide) rfl ?_ | refine sm_get_p2n (by decide) (by decide) rfl ?_ | refine sm_get_p2m (by decide) (by decide) (by decide) ?_)) ?_
  refine Bod.lldG dc_224_142 (by repeat (first | exact q0 | exact sm_get_p1 | exact sm_get_p2e | refine sm_get_p1m (by decide) (by decide) ?_ | refine sm_get_p1n (by decide) rfl ?_ | refine sm_get_p2n (by decide) (by decide) rfl ?_ | refine sm_get_p2m (by decide) (by decide) (by decide) ?_)) ?_
  refine Bod.lldG dc_224_144 (by repeat (first | exact q0 | exact sm_get_p1 | exact sm_get_p2e | refine sm_get_p1m (by decide) (by decide) ?_ | refine sm_get_p1n (by decide) rfl ?_ | refine sm_get_p2n (by decide) (by decide) rfl ?_ | refine sm_get_p2m (by decide) (by decide) (by decide) ?_)) ?_
  refine Bod.aldnG dc_224_146 (by repeat (first | exact q0 | exact sm_get_p1 | exact sm_get_p2e | refine sm_get_p1m (by decide) (by decide) ?_ | refine sm_get_p1n (by decide) rfl ?_ | refine sm_get_p2n (by decide) (by decide) rfl ?_ | refine sm_get_p2m (by decide) (by decide) (by decide) ?_)) ?_
  refine Bod.get dc_224_147 fr_224_15 (mk_53 _) rfl ?_
  refine Bod.ic 2 (by decide) dc_224_150 ?_
  refine Bod.ildnG dc_224_151 (by repeat (first | exact q3 | exact sm_get_p1 | exact sm_get_p2e | refine sm_get_p1m (by decide) (by decide) ?_ | refine sm_get_p1n (by decide) rfl ?_ | refine sm_get_p2n (by decide) (by decide) rfl ?_ | refine sm_get_p2m (by decide) (by decide) (by decide) ?_)) ?_
  refine Bod.mulN 0 (by omega) dc_224_152 ?_
  refine Bod.virt (r := [_, _, _, _]) dc_224_153 kr_224_70 ⟨Or.inr rfl, ow_132, cl_9⟩ (by rw [np_132]; rfl) (by rw [np_132]; rfl) (ob_of (mk_46 _)) (Nat.le_of_ble_eq_true rfl) (c4  ) ?_
  show Bod _ _ _ _ [_, _, _, _, _] _ _ _
  refine Bod.aldnG dc_224_156 (by repeat (first | exact q0 | exact sm_get_p1 | exact sm_get_p2e | refine sm_get_p1m (by decide) (by decide) ?_ | refine sm_get_p1n (by decide) rfl ?_ | refine sm_get_p2n (by decide) (by decide) rfl ?_ | refine sm_get_p2m (by decide) (by decide) (by decide) ?_)) ?_
  refine Bod.get dc_224_157 fr_224_15 (mk_53 _) rfl ?_
  refine Bod.ic 2 (by decide) dc_224_160 ?_
  refine Bod.ildnG dc_224_161 (by repeat (first | exact q3 | exact sm_get_p1 | exact sm_get_p2e | refine sm_get_p1m (by decide) (by decide) ?_ | refine sm_get_p1n (by decide) rfl ?_ | refine sm_get_p2n (by decide) (by decide) rfl ?_ | refine sm_get_p2m (by decide) (by decide) (by decide) ?_)) ?_
  refine Bod.mulN 0 (by omega) dc_224_162 ?_
  refine Bod.virt (r := [_, _, _, _, _]) dc_224_163 kr_224_111 ⟨Or.inr rfl, ow_135, cl_9⟩ (by rw [np_135]; rfl) (by rw [np_135]; rfl) (ob_of (mk_46 _)) (Nat.le_of_ble_eq_true rfl) (c5  ) ?_
  show Bod _ _ _ _ [_, _, _, _, _, _] _ _ _
  refine Bod.virt (r := []) dc_224_166 kr_224_201 ⟨Or.inr rfl, ow_183, cl_2⟩ (by rw [np_183]; rfl) (by rw [np_183]; rfl) (ob_of (mk_2 _)) (Nat.le_of_ble_eq_true rfl) (c6  ) ?_
  show Bod _ _ _ _ [_] _ _ _
  refine Bod.go dc_224_169 rfl ?_
  refine Bod.incM dc_224_170 (by rw [ml_224]; exact Nat.le_of_ble_eq_true rfl) (by repeat (first | exact q3 | exact sm_get_p1 | exact sm_get_p2e | refine sm_get_p1m (by decide) (by decide) ?_ | refine sm_get_p1n (by decide) rfl ?_ | refine sm_get_p2n (by decide) (by decide) rfl ?_ | refine sm_get_p2m (by decide) (by decide) (by decide) ?_)) ?_
  refine Bod.go dc_224_173 rfl ?_
  exact hB _ (by repeat (first | exact q0 | exact sm_get_p1 | exact sm_get_p2e | refine sm_get_p1m (by decide) (by decide) ?_ | refine sm_get_p1n (by decide) rfl ?_ | refine sm_get_p2n (by decide) (by decide) rfl ?_ | refine sm_get_p2m (by decide) (by decide) (by decide) ?_)) (by repeat (first | exact q1 | exact sm_get_p1 | exact sm_get_p2e | refine sm_get_p1m (by decide) (by decide) ?_ | refine sm_get_p1n (by decide) rfl ?_ | refine sm_get_p2n (by decide) (by decide) rfl ?_ | refine sm_get_p2m (by decide) (by decide) (by decide) ?_)) (by repeat (first | exact q2 | exact sm_get_p1 | exact sm_get_p2e | refine sm_get_p1m (by decide) (by decide) ?_ | refine sm_get_p1n (by decide) rfl ?_ | refine sm_get_p2n (by decide) (by decide) rfl ?_ | refine sm_get_p2m (by decide) (by decide) (by decide) ?_)) (by repeat (first | exact q0 | exact sm_get_p1 | exact sm_get_p2e | refine sm_get_p1m (by decide) (by decide) ?_ | refine sm_get_p1n (by decide) rfl ?_ | refine sm_get_p2n (by decide) (by decide) rfl ?_ | refine sm_get_p2m (by decide) (by decide) (by decide) ?_))
theorem mMdM_2 {d : Nat} {S Sf : cS} {v : Option Value} {lv : sm_L} {nt : Nat} {id : Nat} {S1 : cS} {u : Int64} {S2 : cS} {u1 : Int64} {S3 : cS} {rb : Int32} {S4 : cS} {u2 : Int64} {S5 : cS} {u3 : Int64} {S6 : cS} (q0 : sm_get lv 0 = some (.ref 53)) (q1 : sm_get lv 1 = some (.int (nI nt))) (q2 : sm_get lv 2 = some (.int (nI id))) (q3 : sm_get lv 3 = some (.int (nI 0))) (mnt : nt < 2 ^ 20) (mid : id < 2 ^ 20) (c1 : Ans (d + 8) 132 [.ref 46, .int (nI 1)] S (some (.long u)) S1) (c2 : Ans (d + 8) 135 [.ref 46, .int (nI 1)] S1 (some (.long u1)) S2) (c3 : Ans (d + 8) 206 [.ref 2, .int (nI id), .long u, .long u1] S2 (some (.int rb)) S3) (w6 : sm_c1 .lt rb true false = true) (c4 : Ans (d + 8) 132 [.ref 46, .int (nI 0)] S3 (some (.long u2)) S4) (c5 : Ans (d + 8) 135 [.ref 46, .int (nI 0)] S4 (some (.long u3)) S5) (c6 : Ans (d + 8) 183 [.ref 2, .int (nI id), .long u, .long u1, .long u2, .long u3] S5 (some (.int (nI 0))) S6) (hB : ∀ lv1 : sm_L, sm_get lv1 0 = some (.ref 53) → sm_get lv1 1 = some (.int (nI nt)) → sm_get lv1 2 = some (.int (nI id)) → sm_get lv1 3 = some (.int (Int32.ofInt (-1))) → Bod (d + 8) 224 53 lv1 [] (S6) v Sf) : Bod (d + 8) 224 53 lv [] S v Sf := by
  refine Bod.ildnG dc_224_53 (by repeat (first | exact q3 | exact sm_get_p1 | exact sm_get_p2e | refine sm_get_p1m (by decide) (by decide) ?_ | refine sm_get_p1n (by decide) rfl ?_ | refine sm_get_p2n (by decide) (by decide) rfl ?_ | refine sm_get_p2m (by decide) (by decide) (by decide) ?_)) ?_
  refine Bod.ifF dc_224_54 rfl (k1_lt_F 0 rfl (by omega)) ?_
  refine Bod.aldnG dc_224_57 (by repeat (first | exact q0 | exact sm_get_p1 | exact sm_get_p2e | refine sm_get_p1m (by decide) (by decide) ?_ | refine sm_get_p1n (by decide) rfl ?_ | refine sm_get_p2n (by decide) (by decide) rfl ?_ | refine sm_get_p2m (by decide) (by decide) (by decide) ?_)) ?_
  refine Bod.get dc_224_58 fr_224_15 (mk_53 _) rfl ?_
  refine Bod.ic 2 (by decide) dc_224_61 ?_
  refine Bod.ildnG dc_224_62 (by repeat (first | exact q3 | exact sm_get_p1 | exact sm_get_p2e | refine sm_get_p1m (by decide) (by decide) ?_ | refine sm_get_p1n (by decide) rfl ?_ | refine sm_get_p2n (by decide) (by decide) rfl ?_ | refine sm_get_p2m (by decide) (by decide) (by decide) ?_)) ?_
  refine Bod.mulN 0 (by omega) dc_224_63 ?_
  refine Bod.ic 1 (by decide) dc_224_64 ?_
  refine Bod.addN 1 (by omega) dc_224_65 ?_
  refine Bod.virt (r := []) dc_224_66 kr_224_70 ⟨Or.inr rfl, ow_132, cl_9⟩ (by rw [np_132]; rfl) (by rw [np_132]; rfl) (ob_of (mk_46 _)) (Nat.le_of_ble_eq_true rfl) (c1  ) ?_
  show Bod _ _ _ _ [_] _ _ _
  refine Bod.lst dc_224_69 (by rw [ml_224]; exact Nat.le_of_ble_eq_true rfl) ?_
  refine Bod.aldnG dc_224_71 (by repeat (first | exact q0 | exact sm_get_p1 | exact sm_get_p2e | refine sm_get_p1m (by decide) (by decide) ?_ | refine sm_get_p1n (by decide) rfl ?_ | refine sm_get_p2n (by decide) (by decide) rfl ?_ | refine sm_get_p2m (by decide) (by decide) (by decide) ?_)) ?_
  refine Bod.get dc_224_72 fr_224_15 (mk_53 _) rfl ?_
  refine Bod.ic 2 (by decide) dc_224_75 ?_
  refine Bod.ildnG dc_224_76 (by repeat (first | exact q3 | exact sm_get_p1 | exact sm_get_p2e | refine sm_get_p1m (by decide) (by decide) ?_ | refine sm_get_p1n (by decide) rfl ?_ | refine sm_get_p2n (by decide) (by decide) rfl ?_ | refine sm_get_p2m (by decide) (by decide) (by decide) ?_)) ?_
  refine Bod.mulN 0 (by omega) dc_224_77 ?_
  refine Bod.ic 1 (by decide) dc_224_78 ?_
  refine Bod.addN 1 (by omega) dc_224_79 ?_
  refine Bod.virt (r := []) dc_224_80 kr_224_111 ⟨Or.inr rfl, ow_135, cl_9⟩ (by rw [np_135]; rfl) (by rw [np_135]; rfl) (ob_of (mk_46 _)) (Nat.le_of_ble_eq_true rfl) (c2  ) ?_
  show Bod _ _ _ _ [_] _ _ _
  refine Bod.lst dc_224_83 (by rw [ml_224]; exact Nat.le_of_ble_eq_true rfl) ?_
  refine Bod.aldnG dc_224_85 (by repeat (first | exact q0 | exact sm_get_p1 | exact sm_get_p2e | refine sm_get_p1m (by decide) (by decide) ?_ | refine sm_get_p1n (by decide) rfl ?_ | refine sm_get_p2n (by decide) (by decide) rfl ?_ | refine sm_get_p2m (by decide) (by decide) (by decide) ?_)) ?_
  refine Bod.get dc_224_86 fr_224_9 (mk_53 _) rfl ?_
  refine Bod.ildnG dc_224_89 (by repeat (first | exact q2 | exact sm_get_p1 | exact sm_get_p2e | refine sm_get_p1m (by decide) (by decide) ?_ | refine sm_get_p1n (by decide) rfl ?_ | refine sm_get_p2n (by decide) (by decide) rfl ?_ | refine sm_get_p2m (by decide) (by decide) (by decide) ?_)) ?_
  refine Bod.lldG dc_224_90 (by repeat (first | exact q0 | exact sm_get_p1 | exact sm_get_p2e | refine sm_get_p1m (by decide) (by decide) ?_ | refine sm_get_p1n (by decide) rfl ?_ | refine sm_get_p2n (by decide) (by decide) rfl ?_ | refine sm_get_p2m (by decide) (by decide) (by decide) ?_)) ?_
  refine Bod.lldG dc_224_92 (by repeat (first | exact q0 | exact sm_get_p1 | exact sm_get_p2e | refine sm_get_p1m (by decide) (by decide) ?_ | refine sm_get_p1n (by decide) rfl ?_ | refine sm_get_p2n (by decide) (by decide) rfl ?_ | refine sm_get_p2m (by decide) (by decide) (by decide) ?_)) ?_
  refine Bod.virt (r := []) dc_224_94 kr_224_178 ⟨Or.inr rfl, ow_206, cl_2⟩ (by rw [np_206]; rfl) (by rw [np_206]; rfl) (ob_of (mk_2 _)) (Nat.le_of_ble_eq_true rfl) (c3  ) ?_
  show Bod _ _ _ _ [_] _ _ _
  refine Bod.ist dc_224_97 (by rw [ml_224]; exact Nat.le_of_ble_eq_true rfl) ?_
  refine Bod.ildG dc_224_99 (by repeat (first | exact q0 | exact sm_get_p1 | exact sm_get_p2e | refine sm_get_p1m (by decide) (by decide) ?_ | refine sm_get_p1n (by decide) rfl ?_ | refine sm_get_p2n (by decide) (by decide) rfl ?_ | refine sm_get_p2m (by decide) (by decide) (by decide) ?_)) ?_
  refine Bod.ifT dc_224_101 rfl w6 ?_
  refine Bod.aldnG dc_224_137 (by repeat (first | exact q0 | exact sm_get_p1 | exact sm_get_p2e | refine sm_get_p1m (by decide) (by decide) ?_ | refine sm_get_p1n (by decide) rfl ?_ | refine sm_get_p2n (by decide) (by decide) rfl ?_ | refine sm_get_p2m (by decide) (by decide) (by decide) ?_)) ?_
  refine Bod.get dc_224_138 fr_224_9 (mk_53 _) rfl ?_
  refine Bod.ildnG dc_224_141 (by repeat (first | exact q2 | exact sm_get_p1 | exact sm_get_p2e | refine sm_get_p1m (by decide) (by decide) ?_ | refine sm_get_p1n (by decide) rfl ?_ | refine sm_get_p2n (by decide) (by decide) rfl ?_ | refine sm_get_p2m (by decide) (by decide) (by decide) ?_)) ?_
  refine Bod.lldG dc_224_142 (by repeat (first | exact q0 | exact sm_get_p1 | exact sm_get_p2e | refine sm_get_p1m (by decide) (by decide) ?_ | refine sm_get_p1n (by decide) rfl ?_ | refine sm_get_p2n (by decide) (by decide) rfl ?_ | refine sm_get_p2m (by decide) (by decide) (by decide) ?_)) ?_
  refine Bod.lldG dc_224_144 (by repeat (first | exact q0 | exact sm_get_p1 | exact sm_get_p2e | refine sm_get_p1m (by decide) (by decide) ?_ | refine sm_get_p1n (by decide) rfl ?_ | refine sm_get_p2n (by decide) (by decide) rfl ?_ | refine sm_get_p2m (by decide) (by decide) (by decide) ?_)) ?_
  refine Bod.aldnG dc_224_146 (by repeat (first | exact q0 | exact sm_get_p1 | exact sm_get_p2e | refine sm_get_p1m (by decide) (by decide) ?_ | refine sm_get_p1n (by decide) rfl ?_ | refine sm_get_p2n (by decide) (by decide) rfl ?_ | refine sm_get_p2m (by decide) (by decide) (by decide) ?_)) ?_
  refine Bod.get dc_224_147 fr_224_15 (mk_53 _) rfl ?_
  refine Bod.ic 2 (by decide) dc_224_150 ?_
  refine Bod.ildnG dc_224_151 (by repeat (first | exact q3 | exact sm_get_p1 | exact sm_get_p2e | refine sm_get_p1m (by decide) (by decide) ?_ | refine sm_get_p1n (by decide) rfl ?_ | refine sm_get_p2n (by decide) (by decide) rfl ?_ | refine sm_get_p2m (by decide) (by decide) (by decide) ?_)) ?_
  refine Bod.mulN 0 (by omega) dc_224_152 ?_
  refine Bod.virt (r := [_, _, _, _]) dc_224_153 kr_224_70 ⟨Or.inr rfl, ow_132, cl_9⟩ (by rw [np_132]; rfl) (by rw [np_132]; rfl) (ob_of (mk_46 _)) (Nat.le_of_ble_eq_true rfl) (c4  ) ?_
  show Bod _ _ _ _ [_, _, _, _, _] _ _ _
  refine Bod.aldnG dc_224_156 (by repeat (first | exact q0 | exact sm_get_p1 | exact sm_get_p2e | refine sm_get_p1m (by decide) (by decide) ?_ | refine sm_get_p1n (by decide) rfl ?_ | refine sm_get_p2n (by decide) (by decide) rfl ?_ | refine sm_get_p2m (by decide) (by decide) (by decide) ?_)) ?_
  refine Bod.get dc_224_157 fr_224_15 (mk_53 _) rfl ?_
  refine Bod.ic 2 (by decide) dc_224_160 ?_
  refine Bod.ildnG dc_224_161 (by repeat (first | exact q3 | exact sm_get_p1 | exact sm_get_p2e | refine sm_get_p1m (by decide) (by decide) ?_ | refine sm_get_p1n (by decide) rfl ?_ | refine sm_get_p2n (by decide) (by decide) rfl ?_ | refine sm_get_p2m (by decide) (by decide) (by decide) ?_)) ?_
  refine Bod.mulN 0 (by omega) dc_224_162 ?_
  refine Bod.virt (r := [_, _, _, _, _]) dc_224_163 kr_224_111 ⟨Or.inr rfl, ow_135, cl_9⟩ (by rw [np_135]; rfl) (by rw [np_135]; rfl) (ob_of (mk_46 _)) (Nat.le_of_ble_eq_true rfl) (c5  ) ?_
  show Bod _ _ _ _ [_, _, _, _, _, _] _ _ _
  refine Bod.virt (r := []) dc_224_166 kr_224_201 ⟨Or.inr rfl, ow_183, cl_2⟩ (by rw [np_183]; rfl) (by rw [np_183]; rfl) (ob_of (mk_2 _)) (Nat.le_of_ble_eq_true rfl) (c6  ) ?_
  show Bod _ _ _ _ [_] _ _ _
  refine Bod.go dc_224_169 rfl ?_
  refine Bod.incM dc_224_170 (by rw [ml_224]; exact Nat.le_of_ble_eq_true rfl) (by repeat (first | exact q3 | exact sm_get_p1 | exact sm_get_p2e | refine sm_get_p1m (by decide) (by decide) ?_ | refine sm_get_p1n (by decide) rfl ?_ | refine sm_get_p2n (by decide) (by decide) rfl ?_ | refine sm_get_p2m (by decide) (by decide) (by decide) ?_)) ?_
  refine Bod.go dc_224_173 rfl ?_
  exact hB _ (by repeat (first | exact q0 | exact sm_get_p1 | exact sm_get_p2e | refine sm_get_p1m (by decide) (by decide) ?_ | refine sm_get_p1n (by decide) rfl ?_ | refine sm_get_p2n (by decide) (by decide) rfl ?_ | refine sm_get_p2m (by decide) (by decide) (by decide) ?_)) (by repeat (first | exact q1 | exact sm_get_p1 | exact sm_get_p2e | refine sm_get_p1m (by decide) (by decide) ?_ | refine sm_get_p1n (by decide) rfl ?_ | refine sm_get_p2n (by decide) (by decide) rfl ?_ | refine sm_get_p2m (by decide) (by decide) (by decide) ?_)) (by repeat (first | exact q2 | exact sm_get_p1 | exact sm_get_p2e | refine sm_get_p1m (by decide) (by decide) ?_ | refine sm_get_p1n (by decide) rfl ?_ | refine sm_get_p2n (by decide) (by decide) rfl ?_ | refine sm_get_p2m (by decide) (by decide) (by decide) ?_)) (by repeat (first | exact q0 | exact sm_get_p1 | exact sm_get_p2e | refine sm_get_p1m (by decide) (by decide) ?_ | refine sm_get_p1n (by decide) rfl ?_ | refine sm_get_p2n (by decide) (by decide) rfl ?_ | refine sm_get_p2m (by decide) (by decide) (by decide) ?_))
theorem mMdM_3 {d : Nat} {S Sf : cS} {v : Option Value} {lv : sm_L} {nt : Nat} {id : Nat} {S1 : cS} {u : Int64} {S2 : cS} {u1 : Int64} {S3 : cS} {rb : Int32} {S4 : cS} {u2 : Int64} {S5 : cS} {u3 : Int64} {S6 : cS} (q0 : sm_get lv 0 = some (.ref 53)) (q1 : sm_get lv 1 = some (.int (nI nt))) (q2 : sm_get lv 2 = some (.int (nI id))) (q3 : sm_get lv 3 = some (.int (nI 0))) (mnt : nt < 2 ^ 20) (mid : id < 2 ^ 20) (c1 : Ans (d + 8) 132 [.ref 46, .int (nI 1)] S (some (.long u)) S1) (c2 : Ans (d + 8) 135 [.ref 46, .int (nI 1)] S1 (some (.long u1)) S2) (c3 : Ans (d + 8) 206 [.ref 2, .int (nI id), .long u, .long u1] S2 (some (.int rb)) S3) (w6 : sm_c1 .lt rb true false = false) (c4 : Ans (d + 8) 132 [.ref 46, .int (nI 0)] S3 (some (.long u2)) S4) (c5 : Ans (d + 8) 135 [.ref 46, .int (nI 0)] S4 (some (.long u3)) S5) (c6 : Ans (d + 8) 174 [.ref 2, .int (nI id), .int rb, .long u2, .long u3] S5 none S6) (hB : ∀ lv1 : sm_L, sm_get lv1 0 = some (.ref 53) → sm_get lv1 1 = some (.int (nI nt)) → sm_get lv1 2 = some (.int (nI id)) → sm_get lv1 3 = some (.int (Int32.ofInt (-1))) → Bod (d + 8) 224 53 lv1 [] (S6) v Sf) : Bod (d + 8) 224 53 lv [] S v Sf := by
  refine Bod.ildnG dc_224_53 (by repeat (first | exact q3 | exact sm_get_p1 | exact sm_get_p2e | refine sm_get_p1m (by decide) (by decide) ?_ | refine sm_get_p1n (by decide) rfl ?_ | refine sm_get_p2n (by decide) (by decide) rfl ?_ | refine sm_get_p2m (by decide) (by decide) (by decide) ?_)) ?_
  refine Bod.ifF dc_224_54 rfl (k1_lt_F 0 rfl (by omega)) ?_
  refine Bod.aldnG dc_224_57 (by repeat (first | exact q0 | exact sm_get_p1 | exact sm_get_p2e | refine sm_get_p1m (by decide) (by decide) ?_ | refine sm_get_p1n (by decide) rfl ?_ | refine sm_get_p2n (by decide) (by decide) rfl ?_ | refine sm_get_p2m (by decide) (by decide) (by decide) ?_)) ?_
  refine Bod.get dc_224_58 fr_224_15 (mk_53 _) rfl ?_
  refine Bod.ic 2 (by decide) dc_224_61 ?_
  refine Bod.ildnG dc_224_62 (by repeat (first | exact q3 | exact sm_get_p1 | exact sm_get_p2e | refine sm_get_p1m (by decide) (by decide) ?_ | refine sm_get_p1n (by decide) rfl ?_ | refine sm_get_p2n (by decide) (by decide) rfl ?_ | refine sm_get_p2m (by decide) (by decide) (by decide) ?_)) ?_
  refine Bod.mulN 0 (by omega) dc_224_63 ?_
  refine Bod.ic 1 (by decide) dc_224_64 ?_
  refine Bod.addN 1 (by omega) dc_224_65 ?_
  refine Bod.virt (r := []) dc_224_66 kr_224_70 ⟨Or.inr rfl, ow_132, cl_9⟩ (by rw [np_132]; rfl) (by rw [np_132]; rfl) (ob_of (mk_46 _)) (Nat.le_of_ble_eq_true rfl) (c1  ) ?_
  show Bod _ _ _ _ [_] _ _ _
  refine Bod.lst dc_224_69 (by rw [ml_224]; exact Nat.le_of_ble_eq_true rfl) ?_
  refine Bod.aldnG dc_224_71 (by repeat (first | exact q0 | exact sm_get_p1 | exact sm_get_p2e | refine sm_get_p1m (by decide) (by decide) ?_ | refine sm_get_p1n (by decide) rfl ?_ | refine sm_get_p2n (by decide) (by decide) rfl ?_ | refine sm_get_p2m (by decide) (by decide) (by decide) ?_)) ?_
  refine Bod.get dc_224_72 fr_224_15 (mk_53 _) rfl ?_
  refine Bod.ic 2 (by decide) dc_224_75 ?_
  refine Bod.ildnG dc_224_76 (by repeat (first | exact q3 | exact sm_get_p1 | exact sm_get_p2e | refine sm_get_p1m (by decide) (by decide) ?_ | refine sm_get_p1n (by decide) rfl ?_ | refine sm_get_p2n (by decide) (by decide) rfl ?_ | refine sm_get_p2m (by decide) (by decide) (by decide) ?_)) ?_
  refine Bod.mulN 0 (by omega) dc_224_77 ?_
  refine Bod.ic 1 (by decide) dc_224_78 ?_
  refine Bod.addN 1 (by omega) dc_224_79 ?_
  refine Bod.virt (r := []) dc_224_80 kr_224_111 ⟨Or.inr rfl, ow_135, cl_9⟩ (by rw [np_135]; rfl) (by rw [np_135]; rfl) (ob_of (mk_46 _)) (Nat.le_of_ble_eq_true rfl) (c2  ) ?_
  show Bod _ _ _ _ [_] _ _ _
  refine Bod.lst dc_224_83 (by rw [ml_224]; exact Nat.le_of_ble_eq_true rfl) ?_
  refine Bod.aldnG dc_224_85 (by repeat (first | exact q0 | exact sm_get_p1 | exact sm_get_p2e | refine sm_get_p1m (by decide) (by decide) ?_ | refine sm_get_p1n (by decide) rfl ?_ | refine sm_get_p2n (by decide) (by decide) rfl ?_ | refine sm_get_p2m (by decide) (by decide) (by decide) ?_)) ?_
  refine Bod.get dc_224_86 fr_224_9 (mk_53 _) rfl ?_
  refine Bod.ildnG dc_224_89 (by repeat (first | exact q2 | exact sm_get_p1 | exact sm_get_p2e | refine sm_get_p1m (by decide) (by decide) ?_ | refine sm_get_p1n (by decide) rfl ?_ | refine sm_get_p2n (by decide) (by decide) rfl ?_ | refine sm_get_p2m (by decide) (by decide) (by decide) ?_)) ?_
  refine Bod.lldG dc_224_90 (by repeat (first | exact q0 | exact sm_get_p1 | exact sm_get_p2e | refine sm_get_p1m (by decide) (by decide) ?_ | refine sm_get_p1n (by decide) rfl ?_ | refine sm_get_p2n (by decide) (by decide) rfl ?_ | refine sm_get_p2m (by decide) (by decide) (by decide) ?_)) ?_
  refine Bod.lldG dc_224_92 (by repeat (first | exact q0 | exact sm_get_p1 | exact sm_get_p2e | refine sm_get_p1m (by decide) (by decide) ?_ | refine sm_get_p1n (by decide) rfl ?_ | refine sm_get_p2n (by decide) (by decide) rfl ?_ | refine sm_get_p2m (by decide) (by decide) (by decide) ?_)) ?_
  refine Bod.virt (r := []) dc_224_94 kr_224_178 ⟨Or.inr rfl, ow_206, cl_2⟩ (by rw [np_206]; rfl) (by rw [np_206]; rfl) (ob_of (mk_2 _)) (Nat.le_of_ble_eq_true rfl) (c3  ) ?_
  show Bod _ _ _ _ [_] _ _ _
  refine Bod.ist dc_224_97 (by rw [ml_224]; exact Nat.le_of_ble_eq_true rfl) ?_
  refine Bod.ildG dc_224_99 (by repeat (first | exact q0 | exact sm_get_p1 | exact sm_get_p2e | refine sm_get_p1m (by decide) (by decide) ?_ | refine sm_get_p1n (by decide) rfl ?_ | refine sm_get_p2n (by decide) (by decide) rfl ?_ | refine sm_get_p2m (by decide) (by decide) (by decide) ?_)) ?_
  refine Bod.ifF dc_224_101 rfl w6 ?_
  refine Bod.aldnG dc_224_104 (by repeat (first | exact q0 | exact sm_get_p1 | exact sm_get_p2e | refine sm_get_p1m (by decide) (by decide) ?_ | refine sm_get_p1n (by decide) rfl ?_ | refine sm_get_p2n (by decide) (by decide) rfl ?_ | refine sm_get_p2m (by decide) (by decide) (by decide) ?_)) ?_
  refine Bod.get dc_224_105 fr_224_9 (mk_53 _) rfl ?_
  refine Bod.ildnG dc_224_108 (by repeat (first | exact q2 | exact sm_get_p1 | exact sm_get_p2e | refine sm_get_p1m (by decide) (by decide) ?_ | refine sm_get_p1n (by decide) rfl ?_ | refine sm_get_p2n (by decide) (by decide) rfl ?_ | refine sm_get_p2m (by decide) (by decide) (by decide) ?_)) ?_
  refine Bod.ildG dc_224_109 (by repeat (first | exact q0 | exact sm_get_p1 | exact sm_get_p2e | refine sm_get_p1m (by decide) (by decide) ?_ | refine sm_get_p1n (by decide) rfl ?_ | refine sm_get_p2n (by decide) (by decide) rfl ?_ | refine sm_get_p2m (by decide) (by decide) (by decide) ?_)) ?_
  refine Bod.aldnG dc_224_111 (by repeat (first | exact q0 | exact sm_get_p1 | exact sm_get_p2e | refine sm_get_p1m (by decide) (by decide) ?_ | refine sm_get_p1n (by decide) rfl ?_ | refine sm_get_p2n (by decide) (by decide) rfl ?_ | refine sm_get_p2m (by decide) (by decide) (by decide) ?_)) ?_
  refine Bod.get dc_224_112 fr_224_15 (mk_53 _) rfl ?_
  refine Bod.ic 2 (by decide) dc_224_115 ?_
  refine Bod.ildnG dc_224_116 (by repeat (first | exact q3 | exact sm_get_p1 | exact sm_get_p2e | refine sm_get_p1m (by decide) (by decide) ?_ | refine sm_get_p1n (by decide) rfl ?_ | refine sm_get_p2n (by decide) (by decide) rfl ?_ | refine sm_get_p2m (by decide) (by decide) (by decide) ?_)) ?_
  refine Bod.mulN 0 (by omega) dc_224_117 ?_
  refine Bod.virt (r := [_, _, _]) dc_224_118 kr_224_70 ⟨Or.inr rfl, ow_132, cl_9⟩ (by rw [np_132]; rfl) (by rw [np_132]; rfl) (ob_of (mk_46 _)) (Nat.le_of_ble_eq_true rfl) (c4  ) ?_
  show Bod _ _ _ _ [_, _, _, _] _ _ _
  refine Bod.aldnG dc_224_121 (by repeat (first | exact q0 | exact sm_get_p1 | exact sm_get_p2e | refine sm_get_p1m (by decide) (by decide) ?_ | refine sm_get_p1n (by decide) rfl ?_ | refine sm_get_p2n (by decide) (by decide) rfl ?_ | refine sm_get_p2m (by decide) (by decide) (by decide) ?_)) ?_
  refine Bod.get dc_224_122 fr_224_15 (mk_53 _) rfl ?_
  refine Bod.ic 2 (by decide) dc_224_125 ?_
  refine Bod.ildnG dc_224_126 (by repeat (first | exact q3 | exact sm_get_p1 | exact sm_get_p2e | refine sm_get_p1m (by decide) (by decide) ?_ | refine sm_get_p1n (by decide) rfl ?_ | refine sm_get_p2n (by decide) (by decide) rfl ?_ | refine sm_get_p2m (by decide) (by decide) (by decide) ?_)) ?_
  refine Bod.mulN 0 (by omega) dc_224_127 ?_
  refine Bod.virt (r := [_, _, _, _]) dc_224_128 kr_224_111 ⟨Or.inr rfl, ow_135, cl_9⟩ (by rw [np_135]; rfl) (by rw [np_135]; rfl) (ob_of (mk_46 _)) (Nat.le_of_ble_eq_true rfl) (c5  ) ?_
  show Bod _ _ _ _ [_, _, _, _, _] _ _ _
  refine Bod.virt (r := []) dc_224_131 kr_224_197 ⟨Or.inr rfl, ow_174, cl_2⟩ (by rw [np_174]; rfl) (by rw [np_174]; rfl) (ob_of (mk_2 _)) (Nat.le_of_ble_eq_true rfl) (c6  ) ?_
  show Bod _ _ _ _ [] _ _ _
  refine Bod.go dc_224_134 rfl ?_
  refine Bod.incM dc_224_170 (by rw [ml_224]; exact Nat.le_of_ble_eq_true rfl) (by repeat (first | exact q3 | exact sm_get_p1 | exact sm_get_p2e | refine sm_get_p1m (by decide) (by decide) ?_ | refine sm_get_p1n (by decide) rfl ?_ | refine sm_get_p2n (by decide) (by decide) rfl ?_ | refine sm_get_p2m (by decide) (by decide) (by decide) ?_)) ?_
  refine Bod.go dc_224_173 rfl ?_
  exact hB _ (by repeat (first | exact q0 | exact sm_get_p1 | exact sm_get_p2e | refine sm_get_p1m (by decide) (by decide) ?_ | refine sm_get_p1n (by decide) rfl ?_ | refine sm_get_p2n (by decide) (by decide) rfl ?_ | refine sm_get_p2m (by decide) (by decide) (by decide) ?_)) (by repeat (first | exact q1 | exact sm_get_p1 | exact sm_get_p2e | refine sm_get_p1m (by decide) (by decide) ?_ | refine sm_get_p1n (by decide) rfl ?_ | refine sm_get_p2n (by decide) (by decide) rfl ?_ | refine sm_get_p2m (by decide) (by decide) (by decide) ?_)) (by repeat (first | exact q2 | exact sm_get_p1 | exact sm_get_p2e | refine sm_get_p1m (by decide) (by decide) ?_ | refine sm_get_p1n (by decide) rfl ?_ | refine sm_get_p2n (by decide) (by decide) rfl ?_ | refine sm_get_p2m (by decide) (by decide) (by decide) ?_)) (by repeat (first | exact q0 | exact sm_get_p1 | exact sm_get_p2e | refine sm_get_p1m (by decide) (by decide) ?_ | refine sm_get_p1n (by decide) rfl ?_ | refine sm_get_p2n (by decide) (by decide) rfl ?_ | refine sm_get_p2m (by decide) (by decide) (by decide) ?_))
theorem mMdE_1 {d : Nat} {S : cS} {lv : sm_L} {nt : Nat} {id : Nat} {S1 : cS} {rb : Int32} (q0 : sm_get lv 0 = some (.ref 53)) (q1 : sm_get lv 1 = some (.int (nI nt))) (q2 : sm_get lv 2 = some (.int (nI id))) (q3 : sm_get lv 3 = some (.int (Int32.ofInt (-1)))) (mnt : nt < 2 ^ 20) (mid : id < 2 ^ 20) (c1 : Ans (d + 8) 148 [.ref 46, .int (nI (2 * nt)), .long ((4611686018427387904)), .long ((nI id).toInt64)] S (some (.int rb)) S1) : Bod (d + 8) 224 53 lv [] S (some (.int rb)) (S1) := by
  refine Bod.ildnG dc_224_53 (by repeat (first | exact q3 | exact sm_get_p1 | exact sm_get_p2e | refine sm_get_p1m (by decide) (by decide) ?_ | refine sm_get_p1n (by decide) rfl ?_ | refine sm_get_p2n (by decide) (by decide) rfl ?_ | refine sm_get_p2m (by decide) (by decide) (by decide) ?_)) ?_
  refine Bod.ifT dc_224_54 rfl (by decide) ?_
  refine Bod.aldnG dc_224_176 (by repeat (first | exact q0 | exact sm_get_p1 | exact sm_get_p2e | refine sm_get_p1m (by decide) (by decide) ?_ | refine sm_get_p1n (by decide) rfl ?_ | refine sm_get_p2n (by decide) (by decide) rfl ?_ | refine sm_get_p2m (by decide) (by decide) (by decide) ?_)) ?_
  refine Bod.get dc_224_177 fr_224_15 (mk_53 _) rfl ?_
  refine Bod.ic 2 (by decide) dc_224_180 ?_
  refine Bod.ildnG dc_224_181 (by repeat (first | exact q1 | exact sm_get_p1 | exact sm_get_p2e | refine sm_get_p1m (by decide) (by decide) ?_ | refine sm_get_p1n (by decide) rfl ?_ | refine sm_get_p2n (by decide) (by decide) rfl ?_ | refine sm_get_p2m (by decide) (by decide) (by decide) ?_)) ?_
  refine Bod.mulN (2 * nt) (by omega) dc_224_182 ?_
  refine Bod.ldc2 dc_224_183 cj_224_146 ?_
  refine Bod.ildnG dc_224_186 (by repeat (first | exact q2 | exact sm_get_p1 | exact sm_get_p2e | refine sm_get_p1m (by decide) (by decide) ?_ | refine sm_get_p1n (by decide) rfl ?_ | refine sm_get_p2n (by decide) (by decide) rfl ?_ | refine sm_get_p2m (by decide) (by decide) (by decide) ?_)) ?_
  refine Bod.go dc_224_187 rfl ?_
  refine Bod.virt (r := []) dc_224_188 kr_224_31 ⟨Or.inr rfl, ow_148, cl_9⟩ (by rw [np_148]; rfl) (by rw [np_148]; rfl) (ob_of (mk_46 _)) (Nat.le_of_ble_eq_true rfl) (c1  ) ?_
  show Bod _ _ _ _ [_] _ _ _
  exact Bod.retI dc_224_191 rt_224
