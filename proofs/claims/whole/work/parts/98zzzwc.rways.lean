/-! WAYS of the reference's statements: every call is a hypothesis -/
theorem ml_333 : sm_ml 333 = 6 := by decide +kernel
theorem dc_333_0 : decode (sm_cc 333) 0 = .ok (.aload_n 0, 1) := by decide +kernel
theorem dc_333_1 : decode (sm_cc 333) 1 = .ok (.getfield 251, 3) := by decide +kernel
theorem fr_333_251 : sm_at mt_f (sm_ow 333) 251 = some (251, 14, 34, 0, 2107) := by decide +kernel
theorem dc_333_4 : decode (sm_cc 333) 4 = .ok (.istore_n 2, 1) := by decide +kernel
theorem dc_333_5 : decode (sm_cc 333) 5 = .ok (.iconst 1, 1) := by decide +kernel
theorem dc_333_6 : decode (sm_cc 333) 6 = .ok (.istore_n 3, 1) := by decide +kernel
theorem dc_333_7 : decode (sm_cc 333) 7 = .ok (.iload_n 3, 1) := by decide +kernel
theorem dc_333_8 : decode (sm_cc 333) 8 = .ok (.ifCond .eq (197), 3) := by decide +kernel
theorem dc_333_11 : decode (sm_cc 333) 11 = .ok (.aload_n 0, 1) := by decide +kernel
theorem dc_333_12 : decode (sm_cc 333) 12 = .ok (.dup, 1) := by decide +kernel
theorem dc_333_13 : decode (sm_cc 333) 13 = .ok (.getfield 190, 3) := by decide +kernel
theorem fr_333_190 : sm_at mt_f (sm_ow 333) 190 = some (190, 14, 15, 0, 2088) := by decide +kernel
theorem dc_333_16 : decode (sm_cc 333) 16 = .ok (.iconst 1, 1) := by decide +kernel
theorem dc_333_17 : decode (sm_cc 333) 17 = .ok (.iadd, 1) := by decide +kernel
theorem dc_333_18 : decode (sm_cc 333) 18 = .ok (.putfield 190, 3) := by decide +kernel
theorem dc_333_21 : decode (sm_cc 333) 21 = .ok (.aload_n 0, 1) := by decide +kernel
theorem dc_333_22 : decode (sm_cc 333) 22 = .ok (.iconst 0, 1) := by decide +kernel
theorem dc_333_23 : decode (sm_cc 333) 23 = .ok (.invokevirtual 302, 3) := by decide +kernel
theorem kr_333_302 : sm_at mt_k (sm_ow 333) 302 = some (302, 0, 306, 0, 2482) := by decide +kernel
theorem dc_333_26 : decode (sm_cc 333) 26 = .ok (.ifCond .ne (5), 3) := by decide +kernel
theorem dc_333_31 : decode (sm_cc 333) 31 = .ok (.aload_n 0, 1) := by decide +kernel
theorem dc_333_32 : decode (sm_cc 333) 32 = .ok (.bipush (12), 2) := by decide +kernel
theorem dc_333_34 : decode (sm_cc 333) 34 = .ok (.invokevirtual 305, 3) := by decide +kernel
theorem kr_333_305 : sm_at mt_k (sm_ow 333) 305 = some (305, 0, 325, 0, 2559) := by decide +kernel
theorem dc_333_37 : decode (sm_cc 333) 37 = .ok (.istore 4, 2) := by decide +kernel
theorem dc_333_39 : decode (sm_cc 333) 39 = .ok (.aload_n 0, 1) := by decide +kernel
theorem dc_333_40 : decode (sm_cc 333) 40 = .ok (.iload_n 1, 1) := by decide +kernel
theorem dc_333_41 : decode (sm_cc 333) 41 = .ok (.iconst 0, 1) := by decide +kernel
theorem dc_333_42 : decode (sm_cc 333) 42 = .ok (.invokevirtual 309, 3) := by decide +kernel
theorem ow_334 : 14 = sm_ow 334 := by decide +kernel
theorem kr_333_309 : sm_at mt_k (sm_ow 333) 309 = some (309, 0, 334, 0, 2595) := by decide +kernel
theorem np_334 : sm_np 334 = 2 := by decide +kernel
theorem dc_333_45 : decode (sm_cc 333) 45 = .ok (.ifCond .ne (5), 3) := by decide +kernel
theorem dc_333_50 : decode (sm_cc 333) 50 = .ok (.aload_n 0, 1) := by decide +kernel
theorem dc_333_51 : decode (sm_cc 333) 51 = .ok (.getfield 129, 3) := by decide +kernel
theorem fr_333_129 : sm_at mt_f (sm_ow 333) 129 = some (129, 14, 6, 0, 2079) := by decide +kernel
theorem dc_333_54 : decode (sm_cc 333) 54 = .ok (.aload_n 0, 1) := by decide +kernel
theorem dc_333_55 : decode (sm_cc 333) 55 = .ok (.getfield 190, 3) := by decide +kernel
theorem dc_333_58 : decode (sm_cc 333) 58 = .ok (.iaload, 1) := by decide +kernel
theorem dc_333_59 : decode (sm_cc 333) 59 = .ok (.bipush (7), 2) := by decide +kernel
theorem dc_333_61 : decode (sm_cc 333) 61 = .ok (.if_icmp .eq (28), 3) := by decide +kernel
theorem dc_333_89 : decode (sm_cc 333) 89 = .ok (.iconst 0, 1) := by decide +kernel
theorem dc_333_90 : decode (sm_cc 333) 90 = .ok (.istore_n 3, 1) := by decide +kernel
theorem dc_333_91 : decode (sm_cc 333) 91 = .ok (.aload_n 0, 1) := by decide +kernel
theorem dc_333_92 : decode (sm_cc 333) 92 = .ok (.getfield 129, 3) := by decide +kernel
theorem dc_333_95 : decode (sm_cc 333) 95 = .ok (.aload_n 0, 1) := by decide +kernel
theorem dc_333_96 : decode (sm_cc 333) 96 = .ok (.getfield 190, 3) := by decide +kernel
theorem dc_333_99 : decode (sm_cc 333) 99 = .ok (.iaload, 1) := by decide +kernel
theorem dc_333_100 : decode (sm_cc 333) 100 = .ok (.bipush (7), 2) := by decide +kernel
theorem dc_333_102 : decode (sm_cc 333) 102 = .ok (.if_icmp .eq (28), 3) := by decide +kernel
theorem dc_333_130 : decode (sm_cc 333) 130 = .ok (.iconst 0, 1) := by decide +kernel
theorem dc_333_131 : decode (sm_cc 333) 131 = .ok (.istore 5, 2) := by decide +kernel
theorem dc_333_133 : decode (sm_cc 333) 133 = .ok (.iload_n 3, 1) := by decide +kernel
theorem dc_333_134 : decode (sm_cc 333) 134 = .ok (.ifCond .ne (8), 3) := by decide +kernel
theorem dc_333_137 : decode (sm_cc 333) 137 = .ok (.iload 5, 2) := by decide +kernel
theorem dc_333_139 : decode (sm_cc 333) 139 = .ok (.ifCond .eq (28), 3) := by decide +kernel
theorem dc_333_167 : decode (sm_cc 333) 167 = .ok (.aload_n 0, 1) := by decide +kernel
theorem dc_333_168 : decode (sm_cc 333) 168 = .ok (.iload 4, 2) := by decide +kernel
theorem dc_333_170 : decode (sm_cc 333) 170 = .ok (.invokevirtual 317, 3) := by decide +kernel
theorem kr_333_317 : sm_at mt_k (sm_ow 333) 317 = some (317, 0, 326, 0, 2563) := by decide +kernel
theorem dc_333_173 : decode (sm_cc 333) 173 = .ok (.iload 5, 2) := by decide +kernel
theorem dc_333_175 : decode (sm_cc 333) 175 = .ok (.ifCond .ne (6), 3) := by decide +kernel
theorem dc_333_178 : decode (sm_cc 333) 178 = .ok (.goto (-171), 3) := by decide +kernel
theorem dc_333_64 : decode (sm_cc 333) 64 = .ok (.aload_n 0, 1) := by decide +kernel
theorem dc_333_65 : decode (sm_cc 333) 65 = .ok (.getfield 141, 3) := by decide +kernel
theorem fr_333_141 : sm_at mt_f (sm_ow 333) 141 = some (141, 14, 9, 0, 2082) := by decide +kernel
theorem dc_333_68 : decode (sm_cc 333) 68 = .ok (.aload_n 0, 1) := by decide +kernel
theorem dc_333_69 : decode (sm_cc 333) 69 = .ok (.getfield 190, 3) := by decide +kernel
theorem dc_333_72 : decode (sm_cc 333) 72 = .ok (.iaload, 1) := by decide +kernel
theorem dc_333_73 : decode (sm_cc 333) 73 = .ok (.iload_n 1, 1) := by decide +kernel
theorem dc_333_74 : decode (sm_cc 333) 74 = .ok (.if_icmp .ne (15), 3) := by decide +kernel
theorem dc_333_105 : decode (sm_cc 333) 105 = .ok (.aload_n 0, 1) := by decide +kernel
theorem dc_333_106 : decode (sm_cc 333) 106 = .ok (.getfield 141, 3) := by decide +kernel
theorem dc_333_109 : decode (sm_cc 333) 109 = .ok (.aload_n 0, 1) := by decide +kernel
theorem dc_333_110 : decode (sm_cc 333) 110 = .ok (.getfield 190, 3) := by decide +kernel
theorem dc_333_113 : decode (sm_cc 333) 113 = .ok (.iaload, 1) := by decide +kernel
theorem dc_333_114 : decode (sm_cc 333) 114 = .ok (.iload_n 1, 1) := by decide +kernel
theorem dc_333_115 : decode (sm_cc 333) 115 = .ok (.if_icmp .ne (15), 3) := by decide +kernel
theorem dc_333_77 : decode (sm_cc 333) 77 = .ok (.aload_n 0, 1) := by decide +kernel
theorem dc_333_78 : decode (sm_cc 333) 78 = .ok (.iconst 1, 1) := by decide +kernel
theorem dc_333_79 : decode (sm_cc 333) 79 = .ok (.invokevirtual 312, 3) := by decide +kernel
theorem kr_333_312 : sm_at mt_k (sm_ow 333) 312 = some (312, 0, 309, 0, 2494) := by decide +kernel
theorem dc_333_82 : decode (sm_cc 333) 82 = .ok (.ifCond .eq (7), 3) := by decide +kernel
theorem dc_333_85 : decode (sm_cc 333) 85 = .ok (.iconst 1, 1) := by decide +kernel
theorem dc_333_86 : decode (sm_cc 333) 86 = .ok (.goto (4), 3) := by decide +kernel
theorem dc_333_142 : decode (sm_cc 333) 142 = .ok (.aload_n 0, 1) := by decide +kernel
theorem dc_333_143 : decode (sm_cc 333) 143 = .ok (.getfield 314, 3) := by decide +kernel
theorem fr_333_314 : sm_at mt_f (sm_ow 333) 314 = some (314, 14, 33, 0, 2106) := by decide +kernel
theorem dc_333_146 : decode (sm_cc 333) 146 = .ok (.aload_n 0, 1) := by decide +kernel
theorem dc_333_147 : decode (sm_cc 333) 147 = .ok (.getfield 251, 3) := by decide +kernel
theorem dc_333_150 : decode (sm_cc 333) 150 = .ok (.aload_n 0, 1) := by decide +kernel
theorem dc_333_151 : decode (sm_cc 333) 151 = .ok (.bipush (11), 2) := by decide +kernel
theorem dc_333_153 : decode (sm_cc 333) 153 = .ok (.invokevirtual 305, 3) := by decide +kernel
theorem dc_333_156 : decode (sm_cc 333) 156 = .ok (.iastore, 1) := by decide +kernel
theorem dc_333_157 : decode (sm_cc 333) 157 = .ok (.aload_n 0, 1) := by decide +kernel
theorem dc_333_158 : decode (sm_cc 333) 158 = .ok (.dup, 1) := by decide +kernel
theorem dc_333_159 : decode (sm_cc 333) 159 = .ok (.getfield 251, 3) := by decide +kernel
theorem dc_333_162 : decode (sm_cc 333) 162 = .ok (.iconst 1, 1) := by decide +kernel
theorem dc_333_163 : decode (sm_cc 333) 163 = .ok (.iadd, 1) := by decide +kernel
theorem dc_333_164 : decode (sm_cc 333) 164 = .ok (.putfield 251, 3) := by decide +kernel
theorem dc_333_118 : decode (sm_cc 333) 118 = .ok (.aload_n 0, 1) := by decide +kernel
theorem dc_333_119 : decode (sm_cc 333) 119 = .ok (.iconst 2, 1) := by decide +kernel
theorem dc_333_120 : decode (sm_cc 333) 120 = .ok (.invokevirtual 312, 3) := by decide +kernel
theorem dc_333_123 : decode (sm_cc 333) 123 = .ok (.ifCond .eq (7), 3) := by decide +kernel
theorem dc_333_126 : decode (sm_cc 333) 126 = .ok (.iconst 1, 1) := by decide +kernel
theorem dc_333_127 : decode (sm_cc 333) 127 = .ok (.goto (4), 3) := by decide +kernel
theorem dc_333_181 : decode (sm_cc 333) 181 = .ok (.aload_n 0, 1) := by decide +kernel
theorem dc_333_182 : decode (sm_cc 333) 182 = .ok (.dup, 1) := by decide +kernel
theorem dc_333_183 : decode (sm_cc 333) 183 = .ok (.getfield 190, 3) := by decide +kernel
theorem dc_333_186 : decode (sm_cc 333) 186 = .ok (.iconst 1, 1) := by decide +kernel
theorem dc_333_187 : decode (sm_cc 333) 187 = .ok (.iadd, 1) := by decide +kernel
theorem dc_333_188 : decode (sm_cc 333) 188 = .ok (.putfield 190, 3) := by decide +kernel
theorem dc_333_191 : decode (sm_cc 333) 191 = .ok (.aload_n 0, 1) := by decide +kernel
theorem dc_333_192 : decode (sm_cc 333) 192 = .ok (.iload_n 1, 1) := by decide +kernel
theorem dc_333_193 : decode (sm_cc 333) 193 = .ok (.iconst 0, 1) := by decide +kernel
theorem dc_333_194 : decode (sm_cc 333) 194 = .ok (.invokevirtual 309, 3) := by decide +kernel
theorem dc_333_197 : decode (sm_cc 333) 197 = .ok (.ifCond .ne (5), 3) := by decide +kernel
theorem dc_333_202 : decode (sm_cc 333) 202 = .ok (.goto (-195), 3) := by decide +kernel
theorem dc_333_200 : decode (sm_cc 333) 200 = .ok (.iconst 0, 1) := by decide +kernel
theorem dc_333_201 : decode (sm_cc 333) 201 = .ok (.ireturn, 1) := by decide +kernel
theorem rt_333 : sm_rt 333 = some .boolean := by decide +kernel
theorem dc_333_48 : decode (sm_cc 333) 48 = .ok (.iconst 0, 1) := by decide +kernel
theorem dc_333_49 : decode (sm_cc 333) 49 = .ok (.ireturn, 1) := by decide +kernel
theorem dc_333_29 : decode (sm_cc 333) 29 = .ok (.iconst 0, 1) := by decide +kernel
theorem dc_333_30 : decode (sm_cc 333) 30 = .ok (.ireturn, 1) := by decide +kernel
theorem dc_333_205 : decode (sm_cc 333) 205 = .ok (.iload_n 2, 1) := by decide +kernel
theorem dc_333_206 : decode (sm_cc 333) 206 = .ok (.istore 4, 2) := by decide +kernel
theorem dc_333_208 : decode (sm_cc 333) 208 = .ok (.iload 4, 2) := by decide +kernel
theorem dc_333_210 : decode (sm_cc 333) 210 = .ok (.aload_n 0, 1) := by decide +kernel
theorem dc_333_211 : decode (sm_cc 333) 211 = .ok (.getfield 251, 3) := by decide +kernel
theorem dc_333_214 : decode (sm_cc 333) 214 = .ok (.if_icmp .ge (20), 3) := by decide +kernel
theorem dc_333_234 : decode (sm_cc 333) 234 = .ok (.aload_n 0, 1) := by decide +kernel
theorem dc_333_235 : decode (sm_cc 333) 235 = .ok (.iload_n 2, 1) := by decide +kernel
theorem dc_333_236 : decode (sm_cc 333) 236 = .ok (.putfield 251, 3) := by decide +kernel
theorem dc_333_239 : decode (sm_cc 333) 239 = .ok (.iconst 1, 1) := by decide +kernel
theorem dc_333_240 : decode (sm_cc 333) 240 = .ok (.ireturn, 1) := by decide +kernel
theorem dc_333_217 : decode (sm_cc 333) 217 = .ok (.aload_n 0, 1) := by decide +kernel
theorem dc_333_218 : decode (sm_cc 333) 218 = .ok (.aload_n 0, 1) := by decide +kernel
theorem dc_333_219 : decode (sm_cc 333) 219 = .ok (.getfield 314, 3) := by decide +kernel
theorem dc_333_222 : decode (sm_cc 333) 222 = .ok (.iload 4, 2) := by decide +kernel
theorem dc_333_224 : decode (sm_cc 333) 224 = .ok (.iaload, 1) := by decide +kernel
theorem dc_333_225 : decode (sm_cc 333) 225 = .ok (.invokevirtual 317, 3) := by decide +kernel
theorem dc_333_228 : decode (sm_cc 333) 228 = .ok (.iinc 4 (1), 3) := by decide +kernel
theorem dc_333_231 : decode (sm_cc 333) 231 = .ok (.goto (-23), 3) := by decide +kernel
theorem ml_334 : sm_ml 334 = 5 := by decide +kernel
theorem dc_334_0 : decode (sm_cc 334) 0 = .ok (.aload_n 0, 1) := by decide +kernel
theorem dc_334_1 : decode (sm_cc 334) 1 = .ok (.bipush (58), 2) := by decide +kernel
theorem dc_334_3 : decode (sm_cc 334) 3 = .ok (.invokevirtual 270, 3) := by decide +kernel
theorem kr_334_270 : sm_at mt_k (sm_ow 334) 270 = some (270, 0, 323, 0, 2551) := by decide +kernel
theorem dc_334_6 : decode (sm_cc 334) 6 = .ok (.ifCond .eq (10), 3) := by decide +kernel
theorem dc_334_9 : decode (sm_cc 334) 9 = .ok (.aload_n 0, 1) := by decide +kernel
theorem dc_334_10 : decode (sm_cc 334) 10 = .ok (.invokevirtual 273, 3) := by decide +kernel
theorem kr_334_273 : sm_at mt_k (sm_ow 334) 273 = some (273, 0, 332, 0, 2587) := by decide +kernel
theorem dc_334_13 : decode (sm_cc 334) 13 = .ok (.ifCond .ne (5), 3) := by decide +kernel
theorem dc_334_18 : decode (sm_cc 334) 18 = .ok (.aload_n 0, 1) := by decide +kernel
theorem dc_334_19 : decode (sm_cc 334) 19 = .ok (.getfield 129, 3) := by decide +kernel
theorem fr_334_129 : sm_at mt_f (sm_ow 334) 129 = some (129, 14, 6, 0, 2079) := by decide +kernel
theorem dc_334_22 : decode (sm_cc 334) 22 = .ok (.aload_n 0, 1) := by decide +kernel
theorem dc_334_23 : decode (sm_cc 334) 23 = .ok (.getfield 190, 3) := by decide +kernel
theorem fr_334_190 : sm_at mt_f (sm_ow 334) 190 = some (190, 14, 15, 0, 2088) := by decide +kernel
theorem dc_334_26 : decode (sm_cc 334) 26 = .ok (.iaload, 1) := by decide +kernel
theorem dc_334_27 : decode (sm_cc 334) 27 = .ok (.bipush (7), 2) := by decide +kernel
theorem dc_334_29 : decode (sm_cc 334) 29 = .ok (.if_icmp .eq (25), 3) := by decide +kernel
theorem dc_334_54 : decode (sm_cc 334) 54 = .ok (.aload_n 0, 1) := by decide +kernel
theorem dc_334_55 : decode (sm_cc 334) 55 = .ok (.invokevirtual 202, 3) := by decide +kernel
theorem kr_334_202 : sm_at mt_k (sm_ow 334) 202 = some (202, 0, 299, 0, 2454) := by decide +kernel
theorem dc_334_58 : decode (sm_cc 334) 58 = .ok (.ireturn, 1) := by decide +kernel
theorem rt_334 : sm_rt 334 = some .boolean := by decide +kernel
theorem dc_334_32 : decode (sm_cc 334) 32 = .ok (.aload_n 0, 1) := by decide +kernel
theorem dc_334_33 : decode (sm_cc 334) 33 = .ok (.getfield 141, 3) := by decide +kernel
theorem fr_334_141 : sm_at mt_f (sm_ow 334) 141 = some (141, 14, 9, 0, 2082) := by decide +kernel
theorem dc_334_36 : decode (sm_cc 334) 36 = .ok (.aload_n 0, 1) := by decide +kernel
theorem dc_334_37 : decode (sm_cc 334) 37 = .ok (.getfield 190, 3) := by decide +kernel
theorem dc_334_40 : decode (sm_cc 334) 40 = .ok (.iaload, 1) := by decide +kernel
theorem dc_334_41 : decode (sm_cc 334) 41 = .ok (.iload_n 1, 1) := by decide +kernel
theorem dc_334_42 : decode (sm_cc 334) 42 = .ok (.if_icmp .le (12), 3) := by decide +kernel
theorem dc_334_45 : decode (sm_cc 334) 45 = .ok (.aload_n 0, 1) := by decide +kernel
theorem dc_334_46 : decode (sm_cc 334) 46 = .ok (.getfield 233, 3) := by decide +kernel
theorem fr_334_233 : sm_at mt_f (sm_ow 334) 233 = some (233, 14, 17, 0, 2090) := by decide +kernel
theorem dc_334_49 : decode (sm_cc 334) 49 = .ok (.bipush (10), 2) := by decide +kernel
theorem dc_334_51 : decode (sm_cc 334) 51 = .ok (.if_icmp .ne (8), 3) := by decide +kernel
theorem dc_334_59 : decode (sm_cc 334) 59 = .ok (.aload_n 0, 1) := by decide +kernel
theorem dc_334_60 : decode (sm_cc 334) 60 = .ok (.dup, 1) := by decide +kernel
theorem dc_334_61 : decode (sm_cc 334) 61 = .ok (.getfield 233, 3) := by decide +kernel
theorem dc_334_64 : decode (sm_cc 334) 64 = .ok (.iconst 1, 1) := by decide +kernel
theorem dc_334_65 : decode (sm_cc 334) 65 = .ok (.iadd, 1) := by decide +kernel
theorem dc_334_66 : decode (sm_cc 334) 66 = .ok (.putfield 233, 3) := by decide +kernel
theorem dc_334_69 : decode (sm_cc 334) 69 = .ok (.aload_n 0, 1) := by decide +kernel
theorem dc_334_70 : decode (sm_cc 334) 70 = .ok (.getfield 141, 3) := by decide +kernel
theorem dc_334_73 : decode (sm_cc 334) 73 = .ok (.aload_n 0, 1) := by decide +kernel
theorem dc_334_74 : decode (sm_cc 334) 74 = .ok (.getfield 190, 3) := by decide +kernel
theorem dc_334_77 : decode (sm_cc 334) 77 = .ok (.iaload, 1) := by decide +kernel
theorem dc_334_78 : decode (sm_cc 334) 78 = .ok (.istore_n 3, 1) := by decide +kernel
theorem dc_334_79 : decode (sm_cc 334) 79 = .ok (.aload_n 0, 1) := by decide +kernel
theorem dc_334_80 : decode (sm_cc 334) 80 = .ok (.getfield 263, 3) := by decide +kernel
theorem fr_334_263 : sm_at mt_f (sm_ow 334) 263 = some (263, 14, 18, 0, 2091) := by decide +kernel
theorem dc_334_83 : decode (sm_cc 334) 83 = .ok (.aload_n 0, 1) := by decide +kernel
theorem dc_334_84 : decode (sm_cc 334) 84 = .ok (.getfield 233, 3) := by decide +kernel
theorem dc_334_87 : decode (sm_cc 334) 87 = .ok (.iload_n 3, 1) := by decide +kernel
theorem dc_334_88 : decode (sm_cc 334) 88 = .ok (.iastore, 1) := by decide +kernel
theorem dc_334_16 : decode (sm_cc 334) 16 = .ok (.iconst 0, 1) := by decide +kernel
theorem dc_334_17 : decode (sm_cc 334) 17 = .ok (.ireturn, 1) := by decide +kernel
theorem dc_334_89 : decode (sm_cc 334) 89 = .ok (.aload_n 0, 1) := by decide +kernel
theorem dc_334_90 : decode (sm_cc 334) 90 = .ok (.getfield 129, 3) := by decide +kernel
theorem dc_334_93 : decode (sm_cc 334) 93 = .ok (.aload_n 0, 1) := by decide +kernel
theorem dc_334_94 : decode (sm_cc 334) 94 = .ok (.getfield 190, 3) := by decide +kernel
theorem dc_334_97 : decode (sm_cc 334) 97 = .ok (.iaload, 1) := by decide +kernel
theorem dc_334_98 : decode (sm_cc 334) 98 = .ok (.bipush (7), 2) := by decide +kernel
theorem dc_334_100 : decode (sm_cc 334) 100 = .ok (.if_icmp .eq (57), 3) := by decide +kernel
theorem dc_334_157 : decode (sm_cc 334) 157 = .ok (.aload_n 0, 1) := by decide +kernel
theorem dc_334_158 : decode (sm_cc 334) 158 = .ok (.dup, 1) := by decide +kernel
theorem dc_334_159 : decode (sm_cc 334) 159 = .ok (.getfield 233, 3) := by decide +kernel
theorem dc_334_162 : decode (sm_cc 334) 162 = .ok (.iconst 1, 1) := by decide +kernel
theorem dc_334_163 : decode (sm_cc 334) 163 = .ok (.isub, 1) := by decide +kernel
theorem dc_334_164 : decode (sm_cc 334) 164 = .ok (.putfield 233, 3) := by decide +kernel
theorem dc_334_167 : decode (sm_cc 334) 167 = .ok (.aload_n 0, 1) := by decide +kernel
theorem dc_334_168 : decode (sm_cc 334) 168 = .ok (.getfield 129, 3) := by decide +kernel
theorem dc_334_171 : decode (sm_cc 334) 171 = .ok (.aload_n 0, 1) := by decide +kernel
theorem dc_334_172 : decode (sm_cc 334) 172 = .ok (.getfield 190, 3) := by decide +kernel
theorem dc_334_175 : decode (sm_cc 334) 175 = .ok (.iaload, 1) := by decide +kernel
theorem dc_334_176 : decode (sm_cc 334) 176 = .ok (.bipush (7), 2) := by decide +kernel
theorem dc_334_178 : decode (sm_cc 334) 178 = .ok (.if_icmp .ne (5), 3) := by decide +kernel
theorem dc_334_181 : decode (sm_cc 334) 181 = .ok (.iconst 1, 1) := by decide +kernel
theorem dc_334_182 : decode (sm_cc 334) 182 = .ok (.ireturn, 1) := by decide +kernel
theorem dc_334_103 : decode (sm_cc 334) 103 = .ok (.aload_n 0, 1) := by decide +kernel
theorem dc_334_104 : decode (sm_cc 334) 104 = .ok (.getfield 141, 3) := by decide +kernel
theorem dc_334_107 : decode (sm_cc 334) 107 = .ok (.aload_n 0, 1) := by decide +kernel
theorem dc_334_108 : decode (sm_cc 334) 108 = .ok (.getfield 190, 3) := by decide +kernel
theorem dc_334_111 : decode (sm_cc 334) 111 = .ok (.iaload, 1) := by decide +kernel
theorem dc_334_112 : decode (sm_cc 334) 112 = .ok (.iload_n 3, 1) := by decide +kernel
theorem dc_334_113 : decode (sm_cc 334) 113 = .ok (.if_icmp .lt (44), 3) := by decide +kernel
theorem dc_334_183 : decode (sm_cc 334) 183 = .ok (.iconst 0, 1) := by decide +kernel
theorem dc_334_184 : decode (sm_cc 334) 184 = .ok (.istore 4, 2) := by decide +kernel
theorem dc_334_116 : decode (sm_cc 334) 116 = .ok (.aload_n 0, 1) := by decide +kernel
theorem dc_334_117 : decode (sm_cc 334) 117 = .ok (.getfield 141, 3) := by decide +kernel
theorem dc_334_120 : decode (sm_cc 334) 120 = .ok (.aload_n 0, 1) := by decide +kernel
theorem dc_334_121 : decode (sm_cc 334) 121 = .ok (.getfield 190, 3) := by decide +kernel
theorem dc_334_124 : decode (sm_cc 334) 124 = .ok (.iaload, 1) := by decide +kernel
theorem dc_334_125 : decode (sm_cc 334) 125 = .ok (.iload_n 3, 1) := by decide +kernel
theorem dc_334_126 : decode (sm_cc 334) 126 = .ok (.if_icmp .le (8), 3) := by decide +kernel
theorem dc_334_134 : decode (sm_cc 334) 134 = .ok (.iload_n 2, 1) := by decide +kernel
theorem dc_334_135 : decode (sm_cc 334) 135 = .ok (.ifCond .eq (13), 3) := by decide +kernel
theorem dc_334_148 : decode (sm_cc 334) 148 = .ok (.aload_n 0, 1) := by decide +kernel
theorem dc_334_149 : decode (sm_cc 334) 149 = .ok (.invokevirtual 266, 3) := by decide +kernel
theorem ow_301 : 14 = sm_ow 301 := by decide +kernel
theorem kr_334_266 : sm_at mt_k (sm_ow 334) 266 = some (266, 0, 301, 0, 2461) := by decide +kernel
theorem np_301 : sm_np 301 = 0 := by decide +kernel
theorem dc_334_152 : decode (sm_cc 334) 152 = .ok (.ifCond .ne (-63), 3) := by decide +kernel
theorem dc_334_155 : decode (sm_cc 334) 155 = .ok (.iconst 0, 1) := by decide +kernel
theorem dc_334_156 : decode (sm_cc 334) 156 = .ok (.ireturn, 1) := by decide +kernel
theorem dc_334_138 : decode (sm_cc 334) 138 = .ok (.aload_n 0, 1) := by decide +kernel
theorem dc_334_139 : decode (sm_cc 334) 139 = .ok (.invokevirtual 276, 3) := by decide +kernel
theorem ow_335 : 14 = sm_ow 335 := by decide +kernel
theorem kr_334_276 : sm_at mt_k (sm_ow 334) 276 = some (276, 0, 335, 0, 2599) := by decide +kernel
theorem np_335 : sm_np 335 = 0 := by decide +kernel
theorem dc_334_142 : decode (sm_cc 334) 142 = .ok (.ifCond .eq (13), 3) := by decide +kernel
theorem dc_334_145 : decode (sm_cc 334) 145 = .ok (.goto (-56), 3) := by decide +kernel
theorem dc_334_129 : decode (sm_cc 334) 129 = .ok (.aload_n 0, 1) := by decide +kernel
theorem dc_334_130 : decode (sm_cc 334) 130 = .ok (.invokevirtual 202, 3) := by decide +kernel
theorem dc_334_133 : decode (sm_cc 334) 133 = .ok (.ireturn, 1) := by decide +kernel
theorem dc_334_186 : decode (sm_cc 334) 186 = .ok (.iload 4, 2) := by decide +kernel
theorem dc_334_188 : decode (sm_cc 334) 188 = .ok (.aload_n 0, 1) := by decide +kernel
theorem dc_334_189 : decode (sm_cc 334) 189 = .ok (.getfield 233, 3) := by decide +kernel
theorem dc_334_192 : decode (sm_cc 334) 192 = .ok (.if_icmp .gt (30), 3) := by decide +kernel
theorem dc_334_222 : decode (sm_cc 334) 222 = .ok (.aload_n 0, 1) := by decide +kernel
theorem dc_334_223 : decode (sm_cc 334) 223 = .ok (.invokevirtual 202, 3) := by decide +kernel
theorem dc_334_226 : decode (sm_cc 334) 226 = .ok (.ireturn, 1) := by decide +kernel
theorem dc_334_195 : decode (sm_cc 334) 195 = .ok (.aload_n 0, 1) := by decide +kernel
theorem dc_334_196 : decode (sm_cc 334) 196 = .ok (.getfield 263, 3) := by decide +kernel
theorem dc_334_199 : decode (sm_cc 334) 199 = .ok (.iload 4, 2) := by decide +kernel
theorem dc_334_201 : decode (sm_cc 334) 201 = .ok (.iaload, 1) := by decide +kernel
theorem dc_334_202 : decode (sm_cc 334) 202 = .ok (.aload_n 0, 1) := by decide +kernel
theorem dc_334_203 : decode (sm_cc 334) 203 = .ok (.getfield 141, 3) := by decide +kernel
theorem dc_334_206 : decode (sm_cc 334) 206 = .ok (.aload_n 0, 1) := by decide +kernel
theorem dc_334_207 : decode (sm_cc 334) 207 = .ok (.getfield 190, 3) := by decide +kernel
theorem dc_334_210 : decode (sm_cc 334) 210 = .ok (.iaload, 1) := by decide +kernel
theorem dc_334_211 : decode (sm_cc 334) 211 = .ok (.if_icmp .ne (5), 3) := by decide +kernel
theorem dc_334_216 : decode (sm_cc 334) 216 = .ok (.iinc 4 (1), 3) := by decide +kernel
theorem dc_334_219 : decode (sm_cc 334) 219 = .ok (.goto (-33), 3) := by decide +kernel
theorem dc_334_214 : decode (sm_cc 334) 214 = .ok (.iconst 1, 1) := by decide +kernel
theorem dc_334_215 : decode (sm_cc 334) 215 = .ok (.ireturn, 1) := by decide +kernel
theorem ml_335 : sm_ml 335 = 3 := by decide +kernel
theorem dc_335_0 : decode (sm_cc 335) 0 = .ok (.aload_n 0, 1) := by decide +kernel
theorem dc_335_1 : decode (sm_cc 335) 1 = .ok (.iconst 0, 1) := by decide +kernel
theorem dc_335_2 : decode (sm_cc 335) 2 = .ok (.aload_n 0, 1) := by decide +kernel
theorem dc_335_3 : decode (sm_cc 335) 3 = .ok (.getfield 138, 3) := by decide +kernel
theorem fr_335_138 : sm_at mt_f (sm_ow 335) 138 = some (138, 14, 8, 0, 2081) := by decide +kernel
theorem dc_335_6 : decode (sm_cc 335) 6 = .ok (.aload_n 0, 1) := by decide +kernel
theorem dc_335_7 : decode (sm_cc 335) 7 = .ok (.getfield 190, 3) := by decide +kernel
theorem fr_335_190 : sm_at mt_f (sm_ow 335) 190 = some (190, 14, 15, 0, 2088) := by decide +kernel
theorem dc_335_10 : decode (sm_cc 335) 10 = .ok (.iaload, 1) := by decide +kernel
theorem dc_335_11 : decode (sm_cc 335) 11 = .ok (.invokevirtual 216, 3) := by decide +kernel
theorem kr_335_216 : sm_at mt_k (sm_ow 335) 216 = some (216, 0, 302, 0, 2465) := by decide +kernel
theorem dc_335_14 : decode (sm_cc 335) 14 = .ok (.aload_n 0, 1) := by decide +kernel
theorem dc_335_15 : decode (sm_cc 335) 15 = .ok (.getfield 141, 3) := by decide +kernel
theorem fr_335_141 : sm_at mt_f (sm_ow 335) 141 = some (141, 14, 9, 0, 2082) := by decide +kernel
theorem dc_335_18 : decode (sm_cc 335) 18 = .ok (.aload_n 0, 1) := by decide +kernel
theorem dc_335_19 : decode (sm_cc 335) 19 = .ok (.getfield 190, 3) := by decide +kernel
theorem dc_335_22 : decode (sm_cc 335) 22 = .ok (.iaload, 1) := by decide +kernel
theorem dc_335_23 : decode (sm_cc 335) 23 = .ok (.istore_n 1, 1) := by decide +kernel
theorem dc_335_24 : decode (sm_cc 335) 24 = .ok (.aload_n 0, 1) := by decide +kernel
theorem dc_335_25 : decode (sm_cc 335) 25 = .ok (.bipush (11), 2) := by decide +kernel
theorem dc_335_27 : decode (sm_cc 335) 27 = .ok (.invokevirtual 312, 3) := by decide +kernel
theorem kr_335_312 : sm_at mt_k (sm_ow 335) 312 = some (312, 0, 309, 0, 2494) := by decide +kernel
theorem dc_335_30 : decode (sm_cc 335) 30 = .ok (.ifCond .eq (18), 3) := by decide +kernel
theorem dc_335_33 : decode (sm_cc 335) 33 = .ok (.aload_n 0, 1) := by decide +kernel
theorem dc_335_34 : decode (sm_cc 335) 34 = .ok (.dup, 1) := by decide +kernel
theorem dc_335_35 : decode (sm_cc 335) 35 = .ok (.getfield 190, 3) := by decide +kernel
theorem dc_335_38 : decode (sm_cc 335) 38 = .ok (.iconst 1, 1) := by decide +kernel
theorem dc_335_39 : decode (sm_cc 335) 39 = .ok (.iadd, 1) := by decide +kernel
theorem dc_335_40 : decode (sm_cc 335) 40 = .ok (.putfield 190, 3) := by decide +kernel
theorem dc_335_43 : decode (sm_cc 335) 43 = .ok (.aload_n 0, 1) := by decide +kernel
theorem dc_335_44 : decode (sm_cc 335) 44 = .ok (.invokevirtual 273, 3) := by decide +kernel
theorem kr_335_273 : sm_at mt_k (sm_ow 335) 273 = some (273, 0, 332, 0, 2587) := by decide +kernel
theorem dc_335_47 : decode (sm_cc 335) 47 = .ok (.ireturn, 1) := by decide +kernel
theorem rt_335 : sm_rt 335 = some .boolean := by decide +kernel
theorem dc_335_48 : decode (sm_cc 335) 48 = .ok (.aload_n 0, 1) := by decide +kernel
theorem dc_335_49 : decode (sm_cc 335) 49 = .ok (.bipush (6), 2) := by decide +kernel
theorem dc_335_51 : decode (sm_cc 335) 51 = .ok (.invokevirtual 312, 3) := by decide +kernel
theorem dc_335_54 : decode (sm_cc 335) 54 = .ok (.ifCond .eq (52), 3) := by decide +kernel
theorem dc_335_57 : decode (sm_cc 335) 57 = .ok (.aload_n 0, 1) := by decide +kernel
theorem dc_335_58 : decode (sm_cc 335) 58 = .ok (.getfield 129, 3) := by decide +kernel
theorem fr_335_129 : sm_at mt_f (sm_ow 335) 129 = some (129, 14, 6, 0, 2079) := by decide +kernel
theorem dc_335_61 : decode (sm_cc 335) 61 = .ok (.aload_n 0, 1) := by decide +kernel
theorem dc_335_62 : decode (sm_cc 335) 62 = .ok (.getfield 190, 3) := by decide +kernel
theorem dc_335_65 : decode (sm_cc 335) 65 = .ok (.iconst 1, 1) := by decide +kernel
theorem dc_335_66 : decode (sm_cc 335) 66 = .ok (.iadd, 1) := by decide +kernel
theorem dc_335_67 : decode (sm_cc 335) 67 = .ok (.iaload, 1) := by decide +kernel
theorem dc_335_68 : decode (sm_cc 335) 68 = .ok (.iconst 1, 1) := by decide +kernel
theorem dc_335_69 : decode (sm_cc 335) 69 = .ok (.if_icmp .ne (17), 3) := by decide +kernel
theorem dc_335_86 : decode (sm_cc 335) 86 = .ok (.iconst (-1), 1) := by decide +kernel
theorem dc_335_87 : decode (sm_cc 335) 87 = .ok (.istore_n 2, 1) := by decide +kernel
theorem dc_335_88 : decode (sm_cc 335) 88 = .ok (.aload_n 0, 1) := by decide +kernel
theorem dc_335_89 : decode (sm_cc 335) 89 = .ok (.iload_n 1, 1) := by decide +kernel
theorem dc_335_90 : decode (sm_cc 335) 90 = .ok (.iconst 0, 1) := by decide +kernel
theorem dc_335_91 : decode (sm_cc 335) 91 = .ok (.invokevirtual 292, 3) := by decide +kernel
theorem kr_335_292 : sm_at mt_k (sm_ow 335) 292 = some (292, 0, 336, 0, 2603) := by decide +kernel
theorem dc_335_94 : decode (sm_cc 335) 94 = .ok (.ifCond .ne (5), 3) := by decide +kernel
theorem dc_335_99 : decode (sm_cc 335) 99 = .ok (.aload_n 0, 1) := by decide +kernel
theorem dc_335_100 : decode (sm_cc 335) 100 = .ok (.iload_n 2, 1) := by decide +kernel
theorem dc_335_101 : decode (sm_cc 335) 101 = .ok (.invokevirtual 388, 3) := by decide +kernel
theorem ow_341 : 14 = sm_ow 341 := by decide +kernel
theorem kr_335_388 : sm_at mt_k (sm_ow 335) 388 = some (388, 0, 341, 0, 2623) := by decide +kernel
theorem np_341 : sm_np 341 = 1 := by decide +kernel
theorem dc_335_104 : decode (sm_cc 335) 104 = .ok (.iconst 1, 1) := by decide +kernel
theorem dc_335_105 : decode (sm_cc 335) 105 = .ok (.ireturn, 1) := by decide +kernel
theorem dc_335_97 : decode (sm_cc 335) 97 = .ok (.iconst 0, 1) := by decide +kernel
theorem dc_335_98 : decode (sm_cc 335) 98 = .ok (.ireturn, 1) := by decide +kernel
theorem dc_335_72 : decode (sm_cc 335) 72 = .ok (.aload_n 0, 1) := by decide +kernel
theorem dc_335_73 : decode (sm_cc 335) 73 = .ok (.getfield 135, 3) := by decide +kernel
theorem fr_335_135 : sm_at mt_f (sm_ow 335) 135 = some (135, 14, 7, 0, 2080) := by decide +kernel
theorem dc_335_76 : decode (sm_cc 335) 76 = .ok (.aload_n 0, 1) := by decide +kernel
theorem dc_335_77 : decode (sm_cc 335) 77 = .ok (.getfield 190, 3) := by decide +kernel
theorem dc_335_80 : decode (sm_cc 335) 80 = .ok (.iconst 1, 1) := by decide +kernel
theorem dc_335_81 : decode (sm_cc 335) 81 = .ok (.iadd, 1) := by decide +kernel
theorem dc_335_82 : decode (sm_cc 335) 82 = .ok (.iaload, 1) := by decide +kernel
theorem dc_335_83 : decode (sm_cc 335) 83 = .ok (.goto (4), 3) := by decide +kernel
theorem dc_335_106 : decode (sm_cc 335) 106 = .ok (.aload_n 0, 1) := by decide +kernel
theorem dc_335_107 : decode (sm_cc 335) 107 = .ok (.getfield 129, 3) := by decide +kernel
theorem dc_335_110 : decode (sm_cc 335) 110 = .ok (.aload_n 0, 1) := by decide +kernel
theorem dc_335_111 : decode (sm_cc 335) 111 = .ok (.getfield 190, 3) := by decide +kernel
theorem dc_335_114 : decode (sm_cc 335) 114 = .ok (.iaload, 1) := by decide +kernel
theorem dc_335_115 : decode (sm_cc 335) 115 = .ok (.iconst 1, 1) := by decide +kernel
theorem dc_335_116 : decode (sm_cc 335) 116 = .ok (.if_icmp .eq (8), 3) := by decide +kernel
theorem dc_335_124 : decode (sm_cc 335) 124 = .ok (.aload_n 0, 1) := by decide +kernel
theorem dc_335_125 : decode (sm_cc 335) 125 = .ok (.getfield 135, 3) := by decide +kernel
theorem dc_335_128 : decode (sm_cc 335) 128 = .ok (.aload_n 0, 1) := by decide +kernel
theorem dc_335_129 : decode (sm_cc 335) 129 = .ok (.getfield 190, 3) := by decide +kernel
theorem dc_335_132 : decode (sm_cc 335) 132 = .ok (.iaload, 1) := by decide +kernel
theorem dc_335_133 : decode (sm_cc 335) 133 = .ok (.istore_n 2, 1) := by decide +kernel
theorem dc_335_134 : decode (sm_cc 335) 134 = .ok (.aload_n 0, 1) := by decide +kernel
theorem dc_335_135 : decode (sm_cc 335) 135 = .ok (.dup, 1) := by decide +kernel
theorem dc_335_136 : decode (sm_cc 335) 136 = .ok (.getfield 190, 3) := by decide +kernel
theorem dc_335_139 : decode (sm_cc 335) 139 = .ok (.iconst 1, 1) := by decide +kernel
theorem dc_335_140 : decode (sm_cc 335) 140 = .ok (.iadd, 1) := by decide +kernel
theorem dc_335_141 : decode (sm_cc 335) 141 = .ok (.putfield 190, 3) := by decide +kernel
theorem dc_335_144 : decode (sm_cc 335) 144 = .ok (.aload_n 0, 1) := by decide +kernel
theorem dc_335_145 : decode (sm_cc 335) 145 = .ok (.bipush (61), 2) := by decide +kernel
theorem dc_335_147 : decode (sm_cc 335) 147 = .ok (.invokevirtual 270, 3) := by decide +kernel
theorem kr_335_270 : sm_at mt_k (sm_ow 335) 270 = some (270, 0, 323, 0, 2551) := by decide +kernel
theorem dc_335_150 : decode (sm_cc 335) 150 = .ok (.ifCond .eq (18), 3) := by decide +kernel
theorem dc_335_153 : decode (sm_cc 335) 153 = .ok (.aload_n 0, 1) := by decide +kernel
theorem dc_335_154 : decode (sm_cc 335) 154 = .ok (.iconst 0, 1) := by decide +kernel
theorem dc_335_155 : decode (sm_cc 335) 155 = .ok (.invokevirtual 302, 3) := by decide +kernel
theorem kr_335_302 : sm_at mt_k (sm_ow 335) 302 = some (302, 0, 306, 0, 2482) := by decide +kernel
theorem dc_335_158 : decode (sm_cc 335) 158 = .ok (.ifCond .eq (10), 3) := by decide +kernel
theorem dc_335_161 : decode (sm_cc 335) 161 = .ok (.aload_n 0, 1) := by decide +kernel
theorem dc_335_162 : decode (sm_cc 335) 162 = .ok (.invokevirtual 273, 3) := by decide +kernel
theorem dc_335_165 : decode (sm_cc 335) 165 = .ok (.ifCond .ne (5), 3) := by decide +kernel
theorem dc_335_170 : decode (sm_cc 335) 170 = .ok (.aload_n 0, 1) := by decide +kernel
theorem dc_335_171 : decode (sm_cc 335) 171 = .ok (.iload_n 2, 1) := by decide +kernel
theorem dc_335_172 : decode (sm_cc 335) 172 = .ok (.invokevirtual 388, 3) := by decide +kernel
theorem dc_335_175 : decode (sm_cc 335) 175 = .ok (.iconst 1, 1) := by decide +kernel
theorem dc_335_176 : decode (sm_cc 335) 176 = .ok (.ireturn, 1) := by decide +kernel
theorem dc_335_168 : decode (sm_cc 335) 168 = .ok (.iconst 0, 1) := by decide +kernel
theorem dc_335_169 : decode (sm_cc 335) 169 = .ok (.ireturn, 1) := by decide +kernel
theorem dc_335_119 : decode (sm_cc 335) 119 = .ok (.aload_n 0, 1) := by decide +kernel
theorem dc_335_120 : decode (sm_cc 335) 120 = .ok (.invokevirtual 202, 3) := by decide +kernel
theorem kr_335_202 : sm_at mt_k (sm_ow 335) 202 = some (202, 0, 299, 0, 2454) := by decide +kernel
theorem dc_335_123 : decode (sm_cc 335) 123 = .ok (.ireturn, 1) := by decide +kernel
theorem zCh_1 {d : Nat} {S Sf : cS} {v : Option Value} {la : Nat} {en : Nat} (mla : la < 2 ^ 20) (hen : sI S 6134 = nI en) (men : en < 3000) (hB : ∀ lv1 : sm_L, sm_get lv1 0 = some (.ref 61) → sm_get lv1 1 = some (.int (nI la)) → sm_get lv1 2 = some (.int (nI en)) → sm_get lv1 3 = some (.int (nI 1)) → Bod (d + 8) 333 7 lv1 [] (S) v Sf) : Bod (d + 8) 333 0 [(0, .ref 61), (1, .int (nI la))] [] S v Sf := by
  refine Bod.go dc_333_0 rfl ?_
  refine Bod.get dc_333_1 fr_333_251 (mk_61 _) rfl ?_
  refine Bod.eqI (nI en) (by first | assumption | rfl | exact congrArg nI (by omega) | (simp (disch := omega) only [rI, rIe, rA, rIA, rLA, rJA, rVI, rQI, rVA, rQA, upd_at,  rAI, rLI, rJI, nI_add, pk_sub, kc_0, kc_1, kc_2, kc_3, kc_4, kc_5, reduceIte, Nat.reduceEqDiff, Nat.add_zero, rI_hold, rI_hold, rL_hold, hen]; done)) ?_
  refine Bod.istn dc_333_4 (by rw [ml_333]; exact Nat.le_of_ble_eq_true rfl) ?_
  refine Bod.ic 1 (by decide) dc_333_5 ?_
  refine Bod.istn dc_333_6 (by rw [ml_333]; exact Nat.le_of_ble_eq_true rfl) ?_
  exact hB _ (by first | rfl | exact (by repeat (first | exact rfl | exact sm_get_p1 | exact sm_get_p2e | refine sm_get_p1m (by decide) (by decide) ?_ | refine sm_get_p1n (by decide) rfl ?_ | refine sm_get_p2n (by decide) (by decide) rfl ?_))) (by first | rfl | exact (by repeat (first | exact rfl | exact sm_get_p1 | exact sm_get_p2e | refine sm_get_p1m (by decide) (by decide) ?_ | refine sm_get_p1n (by decide) rfl ?_ | refine sm_get_p2n (by decide) (by decide) rfl ?_))) (by first | rfl | exact (by repeat (first | exact rfl | exact sm_get_p1 | exact sm_get_p2e | refine sm_get_p1m (by decide) (by decide) ?_ | refine sm_get_p1n (by decide) rfl ?_ | refine sm_get_p2n (by decide) (by decide) rfl ?_))) (by first | rfl | exact (by repeat (first | exact rfl | exact sm_get_p1 | exact sm_get_p2e | refine sm_get_p1m (by decide) (by decide) ?_ | refine sm_get_p1n (by decide) rfl ?_ | refine sm_get_p2n (by decide) (by decide) rfl ?_)))
theorem zChL_1 {d : Nat} {S Sf : cS} {v : Option Value} {lv : sm_L} {la : Nat} {le : Nat} {k : Nat} {S1 : cS} {S2 : cS} {a : Nat} {S3 : cS} {k1 : Nat} {e67 : Nat} {S4 : cS} (q0 : sm_get lv 0 = some (.ref 61)) (q1 : sm_get lv 1 = some (.int (nI la))) (q2 : sm_get lv 2 = some (.int (nI le))) (q3 : sm_get lv 3 = some (.int (nI 1))) (mla : la < 2 ^ 20) (mle : le < 2 ^ 20) (hk : sI S 6115 = nI k) (mk : k < 6001) (c1 : Ans (d + 8) 306 [.ref 61, .int (nI 0)] (wI 6115 (nI (k + 1)) S) (some (.int (nI 1))) S1) (ma : a < 2 ^ 20) (c2 : Ans (d + 8) 325 [.ref 61, .int (nI 12)] S1 (some (.int (nI a))) S2) (c3 : Ans (d + 8) 334 [.ref 61, .int (nI la), .int (nI 0)] S2 (some (.int (nI 1))) S3) (hk1 : sI S3 6115 = nI k1) (mk1 : k1 < 6001) (he67 : sA S3 67 k1 = nI e67) (me67 : e67 < 2 ^ 20) (b1 : e67 = 7) (c4 : Ans (d + 8) 326 [.ref 61, .int (nI a)] S3 none S4) (hB : ∀ lv1 : sm_L, sm_get lv1 0 = some (.ref 61) → sm_get lv1 1 = some (.int (nI la)) → sm_get lv1 2 = some (.int (nI le)) → sm_get lv1 3 = some (.int (nI 0)) → Bod (d + 8) 333 7 lv1 [] (S4) v Sf) : Bod (d + 8) 333 7 lv [] S v Sf := by
  refine Bod.ildnG dc_333_7 (by repeat (first | exact q3 | exact sm_get_p1 | exact sm_get_p2e | refine sm_get_p1m (by decide) (by decide) ?_ | refine sm_get_p1n (by decide) rfl ?_ | refine sm_get_p2n (by decide) (by decide) rfl ?_)) ?_
  refine Bod.ifF dc_333_8 rfl (k1_eq_F (k_ne 1 0 rfl rfl (by omega) (by omega) (by omega))) ?_
  refine Bod.aldnG dc_333_11 (by repeat (first | exact q0 | exact sm_get_p1 | exact sm_get_p2e | refine sm_get_p1m (by decide) (by decide) ?_ | refine sm_get_p1n (by decide) rfl ?_ | refine sm_get_p2n (by decide) (by decide) rfl ?_)) ?_
  refine Bod.go dc_333_12 rfl ?_
  refine Bod.get dc_333_13 fr_333_190 (mk_61 _) rfl ?_
  refine Bod.eqI (nI k) (by first | assumption | rfl | exact congrArg nI (by omega) | (simp (disch := omega) only [rI, rIe, rA, rIA, rLA, rJA, rVI, rQI, rVA, rQA, upd_at,  rAI, rLI, rJI, nI_add, pk_sub, kc_0, kc_1, kc_2, kc_3, kc_4, kc_5, reduceIte, Nat.reduceEqDiff, Nat.add_zero, rI_hold, rI_hold, rL_hold, hk]; done)) ?_
  refine Bod.ic 1 (by decide) dc_333_16 ?_
  refine Bod.addN (k + 1) (by omega) dc_333_17 ?_
  refine Bod.put dc_333_18 fr_333_190 (mk_61 _) (Nat.le_of_ble_eq_true rfl) pf_14_15 (st_6115 _ _) (mu_I _ _ _) ?_
  refine Bod.aldnG dc_333_21 (by repeat (first | exact q0 | exact sm_get_p1 | exact sm_get_p2e | refine sm_get_p1m (by decide) (by decide) ?_ | refine sm_get_p1n (by decide) rfl ?_ | refine sm_get_p2n (by decide) (by decide) rfl ?_)) ?_
  refine Bod.ic 0 (by decide) dc_333_22 ?_
  refine Bod.virt (r := []) dc_333_23 kr_333_302 ⟨Or.inl rfl, ow_306, cl_14⟩ (by rw [np_306]; rfl) (by rw [np_306]; rfl) (ob_of (mk_61 _)) (Nat.le_of_ble_eq_true rfl) (c1  ) ?_
  show Bod _ _ _ _ [_] _ _ _
  refine Bod.ifT dc_333_26 rfl (k1_ne_T (k_ne 1 0 rfl rfl (by omega) (by omega) (by omega))) ?_
  refine Bod.aldnG dc_333_31 (by repeat (first | exact q0 | exact sm_get_p1 | exact sm_get_p2e | refine sm_get_p1m (by decide) (by decide) ?_ | refine sm_get_p1n (by decide) rfl ?_ | refine sm_get_p2n (by decide) (by decide) rfl ?_)) ?_
  refine Bod.bip 12 (by decide) dc_333_32 ?_
  refine Bod.virt (r := []) dc_333_34 kr_333_305 ⟨Or.inl rfl, ow_325, cl_14⟩ (by rw [np_325]; rfl) (by rw [np_325]; rfl) (ob_of (mk_61 _)) (Nat.le_of_ble_eq_true rfl) (c2  ) ?_
  show Bod _ _ _ _ [_] _ _ _
  refine Bod.ist dc_333_37 (by rw [ml_333]; exact Nat.le_of_ble_eq_true rfl) ?_
  refine Bod.aldnG dc_333_39 (by repeat (first | exact q0 | exact sm_get_p1 | exact sm_get_p2e | refine sm_get_p1m (by decide) (by decide) ?_ | refine sm_get_p1n (by decide) rfl ?_ | refine sm_get_p2n (by decide) (by decide) rfl ?_)) ?_
  refine Bod.ildnG dc_333_40 (by repeat (first | exact q1 | exact sm_get_p1 | exact sm_get_p2e | refine sm_get_p1m (by decide) (by decide) ?_ | refine sm_get_p1n (by decide) rfl ?_ | refine sm_get_p2n (by decide) (by decide) rfl ?_)) ?_
  refine Bod.ic 0 (by decide) dc_333_41 ?_
  refine Bod.virt (r := []) dc_333_42 kr_333_309 ⟨Or.inl rfl, ow_334, cl_14⟩ (by rw [np_334]; rfl) (by rw [np_334]; rfl) (ob_of (mk_61 _)) (Nat.le_of_ble_eq_true rfl) (c3  ) ?_
  show Bod _ _ _ _ [_] _ _ _
  refine Bod.ifT dc_333_45 rfl (k1_ne_T (k_ne 1 0 rfl rfl (by omega) (by omega) (by omega))) ?_
  refine Bod.aldnG dc_333_50 (by repeat (first | exact q0 | exact sm_get_p1 | exact sm_get_p2e | refine sm_get_p1m (by decide) (by decide) ?_ | refine sm_get_p1n (by decide) rfl ?_ | refine sm_get_p2n (by decide) (by decide) rfl ?_)) ?_
  refine Bod.get dc_333_51 fr_333_129 (mk_61 _) rfl ?_
  refine Bod.aldnG dc_333_54 (by repeat (first | exact q0 | exact sm_get_p1 | exact sm_get_p2e | refine sm_get_p1m (by decide) (by decide) ?_ | refine sm_get_p1n (by decide) rfl ?_ | refine sm_get_p2n (by decide) (by decide) rfl ?_)) ?_
  refine Bod.get dc_333_55 fr_333_190 (mk_61 _) rfl ?_
  refine Bod.eqI (nI k1) (by first | (simp (disch := omega) only [rI, rIe, rA, rIA, rLA, rJA, rVI, rQI, rVA, rQA, upd_at,  rAI, rLI, rJI, nI_add, pk_sub, kc_0, kc_1, kc_2, kc_3, kc_4, kc_5, reduceIte, Nat.reduceEqDiff, Nat.add_zero, rI_hold, rI_hold, rL_hold, hk, hk1]; done) | (simp (disch := omega) only [rI, rIe, rA, rIA, rLA, rJA, rVI, rQI, rVA, rQA, upd_at,  rAI, rLI, rJI, nI_add, pk_sub, kc_0, kc_1, kc_2, kc_3, kc_4, kc_5, reduceIte, Nat.reduceEqDiff, Nat.add_zero, rI_hold, rI_hold, rL_hold, hk, hk1]; exact congrArg nI (by omega))) ?_
  refine Bod.ialdN k1 rfl (by omega) (by omega) dc_333_58 (mk_67 _) ?_
  refine Bod.eqI (nI e67) (by first | (simp (disch := omega) only [rI, rIe, rA, rIA, rLA, rJA, rVI, rQI, rVA, rQA, upd_at,  rAI, rLI, rJI, nI_add, pk_sub, kc_0, kc_1, kc_2, kc_3, kc_4, kc_5, reduceIte, Nat.reduceEqDiff, Nat.add_zero, rI_hold, rI_hold, rL_hold, hk, hk1, he67]; done) | (simp (disch := omega) only [rI, rIe, rA, rIA, rLA, rJA, rVI, rQI, rVA, rQA, upd_at,  rAI, rLI, rJI, nI_add, pk_sub, kc_0, kc_1, kc_2, kc_3, kc_4, kc_5, reduceIte, Nat.reduceEqDiff, Nat.add_zero, rI_hold, rI_hold, rL_hold, hk, hk1, he67]; exact congrArg nI (by omega))) ?_
  refine Bod.bip 7 (by decide) dc_333_59 ?_
  refine Bod.icT dc_333_61 rfl (k2_eq_T (k_eq e67 7 rfl rfl (by omega))) ?_
  refine Bod.ic 0 (by decide) dc_333_89 ?_
  refine Bod.istn dc_333_90 (by rw [ml_333]; exact Nat.le_of_ble_eq_true rfl) ?_
  refine Bod.aldnG dc_333_91 (by repeat (first | exact q0 | exact sm_get_p1 | exact sm_get_p2e | refine sm_get_p1m (by decide) (by decide) ?_ | refine sm_get_p1n (by decide) rfl ?_ | refine sm_get_p2n (by decide) (by decide) rfl ?_)) ?_
  refine Bod.get dc_333_92 fr_333_129 (mk_61 _) rfl ?_
  refine Bod.aldnG dc_333_95 (by repeat (first | exact q0 | exact sm_get_p1 | exact sm_get_p2e | refine sm_get_p1m (by decide) (by decide) ?_ | refine sm_get_p1n (by decide) rfl ?_ | refine sm_get_p2n (by decide) (by decide) rfl ?_)) ?_
  refine Bod.get dc_333_96 fr_333_190 (mk_61 _) rfl ?_
  refine Bod.eqI (nI k1) (by first | (simp (disch := omega) only [rI, rIe, rA, rIA, rLA, rJA, rVI, rQI, rVA, rQA, upd_at,  rAI, rLI, rJI, nI_add, pk_sub, kc_0, kc_1, kc_2, kc_3, kc_4, kc_5, reduceIte, Nat.reduceEqDiff, Nat.add_zero, rI_hold, rI_hold, rL_hold, hk, hk1, he67]; done) | (simp (disch := omega) only [rI, rIe, rA, rIA, rLA, rJA, rVI, rQI, rVA, rQA, upd_at,  rAI, rLI, rJI, nI_add, pk_sub, kc_0, kc_1, kc_2, kc_3, kc_4, kc_5, reduceIte, Nat.reduceEqDiff, Nat.add_zero, rI_hold, rI_hold, rL_hold, hk, hk1, he67]; exact congrArg nI (by omega))) ?_
  refine Bod.ialdN k1 rfl (by omega) (by omega) dc_333_99 (mk_67 _) ?_
  refine Bod.eqI (nI e67) (by first | (simp (disch := omega) only [rI, rIe, rA, rIA, rLA, rJA, rVI, rQI, rVA, rQA, upd_at,  rAI, rLI, rJI, nI_add, pk_sub, kc_0, kc_1, kc_2, kc_3, kc_4, kc_5, reduceIte, Nat.reduceEqDiff, Nat.add_zero, rI_hold, rI_hold, rL_hold, hk, hk1, he67]; done) | (simp (disch := omega) only [rI, rIe, rA, rIA, rLA, rJA, rVI, rQI, rVA, rQA, upd_at,  rAI, rLI, rJI, nI_add, pk_sub, kc_0, kc_1, kc_2, kc_3, kc_4, kc_5, reduceIte, Nat.reduceEqDiff, Nat.add_zero, rI_hold, rI_hold, rL_hold, hk, hk1, he67]; exact congrArg nI (by omega))) ?_
  refine Bod.bip 7 (by decide) dc_333_100 ?_
  refine Bod.icT dc_333_102 rfl (k2_eq_T (k_eq e67 7 rfl rfl (by omega))) ?_
  refine Bod.ic 0 (by decide) dc_333_130 ?_
  refine Bod.ist dc_333_131 (by rw [ml_333]; exact Nat.le_of_ble_eq_true rfl) ?_
  refine Bod.ildnG dc_333_133 (by repeat (first | exact q0 | exact sm_get_p1 | exact sm_get_p2e | refine sm_get_p1m (by decide) (by decide) ?_ | refine sm_get_p1n (by decide) rfl ?_ | refine sm_get_p2n (by decide) (by decide) rfl ?_)) ?_
  refine Bod.ifF dc_333_134 rfl (k1_ne_F (k_eq 0 0 rfl rfl (by omega))) ?_
  refine Bod.ildG dc_333_137 (by repeat (first | exact q0 | exact sm_get_p1 | exact sm_get_p2e | refine sm_get_p1m (by decide) (by decide) ?_ | refine sm_get_p1n (by decide) rfl ?_ | refine sm_get_p2n (by decide) (by decide) rfl ?_)) ?_
  refine Bod.ifT dc_333_139 rfl (k1_eq_T (k_eq 0 0 rfl rfl (by omega))) ?_
  refine Bod.aldnG dc_333_167 (by repeat (first | exact q0 | exact sm_get_p1 | exact sm_get_p2e | refine sm_get_p1m (by decide) (by decide) ?_ | refine sm_get_p1n (by decide) rfl ?_ | refine sm_get_p2n (by decide) (by decide) rfl ?_)) ?_
  refine Bod.ildG dc_333_168 (by repeat (first | exact q0 | exact sm_get_p1 | exact sm_get_p2e | refine sm_get_p1m (by decide) (by decide) ?_ | refine sm_get_p1n (by decide) rfl ?_ | refine sm_get_p2n (by decide) (by decide) rfl ?_)) ?_
  refine Bod.virt (r := []) dc_333_170 kr_333_317 ⟨Or.inl rfl, ow_326, cl_14⟩ (by rw [np_326]; rfl) (by rw [np_326]; rfl) (ob_of (mk_61 _)) (Nat.le_of_ble_eq_true rfl) (c4  ) ?_
  show Bod _ _ _ _ [] _ _ _
  refine Bod.ildG dc_333_173 (by repeat (first | exact q0 | exact sm_get_p1 | exact sm_get_p2e | refine sm_get_p1m (by decide) (by decide) ?_ | refine sm_get_p1n (by decide) rfl ?_ | refine sm_get_p2n (by decide) (by decide) rfl ?_)) ?_
  refine Bod.ifF dc_333_175 rfl (k1_ne_F (k_eq 0 0 rfl rfl (by omega))) ?_
  refine Bod.go dc_333_178 rfl ?_
  exact hB _ (by repeat (first | exact q0 | exact sm_get_p1 | exact sm_get_p2e | refine sm_get_p1m (by decide) (by decide) ?_ | refine sm_get_p1n (by decide) rfl ?_ | refine sm_get_p2n (by decide) (by decide) rfl ?_)) (by repeat (first | exact q1 | exact sm_get_p1 | exact sm_get_p2e | refine sm_get_p1m (by decide) (by decide) ?_ | refine sm_get_p1n (by decide) rfl ?_ | refine sm_get_p2n (by decide) (by decide) rfl ?_)) (by repeat (first | exact q2 | exact sm_get_p1 | exact sm_get_p2e | refine sm_get_p1m (by decide) (by decide) ?_ | refine sm_get_p1n (by decide) rfl ?_ | refine sm_get_p2n (by decide) (by decide) rfl ?_)) (by repeat (first | exact q0 | exact sm_get_p1 | exact sm_get_p2e | refine sm_get_p1m (by decide) (by decide) ?_ | refine sm_get_p1n (by decide) rfl ?_ | refine sm_get_p2n (by decide) (by decide) rfl ?_))
theorem zChL_2 {d : Nat} {S Sf : cS} {v : Option Value} {lv : sm_L} {la : Nat} {le : Nat} {k : Nat} {S1 : cS} {S2 : cS} {a : Nat} {S3 : cS} {k1 : Nat} {e67 : Nat} {e70 : Nat} {S4 : cS} (q0 : sm_get lv 0 = some (.ref 61)) (q1 : sm_get lv 1 = some (.int (nI la))) (q2 : sm_get lv 2 = some (.int (nI le))) (q3 : sm_get lv 3 = some (.int (nI 1))) (mla : la < 2 ^ 20) (mle : le < 2 ^ 20) (hk : sI S 6115 = nI k) (mk : k < 6001) (c1 : Ans (d + 8) 306 [.ref 61, .int (nI 0)] (wI 6115 (nI (k + 1)) S) (some (.int (nI 1))) S1) (ma : a < 2 ^ 20) (c2 : Ans (d + 8) 325 [.ref 61, .int (nI 12)] S1 (some (.int (nI a))) S2) (c3 : Ans (d + 8) 334 [.ref 61, .int (nI la), .int (nI 0)] S2 (some (.int (nI 1))) S3) (hk1 : sI S3 6115 = nI k1) (mk1 : k1 < 6001) (he67 : sA S3 67 k1 = nI e67) (me67 : e67 < 2 ^ 20) (b1 : e67 ≠ 7) (he70 : sA S3 70 k1 = nI e70) (me70 : e70 < 2 ^ 20) (b2 : e70 ≠ la) (c4 : Ans (d + 8) 326 [.ref 61, .int (nI a)] S3 none S4) (hB : ∀ lv1 : sm_L, sm_get lv1 0 = some (.ref 61) → sm_get lv1 1 = some (.int (nI la)) → sm_get lv1 2 = some (.int (nI le)) → sm_get lv1 3 = some (.int (nI 0)) → Bod (d + 8) 333 7 lv1 [] (S4) v Sf) : Bod (d + 8) 333 7 lv [] S v Sf := by
  refine Bod.ildnG dc_333_7 (by repeat (first | exact q3 | exact sm_get_p1 | exact sm_get_p2e | refine sm_get_p1m (by decide) (by decide) ?_ | refine sm_get_p1n (by decide) rfl ?_ | refine sm_get_p2n (by decide) (by decide) rfl ?_)) ?_
  refine Bod.ifF dc_333_8 rfl (k1_eq_F (k_ne 1 0 rfl rfl (by omega) (by omega) (by omega))) ?_
  refine Bod.aldnG dc_333_11 (by repeat (first | exact q0 | exact sm_get_p1 | exact sm_get_p2e | refine sm_get_p1m (by decide) (by decide) ?_ | refine sm_get_p1n (by decide) rfl ?_ | refine sm_get_p2n (by decide) (by decide) rfl ?_)) ?_
  refine Bod.go dc_333_12 rfl ?_
  refine Bod.get dc_333_13 fr_333_190 (mk_61 _) rfl ?_
  refine Bod.eqI (nI k) (by first | assumption | rfl | exact congrArg nI (by omega) | (simp (disch := omega) only [rI, rIe, rA, rIA, rLA, rJA, rVI, rQI, rVA, rQA, upd_at,  rAI, rLI, rJI, nI_add, pk_sub, kc_0, kc_1, kc_2, kc_3, kc_4, kc_5, reduceIte, Nat.reduceEqDiff, Nat.add_zero, rI_hold, rI_hold, rL_hold, hk]; done)) ?_
  refine Bod.ic 1 (by decide) dc_333_16 ?_
  refine Bod.addN (k + 1) (by omega) dc_333_17 ?_
  refine Bod.put dc_333_18 fr_333_190 (mk_61 _) (Nat.le_of_ble_eq_true rfl) pf_14_15 (st_6115 _ _) (mu_I _ _ _) ?_
  refine Bod.aldnG dc_333_21 (by repeat (first | exact q0 | exact sm_get_p1 | exact sm_get_p2e | refine sm_get_p1m (by decide) (by decide) ?_ | refine sm_get_p1n (by decide) rfl ?_ | refine sm_get_p2n (by decide) (by decide) rfl ?_)) ?_
  refine Bod.ic 0 (by decide) dc_333_22 ?_
  refine Bod.virt (r := []) dc_333_23 kr_333_302 ⟨Or.inl rfl, ow_306, cl_14⟩ (by rw [np_306]; rfl) (by rw [np_306]; rfl) (ob_of (mk_61 _)) (Nat.le_of_ble_eq_true rfl) (c1  ) ?_
  show Bod _ _ _ _ [_] _ _ _
  refine Bod.ifT dc_333_26 rfl (k1_ne_T (k_ne 1 0 rfl rfl (by omega) (by omega) (by omega))) ?_
  refine Bod.aldnG dc_333_31 (by repeat (first | exact q0 | exact sm_get_p1 | exact sm_get_p2e | refine sm_get_p1m (by decide) (by decide) ?_ | refine sm_get_p1n (by decide) rfl ?_ | refine sm_get_p2n (by decide) (by decide) rfl ?_)) ?_
  refine Bod.bip 12 (by decide) dc_333_32 ?_
  refine Bod.virt (r := []) dc_333_34 kr_333_305 ⟨Or.inl rfl, ow_325, cl_14⟩ (by rw [np_325]; rfl) (by rw [np_325]; rfl) (ob_of (mk_61 _)) (Nat.le_of_ble_eq_true rfl) (c2  ) ?_
  show Bod _ _ _ _ [_] _ _ _
  refine Bod.ist dc_333_37 (by rw [ml_333]; exact Nat.le_of_ble_eq_true rfl) ?_
  refine Bod.aldnG dc_333_39 (by repeat (first | exact q0 | exact sm_get_p1 | exact sm_get_p2e | refine sm_get_p1m (by decide) (by decide) ?_ | refine sm_get_p1n (by decide) rfl ?_ | refine sm_get_p2n (by decide) (by decide) rfl ?_)) ?_
  refine Bod.ildnG dc_333_40 (by repeat (first | exact q1 | exact sm_get_p1 | exact sm_get_p2e | refine sm_get_p1m (by decide) (by decide) ?_ | refine sm_get_p1n (by decide) rfl ?_ | refine sm_get_p2n (by decide) (by decide) rfl ?_)) ?_
  refine Bod.ic 0 (by decide) dc_333_41 ?_
  refine Bod.virt (r := []) dc_333_42 kr_333_309 ⟨Or.inl rfl, ow_334, cl_14⟩ (by rw [np_334]; rfl) (by rw [np_334]; rfl) (ob_of (mk_61 _)) (Nat.le_of_ble_eq_true rfl) (c3  ) ?_
  show Bod _ _ _ _ [_] _ _ _
  refine Bod.ifT dc_333_45 rfl (k1_ne_T (k_ne 1 0 rfl rfl (by omega) (by omega) (by omega))) ?_
  refine Bod.aldnG dc_333_50 (by repeat (first | exact q0 | exact sm_get_p1 | exact sm_get_p2e | refine sm_get_p1m (by decide) (by decide) ?_ | refine sm_get_p1n (by decide) rfl ?_ | refine sm_get_p2n (by decide) (by decide) rfl ?_)) ?_
  refine Bod.get dc_333_51 fr_333_129 (mk_61 _) rfl ?_
  refine Bod.aldnG dc_333_54 (by repeat (first | exact q0 | exact sm_get_p1 | exact sm_get_p2e | refine sm_get_p1m (by decide) (by decide) ?_ | refine sm_get_p1n (by decide) rfl ?_ | refine sm_get_p2n (by decide) (by decide) rfl ?_)) ?_
  refine Bod.get dc_333_55 fr_333_190 (mk_61 _) rfl ?_
  refine Bod.eqI (nI k1) (by first | (simp (disch := omega) only [rI, rIe, rA, rIA, rLA, rJA, rVI, rQI, rVA, rQA, upd_at,  rAI, rLI, rJI, nI_add, pk_sub, kc_0, kc_1, kc_2, kc_3, kc_4, kc_5, reduceIte, Nat.reduceEqDiff, Nat.add_zero, rI_hold, rI_hold, rL_hold, hk, hk1]; done) | (simp (disch := omega) only [rI, rIe, rA, rIA, rLA, rJA, rVI, rQI, rVA, rQA, upd_at,  rAI, rLI, rJI, nI_add, pk_sub, kc_0, kc_1, kc_2, kc_3, kc_4, kc_5, reduceIte, Nat.reduceEqDiff, Nat.add_zero, rI_hold, rI_hold, rL_hold, hk, hk1]; exact congrArg nI (by omega))) ?_
  refine Bod.ialdN k1 rfl (by omega) (by omega) dc_333_58 (mk_67 _) ?_
  refine Bod.eqI (nI e67) (by first | (simp (disch := omega) only [rI, rIe, rA, rIA, rLA, rJA, rVI, rQI, rVA, rQA, upd_at,  rAI, rLI, rJI, nI_add, pk_sub, kc_0, kc_1, kc_2, kc_3, kc_4, kc_5, reduceIte, Nat.reduceEqDiff, Nat.add_zero, rI_hold, rI_hold, rL_hold, hk, hk1, he67]; done) | (simp (disch := omega) only [rI, rIe, rA, rIA, rLA, rJA, rVI, rQI, rVA, rQA, upd_at,  rAI, rLI, rJI, nI_add, pk_sub, kc_0, kc_1, kc_2, kc_3, kc_4, kc_5, reduceIte, Nat.reduceEqDiff, Nat.add_zero, rI_hold, rI_hold, rL_hold, hk, hk1, he67]; exact congrArg nI (by omega))) ?_
  refine Bod.bip 7 (by decide) dc_333_59 ?_
  refine Bod.icF dc_333_61 rfl (k2_eq_F (k_ne e67 7 rfl rfl (by omega) (by omega) (by omega))) ?_
  refine Bod.aldnG dc_333_64 (by repeat (first | exact q0 | exact sm_get_p1 | exact sm_get_p2e | refine sm_get_p1m (by decide) (by decide) ?_ | refine sm_get_p1n (by decide) rfl ?_ | refine sm_get_p2n (by decide) (by decide) rfl ?_)) ?_
  refine Bod.get dc_333_65 fr_333_141 (mk_61 _) rfl ?_
  refine Bod.aldnG dc_333_68 (by repeat (first | exact q0 | exact sm_get_p1 | exact sm_get_p2e | refine sm_get_p1m (by decide) (by decide) ?_ | refine sm_get_p1n (by decide) rfl ?_ | refine sm_get_p2n (by decide) (by decide) rfl ?_)) ?_
  refine Bod.get dc_333_69 fr_333_190 (mk_61 _) rfl ?_
  refine Bod.eqI (nI k1) (by first | (simp (disch := omega) only [rI, rIe, rA, rIA, rLA, rJA, rVI, rQI, rVA, rQA, upd_at,  rAI, rLI, rJI, nI_add, pk_sub, kc_0, kc_1, kc_2, kc_3, kc_4, kc_5, reduceIte, Nat.reduceEqDiff, Nat.add_zero, rI_hold, rI_hold, rL_hold, hk, hk1, he67]; done) | (simp (disch := omega) only [rI, rIe, rA, rIA, rLA, rJA, rVI, rQI, rVA, rQA, upd_at,  rAI, rLI, rJI, nI_add, pk_sub, kc_0, kc_1, kc_2, kc_3, kc_4, kc_5, reduceIte, Nat.reduceEqDiff, Nat.add_zero, rI_hold, rI_hold, rL_hold, hk, hk1, he67]; exact congrArg nI (by omega))) ?_
  refine Bod.ialdN k1 rfl (by omega) (by omega) dc_333_72 (mk_70 _) ?_
  refine Bod.eqI (nI e70) (by first | (simp (disch := omega) only [rI, rIe, rA, rIA, rLA, rJA, rVI, rQI, rVA, rQA, upd_at,  rAI, rLI, rJI, nI_add, pk_sub, kc_0, kc_1, kc_2, kc_3, kc_4, kc_5, reduceIte, Nat.reduceEqDiff, Nat.add_zero, rI_hold, rI_hold, rL_hold, hk, hk1, he67, he70]; done) | (simp (disch := omega) only [rI, rIe, rA, rIA, rLA, rJA, rVI, rQI, rVA, rQA, upd_at,  rAI, rLI, rJI, nI_add, pk_sub, kc_0, kc_1, kc_2, kc_3, kc_4, kc_5, reduceIte, Nat.reduceEqDiff, Nat.add_zero, rI_hold, rI_hold, rL_hold, hk, hk1, he67, he70]; exact congrArg nI (by omega))) ?_
  refine Bod.ildnG dc_333_73 (by repeat (first | exact q1 | exact sm_get_p1 | exact sm_get_p2e | refine sm_get_p1m (by decide) (by decide) ?_ | refine sm_get_p1n (by decide) rfl ?_ | refine sm_get_p2n (by decide) (by decide) rfl ?_)) ?_
  refine Bod.icT dc_333_74 rfl (k2_ne_T (k_ne e70 la rfl rfl (by omega) (by omega) (by omega))) ?_
  refine Bod.ic 0 (by decide) dc_333_89 ?_
  refine Bod.istn dc_333_90 (by rw [ml_333]; exact Nat.le_of_ble_eq_true rfl) ?_
  refine Bod.aldnG dc_333_91 (by repeat (first | exact q0 | exact sm_get_p1 | exact sm_get_p2e | refine sm_get_p1m (by decide) (by decide) ?_ | refine sm_get_p1n (by decide) rfl ?_ | refine sm_get_p2n (by decide) (by decide) rfl ?_)) ?_
  refine Bod.get dc_333_92 fr_333_129 (mk_61 _) rfl ?_
  refine Bod.aldnG dc_333_95 (by repeat (first | exact q0 | exact sm_get_p1 | exact sm_get_p2e | refine sm_get_p1m (by decide) (by decide) ?_ | refine sm_get_p1n (by decide) rfl ?_ | refine sm_get_p2n (by decide) (by decide) rfl ?_)) ?_
  refine Bod.get dc_333_96 fr_333_190 (mk_61 _) rfl ?_
  refine Bod.eqI (nI k1) (by first | (simp (disch := omega) only [rI, rIe, rA, rIA, rLA, rJA, rVI, rQI, rVA, rQA, upd_at,  rAI, rLI, rJI, nI_add, pk_sub, kc_0, kc_1, kc_2, kc_3, kc_4, kc_5, reduceIte, Nat.reduceEqDiff, Nat.add_zero, rI_hold, rI_hold, rL_hold, hk, hk1, he67, he70]; done) | (simp (disch := omega) only [rI, rIe, rA, rIA, rLA, rJA, rVI, rQI, rVA, rQA, upd_at,  rAI, rLI, rJI, nI_add, pk_sub, kc_0, kc_1, kc_2, kc_3, kc_4, kc_5, reduceIte, Nat.reduceEqDiff, Nat.add_zero, rI_hold, rI_hold, rL_hold, hk, hk1, he67, he70]; exact congrArg nI (by omega))) ?_
  refine Bod.ialdN k1 rfl (by omega) (by omega) dc_333_99 (mk_67 _) ?_
  refine Bod.eqI (nI e67) (by first | (simp (disch := omega) only [rI, rIe, rA, rIA, rLA, rJA, rVI, rQI, rVA, rQA, upd_at,  rAI, rLI, rJI, nI_add, pk_sub, kc_0, kc_1, kc_2, kc_3, kc_4, kc_5, reduceIte, Nat.reduceEqDiff, Nat.add_zero, rI_hold, rI_hold, rL_hold, hk, hk1, he67, he70]; done) | (simp (disch := omega) only [rI, rIe, rA, rIA, rLA, rJA, rVI, rQI, rVA, rQA, upd_at,  rAI, rLI, rJI, nI_add, pk_sub, kc_0, kc_1, kc_2, kc_3, kc_4, kc_5, reduceIte, Nat.reduceEqDiff, Nat.add_zero, rI_hold, rI_hold, rL_hold, hk, hk1, he67, he70]; exact congrArg nI (by omega))) ?_
  refine Bod.bip 7 (by decide) dc_333_100 ?_
  refine Bod.icF dc_333_102 rfl (k2_eq_F (k_ne e67 7 rfl rfl (by omega) (by omega) (by omega))) ?_
  refine Bod.aldnG dc_333_105 (by repeat (first | exact q0 | exact sm_get_p1 | exact sm_get_p2e | refine sm_get_p1m (by decide) (by decide) ?_ | refine sm_get_p1n (by decide) rfl ?_ | refine sm_get_p2n (by decide) (by decide) rfl ?_)) ?_
  refine Bod.get dc_333_106 fr_333_141 (mk_61 _) rfl ?_
  refine Bod.aldnG dc_333_109 (by repeat (first | exact q0 | exact sm_get_p1 | exact sm_get_p2e | refine sm_get_p1m (by decide) (by decide) ?_ | refine sm_get_p1n (by decide) rfl ?_ | refine sm_get_p2n (by decide) (by decide) rfl ?_)) ?_
  refine Bod.get dc_333_110 fr_333_190 (mk_61 _) rfl ?_
  refine Bod.eqI (nI k1) (by first | (simp (disch := omega) only [rI, rIe, rA, rIA, rLA, rJA, rVI, rQI, rVA, rQA, upd_at,  rAI, rLI, rJI, nI_add, pk_sub, kc_0, kc_1, kc_2, kc_3, kc_4, kc_5, reduceIte, Nat.reduceEqDiff, Nat.add_zero, rI_hold, rI_hold, rL_hold, hk, hk1, he67, he70]; done) | (simp (disch := omega) only [rI, rIe, rA, rIA, rLA, rJA, rVI, rQI, rVA, rQA, upd_at,  rAI, rLI, rJI, nI_add, pk_sub, kc_0, kc_1, kc_2, kc_3, kc_4, kc_5, reduceIte, Nat.reduceEqDiff, Nat.add_zero, rI_hold, rI_hold, rL_hold, hk, hk1, he67, he70]; exact congrArg nI (by omega))) ?_
  refine Bod.ialdN k1 rfl (by omega) (by omega) dc_333_113 (mk_70 _) ?_
  refine Bod.eqI (nI e70) (by first | (simp (disch := omega) only [rI, rIe, rA, rIA, rLA, rJA, rVI, rQI, rVA, rQA, upd_at,  rAI, rLI, rJI, nI_add, pk_sub, kc_0, kc_1, kc_2, kc_3, kc_4, kc_5, reduceIte, Nat.reduceEqDiff, Nat.add_zero, rI_hold, rI_hold, rL_hold, hk, hk1, he67, he70]; done) | (simp (disch := omega) only [rI, rIe, rA, rIA, rLA, rJA, rVI, rQI, rVA, rQA, upd_at,  rAI, rLI, rJI, nI_add, pk_sub, kc_0, kc_1, kc_2, kc_3, kc_4, kc_5, reduceIte, Nat.reduceEqDiff, Nat.add_zero, rI_hold, rI_hold, rL_hold, hk, hk1, he67, he70]; exact congrArg nI (by omega))) ?_
  refine Bod.ildnG dc_333_114 (by repeat (first | exact q1 | exact sm_get_p1 | exact sm_get_p2e | refine sm_get_p1m (by decide) (by decide) ?_ | refine sm_get_p1n (by decide) rfl ?_ | refine sm_get_p2n (by decide) (by decide) rfl ?_)) ?_
  refine Bod.icT dc_333_115 rfl (k2_ne_T (k_ne e70 la rfl rfl (by omega) (by omega) (by omega))) ?_
  refine Bod.ic 0 (by decide) dc_333_130 ?_
  refine Bod.ist dc_333_131 (by rw [ml_333]; exact Nat.le_of_ble_eq_true rfl) ?_
  refine Bod.ildnG dc_333_133 (by repeat (first | exact q0 | exact sm_get_p1 | exact sm_get_p2e | refine sm_get_p1m (by decide) (by decide) ?_ | refine sm_get_p1n (by decide) rfl ?_ | refine sm_get_p2n (by decide) (by decide) rfl ?_)) ?_
  refine Bod.ifF dc_333_134 rfl (k1_ne_F (k_eq 0 0 rfl rfl (by omega))) ?_
  refine Bod.ildG dc_333_137 (by repeat (first | exact q0 | exact sm_get_p1 | exact sm_get_p2e | refine sm_get_p1m (by decide) (by decide) ?_ | refine sm_get_p1n (by decide) rfl ?_ | refine sm_get_p2n (by decide) (by decide) rfl ?_)) ?_
  refine Bod.ifT dc_333_139 rfl (k1_eq_T (k_eq 0 0 rfl rfl (by omega))) ?_
  refine Bod.aldnG dc_333_167 (by repeat (first | exact q0 | exact sm_get_p1 | exact sm_get_p2e | refine sm_get_p1m (by decide) (by decide) ?_ | refine sm_get_p1n (by decide) rfl ?_ | refine sm_get_p2n (by decide) (by decide) rfl ?_)) ?_
  refine Bod.ildG dc_333_168 (by repeat (first | exact q0 | exact sm_get_p1 | exact sm_get_p2e | refine sm_get_p1m (by decide) (by decide) ?_ | refine sm_get_p1n (by decide) rfl ?_ | refine sm_get_p2n (by decide) (by decide) rfl ?_)) ?_
  refine Bod.virt (r := []) dc_333_170 kr_333_317 ⟨Or.inl rfl, ow_326, cl_14⟩ (by rw [np_326]; rfl) (by rw [np_326]; rfl) (ob_of (mk_61 _)) (Nat.le_of_ble_eq_true rfl) (c4  ) ?_
  show Bod _ _ _ _ [] _ _ _
  refine Bod.ildG dc_333_173 (by repeat (first | exact q0 | exact sm_get_p1 | exact sm_get_p2e | refine sm_get_p1m (by decide) (by decide) ?_ | refine sm_get_p1n (by decide) rfl ?_ | refine sm_get_p2n (by decide) (by decide) rfl ?_)) ?_
  refine Bod.ifF dc_333_175 rfl (k1_ne_F (k_eq 0 0 rfl rfl (by omega))) ?_
  refine Bod.go dc_333_178 rfl ?_
  exact hB _ (by repeat (first | exact q0 | exact sm_get_p1 | exact sm_get_p2e | refine sm_get_p1m (by decide) (by decide) ?_ | refine sm_get_p1n (by decide) rfl ?_ | refine sm_get_p2n (by decide) (by decide) rfl ?_)) (by repeat (first | exact q1 | exact sm_get_p1 | exact sm_get_p2e | refine sm_get_p1m (by decide) (by decide) ?_ | refine sm_get_p1n (by decide) rfl ?_ | refine sm_get_p2n (by decide) (by decide) rfl ?_)) (by repeat (first | exact q2 | exact sm_get_p1 | exact sm_get_p2e | refine sm_get_p1m (by decide) (by decide) ?_ | refine sm_get_p1n (by decide) rfl ?_ | refine sm_get_p2n (by decide) (by decide) rfl ?_)) (by repeat (first | exact q0 | exact sm_get_p1 | exact sm_get_p2e | refine sm_get_p1m (by decide) (by decide) ?_ | refine sm_get_p1n (by decide) rfl ?_ | refine sm_get_p2n (by decide) (by decide) rfl ?_))
theorem zChL_3 {d : Nat} {S Sf : cS} {v : Option Value} {lv : sm_L} {la : Nat} {le : Nat} {k : Nat} {S1 : cS} {S2 : cS} {a : Nat} {S3 : cS} {k1 : Nat} {e67 : Nat} {e70 : Nat} {S4 : cS} {k2 : Nat} {e671 : Nat} {en : Nat} {S5 : cS} {a1 : Nat} {en1 : Nat} {S6 : cS} (q0 : sm_get lv 0 = some (.ref 61)) (q1 : sm_get lv 1 = some (.int (nI la))) (q2 : sm_get lv 2 = some (.int (nI le))) (q3 : sm_get lv 3 = some (.int (nI 1))) (mla : la < 2 ^ 20) (mle : le < 2 ^ 20) (hk : sI S 6115 = nI k) (mk : k < 6001) (c1 : Ans (d + 8) 306 [.ref 61, .int (nI 0)] (wI 6115 (nI (k + 1)) S) (some (.int (nI 1))) S1) (ma : a < 2 ^ 20) (c2 : Ans (d + 8) 325 [.ref 61, .int (nI 12)] S1 (some (.int (nI a))) S2) (c3 : Ans (d + 8) 334 [.ref 61, .int (nI la), .int (nI 0)] S2 (some (.int (nI 1))) S3) (hk1 : sI S3 6115 = nI k1) (mk1 : k1 < 6001) (he67 : sA S3 67 k1 = nI e67) (me67 : e67 < 2 ^ 20) (b1 : e67 ≠ 7) (he70 : sA S3 70 k1 = nI e70) (me70 : e70 < 2 ^ 20) (b2 : e70 = la) (c4 : Ans (d + 8) 309 [.ref 61, .int (nI 1)] S3 (some (.int (nI 1))) S4) (hk2 : sI S4 6115 = nI k2) (mk2 : k2 < 6001) (he671 : sA S4 67 k2 = nI e671) (me671 : e671 < 2 ^ 20) (b3 : e671 = 7) (hen : sI S4 6134 = nI en) (men : en < 3000) (ma1 : a1 < 2 ^ 20) (c5 : Ans (d + 8) 325 [.ref 61, .int (nI 11)] S4 (some (.int (nI a1))) S5) (hen1 : sI (wA 81 en (nI a1) S5) 6134 = nI en1) (men1 : en1 < 3000) (c6 : Ans (d + 8) 326 [.ref 61, .int (nI a)] (wI 6134 (nI (en1 + 1)) (wA 81 en (nI a1) S5)) none S6) (hB : ∀ lv1 : sm_L, sm_get lv1 0 = some (.ref 61) → sm_get lv1 1 = some (.int (nI la)) → sm_get lv1 2 = some (.int (nI le)) → sm_get lv1 3 = some (.int (nI 1)) → Bod (d + 8) 333 7 lv1 [] (S6) v Sf) : Bod (d + 8) 333 7 lv [] S v Sf := by
  refine Bod.ildnG dc_333_7 (by repeat (first | exact q3 | exact sm_get_p1 | exact sm_get_p2e | refine sm_get_p1m (by decide) (by decide) ?_ | refine sm_get_p1n (by decide) rfl ?_ | refine sm_get_p2n (by decide) (by decide) rfl ?_)) ?_
  refine Bod.ifF dc_333_8 rfl (k1_eq_F (k_ne 1 0 rfl rfl (by omega) (by omega) (by omega))) ?_
  refine Bod.aldnG dc_333_11 (by repeat (first | exact q0 | exact sm_get_p1 | exact sm_get_p2e | refine sm_get_p1m (by decide) (by decide) ?_ | refine sm_get_p1n (by decide) rfl ?_ | refine sm_get_p2n (by decide) (by decide) rfl ?_)) ?_
  refine Bod.go dc_333_12 rfl ?_
  refine Bod.get dc_333_13 fr_333_190 (mk_61 _) rfl ?_
  refine Bod.eqI (nI k) (by first | assumption | rfl | exact congrArg nI (by omega) | (simp (disch := omega) only [rI, rIe, rA, rIA, rLA, rJA, rVI, rQI, rVA, rQA, upd_at,  rAI, rLI, rJI, nI_add, pk_sub, kc_0, kc_1, kc_2, kc_3, kc_4, kc_5, reduceIte, Nat.reduceEqDiff, Nat.add_zero, rI_hold, rI_hold, rL_hold, hk]; done)) ?_
  refine Bod.ic 1 (by decide) dc_333_16 ?_
  refine Bod.addN (k + 1) (by omega) dc_333_17 ?_
  refine Bod.put dc_333_18 fr_333_190 (mk_61 _) (Nat.le_of_ble_eq_true rfl) pf_14_15 (st_6115 _ _) (mu_I _ _ _) ?_
  refine Bod.aldnG dc_333_21 (by repeat (first | exact q0 | exact sm_get_p1 | exact sm_get_p2e | refine sm_get_p1m (by decide) (by decide) ?_ | refine sm_get_p1n (by decide) rfl ?_ | refine sm_get_p2n (by decide) (by decide) rfl ?_)) ?_
  refine Bod.ic 0 (by decide) dc_333_22 ?_
  refine Bod.virt (r := []) dc_333_23 kr_333_302 ⟨Or.inl rfl, ow_306, cl_14⟩ (by rw [np_306]; rfl) (by rw [np_306]; rfl) (ob_of (mk_61 _)) (Nat.le_of_ble_eq_true rfl) (c1  ) ?_
  show Bod _ _ _ _ [_] _ _ _
  refine Bod.ifT dc_333_26 rfl (k1_ne_T (k_ne 1 0 rfl rfl (by omega) (by omega) (by omega))) ?_
  refine Bod.aldnG dc_333_31 (by repeat (first | exact q0 | exact sm_get_p1 | exact sm_get_p2e | refine sm_get_p1m (by decide) (by decide) ?_ | refine sm_get_p1n (by decide) rfl ?_ | refine sm_get_p2n (by decide) (by decide) rfl ?_)) ?_
  refine Bod.bip 12 (by decide) dc_333_32 ?_
  refine Bod.virt (r := []) dc_333_34 kr_333_305 ⟨Or.inl rfl, ow_325, cl_14⟩ (by rw [np_325]; rfl) (by rw [np_325]; rfl) (ob_of (mk_61 _)) (Nat.le_of_ble_eq_true rfl) (c2  ) ?_
  show Bod _ _ _ _ [_] _ _ _
  refine Bod.ist dc_333_37 (by rw [ml_333]; exact Nat.le_of_ble_eq_true rfl) ?_
  refine Bod.aldnG dc_333_39 (by repeat (first | exact q0 | exact sm_get_p1 | exact sm_get_p2e | refine sm_get_p1m (by decide) (by decide) ?_ | refine sm_get_p1n (by decide) rfl ?_ | refine sm_get_p2n (by decide) (by decide) rfl ?_)) ?_
  refine Bod.ildnG dc_333_40 (by repeat (first | exact q1 | exact sm_get_p1 | exact sm_get_p2e | refine sm_get_p1m (by decide) (by decide) ?_ | refine sm_get_p1n (by decide) rfl ?_ | refine sm_get_p2n (by decide) (by decide) rfl ?_)) ?_
  refine Bod.ic 0 (by decide) dc_333_41 ?_
  refine Bod.virt (r := []) dc_333_42 kr_333_309 ⟨Or.inl rfl, ow_334, cl_14⟩ (by rw [np_334]; rfl) (by rw [np_334]; rfl) (ob_of (mk_61 _)) (Nat.le_of_ble_eq_true rfl) (c3  ) ?_
  show Bod _ _ _ _ [_] _ _ _
  refine Bod.ifT dc_333_45 rfl (k1_ne_T (k_ne 1 0 rfl rfl (by omega) (by omega) (by omega))) ?_
  refine Bod.aldnG dc_333_50 (by repeat (first | exact q0 | exact sm_get_p1 | exact sm_get_p2e | refine sm_get_p1m (by decide) (by decide) ?_ | refine sm_get_p1n (by decide) rfl ?_ | refine sm_get_p2n (by decide) (by decide) rfl ?_)) ?_
  refine Bod.get dc_333_51 fr_333_129 (mk_61 _) rfl ?_
  refine Bod.aldnG dc_333_54 (by repeat (first | exact q0 | exact sm_get_p1 | exact sm_get_p2e | refine sm_get_p1m (by decide) (by decide) ?_ | refine sm_get_p1n (by decide) rfl ?_ | refine sm_get_p2n (by decide) (by decide) rfl ?_)) ?_
  refine Bod.get dc_333_55 fr_333_190 (mk_61 _) rfl ?_
  refine Bod.eqI (nI k1) (by first | (simp (disch := omega) only [rI, rIe, rA, rIA, rLA, rJA, rVI, rQI, rVA, rQA, upd_at,  rAI, rLI, rJI, nI_add, pk_sub, kc_0, kc_1, kc_2, kc_3, kc_4, kc_5, reduceIte, Nat.reduceEqDiff, Nat.add_zero, rI_hold, rI_hold, rL_hold, hk, hk1]; done) | (simp (disch := omega) only [rI, rIe, rA, rIA, rLA, rJA, rVI, rQI, rVA, rQA, upd_at,  rAI, rLI, rJI, nI_add, pk_sub, kc_0, kc_1, kc_2, kc_3, kc_4, kc_5, reduceIte, Nat.reduceEqDiff, Nat.add_zero, rI_hold, rI_hold, rL_hold, hk, hk1]; exact congrArg nI (by omega))) ?_
  refine Bod.ialdN k1 rfl (by omega) (by omega) dc_333_58 (mk_67 _) ?_
  refine Bod.eqI (nI e67) (by first | (simp (disch := omega) only [rI, rIe, rA, rIA, rLA, rJA, rVI, rQI, rVA, rQA, upd_at,  rAI, rLI, rJI, nI_add, pk_sub, kc_0, kc_1, kc_2, kc_3, kc_4, kc_5, reduceIte, Nat.reduceEqDiff, Nat.add_zero, rI_hold, rI_hold, rL_hold, hk, hk1, he67]; done) | (simp (disch := omega) only [rI, rIe, rA, rIA, rLA, rJA, rVI, rQI, rVA, rQA, upd_at,  rAI, rLI, rJI, nI_add, pk_sub, kc_0, kc_1, kc_2, kc_3, kc_4, kc_5, reduceIte, Nat.reduceEqDiff, Nat.add_zero, rI_hold, rI_hold, rL_hold, hk, hk1, he67]; exact congrArg nI (by omega))) ?_
  refine Bod.bip 7 (by decide) dc_333_59 ?_
  refine Bod.icF dc_333_61 rfl (k2_eq_F (k_ne e67 7 rfl rfl (by omega) (by omega) (by omega))) ?_
  refine Bod.aldnG dc_333_64 (by repeat (first | exact q0 | exact sm_get_p1 | exact sm_get_p2e | refine sm_get_p1m (by decide) (by decide) ?_ | refine sm_get_p1n (by decide) rfl ?_ | refine sm_get_p2n (by decide) (by decide) rfl ?_)) ?_
  refine Bod.get dc_333_65 fr_333_141 (mk_61 _) rfl ?_
  refine Bod.aldnG dc_333_68 (by repeat (first | exact q0 | exact sm_get_p1 | exact sm_get_p2e | refine sm_get_p1m (by decide) (by decide) ?_ | refine sm_get_p1n (by decide) rfl ?_ | refine sm_get_p2n (by decide) (by decide) rfl ?_)) ?_
  refine Bod.get dc_333_69 fr_333_190 (mk_61 _) rfl ?_
  refine Bod.eqI (nI k1) (by first | (simp (disch := omega) only [rI, rIe, rA, rIA, rLA, rJA, rVI, rQI, rVA, rQA, upd_at,  rAI, rLI, rJI, nI_add, pk_sub, kc_0, kc_1, kc_2, kc_3, kc_4, kc_5, reduceIte, Nat.reduceEqDiff, Nat.add_zero, rI_hold, rI_hold, rL_hold, hk, hk1, he67]; done) | (simp (disch := omega) only [rI, rIe, rA, rIA, rLA, rJA, rVI, rQI, rVA, rQA, upd_at,  rAI, rLI, rJI, nI_add, pk_sub, kc_0, kc_1, kc_2, kc_3, kc_4, kc_5, reduceIte, Nat.reduceEqDiff, Nat.add_zero, rI_hold, rI_hold, rL_hold, hk, hk1, he67]; exact congrArg nI (by omega))) ?_
  refine Bod.ialdN k1 rfl (by omega) (by omega) dc_333_72 (mk_70 _) ?_
  refine Bod.eqI (nI e70) (by first | (simp (disch := omega) only [rI, rIe, rA, rIA, rLA, rJA, rVI, rQI, rVA, rQA, upd_at,  rAI, rLI, rJI, nI_add, pk_sub, kc_0, kc_1, kc_2, kc_3, kc_4, kc_5, reduceIte, Nat.reduceEqDiff, Nat.add_zero, rI_hold, rI_hold, rL_hold, hk, hk1, he67, he70]; done) | (simp (disch := omega) only [rI, rIe, rA, rIA, rLA, rJA, rVI, rQI, rVA, rQA, upd_at,  rAI, rLI, rJI, nI_add, pk_sub, kc_0, kc_1, kc_2, kc_3, kc_4, kc_5, reduceIte, Nat.reduceEqDiff, Nat.add_zero, rI_hold, rI_hold, rL_hold, hk, hk1, he67, he70]; exact congrArg nI (by omega))) ?_
  refine Bod.ildnG dc_333_73 (by repeat (first | exact q1 | exact sm_get_p1 | exact sm_get_p2e | refine sm_get_p1m (by decide) (by decide) ?_ | refine sm_get_p1n (by decide) rfl ?_ | refine sm_get_p2n (by decide) (by decide) rfl ?_)) ?_
  refine Bod.icF dc_333_74 rfl (k2_ne_F (k_eq e70 la rfl rfl (by omega))) ?_
  refine Bod.aldnG dc_333_77 (by repeat (first | exact q0 | exact sm_get_p1 | exact sm_get_p2e | refine sm_get_p1m (by decide) (by decide) ?_ | refine sm_get_p1n (by decide) rfl ?_ | refine sm_get_p2n (by decide) (by decide) rfl ?_)) ?_
  refine Bod.ic 1 (by decide) dc_333_78 ?_
  refine Bod.virt (r := []) dc_333_79 kr_333_312 ⟨Or.inl rfl, ow_309, cl_14⟩ (by rw [np_309]; rfl) (by rw [np_309]; rfl) (ob_of (mk_61 _)) (Nat.le_of_ble_eq_true rfl) (c4  ) ?_
  show Bod _ _ _ _ [_] _ _ _
  refine Bod.ifF dc_333_82 rfl (k1_eq_F (k_ne 1 0 rfl rfl (by omega) (by omega) (by omega))) ?_
  refine Bod.ic 1 (by decide) dc_333_85 ?_
  refine Bod.go dc_333_86 rfl ?_
  refine Bod.istn dc_333_90 (by rw [ml_333]; exact Nat.le_of_ble_eq_true rfl) ?_
  refine Bod.aldnG dc_333_91 (by repeat (first | exact q0 | exact sm_get_p1 | exact sm_get_p2e | refine sm_get_p1m (by decide) (by decide) ?_ | refine sm_get_p1n (by decide) rfl ?_ | refine sm_get_p2n (by decide) (by decide) rfl ?_)) ?_
  refine Bod.get dc_333_92 fr_333_129 (mk_61 _) rfl ?_
  refine Bod.aldnG dc_333_95 (by repeat (first | exact q0 | exact sm_get_p1 | exact sm_get_p2e | refine sm_get_p1m (by decide) (by decide) ?_ | refine sm_get_p1n (by decide) rfl ?_ | refine sm_get_p2n (by decide) (by decide) rfl ?_)) ?_
  refine Bod.get dc_333_96 fr_333_190 (mk_61 _) rfl ?_
  refine Bod.eqI (nI k2) (by first | (simp (disch := omega) only [rI, rIe, rA, rIA, rLA, rJA, rVI, rQI, rVA, rQA, upd_at,  rAI, rLI, rJI, nI_add, pk_sub, kc_0, kc_1, kc_2, kc_3, kc_4, kc_5, reduceIte, Nat.reduceEqDiff, Nat.add_zero, rI_hold, rI_hold, rL_hold, hk, hk1, he67, he70, hk2]; done) | (simp (disch := omega) only [rI, rIe, rA, rIA, rLA, rJA, rVI, rQI, rVA, rQA, upd_at,  rAI, rLI, rJI, nI_add, pk_sub, kc_0, kc_1, kc_2, kc_3, kc_4, kc_5, reduceIte, Nat.reduceEqDiff, Nat.add_zero, rI_hold, rI_hold, rL_hold, hk, hk1, he67, he70, hk2]; exact congrArg nI (by omega))) ?_
  refine Bod.ialdN k2 rfl (by omega) (by omega) dc_333_99 (mk_67 _) ?_
  refine Bod.eqI (nI e671) (by first | (simp (disch := omega) only [rI, rIe, rA, rIA, rLA, rJA, rVI, rQI, rVA, rQA, upd_at,  rAI, rLI, rJI, nI_add, pk_sub, kc_0, kc_1, kc_2, kc_3, kc_4, kc_5, reduceIte, Nat.reduceEqDiff, Nat.add_zero, rI_hold, rI_hold, rL_hold, hk, hk1, he67, he70, hk2, he671]; done) | (simp (disch := omega) only [rI, rIe, rA, rIA, rLA, rJA, rVI, rQI, rVA, rQA, upd_at,  rAI, rLI, rJI, nI_add, pk_sub, kc_0, kc_1, kc_2, kc_3, kc_4, kc_5, reduceIte, Nat.reduceEqDiff, Nat.add_zero, rI_hold, rI_hold, rL_hold, hk, hk1, he67, he70, hk2, he671]; exact congrArg nI (by omega))) ?_
  refine Bod.bip 7 (by decide) dc_333_100 ?_
  refine Bod.icT dc_333_102 rfl (k2_eq_T (k_eq e671 7 rfl rfl (by omega))) ?_
  refine Bod.ic 0 (by decide) dc_333_130 ?_
  refine Bod.ist dc_333_131 (by rw [ml_333]; exact Nat.le_of_ble_eq_true rfl) ?_
  refine Bod.ildnG dc_333_133 (by repeat (first | exact q0 | exact sm_get_p1 | exact sm_get_p2e | refine sm_get_p1m (by decide) (by decide) ?_ | refine sm_get_p1n (by decide) rfl ?_ | refine sm_get_p2n (by decide) (by decide) rfl ?_)) ?_
  refine Bod.ifT dc_333_134 rfl (k1_ne_T (k_ne 1 0 rfl rfl (by omega) (by omega) (by omega))) ?_
  refine Bod.aldnG dc_333_142 (by repeat (first | exact q0 | exact sm_get_p1 | exact sm_get_p2e | refine sm_get_p1m (by decide) (by decide) ?_ | refine sm_get_p1n (by decide) rfl ?_ | refine sm_get_p2n (by decide) (by decide) rfl ?_)) ?_
  refine Bod.get dc_333_143 fr_333_314 (mk_61 _) rfl ?_
  refine Bod.aldnG dc_333_146 (by repeat (first | exact q0 | exact sm_get_p1 | exact sm_get_p2e | refine sm_get_p1m (by decide) (by decide) ?_ | refine sm_get_p1n (by decide) rfl ?_ | refine sm_get_p2n (by decide) (by decide) rfl ?_)) ?_
  refine Bod.get dc_333_147 fr_333_251 (mk_61 _) rfl ?_
  refine Bod.eqI (nI en) (by first | (simp (disch := omega) only [rI, rIe, rA, rIA, rLA, rJA, rVI, rQI, rVA, rQA, upd_at,  rAI, rLI, rJI, nI_add, pk_sub, kc_0, kc_1, kc_2, kc_3, kc_4, kc_5, reduceIte, Nat.reduceEqDiff, Nat.add_zero, rI_hold, rI_hold, rL_hold, hk, hk1, he67, he70, hk2, he671, hen]; done) | (simp (disch := omega) only [rI, rIe, rA, rIA, rLA, rJA, rVI, rQI, rVA, rQA, upd_at,  rAI, rLI, rJI, nI_add, pk_sub, kc_0, kc_1, kc_2, kc_3, kc_4, kc_5, reduceIte, Nat.reduceEqDiff, Nat.add_zero, rI_hold, rI_hold, rL_hold, hk, hk1, he67, he70, hk2, he671, hen]; exact congrArg nI (by omega))) ?_
  refine Bod.aldnG dc_333_150 (by repeat (first | exact q0 | exact sm_get_p1 | exact sm_get_p2e | refine sm_get_p1m (by decide) (by decide) ?_ | refine sm_get_p1n (by decide) rfl ?_ | refine sm_get_p2n (by decide) (by decide) rfl ?_)) ?_
  refine Bod.bip 11 (by decide) dc_333_151 ?_
  refine Bod.virt (r := [_, _]) dc_333_153 kr_333_305 ⟨Or.inl rfl, ow_325, cl_14⟩ (by rw [np_325]; rfl) (by rw [np_325]; rfl) (ob_of (mk_61 _)) (Nat.le_of_ble_eq_true rfl) (c5  ) ?_
  show Bod _ _ _ _ [_, _, _] _ _ _
  refine Bod.iastN en rfl (by omega) (by omega) dc_333_156 (mk_81 _) (sa_81 _ _ _) (mu_A _ _ _ _) ?_
  refine Bod.aldnG dc_333_157 (by repeat (first | exact q0 | exact sm_get_p1 | exact sm_get_p2e | refine sm_get_p1m (by decide) (by decide) ?_ | refine sm_get_p1n (by decide) rfl ?_ | refine sm_get_p2n (by decide) (by decide) rfl ?_)) ?_
  refine Bod.go dc_333_158 rfl ?_
  refine Bod.get dc_333_159 fr_333_251 (mk_61 _) rfl ?_
  refine Bod.eqI (nI en1) (by first | (simp (disch := omega) only [rI, rIe, rA, rIA, rLA, rJA, rVI, rQI, rVA, rQA, upd_at,  rAI, rLI, rJI, nI_add, pk_sub, kc_0, kc_1, kc_2, kc_3, kc_4, kc_5, reduceIte, Nat.reduceEqDiff, Nat.add_zero, rI_hold, rI_hold, rL_hold, hk, hk1, he67, he70, hk2, he671, hen, hen1]; done) | (simp (disch := omega) only [rI, rIe, rA, rIA, rLA, rJA, rVI, rQI, rVA, rQA, upd_at,  rAI, rLI, rJI, nI_add, pk_sub, kc_0, kc_1, kc_2, kc_3, kc_4, kc_5, reduceIte, Nat.reduceEqDiff, Nat.add_zero, rI_hold, rI_hold, rL_hold, hk, hk1, he67, he70, hk2, he671, hen, hen1]; exact congrArg nI (by omega))) ?_
  refine Bod.ic 1 (by decide) dc_333_162 ?_
  refine Bod.addN (en1 + 1) (by omega) dc_333_163 ?_
  refine Bod.put dc_333_164 fr_333_251 (mk_61 _) (Nat.le_of_ble_eq_true rfl) pf_14_34 (st_6134 _ _) (mu_I _ _ _) ?_
  refine Bod.aldnG dc_333_167 (by repeat (first | exact q0 | exact sm_get_p1 | exact sm_get_p2e | refine sm_get_p1m (by decide) (by decide) ?_ | refine sm_get_p1n (by decide) rfl ?_ | refine sm_get_p2n (by decide) (by decide) rfl ?_)) ?_
  refine Bod.ildG dc_333_168 (by repeat (first | exact q0 | exact sm_get_p1 | exact sm_get_p2e | refine sm_get_p1m (by decide) (by decide) ?_ | refine sm_get_p1n (by decide) rfl ?_ | refine sm_get_p2n (by decide) (by decide) rfl ?_)) ?_
  refine Bod.virt (r := []) dc_333_170 kr_333_317 ⟨Or.inl rfl, ow_326, cl_14⟩ (by rw [np_326]; rfl) (by rw [np_326]; rfl) (ob_of (mk_61 _)) (Nat.le_of_ble_eq_true rfl) (c6  ) ?_
  show Bod _ _ _ _ [] _ _ _
  refine Bod.ildG dc_333_173 (by repeat (first | exact q0 | exact sm_get_p1 | exact sm_get_p2e | refine sm_get_p1m (by decide) (by decide) ?_ | refine sm_get_p1n (by decide) rfl ?_ | refine sm_get_p2n (by decide) (by decide) rfl ?_)) ?_
  refine Bod.ifF dc_333_175 rfl (k1_ne_F (k_eq 0 0 rfl rfl (by omega))) ?_
  refine Bod.go dc_333_178 rfl ?_
  exact hB _ (by repeat (first | exact q0 | exact sm_get_p1 | exact sm_get_p2e | refine sm_get_p1m (by decide) (by decide) ?_ | refine sm_get_p1n (by decide) rfl ?_ | refine sm_get_p2n (by decide) (by decide) rfl ?_)) (by repeat (first | exact q1 | exact sm_get_p1 | exact sm_get_p2e | refine sm_get_p1m (by decide) (by decide) ?_ | refine sm_get_p1n (by decide) rfl ?_ | refine sm_get_p2n (by decide) (by decide) rfl ?_)) (by repeat (first | exact q2 | exact sm_get_p1 | exact sm_get_p2e | refine sm_get_p1m (by decide) (by decide) ?_ | refine sm_get_p1n (by decide) rfl ?_ | refine sm_get_p2n (by decide) (by decide) rfl ?_)) (by repeat (first | exact q0 | exact sm_get_p1 | exact sm_get_p2e | refine sm_get_p1m (by decide) (by decide) ?_ | refine sm_get_p1n (by decide) rfl ?_ | refine sm_get_p2n (by decide) (by decide) rfl ?_))
theorem zChL_4 {d : Nat} {S Sf : cS} {v : Option Value} {lv : sm_L} {la : Nat} {le : Nat} {k : Nat} {S1 : cS} {S2 : cS} {a : Nat} {S3 : cS} {k1 : Nat} {e67 : Nat} {e70 : Nat} {S4 : cS} {k2 : Nat} {e671 : Nat} {e701 : Nat} {en : Nat} {S5 : cS} {a1 : Nat} {en1 : Nat} {S6 : cS} (q0 : sm_get lv 0 = some (.ref 61)) (q1 : sm_get lv 1 = some (.int (nI la))) (q2 : sm_get lv 2 = some (.int (nI le))) (q3 : sm_get lv 3 = some (.int (nI 1))) (mla : la < 2 ^ 20) (mle : le < 2 ^ 20) (hk : sI S 6115 = nI k) (mk : k < 6001) (c1 : Ans (d + 8) 306 [.ref 61, .int (nI 0)] (wI 6115 (nI (k + 1)) S) (some (.int (nI 1))) S1) (ma : a < 2 ^ 20) (c2 : Ans (d + 8) 325 [.ref 61, .int (nI 12)] S1 (some (.int (nI a))) S2) (c3 : Ans (d + 8) 334 [.ref 61, .int (nI la), .int (nI 0)] S2 (some (.int (nI 1))) S3) (hk1 : sI S3 6115 = nI k1) (mk1 : k1 < 6001) (he67 : sA S3 67 k1 = nI e67) (me67 : e67 < 2 ^ 20) (b1 : e67 ≠ 7) (he70 : sA S3 70 k1 = nI e70) (me70 : e70 < 2 ^ 20) (b2 : e70 = la) (c4 : Ans (d + 8) 309 [.ref 61, .int (nI 1)] S3 (some (.int (nI 1))) S4) (hk2 : sI S4 6115 = nI k2) (mk2 : k2 < 6001) (he671 : sA S4 67 k2 = nI e671) (me671 : e671 < 2 ^ 20) (b3 : e671 ≠ 7) (he701 : sA S4 70 k2 = nI e701) (me701 : e701 < 2 ^ 20) (b4 : e701 ≠ la) (hen : sI S4 6134 = nI en) (men : en < 3000) (ma1 : a1 < 2 ^ 20) (c5 : Ans (d + 8) 325 [.ref 61, .int (nI 11)] S4 (some (.int (nI a1))) S5) (hen1 : sI (wA 81 en (nI a1) S5) 6134 = nI en1) (men1 : en1 < 3000) (c6 : Ans (d + 8) 326 [.ref 61, .int (nI a)] (wI 6134 (nI (en1 + 1)) (wA 81 en (nI a1) S5)) none S6) (hB : ∀ lv1 : sm_L, sm_get lv1 0 = some (.ref 61) → sm_get lv1 1 = some (.int (nI la)) → sm_get lv1 2 = some (.int (nI le)) → sm_get lv1 3 = some (.int (nI 1)) → Bod (d + 8) 333 7 lv1 [] (S6) v Sf) : Bod (d + 8) 333 7 lv [] S v Sf := by
  refine Bod.ildnG dc_333_7 (by repeat (first | exact q3 | exact sm_get_p1 | exact sm_get_p2e | refine sm_get_p1m (by decide) (by decide) ?_ | refine sm_get_p1n (by decide) rfl ?_ | refine sm_get_p2n (by decide) (by decide) rfl ?_)) ?_
  refine Bod.ifF dc_333_8 rfl (k1_eq_F (k_ne 1 0 rfl rfl (by omega) (by omega) (by omega))) ?_
  refine Bod.aldnG dc_333_11 (by repeat (first | exact q0 | exact sm_get_p1 | exact sm_get_p2e | refine sm_get_p1m (by decide) (by decide) ?_ | refine sm_get_p1n (by decide) rfl ?_ | refine sm_get_p2n (by decide) (by decide) rfl ?_)) ?_
  refine Bod.go dc_333_12 rfl ?_
  refine Bod.get dc_333_13 fr_333_190 (mk_61 _) rfl ?_
  refine Bod.eqI (nI k) (by first | assumption | rfl | exact congrArg nI (by omega) | (simp (disch := omega) only [rI, rIe, rA, rIA, rLA, rJA, rVI, rQI, rVA, rQA, upd_at,  rAI, rLI, rJI, nI_add, pk_sub, kc_0, kc_1, kc_2, kc_3, kc_4, kc_5, reduceIte, Nat.reduceEqDiff, Nat.add_zero, rI_hold, rI_hold, rL_hold, hk]; done)) ?_
  refine Bod.ic 1 (by decide) dc_333_16 ?_
  refine Bod.addN (k + 1) (by omega) dc_333_17 ?_
  refine Bod.put dc_333_18 fr_333_190 (mk_61 _) (Nat.le_of_ble_eq_true rfl) pf_14_15 (st_6115 _ _) (mu_I _ _ _) ?_
  refine Bod.aldnG dc_333_21 (by repeat (first | exact q0 | exact sm_get_p1 | exact sm_get_p2e | refine sm_get_p1m (by decide) (by decide) ?_ | refine sm_get_p1n (by decide) rfl ?_ | refine sm_get_p2n (by decide) (by decide) rfl ?_)) ?_
  refine Bod.ic 0 (by decide) dc_333_22 ?_
  refine Bod.virt (r := []) dc_333_23 kr_333_302 ⟨Or.inl rfl, ow_306, cl_14⟩ (by rw [np_306]; rfl) (by rw [np_306]; rfl) (ob_of (mk_61 _)) (Nat.le_of_ble_eq_true rfl) (c1  ) ?_
  show Bod _ _ _ _ [_] _ _ _
  refine Bod.ifT dc_333_26 rfl (k1_ne_T (k_ne 1 0 rfl rfl (by omega) (by omega) (by omega))) ?_
  refine Bod.aldnG dc_333_31 (by repeat (first | exact q0 | exact sm_get_p1 | exact sm_get_p2e | refine sm_get_p1m (by decide) (by decide) ?_ | refine sm_get_p1n (by decide) rfl ?_ | refine sm_get_p2n (by decide) (by decide) rfl ?_)) ?_
  refine Bod.bip 12 (by decide) dc_333_32 ?_
  refine Bod.virt (r := []) dc_333_34 kr_333_305 ⟨Or.inl rfl, ow_325, cl_14⟩ (by rw [np_325]; rfl) (by rw [np_325]; rfl) (ob_of (mk_61 _)) (Nat.le_of_ble_eq_true rfl) (c2  ) ?_
  show Bod _ _ _ _ [_] _ _ _
  refine Bod.ist dc_333_37 (by rw [ml_333]; exact Nat.le_of_ble_eq_true rfl) ?_
  refine Bod.aldnG dc_333_39 (by repeat (first | exact q0 | exact sm_get_p1 | exact sm_get_p2e | refine sm_get_p1m (by decide) (by decide) ?_ | refine sm_get_p1n (by decide) rfl ?_ | refine sm_get_p2n (by decide) (by decide) rfl ?_)) ?_
  refine Bod.ildnG dc_333_40 (by repeat (first | exact q1 | exact sm_get_p1 | exact sm_get_p2e | refine sm_get_p1m (by decide) (by decide) ?_ | refine sm_get_p1n (by decide) rfl ?_ | refine sm_get_p2n (by decide) (by decide) rfl ?_)) ?_
  refine Bod.ic 0 (by decide) dc_333_41 ?_
  refine Bod.virt (r := []) dc_333_42 kr_333_309 ⟨Or.inl rfl, ow_334, cl_14⟩ (by rw [np_334]; rfl) (by rw [np_334]; rfl) (ob_of (mk_61 _)) (Nat.le_of_ble_eq_true rfl) (c3  ) ?_
  show Bod _ _ _ _ [_] _ _ _
  refine Bod.ifT dc_333_45 rfl (k1_ne_T (k_ne 1 0 rfl rfl (by omega) (by omega) (by omega))) ?_
  refine Bod.aldnG dc_333_50 (by repeat (first | exact q0 | exact sm_get_p1 | exact sm_get_p2e | refine sm_get_p1m (by decide) (by decide) ?_ | refine sm_get_p1n (by decide) rfl ?_ | refine sm_get_p2n (by decide) (by decide) rfl ?_)) ?_
  refine Bod.get dc_333_51 fr_333_129 (mk_61 _) rfl ?_
  refine Bod.aldnG dc_333_54 (by repeat (first | exact q0 | exact sm_get_p1 | exact sm_get_p2e | refine sm_get_p1m (by decide) (by decide) ?_ | refine sm_get_p1n (by decide) rfl ?_ | refine sm_get_p2n (by decide) (by decide) rfl ?_)) ?_
  refine Bod.get dc_333_55 fr_333_190 (mk_61 _) rfl ?_
  refine Bod.eqI (nI k1) (by first | (simp (disch := omega) only [rI, rIe, rA, rIA, rLA, rJA, rVI, rQI, rVA, rQA, upd_at,  rAI, rLI, rJI, nI_add, pk_sub, kc_0, kc_1, kc_2, kc_3, kc_4, kc_5, reduceIte, Nat.reduceEqDiff, Nat.add_zero, rI_hold, rI_hold, rL_hold, hk, hk1]; done) | (simp (disch := omega) only [rI, rIe, rA, rIA, rLA, rJA, rVI, rQI, rVA, rQA, upd_at,  rAI, rLI, rJI, nI_add, pk_sub, kc_0, kc_1, kc_2, kc_3, kc_4, kc_5, reduceIte, Nat.reduceEqDiff, Nat.add_zero, rI_hold, rI_hold, rL_hold, hk, hk1]; exact congrArg nI (by omega))) ?_
  refine Bod.ialdN k1 rfl (by omega) (by omega) dc_333_58 (mk_67 _) ?_
  refine Bod.eqI (nI e67) (by first | (simp (disch := omega) only [rI, rIe, rA, rIA, rLA, rJA, rVI, rQI, rVA, rQA, upd_at,  rAI, rLI, rJI, nI_add, pk_sub, kc_0, kc_1, kc_2, kc_3, kc_4, kc_5, reduceIte, Nat.reduceEqDiff, Nat.add_zero, rI_hold, rI_hold, rL_hold, hk, hk1, he67]; done) | (simp (disch := omega) only [rI, rIe, rA, rIA, rLA, rJA, rVI, rQI, rVA, rQA, upd_at,  rAI, rLI, rJI, nI_add, pk_sub, kc_0, kc_1, kc_2, kc_3, kc_4, kc_5, reduceIte, Nat.reduceEqDiff, Nat.add_zero, rI_hold, rI_hold, rL_hold, hk, hk1, he67]; exact congrArg nI (by omega))) ?_
  refine Bod.bip 7 (by decide) dc_333_59 ?_
  refine Bod.icF dc_333_61 rfl (k2_eq_F (k_ne e67 7 rfl rfl (by omega) (by omega) (by omega))) ?_
  refine Bod.aldnG dc_333_64 (by repeat (first | exact q0 | exact sm_get_p1 | exact sm_get_p2e | refine sm_get_p1m (by decide) (by decide) ?_ | refine sm_get_p1n (by decide) rfl ?_ | refine sm_get_p2n (by decide) (by decide) rfl ?_)) ?_
  refine Bod.get dc_333_65 fr_333_141 (mk_61 _) rfl ?_
  refine Bod.aldnG dc_333_68 (by repeat (first | exact q0 | exact sm_get_p1 | exact sm_get_p2e | refine sm_get_p1m (by decide) (by decide) ?_ | refine sm_get_p1n (by decide) rfl ?_ | refine sm_get_p2n (by decide) (by decide) rfl ?_)) ?_
  refine Bod.get dc_333_69 fr_333_190 (mk_61 _) rfl ?_
  refine Bod.eqI (nI k1) (by first | (simp (disch := omega) only [rI, rIe, rA, rIA, rLA, rJA, rVI, rQI, rVA, rQA, upd_at,  rAI, rLI, rJI, nI_add, pk_sub, kc_0, kc_1, kc_2, kc_3, kc_4, kc_5, reduceIte, Nat.reduceEqDiff, Nat.add_zero, rI_hold, rI_hold, rL_hold, hk, hk1, he67]; done) | (simp (disch := omega) only [rI, rIe, rA, rIA, rLA, rJA, rVI, rQI, rVA, rQA, upd_at,  rAI, rLI, rJI, nI_add, pk_sub, kc_0, kc_1, kc_2, kc_3, kc_4, kc_5, reduceIte, Nat.reduceEqDiff, Nat.add_zero, rI_hold, rI_hold, rL_hold, hk, hk1, he67]; exact congrArg nI (by omega))) ?_
  refine Bod.ialdN k1 rfl (by omega) (by omega) dc_333_72 (mk_70 _) ?_
  refine Bod.eqI (nI e70) (by first | (simp (disch := omega) only [rI, rIe, rA, rIA, rLA, rJA, rVI, rQI, rVA, rQA, upd_at,  rAI, rLI, rJI, nI_add, pk_sub, kc_0, kc_1, kc_2, kc_3, kc_4, kc_5, reduceIte, Nat.reduceEqDiff, Nat.add_zero, rI_hold, rI_hold, rL_hold, hk, hk1, he67, he70]; done) | (simp (disch := omega) only [rI, rIe, rA, rIA, rLA, rJA, rVI, rQI, rVA, rQA, upd_at,  rAI, rLI, rJI, nI_add, pk_sub, kc_0, kc_1, kc_2, kc_3, kc_4, kc_5, reduceIte, Nat.reduceEqDiff, Nat.add_zero, rI_hold, rI_hold, rL_hold, hk, hk1, he67, he70]; exact congrArg nI (by omega))) ?_
  refine Bod.ildnG dc_333_73 (by repeat (first | exact q1 | exact sm_get_p1 | exact sm_get_p2e | refine sm_get_p1m (by decide) (by decide) ?_ | refine sm_get_p1n (by decide) rfl ?_ | refine sm_get_p2n (by decide) (by decide) rfl ?_)) ?_
  refine Bod.icF dc_333_74 rfl (k2_ne_F (k_eq e70 la rfl rfl (by omega))) ?_
  refine Bod.aldnG dc_333_77 (by repeat (first | exact q0 | exact sm_get_p1 | exact sm_get_p2e | refine sm_get_p1m (by decide) (by decide) ?_ | refine sm_get_p1n (by decide) rfl ?_ | refine sm_get_p2n (by decide) (by decide) rfl ?_)) ?_
  refine Bod.ic 1 (by decide) dc_333_78 ?_
  refine Bod.virt (r := []) dc_333_79 kr_333_312 ⟨Or.inl rfl, ow_309, cl_14⟩ (by rw [np_309]; rfl) (by rw [np_309]; rfl) (ob_of (mk_61 _)) (Nat.le_of_ble_eq_true rfl) (c4  ) ?_
  show Bod _ _ _ _ [_] _ _ _
  refine Bod.ifF dc_333_82 rfl (k1_eq_F (k_ne 1 0 rfl rfl (by omega) (by omega) (by omega))) ?_
  refine Bod.ic 1 (by decide) dc_333_85 ?_
  refine Bod.go dc_333_86 rfl ?_
  refine Bod.istn dc_333_90 (by rw [ml_333]; exact Nat.le_of_ble_eq_true rfl) ?_
  refine Bod.aldnG dc_333_91 (by repeat (first | exact q0 | exact sm_get_p1 | exact sm_get_p2e | refine sm_get_p1m (by decide) (by decide) ?_ | refine sm_get_p1n (by decide) rfl ?_ | refine sm_get_p2n (by decide) (by decide) rfl ?_)) ?_
  refine Bod.get dc_333_92 fr_333_129 (mk_61 _) rfl ?_
  refine Bod.aldnG dc_333_95 (by repeat (first | exact q0 | exact sm_get_p1 | exact sm_get_p2e | refine sm_get_p1m (by decide) (by decide) ?_ | refine sm_get_p1n (by decide) rfl ?_ | refine sm_get_p2n (by decide) (by decide) rfl ?_)) ?_
  refine Bod.get dc_333_96 fr_333_190 (mk_61 _) rfl ?_
  refine Bod.eqI (nI k2) (by first | (simp (disch := omega) only [rI, rIe, rA, rIA, rLA, rJA, rVI, rQI, rVA, rQA, upd_at,  rAI, rLI, rJI, nI_add, pk_sub, kc_0, kc_1, kc_2, kc_3, kc_4, kc_5, reduceIte, Nat.reduceEqDiff, Nat.add_zero, rI_hold, rI_hold, rL_hold, hk, hk1, he67, he70, hk2]; done) | (simp (disch := omega) only [rI, rIe, rA, rIA, rLA, rJA, rVI, rQI, rVA, rQA, upd_at,  rAI, rLI, rJI, nI_add, pk_sub, kc_0, kc_1, kc_2, kc_3, kc_4, kc_5, reduceIte, Nat.reduceEqDiff, Nat.add_zero, rI_hold, rI_hold, rL_hold, hk, hk1, he67, he70, hk2]; exact congrArg nI (by omega))) ?_
  refine Bod.ialdN k2 rfl (by omega) (by omega) dc_333_99 (mk_67 _) ?_
  refine Bod.eqI (nI e671) (by first | (simp (disch := omega) only [rI, rIe, rA, rIA, rLA, rJA, rVI, rQI, rVA, rQA, upd_at,  rAI, rLI, rJI, nI_add, pk_sub, kc_0, kc_1, kc_2, kc_3, kc_4, kc_5, reduceIte, Nat.reduceEqDiff, Nat.add_zero, rI_hold, rI_hold, rL_hold, hk, hk1, he67, he70, hk2, he671]; done) | (simp (disch := omega) only [rI, rIe, rA, rIA, rLA, rJA, rVI, rQI, rVA, rQA, upd_at,  rAI, rLI, rJI, nI_add, pk_sub, kc_0, kc_1, kc_2, kc_3, kc_4, kc_5, reduceIte, Nat.reduceEqDiff, Nat.add_zero, rI_hold, rI_hold, rL_hold, hk, hk1, he67, he70, hk2, he671]; exact congrArg nI (by omega))) ?_
  refine Bod.bip 7 (by decide) dc_333_100 ?_
  refine Bod.icF dc_333_102 rfl (k2_eq_F (k_ne e671 7 rfl rfl (by omega) (by omega) (by omega))) ?_
  refine Bod.aldnG dc_333_105 (by repeat (first | exact q0 | exact sm_get_p1 | exact sm_get_p2e | refine sm_get_p1m (by decide) (by decide) ?_ | refine sm_get_p1n (by decide) rfl ?_ | refine sm_get_p2n (by decide) (by decide) rfl ?_)) ?_
  refine Bod.get dc_333_106 fr_333_141 (mk_61 _) rfl ?_
  refine Bod.aldnG dc_333_109 (by repeat (first | exact q0 | exact sm_get_p1 | exact sm_get_p2e | refine sm_get_p1m (by decide) (by decide) ?_ | refine sm_get_p1n (by decide) rfl ?_ | refine sm_get_p2n (by decide) (by decide) rfl ?_)) ?_
  refine Bod.get dc_333_110 fr_333_190 (mk_61 _) rfl ?_
  refine Bod.eqI (nI k2) (by first | (simp (disch := omega) only [rI, rIe, rA, rIA, rLA, rJA, rVI, rQI, rVA, rQA, upd_at,  rAI, rLI, rJI, nI_add, pk_sub, kc_0, kc_1, kc_2, kc_3, kc_4, kc_5, reduceIte, Nat.reduceEqDiff, Nat.add_zero, rI_hold, rI_hold, rL_hold, hk, hk1, he67, he70, hk2, he671]; done) | (simp (disch := omega) only [rI, rIe, rA, rIA, rLA, rJA, rVI, rQI, rVA, rQA, upd_at,  rAI, rLI, rJI, nI_add, pk_sub, kc_0, kc_1, kc_2, kc_3, kc_4, kc_5, reduceIte, Nat.reduceEqDiff, Nat.add_zero, rI_hold, rI_hold, rL_hold, hk, hk1, he67, he70, hk2, he671]; exact congrArg nI (by omega))) ?_
  refine Bod.ialdN k2 rfl (by omega) (by omega) dc_333_113 (mk_70 _) ?_
  refine Bod.eqI (nI e701) (by first | (simp (disch := omega) only [rI, rIe, rA, rIA, rLA, rJA, rVI, rQI, rVA, rQA, upd_at,  rAI, rLI, rJI, nI_add, pk_sub, kc_0, kc_1, kc_2, kc_3, kc_4, kc_5, reduceIte, Nat.reduceEqDiff, Nat.add_zero, rI_hold, rI_hold, rL_hold, hk, hk1, he67, he70, hk2, he671, he701]; done) | (simp (disch := omega) only [rI, rIe, rA, rIA, rLA, rJA, rVI, rQI, rVA, rQA, upd_at,  rAI, rLI, rJI, nI_add, pk_sub, kc_0, kc_1, kc_2, kc_3, kc_4, kc_5, reduceIte, Nat.reduceEqDiff, Nat.add_zero, rI_hold, rI_hold, rL_hold, hk, hk1, he67, he70, hk2, he671, he701]; exact congrArg nI (by omega))) ?_
  refine Bod.ildnG dc_333_114 (by repeat (first | exact q1 | exact sm_get_p1 | exact sm_get_p2e | refine sm_get_p1m (by decide) (by decide) ?_ | refine sm_get_p1n (by decide) rfl ?_ | refine sm_get_p2n (by decide) (by decide) rfl ?_)) ?_
  refine Bod.icT dc_333_115 rfl (k2_ne_T (k_ne e701 la rfl rfl (by omega) (by omega) (by omega))) ?_
  refine Bod.ic 0 (by decide) dc_333_130 ?_
  refine Bod.ist dc_333_131 (by rw [ml_333]; exact Nat.le_of_ble_eq_true rfl) ?_
  refine Bod.ildnG dc_333_133 (by repeat (first | exact q0 | exact sm_get_p1 | exact sm_get_p2e | refine sm_get_p1m (by decide) (by decide) ?_ | refine sm_get_p1n (by decide) rfl ?_ | refine sm_get_p2n (by decide) (by decide) rfl ?_)) ?_
  refine Bod.ifT dc_333_134 rfl (k1_ne_T (k_ne 1 0 rfl rfl (by omega) (by omega) (by omega))) ?_
  refine Bod.aldnG dc_333_142 (by repeat (first | exact q0 | exact sm_get_p1 | exact sm_get_p2e | refine sm_get_p1m (by decide) (by decide) ?_ | refine sm_get_p1n (by decide) rfl ?_ | refine sm_get_p2n (by decide) (by decide) rfl ?_)) ?_
  refine Bod.get dc_333_143 fr_333_314 (mk_61 _) rfl ?_
  refine Bod.aldnG dc_333_146 (by repeat (first | exact q0 | exact sm_get_p1 | exact sm_get_p2e | refine sm_get_p1m (by decide) (by decide) ?_ | refine sm_get_p1n (by decide) rfl ?_ | refine sm_get_p2n (by decide) (by decide) rfl ?_)) ?_
  refine Bod.get dc_333_147 fr_333_251 (mk_61 _) rfl ?_
  refine Bod.eqI (nI en) (by first | (simp (disch := omega) only [rI, rIe, rA, rIA, rLA, rJA, rVI, rQI, rVA, rQA, upd_at,  rAI, rLI, rJI, nI_add, pk_sub, kc_0, kc_1, kc_2, kc_3, kc_4, kc_5, reduceIte, Nat.reduceEqDiff, Nat.add_zero, rI_hold, rI_hold, rL_hold, hk, hk1, he67, he70, hk2, he671, he701, hen]; done) | (simp (disch := omega) only [rI, rIe, rA, rIA, rLA, rJA, rVI, rQI, rVA, rQA, upd_at,  rAI, rLI, rJI, nI_add, pk_sub, kc_0, kc_1, kc_2, kc_3, kc_4, kc_5, reduceIte, Nat.reduceEqDiff, Nat.add_zero, rI_hold, rI_hold, rL_hold, hk, hk1, he67, he70, hk2, he671, he701, hen]; exact congrArg nI (by omega))) ?_
  refine Bod.aldnG dc_333_150 (by repeat (first | exact q0 | exact sm_get_p1 | exact sm_get_p2e | refine sm_get_p1m (by decide) (by decide) ?_ | refine sm_get_p1n (by decide) rfl ?_ | refine sm_get_p2n (by decide) (by decide) rfl ?_)) ?_
  refine Bod.bip 11 (by decide) dc_333_151 ?_
  refine Bod.virt (r := [_, _]) dc_333_153 kr_333_305 ⟨Or.inl rfl, ow_325, cl_14⟩ (by rw [np_325]; rfl) (by rw [np_325]; rfl) (ob_of (mk_61 _)) (Nat.le_of_ble_eq_true rfl) (c5  ) ?_
  show Bod _ _ _ _ [_, _, _] _ _ _
  refine Bod.iastN en rfl (by omega) (by omega) dc_333_156 (mk_81 _) (sa_81 _ _ _) (mu_A _ _ _ _) ?_
  refine Bod.aldnG dc_333_157 (by repeat (first | exact q0 | exact sm_get_p1 | exact sm_get_p2e | refine sm_get_p1m (by decide) (by decide) ?_ | refine sm_get_p1n (by decide) rfl ?_ | refine sm_get_p2n (by decide) (by decide) rfl ?_)) ?_
  refine Bod.go dc_333_158 rfl ?_
  refine Bod.get dc_333_159 fr_333_251 (mk_61 _) rfl ?_
  refine Bod.eqI (nI en1) (by first | (simp (disch := omega) only [rI, rIe, rA, rIA, rLA, rJA, rVI, rQI, rVA, rQA, upd_at,  rAI, rLI, rJI, nI_add, pk_sub, kc_0, kc_1, kc_2, kc_3, kc_4, kc_5, reduceIte, Nat.reduceEqDiff, Nat.add_zero, rI_hold, rI_hold, rL_hold, hk, hk1, he67, he70, hk2, he671, he701, hen, hen1]; done) | (simp (disch := omega) only [rI, rIe, rA, rIA, rLA, rJA, rVI, rQI, rVA, rQA, upd_at,  rAI, rLI, rJI, nI_add, pk_sub, kc_0, kc_1, kc_2, kc_3, kc_4, kc_5, reduceIte, Nat.reduceEqDiff, Nat.add_zero, rI_hold, rI_hold, rL_hold, hk, hk1, he67, he70, hk2, he671, he701, hen, hen1]; exact congrArg nI (by omega))) ?_
  refine Bod.ic 1 (by decide) dc_333_162 ?_
  refine Bod.addN (en1 + 1) (by omega) dc_333_163 ?_
  refine Bod.put dc_333_164 fr_333_251 (mk_61 _) (Nat.le_of_ble_eq_true rfl) pf_14_34 (st_6134 _ _) (mu_I _ _ _) ?_
  refine Bod.aldnG dc_333_167 (by repeat (first | exact q0 | exact sm_get_p1 | exact sm_get_p2e | refine sm_get_p1m (by decide) (by decide) ?_ | refine sm_get_p1n (by decide) rfl ?_ | refine sm_get_p2n (by decide) (by decide) rfl ?_)) ?_
  refine Bod.ildG dc_333_168 (by repeat (first | exact q0 | exact sm_get_p1 | exact sm_get_p2e | refine sm_get_p1m (by decide) (by decide) ?_ | refine sm_get_p1n (by decide) rfl ?_ | refine sm_get_p2n (by decide) (by decide) rfl ?_)) ?_
  refine Bod.virt (r := []) dc_333_170 kr_333_317 ⟨Or.inl rfl, ow_326, cl_14⟩ (by rw [np_326]; rfl) (by rw [np_326]; rfl) (ob_of (mk_61 _)) (Nat.le_of_ble_eq_true rfl) (c6  ) ?_
  show Bod _ _ _ _ [] _ _ _
  refine Bod.ildG dc_333_173 (by repeat (first | exact q0 | exact sm_get_p1 | exact sm_get_p2e | refine sm_get_p1m (by decide) (by decide) ?_ | refine sm_get_p1n (by decide) rfl ?_ | refine sm_get_p2n (by decide) (by decide) rfl ?_)) ?_
  refine Bod.ifF dc_333_175 rfl (k1_ne_F (k_eq 0 0 rfl rfl (by omega))) ?_
  refine Bod.go dc_333_178 rfl ?_
  exact hB _ (by repeat (first | exact q0 | exact sm_get_p1 | exact sm_get_p2e | refine sm_get_p1m (by decide) (by decide) ?_ | refine sm_get_p1n (by decide) rfl ?_ | refine sm_get_p2n (by decide) (by decide) rfl ?_)) (by repeat (first | exact q1 | exact sm_get_p1 | exact sm_get_p2e | refine sm_get_p1m (by decide) (by decide) ?_ | refine sm_get_p1n (by decide) rfl ?_ | refine sm_get_p2n (by decide) (by decide) rfl ?_)) (by repeat (first | exact q2 | exact sm_get_p1 | exact sm_get_p2e | refine sm_get_p1m (by decide) (by decide) ?_ | refine sm_get_p1n (by decide) rfl ?_ | refine sm_get_p2n (by decide) (by decide) rfl ?_)) (by repeat (first | exact q0 | exact sm_get_p1 | exact sm_get_p2e | refine sm_get_p1m (by decide) (by decide) ?_ | refine sm_get_p1n (by decide) rfl ?_ | refine sm_get_p2n (by decide) (by decide) rfl ?_))
theorem zChL_5 {d : Nat} {S Sf : cS} {v : Option Value} {lv : sm_L} {la : Nat} {le : Nat} {k : Nat} {S1 : cS} {S2 : cS} {a : Nat} {S3 : cS} {k1 : Nat} {e67 : Nat} {e70 : Nat} {S4 : cS} {k2 : Nat} {e671 : Nat} {e701 : Nat} {S5 : cS} {en : Nat} {S6 : cS} {a1 : Nat} {en1 : Nat} {S7 : cS} {k3 : Nat} {S8 : cS} (q0 : sm_get lv 0 = some (.ref 61)) (q1 : sm_get lv 1 = some (.int (nI la))) (q2 : sm_get lv 2 = some (.int (nI le))) (q3 : sm_get lv 3 = some (.int (nI 1))) (mla : la < 2 ^ 20) (mle : le < 2 ^ 20) (hk : sI S 6115 = nI k) (mk : k < 6001) (c1 : Ans (d + 8) 306 [.ref 61, .int (nI 0)] (wI 6115 (nI (k + 1)) S) (some (.int (nI 1))) S1) (ma : a < 2 ^ 20) (c2 : Ans (d + 8) 325 [.ref 61, .int (nI 12)] S1 (some (.int (nI a))) S2) (c3 : Ans (d + 8) 334 [.ref 61, .int (nI la), .int (nI 0)] S2 (some (.int (nI 1))) S3) (hk1 : sI S3 6115 = nI k1) (mk1 : k1 < 6001) (he67 : sA S3 67 k1 = nI e67) (me67 : e67 < 2 ^ 20) (b1 : e67 ≠ 7) (he70 : sA S3 70 k1 = nI e70) (me70 : e70 < 2 ^ 20) (b2 : e70 = la) (c4 : Ans (d + 8) 309 [.ref 61, .int (nI 1)] S3 (some (.int (nI 1))) S4) (hk2 : sI S4 6115 = nI k2) (mk2 : k2 < 6001) (he671 : sA S4 67 k2 = nI e671) (me671 : e671 < 2 ^ 20) (b3 : e671 ≠ 7) (he701 : sA S4 70 k2 = nI e701) (me701 : e701 < 2 ^ 20) (b4 : e701 = la) (c5 : Ans (d + 8) 309 [.ref 61, .int (nI 2)] S4 (some (.int (nI 1))) S5) (hen : sI S5 6134 = nI en) (men : en < 3000) (ma1 : a1 < 2 ^ 20) (c6 : Ans (d + 8) 325 [.ref 61, .int (nI 11)] S5 (some (.int (nI a1))) S6) (hen1 : sI (wA 81 en (nI a1) S6) 6134 = nI en1) (men1 : en1 < 3000) (c7 : Ans (d + 8) 326 [.ref 61, .int (nI a)] (wI 6134 (nI (en1 + 1)) (wA 81 en (nI a1) S6)) none S7) (hk3 : sI S7 6115 = nI k3) (mk3 : k3 < 6001) (c8 : Ans (d + 8) 334 [.ref 61, .int (nI la), .int (nI 0)] (wI 6115 (nI (k3 + 1)) S7) (some (.int (nI 1))) S8) (hB : ∀ lv1 : sm_L, sm_get lv1 0 = some (.ref 61) → sm_get lv1 1 = some (.int (nI la)) → sm_get lv1 2 = some (.int (nI le)) → sm_get lv1 3 = some (.int (nI 1)) → Bod (d + 8) 333 7 lv1 [] (S8) v Sf) : Bod (d + 8) 333 7 lv [] S v Sf := by
  refine Bod.ildnG dc_333_7 (by repeat (first | exact q3 | exact sm_get_p1 | exact sm_get_p2e | refine sm_get_p1m (by decide) (by decide) ?_ | refine sm_get_p1n (by decide) rfl ?_ | refine sm_get_p2n (by decide) (by decide) rfl ?_)) ?_
  refine Bod.ifF dc_333_8 rfl (k1_eq_F (k_ne 1 0 rfl rfl (by omega) (by omega) (by omega))) ?_
  refine Bod.aldnG dc_333_11 (by repeat (first | exact q0 | exact sm_get_p1 | exact sm_get_p2e | refine sm_get_p1m (by decide) (by decide) ?_ | refine sm_get_p1n (by decide) rfl ?_ | refine sm_get_p2n (by decide) (by decide) rfl ?_)) ?_
  refine Bod.go dc_333_12 rfl ?_
  refine Bod.get dc_333_13 fr_333_190 (mk_61 _) rfl ?_
  refine Bod.eqI (nI k) (by first | assumption | rfl | exact congrArg nI (by omega) | (simp (disch := omega) only [rI, rIe, rA, rIA, rLA, rJA, rVI, rQI, rVA, rQA, upd_at,  rAI, rLI, rJI, nI_add, pk_sub, kc_0, kc_1, kc_2, kc_3, kc_4, kc_5, reduceIte, Nat.reduceEqDiff, Nat.add_zero, rI_hold, rI_hold, rL_hold, hk]; done)) ?_
  refine Bod.ic 1 (by decide) dc_333_16 ?_
  refine Bod.addN (k + 1) (by omega) dc_333_17 ?_
  refine Bod.put dc_333_18 fr_333_190 (mk_61 _) (Nat.le_of_ble_eq_true rfl) pf_14_15 (st_6115 _ _) (mu_I _ _ _) ?_
  refine Bod.aldnG dc_333_21 (by repeat (first | exact q0 | exact sm_get_p1 | exact sm_get_p2e | refine sm_get_p1m (by decide) (by decide) ?_ | refine sm_get_p1n (by decide) rfl ?_ | refine sm_get_p2n (by decide) (by decide) rfl ?_)) ?_
  refine Bod.ic 0 (by decide) dc_333_22 ?_
  refine Bod.virt (r := []) dc_333_23 kr_333_302 ⟨Or.inl rfl, ow_306, cl_14⟩ (by rw [np_306]; rfl) (by rw [np_306]; rfl) (ob_of (mk_61 _)) (Nat.le_of_ble_eq_true rfl) (c1  ) ?_
  show Bod _ _ _ _ [_] _ _ _
  refine Bod.ifT dc_333_26 rfl (k1_ne_T (k_ne 1 0 rfl rfl (by omega) (by omega) (by omega))) ?_
  refine Bod.aldnG dc_333_31 (by repeat (first | exact q0 | exact sm_get_p1 | exact sm_get_p2e | refine sm_get_p1m (by decide) (by decide) ?_ | refine sm_get_p1n (by decide) rfl ?_ | refine sm_get_p2n (by decide) (by decide) rfl ?_)) ?_
  refine Bod.bip 12 (by decide) dc_333_32 ?_
  refine Bod.virt (r := []) dc_333_34 kr_333_305 ⟨Or.inl rfl, ow_325, cl_14⟩ (by rw [np_325]; rfl) (by rw [np_325]; rfl) (ob_of (mk_61 _)) (Nat.le_of_ble_eq_true rfl) (c2  ) ?_
  show Bod _ _ _ _ [_] _ _ _
  refine Bod.ist dc_333_37 (by rw [ml_333]; exact Nat.le_of_ble_eq_true rfl) ?_
  refine Bod.aldnG dc_333_39 (by repeat (first | exact q0 | exact sm_get_p1 | exact sm_get_p2e | refine sm_get_p1m (by decide) (by decide) ?_ | refine sm_get_p1n (by decide) rfl ?_ | refine sm_get_p2n (by decide) (by decide) rfl ?_)) ?_
  refine Bod.ildnG dc_333_40 (by repeat (first | exact q1 | exact sm_get_p1 | exact sm_get_p2e | refine sm_get_p1m (by decide) (by decide) ?_ | refine sm_get_p1n (by decide) rfl ?_ | refine sm_get_p2n (by decide) (by decide) rfl ?_)) ?_
  refine Bod.ic 0 (by decide) dc_333_41 ?_
  refine Bod.virt (r := []) dc_333_42 kr_333_309 ⟨Or.inl rfl, ow_334, cl_14⟩ (by rw [np_334]; rfl) (by rw [np_334]; rfl) (ob_of (mk_61 _)) (Nat.le_of_ble_eq_true rfl) (c3  ) ?_
  show Bod _ _ _ _ [_] _ _ _
  refine Bod.ifT dc_333_45 rfl (k1_ne_T (k_ne 1 0 rfl rfl (by omega) (by omega) (by omega))) ?_
  refine Bod.aldnG dc_333_50 (by repeat (first | exact q0 | exact sm_get_p1 | exact sm_get_p2e | refine sm_get_p1m (by decide) (by decide) ?_ | refine sm_get_p1n (by decide) rfl ?_ | refine sm_get_p2n (by decide) (by decide) rfl ?_)) ?_
  refine Bod.get dc_333_51 fr_333_129 (mk_61 _) rfl ?_
  refine Bod.aldnG dc_333_54 (by repeat (first | exact q0 | exact sm_get_p1 | exact sm_get_p2e | refine sm_get_p1m (by decide) (by decide) ?_ | refine sm_get_p1n (by decide) rfl ?_ | refine sm_get_p2n (by decide) (by decide) rfl ?_)) ?_
  refine Bod.get dc_333_55 fr_333_190 (mk_61 _) rfl ?_
  refine Bod.eqI (nI k1) (by first | (simp (disch := omega) only [rI, rIe, rA, rIA, rLA, rJA, rVI, rQI, rVA, rQA, upd_at,  rAI, rLI, rJI, nI_add, pk_sub, kc_0, kc_1, kc_2, kc_3, kc_4, kc_5, reduceIte, Nat.reduceEqDiff, Nat.add_zero, rI_hold, rI_hold, rL_hold, hk, hk1]; done) | (simp (disch := omega) only [rI, rIe, rA, rIA, rLA, rJA, rVI, rQI, rVA, rQA, upd_at,  rAI, rLI, rJI, nI_add, pk_sub, kc_0, kc_1, kc_2, kc_3, kc_4, kc_5, reduceIte, Nat.reduceEqDiff, Nat.add_zero, rI_hold, rI_hold, rL_hold, hk, hk1]; exact congrArg nI (by omega))) ?_
  refine Bod.ialdN k1 rfl (by omega) (by omega) dc_333_58 (mk_67 _) ?_
  refine Bod.eqI (nI e67) (by first | (simp (disch := omega) only [rI, rIe, rA, rIA, rLA, rJA, rVI, rQI, rVA, rQA, upd_at,  rAI, rLI, rJI, nI_add, pk_sub, kc_0, kc_1, kc_2, kc_3, kc_4, kc_5, reduceIte, Nat.reduceEqDiff, Nat.add_zero, rI_hold, rI_hold, rL_hold, hk, hk1, he67]; done) | (simp (disch := omega) only [rI, rIe, rA, rIA, rLA, rJA, rVI, rQI, rVA, rQA, upd_at,  rAI, rLI, rJI, nI_add, pk_sub, kc_0, kc_1, kc_2, kc_3, kc_4, kc_5, reduceIte, Nat.reduceEqDiff, Nat.add_zero, rI_hold, rI_hold, rL_hold, hk, hk1, he67]; exact congrArg nI (by omega))) ?_
  refine Bod.bip 7 (by decide) dc_333_59 ?_
  refine Bod.icF dc_333_61 rfl (k2_eq_F (k_ne e67 7 rfl rfl (by omega) (by omega) (by omega))) ?_
  refine Bod.aldnG dc_333_64 (by repeat (first | exact q0 | exact sm_get_p1 | exact sm_get_p2e | refine sm_get_p1m (by decide) (by decide) ?_ | refine sm_get_p1n (by decide) rfl ?_ | refine sm_get_p2n (by decide) (by decide) rfl ?_)) ?_
  refine Bod.get dc_333_65 fr_333_141 (mk_61 _) rfl ?_
  refine Bod.aldnG dc_333_68 (by repeat (first | exact q0 | exact sm_get_p1 | exact sm_get_p2e | refine sm_get_p1m (by decide) (by decide) ?_ | refine sm_get_p1n (by decide) rfl ?_ | refine sm_get_p2n (by decide) (by decide) rfl ?_)) ?_
  refine Bod.get dc_333_69 fr_333_190 (mk_61 _) rfl ?_
  refine Bod.eqI (nI k1) (by first | (simp (disch := omega) only [rI, rIe, rA, rIA, rLA, rJA, rVI, rQI, rVA, rQA, upd_at,  rAI, rLI, rJI, nI_add, pk_sub, kc_0, kc_1, kc_2, kc_3, kc_4, kc_5, reduceIte, Nat.reduceEqDiff, Nat.add_zero, rI_hold, rI_hold, rL_hold, hk, hk1, he67]; done) | (simp (disch := omega) only [rI, rIe, rA, rIA, rLA, rJA, rVI, rQI, rVA, rQA, upd_at,  rAI, rLI, rJI, nI_add, pk_sub, kc_0, kc_1, kc_2, kc_3, kc_4, kc_5, reduceIte, Nat.reduceEqDiff, Nat.add_zero, rI_hold, rI_hold, rL_hold, hk, hk1, he67]; exact congrArg nI (by omega))) ?_
  refine Bod.ialdN k1 rfl (by omega) (by omega) dc_333_72 (mk_70 _) ?_
  refine Bod.eqI (nI e70) (by first | (simp (disch := omega) only [rI, rIe, rA, rIA, rLA, rJA, rVI, rQI, rVA, rQA, upd_at,  rAI, rLI, rJI, nI_add, pk_sub, kc_0, kc_1, kc_2, kc_3, kc_4, kc_5, reduceIte, Nat.reduceEqDiff, Nat.add_zero, rI_hold, rI_hold, rL_hold, hk, hk1, he67, he70]; done) | (simp (disch := omega) only [rI, rIe, rA, rIA, rLA, rJA, rVI, rQI, rVA, rQA, upd_at,  rAI, rLI, rJI, nI_add, pk_sub, kc_0, kc_1, kc_2, kc_3, kc_4, kc_5, reduceIte, Nat.reduceEqDiff, Nat.add_zero, rI_hold, rI_hold, rL_hold, hk, hk1, he67, he70]; exact congrArg nI (by omega))) ?_
  refine Bod.ildnG dc_333_73 (by repeat (first | exact q1 | exact sm_get_p1 | exact sm_get_p2e | refine sm_get_p1m (by decide) (by decide) ?_ | refine sm_get_p1n (by decide) rfl ?_ | refine sm_get_p2n (by decide) (by decide) rfl ?_)) ?_
  refine Bod.icF dc_333_74 rfl (k2_ne_F (k_eq e70 la rfl rfl (by omega))) ?_
  refine Bod.aldnG dc_333_77 (by repeat (first | exact q0 | exact sm_get_p1 | exact sm_get_p2e | refine sm_get_p1m (by decide) (by decide) ?_ | refine sm_get_p1n (by decide) rfl ?_ | refine sm_get_p2n (by decide) (by decide) rfl ?_)) ?_
  refine Bod.ic 1 (by decide) dc_333_78 ?_
  refine Bod.virt (r := []) dc_333_79 kr_333_312 ⟨Or.inl rfl, ow_309, cl_14⟩ (by rw [np_309]; rfl) (by rw [np_309]; rfl) (ob_of (mk_61 _)) (Nat.le_of_ble_eq_true rfl) (c4  ) ?_
  show Bod _ _ _ _ [_] _ _ _
  refine Bod.ifF dc_333_82 rfl (k1_eq_F (k_ne 1 0 rfl rfl (by omega) (by omega) (by omega))) ?_
  refine Bod.ic 1 (by decide) dc_333_85 ?_
  refine Bod.go dc_333_86 rfl ?_
  refine Bod.istn dc_333_90 (by rw [ml_333]; exact Nat.le_of_ble_eq_true rfl) ?_
  refine Bod.aldnG dc_333_91 (by repeat (first | exact q0 | exact sm_get_p1 | exact sm_get_p2e | refine sm_get_p1m (by decide) (by decide) ?_ | refine sm_get_p1n (by decide) rfl ?_ | refine sm_get_p2n (by decide) (by decide) rfl ?_)) ?_
  refine Bod.get dc_333_92 fr_333_129 (mk_61 _) rfl ?_
  refine Bod.aldnG dc_333_95 (by repeat (first | exact q0 | exact sm_get_p1 | exact sm_get_p2e | refine sm_get_p1m (by decide) (by decide) ?_ | refine sm_get_p1n (by decide) rfl ?_ | refine sm_get_p2n (by decide) (by decide) rfl ?_)) ?_
  refine Bod.get dc_333_96 fr_333_190 (mk_61 _) rfl ?_
  refine Bod.eqI (nI k2) (by first | (simp (disch := omega) only [rI, rIe, rA, rIA, rLA, rJA, rVI, rQI, rVA, rQA, upd_at,  rAI, rLI, rJI, nI_add, pk_sub, kc_0, kc_1, kc_2, kc_3, kc_4, kc_5, reduceIte, Nat.reduceEqDiff, Nat.add_zero, rI_hold, rI_hold, rL_hold, hk, hk1, he67, he70, hk2]; done) | (simp (disch := omega) only [rI, rIe, rA, rIA, rLA, rJA, rVI, rQI, rVA, rQA, upd_at,  rAI, rLI, rJI, nI_add, pk_sub, kc_0, kc_1, kc_2, kc_3, kc_4, kc_5, reduceIte, Nat.reduceEqDiff, Nat.add_zero, rI_hold, rI_hold, rL_hold, hk, hk1, he67, he70, hk2]; exact congrArg nI (by omega))) ?_
  refine Bod.ialdN k2 rfl (by omega) (by omega) dc_333_99 (mk_67 _) ?_
  refine Bod.eqI (nI e671) (by first | (simp (disch := omega) only [rI, rIe, rA, rIA, rLA, rJA, rVI, rQI, rVA, rQA, upd_at,  rAI, rLI, rJI, nI_add, pk_sub, kc_0, kc_1, kc_2, kc_3, kc_4, kc_5, reduceIte, Nat.reduceEqDiff, Nat.add_zero, rI_hold, rI_hold, rL_hold, hk, hk1, he67, he70, hk2, he671]; done) | (simp (disch := omega) only [rI, rIe, rA, rIA, rLA, rJA, rVI, rQI, rVA, rQA, upd_at,  rAI, rLI, rJI, nI_add, pk_sub, kc_0, kc_1, kc_2, kc_3, kc_4, kc_5, reduceIte, Nat.reduceEqDiff, Nat.add_zero, rI_hold, rI_hold, rL_hold, hk, hk1, he67, he70, hk2, he671]; exact congrArg nI (by omega))) ?_
  refine Bod.bip 7 (by decide) dc_333_100 ?_
  refine Bod.icF dc_333_102 rfl (k2_eq_F (k_ne e671 7 rfl rfl (by omega) (by omega) (by omega))) ?_
  refine Bod.aldnG dc_333_105 (by repeat (first | exact q0 | exact sm_get_p1 | exact sm_get_p2e | refine sm_get_p1m (by decide) (by decide) ?_ | refine sm_get_p1n (by decide) rfl ?_ | refine sm_get_p2n (by decide) (by decide) rfl ?_)) ?_
  refine Bod.get dc_333_106 fr_333_141 (mk_61 _) rfl ?_
  refine Bod.aldnG dc_333_109 (by repeat (first | exact q0 | exact sm_get_p1 | exact sm_get_p2e | refine sm_get_p1m (by decide) (by decide) ?_ | refine sm_get_p1n (by decide) rfl ?_ | refine sm_get_p2n (by decide) (by decide) rfl ?_)) ?_
  refine Bod.get dc_333_110 fr_333_190 (mk_61 _) rfl ?_
  refine Bod.eqI (nI k2) (by first | (simp (disch := omega) only [rI, rIe, rA, rIA, rLA, rJA, rVI, rQI, rVA, rQA, upd_at,  rAI, rLI, rJI, nI_add, pk_sub, kc_0, kc_1, kc_2, kc_3, kc_4, kc_5, reduceIte, Nat.reduceEqDiff, Nat.add_zero, rI_hold, rI_hold, rL_hold, hk, hk1, he67, he70, hk2, he671]; done) | (simp (disch := omega) only [rI, rIe, rA, rIA, rLA, rJA, rVI, rQI, rVA, rQA, upd_at,  rAI, rLI, rJI, nI_add, pk_sub, kc_0, kc_1, kc_2, kc_3, kc_4, kc_5, reduceIte, Nat.reduceEqDiff, Nat.add_zero, rI_hold, rI_hold, rL_hold, hk, hk1, he67, he70, hk2, he671]; exact congrArg nI (by omega))) ?_
  refine Bod.ialdN k2 rfl (by omega) (by omega) dc_333_113 (mk_70 _) ?_
  refine Bod.eqI (nI e701) (by first | (simp (disch := omega) only [rI, rIe, rA, rIA, rLA, rJA, rVI, rQI, rVA, rQA, upd_at,  rAI, rLI, rJI, nI_add, pk_sub, kc_0, kc_1, kc_2, kc_3, kc_4, kc_5, reduceIte, Nat.reduceEqDiff, Nat.add_zero, rI_hold, rI_hold, rL_hold, hk, hk1, he67, he70, hk2, he671, he701]; done) | (simp (disch := omega) only [rI, rIe, rA, rIA, rLA, rJA, rVI, rQI, rVA, rQA, upd_at,  rAI, rLI, rJI, nI_add, pk_sub, kc_0, kc_1, kc_2, kc_3, kc_4, kc_5, reduceIte, Nat.reduceEqDiff, Nat.add_zero, rI_hold, rI_hold, rL_hold, hk, hk1, he67, he70, hk2, he671, he701]; exact congrArg nI (by omega))) ?_
  refine Bod.ildnG dc_333_114 (by repeat (first | exact q1 | exact sm_get_p1 | exact sm_get_p2e | refine sm_get_p1m (by decide) (by decide) ?_ | refine sm_get_p1n (by decide) rfl ?_ | refine sm_get_p2n (by decide) (by decide) rfl ?_)) ?_
  refine Bod.icF dc_333_115 rfl (k2_ne_F (k_eq e701 la rfl rfl (by omega))) ?_
  refine Bod.aldnG dc_333_118 (by repeat (first | exact q0 | exact sm_get_p1 | exact sm_get_p2e | refine sm_get_p1m (by decide) (by decide) ?_ | refine sm_get_p1n (by decide) rfl ?_ | refine sm_get_p2n (by decide) (by decide) rfl ?_)) ?_
  refine Bod.ic 2 (by decide) dc_333_119 ?_
  refine Bod.virt (r := []) dc_333_120 kr_333_312 ⟨Or.inl rfl, ow_309, cl_14⟩ (by rw [np_309]; rfl) (by rw [np_309]; rfl) (ob_of (mk_61 _)) (Nat.le_of_ble_eq_true rfl) (c5  ) ?_
  show Bod _ _ _ _ [_] _ _ _
  refine Bod.ifF dc_333_123 rfl (k1_eq_F (k_ne 1 0 rfl rfl (by omega) (by omega) (by omega))) ?_
  refine Bod.ic 1 (by decide) dc_333_126 ?_
  refine Bod.go dc_333_127 rfl ?_
  refine Bod.ist dc_333_131 (by rw [ml_333]; exact Nat.le_of_ble_eq_true rfl) ?_
  refine Bod.ildnG dc_333_133 (by repeat (first | exact q0 | exact sm_get_p1 | exact sm_get_p2e | refine sm_get_p1m (by decide) (by decide) ?_ | refine sm_get_p1n (by decide) rfl ?_ | refine sm_get_p2n (by decide) (by decide) rfl ?_)) ?_
  refine Bod.ifT dc_333_134 rfl (k1_ne_T (k_ne 1 0 rfl rfl (by omega) (by omega) (by omega))) ?_
  refine Bod.aldnG dc_333_142 (by repeat (first | exact q0 | exact sm_get_p1 | exact sm_get_p2e | refine sm_get_p1m (by decide) (by decide) ?_ | refine sm_get_p1n (by decide) rfl ?_ | refine sm_get_p2n (by decide) (by decide) rfl ?_)) ?_
  refine Bod.get dc_333_143 fr_333_314 (mk_61 _) rfl ?_
  refine Bod.aldnG dc_333_146 (by repeat (first | exact q0 | exact sm_get_p1 | exact sm_get_p2e | refine sm_get_p1m (by decide) (by decide) ?_ | refine sm_get_p1n (by decide) rfl ?_ | refine sm_get_p2n (by decide) (by decide) rfl ?_)) ?_
  refine Bod.get dc_333_147 fr_333_251 (mk_61 _) rfl ?_
  refine Bod.eqI (nI en) (by first | (simp (disch := omega) only [rI, rIe, rA, rIA, rLA, rJA, rVI, rQI, rVA, rQA, upd_at,  rAI, rLI, rJI, nI_add, pk_sub, kc_0, kc_1, kc_2, kc_3, kc_4, kc_5, reduceIte, Nat.reduceEqDiff, Nat.add_zero, rI_hold, rI_hold, rL_hold, hk, hk1, he67, he70, hk2, he671, he701, hen]; done) | (simp (disch := omega) only [rI, rIe, rA, rIA, rLA, rJA, rVI, rQI, rVA, rQA, upd_at,  rAI, rLI, rJI, nI_add, pk_sub, kc_0, kc_1, kc_2, kc_3, kc_4, kc_5, reduceIte, Nat.reduceEqDiff, Nat.add_zero, rI_hold, rI_hold, rL_hold, hk, hk1, he67, he70, hk2, he671, he701, hen]; exact congrArg nI (by omega))) ?_
  refine Bod.aldnG dc_333_150 (by repeat (first | exact q0 | exact sm_get_p1 | exact sm_get_p2e | refine sm_get_p1m (by decide) (by decide) ?_ | refine sm_get_p1n (by decide) rfl ?_ | refine sm_get_p2n (by decide) (by decide) rfl ?_)) ?_
  refine Bod.bip 11 (by decide) dc_333_151 ?_
  refine Bod.virt (r := [_, _]) dc_333_153 kr_333_305 ⟨Or.inl rfl, ow_325, cl_14⟩ (by rw [np_325]; rfl) (by rw [np_325]; rfl) (ob_of (mk_61 _)) (Nat.le_of_ble_eq_true rfl) (c6  ) ?_
  show Bod _ _ _ _ [_, _, _] _ _ _
  refine Bod.iastN en rfl (by omega) (by omega) dc_333_156 (mk_81 _) (sa_81 _ _ _) (mu_A _ _ _ _) ?_
  refine Bod.aldnG dc_333_157 (by repeat (first | exact q0 | exact sm_get_p1 | exact sm_get_p2e | refine sm_get_p1m (by decide) (by decide) ?_ | refine sm_get_p1n (by decide) rfl ?_ | refine sm_get_p2n (by decide) (by decide) rfl ?_)) ?_
  refine Bod.go dc_333_158 rfl ?_
  refine Bod.get dc_333_159 fr_333_251 (mk_61 _) rfl ?_
  refine Bod.eqI (nI en1) (by first | (simp (disch := omega) only [rI, rIe, rA, rIA, rLA, rJA, rVI, rQI, rVA, rQA, upd_at,  rAI, rLI, rJI, nI_add, pk_sub, kc_0, kc_1, kc_2, kc_3, kc_4, kc_5, reduceIte, Nat.reduceEqDiff, Nat.add_zero, rI_hold, rI_hold, rL_hold, hk, hk1, he67, he70, hk2, he671, he701, hen, hen1]; done) | (simp (disch := omega) only [rI, rIe, rA, rIA, rLA, rJA, rVI, rQI, rVA, rQA, upd_at,  rAI, rLI, rJI, nI_add, pk_sub, kc_0, kc_1, kc_2, kc_3, kc_4, kc_5, reduceIte, Nat.reduceEqDiff, Nat.add_zero, rI_hold, rI_hold, rL_hold, hk, hk1, he67, he70, hk2, he671, he701, hen, hen1]; exact congrArg nI (by omega))) ?_
  refine Bod.ic 1 (by decide) dc_333_162 ?_
  refine Bod.addN (en1 + 1) (by omega) dc_333_163 ?_
  refine Bod.put dc_333_164 fr_333_251 (mk_61 _) (Nat.le_of_ble_eq_true rfl) pf_14_34 (st_6134 _ _) (mu_I _ _ _) ?_
  refine Bod.aldnG dc_333_167 (by repeat (first | exact q0 | exact sm_get_p1 | exact sm_get_p2e | refine sm_get_p1m (by decide) (by decide) ?_ | refine sm_get_p1n (by decide) rfl ?_ | refine sm_get_p2n (by decide) (by decide) rfl ?_)) ?_
  refine Bod.ildG dc_333_168 (by repeat (first | exact q0 | exact sm_get_p1 | exact sm_get_p2e | refine sm_get_p1m (by decide) (by decide) ?_ | refine sm_get_p1n (by decide) rfl ?_ | refine sm_get_p2n (by decide) (by decide) rfl ?_)) ?_
  refine Bod.virt (r := []) dc_333_170 kr_333_317 ⟨Or.inl rfl, ow_326, cl_14⟩ (by rw [np_326]; rfl) (by rw [np_326]; rfl) (ob_of (mk_61 _)) (Nat.le_of_ble_eq_true rfl) (c7  ) ?_
  show Bod _ _ _ _ [] _ _ _
  refine Bod.ildG dc_333_173 (by repeat (first | exact q0 | exact sm_get_p1 | exact sm_get_p2e | refine sm_get_p1m (by decide) (by decide) ?_ | refine sm_get_p1n (by decide) rfl ?_ | refine sm_get_p2n (by decide) (by decide) rfl ?_)) ?_
  refine Bod.ifT dc_333_175 rfl (k1_ne_T (k_ne 1 0 rfl rfl (by omega) (by omega) (by omega))) ?_
  refine Bod.aldnG dc_333_181 (by repeat (first | exact q0 | exact sm_get_p1 | exact sm_get_p2e | refine sm_get_p1m (by decide) (by decide) ?_ | refine sm_get_p1n (by decide) rfl ?_ | refine sm_get_p2n (by decide) (by decide) rfl ?_)) ?_
  refine Bod.go dc_333_182 rfl ?_
  refine Bod.get dc_333_183 fr_333_190 (mk_61 _) rfl ?_
  refine Bod.eqI (nI k3) (by first | (simp (disch := omega) only [rI, rIe, rA, rIA, rLA, rJA, rVI, rQI, rVA, rQA, upd_at,  rAI, rLI, rJI, nI_add, pk_sub, kc_0, kc_1, kc_2, kc_3, kc_4, kc_5, reduceIte, Nat.reduceEqDiff, Nat.add_zero, rI_hold, rI_hold, rL_hold, hk, hk1, he67, he70, hk2, he671, he701, hen, hen1, hk3]; done) | (simp (disch := omega) only [rI, rIe, rA, rIA, rLA, rJA, rVI, rQI, rVA, rQA, upd_at,  rAI, rLI, rJI, nI_add, pk_sub, kc_0, kc_1, kc_2, kc_3, kc_4, kc_5, reduceIte, Nat.reduceEqDiff, Nat.add_zero, rI_hold, rI_hold, rL_hold, hk, hk1, he67, he70, hk2, he671, he701, hen, hen1, hk3]; exact congrArg nI (by omega))) ?_
  refine Bod.ic 1 (by decide) dc_333_186 ?_
  refine Bod.addN (k3 + 1) (by omega) dc_333_187 ?_
  refine Bod.put dc_333_188 fr_333_190 (mk_61 _) (Nat.le_of_ble_eq_true rfl) pf_14_15 (st_6115 _ _) (mu_I _ _ _) ?_
  refine Bod.aldnG dc_333_191 (by repeat (first | exact q0 | exact sm_get_p1 | exact sm_get_p2e | refine sm_get_p1m (by decide) (by decide) ?_ | refine sm_get_p1n (by decide) rfl ?_ | refine sm_get_p2n (by decide) (by decide) rfl ?_)) ?_
  refine Bod.ildnG dc_333_192 (by repeat (first | exact q1 | exact sm_get_p1 | exact sm_get_p2e | refine sm_get_p1m (by decide) (by decide) ?_ | refine sm_get_p1n (by decide) rfl ?_ | refine sm_get_p2n (by decide) (by decide) rfl ?_)) ?_
  refine Bod.ic 0 (by decide) dc_333_193 ?_
  refine Bod.virt (r := []) dc_333_194 kr_333_309 ⟨Or.inl rfl, ow_334, cl_14⟩ (by rw [np_334]; rfl) (by rw [np_334]; rfl) (ob_of (mk_61 _)) (Nat.le_of_ble_eq_true rfl) (c8  ) ?_
  show Bod _ _ _ _ [_] _ _ _
  refine Bod.ifT dc_333_197 rfl (k1_ne_T (k_ne 1 0 rfl rfl (by omega) (by omega) (by omega))) ?_
  refine Bod.go dc_333_202 rfl ?_
  exact hB _ (by repeat (first | exact q0 | exact sm_get_p1 | exact sm_get_p2e | refine sm_get_p1m (by decide) (by decide) ?_ | refine sm_get_p1n (by decide) rfl ?_ | refine sm_get_p2n (by decide) (by decide) rfl ?_)) (by repeat (first | exact q1 | exact sm_get_p1 | exact sm_get_p2e | refine sm_get_p1m (by decide) (by decide) ?_ | refine sm_get_p1n (by decide) rfl ?_ | refine sm_get_p2n (by decide) (by decide) rfl ?_)) (by repeat (first | exact q2 | exact sm_get_p1 | exact sm_get_p2e | refine sm_get_p1m (by decide) (by decide) ?_ | refine sm_get_p1n (by decide) rfl ?_ | refine sm_get_p2n (by decide) (by decide) rfl ?_)) (by repeat (first | exact q0 | exact sm_get_p1 | exact sm_get_p2e | refine sm_get_p1m (by decide) (by decide) ?_ | refine sm_get_p1n (by decide) rfl ?_ | refine sm_get_p2n (by decide) (by decide) rfl ?_))
theorem zChL_6 {d : Nat} {S : cS} {lv : sm_L} {la : Nat} {le : Nat} {k : Nat} {S1 : cS} {S2 : cS} {a : Nat} {S3 : cS} {k1 : Nat} {e67 : Nat} {e70 : Nat} {S4 : cS} {k2 : Nat} {e671 : Nat} {e701 : Nat} {S5 : cS} {en : Nat} {S6 : cS} {a1 : Nat} {en1 : Nat} {S7 : cS} {k3 : Nat} {S8 : cS} (q0 : sm_get lv 0 = some (.ref 61)) (q1 : sm_get lv 1 = some (.int (nI la))) (q2 : sm_get lv 2 = some (.int (nI le))) (q3 : sm_get lv 3 = some (.int (nI 1))) (mla : la < 2 ^ 20) (mle : le < 2 ^ 20) (hk : sI S 6115 = nI k) (mk : k < 6001) (c1 : Ans (d + 8) 306 [.ref 61, .int (nI 0)] (wI 6115 (nI (k + 1)) S) (some (.int (nI 1))) S1) (ma : a < 2 ^ 20) (c2 : Ans (d + 8) 325 [.ref 61, .int (nI 12)] S1 (some (.int (nI a))) S2) (c3 : Ans (d + 8) 334 [.ref 61, .int (nI la), .int (nI 0)] S2 (some (.int (nI 1))) S3) (hk1 : sI S3 6115 = nI k1) (mk1 : k1 < 6001) (he67 : sA S3 67 k1 = nI e67) (me67 : e67 < 2 ^ 20) (b1 : e67 ≠ 7) (he70 : sA S3 70 k1 = nI e70) (me70 : e70 < 2 ^ 20) (b2 : e70 = la) (c4 : Ans (d + 8) 309 [.ref 61, .int (nI 1)] S3 (some (.int (nI 1))) S4) (hk2 : sI S4 6115 = nI k2) (mk2 : k2 < 6001) (he671 : sA S4 67 k2 = nI e671) (me671 : e671 < 2 ^ 20) (b3 : e671 ≠ 7) (he701 : sA S4 70 k2 = nI e701) (me701 : e701 < 2 ^ 20) (b4 : e701 = la) (c5 : Ans (d + 8) 309 [.ref 61, .int (nI 2)] S4 (some (.int (nI 1))) S5) (hen : sI S5 6134 = nI en) (men : en < 3000) (ma1 : a1 < 2 ^ 20) (c6 : Ans (d + 8) 325 [.ref 61, .int (nI 11)] S5 (some (.int (nI a1))) S6) (hen1 : sI (wA 81 en (nI a1) S6) 6134 = nI en1) (men1 : en1 < 3000) (c7 : Ans (d + 8) 326 [.ref 61, .int (nI a)] (wI 6134 (nI (en1 + 1)) (wA 81 en (nI a1) S6)) none S7) (hk3 : sI S7 6115 = nI k3) (mk3 : k3 < 6001) (c8 : Ans (d + 8) 334 [.ref 61, .int (nI la), .int (nI 0)] (wI 6115 (nI (k3 + 1)) S7) (some (.int (nI 0))) S8) : Bod (d + 8) 333 7 lv [] S (some (.int 0)) (S8) := by
  refine Bod.ildnG dc_333_7 (by repeat (first | exact q3 | exact sm_get_p1 | exact sm_get_p2e | refine sm_get_p1m (by decide) (by decide) ?_ | refine sm_get_p1n (by decide) rfl ?_ | refine sm_get_p2n (by decide) (by decide) rfl ?_)) ?_
  refine Bod.ifF dc_333_8 rfl (k1_eq_F (k_ne 1 0 rfl rfl (by omega) (by omega) (by omega))) ?_
  refine Bod.aldnG dc_333_11 (by repeat (first | exact q0 | exact sm_get_p1 | exact sm_get_p2e | refine sm_get_p1m (by decide) (by decide) ?_ | refine sm_get_p1n (by decide) rfl ?_ | refine sm_get_p2n (by decide) (by decide) rfl ?_)) ?_
  refine Bod.go dc_333_12 rfl ?_
  refine Bod.get dc_333_13 fr_333_190 (mk_61 _) rfl ?_
  refine Bod.eqI (nI k) (by first | assumption | rfl | exact congrArg nI (by omega) | (simp (disch := omega) only [rI, rIe, rA, rIA, rLA, rJA, rVI, rQI, rVA, rQA, upd_at,  rAI, rLI, rJI, nI_add, pk_sub, kc_0, kc_1, kc_2, kc_3, kc_4, kc_5, reduceIte, Nat.reduceEqDiff, Nat.add_zero, rI_hold, rI_hold, rL_hold, hk]; done)) ?_
  refine Bod.ic 1 (by decide) dc_333_16 ?_
  refine Bod.addN (k + 1) (by omega) dc_333_17 ?_
  refine Bod.put dc_333_18 fr_333_190 (mk_61 _) (Nat.le_of_ble_eq_true rfl) pf_14_15 (st_6115 _ _) (mu_I _ _ _) ?_
  refine Bod.aldnG dc_333_21 (by repeat (first | exact q0 | exact sm_get_p1 | exact sm_get_p2e | refine sm_get_p1m (by decide) (by decide) ?_ | refine sm_get_p1n (by decide) rfl ?_ | refine sm_get_p2n (by decide) (by decide) rfl ?_)) ?_
  refine Bod.ic 0 (by decide) dc_333_22 ?_
  refine Bod.virt (r := []) dc_333_23 kr_333_302 ⟨Or.inl rfl, ow_306, cl_14⟩ (by rw [np_306]; rfl) (by rw [np_306]; rfl) (ob_of (mk_61 _)) (Nat.le_of_ble_eq_true rfl) (c1  ) ?_
  show Bod _ _ _ _ [_] _ _ _
  refine Bod.ifT dc_333_26 rfl (k1_ne_T (k_ne 1 0 rfl rfl (by omega) (by omega) (by omega))) ?_
  refine Bod.aldnG dc_333_31 (by repeat (first | exact q0 | exact sm_get_p1 | exact sm_get_p2e | refine sm_get_p1m (by decide) (by decide) ?_ | refine sm_get_p1n (by decide) rfl ?_ | refine sm_get_p2n (by decide) (by decide) rfl ?_)) ?_
  refine Bod.bip 12 (by decide) dc_333_32 ?_
  refine Bod.virt (r := []) dc_333_34 kr_333_305 ⟨Or.inl rfl, ow_325, cl_14⟩ (by rw [np_325]; rfl) (by rw [np_325]; rfl) (ob_of (mk_61 _)) (Nat.le_of_ble_eq_true rfl) (c2  ) ?_
  show Bod _ _ _ _ [_] _ _ _
  refine Bod.ist dc_333_37 (by rw [ml_333]; exact Nat.le_of_ble_eq_true rfl) ?_
  refine Bod.aldnG dc_333_39 (by repeat (first | exact q0 | exact sm_get_p1 | exact sm_get_p2e | refine sm_get_p1m (by decide) (by decide) ?_ | refine sm_get_p1n (by decide) rfl ?_ | refine sm_get_p2n (by decide) (by decide) rfl ?_)) ?_
  refine Bod.ildnG dc_333_40 (by repeat (first | exact q1 | exact sm_get_p1 | exact sm_get_p2e | refine sm_get_p1m (by decide) (by decide) ?_ | refine sm_get_p1n (by decide) rfl ?_ | refine sm_get_p2n (by decide) (by decide) rfl ?_)) ?_
  refine Bod.ic 0 (by decide) dc_333_41 ?_
  refine Bod.virt (r := []) dc_333_42 kr_333_309 ⟨Or.inl rfl, ow_334, cl_14⟩ (by rw [np_334]; rfl) (by rw [np_334]; rfl) (ob_of (mk_61 _)) (Nat.le_of_ble_eq_true rfl) (c3  ) ?_
  show Bod _ _ _ _ [_] _ _ _
  refine Bod.ifT dc_333_45 rfl (k1_ne_T (k_ne 1 0 rfl rfl (by omega) (by omega) (by omega))) ?_
  refine Bod.aldnG dc_333_50 (by repeat (first | exact q0 | exact sm_get_p1 | exact sm_get_p2e | refine sm_get_p1m (by decide) (by decide) ?_ | refine sm_get_p1n (by decide) rfl ?_ | refine sm_get_p2n (by decide) (by decide) rfl ?_)) ?_
  refine Bod.get dc_333_51 fr_333_129 (mk_61 _) rfl ?_
  refine Bod.aldnG dc_333_54 (by repeat (first | exact q0 | exact sm_get_p1 | exact sm_get_p2e | refine sm_get_p1m (by decide) (by decide) ?_ | refine sm_get_p1n (by decide) rfl ?_ | refine sm_get_p2n (by decide) (by decide) rfl ?_)) ?_
  refine Bod.get dc_333_55 fr_333_190 (mk_61 _) rfl ?_
  refine Bod.eqI (nI k1) (by first | (simp (disch := omega) only [rI, rIe, rA, rIA, rLA, rJA, rVI, rQI, rVA, rQA, upd_at,  rAI, rLI, rJI, nI_add, pk_sub, kc_0, kc_1, kc_2, kc_3, kc_4, kc_5, reduceIte, Nat.reduceEqDiff, Nat.add_zero, rI_hold, rI_hold, rL_hold, hk, hk1]; done) | (simp (disch := omega) only [rI, rIe, rA, rIA, rLA, rJA, rVI, rQI, rVA, rQA, upd_at,  rAI, rLI, rJI, nI_add, pk_sub, kc_0, kc_1, kc_2, kc_3, kc_4, kc_5, reduceIte, Nat.reduceEqDiff, Nat.add_zero, rI_hold, rI_hold, rL_hold, hk, hk1]; exact congrArg nI (by omega))) ?_
  refine Bod.ialdN k1 rfl (by omega) (by omega) dc_333_58 (mk_67 _) ?_
  refine Bod.eqI (nI e67) (by first | (simp (disch := omega) only [rI, rIe, rA, rIA, rLA, rJA, rVI, rQI, rVA, rQA, upd_at,  rAI, rLI, rJI, nI_add, pk_sub, kc_0, kc_1, kc_2, kc_3, kc_4, kc_5, reduceIte, Nat.reduceEqDiff, Nat.add_zero, rI_hold, rI_hold, rL_hold, hk, hk1, he67]; done) | (simp (disch := omega) only [rI, rIe, rA, rIA, rLA, rJA, rVI, rQI, rVA, rQA, upd_at,  rAI, rLI, rJI, nI_add, pk_sub, kc_0, kc_1, kc_2, kc_3, kc_4, kc_5, reduceIte, Nat.reduceEqDiff, Nat.add_zero, rI_hold, rI_hold, rL_hold, hk, hk1, he67]; exact congrArg nI (by omega))) ?_
  refine Bod.bip 7 (by decide) dc_333_59 ?_
  refine Bod.icF dc_333_61 rfl (k2_eq_F (k_ne e67 7 rfl rfl (by omega) (by omega) (by omega))) ?_
  refine Bod.aldnG dc_333_64 (by repeat (first | exact q0 | exact sm_get_p1 | exact sm_get_p2e | refine sm_get_p1m (by decide) (by decide) ?_ | refine sm_get_p1n (by decide) rfl ?_ | refine sm_get_p2n (by decide) (by decide) rfl ?_)) ?_
  refine Bod.get dc_333_65 fr_333_141 (mk_61 _) rfl ?_
  refine Bod.aldnG dc_333_68 (by repeat (first | exact q0 | exact sm_get_p1 | exact sm_get_p2e | refine sm_get_p1m (by decide) (by decide) ?_ | refine sm_get_p1n (by decide) rfl ?_ | refine sm_get_p2n (by decide) (by decide) rfl ?_)) ?_
  refine Bod.get dc_333_69 fr_333_190 (mk_61 _) rfl ?_
  refine Bod.eqI (nI k1) (by first | (simp (disch := omega) only [rI, rIe, rA, rIA, rLA, rJA, rVI, rQI, rVA, rQA, upd_at,  rAI, rLI, rJI, nI_add, pk_sub, kc_0, kc_1, kc_2, kc_3, kc_4, kc_5, reduceIte, Nat.reduceEqDiff, Nat.add_zero, rI_hold, rI_hold, rL_hold, hk, hk1, he67]; done) | (simp (disch := omega) only [rI, rIe, rA, rIA, rLA, rJA, rVI, rQI, rVA, rQA, upd_at,  rAI, rLI, rJI, nI_add, pk_sub, kc_0, kc_1, kc_2, kc_3, kc_4, kc_5, reduceIte, Nat.reduceEqDiff, Nat.add_zero, rI_hold, rI_hold, rL_hold, hk, hk1, he67]; exact congrArg nI (by omega))) ?_
  refine Bod.ialdN k1 rfl (by omega) (by omega) dc_333_72 (mk_70 _) ?_
  refine Bod.eqI (nI e70) (by first | (simp (disch := omega) only [rI, rIe, rA, rIA, rLA, rJA, rVI, rQI, rVA, rQA, upd_at,  rAI, rLI, rJI, nI_add, pk_sub, kc_0, kc_1, kc_2, kc_3, kc_4, kc_5, reduceIte, Nat.reduceEqDiff, Nat.add_zero, rI_hold, rI_hold, rL_hold, hk, hk1, he67, he70]; done) | (simp (disch := omega) only [rI, rIe, rA, rIA, rLA, rJA, rVI, rQI, rVA, rQA, upd_at,  rAI, rLI, rJI, nI_add, pk_sub, kc_0, kc_1, kc_2, kc_3, kc_4, kc_5, reduceIte, Nat.reduceEqDiff, Nat.add_zero, rI_hold, rI_hold, rL_hold, hk, hk1, he67, he70]; exact congrArg nI (by omega))) ?_
  refine Bod.ildnG dc_333_73 (by repeat (first | exact q1 | exact sm_get_p1 | exact sm_get_p2e | refine sm_get_p1m (by decide) (by decide) ?_ | refine sm_get_p1n (by decide) rfl ?_ | refine sm_get_p2n (by decide) (by decide) rfl ?_)) ?_
  refine Bod.icF dc_333_74 rfl (k2_ne_F (k_eq e70 la rfl rfl (by omega))) ?_
  refine Bod.aldnG dc_333_77 (by repeat (first | exact q0 | exact sm_get_p1 | exact sm_get_p2e | refine sm_get_p1m (by decide) (by decide) ?_ | refine sm_get_p1n (by decide) rfl ?_ | refine sm_get_p2n (by decide) (by decide) rfl ?_)) ?_
  refine Bod.ic 1 (by decide) dc_333_78 ?_
  refine Bod.virt (r := []) dc_333_79 kr_333_312 ⟨Or.inl rfl, ow_309, cl_14⟩ (by rw [np_309]; rfl) (by rw [np_309]; rfl) (ob_of (mk_61 _)) (Nat.le_of_ble_eq_true rfl) (c4  ) ?_
  show Bod _ _ _ _ [_] _ _ _
  refine Bod.ifF dc_333_82 rfl (k1_eq_F (k_ne 1 0 rfl rfl (by omega) (by omega) (by omega))) ?_
  refine Bod.ic 1 (by decide) dc_333_85 ?_
  refine Bod.go dc_333_86 rfl ?_
  refine Bod.istn dc_333_90 (by rw [ml_333]; exact Nat.le_of_ble_eq_true rfl) ?_
  refine Bod.aldnG dc_333_91 (by repeat (first | exact q0 | exact sm_get_p1 | exact sm_get_p2e | refine sm_get_p1m (by decide) (by decide) ?_ | refine sm_get_p1n (by decide) rfl ?_ | refine sm_get_p2n (by decide) (by decide) rfl ?_)) ?_
  refine Bod.get dc_333_92 fr_333_129 (mk_61 _) rfl ?_
  refine Bod.aldnG dc_333_95 (by repeat (first | exact q0 | exact sm_get_p1 | exact sm_get_p2e | refine sm_get_p1m (by decide) (by decide) ?_ | refine sm_get_p1n (by decide) rfl ?_ | refine sm_get_p2n (by decide) (by decide) rfl ?_)) ?_
  refine Bod.get dc_333_96 fr_333_190 (mk_61 _) rfl ?_
  refine Bod.eqI (nI k2) (by first | (simp (disch := omega) only [rI, rIe, rA, rIA, rLA, rJA, rVI, rQI, rVA, rQA, upd_at,  rAI, rLI, rJI, nI_add, pk_sub, kc_0, kc_1, kc_2, kc_3, kc_4, kc_5, reduceIte, Nat.reduceEqDiff, Nat.add_zero, rI_hold, rI_hold, rL_hold, hk, hk1, he67, he70, hk2]; done) | (simp (disch := omega) only [rI, rIe, rA, rIA, rLA, rJA, rVI, rQI, rVA, rQA, upd_at,  rAI, rLI, rJI, nI_add, pk_sub, kc_0, kc_1, kc_2, kc_3, kc_4, kc_5, reduceIte, Nat.reduceEqDiff, Nat.add_zero, rI_hold, rI_hold, rL_hold, hk, hk1, he67, he70, hk2]; exact congrArg nI (by omega))) ?_
  refine Bod.ialdN k2 rfl (by omega) (by omega) dc_333_99 (mk_67 _) ?_
  refine Bod.eqI (nI e671) (by first | (simp (disch := omega) only [rI, rIe, rA, rIA, rLA, rJA, rVI, rQI, rVA, rQA, upd_at,  rAI, rLI, rJI, nI_add, pk_sub, kc_0, kc_1, kc_2, kc_3, kc_4, kc_5, reduceIte, Nat.reduceEqDiff, Nat.add_zero, rI_hold, rI_hold, rL_hold, hk, hk1, he67, he70, hk2, he671]; done) | (simp (disch := omega) only [rI, rIe, rA, rIA, rLA, rJA, rVI, rQI, rVA, rQA, upd_at,  rAI, rLI, rJI, nI_add, pk_sub, kc_0, kc_1, kc_2, kc_3, kc_4, kc_5, reduceIte, Nat.reduceEqDiff, Nat.add_zero, rI_hold, rI_hold, rL_hold, hk, hk1, he67, he70, hk2, he671]; exact congrArg nI (by omega))) ?_
  refine Bod.bip 7 (by decide) dc_333_100 ?_
  refine Bod.icF dc_333_102 rfl (k2_eq_F (k_ne e671 7 rfl rfl (by omega) (by omega) (by omega))) ?_
  refine Bod.aldnG dc_333_105 (by repeat (first | exact q0 | exact sm_get_p1 | exact sm_get_p2e | refine sm_get_p1m (by decide) (by decide) ?_ | refine sm_get_p1n (by decide) rfl ?_ | refine sm_get_p2n (by decide) (by decide) rfl ?_)) ?_
  refine Bod.get dc_333_106 fr_333_141 (mk_61 _) rfl ?_
  refine Bod.aldnG dc_333_109 (by repeat (first | exact q0 | exact sm_get_p1 | exact sm_get_p2e | refine sm_get_p1m (by decide) (by decide) ?_ | refine sm_get_p1n (by decide) rfl ?_ | refine sm_get_p2n (by decide) (by decide) rfl ?_)) ?_
  refine Bod.get dc_333_110 fr_333_190 (mk_61 _) rfl ?_
  refine Bod.eqI (nI k2) (by first | (simp (disch := omega) only [rI, rIe, rA, rIA, rLA, rJA, rVI, rQI, rVA, rQA, upd_at,  rAI, rLI, rJI, nI_add, pk_sub, kc_0, kc_1, kc_2, kc_3, kc_4, kc_5, reduceIte, Nat.reduceEqDiff, Nat.add_zero, rI_hold, rI_hold, rL_hold, hk, hk1, he67, he70, hk2, he671]; done) | (simp (disch := omega) only [rI, rIe, rA, rIA, rLA, rJA, rVI, rQI, rVA, rQA, upd_at,  rAI, rLI, rJI, nI_add, pk_sub, kc_0, kc_1, kc_2, kc_3, kc_4, kc_5, reduceIte, Nat.reduceEqDiff, Nat.add_zero, rI_hold, rI_hold, rL_hold, hk, hk1, he67, he70, hk2, he671]; exact congrArg nI (by omega))) ?_
  refine Bod.ialdN k2 rfl (by omega) (by omega) dc_333_113 (mk_70 _) ?_
  refine Bod.eqI (nI e701) (by first | (simp (disch := omega) only [rI, rIe, rA, rIA, rLA, rJA, rVI, rQI, rVA, rQA, upd_at,  rAI, rLI, rJI, nI_add, pk_sub, kc_0, kc_1, kc_2, kc_3, kc_4, kc_5, reduceIte, Nat.reduceEqDiff, Nat.add_zero, rI_hold, rI_hold, rL_hold, hk, hk1, he67, he70, hk2, he671, he701]; done) | (simp (disch := omega) only [rI, rIe, rA, rIA, rLA, rJA, rVI, rQI, rVA, rQA, upd_at,  rAI, rLI, rJI, nI_add, pk_sub, kc_0, kc_1, kc_2, kc_3, kc_4, kc_5, reduceIte, Nat.reduceEqDiff, Nat.add_zero, rI_hold, rI_hold, rL_hold, hk, hk1, he67, he70, hk2, he671, he701]; exact congrArg nI (by omega))) ?_
  refine Bod.ildnG dc_333_114 (by repeat (first | exact q1 | exact sm_get_p1 | exact sm_get_p2e | refine sm_get_p1m (by decide) (by decide) ?_ | refine sm_get_p1n (by decide) rfl ?_ | refine sm_get_p2n (by decide) (by decide) rfl ?_)) ?_
  refine Bod.icF dc_333_115 rfl (k2_ne_F (k_eq e701 la rfl rfl (by omega))) ?_
  refine Bod.aldnG dc_333_118 (by repeat (first | exact q0 | exact sm_get_p1 | exact sm_get_p2e | refine sm_get_p1m (by decide) (by decide) ?_ | refine sm_get_p1n (by decide) rfl ?_ | refine sm_get_p2n (by decide) (by decide) rfl ?_)) ?_
  refine Bod.ic 2 (by decide) dc_333_119 ?_
  refine Bod.virt (r := []) dc_333_120 kr_333_312 ⟨Or.inl rfl, ow_309, cl_14⟩ (by rw [np_309]; rfl) (by rw [np_309]; rfl) (ob_of (mk_61 _)) (Nat.le_of_ble_eq_true rfl) (c5  ) ?_
  show Bod _ _ _ _ [_] _ _ _
  refine Bod.ifF dc_333_123 rfl (k1_eq_F (k_ne 1 0 rfl rfl (by omega) (by omega) (by omega))) ?_
  refine Bod.ic 1 (by decide) dc_333_126 ?_
  refine Bod.go dc_333_127 rfl ?_
  refine Bod.ist dc_333_131 (by rw [ml_333]; exact Nat.le_of_ble_eq_true rfl) ?_
  refine Bod.ildnG dc_333_133 (by repeat (first | exact q0 | exact sm_get_p1 | exact sm_get_p2e | refine sm_get_p1m (by decide) (by decide) ?_ | refine sm_get_p1n (by decide) rfl ?_ | refine sm_get_p2n (by decide) (by decide) rfl ?_)) ?_
  refine Bod.ifT dc_333_134 rfl (k1_ne_T (k_ne 1 0 rfl rfl (by omega) (by omega) (by omega))) ?_
  refine Bod.aldnG dc_333_142 (by repeat (first | exact q0 | exact sm_get_p1 | exact sm_get_p2e | refine sm_get_p1m (by decide) (by decide) ?_ | refine sm_get_p1n (by decide) rfl ?_ | refine sm_get_p2n (by decide) (by decide) rfl ?_)) ?_
  refine Bod.get dc_333_143 fr_333_314 (mk_61 _) rfl ?_
  refine Bod.aldnG dc_333_146 (by repeat (first | exact q0 | exact sm_get_p1 | exact sm_get_p2e | refine sm_get_p1m (by decide) (by decide) ?_ | refine sm_get_p1n (by decide) rfl ?_ | refine sm_get_p2n (by decide) (by decide) rfl ?_)) ?_
  refine Bod.get dc_333_147 fr_333_251 (mk_61 _) rfl ?_
  refine Bod.eqI (nI en) (by first | (simp (disch := omega) only [rI, rIe, rA, rIA, rLA, rJA, rVI, rQI, rVA, rQA, upd_at,  rAI, rLI, rJI, nI_add, pk_sub, kc_0, kc_1, kc_2, kc_3, kc_4, kc_5, reduceIte, Nat.reduceEqDiff, Nat.add_zero, rI_hold, rI_hold, rL_hold, hk, hk1, he67, he70, hk2, he671, he701, hen]; done) | (simp (disch := omega) only [rI, rIe, rA, rIA, rLA, rJA, rVI, rQI, rVA, rQA, upd_at,  rAI, rLI, rJI, nI_add, pk_sub, kc_0, kc_1, kc_2, kc_3, kc_4, kc_5, reduceIte, Nat.reduceEqDiff, Nat.add_zero, rI_hold, rI_hold, rL_hold, hk, hk1, he67, he70, hk2, he671, he701, hen]; exact congrArg nI (by omega))) ?_
  refine Bod.aldnG dc_333_150 (by repeat (first | exact q0 | exact sm_get_p1 | exact sm_get_p2e | refine sm_get_p1m (by decide) (by decide) ?_ | refine sm_get_p1n (by decide) rfl ?_ | refine sm_get_p2n (by decide) (by decide) rfl ?_)) ?_
  refine Bod.bip 11 (by decide) dc_333_151 ?_
  refine Bod.virt (r := [_, _]) dc_333_153 kr_333_305 ⟨Or.inl rfl, ow_325, cl_14⟩ (by rw [np_325]; rfl) (by rw [np_325]; rfl) (ob_of (mk_61 _)) (Nat.le_of_ble_eq_true rfl) (c6  ) ?_
  show Bod _ _ _ _ [_, _, _] _ _ _
  refine Bod.iastN en rfl (by omega) (by omega) dc_333_156 (mk_81 _) (sa_81 _ _ _) (mu_A _ _ _ _) ?_
  refine Bod.aldnG dc_333_157 (by repeat (first | exact q0 | exact sm_get_p1 | exact sm_get_p2e | refine sm_get_p1m (by decide) (by decide) ?_ | refine sm_get_p1n (by decide) rfl ?_ | refine sm_get_p2n (by decide) (by decide) rfl ?_)) ?_
  refine Bod.go dc_333_158 rfl ?_
  refine Bod.get dc_333_159 fr_333_251 (mk_61 _) rfl ?_
  refine Bod.eqI (nI en1) (by first | (simp (disch := omega) only [rI, rIe, rA, rIA, rLA, rJA, rVI, rQI, rVA, rQA, upd_at,  rAI, rLI, rJI, nI_add, pk_sub, kc_0, kc_1, kc_2, kc_3, kc_4, kc_5, reduceIte, Nat.reduceEqDiff, Nat.add_zero, rI_hold, rI_hold, rL_hold, hk, hk1, he67, he70, hk2, he671, he701, hen, hen1]; done) | (simp (disch := omega) only [rI, rIe, rA, rIA, rLA, rJA, rVI, rQI, rVA, rQA, upd_at,  rAI, rLI, rJI, nI_add, pk_sub, kc_0, kc_1, kc_2, kc_3, kc_4, kc_5, reduceIte, Nat.reduceEqDiff, Nat.add_zero, rI_hold, rI_hold, rL_hold, hk, hk1, he67, he70, hk2, he671, he701, hen, hen1]; exact congrArg nI (by omega))) ?_
  refine Bod.ic 1 (by decide) dc_333_162 ?_
  refine Bod.addN (en1 + 1) (by omega) dc_333_163 ?_
  refine Bod.put dc_333_164 fr_333_251 (mk_61 _) (Nat.le_of_ble_eq_true rfl) pf_14_34 (st_6134 _ _) (mu_I _ _ _) ?_
  refine Bod.aldnG dc_333_167 (by repeat (first | exact q0 | exact sm_get_p1 | exact sm_get_p2e | refine sm_get_p1m (by decide) (by decide) ?_ | refine sm_get_p1n (by decide) rfl ?_ | refine sm_get_p2n (by decide) (by decide) rfl ?_)) ?_
  refine Bod.ildG dc_333_168 (by repeat (first | exact q0 | exact sm_get_p1 | exact sm_get_p2e | refine sm_get_p1m (by decide) (by decide) ?_ | refine sm_get_p1n (by decide) rfl ?_ | refine sm_get_p2n (by decide) (by decide) rfl ?_)) ?_
  refine Bod.virt (r := []) dc_333_170 kr_333_317 ⟨Or.inl rfl, ow_326, cl_14⟩ (by rw [np_326]; rfl) (by rw [np_326]; rfl) (ob_of (mk_61 _)) (Nat.le_of_ble_eq_true rfl) (c7  ) ?_
  show Bod _ _ _ _ [] _ _ _
  refine Bod.ildG dc_333_173 (by repeat (first | exact q0 | exact sm_get_p1 | exact sm_get_p2e | refine sm_get_p1m (by decide) (by decide) ?_ | refine sm_get_p1n (by decide) rfl ?_ | refine sm_get_p2n (by decide) (by decide) rfl ?_)) ?_
  refine Bod.ifT dc_333_175 rfl (k1_ne_T (k_ne 1 0 rfl rfl (by omega) (by omega) (by omega))) ?_
  refine Bod.aldnG dc_333_181 (by repeat (first | exact q0 | exact sm_get_p1 | exact sm_get_p2e | refine sm_get_p1m (by decide) (by decide) ?_ | refine sm_get_p1n (by decide) rfl ?_ | refine sm_get_p2n (by decide) (by decide) rfl ?_)) ?_
  refine Bod.go dc_333_182 rfl ?_
  refine Bod.get dc_333_183 fr_333_190 (mk_61 _) rfl ?_
  refine Bod.eqI (nI k3) (by first | (simp (disch := omega) only [rI, rIe, rA, rIA, rLA, rJA, rVI, rQI, rVA, rQA, upd_at,  rAI, rLI, rJI, nI_add, pk_sub, kc_0, kc_1, kc_2, kc_3, kc_4, kc_5, reduceIte, Nat.reduceEqDiff, Nat.add_zero, rI_hold, rI_hold, rL_hold, hk, hk1, he67, he70, hk2, he671, he701, hen, hen1, hk3]; done) | (simp (disch := omega) only [rI, rIe, rA, rIA, rLA, rJA, rVI, rQI, rVA, rQA, upd_at,  rAI, rLI, rJI, nI_add, pk_sub, kc_0, kc_1, kc_2, kc_3, kc_4, kc_5, reduceIte, Nat.reduceEqDiff, Nat.add_zero, rI_hold, rI_hold, rL_hold, hk, hk1, he67, he70, hk2, he671, he701, hen, hen1, hk3]; exact congrArg nI (by omega))) ?_
  refine Bod.ic 1 (by decide) dc_333_186 ?_
  refine Bod.addN (k3 + 1) (by omega) dc_333_187 ?_
  refine Bod.put dc_333_188 fr_333_190 (mk_61 _) (Nat.le_of_ble_eq_true rfl) pf_14_15 (st_6115 _ _) (mu_I _ _ _) ?_
  refine Bod.aldnG dc_333_191 (by repeat (first | exact q0 | exact sm_get_p1 | exact sm_get_p2e | refine sm_get_p1m (by decide) (by decide) ?_ | refine sm_get_p1n (by decide) rfl ?_ | refine sm_get_p2n (by decide) (by decide) rfl ?_)) ?_
  refine Bod.ildnG dc_333_192 (by repeat (first | exact q1 | exact sm_get_p1 | exact sm_get_p2e | refine sm_get_p1m (by decide) (by decide) ?_ | refine sm_get_p1n (by decide) rfl ?_ | refine sm_get_p2n (by decide) (by decide) rfl ?_)) ?_
  refine Bod.ic 0 (by decide) dc_333_193 ?_
  refine Bod.virt (r := []) dc_333_194 kr_333_309 ⟨Or.inl rfl, ow_334, cl_14⟩ (by rw [np_334]; rfl) (by rw [np_334]; rfl) (ob_of (mk_61 _)) (Nat.le_of_ble_eq_true rfl) (c8  ) ?_
  show Bod _ _ _ _ [_] _ _ _
  refine Bod.ifF dc_333_197 rfl (k1_ne_F (k_eq 0 0 rfl rfl (by omega))) ?_
  refine Bod.ic 0 (by decide) dc_333_200 ?_
  exact Bod.retZ dc_333_201 rt_333 (Or.inl rfl)
theorem zChL_7 {d : Nat} {S Sf : cS} {v : Option Value} {lv : sm_L} {la : Nat} {le : Nat} {k : Nat} {S1 : cS} {S2 : cS} {a : Nat} {S3 : cS} {k1 : Nat} {e67 : Nat} {e70 : Nat} {S4 : cS} {k2 : Nat} {e671 : Nat} {e701 : Nat} {S5 : cS} {en : Nat} {S6 : cS} {a1 : Nat} {en1 : Nat} {S7 : cS} (q0 : sm_get lv 0 = some (.ref 61)) (q1 : sm_get lv 1 = some (.int (nI la))) (q2 : sm_get lv 2 = some (.int (nI le))) (q3 : sm_get lv 3 = some (.int (nI 1))) (mla : la < 2 ^ 20) (mle : le < 2 ^ 20) (hk : sI S 6115 = nI k) (mk : k < 6001) (c1 : Ans (d + 8) 306 [.ref 61, .int (nI 0)] (wI 6115 (nI (k + 1)) S) (some (.int (nI 1))) S1) (ma : a < 2 ^ 20) (c2 : Ans (d + 8) 325 [.ref 61, .int (nI 12)] S1 (some (.int (nI a))) S2) (c3 : Ans (d + 8) 334 [.ref 61, .int (nI la), .int (nI 0)] S2 (some (.int (nI 1))) S3) (hk1 : sI S3 6115 = nI k1) (mk1 : k1 < 6001) (he67 : sA S3 67 k1 = nI e67) (me67 : e67 < 2 ^ 20) (b1 : e67 ≠ 7) (he70 : sA S3 70 k1 = nI e70) (me70 : e70 < 2 ^ 20) (b2 : e70 = la) (c4 : Ans (d + 8) 309 [.ref 61, .int (nI 1)] S3 (some (.int (nI 1))) S4) (hk2 : sI S4 6115 = nI k2) (mk2 : k2 < 6001) (he671 : sA S4 67 k2 = nI e671) (me671 : e671 < 2 ^ 20) (b3 : e671 ≠ 7) (he701 : sA S4 70 k2 = nI e701) (me701 : e701 < 2 ^ 20) (b4 : e701 = la) (c5 : Ans (d + 8) 309 [.ref 61, .int (nI 2)] S4 (some (.int (nI 0))) S5) (hen : sI S5 6134 = nI en) (men : en < 3000) (ma1 : a1 < 2 ^ 20) (c6 : Ans (d + 8) 325 [.ref 61, .int (nI 11)] S5 (some (.int (nI a1))) S6) (hen1 : sI (wA 81 en (nI a1) S6) 6134 = nI en1) (men1 : en1 < 3000) (c7 : Ans (d + 8) 326 [.ref 61, .int (nI a)] (wI 6134 (nI (en1 + 1)) (wA 81 en (nI a1) S6)) none S7) (hB : ∀ lv1 : sm_L, sm_get lv1 0 = some (.ref 61) → sm_get lv1 1 = some (.int (nI la)) → sm_get lv1 2 = some (.int (nI le)) → sm_get lv1 3 = some (.int (nI 1)) → Bod (d + 8) 333 7 lv1 [] (S7) v Sf) : Bod (d + 8) 333 7 lv [] S v Sf := by
  refine Bod.ildnG dc_333_7 (by repeat (first | exact q3 | exact sm_get_p1 | exact sm_get_p2e | refine sm_get_p1m (by decide) (by decide) ?_ | refine sm_get_p1n (by decide) rfl ?_ | refine sm_get_p2n (by decide) (by decide) rfl ?_)) ?_
  refine Bod.ifF dc_333_8 rfl (k1_eq_F (k_ne 1 0 rfl rfl (by omega) (by omega) (by omega))) ?_
  refine Bod.aldnG dc_333_11 (by repeat (first | exact q0 | exact sm_get_p1 | exact sm_get_p2e | refine sm_get_p1m (by decide) (by decide) ?_ | refine sm_get_p1n (by decide) rfl ?_ | refine sm_get_p2n (by decide) (by decide) rfl ?_)) ?_
  refine Bod.go dc_333_12 rfl ?_
  refine Bod.get dc_333_13 fr_333_190 (mk_61 _) rfl ?_
  refine Bod.eqI (nI k) (by first | assumption | rfl | exact congrArg nI (by omega) | (simp (disch := omega) only [rI, rIe, rA, rIA, rLA, rJA, rVI, rQI, rVA, rQA, upd_at,  rAI, rLI, rJI, nI_add, pk_sub, kc_0, kc_1, kc_2, kc_3, kc_4, kc_5, reduceIte, Nat.reduceEqDiff, Nat.add_zero, rI_hold, rI_hold, rL_hold, hk]; done)) ?_
  refine Bod.ic 1 (by decide) dc_333_16 ?_
  refine Bod.addN (k + 1) (by omega) dc_333_17 ?_
  refine Bod.put dc_333_18 fr_333_190 (mk_61 _) (Nat.le_of_ble_eq_true rfl) pf_14_15 (st_6115 _ _) (mu_I _ _ _) ?_
  refine Bod.aldnG dc_333_21 (by repeat (first | exact q0 | exact sm_get_p1 | exact sm_get_p2e | refine sm_get_p1m (by decide) (by decide) ?_ | refine sm_get_p1n (by decide) rfl ?_ | refine sm_get_p2n (by decide) (by decide) rfl ?_)) ?_
  refine Bod.ic 0 (by decide) dc_333_22 ?_
  refine Bod.virt (r := []) dc_333_23 kr_333_302 ⟨Or.inl rfl, ow_306, cl_14⟩ (by rw [np_306]; rfl) (by rw [np_306]; rfl) (ob_of (mk_61 _)) (Nat.le_of_ble_eq_true rfl) (c1  ) ?_
  show Bod _ _ _ _ [_] _ _ _
  refine Bod.ifT dc_333_26 rfl (k1_ne_T (k_ne 1 0 rfl rfl (by omega) (by omega) (by omega))) ?_
  refine Bod.aldnG dc_333_31 (by repeat (first | exact q0 | exact sm_get_p1 | exact sm_get_p2e | refine sm_get_p1m (by decide) (by decide) ?_ | refine sm_get_p1n (by decide) rfl ?_ | refine sm_get_p2n (by decide) (by decide) rfl ?_)) ?_
  refine Bod.bip 12 (by decide) dc_333_32 ?_
  refine Bod.virt (r := []) dc_333_34 kr_333_305 ⟨Or.inl rfl, ow_325, cl_14⟩ (by rw [np_325]; rfl) (by rw [np_325]; rfl) (ob_of (mk_61 _)) (Nat.le_of_ble_eq_true rfl) (c2  ) ?_
  show Bod _ _ _ _ [_] _ _ _
  refine Bod.ist dc_333_37 (by rw [ml_333]; exact Nat.le_of_ble_eq_true rfl) ?_
  refine Bod.aldnG dc_333_39 (by repeat (first | exact q0 | exact sm_get_p1 | exact sm_get_p2e | refine sm_get_p1m (by decide) (by decide) ?_ | refine sm_get_p1n (by decide) rfl ?_ | refine sm_get_p2n (by decide) (by decide) rfl ?_)) ?_
  refine Bod.ildnG dc_333_40 (by repeat (first | exact q1 | exact sm_get_p1 | exact sm_get_p2e | refine sm_get_p1m (by decide) (by decide) ?_ | refine sm_get_p1n (by decide) rfl ?_ | refine sm_get_p2n (by decide) (by decide) rfl ?_)) ?_
  refine Bod.ic 0 (by decide) dc_333_41 ?_
  refine Bod.virt (r := []) dc_333_42 kr_333_309 ⟨Or.inl rfl, ow_334, cl_14⟩ (by rw [np_334]; rfl) (by rw [np_334]; rfl) (ob_of (mk_61 _)) (Nat.le_of_ble_eq_true rfl) (c3  ) ?_
  show Bod _ _ _ _ [_] _ _ _
  refine Bod.ifT dc_333_45 rfl (k1_ne_T (k_ne 1 0 rfl rfl (by omega) (by omega) (by omega))) ?_
  refine Bod.aldnG dc_333_50 (by repeat (first | exact q0 | exact sm_get_p1 | exact sm_get_p2e | refine sm_get_p1m (by decide) (by decide) ?_ | refine sm_get_p1n (by decide) rfl ?_ | refine sm_get_p2n (by decide) (by decide) rfl ?_)) ?_
  refine Bod.get dc_333_51 fr_333_129 (mk_61 _) rfl ?_
  refine Bod.aldnG dc_333_54 (by repeat (first | exact q0 | exact sm_get_p1 | exact sm_get_p2e | refine sm_get_p1m (by decide) (by decide) ?_ | refine sm_get_p1n (by decide) rfl ?_ | refine sm_get_p2n (by decide) (by decide) rfl ?_)) ?_
  refine Bod.get dc_333_55 fr_333_190 (mk_61 _) rfl ?_
  refine Bod.eqI (nI k1) (by first | (simp (disch := omega) only [rI, rIe, rA, rIA, rLA, rJA, rVI, rQI, rVA, rQA, upd_at,  rAI, rLI, rJI, nI_add, pk_sub, kc_0, kc_1, kc_2, kc_3, kc_4, kc_5, reduceIte, Nat.reduceEqDiff, Nat.add_zero, rI_hold, rI_hold, rL_hold, hk, hk1]; done) | (simp (disch := omega) only [rI, rIe, rA, rIA, rLA, rJA, rVI, rQI, rVA, rQA, upd_at,  rAI, rLI, rJI, nI_add, pk_sub, kc_0, kc_1, kc_2, kc_3, kc_4, kc_5, reduceIte, Nat.reduceEqDiff, Nat.add_zero, rI_hold, rI_hold, rL_hold, hk, hk1]; exact congrArg nI (by omega))) ?_
  refine Bod.ialdN k1 rfl (by omega) (by omega) dc_333_58 (mk_67 _) ?_
  refine Bod.eqI (nI e67) (by first | (simp (disch := omega) only [rI, rIe, rA, rIA, rLA, rJA, rVI, rQI, rVA, rQA, upd_at,  rAI, rLI, rJI, nI_add, pk_sub, kc_0, kc_1, kc_2, kc_3, kc_4, kc_5, reduceIte, Nat.reduceEqDiff, Nat.add_zero, rI_hold, rI_hold, rL_hold, hk, hk1, he67]; done) | (simp (disch := omega) only [rI, rIe, rA, rIA, rLA, rJA, rVI, rQI, rVA, rQA, upd_at,  rAI, rLI, rJI, nI_add, pk_sub, kc_0, kc_1, kc_2, kc_3, kc_4, kc_5, reduceIte, Nat.reduceEqDiff, Nat.add_zero, rI_hold, rI_hold, rL_hold, hk, hk1, he67]; exact congrArg nI (by omega))) ?_
  refine Bod.bip 7 (by decide) dc_333_59 ?_
  refine Bod.icF dc_333_61 rfl (k2_eq_F (k_ne e67 7 rfl rfl (by omega) (by omega) (by omega))) ?_
  refine Bod.aldnG dc_333_64 (by repeat (first | exact q0 | exact sm_get_p1 | exact sm_get_p2e | refine sm_get_p1m (by decide) (by decide) ?_ | refine sm_get_p1n (by decide) rfl ?_ | refine sm_get_p2n (by decide) (by decide) rfl ?_)) ?_
  refine Bod.get dc_333_65 fr_333_141 (mk_61 _) rfl ?_
  refine Bod.aldnG dc_333_68 (by repeat (first | exact q0 | exact sm_get_p1 | exact sm_get_p2e | refine sm_get_p1m (by decide) (by decide) ?_ | refine sm_get_p1n (by decide) rfl ?_ | refine sm_get_p2n (by decide) (by decide) rfl ?_)) ?_
  refine Bod.get dc_333_69 fr_333_190 (mk_61 _) rfl ?_
  refine Bod.eqI (nI k1) (by first | (simp (disch := omega) only [rI, rIe, rA, rIA, rLA, rJA, rVI, rQI, rVA, rQA, upd_at,  rAI, rLI, rJI, nI_add, pk_sub, kc_0, kc_1, kc_2, kc_3, kc_4, kc_5, reduceIte, Nat.reduceEqDiff, Nat.add_zero, rI_hold, rI_hold, rL_hold, hk, hk1, he67]; done) | (simp (disch := omega) only [rI, rIe, rA, rIA, rLA, rJA, rVI, rQI, rVA, rQA, upd_at,  rAI, rLI, rJI, nI_add, pk_sub, kc_0, kc_1, kc_2, kc_3, kc_4, kc_5, reduceIte, Nat.reduceEqDiff, Nat.add_zero, rI_hold, rI_hold, rL_hold, hk, hk1, he67]; exact congrArg nI (by omega))) ?_
  refine Bod.ialdN k1 rfl (by omega) (by omega) dc_333_72 (mk_70 _) ?_
  refine Bod.eqI (nI e70) (by first | (simp (disch := omega) only [rI, rIe, rA, rIA, rLA, rJA, rVI, rQI, rVA, rQA, upd_at,  rAI, rLI, rJI, nI_add, pk_sub, kc_0, kc_1, kc_2, kc_3, kc_4, kc_5, reduceIte, Nat.reduceEqDiff, Nat.add_zero, rI_hold, rI_hold, rL_hold, hk, hk1, he67, he70]; done) | (simp (disch := omega) only [rI, rIe, rA, rIA, rLA, rJA, rVI, rQI, rVA, rQA, upd_at,  rAI, rLI, rJI, nI_add, pk_sub, kc_0, kc_1, kc_2, kc_3, kc_4, kc_5, reduceIte, Nat.reduceEqDiff, Nat.add_zero, rI_hold, rI_hold, rL_hold, hk, hk1, he67, he70]; exact congrArg nI (by omega))) ?_
  refine Bod.ildnG dc_333_73 (by repeat (first | exact q1 | exact sm_get_p1 | exact sm_get_p2e | refine sm_get_p1m (by decide) (by decide) ?_ | refine sm_get_p1n (by decide) rfl ?_ | refine sm_get_p2n (by decide) (by decide) rfl ?_)) ?_
  refine Bod.icF dc_333_74 rfl (k2_ne_F (k_eq e70 la rfl rfl (by omega))) ?_
  refine Bod.aldnG dc_333_77 (by repeat (first | exact q0 | exact sm_get_p1 | exact sm_get_p2e | refine sm_get_p1m (by decide) (by decide) ?_ | refine sm_get_p1n (by decide) rfl ?_ | refine sm_get_p2n (by decide) (by decide) rfl ?_)) ?_
  refine Bod.ic 1 (by decide) dc_333_78 ?_
  refine Bod.virt (r := []) dc_333_79 kr_333_312 ⟨Or.inl rfl, ow_309, cl_14⟩ (by rw [np_309]; rfl) (by rw [np_309]; rfl) (ob_of (mk_61 _)) (Nat.le_of_ble_eq_true rfl) (c4  ) ?_
  show Bod _ _ _ _ [_] _ _ _
  refine Bod.ifF dc_333_82 rfl (k1_eq_F (k_ne 1 0 rfl rfl (by omega) (by omega) (by omega))) ?_
  refine Bod.ic 1 (by decide) dc_333_85 ?_
  refine Bod.go dc_333_86 rfl ?_
  refine Bod.istn dc_333_90 (by rw [ml_333]; exact Nat.le_of_ble_eq_true rfl) ?_
  refine Bod.aldnG dc_333_91 (by repeat (first | exact q0 | exact sm_get_p1 | exact sm_get_p2e | refine sm_get_p1m (by decide) (by decide) ?_ | refine sm_get_p1n (by decide) rfl ?_ | refine sm_get_p2n (by decide) (by decide) rfl ?_)) ?_
  refine Bod.get dc_333_92 fr_333_129 (mk_61 _) rfl ?_
  refine Bod.aldnG dc_333_95 (by repeat (first | exact q0 | exact sm_get_p1 | exact sm_get_p2e | refine sm_get_p1m (by decide) (by decide) ?_ | refine sm_get_p1n (by decide) rfl ?_ | refine sm_get_p2n (by decide) (by decide) rfl ?_)) ?_
  refine Bod.get dc_333_96 fr_333_190 (mk_61 _) rfl ?_
  refine Bod.eqI (nI k2) (by first | (simp (disch := omega) only [rI, rIe, rA, rIA, rLA, rJA, rVI, rQI, rVA, rQA, upd_at,  rAI, rLI, rJI, nI_add, pk_sub, kc_0, kc_1, kc_2, kc_3, kc_4, kc_5, reduceIte, Nat.reduceEqDiff, Nat.add_zero, rI_hold, rI_hold, rL_hold, hk, hk1, he67, he70, hk2]; done) | (simp (disch := omega) only [rI, rIe, rA, rIA, rLA, rJA, rVI, rQI, rVA, rQA, upd_at,  rAI, rLI, rJI, nI_add, pk_sub, kc_0, kc_1, kc_2, kc_3, kc_4, kc_5, reduceIte, Nat.reduceEqDiff, Nat.add_zero, rI_hold, rI_hold, rL_hold, hk, hk1, he67, he70, hk2]; exact congrArg nI (by omega))) ?_
  refine Bod.ialdN k2 rfl (by omega) (by omega) dc_333_99 (mk_67 _) ?_
  refine Bod.eqI (nI e671) (by first | (simp (disch := omega) only [rI, rIe, rA, rIA, rLA, rJA, rVI, rQI, rVA, rQA, upd_at,  rAI, rLI, rJI, nI_add, pk_sub, kc_0, kc_1, kc_2, kc_3, kc_4, kc_5, reduceIte, Nat.reduceEqDiff, Nat.add_zero, rI_hold, rI_hold, rL_hold, hk, hk1, he67, he70, hk2, he671]; done) | (simp (disch := omega) only [rI, rIe, rA, rIA, rLA, rJA, rVI, rQI, rVA, rQA, upd_at,  rAI, rLI, rJI, nI_add, pk_sub, kc_0, kc_1, kc_2, kc_3, kc_4, kc_5, reduceIte, Nat.reduceEqDiff, Nat.add_zero, rI_hold, rI_hold, rL_hold, hk, hk1, he67, he70, hk2, he671]; exact congrArg nI (by omega))) ?_
  refine Bod.bip 7 (by decide) dc_333_100 ?_
  refine Bod.icF dc_333_102 rfl (k2_eq_F (k_ne e671 7 rfl rfl (by omega) (by omega) (by omega))) ?_
  refine Bod.aldnG dc_333_105 (by repeat (first | exact q0 | exact sm_get_p1 | exact sm_get_p2e | refine sm_get_p1m (by decide) (by decide) ?_ | refine sm_get_p1n (by decide) rfl ?_ | refine sm_get_p2n (by decide) (by decide) rfl ?_)) ?_
  refine Bod.get dc_333_106 fr_333_141 (mk_61 _) rfl ?_
  refine Bod.aldnG dc_333_109 (by repeat (first | exact q0 | exact sm_get_p1 | exact sm_get_p2e | refine sm_get_p1m (by decide) (by decide) ?_ | refine sm_get_p1n (by decide) rfl ?_ | refine sm_get_p2n (by decide) (by decide) rfl ?_)) ?_
  refine Bod.get dc_333_110 fr_333_190 (mk_61 _) rfl ?_
  refine Bod.eqI (nI k2) (by first | (simp (disch := omega) only [rI, rIe, rA, rIA, rLA, rJA, rVI, rQI, rVA, rQA, upd_at,  rAI, rLI, rJI, nI_add, pk_sub, kc_0, kc_1, kc_2, kc_3, kc_4, kc_5, reduceIte, Nat.reduceEqDiff, Nat.add_zero, rI_hold, rI_hold, rL_hold, hk, hk1, he67, he70, hk2, he671]; done) | (simp (disch := omega) only [rI, rIe, rA, rIA, rLA, rJA, rVI, rQI, rVA, rQA, upd_at,  rAI, rLI, rJI, nI_add, pk_sub, kc_0, kc_1, kc_2, kc_3, kc_4, kc_5, reduceIte, Nat.reduceEqDiff, Nat.add_zero, rI_hold, rI_hold, rL_hold, hk, hk1, he67, he70, hk2, he671]; exact congrArg nI (by omega))) ?_
  refine Bod.ialdN k2 rfl (by omega) (by omega) dc_333_113 (mk_70 _) ?_
  refine Bod.eqI (nI e701) (by first | (simp (disch := omega) only [rI, rIe, rA, rIA, rLA, rJA, rVI, rQI, rVA, rQA, upd_at,  rAI, rLI, rJI, nI_add, pk_sub, kc_0, kc_1, kc_2, kc_3, kc_4, kc_5, reduceIte, Nat.reduceEqDiff, Nat.add_zero, rI_hold, rI_hold, rL_hold, hk, hk1, he67, he70, hk2, he671, he701]; done) | (simp (disch := omega) only [rI, rIe, rA, rIA, rLA, rJA, rVI, rQI, rVA, rQA, upd_at,  rAI, rLI, rJI, nI_add, pk_sub, kc_0, kc_1, kc_2, kc_3, kc_4, kc_5, reduceIte, Nat.reduceEqDiff, Nat.add_zero, rI_hold, rI_hold, rL_hold, hk, hk1, he67, he70, hk2, he671, he701]; exact congrArg nI (by omega))) ?_
  refine Bod.ildnG dc_333_114 (by repeat (first | exact q1 | exact sm_get_p1 | exact sm_get_p2e | refine sm_get_p1m (by decide) (by decide) ?_ | refine sm_get_p1n (by decide) rfl ?_ | refine sm_get_p2n (by decide) (by decide) rfl ?_)) ?_
  refine Bod.icF dc_333_115 rfl (k2_ne_F (k_eq e701 la rfl rfl (by omega))) ?_
  refine Bod.aldnG dc_333_118 (by repeat (first | exact q0 | exact sm_get_p1 | exact sm_get_p2e | refine sm_get_p1m (by decide) (by decide) ?_ | refine sm_get_p1n (by decide) rfl ?_ | refine sm_get_p2n (by decide) (by decide) rfl ?_)) ?_
  refine Bod.ic 2 (by decide) dc_333_119 ?_
  refine Bod.virt (r := []) dc_333_120 kr_333_312 ⟨Or.inl rfl, ow_309, cl_14⟩ (by rw [np_309]; rfl) (by rw [np_309]; rfl) (ob_of (mk_61 _)) (Nat.le_of_ble_eq_true rfl) (c5  ) ?_
  show Bod _ _ _ _ [_] _ _ _
  refine Bod.ifT dc_333_123 rfl (k1_eq_T (k_eq 0 0 rfl rfl (by omega))) ?_
  refine Bod.ic 0 (by decide) dc_333_130 ?_
  refine Bod.ist dc_333_131 (by rw [ml_333]; exact Nat.le_of_ble_eq_true rfl) ?_
  refine Bod.ildnG dc_333_133 (by repeat (first | exact q0 | exact sm_get_p1 | exact sm_get_p2e | refine sm_get_p1m (by decide) (by decide) ?_ | refine sm_get_p1n (by decide) rfl ?_ | refine sm_get_p2n (by decide) (by decide) rfl ?_)) ?_
  refine Bod.ifT dc_333_134 rfl (k1_ne_T (k_ne 1 0 rfl rfl (by omega) (by omega) (by omega))) ?_
  refine Bod.aldnG dc_333_142 (by repeat (first | exact q0 | exact sm_get_p1 | exact sm_get_p2e | refine sm_get_p1m (by decide) (by decide) ?_ | refine sm_get_p1n (by decide) rfl ?_ | refine sm_get_p2n (by decide) (by decide) rfl ?_)) ?_
  refine Bod.get dc_333_143 fr_333_314 (mk_61 _) rfl ?_
  refine Bod.aldnG dc_333_146 (by repeat (first | exact q0 | exact sm_get_p1 | exact sm_get_p2e | refine sm_get_p1m (by decide) (by decide) ?_ | refine sm_get_p1n (by decide) rfl ?_ | refine sm_get_p2n (by decide) (by decide) rfl ?_)) ?_
  refine Bod.get dc_333_147 fr_333_251 (mk_61 _) rfl ?_
  refine Bod.eqI (nI en) (by first | (simp (disch := omega) only [rI, rIe, rA, rIA, rLA, rJA, rVI, rQI, rVA, rQA, upd_at,  rAI, rLI, rJI, nI_add, pk_sub, kc_0, kc_1, kc_2, kc_3, kc_4, kc_5, reduceIte, Nat.reduceEqDiff, Nat.add_zero, rI_hold, rI_hold, rL_hold, hk, hk1, he67, he70, hk2, he671, he701, hen]; done) | (simp (disch := omega) only [rI, rIe, rA, rIA, rLA, rJA, rVI, rQI, rVA, rQA, upd_at,  rAI, rLI, rJI, nI_add, pk_sub, kc_0, kc_1, kc_2, kc_3, kc_4, kc_5, reduceIte, Nat.reduceEqDiff, Nat.add_zero, rI_hold, rI_hold, rL_hold, hk, hk1, he67, he70, hk2, he671, he701, hen]; exact congrArg nI (by omega))) ?_
  refine Bod.aldnG dc_333_150 (by repeat (first | exact q0 | exact sm_get_p1 | exact sm_get_p2e | refine sm_get_p1m (by decide) (by decide) ?_ | refine sm_get_p1n (by decide) rfl ?_ | refine sm_get_p2n (by decide) (by decide) rfl ?_)) ?_
  refine Bod.bip 11 (by decide) dc_333_151 ?_
  refine Bod.virt (r := [_, _]) dc_333_153 kr_333_305 ⟨Or.inl rfl, ow_325, cl_14⟩ (by rw [np_325]; rfl) (by rw [np_325]; rfl) (ob_of (mk_61 _)) (Nat.le_of_ble_eq_true rfl) (c6  ) ?_
  show Bod _ _ _ _ [_, _, _] _ _ _
  refine Bod.iastN en rfl (by omega) (by omega) dc_333_156 (mk_81 _) (sa_81 _ _ _) (mu_A _ _ _ _) ?_
  refine Bod.aldnG dc_333_157 (by repeat (first | exact q0 | exact sm_get_p1 | exact sm_get_p2e | refine sm_get_p1m (by decide) (by decide) ?_ | refine sm_get_p1n (by decide) rfl ?_ | refine sm_get_p2n (by decide) (by decide) rfl ?_)) ?_
  refine Bod.go dc_333_158 rfl ?_
  refine Bod.get dc_333_159 fr_333_251 (mk_61 _) rfl ?_
  refine Bod.eqI (nI en1) (by first | (simp (disch := omega) only [rI, rIe, rA, rIA, rLA, rJA, rVI, rQI, rVA, rQA, upd_at,  rAI, rLI, rJI, nI_add, pk_sub, kc_0, kc_1, kc_2, kc_3, kc_4, kc_5, reduceIte, Nat.reduceEqDiff, Nat.add_zero, rI_hold, rI_hold, rL_hold, hk, hk1, he67, he70, hk2, he671, he701, hen, hen1]; done) | (simp (disch := omega) only [rI, rIe, rA, rIA, rLA, rJA, rVI, rQI, rVA, rQA, upd_at,  rAI, rLI, rJI, nI_add, pk_sub, kc_0, kc_1, kc_2, kc_3, kc_4, kc_5, reduceIte, Nat.reduceEqDiff, Nat.add_zero, rI_hold, rI_hold, rL_hold, hk, hk1, he67, he70, hk2, he671, he701, hen, hen1]; exact congrArg nI (by omega))) ?_
  refine Bod.ic 1 (by decide) dc_333_162 ?_
  refine Bod.addN (en1 + 1) (by omega) dc_333_163 ?_
  refine Bod.put dc_333_164 fr_333_251 (mk_61 _) (Nat.le_of_ble_eq_true rfl) pf_14_34 (st_6134 _ _) (mu_I _ _ _) ?_
  refine Bod.aldnG dc_333_167 (by repeat (first | exact q0 | exact sm_get_p1 | exact sm_get_p2e | refine sm_get_p1m (by decide) (by decide) ?_ | refine sm_get_p1n (by decide) rfl ?_ | refine sm_get_p2n (by decide) (by decide) rfl ?_)) ?_
  refine Bod.ildG dc_333_168 (by repeat (first | exact q0 | exact sm_get_p1 | exact sm_get_p2e | refine sm_get_p1m (by decide) (by decide) ?_ | refine sm_get_p1n (by decide) rfl ?_ | refine sm_get_p2n (by decide) (by decide) rfl ?_)) ?_
  refine Bod.virt (r := []) dc_333_170 kr_333_317 ⟨Or.inl rfl, ow_326, cl_14⟩ (by rw [np_326]; rfl) (by rw [np_326]; rfl) (ob_of (mk_61 _)) (Nat.le_of_ble_eq_true rfl) (c7  ) ?_
  show Bod _ _ _ _ [] _ _ _
  refine Bod.ildG dc_333_173 (by repeat (first | exact q0 | exact sm_get_p1 | exact sm_get_p2e | refine sm_get_p1m (by decide) (by decide) ?_ | refine sm_get_p1n (by decide) rfl ?_ | refine sm_get_p2n (by decide) (by decide) rfl ?_)) ?_
  refine Bod.ifF dc_333_175 rfl (k1_ne_F (k_eq 0 0 rfl rfl (by omega))) ?_
  refine Bod.go dc_333_178 rfl ?_
  exact hB _ (by repeat (first | exact q0 | exact sm_get_p1 | exact sm_get_p2e | refine sm_get_p1m (by decide) (by decide) ?_ | refine sm_get_p1n (by decide) rfl ?_ | refine sm_get_p2n (by decide) (by decide) rfl ?_)) (by repeat (first | exact q1 | exact sm_get_p1 | exact sm_get_p2e | refine sm_get_p1m (by decide) (by decide) ?_ | refine sm_get_p1n (by decide) rfl ?_ | refine sm_get_p2n (by decide) (by decide) rfl ?_)) (by repeat (first | exact q2 | exact sm_get_p1 | exact sm_get_p2e | refine sm_get_p1m (by decide) (by decide) ?_ | refine sm_get_p1n (by decide) rfl ?_ | refine sm_get_p2n (by decide) (by decide) rfl ?_)) (by repeat (first | exact q0 | exact sm_get_p1 | exact sm_get_p2e | refine sm_get_p1m (by decide) (by decide) ?_ | refine sm_get_p1n (by decide) rfl ?_ | refine sm_get_p2n (by decide) (by decide) rfl ?_))
theorem zChL_8 {d : Nat} {S Sf : cS} {v : Option Value} {lv : sm_L} {la : Nat} {le : Nat} {k : Nat} {S1 : cS} {S2 : cS} {a : Nat} {S3 : cS} {k1 : Nat} {e67 : Nat} {e70 : Nat} {S4 : cS} {k2 : Nat} {e671 : Nat} {S5 : cS} (q0 : sm_get lv 0 = some (.ref 61)) (q1 : sm_get lv 1 = some (.int (nI la))) (q2 : sm_get lv 2 = some (.int (nI le))) (q3 : sm_get lv 3 = some (.int (nI 1))) (mla : la < 2 ^ 20) (mle : le < 2 ^ 20) (hk : sI S 6115 = nI k) (mk : k < 6001) (c1 : Ans (d + 8) 306 [.ref 61, .int (nI 0)] (wI 6115 (nI (k + 1)) S) (some (.int (nI 1))) S1) (ma : a < 2 ^ 20) (c2 : Ans (d + 8) 325 [.ref 61, .int (nI 12)] S1 (some (.int (nI a))) S2) (c3 : Ans (d + 8) 334 [.ref 61, .int (nI la), .int (nI 0)] S2 (some (.int (nI 1))) S3) (hk1 : sI S3 6115 = nI k1) (mk1 : k1 < 6001) (he67 : sA S3 67 k1 = nI e67) (me67 : e67 < 2 ^ 20) (b1 : e67 ≠ 7) (he70 : sA S3 70 k1 = nI e70) (me70 : e70 < 2 ^ 20) (b2 : e70 = la) (c4 : Ans (d + 8) 309 [.ref 61, .int (nI 1)] S3 (some (.int (nI 0))) S4) (hk2 : sI S4 6115 = nI k2) (mk2 : k2 < 6001) (he671 : sA S4 67 k2 = nI e671) (me671 : e671 < 2 ^ 20) (b3 : e671 = 7) (c5 : Ans (d + 8) 326 [.ref 61, .int (nI a)] S4 none S5) (hB : ∀ lv1 : sm_L, sm_get lv1 0 = some (.ref 61) → sm_get lv1 1 = some (.int (nI la)) → sm_get lv1 2 = some (.int (nI le)) → sm_get lv1 3 = some (.int (nI 0)) → Bod (d + 8) 333 7 lv1 [] (S5) v Sf) : Bod (d + 8) 333 7 lv [] S v Sf := by
  refine Bod.ildnG dc_333_7 (by repeat (first | exact q3 | exact sm_get_p1 | exact sm_get_p2e | refine sm_get_p1m (by decide) (by decide) ?_ | refine sm_get_p1n (by decide) rfl ?_ | refine sm_get_p2n (by decide) (by decide) rfl ?_)) ?_
  refine Bod.ifF dc_333_8 rfl (k1_eq_F (k_ne 1 0 rfl rfl (by omega) (by omega) (by omega))) ?_
  refine Bod.aldnG dc_333_11 (by repeat (first | exact q0 | exact sm_get_p1 | exact sm_get_p2e | refine sm_get_p1m (by decide) (by decide) ?_ | refine sm_get_p1n (by decide) rfl ?_ | refine sm_get_p2n (by decide) (by decide) rfl ?_)) ?_
  refine Bod.go dc_333_12 rfl ?_
  refine Bod.get dc_333_13 fr_333_190 (mk_61 _) rfl ?_
  refine Bod.eqI (nI k) (by first | assumption | rfl | exact congrArg nI (by omega) | (simp (disch := omega) only [rI, rIe, rA, rIA, rLA, rJA, rVI, rQI, rVA, rQA, upd_at,  rAI, rLI, rJI, nI_add, pk_sub, kc_0, kc_1, kc_2, kc_3, kc_4, kc_5, reduceIte, Nat.reduceEqDiff, Nat.add_zero, rI_hold, rI_hold, rL_hold, hk]; done)) ?_
  refine Bod.ic 1 (by decide) dc_333_16 ?_
  refine Bod.addN (k + 1) (by omega) dc_333_17 ?_
  refine Bod.put dc_333_18 fr_333_190 (mk_61 _) (Nat.le_of_ble_eq_true rfl) pf_14_15 (st_6115 _ _) (mu_I _ _ _) ?_
  refine Bod.aldnG dc_333_21 (by repeat (first | exact q0 | exact sm_get_p1 | exact sm_get_p2e | refine sm_get_p1m (by decide) (by decide) ?_ | refine sm_get_p1n (by decide) rfl ?_ | refine sm_get_p2n (by decide) (by decide) rfl ?_)) ?_
  refine Bod.ic 0 (by decide) dc_333_22 ?_
  refine Bod.virt (r := []) dc_333_23 kr_333_302 ⟨Or.inl rfl, ow_306, cl_14⟩ (by rw [np_306]; rfl) (by rw [np_306]; rfl) (ob_of (mk_61 _)) (Nat.le_of_ble_eq_true rfl) (c1  ) ?_
  show Bod _ _ _ _ [_] _ _ _
  refine Bod.ifT dc_333_26 rfl (k1_ne_T (k_ne 1 0 rfl rfl (by omega) (by omega) (by omega))) ?_
  refine Bod.aldnG dc_333_31 (by repeat (first | exact q0 | exact sm_get_p1 | exact sm_get_p2e | refine sm_get_p1m (by decide) (by decide) ?_ | refine sm_get_p1n (by decide) rfl ?_ | refine sm_get_p2n (by decide) (by decide) rfl ?_)) ?_
  refine Bod.bip 12 (by decide) dc_333_32 ?_
  refine Bod.virt (r := []) dc_333_34 kr_333_305 ⟨Or.inl rfl, ow_325, cl_14⟩ (by rw [np_325]; rfl) (by rw [np_325]; rfl) (ob_of (mk_61 _)) (Nat.le_of_ble_eq_true rfl) (c2  ) ?_
  show Bod _ _ _ _ [_] _ _ _
  refine Bod.ist dc_333_37 (by rw [ml_333]; exact Nat.le_of_ble_eq_true rfl) ?_
  refine Bod.aldnG dc_333_39 (by repeat (first | exact q0 | exact sm_get_p1 | exact sm_get_p2e | refine sm_get_p1m (by decide) (by decide) ?_ | refine sm_get_p1n (by decide) rfl ?_ | refine sm_get_p2n (by decide) (by decide) rfl ?_)) ?_
  refine Bod.ildnG dc_333_40 (by repeat (first | exact q1 | exact sm_get_p1 | exact sm_get_p2e | refine sm_get_p1m (by decide) (by decide) ?_ | refine sm_get_p1n (by decide) rfl ?_ | refine sm_get_p2n (by decide) (by decide) rfl ?_)) ?_
  refine Bod.ic 0 (by decide) dc_333_41 ?_
  refine Bod.virt (r := []) dc_333_42 kr_333_309 ⟨Or.inl rfl, ow_334, cl_14⟩ (by rw [np_334]; rfl) (by rw [np_334]; rfl) (ob_of (mk_61 _)) (Nat.le_of_ble_eq_true rfl) (c3  ) ?_
  show Bod _ _ _ _ [_] _ _ _
  refine Bod.ifT dc_333_45 rfl (k1_ne_T (k_ne 1 0 rfl rfl (by omega) (by omega) (by omega))) ?_
  refine Bod.aldnG dc_333_50 (by repeat (first | exact q0 | exact sm_get_p1 | exact sm_get_p2e | refine sm_get_p1m (by decide) (by decide) ?_ | refine sm_get_p1n (by decide) rfl ?_ | refine sm_get_p2n (by decide) (by decide) rfl ?_)) ?_
  refine Bod.get dc_333_51 fr_333_129 (mk_61 _) rfl ?_
  refine Bod.aldnG dc_333_54 (by repeat (first | exact q0 | exact sm_get_p1 | exact sm_get_p2e | refine sm_get_p1m (by decide) (by decide) ?_ | refine sm_get_p1n (by decide) rfl ?_ | refine sm_get_p2n (by decide) (by decide) rfl ?_)) ?_
  refine Bod.get dc_333_55 fr_333_190 (mk_61 _) rfl ?_
  refine Bod.eqI (nI k1) (by first | (simp (disch := omega) only [rI, rIe, rA, rIA, rLA, rJA, rVI, rQI, rVA, rQA, upd_at,  rAI, rLI, rJI, nI_add, pk_sub, kc_0, kc_1, kc_2, kc_3, kc_4, kc_5, reduceIte, Nat.reduceEqDiff, Nat.add_zero, rI_hold, rI_hold, rL_hold, hk, hk1]; done) | (simp (disch := omega) only [rI, rIe, rA, rIA, rLA, rJA, rVI, rQI, rVA, rQA, upd_at,  rAI, rLI, rJI, nI_add, pk_sub, kc_0, kc_1, kc_2, kc_3, kc_4, kc_5, reduceIte, Nat.reduceEqDiff, Nat.add_zero, rI_hold, rI_hold, rL_hold, hk, hk1]; exact congrArg nI (by omega))) ?_
  refine Bod.ialdN k1 rfl (by omega) (by omega) dc_333_58 (mk_67 _) ?_
  refine Bod.eqI (nI e67) (by first | (simp (disch := omega) only [rI, rIe, rA, rIA, rLA, rJA, rVI, rQI, rVA, rQA, upd_at,  rAI, rLI, rJI, nI_add, pk_sub, kc_0, kc_1, kc_2, kc_3, kc_4, kc_5, reduceIte, Nat.reduceEqDiff, Nat.add_zero, rI_hold, rI_hold, rL_hold, hk, hk1, he67]; done) | (simp (disch := omega) only [rI, rIe, rA, rIA, rLA, rJA, rVI, rQI, rVA, rQA, upd_at,  rAI, rLI, rJI, nI_add, pk_sub, kc_0, kc_1, kc_2, kc_3, kc_4, kc_5, reduceIte, Nat.reduceEqDiff, Nat.add_zero, rI_hold, rI_hold, rL_hold, hk, hk1, he67]; exact congrArg nI (by omega))) ?_
  refine Bod.bip 7 (by decide) dc_333_59 ?_
  refine Bod.icF dc_333_61 rfl (k2_eq_F (k_ne e67 7 rfl rfl (by omega) (by omega) (by omega))) ?_
  refine Bod.aldnG dc_333_64 (by repeat (first | exact q0 | exact sm_get_p1 | exact sm_get_p2e | refine sm_get_p1m (by decide) (by decide) ?_ | refine sm_get_p1n (by decide) rfl ?_ | refine sm_get_p2n (by decide) (by decide) rfl ?_)) ?_
  refine Bod.get dc_333_65 fr_333_141 (mk_61 _) rfl ?_
  refine Bod.aldnG dc_333_68 (by repeat (first | exact q0 | exact sm_get_p1 | exact sm_get_p2e | refine sm_get_p1m (by decide) (by decide) ?_ | refine sm_get_p1n (by decide) rfl ?_ | refine sm_get_p2n (by decide) (by decide) rfl ?_)) ?_
  refine Bod.get dc_333_69 fr_333_190 (mk_61 _) rfl ?_
  refine Bod.eqI (nI k1) (by first | (simp (disch := omega) only [rI, rIe, rA, rIA, rLA, rJA, rVI, rQI, rVA, rQA, upd_at,  rAI, rLI, rJI, nI_add, pk_sub, kc_0, kc_1, kc_2, kc_3, kc_4, kc_5, reduceIte, Nat.reduceEqDiff, Nat.add_zero, rI_hold, rI_hold, rL_hold, hk, hk1, he67]; done) | (simp (disch := omega) only [rI, rIe, rA, rIA, rLA, rJA, rVI, rQI, rVA, rQA, upd_at,  rAI, rLI, rJI, nI_add, pk_sub, kc_0, kc_1, kc_2, kc_3, kc_4, kc_5, reduceIte, Nat.reduceEqDiff, Nat.add_zero, rI_hold, rI_hold, rL_hold, hk, hk1, he67]; exact congrArg nI (by omega))) ?_
  refine Bod.ialdN k1 rfl (by omega) (by omega) dc_333_72 (mk_70 _) ?_
  refine Bod.eqI (nI e70) (by first | (simp (disch := omega) only [rI, rIe, rA, rIA, rLA, rJA, rVI, rQI, rVA, rQA, upd_at,  rAI, rLI, rJI, nI_add, pk_sub, kc_0, kc_1, kc_2, kc_3, kc_4, kc_5, reduceIte, Nat.reduceEqDiff, Nat.add_zero, rI_hold, rI_hold, rL_hold, hk, hk1, he67, he70]; done) | (simp (disch := omega) only [rI, rIe, rA, rIA, rLA, rJA, rVI, rQI, rVA, rQA, upd_at,  rAI, rLI, rJI, nI_add, pk_sub, kc_0, kc_1, kc_2, kc_3, kc_4, kc_5, reduceIte, Nat.reduceEqDiff, Nat.add_zero, rI_hold, rI_hold, rL_hold, hk, hk1, he67, he70]; exact congrArg nI (by omega))) ?_
  refine Bod.ildnG dc_333_73 (by repeat (first | exact q1 | exact sm_get_p1 | exact sm_get_p2e | refine sm_get_p1m (by decide) (by decide) ?_ | refine sm_get_p1n (by decide) rfl ?_ | refine sm_get_p2n (by decide) (by decide) rfl ?_)) ?_
  refine Bod.icF dc_333_74 rfl (k2_ne_F (k_eq e70 la rfl rfl (by omega))) ?_
  refine Bod.aldnG dc_333_77 (by repeat (first | exact q0 | exact sm_get_p1 | exact sm_get_p2e | refine sm_get_p1m (by decide) (by decide) ?_ | refine sm_get_p1n (by decide) rfl ?_ | refine sm_get_p2n (by decide) (by decide) rfl ?_)) ?_
  refine Bod.ic 1 (by decide) dc_333_78 ?_
  refine Bod.virt (r := []) dc_333_79 kr_333_312 ⟨Or.inl rfl, ow_309, cl_14⟩ (by rw [np_309]; rfl) (by rw [np_309]; rfl) (ob_of (mk_61 _)) (Nat.le_of_ble_eq_true rfl) (c4  ) ?_
  show Bod _ _ _ _ [_] _ _ _
  refine Bod.ifT dc_333_82 rfl (k1_eq_T (k_eq 0 0 rfl rfl (by omega))) ?_
  refine Bod.ic 0 (by decide) dc_333_89 ?_
  refine Bod.istn dc_333_90 (by rw [ml_333]; exact Nat.le_of_ble_eq_true rfl) ?_
  refine Bod.aldnG dc_333_91 (by repeat (first | exact q0 | exact sm_get_p1 | exact sm_get_p2e | refine sm_get_p1m (by decide) (by decide) ?_ | refine sm_get_p1n (by decide) rfl ?_ | refine sm_get_p2n (by decide) (by decide) rfl ?_)) ?_
  refine Bod.get dc_333_92 fr_333_129 (mk_61 _) rfl ?_
  refine Bod.aldnG dc_333_95 (by repeat (first | exact q0 | exact sm_get_p1 | exact sm_get_p2e | refine sm_get_p1m (by decide) (by decide) ?_ | refine sm_get_p1n (by decide) rfl ?_ | refine sm_get_p2n (by decide) (by decide) rfl ?_)) ?_
  refine Bod.get dc_333_96 fr_333_190 (mk_61 _) rfl ?_
  refine Bod.eqI (nI k2) (by first | (simp (disch := omega) only [rI, rIe, rA, rIA, rLA, rJA, rVI, rQI, rVA, rQA, upd_at,  rAI, rLI, rJI, nI_add, pk_sub, kc_0, kc_1, kc_2, kc_3, kc_4, kc_5, reduceIte, Nat.reduceEqDiff, Nat.add_zero, rI_hold, rI_hold, rL_hold, hk, hk1, he67, he70, hk2]; done) | (simp (disch := omega) only [rI, rIe, rA, rIA, rLA, rJA, rVI, rQI, rVA, rQA, upd_at,  rAI, rLI, rJI, nI_add, pk_sub, kc_0, kc_1, kc_2, kc_3, kc_4, kc_5, reduceIte, Nat.reduceEqDiff, Nat.add_zero, rI_hold, rI_hold, rL_hold, hk, hk1, he67, he70, hk2]; exact congrArg nI (by omega))) ?_
  refine Bod.ialdN k2 rfl (by omega) (by omega) dc_333_99 (mk_67 _) ?_
  refine Bod.eqI (nI e671) (by first | (simp (disch := omega) only [rI, rIe, rA, rIA, rLA, rJA, rVI, rQI, rVA, rQA, upd_at,  rAI, rLI, rJI, nI_add, pk_sub, kc_0, kc_1, kc_2, kc_3, kc_4, kc_5, reduceIte, Nat.reduceEqDiff, Nat.add_zero, rI_hold, rI_hold, rL_hold, hk, hk1, he67, he70, hk2, he671]; done) | (simp (disch := omega) only [rI, rIe, rA, rIA, rLA, rJA, rVI, rQI, rVA, rQA, upd_at,  rAI, rLI, rJI, nI_add, pk_sub, kc_0, kc_1, kc_2, kc_3, kc_4, kc_5, reduceIte, Nat.reduceEqDiff, Nat.add_zero, rI_hold, rI_hold, rL_hold, hk, hk1, he67, he70, hk2, he671]; exact congrArg nI (by omega))) ?_
  refine Bod.bip 7 (by decide) dc_333_100 ?_
  refine Bod.icT dc_333_102 rfl (k2_eq_T (k_eq e671 7 rfl rfl (by omega))) ?_
  refine Bod.ic 0 (by decide) dc_333_130 ?_
  refine Bod.ist dc_333_131 (by rw [ml_333]; exact Nat.le_of_ble_eq_true rfl) ?_
  refine Bod.ildnG dc_333_133 (by repeat (first | exact q0 | exact sm_get_p1 | exact sm_get_p2e | refine sm_get_p1m (by decide) (by decide) ?_ | refine sm_get_p1n (by decide) rfl ?_ | refine sm_get_p2n (by decide) (by decide) rfl ?_)) ?_
  refine Bod.ifF dc_333_134 rfl (k1_ne_F (k_eq 0 0 rfl rfl (by omega))) ?_
  refine Bod.ildG dc_333_137 (by repeat (first | exact q0 | exact sm_get_p1 | exact sm_get_p2e | refine sm_get_p1m (by decide) (by decide) ?_ | refine sm_get_p1n (by decide) rfl ?_ | refine sm_get_p2n (by decide) (by decide) rfl ?_)) ?_
  refine Bod.ifT dc_333_139 rfl (k1_eq_T (k_eq 0 0 rfl rfl (by omega))) ?_
  refine Bod.aldnG dc_333_167 (by repeat (first | exact q0 | exact sm_get_p1 | exact sm_get_p2e | refine sm_get_p1m (by decide) (by decide) ?_ | refine sm_get_p1n (by decide) rfl ?_ | refine sm_get_p2n (by decide) (by decide) rfl ?_)) ?_
  refine Bod.ildG dc_333_168 (by repeat (first | exact q0 | exact sm_get_p1 | exact sm_get_p2e | refine sm_get_p1m (by decide) (by decide) ?_ | refine sm_get_p1n (by decide) rfl ?_ | refine sm_get_p2n (by decide) (by decide) rfl ?_)) ?_
  refine Bod.virt (r := []) dc_333_170 kr_333_317 ⟨Or.inl rfl, ow_326, cl_14⟩ (by rw [np_326]; rfl) (by rw [np_326]; rfl) (ob_of (mk_61 _)) (Nat.le_of_ble_eq_true rfl) (c5  ) ?_
  show Bod _ _ _ _ [] _ _ _
  refine Bod.ildG dc_333_173 (by repeat (first | exact q0 | exact sm_get_p1 | exact sm_get_p2e | refine sm_get_p1m (by decide) (by decide) ?_ | refine sm_get_p1n (by decide) rfl ?_ | refine sm_get_p2n (by decide) (by decide) rfl ?_)) ?_
  refine Bod.ifF dc_333_175 rfl (k1_ne_F (k_eq 0 0 rfl rfl (by omega))) ?_
  refine Bod.go dc_333_178 rfl ?_
  exact hB _ (by repeat (first | exact q0 | exact sm_get_p1 | exact sm_get_p2e | refine sm_get_p1m (by decide) (by decide) ?_ | refine sm_get_p1n (by decide) rfl ?_ | refine sm_get_p2n (by decide) (by decide) rfl ?_)) (by repeat (first | exact q1 | exact sm_get_p1 | exact sm_get_p2e | refine sm_get_p1m (by decide) (by decide) ?_ | refine sm_get_p1n (by decide) rfl ?_ | refine sm_get_p2n (by decide) (by decide) rfl ?_)) (by repeat (first | exact q2 | exact sm_get_p1 | exact sm_get_p2e | refine sm_get_p1m (by decide) (by decide) ?_ | refine sm_get_p1n (by decide) rfl ?_ | refine sm_get_p2n (by decide) (by decide) rfl ?_)) (by repeat (first | exact q0 | exact sm_get_p1 | exact sm_get_p2e | refine sm_get_p1m (by decide) (by decide) ?_ | refine sm_get_p1n (by decide) rfl ?_ | refine sm_get_p2n (by decide) (by decide) rfl ?_))
theorem zChL_9 {d : Nat} {S Sf : cS} {v : Option Value} {lv : sm_L} {la : Nat} {le : Nat} {k : Nat} {S1 : cS} {S2 : cS} {a : Nat} {S3 : cS} {k1 : Nat} {e67 : Nat} {e70 : Nat} {S4 : cS} {k2 : Nat} {e671 : Nat} {e701 : Nat} {S5 : cS} (q0 : sm_get lv 0 = some (.ref 61)) (q1 : sm_get lv 1 = some (.int (nI la))) (q2 : sm_get lv 2 = some (.int (nI le))) (q3 : sm_get lv 3 = some (.int (nI 1))) (mla : la < 2 ^ 20) (mle : le < 2 ^ 20) (hk : sI S 6115 = nI k) (mk : k < 6001) (c1 : Ans (d + 8) 306 [.ref 61, .int (nI 0)] (wI 6115 (nI (k + 1)) S) (some (.int (nI 1))) S1) (ma : a < 2 ^ 20) (c2 : Ans (d + 8) 325 [.ref 61, .int (nI 12)] S1 (some (.int (nI a))) S2) (c3 : Ans (d + 8) 334 [.ref 61, .int (nI la), .int (nI 0)] S2 (some (.int (nI 1))) S3) (hk1 : sI S3 6115 = nI k1) (mk1 : k1 < 6001) (he67 : sA S3 67 k1 = nI e67) (me67 : e67 < 2 ^ 20) (b1 : e67 ≠ 7) (he70 : sA S3 70 k1 = nI e70) (me70 : e70 < 2 ^ 20) (b2 : e70 = la) (c4 : Ans (d + 8) 309 [.ref 61, .int (nI 1)] S3 (some (.int (nI 0))) S4) (hk2 : sI S4 6115 = nI k2) (mk2 : k2 < 6001) (he671 : sA S4 67 k2 = nI e671) (me671 : e671 < 2 ^ 20) (b3 : e671 ≠ 7) (he701 : sA S4 70 k2 = nI e701) (me701 : e701 < 2 ^ 20) (b4 : e701 ≠ la) (c5 : Ans (d + 8) 326 [.ref 61, .int (nI a)] S4 none S5) (hB : ∀ lv1 : sm_L, sm_get lv1 0 = some (.ref 61) → sm_get lv1 1 = some (.int (nI la)) → sm_get lv1 2 = some (.int (nI le)) → sm_get lv1 3 = some (.int (nI 0)) → Bod (d + 8) 333 7 lv1 [] (S5) v Sf) : Bod (d + 8) 333 7 lv [] S v Sf := by
  refine Bod.ildnG dc_333_7 (by repeat (first | exact q3 | exact sm_get_p1 | exact sm_get_p2e | refine sm_get_p1m (by decide) (by decide) ?_ | refine sm_get_p1n (by decide) rfl ?_ | refine sm_get_p2n (by decide) (by decide) rfl ?_)) ?_
  refine Bod.ifF dc_333_8 rfl (k1_eq_F (k_ne 1 0 rfl rfl (by omega) (by omega) (by omega))) ?_
  refine Bod.aldnG dc_333_11 (by repeat (first | exact q0 | exact sm_get_p1 | exact sm_get_p2e | refine sm_get_p1m (by decide) (by decide) ?_ | refine sm_get_p1n (by decide) rfl ?_ | refine sm_get_p2n (by decide) (by decide) rfl ?_)) ?_
  refine Bod.go dc_333_12 rfl ?_
  refine Bod.get dc_333_13 fr_333_190 (mk_61 _) rfl ?_
  refine Bod.eqI (nI k) (by first | assumption | rfl | exact congrArg nI (by omega) | (simp (disch := omega) only [rI, rIe, rA, rIA, rLA, rJA, rVI, rQI, rVA, rQA, upd_at,  rAI, rLI, rJI, nI_add, pk_sub, kc_0, kc_1, kc_2, kc_3, kc_4, kc_5, reduceIte, Nat.reduceEqDiff, Nat.add_zero, rI_hold, rI_hold, rL_hold, hk]; done)) ?_
  refine Bod.ic 1 (by decide) dc_333_16 ?_
  refine Bod.addN (k + 1) (by omega) dc_333_17 ?_
  refine Bod.put dc_333_18 fr_333_190 (mk_61 _) (Nat.le_of_ble_eq_true rfl) pf_14_15 (st_6115 _ _) (mu_I _ _ _) ?_
  refine Bod.aldnG dc_333_21 (by repeat (first | exact q0 | exact sm_get_p1 | exact sm_get_p2e | refine sm_get_p1m (by decide) (by decide) ?_ | refine sm_get_p1n (by decide) rfl ?_ | refine sm_get_p2n (by decide) (by decide) rfl ?_)) ?_
  refine Bod.ic 0 (by decide) dc_333_22 ?_
  refine Bod.virt (r := []) dc_333_23 kr_333_302 ⟨Or.inl rfl, ow_306, cl_14⟩ (by rw [np_306]; rfl) (by rw [np_306]; rfl) (ob_of (mk_61 _)) (Nat.le_of_ble_eq_true rfl) (c1  ) ?_
  show Bod _ _ _ _ [_] _ _ _
  refine Bod.ifT dc_333_26 rfl (k1_ne_T (k_ne 1 0 rfl rfl (by omega) (by omega) (by omega))) ?_
  refine Bod.aldnG dc_333_31 (by repeat (first | exact q0 | exact sm_get_p1 | exact sm_get_p2e | refine sm_get_p1m (by decide) (by decide) ?_ | refine sm_get_p1n (by decide) rfl ?_ | refine sm_get_p2n (by decide) (by decide) rfl ?_)) ?_
  refine Bod.bip 12 (by decide) dc_333_32 ?_
  refine Bod.virt (r := []) dc_333_34 kr_333_305 ⟨Or.inl rfl, ow_325, cl_14⟩ (by rw [np_325]; rfl) (by rw [np_325]; rfl) (ob_of (mk_61 _)) (Nat.le_of_ble_eq_true rfl) (c2  ) ?_
  show Bod _ _ _ _ [_] _ _ _
  refine Bod.ist dc_333_37 (by rw [ml_333]; exact Nat.le_of_ble_eq_true rfl) ?_
  refine Bod.aldnG dc_333_39 (by repeat (first | exact q0 | exact sm_get_p1 | exact sm_get_p2e | refine sm_get_p1m (by decide) (by decide) ?_ | refine sm_get_p1n (by decide) rfl ?_ | refine sm_get_p2n (by decide) (by decide) rfl ?_)) ?_
  refine Bod.ildnG dc_333_40 (by repeat (first | exact q1 | exact sm_get_p1 | exact sm_get_p2e | refine sm_get_p1m (by decide) (by decide) ?_ | refine sm_get_p1n (by decide) rfl ?_ | refine sm_get_p2n (by decide) (by decide) rfl ?_)) ?_
  refine Bod.ic 0 (by decide) dc_333_41 ?_
  refine Bod.virt (r := []) dc_333_42 kr_333_309 ⟨Or.inl rfl, ow_334, cl_14⟩ (by rw [np_334]; rfl) (by rw [np_334]; rfl) (ob_of (mk_61 _)) (Nat.le_of_ble_eq_true rfl) (c3  ) ?_
  show Bod _ _ _ _ [_] _ _ _
  refine Bod.ifT dc_333_45 rfl (k1_ne_T (k_ne 1 0 rfl rfl (by omega) (by omega) (by omega))) ?_
  refine Bod.aldnG dc_333_50 (by repeat (first | exact q0 | exact sm_get_p1 | exact sm_get_p2e | refine sm_get_p1m (by decide) (by decide) ?_ | refine sm_get_p1n (by decide) rfl ?_ | refine sm_get_p2n (by decide) (by decide) rfl ?_)) ?_
  refine Bod.get dc_333_51 fr_333_129 (mk_61 _) rfl ?_
  refine Bod.aldnG dc_333_54 (by repeat (first | exact q0 | exact sm_get_p1 | exact sm_get_p2e | refine sm_get_p1m (by decide) (by decide) ?_ | refine sm_get_p1n (by decide) rfl ?_ | refine sm_get_p2n (by decide) (by decide) rfl ?_)) ?_
  refine Bod.get dc_333_55 fr_333_190 (mk_61 _) rfl ?_
  refine Bod.eqI (nI k1) (by first | (simp (disch := omega) only [rI, rIe, rA, rIA, rLA, rJA, rVI, rQI, rVA, rQA, upd_at,  rAI, rLI, rJI, nI_add, pk_sub, kc_0, kc_1, kc_2, kc_3, kc_4, kc_5, reduceIte, Nat.reduceEqDiff, Nat.add_zero, rI_hold, rI_hold, rL_hold, hk, hk1]; done) | (simp (disch := omega) only [rI, rIe, rA, rIA, rLA, rJA, rVI, rQI, rVA, rQA, upd_at,  rAI, rLI, rJI, nI_add, pk_sub, kc_0, kc_1, kc_2, kc_3, kc_4, kc_5, reduceIte, Nat.reduceEqDiff, Nat.add_zero, rI_hold, rI_hold, rL_hold, hk, hk1]; exact congrArg nI (by omega))) ?_
  refine Bod.ialdN k1 rfl (by omega) (by omega) dc_333_58 (mk_67 _) ?_
  refine Bod.eqI (nI e67) (by first | (simp (disch := omega) only [rI, rIe, rA, rIA, rLA, rJA, rVI, rQI, rVA, rQA, upd_at,  rAI, rLI, rJI, nI_add, pk_sub, kc_0, kc_1, kc_2, kc_3, kc_4, kc_5, reduceIte, Nat.reduceEqDiff, Nat.add_zero, rI_hold, rI_hold, rL_hold, hk, hk1, he67]; done) | (simp (disch := omega) only [rI, rIe, rA, rIA, rLA, rJA, rVI, rQI, rVA, rQA, upd_at,  rAI, rLI, rJI, nI_add, pk_sub, kc_0, kc_1, kc_2, kc_3, kc_4, kc_5, reduceIte, Nat.reduceEqDiff, Nat.add_zero, rI_hold, rI_hold, rL_hold, hk, hk1, he67]; exact congrArg nI (by omega))) ?_
  refine Bod.bip 7 (by decide) dc_333_59 ?_
  refine Bod.icF dc_333_61 rfl (k2_eq_F (k_ne e67 7 rfl rfl (by omega) (by omega) (by omega))) ?_
  refine Bod.aldnG dc_333_64 (by repeat (first | exact q0 | exact sm_get_p1 | exact sm_get_p2e | refine sm_get_p1m (by decide) (by decide) ?_ | refine sm_get_p1n (by decide) rfl ?_ | refine sm_get_p2n (by decide) (by decide) rfl ?_)) ?_
  refine Bod.get dc_333_65 fr_333_141 (mk_61 _) rfl ?_
  refine Bod.aldnG dc_333_68 (by repeat (first | exact q0 | exact sm_get_p1 | exact sm_get_p2e | refine sm_get_p1m (by decide) (by decide) ?_ | refine sm_get_p1n (by decide) rfl ?_ | refine sm_get_p2n (by decide) (by decide) rfl ?_)) ?_
  refine Bod.get dc_333_69 fr_333_190 (mk_61 _) rfl ?_
  refine Bod.eqI (nI k1) (by first | (simp (disch := omega) only [rI, rIe, rA, rIA, rLA, rJA, rVI, rQI, rVA, rQA, upd_at,  rAI, rLI, rJI, nI_add, pk_sub, kc_0, kc_1, kc_2, kc_3, kc_4, kc_5, reduceIte, Nat.reduceEqDiff, Nat.add_zero, rI_hold, rI_hold, rL_hold, hk, hk1, he67]; done) | (simp (disch := omega) only [rI, rIe, rA, rIA, rLA, rJA, rVI, rQI, rVA, rQA, upd_at,  rAI, rLI, rJI, nI_add, pk_sub, kc_0, kc_1, kc_2, kc_3, kc_4, kc_5, reduceIte, Nat.reduceEqDiff, Nat.add_zero, rI_hold, rI_hold, rL_hold, hk, hk1, he67]; exact congrArg nI (by omega))) ?_
  refine Bod.ialdN k1 rfl (by omega) (by omega) dc_333_72 (mk_70 _) ?_
  refine Bod.eqI (nI e70) (by first | (simp (disch := omega) only [rI, rIe, rA, rIA, rLA, rJA, rVI, rQI, rVA, rQA, upd_at,  rAI, rLI, rJI, nI_add, pk_sub, kc_0, kc_1, kc_2, kc_3, kc_4, kc_5, reduceIte, Nat.reduceEqDiff, Nat.add_zero, rI_hold, rI_hold, rL_hold, hk, hk1, he67, he70]; done) | (simp (disch := omega) only [rI, rIe, rA, rIA, rLA, rJA, rVI, rQI, rVA, rQA, upd_at,  rAI, rLI, rJI, nI_add, pk_sub, kc_0, kc_1, kc_2, kc_3, kc_4, kc_5, reduceIte, Nat.reduceEqDiff, Nat.add_zero, rI_hold, rI_hold, rL_hold, hk, hk1, he67, he70]; exact congrArg nI (by omega))) ?_
  refine Bod.ildnG dc_333_73 (by repeat (first | exact q1 | exact sm_get_p1 | exact sm_get_p2e | refine sm_get_p1m (by decide) (by decide) ?_ | refine sm_get_p1n (by decide) rfl ?_ | refine sm_get_p2n (by decide) (by decide) rfl ?_)) ?_
  refine Bod.icF dc_333_74 rfl (k2_ne_F (k_eq e70 la rfl rfl (by omega))) ?_
  refine Bod.aldnG dc_333_77 (by repeat (first | exact q0 | exact sm_get_p1 | exact sm_get_p2e | refine sm_get_p1m (by decide) (by decide) ?_ | refine sm_get_p1n (by decide) rfl ?_ | refine sm_get_p2n (by decide) (by decide) rfl ?_)) ?_
  refine Bod.ic 1 (by decide) dc_333_78 ?_
  refine Bod.virt (r := []) dc_333_79 kr_333_312 ⟨Or.inl rfl, ow_309, cl_14⟩ (by rw [np_309]; rfl) (by rw [np_309]; rfl) (ob_of (mk_61 _)) (Nat.le_of_ble_eq_true rfl) (c4  ) ?_
  show Bod _ _ _ _ [_] _ _ _
  refine Bod.ifT dc_333_82 rfl (k1_eq_T (k_eq 0 0 rfl rfl (by omega))) ?_
  refine Bod.ic 0 (by decide) dc_333_89 ?_
  refine Bod.istn dc_333_90 (by rw [ml_333]; exact Nat.le_of_ble_eq_true rfl) ?_
  refine Bod.aldnG dc_333_91 (by repeat (first | exact q0 | exact sm_get_p1 | exact sm_get_p2e | refine sm_get_p1m (by decide) (by decide) ?_ | refine sm_get_p1n (by decide) rfl ?_ | refine sm_get_p2n (by decide) (by decide) rfl ?_)) ?_
  refine Bod.get dc_333_92 fr_333_129 (mk_61 _) rfl ?_
  refine Bod.aldnG dc_333_95 (by repeat (first | exact q0 | exact sm_get_p1 | exact sm_get_p2e | refine sm_get_p1m (by decide) (by decide) ?_ | refine sm_get_p1n (by decide) rfl ?_ | refine sm_get_p2n (by decide) (by decide) rfl ?_)) ?_
  refine Bod.get dc_333_96 fr_333_190 (mk_61 _) rfl ?_
  refine Bod.eqI (nI k2) (by first | (simp (disch := omega) only [rI, rIe, rA, rIA, rLA, rJA, rVI, rQI, rVA, rQA, upd_at,  rAI, rLI, rJI, nI_add, pk_sub, kc_0, kc_1, kc_2, kc_3, kc_4, kc_5, reduceIte, Nat.reduceEqDiff, Nat.add_zero, rI_hold, rI_hold, rL_hold, hk, hk1, he67, he70, hk2]; done) | (simp (disch := omega) only [rI, rIe, rA, rIA, rLA, rJA, rVI, rQI, rVA, rQA, upd_at,  rAI, rLI, rJI, nI_add, pk_sub, kc_0, kc_1, kc_2, kc_3, kc_4, kc_5, reduceIte, Nat.reduceEqDiff, Nat.add_zero, rI_hold, rI_hold, rL_hold, hk, hk1, he67, he70, hk2]; exact congrArg nI (by omega))) ?_
  refine Bod.ialdN k2 rfl (by omega) (by omega) dc_333_99 (mk_67 _) ?_
  refine Bod.eqI (nI e671) (by first | (simp (disch := omega) only [rI, rIe, rA, rIA, rLA, rJA, rVI, rQI, rVA, rQA, upd_at,  rAI, rLI, rJI, nI_add, pk_sub, kc_0, kc_1, kc_2, kc_3, kc_4, kc_5, reduceIte, Nat.reduceEqDiff, Nat.add_zero, rI_hold, rI_hold, rL_hold, hk, hk1, he67, he70, hk2, he671]; done) | (simp (disch := omega) only [rI, rIe, rA, rIA, rLA, rJA, rVI, rQI, rVA, rQA, upd_at,  rAI, rLI, rJI, nI_add, pk_sub, kc_0, kc_1, kc_2, kc_3, kc_4, kc_5, reduceIte, Nat.reduceEqDiff, Nat.add_zero, rI_hold, rI_hold, rL_hold, hk, hk1, he67, he70, hk2, he671]; exact congrArg nI (by omega))) ?_
  refine Bod.bip 7 (by decide) dc_333_100 ?_
  refine Bod.icF dc_333_102 rfl (k2_eq_F (k_ne e671 7 rfl rfl (by omega) (by omega) (by omega))) ?_
  refine Bod.aldnG dc_333_105 (by repeat (first | exact q0 | exact sm_get_p1 | exact sm_get_p2e | refine sm_get_p1m (by decide) (by decide) ?_ | refine sm_get_p1n (by decide) rfl ?_ | refine sm_get_p2n (by decide) (by decide) rfl ?_)) ?_
  refine Bod.get dc_333_106 fr_333_141 (mk_61 _) rfl ?_
  refine Bod.aldnG dc_333_109 (by repeat (first | exact q0 | exact sm_get_p1 | exact sm_get_p2e | refine sm_get_p1m (by decide) (by decide) ?_ | refine sm_get_p1n (by decide) rfl ?_ | refine sm_get_p2n (by decide) (by decide) rfl ?_)) ?_
  refine Bod.get dc_333_110 fr_333_190 (mk_61 _) rfl ?_
  refine Bod.eqI (nI k2) (by first | (simp (disch := omega) only [rI, rIe, rA, rIA, rLA, rJA, rVI, rQI, rVA, rQA, upd_at,  rAI, rLI, rJI, nI_add, pk_sub, kc_0, kc_1, kc_2, kc_3, kc_4, kc_5, reduceIte, Nat.reduceEqDiff, Nat.add_zero, rI_hold, rI_hold, rL_hold, hk, hk1, he67, he70, hk2, he671]; done) | (simp (disch := omega) only [rI, rIe, rA, rIA, rLA, rJA, rVI, rQI, rVA, rQA, upd_at,  rAI, rLI, rJI, nI_add, pk_sub, kc_0, kc_1, kc_2, kc_3, kc_4, kc_5, reduceIte, Nat.reduceEqDiff, Nat.add_zero, rI_hold, rI_hold, rL_hold, hk, hk1, he67, he70, hk2, he671]; exact congrArg nI (by omega))) ?_
  refine Bod.ialdN k2 rfl (by omega) (by omega) dc_333_113 (mk_70 _) ?_
  refine Bod.eqI (nI e701) (by first | (simp (disch := omega) only [rI, rIe, rA, rIA, rLA, rJA, rVI, rQI, rVA, rQA, upd_at,  rAI, rLI, rJI, nI_add, pk_sub, kc_0, kc_1, kc_2, kc_3, kc_4, kc_5, reduceIte, Nat.reduceEqDiff, Nat.add_zero, rI_hold, rI_hold, rL_hold, hk, hk1, he67, he70, hk2, he671, he701]; done) | (simp (disch := omega) only [rI, rIe, rA, rIA, rLA, rJA, rVI, rQI, rVA, rQA, upd_at,  rAI, rLI, rJI, nI_add, pk_sub, kc_0, kc_1, kc_2, kc_3, kc_4, kc_5, reduceIte, Nat.reduceEqDiff, Nat.add_zero, rI_hold, rI_hold, rL_hold, hk, hk1, he67, he70, hk2, he671, he701]; exact congrArg nI (by omega))) ?_
  refine Bod.ildnG dc_333_114 (by repeat (first | exact q1 | exact sm_get_p1 | exact sm_get_p2e | refine sm_get_p1m (by decide) (by decide) ?_ | refine sm_get_p1n (by decide) rfl ?_ | refine sm_get_p2n (by decide) (by decide) rfl ?_)) ?_
  refine Bod.icT dc_333_115 rfl (k2_ne_T (k_ne e701 la rfl rfl (by omega) (by omega) (by omega))) ?_
  refine Bod.ic 0 (by decide) dc_333_130 ?_
  refine Bod.ist dc_333_131 (by rw [ml_333]; exact Nat.le_of_ble_eq_true rfl) ?_
  refine Bod.ildnG dc_333_133 (by repeat (first | exact q0 | exact sm_get_p1 | exact sm_get_p2e | refine sm_get_p1m (by decide) (by decide) ?_ | refine sm_get_p1n (by decide) rfl ?_ | refine sm_get_p2n (by decide) (by decide) rfl ?_)) ?_
  refine Bod.ifF dc_333_134 rfl (k1_ne_F (k_eq 0 0 rfl rfl (by omega))) ?_
  refine Bod.ildG dc_333_137 (by repeat (first | exact q0 | exact sm_get_p1 | exact sm_get_p2e | refine sm_get_p1m (by decide) (by decide) ?_ | refine sm_get_p1n (by decide) rfl ?_ | refine sm_get_p2n (by decide) (by decide) rfl ?_)) ?_
  refine Bod.ifT dc_333_139 rfl (k1_eq_T (k_eq 0 0 rfl rfl (by omega))) ?_
  refine Bod.aldnG dc_333_167 (by repeat (first | exact q0 | exact sm_get_p1 | exact sm_get_p2e | refine sm_get_p1m (by decide) (by decide) ?_ | refine sm_get_p1n (by decide) rfl ?_ | refine sm_get_p2n (by decide) (by decide) rfl ?_)) ?_
  refine Bod.ildG dc_333_168 (by repeat (first | exact q0 | exact sm_get_p1 | exact sm_get_p2e | refine sm_get_p1m (by decide) (by decide) ?_ | refine sm_get_p1n (by decide) rfl ?_ | refine sm_get_p2n (by decide) (by decide) rfl ?_)) ?_
  refine Bod.virt (r := []) dc_333_170 kr_333_317 ⟨Or.inl rfl, ow_326, cl_14⟩ (by rw [np_326]; rfl) (by rw [np_326]; rfl) (ob_of (mk_61 _)) (Nat.le_of_ble_eq_true rfl) (c5  ) ?_
  show Bod _ _ _ _ [] _ _ _
  refine Bod.ildG dc_333_173 (by repeat (first | exact q0 | exact sm_get_p1 | exact sm_get_p2e | refine sm_get_p1m (by decide) (by decide) ?_ | refine sm_get_p1n (by decide) rfl ?_ | refine sm_get_p2n (by decide) (by decide) rfl ?_)) ?_
  refine Bod.ifF dc_333_175 rfl (k1_ne_F (k_eq 0 0 rfl rfl (by omega))) ?_
  refine Bod.go dc_333_178 rfl ?_
  exact hB _ (by repeat (first | exact q0 | exact sm_get_p1 | exact sm_get_p2e | refine sm_get_p1m (by decide) (by decide) ?_ | refine sm_get_p1n (by decide) rfl ?_ | refine sm_get_p2n (by decide) (by decide) rfl ?_)) (by repeat (first | exact q1 | exact sm_get_p1 | exact sm_get_p2e | refine sm_get_p1m (by decide) (by decide) ?_ | refine sm_get_p1n (by decide) rfl ?_ | refine sm_get_p2n (by decide) (by decide) rfl ?_)) (by repeat (first | exact q2 | exact sm_get_p1 | exact sm_get_p2e | refine sm_get_p1m (by decide) (by decide) ?_ | refine sm_get_p1n (by decide) rfl ?_ | refine sm_get_p2n (by decide) (by decide) rfl ?_)) (by repeat (first | exact q0 | exact sm_get_p1 | exact sm_get_p2e | refine sm_get_p1m (by decide) (by decide) ?_ | refine sm_get_p1n (by decide) rfl ?_ | refine sm_get_p2n (by decide) (by decide) rfl ?_))
theorem zChL_10 {d : Nat} {S Sf : cS} {v : Option Value} {lv : sm_L} {la : Nat} {le : Nat} {k : Nat} {S1 : cS} {S2 : cS} {a : Nat} {S3 : cS} {k1 : Nat} {e67 : Nat} {e70 : Nat} {S4 : cS} {k2 : Nat} {e671 : Nat} {e701 : Nat} {S5 : cS} {en : Nat} {S6 : cS} {a1 : Nat} {en1 : Nat} {S7 : cS} {k3 : Nat} {S8 : cS} (q0 : sm_get lv 0 = some (.ref 61)) (q1 : sm_get lv 1 = some (.int (nI la))) (q2 : sm_get lv 2 = some (.int (nI le))) (q3 : sm_get lv 3 = some (.int (nI 1))) (mla : la < 2 ^ 20) (mle : le < 2 ^ 20) (hk : sI S 6115 = nI k) (mk : k < 6001) (c1 : Ans (d + 8) 306 [.ref 61, .int (nI 0)] (wI 6115 (nI (k + 1)) S) (some (.int (nI 1))) S1) (ma : a < 2 ^ 20) (c2 : Ans (d + 8) 325 [.ref 61, .int (nI 12)] S1 (some (.int (nI a))) S2) (c3 : Ans (d + 8) 334 [.ref 61, .int (nI la), .int (nI 0)] S2 (some (.int (nI 1))) S3) (hk1 : sI S3 6115 = nI k1) (mk1 : k1 < 6001) (he67 : sA S3 67 k1 = nI e67) (me67 : e67 < 2 ^ 20) (b1 : e67 ≠ 7) (he70 : sA S3 70 k1 = nI e70) (me70 : e70 < 2 ^ 20) (b2 : e70 = la) (c4 : Ans (d + 8) 309 [.ref 61, .int (nI 1)] S3 (some (.int (nI 0))) S4) (hk2 : sI S4 6115 = nI k2) (mk2 : k2 < 6001) (he671 : sA S4 67 k2 = nI e671) (me671 : e671 < 2 ^ 20) (b3 : e671 ≠ 7) (he701 : sA S4 70 k2 = nI e701) (me701 : e701 < 2 ^ 20) (b4 : e701 = la) (c5 : Ans (d + 8) 309 [.ref 61, .int (nI 2)] S4 (some (.int (nI 1))) S5) (hen : sI S5 6134 = nI en) (men : en < 3000) (ma1 : a1 < 2 ^ 20) (c6 : Ans (d + 8) 325 [.ref 61, .int (nI 11)] S5 (some (.int (nI a1))) S6) (hen1 : sI (wA 81 en (nI a1) S6) 6134 = nI en1) (men1 : en1 < 3000) (c7 : Ans (d + 8) 326 [.ref 61, .int (nI a)] (wI 6134 (nI (en1 + 1)) (wA 81 en (nI a1) S6)) none S7) (hk3 : sI S7 6115 = nI k3) (mk3 : k3 < 6001) (c8 : Ans (d + 8) 334 [.ref 61, .int (nI la), .int (nI 0)] (wI 6115 (nI (k3 + 1)) S7) (some (.int (nI 1))) S8) (hB : ∀ lv1 : sm_L, sm_get lv1 0 = some (.ref 61) → sm_get lv1 1 = some (.int (nI la)) → sm_get lv1 2 = some (.int (nI le)) → sm_get lv1 3 = some (.int (nI 0)) → Bod (d + 8) 333 7 lv1 [] (S8) v Sf) : Bod (d + 8) 333 7 lv [] S v Sf := by
  refine Bod.ildnG dc_333_7 (by repeat (first | exact q3 | exact sm_get_p1 | exact sm_get_p2e | refine sm_get_p1m (by decide) (by decide) ?_ | refine sm_get_p1n (by decide) rfl ?_ | refine sm_get_p2n (by decide) (by decide) rfl ?_)) ?_
  refine Bod.ifF dc_333_8 rfl (k1_eq_F (k_ne 1 0 rfl rfl (by omega) (by omega) (by omega))) ?_
  refine Bod.aldnG dc_333_11 (by repeat (first | exact q0 | exact sm_get_p1 | exact sm_get_p2e | refine sm_get_p1m (by decide) (by decide) ?_ | refine sm_get_p1n (by decide) rfl ?_ | refine sm_get_p2n (by decide) (by decide) rfl ?_)) ?_
  refine Bod.go dc_333_12 rfl ?_
  refine Bod.get dc_333_13 fr_333_190 (mk_61 _) rfl ?_
  refine Bod.eqI (nI k) (by first | assumption | rfl | exact congrArg nI (by omega) | (simp (disch := omega) only [rI, rIe, rA, rIA, rLA, rJA, rVI, rQI, rVA, rQA, upd_at,  rAI, rLI, rJI, nI_add, pk_sub, kc_0, kc_1, kc_2, kc_3, kc_4, kc_5, reduceIte, Nat.reduceEqDiff, Nat.add_zero, rI_hold, rI_hold, rL_hold, hk]; done)) ?_
  refine Bod.ic 1 (by decide) dc_333_16 ?_
  refine Bod.addN (k + 1) (by omega) dc_333_17 ?_
  refine Bod.put dc_333_18 fr_333_190 (mk_61 _) (Nat.le_of_ble_eq_true rfl) pf_14_15 (st_6115 _ _) (mu_I _ _ _) ?_
  refine Bod.aldnG dc_333_21 (by repeat (first | exact q0 | exact sm_get_p1 | exact sm_get_p2e | refine sm_get_p1m (by decide) (by decide) ?_ | refine sm_get_p1n (by decide) rfl ?_ | refine sm_get_p2n (by decide) (by decide) rfl ?_)) ?_
  refine Bod.ic 0 (by decide) dc_333_22 ?_
  refine Bod.virt (r := []) dc_333_23 kr_333_302 ⟨Or.inl rfl, ow_306, cl_14⟩ (by rw [np_306]; rfl) (by rw [np_306]; rfl) (ob_of (mk_61 _)) (Nat.le_of_ble_eq_true rfl) (c1  ) ?_
  show Bod _ _ _ _ [_] _ _ _
  refine Bod.ifT dc_333_26 rfl (k1_ne_T (k_ne 1 0 rfl rfl (by omega) (by omega) (by omega))) ?_
  refine Bod.aldnG dc_333_31 (by repeat (first | exact q0 | exact sm_get_p1 | exact sm_get_p2e | refine sm_get_p1m (by decide) (by decide) ?_ | refine sm_get_p1n (by decide) rfl ?_ | refine sm_get_p2n (by decide) (by decide) rfl ?_)) ?_
  refine Bod.bip 12 (by decide) dc_333_32 ?_
  refine Bod.virt (r := []) dc_333_34 kr_333_305 ⟨Or.inl rfl, ow_325, cl_14⟩ (by rw [np_325]; rfl) (by rw [np_325]; rfl) (ob_of (mk_61 _)) (Nat.le_of_ble_eq_true rfl) (c2  ) ?_
  show Bod _ _ _ _ [_] _ _ _
  refine Bod.ist dc_333_37 (by rw [ml_333]; exact Nat.le_of_ble_eq_true rfl) ?_
  refine Bod.aldnG dc_333_39 (by repeat (first | exact q0 | exact sm_get_p1 | exact sm_get_p2e | refine sm_get_p1m (by decide) (by decide) ?_ | refine sm_get_p1n (by decide) rfl ?_ | refine sm_get_p2n (by decide) (by decide) rfl ?_)) ?_
  refine Bod.ildnG dc_333_40 (by repeat (first | exact q1 | exact sm_get_p1 | exact sm_get_p2e | refine sm_get_p1m (by decide) (by decide) ?_ | refine sm_get_p1n (by decide) rfl ?_ | refine sm_get_p2n (by decide) (by decide) rfl ?_)) ?_
  refine Bod.ic 0 (by decide) dc_333_41 ?_
  refine Bod.virt (r := []) dc_333_42 kr_333_309 ⟨Or.inl rfl, ow_334, cl_14⟩ (by rw [np_334]; rfl) (by rw [np_334]; rfl) (ob_of (mk_61 _)) (Nat.le_of_ble_eq_true rfl) (c3  ) ?_
  show Bod _ _ _ _ [_] _ _ _
  refine Bod.ifT dc_333_45 rfl (k1_ne_T (k_ne 1 0 rfl rfl (by omega) (by omega) (by omega))) ?_
  refine Bod.aldnG dc_333_50 (by repeat (first | exact q0 | exact sm_get_p1 | exact sm_get_p2e | refine sm_get_p1m (by decide) (by decide) ?_ | refine sm_get_p1n (by decide) rfl ?_ | refine sm_get_p2n (by decide) (by decide) rfl ?_)) ?_
  refine Bod.get dc_333_51 fr_333_129 (mk_61 _) rfl ?_
  refine Bod.aldnG dc_333_54 (by repeat (first | exact q0 | exact sm_get_p1 | exact sm_get_p2e | refine sm_get_p1m (by decide) (by decide) ?_ | refine sm_get_p1n (by decide) rfl ?_ | refine sm_get_p2n (by decide) (by decide) rfl ?_)) ?_
  refine Bod.get dc_333_55 fr_333_190 (mk_61 _) rfl ?_
  refine Bod.eqI (nI k1) (by first | (simp (disch := omega) only [rI, rIe, rA, rIA, rLA, rJA, rVI, rQI, rVA, rQA, upd_at,  rAI, rLI, rJI, nI_add, pk_sub, kc_0, kc_1, kc_2, kc_3, kc_4, kc_5, reduceIte, Nat.reduceEqDiff, Nat.add_zero, rI_hold, rI_hold, rL_hold, hk, hk1]; done) | (simp (disch := omega) only [rI, rIe, rA, rIA, rLA, rJA, rVI, rQI, rVA, rQA, upd_at,  rAI, rLI, rJI, nI_add, pk_sub, kc_0, kc_1, kc_2, kc_3, kc_4, kc_5, reduceIte, Nat.reduceEqDiff, Nat.add_zero, rI_hold, rI_hold, rL_hold, hk, hk1]; exact congrArg nI (by omega))) ?_
  refine Bod.ialdN k1 rfl (by omega) (by omega) dc_333_58 (mk_67 _) ?_
  refine Bod.eqI (nI e67) (by first | (simp (disch := omega) only [rI, rIe, rA, rIA, rLA, rJA, rVI, rQI, rVA, rQA, upd_at,  rAI, rLI, rJI, nI_add, pk_sub, kc_0, kc_1, kc_2, kc_3, kc_4, kc_5, reduceIte, Nat.reduceEqDiff, Nat.add_zero, rI_hold, rI_hold, rL_hold, hk, hk1, he67]; done) | (simp (disch := omega) only [rI, rIe, rA, rIA, rLA, rJA, rVI, rQI, rVA, rQA, upd_at,  rAI, rLI, rJI, nI_add, pk_sub, kc_0, kc_1, kc_2, kc_3, kc_4, kc_5, reduceIte, Nat.reduceEqDiff, Nat.add_zero, rI_hold, rI_hold, rL_hold, hk, hk1, he67]; exact congrArg nI (by omega))) ?_
  refine Bod.bip 7 (by decide) dc_333_59 ?_
  refine Bod.icF dc_333_61 rfl (k2_eq_F (k_ne e67 7 rfl rfl (by omega) (by omega) (by omega))) ?_
  refine Bod.aldnG dc_333_64 (by repeat (first | exact q0 | exact sm_get_p1 | exact sm_get_p2e | refine sm_get_p1m (by decide) (by decide) ?_ | refine sm_get_p1n (by decide) rfl ?_ | refine sm_get_p2n (by decide) (by decide) rfl ?_)) ?_
  refine Bod.get dc_333_65 fr_333_141 (mk_61 _) rfl ?_
  refine Bod.aldnG dc_333_68 (by repeat (first | exact q0 | exact sm_get_p1 | exact sm_get_p2e | refine sm_get_p1m (by decide) (by decide) ?_ | refine sm_get_p1n (by decide) rfl ?_ | refine sm_get_p2n (by decide) (by decide) rfl ?_)) ?_
  refine Bod.get dc_333_69 fr_333_190 (mk_61 _) rfl ?_
  refine Bod.eqI (nI k1) (by first | (simp (disch := omega) only [rI, rIe, rA, rIA, rLA, rJA, rVI, rQI, rVA, rQA, upd_at,  rAI, rLI, rJI, nI_add, pk_sub, kc_0, kc_1, kc_2, kc_3, kc_4, kc_5, reduceIte, Nat.reduceEqDiff, Nat.add_zero, rI_hold, rI_hold, rL_hold, hk, hk1, he67]; done) | (simp (disch := omega) only [rI, rIe, rA, rIA, rLA, rJA, rVI, rQI, rVA, rQA, upd_at,  rAI, rLI, rJI, nI_add, pk_sub, kc_0, kc_1, kc_2, kc_3, kc_4, kc_5, reduceIte, Nat.reduceEqDiff, Nat.add_zero, rI_hold, rI_hold, rL_hold, hk, hk1, he67]; exact congrArg nI (by omega))) ?_
  refine Bod.ialdN k1 rfl (by omega) (by omega) dc_333_72 (mk_70 _) ?_
  refine Bod.eqI (nI e70) (by first | (simp (disch := omega) only [rI, rIe, rA, rIA, rLA, rJA, rVI, rQI, rVA, rQA, upd_at,  rAI, rLI, rJI, nI_add, pk_sub, kc_0, kc_1, kc_2, kc_3, kc_4, kc_5, reduceIte, Nat.reduceEqDiff, Nat.add_zero, rI_hold, rI_hold, rL_hold, hk, hk1, he67, he70]; done) | (simp (disch := omega) only [rI, rIe, rA, rIA, rLA, rJA, rVI, rQI, rVA, rQA, upd_at,  rAI, rLI, rJI, nI_add, pk_sub, kc_0, kc_1, kc_2, kc_3, kc_4, kc_5, reduceIte, Nat.reduceEqDiff, Nat.add_zero, rI_hold, rI_hold, rL_hold, hk, hk1, he67, he70]; exact congrArg nI (by omega))) ?_
  refine Bod.ildnG dc_333_73 (by repeat (first | exact q1 | exact sm_get_p1 | exact sm_get_p2e | refine sm_get_p1m (by decide) (by decide) ?_ | refine sm_get_p1n (by decide) rfl ?_ | refine sm_get_p2n (by decide) (by decide) rfl ?_)) ?_
  refine Bod.icF dc_333_74 rfl (k2_ne_F (k_eq e70 la rfl rfl (by omega))) ?_
  refine Bod.aldnG dc_333_77 (by repeat (first | exact q0 | exact sm_get_p1 | exact sm_get_p2e | refine sm_get_p1m (by decide) (by decide) ?_ | refine sm_get_p1n (by decide) rfl ?_ | refine sm_get_p2n (by decide) (by decide) rfl ?_)) ?_
  refine Bod.ic 1 (by decide) dc_333_78 ?_
  refine Bod.virt (r := []) dc_333_79 kr_333_312 ⟨Or.inl rfl, ow_309, cl_14⟩ (by rw [np_309]; rfl) (by rw [np_309]; rfl) (ob_of (mk_61 _)) (Nat.le_of_ble_eq_true rfl) (c4  ) ?_
  show Bod _ _ _ _ [_] _ _ _
  refine Bod.ifT dc_333_82 rfl (k1_eq_T (k_eq 0 0 rfl rfl (by omega))) ?_
  refine Bod.ic 0 (by decide) dc_333_89 ?_
  refine Bod.istn dc_333_90 (by rw [ml_333]; exact Nat.le_of_ble_eq_true rfl) ?_
  refine Bod.aldnG dc_333_91 (by repeat (first | exact q0 | exact sm_get_p1 | exact sm_get_p2e | refine sm_get_p1m (by decide) (by decide) ?_ | refine sm_get_p1n (by decide) rfl ?_ | refine sm_get_p2n (by decide) (by decide) rfl ?_)) ?_
  refine Bod.get dc_333_92 fr_333_129 (mk_61 _) rfl ?_
  refine Bod.aldnG dc_333_95 (by repeat (first | exact q0 | exact sm_get_p1 | exact sm_get_p2e | refine sm_get_p1m (by decide) (by decide) ?_ | refine sm_get_p1n (by decide) rfl ?_ | refine sm_get_p2n (by decide) (by decide) rfl ?_)) ?_
  refine Bod.get dc_333_96 fr_333_190 (mk_61 _) rfl ?_
  refine Bod.eqI (nI k2) (by first | (simp (disch := omega) only [rI, rIe, rA, rIA, rLA, rJA, rVI, rQI, rVA, rQA, upd_at,  rAI, rLI, rJI, nI_add, pk_sub, kc_0, kc_1, kc_2, kc_3, kc_4, kc_5, reduceIte, Nat.reduceEqDiff, Nat.add_zero, rI_hold, rI_hold, rL_hold, hk, hk1, he67, he70, hk2]; done) | (simp (disch := omega) only [rI, rIe, rA, rIA, rLA, rJA, rVI, rQI, rVA, rQA, upd_at,  rAI, rLI, rJI, nI_add, pk_sub, kc_0, kc_1, kc_2, kc_3, kc_4, kc_5, reduceIte, Nat.reduceEqDiff, Nat.add_zero, rI_hold, rI_hold, rL_hold, hk, hk1, he67, he70, hk2]; exact congrArg nI (by omega))) ?_
  refine Bod.ialdN k2 rfl (by omega) (by omega) dc_333_99 (mk_67 _) ?_
  refine Bod.eqI (nI e671) (by first | (simp (disch := omega) only [rI, rIe, rA, rIA, rLA, rJA, rVI, rQI, rVA, rQA, upd_at,  rAI, rLI, rJI, nI_add, pk_sub, kc_0, kc_1, kc_2, kc_3, kc_4, kc_5, reduceIte, Nat.reduceEqDiff, Nat.add_zero, rI_hold, rI_hold, rL_hold, hk, hk1, he67, he70, hk2, he671]; done) | (simp (disch := omega) only [rI, rIe, rA, rIA, rLA, rJA, rVI, rQI, rVA, rQA, upd_at,  rAI, rLI, rJI, nI_add, pk_sub, kc_0, kc_1, kc_2, kc_3, kc_4, kc_5, reduceIte, Nat.reduceEqDiff, Nat.add_zero, rI_hold, rI_hold, rL_hold, hk, hk1, he67, he70, hk2, he671]; exact congrArg nI (by omega))) ?_
  refine Bod.bip 7 (by decide) dc_333_100 ?_
  refine Bod.icF dc_333_102 rfl (k2_eq_F (k_ne e671 7 rfl rfl (by omega) (by omega) (by omega))) ?_
  refine Bod.aldnG dc_333_105 (by repeat (first | exact q0 | exact sm_get_p1 | exact sm_get_p2e | refine sm_get_p1m (by decide) (by decide) ?_ | refine sm_get_p1n (by decide) rfl ?_ | refine sm_get_p2n (by decide) (by decide) rfl ?_)) ?_
  refine Bod.get dc_333_106 fr_333_141 (mk_61 _) rfl ?_
  refine Bod.aldnG dc_333_109 (by repeat (first | exact q0 | exact sm_get_p1 | exact sm_get_p2e | refine sm_get_p1m (by decide) (by decide) ?_ | refine sm_get_p1n (by decide) rfl ?_ | refine sm_get_p2n (by decide) (by decide) rfl ?_)) ?_
  refine Bod.get dc_333_110 fr_333_190 (mk_61 _) rfl ?_
  refine Bod.eqI (nI k2) (by first | (simp (disch := omega) only [rI, rIe, rA, rIA, rLA, rJA, rVI, rQI, rVA, rQA, upd_at,  rAI, rLI, rJI, nI_add, pk_sub, kc_0, kc_1, kc_2, kc_3, kc_4, kc_5, reduceIte, Nat.reduceEqDiff, Nat.add_zero, rI_hold, rI_hold, rL_hold, hk, hk1, he67, he70, hk2, he671]; done) | (simp (disch := omega) only [rI, rIe, rA, rIA, rLA, rJA, rVI, rQI, rVA, rQA, upd_at,  rAI, rLI, rJI, nI_add, pk_sub, kc_0, kc_1, kc_2, kc_3, kc_4, kc_5, reduceIte, Nat.reduceEqDiff, Nat.add_zero, rI_hold, rI_hold, rL_hold, hk, hk1, he67, he70, hk2, he671]; exact congrArg nI (by omega))) ?_
  refine Bod.ialdN k2 rfl (by omega) (by omega) dc_333_113 (mk_70 _) ?_
  refine Bod.eqI (nI e701) (by first | (simp (disch := omega) only [rI, rIe, rA, rIA, rLA, rJA, rVI, rQI, rVA, rQA, upd_at,  rAI, rLI, rJI, nI_add, pk_sub, kc_0, kc_1, kc_2, kc_3, kc_4, kc_5, reduceIte, Nat.reduceEqDiff, Nat.add_zero, rI_hold, rI_hold, rL_hold, hk, hk1, he67, he70, hk2, he671, he701]; done) | (simp (disch := omega) only [rI, rIe, rA, rIA, rLA, rJA, rVI, rQI, rVA, rQA, upd_at,  rAI, rLI, rJI, nI_add, pk_sub, kc_0, kc_1, kc_2, kc_3, kc_4, kc_5, reduceIte, Nat.reduceEqDiff, Nat.add_zero, rI_hold, rI_hold, rL_hold, hk, hk1, he67, he70, hk2, he671, he701]; exact congrArg nI (by omega))) ?_
  refine Bod.ildnG dc_333_114 (by repeat (first | exact q1 | exact sm_get_p1 | exact sm_get_p2e | refine sm_get_p1m (by decide) (by decide) ?_ | refine sm_get_p1n (by decide) rfl ?_ | refine sm_get_p2n (by decide) (by decide) rfl ?_)) ?_
  refine Bod.icF dc_333_115 rfl (k2_ne_F (k_eq e701 la rfl rfl (by omega))) ?_
  refine Bod.aldnG dc_333_118 (by repeat (first | exact q0 | exact sm_get_p1 | exact sm_get_p2e | refine sm_get_p1m (by decide) (by decide) ?_ | refine sm_get_p1n (by decide) rfl ?_ | refine sm_get_p2n (by decide) (by decide) rfl ?_)) ?_
  refine Bod.ic 2 (by decide) dc_333_119 ?_
  refine Bod.virt (r := []) dc_333_120 kr_333_312 ⟨Or.inl rfl, ow_309, cl_14⟩ (by rw [np_309]; rfl) (by rw [np_309]; rfl) (ob_of (mk_61 _)) (Nat.le_of_ble_eq_true rfl) (c5  ) ?_
  show Bod _ _ _ _ [_] _ _ _
  refine Bod.ifF dc_333_123 rfl (k1_eq_F (k_ne 1 0 rfl rfl (by omega) (by omega) (by omega))) ?_
  refine Bod.ic 1 (by decide) dc_333_126 ?_
  refine Bod.go dc_333_127 rfl ?_
  refine Bod.ist dc_333_131 (by rw [ml_333]; exact Nat.le_of_ble_eq_true rfl) ?_
  refine Bod.ildnG dc_333_133 (by repeat (first | exact q0 | exact sm_get_p1 | exact sm_get_p2e | refine sm_get_p1m (by decide) (by decide) ?_ | refine sm_get_p1n (by decide) rfl ?_ | refine sm_get_p2n (by decide) (by decide) rfl ?_)) ?_
  refine Bod.ifF dc_333_134 rfl (k1_ne_F (k_eq 0 0 rfl rfl (by omega))) ?_
  refine Bod.ildG dc_333_137 (by repeat (first | exact q0 | exact sm_get_p1 | exact sm_get_p2e | refine sm_get_p1m (by decide) (by decide) ?_ | refine sm_get_p1n (by decide) rfl ?_ | refine sm_get_p2n (by decide) (by decide) rfl ?_)) ?_
  refine Bod.ifF dc_333_139 rfl (k1_eq_F (k_ne 1 0 rfl rfl (by omega) (by omega) (by omega))) ?_
  refine Bod.aldnG dc_333_142 (by repeat (first | exact q0 | exact sm_get_p1 | exact sm_get_p2e | refine sm_get_p1m (by decide) (by decide) ?_ | refine sm_get_p1n (by decide) rfl ?_ | refine sm_get_p2n (by decide) (by decide) rfl ?_)) ?_
  refine Bod.get dc_333_143 fr_333_314 (mk_61 _) rfl ?_
  refine Bod.aldnG dc_333_146 (by repeat (first | exact q0 | exact sm_get_p1 | exact sm_get_p2e | refine sm_get_p1m (by decide) (by decide) ?_ | refine sm_get_p1n (by decide) rfl ?_ | refine sm_get_p2n (by decide) (by decide) rfl ?_)) ?_
  refine Bod.get dc_333_147 fr_333_251 (mk_61 _) rfl ?_
  refine Bod.eqI (nI en) (by first | (simp (disch := omega) only [rI, rIe, rA, rIA, rLA, rJA, rVI, rQI, rVA, rQA, upd_at,  rAI, rLI, rJI, nI_add, pk_sub, kc_0, kc_1, kc_2, kc_3, kc_4, kc_5, reduceIte, Nat.reduceEqDiff, Nat.add_zero, rI_hold, rI_hold, rL_hold, hk, hk1, he67, he70, hk2, he671, he701, hen]; done) | (simp (disch := omega) only [rI, rIe, rA, rIA, rLA, rJA, rVI, rQI, rVA, rQA, upd_at,  rAI, rLI, rJI, nI_add, pk_sub, kc_0, kc_1, kc_2, kc_3, kc_4, kc_5, reduceIte, Nat.reduceEqDiff, Nat.add_zero, rI_hold, rI_hold, rL_hold, hk, hk1, he67, he70, hk2, he671, he701, hen]; exact congrArg nI (by omega))) ?_
  refine Bod.aldnG dc_333_150 (by repeat (first | exact q0 | exact sm_get_p1 | exact sm_get_p2e | refine sm_get_p1m (by decide) (by decide) ?_ | refine sm_get_p1n (by decide) rfl ?_ | refine sm_get_p2n (by decide) (by decide) rfl ?_)) ?_
  refine Bod.bip 11 (by decide) dc_333_151 ?_
  refine Bod.virt (r := [_, _]) dc_333_153 kr_333_305 ⟨Or.inl rfl, ow_325, cl_14⟩ (by rw [np_325]; rfl) (by rw [np_325]; rfl) (ob_of (mk_61 _)) (Nat.le_of_ble_eq_true rfl) (c6  ) ?_
  show Bod _ _ _ _ [_, _, _] _ _ _
  refine Bod.iastN en rfl (by omega) (by omega) dc_333_156 (mk_81 _) (sa_81 _ _ _) (mu_A _ _ _ _) ?_
  refine Bod.aldnG dc_333_157 (by repeat (first | exact q0 | exact sm_get_p1 | exact sm_get_p2e | refine sm_get_p1m (by decide) (by decide) ?_ | refine sm_get_p1n (by decide) rfl ?_ | refine sm_get_p2n (by decide) (by decide) rfl ?_)) ?_
  refine Bod.go dc_333_158 rfl ?_
  refine Bod.get dc_333_159 fr_333_251 (mk_61 _) rfl ?_
  refine Bod.eqI (nI en1) (by first | (simp (disch := omega) only [rI, rIe, rA, rIA, rLA, rJA, rVI, rQI, rVA, rQA, upd_at,  rAI, rLI, rJI, nI_add, pk_sub, kc_0, kc_1, kc_2, kc_3, kc_4, kc_5, reduceIte, Nat.reduceEqDiff, Nat.add_zero, rI_hold, rI_hold, rL_hold, hk, hk1, he67, he70, hk2, he671, he701, hen, hen1]; done) | (simp (disch := omega) only [rI, rIe, rA, rIA, rLA, rJA, rVI, rQI, rVA, rQA, upd_at,  rAI, rLI, rJI, nI_add, pk_sub, kc_0, kc_1, kc_2, kc_3, kc_4, kc_5, reduceIte, Nat.reduceEqDiff, Nat.add_zero, rI_hold, rI_hold, rL_hold, hk, hk1, he67, he70, hk2, he671, he701, hen, hen1]; exact congrArg nI (by omega))) ?_
  refine Bod.ic 1 (by decide) dc_333_162 ?_
  refine Bod.addN (en1 + 1) (by omega) dc_333_163 ?_
  refine Bod.put dc_333_164 fr_333_251 (mk_61 _) (Nat.le_of_ble_eq_true rfl) pf_14_34 (st_6134 _ _) (mu_I _ _ _) ?_
  refine Bod.aldnG dc_333_167 (by repeat (first | exact q0 | exact sm_get_p1 | exact sm_get_p2e | refine sm_get_p1m (by decide) (by decide) ?_ | refine sm_get_p1n (by decide) rfl ?_ | refine sm_get_p2n (by decide) (by decide) rfl ?_)) ?_
  refine Bod.ildG dc_333_168 (by repeat (first | exact q0 | exact sm_get_p1 | exact sm_get_p2e | refine sm_get_p1m (by decide) (by decide) ?_ | refine sm_get_p1n (by decide) rfl ?_ | refine sm_get_p2n (by decide) (by decide) rfl ?_)) ?_
  refine Bod.virt (r := []) dc_333_170 kr_333_317 ⟨Or.inl rfl, ow_326, cl_14⟩ (by rw [np_326]; rfl) (by rw [np_326]; rfl) (ob_of (mk_61 _)) (Nat.le_of_ble_eq_true rfl) (c7  ) ?_
  show Bod _ _ _ _ [] _ _ _
  refine Bod.ildG dc_333_173 (by repeat (first | exact q0 | exact sm_get_p1 | exact sm_get_p2e | refine sm_get_p1m (by decide) (by decide) ?_ | refine sm_get_p1n (by decide) rfl ?_ | refine sm_get_p2n (by decide) (by decide) rfl ?_)) ?_
  refine Bod.ifT dc_333_175 rfl (k1_ne_T (k_ne 1 0 rfl rfl (by omega) (by omega) (by omega))) ?_
  refine Bod.aldnG dc_333_181 (by repeat (first | exact q0 | exact sm_get_p1 | exact sm_get_p2e | refine sm_get_p1m (by decide) (by decide) ?_ | refine sm_get_p1n (by decide) rfl ?_ | refine sm_get_p2n (by decide) (by decide) rfl ?_)) ?_
  refine Bod.go dc_333_182 rfl ?_
  refine Bod.get dc_333_183 fr_333_190 (mk_61 _) rfl ?_
  refine Bod.eqI (nI k3) (by first | (simp (disch := omega) only [rI, rIe, rA, rIA, rLA, rJA, rVI, rQI, rVA, rQA, upd_at,  rAI, rLI, rJI, nI_add, pk_sub, kc_0, kc_1, kc_2, kc_3, kc_4, kc_5, reduceIte, Nat.reduceEqDiff, Nat.add_zero, rI_hold, rI_hold, rL_hold, hk, hk1, he67, he70, hk2, he671, he701, hen, hen1, hk3]; done) | (simp (disch := omega) only [rI, rIe, rA, rIA, rLA, rJA, rVI, rQI, rVA, rQA, upd_at,  rAI, rLI, rJI, nI_add, pk_sub, kc_0, kc_1, kc_2, kc_3, kc_4, kc_5, reduceIte, Nat.reduceEqDiff, Nat.add_zero, rI_hold, rI_hold, rL_hold, hk, hk1, he67, he70, hk2, he671, he701, hen, hen1, hk3]; exact congrArg nI (by omega))) ?_
  refine Bod.ic 1 (by decide) dc_333_186 ?_
  refine Bod.addN (k3 + 1) (by omega) dc_333_187 ?_
  refine Bod.put dc_333_188 fr_333_190 (mk_61 _) (Nat.le_of_ble_eq_true rfl) pf_14_15 (st_6115 _ _) (mu_I _ _ _) ?_
  refine Bod.aldnG dc_333_191 (by repeat (first | exact q0 | exact sm_get_p1 | exact sm_get_p2e | refine sm_get_p1m (by decide) (by decide) ?_ | refine sm_get_p1n (by decide) rfl ?_ | refine sm_get_p2n (by decide) (by decide) rfl ?_)) ?_
  refine Bod.ildnG dc_333_192 (by repeat (first | exact q1 | exact sm_get_p1 | exact sm_get_p2e | refine sm_get_p1m (by decide) (by decide) ?_ | refine sm_get_p1n (by decide) rfl ?_ | refine sm_get_p2n (by decide) (by decide) rfl ?_)) ?_
  refine Bod.ic 0 (by decide) dc_333_193 ?_
  refine Bod.virt (r := []) dc_333_194 kr_333_309 ⟨Or.inl rfl, ow_334, cl_14⟩ (by rw [np_334]; rfl) (by rw [np_334]; rfl) (ob_of (mk_61 _)) (Nat.le_of_ble_eq_true rfl) (c8  ) ?_
  show Bod _ _ _ _ [_] _ _ _
  refine Bod.ifT dc_333_197 rfl (k1_ne_T (k_ne 1 0 rfl rfl (by omega) (by omega) (by omega))) ?_
  refine Bod.go dc_333_202 rfl ?_
  exact hB _ (by repeat (first | exact q0 | exact sm_get_p1 | exact sm_get_p2e | refine sm_get_p1m (by decide) (by decide) ?_ | refine sm_get_p1n (by decide) rfl ?_ | refine sm_get_p2n (by decide) (by decide) rfl ?_)) (by repeat (first | exact q1 | exact sm_get_p1 | exact sm_get_p2e | refine sm_get_p1m (by decide) (by decide) ?_ | refine sm_get_p1n (by decide) rfl ?_ | refine sm_get_p2n (by decide) (by decide) rfl ?_)) (by repeat (first | exact q2 | exact sm_get_p1 | exact sm_get_p2e | refine sm_get_p1m (by decide) (by decide) ?_ | refine sm_get_p1n (by decide) rfl ?_ | refine sm_get_p2n (by decide) (by decide) rfl ?_)) (by repeat (first | exact q0 | exact sm_get_p1 | exact sm_get_p2e | refine sm_get_p1m (by decide) (by decide) ?_ | refine sm_get_p1n (by decide) rfl ?_ | refine sm_get_p2n (by decide) (by decide) rfl ?_))
theorem zChL_11 {d : Nat} {S : cS} {lv : sm_L} {la : Nat} {le : Nat} {k : Nat} {S1 : cS} {S2 : cS} {a : Nat} {S3 : cS} {k1 : Nat} {e67 : Nat} {e70 : Nat} {S4 : cS} {k2 : Nat} {e671 : Nat} {e701 : Nat} {S5 : cS} {en : Nat} {S6 : cS} {a1 : Nat} {en1 : Nat} {S7 : cS} {k3 : Nat} {S8 : cS} (q0 : sm_get lv 0 = some (.ref 61)) (q1 : sm_get lv 1 = some (.int (nI la))) (q2 : sm_get lv 2 = some (.int (nI le))) (q3 : sm_get lv 3 = some (.int (nI 1))) (mla : la < 2 ^ 20) (mle : le < 2 ^ 20) (hk : sI S 6115 = nI k) (mk : k < 6001) (c1 : Ans (d + 8) 306 [.ref 61, .int (nI 0)] (wI 6115 (nI (k + 1)) S) (some (.int (nI 1))) S1) (ma : a < 2 ^ 20) (c2 : Ans (d + 8) 325 [.ref 61, .int (nI 12)] S1 (some (.int (nI a))) S2) (c3 : Ans (d + 8) 334 [.ref 61, .int (nI la), .int (nI 0)] S2 (some (.int (nI 1))) S3) (hk1 : sI S3 6115 = nI k1) (mk1 : k1 < 6001) (he67 : sA S3 67 k1 = nI e67) (me67 : e67 < 2 ^ 20) (b1 : e67 ≠ 7) (he70 : sA S3 70 k1 = nI e70) (me70 : e70 < 2 ^ 20) (b2 : e70 = la) (c4 : Ans (d + 8) 309 [.ref 61, .int (nI 1)] S3 (some (.int (nI 0))) S4) (hk2 : sI S4 6115 = nI k2) (mk2 : k2 < 6001) (he671 : sA S4 67 k2 = nI e671) (me671 : e671 < 2 ^ 20) (b3 : e671 ≠ 7) (he701 : sA S4 70 k2 = nI e701) (me701 : e701 < 2 ^ 20) (b4 : e701 = la) (c5 : Ans (d + 8) 309 [.ref 61, .int (nI 2)] S4 (some (.int (nI 1))) S5) (hen : sI S5 6134 = nI en) (men : en < 3000) (ma1 : a1 < 2 ^ 20) (c6 : Ans (d + 8) 325 [.ref 61, .int (nI 11)] S5 (some (.int (nI a1))) S6) (hen1 : sI (wA 81 en (nI a1) S6) 6134 = nI en1) (men1 : en1 < 3000) (c7 : Ans (d + 8) 326 [.ref 61, .int (nI a)] (wI 6134 (nI (en1 + 1)) (wA 81 en (nI a1) S6)) none S7) (hk3 : sI S7 6115 = nI k3) (mk3 : k3 < 6001) (c8 : Ans (d + 8) 334 [.ref 61, .int (nI la), .int (nI 0)] (wI 6115 (nI (k3 + 1)) S7) (some (.int (nI 0))) S8) : Bod (d + 8) 333 7 lv [] S (some (.int 0)) (S8) := by
  refine Bod.ildnG dc_333_7 (by repeat (first | exact q3 | exact sm_get_p1 | exact sm_get_p2e | refine sm_get_p1m (by decide) (by decide) ?_ | refine sm_get_p1n (by decide) rfl ?_ | refine sm_get_p2n (by decide) (by decide) rfl ?_)) ?_
  refine Bod.ifF dc_333_8 rfl (k1_eq_F (k_ne 1 0 rfl rfl (by omega) (by omega) (by omega))) ?_
  refine Bod.aldnG dc_333_11 (by repeat (first | exact q0 | exact sm_get_p1 | exact sm_get_p2e | refine sm_get_p1m (by decide) (by decide) ?_ | refine sm_get_p1n (by decide) rfl ?_ | refine sm_get_p2n (by decide) (by decide) rfl ?_)) ?_
  refine Bod.go dc_333_12 rfl ?_
  refine Bod.get dc_333_13 fr_333_190 (mk_61 _) rfl ?_
  refine Bod.eqI (nI k) (by first | assumption | rfl | exact congrArg nI (by omega) | (simp (disch := omega) only [rI, rIe, rA, rIA, rLA, rJA, rVI, rQI, rVA, rQA, upd_at,  rAI, rLI, rJI, nI_add, pk_sub, kc_0, kc_1, kc_2, kc_3, kc_4, kc_5, reduceIte, Nat.reduceEqDiff, Nat.add_zero, rI_hold, rI_hold, rL_hold, hk]; done)) ?_
  refine Bod.ic 1 (by decide) dc_333_16 ?_
  refine Bod.addN (k + 1) (by omega) dc_333_17 ?_
  refine Bod.put dc_333_18 fr_333_190 (mk_61 _) (Nat.le_of_ble_eq_true rfl) pf_14_15 (st_6115 _ _) (mu_I _ _ _) ?_
  refine Bod.aldnG dc_333_21 (by repeat (first | exact q0 | exact sm_get_p1 | exact sm_get_p2e | refine sm_get_p1m (by decide) (by decide) ?_ | refine sm_get_p1n (by decide) rfl ?_ | refine sm_get_p2n (by decide) (by decide) rfl ?_)) ?_
  refine Bod.ic 0 (by decide) dc_333_22 ?_
  refine Bod.virt (r := []) dc_333_23 kr_333_302 ⟨Or.inl rfl, ow_306, cl_14⟩ (by rw [np_306]; rfl) (by rw [np_306]; rfl) (ob_of (mk_61 _)) (Nat.le_of_ble_eq_true rfl) (c1  ) ?_
  show Bod _ _ _ _ [_] _ _ _
  refine Bod.ifT dc_333_26 rfl (k1_ne_T (k_ne 1 0 rfl rfl (by omega) (by omega) (by omega))) ?_
  refine Bod.aldnG dc_333_31 (by repeat (first | exact q0 | exact sm_get_p1 | exact sm_get_p2e | refine sm_get_p1m (by decide) (by decide) ?_ | refine sm_get_p1n (by decide) rfl ?_ | refine sm_get_p2n (by decide) (by decide) rfl ?_)) ?_
  refine Bod.bip 12 (by decide) dc_333_32 ?_
  refine Bod.virt (r := []) dc_333_34 kr_333_305 ⟨Or.inl rfl, ow_325, cl_14⟩ (by rw [np_325]; rfl) (by rw [np_325]; rfl) (ob_of (mk_61 _)) (Nat.le_of_ble_eq_true rfl) (c2  ) ?_
  show Bod _ _ _ _ [_] _ _ _
  refine Bod.ist dc_333_37 (by rw [ml_333]; exact Nat.le_of_ble_eq_true rfl) ?_
  refine Bod.aldnG dc_333_39 (by repeat (first | exact q0 | exact sm_get_p1 | exact sm_get_p2e | refine sm_get_p1m (by decide) (by decide) ?_ | refine sm_get_p1n (by decide) rfl ?_ | refine sm_get_p2n (by decide) (by decide) rfl ?_)) ?_
  refine Bod.ildnG dc_333_40 (by repeat (first | exact q1 | exact sm_get_p1 | exact sm_get_p2e | refine sm_get_p1m (by decide) (by decide) ?_ | refine sm_get_p1n (by decide) rfl ?_ | refine sm_get_p2n (by decide) (by decide) rfl ?_)) ?_
  refine Bod.ic 0 (by decide) dc_333_41 ?_
  refine Bod.virt (r := []) dc_333_42 kr_333_309 ⟨Or.inl rfl, ow_334, cl_14⟩ (by rw [np_334]; rfl) (by rw [np_334]; rfl) (ob_of (mk_61 _)) (Nat.le_of_ble_eq_true rfl) (c3  ) ?_
  show Bod _ _ _ _ [_] _ _ _
  refine Bod.ifT dc_333_45 rfl (k1_ne_T (k_ne 1 0 rfl rfl (by omega) (by omega) (by omega))) ?_
  refine Bod.aldnG dc_333_50 (by repeat (first | exact q0 | exact sm_get_p1 | exact sm_get_p2e | refine sm_get_p1m (by decide) (by decide) ?_ | refine sm_get_p1n (by decide) rfl ?_ | refine sm_get_p2n (by decide) (by decide) rfl ?_)) ?_
  refine Bod.get dc_333_51 fr_333_129 (mk_61 _) rfl ?_
  refine Bod.aldnG dc_333_54 (by repeat (first | exact q0 | exact sm_get_p1 | exact sm_get_p2e | refine sm_get_p1m (by decide) (by decide) ?_ | refine sm_get_p1n (by decide) rfl ?_ | refine sm_get_p2n (by decide) (by decide) rfl ?_)) ?_
  refine Bod.get dc_333_55 fr_333_190 (mk_61 _) rfl ?_
  refine Bod.eqI (nI k1) (by first | (simp (disch := omega) only [rI, rIe, rA, rIA, rLA, rJA, rVI, rQI, rVA, rQA, upd_at,  rAI, rLI, rJI, nI_add, pk_sub, kc_0, kc_1, kc_2, kc_3, kc_4, kc_5, reduceIte, Nat.reduceEqDiff, Nat.add_zero, rI_hold, rI_hold, rL_hold, hk, hk1]; done) | (simp (disch := omega) only [rI, rIe, rA, rIA, rLA, rJA, rVI, rQI, rVA, rQA, upd_at,  rAI, rLI, rJI, nI_add, pk_sub, kc_0, kc_1, kc_2, kc_3, kc_4, kc_5, reduceIte, Nat.reduceEqDiff, Nat.add_zero, rI_hold, rI_hold, rL_hold, hk, hk1]; exact congrArg nI (by omega))) ?_
  refine Bod.ialdN k1 rfl (by omega) (by omega) dc_333_58 (mk_67 _) ?_
  refine Bod.eqI (nI e67) (by first | (simp (disch := omega) only [rI, rIe, rA, rIA, rLA, rJA, rVI, rQI, rVA, rQA, upd_at,  rAI, rLI, rJI, nI_add, pk_sub, kc_0, kc_1, kc_2, kc_3, kc_4, kc_5, reduceIte, Nat.reduceEqDiff, Nat.add_zero, rI_hold, rI_hold, rL_hold, hk, hk1, he67]; done) | (simp (disch := omega) only [rI, rIe, rA, rIA, rLA, rJA, rVI, rQI, rVA, rQA, upd_at,  rAI, rLI, rJI, nI_add, pk_sub, kc_0, kc_1, kc_2, kc_3, kc_4, kc_5, reduceIte, Nat.reduceEqDiff, Nat.add_zero, rI_hold, rI_hold, rL_hold, hk, hk1, he67]; exact congrArg nI (by omega))) ?_
  refine Bod.bip 7 (by decide) dc_333_59 ?_
  refine Bod.icF dc_333_61 rfl (k2_eq_F (k_ne e67 7 rfl rfl (by omega) (by omega) (by omega))) ?_
  refine Bod.aldnG dc_333_64 (by repeat (first | exact q0 | exact sm_get_p1 | exact sm_get_p2e | refine sm_get_p1m (by decide) (by decide) ?_ | refine sm_get_p1n (by decide) rfl ?_ | refine sm_get_p2n (by decide) (by decide) rfl ?_)) ?_
  refine Bod.get dc_333_65 fr_333_141 (mk_61 _) rfl ?_
  refine Bod.aldnG dc_333_68 (by repeat (first | exact q0 | exact sm_get_p1 | exact sm_get_p2e | refine sm_get_p1m (by decide) (by decide) ?_ | refine sm_get_p1n (by decide) rfl ?_ | refine sm_get_p2n (by decide) (by decide) rfl ?_)) ?_
  refine Bod.get dc_333_69 fr_333_190 (mk_61 _) rfl ?_
  refine Bod.eqI (nI k1) (by first | (simp (disch := omega) only [rI, rIe, rA, rIA, rLA, rJA, rVI, rQI, rVA, rQA, upd_at,  rAI, rLI, rJI, nI_add, pk_sub, kc_0, kc_1, kc_2, kc_3, kc_4, kc_5, reduceIte, Nat.reduceEqDiff, Nat.add_zero, rI_hold, rI_hold, rL_hold, hk, hk1, he67]; done) | (simp (disch := omega) only [rI, rIe, rA, rIA, rLA, rJA, rVI, rQI, rVA, rQA, upd_at,  rAI, rLI, rJI, nI_add, pk_sub, kc_0, kc_1, kc_2, kc_3, kc_4, kc_5, reduceIte, Nat.reduceEqDiff, Nat.add_zero, rI_hold, rI_hold, rL_hold, hk, hk1, he67]; exact congrArg nI (by omega))) ?_
  refine Bod.ialdN k1 rfl (by omega) (by omega) dc_333_72 (mk_70 _) ?_
  refine Bod.eqI (nI e70) (by first | (simp (disch := omega) only [rI, rIe, rA, rIA, rLA, rJA, rVI, rQI, rVA, rQA, upd_at,  rAI, rLI, rJI, nI_add, pk_sub, kc_0, kc_1, kc_2, kc_3, kc_4, kc_5, reduceIte, Nat.reduceEqDiff, Nat.add_zero, rI_hold, rI_hold, rL_hold, hk, hk1, he67, he70]; done) | (simp (disch := omega) only [rI, rIe, rA, rIA, rLA, rJA, rVI, rQI, rVA, rQA, upd_at,  rAI, rLI, rJI, nI_add, pk_sub, kc_0, kc_1, kc_2, kc_3, kc_4, kc_5, reduceIte, Nat.reduceEqDiff, Nat.add_zero, rI_hold, rI_hold, rL_hold, hk, hk1, he67, he70]; exact congrArg nI (by omega))) ?_
  refine Bod.ildnG dc_333_73 (by repeat (first | exact q1 | exact sm_get_p1 | exact sm_get_p2e | refine sm_get_p1m (by decide) (by decide) ?_ | refine sm_get_p1n (by decide) rfl ?_ | refine sm_get_p2n (by decide) (by decide) rfl ?_)) ?_
  refine Bod.icF dc_333_74 rfl (k2_ne_F (k_eq e70 la rfl rfl (by omega))) ?_
  refine Bod.aldnG dc_333_77 (by repeat (first | exact q0 | exact sm_get_p1 | exact sm_get_p2e | refine sm_get_p1m (by decide) (by decide) ?_ | refine sm_get_p1n (by decide) rfl ?_ | refine sm_get_p2n (by decide) (by decide) rfl ?_)) ?_
  refine Bod.ic 1 (by decide) dc_333_78 ?_
  refine Bod.virt (r := []) dc_333_79 kr_333_312 ⟨Or.inl rfl, ow_309, cl_14⟩ (by rw [np_309]; rfl) (by rw [np_309]; rfl) (ob_of (mk_61 _)) (Nat.le_of_ble_eq_true rfl) (c4  ) ?_
  show Bod _ _ _ _ [_] _ _ _
  refine Bod.ifT dc_333_82 rfl (k1_eq_T (k_eq 0 0 rfl rfl (by omega))) ?_
  refine Bod.ic 0 (by decide) dc_333_89 ?_
  refine Bod.istn dc_333_90 (by rw [ml_333]; exact Nat.le_of_ble_eq_true rfl) ?_
  refine Bod.aldnG dc_333_91 (by repeat (first | exact q0 | exact sm_get_p1 | exact sm_get_p2e | refine sm_get_p1m (by decide) (by decide) ?_ | refine sm_get_p1n (by decide) rfl ?_ | refine sm_get_p2n (by decide) (by decide) rfl ?_)) ?_
  refine Bod.get dc_333_92 fr_333_129 (mk_61 _) rfl ?_
  refine Bod.aldnG dc_333_95 (by repeat (first | exact q0 | exact sm_get_p1 | exact sm_get_p2e | refine sm_get_p1m (by decide) (by decide) ?_ | refine sm_get_p1n (by decide) rfl ?_ | refine sm_get_p2n (by decide) (by decide) rfl ?_)) ?_
  refine Bod.get dc_333_96 fr_333_190 (mk_61 _) rfl ?_
  refine Bod.eqI (nI k2) (by first | (simp (disch := omega) only [rI, rIe, rA, rIA, rLA, rJA, rVI, rQI, rVA, rQA, upd_at,  rAI, rLI, rJI, nI_add, pk_sub, kc_0, kc_1, kc_2, kc_3, kc_4, kc_5, reduceIte, Nat.reduceEqDiff, Nat.add_zero, rI_hold, rI_hold, rL_hold, hk, hk1, he67, he70, hk2]; done) | (simp (disch := omega) only [rI, rIe, rA, rIA, rLA, rJA, rVI, rQI, rVA, rQA, upd_at,  rAI, rLI, rJI, nI_add, pk_sub, kc_0, kc_1, kc_2, kc_3, kc_4, kc_5, reduceIte, Nat.reduceEqDiff, Nat.add_zero, rI_hold, rI_hold, rL_hold, hk, hk1, he67, he70, hk2]; exact congrArg nI (by omega))) ?_
  refine Bod.ialdN k2 rfl (by omega) (by omega) dc_333_99 (mk_67 _) ?_
  refine Bod.eqI (nI e671) (by first | (simp (disch := omega) only [rI, rIe, rA, rIA, rLA, rJA, rVI, rQI, rVA, rQA, upd_at,  rAI, rLI, rJI, nI_add, pk_sub, kc_0, kc_1, kc_2, kc_3, kc_4, kc_5, reduceIte, Nat.reduceEqDiff, Nat.add_zero, rI_hold, rI_hold, rL_hold, hk, hk1, he67, he70, hk2, he671]; done) | (simp (disch := omega) only [rI, rIe, rA, rIA, rLA, rJA, rVI, rQI, rVA, rQA, upd_at,  rAI, rLI, rJI, nI_add, pk_sub, kc_0, kc_1, kc_2, kc_3, kc_4, kc_5, reduceIte, Nat.reduceEqDiff, Nat.add_zero, rI_hold, rI_hold, rL_hold, hk, hk1, he67, he70, hk2, he671]; exact congrArg nI (by omega))) ?_
  refine Bod.bip 7 (by decide) dc_333_100 ?_
  refine Bod.icF dc_333_102 rfl (k2_eq_F (k_ne e671 7 rfl rfl (by omega) (by omega) (by omega))) ?_
  refine Bod.aldnG dc_333_105 (by repeat (first | exact q0 | exact sm_get_p1 | exact sm_get_p2e | refine sm_get_p1m (by decide) (by decide) ?_ | refine sm_get_p1n (by decide) rfl ?_ | refine sm_get_p2n (by decide) (by decide) rfl ?_)) ?_
  refine Bod.get dc_333_106 fr_333_141 (mk_61 _) rfl ?_
  refine Bod.aldnG dc_333_109 (by repeat (first | exact q0 | exact sm_get_p1 | exact sm_get_p2e | refine sm_get_p1m (by decide) (by decide) ?_ | refine sm_get_p1n (by decide) rfl ?_ | refine sm_get_p2n (by decide) (by decide) rfl ?_)) ?_
  refine Bod.get dc_333_110 fr_333_190 (mk_61 _) rfl ?_
  refine Bod.eqI (nI k2) (by first | (simp (disch := omega) only [rI, rIe, rA, rIA, rLA, rJA, rVI, rQI, rVA, rQA, upd_at,  rAI, rLI, rJI, nI_add, pk_sub, kc_0, kc_1, kc_2, kc_3, kc_4, kc_5, reduceIte, Nat.reduceEqDiff, Nat.add_zero, rI_hold, rI_hold, rL_hold, hk, hk1, he67, he70, hk2, he671]; done) | (simp (disch := omega) only [rI, rIe, rA, rIA, rLA, rJA, rVI, rQI, rVA, rQA, upd_at,  rAI, rLI, rJI, nI_add, pk_sub, kc_0, kc_1, kc_2, kc_3, kc_4, kc_5, reduceIte, Nat.reduceEqDiff, Nat.add_zero, rI_hold, rI_hold, rL_hold, hk, hk1, he67, he70, hk2, he671]; exact congrArg nI (by omega))) ?_
  refine Bod.ialdN k2 rfl (by omega) (by omega) dc_333_113 (mk_70 _) ?_
  refine Bod.eqI (nI e701) (by first | (simp (disch := omega) only [rI, rIe, rA, rIA, rLA, rJA, rVI, rQI, rVA, rQA, upd_at,  rAI, rLI, rJI, nI_add, pk_sub, kc_0, kc_1, kc_2, kc_3, kc_4, kc_5, reduceIte, Nat.reduceEqDiff, Nat.add_zero, rI_hold, rI_hold, rL_hold, hk, hk1, he67, he70, hk2, he671, he701]; done) | (simp (disch := omega) only [rI, rIe, rA, rIA, rLA, rJA, rVI, rQI, rVA, rQA, upd_at,  rAI, rLI, rJI, nI_add, pk_sub, kc_0, kc_1, kc_2, kc_3, kc_4, kc_5, reduceIte, Nat.reduceEqDiff, Nat.add_zero, rI_hold, rI_hold, rL_hold, hk, hk1, he67, he70, hk2, he671, he701]; exact congrArg nI (by omega))) ?_
  refine Bod.ildnG dc_333_114 (by repeat (first | exact q1 | exact sm_get_p1 | exact sm_get_p2e | refine sm_get_p1m (by decide) (by decide) ?_ | refine sm_get_p1n (by decide) rfl ?_ | refine sm_get_p2n (by decide) (by decide) rfl ?_)) ?_
  refine Bod.icF dc_333_115 rfl (k2_ne_F (k_eq e701 la rfl rfl (by omega))) ?_
  refine Bod.aldnG dc_333_118 (by repeat (first | exact q0 | exact sm_get_p1 | exact sm_get_p2e | refine sm_get_p1m (by decide) (by decide) ?_ | refine sm_get_p1n (by decide) rfl ?_ | refine sm_get_p2n (by decide) (by decide) rfl ?_)) ?_
  refine Bod.ic 2 (by decide) dc_333_119 ?_
  refine Bod.virt (r := []) dc_333_120 kr_333_312 ⟨Or.inl rfl, ow_309, cl_14⟩ (by rw [np_309]; rfl) (by rw [np_309]; rfl) (ob_of (mk_61 _)) (Nat.le_of_ble_eq_true rfl) (c5  ) ?_
  show Bod _ _ _ _ [_] _ _ _
  refine Bod.ifF dc_333_123 rfl (k1_eq_F (k_ne 1 0 rfl rfl (by omega) (by omega) (by omega))) ?_
  refine Bod.ic 1 (by decide) dc_333_126 ?_
  refine Bod.go dc_333_127 rfl ?_
  refine Bod.ist dc_333_131 (by rw [ml_333]; exact Nat.le_of_ble_eq_true rfl) ?_
  refine Bod.ildnG dc_333_133 (by repeat (first | exact q0 | exact sm_get_p1 | exact sm_get_p2e | refine sm_get_p1m (by decide) (by decide) ?_ | refine sm_get_p1n (by decide) rfl ?_ | refine sm_get_p2n (by decide) (by decide) rfl ?_)) ?_
  refine Bod.ifF dc_333_134 rfl (k1_ne_F (k_eq 0 0 rfl rfl (by omega))) ?_
  refine Bod.ildG dc_333_137 (by repeat (first | exact q0 | exact sm_get_p1 | exact sm_get_p2e | refine sm_get_p1m (by decide) (by decide) ?_ | refine sm_get_p1n (by decide) rfl ?_ | refine sm_get_p2n (by decide) (by decide) rfl ?_)) ?_
  refine Bod.ifF dc_333_139 rfl (k1_eq_F (k_ne 1 0 rfl rfl (by omega) (by omega) (by omega))) ?_
  refine Bod.aldnG dc_333_142 (by repeat (first | exact q0 | exact sm_get_p1 | exact sm_get_p2e | refine sm_get_p1m (by decide) (by decide) ?_ | refine sm_get_p1n (by decide) rfl ?_ | refine sm_get_p2n (by decide) (by decide) rfl ?_)) ?_
  refine Bod.get dc_333_143 fr_333_314 (mk_61 _) rfl ?_
  refine Bod.aldnG dc_333_146 (by repeat (first | exact q0 | exact sm_get_p1 | exact sm_get_p2e | refine sm_get_p1m (by decide) (by decide) ?_ | refine sm_get_p1n (by decide) rfl ?_ | refine sm_get_p2n (by decide) (by decide) rfl ?_)) ?_
  refine Bod.get dc_333_147 fr_333_251 (mk_61 _) rfl ?_
  refine Bod.eqI (nI en) (by first | (simp (disch := omega) only [rI, rIe, rA, rIA, rLA, rJA, rVI, rQI, rVA, rQA, upd_at,  rAI, rLI, rJI, nI_add, pk_sub, kc_0, kc_1, kc_2, kc_3, kc_4, kc_5, reduceIte, Nat.reduceEqDiff, Nat.add_zero, rI_hold, rI_hold, rL_hold, hk, hk1, he67, he70, hk2, he671, he701, hen]; done) | (simp (disch := omega) only [rI, rIe, rA, rIA, rLA, rJA, rVI, rQI, rVA, rQA, upd_at,  rAI, rLI, rJI, nI_add, pk_sub, kc_0, kc_1, kc_2, kc_3, kc_4, kc_5, reduceIte, Nat.reduceEqDiff, Nat.add_zero, rI_hold, rI_hold, rL_hold, hk, hk1, he67, he70, hk2, he671, he701, hen]; exact congrArg nI (by omega))) ?_
  refine Bod.aldnG dc_333_150 (by repeat (first | exact q0 | exact sm_get_p1 | exact sm_get_p2e | refine sm_get_p1m (by decide) (by decide) ?_ | refine sm_get_p1n (by decide) rfl ?_ | refine sm_get_p2n (by decide) (by decide) rfl ?_)) ?_
  refine Bod.bip 11 (by decide) dc_333_151 ?_
  refine Bod.virt (r := [_, _]) dc_333_153 kr_333_305 ⟨Or.inl rfl, ow_325, cl_14⟩ (by rw [np_325]; rfl) (by rw [np_325]; rfl) (ob_of (mk_61 _)) (Nat.le_of_ble_eq_true rfl) (c6  ) ?_
  show Bod _ _ _ _ [_, _, _] _ _ _
  refine Bod.iastN en rfl (by omega) (by omega) dc_333_156 (mk_81 _) (sa_81 _ _ _) (mu_A _ _ _ _) ?_
  refine Bod.aldnG dc_333_157 (by repeat (first | exact q0 | exact sm_get_p1 | exact sm_get_p2e | refine sm_get_p1m (by decide) (by decide) ?_ | refine sm_get_p1n (by decide) rfl ?_ | refine sm_get_p2n (by decide) (by decide) rfl ?_)) ?_
  refine Bod.go dc_333_158 rfl ?_
  refine Bod.get dc_333_159 fr_333_251 (mk_61 _) rfl ?_
  refine Bod.eqI (nI en1) (by first | (simp (disch := omega) only [rI, rIe, rA, rIA, rLA, rJA, rVI, rQI, rVA, rQA, upd_at,  rAI, rLI, rJI, nI_add, pk_sub, kc_0, kc_1, kc_2, kc_3, kc_4, kc_5, reduceIte, Nat.reduceEqDiff, Nat.add_zero, rI_hold, rI_hold, rL_hold, hk, hk1, he67, he70, hk2, he671, he701, hen, hen1]; done) | (simp (disch := omega) only [rI, rIe, rA, rIA, rLA, rJA, rVI, rQI, rVA, rQA, upd_at,  rAI, rLI, rJI, nI_add, pk_sub, kc_0, kc_1, kc_2, kc_3, kc_4, kc_5, reduceIte, Nat.reduceEqDiff, Nat.add_zero, rI_hold, rI_hold, rL_hold, hk, hk1, he67, he70, hk2, he671, he701, hen, hen1]; exact congrArg nI (by omega))) ?_
  refine Bod.ic 1 (by decide) dc_333_162 ?_
  refine Bod.addN (en1 + 1) (by omega) dc_333_163 ?_
  refine Bod.put dc_333_164 fr_333_251 (mk_61 _) (Nat.le_of_ble_eq_true rfl) pf_14_34 (st_6134 _ _) (mu_I _ _ _) ?_
  refine Bod.aldnG dc_333_167 (by repeat (first | exact q0 | exact sm_get_p1 | exact sm_get_p2e | refine sm_get_p1m (by decide) (by decide) ?_ | refine sm_get_p1n (by decide) rfl ?_ | refine sm_get_p2n (by decide) (by decide) rfl ?_)) ?_
  refine Bod.ildG dc_333_168 (by repeat (first | exact q0 | exact sm_get_p1 | exact sm_get_p2e | refine sm_get_p1m (by decide) (by decide) ?_ | refine sm_get_p1n (by decide) rfl ?_ | refine sm_get_p2n (by decide) (by decide) rfl ?_)) ?_
  refine Bod.virt (r := []) dc_333_170 kr_333_317 ⟨Or.inl rfl, ow_326, cl_14⟩ (by rw [np_326]; rfl) (by rw [np_326]; rfl) (ob_of (mk_61 _)) (Nat.le_of_ble_eq_true rfl) (c7  ) ?_
  show Bod _ _ _ _ [] _ _ _
  refine Bod.ildG dc_333_173 (by repeat (first | exact q0 | exact sm_get_p1 | exact sm_get_p2e | refine sm_get_p1m (by decide) (by decide) ?_ | refine sm_get_p1n (by decide) rfl ?_ | refine sm_get_p2n (by decide) (by decide) rfl ?_)) ?_
  refine Bod.ifT dc_333_175 rfl (k1_ne_T (k_ne 1 0 rfl rfl (by omega) (by omega) (by omega))) ?_
  refine Bod.aldnG dc_333_181 (by repeat (first | exact q0 | exact sm_get_p1 | exact sm_get_p2e | refine sm_get_p1m (by decide) (by decide) ?_ | refine sm_get_p1n (by decide) rfl ?_ | refine sm_get_p2n (by decide) (by decide) rfl ?_)) ?_
  refine Bod.go dc_333_182 rfl ?_
  refine Bod.get dc_333_183 fr_333_190 (mk_61 _) rfl ?_
  refine Bod.eqI (nI k3) (by first | (simp (disch := omega) only [rI, rIe, rA, rIA, rLA, rJA, rVI, rQI, rVA, rQA, upd_at,  rAI, rLI, rJI, nI_add, pk_sub, kc_0, kc_1, kc_2, kc_3, kc_4, kc_5, reduceIte, Nat.reduceEqDiff, Nat.add_zero, rI_hold, rI_hold, rL_hold, hk, hk1, he67, he70, hk2, he671, he701, hen, hen1, hk3]; done) | (simp (disch := omega) only [rI, rIe, rA, rIA, rLA, rJA, rVI, rQI, rVA, rQA, upd_at,  rAI, rLI, rJI, nI_add, pk_sub, kc_0, kc_1, kc_2, kc_3, kc_4, kc_5, reduceIte, Nat.reduceEqDiff, Nat.add_zero, rI_hold, rI_hold, rL_hold, hk, hk1, he67, he70, hk2, he671, he701, hen, hen1, hk3]; exact congrArg nI (by omega))) ?_
  refine Bod.ic 1 (by decide) dc_333_186 ?_
  refine Bod.addN (k3 + 1) (by omega) dc_333_187 ?_
  refine Bod.put dc_333_188 fr_333_190 (mk_61 _) (Nat.le_of_ble_eq_true rfl) pf_14_15 (st_6115 _ _) (mu_I _ _ _) ?_
  refine Bod.aldnG dc_333_191 (by repeat (first | exact q0 | exact sm_get_p1 | exact sm_get_p2e | refine sm_get_p1m (by decide) (by decide) ?_ | refine sm_get_p1n (by decide) rfl ?_ | refine sm_get_p2n (by decide) (by decide) rfl ?_)) ?_
  refine Bod.ildnG dc_333_192 (by repeat (first | exact q1 | exact sm_get_p1 | exact sm_get_p2e | refine sm_get_p1m (by decide) (by decide) ?_ | refine sm_get_p1n (by decide) rfl ?_ | refine sm_get_p2n (by decide) (by decide) rfl ?_)) ?_
  refine Bod.ic 0 (by decide) dc_333_193 ?_
  refine Bod.virt (r := []) dc_333_194 kr_333_309 ⟨Or.inl rfl, ow_334, cl_14⟩ (by rw [np_334]; rfl) (by rw [np_334]; rfl) (ob_of (mk_61 _)) (Nat.le_of_ble_eq_true rfl) (c8  ) ?_
  show Bod _ _ _ _ [_] _ _ _
  refine Bod.ifF dc_333_197 rfl (k1_ne_F (k_eq 0 0 rfl rfl (by omega))) ?_
  refine Bod.ic 0 (by decide) dc_333_200 ?_
  exact Bod.retZ dc_333_201 rt_333 (Or.inl rfl)
theorem zChL_12 {d : Nat} {S Sf : cS} {v : Option Value} {lv : sm_L} {la : Nat} {le : Nat} {k : Nat} {S1 : cS} {S2 : cS} {a : Nat} {S3 : cS} {k1 : Nat} {e67 : Nat} {e70 : Nat} {S4 : cS} {k2 : Nat} {e671 : Nat} {e701 : Nat} {S5 : cS} {S6 : cS} (q0 : sm_get lv 0 = some (.ref 61)) (q1 : sm_get lv 1 = some (.int (nI la))) (q2 : sm_get lv 2 = some (.int (nI le))) (q3 : sm_get lv 3 = some (.int (nI 1))) (mla : la < 2 ^ 20) (mle : le < 2 ^ 20) (hk : sI S 6115 = nI k) (mk : k < 6001) (c1 : Ans (d + 8) 306 [.ref 61, .int (nI 0)] (wI 6115 (nI (k + 1)) S) (some (.int (nI 1))) S1) (ma : a < 2 ^ 20) (c2 : Ans (d + 8) 325 [.ref 61, .int (nI 12)] S1 (some (.int (nI a))) S2) (c3 : Ans (d + 8) 334 [.ref 61, .int (nI la), .int (nI 0)] S2 (some (.int (nI 1))) S3) (hk1 : sI S3 6115 = nI k1) (mk1 : k1 < 6001) (he67 : sA S3 67 k1 = nI e67) (me67 : e67 < 2 ^ 20) (b1 : e67 ≠ 7) (he70 : sA S3 70 k1 = nI e70) (me70 : e70 < 2 ^ 20) (b2 : e70 = la) (c4 : Ans (d + 8) 309 [.ref 61, .int (nI 1)] S3 (some (.int (nI 0))) S4) (hk2 : sI S4 6115 = nI k2) (mk2 : k2 < 6001) (he671 : sA S4 67 k2 = nI e671) (me671 : e671 < 2 ^ 20) (b3 : e671 ≠ 7) (he701 : sA S4 70 k2 = nI e701) (me701 : e701 < 2 ^ 20) (b4 : e701 = la) (c5 : Ans (d + 8) 309 [.ref 61, .int (nI 2)] S4 (some (.int (nI 0))) S5) (c6 : Ans (d + 8) 326 [.ref 61, .int (nI a)] S5 none S6) (hB : ∀ lv1 : sm_L, sm_get lv1 0 = some (.ref 61) → sm_get lv1 1 = some (.int (nI la)) → sm_get lv1 2 = some (.int (nI le)) → sm_get lv1 3 = some (.int (nI 0)) → Bod (d + 8) 333 7 lv1 [] (S6) v Sf) : Bod (d + 8) 333 7 lv [] S v Sf := by
  refine Bod.ildnG dc_333_7 (by repeat (first | exact q3 | exact sm_get_p1 | exact sm_get_p2e | refine sm_get_p1m (by decide) (by decide) ?_ | refine sm_get_p1n (by decide) rfl ?_ | refine sm_get_p2n (by decide) (by decide) rfl ?_)) ?_
  refine Bod.ifF dc_333_8 rfl (k1_eq_F (k_ne 1 0 rfl rfl (by omega) (by omega) (by omega))) ?_
  refine Bod.aldnG dc_333_11 (by repeat (first | exact q0 | exact sm_get_p1 | exact sm_get_p2e | refine sm_get_p1m (by decide) (by decide) ?_ | refine sm_get_p1n (by decide) rfl ?_ | refine sm_get_p2n (by decide) (by decide) rfl ?_)) ?_
  refine Bod.go dc_333_12 rfl ?_
  refine Bod.get dc_333_13 fr_333_190 (mk_61 _) rfl ?_
  refine Bod.eqI (nI k) (by first | assumption | rfl | exact congrArg nI (by omega) | (simp (disch := omega) only [rI, rIe, rA, rIA, rLA, rJA, rVI, rQI, rVA, rQA, upd_at,  rAI, rLI, rJI, nI_add, pk_sub, kc_0, kc_1, kc_2, kc_3, kc_4, kc_5, reduceIte, Nat.reduceEqDiff, Nat.add_zero, rI_hold, rI_hold, rL_hold, hk]; done)) ?_
  refine Bod.ic 1 (by decide) dc_333_16 ?_
  refine Bod.addN (k + 1) (by omega) dc_333_17 ?_
  refine Bod.put dc_333_18 fr_333_190 (mk_61 _) (Nat.le_of_ble_eq_true rfl) pf_14_15 (st_6115 _ _) (mu_I _ _ _) ?_
  refine Bod.aldnG dc_333_21 (by repeat (first | exact q0 | exact sm_get_p1 | exact sm_get_p2e | refine sm_get_p1m (by decide) (by decide) ?_ | refine sm_get_p1n (by decide) rfl ?_ | refine sm_get_p2n (by decide) (by decide) rfl ?_)) ?_
  refine Bod.ic 0 (by decide) dc_333_22 ?_
  refine Bod.virt (r := []) dc_333_23 kr_333_302 ⟨Or.inl rfl, ow_306, cl_14⟩ (by rw [np_306]; rfl) (by rw [np_306]; rfl) (ob_of (mk_61 _)) (Nat.le_of_ble_eq_true rfl) (c1  ) ?_
  show Bod _ _ _ _ [_] _ _ _
  refine Bod.ifT dc_333_26 rfl (k1_ne_T (k_ne 1 0 rfl rfl (by omega) (by omega) (by omega))) ?_
  refine Bod.aldnG dc_333_31 (by repeat (first | exact q0 | exact sm_get_p1 | exact sm_get_p2e | refine sm_get_p1m (by decide) (by decide) ?_ | refine sm_get_p1n (by decide) rfl ?_ | refine sm_get_p2n (by decide) (by decide) rfl ?_)) ?_
  refine Bod.bip 12 (by decide) dc_333_32 ?_
  refine Bod.virt (r := []) dc_333_34 kr_333_305 ⟨Or.inl rfl, ow_325, cl_14⟩ (by rw [np_325]; rfl) (by rw [np_325]; rfl) (ob_of (mk_61 _)) (Nat.le_of_ble_eq_true rfl) (c2  ) ?_
  show Bod _ _ _ _ [_] _ _ _
  refine Bod.ist dc_333_37 (by rw [ml_333]; exact Nat.le_of_ble_eq_true rfl) ?_
  refine Bod.aldnG dc_333_39 (by repeat (first | exact q0 | exact sm_get_p1 | exact sm_get_p2e | refine sm_get_p1m (by decide) (by decide) ?_ | refine sm_get_p1n (by decide) rfl ?_ | refine sm_get_p2n (by decide) (by decide) rfl ?_)) ?_
  refine Bod.ildnG dc_333_40 (by repeat (first | exact q1 | exact sm_get_p1 | exact sm_get_p2e | refine sm_get_p1m (by decide) (by decide) ?_ | refine sm_get_p1n (by decide) rfl ?_ | refine sm_get_p2n (by decide) (by decide) rfl ?_)) ?_
  refine Bod.ic 0 (by decide) dc_333_41 ?_
  refine Bod.virt (r := []) dc_333_42 kr_333_309 ⟨Or.inl rfl, ow_334, cl_14⟩ (by rw [np_334]; rfl) (by rw [np_334]; rfl) (ob_of (mk_61 _)) (Nat.le_of_ble_eq_true rfl) (c3  ) ?_
  show Bod _ _ _ _ [_] _ _ _
  refine Bod.ifT dc_333_45 rfl (k1_ne_T (k_ne 1 0 rfl rfl (by omega) (by omega) (by omega))) ?_
  refine Bod.aldnG dc_333_50 (by repeat (first | exact q0 | exact sm_get_p1 | exact sm_get_p2e | refine sm_get_p1m (by decide) (by decide) ?_ | refine sm_get_p1n (by decide) rfl ?_ | refine sm_get_p2n (by decide) (by decide) rfl ?_)) ?_
  refine Bod.get dc_333_51 fr_333_129 (mk_61 _) rfl ?_
  refine Bod.aldnG dc_333_54 (by repeat (first | exact q0 | exact sm_get_p1 | exact sm_get_p2e | refine sm_get_p1m (by decide) (by decide) ?_ | refine sm_get_p1n (by decide) rfl ?_ | refine sm_get_p2n (by decide) (by decide) rfl ?_)) ?_
  refine Bod.get dc_333_55 fr_333_190 (mk_61 _) rfl ?_
  refine Bod.eqI (nI k1) (by first | (simp (disch := omega) only [rI, rIe, rA, rIA, rLA, rJA, rVI, rQI, rVA, rQA, upd_at,  rAI, rLI, rJI, nI_add, pk_sub, kc_0, kc_1, kc_2, kc_3, kc_4, kc_5, reduceIte, Nat.reduceEqDiff, Nat.add_zero, rI_hold, rI_hold, rL_hold, hk, hk1]; done) | (simp (disch := omega) only [rI, rIe, rA, rIA, rLA, rJA, rVI, rQI, rVA, rQA, upd_at,  rAI, rLI, rJI, nI_add, pk_sub, kc_0, kc_1, kc_2, kc_3, kc_4, kc_5, reduceIte, Nat.reduceEqDiff, Nat.add_zero, rI_hold, rI_hold, rL_hold, hk, hk1]; exact congrArg nI (by omega))) ?_
  refine Bod.ialdN k1 rfl (by omega) (by omega) dc_333_58 (mk_67 _) ?_
  refine Bod.eqI (nI e67) (by first | (simp (disch := omega) only [rI, rIe, rA, rIA, rLA, rJA, rVI, rQI, rVA, rQA, upd_at,  rAI, rLI, rJI, nI_add, pk_sub, kc_0, kc_1, kc_2, kc_3, kc_4, kc_5, reduceIte, Nat.reduceEqDiff, Nat.add_zero, rI_hold, rI_hold, rL_hold, hk, hk1, he67]; done) | (simp (disch := omega) only [rI, rIe, rA, rIA, rLA, rJA, rVI, rQI, rVA, rQA, upd_at,  rAI, rLI, rJI, nI_add, pk_sub, kc_0, kc_1, kc_2, kc_3, kc_4, kc_5, reduceIte, Nat.reduceEqDiff, Nat.add_zero, rI_hold, rI_hold, rL_hold, hk, hk1, he67]; exact congrArg nI (by omega))) ?_
  refine Bod.bip 7 (by decide) dc_333_59 ?_
  refine Bod.icF dc_333_61 rfl (k2_eq_F (k_ne e67 7 rfl rfl (by omega) (by omega) (by omega))) ?_
  refine Bod.aldnG dc_333_64 (by repeat (first | exact q0 | exact sm_get_p1 | exact sm_get_p2e | refine sm_get_p1m (by decide) (by decide) ?_ | refine sm_get_p1n (by decide) rfl ?_ | refine sm_get_p2n (by decide) (by decide) rfl ?_)) ?_
  refine Bod.get dc_333_65 fr_333_141 (mk_61 _) rfl ?_
  refine Bod.aldnG dc_333_68 (by repeat (first | exact q0 | exact sm_get_p1 | exact sm_get_p2e | refine sm_get_p1m (by decide) (by decide) ?_ | refine sm_get_p1n (by decide) rfl ?_ | refine sm_get_p2n (by decide) (by decide) rfl ?_)) ?_
  refine Bod.get dc_333_69 fr_333_190 (mk_61 _) rfl ?_
  refine Bod.eqI (nI k1) (by first | (simp (disch := omega) only [rI, rIe, rA, rIA, rLA, rJA, rVI, rQI, rVA, rQA, upd_at,  rAI, rLI, rJI, nI_add, pk_sub, kc_0, kc_1, kc_2, kc_3, kc_4, kc_5, reduceIte, Nat.reduceEqDiff, Nat.add_zero, rI_hold, rI_hold, rL_hold, hk, hk1, he67]; done) | (simp (disch := omega) only [rI, rIe, rA, rIA, rLA, rJA, rVI, rQI, rVA, rQA, upd_at,  rAI, rLI, rJI, nI_add, pk_sub, kc_0, kc_1, kc_2, kc_3, kc_4, kc_5, reduceIte, Nat.reduceEqDiff, Nat.add_zero, rI_hold, rI_hold, rL_hold, hk, hk1, he67]; exact congrArg nI (by omega))) ?_
  refine Bod.ialdN k1 rfl (by omega) (by omega) dc_333_72 (mk_70 _) ?_
  refine Bod.eqI (nI e70) (by first | (simp (disch := omega) only [rI, rIe, rA, rIA, rLA, rJA, rVI, rQI, rVA, rQA, upd_at,  rAI, rLI, rJI, nI_add, pk_sub, kc_0, kc_1, kc_2, kc_3, kc_4, kc_5, reduceIte, Nat.reduceEqDiff, Nat.add_zero, rI_hold, rI_hold, rL_hold, hk, hk1, he67, he70]; done) | (simp (disch := omega) only [rI, rIe, rA, rIA, rLA, rJA, rVI, rQI, rVA, rQA, upd_at,  rAI, rLI, rJI, nI_add, pk_sub, kc_0, kc_1, kc_2, kc_3, kc_4, kc_5, reduceIte, Nat.reduceEqDiff, Nat.add_zero, rI_hold, rI_hold, rL_hold, hk, hk1, he67, he70]; exact congrArg nI (by omega))) ?_
  refine Bod.ildnG dc_333_73 (by repeat (first | exact q1 | exact sm_get_p1 | exact sm_get_p2e | refine sm_get_p1m (by decide) (by decide) ?_ | refine sm_get_p1n (by decide) rfl ?_ | refine sm_get_p2n (by decide) (by decide) rfl ?_)) ?_
  refine Bod.icF dc_333_74 rfl (k2_ne_F (k_eq e70 la rfl rfl (by omega))) ?_
  refine Bod.aldnG dc_333_77 (by repeat (first | exact q0 | exact sm_get_p1 | exact sm_get_p2e | refine sm_get_p1m (by decide) (by decide) ?_ | refine sm_get_p1n (by decide) rfl ?_ | refine sm_get_p2n (by decide) (by decide) rfl ?_)) ?_
  refine Bod.ic 1 (by decide) dc_333_78 ?_
  refine Bod.virt (r := []) dc_333_79 kr_333_312 ⟨Or.inl rfl, ow_309, cl_14⟩ (by rw [np_309]; rfl) (by rw [np_309]; rfl) (ob_of (mk_61 _)) (Nat.le_of_ble_eq_true rfl) (c4  ) ?_
  show Bod _ _ _ _ [_] _ _ _
  refine Bod.ifT dc_333_82 rfl (k1_eq_T (k_eq 0 0 rfl rfl (by omega))) ?_
  refine Bod.ic 0 (by decide) dc_333_89 ?_
  refine Bod.istn dc_333_90 (by rw [ml_333]; exact Nat.le_of_ble_eq_true rfl) ?_
  refine Bod.aldnG dc_333_91 (by repeat (first | exact q0 | exact sm_get_p1 | exact sm_get_p2e | refine sm_get_p1m (by decide) (by decide) ?_ | refine sm_get_p1n (by decide) rfl ?_ | refine sm_get_p2n (by decide) (by decide) rfl ?_)) ?_
  refine Bod.get dc_333_92 fr_333_129 (mk_61 _) rfl ?_
  refine Bod.aldnG dc_333_95 (by repeat (first | exact q0 | exact sm_get_p1 | exact sm_get_p2e | refine sm_get_p1m (by decide) (by decide) ?_ | refine sm_get_p1n (by decide) rfl ?_ | refine sm_get_p2n (by decide) (by decide) rfl ?_)) ?_
  refine Bod.get dc_333_96 fr_333_190 (mk_61 _) rfl ?_
  refine Bod.eqI (nI k2) (by first | (simp (disch := omega) only [rI, rIe, rA, rIA, rLA, rJA, rVI, rQI, rVA, rQA, upd_at,  rAI, rLI, rJI, nI_add, pk_sub, kc_0, kc_1, kc_2, kc_3, kc_4, kc_5, reduceIte, Nat.reduceEqDiff, Nat.add_zero, rI_hold, rI_hold, rL_hold, hk, hk1, he67, he70, hk2]; done) | (simp (disch := omega) only [rI, rIe, rA, rIA, rLA, rJA, rVI, rQI, rVA, rQA, upd_at,  rAI, rLI, rJI, nI_add, pk_sub, kc_0, kc_1, kc_2, kc_3, kc_4, kc_5, reduceIte, Nat.reduceEqDiff, Nat.add_zero, rI_hold, rI_hold, rL_hold, hk, hk1, he67, he70, hk2]; exact congrArg nI (by omega))) ?_
  refine Bod.ialdN k2 rfl (by omega) (by omega) dc_333_99 (mk_67 _) ?_
  refine Bod.eqI (nI e671) (by first | (simp (disch := omega) only [rI, rIe, rA, rIA, rLA, rJA, rVI, rQI, rVA, rQA, upd_at,  rAI, rLI, rJI, nI_add, pk_sub, kc_0, kc_1, kc_2, kc_3, kc_4, kc_5, reduceIte, Nat.reduceEqDiff, Nat.add_zero, rI_hold, rI_hold, rL_hold, hk, hk1, he67, he70, hk2, he671]; done) | (simp (disch := omega) only [rI, rIe, rA, rIA, rLA, rJA, rVI, rQI, rVA, rQA, upd_at,  rAI, rLI, rJI, nI_add, pk_sub, kc_0, kc_1, kc_2, kc_3, kc_4, kc_5, reduceIte, Nat.reduceEqDiff, Nat.add_zero, rI_hold, rI_hold, rL_hold, hk, hk1, he67, he70, hk2, he671]; exact congrArg nI (by omega))) ?_
  refine Bod.bip 7 (by decide) dc_333_100 ?_
  refine Bod.icF dc_333_102 rfl (k2_eq_F (k_ne e671 7 rfl rfl (by omega) (by omega) (by omega))) ?_
  refine Bod.aldnG dc_333_105 (by repeat (first | exact q0 | exact sm_get_p1 | exact sm_get_p2e | refine sm_get_p1m (by decide) (by decide) ?_ | refine sm_get_p1n (by decide) rfl ?_ | refine sm_get_p2n (by decide) (by decide) rfl ?_)) ?_
  refine Bod.get dc_333_106 fr_333_141 (mk_61 _) rfl ?_
  refine Bod.aldnG dc_333_109 (by repeat (first | exact q0 | exact sm_get_p1 | exact sm_get_p2e | refine sm_get_p1m (by decide) (by decide) ?_ | refine sm_get_p1n (by decide) rfl ?_ | refine sm_get_p2n (by decide) (by decide) rfl ?_)) ?_
  refine Bod.get dc_333_110 fr_333_190 (mk_61 _) rfl ?_
  refine Bod.eqI (nI k2) (by first | (simp (disch := omega) only [rI, rIe, rA, rIA, rLA, rJA, rVI, rQI, rVA, rQA, upd_at,  rAI, rLI, rJI, nI_add, pk_sub, kc_0, kc_1, kc_2, kc_3, kc_4, kc_5, reduceIte, Nat.reduceEqDiff, Nat.add_zero, rI_hold, rI_hold, rL_hold, hk, hk1, he67, he70, hk2, he671]; done) | (simp (disch := omega) only [rI, rIe, rA, rIA, rLA, rJA, rVI, rQI, rVA, rQA, upd_at,  rAI, rLI, rJI, nI_add, pk_sub, kc_0, kc_1, kc_2, kc_3, kc_4, kc_5, reduceIte, Nat.reduceEqDiff, Nat.add_zero, rI_hold, rI_hold, rL_hold, hk, hk1, he67, he70, hk2, he671]; exact congrArg nI (by omega))) ?_
  refine Bod.ialdN k2 rfl (by omega) (by omega) dc_333_113 (mk_70 _) ?_
  refine Bod.eqI (nI e701) (by first | (simp (disch := omega) only [rI, rIe, rA, rIA, rLA, rJA, rVI, rQI, rVA, rQA, upd_at,  rAI, rLI, rJI, nI_add, pk_sub, kc_0, kc_1, kc_2, kc_3, kc_4, kc_5, reduceIte, Nat.reduceEqDiff, Nat.add_zero, rI_hold, rI_hold, rL_hold, hk, hk1, he67, he70, hk2, he671, he701]; done) | (simp (disch := omega) only [rI, rIe, rA, rIA, rLA, rJA, rVI, rQI, rVA, rQA, upd_at,  rAI, rLI, rJI, nI_add, pk_sub, kc_0, kc_1, kc_2, kc_3, kc_4, kc_5, reduceIte, Nat.reduceEqDiff, Nat.add_zero, rI_hold, rI_hold, rL_hold, hk, hk1, he67, he70, hk2, he671, he701]; exact congrArg nI (by omega))) ?_
  refine Bod.ildnG dc_333_114 (by repeat (first | exact q1 | exact sm_get_p1 | exact sm_get_p2e | refine sm_get_p1m (by decide) (by decide) ?_ | refine sm_get_p1n (by decide) rfl ?_ | refine sm_get_p2n (by decide) (by decide) rfl ?_)) ?_
  refine Bod.icF dc_333_115 rfl (k2_ne_F (k_eq e701 la rfl rfl (by omega))) ?_
  refine Bod.aldnG dc_333_118 (by repeat (first | exact q0 | exact sm_get_p1 | exact sm_get_p2e | refine sm_get_p1m (by decide) (by decide) ?_ | refine sm_get_p1n (by decide) rfl ?_ | refine sm_get_p2n (by decide) (by decide) rfl ?_)) ?_
  refine Bod.ic 2 (by decide) dc_333_119 ?_
  refine Bod.virt (r := []) dc_333_120 kr_333_312 ⟨Or.inl rfl, ow_309, cl_14⟩ (by rw [np_309]; rfl) (by rw [np_309]; rfl) (ob_of (mk_61 _)) (Nat.le_of_ble_eq_true rfl) (c5  ) ?_
  show Bod _ _ _ _ [_] _ _ _
  refine Bod.ifT dc_333_123 rfl (k1_eq_T (k_eq 0 0 rfl rfl (by omega))) ?_
  refine Bod.ic 0 (by decide) dc_333_130 ?_
  refine Bod.ist dc_333_131 (by rw [ml_333]; exact Nat.le_of_ble_eq_true rfl) ?_
  refine Bod.ildnG dc_333_133 (by repeat (first | exact q0 | exact sm_get_p1 | exact sm_get_p2e | refine sm_get_p1m (by decide) (by decide) ?_ | refine sm_get_p1n (by decide) rfl ?_ | refine sm_get_p2n (by decide) (by decide) rfl ?_)) ?_
  refine Bod.ifF dc_333_134 rfl (k1_ne_F (k_eq 0 0 rfl rfl (by omega))) ?_
  refine Bod.ildG dc_333_137 (by repeat (first | exact q0 | exact sm_get_p1 | exact sm_get_p2e | refine sm_get_p1m (by decide) (by decide) ?_ | refine sm_get_p1n (by decide) rfl ?_ | refine sm_get_p2n (by decide) (by decide) rfl ?_)) ?_
  refine Bod.ifT dc_333_139 rfl (k1_eq_T (k_eq 0 0 rfl rfl (by omega))) ?_
  refine Bod.aldnG dc_333_167 (by repeat (first | exact q0 | exact sm_get_p1 | exact sm_get_p2e | refine sm_get_p1m (by decide) (by decide) ?_ | refine sm_get_p1n (by decide) rfl ?_ | refine sm_get_p2n (by decide) (by decide) rfl ?_)) ?_
  refine Bod.ildG dc_333_168 (by repeat (first | exact q0 | exact sm_get_p1 | exact sm_get_p2e | refine sm_get_p1m (by decide) (by decide) ?_ | refine sm_get_p1n (by decide) rfl ?_ | refine sm_get_p2n (by decide) (by decide) rfl ?_)) ?_
  refine Bod.virt (r := []) dc_333_170 kr_333_317 ⟨Or.inl rfl, ow_326, cl_14⟩ (by rw [np_326]; rfl) (by rw [np_326]; rfl) (ob_of (mk_61 _)) (Nat.le_of_ble_eq_true rfl) (c6  ) ?_
  show Bod _ _ _ _ [] _ _ _
  refine Bod.ildG dc_333_173 (by repeat (first | exact q0 | exact sm_get_p1 | exact sm_get_p2e | refine sm_get_p1m (by decide) (by decide) ?_ | refine sm_get_p1n (by decide) rfl ?_ | refine sm_get_p2n (by decide) (by decide) rfl ?_)) ?_
  refine Bod.ifF dc_333_175 rfl (k1_ne_F (k_eq 0 0 rfl rfl (by omega))) ?_
  refine Bod.go dc_333_178 rfl ?_
  exact hB _ (by repeat (first | exact q0 | exact sm_get_p1 | exact sm_get_p2e | refine sm_get_p1m (by decide) (by decide) ?_ | refine sm_get_p1n (by decide) rfl ?_ | refine sm_get_p2n (by decide) (by decide) rfl ?_)) (by repeat (first | exact q1 | exact sm_get_p1 | exact sm_get_p2e | refine sm_get_p1m (by decide) (by decide) ?_ | refine sm_get_p1n (by decide) rfl ?_ | refine sm_get_p2n (by decide) (by decide) rfl ?_)) (by repeat (first | exact q2 | exact sm_get_p1 | exact sm_get_p2e | refine sm_get_p1m (by decide) (by decide) ?_ | refine sm_get_p1n (by decide) rfl ?_ | refine sm_get_p2n (by decide) (by decide) rfl ?_)) (by repeat (first | exact q0 | exact sm_get_p1 | exact sm_get_p2e | refine sm_get_p1m (by decide) (by decide) ?_ | refine sm_get_p1n (by decide) rfl ?_ | refine sm_get_p2n (by decide) (by decide) rfl ?_))
theorem zChL_13 {d : Nat} {S : cS} {lv : sm_L} {la : Nat} {le : Nat} {k : Nat} {S1 : cS} {S2 : cS} {a : Nat} {S3 : cS} (q0 : sm_get lv 0 = some (.ref 61)) (q1 : sm_get lv 1 = some (.int (nI la))) (q2 : sm_get lv 2 = some (.int (nI le))) (q3 : sm_get lv 3 = some (.int (nI 1))) (mla : la < 2 ^ 20) (mle : le < 2 ^ 20) (hk : sI S 6115 = nI k) (mk : k < 6001) (c1 : Ans (d + 8) 306 [.ref 61, .int (nI 0)] (wI 6115 (nI (k + 1)) S) (some (.int (nI 1))) S1) (ma : a < 2 ^ 20) (c2 : Ans (d + 8) 325 [.ref 61, .int (nI 12)] S1 (some (.int (nI a))) S2) (c3 : Ans (d + 8) 334 [.ref 61, .int (nI la), .int (nI 0)] S2 (some (.int (nI 0))) S3) : Bod (d + 8) 333 7 lv [] S (some (.int 0)) (S3) := by
  refine Bod.ildnG dc_333_7 (by repeat (first | exact q3 | exact sm_get_p1 | exact sm_get_p2e | refine sm_get_p1m (by decide) (by decide) ?_ | refine sm_get_p1n (by decide) rfl ?_ | refine sm_get_p2n (by decide) (by decide) rfl ?_)) ?_
  refine Bod.ifF dc_333_8 rfl (k1_eq_F (k_ne 1 0 rfl rfl (by omega) (by omega) (by omega))) ?_
  refine Bod.aldnG dc_333_11 (by repeat (first | exact q0 | exact sm_get_p1 | exact sm_get_p2e | refine sm_get_p1m (by decide) (by decide) ?_ | refine sm_get_p1n (by decide) rfl ?_ | refine sm_get_p2n (by decide) (by decide) rfl ?_)) ?_
  refine Bod.go dc_333_12 rfl ?_
  refine Bod.get dc_333_13 fr_333_190 (mk_61 _) rfl ?_
  refine Bod.eqI (nI k) (by first | assumption | rfl | exact congrArg nI (by omega) | (simp (disch := omega) only [rI, rIe, rA, rIA, rLA, rJA, rVI, rQI, rVA, rQA, upd_at,  rAI, rLI, rJI, nI_add, pk_sub, kc_0, kc_1, kc_2, kc_3, kc_4, kc_5, reduceIte, Nat.reduceEqDiff, Nat.add_zero, rI_hold, rI_hold, rL_hold, hk]; done)) ?_
  refine Bod.ic 1 (by decide) dc_333_16 ?_
  refine Bod.addN (k + 1) (by omega) dc_333_17 ?_
  refine Bod.put dc_333_18 fr_333_190 (mk_61 _) (Nat.le_of_ble_eq_true rfl) pf_14_15 (st_6115 _ _) (mu_I _ _ _) ?_
  refine Bod.aldnG dc_333_21 (by repeat (first | exact q0 | exact sm_get_p1 | exact sm_get_p2e | refine sm_get_p1m (by decide) (by decide) ?_ | refine sm_get_p1n (by decide) rfl ?_ | refine sm_get_p2n (by decide) (by decide) rfl ?_)) ?_
  refine Bod.ic 0 (by decide) dc_333_22 ?_
  refine Bod.virt (r := []) dc_333_23 kr_333_302 ⟨Or.inl rfl, ow_306, cl_14⟩ (by rw [np_306]; rfl) (by rw [np_306]; rfl) (ob_of (mk_61 _)) (Nat.le_of_ble_eq_true rfl) (c1  ) ?_
  show Bod _ _ _ _ [_] _ _ _
  refine Bod.ifT dc_333_26 rfl (k1_ne_T (k_ne 1 0 rfl rfl (by omega) (by omega) (by omega))) ?_
  refine Bod.aldnG dc_333_31 (by repeat (first | exact q0 | exact sm_get_p1 | exact sm_get_p2e | refine sm_get_p1m (by decide) (by decide) ?_ | refine sm_get_p1n (by decide) rfl ?_ | refine sm_get_p2n (by decide) (by decide) rfl ?_)) ?_
  refine Bod.bip 12 (by decide) dc_333_32 ?_
  refine Bod.virt (r := []) dc_333_34 kr_333_305 ⟨Or.inl rfl, ow_325, cl_14⟩ (by rw [np_325]; rfl) (by rw [np_325]; rfl) (ob_of (mk_61 _)) (Nat.le_of_ble_eq_true rfl) (c2  ) ?_
  show Bod _ _ _ _ [_] _ _ _
  refine Bod.ist dc_333_37 (by rw [ml_333]; exact Nat.le_of_ble_eq_true rfl) ?_
  refine Bod.aldnG dc_333_39 (by repeat (first | exact q0 | exact sm_get_p1 | exact sm_get_p2e | refine sm_get_p1m (by decide) (by decide) ?_ | refine sm_get_p1n (by decide) rfl ?_ | refine sm_get_p2n (by decide) (by decide) rfl ?_)) ?_
  refine Bod.ildnG dc_333_40 (by repeat (first | exact q1 | exact sm_get_p1 | exact sm_get_p2e | refine sm_get_p1m (by decide) (by decide) ?_ | refine sm_get_p1n (by decide) rfl ?_ | refine sm_get_p2n (by decide) (by decide) rfl ?_)) ?_
  refine Bod.ic 0 (by decide) dc_333_41 ?_
  refine Bod.virt (r := []) dc_333_42 kr_333_309 ⟨Or.inl rfl, ow_334, cl_14⟩ (by rw [np_334]; rfl) (by rw [np_334]; rfl) (ob_of (mk_61 _)) (Nat.le_of_ble_eq_true rfl) (c3  ) ?_
  show Bod _ _ _ _ [_] _ _ _
  refine Bod.ifF dc_333_45 rfl (k1_ne_F (k_eq 0 0 rfl rfl (by omega))) ?_
  refine Bod.ic 0 (by decide) dc_333_48 ?_
  exact Bod.retZ dc_333_49 rt_333 (Or.inl rfl)
theorem zChL_14 {d : Nat} {S : cS} {lv : sm_L} {la : Nat} {le : Nat} {k : Nat} {S1 : cS} (q0 : sm_get lv 0 = some (.ref 61)) (q1 : sm_get lv 1 = some (.int (nI la))) (q2 : sm_get lv 2 = some (.int (nI le))) (q3 : sm_get lv 3 = some (.int (nI 1))) (mla : la < 2 ^ 20) (mle : le < 2 ^ 20) (hk : sI S 6115 = nI k) (mk : k < 6001) (c1 : Ans (d + 8) 306 [.ref 61, .int (nI 0)] (wI 6115 (nI (k + 1)) S) (some (.int (nI 0))) S1) : Bod (d + 8) 333 7 lv [] S (some (.int 0)) (S1) := by
  refine Bod.ildnG dc_333_7 (by repeat (first | exact q3 | exact sm_get_p1 | exact sm_get_p2e | refine sm_get_p1m (by decide) (by decide) ?_ | refine sm_get_p1n (by decide) rfl ?_ | refine sm_get_p2n (by decide) (by decide) rfl ?_)) ?_
  refine Bod.ifF dc_333_8 rfl (k1_eq_F (k_ne 1 0 rfl rfl (by omega) (by omega) (by omega))) ?_
  refine Bod.aldnG dc_333_11 (by repeat (first | exact q0 | exact sm_get_p1 | exact sm_get_p2e | refine sm_get_p1m (by decide) (by decide) ?_ | refine sm_get_p1n (by decide) rfl ?_ | refine sm_get_p2n (by decide) (by decide) rfl ?_)) ?_
  refine Bod.go dc_333_12 rfl ?_
  refine Bod.get dc_333_13 fr_333_190 (mk_61 _) rfl ?_
  refine Bod.eqI (nI k) (by first | assumption | rfl | exact congrArg nI (by omega) | (simp (disch := omega) only [rI, rIe, rA, rIA, rLA, rJA, rVI, rQI, rVA, rQA, upd_at,  rAI, rLI, rJI, nI_add, pk_sub, kc_0, kc_1, kc_2, kc_3, kc_4, kc_5, reduceIte, Nat.reduceEqDiff, Nat.add_zero, rI_hold, rI_hold, rL_hold, hk]; done)) ?_
  refine Bod.ic 1 (by decide) dc_333_16 ?_
  refine Bod.addN (k + 1) (by omega) dc_333_17 ?_
  refine Bod.put dc_333_18 fr_333_190 (mk_61 _) (Nat.le_of_ble_eq_true rfl) pf_14_15 (st_6115 _ _) (mu_I _ _ _) ?_
  refine Bod.aldnG dc_333_21 (by repeat (first | exact q0 | exact sm_get_p1 | exact sm_get_p2e | refine sm_get_p1m (by decide) (by decide) ?_ | refine sm_get_p1n (by decide) rfl ?_ | refine sm_get_p2n (by decide) (by decide) rfl ?_)) ?_
  refine Bod.ic 0 (by decide) dc_333_22 ?_
  refine Bod.virt (r := []) dc_333_23 kr_333_302 ⟨Or.inl rfl, ow_306, cl_14⟩ (by rw [np_306]; rfl) (by rw [np_306]; rfl) (ob_of (mk_61 _)) (Nat.le_of_ble_eq_true rfl) (c1  ) ?_
  show Bod _ _ _ _ [_] _ _ _
  refine Bod.ifF dc_333_26 rfl (k1_ne_F (k_eq 0 0 rfl rfl (by omega))) ?_
  refine Bod.ic 0 (by decide) dc_333_29 ?_
  exact Bod.retZ dc_333_30 rt_333 (Or.inl rfl)
theorem zChE_1 {d : Nat} {S Sf : cS} {v : Option Value} {lv : sm_L} {la : Nat} {le : Nat} (q0 : sm_get lv 0 = some (.ref 61)) (q1 : sm_get lv 1 = some (.int (nI la))) (q2 : sm_get lv 2 = some (.int (nI le))) (q3 : sm_get lv 3 = some (.int (nI 0))) (mla : la < 2 ^ 20) (mle : le < 2 ^ 20) (hB : ∀ lv1 : sm_L, sm_get lv1 0 = some (.ref 61) → sm_get lv1 2 = some (.int (nI le)) → sm_get lv1 4 = some (.int (nI le)) → Bod (d + 8) 333 208 lv1 [] (S) v Sf) : Bod (d + 8) 333 7 lv [] S v Sf := by
  refine Bod.ildnG dc_333_7 (by repeat (first | exact q3 | exact sm_get_p1 | exact sm_get_p2e | refine sm_get_p1m (by decide) (by decide) ?_ | refine sm_get_p1n (by decide) rfl ?_ | refine sm_get_p2n (by decide) (by decide) rfl ?_)) ?_
  refine Bod.ifT dc_333_8 rfl (k1_eq_T (k_eq 0 0 rfl rfl (by omega))) ?_
  refine Bod.ildnG dc_333_205 (by repeat (first | exact q2 | exact sm_get_p1 | exact sm_get_p2e | refine sm_get_p1m (by decide) (by decide) ?_ | refine sm_get_p1n (by decide) rfl ?_ | refine sm_get_p2n (by decide) (by decide) rfl ?_)) ?_
  refine Bod.ist dc_333_206 (by rw [ml_333]; exact Nat.le_of_ble_eq_true rfl) ?_
  exact hB _ (by repeat (first | exact q0 | exact sm_get_p1 | exact sm_get_p2e | refine sm_get_p1m (by decide) (by decide) ?_ | refine sm_get_p1n (by decide) rfl ?_ | refine sm_get_p2n (by decide) (by decide) rfl ?_)) (by repeat (first | exact q2 | exact sm_get_p1 | exact sm_get_p2e | refine sm_get_p1m (by decide) (by decide) ?_ | refine sm_get_p1n (by decide) rfl ?_ | refine sm_get_p2n (by decide) (by decide) rfl ?_)) (by repeat (first | exact q0 | exact sm_get_p1 | exact sm_get_p2e | refine sm_get_p1m (by decide) (by decide) ?_ | refine sm_get_p1n (by decide) rfl ?_ | refine sm_get_p2n (by decide) (by decide) rfl ?_))
theorem zChF_1 {d : Nat} {S : cS} {lv : sm_L} {le : Nat} {li : Nat} {en : Nat} (q0 : sm_get lv 0 = some (.ref 61)) (q2 : sm_get lv 2 = some (.int (nI le))) (q4 : sm_get lv 4 = some (.int (nI li))) (mle : le < 2 ^ 20) (mli : li < 2 ^ 20) (hen : sI S 6134 = nI en) (men : en < 3000) (b1 : en ≤ li) : Bod (d + 8) 333 208 lv [] S (some (.int 1)) (wI 6134 (nI le) S) := by
  refine Bod.ildG dc_333_208 (by repeat (first | exact q4 | exact sm_get_p1 | exact sm_get_p2e | refine sm_get_p1m (by decide) (by decide) ?_ | refine sm_get_p1n (by decide) rfl ?_ | refine sm_get_p2n (by decide) (by decide) rfl ?_)) ?_
  refine Bod.aldnG dc_333_210 (by repeat (first | exact q0 | exact sm_get_p1 | exact sm_get_p2e | refine sm_get_p1m (by decide) (by decide) ?_ | refine sm_get_p1n (by decide) rfl ?_ | refine sm_get_p2n (by decide) (by decide) rfl ?_)) ?_
  refine Bod.get dc_333_211 fr_333_251 (mk_61 _) rfl ?_
  refine Bod.eqI (nI en) (by first | assumption | rfl | exact congrArg nI (by omega) | (simp (disch := omega) only [rI, rIe, rA, rIA, rLA, rJA, rVI, rQI, rVA, rQA, upd_at,  rAI, rLI, rJI, nI_add, pk_sub, kc_0, kc_1, kc_2, kc_3, kc_4, kc_5, reduceIte, Nat.reduceEqDiff, Nat.add_zero, rI_hold, rI_hold, rL_hold, hen]; done)) ?_
  refine Bod.icT dc_333_214 rfl (k2_ge_T li en rfl rfl (by omega) (by omega)) ?_
  refine Bod.aldnG dc_333_234 (by repeat (first | exact q0 | exact sm_get_p1 | exact sm_get_p2e | refine sm_get_p1m (by decide) (by decide) ?_ | refine sm_get_p1n (by decide) rfl ?_ | refine sm_get_p2n (by decide) (by decide) rfl ?_)) ?_
  refine Bod.ildnG dc_333_235 (by repeat (first | exact q2 | exact sm_get_p1 | exact sm_get_p2e | refine sm_get_p1m (by decide) (by decide) ?_ | refine sm_get_p1n (by decide) rfl ?_ | refine sm_get_p2n (by decide) (by decide) rfl ?_)) ?_
  refine Bod.put dc_333_236 fr_333_251 (mk_61 _) (Nat.le_of_ble_eq_true rfl) pf_14_34 (st_6134 _ _) (mu_I _ _ _) ?_
  refine Bod.ic 1 (by decide) dc_333_239 ?_
  exact Bod.retZ dc_333_240 rt_333 (Or.inr rfl)
theorem zChF_2 {d : Nat} {S Sf : cS} {v : Option Value} {lv : sm_L} {le : Nat} {li : Nat} {en : Nat} {e81 : Nat} {S1 : cS} (q0 : sm_get lv 0 = some (.ref 61)) (q2 : sm_get lv 2 = some (.int (nI le))) (q4 : sm_get lv 4 = some (.int (nI li))) (mle : le < 2 ^ 20) (mli : li < 2 ^ 20) (hen : sI S 6134 = nI en) (men : en < 3000) (b1 : li < en) (b2 : li < 3000) (he81 : sA S 81 li = nI e81) (me81 : e81 < 2 ^ 20) (c1 : Ans (d + 8) 326 [.ref 61, .int (nI e81)] S none S1) (hB : ∀ lv1 : sm_L, sm_get lv1 0 = some (.ref 61) → sm_get lv1 2 = some (.int (nI le)) → sm_get lv1 4 = some (.int (nI (li + 1))) → Bod (d + 8) 333 208 lv1 [] (S1) v Sf) : Bod (d + 8) 333 208 lv [] S v Sf := by
  refine Bod.ildG dc_333_208 (by repeat (first | exact q4 | exact sm_get_p1 | exact sm_get_p2e | refine sm_get_p1m (by decide) (by decide) ?_ | refine sm_get_p1n (by decide) rfl ?_ | refine sm_get_p2n (by decide) (by decide) rfl ?_)) ?_
  refine Bod.aldnG dc_333_210 (by repeat (first | exact q0 | exact sm_get_p1 | exact sm_get_p2e | refine sm_get_p1m (by decide) (by decide) ?_ | refine sm_get_p1n (by decide) rfl ?_ | refine sm_get_p2n (by decide) (by decide) rfl ?_)) ?_
  refine Bod.get dc_333_211 fr_333_251 (mk_61 _) rfl ?_
  refine Bod.eqI (nI en) (by first | assumption | rfl | exact congrArg nI (by omega) | (simp (disch := omega) only [rI, rIe, rA, rIA, rLA, rJA, rVI, rQI, rVA, rQA, upd_at,  rAI, rLI, rJI, nI_add, pk_sub, kc_0, kc_1, kc_2, kc_3, kc_4, kc_5, reduceIte, Nat.reduceEqDiff, Nat.add_zero, rI_hold, rI_hold, rL_hold, hen]; done)) ?_
  refine Bod.icF dc_333_214 rfl (k2_ge_F li en rfl rfl (by omega) (by omega)) ?_
  refine Bod.aldnG dc_333_217 (by repeat (first | exact q0 | exact sm_get_p1 | exact sm_get_p2e | refine sm_get_p1m (by decide) (by decide) ?_ | refine sm_get_p1n (by decide) rfl ?_ | refine sm_get_p2n (by decide) (by decide) rfl ?_)) ?_
  refine Bod.aldnG dc_333_218 (by repeat (first | exact q0 | exact sm_get_p1 | exact sm_get_p2e | refine sm_get_p1m (by decide) (by decide) ?_ | refine sm_get_p1n (by decide) rfl ?_ | refine sm_get_p2n (by decide) (by decide) rfl ?_)) ?_
  refine Bod.get dc_333_219 fr_333_314 (mk_61 _) rfl ?_
  refine Bod.ildG dc_333_222 (by repeat (first | exact q4 | exact sm_get_p1 | exact sm_get_p2e | refine sm_get_p1m (by decide) (by decide) ?_ | refine sm_get_p1n (by decide) rfl ?_ | refine sm_get_p2n (by decide) (by decide) rfl ?_)) ?_
  refine Bod.ialdN li rfl (by omega) (by omega) dc_333_224 (mk_81 _) ?_
  refine Bod.eqI (nI e81) (by first | assumption | rfl | exact congrArg nI (by omega) | (simp (disch := omega) only [rI, rIe, rA, rIA, rLA, rJA, rVI, rQI, rVA, rQA, upd_at,  rAI, rLI, rJI, nI_add, pk_sub, kc_0, kc_1, kc_2, kc_3, kc_4, kc_5, reduceIte, Nat.reduceEqDiff, Nat.add_zero, rI_hold, rI_hold, rL_hold, hen, he81]; done)) ?_
  refine Bod.virt (r := []) dc_333_225 kr_333_317 ⟨Or.inl rfl, ow_326, cl_14⟩ (by rw [np_326]; rfl) (by rw [np_326]; rfl) (ob_of (mk_61 _)) (Nat.le_of_ble_eq_true rfl) (c1  ) ?_
  show Bod _ _ _ _ [] _ _ _
  refine Bod.incN (li + 1) (by rw [kc_1, nI_add]) dc_333_228 (by rw [ml_333]; exact Nat.le_of_ble_eq_true rfl) (by repeat (first | exact q4 | exact sm_get_p1 | exact sm_get_p2e | refine sm_get_p1m (by decide) (by decide) ?_ | refine sm_get_p1n (by decide) rfl ?_ | refine sm_get_p2n (by decide) (by decide) rfl ?_)) ?_
  refine Bod.go dc_333_231 rfl ?_
  exact hB _ (by repeat (first | exact q0 | exact sm_get_p1 | exact sm_get_p2e | refine sm_get_p1m (by decide) (by decide) ?_ | refine sm_get_p1n (by decide) rfl ?_ | refine sm_get_p2n (by decide) (by decide) rfl ?_)) (by repeat (first | exact q2 | exact sm_get_p1 | exact sm_get_p2e | refine sm_get_p1m (by decide) (by decide) ?_ | refine sm_get_p1n (by decide) rfl ?_ | refine sm_get_p2n (by decide) (by decide) rfl ?_)) (by repeat (first | exact q0 | exact sm_get_p1 | exact sm_get_p2e | refine sm_get_p1m (by decide) (by decide) ?_ | refine sm_get_p1n (by decide) rfl ?_ | refine sm_get_p2n (by decide) (by decide) rfl ?_))
theorem zBl_1 {d : Nat} {S : cS} {la : Nat} {lz : Nat} {S1 : cS} {S2 : cS} {k : Nat} {e67 : Nat} {S3 : cS} (mla : la < 2 ^ 20) (mlz : lz < 2 ^ 20) (c1 : Ans (d + 8) 323 [.ref 61, .int (nI 58)] S (some (.int (nI 1))) S1) (c2 : Ans (d + 8) 332 [.ref 61] S1 (some (.int (nI 1))) S2) (hk : sI S2 6115 = nI k) (mk : k < 6001) (he67 : sA S2 67 k = nI e67) (me67 : e67 < 2 ^ 20) (b1 : e67 = 7) (c3 : Ans (d + 8) 299 [.ref 61] S2 (some (.int (nI 0))) S3) : Bod (d + 8) 334 0 [(0, .ref 61), (1, .int (nI la)), (2, .int (nI lz))] [] S (some (.int 0)) (S3) := by
  refine Bod.go dc_334_0 rfl ?_
  refine Bod.bip 58 (by decide) dc_334_1 ?_
  refine Bod.virt (r := []) dc_334_3 kr_334_270 ⟨Or.inl rfl, ow_323, cl_14⟩ (by rw [np_323]; rfl) (by rw [np_323]; rfl) (ob_of (mk_61 _)) (Nat.le_of_ble_eq_true rfl) (c1  ) ?_
  show Bod _ _ _ _ [_] _ _ _
  refine Bod.ifF dc_334_6 rfl (k1_eq_F (k_ne 1 0 rfl rfl (by omega) (by omega) (by omega))) ?_
  refine Bod.go dc_334_9 rfl ?_
  refine Bod.virt (r := []) dc_334_10 kr_334_273 ⟨Or.inl rfl, ow_332, cl_14⟩ (by rw [np_332]; rfl) (by rw [np_332]; rfl) (ob_of (mk_61 _)) (Nat.le_of_ble_eq_true rfl) (c2  ) ?_
  show Bod _ _ _ _ [_] _ _ _
  refine Bod.ifT dc_334_13 rfl (k1_ne_T (k_ne 1 0 rfl rfl (by omega) (by omega) (by omega))) ?_
  refine Bod.go dc_334_18 rfl ?_
  refine Bod.get dc_334_19 fr_334_129 (mk_61 _) rfl ?_
  refine Bod.go dc_334_22 rfl ?_
  refine Bod.get dc_334_23 fr_334_190 (mk_61 _) rfl ?_
  refine Bod.eqI (nI k) (by first | (simp (disch := omega) only [rI, rIe, rA, rIA, rLA, rJA, rVI, rQI, rVA, rQA, upd_at,  rAI, rLI, rJI, nI_add, pk_sub, kc_0, kc_1, kc_2, kc_3, kc_4, kc_5, reduceIte, Nat.reduceEqDiff, Nat.add_zero, rI_hold, rI_hold, rL_hold, hk]; done) | (simp (disch := omega) only [rI, rIe, rA, rIA, rLA, rJA, rVI, rQI, rVA, rQA, upd_at,  rAI, rLI, rJI, nI_add, pk_sub, kc_0, kc_1, kc_2, kc_3, kc_4, kc_5, reduceIte, Nat.reduceEqDiff, Nat.add_zero, rI_hold, rI_hold, rL_hold, hk]; exact congrArg nI (by omega))) ?_
  refine Bod.ialdN k rfl (by omega) (by omega) dc_334_26 (mk_67 _) ?_
  refine Bod.eqI (nI e67) (by first | (simp (disch := omega) only [rI, rIe, rA, rIA, rLA, rJA, rVI, rQI, rVA, rQA, upd_at,  rAI, rLI, rJI, nI_add, pk_sub, kc_0, kc_1, kc_2, kc_3, kc_4, kc_5, reduceIte, Nat.reduceEqDiff, Nat.add_zero, rI_hold, rI_hold, rL_hold, hk, he67]; done) | (simp (disch := omega) only [rI, rIe, rA, rIA, rLA, rJA, rVI, rQI, rVA, rQA, upd_at,  rAI, rLI, rJI, nI_add, pk_sub, kc_0, kc_1, kc_2, kc_3, kc_4, kc_5, reduceIte, Nat.reduceEqDiff, Nat.add_zero, rI_hold, rI_hold, rL_hold, hk, he67]; exact congrArg nI (by omega))) ?_
  refine Bod.bip 7 (by decide) dc_334_27 ?_
  refine Bod.icT dc_334_29 rfl (k2_eq_T (k_eq e67 7 rfl rfl (by omega))) ?_
  refine Bod.go dc_334_54 rfl ?_
  refine Bod.virt (r := []) dc_334_55 kr_334_202 ⟨Or.inl rfl, ow_299, cl_14⟩ (by rw [np_299]; rfl) (by rw [np_299]; rfl) (ob_of (mk_61 _)) (Nat.le_of_ble_eq_true rfl) (c3  ) ?_
  show Bod _ _ _ _ [_] _ _ _
  exact Bod.retZ dc_334_58 rt_334 (Or.inl rfl)
theorem zBl_2 {d : Nat} {S : cS} {la : Nat} {lz : Nat} {S1 : cS} {S2 : cS} {k : Nat} {e67 : Nat} {e70 : Nat} {S3 : cS} (mla : la < 2 ^ 20) (mlz : lz < 2 ^ 20) (c1 : Ans (d + 8) 323 [.ref 61, .int (nI 58)] S (some (.int (nI 1))) S1) (c2 : Ans (d + 8) 332 [.ref 61] S1 (some (.int (nI 1))) S2) (hk : sI S2 6115 = nI k) (mk : k < 6001) (he67 : sA S2 67 k = nI e67) (me67 : e67 < 2 ^ 20) (b1 : e67 ≠ 7) (he70 : sA S2 70 k = nI e70) (me70 : e70 < 2 ^ 20) (b2 : e70 ≤ la) (c3 : Ans (d + 8) 299 [.ref 61] S2 (some (.int (nI 0))) S3) : Bod (d + 8) 334 0 [(0, .ref 61), (1, .int (nI la)), (2, .int (nI lz))] [] S (some (.int 0)) (S3) := by
  refine Bod.go dc_334_0 rfl ?_
  refine Bod.bip 58 (by decide) dc_334_1 ?_
  refine Bod.virt (r := []) dc_334_3 kr_334_270 ⟨Or.inl rfl, ow_323, cl_14⟩ (by rw [np_323]; rfl) (by rw [np_323]; rfl) (ob_of (mk_61 _)) (Nat.le_of_ble_eq_true rfl) (c1  ) ?_
  show Bod _ _ _ _ [_] _ _ _
  refine Bod.ifF dc_334_6 rfl (k1_eq_F (k_ne 1 0 rfl rfl (by omega) (by omega) (by omega))) ?_
  refine Bod.go dc_334_9 rfl ?_
  refine Bod.virt (r := []) dc_334_10 kr_334_273 ⟨Or.inl rfl, ow_332, cl_14⟩ (by rw [np_332]; rfl) (by rw [np_332]; rfl) (ob_of (mk_61 _)) (Nat.le_of_ble_eq_true rfl) (c2  ) ?_
  show Bod _ _ _ _ [_] _ _ _
  refine Bod.ifT dc_334_13 rfl (k1_ne_T (k_ne 1 0 rfl rfl (by omega) (by omega) (by omega))) ?_
  refine Bod.go dc_334_18 rfl ?_
  refine Bod.get dc_334_19 fr_334_129 (mk_61 _) rfl ?_
  refine Bod.go dc_334_22 rfl ?_
  refine Bod.get dc_334_23 fr_334_190 (mk_61 _) rfl ?_
  refine Bod.eqI (nI k) (by first | (simp (disch := omega) only [rI, rIe, rA, rIA, rLA, rJA, rVI, rQI, rVA, rQA, upd_at,  rAI, rLI, rJI, nI_add, pk_sub, kc_0, kc_1, kc_2, kc_3, kc_4, kc_5, reduceIte, Nat.reduceEqDiff, Nat.add_zero, rI_hold, rI_hold, rL_hold, hk]; done) | (simp (disch := omega) only [rI, rIe, rA, rIA, rLA, rJA, rVI, rQI, rVA, rQA, upd_at,  rAI, rLI, rJI, nI_add, pk_sub, kc_0, kc_1, kc_2, kc_3, kc_4, kc_5, reduceIte, Nat.reduceEqDiff, Nat.add_zero, rI_hold, rI_hold, rL_hold, hk]; exact congrArg nI (by omega))) ?_
  refine Bod.ialdN k rfl (by omega) (by omega) dc_334_26 (mk_67 _) ?_
  refine Bod.eqI (nI e67) (by first | (simp (disch := omega) only [rI, rIe, rA, rIA, rLA, rJA, rVI, rQI, rVA, rQA, upd_at,  rAI, rLI, rJI, nI_add, pk_sub, kc_0, kc_1, kc_2, kc_3, kc_4, kc_5, reduceIte, Nat.reduceEqDiff, Nat.add_zero, rI_hold, rI_hold, rL_hold, hk, he67]; done) | (simp (disch := omega) only [rI, rIe, rA, rIA, rLA, rJA, rVI, rQI, rVA, rQA, upd_at,  rAI, rLI, rJI, nI_add, pk_sub, kc_0, kc_1, kc_2, kc_3, kc_4, kc_5, reduceIte, Nat.reduceEqDiff, Nat.add_zero, rI_hold, rI_hold, rL_hold, hk, he67]; exact congrArg nI (by omega))) ?_
  refine Bod.bip 7 (by decide) dc_334_27 ?_
  refine Bod.icF dc_334_29 rfl (k2_eq_F (k_ne e67 7 rfl rfl (by omega) (by omega) (by omega))) ?_
  refine Bod.go dc_334_32 rfl ?_
  refine Bod.get dc_334_33 fr_334_141 (mk_61 _) rfl ?_
  refine Bod.go dc_334_36 rfl ?_
  refine Bod.get dc_334_37 fr_334_190 (mk_61 _) rfl ?_
  refine Bod.eqI (nI k) (by first | (simp (disch := omega) only [rI, rIe, rA, rIA, rLA, rJA, rVI, rQI, rVA, rQA, upd_at,  rAI, rLI, rJI, nI_add, pk_sub, kc_0, kc_1, kc_2, kc_3, kc_4, kc_5, reduceIte, Nat.reduceEqDiff, Nat.add_zero, rI_hold, rI_hold, rL_hold, hk, he67]; done) | (simp (disch := omega) only [rI, rIe, rA, rIA, rLA, rJA, rVI, rQI, rVA, rQA, upd_at,  rAI, rLI, rJI, nI_add, pk_sub, kc_0, kc_1, kc_2, kc_3, kc_4, kc_5, reduceIte, Nat.reduceEqDiff, Nat.add_zero, rI_hold, rI_hold, rL_hold, hk, he67]; exact congrArg nI (by omega))) ?_
  refine Bod.ialdN k rfl (by omega) (by omega) dc_334_40 (mk_70 _) ?_
  refine Bod.eqI (nI e70) (by first | (simp (disch := omega) only [rI, rIe, rA, rIA, rLA, rJA, rVI, rQI, rVA, rQA, upd_at,  rAI, rLI, rJI, nI_add, pk_sub, kc_0, kc_1, kc_2, kc_3, kc_4, kc_5, reduceIte, Nat.reduceEqDiff, Nat.add_zero, rI_hold, rI_hold, rL_hold, hk, he67, he70]; done) | (simp (disch := omega) only [rI, rIe, rA, rIA, rLA, rJA, rVI, rQI, rVA, rQA, upd_at,  rAI, rLI, rJI, nI_add, pk_sub, kc_0, kc_1, kc_2, kc_3, kc_4, kc_5, reduceIte, Nat.reduceEqDiff, Nat.add_zero, rI_hold, rI_hold, rL_hold, hk, he67, he70]; exact congrArg nI (by omega))) ?_
  refine Bod.go dc_334_41 rfl ?_
  refine Bod.icT dc_334_42 rfl (k2_le_T e70 la rfl rfl (by omega) (by omega)) ?_
  refine Bod.go dc_334_54 rfl ?_
  refine Bod.virt (r := []) dc_334_55 kr_334_202 ⟨Or.inl rfl, ow_299, cl_14⟩ (by rw [np_299]; rfl) (by rw [np_299]; rfl) (ob_of (mk_61 _)) (Nat.le_of_ble_eq_true rfl) (c3  ) ?_
  show Bod _ _ _ _ [_] _ _ _
  exact Bod.retZ dc_334_58 rt_334 (Or.inl rfl)
theorem zBl_3 {d : Nat} {S Sf : cS} {v : Option Value} {la : Nat} {lz : Nat} {S1 : cS} {S2 : cS} {k : Nat} {e67 : Nat} {e70 : Nat} {bl : Nat} (mla : la < 2 ^ 20) (mlz : lz < 2 ^ 20) (c1 : Ans (d + 8) 323 [.ref 61, .int (nI 58)] S (some (.int (nI 1))) S1) (c2 : Ans (d + 8) 332 [.ref 61] S1 (some (.int (nI 1))) S2) (hk : sI S2 6115 = nI k) (mk : k < 6001) (he67 : sA S2 67 k = nI e67) (me67 : e67 < 2 ^ 20) (b1 : e67 ≠ 7) (he70 : sA S2 70 k = nI e70) (me70 : e70 < 2 ^ 20) (b2 : la < e70) (hbl : sI S2 6117 = nI bl) (mbl : bl < 14) (b3 : bl ≠ 10) (hB : ∀ lv1 : sm_L, sm_get lv1 0 = some (.ref 61) → sm_get lv1 2 = some (.int (nI lz)) → sm_get lv1 3 = some (.int (nI e70)) → Bod (d + 8) 334 89 lv1 [] (wA 73 (bl + 1) (nI e70) (wI 6117 (nI (bl + 1)) S2)) v Sf) : Bod (d + 8) 334 0 [(0, .ref 61), (1, .int (nI la)), (2, .int (nI lz))] [] S v Sf := by
  refine Bod.go dc_334_0 rfl ?_
  refine Bod.bip 58 (by decide) dc_334_1 ?_
  refine Bod.virt (r := []) dc_334_3 kr_334_270 ⟨Or.inl rfl, ow_323, cl_14⟩ (by rw [np_323]; rfl) (by rw [np_323]; rfl) (ob_of (mk_61 _)) (Nat.le_of_ble_eq_true rfl) (c1  ) ?_
  show Bod _ _ _ _ [_] _ _ _
  refine Bod.ifF dc_334_6 rfl (k1_eq_F (k_ne 1 0 rfl rfl (by omega) (by omega) (by omega))) ?_
  refine Bod.go dc_334_9 rfl ?_
  refine Bod.virt (r := []) dc_334_10 kr_334_273 ⟨Or.inl rfl, ow_332, cl_14⟩ (by rw [np_332]; rfl) (by rw [np_332]; rfl) (ob_of (mk_61 _)) (Nat.le_of_ble_eq_true rfl) (c2  ) ?_
  show Bod _ _ _ _ [_] _ _ _
  refine Bod.ifT dc_334_13 rfl (k1_ne_T (k_ne 1 0 rfl rfl (by omega) (by omega) (by omega))) ?_
  refine Bod.go dc_334_18 rfl ?_
  refine Bod.get dc_334_19 fr_334_129 (mk_61 _) rfl ?_
  refine Bod.go dc_334_22 rfl ?_
  refine Bod.get dc_334_23 fr_334_190 (mk_61 _) rfl ?_
  refine Bod.eqI (nI k) (by first | (simp (disch := omega) only [rI, rIe, rA, rIA, rLA, rJA, rVI, rQI, rVA, rQA, upd_at,  rAI, rLI, rJI, nI_add, pk_sub, kc_0, kc_1, kc_2, kc_3, kc_4, kc_5, reduceIte, Nat.reduceEqDiff, Nat.add_zero, rI_hold, rI_hold, rL_hold, hk]; done) | (simp (disch := omega) only [rI, rIe, rA, rIA, rLA, rJA, rVI, rQI, rVA, rQA, upd_at,  rAI, rLI, rJI, nI_add, pk_sub, kc_0, kc_1, kc_2, kc_3, kc_4, kc_5, reduceIte, Nat.reduceEqDiff, Nat.add_zero, rI_hold, rI_hold, rL_hold, hk]; exact congrArg nI (by omega))) ?_
  refine Bod.ialdN k rfl (by omega) (by omega) dc_334_26 (mk_67 _) ?_
  refine Bod.eqI (nI e67) (by first | (simp (disch := omega) only [rI, rIe, rA, rIA, rLA, rJA, rVI, rQI, rVA, rQA, upd_at,  rAI, rLI, rJI, nI_add, pk_sub, kc_0, kc_1, kc_2, kc_3, kc_4, kc_5, reduceIte, Nat.reduceEqDiff, Nat.add_zero, rI_hold, rI_hold, rL_hold, hk, he67]; done) | (simp (disch := omega) only [rI, rIe, rA, rIA, rLA, rJA, rVI, rQI, rVA, rQA, upd_at,  rAI, rLI, rJI, nI_add, pk_sub, kc_0, kc_1, kc_2, kc_3, kc_4, kc_5, reduceIte, Nat.reduceEqDiff, Nat.add_zero, rI_hold, rI_hold, rL_hold, hk, he67]; exact congrArg nI (by omega))) ?_
  refine Bod.bip 7 (by decide) dc_334_27 ?_
  refine Bod.icF dc_334_29 rfl (k2_eq_F (k_ne e67 7 rfl rfl (by omega) (by omega) (by omega))) ?_
  refine Bod.go dc_334_32 rfl ?_
  refine Bod.get dc_334_33 fr_334_141 (mk_61 _) rfl ?_
  refine Bod.go dc_334_36 rfl ?_
  refine Bod.get dc_334_37 fr_334_190 (mk_61 _) rfl ?_
  refine Bod.eqI (nI k) (by first | (simp (disch := omega) only [rI, rIe, rA, rIA, rLA, rJA, rVI, rQI, rVA, rQA, upd_at,  rAI, rLI, rJI, nI_add, pk_sub, kc_0, kc_1, kc_2, kc_3, kc_4, kc_5, reduceIte, Nat.reduceEqDiff, Nat.add_zero, rI_hold, rI_hold, rL_hold, hk, he67]; done) | (simp (disch := omega) only [rI, rIe, rA, rIA, rLA, rJA, rVI, rQI, rVA, rQA, upd_at,  rAI, rLI, rJI, nI_add, pk_sub, kc_0, kc_1, kc_2, kc_3, kc_4, kc_5, reduceIte, Nat.reduceEqDiff, Nat.add_zero, rI_hold, rI_hold, rL_hold, hk, he67]; exact congrArg nI (by omega))) ?_
  refine Bod.ialdN k rfl (by omega) (by omega) dc_334_40 (mk_70 _) ?_
  refine Bod.eqI (nI e70) (by first | (simp (disch := omega) only [rI, rIe, rA, rIA, rLA, rJA, rVI, rQI, rVA, rQA, upd_at,  rAI, rLI, rJI, nI_add, pk_sub, kc_0, kc_1, kc_2, kc_3, kc_4, kc_5, reduceIte, Nat.reduceEqDiff, Nat.add_zero, rI_hold, rI_hold, rL_hold, hk, he67, he70]; done) | (simp (disch := omega) only [rI, rIe, rA, rIA, rLA, rJA, rVI, rQI, rVA, rQA, upd_at,  rAI, rLI, rJI, nI_add, pk_sub, kc_0, kc_1, kc_2, kc_3, kc_4, kc_5, reduceIte, Nat.reduceEqDiff, Nat.add_zero, rI_hold, rI_hold, rL_hold, hk, he67, he70]; exact congrArg nI (by omega))) ?_
  refine Bod.go dc_334_41 rfl ?_
  refine Bod.icF dc_334_42 rfl (k2_le_F e70 la rfl rfl (by omega) (by omega)) ?_
  refine Bod.go dc_334_45 rfl ?_
  refine Bod.get dc_334_46 fr_334_233 (mk_61 _) rfl ?_
  refine Bod.eqI (nI bl) (by first | (simp (disch := omega) only [rI, rIe, rA, rIA, rLA, rJA, rVI, rQI, rVA, rQA, upd_at,  rAI, rLI, rJI, nI_add, pk_sub, kc_0, kc_1, kc_2, kc_3, kc_4, kc_5, reduceIte, Nat.reduceEqDiff, Nat.add_zero, rI_hold, rI_hold, rL_hold, hk, he67, he70, hbl]; done) | (simp (disch := omega) only [rI, rIe, rA, rIA, rLA, rJA, rVI, rQI, rVA, rQA, upd_at,  rAI, rLI, rJI, nI_add, pk_sub, kc_0, kc_1, kc_2, kc_3, kc_4, kc_5, reduceIte, Nat.reduceEqDiff, Nat.add_zero, rI_hold, rI_hold, rL_hold, hk, he67, he70, hbl]; exact congrArg nI (by omega))) ?_
  refine Bod.bip 10 (by decide) dc_334_49 ?_
  refine Bod.icT dc_334_51 rfl (k2_ne_T (k_ne bl 10 rfl rfl (by omega) (by omega) (by omega))) ?_
  refine Bod.go dc_334_59 rfl ?_
  refine Bod.go dc_334_60 rfl ?_
  refine Bod.get dc_334_61 fr_334_233 (mk_61 _) rfl ?_
  refine Bod.eqI (nI bl) (by first | (simp (disch := omega) only [rI, rIe, rA, rIA, rLA, rJA, rVI, rQI, rVA, rQA, upd_at,  rAI, rLI, rJI, nI_add, pk_sub, kc_0, kc_1, kc_2, kc_3, kc_4, kc_5, reduceIte, Nat.reduceEqDiff, Nat.add_zero, rI_hold, rI_hold, rL_hold, hk, he67, he70, hbl]; done) | (simp (disch := omega) only [rI, rIe, rA, rIA, rLA, rJA, rVI, rQI, rVA, rQA, upd_at,  rAI, rLI, rJI, nI_add, pk_sub, kc_0, kc_1, kc_2, kc_3, kc_4, kc_5, reduceIte, Nat.reduceEqDiff, Nat.add_zero, rI_hold, rI_hold, rL_hold, hk, he67, he70, hbl]; exact congrArg nI (by omega))) ?_
  refine Bod.ic 1 (by decide) dc_334_64 ?_
  refine Bod.addN (bl + 1) (by omega) dc_334_65 ?_
  refine Bod.put dc_334_66 fr_334_233 (mk_61 _) (Nat.le_of_ble_eq_true rfl) pf_14_17 (st_6117 _ _) (mu_I _ _ _) ?_
  refine Bod.go dc_334_69 rfl ?_
  refine Bod.get dc_334_70 fr_334_141 (mk_61 _) rfl ?_
  refine Bod.go dc_334_73 rfl ?_
  refine Bod.get dc_334_74 fr_334_190 (mk_61 _) rfl ?_
  refine Bod.eqI (nI k) (by first | (simp (disch := omega) only [rI, rIe, rA, rIA, rLA, rJA, rVI, rQI, rVA, rQA, upd_at,  rAI, rLI, rJI, nI_add, pk_sub, kc_0, kc_1, kc_2, kc_3, kc_4, kc_5, reduceIte, Nat.reduceEqDiff, Nat.add_zero, rI_hold, rI_hold, rL_hold, hk, he67, he70, hbl]; done) | (simp (disch := omega) only [rI, rIe, rA, rIA, rLA, rJA, rVI, rQI, rVA, rQA, upd_at,  rAI, rLI, rJI, nI_add, pk_sub, kc_0, kc_1, kc_2, kc_3, kc_4, kc_5, reduceIte, Nat.reduceEqDiff, Nat.add_zero, rI_hold, rI_hold, rL_hold, hk, he67, he70, hbl]; exact congrArg nI (by omega))) ?_
  refine Bod.ialdN k rfl (by omega) (by omega) dc_334_77 (mk_70 _) ?_
  refine Bod.eqI (nI e70) (by first | (simp (disch := omega) only [rI, rIe, rA, rIA, rLA, rJA, rVI, rQI, rVA, rQA, upd_at,  rAI, rLI, rJI, nI_add, pk_sub, kc_0, kc_1, kc_2, kc_3, kc_4, kc_5, reduceIte, Nat.reduceEqDiff, Nat.add_zero, rI_hold, rI_hold, rL_hold, hk, he67, he70, hbl]; done) | (simp (disch := omega) only [rI, rIe, rA, rIA, rLA, rJA, rVI, rQI, rVA, rQA, upd_at,  rAI, rLI, rJI, nI_add, pk_sub, kc_0, kc_1, kc_2, kc_3, kc_4, kc_5, reduceIte, Nat.reduceEqDiff, Nat.add_zero, rI_hold, rI_hold, rL_hold, hk, he67, he70, hbl]; exact congrArg nI (by omega))) ?_
  refine Bod.istn dc_334_78 (by rw [ml_334]; exact Nat.le_of_ble_eq_true rfl) ?_
  refine Bod.go dc_334_79 rfl ?_
  refine Bod.get dc_334_80 fr_334_263 (mk_61 _) rfl ?_
  refine Bod.go dc_334_83 rfl ?_
  refine Bod.get dc_334_84 fr_334_233 (mk_61 _) rfl ?_
  refine Bod.eqI (nI (bl + 1)) (by first | (simp (disch := omega) only [rI, rIe, rA, rIA, rLA, rJA, rVI, rQI, rVA, rQA, upd_at,  rAI, rLI, rJI, nI_add, pk_sub, kc_0, kc_1, kc_2, kc_3, kc_4, kc_5, reduceIte, Nat.reduceEqDiff, Nat.add_zero, rI_hold, rI_hold, rL_hold, hk, he67, he70, hbl]; done) | (simp (disch := omega) only [rI, rIe, rA, rIA, rLA, rJA, rVI, rQI, rVA, rQA, upd_at,  rAI, rLI, rJI, nI_add, pk_sub, kc_0, kc_1, kc_2, kc_3, kc_4, kc_5, reduceIte, Nat.reduceEqDiff, Nat.add_zero, rI_hold, rI_hold, rL_hold, hk, he67, he70, hbl]; exact congrArg nI (by omega))) ?_
  refine Bod.go dc_334_87 rfl ?_
  refine Bod.iastN (bl + 1) rfl (by omega) (by omega) dc_334_88 (mk_73 _) (sa_73 _ _ _) (mu_A _ _ _ _) ?_
  exact hB _ (by first | rfl | exact (by repeat (first | exact rfl | exact sm_get_p1 | exact sm_get_p2e | refine sm_get_p1m (by decide) (by decide) ?_ | refine sm_get_p1n (by decide) rfl ?_ | refine sm_get_p2n (by decide) (by decide) rfl ?_))) (by first | rfl | exact (by repeat (first | exact rfl | exact sm_get_p1 | exact sm_get_p2e | refine sm_get_p1m (by decide) (by decide) ?_ | refine sm_get_p1n (by decide) rfl ?_ | refine sm_get_p2n (by decide) (by decide) rfl ?_))) (by first | rfl | exact (by repeat (first | exact rfl | exact sm_get_p1 | exact sm_get_p2e | refine sm_get_p1m (by decide) (by decide) ?_ | refine sm_get_p1n (by decide) rfl ?_ | refine sm_get_p2n (by decide) (by decide) rfl ?_)))
theorem zBl_4 {d : Nat} {S : cS} {la : Nat} {lz : Nat} {S1 : cS} {S2 : cS} {k : Nat} {e67 : Nat} {e70 : Nat} {bl : Nat} {S3 : cS} (mla : la < 2 ^ 20) (mlz : lz < 2 ^ 20) (c1 : Ans (d + 8) 323 [.ref 61, .int (nI 58)] S (some (.int (nI 1))) S1) (c2 : Ans (d + 8) 332 [.ref 61] S1 (some (.int (nI 1))) S2) (hk : sI S2 6115 = nI k) (mk : k < 6001) (he67 : sA S2 67 k = nI e67) (me67 : e67 < 2 ^ 20) (b1 : e67 ≠ 7) (he70 : sA S2 70 k = nI e70) (me70 : e70 < 2 ^ 20) (b2 : la < e70) (hbl : sI S2 6117 = nI bl) (mbl : bl < 14) (b3 : bl = 10) (c3 : Ans (d + 8) 299 [.ref 61] S2 (some (.int (nI 0))) S3) : Bod (d + 8) 334 0 [(0, .ref 61), (1, .int (nI la)), (2, .int (nI lz))] [] S (some (.int 0)) (S3) := by
  refine Bod.go dc_334_0 rfl ?_
  refine Bod.bip 58 (by decide) dc_334_1 ?_
  refine Bod.virt (r := []) dc_334_3 kr_334_270 ⟨Or.inl rfl, ow_323, cl_14⟩ (by rw [np_323]; rfl) (by rw [np_323]; rfl) (ob_of (mk_61 _)) (Nat.le_of_ble_eq_true rfl) (c1  ) ?_
  show Bod _ _ _ _ [_] _ _ _
  refine Bod.ifF dc_334_6 rfl (k1_eq_F (k_ne 1 0 rfl rfl (by omega) (by omega) (by omega))) ?_
  refine Bod.go dc_334_9 rfl ?_
  refine Bod.virt (r := []) dc_334_10 kr_334_273 ⟨Or.inl rfl, ow_332, cl_14⟩ (by rw [np_332]; rfl) (by rw [np_332]; rfl) (ob_of (mk_61 _)) (Nat.le_of_ble_eq_true rfl) (c2  ) ?_
  show Bod _ _ _ _ [_] _ _ _
  refine Bod.ifT dc_334_13 rfl (k1_ne_T (k_ne 1 0 rfl rfl (by omega) (by omega) (by omega))) ?_
  refine Bod.go dc_334_18 rfl ?_
  refine Bod.get dc_334_19 fr_334_129 (mk_61 _) rfl ?_
  refine Bod.go dc_334_22 rfl ?_
  refine Bod.get dc_334_23 fr_334_190 (mk_61 _) rfl ?_
  refine Bod.eqI (nI k) (by first | (simp (disch := omega) only [rI, rIe, rA, rIA, rLA, rJA, rVI, rQI, rVA, rQA, upd_at,  rAI, rLI, rJI, nI_add, pk_sub, kc_0, kc_1, kc_2, kc_3, kc_4, kc_5, reduceIte, Nat.reduceEqDiff, Nat.add_zero, rI_hold, rI_hold, rL_hold, hk]; done) | (simp (disch := omega) only [rI, rIe, rA, rIA, rLA, rJA, rVI, rQI, rVA, rQA, upd_at,  rAI, rLI, rJI, nI_add, pk_sub, kc_0, kc_1, kc_2, kc_3, kc_4, kc_5, reduceIte, Nat.reduceEqDiff, Nat.add_zero, rI_hold, rI_hold, rL_hold, hk]; exact congrArg nI (by omega))) ?_
  refine Bod.ialdN k rfl (by omega) (by omega) dc_334_26 (mk_67 _) ?_
  refine Bod.eqI (nI e67) (by first | (simp (disch := omega) only [rI, rIe, rA, rIA, rLA, rJA, rVI, rQI, rVA, rQA, upd_at,  rAI, rLI, rJI, nI_add, pk_sub, kc_0, kc_1, kc_2, kc_3, kc_4, kc_5, reduceIte, Nat.reduceEqDiff, Nat.add_zero, rI_hold, rI_hold, rL_hold, hk, he67]; done) | (simp (disch := omega) only [rI, rIe, rA, rIA, rLA, rJA, rVI, rQI, rVA, rQA, upd_at,  rAI, rLI, rJI, nI_add, pk_sub, kc_0, kc_1, kc_2, kc_3, kc_4, kc_5, reduceIte, Nat.reduceEqDiff, Nat.add_zero, rI_hold, rI_hold, rL_hold, hk, he67]; exact congrArg nI (by omega))) ?_
  refine Bod.bip 7 (by decide) dc_334_27 ?_
  refine Bod.icF dc_334_29 rfl (k2_eq_F (k_ne e67 7 rfl rfl (by omega) (by omega) (by omega))) ?_
  refine Bod.go dc_334_32 rfl ?_
  refine Bod.get dc_334_33 fr_334_141 (mk_61 _) rfl ?_
  refine Bod.go dc_334_36 rfl ?_
  refine Bod.get dc_334_37 fr_334_190 (mk_61 _) rfl ?_
  refine Bod.eqI (nI k) (by first | (simp (disch := omega) only [rI, rIe, rA, rIA, rLA, rJA, rVI, rQI, rVA, rQA, upd_at,  rAI, rLI, rJI, nI_add, pk_sub, kc_0, kc_1, kc_2, kc_3, kc_4, kc_5, reduceIte, Nat.reduceEqDiff, Nat.add_zero, rI_hold, rI_hold, rL_hold, hk, he67]; done) | (simp (disch := omega) only [rI, rIe, rA, rIA, rLA, rJA, rVI, rQI, rVA, rQA, upd_at,  rAI, rLI, rJI, nI_add, pk_sub, kc_0, kc_1, kc_2, kc_3, kc_4, kc_5, reduceIte, Nat.reduceEqDiff, Nat.add_zero, rI_hold, rI_hold, rL_hold, hk, he67]; exact congrArg nI (by omega))) ?_
  refine Bod.ialdN k rfl (by omega) (by omega) dc_334_40 (mk_70 _) ?_
  refine Bod.eqI (nI e70) (by first | (simp (disch := omega) only [rI, rIe, rA, rIA, rLA, rJA, rVI, rQI, rVA, rQA, upd_at,  rAI, rLI, rJI, nI_add, pk_sub, kc_0, kc_1, kc_2, kc_3, kc_4, kc_5, reduceIte, Nat.reduceEqDiff, Nat.add_zero, rI_hold, rI_hold, rL_hold, hk, he67, he70]; done) | (simp (disch := omega) only [rI, rIe, rA, rIA, rLA, rJA, rVI, rQI, rVA, rQA, upd_at,  rAI, rLI, rJI, nI_add, pk_sub, kc_0, kc_1, kc_2, kc_3, kc_4, kc_5, reduceIte, Nat.reduceEqDiff, Nat.add_zero, rI_hold, rI_hold, rL_hold, hk, he67, he70]; exact congrArg nI (by omega))) ?_
  refine Bod.go dc_334_41 rfl ?_
  refine Bod.icF dc_334_42 rfl (k2_le_F e70 la rfl rfl (by omega) (by omega)) ?_
  refine Bod.go dc_334_45 rfl ?_
  refine Bod.get dc_334_46 fr_334_233 (mk_61 _) rfl ?_
  refine Bod.eqI (nI bl) (by first | (simp (disch := omega) only [rI, rIe, rA, rIA, rLA, rJA, rVI, rQI, rVA, rQA, upd_at,  rAI, rLI, rJI, nI_add, pk_sub, kc_0, kc_1, kc_2, kc_3, kc_4, kc_5, reduceIte, Nat.reduceEqDiff, Nat.add_zero, rI_hold, rI_hold, rL_hold, hk, he67, he70, hbl]; done) | (simp (disch := omega) only [rI, rIe, rA, rIA, rLA, rJA, rVI, rQI, rVA, rQA, upd_at,  rAI, rLI, rJI, nI_add, pk_sub, kc_0, kc_1, kc_2, kc_3, kc_4, kc_5, reduceIte, Nat.reduceEqDiff, Nat.add_zero, rI_hold, rI_hold, rL_hold, hk, he67, he70, hbl]; exact congrArg nI (by omega))) ?_
  refine Bod.bip 10 (by decide) dc_334_49 ?_
  refine Bod.icF dc_334_51 rfl (k2_ne_F (k_eq bl 10 rfl rfl (by omega))) ?_
  refine Bod.go dc_334_54 rfl ?_
  refine Bod.virt (r := []) dc_334_55 kr_334_202 ⟨Or.inl rfl, ow_299, cl_14⟩ (by rw [np_299]; rfl) (by rw [np_299]; rfl) (ob_of (mk_61 _)) (Nat.le_of_ble_eq_true rfl) (c3  ) ?_
  show Bod _ _ _ _ [_] _ _ _
  exact Bod.retZ dc_334_58 rt_334 (Or.inl rfl)
theorem zBl_5 {d : Nat} {S : cS} {la : Nat} {lz : Nat} {S1 : cS} {S2 : cS} (mla : la < 2 ^ 20) (mlz : lz < 2 ^ 20) (c1 : Ans (d + 8) 323 [.ref 61, .int (nI 58)] S (some (.int (nI 1))) S1) (c2 : Ans (d + 8) 332 [.ref 61] S1 (some (.int (nI 0))) S2) : Bod (d + 8) 334 0 [(0, .ref 61), (1, .int (nI la)), (2, .int (nI lz))] [] S (some (.int 0)) (S2) := by
  refine Bod.go dc_334_0 rfl ?_
  refine Bod.bip 58 (by decide) dc_334_1 ?_
  refine Bod.virt (r := []) dc_334_3 kr_334_270 ⟨Or.inl rfl, ow_323, cl_14⟩ (by rw [np_323]; rfl) (by rw [np_323]; rfl) (ob_of (mk_61 _)) (Nat.le_of_ble_eq_true rfl) (c1  ) ?_
  show Bod _ _ _ _ [_] _ _ _
  refine Bod.ifF dc_334_6 rfl (k1_eq_F (k_ne 1 0 rfl rfl (by omega) (by omega) (by omega))) ?_
  refine Bod.go dc_334_9 rfl ?_
  refine Bod.virt (r := []) dc_334_10 kr_334_273 ⟨Or.inl rfl, ow_332, cl_14⟩ (by rw [np_332]; rfl) (by rw [np_332]; rfl) (ob_of (mk_61 _)) (Nat.le_of_ble_eq_true rfl) (c2  ) ?_
  show Bod _ _ _ _ [_] _ _ _
  refine Bod.ifF dc_334_13 rfl (k1_ne_F (k_eq 0 0 rfl rfl (by omega))) ?_
  refine Bod.ic 0 (by decide) dc_334_16 ?_
  exact Bod.retZ dc_334_17 rt_334 (Or.inl rfl)
theorem zBl_6 {d : Nat} {S : cS} {la : Nat} {lz : Nat} {S1 : cS} (mla : la < 2 ^ 20) (mlz : lz < 2 ^ 20) (c1 : Ans (d + 8) 323 [.ref 61, .int (nI 58)] S (some (.int (nI 0))) S1) : Bod (d + 8) 334 0 [(0, .ref 61), (1, .int (nI la)), (2, .int (nI lz))] [] S (some (.int 0)) (S1) := by
  refine Bod.go dc_334_0 rfl ?_
  refine Bod.bip 58 (by decide) dc_334_1 ?_
  refine Bod.virt (r := []) dc_334_3 kr_334_270 ⟨Or.inl rfl, ow_323, cl_14⟩ (by rw [np_323]; rfl) (by rw [np_323]; rfl) (ob_of (mk_61 _)) (Nat.le_of_ble_eq_true rfl) (c1  ) ?_
  show Bod _ _ _ _ [_] _ _ _
  refine Bod.ifT dc_334_6 rfl (k1_eq_T (k_eq 0 0 rfl rfl (by omega))) ?_
  refine Bod.ic 0 (by decide) dc_334_16 ?_
  exact Bod.retZ dc_334_17 rt_334 (Or.inl rfl)
theorem zBlL_1 {d : Nat} {S : cS} {lv : sm_L} {lz : Nat} {li : Nat} {k : Nat} {e67 : Nat} {bl : Nat} (q0 : sm_get lv 0 = some (.ref 61)) (q2 : sm_get lv 2 = some (.int (nI lz))) (q3 : sm_get lv 3 = some (.int (nI li))) (mlz : lz < 2 ^ 20) (mli : li < 2 ^ 20) (hk : sI S 6115 = nI k) (mk : k < 6001) (he67 : sA S 67 k = nI e67) (me67 : e67 < 2 ^ 20) (b1 : e67 = 7) (hbl : sI S 6117 = nI bl) (mbl : bl < 14) (b2 : 1 ≤ bl) : Bod (d + 8) 334 89 lv [] S (some (.int 1)) (wI 6117 (nI (bl - 1)) S) := by
  refine Bod.aldnG dc_334_89 (by repeat (first | exact q0 | exact sm_get_p1 | exact sm_get_p2e | refine sm_get_p1m (by decide) (by decide) ?_ | refine sm_get_p1n (by decide) rfl ?_ | refine sm_get_p2n (by decide) (by decide) rfl ?_)) ?_
  refine Bod.get dc_334_90 fr_334_129 (mk_61 _) rfl ?_
  refine Bod.aldnG dc_334_93 (by repeat (first | exact q0 | exact sm_get_p1 | exact sm_get_p2e | refine sm_get_p1m (by decide) (by decide) ?_ | refine sm_get_p1n (by decide) rfl ?_ | refine sm_get_p2n (by decide) (by decide) rfl ?_)) ?_
  refine Bod.get dc_334_94 fr_334_190 (mk_61 _) rfl ?_
  refine Bod.eqI (nI k) (by first | assumption | rfl | exact congrArg nI (by omega) | (simp (disch := omega) only [rI, rIe, rA, rIA, rLA, rJA, rVI, rQI, rVA, rQA, upd_at,  rAI, rLI, rJI, nI_add, pk_sub, kc_0, kc_1, kc_2, kc_3, kc_4, kc_5, reduceIte, Nat.reduceEqDiff, Nat.add_zero, rI_hold, rI_hold, rL_hold, hk]; done)) ?_
  refine Bod.ialdN k rfl (by omega) (by omega) dc_334_97 (mk_67 _) ?_
  refine Bod.eqI (nI e67) (by first | assumption | rfl | exact congrArg nI (by omega) | (simp (disch := omega) only [rI, rIe, rA, rIA, rLA, rJA, rVI, rQI, rVA, rQA, upd_at,  rAI, rLI, rJI, nI_add, pk_sub, kc_0, kc_1, kc_2, kc_3, kc_4, kc_5, reduceIte, Nat.reduceEqDiff, Nat.add_zero, rI_hold, rI_hold, rL_hold, hk, he67]; done)) ?_
  refine Bod.bip 7 (by decide) dc_334_98 ?_
  refine Bod.icT dc_334_100 rfl (k2_eq_T (k_eq e67 7 rfl rfl (by omega))) ?_
  refine Bod.aldnG dc_334_157 (by repeat (first | exact q0 | exact sm_get_p1 | exact sm_get_p2e | refine sm_get_p1m (by decide) (by decide) ?_ | refine sm_get_p1n (by decide) rfl ?_ | refine sm_get_p2n (by decide) (by decide) rfl ?_)) ?_
  refine Bod.go dc_334_158 rfl ?_
  refine Bod.get dc_334_159 fr_334_233 (mk_61 _) rfl ?_
  refine Bod.eqI (nI bl) (by first | assumption | rfl | exact congrArg nI (by omega) | (simp (disch := omega) only [rI, rIe, rA, rIA, rLA, rJA, rVI, rQI, rVA, rQA, upd_at,  rAI, rLI, rJI, nI_add, pk_sub, kc_0, kc_1, kc_2, kc_3, kc_4, kc_5, reduceIte, Nat.reduceEqDiff, Nat.add_zero, rI_hold, rI_hold, rL_hold, hk, he67, hbl]; done)) ?_
  refine Bod.ic 1 (by decide) dc_334_162 ?_
  refine Bod.subN (bl - 1) (by omega) (by omega) dc_334_163 ?_
  refine Bod.put dc_334_164 fr_334_233 (mk_61 _) (Nat.le_of_ble_eq_true rfl) pf_14_17 (st_6117 _ _) (mu_I _ _ _) ?_
  refine Bod.aldnG dc_334_167 (by repeat (first | exact q0 | exact sm_get_p1 | exact sm_get_p2e | refine sm_get_p1m (by decide) (by decide) ?_ | refine sm_get_p1n (by decide) rfl ?_ | refine sm_get_p2n (by decide) (by decide) rfl ?_)) ?_
  refine Bod.get dc_334_168 fr_334_129 (mk_61 _) rfl ?_
  refine Bod.aldnG dc_334_171 (by repeat (first | exact q0 | exact sm_get_p1 | exact sm_get_p2e | refine sm_get_p1m (by decide) (by decide) ?_ | refine sm_get_p1n (by decide) rfl ?_ | refine sm_get_p2n (by decide) (by decide) rfl ?_)) ?_
  refine Bod.get dc_334_172 fr_334_190 (mk_61 _) rfl ?_
  refine Bod.eqI (nI k) (by first | (simp (disch := omega) only [rI, rIe, rA, rIA, rLA, rJA, rVI, rQI, rVA, rQA, upd_at,  rAI, rLI, rJI, nI_add, pk_sub, kc_0, kc_1, kc_2, kc_3, kc_4, kc_5, reduceIte, Nat.reduceEqDiff, Nat.add_zero, rI_hold, rI_hold, rL_hold, hk, he67, hbl]; done) | (simp (disch := omega) only [rI, rIe, rA, rIA, rLA, rJA, rVI, rQI, rVA, rQA, upd_at,  rAI, rLI, rJI, nI_add, pk_sub, kc_0, kc_1, kc_2, kc_3, kc_4, kc_5, reduceIte, Nat.reduceEqDiff, Nat.add_zero, rI_hold, rI_hold, rL_hold, hk, he67, hbl]; exact congrArg nI (by omega))) ?_
  refine Bod.ialdN k rfl (by omega) (by omega) dc_334_175 (mk_67 _) ?_
  refine Bod.eqI (nI e67) (by first | (simp (disch := omega) only [rI, rIe, rA, rIA, rLA, rJA, rVI, rQI, rVA, rQA, upd_at,  rAI, rLI, rJI, nI_add, pk_sub, kc_0, kc_1, kc_2, kc_3, kc_4, kc_5, reduceIte, Nat.reduceEqDiff, Nat.add_zero, rI_hold, rI_hold, rL_hold, hk, he67, hbl]; done) | (simp (disch := omega) only [rI, rIe, rA, rIA, rLA, rJA, rVI, rQI, rVA, rQA, upd_at,  rAI, rLI, rJI, nI_add, pk_sub, kc_0, kc_1, kc_2, kc_3, kc_4, kc_5, reduceIte, Nat.reduceEqDiff, Nat.add_zero, rI_hold, rI_hold, rL_hold, hk, he67, hbl]; exact congrArg nI (by omega))) ?_
  refine Bod.bip 7 (by decide) dc_334_176 ?_
  refine Bod.icF dc_334_178 rfl (k2_ne_F (k_eq e67 7 rfl rfl (by omega))) ?_
  refine Bod.ic 1 (by decide) dc_334_181 ?_
  exact Bod.retZ dc_334_182 rt_334 (Or.inr rfl)
theorem zBlL_2 {d : Nat} {S Sf : cS} {v : Option Value} {lv : sm_L} {lz : Nat} {li : Nat} {k : Nat} {e67 : Nat} {e70 : Nat} {bl : Nat} (q0 : sm_get lv 0 = some (.ref 61)) (q2 : sm_get lv 2 = some (.int (nI lz))) (q3 : sm_get lv 3 = some (.int (nI li))) (mlz : lz < 2 ^ 20) (mli : li < 2 ^ 20) (hk : sI S 6115 = nI k) (mk : k < 6001) (he67 : sA S 67 k = nI e67) (me67 : e67 < 2 ^ 20) (b1 : e67 ≠ 7) (he70 : sA S 70 k = nI e70) (me70 : e70 < 2 ^ 20) (b2 : e70 < li) (hbl : sI S 6117 = nI bl) (mbl : bl < 14) (b3 : 1 ≤ bl) (hB : ∀ lv1 : sm_L, sm_get lv1 0 = some (.ref 61) → sm_get lv1 4 = some (.int (nI 0)) → Bod (d + 8) 334 186 lv1 [] (wI 6117 (nI (bl - 1)) S) v Sf) : Bod (d + 8) 334 89 lv [] S v Sf := by
  refine Bod.aldnG dc_334_89 (by repeat (first | exact q0 | exact sm_get_p1 | exact sm_get_p2e | refine sm_get_p1m (by decide) (by decide) ?_ | refine sm_get_p1n (by decide) rfl ?_ | refine sm_get_p2n (by decide) (by decide) rfl ?_)) ?_
  refine Bod.get dc_334_90 fr_334_129 (mk_61 _) rfl ?_
  refine Bod.aldnG dc_334_93 (by repeat (first | exact q0 | exact sm_get_p1 | exact sm_get_p2e | refine sm_get_p1m (by decide) (by decide) ?_ | refine sm_get_p1n (by decide) rfl ?_ | refine sm_get_p2n (by decide) (by decide) rfl ?_)) ?_
  refine Bod.get dc_334_94 fr_334_190 (mk_61 _) rfl ?_
  refine Bod.eqI (nI k) (by first | assumption | rfl | exact congrArg nI (by omega) | (simp (disch := omega) only [rI, rIe, rA, rIA, rLA, rJA, rVI, rQI, rVA, rQA, upd_at,  rAI, rLI, rJI, nI_add, pk_sub, kc_0, kc_1, kc_2, kc_3, kc_4, kc_5, reduceIte, Nat.reduceEqDiff, Nat.add_zero, rI_hold, rI_hold, rL_hold, hk]; done)) ?_
  refine Bod.ialdN k rfl (by omega) (by omega) dc_334_97 (mk_67 _) ?_
  refine Bod.eqI (nI e67) (by first | assumption | rfl | exact congrArg nI (by omega) | (simp (disch := omega) only [rI, rIe, rA, rIA, rLA, rJA, rVI, rQI, rVA, rQA, upd_at,  rAI, rLI, rJI, nI_add, pk_sub, kc_0, kc_1, kc_2, kc_3, kc_4, kc_5, reduceIte, Nat.reduceEqDiff, Nat.add_zero, rI_hold, rI_hold, rL_hold, hk, he67]; done)) ?_
  refine Bod.bip 7 (by decide) dc_334_98 ?_
  refine Bod.icF dc_334_100 rfl (k2_eq_F (k_ne e67 7 rfl rfl (by omega) (by omega) (by omega))) ?_
  refine Bod.aldnG dc_334_103 (by repeat (first | exact q0 | exact sm_get_p1 | exact sm_get_p2e | refine sm_get_p1m (by decide) (by decide) ?_ | refine sm_get_p1n (by decide) rfl ?_ | refine sm_get_p2n (by decide) (by decide) rfl ?_)) ?_
  refine Bod.get dc_334_104 fr_334_141 (mk_61 _) rfl ?_
  refine Bod.aldnG dc_334_107 (by repeat (first | exact q0 | exact sm_get_p1 | exact sm_get_p2e | refine sm_get_p1m (by decide) (by decide) ?_ | refine sm_get_p1n (by decide) rfl ?_ | refine sm_get_p2n (by decide) (by decide) rfl ?_)) ?_
  refine Bod.get dc_334_108 fr_334_190 (mk_61 _) rfl ?_
  refine Bod.eqI (nI k) (by first | assumption | rfl | exact congrArg nI (by omega) | (simp (disch := omega) only [rI, rIe, rA, rIA, rLA, rJA, rVI, rQI, rVA, rQA, upd_at,  rAI, rLI, rJI, nI_add, pk_sub, kc_0, kc_1, kc_2, kc_3, kc_4, kc_5, reduceIte, Nat.reduceEqDiff, Nat.add_zero, rI_hold, rI_hold, rL_hold, hk, he67]; done)) ?_
  refine Bod.ialdN k rfl (by omega) (by omega) dc_334_111 (mk_70 _) ?_
  refine Bod.eqI (nI e70) (by first | assumption | rfl | exact congrArg nI (by omega) | (simp (disch := omega) only [rI, rIe, rA, rIA, rLA, rJA, rVI, rQI, rVA, rQA, upd_at,  rAI, rLI, rJI, nI_add, pk_sub, kc_0, kc_1, kc_2, kc_3, kc_4, kc_5, reduceIte, Nat.reduceEqDiff, Nat.add_zero, rI_hold, rI_hold, rL_hold, hk, he67, he70]; done)) ?_
  refine Bod.ildnG dc_334_112 (by repeat (first | exact q3 | exact sm_get_p1 | exact sm_get_p2e | refine sm_get_p1m (by decide) (by decide) ?_ | refine sm_get_p1n (by decide) rfl ?_ | refine sm_get_p2n (by decide) (by decide) rfl ?_)) ?_
  refine Bod.icT dc_334_113 rfl (k2_lt_T e70 li rfl rfl (by omega) (by omega)) ?_
  refine Bod.aldnG dc_334_157 (by repeat (first | exact q0 | exact sm_get_p1 | exact sm_get_p2e | refine sm_get_p1m (by decide) (by decide) ?_ | refine sm_get_p1n (by decide) rfl ?_ | refine sm_get_p2n (by decide) (by decide) rfl ?_)) ?_
  refine Bod.go dc_334_158 rfl ?_
  refine Bod.get dc_334_159 fr_334_233 (mk_61 _) rfl ?_
  refine Bod.eqI (nI bl) (by first | assumption | rfl | exact congrArg nI (by omega) | (simp (disch := omega) only [rI, rIe, rA, rIA, rLA, rJA, rVI, rQI, rVA, rQA, upd_at,  rAI, rLI, rJI, nI_add, pk_sub, kc_0, kc_1, kc_2, kc_3, kc_4, kc_5, reduceIte, Nat.reduceEqDiff, Nat.add_zero, rI_hold, rI_hold, rL_hold, hk, he67, he70, hbl]; done)) ?_
  refine Bod.ic 1 (by decide) dc_334_162 ?_
  refine Bod.subN (bl - 1) (by omega) (by omega) dc_334_163 ?_
  refine Bod.put dc_334_164 fr_334_233 (mk_61 _) (Nat.le_of_ble_eq_true rfl) pf_14_17 (st_6117 _ _) (mu_I _ _ _) ?_
  refine Bod.aldnG dc_334_167 (by repeat (first | exact q0 | exact sm_get_p1 | exact sm_get_p2e | refine sm_get_p1m (by decide) (by decide) ?_ | refine sm_get_p1n (by decide) rfl ?_ | refine sm_get_p2n (by decide) (by decide) rfl ?_)) ?_
  refine Bod.get dc_334_168 fr_334_129 (mk_61 _) rfl ?_
  refine Bod.aldnG dc_334_171 (by repeat (first | exact q0 | exact sm_get_p1 | exact sm_get_p2e | refine sm_get_p1m (by decide) (by decide) ?_ | refine sm_get_p1n (by decide) rfl ?_ | refine sm_get_p2n (by decide) (by decide) rfl ?_)) ?_
  refine Bod.get dc_334_172 fr_334_190 (mk_61 _) rfl ?_
  refine Bod.eqI (nI k) (by first | (simp (disch := omega) only [rI, rIe, rA, rIA, rLA, rJA, rVI, rQI, rVA, rQA, upd_at,  rAI, rLI, rJI, nI_add, pk_sub, kc_0, kc_1, kc_2, kc_3, kc_4, kc_5, reduceIte, Nat.reduceEqDiff, Nat.add_zero, rI_hold, rI_hold, rL_hold, hk, he67, he70, hbl]; done) | (simp (disch := omega) only [rI, rIe, rA, rIA, rLA, rJA, rVI, rQI, rVA, rQA, upd_at,  rAI, rLI, rJI, nI_add, pk_sub, kc_0, kc_1, kc_2, kc_3, kc_4, kc_5, reduceIte, Nat.reduceEqDiff, Nat.add_zero, rI_hold, rI_hold, rL_hold, hk, he67, he70, hbl]; exact congrArg nI (by omega))) ?_
  refine Bod.ialdN k rfl (by omega) (by omega) dc_334_175 (mk_67 _) ?_
  refine Bod.eqI (nI e67) (by first | (simp (disch := omega) only [rI, rIe, rA, rIA, rLA, rJA, rVI, rQI, rVA, rQA, upd_at,  rAI, rLI, rJI, nI_add, pk_sub, kc_0, kc_1, kc_2, kc_3, kc_4, kc_5, reduceIte, Nat.reduceEqDiff, Nat.add_zero, rI_hold, rI_hold, rL_hold, hk, he67, he70, hbl]; done) | (simp (disch := omega) only [rI, rIe, rA, rIA, rLA, rJA, rVI, rQI, rVA, rQA, upd_at,  rAI, rLI, rJI, nI_add, pk_sub, kc_0, kc_1, kc_2, kc_3, kc_4, kc_5, reduceIte, Nat.reduceEqDiff, Nat.add_zero, rI_hold, rI_hold, rL_hold, hk, he67, he70, hbl]; exact congrArg nI (by omega))) ?_
  refine Bod.bip 7 (by decide) dc_334_176 ?_
  refine Bod.icT dc_334_178 rfl (k2_ne_T (k_ne e67 7 rfl rfl (by omega) (by omega) (by omega))) ?_
  refine Bod.ic 0 (by decide) dc_334_183 ?_
  refine Bod.ist dc_334_184 (by rw [ml_334]; exact Nat.le_of_ble_eq_true rfl) ?_
  exact hB _ (by repeat (first | exact q0 | exact sm_get_p1 | exact sm_get_p2e | refine sm_get_p1m (by decide) (by decide) ?_ | refine sm_get_p1n (by decide) rfl ?_ | refine sm_get_p2n (by decide) (by decide) rfl ?_)) (by repeat (first | exact q0 | exact sm_get_p1 | exact sm_get_p2e | refine sm_get_p1m (by decide) (by decide) ?_ | refine sm_get_p1n (by decide) rfl ?_ | refine sm_get_p2n (by decide) (by decide) rfl ?_))
theorem zBlL_3 {d : Nat} {S Sf : cS} {v : Option Value} {lv : sm_L} {lz : Nat} {li : Nat} {k : Nat} {e67 : Nat} {e70 : Nat} {S1 : cS} (q0 : sm_get lv 0 = some (.ref 61)) (q2 : sm_get lv 2 = some (.int (nI lz))) (q3 : sm_get lv 3 = some (.int (nI li))) (mlz : lz < 2 ^ 20) (mli : li < 2 ^ 20) (hk : sI S 6115 = nI k) (mk : k < 6001) (he67 : sA S 67 k = nI e67) (me67 : e67 < 2 ^ 20) (b1 : e67 ≠ 7) (he70 : sA S 70 k = nI e70) (me70 : e70 < 2 ^ 20) (b2 : li ≤ e70) (b3 : e70 ≤ li) (b4 : lz = 0) (c1 : Ans (d + 8) 301 [.ref 61] S (some (.int (nI 1))) S1) (hB : ∀ lv1 : sm_L, sm_get lv1 0 = some (.ref 61) → sm_get lv1 2 = some (.int (nI lz)) → sm_get lv1 3 = some (.int (nI li)) → Bod (d + 8) 334 89 lv1 [] (S1) v Sf) : Bod (d + 8) 334 89 lv [] S v Sf := by
  refine Bod.aldnG dc_334_89 (by repeat (first | exact q0 | exact sm_get_p1 | exact sm_get_p2e | refine sm_get_p1m (by decide) (by decide) ?_ | refine sm_get_p1n (by decide) rfl ?_ | refine sm_get_p2n (by decide) (by decide) rfl ?_)) ?_
  refine Bod.get dc_334_90 fr_334_129 (mk_61 _) rfl ?_
  refine Bod.aldnG dc_334_93 (by repeat (first | exact q0 | exact sm_get_p1 | exact sm_get_p2e | refine sm_get_p1m (by decide) (by decide) ?_ | refine sm_get_p1n (by decide) rfl ?_ | refine sm_get_p2n (by decide) (by decide) rfl ?_)) ?_
  refine Bod.get dc_334_94 fr_334_190 (mk_61 _) rfl ?_
  refine Bod.eqI (nI k) (by first | assumption | rfl | exact congrArg nI (by omega) | (simp (disch := omega) only [rI, rIe, rA, rIA, rLA, rJA, rVI, rQI, rVA, rQA, upd_at,  rAI, rLI, rJI, nI_add, pk_sub, kc_0, kc_1, kc_2, kc_3, kc_4, kc_5, reduceIte, Nat.reduceEqDiff, Nat.add_zero, rI_hold, rI_hold, rL_hold, hk]; done)) ?_
  refine Bod.ialdN k rfl (by omega) (by omega) dc_334_97 (mk_67 _) ?_
  refine Bod.eqI (nI e67) (by first | assumption | rfl | exact congrArg nI (by omega) | (simp (disch := omega) only [rI, rIe, rA, rIA, rLA, rJA, rVI, rQI, rVA, rQA, upd_at,  rAI, rLI, rJI, nI_add, pk_sub, kc_0, kc_1, kc_2, kc_3, kc_4, kc_5, reduceIte, Nat.reduceEqDiff, Nat.add_zero, rI_hold, rI_hold, rL_hold, hk, he67]; done)) ?_
  refine Bod.bip 7 (by decide) dc_334_98 ?_
  refine Bod.icF dc_334_100 rfl (k2_eq_F (k_ne e67 7 rfl rfl (by omega) (by omega) (by omega))) ?_
  refine Bod.aldnG dc_334_103 (by repeat (first | exact q0 | exact sm_get_p1 | exact sm_get_p2e | refine sm_get_p1m (by decide) (by decide) ?_ | refine sm_get_p1n (by decide) rfl ?_ | refine sm_get_p2n (by decide) (by decide) rfl ?_)) ?_
  refine Bod.get dc_334_104 fr_334_141 (mk_61 _) rfl ?_
  refine Bod.aldnG dc_334_107 (by repeat (first | exact q0 | exact sm_get_p1 | exact sm_get_p2e | refine sm_get_p1m (by decide) (by decide) ?_ | refine sm_get_p1n (by decide) rfl ?_ | refine sm_get_p2n (by decide) (by decide) rfl ?_)) ?_
  refine Bod.get dc_334_108 fr_334_190 (mk_61 _) rfl ?_
  refine Bod.eqI (nI k) (by first | assumption | rfl | exact congrArg nI (by omega) | (simp (disch := omega) only [rI, rIe, rA, rIA, rLA, rJA, rVI, rQI, rVA, rQA, upd_at,  rAI, rLI, rJI, nI_add, pk_sub, kc_0, kc_1, kc_2, kc_3, kc_4, kc_5, reduceIte, Nat.reduceEqDiff, Nat.add_zero, rI_hold, rI_hold, rL_hold, hk, he67]; done)) ?_
  refine Bod.ialdN k rfl (by omega) (by omega) dc_334_111 (mk_70 _) ?_
  refine Bod.eqI (nI e70) (by first | assumption | rfl | exact congrArg nI (by omega) | (simp (disch := omega) only [rI, rIe, rA, rIA, rLA, rJA, rVI, rQI, rVA, rQA, upd_at,  rAI, rLI, rJI, nI_add, pk_sub, kc_0, kc_1, kc_2, kc_3, kc_4, kc_5, reduceIte, Nat.reduceEqDiff, Nat.add_zero, rI_hold, rI_hold, rL_hold, hk, he67, he70]; done)) ?_
  refine Bod.ildnG dc_334_112 (by repeat (first | exact q3 | exact sm_get_p1 | exact sm_get_p2e | refine sm_get_p1m (by decide) (by decide) ?_ | refine sm_get_p1n (by decide) rfl ?_ | refine sm_get_p2n (by decide) (by decide) rfl ?_)) ?_
  refine Bod.icF dc_334_113 rfl (k2_lt_F e70 li rfl rfl (by omega) (by omega)) ?_
  refine Bod.aldnG dc_334_116 (by repeat (first | exact q0 | exact sm_get_p1 | exact sm_get_p2e | refine sm_get_p1m (by decide) (by decide) ?_ | refine sm_get_p1n (by decide) rfl ?_ | refine sm_get_p2n (by decide) (by decide) rfl ?_)) ?_
  refine Bod.get dc_334_117 fr_334_141 (mk_61 _) rfl ?_
  refine Bod.aldnG dc_334_120 (by repeat (first | exact q0 | exact sm_get_p1 | exact sm_get_p2e | refine sm_get_p1m (by decide) (by decide) ?_ | refine sm_get_p1n (by decide) rfl ?_ | refine sm_get_p2n (by decide) (by decide) rfl ?_)) ?_
  refine Bod.get dc_334_121 fr_334_190 (mk_61 _) rfl ?_
  refine Bod.eqI (nI k) (by first | assumption | rfl | exact congrArg nI (by omega) | (simp (disch := omega) only [rI, rIe, rA, rIA, rLA, rJA, rVI, rQI, rVA, rQA, upd_at,  rAI, rLI, rJI, nI_add, pk_sub, kc_0, kc_1, kc_2, kc_3, kc_4, kc_5, reduceIte, Nat.reduceEqDiff, Nat.add_zero, rI_hold, rI_hold, rL_hold, hk, he67, he70]; done)) ?_
  refine Bod.ialdN k rfl (by omega) (by omega) dc_334_124 (mk_70 _) ?_
  refine Bod.eqI (nI e70) (by first | assumption | rfl | exact congrArg nI (by omega) | (simp (disch := omega) only [rI, rIe, rA, rIA, rLA, rJA, rVI, rQI, rVA, rQA, upd_at,  rAI, rLI, rJI, nI_add, pk_sub, kc_0, kc_1, kc_2, kc_3, kc_4, kc_5, reduceIte, Nat.reduceEqDiff, Nat.add_zero, rI_hold, rI_hold, rL_hold, hk, he67, he70]; done)) ?_
  refine Bod.ildnG dc_334_125 (by repeat (first | exact q3 | exact sm_get_p1 | exact sm_get_p2e | refine sm_get_p1m (by decide) (by decide) ?_ | refine sm_get_p1n (by decide) rfl ?_ | refine sm_get_p2n (by decide) (by decide) rfl ?_)) ?_
  refine Bod.icT dc_334_126 rfl (k2_le_T e70 li rfl rfl (by omega) (by omega)) ?_
  refine Bod.ildnG dc_334_134 (by repeat (first | exact q2 | exact sm_get_p1 | exact sm_get_p2e | refine sm_get_p1m (by decide) (by decide) ?_ | refine sm_get_p1n (by decide) rfl ?_ | refine sm_get_p2n (by decide) (by decide) rfl ?_)) ?_
  refine Bod.ifT dc_334_135 rfl (k1_eq_T (k_eq lz 0 rfl rfl (by omega))) ?_
  refine Bod.aldnG dc_334_148 (by repeat (first | exact q0 | exact sm_get_p1 | exact sm_get_p2e | refine sm_get_p1m (by decide) (by decide) ?_ | refine sm_get_p1n (by decide) rfl ?_ | refine sm_get_p2n (by decide) (by decide) rfl ?_)) ?_
  refine Bod.virt (r := []) dc_334_149 kr_334_266 ⟨Or.inl rfl, ow_301, cl_14⟩ (by rw [np_301]; rfl) (by rw [np_301]; rfl) (ob_of (mk_61 _)) (Nat.le_of_ble_eq_true rfl) (c1  ) ?_
  show Bod _ _ _ _ [_] _ _ _
  refine Bod.ifT dc_334_152 rfl (k1_ne_T (k_ne 1 0 rfl rfl (by omega) (by omega) (by omega))) ?_
  exact hB _ (by repeat (first | exact q0 | exact sm_get_p1 | exact sm_get_p2e | refine sm_get_p1m (by decide) (by decide) ?_ | refine sm_get_p1n (by decide) rfl ?_ | refine sm_get_p2n (by decide) (by decide) rfl ?_)) (by repeat (first | exact q2 | exact sm_get_p1 | exact sm_get_p2e | refine sm_get_p1m (by decide) (by decide) ?_ | refine sm_get_p1n (by decide) rfl ?_ | refine sm_get_p2n (by decide) (by decide) rfl ?_)) (by repeat (first | exact q3 | exact sm_get_p1 | exact sm_get_p2e | refine sm_get_p1m (by decide) (by decide) ?_ | refine sm_get_p1n (by decide) rfl ?_ | refine sm_get_p2n (by decide) (by decide) rfl ?_))
theorem zBlL_4 {d : Nat} {S : cS} {lv : sm_L} {lz : Nat} {li : Nat} {k : Nat} {e67 : Nat} {e70 : Nat} {S1 : cS} (q0 : sm_get lv 0 = some (.ref 61)) (q2 : sm_get lv 2 = some (.int (nI lz))) (q3 : sm_get lv 3 = some (.int (nI li))) (mlz : lz < 2 ^ 20) (mli : li < 2 ^ 20) (hk : sI S 6115 = nI k) (mk : k < 6001) (he67 : sA S 67 k = nI e67) (me67 : e67 < 2 ^ 20) (b1 : e67 ≠ 7) (he70 : sA S 70 k = nI e70) (me70 : e70 < 2 ^ 20) (b2 : li ≤ e70) (b3 : e70 ≤ li) (b4 : lz = 0) (c1 : Ans (d + 8) 301 [.ref 61] S (some (.int (nI 0))) S1) : Bod (d + 8) 334 89 lv [] S (some (.int 0)) (S1) := by
  refine Bod.aldnG dc_334_89 (by repeat (first | exact q0 | exact sm_get_p1 | exact sm_get_p2e | refine sm_get_p1m (by decide) (by decide) ?_ | refine sm_get_p1n (by decide) rfl ?_ | refine sm_get_p2n (by decide) (by decide) rfl ?_)) ?_
  refine Bod.get dc_334_90 fr_334_129 (mk_61 _) rfl ?_
  refine Bod.aldnG dc_334_93 (by repeat (first | exact q0 | exact sm_get_p1 | exact sm_get_p2e | refine sm_get_p1m (by decide) (by decide) ?_ | refine sm_get_p1n (by decide) rfl ?_ | refine sm_get_p2n (by decide) (by decide) rfl ?_)) ?_
  refine Bod.get dc_334_94 fr_334_190 (mk_61 _) rfl ?_
  refine Bod.eqI (nI k) (by first | assumption | rfl | exact congrArg nI (by omega) | (simp (disch := omega) only [rI, rIe, rA, rIA, rLA, rJA, rVI, rQI, rVA, rQA, upd_at,  rAI, rLI, rJI, nI_add, pk_sub, kc_0, kc_1, kc_2, kc_3, kc_4, kc_5, reduceIte, Nat.reduceEqDiff, Nat.add_zero, rI_hold, rI_hold, rL_hold, hk]; done)) ?_
  refine Bod.ialdN k rfl (by omega) (by omega) dc_334_97 (mk_67 _) ?_
  refine Bod.eqI (nI e67) (by first | assumption | rfl | exact congrArg nI (by omega) | (simp (disch := omega) only [rI, rIe, rA, rIA, rLA, rJA, rVI, rQI, rVA, rQA, upd_at,  rAI, rLI, rJI, nI_add, pk_sub, kc_0, kc_1, kc_2, kc_3, kc_4, kc_5, reduceIte, Nat.reduceEqDiff, Nat.add_zero, rI_hold, rI_hold, rL_hold, hk, he67]; done)) ?_
  refine Bod.bip 7 (by decide) dc_334_98 ?_
  refine Bod.icF dc_334_100 rfl (k2_eq_F (k_ne e67 7 rfl rfl (by omega) (by omega) (by omega))) ?_
  refine Bod.aldnG dc_334_103 (by repeat (first | exact q0 | exact sm_get_p1 | exact sm_get_p2e | refine sm_get_p1m (by decide) (by decide) ?_ | refine sm_get_p1n (by decide) rfl ?_ | refine sm_get_p2n (by decide) (by decide) rfl ?_)) ?_
  refine Bod.get dc_334_104 fr_334_141 (mk_61 _) rfl ?_
  refine Bod.aldnG dc_334_107 (by repeat (first | exact q0 | exact sm_get_p1 | exact sm_get_p2e | refine sm_get_p1m (by decide) (by decide) ?_ | refine sm_get_p1n (by decide) rfl ?_ | refine sm_get_p2n (by decide) (by decide) rfl ?_)) ?_
  refine Bod.get dc_334_108 fr_334_190 (mk_61 _) rfl ?_
  refine Bod.eqI (nI k) (by first | assumption | rfl | exact congrArg nI (by omega) | (simp (disch := omega) only [rI, rIe, rA, rIA, rLA, rJA, rVI, rQI, rVA, rQA, upd_at,  rAI, rLI, rJI, nI_add, pk_sub, kc_0, kc_1, kc_2, kc_3, kc_4, kc_5, reduceIte, Nat.reduceEqDiff, Nat.add_zero, rI_hold, rI_hold, rL_hold, hk, he67]; done)) ?_
  refine Bod.ialdN k rfl (by omega) (by omega) dc_334_111 (mk_70 _) ?_
  refine Bod.eqI (nI e70) (by first | assumption | rfl | exact congrArg nI (by omega) | (simp (disch := omega) only [rI, rIe, rA, rIA, rLA, rJA, rVI, rQI, rVA, rQA, upd_at,  rAI, rLI, rJI, nI_add, pk_sub, kc_0, kc_1, kc_2, kc_3, kc_4, kc_5, reduceIte, Nat.reduceEqDiff, Nat.add_zero, rI_hold, rI_hold, rL_hold, hk, he67, he70]; done)) ?_
  refine Bod.ildnG dc_334_112 (by repeat (first | exact q3 | exact sm_get_p1 | exact sm_get_p2e | refine sm_get_p1m (by decide) (by decide) ?_ | refine sm_get_p1n (by decide) rfl ?_ | refine sm_get_p2n (by decide) (by decide) rfl ?_)) ?_
  refine Bod.icF dc_334_113 rfl (k2_lt_F e70 li rfl rfl (by omega) (by omega)) ?_
  refine Bod.aldnG dc_334_116 (by repeat (first | exact q0 | exact sm_get_p1 | exact sm_get_p2e | refine sm_get_p1m (by decide) (by decide) ?_ | refine sm_get_p1n (by decide) rfl ?_ | refine sm_get_p2n (by decide) (by decide) rfl ?_)) ?_
  refine Bod.get dc_334_117 fr_334_141 (mk_61 _) rfl ?_
  refine Bod.aldnG dc_334_120 (by repeat (first | exact q0 | exact sm_get_p1 | exact sm_get_p2e | refine sm_get_p1m (by decide) (by decide) ?_ | refine sm_get_p1n (by decide) rfl ?_ | refine sm_get_p2n (by decide) (by decide) rfl ?_)) ?_
  refine Bod.get dc_334_121 fr_334_190 (mk_61 _) rfl ?_
  refine Bod.eqI (nI k) (by first | assumption | rfl | exact congrArg nI (by omega) | (simp (disch := omega) only [rI, rIe, rA, rIA, rLA, rJA, rVI, rQI, rVA, rQA, upd_at,  rAI, rLI, rJI, nI_add, pk_sub, kc_0, kc_1, kc_2, kc_3, kc_4, kc_5, reduceIte, Nat.reduceEqDiff, Nat.add_zero, rI_hold, rI_hold, rL_hold, hk, he67, he70]; done)) ?_
  refine Bod.ialdN k rfl (by omega) (by omega) dc_334_124 (mk_70 _) ?_
  refine Bod.eqI (nI e70) (by first | assumption | rfl | exact congrArg nI (by omega) | (simp (disch := omega) only [rI, rIe, rA, rIA, rLA, rJA, rVI, rQI, rVA, rQA, upd_at,  rAI, rLI, rJI, nI_add, pk_sub, kc_0, kc_1, kc_2, kc_3, kc_4, kc_5, reduceIte, Nat.reduceEqDiff, Nat.add_zero, rI_hold, rI_hold, rL_hold, hk, he67, he70]; done)) ?_
  refine Bod.ildnG dc_334_125 (by repeat (first | exact q3 | exact sm_get_p1 | exact sm_get_p2e | refine sm_get_p1m (by decide) (by decide) ?_ | refine sm_get_p1n (by decide) rfl ?_ | refine sm_get_p2n (by decide) (by decide) rfl ?_)) ?_
  refine Bod.icT dc_334_126 rfl (k2_le_T e70 li rfl rfl (by omega) (by omega)) ?_
  refine Bod.ildnG dc_334_134 (by repeat (first | exact q2 | exact sm_get_p1 | exact sm_get_p2e | refine sm_get_p1m (by decide) (by decide) ?_ | refine sm_get_p1n (by decide) rfl ?_ | refine sm_get_p2n (by decide) (by decide) rfl ?_)) ?_
  refine Bod.ifT dc_334_135 rfl (k1_eq_T (k_eq lz 0 rfl rfl (by omega))) ?_
  refine Bod.aldnG dc_334_148 (by repeat (first | exact q0 | exact sm_get_p1 | exact sm_get_p2e | refine sm_get_p1m (by decide) (by decide) ?_ | refine sm_get_p1n (by decide) rfl ?_ | refine sm_get_p2n (by decide) (by decide) rfl ?_)) ?_
  refine Bod.virt (r := []) dc_334_149 kr_334_266 ⟨Or.inl rfl, ow_301, cl_14⟩ (by rw [np_301]; rfl) (by rw [np_301]; rfl) (ob_of (mk_61 _)) (Nat.le_of_ble_eq_true rfl) (c1  ) ?_
  show Bod _ _ _ _ [_] _ _ _
  refine Bod.ifF dc_334_152 rfl (k1_ne_F (k_eq 0 0 rfl rfl (by omega))) ?_
  refine Bod.ic 0 (by decide) dc_334_155 ?_
  exact Bod.retZ dc_334_156 rt_334 (Or.inl rfl)
theorem zBlL_5 {d : Nat} {S Sf : cS} {v : Option Value} {lv : sm_L} {lz : Nat} {li : Nat} {k : Nat} {e67 : Nat} {e70 : Nat} {S1 : cS} (q0 : sm_get lv 0 = some (.ref 61)) (q2 : sm_get lv 2 = some (.int (nI lz))) (q3 : sm_get lv 3 = some (.int (nI li))) (mlz : lz < 2 ^ 20) (mli : li < 2 ^ 20) (hk : sI S 6115 = nI k) (mk : k < 6001) (he67 : sA S 67 k = nI e67) (me67 : e67 < 2 ^ 20) (b1 : e67 ≠ 7) (he70 : sA S 70 k = nI e70) (me70 : e70 < 2 ^ 20) (b2 : li ≤ e70) (b3 : e70 ≤ li) (b4 : lz ≠ 0) (c1 : Ans (d + 8) 335 [.ref 61] S (some (.int (nI 1))) S1) (hB : ∀ lv1 : sm_L, sm_get lv1 0 = some (.ref 61) → sm_get lv1 2 = some (.int (nI lz)) → sm_get lv1 3 = some (.int (nI li)) → Bod (d + 8) 334 89 lv1 [] (S1) v Sf) : Bod (d + 8) 334 89 lv [] S v Sf := by
  refine Bod.aldnG dc_334_89 (by repeat (first | exact q0 | exact sm_get_p1 | exact sm_get_p2e | refine sm_get_p1m (by decide) (by decide) ?_ | refine sm_get_p1n (by decide) rfl ?_ | refine sm_get_p2n (by decide) (by decide) rfl ?_)) ?_
  refine Bod.get dc_334_90 fr_334_129 (mk_61 _) rfl ?_
  refine Bod.aldnG dc_334_93 (by repeat (first | exact q0 | exact sm_get_p1 | exact sm_get_p2e | refine sm_get_p1m (by decide) (by decide) ?_ | refine sm_get_p1n (by decide) rfl ?_ | refine sm_get_p2n (by decide) (by decide) rfl ?_)) ?_
  refine Bod.get dc_334_94 fr_334_190 (mk_61 _) rfl ?_
  refine Bod.eqI (nI k) (by first | assumption | rfl | exact congrArg nI (by omega) | (simp (disch := omega) only [rI, rIe, rA, rIA, rLA, rJA, rVI, rQI, rVA, rQA, upd_at,  rAI, rLI, rJI, nI_add, pk_sub, kc_0, kc_1, kc_2, kc_3, kc_4, kc_5, reduceIte, Nat.reduceEqDiff, Nat.add_zero, rI_hold, rI_hold, rL_hold, hk]; done)) ?_
  refine Bod.ialdN k rfl (by omega) (by omega) dc_334_97 (mk_67 _) ?_
  refine Bod.eqI (nI e67) (by first | assumption | rfl | exact congrArg nI (by omega) | (simp (disch := omega) only [rI, rIe, rA, rIA, rLA, rJA, rVI, rQI, rVA, rQA, upd_at,  rAI, rLI, rJI, nI_add, pk_sub, kc_0, kc_1, kc_2, kc_3, kc_4, kc_5, reduceIte, Nat.reduceEqDiff, Nat.add_zero, rI_hold, rI_hold, rL_hold, hk, he67]; done)) ?_
  refine Bod.bip 7 (by decide) dc_334_98 ?_
  refine Bod.icF dc_334_100 rfl (k2_eq_F (k_ne e67 7 rfl rfl (by omega) (by omega) (by omega))) ?_
  refine Bod.aldnG dc_334_103 (by repeat (first | exact q0 | exact sm_get_p1 | exact sm_get_p2e | refine sm_get_p1m (by decide) (by decide) ?_ | refine sm_get_p1n (by decide) rfl ?_ | refine sm_get_p2n (by decide) (by decide) rfl ?_)) ?_
  refine Bod.get dc_334_104 fr_334_141 (mk_61 _) rfl ?_
  refine Bod.aldnG dc_334_107 (by repeat (first | exact q0 | exact sm_get_p1 | exact sm_get_p2e | refine sm_get_p1m (by decide) (by decide) ?_ | refine sm_get_p1n (by decide) rfl ?_ | refine sm_get_p2n (by decide) (by decide) rfl ?_)) ?_
  refine Bod.get dc_334_108 fr_334_190 (mk_61 _) rfl ?_
  refine Bod.eqI (nI k) (by first | assumption | rfl | exact congrArg nI (by omega) | (simp (disch := omega) only [rI, rIe, rA, rIA, rLA, rJA, rVI, rQI, rVA, rQA, upd_at,  rAI, rLI, rJI, nI_add, pk_sub, kc_0, kc_1, kc_2, kc_3, kc_4, kc_5, reduceIte, Nat.reduceEqDiff, Nat.add_zero, rI_hold, rI_hold, rL_hold, hk, he67]; done)) ?_
  refine Bod.ialdN k rfl (by omega) (by omega) dc_334_111 (mk_70 _) ?_
  refine Bod.eqI (nI e70) (by first | assumption | rfl | exact congrArg nI (by omega) | (simp (disch := omega) only [rI, rIe, rA, rIA, rLA, rJA, rVI, rQI, rVA, rQA, upd_at,  rAI, rLI, rJI, nI_add, pk_sub, kc_0, kc_1, kc_2, kc_3, kc_4, kc_5, reduceIte, Nat.reduceEqDiff, Nat.add_zero, rI_hold, rI_hold, rL_hold, hk, he67, he70]; done)) ?_
  refine Bod.ildnG dc_334_112 (by repeat (first | exact q3 | exact sm_get_p1 | exact sm_get_p2e | refine sm_get_p1m (by decide) (by decide) ?_ | refine sm_get_p1n (by decide) rfl ?_ | refine sm_get_p2n (by decide) (by decide) rfl ?_)) ?_
  refine Bod.icF dc_334_113 rfl (k2_lt_F e70 li rfl rfl (by omega) (by omega)) ?_
  refine Bod.aldnG dc_334_116 (by repeat (first | exact q0 | exact sm_get_p1 | exact sm_get_p2e | refine sm_get_p1m (by decide) (by decide) ?_ | refine sm_get_p1n (by decide) rfl ?_ | refine sm_get_p2n (by decide) (by decide) rfl ?_)) ?_
  refine Bod.get dc_334_117 fr_334_141 (mk_61 _) rfl ?_
  refine Bod.aldnG dc_334_120 (by repeat (first | exact q0 | exact sm_get_p1 | exact sm_get_p2e | refine sm_get_p1m (by decide) (by decide) ?_ | refine sm_get_p1n (by decide) rfl ?_ | refine sm_get_p2n (by decide) (by decide) rfl ?_)) ?_
  refine Bod.get dc_334_121 fr_334_190 (mk_61 _) rfl ?_
  refine Bod.eqI (nI k) (by first | assumption | rfl | exact congrArg nI (by omega) | (simp (disch := omega) only [rI, rIe, rA, rIA, rLA, rJA, rVI, rQI, rVA, rQA, upd_at,  rAI, rLI, rJI, nI_add, pk_sub, kc_0, kc_1, kc_2, kc_3, kc_4, kc_5, reduceIte, Nat.reduceEqDiff, Nat.add_zero, rI_hold, rI_hold, rL_hold, hk, he67, he70]; done)) ?_
  refine Bod.ialdN k rfl (by omega) (by omega) dc_334_124 (mk_70 _) ?_
  refine Bod.eqI (nI e70) (by first | assumption | rfl | exact congrArg nI (by omega) | (simp (disch := omega) only [rI, rIe, rA, rIA, rLA, rJA, rVI, rQI, rVA, rQA, upd_at,  rAI, rLI, rJI, nI_add, pk_sub, kc_0, kc_1, kc_2, kc_3, kc_4, kc_5, reduceIte, Nat.reduceEqDiff, Nat.add_zero, rI_hold, rI_hold, rL_hold, hk, he67, he70]; done)) ?_
  refine Bod.ildnG dc_334_125 (by repeat (first | exact q3 | exact sm_get_p1 | exact sm_get_p2e | refine sm_get_p1m (by decide) (by decide) ?_ | refine sm_get_p1n (by decide) rfl ?_ | refine sm_get_p2n (by decide) (by decide) rfl ?_)) ?_
  refine Bod.icT dc_334_126 rfl (k2_le_T e70 li rfl rfl (by omega) (by omega)) ?_
  refine Bod.ildnG dc_334_134 (by repeat (first | exact q2 | exact sm_get_p1 | exact sm_get_p2e | refine sm_get_p1m (by decide) (by decide) ?_ | refine sm_get_p1n (by decide) rfl ?_ | refine sm_get_p2n (by decide) (by decide) rfl ?_)) ?_
  refine Bod.ifF dc_334_135 rfl (k1_eq_F (k_ne lz 0 rfl rfl (by omega) (by omega) (by omega))) ?_
  refine Bod.aldnG dc_334_138 (by repeat (first | exact q0 | exact sm_get_p1 | exact sm_get_p2e | refine sm_get_p1m (by decide) (by decide) ?_ | refine sm_get_p1n (by decide) rfl ?_ | refine sm_get_p2n (by decide) (by decide) rfl ?_)) ?_
  refine Bod.virt (r := []) dc_334_139 kr_334_276 ⟨Or.inl rfl, ow_335, cl_14⟩ (by rw [np_335]; rfl) (by rw [np_335]; rfl) (ob_of (mk_61 _)) (Nat.le_of_ble_eq_true rfl) (c1  ) ?_
  show Bod _ _ _ _ [_] _ _ _
  refine Bod.ifF dc_334_142 rfl (k1_eq_F (k_ne 1 0 rfl rfl (by omega) (by omega) (by omega))) ?_
  refine Bod.go dc_334_145 rfl ?_
  exact hB _ (by repeat (first | exact q0 | exact sm_get_p1 | exact sm_get_p2e | refine sm_get_p1m (by decide) (by decide) ?_ | refine sm_get_p1n (by decide) rfl ?_ | refine sm_get_p2n (by decide) (by decide) rfl ?_)) (by repeat (first | exact q2 | exact sm_get_p1 | exact sm_get_p2e | refine sm_get_p1m (by decide) (by decide) ?_ | refine sm_get_p1n (by decide) rfl ?_ | refine sm_get_p2n (by decide) (by decide) rfl ?_)) (by repeat (first | exact q3 | exact sm_get_p1 | exact sm_get_p2e | refine sm_get_p1m (by decide) (by decide) ?_ | refine sm_get_p1n (by decide) rfl ?_ | refine sm_get_p2n (by decide) (by decide) rfl ?_))
theorem zBlL_6 {d : Nat} {S : cS} {lv : sm_L} {lz : Nat} {li : Nat} {k : Nat} {e67 : Nat} {e70 : Nat} {S1 : cS} (q0 : sm_get lv 0 = some (.ref 61)) (q2 : sm_get lv 2 = some (.int (nI lz))) (q3 : sm_get lv 3 = some (.int (nI li))) (mlz : lz < 2 ^ 20) (mli : li < 2 ^ 20) (hk : sI S 6115 = nI k) (mk : k < 6001) (he67 : sA S 67 k = nI e67) (me67 : e67 < 2 ^ 20) (b1 : e67 ≠ 7) (he70 : sA S 70 k = nI e70) (me70 : e70 < 2 ^ 20) (b2 : li ≤ e70) (b3 : e70 ≤ li) (b4 : lz ≠ 0) (c1 : Ans (d + 8) 335 [.ref 61] S (some (.int (nI 0))) S1) : Bod (d + 8) 334 89 lv [] S (some (.int 0)) (S1) := by
  refine Bod.aldnG dc_334_89 (by repeat (first | exact q0 | exact sm_get_p1 | exact sm_get_p2e | refine sm_get_p1m (by decide) (by decide) ?_ | refine sm_get_p1n (by decide) rfl ?_ | refine sm_get_p2n (by decide) (by decide) rfl ?_)) ?_
  refine Bod.get dc_334_90 fr_334_129 (mk_61 _) rfl ?_
  refine Bod.aldnG dc_334_93 (by repeat (first | exact q0 | exact sm_get_p1 | exact sm_get_p2e | refine sm_get_p1m (by decide) (by decide) ?_ | refine sm_get_p1n (by decide) rfl ?_ | refine sm_get_p2n (by decide) (by decide) rfl ?_)) ?_
  refine Bod.get dc_334_94 fr_334_190 (mk_61 _) rfl ?_
  refine Bod.eqI (nI k) (by first | assumption | rfl | exact congrArg nI (by omega) | (simp (disch := omega) only [rI, rIe, rA, rIA, rLA, rJA, rVI, rQI, rVA, rQA, upd_at,  rAI, rLI, rJI, nI_add, pk_sub, kc_0, kc_1, kc_2, kc_3, kc_4, kc_5, reduceIte, Nat.reduceEqDiff, Nat.add_zero, rI_hold, rI_hold, rL_hold, hk]; done)) ?_
  refine Bod.ialdN k rfl (by omega) (by omega) dc_334_97 (mk_67 _) ?_
  refine Bod.eqI (nI e67) (by first | assumption | rfl | exact congrArg nI (by omega) | (simp (disch := omega) only [rI, rIe, rA, rIA, rLA, rJA, rVI, rQI, rVA, rQA, upd_at,  rAI, rLI, rJI, nI_add, pk_sub, kc_0, kc_1, kc_2, kc_3, kc_4, kc_5, reduceIte, Nat.reduceEqDiff, Nat.add_zero, rI_hold, rI_hold, rL_hold, hk, he67]; done)) ?_
  refine Bod.bip 7 (by decide) dc_334_98 ?_
  refine Bod.icF dc_334_100 rfl (k2_eq_F (k_ne e67 7 rfl rfl (by omega) (by omega) (by omega))) ?_
  refine Bod.aldnG dc_334_103 (by repeat (first | exact q0 | exact sm_get_p1 | exact sm_get_p2e | refine sm_get_p1m (by decide) (by decide) ?_ | refine sm_get_p1n (by decide) rfl ?_ | refine sm_get_p2n (by decide) (by decide) rfl ?_)) ?_
  refine Bod.get dc_334_104 fr_334_141 (mk_61 _) rfl ?_
  refine Bod.aldnG dc_334_107 (by repeat (first | exact q0 | exact sm_get_p1 | exact sm_get_p2e | refine sm_get_p1m (by decide) (by decide) ?_ | refine sm_get_p1n (by decide) rfl ?_ | refine sm_get_p2n (by decide) (by decide) rfl ?_)) ?_
  refine Bod.get dc_334_108 fr_334_190 (mk_61 _) rfl ?_
  refine Bod.eqI (nI k) (by first | assumption | rfl | exact congrArg nI (by omega) | (simp (disch := omega) only [rI, rIe, rA, rIA, rLA, rJA, rVI, rQI, rVA, rQA, upd_at,  rAI, rLI, rJI, nI_add, pk_sub, kc_0, kc_1, kc_2, kc_3, kc_4, kc_5, reduceIte, Nat.reduceEqDiff, Nat.add_zero, rI_hold, rI_hold, rL_hold, hk, he67]; done)) ?_
  refine Bod.ialdN k rfl (by omega) (by omega) dc_334_111 (mk_70 _) ?_
  refine Bod.eqI (nI e70) (by first | assumption | rfl | exact congrArg nI (by omega) | (simp (disch := omega) only [rI, rIe, rA, rIA, rLA, rJA, rVI, rQI, rVA, rQA, upd_at,  rAI, rLI, rJI, nI_add, pk_sub, kc_0, kc_1, kc_2, kc_3, kc_4, kc_5, reduceIte, Nat.reduceEqDiff, Nat.add_zero, rI_hold, rI_hold, rL_hold, hk, he67, he70]; done)) ?_
  refine Bod.ildnG dc_334_112 (by repeat (first | exact q3 | exact sm_get_p1 | exact sm_get_p2e | refine sm_get_p1m (by decide) (by decide) ?_ | refine sm_get_p1n (by decide) rfl ?_ | refine sm_get_p2n (by decide) (by decide) rfl ?_)) ?_
  refine Bod.icF dc_334_113 rfl (k2_lt_F e70 li rfl rfl (by omega) (by omega)) ?_
  refine Bod.aldnG dc_334_116 (by repeat (first | exact q0 | exact sm_get_p1 | exact sm_get_p2e | refine sm_get_p1m (by decide) (by decide) ?_ | refine sm_get_p1n (by decide) rfl ?_ | refine sm_get_p2n (by decide) (by decide) rfl ?_)) ?_
  refine Bod.get dc_334_117 fr_334_141 (mk_61 _) rfl ?_
  refine Bod.aldnG dc_334_120 (by repeat (first | exact q0 | exact sm_get_p1 | exact sm_get_p2e | refine sm_get_p1m (by decide) (by decide) ?_ | refine sm_get_p1n (by decide) rfl ?_ | refine sm_get_p2n (by decide) (by decide) rfl ?_)) ?_
  refine Bod.get dc_334_121 fr_334_190 (mk_61 _) rfl ?_
  refine Bod.eqI (nI k) (by first | assumption | rfl | exact congrArg nI (by omega) | (simp (disch := omega) only [rI, rIe, rA, rIA, rLA, rJA, rVI, rQI, rVA, rQA, upd_at,  rAI, rLI, rJI, nI_add, pk_sub, kc_0, kc_1, kc_2, kc_3, kc_4, kc_5, reduceIte, Nat.reduceEqDiff, Nat.add_zero, rI_hold, rI_hold, rL_hold, hk, he67, he70]; done)) ?_
  refine Bod.ialdN k rfl (by omega) (by omega) dc_334_124 (mk_70 _) ?_
  refine Bod.eqI (nI e70) (by first | assumption | rfl | exact congrArg nI (by omega) | (simp (disch := omega) only [rI, rIe, rA, rIA, rLA, rJA, rVI, rQI, rVA, rQA, upd_at,  rAI, rLI, rJI, nI_add, pk_sub, kc_0, kc_1, kc_2, kc_3, kc_4, kc_5, reduceIte, Nat.reduceEqDiff, Nat.add_zero, rI_hold, rI_hold, rL_hold, hk, he67, he70]; done)) ?_
  refine Bod.ildnG dc_334_125 (by repeat (first | exact q3 | exact sm_get_p1 | exact sm_get_p2e | refine sm_get_p1m (by decide) (by decide) ?_ | refine sm_get_p1n (by decide) rfl ?_ | refine sm_get_p2n (by decide) (by decide) rfl ?_)) ?_
  refine Bod.icT dc_334_126 rfl (k2_le_T e70 li rfl rfl (by omega) (by omega)) ?_
  refine Bod.ildnG dc_334_134 (by repeat (first | exact q2 | exact sm_get_p1 | exact sm_get_p2e | refine sm_get_p1m (by decide) (by decide) ?_ | refine sm_get_p1n (by decide) rfl ?_ | refine sm_get_p2n (by decide) (by decide) rfl ?_)) ?_
  refine Bod.ifF dc_334_135 rfl (k1_eq_F (k_ne lz 0 rfl rfl (by omega) (by omega) (by omega))) ?_
  refine Bod.aldnG dc_334_138 (by repeat (first | exact q0 | exact sm_get_p1 | exact sm_get_p2e | refine sm_get_p1m (by decide) (by decide) ?_ | refine sm_get_p1n (by decide) rfl ?_ | refine sm_get_p2n (by decide) (by decide) rfl ?_)) ?_
  refine Bod.virt (r := []) dc_334_139 kr_334_276 ⟨Or.inl rfl, ow_335, cl_14⟩ (by rw [np_335]; rfl) (by rw [np_335]; rfl) (ob_of (mk_61 _)) (Nat.le_of_ble_eq_true rfl) (c1  ) ?_
  show Bod _ _ _ _ [_] _ _ _
  refine Bod.ifT dc_334_142 rfl (k1_eq_T (k_eq 0 0 rfl rfl (by omega))) ?_
  refine Bod.ic 0 (by decide) dc_334_155 ?_
  exact Bod.retZ dc_334_156 rt_334 (Or.inl rfl)
theorem zBlL_7 {d : Nat} {S : cS} {lv : sm_L} {lz : Nat} {li : Nat} {k : Nat} {e67 : Nat} {e70 : Nat} {S1 : cS} (q0 : sm_get lv 0 = some (.ref 61)) (q2 : sm_get lv 2 = some (.int (nI lz))) (q3 : sm_get lv 3 = some (.int (nI li))) (mlz : lz < 2 ^ 20) (mli : li < 2 ^ 20) (hk : sI S 6115 = nI k) (mk : k < 6001) (he67 : sA S 67 k = nI e67) (me67 : e67 < 2 ^ 20) (b1 : e67 ≠ 7) (he70 : sA S 70 k = nI e70) (me70 : e70 < 2 ^ 20) (b2 : li ≤ e70) (b3 : li < e70) (c1 : Ans (d + 8) 299 [.ref 61] S (some (.int (nI 0))) S1) : Bod (d + 8) 334 89 lv [] S (some (.int 0)) (S1) := by
  refine Bod.aldnG dc_334_89 (by repeat (first | exact q0 | exact sm_get_p1 | exact sm_get_p2e | refine sm_get_p1m (by decide) (by decide) ?_ | refine sm_get_p1n (by decide) rfl ?_ | refine sm_get_p2n (by decide) (by decide) rfl ?_)) ?_
  refine Bod.get dc_334_90 fr_334_129 (mk_61 _) rfl ?_
  refine Bod.aldnG dc_334_93 (by repeat (first | exact q0 | exact sm_get_p1 | exact sm_get_p2e | refine sm_get_p1m (by decide) (by decide) ?_ | refine sm_get_p1n (by decide) rfl ?_ | refine sm_get_p2n (by decide) (by decide) rfl ?_)) ?_
  refine Bod.get dc_334_94 fr_334_190 (mk_61 _) rfl ?_
  refine Bod.eqI (nI k) (by first | assumption | rfl | exact congrArg nI (by omega) | (simp (disch := omega) only [rI, rIe, rA, rIA, rLA, rJA, rVI, rQI, rVA, rQA, upd_at,  rAI, rLI, rJI, nI_add, pk_sub, kc_0, kc_1, kc_2, kc_3, kc_4, kc_5, reduceIte, Nat.reduceEqDiff, Nat.add_zero, rI_hold, rI_hold, rL_hold, hk]; done)) ?_
  refine Bod.ialdN k rfl (by omega) (by omega) dc_334_97 (mk_67 _) ?_
  refine Bod.eqI (nI e67) (by first | assumption | rfl | exact congrArg nI (by omega) | (simp (disch := omega) only [rI, rIe, rA, rIA, rLA, rJA, rVI, rQI, rVA, rQA, upd_at,  rAI, rLI, rJI, nI_add, pk_sub, kc_0, kc_1, kc_2, kc_3, kc_4, kc_5, reduceIte, Nat.reduceEqDiff, Nat.add_zero, rI_hold, rI_hold, rL_hold, hk, he67]; done)) ?_
  refine Bod.bip 7 (by decide) dc_334_98 ?_
  refine Bod.icF dc_334_100 rfl (k2_eq_F (k_ne e67 7 rfl rfl (by omega) (by omega) (by omega))) ?_
  refine Bod.aldnG dc_334_103 (by repeat (first | exact q0 | exact sm_get_p1 | exact sm_get_p2e | refine sm_get_p1m (by decide) (by decide) ?_ | refine sm_get_p1n (by decide) rfl ?_ | refine sm_get_p2n (by decide) (by decide) rfl ?_)) ?_
  refine Bod.get dc_334_104 fr_334_141 (mk_61 _) rfl ?_
  refine Bod.aldnG dc_334_107 (by repeat (first | exact q0 | exact sm_get_p1 | exact sm_get_p2e | refine sm_get_p1m (by decide) (by decide) ?_ | refine sm_get_p1n (by decide) rfl ?_ | refine sm_get_p2n (by decide) (by decide) rfl ?_)) ?_
  refine Bod.get dc_334_108 fr_334_190 (mk_61 _) rfl ?_
  refine Bod.eqI (nI k) (by first | assumption | rfl | exact congrArg nI (by omega) | (simp (disch := omega) only [rI, rIe, rA, rIA, rLA, rJA, rVI, rQI, rVA, rQA, upd_at,  rAI, rLI, rJI, nI_add, pk_sub, kc_0, kc_1, kc_2, kc_3, kc_4, kc_5, reduceIte, Nat.reduceEqDiff, Nat.add_zero, rI_hold, rI_hold, rL_hold, hk, he67]; done)) ?_
  refine Bod.ialdN k rfl (by omega) (by omega) dc_334_111 (mk_70 _) ?_
  refine Bod.eqI (nI e70) (by first | assumption | rfl | exact congrArg nI (by omega) | (simp (disch := omega) only [rI, rIe, rA, rIA, rLA, rJA, rVI, rQI, rVA, rQA, upd_at,  rAI, rLI, rJI, nI_add, pk_sub, kc_0, kc_1, kc_2, kc_3, kc_4, kc_5, reduceIte, Nat.reduceEqDiff, Nat.add_zero, rI_hold, rI_hold, rL_hold, hk, he67, he70]; done)) ?_
  refine Bod.ildnG dc_334_112 (by repeat (first | exact q3 | exact sm_get_p1 | exact sm_get_p2e | refine sm_get_p1m (by decide) (by decide) ?_ | refine sm_get_p1n (by decide) rfl ?_ | refine sm_get_p2n (by decide) (by decide) rfl ?_)) ?_
  refine Bod.icF dc_334_113 rfl (k2_lt_F e70 li rfl rfl (by omega) (by omega)) ?_
  refine Bod.aldnG dc_334_116 (by repeat (first | exact q0 | exact sm_get_p1 | exact sm_get_p2e | refine sm_get_p1m (by decide) (by decide) ?_ | refine sm_get_p1n (by decide) rfl ?_ | refine sm_get_p2n (by decide) (by decide) rfl ?_)) ?_
  refine Bod.get dc_334_117 fr_334_141 (mk_61 _) rfl ?_
  refine Bod.aldnG dc_334_120 (by repeat (first | exact q0 | exact sm_get_p1 | exact sm_get_p2e | refine sm_get_p1m (by decide) (by decide) ?_ | refine sm_get_p1n (by decide) rfl ?_ | refine sm_get_p2n (by decide) (by decide) rfl ?_)) ?_
  refine Bod.get dc_334_121 fr_334_190 (mk_61 _) rfl ?_
  refine Bod.eqI (nI k) (by first | assumption | rfl | exact congrArg nI (by omega) | (simp (disch := omega) only [rI, rIe, rA, rIA, rLA, rJA, rVI, rQI, rVA, rQA, upd_at,  rAI, rLI, rJI, nI_add, pk_sub, kc_0, kc_1, kc_2, kc_3, kc_4, kc_5, reduceIte, Nat.reduceEqDiff, Nat.add_zero, rI_hold, rI_hold, rL_hold, hk, he67, he70]; done)) ?_
  refine Bod.ialdN k rfl (by omega) (by omega) dc_334_124 (mk_70 _) ?_
  refine Bod.eqI (nI e70) (by first | assumption | rfl | exact congrArg nI (by omega) | (simp (disch := omega) only [rI, rIe, rA, rIA, rLA, rJA, rVI, rQI, rVA, rQA, upd_at,  rAI, rLI, rJI, nI_add, pk_sub, kc_0, kc_1, kc_2, kc_3, kc_4, kc_5, reduceIte, Nat.reduceEqDiff, Nat.add_zero, rI_hold, rI_hold, rL_hold, hk, he67, he70]; done)) ?_
  refine Bod.ildnG dc_334_125 (by repeat (first | exact q3 | exact sm_get_p1 | exact sm_get_p2e | refine sm_get_p1m (by decide) (by decide) ?_ | refine sm_get_p1n (by decide) rfl ?_ | refine sm_get_p2n (by decide) (by decide) rfl ?_)) ?_
  refine Bod.icF dc_334_126 rfl (k2_le_F e70 li rfl rfl (by omega) (by omega)) ?_
  refine Bod.aldnG dc_334_129 (by repeat (first | exact q0 | exact sm_get_p1 | exact sm_get_p2e | refine sm_get_p1m (by decide) (by decide) ?_ | refine sm_get_p1n (by decide) rfl ?_ | refine sm_get_p2n (by decide) (by decide) rfl ?_)) ?_
  refine Bod.virt (r := []) dc_334_130 kr_334_202 ⟨Or.inl rfl, ow_299, cl_14⟩ (by rw [np_299]; rfl) (by rw [np_299]; rfl) (ob_of (mk_61 _)) (Nat.le_of_ble_eq_true rfl) (c1  ) ?_
  show Bod _ _ _ _ [_] _ _ _
  exact Bod.retZ dc_334_133 rt_334 (Or.inl rfl)
theorem zBlE_1 {d : Nat} {S : cS} {lv : sm_L} {li : Nat} {bl : Nat} {S1 : cS} (q0 : sm_get lv 0 = some (.ref 61)) (q4 : sm_get lv 4 = some (.int (nI li))) (mli : li < 2 ^ 20) (hbl : sI S 6117 = nI bl) (mbl : bl < 14) (b1 : bl < li) (c1 : Ans (d + 8) 299 [.ref 61] S (some (.int (nI 0))) S1) : Bod (d + 8) 334 186 lv [] S (some (.int 0)) (S1) := by
  refine Bod.ildG dc_334_186 (by repeat (first | exact q4 | exact sm_get_p1 | exact sm_get_p2e | refine sm_get_p1m (by decide) (by decide) ?_ | refine sm_get_p1n (by decide) rfl ?_ | refine sm_get_p2n (by decide) (by decide) rfl ?_)) ?_
  refine Bod.aldnG dc_334_188 (by repeat (first | exact q0 | exact sm_get_p1 | exact sm_get_p2e | refine sm_get_p1m (by decide) (by decide) ?_ | refine sm_get_p1n (by decide) rfl ?_ | refine sm_get_p2n (by decide) (by decide) rfl ?_)) ?_
  refine Bod.get dc_334_189 fr_334_233 (mk_61 _) rfl ?_
  refine Bod.eqI (nI bl) (by first | assumption | rfl | exact congrArg nI (by omega) | (simp (disch := omega) only [rI, rIe, rA, rIA, rLA, rJA, rVI, rQI, rVA, rQA, upd_at,  rAI, rLI, rJI, nI_add, pk_sub, kc_0, kc_1, kc_2, kc_3, kc_4, kc_5, reduceIte, Nat.reduceEqDiff, Nat.add_zero, rI_hold, rI_hold, rL_hold, hbl]; done)) ?_
  refine Bod.icT dc_334_192 rfl (k2_gt_T li bl rfl rfl (by omega) (by omega)) ?_
  refine Bod.aldnG dc_334_222 (by repeat (first | exact q0 | exact sm_get_p1 | exact sm_get_p2e | refine sm_get_p1m (by decide) (by decide) ?_ | refine sm_get_p1n (by decide) rfl ?_ | refine sm_get_p2n (by decide) (by decide) rfl ?_)) ?_
  refine Bod.virt (r := []) dc_334_223 kr_334_202 ⟨Or.inl rfl, ow_299, cl_14⟩ (by rw [np_299]; rfl) (by rw [np_299]; rfl) (ob_of (mk_61 _)) (Nat.le_of_ble_eq_true rfl) (c1  ) ?_
  show Bod _ _ _ _ [_] _ _ _
  exact Bod.retZ dc_334_226 rt_334 (Or.inl rfl)
theorem zBlE_2 {d : Nat} {S Sf : cS} {v : Option Value} {lv : sm_L} {li : Nat} {bl : Nat} {e73 : Nat} {k : Nat} {e70 : Nat} (q0 : sm_get lv 0 = some (.ref 61)) (q4 : sm_get lv 4 = some (.int (nI li))) (mli : li < 2 ^ 20) (hbl : sI S 6117 = nI bl) (mbl : bl < 14) (b1 : li ≤ bl) (b2 : li < 16) (he73 : sA S 73 li = nI e73) (me73 : e73 < 2 ^ 20) (hk : sI S 6115 = nI k) (mk : k < 6001) (he70 : sA S 70 k = nI e70) (me70 : e70 < 2 ^ 20) (b3 : e73 ≠ e70) (hB : ∀ lv1 : sm_L, sm_get lv1 0 = some (.ref 61) → sm_get lv1 4 = some (.int (nI (li + 1))) → Bod (d + 8) 334 186 lv1 [] (S) v Sf) : Bod (d + 8) 334 186 lv [] S v Sf := by
  refine Bod.ildG dc_334_186 (by repeat (first | exact q4 | exact sm_get_p1 | exact sm_get_p2e | refine sm_get_p1m (by decide) (by decide) ?_ | refine sm_get_p1n (by decide) rfl ?_ | refine sm_get_p2n (by decide) (by decide) rfl ?_)) ?_
  refine Bod.aldnG dc_334_188 (by repeat (first | exact q0 | exact sm_get_p1 | exact sm_get_p2e | refine sm_get_p1m (by decide) (by decide) ?_ | refine sm_get_p1n (by decide) rfl ?_ | refine sm_get_p2n (by decide) (by decide) rfl ?_)) ?_
  refine Bod.get dc_334_189 fr_334_233 (mk_61 _) rfl ?_
  refine Bod.eqI (nI bl) (by first | assumption | rfl | exact congrArg nI (by omega) | (simp (disch := omega) only [rI, rIe, rA, rIA, rLA, rJA, rVI, rQI, rVA, rQA, upd_at,  rAI, rLI, rJI, nI_add, pk_sub, kc_0, kc_1, kc_2, kc_3, kc_4, kc_5, reduceIte, Nat.reduceEqDiff, Nat.add_zero, rI_hold, rI_hold, rL_hold, hbl]; done)) ?_
  refine Bod.icF dc_334_192 rfl (k2_gt_F li bl rfl rfl (by omega) (by omega)) ?_
  refine Bod.aldnG dc_334_195 (by repeat (first | exact q0 | exact sm_get_p1 | exact sm_get_p2e | refine sm_get_p1m (by decide) (by decide) ?_ | refine sm_get_p1n (by decide) rfl ?_ | refine sm_get_p2n (by decide) (by decide) rfl ?_)) ?_
  refine Bod.get dc_334_196 fr_334_263 (mk_61 _) rfl ?_
  refine Bod.ildG dc_334_199 (by repeat (first | exact q4 | exact sm_get_p1 | exact sm_get_p2e | refine sm_get_p1m (by decide) (by decide) ?_ | refine sm_get_p1n (by decide) rfl ?_ | refine sm_get_p2n (by decide) (by decide) rfl ?_)) ?_
  refine Bod.ialdN li rfl (by omega) (by omega) dc_334_201 (mk_73 _) ?_
  refine Bod.eqI (nI e73) (by first | assumption | rfl | exact congrArg nI (by omega) | (simp (disch := omega) only [rI, rIe, rA, rIA, rLA, rJA, rVI, rQI, rVA, rQA, upd_at,  rAI, rLI, rJI, nI_add, pk_sub, kc_0, kc_1, kc_2, kc_3, kc_4, kc_5, reduceIte, Nat.reduceEqDiff, Nat.add_zero, rI_hold, rI_hold, rL_hold, hbl, he73]; done)) ?_
  refine Bod.aldnG dc_334_202 (by repeat (first | exact q0 | exact sm_get_p1 | exact sm_get_p2e | refine sm_get_p1m (by decide) (by decide) ?_ | refine sm_get_p1n (by decide) rfl ?_ | refine sm_get_p2n (by decide) (by decide) rfl ?_)) ?_
  refine Bod.get dc_334_203 fr_334_141 (mk_61 _) rfl ?_
  refine Bod.aldnG dc_334_206 (by repeat (first | exact q0 | exact sm_get_p1 | exact sm_get_p2e | refine sm_get_p1m (by decide) (by decide) ?_ | refine sm_get_p1n (by decide) rfl ?_ | refine sm_get_p2n (by decide) (by decide) rfl ?_)) ?_
  refine Bod.get dc_334_207 fr_334_190 (mk_61 _) rfl ?_
  refine Bod.eqI (nI k) (by first | assumption | rfl | exact congrArg nI (by omega) | (simp (disch := omega) only [rI, rIe, rA, rIA, rLA, rJA, rVI, rQI, rVA, rQA, upd_at,  rAI, rLI, rJI, nI_add, pk_sub, kc_0, kc_1, kc_2, kc_3, kc_4, kc_5, reduceIte, Nat.reduceEqDiff, Nat.add_zero, rI_hold, rI_hold, rL_hold, hbl, he73, hk]; done)) ?_
  refine Bod.ialdN k rfl (by omega) (by omega) dc_334_210 (mk_70 _) ?_
  refine Bod.eqI (nI e70) (by first | assumption | rfl | exact congrArg nI (by omega) | (simp (disch := omega) only [rI, rIe, rA, rIA, rLA, rJA, rVI, rQI, rVA, rQA, upd_at,  rAI, rLI, rJI, nI_add, pk_sub, kc_0, kc_1, kc_2, kc_3, kc_4, kc_5, reduceIte, Nat.reduceEqDiff, Nat.add_zero, rI_hold, rI_hold, rL_hold, hbl, he73, hk, he70]; done)) ?_
  refine Bod.icT dc_334_211 rfl (k2_ne_T (k_ne e73 e70 rfl rfl (by omega) (by omega) (by omega))) ?_
  refine Bod.incN (li + 1) (by rw [kc_1, nI_add]) dc_334_216 (by rw [ml_334]; exact Nat.le_of_ble_eq_true rfl) (by repeat (first | exact q4 | exact sm_get_p1 | exact sm_get_p2e | refine sm_get_p1m (by decide) (by decide) ?_ | refine sm_get_p1n (by decide) rfl ?_ | refine sm_get_p2n (by decide) (by decide) rfl ?_)) ?_
  refine Bod.go dc_334_219 rfl ?_
  exact hB _ (by repeat (first | exact q0 | exact sm_get_p1 | exact sm_get_p2e | refine sm_get_p1m (by decide) (by decide) ?_ | refine sm_get_p1n (by decide) rfl ?_ | refine sm_get_p2n (by decide) (by decide) rfl ?_)) (by repeat (first | exact q0 | exact sm_get_p1 | exact sm_get_p2e | refine sm_get_p1m (by decide) (by decide) ?_ | refine sm_get_p1n (by decide) rfl ?_ | refine sm_get_p2n (by decide) (by decide) rfl ?_))
theorem zBlE_3 {d : Nat} {S : cS} {lv : sm_L} {li : Nat} {bl : Nat} {e73 : Nat} {k : Nat} {e70 : Nat} (q0 : sm_get lv 0 = some (.ref 61)) (q4 : sm_get lv 4 = some (.int (nI li))) (mli : li < 2 ^ 20) (hbl : sI S 6117 = nI bl) (mbl : bl < 14) (b1 : li ≤ bl) (b2 : li < 16) (he73 : sA S 73 li = nI e73) (me73 : e73 < 2 ^ 20) (hk : sI S 6115 = nI k) (mk : k < 6001) (he70 : sA S 70 k = nI e70) (me70 : e70 < 2 ^ 20) (b3 : e73 = e70) : Bod (d + 8) 334 186 lv [] S (some (.int 1)) (S) := by
  refine Bod.ildG dc_334_186 (by repeat (first | exact q4 | exact sm_get_p1 | exact sm_get_p2e | refine sm_get_p1m (by decide) (by decide) ?_ | refine sm_get_p1n (by decide) rfl ?_ | refine sm_get_p2n (by decide) (by decide) rfl ?_)) ?_
  refine Bod.aldnG dc_334_188 (by repeat (first | exact q0 | exact sm_get_p1 | exact sm_get_p2e | refine sm_get_p1m (by decide) (by decide) ?_ | refine sm_get_p1n (by decide) rfl ?_ | refine sm_get_p2n (by decide) (by decide) rfl ?_)) ?_
  refine Bod.get dc_334_189 fr_334_233 (mk_61 _) rfl ?_
  refine Bod.eqI (nI bl) (by first | assumption | rfl | exact congrArg nI (by omega) | (simp (disch := omega) only [rI, rIe, rA, rIA, rLA, rJA, rVI, rQI, rVA, rQA, upd_at,  rAI, rLI, rJI, nI_add, pk_sub, kc_0, kc_1, kc_2, kc_3, kc_4, kc_5, reduceIte, Nat.reduceEqDiff, Nat.add_zero, rI_hold, rI_hold, rL_hold, hbl]; done)) ?_
  refine Bod.icF dc_334_192 rfl (k2_gt_F li bl rfl rfl (by omega) (by omega)) ?_
  refine Bod.aldnG dc_334_195 (by repeat (first | exact q0 | exact sm_get_p1 | exact sm_get_p2e | refine sm_get_p1m (by decide) (by decide) ?_ | refine sm_get_p1n (by decide) rfl ?_ | refine sm_get_p2n (by decide) (by decide) rfl ?_)) ?_
  refine Bod.get dc_334_196 fr_334_263 (mk_61 _) rfl ?_
  refine Bod.ildG dc_334_199 (by repeat (first | exact q4 | exact sm_get_p1 | exact sm_get_p2e | refine sm_get_p1m (by decide) (by decide) ?_ | refine sm_get_p1n (by decide) rfl ?_ | refine sm_get_p2n (by decide) (by decide) rfl ?_)) ?_
  refine Bod.ialdN li rfl (by omega) (by omega) dc_334_201 (mk_73 _) ?_
  refine Bod.eqI (nI e73) (by first | assumption | rfl | exact congrArg nI (by omega) | (simp (disch := omega) only [rI, rIe, rA, rIA, rLA, rJA, rVI, rQI, rVA, rQA, upd_at,  rAI, rLI, rJI, nI_add, pk_sub, kc_0, kc_1, kc_2, kc_3, kc_4, kc_5, reduceIte, Nat.reduceEqDiff, Nat.add_zero, rI_hold, rI_hold, rL_hold, hbl, he73]; done)) ?_
  refine Bod.aldnG dc_334_202 (by repeat (first | exact q0 | exact sm_get_p1 | exact sm_get_p2e | refine sm_get_p1m (by decide) (by decide) ?_ | refine sm_get_p1n (by decide) rfl ?_ | refine sm_get_p2n (by decide) (by decide) rfl ?_)) ?_
  refine Bod.get dc_334_203 fr_334_141 (mk_61 _) rfl ?_
  refine Bod.aldnG dc_334_206 (by repeat (first | exact q0 | exact sm_get_p1 | exact sm_get_p2e | refine sm_get_p1m (by decide) (by decide) ?_ | refine sm_get_p1n (by decide) rfl ?_ | refine sm_get_p2n (by decide) (by decide) rfl ?_)) ?_
  refine Bod.get dc_334_207 fr_334_190 (mk_61 _) rfl ?_
  refine Bod.eqI (nI k) (by first | assumption | rfl | exact congrArg nI (by omega) | (simp (disch := omega) only [rI, rIe, rA, rIA, rLA, rJA, rVI, rQI, rVA, rQA, upd_at,  rAI, rLI, rJI, nI_add, pk_sub, kc_0, kc_1, kc_2, kc_3, kc_4, kc_5, reduceIte, Nat.reduceEqDiff, Nat.add_zero, rI_hold, rI_hold, rL_hold, hbl, he73, hk]; done)) ?_
  refine Bod.ialdN k rfl (by omega) (by omega) dc_334_210 (mk_70 _) ?_
  refine Bod.eqI (nI e70) (by first | assumption | rfl | exact congrArg nI (by omega) | (simp (disch := omega) only [rI, rIe, rA, rIA, rLA, rJA, rVI, rQI, rVA, rQA, upd_at,  rAI, rLI, rJI, nI_add, pk_sub, kc_0, kc_1, kc_2, kc_3, kc_4, kc_5, reduceIte, Nat.reduceEqDiff, Nat.add_zero, rI_hold, rI_hold, rL_hold, hbl, he73, hk, he70]; done)) ?_
  refine Bod.icF dc_334_211 rfl (k2_ne_F (k_eq e73 e70 rfl rfl (by omega))) ?_
  refine Bod.ic 1 (by decide) dc_334_214 ?_
  exact Bod.retZ dc_334_215 rt_334 (Or.inr rfl)
theorem zCs_1 {d : Nat} {S : cS} {k : Nat} {e69 : Nat} {S1 : cS} {k1 : Nat} {e70 : Nat} {S2 : cS} {k2 : Nat} {S3 : cS} (hk : sI S 6115 = nI k) (mk : k < 6001) (he69 : sA S 69 k = nI e69) (me69 : e69 < 2 ^ 20) (c1 : Ans (d + 8) 302 [.ref 61, .int (nI 0), .int (nI e69)] S none S1) (hk1 : sI S1 6115 = nI k1) (mk1 : k1 < 6001) (he70 : sA S1 70 k1 = nI e70) (me70 : e70 < 2 ^ 20) (c2 : Ans (d + 8) 309 [.ref 61, .int (nI 11)] S1 (some (.int (nI 1))) S2) (hk2 : sI S2 6115 = nI k2) (mk2 : k2 < 6001) (c3 : Ans (d + 8) 332 [.ref 61] (wI 6115 (nI (k2 + 1)) S2) (some (.int (nI 1))) S3) : Bod (d + 8) 335 0 [(0, .ref 61)] [] S (some (.int 1)) (S3) := by
  refine Bod.go dc_335_0 rfl ?_
  refine Bod.ic 0 (by decide) dc_335_1 ?_
  refine Bod.go dc_335_2 rfl ?_
  refine Bod.get dc_335_3 fr_335_138 (mk_61 _) rfl ?_
  refine Bod.go dc_335_6 rfl ?_
  refine Bod.get dc_335_7 fr_335_190 (mk_61 _) rfl ?_
  refine Bod.eqI (nI k) (by first | assumption | rfl | exact congrArg nI (by omega) | (simp (disch := omega) only [rI, rIe, rA, rIA, rLA, rJA, rVI, rQI, rVA, rQA, upd_at,  rAI, rLI, rJI, nI_add, pk_sub, kc_0, kc_1, kc_2, kc_3, kc_4, kc_5, reduceIte, Nat.reduceEqDiff, Nat.add_zero, rI_hold, rI_hold, rL_hold, hk]; done)) ?_
  refine Bod.ialdN k rfl (by omega) (by omega) dc_335_10 (mk_69 _) ?_
  refine Bod.eqI (nI e69) (by first | assumption | rfl | exact congrArg nI (by omega) | (simp (disch := omega) only [rI, rIe, rA, rIA, rLA, rJA, rVI, rQI, rVA, rQA, upd_at,  rAI, rLI, rJI, nI_add, pk_sub, kc_0, kc_1, kc_2, kc_3, kc_4, kc_5, reduceIte, Nat.reduceEqDiff, Nat.add_zero, rI_hold, rI_hold, rL_hold, hk, he69]; done)) ?_
  refine Bod.virt (r := []) dc_335_11 kr_335_216 ⟨Or.inl rfl, ow_302, cl_14⟩ (by rw [np_302]; rfl) (by rw [np_302]; rfl) (ob_of (mk_61 _)) (Nat.le_of_ble_eq_true rfl) (c1  ) ?_
  show Bod _ _ _ _ [] _ _ _
  refine Bod.go dc_335_14 rfl ?_
  refine Bod.get dc_335_15 fr_335_141 (mk_61 _) rfl ?_
  refine Bod.go dc_335_18 rfl ?_
  refine Bod.get dc_335_19 fr_335_190 (mk_61 _) rfl ?_
  refine Bod.eqI (nI k1) (by first | (simp (disch := omega) only [rI, rIe, rA, rIA, rLA, rJA, rVI, rQI, rVA, rQA, upd_at,  rAI, rLI, rJI, nI_add, pk_sub, kc_0, kc_1, kc_2, kc_3, kc_4, kc_5, reduceIte, Nat.reduceEqDiff, Nat.add_zero, rI_hold, rI_hold, rL_hold, hk, he69, hk1]; done) | (simp (disch := omega) only [rI, rIe, rA, rIA, rLA, rJA, rVI, rQI, rVA, rQA, upd_at,  rAI, rLI, rJI, nI_add, pk_sub, kc_0, kc_1, kc_2, kc_3, kc_4, kc_5, reduceIte, Nat.reduceEqDiff, Nat.add_zero, rI_hold, rI_hold, rL_hold, hk, he69, hk1]; exact congrArg nI (by omega))) ?_
  refine Bod.ialdN k1 rfl (by omega) (by omega) dc_335_22 (mk_70 _) ?_
  refine Bod.eqI (nI e70) (by first | (simp (disch := omega) only [rI, rIe, rA, rIA, rLA, rJA, rVI, rQI, rVA, rQA, upd_at,  rAI, rLI, rJI, nI_add, pk_sub, kc_0, kc_1, kc_2, kc_3, kc_4, kc_5, reduceIte, Nat.reduceEqDiff, Nat.add_zero, rI_hold, rI_hold, rL_hold, hk, he69, hk1, he70]; done) | (simp (disch := omega) only [rI, rIe, rA, rIA, rLA, rJA, rVI, rQI, rVA, rQA, upd_at,  rAI, rLI, rJI, nI_add, pk_sub, kc_0, kc_1, kc_2, kc_3, kc_4, kc_5, reduceIte, Nat.reduceEqDiff, Nat.add_zero, rI_hold, rI_hold, rL_hold, hk, he69, hk1, he70]; exact congrArg nI (by omega))) ?_
  refine Bod.istn dc_335_23 (by rw [ml_335]; exact Nat.le_of_ble_eq_true rfl) ?_
  refine Bod.go dc_335_24 rfl ?_
  refine Bod.bip 11 (by decide) dc_335_25 ?_
  refine Bod.virt (r := []) dc_335_27 kr_335_312 ⟨Or.inl rfl, ow_309, cl_14⟩ (by rw [np_309]; rfl) (by rw [np_309]; rfl) (ob_of (mk_61 _)) (Nat.le_of_ble_eq_true rfl) (c2  ) ?_
  show Bod _ _ _ _ [_] _ _ _
  refine Bod.ifF dc_335_30 rfl (k1_eq_F (k_ne 1 0 rfl rfl (by omega) (by omega) (by omega))) ?_
  refine Bod.go dc_335_33 rfl ?_
  refine Bod.go dc_335_34 rfl ?_
  refine Bod.get dc_335_35 fr_335_190 (mk_61 _) rfl ?_
  refine Bod.eqI (nI k2) (by first | (simp (disch := omega) only [rI, rIe, rA, rIA, rLA, rJA, rVI, rQI, rVA, rQA, upd_at,  rAI, rLI, rJI, nI_add, pk_sub, kc_0, kc_1, kc_2, kc_3, kc_4, kc_5, reduceIte, Nat.reduceEqDiff, Nat.add_zero, rI_hold, rI_hold, rL_hold, hk, he69, hk1, he70, hk2]; done) | (simp (disch := omega) only [rI, rIe, rA, rIA, rLA, rJA, rVI, rQI, rVA, rQA, upd_at,  rAI, rLI, rJI, nI_add, pk_sub, kc_0, kc_1, kc_2, kc_3, kc_4, kc_5, reduceIte, Nat.reduceEqDiff, Nat.add_zero, rI_hold, rI_hold, rL_hold, hk, he69, hk1, he70, hk2]; exact congrArg nI (by omega))) ?_
  refine Bod.ic 1 (by decide) dc_335_38 ?_
  refine Bod.addN (k2 + 1) (by omega) dc_335_39 ?_
  refine Bod.put dc_335_40 fr_335_190 (mk_61 _) (Nat.le_of_ble_eq_true rfl) pf_14_15 (st_6115 _ _) (mu_I _ _ _) ?_
  refine Bod.go dc_335_43 rfl ?_
  refine Bod.virt (r := []) dc_335_44 kr_335_273 ⟨Or.inl rfl, ow_332, cl_14⟩ (by rw [np_332]; rfl) (by rw [np_332]; rfl) (ob_of (mk_61 _)) (Nat.le_of_ble_eq_true rfl) (c3  ) ?_
  show Bod _ _ _ _ [_] _ _ _
  exact Bod.retZ dc_335_47 rt_335 (Or.inr rfl)
theorem zCs_2 {d : Nat} {S : cS} {k : Nat} {e69 : Nat} {S1 : cS} {k1 : Nat} {e70 : Nat} {S2 : cS} {k2 : Nat} {S3 : cS} (hk : sI S 6115 = nI k) (mk : k < 6001) (he69 : sA S 69 k = nI e69) (me69 : e69 < 2 ^ 20) (c1 : Ans (d + 8) 302 [.ref 61, .int (nI 0), .int (nI e69)] S none S1) (hk1 : sI S1 6115 = nI k1) (mk1 : k1 < 6001) (he70 : sA S1 70 k1 = nI e70) (me70 : e70 < 2 ^ 20) (c2 : Ans (d + 8) 309 [.ref 61, .int (nI 11)] S1 (some (.int (nI 1))) S2) (hk2 : sI S2 6115 = nI k2) (mk2 : k2 < 6001) (c3 : Ans (d + 8) 332 [.ref 61] (wI 6115 (nI (k2 + 1)) S2) (some (.int (nI 0))) S3) : Bod (d + 8) 335 0 [(0, .ref 61)] [] S (some (.int 0)) (S3) := by
  refine Bod.go dc_335_0 rfl ?_
  refine Bod.ic 0 (by decide) dc_335_1 ?_
  refine Bod.go dc_335_2 rfl ?_
  refine Bod.get dc_335_3 fr_335_138 (mk_61 _) rfl ?_
  refine Bod.go dc_335_6 rfl ?_
  refine Bod.get dc_335_7 fr_335_190 (mk_61 _) rfl ?_
  refine Bod.eqI (nI k) (by first | assumption | rfl | exact congrArg nI (by omega) | (simp (disch := omega) only [rI, rIe, rA, rIA, rLA, rJA, rVI, rQI, rVA, rQA, upd_at,  rAI, rLI, rJI, nI_add, pk_sub, kc_0, kc_1, kc_2, kc_3, kc_4, kc_5, reduceIte, Nat.reduceEqDiff, Nat.add_zero, rI_hold, rI_hold, rL_hold, hk]; done)) ?_
  refine Bod.ialdN k rfl (by omega) (by omega) dc_335_10 (mk_69 _) ?_
  refine Bod.eqI (nI e69) (by first | assumption | rfl | exact congrArg nI (by omega) | (simp (disch := omega) only [rI, rIe, rA, rIA, rLA, rJA, rVI, rQI, rVA, rQA, upd_at,  rAI, rLI, rJI, nI_add, pk_sub, kc_0, kc_1, kc_2, kc_3, kc_4, kc_5, reduceIte, Nat.reduceEqDiff, Nat.add_zero, rI_hold, rI_hold, rL_hold, hk, he69]; done)) ?_
  refine Bod.virt (r := []) dc_335_11 kr_335_216 ⟨Or.inl rfl, ow_302, cl_14⟩ (by rw [np_302]; rfl) (by rw [np_302]; rfl) (ob_of (mk_61 _)) (Nat.le_of_ble_eq_true rfl) (c1  ) ?_
  show Bod _ _ _ _ [] _ _ _
  refine Bod.go dc_335_14 rfl ?_
  refine Bod.get dc_335_15 fr_335_141 (mk_61 _) rfl ?_
  refine Bod.go dc_335_18 rfl ?_
  refine Bod.get dc_335_19 fr_335_190 (mk_61 _) rfl ?_
  refine Bod.eqI (nI k1) (by first | (simp (disch := omega) only [rI, rIe, rA, rIA, rLA, rJA, rVI, rQI, rVA, rQA, upd_at,  rAI, rLI, rJI, nI_add, pk_sub, kc_0, kc_1, kc_2, kc_3, kc_4, kc_5, reduceIte, Nat.reduceEqDiff, Nat.add_zero, rI_hold, rI_hold, rL_hold, hk, he69, hk1]; done) | (simp (disch := omega) only [rI, rIe, rA, rIA, rLA, rJA, rVI, rQI, rVA, rQA, upd_at,  rAI, rLI, rJI, nI_add, pk_sub, kc_0, kc_1, kc_2, kc_3, kc_4, kc_5, reduceIte, Nat.reduceEqDiff, Nat.add_zero, rI_hold, rI_hold, rL_hold, hk, he69, hk1]; exact congrArg nI (by omega))) ?_
  refine Bod.ialdN k1 rfl (by omega) (by omega) dc_335_22 (mk_70 _) ?_
  refine Bod.eqI (nI e70) (by first | (simp (disch := omega) only [rI, rIe, rA, rIA, rLA, rJA, rVI, rQI, rVA, rQA, upd_at,  rAI, rLI, rJI, nI_add, pk_sub, kc_0, kc_1, kc_2, kc_3, kc_4, kc_5, reduceIte, Nat.reduceEqDiff, Nat.add_zero, rI_hold, rI_hold, rL_hold, hk, he69, hk1, he70]; done) | (simp (disch := omega) only [rI, rIe, rA, rIA, rLA, rJA, rVI, rQI, rVA, rQA, upd_at,  rAI, rLI, rJI, nI_add, pk_sub, kc_0, kc_1, kc_2, kc_3, kc_4, kc_5, reduceIte, Nat.reduceEqDiff, Nat.add_zero, rI_hold, rI_hold, rL_hold, hk, he69, hk1, he70]; exact congrArg nI (by omega))) ?_
  refine Bod.istn dc_335_23 (by rw [ml_335]; exact Nat.le_of_ble_eq_true rfl) ?_
  refine Bod.go dc_335_24 rfl ?_
  refine Bod.bip 11 (by decide) dc_335_25 ?_
  refine Bod.virt (r := []) dc_335_27 kr_335_312 ⟨Or.inl rfl, ow_309, cl_14⟩ (by rw [np_309]; rfl) (by rw [np_309]; rfl) (ob_of (mk_61 _)) (Nat.le_of_ble_eq_true rfl) (c2  ) ?_
  show Bod _ _ _ _ [_] _ _ _
  refine Bod.ifF dc_335_30 rfl (k1_eq_F (k_ne 1 0 rfl rfl (by omega) (by omega) (by omega))) ?_
  refine Bod.go dc_335_33 rfl ?_
  refine Bod.go dc_335_34 rfl ?_
  refine Bod.get dc_335_35 fr_335_190 (mk_61 _) rfl ?_
  refine Bod.eqI (nI k2) (by first | (simp (disch := omega) only [rI, rIe, rA, rIA, rLA, rJA, rVI, rQI, rVA, rQA, upd_at,  rAI, rLI, rJI, nI_add, pk_sub, kc_0, kc_1, kc_2, kc_3, kc_4, kc_5, reduceIte, Nat.reduceEqDiff, Nat.add_zero, rI_hold, rI_hold, rL_hold, hk, he69, hk1, he70, hk2]; done) | (simp (disch := omega) only [rI, rIe, rA, rIA, rLA, rJA, rVI, rQI, rVA, rQA, upd_at,  rAI, rLI, rJI, nI_add, pk_sub, kc_0, kc_1, kc_2, kc_3, kc_4, kc_5, reduceIte, Nat.reduceEqDiff, Nat.add_zero, rI_hold, rI_hold, rL_hold, hk, he69, hk1, he70, hk2]; exact congrArg nI (by omega))) ?_
  refine Bod.ic 1 (by decide) dc_335_38 ?_
  refine Bod.addN (k2 + 1) (by omega) dc_335_39 ?_
  refine Bod.put dc_335_40 fr_335_190 (mk_61 _) (Nat.le_of_ble_eq_true rfl) pf_14_15 (st_6115 _ _) (mu_I _ _ _) ?_
  refine Bod.go dc_335_43 rfl ?_
  refine Bod.virt (r := []) dc_335_44 kr_335_273 ⟨Or.inl rfl, ow_332, cl_14⟩ (by rw [np_332]; rfl) (by rw [np_332]; rfl) (ob_of (mk_61 _)) (Nat.le_of_ble_eq_true rfl) (c3  ) ?_
  show Bod _ _ _ _ [_] _ _ _
  exact Bod.retZ dc_335_47 rt_335 (Or.inl rfl)
theorem zCs_3 {d : Nat} {S : cS} {k : Nat} {e69 : Nat} {S1 : cS} {k1 : Nat} {e70 : Nat} {S2 : cS} {S3 : cS} {k2 : Nat} {e67 : Nat} {S4 : cS} {S5 : cS} (hk : sI S 6115 = nI k) (mk : k < 6001) (he69 : sA S 69 k = nI e69) (me69 : e69 < 2 ^ 20) (c1 : Ans (d + 8) 302 [.ref 61, .int (nI 0), .int (nI e69)] S none S1) (hk1 : sI S1 6115 = nI k1) (mk1 : k1 < 6001) (he70 : sA S1 70 k1 = nI e70) (me70 : e70 < 2 ^ 20) (c2 : Ans (d + 8) 309 [.ref 61, .int (nI 11)] S1 (some (.int (nI 0))) S2) (c3 : Ans (d + 8) 309 [.ref 61, .int (nI 6)] S2 (some (.int (nI 1))) S3) (hk2 : sI S3 6115 = nI k2) (mk2 : k2 < 6001) (he67 : sA S3 67 (k2 + 1) = nI e67) (me67 : e67 < 2 ^ 20) (b1 : e67 ≠ 1) (c4 : Ans (d + 8) 336 [.ref 61, .int (nI e70), .int (nI 0)] S3 (some (.int (nI 1))) S4) (c5 : Ans (d + 8) 341 [.ref 61, .int (Int32.ofInt (-1))] S4 none S5) : Bod (d + 8) 335 0 [(0, .ref 61)] [] S (some (.int 1)) (S5) := by
  refine Bod.go dc_335_0 rfl ?_
  refine Bod.ic 0 (by decide) dc_335_1 ?_
  refine Bod.go dc_335_2 rfl ?_
  refine Bod.get dc_335_3 fr_335_138 (mk_61 _) rfl ?_
  refine Bod.go dc_335_6 rfl ?_
  refine Bod.get dc_335_7 fr_335_190 (mk_61 _) rfl ?_
  refine Bod.eqI (nI k) (by first | assumption | rfl | exact congrArg nI (by omega) | (simp (disch := omega) only [rI, rIe, rA, rIA, rLA, rJA, rVI, rQI, rVA, rQA, upd_at,  rAI, rLI, rJI, nI_add, pk_sub, kc_0, kc_1, kc_2, kc_3, kc_4, kc_5, reduceIte, Nat.reduceEqDiff, Nat.add_zero, rI_hold, rI_hold, rL_hold, hk]; done)) ?_
  refine Bod.ialdN k rfl (by omega) (by omega) dc_335_10 (mk_69 _) ?_
  refine Bod.eqI (nI e69) (by first | assumption | rfl | exact congrArg nI (by omega) | (simp (disch := omega) only [rI, rIe, rA, rIA, rLA, rJA, rVI, rQI, rVA, rQA, upd_at,  rAI, rLI, rJI, nI_add, pk_sub, kc_0, kc_1, kc_2, kc_3, kc_4, kc_5, reduceIte, Nat.reduceEqDiff, Nat.add_zero, rI_hold, rI_hold, rL_hold, hk, he69]; done)) ?_
  refine Bod.virt (r := []) dc_335_11 kr_335_216 ⟨Or.inl rfl, ow_302, cl_14⟩ (by rw [np_302]; rfl) (by rw [np_302]; rfl) (ob_of (mk_61 _)) (Nat.le_of_ble_eq_true rfl) (c1  ) ?_
  show Bod _ _ _ _ [] _ _ _
  refine Bod.go dc_335_14 rfl ?_
  refine Bod.get dc_335_15 fr_335_141 (mk_61 _) rfl ?_
  refine Bod.go dc_335_18 rfl ?_
  refine Bod.get dc_335_19 fr_335_190 (mk_61 _) rfl ?_
  refine Bod.eqI (nI k1) (by first | (simp (disch := omega) only [rI, rIe, rA, rIA, rLA, rJA, rVI, rQI, rVA, rQA, upd_at,  rAI, rLI, rJI, nI_add, pk_sub, kc_0, kc_1, kc_2, kc_3, kc_4, kc_5, reduceIte, Nat.reduceEqDiff, Nat.add_zero, rI_hold, rI_hold, rL_hold, hk, he69, hk1]; done) | (simp (disch := omega) only [rI, rIe, rA, rIA, rLA, rJA, rVI, rQI, rVA, rQA, upd_at,  rAI, rLI, rJI, nI_add, pk_sub, kc_0, kc_1, kc_2, kc_3, kc_4, kc_5, reduceIte, Nat.reduceEqDiff, Nat.add_zero, rI_hold, rI_hold, rL_hold, hk, he69, hk1]; exact congrArg nI (by omega))) ?_
  refine Bod.ialdN k1 rfl (by omega) (by omega) dc_335_22 (mk_70 _) ?_
  refine Bod.eqI (nI e70) (by first | (simp (disch := omega) only [rI, rIe, rA, rIA, rLA, rJA, rVI, rQI, rVA, rQA, upd_at,  rAI, rLI, rJI, nI_add, pk_sub, kc_0, kc_1, kc_2, kc_3, kc_4, kc_5, reduceIte, Nat.reduceEqDiff, Nat.add_zero, rI_hold, rI_hold, rL_hold, hk, he69, hk1, he70]; done) | (simp (disch := omega) only [rI, rIe, rA, rIA, rLA, rJA, rVI, rQI, rVA, rQA, upd_at,  rAI, rLI, rJI, nI_add, pk_sub, kc_0, kc_1, kc_2, kc_3, kc_4, kc_5, reduceIte, Nat.reduceEqDiff, Nat.add_zero, rI_hold, rI_hold, rL_hold, hk, he69, hk1, he70]; exact congrArg nI (by omega))) ?_
  refine Bod.istn dc_335_23 (by rw [ml_335]; exact Nat.le_of_ble_eq_true rfl) ?_
  refine Bod.go dc_335_24 rfl ?_
  refine Bod.bip 11 (by decide) dc_335_25 ?_
  refine Bod.virt (r := []) dc_335_27 kr_335_312 ⟨Or.inl rfl, ow_309, cl_14⟩ (by rw [np_309]; rfl) (by rw [np_309]; rfl) (ob_of (mk_61 _)) (Nat.le_of_ble_eq_true rfl) (c2  ) ?_
  show Bod _ _ _ _ [_] _ _ _
  refine Bod.ifT dc_335_30 rfl (k1_eq_T (k_eq 0 0 rfl rfl (by omega))) ?_
  refine Bod.go dc_335_48 rfl ?_
  refine Bod.bip 6 (by decide) dc_335_49 ?_
  refine Bod.virt (r := []) dc_335_51 kr_335_312 ⟨Or.inl rfl, ow_309, cl_14⟩ (by rw [np_309]; rfl) (by rw [np_309]; rfl) (ob_of (mk_61 _)) (Nat.le_of_ble_eq_true rfl) (c3  ) ?_
  show Bod _ _ _ _ [_] _ _ _
  refine Bod.ifF dc_335_54 rfl (k1_eq_F (k_ne 1 0 rfl rfl (by omega) (by omega) (by omega))) ?_
  refine Bod.go dc_335_57 rfl ?_
  refine Bod.get dc_335_58 fr_335_129 (mk_61 _) rfl ?_
  refine Bod.go dc_335_61 rfl ?_
  refine Bod.get dc_335_62 fr_335_190 (mk_61 _) rfl ?_
  refine Bod.eqI (nI k2) (by first | (simp (disch := omega) only [rI, rIe, rA, rIA, rLA, rJA, rVI, rQI, rVA, rQA, upd_at,  rAI, rLI, rJI, nI_add, pk_sub, kc_0, kc_1, kc_2, kc_3, kc_4, kc_5, reduceIte, Nat.reduceEqDiff, Nat.add_zero, rI_hold, rI_hold, rL_hold, hk, he69, hk1, he70, hk2]; done) | (simp (disch := omega) only [rI, rIe, rA, rIA, rLA, rJA, rVI, rQI, rVA, rQA, upd_at,  rAI, rLI, rJI, nI_add, pk_sub, kc_0, kc_1, kc_2, kc_3, kc_4, kc_5, reduceIte, Nat.reduceEqDiff, Nat.add_zero, rI_hold, rI_hold, rL_hold, hk, he69, hk1, he70, hk2]; exact congrArg nI (by omega))) ?_
  refine Bod.ic 1 (by decide) dc_335_65 ?_
  refine Bod.addN (k2 + 1) (by omega) dc_335_66 ?_
  refine Bod.ialdN (k2 + 1) rfl (by omega) (by omega) dc_335_67 (mk_67 _) ?_
  refine Bod.eqI (nI e67) (by first | (simp (disch := omega) only [rI, rIe, rA, rIA, rLA, rJA, rVI, rQI, rVA, rQA, upd_at,  rAI, rLI, rJI, nI_add, pk_sub, kc_0, kc_1, kc_2, kc_3, kc_4, kc_5, reduceIte, Nat.reduceEqDiff, Nat.add_zero, rI_hold, rI_hold, rL_hold, hk, he69, hk1, he70, hk2, he67]; done) | (simp (disch := omega) only [rI, rIe, rA, rIA, rLA, rJA, rVI, rQI, rVA, rQA, upd_at,  rAI, rLI, rJI, nI_add, pk_sub, kc_0, kc_1, kc_2, kc_3, kc_4, kc_5, reduceIte, Nat.reduceEqDiff, Nat.add_zero, rI_hold, rI_hold, rL_hold, hk, he69, hk1, he70, hk2, he67]; exact congrArg nI (by omega))) ?_
  refine Bod.ic 1 (by decide) dc_335_68 ?_
  refine Bod.icT dc_335_69 rfl (k2_ne_T (k_ne e67 1 rfl rfl (by omega) (by omega) (by omega))) ?_
  refine Bod.go dc_335_86 rfl ?_
  refine Bod.istn dc_335_87 (by rw [ml_335]; exact Nat.le_of_ble_eq_true rfl) ?_
  refine Bod.go dc_335_88 rfl ?_
  refine Bod.go dc_335_89 rfl ?_
  refine Bod.ic 0 (by decide) dc_335_90 ?_
  refine Bod.virt (r := []) dc_335_91 kr_335_292 ⟨Or.inl rfl, ow_336, cl_14⟩ (by rw [np_336]; rfl) (by rw [np_336]; rfl) (ob_of (mk_61 _)) (Nat.le_of_ble_eq_true rfl) (c4  ) ?_
  show Bod _ _ _ _ [_] _ _ _
  refine Bod.ifT dc_335_94 rfl (k1_ne_T (k_ne 1 0 rfl rfl (by omega) (by omega) (by omega))) ?_
  refine Bod.go dc_335_99 rfl ?_
  refine Bod.go dc_335_100 rfl ?_
  refine Bod.virt (r := []) dc_335_101 kr_335_388 ⟨Or.inl rfl, ow_341, cl_14⟩ (by rw [np_341]; rfl) (by rw [np_341]; rfl) (ob_of (mk_61 _)) (Nat.le_of_ble_eq_true rfl) (c5  ) ?_
  show Bod _ _ _ _ [] _ _ _
  refine Bod.ic 1 (by decide) dc_335_104 ?_
  exact Bod.retZ dc_335_105 rt_335 (Or.inr rfl)
theorem zCs_4 {d : Nat} {S : cS} {k : Nat} {e69 : Nat} {S1 : cS} {k1 : Nat} {e70 : Nat} {S2 : cS} {S3 : cS} {k2 : Nat} {e67 : Nat} {S4 : cS} (hk : sI S 6115 = nI k) (mk : k < 6001) (he69 : sA S 69 k = nI e69) (me69 : e69 < 2 ^ 20) (c1 : Ans (d + 8) 302 [.ref 61, .int (nI 0), .int (nI e69)] S none S1) (hk1 : sI S1 6115 = nI k1) (mk1 : k1 < 6001) (he70 : sA S1 70 k1 = nI e70) (me70 : e70 < 2 ^ 20) (c2 : Ans (d + 8) 309 [.ref 61, .int (nI 11)] S1 (some (.int (nI 0))) S2) (c3 : Ans (d + 8) 309 [.ref 61, .int (nI 6)] S2 (some (.int (nI 1))) S3) (hk2 : sI S3 6115 = nI k2) (mk2 : k2 < 6001) (he67 : sA S3 67 (k2 + 1) = nI e67) (me67 : e67 < 2 ^ 20) (b1 : e67 ≠ 1) (c4 : Ans (d + 8) 336 [.ref 61, .int (nI e70), .int (nI 0)] S3 (some (.int (nI 0))) S4) : Bod (d + 8) 335 0 [(0, .ref 61)] [] S (some (.int 0)) (S4) := by
  refine Bod.go dc_335_0 rfl ?_
  refine Bod.ic 0 (by decide) dc_335_1 ?_
  refine Bod.go dc_335_2 rfl ?_
  refine Bod.get dc_335_3 fr_335_138 (mk_61 _) rfl ?_
  refine Bod.go dc_335_6 rfl ?_
  refine Bod.get dc_335_7 fr_335_190 (mk_61 _) rfl ?_
  refine Bod.eqI (nI k) (by first | assumption | rfl | exact congrArg nI (by omega) | (simp (disch := omega) only [rI, rIe, rA, rIA, rLA, rJA, rVI, rQI, rVA, rQA, upd_at,  rAI, rLI, rJI, nI_add, pk_sub, kc_0, kc_1, kc_2, kc_3, kc_4, kc_5, reduceIte, Nat.reduceEqDiff, Nat.add_zero, rI_hold, rI_hold, rL_hold, hk]; done)) ?_
  refine Bod.ialdN k rfl (by omega) (by omega) dc_335_10 (mk_69 _) ?_
  refine Bod.eqI (nI e69) (by first | assumption | rfl | exact congrArg nI (by omega) | (simp (disch := omega) only [rI, rIe, rA, rIA, rLA, rJA, rVI, rQI, rVA, rQA, upd_at,  rAI, rLI, rJI, nI_add, pk_sub, kc_0, kc_1, kc_2, kc_3, kc_4, kc_5, reduceIte, Nat.reduceEqDiff, Nat.add_zero, rI_hold, rI_hold, rL_hold, hk, he69]; done)) ?_
  refine Bod.virt (r := []) dc_335_11 kr_335_216 ⟨Or.inl rfl, ow_302, cl_14⟩ (by rw [np_302]; rfl) (by rw [np_302]; rfl) (ob_of (mk_61 _)) (Nat.le_of_ble_eq_true rfl) (c1  ) ?_
  show Bod _ _ _ _ [] _ _ _
  refine Bod.go dc_335_14 rfl ?_
  refine Bod.get dc_335_15 fr_335_141 (mk_61 _) rfl ?_
  refine Bod.go dc_335_18 rfl ?_
  refine Bod.get dc_335_19 fr_335_190 (mk_61 _) rfl ?_
  refine Bod.eqI (nI k1) (by first | (simp (disch := omega) only [rI, rIe, rA, rIA, rLA, rJA, rVI, rQI, rVA, rQA, upd_at,  rAI, rLI, rJI, nI_add, pk_sub, kc_0, kc_1, kc_2, kc_3, kc_4, kc_5, reduceIte, Nat.reduceEqDiff, Nat.add_zero, rI_hold, rI_hold, rL_hold, hk, he69, hk1]; done) | (simp (disch := omega) only [rI, rIe, rA, rIA, rLA, rJA, rVI, rQI, rVA, rQA, upd_at,  rAI, rLI, rJI, nI_add, pk_sub, kc_0, kc_1, kc_2, kc_3, kc_4, kc_5, reduceIte, Nat.reduceEqDiff, Nat.add_zero, rI_hold, rI_hold, rL_hold, hk, he69, hk1]; exact congrArg nI (by omega))) ?_
  refine Bod.ialdN k1 rfl (by omega) (by omega) dc_335_22 (mk_70 _) ?_
  refine Bod.eqI (nI e70) (by first | (simp (disch := omega) only [rI, rIe, rA, rIA, rLA, rJA, rVI, rQI, rVA, rQA, upd_at,  rAI, rLI, rJI, nI_add, pk_sub, kc_0, kc_1, kc_2, kc_3, kc_4, kc_5, reduceIte, Nat.reduceEqDiff, Nat.add_zero, rI_hold, rI_hold, rL_hold, hk, he69, hk1, he70]; done) | (simp (disch := omega) only [rI, rIe, rA, rIA, rLA, rJA, rVI, rQI, rVA, rQA, upd_at,  rAI, rLI, rJI, nI_add, pk_sub, kc_0, kc_1, kc_2, kc_3, kc_4, kc_5, reduceIte, Nat.reduceEqDiff, Nat.add_zero, rI_hold, rI_hold, rL_hold, hk, he69, hk1, he70]; exact congrArg nI (by omega))) ?_
  refine Bod.istn dc_335_23 (by rw [ml_335]; exact Nat.le_of_ble_eq_true rfl) ?_
  refine Bod.go dc_335_24 rfl ?_
  refine Bod.bip 11 (by decide) dc_335_25 ?_
  refine Bod.virt (r := []) dc_335_27 kr_335_312 ⟨Or.inl rfl, ow_309, cl_14⟩ (by rw [np_309]; rfl) (by rw [np_309]; rfl) (ob_of (mk_61 _)) (Nat.le_of_ble_eq_true rfl) (c2  ) ?_
  show Bod _ _ _ _ [_] _ _ _
  refine Bod.ifT dc_335_30 rfl (k1_eq_T (k_eq 0 0 rfl rfl (by omega))) ?_
  refine Bod.go dc_335_48 rfl ?_
  refine Bod.bip 6 (by decide) dc_335_49 ?_
  refine Bod.virt (r := []) dc_335_51 kr_335_312 ⟨Or.inl rfl, ow_309, cl_14⟩ (by rw [np_309]; rfl) (by rw [np_309]; rfl) (ob_of (mk_61 _)) (Nat.le_of_ble_eq_true rfl) (c3  ) ?_
  show Bod _ _ _ _ [_] _ _ _
  refine Bod.ifF dc_335_54 rfl (k1_eq_F (k_ne 1 0 rfl rfl (by omega) (by omega) (by omega))) ?_
  refine Bod.go dc_335_57 rfl ?_
  refine Bod.get dc_335_58 fr_335_129 (mk_61 _) rfl ?_
  refine Bod.go dc_335_61 rfl ?_
  refine Bod.get dc_335_62 fr_335_190 (mk_61 _) rfl ?_
  refine Bod.eqI (nI k2) (by first | (simp (disch := omega) only [rI, rIe, rA, rIA, rLA, rJA, rVI, rQI, rVA, rQA, upd_at,  rAI, rLI, rJI, nI_add, pk_sub, kc_0, kc_1, kc_2, kc_3, kc_4, kc_5, reduceIte, Nat.reduceEqDiff, Nat.add_zero, rI_hold, rI_hold, rL_hold, hk, he69, hk1, he70, hk2]; done) | (simp (disch := omega) only [rI, rIe, rA, rIA, rLA, rJA, rVI, rQI, rVA, rQA, upd_at,  rAI, rLI, rJI, nI_add, pk_sub, kc_0, kc_1, kc_2, kc_3, kc_4, kc_5, reduceIte, Nat.reduceEqDiff, Nat.add_zero, rI_hold, rI_hold, rL_hold, hk, he69, hk1, he70, hk2]; exact congrArg nI (by omega))) ?_
  refine Bod.ic 1 (by decide) dc_335_65 ?_
  refine Bod.addN (k2 + 1) (by omega) dc_335_66 ?_
  refine Bod.ialdN (k2 + 1) rfl (by omega) (by omega) dc_335_67 (mk_67 _) ?_
  refine Bod.eqI (nI e67) (by first | (simp (disch := omega) only [rI, rIe, rA, rIA, rLA, rJA, rVI, rQI, rVA, rQA, upd_at,  rAI, rLI, rJI, nI_add, pk_sub, kc_0, kc_1, kc_2, kc_3, kc_4, kc_5, reduceIte, Nat.reduceEqDiff, Nat.add_zero, rI_hold, rI_hold, rL_hold, hk, he69, hk1, he70, hk2, he67]; done) | (simp (disch := omega) only [rI, rIe, rA, rIA, rLA, rJA, rVI, rQI, rVA, rQA, upd_at,  rAI, rLI, rJI, nI_add, pk_sub, kc_0, kc_1, kc_2, kc_3, kc_4, kc_5, reduceIte, Nat.reduceEqDiff, Nat.add_zero, rI_hold, rI_hold, rL_hold, hk, he69, hk1, he70, hk2, he67]; exact congrArg nI (by omega))) ?_
  refine Bod.ic 1 (by decide) dc_335_68 ?_
  refine Bod.icT dc_335_69 rfl (k2_ne_T (k_ne e67 1 rfl rfl (by omega) (by omega) (by omega))) ?_
  refine Bod.go dc_335_86 rfl ?_
  refine Bod.istn dc_335_87 (by rw [ml_335]; exact Nat.le_of_ble_eq_true rfl) ?_
  refine Bod.go dc_335_88 rfl ?_
  refine Bod.go dc_335_89 rfl ?_
  refine Bod.ic 0 (by decide) dc_335_90 ?_
  refine Bod.virt (r := []) dc_335_91 kr_335_292 ⟨Or.inl rfl, ow_336, cl_14⟩ (by rw [np_336]; rfl) (by rw [np_336]; rfl) (ob_of (mk_61 _)) (Nat.le_of_ble_eq_true rfl) (c4  ) ?_
  show Bod _ _ _ _ [_] _ _ _
  refine Bod.ifF dc_335_94 rfl (k1_ne_F (k_eq 0 0 rfl rfl (by omega))) ?_
  refine Bod.ic 0 (by decide) dc_335_97 ?_
  exact Bod.retZ dc_335_98 rt_335 (Or.inl rfl)
theorem zCs_5 {d : Nat} {S : cS} {k : Nat} {e69 : Nat} {S1 : cS} {k1 : Nat} {e70 : Nat} {S2 : cS} {S3 : cS} {k2 : Nat} {e67 : Nat} {e68 : Nat} {S4 : cS} {S5 : cS} (hk : sI S 6115 = nI k) (mk : k < 6001) (he69 : sA S 69 k = nI e69) (me69 : e69 < 2 ^ 20) (c1 : Ans (d + 8) 302 [.ref 61, .int (nI 0), .int (nI e69)] S none S1) (hk1 : sI S1 6115 = nI k1) (mk1 : k1 < 6001) (he70 : sA S1 70 k1 = nI e70) (me70 : e70 < 2 ^ 20) (c2 : Ans (d + 8) 309 [.ref 61, .int (nI 11)] S1 (some (.int (nI 0))) S2) (c3 : Ans (d + 8) 309 [.ref 61, .int (nI 6)] S2 (some (.int (nI 1))) S3) (hk2 : sI S3 6115 = nI k2) (mk2 : k2 < 6001) (he67 : sA S3 67 (k2 + 1) = nI e67) (me67 : e67 < 2 ^ 20) (b1 : e67 = 1) (he68 : sA S3 68 (k2 + 1) = nI e68) (me68 : e68 < 2 ^ 20) (c4 : Ans (d + 8) 336 [.ref 61, .int (nI e70), .int (nI 0)] S3 (some (.int (nI 1))) S4) (c5 : Ans (d + 8) 341 [.ref 61, .int (nI e68)] S4 none S5) : Bod (d + 8) 335 0 [(0, .ref 61)] [] S (some (.int 1)) (S5) := by
  refine Bod.go dc_335_0 rfl ?_
  refine Bod.ic 0 (by decide) dc_335_1 ?_
  refine Bod.go dc_335_2 rfl ?_
  refine Bod.get dc_335_3 fr_335_138 (mk_61 _) rfl ?_
  refine Bod.go dc_335_6 rfl ?_
  refine Bod.get dc_335_7 fr_335_190 (mk_61 _) rfl ?_
  refine Bod.eqI (nI k) (by first | assumption | rfl | exact congrArg nI (by omega) | (simp (disch := omega) only [rI, rIe, rA, rIA, rLA, rJA, rVI, rQI, rVA, rQA, upd_at,  rAI, rLI, rJI, nI_add, pk_sub, kc_0, kc_1, kc_2, kc_3, kc_4, kc_5, reduceIte, Nat.reduceEqDiff, Nat.add_zero, rI_hold, rI_hold, rL_hold, hk]; done)) ?_
  refine Bod.ialdN k rfl (by omega) (by omega) dc_335_10 (mk_69 _) ?_
  refine Bod.eqI (nI e69) (by first | assumption | rfl | exact congrArg nI (by omega) | (simp (disch := omega) only [rI, rIe, rA, rIA, rLA, rJA, rVI, rQI, rVA, rQA, upd_at,  rAI, rLI, rJI, nI_add, pk_sub, kc_0, kc_1, kc_2, kc_3, kc_4, kc_5, reduceIte, Nat.reduceEqDiff, Nat.add_zero, rI_hold, rI_hold, rL_hold, hk, he69]; done)) ?_
  refine Bod.virt (r := []) dc_335_11 kr_335_216 ⟨Or.inl rfl, ow_302, cl_14⟩ (by rw [np_302]; rfl) (by rw [np_302]; rfl) (ob_of (mk_61 _)) (Nat.le_of_ble_eq_true rfl) (c1  ) ?_
  show Bod _ _ _ _ [] _ _ _
  refine Bod.go dc_335_14 rfl ?_
  refine Bod.get dc_335_15 fr_335_141 (mk_61 _) rfl ?_
  refine Bod.go dc_335_18 rfl ?_
  refine Bod.get dc_335_19 fr_335_190 (mk_61 _) rfl ?_
  refine Bod.eqI (nI k1) (by first | (simp (disch := omega) only [rI, rIe, rA, rIA, rLA, rJA, rVI, rQI, rVA, rQA, upd_at,  rAI, rLI, rJI, nI_add, pk_sub, kc_0, kc_1, kc_2, kc_3, kc_4, kc_5, reduceIte, Nat.reduceEqDiff, Nat.add_zero, rI_hold, rI_hold, rL_hold, hk, he69, hk1]; done) | (simp (disch := omega) only [rI, rIe, rA, rIA, rLA, rJA, rVI, rQI, rVA, rQA, upd_at,  rAI, rLI, rJI, nI_add, pk_sub, kc_0, kc_1, kc_2, kc_3, kc_4, kc_5, reduceIte, Nat.reduceEqDiff, Nat.add_zero, rI_hold, rI_hold, rL_hold, hk, he69, hk1]; exact congrArg nI (by omega))) ?_
  refine Bod.ialdN k1 rfl (by omega) (by omega) dc_335_22 (mk_70 _) ?_
  refine Bod.eqI (nI e70) (by first | (simp (disch := omega) only [rI, rIe, rA, rIA, rLA, rJA, rVI, rQI, rVA, rQA, upd_at,  rAI, rLI, rJI, nI_add, pk_sub, kc_0, kc_1, kc_2, kc_3, kc_4, kc_5, reduceIte, Nat.reduceEqDiff, Nat.add_zero, rI_hold, rI_hold, rL_hold, hk, he69, hk1, he70]; done) | (simp (disch := omega) only [rI, rIe, rA, rIA, rLA, rJA, rVI, rQI, rVA, rQA, upd_at,  rAI, rLI, rJI, nI_add, pk_sub, kc_0, kc_1, kc_2, kc_3, kc_4, kc_5, reduceIte, Nat.reduceEqDiff, Nat.add_zero, rI_hold, rI_hold, rL_hold, hk, he69, hk1, he70]; exact congrArg nI (by omega))) ?_
  refine Bod.istn dc_335_23 (by rw [ml_335]; exact Nat.le_of_ble_eq_true rfl) ?_
  refine Bod.go dc_335_24 rfl ?_
  refine Bod.bip 11 (by decide) dc_335_25 ?_
  refine Bod.virt (r := []) dc_335_27 kr_335_312 ⟨Or.inl rfl, ow_309, cl_14⟩ (by rw [np_309]; rfl) (by rw [np_309]; rfl) (ob_of (mk_61 _)) (Nat.le_of_ble_eq_true rfl) (c2  ) ?_
  show Bod _ _ _ _ [_] _ _ _
  refine Bod.ifT dc_335_30 rfl (k1_eq_T (k_eq 0 0 rfl rfl (by omega))) ?_
  refine Bod.go dc_335_48 rfl ?_
  refine Bod.bip 6 (by decide) dc_335_49 ?_
  refine Bod.virt (r := []) dc_335_51 kr_335_312 ⟨Or.inl rfl, ow_309, cl_14⟩ (by rw [np_309]; rfl) (by rw [np_309]; rfl) (ob_of (mk_61 _)) (Nat.le_of_ble_eq_true rfl) (c3  ) ?_
  show Bod _ _ _ _ [_] _ _ _
  refine Bod.ifF dc_335_54 rfl (k1_eq_F (k_ne 1 0 rfl rfl (by omega) (by omega) (by omega))) ?_
  refine Bod.go dc_335_57 rfl ?_
  refine Bod.get dc_335_58 fr_335_129 (mk_61 _) rfl ?_
  refine Bod.go dc_335_61 rfl ?_
  refine Bod.get dc_335_62 fr_335_190 (mk_61 _) rfl ?_
  refine Bod.eqI (nI k2) (by first | (simp (disch := omega) only [rI, rIe, rA, rIA, rLA, rJA, rVI, rQI, rVA, rQA, upd_at,  rAI, rLI, rJI, nI_add, pk_sub, kc_0, kc_1, kc_2, kc_3, kc_4, kc_5, reduceIte, Nat.reduceEqDiff, Nat.add_zero, rI_hold, rI_hold, rL_hold, hk, he69, hk1, he70, hk2]; done) | (simp (disch := omega) only [rI, rIe, rA, rIA, rLA, rJA, rVI, rQI, rVA, rQA, upd_at,  rAI, rLI, rJI, nI_add, pk_sub, kc_0, kc_1, kc_2, kc_3, kc_4, kc_5, reduceIte, Nat.reduceEqDiff, Nat.add_zero, rI_hold, rI_hold, rL_hold, hk, he69, hk1, he70, hk2]; exact congrArg nI (by omega))) ?_
  refine Bod.ic 1 (by decide) dc_335_65 ?_
  refine Bod.addN (k2 + 1) (by omega) dc_335_66 ?_
  refine Bod.ialdN (k2 + 1) rfl (by omega) (by omega) dc_335_67 (mk_67 _) ?_
  refine Bod.eqI (nI e67) (by first | (simp (disch := omega) only [rI, rIe, rA, rIA, rLA, rJA, rVI, rQI, rVA, rQA, upd_at,  rAI, rLI, rJI, nI_add, pk_sub, kc_0, kc_1, kc_2, kc_3, kc_4, kc_5, reduceIte, Nat.reduceEqDiff, Nat.add_zero, rI_hold, rI_hold, rL_hold, hk, he69, hk1, he70, hk2, he67]; done) | (simp (disch := omega) only [rI, rIe, rA, rIA, rLA, rJA, rVI, rQI, rVA, rQA, upd_at,  rAI, rLI, rJI, nI_add, pk_sub, kc_0, kc_1, kc_2, kc_3, kc_4, kc_5, reduceIte, Nat.reduceEqDiff, Nat.add_zero, rI_hold, rI_hold, rL_hold, hk, he69, hk1, he70, hk2, he67]; exact congrArg nI (by omega))) ?_
  refine Bod.ic 1 (by decide) dc_335_68 ?_
  refine Bod.icF dc_335_69 rfl (k2_ne_F (k_eq e67 1 rfl rfl (by omega))) ?_
  refine Bod.go dc_335_72 rfl ?_
  refine Bod.get dc_335_73 fr_335_135 (mk_61 _) rfl ?_
  refine Bod.go dc_335_76 rfl ?_
  refine Bod.get dc_335_77 fr_335_190 (mk_61 _) rfl ?_
  refine Bod.eqI (nI k2) (by first | (simp (disch := omega) only [rI, rIe, rA, rIA, rLA, rJA, rVI, rQI, rVA, rQA, upd_at,  rAI, rLI, rJI, nI_add, pk_sub, kc_0, kc_1, kc_2, kc_3, kc_4, kc_5, reduceIte, Nat.reduceEqDiff, Nat.add_zero, rI_hold, rI_hold, rL_hold, hk, he69, hk1, he70, hk2, he67]; done) | (simp (disch := omega) only [rI, rIe, rA, rIA, rLA, rJA, rVI, rQI, rVA, rQA, upd_at,  rAI, rLI, rJI, nI_add, pk_sub, kc_0, kc_1, kc_2, kc_3, kc_4, kc_5, reduceIte, Nat.reduceEqDiff, Nat.add_zero, rI_hold, rI_hold, rL_hold, hk, he69, hk1, he70, hk2, he67]; exact congrArg nI (by omega))) ?_
  refine Bod.ic 1 (by decide) dc_335_80 ?_
  refine Bod.addN (k2 + 1) (by omega) dc_335_81 ?_
  refine Bod.ialdN (k2 + 1) rfl (by omega) (by omega) dc_335_82 (mk_68 _) ?_
  refine Bod.eqI (nI e68) (by first | (simp (disch := omega) only [rI, rIe, rA, rIA, rLA, rJA, rVI, rQI, rVA, rQA, upd_at,  rAI, rLI, rJI, nI_add, pk_sub, kc_0, kc_1, kc_2, kc_3, kc_4, kc_5, reduceIte, Nat.reduceEqDiff, Nat.add_zero, rI_hold, rI_hold, rL_hold, hk, he69, hk1, he70, hk2, he67, he68]; done) | (simp (disch := omega) only [rI, rIe, rA, rIA, rLA, rJA, rVI, rQI, rVA, rQA, upd_at,  rAI, rLI, rJI, nI_add, pk_sub, kc_0, kc_1, kc_2, kc_3, kc_4, kc_5, reduceIte, Nat.reduceEqDiff, Nat.add_zero, rI_hold, rI_hold, rL_hold, hk, he69, hk1, he70, hk2, he67, he68]; exact congrArg nI (by omega))) ?_
  refine Bod.go dc_335_83 rfl ?_
  refine Bod.istn dc_335_87 (by rw [ml_335]; exact Nat.le_of_ble_eq_true rfl) ?_
  refine Bod.go dc_335_88 rfl ?_
  refine Bod.go dc_335_89 rfl ?_
  refine Bod.ic 0 (by decide) dc_335_90 ?_
  refine Bod.virt (r := []) dc_335_91 kr_335_292 ⟨Or.inl rfl, ow_336, cl_14⟩ (by rw [np_336]; rfl) (by rw [np_336]; rfl) (ob_of (mk_61 _)) (Nat.le_of_ble_eq_true rfl) (c4  ) ?_
  show Bod _ _ _ _ [_] _ _ _
  refine Bod.ifT dc_335_94 rfl (k1_ne_T (k_ne 1 0 rfl rfl (by omega) (by omega) (by omega))) ?_
  refine Bod.go dc_335_99 rfl ?_
  refine Bod.go dc_335_100 rfl ?_
  refine Bod.virt (r := []) dc_335_101 kr_335_388 ⟨Or.inl rfl, ow_341, cl_14⟩ (by rw [np_341]; rfl) (by rw [np_341]; rfl) (ob_of (mk_61 _)) (Nat.le_of_ble_eq_true rfl) (c5  ) ?_
  show Bod _ _ _ _ [] _ _ _
  refine Bod.ic 1 (by decide) dc_335_104 ?_
  exact Bod.retZ dc_335_105 rt_335 (Or.inr rfl)
theorem zCs_6 {d : Nat} {S : cS} {k : Nat} {e69 : Nat} {S1 : cS} {k1 : Nat} {e70 : Nat} {S2 : cS} {S3 : cS} {k2 : Nat} {e67 : Nat} {e68 : Nat} {S4 : cS} (hk : sI S 6115 = nI k) (mk : k < 6001) (he69 : sA S 69 k = nI e69) (me69 : e69 < 2 ^ 20) (c1 : Ans (d + 8) 302 [.ref 61, .int (nI 0), .int (nI e69)] S none S1) (hk1 : sI S1 6115 = nI k1) (mk1 : k1 < 6001) (he70 : sA S1 70 k1 = nI e70) (me70 : e70 < 2 ^ 20) (c2 : Ans (d + 8) 309 [.ref 61, .int (nI 11)] S1 (some (.int (nI 0))) S2) (c3 : Ans (d + 8) 309 [.ref 61, .int (nI 6)] S2 (some (.int (nI 1))) S3) (hk2 : sI S3 6115 = nI k2) (mk2 : k2 < 6001) (he67 : sA S3 67 (k2 + 1) = nI e67) (me67 : e67 < 2 ^ 20) (b1 : e67 = 1) (he68 : sA S3 68 (k2 + 1) = nI e68) (me68 : e68 < 2 ^ 20) (c4 : Ans (d + 8) 336 [.ref 61, .int (nI e70), .int (nI 0)] S3 (some (.int (nI 0))) S4) : Bod (d + 8) 335 0 [(0, .ref 61)] [] S (some (.int 0)) (S4) := by
  refine Bod.go dc_335_0 rfl ?_
  refine Bod.ic 0 (by decide) dc_335_1 ?_
  refine Bod.go dc_335_2 rfl ?_
  refine Bod.get dc_335_3 fr_335_138 (mk_61 _) rfl ?_
  refine Bod.go dc_335_6 rfl ?_
  refine Bod.get dc_335_7 fr_335_190 (mk_61 _) rfl ?_
  refine Bod.eqI (nI k) (by first | assumption | rfl | exact congrArg nI (by omega) | (simp (disch := omega) only [rI, rIe, rA, rIA, rLA, rJA, rVI, rQI, rVA, rQA, upd_at,  rAI, rLI, rJI, nI_add, pk_sub, kc_0, kc_1, kc_2, kc_3, kc_4, kc_5, reduceIte, Nat.reduceEqDiff, Nat.add_zero, rI_hold, rI_hold, rL_hold, hk]; done)) ?_
  refine Bod.ialdN k rfl (by omega) (by omega) dc_335_10 (mk_69 _) ?_
  refine Bod.eqI (nI e69) (by first | assumption | rfl | exact congrArg nI (by omega) | (simp (disch := omega) only [rI, rIe, rA, rIA, rLA, rJA, rVI, rQI, rVA, rQA, upd_at,  rAI, rLI, rJI, nI_add, pk_sub, kc_0, kc_1, kc_2, kc_3, kc_4, kc_5, reduceIte, Nat.reduceEqDiff, Nat.add_zero, rI_hold, rI_hold, rL_hold, hk, he69]; done)) ?_
  refine Bod.virt (r := []) dc_335_11 kr_335_216 ⟨Or.inl rfl, ow_302, cl_14⟩ (by rw [np_302]; rfl) (by rw [np_302]; rfl) (ob_of (mk_61 _)) (Nat.le_of_ble_eq_true rfl) (c1  ) ?_
  show Bod _ _ _ _ [] _ _ _
  refine Bod.go dc_335_14 rfl ?_
  refine Bod.get dc_335_15 fr_335_141 (mk_61 _) rfl ?_
  refine Bod.go dc_335_18 rfl ?_
  refine Bod.get dc_335_19 fr_335_190 (mk_61 _) rfl ?_
  refine Bod.eqI (nI k1) (by first | (simp (disch := omega) only [rI, rIe, rA, rIA, rLA, rJA, rVI, rQI, rVA, rQA, upd_at,  rAI, rLI, rJI, nI_add, pk_sub, kc_0, kc_1, kc_2, kc_3, kc_4, kc_5, reduceIte, Nat.reduceEqDiff, Nat.add_zero, rI_hold, rI_hold, rL_hold, hk, he69, hk1]; done) | (simp (disch := omega) only [rI, rIe, rA, rIA, rLA, rJA, rVI, rQI, rVA, rQA, upd_at,  rAI, rLI, rJI, nI_add, pk_sub, kc_0, kc_1, kc_2, kc_3, kc_4, kc_5, reduceIte, Nat.reduceEqDiff, Nat.add_zero, rI_hold, rI_hold, rL_hold, hk, he69, hk1]; exact congrArg nI (by omega))) ?_
  refine Bod.ialdN k1 rfl (by omega) (by omega) dc_335_22 (mk_70 _) ?_
  refine Bod.eqI (nI e70) (by first | (simp (disch := omega) only [rI, rIe, rA, rIA, rLA, rJA, rVI, rQI, rVA, rQA, upd_at,  rAI, rLI, rJI, nI_add, pk_sub, kc_0, kc_1, kc_2, kc_3, kc_4, kc_5, reduceIte, Nat.reduceEqDiff, Nat.add_zero, rI_hold, rI_hold, rL_hold, hk, he69, hk1, he70]; done) | (simp (disch := omega) only [rI, rIe, rA, rIA, rLA, rJA, rVI, rQI, rVA, rQA, upd_at,  rAI, rLI, rJI, nI_add, pk_sub, kc_0, kc_1, kc_2, kc_3, kc_4, kc_5, reduceIte, Nat.reduceEqDiff, Nat.add_zero, rI_hold, rI_hold, rL_hold, hk, he69, hk1, he70]; exact congrArg nI (by omega))) ?_
  refine Bod.istn dc_335_23 (by rw [ml_335]; exact Nat.le_of_ble_eq_true rfl) ?_
  refine Bod.go dc_335_24 rfl ?_
  refine Bod.bip 11 (by decide) dc_335_25 ?_
  refine Bod.virt (r := []) dc_335_27 kr_335_312 ⟨Or.inl rfl, ow_309, cl_14⟩ (by rw [np_309]; rfl) (by rw [np_309]; rfl) (ob_of (mk_61 _)) (Nat.le_of_ble_eq_true rfl) (c2  ) ?_
  show Bod _ _ _ _ [_] _ _ _
  refine Bod.ifT dc_335_30 rfl (k1_eq_T (k_eq 0 0 rfl rfl (by omega))) ?_
  refine Bod.go dc_335_48 rfl ?_
  refine Bod.bip 6 (by decide) dc_335_49 ?_
  refine Bod.virt (r := []) dc_335_51 kr_335_312 ⟨Or.inl rfl, ow_309, cl_14⟩ (by rw [np_309]; rfl) (by rw [np_309]; rfl) (ob_of (mk_61 _)) (Nat.le_of_ble_eq_true rfl) (c3  ) ?_
  show Bod _ _ _ _ [_] _ _ _
  refine Bod.ifF dc_335_54 rfl (k1_eq_F (k_ne 1 0 rfl rfl (by omega) (by omega) (by omega))) ?_
  refine Bod.go dc_335_57 rfl ?_
  refine Bod.get dc_335_58 fr_335_129 (mk_61 _) rfl ?_
  refine Bod.go dc_335_61 rfl ?_
  refine Bod.get dc_335_62 fr_335_190 (mk_61 _) rfl ?_
  refine Bod.eqI (nI k2) (by first | (simp (disch := omega) only [rI, rIe, rA, rIA, rLA, rJA, rVI, rQI, rVA, rQA, upd_at,  rAI, rLI, rJI, nI_add, pk_sub, kc_0, kc_1, kc_2, kc_3, kc_4, kc_5, reduceIte, Nat.reduceEqDiff, Nat.add_zero, rI_hold, rI_hold, rL_hold, hk, he69, hk1, he70, hk2]; done) | (simp (disch := omega) only [rI, rIe, rA, rIA, rLA, rJA, rVI, rQI, rVA, rQA, upd_at,  rAI, rLI, rJI, nI_add, pk_sub, kc_0, kc_1, kc_2, kc_3, kc_4, kc_5, reduceIte, Nat.reduceEqDiff, Nat.add_zero, rI_hold, rI_hold, rL_hold, hk, he69, hk1, he70, hk2]; exact congrArg nI (by omega))) ?_
  refine Bod.ic 1 (by decide) dc_335_65 ?_
  refine Bod.addN (k2 + 1) (by omega) dc_335_66 ?_
  refine Bod.ialdN (k2 + 1) rfl (by omega) (by omega) dc_335_67 (mk_67 _) ?_
  refine Bod.eqI (nI e67) (by first | (simp (disch := omega) only [rI, rIe, rA, rIA, rLA, rJA, rVI, rQI, rVA, rQA, upd_at,  rAI, rLI, rJI, nI_add, pk_sub, kc_0, kc_1, kc_2, kc_3, kc_4, kc_5, reduceIte, Nat.reduceEqDiff, Nat.add_zero, rI_hold, rI_hold, rL_hold, hk, he69, hk1, he70, hk2, he67]; done) | (simp (disch := omega) only [rI, rIe, rA, rIA, rLA, rJA, rVI, rQI, rVA, rQA, upd_at,  rAI, rLI, rJI, nI_add, pk_sub, kc_0, kc_1, kc_2, kc_3, kc_4, kc_5, reduceIte, Nat.reduceEqDiff, Nat.add_zero, rI_hold, rI_hold, rL_hold, hk, he69, hk1, he70, hk2, he67]; exact congrArg nI (by omega))) ?_
  refine Bod.ic 1 (by decide) dc_335_68 ?_
  refine Bod.icF dc_335_69 rfl (k2_ne_F (k_eq e67 1 rfl rfl (by omega))) ?_
  refine Bod.go dc_335_72 rfl ?_
  refine Bod.get dc_335_73 fr_335_135 (mk_61 _) rfl ?_
  refine Bod.go dc_335_76 rfl ?_
  refine Bod.get dc_335_77 fr_335_190 (mk_61 _) rfl ?_
  refine Bod.eqI (nI k2) (by first | (simp (disch := omega) only [rI, rIe, rA, rIA, rLA, rJA, rVI, rQI, rVA, rQA, upd_at,  rAI, rLI, rJI, nI_add, pk_sub, kc_0, kc_1, kc_2, kc_3, kc_4, kc_5, reduceIte, Nat.reduceEqDiff, Nat.add_zero, rI_hold, rI_hold, rL_hold, hk, he69, hk1, he70, hk2, he67]; done) | (simp (disch := omega) only [rI, rIe, rA, rIA, rLA, rJA, rVI, rQI, rVA, rQA, upd_at,  rAI, rLI, rJI, nI_add, pk_sub, kc_0, kc_1, kc_2, kc_3, kc_4, kc_5, reduceIte, Nat.reduceEqDiff, Nat.add_zero, rI_hold, rI_hold, rL_hold, hk, he69, hk1, he70, hk2, he67]; exact congrArg nI (by omega))) ?_
  refine Bod.ic 1 (by decide) dc_335_80 ?_
  refine Bod.addN (k2 + 1) (by omega) dc_335_81 ?_
  refine Bod.ialdN (k2 + 1) rfl (by omega) (by omega) dc_335_82 (mk_68 _) ?_
  refine Bod.eqI (nI e68) (by first | (simp (disch := omega) only [rI, rIe, rA, rIA, rLA, rJA, rVI, rQI, rVA, rQA, upd_at,  rAI, rLI, rJI, nI_add, pk_sub, kc_0, kc_1, kc_2, kc_3, kc_4, kc_5, reduceIte, Nat.reduceEqDiff, Nat.add_zero, rI_hold, rI_hold, rL_hold, hk, he69, hk1, he70, hk2, he67, he68]; done) | (simp (disch := omega) only [rI, rIe, rA, rIA, rLA, rJA, rVI, rQI, rVA, rQA, upd_at,  rAI, rLI, rJI, nI_add, pk_sub, kc_0, kc_1, kc_2, kc_3, kc_4, kc_5, reduceIte, Nat.reduceEqDiff, Nat.add_zero, rI_hold, rI_hold, rL_hold, hk, he69, hk1, he70, hk2, he67, he68]; exact congrArg nI (by omega))) ?_
  refine Bod.go dc_335_83 rfl ?_
  refine Bod.istn dc_335_87 (by rw [ml_335]; exact Nat.le_of_ble_eq_true rfl) ?_
  refine Bod.go dc_335_88 rfl ?_
  refine Bod.go dc_335_89 rfl ?_
  refine Bod.ic 0 (by decide) dc_335_90 ?_
  refine Bod.virt (r := []) dc_335_91 kr_335_292 ⟨Or.inl rfl, ow_336, cl_14⟩ (by rw [np_336]; rfl) (by rw [np_336]; rfl) (ob_of (mk_61 _)) (Nat.le_of_ble_eq_true rfl) (c4  ) ?_
  show Bod _ _ _ _ [_] _ _ _
  refine Bod.ifF dc_335_94 rfl (k1_ne_F (k_eq 0 0 rfl rfl (by omega))) ?_
  refine Bod.ic 0 (by decide) dc_335_97 ?_
  exact Bod.retZ dc_335_98 rt_335 (Or.inl rfl)
theorem zCs_7 {d : Nat} {S : cS} {k : Nat} {e69 : Nat} {S1 : cS} {k1 : Nat} {e70 : Nat} {S2 : cS} {S3 : cS} {k2 : Nat} {e67 : Nat} {e68 : Nat} {S4 : cS} {S5 : cS} {S6 : cS} {S7 : cS} (hk : sI S 6115 = nI k) (mk : k < 6001) (he69 : sA S 69 k = nI e69) (me69 : e69 < 2 ^ 20) (c1 : Ans (d + 8) 302 [.ref 61, .int (nI 0), .int (nI e69)] S none S1) (hk1 : sI S1 6115 = nI k1) (mk1 : k1 < 6001) (he70 : sA S1 70 k1 = nI e70) (me70 : e70 < 2 ^ 20) (c2 : Ans (d + 8) 309 [.ref 61, .int (nI 11)] S1 (some (.int (nI 0))) S2) (c3 : Ans (d + 8) 309 [.ref 61, .int (nI 6)] S2 (some (.int (nI 0))) S3) (hk2 : sI S3 6115 = nI k2) (mk2 : k2 < 6001) (he67 : sA S3 67 k2 = nI e67) (me67 : e67 < 2 ^ 20) (b1 : e67 = 1) (he68 : sA S3 68 k2 = nI e68) (me68 : e68 < 2 ^ 20) (c4 : Ans (d + 8) 323 [.ref 61, .int (nI 61)] (wI 6115 (nI (k2 + 1)) S3) (some (.int (nI 1))) S4) (c5 : Ans (d + 8) 306 [.ref 61, .int (nI 0)] S4 (some (.int (nI 1))) S5) (c6 : Ans (d + 8) 332 [.ref 61] S5 (some (.int (nI 1))) S6) (c7 : Ans (d + 8) 341 [.ref 61, .int (nI e68)] S6 none S7) : Bod (d + 8) 335 0 [(0, .ref 61)] [] S (some (.int 1)) (S7) := by
  refine Bod.go dc_335_0 rfl ?_
  refine Bod.ic 0 (by decide) dc_335_1 ?_
  refine Bod.go dc_335_2 rfl ?_
  refine Bod.get dc_335_3 fr_335_138 (mk_61 _) rfl ?_
  refine Bod.go dc_335_6 rfl ?_
  refine Bod.get dc_335_7 fr_335_190 (mk_61 _) rfl ?_
  refine Bod.eqI (nI k) (by first | assumption | rfl | exact congrArg nI (by omega) | (simp (disch := omega) only [rI, rIe, rA, rIA, rLA, rJA, rVI, rQI, rVA, rQA, upd_at,  rAI, rLI, rJI, nI_add, pk_sub, kc_0, kc_1, kc_2, kc_3, kc_4, kc_5, reduceIte, Nat.reduceEqDiff, Nat.add_zero, rI_hold, rI_hold, rL_hold, hk]; done)) ?_
  refine Bod.ialdN k rfl (by omega) (by omega) dc_335_10 (mk_69 _) ?_
  refine Bod.eqI (nI e69) (by first | assumption | rfl | exact congrArg nI (by omega) | (simp (disch := omega) only [rI, rIe, rA, rIA, rLA, rJA, rVI, rQI, rVA, rQA, upd_at,  rAI, rLI, rJI, nI_add, pk_sub, kc_0, kc_1, kc_2, kc_3, kc_4, kc_5, reduceIte, Nat.reduceEqDiff, Nat.add_zero, rI_hold, rI_hold, rL_hold, hk, he69]; done)) ?_
  refine Bod.virt (r := []) dc_335_11 kr_335_216 ⟨Or.inl rfl, ow_302, cl_14⟩ (by rw [np_302]; rfl) (by rw [np_302]; rfl) (ob_of (mk_61 _)) (Nat.le_of_ble_eq_true rfl) (c1  ) ?_
  show Bod _ _ _ _ [] _ _ _
  refine Bod.go dc_335_14 rfl ?_
  refine Bod.get dc_335_15 fr_335_141 (mk_61 _) rfl ?_
  refine Bod.go dc_335_18 rfl ?_
  refine Bod.get dc_335_19 fr_335_190 (mk_61 _) rfl ?_
  refine Bod.eqI (nI k1) (by first | (simp (disch := omega) only [rI, rIe, rA, rIA, rLA, rJA, rVI, rQI, rVA, rQA, upd_at,  rAI, rLI, rJI, nI_add, pk_sub, kc_0, kc_1, kc_2, kc_3, kc_4, kc_5, reduceIte, Nat.reduceEqDiff, Nat.add_zero, rI_hold, rI_hold, rL_hold, hk, he69, hk1]; done) | (simp (disch := omega) only [rI, rIe, rA, rIA, rLA, rJA, rVI, rQI, rVA, rQA, upd_at,  rAI, rLI, rJI, nI_add, pk_sub, kc_0, kc_1, kc_2, kc_3, kc_4, kc_5, reduceIte, Nat.reduceEqDiff, Nat.add_zero, rI_hold, rI_hold, rL_hold, hk, he69, hk1]; exact congrArg nI (by omega))) ?_
  refine Bod.ialdN k1 rfl (by omega) (by omega) dc_335_22 (mk_70 _) ?_
  refine Bod.eqI (nI e70) (by first | (simp (disch := omega) only [rI, rIe, rA, rIA, rLA, rJA, rVI, rQI, rVA, rQA, upd_at,  rAI, rLI, rJI, nI_add, pk_sub, kc_0, kc_1, kc_2, kc_3, kc_4, kc_5, reduceIte, Nat.reduceEqDiff, Nat.add_zero, rI_hold, rI_hold, rL_hold, hk, he69, hk1, he70]; done) | (simp (disch := omega) only [rI, rIe, rA, rIA, rLA, rJA, rVI, rQI, rVA, rQA, upd_at,  rAI, rLI, rJI, nI_add, pk_sub, kc_0, kc_1, kc_2, kc_3, kc_4, kc_5, reduceIte, Nat.reduceEqDiff, Nat.add_zero, rI_hold, rI_hold, rL_hold, hk, he69, hk1, he70]; exact congrArg nI (by omega))) ?_
  refine Bod.istn dc_335_23 (by rw [ml_335]; exact Nat.le_of_ble_eq_true rfl) ?_
  refine Bod.go dc_335_24 rfl ?_
  refine Bod.bip 11 (by decide) dc_335_25 ?_
  refine Bod.virt (r := []) dc_335_27 kr_335_312 ⟨Or.inl rfl, ow_309, cl_14⟩ (by rw [np_309]; rfl) (by rw [np_309]; rfl) (ob_of (mk_61 _)) (Nat.le_of_ble_eq_true rfl) (c2  ) ?_
  show Bod _ _ _ _ [_] _ _ _
  refine Bod.ifT dc_335_30 rfl (k1_eq_T (k_eq 0 0 rfl rfl (by omega))) ?_
  refine Bod.go dc_335_48 rfl ?_
  refine Bod.bip 6 (by decide) dc_335_49 ?_
  refine Bod.virt (r := []) dc_335_51 kr_335_312 ⟨Or.inl rfl, ow_309, cl_14⟩ (by rw [np_309]; rfl) (by rw [np_309]; rfl) (ob_of (mk_61 _)) (Nat.le_of_ble_eq_true rfl) (c3  ) ?_
  show Bod _ _ _ _ [_] _ _ _
  refine Bod.ifT dc_335_54 rfl (k1_eq_T (k_eq 0 0 rfl rfl (by omega))) ?_
  refine Bod.go dc_335_106 rfl ?_
  refine Bod.get dc_335_107 fr_335_129 (mk_61 _) rfl ?_
  refine Bod.go dc_335_110 rfl ?_
  refine Bod.get dc_335_111 fr_335_190 (mk_61 _) rfl ?_
  refine Bod.eqI (nI k2) (by first | (simp (disch := omega) only [rI, rIe, rA, rIA, rLA, rJA, rVI, rQI, rVA, rQA, upd_at,  rAI, rLI, rJI, nI_add, pk_sub, kc_0, kc_1, kc_2, kc_3, kc_4, kc_5, reduceIte, Nat.reduceEqDiff, Nat.add_zero, rI_hold, rI_hold, rL_hold, hk, he69, hk1, he70, hk2]; done) | (simp (disch := omega) only [rI, rIe, rA, rIA, rLA, rJA, rVI, rQI, rVA, rQA, upd_at,  rAI, rLI, rJI, nI_add, pk_sub, kc_0, kc_1, kc_2, kc_3, kc_4, kc_5, reduceIte, Nat.reduceEqDiff, Nat.add_zero, rI_hold, rI_hold, rL_hold, hk, he69, hk1, he70, hk2]; exact congrArg nI (by omega))) ?_
  refine Bod.ialdN k2 rfl (by omega) (by omega) dc_335_114 (mk_67 _) ?_
  refine Bod.eqI (nI e67) (by first | (simp (disch := omega) only [rI, rIe, rA, rIA, rLA, rJA, rVI, rQI, rVA, rQA, upd_at,  rAI, rLI, rJI, nI_add, pk_sub, kc_0, kc_1, kc_2, kc_3, kc_4, kc_5, reduceIte, Nat.reduceEqDiff, Nat.add_zero, rI_hold, rI_hold, rL_hold, hk, he69, hk1, he70, hk2, he67]; done) | (simp (disch := omega) only [rI, rIe, rA, rIA, rLA, rJA, rVI, rQI, rVA, rQA, upd_at,  rAI, rLI, rJI, nI_add, pk_sub, kc_0, kc_1, kc_2, kc_3, kc_4, kc_5, reduceIte, Nat.reduceEqDiff, Nat.add_zero, rI_hold, rI_hold, rL_hold, hk, he69, hk1, he70, hk2, he67]; exact congrArg nI (by omega))) ?_
  refine Bod.ic 1 (by decide) dc_335_115 ?_
  refine Bod.icT dc_335_116 rfl (k2_eq_T (k_eq e67 1 rfl rfl (by omega))) ?_
  refine Bod.go dc_335_124 rfl ?_
  refine Bod.get dc_335_125 fr_335_135 (mk_61 _) rfl ?_
  refine Bod.go dc_335_128 rfl ?_
  refine Bod.get dc_335_129 fr_335_190 (mk_61 _) rfl ?_
  refine Bod.eqI (nI k2) (by first | (simp (disch := omega) only [rI, rIe, rA, rIA, rLA, rJA, rVI, rQI, rVA, rQA, upd_at,  rAI, rLI, rJI, nI_add, pk_sub, kc_0, kc_1, kc_2, kc_3, kc_4, kc_5, reduceIte, Nat.reduceEqDiff, Nat.add_zero, rI_hold, rI_hold, rL_hold, hk, he69, hk1, he70, hk2, he67]; done) | (simp (disch := omega) only [rI, rIe, rA, rIA, rLA, rJA, rVI, rQI, rVA, rQA, upd_at,  rAI, rLI, rJI, nI_add, pk_sub, kc_0, kc_1, kc_2, kc_3, kc_4, kc_5, reduceIte, Nat.reduceEqDiff, Nat.add_zero, rI_hold, rI_hold, rL_hold, hk, he69, hk1, he70, hk2, he67]; exact congrArg nI (by omega))) ?_
  refine Bod.ialdN k2 rfl (by omega) (by omega) dc_335_132 (mk_68 _) ?_
  refine Bod.eqI (nI e68) (by first | (simp (disch := omega) only [rI, rIe, rA, rIA, rLA, rJA, rVI, rQI, rVA, rQA, upd_at,  rAI, rLI, rJI, nI_add, pk_sub, kc_0, kc_1, kc_2, kc_3, kc_4, kc_5, reduceIte, Nat.reduceEqDiff, Nat.add_zero, rI_hold, rI_hold, rL_hold, hk, he69, hk1, he70, hk2, he67, he68]; done) | (simp (disch := omega) only [rI, rIe, rA, rIA, rLA, rJA, rVI, rQI, rVA, rQA, upd_at,  rAI, rLI, rJI, nI_add, pk_sub, kc_0, kc_1, kc_2, kc_3, kc_4, kc_5, reduceIte, Nat.reduceEqDiff, Nat.add_zero, rI_hold, rI_hold, rL_hold, hk, he69, hk1, he70, hk2, he67, he68]; exact congrArg nI (by omega))) ?_
  refine Bod.istn dc_335_133 (by rw [ml_335]; exact Nat.le_of_ble_eq_true rfl) ?_
  refine Bod.go dc_335_134 rfl ?_
  refine Bod.go dc_335_135 rfl ?_
  refine Bod.get dc_335_136 fr_335_190 (mk_61 _) rfl ?_
  refine Bod.eqI (nI k2) (by first | (simp (disch := omega) only [rI, rIe, rA, rIA, rLA, rJA, rVI, rQI, rVA, rQA, upd_at,  rAI, rLI, rJI, nI_add, pk_sub, kc_0, kc_1, kc_2, kc_3, kc_4, kc_5, reduceIte, Nat.reduceEqDiff, Nat.add_zero, rI_hold, rI_hold, rL_hold, hk, he69, hk1, he70, hk2, he67, he68]; done) | (simp (disch := omega) only [rI, rIe, rA, rIA, rLA, rJA, rVI, rQI, rVA, rQA, upd_at,  rAI, rLI, rJI, nI_add, pk_sub, kc_0, kc_1, kc_2, kc_3, kc_4, kc_5, reduceIte, Nat.reduceEqDiff, Nat.add_zero, rI_hold, rI_hold, rL_hold, hk, he69, hk1, he70, hk2, he67, he68]; exact congrArg nI (by omega))) ?_
  refine Bod.ic 1 (by decide) dc_335_139 ?_
  refine Bod.addN (k2 + 1) (by omega) dc_335_140 ?_
  refine Bod.put dc_335_141 fr_335_190 (mk_61 _) (Nat.le_of_ble_eq_true rfl) pf_14_15 (st_6115 _ _) (mu_I _ _ _) ?_
  refine Bod.go dc_335_144 rfl ?_
  refine Bod.bip 61 (by decide) dc_335_145 ?_
  refine Bod.virt (r := []) dc_335_147 kr_335_270 ⟨Or.inl rfl, ow_323, cl_14⟩ (by rw [np_323]; rfl) (by rw [np_323]; rfl) (ob_of (mk_61 _)) (Nat.le_of_ble_eq_true rfl) (c4  ) ?_
  show Bod _ _ _ _ [_] _ _ _
  refine Bod.ifF dc_335_150 rfl (k1_eq_F (k_ne 1 0 rfl rfl (by omega) (by omega) (by omega))) ?_
  refine Bod.go dc_335_153 rfl ?_
  refine Bod.ic 0 (by decide) dc_335_154 ?_
  refine Bod.virt (r := []) dc_335_155 kr_335_302 ⟨Or.inl rfl, ow_306, cl_14⟩ (by rw [np_306]; rfl) (by rw [np_306]; rfl) (ob_of (mk_61 _)) (Nat.le_of_ble_eq_true rfl) (c5  ) ?_
  show Bod _ _ _ _ [_] _ _ _
  refine Bod.ifF dc_335_158 rfl (k1_eq_F (k_ne 1 0 rfl rfl (by omega) (by omega) (by omega))) ?_
  refine Bod.go dc_335_161 rfl ?_
  refine Bod.virt (r := []) dc_335_162 kr_335_273 ⟨Or.inl rfl, ow_332, cl_14⟩ (by rw [np_332]; rfl) (by rw [np_332]; rfl) (ob_of (mk_61 _)) (Nat.le_of_ble_eq_true rfl) (c6  ) ?_
  show Bod _ _ _ _ [_] _ _ _
  refine Bod.ifT dc_335_165 rfl (k1_ne_T (k_ne 1 0 rfl rfl (by omega) (by omega) (by omega))) ?_
  refine Bod.go dc_335_170 rfl ?_
  refine Bod.go dc_335_171 rfl ?_
  refine Bod.virt (r := []) dc_335_172 kr_335_388 ⟨Or.inl rfl, ow_341, cl_14⟩ (by rw [np_341]; rfl) (by rw [np_341]; rfl) (ob_of (mk_61 _)) (Nat.le_of_ble_eq_true rfl) (c7  ) ?_
  show Bod _ _ _ _ [] _ _ _
  refine Bod.ic 1 (by decide) dc_335_175 ?_
  exact Bod.retZ dc_335_176 rt_335 (Or.inr rfl)
theorem zCs_8 {d : Nat} {S : cS} {k : Nat} {e69 : Nat} {S1 : cS} {k1 : Nat} {e70 : Nat} {S2 : cS} {S3 : cS} {k2 : Nat} {e67 : Nat} {e68 : Nat} {S4 : cS} {S5 : cS} {S6 : cS} (hk : sI S 6115 = nI k) (mk : k < 6001) (he69 : sA S 69 k = nI e69) (me69 : e69 < 2 ^ 20) (c1 : Ans (d + 8) 302 [.ref 61, .int (nI 0), .int (nI e69)] S none S1) (hk1 : sI S1 6115 = nI k1) (mk1 : k1 < 6001) (he70 : sA S1 70 k1 = nI e70) (me70 : e70 < 2 ^ 20) (c2 : Ans (d + 8) 309 [.ref 61, .int (nI 11)] S1 (some (.int (nI 0))) S2) (c3 : Ans (d + 8) 309 [.ref 61, .int (nI 6)] S2 (some (.int (nI 0))) S3) (hk2 : sI S3 6115 = nI k2) (mk2 : k2 < 6001) (he67 : sA S3 67 k2 = nI e67) (me67 : e67 < 2 ^ 20) (b1 : e67 = 1) (he68 : sA S3 68 k2 = nI e68) (me68 : e68 < 2 ^ 20) (c4 : Ans (d + 8) 323 [.ref 61, .int (nI 61)] (wI 6115 (nI (k2 + 1)) S3) (some (.int (nI 1))) S4) (c5 : Ans (d + 8) 306 [.ref 61, .int (nI 0)] S4 (some (.int (nI 1))) S5) (c6 : Ans (d + 8) 332 [.ref 61] S5 (some (.int (nI 0))) S6) : Bod (d + 8) 335 0 [(0, .ref 61)] [] S (some (.int 0)) (S6) := by
  refine Bod.go dc_335_0 rfl ?_
  refine Bod.ic 0 (by decide) dc_335_1 ?_
  refine Bod.go dc_335_2 rfl ?_
  refine Bod.get dc_335_3 fr_335_138 (mk_61 _) rfl ?_
  refine Bod.go dc_335_6 rfl ?_
  refine Bod.get dc_335_7 fr_335_190 (mk_61 _) rfl ?_
  refine Bod.eqI (nI k) (by first | assumption | rfl | exact congrArg nI (by omega) | (simp (disch := omega) only [rI, rIe, rA, rIA, rLA, rJA, rVI, rQI, rVA, rQA, upd_at,  rAI, rLI, rJI, nI_add, pk_sub, kc_0, kc_1, kc_2, kc_3, kc_4, kc_5, reduceIte, Nat.reduceEqDiff, Nat.add_zero, rI_hold, rI_hold, rL_hold, hk]; done)) ?_
  refine Bod.ialdN k rfl (by omega) (by omega) dc_335_10 (mk_69 _) ?_
  refine Bod.eqI (nI e69) (by first | assumption | rfl | exact congrArg nI (by omega) | (simp (disch := omega) only [rI, rIe, rA, rIA, rLA, rJA, rVI, rQI, rVA, rQA, upd_at,  rAI, rLI, rJI, nI_add, pk_sub, kc_0, kc_1, kc_2, kc_3, kc_4, kc_5, reduceIte, Nat.reduceEqDiff, Nat.add_zero, rI_hold, rI_hold, rL_hold, hk, he69]; done)) ?_
  refine Bod.virt (r := []) dc_335_11 kr_335_216 ⟨Or.inl rfl, ow_302, cl_14⟩ (by rw [np_302]; rfl) (by rw [np_302]; rfl) (ob_of (mk_61 _)) (Nat.le_of_ble_eq_true rfl) (c1  ) ?_
  show Bod _ _ _ _ [] _ _ _
  refine Bod.go dc_335_14 rfl ?_
  refine Bod.get dc_335_15 fr_335_141 (mk_61 _) rfl ?_
  refine Bod.go dc_335_18 rfl ?_
  refine Bod.get dc_335_19 fr_335_190 (mk_61 _) rfl ?_
  refine Bod.eqI (nI k1) (by first | (simp (disch := omega) only [rI, rIe, rA, rIA, rLA, rJA, rVI, rQI, rVA, rQA, upd_at,  rAI, rLI, rJI, nI_add, pk_sub, kc_0, kc_1, kc_2, kc_3, kc_4, kc_5, reduceIte, Nat.reduceEqDiff, Nat.add_zero, rI_hold, rI_hold, rL_hold, hk, he69, hk1]; done) | (simp (disch := omega) only [rI, rIe, rA, rIA, rLA, rJA, rVI, rQI, rVA, rQA, upd_at,  rAI, rLI, rJI, nI_add, pk_sub, kc_0, kc_1, kc_2, kc_3, kc_4, kc_5, reduceIte, Nat.reduceEqDiff, Nat.add_zero, rI_hold, rI_hold, rL_hold, hk, he69, hk1]; exact congrArg nI (by omega))) ?_
  refine Bod.ialdN k1 rfl (by omega) (by omega) dc_335_22 (mk_70 _) ?_
  refine Bod.eqI (nI e70) (by first | (simp (disch := omega) only [rI, rIe, rA, rIA, rLA, rJA, rVI, rQI, rVA, rQA, upd_at,  rAI, rLI, rJI, nI_add, pk_sub, kc_0, kc_1, kc_2, kc_3, kc_4, kc_5, reduceIte, Nat.reduceEqDiff, Nat.add_zero, rI_hold, rI_hold, rL_hold, hk, he69, hk1, he70]; done) | (simp (disch := omega) only [rI, rIe, rA, rIA, rLA, rJA, rVI, rQI, rVA, rQA, upd_at,  rAI, rLI, rJI, nI_add, pk_sub, kc_0, kc_1, kc_2, kc_3, kc_4, kc_5, reduceIte, Nat.reduceEqDiff, Nat.add_zero, rI_hold, rI_hold, rL_hold, hk, he69, hk1, he70]; exact congrArg nI (by omega))) ?_
  refine Bod.istn dc_335_23 (by rw [ml_335]; exact Nat.le_of_ble_eq_true rfl) ?_
  refine Bod.go dc_335_24 rfl ?_
  refine Bod.bip 11 (by decide) dc_335_25 ?_
  refine Bod.virt (r := []) dc_335_27 kr_335_312 ⟨Or.inl rfl, ow_309, cl_14⟩ (by rw [np_309]; rfl) (by rw [np_309]; rfl) (ob_of (mk_61 _)) (Nat.le_of_ble_eq_true rfl) (c2  ) ?_
  show Bod _ _ _ _ [_] _ _ _
  refine Bod.ifT dc_335_30 rfl (k1_eq_T (k_eq 0 0 rfl rfl (by omega))) ?_
  refine Bod.go dc_335_48 rfl ?_
  refine Bod.bip 6 (by decide) dc_335_49 ?_
  refine Bod.virt (r := []) dc_335_51 kr_335_312 ⟨Or.inl rfl, ow_309, cl_14⟩ (by rw [np_309]; rfl) (by rw [np_309]; rfl) (ob_of (mk_61 _)) (Nat.le_of_ble_eq_true rfl) (c3  ) ?_
  show Bod _ _ _ _ [_] _ _ _
  refine Bod.ifT dc_335_54 rfl (k1_eq_T (k_eq 0 0 rfl rfl (by omega))) ?_
  refine Bod.go dc_335_106 rfl ?_
  refine Bod.get dc_335_107 fr_335_129 (mk_61 _) rfl ?_
  refine Bod.go dc_335_110 rfl ?_
  refine Bod.get dc_335_111 fr_335_190 (mk_61 _) rfl ?_
  refine Bod.eqI (nI k2) (by first | (simp (disch := omega) only [rI, rIe, rA, rIA, rLA, rJA, rVI, rQI, rVA, rQA, upd_at,  rAI, rLI, rJI, nI_add, pk_sub, kc_0, kc_1, kc_2, kc_3, kc_4, kc_5, reduceIte, Nat.reduceEqDiff, Nat.add_zero, rI_hold, rI_hold, rL_hold, hk, he69, hk1, he70, hk2]; done) | (simp (disch := omega) only [rI, rIe, rA, rIA, rLA, rJA, rVI, rQI, rVA, rQA, upd_at,  rAI, rLI, rJI, nI_add, pk_sub, kc_0, kc_1, kc_2, kc_3, kc_4, kc_5, reduceIte, Nat.reduceEqDiff, Nat.add_zero, rI_hold, rI_hold, rL_hold, hk, he69, hk1, he70, hk2]; exact congrArg nI (by omega))) ?_
  refine Bod.ialdN k2 rfl (by omega) (by omega) dc_335_114 (mk_67 _) ?_
  refine Bod.eqI (nI e67) (by first | (simp (disch := omega) only [rI, rIe, rA, rIA, rLA, rJA, rVI, rQI, rVA, rQA, upd_at,  rAI, rLI, rJI, nI_add, pk_sub, kc_0, kc_1, kc_2, kc_3, kc_4, kc_5, reduceIte, Nat.reduceEqDiff, Nat.add_zero, rI_hold, rI_hold, rL_hold, hk, he69, hk1, he70, hk2, he67]; done) | (simp (disch := omega) only [rI, rIe, rA, rIA, rLA, rJA, rVI, rQI, rVA, rQA, upd_at,  rAI, rLI, rJI, nI_add, pk_sub, kc_0, kc_1, kc_2, kc_3, kc_4, kc_5, reduceIte, Nat.reduceEqDiff, Nat.add_zero, rI_hold, rI_hold, rL_hold, hk, he69, hk1, he70, hk2, he67]; exact congrArg nI (by omega))) ?_
  refine Bod.ic 1 (by decide) dc_335_115 ?_
  refine Bod.icT dc_335_116 rfl (k2_eq_T (k_eq e67 1 rfl rfl (by omega))) ?_
  refine Bod.go dc_335_124 rfl ?_
  refine Bod.get dc_335_125 fr_335_135 (mk_61 _) rfl ?_
  refine Bod.go dc_335_128 rfl ?_
  refine Bod.get dc_335_129 fr_335_190 (mk_61 _) rfl ?_
  refine Bod.eqI (nI k2) (by first | (simp (disch := omega) only [rI, rIe, rA, rIA, rLA, rJA, rVI, rQI, rVA, rQA, upd_at,  rAI, rLI, rJI, nI_add, pk_sub, kc_0, kc_1, kc_2, kc_3, kc_4, kc_5, reduceIte, Nat.reduceEqDiff, Nat.add_zero, rI_hold, rI_hold, rL_hold, hk, he69, hk1, he70, hk2, he67]; done) | (simp (disch := omega) only [rI, rIe, rA, rIA, rLA, rJA, rVI, rQI, rVA, rQA, upd_at,  rAI, rLI, rJI, nI_add, pk_sub, kc_0, kc_1, kc_2, kc_3, kc_4, kc_5, reduceIte, Nat.reduceEqDiff, Nat.add_zero, rI_hold, rI_hold, rL_hold, hk, he69, hk1, he70, hk2, he67]; exact congrArg nI (by omega))) ?_
  refine Bod.ialdN k2 rfl (by omega) (by omega) dc_335_132 (mk_68 _) ?_
  refine Bod.eqI (nI e68) (by first | (simp (disch := omega) only [rI, rIe, rA, rIA, rLA, rJA, rVI, rQI, rVA, rQA, upd_at,  rAI, rLI, rJI, nI_add, pk_sub, kc_0, kc_1, kc_2, kc_3, kc_4, kc_5, reduceIte, Nat.reduceEqDiff, Nat.add_zero, rI_hold, rI_hold, rL_hold, hk, he69, hk1, he70, hk2, he67, he68]; done) | (simp (disch := omega) only [rI, rIe, rA, rIA, rLA, rJA, rVI, rQI, rVA, rQA, upd_at,  rAI, rLI, rJI, nI_add, pk_sub, kc_0, kc_1, kc_2, kc_3, kc_4, kc_5, reduceIte, Nat.reduceEqDiff, Nat.add_zero, rI_hold, rI_hold, rL_hold, hk, he69, hk1, he70, hk2, he67, he68]; exact congrArg nI (by omega))) ?_
  refine Bod.istn dc_335_133 (by rw [ml_335]; exact Nat.le_of_ble_eq_true rfl) ?_
  refine Bod.go dc_335_134 rfl ?_
  refine Bod.go dc_335_135 rfl ?_
  refine Bod.get dc_335_136 fr_335_190 (mk_61 _) rfl ?_
  refine Bod.eqI (nI k2) (by first | (simp (disch := omega) only [rI, rIe, rA, rIA, rLA, rJA, rVI, rQI, rVA, rQA, upd_at,  rAI, rLI, rJI, nI_add, pk_sub, kc_0, kc_1, kc_2, kc_3, kc_4, kc_5, reduceIte, Nat.reduceEqDiff, Nat.add_zero, rI_hold, rI_hold, rL_hold, hk, he69, hk1, he70, hk2, he67, he68]; done) | (simp (disch := omega) only [rI, rIe, rA, rIA, rLA, rJA, rVI, rQI, rVA, rQA, upd_at,  rAI, rLI, rJI, nI_add, pk_sub, kc_0, kc_1, kc_2, kc_3, kc_4, kc_5, reduceIte, Nat.reduceEqDiff, Nat.add_zero, rI_hold, rI_hold, rL_hold, hk, he69, hk1, he70, hk2, he67, he68]; exact congrArg nI (by omega))) ?_
  refine Bod.ic 1 (by decide) dc_335_139 ?_
  refine Bod.addN (k2 + 1) (by omega) dc_335_140 ?_
  refine Bod.put dc_335_141 fr_335_190 (mk_61 _) (Nat.le_of_ble_eq_true rfl) pf_14_15 (st_6115 _ _) (mu_I _ _ _) ?_
  refine Bod.go dc_335_144 rfl ?_
  refine Bod.bip 61 (by decide) dc_335_145 ?_
  refine Bod.virt (r := []) dc_335_147 kr_335_270 ⟨Or.inl rfl, ow_323, cl_14⟩ (by rw [np_323]; rfl) (by rw [np_323]; rfl) (ob_of (mk_61 _)) (Nat.le_of_ble_eq_true rfl) (c4  ) ?_
  show Bod _ _ _ _ [_] _ _ _
  refine Bod.ifF dc_335_150 rfl (k1_eq_F (k_ne 1 0 rfl rfl (by omega) (by omega) (by omega))) ?_
  refine Bod.go dc_335_153 rfl ?_
  refine Bod.ic 0 (by decide) dc_335_154 ?_
  refine Bod.virt (r := []) dc_335_155 kr_335_302 ⟨Or.inl rfl, ow_306, cl_14⟩ (by rw [np_306]; rfl) (by rw [np_306]; rfl) (ob_of (mk_61 _)) (Nat.le_of_ble_eq_true rfl) (c5  ) ?_
  show Bod _ _ _ _ [_] _ _ _
  refine Bod.ifF dc_335_158 rfl (k1_eq_F (k_ne 1 0 rfl rfl (by omega) (by omega) (by omega))) ?_
  refine Bod.go dc_335_161 rfl ?_
  refine Bod.virt (r := []) dc_335_162 kr_335_273 ⟨Or.inl rfl, ow_332, cl_14⟩ (by rw [np_332]; rfl) (by rw [np_332]; rfl) (ob_of (mk_61 _)) (Nat.le_of_ble_eq_true rfl) (c6  ) ?_
  show Bod _ _ _ _ [_] _ _ _
  refine Bod.ifF dc_335_165 rfl (k1_ne_F (k_eq 0 0 rfl rfl (by omega))) ?_
  refine Bod.ic 0 (by decide) dc_335_168 ?_
  exact Bod.retZ dc_335_169 rt_335 (Or.inl rfl)
theorem zCs_9 {d : Nat} {S : cS} {k : Nat} {e69 : Nat} {S1 : cS} {k1 : Nat} {e70 : Nat} {S2 : cS} {S3 : cS} {k2 : Nat} {e67 : Nat} {e68 : Nat} {S4 : cS} {S5 : cS} (hk : sI S 6115 = nI k) (mk : k < 6001) (he69 : sA S 69 k = nI e69) (me69 : e69 < 2 ^ 20) (c1 : Ans (d + 8) 302 [.ref 61, .int (nI 0), .int (nI e69)] S none S1) (hk1 : sI S1 6115 = nI k1) (mk1 : k1 < 6001) (he70 : sA S1 70 k1 = nI e70) (me70 : e70 < 2 ^ 20) (c2 : Ans (d + 8) 309 [.ref 61, .int (nI 11)] S1 (some (.int (nI 0))) S2) (c3 : Ans (d + 8) 309 [.ref 61, .int (nI 6)] S2 (some (.int (nI 0))) S3) (hk2 : sI S3 6115 = nI k2) (mk2 : k2 < 6001) (he67 : sA S3 67 k2 = nI e67) (me67 : e67 < 2 ^ 20) (b1 : e67 = 1) (he68 : sA S3 68 k2 = nI e68) (me68 : e68 < 2 ^ 20) (c4 : Ans (d + 8) 323 [.ref 61, .int (nI 61)] (wI 6115 (nI (k2 + 1)) S3) (some (.int (nI 1))) S4) (c5 : Ans (d + 8) 306 [.ref 61, .int (nI 0)] S4 (some (.int (nI 0))) S5) : Bod (d + 8) 335 0 [(0, .ref 61)] [] S (some (.int 0)) (S5) := by
  refine Bod.go dc_335_0 rfl ?_
  refine Bod.ic 0 (by decide) dc_335_1 ?_
  refine Bod.go dc_335_2 rfl ?_
  refine Bod.get dc_335_3 fr_335_138 (mk_61 _) rfl ?_
  refine Bod.go dc_335_6 rfl ?_
  refine Bod.get dc_335_7 fr_335_190 (mk_61 _) rfl ?_
  refine Bod.eqI (nI k) (by first | assumption | rfl | exact congrArg nI (by omega) | (simp (disch := omega) only [rI, rIe, rA, rIA, rLA, rJA, rVI, rQI, rVA, rQA, upd_at,  rAI, rLI, rJI, nI_add, pk_sub, kc_0, kc_1, kc_2, kc_3, kc_4, kc_5, reduceIte, Nat.reduceEqDiff, Nat.add_zero, rI_hold, rI_hold, rL_hold, hk]; done)) ?_
  refine Bod.ialdN k rfl (by omega) (by omega) dc_335_10 (mk_69 _) ?_
  refine Bod.eqI (nI e69) (by first | assumption | rfl | exact congrArg nI (by omega) | (simp (disch := omega) only [rI, rIe, rA, rIA, rLA, rJA, rVI, rQI, rVA, rQA, upd_at,  rAI, rLI, rJI, nI_add, pk_sub, kc_0, kc_1, kc_2, kc_3, kc_4, kc_5, reduceIte, Nat.reduceEqDiff, Nat.add_zero, rI_hold, rI_hold, rL_hold, hk, he69]; done)) ?_
  refine Bod.virt (r := []) dc_335_11 kr_335_216 ⟨Or.inl rfl, ow_302, cl_14⟩ (by rw [np_302]; rfl) (by rw [np_302]; rfl) (ob_of (mk_61 _)) (Nat.le_of_ble_eq_true rfl) (c1  ) ?_
  show Bod _ _ _ _ [] _ _ _
  refine Bod.go dc_335_14 rfl ?_
  refine Bod.get dc_335_15 fr_335_141 (mk_61 _) rfl ?_
  refine Bod.go dc_335_18 rfl ?_
  refine Bod.get dc_335_19 fr_335_190 (mk_61 _) rfl ?_
  refine Bod.eqI (nI k1) (by first | (simp (disch := omega) only [rI, rIe, rA, rIA, rLA, rJA, rVI, rQI, rVA, rQA, upd_at,  rAI, rLI, rJI, nI_add, pk_sub, kc_0, kc_1, kc_2, kc_3, kc_4, kc_5, reduceIte, Nat.reduceEqDiff, Nat.add_zero, rI_hold, rI_hold, rL_hold, hk, he69, hk1]; done) | (simp (disch := omega) only [rI, rIe, rA, rIA, rLA, rJA, rVI, rQI, rVA, rQA, upd_at,  rAI, rLI, rJI, nI_add, pk_sub, kc_0, kc_1, kc_2, kc_3, kc_4, kc_5, reduceIte, Nat.reduceEqDiff, Nat.add_zero, rI_hold, rI_hold, rL_hold, hk, he69, hk1]; exact congrArg nI (by omega))) ?_
  refine Bod.ialdN k1 rfl (by omega) (by omega) dc_335_22 (mk_70 _) ?_
  refine Bod.eqI (nI e70) (by first | (simp (disch := omega) only [rI, rIe, rA, rIA, rLA, rJA, rVI, rQI, rVA, rQA, upd_at,  rAI, rLI, rJI, nI_add, pk_sub, kc_0, kc_1, kc_2, kc_3, kc_4, kc_5, reduceIte, Nat.reduceEqDiff, Nat.add_zero, rI_hold, rI_hold, rL_hold, hk, he69, hk1, he70]; done) | (simp (disch := omega) only [rI, rIe, rA, rIA, rLA, rJA, rVI, rQI, rVA, rQA, upd_at,  rAI, rLI, rJI, nI_add, pk_sub, kc_0, kc_1, kc_2, kc_3, kc_4, kc_5, reduceIte, Nat.reduceEqDiff, Nat.add_zero, rI_hold, rI_hold, rL_hold, hk, he69, hk1, he70]; exact congrArg nI (by omega))) ?_
  refine Bod.istn dc_335_23 (by rw [ml_335]; exact Nat.le_of_ble_eq_true rfl) ?_
  refine Bod.go dc_335_24 rfl ?_
  refine Bod.bip 11 (by decide) dc_335_25 ?_
  refine Bod.virt (r := []) dc_335_27 kr_335_312 ⟨Or.inl rfl, ow_309, cl_14⟩ (by rw [np_309]; rfl) (by rw [np_309]; rfl) (ob_of (mk_61 _)) (Nat.le_of_ble_eq_true rfl) (c2  ) ?_
  show Bod _ _ _ _ [_] _ _ _
  refine Bod.ifT dc_335_30 rfl (k1_eq_T (k_eq 0 0 rfl rfl (by omega))) ?_
  refine Bod.go dc_335_48 rfl ?_
  refine Bod.bip 6 (by decide) dc_335_49 ?_
  refine Bod.virt (r := []) dc_335_51 kr_335_312 ⟨Or.inl rfl, ow_309, cl_14⟩ (by rw [np_309]; rfl) (by rw [np_309]; rfl) (ob_of (mk_61 _)) (Nat.le_of_ble_eq_true rfl) (c3  ) ?_
  show Bod _ _ _ _ [_] _ _ _
  refine Bod.ifT dc_335_54 rfl (k1_eq_T (k_eq 0 0 rfl rfl (by omega))) ?_
  refine Bod.go dc_335_106 rfl ?_
  refine Bod.get dc_335_107 fr_335_129 (mk_61 _) rfl ?_
  refine Bod.go dc_335_110 rfl ?_
  refine Bod.get dc_335_111 fr_335_190 (mk_61 _) rfl ?_
  refine Bod.eqI (nI k2) (by first | (simp (disch := omega) only [rI, rIe, rA, rIA, rLA, rJA, rVI, rQI, rVA, rQA, upd_at,  rAI, rLI, rJI, nI_add, pk_sub, kc_0, kc_1, kc_2, kc_3, kc_4, kc_5, reduceIte, Nat.reduceEqDiff, Nat.add_zero, rI_hold, rI_hold, rL_hold, hk, he69, hk1, he70, hk2]; done) | (simp (disch := omega) only [rI, rIe, rA, rIA, rLA, rJA, rVI, rQI, rVA, rQA, upd_at,  rAI, rLI, rJI, nI_add, pk_sub, kc_0, kc_1, kc_2, kc_3, kc_4, kc_5, reduceIte, Nat.reduceEqDiff, Nat.add_zero, rI_hold, rI_hold, rL_hold, hk, he69, hk1, he70, hk2]; exact congrArg nI (by omega))) ?_
  refine Bod.ialdN k2 rfl (by omega) (by omega) dc_335_114 (mk_67 _) ?_
  refine Bod.eqI (nI e67) (by first | (simp (disch := omega) only [rI, rIe, rA, rIA, rLA, rJA, rVI, rQI, rVA, rQA, upd_at,  rAI, rLI, rJI, nI_add, pk_sub, kc_0, kc_1, kc_2, kc_3, kc_4, kc_5, reduceIte, Nat.reduceEqDiff, Nat.add_zero, rI_hold, rI_hold, rL_hold, hk, he69, hk1, he70, hk2, he67]; done) | (simp (disch := omega) only [rI, rIe, rA, rIA, rLA, rJA, rVI, rQI, rVA, rQA, upd_at,  rAI, rLI, rJI, nI_add, pk_sub, kc_0, kc_1, kc_2, kc_3, kc_4, kc_5, reduceIte, Nat.reduceEqDiff, Nat.add_zero, rI_hold, rI_hold, rL_hold, hk, he69, hk1, he70, hk2, he67]; exact congrArg nI (by omega))) ?_
  refine Bod.ic 1 (by decide) dc_335_115 ?_
  refine Bod.icT dc_335_116 rfl (k2_eq_T (k_eq e67 1 rfl rfl (by omega))) ?_
  refine Bod.go dc_335_124 rfl ?_
  refine Bod.get dc_335_125 fr_335_135 (mk_61 _) rfl ?_
  refine Bod.go dc_335_128 rfl ?_
  refine Bod.get dc_335_129 fr_335_190 (mk_61 _) rfl ?_
  refine Bod.eqI (nI k2) (by first | (simp (disch := omega) only [rI, rIe, rA, rIA, rLA, rJA, rVI, rQI, rVA, rQA, upd_at,  rAI, rLI, rJI, nI_add, pk_sub, kc_0, kc_1, kc_2, kc_3, kc_4, kc_5, reduceIte, Nat.reduceEqDiff, Nat.add_zero, rI_hold, rI_hold, rL_hold, hk, he69, hk1, he70, hk2, he67]; done) | (simp (disch := omega) only [rI, rIe, rA, rIA, rLA, rJA, rVI, rQI, rVA, rQA, upd_at,  rAI, rLI, rJI, nI_add, pk_sub, kc_0, kc_1, kc_2, kc_3, kc_4, kc_5, reduceIte, Nat.reduceEqDiff, Nat.add_zero, rI_hold, rI_hold, rL_hold, hk, he69, hk1, he70, hk2, he67]; exact congrArg nI (by omega))) ?_
  refine Bod.ialdN k2 rfl (by omega) (by omega) dc_335_132 (mk_68 _) ?_
  refine Bod.eqI (nI e68) (by first | (simp (disch := omega) only [rI, rIe, rA, rIA, rLA, rJA, rVI, rQI, rVA, rQA, upd_at,  rAI, rLI, rJI, nI_add, pk_sub, kc_0, kc_1, kc_2, kc_3, kc_4, kc_5, reduceIte, Nat.reduceEqDiff, Nat.add_zero, rI_hold, rI_hold, rL_hold, hk, he69, hk1, he70, hk2, he67, he68]; done) | (simp (disch := omega) only [rI, rIe, rA, rIA, rLA, rJA, rVI, rQI, rVA, rQA, upd_at,  rAI, rLI, rJI, nI_add, pk_sub, kc_0, kc_1, kc_2, kc_3, kc_4, kc_5, reduceIte, Nat.reduceEqDiff, Nat.add_zero, rI_hold, rI_hold, rL_hold, hk, he69, hk1, he70, hk2, he67, he68]; exact congrArg nI (by omega))) ?_
  refine Bod.istn dc_335_133 (by rw [ml_335]; exact Nat.le_of_ble_eq_true rfl) ?_
  refine Bod.go dc_335_134 rfl ?_
  refine Bod.go dc_335_135 rfl ?_
  refine Bod.get dc_335_136 fr_335_190 (mk_61 _) rfl ?_
  refine Bod.eqI (nI k2) (by first | (simp (disch := omega) only [rI, rIe, rA, rIA, rLA, rJA, rVI, rQI, rVA, rQA, upd_at,  rAI, rLI, rJI, nI_add, pk_sub, kc_0, kc_1, kc_2, kc_3, kc_4, kc_5, reduceIte, Nat.reduceEqDiff, Nat.add_zero, rI_hold, rI_hold, rL_hold, hk, he69, hk1, he70, hk2, he67, he68]; done) | (simp (disch := omega) only [rI, rIe, rA, rIA, rLA, rJA, rVI, rQI, rVA, rQA, upd_at,  rAI, rLI, rJI, nI_add, pk_sub, kc_0, kc_1, kc_2, kc_3, kc_4, kc_5, reduceIte, Nat.reduceEqDiff, Nat.add_zero, rI_hold, rI_hold, rL_hold, hk, he69, hk1, he70, hk2, he67, he68]; exact congrArg nI (by omega))) ?_
  refine Bod.ic 1 (by decide) dc_335_139 ?_
  refine Bod.addN (k2 + 1) (by omega) dc_335_140 ?_
  refine Bod.put dc_335_141 fr_335_190 (mk_61 _) (Nat.le_of_ble_eq_true rfl) pf_14_15 (st_6115 _ _) (mu_I _ _ _) ?_
  refine Bod.go dc_335_144 rfl ?_
  refine Bod.bip 61 (by decide) dc_335_145 ?_
  refine Bod.virt (r := []) dc_335_147 kr_335_270 ⟨Or.inl rfl, ow_323, cl_14⟩ (by rw [np_323]; rfl) (by rw [np_323]; rfl) (ob_of (mk_61 _)) (Nat.le_of_ble_eq_true rfl) (c4  ) ?_
  show Bod _ _ _ _ [_] _ _ _
  refine Bod.ifF dc_335_150 rfl (k1_eq_F (k_ne 1 0 rfl rfl (by omega) (by omega) (by omega))) ?_
  refine Bod.go dc_335_153 rfl ?_
  refine Bod.ic 0 (by decide) dc_335_154 ?_
  refine Bod.virt (r := []) dc_335_155 kr_335_302 ⟨Or.inl rfl, ow_306, cl_14⟩ (by rw [np_306]; rfl) (by rw [np_306]; rfl) (ob_of (mk_61 _)) (Nat.le_of_ble_eq_true rfl) (c5  ) ?_
  show Bod _ _ _ _ [_] _ _ _
  refine Bod.ifT dc_335_158 rfl (k1_eq_T (k_eq 0 0 rfl rfl (by omega))) ?_
  refine Bod.ic 0 (by decide) dc_335_168 ?_
  exact Bod.retZ dc_335_169 rt_335 (Or.inl rfl)
theorem zCs_10 {d : Nat} {S : cS} {k : Nat} {e69 : Nat} {S1 : cS} {k1 : Nat} {e70 : Nat} {S2 : cS} {S3 : cS} {k2 : Nat} {e67 : Nat} {e68 : Nat} {S4 : cS} (hk : sI S 6115 = nI k) (mk : k < 6001) (he69 : sA S 69 k = nI e69) (me69 : e69 < 2 ^ 20) (c1 : Ans (d + 8) 302 [.ref 61, .int (nI 0), .int (nI e69)] S none S1) (hk1 : sI S1 6115 = nI k1) (mk1 : k1 < 6001) (he70 : sA S1 70 k1 = nI e70) (me70 : e70 < 2 ^ 20) (c2 : Ans (d + 8) 309 [.ref 61, .int (nI 11)] S1 (some (.int (nI 0))) S2) (c3 : Ans (d + 8) 309 [.ref 61, .int (nI 6)] S2 (some (.int (nI 0))) S3) (hk2 : sI S3 6115 = nI k2) (mk2 : k2 < 6001) (he67 : sA S3 67 k2 = nI e67) (me67 : e67 < 2 ^ 20) (b1 : e67 = 1) (he68 : sA S3 68 k2 = nI e68) (me68 : e68 < 2 ^ 20) (c4 : Ans (d + 8) 323 [.ref 61, .int (nI 61)] (wI 6115 (nI (k2 + 1)) S3) (some (.int (nI 0))) S4) : Bod (d + 8) 335 0 [(0, .ref 61)] [] S (some (.int 0)) (S4) := by
  refine Bod.go dc_335_0 rfl ?_
  refine Bod.ic 0 (by decide) dc_335_1 ?_
  refine Bod.go dc_335_2 rfl ?_
  refine Bod.get dc_335_3 fr_335_138 (mk_61 _) rfl ?_
  refine Bod.go dc_335_6 rfl ?_
  refine Bod.get dc_335_7 fr_335_190 (mk_61 _) rfl ?_
  refine Bod.eqI (nI k) (by first | assumption | rfl | exact congrArg nI (by omega) | (simp (disch := omega) only [rI, rIe, rA, rIA, rLA, rJA, rVI, rQI, rVA, rQA, upd_at,  rAI, rLI, rJI, nI_add, pk_sub, kc_0, kc_1, kc_2, kc_3, kc_4, kc_5, reduceIte, Nat.reduceEqDiff, Nat.add_zero, rI_hold, rI_hold, rL_hold, hk]; done)) ?_
  refine Bod.ialdN k rfl (by omega) (by omega) dc_335_10 (mk_69 _) ?_
  refine Bod.eqI (nI e69) (by first | assumption | rfl | exact congrArg nI (by omega) | (simp (disch := omega) only [rI, rIe, rA, rIA, rLA, rJA, rVI, rQI, rVA, rQA, upd_at,  rAI, rLI, rJI, nI_add, pk_sub, kc_0, kc_1, kc_2, kc_3, kc_4, kc_5, reduceIte, Nat.reduceEqDiff, Nat.add_zero, rI_hold, rI_hold, rL_hold, hk, he69]; done)) ?_
  refine Bod.virt (r := []) dc_335_11 kr_335_216 ⟨Or.inl rfl, ow_302, cl_14⟩ (by rw [np_302]; rfl) (by rw [np_302]; rfl) (ob_of (mk_61 _)) (Nat.le_of_ble_eq_true rfl) (c1  ) ?_
  show Bod _ _ _ _ [] _ _ _
  refine Bod.go dc_335_14 rfl ?_
  refine Bod.get dc_335_15 fr_335_141 (mk_61 _) rfl ?_
  refine Bod.go dc_335_18 rfl ?_
  refine Bod.get dc_335_19 fr_335_190 (mk_61 _) rfl ?_
  refine Bod.eqI (nI k1) (by first | (simp (disch := omega) only [rI, rIe, rA, rIA, rLA, rJA, rVI, rQI, rVA, rQA, upd_at,  rAI, rLI, rJI, nI_add, pk_sub, kc_0, kc_1, kc_2, kc_3, kc_4, kc_5, reduceIte, Nat.reduceEqDiff, Nat.add_zero, rI_hold, rI_hold, rL_hold, hk, he69, hk1]; done) | (simp (disch := omega) only [rI, rIe, rA, rIA, rLA, rJA, rVI, rQI, rVA, rQA, upd_at,  rAI, rLI, rJI, nI_add, pk_sub, kc_0, kc_1, kc_2, kc_3, kc_4, kc_5, reduceIte, Nat.reduceEqDiff, Nat.add_zero, rI_hold, rI_hold, rL_hold, hk, he69, hk1]; exact congrArg nI (by omega))) ?_
  refine Bod.ialdN k1 rfl (by omega) (by omega) dc_335_22 (mk_70 _) ?_
  refine Bod.eqI (nI e70) (by first | (simp (disch := omega) only [rI, rIe, rA, rIA, rLA, rJA, rVI, rQI, rVA, rQA, upd_at,  rAI, rLI, rJI, nI_add, pk_sub, kc_0, kc_1, kc_2, kc_3, kc_4, kc_5, reduceIte, Nat.reduceEqDiff, Nat.add_zero, rI_hold, rI_hold, rL_hold, hk, he69, hk1, he70]; done) | (simp (disch := omega) only [rI, rIe, rA, rIA, rLA, rJA, rVI, rQI, rVA, rQA, upd_at,  rAI, rLI, rJI, nI_add, pk_sub, kc_0, kc_1, kc_2, kc_3, kc_4, kc_5, reduceIte, Nat.reduceEqDiff, Nat.add_zero, rI_hold, rI_hold, rL_hold, hk, he69, hk1, he70]; exact congrArg nI (by omega))) ?_
  refine Bod.istn dc_335_23 (by rw [ml_335]; exact Nat.le_of_ble_eq_true rfl) ?_
  refine Bod.go dc_335_24 rfl ?_
  refine Bod.bip 11 (by decide) dc_335_25 ?_
  refine Bod.virt (r := []) dc_335_27 kr_335_312 ⟨Or.inl rfl, ow_309, cl_14⟩ (by rw [np_309]; rfl) (by rw [np_309]; rfl) (ob_of (mk_61 _)) (Nat.le_of_ble_eq_true rfl) (c2  ) ?_
  show Bod _ _ _ _ [_] _ _ _
  refine Bod.ifT dc_335_30 rfl (k1_eq_T (k_eq 0 0 rfl rfl (by omega))) ?_
  refine Bod.go dc_335_48 rfl ?_
  refine Bod.bip 6 (by decide) dc_335_49 ?_
  refine Bod.virt (r := []) dc_335_51 kr_335_312 ⟨Or.inl rfl, ow_309, cl_14⟩ (by rw [np_309]; rfl) (by rw [np_309]; rfl) (ob_of (mk_61 _)) (Nat.le_of_ble_eq_true rfl) (c3  ) ?_
  show Bod _ _ _ _ [_] _ _ _
  refine Bod.ifT dc_335_54 rfl (k1_eq_T (k_eq 0 0 rfl rfl (by omega))) ?_
  refine Bod.go dc_335_106 rfl ?_
  refine Bod.get dc_335_107 fr_335_129 (mk_61 _) rfl ?_
  refine Bod.go dc_335_110 rfl ?_
  refine Bod.get dc_335_111 fr_335_190 (mk_61 _) rfl ?_
  refine Bod.eqI (nI k2) (by first | (simp (disch := omega) only [rI, rIe, rA, rIA, rLA, rJA, rVI, rQI, rVA, rQA, upd_at,  rAI, rLI, rJI, nI_add, pk_sub, kc_0, kc_1, kc_2, kc_3, kc_4, kc_5, reduceIte, Nat.reduceEqDiff, Nat.add_zero, rI_hold, rI_hold, rL_hold, hk, he69, hk1, he70, hk2]; done) | (simp (disch := omega) only [rI, rIe, rA, rIA, rLA, rJA, rVI, rQI, rVA, rQA, upd_at,  rAI, rLI, rJI, nI_add, pk_sub, kc_0, kc_1, kc_2, kc_3, kc_4, kc_5, reduceIte, Nat.reduceEqDiff, Nat.add_zero, rI_hold, rI_hold, rL_hold, hk, he69, hk1, he70, hk2]; exact congrArg nI (by omega))) ?_
  refine Bod.ialdN k2 rfl (by omega) (by omega) dc_335_114 (mk_67 _) ?_
  refine Bod.eqI (nI e67) (by first | (simp (disch := omega) only [rI, rIe, rA, rIA, rLA, rJA, rVI, rQI, rVA, rQA, upd_at,  rAI, rLI, rJI, nI_add, pk_sub, kc_0, kc_1, kc_2, kc_3, kc_4, kc_5, reduceIte, Nat.reduceEqDiff, Nat.add_zero, rI_hold, rI_hold, rL_hold, hk, he69, hk1, he70, hk2, he67]; done) | (simp (disch := omega) only [rI, rIe, rA, rIA, rLA, rJA, rVI, rQI, rVA, rQA, upd_at,  rAI, rLI, rJI, nI_add, pk_sub, kc_0, kc_1, kc_2, kc_3, kc_4, kc_5, reduceIte, Nat.reduceEqDiff, Nat.add_zero, rI_hold, rI_hold, rL_hold, hk, he69, hk1, he70, hk2, he67]; exact congrArg nI (by omega))) ?_
  refine Bod.ic 1 (by decide) dc_335_115 ?_
  refine Bod.icT dc_335_116 rfl (k2_eq_T (k_eq e67 1 rfl rfl (by omega))) ?_
  refine Bod.go dc_335_124 rfl ?_
  refine Bod.get dc_335_125 fr_335_135 (mk_61 _) rfl ?_
  refine Bod.go dc_335_128 rfl ?_
  refine Bod.get dc_335_129 fr_335_190 (mk_61 _) rfl ?_
  refine Bod.eqI (nI k2) (by first | (simp (disch := omega) only [rI, rIe, rA, rIA, rLA, rJA, rVI, rQI, rVA, rQA, upd_at,  rAI, rLI, rJI, nI_add, pk_sub, kc_0, kc_1, kc_2, kc_3, kc_4, kc_5, reduceIte, Nat.reduceEqDiff, Nat.add_zero, rI_hold, rI_hold, rL_hold, hk, he69, hk1, he70, hk2, he67]; done) | (simp (disch := omega) only [rI, rIe, rA, rIA, rLA, rJA, rVI, rQI, rVA, rQA, upd_at,  rAI, rLI, rJI, nI_add, pk_sub, kc_0, kc_1, kc_2, kc_3, kc_4, kc_5, reduceIte, Nat.reduceEqDiff, Nat.add_zero, rI_hold, rI_hold, rL_hold, hk, he69, hk1, he70, hk2, he67]; exact congrArg nI (by omega))) ?_
  refine Bod.ialdN k2 rfl (by omega) (by omega) dc_335_132 (mk_68 _) ?_
  refine Bod.eqI (nI e68) (by first | (simp (disch := omega) only [rI, rIe, rA, rIA, rLA, rJA, rVI, rQI, rVA, rQA, upd_at,  rAI, rLI, rJI, nI_add, pk_sub, kc_0, kc_1, kc_2, kc_3, kc_4, kc_5, reduceIte, Nat.reduceEqDiff, Nat.add_zero, rI_hold, rI_hold, rL_hold, hk, he69, hk1, he70, hk2, he67, he68]; done) | (simp (disch := omega) only [rI, rIe, rA, rIA, rLA, rJA, rVI, rQI, rVA, rQA, upd_at,  rAI, rLI, rJI, nI_add, pk_sub, kc_0, kc_1, kc_2, kc_3, kc_4, kc_5, reduceIte, Nat.reduceEqDiff, Nat.add_zero, rI_hold, rI_hold, rL_hold, hk, he69, hk1, he70, hk2, he67, he68]; exact congrArg nI (by omega))) ?_
  refine Bod.istn dc_335_133 (by rw [ml_335]; exact Nat.le_of_ble_eq_true rfl) ?_
  refine Bod.go dc_335_134 rfl ?_
  refine Bod.go dc_335_135 rfl ?_
  refine Bod.get dc_335_136 fr_335_190 (mk_61 _) rfl ?_
  refine Bod.eqI (nI k2) (by first | (simp (disch := omega) only [rI, rIe, rA, rIA, rLA, rJA, rVI, rQI, rVA, rQA, upd_at,  rAI, rLI, rJI, nI_add, pk_sub, kc_0, kc_1, kc_2, kc_3, kc_4, kc_5, reduceIte, Nat.reduceEqDiff, Nat.add_zero, rI_hold, rI_hold, rL_hold, hk, he69, hk1, he70, hk2, he67, he68]; done) | (simp (disch := omega) only [rI, rIe, rA, rIA, rLA, rJA, rVI, rQI, rVA, rQA, upd_at,  rAI, rLI, rJI, nI_add, pk_sub, kc_0, kc_1, kc_2, kc_3, kc_4, kc_5, reduceIte, Nat.reduceEqDiff, Nat.add_zero, rI_hold, rI_hold, rL_hold, hk, he69, hk1, he70, hk2, he67, he68]; exact congrArg nI (by omega))) ?_
  refine Bod.ic 1 (by decide) dc_335_139 ?_
  refine Bod.addN (k2 + 1) (by omega) dc_335_140 ?_
  refine Bod.put dc_335_141 fr_335_190 (mk_61 _) (Nat.le_of_ble_eq_true rfl) pf_14_15 (st_6115 _ _) (mu_I _ _ _) ?_
  refine Bod.go dc_335_144 rfl ?_
  refine Bod.bip 61 (by decide) dc_335_145 ?_
  refine Bod.virt (r := []) dc_335_147 kr_335_270 ⟨Or.inl rfl, ow_323, cl_14⟩ (by rw [np_323]; rfl) (by rw [np_323]; rfl) (ob_of (mk_61 _)) (Nat.le_of_ble_eq_true rfl) (c4  ) ?_
  show Bod _ _ _ _ [_] _ _ _
  refine Bod.ifT dc_335_150 rfl (k1_eq_T (k_eq 0 0 rfl rfl (by omega))) ?_
  refine Bod.ic 0 (by decide) dc_335_168 ?_
  exact Bod.retZ dc_335_169 rt_335 (Or.inl rfl)
theorem zCs_11 {d : Nat} {S : cS} {k : Nat} {e69 : Nat} {S1 : cS} {k1 : Nat} {e70 : Nat} {S2 : cS} {S3 : cS} {k2 : Nat} {e67 : Nat} {S4 : cS} (hk : sI S 6115 = nI k) (mk : k < 6001) (he69 : sA S 69 k = nI e69) (me69 : e69 < 2 ^ 20) (c1 : Ans (d + 8) 302 [.ref 61, .int (nI 0), .int (nI e69)] S none S1) (hk1 : sI S1 6115 = nI k1) (mk1 : k1 < 6001) (he70 : sA S1 70 k1 = nI e70) (me70 : e70 < 2 ^ 20) (c2 : Ans (d + 8) 309 [.ref 61, .int (nI 11)] S1 (some (.int (nI 0))) S2) (c3 : Ans (d + 8) 309 [.ref 61, .int (nI 6)] S2 (some (.int (nI 0))) S3) (hk2 : sI S3 6115 = nI k2) (mk2 : k2 < 6001) (he67 : sA S3 67 k2 = nI e67) (me67 : e67 < 2 ^ 20) (b1 : e67 ≠ 1) (c4 : Ans (d + 8) 299 [.ref 61] S3 (some (.int (nI 0))) S4) : Bod (d + 8) 335 0 [(0, .ref 61)] [] S (some (.int 0)) (S4) := by
  refine Bod.go dc_335_0 rfl ?_
  refine Bod.ic 0 (by decide) dc_335_1 ?_
  refine Bod.go dc_335_2 rfl ?_
  refine Bod.get dc_335_3 fr_335_138 (mk_61 _) rfl ?_
  refine Bod.go dc_335_6 rfl ?_
  refine Bod.get dc_335_7 fr_335_190 (mk_61 _) rfl ?_
  refine Bod.eqI (nI k) (by first | assumption | rfl | exact congrArg nI (by omega) | (simp (disch := omega) only [rI, rIe, rA, rIA, rLA, rJA, rVI, rQI, rVA, rQA, upd_at,  rAI, rLI, rJI, nI_add, pk_sub, kc_0, kc_1, kc_2, kc_3, kc_4, kc_5, reduceIte, Nat.reduceEqDiff, Nat.add_zero, rI_hold, rI_hold, rL_hold, hk]; done)) ?_
  refine Bod.ialdN k rfl (by omega) (by omega) dc_335_10 (mk_69 _) ?_
  refine Bod.eqI (nI e69) (by first | assumption | rfl | exact congrArg nI (by omega) | (simp (disch := omega) only [rI, rIe, rA, rIA, rLA, rJA, rVI, rQI, rVA, rQA, upd_at,  rAI, rLI, rJI, nI_add, pk_sub, kc_0, kc_1, kc_2, kc_3, kc_4, kc_5, reduceIte, Nat.reduceEqDiff, Nat.add_zero, rI_hold, rI_hold, rL_hold, hk, he69]; done)) ?_
  refine Bod.virt (r := []) dc_335_11 kr_335_216 ⟨Or.inl rfl, ow_302, cl_14⟩ (by rw [np_302]; rfl) (by rw [np_302]; rfl) (ob_of (mk_61 _)) (Nat.le_of_ble_eq_true rfl) (c1  ) ?_
  show Bod _ _ _ _ [] _ _ _
  refine Bod.go dc_335_14 rfl ?_
  refine Bod.get dc_335_15 fr_335_141 (mk_61 _) rfl ?_
  refine Bod.go dc_335_18 rfl ?_
  refine Bod.get dc_335_19 fr_335_190 (mk_61 _) rfl ?_
  refine Bod.eqI (nI k1) (by first | (simp (disch := omega) only [rI, rIe, rA, rIA, rLA, rJA, rVI, rQI, rVA, rQA, upd_at,  rAI, rLI, rJI, nI_add, pk_sub, kc_0, kc_1, kc_2, kc_3, kc_4, kc_5, reduceIte, Nat.reduceEqDiff, Nat.add_zero, rI_hold, rI_hold, rL_hold, hk, he69, hk1]; done) | (simp (disch := omega) only [rI, rIe, rA, rIA, rLA, rJA, rVI, rQI, rVA, rQA, upd_at,  rAI, rLI, rJI, nI_add, pk_sub, kc_0, kc_1, kc_2, kc_3, kc_4, kc_5, reduceIte, Nat.reduceEqDiff, Nat.add_zero, rI_hold, rI_hold, rL_hold, hk, he69, hk1]; exact congrArg nI (by omega))) ?_
  refine Bod.ialdN k1 rfl (by omega) (by omega) dc_335_22 (mk_70 _) ?_
  refine Bod.eqI (nI e70) (by first | (simp (disch := omega) only [rI, rIe, rA, rIA, rLA, rJA, rVI, rQI, rVA, rQA, upd_at,  rAI, rLI, rJI, nI_add, pk_sub, kc_0, kc_1, kc_2, kc_3, kc_4, kc_5, reduceIte, Nat.reduceEqDiff, Nat.add_zero, rI_hold, rI_hold, rL_hold, hk, he69, hk1, he70]; done) | (simp (disch := omega) only [rI, rIe, rA, rIA, rLA, rJA, rVI, rQI, rVA, rQA, upd_at,  rAI, rLI, rJI, nI_add, pk_sub, kc_0, kc_1, kc_2, kc_3, kc_4, kc_5, reduceIte, Nat.reduceEqDiff, Nat.add_zero, rI_hold, rI_hold, rL_hold, hk, he69, hk1, he70]; exact congrArg nI (by omega))) ?_
  refine Bod.istn dc_335_23 (by rw [ml_335]; exact Nat.le_of_ble_eq_true rfl) ?_
  refine Bod.go dc_335_24 rfl ?_
  refine Bod.bip 11 (by decide) dc_335_25 ?_
  refine Bod.virt (r := []) dc_335_27 kr_335_312 ⟨Or.inl rfl, ow_309, cl_14⟩ (by rw [np_309]; rfl) (by rw [np_309]; rfl) (ob_of (mk_61 _)) (Nat.le_of_ble_eq_true rfl) (c2  ) ?_
  show Bod _ _ _ _ [_] _ _ _
  refine Bod.ifT dc_335_30 rfl (k1_eq_T (k_eq 0 0 rfl rfl (by omega))) ?_
  refine Bod.go dc_335_48 rfl ?_
  refine Bod.bip 6 (by decide) dc_335_49 ?_
  refine Bod.virt (r := []) dc_335_51 kr_335_312 ⟨Or.inl rfl, ow_309, cl_14⟩ (by rw [np_309]; rfl) (by rw [np_309]; rfl) (ob_of (mk_61 _)) (Nat.le_of_ble_eq_true rfl) (c3  ) ?_
  show Bod _ _ _ _ [_] _ _ _
  refine Bod.ifT dc_335_54 rfl (k1_eq_T (k_eq 0 0 rfl rfl (by omega))) ?_
  refine Bod.go dc_335_106 rfl ?_
  refine Bod.get dc_335_107 fr_335_129 (mk_61 _) rfl ?_
  refine Bod.go dc_335_110 rfl ?_
  refine Bod.get dc_335_111 fr_335_190 (mk_61 _) rfl ?_
  refine Bod.eqI (nI k2) (by first | (simp (disch := omega) only [rI, rIe, rA, rIA, rLA, rJA, rVI, rQI, rVA, rQA, upd_at,  rAI, rLI, rJI, nI_add, pk_sub, kc_0, kc_1, kc_2, kc_3, kc_4, kc_5, reduceIte, Nat.reduceEqDiff, Nat.add_zero, rI_hold, rI_hold, rL_hold, hk, he69, hk1, he70, hk2]; done) | (simp (disch := omega) only [rI, rIe, rA, rIA, rLA, rJA, rVI, rQI, rVA, rQA, upd_at,  rAI, rLI, rJI, nI_add, pk_sub, kc_0, kc_1, kc_2, kc_3, kc_4, kc_5, reduceIte, Nat.reduceEqDiff, Nat.add_zero, rI_hold, rI_hold, rL_hold, hk, he69, hk1, he70, hk2]; exact congrArg nI (by omega))) ?_
  refine Bod.ialdN k2 rfl (by omega) (by omega) dc_335_114 (mk_67 _) ?_
  refine Bod.eqI (nI e67) (by first | (simp (disch := omega) only [rI, rIe, rA, rIA, rLA, rJA, rVI, rQI, rVA, rQA, upd_at,  rAI, rLI, rJI, nI_add, pk_sub, kc_0, kc_1, kc_2, kc_3, kc_4, kc_5, reduceIte, Nat.reduceEqDiff, Nat.add_zero, rI_hold, rI_hold, rL_hold, hk, he69, hk1, he70, hk2, he67]; done) | (simp (disch := omega) only [rI, rIe, rA, rIA, rLA, rJA, rVI, rQI, rVA, rQA, upd_at,  rAI, rLI, rJI, nI_add, pk_sub, kc_0, kc_1, kc_2, kc_3, kc_4, kc_5, reduceIte, Nat.reduceEqDiff, Nat.add_zero, rI_hold, rI_hold, rL_hold, hk, he69, hk1, he70, hk2, he67]; exact congrArg nI (by omega))) ?_
  refine Bod.ic 1 (by decide) dc_335_115 ?_
  refine Bod.icF dc_335_116 rfl (k2_eq_F (k_ne e67 1 rfl rfl (by omega) (by omega) (by omega))) ?_
  refine Bod.go dc_335_119 rfl ?_
  refine Bod.virt (r := []) dc_335_120 kr_335_202 ⟨Or.inl rfl, ow_299, cl_14⟩ (by rw [np_299]; rfl) (by rw [np_299]; rfl) (ob_of (mk_61 _)) (Nat.le_of_ble_eq_true rfl) (c4  ) ?_
  show Bod _ _ _ _ [_] _ _ _
  exact Bod.retZ dc_335_123 rt_335 (Or.inl rfl)
