/-! WORDS of the reference -/
theorem dc_292_13 : decode (sm_cc 292) 13 = .ok (.iload 4, 2) := by decide +kernel
theorem dc_292_15 : decode (sm_cc 292) 15 = .ok (.iload_n 2, 1) := by decide +kernel
theorem dc_292_16 : decode (sm_cc 292) 16 = .ok (.if_icmp .ge (26), 3) := by decide +kernel
theorem dc_292_19 : decode (sm_cc 292) 19 = .ok (.aload_n 0, 1) := by decide +kernel
theorem dc_292_20 : decode (sm_cc 292) 20 = .ok (.iload_n 1, 1) := by decide +kernel
theorem dc_292_21 : decode (sm_cc 292) 21 = .ok (.iload 4, 2) := by decide +kernel
theorem dc_292_23 : decode (sm_cc 292) 23 = .ok (.iadd, 1) := by decide +kernel
theorem dc_292_24 : decode (sm_cc 292) 24 = .ok (.baload, 1) := by decide +kernel
theorem dc_292_25 : decode (sm_cc 292) 25 = .ok (.aload_n 3, 1) := by decide +kernel
theorem dc_292_26 : decode (sm_cc 292) 26 = .ok (.iload 4, 2) := by decide +kernel
theorem dc_292_28 : decode (sm_cc 292) 28 = .ok (.invokevirtual 49, 3) := by decide +kernel
theorem kr_292_49 : sm_at mt_k (sm_ow 292) 49 = some (49, 0, 6, 0, 2347) := by decide +kernel
theorem np_6 : sm_np 6 = 1 := by decide +kernel
theorem dc_292_31 : decode (sm_cc 292) 31 = .ok (.if_icmp .eq (5), 3) := by decide +kernel
theorem dc_292_36 : decode (sm_cc 292) 36 = .ok (.iinc 4 (1), 3) := by decide +kernel
theorem ml_292 : sm_ml 292 = 5 := by decide +kernel
theorem dc_292_39 : decode (sm_cc 292) 39 = .ok (.goto (-26), 3) := by decide +kernel
theorem dc_292_34 : decode (sm_cc 292) 34 = .ok (.iconst 0, 1) := by decide +kernel
theorem dc_292_35 : decode (sm_cc 292) 35 = .ok (.ireturn, 1) := by decide +kernel
theorem rt_292 : sm_rt 292 = some .boolean := by decide +kernel
theorem dc_292_42 : decode (sm_cc 292) 42 = .ok (.iconst 1, 1) := by decide +kernel
theorem dc_292_43 : decode (sm_cc 292) 43 = .ok (.ireturn, 1) := by decide +kernel
theorem dc_292_0 : decode (sm_cc 292) 0 = .ok (.iload_n 2, 1) := by decide +kernel
theorem dc_292_1 : decode (sm_cc 292) 1 = .ok (.aload_n 3, 1) := by decide +kernel
theorem dc_292_2 : decode (sm_cc 292) 2 = .ok (.invokevirtual 43, 3) := by decide +kernel
theorem kr_292_43 : sm_at mt_k (sm_ow 292) 43 = some (43, 0, 4, 0, 2346) := by decide +kernel
theorem np_4 : sm_np 4 = 0 := by decide +kernel
theorem dc_292_5 : decode (sm_cc 292) 5 = .ok (.if_icmp .eq (5), 3) := by decide +kernel
theorem dc_292_8 : decode (sm_cc 292) 8 = .ok (.iconst 0, 1) := by decide +kernel
theorem dc_292_9 : decode (sm_cc 292) 9 = .ok (.ireturn, 1) := by decide +kernel
theorem dc_292_10 : decode (sm_cc 292) 10 = .ok (.iconst 0, 1) := by decide +kernel
theorem dc_292_11 : decode (sm_cc 292) 11 = .ok (.istore 4, 2) := by decide +kernel
theorem dc_291_0 : decode (sm_cc 291) 0 = .ok (.aload_n 0, 1) := by decide +kernel
theorem dc_291_1 : decode (sm_cc 291) 1 = .ok (.iload_n 1, 1) := by decide +kernel
theorem dc_291_2 : decode (sm_cc 291) 2 = .ok (.iload_n 2, 1) := by decide +kernel
theorem dc_291_3 : decode (sm_cc 291) 3 = .ok (.ldc 77, 2) := by decide +kernel
theorem cs_291_77 : sm_at mt_ci (sm_ow 291) 77 = none ∧ sm_at mt_cs (sm_ow 291) 77 = some (77, 13, 2342) := by decide +kernel
theorem dc_291_5 : decode (sm_cc 291) 5 = .ok (.invokestatic 79, 3) := by decide +kernel
theorem kr_291_79 : sm_at mt_k (sm_ow 291) 79 = some (79, 2, 292, 0, 2343) := by decide +kernel
theorem np_292 : sm_np 292 = 4 := by decide +kernel
theorem dc_291_8 : decode (sm_cc 291) 8 = .ok (.ifCond .eq (5), 3) := by decide +kernel
theorem dc_291_11 : decode (sm_cc 291) 11 = .ok (.iconst 0, 1) := by decide +kernel
theorem dc_291_12 : decode (sm_cc 291) 12 = .ok (.ireturn, 1) := by decide +kernel
theorem rt_291 : sm_rt 291 = some .int := by decide +kernel
theorem dc_291_13 : decode (sm_cc 291) 13 = .ok (.aload_n 0, 1) := by decide +kernel
theorem dc_291_14 : decode (sm_cc 291) 14 = .ok (.iload_n 1, 1) := by decide +kernel
theorem dc_291_15 : decode (sm_cc 291) 15 = .ok (.iload_n 2, 1) := by decide +kernel
theorem dc_291_16 : decode (sm_cc 291) 16 = .ok (.ldc 83, 2) := by decide +kernel
theorem cs_291_83 : sm_at mt_ci (sm_ow 291) 83 = none ∧ sm_at mt_cs (sm_ow 291) 83 = some (83, 14, 2348) := by decide +kernel
theorem dc_291_18 : decode (sm_cc 291) 18 = .ok (.invokestatic 79, 3) := by decide +kernel
theorem dc_291_21 : decode (sm_cc 291) 21 = .ok (.ifCond .eq (5), 3) := by decide +kernel
theorem dc_291_24 : decode (sm_cc 291) 24 = .ok (.iconst 1, 1) := by decide +kernel
theorem dc_291_25 : decode (sm_cc 291) 25 = .ok (.ireturn, 1) := by decide +kernel
theorem dc_291_26 : decode (sm_cc 291) 26 = .ok (.aload_n 0, 1) := by decide +kernel
theorem dc_291_27 : decode (sm_cc 291) 27 = .ok (.iload_n 1, 1) := by decide +kernel
theorem dc_291_28 : decode (sm_cc 291) 28 = .ok (.iload_n 2, 1) := by decide +kernel
theorem dc_291_29 : decode (sm_cc 291) 29 = .ok (.ldc 85, 2) := by decide +kernel
theorem cs_291_85 : sm_at mt_ci (sm_ow 291) 85 = none ∧ sm_at mt_cs (sm_ow 291) 85 = some (85, 15, 2349) := by decide +kernel
theorem dc_291_31 : decode (sm_cc 291) 31 = .ok (.invokestatic 79, 3) := by decide +kernel
theorem dc_291_34 : decode (sm_cc 291) 34 = .ok (.ifCond .eq (5), 3) := by decide +kernel
theorem dc_291_37 : decode (sm_cc 291) 37 = .ok (.iconst 2, 1) := by decide +kernel
theorem dc_291_38 : decode (sm_cc 291) 38 = .ok (.ireturn, 1) := by decide +kernel
theorem dc_291_39 : decode (sm_cc 291) 39 = .ok (.aload_n 0, 1) := by decide +kernel
theorem dc_291_40 : decode (sm_cc 291) 40 = .ok (.iload_n 1, 1) := by decide +kernel
theorem dc_291_41 : decode (sm_cc 291) 41 = .ok (.iload_n 2, 1) := by decide +kernel
theorem dc_291_42 : decode (sm_cc 291) 42 = .ok (.ldc 87, 2) := by decide +kernel
theorem cs_291_87 : sm_at mt_ci (sm_ow 291) 87 = none ∧ sm_at mt_cs (sm_ow 291) 87 = some (87, 16, 2350) := by decide +kernel
theorem dc_291_44 : decode (sm_cc 291) 44 = .ok (.invokestatic 79, 3) := by decide +kernel
theorem dc_291_47 : decode (sm_cc 291) 47 = .ok (.ifCond .eq (5), 3) := by decide +kernel
theorem dc_291_50 : decode (sm_cc 291) 50 = .ok (.iconst 3, 1) := by decide +kernel
theorem dc_291_51 : decode (sm_cc 291) 51 = .ok (.ireturn, 1) := by decide +kernel
theorem dc_291_52 : decode (sm_cc 291) 52 = .ok (.aload_n 0, 1) := by decide +kernel
theorem dc_291_53 : decode (sm_cc 291) 53 = .ok (.iload_n 1, 1) := by decide +kernel
theorem dc_291_54 : decode (sm_cc 291) 54 = .ok (.iload_n 2, 1) := by decide +kernel
theorem dc_291_55 : decode (sm_cc 291) 55 = .ok (.ldc 89, 2) := by decide +kernel
theorem cs_291_89 : sm_at mt_ci (sm_ow 291) 89 = none ∧ sm_at mt_cs (sm_ow 291) 89 = some (89, 17, 2351) := by decide +kernel
theorem dc_291_57 : decode (sm_cc 291) 57 = .ok (.invokestatic 79, 3) := by decide +kernel
theorem dc_291_60 : decode (sm_cc 291) 60 = .ok (.ifCond .eq (5), 3) := by decide +kernel
theorem dc_291_63 : decode (sm_cc 291) 63 = .ok (.iconst 4, 1) := by decide +kernel
theorem dc_291_64 : decode (sm_cc 291) 64 = .ok (.ireturn, 1) := by decide +kernel
theorem dc_291_65 : decode (sm_cc 291) 65 = .ok (.aload_n 0, 1) := by decide +kernel
theorem dc_291_66 : decode (sm_cc 291) 66 = .ok (.iload_n 1, 1) := by decide +kernel
theorem dc_291_67 : decode (sm_cc 291) 67 = .ok (.iload_n 2, 1) := by decide +kernel
theorem dc_291_68 : decode (sm_cc 291) 68 = .ok (.ldc 91, 2) := by decide +kernel
theorem cs_291_91 : sm_at mt_ci (sm_ow 291) 91 = none ∧ sm_at mt_cs (sm_ow 291) 91 = some (91, 18, 2352) := by decide +kernel
theorem dc_291_70 : decode (sm_cc 291) 70 = .ok (.invokestatic 79, 3) := by decide +kernel
theorem dc_291_73 : decode (sm_cc 291) 73 = .ok (.ifCond .eq (5), 3) := by decide +kernel
theorem dc_291_76 : decode (sm_cc 291) 76 = .ok (.iconst 5, 1) := by decide +kernel
theorem dc_291_77 : decode (sm_cc 291) 77 = .ok (.ireturn, 1) := by decide +kernel
theorem dc_291_78 : decode (sm_cc 291) 78 = .ok (.aload_n 0, 1) := by decide +kernel
theorem dc_291_79 : decode (sm_cc 291) 79 = .ok (.iload_n 1, 1) := by decide +kernel
theorem dc_291_80 : decode (sm_cc 291) 80 = .ok (.iload_n 2, 1) := by decide +kernel
theorem dc_291_81 : decode (sm_cc 291) 81 = .ok (.ldc 93, 2) := by decide +kernel
theorem cs_291_93 : sm_at mt_ci (sm_ow 291) 93 = none ∧ sm_at mt_cs (sm_ow 291) 93 = some (93, 19, 2353) := by decide +kernel
theorem dc_291_83 : decode (sm_cc 291) 83 = .ok (.invokestatic 79, 3) := by decide +kernel
theorem dc_291_86 : decode (sm_cc 291) 86 = .ok (.ifCond .eq (6), 3) := by decide +kernel
theorem dc_291_89 : decode (sm_cc 291) 89 = .ok (.bipush (6), 2) := by decide +kernel
theorem dc_291_91 : decode (sm_cc 291) 91 = .ok (.ireturn, 1) := by decide +kernel
theorem dc_291_92 : decode (sm_cc 291) 92 = .ok (.aload_n 0, 1) := by decide +kernel
theorem dc_291_93 : decode (sm_cc 291) 93 = .ok (.iload_n 1, 1) := by decide +kernel
theorem dc_291_94 : decode (sm_cc 291) 94 = .ok (.iload_n 2, 1) := by decide +kernel
theorem dc_291_95 : decode (sm_cc 291) 95 = .ok (.ldc 95, 2) := by decide +kernel
theorem cs_291_95 : sm_at mt_ci (sm_ow 291) 95 = none ∧ sm_at mt_cs (sm_ow 291) 95 = some (95, 8, 2354) := by decide +kernel
theorem dc_291_97 : decode (sm_cc 291) 97 = .ok (.invokestatic 79, 3) := by decide +kernel
theorem dc_291_100 : decode (sm_cc 291) 100 = .ok (.ifCond .eq (6), 3) := by decide +kernel
theorem dc_291_103 : decode (sm_cc 291) 103 = .ok (.bipush (7), 2) := by decide +kernel
theorem dc_291_105 : decode (sm_cc 291) 105 = .ok (.ireturn, 1) := by decide +kernel
theorem dc_291_106 : decode (sm_cc 291) 106 = .ok (.aload_n 0, 1) := by decide +kernel
theorem dc_291_107 : decode (sm_cc 291) 107 = .ok (.iload_n 1, 1) := by decide +kernel
theorem dc_291_108 : decode (sm_cc 291) 108 = .ok (.iload_n 2, 1) := by decide +kernel
theorem dc_291_109 : decode (sm_cc 291) 109 = .ok (.ldc 97, 2) := by decide +kernel
theorem cs_291_97 : sm_at mt_ci (sm_ow 291) 97 = none ∧ sm_at mt_cs (sm_ow 291) 97 = some (97, 20, 2355) := by decide +kernel
theorem dc_291_111 : decode (sm_cc 291) 111 = .ok (.invokestatic 79, 3) := by decide +kernel
theorem dc_291_114 : decode (sm_cc 291) 114 = .ok (.ifCond .eq (6), 3) := by decide +kernel
theorem dc_291_117 : decode (sm_cc 291) 117 = .ok (.bipush (8), 2) := by decide +kernel
theorem dc_291_119 : decode (sm_cc 291) 119 = .ok (.ireturn, 1) := by decide +kernel
theorem dc_291_120 : decode (sm_cc 291) 120 = .ok (.aload_n 0, 1) := by decide +kernel
theorem dc_291_121 : decode (sm_cc 291) 121 = .ok (.iload_n 1, 1) := by decide +kernel
theorem dc_291_122 : decode (sm_cc 291) 122 = .ok (.iload_n 2, 1) := by decide +kernel
theorem dc_291_123 : decode (sm_cc 291) 123 = .ok (.ldc 99, 2) := by decide +kernel
theorem cs_291_99 : sm_at mt_ci (sm_ow 291) 99 = none ∧ sm_at mt_cs (sm_ow 291) 99 = some (99, 21, 2356) := by decide +kernel
theorem dc_291_125 : decode (sm_cc 291) 125 = .ok (.invokestatic 79, 3) := by decide +kernel
theorem dc_291_128 : decode (sm_cc 291) 128 = .ok (.ifCond .eq (6), 3) := by decide +kernel
theorem dc_291_131 : decode (sm_cc 291) 131 = .ok (.bipush (9), 2) := by decide +kernel
theorem dc_291_133 : decode (sm_cc 291) 133 = .ok (.ireturn, 1) := by decide +kernel
theorem dc_291_134 : decode (sm_cc 291) 134 = .ok (.aload_n 0, 1) := by decide +kernel
theorem dc_291_135 : decode (sm_cc 291) 135 = .ok (.iload_n 1, 1) := by decide +kernel
theorem dc_291_136 : decode (sm_cc 291) 136 = .ok (.iload_n 2, 1) := by decide +kernel
theorem dc_291_137 : decode (sm_cc 291) 137 = .ok (.ldc 101, 2) := by decide +kernel
theorem cs_291_101 : sm_at mt_ci (sm_ow 291) 101 = none ∧ sm_at mt_cs (sm_ow 291) 101 = some (101, 22, 2357) := by decide +kernel
theorem dc_291_139 : decode (sm_cc 291) 139 = .ok (.invokestatic 79, 3) := by decide +kernel
theorem dc_291_142 : decode (sm_cc 291) 142 = .ok (.ifCond .eq (6), 3) := by decide +kernel
theorem dc_291_145 : decode (sm_cc 291) 145 = .ok (.bipush (10), 2) := by decide +kernel
theorem dc_291_147 : decode (sm_cc 291) 147 = .ok (.ireturn, 1) := by decide +kernel
theorem dc_291_148 : decode (sm_cc 291) 148 = .ok (.aload_n 0, 1) := by decide +kernel
theorem dc_291_149 : decode (sm_cc 291) 149 = .ok (.iload_n 1, 1) := by decide +kernel
theorem dc_291_150 : decode (sm_cc 291) 150 = .ok (.iload_n 2, 1) := by decide +kernel
theorem dc_291_151 : decode (sm_cc 291) 151 = .ok (.ldc 103, 2) := by decide +kernel
theorem cs_291_103 : sm_at mt_ci (sm_ow 291) 103 = none ∧ sm_at mt_cs (sm_ow 291) 103 = some (103, 23, 2358) := by decide +kernel
theorem dc_291_153 : decode (sm_cc 291) 153 = .ok (.invokestatic 79, 3) := by decide +kernel
theorem dc_291_156 : decode (sm_cc 291) 156 = .ok (.ifCond .eq (6), 3) := by decide +kernel
theorem dc_291_159 : decode (sm_cc 291) 159 = .ok (.bipush (11), 2) := by decide +kernel
theorem dc_291_161 : decode (sm_cc 291) 161 = .ok (.ireturn, 1) := by decide +kernel
theorem dc_291_162 : decode (sm_cc 291) 162 = .ok (.aload_n 0, 1) := by decide +kernel
theorem dc_291_163 : decode (sm_cc 291) 163 = .ok (.iload_n 1, 1) := by decide +kernel
theorem dc_291_164 : decode (sm_cc 291) 164 = .ok (.iload_n 2, 1) := by decide +kernel
theorem dc_291_165 : decode (sm_cc 291) 165 = .ok (.ldc 105, 2) := by decide +kernel
theorem cs_291_105 : sm_at mt_ci (sm_ow 291) 105 = none ∧ sm_at mt_cs (sm_ow 291) 105 = some (105, 24, 2359) := by decide +kernel
theorem dc_291_167 : decode (sm_cc 291) 167 = .ok (.invokestatic 79, 3) := by decide +kernel
theorem dc_291_170 : decode (sm_cc 291) 170 = .ok (.ifCond .eq (6), 3) := by decide +kernel
theorem dc_291_173 : decode (sm_cc 291) 173 = .ok (.bipush (12), 2) := by decide +kernel
theorem dc_291_175 : decode (sm_cc 291) 175 = .ok (.ireturn, 1) := by decide +kernel
theorem dc_291_176 : decode (sm_cc 291) 176 = .ok (.aload_n 0, 1) := by decide +kernel
theorem dc_291_177 : decode (sm_cc 291) 177 = .ok (.iload_n 1, 1) := by decide +kernel
theorem dc_291_178 : decode (sm_cc 291) 178 = .ok (.iload_n 2, 1) := by decide +kernel
theorem dc_291_179 : decode (sm_cc 291) 179 = .ok (.ldc 107, 2) := by decide +kernel
theorem cs_291_107 : sm_at mt_ci (sm_ow 291) 107 = none ∧ sm_at mt_cs (sm_ow 291) 107 = some (107, 25, 2360) := by decide +kernel
theorem dc_291_181 : decode (sm_cc 291) 181 = .ok (.invokestatic 79, 3) := by decide +kernel
theorem dc_291_184 : decode (sm_cc 291) 184 = .ok (.ifCond .eq (6), 3) := by decide +kernel
theorem dc_291_187 : decode (sm_cc 291) 187 = .ok (.bipush (13), 2) := by decide +kernel
theorem dc_291_189 : decode (sm_cc 291) 189 = .ok (.ireturn, 1) := by decide +kernel
theorem dc_291_190 : decode (sm_cc 291) 190 = .ok (.aload_n 0, 1) := by decide +kernel
theorem dc_291_191 : decode (sm_cc 291) 191 = .ok (.iload_n 1, 1) := by decide +kernel
theorem dc_291_192 : decode (sm_cc 291) 192 = .ok (.iload_n 2, 1) := by decide +kernel
theorem dc_291_193 : decode (sm_cc 291) 193 = .ok (.ldc 109, 2) := by decide +kernel
theorem cs_291_109 : sm_at mt_ci (sm_ow 291) 109 = none ∧ sm_at mt_cs (sm_ow 291) 109 = some (109, 26, 2361) := by decide +kernel
theorem dc_291_195 : decode (sm_cc 291) 195 = .ok (.invokestatic 79, 3) := by decide +kernel
theorem dc_291_198 : decode (sm_cc 291) 198 = .ok (.ifCond .eq (6), 3) := by decide +kernel
theorem dc_291_201 : decode (sm_cc 291) 201 = .ok (.bipush (14), 2) := by decide +kernel
theorem dc_291_203 : decode (sm_cc 291) 203 = .ok (.ireturn, 1) := by decide +kernel
theorem dc_291_204 : decode (sm_cc 291) 204 = .ok (.aload_n 0, 1) := by decide +kernel
theorem dc_291_205 : decode (sm_cc 291) 205 = .ok (.iload_n 1, 1) := by decide +kernel
theorem dc_291_206 : decode (sm_cc 291) 206 = .ok (.iload_n 2, 1) := by decide +kernel
theorem dc_291_207 : decode (sm_cc 291) 207 = .ok (.ldc 111, 2) := by decide +kernel
theorem cs_291_111 : sm_at mt_ci (sm_ow 291) 111 = none ∧ sm_at mt_cs (sm_ow 291) 111 = some (111, 27, 2362) := by decide +kernel
theorem dc_291_209 : decode (sm_cc 291) 209 = .ok (.invokestatic 79, 3) := by decide +kernel
theorem dc_291_212 : decode (sm_cc 291) 212 = .ok (.ifCond .eq (6), 3) := by decide +kernel
theorem dc_291_215 : decode (sm_cc 291) 215 = .ok (.bipush (15), 2) := by decide +kernel
theorem dc_291_217 : decode (sm_cc 291) 217 = .ok (.ireturn, 1) := by decide +kernel
theorem dc_291_218 : decode (sm_cc 291) 218 = .ok (.aload_n 0, 1) := by decide +kernel
theorem dc_291_219 : decode (sm_cc 291) 219 = .ok (.iload_n 1, 1) := by decide +kernel
theorem dc_291_220 : decode (sm_cc 291) 220 = .ok (.iload_n 2, 1) := by decide +kernel
theorem dc_291_221 : decode (sm_cc 291) 221 = .ok (.ldc 113, 2) := by decide +kernel
theorem cs_291_113 : sm_at mt_ci (sm_ow 291) 113 = none ∧ sm_at mt_cs (sm_ow 291) 113 = some (113, 28, 2363) := by decide +kernel
theorem dc_291_223 : decode (sm_cc 291) 223 = .ok (.invokestatic 79, 3) := by decide +kernel
theorem dc_291_226 : decode (sm_cc 291) 226 = .ok (.ifCond .eq (6), 3) := by decide +kernel
theorem dc_291_229 : decode (sm_cc 291) 229 = .ok (.bipush (16), 2) := by decide +kernel
theorem dc_291_231 : decode (sm_cc 291) 231 = .ok (.ireturn, 1) := by decide +kernel
theorem dc_291_232 : decode (sm_cc 291) 232 = .ok (.aload_n 0, 1) := by decide +kernel
theorem dc_291_233 : decode (sm_cc 291) 233 = .ok (.iload_n 1, 1) := by decide +kernel
theorem dc_291_234 : decode (sm_cc 291) 234 = .ok (.iload_n 2, 1) := by decide +kernel
theorem dc_291_235 : decode (sm_cc 291) 235 = .ok (.ldc 115, 2) := by decide +kernel
theorem cs_291_115 : sm_at mt_ci (sm_ow 291) 115 = none ∧ sm_at mt_cs (sm_ow 291) 115 = some (115, 29, 2364) := by decide +kernel
theorem dc_291_237 : decode (sm_cc 291) 237 = .ok (.invokestatic 79, 3) := by decide +kernel
theorem dc_291_240 : decode (sm_cc 291) 240 = .ok (.ifCond .eq (6), 3) := by decide +kernel
theorem dc_291_243 : decode (sm_cc 291) 243 = .ok (.bipush (17), 2) := by decide +kernel
theorem dc_291_245 : decode (sm_cc 291) 245 = .ok (.ireturn, 1) := by decide +kernel
theorem dc_291_246 : decode (sm_cc 291) 246 = .ok (.aload_n 0, 1) := by decide +kernel
theorem dc_291_247 : decode (sm_cc 291) 247 = .ok (.iload_n 1, 1) := by decide +kernel
theorem dc_291_248 : decode (sm_cc 291) 248 = .ok (.iload_n 2, 1) := by decide +kernel
theorem dc_291_249 : decode (sm_cc 291) 249 = .ok (.ldc 117, 2) := by decide +kernel
theorem cs_291_117 : sm_at mt_ci (sm_ow 291) 117 = none ∧ sm_at mt_cs (sm_ow 291) 117 = some (117, 30, 2365) := by decide +kernel
theorem dc_291_251 : decode (sm_cc 291) 251 = .ok (.invokestatic 79, 3) := by decide +kernel
theorem dc_291_254 : decode (sm_cc 291) 254 = .ok (.ifCond .eq (6), 3) := by decide +kernel
theorem dc_291_257 : decode (sm_cc 291) 257 = .ok (.bipush (18), 2) := by decide +kernel
theorem dc_291_259 : decode (sm_cc 291) 259 = .ok (.ireturn, 1) := by decide +kernel
theorem dc_291_260 : decode (sm_cc 291) 260 = .ok (.aload_n 0, 1) := by decide +kernel
theorem dc_291_261 : decode (sm_cc 291) 261 = .ok (.iload_n 1, 1) := by decide +kernel
theorem dc_291_262 : decode (sm_cc 291) 262 = .ok (.iload_n 2, 1) := by decide +kernel
theorem dc_291_263 : decode (sm_cc 291) 263 = .ok (.ldc 119, 2) := by decide +kernel
theorem cs_291_119 : sm_at mt_ci (sm_ow 291) 119 = none ∧ sm_at mt_cs (sm_ow 291) 119 = some (119, 31, 2366) := by decide +kernel
theorem dc_291_265 : decode (sm_cc 291) 265 = .ok (.invokestatic 79, 3) := by decide +kernel
theorem dc_291_268 : decode (sm_cc 291) 268 = .ok (.ifCond .eq (6), 3) := by decide +kernel
theorem dc_291_271 : decode (sm_cc 291) 271 = .ok (.bipush (19), 2) := by decide +kernel
theorem dc_291_273 : decode (sm_cc 291) 273 = .ok (.ireturn, 1) := by decide +kernel
theorem dc_291_274 : decode (sm_cc 291) 274 = .ok (.aload_n 0, 1) := by decide +kernel
theorem dc_291_275 : decode (sm_cc 291) 275 = .ok (.iload_n 1, 1) := by decide +kernel
theorem dc_291_276 : decode (sm_cc 291) 276 = .ok (.iload_n 2, 1) := by decide +kernel
theorem dc_291_277 : decode (sm_cc 291) 277 = .ok (.ldc 121, 2) := by decide +kernel
theorem cs_291_121 : sm_at mt_ci (sm_ow 291) 121 = none ∧ sm_at mt_cs (sm_ow 291) 121 = some (121, 32, 2367) := by decide +kernel
theorem dc_291_279 : decode (sm_cc 291) 279 = .ok (.invokestatic 79, 3) := by decide +kernel
theorem dc_291_282 : decode (sm_cc 291) 282 = .ok (.ifCond .eq (6), 3) := by decide +kernel
theorem dc_291_285 : decode (sm_cc 291) 285 = .ok (.bipush (20), 2) := by decide +kernel
theorem dc_291_287 : decode (sm_cc 291) 287 = .ok (.ireturn, 1) := by decide +kernel
theorem dc_291_288 : decode (sm_cc 291) 288 = .ok (.aload_n 0, 1) := by decide +kernel
theorem dc_291_289 : decode (sm_cc 291) 289 = .ok (.iload_n 1, 1) := by decide +kernel
theorem dc_291_290 : decode (sm_cc 291) 290 = .ok (.iload_n 2, 1) := by decide +kernel
theorem dc_291_291 : decode (sm_cc 291) 291 = .ok (.ldc 123, 2) := by decide +kernel
theorem cs_291_123 : sm_at mt_ci (sm_ow 291) 123 = none ∧ sm_at mt_cs (sm_ow 291) 123 = some (123, 11, 2368) := by decide +kernel
theorem dc_291_293 : decode (sm_cc 291) 293 = .ok (.invokestatic 79, 3) := by decide +kernel
theorem dc_291_296 : decode (sm_cc 291) 296 = .ok (.ifCond .eq (6), 3) := by decide +kernel
theorem dc_291_299 : decode (sm_cc 291) 299 = .ok (.bipush (21), 2) := by decide +kernel
theorem dc_291_301 : decode (sm_cc 291) 301 = .ok (.ireturn, 1) := by decide +kernel
theorem dc_291_302 : decode (sm_cc 291) 302 = .ok (.aload_n 0, 1) := by decide +kernel
theorem dc_291_303 : decode (sm_cc 291) 303 = .ok (.iload_n 1, 1) := by decide +kernel
theorem dc_291_304 : decode (sm_cc 291) 304 = .ok (.iload_n 2, 1) := by decide +kernel
theorem dc_291_305 : decode (sm_cc 291) 305 = .ok (.ldc 125, 2) := by decide +kernel
theorem cs_291_125 : sm_at mt_ci (sm_ow 291) 125 = none ∧ sm_at mt_cs (sm_ow 291) 125 = some (125, 33, 2369) := by decide +kernel
theorem dc_291_307 : decode (sm_cc 291) 307 = .ok (.invokestatic 79, 3) := by decide +kernel
theorem dc_291_310 : decode (sm_cc 291) 310 = .ok (.ifCond .eq (6), 3) := by decide +kernel
theorem dc_291_313 : decode (sm_cc 291) 313 = .ok (.bipush (22), 2) := by decide +kernel
theorem dc_291_315 : decode (sm_cc 291) 315 = .ok (.ireturn, 1) := by decide +kernel
theorem dc_291_316 : decode (sm_cc 291) 316 = .ok (.aload_n 0, 1) := by decide +kernel
theorem dc_291_317 : decode (sm_cc 291) 317 = .ok (.iload_n 1, 1) := by decide +kernel
theorem dc_291_318 : decode (sm_cc 291) 318 = .ok (.iload_n 2, 1) := by decide +kernel
theorem dc_291_319 : decode (sm_cc 291) 319 = .ok (.ldc 127, 2) := by decide +kernel
theorem cs_291_127 : sm_at mt_ci (sm_ow 291) 127 = none ∧ sm_at mt_cs (sm_ow 291) 127 = some (127, 34, 2370) := by decide +kernel
theorem dc_291_321 : decode (sm_cc 291) 321 = .ok (.invokestatic 79, 3) := by decide +kernel
theorem dc_291_324 : decode (sm_cc 291) 324 = .ok (.ifCond .eq (8), 3) := by decide +kernel
theorem dc_291_327 : decode (sm_cc 291) 327 = .ok (.bipush (23), 2) := by decide +kernel
theorem dc_291_329 : decode (sm_cc 291) 329 = .ok (.goto (4), 3) := by decide +kernel
theorem dc_291_333 : decode (sm_cc 291) 333 = .ok (.ireturn, 1) := by decide +kernel
theorem dc_291_332 : decode (sm_cc 291) 332 = .ok (.iconst (-1), 1) := by decide +kernel
theorem ml_291 : sm_ml 291 = 3 := by decide +kernel
theorem dc_289_0 : decode (sm_cc 289) 0 = .ok (.iload_n 0, 1) := by decide +kernel
theorem dc_289_1 : decode (sm_cc 289) 1 = .ok (.bipush (97), 2) := by decide +kernel
theorem dc_289_3 : decode (sm_cc 289) 3 = .ok (.if_icmp .lt (9), 3) := by decide +kernel
theorem dc_289_6 : decode (sm_cc 289) 6 = .ok (.iload_n 0, 1) := by decide +kernel
theorem dc_289_7 : decode (sm_cc 289) 7 = .ok (.bipush (122), 2) := by decide +kernel
theorem dc_289_9 : decode (sm_cc 289) 9 = .ok (.if_icmp .le (21), 3) := by decide +kernel
theorem dc_289_30 : decode (sm_cc 289) 30 = .ok (.iconst 1, 1) := by decide +kernel
theorem dc_289_31 : decode (sm_cc 289) 31 = .ok (.goto (4), 3) := by decide +kernel
theorem dc_289_35 : decode (sm_cc 289) 35 = .ok (.ireturn, 1) := by decide +kernel
theorem rt_289 : sm_rt 289 = some .boolean := by decide +kernel
theorem ml_289 : sm_ml 289 = 1 := by decide +kernel
theorem dc_289_12 : decode (sm_cc 289) 12 = .ok (.iload_n 0, 1) := by decide +kernel
theorem dc_289_13 : decode (sm_cc 289) 13 = .ok (.bipush (65), 2) := by decide +kernel
theorem dc_289_15 : decode (sm_cc 289) 15 = .ok (.if_icmp .lt (9), 3) := by decide +kernel
theorem dc_289_18 : decode (sm_cc 289) 18 = .ok (.iload_n 0, 1) := by decide +kernel
theorem dc_289_19 : decode (sm_cc 289) 19 = .ok (.bipush (90), 2) := by decide +kernel
theorem dc_289_21 : decode (sm_cc 289) 21 = .ok (.if_icmp .le (9), 3) := by decide +kernel
theorem dc_289_24 : decode (sm_cc 289) 24 = .ok (.iload_n 0, 1) := by decide +kernel
theorem dc_289_25 : decode (sm_cc 289) 25 = .ok (.bipush (95), 2) := by decide +kernel
theorem dc_289_27 : decode (sm_cc 289) 27 = .ok (.if_icmp .ne (7), 3) := by decide +kernel
theorem dc_289_34 : decode (sm_cc 289) 34 = .ok (.iconst 0, 1) := by decide +kernel
theorem dc_290_0 : decode (sm_cc 290) 0 = .ok (.iload_n 0, 1) := by decide +kernel
theorem dc_290_1 : decode (sm_cc 290) 1 = .ok (.bipush (48), 2) := by decide +kernel
theorem dc_290_3 : decode (sm_cc 290) 3 = .ok (.if_icmp .lt (13), 3) := by decide +kernel
theorem dc_290_6 : decode (sm_cc 290) 6 = .ok (.iload_n 0, 1) := by decide +kernel
theorem dc_290_7 : decode (sm_cc 290) 7 = .ok (.bipush (57), 2) := by decide +kernel
theorem dc_290_9 : decode (sm_cc 290) 9 = .ok (.if_icmp .gt (7), 3) := by decide +kernel
theorem dc_290_12 : decode (sm_cc 290) 12 = .ok (.iconst 1, 1) := by decide +kernel
theorem dc_290_13 : decode (sm_cc 290) 13 = .ok (.goto (4), 3) := by decide +kernel
theorem dc_290_17 : decode (sm_cc 290) 17 = .ok (.ireturn, 1) := by decide +kernel
theorem rt_290 : sm_rt 290 = some .boolean := by decide +kernel
theorem ml_290 : sm_ml 290 = 1 := by decide +kernel
theorem dc_290_16 : decode (sm_cc 290) 16 = .ok (.iconst 0, 1) := by decide +kernel
/-- these bytes are this text -/
def r_word (S : cS) (ab fr n t : Nat) : Prop := n = tx_n t ∧ ∀ k, k < n → sA S ab (fr + k) = nI (tx_c t k)
theorem isWord_next {d ab NB fr n t k : Nat} {S Sf : cS} {v : Option Value} (hab : (mk S)[ab]? = some (.inl (2, NB, .inl (sA S ab)))) (hNB : NB < 2 ^ 30) (hfr : fr + n ≤ NB) (ht : t < 51) (hl : n = tx_n t) (hk : k < n) (hc : sA S ab (fr + k) = nI (tx_c t k)) (hx : Bod (d + 4) 292 13 (sm_p1 (lv_args 0 [.ref ab, .int (nI fr), .int (nI n), .retAddr (2 * t)]) 4 (.int (nI (k + 1)))) [] S v Sf) : Bod (d + 4) 292 13 (sm_p1 (lv_args 0 [.ref ab, .int (nI fr), .int (nI n), .retAddr (2 * t)]) 4 (.int (nI k))) [] S v Sf := by
  refine Bod.go dc_292_13 rfl ?_
  refine Bod.go dc_292_15 rfl ?_
  refine Bod.icF dc_292_16 rfl (k2_ge_F k n rfl rfl (by omega) (by omega)) ?_
  refine Bod.go dc_292_19 rfl ?_
  refine Bod.go dc_292_20 rfl ?_
  refine Bod.go dc_292_21 rfl ?_
  refine Bod.addN (fr + k) (by omega) dc_292_23 ?_
  refine Bod.baldN (N := NB) (fr + k) rfl (by omega) (by omega) dc_292_24 hab (Or.inl rfl) ?_
  refine Bod.aldnT dc_292_25 rfl (by omega) ?_
  refine Bod.go dc_292_26 rfl ?_
  refine Bod.virtT (r := [_]) dc_292_28 kr_292_49 (Or.inl rfl) (by rw [np_6]; rfl) (by rw [np_6]; rfl) ht so_6 (Nat.le_of_ble_eq_true rfl) (tx_at (t := t) (i := k) (by omega) (by omega)) ?_
  show Bod _ _ _ _ [_, _] _ _ _
  refine Bod.icT dc_292_31 rfl (k2_eq_T hc) ?_
  refine Bod.incN (k + 1) (by rw [kc_1, nI_add]) dc_292_36 (by rw [ml_292]; exact Nat.le_of_ble_eq_true rfl) rfl ?_
  refine Bod.go dc_292_39 rfl ?_
  exact Bod.lv (sm_p1_p1 _ 4 _ _) hx
theorem isWord_stop {d ab NB fr n t k : Nat} {S : cS} (hab : (mk S)[ab]? = some (.inl (2, NB, .inl (sA S ab)))) (hNB : NB < 2 ^ 30) (hfr : fr + n ≤ NB) (ht : t < 51) (hl : n = tx_n t) (hk : k < n) (hc : sA S ab (fr + k) ≠ nI (tx_c t k)) : Bod (d + 4) 292 13 (sm_p1 (lv_args 0 [.ref ab, .int (nI fr), .int (nI n), .retAddr (2 * t)]) 4 (.int (nI k))) [] S (some (.int 0)) S := by
  refine Bod.go dc_292_13 rfl ?_
  refine Bod.go dc_292_15 rfl ?_
  refine Bod.icF dc_292_16 rfl (k2_ge_F k n rfl rfl (by omega) (by omega)) ?_
  refine Bod.go dc_292_19 rfl ?_
  refine Bod.go dc_292_20 rfl ?_
  refine Bod.go dc_292_21 rfl ?_
  refine Bod.addN (fr + k) (by omega) dc_292_23 ?_
  refine Bod.baldN (N := NB) (fr + k) rfl (by omega) (by omega) dc_292_24 hab (Or.inl rfl) ?_
  refine Bod.aldnT dc_292_25 rfl (by omega) ?_
  refine Bod.go dc_292_26 rfl ?_
  refine Bod.virtT (r := [_]) dc_292_28 kr_292_49 (Or.inl rfl) (by rw [np_6]; rfl) (by rw [np_6]; rfl) ht so_6 (Nat.le_of_ble_eq_true rfl) (tx_at (t := t) (i := k) (by omega) (by omega)) ?_
  show Bod _ _ _ _ [_, _] _ _ _
  refine Bod.icF dc_292_31 rfl (k2_eq_F hc) ?_
  refine Bod.ic 0 (by decide) dc_292_34 ?_
  exact Bod.retZ dc_292_35 rt_292 (Or.inl rfl)
theorem isWord_end {d ab NB fr n t k : Nat} {S : cS} (hab : (mk S)[ab]? = some (.inl (2, NB, .inl (sA S ab)))) (hNB : NB < 2 ^ 30) (hfr : fr + n ≤ NB) (ht : t < 51) (hk : k = n) : Bod (d + 4) 292 13 (sm_p1 (lv_args 0 [.ref ab, .int (nI fr), .int (nI n), .retAddr (2 * t)]) 4 (.int (nI k))) [] S (some (.int 1)) S := by
  refine Bod.go dc_292_13 rfl ?_
  refine Bod.go dc_292_15 rfl ?_
  refine Bod.icT dc_292_16 rfl (k2_ge_T k n rfl rfl (by omega) (by omega)) ?_
  refine Bod.ic 1 (by decide) dc_292_42 ?_
  exact Bod.retZ dc_292_43 rt_292 (Or.inr rfl)
theorem isWord_len {d ab NB fr n t : Nat} {S : cS} (hab : (mk S)[ab]? = some (.inl (2, NB, .inl (sA S ab)))) (hNB : NB < 2 ^ 30) (hfr : fr + n ≤ NB) (ht : t < 51) (hl : n ≠ tx_n t) : Ans (d + 5) 292 [.ref ab, .int (nI fr), .int (nI n), .retAddr (2 * t)] S (some (.int 0)) S := by
  refine Ans.of (by rw [ml_292]; exact Nat.le_of_ble_eq_true rfl) ?_
  refine Bod.go dc_292_0 rfl ?_
  refine Bod.aldnT dc_292_1 rfl (by omega) ?_
  refine Bod.virtT (r := [_]) dc_292_2 kr_292_43 (Or.inl rfl) (by rw [np_4]; rfl) (by rw [np_4]; rfl) ht so_4 (Nat.le_of_ble_eq_true rfl) (tx_len (t := t) (by omega)) ?_
  show Bod _ _ _ _ [_, _] _ _ _
  refine Bod.icF dc_292_5 rfl (k2_eq_F (k_ne n (tx_n t) rfl rfl hl (by omega) (by have := tx_n_le t ht; omega))) ?_
  refine Bod.ic 0 (by decide) dc_292_8 ?_
  exact Bod.retZ dc_292_9 rt_292 (Or.inl rfl)
theorem isWord_go {d ab NB fr n t : Nat} {S Sf : cS} {v : Option Value} (hab : (mk S)[ab]? = some (.inl (2, NB, .inl (sA S ab)))) (hNB : NB < 2 ^ 30) (hfr : fr + n ≤ NB) (ht : t < 51) (hl : n = tx_n t) (hx : Bod (d + 4) 292 13 (sm_p1 (lv_args 0 [.ref ab, .int (nI fr), .int (nI n), .retAddr (2 * t)]) 4 (.int (nI 0))) [] S v Sf) : Ans (d + 5) 292 [.ref ab, .int (nI fr), .int (nI n), .retAddr (2 * t)] S v Sf := by
  refine Ans.of (by rw [ml_292]; exact Nat.le_of_ble_eq_true rfl) ?_
  refine Bod.go dc_292_0 rfl ?_
  refine Bod.aldnT dc_292_1 rfl (by omega) ?_
  refine Bod.virtT (r := [_]) dc_292_2 kr_292_43 (Or.inl rfl) (by rw [np_4]; rfl) (by rw [np_4]; rfl) ht so_4 (Nat.le_of_ble_eq_true rfl) (tx_len (t := t) (by omega)) ?_
  show Bod _ _ _ _ [_, _] _ _ _
  refine Bod.icT dc_292_5 rfl (k2_eq_T (k_eq n (tx_n t) rfl rfl hl)) ?_
  refine Bod.ic 0 (by decide) dc_292_10 ?_
  refine Bod.ist dc_292_11 (by rw [ml_292]; exact Nat.le_of_ble_eq_true rfl) ?_
  exact hx
theorem isWord_T {d ab NB fr n t : Nat} {S : cS} (hab : (mk S)[ab]? = some (.inl (2, NB, .inl (sA S ab)))) (hNB : NB < 2 ^ 30) (hfr : fr + n ≤ NB) (ht : t < 51) (h : r_word S ab fr n t) : Ans (d + 5) 292 [.ref ab, .int (nI fr), .int (nI n), .retAddr (2 * t)] S (some (.int 1)) S := by
  refine isWord_go hab hNB hfr ht h.1 ?_
  have key : ∀ (r k : Nat), k + r = n → Bod (d + 4) 292 13 (sm_p1 (lv_args 0 [.ref ab, .int (nI fr), .int (nI n), .retAddr (2 * t)]) 4 (.int (nI k))) [] S (some (.int 1)) S := by
    intro r
    induction r with
    | zero => intro k hk; exact isWord_end hab hNB hfr ht (by omega)
    | succ r ih => intro k hk; exact isWord_next hab hNB hfr ht h.1 (by omega) (h.2 k (by omega)) (ih (k + 1) (by omega))
  exact key n 0 (by omega)
theorem isWord_F {d ab NB fr n t : Nat} {S : cS} (hab : (mk S)[ab]? = some (.inl (2, NB, .inl (sA S ab)))) (hNB : NB < 2 ^ 30) (hfr : fr + n ≤ NB) (ht : t < 51) (h : ¬ r_word S ab fr n t) : Ans (d + 5) 292 [.ref ab, .int (nI fr), .int (nI n), .retAddr (2 * t)] S (some (.int 0)) S := by
  by_cases hl : n = tx_n t
  · refine isWord_go hab hNB hfr ht hl ?_
    have key : ∀ (r k : Nat), k + r = n → (∀ q, q < k → sA S ab (fr + q) = nI (tx_c t q)) → Bod (d + 4) 292 13 (sm_p1 (lv_args 0 [.ref ab, .int (nI fr), .int (nI n), .retAddr (2 * t)]) 4 (.int (nI k))) [] S (some (.int 0)) S := by
      intro r
      induction r with
      | zero => intro k hk hq; exact absurd ⟨hl, fun q h2 => hq q (by omega)⟩ h
      | succ r ih =>
        intro k hk hq
        by_cases hc : sA S ab (fr + k) = nI (tx_c t k)
        · exact isWord_next hab hNB hfr ht hl (by omega) hc (ih (k + 1) (by omega) (fun q h2 => by
            by_cases e : q = k
            · rw [e]; exact hc
            · exact hq q (by omega)))
        · exact isWord_stop hab hNB hfr ht hl (by omega) hc
    exact key n 0 (by omega) (fun q h2 => by omega)
  · exact isWord_len hab hNB hfr ht hl
/-- the texts of the words of the language, in their order -/
def w_tx : List Nat := [13, 14, 15, 16, 17, 18, 19, 8, 20, 21, 22, 23, 24, 25, 26, 27, 28, 29, 30, 31, 32, 11, 33, 34]
theorem wo_T0 {d ab NB fr n : Nat} {S : cS} (hab : (mk S)[ab]? = some (.inl (2, NB, .inl (sA S ab)))) (hNB : NB < 2 ^ 30) (hfr : fr + n ≤ NB) (h : r_word S ab fr n 13) : Bod (d + 5) 291 0 (lv_args 0 [.ref ab, .int (nI fr), .int (nI n)]) [] S (some (.int (nI 0))) S := by
  refine Bod.go dc_291_0 rfl ?_
  refine Bod.go dc_291_1 rfl ?_
  refine Bod.go dc_291_2 rfl ?_
  refine Bod.ldcT dc_291_3 cs_291_77 ?_
  refine Bod.stat (r := []) dc_291_5 kr_291_79 (Or.inl rfl) (by rw [np_292]; rfl) (by rw [np_292]; rfl) (by rw [np_292]; exact Nat.le_of_ble_eq_true rfl) (Nat.le_of_ble_eq_true rfl) (isWord_T (t := 13) hab hNB hfr (by omega) h) ?_
  show Bod _ _ _ _ [_] _ _ _
  refine Bod.ifF dc_291_8 rfl (k1_eq_F (k_ne 1 0 rfl rfl (by omega) (by omega) (by omega))) ?_
  refine Bod.ic 0 (by decide) dc_291_11 ?_
  exact Bod.retI dc_291_12 rt_291
theorem wo_F0 {d ab NB fr n : Nat} {S Sf : cS} {v : Option Value} (hab : (mk S)[ab]? = some (.inl (2, NB, .inl (sA S ab)))) (hNB : NB < 2 ^ 30) (hfr : fr + n ≤ NB) (h : ¬ r_word S ab fr n 13) (hx : Bod (d + 5) 291 13 (lv_args 0 [.ref ab, .int (nI fr), .int (nI n)]) [] S v Sf) : Bod (d + 5) 291 0 (lv_args 0 [.ref ab, .int (nI fr), .int (nI n)]) [] S v Sf := by
  refine Bod.go dc_291_0 rfl ?_
  refine Bod.go dc_291_1 rfl ?_
  refine Bod.go dc_291_2 rfl ?_
  refine Bod.ldcT dc_291_3 cs_291_77 ?_
  refine Bod.stat (r := []) dc_291_5 kr_291_79 (Or.inl rfl) (by rw [np_292]; rfl) (by rw [np_292]; rfl) (by rw [np_292]; exact Nat.le_of_ble_eq_true rfl) (Nat.le_of_ble_eq_true rfl) (isWord_F (t := 13) hab hNB hfr (by omega) h) ?_
  show Bod _ _ _ _ [_] _ _ _
  refine Bod.ifT dc_291_8 rfl (k1_eq_T (k_eq 0 0 rfl rfl (by omega))) ?_
  exact hx
theorem wo_T1 {d ab NB fr n : Nat} {S : cS} (hab : (mk S)[ab]? = some (.inl (2, NB, .inl (sA S ab)))) (hNB : NB < 2 ^ 30) (hfr : fr + n ≤ NB) (h : r_word S ab fr n 14) : Bod (d + 5) 291 13 (lv_args 0 [.ref ab, .int (nI fr), .int (nI n)]) [] S (some (.int (nI 1))) S := by
  refine Bod.go dc_291_13 rfl ?_
  refine Bod.go dc_291_14 rfl ?_
  refine Bod.go dc_291_15 rfl ?_
  refine Bod.ldcT dc_291_16 cs_291_83 ?_
  refine Bod.stat (r := []) dc_291_18 kr_291_79 (Or.inl rfl) (by rw [np_292]; rfl) (by rw [np_292]; rfl) (by rw [np_292]; exact Nat.le_of_ble_eq_true rfl) (Nat.le_of_ble_eq_true rfl) (isWord_T (t := 14) hab hNB hfr (by omega) h) ?_
  show Bod _ _ _ _ [_] _ _ _
  refine Bod.ifF dc_291_21 rfl (k1_eq_F (k_ne 1 0 rfl rfl (by omega) (by omega) (by omega))) ?_
  refine Bod.ic 1 (by decide) dc_291_24 ?_
  exact Bod.retI dc_291_25 rt_291
theorem wo_F1 {d ab NB fr n : Nat} {S Sf : cS} {v : Option Value} (hab : (mk S)[ab]? = some (.inl (2, NB, .inl (sA S ab)))) (hNB : NB < 2 ^ 30) (hfr : fr + n ≤ NB) (h : ¬ r_word S ab fr n 14) (hx : Bod (d + 5) 291 26 (lv_args 0 [.ref ab, .int (nI fr), .int (nI n)]) [] S v Sf) : Bod (d + 5) 291 13 (lv_args 0 [.ref ab, .int (nI fr), .int (nI n)]) [] S v Sf := by
  refine Bod.go dc_291_13 rfl ?_
  refine Bod.go dc_291_14 rfl ?_
  refine Bod.go dc_291_15 rfl ?_
  refine Bod.ldcT dc_291_16 cs_291_83 ?_
  refine Bod.stat (r := []) dc_291_18 kr_291_79 (Or.inl rfl) (by rw [np_292]; rfl) (by rw [np_292]; rfl) (by rw [np_292]; exact Nat.le_of_ble_eq_true rfl) (Nat.le_of_ble_eq_true rfl) (isWord_F (t := 14) hab hNB hfr (by omega) h) ?_
  show Bod _ _ _ _ [_] _ _ _
  refine Bod.ifT dc_291_21 rfl (k1_eq_T (k_eq 0 0 rfl rfl (by omega))) ?_
  exact hx
theorem wo_T2 {d ab NB fr n : Nat} {S : cS} (hab : (mk S)[ab]? = some (.inl (2, NB, .inl (sA S ab)))) (hNB : NB < 2 ^ 30) (hfr : fr + n ≤ NB) (h : r_word S ab fr n 15) : Bod (d + 5) 291 26 (lv_args 0 [.ref ab, .int (nI fr), .int (nI n)]) [] S (some (.int (nI 2))) S := by
  refine Bod.go dc_291_26 rfl ?_
  refine Bod.go dc_291_27 rfl ?_
  refine Bod.go dc_291_28 rfl ?_
  refine Bod.ldcT dc_291_29 cs_291_85 ?_
  refine Bod.stat (r := []) dc_291_31 kr_291_79 (Or.inl rfl) (by rw [np_292]; rfl) (by rw [np_292]; rfl) (by rw [np_292]; exact Nat.le_of_ble_eq_true rfl) (Nat.le_of_ble_eq_true rfl) (isWord_T (t := 15) hab hNB hfr (by omega) h) ?_
  show Bod _ _ _ _ [_] _ _ _
  refine Bod.ifF dc_291_34 rfl (k1_eq_F (k_ne 1 0 rfl rfl (by omega) (by omega) (by omega))) ?_
  refine Bod.ic 2 (by decide) dc_291_37 ?_
  exact Bod.retI dc_291_38 rt_291
theorem wo_F2 {d ab NB fr n : Nat} {S Sf : cS} {v : Option Value} (hab : (mk S)[ab]? = some (.inl (2, NB, .inl (sA S ab)))) (hNB : NB < 2 ^ 30) (hfr : fr + n ≤ NB) (h : ¬ r_word S ab fr n 15) (hx : Bod (d + 5) 291 39 (lv_args 0 [.ref ab, .int (nI fr), .int (nI n)]) [] S v Sf) : Bod (d + 5) 291 26 (lv_args 0 [.ref ab, .int (nI fr), .int (nI n)]) [] S v Sf := by
  refine Bod.go dc_291_26 rfl ?_
  refine Bod.go dc_291_27 rfl ?_
  refine Bod.go dc_291_28 rfl ?_
  refine Bod.ldcT dc_291_29 cs_291_85 ?_
  refine Bod.stat (r := []) dc_291_31 kr_291_79 (Or.inl rfl) (by rw [np_292]; rfl) (by rw [np_292]; rfl) (by rw [np_292]; exact Nat.le_of_ble_eq_true rfl) (Nat.le_of_ble_eq_true rfl) (isWord_F (t := 15) hab hNB hfr (by omega) h) ?_
  show Bod _ _ _ _ [_] _ _ _
  refine Bod.ifT dc_291_34 rfl (k1_eq_T (k_eq 0 0 rfl rfl (by omega))) ?_
  exact hx
theorem wo_T3 {d ab NB fr n : Nat} {S : cS} (hab : (mk S)[ab]? = some (.inl (2, NB, .inl (sA S ab)))) (hNB : NB < 2 ^ 30) (hfr : fr + n ≤ NB) (h : r_word S ab fr n 16) : Bod (d + 5) 291 39 (lv_args 0 [.ref ab, .int (nI fr), .int (nI n)]) [] S (some (.int (nI 3))) S := by
  refine Bod.go dc_291_39 rfl ?_
  refine Bod.go dc_291_40 rfl ?_
  refine Bod.go dc_291_41 rfl ?_
  refine Bod.ldcT dc_291_42 cs_291_87 ?_
  refine Bod.stat (r := []) dc_291_44 kr_291_79 (Or.inl rfl) (by rw [np_292]; rfl) (by rw [np_292]; rfl) (by rw [np_292]; exact Nat.le_of_ble_eq_true rfl) (Nat.le_of_ble_eq_true rfl) (isWord_T (t := 16) hab hNB hfr (by omega) h) ?_
  show Bod _ _ _ _ [_] _ _ _
  refine Bod.ifF dc_291_47 rfl (k1_eq_F (k_ne 1 0 rfl rfl (by omega) (by omega) (by omega))) ?_
  refine Bod.ic 3 (by decide) dc_291_50 ?_
  exact Bod.retI dc_291_51 rt_291
theorem wo_F3 {d ab NB fr n : Nat} {S Sf : cS} {v : Option Value} (hab : (mk S)[ab]? = some (.inl (2, NB, .inl (sA S ab)))) (hNB : NB < 2 ^ 30) (hfr : fr + n ≤ NB) (h : ¬ r_word S ab fr n 16) (hx : Bod (d + 5) 291 52 (lv_args 0 [.ref ab, .int (nI fr), .int (nI n)]) [] S v Sf) : Bod (d + 5) 291 39 (lv_args 0 [.ref ab, .int (nI fr), .int (nI n)]) [] S v Sf := by
  refine Bod.go dc_291_39 rfl ?_
  refine Bod.go dc_291_40 rfl ?_
  refine Bod.go dc_291_41 rfl ?_
  refine Bod.ldcT dc_291_42 cs_291_87 ?_
  refine Bod.stat (r := []) dc_291_44 kr_291_79 (Or.inl rfl) (by rw [np_292]; rfl) (by rw [np_292]; rfl) (by rw [np_292]; exact Nat.le_of_ble_eq_true rfl) (Nat.le_of_ble_eq_true rfl) (isWord_F (t := 16) hab hNB hfr (by omega) h) ?_
  show Bod _ _ _ _ [_] _ _ _
  refine Bod.ifT dc_291_47 rfl (k1_eq_T (k_eq 0 0 rfl rfl (by omega))) ?_
  exact hx
theorem wo_T4 {d ab NB fr n : Nat} {S : cS} (hab : (mk S)[ab]? = some (.inl (2, NB, .inl (sA S ab)))) (hNB : NB < 2 ^ 30) (hfr : fr + n ≤ NB) (h : r_word S ab fr n 17) : Bod (d + 5) 291 52 (lv_args 0 [.ref ab, .int (nI fr), .int (nI n)]) [] S (some (.int (nI 4))) S := by
  refine Bod.go dc_291_52 rfl ?_
  refine Bod.go dc_291_53 rfl ?_
  refine Bod.go dc_291_54 rfl ?_
  refine Bod.ldcT dc_291_55 cs_291_89 ?_
  refine Bod.stat (r := []) dc_291_57 kr_291_79 (Or.inl rfl) (by rw [np_292]; rfl) (by rw [np_292]; rfl) (by rw [np_292]; exact Nat.le_of_ble_eq_true rfl) (Nat.le_of_ble_eq_true rfl) (isWord_T (t := 17) hab hNB hfr (by omega) h) ?_
  show Bod _ _ _ _ [_] _ _ _
  refine Bod.ifF dc_291_60 rfl (k1_eq_F (k_ne 1 0 rfl rfl (by omega) (by omega) (by omega))) ?_
  refine Bod.ic 4 (by decide) dc_291_63 ?_
  exact Bod.retI dc_291_64 rt_291
theorem wo_F4 {d ab NB fr n : Nat} {S Sf : cS} {v : Option Value} (hab : (mk S)[ab]? = some (.inl (2, NB, .inl (sA S ab)))) (hNB : NB < 2 ^ 30) (hfr : fr + n ≤ NB) (h : ¬ r_word S ab fr n 17) (hx : Bod (d + 5) 291 65 (lv_args 0 [.ref ab, .int (nI fr), .int (nI n)]) [] S v Sf) : Bod (d + 5) 291 52 (lv_args 0 [.ref ab, .int (nI fr), .int (nI n)]) [] S v Sf := by
  refine Bod.go dc_291_52 rfl ?_
  refine Bod.go dc_291_53 rfl ?_
  refine Bod.go dc_291_54 rfl ?_
  refine Bod.ldcT dc_291_55 cs_291_89 ?_
  refine Bod.stat (r := []) dc_291_57 kr_291_79 (Or.inl rfl) (by rw [np_292]; rfl) (by rw [np_292]; rfl) (by rw [np_292]; exact Nat.le_of_ble_eq_true rfl) (Nat.le_of_ble_eq_true rfl) (isWord_F (t := 17) hab hNB hfr (by omega) h) ?_
  show Bod _ _ _ _ [_] _ _ _
  refine Bod.ifT dc_291_60 rfl (k1_eq_T (k_eq 0 0 rfl rfl (by omega))) ?_
  exact hx
theorem wo_T5 {d ab NB fr n : Nat} {S : cS} (hab : (mk S)[ab]? = some (.inl (2, NB, .inl (sA S ab)))) (hNB : NB < 2 ^ 30) (hfr : fr + n ≤ NB) (h : r_word S ab fr n 18) : Bod (d + 5) 291 65 (lv_args 0 [.ref ab, .int (nI fr), .int (nI n)]) [] S (some (.int (nI 5))) S := by
  refine Bod.go dc_291_65 rfl ?_
  refine Bod.go dc_291_66 rfl ?_
  refine Bod.go dc_291_67 rfl ?_
  refine Bod.ldcT dc_291_68 cs_291_91 ?_
  refine Bod.stat (r := []) dc_291_70 kr_291_79 (Or.inl rfl) (by rw [np_292]; rfl) (by rw [np_292]; rfl) (by rw [np_292]; exact Nat.le_of_ble_eq_true rfl) (Nat.le_of_ble_eq_true rfl) (isWord_T (t := 18) hab hNB hfr (by omega) h) ?_
  show Bod _ _ _ _ [_] _ _ _
  refine Bod.ifF dc_291_73 rfl (k1_eq_F (k_ne 1 0 rfl rfl (by omega) (by omega) (by omega))) ?_
  refine Bod.ic 5 (by decide) dc_291_76 ?_
  exact Bod.retI dc_291_77 rt_291
theorem wo_F5 {d ab NB fr n : Nat} {S Sf : cS} {v : Option Value} (hab : (mk S)[ab]? = some (.inl (2, NB, .inl (sA S ab)))) (hNB : NB < 2 ^ 30) (hfr : fr + n ≤ NB) (h : ¬ r_word S ab fr n 18) (hx : Bod (d + 5) 291 78 (lv_args 0 [.ref ab, .int (nI fr), .int (nI n)]) [] S v Sf) : Bod (d + 5) 291 65 (lv_args 0 [.ref ab, .int (nI fr), .int (nI n)]) [] S v Sf := by
  refine Bod.go dc_291_65 rfl ?_
  refine Bod.go dc_291_66 rfl ?_
  refine Bod.go dc_291_67 rfl ?_
  refine Bod.ldcT dc_291_68 cs_291_91 ?_
  refine Bod.stat (r := []) dc_291_70 kr_291_79 (Or.inl rfl) (by rw [np_292]; rfl) (by rw [np_292]; rfl) (by rw [np_292]; exact Nat.le_of_ble_eq_true rfl) (Nat.le_of_ble_eq_true rfl) (isWord_F (t := 18) hab hNB hfr (by omega) h) ?_
  show Bod _ _ _ _ [_] _ _ _
  refine Bod.ifT dc_291_73 rfl (k1_eq_T (k_eq 0 0 rfl rfl (by omega))) ?_
  exact hx
theorem wo_T6 {d ab NB fr n : Nat} {S : cS} (hab : (mk S)[ab]? = some (.inl (2, NB, .inl (sA S ab)))) (hNB : NB < 2 ^ 30) (hfr : fr + n ≤ NB) (h : r_word S ab fr n 19) : Bod (d + 5) 291 78 (lv_args 0 [.ref ab, .int (nI fr), .int (nI n)]) [] S (some (.int (nI 6))) S := by
  refine Bod.go dc_291_78 rfl ?_
  refine Bod.go dc_291_79 rfl ?_
  refine Bod.go dc_291_80 rfl ?_
  refine Bod.ldcT dc_291_81 cs_291_93 ?_
  refine Bod.stat (r := []) dc_291_83 kr_291_79 (Or.inl rfl) (by rw [np_292]; rfl) (by rw [np_292]; rfl) (by rw [np_292]; exact Nat.le_of_ble_eq_true rfl) (Nat.le_of_ble_eq_true rfl) (isWord_T (t := 19) hab hNB hfr (by omega) h) ?_
  show Bod _ _ _ _ [_] _ _ _
  refine Bod.ifF dc_291_86 rfl (k1_eq_F (k_ne 1 0 rfl rfl (by omega) (by omega) (by omega))) ?_
  refine Bod.bip 6 (by decide) dc_291_89 ?_
  exact Bod.retI dc_291_91 rt_291
theorem wo_F6 {d ab NB fr n : Nat} {S Sf : cS} {v : Option Value} (hab : (mk S)[ab]? = some (.inl (2, NB, .inl (sA S ab)))) (hNB : NB < 2 ^ 30) (hfr : fr + n ≤ NB) (h : ¬ r_word S ab fr n 19) (hx : Bod (d + 5) 291 92 (lv_args 0 [.ref ab, .int (nI fr), .int (nI n)]) [] S v Sf) : Bod (d + 5) 291 78 (lv_args 0 [.ref ab, .int (nI fr), .int (nI n)]) [] S v Sf := by
  refine Bod.go dc_291_78 rfl ?_
  refine Bod.go dc_291_79 rfl ?_
  refine Bod.go dc_291_80 rfl ?_
  refine Bod.ldcT dc_291_81 cs_291_93 ?_
  refine Bod.stat (r := []) dc_291_83 kr_291_79 (Or.inl rfl) (by rw [np_292]; rfl) (by rw [np_292]; rfl) (by rw [np_292]; exact Nat.le_of_ble_eq_true rfl) (Nat.le_of_ble_eq_true rfl) (isWord_F (t := 19) hab hNB hfr (by omega) h) ?_
  show Bod _ _ _ _ [_] _ _ _
  refine Bod.ifT dc_291_86 rfl (k1_eq_T (k_eq 0 0 rfl rfl (by omega))) ?_
  exact hx
theorem wo_T7 {d ab NB fr n : Nat} {S : cS} (hab : (mk S)[ab]? = some (.inl (2, NB, .inl (sA S ab)))) (hNB : NB < 2 ^ 30) (hfr : fr + n ≤ NB) (h : r_word S ab fr n 8) : Bod (d + 5) 291 92 (lv_args 0 [.ref ab, .int (nI fr), .int (nI n)]) [] S (some (.int (nI 7))) S := by
  refine Bod.go dc_291_92 rfl ?_
  refine Bod.go dc_291_93 rfl ?_
  refine Bod.go dc_291_94 rfl ?_
  refine Bod.ldcT dc_291_95 cs_291_95 ?_
  refine Bod.stat (r := []) dc_291_97 kr_291_79 (Or.inl rfl) (by rw [np_292]; rfl) (by rw [np_292]; rfl) (by rw [np_292]; exact Nat.le_of_ble_eq_true rfl) (Nat.le_of_ble_eq_true rfl) (isWord_T (t := 8) hab hNB hfr (by omega) h) ?_
  show Bod _ _ _ _ [_] _ _ _
  refine Bod.ifF dc_291_100 rfl (k1_eq_F (k_ne 1 0 rfl rfl (by omega) (by omega) (by omega))) ?_
  refine Bod.bip 7 (by decide) dc_291_103 ?_
  exact Bod.retI dc_291_105 rt_291
theorem wo_F7 {d ab NB fr n : Nat} {S Sf : cS} {v : Option Value} (hab : (mk S)[ab]? = some (.inl (2, NB, .inl (sA S ab)))) (hNB : NB < 2 ^ 30) (hfr : fr + n ≤ NB) (h : ¬ r_word S ab fr n 8) (hx : Bod (d + 5) 291 106 (lv_args 0 [.ref ab, .int (nI fr), .int (nI n)]) [] S v Sf) : Bod (d + 5) 291 92 (lv_args 0 [.ref ab, .int (nI fr), .int (nI n)]) [] S v Sf := by
  refine Bod.go dc_291_92 rfl ?_
  refine Bod.go dc_291_93 rfl ?_
  refine Bod.go dc_291_94 rfl ?_
  refine Bod.ldcT dc_291_95 cs_291_95 ?_
  refine Bod.stat (r := []) dc_291_97 kr_291_79 (Or.inl rfl) (by rw [np_292]; rfl) (by rw [np_292]; rfl) (by rw [np_292]; exact Nat.le_of_ble_eq_true rfl) (Nat.le_of_ble_eq_true rfl) (isWord_F (t := 8) hab hNB hfr (by omega) h) ?_
  show Bod _ _ _ _ [_] _ _ _
  refine Bod.ifT dc_291_100 rfl (k1_eq_T (k_eq 0 0 rfl rfl (by omega))) ?_
  exact hx
theorem wo_T8 {d ab NB fr n : Nat} {S : cS} (hab : (mk S)[ab]? = some (.inl (2, NB, .inl (sA S ab)))) (hNB : NB < 2 ^ 30) (hfr : fr + n ≤ NB) (h : r_word S ab fr n 20) : Bod (d + 5) 291 106 (lv_args 0 [.ref ab, .int (nI fr), .int (nI n)]) [] S (some (.int (nI 8))) S := by
  refine Bod.go dc_291_106 rfl ?_
  refine Bod.go dc_291_107 rfl ?_
  refine Bod.go dc_291_108 rfl ?_
  refine Bod.ldcT dc_291_109 cs_291_97 ?_
  refine Bod.stat (r := []) dc_291_111 kr_291_79 (Or.inl rfl) (by rw [np_292]; rfl) (by rw [np_292]; rfl) (by rw [np_292]; exact Nat.le_of_ble_eq_true rfl) (Nat.le_of_ble_eq_true rfl) (isWord_T (t := 20) hab hNB hfr (by omega) h) ?_
  show Bod _ _ _ _ [_] _ _ _
  refine Bod.ifF dc_291_114 rfl (k1_eq_F (k_ne 1 0 rfl rfl (by omega) (by omega) (by omega))) ?_
  refine Bod.bip 8 (by decide) dc_291_117 ?_
  exact Bod.retI dc_291_119 rt_291
theorem wo_F8 {d ab NB fr n : Nat} {S Sf : cS} {v : Option Value} (hab : (mk S)[ab]? = some (.inl (2, NB, .inl (sA S ab)))) (hNB : NB < 2 ^ 30) (hfr : fr + n ≤ NB) (h : ¬ r_word S ab fr n 20) (hx : Bod (d + 5) 291 120 (lv_args 0 [.ref ab, .int (nI fr), .int (nI n)]) [] S v Sf) : Bod (d + 5) 291 106 (lv_args 0 [.ref ab, .int (nI fr), .int (nI n)]) [] S v Sf := by
  refine Bod.go dc_291_106 rfl ?_
  refine Bod.go dc_291_107 rfl ?_
  refine Bod.go dc_291_108 rfl ?_
  refine Bod.ldcT dc_291_109 cs_291_97 ?_
  refine Bod.stat (r := []) dc_291_111 kr_291_79 (Or.inl rfl) (by rw [np_292]; rfl) (by rw [np_292]; rfl) (by rw [np_292]; exact Nat.le_of_ble_eq_true rfl) (Nat.le_of_ble_eq_true rfl) (isWord_F (t := 20) hab hNB hfr (by omega) h) ?_
  show Bod _ _ _ _ [_] _ _ _
  refine Bod.ifT dc_291_114 rfl (k1_eq_T (k_eq 0 0 rfl rfl (by omega))) ?_
  exact hx
theorem wo_T9 {d ab NB fr n : Nat} {S : cS} (hab : (mk S)[ab]? = some (.inl (2, NB, .inl (sA S ab)))) (hNB : NB < 2 ^ 30) (hfr : fr + n ≤ NB) (h : r_word S ab fr n 21) : Bod (d + 5) 291 120 (lv_args 0 [.ref ab, .int (nI fr), .int (nI n)]) [] S (some (.int (nI 9))) S := by
  refine Bod.go dc_291_120 rfl ?_
  refine Bod.go dc_291_121 rfl ?_
  refine Bod.go dc_291_122 rfl ?_
  refine Bod.ldcT dc_291_123 cs_291_99 ?_
  refine Bod.stat (r := []) dc_291_125 kr_291_79 (Or.inl rfl) (by rw [np_292]; rfl) (by rw [np_292]; rfl) (by rw [np_292]; exact Nat.le_of_ble_eq_true rfl) (Nat.le_of_ble_eq_true rfl) (isWord_T (t := 21) hab hNB hfr (by omega) h) ?_
  show Bod _ _ _ _ [_] _ _ _
  refine Bod.ifF dc_291_128 rfl (k1_eq_F (k_ne 1 0 rfl rfl (by omega) (by omega) (by omega))) ?_
  refine Bod.bip 9 (by decide) dc_291_131 ?_
  exact Bod.retI dc_291_133 rt_291
theorem wo_F9 {d ab NB fr n : Nat} {S Sf : cS} {v : Option Value} (hab : (mk S)[ab]? = some (.inl (2, NB, .inl (sA S ab)))) (hNB : NB < 2 ^ 30) (hfr : fr + n ≤ NB) (h : ¬ r_word S ab fr n 21) (hx : Bod (d + 5) 291 134 (lv_args 0 [.ref ab, .int (nI fr), .int (nI n)]) [] S v Sf) : Bod (d + 5) 291 120 (lv_args 0 [.ref ab, .int (nI fr), .int (nI n)]) [] S v Sf := by
  refine Bod.go dc_291_120 rfl ?_
  refine Bod.go dc_291_121 rfl ?_
  refine Bod.go dc_291_122 rfl ?_
  refine Bod.ldcT dc_291_123 cs_291_99 ?_
  refine Bod.stat (r := []) dc_291_125 kr_291_79 (Or.inl rfl) (by rw [np_292]; rfl) (by rw [np_292]; rfl) (by rw [np_292]; exact Nat.le_of_ble_eq_true rfl) (Nat.le_of_ble_eq_true rfl) (isWord_F (t := 21) hab hNB hfr (by omega) h) ?_
  show Bod _ _ _ _ [_] _ _ _
  refine Bod.ifT dc_291_128 rfl (k1_eq_T (k_eq 0 0 rfl rfl (by omega))) ?_
  exact hx
theorem wo_T10 {d ab NB fr n : Nat} {S : cS} (hab : (mk S)[ab]? = some (.inl (2, NB, .inl (sA S ab)))) (hNB : NB < 2 ^ 30) (hfr : fr + n ≤ NB) (h : r_word S ab fr n 22) : Bod (d + 5) 291 134 (lv_args 0 [.ref ab, .int (nI fr), .int (nI n)]) [] S (some (.int (nI 10))) S := by
  refine Bod.go dc_291_134 rfl ?_
  refine Bod.go dc_291_135 rfl ?_
  refine Bod.go dc_291_136 rfl ?_
  refine Bod.ldcT dc_291_137 cs_291_101 ?_
  refine Bod.stat (r := []) dc_291_139 kr_291_79 (Or.inl rfl) (by rw [np_292]; rfl) (by rw [np_292]; rfl) (by rw [np_292]; exact Nat.le_of_ble_eq_true rfl) (Nat.le_of_ble_eq_true rfl) (isWord_T (t := 22) hab hNB hfr (by omega) h) ?_
  show Bod _ _ _ _ [_] _ _ _
  refine Bod.ifF dc_291_142 rfl (k1_eq_F (k_ne 1 0 rfl rfl (by omega) (by omega) (by omega))) ?_
  refine Bod.bip 10 (by decide) dc_291_145 ?_
  exact Bod.retI dc_291_147 rt_291
theorem wo_F10 {d ab NB fr n : Nat} {S Sf : cS} {v : Option Value} (hab : (mk S)[ab]? = some (.inl (2, NB, .inl (sA S ab)))) (hNB : NB < 2 ^ 30) (hfr : fr + n ≤ NB) (h : ¬ r_word S ab fr n 22) (hx : Bod (d + 5) 291 148 (lv_args 0 [.ref ab, .int (nI fr), .int (nI n)]) [] S v Sf) : Bod (d + 5) 291 134 (lv_args 0 [.ref ab, .int (nI fr), .int (nI n)]) [] S v Sf := by
  refine Bod.go dc_291_134 rfl ?_
  refine Bod.go dc_291_135 rfl ?_
  refine Bod.go dc_291_136 rfl ?_
  refine Bod.ldcT dc_291_137 cs_291_101 ?_
  refine Bod.stat (r := []) dc_291_139 kr_291_79 (Or.inl rfl) (by rw [np_292]; rfl) (by rw [np_292]; rfl) (by rw [np_292]; exact Nat.le_of_ble_eq_true rfl) (Nat.le_of_ble_eq_true rfl) (isWord_F (t := 22) hab hNB hfr (by omega) h) ?_
  show Bod _ _ _ _ [_] _ _ _
  refine Bod.ifT dc_291_142 rfl (k1_eq_T (k_eq 0 0 rfl rfl (by omega))) ?_
  exact hx
theorem wo_T11 {d ab NB fr n : Nat} {S : cS} (hab : (mk S)[ab]? = some (.inl (2, NB, .inl (sA S ab)))) (hNB : NB < 2 ^ 30) (hfr : fr + n ≤ NB) (h : r_word S ab fr n 23) : Bod (d + 5) 291 148 (lv_args 0 [.ref ab, .int (nI fr), .int (nI n)]) [] S (some (.int (nI 11))) S := by
  refine Bod.go dc_291_148 rfl ?_
  refine Bod.go dc_291_149 rfl ?_
  refine Bod.go dc_291_150 rfl ?_
  refine Bod.ldcT dc_291_151 cs_291_103 ?_
  refine Bod.stat (r := []) dc_291_153 kr_291_79 (Or.inl rfl) (by rw [np_292]; rfl) (by rw [np_292]; rfl) (by rw [np_292]; exact Nat.le_of_ble_eq_true rfl) (Nat.le_of_ble_eq_true rfl) (isWord_T (t := 23) hab hNB hfr (by omega) h) ?_
  show Bod _ _ _ _ [_] _ _ _
  refine Bod.ifF dc_291_156 rfl (k1_eq_F (k_ne 1 0 rfl rfl (by omega) (by omega) (by omega))) ?_
  refine Bod.bip 11 (by decide) dc_291_159 ?_
  exact Bod.retI dc_291_161 rt_291
theorem wo_F11 {d ab NB fr n : Nat} {S Sf : cS} {v : Option Value} (hab : (mk S)[ab]? = some (.inl (2, NB, .inl (sA S ab)))) (hNB : NB < 2 ^ 30) (hfr : fr + n ≤ NB) (h : ¬ r_word S ab fr n 23) (hx : Bod (d + 5) 291 162 (lv_args 0 [.ref ab, .int (nI fr), .int (nI n)]) [] S v Sf) : Bod (d + 5) 291 148 (lv_args 0 [.ref ab, .int (nI fr), .int (nI n)]) [] S v Sf := by
  refine Bod.go dc_291_148 rfl ?_
  refine Bod.go dc_291_149 rfl ?_
  refine Bod.go dc_291_150 rfl ?_
  refine Bod.ldcT dc_291_151 cs_291_103 ?_
  refine Bod.stat (r := []) dc_291_153 kr_291_79 (Or.inl rfl) (by rw [np_292]; rfl) (by rw [np_292]; rfl) (by rw [np_292]; exact Nat.le_of_ble_eq_true rfl) (Nat.le_of_ble_eq_true rfl) (isWord_F (t := 23) hab hNB hfr (by omega) h) ?_
  show Bod _ _ _ _ [_] _ _ _
  refine Bod.ifT dc_291_156 rfl (k1_eq_T (k_eq 0 0 rfl rfl (by omega))) ?_
  exact hx
theorem wo_T12 {d ab NB fr n : Nat} {S : cS} (hab : (mk S)[ab]? = some (.inl (2, NB, .inl (sA S ab)))) (hNB : NB < 2 ^ 30) (hfr : fr + n ≤ NB) (h : r_word S ab fr n 24) : Bod (d + 5) 291 162 (lv_args 0 [.ref ab, .int (nI fr), .int (nI n)]) [] S (some (.int (nI 12))) S := by
  refine Bod.go dc_291_162 rfl ?_
  refine Bod.go dc_291_163 rfl ?_
  refine Bod.go dc_291_164 rfl ?_
  refine Bod.ldcT dc_291_165 cs_291_105 ?_
  refine Bod.stat (r := []) dc_291_167 kr_291_79 (Or.inl rfl) (by rw [np_292]; rfl) (by rw [np_292]; rfl) (by rw [np_292]; exact Nat.le_of_ble_eq_true rfl) (Nat.le_of_ble_eq_true rfl) (isWord_T (t := 24) hab hNB hfr (by omega) h) ?_
  show Bod _ _ _ _ [_] _ _ _
  refine Bod.ifF dc_291_170 rfl (k1_eq_F (k_ne 1 0 rfl rfl (by omega) (by omega) (by omega))) ?_
  refine Bod.bip 12 (by decide) dc_291_173 ?_
  exact Bod.retI dc_291_175 rt_291
theorem wo_F12 {d ab NB fr n : Nat} {S Sf : cS} {v : Option Value} (hab : (mk S)[ab]? = some (.inl (2, NB, .inl (sA S ab)))) (hNB : NB < 2 ^ 30) (hfr : fr + n ≤ NB) (h : ¬ r_word S ab fr n 24) (hx : Bod (d + 5) 291 176 (lv_args 0 [.ref ab, .int (nI fr), .int (nI n)]) [] S v Sf) : Bod (d + 5) 291 162 (lv_args 0 [.ref ab, .int (nI fr), .int (nI n)]) [] S v Sf := by
  refine Bod.go dc_291_162 rfl ?_
  refine Bod.go dc_291_163 rfl ?_
  refine Bod.go dc_291_164 rfl ?_
  refine Bod.ldcT dc_291_165 cs_291_105 ?_
  refine Bod.stat (r := []) dc_291_167 kr_291_79 (Or.inl rfl) (by rw [np_292]; rfl) (by rw [np_292]; rfl) (by rw [np_292]; exact Nat.le_of_ble_eq_true rfl) (Nat.le_of_ble_eq_true rfl) (isWord_F (t := 24) hab hNB hfr (by omega) h) ?_
  show Bod _ _ _ _ [_] _ _ _
  refine Bod.ifT dc_291_170 rfl (k1_eq_T (k_eq 0 0 rfl rfl (by omega))) ?_
  exact hx
theorem wo_T13 {d ab NB fr n : Nat} {S : cS} (hab : (mk S)[ab]? = some (.inl (2, NB, .inl (sA S ab)))) (hNB : NB < 2 ^ 30) (hfr : fr + n ≤ NB) (h : r_word S ab fr n 25) : Bod (d + 5) 291 176 (lv_args 0 [.ref ab, .int (nI fr), .int (nI n)]) [] S (some (.int (nI 13))) S := by
  refine Bod.go dc_291_176 rfl ?_
  refine Bod.go dc_291_177 rfl ?_
  refine Bod.go dc_291_178 rfl ?_
  refine Bod.ldcT dc_291_179 cs_291_107 ?_
  refine Bod.stat (r := []) dc_291_181 kr_291_79 (Or.inl rfl) (by rw [np_292]; rfl) (by rw [np_292]; rfl) (by rw [np_292]; exact Nat.le_of_ble_eq_true rfl) (Nat.le_of_ble_eq_true rfl) (isWord_T (t := 25) hab hNB hfr (by omega) h) ?_
  show Bod _ _ _ _ [_] _ _ _
  refine Bod.ifF dc_291_184 rfl (k1_eq_F (k_ne 1 0 rfl rfl (by omega) (by omega) (by omega))) ?_
  refine Bod.bip 13 (by decide) dc_291_187 ?_
  exact Bod.retI dc_291_189 rt_291
theorem wo_F13 {d ab NB fr n : Nat} {S Sf : cS} {v : Option Value} (hab : (mk S)[ab]? = some (.inl (2, NB, .inl (sA S ab)))) (hNB : NB < 2 ^ 30) (hfr : fr + n ≤ NB) (h : ¬ r_word S ab fr n 25) (hx : Bod (d + 5) 291 190 (lv_args 0 [.ref ab, .int (nI fr), .int (nI n)]) [] S v Sf) : Bod (d + 5) 291 176 (lv_args 0 [.ref ab, .int (nI fr), .int (nI n)]) [] S v Sf := by
  refine Bod.go dc_291_176 rfl ?_
  refine Bod.go dc_291_177 rfl ?_
  refine Bod.go dc_291_178 rfl ?_
  refine Bod.ldcT dc_291_179 cs_291_107 ?_
  refine Bod.stat (r := []) dc_291_181 kr_291_79 (Or.inl rfl) (by rw [np_292]; rfl) (by rw [np_292]; rfl) (by rw [np_292]; exact Nat.le_of_ble_eq_true rfl) (Nat.le_of_ble_eq_true rfl) (isWord_F (t := 25) hab hNB hfr (by omega) h) ?_
  show Bod _ _ _ _ [_] _ _ _
  refine Bod.ifT dc_291_184 rfl (k1_eq_T (k_eq 0 0 rfl rfl (by omega))) ?_
  exact hx
theorem wo_T14 {d ab NB fr n : Nat} {S : cS} (hab : (mk S)[ab]? = some (.inl (2, NB, .inl (sA S ab)))) (hNB : NB < 2 ^ 30) (hfr : fr + n ≤ NB) (h : r_word S ab fr n 26) : Bod (d + 5) 291 190 (lv_args 0 [.ref ab, .int (nI fr), .int (nI n)]) [] S (some (.int (nI 14))) S := by
  refine Bod.go dc_291_190 rfl ?_
  refine Bod.go dc_291_191 rfl ?_
  refine Bod.go dc_291_192 rfl ?_
  refine Bod.ldcT dc_291_193 cs_291_109 ?_
  refine Bod.stat (r := []) dc_291_195 kr_291_79 (Or.inl rfl) (by rw [np_292]; rfl) (by rw [np_292]; rfl) (by rw [np_292]; exact Nat.le_of_ble_eq_true rfl) (Nat.le_of_ble_eq_true rfl) (isWord_T (t := 26) hab hNB hfr (by omega) h) ?_
  show Bod _ _ _ _ [_] _ _ _
  refine Bod.ifF dc_291_198 rfl (k1_eq_F (k_ne 1 0 rfl rfl (by omega) (by omega) (by omega))) ?_
  refine Bod.bip 14 (by decide) dc_291_201 ?_
  exact Bod.retI dc_291_203 rt_291
theorem wo_F14 {d ab NB fr n : Nat} {S Sf : cS} {v : Option Value} (hab : (mk S)[ab]? = some (.inl (2, NB, .inl (sA S ab)))) (hNB : NB < 2 ^ 30) (hfr : fr + n ≤ NB) (h : ¬ r_word S ab fr n 26) (hx : Bod (d + 5) 291 204 (lv_args 0 [.ref ab, .int (nI fr), .int (nI n)]) [] S v Sf) : Bod (d + 5) 291 190 (lv_args 0 [.ref ab, .int (nI fr), .int (nI n)]) [] S v Sf := by
  refine Bod.go dc_291_190 rfl ?_
  refine Bod.go dc_291_191 rfl ?_
  refine Bod.go dc_291_192 rfl ?_
  refine Bod.ldcT dc_291_193 cs_291_109 ?_
  refine Bod.stat (r := []) dc_291_195 kr_291_79 (Or.inl rfl) (by rw [np_292]; rfl) (by rw [np_292]; rfl) (by rw [np_292]; exact Nat.le_of_ble_eq_true rfl) (Nat.le_of_ble_eq_true rfl) (isWord_F (t := 26) hab hNB hfr (by omega) h) ?_
  show Bod _ _ _ _ [_] _ _ _
  refine Bod.ifT dc_291_198 rfl (k1_eq_T (k_eq 0 0 rfl rfl (by omega))) ?_
  exact hx
theorem wo_T15 {d ab NB fr n : Nat} {S : cS} (hab : (mk S)[ab]? = some (.inl (2, NB, .inl (sA S ab)))) (hNB : NB < 2 ^ 30) (hfr : fr + n ≤ NB) (h : r_word S ab fr n 27) : Bod (d + 5) 291 204 (lv_args 0 [.ref ab, .int (nI fr), .int (nI n)]) [] S (some (.int (nI 15))) S := by
  refine Bod.go dc_291_204 rfl ?_
  refine Bod.go dc_291_205 rfl ?_
  refine Bod.go dc_291_206 rfl ?_
  refine Bod.ldcT dc_291_207 cs_291_111 ?_
  refine Bod.stat (r := []) dc_291_209 kr_291_79 (Or.inl rfl) (by rw [np_292]; rfl) (by rw [np_292]; rfl) (by rw [np_292]; exact Nat.le_of_ble_eq_true rfl) (Nat.le_of_ble_eq_true rfl) (isWord_T (t := 27) hab hNB hfr (by omega) h) ?_
  show Bod _ _ _ _ [_] _ _ _
  refine Bod.ifF dc_291_212 rfl (k1_eq_F (k_ne 1 0 rfl rfl (by omega) (by omega) (by omega))) ?_
  refine Bod.bip 15 (by decide) dc_291_215 ?_
  exact Bod.retI dc_291_217 rt_291
theorem wo_F15 {d ab NB fr n : Nat} {S Sf : cS} {v : Option Value} (hab : (mk S)[ab]? = some (.inl (2, NB, .inl (sA S ab)))) (hNB : NB < 2 ^ 30) (hfr : fr + n ≤ NB) (h : ¬ r_word S ab fr n 27) (hx : Bod (d + 5) 291 218 (lv_args 0 [.ref ab, .int (nI fr), .int (nI n)]) [] S v Sf) : Bod (d + 5) 291 204 (lv_args 0 [.ref ab, .int (nI fr), .int (nI n)]) [] S v Sf := by
  refine Bod.go dc_291_204 rfl ?_
  refine Bod.go dc_291_205 rfl ?_
  refine Bod.go dc_291_206 rfl ?_
  refine Bod.ldcT dc_291_207 cs_291_111 ?_
  refine Bod.stat (r := []) dc_291_209 kr_291_79 (Or.inl rfl) (by rw [np_292]; rfl) (by rw [np_292]; rfl) (by rw [np_292]; exact Nat.le_of_ble_eq_true rfl) (Nat.le_of_ble_eq_true rfl) (isWord_F (t := 27) hab hNB hfr (by omega) h) ?_
  show Bod _ _ _ _ [_] _ _ _
  refine Bod.ifT dc_291_212 rfl (k1_eq_T (k_eq 0 0 rfl rfl (by omega))) ?_
  exact hx
theorem wo_T16 {d ab NB fr n : Nat} {S : cS} (hab : (mk S)[ab]? = some (.inl (2, NB, .inl (sA S ab)))) (hNB : NB < 2 ^ 30) (hfr : fr + n ≤ NB) (h : r_word S ab fr n 28) : Bod (d + 5) 291 218 (lv_args 0 [.ref ab, .int (nI fr), .int (nI n)]) [] S (some (.int (nI 16))) S := by
  refine Bod.go dc_291_218 rfl ?_
  refine Bod.go dc_291_219 rfl ?_
  refine Bod.go dc_291_220 rfl ?_
  refine Bod.ldcT dc_291_221 cs_291_113 ?_
  refine Bod.stat (r := []) dc_291_223 kr_291_79 (Or.inl rfl) (by rw [np_292]; rfl) (by rw [np_292]; rfl) (by rw [np_292]; exact Nat.le_of_ble_eq_true rfl) (Nat.le_of_ble_eq_true rfl) (isWord_T (t := 28) hab hNB hfr (by omega) h) ?_
  show Bod _ _ _ _ [_] _ _ _
  refine Bod.ifF dc_291_226 rfl (k1_eq_F (k_ne 1 0 rfl rfl (by omega) (by omega) (by omega))) ?_
  refine Bod.bip 16 (by decide) dc_291_229 ?_
  exact Bod.retI dc_291_231 rt_291
theorem wo_F16 {d ab NB fr n : Nat} {S Sf : cS} {v : Option Value} (hab : (mk S)[ab]? = some (.inl (2, NB, .inl (sA S ab)))) (hNB : NB < 2 ^ 30) (hfr : fr + n ≤ NB) (h : ¬ r_word S ab fr n 28) (hx : Bod (d + 5) 291 232 (lv_args 0 [.ref ab, .int (nI fr), .int (nI n)]) [] S v Sf) : Bod (d + 5) 291 218 (lv_args 0 [.ref ab, .int (nI fr), .int (nI n)]) [] S v Sf := by
  refine Bod.go dc_291_218 rfl ?_
  refine Bod.go dc_291_219 rfl ?_
  refine Bod.go dc_291_220 rfl ?_
  refine Bod.ldcT dc_291_221 cs_291_113 ?_
  refine Bod.stat (r := []) dc_291_223 kr_291_79 (Or.inl rfl) (by rw [np_292]; rfl) (by rw [np_292]; rfl) (by rw [np_292]; exact Nat.le_of_ble_eq_true rfl) (Nat.le_of_ble_eq_true rfl) (isWord_F (t := 28) hab hNB hfr (by omega) h) ?_
  show Bod _ _ _ _ [_] _ _ _
  refine Bod.ifT dc_291_226 rfl (k1_eq_T (k_eq 0 0 rfl rfl (by omega))) ?_
  exact hx
theorem wo_T17 {d ab NB fr n : Nat} {S : cS} (hab : (mk S)[ab]? = some (.inl (2, NB, .inl (sA S ab)))) (hNB : NB < 2 ^ 30) (hfr : fr + n ≤ NB) (h : r_word S ab fr n 29) : Bod (d + 5) 291 232 (lv_args 0 [.ref ab, .int (nI fr), .int (nI n)]) [] S (some (.int (nI 17))) S := by
  refine Bod.go dc_291_232 rfl ?_
  refine Bod.go dc_291_233 rfl ?_
  refine Bod.go dc_291_234 rfl ?_
  refine Bod.ldcT dc_291_235 cs_291_115 ?_
  refine Bod.stat (r := []) dc_291_237 kr_291_79 (Or.inl rfl) (by rw [np_292]; rfl) (by rw [np_292]; rfl) (by rw [np_292]; exact Nat.le_of_ble_eq_true rfl) (Nat.le_of_ble_eq_true rfl) (isWord_T (t := 29) hab hNB hfr (by omega) h) ?_
  show Bod _ _ _ _ [_] _ _ _
  refine Bod.ifF dc_291_240 rfl (k1_eq_F (k_ne 1 0 rfl rfl (by omega) (by omega) (by omega))) ?_
  refine Bod.bip 17 (by decide) dc_291_243 ?_
  exact Bod.retI dc_291_245 rt_291
theorem wo_F17 {d ab NB fr n : Nat} {S Sf : cS} {v : Option Value} (hab : (mk S)[ab]? = some (.inl (2, NB, .inl (sA S ab)))) (hNB : NB < 2 ^ 30) (hfr : fr + n ≤ NB) (h : ¬ r_word S ab fr n 29) (hx : Bod (d + 5) 291 246 (lv_args 0 [.ref ab, .int (nI fr), .int (nI n)]) [] S v Sf) : Bod (d + 5) 291 232 (lv_args 0 [.ref ab, .int (nI fr), .int (nI n)]) [] S v Sf := by
  refine Bod.go dc_291_232 rfl ?_
  refine Bod.go dc_291_233 rfl ?_
  refine Bod.go dc_291_234 rfl ?_
  refine Bod.ldcT dc_291_235 cs_291_115 ?_
  refine Bod.stat (r := []) dc_291_237 kr_291_79 (Or.inl rfl) (by rw [np_292]; rfl) (by rw [np_292]; rfl) (by rw [np_292]; exact Nat.le_of_ble_eq_true rfl) (Nat.le_of_ble_eq_true rfl) (isWord_F (t := 29) hab hNB hfr (by omega) h) ?_
  show Bod _ _ _ _ [_] _ _ _
  refine Bod.ifT dc_291_240 rfl (k1_eq_T (k_eq 0 0 rfl rfl (by omega))) ?_
  exact hx
theorem wo_T18 {d ab NB fr n : Nat} {S : cS} (hab : (mk S)[ab]? = some (.inl (2, NB, .inl (sA S ab)))) (hNB : NB < 2 ^ 30) (hfr : fr + n ≤ NB) (h : r_word S ab fr n 30) : Bod (d + 5) 291 246 (lv_args 0 [.ref ab, .int (nI fr), .int (nI n)]) [] S (some (.int (nI 18))) S := by
  refine Bod.go dc_291_246 rfl ?_
  refine Bod.go dc_291_247 rfl ?_
  refine Bod.go dc_291_248 rfl ?_
  refine Bod.ldcT dc_291_249 cs_291_117 ?_
  refine Bod.stat (r := []) dc_291_251 kr_291_79 (Or.inl rfl) (by rw [np_292]; rfl) (by rw [np_292]; rfl) (by rw [np_292]; exact Nat.le_of_ble_eq_true rfl) (Nat.le_of_ble_eq_true rfl) (isWord_T (t := 30) hab hNB hfr (by omega) h) ?_
  show Bod _ _ _ _ [_] _ _ _
  refine Bod.ifF dc_291_254 rfl (k1_eq_F (k_ne 1 0 rfl rfl (by omega) (by omega) (by omega))) ?_
  refine Bod.bip 18 (by decide) dc_291_257 ?_
  exact Bod.retI dc_291_259 rt_291
theorem wo_F18 {d ab NB fr n : Nat} {S Sf : cS} {v : Option Value} (hab : (mk S)[ab]? = some (.inl (2, NB, .inl (sA S ab)))) (hNB : NB < 2 ^ 30) (hfr : fr + n ≤ NB) (h : ¬ r_word S ab fr n 30) (hx : Bod (d + 5) 291 260 (lv_args 0 [.ref ab, .int (nI fr), .int (nI n)]) [] S v Sf) : Bod (d + 5) 291 246 (lv_args 0 [.ref ab, .int (nI fr), .int (nI n)]) [] S v Sf := by
  refine Bod.go dc_291_246 rfl ?_
  refine Bod.go dc_291_247 rfl ?_
  refine Bod.go dc_291_248 rfl ?_
  refine Bod.ldcT dc_291_249 cs_291_117 ?_
  refine Bod.stat (r := []) dc_291_251 kr_291_79 (Or.inl rfl) (by rw [np_292]; rfl) (by rw [np_292]; rfl) (by rw [np_292]; exact Nat.le_of_ble_eq_true rfl) (Nat.le_of_ble_eq_true rfl) (isWord_F (t := 30) hab hNB hfr (by omega) h) ?_
  show Bod _ _ _ _ [_] _ _ _
  refine Bod.ifT dc_291_254 rfl (k1_eq_T (k_eq 0 0 rfl rfl (by omega))) ?_
  exact hx
theorem wo_T19 {d ab NB fr n : Nat} {S : cS} (hab : (mk S)[ab]? = some (.inl (2, NB, .inl (sA S ab)))) (hNB : NB < 2 ^ 30) (hfr : fr + n ≤ NB) (h : r_word S ab fr n 31) : Bod (d + 5) 291 260 (lv_args 0 [.ref ab, .int (nI fr), .int (nI n)]) [] S (some (.int (nI 19))) S := by
  refine Bod.go dc_291_260 rfl ?_
  refine Bod.go dc_291_261 rfl ?_
  refine Bod.go dc_291_262 rfl ?_
  refine Bod.ldcT dc_291_263 cs_291_119 ?_
  refine Bod.stat (r := []) dc_291_265 kr_291_79 (Or.inl rfl) (by rw [np_292]; rfl) (by rw [np_292]; rfl) (by rw [np_292]; exact Nat.le_of_ble_eq_true rfl) (Nat.le_of_ble_eq_true rfl) (isWord_T (t := 31) hab hNB hfr (by omega) h) ?_
  show Bod _ _ _ _ [_] _ _ _
  refine Bod.ifF dc_291_268 rfl (k1_eq_F (k_ne 1 0 rfl rfl (by omega) (by omega) (by omega))) ?_
  refine Bod.bip 19 (by decide) dc_291_271 ?_
  exact Bod.retI dc_291_273 rt_291
theorem wo_F19 {d ab NB fr n : Nat} {S Sf : cS} {v : Option Value} (hab : (mk S)[ab]? = some (.inl (2, NB, .inl (sA S ab)))) (hNB : NB < 2 ^ 30) (hfr : fr + n ≤ NB) (h : ¬ r_word S ab fr n 31) (hx : Bod (d + 5) 291 274 (lv_args 0 [.ref ab, .int (nI fr), .int (nI n)]) [] S v Sf) : Bod (d + 5) 291 260 (lv_args 0 [.ref ab, .int (nI fr), .int (nI n)]) [] S v Sf := by
  refine Bod.go dc_291_260 rfl ?_
  refine Bod.go dc_291_261 rfl ?_
  refine Bod.go dc_291_262 rfl ?_
  refine Bod.ldcT dc_291_263 cs_291_119 ?_
  refine Bod.stat (r := []) dc_291_265 kr_291_79 (Or.inl rfl) (by rw [np_292]; rfl) (by rw [np_292]; rfl) (by rw [np_292]; exact Nat.le_of_ble_eq_true rfl) (Nat.le_of_ble_eq_true rfl) (isWord_F (t := 31) hab hNB hfr (by omega) h) ?_
  show Bod _ _ _ _ [_] _ _ _
  refine Bod.ifT dc_291_268 rfl (k1_eq_T (k_eq 0 0 rfl rfl (by omega))) ?_
  exact hx
theorem wo_T20 {d ab NB fr n : Nat} {S : cS} (hab : (mk S)[ab]? = some (.inl (2, NB, .inl (sA S ab)))) (hNB : NB < 2 ^ 30) (hfr : fr + n ≤ NB) (h : r_word S ab fr n 32) : Bod (d + 5) 291 274 (lv_args 0 [.ref ab, .int (nI fr), .int (nI n)]) [] S (some (.int (nI 20))) S := by
  refine Bod.go dc_291_274 rfl ?_
  refine Bod.go dc_291_275 rfl ?_
  refine Bod.go dc_291_276 rfl ?_
  refine Bod.ldcT dc_291_277 cs_291_121 ?_
  refine Bod.stat (r := []) dc_291_279 kr_291_79 (Or.inl rfl) (by rw [np_292]; rfl) (by rw [np_292]; rfl) (by rw [np_292]; exact Nat.le_of_ble_eq_true rfl) (Nat.le_of_ble_eq_true rfl) (isWord_T (t := 32) hab hNB hfr (by omega) h) ?_
  show Bod _ _ _ _ [_] _ _ _
  refine Bod.ifF dc_291_282 rfl (k1_eq_F (k_ne 1 0 rfl rfl (by omega) (by omega) (by omega))) ?_
  refine Bod.bip 20 (by decide) dc_291_285 ?_
  exact Bod.retI dc_291_287 rt_291
theorem wo_F20 {d ab NB fr n : Nat} {S Sf : cS} {v : Option Value} (hab : (mk S)[ab]? = some (.inl (2, NB, .inl (sA S ab)))) (hNB : NB < 2 ^ 30) (hfr : fr + n ≤ NB) (h : ¬ r_word S ab fr n 32) (hx : Bod (d + 5) 291 288 (lv_args 0 [.ref ab, .int (nI fr), .int (nI n)]) [] S v Sf) : Bod (d + 5) 291 274 (lv_args 0 [.ref ab, .int (nI fr), .int (nI n)]) [] S v Sf := by
  refine Bod.go dc_291_274 rfl ?_
  refine Bod.go dc_291_275 rfl ?_
  refine Bod.go dc_291_276 rfl ?_
  refine Bod.ldcT dc_291_277 cs_291_121 ?_
  refine Bod.stat (r := []) dc_291_279 kr_291_79 (Or.inl rfl) (by rw [np_292]; rfl) (by rw [np_292]; rfl) (by rw [np_292]; exact Nat.le_of_ble_eq_true rfl) (Nat.le_of_ble_eq_true rfl) (isWord_F (t := 32) hab hNB hfr (by omega) h) ?_
  show Bod _ _ _ _ [_] _ _ _
  refine Bod.ifT dc_291_282 rfl (k1_eq_T (k_eq 0 0 rfl rfl (by omega))) ?_
  exact hx
theorem wo_T21 {d ab NB fr n : Nat} {S : cS} (hab : (mk S)[ab]? = some (.inl (2, NB, .inl (sA S ab)))) (hNB : NB < 2 ^ 30) (hfr : fr + n ≤ NB) (h : r_word S ab fr n 11) : Bod (d + 5) 291 288 (lv_args 0 [.ref ab, .int (nI fr), .int (nI n)]) [] S (some (.int (nI 21))) S := by
  refine Bod.go dc_291_288 rfl ?_
  refine Bod.go dc_291_289 rfl ?_
  refine Bod.go dc_291_290 rfl ?_
  refine Bod.ldcT dc_291_291 cs_291_123 ?_
  refine Bod.stat (r := []) dc_291_293 kr_291_79 (Or.inl rfl) (by rw [np_292]; rfl) (by rw [np_292]; rfl) (by rw [np_292]; exact Nat.le_of_ble_eq_true rfl) (Nat.le_of_ble_eq_true rfl) (isWord_T (t := 11) hab hNB hfr (by omega) h) ?_
  show Bod _ _ _ _ [_] _ _ _
  refine Bod.ifF dc_291_296 rfl (k1_eq_F (k_ne 1 0 rfl rfl (by omega) (by omega) (by omega))) ?_
  refine Bod.bip 21 (by decide) dc_291_299 ?_
  exact Bod.retI dc_291_301 rt_291
theorem wo_F21 {d ab NB fr n : Nat} {S Sf : cS} {v : Option Value} (hab : (mk S)[ab]? = some (.inl (2, NB, .inl (sA S ab)))) (hNB : NB < 2 ^ 30) (hfr : fr + n ≤ NB) (h : ¬ r_word S ab fr n 11) (hx : Bod (d + 5) 291 302 (lv_args 0 [.ref ab, .int (nI fr), .int (nI n)]) [] S v Sf) : Bod (d + 5) 291 288 (lv_args 0 [.ref ab, .int (nI fr), .int (nI n)]) [] S v Sf := by
  refine Bod.go dc_291_288 rfl ?_
  refine Bod.go dc_291_289 rfl ?_
  refine Bod.go dc_291_290 rfl ?_
  refine Bod.ldcT dc_291_291 cs_291_123 ?_
  refine Bod.stat (r := []) dc_291_293 kr_291_79 (Or.inl rfl) (by rw [np_292]; rfl) (by rw [np_292]; rfl) (by rw [np_292]; exact Nat.le_of_ble_eq_true rfl) (Nat.le_of_ble_eq_true rfl) (isWord_F (t := 11) hab hNB hfr (by omega) h) ?_
  show Bod _ _ _ _ [_] _ _ _
  refine Bod.ifT dc_291_296 rfl (k1_eq_T (k_eq 0 0 rfl rfl (by omega))) ?_
  exact hx
theorem wo_T22 {d ab NB fr n : Nat} {S : cS} (hab : (mk S)[ab]? = some (.inl (2, NB, .inl (sA S ab)))) (hNB : NB < 2 ^ 30) (hfr : fr + n ≤ NB) (h : r_word S ab fr n 33) : Bod (d + 5) 291 302 (lv_args 0 [.ref ab, .int (nI fr), .int (nI n)]) [] S (some (.int (nI 22))) S := by
  refine Bod.go dc_291_302 rfl ?_
  refine Bod.go dc_291_303 rfl ?_
  refine Bod.go dc_291_304 rfl ?_
  refine Bod.ldcT dc_291_305 cs_291_125 ?_
  refine Bod.stat (r := []) dc_291_307 kr_291_79 (Or.inl rfl) (by rw [np_292]; rfl) (by rw [np_292]; rfl) (by rw [np_292]; exact Nat.le_of_ble_eq_true rfl) (Nat.le_of_ble_eq_true rfl) (isWord_T (t := 33) hab hNB hfr (by omega) h) ?_
  show Bod _ _ _ _ [_] _ _ _
  refine Bod.ifF dc_291_310 rfl (k1_eq_F (k_ne 1 0 rfl rfl (by omega) (by omega) (by omega))) ?_
  refine Bod.bip 22 (by decide) dc_291_313 ?_
  exact Bod.retI dc_291_315 rt_291
theorem wo_F22 {d ab NB fr n : Nat} {S Sf : cS} {v : Option Value} (hab : (mk S)[ab]? = some (.inl (2, NB, .inl (sA S ab)))) (hNB : NB < 2 ^ 30) (hfr : fr + n ≤ NB) (h : ¬ r_word S ab fr n 33) (hx : Bod (d + 5) 291 316 (lv_args 0 [.ref ab, .int (nI fr), .int (nI n)]) [] S v Sf) : Bod (d + 5) 291 302 (lv_args 0 [.ref ab, .int (nI fr), .int (nI n)]) [] S v Sf := by
  refine Bod.go dc_291_302 rfl ?_
  refine Bod.go dc_291_303 rfl ?_
  refine Bod.go dc_291_304 rfl ?_
  refine Bod.ldcT dc_291_305 cs_291_125 ?_
  refine Bod.stat (r := []) dc_291_307 kr_291_79 (Or.inl rfl) (by rw [np_292]; rfl) (by rw [np_292]; rfl) (by rw [np_292]; exact Nat.le_of_ble_eq_true rfl) (Nat.le_of_ble_eq_true rfl) (isWord_F (t := 33) hab hNB hfr (by omega) h) ?_
  show Bod _ _ _ _ [_] _ _ _
  refine Bod.ifT dc_291_310 rfl (k1_eq_T (k_eq 0 0 rfl rfl (by omega))) ?_
  exact hx
theorem wo_T23 {d ab NB fr n : Nat} {S : cS} (hab : (mk S)[ab]? = some (.inl (2, NB, .inl (sA S ab)))) (hNB : NB < 2 ^ 30) (hfr : fr + n ≤ NB) (h : r_word S ab fr n 34) : Bod (d + 5) 291 316 (lv_args 0 [.ref ab, .int (nI fr), .int (nI n)]) [] S (some (.int (nI 23))) S := by
  refine Bod.go dc_291_316 rfl ?_
  refine Bod.go dc_291_317 rfl ?_
  refine Bod.go dc_291_318 rfl ?_
  refine Bod.ldcT dc_291_319 cs_291_127 ?_
  refine Bod.stat (r := []) dc_291_321 kr_291_79 (Or.inl rfl) (by rw [np_292]; rfl) (by rw [np_292]; rfl) (by rw [np_292]; exact Nat.le_of_ble_eq_true rfl) (Nat.le_of_ble_eq_true rfl) (isWord_T (t := 34) hab hNB hfr (by omega) h) ?_
  show Bod _ _ _ _ [_] _ _ _
  refine Bod.ifF dc_291_324 rfl (k1_eq_F (k_ne 1 0 rfl rfl (by omega) (by omega) (by omega))) ?_
  refine Bod.bip 23 (by decide) dc_291_327 ?_
  refine Bod.go dc_291_329 rfl ?_
  exact Bod.retI dc_291_333 rt_291
theorem wo_F23 {d ab NB fr n : Nat} {S : cS} (hab : (mk S)[ab]? = some (.inl (2, NB, .inl (sA S ab)))) (hNB : NB < 2 ^ 30) (hfr : fr + n ≤ NB) (h : ¬ r_word S ab fr n 34) : Bod (d + 5) 291 316 (lv_args 0 [.ref ab, .int (nI fr), .int (nI n)]) [] S (some (.int (Int32.ofInt (-1)))) S := by
  refine Bod.go dc_291_316 rfl ?_
  refine Bod.go dc_291_317 rfl ?_
  refine Bod.go dc_291_318 rfl ?_
  refine Bod.ldcT dc_291_319 cs_291_127 ?_
  refine Bod.stat (r := []) dc_291_321 kr_291_79 (Or.inl rfl) (by rw [np_292]; rfl) (by rw [np_292]; rfl) (by rw [np_292]; exact Nat.le_of_ble_eq_true rfl) (Nat.le_of_ble_eq_true rfl) (isWord_F (t := 34) hab hNB hfr (by omega) h) ?_
  show Bod _ _ _ _ [_] _ _ _
  refine Bod.ifT dc_291_324 rfl (k1_eq_T (k_eq 0 0 rfl rfl (by omega))) ?_
  refine Bod.go dc_291_332 rfl ?_
  exact Bod.retI dc_291_333 rt_291
theorem wo_in {d ab fr n : Nat} {S Sf : cS} {v : Option Value} (hx : Bod (d + 5) 291 0 (lv_args 0 [.ref ab, .int (nI fr), .int (nI n)]) [] S v Sf) : Ans (d + 6) 291 [.ref ab, .int (nI fr), .int (nI n)] S v Sf := by
  refine Ans.of (by rw [ml_291]; exact Nat.le_of_ble_eq_true rfl) ?_
  exact hx
theorem wordOf_none {d ab NB fr n : Nat} {S : cS} (hab : (mk S)[ab]? = some (.inl (2, NB, .inl (sA S ab)))) (hNB : NB < 2 ^ 30) (hfr : fr + n ≤ NB) (h : ∀ t, t ∈ w_tx → ¬ r_word S ab fr n t) : Ans (d + 6) 291 [.ref ab, .int (nI fr), .int (nI n)] S (some (.int (Int32.ofInt (-1)))) S := by
  refine wo_in ?_
  refine wo_F0 hab hNB hfr (h _ (by decide)) ?_
  refine wo_F1 hab hNB hfr (h _ (by decide)) ?_
  refine wo_F2 hab hNB hfr (h _ (by decide)) ?_
  refine wo_F3 hab hNB hfr (h _ (by decide)) ?_
  refine wo_F4 hab hNB hfr (h _ (by decide)) ?_
  refine wo_F5 hab hNB hfr (h _ (by decide)) ?_
  refine wo_F6 hab hNB hfr (h _ (by decide)) ?_
  refine wo_F7 hab hNB hfr (h _ (by decide)) ?_
  refine wo_F8 hab hNB hfr (h _ (by decide)) ?_
  refine wo_F9 hab hNB hfr (h _ (by decide)) ?_
  refine wo_F10 hab hNB hfr (h _ (by decide)) ?_
  refine wo_F11 hab hNB hfr (h _ (by decide)) ?_
  refine wo_F12 hab hNB hfr (h _ (by decide)) ?_
  refine wo_F13 hab hNB hfr (h _ (by decide)) ?_
  refine wo_F14 hab hNB hfr (h _ (by decide)) ?_
  refine wo_F15 hab hNB hfr (h _ (by decide)) ?_
  refine wo_F16 hab hNB hfr (h _ (by decide)) ?_
  refine wo_F17 hab hNB hfr (h _ (by decide)) ?_
  refine wo_F18 hab hNB hfr (h _ (by decide)) ?_
  refine wo_F19 hab hNB hfr (h _ (by decide)) ?_
  refine wo_F20 hab hNB hfr (h _ (by decide)) ?_
  refine wo_F21 hab hNB hfr (h _ (by decide)) ?_
  refine wo_F22 hab hNB hfr (h _ (by decide)) ?_
  exact wo_F23 hab hNB hfr (h _ (by decide))
theorem wordOf_some {d ab NB fr n : Nat} {S : cS} (hab : (mk S)[ab]? = some (.inl (2, NB, .inl (sA S ab)))) (hNB : NB < 2 ^ 30) (hfr : fr + n ≤ NB) (h : ∃ t, t ∈ w_tx ∧ r_word S ab fr n t) : ∃ q, q < 24 ∧ (∃ t, w_tx[q]? = some t ∧ r_word S ab fr n t) ∧ Ans (d + 6) 291 [.ref ab, .int (nI fr), .int (nI n)] S (some (.int (nI q))) S := by
  by_cases h0 : r_word S ab fr n 13
  · exact ⟨0, by omega, ⟨13, rfl, h0⟩, wo_in (wo_T0 hab hNB hfr h0)⟩
  by_cases h1 : r_word S ab fr n 14
  · exact ⟨1, by omega, ⟨14, rfl, h1⟩, wo_in (wo_F0 hab hNB hfr h0 (wo_T1 hab hNB hfr h1))⟩
  by_cases h2 : r_word S ab fr n 15
  · exact ⟨2, by omega, ⟨15, rfl, h2⟩, wo_in (wo_F0 hab hNB hfr h0 (wo_F1 hab hNB hfr h1 (wo_T2 hab hNB hfr h2)))⟩
  by_cases h3 : r_word S ab fr n 16
  · exact ⟨3, by omega, ⟨16, rfl, h3⟩, wo_in (wo_F0 hab hNB hfr h0 (wo_F1 hab hNB hfr h1 (wo_F2 hab hNB hfr h2 (wo_T3 hab hNB hfr h3))))⟩
  by_cases h4 : r_word S ab fr n 17
  · exact ⟨4, by omega, ⟨17, rfl, h4⟩, wo_in (wo_F0 hab hNB hfr h0 (wo_F1 hab hNB hfr h1 (wo_F2 hab hNB hfr h2 (wo_F3 hab hNB hfr h3 (wo_T4 hab hNB hfr h4)))))⟩
  by_cases h5 : r_word S ab fr n 18
  · exact ⟨5, by omega, ⟨18, rfl, h5⟩, wo_in (wo_F0 hab hNB hfr h0 (wo_F1 hab hNB hfr h1 (wo_F2 hab hNB hfr h2 (wo_F3 hab hNB hfr h3 (wo_F4 hab hNB hfr h4 (wo_T5 hab hNB hfr h5))))))⟩
  by_cases h6 : r_word S ab fr n 19
  · exact ⟨6, by omega, ⟨19, rfl, h6⟩, wo_in (wo_F0 hab hNB hfr h0 (wo_F1 hab hNB hfr h1 (wo_F2 hab hNB hfr h2 (wo_F3 hab hNB hfr h3 (wo_F4 hab hNB hfr h4 (wo_F5 hab hNB hfr h5 (wo_T6 hab hNB hfr h6)))))))⟩
  by_cases h7 : r_word S ab fr n 8
  · exact ⟨7, by omega, ⟨8, rfl, h7⟩, wo_in (wo_F0 hab hNB hfr h0 (wo_F1 hab hNB hfr h1 (wo_F2 hab hNB hfr h2 (wo_F3 hab hNB hfr h3 (wo_F4 hab hNB hfr h4 (wo_F5 hab hNB hfr h5 (wo_F6 hab hNB hfr h6 (wo_T7 hab hNB hfr h7))))))))⟩
  by_cases h8 : r_word S ab fr n 20
  · exact ⟨8, by omega, ⟨20, rfl, h8⟩, wo_in (wo_F0 hab hNB hfr h0 (wo_F1 hab hNB hfr h1 (wo_F2 hab hNB hfr h2 (wo_F3 hab hNB hfr h3 (wo_F4 hab hNB hfr h4 (wo_F5 hab hNB hfr h5 (wo_F6 hab hNB hfr h6 (wo_F7 hab hNB hfr h7 (wo_T8 hab hNB hfr h8)))))))))⟩
  by_cases h9 : r_word S ab fr n 21
  · exact ⟨9, by omega, ⟨21, rfl, h9⟩, wo_in (wo_F0 hab hNB hfr h0 (wo_F1 hab hNB hfr h1 (wo_F2 hab hNB hfr h2 (wo_F3 hab hNB hfr h3 (wo_F4 hab hNB hfr h4 (wo_F5 hab hNB hfr h5 (wo_F6 hab hNB hfr h6 (wo_F7 hab hNB hfr h7 (wo_F8 hab hNB hfr h8 (wo_T9 hab hNB hfr h9))))))))))⟩
  by_cases h10 : r_word S ab fr n 22
  · exact ⟨10, by omega, ⟨22, rfl, h10⟩, wo_in (wo_F0 hab hNB hfr h0 (wo_F1 hab hNB hfr h1 (wo_F2 hab hNB hfr h2 (wo_F3 hab hNB hfr h3 (wo_F4 hab hNB hfr h4 (wo_F5 hab hNB hfr h5 (wo_F6 hab hNB hfr h6 (wo_F7 hab hNB hfr h7 (wo_F8 hab hNB hfr h8 (wo_F9 hab hNB hfr h9 (wo_T10 hab hNB hfr h10)))))))))))⟩
  by_cases h11 : r_word S ab fr n 23
  · exact ⟨11, by omega, ⟨23, rfl, h11⟩, wo_in (wo_F0 hab hNB hfr h0 (wo_F1 hab hNB hfr h1 (wo_F2 hab hNB hfr h2 (wo_F3 hab hNB hfr h3 (wo_F4 hab hNB hfr h4 (wo_F5 hab hNB hfr h5 (wo_F6 hab hNB hfr h6 (wo_F7 hab hNB hfr h7 (wo_F8 hab hNB hfr h8 (wo_F9 hab hNB hfr h9 (wo_F10 hab hNB hfr h10 (wo_T11 hab hNB hfr h11))))))))))))⟩
  by_cases h12 : r_word S ab fr n 24
  · exact ⟨12, by omega, ⟨24, rfl, h12⟩, wo_in (wo_F0 hab hNB hfr h0 (wo_F1 hab hNB hfr h1 (wo_F2 hab hNB hfr h2 (wo_F3 hab hNB hfr h3 (wo_F4 hab hNB hfr h4 (wo_F5 hab hNB hfr h5 (wo_F6 hab hNB hfr h6 (wo_F7 hab hNB hfr h7 (wo_F8 hab hNB hfr h8 (wo_F9 hab hNB hfr h9 (wo_F10 hab hNB hfr h10 (wo_F11 hab hNB hfr h11 (wo_T12 hab hNB hfr h12)))))))))))))⟩
  by_cases h13 : r_word S ab fr n 25
  · exact ⟨13, by omega, ⟨25, rfl, h13⟩, wo_in (wo_F0 hab hNB hfr h0 (wo_F1 hab hNB hfr h1 (wo_F2 hab hNB hfr h2 (wo_F3 hab hNB hfr h3 (wo_F4 hab hNB hfr h4 (wo_F5 hab hNB hfr h5 (wo_F6 hab hNB hfr h6 (wo_F7 hab hNB hfr h7 (wo_F8 hab hNB hfr h8 (wo_F9 hab hNB hfr h9 (wo_F10 hab hNB hfr h10 (wo_F11 hab hNB hfr h11 (wo_F12 hab hNB hfr h12 (wo_T13 hab hNB hfr h13))))))))))))))⟩
  by_cases h14 : r_word S ab fr n 26
  · exact ⟨14, by omega, ⟨26, rfl, h14⟩, wo_in (wo_F0 hab hNB hfr h0 (wo_F1 hab hNB hfr h1 (wo_F2 hab hNB hfr h2 (wo_F3 hab hNB hfr h3 (wo_F4 hab hNB hfr h4 (wo_F5 hab hNB hfr h5 (wo_F6 hab hNB hfr h6 (wo_F7 hab hNB hfr h7 (wo_F8 hab hNB hfr h8 (wo_F9 hab hNB hfr h9 (wo_F10 hab hNB hfr h10 (wo_F11 hab hNB hfr h11 (wo_F12 hab hNB hfr h12 (wo_F13 hab hNB hfr h13 (wo_T14 hab hNB hfr h14)))))))))))))))⟩
  by_cases h15 : r_word S ab fr n 27
  · exact ⟨15, by omega, ⟨27, rfl, h15⟩, wo_in (wo_F0 hab hNB hfr h0 (wo_F1 hab hNB hfr h1 (wo_F2 hab hNB hfr h2 (wo_F3 hab hNB hfr h3 (wo_F4 hab hNB hfr h4 (wo_F5 hab hNB hfr h5 (wo_F6 hab hNB hfr h6 (wo_F7 hab hNB hfr h7 (wo_F8 hab hNB hfr h8 (wo_F9 hab hNB hfr h9 (wo_F10 hab hNB hfr h10 (wo_F11 hab hNB hfr h11 (wo_F12 hab hNB hfr h12 (wo_F13 hab hNB hfr h13 (wo_F14 hab hNB hfr h14 (wo_T15 hab hNB hfr h15))))))))))))))))⟩
  by_cases h16 : r_word S ab fr n 28
  · exact ⟨16, by omega, ⟨28, rfl, h16⟩, wo_in (wo_F0 hab hNB hfr h0 (wo_F1 hab hNB hfr h1 (wo_F2 hab hNB hfr h2 (wo_F3 hab hNB hfr h3 (wo_F4 hab hNB hfr h4 (wo_F5 hab hNB hfr h5 (wo_F6 hab hNB hfr h6 (wo_F7 hab hNB hfr h7 (wo_F8 hab hNB hfr h8 (wo_F9 hab hNB hfr h9 (wo_F10 hab hNB hfr h10 (wo_F11 hab hNB hfr h11 (wo_F12 hab hNB hfr h12 (wo_F13 hab hNB hfr h13 (wo_F14 hab hNB hfr h14 (wo_F15 hab hNB hfr h15 (wo_T16 hab hNB hfr h16)))))))))))))))))⟩
  by_cases h17 : r_word S ab fr n 29
  · exact ⟨17, by omega, ⟨29, rfl, h17⟩, wo_in (wo_F0 hab hNB hfr h0 (wo_F1 hab hNB hfr h1 (wo_F2 hab hNB hfr h2 (wo_F3 hab hNB hfr h3 (wo_F4 hab hNB hfr h4 (wo_F5 hab hNB hfr h5 (wo_F6 hab hNB hfr h6 (wo_F7 hab hNB hfr h7 (wo_F8 hab hNB hfr h8 (wo_F9 hab hNB hfr h9 (wo_F10 hab hNB hfr h10 (wo_F11 hab hNB hfr h11 (wo_F12 hab hNB hfr h12 (wo_F13 hab hNB hfr h13 (wo_F14 hab hNB hfr h14 (wo_F15 hab hNB hfr h15 (wo_F16 hab hNB hfr h16 (wo_T17 hab hNB hfr h17))))))))))))))))))⟩
  by_cases h18 : r_word S ab fr n 30
  · exact ⟨18, by omega, ⟨30, rfl, h18⟩, wo_in (wo_F0 hab hNB hfr h0 (wo_F1 hab hNB hfr h1 (wo_F2 hab hNB hfr h2 (wo_F3 hab hNB hfr h3 (wo_F4 hab hNB hfr h4 (wo_F5 hab hNB hfr h5 (wo_F6 hab hNB hfr h6 (wo_F7 hab hNB hfr h7 (wo_F8 hab hNB hfr h8 (wo_F9 hab hNB hfr h9 (wo_F10 hab hNB hfr h10 (wo_F11 hab hNB hfr h11 (wo_F12 hab hNB hfr h12 (wo_F13 hab hNB hfr h13 (wo_F14 hab hNB hfr h14 (wo_F15 hab hNB hfr h15 (wo_F16 hab hNB hfr h16 (wo_F17 hab hNB hfr h17 (wo_T18 hab hNB hfr h18)))))))))))))))))))⟩
  by_cases h19 : r_word S ab fr n 31
  · exact ⟨19, by omega, ⟨31, rfl, h19⟩, wo_in (wo_F0 hab hNB hfr h0 (wo_F1 hab hNB hfr h1 (wo_F2 hab hNB hfr h2 (wo_F3 hab hNB hfr h3 (wo_F4 hab hNB hfr h4 (wo_F5 hab hNB hfr h5 (wo_F6 hab hNB hfr h6 (wo_F7 hab hNB hfr h7 (wo_F8 hab hNB hfr h8 (wo_F9 hab hNB hfr h9 (wo_F10 hab hNB hfr h10 (wo_F11 hab hNB hfr h11 (wo_F12 hab hNB hfr h12 (wo_F13 hab hNB hfr h13 (wo_F14 hab hNB hfr h14 (wo_F15 hab hNB hfr h15 (wo_F16 hab hNB hfr h16 (wo_F17 hab hNB hfr h17 (wo_F18 hab hNB hfr h18 (wo_T19 hab hNB hfr h19))))))))))))))))))))⟩
  by_cases h20 : r_word S ab fr n 32
  · exact ⟨20, by omega, ⟨32, rfl, h20⟩, wo_in (wo_F0 hab hNB hfr h0 (wo_F1 hab hNB hfr h1 (wo_F2 hab hNB hfr h2 (wo_F3 hab hNB hfr h3 (wo_F4 hab hNB hfr h4 (wo_F5 hab hNB hfr h5 (wo_F6 hab hNB hfr h6 (wo_F7 hab hNB hfr h7 (wo_F8 hab hNB hfr h8 (wo_F9 hab hNB hfr h9 (wo_F10 hab hNB hfr h10 (wo_F11 hab hNB hfr h11 (wo_F12 hab hNB hfr h12 (wo_F13 hab hNB hfr h13 (wo_F14 hab hNB hfr h14 (wo_F15 hab hNB hfr h15 (wo_F16 hab hNB hfr h16 (wo_F17 hab hNB hfr h17 (wo_F18 hab hNB hfr h18 (wo_F19 hab hNB hfr h19 (wo_T20 hab hNB hfr h20)))))))))))))))))))))⟩
  by_cases h21 : r_word S ab fr n 11
  · exact ⟨21, by omega, ⟨11, rfl, h21⟩, wo_in (wo_F0 hab hNB hfr h0 (wo_F1 hab hNB hfr h1 (wo_F2 hab hNB hfr h2 (wo_F3 hab hNB hfr h3 (wo_F4 hab hNB hfr h4 (wo_F5 hab hNB hfr h5 (wo_F6 hab hNB hfr h6 (wo_F7 hab hNB hfr h7 (wo_F8 hab hNB hfr h8 (wo_F9 hab hNB hfr h9 (wo_F10 hab hNB hfr h10 (wo_F11 hab hNB hfr h11 (wo_F12 hab hNB hfr h12 (wo_F13 hab hNB hfr h13 (wo_F14 hab hNB hfr h14 (wo_F15 hab hNB hfr h15 (wo_F16 hab hNB hfr h16 (wo_F17 hab hNB hfr h17 (wo_F18 hab hNB hfr h18 (wo_F19 hab hNB hfr h19 (wo_F20 hab hNB hfr h20 (wo_T21 hab hNB hfr h21))))))))))))))))))))))⟩
  by_cases h22 : r_word S ab fr n 33
  · exact ⟨22, by omega, ⟨33, rfl, h22⟩, wo_in (wo_F0 hab hNB hfr h0 (wo_F1 hab hNB hfr h1 (wo_F2 hab hNB hfr h2 (wo_F3 hab hNB hfr h3 (wo_F4 hab hNB hfr h4 (wo_F5 hab hNB hfr h5 (wo_F6 hab hNB hfr h6 (wo_F7 hab hNB hfr h7 (wo_F8 hab hNB hfr h8 (wo_F9 hab hNB hfr h9 (wo_F10 hab hNB hfr h10 (wo_F11 hab hNB hfr h11 (wo_F12 hab hNB hfr h12 (wo_F13 hab hNB hfr h13 (wo_F14 hab hNB hfr h14 (wo_F15 hab hNB hfr h15 (wo_F16 hab hNB hfr h16 (wo_F17 hab hNB hfr h17 (wo_F18 hab hNB hfr h18 (wo_F19 hab hNB hfr h19 (wo_F20 hab hNB hfr h20 (wo_F21 hab hNB hfr h21 (wo_T22 hab hNB hfr h22)))))))))))))))))))))))⟩
  by_cases h23 : r_word S ab fr n 34
  · exact ⟨23, by omega, ⟨34, rfl, h23⟩, wo_in (wo_F0 hab hNB hfr h0 (wo_F1 hab hNB hfr h1 (wo_F2 hab hNB hfr h2 (wo_F3 hab hNB hfr h3 (wo_F4 hab hNB hfr h4 (wo_F5 hab hNB hfr h5 (wo_F6 hab hNB hfr h6 (wo_F7 hab hNB hfr h7 (wo_F8 hab hNB hfr h8 (wo_F9 hab hNB hfr h9 (wo_F10 hab hNB hfr h10 (wo_F11 hab hNB hfr h11 (wo_F12 hab hNB hfr h12 (wo_F13 hab hNB hfr h13 (wo_F14 hab hNB hfr h14 (wo_F15 hab hNB hfr h15 (wo_F16 hab hNB hfr h16 (wo_F17 hab hNB hfr h17 (wo_F18 hab hNB hfr h18 (wo_F19 hab hNB hfr h19 (wo_F20 hab hNB hfr h20 (wo_F21 hab hNB hfr h21 (wo_F22 hab hNB hfr h22 (wo_T23 hab hNB hfr h23))))))))))))))))))))))))⟩
  exfalso
  obtain ⟨t, ht, hw⟩ := h
  simp only [w_tx, List.mem_cons, List.not_mem_nil, or_false] at ht
  rcases ht with rfl | rfl | rfl | rfl | rfl | rfl | rfl | rfl | rfl | rfl | rfl | rfl | rfl | rfl | rfl | rfl | rfl | rfl | rfl | rfl | rfl | rfl | rfl | rfl
  · exact h0 hw
  · exact h1 hw
  · exact h2 hw
  · exact h3 hw
  · exact h4 hw
  · exact h5 hw
  · exact h6 hw
  · exact h7 hw
  · exact h8 hw
  · exact h9 hw
  · exact h10 hw
  · exact h11 hw
  · exact h12 hw
  · exact h13 hw
  · exact h14 hw
  · exact h15 hw
  · exact h16 hw
  · exact h17 hw
  · exact h18 hw
  · exact h19 hw
  · exact h20 hw
  · exact h21 hw
  · exact h22 hw
  · exact h23 hw
theorem rLetter_a {d : Nat} {S : cS} {b : Nat} (h1 : 97 ≤ b) (h2 : b ≤ 122) : Ans (d + 1) 289 [.int (nI b)] S (some (.int 1)) (S) := by
  refine Ans.of (by rw [ml_289]; exact Nat.le_of_ble_eq_true rfl) ?_
  refine Bod.go dc_289_0 rfl ?_
  refine Bod.bip 97 (by decide) dc_289_1 ?_
  refine Bod.icF dc_289_3 rfl (k2_lt_F b 97 rfl rfl (by omega) (by omega)) ?_
  refine Bod.go dc_289_6 rfl ?_
  refine Bod.bip 122 (by decide) dc_289_7 ?_
  refine Bod.icT dc_289_9 rfl (k2_le_T b 122 rfl rfl (by omega) (by omega)) ?_
  refine Bod.ic 1 (by decide) dc_289_30 ?_
  refine Bod.go dc_289_31 rfl ?_
  exact Bod.retZ dc_289_35 rt_289 (Or.inr rfl)
theorem rLetter_b {d : Nat} {S : cS} {b : Nat} (h1 : 65 ≤ b) (h2 : b ≤ 90) : Ans (d + 1) 289 [.int (nI b)] S (some (.int 1)) (S) := by
  refine Ans.of (by rw [ml_289]; exact Nat.le_of_ble_eq_true rfl) ?_
  refine Bod.go dc_289_0 rfl ?_
  refine Bod.bip 97 (by decide) dc_289_1 ?_
  refine Bod.icT dc_289_3 rfl (k2_lt_T b 97 rfl rfl (by omega) (by omega)) ?_
  refine Bod.go dc_289_12 rfl ?_
  refine Bod.bip 65 (by decide) dc_289_13 ?_
  refine Bod.icF dc_289_15 rfl (k2_lt_F b 65 rfl rfl (by omega) (by omega)) ?_
  refine Bod.go dc_289_18 rfl ?_
  refine Bod.bip 90 (by decide) dc_289_19 ?_
  refine Bod.icT dc_289_21 rfl (k2_le_T b 90 rfl rfl (by omega) (by omega)) ?_
  refine Bod.ic 1 (by decide) dc_289_30 ?_
  refine Bod.go dc_289_31 rfl ?_
  exact Bod.retZ dc_289_35 rt_289 (Or.inr rfl)
theorem rLetter_c {d : Nat} {S : cS} {b : Nat} (h1 : b = 95) : Ans (d + 1) 289 [.int (nI b)] S (some (.int 1)) (S) := by
  refine Ans.of (by rw [ml_289]; exact Nat.le_of_ble_eq_true rfl) ?_
  refine Bod.go dc_289_0 rfl ?_
  refine Bod.bip 97 (by decide) dc_289_1 ?_
  refine Bod.icT dc_289_3 rfl (k2_lt_T b 97 rfl rfl (by omega) (by omega)) ?_
  refine Bod.go dc_289_12 rfl ?_
  refine Bod.bip 65 (by decide) dc_289_13 ?_
  refine Bod.icF dc_289_15 rfl (k2_lt_F b 65 rfl rfl (by omega) (by omega)) ?_
  refine Bod.go dc_289_18 rfl ?_
  refine Bod.bip 90 (by decide) dc_289_19 ?_
  refine Bod.icF dc_289_21 rfl (k2_le_F b 90 rfl rfl (by omega) (by omega)) ?_
  refine Bod.go dc_289_24 rfl ?_
  refine Bod.bip 95 (by decide) dc_289_25 ?_
  refine Bod.icF dc_289_27 rfl (k2_ne_F (k_eq b 95 rfl rfl (by omega))) ?_
  refine Bod.ic 1 (by decide) dc_289_30 ?_
  refine Bod.go dc_289_31 rfl ?_
  exact Bod.retZ dc_289_35 rt_289 (Or.inr rfl)
theorem rLetter_n1 {d : Nat} {S : cS} {b : Nat} (h1 : b < 65) : Ans (d + 1) 289 [.int (nI b)] S (some (.int 0)) (S) := by
  refine Ans.of (by rw [ml_289]; exact Nat.le_of_ble_eq_true rfl) ?_
  refine Bod.go dc_289_0 rfl ?_
  refine Bod.bip 97 (by decide) dc_289_1 ?_
  refine Bod.icT dc_289_3 rfl (k2_lt_T b 97 rfl rfl (by omega) (by omega)) ?_
  refine Bod.go dc_289_12 rfl ?_
  refine Bod.bip 65 (by decide) dc_289_13 ?_
  refine Bod.icT dc_289_15 rfl (k2_lt_T b 65 rfl rfl (by omega) (by omega)) ?_
  refine Bod.go dc_289_24 rfl ?_
  refine Bod.bip 95 (by decide) dc_289_25 ?_
  refine Bod.icT dc_289_27 rfl (k2_ne_T (k_ne b 95 rfl rfl (by omega) (by omega) (by omega))) ?_
  refine Bod.ic 0 (by decide) dc_289_34 ?_
  exact Bod.retZ dc_289_35 rt_289 (Or.inl rfl)
theorem rLetter_n2 {d : Nat} {S : cS} {b : Nat} (h1 : 91 ≤ b) (h2 : b ≤ 96) (h3 : b ≠ 95) : Ans (d + 1) 289 [.int (nI b)] S (some (.int 0)) (S) := by
  refine Ans.of (by rw [ml_289]; exact Nat.le_of_ble_eq_true rfl) ?_
  refine Bod.go dc_289_0 rfl ?_
  refine Bod.bip 97 (by decide) dc_289_1 ?_
  refine Bod.icT dc_289_3 rfl (k2_lt_T b 97 rfl rfl (by omega) (by omega)) ?_
  refine Bod.go dc_289_12 rfl ?_
  refine Bod.bip 65 (by decide) dc_289_13 ?_
  refine Bod.icF dc_289_15 rfl (k2_lt_F b 65 rfl rfl (by omega) (by omega)) ?_
  refine Bod.go dc_289_18 rfl ?_
  refine Bod.bip 90 (by decide) dc_289_19 ?_
  refine Bod.icF dc_289_21 rfl (k2_le_F b 90 rfl rfl (by omega) (by omega)) ?_
  refine Bod.go dc_289_24 rfl ?_
  refine Bod.bip 95 (by decide) dc_289_25 ?_
  refine Bod.icT dc_289_27 rfl (k2_ne_T (k_ne b 95 rfl rfl (by omega) (by omega) (by omega))) ?_
  refine Bod.ic 0 (by decide) dc_289_34 ?_
  exact Bod.retZ dc_289_35 rt_289 (Or.inl rfl)
theorem rLetter_n3 {d : Nat} {S : cS} {b : Nat} (h1 : 123 ≤ b) (hb : b < 2 ^ 31) : Ans (d + 1) 289 [.int (nI b)] S (some (.int 0)) (S) := by
  refine Ans.of (by rw [ml_289]; exact Nat.le_of_ble_eq_true rfl) ?_
  refine Bod.go dc_289_0 rfl ?_
  refine Bod.bip 97 (by decide) dc_289_1 ?_
  refine Bod.icF dc_289_3 rfl (k2_lt_F b 97 rfl rfl (by omega) (by omega)) ?_
  refine Bod.go dc_289_6 rfl ?_
  refine Bod.bip 122 (by decide) dc_289_7 ?_
  refine Bod.icF dc_289_9 rfl (k2_le_F b 122 rfl rfl (by omega) (by omega)) ?_
  refine Bod.go dc_289_12 rfl ?_
  refine Bod.bip 65 (by decide) dc_289_13 ?_
  refine Bod.icF dc_289_15 rfl (k2_lt_F b 65 rfl rfl (by omega) (by omega)) ?_
  refine Bod.go dc_289_18 rfl ?_
  refine Bod.bip 90 (by decide) dc_289_19 ?_
  refine Bod.icF dc_289_21 rfl (k2_le_F b 90 rfl rfl (by omega) (by omega)) ?_
  refine Bod.go dc_289_24 rfl ?_
  refine Bod.bip 95 (by decide) dc_289_25 ?_
  refine Bod.icT dc_289_27 rfl (k2_ne_T (k_ne b 95 rfl rfl (by omega) (by omega) (by omega))) ?_
  refine Bod.ic 0 (by decide) dc_289_34 ?_
  exact Bod.retZ dc_289_35 rt_289 (Or.inl rfl)
theorem rDigit_t {d : Nat} {S : cS} {b : Nat} (h1 : 48 ≤ b) (h2 : b ≤ 57) : Ans (d + 1) 290 [.int (nI b)] S (some (.int 1)) (S) := by
  refine Ans.of (by rw [ml_290]; exact Nat.le_of_ble_eq_true rfl) ?_
  refine Bod.go dc_290_0 rfl ?_
  refine Bod.bip 48 (by decide) dc_290_1 ?_
  refine Bod.icF dc_290_3 rfl (k2_lt_F b 48 rfl rfl (by omega) (by omega)) ?_
  refine Bod.go dc_290_6 rfl ?_
  refine Bod.bip 57 (by decide) dc_290_7 ?_
  refine Bod.icF dc_290_9 rfl (k2_gt_F b 57 rfl rfl (by omega) (by omega)) ?_
  refine Bod.ic 1 (by decide) dc_290_12 ?_
  refine Bod.go dc_290_13 rfl ?_
  exact Bod.retZ dc_290_17 rt_290 (Or.inr rfl)
theorem rDigit_n1 {d : Nat} {S : cS} {b : Nat} (h1 : b < 48) : Ans (d + 1) 290 [.int (nI b)] S (some (.int 0)) (S) := by
  refine Ans.of (by rw [ml_290]; exact Nat.le_of_ble_eq_true rfl) ?_
  refine Bod.go dc_290_0 rfl ?_
  refine Bod.bip 48 (by decide) dc_290_1 ?_
  refine Bod.icT dc_290_3 rfl (k2_lt_T b 48 rfl rfl (by omega) (by omega)) ?_
  refine Bod.ic 0 (by decide) dc_290_16 ?_
  exact Bod.retZ dc_290_17 rt_290 (Or.inl rfl)
theorem rDigit_n2 {d : Nat} {S : cS} {b : Nat} (h1 : 58 ≤ b) (hb : b < 2 ^ 31) : Ans (d + 1) 290 [.int (nI b)] S (some (.int 0)) (S) := by
  refine Ans.of (by rw [ml_290]; exact Nat.le_of_ble_eq_true rfl) ?_
  refine Bod.go dc_290_0 rfl ?_
  refine Bod.bip 48 (by decide) dc_290_1 ?_
  refine Bod.icF dc_290_3 rfl (k2_lt_F b 48 rfl rfl (by omega) (by omega)) ?_
  refine Bod.go dc_290_6 rfl ?_
  refine Bod.bip 57 (by decide) dc_290_7 ?_
  refine Bod.icT dc_290_9 rfl (k2_gt_T b 57 rfl rfl (by omega) (by omega)) ?_
  refine Bod.ic 0 (by decide) dc_290_16 ?_
  exact Bod.retZ dc_290_17 rt_290 (Or.inl rfl)
theorem rLetter_T {d : Nat} {S : cS} {b : Nat} (h : c_let b = true) : Ans (d + 1) 289 [.int (nI b)] S (some (.int 1)) S := by
  unfold c_let at h
  simp only [Bool.or_eq_true, Bool.and_eq_true, Nat.ble_eq, Nat.beq_eq] at h
  rcases h with h | h | h
  · exact rLetter_a h.1 h.2
  · exact rLetter_b h.1 h.2
  · exact rLetter_c h
theorem rLetter_F {d : Nat} {S : cS} {b : Nat} (hb : b < 2 ^ 31) (h : c_let b = false) : Ans (d + 1) 289 [.int (nI b)] S (some (.int 0)) S := by
  have h2 : ¬ c_let b = true := by rw [h]; decide
  unfold c_let at h2
  simp only [Bool.or_eq_true, Bool.and_eq_true, Nat.ble_eq, Nat.beq_eq] at h2
  by_cases h3 : b < 65
  · exact rLetter_n1 h3
  · by_cases h4 : b < 97
    · exact rLetter_n2 (by omega) (by omega) (by omega)
    · exact rLetter_n3 (by omega) hb
theorem rDigit_T {d : Nat} {S : cS} {b : Nat} (h : c_dig b = true) : Ans (d + 1) 290 [.int (nI b)] S (some (.int 1)) S := by
  unfold c_dig at h
  simp only [Bool.and_eq_true, Nat.ble_eq] at h
  exact rDigit_t h.1 h.2
theorem rDigit_F {d : Nat} {S : cS} {b : Nat} (hb : b < 2 ^ 31) (h : c_dig b = false) : Ans (d + 1) 290 [.int (nI b)] S (some (.int 0)) S := by
  have h2 : ¬ c_dig b = true := by rw [h]; decide
  unfold c_dig at h2
  simp only [Bool.and_eq_true, Nat.ble_eq] at h2
  by_cases h3 : b < 48
  · exact rDigit_n1 h3
  · exact rDigit_n2 (by omega) hb
