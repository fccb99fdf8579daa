/-! WAYS of the class's machine: every call is a hypothesis -/
theorem ml_227 : sm_ml 227 = 3 := by decide +kernel
theorem dc_227_0 : decode (sm_cc 227) 0 = .ok (.iload_n 1, 1) := by decide +kernel
theorem dc_227_1 : decode (sm_cc 227) 1 = .ok (.iconst 1, 1) := by decide +kernel
theorem dc_227_2 : decode (sm_cc 227) 2 = .ok (.if_icmp .ne (9), 3) := by decide +kernel
theorem dc_227_11 : decode (sm_cc 227) 11 = .ok (.iload_n 1, 1) := by decide +kernel
theorem dc_227_12 : decode (sm_cc 227) 12 = .ok (.iconst 3, 1) := by decide +kernel
theorem dc_227_13 : decode (sm_cc 227) 13 = .ok (.if_icmp .ne (23), 3) := by decide +kernel
theorem dc_227_36 : decode (sm_cc 227) 36 = .ok (.iload_n 2, 1) := by decide +kernel
theorem dc_227_37 : decode (sm_cc 227) 37 = .ok (.iload_n 1, 1) := by decide +kernel
theorem dc_227_38 : decode (sm_cc 227) 38 = .ok (.iconst 4, 1) := by decide +kernel
theorem dc_227_39 : decode (sm_cc 227) 39 = .ok (.if_icmp .ne (7), 3) := by decide +kernel
theorem dc_227_46 : decode (sm_cc 227) 46 = .ok (.iload_n 1, 1) := by decide +kernel
theorem dc_227_47 : decode (sm_cc 227) 47 = .ok (.bipush (9), 2) := by decide +kernel
theorem dc_227_49 : decode (sm_cc 227) 49 = .ok (.if_icmp .lt (7), 3) := by decide +kernel
theorem dc_227_56 : decode (sm_cc 227) 56 = .ok (.iconst 1, 1) := by decide +kernel
theorem dc_227_57 : decode (sm_cc 227) 57 = .ok (.if_icmp .eq (5), 3) := by decide +kernel
theorem dc_227_62 : decode (sm_cc 227) 62 = .ok (.iload_n 1, 1) := by decide +kernel
theorem dc_227_63 : decode (sm_cc 227) 63 = .ok (.tableswitch (119) 2 10 #[49, 119, 54, 59, 64, 69, 74, 79, 99], 49) := by decide +kernel
theorem dc_227_182 : decode (sm_cc 227) 182 = .ok (.iconst 2, 1) := by decide +kernel
theorem dc_227_183 : decode (sm_cc 227) 183 = .ok (.ireturn, 1) := by decide +kernel
theorem rt_227 : sm_rt 227 = some .int := by decide +kernel
theorem dc_227_60 : decode (sm_cc 227) 60 = .ok (.iconst 2, 1) := by decide +kernel
theorem dc_227_61 : decode (sm_cc 227) 61 = .ok (.ireturn, 1) := by decide +kernel
theorem dc_227_5 : decode (sm_cc 227) 5 = .ok (.aload_n 0, 1) := by decide +kernel
theorem dc_227_6 : decode (sm_cc 227) 6 = .ok (.iload_n 2, 1) := by decide +kernel
theorem dc_227_7 : decode (sm_cc 227) 7 = .ok (.invokevirtual 38, 3) := by decide +kernel
theorem ow_228 : 0 = sm_ow 228 := by decide +kernel
theorem kr_227_38 : sm_at mt_k (sm_ow 227) 38 = some (38, 0, 228, 0, 1802) := by decide +kernel
theorem np_228 : sm_np 228 = 1 := by decide +kernel
theorem dc_227_10 : decode (sm_cc 227) 10 = .ok (.ireturn, 1) := by decide +kernel
theorem dc_227_112 : decode (sm_cc 227) 112 = .ok (.aload_n 0, 1) := by decide +kernel
theorem dc_227_113 : decode (sm_cc 227) 113 = .ok (.invokevirtual 45, 3) := by decide +kernel
theorem ow_244 : 0 = sm_ow 244 := by decide +kernel
theorem kr_227_45 : sm_at mt_k (sm_ow 227) 45 = some (45, 0, 244, 0, 1897) := by decide +kernel
theorem np_244 : sm_np 244 = 0 := by decide +kernel
theorem dc_227_116 : decode (sm_cc 227) 116 = .ok (.ireturn, 1) := by decide +kernel
theorem dc_227_16 : decode (sm_cc 227) 16 = .ok (.iload_n 2, 1) := by decide +kernel
theorem dc_227_17 : decode (sm_cc 227) 17 = .ok (.iconst 1, 1) := by decide +kernel
theorem dc_227_18 : decode (sm_cc 227) 18 = .ok (.if_icmp .eq (8), 3) := by decide +kernel
theorem dc_227_26 : decode (sm_cc 227) 26 = .ok (.aload_n 0, 1) := by decide +kernel
theorem dc_227_27 : decode (sm_cc 227) 27 = .ok (.iload_n 2, 1) := by decide +kernel
theorem dc_227_28 : decode (sm_cc 227) 28 = .ok (.invokevirtual 42, 3) := by decide +kernel
theorem ow_243 : 0 = sm_ow 243 := by decide +kernel
theorem kr_227_42 : sm_at mt_k (sm_ow 227) 42 = some (42, 0, 243, 0, 1888) := by decide +kernel
theorem np_243 : sm_np 243 = 1 := by decide +kernel
theorem dc_227_31 : decode (sm_cc 227) 31 = .ok (.goto (4), 3) := by decide +kernel
theorem dc_227_35 : decode (sm_cc 227) 35 = .ok (.ireturn, 1) := by decide +kernel
theorem dc_227_21 : decode (sm_cc 227) 21 = .ok (.iload_n 2, 1) := by decide +kernel
theorem dc_227_22 : decode (sm_cc 227) 22 = .ok (.iconst 2, 1) := by decide +kernel
theorem dc_227_23 : decode (sm_cc 227) 23 = .ok (.if_icmp .ne (11), 3) := by decide +kernel
theorem dc_227_34 : decode (sm_cc 227) 34 = .ok (.iconst 2, 1) := by decide +kernel
theorem dc_227_42 : decode (sm_cc 227) 42 = .ok (.iconst 2, 1) := by decide +kernel
theorem dc_227_43 : decode (sm_cc 227) 43 = .ok (.goto (14), 3) := by decide +kernel
theorem dc_227_117 : decode (sm_cc 227) 117 = .ok (.aload_n 0, 1) := by decide +kernel
theorem dc_227_118 : decode (sm_cc 227) 118 = .ok (.invokevirtual 49, 3) := by decide +kernel
theorem ow_245 : 0 = sm_ow 245 := by decide +kernel
theorem kr_227_49 : sm_at mt_k (sm_ow 227) 49 = some (49, 0, 245, 0, 1901) := by decide +kernel
theorem np_245 : sm_np 245 = 0 := by decide +kernel
theorem dc_227_121 : decode (sm_cc 227) 121 = .ok (.ireturn, 1) := by decide +kernel
theorem dc_227_122 : decode (sm_cc 227) 122 = .ok (.aload_n 0, 1) := by decide +kernel
theorem dc_227_123 : decode (sm_cc 227) 123 = .ok (.invokevirtual 52, 3) := by decide +kernel
theorem ow_246 : 0 = sm_ow 246 := by decide +kernel
theorem kr_227_52 : sm_at mt_k (sm_ow 227) 52 = some (52, 0, 246, 0, 1906) := by decide +kernel
theorem np_246 : sm_np 246 = 0 := by decide +kernel
theorem dc_227_126 : decode (sm_cc 227) 126 = .ok (.ireturn, 1) := by decide +kernel
theorem dc_227_127 : decode (sm_cc 227) 127 = .ok (.aload_n 0, 1) := by decide +kernel
theorem dc_227_128 : decode (sm_cc 227) 128 = .ok (.invokevirtual 55, 3) := by decide +kernel
theorem ow_247 : 0 = sm_ow 247 := by decide +kernel
theorem kr_227_55 : sm_at mt_k (sm_ow 227) 55 = some (55, 0, 247, 0, 1912) := by decide +kernel
theorem np_247 : sm_np 247 = 0 := by decide +kernel
theorem dc_227_131 : decode (sm_cc 227) 131 = .ok (.ireturn, 1) := by decide +kernel
theorem dc_227_132 : decode (sm_cc 227) 132 = .ok (.aload_n 0, 1) := by decide +kernel
theorem dc_227_133 : decode (sm_cc 227) 133 = .ok (.invokevirtual 58, 3) := by decide +kernel
theorem ow_248 : 0 = sm_ow 248 := by decide +kernel
theorem kr_227_58 : sm_at mt_k (sm_ow 227) 58 = some (58, 0, 248, 0, 1916) := by decide +kernel
theorem np_248 : sm_np 248 = 0 := by decide +kernel
theorem dc_227_136 : decode (sm_cc 227) 136 = .ok (.ireturn, 1) := by decide +kernel
theorem dc_227_137 : decode (sm_cc 227) 137 = .ok (.aload_n 0, 1) := by decide +kernel
theorem dc_227_138 : decode (sm_cc 227) 138 = .ok (.invokevirtual 61, 3) := by decide +kernel
theorem ow_249 : 0 = sm_ow 249 := by decide +kernel
theorem kr_227_61 : sm_at mt_k (sm_ow 227) 61 = some (61, 0, 249, 0, 1923) := by decide +kernel
theorem np_249 : sm_np 249 = 0 := by decide +kernel
theorem dc_227_141 : decode (sm_cc 227) 141 = .ok (.ireturn, 1) := by decide +kernel
theorem dc_227_52 : decode (sm_cc 227) 52 = .ok (.iconst 0, 1) := by decide +kernel
theorem dc_227_53 : decode (sm_cc 227) 53 = .ok (.goto (4), 3) := by decide +kernel
theorem dc_227_142 : decode (sm_cc 227) 142 = .ok (.aload_n 0, 1) := by decide +kernel
theorem dc_227_143 : decode (sm_cc 227) 143 = .ok (.getfield 15, 3) := by decide +kernel
theorem fr_227_15 : sm_at mt_f (sm_ow 227) 15 = some (15, 0, 1, 0, 790) := by decide +kernel
theorem dc_227_146 : decode (sm_cc 227) 146 = .ok (.iconst 1, 1) := by decide +kernel
theorem dc_227_147 : decode (sm_cc 227) 147 = .ok (.ldc2_w 64, 3) := by decide +kernel
theorem cj_227_64 : sm_at mt_cj (sm_ow 227) 64 = some (64, (2305843009213693952), 1894) := by decide +kernel
theorem dc_227_150 : decode (sm_cc 227) 150 = .ok (.aload_n 0, 1) := by decide +kernel
theorem dc_227_151 : decode (sm_cc 227) 151 = .ok (.getfield 9, 3) := by decide +kernel
theorem fr_227_9 : sm_at mt_f (sm_ow 227) 9 = some (9, 0, 0, 0, 789) := by decide +kernel
theorem dc_227_154 : decode (sm_cc 227) 154 = .ok (.invokevirtual 66, 3) := by decide +kernel
theorem kr_227_66 : sm_at mt_k (sm_ow 227) 66 = some (66, 1, 251, 1, 1931) := by decide +kernel
theorem dc_227_157 : decode (sm_cc 227) 157 = .ok (.i2l, 1) := by decide +kernel
theorem dc_227_158 : decode (sm_cc 227) 158 = .ok (.invokevirtual 71, 3) := by decide +kernel
theorem kr_227_71 : sm_at mt_k (sm_ow 227) 71 = some (71, 1, 148, 1, 1887) := by decide +kernel
theorem dc_227_161 : decode (sm_cc 227) 161 = .ok (.ireturn, 1) := by decide +kernel
theorem dc_227_162 : decode (sm_cc 227) 162 = .ok (.aload_n 0, 1) := by decide +kernel
theorem dc_227_163 : decode (sm_cc 227) 163 = .ok (.getfield 15, 3) := by decide +kernel
theorem dc_227_166 : decode (sm_cc 227) 166 = .ok (.iconst 1, 1) := by decide +kernel
theorem dc_227_167 : decode (sm_cc 227) 167 = .ok (.ldc2_w 64, 3) := by decide +kernel
theorem dc_227_170 : decode (sm_cc 227) 170 = .ok (.aload_n 0, 1) := by decide +kernel
theorem dc_227_171 : decode (sm_cc 227) 171 = .ok (.getfield 9, 3) := by decide +kernel
theorem dc_227_174 : decode (sm_cc 227) 174 = .ok (.invokevirtual 77, 3) := by decide +kernel
theorem ow_252 : 2 = sm_ow 252 := by decide +kernel
theorem kr_227_77 : sm_at mt_k (sm_ow 227) 77 = some (77, 1, 252, 1, 1935) := by decide +kernel
theorem np_252 : sm_np 252 = 0 := by decide +kernel
theorem dc_227_177 : decode (sm_cc 227) 177 = .ok (.i2l, 1) := by decide +kernel
theorem dc_227_178 : decode (sm_cc 227) 178 = .ok (.invokevirtual 71, 3) := by decide +kernel
theorem dc_227_181 : decode (sm_cc 227) 181 = .ok (.ireturn, 1) := by decide +kernel
theorem ml_244 : sm_ml 244 = 2 := by decide +kernel
theorem dc_244_0 : decode (sm_cc 244) 0 = .ok (.aload_n 0, 1) := by decide +kernel
theorem dc_244_1 : decode (sm_cc 244) 1 = .ok (.getfield 15, 3) := by decide +kernel
theorem fr_244_15 : sm_at mt_f (sm_ow 244) 15 = some (15, 0, 1, 0, 790) := by decide +kernel
theorem dc_244_4 : decode (sm_cc 244) 4 = .ok (.iconst 0, 1) := by decide +kernel
theorem dc_244_5 : decode (sm_cc 244) 5 = .ok (.invokevirtual 80, 3) := by decide +kernel
theorem kr_244_80 : sm_at mt_k (sm_ow 244) 80 = some (80, 1, 132, 1, 1869) := by decide +kernel
theorem dc_244_8 : decode (sm_cc 244) 8 = .ok (.invokestatic 84, 3) := by decide +kernel
theorem kr_244_84 : sm_at mt_k (sm_ow 244) 84 = some (84, 3, 134, 1, 1836) := by decide +kernel
theorem dc_244_11 : decode (sm_cc 244) 11 = .ok (.iconst 3, 1) := by decide +kernel
theorem dc_244_12 : decode (sm_cc 244) 12 = .ok (.if_icmp .ne (27), 3) := by decide +kernel
theorem dc_244_15 : decode (sm_cc 244) 15 = .ok (.aload_n 0, 1) := by decide +kernel
theorem dc_244_16 : decode (sm_cc 244) 16 = .ok (.getfield 15, 3) := by decide +kernel
theorem dc_244_19 : decode (sm_cc 244) 19 = .ok (.iconst 2, 1) := by decide +kernel
theorem dc_244_20 : decode (sm_cc 244) 20 = .ok (.ldc2_w 64, 3) := by decide +kernel
theorem cj_244_64 : sm_at mt_cj (sm_ow 244) 64 = some (64, (2305843009213693952), 1894) := by decide +kernel
theorem dc_244_23 : decode (sm_cc 244) 23 = .ok (.aload_n 0, 1) := by decide +kernel
theorem dc_244_24 : decode (sm_cc 244) 24 = .ok (.getfield 15, 3) := by decide +kernel
theorem dc_244_27 : decode (sm_cc 244) 27 = .ok (.iconst 0, 1) := by decide +kernel
theorem dc_244_28 : decode (sm_cc 244) 28 = .ok (.invokevirtual 80, 3) := by decide +kernel
theorem dc_244_31 : decode (sm_cc 244) 31 = .ok (.invokestatic 88, 3) := by decide +kernel
theorem kr_244_88 : sm_at mt_k (sm_ow 244) 88 = some (88, 3, 47, 1, 1853) := by decide +kernel
theorem dc_244_34 : decode (sm_cc 244) 34 = .ok (.i2l, 1) := by decide +kernel
theorem dc_244_35 : decode (sm_cc 244) 35 = .ok (.invokevirtual 71, 3) := by decide +kernel
theorem kr_244_71 : sm_at mt_k (sm_ow 244) 71 = some (71, 1, 148, 1, 1887) := by decide +kernel
theorem dc_244_38 : decode (sm_cc 244) 38 = .ok (.ireturn, 1) := by decide +kernel
theorem rt_244 : sm_rt 244 = some .int := by decide +kernel
theorem dc_244_39 : decode (sm_cc 244) 39 = .ok (.aload_n 0, 1) := by decide +kernel
theorem dc_244_40 : decode (sm_cc 244) 40 = .ok (.getfield 15, 3) := by decide +kernel
theorem dc_244_43 : decode (sm_cc 244) 43 = .ok (.iconst 0, 1) := by decide +kernel
theorem dc_244_44 : decode (sm_cc 244) 44 = .ok (.invokevirtual 91, 3) := by decide +kernel
theorem kr_244_91 : sm_at mt_k (sm_ow 244) 91 = some (91, 1, 136, 1, 1806) := by decide +kernel
theorem dc_244_47 : decode (sm_cc 244) 47 = .ok (.istore_n 1, 1) := by decide +kernel
theorem dc_244_48 : decode (sm_cc 244) 48 = .ok (.aload_n 0, 1) := by decide +kernel
theorem dc_244_49 : decode (sm_cc 244) 49 = .ok (.getfield 9, 3) := by decide +kernel
theorem fr_244_9 : sm_at mt_f (sm_ow 244) 9 = some (9, 0, 0, 0, 789) := by decide +kernel
theorem dc_244_52 : decode (sm_cc 244) 52 = .ok (.iload_n 1, 1) := by decide +kernel
theorem dc_244_53 : decode (sm_cc 244) 53 = .ok (.invokevirtual 94, 3) := by decide +kernel
theorem kr_244_94 : sm_at mt_k (sm_ow 244) 94 = some (94, 1, 138, 1, 1807) := by decide +kernel
theorem dc_244_56 : decode (sm_cc 244) 56 = .ok (.iconst 1, 1) := by decide +kernel
theorem dc_244_57 : decode (sm_cc 244) 57 = .ok (.if_icmp .eq (17), 3) := by decide +kernel
theorem dc_244_74 : decode (sm_cc 244) 74 = .ok (.aload_n 0, 1) := by decide +kernel
theorem dc_244_75 : decode (sm_cc 244) 75 = .ok (.getfield 15, 3) := by decide +kernel
theorem dc_244_78 : decode (sm_cc 244) 78 = .ok (.iconst 2, 1) := by decide +kernel
theorem dc_244_79 : decode (sm_cc 244) 79 = .ok (.ldc2_w 64, 3) := by decide +kernel
theorem dc_244_82 : decode (sm_cc 244) 82 = .ok (.aload_n 0, 1) := by decide +kernel
theorem dc_244_83 : decode (sm_cc 244) 83 = .ok (.getfield 9, 3) := by decide +kernel
theorem dc_244_86 : decode (sm_cc 244) 86 = .ok (.iload_n 1, 1) := by decide +kernel
theorem dc_244_87 : decode (sm_cc 244) 87 = .ok (.invokevirtual 97, 3) := by decide +kernel
theorem kr_244_97 : sm_at mt_k (sm_ow 244) 97 = some (97, 1, 140, 1, 1812) := by decide +kernel
theorem dc_244_90 : decode (sm_cc 244) 90 = .ok (.i2l, 1) := by decide +kernel
theorem dc_244_91 : decode (sm_cc 244) 91 = .ok (.invokevirtual 71, 3) := by decide +kernel
theorem dc_244_94 : decode (sm_cc 244) 94 = .ok (.ireturn, 1) := by decide +kernel
theorem dc_244_60 : decode (sm_cc 244) 60 = .ok (.aload_n 0, 1) := by decide +kernel
theorem dc_244_61 : decode (sm_cc 244) 61 = .ok (.getfield 9, 3) := by decide +kernel
theorem dc_244_64 : decode (sm_cc 244) 64 = .ok (.iload_n 1, 1) := by decide +kernel
theorem dc_244_65 : decode (sm_cc 244) 65 = .ok (.invokevirtual 94, 3) := by decide +kernel
theorem dc_244_68 : decode (sm_cc 244) 68 = .ok (.iconst 2, 1) := by decide +kernel
theorem dc_244_69 : decode (sm_cc 244) 69 = .ok (.if_icmp .eq (5), 3) := by decide +kernel
theorem dc_244_72 : decode (sm_cc 244) 72 = .ok (.iconst 2, 1) := by decide +kernel
theorem dc_244_73 : decode (sm_cc 244) 73 = .ok (.ireturn, 1) := by decide +kernel
theorem ml_245 : sm_ml 245 = 2 := by decide +kernel
theorem dc_245_0 : decode (sm_cc 245) 0 = .ok (.aload_n 0, 1) := by decide +kernel
theorem dc_245_1 : decode (sm_cc 245) 1 = .ok (.getfield 15, 3) := by decide +kernel
theorem fr_245_15 : sm_at mt_f (sm_ow 245) 15 = some (15, 0, 1, 0, 790) := by decide +kernel
theorem dc_245_4 : decode (sm_cc 245) 4 = .ok (.iconst 1, 1) := by decide +kernel
theorem dc_245_5 : decode (sm_cc 245) 5 = .ok (.iconst 1, 1) := by decide +kernel
theorem dc_245_6 : decode (sm_cc 245) 6 = .ok (.invokevirtual 114, 3) := by decide +kernel
theorem kr_245_114 : sm_at mt_k (sm_ow 245) 114 = some (114, 1, 152, 1, 1905) := by decide +kernel
theorem dc_245_9 : decode (sm_cc 245) 9 = .ok (.istore_n 1, 1) := by decide +kernel
theorem dc_245_10 : decode (sm_cc 245) 10 = .ok (.iload_n 1, 1) := by decide +kernel
theorem dc_245_11 : decode (sm_cc 245) 11 = .ok (.ifCond .ne (5), 3) := by decide +kernel
theorem dc_245_16 : decode (sm_cc 245) 16 = .ok (.aload_n 0, 1) := by decide +kernel
theorem dc_245_17 : decode (sm_cc 245) 17 = .ok (.getfield 9, 3) := by decide +kernel
theorem fr_245_9 : sm_at mt_f (sm_ow 245) 9 = some (9, 0, 0, 0, 789) := by decide +kernel
theorem dc_245_20 : decode (sm_cc 245) 20 = .ok (.iload_n 1, 1) := by decide +kernel
theorem dc_245_21 : decode (sm_cc 245) 21 = .ok (.lconst 0, 1) := by decide +kernel
theorem dc_245_22 : decode (sm_cc 245) 22 = .ok (.lconst 0, 1) := by decide +kernel
theorem dc_245_23 : decode (sm_cc 245) 23 = .ok (.aload_n 0, 1) := by decide +kernel
theorem dc_245_24 : decode (sm_cc 245) 24 = .ok (.getfield 15, 3) := by decide +kernel
theorem dc_245_27 : decode (sm_cc 245) 27 = .ok (.iconst 0, 1) := by decide +kernel
theorem dc_245_28 : decode (sm_cc 245) 28 = .ok (.invokevirtual 80, 3) := by decide +kernel
theorem kr_245_80 : sm_at mt_k (sm_ow 245) 80 = some (80, 1, 132, 1, 1869) := by decide +kernel
theorem dc_245_31 : decode (sm_cc 245) 31 = .ok (.aload_n 0, 1) := by decide +kernel
theorem dc_245_32 : decode (sm_cc 245) 32 = .ok (.getfield 15, 3) := by decide +kernel
theorem dc_245_35 : decode (sm_cc 245) 35 = .ok (.iconst 0, 1) := by decide +kernel
theorem dc_245_36 : decode (sm_cc 245) 36 = .ok (.invokevirtual 100, 3) := by decide +kernel
theorem kr_245_100 : sm_at mt_k (sm_ow 245) 100 = some (100, 1, 135, 1, 1870) := by decide +kernel
theorem dc_245_39 : decode (sm_cc 245) 39 = .ok (.invokevirtual 108, 3) := by decide +kernel
theorem kr_245_108 : sm_at mt_k (sm_ow 245) 108 = some (108, 1, 183, 1, 1895) := by decide +kernel
theorem dc_245_42 : decode (sm_cc 245) 42 = .ok (.ifCond .ne (6), 3) := by decide +kernel
theorem dc_245_48 : decode (sm_cc 245) 48 = .ok (.aload_n 0, 1) := by decide +kernel
theorem dc_245_49 : decode (sm_cc 245) 49 = .ok (.getfield 15, 3) := by decide +kernel
theorem dc_245_52 : decode (sm_cc 245) 52 = .ok (.iconst 3, 1) := by decide +kernel
theorem dc_245_53 : decode (sm_cc 245) 53 = .ok (.ldc2_w 117, 3) := by decide +kernel
theorem cj_245_117 : sm_at mt_cj (sm_ow 245) 117 = some (117, (1152921504606846976), 1886) := by decide +kernel
theorem dc_245_56 : decode (sm_cc 245) 56 = .ok (.lconst 0, 1) := by decide +kernel
theorem dc_245_57 : decode (sm_cc 245) 57 = .ok (.invokevirtual 71, 3) := by decide +kernel
theorem kr_245_71 : sm_at mt_k (sm_ow 245) 71 = some (71, 1, 148, 1, 1887) := by decide +kernel
theorem dc_245_60 : decode (sm_cc 245) 60 = .ok (.ireturn, 1) := by decide +kernel
theorem rt_245 : sm_rt 245 = some .int := by decide +kernel
theorem dc_245_45 : decode (sm_cc 245) 45 = .ok (.bipush (8), 2) := by decide +kernel
theorem dc_245_47 : decode (sm_cc 245) 47 = .ok (.ireturn, 1) := by decide +kernel
theorem dc_245_14 : decode (sm_cc 245) 14 = .ok (.iconst 2, 1) := by decide +kernel
theorem dc_245_15 : decode (sm_cc 245) 15 = .ok (.ireturn, 1) := by decide +kernel
theorem ml_246 : sm_ml 246 = 3 := by decide +kernel
theorem dc_246_0 : decode (sm_cc 246) 0 = .ok (.aload_n 0, 1) := by decide +kernel
theorem dc_246_1 : decode (sm_cc 246) 1 = .ok (.getfield 15, 3) := by decide +kernel
theorem fr_246_15 : sm_at mt_f (sm_ow 246) 15 = some (15, 0, 1, 0, 790) := by decide +kernel
theorem dc_246_4 : decode (sm_cc 246) 4 = .ok (.iconst 0, 1) := by decide +kernel
theorem dc_246_5 : decode (sm_cc 246) 5 = .ok (.iconst 1, 1) := by decide +kernel
theorem dc_246_6 : decode (sm_cc 246) 6 = .ok (.invokevirtual 114, 3) := by decide +kernel
theorem kr_246_114 : sm_at mt_k (sm_ow 246) 114 = some (114, 1, 152, 1, 1905) := by decide +kernel
theorem dc_246_9 : decode (sm_cc 246) 9 = .ok (.istore_n 1, 1) := by decide +kernel
theorem dc_246_10 : decode (sm_cc 246) 10 = .ok (.iload_n 1, 1) := by decide +kernel
theorem dc_246_11 : decode (sm_cc 246) 11 = .ok (.ifCond .ne (5), 3) := by decide +kernel
theorem dc_246_16 : decode (sm_cc 246) 16 = .ok (.aload_n 0, 1) := by decide +kernel
theorem dc_246_17 : decode (sm_cc 246) 17 = .ok (.getfield 9, 3) := by decide +kernel
theorem fr_246_9 : sm_at mt_f (sm_ow 246) 9 = some (9, 0, 0, 0, 789) := by decide +kernel
theorem dc_246_20 : decode (sm_cc 246) 20 = .ok (.iload_n 1, 1) := by decide +kernel
theorem dc_246_21 : decode (sm_cc 246) 21 = .ok (.invokevirtual 97, 3) := by decide +kernel
theorem kr_246_97 : sm_at mt_k (sm_ow 246) 97 = some (97, 1, 140, 1, 1812) := by decide +kernel
theorem dc_246_24 : decode (sm_cc 246) 24 = .ok (.iconst 1, 1) := by decide +kernel
theorem dc_246_25 : decode (sm_cc 246) 25 = .ok (.isub, 1) := by decide +kernel
theorem dc_246_26 : decode (sm_cc 246) 26 = .ok (.istore_n 2, 1) := by decide +kernel
theorem dc_246_27 : decode (sm_cc 246) 27 = .ok (.iload_n 2, 1) := by decide +kernel
theorem dc_246_28 : decode (sm_cc 246) 28 = .ok (.ifCond .ge (5), 3) := by decide +kernel
theorem dc_246_33 : decode (sm_cc 246) 33 = .ok (.aload_n 0, 1) := by decide +kernel
theorem dc_246_34 : decode (sm_cc 246) 34 = .ok (.getfield 15, 3) := by decide +kernel
theorem dc_246_37 : decode (sm_cc 246) 37 = .ok (.aload_n 0, 1) := by decide +kernel
theorem dc_246_38 : decode (sm_cc 246) 38 = .ok (.getfield 9, 3) := by decide +kernel
theorem dc_246_41 : decode (sm_cc 246) 41 = .ok (.iload_n 1, 1) := by decide +kernel
theorem dc_246_42 : decode (sm_cc 246) 42 = .ok (.iload_n 2, 1) := by decide +kernel
theorem dc_246_43 : decode (sm_cc 246) 43 = .ok (.invokevirtual 119, 3) := by decide +kernel
theorem kr_246_119 : sm_at mt_k (sm_ow 246) 119 = some (119, 1, 156, 1, 1867) := by decide +kernel
theorem dc_246_46 : decode (sm_cc 246) 46 = .ok (.aload_n 0, 1) := by decide +kernel
theorem dc_246_47 : decode (sm_cc 246) 47 = .ok (.getfield 9, 3) := by decide +kernel
theorem dc_246_50 : decode (sm_cc 246) 50 = .ok (.iload_n 1, 1) := by decide +kernel
theorem dc_246_51 : decode (sm_cc 246) 51 = .ok (.iload_n 2, 1) := by decide +kernel
theorem dc_246_52 : decode (sm_cc 246) 52 = .ok (.invokevirtual 123, 3) := by decide +kernel
theorem kr_246_123 : sm_at mt_k (sm_ow 246) 123 = some (123, 1, 158, 1, 1868) := by decide +kernel
theorem dc_246_55 : decode (sm_cc 246) 55 = .ok (.invokevirtual 126, 3) := by decide +kernel
theorem kr_246_126 : sm_at mt_k (sm_ow 246) 126 = some (126, 1, 153, 1, 1910) := by decide +kernel
theorem dc_246_58 : decode (sm_cc 246) 58 = .ok (.aload_n 0, 1) := by decide +kernel
theorem dc_246_59 : decode (sm_cc 246) 59 = .ok (.getfield 9, 3) := by decide +kernel
theorem dc_246_62 : decode (sm_cc 246) 62 = .ok (.iload_n 1, 1) := by decide +kernel
theorem dc_246_63 : decode (sm_cc 246) 63 = .ok (.iload_n 2, 1) := by decide +kernel
theorem dc_246_64 : decode (sm_cc 246) 64 = .ok (.invokevirtual 129, 3) := by decide +kernel
theorem kr_246_129 : sm_at mt_k (sm_ow 246) 129 = some (129, 1, 213, 1, 1911) := by decide +kernel
theorem dc_246_67 : decode (sm_cc 246) 67 = .ok (.aload_n 0, 1) := by decide +kernel
theorem dc_246_68 : decode (sm_cc 246) 68 = .ok (.getfield 15, 3) := by decide +kernel
theorem dc_246_71 : decode (sm_cc 246) 71 = .ok (.iconst 3, 1) := by decide +kernel
theorem dc_246_72 : decode (sm_cc 246) 72 = .ok (.aload_n 0, 1) := by decide +kernel
theorem dc_246_73 : decode (sm_cc 246) 73 = .ok (.getfield 15, 3) := by decide +kernel
theorem dc_246_76 : decode (sm_cc 246) 76 = .ok (.iconst 0, 1) := by decide +kernel
theorem dc_246_77 : decode (sm_cc 246) 77 = .ok (.invokevirtual 80, 3) := by decide +kernel
theorem kr_246_80 : sm_at mt_k (sm_ow 246) 80 = some (80, 1, 132, 1, 1869) := by decide +kernel
theorem dc_246_80 : decode (sm_cc 246) 80 = .ok (.aload_n 0, 1) := by decide +kernel
theorem dc_246_81 : decode (sm_cc 246) 81 = .ok (.getfield 15, 3) := by decide +kernel
theorem dc_246_84 : decode (sm_cc 246) 84 = .ok (.iconst 0, 1) := by decide +kernel
theorem dc_246_85 : decode (sm_cc 246) 85 = .ok (.invokevirtual 100, 3) := by decide +kernel
theorem kr_246_100 : sm_at mt_k (sm_ow 246) 100 = some (100, 1, 135, 1, 1870) := by decide +kernel
theorem dc_246_88 : decode (sm_cc 246) 88 = .ok (.invokevirtual 71, 3) := by decide +kernel
theorem kr_246_71 : sm_at mt_k (sm_ow 246) 71 = some (71, 1, 148, 1, 1887) := by decide +kernel
theorem dc_246_91 : decode (sm_cc 246) 91 = .ok (.ireturn, 1) := by decide +kernel
theorem rt_246 : sm_rt 246 = some .int := by decide +kernel
theorem dc_246_14 : decode (sm_cc 246) 14 = .ok (.iconst 2, 1) := by decide +kernel
theorem dc_246_15 : decode (sm_cc 246) 15 = .ok (.ireturn, 1) := by decide +kernel
theorem ml_249 : sm_ml 249 = 2 := by decide +kernel
theorem dc_249_0 : decode (sm_cc 249) 0 = .ok (.aload_n 0, 1) := by decide +kernel
theorem dc_249_1 : decode (sm_cc 249) 1 = .ok (.getfield 15, 3) := by decide +kernel
theorem fr_249_15 : sm_at mt_f (sm_ow 249) 15 = some (15, 0, 1, 0, 790) := by decide +kernel
theorem dc_249_4 : decode (sm_cc 249) 4 = .ok (.iconst 0, 1) := by decide +kernel
theorem dc_249_5 : decode (sm_cc 249) 5 = .ok (.invokevirtual 91, 3) := by decide +kernel
theorem kr_249_91 : sm_at mt_k (sm_ow 249) 91 = some (91, 1, 136, 1, 1806) := by decide +kernel
theorem dc_249_8 : decode (sm_cc 249) 8 = .ok (.istore_n 1, 1) := by decide +kernel
theorem dc_249_9 : decode (sm_cc 249) 9 = .ok (.iload_n 1, 1) := by decide +kernel
theorem dc_249_10 : decode (sm_cc 249) 10 = .ok (.ifCond .ne (7), 3) := by decide +kernel
theorem dc_249_17 : decode (sm_cc 249) 17 = .ok (.aload_n 0, 1) := by decide +kernel
theorem dc_249_18 : decode (sm_cc 249) 18 = .ok (.getfield 15, 3) := by decide +kernel
theorem dc_249_21 : decode (sm_cc 249) 21 = .ok (.iconst 2, 1) := by decide +kernel
theorem dc_249_22 : decode (sm_cc 249) 22 = .ok (.ldc2_w 64, 3) := by decide +kernel
theorem cj_249_64 : sm_at mt_cj (sm_ow 249) 64 = some (64, (2305843009213693952), 1894) := by decide +kernel
theorem dc_249_25 : decode (sm_cc 249) 25 = .ok (.aload_n 0, 1) := by decide +kernel
theorem dc_249_26 : decode (sm_cc 249) 26 = .ok (.getfield 9, 3) := by decide +kernel
theorem fr_249_9 : sm_at mt_f (sm_ow 249) 9 = some (9, 0, 0, 0, 789) := by decide +kernel
theorem dc_249_29 : decode (sm_cc 249) 29 = .ok (.iload_n 1, 1) := by decide +kernel
theorem dc_249_30 : decode (sm_cc 249) 30 = .ok (.invokevirtual 152, 3) := by decide +kernel
theorem ow_250 : 2 = sm_ow 250 := by decide +kernel
theorem kr_249_152 : sm_at mt_k (sm_ow 249) 152 = some (152, 1, 250, 1, 1927) := by decide +kernel
theorem np_250 : sm_np 250 = 1 := by decide +kernel
theorem dc_249_33 : decode (sm_cc 249) 33 = .ok (.i2l, 1) := by decide +kernel
theorem dc_249_34 : decode (sm_cc 249) 34 = .ok (.invokevirtual 71, 3) := by decide +kernel
theorem kr_249_71 : sm_at mt_k (sm_ow 249) 71 = some (71, 1, 148, 1, 1887) := by decide +kernel
theorem dc_249_37 : decode (sm_cc 249) 37 = .ok (.ireturn, 1) := by decide +kernel
theorem rt_249 : sm_rt 249 = some .int := by decide +kernel
theorem dc_249_13 : decode (sm_cc 249) 13 = .ok (.iconst 2, 1) := by decide +kernel
theorem dc_249_14 : decode (sm_cc 249) 14 = .ok (.goto (23), 3) := by decide +kernel
theorem ml_230 : sm_ml 230 = 2 := by decide +kernel
theorem dc_230_0 : decode (sm_cc 230) 0 = .ok (.aload_n 0, 1) := by decide +kernel
theorem dc_230_1 : decode (sm_cc 230) 1 = .ok (.getfield 155, 3) := by decide +kernel
theorem fr_230_155 : sm_at mt_f (sm_ow 230) 155 = some (155, 0, 7, 0, 796) := by decide +kernel
theorem dc_230_4 : decode (sm_cc 230) 4 = .ok (.ifCond .lt (24), 3) := by decide +kernel
theorem dc_230_7 : decode (sm_cc 230) 7 = .ok (.aload_n 0, 1) := by decide +kernel
theorem dc_230_8 : decode (sm_cc 230) 8 = .ok (.getfield 155, 3) := by decide +kernel
theorem dc_230_11 : decode (sm_cc 230) 11 = .ok (.sipush (4000), 3) := by decide +kernel
theorem dc_230_14 : decode (sm_cc 230) 14 = .ok (.if_icmp .ge (14), 3) := by decide +kernel
theorem dc_230_28 : decode (sm_cc 230) 28 = .ok (.aload_n 0, 1) := by decide +kernel
theorem dc_230_29 : decode (sm_cc 230) 29 = .ok (.dup, 1) := by decide +kernel
theorem dc_230_30 : decode (sm_cc 230) 30 = .ok (.getfield 155, 3) := by decide +kernel
theorem dc_230_33 : decode (sm_cc 230) 33 = .ok (.iconst 1, 1) := by decide +kernel
theorem dc_230_34 : decode (sm_cc 230) 34 = .ok (.iadd, 1) := by decide +kernel
theorem dc_230_35 : decode (sm_cc 230) 35 = .ok (.putfield 155, 3) := by decide +kernel
theorem dc_230_38 : decode (sm_cc 230) 38 = .ok (.return_, 1) := by decide +kernel
theorem rt_230 : sm_rt 230 = none := by decide +kernel
theorem dc_230_17 : decode (sm_cc 230) 17 = .ok (.aload_n 0, 1) := by decide +kernel
theorem dc_230_18 : decode (sm_cc 230) 18 = .ok (.getfield 27, 3) := by decide +kernel
theorem fr_230_27 : sm_at mt_f (sm_ow 230) 27 = some (27, 0, 4, 0, 793) := by decide +kernel
theorem dc_230_21 : decode (sm_cc 230) 21 = .ok (.aload_n 0, 1) := by decide +kernel
theorem dc_230_22 : decode (sm_cc 230) 22 = .ok (.getfield 155, 3) := by decide +kernel
theorem dc_230_25 : decode (sm_cc 230) 25 = .ok (.iload_n 1, 1) := by decide +kernel
theorem dc_230_26 : decode (sm_cc 230) 26 = .ok (.i2b, 1) := by decide +kernel
theorem dc_230_27 : decode (sm_cc 230) 27 = .ok (.bastore, 1) := by decide +kernel
theorem mBa0_1 {d : Nat} {S : cS} {gv : Nat} (mgv : gv < 2 ^ 20) (b1 : gv = 1) : Bod (d + 8) 227 0 [(0, .ref 49), (1, .int (nI 0)), (2, .int (nI gv))] [] S (some (.int (nI 2))) (S) := by
  refine Bod.go dc_227_0 rfl ?_
  refine Bod.ic 1 (by decide) dc_227_1 ?_
  refine Bod.icT dc_227_2 rfl (k2_ne_T (k_ne 0 1 rfl rfl (by omega) (by omega) (by omega))) ?_
  refine Bod.go dc_227_11 rfl ?_
  refine Bod.ic 3 (by decide) dc_227_12 ?_
  refine Bod.icT dc_227_13 rfl (k2_ne_T (k_ne 0 3 rfl rfl (by omega) (by omega) (by omega))) ?_
  refine Bod.go dc_227_36 rfl ?_
  refine Bod.go dc_227_37 rfl ?_
  refine Bod.ic 4 (by decide) dc_227_38 ?_
  refine Bod.icT dc_227_39 rfl (k2_ne_T (k_ne 0 4 rfl rfl (by omega) (by omega) (by omega))) ?_
  refine Bod.go dc_227_46 rfl ?_
  refine Bod.bip 9 (by decide) dc_227_47 ?_
  refine Bod.icT dc_227_49 rfl (k2_lt_T 0 9 rfl rfl (by omega) (by omega)) ?_
  refine Bod.ic 1 (by decide) dc_227_56 ?_
  refine Bod.icT dc_227_57 rfl (k2_eq_T (k_eq gv 1 rfl rfl (by omega))) ?_
  refine Bod.go dc_227_62 rfl ?_
  refine Bod.sw (t := 182) dc_227_63 rfl rfl (by decide +kernel) ?_
  refine Bod.ic 2 (by decide) dc_227_182 ?_
  exact Bod.retI dc_227_183 rt_227
theorem mBa0_2 {d : Nat} {S : cS} {gv : Nat} (mgv : gv < 2 ^ 20) (b1 : gv ≠ 1) : Bod (d + 8) 227 0 [(0, .ref 49), (1, .int (nI 0)), (2, .int (nI gv))] [] S (some (.int (nI 2))) (S) := by
  refine Bod.go dc_227_0 rfl ?_
  refine Bod.ic 1 (by decide) dc_227_1 ?_
  refine Bod.icT dc_227_2 rfl (k2_ne_T (k_ne 0 1 rfl rfl (by omega) (by omega) (by omega))) ?_
  refine Bod.go dc_227_11 rfl ?_
  refine Bod.ic 3 (by decide) dc_227_12 ?_
  refine Bod.icT dc_227_13 rfl (k2_ne_T (k_ne 0 3 rfl rfl (by omega) (by omega) (by omega))) ?_
  refine Bod.go dc_227_36 rfl ?_
  refine Bod.go dc_227_37 rfl ?_
  refine Bod.ic 4 (by decide) dc_227_38 ?_
  refine Bod.icT dc_227_39 rfl (k2_ne_T (k_ne 0 4 rfl rfl (by omega) (by omega) (by omega))) ?_
  refine Bod.go dc_227_46 rfl ?_
  refine Bod.bip 9 (by decide) dc_227_47 ?_
  refine Bod.icT dc_227_49 rfl (k2_lt_T 0 9 rfl rfl (by omega) (by omega)) ?_
  refine Bod.ic 1 (by decide) dc_227_56 ?_
  refine Bod.icF dc_227_57 rfl (k2_eq_F (k_ne gv 1 rfl rfl (by omega) (by omega) (by omega))) ?_
  refine Bod.ic 2 (by decide) dc_227_60 ?_
  exact Bod.retI dc_227_61 rt_227
theorem mBa1_1 {d : Nat} {S : cS} {gv : Nat} {S1 : cS} {rb : Int32} (mgv : gv < 2 ^ 20) (c1 : Ans (d + 8) 228 [.ref 49, .int (nI gv)] S (some (.int rb)) S1) : Bod (d + 8) 227 0 [(0, .ref 49), (1, .int (nI 1)), (2, .int (nI gv))] [] S (some (.int rb)) (S1) := by
  refine Bod.go dc_227_0 rfl ?_
  refine Bod.ic 1 (by decide) dc_227_1 ?_
  refine Bod.icF dc_227_2 rfl (k2_ne_F (k_eq 1 1 rfl rfl (by omega))) ?_
  refine Bod.go dc_227_5 rfl ?_
  refine Bod.go dc_227_6 rfl ?_
  refine Bod.virt (r := []) dc_227_7 kr_227_38 ⟨Or.inl rfl, ow_228, cl_0⟩ (by rw [np_228]; rfl) (by rw [np_228]; rfl) (ob_of (mk_49 _)) (Nat.le_of_ble_eq_true rfl) (c1  ) ?_
  show Bod _ _ _ _ [_] _ _ _
  exact Bod.retI dc_227_10 rt_227
theorem mBa2_1 {d : Nat} {S : cS} {gv : Nat} {S1 : cS} {rb : Int32} (mgv : gv < 2 ^ 20) (b1 : gv = 1) (c1 : Ans (d + 8) 244 [.ref 49] S (some (.int rb)) S1) : Bod (d + 8) 227 0 [(0, .ref 49), (1, .int (nI 2)), (2, .int (nI gv))] [] S (some (.int rb)) (S1) := by
  refine Bod.go dc_227_0 rfl ?_
  refine Bod.ic 1 (by decide) dc_227_1 ?_
  refine Bod.icT dc_227_2 rfl (k2_ne_T (k_ne 2 1 rfl rfl (by omega) (by omega) (by omega))) ?_
  refine Bod.go dc_227_11 rfl ?_
  refine Bod.ic 3 (by decide) dc_227_12 ?_
  refine Bod.icT dc_227_13 rfl (k2_ne_T (k_ne 2 3 rfl rfl (by omega) (by omega) (by omega))) ?_
  refine Bod.go dc_227_36 rfl ?_
  refine Bod.go dc_227_37 rfl ?_
  refine Bod.ic 4 (by decide) dc_227_38 ?_
  refine Bod.icT dc_227_39 rfl (k2_ne_T (k_ne 2 4 rfl rfl (by omega) (by omega) (by omega))) ?_
  refine Bod.go dc_227_46 rfl ?_
  refine Bod.bip 9 (by decide) dc_227_47 ?_
  refine Bod.icT dc_227_49 rfl (k2_lt_T 2 9 rfl rfl (by omega) (by omega)) ?_
  refine Bod.ic 1 (by decide) dc_227_56 ?_
  refine Bod.icT dc_227_57 rfl (k2_eq_T (k_eq gv 1 rfl rfl (by omega))) ?_
  refine Bod.go dc_227_62 rfl ?_
  refine Bod.sw (t := 112) dc_227_63 rfl rfl (by decide +kernel) ?_
  refine Bod.go dc_227_112 rfl ?_
  refine Bod.virt (r := []) dc_227_113 kr_227_45 ⟨Or.inl rfl, ow_244, cl_0⟩ (by rw [np_244]; rfl) (by rw [np_244]; rfl) (ob_of (mk_49 _)) (Nat.le_of_ble_eq_true rfl) (c1  ) ?_
  show Bod _ _ _ _ [_] _ _ _
  exact Bod.retI dc_227_116 rt_227
theorem mBa2_2 {d : Nat} {S : cS} {gv : Nat} (mgv : gv < 2 ^ 20) (b1 : gv ≠ 1) : Bod (d + 8) 227 0 [(0, .ref 49), (1, .int (nI 2)), (2, .int (nI gv))] [] S (some (.int (nI 2))) (S) := by
  refine Bod.go dc_227_0 rfl ?_
  refine Bod.ic 1 (by decide) dc_227_1 ?_
  refine Bod.icT dc_227_2 rfl (k2_ne_T (k_ne 2 1 rfl rfl (by omega) (by omega) (by omega))) ?_
  refine Bod.go dc_227_11 rfl ?_
  refine Bod.ic 3 (by decide) dc_227_12 ?_
  refine Bod.icT dc_227_13 rfl (k2_ne_T (k_ne 2 3 rfl rfl (by omega) (by omega) (by omega))) ?_
  refine Bod.go dc_227_36 rfl ?_
  refine Bod.go dc_227_37 rfl ?_
  refine Bod.ic 4 (by decide) dc_227_38 ?_
  refine Bod.icT dc_227_39 rfl (k2_ne_T (k_ne 2 4 rfl rfl (by omega) (by omega) (by omega))) ?_
  refine Bod.go dc_227_46 rfl ?_
  refine Bod.bip 9 (by decide) dc_227_47 ?_
  refine Bod.icT dc_227_49 rfl (k2_lt_T 2 9 rfl rfl (by omega) (by omega)) ?_
  refine Bod.ic 1 (by decide) dc_227_56 ?_
  refine Bod.icF dc_227_57 rfl (k2_eq_F (k_ne gv 1 rfl rfl (by omega) (by omega) (by omega))) ?_
  refine Bod.ic 2 (by decide) dc_227_60 ?_
  exact Bod.retI dc_227_61 rt_227
theorem mBa3_1 {d : Nat} {S : cS} {gv : Nat} {S1 : cS} {rb : Int32} (mgv : gv < 2 ^ 20) (b1 : gv = 1) (c1 : Ans (d + 8) 243 [.ref 49, .int (nI gv)] S (some (.int rb)) S1) : Bod (d + 8) 227 0 [(0, .ref 49), (1, .int (nI 3)), (2, .int (nI gv))] [] S (some (.int rb)) (S1) := by
  refine Bod.go dc_227_0 rfl ?_
  refine Bod.ic 1 (by decide) dc_227_1 ?_
  refine Bod.icT dc_227_2 rfl (k2_ne_T (k_ne 3 1 rfl rfl (by omega) (by omega) (by omega))) ?_
  refine Bod.go dc_227_11 rfl ?_
  refine Bod.ic 3 (by decide) dc_227_12 ?_
  refine Bod.icF dc_227_13 rfl (k2_ne_F (k_eq 3 3 rfl rfl (by omega))) ?_
  refine Bod.go dc_227_16 rfl ?_
  refine Bod.ic 1 (by decide) dc_227_17 ?_
  refine Bod.icT dc_227_18 rfl (k2_eq_T (k_eq gv 1 rfl rfl (by omega))) ?_
  refine Bod.go dc_227_26 rfl ?_
  refine Bod.go dc_227_27 rfl ?_
  refine Bod.virt (r := []) dc_227_28 kr_227_42 ⟨Or.inl rfl, ow_243, cl_0⟩ (by rw [np_243]; rfl) (by rw [np_243]; rfl) (ob_of (mk_49 _)) (Nat.le_of_ble_eq_true rfl) (c1  ) ?_
  show Bod _ _ _ _ [_] _ _ _
  refine Bod.go dc_227_31 rfl ?_
  exact Bod.retI dc_227_35 rt_227
theorem mBa3_2 {d : Nat} {S : cS} {gv : Nat} (mgv : gv < 2 ^ 20) (b1 : gv ≠ 1) (b2 : gv ≠ 2) : Bod (d + 8) 227 0 [(0, .ref 49), (1, .int (nI 3)), (2, .int (nI gv))] [] S (some (.int (nI 2))) (S) := by
  refine Bod.go dc_227_0 rfl ?_
  refine Bod.ic 1 (by decide) dc_227_1 ?_
  refine Bod.icT dc_227_2 rfl (k2_ne_T (k_ne 3 1 rfl rfl (by omega) (by omega) (by omega))) ?_
  refine Bod.go dc_227_11 rfl ?_
  refine Bod.ic 3 (by decide) dc_227_12 ?_
  refine Bod.icF dc_227_13 rfl (k2_ne_F (k_eq 3 3 rfl rfl (by omega))) ?_
  refine Bod.go dc_227_16 rfl ?_
  refine Bod.ic 1 (by decide) dc_227_17 ?_
  refine Bod.icF dc_227_18 rfl (k2_eq_F (k_ne gv 1 rfl rfl (by omega) (by omega) (by omega))) ?_
  refine Bod.go dc_227_21 rfl ?_
  refine Bod.ic 2 (by decide) dc_227_22 ?_
  refine Bod.icT dc_227_23 rfl (k2_ne_T (k_ne gv 2 rfl rfl (by omega) (by omega) (by omega))) ?_
  refine Bod.ic 2 (by decide) dc_227_34 ?_
  exact Bod.retI dc_227_35 rt_227
theorem mBa3_3 {d : Nat} {S : cS} {gv : Nat} {S1 : cS} {rb : Int32} (mgv : gv < 2 ^ 20) (b1 : gv ≠ 1) (b2 : gv = 2) (c1 : Ans (d + 8) 243 [.ref 49, .int (nI gv)] S (some (.int rb)) S1) : Bod (d + 8) 227 0 [(0, .ref 49), (1, .int (nI 3)), (2, .int (nI gv))] [] S (some (.int rb)) (S1) := by
  refine Bod.go dc_227_0 rfl ?_
  refine Bod.ic 1 (by decide) dc_227_1 ?_
  refine Bod.icT dc_227_2 rfl (k2_ne_T (k_ne 3 1 rfl rfl (by omega) (by omega) (by omega))) ?_
  refine Bod.go dc_227_11 rfl ?_
  refine Bod.ic 3 (by decide) dc_227_12 ?_
  refine Bod.icF dc_227_13 rfl (k2_ne_F (k_eq 3 3 rfl rfl (by omega))) ?_
  refine Bod.go dc_227_16 rfl ?_
  refine Bod.ic 1 (by decide) dc_227_17 ?_
  refine Bod.icF dc_227_18 rfl (k2_eq_F (k_ne gv 1 rfl rfl (by omega) (by omega) (by omega))) ?_
  refine Bod.go dc_227_21 rfl ?_
  refine Bod.ic 2 (by decide) dc_227_22 ?_
  refine Bod.icF dc_227_23 rfl (k2_ne_F (k_eq gv 2 rfl rfl (by omega))) ?_
  refine Bod.go dc_227_26 rfl ?_
  refine Bod.go dc_227_27 rfl ?_
  refine Bod.virt (r := []) dc_227_28 kr_227_42 ⟨Or.inl rfl, ow_243, cl_0⟩ (by rw [np_243]; rfl) (by rw [np_243]; rfl) (ob_of (mk_49 _)) (Nat.le_of_ble_eq_true rfl) (c1  ) ?_
  show Bod _ _ _ _ [_] _ _ _
  refine Bod.go dc_227_31 rfl ?_
  exact Bod.retI dc_227_35 rt_227
theorem mBa4_1 {d : Nat} {S : cS} {gv : Nat} {S1 : cS} {rb : Int32} (mgv : gv < 2 ^ 20) (b1 : gv = 2) (c1 : Ans (d + 8) 245 [.ref 49] S (some (.int rb)) S1) : Bod (d + 8) 227 0 [(0, .ref 49), (1, .int (nI 4)), (2, .int (nI gv))] [] S (some (.int rb)) (S1) := by
  refine Bod.go dc_227_0 rfl ?_
  refine Bod.ic 1 (by decide) dc_227_1 ?_
  refine Bod.icT dc_227_2 rfl (k2_ne_T (k_ne 4 1 rfl rfl (by omega) (by omega) (by omega))) ?_
  refine Bod.go dc_227_11 rfl ?_
  refine Bod.ic 3 (by decide) dc_227_12 ?_
  refine Bod.icT dc_227_13 rfl (k2_ne_T (k_ne 4 3 rfl rfl (by omega) (by omega) (by omega))) ?_
  refine Bod.go dc_227_36 rfl ?_
  refine Bod.go dc_227_37 rfl ?_
  refine Bod.ic 4 (by decide) dc_227_38 ?_
  refine Bod.icF dc_227_39 rfl (k2_ne_F (k_eq 4 4 rfl rfl (by omega))) ?_
  refine Bod.ic 2 (by decide) dc_227_42 ?_
  refine Bod.go dc_227_43 rfl ?_
  refine Bod.icT dc_227_57 rfl (k2_eq_T (k_eq gv 2 rfl rfl (by omega))) ?_
  refine Bod.go dc_227_62 rfl ?_
  refine Bod.sw (t := 117) dc_227_63 rfl rfl (by decide +kernel) ?_
  refine Bod.go dc_227_117 rfl ?_
  refine Bod.virt (r := []) dc_227_118 kr_227_49 ⟨Or.inl rfl, ow_245, cl_0⟩ (by rw [np_245]; rfl) (by rw [np_245]; rfl) (ob_of (mk_49 _)) (Nat.le_of_ble_eq_true rfl) (c1  ) ?_
  show Bod _ _ _ _ [_] _ _ _
  exact Bod.retI dc_227_121 rt_227
theorem mBa4_2 {d : Nat} {S : cS} {gv : Nat} (mgv : gv < 2 ^ 20) (b1 : gv ≠ 2) : Bod (d + 8) 227 0 [(0, .ref 49), (1, .int (nI 4)), (2, .int (nI gv))] [] S (some (.int (nI 2))) (S) := by
  refine Bod.go dc_227_0 rfl ?_
  refine Bod.ic 1 (by decide) dc_227_1 ?_
  refine Bod.icT dc_227_2 rfl (k2_ne_T (k_ne 4 1 rfl rfl (by omega) (by omega) (by omega))) ?_
  refine Bod.go dc_227_11 rfl ?_
  refine Bod.ic 3 (by decide) dc_227_12 ?_
  refine Bod.icT dc_227_13 rfl (k2_ne_T (k_ne 4 3 rfl rfl (by omega) (by omega) (by omega))) ?_
  refine Bod.go dc_227_36 rfl ?_
  refine Bod.go dc_227_37 rfl ?_
  refine Bod.ic 4 (by decide) dc_227_38 ?_
  refine Bod.icF dc_227_39 rfl (k2_ne_F (k_eq 4 4 rfl rfl (by omega))) ?_
  refine Bod.ic 2 (by decide) dc_227_42 ?_
  refine Bod.go dc_227_43 rfl ?_
  refine Bod.icF dc_227_57 rfl (k2_eq_F (k_ne gv 2 rfl rfl (by omega) (by omega) (by omega))) ?_
  refine Bod.ic 2 (by decide) dc_227_60 ?_
  exact Bod.retI dc_227_61 rt_227
theorem mBa5_1 {d : Nat} {S : cS} {gv : Nat} {S1 : cS} {rb : Int32} (mgv : gv < 2 ^ 20) (b1 : gv = 1) (c1 : Ans (d + 8) 246 [.ref 49] S (some (.int rb)) S1) : Bod (d + 8) 227 0 [(0, .ref 49), (1, .int (nI 5)), (2, .int (nI gv))] [] S (some (.int rb)) (S1) := by
  refine Bod.go dc_227_0 rfl ?_
  refine Bod.ic 1 (by decide) dc_227_1 ?_
  refine Bod.icT dc_227_2 rfl (k2_ne_T (k_ne 5 1 rfl rfl (by omega) (by omega) (by omega))) ?_
  refine Bod.go dc_227_11 rfl ?_
  refine Bod.ic 3 (by decide) dc_227_12 ?_
  refine Bod.icT dc_227_13 rfl (k2_ne_T (k_ne 5 3 rfl rfl (by omega) (by omega) (by omega))) ?_
  refine Bod.go dc_227_36 rfl ?_
  refine Bod.go dc_227_37 rfl ?_
  refine Bod.ic 4 (by decide) dc_227_38 ?_
  refine Bod.icT dc_227_39 rfl (k2_ne_T (k_ne 5 4 rfl rfl (by omega) (by omega) (by omega))) ?_
  refine Bod.go dc_227_46 rfl ?_
  refine Bod.bip 9 (by decide) dc_227_47 ?_
  refine Bod.icT dc_227_49 rfl (k2_lt_T 5 9 rfl rfl (by omega) (by omega)) ?_
  refine Bod.ic 1 (by decide) dc_227_56 ?_
  refine Bod.icT dc_227_57 rfl (k2_eq_T (k_eq gv 1 rfl rfl (by omega))) ?_
  refine Bod.go dc_227_62 rfl ?_
  refine Bod.sw (t := 122) dc_227_63 rfl rfl (by decide +kernel) ?_
  refine Bod.go dc_227_122 rfl ?_
  refine Bod.virt (r := []) dc_227_123 kr_227_52 ⟨Or.inl rfl, ow_246, cl_0⟩ (by rw [np_246]; rfl) (by rw [np_246]; rfl) (ob_of (mk_49 _)) (Nat.le_of_ble_eq_true rfl) (c1  ) ?_
  show Bod _ _ _ _ [_] _ _ _
  exact Bod.retI dc_227_126 rt_227
theorem mBa5_2 {d : Nat} {S : cS} {gv : Nat} (mgv : gv < 2 ^ 20) (b1 : gv ≠ 1) : Bod (d + 8) 227 0 [(0, .ref 49), (1, .int (nI 5)), (2, .int (nI gv))] [] S (some (.int (nI 2))) (S) := by
  refine Bod.go dc_227_0 rfl ?_
  refine Bod.ic 1 (by decide) dc_227_1 ?_
  refine Bod.icT dc_227_2 rfl (k2_ne_T (k_ne 5 1 rfl rfl (by omega) (by omega) (by omega))) ?_
  refine Bod.go dc_227_11 rfl ?_
  refine Bod.ic 3 (by decide) dc_227_12 ?_
  refine Bod.icT dc_227_13 rfl (k2_ne_T (k_ne 5 3 rfl rfl (by omega) (by omega) (by omega))) ?_
  refine Bod.go dc_227_36 rfl ?_
  refine Bod.go dc_227_37 rfl ?_
  refine Bod.ic 4 (by decide) dc_227_38 ?_
  refine Bod.icT dc_227_39 rfl (k2_ne_T (k_ne 5 4 rfl rfl (by omega) (by omega) (by omega))) ?_
  refine Bod.go dc_227_46 rfl ?_
  refine Bod.bip 9 (by decide) dc_227_47 ?_
  refine Bod.icT dc_227_49 rfl (k2_lt_T 5 9 rfl rfl (by omega) (by omega)) ?_
  refine Bod.ic 1 (by decide) dc_227_56 ?_
  refine Bod.icF dc_227_57 rfl (k2_eq_F (k_ne gv 1 rfl rfl (by omega) (by omega) (by omega))) ?_
  refine Bod.ic 2 (by decide) dc_227_60 ?_
  exact Bod.retI dc_227_61 rt_227
theorem mBa6_1 {d : Nat} {S : cS} {gv : Nat} {S1 : cS} {rb : Int32} (mgv : gv < 2 ^ 20) (b1 : gv = 1) (c1 : Ans (d + 8) 247 [.ref 49] S (some (.int rb)) S1) : Bod (d + 8) 227 0 [(0, .ref 49), (1, .int (nI 6)), (2, .int (nI gv))] [] S (some (.int rb)) (S1) := by
  refine Bod.go dc_227_0 rfl ?_
  refine Bod.ic 1 (by decide) dc_227_1 ?_
  refine Bod.icT dc_227_2 rfl (k2_ne_T (k_ne 6 1 rfl rfl (by omega) (by omega) (by omega))) ?_
  refine Bod.go dc_227_11 rfl ?_
  refine Bod.ic 3 (by decide) dc_227_12 ?_
  refine Bod.icT dc_227_13 rfl (k2_ne_T (k_ne 6 3 rfl rfl (by omega) (by omega) (by omega))) ?_
  refine Bod.go dc_227_36 rfl ?_
  refine Bod.go dc_227_37 rfl ?_
  refine Bod.ic 4 (by decide) dc_227_38 ?_
  refine Bod.icT dc_227_39 rfl (k2_ne_T (k_ne 6 4 rfl rfl (by omega) (by omega) (by omega))) ?_
  refine Bod.go dc_227_46 rfl ?_
  refine Bod.bip 9 (by decide) dc_227_47 ?_
  refine Bod.icT dc_227_49 rfl (k2_lt_T 6 9 rfl rfl (by omega) (by omega)) ?_
  refine Bod.ic 1 (by decide) dc_227_56 ?_
  refine Bod.icT dc_227_57 rfl (k2_eq_T (k_eq gv 1 rfl rfl (by omega))) ?_
  refine Bod.go dc_227_62 rfl ?_
  refine Bod.sw (t := 127) dc_227_63 rfl rfl (by decide +kernel) ?_
  refine Bod.go dc_227_127 rfl ?_
  refine Bod.virt (r := []) dc_227_128 kr_227_55 ⟨Or.inl rfl, ow_247, cl_0⟩ (by rw [np_247]; rfl) (by rw [np_247]; rfl) (ob_of (mk_49 _)) (Nat.le_of_ble_eq_true rfl) (c1  ) ?_
  show Bod _ _ _ _ [_] _ _ _
  exact Bod.retI dc_227_131 rt_227
theorem mBa6_2 {d : Nat} {S : cS} {gv : Nat} (mgv : gv < 2 ^ 20) (b1 : gv ≠ 1) : Bod (d + 8) 227 0 [(0, .ref 49), (1, .int (nI 6)), (2, .int (nI gv))] [] S (some (.int (nI 2))) (S) := by
  refine Bod.go dc_227_0 rfl ?_
  refine Bod.ic 1 (by decide) dc_227_1 ?_
  refine Bod.icT dc_227_2 rfl (k2_ne_T (k_ne 6 1 rfl rfl (by omega) (by omega) (by omega))) ?_
  refine Bod.go dc_227_11 rfl ?_
  refine Bod.ic 3 (by decide) dc_227_12 ?_
  refine Bod.icT dc_227_13 rfl (k2_ne_T (k_ne 6 3 rfl rfl (by omega) (by omega) (by omega))) ?_
  refine Bod.go dc_227_36 rfl ?_
  refine Bod.go dc_227_37 rfl ?_
  refine Bod.ic 4 (by decide) dc_227_38 ?_
  refine Bod.icT dc_227_39 rfl (k2_ne_T (k_ne 6 4 rfl rfl (by omega) (by omega) (by omega))) ?_
  refine Bod.go dc_227_46 rfl ?_
  refine Bod.bip 9 (by decide) dc_227_47 ?_
  refine Bod.icT dc_227_49 rfl (k2_lt_T 6 9 rfl rfl (by omega) (by omega)) ?_
  refine Bod.ic 1 (by decide) dc_227_56 ?_
  refine Bod.icF dc_227_57 rfl (k2_eq_F (k_ne gv 1 rfl rfl (by omega) (by omega) (by omega))) ?_
  refine Bod.ic 2 (by decide) dc_227_60 ?_
  exact Bod.retI dc_227_61 rt_227
theorem mBa7_1 {d : Nat} {S : cS} {gv : Nat} {S1 : cS} {rb : Int32} (mgv : gv < 2 ^ 20) (b1 : gv = 1) (c1 : Ans (d + 8) 248 [.ref 49] S (some (.int rb)) S1) : Bod (d + 8) 227 0 [(0, .ref 49), (1, .int (nI 7)), (2, .int (nI gv))] [] S (some (.int rb)) (S1) := by
  refine Bod.go dc_227_0 rfl ?_
  refine Bod.ic 1 (by decide) dc_227_1 ?_
  refine Bod.icT dc_227_2 rfl (k2_ne_T (k_ne 7 1 rfl rfl (by omega) (by omega) (by omega))) ?_
  refine Bod.go dc_227_11 rfl ?_
  refine Bod.ic 3 (by decide) dc_227_12 ?_
  refine Bod.icT dc_227_13 rfl (k2_ne_T (k_ne 7 3 rfl rfl (by omega) (by omega) (by omega))) ?_
  refine Bod.go dc_227_36 rfl ?_
  refine Bod.go dc_227_37 rfl ?_
  refine Bod.ic 4 (by decide) dc_227_38 ?_
  refine Bod.icT dc_227_39 rfl (k2_ne_T (k_ne 7 4 rfl rfl (by omega) (by omega) (by omega))) ?_
  refine Bod.go dc_227_46 rfl ?_
  refine Bod.bip 9 (by decide) dc_227_47 ?_
  refine Bod.icT dc_227_49 rfl (k2_lt_T 7 9 rfl rfl (by omega) (by omega)) ?_
  refine Bod.ic 1 (by decide) dc_227_56 ?_
  refine Bod.icT dc_227_57 rfl (k2_eq_T (k_eq gv 1 rfl rfl (by omega))) ?_
  refine Bod.go dc_227_62 rfl ?_
  refine Bod.sw (t := 132) dc_227_63 rfl rfl (by decide +kernel) ?_
  refine Bod.go dc_227_132 rfl ?_
  refine Bod.virt (r := []) dc_227_133 kr_227_58 ⟨Or.inl rfl, ow_248, cl_0⟩ (by rw [np_248]; rfl) (by rw [np_248]; rfl) (ob_of (mk_49 _)) (Nat.le_of_ble_eq_true rfl) (c1  ) ?_
  show Bod _ _ _ _ [_] _ _ _
  exact Bod.retI dc_227_136 rt_227
theorem mBa7_2 {d : Nat} {S : cS} {gv : Nat} (mgv : gv < 2 ^ 20) (b1 : gv ≠ 1) : Bod (d + 8) 227 0 [(0, .ref 49), (1, .int (nI 7)), (2, .int (nI gv))] [] S (some (.int (nI 2))) (S) := by
  refine Bod.go dc_227_0 rfl ?_
  refine Bod.ic 1 (by decide) dc_227_1 ?_
  refine Bod.icT dc_227_2 rfl (k2_ne_T (k_ne 7 1 rfl rfl (by omega) (by omega) (by omega))) ?_
  refine Bod.go dc_227_11 rfl ?_
  refine Bod.ic 3 (by decide) dc_227_12 ?_
  refine Bod.icT dc_227_13 rfl (k2_ne_T (k_ne 7 3 rfl rfl (by omega) (by omega) (by omega))) ?_
  refine Bod.go dc_227_36 rfl ?_
  refine Bod.go dc_227_37 rfl ?_
  refine Bod.ic 4 (by decide) dc_227_38 ?_
  refine Bod.icT dc_227_39 rfl (k2_ne_T (k_ne 7 4 rfl rfl (by omega) (by omega) (by omega))) ?_
  refine Bod.go dc_227_46 rfl ?_
  refine Bod.bip 9 (by decide) dc_227_47 ?_
  refine Bod.icT dc_227_49 rfl (k2_lt_T 7 9 rfl rfl (by omega) (by omega)) ?_
  refine Bod.ic 1 (by decide) dc_227_56 ?_
  refine Bod.icF dc_227_57 rfl (k2_eq_F (k_ne gv 1 rfl rfl (by omega) (by omega) (by omega))) ?_
  refine Bod.ic 2 (by decide) dc_227_60 ?_
  exact Bod.retI dc_227_61 rt_227
theorem mBa8_1 {d : Nat} {S : cS} {gv : Nat} {S1 : cS} {rb : Int32} (mgv : gv < 2 ^ 20) (b1 : gv = 1) (c1 : Ans (d + 8) 249 [.ref 49] S (some (.int rb)) S1) : Bod (d + 8) 227 0 [(0, .ref 49), (1, .int (nI 8)), (2, .int (nI gv))] [] S (some (.int rb)) (S1) := by
  refine Bod.go dc_227_0 rfl ?_
  refine Bod.ic 1 (by decide) dc_227_1 ?_
  refine Bod.icT dc_227_2 rfl (k2_ne_T (k_ne 8 1 rfl rfl (by omega) (by omega) (by omega))) ?_
  refine Bod.go dc_227_11 rfl ?_
  refine Bod.ic 3 (by decide) dc_227_12 ?_
  refine Bod.icT dc_227_13 rfl (k2_ne_T (k_ne 8 3 rfl rfl (by omega) (by omega) (by omega))) ?_
  refine Bod.go dc_227_36 rfl ?_
  refine Bod.go dc_227_37 rfl ?_
  refine Bod.ic 4 (by decide) dc_227_38 ?_
  refine Bod.icT dc_227_39 rfl (k2_ne_T (k_ne 8 4 rfl rfl (by omega) (by omega) (by omega))) ?_
  refine Bod.go dc_227_46 rfl ?_
  refine Bod.bip 9 (by decide) dc_227_47 ?_
  refine Bod.icT dc_227_49 rfl (k2_lt_T 8 9 rfl rfl (by omega) (by omega)) ?_
  refine Bod.ic 1 (by decide) dc_227_56 ?_
  refine Bod.icT dc_227_57 rfl (k2_eq_T (k_eq gv 1 rfl rfl (by omega))) ?_
  refine Bod.go dc_227_62 rfl ?_
  refine Bod.sw (t := 137) dc_227_63 rfl rfl (by decide +kernel) ?_
  refine Bod.go dc_227_137 rfl ?_
  refine Bod.virt (r := []) dc_227_138 kr_227_61 ⟨Or.inl rfl, ow_249, cl_0⟩ (by rw [np_249]; rfl) (by rw [np_249]; rfl) (ob_of (mk_49 _)) (Nat.le_of_ble_eq_true rfl) (c1  ) ?_
  show Bod _ _ _ _ [_] _ _ _
  exact Bod.retI dc_227_141 rt_227
theorem mBa8_2 {d : Nat} {S : cS} {gv : Nat} (mgv : gv < 2 ^ 20) (b1 : gv ≠ 1) : Bod (d + 8) 227 0 [(0, .ref 49), (1, .int (nI 8)), (2, .int (nI gv))] [] S (some (.int (nI 2))) (S) := by
  refine Bod.go dc_227_0 rfl ?_
  refine Bod.ic 1 (by decide) dc_227_1 ?_
  refine Bod.icT dc_227_2 rfl (k2_ne_T (k_ne 8 1 rfl rfl (by omega) (by omega) (by omega))) ?_
  refine Bod.go dc_227_11 rfl ?_
  refine Bod.ic 3 (by decide) dc_227_12 ?_
  refine Bod.icT dc_227_13 rfl (k2_ne_T (k_ne 8 3 rfl rfl (by omega) (by omega) (by omega))) ?_
  refine Bod.go dc_227_36 rfl ?_
  refine Bod.go dc_227_37 rfl ?_
  refine Bod.ic 4 (by decide) dc_227_38 ?_
  refine Bod.icT dc_227_39 rfl (k2_ne_T (k_ne 8 4 rfl rfl (by omega) (by omega) (by omega))) ?_
  refine Bod.go dc_227_46 rfl ?_
  refine Bod.bip 9 (by decide) dc_227_47 ?_
  refine Bod.icT dc_227_49 rfl (k2_lt_T 8 9 rfl rfl (by omega) (by omega)) ?_
  refine Bod.ic 1 (by decide) dc_227_56 ?_
  refine Bod.icF dc_227_57 rfl (k2_eq_F (k_ne gv 1 rfl rfl (by omega) (by omega) (by omega))) ?_
  refine Bod.ic 2 (by decide) dc_227_60 ?_
  exact Bod.retI dc_227_61 rt_227
theorem mBa9_1 {d : Nat} {S : cS} {gv : Nat} {S1 : cS} {a : Nat} {S2 : cS} {rb : Int32} (mgv : gv < 2 ^ 20) (b1 : gv = 0) (ma : a < 2 ^ 20) (c1 : Ans (d + 8) 251 [.ref 2] S (some (.int (nI a))) S1) (c2 : Ans (d + 8) 148 [.ref 46, .int (nI 1), .long ((2305843009213693952)), .long ((nI a).toInt64)] S1 (some (.int rb)) S2) : Bod (d + 8) 227 0 [(0, .ref 49), (1, .int (nI 9)), (2, .int (nI gv))] [] S (some (.int rb)) (S2) := by
  refine Bod.go dc_227_0 rfl ?_
  refine Bod.ic 1 (by decide) dc_227_1 ?_
  refine Bod.icT dc_227_2 rfl (k2_ne_T (k_ne 9 1 rfl rfl (by omega) (by omega) (by omega))) ?_
  refine Bod.go dc_227_11 rfl ?_
  refine Bod.ic 3 (by decide) dc_227_12 ?_
  refine Bod.icT dc_227_13 rfl (k2_ne_T (k_ne 9 3 rfl rfl (by omega) (by omega) (by omega))) ?_
  refine Bod.go dc_227_36 rfl ?_
  refine Bod.go dc_227_37 rfl ?_
  refine Bod.ic 4 (by decide) dc_227_38 ?_
  refine Bod.icT dc_227_39 rfl (k2_ne_T (k_ne 9 4 rfl rfl (by omega) (by omega) (by omega))) ?_
  refine Bod.go dc_227_46 rfl ?_
  refine Bod.bip 9 (by decide) dc_227_47 ?_
  refine Bod.icF dc_227_49 rfl (k2_lt_F 9 9 rfl rfl (by omega) (by omega)) ?_
  refine Bod.ic 0 (by decide) dc_227_52 ?_
  refine Bod.go dc_227_53 rfl ?_
  refine Bod.icT dc_227_57 rfl (k2_eq_T (k_eq gv 0 rfl rfl (by omega))) ?_
  refine Bod.go dc_227_62 rfl ?_
  refine Bod.sw (t := 142) dc_227_63 rfl rfl (by decide +kernel) ?_
  refine Bod.go dc_227_142 rfl ?_
  refine Bod.get dc_227_143 fr_227_15 (mk_49 _) rfl ?_
  refine Bod.ic 1 (by decide) dc_227_146 ?_
  refine Bod.ldc2 dc_227_147 cj_227_64 ?_
  refine Bod.go dc_227_150 rfl ?_
  refine Bod.get dc_227_151 fr_227_9 (mk_49 _) rfl ?_
  refine Bod.virt (r := [_, _, _]) dc_227_154 kr_227_66 ⟨Or.inr rfl, ow_251, cl_2⟩ (by rw [np_251]; rfl) (by rw [np_251]; rfl) (ob_of (mk_2 _)) (Nat.le_of_ble_eq_true rfl) (c1  ) ?_
  show Bod _ _ _ _ [_, _, _, _] _ _ _
  refine Bod.go dc_227_157 rfl ?_
  refine Bod.virt (r := []) dc_227_158 kr_227_71 ⟨Or.inr rfl, ow_148, cl_9⟩ (by rw [np_148]; rfl) (by rw [np_148]; rfl) (ob_of (mk_46 _)) (Nat.le_of_ble_eq_true rfl) (c2  ) ?_
  show Bod _ _ _ _ [_] _ _ _
  exact Bod.retI dc_227_161 rt_227
theorem mBa9_2 {d : Nat} {S : cS} {gv : Nat} (mgv : gv < 2 ^ 20) (b1 : gv ≠ 0) : Bod (d + 8) 227 0 [(0, .ref 49), (1, .int (nI 9)), (2, .int (nI gv))] [] S (some (.int (nI 2))) (S) := by
  refine Bod.go dc_227_0 rfl ?_
  refine Bod.ic 1 (by decide) dc_227_1 ?_
  refine Bod.icT dc_227_2 rfl (k2_ne_T (k_ne 9 1 rfl rfl (by omega) (by omega) (by omega))) ?_
  refine Bod.go dc_227_11 rfl ?_
  refine Bod.ic 3 (by decide) dc_227_12 ?_
  refine Bod.icT dc_227_13 rfl (k2_ne_T (k_ne 9 3 rfl rfl (by omega) (by omega) (by omega))) ?_
  refine Bod.go dc_227_36 rfl ?_
  refine Bod.go dc_227_37 rfl ?_
  refine Bod.ic 4 (by decide) dc_227_38 ?_
  refine Bod.icT dc_227_39 rfl (k2_ne_T (k_ne 9 4 rfl rfl (by omega) (by omega) (by omega))) ?_
  refine Bod.go dc_227_46 rfl ?_
  refine Bod.bip 9 (by decide) dc_227_47 ?_
  refine Bod.icF dc_227_49 rfl (k2_lt_F 9 9 rfl rfl (by omega) (by omega)) ?_
  refine Bod.ic 0 (by decide) dc_227_52 ?_
  refine Bod.go dc_227_53 rfl ?_
  refine Bod.icF dc_227_57 rfl (k2_eq_F (k_ne gv 0 rfl rfl (by omega) (by omega) (by omega))) ?_
  refine Bod.ic 2 (by decide) dc_227_60 ?_
  exact Bod.retI dc_227_61 rt_227
theorem mBa10_1 {d : Nat} {S : cS} {gv : Nat} {S1 : cS} {a : Nat} {S2 : cS} {rb : Int32} (mgv : gv < 2 ^ 20) (b1 : gv = 0) (ma : a < 2 ^ 20) (c1 : Ans (d + 8) 252 [.ref 2] S (some (.int (nI a))) S1) (c2 : Ans (d + 8) 148 [.ref 46, .int (nI 1), .long ((2305843009213693952)), .long ((nI a).toInt64)] S1 (some (.int rb)) S2) : Bod (d + 8) 227 0 [(0, .ref 49), (1, .int (nI 10)), (2, .int (nI gv))] [] S (some (.int rb)) (S2) := by
  refine Bod.go dc_227_0 rfl ?_
  refine Bod.ic 1 (by decide) dc_227_1 ?_
  refine Bod.icT dc_227_2 rfl (k2_ne_T (k_ne 10 1 rfl rfl (by omega) (by omega) (by omega))) ?_
  refine Bod.go dc_227_11 rfl ?_
  refine Bod.ic 3 (by decide) dc_227_12 ?_
  refine Bod.icT dc_227_13 rfl (k2_ne_T (k_ne 10 3 rfl rfl (by omega) (by omega) (by omega))) ?_
  refine Bod.go dc_227_36 rfl ?_
  refine Bod.go dc_227_37 rfl ?_
  refine Bod.ic 4 (by decide) dc_227_38 ?_
  refine Bod.icT dc_227_39 rfl (k2_ne_T (k_ne 10 4 rfl rfl (by omega) (by omega) (by omega))) ?_
  refine Bod.go dc_227_46 rfl ?_
  refine Bod.bip 9 (by decide) dc_227_47 ?_
  refine Bod.icF dc_227_49 rfl (k2_lt_F 10 9 rfl rfl (by omega) (by omega)) ?_
  refine Bod.ic 0 (by decide) dc_227_52 ?_
  refine Bod.go dc_227_53 rfl ?_
  refine Bod.icT dc_227_57 rfl (k2_eq_T (k_eq gv 0 rfl rfl (by omega))) ?_
  refine Bod.go dc_227_62 rfl ?_
  refine Bod.sw (t := 162) dc_227_63 rfl rfl (by decide +kernel) ?_
  refine Bod.go dc_227_162 rfl ?_
  refine Bod.get dc_227_163 fr_227_15 (mk_49 _) rfl ?_
  refine Bod.ic 1 (by decide) dc_227_166 ?_
  refine Bod.ldc2 dc_227_167 cj_227_64 ?_
  refine Bod.go dc_227_170 rfl ?_
  refine Bod.get dc_227_171 fr_227_9 (mk_49 _) rfl ?_
  refine Bod.virt (r := [_, _, _]) dc_227_174 kr_227_77 ⟨Or.inr rfl, ow_252, cl_2⟩ (by rw [np_252]; rfl) (by rw [np_252]; rfl) (ob_of (mk_2 _)) (Nat.le_of_ble_eq_true rfl) (c1  ) ?_
  show Bod _ _ _ _ [_, _, _, _] _ _ _
  refine Bod.go dc_227_177 rfl ?_
  refine Bod.virt (r := []) dc_227_178 kr_227_71 ⟨Or.inr rfl, ow_148, cl_9⟩ (by rw [np_148]; rfl) (by rw [np_148]; rfl) (ob_of (mk_46 _)) (Nat.le_of_ble_eq_true rfl) (c2  ) ?_
  show Bod _ _ _ _ [_] _ _ _
  exact Bod.retI dc_227_181 rt_227
theorem mBa10_2 {d : Nat} {S : cS} {gv : Nat} (mgv : gv < 2 ^ 20) (b1 : gv ≠ 0) : Bod (d + 8) 227 0 [(0, .ref 49), (1, .int (nI 10)), (2, .int (nI gv))] [] S (some (.int (nI 2))) (S) := by
  refine Bod.go dc_227_0 rfl ?_
  refine Bod.ic 1 (by decide) dc_227_1 ?_
  refine Bod.icT dc_227_2 rfl (k2_ne_T (k_ne 10 1 rfl rfl (by omega) (by omega) (by omega))) ?_
  refine Bod.go dc_227_11 rfl ?_
  refine Bod.ic 3 (by decide) dc_227_12 ?_
  refine Bod.icT dc_227_13 rfl (k2_ne_T (k_ne 10 3 rfl rfl (by omega) (by omega) (by omega))) ?_
  refine Bod.go dc_227_36 rfl ?_
  refine Bod.go dc_227_37 rfl ?_
  refine Bod.ic 4 (by decide) dc_227_38 ?_
  refine Bod.icT dc_227_39 rfl (k2_ne_T (k_ne 10 4 rfl rfl (by omega) (by omega) (by omega))) ?_
  refine Bod.go dc_227_46 rfl ?_
  refine Bod.bip 9 (by decide) dc_227_47 ?_
  refine Bod.icF dc_227_49 rfl (k2_lt_F 10 9 rfl rfl (by omega) (by omega)) ?_
  refine Bod.ic 0 (by decide) dc_227_52 ?_
  refine Bod.go dc_227_53 rfl ?_
  refine Bod.icF dc_227_57 rfl (k2_eq_F (k_ne gv 0 rfl rfl (by omega) (by omega) (by omega))) ?_
  refine Bod.ic 2 (by decide) dc_227_60 ?_
  exact Bod.retI dc_227_61 rt_227
theorem mBa11_1 {d : Nat} {S : cS} {gv : Nat} (mgv : gv < 2 ^ 20) (b1 : gv = 0) : Bod (d + 8) 227 0 [(0, .ref 49), (1, .int (nI 11)), (2, .int (nI gv))] [] S (some (.int (nI 2))) (S) := by
  refine Bod.go dc_227_0 rfl ?_
  refine Bod.ic 1 (by decide) dc_227_1 ?_
  refine Bod.icT dc_227_2 rfl (k2_ne_T (k_ne 11 1 rfl rfl (by omega) (by omega) (by omega))) ?_
  refine Bod.go dc_227_11 rfl ?_
  refine Bod.ic 3 (by decide) dc_227_12 ?_
  refine Bod.icT dc_227_13 rfl (k2_ne_T (k_ne 11 3 rfl rfl (by omega) (by omega) (by omega))) ?_
  refine Bod.go dc_227_36 rfl ?_
  refine Bod.go dc_227_37 rfl ?_
  refine Bod.ic 4 (by decide) dc_227_38 ?_
  refine Bod.icT dc_227_39 rfl (k2_ne_T (k_ne 11 4 rfl rfl (by omega) (by omega) (by omega))) ?_
  refine Bod.go dc_227_46 rfl ?_
  refine Bod.bip 9 (by decide) dc_227_47 ?_
  refine Bod.icF dc_227_49 rfl (k2_lt_F 11 9 rfl rfl (by omega) (by omega)) ?_
  refine Bod.ic 0 (by decide) dc_227_52 ?_
  refine Bod.go dc_227_53 rfl ?_
  refine Bod.icT dc_227_57 rfl (k2_eq_T (k_eq gv 0 rfl rfl (by omega))) ?_
  refine Bod.go dc_227_62 rfl ?_
  refine Bod.sw (t := 182) dc_227_63 rfl rfl (by decide +kernel) ?_
  refine Bod.ic 2 (by decide) dc_227_182 ?_
  exact Bod.retI dc_227_183 rt_227
theorem mBa11_2 {d : Nat} {S : cS} {gv : Nat} (mgv : gv < 2 ^ 20) (b1 : gv ≠ 0) : Bod (d + 8) 227 0 [(0, .ref 49), (1, .int (nI 11)), (2, .int (nI gv))] [] S (some (.int (nI 2))) (S) := by
  refine Bod.go dc_227_0 rfl ?_
  refine Bod.ic 1 (by decide) dc_227_1 ?_
  refine Bod.icT dc_227_2 rfl (k2_ne_T (k_ne 11 1 rfl rfl (by omega) (by omega) (by omega))) ?_
  refine Bod.go dc_227_11 rfl ?_
  refine Bod.ic 3 (by decide) dc_227_12 ?_
  refine Bod.icT dc_227_13 rfl (k2_ne_T (k_ne 11 3 rfl rfl (by omega) (by omega) (by omega))) ?_
  refine Bod.go dc_227_36 rfl ?_
  refine Bod.go dc_227_37 rfl ?_
  refine Bod.ic 4 (by decide) dc_227_38 ?_
  refine Bod.icT dc_227_39 rfl (k2_ne_T (k_ne 11 4 rfl rfl (by omega) (by omega) (by omega))) ?_
  refine Bod.go dc_227_46 rfl ?_
  refine Bod.bip 9 (by decide) dc_227_47 ?_
  refine Bod.icF dc_227_49 rfl (k2_lt_F 11 9 rfl rfl (by omega) (by omega)) ?_
  refine Bod.ic 0 (by decide) dc_227_52 ?_
  refine Bod.go dc_227_53 rfl ?_
  refine Bod.icF dc_227_57 rfl (k2_eq_F (k_ne gv 0 rfl rfl (by omega) (by omega) (by omega))) ?_
  refine Bod.ic 2 (by decide) dc_227_60 ?_
  exact Bod.retI dc_227_61 rt_227
theorem mLe_1 {d : Nat} {S : cS} {S1 : cS} {u : Int64} {S2 : cS} {rb : Int32} {S3 : cS} {u1 : Int64} {S4 : cS} {a : Nat} {S5 : cS} {rb1 : Int32} (c1 : Ans (d + 8) 132 [.ref 46, .int (nI 0)] S (some (.long u)) S1) (c2 : Ans (d + 8) 134 [.long u] S1 (some (.int rb)) S2) (w3 : rb = nI 3) (c3 : Ans (d + 8) 132 [.ref 46, .int (nI 0)] S2 (some (.long u1)) S3) (ma : a < 2 ^ 20) (c4 : Ans (d + 8) 47 [.long u1] S3 (some (.int (nI a))) S4) (c5 : Ans (d + 8) 148 [.ref 46, .int (nI 2), .long ((2305843009213693952)), .long ((nI a).toInt64)] S4 (some (.int rb1)) S5) : Bod (d + 8) 244 0 [(0, .ref 49)] [] S (some (.int rb1)) (S5) := by
  refine Bod.go dc_244_0 rfl ?_
  refine Bod.get dc_244_1 fr_244_15 (mk_49 _) rfl ?_
  refine Bod.ic 0 (by decide) dc_244_4 ?_
  refine Bod.virt (r := []) dc_244_5 kr_244_80 ⟨Or.inr rfl, ow_132, cl_9⟩ (by rw [np_132]; rfl) (by rw [np_132]; rfl) (ob_of (mk_46 _)) (Nat.le_of_ble_eq_true rfl) (c1  ) ?_
  show Bod _ _ _ _ [_] _ _ _
  refine Bod.stat (r := []) dc_244_8 kr_244_84 (Or.inr rfl) (by rw [np_134]; rfl) (by rw [np_134]; rfl) (by rw [np_134]; exact Nat.le_of_ble_eq_true rfl) (Nat.le_of_ble_eq_true rfl) (c2  ) ?_
  show Bod _ _ _ _ [_] _ _ _
  refine Bod.ic 3 (by decide) dc_244_11 ?_
  refine Bod.icF dc_244_12 rfl (c2_ne_F w3) ?_
  refine Bod.go dc_244_15 rfl ?_
  refine Bod.get dc_244_16 fr_244_15 (mk_49 _) rfl ?_
  refine Bod.ic 2 (by decide) dc_244_19 ?_
  refine Bod.ldc2 dc_244_20 cj_244_64 ?_
  refine Bod.go dc_244_23 rfl ?_
  refine Bod.get dc_244_24 fr_244_15 (mk_49 _) rfl ?_
  refine Bod.ic 0 (by decide) dc_244_27 ?_
  refine Bod.virt (r := [_, _, _]) dc_244_28 kr_244_80 ⟨Or.inr rfl, ow_132, cl_9⟩ (by rw [np_132]; rfl) (by rw [np_132]; rfl) (ob_of (mk_46 _)) (Nat.le_of_ble_eq_true rfl) (c3  ) ?_
  show Bod _ _ _ _ [_, _, _, _] _ _ _
  refine Bod.stat (r := [_, _, _]) dc_244_31 kr_244_88 (Or.inr rfl) (by rw [np_47]; rfl) (by rw [np_47]; rfl) (by rw [np_47]; exact Nat.le_of_ble_eq_true rfl) (Nat.le_of_ble_eq_true rfl) (c4  ) ?_
  show Bod _ _ _ _ [_, _, _, _] _ _ _
  refine Bod.go dc_244_34 rfl ?_
  refine Bod.virt (r := []) dc_244_35 kr_244_71 ⟨Or.inr rfl, ow_148, cl_9⟩ (by rw [np_148]; rfl) (by rw [np_148]; rfl) (ob_of (mk_46 _)) (Nat.le_of_ble_eq_true rfl) (c5  ) ?_
  show Bod _ _ _ _ [_] _ _ _
  exact Bod.retI dc_244_38 rt_244
theorem mLe_2 {d : Nat} {S : cS} {S1 : cS} {u : Int64} {S2 : cS} {rb : Int32} {S3 : cS} {a : Nat} {S4 : cS} {a1 : Nat} {S5 : cS} {a2 : Nat} {S6 : cS} {rb1 : Int32} (c1 : Ans (d + 8) 132 [.ref 46, .int (nI 0)] S (some (.long u)) S1) (c2 : Ans (d + 8) 134 [.long u] S1 (some (.int rb)) S2) (w3 : rb ≠ nI 3) (ma : a < 2 ^ 20) (c3 : Ans (d + 8) 136 [.ref 46, .int (nI 0)] S2 (some (.int (nI a))) S3) (ma1 : a1 < 2 ^ 20) (c4 : Ans (d + 8) 138 [.ref 2, .int (nI a)] S3 (some (.int (nI a1))) S4) (b1 : a1 = 1) (ma2 : a2 < 2 ^ 20) (c5 : Ans (d + 8) 140 [.ref 2, .int (nI a)] S4 (some (.int (nI a2))) S5) (c6 : Ans (d + 8) 148 [.ref 46, .int (nI 2), .long ((2305843009213693952)), .long ((nI a2).toInt64)] S5 (some (.int rb1)) S6) : Bod (d + 8) 244 0 [(0, .ref 49)] [] S (some (.int rb1)) (S6) := by
  refine Bod.go dc_244_0 rfl ?_
  refine Bod.get dc_244_1 fr_244_15 (mk_49 _) rfl ?_
  refine Bod.ic 0 (by decide) dc_244_4 ?_
  refine Bod.virt (r := []) dc_244_5 kr_244_80 ⟨Or.inr rfl, ow_132, cl_9⟩ (by rw [np_132]; rfl) (by rw [np_132]; rfl) (ob_of (mk_46 _)) (Nat.le_of_ble_eq_true rfl) (c1  ) ?_
  show Bod _ _ _ _ [_] _ _ _
  refine Bod.stat (r := []) dc_244_8 kr_244_84 (Or.inr rfl) (by rw [np_134]; rfl) (by rw [np_134]; rfl) (by rw [np_134]; exact Nat.le_of_ble_eq_true rfl) (Nat.le_of_ble_eq_true rfl) (c2  ) ?_
  show Bod _ _ _ _ [_] _ _ _
  refine Bod.ic 3 (by decide) dc_244_11 ?_
  refine Bod.icT dc_244_12 rfl (c2_ne_T w3) ?_
  refine Bod.go dc_244_39 rfl ?_
  refine Bod.get dc_244_40 fr_244_15 (mk_49 _) rfl ?_
  refine Bod.ic 0 (by decide) dc_244_43 ?_
  refine Bod.virt (r := []) dc_244_44 kr_244_91 ⟨Or.inr rfl, ow_136, cl_9⟩ (by rw [np_136]; rfl) (by rw [np_136]; rfl) (ob_of (mk_46 _)) (Nat.le_of_ble_eq_true rfl) (c3  ) ?_
  show Bod _ _ _ _ [_] _ _ _
  refine Bod.istn dc_244_47 (by rw [ml_244]; exact Nat.le_of_ble_eq_true rfl) ?_
  refine Bod.go dc_244_48 rfl ?_
  refine Bod.get dc_244_49 fr_244_9 (mk_49 _) rfl ?_
  refine Bod.go dc_244_52 rfl ?_
  refine Bod.virt (r := []) dc_244_53 kr_244_94 ⟨Or.inr rfl, ow_138, cl_2⟩ (by rw [np_138]; rfl) (by rw [np_138]; rfl) (ob_of (mk_2 _)) (Nat.le_of_ble_eq_true rfl) (c4  ) ?_
  show Bod _ _ _ _ [_] _ _ _
  refine Bod.ic 1 (by decide) dc_244_56 ?_
  refine Bod.icT dc_244_57 rfl (k2_eq_T (k_eq a1 1 rfl rfl (by omega))) ?_
  refine Bod.go dc_244_74 rfl ?_
  refine Bod.get dc_244_75 fr_244_15 (mk_49 _) rfl ?_
  refine Bod.ic 2 (by decide) dc_244_78 ?_
  refine Bod.ldc2 dc_244_79 cj_244_64 ?_
  refine Bod.go dc_244_82 rfl ?_
  refine Bod.get dc_244_83 fr_244_9 (mk_49 _) rfl ?_
  refine Bod.go dc_244_86 rfl ?_
  refine Bod.virt (r := [_, _, _]) dc_244_87 kr_244_97 ⟨Or.inr rfl, ow_140, cl_2⟩ (by rw [np_140]; rfl) (by rw [np_140]; rfl) (ob_of (mk_2 _)) (Nat.le_of_ble_eq_true rfl) (c5  ) ?_
  show Bod _ _ _ _ [_, _, _, _] _ _ _
  refine Bod.go dc_244_90 rfl ?_
  refine Bod.virt (r := []) dc_244_91 kr_244_71 ⟨Or.inr rfl, ow_148, cl_9⟩ (by rw [np_148]; rfl) (by rw [np_148]; rfl) (ob_of (mk_46 _)) (Nat.le_of_ble_eq_true rfl) (c6  ) ?_
  show Bod _ _ _ _ [_] _ _ _
  exact Bod.retI dc_244_94 rt_244
theorem mLe_3 {d : Nat} {S : cS} {S1 : cS} {u : Int64} {S2 : cS} {rb : Int32} {S3 : cS} {a : Nat} {S4 : cS} {a1 : Nat} {S5 : cS} {a2 : Nat} {S6 : cS} {a3 : Nat} {S7 : cS} {rb1 : Int32} (c1 : Ans (d + 8) 132 [.ref 46, .int (nI 0)] S (some (.long u)) S1) (c2 : Ans (d + 8) 134 [.long u] S1 (some (.int rb)) S2) (w3 : rb ≠ nI 3) (ma : a < 2 ^ 20) (c3 : Ans (d + 8) 136 [.ref 46, .int (nI 0)] S2 (some (.int (nI a))) S3) (ma1 : a1 < 2 ^ 20) (c4 : Ans (d + 8) 138 [.ref 2, .int (nI a)] S3 (some (.int (nI a1))) S4) (b1 : a1 ≠ 1) (ma2 : a2 < 2 ^ 20) (c5 : Ans (d + 8) 138 [.ref 2, .int (nI a)] S4 (some (.int (nI a2))) S5) (b2 : a2 = 2) (ma3 : a3 < 2 ^ 20) (c6 : Ans (d + 8) 140 [.ref 2, .int (nI a)] S5 (some (.int (nI a3))) S6) (c7 : Ans (d + 8) 148 [.ref 46, .int (nI 2), .long ((2305843009213693952)), .long ((nI a3).toInt64)] S6 (some (.int rb1)) S7) : Bod (d + 8) 244 0 [(0, .ref 49)] [] S (some (.int rb1)) (S7) := by
  refine Bod.go dc_244_0 rfl ?_
  refine Bod.get dc_244_1 fr_244_15 (mk_49 _) rfl ?_
  refine Bod.ic 0 (by decide) dc_244_4 ?_
  refine Bod.virt (r := []) dc_244_5 kr_244_80 ⟨Or.inr rfl, ow_132, cl_9⟩ (by rw [np_132]; rfl) (by rw [np_132]; rfl) (ob_of (mk_46 _)) (Nat.le_of_ble_eq_true rfl) (c1  ) ?_
  show Bod _ _ _ _ [_] _ _ _
  refine Bod.stat (r := []) dc_244_8 kr_244_84 (Or.inr rfl) (by rw [np_134]; rfl) (by rw [np_134]; rfl) (by rw [np_134]; exact Nat.le_of_ble_eq_true rfl) (Nat.le_of_ble_eq_true rfl) (c2  ) ?_
  show Bod _ _ _ _ [_] _ _ _
  refine Bod.ic 3 (by decide) dc_244_11 ?_
  refine Bod.icT dc_244_12 rfl (c2_ne_T w3) ?_
  refine Bod.go dc_244_39 rfl ?_
  refine Bod.get dc_244_40 fr_244_15 (mk_49 _) rfl ?_
  refine Bod.ic 0 (by decide) dc_244_43 ?_
  refine Bod.virt (r := []) dc_244_44 kr_244_91 ⟨Or.inr rfl, ow_136, cl_9⟩ (by rw [np_136]; rfl) (by rw [np_136]; rfl) (ob_of (mk_46 _)) (Nat.le_of_ble_eq_true rfl) (c3  ) ?_
  show Bod _ _ _ _ [_] _ _ _
  refine Bod.istn dc_244_47 (by rw [ml_244]; exact Nat.le_of_ble_eq_true rfl) ?_
  refine Bod.go dc_244_48 rfl ?_
  refine Bod.get dc_244_49 fr_244_9 (mk_49 _) rfl ?_
  refine Bod.go dc_244_52 rfl ?_
  refine Bod.virt (r := []) dc_244_53 kr_244_94 ⟨Or.inr rfl, ow_138, cl_2⟩ (by rw [np_138]; rfl) (by rw [np_138]; rfl) (ob_of (mk_2 _)) (Nat.le_of_ble_eq_true rfl) (c4  ) ?_
  show Bod _ _ _ _ [_] _ _ _
  refine Bod.ic 1 (by decide) dc_244_56 ?_
  refine Bod.icF dc_244_57 rfl (k2_eq_F (k_ne a1 1 rfl rfl (by omega) (by omega) (by omega))) ?_
  refine Bod.go dc_244_60 rfl ?_
  refine Bod.get dc_244_61 fr_244_9 (mk_49 _) rfl ?_
  refine Bod.go dc_244_64 rfl ?_
  refine Bod.virt (r := []) dc_244_65 kr_244_94 ⟨Or.inr rfl, ow_138, cl_2⟩ (by rw [np_138]; rfl) (by rw [np_138]; rfl) (ob_of (mk_2 _)) (Nat.le_of_ble_eq_true rfl) (c5  ) ?_
  show Bod _ _ _ _ [_] _ _ _
  refine Bod.ic 2 (by decide) dc_244_68 ?_
  refine Bod.icT dc_244_69 rfl (k2_eq_T (k_eq a2 2 rfl rfl (by omega))) ?_
  refine Bod.go dc_244_74 rfl ?_
  refine Bod.get dc_244_75 fr_244_15 (mk_49 _) rfl ?_
  refine Bod.ic 2 (by decide) dc_244_78 ?_
  refine Bod.ldc2 dc_244_79 cj_244_64 ?_
  refine Bod.go dc_244_82 rfl ?_
  refine Bod.get dc_244_83 fr_244_9 (mk_49 _) rfl ?_
  refine Bod.go dc_244_86 rfl ?_
  refine Bod.virt (r := [_, _, _]) dc_244_87 kr_244_97 ⟨Or.inr rfl, ow_140, cl_2⟩ (by rw [np_140]; rfl) (by rw [np_140]; rfl) (ob_of (mk_2 _)) (Nat.le_of_ble_eq_true rfl) (c6  ) ?_
  show Bod _ _ _ _ [_, _, _, _] _ _ _
  refine Bod.go dc_244_90 rfl ?_
  refine Bod.virt (r := []) dc_244_91 kr_244_71 ⟨Or.inr rfl, ow_148, cl_9⟩ (by rw [np_148]; rfl) (by rw [np_148]; rfl) (ob_of (mk_46 _)) (Nat.le_of_ble_eq_true rfl) (c7  ) ?_
  show Bod _ _ _ _ [_] _ _ _
  exact Bod.retI dc_244_94 rt_244
theorem mLe_4 {d : Nat} {S : cS} {S1 : cS} {u : Int64} {S2 : cS} {rb : Int32} {S3 : cS} {a : Nat} {S4 : cS} {a1 : Nat} {S5 : cS} {a2 : Nat} (c1 : Ans (d + 8) 132 [.ref 46, .int (nI 0)] S (some (.long u)) S1) (c2 : Ans (d + 8) 134 [.long u] S1 (some (.int rb)) S2) (w3 : rb ≠ nI 3) (ma : a < 2 ^ 20) (c3 : Ans (d + 8) 136 [.ref 46, .int (nI 0)] S2 (some (.int (nI a))) S3) (ma1 : a1 < 2 ^ 20) (c4 : Ans (d + 8) 138 [.ref 2, .int (nI a)] S3 (some (.int (nI a1))) S4) (b1 : a1 ≠ 1) (ma2 : a2 < 2 ^ 20) (c5 : Ans (d + 8) 138 [.ref 2, .int (nI a)] S4 (some (.int (nI a2))) S5) (b2 : a2 ≠ 2) : Bod (d + 8) 244 0 [(0, .ref 49)] [] S (some (.int (nI 2))) (S5) := by
  refine Bod.go dc_244_0 rfl ?_
  refine Bod.get dc_244_1 fr_244_15 (mk_49 _) rfl ?_
  refine Bod.ic 0 (by decide) dc_244_4 ?_
  refine Bod.virt (r := []) dc_244_5 kr_244_80 ⟨Or.inr rfl, ow_132, cl_9⟩ (by rw [np_132]; rfl) (by rw [np_132]; rfl) (ob_of (mk_46 _)) (Nat.le_of_ble_eq_true rfl) (c1  ) ?_
  show Bod _ _ _ _ [_] _ _ _
  refine Bod.stat (r := []) dc_244_8 kr_244_84 (Or.inr rfl) (by rw [np_134]; rfl) (by rw [np_134]; rfl) (by rw [np_134]; exact Nat.le_of_ble_eq_true rfl) (Nat.le_of_ble_eq_true rfl) (c2  ) ?_
  show Bod _ _ _ _ [_] _ _ _
  refine Bod.ic 3 (by decide) dc_244_11 ?_
  refine Bod.icT dc_244_12 rfl (c2_ne_T w3) ?_
  refine Bod.go dc_244_39 rfl ?_
  refine Bod.get dc_244_40 fr_244_15 (mk_49 _) rfl ?_
  refine Bod.ic 0 (by decide) dc_244_43 ?_
  refine Bod.virt (r := []) dc_244_44 kr_244_91 ⟨Or.inr rfl, ow_136, cl_9⟩ (by rw [np_136]; rfl) (by rw [np_136]; rfl) (ob_of (mk_46 _)) (Nat.le_of_ble_eq_true rfl) (c3  ) ?_
  show Bod _ _ _ _ [_] _ _ _
  refine Bod.istn dc_244_47 (by rw [ml_244]; exact Nat.le_of_ble_eq_true rfl) ?_
  refine Bod.go dc_244_48 rfl ?_
  refine Bod.get dc_244_49 fr_244_9 (mk_49 _) rfl ?_
  refine Bod.go dc_244_52 rfl ?_
  refine Bod.virt (r := []) dc_244_53 kr_244_94 ⟨Or.inr rfl, ow_138, cl_2⟩ (by rw [np_138]; rfl) (by rw [np_138]; rfl) (ob_of (mk_2 _)) (Nat.le_of_ble_eq_true rfl) (c4  ) ?_
  show Bod _ _ _ _ [_] _ _ _
  refine Bod.ic 1 (by decide) dc_244_56 ?_
  refine Bod.icF dc_244_57 rfl (k2_eq_F (k_ne a1 1 rfl rfl (by omega) (by omega) (by omega))) ?_
  refine Bod.go dc_244_60 rfl ?_
  refine Bod.get dc_244_61 fr_244_9 (mk_49 _) rfl ?_
  refine Bod.go dc_244_64 rfl ?_
  refine Bod.virt (r := []) dc_244_65 kr_244_94 ⟨Or.inr rfl, ow_138, cl_2⟩ (by rw [np_138]; rfl) (by rw [np_138]; rfl) (ob_of (mk_2 _)) (Nat.le_of_ble_eq_true rfl) (c5  ) ?_
  show Bod _ _ _ _ [_] _ _ _
  refine Bod.ic 2 (by decide) dc_244_68 ?_
  refine Bod.icF dc_244_69 rfl (k2_eq_F (k_ne a2 2 rfl rfl (by omega) (by omega) (by omega))) ?_
  refine Bod.ic 2 (by decide) dc_244_72 ?_
  exact Bod.retI dc_244_73 rt_244
theorem mPu_1 {d : Nat} {S : cS} {S1 : cS} {a : Nat} {S2 : cS} {u : Int64} {S3 : cS} {u1 : Int64} {S4 : cS} {S5 : cS} {rb : Int32} (ma : a < 2 ^ 20) (c1 : Ans (d + 8) 152 [.ref 46, .int (nI 1), .int (nI 1)] S (some (.int (nI a))) S1) (b1 : a ≠ 0) (c2 : Ans (d + 8) 132 [.ref 46, .int (nI 0)] S1 (some (.long u)) S2) (c3 : Ans (d + 8) 135 [.ref 46, .int (nI 0)] S2 (some (.long u1)) S3) (c4 : Ans (d + 8) 183 [.ref 2, .int (nI a), .long 0, .long 0, .long u, .long u1] S3 (some (.int (nI 1))) S4) (c5 : Ans (d + 8) 148 [.ref 46, .int (nI 3), .long ((1152921504606846976)), .long 0] S4 (some (.int rb)) S5) : Bod (d + 8) 245 0 [(0, .ref 49)] [] S (some (.int rb)) (S5) := by
  refine Bod.go dc_245_0 rfl ?_
  refine Bod.get dc_245_1 fr_245_15 (mk_49 _) rfl ?_
  refine Bod.ic 1 (by decide) dc_245_4 ?_
  refine Bod.ic 1 (by decide) dc_245_5 ?_
  refine Bod.virt (r := []) dc_245_6 kr_245_114 ⟨Or.inr rfl, ow_152, cl_9⟩ (by rw [np_152]; rfl) (by rw [np_152]; rfl) (ob_of (mk_46 _)) (Nat.le_of_ble_eq_true rfl) (c1  ) ?_
  show Bod _ _ _ _ [_] _ _ _
  refine Bod.istn dc_245_9 (by rw [ml_245]; exact Nat.le_of_ble_eq_true rfl) ?_
  refine Bod.go dc_245_10 rfl ?_
  refine Bod.ifT dc_245_11 rfl (k1_ne_T (k_ne a 0 rfl rfl (by omega) (by omega) (by omega))) ?_
  refine Bod.go dc_245_16 rfl ?_
  refine Bod.get dc_245_17 fr_245_9 (mk_49 _) rfl ?_
  refine Bod.go dc_245_20 rfl ?_
  refine Bod.go dc_245_21 rfl ?_
  refine Bod.go dc_245_22 rfl ?_
  refine Bod.go dc_245_23 rfl ?_
  refine Bod.get dc_245_24 fr_245_15 (mk_49 _) rfl ?_
  refine Bod.ic 0 (by decide) dc_245_27 ?_
  refine Bod.virt (r := [_, _, _, _]) dc_245_28 kr_245_80 ⟨Or.inr rfl, ow_132, cl_9⟩ (by rw [np_132]; rfl) (by rw [np_132]; rfl) (ob_of (mk_46 _)) (Nat.le_of_ble_eq_true rfl) (c2  ) ?_
  show Bod _ _ _ _ [_, _, _, _, _] _ _ _
  refine Bod.go dc_245_31 rfl ?_
  refine Bod.get dc_245_32 fr_245_15 (mk_49 _) rfl ?_
  refine Bod.ic 0 (by decide) dc_245_35 ?_
  refine Bod.virt (r := [_, _, _, _, _]) dc_245_36 kr_245_100 ⟨Or.inr rfl, ow_135, cl_9⟩ (by rw [np_135]; rfl) (by rw [np_135]; rfl) (ob_of (mk_46 _)) (Nat.le_of_ble_eq_true rfl) (c3  ) ?_
  show Bod _ _ _ _ [_, _, _, _, _, _] _ _ _
  refine Bod.virt (r := []) dc_245_39 kr_245_108 ⟨Or.inr rfl, ow_183, cl_2⟩ (by rw [np_183]; rfl) (by rw [np_183]; rfl) (ob_of (mk_2 _)) (Nat.le_of_ble_eq_true rfl) (c4  ) ?_
  show Bod _ _ _ _ [_] _ _ _
  refine Bod.ifT dc_245_42 rfl (k1_ne_T (k_ne 1 0 rfl rfl (by omega) (by omega) (by omega))) ?_
  refine Bod.go dc_245_48 rfl ?_
  refine Bod.get dc_245_49 fr_245_15 (mk_49 _) rfl ?_
  refine Bod.ic 3 (by decide) dc_245_52 ?_
  refine Bod.ldc2 dc_245_53 cj_245_117 ?_
  refine Bod.go dc_245_56 rfl ?_
  refine Bod.virt (r := []) dc_245_57 kr_245_71 ⟨Or.inr rfl, ow_148, cl_9⟩ (by rw [np_148]; rfl) (by rw [np_148]; rfl) (ob_of (mk_46 _)) (Nat.le_of_ble_eq_true rfl) (c5  ) ?_
  show Bod _ _ _ _ [_] _ _ _
  exact Bod.retI dc_245_60 rt_245
theorem mPu_2 {d : Nat} {S : cS} {S1 : cS} {a : Nat} {S2 : cS} {u : Int64} {S3 : cS} {u1 : Int64} {S4 : cS} (ma : a < 2 ^ 20) (c1 : Ans (d + 8) 152 [.ref 46, .int (nI 1), .int (nI 1)] S (some (.int (nI a))) S1) (b1 : a ≠ 0) (c2 : Ans (d + 8) 132 [.ref 46, .int (nI 0)] S1 (some (.long u)) S2) (c3 : Ans (d + 8) 135 [.ref 46, .int (nI 0)] S2 (some (.long u1)) S3) (c4 : Ans (d + 8) 183 [.ref 2, .int (nI a), .long 0, .long 0, .long u, .long u1] S3 (some (.int (nI 0))) S4) : Bod (d + 8) 245 0 [(0, .ref 49)] [] S (some (.int (nI 8))) (S4) := by
  refine Bod.go dc_245_0 rfl ?_
  refine Bod.get dc_245_1 fr_245_15 (mk_49 _) rfl ?_
  refine Bod.ic 1 (by decide) dc_245_4 ?_
  refine Bod.ic 1 (by decide) dc_245_5 ?_
  refine Bod.virt (r := []) dc_245_6 kr_245_114 ⟨Or.inr rfl, ow_152, cl_9⟩ (by rw [np_152]; rfl) (by rw [np_152]; rfl) (ob_of (mk_46 _)) (Nat.le_of_ble_eq_true rfl) (c1  ) ?_
  show Bod _ _ _ _ [_] _ _ _
  refine Bod.istn dc_245_9 (by rw [ml_245]; exact Nat.le_of_ble_eq_true rfl) ?_
  refine Bod.go dc_245_10 rfl ?_
  refine Bod.ifT dc_245_11 rfl (k1_ne_T (k_ne a 0 rfl rfl (by omega) (by omega) (by omega))) ?_
  refine Bod.go dc_245_16 rfl ?_
  refine Bod.get dc_245_17 fr_245_9 (mk_49 _) rfl ?_
  refine Bod.go dc_245_20 rfl ?_
  refine Bod.go dc_245_21 rfl ?_
  refine Bod.go dc_245_22 rfl ?_
  refine Bod.go dc_245_23 rfl ?_
  refine Bod.get dc_245_24 fr_245_15 (mk_49 _) rfl ?_
  refine Bod.ic 0 (by decide) dc_245_27 ?_
  refine Bod.virt (r := [_, _, _, _]) dc_245_28 kr_245_80 ⟨Or.inr rfl, ow_132, cl_9⟩ (by rw [np_132]; rfl) (by rw [np_132]; rfl) (ob_of (mk_46 _)) (Nat.le_of_ble_eq_true rfl) (c2  ) ?_
  show Bod _ _ _ _ [_, _, _, _, _] _ _ _
  refine Bod.go dc_245_31 rfl ?_
  refine Bod.get dc_245_32 fr_245_15 (mk_49 _) rfl ?_
  refine Bod.ic 0 (by decide) dc_245_35 ?_
  refine Bod.virt (r := [_, _, _, _, _]) dc_245_36 kr_245_100 ⟨Or.inr rfl, ow_135, cl_9⟩ (by rw [np_135]; rfl) (by rw [np_135]; rfl) (ob_of (mk_46 _)) (Nat.le_of_ble_eq_true rfl) (c3  ) ?_
  show Bod _ _ _ _ [_, _, _, _, _, _] _ _ _
  refine Bod.virt (r := []) dc_245_39 kr_245_108 ⟨Or.inr rfl, ow_183, cl_2⟩ (by rw [np_183]; rfl) (by rw [np_183]; rfl) (ob_of (mk_2 _)) (Nat.le_of_ble_eq_true rfl) (c4  ) ?_
  show Bod _ _ _ _ [_] _ _ _
  refine Bod.ifF dc_245_42 rfl (k1_ne_F (k_eq 0 0 rfl rfl (by omega))) ?_
  refine Bod.bip 8 (by decide) dc_245_45 ?_
  exact Bod.retI dc_245_47 rt_245
theorem mPu_3 {d : Nat} {S : cS} {S1 : cS} {a : Nat} (ma : a < 2 ^ 20) (c1 : Ans (d + 8) 152 [.ref 46, .int (nI 1), .int (nI 1)] S (some (.int (nI a))) S1) (b1 : a = 0) : Bod (d + 8) 245 0 [(0, .ref 49)] [] S (some (.int (nI 2))) (S1) := by
  refine Bod.go dc_245_0 rfl ?_
  refine Bod.get dc_245_1 fr_245_15 (mk_49 _) rfl ?_
  refine Bod.ic 1 (by decide) dc_245_4 ?_
  refine Bod.ic 1 (by decide) dc_245_5 ?_
  refine Bod.virt (r := []) dc_245_6 kr_245_114 ⟨Or.inr rfl, ow_152, cl_9⟩ (by rw [np_152]; rfl) (by rw [np_152]; rfl) (ob_of (mk_46 _)) (Nat.le_of_ble_eq_true rfl) (c1  ) ?_
  show Bod _ _ _ _ [_] _ _ _
  refine Bod.istn dc_245_9 (by rw [ml_245]; exact Nat.le_of_ble_eq_true rfl) ?_
  refine Bod.go dc_245_10 rfl ?_
  refine Bod.ifF dc_245_11 rfl (k1_ne_F (k_eq a 0 rfl rfl (by omega))) ?_
  refine Bod.ic 2 (by decide) dc_245_14 ?_
  exact Bod.retI dc_245_15 rt_245
theorem mPp_1 {d : Nat} {S : cS} {S1 : cS} {a : Nat} {S2 : cS} {a1 : Nat} {S3 : cS} {u : Int64} {S4 : cS} {u1 : Int64} {S5 : cS} {S6 : cS} {S7 : cS} {u2 : Int64} {S8 : cS} {u3 : Int64} {S9 : cS} {rb : Int32} (ma : a < 2 ^ 20) (c1 : Ans (d + 8) 152 [.ref 46, .int (nI 0), .int (nI 1)] S (some (.int (nI a))) S1) (b1 : a ≠ 0) (ma1 : a1 < 2 ^ 20) (c2 : Ans (d + 8) 140 [.ref 2, .int (nI a)] S1 (some (.int (nI a1))) S2) (b2 : 1 ≤ a1) (c3 : Ans (d + 8) 156 [.ref 2, .int (nI a), .int (nI (a1 - 1))] S2 (some (.long u)) S3) (c4 : Ans (d + 8) 158 [.ref 2, .int (nI a), .int (nI (a1 - 1))] S3 (some (.long u1)) S4) (c5 : Ans (d + 8) 153 [.ref 46, .long u, .long u1] S4 none S5) (c6 : Ans (d + 8) 213 [.ref 2, .int (nI a), .int (nI (a1 - 1))] S5 none S6) (c7 : Ans (d + 8) 132 [.ref 46, .int (nI 0)] S6 (some (.long u2)) S7) (c8 : Ans (d + 8) 135 [.ref 46, .int (nI 0)] S7 (some (.long u3)) S8) (c9 : Ans (d + 8) 148 [.ref 46, .int (nI 3), .long u2, .long u3] S8 (some (.int rb)) S9) : Bod (d + 8) 246 0 [(0, .ref 49)] [] S (some (.int rb)) (S9) := by
  refine Bod.go dc_246_0 rfl ?_
  refine Bod.get dc_246_1 fr_246_15 (mk_49 _) rfl ?_
  refine Bod.ic 0 (by decide) dc_246_4 ?_
  refine Bod.ic 1 (by decide) dc_246_5 ?_
  refine Bod.virt (r := []) dc_246_6 kr_246_114 ⟨Or.inr rfl, ow_152, cl_9⟩ (by rw [np_152]; rfl) (by rw [np_152]; rfl) (ob_of (mk_46 _)) (Nat.le_of_ble_eq_true rfl) (c1  ) ?_
  show Bod _ _ _ _ [_] _ _ _
  refine Bod.istn dc_246_9 (by rw [ml_246]; exact Nat.le_of_ble_eq_true rfl) ?_
  refine Bod.go dc_246_10 rfl ?_
  refine Bod.ifT dc_246_11 rfl (k1_ne_T (k_ne a 0 rfl rfl (by omega) (by omega) (by omega))) ?_
  refine Bod.go dc_246_16 rfl ?_
  refine Bod.get dc_246_17 fr_246_9 (mk_49 _) rfl ?_
  refine Bod.go dc_246_20 rfl ?_
  refine Bod.virt (r := []) dc_246_21 kr_246_97 ⟨Or.inr rfl, ow_140, cl_2⟩ (by rw [np_140]; rfl) (by rw [np_140]; rfl) (ob_of (mk_2 _)) (Nat.le_of_ble_eq_true rfl) (c2  ) ?_
  show Bod _ _ _ _ [_] _ _ _
  refine Bod.ic 1 (by decide) dc_246_24 ?_
  refine Bod.subN (a1 - 1) (by omega) (by omega) dc_246_25 ?_
  refine Bod.istn dc_246_26 (by rw [ml_246]; exact Nat.le_of_ble_eq_true rfl) ?_
  refine Bod.go dc_246_27 rfl ?_
  refine Bod.ifT dc_246_28 rfl (k1_ge_T (a1 - 1) rfl (by omega)) ?_
  refine Bod.go dc_246_33 rfl ?_
  refine Bod.get dc_246_34 fr_246_15 (mk_49 _) rfl ?_
  refine Bod.go dc_246_37 rfl ?_
  refine Bod.get dc_246_38 fr_246_9 (mk_49 _) rfl ?_
  refine Bod.go dc_246_41 rfl ?_
  refine Bod.go dc_246_42 rfl ?_
  refine Bod.virt (r := [_]) dc_246_43 kr_246_119 ⟨Or.inr rfl, ow_156, cl_2⟩ (by rw [np_156]; rfl) (by rw [np_156]; rfl) (ob_of (mk_2 _)) (Nat.le_of_ble_eq_true rfl) (c3  ) ?_
  show Bod _ _ _ _ [_, _] _ _ _
  refine Bod.go dc_246_46 rfl ?_
  refine Bod.get dc_246_47 fr_246_9 (mk_49 _) rfl ?_
  refine Bod.go dc_246_50 rfl ?_
  refine Bod.go dc_246_51 rfl ?_
  refine Bod.virt (r := [_, _]) dc_246_52 kr_246_123 ⟨Or.inr rfl, ow_158, cl_2⟩ (by rw [np_158]; rfl) (by rw [np_158]; rfl) (ob_of (mk_2 _)) (Nat.le_of_ble_eq_true rfl) (c4  ) ?_
  show Bod _ _ _ _ [_, _, _] _ _ _
  refine Bod.virt (r := []) dc_246_55 kr_246_126 ⟨Or.inr rfl, ow_153, cl_9⟩ (by rw [np_153]; rfl) (by rw [np_153]; rfl) (ob_of (mk_46 _)) (Nat.le_of_ble_eq_true rfl) (c5  ) ?_
  show Bod _ _ _ _ [] _ _ _
  refine Bod.go dc_246_58 rfl ?_
  refine Bod.get dc_246_59 fr_246_9 (mk_49 _) rfl ?_
  refine Bod.go dc_246_62 rfl ?_
  refine Bod.go dc_246_63 rfl ?_
  refine Bod.virt (r := []) dc_246_64 kr_246_129 ⟨Or.inr rfl, ow_213, cl_2⟩ (by rw [np_213]; rfl) (by rw [np_213]; rfl) (ob_of (mk_2 _)) (Nat.le_of_ble_eq_true rfl) (c6  ) ?_
  show Bod _ _ _ _ [] _ _ _
  refine Bod.go dc_246_67 rfl ?_
  refine Bod.get dc_246_68 fr_246_15 (mk_49 _) rfl ?_
  refine Bod.ic 3 (by decide) dc_246_71 ?_
  refine Bod.go dc_246_72 rfl ?_
  refine Bod.get dc_246_73 fr_246_15 (mk_49 _) rfl ?_
  refine Bod.ic 0 (by decide) dc_246_76 ?_
  refine Bod.virt (r := [_, _]) dc_246_77 kr_246_80 ⟨Or.inr rfl, ow_132, cl_9⟩ (by rw [np_132]; rfl) (by rw [np_132]; rfl) (ob_of (mk_46 _)) (Nat.le_of_ble_eq_true rfl) (c7  ) ?_
  show Bod _ _ _ _ [_, _, _] _ _ _
  refine Bod.go dc_246_80 rfl ?_
  refine Bod.get dc_246_81 fr_246_15 (mk_49 _) rfl ?_
  refine Bod.ic 0 (by decide) dc_246_84 ?_
  refine Bod.virt (r := [_, _, _]) dc_246_85 kr_246_100 ⟨Or.inr rfl, ow_135, cl_9⟩ (by rw [np_135]; rfl) (by rw [np_135]; rfl) (ob_of (mk_46 _)) (Nat.le_of_ble_eq_true rfl) (c8  ) ?_
  show Bod _ _ _ _ [_, _, _, _] _ _ _
  refine Bod.virt (r := []) dc_246_88 kr_246_71 ⟨Or.inr rfl, ow_148, cl_9⟩ (by rw [np_148]; rfl) (by rw [np_148]; rfl) (ob_of (mk_46 _)) (Nat.le_of_ble_eq_true rfl) (c9  ) ?_
  show Bod _ _ _ _ [_] _ _ _
  exact Bod.retI dc_246_91 rt_246
theorem mPp_2 {d : Nat} {S : cS} {S1 : cS} {a : Nat} (ma : a < 2 ^ 20) (c1 : Ans (d + 8) 152 [.ref 46, .int (nI 0), .int (nI 1)] S (some (.int (nI a))) S1) (b1 : a = 0) : Bod (d + 8) 246 0 [(0, .ref 49)] [] S (some (.int (nI 2))) (S1) := by
  refine Bod.go dc_246_0 rfl ?_
  refine Bod.get dc_246_1 fr_246_15 (mk_49 _) rfl ?_
  refine Bod.ic 0 (by decide) dc_246_4 ?_
  refine Bod.ic 1 (by decide) dc_246_5 ?_
  refine Bod.virt (r := []) dc_246_6 kr_246_114 ⟨Or.inr rfl, ow_152, cl_9⟩ (by rw [np_152]; rfl) (by rw [np_152]; rfl) (ob_of (mk_46 _)) (Nat.le_of_ble_eq_true rfl) (c1  ) ?_
  show Bod _ _ _ _ [_] _ _ _
  refine Bod.istn dc_246_9 (by rw [ml_246]; exact Nat.le_of_ble_eq_true rfl) ?_
  refine Bod.go dc_246_10 rfl ?_
  refine Bod.ifF dc_246_11 rfl (k1_ne_F (k_eq a 0 rfl rfl (by omega))) ?_
  refine Bod.ic 2 (by decide) dc_246_14 ?_
  exact Bod.retI dc_246_15 rt_246
theorem mRf_1 {d : Nat} {S : cS} {S1 : cS} {a : Nat} {S2 : cS} {a1 : Nat} {S3 : cS} {rb : Int32} (ma : a < 2 ^ 20) (c1 : Ans (d + 8) 136 [.ref 46, .int (nI 0)] S (some (.int (nI a))) S1) (b1 : a ≠ 0) (ma1 : a1 < 2 ^ 20) (c2 : Ans (d + 8) 250 [.ref 2, .int (nI a)] S1 (some (.int (nI a1))) S2) (c3 : Ans (d + 8) 148 [.ref 46, .int (nI 2), .long ((2305843009213693952)), .long ((nI a1).toInt64)] S2 (some (.int rb)) S3) : Bod (d + 8) 249 0 [(0, .ref 49)] [] S (some (.int rb)) (S3) := by
  refine Bod.go dc_249_0 rfl ?_
  refine Bod.get dc_249_1 fr_249_15 (mk_49 _) rfl ?_
  refine Bod.ic 0 (by decide) dc_249_4 ?_
  refine Bod.virt (r := []) dc_249_5 kr_249_91 ⟨Or.inr rfl, ow_136, cl_9⟩ (by rw [np_136]; rfl) (by rw [np_136]; rfl) (ob_of (mk_46 _)) (Nat.le_of_ble_eq_true rfl) (c1  ) ?_
  show Bod _ _ _ _ [_] _ _ _
  refine Bod.istn dc_249_8 (by rw [ml_249]; exact Nat.le_of_ble_eq_true rfl) ?_
  refine Bod.go dc_249_9 rfl ?_
  refine Bod.ifT dc_249_10 rfl (k1_ne_T (k_ne a 0 rfl rfl (by omega) (by omega) (by omega))) ?_
  refine Bod.go dc_249_17 rfl ?_
  refine Bod.get dc_249_18 fr_249_15 (mk_49 _) rfl ?_
  refine Bod.ic 2 (by decide) dc_249_21 ?_
  refine Bod.ldc2 dc_249_22 cj_249_64 ?_
  refine Bod.go dc_249_25 rfl ?_
  refine Bod.get dc_249_26 fr_249_9 (mk_49 _) rfl ?_
  refine Bod.go dc_249_29 rfl ?_
  refine Bod.virt (r := [_, _, _]) dc_249_30 kr_249_152 ⟨Or.inr rfl, ow_250, cl_2⟩ (by rw [np_250]; rfl) (by rw [np_250]; rfl) (ob_of (mk_2 _)) (Nat.le_of_ble_eq_true rfl) (c2  ) ?_
  show Bod _ _ _ _ [_, _, _, _] _ _ _
  refine Bod.go dc_249_33 rfl ?_
  refine Bod.virt (r := []) dc_249_34 kr_249_71 ⟨Or.inr rfl, ow_148, cl_9⟩ (by rw [np_148]; rfl) (by rw [np_148]; rfl) (ob_of (mk_46 _)) (Nat.le_of_ble_eq_true rfl) (c3  ) ?_
  show Bod _ _ _ _ [_] _ _ _
  exact Bod.retI dc_249_37 rt_249
theorem mRf_2 {d : Nat} {S : cS} {S1 : cS} {a : Nat} (ma : a < 2 ^ 20) (c1 : Ans (d + 8) 136 [.ref 46, .int (nI 0)] S (some (.int (nI a))) S1) (b1 : a = 0) : Bod (d + 8) 249 0 [(0, .ref 49)] [] S (some (.int (nI 2))) (S1) := by
  refine Bod.go dc_249_0 rfl ?_
  refine Bod.get dc_249_1 fr_249_15 (mk_49 _) rfl ?_
  refine Bod.ic 0 (by decide) dc_249_4 ?_
  refine Bod.virt (r := []) dc_249_5 kr_249_91 ⟨Or.inr rfl, ow_136, cl_9⟩ (by rw [np_136]; rfl) (by rw [np_136]; rfl) (ob_of (mk_46 _)) (Nat.le_of_ble_eq_true rfl) (c1  ) ?_
  show Bod _ _ _ _ [_] _ _ _
  refine Bod.istn dc_249_8 (by rw [ml_249]; exact Nat.le_of_ble_eq_true rfl) ?_
  refine Bod.go dc_249_9 rfl ?_
  refine Bod.ifF dc_249_10 rfl (k1_ne_F (k_eq a 0 rfl rfl (by omega))) ?_
  refine Bod.ic 2 (by decide) dc_249_13 ?_
  refine Bod.go dc_249_14 rfl ?_
  exact Bod.retI dc_249_37 rt_249
theorem mPt_1 {d : Nat} {S : cS} {x : Int32} {ot : Nat} (hot : sI S 4907 = nI ot) (mot : ot < 2 ^ 20) (b1 : 4000 ≤ ot) : Bod (d + 8) 230 0 [(0, .ref 49), (1, .int x)] [] S none (wI 4907 (nI (ot + 1)) S) := by
  refine Bod.go dc_230_0 rfl ?_
  refine Bod.get dc_230_1 fr_230_155 (mk_49 _) rfl ?_
  refine Bod.eqI (nI ot) (by first | assumption | rfl | exact congrArg nI (by omega) | (simp (disch := omega) only [rI, rIe, rA, rIA, rLA, rJA, rVI, rQI, rVA, rQA, upd_at,  rAI, rLI, rJI, nI_add, pk_sub, kc_0, kc_1, kc_2, kc_3, kc_4, kc_5, reduceIte, Nat.reduceEqDiff, Nat.add_zero, rI_hold, rI_hold, rL_hold, hot]; done)) ?_
  refine Bod.ifF dc_230_4 rfl (k1_lt_F ot rfl (by omega)) ?_
  refine Bod.go dc_230_7 rfl ?_
  refine Bod.get dc_230_8 fr_230_155 (mk_49 _) rfl ?_
  refine Bod.eqI (nI ot) (by first | assumption | rfl | exact congrArg nI (by omega) | (simp (disch := omega) only [rI, rIe, rA, rIA, rLA, rJA, rVI, rQI, rVA, rQA, upd_at,  rAI, rLI, rJI, nI_add, pk_sub, kc_0, kc_1, kc_2, kc_3, kc_4, kc_5, reduceIte, Nat.reduceEqDiff, Nat.add_zero, rI_hold, rI_hold, rL_hold, hot]; done)) ?_
  refine Bod.sip 4000 (by decide) dc_230_11 ?_
  refine Bod.icT dc_230_14 rfl (k2_ge_T ot 4000 rfl rfl (by omega) (by omega)) ?_
  refine Bod.go dc_230_28 rfl ?_
  refine Bod.go dc_230_29 rfl ?_
  refine Bod.get dc_230_30 fr_230_155 (mk_49 _) rfl ?_
  refine Bod.eqI (nI ot) (by first | assumption | rfl | exact congrArg nI (by omega) | (simp (disch := omega) only [rI, rIe, rA, rIA, rLA, rJA, rVI, rQI, rVA, rQA, upd_at,  rAI, rLI, rJI, nI_add, pk_sub, kc_0, kc_1, kc_2, kc_3, kc_4, kc_5, reduceIte, Nat.reduceEqDiff, Nat.add_zero, rI_hold, rI_hold, rL_hold, hot]; done)) ?_
  refine Bod.ic 1 (by decide) dc_230_33 ?_
  refine Bod.addN (ot + 1) (by omega) dc_230_34 ?_
  refine Bod.put dc_230_35 fr_230_155 (mk_49 _) (Nat.le_of_ble_eq_true rfl) pf_0_7 (st_4907 _ _) (mu_I _ _ _) ?_
  exact Bod.retV dc_230_38 rt_230
theorem mPt_2 {d : Nat} {S : cS} {x : Int32} {ot : Nat} (hot : sI S 4907 = nI ot) (mot : ot < 2 ^ 20) (b1 : ot < 4000) : Bod (d + 8) 230 0 [(0, .ref 49), (1, .int x)] [] S none (wI 4907 (nI (ot + 1)) (wA 50 ot (vp_nar .byte x.toInt8.toInt32) S)) := by
  refine Bod.go dc_230_0 rfl ?_
  refine Bod.get dc_230_1 fr_230_155 (mk_49 _) rfl ?_
  refine Bod.eqI (nI ot) (by first | assumption | rfl | exact congrArg nI (by omega) | (simp (disch := omega) only [rI, rIe, rA, rIA, rLA, rJA, rVI, rQI, rVA, rQA, upd_at,  rAI, rLI, rJI, nI_add, pk_sub, kc_0, kc_1, kc_2, kc_3, kc_4, kc_5, reduceIte, Nat.reduceEqDiff, Nat.add_zero, rI_hold, rI_hold, rL_hold, hot]; done)) ?_
  refine Bod.ifF dc_230_4 rfl (k1_lt_F ot rfl (by omega)) ?_
  refine Bod.go dc_230_7 rfl ?_
  refine Bod.get dc_230_8 fr_230_155 (mk_49 _) rfl ?_
  refine Bod.eqI (nI ot) (by first | assumption | rfl | exact congrArg nI (by omega) | (simp (disch := omega) only [rI, rIe, rA, rIA, rLA, rJA, rVI, rQI, rVA, rQA, upd_at,  rAI, rLI, rJI, nI_add, pk_sub, kc_0, kc_1, kc_2, kc_3, kc_4, kc_5, reduceIte, Nat.reduceEqDiff, Nat.add_zero, rI_hold, rI_hold, rL_hold, hot]; done)) ?_
  refine Bod.sip 4000 (by decide) dc_230_11 ?_
  refine Bod.icF dc_230_14 rfl (k2_ge_F ot 4000 rfl rfl (by omega) (by omega)) ?_
  refine Bod.go dc_230_17 rfl ?_
  refine Bod.get dc_230_18 fr_230_27 (mk_49 _) rfl ?_
  refine Bod.go dc_230_21 rfl ?_
  refine Bod.get dc_230_22 fr_230_155 (mk_49 _) rfl ?_
  refine Bod.eqI (nI ot) (by first | assumption | rfl | exact congrArg nI (by omega) | (simp (disch := omega) only [rI, rIe, rA, rIA, rLA, rJA, rVI, rQI, rVA, rQA, upd_at,  rAI, rLI, rJI, nI_add, pk_sub, kc_0, kc_1, kc_2, kc_3, kc_4, kc_5, reduceIte, Nat.reduceEqDiff, Nat.add_zero, rI_hold, rI_hold, rL_hold, hot]; done)) ?_
  refine Bod.go dc_230_25 rfl ?_
  refine Bod.go dc_230_26 rfl ?_
  refine Bod.bastN ot rfl (by omega) (by omega) dc_230_27 (mk_50 _) (sa_50 _ _ _) (mu_A _ _ _ _) ?_
  refine Bod.go dc_230_28 rfl ?_
  refine Bod.go dc_230_29 rfl ?_
  refine Bod.get dc_230_30 fr_230_155 (mk_49 _) rfl ?_
  refine Bod.eqI (nI ot) (by first | (simp (disch := omega) only [rI, rIe, rA, rIA, rLA, rJA, rVI, rQI, rVA, rQA, upd_at,  rAI, rLI, rJI, nI_add, pk_sub, kc_0, kc_1, kc_2, kc_3, kc_4, kc_5, reduceIte, Nat.reduceEqDiff, Nat.add_zero, rI_hold, rI_hold, rL_hold, hot]; done) | (simp (disch := omega) only [rI, rIe, rA, rIA, rLA, rJA, rVI, rQI, rVA, rQA, upd_at,  rAI, rLI, rJI, nI_add, pk_sub, kc_0, kc_1, kc_2, kc_3, kc_4, kc_5, reduceIte, Nat.reduceEqDiff, Nat.add_zero, rI_hold, rI_hold, rL_hold, hot]; exact congrArg nI (by omega))) ?_
  refine Bod.ic 1 (by decide) dc_230_33 ?_
  refine Bod.addN (ot + 1) (by omega) dc_230_34 ?_
  refine Bod.put dc_230_35 fr_230_155 (mk_49 _) (Nat.le_of_ble_eq_true rfl) pf_0_7 (st_4907 _ _) (mu_I _ _ _) ?_
  exact Bod.retV dc_230_38 rt_230
