/-! WAYS of the reference's statements: every call is a hypothesis -/
theorem ml_342 : sm_ml 342 = 6 := by decide +kernel
theorem dc_342_0 : decode (sm_cc 342) 0 = .ok (.aload_n 0, 1) := by decide +kernel
theorem dc_342_1 : decode (sm_cc 342) 1 = .ok (.dup, 1) := by decide +kernel
theorem dc_342_2 : decode (sm_cc 342) 2 = .ok (.getfield 190, 3) := by decide +kernel
theorem fr_342_190 : sm_at mt_f (sm_ow 342) 190 = some (190, 14, 15, 0, 2088) := by decide +kernel
theorem dc_342_5 : decode (sm_cc 342) 5 = .ok (.iconst 1, 1) := by decide +kernel
theorem dc_342_6 : decode (sm_cc 342) 6 = .ok (.iadd, 1) := by decide +kernel
theorem dc_342_7 : decode (sm_cc 342) 7 = .ok (.putfield 190, 3) := by decide +kernel
theorem dc_342_10 : decode (sm_cc 342) 10 = .ok (.aload_n 0, 1) := by decide +kernel
theorem dc_342_11 : decode (sm_cc 342) 11 = .ok (.bipush (11), 2) := by decide +kernel
theorem dc_342_13 : decode (sm_cc 342) 13 = .ok (.invokevirtual 305, 3) := by decide +kernel
theorem kr_342_305 : sm_at mt_k (sm_ow 342) 305 = some (305, 0, 325, 0, 2559) := by decide +kernel
theorem dc_342_16 : decode (sm_cc 342) 16 = .ok (.istore_n 3, 1) := by decide +kernel
theorem dc_342_17 : decode (sm_cc 342) 17 = .ok (.aload_n 0, 1) := by decide +kernel
theorem dc_342_18 : decode (sm_cc 342) 18 = .ok (.getfield 206, 3) := by decide +kernel
theorem fr_342_206 : sm_at mt_f (sm_ow 342) 206 = some (206, 14, 14, 0, 2087) := by decide +kernel
theorem dc_342_21 : decode (sm_cc 342) 21 = .ok (.getfield 219, 3) := by decide +kernel
theorem fr_342_219 : sm_at mt_f (sm_ow 342) 219 = some (219, 12, 1, 0, 2411) := by decide +kernel
theorem dc_342_24 : decode (sm_cc 342) 24 = .ok (.istore 4, 2) := by decide +kernel
theorem dc_342_26 : decode (sm_cc 342) 26 = .ok (.aload_n 0, 1) := by decide +kernel
theorem dc_342_27 : decode (sm_cc 342) 27 = .ok (.iconst 0, 1) := by decide +kernel
theorem dc_342_28 : decode (sm_cc 342) 28 = .ok (.iload_n 2, 1) := by decide +kernel
theorem dc_342_29 : decode (sm_cc 342) 29 = .ok (.invokevirtual 216, 3) := by decide +kernel
theorem kr_342_216 : sm_at mt_k (sm_ow 342) 216 = some (216, 0, 302, 0, 2465) := by decide +kernel
theorem dc_342_32 : decode (sm_cc 342) 32 = .ok (.aload_n 0, 1) := by decide +kernel
theorem dc_342_33 : decode (sm_cc 342) 33 = .ok (.iload_n 3, 1) := by decide +kernel
theorem dc_342_34 : decode (sm_cc 342) 34 = .ok (.invokevirtual 317, 3) := by decide +kernel
theorem kr_342_317 : sm_at mt_k (sm_ow 342) 317 = some (317, 0, 326, 0, 2563) := by decide +kernel
theorem dc_342_37 : decode (sm_cc 342) 37 = .ok (.aload_n 0, 1) := by decide +kernel
theorem dc_342_38 : decode (sm_cc 342) 38 = .ok (.iconst 0, 1) := by decide +kernel
theorem dc_342_39 : decode (sm_cc 342) 39 = .ok (.invokevirtual 302, 3) := by decide +kernel
theorem kr_342_302 : sm_at mt_k (sm_ow 342) 302 = some (302, 0, 306, 0, 2482) := by decide +kernel
theorem dc_342_42 : decode (sm_cc 342) 42 = .ok (.ifCond .ne (5), 3) := by decide +kernel
theorem dc_342_47 : decode (sm_cc 342) 47 = .ok (.aload_n 0, 1) := by decide +kernel
theorem dc_342_48 : decode (sm_cc 342) 48 = .ok (.bipush (12), 2) := by decide +kernel
theorem dc_342_50 : decode (sm_cc 342) 50 = .ok (.invokevirtual 305, 3) := by decide +kernel
theorem dc_342_53 : decode (sm_cc 342) 53 = .ok (.istore 5, 2) := by decide +kernel
theorem dc_342_55 : decode (sm_cc 342) 55 = .ok (.aload_n 0, 1) := by decide +kernel
theorem dc_342_56 : decode (sm_cc 342) 56 = .ok (.iload 4, 2) := by decide +kernel
theorem dc_342_58 : decode (sm_cc 342) 58 = .ok (.invokevirtual 332, 3) := by decide +kernel
theorem ow_343 : 14 = sm_ow 343 := by decide +kernel
theorem kr_342_332 : sm_at mt_k (sm_ow 342) 332 = some (332, 0, 343, 0, 2631) := by decide +kernel
theorem np_343 : sm_np 343 = 1 := by decide +kernel
theorem dc_342_61 : decode (sm_cc 342) 61 = .ok (.aload_n 0, 1) := by decide +kernel
theorem dc_342_62 : decode (sm_cc 342) 62 = .ok (.iload_n 1, 1) := by decide +kernel
theorem dc_342_63 : decode (sm_cc 342) 63 = .ok (.iconst 0, 1) := by decide +kernel
theorem dc_342_64 : decode (sm_cc 342) 64 = .ok (.invokevirtual 309, 3) := by decide +kernel
theorem kr_342_309 : sm_at mt_k (sm_ow 342) 309 = some (309, 0, 334, 0, 2595) := by decide +kernel
theorem dc_342_67 : decode (sm_cc 342) 67 = .ok (.ifCond .ne (5), 3) := by decide +kernel
theorem dc_342_72 : decode (sm_cc 342) 72 = .ok (.aload_n 0, 1) := by decide +kernel
theorem dc_342_73 : decode (sm_cc 342) 73 = .ok (.bipush (11), 2) := by decide +kernel
theorem dc_342_75 : decode (sm_cc 342) 75 = .ok (.iload 4, 2) := by decide +kernel
theorem dc_342_77 : decode (sm_cc 342) 77 = .ok (.invokevirtual 335, 3) := by decide +kernel
theorem kr_342_335 : sm_at mt_k (sm_ow 342) 335 = some (335, 0, 329, 0, 2575) := by decide +kernel
theorem dc_342_80 : decode (sm_cc 342) 80 = .ok (.aload_n 0, 1) := by decide +kernel
theorem dc_342_81 : decode (sm_cc 342) 81 = .ok (.iload 5, 2) := by decide +kernel
theorem dc_342_83 : decode (sm_cc 342) 83 = .ok (.invokevirtual 317, 3) := by decide +kernel
theorem dc_342_86 : decode (sm_cc 342) 86 = .ok (.aload_n 0, 1) := by decide +kernel
theorem dc_342_87 : decode (sm_cc 342) 87 = .ok (.invokevirtual 338, 3) := by decide +kernel
theorem ow_344 : 14 = sm_ow 344 := by decide +kernel
theorem kr_342_338 : sm_at mt_k (sm_ow 342) 338 = some (338, 0, 344, 0, 2635) := by decide +kernel
theorem np_344 : sm_np 344 = 0 := by decide +kernel
theorem dc_342_90 : decode (sm_cc 342) 90 = .ok (.iconst 1, 1) := by decide +kernel
theorem dc_342_91 : decode (sm_cc 342) 91 = .ok (.ireturn, 1) := by decide +kernel
theorem rt_342 : sm_rt 342 = some .boolean := by decide +kernel
theorem dc_342_70 : decode (sm_cc 342) 70 = .ok (.iconst 0, 1) := by decide +kernel
theorem dc_342_71 : decode (sm_cc 342) 71 = .ok (.ireturn, 1) := by decide +kernel
theorem dc_342_45 : decode (sm_cc 342) 45 = .ok (.iconst 0, 1) := by decide +kernel
theorem dc_342_46 : decode (sm_cc 342) 46 = .ok (.ireturn, 1) := by decide +kernel
theorem ml_345 : sm_ml 345 = 7 := by decide +kernel
theorem dc_345_0 : decode (sm_cc 345) 0 = .ok (.aload_n 0, 1) := by decide +kernel
theorem dc_345_1 : decode (sm_cc 345) 1 = .ok (.dup, 1) := by decide +kernel
theorem dc_345_2 : decode (sm_cc 345) 2 = .ok (.getfield 190, 3) := by decide +kernel
theorem fr_345_190 : sm_at mt_f (sm_ow 345) 190 = some (190, 14, 15, 0, 2088) := by decide +kernel
theorem dc_345_5 : decode (sm_cc 345) 5 = .ok (.iconst 1, 1) := by decide +kernel
theorem dc_345_6 : decode (sm_cc 345) 6 = .ok (.iadd, 1) := by decide +kernel
theorem dc_345_7 : decode (sm_cc 345) 7 = .ok (.putfield 190, 3) := by decide +kernel
theorem dc_345_10 : decode (sm_cc 345) 10 = .ok (.aload_n 0, 1) := by decide +kernel
theorem dc_345_11 : decode (sm_cc 345) 11 = .ok (.getfield 129, 3) := by decide +kernel
theorem fr_345_129 : sm_at mt_f (sm_ow 345) 129 = some (129, 14, 6, 0, 2079) := by decide +kernel
theorem dc_345_14 : decode (sm_cc 345) 14 = .ok (.aload_n 0, 1) := by decide +kernel
theorem dc_345_15 : decode (sm_cc 345) 15 = .ok (.getfield 190, 3) := by decide +kernel
theorem dc_345_18 : decode (sm_cc 345) 18 = .ok (.iaload, 1) := by decide +kernel
theorem dc_345_19 : decode (sm_cc 345) 19 = .ok (.iconst 1, 1) := by decide +kernel
theorem dc_345_20 : decode (sm_cc 345) 20 = .ok (.if_icmp .eq (8), 3) := by decide +kernel
theorem dc_345_28 : decode (sm_cc 345) 28 = .ok (.aload_n 0, 1) := by decide +kernel
theorem dc_345_29 : decode (sm_cc 345) 29 = .ok (.getfield 135, 3) := by decide +kernel
theorem fr_345_135 : sm_at mt_f (sm_ow 345) 135 = some (135, 14, 7, 0, 2080) := by decide +kernel
theorem dc_345_32 : decode (sm_cc 345) 32 = .ok (.aload_n 0, 1) := by decide +kernel
theorem dc_345_33 : decode (sm_cc 345) 33 = .ok (.getfield 190, 3) := by decide +kernel
theorem dc_345_36 : decode (sm_cc 345) 36 = .ok (.iaload, 1) := by decide +kernel
theorem dc_345_37 : decode (sm_cc 345) 37 = .ok (.istore_n 3, 1) := by decide +kernel
theorem dc_345_38 : decode (sm_cc 345) 38 = .ok (.aload_n 0, 1) := by decide +kernel
theorem dc_345_39 : decode (sm_cc 345) 39 = .ok (.dup, 1) := by decide +kernel
theorem dc_345_40 : decode (sm_cc 345) 40 = .ok (.getfield 190, 3) := by decide +kernel
theorem dc_345_43 : decode (sm_cc 345) 43 = .ok (.iconst 1, 1) := by decide +kernel
theorem dc_345_44 : decode (sm_cc 345) 44 = .ok (.iadd, 1) := by decide +kernel
theorem dc_345_45 : decode (sm_cc 345) 45 = .ok (.putfield 190, 3) := by decide +kernel
theorem dc_345_48 : decode (sm_cc 345) 48 = .ok (.aload_n 0, 1) := by decide +kernel
theorem dc_345_49 : decode (sm_cc 345) 49 = .ok (.iconst 5, 1) := by decide +kernel
theorem dc_345_50 : decode (sm_cc 345) 50 = .ok (.invokevirtual 312, 3) := by decide +kernel
theorem kr_345_312 : sm_at mt_k (sm_ow 345) 312 = some (312, 0, 309, 0, 2494) := by decide +kernel
theorem dc_345_53 : decode (sm_cc 345) 53 = .ok (.ifCond .ne (8), 3) := by decide +kernel
theorem dc_345_61 : decode (sm_cc 345) 61 = .ok (.aload_n 0, 1) := by decide +kernel
theorem dc_345_62 : decode (sm_cc 345) 62 = .ok (.dup, 1) := by decide +kernel
theorem dc_345_63 : decode (sm_cc 345) 63 = .ok (.getfield 190, 3) := by decide +kernel
theorem dc_345_66 : decode (sm_cc 345) 66 = .ok (.iconst 1, 1) := by decide +kernel
theorem dc_345_67 : decode (sm_cc 345) 67 = .ok (.iadd, 1) := by decide +kernel
theorem dc_345_68 : decode (sm_cc 345) 68 = .ok (.putfield 190, 3) := by decide +kernel
theorem dc_345_71 : decode (sm_cc 345) 71 = .ok (.aload_n 0, 1) := by decide +kernel
theorem dc_345_72 : decode (sm_cc 345) 72 = .ok (.iconst 0, 1) := by decide +kernel
theorem dc_345_73 : decode (sm_cc 345) 73 = .ok (.invokevirtual 302, 3) := by decide +kernel
theorem kr_345_302 : sm_at mt_k (sm_ow 345) 302 = some (302, 0, 306, 0, 2482) := by decide +kernel
theorem dc_345_76 : decode (sm_cc 345) 76 = .ok (.ifCond .ne (5), 3) := by decide +kernel
theorem dc_345_81 : decode (sm_cc 345) 81 = .ok (.aload_n 0, 1) := by decide +kernel
theorem dc_345_82 : decode (sm_cc 345) 82 = .ok (.bipush (31), 2) := by decide +kernel
theorem dc_345_84 : decode (sm_cc 345) 84 = .ok (.invokevirtual 269, 3) := by decide +kernel
theorem kr_345_269 : sm_at mt_k (sm_ow 345) 269 = some (269, 0, 322, 0, 2547) := by decide +kernel
theorem dc_345_87 : decode (sm_cc 345) 87 = .ok (.aload_n 0, 1) := by decide +kernel
theorem dc_345_88 : decode (sm_cc 345) 88 = .ok (.bipush (11), 2) := by decide +kernel
theorem dc_345_90 : decode (sm_cc 345) 90 = .ok (.invokevirtual 305, 3) := by decide +kernel
theorem kr_345_305 : sm_at mt_k (sm_ow 345) 305 = some (305, 0, 325, 0, 2559) := by decide +kernel
theorem dc_345_93 : decode (sm_cc 345) 93 = .ok (.istore 4, 2) := by decide +kernel
theorem dc_345_95 : decode (sm_cc 345) 95 = .ok (.aload_n 0, 1) := by decide +kernel
theorem dc_345_96 : decode (sm_cc 345) 96 = .ok (.getfield 206, 3) := by decide +kernel
theorem fr_345_206 : sm_at mt_f (sm_ow 345) 206 = some (206, 14, 14, 0, 2087) := by decide +kernel
theorem dc_345_99 : decode (sm_cc 345) 99 = .ok (.getfield 219, 3) := by decide +kernel
theorem fr_345_219 : sm_at mt_f (sm_ow 345) 219 = some (219, 12, 1, 0, 2411) := by decide +kernel
theorem dc_345_102 : decode (sm_cc 345) 102 = .ok (.istore 5, 2) := by decide +kernel
theorem dc_345_104 : decode (sm_cc 345) 104 = .ok (.aload_n 0, 1) := by decide +kernel
theorem dc_345_105 : decode (sm_cc 345) 105 = .ok (.iconst 0, 1) := by decide +kernel
theorem dc_345_106 : decode (sm_cc 345) 106 = .ok (.iload_n 2, 1) := by decide +kernel
theorem dc_345_107 : decode (sm_cc 345) 107 = .ok (.invokevirtual 216, 3) := by decide +kernel
theorem kr_345_216 : sm_at mt_k (sm_ow 345) 216 = some (216, 0, 302, 0, 2465) := by decide +kernel
theorem dc_345_110 : decode (sm_cc 345) 110 = .ok (.aload_n 0, 1) := by decide +kernel
theorem dc_345_111 : decode (sm_cc 345) 111 = .ok (.iload 4, 2) := by decide +kernel
theorem dc_345_113 : decode (sm_cc 345) 113 = .ok (.invokevirtual 317, 3) := by decide +kernel
theorem kr_345_317 : sm_at mt_k (sm_ow 345) 317 = some (317, 0, 326, 0, 2563) := by decide +kernel
theorem dc_345_116 : decode (sm_cc 345) 116 = .ok (.aload_n 0, 1) := by decide +kernel
theorem dc_345_117 : decode (sm_cc 345) 117 = .ok (.bipush (32), 2) := by decide +kernel
theorem dc_345_119 : decode (sm_cc 345) 119 = .ok (.invokevirtual 305, 3) := by decide +kernel
theorem dc_345_122 : decode (sm_cc 345) 122 = .ok (.istore 6, 2) := by decide +kernel
theorem dc_345_124 : decode (sm_cc 345) 124 = .ok (.aload_n 0, 1) := by decide +kernel
theorem dc_345_125 : decode (sm_cc 345) 125 = .ok (.bipush (6), 2) := by decide +kernel
theorem dc_345_127 : decode (sm_cc 345) 127 = .ok (.iload_n 3, 1) := by decide +kernel
theorem dc_345_128 : decode (sm_cc 345) 128 = .ok (.invokevirtual 341, 3) := by decide +kernel
theorem kr_345_341 : sm_at mt_k (sm_ow 345) 341 = some (341, 0, 317, 0, 2526) := by decide +kernel
theorem dc_345_131 : decode (sm_cc 345) 131 = .ok (.aload_n 0, 1) := by decide +kernel
theorem dc_345_132 : decode (sm_cc 345) 132 = .ok (.iload 5, 2) := by decide +kernel
theorem dc_345_134 : decode (sm_cc 345) 134 = .ok (.invokevirtual 332, 3) := by decide +kernel
theorem kr_345_332 : sm_at mt_k (sm_ow 345) 332 = some (332, 0, 343, 0, 2631) := by decide +kernel
theorem dc_345_137 : decode (sm_cc 345) 137 = .ok (.aload_n 0, 1) := by decide +kernel
theorem dc_345_138 : decode (sm_cc 345) 138 = .ok (.iload_n 1, 1) := by decide +kernel
theorem dc_345_139 : decode (sm_cc 345) 139 = .ok (.iconst 0, 1) := by decide +kernel
theorem dc_345_140 : decode (sm_cc 345) 140 = .ok (.invokevirtual 309, 3) := by decide +kernel
theorem kr_345_309 : sm_at mt_k (sm_ow 345) 309 = some (309, 0, 334, 0, 2595) := by decide +kernel
theorem dc_345_143 : decode (sm_cc 345) 143 = .ok (.ifCond .ne (5), 3) := by decide +kernel
theorem dc_345_148 : decode (sm_cc 345) 148 = .ok (.aload_n 0, 1) := by decide +kernel
theorem dc_345_149 : decode (sm_cc 345) 149 = .ok (.bipush (11), 2) := by decide +kernel
theorem dc_345_151 : decode (sm_cc 345) 151 = .ok (.iload 5, 2) := by decide +kernel
theorem dc_345_153 : decode (sm_cc 345) 153 = .ok (.invokevirtual 335, 3) := by decide +kernel
theorem kr_345_335 : sm_at mt_k (sm_ow 345) 335 = some (335, 0, 329, 0, 2575) := by decide +kernel
theorem dc_345_156 : decode (sm_cc 345) 156 = .ok (.aload_n 0, 1) := by decide +kernel
theorem dc_345_157 : decode (sm_cc 345) 157 = .ok (.iload 6, 2) := by decide +kernel
theorem dc_345_159 : decode (sm_cc 345) 159 = .ok (.invokevirtual 317, 3) := by decide +kernel
theorem dc_345_162 : decode (sm_cc 345) 162 = .ok (.aload_n 0, 1) := by decide +kernel
theorem dc_345_163 : decode (sm_cc 345) 163 = .ok (.invokevirtual 338, 3) := by decide +kernel
theorem kr_345_338 : sm_at mt_k (sm_ow 345) 338 = some (338, 0, 344, 0, 2635) := by decide +kernel
theorem dc_345_166 : decode (sm_cc 345) 166 = .ok (.aload_n 0, 1) := by decide +kernel
theorem dc_345_167 : decode (sm_cc 345) 167 = .ok (.bipush (33), 2) := by decide +kernel
theorem dc_345_169 : decode (sm_cc 345) 169 = .ok (.invokevirtual 269, 3) := by decide +kernel
theorem dc_345_172 : decode (sm_cc 345) 172 = .ok (.iconst 1, 1) := by decide +kernel
theorem dc_345_173 : decode (sm_cc 345) 173 = .ok (.ireturn, 1) := by decide +kernel
theorem rt_345 : sm_rt 345 = some .boolean := by decide +kernel
theorem dc_345_146 : decode (sm_cc 345) 146 = .ok (.iconst 0, 1) := by decide +kernel
theorem dc_345_147 : decode (sm_cc 345) 147 = .ok (.ireturn, 1) := by decide +kernel
theorem dc_345_79 : decode (sm_cc 345) 79 = .ok (.iconst 0, 1) := by decide +kernel
theorem dc_345_80 : decode (sm_cc 345) 80 = .ok (.ireturn, 1) := by decide +kernel
theorem dc_345_56 : decode (sm_cc 345) 56 = .ok (.aload_n 0, 1) := by decide +kernel
theorem dc_345_57 : decode (sm_cc 345) 57 = .ok (.invokevirtual 202, 3) := by decide +kernel
theorem kr_345_202 : sm_at mt_k (sm_ow 345) 202 = some (202, 0, 299, 0, 2454) := by decide +kernel
theorem dc_345_60 : decode (sm_cc 345) 60 = .ok (.ireturn, 1) := by decide +kernel
theorem dc_345_23 : decode (sm_cc 345) 23 = .ok (.aload_n 0, 1) := by decide +kernel
theorem dc_345_24 : decode (sm_cc 345) 24 = .ok (.invokevirtual 202, 3) := by decide +kernel
theorem dc_345_27 : decode (sm_cc 345) 27 = .ok (.ireturn, 1) := by decide +kernel
theorem ml_347 : sm_ml 347 = 4 := by decide +kernel
theorem dc_347_0 : decode (sm_cc 347) 0 = .ok (.aload_n 0, 1) := by decide +kernel
theorem dc_347_1 : decode (sm_cc 347) 1 = .ok (.dup, 1) := by decide +kernel
theorem dc_347_2 : decode (sm_cc 347) 2 = .ok (.getfield 190, 3) := by decide +kernel
theorem fr_347_190 : sm_at mt_f (sm_ow 347) 190 = some (190, 14, 15, 0, 2088) := by decide +kernel
theorem dc_347_5 : decode (sm_cc 347) 5 = .ok (.iconst 1, 1) := by decide +kernel
theorem dc_347_6 : decode (sm_cc 347) 6 = .ok (.iadd, 1) := by decide +kernel
theorem dc_347_7 : decode (sm_cc 347) 7 = .ok (.putfield 190, 3) := by decide +kernel
theorem dc_347_10 : decode (sm_cc 347) 10 = .ok (.aload_n 0, 1) := by decide +kernel
theorem dc_347_11 : decode (sm_cc 347) 11 = .ok (.bipush (34), 2) := by decide +kernel
theorem dc_347_13 : decode (sm_cc 347) 13 = .ok (.invokevirtual 305, 3) := by decide +kernel
theorem kr_347_305 : sm_at mt_k (sm_ow 347) 305 = some (305, 0, 325, 0, 2559) := by decide +kernel
theorem dc_347_16 : decode (sm_cc 347) 16 = .ok (.istore_n 2, 1) := by decide +kernel
theorem dc_347_17 : decode (sm_cc 347) 17 = .ok (.aload_n 0, 1) := by decide +kernel
theorem dc_347_18 : decode (sm_cc 347) 18 = .ok (.dup, 1) := by decide +kernel
theorem dc_347_19 : decode (sm_cc 347) 19 = .ok (.getfield 245, 3) := by decide +kernel
theorem fr_347_245 : sm_at mt_f (sm_ow 347) 245 = some (245, 14, 27, 0, 2100) := by decide +kernel
theorem dc_347_22 : decode (sm_cc 347) 22 = .ok (.iconst 1, 1) := by decide +kernel
theorem dc_347_23 : decode (sm_cc 347) 23 = .ok (.iadd, 1) := by decide +kernel
theorem dc_347_24 : decode (sm_cc 347) 24 = .ok (.putfield 245, 3) := by decide +kernel
theorem dc_347_27 : decode (sm_cc 347) 27 = .ok (.aload_n 0, 1) := by decide +kernel
theorem dc_347_28 : decode (sm_cc 347) 28 = .ok (.iload_n 1, 1) := by decide +kernel
theorem dc_347_29 : decode (sm_cc 347) 29 = .ok (.iconst 0, 1) := by decide +kernel
theorem dc_347_30 : decode (sm_cc 347) 30 = .ok (.invokevirtual 309, 3) := by decide +kernel
theorem kr_347_309 : sm_at mt_k (sm_ow 347) 309 = some (309, 0, 334, 0, 2595) := by decide +kernel
theorem dc_347_33 : decode (sm_cc 347) 33 = .ok (.ifCond .ne (5), 3) := by decide +kernel
theorem dc_347_38 : decode (sm_cc 347) 38 = .ok (.aload_n 0, 1) := by decide +kernel
theorem dc_347_39 : decode (sm_cc 347) 39 = .ok (.dup, 1) := by decide +kernel
theorem dc_347_40 : decode (sm_cc 347) 40 = .ok (.getfield 245, 3) := by decide +kernel
theorem dc_347_43 : decode (sm_cc 347) 43 = .ok (.iconst 1, 1) := by decide +kernel
theorem dc_347_44 : decode (sm_cc 347) 44 = .ok (.isub, 1) := by decide +kernel
theorem dc_347_45 : decode (sm_cc 347) 45 = .ok (.putfield 245, 3) := by decide +kernel
theorem dc_347_48 : decode (sm_cc 347) 48 = .ok (.aload_n 0, 1) := by decide +kernel
theorem dc_347_49 : decode (sm_cc 347) 49 = .ok (.bipush (35), 2) := by decide +kernel
theorem dc_347_51 : decode (sm_cc 347) 51 = .ok (.invokevirtual 269, 3) := by decide +kernel
theorem kr_347_269 : sm_at mt_k (sm_ow 347) 269 = some (269, 0, 322, 0, 2547) := by decide +kernel
theorem dc_347_54 : decode (sm_cc 347) 54 = .ok (.aload_n 0, 1) := by decide +kernel
theorem dc_347_55 : decode (sm_cc 347) 55 = .ok (.bipush (11), 2) := by decide +kernel
theorem dc_347_57 : decode (sm_cc 347) 57 = .ok (.invokevirtual 305, 3) := by decide +kernel
theorem dc_347_60 : decode (sm_cc 347) 60 = .ok (.istore_n 3, 1) := by decide +kernel
theorem dc_347_61 : decode (sm_cc 347) 61 = .ok (.aload_n 0, 1) := by decide +kernel
theorem dc_347_62 : decode (sm_cc 347) 62 = .ok (.iload_n 2, 1) := by decide +kernel
theorem dc_347_63 : decode (sm_cc 347) 63 = .ok (.invokevirtual 317, 3) := by decide +kernel
theorem kr_347_317 : sm_at mt_k (sm_ow 347) 317 = some (317, 0, 326, 0, 2563) := by decide +kernel
theorem dc_347_66 : decode (sm_cc 347) 66 = .ok (.aload_n 0, 1) := by decide +kernel
theorem dc_347_67 : decode (sm_cc 347) 67 = .ok (.getfield 129, 3) := by decide +kernel
theorem fr_347_129 : sm_at mt_f (sm_ow 347) 129 = some (129, 14, 6, 0, 2079) := by decide +kernel
theorem dc_347_70 : decode (sm_cc 347) 70 = .ok (.aload_n 0, 1) := by decide +kernel
theorem dc_347_71 : decode (sm_cc 347) 71 = .ok (.getfield 190, 3) := by decide +kernel
theorem dc_347_74 : decode (sm_cc 347) 74 = .ok (.iaload, 1) := by decide +kernel
theorem dc_347_75 : decode (sm_cc 347) 75 = .ok (.bipush (7), 2) := by decide +kernel
theorem dc_347_77 : decode (sm_cc 347) 77 = .ok (.if_icmp .eq (25), 3) := by decide +kernel
theorem dc_347_102 : decode (sm_cc 347) 102 = .ok (.aload_n 0, 1) := by decide +kernel
theorem dc_347_103 : decode (sm_cc 347) 103 = .ok (.invokevirtual 202, 3) := by decide +kernel
theorem kr_347_202 : sm_at mt_k (sm_ow 347) 202 = some (202, 0, 299, 0, 2454) := by decide +kernel
theorem dc_347_106 : decode (sm_cc 347) 106 = .ok (.ireturn, 1) := by decide +kernel
theorem rt_347 : sm_rt 347 = some .boolean := by decide +kernel
theorem dc_347_80 : decode (sm_cc 347) 80 = .ok (.aload_n 0, 1) := by decide +kernel
theorem dc_347_81 : decode (sm_cc 347) 81 = .ok (.getfield 141, 3) := by decide +kernel
theorem fr_347_141 : sm_at mt_f (sm_ow 347) 141 = some (141, 14, 9, 0, 2082) := by decide +kernel
theorem dc_347_84 : decode (sm_cc 347) 84 = .ok (.aload_n 0, 1) := by decide +kernel
theorem dc_347_85 : decode (sm_cc 347) 85 = .ok (.getfield 190, 3) := by decide +kernel
theorem dc_347_88 : decode (sm_cc 347) 88 = .ok (.iaload, 1) := by decide +kernel
theorem dc_347_89 : decode (sm_cc 347) 89 = .ok (.iload_n 1, 1) := by decide +kernel
theorem dc_347_90 : decode (sm_cc 347) 90 = .ok (.if_icmp .ne (12), 3) := by decide +kernel
theorem dc_347_93 : decode (sm_cc 347) 93 = .ok (.aload_n 0, 1) := by decide +kernel
theorem dc_347_94 : decode (sm_cc 347) 94 = .ok (.bipush (15), 2) := by decide +kernel
theorem dc_347_96 : decode (sm_cc 347) 96 = .ok (.invokevirtual 312, 3) := by decide +kernel
theorem kr_347_312 : sm_at mt_k (sm_ow 347) 312 = some (312, 0, 309, 0, 2494) := by decide +kernel
theorem dc_347_99 : decode (sm_cc 347) 99 = .ok (.ifCond .ne (8), 3) := by decide +kernel
theorem dc_347_107 : decode (sm_cc 347) 107 = .ok (.aload_n 0, 1) := by decide +kernel
theorem dc_347_108 : decode (sm_cc 347) 108 = .ok (.dup, 1) := by decide +kernel
theorem dc_347_109 : decode (sm_cc 347) 109 = .ok (.getfield 190, 3) := by decide +kernel
theorem dc_347_112 : decode (sm_cc 347) 112 = .ok (.iconst 1, 1) := by decide +kernel
theorem dc_347_113 : decode (sm_cc 347) 113 = .ok (.iadd, 1) := by decide +kernel
theorem dc_347_114 : decode (sm_cc 347) 114 = .ok (.putfield 190, 3) := by decide +kernel
theorem dc_347_117 : decode (sm_cc 347) 117 = .ok (.aload_n 0, 1) := by decide +kernel
theorem dc_347_118 : decode (sm_cc 347) 118 = .ok (.bipush (36), 2) := by decide +kernel
theorem dc_347_120 : decode (sm_cc 347) 120 = .ok (.invokevirtual 269, 3) := by decide +kernel
theorem dc_347_123 : decode (sm_cc 347) 123 = .ok (.aload_n 0, 1) := by decide +kernel
theorem dc_347_124 : decode (sm_cc 347) 124 = .ok (.getfield 129, 3) := by decide +kernel
theorem dc_347_127 : decode (sm_cc 347) 127 = .ok (.aload_n 0, 1) := by decide +kernel
theorem dc_347_128 : decode (sm_cc 347) 128 = .ok (.getfield 190, 3) := by decide +kernel
theorem dc_347_131 : decode (sm_cc 347) 131 = .ok (.iaload, 1) := by decide +kernel
theorem dc_347_132 : decode (sm_cc 347) 132 = .ok (.iconst 1, 1) := by decide +kernel
theorem dc_347_133 : decode (sm_cc 347) 133 = .ok (.if_icmp .ne (31), 3) := by decide +kernel
theorem dc_347_164 : decode (sm_cc 347) 164 = .ok (.aload_n 0, 1) := by decide +kernel
theorem dc_347_165 : decode (sm_cc 347) 165 = .ok (.bipush (20), 2) := by decide +kernel
theorem dc_347_167 : decode (sm_cc 347) 167 = .ok (.invokevirtual 269, 3) := by decide +kernel
theorem dc_347_170 : decode (sm_cc 347) 170 = .ok (.aload_n 0, 1) := by decide +kernel
theorem dc_347_171 : decode (sm_cc 347) 171 = .ok (.iload_n 1, 1) := by decide +kernel
theorem dc_347_172 : decode (sm_cc 347) 172 = .ok (.iconst 0, 1) := by decide +kernel
theorem dc_347_173 : decode (sm_cc 347) 173 = .ok (.invokevirtual 309, 3) := by decide +kernel
theorem dc_347_176 : decode (sm_cc 347) 176 = .ok (.ifCond .ne (5), 3) := by decide +kernel
theorem dc_347_181 : decode (sm_cc 347) 181 = .ok (.aload_n 0, 1) := by decide +kernel
theorem dc_347_182 : decode (sm_cc 347) 182 = .ok (.iload_n 3, 1) := by decide +kernel
theorem dc_347_183 : decode (sm_cc 347) 183 = .ok (.invokevirtual 317, 3) := by decide +kernel
theorem dc_347_186 : decode (sm_cc 347) 186 = .ok (.iconst 1, 1) := by decide +kernel
theorem dc_347_187 : decode (sm_cc 347) 187 = .ok (.ireturn, 1) := by decide +kernel
theorem dc_347_179 : decode (sm_cc 347) 179 = .ok (.iconst 0, 1) := by decide +kernel
theorem dc_347_180 : decode (sm_cc 347) 180 = .ok (.ireturn, 1) := by decide +kernel
theorem dc_347_136 : decode (sm_cc 347) 136 = .ok (.aload_n 0, 1) := by decide +kernel
theorem dc_347_137 : decode (sm_cc 347) 137 = .ok (.bipush (6), 2) := by decide +kernel
theorem dc_347_139 : decode (sm_cc 347) 139 = .ok (.aload_n 0, 1) := by decide +kernel
theorem dc_347_140 : decode (sm_cc 347) 140 = .ok (.getfield 135, 3) := by decide +kernel
theorem fr_347_135 : sm_at mt_f (sm_ow 347) 135 = some (135, 14, 7, 0, 2080) := by decide +kernel
theorem dc_347_143 : decode (sm_cc 347) 143 = .ok (.aload_n 0, 1) := by decide +kernel
theorem dc_347_144 : decode (sm_cc 347) 144 = .ok (.getfield 190, 3) := by decide +kernel
theorem dc_347_147 : decode (sm_cc 347) 147 = .ok (.iaload, 1) := by decide +kernel
theorem dc_347_148 : decode (sm_cc 347) 148 = .ok (.invokevirtual 341, 3) := by decide +kernel
theorem kr_347_341 : sm_at mt_k (sm_ow 347) 341 = some (341, 0, 317, 0, 2526) := by decide +kernel
theorem dc_347_151 : decode (sm_cc 347) 151 = .ok (.aload_n 0, 1) := by decide +kernel
theorem dc_347_152 : decode (sm_cc 347) 152 = .ok (.dup, 1) := by decide +kernel
theorem dc_347_153 : decode (sm_cc 347) 153 = .ok (.getfield 190, 3) := by decide +kernel
theorem dc_347_156 : decode (sm_cc 347) 156 = .ok (.iconst 1, 1) := by decide +kernel
theorem dc_347_157 : decode (sm_cc 347) 157 = .ok (.iadd, 1) := by decide +kernel
theorem dc_347_158 : decode (sm_cc 347) 158 = .ok (.putfield 190, 3) := by decide +kernel
theorem dc_347_161 : decode (sm_cc 347) 161 = .ok (.goto (9), 3) := by decide +kernel
theorem dc_347_36 : decode (sm_cc 347) 36 = .ok (.iconst 0, 1) := by decide +kernel
theorem dc_347_37 : decode (sm_cc 347) 37 = .ok (.ireturn, 1) := by decide +kernel
theorem ml_339 : sm_ml 339 = 2 := by decide +kernel
theorem dc_339_0 : decode (sm_cc 339) 0 = .ok (.aload_n 0, 1) := by decide +kernel
theorem dc_339_1 : decode (sm_cc 339) 1 = .ok (.aload_n 0, 1) := by decide +kernel
theorem dc_339_2 : decode (sm_cc 339) 2 = .ok (.getfield 236, 3) := by decide +kernel
theorem fr_339_236 : sm_at mt_f (sm_ow 339) 236 = some (236, 14, 22, 0, 2095) := by decide +kernel
theorem dc_339_5 : decode (sm_cc 339) 5 = .ok (.iload_n 1, 1) := by decide +kernel
theorem dc_339_6 : decode (sm_cc 339) 6 = .ok (.invokevirtual 353, 3) := by decide +kernel
theorem kr_339_353 : sm_at mt_k (sm_ow 339) 353 = some (353, 0, 319, 0, 2534) := by decide +kernel
theorem dc_339_9 : decode (sm_cc 339) 9 = .ok (.ifCond .lt (4), 3) := by decide +kernel
theorem dc_339_12 : decode (sm_cc 339) 12 = .ok (.return_, 1) := by decide +kernel
theorem rt_339 : sm_rt 339 = none := by decide +kernel
theorem dc_339_13 : decode (sm_cc 339) 13 = .ok (.aload_n 0, 1) := by decide +kernel
theorem dc_339_14 : decode (sm_cc 339) 14 = .ok (.getfield 347, 3) := by decide +kernel
theorem fr_339_347 : sm_at mt_f (sm_ow 339) 347 = some (347, 14, 19, 0, 2092) := by decide +kernel
theorem dc_339_17 : decode (sm_cc 339) 17 = .ok (.aload_n 0, 1) := by decide +kernel
theorem dc_339_18 : decode (sm_cc 339) 18 = .ok (.getfield 239, 3) := by decide +kernel
theorem fr_339_239 : sm_at mt_f (sm_ow 339) 239 = some (239, 14, 23, 0, 2096) := by decide +kernel
theorem dc_339_21 : decode (sm_cc 339) 21 = .ok (.iload_n 1, 1) := by decide +kernel
theorem dc_339_22 : decode (sm_cc 339) 22 = .ok (.iastore, 1) := by decide +kernel
theorem dc_339_23 : decode (sm_cc 339) 23 = .ok (.aload_n 0, 1) := by decide +kernel
theorem dc_339_24 : decode (sm_cc 339) 24 = .ok (.dup, 1) := by decide +kernel
theorem dc_339_25 : decode (sm_cc 339) 25 = .ok (.getfield 239, 3) := by decide +kernel
theorem dc_339_28 : decode (sm_cc 339) 28 = .ok (.iconst 1, 1) := by decide +kernel
theorem dc_339_29 : decode (sm_cc 339) 29 = .ok (.iadd, 1) := by decide +kernel
theorem dc_339_30 : decode (sm_cc 339) 30 = .ok (.putfield 239, 3) := by decide +kernel
theorem dc_339_33 : decode (sm_cc 339) 33 = .ok (.return_, 1) := by decide +kernel
theorem ml_340 : sm_ml 340 = 4 := by decide +kernel
theorem dc_340_0 : decode (sm_cc 340) 0 = .ok (.aload_n 0, 1) := by decide +kernel
theorem dc_340_1 : decode (sm_cc 340) 1 = .ok (.getfield 365, 3) := by decide +kernel
theorem fr_340_365 : sm_at mt_f (sm_ow 340) 365 = some (365, 14, 35, 0, 2108) := by decide +kernel
theorem dc_340_4 : decode (sm_cc 340) 4 = .ok (.aload_n 0, 1) := by decide +kernel
theorem dc_340_5 : decode (sm_cc 340) 5 = .ok (.getfield 254, 3) := by decide +kernel
theorem fr_340_254 : sm_at mt_f (sm_ow 340) 254 = some (254, 14, 37, 0, 2110) := by decide +kernel
theorem dc_340_8 : decode (sm_cc 340) 8 = .ok (.iload_n 1, 1) := by decide +kernel
theorem dc_340_9 : decode (sm_cc 340) 9 = .ok (.iastore, 1) := by decide +kernel
theorem dc_340_10 : decode (sm_cc 340) 10 = .ok (.aload_n 0, 1) := by decide +kernel
theorem dc_340_11 : decode (sm_cc 340) 11 = .ok (.dup, 1) := by decide +kernel
theorem dc_340_12 : decode (sm_cc 340) 12 = .ok (.getfield 254, 3) := by decide +kernel
theorem dc_340_15 : decode (sm_cc 340) 15 = .ok (.iconst 1, 1) := by decide +kernel
theorem dc_340_16 : decode (sm_cc 340) 16 = .ok (.iadd, 1) := by decide +kernel
theorem dc_340_17 : decode (sm_cc 340) 17 = .ok (.putfield 254, 3) := by decide +kernel
theorem dc_340_20 : decode (sm_cc 340) 20 = .ok (.aload_n 0, 1) := by decide +kernel
theorem dc_340_21 : decode (sm_cc 340) 21 = .ok (.aload_n 0, 1) := by decide +kernel
theorem dc_340_22 : decode (sm_cc 340) 22 = .ok (.getfield 236, 3) := by decide +kernel
theorem fr_340_236 : sm_at mt_f (sm_ow 340) 236 = some (236, 14, 22, 0, 2095) := by decide +kernel
theorem dc_340_25 : decode (sm_cc 340) 25 = .ok (.iload_n 1, 1) := by decide +kernel
theorem dc_340_26 : decode (sm_cc 340) 26 = .ok (.invokevirtual 353, 3) := by decide +kernel
theorem kr_340_353 : sm_at mt_k (sm_ow 340) 353 = some (353, 0, 319, 0, 2534) := by decide +kernel
theorem dc_340_29 : decode (sm_cc 340) 29 = .ok (.istore_n 2, 1) := by decide +kernel
theorem dc_340_30 : decode (sm_cc 340) 30 = .ok (.iload_n 2, 1) := by decide +kernel
theorem dc_340_31 : decode (sm_cc 340) 31 = .ok (.aload_n 0, 1) := by decide +kernel
theorem dc_340_32 : decode (sm_cc 340) 32 = .ok (.getfield 344, 3) := by decide +kernel
theorem fr_340_344 : sm_at mt_f (sm_ow 340) 344 = some (344, 14, 21, 0, 2094) := by decide +kernel
theorem dc_340_35 : decode (sm_cc 340) 35 = .ok (.aload_n 0, 1) := by decide +kernel
theorem dc_340_36 : decode (sm_cc 340) 36 = .ok (.getfield 236, 3) := by decide +kernel
theorem dc_340_39 : decode (sm_cc 340) 39 = .ok (.iaload, 1) := by decide +kernel
theorem dc_340_40 : decode (sm_cc 340) 40 = .ok (.if_icmp .ge (4), 3) := by decide +kernel
theorem dc_340_44 : decode (sm_cc 340) 44 = .ok (.aload_n 0, 1) := by decide +kernel
theorem dc_340_45 : decode (sm_cc 340) 45 = .ok (.dup, 1) := by decide +kernel
theorem dc_340_46 : decode (sm_cc 340) 46 = .ok (.getfield 239, 3) := by decide +kernel
theorem fr_340_239 : sm_at mt_f (sm_ow 340) 239 = some (239, 14, 23, 0, 2096) := by decide +kernel
theorem dc_340_49 : decode (sm_cc 340) 49 = .ok (.iconst 1, 1) := by decide +kernel
theorem dc_340_50 : decode (sm_cc 340) 50 = .ok (.isub, 1) := by decide +kernel
theorem dc_340_51 : decode (sm_cc 340) 51 = .ok (.putfield 239, 3) := by decide +kernel
theorem dc_340_54 : decode (sm_cc 340) 54 = .ok (.aload_n 0, 1) := by decide +kernel
theorem dc_340_55 : decode (sm_cc 340) 55 = .ok (.getfield 350, 3) := by decide +kernel
theorem fr_340_350 : sm_at mt_f (sm_ow 340) 350 = some (350, 14, 20, 0, 2093) := by decide +kernel
theorem dc_340_58 : decode (sm_cc 340) 58 = .ok (.aload_n 0, 1) := by decide +kernel
theorem dc_340_59 : decode (sm_cc 340) 59 = .ok (.getfield 236, 3) := by decide +kernel
theorem dc_340_62 : decode (sm_cc 340) 62 = .ok (.iaload, 1) := by decide +kernel
theorem dc_340_63 : decode (sm_cc 340) 63 = .ok (.iload_n 2, 1) := by decide +kernel
theorem dc_340_64 : decode (sm_cc 340) 64 = .ok (.iadd, 1) := by decide +kernel
theorem dc_340_65 : decode (sm_cc 340) 65 = .ok (.istore_n 3, 1) := by decide +kernel
theorem dc_340_43 : decode (sm_cc 340) 43 = .ok (.return_, 1) := by decide +kernel
theorem rt_340 : sm_rt 340 = none := by decide +kernel
theorem dc_340_66 : decode (sm_cc 340) 66 = .ok (.iload_n 3, 1) := by decide +kernel
theorem dc_340_67 : decode (sm_cc 340) 67 = .ok (.aload_n 0, 1) := by decide +kernel
theorem dc_340_68 : decode (sm_cc 340) 68 = .ok (.getfield 239, 3) := by decide +kernel
theorem dc_340_71 : decode (sm_cc 340) 71 = .ok (.if_icmp .ge (23), 3) := by decide +kernel
theorem dc_340_94 : decode (sm_cc 340) 94 = .ok (.return_, 1) := by decide +kernel
theorem dc_340_74 : decode (sm_cc 340) 74 = .ok (.aload_n 0, 1) := by decide +kernel
theorem dc_340_75 : decode (sm_cc 340) 75 = .ok (.getfield 347, 3) := by decide +kernel
theorem fr_340_347 : sm_at mt_f (sm_ow 340) 347 = some (347, 14, 19, 0, 2092) := by decide +kernel
theorem dc_340_78 : decode (sm_cc 340) 78 = .ok (.iload_n 3, 1) := by decide +kernel
theorem dc_340_79 : decode (sm_cc 340) 79 = .ok (.aload_n 0, 1) := by decide +kernel
theorem dc_340_80 : decode (sm_cc 340) 80 = .ok (.getfield 347, 3) := by decide +kernel
theorem dc_340_83 : decode (sm_cc 340) 83 = .ok (.iload_n 3, 1) := by decide +kernel
theorem dc_340_84 : decode (sm_cc 340) 84 = .ok (.iconst 1, 1) := by decide +kernel
theorem dc_340_85 : decode (sm_cc 340) 85 = .ok (.iadd, 1) := by decide +kernel
theorem dc_340_86 : decode (sm_cc 340) 86 = .ok (.iaload, 1) := by decide +kernel
theorem dc_340_87 : decode (sm_cc 340) 87 = .ok (.iastore, 1) := by decide +kernel
theorem dc_340_88 : decode (sm_cc 340) 88 = .ok (.iinc 3 (1), 3) := by decide +kernel
theorem dc_340_91 : decode (sm_cc 340) 91 = .ok (.goto (-25), 3) := by decide +kernel
theorem ml_341 : sm_ml 341 = 3 := by decide +kernel
theorem dc_341_0 : decode (sm_cc 341) 0 = .ok (.aload_n 0, 1) := by decide +kernel
theorem dc_341_1 : decode (sm_cc 341) 1 = .ok (.getfield 260, 3) := by decide +kernel
theorem fr_341_260 : sm_at mt_f (sm_ow 341) 260 = some (260, 14, 40, 0, 2113) := by decide +kernel
theorem dc_341_4 : decode (sm_cc 341) 4 = .ok (.istore_n 2, 1) := by decide +kernel
theorem dc_341_5 : decode (sm_cc 341) 5 = .ok (.iload_n 2, 1) := by decide +kernel
theorem dc_341_6 : decode (sm_cc 341) 6 = .ok (.aload_n 0, 1) := by decide +kernel
theorem dc_341_7 : decode (sm_cc 341) 7 = .ok (.getfield 257, 3) := by decide +kernel
theorem fr_341_257 : sm_at mt_f (sm_ow 341) 257 = some (257, 14, 39, 0, 2112) := by decide +kernel
theorem dc_341_10 : decode (sm_cc 341) 10 = .ok (.if_icmp .ge (35), 3) := by decide +kernel
theorem dc_341_45 : decode (sm_cc 341) 45 = .ok (.aload_n 0, 1) := by decide +kernel
theorem dc_341_46 : decode (sm_cc 341) 46 = .ok (.getfield 257, 3) := by decide +kernel
theorem dc_341_49 : decode (sm_cc 341) 49 = .ok (.aload_n 0, 1) := by decide +kernel
theorem dc_341_50 : decode (sm_cc 341) 50 = .ok (.getfield 260, 3) := by decide +kernel
theorem dc_341_53 : decode (sm_cc 341) 53 = .ok (.isub, 1) := by decide +kernel
theorem dc_341_54 : decode (sm_cc 341) 54 = .ok (.bipush (40), 2) := by decide +kernel
theorem dc_341_56 : decode (sm_cc 341) 56 = .ok (.if_icmp .lt (9), 3) := by decide +kernel
theorem dc_341_65 : decode (sm_cc 341) 65 = .ok (.aload_n 0, 1) := by decide +kernel
theorem dc_341_66 : decode (sm_cc 341) 66 = .ok (.getfield 385, 3) := by decide +kernel
theorem fr_341_385 : sm_at mt_f (sm_ow 341) 385 = some (385, 14, 38, 0, 2111) := by decide +kernel
theorem dc_341_69 : decode (sm_cc 341) 69 = .ok (.aload_n 0, 1) := by decide +kernel
theorem dc_341_70 : decode (sm_cc 341) 70 = .ok (.getfield 257, 3) := by decide +kernel
theorem dc_341_73 : decode (sm_cc 341) 73 = .ok (.iload_n 1, 1) := by decide +kernel
theorem dc_341_74 : decode (sm_cc 341) 74 = .ok (.iastore, 1) := by decide +kernel
theorem dc_341_75 : decode (sm_cc 341) 75 = .ok (.aload_n 0, 1) := by decide +kernel
theorem dc_341_76 : decode (sm_cc 341) 76 = .ok (.dup, 1) := by decide +kernel
theorem dc_341_77 : decode (sm_cc 341) 77 = .ok (.getfield 257, 3) := by decide +kernel
theorem dc_341_80 : decode (sm_cc 341) 80 = .ok (.iconst 1, 1) := by decide +kernel
theorem dc_341_81 : decode (sm_cc 341) 81 = .ok (.iadd, 1) := by decide +kernel
theorem dc_341_82 : decode (sm_cc 341) 82 = .ok (.putfield 257, 3) := by decide +kernel
theorem dc_341_85 : decode (sm_cc 341) 85 = .ok (.return_, 1) := by decide +kernel
theorem rt_341 : sm_rt 341 = none := by decide +kernel
theorem dc_341_59 : decode (sm_cc 341) 59 = .ok (.aload_n 0, 1) := by decide +kernel
theorem dc_341_60 : decode (sm_cc 341) 60 = .ok (.bipush (39), 2) := by decide +kernel
theorem dc_341_62 : decode (sm_cc 341) 62 = .ok (.invokevirtual 269, 3) := by decide +kernel
theorem kr_341_269 : sm_at mt_k (sm_ow 341) 269 = some (269, 0, 322, 0, 2547) := by decide +kernel
theorem dc_341_13 : decode (sm_cc 341) 13 = .ok (.aload_n 0, 1) := by decide +kernel
theorem dc_341_14 : decode (sm_cc 341) 14 = .ok (.getfield 385, 3) := by decide +kernel
theorem dc_341_17 : decode (sm_cc 341) 17 = .ok (.iload_n 2, 1) := by decide +kernel
theorem dc_341_18 : decode (sm_cc 341) 18 = .ok (.iaload, 1) := by decide +kernel
theorem dc_341_19 : decode (sm_cc 341) 19 = .ok (.iload_n 1, 1) := by decide +kernel
theorem dc_341_20 : decode (sm_cc 341) 20 = .ok (.if_icmp .eq (6), 3) := by decide +kernel
theorem dc_341_26 : decode (sm_cc 341) 26 = .ok (.aload_n 0, 1) := by decide +kernel
theorem dc_341_27 : decode (sm_cc 341) 27 = .ok (.bipush (38), 2) := by decide +kernel
theorem dc_341_29 : decode (sm_cc 341) 29 = .ok (.aload_n 0, 1) := by decide +kernel
theorem dc_341_30 : decode (sm_cc 341) 30 = .ok (.getfield 257, 3) := by decide +kernel
theorem dc_341_33 : decode (sm_cc 341) 33 = .ok (.iload_n 2, 1) := by decide +kernel
theorem dc_341_34 : decode (sm_cc 341) 34 = .ok (.isub, 1) := by decide +kernel
theorem dc_341_35 : decode (sm_cc 341) 35 = .ok (.invokevirtual 216, 3) := by decide +kernel
theorem kr_341_216 : sm_at mt_k (sm_ow 341) 216 = some (216, 0, 302, 0, 2465) := by decide +kernel
theorem dc_341_38 : decode (sm_cc 341) 38 = .ok (.return_, 1) := by decide +kernel
theorem dc_341_23 : decode (sm_cc 341) 23 = .ok (.goto (16), 3) := by decide +kernel
theorem dc_341_39 : decode (sm_cc 341) 39 = .ok (.iinc 2 (1), 3) := by decide +kernel
theorem dc_341_42 : decode (sm_cc 341) 42 = .ok (.goto (-37), 3) := by decide +kernel
theorem zWh_1 {d : Nat} {S : cS} {la : Nat} {lb : Nat} {k : Nat} {S1 : cS} {a : Nat} {m : Nat} {u : Nat} {n1 : Nat} {S2 : cS} {S3 : cS} {S4 : cS} {S5 : cS} {a1 : Nat} {S6 : cS} {S7 : cS} {S8 : cS} {S9 : cS} {S10 : cS} (mla : la < 2 ^ 20) (mlb : lb < 2 ^ 20) (hk : sI S 6115 = nI k) (mk : k < 6001) (ma : a < 2 ^ 20) (c1 : Ans (d + 8) 325 [.ref 61, .int (nI 11)] (wI 6115 (nI (k + 1)) S) (some (.int (nI a))) S1) (hm : 108 ≤ m) (hv1 : sV S1 6114 = .ref m) (hz2 : (sS S1)[m - 108]? = some (12, u)) (hn1 : sI S1 (100 * m + 1) = nI n1) (mn1 : n1 < 2 ^ 20) (c2 : Ans (d + 8) 302 [.ref 61, .int (nI 0), .int (nI lb)] S1 none S2) (c3 : Ans (d + 8) 326 [.ref 61, .int (nI a)] S2 none S3) (c4 : Ans (d + 8) 306 [.ref 61, .int (nI 0)] S3 (some (.int (nI 1))) S4) (ma1 : a1 < 2 ^ 20) (c5 : Ans (d + 8) 325 [.ref 61, .int (nI 12)] S4 (some (.int (nI a1))) S5) (c6 : Ans (d + 8) 343 [.ref 61, .int (nI n1)] S5 none S6) (c7 : Ans (d + 8) 334 [.ref 61, .int (nI la), .int (nI 0)] S6 (some (.int (nI 1))) S7) (c8 : Ans (d + 8) 329 [.ref 61, .int (nI 11), .int (nI n1)] S7 none S8) (c9 : Ans (d + 8) 326 [.ref 61, .int (nI a1)] S8 none S9) (c10 : Ans (d + 8) 344 [.ref 61] S9 none S10) : Bod (d + 8) 342 0 [(0, .ref 61), (1, .int (nI la)), (2, .int (nI lb))] [] S (some (.int 1)) (S10) := by
  refine Bod.go dc_342_0 rfl ?_
  refine Bod.go dc_342_1 rfl ?_
  refine Bod.get dc_342_2 fr_342_190 (mk_61 _) rfl ?_
  refine Bod.eqI (nI k) (by first | assumption | rfl | exact congrArg nI (by omega) | (simp (disch := omega) only [rI, rIe, rA, rIA, rLA, rJA, rVI, rQI, rVA, rQA, upd_at,  rAI, rLI, rJI, nI_add, pk_sub, kc_0, kc_1, kc_2, kc_3, kc_4, kc_5, reduceIte, Nat.reduceEqDiff, Nat.add_zero, rI_hold, rI_hold, rL_hold, hk]; done)) ?_
  refine Bod.ic 1 (by decide) dc_342_5 ?_
  refine Bod.addN (k + 1) (by omega) dc_342_6 ?_
  refine Bod.put dc_342_7 fr_342_190 (mk_61 _) (Nat.le_of_ble_eq_true rfl) pf_14_15 (st_6115 _ _) (mu_I _ _ _) ?_
  refine Bod.go dc_342_10 rfl ?_
  refine Bod.bip 11 (by decide) dc_342_11 ?_
  refine Bod.virt (r := []) dc_342_13 kr_342_305 ⟨Or.inl rfl, ow_325, cl_14⟩ (by rw [np_325]; rfl) (by rw [np_325]; rfl) (ob_of (mk_61 _)) (Nat.le_of_ble_eq_true rfl) (c1  ) ?_
  show Bod _ _ _ _ [_] _ _ _
  refine Bod.istn dc_342_16 (by rw [ml_342]; exact Nat.le_of_ble_eq_true rfl) ?_
  refine Bod.go dc_342_17 rfl ?_
  refine Bod.get dc_342_18 fr_342_206 (mk_61 _) rfl ?_
  refine Bod.eqV (.ref m) (by first | exact hv1 | (simp only [rIV, rJV, rAV, rLV, rQV, rV, reduceIte, Nat.reduceEqDiff]; exact hv1)) ?_
  refine Bod.get dc_342_21 fr_342_219 (mk_code hm (by first | exact hz2 | (simp only [rIS, rJS, rAS, rLS, rVS, rQS, rS_hold]; exact hz2))) rfl ?_
  refine Bod.eqI (nI n1) (by first | (simp (disch := omega) only [rI, rIe, rA, rIA, rLA, rJA, rVI, rQI, rVA, rQA, upd_at,  rAI, rLI, rJI, nI_add, pk_sub, kc_0, kc_1, kc_2, kc_3, kc_4, kc_5, reduceIte, Nat.reduceEqDiff, Nat.add_zero, rI_hold, rI_hold, rL_hold, hk, hn1]; done) | (simp (disch := omega) only [rI, rIe, rA, rIA, rLA, rJA, rVI, rQI, rVA, rQA, upd_at,  rAI, rLI, rJI, nI_add, pk_sub, kc_0, kc_1, kc_2, kc_3, kc_4, kc_5, reduceIte, Nat.reduceEqDiff, Nat.add_zero, rI_hold, rI_hold, rL_hold, hk, hn1]; exact congrArg nI (by omega))) ?_
  refine Bod.ist dc_342_24 (by rw [ml_342]; exact Nat.le_of_ble_eq_true rfl) ?_
  refine Bod.go dc_342_26 rfl ?_
  refine Bod.ic 0 (by decide) dc_342_27 ?_
  refine Bod.go dc_342_28 rfl ?_
  refine Bod.virt (r := []) dc_342_29 kr_342_216 ⟨Or.inl rfl, ow_302, cl_14⟩ (by rw [np_302]; rfl) (by rw [np_302]; rfl) (ob_of (mk_61 _)) (Nat.le_of_ble_eq_true rfl) (c2  ) ?_
  show Bod _ _ _ _ [] _ _ _
  refine Bod.go dc_342_32 rfl ?_
  refine Bod.go dc_342_33 rfl ?_
  refine Bod.virt (r := []) dc_342_34 kr_342_317 ⟨Or.inl rfl, ow_326, cl_14⟩ (by rw [np_326]; rfl) (by rw [np_326]; rfl) (ob_of (mk_61 _)) (Nat.le_of_ble_eq_true rfl) (c3  ) ?_
  show Bod _ _ _ _ [] _ _ _
  refine Bod.go dc_342_37 rfl ?_
  refine Bod.ic 0 (by decide) dc_342_38 ?_
  refine Bod.virt (r := []) dc_342_39 kr_342_302 ⟨Or.inl rfl, ow_306, cl_14⟩ (by rw [np_306]; rfl) (by rw [np_306]; rfl) (ob_of (mk_61 _)) (Nat.le_of_ble_eq_true rfl) (c4  ) ?_
  show Bod _ _ _ _ [_] _ _ _
  refine Bod.ifT dc_342_42 rfl (k1_ne_T (k_ne 1 0 rfl rfl (by omega) (by omega) (by omega))) ?_
  refine Bod.go dc_342_47 rfl ?_
  refine Bod.bip 12 (by decide) dc_342_48 ?_
  refine Bod.virt (r := []) dc_342_50 kr_342_305 ⟨Or.inl rfl, ow_325, cl_14⟩ (by rw [np_325]; rfl) (by rw [np_325]; rfl) (ob_of (mk_61 _)) (Nat.le_of_ble_eq_true rfl) (c5  ) ?_
  show Bod _ _ _ _ [_] _ _ _
  refine Bod.ist dc_342_53 (by rw [ml_342]; exact Nat.le_of_ble_eq_true rfl) ?_
  refine Bod.go dc_342_55 rfl ?_
  refine Bod.go dc_342_56 rfl ?_
  refine Bod.virt (r := []) dc_342_58 kr_342_332 ⟨Or.inl rfl, ow_343, cl_14⟩ (by rw [np_343]; rfl) (by rw [np_343]; rfl) (ob_of (mk_61 _)) (Nat.le_of_ble_eq_true rfl) (c6  ) ?_
  show Bod _ _ _ _ [] _ _ _
  refine Bod.go dc_342_61 rfl ?_
  refine Bod.go dc_342_62 rfl ?_
  refine Bod.ic 0 (by decide) dc_342_63 ?_
  refine Bod.virt (r := []) dc_342_64 kr_342_309 ⟨Or.inl rfl, ow_334, cl_14⟩ (by rw [np_334]; rfl) (by rw [np_334]; rfl) (ob_of (mk_61 _)) (Nat.le_of_ble_eq_true rfl) (c7  ) ?_
  show Bod _ _ _ _ [_] _ _ _
  refine Bod.ifT dc_342_67 rfl (k1_ne_T (k_ne 1 0 rfl rfl (by omega) (by omega) (by omega))) ?_
  refine Bod.go dc_342_72 rfl ?_
  refine Bod.bip 11 (by decide) dc_342_73 ?_
  refine Bod.go dc_342_75 rfl ?_
  refine Bod.virt (r := []) dc_342_77 kr_342_335 ⟨Or.inl rfl, ow_329, cl_14⟩ (by rw [np_329]; rfl) (by rw [np_329]; rfl) (ob_of (mk_61 _)) (Nat.le_of_ble_eq_true rfl) (c8  ) ?_
  show Bod _ _ _ _ [] _ _ _
  refine Bod.go dc_342_80 rfl ?_
  refine Bod.go dc_342_81 rfl ?_
  refine Bod.virt (r := []) dc_342_83 kr_342_317 ⟨Or.inl rfl, ow_326, cl_14⟩ (by rw [np_326]; rfl) (by rw [np_326]; rfl) (ob_of (mk_61 _)) (Nat.le_of_ble_eq_true rfl) (c9  ) ?_
  show Bod _ _ _ _ [] _ _ _
  refine Bod.go dc_342_86 rfl ?_
  refine Bod.virt (r := []) dc_342_87 kr_342_338 ⟨Or.inl rfl, ow_344, cl_14⟩ (by rw [np_344]; rfl) (by rw [np_344]; rfl) (ob_of (mk_61 _)) (Nat.le_of_ble_eq_true rfl) (c10  ) ?_
  show Bod _ _ _ _ [] _ _ _
  refine Bod.ic 1 (by decide) dc_342_90 ?_
  exact Bod.retZ dc_342_91 rt_342 (Or.inr rfl)
theorem zWh_2 {d : Nat} {S : cS} {la : Nat} {lb : Nat} {k : Nat} {S1 : cS} {a : Nat} {m : Nat} {u : Nat} {n1 : Nat} {S2 : cS} {S3 : cS} {S4 : cS} {S5 : cS} {a1 : Nat} {S6 : cS} {S7 : cS} (mla : la < 2 ^ 20) (mlb : lb < 2 ^ 20) (hk : sI S 6115 = nI k) (mk : k < 6001) (ma : a < 2 ^ 20) (c1 : Ans (d + 8) 325 [.ref 61, .int (nI 11)] (wI 6115 (nI (k + 1)) S) (some (.int (nI a))) S1) (hm : 108 ≤ m) (hv1 : sV S1 6114 = .ref m) (hz2 : (sS S1)[m - 108]? = some (12, u)) (hn1 : sI S1 (100 * m + 1) = nI n1) (mn1 : n1 < 2 ^ 20) (c2 : Ans (d + 8) 302 [.ref 61, .int (nI 0), .int (nI lb)] S1 none S2) (c3 : Ans (d + 8) 326 [.ref 61, .int (nI a)] S2 none S3) (c4 : Ans (d + 8) 306 [.ref 61, .int (nI 0)] S3 (some (.int (nI 1))) S4) (ma1 : a1 < 2 ^ 20) (c5 : Ans (d + 8) 325 [.ref 61, .int (nI 12)] S4 (some (.int (nI a1))) S5) (c6 : Ans (d + 8) 343 [.ref 61, .int (nI n1)] S5 none S6) (c7 : Ans (d + 8) 334 [.ref 61, .int (nI la), .int (nI 0)] S6 (some (.int (nI 0))) S7) : Bod (d + 8) 342 0 [(0, .ref 61), (1, .int (nI la)), (2, .int (nI lb))] [] S (some (.int 0)) (S7) := by
  refine Bod.go dc_342_0 rfl ?_
  refine Bod.go dc_342_1 rfl ?_
  refine Bod.get dc_342_2 fr_342_190 (mk_61 _) rfl ?_
  refine Bod.eqI (nI k) (by first | assumption | rfl | exact congrArg nI (by omega) | (simp (disch := omega) only [rI, rIe, rA, rIA, rLA, rJA, rVI, rQI, rVA, rQA, upd_at,  rAI, rLI, rJI, nI_add, pk_sub, kc_0, kc_1, kc_2, kc_3, kc_4, kc_5, reduceIte, Nat.reduceEqDiff, Nat.add_zero, rI_hold, rI_hold, rL_hold, hk]; done)) ?_
  refine Bod.ic 1 (by decide) dc_342_5 ?_
  refine Bod.addN (k + 1) (by omega) dc_342_6 ?_
  refine Bod.put dc_342_7 fr_342_190 (mk_61 _) (Nat.le_of_ble_eq_true rfl) pf_14_15 (st_6115 _ _) (mu_I _ _ _) ?_
  refine Bod.go dc_342_10 rfl ?_
  refine Bod.bip 11 (by decide) dc_342_11 ?_
  refine Bod.virt (r := []) dc_342_13 kr_342_305 ⟨Or.inl rfl, ow_325, cl_14⟩ (by rw [np_325]; rfl) (by rw [np_325]; rfl) (ob_of (mk_61 _)) (Nat.le_of_ble_eq_true rfl) (c1  ) ?_
  show Bod _ _ _ _ [_] _ _ _
  refine Bod.istn dc_342_16 (by rw [ml_342]; exact Nat.le_of_ble_eq_true rfl) ?_
  refine Bod.go dc_342_17 rfl ?_
  refine Bod.get dc_342_18 fr_342_206 (mk_61 _) rfl ?_
  refine Bod.eqV (.ref m) (by first | exact hv1 | (simp only [rIV, rJV, rAV, rLV, rQV, rV, reduceIte, Nat.reduceEqDiff]; exact hv1)) ?_
  refine Bod.get dc_342_21 fr_342_219 (mk_code hm (by first | exact hz2 | (simp only [rIS, rJS, rAS, rLS, rVS, rQS, rS_hold]; exact hz2))) rfl ?_
  refine Bod.eqI (nI n1) (by first | (simp (disch := omega) only [rI, rIe, rA, rIA, rLA, rJA, rVI, rQI, rVA, rQA, upd_at,  rAI, rLI, rJI, nI_add, pk_sub, kc_0, kc_1, kc_2, kc_3, kc_4, kc_5, reduceIte, Nat.reduceEqDiff, Nat.add_zero, rI_hold, rI_hold, rL_hold, hk, hn1]; done) | (simp (disch := omega) only [rI, rIe, rA, rIA, rLA, rJA, rVI, rQI, rVA, rQA, upd_at,  rAI, rLI, rJI, nI_add, pk_sub, kc_0, kc_1, kc_2, kc_3, kc_4, kc_5, reduceIte, Nat.reduceEqDiff, Nat.add_zero, rI_hold, rI_hold, rL_hold, hk, hn1]; exact congrArg nI (by omega))) ?_
  refine Bod.ist dc_342_24 (by rw [ml_342]; exact Nat.le_of_ble_eq_true rfl) ?_
  refine Bod.go dc_342_26 rfl ?_
  refine Bod.ic 0 (by decide) dc_342_27 ?_
  refine Bod.go dc_342_28 rfl ?_
  refine Bod.virt (r := []) dc_342_29 kr_342_216 ⟨Or.inl rfl, ow_302, cl_14⟩ (by rw [np_302]; rfl) (by rw [np_302]; rfl) (ob_of (mk_61 _)) (Nat.le_of_ble_eq_true rfl) (c2  ) ?_
  show Bod _ _ _ _ [] _ _ _
  refine Bod.go dc_342_32 rfl ?_
  refine Bod.go dc_342_33 rfl ?_
  refine Bod.virt (r := []) dc_342_34 kr_342_317 ⟨Or.inl rfl, ow_326, cl_14⟩ (by rw [np_326]; rfl) (by rw [np_326]; rfl) (ob_of (mk_61 _)) (Nat.le_of_ble_eq_true rfl) (c3  ) ?_
  show Bod _ _ _ _ [] _ _ _
  refine Bod.go dc_342_37 rfl ?_
  refine Bod.ic 0 (by decide) dc_342_38 ?_
  refine Bod.virt (r := []) dc_342_39 kr_342_302 ⟨Or.inl rfl, ow_306, cl_14⟩ (by rw [np_306]; rfl) (by rw [np_306]; rfl) (ob_of (mk_61 _)) (Nat.le_of_ble_eq_true rfl) (c4  ) ?_
  show Bod _ _ _ _ [_] _ _ _
  refine Bod.ifT dc_342_42 rfl (k1_ne_T (k_ne 1 0 rfl rfl (by omega) (by omega) (by omega))) ?_
  refine Bod.go dc_342_47 rfl ?_
  refine Bod.bip 12 (by decide) dc_342_48 ?_
  refine Bod.virt (r := []) dc_342_50 kr_342_305 ⟨Or.inl rfl, ow_325, cl_14⟩ (by rw [np_325]; rfl) (by rw [np_325]; rfl) (ob_of (mk_61 _)) (Nat.le_of_ble_eq_true rfl) (c5  ) ?_
  show Bod _ _ _ _ [_] _ _ _
  refine Bod.ist dc_342_53 (by rw [ml_342]; exact Nat.le_of_ble_eq_true rfl) ?_
  refine Bod.go dc_342_55 rfl ?_
  refine Bod.go dc_342_56 rfl ?_
  refine Bod.virt (r := []) dc_342_58 kr_342_332 ⟨Or.inl rfl, ow_343, cl_14⟩ (by rw [np_343]; rfl) (by rw [np_343]; rfl) (ob_of (mk_61 _)) (Nat.le_of_ble_eq_true rfl) (c6  ) ?_
  show Bod _ _ _ _ [] _ _ _
  refine Bod.go dc_342_61 rfl ?_
  refine Bod.go dc_342_62 rfl ?_
  refine Bod.ic 0 (by decide) dc_342_63 ?_
  refine Bod.virt (r := []) dc_342_64 kr_342_309 ⟨Or.inl rfl, ow_334, cl_14⟩ (by rw [np_334]; rfl) (by rw [np_334]; rfl) (ob_of (mk_61 _)) (Nat.le_of_ble_eq_true rfl) (c7  ) ?_
  show Bod _ _ _ _ [_] _ _ _
  refine Bod.ifF dc_342_67 rfl (k1_ne_F (k_eq 0 0 rfl rfl (by omega))) ?_
  refine Bod.ic 0 (by decide) dc_342_70 ?_
  exact Bod.retZ dc_342_71 rt_342 (Or.inl rfl)
theorem zWh_3 {d : Nat} {S : cS} {la : Nat} {lb : Nat} {k : Nat} {S1 : cS} {a : Nat} {m : Nat} {u : Nat} {n1 : Nat} {S2 : cS} {S3 : cS} {S4 : cS} (mla : la < 2 ^ 20) (mlb : lb < 2 ^ 20) (hk : sI S 6115 = nI k) (mk : k < 6001) (ma : a < 2 ^ 20) (c1 : Ans (d + 8) 325 [.ref 61, .int (nI 11)] (wI 6115 (nI (k + 1)) S) (some (.int (nI a))) S1) (hm : 108 ≤ m) (hv1 : sV S1 6114 = .ref m) (hz2 : (sS S1)[m - 108]? = some (12, u)) (hn1 : sI S1 (100 * m + 1) = nI n1) (mn1 : n1 < 2 ^ 20) (c2 : Ans (d + 8) 302 [.ref 61, .int (nI 0), .int (nI lb)] S1 none S2) (c3 : Ans (d + 8) 326 [.ref 61, .int (nI a)] S2 none S3) (c4 : Ans (d + 8) 306 [.ref 61, .int (nI 0)] S3 (some (.int (nI 0))) S4) : Bod (d + 8) 342 0 [(0, .ref 61), (1, .int (nI la)), (2, .int (nI lb))] [] S (some (.int 0)) (S4) := by
  refine Bod.go dc_342_0 rfl ?_
  refine Bod.go dc_342_1 rfl ?_
  refine Bod.get dc_342_2 fr_342_190 (mk_61 _) rfl ?_
  refine Bod.eqI (nI k) (by first | assumption | rfl | exact congrArg nI (by omega) | (simp (disch := omega) only [rI, rIe, rA, rIA, rLA, rJA, rVI, rQI, rVA, rQA, upd_at,  rAI, rLI, rJI, nI_add, pk_sub, kc_0, kc_1, kc_2, kc_3, kc_4, kc_5, reduceIte, Nat.reduceEqDiff, Nat.add_zero, rI_hold, rI_hold, rL_hold, hk]; done)) ?_
  refine Bod.ic 1 (by decide) dc_342_5 ?_
  refine Bod.addN (k + 1) (by omega) dc_342_6 ?_
  refine Bod.put dc_342_7 fr_342_190 (mk_61 _) (Nat.le_of_ble_eq_true rfl) pf_14_15 (st_6115 _ _) (mu_I _ _ _) ?_
  refine Bod.go dc_342_10 rfl ?_
  refine Bod.bip 11 (by decide) dc_342_11 ?_
  refine Bod.virt (r := []) dc_342_13 kr_342_305 ⟨Or.inl rfl, ow_325, cl_14⟩ (by rw [np_325]; rfl) (by rw [np_325]; rfl) (ob_of (mk_61 _)) (Nat.le_of_ble_eq_true rfl) (c1  ) ?_
  show Bod _ _ _ _ [_] _ _ _
  refine Bod.istn dc_342_16 (by rw [ml_342]; exact Nat.le_of_ble_eq_true rfl) ?_
  refine Bod.go dc_342_17 rfl ?_
  refine Bod.get dc_342_18 fr_342_206 (mk_61 _) rfl ?_
  refine Bod.eqV (.ref m) (by first | exact hv1 | (simp only [rIV, rJV, rAV, rLV, rQV, rV, reduceIte, Nat.reduceEqDiff]; exact hv1)) ?_
  refine Bod.get dc_342_21 fr_342_219 (mk_code hm (by first | exact hz2 | (simp only [rIS, rJS, rAS, rLS, rVS, rQS, rS_hold]; exact hz2))) rfl ?_
  refine Bod.eqI (nI n1) (by first | (simp (disch := omega) only [rI, rIe, rA, rIA, rLA, rJA, rVI, rQI, rVA, rQA, upd_at,  rAI, rLI, rJI, nI_add, pk_sub, kc_0, kc_1, kc_2, kc_3, kc_4, kc_5, reduceIte, Nat.reduceEqDiff, Nat.add_zero, rI_hold, rI_hold, rL_hold, hk, hn1]; done) | (simp (disch := omega) only [rI, rIe, rA, rIA, rLA, rJA, rVI, rQI, rVA, rQA, upd_at,  rAI, rLI, rJI, nI_add, pk_sub, kc_0, kc_1, kc_2, kc_3, kc_4, kc_5, reduceIte, Nat.reduceEqDiff, Nat.add_zero, rI_hold, rI_hold, rL_hold, hk, hn1]; exact congrArg nI (by omega))) ?_
  refine Bod.ist dc_342_24 (by rw [ml_342]; exact Nat.le_of_ble_eq_true rfl) ?_
  refine Bod.go dc_342_26 rfl ?_
  refine Bod.ic 0 (by decide) dc_342_27 ?_
  refine Bod.go dc_342_28 rfl ?_
  refine Bod.virt (r := []) dc_342_29 kr_342_216 ⟨Or.inl rfl, ow_302, cl_14⟩ (by rw [np_302]; rfl) (by rw [np_302]; rfl) (ob_of (mk_61 _)) (Nat.le_of_ble_eq_true rfl) (c2  ) ?_
  show Bod _ _ _ _ [] _ _ _
  refine Bod.go dc_342_32 rfl ?_
  refine Bod.go dc_342_33 rfl ?_
  refine Bod.virt (r := []) dc_342_34 kr_342_317 ⟨Or.inl rfl, ow_326, cl_14⟩ (by rw [np_326]; rfl) (by rw [np_326]; rfl) (ob_of (mk_61 _)) (Nat.le_of_ble_eq_true rfl) (c3  ) ?_
  show Bod _ _ _ _ [] _ _ _
  refine Bod.go dc_342_37 rfl ?_
  refine Bod.ic 0 (by decide) dc_342_38 ?_
  refine Bod.virt (r := []) dc_342_39 kr_342_302 ⟨Or.inl rfl, ow_306, cl_14⟩ (by rw [np_306]; rfl) (by rw [np_306]; rfl) (ob_of (mk_61 _)) (Nat.le_of_ble_eq_true rfl) (c4  ) ?_
  show Bod _ _ _ _ [_] _ _ _
  refine Bod.ifF dc_342_42 rfl (k1_ne_F (k_eq 0 0 rfl rfl (by omega))) ?_
  refine Bod.ic 0 (by decide) dc_342_45 ?_
  exact Bod.retZ dc_342_46 rt_342 (Or.inl rfl)
theorem zFo_1 {d : Nat} {S : cS} {la : Nat} {lb : Nat} {k : Nat} {e67 : Nat} {e68 : Nat} {S1 : cS} {k1 : Nat} {S2 : cS} {S3 : cS} {S4 : cS} {a : Nat} {m : Nat} {u : Nat} {n1 : Nat} {S5 : cS} {S6 : cS} {S7 : cS} {a1 : Nat} {S8 : cS} {S9 : cS} {S10 : cS} {S11 : cS} {S12 : cS} {S13 : cS} {S14 : cS} (mla : la < 2 ^ 20) (mlb : lb < 2 ^ 20) (hk : sI S 6115 = nI k) (mk : k < 6001) (he67 : sA (wI 6115 (nI (k + 1)) S) 67 (k + 1) = nI e67) (me67 : e67 < 2 ^ 20) (b1 : e67 = 1) (he68 : sA (wI 6115 (nI (k + 1)) S) 68 (k + 1) = nI e68) (me68 : e68 < 2 ^ 20) (c1 : Ans (d + 8) 309 [.ref 61, .int (nI 5)] (wI 6115 (nI (k + 2)) (wI 6115 (nI (k + 1)) S)) (some (.int (nI 1))) S1) (hk1 : sI S1 6115 = nI k1) (mk1 : k1 < 6001) (c2 : Ans (d + 8) 306 [.ref 61, .int (nI 0)] (wI 6115 (nI (k1 + 1)) S1) (some (.int (nI 1))) S2) (c3 : Ans (d + 8) 322 [.ref 61, .int (nI 31)] S2 none S3) (ma : a < 2 ^ 20) (c4 : Ans (d + 8) 325 [.ref 61, .int (nI 11)] S3 (some (.int (nI a))) S4) (hm : 108 ≤ m) (hv1 : sV S4 6114 = .ref m) (hz2 : (sS S4)[m - 108]? = some (12, u)) (hn1 : sI S4 (100 * m + 1) = nI n1) (mn1 : n1 < 2 ^ 20) (c5 : Ans (d + 8) 302 [.ref 61, .int (nI 0), .int (nI lb)] S4 none S5) (c6 : Ans (d + 8) 326 [.ref 61, .int (nI a)] S5 none S6) (ma1 : a1 < 2 ^ 20) (c7 : Ans (d + 8) 325 [.ref 61, .int (nI 32)] S6 (some (.int (nI a1))) S7) (c8 : Ans (d + 8) 317 [.ref 61, .int (nI 6), .int (nI e68)] S7 none S8) (c9 : Ans (d + 8) 343 [.ref 61, .int (nI n1)] S8 none S9) (c10 : Ans (d + 8) 334 [.ref 61, .int (nI la), .int (nI 0)] S9 (some (.int (nI 1))) S10) (c11 : Ans (d + 8) 329 [.ref 61, .int (nI 11), .int (nI n1)] S10 none S11) (c12 : Ans (d + 8) 326 [.ref 61, .int (nI a1)] S11 none S12) (c13 : Ans (d + 8) 344 [.ref 61] S12 none S13) (c14 : Ans (d + 8) 322 [.ref 61, .int (nI 33)] S13 none S14) : Bod (d + 8) 345 0 [(0, .ref 61), (1, .int (nI la)), (2, .int (nI lb))] [] S (some (.int 1)) (S14) := by
  refine Bod.go dc_345_0 rfl ?_
  refine Bod.go dc_345_1 rfl ?_
  refine Bod.get dc_345_2 fr_345_190 (mk_61 _) rfl ?_
  refine Bod.eqI (nI k) (by first | assumption | rfl | exact congrArg nI (by omega) | (simp (disch := omega) only [rI, rIe, rA, rIA, rLA, rJA, rVI, rQI, rVA, rQA, upd_at,  rAI, rLI, rJI, nI_add, pk_sub, kc_0, kc_1, kc_2, kc_3, kc_4, kc_5, reduceIte, Nat.reduceEqDiff, Nat.add_zero, rI_hold, rI_hold, rL_hold, hk]; done)) ?_
  refine Bod.ic 1 (by decide) dc_345_5 ?_
  refine Bod.addN (k + 1) (by omega) dc_345_6 ?_
  refine Bod.put dc_345_7 fr_345_190 (mk_61 _) (Nat.le_of_ble_eq_true rfl) pf_14_15 (st_6115 _ _) (mu_I _ _ _) ?_
  refine Bod.go dc_345_10 rfl ?_
  refine Bod.get dc_345_11 fr_345_129 (mk_61 _) rfl ?_
  refine Bod.go dc_345_14 rfl ?_
  refine Bod.get dc_345_15 fr_345_190 (mk_61 _) rfl ?_
  refine Bod.eqI (nI (k + 1)) (by first | (simp (disch := omega) only [rI, rIe, rA, rIA, rLA, rJA, rVI, rQI, rVA, rQA, upd_at,  rAI, rLI, rJI, nI_add, pk_sub, kc_0, kc_1, kc_2, kc_3, kc_4, kc_5, reduceIte, Nat.reduceEqDiff, Nat.add_zero, rI_hold, rI_hold, rL_hold, hk]; done) | (simp (disch := omega) only [rI, rIe, rA, rIA, rLA, rJA, rVI, rQI, rVA, rQA, upd_at,  rAI, rLI, rJI, nI_add, pk_sub, kc_0, kc_1, kc_2, kc_3, kc_4, kc_5, reduceIte, Nat.reduceEqDiff, Nat.add_zero, rI_hold, rI_hold, rL_hold, hk]; exact congrArg nI (by omega))) ?_
  refine Bod.ialdN (k + 1) rfl (by omega) (by omega) dc_345_18 (mk_67 _) ?_
  refine Bod.eqI (nI e67) (by first | (simp (disch := omega) only [rI, rIe, rA, rIA, rLA, rJA, rVI, rQI, rVA, rQA, upd_at,  rAI, rLI, rJI, nI_add, pk_sub, kc_0, kc_1, kc_2, kc_3, kc_4, kc_5, reduceIte, Nat.reduceEqDiff, Nat.add_zero, rI_hold, rI_hold, rL_hold, hk, he67]; done) | (simp (disch := omega) only [rI, rIe, rA, rIA, rLA, rJA, rVI, rQI, rVA, rQA, upd_at,  rAI, rLI, rJI, nI_add, pk_sub, kc_0, kc_1, kc_2, kc_3, kc_4, kc_5, reduceIte, Nat.reduceEqDiff, Nat.add_zero, rI_hold, rI_hold, rL_hold, hk, he67]; exact congrArg nI (by omega))) ?_
  refine Bod.ic 1 (by decide) dc_345_19 ?_
  refine Bod.icT dc_345_20 rfl (k2_eq_T (k_eq e67 1 rfl rfl (by omega))) ?_
  refine Bod.go dc_345_28 rfl ?_
  refine Bod.get dc_345_29 fr_345_135 (mk_61 _) rfl ?_
  refine Bod.go dc_345_32 rfl ?_
  refine Bod.get dc_345_33 fr_345_190 (mk_61 _) rfl ?_
  refine Bod.eqI (nI (k + 1)) (by first | (simp (disch := omega) only [rI, rIe, rA, rIA, rLA, rJA, rVI, rQI, rVA, rQA, upd_at,  rAI, rLI, rJI, nI_add, pk_sub, kc_0, kc_1, kc_2, kc_3, kc_4, kc_5, reduceIte, Nat.reduceEqDiff, Nat.add_zero, rI_hold, rI_hold, rL_hold, hk, he67]; done) | (simp (disch := omega) only [rI, rIe, rA, rIA, rLA, rJA, rVI, rQI, rVA, rQA, upd_at,  rAI, rLI, rJI, nI_add, pk_sub, kc_0, kc_1, kc_2, kc_3, kc_4, kc_5, reduceIte, Nat.reduceEqDiff, Nat.add_zero, rI_hold, rI_hold, rL_hold, hk, he67]; exact congrArg nI (by omega))) ?_
  refine Bod.ialdN (k + 1) rfl (by omega) (by omega) dc_345_36 (mk_68 _) ?_
  refine Bod.eqI (nI e68) (by first | (simp (disch := omega) only [rI, rIe, rA, rIA, rLA, rJA, rVI, rQI, rVA, rQA, upd_at,  rAI, rLI, rJI, nI_add, pk_sub, kc_0, kc_1, kc_2, kc_3, kc_4, kc_5, reduceIte, Nat.reduceEqDiff, Nat.add_zero, rI_hold, rI_hold, rL_hold, hk, he67, he68]; done) | (simp (disch := omega) only [rI, rIe, rA, rIA, rLA, rJA, rVI, rQI, rVA, rQA, upd_at,  rAI, rLI, rJI, nI_add, pk_sub, kc_0, kc_1, kc_2, kc_3, kc_4, kc_5, reduceIte, Nat.reduceEqDiff, Nat.add_zero, rI_hold, rI_hold, rL_hold, hk, he67, he68]; exact congrArg nI (by omega))) ?_
  refine Bod.istn dc_345_37 (by rw [ml_345]; exact Nat.le_of_ble_eq_true rfl) ?_
  refine Bod.go dc_345_38 rfl ?_
  refine Bod.go dc_345_39 rfl ?_
  refine Bod.get dc_345_40 fr_345_190 (mk_61 _) rfl ?_
  refine Bod.eqI (nI (k + 1)) (by first | (simp (disch := omega) only [rI, rIe, rA, rIA, rLA, rJA, rVI, rQI, rVA, rQA, upd_at,  rAI, rLI, rJI, nI_add, pk_sub, kc_0, kc_1, kc_2, kc_3, kc_4, kc_5, reduceIte, Nat.reduceEqDiff, Nat.add_zero, rI_hold, rI_hold, rL_hold, hk, he67, he68]; done) | (simp (disch := omega) only [rI, rIe, rA, rIA, rLA, rJA, rVI, rQI, rVA, rQA, upd_at,  rAI, rLI, rJI, nI_add, pk_sub, kc_0, kc_1, kc_2, kc_3, kc_4, kc_5, reduceIte, Nat.reduceEqDiff, Nat.add_zero, rI_hold, rI_hold, rL_hold, hk, he67, he68]; exact congrArg nI (by omega))) ?_
  refine Bod.ic 1 (by decide) dc_345_43 ?_
  refine Bod.addN (k + 2) (by omega) dc_345_44 ?_
  refine Bod.put dc_345_45 fr_345_190 (mk_61 _) (Nat.le_of_ble_eq_true rfl) pf_14_15 (st_6115 _ _) (mu_I _ _ _) ?_
  refine Bod.go dc_345_48 rfl ?_
  refine Bod.ic 5 (by decide) dc_345_49 ?_
  refine Bod.virt (r := []) dc_345_50 kr_345_312 ⟨Or.inl rfl, ow_309, cl_14⟩ (by rw [np_309]; rfl) (by rw [np_309]; rfl) (ob_of (mk_61 _)) (Nat.le_of_ble_eq_true rfl) (c1  ) ?_
  show Bod _ _ _ _ [_] _ _ _
  refine Bod.ifT dc_345_53 rfl (k1_ne_T (k_ne 1 0 rfl rfl (by omega) (by omega) (by omega))) ?_
  refine Bod.go dc_345_61 rfl ?_
  refine Bod.go dc_345_62 rfl ?_
  refine Bod.get dc_345_63 fr_345_190 (mk_61 _) rfl ?_
  refine Bod.eqI (nI k1) (by first | (simp (disch := omega) only [rI, rIe, rA, rIA, rLA, rJA, rVI, rQI, rVA, rQA, upd_at,  rAI, rLI, rJI, nI_add, pk_sub, kc_0, kc_1, kc_2, kc_3, kc_4, kc_5, reduceIte, Nat.reduceEqDiff, Nat.add_zero, rI_hold, rI_hold, rL_hold, hk, he67, he68, hk1]; done) | (simp (disch := omega) only [rI, rIe, rA, rIA, rLA, rJA, rVI, rQI, rVA, rQA, upd_at,  rAI, rLI, rJI, nI_add, pk_sub, kc_0, kc_1, kc_2, kc_3, kc_4, kc_5, reduceIte, Nat.reduceEqDiff, Nat.add_zero, rI_hold, rI_hold, rL_hold, hk, he67, he68, hk1]; exact congrArg nI (by omega))) ?_
  refine Bod.ic 1 (by decide) dc_345_66 ?_
  refine Bod.addN (k1 + 1) (by omega) dc_345_67 ?_
  refine Bod.put dc_345_68 fr_345_190 (mk_61 _) (Nat.le_of_ble_eq_true rfl) pf_14_15 (st_6115 _ _) (mu_I _ _ _) ?_
  refine Bod.go dc_345_71 rfl ?_
  refine Bod.ic 0 (by decide) dc_345_72 ?_
  refine Bod.virt (r := []) dc_345_73 kr_345_302 ⟨Or.inl rfl, ow_306, cl_14⟩ (by rw [np_306]; rfl) (by rw [np_306]; rfl) (ob_of (mk_61 _)) (Nat.le_of_ble_eq_true rfl) (c2  ) ?_
  show Bod _ _ _ _ [_] _ _ _
  refine Bod.ifT dc_345_76 rfl (k1_ne_T (k_ne 1 0 rfl rfl (by omega) (by omega) (by omega))) ?_
  refine Bod.go dc_345_81 rfl ?_
  refine Bod.bip 31 (by decide) dc_345_82 ?_
  refine Bod.virt (r := []) dc_345_84 kr_345_269 ⟨Or.inl rfl, ow_322, cl_14⟩ (by rw [np_322]; rfl) (by rw [np_322]; rfl) (ob_of (mk_61 _)) (Nat.le_of_ble_eq_true rfl) (c3  ) ?_
  show Bod _ _ _ _ [] _ _ _
  refine Bod.go dc_345_87 rfl ?_
  refine Bod.bip 11 (by decide) dc_345_88 ?_
  refine Bod.virt (r := []) dc_345_90 kr_345_305 ⟨Or.inl rfl, ow_325, cl_14⟩ (by rw [np_325]; rfl) (by rw [np_325]; rfl) (ob_of (mk_61 _)) (Nat.le_of_ble_eq_true rfl) (c4  ) ?_
  show Bod _ _ _ _ [_] _ _ _
  refine Bod.ist dc_345_93 (by rw [ml_345]; exact Nat.le_of_ble_eq_true rfl) ?_
  refine Bod.go dc_345_95 rfl ?_
  refine Bod.get dc_345_96 fr_345_206 (mk_61 _) rfl ?_
  refine Bod.eqV (.ref m) (by first | exact hv1 | (simp only [rIV, rJV, rAV, rLV, rQV, rV, reduceIte, Nat.reduceEqDiff]; exact hv1)) ?_
  refine Bod.get dc_345_99 fr_345_219 (mk_code hm (by first | exact hz2 | (simp only [rIS, rJS, rAS, rLS, rVS, rQS, rS_hold]; exact hz2))) rfl ?_
  refine Bod.eqI (nI n1) (by first | (simp (disch := omega) only [rI, rIe, rA, rIA, rLA, rJA, rVI, rQI, rVA, rQA, upd_at,  rAI, rLI, rJI, nI_add, pk_sub, kc_0, kc_1, kc_2, kc_3, kc_4, kc_5, reduceIte, Nat.reduceEqDiff, Nat.add_zero, rI_hold, rI_hold, rL_hold, hk, he67, he68, hk1, hn1]; done) | (simp (disch := omega) only [rI, rIe, rA, rIA, rLA, rJA, rVI, rQI, rVA, rQA, upd_at,  rAI, rLI, rJI, nI_add, pk_sub, kc_0, kc_1, kc_2, kc_3, kc_4, kc_5, reduceIte, Nat.reduceEqDiff, Nat.add_zero, rI_hold, rI_hold, rL_hold, hk, he67, he68, hk1, hn1]; exact congrArg nI (by omega))) ?_
  refine Bod.ist dc_345_102 (by rw [ml_345]; exact Nat.le_of_ble_eq_true rfl) ?_
  refine Bod.go dc_345_104 rfl ?_
  refine Bod.ic 0 (by decide) dc_345_105 ?_
  refine Bod.go dc_345_106 rfl ?_
  refine Bod.virt (r := []) dc_345_107 kr_345_216 ⟨Or.inl rfl, ow_302, cl_14⟩ (by rw [np_302]; rfl) (by rw [np_302]; rfl) (ob_of (mk_61 _)) (Nat.le_of_ble_eq_true rfl) (c5  ) ?_
  show Bod _ _ _ _ [] _ _ _
  refine Bod.go dc_345_110 rfl ?_
  refine Bod.go dc_345_111 rfl ?_
  refine Bod.virt (r := []) dc_345_113 kr_345_317 ⟨Or.inl rfl, ow_326, cl_14⟩ (by rw [np_326]; rfl) (by rw [np_326]; rfl) (ob_of (mk_61 _)) (Nat.le_of_ble_eq_true rfl) (c6  ) ?_
  show Bod _ _ _ _ [] _ _ _
  refine Bod.go dc_345_116 rfl ?_
  refine Bod.bip 32 (by decide) dc_345_117 ?_
  refine Bod.virt (r := []) dc_345_119 kr_345_305 ⟨Or.inl rfl, ow_325, cl_14⟩ (by rw [np_325]; rfl) (by rw [np_325]; rfl) (ob_of (mk_61 _)) (Nat.le_of_ble_eq_true rfl) (c7  ) ?_
  show Bod _ _ _ _ [_] _ _ _
  refine Bod.ist dc_345_122 (by rw [ml_345]; exact Nat.le_of_ble_eq_true rfl) ?_
  refine Bod.go dc_345_124 rfl ?_
  refine Bod.bip 6 (by decide) dc_345_125 ?_
  refine Bod.go dc_345_127 rfl ?_
  refine Bod.virt (r := []) dc_345_128 kr_345_341 ⟨Or.inl rfl, ow_317, cl_14⟩ (by rw [np_317]; rfl) (by rw [np_317]; rfl) (ob_of (mk_61 _)) (Nat.le_of_ble_eq_true rfl) (c8  ) ?_
  show Bod _ _ _ _ [] _ _ _
  refine Bod.go dc_345_131 rfl ?_
  refine Bod.go dc_345_132 rfl ?_
  refine Bod.virt (r := []) dc_345_134 kr_345_332 ⟨Or.inl rfl, ow_343, cl_14⟩ (by rw [np_343]; rfl) (by rw [np_343]; rfl) (ob_of (mk_61 _)) (Nat.le_of_ble_eq_true rfl) (c9  ) ?_
  show Bod _ _ _ _ [] _ _ _
  refine Bod.go dc_345_137 rfl ?_
  refine Bod.go dc_345_138 rfl ?_
  refine Bod.ic 0 (by decide) dc_345_139 ?_
  refine Bod.virt (r := []) dc_345_140 kr_345_309 ⟨Or.inl rfl, ow_334, cl_14⟩ (by rw [np_334]; rfl) (by rw [np_334]; rfl) (ob_of (mk_61 _)) (Nat.le_of_ble_eq_true rfl) (c10  ) ?_
  show Bod _ _ _ _ [_] _ _ _
  refine Bod.ifT dc_345_143 rfl (k1_ne_T (k_ne 1 0 rfl rfl (by omega) (by omega) (by omega))) ?_
  refine Bod.go dc_345_148 rfl ?_
  refine Bod.bip 11 (by decide) dc_345_149 ?_
  refine Bod.go dc_345_151 rfl ?_
  refine Bod.virt (r := []) dc_345_153 kr_345_335 ⟨Or.inl rfl, ow_329, cl_14⟩ (by rw [np_329]; rfl) (by rw [np_329]; rfl) (ob_of (mk_61 _)) (Nat.le_of_ble_eq_true rfl) (c11  ) ?_
  show Bod _ _ _ _ [] _ _ _
  refine Bod.go dc_345_156 rfl ?_
  refine Bod.go dc_345_157 rfl ?_
  refine Bod.virt (r := []) dc_345_159 kr_345_317 ⟨Or.inl rfl, ow_326, cl_14⟩ (by rw [np_326]; rfl) (by rw [np_326]; rfl) (ob_of (mk_61 _)) (Nat.le_of_ble_eq_true rfl) (c12  ) ?_
  show Bod _ _ _ _ [] _ _ _
  refine Bod.go dc_345_162 rfl ?_
  refine Bod.virt (r := []) dc_345_163 kr_345_338 ⟨Or.inl rfl, ow_344, cl_14⟩ (by rw [np_344]; rfl) (by rw [np_344]; rfl) (ob_of (mk_61 _)) (Nat.le_of_ble_eq_true rfl) (c13  ) ?_
  show Bod _ _ _ _ [] _ _ _
  refine Bod.go dc_345_166 rfl ?_
  refine Bod.bip 33 (by decide) dc_345_167 ?_
  refine Bod.virt (r := []) dc_345_169 kr_345_269 ⟨Or.inl rfl, ow_322, cl_14⟩ (by rw [np_322]; rfl) (by rw [np_322]; rfl) (ob_of (mk_61 _)) (Nat.le_of_ble_eq_true rfl) (c14  ) ?_
  show Bod _ _ _ _ [] _ _ _
  refine Bod.ic 1 (by decide) dc_345_172 ?_
  exact Bod.retZ dc_345_173 rt_345 (Or.inr rfl)
theorem zFo_2 {d : Nat} {S : cS} {la : Nat} {lb : Nat} {k : Nat} {e67 : Nat} {e68 : Nat} {S1 : cS} {k1 : Nat} {S2 : cS} {S3 : cS} {S4 : cS} {a : Nat} {m : Nat} {u : Nat} {n1 : Nat} {S5 : cS} {S6 : cS} {S7 : cS} {a1 : Nat} {S8 : cS} {S9 : cS} {S10 : cS} (mla : la < 2 ^ 20) (mlb : lb < 2 ^ 20) (hk : sI S 6115 = nI k) (mk : k < 6001) (he67 : sA (wI 6115 (nI (k + 1)) S) 67 (k + 1) = nI e67) (me67 : e67 < 2 ^ 20) (b1 : e67 = 1) (he68 : sA (wI 6115 (nI (k + 1)) S) 68 (k + 1) = nI e68) (me68 : e68 < 2 ^ 20) (c1 : Ans (d + 8) 309 [.ref 61, .int (nI 5)] (wI 6115 (nI (k + 2)) (wI 6115 (nI (k + 1)) S)) (some (.int (nI 1))) S1) (hk1 : sI S1 6115 = nI k1) (mk1 : k1 < 6001) (c2 : Ans (d + 8) 306 [.ref 61, .int (nI 0)] (wI 6115 (nI (k1 + 1)) S1) (some (.int (nI 1))) S2) (c3 : Ans (d + 8) 322 [.ref 61, .int (nI 31)] S2 none S3) (ma : a < 2 ^ 20) (c4 : Ans (d + 8) 325 [.ref 61, .int (nI 11)] S3 (some (.int (nI a))) S4) (hm : 108 ≤ m) (hv1 : sV S4 6114 = .ref m) (hz2 : (sS S4)[m - 108]? = some (12, u)) (hn1 : sI S4 (100 * m + 1) = nI n1) (mn1 : n1 < 2 ^ 20) (c5 : Ans (d + 8) 302 [.ref 61, .int (nI 0), .int (nI lb)] S4 none S5) (c6 : Ans (d + 8) 326 [.ref 61, .int (nI a)] S5 none S6) (ma1 : a1 < 2 ^ 20) (c7 : Ans (d + 8) 325 [.ref 61, .int (nI 32)] S6 (some (.int (nI a1))) S7) (c8 : Ans (d + 8) 317 [.ref 61, .int (nI 6), .int (nI e68)] S7 none S8) (c9 : Ans (d + 8) 343 [.ref 61, .int (nI n1)] S8 none S9) (c10 : Ans (d + 8) 334 [.ref 61, .int (nI la), .int (nI 0)] S9 (some (.int (nI 0))) S10) : Bod (d + 8) 345 0 [(0, .ref 61), (1, .int (nI la)), (2, .int (nI lb))] [] S (some (.int 0)) (S10) := by
  refine Bod.go dc_345_0 rfl ?_
  refine Bod.go dc_345_1 rfl ?_
  refine Bod.get dc_345_2 fr_345_190 (mk_61 _) rfl ?_
  refine Bod.eqI (nI k) (by first | assumption | rfl | exact congrArg nI (by omega) | (simp (disch := omega) only [rI, rIe, rA, rIA, rLA, rJA, rVI, rQI, rVA, rQA, upd_at,  rAI, rLI, rJI, nI_add, pk_sub, kc_0, kc_1, kc_2, kc_3, kc_4, kc_5, reduceIte, Nat.reduceEqDiff, Nat.add_zero, rI_hold, rI_hold, rL_hold, hk]; done)) ?_
  refine Bod.ic 1 (by decide) dc_345_5 ?_
  refine Bod.addN (k + 1) (by omega) dc_345_6 ?_
  refine Bod.put dc_345_7 fr_345_190 (mk_61 _) (Nat.le_of_ble_eq_true rfl) pf_14_15 (st_6115 _ _) (mu_I _ _ _) ?_
  refine Bod.go dc_345_10 rfl ?_
  refine Bod.get dc_345_11 fr_345_129 (mk_61 _) rfl ?_
  refine Bod.go dc_345_14 rfl ?_
  refine Bod.get dc_345_15 fr_345_190 (mk_61 _) rfl ?_
  refine Bod.eqI (nI (k + 1)) (by first | (simp (disch := omega) only [rI, rIe, rA, rIA, rLA, rJA, rVI, rQI, rVA, rQA, upd_at,  rAI, rLI, rJI, nI_add, pk_sub, kc_0, kc_1, kc_2, kc_3, kc_4, kc_5, reduceIte, Nat.reduceEqDiff, Nat.add_zero, rI_hold, rI_hold, rL_hold, hk]; done) | (simp (disch := omega) only [rI, rIe, rA, rIA, rLA, rJA, rVI, rQI, rVA, rQA, upd_at,  rAI, rLI, rJI, nI_add, pk_sub, kc_0, kc_1, kc_2, kc_3, kc_4, kc_5, reduceIte, Nat.reduceEqDiff, Nat.add_zero, rI_hold, rI_hold, rL_hold, hk]; exact congrArg nI (by omega))) ?_
  refine Bod.ialdN (k + 1) rfl (by omega) (by omega) dc_345_18 (mk_67 _) ?_
  refine Bod.eqI (nI e67) (by first | (simp (disch := omega) only [rI, rIe, rA, rIA, rLA, rJA, rVI, rQI, rVA, rQA, upd_at,  rAI, rLI, rJI, nI_add, pk_sub, kc_0, kc_1, kc_2, kc_3, kc_4, kc_5, reduceIte, Nat.reduceEqDiff, Nat.add_zero, rI_hold, rI_hold, rL_hold, hk, he67]; done) | (simp (disch := omega) only [rI, rIe, rA, rIA, rLA, rJA, rVI, rQI, rVA, rQA, upd_at,  rAI, rLI, rJI, nI_add, pk_sub, kc_0, kc_1, kc_2, kc_3, kc_4, kc_5, reduceIte, Nat.reduceEqDiff, Nat.add_zero, rI_hold, rI_hold, rL_hold, hk, he67]; exact congrArg nI (by omega))) ?_
  refine Bod.ic 1 (by decide) dc_345_19 ?_
  refine Bod.icT dc_345_20 rfl (k2_eq_T (k_eq e67 1 rfl rfl (by omega))) ?_
  refine Bod.go dc_345_28 rfl ?_
  refine Bod.get dc_345_29 fr_345_135 (mk_61 _) rfl ?_
  refine Bod.go dc_345_32 rfl ?_
  refine Bod.get dc_345_33 fr_345_190 (mk_61 _) rfl ?_
  refine Bod.eqI (nI (k + 1)) (by first | (simp (disch := omega) only [rI, rIe, rA, rIA, rLA, rJA, rVI, rQI, rVA, rQA, upd_at,  rAI, rLI, rJI, nI_add, pk_sub, kc_0, kc_1, kc_2, kc_3, kc_4, kc_5, reduceIte, Nat.reduceEqDiff, Nat.add_zero, rI_hold, rI_hold, rL_hold, hk, he67]; done) | (simp (disch := omega) only [rI, rIe, rA, rIA, rLA, rJA, rVI, rQI, rVA, rQA, upd_at,  rAI, rLI, rJI, nI_add, pk_sub, kc_0, kc_1, kc_2, kc_3, kc_4, kc_5, reduceIte, Nat.reduceEqDiff, Nat.add_zero, rI_hold, rI_hold, rL_hold, hk, he67]; exact congrArg nI (by omega))) ?_
  refine Bod.ialdN (k + 1) rfl (by omega) (by omega) dc_345_36 (mk_68 _) ?_
  refine Bod.eqI (nI e68) (by first | (simp (disch := omega) only [rI, rIe, rA, rIA, rLA, rJA, rVI, rQI, rVA, rQA, upd_at,  rAI, rLI, rJI, nI_add, pk_sub, kc_0, kc_1, kc_2, kc_3, kc_4, kc_5, reduceIte, Nat.reduceEqDiff, Nat.add_zero, rI_hold, rI_hold, rL_hold, hk, he67, he68]; done) | (simp (disch := omega) only [rI, rIe, rA, rIA, rLA, rJA, rVI, rQI, rVA, rQA, upd_at,  rAI, rLI, rJI, nI_add, pk_sub, kc_0, kc_1, kc_2, kc_3, kc_4, kc_5, reduceIte, Nat.reduceEqDiff, Nat.add_zero, rI_hold, rI_hold, rL_hold, hk, he67, he68]; exact congrArg nI (by omega))) ?_
  refine Bod.istn dc_345_37 (by rw [ml_345]; exact Nat.le_of_ble_eq_true rfl) ?_
  refine Bod.go dc_345_38 rfl ?_
  refine Bod.go dc_345_39 rfl ?_
  refine Bod.get dc_345_40 fr_345_190 (mk_61 _) rfl ?_
  refine Bod.eqI (nI (k + 1)) (by first | (simp (disch := omega) only [rI, rIe, rA, rIA, rLA, rJA, rVI, rQI, rVA, rQA, upd_at,  rAI, rLI, rJI, nI_add, pk_sub, kc_0, kc_1, kc_2, kc_3, kc_4, kc_5, reduceIte, Nat.reduceEqDiff, Nat.add_zero, rI_hold, rI_hold, rL_hold, hk, he67, he68]; done) | (simp (disch := omega) only [rI, rIe, rA, rIA, rLA, rJA, rVI, rQI, rVA, rQA, upd_at,  rAI, rLI, rJI, nI_add, pk_sub, kc_0, kc_1, kc_2, kc_3, kc_4, kc_5, reduceIte, Nat.reduceEqDiff, Nat.add_zero, rI_hold, rI_hold, rL_hold, hk, he67, he68]; exact congrArg nI (by omega))) ?_
  refine Bod.ic 1 (by decide) dc_345_43 ?_
  refine Bod.addN (k + 2) (by omega) dc_345_44 ?_
  refine Bod.put dc_345_45 fr_345_190 (mk_61 _) (Nat.le_of_ble_eq_true rfl) pf_14_15 (st_6115 _ _) (mu_I _ _ _) ?_
  refine Bod.go dc_345_48 rfl ?_
  refine Bod.ic 5 (by decide) dc_345_49 ?_
  refine Bod.virt (r := []) dc_345_50 kr_345_312 ⟨Or.inl rfl, ow_309, cl_14⟩ (by rw [np_309]; rfl) (by rw [np_309]; rfl) (ob_of (mk_61 _)) (Nat.le_of_ble_eq_true rfl) (c1  ) ?_
  show Bod _ _ _ _ [_] _ _ _
  refine Bod.ifT dc_345_53 rfl (k1_ne_T (k_ne 1 0 rfl rfl (by omega) (by omega) (by omega))) ?_
  refine Bod.go dc_345_61 rfl ?_
  refine Bod.go dc_345_62 rfl ?_
  refine Bod.get dc_345_63 fr_345_190 (mk_61 _) rfl ?_
  refine Bod.eqI (nI k1) (by first | (simp (disch := omega) only [rI, rIe, rA, rIA, rLA, rJA, rVI, rQI, rVA, rQA, upd_at,  rAI, rLI, rJI, nI_add, pk_sub, kc_0, kc_1, kc_2, kc_3, kc_4, kc_5, reduceIte, Nat.reduceEqDiff, Nat.add_zero, rI_hold, rI_hold, rL_hold, hk, he67, he68, hk1]; done) | (simp (disch := omega) only [rI, rIe, rA, rIA, rLA, rJA, rVI, rQI, rVA, rQA, upd_at,  rAI, rLI, rJI, nI_add, pk_sub, kc_0, kc_1, kc_2, kc_3, kc_4, kc_5, reduceIte, Nat.reduceEqDiff, Nat.add_zero, rI_hold, rI_hold, rL_hold, hk, he67, he68, hk1]; exact congrArg nI (by omega))) ?_
  refine Bod.ic 1 (by decide) dc_345_66 ?_
  refine Bod.addN (k1 + 1) (by omega) dc_345_67 ?_
  refine Bod.put dc_345_68 fr_345_190 (mk_61 _) (Nat.le_of_ble_eq_true rfl) pf_14_15 (st_6115 _ _) (mu_I _ _ _) ?_
  refine Bod.go dc_345_71 rfl ?_
  refine Bod.ic 0 (by decide) dc_345_72 ?_
  refine Bod.virt (r := []) dc_345_73 kr_345_302 ⟨Or.inl rfl, ow_306, cl_14⟩ (by rw [np_306]; rfl) (by rw [np_306]; rfl) (ob_of (mk_61 _)) (Nat.le_of_ble_eq_true rfl) (c2  ) ?_
  show Bod _ _ _ _ [_] _ _ _
  refine Bod.ifT dc_345_76 rfl (k1_ne_T (k_ne 1 0 rfl rfl (by omega) (by omega) (by omega))) ?_
  refine Bod.go dc_345_81 rfl ?_
  refine Bod.bip 31 (by decide) dc_345_82 ?_
  refine Bod.virt (r := []) dc_345_84 kr_345_269 ⟨Or.inl rfl, ow_322, cl_14⟩ (by rw [np_322]; rfl) (by rw [np_322]; rfl) (ob_of (mk_61 _)) (Nat.le_of_ble_eq_true rfl) (c3  ) ?_
  show Bod _ _ _ _ [] _ _ _
  refine Bod.go dc_345_87 rfl ?_
  refine Bod.bip 11 (by decide) dc_345_88 ?_
  refine Bod.virt (r := []) dc_345_90 kr_345_305 ⟨Or.inl rfl, ow_325, cl_14⟩ (by rw [np_325]; rfl) (by rw [np_325]; rfl) (ob_of (mk_61 _)) (Nat.le_of_ble_eq_true rfl) (c4  ) ?_
  show Bod _ _ _ _ [_] _ _ _
  refine Bod.ist dc_345_93 (by rw [ml_345]; exact Nat.le_of_ble_eq_true rfl) ?_
  refine Bod.go dc_345_95 rfl ?_
  refine Bod.get dc_345_96 fr_345_206 (mk_61 _) rfl ?_
  refine Bod.eqV (.ref m) (by first | exact hv1 | (simp only [rIV, rJV, rAV, rLV, rQV, rV, reduceIte, Nat.reduceEqDiff]; exact hv1)) ?_
  refine Bod.get dc_345_99 fr_345_219 (mk_code hm (by first | exact hz2 | (simp only [rIS, rJS, rAS, rLS, rVS, rQS, rS_hold]; exact hz2))) rfl ?_
  refine Bod.eqI (nI n1) (by first | (simp (disch := omega) only [rI, rIe, rA, rIA, rLA, rJA, rVI, rQI, rVA, rQA, upd_at,  rAI, rLI, rJI, nI_add, pk_sub, kc_0, kc_1, kc_2, kc_3, kc_4, kc_5, reduceIte, Nat.reduceEqDiff, Nat.add_zero, rI_hold, rI_hold, rL_hold, hk, he67, he68, hk1, hn1]; done) | (simp (disch := omega) only [rI, rIe, rA, rIA, rLA, rJA, rVI, rQI, rVA, rQA, upd_at,  rAI, rLI, rJI, nI_add, pk_sub, kc_0, kc_1, kc_2, kc_3, kc_4, kc_5, reduceIte, Nat.reduceEqDiff, Nat.add_zero, rI_hold, rI_hold, rL_hold, hk, he67, he68, hk1, hn1]; exact congrArg nI (by omega))) ?_
  refine Bod.ist dc_345_102 (by rw [ml_345]; exact Nat.le_of_ble_eq_true rfl) ?_
  refine Bod.go dc_345_104 rfl ?_
  refine Bod.ic 0 (by decide) dc_345_105 ?_
  refine Bod.go dc_345_106 rfl ?_
  refine Bod.virt (r := []) dc_345_107 kr_345_216 ⟨Or.inl rfl, ow_302, cl_14⟩ (by rw [np_302]; rfl) (by rw [np_302]; rfl) (ob_of (mk_61 _)) (Nat.le_of_ble_eq_true rfl) (c5  ) ?_
  show Bod _ _ _ _ [] _ _ _
  refine Bod.go dc_345_110 rfl ?_
  refine Bod.go dc_345_111 rfl ?_
  refine Bod.virt (r := []) dc_345_113 kr_345_317 ⟨Or.inl rfl, ow_326, cl_14⟩ (by rw [np_326]; rfl) (by rw [np_326]; rfl) (ob_of (mk_61 _)) (Nat.le_of_ble_eq_true rfl) (c6  ) ?_
  show Bod _ _ _ _ [] _ _ _
  refine Bod.go dc_345_116 rfl ?_
  refine Bod.bip 32 (by decide) dc_345_117 ?_
  refine Bod.virt (r := []) dc_345_119 kr_345_305 ⟨Or.inl rfl, ow_325, cl_14⟩ (by rw [np_325]; rfl) (by rw [np_325]; rfl) (ob_of (mk_61 _)) (Nat.le_of_ble_eq_true rfl) (c7  ) ?_
  show Bod _ _ _ _ [_] _ _ _
  refine Bod.ist dc_345_122 (by rw [ml_345]; exact Nat.le_of_ble_eq_true rfl) ?_
  refine Bod.go dc_345_124 rfl ?_
  refine Bod.bip 6 (by decide) dc_345_125 ?_
  refine Bod.go dc_345_127 rfl ?_
  refine Bod.virt (r := []) dc_345_128 kr_345_341 ⟨Or.inl rfl, ow_317, cl_14⟩ (by rw [np_317]; rfl) (by rw [np_317]; rfl) (ob_of (mk_61 _)) (Nat.le_of_ble_eq_true rfl) (c8  ) ?_
  show Bod _ _ _ _ [] _ _ _
  refine Bod.go dc_345_131 rfl ?_
  refine Bod.go dc_345_132 rfl ?_
  refine Bod.virt (r := []) dc_345_134 kr_345_332 ⟨Or.inl rfl, ow_343, cl_14⟩ (by rw [np_343]; rfl) (by rw [np_343]; rfl) (ob_of (mk_61 _)) (Nat.le_of_ble_eq_true rfl) (c9  ) ?_
  show Bod _ _ _ _ [] _ _ _
  refine Bod.go dc_345_137 rfl ?_
  refine Bod.go dc_345_138 rfl ?_
  refine Bod.ic 0 (by decide) dc_345_139 ?_
  refine Bod.virt (r := []) dc_345_140 kr_345_309 ⟨Or.inl rfl, ow_334, cl_14⟩ (by rw [np_334]; rfl) (by rw [np_334]; rfl) (ob_of (mk_61 _)) (Nat.le_of_ble_eq_true rfl) (c10  ) ?_
  show Bod _ _ _ _ [_] _ _ _
  refine Bod.ifF dc_345_143 rfl (k1_ne_F (k_eq 0 0 rfl rfl (by omega))) ?_
  refine Bod.ic 0 (by decide) dc_345_146 ?_
  exact Bod.retZ dc_345_147 rt_345 (Or.inl rfl)
theorem zFo_3 {d : Nat} {S : cS} {la : Nat} {lb : Nat} {k : Nat} {e67 : Nat} {e68 : Nat} {S1 : cS} {k1 : Nat} {S2 : cS} (mla : la < 2 ^ 20) (mlb : lb < 2 ^ 20) (hk : sI S 6115 = nI k) (mk : k < 6001) (he67 : sA (wI 6115 (nI (k + 1)) S) 67 (k + 1) = nI e67) (me67 : e67 < 2 ^ 20) (b1 : e67 = 1) (he68 : sA (wI 6115 (nI (k + 1)) S) 68 (k + 1) = nI e68) (me68 : e68 < 2 ^ 20) (c1 : Ans (d + 8) 309 [.ref 61, .int (nI 5)] (wI 6115 (nI (k + 2)) (wI 6115 (nI (k + 1)) S)) (some (.int (nI 1))) S1) (hk1 : sI S1 6115 = nI k1) (mk1 : k1 < 6001) (c2 : Ans (d + 8) 306 [.ref 61, .int (nI 0)] (wI 6115 (nI (k1 + 1)) S1) (some (.int (nI 0))) S2) : Bod (d + 8) 345 0 [(0, .ref 61), (1, .int (nI la)), (2, .int (nI lb))] [] S (some (.int 0)) (S2) := by
  refine Bod.go dc_345_0 rfl ?_
  refine Bod.go dc_345_1 rfl ?_
  refine Bod.get dc_345_2 fr_345_190 (mk_61 _) rfl ?_
  refine Bod.eqI (nI k) (by first | assumption | rfl | exact congrArg nI (by omega) | (simp (disch := omega) only [rI, rIe, rA, rIA, rLA, rJA, rVI, rQI, rVA, rQA, upd_at,  rAI, rLI, rJI, nI_add, pk_sub, kc_0, kc_1, kc_2, kc_3, kc_4, kc_5, reduceIte, Nat.reduceEqDiff, Nat.add_zero, rI_hold, rI_hold, rL_hold, hk]; done)) ?_
  refine Bod.ic 1 (by decide) dc_345_5 ?_
  refine Bod.addN (k + 1) (by omega) dc_345_6 ?_
  refine Bod.put dc_345_7 fr_345_190 (mk_61 _) (Nat.le_of_ble_eq_true rfl) pf_14_15 (st_6115 _ _) (mu_I _ _ _) ?_
  refine Bod.go dc_345_10 rfl ?_
  refine Bod.get dc_345_11 fr_345_129 (mk_61 _) rfl ?_
  refine Bod.go dc_345_14 rfl ?_
  refine Bod.get dc_345_15 fr_345_190 (mk_61 _) rfl ?_
  refine Bod.eqI (nI (k + 1)) (by first | (simp (disch := omega) only [rI, rIe, rA, rIA, rLA, rJA, rVI, rQI, rVA, rQA, upd_at,  rAI, rLI, rJI, nI_add, pk_sub, kc_0, kc_1, kc_2, kc_3, kc_4, kc_5, reduceIte, Nat.reduceEqDiff, Nat.add_zero, rI_hold, rI_hold, rL_hold, hk]; done) | (simp (disch := omega) only [rI, rIe, rA, rIA, rLA, rJA, rVI, rQI, rVA, rQA, upd_at,  rAI, rLI, rJI, nI_add, pk_sub, kc_0, kc_1, kc_2, kc_3, kc_4, kc_5, reduceIte, Nat.reduceEqDiff, Nat.add_zero, rI_hold, rI_hold, rL_hold, hk]; exact congrArg nI (by omega))) ?_
  refine Bod.ialdN (k + 1) rfl (by omega) (by omega) dc_345_18 (mk_67 _) ?_
  refine Bod.eqI (nI e67) (by first | (simp (disch := omega) only [rI, rIe, rA, rIA, rLA, rJA, rVI, rQI, rVA, rQA, upd_at,  rAI, rLI, rJI, nI_add, pk_sub, kc_0, kc_1, kc_2, kc_3, kc_4, kc_5, reduceIte, Nat.reduceEqDiff, Nat.add_zero, rI_hold, rI_hold, rL_hold, hk, he67]; done) | (simp (disch := omega) only [rI, rIe, rA, rIA, rLA, rJA, rVI, rQI, rVA, rQA, upd_at,  rAI, rLI, rJI, nI_add, pk_sub, kc_0, kc_1, kc_2, kc_3, kc_4, kc_5, reduceIte, Nat.reduceEqDiff, Nat.add_zero, rI_hold, rI_hold, rL_hold, hk, he67]; exact congrArg nI (by omega))) ?_
  refine Bod.ic 1 (by decide) dc_345_19 ?_
  refine Bod.icT dc_345_20 rfl (k2_eq_T (k_eq e67 1 rfl rfl (by omega))) ?_
  refine Bod.go dc_345_28 rfl ?_
  refine Bod.get dc_345_29 fr_345_135 (mk_61 _) rfl ?_
  refine Bod.go dc_345_32 rfl ?_
  refine Bod.get dc_345_33 fr_345_190 (mk_61 _) rfl ?_
  refine Bod.eqI (nI (k + 1)) (by first | (simp (disch := omega) only [rI, rIe, rA, rIA, rLA, rJA, rVI, rQI, rVA, rQA, upd_at,  rAI, rLI, rJI, nI_add, pk_sub, kc_0, kc_1, kc_2, kc_3, kc_4, kc_5, reduceIte, Nat.reduceEqDiff, Nat.add_zero, rI_hold, rI_hold, rL_hold, hk, he67]; done) | (simp (disch := omega) only [rI, rIe, rA, rIA, rLA, rJA, rVI, rQI, rVA, rQA, upd_at,  rAI, rLI, rJI, nI_add, pk_sub, kc_0, kc_1, kc_2, kc_3, kc_4, kc_5, reduceIte, Nat.reduceEqDiff, Nat.add_zero, rI_hold, rI_hold, rL_hold, hk, he67]; exact congrArg nI (by omega))) ?_
  refine Bod.ialdN (k + 1) rfl (by omega) (by omega) dc_345_36 (mk_68 _) ?_
  refine Bod.eqI (nI e68) (by first | (simp (disch := omega) only [rI, rIe, rA, rIA, rLA, rJA, rVI, rQI, rVA, rQA, upd_at,  rAI, rLI, rJI, nI_add, pk_sub, kc_0, kc_1, kc_2, kc_3, kc_4, kc_5, reduceIte, Nat.reduceEqDiff, Nat.add_zero, rI_hold, rI_hold, rL_hold, hk, he67, he68]; done) | (simp (disch := omega) only [rI, rIe, rA, rIA, rLA, rJA, rVI, rQI, rVA, rQA, upd_at,  rAI, rLI, rJI, nI_add, pk_sub, kc_0, kc_1, kc_2, kc_3, kc_4, kc_5, reduceIte, Nat.reduceEqDiff, Nat.add_zero, rI_hold, rI_hold, rL_hold, hk, he67, he68]; exact congrArg nI (by omega))) ?_
  refine Bod.istn dc_345_37 (by rw [ml_345]; exact Nat.le_of_ble_eq_true rfl) ?_
  refine Bod.go dc_345_38 rfl ?_
  refine Bod.go dc_345_39 rfl ?_
  refine Bod.get dc_345_40 fr_345_190 (mk_61 _) rfl ?_
  refine Bod.eqI (nI (k + 1)) (by first | (simp (disch := omega) only [rI, rIe, rA, rIA, rLA, rJA, rVI, rQI, rVA, rQA, upd_at,  rAI, rLI, rJI, nI_add, pk_sub, kc_0, kc_1, kc_2, kc_3, kc_4, kc_5, reduceIte, Nat.reduceEqDiff, Nat.add_zero, rI_hold, rI_hold, rL_hold, hk, he67, he68]; done) | (simp (disch := omega) only [rI, rIe, rA, rIA, rLA, rJA, rVI, rQI, rVA, rQA, upd_at,  rAI, rLI, rJI, nI_add, pk_sub, kc_0, kc_1, kc_2, kc_3, kc_4, kc_5, reduceIte, Nat.reduceEqDiff, Nat.add_zero, rI_hold, rI_hold, rL_hold, hk, he67, he68]; exact congrArg nI (by omega))) ?_
  refine Bod.ic 1 (by decide) dc_345_43 ?_
  refine Bod.addN (k + 2) (by omega) dc_345_44 ?_
  refine Bod.put dc_345_45 fr_345_190 (mk_61 _) (Nat.le_of_ble_eq_true rfl) pf_14_15 (st_6115 _ _) (mu_I _ _ _) ?_
  refine Bod.go dc_345_48 rfl ?_
  refine Bod.ic 5 (by decide) dc_345_49 ?_
  refine Bod.virt (r := []) dc_345_50 kr_345_312 ⟨Or.inl rfl, ow_309, cl_14⟩ (by rw [np_309]; rfl) (by rw [np_309]; rfl) (ob_of (mk_61 _)) (Nat.le_of_ble_eq_true rfl) (c1  ) ?_
  show Bod _ _ _ _ [_] _ _ _
  refine Bod.ifT dc_345_53 rfl (k1_ne_T (k_ne 1 0 rfl rfl (by omega) (by omega) (by omega))) ?_
  refine Bod.go dc_345_61 rfl ?_
  refine Bod.go dc_345_62 rfl ?_
  refine Bod.get dc_345_63 fr_345_190 (mk_61 _) rfl ?_
  refine Bod.eqI (nI k1) (by first | (simp (disch := omega) only [rI, rIe, rA, rIA, rLA, rJA, rVI, rQI, rVA, rQA, upd_at,  rAI, rLI, rJI, nI_add, pk_sub, kc_0, kc_1, kc_2, kc_3, kc_4, kc_5, reduceIte, Nat.reduceEqDiff, Nat.add_zero, rI_hold, rI_hold, rL_hold, hk, he67, he68, hk1]; done) | (simp (disch := omega) only [rI, rIe, rA, rIA, rLA, rJA, rVI, rQI, rVA, rQA, upd_at,  rAI, rLI, rJI, nI_add, pk_sub, kc_0, kc_1, kc_2, kc_3, kc_4, kc_5, reduceIte, Nat.reduceEqDiff, Nat.add_zero, rI_hold, rI_hold, rL_hold, hk, he67, he68, hk1]; exact congrArg nI (by omega))) ?_
  refine Bod.ic 1 (by decide) dc_345_66 ?_
  refine Bod.addN (k1 + 1) (by omega) dc_345_67 ?_
  refine Bod.put dc_345_68 fr_345_190 (mk_61 _) (Nat.le_of_ble_eq_true rfl) pf_14_15 (st_6115 _ _) (mu_I _ _ _) ?_
  refine Bod.go dc_345_71 rfl ?_
  refine Bod.ic 0 (by decide) dc_345_72 ?_
  refine Bod.virt (r := []) dc_345_73 kr_345_302 ⟨Or.inl rfl, ow_306, cl_14⟩ (by rw [np_306]; rfl) (by rw [np_306]; rfl) (ob_of (mk_61 _)) (Nat.le_of_ble_eq_true rfl) (c2  ) ?_
  show Bod _ _ _ _ [_] _ _ _
  refine Bod.ifF dc_345_76 rfl (k1_ne_F (k_eq 0 0 rfl rfl (by omega))) ?_
  refine Bod.ic 0 (by decide) dc_345_79 ?_
  exact Bod.retZ dc_345_80 rt_345 (Or.inl rfl)
theorem zFo_4 {d : Nat} {S : cS} {la : Nat} {lb : Nat} {k : Nat} {e67 : Nat} {e68 : Nat} {S1 : cS} {S2 : cS} (mla : la < 2 ^ 20) (mlb : lb < 2 ^ 20) (hk : sI S 6115 = nI k) (mk : k < 6001) (he67 : sA (wI 6115 (nI (k + 1)) S) 67 (k + 1) = nI e67) (me67 : e67 < 2 ^ 20) (b1 : e67 = 1) (he68 : sA (wI 6115 (nI (k + 1)) S) 68 (k + 1) = nI e68) (me68 : e68 < 2 ^ 20) (c1 : Ans (d + 8) 309 [.ref 61, .int (nI 5)] (wI 6115 (nI (k + 2)) (wI 6115 (nI (k + 1)) S)) (some (.int (nI 0))) S1) (c2 : Ans (d + 8) 299 [.ref 61] S1 (some (.int (nI 0))) S2) : Bod (d + 8) 345 0 [(0, .ref 61), (1, .int (nI la)), (2, .int (nI lb))] [] S (some (.int 0)) (S2) := by
  refine Bod.go dc_345_0 rfl ?_
  refine Bod.go dc_345_1 rfl ?_
  refine Bod.get dc_345_2 fr_345_190 (mk_61 _) rfl ?_
  refine Bod.eqI (nI k) (by first | assumption | rfl | exact congrArg nI (by omega) | (simp (disch := omega) only [rI, rIe, rA, rIA, rLA, rJA, rVI, rQI, rVA, rQA, upd_at,  rAI, rLI, rJI, nI_add, pk_sub, kc_0, kc_1, kc_2, kc_3, kc_4, kc_5, reduceIte, Nat.reduceEqDiff, Nat.add_zero, rI_hold, rI_hold, rL_hold, hk]; done)) ?_
  refine Bod.ic 1 (by decide) dc_345_5 ?_
  refine Bod.addN (k + 1) (by omega) dc_345_6 ?_
  refine Bod.put dc_345_7 fr_345_190 (mk_61 _) (Nat.le_of_ble_eq_true rfl) pf_14_15 (st_6115 _ _) (mu_I _ _ _) ?_
  refine Bod.go dc_345_10 rfl ?_
  refine Bod.get dc_345_11 fr_345_129 (mk_61 _) rfl ?_
  refine Bod.go dc_345_14 rfl ?_
  refine Bod.get dc_345_15 fr_345_190 (mk_61 _) rfl ?_
  refine Bod.eqI (nI (k + 1)) (by first | (simp (disch := omega) only [rI, rIe, rA, rIA, rLA, rJA, rVI, rQI, rVA, rQA, upd_at,  rAI, rLI, rJI, nI_add, pk_sub, kc_0, kc_1, kc_2, kc_3, kc_4, kc_5, reduceIte, Nat.reduceEqDiff, Nat.add_zero, rI_hold, rI_hold, rL_hold, hk]; done) | (simp (disch := omega) only [rI, rIe, rA, rIA, rLA, rJA, rVI, rQI, rVA, rQA, upd_at,  rAI, rLI, rJI, nI_add, pk_sub, kc_0, kc_1, kc_2, kc_3, kc_4, kc_5, reduceIte, Nat.reduceEqDiff, Nat.add_zero, rI_hold, rI_hold, rL_hold, hk]; exact congrArg nI (by omega))) ?_
  refine Bod.ialdN (k + 1) rfl (by omega) (by omega) dc_345_18 (mk_67 _) ?_
  refine Bod.eqI (nI e67) (by first | (simp (disch := omega) only [rI, rIe, rA, rIA, rLA, rJA, rVI, rQI, rVA, rQA, upd_at,  rAI, rLI, rJI, nI_add, pk_sub, kc_0, kc_1, kc_2, kc_3, kc_4, kc_5, reduceIte, Nat.reduceEqDiff, Nat.add_zero, rI_hold, rI_hold, rL_hold, hk, he67]; done) | (simp (disch := omega) only [rI, rIe, rA, rIA, rLA, rJA, rVI, rQI, rVA, rQA, upd_at,  rAI, rLI, rJI, nI_add, pk_sub, kc_0, kc_1, kc_2, kc_3, kc_4, kc_5, reduceIte, Nat.reduceEqDiff, Nat.add_zero, rI_hold, rI_hold, rL_hold, hk, he67]; exact congrArg nI (by omega))) ?_
  refine Bod.ic 1 (by decide) dc_345_19 ?_
  refine Bod.icT dc_345_20 rfl (k2_eq_T (k_eq e67 1 rfl rfl (by omega))) ?_
  refine Bod.go dc_345_28 rfl ?_
  refine Bod.get dc_345_29 fr_345_135 (mk_61 _) rfl ?_
  refine Bod.go dc_345_32 rfl ?_
  refine Bod.get dc_345_33 fr_345_190 (mk_61 _) rfl ?_
  refine Bod.eqI (nI (k + 1)) (by first | (simp (disch := omega) only [rI, rIe, rA, rIA, rLA, rJA, rVI, rQI, rVA, rQA, upd_at,  rAI, rLI, rJI, nI_add, pk_sub, kc_0, kc_1, kc_2, kc_3, kc_4, kc_5, reduceIte, Nat.reduceEqDiff, Nat.add_zero, rI_hold, rI_hold, rL_hold, hk, he67]; done) | (simp (disch := omega) only [rI, rIe, rA, rIA, rLA, rJA, rVI, rQI, rVA, rQA, upd_at,  rAI, rLI, rJI, nI_add, pk_sub, kc_0, kc_1, kc_2, kc_3, kc_4, kc_5, reduceIte, Nat.reduceEqDiff, Nat.add_zero, rI_hold, rI_hold, rL_hold, hk, he67]; exact congrArg nI (by omega))) ?_
  refine Bod.ialdN (k + 1) rfl (by omega) (by omega) dc_345_36 (mk_68 _) ?_
  refine Bod.eqI (nI e68) (by first | (simp (disch := omega) only [rI, rIe, rA, rIA, rLA, rJA, rVI, rQI, rVA, rQA, upd_at,  rAI, rLI, rJI, nI_add, pk_sub, kc_0, kc_1, kc_2, kc_3, kc_4, kc_5, reduceIte, Nat.reduceEqDiff, Nat.add_zero, rI_hold, rI_hold, rL_hold, hk, he67, he68]; done) | (simp (disch := omega) only [rI, rIe, rA, rIA, rLA, rJA, rVI, rQI, rVA, rQA, upd_at,  rAI, rLI, rJI, nI_add, pk_sub, kc_0, kc_1, kc_2, kc_3, kc_4, kc_5, reduceIte, Nat.reduceEqDiff, Nat.add_zero, rI_hold, rI_hold, rL_hold, hk, he67, he68]; exact congrArg nI (by omega))) ?_
  refine Bod.istn dc_345_37 (by rw [ml_345]; exact Nat.le_of_ble_eq_true rfl) ?_
  refine Bod.go dc_345_38 rfl ?_
  refine Bod.go dc_345_39 rfl ?_
  refine Bod.get dc_345_40 fr_345_190 (mk_61 _) rfl ?_
  refine Bod.eqI (nI (k + 1)) (by first | (simp (disch := omega) only [rI, rIe, rA, rIA, rLA, rJA, rVI, rQI, rVA, rQA, upd_at,  rAI, rLI, rJI, nI_add, pk_sub, kc_0, kc_1, kc_2, kc_3, kc_4, kc_5, reduceIte, Nat.reduceEqDiff, Nat.add_zero, rI_hold, rI_hold, rL_hold, hk, he67, he68]; done) | (simp (disch := omega) only [rI, rIe, rA, rIA, rLA, rJA, rVI, rQI, rVA, rQA, upd_at,  rAI, rLI, rJI, nI_add, pk_sub, kc_0, kc_1, kc_2, kc_3, kc_4, kc_5, reduceIte, Nat.reduceEqDiff, Nat.add_zero, rI_hold, rI_hold, rL_hold, hk, he67, he68]; exact congrArg nI (by omega))) ?_
  refine Bod.ic 1 (by decide) dc_345_43 ?_
  refine Bod.addN (k + 2) (by omega) dc_345_44 ?_
  refine Bod.put dc_345_45 fr_345_190 (mk_61 _) (Nat.le_of_ble_eq_true rfl) pf_14_15 (st_6115 _ _) (mu_I _ _ _) ?_
  refine Bod.go dc_345_48 rfl ?_
  refine Bod.ic 5 (by decide) dc_345_49 ?_
  refine Bod.virt (r := []) dc_345_50 kr_345_312 ⟨Or.inl rfl, ow_309, cl_14⟩ (by rw [np_309]; rfl) (by rw [np_309]; rfl) (ob_of (mk_61 _)) (Nat.le_of_ble_eq_true rfl) (c1  ) ?_
  show Bod _ _ _ _ [_] _ _ _
  refine Bod.ifF dc_345_53 rfl (k1_ne_F (k_eq 0 0 rfl rfl (by omega))) ?_
  refine Bod.go dc_345_56 rfl ?_
  refine Bod.virt (r := []) dc_345_57 kr_345_202 ⟨Or.inl rfl, ow_299, cl_14⟩ (by rw [np_299]; rfl) (by rw [np_299]; rfl) (ob_of (mk_61 _)) (Nat.le_of_ble_eq_true rfl) (c2  ) ?_
  show Bod _ _ _ _ [_] _ _ _
  exact Bod.retZ dc_345_60 rt_345 (Or.inl rfl)
theorem zFo_5 {d : Nat} {S : cS} {la : Nat} {lb : Nat} {k : Nat} {e67 : Nat} {S1 : cS} (mla : la < 2 ^ 20) (mlb : lb < 2 ^ 20) (hk : sI S 6115 = nI k) (mk : k < 6001) (he67 : sA (wI 6115 (nI (k + 1)) S) 67 (k + 1) = nI e67) (me67 : e67 < 2 ^ 20) (b1 : e67 ≠ 1) (c1 : Ans (d + 8) 299 [.ref 61] (wI 6115 (nI (k + 1)) S) (some (.int (nI 0))) S1) : Bod (d + 8) 345 0 [(0, .ref 61), (1, .int (nI la)), (2, .int (nI lb))] [] S (some (.int 0)) (S1) := by
  refine Bod.go dc_345_0 rfl ?_
  refine Bod.go dc_345_1 rfl ?_
  refine Bod.get dc_345_2 fr_345_190 (mk_61 _) rfl ?_
  refine Bod.eqI (nI k) (by first | assumption | rfl | exact congrArg nI (by omega) | (simp (disch := omega) only [rI, rIe, rA, rIA, rLA, rJA, rVI, rQI, rVA, rQA, upd_at,  rAI, rLI, rJI, nI_add, pk_sub, kc_0, kc_1, kc_2, kc_3, kc_4, kc_5, reduceIte, Nat.reduceEqDiff, Nat.add_zero, rI_hold, rI_hold, rL_hold, hk]; done)) ?_
  refine Bod.ic 1 (by decide) dc_345_5 ?_
  refine Bod.addN (k + 1) (by omega) dc_345_6 ?_
  refine Bod.put dc_345_7 fr_345_190 (mk_61 _) (Nat.le_of_ble_eq_true rfl) pf_14_15 (st_6115 _ _) (mu_I _ _ _) ?_
  refine Bod.go dc_345_10 rfl ?_
  refine Bod.get dc_345_11 fr_345_129 (mk_61 _) rfl ?_
  refine Bod.go dc_345_14 rfl ?_
  refine Bod.get dc_345_15 fr_345_190 (mk_61 _) rfl ?_
  refine Bod.eqI (nI (k + 1)) (by first | (simp (disch := omega) only [rI, rIe, rA, rIA, rLA, rJA, rVI, rQI, rVA, rQA, upd_at,  rAI, rLI, rJI, nI_add, pk_sub, kc_0, kc_1, kc_2, kc_3, kc_4, kc_5, reduceIte, Nat.reduceEqDiff, Nat.add_zero, rI_hold, rI_hold, rL_hold, hk]; done) | (simp (disch := omega) only [rI, rIe, rA, rIA, rLA, rJA, rVI, rQI, rVA, rQA, upd_at,  rAI, rLI, rJI, nI_add, pk_sub, kc_0, kc_1, kc_2, kc_3, kc_4, kc_5, reduceIte, Nat.reduceEqDiff, Nat.add_zero, rI_hold, rI_hold, rL_hold, hk]; exact congrArg nI (by omega))) ?_
  refine Bod.ialdN (k + 1) rfl (by omega) (by omega) dc_345_18 (mk_67 _) ?_
  refine Bod.eqI (nI e67) (by first | (simp (disch := omega) only [rI, rIe, rA, rIA, rLA, rJA, rVI, rQI, rVA, rQA, upd_at,  rAI, rLI, rJI, nI_add, pk_sub, kc_0, kc_1, kc_2, kc_3, kc_4, kc_5, reduceIte, Nat.reduceEqDiff, Nat.add_zero, rI_hold, rI_hold, rL_hold, hk, he67]; done) | (simp (disch := omega) only [rI, rIe, rA, rIA, rLA, rJA, rVI, rQI, rVA, rQA, upd_at,  rAI, rLI, rJI, nI_add, pk_sub, kc_0, kc_1, kc_2, kc_3, kc_4, kc_5, reduceIte, Nat.reduceEqDiff, Nat.add_zero, rI_hold, rI_hold, rL_hold, hk, he67]; exact congrArg nI (by omega))) ?_
  refine Bod.ic 1 (by decide) dc_345_19 ?_
  refine Bod.icF dc_345_20 rfl (k2_eq_F (k_ne e67 1 rfl rfl (by omega) (by omega) (by omega))) ?_
  refine Bod.go dc_345_23 rfl ?_
  refine Bod.virt (r := []) dc_345_24 kr_345_202 ⟨Or.inl rfl, ow_299, cl_14⟩ (by rw [np_299]; rfl) (by rw [np_299]; rfl) (ob_of (mk_61 _)) (Nat.le_of_ble_eq_true rfl) (c1  ) ?_
  show Bod _ _ _ _ [_] _ _ _
  exact Bod.retZ dc_345_27 rt_345 (Or.inl rfl)
theorem zTr_1 {d : Nat} {S : cS} {la : Nat} {k : Nat} {S1 : cS} {a : Nat} {tr : Nat} {S2 : cS} {tr1 : Nat} {S3 : cS} {S4 : cS} {a1 : Nat} {S5 : cS} {k1 : Nat} {e67 : Nat} {S6 : cS} (mla : la < 2 ^ 20) (hk : sI S 6115 = nI k) (mk : k < 6001) (ma : a < 2 ^ 20) (c1 : Ans (d + 8) 325 [.ref 61, .int (nI 34)] (wI 6115 (nI (k + 1)) S) (some (.int (nI a))) S1) (htr : sI S1 6127 = nI tr) (mtr : tr < 14) (c2 : Ans (d + 8) 334 [.ref 61, .int (nI la), .int (nI 0)] (wI 6127 (nI (tr + 1)) S1) (some (.int (nI 1))) S2) (htr1 : sI S2 6127 = nI tr1) (mtr1 : tr1 < 14) (b1 : 1 ≤ tr1) (c3 : Ans (d + 8) 322 [.ref 61, .int (nI 35)] (wI 6127 (nI (tr1 - 1)) S2) none S3) (ma1 : a1 < 2 ^ 20) (c4 : Ans (d + 8) 325 [.ref 61, .int (nI 11)] S3 (some (.int (nI a1))) S4) (c5 : Ans (d + 8) 326 [.ref 61, .int (nI a)] S4 none S5) (hk1 : sI S5 6115 = nI k1) (mk1 : k1 < 6001) (he67 : sA S5 67 k1 = nI e67) (me67 : e67 < 2 ^ 20) (b2 : e67 = 7) (c6 : Ans (d + 8) 299 [.ref 61] S5 (some (.int (nI 0))) S6) : Bod (d + 8) 347 0 [(0, .ref 61), (1, .int (nI la))] [] S (some (.int 0)) (S6) := by
  refine Bod.go dc_347_0 rfl ?_
  refine Bod.go dc_347_1 rfl ?_
  refine Bod.get dc_347_2 fr_347_190 (mk_61 _) rfl ?_
  refine Bod.eqI (nI k) (by first | assumption | rfl | exact congrArg nI (by omega) | (simp (disch := omega) only [rI, rIe, rA, rIA, rLA, rJA, rVI, rQI, rVA, rQA, upd_at,  rAI, rLI, rJI, nI_add, pk_sub, kc_0, kc_1, kc_2, kc_3, kc_4, kc_5, reduceIte, Nat.reduceEqDiff, Nat.add_zero, rI_hold, rI_hold, rL_hold, hk]; done)) ?_
  refine Bod.ic 1 (by decide) dc_347_5 ?_
  refine Bod.addN (k + 1) (by omega) dc_347_6 ?_
  refine Bod.put dc_347_7 fr_347_190 (mk_61 _) (Nat.le_of_ble_eq_true rfl) pf_14_15 (st_6115 _ _) (mu_I _ _ _) ?_
  refine Bod.go dc_347_10 rfl ?_
  refine Bod.bip 34 (by decide) dc_347_11 ?_
  refine Bod.virt (r := []) dc_347_13 kr_347_305 ⟨Or.inl rfl, ow_325, cl_14⟩ (by rw [np_325]; rfl) (by rw [np_325]; rfl) (ob_of (mk_61 _)) (Nat.le_of_ble_eq_true rfl) (c1  ) ?_
  show Bod _ _ _ _ [_] _ _ _
  refine Bod.istn dc_347_16 (by rw [ml_347]; exact Nat.le_of_ble_eq_true rfl) ?_
  refine Bod.go dc_347_17 rfl ?_
  refine Bod.go dc_347_18 rfl ?_
  refine Bod.get dc_347_19 fr_347_245 (mk_61 _) rfl ?_
  refine Bod.eqI (nI tr) (by first | (simp (disch := omega) only [rI, rIe, rA, rIA, rLA, rJA, rVI, rQI, rVA, rQA, upd_at,  rAI, rLI, rJI, nI_add, pk_sub, kc_0, kc_1, kc_2, kc_3, kc_4, kc_5, reduceIte, Nat.reduceEqDiff, Nat.add_zero, rI_hold, rI_hold, rL_hold, hk, htr]; done) | (simp (disch := omega) only [rI, rIe, rA, rIA, rLA, rJA, rVI, rQI, rVA, rQA, upd_at,  rAI, rLI, rJI, nI_add, pk_sub, kc_0, kc_1, kc_2, kc_3, kc_4, kc_5, reduceIte, Nat.reduceEqDiff, Nat.add_zero, rI_hold, rI_hold, rL_hold, hk, htr]; exact congrArg nI (by omega))) ?_
  refine Bod.ic 1 (by decide) dc_347_22 ?_
  refine Bod.addN (tr + 1) (by omega) dc_347_23 ?_
  refine Bod.put dc_347_24 fr_347_245 (mk_61 _) (Nat.le_of_ble_eq_true rfl) pf_14_27 (st_6127 _ _) (mu_I _ _ _) ?_
  refine Bod.go dc_347_27 rfl ?_
  refine Bod.go dc_347_28 rfl ?_
  refine Bod.ic 0 (by decide) dc_347_29 ?_
  refine Bod.virt (r := []) dc_347_30 kr_347_309 ⟨Or.inl rfl, ow_334, cl_14⟩ (by rw [np_334]; rfl) (by rw [np_334]; rfl) (ob_of (mk_61 _)) (Nat.le_of_ble_eq_true rfl) (c2  ) ?_
  show Bod _ _ _ _ [_] _ _ _
  refine Bod.ifT dc_347_33 rfl (k1_ne_T (k_ne 1 0 rfl rfl (by omega) (by omega) (by omega))) ?_
  refine Bod.go dc_347_38 rfl ?_
  refine Bod.go dc_347_39 rfl ?_
  refine Bod.get dc_347_40 fr_347_245 (mk_61 _) rfl ?_
  refine Bod.eqI (nI tr1) (by first | (simp (disch := omega) only [rI, rIe, rA, rIA, rLA, rJA, rVI, rQI, rVA, rQA, upd_at,  rAI, rLI, rJI, nI_add, pk_sub, kc_0, kc_1, kc_2, kc_3, kc_4, kc_5, reduceIte, Nat.reduceEqDiff, Nat.add_zero, rI_hold, rI_hold, rL_hold, hk, htr, htr1]; done) | (simp (disch := omega) only [rI, rIe, rA, rIA, rLA, rJA, rVI, rQI, rVA, rQA, upd_at,  rAI, rLI, rJI, nI_add, pk_sub, kc_0, kc_1, kc_2, kc_3, kc_4, kc_5, reduceIte, Nat.reduceEqDiff, Nat.add_zero, rI_hold, rI_hold, rL_hold, hk, htr, htr1]; exact congrArg nI (by omega))) ?_
  refine Bod.ic 1 (by decide) dc_347_43 ?_
  refine Bod.subN (tr1 - 1) (by omega) (by omega) dc_347_44 ?_
  refine Bod.put dc_347_45 fr_347_245 (mk_61 _) (Nat.le_of_ble_eq_true rfl) pf_14_27 (st_6127 _ _) (mu_I _ _ _) ?_
  refine Bod.go dc_347_48 rfl ?_
  refine Bod.bip 35 (by decide) dc_347_49 ?_
  refine Bod.virt (r := []) dc_347_51 kr_347_269 ⟨Or.inl rfl, ow_322, cl_14⟩ (by rw [np_322]; rfl) (by rw [np_322]; rfl) (ob_of (mk_61 _)) (Nat.le_of_ble_eq_true rfl) (c3  ) ?_
  show Bod _ _ _ _ [] _ _ _
  refine Bod.go dc_347_54 rfl ?_
  refine Bod.bip 11 (by decide) dc_347_55 ?_
  refine Bod.virt (r := []) dc_347_57 kr_347_305 ⟨Or.inl rfl, ow_325, cl_14⟩ (by rw [np_325]; rfl) (by rw [np_325]; rfl) (ob_of (mk_61 _)) (Nat.le_of_ble_eq_true rfl) (c4  ) ?_
  show Bod _ _ _ _ [_] _ _ _
  refine Bod.istn dc_347_60 (by rw [ml_347]; exact Nat.le_of_ble_eq_true rfl) ?_
  refine Bod.go dc_347_61 rfl ?_
  refine Bod.go dc_347_62 rfl ?_
  refine Bod.virt (r := []) dc_347_63 kr_347_317 ⟨Or.inl rfl, ow_326, cl_14⟩ (by rw [np_326]; rfl) (by rw [np_326]; rfl) (ob_of (mk_61 _)) (Nat.le_of_ble_eq_true rfl) (c5  ) ?_
  show Bod _ _ _ _ [] _ _ _
  refine Bod.go dc_347_66 rfl ?_
  refine Bod.get dc_347_67 fr_347_129 (mk_61 _) rfl ?_
  refine Bod.go dc_347_70 rfl ?_
  refine Bod.get dc_347_71 fr_347_190 (mk_61 _) rfl ?_
  refine Bod.eqI (nI k1) (by first | (simp (disch := omega) only [rI, rIe, rA, rIA, rLA, rJA, rVI, rQI, rVA, rQA, upd_at,  rAI, rLI, rJI, nI_add, pk_sub, kc_0, kc_1, kc_2, kc_3, kc_4, kc_5, reduceIte, Nat.reduceEqDiff, Nat.add_zero, rI_hold, rI_hold, rL_hold, hk, htr, htr1, hk1]; done) | (simp (disch := omega) only [rI, rIe, rA, rIA, rLA, rJA, rVI, rQI, rVA, rQA, upd_at,  rAI, rLI, rJI, nI_add, pk_sub, kc_0, kc_1, kc_2, kc_3, kc_4, kc_5, reduceIte, Nat.reduceEqDiff, Nat.add_zero, rI_hold, rI_hold, rL_hold, hk, htr, htr1, hk1]; exact congrArg nI (by omega))) ?_
  refine Bod.ialdN k1 rfl (by omega) (by omega) dc_347_74 (mk_67 _) ?_
  refine Bod.eqI (nI e67) (by first | (simp (disch := omega) only [rI, rIe, rA, rIA, rLA, rJA, rVI, rQI, rVA, rQA, upd_at,  rAI, rLI, rJI, nI_add, pk_sub, kc_0, kc_1, kc_2, kc_3, kc_4, kc_5, reduceIte, Nat.reduceEqDiff, Nat.add_zero, rI_hold, rI_hold, rL_hold, hk, htr, htr1, hk1, he67]; done) | (simp (disch := omega) only [rI, rIe, rA, rIA, rLA, rJA, rVI, rQI, rVA, rQA, upd_at,  rAI, rLI, rJI, nI_add, pk_sub, kc_0, kc_1, kc_2, kc_3, kc_4, kc_5, reduceIte, Nat.reduceEqDiff, Nat.add_zero, rI_hold, rI_hold, rL_hold, hk, htr, htr1, hk1, he67]; exact congrArg nI (by omega))) ?_
  refine Bod.bip 7 (by decide) dc_347_75 ?_
  refine Bod.icT dc_347_77 rfl (k2_eq_T (k_eq e67 7 rfl rfl (by omega))) ?_
  refine Bod.go dc_347_102 rfl ?_
  refine Bod.virt (r := []) dc_347_103 kr_347_202 ⟨Or.inl rfl, ow_299, cl_14⟩ (by rw [np_299]; rfl) (by rw [np_299]; rfl) (ob_of (mk_61 _)) (Nat.le_of_ble_eq_true rfl) (c6  ) ?_
  show Bod _ _ _ _ [_] _ _ _
  exact Bod.retZ dc_347_106 rt_347 (Or.inl rfl)
theorem zTr_2 {d : Nat} {S : cS} {la : Nat} {k : Nat} {S1 : cS} {a : Nat} {tr : Nat} {S2 : cS} {tr1 : Nat} {S3 : cS} {S4 : cS} {a1 : Nat} {S5 : cS} {k1 : Nat} {e67 : Nat} {e70 : Nat} {S6 : cS} (mla : la < 2 ^ 20) (hk : sI S 6115 = nI k) (mk : k < 6001) (ma : a < 2 ^ 20) (c1 : Ans (d + 8) 325 [.ref 61, .int (nI 34)] (wI 6115 (nI (k + 1)) S) (some (.int (nI a))) S1) (htr : sI S1 6127 = nI tr) (mtr : tr < 14) (c2 : Ans (d + 8) 334 [.ref 61, .int (nI la), .int (nI 0)] (wI 6127 (nI (tr + 1)) S1) (some (.int (nI 1))) S2) (htr1 : sI S2 6127 = nI tr1) (mtr1 : tr1 < 14) (b1 : 1 ≤ tr1) (c3 : Ans (d + 8) 322 [.ref 61, .int (nI 35)] (wI 6127 (nI (tr1 - 1)) S2) none S3) (ma1 : a1 < 2 ^ 20) (c4 : Ans (d + 8) 325 [.ref 61, .int (nI 11)] S3 (some (.int (nI a1))) S4) (c5 : Ans (d + 8) 326 [.ref 61, .int (nI a)] S4 none S5) (hk1 : sI S5 6115 = nI k1) (mk1 : k1 < 6001) (he67 : sA S5 67 k1 = nI e67) (me67 : e67 < 2 ^ 20) (b2 : e67 ≠ 7) (he70 : sA S5 70 k1 = nI e70) (me70 : e70 < 2 ^ 20) (b3 : e70 ≠ la) (c6 : Ans (d + 8) 299 [.ref 61] S5 (some (.int (nI 0))) S6) : Bod (d + 8) 347 0 [(0, .ref 61), (1, .int (nI la))] [] S (some (.int 0)) (S6) := by
  refine Bod.go dc_347_0 rfl ?_
  refine Bod.go dc_347_1 rfl ?_
  refine Bod.get dc_347_2 fr_347_190 (mk_61 _) rfl ?_
  refine Bod.eqI (nI k) (by first | assumption | rfl | exact congrArg nI (by omega) | (simp (disch := omega) only [rI, rIe, rA, rIA, rLA, rJA, rVI, rQI, rVA, rQA, upd_at,  rAI, rLI, rJI, nI_add, pk_sub, kc_0, kc_1, kc_2, kc_3, kc_4, kc_5, reduceIte, Nat.reduceEqDiff, Nat.add_zero, rI_hold, rI_hold, rL_hold, hk]; done)) ?_
  refine Bod.ic 1 (by decide) dc_347_5 ?_
  refine Bod.addN (k + 1) (by omega) dc_347_6 ?_
  refine Bod.put dc_347_7 fr_347_190 (mk_61 _) (Nat.le_of_ble_eq_true rfl) pf_14_15 (st_6115 _ _) (mu_I _ _ _) ?_
  refine Bod.go dc_347_10 rfl ?_
  refine Bod.bip 34 (by decide) dc_347_11 ?_
  refine Bod.virt (r := []) dc_347_13 kr_347_305 ⟨Or.inl rfl, ow_325, cl_14⟩ (by rw [np_325]; rfl) (by rw [np_325]; rfl) (ob_of (mk_61 _)) (Nat.le_of_ble_eq_true rfl) (c1  ) ?_
  show Bod _ _ _ _ [_] _ _ _
  refine Bod.istn dc_347_16 (by rw [ml_347]; exact Nat.le_of_ble_eq_true rfl) ?_
  refine Bod.go dc_347_17 rfl ?_
  refine Bod.go dc_347_18 rfl ?_
  refine Bod.get dc_347_19 fr_347_245 (mk_61 _) rfl ?_
  refine Bod.eqI (nI tr) (by first | (simp (disch := omega) only [rI, rIe, rA, rIA, rLA, rJA, rVI, rQI, rVA, rQA, upd_at,  rAI, rLI, rJI, nI_add, pk_sub, kc_0, kc_1, kc_2, kc_3, kc_4, kc_5, reduceIte, Nat.reduceEqDiff, Nat.add_zero, rI_hold, rI_hold, rL_hold, hk, htr]; done) | (simp (disch := omega) only [rI, rIe, rA, rIA, rLA, rJA, rVI, rQI, rVA, rQA, upd_at,  rAI, rLI, rJI, nI_add, pk_sub, kc_0, kc_1, kc_2, kc_3, kc_4, kc_5, reduceIte, Nat.reduceEqDiff, Nat.add_zero, rI_hold, rI_hold, rL_hold, hk, htr]; exact congrArg nI (by omega))) ?_
  refine Bod.ic 1 (by decide) dc_347_22 ?_
  refine Bod.addN (tr + 1) (by omega) dc_347_23 ?_
  refine Bod.put dc_347_24 fr_347_245 (mk_61 _) (Nat.le_of_ble_eq_true rfl) pf_14_27 (st_6127 _ _) (mu_I _ _ _) ?_
  refine Bod.go dc_347_27 rfl ?_
  refine Bod.go dc_347_28 rfl ?_
  refine Bod.ic 0 (by decide) dc_347_29 ?_
  refine Bod.virt (r := []) dc_347_30 kr_347_309 ⟨Or.inl rfl, ow_334, cl_14⟩ (by rw [np_334]; rfl) (by rw [np_334]; rfl) (ob_of (mk_61 _)) (Nat.le_of_ble_eq_true rfl) (c2  ) ?_
  show Bod _ _ _ _ [_] _ _ _
  refine Bod.ifT dc_347_33 rfl (k1_ne_T (k_ne 1 0 rfl rfl (by omega) (by omega) (by omega))) ?_
  refine Bod.go dc_347_38 rfl ?_
  refine Bod.go dc_347_39 rfl ?_
  refine Bod.get dc_347_40 fr_347_245 (mk_61 _) rfl ?_
  refine Bod.eqI (nI tr1) (by first | (simp (disch := omega) only [rI, rIe, rA, rIA, rLA, rJA, rVI, rQI, rVA, rQA, upd_at,  rAI, rLI, rJI, nI_add, pk_sub, kc_0, kc_1, kc_2, kc_3, kc_4, kc_5, reduceIte, Nat.reduceEqDiff, Nat.add_zero, rI_hold, rI_hold, rL_hold, hk, htr, htr1]; done) | (simp (disch := omega) only [rI, rIe, rA, rIA, rLA, rJA, rVI, rQI, rVA, rQA, upd_at,  rAI, rLI, rJI, nI_add, pk_sub, kc_0, kc_1, kc_2, kc_3, kc_4, kc_5, reduceIte, Nat.reduceEqDiff, Nat.add_zero, rI_hold, rI_hold, rL_hold, hk, htr, htr1]; exact congrArg nI (by omega))) ?_
  refine Bod.ic 1 (by decide) dc_347_43 ?_
  refine Bod.subN (tr1 - 1) (by omega) (by omega) dc_347_44 ?_
  refine Bod.put dc_347_45 fr_347_245 (mk_61 _) (Nat.le_of_ble_eq_true rfl) pf_14_27 (st_6127 _ _) (mu_I _ _ _) ?_
  refine Bod.go dc_347_48 rfl ?_
  refine Bod.bip 35 (by decide) dc_347_49 ?_
  refine Bod.virt (r := []) dc_347_51 kr_347_269 ⟨Or.inl rfl, ow_322, cl_14⟩ (by rw [np_322]; rfl) (by rw [np_322]; rfl) (ob_of (mk_61 _)) (Nat.le_of_ble_eq_true rfl) (c3  ) ?_
  show Bod _ _ _ _ [] _ _ _
  refine Bod.go dc_347_54 rfl ?_
  refine Bod.bip 11 (by decide) dc_347_55 ?_
  refine Bod.virt (r := []) dc_347_57 kr_347_305 ⟨Or.inl rfl, ow_325, cl_14⟩ (by rw [np_325]; rfl) (by rw [np_325]; rfl) (ob_of (mk_61 _)) (Nat.le_of_ble_eq_true rfl) (c4  ) ?_
  show Bod _ _ _ _ [_] _ _ _
  refine Bod.istn dc_347_60 (by rw [ml_347]; exact Nat.le_of_ble_eq_true rfl) ?_
  refine Bod.go dc_347_61 rfl ?_
  refine Bod.go dc_347_62 rfl ?_
  refine Bod.virt (r := []) dc_347_63 kr_347_317 ⟨Or.inl rfl, ow_326, cl_14⟩ (by rw [np_326]; rfl) (by rw [np_326]; rfl) (ob_of (mk_61 _)) (Nat.le_of_ble_eq_true rfl) (c5  ) ?_
  show Bod _ _ _ _ [] _ _ _
  refine Bod.go dc_347_66 rfl ?_
  refine Bod.get dc_347_67 fr_347_129 (mk_61 _) rfl ?_
  refine Bod.go dc_347_70 rfl ?_
  refine Bod.get dc_347_71 fr_347_190 (mk_61 _) rfl ?_
  refine Bod.eqI (nI k1) (by first | (simp (disch := omega) only [rI, rIe, rA, rIA, rLA, rJA, rVI, rQI, rVA, rQA, upd_at,  rAI, rLI, rJI, nI_add, pk_sub, kc_0, kc_1, kc_2, kc_3, kc_4, kc_5, reduceIte, Nat.reduceEqDiff, Nat.add_zero, rI_hold, rI_hold, rL_hold, hk, htr, htr1, hk1]; done) | (simp (disch := omega) only [rI, rIe, rA, rIA, rLA, rJA, rVI, rQI, rVA, rQA, upd_at,  rAI, rLI, rJI, nI_add, pk_sub, kc_0, kc_1, kc_2, kc_3, kc_4, kc_5, reduceIte, Nat.reduceEqDiff, Nat.add_zero, rI_hold, rI_hold, rL_hold, hk, htr, htr1, hk1]; exact congrArg nI (by omega))) ?_
  refine Bod.ialdN k1 rfl (by omega) (by omega) dc_347_74 (mk_67 _) ?_
  refine Bod.eqI (nI e67) (by first | (simp (disch := omega) only [rI, rIe, rA, rIA, rLA, rJA, rVI, rQI, rVA, rQA, upd_at,  rAI, rLI, rJI, nI_add, pk_sub, kc_0, kc_1, kc_2, kc_3, kc_4, kc_5, reduceIte, Nat.reduceEqDiff, Nat.add_zero, rI_hold, rI_hold, rL_hold, hk, htr, htr1, hk1, he67]; done) | (simp (disch := omega) only [rI, rIe, rA, rIA, rLA, rJA, rVI, rQI, rVA, rQA, upd_at,  rAI, rLI, rJI, nI_add, pk_sub, kc_0, kc_1, kc_2, kc_3, kc_4, kc_5, reduceIte, Nat.reduceEqDiff, Nat.add_zero, rI_hold, rI_hold, rL_hold, hk, htr, htr1, hk1, he67]; exact congrArg nI (by omega))) ?_
  refine Bod.bip 7 (by decide) dc_347_75 ?_
  refine Bod.icF dc_347_77 rfl (k2_eq_F (k_ne e67 7 rfl rfl (by omega) (by omega) (by omega))) ?_
  refine Bod.go dc_347_80 rfl ?_
  refine Bod.get dc_347_81 fr_347_141 (mk_61 _) rfl ?_
  refine Bod.go dc_347_84 rfl ?_
  refine Bod.get dc_347_85 fr_347_190 (mk_61 _) rfl ?_
  refine Bod.eqI (nI k1) (by first | (simp (disch := omega) only [rI, rIe, rA, rIA, rLA, rJA, rVI, rQI, rVA, rQA, upd_at,  rAI, rLI, rJI, nI_add, pk_sub, kc_0, kc_1, kc_2, kc_3, kc_4, kc_5, reduceIte, Nat.reduceEqDiff, Nat.add_zero, rI_hold, rI_hold, rL_hold, hk, htr, htr1, hk1, he67]; done) | (simp (disch := omega) only [rI, rIe, rA, rIA, rLA, rJA, rVI, rQI, rVA, rQA, upd_at,  rAI, rLI, rJI, nI_add, pk_sub, kc_0, kc_1, kc_2, kc_3, kc_4, kc_5, reduceIte, Nat.reduceEqDiff, Nat.add_zero, rI_hold, rI_hold, rL_hold, hk, htr, htr1, hk1, he67]; exact congrArg nI (by omega))) ?_
  refine Bod.ialdN k1 rfl (by omega) (by omega) dc_347_88 (mk_70 _) ?_
  refine Bod.eqI (nI e70) (by first | (simp (disch := omega) only [rI, rIe, rA, rIA, rLA, rJA, rVI, rQI, rVA, rQA, upd_at,  rAI, rLI, rJI, nI_add, pk_sub, kc_0, kc_1, kc_2, kc_3, kc_4, kc_5, reduceIte, Nat.reduceEqDiff, Nat.add_zero, rI_hold, rI_hold, rL_hold, hk, htr, htr1, hk1, he67, he70]; done) | (simp (disch := omega) only [rI, rIe, rA, rIA, rLA, rJA, rVI, rQI, rVA, rQA, upd_at,  rAI, rLI, rJI, nI_add, pk_sub, kc_0, kc_1, kc_2, kc_3, kc_4, kc_5, reduceIte, Nat.reduceEqDiff, Nat.add_zero, rI_hold, rI_hold, rL_hold, hk, htr, htr1, hk1, he67, he70]; exact congrArg nI (by omega))) ?_
  refine Bod.go dc_347_89 rfl ?_
  refine Bod.icT dc_347_90 rfl (k2_ne_T (k_ne e70 la rfl rfl (by omega) (by omega) (by omega))) ?_
  refine Bod.go dc_347_102 rfl ?_
  refine Bod.virt (r := []) dc_347_103 kr_347_202 ⟨Or.inl rfl, ow_299, cl_14⟩ (by rw [np_299]; rfl) (by rw [np_299]; rfl) (ob_of (mk_61 _)) (Nat.le_of_ble_eq_true rfl) (c6  ) ?_
  show Bod _ _ _ _ [_] _ _ _
  exact Bod.retZ dc_347_106 rt_347 (Or.inl rfl)
theorem zTr_3 {d : Nat} {S : cS} {la : Nat} {k : Nat} {S1 : cS} {a : Nat} {tr : Nat} {S2 : cS} {tr1 : Nat} {S3 : cS} {S4 : cS} {a1 : Nat} {S5 : cS} {k1 : Nat} {e67 : Nat} {e70 : Nat} {S6 : cS} {k2 : Nat} {S7 : cS} {k3 : Nat} {e671 : Nat} {S8 : cS} {S9 : cS} {S10 : cS} (mla : la < 2 ^ 20) (hk : sI S 6115 = nI k) (mk : k < 6001) (ma : a < 2 ^ 20) (c1 : Ans (d + 8) 325 [.ref 61, .int (nI 34)] (wI 6115 (nI (k + 1)) S) (some (.int (nI a))) S1) (htr : sI S1 6127 = nI tr) (mtr : tr < 14) (c2 : Ans (d + 8) 334 [.ref 61, .int (nI la), .int (nI 0)] (wI 6127 (nI (tr + 1)) S1) (some (.int (nI 1))) S2) (htr1 : sI S2 6127 = nI tr1) (mtr1 : tr1 < 14) (b1 : 1 ≤ tr1) (c3 : Ans (d + 8) 322 [.ref 61, .int (nI 35)] (wI 6127 (nI (tr1 - 1)) S2) none S3) (ma1 : a1 < 2 ^ 20) (c4 : Ans (d + 8) 325 [.ref 61, .int (nI 11)] S3 (some (.int (nI a1))) S4) (c5 : Ans (d + 8) 326 [.ref 61, .int (nI a)] S4 none S5) (hk1 : sI S5 6115 = nI k1) (mk1 : k1 < 6001) (he67 : sA S5 67 k1 = nI e67) (me67 : e67 < 2 ^ 20) (b2 : e67 ≠ 7) (he70 : sA S5 70 k1 = nI e70) (me70 : e70 < 2 ^ 20) (b3 : e70 = la) (c6 : Ans (d + 8) 309 [.ref 61, .int (nI 15)] S5 (some (.int (nI 1))) S6) (hk2 : sI S6 6115 = nI k2) (mk2 : k2 < 6001) (c7 : Ans (d + 8) 322 [.ref 61, .int (nI 36)] (wI 6115 (nI (k2 + 1)) S6) none S7) (hk3 : sI S7 6115 = nI k3) (mk3 : k3 < 6001) (he671 : sA S7 67 k3 = nI e671) (me671 : e671 < 2 ^ 20) (b4 : e671 ≠ 1) (c8 : Ans (d + 8) 322 [.ref 61, .int (nI 20)] S7 none S8) (c9 : Ans (d + 8) 334 [.ref 61, .int (nI la), .int (nI 0)] S8 (some (.int (nI 1))) S9) (c10 : Ans (d + 8) 326 [.ref 61, .int (nI a1)] S9 none S10) : Bod (d + 8) 347 0 [(0, .ref 61), (1, .int (nI la))] [] S (some (.int 1)) (S10) := by
  refine Bod.go dc_347_0 rfl ?_
  refine Bod.go dc_347_1 rfl ?_
  refine Bod.get dc_347_2 fr_347_190 (mk_61 _) rfl ?_
  refine Bod.eqI (nI k) (by first | assumption | rfl | exact congrArg nI (by omega) | (simp (disch := omega) only [rI, rIe, rA, rIA, rLA, rJA, rVI, rQI, rVA, rQA, upd_at,  rAI, rLI, rJI, nI_add, pk_sub, kc_0, kc_1, kc_2, kc_3, kc_4, kc_5, reduceIte, Nat.reduceEqDiff, Nat.add_zero, rI_hold, rI_hold, rL_hold, hk]; done)) ?_
  refine Bod.ic 1 (by decide) dc_347_5 ?_
  refine Bod.addN (k + 1) (by omega) dc_347_6 ?_
  refine Bod.put dc_347_7 fr_347_190 (mk_61 _) (Nat.le_of_ble_eq_true rfl) pf_14_15 (st_6115 _ _) (mu_I _ _ _) ?_
  refine Bod.go dc_347_10 rfl ?_
  refine Bod.bip 34 (by decide) dc_347_11 ?_
  refine Bod.virt (r := []) dc_347_13 kr_347_305 ⟨Or.inl rfl, ow_325, cl_14⟩ (by rw [np_325]; rfl) (by rw [np_325]; rfl) (ob_of (mk_61 _)) (Nat.le_of_ble_eq_true rfl) (c1  ) ?_
  show Bod _ _ _ _ [_] _ _ _
  refine Bod.istn dc_347_16 (by rw [ml_347]; exact Nat.le_of_ble_eq_true rfl) ?_
  refine Bod.go dc_347_17 rfl ?_
  refine Bod.go dc_347_18 rfl ?_
  refine Bod.get dc_347_19 fr_347_245 (mk_61 _) rfl ?_
  refine Bod.eqI (nI tr) (by first | (simp (disch := omega) only [rI, rIe, rA, rIA, rLA, rJA, rVI, rQI, rVA, rQA, upd_at,  rAI, rLI, rJI, nI_add, pk_sub, kc_0, kc_1, kc_2, kc_3, kc_4, kc_5, reduceIte, Nat.reduceEqDiff, Nat.add_zero, rI_hold, rI_hold, rL_hold, hk, htr]; done) | (simp (disch := omega) only [rI, rIe, rA, rIA, rLA, rJA, rVI, rQI, rVA, rQA, upd_at,  rAI, rLI, rJI, nI_add, pk_sub, kc_0, kc_1, kc_2, kc_3, kc_4, kc_5, reduceIte, Nat.reduceEqDiff, Nat.add_zero, rI_hold, rI_hold, rL_hold, hk, htr]; exact congrArg nI (by omega))) ?_
  refine Bod.ic 1 (by decide) dc_347_22 ?_
  refine Bod.addN (tr + 1) (by omega) dc_347_23 ?_
  refine Bod.put dc_347_24 fr_347_245 (mk_61 _) (Nat.le_of_ble_eq_true rfl) pf_14_27 (st_6127 _ _) (mu_I _ _ _) ?_
  refine Bod.go dc_347_27 rfl ?_
  refine Bod.go dc_347_28 rfl ?_
  refine Bod.ic 0 (by decide) dc_347_29 ?_
  refine Bod.virt (r := []) dc_347_30 kr_347_309 ⟨Or.inl rfl, ow_334, cl_14⟩ (by rw [np_334]; rfl) (by rw [np_334]; rfl) (ob_of (mk_61 _)) (Nat.le_of_ble_eq_true rfl) (c2  ) ?_
  show Bod _ _ _ _ [_] _ _ _
  refine Bod.ifT dc_347_33 rfl (k1_ne_T (k_ne 1 0 rfl rfl (by omega) (by omega) (by omega))) ?_
  refine Bod.go dc_347_38 rfl ?_
  refine Bod.go dc_347_39 rfl ?_
  refine Bod.get dc_347_40 fr_347_245 (mk_61 _) rfl ?_
  refine Bod.eqI (nI tr1) (by first | (simp (disch := omega) only [rI, rIe, rA, rIA, rLA, rJA, rVI, rQI, rVA, rQA, upd_at,  rAI, rLI, rJI, nI_add, pk_sub, kc_0, kc_1, kc_2, kc_3, kc_4, kc_5, reduceIte, Nat.reduceEqDiff, Nat.add_zero, rI_hold, rI_hold, rL_hold, hk, htr, htr1]; done) | (simp (disch := omega) only [rI, rIe, rA, rIA, rLA, rJA, rVI, rQI, rVA, rQA, upd_at,  rAI, rLI, rJI, nI_add, pk_sub, kc_0, kc_1, kc_2, kc_3, kc_4, kc_5, reduceIte, Nat.reduceEqDiff, Nat.add_zero, rI_hold, rI_hold, rL_hold, hk, htr, htr1]; exact congrArg nI (by omega))) ?_
  refine Bod.ic 1 (by decide) dc_347_43 ?_
  refine Bod.subN (tr1 - 1) (by omega) (by omega) dc_347_44 ?_
  refine Bod.put dc_347_45 fr_347_245 (mk_61 _) (Nat.le_of_ble_eq_true rfl) pf_14_27 (st_6127 _ _) (mu_I _ _ _) ?_
  refine Bod.go dc_347_48 rfl ?_
  refine Bod.bip 35 (by decide) dc_347_49 ?_
  refine Bod.virt (r := []) dc_347_51 kr_347_269 ⟨Or.inl rfl, ow_322, cl_14⟩ (by rw [np_322]; rfl) (by rw [np_322]; rfl) (ob_of (mk_61 _)) (Nat.le_of_ble_eq_true rfl) (c3  ) ?_
  show Bod _ _ _ _ [] _ _ _
  refine Bod.go dc_347_54 rfl ?_
  refine Bod.bip 11 (by decide) dc_347_55 ?_
  refine Bod.virt (r := []) dc_347_57 kr_347_305 ⟨Or.inl rfl, ow_325, cl_14⟩ (by rw [np_325]; rfl) (by rw [np_325]; rfl) (ob_of (mk_61 _)) (Nat.le_of_ble_eq_true rfl) (c4  ) ?_
  show Bod _ _ _ _ [_] _ _ _
  refine Bod.istn dc_347_60 (by rw [ml_347]; exact Nat.le_of_ble_eq_true rfl) ?_
  refine Bod.go dc_347_61 rfl ?_
  refine Bod.go dc_347_62 rfl ?_
  refine Bod.virt (r := []) dc_347_63 kr_347_317 ⟨Or.inl rfl, ow_326, cl_14⟩ (by rw [np_326]; rfl) (by rw [np_326]; rfl) (ob_of (mk_61 _)) (Nat.le_of_ble_eq_true rfl) (c5  ) ?_
  show Bod _ _ _ _ [] _ _ _
  refine Bod.go dc_347_66 rfl ?_
  refine Bod.get dc_347_67 fr_347_129 (mk_61 _) rfl ?_
  refine Bod.go dc_347_70 rfl ?_
  refine Bod.get dc_347_71 fr_347_190 (mk_61 _) rfl ?_
  refine Bod.eqI (nI k1) (by first | (simp (disch := omega) only [rI, rIe, rA, rIA, rLA, rJA, rVI, rQI, rVA, rQA, upd_at,  rAI, rLI, rJI, nI_add, pk_sub, kc_0, kc_1, kc_2, kc_3, kc_4, kc_5, reduceIte, Nat.reduceEqDiff, Nat.add_zero, rI_hold, rI_hold, rL_hold, hk, htr, htr1, hk1]; done) | (simp (disch := omega) only [rI, rIe, rA, rIA, rLA, rJA, rVI, rQI, rVA, rQA, upd_at,  rAI, rLI, rJI, nI_add, pk_sub, kc_0, kc_1, kc_2, kc_3, kc_4, kc_5, reduceIte, Nat.reduceEqDiff, Nat.add_zero, rI_hold, rI_hold, rL_hold, hk, htr, htr1, hk1]; exact congrArg nI (by omega))) ?_
  refine Bod.ialdN k1 rfl (by omega) (by omega) dc_347_74 (mk_67 _) ?_
  refine Bod.eqI (nI e67) (by first | (simp (disch := omega) only [rI, rIe, rA, rIA, rLA, rJA, rVI, rQI, rVA, rQA, upd_at,  rAI, rLI, rJI, nI_add, pk_sub, kc_0, kc_1, kc_2, kc_3, kc_4, kc_5, reduceIte, Nat.reduceEqDiff, Nat.add_zero, rI_hold, rI_hold, rL_hold, hk, htr, htr1, hk1, he67]; done) | (simp (disch := omega) only [rI, rIe, rA, rIA, rLA, rJA, rVI, rQI, rVA, rQA, upd_at,  rAI, rLI, rJI, nI_add, pk_sub, kc_0, kc_1, kc_2, kc_3, kc_4, kc_5, reduceIte, Nat.reduceEqDiff, Nat.add_zero, rI_hold, rI_hold, rL_hold, hk, htr, htr1, hk1, he67]; exact congrArg nI (by omega))) ?_
  refine Bod.bip 7 (by decide) dc_347_75 ?_
  refine Bod.icF dc_347_77 rfl (k2_eq_F (k_ne e67 7 rfl rfl (by omega) (by omega) (by omega))) ?_
  refine Bod.go dc_347_80 rfl ?_
  refine Bod.get dc_347_81 fr_347_141 (mk_61 _) rfl ?_
  refine Bod.go dc_347_84 rfl ?_
  refine Bod.get dc_347_85 fr_347_190 (mk_61 _) rfl ?_
  refine Bod.eqI (nI k1) (by first | (simp (disch := omega) only [rI, rIe, rA, rIA, rLA, rJA, rVI, rQI, rVA, rQA, upd_at,  rAI, rLI, rJI, nI_add, pk_sub, kc_0, kc_1, kc_2, kc_3, kc_4, kc_5, reduceIte, Nat.reduceEqDiff, Nat.add_zero, rI_hold, rI_hold, rL_hold, hk, htr, htr1, hk1, he67]; done) | (simp (disch := omega) only [rI, rIe, rA, rIA, rLA, rJA, rVI, rQI, rVA, rQA, upd_at,  rAI, rLI, rJI, nI_add, pk_sub, kc_0, kc_1, kc_2, kc_3, kc_4, kc_5, reduceIte, Nat.reduceEqDiff, Nat.add_zero, rI_hold, rI_hold, rL_hold, hk, htr, htr1, hk1, he67]; exact congrArg nI (by omega))) ?_
  refine Bod.ialdN k1 rfl (by omega) (by omega) dc_347_88 (mk_70 _) ?_
  refine Bod.eqI (nI e70) (by first | (simp (disch := omega) only [rI, rIe, rA, rIA, rLA, rJA, rVI, rQI, rVA, rQA, upd_at,  rAI, rLI, rJI, nI_add, pk_sub, kc_0, kc_1, kc_2, kc_3, kc_4, kc_5, reduceIte, Nat.reduceEqDiff, Nat.add_zero, rI_hold, rI_hold, rL_hold, hk, htr, htr1, hk1, he67, he70]; done) | (simp (disch := omega) only [rI, rIe, rA, rIA, rLA, rJA, rVI, rQI, rVA, rQA, upd_at,  rAI, rLI, rJI, nI_add, pk_sub, kc_0, kc_1, kc_2, kc_3, kc_4, kc_5, reduceIte, Nat.reduceEqDiff, Nat.add_zero, rI_hold, rI_hold, rL_hold, hk, htr, htr1, hk1, he67, he70]; exact congrArg nI (by omega))) ?_
  refine Bod.go dc_347_89 rfl ?_
  refine Bod.icF dc_347_90 rfl (k2_ne_F (k_eq e70 la rfl rfl (by omega))) ?_
  refine Bod.go dc_347_93 rfl ?_
  refine Bod.bip 15 (by decide) dc_347_94 ?_
  refine Bod.virt (r := []) dc_347_96 kr_347_312 ⟨Or.inl rfl, ow_309, cl_14⟩ (by rw [np_309]; rfl) (by rw [np_309]; rfl) (ob_of (mk_61 _)) (Nat.le_of_ble_eq_true rfl) (c6  ) ?_
  show Bod _ _ _ _ [_] _ _ _
  refine Bod.ifT dc_347_99 rfl (k1_ne_T (k_ne 1 0 rfl rfl (by omega) (by omega) (by omega))) ?_
  refine Bod.go dc_347_107 rfl ?_
  refine Bod.go dc_347_108 rfl ?_
  refine Bod.get dc_347_109 fr_347_190 (mk_61 _) rfl ?_
  refine Bod.eqI (nI k2) (by first | (simp (disch := omega) only [rI, rIe, rA, rIA, rLA, rJA, rVI, rQI, rVA, rQA, upd_at,  rAI, rLI, rJI, nI_add, pk_sub, kc_0, kc_1, kc_2, kc_3, kc_4, kc_5, reduceIte, Nat.reduceEqDiff, Nat.add_zero, rI_hold, rI_hold, rL_hold, hk, htr, htr1, hk1, he67, he70, hk2]; done) | (simp (disch := omega) only [rI, rIe, rA, rIA, rLA, rJA, rVI, rQI, rVA, rQA, upd_at,  rAI, rLI, rJI, nI_add, pk_sub, kc_0, kc_1, kc_2, kc_3, kc_4, kc_5, reduceIte, Nat.reduceEqDiff, Nat.add_zero, rI_hold, rI_hold, rL_hold, hk, htr, htr1, hk1, he67, he70, hk2]; exact congrArg nI (by omega))) ?_
  refine Bod.ic 1 (by decide) dc_347_112 ?_
  refine Bod.addN (k2 + 1) (by omega) dc_347_113 ?_
  refine Bod.put dc_347_114 fr_347_190 (mk_61 _) (Nat.le_of_ble_eq_true rfl) pf_14_15 (st_6115 _ _) (mu_I _ _ _) ?_
  refine Bod.go dc_347_117 rfl ?_
  refine Bod.bip 36 (by decide) dc_347_118 ?_
  refine Bod.virt (r := []) dc_347_120 kr_347_269 ⟨Or.inl rfl, ow_322, cl_14⟩ (by rw [np_322]; rfl) (by rw [np_322]; rfl) (ob_of (mk_61 _)) (Nat.le_of_ble_eq_true rfl) (c7  ) ?_
  show Bod _ _ _ _ [] _ _ _
  refine Bod.go dc_347_123 rfl ?_
  refine Bod.get dc_347_124 fr_347_129 (mk_61 _) rfl ?_
  refine Bod.go dc_347_127 rfl ?_
  refine Bod.get dc_347_128 fr_347_190 (mk_61 _) rfl ?_
  refine Bod.eqI (nI k3) (by first | (simp (disch := omega) only [rI, rIe, rA, rIA, rLA, rJA, rVI, rQI, rVA, rQA, upd_at,  rAI, rLI, rJI, nI_add, pk_sub, kc_0, kc_1, kc_2, kc_3, kc_4, kc_5, reduceIte, Nat.reduceEqDiff, Nat.add_zero, rI_hold, rI_hold, rL_hold, hk, htr, htr1, hk1, he67, he70, hk2, hk3]; done) | (simp (disch := omega) only [rI, rIe, rA, rIA, rLA, rJA, rVI, rQI, rVA, rQA, upd_at,  rAI, rLI, rJI, nI_add, pk_sub, kc_0, kc_1, kc_2, kc_3, kc_4, kc_5, reduceIte, Nat.reduceEqDiff, Nat.add_zero, rI_hold, rI_hold, rL_hold, hk, htr, htr1, hk1, he67, he70, hk2, hk3]; exact congrArg nI (by omega))) ?_
  refine Bod.ialdN k3 rfl (by omega) (by omega) dc_347_131 (mk_67 _) ?_
  refine Bod.eqI (nI e671) (by first | (simp (disch := omega) only [rI, rIe, rA, rIA, rLA, rJA, rVI, rQI, rVA, rQA, upd_at,  rAI, rLI, rJI, nI_add, pk_sub, kc_0, kc_1, kc_2, kc_3, kc_4, kc_5, reduceIte, Nat.reduceEqDiff, Nat.add_zero, rI_hold, rI_hold, rL_hold, hk, htr, htr1, hk1, he67, he70, hk2, hk3, he671]; done) | (simp (disch := omega) only [rI, rIe, rA, rIA, rLA, rJA, rVI, rQI, rVA, rQA, upd_at,  rAI, rLI, rJI, nI_add, pk_sub, kc_0, kc_1, kc_2, kc_3, kc_4, kc_5, reduceIte, Nat.reduceEqDiff, Nat.add_zero, rI_hold, rI_hold, rL_hold, hk, htr, htr1, hk1, he67, he70, hk2, hk3, he671]; exact congrArg nI (by omega))) ?_
  refine Bod.ic 1 (by decide) dc_347_132 ?_
  refine Bod.icT dc_347_133 rfl (k2_ne_T (k_ne e671 1 rfl rfl (by omega) (by omega) (by omega))) ?_
  refine Bod.go dc_347_164 rfl ?_
  refine Bod.bip 20 (by decide) dc_347_165 ?_
  refine Bod.virt (r := []) dc_347_167 kr_347_269 ⟨Or.inl rfl, ow_322, cl_14⟩ (by rw [np_322]; rfl) (by rw [np_322]; rfl) (ob_of (mk_61 _)) (Nat.le_of_ble_eq_true rfl) (c8  ) ?_
  show Bod _ _ _ _ [] _ _ _
  refine Bod.go dc_347_170 rfl ?_
  refine Bod.go dc_347_171 rfl ?_
  refine Bod.ic 0 (by decide) dc_347_172 ?_
  refine Bod.virt (r := []) dc_347_173 kr_347_309 ⟨Or.inl rfl, ow_334, cl_14⟩ (by rw [np_334]; rfl) (by rw [np_334]; rfl) (ob_of (mk_61 _)) (Nat.le_of_ble_eq_true rfl) (c9  ) ?_
  show Bod _ _ _ _ [_] _ _ _
  refine Bod.ifT dc_347_176 rfl (k1_ne_T (k_ne 1 0 rfl rfl (by omega) (by omega) (by omega))) ?_
  refine Bod.go dc_347_181 rfl ?_
  refine Bod.go dc_347_182 rfl ?_
  refine Bod.virt (r := []) dc_347_183 kr_347_317 ⟨Or.inl rfl, ow_326, cl_14⟩ (by rw [np_326]; rfl) (by rw [np_326]; rfl) (ob_of (mk_61 _)) (Nat.le_of_ble_eq_true rfl) (c10  ) ?_
  show Bod _ _ _ _ [] _ _ _
  refine Bod.ic 1 (by decide) dc_347_186 ?_
  exact Bod.retZ dc_347_187 rt_347 (Or.inr rfl)
theorem zTr_4 {d : Nat} {S : cS} {la : Nat} {k : Nat} {S1 : cS} {a : Nat} {tr : Nat} {S2 : cS} {tr1 : Nat} {S3 : cS} {S4 : cS} {a1 : Nat} {S5 : cS} {k1 : Nat} {e67 : Nat} {e70 : Nat} {S6 : cS} {k2 : Nat} {S7 : cS} {k3 : Nat} {e671 : Nat} {S8 : cS} {S9 : cS} (mla : la < 2 ^ 20) (hk : sI S 6115 = nI k) (mk : k < 6001) (ma : a < 2 ^ 20) (c1 : Ans (d + 8) 325 [.ref 61, .int (nI 34)] (wI 6115 (nI (k + 1)) S) (some (.int (nI a))) S1) (htr : sI S1 6127 = nI tr) (mtr : tr < 14) (c2 : Ans (d + 8) 334 [.ref 61, .int (nI la), .int (nI 0)] (wI 6127 (nI (tr + 1)) S1) (some (.int (nI 1))) S2) (htr1 : sI S2 6127 = nI tr1) (mtr1 : tr1 < 14) (b1 : 1 ≤ tr1) (c3 : Ans (d + 8) 322 [.ref 61, .int (nI 35)] (wI 6127 (nI (tr1 - 1)) S2) none S3) (ma1 : a1 < 2 ^ 20) (c4 : Ans (d + 8) 325 [.ref 61, .int (nI 11)] S3 (some (.int (nI a1))) S4) (c5 : Ans (d + 8) 326 [.ref 61, .int (nI a)] S4 none S5) (hk1 : sI S5 6115 = nI k1) (mk1 : k1 < 6001) (he67 : sA S5 67 k1 = nI e67) (me67 : e67 < 2 ^ 20) (b2 : e67 ≠ 7) (he70 : sA S5 70 k1 = nI e70) (me70 : e70 < 2 ^ 20) (b3 : e70 = la) (c6 : Ans (d + 8) 309 [.ref 61, .int (nI 15)] S5 (some (.int (nI 1))) S6) (hk2 : sI S6 6115 = nI k2) (mk2 : k2 < 6001) (c7 : Ans (d + 8) 322 [.ref 61, .int (nI 36)] (wI 6115 (nI (k2 + 1)) S6) none S7) (hk3 : sI S7 6115 = nI k3) (mk3 : k3 < 6001) (he671 : sA S7 67 k3 = nI e671) (me671 : e671 < 2 ^ 20) (b4 : e671 ≠ 1) (c8 : Ans (d + 8) 322 [.ref 61, .int (nI 20)] S7 none S8) (c9 : Ans (d + 8) 334 [.ref 61, .int (nI la), .int (nI 0)] S8 (some (.int (nI 0))) S9) : Bod (d + 8) 347 0 [(0, .ref 61), (1, .int (nI la))] [] S (some (.int 0)) (S9) := by
  refine Bod.go dc_347_0 rfl ?_
  refine Bod.go dc_347_1 rfl ?_
  refine Bod.get dc_347_2 fr_347_190 (mk_61 _) rfl ?_
  refine Bod.eqI (nI k) (by first | assumption | rfl | exact congrArg nI (by omega) | (simp (disch := omega) only [rI, rIe, rA, rIA, rLA, rJA, rVI, rQI, rVA, rQA, upd_at,  rAI, rLI, rJI, nI_add, pk_sub, kc_0, kc_1, kc_2, kc_3, kc_4, kc_5, reduceIte, Nat.reduceEqDiff, Nat.add_zero, rI_hold, rI_hold, rL_hold, hk]; done)) ?_
  refine Bod.ic 1 (by decide) dc_347_5 ?_
  refine Bod.addN (k + 1) (by omega) dc_347_6 ?_
  refine Bod.put dc_347_7 fr_347_190 (mk_61 _) (Nat.le_of_ble_eq_true rfl) pf_14_15 (st_6115 _ _) (mu_I _ _ _) ?_
  refine Bod.go dc_347_10 rfl ?_
  refine Bod.bip 34 (by decide) dc_347_11 ?_
  refine Bod.virt (r := []) dc_347_13 kr_347_305 ⟨Or.inl rfl, ow_325, cl_14⟩ (by rw [np_325]; rfl) (by rw [np_325]; rfl) (ob_of (mk_61 _)) (Nat.le_of_ble_eq_true rfl) (c1  ) ?_
  show Bod _ _ _ _ [_] _ _ _
  refine Bod.istn dc_347_16 (by rw [ml_347]; exact Nat.le_of_ble_eq_true rfl) ?_
  refine Bod.go dc_347_17 rfl ?_
  refine Bod.go dc_347_18 rfl ?_
  refine Bod.get dc_347_19 fr_347_245 (mk_61 _) rfl ?_
  refine Bod.eqI (nI tr) (by first | (simp (disch := omega) only [rI, rIe, rA, rIA, rLA, rJA, rVI, rQI, rVA, rQA, upd_at,  rAI, rLI, rJI, nI_add, pk_sub, kc_0, kc_1, kc_2, kc_3, kc_4, kc_5, reduceIte, Nat.reduceEqDiff, Nat.add_zero, rI_hold, rI_hold, rL_hold, hk, htr]; done) | (simp (disch := omega) only [rI, rIe, rA, rIA, rLA, rJA, rVI, rQI, rVA, rQA, upd_at,  rAI, rLI, rJI, nI_add, pk_sub, kc_0, kc_1, kc_2, kc_3, kc_4, kc_5, reduceIte, Nat.reduceEqDiff, Nat.add_zero, rI_hold, rI_hold, rL_hold, hk, htr]; exact congrArg nI (by omega))) ?_
  refine Bod.ic 1 (by decide) dc_347_22 ?_
  refine Bod.addN (tr + 1) (by omega) dc_347_23 ?_
  refine Bod.put dc_347_24 fr_347_245 (mk_61 _) (Nat.le_of_ble_eq_true rfl) pf_14_27 (st_6127 _ _) (mu_I _ _ _) ?_
  refine Bod.go dc_347_27 rfl ?_
  refine Bod.go dc_347_28 rfl ?_
  refine Bod.ic 0 (by decide) dc_347_29 ?_
  refine Bod.virt (r := []) dc_347_30 kr_347_309 ⟨Or.inl rfl, ow_334, cl_14⟩ (by rw [np_334]; rfl) (by rw [np_334]; rfl) (ob_of (mk_61 _)) (Nat.le_of_ble_eq_true rfl) (c2  ) ?_
  show Bod _ _ _ _ [_] _ _ _
  refine Bod.ifT dc_347_33 rfl (k1_ne_T (k_ne 1 0 rfl rfl (by omega) (by omega) (by omega))) ?_
  refine Bod.go dc_347_38 rfl ?_
  refine Bod.go dc_347_39 rfl ?_
  refine Bod.get dc_347_40 fr_347_245 (mk_61 _) rfl ?_
  refine Bod.eqI (nI tr1) (by first | (simp (disch := omega) only [rI, rIe, rA, rIA, rLA, rJA, rVI, rQI, rVA, rQA, upd_at,  rAI, rLI, rJI, nI_add, pk_sub, kc_0, kc_1, kc_2, kc_3, kc_4, kc_5, reduceIte, Nat.reduceEqDiff, Nat.add_zero, rI_hold, rI_hold, rL_hold, hk, htr, htr1]; done) | (simp (disch := omega) only [rI, rIe, rA, rIA, rLA, rJA, rVI, rQI, rVA, rQA, upd_at,  rAI, rLI, rJI, nI_add, pk_sub, kc_0, kc_1, kc_2, kc_3, kc_4, kc_5, reduceIte, Nat.reduceEqDiff, Nat.add_zero, rI_hold, rI_hold, rL_hold, hk, htr, htr1]; exact congrArg nI (by omega))) ?_
  refine Bod.ic 1 (by decide) dc_347_43 ?_
  refine Bod.subN (tr1 - 1) (by omega) (by omega) dc_347_44 ?_
  refine Bod.put dc_347_45 fr_347_245 (mk_61 _) (Nat.le_of_ble_eq_true rfl) pf_14_27 (st_6127 _ _) (mu_I _ _ _) ?_
  refine Bod.go dc_347_48 rfl ?_
  refine Bod.bip 35 (by decide) dc_347_49 ?_
  refine Bod.virt (r := []) dc_347_51 kr_347_269 ⟨Or.inl rfl, ow_322, cl_14⟩ (by rw [np_322]; rfl) (by rw [np_322]; rfl) (ob_of (mk_61 _)) (Nat.le_of_ble_eq_true rfl) (c3  ) ?_
  show Bod _ _ _ _ [] _ _ _
  refine Bod.go dc_347_54 rfl ?_
  refine Bod.bip 11 (by decide) dc_347_55 ?_
  refine Bod.virt (r := []) dc_347_57 kr_347_305 ⟨Or.inl rfl, ow_325, cl_14⟩ (by rw [np_325]; rfl) (by rw [np_325]; rfl) (ob_of (mk_61 _)) (Nat.le_of_ble_eq_true rfl) (c4  ) ?_
  show Bod _ _ _ _ [_] _ _ _
  refine Bod.istn dc_347_60 (by rw [ml_347]; exact Nat.le_of_ble_eq_true rfl) ?_
  refine Bod.go dc_347_61 rfl ?_
  refine Bod.go dc_347_62 rfl ?_
  refine Bod.virt (r := []) dc_347_63 kr_347_317 ⟨Or.inl rfl, ow_326, cl_14⟩ (by rw [np_326]; rfl) (by rw [np_326]; rfl) (ob_of (mk_61 _)) (Nat.le_of_ble_eq_true rfl) (c5  ) ?_
  show Bod _ _ _ _ [] _ _ _
  refine Bod.go dc_347_66 rfl ?_
  refine Bod.get dc_347_67 fr_347_129 (mk_61 _) rfl ?_
  refine Bod.go dc_347_70 rfl ?_
  refine Bod.get dc_347_71 fr_347_190 (mk_61 _) rfl ?_
  refine Bod.eqI (nI k1) (by first | (simp (disch := omega) only [rI, rIe, rA, rIA, rLA, rJA, rVI, rQI, rVA, rQA, upd_at,  rAI, rLI, rJI, nI_add, pk_sub, kc_0, kc_1, kc_2, kc_3, kc_4, kc_5, reduceIte, Nat.reduceEqDiff, Nat.add_zero, rI_hold, rI_hold, rL_hold, hk, htr, htr1, hk1]; done) | (simp (disch := omega) only [rI, rIe, rA, rIA, rLA, rJA, rVI, rQI, rVA, rQA, upd_at,  rAI, rLI, rJI, nI_add, pk_sub, kc_0, kc_1, kc_2, kc_3, kc_4, kc_5, reduceIte, Nat.reduceEqDiff, Nat.add_zero, rI_hold, rI_hold, rL_hold, hk, htr, htr1, hk1]; exact congrArg nI (by omega))) ?_
  refine Bod.ialdN k1 rfl (by omega) (by omega) dc_347_74 (mk_67 _) ?_
  refine Bod.eqI (nI e67) (by first | (simp (disch := omega) only [rI, rIe, rA, rIA, rLA, rJA, rVI, rQI, rVA, rQA, upd_at,  rAI, rLI, rJI, nI_add, pk_sub, kc_0, kc_1, kc_2, kc_3, kc_4, kc_5, reduceIte, Nat.reduceEqDiff, Nat.add_zero, rI_hold, rI_hold, rL_hold, hk, htr, htr1, hk1, he67]; done) | (simp (disch := omega) only [rI, rIe, rA, rIA, rLA, rJA, rVI, rQI, rVA, rQA, upd_at,  rAI, rLI, rJI, nI_add, pk_sub, kc_0, kc_1, kc_2, kc_3, kc_4, kc_5, reduceIte, Nat.reduceEqDiff, Nat.add_zero, rI_hold, rI_hold, rL_hold, hk, htr, htr1, hk1, he67]; exact congrArg nI (by omega))) ?_
  refine Bod.bip 7 (by decide) dc_347_75 ?_
  refine Bod.icF dc_347_77 rfl (k2_eq_F (k_ne e67 7 rfl rfl (by omega) (by omega) (by omega))) ?_
  refine Bod.go dc_347_80 rfl ?_
  refine Bod.get dc_347_81 fr_347_141 (mk_61 _) rfl ?_
  refine Bod.go dc_347_84 rfl ?_
  refine Bod.get dc_347_85 fr_347_190 (mk_61 _) rfl ?_
  refine Bod.eqI (nI k1) (by first | (simp (disch := omega) only [rI, rIe, rA, rIA, rLA, rJA, rVI, rQI, rVA, rQA, upd_at,  rAI, rLI, rJI, nI_add, pk_sub, kc_0, kc_1, kc_2, kc_3, kc_4, kc_5, reduceIte, Nat.reduceEqDiff, Nat.add_zero, rI_hold, rI_hold, rL_hold, hk, htr, htr1, hk1, he67]; done) | (simp (disch := omega) only [rI, rIe, rA, rIA, rLA, rJA, rVI, rQI, rVA, rQA, upd_at,  rAI, rLI, rJI, nI_add, pk_sub, kc_0, kc_1, kc_2, kc_3, kc_4, kc_5, reduceIte, Nat.reduceEqDiff, Nat.add_zero, rI_hold, rI_hold, rL_hold, hk, htr, htr1, hk1, he67]; exact congrArg nI (by omega))) ?_
  refine Bod.ialdN k1 rfl (by omega) (by omega) dc_347_88 (mk_70 _) ?_
  refine Bod.eqI (nI e70) (by first | (simp (disch := omega) only [rI, rIe, rA, rIA, rLA, rJA, rVI, rQI, rVA, rQA, upd_at,  rAI, rLI, rJI, nI_add, pk_sub, kc_0, kc_1, kc_2, kc_3, kc_4, kc_5, reduceIte, Nat.reduceEqDiff, Nat.add_zero, rI_hold, rI_hold, rL_hold, hk, htr, htr1, hk1, he67, he70]; done) | (simp (disch := omega) only [rI, rIe, rA, rIA, rLA, rJA, rVI, rQI, rVA, rQA, upd_at,  rAI, rLI, rJI, nI_add, pk_sub, kc_0, kc_1, kc_2, kc_3, kc_4, kc_5, reduceIte, Nat.reduceEqDiff, Nat.add_zero, rI_hold, rI_hold, rL_hold, hk, htr, htr1, hk1, he67, he70]; exact congrArg nI (by omega))) ?_
  refine Bod.go dc_347_89 rfl ?_
  refine Bod.icF dc_347_90 rfl (k2_ne_F (k_eq e70 la rfl rfl (by omega))) ?_
  refine Bod.go dc_347_93 rfl ?_
  refine Bod.bip 15 (by decide) dc_347_94 ?_
  refine Bod.virt (r := []) dc_347_96 kr_347_312 ⟨Or.inl rfl, ow_309, cl_14⟩ (by rw [np_309]; rfl) (by rw [np_309]; rfl) (ob_of (mk_61 _)) (Nat.le_of_ble_eq_true rfl) (c6  ) ?_
  show Bod _ _ _ _ [_] _ _ _
  refine Bod.ifT dc_347_99 rfl (k1_ne_T (k_ne 1 0 rfl rfl (by omega) (by omega) (by omega))) ?_
  refine Bod.go dc_347_107 rfl ?_
  refine Bod.go dc_347_108 rfl ?_
  refine Bod.get dc_347_109 fr_347_190 (mk_61 _) rfl ?_
  refine Bod.eqI (nI k2) (by first | (simp (disch := omega) only [rI, rIe, rA, rIA, rLA, rJA, rVI, rQI, rVA, rQA, upd_at,  rAI, rLI, rJI, nI_add, pk_sub, kc_0, kc_1, kc_2, kc_3, kc_4, kc_5, reduceIte, Nat.reduceEqDiff, Nat.add_zero, rI_hold, rI_hold, rL_hold, hk, htr, htr1, hk1, he67, he70, hk2]; done) | (simp (disch := omega) only [rI, rIe, rA, rIA, rLA, rJA, rVI, rQI, rVA, rQA, upd_at,  rAI, rLI, rJI, nI_add, pk_sub, kc_0, kc_1, kc_2, kc_3, kc_4, kc_5, reduceIte, Nat.reduceEqDiff, Nat.add_zero, rI_hold, rI_hold, rL_hold, hk, htr, htr1, hk1, he67, he70, hk2]; exact congrArg nI (by omega))) ?_
  refine Bod.ic 1 (by decide) dc_347_112 ?_
  refine Bod.addN (k2 + 1) (by omega) dc_347_113 ?_
  refine Bod.put dc_347_114 fr_347_190 (mk_61 _) (Nat.le_of_ble_eq_true rfl) pf_14_15 (st_6115 _ _) (mu_I _ _ _) ?_
  refine Bod.go dc_347_117 rfl ?_
  refine Bod.bip 36 (by decide) dc_347_118 ?_
  refine Bod.virt (r := []) dc_347_120 kr_347_269 ⟨Or.inl rfl, ow_322, cl_14⟩ (by rw [np_322]; rfl) (by rw [np_322]; rfl) (ob_of (mk_61 _)) (Nat.le_of_ble_eq_true rfl) (c7  ) ?_
  show Bod _ _ _ _ [] _ _ _
  refine Bod.go dc_347_123 rfl ?_
  refine Bod.get dc_347_124 fr_347_129 (mk_61 _) rfl ?_
  refine Bod.go dc_347_127 rfl ?_
  refine Bod.get dc_347_128 fr_347_190 (mk_61 _) rfl ?_
  refine Bod.eqI (nI k3) (by first | (simp (disch := omega) only [rI, rIe, rA, rIA, rLA, rJA, rVI, rQI, rVA, rQA, upd_at,  rAI, rLI, rJI, nI_add, pk_sub, kc_0, kc_1, kc_2, kc_3, kc_4, kc_5, reduceIte, Nat.reduceEqDiff, Nat.add_zero, rI_hold, rI_hold, rL_hold, hk, htr, htr1, hk1, he67, he70, hk2, hk3]; done) | (simp (disch := omega) only [rI, rIe, rA, rIA, rLA, rJA, rVI, rQI, rVA, rQA, upd_at,  rAI, rLI, rJI, nI_add, pk_sub, kc_0, kc_1, kc_2, kc_3, kc_4, kc_5, reduceIte, Nat.reduceEqDiff, Nat.add_zero, rI_hold, rI_hold, rL_hold, hk, htr, htr1, hk1, he67, he70, hk2, hk3]; exact congrArg nI (by omega))) ?_
  refine Bod.ialdN k3 rfl (by omega) (by omega) dc_347_131 (mk_67 _) ?_
  refine Bod.eqI (nI e671) (by first | (simp (disch := omega) only [rI, rIe, rA, rIA, rLA, rJA, rVI, rQI, rVA, rQA, upd_at,  rAI, rLI, rJI, nI_add, pk_sub, kc_0, kc_1, kc_2, kc_3, kc_4, kc_5, reduceIte, Nat.reduceEqDiff, Nat.add_zero, rI_hold, rI_hold, rL_hold, hk, htr, htr1, hk1, he67, he70, hk2, hk3, he671]; done) | (simp (disch := omega) only [rI, rIe, rA, rIA, rLA, rJA, rVI, rQI, rVA, rQA, upd_at,  rAI, rLI, rJI, nI_add, pk_sub, kc_0, kc_1, kc_2, kc_3, kc_4, kc_5, reduceIte, Nat.reduceEqDiff, Nat.add_zero, rI_hold, rI_hold, rL_hold, hk, htr, htr1, hk1, he67, he70, hk2, hk3, he671]; exact congrArg nI (by omega))) ?_
  refine Bod.ic 1 (by decide) dc_347_132 ?_
  refine Bod.icT dc_347_133 rfl (k2_ne_T (k_ne e671 1 rfl rfl (by omega) (by omega) (by omega))) ?_
  refine Bod.go dc_347_164 rfl ?_
  refine Bod.bip 20 (by decide) dc_347_165 ?_
  refine Bod.virt (r := []) dc_347_167 kr_347_269 ⟨Or.inl rfl, ow_322, cl_14⟩ (by rw [np_322]; rfl) (by rw [np_322]; rfl) (ob_of (mk_61 _)) (Nat.le_of_ble_eq_true rfl) (c8  ) ?_
  show Bod _ _ _ _ [] _ _ _
  refine Bod.go dc_347_170 rfl ?_
  refine Bod.go dc_347_171 rfl ?_
  refine Bod.ic 0 (by decide) dc_347_172 ?_
  refine Bod.virt (r := []) dc_347_173 kr_347_309 ⟨Or.inl rfl, ow_334, cl_14⟩ (by rw [np_334]; rfl) (by rw [np_334]; rfl) (ob_of (mk_61 _)) (Nat.le_of_ble_eq_true rfl) (c9  ) ?_
  show Bod _ _ _ _ [_] _ _ _
  refine Bod.ifF dc_347_176 rfl (k1_ne_F (k_eq 0 0 rfl rfl (by omega))) ?_
  refine Bod.ic 0 (by decide) dc_347_179 ?_
  exact Bod.retZ dc_347_180 rt_347 (Or.inl rfl)
theorem zTr_5 {d : Nat} {S : cS} {la : Nat} {k : Nat} {S1 : cS} {a : Nat} {tr : Nat} {S2 : cS} {tr1 : Nat} {S3 : cS} {S4 : cS} {a1 : Nat} {S5 : cS} {k1 : Nat} {e67 : Nat} {e70 : Nat} {S6 : cS} {k2 : Nat} {S7 : cS} {k3 : Nat} {e671 : Nat} {e68 : Nat} {S8 : cS} {k4 : Nat} {S9 : cS} {S10 : cS} (mla : la < 2 ^ 20) (hk : sI S 6115 = nI k) (mk : k < 6001) (ma : a < 2 ^ 20) (c1 : Ans (d + 8) 325 [.ref 61, .int (nI 34)] (wI 6115 (nI (k + 1)) S) (some (.int (nI a))) S1) (htr : sI S1 6127 = nI tr) (mtr : tr < 14) (c2 : Ans (d + 8) 334 [.ref 61, .int (nI la), .int (nI 0)] (wI 6127 (nI (tr + 1)) S1) (some (.int (nI 1))) S2) (htr1 : sI S2 6127 = nI tr1) (mtr1 : tr1 < 14) (b1 : 1 ≤ tr1) (c3 : Ans (d + 8) 322 [.ref 61, .int (nI 35)] (wI 6127 (nI (tr1 - 1)) S2) none S3) (ma1 : a1 < 2 ^ 20) (c4 : Ans (d + 8) 325 [.ref 61, .int (nI 11)] S3 (some (.int (nI a1))) S4) (c5 : Ans (d + 8) 326 [.ref 61, .int (nI a)] S4 none S5) (hk1 : sI S5 6115 = nI k1) (mk1 : k1 < 6001) (he67 : sA S5 67 k1 = nI e67) (me67 : e67 < 2 ^ 20) (b2 : e67 ≠ 7) (he70 : sA S5 70 k1 = nI e70) (me70 : e70 < 2 ^ 20) (b3 : e70 = la) (c6 : Ans (d + 8) 309 [.ref 61, .int (nI 15)] S5 (some (.int (nI 1))) S6) (hk2 : sI S6 6115 = nI k2) (mk2 : k2 < 6001) (c7 : Ans (d + 8) 322 [.ref 61, .int (nI 36)] (wI 6115 (nI (k2 + 1)) S6) none S7) (hk3 : sI S7 6115 = nI k3) (mk3 : k3 < 6001) (he671 : sA S7 67 k3 = nI e671) (me671 : e671 < 2 ^ 20) (b4 : e671 = 1) (he68 : sA S7 68 k3 = nI e68) (me68 : e68 < 2 ^ 20) (c8 : Ans (d + 8) 317 [.ref 61, .int (nI 6), .int (nI e68)] S7 none S8) (hk4 : sI S8 6115 = nI k4) (mk4 : k4 < 6001) (c9 : Ans (d + 8) 334 [.ref 61, .int (nI la), .int (nI 0)] (wI 6115 (nI (k4 + 1)) S8) (some (.int (nI 1))) S9) (c10 : Ans (d + 8) 326 [.ref 61, .int (nI a1)] S9 none S10) : Bod (d + 8) 347 0 [(0, .ref 61), (1, .int (nI la))] [] S (some (.int 1)) (S10) := by
  refine Bod.go dc_347_0 rfl ?_
  refine Bod.go dc_347_1 rfl ?_
  refine Bod.get dc_347_2 fr_347_190 (mk_61 _) rfl ?_
  refine Bod.eqI (nI k) (by first | assumption | rfl | exact congrArg nI (by omega) | (simp (disch := omega) only [rI, rIe, rA, rIA, rLA, rJA, rVI, rQI, rVA, rQA, upd_at,  rAI, rLI, rJI, nI_add, pk_sub, kc_0, kc_1, kc_2, kc_3, kc_4, kc_5, reduceIte, Nat.reduceEqDiff, Nat.add_zero, rI_hold, rI_hold, rL_hold, hk]; done)) ?_
  refine Bod.ic 1 (by decide) dc_347_5 ?_
  refine Bod.addN (k + 1) (by omega) dc_347_6 ?_
  refine Bod.put dc_347_7 fr_347_190 (mk_61 _) (Nat.le_of_ble_eq_true rfl) pf_14_15 (st_6115 _ _) (mu_I _ _ _) ?_
  refine Bod.go dc_347_10 rfl ?_
  refine Bod.bip 34 (by decide) dc_347_11 ?_
  refine Bod.virt (r := []) dc_347_13 kr_347_305 ⟨Or.inl rfl, ow_325, cl_14⟩ (by rw [np_325]; rfl) (by rw [np_325]; rfl) (ob_of (mk_61 _)) (Nat.le_of_ble_eq_true rfl) (c1  ) ?_
  show Bod _ _ _ _ [_] _ _ _
  refine Bod.istn dc_347_16 (by rw [ml_347]; exact Nat.le_of_ble_eq_true rfl) ?_
  refine Bod.go dc_347_17 rfl ?_
  refine Bod.go dc_347_18 rfl ?_
  refine Bod.get dc_347_19 fr_347_245 (mk_61 _) rfl ?_
  refine Bod.eqI (nI tr) (by first | (simp (disch := omega) only [rI, rIe, rA, rIA, rLA, rJA, rVI, rQI, rVA, rQA, upd_at,  rAI, rLI, rJI, nI_add, pk_sub, kc_0, kc_1, kc_2, kc_3, kc_4, kc_5, reduceIte, Nat.reduceEqDiff, Nat.add_zero, rI_hold, rI_hold, rL_hold, hk, htr]; done) | (simp (disch := omega) only [rI, rIe, rA, rIA, rLA, rJA, rVI, rQI, rVA, rQA, upd_at,  rAI, rLI, rJI, nI_add, pk_sub, kc_0, kc_1, kc_2, kc_3, kc_4, kc_5, reduceIte, Nat.reduceEqDiff, Nat.add_zero, rI_hold, rI_hold, rL_hold, hk, htr]; exact congrArg nI (by omega))) ?_
  refine Bod.ic 1 (by decide) dc_347_22 ?_
  refine Bod.addN (tr + 1) (by omega) dc_347_23 ?_
  refine Bod.put dc_347_24 fr_347_245 (mk_61 _) (Nat.le_of_ble_eq_true rfl) pf_14_27 (st_6127 _ _) (mu_I _ _ _) ?_
  refine Bod.go dc_347_27 rfl ?_
  refine Bod.go dc_347_28 rfl ?_
  refine Bod.ic 0 (by decide) dc_347_29 ?_
  refine Bod.virt (r := []) dc_347_30 kr_347_309 ⟨Or.inl rfl, ow_334, cl_14⟩ (by rw [np_334]; rfl) (by rw [np_334]; rfl) (ob_of (mk_61 _)) (Nat.le_of_ble_eq_true rfl) (c2  ) ?_
  show Bod _ _ _ _ [_] _ _ _
  refine Bod.ifT dc_347_33 rfl (k1_ne_T (k_ne 1 0 rfl rfl (by omega) (by omega) (by omega))) ?_
  refine Bod.go dc_347_38 rfl ?_
  refine Bod.go dc_347_39 rfl ?_
  refine Bod.get dc_347_40 fr_347_245 (mk_61 _) rfl ?_
  refine Bod.eqI (nI tr1) (by first | (simp (disch := omega) only [rI, rIe, rA, rIA, rLA, rJA, rVI, rQI, rVA, rQA, upd_at,  rAI, rLI, rJI, nI_add, pk_sub, kc_0, kc_1, kc_2, kc_3, kc_4, kc_5, reduceIte, Nat.reduceEqDiff, Nat.add_zero, rI_hold, rI_hold, rL_hold, hk, htr, htr1]; done) | (simp (disch := omega) only [rI, rIe, rA, rIA, rLA, rJA, rVI, rQI, rVA, rQA, upd_at,  rAI, rLI, rJI, nI_add, pk_sub, kc_0, kc_1, kc_2, kc_3, kc_4, kc_5, reduceIte, Nat.reduceEqDiff, Nat.add_zero, rI_hold, rI_hold, rL_hold, hk, htr, htr1]; exact congrArg nI (by omega))) ?_
  refine Bod.ic 1 (by decide) dc_347_43 ?_
  refine Bod.subN (tr1 - 1) (by omega) (by omega) dc_347_44 ?_
  refine Bod.put dc_347_45 fr_347_245 (mk_61 _) (Nat.le_of_ble_eq_true rfl) pf_14_27 (st_6127 _ _) (mu_I _ _ _) ?_
  refine Bod.go dc_347_48 rfl ?_
  refine Bod.bip 35 (by decide) dc_347_49 ?_
  refine Bod.virt (r := []) dc_347_51 kr_347_269 ⟨Or.inl rfl, ow_322, cl_14⟩ (by rw [np_322]; rfl) (by rw [np_322]; rfl) (ob_of (mk_61 _)) (Nat.le_of_ble_eq_true rfl) (c3  ) ?_
  show Bod _ _ _ _ [] _ _ _
  refine Bod.go dc_347_54 rfl ?_
  refine Bod.bip 11 (by decide) dc_347_55 ?_
  refine Bod.virt (r := []) dc_347_57 kr_347_305 ⟨Or.inl rfl, ow_325, cl_14⟩ (by rw [np_325]; rfl) (by rw [np_325]; rfl) (ob_of (mk_61 _)) (Nat.le_of_ble_eq_true rfl) (c4  ) ?_
  show Bod _ _ _ _ [_] _ _ _
  refine Bod.istn dc_347_60 (by rw [ml_347]; exact Nat.le_of_ble_eq_true rfl) ?_
  refine Bod.go dc_347_61 rfl ?_
  refine Bod.go dc_347_62 rfl ?_
  refine Bod.virt (r := []) dc_347_63 kr_347_317 ⟨Or.inl rfl, ow_326, cl_14⟩ (by rw [np_326]; rfl) (by rw [np_326]; rfl) (ob_of (mk_61 _)) (Nat.le_of_ble_eq_true rfl) (c5  ) ?_
  show Bod _ _ _ _ [] _ _ _
  refine Bod.go dc_347_66 rfl ?_
  refine Bod.get dc_347_67 fr_347_129 (mk_61 _) rfl ?_
  refine Bod.go dc_347_70 rfl ?_
  refine Bod.get dc_347_71 fr_347_190 (mk_61 _) rfl ?_
  refine Bod.eqI (nI k1) (by first | (simp (disch := omega) only [rI, rIe, rA, rIA, rLA, rJA, rVI, rQI, rVA, rQA, upd_at,  rAI, rLI, rJI, nI_add, pk_sub, kc_0, kc_1, kc_2, kc_3, kc_4, kc_5, reduceIte, Nat.reduceEqDiff, Nat.add_zero, rI_hold, rI_hold, rL_hold, hk, htr, htr1, hk1]; done) | (simp (disch := omega) only [rI, rIe, rA, rIA, rLA, rJA, rVI, rQI, rVA, rQA, upd_at,  rAI, rLI, rJI, nI_add, pk_sub, kc_0, kc_1, kc_2, kc_3, kc_4, kc_5, reduceIte, Nat.reduceEqDiff, Nat.add_zero, rI_hold, rI_hold, rL_hold, hk, htr, htr1, hk1]; exact congrArg nI (by omega))) ?_
  refine Bod.ialdN k1 rfl (by omega) (by omega) dc_347_74 (mk_67 _) ?_
  refine Bod.eqI (nI e67) (by first | (simp (disch := omega) only [rI, rIe, rA, rIA, rLA, rJA, rVI, rQI, rVA, rQA, upd_at,  rAI, rLI, rJI, nI_add, pk_sub, kc_0, kc_1, kc_2, kc_3, kc_4, kc_5, reduceIte, Nat.reduceEqDiff, Nat.add_zero, rI_hold, rI_hold, rL_hold, hk, htr, htr1, hk1, he67]; done) | (simp (disch := omega) only [rI, rIe, rA, rIA, rLA, rJA, rVI, rQI, rVA, rQA, upd_at,  rAI, rLI, rJI, nI_add, pk_sub, kc_0, kc_1, kc_2, kc_3, kc_4, kc_5, reduceIte, Nat.reduceEqDiff, Nat.add_zero, rI_hold, rI_hold, rL_hold, hk, htr, htr1, hk1, he67]; exact congrArg nI (by omega))) ?_
  refine Bod.bip 7 (by decide) dc_347_75 ?_
  refine Bod.icF dc_347_77 rfl (k2_eq_F (k_ne e67 7 rfl rfl (by omega) (by omega) (by omega))) ?_
  refine Bod.go dc_347_80 rfl ?_
  refine Bod.get dc_347_81 fr_347_141 (mk_61 _) rfl ?_
  refine Bod.go dc_347_84 rfl ?_
  refine Bod.get dc_347_85 fr_347_190 (mk_61 _) rfl ?_
  refine Bod.eqI (nI k1) (by first | (simp (disch := omega) only [rI, rIe, rA, rIA, rLA, rJA, rVI, rQI, rVA, rQA, upd_at,  rAI, rLI, rJI, nI_add, pk_sub, kc_0, kc_1, kc_2, kc_3, kc_4, kc_5, reduceIte, Nat.reduceEqDiff, Nat.add_zero, rI_hold, rI_hold, rL_hold, hk, htr, htr1, hk1, he67]; done) | (simp (disch := omega) only [rI, rIe, rA, rIA, rLA, rJA, rVI, rQI, rVA, rQA, upd_at,  rAI, rLI, rJI, nI_add, pk_sub, kc_0, kc_1, kc_2, kc_3, kc_4, kc_5, reduceIte, Nat.reduceEqDiff, Nat.add_zero, rI_hold, rI_hold, rL_hold, hk, htr, htr1, hk1, he67]; exact congrArg nI (by omega))) ?_
  refine Bod.ialdN k1 rfl (by omega) (by omega) dc_347_88 (mk_70 _) ?_
  refine Bod.eqI (nI e70) (by first | (simp (disch := omega) only [rI, rIe, rA, rIA, rLA, rJA, rVI, rQI, rVA, rQA, upd_at,  rAI, rLI, rJI, nI_add, pk_sub, kc_0, kc_1, kc_2, kc_3, kc_4, kc_5, reduceIte, Nat.reduceEqDiff, Nat.add_zero, rI_hold, rI_hold, rL_hold, hk, htr, htr1, hk1, he67, he70]; done) | (simp (disch := omega) only [rI, rIe, rA, rIA, rLA, rJA, rVI, rQI, rVA, rQA, upd_at,  rAI, rLI, rJI, nI_add, pk_sub, kc_0, kc_1, kc_2, kc_3, kc_4, kc_5, reduceIte, Nat.reduceEqDiff, Nat.add_zero, rI_hold, rI_hold, rL_hold, hk, htr, htr1, hk1, he67, he70]; exact congrArg nI (by omega))) ?_
  refine Bod.go dc_347_89 rfl ?_
  refine Bod.icF dc_347_90 rfl (k2_ne_F (k_eq e70 la rfl rfl (by omega))) ?_
  refine Bod.go dc_347_93 rfl ?_
  refine Bod.bip 15 (by decide) dc_347_94 ?_
  refine Bod.virt (r := []) dc_347_96 kr_347_312 ⟨Or.inl rfl, ow_309, cl_14⟩ (by rw [np_309]; rfl) (by rw [np_309]; rfl) (ob_of (mk_61 _)) (Nat.le_of_ble_eq_true rfl) (c6  ) ?_
  show Bod _ _ _ _ [_] _ _ _
  refine Bod.ifT dc_347_99 rfl (k1_ne_T (k_ne 1 0 rfl rfl (by omega) (by omega) (by omega))) ?_
  refine Bod.go dc_347_107 rfl ?_
  refine Bod.go dc_347_108 rfl ?_
  refine Bod.get dc_347_109 fr_347_190 (mk_61 _) rfl ?_
  refine Bod.eqI (nI k2) (by first | (simp (disch := omega) only [rI, rIe, rA, rIA, rLA, rJA, rVI, rQI, rVA, rQA, upd_at,  rAI, rLI, rJI, nI_add, pk_sub, kc_0, kc_1, kc_2, kc_3, kc_4, kc_5, reduceIte, Nat.reduceEqDiff, Nat.add_zero, rI_hold, rI_hold, rL_hold, hk, htr, htr1, hk1, he67, he70, hk2]; done) | (simp (disch := omega) only [rI, rIe, rA, rIA, rLA, rJA, rVI, rQI, rVA, rQA, upd_at,  rAI, rLI, rJI, nI_add, pk_sub, kc_0, kc_1, kc_2, kc_3, kc_4, kc_5, reduceIte, Nat.reduceEqDiff, Nat.add_zero, rI_hold, rI_hold, rL_hold, hk, htr, htr1, hk1, he67, he70, hk2]; exact congrArg nI (by omega))) ?_
  refine Bod.ic 1 (by decide) dc_347_112 ?_
  refine Bod.addN (k2 + 1) (by omega) dc_347_113 ?_
  refine Bod.put dc_347_114 fr_347_190 (mk_61 _) (Nat.le_of_ble_eq_true rfl) pf_14_15 (st_6115 _ _) (mu_I _ _ _) ?_
  refine Bod.go dc_347_117 rfl ?_
  refine Bod.bip 36 (by decide) dc_347_118 ?_
  refine Bod.virt (r := []) dc_347_120 kr_347_269 ⟨Or.inl rfl, ow_322, cl_14⟩ (by rw [np_322]; rfl) (by rw [np_322]; rfl) (ob_of (mk_61 _)) (Nat.le_of_ble_eq_true rfl) (c7  ) ?_
  show Bod _ _ _ _ [] _ _ _
  refine Bod.go dc_347_123 rfl ?_
  refine Bod.get dc_347_124 fr_347_129 (mk_61 _) rfl ?_
  refine Bod.go dc_347_127 rfl ?_
  refine Bod.get dc_347_128 fr_347_190 (mk_61 _) rfl ?_
  refine Bod.eqI (nI k3) (by first | (simp (disch := omega) only [rI, rIe, rA, rIA, rLA, rJA, rVI, rQI, rVA, rQA, upd_at,  rAI, rLI, rJI, nI_add, pk_sub, kc_0, kc_1, kc_2, kc_3, kc_4, kc_5, reduceIte, Nat.reduceEqDiff, Nat.add_zero, rI_hold, rI_hold, rL_hold, hk, htr, htr1, hk1, he67, he70, hk2, hk3]; done) | (simp (disch := omega) only [rI, rIe, rA, rIA, rLA, rJA, rVI, rQI, rVA, rQA, upd_at,  rAI, rLI, rJI, nI_add, pk_sub, kc_0, kc_1, kc_2, kc_3, kc_4, kc_5, reduceIte, Nat.reduceEqDiff, Nat.add_zero, rI_hold, rI_hold, rL_hold, hk, htr, htr1, hk1, he67, he70, hk2, hk3]; exact congrArg nI (by omega))) ?_
  refine Bod.ialdN k3 rfl (by omega) (by omega) dc_347_131 (mk_67 _) ?_
  refine Bod.eqI (nI e671) (by first | (simp (disch := omega) only [rI, rIe, rA, rIA, rLA, rJA, rVI, rQI, rVA, rQA, upd_at,  rAI, rLI, rJI, nI_add, pk_sub, kc_0, kc_1, kc_2, kc_3, kc_4, kc_5, reduceIte, Nat.reduceEqDiff, Nat.add_zero, rI_hold, rI_hold, rL_hold, hk, htr, htr1, hk1, he67, he70, hk2, hk3, he671]; done) | (simp (disch := omega) only [rI, rIe, rA, rIA, rLA, rJA, rVI, rQI, rVA, rQA, upd_at,  rAI, rLI, rJI, nI_add, pk_sub, kc_0, kc_1, kc_2, kc_3, kc_4, kc_5, reduceIte, Nat.reduceEqDiff, Nat.add_zero, rI_hold, rI_hold, rL_hold, hk, htr, htr1, hk1, he67, he70, hk2, hk3, he671]; exact congrArg nI (by omega))) ?_
  refine Bod.ic 1 (by decide) dc_347_132 ?_
  refine Bod.icF dc_347_133 rfl (k2_ne_F (k_eq e671 1 rfl rfl (by omega))) ?_
  refine Bod.go dc_347_136 rfl ?_
  refine Bod.bip 6 (by decide) dc_347_137 ?_
  refine Bod.go dc_347_139 rfl ?_
  refine Bod.get dc_347_140 fr_347_135 (mk_61 _) rfl ?_
  refine Bod.go dc_347_143 rfl ?_
  refine Bod.get dc_347_144 fr_347_190 (mk_61 _) rfl ?_
  refine Bod.eqI (nI k3) (by first | (simp (disch := omega) only [rI, rIe, rA, rIA, rLA, rJA, rVI, rQI, rVA, rQA, upd_at,  rAI, rLI, rJI, nI_add, pk_sub, kc_0, kc_1, kc_2, kc_3, kc_4, kc_5, reduceIte, Nat.reduceEqDiff, Nat.add_zero, rI_hold, rI_hold, rL_hold, hk, htr, htr1, hk1, he67, he70, hk2, hk3, he671]; done) | (simp (disch := omega) only [rI, rIe, rA, rIA, rLA, rJA, rVI, rQI, rVA, rQA, upd_at,  rAI, rLI, rJI, nI_add, pk_sub, kc_0, kc_1, kc_2, kc_3, kc_4, kc_5, reduceIte, Nat.reduceEqDiff, Nat.add_zero, rI_hold, rI_hold, rL_hold, hk, htr, htr1, hk1, he67, he70, hk2, hk3, he671]; exact congrArg nI (by omega))) ?_
  refine Bod.ialdN k3 rfl (by omega) (by omega) dc_347_147 (mk_68 _) ?_
  refine Bod.eqI (nI e68) (by first | (simp (disch := omega) only [rI, rIe, rA, rIA, rLA, rJA, rVI, rQI, rVA, rQA, upd_at,  rAI, rLI, rJI, nI_add, pk_sub, kc_0, kc_1, kc_2, kc_3, kc_4, kc_5, reduceIte, Nat.reduceEqDiff, Nat.add_zero, rI_hold, rI_hold, rL_hold, hk, htr, htr1, hk1, he67, he70, hk2, hk3, he671, he68]; done) | (simp (disch := omega) only [rI, rIe, rA, rIA, rLA, rJA, rVI, rQI, rVA, rQA, upd_at,  rAI, rLI, rJI, nI_add, pk_sub, kc_0, kc_1, kc_2, kc_3, kc_4, kc_5, reduceIte, Nat.reduceEqDiff, Nat.add_zero, rI_hold, rI_hold, rL_hold, hk, htr, htr1, hk1, he67, he70, hk2, hk3, he671, he68]; exact congrArg nI (by omega))) ?_
  refine Bod.virt (r := []) dc_347_148 kr_347_341 ⟨Or.inl rfl, ow_317, cl_14⟩ (by rw [np_317]; rfl) (by rw [np_317]; rfl) (ob_of (mk_61 _)) (Nat.le_of_ble_eq_true rfl) (c8  ) ?_
  show Bod _ _ _ _ [] _ _ _
  refine Bod.go dc_347_151 rfl ?_
  refine Bod.go dc_347_152 rfl ?_
  refine Bod.get dc_347_153 fr_347_190 (mk_61 _) rfl ?_
  refine Bod.eqI (nI k4) (by first | (simp (disch := omega) only [rI, rIe, rA, rIA, rLA, rJA, rVI, rQI, rVA, rQA, upd_at,  rAI, rLI, rJI, nI_add, pk_sub, kc_0, kc_1, kc_2, kc_3, kc_4, kc_5, reduceIte, Nat.reduceEqDiff, Nat.add_zero, rI_hold, rI_hold, rL_hold, hk, htr, htr1, hk1, he67, he70, hk2, hk3, he671, he68, hk4]; done) | (simp (disch := omega) only [rI, rIe, rA, rIA, rLA, rJA, rVI, rQI, rVA, rQA, upd_at,  rAI, rLI, rJI, nI_add, pk_sub, kc_0, kc_1, kc_2, kc_3, kc_4, kc_5, reduceIte, Nat.reduceEqDiff, Nat.add_zero, rI_hold, rI_hold, rL_hold, hk, htr, htr1, hk1, he67, he70, hk2, hk3, he671, he68, hk4]; exact congrArg nI (by omega))) ?_
  refine Bod.ic 1 (by decide) dc_347_156 ?_
  refine Bod.addN (k4 + 1) (by omega) dc_347_157 ?_
  refine Bod.put dc_347_158 fr_347_190 (mk_61 _) (Nat.le_of_ble_eq_true rfl) pf_14_15 (st_6115 _ _) (mu_I _ _ _) ?_
  refine Bod.go dc_347_161 rfl ?_
  refine Bod.go dc_347_170 rfl ?_
  refine Bod.go dc_347_171 rfl ?_
  refine Bod.ic 0 (by decide) dc_347_172 ?_
  refine Bod.virt (r := []) dc_347_173 kr_347_309 ⟨Or.inl rfl, ow_334, cl_14⟩ (by rw [np_334]; rfl) (by rw [np_334]; rfl) (ob_of (mk_61 _)) (Nat.le_of_ble_eq_true rfl) (c9  ) ?_
  show Bod _ _ _ _ [_] _ _ _
  refine Bod.ifT dc_347_176 rfl (k1_ne_T (k_ne 1 0 rfl rfl (by omega) (by omega) (by omega))) ?_
  refine Bod.go dc_347_181 rfl ?_
  refine Bod.go dc_347_182 rfl ?_
  refine Bod.virt (r := []) dc_347_183 kr_347_317 ⟨Or.inl rfl, ow_326, cl_14⟩ (by rw [np_326]; rfl) (by rw [np_326]; rfl) (ob_of (mk_61 _)) (Nat.le_of_ble_eq_true rfl) (c10  ) ?_
  show Bod _ _ _ _ [] _ _ _
  refine Bod.ic 1 (by decide) dc_347_186 ?_
  exact Bod.retZ dc_347_187 rt_347 (Or.inr rfl)
theorem zTr_6 {d : Nat} {S : cS} {la : Nat} {k : Nat} {S1 : cS} {a : Nat} {tr : Nat} {S2 : cS} {tr1 : Nat} {S3 : cS} {S4 : cS} {a1 : Nat} {S5 : cS} {k1 : Nat} {e67 : Nat} {e70 : Nat} {S6 : cS} {k2 : Nat} {S7 : cS} {k3 : Nat} {e671 : Nat} {e68 : Nat} {S8 : cS} {k4 : Nat} {S9 : cS} (mla : la < 2 ^ 20) (hk : sI S 6115 = nI k) (mk : k < 6001) (ma : a < 2 ^ 20) (c1 : Ans (d + 8) 325 [.ref 61, .int (nI 34)] (wI 6115 (nI (k + 1)) S) (some (.int (nI a))) S1) (htr : sI S1 6127 = nI tr) (mtr : tr < 14) (c2 : Ans (d + 8) 334 [.ref 61, .int (nI la), .int (nI 0)] (wI 6127 (nI (tr + 1)) S1) (some (.int (nI 1))) S2) (htr1 : sI S2 6127 = nI tr1) (mtr1 : tr1 < 14) (b1 : 1 ≤ tr1) (c3 : Ans (d + 8) 322 [.ref 61, .int (nI 35)] (wI 6127 (nI (tr1 - 1)) S2) none S3) (ma1 : a1 < 2 ^ 20) (c4 : Ans (d + 8) 325 [.ref 61, .int (nI 11)] S3 (some (.int (nI a1))) S4) (c5 : Ans (d + 8) 326 [.ref 61, .int (nI a)] S4 none S5) (hk1 : sI S5 6115 = nI k1) (mk1 : k1 < 6001) (he67 : sA S5 67 k1 = nI e67) (me67 : e67 < 2 ^ 20) (b2 : e67 ≠ 7) (he70 : sA S5 70 k1 = nI e70) (me70 : e70 < 2 ^ 20) (b3 : e70 = la) (c6 : Ans (d + 8) 309 [.ref 61, .int (nI 15)] S5 (some (.int (nI 1))) S6) (hk2 : sI S6 6115 = nI k2) (mk2 : k2 < 6001) (c7 : Ans (d + 8) 322 [.ref 61, .int (nI 36)] (wI 6115 (nI (k2 + 1)) S6) none S7) (hk3 : sI S7 6115 = nI k3) (mk3 : k3 < 6001) (he671 : sA S7 67 k3 = nI e671) (me671 : e671 < 2 ^ 20) (b4 : e671 = 1) (he68 : sA S7 68 k3 = nI e68) (me68 : e68 < 2 ^ 20) (c8 : Ans (d + 8) 317 [.ref 61, .int (nI 6), .int (nI e68)] S7 none S8) (hk4 : sI S8 6115 = nI k4) (mk4 : k4 < 6001) (c9 : Ans (d + 8) 334 [.ref 61, .int (nI la), .int (nI 0)] (wI 6115 (nI (k4 + 1)) S8) (some (.int (nI 0))) S9) : Bod (d + 8) 347 0 [(0, .ref 61), (1, .int (nI la))] [] S (some (.int 0)) (S9) := by
  refine Bod.go dc_347_0 rfl ?_
  refine Bod.go dc_347_1 rfl ?_
  refine Bod.get dc_347_2 fr_347_190 (mk_61 _) rfl ?_
  refine Bod.eqI (nI k) (by first | assumption | rfl | exact congrArg nI (by omega) | (simp (disch := omega) only [rI, rIe, rA, rIA, rLA, rJA, rVI, rQI, rVA, rQA, upd_at,  rAI, rLI, rJI, nI_add, pk_sub, kc_0, kc_1, kc_2, kc_3, kc_4, kc_5, reduceIte, Nat.reduceEqDiff, Nat.add_zero, rI_hold, rI_hold, rL_hold, hk]; done)) ?_
  refine Bod.ic 1 (by decide) dc_347_5 ?_
  refine Bod.addN (k + 1) (by omega) dc_347_6 ?_
  refine Bod.put dc_347_7 fr_347_190 (mk_61 _) (Nat.le_of_ble_eq_true rfl) pf_14_15 (st_6115 _ _) (mu_I _ _ _) ?_
  refine Bod.go dc_347_10 rfl ?_
  refine Bod.bip 34 (by decide) dc_347_11 ?_
  refine Bod.virt (r := []) dc_347_13 kr_347_305 ⟨Or.inl rfl, ow_325, cl_14⟩ (by rw [np_325]; rfl) (by rw [np_325]; rfl) (ob_of (mk_61 _)) (Nat.le_of_ble_eq_true rfl) (c1  ) ?_
  show Bod _ _ _ _ [_] _ _ _
  refine Bod.istn dc_347_16 (by rw [ml_347]; exact Nat.le_of_ble_eq_true rfl) ?_
  refine Bod.go dc_347_17 rfl ?_
  refine Bod.go dc_347_18 rfl ?_
  refine Bod.get dc_347_19 fr_347_245 (mk_61 _) rfl ?_
  refine Bod.eqI (nI tr) (by first | (simp (disch := omega) only [rI, rIe, rA, rIA, rLA, rJA, rVI, rQI, rVA, rQA, upd_at,  rAI, rLI, rJI, nI_add, pk_sub, kc_0, kc_1, kc_2, kc_3, kc_4, kc_5, reduceIte, Nat.reduceEqDiff, Nat.add_zero, rI_hold, rI_hold, rL_hold, hk, htr]; done) | (simp (disch := omega) only [rI, rIe, rA, rIA, rLA, rJA, rVI, rQI, rVA, rQA, upd_at,  rAI, rLI, rJI, nI_add, pk_sub, kc_0, kc_1, kc_2, kc_3, kc_4, kc_5, reduceIte, Nat.reduceEqDiff, Nat.add_zero, rI_hold, rI_hold, rL_hold, hk, htr]; exact congrArg nI (by omega))) ?_
  refine Bod.ic 1 (by decide) dc_347_22 ?_
  refine Bod.addN (tr + 1) (by omega) dc_347_23 ?_
  refine Bod.put dc_347_24 fr_347_245 (mk_61 _) (Nat.le_of_ble_eq_true rfl) pf_14_27 (st_6127 _ _) (mu_I _ _ _) ?_
  refine Bod.go dc_347_27 rfl ?_
  refine Bod.go dc_347_28 rfl ?_
  refine Bod.ic 0 (by decide) dc_347_29 ?_
  refine Bod.virt (r := []) dc_347_30 kr_347_309 ⟨Or.inl rfl, ow_334, cl_14⟩ (by rw [np_334]; rfl) (by rw [np_334]; rfl) (ob_of (mk_61 _)) (Nat.le_of_ble_eq_true rfl) (c2  ) ?_
  show Bod _ _ _ _ [_] _ _ _
  refine Bod.ifT dc_347_33 rfl (k1_ne_T (k_ne 1 0 rfl rfl (by omega) (by omega) (by omega))) ?_
  refine Bod.go dc_347_38 rfl ?_
  refine Bod.go dc_347_39 rfl ?_
  refine Bod.get dc_347_40 fr_347_245 (mk_61 _) rfl ?_
  refine Bod.eqI (nI tr1) (by first | (simp (disch := omega) only [rI, rIe, rA, rIA, rLA, rJA, rVI, rQI, rVA, rQA, upd_at,  rAI, rLI, rJI, nI_add, pk_sub, kc_0, kc_1, kc_2, kc_3, kc_4, kc_5, reduceIte, Nat.reduceEqDiff, Nat.add_zero, rI_hold, rI_hold, rL_hold, hk, htr, htr1]; done) | (simp (disch := omega) only [rI, rIe, rA, rIA, rLA, rJA, rVI, rQI, rVA, rQA, upd_at,  rAI, rLI, rJI, nI_add, pk_sub, kc_0, kc_1, kc_2, kc_3, kc_4, kc_5, reduceIte, Nat.reduceEqDiff, Nat.add_zero, rI_hold, rI_hold, rL_hold, hk, htr, htr1]; exact congrArg nI (by omega))) ?_
  refine Bod.ic 1 (by decide) dc_347_43 ?_
  refine Bod.subN (tr1 - 1) (by omega) (by omega) dc_347_44 ?_
  refine Bod.put dc_347_45 fr_347_245 (mk_61 _) (Nat.le_of_ble_eq_true rfl) pf_14_27 (st_6127 _ _) (mu_I _ _ _) ?_
  refine Bod.go dc_347_48 rfl ?_
  refine Bod.bip 35 (by decide) dc_347_49 ?_
  refine Bod.virt (r := []) dc_347_51 kr_347_269 ⟨Or.inl rfl, ow_322, cl_14⟩ (by rw [np_322]; rfl) (by rw [np_322]; rfl) (ob_of (mk_61 _)) (Nat.le_of_ble_eq_true rfl) (c3  ) ?_
  show Bod _ _ _ _ [] _ _ _
  refine Bod.go dc_347_54 rfl ?_
  refine Bod.bip 11 (by decide) dc_347_55 ?_
  refine Bod.virt (r := []) dc_347_57 kr_347_305 ⟨Or.inl rfl, ow_325, cl_14⟩ (by rw [np_325]; rfl) (by rw [np_325]; rfl) (ob_of (mk_61 _)) (Nat.le_of_ble_eq_true rfl) (c4  ) ?_
  show Bod _ _ _ _ [_] _ _ _
  refine Bod.istn dc_347_60 (by rw [ml_347]; exact Nat.le_of_ble_eq_true rfl) ?_
  refine Bod.go dc_347_61 rfl ?_
  refine Bod.go dc_347_62 rfl ?_
  refine Bod.virt (r := []) dc_347_63 kr_347_317 ⟨Or.inl rfl, ow_326, cl_14⟩ (by rw [np_326]; rfl) (by rw [np_326]; rfl) (ob_of (mk_61 _)) (Nat.le_of_ble_eq_true rfl) (c5  ) ?_
  show Bod _ _ _ _ [] _ _ _
  refine Bod.go dc_347_66 rfl ?_
  refine Bod.get dc_347_67 fr_347_129 (mk_61 _) rfl ?_
  refine Bod.go dc_347_70 rfl ?_
  refine Bod.get dc_347_71 fr_347_190 (mk_61 _) rfl ?_
  refine Bod.eqI (nI k1) (by first | (simp (disch := omega) only [rI, rIe, rA, rIA, rLA, rJA, rVI, rQI, rVA, rQA, upd_at,  rAI, rLI, rJI, nI_add, pk_sub, kc_0, kc_1, kc_2, kc_3, kc_4, kc_5, reduceIte, Nat.reduceEqDiff, Nat.add_zero, rI_hold, rI_hold, rL_hold, hk, htr, htr1, hk1]; done) | (simp (disch := omega) only [rI, rIe, rA, rIA, rLA, rJA, rVI, rQI, rVA, rQA, upd_at,  rAI, rLI, rJI, nI_add, pk_sub, kc_0, kc_1, kc_2, kc_3, kc_4, kc_5, reduceIte, Nat.reduceEqDiff, Nat.add_zero, rI_hold, rI_hold, rL_hold, hk, htr, htr1, hk1]; exact congrArg nI (by omega))) ?_
  refine Bod.ialdN k1 rfl (by omega) (by omega) dc_347_74 (mk_67 _) ?_
  refine Bod.eqI (nI e67) (by first | (simp (disch := omega) only [rI, rIe, rA, rIA, rLA, rJA, rVI, rQI, rVA, rQA, upd_at,  rAI, rLI, rJI, nI_add, pk_sub, kc_0, kc_1, kc_2, kc_3, kc_4, kc_5, reduceIte, Nat.reduceEqDiff, Nat.add_zero, rI_hold, rI_hold, rL_hold, hk, htr, htr1, hk1, he67]; done) | (simp (disch := omega) only [rI, rIe, rA, rIA, rLA, rJA, rVI, rQI, rVA, rQA, upd_at,  rAI, rLI, rJI, nI_add, pk_sub, kc_0, kc_1, kc_2, kc_3, kc_4, kc_5, reduceIte, Nat.reduceEqDiff, Nat.add_zero, rI_hold, rI_hold, rL_hold, hk, htr, htr1, hk1, he67]; exact congrArg nI (by omega))) ?_
  refine Bod.bip 7 (by decide) dc_347_75 ?_
  refine Bod.icF dc_347_77 rfl (k2_eq_F (k_ne e67 7 rfl rfl (by omega) (by omega) (by omega))) ?_
  refine Bod.go dc_347_80 rfl ?_
  refine Bod.get dc_347_81 fr_347_141 (mk_61 _) rfl ?_
  refine Bod.go dc_347_84 rfl ?_
  refine Bod.get dc_347_85 fr_347_190 (mk_61 _) rfl ?_
  refine Bod.eqI (nI k1) (by first | (simp (disch := omega) only [rI, rIe, rA, rIA, rLA, rJA, rVI, rQI, rVA, rQA, upd_at,  rAI, rLI, rJI, nI_add, pk_sub, kc_0, kc_1, kc_2, kc_3, kc_4, kc_5, reduceIte, Nat.reduceEqDiff, Nat.add_zero, rI_hold, rI_hold, rL_hold, hk, htr, htr1, hk1, he67]; done) | (simp (disch := omega) only [rI, rIe, rA, rIA, rLA, rJA, rVI, rQI, rVA, rQA, upd_at,  rAI, rLI, rJI, nI_add, pk_sub, kc_0, kc_1, kc_2, kc_3, kc_4, kc_5, reduceIte, Nat.reduceEqDiff, Nat.add_zero, rI_hold, rI_hold, rL_hold, hk, htr, htr1, hk1, he67]; exact congrArg nI (by omega))) ?_
  refine Bod.ialdN k1 rfl (by omega) (by omega) dc_347_88 (mk_70 _) ?_
  refine Bod.eqI (nI e70) (by first | (simp (disch := omega) only [rI, rIe, rA, rIA, rLA, rJA, rVI, rQI, rVA, rQA, upd_at,  rAI, rLI, rJI, nI_add, pk_sub, kc_0, kc_1, kc_2, kc_3, kc_4, kc_5, reduceIte, Nat.reduceEqDiff, Nat.add_zero, rI_hold, rI_hold, rL_hold, hk, htr, htr1, hk1, he67, he70]; done) | (simp (disch := omega) only [rI, rIe, rA, rIA, rLA, rJA, rVI, rQI, rVA, rQA, upd_at,  rAI, rLI, rJI, nI_add, pk_sub, kc_0, kc_1, kc_2, kc_3, kc_4, kc_5, reduceIte, Nat.reduceEqDiff, Nat.add_zero, rI_hold, rI_hold, rL_hold, hk, htr, htr1, hk1, he67, he70]; exact congrArg nI (by omega))) ?_
  refine Bod.go dc_347_89 rfl ?_
  refine Bod.icF dc_347_90 rfl (k2_ne_F (k_eq e70 la rfl rfl (by omega))) ?_
  refine Bod.go dc_347_93 rfl ?_
  refine Bod.bip 15 (by decide) dc_347_94 ?_
  refine Bod.virt (r := []) dc_347_96 kr_347_312 ⟨Or.inl rfl, ow_309, cl_14⟩ (by rw [np_309]; rfl) (by rw [np_309]; rfl) (ob_of (mk_61 _)) (Nat.le_of_ble_eq_true rfl) (c6  ) ?_
  show Bod _ _ _ _ [_] _ _ _
  refine Bod.ifT dc_347_99 rfl (k1_ne_T (k_ne 1 0 rfl rfl (by omega) (by omega) (by omega))) ?_
  refine Bod.go dc_347_107 rfl ?_
  refine Bod.go dc_347_108 rfl ?_
  refine Bod.get dc_347_109 fr_347_190 (mk_61 _) rfl ?_
  refine Bod.eqI (nI k2) (by first | (simp (disch := omega) only [rI, rIe, rA, rIA, rLA, rJA, rVI, rQI, rVA, rQA, upd_at,  rAI, rLI, rJI, nI_add, pk_sub, kc_0, kc_1, kc_2, kc_3, kc_4, kc_5, reduceIte, Nat.reduceEqDiff, Nat.add_zero, rI_hold, rI_hold, rL_hold, hk, htr, htr1, hk1, he67, he70, hk2]; done) | (simp (disch := omega) only [rI, rIe, rA, rIA, rLA, rJA, rVI, rQI, rVA, rQA, upd_at,  rAI, rLI, rJI, nI_add, pk_sub, kc_0, kc_1, kc_2, kc_3, kc_4, kc_5, reduceIte, Nat.reduceEqDiff, Nat.add_zero, rI_hold, rI_hold, rL_hold, hk, htr, htr1, hk1, he67, he70, hk2]; exact congrArg nI (by omega))) ?_
  refine Bod.ic 1 (by decide) dc_347_112 ?_
  refine Bod.addN (k2 + 1) (by omega) dc_347_113 ?_
  refine Bod.put dc_347_114 fr_347_190 (mk_61 _) (Nat.le_of_ble_eq_true rfl) pf_14_15 (st_6115 _ _) (mu_I _ _ _) ?_
  refine Bod.go dc_347_117 rfl ?_
  refine Bod.bip 36 (by decide) dc_347_118 ?_
  refine Bod.virt (r := []) dc_347_120 kr_347_269 ⟨Or.inl rfl, ow_322, cl_14⟩ (by rw [np_322]; rfl) (by rw [np_322]; rfl) (ob_of (mk_61 _)) (Nat.le_of_ble_eq_true rfl) (c7  ) ?_
  show Bod _ _ _ _ [] _ _ _
  refine Bod.go dc_347_123 rfl ?_
  refine Bod.get dc_347_124 fr_347_129 (mk_61 _) rfl ?_
  refine Bod.go dc_347_127 rfl ?_
  refine Bod.get dc_347_128 fr_347_190 (mk_61 _) rfl ?_
  refine Bod.eqI (nI k3) (by first | (simp (disch := omega) only [rI, rIe, rA, rIA, rLA, rJA, rVI, rQI, rVA, rQA, upd_at,  rAI, rLI, rJI, nI_add, pk_sub, kc_0, kc_1, kc_2, kc_3, kc_4, kc_5, reduceIte, Nat.reduceEqDiff, Nat.add_zero, rI_hold, rI_hold, rL_hold, hk, htr, htr1, hk1, he67, he70, hk2, hk3]; done) | (simp (disch := omega) only [rI, rIe, rA, rIA, rLA, rJA, rVI, rQI, rVA, rQA, upd_at,  rAI, rLI, rJI, nI_add, pk_sub, kc_0, kc_1, kc_2, kc_3, kc_4, kc_5, reduceIte, Nat.reduceEqDiff, Nat.add_zero, rI_hold, rI_hold, rL_hold, hk, htr, htr1, hk1, he67, he70, hk2, hk3]; exact congrArg nI (by omega))) ?_
  refine Bod.ialdN k3 rfl (by omega) (by omega) dc_347_131 (mk_67 _) ?_
  refine Bod.eqI (nI e671) (by first | (simp (disch := omega) only [rI, rIe, rA, rIA, rLA, rJA, rVI, rQI, rVA, rQA, upd_at,  rAI, rLI, rJI, nI_add, pk_sub, kc_0, kc_1, kc_2, kc_3, kc_4, kc_5, reduceIte, Nat.reduceEqDiff, Nat.add_zero, rI_hold, rI_hold, rL_hold, hk, htr, htr1, hk1, he67, he70, hk2, hk3, he671]; done) | (simp (disch := omega) only [rI, rIe, rA, rIA, rLA, rJA, rVI, rQI, rVA, rQA, upd_at,  rAI, rLI, rJI, nI_add, pk_sub, kc_0, kc_1, kc_2, kc_3, kc_4, kc_5, reduceIte, Nat.reduceEqDiff, Nat.add_zero, rI_hold, rI_hold, rL_hold, hk, htr, htr1, hk1, he67, he70, hk2, hk3, he671]; exact congrArg nI (by omega))) ?_
  refine Bod.ic 1 (by decide) dc_347_132 ?_
  refine Bod.icF dc_347_133 rfl (k2_ne_F (k_eq e671 1 rfl rfl (by omega))) ?_
  refine Bod.go dc_347_136 rfl ?_
  refine Bod.bip 6 (by decide) dc_347_137 ?_
  refine Bod.go dc_347_139 rfl ?_
  refine Bod.get dc_347_140 fr_347_135 (mk_61 _) rfl ?_
  refine Bod.go dc_347_143 rfl ?_
  refine Bod.get dc_347_144 fr_347_190 (mk_61 _) rfl ?_
  refine Bod.eqI (nI k3) (by first | (simp (disch := omega) only [rI, rIe, rA, rIA, rLA, rJA, rVI, rQI, rVA, rQA, upd_at,  rAI, rLI, rJI, nI_add, pk_sub, kc_0, kc_1, kc_2, kc_3, kc_4, kc_5, reduceIte, Nat.reduceEqDiff, Nat.add_zero, rI_hold, rI_hold, rL_hold, hk, htr, htr1, hk1, he67, he70, hk2, hk3, he671]; done) | (simp (disch := omega) only [rI, rIe, rA, rIA, rLA, rJA, rVI, rQI, rVA, rQA, upd_at,  rAI, rLI, rJI, nI_add, pk_sub, kc_0, kc_1, kc_2, kc_3, kc_4, kc_5, reduceIte, Nat.reduceEqDiff, Nat.add_zero, rI_hold, rI_hold, rL_hold, hk, htr, htr1, hk1, he67, he70, hk2, hk3, he671]; exact congrArg nI (by omega))) ?_
  refine Bod.ialdN k3 rfl (by omega) (by omega) dc_347_147 (mk_68 _) ?_
  refine Bod.eqI (nI e68) (by first | (simp (disch := omega) only [rI, rIe, rA, rIA, rLA, rJA, rVI, rQI, rVA, rQA, upd_at,  rAI, rLI, rJI, nI_add, pk_sub, kc_0, kc_1, kc_2, kc_3, kc_4, kc_5, reduceIte, Nat.reduceEqDiff, Nat.add_zero, rI_hold, rI_hold, rL_hold, hk, htr, htr1, hk1, he67, he70, hk2, hk3, he671, he68]; done) | (simp (disch := omega) only [rI, rIe, rA, rIA, rLA, rJA, rVI, rQI, rVA, rQA, upd_at,  rAI, rLI, rJI, nI_add, pk_sub, kc_0, kc_1, kc_2, kc_3, kc_4, kc_5, reduceIte, Nat.reduceEqDiff, Nat.add_zero, rI_hold, rI_hold, rL_hold, hk, htr, htr1, hk1, he67, he70, hk2, hk3, he671, he68]; exact congrArg nI (by omega))) ?_
  refine Bod.virt (r := []) dc_347_148 kr_347_341 ⟨Or.inl rfl, ow_317, cl_14⟩ (by rw [np_317]; rfl) (by rw [np_317]; rfl) (ob_of (mk_61 _)) (Nat.le_of_ble_eq_true rfl) (c8  ) ?_
  show Bod _ _ _ _ [] _ _ _
  refine Bod.go dc_347_151 rfl ?_
  refine Bod.go dc_347_152 rfl ?_
  refine Bod.get dc_347_153 fr_347_190 (mk_61 _) rfl ?_
  refine Bod.eqI (nI k4) (by first | (simp (disch := omega) only [rI, rIe, rA, rIA, rLA, rJA, rVI, rQI, rVA, rQA, upd_at,  rAI, rLI, rJI, nI_add, pk_sub, kc_0, kc_1, kc_2, kc_3, kc_4, kc_5, reduceIte, Nat.reduceEqDiff, Nat.add_zero, rI_hold, rI_hold, rL_hold, hk, htr, htr1, hk1, he67, he70, hk2, hk3, he671, he68, hk4]; done) | (simp (disch := omega) only [rI, rIe, rA, rIA, rLA, rJA, rVI, rQI, rVA, rQA, upd_at,  rAI, rLI, rJI, nI_add, pk_sub, kc_0, kc_1, kc_2, kc_3, kc_4, kc_5, reduceIte, Nat.reduceEqDiff, Nat.add_zero, rI_hold, rI_hold, rL_hold, hk, htr, htr1, hk1, he67, he70, hk2, hk3, he671, he68, hk4]; exact congrArg nI (by omega))) ?_
  refine Bod.ic 1 (by decide) dc_347_156 ?_
  refine Bod.addN (k4 + 1) (by omega) dc_347_157 ?_
  refine Bod.put dc_347_158 fr_347_190 (mk_61 _) (Nat.le_of_ble_eq_true rfl) pf_14_15 (st_6115 _ _) (mu_I _ _ _) ?_
  refine Bod.go dc_347_161 rfl ?_
  refine Bod.go dc_347_170 rfl ?_
  refine Bod.go dc_347_171 rfl ?_
  refine Bod.ic 0 (by decide) dc_347_172 ?_
  refine Bod.virt (r := []) dc_347_173 kr_347_309 ⟨Or.inl rfl, ow_334, cl_14⟩ (by rw [np_334]; rfl) (by rw [np_334]; rfl) (ob_of (mk_61 _)) (Nat.le_of_ble_eq_true rfl) (c9  ) ?_
  show Bod _ _ _ _ [_] _ _ _
  refine Bod.ifF dc_347_176 rfl (k1_ne_F (k_eq 0 0 rfl rfl (by omega))) ?_
  refine Bod.ic 0 (by decide) dc_347_179 ?_
  exact Bod.retZ dc_347_180 rt_347 (Or.inl rfl)
theorem zTr_7 {d : Nat} {S : cS} {la : Nat} {k : Nat} {S1 : cS} {a : Nat} {tr : Nat} {S2 : cS} {tr1 : Nat} {S3 : cS} {S4 : cS} {a1 : Nat} {S5 : cS} {k1 : Nat} {e67 : Nat} {e70 : Nat} {S6 : cS} {S7 : cS} (mla : la < 2 ^ 20) (hk : sI S 6115 = nI k) (mk : k < 6001) (ma : a < 2 ^ 20) (c1 : Ans (d + 8) 325 [.ref 61, .int (nI 34)] (wI 6115 (nI (k + 1)) S) (some (.int (nI a))) S1) (htr : sI S1 6127 = nI tr) (mtr : tr < 14) (c2 : Ans (d + 8) 334 [.ref 61, .int (nI la), .int (nI 0)] (wI 6127 (nI (tr + 1)) S1) (some (.int (nI 1))) S2) (htr1 : sI S2 6127 = nI tr1) (mtr1 : tr1 < 14) (b1 : 1 ≤ tr1) (c3 : Ans (d + 8) 322 [.ref 61, .int (nI 35)] (wI 6127 (nI (tr1 - 1)) S2) none S3) (ma1 : a1 < 2 ^ 20) (c4 : Ans (d + 8) 325 [.ref 61, .int (nI 11)] S3 (some (.int (nI a1))) S4) (c5 : Ans (d + 8) 326 [.ref 61, .int (nI a)] S4 none S5) (hk1 : sI S5 6115 = nI k1) (mk1 : k1 < 6001) (he67 : sA S5 67 k1 = nI e67) (me67 : e67 < 2 ^ 20) (b2 : e67 ≠ 7) (he70 : sA S5 70 k1 = nI e70) (me70 : e70 < 2 ^ 20) (b3 : e70 = la) (c6 : Ans (d + 8) 309 [.ref 61, .int (nI 15)] S5 (some (.int (nI 0))) S6) (c7 : Ans (d + 8) 299 [.ref 61] S6 (some (.int (nI 0))) S7) : Bod (d + 8) 347 0 [(0, .ref 61), (1, .int (nI la))] [] S (some (.int 0)) (S7) := by
  refine Bod.go dc_347_0 rfl ?_
  refine Bod.go dc_347_1 rfl ?_
  refine Bod.get dc_347_2 fr_347_190 (mk_61 _) rfl ?_
  refine Bod.eqI (nI k) (by first | assumption | rfl | exact congrArg nI (by omega) | (simp (disch := omega) only [rI, rIe, rA, rIA, rLA, rJA, rVI, rQI, rVA, rQA, upd_at,  rAI, rLI, rJI, nI_add, pk_sub, kc_0, kc_1, kc_2, kc_3, kc_4, kc_5, reduceIte, Nat.reduceEqDiff, Nat.add_zero, rI_hold, rI_hold, rL_hold, hk]; done)) ?_
  refine Bod.ic 1 (by decide) dc_347_5 ?_
  refine Bod.addN (k + 1) (by omega) dc_347_6 ?_
  refine Bod.put dc_347_7 fr_347_190 (mk_61 _) (Nat.le_of_ble_eq_true rfl) pf_14_15 (st_6115 _ _) (mu_I _ _ _) ?_
  refine Bod.go dc_347_10 rfl ?_
  refine Bod.bip 34 (by decide) dc_347_11 ?_
  refine Bod.virt (r := []) dc_347_13 kr_347_305 ⟨Or.inl rfl, ow_325, cl_14⟩ (by rw [np_325]; rfl) (by rw [np_325]; rfl) (ob_of (mk_61 _)) (Nat.le_of_ble_eq_true rfl) (c1  ) ?_
  show Bod _ _ _ _ [_] _ _ _
  refine Bod.istn dc_347_16 (by rw [ml_347]; exact Nat.le_of_ble_eq_true rfl) ?_
  refine Bod.go dc_347_17 rfl ?_
  refine Bod.go dc_347_18 rfl ?_
  refine Bod.get dc_347_19 fr_347_245 (mk_61 _) rfl ?_
  refine Bod.eqI (nI tr) (by first | (simp (disch := omega) only [rI, rIe, rA, rIA, rLA, rJA, rVI, rQI, rVA, rQA, upd_at,  rAI, rLI, rJI, nI_add, pk_sub, kc_0, kc_1, kc_2, kc_3, kc_4, kc_5, reduceIte, Nat.reduceEqDiff, Nat.add_zero, rI_hold, rI_hold, rL_hold, hk, htr]; done) | (simp (disch := omega) only [rI, rIe, rA, rIA, rLA, rJA, rVI, rQI, rVA, rQA, upd_at,  rAI, rLI, rJI, nI_add, pk_sub, kc_0, kc_1, kc_2, kc_3, kc_4, kc_5, reduceIte, Nat.reduceEqDiff, Nat.add_zero, rI_hold, rI_hold, rL_hold, hk, htr]; exact congrArg nI (by omega))) ?_
  refine Bod.ic 1 (by decide) dc_347_22 ?_
  refine Bod.addN (tr + 1) (by omega) dc_347_23 ?_
  refine Bod.put dc_347_24 fr_347_245 (mk_61 _) (Nat.le_of_ble_eq_true rfl) pf_14_27 (st_6127 _ _) (mu_I _ _ _) ?_
  refine Bod.go dc_347_27 rfl ?_
  refine Bod.go dc_347_28 rfl ?_
  refine Bod.ic 0 (by decide) dc_347_29 ?_
  refine Bod.virt (r := []) dc_347_30 kr_347_309 ⟨Or.inl rfl, ow_334, cl_14⟩ (by rw [np_334]; rfl) (by rw [np_334]; rfl) (ob_of (mk_61 _)) (Nat.le_of_ble_eq_true rfl) (c2  ) ?_
  show Bod _ _ _ _ [_] _ _ _
  refine Bod.ifT dc_347_33 rfl (k1_ne_T (k_ne 1 0 rfl rfl (by omega) (by omega) (by omega))) ?_
  refine Bod.go dc_347_38 rfl ?_
  refine Bod.go dc_347_39 rfl ?_
  refine Bod.get dc_347_40 fr_347_245 (mk_61 _) rfl ?_
  refine Bod.eqI (nI tr1) (by first | (simp (disch := omega) only [rI, rIe, rA, rIA, rLA, rJA, rVI, rQI, rVA, rQA, upd_at,  rAI, rLI, rJI, nI_add, pk_sub, kc_0, kc_1, kc_2, kc_3, kc_4, kc_5, reduceIte, Nat.reduceEqDiff, Nat.add_zero, rI_hold, rI_hold, rL_hold, hk, htr, htr1]; done) | (simp (disch := omega) only [rI, rIe, rA, rIA, rLA, rJA, rVI, rQI, rVA, rQA, upd_at,  rAI, rLI, rJI, nI_add, pk_sub, kc_0, kc_1, kc_2, kc_3, kc_4, kc_5, reduceIte, Nat.reduceEqDiff, Nat.add_zero, rI_hold, rI_hold, rL_hold, hk, htr, htr1]; exact congrArg nI (by omega))) ?_
  refine Bod.ic 1 (by decide) dc_347_43 ?_
  refine Bod.subN (tr1 - 1) (by omega) (by omega) dc_347_44 ?_
  refine Bod.put dc_347_45 fr_347_245 (mk_61 _) (Nat.le_of_ble_eq_true rfl) pf_14_27 (st_6127 _ _) (mu_I _ _ _) ?_
  refine Bod.go dc_347_48 rfl ?_
  refine Bod.bip 35 (by decide) dc_347_49 ?_
  refine Bod.virt (r := []) dc_347_51 kr_347_269 ⟨Or.inl rfl, ow_322, cl_14⟩ (by rw [np_322]; rfl) (by rw [np_322]; rfl) (ob_of (mk_61 _)) (Nat.le_of_ble_eq_true rfl) (c3  ) ?_
  show Bod _ _ _ _ [] _ _ _
  refine Bod.go dc_347_54 rfl ?_
  refine Bod.bip 11 (by decide) dc_347_55 ?_
  refine Bod.virt (r := []) dc_347_57 kr_347_305 ⟨Or.inl rfl, ow_325, cl_14⟩ (by rw [np_325]; rfl) (by rw [np_325]; rfl) (ob_of (mk_61 _)) (Nat.le_of_ble_eq_true rfl) (c4  ) ?_
  show Bod _ _ _ _ [_] _ _ _
  refine Bod.istn dc_347_60 (by rw [ml_347]; exact Nat.le_of_ble_eq_true rfl) ?_
  refine Bod.go dc_347_61 rfl ?_
  refine Bod.go dc_347_62 rfl ?_
  refine Bod.virt (r := []) dc_347_63 kr_347_317 ⟨Or.inl rfl, ow_326, cl_14⟩ (by rw [np_326]; rfl) (by rw [np_326]; rfl) (ob_of (mk_61 _)) (Nat.le_of_ble_eq_true rfl) (c5  ) ?_
  show Bod _ _ _ _ [] _ _ _
  refine Bod.go dc_347_66 rfl ?_
  refine Bod.get dc_347_67 fr_347_129 (mk_61 _) rfl ?_
  refine Bod.go dc_347_70 rfl ?_
  refine Bod.get dc_347_71 fr_347_190 (mk_61 _) rfl ?_
  refine Bod.eqI (nI k1) (by first | (simp (disch := omega) only [rI, rIe, rA, rIA, rLA, rJA, rVI, rQI, rVA, rQA, upd_at,  rAI, rLI, rJI, nI_add, pk_sub, kc_0, kc_1, kc_2, kc_3, kc_4, kc_5, reduceIte, Nat.reduceEqDiff, Nat.add_zero, rI_hold, rI_hold, rL_hold, hk, htr, htr1, hk1]; done) | (simp (disch := omega) only [rI, rIe, rA, rIA, rLA, rJA, rVI, rQI, rVA, rQA, upd_at,  rAI, rLI, rJI, nI_add, pk_sub, kc_0, kc_1, kc_2, kc_3, kc_4, kc_5, reduceIte, Nat.reduceEqDiff, Nat.add_zero, rI_hold, rI_hold, rL_hold, hk, htr, htr1, hk1]; exact congrArg nI (by omega))) ?_
  refine Bod.ialdN k1 rfl (by omega) (by omega) dc_347_74 (mk_67 _) ?_
  refine Bod.eqI (nI e67) (by first | (simp (disch := omega) only [rI, rIe, rA, rIA, rLA, rJA, rVI, rQI, rVA, rQA, upd_at,  rAI, rLI, rJI, nI_add, pk_sub, kc_0, kc_1, kc_2, kc_3, kc_4, kc_5, reduceIte, Nat.reduceEqDiff, Nat.add_zero, rI_hold, rI_hold, rL_hold, hk, htr, htr1, hk1, he67]; done) | (simp (disch := omega) only [rI, rIe, rA, rIA, rLA, rJA, rVI, rQI, rVA, rQA, upd_at,  rAI, rLI, rJI, nI_add, pk_sub, kc_0, kc_1, kc_2, kc_3, kc_4, kc_5, reduceIte, Nat.reduceEqDiff, Nat.add_zero, rI_hold, rI_hold, rL_hold, hk, htr, htr1, hk1, he67]; exact congrArg nI (by omega))) ?_
  refine Bod.bip 7 (by decide) dc_347_75 ?_
  refine Bod.icF dc_347_77 rfl (k2_eq_F (k_ne e67 7 rfl rfl (by omega) (by omega) (by omega))) ?_
  refine Bod.go dc_347_80 rfl ?_
  refine Bod.get dc_347_81 fr_347_141 (mk_61 _) rfl ?_
  refine Bod.go dc_347_84 rfl ?_
  refine Bod.get dc_347_85 fr_347_190 (mk_61 _) rfl ?_
  refine Bod.eqI (nI k1) (by first | (simp (disch := omega) only [rI, rIe, rA, rIA, rLA, rJA, rVI, rQI, rVA, rQA, upd_at,  rAI, rLI, rJI, nI_add, pk_sub, kc_0, kc_1, kc_2, kc_3, kc_4, kc_5, reduceIte, Nat.reduceEqDiff, Nat.add_zero, rI_hold, rI_hold, rL_hold, hk, htr, htr1, hk1, he67]; done) | (simp (disch := omega) only [rI, rIe, rA, rIA, rLA, rJA, rVI, rQI, rVA, rQA, upd_at,  rAI, rLI, rJI, nI_add, pk_sub, kc_0, kc_1, kc_2, kc_3, kc_4, kc_5, reduceIte, Nat.reduceEqDiff, Nat.add_zero, rI_hold, rI_hold, rL_hold, hk, htr, htr1, hk1, he67]; exact congrArg nI (by omega))) ?_
  refine Bod.ialdN k1 rfl (by omega) (by omega) dc_347_88 (mk_70 _) ?_
  refine Bod.eqI (nI e70) (by first | (simp (disch := omega) only [rI, rIe, rA, rIA, rLA, rJA, rVI, rQI, rVA, rQA, upd_at,  rAI, rLI, rJI, nI_add, pk_sub, kc_0, kc_1, kc_2, kc_3, kc_4, kc_5, reduceIte, Nat.reduceEqDiff, Nat.add_zero, rI_hold, rI_hold, rL_hold, hk, htr, htr1, hk1, he67, he70]; done) | (simp (disch := omega) only [rI, rIe, rA, rIA, rLA, rJA, rVI, rQI, rVA, rQA, upd_at,  rAI, rLI, rJI, nI_add, pk_sub, kc_0, kc_1, kc_2, kc_3, kc_4, kc_5, reduceIte, Nat.reduceEqDiff, Nat.add_zero, rI_hold, rI_hold, rL_hold, hk, htr, htr1, hk1, he67, he70]; exact congrArg nI (by omega))) ?_
  refine Bod.go dc_347_89 rfl ?_
  refine Bod.icF dc_347_90 rfl (k2_ne_F (k_eq e70 la rfl rfl (by omega))) ?_
  refine Bod.go dc_347_93 rfl ?_
  refine Bod.bip 15 (by decide) dc_347_94 ?_
  refine Bod.virt (r := []) dc_347_96 kr_347_312 ⟨Or.inl rfl, ow_309, cl_14⟩ (by rw [np_309]; rfl) (by rw [np_309]; rfl) (ob_of (mk_61 _)) (Nat.le_of_ble_eq_true rfl) (c6  ) ?_
  show Bod _ _ _ _ [_] _ _ _
  refine Bod.ifF dc_347_99 rfl (k1_ne_F (k_eq 0 0 rfl rfl (by omega))) ?_
  refine Bod.go dc_347_102 rfl ?_
  refine Bod.virt (r := []) dc_347_103 kr_347_202 ⟨Or.inl rfl, ow_299, cl_14⟩ (by rw [np_299]; rfl) (by rw [np_299]; rfl) (ob_of (mk_61 _)) (Nat.le_of_ble_eq_true rfl) (c7  ) ?_
  show Bod _ _ _ _ [_] _ _ _
  exact Bod.retZ dc_347_106 rt_347 (Or.inl rfl)
theorem zTr_8 {d : Nat} {S : cS} {la : Nat} {k : Nat} {S1 : cS} {a : Nat} {tr : Nat} {S2 : cS} (mla : la < 2 ^ 20) (hk : sI S 6115 = nI k) (mk : k < 6001) (ma : a < 2 ^ 20) (c1 : Ans (d + 8) 325 [.ref 61, .int (nI 34)] (wI 6115 (nI (k + 1)) S) (some (.int (nI a))) S1) (htr : sI S1 6127 = nI tr) (mtr : tr < 14) (c2 : Ans (d + 8) 334 [.ref 61, .int (nI la), .int (nI 0)] (wI 6127 (nI (tr + 1)) S1) (some (.int (nI 0))) S2) : Bod (d + 8) 347 0 [(0, .ref 61), (1, .int (nI la))] [] S (some (.int 0)) (S2) := by
  refine Bod.go dc_347_0 rfl ?_
  refine Bod.go dc_347_1 rfl ?_
  refine Bod.get dc_347_2 fr_347_190 (mk_61 _) rfl ?_
  refine Bod.eqI (nI k) (by first | assumption | rfl | exact congrArg nI (by omega) | (simp (disch := omega) only [rI, rIe, rA, rIA, rLA, rJA, rVI, rQI, rVA, rQA, upd_at,  rAI, rLI, rJI, nI_add, pk_sub, kc_0, kc_1, kc_2, kc_3, kc_4, kc_5, reduceIte, Nat.reduceEqDiff, Nat.add_zero, rI_hold, rI_hold, rL_hold, hk]; done)) ?_
  refine Bod.ic 1 (by decide) dc_347_5 ?_
  refine Bod.addN (k + 1) (by omega) dc_347_6 ?_
  refine Bod.put dc_347_7 fr_347_190 (mk_61 _) (Nat.le_of_ble_eq_true rfl) pf_14_15 (st_6115 _ _) (mu_I _ _ _) ?_
  refine Bod.go dc_347_10 rfl ?_
  refine Bod.bip 34 (by decide) dc_347_11 ?_
  refine Bod.virt (r := []) dc_347_13 kr_347_305 ⟨Or.inl rfl, ow_325, cl_14⟩ (by rw [np_325]; rfl) (by rw [np_325]; rfl) (ob_of (mk_61 _)) (Nat.le_of_ble_eq_true rfl) (c1  ) ?_
  show Bod _ _ _ _ [_] _ _ _
  refine Bod.istn dc_347_16 (by rw [ml_347]; exact Nat.le_of_ble_eq_true rfl) ?_
  refine Bod.go dc_347_17 rfl ?_
  refine Bod.go dc_347_18 rfl ?_
  refine Bod.get dc_347_19 fr_347_245 (mk_61 _) rfl ?_
  refine Bod.eqI (nI tr) (by first | (simp (disch := omega) only [rI, rIe, rA, rIA, rLA, rJA, rVI, rQI, rVA, rQA, upd_at,  rAI, rLI, rJI, nI_add, pk_sub, kc_0, kc_1, kc_2, kc_3, kc_4, kc_5, reduceIte, Nat.reduceEqDiff, Nat.add_zero, rI_hold, rI_hold, rL_hold, hk, htr]; done) | (simp (disch := omega) only [rI, rIe, rA, rIA, rLA, rJA, rVI, rQI, rVA, rQA, upd_at,  rAI, rLI, rJI, nI_add, pk_sub, kc_0, kc_1, kc_2, kc_3, kc_4, kc_5, reduceIte, Nat.reduceEqDiff, Nat.add_zero, rI_hold, rI_hold, rL_hold, hk, htr]; exact congrArg nI (by omega))) ?_
  refine Bod.ic 1 (by decide) dc_347_22 ?_
  refine Bod.addN (tr + 1) (by omega) dc_347_23 ?_
  refine Bod.put dc_347_24 fr_347_245 (mk_61 _) (Nat.le_of_ble_eq_true rfl) pf_14_27 (st_6127 _ _) (mu_I _ _ _) ?_
  refine Bod.go dc_347_27 rfl ?_
  refine Bod.go dc_347_28 rfl ?_
  refine Bod.ic 0 (by decide) dc_347_29 ?_
  refine Bod.virt (r := []) dc_347_30 kr_347_309 ⟨Or.inl rfl, ow_334, cl_14⟩ (by rw [np_334]; rfl) (by rw [np_334]; rfl) (ob_of (mk_61 _)) (Nat.le_of_ble_eq_true rfl) (c2  ) ?_
  show Bod _ _ _ _ [_] _ _ _
  refine Bod.ifF dc_347_33 rfl (k1_ne_F (k_eq 0 0 rfl rfl (by omega))) ?_
  refine Bod.ic 0 (by decide) dc_347_36 ?_
  exact Bod.retZ dc_347_37 rt_347 (Or.inl rfl)
theorem zBh_1 {d : Nat} {S : cS} {lr : Nat} {F : Nat} {S1 : cS} {a : Nat} (mlr : lr < 2 ^ 20) (hF : sI S 6122 = nI F) (mF : F < 15) (ma : a < 2 ^ 20) (c1 : Ans (d + 8) 319 [.ref 61, .int (nI F), .int (nI lr)] S (some (.int (nI a))) S1) : Bod (d + 8) 339 0 [(0, .ref 61), (1, .int (nI lr))] [] S none (S1) := by
  refine Bod.go dc_339_0 rfl ?_
  refine Bod.go dc_339_1 rfl ?_
  refine Bod.get dc_339_2 fr_339_236 (mk_61 _) rfl ?_
  refine Bod.eqI (nI F) (by first | assumption | rfl | exact congrArg nI (by omega) | (simp (disch := omega) only [rI, rIe, rA, rIA, rLA, rJA, rVI, rQI, rVA, rQA, upd_at,  rAI, rLI, rJI, nI_add, pk_sub, kc_0, kc_1, kc_2, kc_3, kc_4, kc_5, reduceIte, Nat.reduceEqDiff, Nat.add_zero, rI_hold, rI_hold, rL_hold, hF]; done)) ?_
  refine Bod.go dc_339_5 rfl ?_
  refine Bod.virt (r := []) dc_339_6 kr_339_353 ⟨Or.inl rfl, ow_319, cl_14⟩ (by rw [np_319]; rfl) (by rw [np_319]; rfl) (ob_of (mk_61 _)) (Nat.le_of_ble_eq_true rfl) (c1  ) ?_
  show Bod _ _ _ _ [_] _ _ _
  refine Bod.ifF dc_339_9 rfl (k1_lt_F a rfl (by omega)) ?_
  exact Bod.retV dc_339_12 rt_339
theorem zBh_2 {d : Nat} {S : cS} {lr : Nat} {F : Nat} {S1 : cS} {nl : Nat} (mlr : lr < 2 ^ 20) (hF : sI S 6122 = nI F) (mF : F < 15) (c1 : Ans (d + 8) 319 [.ref 61, .int (nI F), .int (nI lr)] S (some (.int (Int32.ofInt (-1)))) S1) (hnl : sI S1 6123 = nI nl) (mnl : nl < 6000) : Bod (d + 8) 339 0 [(0, .ref 61), (1, .int (nI lr))] [] S none (wI 6123 (nI (nl + 1)) (wA 74 nl (nI lr) S1)) := by
  refine Bod.go dc_339_0 rfl ?_
  refine Bod.go dc_339_1 rfl ?_
  refine Bod.get dc_339_2 fr_339_236 (mk_61 _) rfl ?_
  refine Bod.eqI (nI F) (by first | assumption | rfl | exact congrArg nI (by omega) | (simp (disch := omega) only [rI, rIe, rA, rIA, rLA, rJA, rVI, rQI, rVA, rQA, upd_at,  rAI, rLI, rJI, nI_add, pk_sub, kc_0, kc_1, kc_2, kc_3, kc_4, kc_5, reduceIte, Nat.reduceEqDiff, Nat.add_zero, rI_hold, rI_hold, rL_hold, hF]; done)) ?_
  refine Bod.go dc_339_5 rfl ?_
  refine Bod.virt (r := []) dc_339_6 kr_339_353 ⟨Or.inl rfl, ow_319, cl_14⟩ (by rw [np_319]; rfl) (by rw [np_319]; rfl) (ob_of (mk_61 _)) (Nat.le_of_ble_eq_true rfl) (c1  ) ?_
  show Bod _ _ _ _ [_] _ _ _
  refine Bod.ifT dc_339_9 rfl (by decide) ?_
  refine Bod.go dc_339_13 rfl ?_
  refine Bod.get dc_339_14 fr_339_347 (mk_61 _) rfl ?_
  refine Bod.go dc_339_17 rfl ?_
  refine Bod.get dc_339_18 fr_339_239 (mk_61 _) rfl ?_
  refine Bod.eqI (nI nl) (by first | (simp (disch := omega) only [rI, rIe, rA, rIA, rLA, rJA, rVI, rQI, rVA, rQA, upd_at,  rAI, rLI, rJI, nI_add, pk_sub, kc_0, kc_1, kc_2, kc_3, kc_4, kc_5, reduceIte, Nat.reduceEqDiff, Nat.add_zero, rI_hold, rI_hold, rL_hold, hF, hnl]; done) | (simp (disch := omega) only [rI, rIe, rA, rIA, rLA, rJA, rVI, rQI, rVA, rQA, upd_at,  rAI, rLI, rJI, nI_add, pk_sub, kc_0, kc_1, kc_2, kc_3, kc_4, kc_5, reduceIte, Nat.reduceEqDiff, Nat.add_zero, rI_hold, rI_hold, rL_hold, hF, hnl]; exact congrArg nI (by omega))) ?_
  refine Bod.go dc_339_21 rfl ?_
  refine Bod.iastN nl rfl (by omega) (by omega) dc_339_22 (mk_74 _) (sa_74 _ _ _) (mu_A _ _ _ _) ?_
  refine Bod.go dc_339_23 rfl ?_
  refine Bod.go dc_339_24 rfl ?_
  refine Bod.get dc_339_25 fr_339_239 (mk_61 _) rfl ?_
  refine Bod.eqI (nI nl) (by first | (simp (disch := omega) only [rI, rIe, rA, rIA, rLA, rJA, rVI, rQI, rVA, rQA, upd_at,  rAI, rLI, rJI, nI_add, pk_sub, kc_0, kc_1, kc_2, kc_3, kc_4, kc_5, reduceIte, Nat.reduceEqDiff, Nat.add_zero, rI_hold, rI_hold, rL_hold, hF, hnl]; done) | (simp (disch := omega) only [rI, rIe, rA, rIA, rLA, rJA, rVI, rQI, rVA, rQA, upd_at,  rAI, rLI, rJI, nI_add, pk_sub, kc_0, kc_1, kc_2, kc_3, kc_4, kc_5, reduceIte, Nat.reduceEqDiff, Nat.add_zero, rI_hold, rI_hold, rL_hold, hF, hnl]; exact congrArg nI (by omega))) ?_
  refine Bod.ic 1 (by decide) dc_339_28 ?_
  refine Bod.addN (nl + 1) (by omega) dc_339_29 ?_
  refine Bod.put dc_339_30 fr_339_239 (mk_61 _) (Nat.le_of_ble_eq_true rfl) pf_14_23 (st_6123 _ _) (mu_I _ _ _) ?_
  exact Bod.retV dc_339_33 rt_339
theorem zFg_1 {d : Nat} {S Sf : cS} {v : Option Value} {lr : Nat} {no : Nat} {F : Nat} {S1 : cS} {a : Nat} {F1 : Nat} {e76 : Nat} {nl : Nat} {e75 : Nat} (mlr : lr < 2 ^ 20) (hno : sI S 6137 = nI no) (mno : no < 6000) (hF : sI (wI 6137 (nI (no + 1)) (wA 82 no (nI lr) S)) 6122 = nI F) (mF : F < 15) (ma : a < 2 ^ 20) (c1 : Ans (d + 8) 319 [.ref 61, .int (nI F), .int (nI lr)] (wI 6137 (nI (no + 1)) (wA 82 no (nI lr) S)) (some (.int (nI a))) S1) (hF1 : sI S1 6122 = nI F1) (mF1 : F1 < 15) (he76 : sA S1 76 F1 = nI e76) (me76 : e76 < 2 ^ 20) (b1 : e76 ≤ a) (hnl : sI S1 6123 = nI nl) (mnl : nl < 6000) (b2 : 1 ≤ nl) (he75 : sA (wI 6123 (nI (nl - 1)) S1) 75 F1 = nI e75) (me75 : e75 < 2 ^ 20) (hB : ∀ lv1 : sm_L, sm_get lv1 0 = some (.ref 61) → sm_get lv1 3 = some (.int (nI (e75 + a))) → Bod (d + 8) 340 66 lv1 [] (wI 6123 (nI (nl - 1)) S1) v Sf) : Bod (d + 8) 340 0 [(0, .ref 61), (1, .int (nI lr))] [] S v Sf := by
  refine Bod.go dc_340_0 rfl ?_
  refine Bod.get dc_340_1 fr_340_365 (mk_61 _) rfl ?_
  refine Bod.go dc_340_4 rfl ?_
  refine Bod.get dc_340_5 fr_340_254 (mk_61 _) rfl ?_
  refine Bod.eqI (nI no) (by first | assumption | rfl | exact congrArg nI (by omega) | (simp (disch := omega) only [rI, rIe, rA, rIA, rLA, rJA, rVI, rQI, rVA, rQA, upd_at,  rAI, rLI, rJI, nI_add, pk_sub, kc_0, kc_1, kc_2, kc_3, kc_4, kc_5, reduceIte, Nat.reduceEqDiff, Nat.add_zero, rI_hold, rI_hold, rL_hold, hno]; done)) ?_
  refine Bod.go dc_340_8 rfl ?_
  refine Bod.iastN no rfl (by omega) (by omega) dc_340_9 (mk_82 _) (sa_82 _ _ _) (mu_A _ _ _ _) ?_
  refine Bod.go dc_340_10 rfl ?_
  refine Bod.go dc_340_11 rfl ?_
  refine Bod.get dc_340_12 fr_340_254 (mk_61 _) rfl ?_
  refine Bod.eqI (nI no) (by first | (simp (disch := omega) only [rI, rIe, rA, rIA, rLA, rJA, rVI, rQI, rVA, rQA, upd_at,  rAI, rLI, rJI, nI_add, pk_sub, kc_0, kc_1, kc_2, kc_3, kc_4, kc_5, reduceIte, Nat.reduceEqDiff, Nat.add_zero, rI_hold, rI_hold, rL_hold, hno]; done) | (simp (disch := omega) only [rI, rIe, rA, rIA, rLA, rJA, rVI, rQI, rVA, rQA, upd_at,  rAI, rLI, rJI, nI_add, pk_sub, kc_0, kc_1, kc_2, kc_3, kc_4, kc_5, reduceIte, Nat.reduceEqDiff, Nat.add_zero, rI_hold, rI_hold, rL_hold, hno]; exact congrArg nI (by omega))) ?_
  refine Bod.ic 1 (by decide) dc_340_15 ?_
  refine Bod.addN (no + 1) (by omega) dc_340_16 ?_
  refine Bod.put dc_340_17 fr_340_254 (mk_61 _) (Nat.le_of_ble_eq_true rfl) pf_14_37 (st_6137 _ _) (mu_I _ _ _) ?_
  refine Bod.go dc_340_20 rfl ?_
  refine Bod.go dc_340_21 rfl ?_
  refine Bod.get dc_340_22 fr_340_236 (mk_61 _) rfl ?_
  refine Bod.eqI (nI F) (by first | (simp (disch := omega) only [rI, rIe, rA, rIA, rLA, rJA, rVI, rQI, rVA, rQA, upd_at,  rAI, rLI, rJI, nI_add, pk_sub, kc_0, kc_1, kc_2, kc_3, kc_4, kc_5, reduceIte, Nat.reduceEqDiff, Nat.add_zero, rI_hold, rI_hold, rL_hold, hno, hF]; done) | (simp (disch := omega) only [rI, rIe, rA, rIA, rLA, rJA, rVI, rQI, rVA, rQA, upd_at,  rAI, rLI, rJI, nI_add, pk_sub, kc_0, kc_1, kc_2, kc_3, kc_4, kc_5, reduceIte, Nat.reduceEqDiff, Nat.add_zero, rI_hold, rI_hold, rL_hold, hno, hF]; exact congrArg nI (by omega))) ?_
  refine Bod.go dc_340_25 rfl ?_
  refine Bod.virt (r := []) dc_340_26 kr_340_353 ⟨Or.inl rfl, ow_319, cl_14⟩ (by rw [np_319]; rfl) (by rw [np_319]; rfl) (ob_of (mk_61 _)) (Nat.le_of_ble_eq_true rfl) (c1  ) ?_
  show Bod _ _ _ _ [_] _ _ _
  refine Bod.istn dc_340_29 (by rw [ml_340]; exact Nat.le_of_ble_eq_true rfl) ?_
  refine Bod.go dc_340_30 rfl ?_
  refine Bod.go dc_340_31 rfl ?_
  refine Bod.get dc_340_32 fr_340_344 (mk_61 _) rfl ?_
  refine Bod.go dc_340_35 rfl ?_
  refine Bod.get dc_340_36 fr_340_236 (mk_61 _) rfl ?_
  refine Bod.eqI (nI F1) (by first | (simp (disch := omega) only [rI, rIe, rA, rIA, rLA, rJA, rVI, rQI, rVA, rQA, upd_at,  rAI, rLI, rJI, nI_add, pk_sub, kc_0, kc_1, kc_2, kc_3, kc_4, kc_5, reduceIte, Nat.reduceEqDiff, Nat.add_zero, rI_hold, rI_hold, rL_hold, hno, hF, hF1]; done) | (simp (disch := omega) only [rI, rIe, rA, rIA, rLA, rJA, rVI, rQI, rVA, rQA, upd_at,  rAI, rLI, rJI, nI_add, pk_sub, kc_0, kc_1, kc_2, kc_3, kc_4, kc_5, reduceIte, Nat.reduceEqDiff, Nat.add_zero, rI_hold, rI_hold, rL_hold, hno, hF, hF1]; exact congrArg nI (by omega))) ?_
  refine Bod.ialdN F1 rfl (by omega) (by omega) dc_340_39 (mk_76 _) ?_
  refine Bod.eqI (nI e76) (by first | (simp (disch := omega) only [rI, rIe, rA, rIA, rLA, rJA, rVI, rQI, rVA, rQA, upd_at,  rAI, rLI, rJI, nI_add, pk_sub, kc_0, kc_1, kc_2, kc_3, kc_4, kc_5, reduceIte, Nat.reduceEqDiff, Nat.add_zero, rI_hold, rI_hold, rL_hold, hno, hF, hF1, he76]; done) | (simp (disch := omega) only [rI, rIe, rA, rIA, rLA, rJA, rVI, rQI, rVA, rQA, upd_at,  rAI, rLI, rJI, nI_add, pk_sub, kc_0, kc_1, kc_2, kc_3, kc_4, kc_5, reduceIte, Nat.reduceEqDiff, Nat.add_zero, rI_hold, rI_hold, rL_hold, hno, hF, hF1, he76]; exact congrArg nI (by omega))) ?_
  refine Bod.icT dc_340_40 rfl (k2_ge_T a e76 rfl rfl (by omega) (by omega)) ?_
  refine Bod.go dc_340_44 rfl ?_
  refine Bod.go dc_340_45 rfl ?_
  refine Bod.get dc_340_46 fr_340_239 (mk_61 _) rfl ?_
  refine Bod.eqI (nI nl) (by first | (simp (disch := omega) only [rI, rIe, rA, rIA, rLA, rJA, rVI, rQI, rVA, rQA, upd_at,  rAI, rLI, rJI, nI_add, pk_sub, kc_0, kc_1, kc_2, kc_3, kc_4, kc_5, reduceIte, Nat.reduceEqDiff, Nat.add_zero, rI_hold, rI_hold, rL_hold, hno, hF, hF1, he76, hnl]; done) | (simp (disch := omega) only [rI, rIe, rA, rIA, rLA, rJA, rVI, rQI, rVA, rQA, upd_at,  rAI, rLI, rJI, nI_add, pk_sub, kc_0, kc_1, kc_2, kc_3, kc_4, kc_5, reduceIte, Nat.reduceEqDiff, Nat.add_zero, rI_hold, rI_hold, rL_hold, hno, hF, hF1, he76, hnl]; exact congrArg nI (by omega))) ?_
  refine Bod.ic 1 (by decide) dc_340_49 ?_
  refine Bod.subN (nl - 1) (by omega) (by omega) dc_340_50 ?_
  refine Bod.put dc_340_51 fr_340_239 (mk_61 _) (Nat.le_of_ble_eq_true rfl) pf_14_23 (st_6123 _ _) (mu_I _ _ _) ?_
  refine Bod.go dc_340_54 rfl ?_
  refine Bod.get dc_340_55 fr_340_350 (mk_61 _) rfl ?_
  refine Bod.go dc_340_58 rfl ?_
  refine Bod.get dc_340_59 fr_340_236 (mk_61 _) rfl ?_
  refine Bod.eqI (nI F1) (by first | (simp (disch := omega) only [rI, rIe, rA, rIA, rLA, rJA, rVI, rQI, rVA, rQA, upd_at,  rAI, rLI, rJI, nI_add, pk_sub, kc_0, kc_1, kc_2, kc_3, kc_4, kc_5, reduceIte, Nat.reduceEqDiff, Nat.add_zero, rI_hold, rI_hold, rL_hold, hno, hF, hF1, he76, hnl]; done) | (simp (disch := omega) only [rI, rIe, rA, rIA, rLA, rJA, rVI, rQI, rVA, rQA, upd_at,  rAI, rLI, rJI, nI_add, pk_sub, kc_0, kc_1, kc_2, kc_3, kc_4, kc_5, reduceIte, Nat.reduceEqDiff, Nat.add_zero, rI_hold, rI_hold, rL_hold, hno, hF, hF1, he76, hnl]; exact congrArg nI (by omega))) ?_
  refine Bod.ialdN F1 rfl (by omega) (by omega) dc_340_62 (mk_75 _) ?_
  refine Bod.eqI (nI e75) (by first | (simp (disch := omega) only [rI, rIe, rA, rIA, rLA, rJA, rVI, rQI, rVA, rQA, upd_at,  rAI, rLI, rJI, nI_add, pk_sub, kc_0, kc_1, kc_2, kc_3, kc_4, kc_5, reduceIte, Nat.reduceEqDiff, Nat.add_zero, rI_hold, rI_hold, rL_hold, hno, hF, hF1, he76, hnl, he75]; done) | (simp (disch := omega) only [rI, rIe, rA, rIA, rLA, rJA, rVI, rQI, rVA, rQA, upd_at,  rAI, rLI, rJI, nI_add, pk_sub, kc_0, kc_1, kc_2, kc_3, kc_4, kc_5, reduceIte, Nat.reduceEqDiff, Nat.add_zero, rI_hold, rI_hold, rL_hold, hno, hF, hF1, he76, hnl, he75]; exact congrArg nI (by omega))) ?_
  refine Bod.go dc_340_63 rfl ?_
  refine Bod.addN (e75 + a) (by omega) dc_340_64 ?_
  refine Bod.istn dc_340_65 (by rw [ml_340]; exact Nat.le_of_ble_eq_true rfl) ?_
  exact hB _ (by first | rfl | exact (by repeat (first | exact rfl | exact sm_get_p1 | exact sm_get_p2e | refine sm_get_p1m (by decide) (by decide) ?_ | refine sm_get_p1n (by decide) rfl ?_ | refine sm_get_p2n (by decide) (by decide) rfl ?_))) (by first | rfl | exact (by repeat (first | exact rfl | exact sm_get_p1 | exact sm_get_p2e | refine sm_get_p1m (by decide) (by decide) ?_ | refine sm_get_p1n (by decide) rfl ?_ | refine sm_get_p2n (by decide) (by decide) rfl ?_)))
theorem zFg_2 {d : Nat} {S : cS} {lr : Nat} {no : Nat} {F : Nat} {S1 : cS} {a : Nat} {F1 : Nat} {e76 : Nat} (mlr : lr < 2 ^ 20) (hno : sI S 6137 = nI no) (mno : no < 6000) (hF : sI (wI 6137 (nI (no + 1)) (wA 82 no (nI lr) S)) 6122 = nI F) (mF : F < 15) (ma : a < 2 ^ 20) (c1 : Ans (d + 8) 319 [.ref 61, .int (nI F), .int (nI lr)] (wI 6137 (nI (no + 1)) (wA 82 no (nI lr) S)) (some (.int (nI a))) S1) (hF1 : sI S1 6122 = nI F1) (mF1 : F1 < 15) (he76 : sA S1 76 F1 = nI e76) (me76 : e76 < 2 ^ 20) (b1 : a < e76) : Bod (d + 8) 340 0 [(0, .ref 61), (1, .int (nI lr))] [] S none (S1) := by
  refine Bod.go dc_340_0 rfl ?_
  refine Bod.get dc_340_1 fr_340_365 (mk_61 _) rfl ?_
  refine Bod.go dc_340_4 rfl ?_
  refine Bod.get dc_340_5 fr_340_254 (mk_61 _) rfl ?_
  refine Bod.eqI (nI no) (by first | assumption | rfl | exact congrArg nI (by omega) | (simp (disch := omega) only [rI, rIe, rA, rIA, rLA, rJA, rVI, rQI, rVA, rQA, upd_at,  rAI, rLI, rJI, nI_add, pk_sub, kc_0, kc_1, kc_2, kc_3, kc_4, kc_5, reduceIte, Nat.reduceEqDiff, Nat.add_zero, rI_hold, rI_hold, rL_hold, hno]; done)) ?_
  refine Bod.go dc_340_8 rfl ?_
  refine Bod.iastN no rfl (by omega) (by omega) dc_340_9 (mk_82 _) (sa_82 _ _ _) (mu_A _ _ _ _) ?_
  refine Bod.go dc_340_10 rfl ?_
  refine Bod.go dc_340_11 rfl ?_
  refine Bod.get dc_340_12 fr_340_254 (mk_61 _) rfl ?_
  refine Bod.eqI (nI no) (by first | (simp (disch := omega) only [rI, rIe, rA, rIA, rLA, rJA, rVI, rQI, rVA, rQA, upd_at,  rAI, rLI, rJI, nI_add, pk_sub, kc_0, kc_1, kc_2, kc_3, kc_4, kc_5, reduceIte, Nat.reduceEqDiff, Nat.add_zero, rI_hold, rI_hold, rL_hold, hno]; done) | (simp (disch := omega) only [rI, rIe, rA, rIA, rLA, rJA, rVI, rQI, rVA, rQA, upd_at,  rAI, rLI, rJI, nI_add, pk_sub, kc_0, kc_1, kc_2, kc_3, kc_4, kc_5, reduceIte, Nat.reduceEqDiff, Nat.add_zero, rI_hold, rI_hold, rL_hold, hno]; exact congrArg nI (by omega))) ?_
  refine Bod.ic 1 (by decide) dc_340_15 ?_
  refine Bod.addN (no + 1) (by omega) dc_340_16 ?_
  refine Bod.put dc_340_17 fr_340_254 (mk_61 _) (Nat.le_of_ble_eq_true rfl) pf_14_37 (st_6137 _ _) (mu_I _ _ _) ?_
  refine Bod.go dc_340_20 rfl ?_
  refine Bod.go dc_340_21 rfl ?_
  refine Bod.get dc_340_22 fr_340_236 (mk_61 _) rfl ?_
  refine Bod.eqI (nI F) (by first | (simp (disch := omega) only [rI, rIe, rA, rIA, rLA, rJA, rVI, rQI, rVA, rQA, upd_at,  rAI, rLI, rJI, nI_add, pk_sub, kc_0, kc_1, kc_2, kc_3, kc_4, kc_5, reduceIte, Nat.reduceEqDiff, Nat.add_zero, rI_hold, rI_hold, rL_hold, hno, hF]; done) | (simp (disch := omega) only [rI, rIe, rA, rIA, rLA, rJA, rVI, rQI, rVA, rQA, upd_at,  rAI, rLI, rJI, nI_add, pk_sub, kc_0, kc_1, kc_2, kc_3, kc_4, kc_5, reduceIte, Nat.reduceEqDiff, Nat.add_zero, rI_hold, rI_hold, rL_hold, hno, hF]; exact congrArg nI (by omega))) ?_
  refine Bod.go dc_340_25 rfl ?_
  refine Bod.virt (r := []) dc_340_26 kr_340_353 ⟨Or.inl rfl, ow_319, cl_14⟩ (by rw [np_319]; rfl) (by rw [np_319]; rfl) (ob_of (mk_61 _)) (Nat.le_of_ble_eq_true rfl) (c1  ) ?_
  show Bod _ _ _ _ [_] _ _ _
  refine Bod.istn dc_340_29 (by rw [ml_340]; exact Nat.le_of_ble_eq_true rfl) ?_
  refine Bod.go dc_340_30 rfl ?_
  refine Bod.go dc_340_31 rfl ?_
  refine Bod.get dc_340_32 fr_340_344 (mk_61 _) rfl ?_
  refine Bod.go dc_340_35 rfl ?_
  refine Bod.get dc_340_36 fr_340_236 (mk_61 _) rfl ?_
  refine Bod.eqI (nI F1) (by first | (simp (disch := omega) only [rI, rIe, rA, rIA, rLA, rJA, rVI, rQI, rVA, rQA, upd_at,  rAI, rLI, rJI, nI_add, pk_sub, kc_0, kc_1, kc_2, kc_3, kc_4, kc_5, reduceIte, Nat.reduceEqDiff, Nat.add_zero, rI_hold, rI_hold, rL_hold, hno, hF, hF1]; done) | (simp (disch := omega) only [rI, rIe, rA, rIA, rLA, rJA, rVI, rQI, rVA, rQA, upd_at,  rAI, rLI, rJI, nI_add, pk_sub, kc_0, kc_1, kc_2, kc_3, kc_4, kc_5, reduceIte, Nat.reduceEqDiff, Nat.add_zero, rI_hold, rI_hold, rL_hold, hno, hF, hF1]; exact congrArg nI (by omega))) ?_
  refine Bod.ialdN F1 rfl (by omega) (by omega) dc_340_39 (mk_76 _) ?_
  refine Bod.eqI (nI e76) (by first | (simp (disch := omega) only [rI, rIe, rA, rIA, rLA, rJA, rVI, rQI, rVA, rQA, upd_at,  rAI, rLI, rJI, nI_add, pk_sub, kc_0, kc_1, kc_2, kc_3, kc_4, kc_5, reduceIte, Nat.reduceEqDiff, Nat.add_zero, rI_hold, rI_hold, rL_hold, hno, hF, hF1, he76]; done) | (simp (disch := omega) only [rI, rIe, rA, rIA, rLA, rJA, rVI, rQI, rVA, rQA, upd_at,  rAI, rLI, rJI, nI_add, pk_sub, kc_0, kc_1, kc_2, kc_3, kc_4, kc_5, reduceIte, Nat.reduceEqDiff, Nat.add_zero, rI_hold, rI_hold, rL_hold, hno, hF, hF1, he76]; exact congrArg nI (by omega))) ?_
  refine Bod.icF dc_340_40 rfl (k2_ge_F a e76 rfl rfl (by omega) (by omega)) ?_
  exact Bod.retV dc_340_43 rt_340
theorem zFg_3 {d : Nat} {S : cS} {lr : Nat} {no : Nat} {F : Nat} {S1 : cS} {F1 : Nat} {e76 : Nat} (mlr : lr < 2 ^ 20) (hno : sI S 6137 = nI no) (mno : no < 6000) (hF : sI (wI 6137 (nI (no + 1)) (wA 82 no (nI lr) S)) 6122 = nI F) (mF : F < 15) (c1 : Ans (d + 8) 319 [.ref 61, .int (nI F), .int (nI lr)] (wI 6137 (nI (no + 1)) (wA 82 no (nI lr) S)) (some (.int (Int32.ofInt (-1)))) S1) (hF1 : sI S1 6122 = nI F1) (mF1 : F1 < 15) (he76 : sA S1 76 F1 = nI e76) (me76 : e76 < 2 ^ 20) : Bod (d + 8) 340 0 [(0, .ref 61), (1, .int (nI lr))] [] S none (S1) := by
  refine Bod.go dc_340_0 rfl ?_
  refine Bod.get dc_340_1 fr_340_365 (mk_61 _) rfl ?_
  refine Bod.go dc_340_4 rfl ?_
  refine Bod.get dc_340_5 fr_340_254 (mk_61 _) rfl ?_
  refine Bod.eqI (nI no) (by first | assumption | rfl | exact congrArg nI (by omega) | (simp (disch := omega) only [rI, rIe, rA, rIA, rLA, rJA, rVI, rQI, rVA, rQA, upd_at,  rAI, rLI, rJI, nI_add, pk_sub, kc_0, kc_1, kc_2, kc_3, kc_4, kc_5, reduceIte, Nat.reduceEqDiff, Nat.add_zero, rI_hold, rI_hold, rL_hold, hno]; done)) ?_
  refine Bod.go dc_340_8 rfl ?_
  refine Bod.iastN no rfl (by omega) (by omega) dc_340_9 (mk_82 _) (sa_82 _ _ _) (mu_A _ _ _ _) ?_
  refine Bod.go dc_340_10 rfl ?_
  refine Bod.go dc_340_11 rfl ?_
  refine Bod.get dc_340_12 fr_340_254 (mk_61 _) rfl ?_
  refine Bod.eqI (nI no) (by first | (simp (disch := omega) only [rI, rIe, rA, rIA, rLA, rJA, rVI, rQI, rVA, rQA, upd_at,  rAI, rLI, rJI, nI_add, pk_sub, kc_0, kc_1, kc_2, kc_3, kc_4, kc_5, reduceIte, Nat.reduceEqDiff, Nat.add_zero, rI_hold, rI_hold, rL_hold, hno]; done) | (simp (disch := omega) only [rI, rIe, rA, rIA, rLA, rJA, rVI, rQI, rVA, rQA, upd_at,  rAI, rLI, rJI, nI_add, pk_sub, kc_0, kc_1, kc_2, kc_3, kc_4, kc_5, reduceIte, Nat.reduceEqDiff, Nat.add_zero, rI_hold, rI_hold, rL_hold, hno]; exact congrArg nI (by omega))) ?_
  refine Bod.ic 1 (by decide) dc_340_15 ?_
  refine Bod.addN (no + 1) (by omega) dc_340_16 ?_
  refine Bod.put dc_340_17 fr_340_254 (mk_61 _) (Nat.le_of_ble_eq_true rfl) pf_14_37 (st_6137 _ _) (mu_I _ _ _) ?_
  refine Bod.go dc_340_20 rfl ?_
  refine Bod.go dc_340_21 rfl ?_
  refine Bod.get dc_340_22 fr_340_236 (mk_61 _) rfl ?_
  refine Bod.eqI (nI F) (by first | (simp (disch := omega) only [rI, rIe, rA, rIA, rLA, rJA, rVI, rQI, rVA, rQA, upd_at,  rAI, rLI, rJI, nI_add, pk_sub, kc_0, kc_1, kc_2, kc_3, kc_4, kc_5, reduceIte, Nat.reduceEqDiff, Nat.add_zero, rI_hold, rI_hold, rL_hold, hno, hF]; done) | (simp (disch := omega) only [rI, rIe, rA, rIA, rLA, rJA, rVI, rQI, rVA, rQA, upd_at,  rAI, rLI, rJI, nI_add, pk_sub, kc_0, kc_1, kc_2, kc_3, kc_4, kc_5, reduceIte, Nat.reduceEqDiff, Nat.add_zero, rI_hold, rI_hold, rL_hold, hno, hF]; exact congrArg nI (by omega))) ?_
  refine Bod.go dc_340_25 rfl ?_
  refine Bod.virt (r := []) dc_340_26 kr_340_353 ⟨Or.inl rfl, ow_319, cl_14⟩ (by rw [np_319]; rfl) (by rw [np_319]; rfl) (ob_of (mk_61 _)) (Nat.le_of_ble_eq_true rfl) (c1  ) ?_
  show Bod _ _ _ _ [_] _ _ _
  refine Bod.istn dc_340_29 (by rw [ml_340]; exact Nat.le_of_ble_eq_true rfl) ?_
  refine Bod.go dc_340_30 rfl ?_
  refine Bod.go dc_340_31 rfl ?_
  refine Bod.get dc_340_32 fr_340_344 (mk_61 _) rfl ?_
  refine Bod.go dc_340_35 rfl ?_
  refine Bod.get dc_340_36 fr_340_236 (mk_61 _) rfl ?_
  refine Bod.eqI (nI F1) (by first | (simp (disch := omega) only [rI, rIe, rA, rIA, rLA, rJA, rVI, rQI, rVA, rQA, upd_at,  rAI, rLI, rJI, nI_add, pk_sub, kc_0, kc_1, kc_2, kc_3, kc_4, kc_5, reduceIte, Nat.reduceEqDiff, Nat.add_zero, rI_hold, rI_hold, rL_hold, hno, hF, hF1]; done) | (simp (disch := omega) only [rI, rIe, rA, rIA, rLA, rJA, rVI, rQI, rVA, rQA, upd_at,  rAI, rLI, rJI, nI_add, pk_sub, kc_0, kc_1, kc_2, kc_3, kc_4, kc_5, reduceIte, Nat.reduceEqDiff, Nat.add_zero, rI_hold, rI_hold, rL_hold, hno, hF, hF1]; exact congrArg nI (by omega))) ?_
  refine Bod.ialdN F1 rfl (by omega) (by omega) dc_340_39 (mk_76 _) ?_
  refine Bod.eqI (nI e76) (by first | (simp (disch := omega) only [rI, rIe, rA, rIA, rLA, rJA, rVI, rQI, rVA, rQA, upd_at,  rAI, rLI, rJI, nI_add, pk_sub, kc_0, kc_1, kc_2, kc_3, kc_4, kc_5, reduceIte, Nat.reduceEqDiff, Nat.add_zero, rI_hold, rI_hold, rL_hold, hno, hF, hF1, he76]; done) | (simp (disch := omega) only [rI, rIe, rA, rIA, rLA, rJA, rVI, rQI, rVA, rQA, upd_at,  rAI, rLI, rJI, nI_add, pk_sub, kc_0, kc_1, kc_2, kc_3, kc_4, kc_5, reduceIte, Nat.reduceEqDiff, Nat.add_zero, rI_hold, rI_hold, rL_hold, hno, hF, hF1, he76]; exact congrArg nI (by omega))) ?_
  refine Bod.icF dc_340_40 rfl (ml_ge (by omega)) ?_
  exact Bod.retV dc_340_43 rt_340
theorem zFgL_1 {d : Nat} {S : cS} {lv : sm_L} {li : Nat} {nl : Nat} (q0 : sm_get lv 0 = some (.ref 61)) (q3 : sm_get lv 3 = some (.int (nI li))) (mli : li < 2 ^ 20) (hnl : sI S 6123 = nI nl) (mnl : nl < 6000) (b1 : nl ≤ li) : Bod (d + 8) 340 66 lv [] S none (S) := by
  refine Bod.ildnG dc_340_66 (by repeat (first | exact q3 | exact sm_get_p1 | exact sm_get_p2e | refine sm_get_p1m (by decide) (by decide) ?_ | refine sm_get_p1n (by decide) rfl ?_ | refine sm_get_p2n (by decide) (by decide) rfl ?_)) ?_
  refine Bod.aldnG dc_340_67 (by repeat (first | exact q0 | exact sm_get_p1 | exact sm_get_p2e | refine sm_get_p1m (by decide) (by decide) ?_ | refine sm_get_p1n (by decide) rfl ?_ | refine sm_get_p2n (by decide) (by decide) rfl ?_)) ?_
  refine Bod.get dc_340_68 fr_340_239 (mk_61 _) rfl ?_
  refine Bod.eqI (nI nl) (by first | assumption | rfl | exact congrArg nI (by omega) | (simp (disch := omega) only [rI, rIe, rA, rIA, rLA, rJA, rVI, rQI, rVA, rQA, upd_at,  rAI, rLI, rJI, nI_add, pk_sub, kc_0, kc_1, kc_2, kc_3, kc_4, kc_5, reduceIte, Nat.reduceEqDiff, Nat.add_zero, rI_hold, rI_hold, rL_hold, hnl]; done)) ?_
  refine Bod.icT dc_340_71 rfl (k2_ge_T li nl rfl rfl (by omega) (by omega)) ?_
  exact Bod.retV dc_340_94 rt_340
theorem zFgL_2 {d : Nat} {S Sf : cS} {v : Option Value} {lv : sm_L} {li : Nat} {nl : Nat} {e74 : Nat} (q0 : sm_get lv 0 = some (.ref 61)) (q3 : sm_get lv 3 = some (.int (nI li))) (mli : li < 2 ^ 20) (hnl : sI S 6123 = nI nl) (mnl : nl < 6000) (b1 : li < nl) (b2 : li + 1 < 6000) (he74 : sA S 74 (li + 1) = nI e74) (me74 : e74 < 2 ^ 20) (b3 : li < 6000) (hB : ∀ lv1 : sm_L, sm_get lv1 0 = some (.ref 61) → sm_get lv1 3 = some (.int (nI (li + 1))) → Bod (d + 8) 340 66 lv1 [] (wA 74 li (nI e74) S) v Sf) : Bod (d + 8) 340 66 lv [] S v Sf := by
  refine Bod.ildnG dc_340_66 (by repeat (first | exact q3 | exact sm_get_p1 | exact sm_get_p2e | refine sm_get_p1m (by decide) (by decide) ?_ | refine sm_get_p1n (by decide) rfl ?_ | refine sm_get_p2n (by decide) (by decide) rfl ?_)) ?_
  refine Bod.aldnG dc_340_67 (by repeat (first | exact q0 | exact sm_get_p1 | exact sm_get_p2e | refine sm_get_p1m (by decide) (by decide) ?_ | refine sm_get_p1n (by decide) rfl ?_ | refine sm_get_p2n (by decide) (by decide) rfl ?_)) ?_
  refine Bod.get dc_340_68 fr_340_239 (mk_61 _) rfl ?_
  refine Bod.eqI (nI nl) (by first | assumption | rfl | exact congrArg nI (by omega) | (simp (disch := omega) only [rI, rIe, rA, rIA, rLA, rJA, rVI, rQI, rVA, rQA, upd_at,  rAI, rLI, rJI, nI_add, pk_sub, kc_0, kc_1, kc_2, kc_3, kc_4, kc_5, reduceIte, Nat.reduceEqDiff, Nat.add_zero, rI_hold, rI_hold, rL_hold, hnl]; done)) ?_
  refine Bod.icF dc_340_71 rfl (k2_ge_F li nl rfl rfl (by omega) (by omega)) ?_
  refine Bod.aldnG dc_340_74 (by repeat (first | exact q0 | exact sm_get_p1 | exact sm_get_p2e | refine sm_get_p1m (by decide) (by decide) ?_ | refine sm_get_p1n (by decide) rfl ?_ | refine sm_get_p2n (by decide) (by decide) rfl ?_)) ?_
  refine Bod.get dc_340_75 fr_340_347 (mk_61 _) rfl ?_
  refine Bod.ildnG dc_340_78 (by repeat (first | exact q3 | exact sm_get_p1 | exact sm_get_p2e | refine sm_get_p1m (by decide) (by decide) ?_ | refine sm_get_p1n (by decide) rfl ?_ | refine sm_get_p2n (by decide) (by decide) rfl ?_)) ?_
  refine Bod.aldnG dc_340_79 (by repeat (first | exact q0 | exact sm_get_p1 | exact sm_get_p2e | refine sm_get_p1m (by decide) (by decide) ?_ | refine sm_get_p1n (by decide) rfl ?_ | refine sm_get_p2n (by decide) (by decide) rfl ?_)) ?_
  refine Bod.get dc_340_80 fr_340_347 (mk_61 _) rfl ?_
  refine Bod.ildnG dc_340_83 (by repeat (first | exact q3 | exact sm_get_p1 | exact sm_get_p2e | refine sm_get_p1m (by decide) (by decide) ?_ | refine sm_get_p1n (by decide) rfl ?_ | refine sm_get_p2n (by decide) (by decide) rfl ?_)) ?_
  refine Bod.ic 1 (by decide) dc_340_84 ?_
  refine Bod.addN (li + 1) (by omega) dc_340_85 ?_
  refine Bod.ialdN (li + 1) rfl (by omega) (by omega) dc_340_86 (mk_74 _) ?_
  refine Bod.eqI (nI e74) (by first | assumption | rfl | exact congrArg nI (by omega) | (simp (disch := omega) only [rI, rIe, rA, rIA, rLA, rJA, rVI, rQI, rVA, rQA, upd_at,  rAI, rLI, rJI, nI_add, pk_sub, kc_0, kc_1, kc_2, kc_3, kc_4, kc_5, reduceIte, Nat.reduceEqDiff, Nat.add_zero, rI_hold, rI_hold, rL_hold, hnl, he74]; done)) ?_
  refine Bod.iastN li rfl (by omega) (by omega) dc_340_87 (mk_74 _) (sa_74 _ _ _) (mu_A _ _ _ _) ?_
  refine Bod.incN (li + 1) (by rw [kc_1, nI_add]) dc_340_88 (by rw [ml_340]; exact Nat.le_of_ble_eq_true rfl) (by repeat (first | exact q3 | exact sm_get_p1 | exact sm_get_p2e | refine sm_get_p1m (by decide) (by decide) ?_ | refine sm_get_p1n (by decide) rfl ?_ | refine sm_get_p2n (by decide) (by decide) rfl ?_)) ?_
  refine Bod.go dc_340_91 rfl ?_
  exact hB _ (by repeat (first | exact q0 | exact sm_get_p1 | exact sm_get_p2e | refine sm_get_p1m (by decide) (by decide) ?_ | refine sm_get_p1n (by decide) rfl ?_ | refine sm_get_p2n (by decide) (by decide) rfl ?_)) (by repeat (first | exact q0 | exact sm_get_p1 | exact sm_get_p2e | refine sm_get_p1m (by decide) (by decide) ?_ | refine sm_get_p1n (by decide) rfl ?_ | refine sm_get_p2n (by decide) (by decide) rfl ?_))
theorem zGv_1 {d : Nat} {S Sf : cS} {v : Option Value} {lr : Nat} {af : Nat} (mlr : lr < 2 ^ 20) (haf : sI S 6140 = nI af) (maf : af < 6000) (hB : ∀ lv1 : sm_L, sm_get lv1 0 = some (.ref 61) → sm_get lv1 1 = some (.int (nI lr)) → sm_get lv1 2 = some (.int (nI af)) → Bod (d + 8) 341 5 lv1 [] (S) v Sf) : Bod (d + 8) 341 0 [(0, .ref 61), (1, .int (nI lr))] [] S v Sf := by
  refine Bod.go dc_341_0 rfl ?_
  refine Bod.get dc_341_1 fr_341_260 (mk_61 _) rfl ?_
  refine Bod.eqI (nI af) (by first | assumption | rfl | exact congrArg nI (by omega) | (simp (disch := omega) only [rI, rIe, rA, rIA, rLA, rJA, rVI, rQI, rVA, rQA, upd_at,  rAI, rLI, rJI, nI_add, pk_sub, kc_0, kc_1, kc_2, kc_3, kc_4, kc_5, reduceIte, Nat.reduceEqDiff, Nat.add_zero, rI_hold, rI_hold, rL_hold, haf]; done)) ?_
  refine Bod.istn dc_341_4 (by rw [ml_341]; exact Nat.le_of_ble_eq_true rfl) ?_
  exact hB _ (by first | rfl | exact (by repeat (first | exact rfl | exact sm_get_p1 | exact sm_get_p2e | refine sm_get_p1m (by decide) (by decide) ?_ | refine sm_get_p1n (by decide) rfl ?_ | refine sm_get_p2n (by decide) (by decide) rfl ?_))) (by first | rfl | exact (by repeat (first | exact rfl | exact sm_get_p1 | exact sm_get_p2e | refine sm_get_p1m (by decide) (by decide) ?_ | refine sm_get_p1n (by decide) rfl ?_ | refine sm_get_p2n (by decide) (by decide) rfl ?_))) (by first | rfl | exact (by repeat (first | exact rfl | exact sm_get_p1 | exact sm_get_p2e | refine sm_get_p1m (by decide) (by decide) ?_ | refine sm_get_p1n (by decide) rfl ?_ | refine sm_get_p2n (by decide) (by decide) rfl ?_)))
theorem zGvL_1 {d : Nat} {S : cS} {lv : sm_L} {lr : Nat} {li : Nat} {na : Nat} {af : Nat} (q0 : sm_get lv 0 = some (.ref 61)) (q1 : sm_get lv 1 = some (.int (nI lr))) (q2 : sm_get lv 2 = some (.int (nI li))) (mlr : lr < 2 ^ 20) (mli : li < 2 ^ 20) (hna : sI S 6139 = nI na) (mna : na < 6000) (b1 : na ≤ li) (haf : sI S 6140 = nI af) (maf : af < 6000) (b2 : af ≤ na) (b3 : (na - af) < 40) : Bod (d + 8) 341 5 lv [] S none (wI 6139 (nI (na + 1)) (wA 84 na (nI lr) S)) := by
  refine Bod.ildnG dc_341_5 (by repeat (first | exact q2 | exact sm_get_p1 | exact sm_get_p2e | refine sm_get_p1m (by decide) (by decide) ?_ | refine sm_get_p1n (by decide) rfl ?_ | refine sm_get_p2n (by decide) (by decide) rfl ?_)) ?_
  refine Bod.aldnG dc_341_6 (by repeat (first | exact q0 | exact sm_get_p1 | exact sm_get_p2e | refine sm_get_p1m (by decide) (by decide) ?_ | refine sm_get_p1n (by decide) rfl ?_ | refine sm_get_p2n (by decide) (by decide) rfl ?_)) ?_
  refine Bod.get dc_341_7 fr_341_257 (mk_61 _) rfl ?_
  refine Bod.eqI (nI na) (by first | assumption | rfl | exact congrArg nI (by omega) | (simp (disch := omega) only [rI, rIe, rA, rIA, rLA, rJA, rVI, rQI, rVA, rQA, upd_at,  rAI, rLI, rJI, nI_add, pk_sub, kc_0, kc_1, kc_2, kc_3, kc_4, kc_5, reduceIte, Nat.reduceEqDiff, Nat.add_zero, rI_hold, rI_hold, rL_hold, hna]; done)) ?_
  refine Bod.icT dc_341_10 rfl (k2_ge_T li na rfl rfl (by omega) (by omega)) ?_
  refine Bod.aldnG dc_341_45 (by repeat (first | exact q0 | exact sm_get_p1 | exact sm_get_p2e | refine sm_get_p1m (by decide) (by decide) ?_ | refine sm_get_p1n (by decide) rfl ?_ | refine sm_get_p2n (by decide) (by decide) rfl ?_)) ?_
  refine Bod.get dc_341_46 fr_341_257 (mk_61 _) rfl ?_
  refine Bod.eqI (nI na) (by first | assumption | rfl | exact congrArg nI (by omega) | (simp (disch := omega) only [rI, rIe, rA, rIA, rLA, rJA, rVI, rQI, rVA, rQA, upd_at,  rAI, rLI, rJI, nI_add, pk_sub, kc_0, kc_1, kc_2, kc_3, kc_4, kc_5, reduceIte, Nat.reduceEqDiff, Nat.add_zero, rI_hold, rI_hold, rL_hold, hna]; done)) ?_
  refine Bod.aldnG dc_341_49 (by repeat (first | exact q0 | exact sm_get_p1 | exact sm_get_p2e | refine sm_get_p1m (by decide) (by decide) ?_ | refine sm_get_p1n (by decide) rfl ?_ | refine sm_get_p2n (by decide) (by decide) rfl ?_)) ?_
  refine Bod.get dc_341_50 fr_341_260 (mk_61 _) rfl ?_
  refine Bod.eqI (nI af) (by first | assumption | rfl | exact congrArg nI (by omega) | (simp (disch := omega) only [rI, rIe, rA, rIA, rLA, rJA, rVI, rQI, rVA, rQA, upd_at,  rAI, rLI, rJI, nI_add, pk_sub, kc_0, kc_1, kc_2, kc_3, kc_4, kc_5, reduceIte, Nat.reduceEqDiff, Nat.add_zero, rI_hold, rI_hold, rL_hold, hna, haf]; done)) ?_
  refine Bod.subN (na - af) (by omega) (by omega) dc_341_53 ?_
  refine Bod.bip 40 (by decide) dc_341_54 ?_
  refine Bod.icT dc_341_56 rfl (k2_lt_T (na - af) 40 rfl rfl (by omega) (by omega)) ?_
  refine Bod.aldnG dc_341_65 (by repeat (first | exact q0 | exact sm_get_p1 | exact sm_get_p2e | refine sm_get_p1m (by decide) (by decide) ?_ | refine sm_get_p1n (by decide) rfl ?_ | refine sm_get_p2n (by decide) (by decide) rfl ?_)) ?_
  refine Bod.get dc_341_66 fr_341_385 (mk_61 _) rfl ?_
  refine Bod.aldnG dc_341_69 (by repeat (first | exact q0 | exact sm_get_p1 | exact sm_get_p2e | refine sm_get_p1m (by decide) (by decide) ?_ | refine sm_get_p1n (by decide) rfl ?_ | refine sm_get_p2n (by decide) (by decide) rfl ?_)) ?_
  refine Bod.get dc_341_70 fr_341_257 (mk_61 _) rfl ?_
  refine Bod.eqI (nI na) (by first | assumption | rfl | exact congrArg nI (by omega) | (simp (disch := omega) only [rI, rIe, rA, rIA, rLA, rJA, rVI, rQI, rVA, rQA, upd_at,  rAI, rLI, rJI, nI_add, pk_sub, kc_0, kc_1, kc_2, kc_3, kc_4, kc_5, reduceIte, Nat.reduceEqDiff, Nat.add_zero, rI_hold, rI_hold, rL_hold, hna, haf]; done)) ?_
  refine Bod.ildnG dc_341_73 (by repeat (first | exact q1 | exact sm_get_p1 | exact sm_get_p2e | refine sm_get_p1m (by decide) (by decide) ?_ | refine sm_get_p1n (by decide) rfl ?_ | refine sm_get_p2n (by decide) (by decide) rfl ?_)) ?_
  refine Bod.iastN na rfl (by omega) (by omega) dc_341_74 (mk_84 _) (sa_84 _ _ _) (mu_A _ _ _ _) ?_
  refine Bod.aldnG dc_341_75 (by repeat (first | exact q0 | exact sm_get_p1 | exact sm_get_p2e | refine sm_get_p1m (by decide) (by decide) ?_ | refine sm_get_p1n (by decide) rfl ?_ | refine sm_get_p2n (by decide) (by decide) rfl ?_)) ?_
  refine Bod.go dc_341_76 rfl ?_
  refine Bod.get dc_341_77 fr_341_257 (mk_61 _) rfl ?_
  refine Bod.eqI (nI na) (by first | (simp (disch := omega) only [rI, rIe, rA, rIA, rLA, rJA, rVI, rQI, rVA, rQA, upd_at,  rAI, rLI, rJI, nI_add, pk_sub, kc_0, kc_1, kc_2, kc_3, kc_4, kc_5, reduceIte, Nat.reduceEqDiff, Nat.add_zero, rI_hold, rI_hold, rL_hold, hna, haf]; done) | (simp (disch := omega) only [rI, rIe, rA, rIA, rLA, rJA, rVI, rQI, rVA, rQA, upd_at,  rAI, rLI, rJI, nI_add, pk_sub, kc_0, kc_1, kc_2, kc_3, kc_4, kc_5, reduceIte, Nat.reduceEqDiff, Nat.add_zero, rI_hold, rI_hold, rL_hold, hna, haf]; exact congrArg nI (by omega))) ?_
  refine Bod.ic 1 (by decide) dc_341_80 ?_
  refine Bod.addN (na + 1) (by omega) dc_341_81 ?_
  refine Bod.put dc_341_82 fr_341_257 (mk_61 _) (Nat.le_of_ble_eq_true rfl) pf_14_39 (st_6139 _ _) (mu_I _ _ _) ?_
  exact Bod.retV dc_341_85 rt_341
theorem zGvL_2 {d : Nat} {S : cS} {lv : sm_L} {lr : Nat} {li : Nat} {na : Nat} {af : Nat} {S1 : cS} {na1 : Nat} (q0 : sm_get lv 0 = some (.ref 61)) (q1 : sm_get lv 1 = some (.int (nI lr))) (q2 : sm_get lv 2 = some (.int (nI li))) (mlr : lr < 2 ^ 20) (mli : li < 2 ^ 20) (hna : sI S 6139 = nI na) (mna : na < 6000) (b1 : na ≤ li) (haf : sI S 6140 = nI af) (maf : af < 6000) (b2 : af ≤ na) (b3 : 40 ≤ (na - af)) (c1 : Ans (d + 8) 322 [.ref 61, .int (nI 39)] S none S1) (hna1 : sI S1 6139 = nI na1) (mna1 : na1 < 6000) : Bod (d + 8) 341 5 lv [] S none (wI 6139 (nI (na1 + 1)) (wA 84 na1 (nI lr) S1)) := by
  refine Bod.ildnG dc_341_5 (by repeat (first | exact q2 | exact sm_get_p1 | exact sm_get_p2e | refine sm_get_p1m (by decide) (by decide) ?_ | refine sm_get_p1n (by decide) rfl ?_ | refine sm_get_p2n (by decide) (by decide) rfl ?_)) ?_
  refine Bod.aldnG dc_341_6 (by repeat (first | exact q0 | exact sm_get_p1 | exact sm_get_p2e | refine sm_get_p1m (by decide) (by decide) ?_ | refine sm_get_p1n (by decide) rfl ?_ | refine sm_get_p2n (by decide) (by decide) rfl ?_)) ?_
  refine Bod.get dc_341_7 fr_341_257 (mk_61 _) rfl ?_
  refine Bod.eqI (nI na) (by first | assumption | rfl | exact congrArg nI (by omega) | (simp (disch := omega) only [rI, rIe, rA, rIA, rLA, rJA, rVI, rQI, rVA, rQA, upd_at,  rAI, rLI, rJI, nI_add, pk_sub, kc_0, kc_1, kc_2, kc_3, kc_4, kc_5, reduceIte, Nat.reduceEqDiff, Nat.add_zero, rI_hold, rI_hold, rL_hold, hna]; done)) ?_
  refine Bod.icT dc_341_10 rfl (k2_ge_T li na rfl rfl (by omega) (by omega)) ?_
  refine Bod.aldnG dc_341_45 (by repeat (first | exact q0 | exact sm_get_p1 | exact sm_get_p2e | refine sm_get_p1m (by decide) (by decide) ?_ | refine sm_get_p1n (by decide) rfl ?_ | refine sm_get_p2n (by decide) (by decide) rfl ?_)) ?_
  refine Bod.get dc_341_46 fr_341_257 (mk_61 _) rfl ?_
  refine Bod.eqI (nI na) (by first | assumption | rfl | exact congrArg nI (by omega) | (simp (disch := omega) only [rI, rIe, rA, rIA, rLA, rJA, rVI, rQI, rVA, rQA, upd_at,  rAI, rLI, rJI, nI_add, pk_sub, kc_0, kc_1, kc_2, kc_3, kc_4, kc_5, reduceIte, Nat.reduceEqDiff, Nat.add_zero, rI_hold, rI_hold, rL_hold, hna]; done)) ?_
  refine Bod.aldnG dc_341_49 (by repeat (first | exact q0 | exact sm_get_p1 | exact sm_get_p2e | refine sm_get_p1m (by decide) (by decide) ?_ | refine sm_get_p1n (by decide) rfl ?_ | refine sm_get_p2n (by decide) (by decide) rfl ?_)) ?_
  refine Bod.get dc_341_50 fr_341_260 (mk_61 _) rfl ?_
  refine Bod.eqI (nI af) (by first | assumption | rfl | exact congrArg nI (by omega) | (simp (disch := omega) only [rI, rIe, rA, rIA, rLA, rJA, rVI, rQI, rVA, rQA, upd_at,  rAI, rLI, rJI, nI_add, pk_sub, kc_0, kc_1, kc_2, kc_3, kc_4, kc_5, reduceIte, Nat.reduceEqDiff, Nat.add_zero, rI_hold, rI_hold, rL_hold, hna, haf]; done)) ?_
  refine Bod.subN (na - af) (by omega) (by omega) dc_341_53 ?_
  refine Bod.bip 40 (by decide) dc_341_54 ?_
  refine Bod.icF dc_341_56 rfl (k2_lt_F (na - af) 40 rfl rfl (by omega) (by omega)) ?_
  refine Bod.aldnG dc_341_59 (by repeat (first | exact q0 | exact sm_get_p1 | exact sm_get_p2e | refine sm_get_p1m (by decide) (by decide) ?_ | refine sm_get_p1n (by decide) rfl ?_ | refine sm_get_p2n (by decide) (by decide) rfl ?_)) ?_
  refine Bod.bip 39 (by decide) dc_341_60 ?_
  refine Bod.virt (r := []) dc_341_62 kr_341_269 ⟨Or.inl rfl, ow_322, cl_14⟩ (by rw [np_322]; rfl) (by rw [np_322]; rfl) (ob_of (mk_61 _)) (Nat.le_of_ble_eq_true rfl) (c1  ) ?_
  show Bod _ _ _ _ [] _ _ _
  refine Bod.aldnG dc_341_65 (by repeat (first | exact q0 | exact sm_get_p1 | exact sm_get_p2e | refine sm_get_p1m (by decide) (by decide) ?_ | refine sm_get_p1n (by decide) rfl ?_ | refine sm_get_p2n (by decide) (by decide) rfl ?_)) ?_
  refine Bod.get dc_341_66 fr_341_385 (mk_61 _) rfl ?_
  refine Bod.aldnG dc_341_69 (by repeat (first | exact q0 | exact sm_get_p1 | exact sm_get_p2e | refine sm_get_p1m (by decide) (by decide) ?_ | refine sm_get_p1n (by decide) rfl ?_ | refine sm_get_p2n (by decide) (by decide) rfl ?_)) ?_
  refine Bod.get dc_341_70 fr_341_257 (mk_61 _) rfl ?_
  refine Bod.eqI (nI na1) (by first | (simp (disch := omega) only [rI, rIe, rA, rIA, rLA, rJA, rVI, rQI, rVA, rQA, upd_at,  rAI, rLI, rJI, nI_add, pk_sub, kc_0, kc_1, kc_2, kc_3, kc_4, kc_5, reduceIte, Nat.reduceEqDiff, Nat.add_zero, rI_hold, rI_hold, rL_hold, hna, haf, hna1]; done) | (simp (disch := omega) only [rI, rIe, rA, rIA, rLA, rJA, rVI, rQI, rVA, rQA, upd_at,  rAI, rLI, rJI, nI_add, pk_sub, kc_0, kc_1, kc_2, kc_3, kc_4, kc_5, reduceIte, Nat.reduceEqDiff, Nat.add_zero, rI_hold, rI_hold, rL_hold, hna, haf, hna1]; exact congrArg nI (by omega))) ?_
  refine Bod.ildnG dc_341_73 (by repeat (first | exact q1 | exact sm_get_p1 | exact sm_get_p2e | refine sm_get_p1m (by decide) (by decide) ?_ | refine sm_get_p1n (by decide) rfl ?_ | refine sm_get_p2n (by decide) (by decide) rfl ?_)) ?_
  refine Bod.iastN na1 rfl (by omega) (by omega) dc_341_74 (mk_84 _) (sa_84 _ _ _) (mu_A _ _ _ _) ?_
  refine Bod.aldnG dc_341_75 (by repeat (first | exact q0 | exact sm_get_p1 | exact sm_get_p2e | refine sm_get_p1m (by decide) (by decide) ?_ | refine sm_get_p1n (by decide) rfl ?_ | refine sm_get_p2n (by decide) (by decide) rfl ?_)) ?_
  refine Bod.go dc_341_76 rfl ?_
  refine Bod.get dc_341_77 fr_341_257 (mk_61 _) rfl ?_
  refine Bod.eqI (nI na1) (by first | (simp (disch := omega) only [rI, rIe, rA, rIA, rLA, rJA, rVI, rQI, rVA, rQA, upd_at,  rAI, rLI, rJI, nI_add, pk_sub, kc_0, kc_1, kc_2, kc_3, kc_4, kc_5, reduceIte, Nat.reduceEqDiff, Nat.add_zero, rI_hold, rI_hold, rL_hold, hna, haf, hna1]; done) | (simp (disch := omega) only [rI, rIe, rA, rIA, rLA, rJA, rVI, rQI, rVA, rQA, upd_at,  rAI, rLI, rJI, nI_add, pk_sub, kc_0, kc_1, kc_2, kc_3, kc_4, kc_5, reduceIte, Nat.reduceEqDiff, Nat.add_zero, rI_hold, rI_hold, rL_hold, hna, haf, hna1]; exact congrArg nI (by omega))) ?_
  refine Bod.ic 1 (by decide) dc_341_80 ?_
  refine Bod.addN (na1 + 1) (by omega) dc_341_81 ?_
  refine Bod.put dc_341_82 fr_341_257 (mk_61 _) (Nat.le_of_ble_eq_true rfl) pf_14_39 (st_6139 _ _) (mu_I _ _ _) ?_
  exact Bod.retV dc_341_85 rt_341
theorem zGvL_3 {d : Nat} {S : cS} {lv : sm_L} {lr : Nat} {li : Nat} {na : Nat} {e84 : Nat} {S1 : cS} (q0 : sm_get lv 0 = some (.ref 61)) (q1 : sm_get lv 1 = some (.int (nI lr))) (q2 : sm_get lv 2 = some (.int (nI li))) (mlr : lr < 2 ^ 20) (mli : li < 2 ^ 20) (hna : sI S 6139 = nI na) (mna : na < 6000) (b1 : li < na) (b2 : li < 6000) (he84 : sA S 84 li = nI e84) (me84 : e84 < 2 ^ 20) (b3 : e84 = lr) (b4 : li ≤ na) (c1 : Ans (d + 8) 302 [.ref 61, .int (nI 38), .int (nI (na - li))] S none S1) : Bod (d + 8) 341 5 lv [] S none (S1) := by
  refine Bod.ildnG dc_341_5 (by repeat (first | exact q2 | exact sm_get_p1 | exact sm_get_p2e | refine sm_get_p1m (by decide) (by decide) ?_ | refine sm_get_p1n (by decide) rfl ?_ | refine sm_get_p2n (by decide) (by decide) rfl ?_)) ?_
  refine Bod.aldnG dc_341_6 (by repeat (first | exact q0 | exact sm_get_p1 | exact sm_get_p2e | refine sm_get_p1m (by decide) (by decide) ?_ | refine sm_get_p1n (by decide) rfl ?_ | refine sm_get_p2n (by decide) (by decide) rfl ?_)) ?_
  refine Bod.get dc_341_7 fr_341_257 (mk_61 _) rfl ?_
  refine Bod.eqI (nI na) (by first | assumption | rfl | exact congrArg nI (by omega) | (simp (disch := omega) only [rI, rIe, rA, rIA, rLA, rJA, rVI, rQI, rVA, rQA, upd_at,  rAI, rLI, rJI, nI_add, pk_sub, kc_0, kc_1, kc_2, kc_3, kc_4, kc_5, reduceIte, Nat.reduceEqDiff, Nat.add_zero, rI_hold, rI_hold, rL_hold, hna]; done)) ?_
  refine Bod.icF dc_341_10 rfl (k2_ge_F li na rfl rfl (by omega) (by omega)) ?_
  refine Bod.aldnG dc_341_13 (by repeat (first | exact q0 | exact sm_get_p1 | exact sm_get_p2e | refine sm_get_p1m (by decide) (by decide) ?_ | refine sm_get_p1n (by decide) rfl ?_ | refine sm_get_p2n (by decide) (by decide) rfl ?_)) ?_
  refine Bod.get dc_341_14 fr_341_385 (mk_61 _) rfl ?_
  refine Bod.ildnG dc_341_17 (by repeat (first | exact q2 | exact sm_get_p1 | exact sm_get_p2e | refine sm_get_p1m (by decide) (by decide) ?_ | refine sm_get_p1n (by decide) rfl ?_ | refine sm_get_p2n (by decide) (by decide) rfl ?_)) ?_
  refine Bod.ialdN li rfl (by omega) (by omega) dc_341_18 (mk_84 _) ?_
  refine Bod.eqI (nI e84) (by first | assumption | rfl | exact congrArg nI (by omega) | (simp (disch := omega) only [rI, rIe, rA, rIA, rLA, rJA, rVI, rQI, rVA, rQA, upd_at,  rAI, rLI, rJI, nI_add, pk_sub, kc_0, kc_1, kc_2, kc_3, kc_4, kc_5, reduceIte, Nat.reduceEqDiff, Nat.add_zero, rI_hold, rI_hold, rL_hold, hna, he84]; done)) ?_
  refine Bod.ildnG dc_341_19 (by repeat (first | exact q1 | exact sm_get_p1 | exact sm_get_p2e | refine sm_get_p1m (by decide) (by decide) ?_ | refine sm_get_p1n (by decide) rfl ?_ | refine sm_get_p2n (by decide) (by decide) rfl ?_)) ?_
  refine Bod.icT dc_341_20 rfl (k2_eq_T (k_eq e84 lr rfl rfl (by omega))) ?_
  refine Bod.aldnG dc_341_26 (by repeat (first | exact q0 | exact sm_get_p1 | exact sm_get_p2e | refine sm_get_p1m (by decide) (by decide) ?_ | refine sm_get_p1n (by decide) rfl ?_ | refine sm_get_p2n (by decide) (by decide) rfl ?_)) ?_
  refine Bod.bip 38 (by decide) dc_341_27 ?_
  refine Bod.aldnG dc_341_29 (by repeat (first | exact q0 | exact sm_get_p1 | exact sm_get_p2e | refine sm_get_p1m (by decide) (by decide) ?_ | refine sm_get_p1n (by decide) rfl ?_ | refine sm_get_p2n (by decide) (by decide) rfl ?_)) ?_
  refine Bod.get dc_341_30 fr_341_257 (mk_61 _) rfl ?_
  refine Bod.eqI (nI na) (by first | assumption | rfl | exact congrArg nI (by omega) | (simp (disch := omega) only [rI, rIe, rA, rIA, rLA, rJA, rVI, rQI, rVA, rQA, upd_at,  rAI, rLI, rJI, nI_add, pk_sub, kc_0, kc_1, kc_2, kc_3, kc_4, kc_5, reduceIte, Nat.reduceEqDiff, Nat.add_zero, rI_hold, rI_hold, rL_hold, hna, he84]; done)) ?_
  refine Bod.ildnG dc_341_33 (by repeat (first | exact q2 | exact sm_get_p1 | exact sm_get_p2e | refine sm_get_p1m (by decide) (by decide) ?_ | refine sm_get_p1n (by decide) rfl ?_ | refine sm_get_p2n (by decide) (by decide) rfl ?_)) ?_
  refine Bod.subN (na - li) (by omega) (by omega) dc_341_34 ?_
  refine Bod.virt (r := []) dc_341_35 kr_341_216 ⟨Or.inl rfl, ow_302, cl_14⟩ (by rw [np_302]; rfl) (by rw [np_302]; rfl) (ob_of (mk_61 _)) (Nat.le_of_ble_eq_true rfl) (c1  ) ?_
  show Bod _ _ _ _ [] _ _ _
  exact Bod.retV dc_341_38 rt_341
theorem zGvL_4 {d : Nat} {S Sf : cS} {v : Option Value} {lv : sm_L} {lr : Nat} {li : Nat} {na : Nat} {e84 : Nat} (q0 : sm_get lv 0 = some (.ref 61)) (q1 : sm_get lv 1 = some (.int (nI lr))) (q2 : sm_get lv 2 = some (.int (nI li))) (mlr : lr < 2 ^ 20) (mli : li < 2 ^ 20) (hna : sI S 6139 = nI na) (mna : na < 6000) (b1 : li < na) (b2 : li < 6000) (he84 : sA S 84 li = nI e84) (me84 : e84 < 2 ^ 20) (b3 : e84 ≠ lr) (hB : ∀ lv1 : sm_L, sm_get lv1 0 = some (.ref 61) → sm_get lv1 1 = some (.int (nI lr)) → sm_get lv1 2 = some (.int (nI (li + 1))) → Bod (d + 8) 341 5 lv1 [] (S) v Sf) : Bod (d + 8) 341 5 lv [] S v Sf := by
  refine Bod.ildnG dc_341_5 (by repeat (first | exact q2 | exact sm_get_p1 | exact sm_get_p2e | refine sm_get_p1m (by decide) (by decide) ?_ | refine sm_get_p1n (by decide) rfl ?_ | refine sm_get_p2n (by decide) (by decide) rfl ?_)) ?_
  refine Bod.aldnG dc_341_6 (by repeat (first | exact q0 | exact sm_get_p1 | exact sm_get_p2e | refine sm_get_p1m (by decide) (by decide) ?_ | refine sm_get_p1n (by decide) rfl ?_ | refine sm_get_p2n (by decide) (by decide) rfl ?_)) ?_
  refine Bod.get dc_341_7 fr_341_257 (mk_61 _) rfl ?_
  refine Bod.eqI (nI na) (by first | assumption | rfl | exact congrArg nI (by omega) | (simp (disch := omega) only [rI, rIe, rA, rIA, rLA, rJA, rVI, rQI, rVA, rQA, upd_at,  rAI, rLI, rJI, nI_add, pk_sub, kc_0, kc_1, kc_2, kc_3, kc_4, kc_5, reduceIte, Nat.reduceEqDiff, Nat.add_zero, rI_hold, rI_hold, rL_hold, hna]; done)) ?_
  refine Bod.icF dc_341_10 rfl (k2_ge_F li na rfl rfl (by omega) (by omega)) ?_
  refine Bod.aldnG dc_341_13 (by repeat (first | exact q0 | exact sm_get_p1 | exact sm_get_p2e | refine sm_get_p1m (by decide) (by decide) ?_ | refine sm_get_p1n (by decide) rfl ?_ | refine sm_get_p2n (by decide) (by decide) rfl ?_)) ?_
  refine Bod.get dc_341_14 fr_341_385 (mk_61 _) rfl ?_
  refine Bod.ildnG dc_341_17 (by repeat (first | exact q2 | exact sm_get_p1 | exact sm_get_p2e | refine sm_get_p1m (by decide) (by decide) ?_ | refine sm_get_p1n (by decide) rfl ?_ | refine sm_get_p2n (by decide) (by decide) rfl ?_)) ?_
  refine Bod.ialdN li rfl (by omega) (by omega) dc_341_18 (mk_84 _) ?_
  refine Bod.eqI (nI e84) (by first | assumption | rfl | exact congrArg nI (by omega) | (simp (disch := omega) only [rI, rIe, rA, rIA, rLA, rJA, rVI, rQI, rVA, rQA, upd_at,  rAI, rLI, rJI, nI_add, pk_sub, kc_0, kc_1, kc_2, kc_3, kc_4, kc_5, reduceIte, Nat.reduceEqDiff, Nat.add_zero, rI_hold, rI_hold, rL_hold, hna, he84]; done)) ?_
  refine Bod.ildnG dc_341_19 (by repeat (first | exact q1 | exact sm_get_p1 | exact sm_get_p2e | refine sm_get_p1m (by decide) (by decide) ?_ | refine sm_get_p1n (by decide) rfl ?_ | refine sm_get_p2n (by decide) (by decide) rfl ?_)) ?_
  refine Bod.icF dc_341_20 rfl (k2_eq_F (k_ne e84 lr rfl rfl (by omega) (by omega) (by omega))) ?_
  refine Bod.go dc_341_23 rfl ?_
  refine Bod.incN (li + 1) (by rw [kc_1, nI_add]) dc_341_39 (by rw [ml_341]; exact Nat.le_of_ble_eq_true rfl) (by repeat (first | exact q2 | exact sm_get_p1 | exact sm_get_p2e | refine sm_get_p1m (by decide) (by decide) ?_ | refine sm_get_p1n (by decide) rfl ?_ | refine sm_get_p2n (by decide) (by decide) rfl ?_)) ?_
  refine Bod.go dc_341_42 rfl ?_
  exact hB _ (by repeat (first | exact q0 | exact sm_get_p1 | exact sm_get_p2e | refine sm_get_p1m (by decide) (by decide) ?_ | refine sm_get_p1n (by decide) rfl ?_ | refine sm_get_p2n (by decide) (by decide) rfl ?_)) (by repeat (first | exact q1 | exact sm_get_p1 | exact sm_get_p2e | refine sm_get_p1m (by decide) (by decide) ?_ | refine sm_get_p1n (by decide) rfl ?_ | refine sm_get_p2n (by decide) (by decide) rfl ?_)) (by repeat (first | exact q0 | exact sm_get_p1 | exact sm_get_p2e | refine sm_get_p1m (by decide) (by decide) ?_ | refine sm_get_p1n (by decide) rfl ?_ | refine sm_get_p2n (by decide) (by decide) rfl ?_))
