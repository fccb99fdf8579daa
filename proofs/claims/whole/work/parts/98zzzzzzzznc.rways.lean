/-! WAYS of the reference's machine: every call is a hypothesis -/
theorem ml_412 : sm_ml 412 = 10 := by decide +kernel
theorem dc_412_0 : decode (sm_cc 412) 0 = .ok (.aload_n 0, 1) := by decide +kernel
theorem dc_412_1 : decode (sm_cc 412) 1 = .ok (.getfield 493, 3) := by decide +kernel
theorem fr_412_493 : sm_at mt_f (sm_ow 412) 493 = some (493, 14, 51, 0, 2124) := by decide +kernel
theorem dc_412_4 : decode (sm_cc 412) 4 = .ok (.iconst 1, 1) := by decide +kernel
theorem dc_412_5 : decode (sm_cc 412) 5 = .ok (.isub, 1) := by decide +kernel
theorem dc_412_6 : decode (sm_cc 412) 6 = .ok (.istore_n 2, 1) := by decide +kernel
theorem dc_412_7 : decode (sm_cc 412) 7 = .ok (.aload_n 0, 1) := by decide +kernel
theorem dc_412_8 : decode (sm_cc 412) 8 = .ok (.iload_n 2, 1) := by decide +kernel
theorem dc_412_9 : decode (sm_cc 412) 9 = .ok (.iconst 5, 1) := by decide +kernel
theorem dc_412_10 : decode (sm_cc 412) 10 = .ok (.invokevirtual 683, 3) := by decide +kernel
theorem kr_412_683 : sm_at mt_k (sm_ow 412) 683 = some (683, 0, 363, 0, 2722) := by decide +kernel
theorem dc_412_13 : decode (sm_cc 412) 13 = .ok (.ifCond .ne (18), 3) := by decide +kernel
theorem dc_412_31 : decode (sm_cc 412) 31 = .ok (.aload_n 0, 1) := by decide +kernel
theorem dc_412_32 : decode (sm_cc 412) 32 = .ok (.getfield 499, 3) := by decide +kernel
theorem fr_412_499 : sm_at mt_f (sm_ow 412) 499 = some (499, 14, 49, 0, 2122) := by decide +kernel
theorem dc_412_35 : decode (sm_cc 412) 35 = .ok (.iload_n 2, 1) := by decide +kernel
theorem dc_412_36 : decode (sm_cc 412) 36 = .ok (.laload, 1) := by decide +kernel
theorem dc_412_37 : decode (sm_cc 412) 37 = .ok (.l2i, 1) := by decide +kernel
theorem dc_412_38 : decode (sm_cc 412) 38 = .ok (.istore_n 3, 1) := by decide +kernel
theorem dc_412_39 : decode (sm_cc 412) 39 = .ok (.aload_n 0, 1) := by decide +kernel
theorem dc_412_40 : decode (sm_cc 412) 40 = .ok (.getfield 485, 3) := by decide +kernel
theorem fr_412_485 : sm_at mt_f (sm_ow 412) 485 = some (485, 14, 42, 0, 2115) := by decide +kernel
theorem dc_412_43 : decode (sm_cc 412) 43 = .ok (.iload_n 3, 1) := by decide +kernel
theorem dc_412_44 : decode (sm_cc 412) 44 = .ok (.aaload, 1) := by decide +kernel
theorem dc_412_45 : decode (sm_cc 412) 45 = .ok (.astore 4, 2) := by decide +kernel
theorem dc_412_47 : decode (sm_cc 412) 47 = .ok (.aload 4, 2) := by decide +kernel
theorem dc_412_49 : decode (sm_cc 412) 49 = .ok (.iconst 0, 1) := by decide +kernel
theorem dc_412_50 : decode (sm_cc 412) 50 = .ok (.iload_n 1, 1) := by decide +kernel
theorem dc_412_51 : decode (sm_cc 412) 51 = .ok (.i2l, 1) := by decide +kernel
theorem dc_412_52 : decode (sm_cc 412) 52 = .ok (.lconst 0, 1) := by decide +kernel
theorem dc_412_53 : decode (sm_cc 412) 53 = .ok (.invokevirtual 764, 3) := by decide +kernel
theorem kr_412_764 : sm_at mt_k (sm_ow 412) 764 = some (764, 0, 399, 0, 2924) := by decide +kernel
theorem dc_412_56 : decode (sm_cc 412) 56 = .ok (.istore 5, 2) := by decide +kernel
theorem dc_412_58 : decode (sm_cc 412) 58 = .ok (.iload 5, 2) := by decide +kernel
theorem dc_412_60 : decode (sm_cc 412) 60 = .ok (.ifCond .lt (7), 3) := by decide +kernel
theorem dc_412_63 : decode (sm_cc 412) 63 = .ok (.iload_n 3, 1) := by decide +kernel
theorem dc_412_64 : decode (sm_cc 412) 64 = .ok (.goto (13), 3) := by decide +kernel
theorem dc_412_77 : decode (sm_cc 412) 77 = .ok (.istore 6, 2) := by decide +kernel
theorem dc_412_79 : decode (sm_cc 412) 79 = .ok (.iload 6, 2) := by decide +kernel
theorem dc_412_81 : decode (sm_cc 412) 81 = .ok (.ifCond .ge (10), 3) := by decide +kernel
theorem dc_412_91 : decode (sm_cc 412) 91 = .ok (.aload_n 0, 1) := by decide +kernel
theorem dc_412_92 : decode (sm_cc 412) 92 = .ok (.getfield 485, 3) := by decide +kernel
theorem dc_412_95 : decode (sm_cc 412) 95 = .ok (.iload 6, 2) := by decide +kernel
theorem dc_412_97 : decode (sm_cc 412) 97 = .ok (.aaload, 1) := by decide +kernel
theorem dc_412_98 : decode (sm_cc 412) 98 = .ok (.astore 7, 2) := by decide +kernel
theorem dc_412_100 : decode (sm_cc 412) 100 = .ok (.aload 7, 2) := by decide +kernel
theorem dc_412_102 : decode (sm_cc 412) 102 = .ok (.iconst 0, 1) := by decide +kernel
theorem dc_412_103 : decode (sm_cc 412) 103 = .ok (.iload_n 1, 1) := by decide +kernel
theorem dc_412_104 : decode (sm_cc 412) 104 = .ok (.i2l, 1) := by decide +kernel
theorem dc_412_105 : decode (sm_cc 412) 105 = .ok (.lconst 0, 1) := by decide +kernel
theorem dc_412_106 : decode (sm_cc 412) 106 = .ok (.invokevirtual 764, 3) := by decide +kernel
theorem dc_412_109 : decode (sm_cc 412) 109 = .ok (.istore 8, 2) := by decide +kernel
theorem dc_412_111 : decode (sm_cc 412) 111 = .ok (.aload 4, 2) := by decide +kernel
theorem dc_412_113 : decode (sm_cc 412) 113 = .ok (.getfield 531, 3) := by decide +kernel
theorem fr_412_531 : sm_at mt_f (sm_ow 412) 531 = some (531, 13, 0, 0, 2770) := by decide +kernel
theorem dc_412_116 : decode (sm_cc 412) 116 = .ok (.iconst 4, 1) := by decide +kernel
theorem dc_412_117 : decode (sm_cc 412) 117 = .ok (.if_icmp .eq (41), 3) := by decide +kernel
theorem dc_412_158 : decode (sm_cc 412) 158 = .ok (.aload_n 0, 1) := by decide +kernel
theorem dc_412_159 : decode (sm_cc 412) 159 = .ok (.dup, 1) := by decide +kernel
theorem dc_412_160 : decode (sm_cc 412) 160 = .ok (.getfield 493, 3) := by decide +kernel
theorem dc_412_163 : decode (sm_cc 412) 163 = .ok (.iconst 1, 1) := by decide +kernel
theorem dc_412_164 : decode (sm_cc 412) 164 = .ok (.isub, 1) := by decide +kernel
theorem dc_412_165 : decode (sm_cc 412) 165 = .ok (.putfield 493, 3) := by decide +kernel
theorem dc_412_168 : decode (sm_cc 412) 168 = .ok (.aload_n 0, 1) := by decide +kernel
theorem dc_412_169 : decode (sm_cc 412) 169 = .ok (.aload 7, 2) := by decide +kernel
theorem dc_412_171 : decode (sm_cc 412) 171 = .ok (.getfield 462, 3) := by decide +kernel
theorem fr_412_462 : sm_at mt_f (sm_ow 412) 462 = some (462, 13, 2, 0, 2774) := by decide +kernel
theorem dc_412_174 : decode (sm_cc 412) 174 = .ok (.iload 8, 2) := by decide +kernel
theorem dc_412_176 : decode (sm_cc 412) 176 = .ok (.iaload, 1) := by decide +kernel
theorem dc_412_177 : decode (sm_cc 412) 177 = .ok (.aload 7, 2) := by decide +kernel
theorem dc_412_179 : decode (sm_cc 412) 179 = .ok (.getfield 465, 3) := by decide +kernel
theorem fr_412_465 : sm_at mt_f (sm_ow 412) 465 = some (465, 13, 4, 0, 2778) := by decide +kernel
theorem dc_412_182 : decode (sm_cc 412) 182 = .ok (.iload 8, 2) := by decide +kernel
theorem dc_412_184 : decode (sm_cc 412) 184 = .ok (.laload, 1) := by decide +kernel
theorem dc_412_185 : decode (sm_cc 412) 185 = .ok (.aload 7, 2) := by decide +kernel
theorem dc_412_187 : decode (sm_cc 412) 187 = .ok (.getfield 627, 3) := by decide +kernel
theorem fr_412_627 : sm_at mt_f (sm_ow 412) 627 = some (627, 13, 5, 0, 2780) := by decide +kernel
theorem dc_412_190 : decode (sm_cc 412) 190 = .ok (.iload 8, 2) := by decide +kernel
theorem dc_412_192 : decode (sm_cc 412) 192 = .ok (.laload, 1) := by decide +kernel
theorem dc_412_193 : decode (sm_cc 412) 193 = .ok (.invokevirtual 549, 3) := by decide +kernel
theorem kr_412_549 : sm_at mt_k (sm_ow 412) 549 = some (549, 0, 352, 0, 2668) := by decide +kernel
theorem dc_412_196 : decode (sm_cc 412) 196 = .ok (.iconst 1, 1) := by decide +kernel
theorem dc_412_197 : decode (sm_cc 412) 197 = .ok (.ireturn, 1) := by decide +kernel
theorem rt_412 : sm_rt 412 = some .boolean := by decide +kernel
theorem dc_412_120 : decode (sm_cc 412) 120 = .ok (.iload 5, 2) := by decide +kernel
theorem dc_412_122 : decode (sm_cc 412) 122 = .ok (.ifCond .ge (36), 3) := by decide +kernel
theorem dc_412_67 : decode (sm_cc 412) 67 = .ok (.aload_n 0, 1) := by decide +kernel
theorem dc_412_68 : decode (sm_cc 412) 68 = .ok (.aload 4, 2) := by decide +kernel
theorem dc_412_70 : decode (sm_cc 412) 70 = .ok (.getfield 472, 3) := by decide +kernel
theorem fr_412_472 : sm_at mt_f (sm_ow 412) 472 = some (472, 13, 11, 0, 2788) := by decide +kernel
theorem dc_412_73 : decode (sm_cc 412) 73 = .ok (.iload_n 1, 1) := by decide +kernel
theorem dc_412_74 : decode (sm_cc 412) 74 = .ok (.invokevirtual 777, 3) := by decide +kernel
theorem ow_398 : 14 = sm_ow 398 := by decide +kernel
theorem kr_412_777 : sm_at mt_k (sm_ow 412) 777 = some (777, 0, 398, 0, 2920) := by decide +kernel
theorem np_398 : sm_np 398 = 2 := by decide +kernel
theorem dc_412_125 : decode (sm_cc 412) 125 = .ok (.aload 7, 2) := by decide +kernel
theorem dc_412_127 : decode (sm_cc 412) 127 = .ok (.getfield 462, 3) := by decide +kernel
theorem dc_412_130 : decode (sm_cc 412) 130 = .ok (.iload 8, 2) := by decide +kernel
theorem dc_412_132 : decode (sm_cc 412) 132 = .ok (.iaload, 1) := by decide +kernel
theorem dc_412_133 : decode (sm_cc 412) 133 = .ok (.iconst 3, 1) := by decide +kernel
theorem dc_412_134 : decode (sm_cc 412) 134 = .ok (.if_icmp .ne (24), 3) := by decide +kernel
theorem dc_412_137 : decode (sm_cc 412) 137 = .ok (.aload_n 0, 1) := by decide +kernel
theorem dc_412_138 : decode (sm_cc 412) 138 = .ok (.getfield 485, 3) := by decide +kernel
theorem dc_412_141 : decode (sm_cc 412) 141 = .ok (.aload 7, 2) := by decide +kernel
theorem dc_412_143 : decode (sm_cc 412) 143 = .ok (.getfield 465, 3) := by decide +kernel
theorem dc_412_146 : decode (sm_cc 412) 146 = .ok (.iload 8, 2) := by decide +kernel
theorem dc_412_148 : decode (sm_cc 412) 148 = .ok (.laload, 1) := by decide +kernel
theorem dc_412_149 : decode (sm_cc 412) 149 = .ok (.l2i, 1) := by decide +kernel
theorem dc_412_150 : decode (sm_cc 412) 150 = .ok (.aaload, 1) := by decide +kernel
theorem dc_412_151 : decode (sm_cc 412) 151 = .ok (.getfield 531, 3) := by decide +kernel
theorem dc_412_154 : decode (sm_cc 412) 154 = .ok (.iconst 3, 1) := by decide +kernel
theorem dc_412_155 : decode (sm_cc 412) 155 = .ok (.if_icmp .eq (43), 3) := by decide +kernel
theorem dc_412_198 : decode (sm_cc 412) 198 = .ok (.aload_n 0, 1) := by decide +kernel
theorem dc_412_199 : decode (sm_cc 412) 199 = .ok (.bipush (6), 2) := by decide +kernel
theorem dc_412_201 : decode (sm_cc 412) 201 = .ok (.invokevirtual 686, 3) := by decide +kernel
theorem ow_364 : 14 = sm_ow 364 := by decide +kernel
theorem kr_412_686 : sm_at mt_k (sm_ow 412) 686 = some (686, 0, 364, 0, 2726) := by decide +kernel
theorem np_364 : sm_np 364 = 1 := by decide +kernel
theorem dc_412_204 : decode (sm_cc 412) 204 = .ok (.istore 9, 2) := by decide +kernel
theorem dc_412_206 : decode (sm_cc 412) 206 = .ok (.iload 9, 2) := by decide +kernel
theorem dc_412_208 : decode (sm_cc 412) 208 = .ok (.ifCond .ge (5), 3) := by decide +kernel
theorem dc_412_213 : decode (sm_cc 412) 213 = .ok (.aload_n 0, 1) := by decide +kernel
theorem dc_412_214 : decode (sm_cc 412) 214 = .ok (.getfield 485, 3) := by decide +kernel
theorem dc_412_217 : decode (sm_cc 412) 217 = .ok (.iload 9, 2) := by decide +kernel
theorem dc_412_219 : decode (sm_cc 412) 219 = .ok (.aaload, 1) := by decide +kernel
theorem dc_412_220 : decode (sm_cc 412) 220 = .ok (.aload 7, 2) := by decide +kernel
theorem dc_412_222 : decode (sm_cc 412) 222 = .ok (.getfield 465, 3) := by decide +kernel
theorem dc_412_225 : decode (sm_cc 412) 225 = .ok (.iload 8, 2) := by decide +kernel
theorem dc_412_227 : decode (sm_cc 412) 227 = .ok (.laload, 1) := by decide +kernel
theorem dc_412_228 : decode (sm_cc 412) 228 = .ok (.l2i, 1) := by decide +kernel
theorem dc_412_229 : decode (sm_cc 412) 229 = .ok (.putfield 472, 3) := by decide +kernel
theorem dc_412_232 : decode (sm_cc 412) 232 = .ok (.aload_n 0, 1) := by decide +kernel
theorem dc_412_233 : decode (sm_cc 412) 233 = .ok (.getfield 485, 3) := by decide +kernel
theorem dc_412_236 : decode (sm_cc 412) 236 = .ok (.iload 9, 2) := by decide +kernel
theorem dc_412_238 : decode (sm_cc 412) 238 = .ok (.aaload, 1) := by decide +kernel
theorem dc_412_239 : decode (sm_cc 412) 239 = .ok (.iload_n 3, 1) := by decide +kernel
theorem dc_412_240 : decode (sm_cc 412) 240 = .ok (.putfield 475, 3) := by decide +kernel
theorem fr_412_475 : sm_at mt_f (sm_ow 412) 475 = some (475, 13, 12, 0, 2789) := by decide +kernel
theorem dc_412_243 : decode (sm_cc 412) 243 = .ok (.aload_n 0, 1) := by decide +kernel
theorem dc_412_244 : decode (sm_cc 412) 244 = .ok (.dup, 1) := by decide +kernel
theorem dc_412_245 : decode (sm_cc 412) 245 = .ok (.getfield 493, 3) := by decide +kernel
theorem dc_412_248 : decode (sm_cc 412) 248 = .ok (.iconst 1, 1) := by decide +kernel
theorem dc_412_249 : decode (sm_cc 412) 249 = .ok (.isub, 1) := by decide +kernel
theorem dc_412_250 : decode (sm_cc 412) 250 = .ok (.putfield 493, 3) := by decide +kernel
theorem dc_412_253 : decode (sm_cc 412) 253 = .ok (.aload_n 0, 1) := by decide +kernel
theorem dc_412_254 : decode (sm_cc 412) 254 = .ok (.iconst 3, 1) := by decide +kernel
theorem dc_412_255 : decode (sm_cc 412) 255 = .ok (.iload 9, 2) := by decide +kernel
theorem dc_412_257 : decode (sm_cc 412) 257 = .ok (.i2l, 1) := by decide +kernel
theorem dc_412_258 : decode (sm_cc 412) 258 = .ok (.lconst 0, 1) := by decide +kernel
theorem dc_412_259 : decode (sm_cc 412) 259 = .ok (.invokevirtual 549, 3) := by decide +kernel
theorem dc_412_262 : decode (sm_cc 412) 262 = .ok (.iconst 1, 1) := by decide +kernel
theorem dc_412_263 : decode (sm_cc 412) 263 = .ok (.ireturn, 1) := by decide +kernel
theorem dc_412_211 : decode (sm_cc 412) 211 = .ok (.iconst 0, 1) := by decide +kernel
theorem dc_412_212 : decode (sm_cc 412) 212 = .ok (.ireturn, 1) := by decide +kernel
theorem dc_412_84 : decode (sm_cc 412) 84 = .ok (.aload_n 0, 1) := by decide +kernel
theorem dc_412_85 : decode (sm_cc 412) 85 = .ok (.bipush (9), 2) := by decide +kernel
theorem dc_412_87 : decode (sm_cc 412) 87 = .ok (.invokevirtual 608, 3) := by decide +kernel
theorem kr_412_608 : sm_at mt_k (sm_ow 412) 608 = some (608, 0, 351, 0, 2664) := by decide +kernel
theorem dc_412_90 : decode (sm_cc 412) 90 = .ok (.ireturn, 1) := by decide +kernel
theorem dc_412_16 : decode (sm_cc 412) 16 = .ok (.aload_n 0, 1) := by decide +kernel
theorem dc_412_17 : decode (sm_cc 412) 17 = .ok (.iload_n 2, 1) := by decide +kernel
theorem dc_412_18 : decode (sm_cc 412) 18 = .ok (.iconst 4, 1) := by decide +kernel
theorem dc_412_19 : decode (sm_cc 412) 19 = .ok (.invokevirtual 683, 3) := by decide +kernel
theorem dc_412_22 : decode (sm_cc 412) 22 = .ok (.ifCond .ne (9), 3) := by decide +kernel
theorem dc_412_25 : decode (sm_cc 412) 25 = .ok (.aload_n 0, 1) := by decide +kernel
theorem dc_412_26 : decode (sm_cc 412) 26 = .ok (.iconst 2, 1) := by decide +kernel
theorem dc_412_27 : decode (sm_cc 412) 27 = .ok (.invokevirtual 608, 3) := by decide +kernel
theorem dc_412_30 : decode (sm_cc 412) 30 = .ok (.ireturn, 1) := by decide +kernel
theorem ml_379 : sm_ml 379 = 4 := by decide +kernel
theorem dc_379_0 : decode (sm_cc 379) 0 = .ok (.aload_n 0, 1) := by decide +kernel
theorem dc_379_1 : decode (sm_cc 379) 1 = .ok (.getfield 493, 3) := by decide +kernel
theorem fr_379_493 : sm_at mt_f (sm_ow 379) 493 = some (493, 14, 51, 0, 2124) := by decide +kernel
theorem dc_379_4 : decode (sm_cc 379) 4 = .ok (.iload_n 1, 1) := by decide +kernel
theorem dc_379_5 : decode (sm_cc 379) 5 = .ok (.isub, 1) := by decide +kernel
theorem dc_379_6 : decode (sm_cc 379) 6 = .ok (.iconst 1, 1) := by decide +kernel
theorem dc_379_7 : decode (sm_cc 379) 7 = .ok (.isub, 1) := by decide +kernel
theorem dc_379_8 : decode (sm_cc 379) 8 = .ok (.istore_n 2, 1) := by decide +kernel
theorem dc_379_9 : decode (sm_cc 379) 9 = .ok (.aload_n 0, 1) := by decide +kernel
theorem dc_379_10 : decode (sm_cc 379) 10 = .ok (.getfield 496, 3) := by decide +kernel
theorem fr_379_496 : sm_at mt_f (sm_ow 379) 496 = some (496, 14, 48, 0, 2121) := by decide +kernel
theorem dc_379_13 : decode (sm_cc 379) 13 = .ok (.iload_n 2, 1) := by decide +kernel
theorem dc_379_14 : decode (sm_cc 379) 14 = .ok (.iaload, 1) := by decide +kernel
theorem dc_379_15 : decode (sm_cc 379) 15 = .ok (.iconst 4, 1) := by decide +kernel
theorem dc_379_16 : decode (sm_cc 379) 16 = .ok (.if_icmp .ne (17), 3) := by decide +kernel
theorem dc_379_33 : decode (sm_cc 379) 33 = .ok (.aload_n 0, 1) := by decide +kernel
theorem dc_379_34 : decode (sm_cc 379) 34 = .ok (.getfield 496, 3) := by decide +kernel
theorem dc_379_37 : decode (sm_cc 379) 37 = .ok (.iload_n 2, 1) := by decide +kernel
theorem dc_379_38 : decode (sm_cc 379) 38 = .ok (.iaload, 1) := by decide +kernel
theorem dc_379_39 : decode (sm_cc 379) 39 = .ok (.iconst 3, 1) := by decide +kernel
theorem dc_379_40 : decode (sm_cc 379) 40 = .ok (.if_icmp .eq (9), 3) := by decide +kernel
theorem dc_379_49 : decode (sm_cc 379) 49 = .ok (.aload_n 0, 1) := by decide +kernel
theorem dc_379_50 : decode (sm_cc 379) 50 = .ok (.iload_n 2, 1) := by decide +kernel
theorem dc_379_51 : decode (sm_cc 379) 51 = .ok (.invokevirtual 554, 3) := by decide +kernel
theorem kr_379_554 : sm_at mt_k (sm_ow 379) 554 = some (554, 0, 361, 0, 2714) := by decide +kernel
theorem dc_379_54 : decode (sm_cc 379) 54 = .ok (.astore_n 3, 1) := by decide +kernel
theorem dc_379_55 : decode (sm_cc 379) 55 = .ok (.aload_n 3, 1) := by decide +kernel
theorem dc_379_56 : decode (sm_cc 379) 56 = .ok (.getfield 531, 3) := by decide +kernel
theorem fr_379_531 : sm_at mt_f (sm_ow 379) 531 = some (531, 13, 0, 0, 2770) := by decide +kernel
theorem dc_379_59 : decode (sm_cc 379) 59 = .ok (.tableswitch (68) 3 6 #[29, 61, 68, 45], 29) := by decide +kernel
theorem dc_379_88 : decode (sm_cc 379) 88 = .ok (.aload_n 0, 1) := by decide +kernel
theorem dc_379_89 : decode (sm_cc 379) 89 = .ok (.aload_n 0, 1) := by decide +kernel
theorem dc_379_90 : decode (sm_cc 379) 90 = .ok (.getfield 499, 3) := by decide +kernel
theorem fr_379_499 : sm_at mt_f (sm_ow 379) 499 = some (499, 14, 49, 0, 2122) := by decide +kernel
theorem dc_379_93 : decode (sm_cc 379) 93 = .ok (.iload_n 2, 1) := by decide +kernel
theorem dc_379_94 : decode (sm_cc 379) 94 = .ok (.laload, 1) := by decide +kernel
theorem dc_379_95 : decode (sm_cc 379) 95 = .ok (.l2i, 1) := by decide +kernel
theorem dc_379_96 : decode (sm_cc 379) 96 = .ok (.iload_n 2, 1) := by decide +kernel
theorem dc_379_97 : decode (sm_cc 379) 97 = .ok (.iload_n 1, 1) := by decide +kernel
theorem dc_379_98 : decode (sm_cc 379) 98 = .ok (.iconst (-1), 1) := by decide +kernel
theorem dc_379_99 : decode (sm_cc 379) 99 = .ok (.iconst 0, 1) := by decide +kernel
theorem dc_379_100 : decode (sm_cc 379) 100 = .ok (.invokevirtual 783, 3) := by decide +kernel
theorem ow_396 : 14 = sm_ow 396 := by decide +kernel
theorem kr_379_783 : sm_at mt_k (sm_ow 379) 783 = some (783, 0, 396, 0, 2912) := by decide +kernel
theorem np_396 : sm_np 396 = 5 := by decide +kernel
theorem dc_379_103 : decode (sm_cc 379) 103 = .ok (.ireturn, 1) := by decide +kernel
theorem rt_379 : sm_rt 379 = some .boolean := by decide +kernel
theorem dc_379_120 : decode (sm_cc 379) 120 = .ok (.aload_n 0, 1) := by decide +kernel
theorem dc_379_121 : decode (sm_cc 379) 121 = .ok (.iload_n 2, 1) := by decide +kernel
theorem dc_379_122 : decode (sm_cc 379) 122 = .ok (.iload_n 1, 1) := by decide +kernel
theorem dc_379_123 : decode (sm_cc 379) 123 = .ok (.invokevirtual 787, 3) := by decide +kernel
theorem ow_397 : 14 = sm_ow 397 := by decide +kernel
theorem kr_379_787 : sm_at mt_k (sm_ow 379) 787 = some (787, 0, 397, 0, 2916) := by decide +kernel
theorem np_397 : sm_np 397 = 2 := by decide +kernel
theorem dc_379_126 : decode (sm_cc 379) 126 = .ok (.ireturn, 1) := by decide +kernel
theorem dc_379_104 : decode (sm_cc 379) 104 = .ok (.aload_n 0, 1) := by decide +kernel
theorem dc_379_105 : decode (sm_cc 379) 105 = .ok (.aload_n 3, 1) := by decide +kernel
theorem dc_379_106 : decode (sm_cc 379) 106 = .ok (.getfield 472, 3) := by decide +kernel
theorem fr_379_472 : sm_at mt_f (sm_ow 379) 472 = some (472, 13, 11, 0, 2788) := by decide +kernel
theorem dc_379_109 : decode (sm_cc 379) 109 = .ok (.iload_n 2, 1) := by decide +kernel
theorem dc_379_110 : decode (sm_cc 379) 110 = .ok (.iload_n 1, 1) := by decide +kernel
theorem dc_379_111 : decode (sm_cc 379) 111 = .ok (.aload_n 3, 1) := by decide +kernel
theorem dc_379_112 : decode (sm_cc 379) 112 = .ok (.getfield 475, 3) := by decide +kernel
theorem fr_379_475 : sm_at mt_f (sm_ow 379) 475 = some (475, 13, 12, 0, 2789) := by decide +kernel
theorem dc_379_115 : decode (sm_cc 379) 115 = .ok (.iconst 0, 1) := by decide +kernel
theorem dc_379_116 : decode (sm_cc 379) 116 = .ok (.invokevirtual 783, 3) := by decide +kernel
theorem dc_379_119 : decode (sm_cc 379) 119 = .ok (.ireturn, 1) := by decide +kernel
theorem dc_379_127 : decode (sm_cc 379) 127 = .ok (.aload_n 0, 1) := by decide +kernel
theorem dc_379_128 : decode (sm_cc 379) 128 = .ok (.iconst 2, 1) := by decide +kernel
theorem dc_379_129 : decode (sm_cc 379) 129 = .ok (.invokevirtual 608, 3) := by decide +kernel
theorem kr_379_608 : sm_at mt_k (sm_ow 379) 608 = some (608, 0, 351, 0, 2664) := by decide +kernel
theorem dc_379_132 : decode (sm_cc 379) 132 = .ok (.ireturn, 1) := by decide +kernel
theorem dc_379_43 : decode (sm_cc 379) 43 = .ok (.aload_n 0, 1) := by decide +kernel
theorem dc_379_44 : decode (sm_cc 379) 44 = .ok (.iconst 2, 1) := by decide +kernel
theorem dc_379_45 : decode (sm_cc 379) 45 = .ok (.invokevirtual 608, 3) := by decide +kernel
theorem dc_379_48 : decode (sm_cc 379) 48 = .ok (.ireturn, 1) := by decide +kernel
theorem dc_379_19 : decode (sm_cc 379) 19 = .ok (.aload_n 0, 1) := by decide +kernel
theorem dc_379_20 : decode (sm_cc 379) 20 = .ok (.aload_n 0, 1) := by decide +kernel
theorem dc_379_21 : decode (sm_cc 379) 21 = .ok (.getfield 499, 3) := by decide +kernel
theorem dc_379_24 : decode (sm_cc 379) 24 = .ok (.iload_n 2, 1) := by decide +kernel
theorem dc_379_25 : decode (sm_cc 379) 25 = .ok (.laload, 1) := by decide +kernel
theorem dc_379_26 : decode (sm_cc 379) 26 = .ok (.l2i, 1) := by decide +kernel
theorem dc_379_27 : decode (sm_cc 379) 27 = .ok (.iload_n 2, 1) := by decide +kernel
theorem dc_379_28 : decode (sm_cc 379) 28 = .ok (.iload_n 1, 1) := by decide +kernel
theorem dc_379_29 : decode (sm_cc 379) 29 = .ok (.invokevirtual 780, 3) := by decide +kernel
theorem ow_380 : 14 = sm_ow 380 := by decide +kernel
theorem kr_379_780 : sm_at mt_k (sm_ow 379) 780 = some (780, 0, 380, 0, 2840) := by decide +kernel
theorem np_380 : sm_np 380 = 3 := by decide +kernel
theorem dc_379_32 : decode (sm_cc 379) 32 = .ok (.ireturn, 1) := by decide +kernel
theorem ml_405 : sm_ml 405 = 10 := by decide +kernel
theorem dc_405_0 : decode (sm_cc 405) 0 = .ok (.iload_n 1, 1) := by decide +kernel
theorem dc_405_1 : decode (sm_cc 405) 1 = .ok (.bipush (43), 2) := by decide +kernel
theorem dc_405_3 : decode (sm_cc 405) 3 = .ok (.if_icmp .ne (30), 3) := by decide +kernel
theorem dc_405_6 : decode (sm_cc 405) 6 = .ok (.aload_n 0, 1) := by decide +kernel
theorem dc_405_7 : decode (sm_cc 405) 7 = .ok (.getfield 496, 3) := by decide +kernel
theorem fr_405_496 : sm_at mt_f (sm_ow 405) 496 = some (496, 14, 48, 0, 2121) := by decide +kernel
theorem dc_405_10 : decode (sm_cc 405) 10 = .ok (.iload_n 2, 1) := by decide +kernel
theorem dc_405_11 : decode (sm_cc 405) 11 = .ok (.iaload, 1) := by decide +kernel
theorem dc_405_12 : decode (sm_cc 405) 12 = .ok (.iconst 2, 1) := by decide +kernel
theorem dc_405_13 : decode (sm_cc 405) 13 = .ok (.if_icmp .ne (20), 3) := by decide +kernel
theorem dc_405_33 : decode (sm_cc 405) 33 = .ok (.iload_n 1, 1) := by decide +kernel
theorem dc_405_34 : decode (sm_cc 405) 34 = .ok (.bipush (43), 2) := by decide +kernel
theorem dc_405_36 : decode (sm_cc 405) 36 = .ok (.if_icmp .ne (28), 3) := by decide +kernel
theorem dc_405_39 : decode (sm_cc 405) 39 = .ok (.aload_n 0, 1) := by decide +kernel
theorem dc_405_40 : decode (sm_cc 405) 40 = .ok (.iload_n 2, 1) := by decide +kernel
theorem dc_405_41 : decode (sm_cc 405) 41 = .ok (.iconst 1, 1) := by decide +kernel
theorem dc_405_42 : decode (sm_cc 405) 42 = .ok (.invokevirtual 683, 3) := by decide +kernel
theorem kr_405_683 : sm_at mt_k (sm_ow 405) 683 = some (683, 0, 363, 0, 2722) := by decide +kernel
theorem dc_405_45 : decode (sm_cc 405) 45 = .ok (.ifCond .eq (19), 3) := by decide +kernel
theorem dc_405_48 : decode (sm_cc 405) 48 = .ok (.aload_n 0, 1) := by decide +kernel
theorem dc_405_49 : decode (sm_cc 405) 49 = .ok (.iload_n 3, 1) := by decide +kernel
theorem dc_405_50 : decode (sm_cc 405) 50 = .ok (.iconst 1, 1) := by decide +kernel
theorem dc_405_51 : decode (sm_cc 405) 51 = .ok (.invokevirtual 683, 3) := by decide +kernel
theorem dc_405_54 : decode (sm_cc 405) 54 = .ok (.ifCond .eq (10), 3) := by decide +kernel
theorem dc_405_57 : decode (sm_cc 405) 57 = .ok (.aload_n 0, 1) := by decide +kernel
theorem dc_405_58 : decode (sm_cc 405) 58 = .ok (.iload_n 2, 1) := by decide +kernel
theorem dc_405_59 : decode (sm_cc 405) 59 = .ok (.iload_n 3, 1) := by decide +kernel
theorem dc_405_60 : decode (sm_cc 405) 60 = .ok (.invokevirtual 737, 3) := by decide +kernel
theorem ow_407 : 14 = sm_ow 407 := by decide +kernel
theorem kr_405_737 : sm_at mt_k (sm_ow 405) 737 = some (737, 0, 407, 0, 2957) := by decide +kernel
theorem np_407 : sm_np 407 = 2 := by decide +kernel
theorem dc_405_63 : decode (sm_cc 405) 63 = .ok (.ireturn, 1) := by decide +kernel
theorem rt_405 : sm_rt 405 = some .boolean := by decide +kernel
theorem dc_405_64 : decode (sm_cc 405) 64 = .ok (.aload_n 0, 1) := by decide +kernel
theorem dc_405_65 : decode (sm_cc 405) 65 = .ok (.getfield 496, 3) := by decide +kernel
theorem dc_405_68 : decode (sm_cc 405) 68 = .ok (.iload_n 2, 1) := by decide +kernel
theorem dc_405_69 : decode (sm_cc 405) 69 = .ok (.iaload, 1) := by decide +kernel
theorem dc_405_70 : decode (sm_cc 405) 70 = .ok (.iconst 1, 1) := by decide +kernel
theorem dc_405_71 : decode (sm_cc 405) 71 = .ok (.if_icmp .ne (13), 3) := by decide +kernel
theorem dc_405_84 : decode (sm_cc 405) 84 = .ok (.aload_n 0, 1) := by decide +kernel
theorem dc_405_85 : decode (sm_cc 405) 85 = .ok (.iconst 2, 1) := by decide +kernel
theorem dc_405_86 : decode (sm_cc 405) 86 = .ok (.invokevirtual 608, 3) := by decide +kernel
theorem kr_405_608 : sm_at mt_k (sm_ow 405) 608 = some (608, 0, 351, 0, 2664) := by decide +kernel
theorem dc_405_89 : decode (sm_cc 405) 89 = .ok (.ireturn, 1) := by decide +kernel
theorem dc_405_74 : decode (sm_cc 405) 74 = .ok (.aload_n 0, 1) := by decide +kernel
theorem dc_405_75 : decode (sm_cc 405) 75 = .ok (.getfield 496, 3) := by decide +kernel
theorem dc_405_78 : decode (sm_cc 405) 78 = .ok (.iload_n 3, 1) := by decide +kernel
theorem dc_405_79 : decode (sm_cc 405) 79 = .ok (.iaload, 1) := by decide +kernel
theorem dc_405_80 : decode (sm_cc 405) 80 = .ok (.iconst 1, 1) := by decide +kernel
theorem dc_405_81 : decode (sm_cc 405) 81 = .ok (.if_icmp .eq (9), 3) := by decide +kernel
theorem dc_405_90 : decode (sm_cc 405) 90 = .ok (.aload_n 0, 1) := by decide +kernel
theorem dc_405_91 : decode (sm_cc 405) 91 = .ok (.getfield 499, 3) := by decide +kernel
theorem fr_405_499 : sm_at mt_f (sm_ow 405) 499 = some (499, 14, 49, 0, 2122) := by decide +kernel
theorem dc_405_94 : decode (sm_cc 405) 94 = .ok (.iload_n 2, 1) := by decide +kernel
theorem dc_405_95 : decode (sm_cc 405) 95 = .ok (.laload, 1) := by decide +kernel
theorem dc_405_96 : decode (sm_cc 405) 96 = .ok (.lstore 4, 2) := by decide +kernel
theorem dc_405_98 : decode (sm_cc 405) 98 = .ok (.aload_n 0, 1) := by decide +kernel
theorem dc_405_99 : decode (sm_cc 405) 99 = .ok (.getfield 499, 3) := by decide +kernel
theorem dc_405_102 : decode (sm_cc 405) 102 = .ok (.iload_n 3, 1) := by decide +kernel
theorem dc_405_103 : decode (sm_cc 405) 103 = .ok (.laload, 1) := by decide +kernel
theorem dc_405_104 : decode (sm_cc 405) 104 = .ok (.lstore 6, 2) := by decide +kernel
theorem dc_405_106 : decode (sm_cc 405) 106 = .ok (.iload_n 1, 1) := by decide +kernel
theorem dc_405_107 : decode (sm_cc 405) 107 = .ok (.tableswitch (177) 37 45 #[139, 177, 177, 177, 177, 109, 49, 177, 79], 49) := by decide +kernel
theorem dc_405_156 : decode (sm_cc 405) 156 = .ok (.lload 4, 2) := by decide +kernel
theorem dc_405_158 : decode (sm_cc 405) 158 = .ok (.lload 6, 2) := by decide +kernel
theorem dc_405_160 : decode (sm_cc 405) 160 = .ok (.ladd, 1) := by decide +kernel
theorem dc_405_161 : decode (sm_cc 405) 161 = .ok (.lstore 8, 2) := by decide +kernel
theorem dc_405_163 : decode (sm_cc 405) 163 = .ok (.lload 4, 2) := by decide +kernel
theorem dc_405_165 : decode (sm_cc 405) 165 = .ok (.lload 8, 2) := by decide +kernel
theorem dc_405_167 : decode (sm_cc 405) 167 = .ok (.lxor, 1) := by decide +kernel
theorem dc_405_168 : decode (sm_cc 405) 168 = .ok (.lload 6, 2) := by decide +kernel
theorem dc_405_170 : decode (sm_cc 405) 170 = .ok (.lload 8, 2) := by decide +kernel
theorem dc_405_172 : decode (sm_cc 405) 172 = .ok (.lxor, 1) := by decide +kernel
theorem dc_405_173 : decode (sm_cc 405) 173 = .ok (.land, 1) := by decide +kernel
theorem dc_405_174 : decode (sm_cc 405) 174 = .ok (.lconst 0, 1) := by decide +kernel
theorem dc_405_175 : decode (sm_cc 405) 175 = .ok (.lcmp, 1) := by decide +kernel
theorem dc_405_176 : decode (sm_cc 405) 176 = .ok (.ifCond .ge (155), 3) := by decide +kernel
theorem dc_405_331 : decode (sm_cc 405) 331 = .ok (.aload_n 0, 1) := by decide +kernel
theorem dc_405_332 : decode (sm_cc 405) 332 = .ok (.dup, 1) := by decide +kernel
theorem dc_405_333 : decode (sm_cc 405) 333 = .ok (.getfield 493, 3) := by decide +kernel
theorem fr_405_493 : sm_at mt_f (sm_ow 405) 493 = some (493, 14, 51, 0, 2124) := by decide +kernel
theorem dc_405_336 : decode (sm_cc 405) 336 = .ok (.iconst 2, 1) := by decide +kernel
theorem dc_405_337 : decode (sm_cc 405) 337 = .ok (.isub, 1) := by decide +kernel
theorem dc_405_338 : decode (sm_cc 405) 338 = .ok (.putfield 493, 3) := by decide +kernel
theorem dc_405_341 : decode (sm_cc 405) 341 = .ok (.aload_n 0, 1) := by decide +kernel
theorem dc_405_342 : decode (sm_cc 405) 342 = .ok (.lload 8, 2) := by decide +kernel
theorem dc_405_344 : decode (sm_cc 405) 344 = .ok (.invokevirtual 613, 3) := by decide +kernel
theorem kr_405_613 : sm_at mt_k (sm_ow 405) 613 = some (613, 0, 353, 0, 2672) := by decide +kernel
theorem dc_405_347 : decode (sm_cc 405) 347 = .ok (.iconst 1, 1) := by decide +kernel
theorem dc_405_348 : decode (sm_cc 405) 348 = .ok (.ireturn, 1) := by decide +kernel
theorem dc_405_179 : decode (sm_cc 405) 179 = .ok (.aload_n 0, 1) := by decide +kernel
theorem dc_405_180 : decode (sm_cc 405) 180 = .ok (.bipush (6), 2) := by decide +kernel
theorem dc_405_182 : decode (sm_cc 405) 182 = .ok (.invokevirtual 608, 3) := by decide +kernel
theorem dc_405_185 : decode (sm_cc 405) 185 = .ok (.ireturn, 1) := by decide +kernel
theorem dc_405_16 : decode (sm_cc 405) 16 = .ok (.aload_n 0, 1) := by decide +kernel
theorem dc_405_17 : decode (sm_cc 405) 17 = .ok (.getfield 496, 3) := by decide +kernel
theorem dc_405_20 : decode (sm_cc 405) 20 = .ok (.iload_n 3, 1) := by decide +kernel
theorem dc_405_21 : decode (sm_cc 405) 21 = .ok (.iaload, 1) := by decide +kernel
theorem dc_405_22 : decode (sm_cc 405) 22 = .ok (.iconst 2, 1) := by decide +kernel
theorem dc_405_23 : decode (sm_cc 405) 23 = .ok (.if_icmp .ne (10), 3) := by decide +kernel
theorem dc_405_26 : decode (sm_cc 405) 26 = .ok (.aload_n 0, 1) := by decide +kernel
theorem dc_405_27 : decode (sm_cc 405) 27 = .ok (.iload_n 2, 1) := by decide +kernel
theorem dc_405_28 : decode (sm_cc 405) 28 = .ok (.iload_n 3, 1) := by decide +kernel
theorem dc_405_29 : decode (sm_cc 405) 29 = .ok (.invokevirtual 734, 3) := by decide +kernel
theorem ow_406 : 14 = sm_ow 406 := by decide +kernel
theorem kr_405_734 : sm_at mt_k (sm_ow 405) 734 = some (734, 0, 406, 0, 2953) := by decide +kernel
theorem np_406 : sm_np 406 = 2 := by decide +kernel
theorem dc_405_32 : decode (sm_cc 405) 32 = .ok (.ireturn, 1) := by decide +kernel
theorem dc_405_186 : decode (sm_cc 405) 186 = .ok (.lload 4, 2) := by decide +kernel
theorem dc_405_188 : decode (sm_cc 405) 188 = .ok (.lload 6, 2) := by decide +kernel
theorem dc_405_190 : decode (sm_cc 405) 190 = .ok (.lsub, 1) := by decide +kernel
theorem dc_405_191 : decode (sm_cc 405) 191 = .ok (.lstore 8, 2) := by decide +kernel
theorem dc_405_193 : decode (sm_cc 405) 193 = .ok (.lload 4, 2) := by decide +kernel
theorem dc_405_195 : decode (sm_cc 405) 195 = .ok (.lload 6, 2) := by decide +kernel
theorem dc_405_197 : decode (sm_cc 405) 197 = .ok (.lxor, 1) := by decide +kernel
theorem dc_405_198 : decode (sm_cc 405) 198 = .ok (.lload 4, 2) := by decide +kernel
theorem dc_405_200 : decode (sm_cc 405) 200 = .ok (.lload 8, 2) := by decide +kernel
theorem dc_405_202 : decode (sm_cc 405) 202 = .ok (.lxor, 1) := by decide +kernel
theorem dc_405_203 : decode (sm_cc 405) 203 = .ok (.land, 1) := by decide +kernel
theorem dc_405_204 : decode (sm_cc 405) 204 = .ok (.lconst 0, 1) := by decide +kernel
theorem dc_405_205 : decode (sm_cc 405) 205 = .ok (.lcmp, 1) := by decide +kernel
theorem dc_405_206 : decode (sm_cc 405) 206 = .ok (.ifCond .ge (125), 3) := by decide +kernel
theorem dc_405_209 : decode (sm_cc 405) 209 = .ok (.aload_n 0, 1) := by decide +kernel
theorem dc_405_210 : decode (sm_cc 405) 210 = .ok (.bipush (6), 2) := by decide +kernel
theorem dc_405_212 : decode (sm_cc 405) 212 = .ok (.invokevirtual 608, 3) := by decide +kernel
theorem dc_405_215 : decode (sm_cc 405) 215 = .ok (.ireturn, 1) := by decide +kernel
theorem dc_405_216 : decode (sm_cc 405) 216 = .ok (.lload 4, 2) := by decide +kernel
theorem dc_405_218 : decode (sm_cc 405) 218 = .ok (.lload 6, 2) := by decide +kernel
theorem dc_405_220 : decode (sm_cc 405) 220 = .ok (.lmul, 1) := by decide +kernel
theorem dc_405_221 : decode (sm_cc 405) 221 = .ok (.lstore 8, 2) := by decide +kernel
theorem dc_405_223 : decode (sm_cc 405) 223 = .ok (.lload 4, 2) := by decide +kernel
theorem dc_405_225 : decode (sm_cc 405) 225 = .ok (.lload 6, 2) := by decide +kernel
theorem dc_405_227 : decode (sm_cc 405) 227 = .ok (.invokestatic 740, 3) := by decide +kernel
theorem kr_405_740 : sm_at mt_k (sm_ow 405) 740 = some (740, 2, 408, 0, 2961) := by decide +kernel
theorem np_408 : sm_np 408 = 2 := by decide +kernel
theorem dc_405_230 : decode (sm_cc 405) 230 = .ok (.lload 8, 2) := by decide +kernel
theorem dc_405_232 : decode (sm_cc 405) 232 = .ok (.bipush (63), 2) := by decide +kernel
theorem dc_405_234 : decode (sm_cc 405) 234 = .ok (.lshr, 1) := by decide +kernel
theorem dc_405_235 : decode (sm_cc 405) 235 = .ok (.lcmp, 1) := by decide +kernel
theorem dc_405_236 : decode (sm_cc 405) 236 = .ok (.ifCond .eq (95), 3) := by decide +kernel
theorem dc_405_239 : decode (sm_cc 405) 239 = .ok (.aload_n 0, 1) := by decide +kernel
theorem dc_405_240 : decode (sm_cc 405) 240 = .ok (.bipush (6), 2) := by decide +kernel
theorem dc_405_242 : decode (sm_cc 405) 242 = .ok (.invokevirtual 608, 3) := by decide +kernel
theorem dc_405_245 : decode (sm_cc 405) 245 = .ok (.ireturn, 1) := by decide +kernel
theorem dc_405_246 : decode (sm_cc 405) 246 = .ok (.lload 6, 2) := by decide +kernel
theorem dc_405_248 : decode (sm_cc 405) 248 = .ok (.lconst 0, 1) := by decide +kernel
theorem dc_405_249 : decode (sm_cc 405) 249 = .ok (.lcmp, 1) := by decide +kernel
theorem dc_405_250 : decode (sm_cc 405) 250 = .ok (.ifCond .ne (9), 3) := by decide +kernel
theorem dc_405_259 : decode (sm_cc 405) 259 = .ok (.lload 6, 2) := by decide +kernel
theorem dc_405_261 : decode (sm_cc 405) 261 = .ok (.ldc2_w 744, 3) := by decide +kernel
theorem cj_405_744 : sm_at mt_cj (sm_ow 405) 744 = some (744, (-1), 2965) := by decide +kernel
theorem dc_405_264 : decode (sm_cc 405) 264 = .ok (.lcmp, 1) := by decide +kernel
theorem dc_405_265 : decode (sm_cc 405) 265 = .ok (.ifCond .ne (7), 3) := by decide +kernel
theorem dc_405_272 : decode (sm_cc 405) 272 = .ok (.lload 4, 2) := by decide +kernel
theorem dc_405_274 : decode (sm_cc 405) 274 = .ok (.lload 6, 2) := by decide +kernel
theorem dc_405_276 : decode (sm_cc 405) 276 = .ok (.invokestatic 746, 3) := by decide +kernel
theorem kr_405_746 : sm_at mt_k (sm_ow 405) 746 = some (746, 2, 202, 0, 2966) := by decide +kernel
theorem dc_405_279 : decode (sm_cc 405) 279 = .ok (.lstore 8, 2) := by decide +kernel
theorem dc_405_281 : decode (sm_cc 405) 281 = .ok (.goto (50), 3) := by decide +kernel
theorem dc_405_268 : decode (sm_cc 405) 268 = .ok (.lconst 0, 1) := by decide +kernel
theorem dc_405_269 : decode (sm_cc 405) 269 = .ok (.goto (10), 3) := by decide +kernel
theorem dc_405_253 : decode (sm_cc 405) 253 = .ok (.aload_n 0, 1) := by decide +kernel
theorem dc_405_254 : decode (sm_cc 405) 254 = .ok (.iconst 5, 1) := by decide +kernel
theorem dc_405_255 : decode (sm_cc 405) 255 = .ok (.invokevirtual 608, 3) := by decide +kernel
theorem dc_405_258 : decode (sm_cc 405) 258 = .ok (.ireturn, 1) := by decide +kernel
theorem dc_405_284 : decode (sm_cc 405) 284 = .ok (.lload 6, 2) := by decide +kernel
theorem dc_405_286 : decode (sm_cc 405) 286 = .ok (.lconst 0, 1) := by decide +kernel
theorem dc_405_287 : decode (sm_cc 405) 287 = .ok (.lcmp, 1) := by decide +kernel
theorem dc_405_288 : decode (sm_cc 405) 288 = .ok (.ifCond .ne (9), 3) := by decide +kernel
theorem dc_405_297 : decode (sm_cc 405) 297 = .ok (.lload 4, 2) := by decide +kernel
theorem dc_405_299 : decode (sm_cc 405) 299 = .ok (.ldc2_w 645, 3) := by decide +kernel
theorem cj_405_645 : sm_at mt_cj (sm_ow 405) 645 = some (645, (-9223372036854775808), 2967) := by decide +kernel
theorem dc_405_302 : decode (sm_cc 405) 302 = .ok (.lcmp, 1) := by decide +kernel
theorem dc_405_303 : decode (sm_cc 405) 303 = .ok (.ifCond .ne (19), 3) := by decide +kernel
theorem dc_405_322 : decode (sm_cc 405) 322 = .ok (.lload 4, 2) := by decide +kernel
theorem dc_405_324 : decode (sm_cc 405) 324 = .ok (.lload 6, 2) := by decide +kernel
theorem dc_405_326 : decode (sm_cc 405) 326 = .ok (.invokestatic 749, 3) := by decide +kernel
theorem kr_405_749 : sm_at mt_k (sm_ow 405) 749 = some (749, 2, 200, 0, 2968) := by decide +kernel
theorem dc_405_329 : decode (sm_cc 405) 329 = .ok (.lstore 8, 2) := by decide +kernel
theorem dc_405_306 : decode (sm_cc 405) 306 = .ok (.lload 6, 2) := by decide +kernel
theorem dc_405_308 : decode (sm_cc 405) 308 = .ok (.ldc2_w 744, 3) := by decide +kernel
theorem dc_405_311 : decode (sm_cc 405) 311 = .ok (.lcmp, 1) := by decide +kernel
theorem dc_405_312 : decode (sm_cc 405) 312 = .ok (.ifCond .ne (10), 3) := by decide +kernel
theorem dc_405_315 : decode (sm_cc 405) 315 = .ok (.aload_n 0, 1) := by decide +kernel
theorem dc_405_316 : decode (sm_cc 405) 316 = .ok (.bipush (6), 2) := by decide +kernel
theorem dc_405_318 : decode (sm_cc 405) 318 = .ok (.invokevirtual 608, 3) := by decide +kernel
theorem dc_405_321 : decode (sm_cc 405) 321 = .ok (.ireturn, 1) := by decide +kernel
theorem dc_405_291 : decode (sm_cc 405) 291 = .ok (.aload_n 0, 1) := by decide +kernel
theorem dc_405_292 : decode (sm_cc 405) 292 = .ok (.iconst 5, 1) := by decide +kernel
theorem dc_405_293 : decode (sm_cc 405) 293 = .ok (.invokevirtual 608, 3) := by decide +kernel
theorem dc_405_296 : decode (sm_cc 405) 296 = .ok (.ireturn, 1) := by decide +kernel
theorem ml_410 : sm_ml 410 = 5 := by decide +kernel
theorem dc_410_0 : decode (sm_cc 410) 0 = .ok (.aload_n 1, 1) := by decide +kernel
theorem dc_410_1 : decode (sm_cc 410) 1 = .ok (.getfield 531, 3) := by decide +kernel
theorem fr_410_531 : sm_at mt_f (sm_ow 410) 531 = some (531, 13, 0, 0, 2770) := by decide +kernel
theorem dc_410_4 : decode (sm_cc 410) 4 = .ok (.iconst 2, 1) := by decide +kernel
theorem dc_410_5 : decode (sm_cc 410) 5 = .ok (.if_icmp .ne (68), 3) := by decide +kernel
theorem dc_410_73 : decode (sm_cc 410) 73 = .ok (.aload_n 0, 1) := by decide +kernel
theorem dc_410_74 : decode (sm_cc 410) 74 = .ok (.getfield 496, 3) := by decide +kernel
theorem fr_410_496 : sm_at mt_f (sm_ow 410) 496 = some (496, 14, 48, 0, 2121) := by decide +kernel
theorem dc_410_77 : decode (sm_cc 410) 77 = .ok (.iload_n 2, 1) := by decide +kernel
theorem dc_410_78 : decode (sm_cc 410) 78 = .ok (.iaload, 1) := by decide +kernel
theorem dc_410_79 : decode (sm_cc 410) 79 = .ok (.iconst 1, 1) := by decide +kernel
theorem dc_410_80 : decode (sm_cc 410) 80 = .ok (.if_icmp .eq (9), 3) := by decide +kernel
theorem dc_410_89 : decode (sm_cc 410) 89 = .ok (.aload_n 0, 1) := by decide +kernel
theorem dc_410_90 : decode (sm_cc 410) 90 = .ok (.getfield 499, 3) := by decide +kernel
theorem fr_410_499 : sm_at mt_f (sm_ow 410) 499 = some (499, 14, 49, 0, 2122) := by decide +kernel
theorem dc_410_93 : decode (sm_cc 410) 93 = .ok (.iload_n 2, 1) := by decide +kernel
theorem dc_410_94 : decode (sm_cc 410) 94 = .ok (.laload, 1) := by decide +kernel
theorem dc_410_95 : decode (sm_cc 410) 95 = .ok (.lconst 0, 1) := by decide +kernel
theorem dc_410_96 : decode (sm_cc 410) 96 = .ok (.lcmp, 1) := by decide +kernel
theorem dc_410_97 : decode (sm_cc 410) 97 = .ok (.ifCond .ge (18), 3) := by decide +kernel
theorem dc_410_115 : decode (sm_cc 410) 115 = .ok (.aload_n 0, 1) := by decide +kernel
theorem dc_410_116 : decode (sm_cc 410) 116 = .ok (.getfield 499, 3) := by decide +kernel
theorem dc_410_119 : decode (sm_cc 410) 119 = .ok (.iload_n 2, 1) := by decide +kernel
theorem dc_410_120 : decode (sm_cc 410) 120 = .ok (.laload, 1) := by decide +kernel
theorem dc_410_121 : decode (sm_cc 410) 121 = .ok (.lstore_n 3, 1) := by decide +kernel
theorem dc_410_122 : decode (sm_cc 410) 122 = .ok (.lload_n 3, 1) := by decide +kernel
theorem dc_410_123 : decode (sm_cc 410) 123 = .ok (.lconst 0, 1) := by decide +kernel
theorem dc_410_124 : decode (sm_cc 410) 124 = .ok (.aload_n 1, 1) := by decide +kernel
theorem dc_410_125 : decode (sm_cc 410) 125 = .ok (.getfield 459, 3) := by decide +kernel
theorem fr_410_459 : sm_at mt_f (sm_ow 410) 459 = some (459, 13, 1, 0, 2772) := by decide +kernel
theorem dc_410_128 : decode (sm_cc 410) 128 = .ok (.iconst 1, 1) := by decide +kernel
theorem dc_410_129 : decode (sm_cc 410) 129 = .ok (.isub, 1) := by decide +kernel
theorem dc_410_130 : decode (sm_cc 410) 130 = .ok (.i2l, 1) := by decide +kernel
theorem dc_410_131 : decode (sm_cc 410) 131 = .ok (.invokestatic 680, 3) := by decide +kernel
theorem kr_410_680 : sm_at mt_k (sm_ow 410) 680 = some (680, 2, 284, 0, 2313) := by decide +kernel
theorem dc_410_134 : decode (sm_cc 410) 134 = .ok (.ifCond .eq (8), 3) := by decide +kernel
theorem dc_410_137 : decode (sm_cc 410) 137 = .ok (.lload_n 3, 1) := by decide +kernel
theorem dc_410_138 : decode (sm_cc 410) 138 = .ok (.l2i, 1) := by decide +kernel
theorem dc_410_139 : decode (sm_cc 410) 139 = .ok (.goto (8), 3) := by decide +kernel
theorem dc_410_147 : decode (sm_cc 410) 147 = .ok (.ireturn, 1) := by decide +kernel
theorem rt_410 : sm_rt 410 = some .int := by decide +kernel
theorem dc_410_142 : decode (sm_cc 410) 142 = .ok (.aload_n 0, 1) := by decide +kernel
theorem dc_410_143 : decode (sm_cc 410) 143 = .ok (.iconst 3, 1) := by decide +kernel
theorem dc_410_144 : decode (sm_cc 410) 144 = .ok (.invokevirtual 762, 3) := by decide +kernel
theorem ow_411 : 14 = sm_ow 411 := by decide +kernel
theorem kr_410_762 : sm_at mt_k (sm_ow 410) 762 = some (762, 0, 411, 0, 2977) := by decide +kernel
theorem np_411 : sm_np 411 = 1 := by decide +kernel
theorem dc_410_100 : decode (sm_cc 410) 100 = .ok (.aload_n 0, 1) := by decide +kernel
theorem dc_410_101 : decode (sm_cc 410) 101 = .ok (.getfield 499, 3) := by decide +kernel
theorem dc_410_104 : decode (sm_cc 410) 104 = .ok (.iload_n 2, 1) := by decide +kernel
theorem dc_410_105 : decode (sm_cc 410) 105 = .ok (.laload, 1) := by decide +kernel
theorem dc_410_106 : decode (sm_cc 410) 106 = .ok (.aload_n 1, 1) := by decide +kernel
theorem dc_410_107 : decode (sm_cc 410) 107 = .ok (.getfield 459, 3) := by decide +kernel
theorem dc_410_110 : decode (sm_cc 410) 110 = .ok (.i2l, 1) := by decide +kernel
theorem dc_410_111 : decode (sm_cc 410) 111 = .ok (.ladd, 1) := by decide +kernel
theorem dc_410_112 : decode (sm_cc 410) 112 = .ok (.goto (9), 3) := by decide +kernel
theorem dc_410_83 : decode (sm_cc 410) 83 = .ok (.aload_n 0, 1) := by decide +kernel
theorem dc_410_84 : decode (sm_cc 410) 84 = .ok (.iconst 2, 1) := by decide +kernel
theorem dc_410_85 : decode (sm_cc 410) 85 = .ok (.invokevirtual 762, 3) := by decide +kernel
theorem dc_410_88 : decode (sm_cc 410) 88 = .ok (.ireturn, 1) := by decide +kernel
theorem dc_410_8 : decode (sm_cc 410) 8 = .ok (.aload_n 0, 1) := by decide +kernel
theorem dc_410_9 : decode (sm_cc 410) 9 = .ok (.iload_n 2, 1) := by decide +kernel
theorem dc_410_10 : decode (sm_cc 410) 10 = .ok (.invokevirtual 716, 3) := by decide +kernel
theorem ow_403 : 14 = sm_ow 403 := by decide +kernel
theorem kr_410_716 : sm_at mt_k (sm_ow 410) 716 = some (716, 0, 403, 0, 2940) := by decide +kernel
theorem np_403 : sm_np 403 = 1 := by decide +kernel
theorem dc_410_13 : decode (sm_cc 410) 13 = .ok (.ifCond .ne (9), 3) := by decide +kernel
theorem dc_410_22 : decode (sm_cc 410) 22 = .ok (.aload_n 1, 1) := by decide +kernel
theorem dc_410_23 : decode (sm_cc 410) 23 = .ok (.aload_n 0, 1) := by decide +kernel
theorem dc_410_24 : decode (sm_cc 410) 24 = .ok (.getfield 496, 3) := by decide +kernel
theorem dc_410_27 : decode (sm_cc 410) 27 = .ok (.iload_n 2, 1) := by decide +kernel
theorem dc_410_28 : decode (sm_cc 410) 28 = .ok (.iaload, 1) := by decide +kernel
theorem dc_410_29 : decode (sm_cc 410) 29 = .ok (.aload_n 0, 1) := by decide +kernel
theorem dc_410_30 : decode (sm_cc 410) 30 = .ok (.getfield 499, 3) := by decide +kernel
theorem dc_410_33 : decode (sm_cc 410) 33 = .ok (.iload_n 2, 1) := by decide +kernel
theorem dc_410_34 : decode (sm_cc 410) 34 = .ok (.laload, 1) := by decide +kernel
theorem dc_410_35 : decode (sm_cc 410) 35 = .ok (.aload_n 0, 1) := by decide +kernel
theorem dc_410_36 : decode (sm_cc 410) 36 = .ok (.getfield 496, 3) := by decide +kernel
theorem dc_410_39 : decode (sm_cc 410) 39 = .ok (.iload_n 2, 1) := by decide +kernel
theorem dc_410_40 : decode (sm_cc 410) 40 = .ok (.iaload, 1) := by decide +kernel
theorem dc_410_41 : decode (sm_cc 410) 41 = .ok (.iconst 1, 1) := by decide +kernel
theorem dc_410_42 : decode (sm_cc 410) 42 = .ok (.if_icmp .ne (7), 3) := by decide +kernel
theorem dc_410_49 : decode (sm_cc 410) 49 = .ok (.aload_n 0, 1) := by decide +kernel
theorem dc_410_50 : decode (sm_cc 410) 50 = .ok (.getfield 546, 3) := by decide +kernel
theorem fr_410_546 : sm_at mt_f (sm_ow 410) 546 = some (546, 14, 50, 0, 2123) := by decide +kernel
theorem dc_410_53 : decode (sm_cc 410) 53 = .ok (.iload_n 2, 1) := by decide +kernel
theorem dc_410_54 : decode (sm_cc 410) 54 = .ok (.laload, 1) := by decide +kernel
theorem dc_410_55 : decode (sm_cc 410) 55 = .ok (.invokevirtual 764, 3) := by decide +kernel
theorem kr_410_764 : sm_at mt_k (sm_ow 410) 764 = some (764, 0, 399, 0, 2924) := by decide +kernel
theorem dc_410_58 : decode (sm_cc 410) 58 = .ok (.istore_n 3, 1) := by decide +kernel
theorem dc_410_59 : decode (sm_cc 410) 59 = .ok (.iload_n 3, 1) := by decide +kernel
theorem dc_410_60 : decode (sm_cc 410) 60 = .ok (.ifCond .ge (11), 3) := by decide +kernel
theorem dc_410_71 : decode (sm_cc 410) 71 = .ok (.iload_n 3, 1) := by decide +kernel
theorem dc_410_72 : decode (sm_cc 410) 72 = .ok (.ireturn, 1) := by decide +kernel
theorem dc_410_63 : decode (sm_cc 410) 63 = .ok (.aload_n 0, 1) := by decide +kernel
theorem dc_410_64 : decode (sm_cc 410) 64 = .ok (.iconst 4, 1) := by decide +kernel
theorem dc_410_65 : decode (sm_cc 410) 65 = .ok (.invokevirtual 762, 3) := by decide +kernel
theorem dc_410_68 : decode (sm_cc 410) 68 = .ok (.goto (4), 3) := by decide +kernel
theorem dc_410_45 : decode (sm_cc 410) 45 = .ok (.lconst 0, 1) := by decide +kernel
theorem dc_410_46 : decode (sm_cc 410) 46 = .ok (.goto (9), 3) := by decide +kernel
theorem dc_410_16 : decode (sm_cc 410) 16 = .ok (.aload_n 0, 1) := by decide +kernel
theorem dc_410_17 : decode (sm_cc 410) 17 = .ok (.iconst 2, 1) := by decide +kernel
theorem dc_410_18 : decode (sm_cc 410) 18 = .ok (.invokevirtual 762, 3) := by decide +kernel
theorem dc_410_21 : decode (sm_cc 410) 21 = .ok (.ireturn, 1) := by decide +kernel
theorem ml_358 : sm_ml 358 = 7 := by decide +kernel
theorem dc_358_0 : decode (sm_cc 358) 0 = .ok (.aload_n 0, 1) := by decide +kernel
theorem dc_358_1 : decode (sm_cc 358) 1 = .ok (.getfield 7, 3) := by decide +kernel
theorem fr_358_7 : sm_at mt_f (sm_ow 358) 7 = some (7, 13, 2, 0, 2773) := by decide +kernel
theorem dc_358_4 : decode (sm_cc 358) 4 = .ok (.iload_n 1, 1) := by decide +kernel
theorem dc_358_5 : decode (sm_cc 358) 5 = .ok (.iload_n 2, 1) := by decide +kernel
theorem dc_358_6 : decode (sm_cc 358) 6 = .ok (.iastore, 1) := by decide +kernel
theorem dc_358_7 : decode (sm_cc 358) 7 = .ok (.aload_n 0, 1) := by decide +kernel
theorem dc_358_8 : decode (sm_cc 358) 8 = .ok (.getfield 16, 3) := by decide +kernel
theorem fr_358_16 : sm_at mt_f (sm_ow 358) 16 = some (16, 13, 4, 0, 2777) := by decide +kernel
theorem dc_358_11 : decode (sm_cc 358) 11 = .ok (.iload_n 1, 1) := by decide +kernel
theorem dc_358_12 : decode (sm_cc 358) 12 = .ok (.lload_n 3, 1) := by decide +kernel
theorem dc_358_13 : decode (sm_cc 358) 13 = .ok (.lastore, 1) := by decide +kernel
theorem dc_358_14 : decode (sm_cc 358) 14 = .ok (.aload_n 0, 1) := by decide +kernel
theorem dc_358_15 : decode (sm_cc 358) 15 = .ok (.getfield 20, 3) := by decide +kernel
theorem fr_358_20 : sm_at mt_f (sm_ow 358) 20 = some (20, 13, 5, 0, 2779) := by decide +kernel
theorem dc_358_18 : decode (sm_cc 358) 18 = .ok (.iload_n 1, 1) := by decide +kernel
theorem dc_358_19 : decode (sm_cc 358) 19 = .ok (.lload 5, 2) := by decide +kernel
theorem dc_358_21 : decode (sm_cc 358) 21 = .ok (.lastore, 1) := by decide +kernel
theorem dc_358_22 : decode (sm_cc 358) 22 = .ok (.return_, 1) := by decide +kernel
theorem rt_358 : sm_rt 358 = none := by decide +kernel
theorem ml_375 : sm_ml 375 = 6 := by decide +kernel
theorem dc_375_0 : decode (sm_cc 375) 0 = .ok (.aload_n 0, 1) := by decide +kernel
theorem dc_375_1 : decode (sm_cc 375) 1 = .ok (.aload_n 0, 1) := by decide +kernel
theorem dc_375_2 : decode (sm_cc 375) 2 = .ok (.getfield 38, 3) := by decide +kernel
theorem fr_375_38 : sm_at mt_f (sm_ow 375) 38 = some (38, 13, 1, 0, 2771) := by decide +kernel
theorem dc_375_5 : decode (sm_cc 375) 5 = .ok (.iconst 1, 1) := by decide +kernel
theorem dc_375_6 : decode (sm_cc 375) 6 = .ok (.iadd, 1) := by decide +kernel
theorem dc_375_7 : decode (sm_cc 375) 7 = .ok (.invokevirtual 42, 3) := by decide +kernel
theorem ow_376 : 13 = sm_ow 376 := by decide +kernel
theorem kr_375_42 : sm_at mt_k (sm_ow 375) 42 = some (42, 0, 376, 0, 2821) := by decide +kernel
theorem np_376 : sm_np 376 = 1 := by decide +kernel
theorem dc_375_10 : decode (sm_cc 375) 10 = .ok (.aload_n 0, 1) := by decide +kernel
theorem dc_375_11 : decode (sm_cc 375) 11 = .ok (.aload_n 0, 1) := by decide +kernel
theorem dc_375_12 : decode (sm_cc 375) 12 = .ok (.getfield 38, 3) := by decide +kernel
theorem dc_375_15 : decode (sm_cc 375) 15 = .ok (.iload_n 1, 1) := by decide +kernel
theorem dc_375_16 : decode (sm_cc 375) 16 = .ok (.lload_n 2, 1) := by decide +kernel
theorem dc_375_17 : decode (sm_cc 375) 17 = .ok (.lload 4, 2) := by decide +kernel
theorem dc_375_19 : decode (sm_cc 375) 19 = .ok (.invokevirtual 46, 3) := by decide +kernel
theorem kr_375_46 : sm_at mt_k (sm_ow 375) 46 = some (46, 0, 358, 0, 2827) := by decide +kernel
theorem dc_375_22 : decode (sm_cc 375) 22 = .ok (.aload_n 0, 1) := by decide +kernel
theorem dc_375_23 : decode (sm_cc 375) 23 = .ok (.dup, 1) := by decide +kernel
theorem dc_375_24 : decode (sm_cc 375) 24 = .ok (.getfield 38, 3) := by decide +kernel
theorem dc_375_27 : decode (sm_cc 375) 27 = .ok (.iconst 1, 1) := by decide +kernel
theorem dc_375_28 : decode (sm_cc 375) 28 = .ok (.iadd, 1) := by decide +kernel
theorem dc_375_29 : decode (sm_cc 375) 29 = .ok (.putfield 38, 3) := by decide +kernel
theorem dc_375_32 : decode (sm_cc 375) 32 = .ok (.return_, 1) := by decide +kernel
theorem rt_375 : sm_rt 375 = none := by decide +kernel
theorem ml_377 : sm_ml 377 = 7 := by decide +kernel
theorem dc_377_0 : decode (sm_cc 377) 0 = .ok (.aload_n 0, 1) := by decide +kernel
theorem dc_377_1 : decode (sm_cc 377) 1 = .ok (.iload_n 1, 1) := by decide +kernel
theorem dc_377_2 : decode (sm_cc 377) 2 = .ok (.iconst 1, 1) := by decide +kernel
theorem dc_377_3 : decode (sm_cc 377) 3 = .ok (.iadd, 1) := by decide +kernel
theorem dc_377_4 : decode (sm_cc 377) 4 = .ok (.invokevirtual 50, 3) := by decide +kernel
theorem ow_378 : 13 = sm_ow 378 := by decide +kernel
theorem kr_377_50 : sm_at mt_k (sm_ow 377) 50 = some (50, 0, 378, 0, 2832) := by decide +kernel
theorem np_378 : sm_np 378 = 1 := by decide +kernel
theorem dc_377_7 : decode (sm_cc 377) 7 = .ok (.aload_n 0, 1) := by decide +kernel
theorem dc_377_8 : decode (sm_cc 377) 8 = .ok (.getfield 13, 3) := by decide +kernel
theorem fr_377_13 : sm_at mt_f (sm_ow 377) 13 = some (13, 13, 3, 0, 2775) := by decide +kernel
theorem dc_377_11 : decode (sm_cc 377) 11 = .ok (.iload_n 1, 1) := by decide +kernel
theorem dc_377_12 : decode (sm_cc 377) 12 = .ok (.iload_n 2, 1) := by decide +kernel
theorem dc_377_13 : decode (sm_cc 377) 13 = .ok (.iastore, 1) := by decide +kernel
theorem dc_377_14 : decode (sm_cc 377) 14 = .ok (.aload_n 0, 1) := by decide +kernel
theorem dc_377_15 : decode (sm_cc 377) 15 = .ok (.getfield 23, 3) := by decide +kernel
theorem fr_377_23 : sm_at mt_f (sm_ow 377) 23 = some (23, 13, 6, 0, 2781) := by decide +kernel
theorem dc_377_18 : decode (sm_cc 377) 18 = .ok (.iload_n 1, 1) := by decide +kernel
theorem dc_377_19 : decode (sm_cc 377) 19 = .ok (.lload_n 3, 1) := by decide +kernel
theorem dc_377_20 : decode (sm_cc 377) 20 = .ok (.lastore, 1) := by decide +kernel
theorem dc_377_21 : decode (sm_cc 377) 21 = .ok (.aload_n 0, 1) := by decide +kernel
theorem dc_377_22 : decode (sm_cc 377) 22 = .ok (.getfield 26, 3) := by decide +kernel
theorem fr_377_26 : sm_at mt_f (sm_ow 377) 26 = some (26, 13, 7, 0, 2783) := by decide +kernel
theorem dc_377_25 : decode (sm_cc 377) 25 = .ok (.iload_n 1, 1) := by decide +kernel
theorem dc_377_26 : decode (sm_cc 377) 26 = .ok (.lload 5, 2) := by decide +kernel
theorem dc_377_28 : decode (sm_cc 377) 28 = .ok (.lastore, 1) := by decide +kernel
theorem dc_377_29 : decode (sm_cc 377) 29 = .ok (.return_, 1) := by decide +kernel
theorem rt_377 : sm_rt 377 = none := by decide +kernel
theorem rGa_1 {d : Nat} {S : cS} {nm : Nat} {t : Nat} {S1 : cS} {o : Nat} {g : Nat} {zg : Nat} {S2 : cS} {a : Nat} {g1 : Nat} {zg1 : Nat} {S3 : cS} {a1 : Nat} {fd0 : Nat} {t1 : Nat} {r : Nat} {N : Nat} {e : Nat} {r1 : Nat} {N1 : Nat} {r2 : Nat} {N2 : Nat} {S4 : cS} (mnm : nm < 2 ^ 20) (ht : sI S 6151 = nI t) (mt : t < 20481) (b1 : 1 ≤ t) (c1 : Ans (d + 8) 363 [.ref 61, .int (nI (t - 1)), .int (nI 5)] S (some (.int (nI 1))) S1) (ho : (sL S1 92 (t - 1)).toInt32 = nI o) (mo : o < 1500) (ag : 108 ≤ g) (hq3 : sQ S1 86 o = some g) (ma : a < 2 ^ 20) (c2 : Ans (d + 8) 399 [.ref g, .int (nI 0), .long ((nI nm).toInt64), .long 0] S1 (some (.int (nI a))) S2) (hz1 : (sS S1)[g - 108]? = some (13, zg)) (ag1 : 108 ≤ g1) (hq6 : sQ S2 86 o = some g1) (ma1 : a1 < 2 ^ 20) (c3 : Ans (d + 8) 399 [.ref g1, .int (nI 0), .long ((nI nm).toInt64), .long 0] S2 (some (.int (nI a1))) S3) (hz2 : (sS S2)[g1 - 108]? = some (13, zg1)) (hz3 : (sS S3)[g - 108]? = some (13, zg)) (hfd0 : sI S3 (100 * g + 0) = nI fd0) (mfd0 : fd0 < 2 ^ 20) (b2 : fd0 = 4) (ht1 : sI S3 6151 = nI t1) (mt1 : t1 < 20481) (b3 : 1 ≤ t1) (hz4 : (sS S3)[g1 - 108]? = some (13, zg1)) (hv1 : sV S3 (100 * g1 + 2) = .ref r) (hg1 : isK S3 r 0 N) (mN : N < 2 ^ 20) (b4 : a1 < N) (he : sA (wI 6151 (nI (t1 - 1)) S3) r a1 = nI e) (me : e < 2 ^ 20) (hv2 : sV S3 (100 * g1 + 4) = .ref r1) (hg2 : isK S3 r1 1 N1) (mN1 : N1 < 2 ^ 20) (b5 : a1 < N1) (hv3 : sV S3 (100 * g1 + 5) = .ref r2) (hg3 : isK S3 r2 1 N2) (mN2 : N2 < 2 ^ 20) (b6 : a1 < N2) (c4 : Ans (d + 8) 352 [.ref 61, .int (nI e), .long (sL (wI 6151 (nI (t1 - 1)) S3) r1 a1), .long (sL (wI 6151 (nI (t1 - 1)) S3) r2 a1)] (wI 6151 (nI (t1 - 1)) S3) none S4) : Bod (d + 8) 412 0 [(0, .ref 61), (1, .int (nI nm))] [] S (some (.int 1)) (S4) := by
  refine Bod.go dc_412_0 rfl ?_
  refine Bod.get dc_412_1 fr_412_493 (mk_61 _) rfl ?_
  refine Bod.eqI (nI t) (by first | assumption | rfl | exact congrArg nI (by omega) | (simp (disch := omega) only [rI, rIe, rA, rIA, rLA, rJA, rVI, rQI, rVA, rQA, upd_at,  rAI, rLI, rJI, nI_add, pk_sub, kc_0, kc_1, kc_2, kc_3, kc_4, kc_5, reduceIte, Nat.reduceEqDiff, Nat.add_zero, rI_hold, rI_hold, rL_hold, ht]; done)) ?_
  refine Bod.ic 1 (by decide) dc_412_4 ?_
  refine Bod.subN (t - 1) (by omega) (by omega) dc_412_5 ?_
  refine Bod.istn dc_412_6 (by rw [ml_412]; exact Nat.le_of_ble_eq_true rfl) ?_
  refine Bod.go dc_412_7 rfl ?_
  refine Bod.go dc_412_8 rfl ?_
  refine Bod.ic 5 (by decide) dc_412_9 ?_
  refine Bod.virt (r := []) dc_412_10 kr_412_683 ⟨Or.inl rfl, ow_363, cl_14⟩ (by rw [np_363]; rfl) (by rw [np_363]; rfl) (ob_of (mk_61 _)) (Nat.le_of_ble_eq_true rfl) (c1  ) ?_
  show Bod _ _ _ _ [_] _ _ _
  refine Bod.ifT dc_412_13 rfl (k1_ne_T (k_ne 1 0 rfl rfl (by omega) (by omega) (by omega))) ?_
  refine Bod.go dc_412_31 rfl ?_
  refine Bod.get dc_412_32 fr_412_499 (mk_61 _) rfl ?_
  refine Bod.go dc_412_35 rfl ?_
  refine Bod.laldN (t - 1) rfl (by omega) (by omega) dc_412_36 (mk_92 _) ?_
  refine Bod.go dc_412_37 rfl ?_
  refine Bod.eqI (nI o) (by first | exact ho | (simp only [rI, rIe, rA, rIA, rLA, rJA, rVI, rQI, rVA, rQA, upd_at,  rAI, rLI, rJI, nI_add, pk_sub, kc_0, kc_1, kc_2, kc_3, kc_4, kc_5, reduceIte, Nat.reduceEqDiff, Nat.add_zero, rI_hold, rI_hold, rL_hold]; exact ho)) ?_
  refine Bod.istn dc_412_38 (by rw [ml_412]; exact Nat.le_of_ble_eq_true rfl) ?_
  refine Bod.go dc_412_39 rfl ?_
  refine Bod.get dc_412_40 fr_412_485 (mk_61 _) rfl ?_
  refine Bod.go dc_412_43 rfl ?_
  refine Bod.aaldR (N := 1500) (b := g) o rfl (by omega) (by omega) (by first | exact hq3 | (simp only [rIQ, rJQ, rAQ, rLQ, rVQ, rQ_holdE]; exact hq3)) dc_412_44 (mk_86 _) ht_5 ?_
  refine Bod.ast dc_412_45 (by rw [ml_412]; exact Nat.le_of_ble_eq_true rfl) ?_
  refine Bod.go dc_412_47 rfl ?_
  refine Bod.ic 0 (by decide) dc_412_49 ?_
  refine Bod.go dc_412_50 rfl ?_
  refine Bod.go dc_412_51 rfl ?_
  refine Bod.go dc_412_52 rfl ?_
  refine Bod.virt (r := []) dc_412_53 kr_412_764 ⟨Or.inl rfl, ow_399, cl_13⟩ (by rw [np_399]; rfl) (by rw [np_399]; rfl) (ob_of (mk_thing ag (by first | exact hz1 | (simp only [rIS, rJS, rAS, rLS, rVS, rQS, rS_hold]; exact hz1)))) (Nat.le_of_ble_eq_true rfl) (c2  ) ?_
  show Bod _ _ _ _ [_] _ _ _
  refine Bod.ist dc_412_56 (by rw [ml_412]; exact Nat.le_of_ble_eq_true rfl) ?_
  refine Bod.go dc_412_58 rfl ?_
  refine Bod.ifF dc_412_60 rfl (k1_lt_F a rfl (by omega)) ?_
  refine Bod.go dc_412_63 rfl ?_
  refine Bod.go dc_412_64 rfl ?_
  refine Bod.ist dc_412_77 (by rw [ml_412]; exact Nat.le_of_ble_eq_true rfl) ?_
  refine Bod.go dc_412_79 rfl ?_
  refine Bod.ifT dc_412_81 rfl (k1_ge_T o rfl (by omega)) ?_
  refine Bod.go dc_412_91 rfl ?_
  refine Bod.get dc_412_92 fr_412_485 (mk_61 _) rfl ?_
  refine Bod.go dc_412_95 rfl ?_
  refine Bod.aaldR (N := 1500) (b := g1) o rfl (by omega) (by omega) (by first | exact hq6 | (simp only [rIQ, rJQ, rAQ, rLQ, rVQ, rQ_holdE]; exact hq6)) dc_412_97 (mk_86 _) ht_5 ?_
  refine Bod.ast dc_412_98 (by rw [ml_412]; exact Nat.le_of_ble_eq_true rfl) ?_
  refine Bod.go dc_412_100 rfl ?_
  refine Bod.ic 0 (by decide) dc_412_102 ?_
  refine Bod.go dc_412_103 rfl ?_
  refine Bod.go dc_412_104 rfl ?_
  refine Bod.go dc_412_105 rfl ?_
  refine Bod.virt (r := []) dc_412_106 kr_412_764 ⟨Or.inl rfl, ow_399, cl_13⟩ (by rw [np_399]; rfl) (by rw [np_399]; rfl) (ob_of (mk_thing ag1 (by first | exact hz2 | (simp only [rIS, rJS, rAS, rLS, rVS, rQS, rS_hold]; exact hz2)))) (Nat.le_of_ble_eq_true rfl) (c3  ) ?_
  show Bod _ _ _ _ [_] _ _ _
  refine Bod.ist dc_412_109 (by rw [ml_412]; exact Nat.le_of_ble_eq_true rfl) ?_
  refine Bod.go dc_412_111 rfl ?_
  refine Bod.get dc_412_113 fr_412_531 (mk_thing ag (by first | exact hz3 | (simp only [rIS, rJS, rAS, rLS, rVS, rQS, rS_hold]; exact hz3))) rfl ?_
  refine Bod.eqI (nI fd0) (by first | assumption | (simp (disch := omega) only [rI, rIe, rA, rIA, rLA, rJA, rVI, rQI, rVA, rQA, upd_at,  rAI, rLI, rJI, nI_add, pk_sub, kc_0, kc_1, kc_2, kc_3, kc_4, kc_5, reduceIte, Nat.reduceEqDiff, Nat.add_zero, rI_hold, rI_hold, rL_hold, ht, hfd0]; done) | (simp (disch := omega) only [rI, rIe, rA, rIA, rLA, rJA, rVI, rQI, rVA, rQA, upd_at,  rAI, rLI, rJI, nI_add, pk_sub, kc_0, kc_1, kc_2, kc_3, kc_4, kc_5, reduceIte, Nat.reduceEqDiff, Nat.add_zero, rI_hold, rI_hold, rL_hold, ht, hfd0]; exact congrArg nI (by omega))) ?_
  refine Bod.ic 4 (by decide) dc_412_116 ?_
  refine Bod.icT dc_412_117 rfl (k2_eq_T (k_eq fd0 4 rfl rfl (by omega))) ?_
  refine Bod.go dc_412_158 rfl ?_
  refine Bod.go dc_412_159 rfl ?_
  refine Bod.get dc_412_160 fr_412_493 (mk_61 _) rfl ?_
  refine Bod.eqI (nI t1) (by first | assumption | (simp (disch := omega) only [rI, rIe, rA, rIA, rLA, rJA, rVI, rQI, rVA, rQA, upd_at,  rAI, rLI, rJI, nI_add, pk_sub, kc_0, kc_1, kc_2, kc_3, kc_4, kc_5, reduceIte, Nat.reduceEqDiff, Nat.add_zero, rI_hold, rI_hold, rL_hold, ht, hfd0, ht1]; done) | (simp (disch := omega) only [rI, rIe, rA, rIA, rLA, rJA, rVI, rQI, rVA, rQA, upd_at,  rAI, rLI, rJI, nI_add, pk_sub, kc_0, kc_1, kc_2, kc_3, kc_4, kc_5, reduceIte, Nat.reduceEqDiff, Nat.add_zero, rI_hold, rI_hold, rL_hold, ht, hfd0, ht1]; exact congrArg nI (by omega))) ?_
  refine Bod.ic 1 (by decide) dc_412_163 ?_
  refine Bod.subN (t1 - 1) (by omega) (by omega) dc_412_164 ?_
  refine Bod.put dc_412_165 fr_412_493 (mk_61 _) (Nat.le_of_ble_eq_true rfl) pf_14_51 (st_6151 _ _) (mu_I _ _ _) ?_
  refine Bod.go dc_412_168 rfl ?_
  refine Bod.go dc_412_169 rfl ?_
  refine Bod.get dc_412_171 fr_412_462 (mk_thing ag1 (by first | exact hz4 | (simp only [rIS, rJS, rAS, rLS, rVS, rQS, rS_hold]; exact hz4))) rfl ?_
  refine Bod.eqV (.ref r) (by first | exact hv1 | (simp only [rIV, rJV, rAV, rLV, rQV, rV, reduceIte, Nat.reduceEqDiff]; exact hv1)) ?_
  refine Bod.go dc_412_174 rfl ?_
  refine Bod.ialdN (N := N) a1 rfl (by omega) (by omega) dc_412_176 (mk_isI (by first | exact hg1 | exact isK_S (by simp only [rIS, rJS, rAS, rLS, rVS, rQS, rS_hold]) hg1)) ?_
  refine Bod.eqI (nI e) (by first | assumption | (simp (disch := omega) only [rI, rIe, rA, rIA, rLA, rJA, rVI, rQI, rVA, rQA, upd_at,  rAI, rLI, rJI, nI_add, pk_sub, kc_0, kc_1, kc_2, kc_3, kc_4, kc_5, reduceIte, Nat.reduceEqDiff, Nat.add_zero, rI_hold, rI_hold, rL_hold, ht, hfd0, ht1, he]; done) | (simp (disch := omega) only [rI, rIe, rA, rIA, rLA, rJA, rVI, rQI, rVA, rQA, upd_at,  rAI, rLI, rJI, nI_add, pk_sub, kc_0, kc_1, kc_2, kc_3, kc_4, kc_5, reduceIte, Nat.reduceEqDiff, Nat.add_zero, rI_hold, rI_hold, rL_hold, ht, hfd0, ht1, he]; exact congrArg nI (by omega))) ?_
  refine Bod.go dc_412_177 rfl ?_
  refine Bod.get dc_412_179 fr_412_465 (mk_thing ag1 (by first | exact hz4 | (simp only [rIS, rJS, rAS, rLS, rVS, rQS, rS_hold]; exact hz4))) rfl ?_
  refine Bod.eqV (.ref r1) (by first | exact hv2 | (simp only [rIV, rJV, rAV, rLV, rQV, rV, reduceIte, Nat.reduceEqDiff]; exact hv2)) ?_
  refine Bod.go dc_412_182 rfl ?_
  refine Bod.laldN (N := N1) a1 rfl (by omega) (by omega) dc_412_184 (mk_isL (by first | exact hg2 | exact isK_S (by simp only [rIS, rJS, rAS, rLS, rVS, rQS, rS_hold]) hg2)) ?_
  refine Bod.go dc_412_185 rfl ?_
  refine Bod.get dc_412_187 fr_412_627 (mk_thing ag1 (by first | exact hz4 | (simp only [rIS, rJS, rAS, rLS, rVS, rQS, rS_hold]; exact hz4))) rfl ?_
  refine Bod.eqV (.ref r2) (by first | exact hv3 | (simp only [rIV, rJV, rAV, rLV, rQV, rV, reduceIte, Nat.reduceEqDiff]; exact hv3)) ?_
  refine Bod.go dc_412_190 rfl ?_
  refine Bod.laldN (N := N2) a1 rfl (by omega) (by omega) dc_412_192 (mk_isL (by first | exact hg3 | exact isK_S (by simp only [rIS, rJS, rAS, rLS, rVS, rQS, rS_hold]) hg3)) ?_
  refine Bod.virt (r := []) dc_412_193 kr_412_549 ⟨Or.inl rfl, ow_352, cl_14⟩ (by rw [np_352]; rfl) (by rw [np_352]; rfl) (ob_of (mk_61 _)) (Nat.le_of_ble_eq_true rfl) (c4  ) ?_
  show Bod _ _ _ _ [] _ _ _
  refine Bod.ic 1 (by decide) dc_412_196 ?_
  exact Bod.retZ dc_412_197 rt_412 (Or.inr rfl)
theorem rGa_2 {d : Nat} {S : cS} {nm : Nat} {t : Nat} {S1 : cS} {o : Nat} {g : Nat} {zg : Nat} {S2 : cS} {a : Nat} {g1 : Nat} {zg1 : Nat} {S3 : cS} {a1 : Nat} {fd0 : Nat} {t1 : Nat} {r : Nat} {N : Nat} {e : Nat} {r1 : Nat} {N1 : Nat} {r2 : Nat} {N2 : Nat} {S4 : cS} (mnm : nm < 2 ^ 20) (ht : sI S 6151 = nI t) (mt : t < 20481) (b1 : 1 ≤ t) (c1 : Ans (d + 8) 363 [.ref 61, .int (nI (t - 1)), .int (nI 5)] S (some (.int (nI 1))) S1) (ho : (sL S1 92 (t - 1)).toInt32 = nI o) (mo : o < 1500) (ag : 108 ≤ g) (hq3 : sQ S1 86 o = some g) (ma : a < 2 ^ 20) (c2 : Ans (d + 8) 399 [.ref g, .int (nI 0), .long ((nI nm).toInt64), .long 0] S1 (some (.int (nI a))) S2) (hz1 : (sS S1)[g - 108]? = some (13, zg)) (ag1 : 108 ≤ g1) (hq6 : sQ S2 86 o = some g1) (ma1 : a1 < 2 ^ 20) (c3 : Ans (d + 8) 399 [.ref g1, .int (nI 0), .long ((nI nm).toInt64), .long 0] S2 (some (.int (nI a1))) S3) (hz2 : (sS S2)[g1 - 108]? = some (13, zg1)) (hz3 : (sS S3)[g - 108]? = some (13, zg)) (hfd0 : sI S3 (100 * g + 0) = nI fd0) (mfd0 : fd0 < 2 ^ 20) (b2 : fd0 ≠ 4) (ht1 : sI S3 6151 = nI t1) (mt1 : t1 < 20481) (b3 : 1 ≤ t1) (hz4 : (sS S3)[g1 - 108]? = some (13, zg1)) (hv1 : sV S3 (100 * g1 + 2) = .ref r) (hg1 : isK S3 r 0 N) (mN : N < 2 ^ 20) (b4 : a1 < N) (he : sA (wI 6151 (nI (t1 - 1)) S3) r a1 = nI e) (me : e < 2 ^ 20) (hv2 : sV S3 (100 * g1 + 4) = .ref r1) (hg2 : isK S3 r1 1 N1) (mN1 : N1 < 2 ^ 20) (b5 : a1 < N1) (hv3 : sV S3 (100 * g1 + 5) = .ref r2) (hg3 : isK S3 r2 1 N2) (mN2 : N2 < 2 ^ 20) (b6 : a1 < N2) (c4 : Ans (d + 8) 352 [.ref 61, .int (nI e), .long (sL (wI 6151 (nI (t1 - 1)) S3) r1 a1), .long (sL (wI 6151 (nI (t1 - 1)) S3) r2 a1)] (wI 6151 (nI (t1 - 1)) S3) none S4) : Bod (d + 8) 412 0 [(0, .ref 61), (1, .int (nI nm))] [] S (some (.int 1)) (S4) := by
  refine Bod.go dc_412_0 rfl ?_
  refine Bod.get dc_412_1 fr_412_493 (mk_61 _) rfl ?_
  refine Bod.eqI (nI t) (by first | assumption | rfl | exact congrArg nI (by omega) | (simp (disch := omega) only [rI, rIe, rA, rIA, rLA, rJA, rVI, rQI, rVA, rQA, upd_at,  rAI, rLI, rJI, nI_add, pk_sub, kc_0, kc_1, kc_2, kc_3, kc_4, kc_5, reduceIte, Nat.reduceEqDiff, Nat.add_zero, rI_hold, rI_hold, rL_hold, ht]; done)) ?_
  refine Bod.ic 1 (by decide) dc_412_4 ?_
  refine Bod.subN (t - 1) (by omega) (by omega) dc_412_5 ?_
  refine Bod.istn dc_412_6 (by rw [ml_412]; exact Nat.le_of_ble_eq_true rfl) ?_
  refine Bod.go dc_412_7 rfl ?_
  refine Bod.go dc_412_8 rfl ?_
  refine Bod.ic 5 (by decide) dc_412_9 ?_
  refine Bod.virt (r := []) dc_412_10 kr_412_683 ⟨Or.inl rfl, ow_363, cl_14⟩ (by rw [np_363]; rfl) (by rw [np_363]; rfl) (ob_of (mk_61 _)) (Nat.le_of_ble_eq_true rfl) (c1  ) ?_
  show Bod _ _ _ _ [_] _ _ _
  refine Bod.ifT dc_412_13 rfl (k1_ne_T (k_ne 1 0 rfl rfl (by omega) (by omega) (by omega))) ?_
  refine Bod.go dc_412_31 rfl ?_
  refine Bod.get dc_412_32 fr_412_499 (mk_61 _) rfl ?_
  refine Bod.go dc_412_35 rfl ?_
  refine Bod.laldN (t - 1) rfl (by omega) (by omega) dc_412_36 (mk_92 _) ?_
  refine Bod.go dc_412_37 rfl ?_
  refine Bod.eqI (nI o) (by first | exact ho | (simp only [rI, rIe, rA, rIA, rLA, rJA, rVI, rQI, rVA, rQA, upd_at,  rAI, rLI, rJI, nI_add, pk_sub, kc_0, kc_1, kc_2, kc_3, kc_4, kc_5, reduceIte, Nat.reduceEqDiff, Nat.add_zero, rI_hold, rI_hold, rL_hold]; exact ho)) ?_
  refine Bod.istn dc_412_38 (by rw [ml_412]; exact Nat.le_of_ble_eq_true rfl) ?_
  refine Bod.go dc_412_39 rfl ?_
  refine Bod.get dc_412_40 fr_412_485 (mk_61 _) rfl ?_
  refine Bod.go dc_412_43 rfl ?_
  refine Bod.aaldR (N := 1500) (b := g) o rfl (by omega) (by omega) (by first | exact hq3 | (simp only [rIQ, rJQ, rAQ, rLQ, rVQ, rQ_holdE]; exact hq3)) dc_412_44 (mk_86 _) ht_5 ?_
  refine Bod.ast dc_412_45 (by rw [ml_412]; exact Nat.le_of_ble_eq_true rfl) ?_
  refine Bod.go dc_412_47 rfl ?_
  refine Bod.ic 0 (by decide) dc_412_49 ?_
  refine Bod.go dc_412_50 rfl ?_
  refine Bod.go dc_412_51 rfl ?_
  refine Bod.go dc_412_52 rfl ?_
  refine Bod.virt (r := []) dc_412_53 kr_412_764 ⟨Or.inl rfl, ow_399, cl_13⟩ (by rw [np_399]; rfl) (by rw [np_399]; rfl) (ob_of (mk_thing ag (by first | exact hz1 | (simp only [rIS, rJS, rAS, rLS, rVS, rQS, rS_hold]; exact hz1)))) (Nat.le_of_ble_eq_true rfl) (c2  ) ?_
  show Bod _ _ _ _ [_] _ _ _
  refine Bod.ist dc_412_56 (by rw [ml_412]; exact Nat.le_of_ble_eq_true rfl) ?_
  refine Bod.go dc_412_58 rfl ?_
  refine Bod.ifF dc_412_60 rfl (k1_lt_F a rfl (by omega)) ?_
  refine Bod.go dc_412_63 rfl ?_
  refine Bod.go dc_412_64 rfl ?_
  refine Bod.ist dc_412_77 (by rw [ml_412]; exact Nat.le_of_ble_eq_true rfl) ?_
  refine Bod.go dc_412_79 rfl ?_
  refine Bod.ifT dc_412_81 rfl (k1_ge_T o rfl (by omega)) ?_
  refine Bod.go dc_412_91 rfl ?_
  refine Bod.get dc_412_92 fr_412_485 (mk_61 _) rfl ?_
  refine Bod.go dc_412_95 rfl ?_
  refine Bod.aaldR (N := 1500) (b := g1) o rfl (by omega) (by omega) (by first | exact hq6 | (simp only [rIQ, rJQ, rAQ, rLQ, rVQ, rQ_holdE]; exact hq6)) dc_412_97 (mk_86 _) ht_5 ?_
  refine Bod.ast dc_412_98 (by rw [ml_412]; exact Nat.le_of_ble_eq_true rfl) ?_
  refine Bod.go dc_412_100 rfl ?_
  refine Bod.ic 0 (by decide) dc_412_102 ?_
  refine Bod.go dc_412_103 rfl ?_
  refine Bod.go dc_412_104 rfl ?_
  refine Bod.go dc_412_105 rfl ?_
  refine Bod.virt (r := []) dc_412_106 kr_412_764 ⟨Or.inl rfl, ow_399, cl_13⟩ (by rw [np_399]; rfl) (by rw [np_399]; rfl) (ob_of (mk_thing ag1 (by first | exact hz2 | (simp only [rIS, rJS, rAS, rLS, rVS, rQS, rS_hold]; exact hz2)))) (Nat.le_of_ble_eq_true rfl) (c3  ) ?_
  show Bod _ _ _ _ [_] _ _ _
  refine Bod.ist dc_412_109 (by rw [ml_412]; exact Nat.le_of_ble_eq_true rfl) ?_
  refine Bod.go dc_412_111 rfl ?_
  refine Bod.get dc_412_113 fr_412_531 (mk_thing ag (by first | exact hz3 | (simp only [rIS, rJS, rAS, rLS, rVS, rQS, rS_hold]; exact hz3))) rfl ?_
  refine Bod.eqI (nI fd0) (by first | assumption | (simp (disch := omega) only [rI, rIe, rA, rIA, rLA, rJA, rVI, rQI, rVA, rQA, upd_at,  rAI, rLI, rJI, nI_add, pk_sub, kc_0, kc_1, kc_2, kc_3, kc_4, kc_5, reduceIte, Nat.reduceEqDiff, Nat.add_zero, rI_hold, rI_hold, rL_hold, ht, hfd0]; done) | (simp (disch := omega) only [rI, rIe, rA, rIA, rLA, rJA, rVI, rQI, rVA, rQA, upd_at,  rAI, rLI, rJI, nI_add, pk_sub, kc_0, kc_1, kc_2, kc_3, kc_4, kc_5, reduceIte, Nat.reduceEqDiff, Nat.add_zero, rI_hold, rI_hold, rL_hold, ht, hfd0]; exact congrArg nI (by omega))) ?_
  refine Bod.ic 4 (by decide) dc_412_116 ?_
  refine Bod.icF dc_412_117 rfl (k2_eq_F (k_ne fd0 4 rfl rfl (by omega) (by omega) (by omega))) ?_
  refine Bod.go dc_412_120 rfl ?_
  refine Bod.ifT dc_412_122 rfl (k1_ge_T a rfl (by omega)) ?_
  refine Bod.go dc_412_158 rfl ?_
  refine Bod.go dc_412_159 rfl ?_
  refine Bod.get dc_412_160 fr_412_493 (mk_61 _) rfl ?_
  refine Bod.eqI (nI t1) (by first | assumption | (simp (disch := omega) only [rI, rIe, rA, rIA, rLA, rJA, rVI, rQI, rVA, rQA, upd_at,  rAI, rLI, rJI, nI_add, pk_sub, kc_0, kc_1, kc_2, kc_3, kc_4, kc_5, reduceIte, Nat.reduceEqDiff, Nat.add_zero, rI_hold, rI_hold, rL_hold, ht, hfd0, ht1]; done) | (simp (disch := omega) only [rI, rIe, rA, rIA, rLA, rJA, rVI, rQI, rVA, rQA, upd_at,  rAI, rLI, rJI, nI_add, pk_sub, kc_0, kc_1, kc_2, kc_3, kc_4, kc_5, reduceIte, Nat.reduceEqDiff, Nat.add_zero, rI_hold, rI_hold, rL_hold, ht, hfd0, ht1]; exact congrArg nI (by omega))) ?_
  refine Bod.ic 1 (by decide) dc_412_163 ?_
  refine Bod.subN (t1 - 1) (by omega) (by omega) dc_412_164 ?_
  refine Bod.put dc_412_165 fr_412_493 (mk_61 _) (Nat.le_of_ble_eq_true rfl) pf_14_51 (st_6151 _ _) (mu_I _ _ _) ?_
  refine Bod.go dc_412_168 rfl ?_
  refine Bod.go dc_412_169 rfl ?_
  refine Bod.get dc_412_171 fr_412_462 (mk_thing ag1 (by first | exact hz4 | (simp only [rIS, rJS, rAS, rLS, rVS, rQS, rS_hold]; exact hz4))) rfl ?_
  refine Bod.eqV (.ref r) (by first | exact hv1 | (simp only [rIV, rJV, rAV, rLV, rQV, rV, reduceIte, Nat.reduceEqDiff]; exact hv1)) ?_
  refine Bod.go dc_412_174 rfl ?_
  refine Bod.ialdN (N := N) a1 rfl (by omega) (by omega) dc_412_176 (mk_isI (by first | exact hg1 | exact isK_S (by simp only [rIS, rJS, rAS, rLS, rVS, rQS, rS_hold]) hg1)) ?_
  refine Bod.eqI (nI e) (by first | assumption | (simp (disch := omega) only [rI, rIe, rA, rIA, rLA, rJA, rVI, rQI, rVA, rQA, upd_at,  rAI, rLI, rJI, nI_add, pk_sub, kc_0, kc_1, kc_2, kc_3, kc_4, kc_5, reduceIte, Nat.reduceEqDiff, Nat.add_zero, rI_hold, rI_hold, rL_hold, ht, hfd0, ht1, he]; done) | (simp (disch := omega) only [rI, rIe, rA, rIA, rLA, rJA, rVI, rQI, rVA, rQA, upd_at,  rAI, rLI, rJI, nI_add, pk_sub, kc_0, kc_1, kc_2, kc_3, kc_4, kc_5, reduceIte, Nat.reduceEqDiff, Nat.add_zero, rI_hold, rI_hold, rL_hold, ht, hfd0, ht1, he]; exact congrArg nI (by omega))) ?_
  refine Bod.go dc_412_177 rfl ?_
  refine Bod.get dc_412_179 fr_412_465 (mk_thing ag1 (by first | exact hz4 | (simp only [rIS, rJS, rAS, rLS, rVS, rQS, rS_hold]; exact hz4))) rfl ?_
  refine Bod.eqV (.ref r1) (by first | exact hv2 | (simp only [rIV, rJV, rAV, rLV, rQV, rV, reduceIte, Nat.reduceEqDiff]; exact hv2)) ?_
  refine Bod.go dc_412_182 rfl ?_
  refine Bod.laldN (N := N1) a1 rfl (by omega) (by omega) dc_412_184 (mk_isL (by first | exact hg2 | exact isK_S (by simp only [rIS, rJS, rAS, rLS, rVS, rQS, rS_hold]) hg2)) ?_
  refine Bod.go dc_412_185 rfl ?_
  refine Bod.get dc_412_187 fr_412_627 (mk_thing ag1 (by first | exact hz4 | (simp only [rIS, rJS, rAS, rLS, rVS, rQS, rS_hold]; exact hz4))) rfl ?_
  refine Bod.eqV (.ref r2) (by first | exact hv3 | (simp only [rIV, rJV, rAV, rLV, rQV, rV, reduceIte, Nat.reduceEqDiff]; exact hv3)) ?_
  refine Bod.go dc_412_190 rfl ?_
  refine Bod.laldN (N := N2) a1 rfl (by omega) (by omega) dc_412_192 (mk_isL (by first | exact hg3 | exact isK_S (by simp only [rIS, rJS, rAS, rLS, rVS, rQS, rS_hold]) hg3)) ?_
  refine Bod.virt (r := []) dc_412_193 kr_412_549 ⟨Or.inl rfl, ow_352, cl_14⟩ (by rw [np_352]; rfl) (by rw [np_352]; rfl) (ob_of (mk_61 _)) (Nat.le_of_ble_eq_true rfl) (c4  ) ?_
  show Bod _ _ _ _ [] _ _ _
  refine Bod.ic 1 (by decide) dc_412_196 ?_
  exact Bod.retZ dc_412_197 rt_412 (Or.inr rfl)
theorem rGa_3 {d : Nat} {S : cS} {nm : Nat} {t : Nat} {S1 : cS} {o : Nat} {g : Nat} {zg : Nat} {S2 : cS} {fd11 : Nat} {S3 : cS} {a : Nat} {g1 : Nat} {zg1 : Nat} {S4 : cS} {a1 : Nat} {fd0 : Nat} {t1 : Nat} {r : Nat} {N : Nat} {e : Nat} {r1 : Nat} {N1 : Nat} {r2 : Nat} {N2 : Nat} {S5 : cS} (mnm : nm < 2 ^ 20) (ht : sI S 6151 = nI t) (mt : t < 20481) (b1 : 1 ≤ t) (c1 : Ans (d + 8) 363 [.ref 61, .int (nI (t - 1)), .int (nI 5)] S (some (.int (nI 1))) S1) (ho : (sL S1 92 (t - 1)).toInt32 = nI o) (mo : o < 1500) (ag : 108 ≤ g) (hq3 : sQ S1 86 o = some g) (c2 : Ans (d + 8) 399 [.ref g, .int (nI 0), .long ((nI nm).toInt64), .long 0] S1 (some (.int (Int32.ofInt (-1)))) S2) (hz1 : (sS S1)[g - 108]? = some (13, zg)) (hz2 : (sS S2)[g - 108]? = some (13, zg)) (hfd11 : sI S2 (100 * g + 11) = nI fd11) (mfd11 : fd11 < 2 ^ 20) (ma : a < 1500) (c3 : Ans (d + 8) 398 [.ref 61, .int (nI fd11), .int (nI nm)] S2 (some (.int (nI a))) S3) (ag1 : 108 ≤ g1) (hq7 : sQ S3 86 a = some g1) (ma1 : a1 < 2 ^ 20) (c4 : Ans (d + 8) 399 [.ref g1, .int (nI 0), .long ((nI nm).toInt64), .long 0] S3 (some (.int (nI a1))) S4) (hz3 : (sS S3)[g1 - 108]? = some (13, zg1)) (hz4 : (sS S4)[g - 108]? = some (13, zg)) (hfd0 : sI S4 (100 * g + 0) = nI fd0) (mfd0 : fd0 < 2 ^ 20) (b2 : fd0 = 4) (ht1 : sI S4 6151 = nI t1) (mt1 : t1 < 20481) (b3 : 1 ≤ t1) (hz5 : (sS S4)[g1 - 108]? = some (13, zg1)) (hv1 : sV S4 (100 * g1 + 2) = .ref r) (hg1 : isK S4 r 0 N) (mN : N < 2 ^ 20) (b4 : a1 < N) (he : sA (wI 6151 (nI (t1 - 1)) S4) r a1 = nI e) (me : e < 2 ^ 20) (hv2 : sV S4 (100 * g1 + 4) = .ref r1) (hg2 : isK S4 r1 1 N1) (mN1 : N1 < 2 ^ 20) (b5 : a1 < N1) (hv3 : sV S4 (100 * g1 + 5) = .ref r2) (hg3 : isK S4 r2 1 N2) (mN2 : N2 < 2 ^ 20) (b6 : a1 < N2) (c5 : Ans (d + 8) 352 [.ref 61, .int (nI e), .long (sL (wI 6151 (nI (t1 - 1)) S4) r1 a1), .long (sL (wI 6151 (nI (t1 - 1)) S4) r2 a1)] (wI 6151 (nI (t1 - 1)) S4) none S5) : Bod (d + 8) 412 0 [(0, .ref 61), (1, .int (nI nm))] [] S (some (.int 1)) (S5) := by
  refine Bod.go dc_412_0 rfl ?_
  refine Bod.get dc_412_1 fr_412_493 (mk_61 _) rfl ?_
  refine Bod.eqI (nI t) (by first | assumption | rfl | exact congrArg nI (by omega) | (simp (disch := omega) only [rI, rIe, rA, rIA, rLA, rJA, rVI, rQI, rVA, rQA, upd_at,  rAI, rLI, rJI, nI_add, pk_sub, kc_0, kc_1, kc_2, kc_3, kc_4, kc_5, reduceIte, Nat.reduceEqDiff, Nat.add_zero, rI_hold, rI_hold, rL_hold, ht]; done)) ?_
  refine Bod.ic 1 (by decide) dc_412_4 ?_
  refine Bod.subN (t - 1) (by omega) (by omega) dc_412_5 ?_
  refine Bod.istn dc_412_6 (by rw [ml_412]; exact Nat.le_of_ble_eq_true rfl) ?_
  refine Bod.go dc_412_7 rfl ?_
  refine Bod.go dc_412_8 rfl ?_
  refine Bod.ic 5 (by decide) dc_412_9 ?_
  refine Bod.virt (r := []) dc_412_10 kr_412_683 ⟨Or.inl rfl, ow_363, cl_14⟩ (by rw [np_363]; rfl) (by rw [np_363]; rfl) (ob_of (mk_61 _)) (Nat.le_of_ble_eq_true rfl) (c1  ) ?_
  show Bod _ _ _ _ [_] _ _ _
  refine Bod.ifT dc_412_13 rfl (k1_ne_T (k_ne 1 0 rfl rfl (by omega) (by omega) (by omega))) ?_
  refine Bod.go dc_412_31 rfl ?_
  refine Bod.get dc_412_32 fr_412_499 (mk_61 _) rfl ?_
  refine Bod.go dc_412_35 rfl ?_
  refine Bod.laldN (t - 1) rfl (by omega) (by omega) dc_412_36 (mk_92 _) ?_
  refine Bod.go dc_412_37 rfl ?_
  refine Bod.eqI (nI o) (by first | exact ho | (simp only [rI, rIe, rA, rIA, rLA, rJA, rVI, rQI, rVA, rQA, upd_at,  rAI, rLI, rJI, nI_add, pk_sub, kc_0, kc_1, kc_2, kc_3, kc_4, kc_5, reduceIte, Nat.reduceEqDiff, Nat.add_zero, rI_hold, rI_hold, rL_hold]; exact ho)) ?_
  refine Bod.istn dc_412_38 (by rw [ml_412]; exact Nat.le_of_ble_eq_true rfl) ?_
  refine Bod.go dc_412_39 rfl ?_
  refine Bod.get dc_412_40 fr_412_485 (mk_61 _) rfl ?_
  refine Bod.go dc_412_43 rfl ?_
  refine Bod.aaldR (N := 1500) (b := g) o rfl (by omega) (by omega) (by first | exact hq3 | (simp only [rIQ, rJQ, rAQ, rLQ, rVQ, rQ_holdE]; exact hq3)) dc_412_44 (mk_86 _) ht_5 ?_
  refine Bod.ast dc_412_45 (by rw [ml_412]; exact Nat.le_of_ble_eq_true rfl) ?_
  refine Bod.go dc_412_47 rfl ?_
  refine Bod.ic 0 (by decide) dc_412_49 ?_
  refine Bod.go dc_412_50 rfl ?_
  refine Bod.go dc_412_51 rfl ?_
  refine Bod.go dc_412_52 rfl ?_
  refine Bod.virt (r := []) dc_412_53 kr_412_764 ⟨Or.inl rfl, ow_399, cl_13⟩ (by rw [np_399]; rfl) (by rw [np_399]; rfl) (ob_of (mk_thing ag (by first | exact hz1 | (simp only [rIS, rJS, rAS, rLS, rVS, rQS, rS_hold]; exact hz1)))) (Nat.le_of_ble_eq_true rfl) (c2  ) ?_
  show Bod _ _ _ _ [_] _ _ _
  refine Bod.ist dc_412_56 (by rw [ml_412]; exact Nat.le_of_ble_eq_true rfl) ?_
  refine Bod.go dc_412_58 rfl ?_
  refine Bod.ifT dc_412_60 rfl (by decide) ?_
  refine Bod.go dc_412_67 rfl ?_
  refine Bod.go dc_412_68 rfl ?_
  refine Bod.get dc_412_70 fr_412_472 (mk_thing ag (by first | exact hz2 | (simp only [rIS, rJS, rAS, rLS, rVS, rQS, rS_hold]; exact hz2))) rfl ?_
  refine Bod.eqI (nI fd11) (by first | assumption | (simp (disch := omega) only [rI, rIe, rA, rIA, rLA, rJA, rVI, rQI, rVA, rQA, upd_at,  rAI, rLI, rJI, nI_add, pk_sub, kc_0, kc_1, kc_2, kc_3, kc_4, kc_5, reduceIte, Nat.reduceEqDiff, Nat.add_zero, rI_hold, rI_hold, rL_hold, ht, hfd11]; done) | (simp (disch := omega) only [rI, rIe, rA, rIA, rLA, rJA, rVI, rQI, rVA, rQA, upd_at,  rAI, rLI, rJI, nI_add, pk_sub, kc_0, kc_1, kc_2, kc_3, kc_4, kc_5, reduceIte, Nat.reduceEqDiff, Nat.add_zero, rI_hold, rI_hold, rL_hold, ht, hfd11]; exact congrArg nI (by omega))) ?_
  refine Bod.go dc_412_73 rfl ?_
  refine Bod.virt (r := []) dc_412_74 kr_412_777 ⟨Or.inl rfl, ow_398, cl_14⟩ (by rw [np_398]; rfl) (by rw [np_398]; rfl) (ob_of (mk_61 _)) (Nat.le_of_ble_eq_true rfl) (c3  ) ?_
  show Bod _ _ _ _ [_] _ _ _
  refine Bod.ist dc_412_77 (by rw [ml_412]; exact Nat.le_of_ble_eq_true rfl) ?_
  refine Bod.go dc_412_79 rfl ?_
  refine Bod.ifT dc_412_81 rfl (k1_ge_T a rfl (by omega)) ?_
  refine Bod.go dc_412_91 rfl ?_
  refine Bod.get dc_412_92 fr_412_485 (mk_61 _) rfl ?_
  refine Bod.go dc_412_95 rfl ?_
  refine Bod.aaldR (N := 1500) (b := g1) a rfl (by omega) (by omega) (by first | exact hq7 | (simp only [rIQ, rJQ, rAQ, rLQ, rVQ, rQ_holdE]; exact hq7)) dc_412_97 (mk_86 _) ht_5 ?_
  refine Bod.ast dc_412_98 (by rw [ml_412]; exact Nat.le_of_ble_eq_true rfl) ?_
  refine Bod.go dc_412_100 rfl ?_
  refine Bod.ic 0 (by decide) dc_412_102 ?_
  refine Bod.go dc_412_103 rfl ?_
  refine Bod.go dc_412_104 rfl ?_
  refine Bod.go dc_412_105 rfl ?_
  refine Bod.virt (r := []) dc_412_106 kr_412_764 ⟨Or.inl rfl, ow_399, cl_13⟩ (by rw [np_399]; rfl) (by rw [np_399]; rfl) (ob_of (mk_thing ag1 (by first | exact hz3 | (simp only [rIS, rJS, rAS, rLS, rVS, rQS, rS_hold]; exact hz3)))) (Nat.le_of_ble_eq_true rfl) (c4  ) ?_
  show Bod _ _ _ _ [_] _ _ _
  refine Bod.ist dc_412_109 (by rw [ml_412]; exact Nat.le_of_ble_eq_true rfl) ?_
  refine Bod.go dc_412_111 rfl ?_
  refine Bod.get dc_412_113 fr_412_531 (mk_thing ag (by first | exact hz4 | (simp only [rIS, rJS, rAS, rLS, rVS, rQS, rS_hold]; exact hz4))) rfl ?_
  refine Bod.eqI (nI fd0) (by first | assumption | (simp (disch := omega) only [rI, rIe, rA, rIA, rLA, rJA, rVI, rQI, rVA, rQA, upd_at,  rAI, rLI, rJI, nI_add, pk_sub, kc_0, kc_1, kc_2, kc_3, kc_4, kc_5, reduceIte, Nat.reduceEqDiff, Nat.add_zero, rI_hold, rI_hold, rL_hold, ht, hfd11, hfd0]; done) | (simp (disch := omega) only [rI, rIe, rA, rIA, rLA, rJA, rVI, rQI, rVA, rQA, upd_at,  rAI, rLI, rJI, nI_add, pk_sub, kc_0, kc_1, kc_2, kc_3, kc_4, kc_5, reduceIte, Nat.reduceEqDiff, Nat.add_zero, rI_hold, rI_hold, rL_hold, ht, hfd11, hfd0]; exact congrArg nI (by omega))) ?_
  refine Bod.ic 4 (by decide) dc_412_116 ?_
  refine Bod.icT dc_412_117 rfl (k2_eq_T (k_eq fd0 4 rfl rfl (by omega))) ?_
  refine Bod.go dc_412_158 rfl ?_
  refine Bod.go dc_412_159 rfl ?_
  refine Bod.get dc_412_160 fr_412_493 (mk_61 _) rfl ?_
  refine Bod.eqI (nI t1) (by first | assumption | (simp (disch := omega) only [rI, rIe, rA, rIA, rLA, rJA, rVI, rQI, rVA, rQA, upd_at,  rAI, rLI, rJI, nI_add, pk_sub, kc_0, kc_1, kc_2, kc_3, kc_4, kc_5, reduceIte, Nat.reduceEqDiff, Nat.add_zero, rI_hold, rI_hold, rL_hold, ht, hfd11, hfd0, ht1]; done) | (simp (disch := omega) only [rI, rIe, rA, rIA, rLA, rJA, rVI, rQI, rVA, rQA, upd_at,  rAI, rLI, rJI, nI_add, pk_sub, kc_0, kc_1, kc_2, kc_3, kc_4, kc_5, reduceIte, Nat.reduceEqDiff, Nat.add_zero, rI_hold, rI_hold, rL_hold, ht, hfd11, hfd0, ht1]; exact congrArg nI (by omega))) ?_
  refine Bod.ic 1 (by decide) dc_412_163 ?_
  refine Bod.subN (t1 - 1) (by omega) (by omega) dc_412_164 ?_
  refine Bod.put dc_412_165 fr_412_493 (mk_61 _) (Nat.le_of_ble_eq_true rfl) pf_14_51 (st_6151 _ _) (mu_I _ _ _) ?_
  refine Bod.go dc_412_168 rfl ?_
  refine Bod.go dc_412_169 rfl ?_
  refine Bod.get dc_412_171 fr_412_462 (mk_thing ag1 (by first | exact hz5 | (simp only [rIS, rJS, rAS, rLS, rVS, rQS, rS_hold]; exact hz5))) rfl ?_
  refine Bod.eqV (.ref r) (by first | exact hv1 | (simp only [rIV, rJV, rAV, rLV, rQV, rV, reduceIte, Nat.reduceEqDiff]; exact hv1)) ?_
  refine Bod.go dc_412_174 rfl ?_
  refine Bod.ialdN (N := N) a1 rfl (by omega) (by omega) dc_412_176 (mk_isI (by first | exact hg1 | exact isK_S (by simp only [rIS, rJS, rAS, rLS, rVS, rQS, rS_hold]) hg1)) ?_
  refine Bod.eqI (nI e) (by first | assumption | (simp (disch := omega) only [rI, rIe, rA, rIA, rLA, rJA, rVI, rQI, rVA, rQA, upd_at,  rAI, rLI, rJI, nI_add, pk_sub, kc_0, kc_1, kc_2, kc_3, kc_4, kc_5, reduceIte, Nat.reduceEqDiff, Nat.add_zero, rI_hold, rI_hold, rL_hold, ht, hfd11, hfd0, ht1, he]; done) | (simp (disch := omega) only [rI, rIe, rA, rIA, rLA, rJA, rVI, rQI, rVA, rQA, upd_at,  rAI, rLI, rJI, nI_add, pk_sub, kc_0, kc_1, kc_2, kc_3, kc_4, kc_5, reduceIte, Nat.reduceEqDiff, Nat.add_zero, rI_hold, rI_hold, rL_hold, ht, hfd11, hfd0, ht1, he]; exact congrArg nI (by omega))) ?_
  refine Bod.go dc_412_177 rfl ?_
  refine Bod.get dc_412_179 fr_412_465 (mk_thing ag1 (by first | exact hz5 | (simp only [rIS, rJS, rAS, rLS, rVS, rQS, rS_hold]; exact hz5))) rfl ?_
  refine Bod.eqV (.ref r1) (by first | exact hv2 | (simp only [rIV, rJV, rAV, rLV, rQV, rV, reduceIte, Nat.reduceEqDiff]; exact hv2)) ?_
  refine Bod.go dc_412_182 rfl ?_
  refine Bod.laldN (N := N1) a1 rfl (by omega) (by omega) dc_412_184 (mk_isL (by first | exact hg2 | exact isK_S (by simp only [rIS, rJS, rAS, rLS, rVS, rQS, rS_hold]) hg2)) ?_
  refine Bod.go dc_412_185 rfl ?_
  refine Bod.get dc_412_187 fr_412_627 (mk_thing ag1 (by first | exact hz5 | (simp only [rIS, rJS, rAS, rLS, rVS, rQS, rS_hold]; exact hz5))) rfl ?_
  refine Bod.eqV (.ref r2) (by first | exact hv3 | (simp only [rIV, rJV, rAV, rLV, rQV, rV, reduceIte, Nat.reduceEqDiff]; exact hv3)) ?_
  refine Bod.go dc_412_190 rfl ?_
  refine Bod.laldN (N := N2) a1 rfl (by omega) (by omega) dc_412_192 (mk_isL (by first | exact hg3 | exact isK_S (by simp only [rIS, rJS, rAS, rLS, rVS, rQS, rS_hold]) hg3)) ?_
  refine Bod.virt (r := []) dc_412_193 kr_412_549 ⟨Or.inl rfl, ow_352, cl_14⟩ (by rw [np_352]; rfl) (by rw [np_352]; rfl) (ob_of (mk_61 _)) (Nat.le_of_ble_eq_true rfl) (c5  ) ?_
  show Bod _ _ _ _ [] _ _ _
  refine Bod.ic 1 (by decide) dc_412_196 ?_
  exact Bod.retZ dc_412_197 rt_412 (Or.inr rfl)
theorem rGa_4 {d : Nat} {S : cS} {nm : Nat} {t : Nat} {S1 : cS} {o : Nat} {g : Nat} {zg : Nat} {S2 : cS} {fd11 : Nat} {S3 : cS} {a : Nat} {g1 : Nat} {zg1 : Nat} {S4 : cS} {a1 : Nat} {fd0 : Nat} {r : Nat} {N : Nat} {e : Nat} {t1 : Nat} {r1 : Nat} {N1 : Nat} {r2 : Nat} {N2 : Nat} {S5 : cS} (mnm : nm < 2 ^ 20) (ht : sI S 6151 = nI t) (mt : t < 20481) (b1 : 1 ≤ t) (c1 : Ans (d + 8) 363 [.ref 61, .int (nI (t - 1)), .int (nI 5)] S (some (.int (nI 1))) S1) (ho : (sL S1 92 (t - 1)).toInt32 = nI o) (mo : o < 1500) (ag : 108 ≤ g) (hq3 : sQ S1 86 o = some g) (c2 : Ans (d + 8) 399 [.ref g, .int (nI 0), .long ((nI nm).toInt64), .long 0] S1 (some (.int (Int32.ofInt (-1)))) S2) (hz1 : (sS S1)[g - 108]? = some (13, zg)) (hz2 : (sS S2)[g - 108]? = some (13, zg)) (hfd11 : sI S2 (100 * g + 11) = nI fd11) (mfd11 : fd11 < 2 ^ 20) (ma : a < 1500) (c3 : Ans (d + 8) 398 [.ref 61, .int (nI fd11), .int (nI nm)] S2 (some (.int (nI a))) S3) (ag1 : 108 ≤ g1) (hq7 : sQ S3 86 a = some g1) (ma1 : a1 < 2 ^ 20) (c4 : Ans (d + 8) 399 [.ref g1, .int (nI 0), .long ((nI nm).toInt64), .long 0] S3 (some (.int (nI a1))) S4) (hz3 : (sS S3)[g1 - 108]? = some (13, zg1)) (hz4 : (sS S4)[g - 108]? = some (13, zg)) (hfd0 : sI S4 (100 * g + 0) = nI fd0) (mfd0 : fd0 < 2 ^ 20) (b2 : fd0 ≠ 4) (hz5 : (sS S4)[g1 - 108]? = some (13, zg1)) (hv1 : sV S4 (100 * g1 + 2) = .ref r) (hg1 : isK S4 r 0 N) (mN : N < 2 ^ 20) (b3 : a1 < N) (he : sA S4 r a1 = nI e) (me : e < 2 ^ 20) (b4 : e ≠ 3) (ht1 : sI S4 6151 = nI t1) (mt1 : t1 < 20481) (b5 : 1 ≤ t1) (hv2 : sV S4 (100 * g1 + 4) = .ref r1) (hg2 : isK S4 r1 1 N1) (mN1 : N1 < 2 ^ 20) (b6 : a1 < N1) (hv3 : sV S4 (100 * g1 + 5) = .ref r2) (hg3 : isK S4 r2 1 N2) (mN2 : N2 < 2 ^ 20) (b7 : a1 < N2) (c5 : Ans (d + 8) 352 [.ref 61, .int (nI e), .long (sL (wI 6151 (nI (t1 - 1)) S4) r1 a1), .long (sL (wI 6151 (nI (t1 - 1)) S4) r2 a1)] (wI 6151 (nI (t1 - 1)) S4) none S5) : Bod (d + 8) 412 0 [(0, .ref 61), (1, .int (nI nm))] [] S (some (.int 1)) (S5) := by
  refine Bod.go dc_412_0 rfl ?_
  refine Bod.get dc_412_1 fr_412_493 (mk_61 _) rfl ?_
  refine Bod.eqI (nI t) (by first | assumption | rfl | exact congrArg nI (by omega) | (simp (disch := omega) only [rI, rIe, rA, rIA, rLA, rJA, rVI, rQI, rVA, rQA, upd_at,  rAI, rLI, rJI, nI_add, pk_sub, kc_0, kc_1, kc_2, kc_3, kc_4, kc_5, reduceIte, Nat.reduceEqDiff, Nat.add_zero, rI_hold, rI_hold, rL_hold, ht]; done)) ?_
  refine Bod.ic 1 (by decide) dc_412_4 ?_
  refine Bod.subN (t - 1) (by omega) (by omega) dc_412_5 ?_
  refine Bod.istn dc_412_6 (by rw [ml_412]; exact Nat.le_of_ble_eq_true rfl) ?_
  refine Bod.go dc_412_7 rfl ?_
  refine Bod.go dc_412_8 rfl ?_
  refine Bod.ic 5 (by decide) dc_412_9 ?_
  refine Bod.virt (r := []) dc_412_10 kr_412_683 ⟨Or.inl rfl, ow_363, cl_14⟩ (by rw [np_363]; rfl) (by rw [np_363]; rfl) (ob_of (mk_61 _)) (Nat.le_of_ble_eq_true rfl) (c1  ) ?_
  show Bod _ _ _ _ [_] _ _ _
  refine Bod.ifT dc_412_13 rfl (k1_ne_T (k_ne 1 0 rfl rfl (by omega) (by omega) (by omega))) ?_
  refine Bod.go dc_412_31 rfl ?_
  refine Bod.get dc_412_32 fr_412_499 (mk_61 _) rfl ?_
  refine Bod.go dc_412_35 rfl ?_
  refine Bod.laldN (t - 1) rfl (by omega) (by omega) dc_412_36 (mk_92 _) ?_
  refine Bod.go dc_412_37 rfl ?_
  refine Bod.eqI (nI o) (by first | exact ho | (simp only [rI, rIe, rA, rIA, rLA, rJA, rVI, rQI, rVA, rQA, upd_at,  rAI, rLI, rJI, nI_add, pk_sub, kc_0, kc_1, kc_2, kc_3, kc_4, kc_5, reduceIte, Nat.reduceEqDiff, Nat.add_zero, rI_hold, rI_hold, rL_hold]; exact ho)) ?_
  refine Bod.istn dc_412_38 (by rw [ml_412]; exact Nat.le_of_ble_eq_true rfl) ?_
  refine Bod.go dc_412_39 rfl ?_
  refine Bod.get dc_412_40 fr_412_485 (mk_61 _) rfl ?_
  refine Bod.go dc_412_43 rfl ?_
  refine Bod.aaldR (N := 1500) (b := g) o rfl (by omega) (by omega) (by first | exact hq3 | (simp only [rIQ, rJQ, rAQ, rLQ, rVQ, rQ_holdE]; exact hq3)) dc_412_44 (mk_86 _) ht_5 ?_
  refine Bod.ast dc_412_45 (by rw [ml_412]; exact Nat.le_of_ble_eq_true rfl) ?_
  refine Bod.go dc_412_47 rfl ?_
  refine Bod.ic 0 (by decide) dc_412_49 ?_
  refine Bod.go dc_412_50 rfl ?_
  refine Bod.go dc_412_51 rfl ?_
  refine Bod.go dc_412_52 rfl ?_
  refine Bod.virt (r := []) dc_412_53 kr_412_764 ⟨Or.inl rfl, ow_399, cl_13⟩ (by rw [np_399]; rfl) (by rw [np_399]; rfl) (ob_of (mk_thing ag (by first | exact hz1 | (simp only [rIS, rJS, rAS, rLS, rVS, rQS, rS_hold]; exact hz1)))) (Nat.le_of_ble_eq_true rfl) (c2  ) ?_
  show Bod _ _ _ _ [_] _ _ _
  refine Bod.ist dc_412_56 (by rw [ml_412]; exact Nat.le_of_ble_eq_true rfl) ?_
  refine Bod.go dc_412_58 rfl ?_
  refine Bod.ifT dc_412_60 rfl (by decide) ?_
  refine Bod.go dc_412_67 rfl ?_
  refine Bod.go dc_412_68 rfl ?_
  refine Bod.get dc_412_70 fr_412_472 (mk_thing ag (by first | exact hz2 | (simp only [rIS, rJS, rAS, rLS, rVS, rQS, rS_hold]; exact hz2))) rfl ?_
  refine Bod.eqI (nI fd11) (by first | assumption | (simp (disch := omega) only [rI, rIe, rA, rIA, rLA, rJA, rVI, rQI, rVA, rQA, upd_at,  rAI, rLI, rJI, nI_add, pk_sub, kc_0, kc_1, kc_2, kc_3, kc_4, kc_5, reduceIte, Nat.reduceEqDiff, Nat.add_zero, rI_hold, rI_hold, rL_hold, ht, hfd11]; done) | (simp (disch := omega) only [rI, rIe, rA, rIA, rLA, rJA, rVI, rQI, rVA, rQA, upd_at,  rAI, rLI, rJI, nI_add, pk_sub, kc_0, kc_1, kc_2, kc_3, kc_4, kc_5, reduceIte, Nat.reduceEqDiff, Nat.add_zero, rI_hold, rI_hold, rL_hold, ht, hfd11]; exact congrArg nI (by omega))) ?_
  refine Bod.go dc_412_73 rfl ?_
  refine Bod.virt (r := []) dc_412_74 kr_412_777 ⟨Or.inl rfl, ow_398, cl_14⟩ (by rw [np_398]; rfl) (by rw [np_398]; rfl) (ob_of (mk_61 _)) (Nat.le_of_ble_eq_true rfl) (c3  ) ?_
  show Bod _ _ _ _ [_] _ _ _
  refine Bod.ist dc_412_77 (by rw [ml_412]; exact Nat.le_of_ble_eq_true rfl) ?_
  refine Bod.go dc_412_79 rfl ?_
  refine Bod.ifT dc_412_81 rfl (k1_ge_T a rfl (by omega)) ?_
  refine Bod.go dc_412_91 rfl ?_
  refine Bod.get dc_412_92 fr_412_485 (mk_61 _) rfl ?_
  refine Bod.go dc_412_95 rfl ?_
  refine Bod.aaldR (N := 1500) (b := g1) a rfl (by omega) (by omega) (by first | exact hq7 | (simp only [rIQ, rJQ, rAQ, rLQ, rVQ, rQ_holdE]; exact hq7)) dc_412_97 (mk_86 _) ht_5 ?_
  refine Bod.ast dc_412_98 (by rw [ml_412]; exact Nat.le_of_ble_eq_true rfl) ?_
  refine Bod.go dc_412_100 rfl ?_
  refine Bod.ic 0 (by decide) dc_412_102 ?_
  refine Bod.go dc_412_103 rfl ?_
  refine Bod.go dc_412_104 rfl ?_
  refine Bod.go dc_412_105 rfl ?_
  refine Bod.virt (r := []) dc_412_106 kr_412_764 ⟨Or.inl rfl, ow_399, cl_13⟩ (by rw [np_399]; rfl) (by rw [np_399]; rfl) (ob_of (mk_thing ag1 (by first | exact hz3 | (simp only [rIS, rJS, rAS, rLS, rVS, rQS, rS_hold]; exact hz3)))) (Nat.le_of_ble_eq_true rfl) (c4  ) ?_
  show Bod _ _ _ _ [_] _ _ _
  refine Bod.ist dc_412_109 (by rw [ml_412]; exact Nat.le_of_ble_eq_true rfl) ?_
  refine Bod.go dc_412_111 rfl ?_
  refine Bod.get dc_412_113 fr_412_531 (mk_thing ag (by first | exact hz4 | (simp only [rIS, rJS, rAS, rLS, rVS, rQS, rS_hold]; exact hz4))) rfl ?_
  refine Bod.eqI (nI fd0) (by first | assumption | (simp (disch := omega) only [rI, rIe, rA, rIA, rLA, rJA, rVI, rQI, rVA, rQA, upd_at,  rAI, rLI, rJI, nI_add, pk_sub, kc_0, kc_1, kc_2, kc_3, kc_4, kc_5, reduceIte, Nat.reduceEqDiff, Nat.add_zero, rI_hold, rI_hold, rL_hold, ht, hfd11, hfd0]; done) | (simp (disch := omega) only [rI, rIe, rA, rIA, rLA, rJA, rVI, rQI, rVA, rQA, upd_at,  rAI, rLI, rJI, nI_add, pk_sub, kc_0, kc_1, kc_2, kc_3, kc_4, kc_5, reduceIte, Nat.reduceEqDiff, Nat.add_zero, rI_hold, rI_hold, rL_hold, ht, hfd11, hfd0]; exact congrArg nI (by omega))) ?_
  refine Bod.ic 4 (by decide) dc_412_116 ?_
  refine Bod.icF dc_412_117 rfl (k2_eq_F (k_ne fd0 4 rfl rfl (by omega) (by omega) (by omega))) ?_
  refine Bod.go dc_412_120 rfl ?_
  refine Bod.ifF dc_412_122 rfl (by decide) ?_
  refine Bod.go dc_412_125 rfl ?_
  refine Bod.get dc_412_127 fr_412_462 (mk_thing ag1 (by first | exact hz5 | (simp only [rIS, rJS, rAS, rLS, rVS, rQS, rS_hold]; exact hz5))) rfl ?_
  refine Bod.eqV (.ref r) (by first | exact hv1 | (simp only [rIV, rJV, rAV, rLV, rQV, rV, reduceIte, Nat.reduceEqDiff]; exact hv1)) ?_
  refine Bod.go dc_412_130 rfl ?_
  refine Bod.ialdN (N := N) a1 rfl (by omega) (by omega) dc_412_132 (mk_isI (by first | exact hg1 | exact isK_S (by simp only [rIS, rJS, rAS, rLS, rVS, rQS, rS_hold]) hg1)) ?_
  refine Bod.eqI (nI e) (by first | assumption | (simp (disch := omega) only [rI, rIe, rA, rIA, rLA, rJA, rVI, rQI, rVA, rQA, upd_at,  rAI, rLI, rJI, nI_add, pk_sub, kc_0, kc_1, kc_2, kc_3, kc_4, kc_5, reduceIte, Nat.reduceEqDiff, Nat.add_zero, rI_hold, rI_hold, rL_hold, ht, hfd11, hfd0, he]; done) | (simp (disch := omega) only [rI, rIe, rA, rIA, rLA, rJA, rVI, rQI, rVA, rQA, upd_at,  rAI, rLI, rJI, nI_add, pk_sub, kc_0, kc_1, kc_2, kc_3, kc_4, kc_5, reduceIte, Nat.reduceEqDiff, Nat.add_zero, rI_hold, rI_hold, rL_hold, ht, hfd11, hfd0, he]; exact congrArg nI (by omega))) ?_
  refine Bod.ic 3 (by decide) dc_412_133 ?_
  refine Bod.icT dc_412_134 rfl (k2_ne_T (k_ne e 3 rfl rfl (by omega) (by omega) (by omega))) ?_
  refine Bod.go dc_412_158 rfl ?_
  refine Bod.go dc_412_159 rfl ?_
  refine Bod.get dc_412_160 fr_412_493 (mk_61 _) rfl ?_
  refine Bod.eqI (nI t1) (by first | assumption | (simp (disch := omega) only [rI, rIe, rA, rIA, rLA, rJA, rVI, rQI, rVA, rQA, upd_at,  rAI, rLI, rJI, nI_add, pk_sub, kc_0, kc_1, kc_2, kc_3, kc_4, kc_5, reduceIte, Nat.reduceEqDiff, Nat.add_zero, rI_hold, rI_hold, rL_hold, ht, hfd11, hfd0, he, ht1]; done) | (simp (disch := omega) only [rI, rIe, rA, rIA, rLA, rJA, rVI, rQI, rVA, rQA, upd_at,  rAI, rLI, rJI, nI_add, pk_sub, kc_0, kc_1, kc_2, kc_3, kc_4, kc_5, reduceIte, Nat.reduceEqDiff, Nat.add_zero, rI_hold, rI_hold, rL_hold, ht, hfd11, hfd0, he, ht1]; exact congrArg nI (by omega))) ?_
  refine Bod.ic 1 (by decide) dc_412_163 ?_
  refine Bod.subN (t1 - 1) (by omega) (by omega) dc_412_164 ?_
  refine Bod.put dc_412_165 fr_412_493 (mk_61 _) (Nat.le_of_ble_eq_true rfl) pf_14_51 (st_6151 _ _) (mu_I _ _ _) ?_
  refine Bod.go dc_412_168 rfl ?_
  refine Bod.go dc_412_169 rfl ?_
  refine Bod.get dc_412_171 fr_412_462 (mk_thing ag1 (by first | exact hz5 | (simp only [rIS, rJS, rAS, rLS, rVS, rQS, rS_hold]; exact hz5))) rfl ?_
  refine Bod.eqV (.ref r) (by first | exact hv1 | (simp only [rIV, rJV, rAV, rLV, rQV, rV, reduceIte, Nat.reduceEqDiff]; exact hv1)) ?_
  refine Bod.go dc_412_174 rfl ?_
  refine Bod.ialdN (N := N) a1 rfl (by omega) (by omega) dc_412_176 (mk_isI (by first | exact hg1 | exact isK_S (by simp only [rIS, rJS, rAS, rLS, rVS, rQS, rS_hold]) hg1)) ?_
  refine Bod.eqI (nI e) (by first | assumption | (simp (disch := omega) only [rI, rIe, rA, rIA, rLA, rJA, rVI, rQI, rVA, rQA, upd_at,  rAI, rLI, rJI, nI_add, pk_sub, kc_0, kc_1, kc_2, kc_3, kc_4, kc_5, reduceIte, Nat.reduceEqDiff, Nat.add_zero, rI_hold, rI_hold, rL_hold, ht, hfd11, hfd0, he, ht1]; done) | (simp (disch := omega) only [rI, rIe, rA, rIA, rLA, rJA, rVI, rQI, rVA, rQA, upd_at,  rAI, rLI, rJI, nI_add, pk_sub, kc_0, kc_1, kc_2, kc_3, kc_4, kc_5, reduceIte, Nat.reduceEqDiff, Nat.add_zero, rI_hold, rI_hold, rL_hold, ht, hfd11, hfd0, he, ht1]; exact congrArg nI (by omega))) ?_
  refine Bod.go dc_412_177 rfl ?_
  refine Bod.get dc_412_179 fr_412_465 (mk_thing ag1 (by first | exact hz5 | (simp only [rIS, rJS, rAS, rLS, rVS, rQS, rS_hold]; exact hz5))) rfl ?_
  refine Bod.eqV (.ref r1) (by first | exact hv2 | (simp only [rIV, rJV, rAV, rLV, rQV, rV, reduceIte, Nat.reduceEqDiff]; exact hv2)) ?_
  refine Bod.go dc_412_182 rfl ?_
  refine Bod.laldN (N := N1) a1 rfl (by omega) (by omega) dc_412_184 (mk_isL (by first | exact hg2 | exact isK_S (by simp only [rIS, rJS, rAS, rLS, rVS, rQS, rS_hold]) hg2)) ?_
  refine Bod.go dc_412_185 rfl ?_
  refine Bod.get dc_412_187 fr_412_627 (mk_thing ag1 (by first | exact hz5 | (simp only [rIS, rJS, rAS, rLS, rVS, rQS, rS_hold]; exact hz5))) rfl ?_
  refine Bod.eqV (.ref r2) (by first | exact hv3 | (simp only [rIV, rJV, rAV, rLV, rQV, rV, reduceIte, Nat.reduceEqDiff]; exact hv3)) ?_
  refine Bod.go dc_412_190 rfl ?_
  refine Bod.laldN (N := N2) a1 rfl (by omega) (by omega) dc_412_192 (mk_isL (by first | exact hg3 | exact isK_S (by simp only [rIS, rJS, rAS, rLS, rVS, rQS, rS_hold]) hg3)) ?_
  refine Bod.virt (r := []) dc_412_193 kr_412_549 ⟨Or.inl rfl, ow_352, cl_14⟩ (by rw [np_352]; rfl) (by rw [np_352]; rfl) (ob_of (mk_61 _)) (Nat.le_of_ble_eq_true rfl) (c5  ) ?_
  show Bod _ _ _ _ [] _ _ _
  refine Bod.ic 1 (by decide) dc_412_196 ?_
  exact Bod.retZ dc_412_197 rt_412 (Or.inr rfl)
theorem rGa_5 {d : Nat} {S : cS} {nm : Nat} {t : Nat} {S1 : cS} {o : Nat} {g : Nat} {zg : Nat} {S2 : cS} {fd11 : Nat} {S3 : cS} {a : Nat} {g1 : Nat} {zg1 : Nat} {S4 : cS} {a1 : Nat} {fd0 : Nat} {r : Nat} {N : Nat} {e : Nat} {r1 : Nat} {N1 : Nat} {o1 : Nat} {g2 : Nat} {zg2 : Nat} {fd01 : Nat} {S5 : cS} {a2 : Nat} {g3 : Nat} {zg3 : Nat} {r2 : Nat} {N2 : Nat} {o2 : Nat} {t1 : Nat} {S6 : cS} (mnm : nm < 2 ^ 20) (ht : sI S 6151 = nI t) (mt : t < 20481) (b1 : 1 ≤ t) (c1 : Ans (d + 8) 363 [.ref 61, .int (nI (t - 1)), .int (nI 5)] S (some (.int (nI 1))) S1) (ho : (sL S1 92 (t - 1)).toInt32 = nI o) (mo : o < 1500) (ag : 108 ≤ g) (hq3 : sQ S1 86 o = some g) (c2 : Ans (d + 8) 399 [.ref g, .int (nI 0), .long ((nI nm).toInt64), .long 0] S1 (some (.int (Int32.ofInt (-1)))) S2) (hz1 : (sS S1)[g - 108]? = some (13, zg)) (hz2 : (sS S2)[g - 108]? = some (13, zg)) (hfd11 : sI S2 (100 * g + 11) = nI fd11) (mfd11 : fd11 < 2 ^ 20) (ma : a < 1500) (c3 : Ans (d + 8) 398 [.ref 61, .int (nI fd11), .int (nI nm)] S2 (some (.int (nI a))) S3) (ag1 : 108 ≤ g1) (hq7 : sQ S3 86 a = some g1) (ma1 : a1 < 2 ^ 20) (c4 : Ans (d + 8) 399 [.ref g1, .int (nI 0), .long ((nI nm).toInt64), .long 0] S3 (some (.int (nI a1))) S4) (hz3 : (sS S3)[g1 - 108]? = some (13, zg1)) (hz4 : (sS S4)[g - 108]? = some (13, zg)) (hfd0 : sI S4 (100 * g + 0) = nI fd0) (mfd0 : fd0 < 2 ^ 20) (b2 : fd0 ≠ 4) (hz5 : (sS S4)[g1 - 108]? = some (13, zg1)) (hv1 : sV S4 (100 * g1 + 2) = .ref r) (hg1 : isK S4 r 0 N) (mN : N < 2 ^ 20) (b3 : a1 < N) (he : sA S4 r a1 = nI e) (me : e < 2 ^ 20) (b4 : e = 3) (hv2 : sV S4 (100 * g1 + 4) = .ref r1) (hg2 : isK S4 r1 1 N1) (mN1 : N1 < 2 ^ 20) (b5 : a1 < N1) (ho1 : (sL S4 r1 a1).toInt32 = nI o1) (mo1 : o1 < 1500) (ag2 : 108 ≤ g2) (hq16 : sQ S4 86 o1 = some g2) (hz6 : (sS S4)[g2 - 108]? = some (13, zg2)) (hfd01 : sI S4 (100 * g2 + 0) = nI fd01) (mfd01 : fd01 < 2 ^ 20) (b6 : fd01 = 3) (ma2 : a2 < 1500) (c5 : Ans (d + 8) 364 [.ref 61, .int (nI 6)] S4 (some (.int (nI a2))) S5) (ag3 : 108 ≤ g3) (hq19 : sQ S5 86 a2 = some g3) (hz7 : (sS S5)[g1 - 108]? = some (13, zg1)) (hv3 : sV S5 (100 * g1 + 4) = .ref r2) (hg3 : isK S5 r2 1 N2) (mN2 : N2 < 2 ^ 20) (b7 : a1 < N2) (ho2 : (sL S5 r2 a1).toInt32 = nI o2) (mo2 : o2 < 1500) (hz8 : (sS S5)[g3 - 108]? = some (13, zg3)) (ht1 : sI (wI (100 * g3 + 12) (nI o) (wI (100 * g3 + 11) (nI o2) S5)) 6151 = nI t1) (mt1 : t1 < 20481) (b8 : 1 ≤ t1) (c6 : Ans (d + 8) 352 [.ref 61, .int (nI 3), .long ((nI a2).toInt64), .long 0] (wI 6151 (nI (t1 - 1)) (wI (100 * g3 + 12) (nI o) (wI (100 * g3 + 11) (nI o2) S5))) none S6) : Bod (d + 8) 412 0 [(0, .ref 61), (1, .int (nI nm))] [] S (some (.int 1)) (S6) := by
  refine Bod.go dc_412_0 rfl ?_
  refine Bod.get dc_412_1 fr_412_493 (mk_61 _) rfl ?_
  refine Bod.eqI (nI t) (by first | assumption | rfl | exact congrArg nI (by omega) | (simp (disch := omega) only [rI, rIe, rA, rIA, rLA, rJA, rVI, rQI, rVA, rQA, upd_at,  rAI, rLI, rJI, nI_add, pk_sub, kc_0, kc_1, kc_2, kc_3, kc_4, kc_5, reduceIte, Nat.reduceEqDiff, Nat.add_zero, rI_hold, rI_hold, rL_hold, ht]; done)) ?_
  refine Bod.ic 1 (by decide) dc_412_4 ?_
  refine Bod.subN (t - 1) (by omega) (by omega) dc_412_5 ?_
  refine Bod.istn dc_412_6 (by rw [ml_412]; exact Nat.le_of_ble_eq_true rfl) ?_
  refine Bod.go dc_412_7 rfl ?_
  refine Bod.go dc_412_8 rfl ?_
  refine Bod.ic 5 (by decide) dc_412_9 ?_
  refine Bod.virt (r := []) dc_412_10 kr_412_683 ⟨Or.inl rfl, ow_363, cl_14⟩ (by rw [np_363]; rfl) (by rw [np_363]; rfl) (ob_of (mk_61 _)) (Nat.le_of_ble_eq_true rfl) (c1  ) ?_
  show Bod _ _ _ _ [_] _ _ _
  refine Bod.ifT dc_412_13 rfl (k1_ne_T (k_ne 1 0 rfl rfl (by omega) (by omega) (by omega))) ?_
  refine Bod.go dc_412_31 rfl ?_
  refine Bod.get dc_412_32 fr_412_499 (mk_61 _) rfl ?_
  refine Bod.go dc_412_35 rfl ?_
  refine Bod.laldN (t - 1) rfl (by omega) (by omega) dc_412_36 (mk_92 _) ?_
  refine Bod.go dc_412_37 rfl ?_
  refine Bod.eqI (nI o) (by first | exact ho | (simp only [rI, rIe, rA, rIA, rLA, rJA, rVI, rQI, rVA, rQA, upd_at,  rAI, rLI, rJI, nI_add, pk_sub, kc_0, kc_1, kc_2, kc_3, kc_4, kc_5, reduceIte, Nat.reduceEqDiff, Nat.add_zero, rI_hold, rI_hold, rL_hold]; exact ho)) ?_
  refine Bod.istn dc_412_38 (by rw [ml_412]; exact Nat.le_of_ble_eq_true rfl) ?_
  refine Bod.go dc_412_39 rfl ?_
  refine Bod.get dc_412_40 fr_412_485 (mk_61 _) rfl ?_
  refine Bod.go dc_412_43 rfl ?_
  refine Bod.aaldR (N := 1500) (b := g) o rfl (by omega) (by omega) (by first | exact hq3 | (simp only [rIQ, rJQ, rAQ, rLQ, rVQ, rQ_holdE]; exact hq3)) dc_412_44 (mk_86 _) ht_5 ?_
  refine Bod.ast dc_412_45 (by rw [ml_412]; exact Nat.le_of_ble_eq_true rfl) ?_
  refine Bod.go dc_412_47 rfl ?_
  refine Bod.ic 0 (by decide) dc_412_49 ?_
  refine Bod.go dc_412_50 rfl ?_
  refine Bod.go dc_412_51 rfl ?_
  refine Bod.go dc_412_52 rfl ?_
  refine Bod.virt (r := []) dc_412_53 kr_412_764 ⟨Or.inl rfl, ow_399, cl_13⟩ (by rw [np_399]; rfl) (by rw [np_399]; rfl) (ob_of (mk_thing ag (by first | exact hz1 | (simp only [rIS, rJS, rAS, rLS, rVS, rQS, rS_hold]; exact hz1)))) (Nat.le_of_ble_eq_true rfl) (c2  ) ?_
  show Bod _ _ _ _ [_] _ _ _
  refine Bod.ist dc_412_56 (by rw [ml_412]; exact Nat.le_of_ble_eq_true rfl) ?_
  refine Bod.go dc_412_58 rfl ?_
  refine Bod.ifT dc_412_60 rfl (by decide) ?_
  refine Bod.go dc_412_67 rfl ?_
  refine Bod.go dc_412_68 rfl ?_
  refine Bod.get dc_412_70 fr_412_472 (mk_thing ag (by first | exact hz2 | (simp only [rIS, rJS, rAS, rLS, rVS, rQS, rS_hold]; exact hz2))) rfl ?_
  refine Bod.eqI (nI fd11) (by first | assumption | (simp (disch := omega) only [rI, rIe, rA, rIA, rLA, rJA, rVI, rQI, rVA, rQA, upd_at,  rAI, rLI, rJI, nI_add, pk_sub, kc_0, kc_1, kc_2, kc_3, kc_4, kc_5, reduceIte, Nat.reduceEqDiff, Nat.add_zero, rI_hold, rI_hold, rL_hold, ht, hfd11]; done) | (simp (disch := omega) only [rI, rIe, rA, rIA, rLA, rJA, rVI, rQI, rVA, rQA, upd_at,  rAI, rLI, rJI, nI_add, pk_sub, kc_0, kc_1, kc_2, kc_3, kc_4, kc_5, reduceIte, Nat.reduceEqDiff, Nat.add_zero, rI_hold, rI_hold, rL_hold, ht, hfd11]; exact congrArg nI (by omega))) ?_
  refine Bod.go dc_412_73 rfl ?_
  refine Bod.virt (r := []) dc_412_74 kr_412_777 ⟨Or.inl rfl, ow_398, cl_14⟩ (by rw [np_398]; rfl) (by rw [np_398]; rfl) (ob_of (mk_61 _)) (Nat.le_of_ble_eq_true rfl) (c3  ) ?_
  show Bod _ _ _ _ [_] _ _ _
  refine Bod.ist dc_412_77 (by rw [ml_412]; exact Nat.le_of_ble_eq_true rfl) ?_
  refine Bod.go dc_412_79 rfl ?_
  refine Bod.ifT dc_412_81 rfl (k1_ge_T a rfl (by omega)) ?_
  refine Bod.go dc_412_91 rfl ?_
  refine Bod.get dc_412_92 fr_412_485 (mk_61 _) rfl ?_
  refine Bod.go dc_412_95 rfl ?_
  refine Bod.aaldR (N := 1500) (b := g1) a rfl (by omega) (by omega) (by first | exact hq7 | (simp only [rIQ, rJQ, rAQ, rLQ, rVQ, rQ_holdE]; exact hq7)) dc_412_97 (mk_86 _) ht_5 ?_
  refine Bod.ast dc_412_98 (by rw [ml_412]; exact Nat.le_of_ble_eq_true rfl) ?_
  refine Bod.go dc_412_100 rfl ?_
  refine Bod.ic 0 (by decide) dc_412_102 ?_
  refine Bod.go dc_412_103 rfl ?_
  refine Bod.go dc_412_104 rfl ?_
  refine Bod.go dc_412_105 rfl ?_
  refine Bod.virt (r := []) dc_412_106 kr_412_764 ⟨Or.inl rfl, ow_399, cl_13⟩ (by rw [np_399]; rfl) (by rw [np_399]; rfl) (ob_of (mk_thing ag1 (by first | exact hz3 | (simp only [rIS, rJS, rAS, rLS, rVS, rQS, rS_hold]; exact hz3)))) (Nat.le_of_ble_eq_true rfl) (c4  ) ?_
  show Bod _ _ _ _ [_] _ _ _
  refine Bod.ist dc_412_109 (by rw [ml_412]; exact Nat.le_of_ble_eq_true rfl) ?_
  refine Bod.go dc_412_111 rfl ?_
  refine Bod.get dc_412_113 fr_412_531 (mk_thing ag (by first | exact hz4 | (simp only [rIS, rJS, rAS, rLS, rVS, rQS, rS_hold]; exact hz4))) rfl ?_
  refine Bod.eqI (nI fd0) (by first | assumption | (simp (disch := omega) only [rI, rIe, rA, rIA, rLA, rJA, rVI, rQI, rVA, rQA, upd_at,  rAI, rLI, rJI, nI_add, pk_sub, kc_0, kc_1, kc_2, kc_3, kc_4, kc_5, reduceIte, Nat.reduceEqDiff, Nat.add_zero, rI_hold, rI_hold, rL_hold, ht, hfd11, hfd0]; done) | (simp (disch := omega) only [rI, rIe, rA, rIA, rLA, rJA, rVI, rQI, rVA, rQA, upd_at,  rAI, rLI, rJI, nI_add, pk_sub, kc_0, kc_1, kc_2, kc_3, kc_4, kc_5, reduceIte, Nat.reduceEqDiff, Nat.add_zero, rI_hold, rI_hold, rL_hold, ht, hfd11, hfd0]; exact congrArg nI (by omega))) ?_
  refine Bod.ic 4 (by decide) dc_412_116 ?_
  refine Bod.icF dc_412_117 rfl (k2_eq_F (k_ne fd0 4 rfl rfl (by omega) (by omega) (by omega))) ?_
  refine Bod.go dc_412_120 rfl ?_
  refine Bod.ifF dc_412_122 rfl (by decide) ?_
  refine Bod.go dc_412_125 rfl ?_
  refine Bod.get dc_412_127 fr_412_462 (mk_thing ag1 (by first | exact hz5 | (simp only [rIS, rJS, rAS, rLS, rVS, rQS, rS_hold]; exact hz5))) rfl ?_
  refine Bod.eqV (.ref r) (by first | exact hv1 | (simp only [rIV, rJV, rAV, rLV, rQV, rV, reduceIte, Nat.reduceEqDiff]; exact hv1)) ?_
  refine Bod.go dc_412_130 rfl ?_
  refine Bod.ialdN (N := N) a1 rfl (by omega) (by omega) dc_412_132 (mk_isI (by first | exact hg1 | exact isK_S (by simp only [rIS, rJS, rAS, rLS, rVS, rQS, rS_hold]) hg1)) ?_
  refine Bod.eqI (nI e) (by first | assumption | (simp (disch := omega) only [rI, rIe, rA, rIA, rLA, rJA, rVI, rQI, rVA, rQA, upd_at,  rAI, rLI, rJI, nI_add, pk_sub, kc_0, kc_1, kc_2, kc_3, kc_4, kc_5, reduceIte, Nat.reduceEqDiff, Nat.add_zero, rI_hold, rI_hold, rL_hold, ht, hfd11, hfd0, he]; done) | (simp (disch := omega) only [rI, rIe, rA, rIA, rLA, rJA, rVI, rQI, rVA, rQA, upd_at,  rAI, rLI, rJI, nI_add, pk_sub, kc_0, kc_1, kc_2, kc_3, kc_4, kc_5, reduceIte, Nat.reduceEqDiff, Nat.add_zero, rI_hold, rI_hold, rL_hold, ht, hfd11, hfd0, he]; exact congrArg nI (by omega))) ?_
  refine Bod.ic 3 (by decide) dc_412_133 ?_
  refine Bod.icF dc_412_134 rfl (k2_ne_F (k_eq e 3 rfl rfl (by omega))) ?_
  refine Bod.go dc_412_137 rfl ?_
  refine Bod.get dc_412_138 fr_412_485 (mk_61 _) rfl ?_
  refine Bod.go dc_412_141 rfl ?_
  refine Bod.get dc_412_143 fr_412_465 (mk_thing ag1 (by first | exact hz5 | (simp only [rIS, rJS, rAS, rLS, rVS, rQS, rS_hold]; exact hz5))) rfl ?_
  refine Bod.eqV (.ref r1) (by first | exact hv2 | (simp only [rIV, rJV, rAV, rLV, rQV, rV, reduceIte, Nat.reduceEqDiff]; exact hv2)) ?_
  refine Bod.go dc_412_146 rfl ?_
  refine Bod.laldN (N := N1) a1 rfl (by omega) (by omega) dc_412_148 (mk_isL (by first | exact hg2 | exact isK_S (by simp only [rIS, rJS, rAS, rLS, rVS, rQS, rS_hold]) hg2)) ?_
  refine Bod.go dc_412_149 rfl ?_
  refine Bod.eqI (nI o1) (by first | exact ho1 | (simp only [rI, rIe, rA, rIA, rLA, rJA, rVI, rQI, rVA, rQA, upd_at,  rAI, rLI, rJI, nI_add, pk_sub, kc_0, kc_1, kc_2, kc_3, kc_4, kc_5, reduceIte, Nat.reduceEqDiff, Nat.add_zero, rI_hold, rI_hold, rL_hold]; exact ho1)) ?_
  refine Bod.aaldR (N := 1500) (b := g2) o1 rfl (by omega) (by omega) (by first | exact hq16 | (simp only [rIQ, rJQ, rAQ, rLQ, rVQ, rQ_holdE]; exact hq16)) dc_412_150 (mk_86 _) ht_5 ?_
  refine Bod.get dc_412_151 fr_412_531 (mk_thing ag2 (by first | exact hz6 | (simp only [rIS, rJS, rAS, rLS, rVS, rQS, rS_hold]; exact hz6))) rfl ?_
  refine Bod.eqI (nI fd01) (by first | assumption | (simp (disch := omega) only [rI, rIe, rA, rIA, rLA, rJA, rVI, rQI, rVA, rQA, upd_at,  rAI, rLI, rJI, nI_add, pk_sub, kc_0, kc_1, kc_2, kc_3, kc_4, kc_5, reduceIte, Nat.reduceEqDiff, Nat.add_zero, rI_hold, rI_hold, rL_hold, ht, hfd11, hfd0, he, hfd01]; done) | (simp (disch := omega) only [rI, rIe, rA, rIA, rLA, rJA, rVI, rQI, rVA, rQA, upd_at,  rAI, rLI, rJI, nI_add, pk_sub, kc_0, kc_1, kc_2, kc_3, kc_4, kc_5, reduceIte, Nat.reduceEqDiff, Nat.add_zero, rI_hold, rI_hold, rL_hold, ht, hfd11, hfd0, he, hfd01]; exact congrArg nI (by omega))) ?_
  refine Bod.ic 3 (by decide) dc_412_154 ?_
  refine Bod.icT dc_412_155 rfl (k2_eq_T (k_eq fd01 3 rfl rfl (by omega))) ?_
  refine Bod.go dc_412_198 rfl ?_
  refine Bod.bip 6 (by decide) dc_412_199 ?_
  refine Bod.virt (r := []) dc_412_201 kr_412_686 ⟨Or.inl rfl, ow_364, cl_14⟩ (by rw [np_364]; rfl) (by rw [np_364]; rfl) (ob_of (mk_61 _)) (Nat.le_of_ble_eq_true rfl) (c5  ) ?_
  show Bod _ _ _ _ [_] _ _ _
  refine Bod.ist dc_412_204 (by rw [ml_412]; exact Nat.le_of_ble_eq_true rfl) ?_
  refine Bod.go dc_412_206 rfl ?_
  refine Bod.ifT dc_412_208 rfl (k1_ge_T a2 rfl (by omega)) ?_
  refine Bod.go dc_412_213 rfl ?_
  refine Bod.get dc_412_214 fr_412_485 (mk_61 _) rfl ?_
  refine Bod.go dc_412_217 rfl ?_
  refine Bod.aaldR (N := 1500) (b := g3) a2 rfl (by omega) (by omega) (by first | exact hq19 | (simp only [rIQ, rJQ, rAQ, rLQ, rVQ, rQ_holdE]; exact hq19)) dc_412_219 (mk_86 _) ht_5 ?_
  refine Bod.go dc_412_220 rfl ?_
  refine Bod.get dc_412_222 fr_412_465 (mk_thing ag1 (by first | exact hz7 | (simp only [rIS, rJS, rAS, rLS, rVS, rQS, rS_hold]; exact hz7))) rfl ?_
  refine Bod.eqV (.ref r2) (by first | exact hv3 | (simp only [rIV, rJV, rAV, rLV, rQV, rV, reduceIte, Nat.reduceEqDiff]; exact hv3)) ?_
  refine Bod.go dc_412_225 rfl ?_
  refine Bod.laldN (N := N2) a1 rfl (by omega) (by omega) dc_412_227 (mk_isL (by first | exact hg3 | exact isK_S (by simp only [rIS, rJS, rAS, rLS, rVS, rQS, rS_hold]) hg3)) ?_
  refine Bod.go dc_412_228 rfl ?_
  refine Bod.eqI (nI o2) (by first | exact ho2 | (simp only [rI, rIe, rA, rIA, rLA, rJA, rVI, rQI, rVA, rQA, upd_at,  rAI, rLI, rJI, nI_add, pk_sub, kc_0, kc_1, kc_2, kc_3, kc_4, kc_5, reduceIte, Nat.reduceEqDiff, Nat.add_zero, rI_hold, rI_hold, rL_hold]; exact ho2)) ?_
  refine Bod.put dc_412_229 fr_412_472 (mk_thing ag3 (by first | exact hz8 | (simp only [rIS, rJS, rAS, rLS, rVS, rQS, rS_hold]; exact hz8))) (Nat.le_of_ble_eq_true rfl) pf_13_11 (st_thing_11 ag3 (by first | exact hz8 | (simp only [rIS, rJS, rAS, rLS, rVS, rQS, rS_hold]; exact hz8))) (mu_I _ _ _) ?_
  refine Bod.go dc_412_232 rfl ?_
  refine Bod.get dc_412_233 fr_412_485 (mk_61 _) rfl ?_
  refine Bod.go dc_412_236 rfl ?_
  refine Bod.aaldR (N := 1500) (b := g3) a2 rfl (by omega) (by omega) (by first | exact hq19 | (simp only [rIQ, rJQ, rAQ, rLQ, rVQ, rQ_holdE]; exact hq19)) dc_412_238 (mk_86 _) ht_5 ?_
  refine Bod.go dc_412_239 rfl ?_
  refine Bod.put dc_412_240 fr_412_475 (mk_thing ag3 (by first | exact hz8 | (simp only [rIS, rJS, rAS, rLS, rVS, rQS, rS_hold]; exact hz8))) (Nat.le_of_ble_eq_true rfl) pf_13_12 (st_thing_12 ag3 (by first | exact hz8 | (simp only [rIS, rJS, rAS, rLS, rVS, rQS, rS_hold]; exact hz8))) (mu_I _ _ _) ?_
  refine Bod.go dc_412_243 rfl ?_
  refine Bod.go dc_412_244 rfl ?_
  refine Bod.get dc_412_245 fr_412_493 (mk_61 _) rfl ?_
  refine Bod.eqI (nI t1) (by first | assumption | (simp (disch := omega) only [rI, rIe, rA, rIA, rLA, rJA, rVI, rQI, rVA, rQA, upd_at,  rAI, rLI, rJI, nI_add, pk_sub, kc_0, kc_1, kc_2, kc_3, kc_4, kc_5, reduceIte, Nat.reduceEqDiff, Nat.add_zero, rI_hold, rI_hold, rL_hold, ht, hfd11, hfd0, he, hfd01, ht1]; done) | (simp (disch := omega) only [rI, rIe, rA, rIA, rLA, rJA, rVI, rQI, rVA, rQA, upd_at,  rAI, rLI, rJI, nI_add, pk_sub, kc_0, kc_1, kc_2, kc_3, kc_4, kc_5, reduceIte, Nat.reduceEqDiff, Nat.add_zero, rI_hold, rI_hold, rL_hold, ht, hfd11, hfd0, he, hfd01, ht1]; exact congrArg nI (by omega))) ?_
  refine Bod.ic 1 (by decide) dc_412_248 ?_
  refine Bod.subN (t1 - 1) (by omega) (by omega) dc_412_249 ?_
  refine Bod.put dc_412_250 fr_412_493 (mk_61 _) (Nat.le_of_ble_eq_true rfl) pf_14_51 (st_6151 _ _) (mu_I _ _ _) ?_
  refine Bod.go dc_412_253 rfl ?_
  refine Bod.ic 3 (by decide) dc_412_254 ?_
  refine Bod.go dc_412_255 rfl ?_
  refine Bod.go dc_412_257 rfl ?_
  refine Bod.go dc_412_258 rfl ?_
  refine Bod.virt (r := []) dc_412_259 kr_412_549 ⟨Or.inl rfl, ow_352, cl_14⟩ (by rw [np_352]; rfl) (by rw [np_352]; rfl) (ob_of (mk_61 _)) (Nat.le_of_ble_eq_true rfl) (c6  ) ?_
  show Bod _ _ _ _ [] _ _ _
  refine Bod.ic 1 (by decide) dc_412_262 ?_
  exact Bod.retZ dc_412_263 rt_412 (Or.inr rfl)
theorem rGa_6 {d : Nat} {S : cS} {nm : Nat} {t : Nat} {S1 : cS} {o : Nat} {g : Nat} {zg : Nat} {S2 : cS} {fd11 : Nat} {S3 : cS} {a : Nat} {g1 : Nat} {zg1 : Nat} {S4 : cS} {a1 : Nat} {fd0 : Nat} {r : Nat} {N : Nat} {e : Nat} {r1 : Nat} {N1 : Nat} {o1 : Nat} {g2 : Nat} {zg2 : Nat} {fd01 : Nat} {S5 : cS} (mnm : nm < 2 ^ 20) (ht : sI S 6151 = nI t) (mt : t < 20481) (b1 : 1 ≤ t) (c1 : Ans (d + 8) 363 [.ref 61, .int (nI (t - 1)), .int (nI 5)] S (some (.int (nI 1))) S1) (ho : (sL S1 92 (t - 1)).toInt32 = nI o) (mo : o < 1500) (ag : 108 ≤ g) (hq3 : sQ S1 86 o = some g) (c2 : Ans (d + 8) 399 [.ref g, .int (nI 0), .long ((nI nm).toInt64), .long 0] S1 (some (.int (Int32.ofInt (-1)))) S2) (hz1 : (sS S1)[g - 108]? = some (13, zg)) (hz2 : (sS S2)[g - 108]? = some (13, zg)) (hfd11 : sI S2 (100 * g + 11) = nI fd11) (mfd11 : fd11 < 2 ^ 20) (ma : a < 1500) (c3 : Ans (d + 8) 398 [.ref 61, .int (nI fd11), .int (nI nm)] S2 (some (.int (nI a))) S3) (ag1 : 108 ≤ g1) (hq7 : sQ S3 86 a = some g1) (ma1 : a1 < 2 ^ 20) (c4 : Ans (d + 8) 399 [.ref g1, .int (nI 0), .long ((nI nm).toInt64), .long 0] S3 (some (.int (nI a1))) S4) (hz3 : (sS S3)[g1 - 108]? = some (13, zg1)) (hz4 : (sS S4)[g - 108]? = some (13, zg)) (hfd0 : sI S4 (100 * g + 0) = nI fd0) (mfd0 : fd0 < 2 ^ 20) (b2 : fd0 ≠ 4) (hz5 : (sS S4)[g1 - 108]? = some (13, zg1)) (hv1 : sV S4 (100 * g1 + 2) = .ref r) (hg1 : isK S4 r 0 N) (mN : N < 2 ^ 20) (b3 : a1 < N) (he : sA S4 r a1 = nI e) (me : e < 2 ^ 20) (b4 : e = 3) (hv2 : sV S4 (100 * g1 + 4) = .ref r1) (hg2 : isK S4 r1 1 N1) (mN1 : N1 < 2 ^ 20) (b5 : a1 < N1) (ho1 : (sL S4 r1 a1).toInt32 = nI o1) (mo1 : o1 < 1500) (ag2 : 108 ≤ g2) (hq16 : sQ S4 86 o1 = some g2) (hz6 : (sS S4)[g2 - 108]? = some (13, zg2)) (hfd01 : sI S4 (100 * g2 + 0) = nI fd01) (mfd01 : fd01 < 2 ^ 20) (b6 : fd01 = 3) (c5 : Ans (d + 8) 364 [.ref 61, .int (nI 6)] S4 (some (.int (Int32.ofInt (-1)))) S5) : Bod (d + 8) 412 0 [(0, .ref 61), (1, .int (nI nm))] [] S (some (.int 0)) (S5) := by
  refine Bod.go dc_412_0 rfl ?_
  refine Bod.get dc_412_1 fr_412_493 (mk_61 _) rfl ?_
  refine Bod.eqI (nI t) (by first | assumption | rfl | exact congrArg nI (by omega) | (simp (disch := omega) only [rI, rIe, rA, rIA, rLA, rJA, rVI, rQI, rVA, rQA, upd_at,  rAI, rLI, rJI, nI_add, pk_sub, kc_0, kc_1, kc_2, kc_3, kc_4, kc_5, reduceIte, Nat.reduceEqDiff, Nat.add_zero, rI_hold, rI_hold, rL_hold, ht]; done)) ?_
  refine Bod.ic 1 (by decide) dc_412_4 ?_
  refine Bod.subN (t - 1) (by omega) (by omega) dc_412_5 ?_
  refine Bod.istn dc_412_6 (by rw [ml_412]; exact Nat.le_of_ble_eq_true rfl) ?_
  refine Bod.go dc_412_7 rfl ?_
  refine Bod.go dc_412_8 rfl ?_
  refine Bod.ic 5 (by decide) dc_412_9 ?_
  refine Bod.virt (r := []) dc_412_10 kr_412_683 ⟨Or.inl rfl, ow_363, cl_14⟩ (by rw [np_363]; rfl) (by rw [np_363]; rfl) (ob_of (mk_61 _)) (Nat.le_of_ble_eq_true rfl) (c1  ) ?_
  show Bod _ _ _ _ [_] _ _ _
  refine Bod.ifT dc_412_13 rfl (k1_ne_T (k_ne 1 0 rfl rfl (by omega) (by omega) (by omega))) ?_
  refine Bod.go dc_412_31 rfl ?_
  refine Bod.get dc_412_32 fr_412_499 (mk_61 _) rfl ?_
  refine Bod.go dc_412_35 rfl ?_
  refine Bod.laldN (t - 1) rfl (by omega) (by omega) dc_412_36 (mk_92 _) ?_
  refine Bod.go dc_412_37 rfl ?_
  refine Bod.eqI (nI o) (by first | exact ho | (simp only [rI, rIe, rA, rIA, rLA, rJA, rVI, rQI, rVA, rQA, upd_at,  rAI, rLI, rJI, nI_add, pk_sub, kc_0, kc_1, kc_2, kc_3, kc_4, kc_5, reduceIte, Nat.reduceEqDiff, Nat.add_zero, rI_hold, rI_hold, rL_hold]; exact ho)) ?_
  refine Bod.istn dc_412_38 (by rw [ml_412]; exact Nat.le_of_ble_eq_true rfl) ?_
  refine Bod.go dc_412_39 rfl ?_
  refine Bod.get dc_412_40 fr_412_485 (mk_61 _) rfl ?_
  refine Bod.go dc_412_43 rfl ?_
  refine Bod.aaldR (N := 1500) (b := g) o rfl (by omega) (by omega) (by first | exact hq3 | (simp only [rIQ, rJQ, rAQ, rLQ, rVQ, rQ_holdE]; exact hq3)) dc_412_44 (mk_86 _) ht_5 ?_
  refine Bod.ast dc_412_45 (by rw [ml_412]; exact Nat.le_of_ble_eq_true rfl) ?_
  refine Bod.go dc_412_47 rfl ?_
  refine Bod.ic 0 (by decide) dc_412_49 ?_
  refine Bod.go dc_412_50 rfl ?_
  refine Bod.go dc_412_51 rfl ?_
  refine Bod.go dc_412_52 rfl ?_
  refine Bod.virt (r := []) dc_412_53 kr_412_764 ⟨Or.inl rfl, ow_399, cl_13⟩ (by rw [np_399]; rfl) (by rw [np_399]; rfl) (ob_of (mk_thing ag (by first | exact hz1 | (simp only [rIS, rJS, rAS, rLS, rVS, rQS, rS_hold]; exact hz1)))) (Nat.le_of_ble_eq_true rfl) (c2  ) ?_
  show Bod _ _ _ _ [_] _ _ _
  refine Bod.ist dc_412_56 (by rw [ml_412]; exact Nat.le_of_ble_eq_true rfl) ?_
  refine Bod.go dc_412_58 rfl ?_
  refine Bod.ifT dc_412_60 rfl (by decide) ?_
  refine Bod.go dc_412_67 rfl ?_
  refine Bod.go dc_412_68 rfl ?_
  refine Bod.get dc_412_70 fr_412_472 (mk_thing ag (by first | exact hz2 | (simp only [rIS, rJS, rAS, rLS, rVS, rQS, rS_hold]; exact hz2))) rfl ?_
  refine Bod.eqI (nI fd11) (by first | assumption | (simp (disch := omega) only [rI, rIe, rA, rIA, rLA, rJA, rVI, rQI, rVA, rQA, upd_at,  rAI, rLI, rJI, nI_add, pk_sub, kc_0, kc_1, kc_2, kc_3, kc_4, kc_5, reduceIte, Nat.reduceEqDiff, Nat.add_zero, rI_hold, rI_hold, rL_hold, ht, hfd11]; done) | (simp (disch := omega) only [rI, rIe, rA, rIA, rLA, rJA, rVI, rQI, rVA, rQA, upd_at,  rAI, rLI, rJI, nI_add, pk_sub, kc_0, kc_1, kc_2, kc_3, kc_4, kc_5, reduceIte, Nat.reduceEqDiff, Nat.add_zero, rI_hold, rI_hold, rL_hold, ht, hfd11]; exact congrArg nI (by omega))) ?_
  refine Bod.go dc_412_73 rfl ?_
  refine Bod.virt (r := []) dc_412_74 kr_412_777 ⟨Or.inl rfl, ow_398, cl_14⟩ (by rw [np_398]; rfl) (by rw [np_398]; rfl) (ob_of (mk_61 _)) (Nat.le_of_ble_eq_true rfl) (c3  ) ?_
  show Bod _ _ _ _ [_] _ _ _
  refine Bod.ist dc_412_77 (by rw [ml_412]; exact Nat.le_of_ble_eq_true rfl) ?_
  refine Bod.go dc_412_79 rfl ?_
  refine Bod.ifT dc_412_81 rfl (k1_ge_T a rfl (by omega)) ?_
  refine Bod.go dc_412_91 rfl ?_
  refine Bod.get dc_412_92 fr_412_485 (mk_61 _) rfl ?_
  refine Bod.go dc_412_95 rfl ?_
  refine Bod.aaldR (N := 1500) (b := g1) a rfl (by omega) (by omega) (by first | exact hq7 | (simp only [rIQ, rJQ, rAQ, rLQ, rVQ, rQ_holdE]; exact hq7)) dc_412_97 (mk_86 _) ht_5 ?_
  refine Bod.ast dc_412_98 (by rw [ml_412]; exact Nat.le_of_ble_eq_true rfl) ?_
  refine Bod.go dc_412_100 rfl ?_
  refine Bod.ic 0 (by decide) dc_412_102 ?_
  refine Bod.go dc_412_103 rfl ?_
  refine Bod.go dc_412_104 rfl ?_
  refine Bod.go dc_412_105 rfl ?_
  refine Bod.virt (r := []) dc_412_106 kr_412_764 ⟨Or.inl rfl, ow_399, cl_13⟩ (by rw [np_399]; rfl) (by rw [np_399]; rfl) (ob_of (mk_thing ag1 (by first | exact hz3 | (simp only [rIS, rJS, rAS, rLS, rVS, rQS, rS_hold]; exact hz3)))) (Nat.le_of_ble_eq_true rfl) (c4  ) ?_
  show Bod _ _ _ _ [_] _ _ _
  refine Bod.ist dc_412_109 (by rw [ml_412]; exact Nat.le_of_ble_eq_true rfl) ?_
  refine Bod.go dc_412_111 rfl ?_
  refine Bod.get dc_412_113 fr_412_531 (mk_thing ag (by first | exact hz4 | (simp only [rIS, rJS, rAS, rLS, rVS, rQS, rS_hold]; exact hz4))) rfl ?_
  refine Bod.eqI (nI fd0) (by first | assumption | (simp (disch := omega) only [rI, rIe, rA, rIA, rLA, rJA, rVI, rQI, rVA, rQA, upd_at,  rAI, rLI, rJI, nI_add, pk_sub, kc_0, kc_1, kc_2, kc_3, kc_4, kc_5, reduceIte, Nat.reduceEqDiff, Nat.add_zero, rI_hold, rI_hold, rL_hold, ht, hfd11, hfd0]; done) | (simp (disch := omega) only [rI, rIe, rA, rIA, rLA, rJA, rVI, rQI, rVA, rQA, upd_at,  rAI, rLI, rJI, nI_add, pk_sub, kc_0, kc_1, kc_2, kc_3, kc_4, kc_5, reduceIte, Nat.reduceEqDiff, Nat.add_zero, rI_hold, rI_hold, rL_hold, ht, hfd11, hfd0]; exact congrArg nI (by omega))) ?_
  refine Bod.ic 4 (by decide) dc_412_116 ?_
  refine Bod.icF dc_412_117 rfl (k2_eq_F (k_ne fd0 4 rfl rfl (by omega) (by omega) (by omega))) ?_
  refine Bod.go dc_412_120 rfl ?_
  refine Bod.ifF dc_412_122 rfl (by decide) ?_
  refine Bod.go dc_412_125 rfl ?_
  refine Bod.get dc_412_127 fr_412_462 (mk_thing ag1 (by first | exact hz5 | (simp only [rIS, rJS, rAS, rLS, rVS, rQS, rS_hold]; exact hz5))) rfl ?_
  refine Bod.eqV (.ref r) (by first | exact hv1 | (simp only [rIV, rJV, rAV, rLV, rQV, rV, reduceIte, Nat.reduceEqDiff]; exact hv1)) ?_
  refine Bod.go dc_412_130 rfl ?_
  refine Bod.ialdN (N := N) a1 rfl (by omega) (by omega) dc_412_132 (mk_isI (by first | exact hg1 | exact isK_S (by simp only [rIS, rJS, rAS, rLS, rVS, rQS, rS_hold]) hg1)) ?_
  refine Bod.eqI (nI e) (by first | assumption | (simp (disch := omega) only [rI, rIe, rA, rIA, rLA, rJA, rVI, rQI, rVA, rQA, upd_at,  rAI, rLI, rJI, nI_add, pk_sub, kc_0, kc_1, kc_2, kc_3, kc_4, kc_5, reduceIte, Nat.reduceEqDiff, Nat.add_zero, rI_hold, rI_hold, rL_hold, ht, hfd11, hfd0, he]; done) | (simp (disch := omega) only [rI, rIe, rA, rIA, rLA, rJA, rVI, rQI, rVA, rQA, upd_at,  rAI, rLI, rJI, nI_add, pk_sub, kc_0, kc_1, kc_2, kc_3, kc_4, kc_5, reduceIte, Nat.reduceEqDiff, Nat.add_zero, rI_hold, rI_hold, rL_hold, ht, hfd11, hfd0, he]; exact congrArg nI (by omega))) ?_
  refine Bod.ic 3 (by decide) dc_412_133 ?_
  refine Bod.icF dc_412_134 rfl (k2_ne_F (k_eq e 3 rfl rfl (by omega))) ?_
  refine Bod.go dc_412_137 rfl ?_
  refine Bod.get dc_412_138 fr_412_485 (mk_61 _) rfl ?_
  refine Bod.go dc_412_141 rfl ?_
  refine Bod.get dc_412_143 fr_412_465 (mk_thing ag1 (by first | exact hz5 | (simp only [rIS, rJS, rAS, rLS, rVS, rQS, rS_hold]; exact hz5))) rfl ?_
  refine Bod.eqV (.ref r1) (by first | exact hv2 | (simp only [rIV, rJV, rAV, rLV, rQV, rV, reduceIte, Nat.reduceEqDiff]; exact hv2)) ?_
  refine Bod.go dc_412_146 rfl ?_
  refine Bod.laldN (N := N1) a1 rfl (by omega) (by omega) dc_412_148 (mk_isL (by first | exact hg2 | exact isK_S (by simp only [rIS, rJS, rAS, rLS, rVS, rQS, rS_hold]) hg2)) ?_
  refine Bod.go dc_412_149 rfl ?_
  refine Bod.eqI (nI o1) (by first | exact ho1 | (simp only [rI, rIe, rA, rIA, rLA, rJA, rVI, rQI, rVA, rQA, upd_at,  rAI, rLI, rJI, nI_add, pk_sub, kc_0, kc_1, kc_2, kc_3, kc_4, kc_5, reduceIte, Nat.reduceEqDiff, Nat.add_zero, rI_hold, rI_hold, rL_hold]; exact ho1)) ?_
  refine Bod.aaldR (N := 1500) (b := g2) o1 rfl (by omega) (by omega) (by first | exact hq16 | (simp only [rIQ, rJQ, rAQ, rLQ, rVQ, rQ_holdE]; exact hq16)) dc_412_150 (mk_86 _) ht_5 ?_
  refine Bod.get dc_412_151 fr_412_531 (mk_thing ag2 (by first | exact hz6 | (simp only [rIS, rJS, rAS, rLS, rVS, rQS, rS_hold]; exact hz6))) rfl ?_
  refine Bod.eqI (nI fd01) (by first | assumption | (simp (disch := omega) only [rI, rIe, rA, rIA, rLA, rJA, rVI, rQI, rVA, rQA, upd_at,  rAI, rLI, rJI, nI_add, pk_sub, kc_0, kc_1, kc_2, kc_3, kc_4, kc_5, reduceIte, Nat.reduceEqDiff, Nat.add_zero, rI_hold, rI_hold, rL_hold, ht, hfd11, hfd0, he, hfd01]; done) | (simp (disch := omega) only [rI, rIe, rA, rIA, rLA, rJA, rVI, rQI, rVA, rQA, upd_at,  rAI, rLI, rJI, nI_add, pk_sub, kc_0, kc_1, kc_2, kc_3, kc_4, kc_5, reduceIte, Nat.reduceEqDiff, Nat.add_zero, rI_hold, rI_hold, rL_hold, ht, hfd11, hfd0, he, hfd01]; exact congrArg nI (by omega))) ?_
  refine Bod.ic 3 (by decide) dc_412_154 ?_
  refine Bod.icT dc_412_155 rfl (k2_eq_T (k_eq fd01 3 rfl rfl (by omega))) ?_
  refine Bod.go dc_412_198 rfl ?_
  refine Bod.bip 6 (by decide) dc_412_199 ?_
  refine Bod.virt (r := []) dc_412_201 kr_412_686 ⟨Or.inl rfl, ow_364, cl_14⟩ (by rw [np_364]; rfl) (by rw [np_364]; rfl) (ob_of (mk_61 _)) (Nat.le_of_ble_eq_true rfl) (c5  ) ?_
  show Bod _ _ _ _ [_] _ _ _
  refine Bod.ist dc_412_204 (by rw [ml_412]; exact Nat.le_of_ble_eq_true rfl) ?_
  refine Bod.go dc_412_206 rfl ?_
  refine Bod.ifF dc_412_208 rfl (by decide) ?_
  refine Bod.ic 0 (by decide) dc_412_211 ?_
  exact Bod.retZ dc_412_212 rt_412 (Or.inl rfl)
theorem rGa_7 {d : Nat} {S : cS} {nm : Nat} {t : Nat} {S1 : cS} {o : Nat} {g : Nat} {zg : Nat} {S2 : cS} {fd11 : Nat} {S3 : cS} {a : Nat} {g1 : Nat} {zg1 : Nat} {S4 : cS} {a1 : Nat} {fd0 : Nat} {r : Nat} {N : Nat} {e : Nat} {r1 : Nat} {N1 : Nat} {o1 : Nat} {g2 : Nat} {zg2 : Nat} {fd01 : Nat} {t1 : Nat} {r2 : Nat} {N2 : Nat} {S5 : cS} (mnm : nm < 2 ^ 20) (ht : sI S 6151 = nI t) (mt : t < 20481) (b1 : 1 ≤ t) (c1 : Ans (d + 8) 363 [.ref 61, .int (nI (t - 1)), .int (nI 5)] S (some (.int (nI 1))) S1) (ho : (sL S1 92 (t - 1)).toInt32 = nI o) (mo : o < 1500) (ag : 108 ≤ g) (hq3 : sQ S1 86 o = some g) (c2 : Ans (d + 8) 399 [.ref g, .int (nI 0), .long ((nI nm).toInt64), .long 0] S1 (some (.int (Int32.ofInt (-1)))) S2) (hz1 : (sS S1)[g - 108]? = some (13, zg)) (hz2 : (sS S2)[g - 108]? = some (13, zg)) (hfd11 : sI S2 (100 * g + 11) = nI fd11) (mfd11 : fd11 < 2 ^ 20) (ma : a < 1500) (c3 : Ans (d + 8) 398 [.ref 61, .int (nI fd11), .int (nI nm)] S2 (some (.int (nI a))) S3) (ag1 : 108 ≤ g1) (hq7 : sQ S3 86 a = some g1) (ma1 : a1 < 2 ^ 20) (c4 : Ans (d + 8) 399 [.ref g1, .int (nI 0), .long ((nI nm).toInt64), .long 0] S3 (some (.int (nI a1))) S4) (hz3 : (sS S3)[g1 - 108]? = some (13, zg1)) (hz4 : (sS S4)[g - 108]? = some (13, zg)) (hfd0 : sI S4 (100 * g + 0) = nI fd0) (mfd0 : fd0 < 2 ^ 20) (b2 : fd0 ≠ 4) (hz5 : (sS S4)[g1 - 108]? = some (13, zg1)) (hv1 : sV S4 (100 * g1 + 2) = .ref r) (hg1 : isK S4 r 0 N) (mN : N < 2 ^ 20) (b3 : a1 < N) (he : sA S4 r a1 = nI e) (me : e < 2 ^ 20) (b4 : e = 3) (hv2 : sV S4 (100 * g1 + 4) = .ref r1) (hg2 : isK S4 r1 1 N1) (mN1 : N1 < 2 ^ 20) (b5 : a1 < N1) (ho1 : (sL S4 r1 a1).toInt32 = nI o1) (mo1 : o1 < 1500) (ag2 : 108 ≤ g2) (hq16 : sQ S4 86 o1 = some g2) (hz6 : (sS S4)[g2 - 108]? = some (13, zg2)) (hfd01 : sI S4 (100 * g2 + 0) = nI fd01) (mfd01 : fd01 < 2 ^ 20) (b6 : fd01 ≠ 3) (ht1 : sI S4 6151 = nI t1) (mt1 : t1 < 20481) (b7 : 1 ≤ t1) (hv3 : sV S4 (100 * g1 + 5) = .ref r2) (hg3 : isK S4 r2 1 N2) (mN2 : N2 < 2 ^ 20) (b8 : a1 < N2) (c5 : Ans (d + 8) 352 [.ref 61, .int (nI e), .long (sL (wI 6151 (nI (t1 - 1)) S4) r1 a1), .long (sL (wI 6151 (nI (t1 - 1)) S4) r2 a1)] (wI 6151 (nI (t1 - 1)) S4) none S5) : Bod (d + 8) 412 0 [(0, .ref 61), (1, .int (nI nm))] [] S (some (.int 1)) (S5) := by
  refine Bod.go dc_412_0 rfl ?_
  refine Bod.get dc_412_1 fr_412_493 (mk_61 _) rfl ?_
  refine Bod.eqI (nI t) (by first | assumption | rfl | exact congrArg nI (by omega) | (simp (disch := omega) only [rI, rIe, rA, rIA, rLA, rJA, rVI, rQI, rVA, rQA, upd_at,  rAI, rLI, rJI, nI_add, pk_sub, kc_0, kc_1, kc_2, kc_3, kc_4, kc_5, reduceIte, Nat.reduceEqDiff, Nat.add_zero, rI_hold, rI_hold, rL_hold, ht]; done)) ?_
  refine Bod.ic 1 (by decide) dc_412_4 ?_
  refine Bod.subN (t - 1) (by omega) (by omega) dc_412_5 ?_
  refine Bod.istn dc_412_6 (by rw [ml_412]; exact Nat.le_of_ble_eq_true rfl) ?_
  refine Bod.go dc_412_7 rfl ?_
  refine Bod.go dc_412_8 rfl ?_
  refine Bod.ic 5 (by decide) dc_412_9 ?_
  refine Bod.virt (r := []) dc_412_10 kr_412_683 ⟨Or.inl rfl, ow_363, cl_14⟩ (by rw [np_363]; rfl) (by rw [np_363]; rfl) (ob_of (mk_61 _)) (Nat.le_of_ble_eq_true rfl) (c1  ) ?_
  show Bod _ _ _ _ [_] _ _ _
  refine Bod.ifT dc_412_13 rfl (k1_ne_T (k_ne 1 0 rfl rfl (by omega) (by omega) (by omega))) ?_
  refine Bod.go dc_412_31 rfl ?_
  refine Bod.get dc_412_32 fr_412_499 (mk_61 _) rfl ?_
  refine Bod.go dc_412_35 rfl ?_
  refine Bod.laldN (t - 1) rfl (by omega) (by omega) dc_412_36 (mk_92 _) ?_
  refine Bod.go dc_412_37 rfl ?_
  refine Bod.eqI (nI o) (by first | exact ho | (simp only [rI, rIe, rA, rIA, rLA, rJA, rVI, rQI, rVA, rQA, upd_at,  rAI, rLI, rJI, nI_add, pk_sub, kc_0, kc_1, kc_2, kc_3, kc_4, kc_5, reduceIte, Nat.reduceEqDiff, Nat.add_zero, rI_hold, rI_hold, rL_hold]; exact ho)) ?_
  refine Bod.istn dc_412_38 (by rw [ml_412]; exact Nat.le_of_ble_eq_true rfl) ?_
  refine Bod.go dc_412_39 rfl ?_
  refine Bod.get dc_412_40 fr_412_485 (mk_61 _) rfl ?_
  refine Bod.go dc_412_43 rfl ?_
  refine Bod.aaldR (N := 1500) (b := g) o rfl (by omega) (by omega) (by first | exact hq3 | (simp only [rIQ, rJQ, rAQ, rLQ, rVQ, rQ_holdE]; exact hq3)) dc_412_44 (mk_86 _) ht_5 ?_
  refine Bod.ast dc_412_45 (by rw [ml_412]; exact Nat.le_of_ble_eq_true rfl) ?_
  refine Bod.go dc_412_47 rfl ?_
  refine Bod.ic 0 (by decide) dc_412_49 ?_
  refine Bod.go dc_412_50 rfl ?_
  refine Bod.go dc_412_51 rfl ?_
  refine Bod.go dc_412_52 rfl ?_
  refine Bod.virt (r := []) dc_412_53 kr_412_764 ⟨Or.inl rfl, ow_399, cl_13⟩ (by rw [np_399]; rfl) (by rw [np_399]; rfl) (ob_of (mk_thing ag (by first | exact hz1 | (simp only [rIS, rJS, rAS, rLS, rVS, rQS, rS_hold]; exact hz1)))) (Nat.le_of_ble_eq_true rfl) (c2  ) ?_
  show Bod _ _ _ _ [_] _ _ _
  refine Bod.ist dc_412_56 (by rw [ml_412]; exact Nat.le_of_ble_eq_true rfl) ?_
  refine Bod.go dc_412_58 rfl ?_
  refine Bod.ifT dc_412_60 rfl (by decide) ?_
  refine Bod.go dc_412_67 rfl ?_
  refine Bod.go dc_412_68 rfl ?_
  refine Bod.get dc_412_70 fr_412_472 (mk_thing ag (by first | exact hz2 | (simp only [rIS, rJS, rAS, rLS, rVS, rQS, rS_hold]; exact hz2))) rfl ?_
  refine Bod.eqI (nI fd11) (by first | assumption | (simp (disch := omega) only [rI, rIe, rA, rIA, rLA, rJA, rVI, rQI, rVA, rQA, upd_at,  rAI, rLI, rJI, nI_add, pk_sub, kc_0, kc_1, kc_2, kc_3, kc_4, kc_5, reduceIte, Nat.reduceEqDiff, Nat.add_zero, rI_hold, rI_hold, rL_hold, ht, hfd11]; done) | (simp (disch := omega) only [rI, rIe, rA, rIA, rLA, rJA, rVI, rQI, rVA, rQA, upd_at,  rAI, rLI, rJI, nI_add, pk_sub, kc_0, kc_1, kc_2, kc_3, kc_4, kc_5, reduceIte, Nat.reduceEqDiff, Nat.add_zero, rI_hold, rI_hold, rL_hold, ht, hfd11]; exact congrArg nI (by omega))) ?_
  refine Bod.go dc_412_73 rfl ?_
  refine Bod.virt (r := []) dc_412_74 kr_412_777 ⟨Or.inl rfl, ow_398, cl_14⟩ (by rw [np_398]; rfl) (by rw [np_398]; rfl) (ob_of (mk_61 _)) (Nat.le_of_ble_eq_true rfl) (c3  ) ?_
  show Bod _ _ _ _ [_] _ _ _
  refine Bod.ist dc_412_77 (by rw [ml_412]; exact Nat.le_of_ble_eq_true rfl) ?_
  refine Bod.go dc_412_79 rfl ?_
  refine Bod.ifT dc_412_81 rfl (k1_ge_T a rfl (by omega)) ?_
  refine Bod.go dc_412_91 rfl ?_
  refine Bod.get dc_412_92 fr_412_485 (mk_61 _) rfl ?_
  refine Bod.go dc_412_95 rfl ?_
  refine Bod.aaldR (N := 1500) (b := g1) a rfl (by omega) (by omega) (by first | exact hq7 | (simp only [rIQ, rJQ, rAQ, rLQ, rVQ, rQ_holdE]; exact hq7)) dc_412_97 (mk_86 _) ht_5 ?_
  refine Bod.ast dc_412_98 (by rw [ml_412]; exact Nat.le_of_ble_eq_true rfl) ?_
  refine Bod.go dc_412_100 rfl ?_
  refine Bod.ic 0 (by decide) dc_412_102 ?_
  refine Bod.go dc_412_103 rfl ?_
  refine Bod.go dc_412_104 rfl ?_
  refine Bod.go dc_412_105 rfl ?_
  refine Bod.virt (r := []) dc_412_106 kr_412_764 ⟨Or.inl rfl, ow_399, cl_13⟩ (by rw [np_399]; rfl) (by rw [np_399]; rfl) (ob_of (mk_thing ag1 (by first | exact hz3 | (simp only [rIS, rJS, rAS, rLS, rVS, rQS, rS_hold]; exact hz3)))) (Nat.le_of_ble_eq_true rfl) (c4  ) ?_
  show Bod _ _ _ _ [_] _ _ _
  refine Bod.ist dc_412_109 (by rw [ml_412]; exact Nat.le_of_ble_eq_true rfl) ?_
  refine Bod.go dc_412_111 rfl ?_
  refine Bod.get dc_412_113 fr_412_531 (mk_thing ag (by first | exact hz4 | (simp only [rIS, rJS, rAS, rLS, rVS, rQS, rS_hold]; exact hz4))) rfl ?_
  refine Bod.eqI (nI fd0) (by first | assumption | (simp (disch := omega) only [rI, rIe, rA, rIA, rLA, rJA, rVI, rQI, rVA, rQA, upd_at,  rAI, rLI, rJI, nI_add, pk_sub, kc_0, kc_1, kc_2, kc_3, kc_4, kc_5, reduceIte, Nat.reduceEqDiff, Nat.add_zero, rI_hold, rI_hold, rL_hold, ht, hfd11, hfd0]; done) | (simp (disch := omega) only [rI, rIe, rA, rIA, rLA, rJA, rVI, rQI, rVA, rQA, upd_at,  rAI, rLI, rJI, nI_add, pk_sub, kc_0, kc_1, kc_2, kc_3, kc_4, kc_5, reduceIte, Nat.reduceEqDiff, Nat.add_zero, rI_hold, rI_hold, rL_hold, ht, hfd11, hfd0]; exact congrArg nI (by omega))) ?_
  refine Bod.ic 4 (by decide) dc_412_116 ?_
  refine Bod.icF dc_412_117 rfl (k2_eq_F (k_ne fd0 4 rfl rfl (by omega) (by omega) (by omega))) ?_
  refine Bod.go dc_412_120 rfl ?_
  refine Bod.ifF dc_412_122 rfl (by decide) ?_
  refine Bod.go dc_412_125 rfl ?_
  refine Bod.get dc_412_127 fr_412_462 (mk_thing ag1 (by first | exact hz5 | (simp only [rIS, rJS, rAS, rLS, rVS, rQS, rS_hold]; exact hz5))) rfl ?_
  refine Bod.eqV (.ref r) (by first | exact hv1 | (simp only [rIV, rJV, rAV, rLV, rQV, rV, reduceIte, Nat.reduceEqDiff]; exact hv1)) ?_
  refine Bod.go dc_412_130 rfl ?_
  refine Bod.ialdN (N := N) a1 rfl (by omega) (by omega) dc_412_132 (mk_isI (by first | exact hg1 | exact isK_S (by simp only [rIS, rJS, rAS, rLS, rVS, rQS, rS_hold]) hg1)) ?_
  refine Bod.eqI (nI e) (by first | assumption | (simp (disch := omega) only [rI, rIe, rA, rIA, rLA, rJA, rVI, rQI, rVA, rQA, upd_at,  rAI, rLI, rJI, nI_add, pk_sub, kc_0, kc_1, kc_2, kc_3, kc_4, kc_5, reduceIte, Nat.reduceEqDiff, Nat.add_zero, rI_hold, rI_hold, rL_hold, ht, hfd11, hfd0, he]; done) | (simp (disch := omega) only [rI, rIe, rA, rIA, rLA, rJA, rVI, rQI, rVA, rQA, upd_at,  rAI, rLI, rJI, nI_add, pk_sub, kc_0, kc_1, kc_2, kc_3, kc_4, kc_5, reduceIte, Nat.reduceEqDiff, Nat.add_zero, rI_hold, rI_hold, rL_hold, ht, hfd11, hfd0, he]; exact congrArg nI (by omega))) ?_
  refine Bod.ic 3 (by decide) dc_412_133 ?_
  refine Bod.icF dc_412_134 rfl (k2_ne_F (k_eq e 3 rfl rfl (by omega))) ?_
  refine Bod.go dc_412_137 rfl ?_
  refine Bod.get dc_412_138 fr_412_485 (mk_61 _) rfl ?_
  refine Bod.go dc_412_141 rfl ?_
  refine Bod.get dc_412_143 fr_412_465 (mk_thing ag1 (by first | exact hz5 | (simp only [rIS, rJS, rAS, rLS, rVS, rQS, rS_hold]; exact hz5))) rfl ?_
  refine Bod.eqV (.ref r1) (by first | exact hv2 | (simp only [rIV, rJV, rAV, rLV, rQV, rV, reduceIte, Nat.reduceEqDiff]; exact hv2)) ?_
  refine Bod.go dc_412_146 rfl ?_
  refine Bod.laldN (N := N1) a1 rfl (by omega) (by omega) dc_412_148 (mk_isL (by first | exact hg2 | exact isK_S (by simp only [rIS, rJS, rAS, rLS, rVS, rQS, rS_hold]) hg2)) ?_
  refine Bod.go dc_412_149 rfl ?_
  refine Bod.eqI (nI o1) (by first | exact ho1 | (simp only [rI, rIe, rA, rIA, rLA, rJA, rVI, rQI, rVA, rQA, upd_at,  rAI, rLI, rJI, nI_add, pk_sub, kc_0, kc_1, kc_2, kc_3, kc_4, kc_5, reduceIte, Nat.reduceEqDiff, Nat.add_zero, rI_hold, rI_hold, rL_hold]; exact ho1)) ?_
  refine Bod.aaldR (N := 1500) (b := g2) o1 rfl (by omega) (by omega) (by first | exact hq16 | (simp only [rIQ, rJQ, rAQ, rLQ, rVQ, rQ_holdE]; exact hq16)) dc_412_150 (mk_86 _) ht_5 ?_
  refine Bod.get dc_412_151 fr_412_531 (mk_thing ag2 (by first | exact hz6 | (simp only [rIS, rJS, rAS, rLS, rVS, rQS, rS_hold]; exact hz6))) rfl ?_
  refine Bod.eqI (nI fd01) (by first | assumption | (simp (disch := omega) only [rI, rIe, rA, rIA, rLA, rJA, rVI, rQI, rVA, rQA, upd_at,  rAI, rLI, rJI, nI_add, pk_sub, kc_0, kc_1, kc_2, kc_3, kc_4, kc_5, reduceIte, Nat.reduceEqDiff, Nat.add_zero, rI_hold, rI_hold, rL_hold, ht, hfd11, hfd0, he, hfd01]; done) | (simp (disch := omega) only [rI, rIe, rA, rIA, rLA, rJA, rVI, rQI, rVA, rQA, upd_at,  rAI, rLI, rJI, nI_add, pk_sub, kc_0, kc_1, kc_2, kc_3, kc_4, kc_5, reduceIte, Nat.reduceEqDiff, Nat.add_zero, rI_hold, rI_hold, rL_hold, ht, hfd11, hfd0, he, hfd01]; exact congrArg nI (by omega))) ?_
  refine Bod.ic 3 (by decide) dc_412_154 ?_
  refine Bod.icF dc_412_155 rfl (k2_eq_F (k_ne fd01 3 rfl rfl (by omega) (by omega) (by omega))) ?_
  refine Bod.go dc_412_158 rfl ?_
  refine Bod.go dc_412_159 rfl ?_
  refine Bod.get dc_412_160 fr_412_493 (mk_61 _) rfl ?_
  refine Bod.eqI (nI t1) (by first | assumption | (simp (disch := omega) only [rI, rIe, rA, rIA, rLA, rJA, rVI, rQI, rVA, rQA, upd_at,  rAI, rLI, rJI, nI_add, pk_sub, kc_0, kc_1, kc_2, kc_3, kc_4, kc_5, reduceIte, Nat.reduceEqDiff, Nat.add_zero, rI_hold, rI_hold, rL_hold, ht, hfd11, hfd0, he, hfd01, ht1]; done) | (simp (disch := omega) only [rI, rIe, rA, rIA, rLA, rJA, rVI, rQI, rVA, rQA, upd_at,  rAI, rLI, rJI, nI_add, pk_sub, kc_0, kc_1, kc_2, kc_3, kc_4, kc_5, reduceIte, Nat.reduceEqDiff, Nat.add_zero, rI_hold, rI_hold, rL_hold, ht, hfd11, hfd0, he, hfd01, ht1]; exact congrArg nI (by omega))) ?_
  refine Bod.ic 1 (by decide) dc_412_163 ?_
  refine Bod.subN (t1 - 1) (by omega) (by omega) dc_412_164 ?_
  refine Bod.put dc_412_165 fr_412_493 (mk_61 _) (Nat.le_of_ble_eq_true rfl) pf_14_51 (st_6151 _ _) (mu_I _ _ _) ?_
  refine Bod.go dc_412_168 rfl ?_
  refine Bod.go dc_412_169 rfl ?_
  refine Bod.get dc_412_171 fr_412_462 (mk_thing ag1 (by first | exact hz5 | (simp only [rIS, rJS, rAS, rLS, rVS, rQS, rS_hold]; exact hz5))) rfl ?_
  refine Bod.eqV (.ref r) (by first | exact hv1 | (simp only [rIV, rJV, rAV, rLV, rQV, rV, reduceIte, Nat.reduceEqDiff]; exact hv1)) ?_
  refine Bod.go dc_412_174 rfl ?_
  refine Bod.ialdN (N := N) a1 rfl (by omega) (by omega) dc_412_176 (mk_isI (by first | exact hg1 | exact isK_S (by simp only [rIS, rJS, rAS, rLS, rVS, rQS, rS_hold]) hg1)) ?_
  refine Bod.eqI (nI e) (by first | assumption | (simp (disch := omega) only [rI, rIe, rA, rIA, rLA, rJA, rVI, rQI, rVA, rQA, upd_at,  rAI, rLI, rJI, nI_add, pk_sub, kc_0, kc_1, kc_2, kc_3, kc_4, kc_5, reduceIte, Nat.reduceEqDiff, Nat.add_zero, rI_hold, rI_hold, rL_hold, ht, hfd11, hfd0, he, hfd01, ht1]; done) | (simp (disch := omega) only [rI, rIe, rA, rIA, rLA, rJA, rVI, rQI, rVA, rQA, upd_at,  rAI, rLI, rJI, nI_add, pk_sub, kc_0, kc_1, kc_2, kc_3, kc_4, kc_5, reduceIte, Nat.reduceEqDiff, Nat.add_zero, rI_hold, rI_hold, rL_hold, ht, hfd11, hfd0, he, hfd01, ht1]; exact congrArg nI (by omega))) ?_
  refine Bod.go dc_412_177 rfl ?_
  refine Bod.get dc_412_179 fr_412_465 (mk_thing ag1 (by first | exact hz5 | (simp only [rIS, rJS, rAS, rLS, rVS, rQS, rS_hold]; exact hz5))) rfl ?_
  refine Bod.eqV (.ref r1) (by first | exact hv2 | (simp only [rIV, rJV, rAV, rLV, rQV, rV, reduceIte, Nat.reduceEqDiff]; exact hv2)) ?_
  refine Bod.go dc_412_182 rfl ?_
  refine Bod.laldN (N := N1) a1 rfl (by omega) (by omega) dc_412_184 (mk_isL (by first | exact hg2 | exact isK_S (by simp only [rIS, rJS, rAS, rLS, rVS, rQS, rS_hold]) hg2)) ?_
  refine Bod.go dc_412_185 rfl ?_
  refine Bod.get dc_412_187 fr_412_627 (mk_thing ag1 (by first | exact hz5 | (simp only [rIS, rJS, rAS, rLS, rVS, rQS, rS_hold]; exact hz5))) rfl ?_
  refine Bod.eqV (.ref r2) (by first | exact hv3 | (simp only [rIV, rJV, rAV, rLV, rQV, rV, reduceIte, Nat.reduceEqDiff]; exact hv3)) ?_
  refine Bod.go dc_412_190 rfl ?_
  refine Bod.laldN (N := N2) a1 rfl (by omega) (by omega) dc_412_192 (mk_isL (by first | exact hg3 | exact isK_S (by simp only [rIS, rJS, rAS, rLS, rVS, rQS, rS_hold]) hg3)) ?_
  refine Bod.virt (r := []) dc_412_193 kr_412_549 ⟨Or.inl rfl, ow_352, cl_14⟩ (by rw [np_352]; rfl) (by rw [np_352]; rfl) (ob_of (mk_61 _)) (Nat.le_of_ble_eq_true rfl) (c5  ) ?_
  show Bod _ _ _ _ [] _ _ _
  refine Bod.ic 1 (by decide) dc_412_196 ?_
  exact Bod.retZ dc_412_197 rt_412 (Or.inr rfl)
theorem rGa_8 {d : Nat} {S : cS} {nm : Nat} {t : Nat} {S1 : cS} {o : Nat} {g : Nat} {zg : Nat} {S2 : cS} {fd11 : Nat} {S3 : cS} {S4 : cS} (mnm : nm < 2 ^ 20) (ht : sI S 6151 = nI t) (mt : t < 20481) (b1 : 1 ≤ t) (c1 : Ans (d + 8) 363 [.ref 61, .int (nI (t - 1)), .int (nI 5)] S (some (.int (nI 1))) S1) (ho : (sL S1 92 (t - 1)).toInt32 = nI o) (mo : o < 1500) (ag : 108 ≤ g) (hq3 : sQ S1 86 o = some g) (c2 : Ans (d + 8) 399 [.ref g, .int (nI 0), .long ((nI nm).toInt64), .long 0] S1 (some (.int (Int32.ofInt (-1)))) S2) (hz1 : (sS S1)[g - 108]? = some (13, zg)) (hz2 : (sS S2)[g - 108]? = some (13, zg)) (hfd11 : sI S2 (100 * g + 11) = nI fd11) (mfd11 : fd11 < 2 ^ 20) (c3 : Ans (d + 8) 398 [.ref 61, .int (nI fd11), .int (nI nm)] S2 (some (.int (Int32.ofInt (-1)))) S3) (c4 : Ans (d + 8) 351 [.ref 61, .int (nI 9)] S3 (some (.int (nI 0))) S4) : Bod (d + 8) 412 0 [(0, .ref 61), (1, .int (nI nm))] [] S (some (.int 0)) (S4) := by
  refine Bod.go dc_412_0 rfl ?_
  refine Bod.get dc_412_1 fr_412_493 (mk_61 _) rfl ?_
  refine Bod.eqI (nI t) (by first | assumption | rfl | exact congrArg nI (by omega) | (simp (disch := omega) only [rI, rIe, rA, rIA, rLA, rJA, rVI, rQI, rVA, rQA, upd_at,  rAI, rLI, rJI, nI_add, pk_sub, kc_0, kc_1, kc_2, kc_3, kc_4, kc_5, reduceIte, Nat.reduceEqDiff, Nat.add_zero, rI_hold, rI_hold, rL_hold, ht]; done)) ?_
  refine Bod.ic 1 (by decide) dc_412_4 ?_
  refine Bod.subN (t - 1) (by omega) (by omega) dc_412_5 ?_
  refine Bod.istn dc_412_6 (by rw [ml_412]; exact Nat.le_of_ble_eq_true rfl) ?_
  refine Bod.go dc_412_7 rfl ?_
  refine Bod.go dc_412_8 rfl ?_
  refine Bod.ic 5 (by decide) dc_412_9 ?_
  refine Bod.virt (r := []) dc_412_10 kr_412_683 ⟨Or.inl rfl, ow_363, cl_14⟩ (by rw [np_363]; rfl) (by rw [np_363]; rfl) (ob_of (mk_61 _)) (Nat.le_of_ble_eq_true rfl) (c1  ) ?_
  show Bod _ _ _ _ [_] _ _ _
  refine Bod.ifT dc_412_13 rfl (k1_ne_T (k_ne 1 0 rfl rfl (by omega) (by omega) (by omega))) ?_
  refine Bod.go dc_412_31 rfl ?_
  refine Bod.get dc_412_32 fr_412_499 (mk_61 _) rfl ?_
  refine Bod.go dc_412_35 rfl ?_
  refine Bod.laldN (t - 1) rfl (by omega) (by omega) dc_412_36 (mk_92 _) ?_
  refine Bod.go dc_412_37 rfl ?_
  refine Bod.eqI (nI o) (by first | exact ho | (simp only [rI, rIe, rA, rIA, rLA, rJA, rVI, rQI, rVA, rQA, upd_at,  rAI, rLI, rJI, nI_add, pk_sub, kc_0, kc_1, kc_2, kc_3, kc_4, kc_5, reduceIte, Nat.reduceEqDiff, Nat.add_zero, rI_hold, rI_hold, rL_hold]; exact ho)) ?_
  refine Bod.istn dc_412_38 (by rw [ml_412]; exact Nat.le_of_ble_eq_true rfl) ?_
  refine Bod.go dc_412_39 rfl ?_
  refine Bod.get dc_412_40 fr_412_485 (mk_61 _) rfl ?_
  refine Bod.go dc_412_43 rfl ?_
  refine Bod.aaldR (N := 1500) (b := g) o rfl (by omega) (by omega) (by first | exact hq3 | (simp only [rIQ, rJQ, rAQ, rLQ, rVQ, rQ_holdE]; exact hq3)) dc_412_44 (mk_86 _) ht_5 ?_
  refine Bod.ast dc_412_45 (by rw [ml_412]; exact Nat.le_of_ble_eq_true rfl) ?_
  refine Bod.go dc_412_47 rfl ?_
  refine Bod.ic 0 (by decide) dc_412_49 ?_
  refine Bod.go dc_412_50 rfl ?_
  refine Bod.go dc_412_51 rfl ?_
  refine Bod.go dc_412_52 rfl ?_
  refine Bod.virt (r := []) dc_412_53 kr_412_764 ⟨Or.inl rfl, ow_399, cl_13⟩ (by rw [np_399]; rfl) (by rw [np_399]; rfl) (ob_of (mk_thing ag (by first | exact hz1 | (simp only [rIS, rJS, rAS, rLS, rVS, rQS, rS_hold]; exact hz1)))) (Nat.le_of_ble_eq_true rfl) (c2  ) ?_
  show Bod _ _ _ _ [_] _ _ _
  refine Bod.ist dc_412_56 (by rw [ml_412]; exact Nat.le_of_ble_eq_true rfl) ?_
  refine Bod.go dc_412_58 rfl ?_
  refine Bod.ifT dc_412_60 rfl (by decide) ?_
  refine Bod.go dc_412_67 rfl ?_
  refine Bod.go dc_412_68 rfl ?_
  refine Bod.get dc_412_70 fr_412_472 (mk_thing ag (by first | exact hz2 | (simp only [rIS, rJS, rAS, rLS, rVS, rQS, rS_hold]; exact hz2))) rfl ?_
  refine Bod.eqI (nI fd11) (by first | assumption | (simp (disch := omega) only [rI, rIe, rA, rIA, rLA, rJA, rVI, rQI, rVA, rQA, upd_at,  rAI, rLI, rJI, nI_add, pk_sub, kc_0, kc_1, kc_2, kc_3, kc_4, kc_5, reduceIte, Nat.reduceEqDiff, Nat.add_zero, rI_hold, rI_hold, rL_hold, ht, hfd11]; done) | (simp (disch := omega) only [rI, rIe, rA, rIA, rLA, rJA, rVI, rQI, rVA, rQA, upd_at,  rAI, rLI, rJI, nI_add, pk_sub, kc_0, kc_1, kc_2, kc_3, kc_4, kc_5, reduceIte, Nat.reduceEqDiff, Nat.add_zero, rI_hold, rI_hold, rL_hold, ht, hfd11]; exact congrArg nI (by omega))) ?_
  refine Bod.go dc_412_73 rfl ?_
  refine Bod.virt (r := []) dc_412_74 kr_412_777 ⟨Or.inl rfl, ow_398, cl_14⟩ (by rw [np_398]; rfl) (by rw [np_398]; rfl) (ob_of (mk_61 _)) (Nat.le_of_ble_eq_true rfl) (c3  ) ?_
  show Bod _ _ _ _ [_] _ _ _
  refine Bod.ist dc_412_77 (by rw [ml_412]; exact Nat.le_of_ble_eq_true rfl) ?_
  refine Bod.go dc_412_79 rfl ?_
  refine Bod.ifF dc_412_81 rfl (by decide) ?_
  refine Bod.go dc_412_84 rfl ?_
  refine Bod.bip 9 (by decide) dc_412_85 ?_
  refine Bod.virt (r := []) dc_412_87 kr_412_608 ⟨Or.inl rfl, ow_351, cl_14⟩ (by rw [np_351]; rfl) (by rw [np_351]; rfl) (ob_of (mk_61 _)) (Nat.le_of_ble_eq_true rfl) (c4  ) ?_
  show Bod _ _ _ _ [_] _ _ _
  exact Bod.retZ dc_412_90 rt_412 (Or.inl rfl)
theorem rGa_9 {d : Nat} {S : cS} {nm : Nat} {t : Nat} {S1 : cS} {o : Nat} {g : Nat} {zg : Nat} {S2 : cS} {S3 : cS} {a : Nat} {g1 : Nat} {zg1 : Nat} {S4 : cS} {a1 : Nat} {fd0 : Nat} {t1 : Nat} {r : Nat} {N : Nat} {e : Nat} {r1 : Nat} {N1 : Nat} {r2 : Nat} {N2 : Nat} {S5 : cS} (mnm : nm < 2 ^ 20) (ht : sI S 6151 = nI t) (mt : t < 20481) (b1 : 1 ≤ t) (c1 : Ans (d + 8) 363 [.ref 61, .int (nI (t - 1)), .int (nI 5)] S (some (.int (nI 1))) S1) (ho : (sL S1 92 (t - 1)).toInt32 = nI o) (mo : o < 1500) (ag : 108 ≤ g) (hq3 : sQ S1 86 o = some g) (c2 : Ans (d + 8) 399 [.ref g, .int (nI 0), .long ((nI nm).toInt64), .long 0] S1 (some (.int (Int32.ofInt (-1)))) S2) (hz1 : (sS S1)[g - 108]? = some (13, zg)) (hz2 : (sS S2)[g - 108]? = some (13, zg)) (n2 : sI S2 (100 * g + 11) = Int32.ofInt (-1)) (ma : a < 1500) (c3 : Ans (d + 8) 398 [.ref 61, .int (Int32.ofInt (-1)), .int (nI nm)] S2 (some (.int (nI a))) S3) (ag1 : 108 ≤ g1) (hq7 : sQ S3 86 a = some g1) (ma1 : a1 < 2 ^ 20) (c4 : Ans (d + 8) 399 [.ref g1, .int (nI 0), .long ((nI nm).toInt64), .long 0] S3 (some (.int (nI a1))) S4) (hz3 : (sS S3)[g1 - 108]? = some (13, zg1)) (hz4 : (sS S4)[g - 108]? = some (13, zg)) (hfd0 : sI S4 (100 * g + 0) = nI fd0) (mfd0 : fd0 < 2 ^ 20) (b3 : fd0 = 4) (ht1 : sI S4 6151 = nI t1) (mt1 : t1 < 20481) (b4 : 1 ≤ t1) (hz5 : (sS S4)[g1 - 108]? = some (13, zg1)) (hv1 : sV S4 (100 * g1 + 2) = .ref r) (hg1 : isK S4 r 0 N) (mN : N < 2 ^ 20) (b5 : a1 < N) (he : sA (wI 6151 (nI (t1 - 1)) S4) r a1 = nI e) (me : e < 2 ^ 20) (hv2 : sV S4 (100 * g1 + 4) = .ref r1) (hg2 : isK S4 r1 1 N1) (mN1 : N1 < 2 ^ 20) (b6 : a1 < N1) (hv3 : sV S4 (100 * g1 + 5) = .ref r2) (hg3 : isK S4 r2 1 N2) (mN2 : N2 < 2 ^ 20) (b7 : a1 < N2) (c5 : Ans (d + 8) 352 [.ref 61, .int (nI e), .long (sL (wI 6151 (nI (t1 - 1)) S4) r1 a1), .long (sL (wI 6151 (nI (t1 - 1)) S4) r2 a1)] (wI 6151 (nI (t1 - 1)) S4) none S5) : Bod (d + 8) 412 0 [(0, .ref 61), (1, .int (nI nm))] [] S (some (.int 1)) (S5) := by
  refine Bod.go dc_412_0 rfl ?_
  refine Bod.get dc_412_1 fr_412_493 (mk_61 _) rfl ?_
  refine Bod.eqI (nI t) (by first | assumption | rfl | exact congrArg nI (by omega) | (simp (disch := omega) only [rI, rIe, rA, rIA, rLA, rJA, rVI, rQI, rVA, rQA, upd_at,  rAI, rLI, rJI, nI_add, pk_sub, kc_0, kc_1, kc_2, kc_3, kc_4, kc_5, reduceIte, Nat.reduceEqDiff, Nat.add_zero, rI_hold, rI_hold, rL_hold, ht]; done)) ?_
  refine Bod.ic 1 (by decide) dc_412_4 ?_
  refine Bod.subN (t - 1) (by omega) (by omega) dc_412_5 ?_
  refine Bod.istn dc_412_6 (by rw [ml_412]; exact Nat.le_of_ble_eq_true rfl) ?_
  refine Bod.go dc_412_7 rfl ?_
  refine Bod.go dc_412_8 rfl ?_
  refine Bod.ic 5 (by decide) dc_412_9 ?_
  refine Bod.virt (r := []) dc_412_10 kr_412_683 ⟨Or.inl rfl, ow_363, cl_14⟩ (by rw [np_363]; rfl) (by rw [np_363]; rfl) (ob_of (mk_61 _)) (Nat.le_of_ble_eq_true rfl) (c1  ) ?_
  show Bod _ _ _ _ [_] _ _ _
  refine Bod.ifT dc_412_13 rfl (k1_ne_T (k_ne 1 0 rfl rfl (by omega) (by omega) (by omega))) ?_
  refine Bod.go dc_412_31 rfl ?_
  refine Bod.get dc_412_32 fr_412_499 (mk_61 _) rfl ?_
  refine Bod.go dc_412_35 rfl ?_
  refine Bod.laldN (t - 1) rfl (by omega) (by omega) dc_412_36 (mk_92 _) ?_
  refine Bod.go dc_412_37 rfl ?_
  refine Bod.eqI (nI o) (by first | exact ho | (simp only [rI, rIe, rA, rIA, rLA, rJA, rVI, rQI, rVA, rQA, upd_at,  rAI, rLI, rJI, nI_add, pk_sub, kc_0, kc_1, kc_2, kc_3, kc_4, kc_5, reduceIte, Nat.reduceEqDiff, Nat.add_zero, rI_hold, rI_hold, rL_hold]; exact ho)) ?_
  refine Bod.istn dc_412_38 (by rw [ml_412]; exact Nat.le_of_ble_eq_true rfl) ?_
  refine Bod.go dc_412_39 rfl ?_
  refine Bod.get dc_412_40 fr_412_485 (mk_61 _) rfl ?_
  refine Bod.go dc_412_43 rfl ?_
  refine Bod.aaldR (N := 1500) (b := g) o rfl (by omega) (by omega) (by first | exact hq3 | (simp only [rIQ, rJQ, rAQ, rLQ, rVQ, rQ_holdE]; exact hq3)) dc_412_44 (mk_86 _) ht_5 ?_
  refine Bod.ast dc_412_45 (by rw [ml_412]; exact Nat.le_of_ble_eq_true rfl) ?_
  refine Bod.go dc_412_47 rfl ?_
  refine Bod.ic 0 (by decide) dc_412_49 ?_
  refine Bod.go dc_412_50 rfl ?_
  refine Bod.go dc_412_51 rfl ?_
  refine Bod.go dc_412_52 rfl ?_
  refine Bod.virt (r := []) dc_412_53 kr_412_764 ⟨Or.inl rfl, ow_399, cl_13⟩ (by rw [np_399]; rfl) (by rw [np_399]; rfl) (ob_of (mk_thing ag (by first | exact hz1 | (simp only [rIS, rJS, rAS, rLS, rVS, rQS, rS_hold]; exact hz1)))) (Nat.le_of_ble_eq_true rfl) (c2  ) ?_
  show Bod _ _ _ _ [_] _ _ _
  refine Bod.ist dc_412_56 (by rw [ml_412]; exact Nat.le_of_ble_eq_true rfl) ?_
  refine Bod.go dc_412_58 rfl ?_
  refine Bod.ifT dc_412_60 rfl (by decide) ?_
  refine Bod.go dc_412_67 rfl ?_
  refine Bod.go dc_412_68 rfl ?_
  refine Bod.get dc_412_70 fr_412_472 (mk_thing ag (by first | exact hz2 | (simp only [rIS, rJS, rAS, rLS, rVS, rQS, rS_hold]; exact hz2))) rfl ?_
  refine Bod.eqI (Int32.ofInt (-1)) (by first | assumption | (simp (disch := omega) only [rI, rIe, rA, rIA, rLA, rJA, rVI, rQI, rVA, rQA, upd_at,  rAI, rLI, rJI, nI_add, pk_sub, kc_0, kc_1, kc_2, kc_3, kc_4, kc_5, reduceIte, Nat.reduceEqDiff, Nat.add_zero, rI_hold, rI_hold, rL_hold, ht, n2]; done) | (simp (disch := omega) only [rI, rIe, rA, rIA, rLA, rJA, rVI, rQI, rVA, rQA, upd_at,  rAI, rLI, rJI, nI_add, pk_sub, kc_0, kc_1, kc_2, kc_3, kc_4, kc_5, reduceIte, Nat.reduceEqDiff, Nat.add_zero, rI_hold, rI_hold, rL_hold, ht, n2]; exact congrArg nI (by omega))) ?_
  refine Bod.go dc_412_73 rfl ?_
  refine Bod.virt (r := []) dc_412_74 kr_412_777 ⟨Or.inl rfl, ow_398, cl_14⟩ (by rw [np_398]; rfl) (by rw [np_398]; rfl) (ob_of (mk_61 _)) (Nat.le_of_ble_eq_true rfl) (c3  ) ?_
  show Bod _ _ _ _ [_] _ _ _
  refine Bod.ist dc_412_77 (by rw [ml_412]; exact Nat.le_of_ble_eq_true rfl) ?_
  refine Bod.go dc_412_79 rfl ?_
  refine Bod.ifT dc_412_81 rfl (k1_ge_T a rfl (by omega)) ?_
  refine Bod.go dc_412_91 rfl ?_
  refine Bod.get dc_412_92 fr_412_485 (mk_61 _) rfl ?_
  refine Bod.go dc_412_95 rfl ?_
  refine Bod.aaldR (N := 1500) (b := g1) a rfl (by omega) (by omega) (by first | exact hq7 | (simp only [rIQ, rJQ, rAQ, rLQ, rVQ, rQ_holdE]; exact hq7)) dc_412_97 (mk_86 _) ht_5 ?_
  refine Bod.ast dc_412_98 (by rw [ml_412]; exact Nat.le_of_ble_eq_true rfl) ?_
  refine Bod.go dc_412_100 rfl ?_
  refine Bod.ic 0 (by decide) dc_412_102 ?_
  refine Bod.go dc_412_103 rfl ?_
  refine Bod.go dc_412_104 rfl ?_
  refine Bod.go dc_412_105 rfl ?_
  refine Bod.virt (r := []) dc_412_106 kr_412_764 ⟨Or.inl rfl, ow_399, cl_13⟩ (by rw [np_399]; rfl) (by rw [np_399]; rfl) (ob_of (mk_thing ag1 (by first | exact hz3 | (simp only [rIS, rJS, rAS, rLS, rVS, rQS, rS_hold]; exact hz3)))) (Nat.le_of_ble_eq_true rfl) (c4  ) ?_
  show Bod _ _ _ _ [_] _ _ _
  refine Bod.ist dc_412_109 (by rw [ml_412]; exact Nat.le_of_ble_eq_true rfl) ?_
  refine Bod.go dc_412_111 rfl ?_
  refine Bod.get dc_412_113 fr_412_531 (mk_thing ag (by first | exact hz4 | (simp only [rIS, rJS, rAS, rLS, rVS, rQS, rS_hold]; exact hz4))) rfl ?_
  refine Bod.eqI (nI fd0) (by first | assumption | (simp (disch := omega) only [rI, rIe, rA, rIA, rLA, rJA, rVI, rQI, rVA, rQA, upd_at,  rAI, rLI, rJI, nI_add, pk_sub, kc_0, kc_1, kc_2, kc_3, kc_4, kc_5, reduceIte, Nat.reduceEqDiff, Nat.add_zero, rI_hold, rI_hold, rL_hold, ht, n2, hfd0]; done) | (simp (disch := omega) only [rI, rIe, rA, rIA, rLA, rJA, rVI, rQI, rVA, rQA, upd_at,  rAI, rLI, rJI, nI_add, pk_sub, kc_0, kc_1, kc_2, kc_3, kc_4, kc_5, reduceIte, Nat.reduceEqDiff, Nat.add_zero, rI_hold, rI_hold, rL_hold, ht, n2, hfd0]; exact congrArg nI (by omega))) ?_
  refine Bod.ic 4 (by decide) dc_412_116 ?_
  refine Bod.icT dc_412_117 rfl (k2_eq_T (k_eq fd0 4 rfl rfl (by omega))) ?_
  refine Bod.go dc_412_158 rfl ?_
  refine Bod.go dc_412_159 rfl ?_
  refine Bod.get dc_412_160 fr_412_493 (mk_61 _) rfl ?_
  refine Bod.eqI (nI t1) (by first | assumption | (simp (disch := omega) only [rI, rIe, rA, rIA, rLA, rJA, rVI, rQI, rVA, rQA, upd_at,  rAI, rLI, rJI, nI_add, pk_sub, kc_0, kc_1, kc_2, kc_3, kc_4, kc_5, reduceIte, Nat.reduceEqDiff, Nat.add_zero, rI_hold, rI_hold, rL_hold, ht, n2, hfd0, ht1]; done) | (simp (disch := omega) only [rI, rIe, rA, rIA, rLA, rJA, rVI, rQI, rVA, rQA, upd_at,  rAI, rLI, rJI, nI_add, pk_sub, kc_0, kc_1, kc_2, kc_3, kc_4, kc_5, reduceIte, Nat.reduceEqDiff, Nat.add_zero, rI_hold, rI_hold, rL_hold, ht, n2, hfd0, ht1]; exact congrArg nI (by omega))) ?_
  refine Bod.ic 1 (by decide) dc_412_163 ?_
  refine Bod.subN (t1 - 1) (by omega) (by omega) dc_412_164 ?_
  refine Bod.put dc_412_165 fr_412_493 (mk_61 _) (Nat.le_of_ble_eq_true rfl) pf_14_51 (st_6151 _ _) (mu_I _ _ _) ?_
  refine Bod.go dc_412_168 rfl ?_
  refine Bod.go dc_412_169 rfl ?_
  refine Bod.get dc_412_171 fr_412_462 (mk_thing ag1 (by first | exact hz5 | (simp only [rIS, rJS, rAS, rLS, rVS, rQS, rS_hold]; exact hz5))) rfl ?_
  refine Bod.eqV (.ref r) (by first | exact hv1 | (simp only [rIV, rJV, rAV, rLV, rQV, rV, reduceIte, Nat.reduceEqDiff]; exact hv1)) ?_
  refine Bod.go dc_412_174 rfl ?_
  refine Bod.ialdN (N := N) a1 rfl (by omega) (by omega) dc_412_176 (mk_isI (by first | exact hg1 | exact isK_S (by simp only [rIS, rJS, rAS, rLS, rVS, rQS, rS_hold]) hg1)) ?_
  refine Bod.eqI (nI e) (by first | assumption | (simp (disch := omega) only [rI, rIe, rA, rIA, rLA, rJA, rVI, rQI, rVA, rQA, upd_at,  rAI, rLI, rJI, nI_add, pk_sub, kc_0, kc_1, kc_2, kc_3, kc_4, kc_5, reduceIte, Nat.reduceEqDiff, Nat.add_zero, rI_hold, rI_hold, rL_hold, ht, n2, hfd0, ht1, he]; done) | (simp (disch := omega) only [rI, rIe, rA, rIA, rLA, rJA, rVI, rQI, rVA, rQA, upd_at,  rAI, rLI, rJI, nI_add, pk_sub, kc_0, kc_1, kc_2, kc_3, kc_4, kc_5, reduceIte, Nat.reduceEqDiff, Nat.add_zero, rI_hold, rI_hold, rL_hold, ht, n2, hfd0, ht1, he]; exact congrArg nI (by omega))) ?_
  refine Bod.go dc_412_177 rfl ?_
  refine Bod.get dc_412_179 fr_412_465 (mk_thing ag1 (by first | exact hz5 | (simp only [rIS, rJS, rAS, rLS, rVS, rQS, rS_hold]; exact hz5))) rfl ?_
  refine Bod.eqV (.ref r1) (by first | exact hv2 | (simp only [rIV, rJV, rAV, rLV, rQV, rV, reduceIte, Nat.reduceEqDiff]; exact hv2)) ?_
  refine Bod.go dc_412_182 rfl ?_
  refine Bod.laldN (N := N1) a1 rfl (by omega) (by omega) dc_412_184 (mk_isL (by first | exact hg2 | exact isK_S (by simp only [rIS, rJS, rAS, rLS, rVS, rQS, rS_hold]) hg2)) ?_
  refine Bod.go dc_412_185 rfl ?_
  refine Bod.get dc_412_187 fr_412_627 (mk_thing ag1 (by first | exact hz5 | (simp only [rIS, rJS, rAS, rLS, rVS, rQS, rS_hold]; exact hz5))) rfl ?_
  refine Bod.eqV (.ref r2) (by first | exact hv3 | (simp only [rIV, rJV, rAV, rLV, rQV, rV, reduceIte, Nat.reduceEqDiff]; exact hv3)) ?_
  refine Bod.go dc_412_190 rfl ?_
  refine Bod.laldN (N := N2) a1 rfl (by omega) (by omega) dc_412_192 (mk_isL (by first | exact hg3 | exact isK_S (by simp only [rIS, rJS, rAS, rLS, rVS, rQS, rS_hold]) hg3)) ?_
  refine Bod.virt (r := []) dc_412_193 kr_412_549 ⟨Or.inl rfl, ow_352, cl_14⟩ (by rw [np_352]; rfl) (by rw [np_352]; rfl) (ob_of (mk_61 _)) (Nat.le_of_ble_eq_true rfl) (c5  ) ?_
  show Bod _ _ _ _ [] _ _ _
  refine Bod.ic 1 (by decide) dc_412_196 ?_
  exact Bod.retZ dc_412_197 rt_412 (Or.inr rfl)
theorem rGa_10 {d : Nat} {S : cS} {nm : Nat} {t : Nat} {S1 : cS} {o : Nat} {g : Nat} {zg : Nat} {S2 : cS} {S3 : cS} {a : Nat} {g1 : Nat} {zg1 : Nat} {S4 : cS} {a1 : Nat} {fd0 : Nat} {r : Nat} {N : Nat} {e : Nat} {t1 : Nat} {r1 : Nat} {N1 : Nat} {r2 : Nat} {N2 : Nat} {S5 : cS} (mnm : nm < 2 ^ 20) (ht : sI S 6151 = nI t) (mt : t < 20481) (b1 : 1 ≤ t) (c1 : Ans (d + 8) 363 [.ref 61, .int (nI (t - 1)), .int (nI 5)] S (some (.int (nI 1))) S1) (ho : (sL S1 92 (t - 1)).toInt32 = nI o) (mo : o < 1500) (ag : 108 ≤ g) (hq3 : sQ S1 86 o = some g) (c2 : Ans (d + 8) 399 [.ref g, .int (nI 0), .long ((nI nm).toInt64), .long 0] S1 (some (.int (Int32.ofInt (-1)))) S2) (hz1 : (sS S1)[g - 108]? = some (13, zg)) (hz2 : (sS S2)[g - 108]? = some (13, zg)) (n2 : sI S2 (100 * g + 11) = Int32.ofInt (-1)) (ma : a < 1500) (c3 : Ans (d + 8) 398 [.ref 61, .int (Int32.ofInt (-1)), .int (nI nm)] S2 (some (.int (nI a))) S3) (ag1 : 108 ≤ g1) (hq7 : sQ S3 86 a = some g1) (ma1 : a1 < 2 ^ 20) (c4 : Ans (d + 8) 399 [.ref g1, .int (nI 0), .long ((nI nm).toInt64), .long 0] S3 (some (.int (nI a1))) S4) (hz3 : (sS S3)[g1 - 108]? = some (13, zg1)) (hz4 : (sS S4)[g - 108]? = some (13, zg)) (hfd0 : sI S4 (100 * g + 0) = nI fd0) (mfd0 : fd0 < 2 ^ 20) (b3 : fd0 ≠ 4) (hz5 : (sS S4)[g1 - 108]? = some (13, zg1)) (hv1 : sV S4 (100 * g1 + 2) = .ref r) (hg1 : isK S4 r 0 N) (mN : N < 2 ^ 20) (b4 : a1 < N) (he : sA S4 r a1 = nI e) (me : e < 2 ^ 20) (b5 : e ≠ 3) (ht1 : sI S4 6151 = nI t1) (mt1 : t1 < 20481) (b6 : 1 ≤ t1) (hv2 : sV S4 (100 * g1 + 4) = .ref r1) (hg2 : isK S4 r1 1 N1) (mN1 : N1 < 2 ^ 20) (b7 : a1 < N1) (hv3 : sV S4 (100 * g1 + 5) = .ref r2) (hg3 : isK S4 r2 1 N2) (mN2 : N2 < 2 ^ 20) (b8 : a1 < N2) (c5 : Ans (d + 8) 352 [.ref 61, .int (nI e), .long (sL (wI 6151 (nI (t1 - 1)) S4) r1 a1), .long (sL (wI 6151 (nI (t1 - 1)) S4) r2 a1)] (wI 6151 (nI (t1 - 1)) S4) none S5) : Bod (d + 8) 412 0 [(0, .ref 61), (1, .int (nI nm))] [] S (some (.int 1)) (S5) := by
  refine Bod.go dc_412_0 rfl ?_
  refine Bod.get dc_412_1 fr_412_493 (mk_61 _) rfl ?_
  refine Bod.eqI (nI t) (by first | assumption | rfl | exact congrArg nI (by omega) | (simp (disch := omega) only [rI, rIe, rA, rIA, rLA, rJA, rVI, rQI, rVA, rQA, upd_at,  rAI, rLI, rJI, nI_add, pk_sub, kc_0, kc_1, kc_2, kc_3, kc_4, kc_5, reduceIte, Nat.reduceEqDiff, Nat.add_zero, rI_hold, rI_hold, rL_hold, ht]; done)) ?_
  refine Bod.ic 1 (by decide) dc_412_4 ?_
  refine Bod.subN (t - 1) (by omega) (by omega) dc_412_5 ?_
  refine Bod.istn dc_412_6 (by rw [ml_412]; exact Nat.le_of_ble_eq_true rfl) ?_
  refine Bod.go dc_412_7 rfl ?_
  refine Bod.go dc_412_8 rfl ?_
  refine Bod.ic 5 (by decide) dc_412_9 ?_
  refine Bod.virt (r := []) dc_412_10 kr_412_683 ⟨Or.inl rfl, ow_363, cl_14⟩ (by rw [np_363]; rfl) (by rw [np_363]; rfl) (ob_of (mk_61 _)) (Nat.le_of_ble_eq_true rfl) (c1  ) ?_
  show Bod _ _ _ _ [_] _ _ _
  refine Bod.ifT dc_412_13 rfl (k1_ne_T (k_ne 1 0 rfl rfl (by omega) (by omega) (by omega))) ?_
  refine Bod.go dc_412_31 rfl ?_
  refine Bod.get dc_412_32 fr_412_499 (mk_61 _) rfl ?_
  refine Bod.go dc_412_35 rfl ?_
  refine Bod.laldN (t - 1) rfl (by omega) (by omega) dc_412_36 (mk_92 _) ?_
  refine Bod.go dc_412_37 rfl ?_
  refine Bod.eqI (nI o) (by first | exact ho | (simp only [rI, rIe, rA, rIA, rLA, rJA, rVI, rQI, rVA, rQA, upd_at,  rAI, rLI, rJI, nI_add, pk_sub, kc_0, kc_1, kc_2, kc_3, kc_4, kc_5, reduceIte, Nat.reduceEqDiff, Nat.add_zero, rI_hold, rI_hold, rL_hold]; exact ho)) ?_
  refine Bod.istn dc_412_38 (by rw [ml_412]; exact Nat.le_of_ble_eq_true rfl) ?_
  refine Bod.go dc_412_39 rfl ?_
  refine Bod.get dc_412_40 fr_412_485 (mk_61 _) rfl ?_
  refine Bod.go dc_412_43 rfl ?_
  refine Bod.aaldR (N := 1500) (b := g) o rfl (by omega) (by omega) (by first | exact hq3 | (simp only [rIQ, rJQ, rAQ, rLQ, rVQ, rQ_holdE]; exact hq3)) dc_412_44 (mk_86 _) ht_5 ?_
  refine Bod.ast dc_412_45 (by rw [ml_412]; exact Nat.le_of_ble_eq_true rfl) ?_
  refine Bod.go dc_412_47 rfl ?_
  refine Bod.ic 0 (by decide) dc_412_49 ?_
  refine Bod.go dc_412_50 rfl ?_
  refine Bod.go dc_412_51 rfl ?_
  refine Bod.go dc_412_52 rfl ?_
  refine Bod.virt (r := []) dc_412_53 kr_412_764 ⟨Or.inl rfl, ow_399, cl_13⟩ (by rw [np_399]; rfl) (by rw [np_399]; rfl) (ob_of (mk_thing ag (by first | exact hz1 | (simp only [rIS, rJS, rAS, rLS, rVS, rQS, rS_hold]; exact hz1)))) (Nat.le_of_ble_eq_true rfl) (c2  ) ?_
  show Bod _ _ _ _ [_] _ _ _
  refine Bod.ist dc_412_56 (by rw [ml_412]; exact Nat.le_of_ble_eq_true rfl) ?_
  refine Bod.go dc_412_58 rfl ?_
  refine Bod.ifT dc_412_60 rfl (by decide) ?_
  refine Bod.go dc_412_67 rfl ?_
  refine Bod.go dc_412_68 rfl ?_
  refine Bod.get dc_412_70 fr_412_472 (mk_thing ag (by first | exact hz2 | (simp only [rIS, rJS, rAS, rLS, rVS, rQS, rS_hold]; exact hz2))) rfl ?_
  refine Bod.eqI (Int32.ofInt (-1)) (by first | assumption | (simp (disch := omega) only [rI, rIe, rA, rIA, rLA, rJA, rVI, rQI, rVA, rQA, upd_at,  rAI, rLI, rJI, nI_add, pk_sub, kc_0, kc_1, kc_2, kc_3, kc_4, kc_5, reduceIte, Nat.reduceEqDiff, Nat.add_zero, rI_hold, rI_hold, rL_hold, ht, n2]; done) | (simp (disch := omega) only [rI, rIe, rA, rIA, rLA, rJA, rVI, rQI, rVA, rQA, upd_at,  rAI, rLI, rJI, nI_add, pk_sub, kc_0, kc_1, kc_2, kc_3, kc_4, kc_5, reduceIte, Nat.reduceEqDiff, Nat.add_zero, rI_hold, rI_hold, rL_hold, ht, n2]; exact congrArg nI (by omega))) ?_
  refine Bod.go dc_412_73 rfl ?_
  refine Bod.virt (r := []) dc_412_74 kr_412_777 ⟨Or.inl rfl, ow_398, cl_14⟩ (by rw [np_398]; rfl) (by rw [np_398]; rfl) (ob_of (mk_61 _)) (Nat.le_of_ble_eq_true rfl) (c3  ) ?_
  show Bod _ _ _ _ [_] _ _ _
  refine Bod.ist dc_412_77 (by rw [ml_412]; exact Nat.le_of_ble_eq_true rfl) ?_
  refine Bod.go dc_412_79 rfl ?_
  refine Bod.ifT dc_412_81 rfl (k1_ge_T a rfl (by omega)) ?_
  refine Bod.go dc_412_91 rfl ?_
  refine Bod.get dc_412_92 fr_412_485 (mk_61 _) rfl ?_
  refine Bod.go dc_412_95 rfl ?_
  refine Bod.aaldR (N := 1500) (b := g1) a rfl (by omega) (by omega) (by first | exact hq7 | (simp only [rIQ, rJQ, rAQ, rLQ, rVQ, rQ_holdE]; exact hq7)) dc_412_97 (mk_86 _) ht_5 ?_
  refine Bod.ast dc_412_98 (by rw [ml_412]; exact Nat.le_of_ble_eq_true rfl) ?_
  refine Bod.go dc_412_100 rfl ?_
  refine Bod.ic 0 (by decide) dc_412_102 ?_
  refine Bod.go dc_412_103 rfl ?_
  refine Bod.go dc_412_104 rfl ?_
  refine Bod.go dc_412_105 rfl ?_
  refine Bod.virt (r := []) dc_412_106 kr_412_764 ⟨Or.inl rfl, ow_399, cl_13⟩ (by rw [np_399]; rfl) (by rw [np_399]; rfl) (ob_of (mk_thing ag1 (by first | exact hz3 | (simp only [rIS, rJS, rAS, rLS, rVS, rQS, rS_hold]; exact hz3)))) (Nat.le_of_ble_eq_true rfl) (c4  ) ?_
  show Bod _ _ _ _ [_] _ _ _
  refine Bod.ist dc_412_109 (by rw [ml_412]; exact Nat.le_of_ble_eq_true rfl) ?_
  refine Bod.go dc_412_111 rfl ?_
  refine Bod.get dc_412_113 fr_412_531 (mk_thing ag (by first | exact hz4 | (simp only [rIS, rJS, rAS, rLS, rVS, rQS, rS_hold]; exact hz4))) rfl ?_
  refine Bod.eqI (nI fd0) (by first | assumption | (simp (disch := omega) only [rI, rIe, rA, rIA, rLA, rJA, rVI, rQI, rVA, rQA, upd_at,  rAI, rLI, rJI, nI_add, pk_sub, kc_0, kc_1, kc_2, kc_3, kc_4, kc_5, reduceIte, Nat.reduceEqDiff, Nat.add_zero, rI_hold, rI_hold, rL_hold, ht, n2, hfd0]; done) | (simp (disch := omega) only [rI, rIe, rA, rIA, rLA, rJA, rVI, rQI, rVA, rQA, upd_at,  rAI, rLI, rJI, nI_add, pk_sub, kc_0, kc_1, kc_2, kc_3, kc_4, kc_5, reduceIte, Nat.reduceEqDiff, Nat.add_zero, rI_hold, rI_hold, rL_hold, ht, n2, hfd0]; exact congrArg nI (by omega))) ?_
  refine Bod.ic 4 (by decide) dc_412_116 ?_
  refine Bod.icF dc_412_117 rfl (k2_eq_F (k_ne fd0 4 rfl rfl (by omega) (by omega) (by omega))) ?_
  refine Bod.go dc_412_120 rfl ?_
  refine Bod.ifF dc_412_122 rfl (by decide) ?_
  refine Bod.go dc_412_125 rfl ?_
  refine Bod.get dc_412_127 fr_412_462 (mk_thing ag1 (by first | exact hz5 | (simp only [rIS, rJS, rAS, rLS, rVS, rQS, rS_hold]; exact hz5))) rfl ?_
  refine Bod.eqV (.ref r) (by first | exact hv1 | (simp only [rIV, rJV, rAV, rLV, rQV, rV, reduceIte, Nat.reduceEqDiff]; exact hv1)) ?_
  refine Bod.go dc_412_130 rfl ?_
  refine Bod.ialdN (N := N) a1 rfl (by omega) (by omega) dc_412_132 (mk_isI (by first | exact hg1 | exact isK_S (by simp only [rIS, rJS, rAS, rLS, rVS, rQS, rS_hold]) hg1)) ?_
  refine Bod.eqI (nI e) (by first | assumption | (simp (disch := omega) only [rI, rIe, rA, rIA, rLA, rJA, rVI, rQI, rVA, rQA, upd_at,  rAI, rLI, rJI, nI_add, pk_sub, kc_0, kc_1, kc_2, kc_3, kc_4, kc_5, reduceIte, Nat.reduceEqDiff, Nat.add_zero, rI_hold, rI_hold, rL_hold, ht, n2, hfd0, he]; done) | (simp (disch := omega) only [rI, rIe, rA, rIA, rLA, rJA, rVI, rQI, rVA, rQA, upd_at,  rAI, rLI, rJI, nI_add, pk_sub, kc_0, kc_1, kc_2, kc_3, kc_4, kc_5, reduceIte, Nat.reduceEqDiff, Nat.add_zero, rI_hold, rI_hold, rL_hold, ht, n2, hfd0, he]; exact congrArg nI (by omega))) ?_
  refine Bod.ic 3 (by decide) dc_412_133 ?_
  refine Bod.icT dc_412_134 rfl (k2_ne_T (k_ne e 3 rfl rfl (by omega) (by omega) (by omega))) ?_
  refine Bod.go dc_412_158 rfl ?_
  refine Bod.go dc_412_159 rfl ?_
  refine Bod.get dc_412_160 fr_412_493 (mk_61 _) rfl ?_
  refine Bod.eqI (nI t1) (by first | assumption | (simp (disch := omega) only [rI, rIe, rA, rIA, rLA, rJA, rVI, rQI, rVA, rQA, upd_at,  rAI, rLI, rJI, nI_add, pk_sub, kc_0, kc_1, kc_2, kc_3, kc_4, kc_5, reduceIte, Nat.reduceEqDiff, Nat.add_zero, rI_hold, rI_hold, rL_hold, ht, n2, hfd0, he, ht1]; done) | (simp (disch := omega) only [rI, rIe, rA, rIA, rLA, rJA, rVI, rQI, rVA, rQA, upd_at,  rAI, rLI, rJI, nI_add, pk_sub, kc_0, kc_1, kc_2, kc_3, kc_4, kc_5, reduceIte, Nat.reduceEqDiff, Nat.add_zero, rI_hold, rI_hold, rL_hold, ht, n2, hfd0, he, ht1]; exact congrArg nI (by omega))) ?_
  refine Bod.ic 1 (by decide) dc_412_163 ?_
  refine Bod.subN (t1 - 1) (by omega) (by omega) dc_412_164 ?_
  refine Bod.put dc_412_165 fr_412_493 (mk_61 _) (Nat.le_of_ble_eq_true rfl) pf_14_51 (st_6151 _ _) (mu_I _ _ _) ?_
  refine Bod.go dc_412_168 rfl ?_
  refine Bod.go dc_412_169 rfl ?_
  refine Bod.get dc_412_171 fr_412_462 (mk_thing ag1 (by first | exact hz5 | (simp only [rIS, rJS, rAS, rLS, rVS, rQS, rS_hold]; exact hz5))) rfl ?_
  refine Bod.eqV (.ref r) (by first | exact hv1 | (simp only [rIV, rJV, rAV, rLV, rQV, rV, reduceIte, Nat.reduceEqDiff]; exact hv1)) ?_
  refine Bod.go dc_412_174 rfl ?_
  refine Bod.ialdN (N := N) a1 rfl (by omega) (by omega) dc_412_176 (mk_isI (by first | exact hg1 | exact isK_S (by simp only [rIS, rJS, rAS, rLS, rVS, rQS, rS_hold]) hg1)) ?_
  refine Bod.eqI (nI e) (by first | assumption | (simp (disch := omega) only [rI, rIe, rA, rIA, rLA, rJA, rVI, rQI, rVA, rQA, upd_at,  rAI, rLI, rJI, nI_add, pk_sub, kc_0, kc_1, kc_2, kc_3, kc_4, kc_5, reduceIte, Nat.reduceEqDiff, Nat.add_zero, rI_hold, rI_hold, rL_hold, ht, n2, hfd0, he, ht1]; done) | (simp (disch := omega) only [rI, rIe, rA, rIA, rLA, rJA, rVI, rQI, rVA, rQA, upd_at,  rAI, rLI, rJI, nI_add, pk_sub, kc_0, kc_1, kc_2, kc_3, kc_4, kc_5, reduceIte, Nat.reduceEqDiff, Nat.add_zero, rI_hold, rI_hold, rL_hold, ht, n2, hfd0, he, ht1]; exact congrArg nI (by omega))) ?_
  refine Bod.go dc_412_177 rfl ?_
  refine Bod.get dc_412_179 fr_412_465 (mk_thing ag1 (by first | exact hz5 | (simp only [rIS, rJS, rAS, rLS, rVS, rQS, rS_hold]; exact hz5))) rfl ?_
  refine Bod.eqV (.ref r1) (by first | exact hv2 | (simp only [rIV, rJV, rAV, rLV, rQV, rV, reduceIte, Nat.reduceEqDiff]; exact hv2)) ?_
  refine Bod.go dc_412_182 rfl ?_
  refine Bod.laldN (N := N1) a1 rfl (by omega) (by omega) dc_412_184 (mk_isL (by first | exact hg2 | exact isK_S (by simp only [rIS, rJS, rAS, rLS, rVS, rQS, rS_hold]) hg2)) ?_
  refine Bod.go dc_412_185 rfl ?_
  refine Bod.get dc_412_187 fr_412_627 (mk_thing ag1 (by first | exact hz5 | (simp only [rIS, rJS, rAS, rLS, rVS, rQS, rS_hold]; exact hz5))) rfl ?_
  refine Bod.eqV (.ref r2) (by first | exact hv3 | (simp only [rIV, rJV, rAV, rLV, rQV, rV, reduceIte, Nat.reduceEqDiff]; exact hv3)) ?_
  refine Bod.go dc_412_190 rfl ?_
  refine Bod.laldN (N := N2) a1 rfl (by omega) (by omega) dc_412_192 (mk_isL (by first | exact hg3 | exact isK_S (by simp only [rIS, rJS, rAS, rLS, rVS, rQS, rS_hold]) hg3)) ?_
  refine Bod.virt (r := []) dc_412_193 kr_412_549 ⟨Or.inl rfl, ow_352, cl_14⟩ (by rw [np_352]; rfl) (by rw [np_352]; rfl) (ob_of (mk_61 _)) (Nat.le_of_ble_eq_true rfl) (c5  ) ?_
  show Bod _ _ _ _ [] _ _ _
  refine Bod.ic 1 (by decide) dc_412_196 ?_
  exact Bod.retZ dc_412_197 rt_412 (Or.inr rfl)
theorem rGa_11 {d : Nat} {S : cS} {nm : Nat} {t : Nat} {S1 : cS} {o : Nat} {g : Nat} {zg : Nat} {S2 : cS} {S3 : cS} {a : Nat} {g1 : Nat} {zg1 : Nat} {S4 : cS} {a1 : Nat} {fd0 : Nat} {r : Nat} {N : Nat} {e : Nat} {r1 : Nat} {N1 : Nat} {o1 : Nat} {g2 : Nat} {zg2 : Nat} {fd01 : Nat} {S5 : cS} {a2 : Nat} {g3 : Nat} {zg3 : Nat} {r2 : Nat} {N2 : Nat} {o2 : Nat} {t1 : Nat} {S6 : cS} (mnm : nm < 2 ^ 20) (ht : sI S 6151 = nI t) (mt : t < 20481) (b1 : 1 ≤ t) (c1 : Ans (d + 8) 363 [.ref 61, .int (nI (t - 1)), .int (nI 5)] S (some (.int (nI 1))) S1) (ho : (sL S1 92 (t - 1)).toInt32 = nI o) (mo : o < 1500) (ag : 108 ≤ g) (hq3 : sQ S1 86 o = some g) (c2 : Ans (d + 8) 399 [.ref g, .int (nI 0), .long ((nI nm).toInt64), .long 0] S1 (some (.int (Int32.ofInt (-1)))) S2) (hz1 : (sS S1)[g - 108]? = some (13, zg)) (hz2 : (sS S2)[g - 108]? = some (13, zg)) (n2 : sI S2 (100 * g + 11) = Int32.ofInt (-1)) (ma : a < 1500) (c3 : Ans (d + 8) 398 [.ref 61, .int (Int32.ofInt (-1)), .int (nI nm)] S2 (some (.int (nI a))) S3) (ag1 : 108 ≤ g1) (hq7 : sQ S3 86 a = some g1) (ma1 : a1 < 2 ^ 20) (c4 : Ans (d + 8) 399 [.ref g1, .int (nI 0), .long ((nI nm).toInt64), .long 0] S3 (some (.int (nI a1))) S4) (hz3 : (sS S3)[g1 - 108]? = some (13, zg1)) (hz4 : (sS S4)[g - 108]? = some (13, zg)) (hfd0 : sI S4 (100 * g + 0) = nI fd0) (mfd0 : fd0 < 2 ^ 20) (b3 : fd0 ≠ 4) (hz5 : (sS S4)[g1 - 108]? = some (13, zg1)) (hv1 : sV S4 (100 * g1 + 2) = .ref r) (hg1 : isK S4 r 0 N) (mN : N < 2 ^ 20) (b4 : a1 < N) (he : sA S4 r a1 = nI e) (me : e < 2 ^ 20) (b5 : e = 3) (hv2 : sV S4 (100 * g1 + 4) = .ref r1) (hg2 : isK S4 r1 1 N1) (mN1 : N1 < 2 ^ 20) (b6 : a1 < N1) (ho1 : (sL S4 r1 a1).toInt32 = nI o1) (mo1 : o1 < 1500) (ag2 : 108 ≤ g2) (hq16 : sQ S4 86 o1 = some g2) (hz6 : (sS S4)[g2 - 108]? = some (13, zg2)) (hfd01 : sI S4 (100 * g2 + 0) = nI fd01) (mfd01 : fd01 < 2 ^ 20) (b7 : fd01 = 3) (ma2 : a2 < 1500) (c5 : Ans (d + 8) 364 [.ref 61, .int (nI 6)] S4 (some (.int (nI a2))) S5) (ag3 : 108 ≤ g3) (hq19 : sQ S5 86 a2 = some g3) (hz7 : (sS S5)[g1 - 108]? = some (13, zg1)) (hv3 : sV S5 (100 * g1 + 4) = .ref r2) (hg3 : isK S5 r2 1 N2) (mN2 : N2 < 2 ^ 20) (b8 : a1 < N2) (ho2 : (sL S5 r2 a1).toInt32 = nI o2) (mo2 : o2 < 1500) (hz8 : (sS S5)[g3 - 108]? = some (13, zg3)) (ht1 : sI (wI (100 * g3 + 12) (nI o) (wI (100 * g3 + 11) (nI o2) S5)) 6151 = nI t1) (mt1 : t1 < 20481) (b9 : 1 ≤ t1) (c6 : Ans (d + 8) 352 [.ref 61, .int (nI 3), .long ((nI a2).toInt64), .long 0] (wI 6151 (nI (t1 - 1)) (wI (100 * g3 + 12) (nI o) (wI (100 * g3 + 11) (nI o2) S5))) none S6) : Bod (d + 8) 412 0 [(0, .ref 61), (1, .int (nI nm))] [] S (some (.int 1)) (S6) := by
  refine Bod.go dc_412_0 rfl ?_
  refine Bod.get dc_412_1 fr_412_493 (mk_61 _) rfl ?_
  refine Bod.eqI (nI t) (by first | assumption | rfl | exact congrArg nI (by omega) | (simp (disch := omega) only [rI, rIe, rA, rIA, rLA, rJA, rVI, rQI, rVA, rQA, upd_at,  rAI, rLI, rJI, nI_add, pk_sub, kc_0, kc_1, kc_2, kc_3, kc_4, kc_5, reduceIte, Nat.reduceEqDiff, Nat.add_zero, rI_hold, rI_hold, rL_hold, ht]; done)) ?_
  refine Bod.ic 1 (by decide) dc_412_4 ?_
  refine Bod.subN (t - 1) (by omega) (by omega) dc_412_5 ?_
  refine Bod.istn dc_412_6 (by rw [ml_412]; exact Nat.le_of_ble_eq_true rfl) ?_
  refine Bod.go dc_412_7 rfl ?_
  refine Bod.go dc_412_8 rfl ?_
  refine Bod.ic 5 (by decide) dc_412_9 ?_
  refine Bod.virt (r := []) dc_412_10 kr_412_683 ⟨Or.inl rfl, ow_363, cl_14⟩ (by rw [np_363]; rfl) (by rw [np_363]; rfl) (ob_of (mk_61 _)) (Nat.le_of_ble_eq_true rfl) (c1  ) ?_
  show Bod _ _ _ _ [_] _ _ _
  refine Bod.ifT dc_412_13 rfl (k1_ne_T (k_ne 1 0 rfl rfl (by omega) (by omega) (by omega))) ?_
  refine Bod.go dc_412_31 rfl ?_
  refine Bod.get dc_412_32 fr_412_499 (mk_61 _) rfl ?_
  refine Bod.go dc_412_35 rfl ?_
  refine Bod.laldN (t - 1) rfl (by omega) (by omega) dc_412_36 (mk_92 _) ?_
  refine Bod.go dc_412_37 rfl ?_
  refine Bod.eqI (nI o) (by first | exact ho | (simp only [rI, rIe, rA, rIA, rLA, rJA, rVI, rQI, rVA, rQA, upd_at,  rAI, rLI, rJI, nI_add, pk_sub, kc_0, kc_1, kc_2, kc_3, kc_4, kc_5, reduceIte, Nat.reduceEqDiff, Nat.add_zero, rI_hold, rI_hold, rL_hold]; exact ho)) ?_
  refine Bod.istn dc_412_38 (by rw [ml_412]; exact Nat.le_of_ble_eq_true rfl) ?_
  refine Bod.go dc_412_39 rfl ?_
  refine Bod.get dc_412_40 fr_412_485 (mk_61 _) rfl ?_
  refine Bod.go dc_412_43 rfl ?_
  refine Bod.aaldR (N := 1500) (b := g) o rfl (by omega) (by omega) (by first | exact hq3 | (simp only [rIQ, rJQ, rAQ, rLQ, rVQ, rQ_holdE]; exact hq3)) dc_412_44 (mk_86 _) ht_5 ?_
  refine Bod.ast dc_412_45 (by rw [ml_412]; exact Nat.le_of_ble_eq_true rfl) ?_
  refine Bod.go dc_412_47 rfl ?_
  refine Bod.ic 0 (by decide) dc_412_49 ?_
  refine Bod.go dc_412_50 rfl ?_
  refine Bod.go dc_412_51 rfl ?_
  refine Bod.go dc_412_52 rfl ?_
  refine Bod.virt (r := []) dc_412_53 kr_412_764 ⟨Or.inl rfl, ow_399, cl_13⟩ (by rw [np_399]; rfl) (by rw [np_399]; rfl) (ob_of (mk_thing ag (by first | exact hz1 | (simp only [rIS, rJS, rAS, rLS, rVS, rQS, rS_hold]; exact hz1)))) (Nat.le_of_ble_eq_true rfl) (c2  ) ?_
  show Bod _ _ _ _ [_] _ _ _
  refine Bod.ist dc_412_56 (by rw [ml_412]; exact Nat.le_of_ble_eq_true rfl) ?_
  refine Bod.go dc_412_58 rfl ?_
  refine Bod.ifT dc_412_60 rfl (by decide) ?_
  refine Bod.go dc_412_67 rfl ?_
  refine Bod.go dc_412_68 rfl ?_
  refine Bod.get dc_412_70 fr_412_472 (mk_thing ag (by first | exact hz2 | (simp only [rIS, rJS, rAS, rLS, rVS, rQS, rS_hold]; exact hz2))) rfl ?_
  refine Bod.eqI (Int32.ofInt (-1)) (by first | assumption | (simp (disch := omega) only [rI, rIe, rA, rIA, rLA, rJA, rVI, rQI, rVA, rQA, upd_at,  rAI, rLI, rJI, nI_add, pk_sub, kc_0, kc_1, kc_2, kc_3, kc_4, kc_5, reduceIte, Nat.reduceEqDiff, Nat.add_zero, rI_hold, rI_hold, rL_hold, ht, n2]; done) | (simp (disch := omega) only [rI, rIe, rA, rIA, rLA, rJA, rVI, rQI, rVA, rQA, upd_at,  rAI, rLI, rJI, nI_add, pk_sub, kc_0, kc_1, kc_2, kc_3, kc_4, kc_5, reduceIte, Nat.reduceEqDiff, Nat.add_zero, rI_hold, rI_hold, rL_hold, ht, n2]; exact congrArg nI (by omega))) ?_
  refine Bod.go dc_412_73 rfl ?_
  refine Bod.virt (r := []) dc_412_74 kr_412_777 ⟨Or.inl rfl, ow_398, cl_14⟩ (by rw [np_398]; rfl) (by rw [np_398]; rfl) (ob_of (mk_61 _)) (Nat.le_of_ble_eq_true rfl) (c3  ) ?_
  show Bod _ _ _ _ [_] _ _ _
  refine Bod.ist dc_412_77 (by rw [ml_412]; exact Nat.le_of_ble_eq_true rfl) ?_
  refine Bod.go dc_412_79 rfl ?_
  refine Bod.ifT dc_412_81 rfl (k1_ge_T a rfl (by omega)) ?_
  refine Bod.go dc_412_91 rfl ?_
  refine Bod.get dc_412_92 fr_412_485 (mk_61 _) rfl ?_
  refine Bod.go dc_412_95 rfl ?_
  refine Bod.aaldR (N := 1500) (b := g1) a rfl (by omega) (by omega) (by first | exact hq7 | (simp only [rIQ, rJQ, rAQ, rLQ, rVQ, rQ_holdE]; exact hq7)) dc_412_97 (mk_86 _) ht_5 ?_
  refine Bod.ast dc_412_98 (by rw [ml_412]; exact Nat.le_of_ble_eq_true rfl) ?_
  refine Bod.go dc_412_100 rfl ?_
  refine Bod.ic 0 (by decide) dc_412_102 ?_
  refine Bod.go dc_412_103 rfl ?_
  refine Bod.go dc_412_104 rfl ?_
  refine Bod.go dc_412_105 rfl ?_
  refine Bod.virt (r := []) dc_412_106 kr_412_764 ⟨Or.inl rfl, ow_399, cl_13⟩ (by rw [np_399]; rfl) (by rw [np_399]; rfl) (ob_of (mk_thing ag1 (by first | exact hz3 | (simp only [rIS, rJS, rAS, rLS, rVS, rQS, rS_hold]; exact hz3)))) (Nat.le_of_ble_eq_true rfl) (c4  ) ?_
  show Bod _ _ _ _ [_] _ _ _
  refine Bod.ist dc_412_109 (by rw [ml_412]; exact Nat.le_of_ble_eq_true rfl) ?_
  refine Bod.go dc_412_111 rfl ?_
  refine Bod.get dc_412_113 fr_412_531 (mk_thing ag (by first | exact hz4 | (simp only [rIS, rJS, rAS, rLS, rVS, rQS, rS_hold]; exact hz4))) rfl ?_
  refine Bod.eqI (nI fd0) (by first | assumption | (simp (disch := omega) only [rI, rIe, rA, rIA, rLA, rJA, rVI, rQI, rVA, rQA, upd_at,  rAI, rLI, rJI, nI_add, pk_sub, kc_0, kc_1, kc_2, kc_3, kc_4, kc_5, reduceIte, Nat.reduceEqDiff, Nat.add_zero, rI_hold, rI_hold, rL_hold, ht, n2, hfd0]; done) | (simp (disch := omega) only [rI, rIe, rA, rIA, rLA, rJA, rVI, rQI, rVA, rQA, upd_at,  rAI, rLI, rJI, nI_add, pk_sub, kc_0, kc_1, kc_2, kc_3, kc_4, kc_5, reduceIte, Nat.reduceEqDiff, Nat.add_zero, rI_hold, rI_hold, rL_hold, ht, n2, hfd0]; exact congrArg nI (by omega))) ?_
  refine Bod.ic 4 (by decide) dc_412_116 ?_
  refine Bod.icF dc_412_117 rfl (k2_eq_F (k_ne fd0 4 rfl rfl (by omega) (by omega) (by omega))) ?_
  refine Bod.go dc_412_120 rfl ?_
  refine Bod.ifF dc_412_122 rfl (by decide) ?_
  refine Bod.go dc_412_125 rfl ?_
  refine Bod.get dc_412_127 fr_412_462 (mk_thing ag1 (by first | exact hz5 | (simp only [rIS, rJS, rAS, rLS, rVS, rQS, rS_hold]; exact hz5))) rfl ?_
  refine Bod.eqV (.ref r) (by first | exact hv1 | (simp only [rIV, rJV, rAV, rLV, rQV, rV, reduceIte, Nat.reduceEqDiff]; exact hv1)) ?_
  refine Bod.go dc_412_130 rfl ?_
  refine Bod.ialdN (N := N) a1 rfl (by omega) (by omega) dc_412_132 (mk_isI (by first | exact hg1 | exact isK_S (by simp only [rIS, rJS, rAS, rLS, rVS, rQS, rS_hold]) hg1)) ?_
  refine Bod.eqI (nI e) (by first | assumption | (simp (disch := omega) only [rI, rIe, rA, rIA, rLA, rJA, rVI, rQI, rVA, rQA, upd_at,  rAI, rLI, rJI, nI_add, pk_sub, kc_0, kc_1, kc_2, kc_3, kc_4, kc_5, reduceIte, Nat.reduceEqDiff, Nat.add_zero, rI_hold, rI_hold, rL_hold, ht, n2, hfd0, he]; done) | (simp (disch := omega) only [rI, rIe, rA, rIA, rLA, rJA, rVI, rQI, rVA, rQA, upd_at,  rAI, rLI, rJI, nI_add, pk_sub, kc_0, kc_1, kc_2, kc_3, kc_4, kc_5, reduceIte, Nat.reduceEqDiff, Nat.add_zero, rI_hold, rI_hold, rL_hold, ht, n2, hfd0, he]; exact congrArg nI (by omega))) ?_
  refine Bod.ic 3 (by decide) dc_412_133 ?_
  refine Bod.icF dc_412_134 rfl (k2_ne_F (k_eq e 3 rfl rfl (by omega))) ?_
  refine Bod.go dc_412_137 rfl ?_
  refine Bod.get dc_412_138 fr_412_485 (mk_61 _) rfl ?_
  refine Bod.go dc_412_141 rfl ?_
  refine Bod.get dc_412_143 fr_412_465 (mk_thing ag1 (by first | exact hz5 | (simp only [rIS, rJS, rAS, rLS, rVS, rQS, rS_hold]; exact hz5))) rfl ?_
  refine Bod.eqV (.ref r1) (by first | exact hv2 | (simp only [rIV, rJV, rAV, rLV, rQV, rV, reduceIte, Nat.reduceEqDiff]; exact hv2)) ?_
  refine Bod.go dc_412_146 rfl ?_
  refine Bod.laldN (N := N1) a1 rfl (by omega) (by omega) dc_412_148 (mk_isL (by first | exact hg2 | exact isK_S (by simp only [rIS, rJS, rAS, rLS, rVS, rQS, rS_hold]) hg2)) ?_
  refine Bod.go dc_412_149 rfl ?_
  refine Bod.eqI (nI o1) (by first | exact ho1 | (simp only [rI, rIe, rA, rIA, rLA, rJA, rVI, rQI, rVA, rQA, upd_at,  rAI, rLI, rJI, nI_add, pk_sub, kc_0, kc_1, kc_2, kc_3, kc_4, kc_5, reduceIte, Nat.reduceEqDiff, Nat.add_zero, rI_hold, rI_hold, rL_hold]; exact ho1)) ?_
  refine Bod.aaldR (N := 1500) (b := g2) o1 rfl (by omega) (by omega) (by first | exact hq16 | (simp only [rIQ, rJQ, rAQ, rLQ, rVQ, rQ_holdE]; exact hq16)) dc_412_150 (mk_86 _) ht_5 ?_
  refine Bod.get dc_412_151 fr_412_531 (mk_thing ag2 (by first | exact hz6 | (simp only [rIS, rJS, rAS, rLS, rVS, rQS, rS_hold]; exact hz6))) rfl ?_
  refine Bod.eqI (nI fd01) (by first | assumption | (simp (disch := omega) only [rI, rIe, rA, rIA, rLA, rJA, rVI, rQI, rVA, rQA, upd_at,  rAI, rLI, rJI, nI_add, pk_sub, kc_0, kc_1, kc_2, kc_3, kc_4, kc_5, reduceIte, Nat.reduceEqDiff, Nat.add_zero, rI_hold, rI_hold, rL_hold, ht, n2, hfd0, he, hfd01]; done) | (simp (disch := omega) only [rI, rIe, rA, rIA, rLA, rJA, rVI, rQI, rVA, rQA, upd_at,  rAI, rLI, rJI, nI_add, pk_sub, kc_0, kc_1, kc_2, kc_3, kc_4, kc_5, reduceIte, Nat.reduceEqDiff, Nat.add_zero, rI_hold, rI_hold, rL_hold, ht, n2, hfd0, he, hfd01]; exact congrArg nI (by omega))) ?_
  refine Bod.ic 3 (by decide) dc_412_154 ?_
  refine Bod.icT dc_412_155 rfl (k2_eq_T (k_eq fd01 3 rfl rfl (by omega))) ?_
  refine Bod.go dc_412_198 rfl ?_
  refine Bod.bip 6 (by decide) dc_412_199 ?_
  refine Bod.virt (r := []) dc_412_201 kr_412_686 ⟨Or.inl rfl, ow_364, cl_14⟩ (by rw [np_364]; rfl) (by rw [np_364]; rfl) (ob_of (mk_61 _)) (Nat.le_of_ble_eq_true rfl) (c5  ) ?_
  show Bod _ _ _ _ [_] _ _ _
  refine Bod.ist dc_412_204 (by rw [ml_412]; exact Nat.le_of_ble_eq_true rfl) ?_
  refine Bod.go dc_412_206 rfl ?_
  refine Bod.ifT dc_412_208 rfl (k1_ge_T a2 rfl (by omega)) ?_
  refine Bod.go dc_412_213 rfl ?_
  refine Bod.get dc_412_214 fr_412_485 (mk_61 _) rfl ?_
  refine Bod.go dc_412_217 rfl ?_
  refine Bod.aaldR (N := 1500) (b := g3) a2 rfl (by omega) (by omega) (by first | exact hq19 | (simp only [rIQ, rJQ, rAQ, rLQ, rVQ, rQ_holdE]; exact hq19)) dc_412_219 (mk_86 _) ht_5 ?_
  refine Bod.go dc_412_220 rfl ?_
  refine Bod.get dc_412_222 fr_412_465 (mk_thing ag1 (by first | exact hz7 | (simp only [rIS, rJS, rAS, rLS, rVS, rQS, rS_hold]; exact hz7))) rfl ?_
  refine Bod.eqV (.ref r2) (by first | exact hv3 | (simp only [rIV, rJV, rAV, rLV, rQV, rV, reduceIte, Nat.reduceEqDiff]; exact hv3)) ?_
  refine Bod.go dc_412_225 rfl ?_
  refine Bod.laldN (N := N2) a1 rfl (by omega) (by omega) dc_412_227 (mk_isL (by first | exact hg3 | exact isK_S (by simp only [rIS, rJS, rAS, rLS, rVS, rQS, rS_hold]) hg3)) ?_
  refine Bod.go dc_412_228 rfl ?_
  refine Bod.eqI (nI o2) (by first | exact ho2 | (simp only [rI, rIe, rA, rIA, rLA, rJA, rVI, rQI, rVA, rQA, upd_at,  rAI, rLI, rJI, nI_add, pk_sub, kc_0, kc_1, kc_2, kc_3, kc_4, kc_5, reduceIte, Nat.reduceEqDiff, Nat.add_zero, rI_hold, rI_hold, rL_hold]; exact ho2)) ?_
  refine Bod.put dc_412_229 fr_412_472 (mk_thing ag3 (by first | exact hz8 | (simp only [rIS, rJS, rAS, rLS, rVS, rQS, rS_hold]; exact hz8))) (Nat.le_of_ble_eq_true rfl) pf_13_11 (st_thing_11 ag3 (by first | exact hz8 | (simp only [rIS, rJS, rAS, rLS, rVS, rQS, rS_hold]; exact hz8))) (mu_I _ _ _) ?_
  refine Bod.go dc_412_232 rfl ?_
  refine Bod.get dc_412_233 fr_412_485 (mk_61 _) rfl ?_
  refine Bod.go dc_412_236 rfl ?_
  refine Bod.aaldR (N := 1500) (b := g3) a2 rfl (by omega) (by omega) (by first | exact hq19 | (simp only [rIQ, rJQ, rAQ, rLQ, rVQ, rQ_holdE]; exact hq19)) dc_412_238 (mk_86 _) ht_5 ?_
  refine Bod.go dc_412_239 rfl ?_
  refine Bod.put dc_412_240 fr_412_475 (mk_thing ag3 (by first | exact hz8 | (simp only [rIS, rJS, rAS, rLS, rVS, rQS, rS_hold]; exact hz8))) (Nat.le_of_ble_eq_true rfl) pf_13_12 (st_thing_12 ag3 (by first | exact hz8 | (simp only [rIS, rJS, rAS, rLS, rVS, rQS, rS_hold]; exact hz8))) (mu_I _ _ _) ?_
  refine Bod.go dc_412_243 rfl ?_
  refine Bod.go dc_412_244 rfl ?_
  refine Bod.get dc_412_245 fr_412_493 (mk_61 _) rfl ?_
  refine Bod.eqI (nI t1) (by first | assumption | (simp (disch := omega) only [rI, rIe, rA, rIA, rLA, rJA, rVI, rQI, rVA, rQA, upd_at,  rAI, rLI, rJI, nI_add, pk_sub, kc_0, kc_1, kc_2, kc_3, kc_4, kc_5, reduceIte, Nat.reduceEqDiff, Nat.add_zero, rI_hold, rI_hold, rL_hold, ht, n2, hfd0, he, hfd01, ht1]; done) | (simp (disch := omega) only [rI, rIe, rA, rIA, rLA, rJA, rVI, rQI, rVA, rQA, upd_at,  rAI, rLI, rJI, nI_add, pk_sub, kc_0, kc_1, kc_2, kc_3, kc_4, kc_5, reduceIte, Nat.reduceEqDiff, Nat.add_zero, rI_hold, rI_hold, rL_hold, ht, n2, hfd0, he, hfd01, ht1]; exact congrArg nI (by omega))) ?_
  refine Bod.ic 1 (by decide) dc_412_248 ?_
  refine Bod.subN (t1 - 1) (by omega) (by omega) dc_412_249 ?_
  refine Bod.put dc_412_250 fr_412_493 (mk_61 _) (Nat.le_of_ble_eq_true rfl) pf_14_51 (st_6151 _ _) (mu_I _ _ _) ?_
  refine Bod.go dc_412_253 rfl ?_
  refine Bod.ic 3 (by decide) dc_412_254 ?_
  refine Bod.go dc_412_255 rfl ?_
  refine Bod.go dc_412_257 rfl ?_
  refine Bod.go dc_412_258 rfl ?_
  refine Bod.virt (r := []) dc_412_259 kr_412_549 ⟨Or.inl rfl, ow_352, cl_14⟩ (by rw [np_352]; rfl) (by rw [np_352]; rfl) (ob_of (mk_61 _)) (Nat.le_of_ble_eq_true rfl) (c6  ) ?_
  show Bod _ _ _ _ [] _ _ _
  refine Bod.ic 1 (by decide) dc_412_262 ?_
  exact Bod.retZ dc_412_263 rt_412 (Or.inr rfl)
theorem rGa_12 {d : Nat} {S : cS} {nm : Nat} {t : Nat} {S1 : cS} {o : Nat} {g : Nat} {zg : Nat} {S2 : cS} {S3 : cS} {a : Nat} {g1 : Nat} {zg1 : Nat} {S4 : cS} {a1 : Nat} {fd0 : Nat} {r : Nat} {N : Nat} {e : Nat} {r1 : Nat} {N1 : Nat} {o1 : Nat} {g2 : Nat} {zg2 : Nat} {fd01 : Nat} {S5 : cS} (mnm : nm < 2 ^ 20) (ht : sI S 6151 = nI t) (mt : t < 20481) (b1 : 1 ≤ t) (c1 : Ans (d + 8) 363 [.ref 61, .int (nI (t - 1)), .int (nI 5)] S (some (.int (nI 1))) S1) (ho : (sL S1 92 (t - 1)).toInt32 = nI o) (mo : o < 1500) (ag : 108 ≤ g) (hq3 : sQ S1 86 o = some g) (c2 : Ans (d + 8) 399 [.ref g, .int (nI 0), .long ((nI nm).toInt64), .long 0] S1 (some (.int (Int32.ofInt (-1)))) S2) (hz1 : (sS S1)[g - 108]? = some (13, zg)) (hz2 : (sS S2)[g - 108]? = some (13, zg)) (n2 : sI S2 (100 * g + 11) = Int32.ofInt (-1)) (ma : a < 1500) (c3 : Ans (d + 8) 398 [.ref 61, .int (Int32.ofInt (-1)), .int (nI nm)] S2 (some (.int (nI a))) S3) (ag1 : 108 ≤ g1) (hq7 : sQ S3 86 a = some g1) (ma1 : a1 < 2 ^ 20) (c4 : Ans (d + 8) 399 [.ref g1, .int (nI 0), .long ((nI nm).toInt64), .long 0] S3 (some (.int (nI a1))) S4) (hz3 : (sS S3)[g1 - 108]? = some (13, zg1)) (hz4 : (sS S4)[g - 108]? = some (13, zg)) (hfd0 : sI S4 (100 * g + 0) = nI fd0) (mfd0 : fd0 < 2 ^ 20) (b3 : fd0 ≠ 4) (hz5 : (sS S4)[g1 - 108]? = some (13, zg1)) (hv1 : sV S4 (100 * g1 + 2) = .ref r) (hg1 : isK S4 r 0 N) (mN : N < 2 ^ 20) (b4 : a1 < N) (he : sA S4 r a1 = nI e) (me : e < 2 ^ 20) (b5 : e = 3) (hv2 : sV S4 (100 * g1 + 4) = .ref r1) (hg2 : isK S4 r1 1 N1) (mN1 : N1 < 2 ^ 20) (b6 : a1 < N1) (ho1 : (sL S4 r1 a1).toInt32 = nI o1) (mo1 : o1 < 1500) (ag2 : 108 ≤ g2) (hq16 : sQ S4 86 o1 = some g2) (hz6 : (sS S4)[g2 - 108]? = some (13, zg2)) (hfd01 : sI S4 (100 * g2 + 0) = nI fd01) (mfd01 : fd01 < 2 ^ 20) (b7 : fd01 = 3) (c5 : Ans (d + 8) 364 [.ref 61, .int (nI 6)] S4 (some (.int (Int32.ofInt (-1)))) S5) : Bod (d + 8) 412 0 [(0, .ref 61), (1, .int (nI nm))] [] S (some (.int 0)) (S5) := by
  refine Bod.go dc_412_0 rfl ?_
  refine Bod.get dc_412_1 fr_412_493 (mk_61 _) rfl ?_
  refine Bod.eqI (nI t) (by first | assumption | rfl | exact congrArg nI (by omega) | (simp (disch := omega) only [rI, rIe, rA, rIA, rLA, rJA, rVI, rQI, rVA, rQA, upd_at,  rAI, rLI, rJI, nI_add, pk_sub, kc_0, kc_1, kc_2, kc_3, kc_4, kc_5, reduceIte, Nat.reduceEqDiff, Nat.add_zero, rI_hold, rI_hold, rL_hold, ht]; done)) ?_
  refine Bod.ic 1 (by decide) dc_412_4 ?_
  refine Bod.subN (t - 1) (by omega) (by omega) dc_412_5 ?_
  refine Bod.istn dc_412_6 (by rw [ml_412]; exact Nat.le_of_ble_eq_true rfl) ?_
  refine Bod.go dc_412_7 rfl ?_
  refine Bod.go dc_412_8 rfl ?_
  refine Bod.ic 5 (by decide) dc_412_9 ?_
  refine Bod.virt (r := []) dc_412_10 kr_412_683 ⟨Or.inl rfl, ow_363, cl_14⟩ (by rw [np_363]; rfl) (by rw [np_363]; rfl) (ob_of (mk_61 _)) (Nat.le_of_ble_eq_true rfl) (c1  ) ?_
  show Bod _ _ _ _ [_] _ _ _
  refine Bod.ifT dc_412_13 rfl (k1_ne_T (k_ne 1 0 rfl rfl (by omega) (by omega) (by omega))) ?_
  refine Bod.go dc_412_31 rfl ?_
  refine Bod.get dc_412_32 fr_412_499 (mk_61 _) rfl ?_
  refine Bod.go dc_412_35 rfl ?_
  refine Bod.laldN (t - 1) rfl (by omega) (by omega) dc_412_36 (mk_92 _) ?_
  refine Bod.go dc_412_37 rfl ?_
  refine Bod.eqI (nI o) (by first | exact ho | (simp only [rI, rIe, rA, rIA, rLA, rJA, rVI, rQI, rVA, rQA, upd_at,  rAI, rLI, rJI, nI_add, pk_sub, kc_0, kc_1, kc_2, kc_3, kc_4, kc_5, reduceIte, Nat.reduceEqDiff, Nat.add_zero, rI_hold, rI_hold, rL_hold]; exact ho)) ?_
  refine Bod.istn dc_412_38 (by rw [ml_412]; exact Nat.le_of_ble_eq_true rfl) ?_
  refine Bod.go dc_412_39 rfl ?_
  refine Bod.get dc_412_40 fr_412_485 (mk_61 _) rfl ?_
  refine Bod.go dc_412_43 rfl ?_
  refine Bod.aaldR (N := 1500) (b := g) o rfl (by omega) (by omega) (by first | exact hq3 | (simp only [rIQ, rJQ, rAQ, rLQ, rVQ, rQ_holdE]; exact hq3)) dc_412_44 (mk_86 _) ht_5 ?_
  refine Bod.ast dc_412_45 (by rw [ml_412]; exact Nat.le_of_ble_eq_true rfl) ?_
  refine Bod.go dc_412_47 rfl ?_
  refine Bod.ic 0 (by decide) dc_412_49 ?_
  refine Bod.go dc_412_50 rfl ?_
  refine Bod.go dc_412_51 rfl ?_
  refine Bod.go dc_412_52 rfl ?_
  refine Bod.virt (r := []) dc_412_53 kr_412_764 ⟨Or.inl rfl, ow_399, cl_13⟩ (by rw [np_399]; rfl) (by rw [np_399]; rfl) (ob_of (mk_thing ag (by first | exact hz1 | (simp only [rIS, rJS, rAS, rLS, rVS, rQS, rS_hold]; exact hz1)))) (Nat.le_of_ble_eq_true rfl) (c2  ) ?_
  show Bod _ _ _ _ [_] _ _ _
  refine Bod.ist dc_412_56 (by rw [ml_412]; exact Nat.le_of_ble_eq_true rfl) ?_
  refine Bod.go dc_412_58 rfl ?_
  refine Bod.ifT dc_412_60 rfl (by decide) ?_
  refine Bod.go dc_412_67 rfl ?_
  refine Bod.go dc_412_68 rfl ?_
  refine Bod.get dc_412_70 fr_412_472 (mk_thing ag (by first | exact hz2 | (simp only [rIS, rJS, rAS, rLS, rVS, rQS, rS_hold]; exact hz2))) rfl ?_
  refine Bod.eqI (Int32.ofInt (-1)) (by first | assumption | (simp (disch := omega) only [rI, rIe, rA, rIA, rLA, rJA, rVI, rQI, rVA, rQA, upd_at,  rAI, rLI, rJI, nI_add, pk_sub, kc_0, kc_1, kc_2, kc_3, kc_4, kc_5, reduceIte, Nat.reduceEqDiff, Nat.add_zero, rI_hold, rI_hold, rL_hold, ht, n2]; done) | (simp (disch := omega) only [rI, rIe, rA, rIA, rLA, rJA, rVI, rQI, rVA, rQA, upd_at,  rAI, rLI, rJI, nI_add, pk_sub, kc_0, kc_1, kc_2, kc_3, kc_4, kc_5, reduceIte, Nat.reduceEqDiff, Nat.add_zero, rI_hold, rI_hold, rL_hold, ht, n2]; exact congrArg nI (by omega))) ?_
  refine Bod.go dc_412_73 rfl ?_
  refine Bod.virt (r := []) dc_412_74 kr_412_777 ⟨Or.inl rfl, ow_398, cl_14⟩ (by rw [np_398]; rfl) (by rw [np_398]; rfl) (ob_of (mk_61 _)) (Nat.le_of_ble_eq_true rfl) (c3  ) ?_
  show Bod _ _ _ _ [_] _ _ _
  refine Bod.ist dc_412_77 (by rw [ml_412]; exact Nat.le_of_ble_eq_true rfl) ?_
  refine Bod.go dc_412_79 rfl ?_
  refine Bod.ifT dc_412_81 rfl (k1_ge_T a rfl (by omega)) ?_
  refine Bod.go dc_412_91 rfl ?_
  refine Bod.get dc_412_92 fr_412_485 (mk_61 _) rfl ?_
  refine Bod.go dc_412_95 rfl ?_
  refine Bod.aaldR (N := 1500) (b := g1) a rfl (by omega) (by omega) (by first | exact hq7 | (simp only [rIQ, rJQ, rAQ, rLQ, rVQ, rQ_holdE]; exact hq7)) dc_412_97 (mk_86 _) ht_5 ?_
  refine Bod.ast dc_412_98 (by rw [ml_412]; exact Nat.le_of_ble_eq_true rfl) ?_
  refine Bod.go dc_412_100 rfl ?_
  refine Bod.ic 0 (by decide) dc_412_102 ?_
  refine Bod.go dc_412_103 rfl ?_
  refine Bod.go dc_412_104 rfl ?_
  refine Bod.go dc_412_105 rfl ?_
  refine Bod.virt (r := []) dc_412_106 kr_412_764 ⟨Or.inl rfl, ow_399, cl_13⟩ (by rw [np_399]; rfl) (by rw [np_399]; rfl) (ob_of (mk_thing ag1 (by first | exact hz3 | (simp only [rIS, rJS, rAS, rLS, rVS, rQS, rS_hold]; exact hz3)))) (Nat.le_of_ble_eq_true rfl) (c4  ) ?_
  show Bod _ _ _ _ [_] _ _ _
  refine Bod.ist dc_412_109 (by rw [ml_412]; exact Nat.le_of_ble_eq_true rfl) ?_
  refine Bod.go dc_412_111 rfl ?_
  refine Bod.get dc_412_113 fr_412_531 (mk_thing ag (by first | exact hz4 | (simp only [rIS, rJS, rAS, rLS, rVS, rQS, rS_hold]; exact hz4))) rfl ?_
  refine Bod.eqI (nI fd0) (by first | assumption | (simp (disch := omega) only [rI, rIe, rA, rIA, rLA, rJA, rVI, rQI, rVA, rQA, upd_at,  rAI, rLI, rJI, nI_add, pk_sub, kc_0, kc_1, kc_2, kc_3, kc_4, kc_5, reduceIte, Nat.reduceEqDiff, Nat.add_zero, rI_hold, rI_hold, rL_hold, ht, n2, hfd0]; done) | (simp (disch := omega) only [rI, rIe, rA, rIA, rLA, rJA, rVI, rQI, rVA, rQA, upd_at,  rAI, rLI, rJI, nI_add, pk_sub, kc_0, kc_1, kc_2, kc_3, kc_4, kc_5, reduceIte, Nat.reduceEqDiff, Nat.add_zero, rI_hold, rI_hold, rL_hold, ht, n2, hfd0]; exact congrArg nI (by omega))) ?_
  refine Bod.ic 4 (by decide) dc_412_116 ?_
  refine Bod.icF dc_412_117 rfl (k2_eq_F (k_ne fd0 4 rfl rfl (by omega) (by omega) (by omega))) ?_
  refine Bod.go dc_412_120 rfl ?_
  refine Bod.ifF dc_412_122 rfl (by decide) ?_
  refine Bod.go dc_412_125 rfl ?_
  refine Bod.get dc_412_127 fr_412_462 (mk_thing ag1 (by first | exact hz5 | (simp only [rIS, rJS, rAS, rLS, rVS, rQS, rS_hold]; exact hz5))) rfl ?_
  refine Bod.eqV (.ref r) (by first | exact hv1 | (simp only [rIV, rJV, rAV, rLV, rQV, rV, reduceIte, Nat.reduceEqDiff]; exact hv1)) ?_
  refine Bod.go dc_412_130 rfl ?_
  refine Bod.ialdN (N := N) a1 rfl (by omega) (by omega) dc_412_132 (mk_isI (by first | exact hg1 | exact isK_S (by simp only [rIS, rJS, rAS, rLS, rVS, rQS, rS_hold]) hg1)) ?_
  refine Bod.eqI (nI e) (by first | assumption | (simp (disch := omega) only [rI, rIe, rA, rIA, rLA, rJA, rVI, rQI, rVA, rQA, upd_at,  rAI, rLI, rJI, nI_add, pk_sub, kc_0, kc_1, kc_2, kc_3, kc_4, kc_5, reduceIte, Nat.reduceEqDiff, Nat.add_zero, rI_hold, rI_hold, rL_hold, ht, n2, hfd0, he]; done) | (simp (disch := omega) only [rI, rIe, rA, rIA, rLA, rJA, rVI, rQI, rVA, rQA, upd_at,  rAI, rLI, rJI, nI_add, pk_sub, kc_0, kc_1, kc_2, kc_3, kc_4, kc_5, reduceIte, Nat.reduceEqDiff, Nat.add_zero, rI_hold, rI_hold, rL_hold, ht, n2, hfd0, he]; exact congrArg nI (by omega))) ?_
  refine Bod.ic 3 (by decide) dc_412_133 ?_
  refine Bod.icF dc_412_134 rfl (k2_ne_F (k_eq e 3 rfl rfl (by omega))) ?_
  refine Bod.go dc_412_137 rfl ?_
  refine Bod.get dc_412_138 fr_412_485 (mk_61 _) rfl ?_
  refine Bod.go dc_412_141 rfl ?_
  refine Bod.get dc_412_143 fr_412_465 (mk_thing ag1 (by first | exact hz5 | (simp only [rIS, rJS, rAS, rLS, rVS, rQS, rS_hold]; exact hz5))) rfl ?_
  refine Bod.eqV (.ref r1) (by first | exact hv2 | (simp only [rIV, rJV, rAV, rLV, rQV, rV, reduceIte, Nat.reduceEqDiff]; exact hv2)) ?_
  refine Bod.go dc_412_146 rfl ?_
  refine Bod.laldN (N := N1) a1 rfl (by omega) (by omega) dc_412_148 (mk_isL (by first | exact hg2 | exact isK_S (by simp only [rIS, rJS, rAS, rLS, rVS, rQS, rS_hold]) hg2)) ?_
  refine Bod.go dc_412_149 rfl ?_
  refine Bod.eqI (nI o1) (by first | exact ho1 | (simp only [rI, rIe, rA, rIA, rLA, rJA, rVI, rQI, rVA, rQA, upd_at,  rAI, rLI, rJI, nI_add, pk_sub, kc_0, kc_1, kc_2, kc_3, kc_4, kc_5, reduceIte, Nat.reduceEqDiff, Nat.add_zero, rI_hold, rI_hold, rL_hold]; exact ho1)) ?_
  refine Bod.aaldR (N := 1500) (b := g2) o1 rfl (by omega) (by omega) (by first | exact hq16 | (simp only [rIQ, rJQ, rAQ, rLQ, rVQ, rQ_holdE]; exact hq16)) dc_412_150 (mk_86 _) ht_5 ?_
  refine Bod.get dc_412_151 fr_412_531 (mk_thing ag2 (by first | exact hz6 | (simp only [rIS, rJS, rAS, rLS, rVS, rQS, rS_hold]; exact hz6))) rfl ?_
  refine Bod.eqI (nI fd01) (by first | assumption | (simp (disch := omega) only [rI, rIe, rA, rIA, rLA, rJA, rVI, rQI, rVA, rQA, upd_at,  rAI, rLI, rJI, nI_add, pk_sub, kc_0, kc_1, kc_2, kc_3, kc_4, kc_5, reduceIte, Nat.reduceEqDiff, Nat.add_zero, rI_hold, rI_hold, rL_hold, ht, n2, hfd0, he, hfd01]; done) | (simp (disch := omega) only [rI, rIe, rA, rIA, rLA, rJA, rVI, rQI, rVA, rQA, upd_at,  rAI, rLI, rJI, nI_add, pk_sub, kc_0, kc_1, kc_2, kc_3, kc_4, kc_5, reduceIte, Nat.reduceEqDiff, Nat.add_zero, rI_hold, rI_hold, rL_hold, ht, n2, hfd0, he, hfd01]; exact congrArg nI (by omega))) ?_
  refine Bod.ic 3 (by decide) dc_412_154 ?_
  refine Bod.icT dc_412_155 rfl (k2_eq_T (k_eq fd01 3 rfl rfl (by omega))) ?_
  refine Bod.go dc_412_198 rfl ?_
  refine Bod.bip 6 (by decide) dc_412_199 ?_
  refine Bod.virt (r := []) dc_412_201 kr_412_686 ⟨Or.inl rfl, ow_364, cl_14⟩ (by rw [np_364]; rfl) (by rw [np_364]; rfl) (ob_of (mk_61 _)) (Nat.le_of_ble_eq_true rfl) (c5  ) ?_
  show Bod _ _ _ _ [_] _ _ _
  refine Bod.ist dc_412_204 (by rw [ml_412]; exact Nat.le_of_ble_eq_true rfl) ?_
  refine Bod.go dc_412_206 rfl ?_
  refine Bod.ifF dc_412_208 rfl (by decide) ?_
  refine Bod.ic 0 (by decide) dc_412_211 ?_
  exact Bod.retZ dc_412_212 rt_412 (Or.inl rfl)
theorem rGa_13 {d : Nat} {S : cS} {nm : Nat} {t : Nat} {S1 : cS} {o : Nat} {g : Nat} {zg : Nat} {S2 : cS} {S3 : cS} {a : Nat} {g1 : Nat} {zg1 : Nat} {S4 : cS} {a1 : Nat} {fd0 : Nat} {r : Nat} {N : Nat} {e : Nat} {r1 : Nat} {N1 : Nat} {o1 : Nat} {g2 : Nat} {zg2 : Nat} {fd01 : Nat} {t1 : Nat} {r2 : Nat} {N2 : Nat} {S5 : cS} (mnm : nm < 2 ^ 20) (ht : sI S 6151 = nI t) (mt : t < 20481) (b1 : 1 ≤ t) (c1 : Ans (d + 8) 363 [.ref 61, .int (nI (t - 1)), .int (nI 5)] S (some (.int (nI 1))) S1) (ho : (sL S1 92 (t - 1)).toInt32 = nI o) (mo : o < 1500) (ag : 108 ≤ g) (hq3 : sQ S1 86 o = some g) (c2 : Ans (d + 8) 399 [.ref g, .int (nI 0), .long ((nI nm).toInt64), .long 0] S1 (some (.int (Int32.ofInt (-1)))) S2) (hz1 : (sS S1)[g - 108]? = some (13, zg)) (hz2 : (sS S2)[g - 108]? = some (13, zg)) (n2 : sI S2 (100 * g + 11) = Int32.ofInt (-1)) (ma : a < 1500) (c3 : Ans (d + 8) 398 [.ref 61, .int (Int32.ofInt (-1)), .int (nI nm)] S2 (some (.int (nI a))) S3) (ag1 : 108 ≤ g1) (hq7 : sQ S3 86 a = some g1) (ma1 : a1 < 2 ^ 20) (c4 : Ans (d + 8) 399 [.ref g1, .int (nI 0), .long ((nI nm).toInt64), .long 0] S3 (some (.int (nI a1))) S4) (hz3 : (sS S3)[g1 - 108]? = some (13, zg1)) (hz4 : (sS S4)[g - 108]? = some (13, zg)) (hfd0 : sI S4 (100 * g + 0) = nI fd0) (mfd0 : fd0 < 2 ^ 20) (b3 : fd0 ≠ 4) (hz5 : (sS S4)[g1 - 108]? = some (13, zg1)) (hv1 : sV S4 (100 * g1 + 2) = .ref r) (hg1 : isK S4 r 0 N) (mN : N < 2 ^ 20) (b4 : a1 < N) (he : sA S4 r a1 = nI e) (me : e < 2 ^ 20) (b5 : e = 3) (hv2 : sV S4 (100 * g1 + 4) = .ref r1) (hg2 : isK S4 r1 1 N1) (mN1 : N1 < 2 ^ 20) (b6 : a1 < N1) (ho1 : (sL S4 r1 a1).toInt32 = nI o1) (mo1 : o1 < 1500) (ag2 : 108 ≤ g2) (hq16 : sQ S4 86 o1 = some g2) (hz6 : (sS S4)[g2 - 108]? = some (13, zg2)) (hfd01 : sI S4 (100 * g2 + 0) = nI fd01) (mfd01 : fd01 < 2 ^ 20) (b7 : fd01 ≠ 3) (ht1 : sI S4 6151 = nI t1) (mt1 : t1 < 20481) (b8 : 1 ≤ t1) (hv3 : sV S4 (100 * g1 + 5) = .ref r2) (hg3 : isK S4 r2 1 N2) (mN2 : N2 < 2 ^ 20) (b9 : a1 < N2) (c5 : Ans (d + 8) 352 [.ref 61, .int (nI e), .long (sL (wI 6151 (nI (t1 - 1)) S4) r1 a1), .long (sL (wI 6151 (nI (t1 - 1)) S4) r2 a1)] (wI 6151 (nI (t1 - 1)) S4) none S5) : Bod (d + 8) 412 0 [(0, .ref 61), (1, .int (nI nm))] [] S (some (.int 1)) (S5) := by
  refine Bod.go dc_412_0 rfl ?_
  refine Bod.get dc_412_1 fr_412_493 (mk_61 _) rfl ?_
  refine Bod.eqI (nI t) (by first | assumption | rfl | exact congrArg nI (by omega) | (simp (disch := omega) only [rI, rIe, rA, rIA, rLA, rJA, rVI, rQI, rVA, rQA, upd_at,  rAI, rLI, rJI, nI_add, pk_sub, kc_0, kc_1, kc_2, kc_3, kc_4, kc_5, reduceIte, Nat.reduceEqDiff, Nat.add_zero, rI_hold, rI_hold, rL_hold, ht]; done)) ?_
  refine Bod.ic 1 (by decide) dc_412_4 ?_
  refine Bod.subN (t - 1) (by omega) (by omega) dc_412_5 ?_
  refine Bod.istn dc_412_6 (by rw [ml_412]; exact Nat.le_of_ble_eq_true rfl) ?_
  refine Bod.go dc_412_7 rfl ?_
  refine Bod.go dc_412_8 rfl ?_
  refine Bod.ic 5 (by decide) dc_412_9 ?_
  refine Bod.virt (r := []) dc_412_10 kr_412_683 ⟨Or.inl rfl, ow_363, cl_14⟩ (by rw [np_363]; rfl) (by rw [np_363]; rfl) (ob_of (mk_61 _)) (Nat.le_of_ble_eq_true rfl) (c1  ) ?_
  show Bod _ _ _ _ [_] _ _ _
  refine Bod.ifT dc_412_13 rfl (k1_ne_T (k_ne 1 0 rfl rfl (by omega) (by omega) (by omega))) ?_
  refine Bod.go dc_412_31 rfl ?_
  refine Bod.get dc_412_32 fr_412_499 (mk_61 _) rfl ?_
  refine Bod.go dc_412_35 rfl ?_
  refine Bod.laldN (t - 1) rfl (by omega) (by omega) dc_412_36 (mk_92 _) ?_
  refine Bod.go dc_412_37 rfl ?_
  refine Bod.eqI (nI o) (by first | exact ho | (simp only [rI, rIe, rA, rIA, rLA, rJA, rVI, rQI, rVA, rQA, upd_at,  rAI, rLI, rJI, nI_add, pk_sub, kc_0, kc_1, kc_2, kc_3, kc_4, kc_5, reduceIte, Nat.reduceEqDiff, Nat.add_zero, rI_hold, rI_hold, rL_hold]; exact ho)) ?_
  refine Bod.istn dc_412_38 (by rw [ml_412]; exact Nat.le_of_ble_eq_true rfl) ?_
  refine Bod.go dc_412_39 rfl ?_
  refine Bod.get dc_412_40 fr_412_485 (mk_61 _) rfl ?_
  refine Bod.go dc_412_43 rfl ?_
  refine Bod.aaldR (N := 1500) (b := g) o rfl (by omega) (by omega) (by first | exact hq3 | (simp only [rIQ, rJQ, rAQ, rLQ, rVQ, rQ_holdE]; exact hq3)) dc_412_44 (mk_86 _) ht_5 ?_
  refine Bod.ast dc_412_45 (by rw [ml_412]; exact Nat.le_of_ble_eq_true rfl) ?_
  refine Bod.go dc_412_47 rfl ?_
  refine Bod.ic 0 (by decide) dc_412_49 ?_
  refine Bod.go dc_412_50 rfl ?_
  refine Bod.go dc_412_51 rfl ?_
  refine Bod.go dc_412_52 rfl ?_
  refine Bod.virt (r := []) dc_412_53 kr_412_764 ⟨Or.inl rfl, ow_399, cl_13⟩ (by rw [np_399]; rfl) (by rw [np_399]; rfl) (ob_of (mk_thing ag (by first | exact hz1 | (simp only [rIS, rJS, rAS, rLS, rVS, rQS, rS_hold]; exact hz1)))) (Nat.le_of_ble_eq_true rfl) (c2  ) ?_
  show Bod _ _ _ _ [_] _ _ _
  refine Bod.ist dc_412_56 (by rw [ml_412]; exact Nat.le_of_ble_eq_true rfl) ?_
  refine Bod.go dc_412_58 rfl ?_
  refine Bod.ifT dc_412_60 rfl (by decide) ?_
  refine Bod.go dc_412_67 rfl ?_
  refine Bod.go dc_412_68 rfl ?_
  refine Bod.get dc_412_70 fr_412_472 (mk_thing ag (by first | exact hz2 | (simp only [rIS, rJS, rAS, rLS, rVS, rQS, rS_hold]; exact hz2))) rfl ?_
  refine Bod.eqI (Int32.ofInt (-1)) (by first | assumption | (simp (disch := omega) only [rI, rIe, rA, rIA, rLA, rJA, rVI, rQI, rVA, rQA, upd_at,  rAI, rLI, rJI, nI_add, pk_sub, kc_0, kc_1, kc_2, kc_3, kc_4, kc_5, reduceIte, Nat.reduceEqDiff, Nat.add_zero, rI_hold, rI_hold, rL_hold, ht, n2]; done) | (simp (disch := omega) only [rI, rIe, rA, rIA, rLA, rJA, rVI, rQI, rVA, rQA, upd_at,  rAI, rLI, rJI, nI_add, pk_sub, kc_0, kc_1, kc_2, kc_3, kc_4, kc_5, reduceIte, Nat.reduceEqDiff, Nat.add_zero, rI_hold, rI_hold, rL_hold, ht, n2]; exact congrArg nI (by omega))) ?_
  refine Bod.go dc_412_73 rfl ?_
  refine Bod.virt (r := []) dc_412_74 kr_412_777 ⟨Or.inl rfl, ow_398, cl_14⟩ (by rw [np_398]; rfl) (by rw [np_398]; rfl) (ob_of (mk_61 _)) (Nat.le_of_ble_eq_true rfl) (c3  ) ?_
  show Bod _ _ _ _ [_] _ _ _
  refine Bod.ist dc_412_77 (by rw [ml_412]; exact Nat.le_of_ble_eq_true rfl) ?_
  refine Bod.go dc_412_79 rfl ?_
  refine Bod.ifT dc_412_81 rfl (k1_ge_T a rfl (by omega)) ?_
  refine Bod.go dc_412_91 rfl ?_
  refine Bod.get dc_412_92 fr_412_485 (mk_61 _) rfl ?_
  refine Bod.go dc_412_95 rfl ?_
  refine Bod.aaldR (N := 1500) (b := g1) a rfl (by omega) (by omega) (by first | exact hq7 | (simp only [rIQ, rJQ, rAQ, rLQ, rVQ, rQ_holdE]; exact hq7)) dc_412_97 (mk_86 _) ht_5 ?_
  refine Bod.ast dc_412_98 (by rw [ml_412]; exact Nat.le_of_ble_eq_true rfl) ?_
  refine Bod.go dc_412_100 rfl ?_
  refine Bod.ic 0 (by decide) dc_412_102 ?_
  refine Bod.go dc_412_103 rfl ?_
  refine Bod.go dc_412_104 rfl ?_
  refine Bod.go dc_412_105 rfl ?_
  refine Bod.virt (r := []) dc_412_106 kr_412_764 ⟨Or.inl rfl, ow_399, cl_13⟩ (by rw [np_399]; rfl) (by rw [np_399]; rfl) (ob_of (mk_thing ag1 (by first | exact hz3 | (simp only [rIS, rJS, rAS, rLS, rVS, rQS, rS_hold]; exact hz3)))) (Nat.le_of_ble_eq_true rfl) (c4  ) ?_
  show Bod _ _ _ _ [_] _ _ _
  refine Bod.ist dc_412_109 (by rw [ml_412]; exact Nat.le_of_ble_eq_true rfl) ?_
  refine Bod.go dc_412_111 rfl ?_
  refine Bod.get dc_412_113 fr_412_531 (mk_thing ag (by first | exact hz4 | (simp only [rIS, rJS, rAS, rLS, rVS, rQS, rS_hold]; exact hz4))) rfl ?_
  refine Bod.eqI (nI fd0) (by first | assumption | (simp (disch := omega) only [rI, rIe, rA, rIA, rLA, rJA, rVI, rQI, rVA, rQA, upd_at,  rAI, rLI, rJI, nI_add, pk_sub, kc_0, kc_1, kc_2, kc_3, kc_4, kc_5, reduceIte, Nat.reduceEqDiff, Nat.add_zero, rI_hold, rI_hold, rL_hold, ht, n2, hfd0]; done) | (simp (disch := omega) only [rI, rIe, rA, rIA, rLA, rJA, rVI, rQI, rVA, rQA, upd_at,  rAI, rLI, rJI, nI_add, pk_sub, kc_0, kc_1, kc_2, kc_3, kc_4, kc_5, reduceIte, Nat.reduceEqDiff, Nat.add_zero, rI_hold, rI_hold, rL_hold, ht, n2, hfd0]; exact congrArg nI (by omega))) ?_
  refine Bod.ic 4 (by decide) dc_412_116 ?_
  refine Bod.icF dc_412_117 rfl (k2_eq_F (k_ne fd0 4 rfl rfl (by omega) (by omega) (by omega))) ?_
  refine Bod.go dc_412_120 rfl ?_
  refine Bod.ifF dc_412_122 rfl (by decide) ?_
  refine Bod.go dc_412_125 rfl ?_
  refine Bod.get dc_412_127 fr_412_462 (mk_thing ag1 (by first | exact hz5 | (simp only [rIS, rJS, rAS, rLS, rVS, rQS, rS_hold]; exact hz5))) rfl ?_
  refine Bod.eqV (.ref r) (by first | exact hv1 | (simp only [rIV, rJV, rAV, rLV, rQV, rV, reduceIte, Nat.reduceEqDiff]; exact hv1)) ?_
  refine Bod.go dc_412_130 rfl ?_
  refine Bod.ialdN (N := N) a1 rfl (by omega) (by omega) dc_412_132 (mk_isI (by first | exact hg1 | exact isK_S (by simp only [rIS, rJS, rAS, rLS, rVS, rQS, rS_hold]) hg1)) ?_
  refine Bod.eqI (nI e) (by first | assumption | (simp (disch := omega) only [rI, rIe, rA, rIA, rLA, rJA, rVI, rQI, rVA, rQA, upd_at,  rAI, rLI, rJI, nI_add, pk_sub, kc_0, kc_1, kc_2, kc_3, kc_4, kc_5, reduceIte, Nat.reduceEqDiff, Nat.add_zero, rI_hold, rI_hold, rL_hold, ht, n2, hfd0, he]; done) | (simp (disch := omega) only [rI, rIe, rA, rIA, rLA, rJA, rVI, rQI, rVA, rQA, upd_at,  rAI, rLI, rJI, nI_add, pk_sub, kc_0, kc_1, kc_2, kc_3, kc_4, kc_5, reduceIte, Nat.reduceEqDiff, Nat.add_zero, rI_hold, rI_hold, rL_hold, ht, n2, hfd0, he]; exact congrArg nI (by omega))) ?_
  refine Bod.ic 3 (by decide) dc_412_133 ?_
  refine Bod.icF dc_412_134 rfl (k2_ne_F (k_eq e 3 rfl rfl (by omega))) ?_
  refine Bod.go dc_412_137 rfl ?_
  refine Bod.get dc_412_138 fr_412_485 (mk_61 _) rfl ?_
  refine Bod.go dc_412_141 rfl ?_
  refine Bod.get dc_412_143 fr_412_465 (mk_thing ag1 (by first | exact hz5 | (simp only [rIS, rJS, rAS, rLS, rVS, rQS, rS_hold]; exact hz5))) rfl ?_
  refine Bod.eqV (.ref r1) (by first | exact hv2 | (simp only [rIV, rJV, rAV, rLV, rQV, rV, reduceIte, Nat.reduceEqDiff]; exact hv2)) ?_
  refine Bod.go dc_412_146 rfl ?_
  refine Bod.laldN (N := N1) a1 rfl (by omega) (by omega) dc_412_148 (mk_isL (by first | exact hg2 | exact isK_S (by simp only [rIS, rJS, rAS, rLS, rVS, rQS, rS_hold]) hg2)) ?_
  refine Bod.go dc_412_149 rfl ?_
  refine Bod.eqI (nI o1) (by first | exact ho1 | (simp only [rI, rIe, rA, rIA, rLA, rJA, rVI, rQI, rVA, rQA, upd_at,  rAI, rLI, rJI, nI_add, pk_sub, kc_0, kc_1, kc_2, kc_3, kc_4, kc_5, reduceIte, Nat.reduceEqDiff, Nat.add_zero, rI_hold, rI_hold, rL_hold]; exact ho1)) ?_
  refine Bod.aaldR (N := 1500) (b := g2) o1 rfl (by omega) (by omega) (by first | exact hq16 | (simp only [rIQ, rJQ, rAQ, rLQ, rVQ, rQ_holdE]; exact hq16)) dc_412_150 (mk_86 _) ht_5 ?_
  refine Bod.get dc_412_151 fr_412_531 (mk_thing ag2 (by first | exact hz6 | (simp only [rIS, rJS, rAS, rLS, rVS, rQS, rS_hold]; exact hz6))) rfl ?_
  refine Bod.eqI (nI fd01) (by first | assumption | (simp (disch := omega) only [rI, rIe, rA, rIA, rLA, rJA, rVI, rQI, rVA, rQA, upd_at,  rAI, rLI, rJI, nI_add, pk_sub, kc_0, kc_1, kc_2, kc_3, kc_4, kc_5, reduceIte, Nat.reduceEqDiff, Nat.add_zero, rI_hold, rI_hold, rL_hold, ht, n2, hfd0, he, hfd01]; done) | (simp (disch := omega) only [rI, rIe, rA, rIA, rLA, rJA, rVI, rQI, rVA, rQA, upd_at,  rAI, rLI, rJI, nI_add, pk_sub, kc_0, kc_1, kc_2, kc_3, kc_4, kc_5, reduceIte, Nat.reduceEqDiff, Nat.add_zero, rI_hold, rI_hold, rL_hold, ht, n2, hfd0, he, hfd01]; exact congrArg nI (by omega))) ?_
  refine Bod.ic 3 (by decide) dc_412_154 ?_
  refine Bod.icF dc_412_155 rfl (k2_eq_F (k_ne fd01 3 rfl rfl (by omega) (by omega) (by omega))) ?_
  refine Bod.go dc_412_158 rfl ?_
  refine Bod.go dc_412_159 rfl ?_
  refine Bod.get dc_412_160 fr_412_493 (mk_61 _) rfl ?_
  refine Bod.eqI (nI t1) (by first | assumption | (simp (disch := omega) only [rI, rIe, rA, rIA, rLA, rJA, rVI, rQI, rVA, rQA, upd_at,  rAI, rLI, rJI, nI_add, pk_sub, kc_0, kc_1, kc_2, kc_3, kc_4, kc_5, reduceIte, Nat.reduceEqDiff, Nat.add_zero, rI_hold, rI_hold, rL_hold, ht, n2, hfd0, he, hfd01, ht1]; done) | (simp (disch := omega) only [rI, rIe, rA, rIA, rLA, rJA, rVI, rQI, rVA, rQA, upd_at,  rAI, rLI, rJI, nI_add, pk_sub, kc_0, kc_1, kc_2, kc_3, kc_4, kc_5, reduceIte, Nat.reduceEqDiff, Nat.add_zero, rI_hold, rI_hold, rL_hold, ht, n2, hfd0, he, hfd01, ht1]; exact congrArg nI (by omega))) ?_
  refine Bod.ic 1 (by decide) dc_412_163 ?_
  refine Bod.subN (t1 - 1) (by omega) (by omega) dc_412_164 ?_
  refine Bod.put dc_412_165 fr_412_493 (mk_61 _) (Nat.le_of_ble_eq_true rfl) pf_14_51 (st_6151 _ _) (mu_I _ _ _) ?_
  refine Bod.go dc_412_168 rfl ?_
  refine Bod.go dc_412_169 rfl ?_
  refine Bod.get dc_412_171 fr_412_462 (mk_thing ag1 (by first | exact hz5 | (simp only [rIS, rJS, rAS, rLS, rVS, rQS, rS_hold]; exact hz5))) rfl ?_
  refine Bod.eqV (.ref r) (by first | exact hv1 | (simp only [rIV, rJV, rAV, rLV, rQV, rV, reduceIte, Nat.reduceEqDiff]; exact hv1)) ?_
  refine Bod.go dc_412_174 rfl ?_
  refine Bod.ialdN (N := N) a1 rfl (by omega) (by omega) dc_412_176 (mk_isI (by first | exact hg1 | exact isK_S (by simp only [rIS, rJS, rAS, rLS, rVS, rQS, rS_hold]) hg1)) ?_
  refine Bod.eqI (nI e) (by first | assumption | (simp (disch := omega) only [rI, rIe, rA, rIA, rLA, rJA, rVI, rQI, rVA, rQA, upd_at,  rAI, rLI, rJI, nI_add, pk_sub, kc_0, kc_1, kc_2, kc_3, kc_4, kc_5, reduceIte, Nat.reduceEqDiff, Nat.add_zero, rI_hold, rI_hold, rL_hold, ht, n2, hfd0, he, hfd01, ht1]; done) | (simp (disch := omega) only [rI, rIe, rA, rIA, rLA, rJA, rVI, rQI, rVA, rQA, upd_at,  rAI, rLI, rJI, nI_add, pk_sub, kc_0, kc_1, kc_2, kc_3, kc_4, kc_5, reduceIte, Nat.reduceEqDiff, Nat.add_zero, rI_hold, rI_hold, rL_hold, ht, n2, hfd0, he, hfd01, ht1]; exact congrArg nI (by omega))) ?_
  refine Bod.go dc_412_177 rfl ?_
  refine Bod.get dc_412_179 fr_412_465 (mk_thing ag1 (by first | exact hz5 | (simp only [rIS, rJS, rAS, rLS, rVS, rQS, rS_hold]; exact hz5))) rfl ?_
  refine Bod.eqV (.ref r1) (by first | exact hv2 | (simp only [rIV, rJV, rAV, rLV, rQV, rV, reduceIte, Nat.reduceEqDiff]; exact hv2)) ?_
  refine Bod.go dc_412_182 rfl ?_
  refine Bod.laldN (N := N1) a1 rfl (by omega) (by omega) dc_412_184 (mk_isL (by first | exact hg2 | exact isK_S (by simp only [rIS, rJS, rAS, rLS, rVS, rQS, rS_hold]) hg2)) ?_
  refine Bod.go dc_412_185 rfl ?_
  refine Bod.get dc_412_187 fr_412_627 (mk_thing ag1 (by first | exact hz5 | (simp only [rIS, rJS, rAS, rLS, rVS, rQS, rS_hold]; exact hz5))) rfl ?_
  refine Bod.eqV (.ref r2) (by first | exact hv3 | (simp only [rIV, rJV, rAV, rLV, rQV, rV, reduceIte, Nat.reduceEqDiff]; exact hv3)) ?_
  refine Bod.go dc_412_190 rfl ?_
  refine Bod.laldN (N := N2) a1 rfl (by omega) (by omega) dc_412_192 (mk_isL (by first | exact hg3 | exact isK_S (by simp only [rIS, rJS, rAS, rLS, rVS, rQS, rS_hold]) hg3)) ?_
  refine Bod.virt (r := []) dc_412_193 kr_412_549 ⟨Or.inl rfl, ow_352, cl_14⟩ (by rw [np_352]; rfl) (by rw [np_352]; rfl) (ob_of (mk_61 _)) (Nat.le_of_ble_eq_true rfl) (c5  ) ?_
  show Bod _ _ _ _ [] _ _ _
  refine Bod.ic 1 (by decide) dc_412_196 ?_
  exact Bod.retZ dc_412_197 rt_412 (Or.inr rfl)
theorem rGa_14 {d : Nat} {S : cS} {nm : Nat} {t : Nat} {S1 : cS} {o : Nat} {g : Nat} {zg : Nat} {S2 : cS} {S3 : cS} {S4 : cS} (mnm : nm < 2 ^ 20) (ht : sI S 6151 = nI t) (mt : t < 20481) (b1 : 1 ≤ t) (c1 : Ans (d + 8) 363 [.ref 61, .int (nI (t - 1)), .int (nI 5)] S (some (.int (nI 1))) S1) (ho : (sL S1 92 (t - 1)).toInt32 = nI o) (mo : o < 1500) (ag : 108 ≤ g) (hq3 : sQ S1 86 o = some g) (c2 : Ans (d + 8) 399 [.ref g, .int (nI 0), .long ((nI nm).toInt64), .long 0] S1 (some (.int (Int32.ofInt (-1)))) S2) (hz1 : (sS S1)[g - 108]? = some (13, zg)) (hz2 : (sS S2)[g - 108]? = some (13, zg)) (n2 : sI S2 (100 * g + 11) = Int32.ofInt (-1)) (c3 : Ans (d + 8) 398 [.ref 61, .int (Int32.ofInt (-1)), .int (nI nm)] S2 (some (.int (Int32.ofInt (-1)))) S3) (c4 : Ans (d + 8) 351 [.ref 61, .int (nI 9)] S3 (some (.int (nI 0))) S4) : Bod (d + 8) 412 0 [(0, .ref 61), (1, .int (nI nm))] [] S (some (.int 0)) (S4) := by
  refine Bod.go dc_412_0 rfl ?_
  refine Bod.get dc_412_1 fr_412_493 (mk_61 _) rfl ?_
  refine Bod.eqI (nI t) (by first | assumption | rfl | exact congrArg nI (by omega) | (simp (disch := omega) only [rI, rIe, rA, rIA, rLA, rJA, rVI, rQI, rVA, rQA, upd_at,  rAI, rLI, rJI, nI_add, pk_sub, kc_0, kc_1, kc_2, kc_3, kc_4, kc_5, reduceIte, Nat.reduceEqDiff, Nat.add_zero, rI_hold, rI_hold, rL_hold, ht]; done)) ?_
  refine Bod.ic 1 (by decide) dc_412_4 ?_
  refine Bod.subN (t - 1) (by omega) (by omega) dc_412_5 ?_
  refine Bod.istn dc_412_6 (by rw [ml_412]; exact Nat.le_of_ble_eq_true rfl) ?_
  refine Bod.go dc_412_7 rfl ?_
  refine Bod.go dc_412_8 rfl ?_
  refine Bod.ic 5 (by decide) dc_412_9 ?_
  refine Bod.virt (r := []) dc_412_10 kr_412_683 ⟨Or.inl rfl, ow_363, cl_14⟩ (by rw [np_363]; rfl) (by rw [np_363]; rfl) (ob_of (mk_61 _)) (Nat.le_of_ble_eq_true rfl) (c1  ) ?_
  show Bod _ _ _ _ [_] _ _ _
  refine Bod.ifT dc_412_13 rfl (k1_ne_T (k_ne 1 0 rfl rfl (by omega) (by omega) (by omega))) ?_
  refine Bod.go dc_412_31 rfl ?_
  refine Bod.get dc_412_32 fr_412_499 (mk_61 _) rfl ?_
  refine Bod.go dc_412_35 rfl ?_
  refine Bod.laldN (t - 1) rfl (by omega) (by omega) dc_412_36 (mk_92 _) ?_
  refine Bod.go dc_412_37 rfl ?_
  refine Bod.eqI (nI o) (by first | exact ho | (simp only [rI, rIe, rA, rIA, rLA, rJA, rVI, rQI, rVA, rQA, upd_at,  rAI, rLI, rJI, nI_add, pk_sub, kc_0, kc_1, kc_2, kc_3, kc_4, kc_5, reduceIte, Nat.reduceEqDiff, Nat.add_zero, rI_hold, rI_hold, rL_hold]; exact ho)) ?_
  refine Bod.istn dc_412_38 (by rw [ml_412]; exact Nat.le_of_ble_eq_true rfl) ?_
  refine Bod.go dc_412_39 rfl ?_
  refine Bod.get dc_412_40 fr_412_485 (mk_61 _) rfl ?_
  refine Bod.go dc_412_43 rfl ?_
  refine Bod.aaldR (N := 1500) (b := g) o rfl (by omega) (by omega) (by first | exact hq3 | (simp only [rIQ, rJQ, rAQ, rLQ, rVQ, rQ_holdE]; exact hq3)) dc_412_44 (mk_86 _) ht_5 ?_
  refine Bod.ast dc_412_45 (by rw [ml_412]; exact Nat.le_of_ble_eq_true rfl) ?_
  refine Bod.go dc_412_47 rfl ?_
  refine Bod.ic 0 (by decide) dc_412_49 ?_
  refine Bod.go dc_412_50 rfl ?_
  refine Bod.go dc_412_51 rfl ?_
  refine Bod.go dc_412_52 rfl ?_
  refine Bod.virt (r := []) dc_412_53 kr_412_764 ⟨Or.inl rfl, ow_399, cl_13⟩ (by rw [np_399]; rfl) (by rw [np_399]; rfl) (ob_of (mk_thing ag (by first | exact hz1 | (simp only [rIS, rJS, rAS, rLS, rVS, rQS, rS_hold]; exact hz1)))) (Nat.le_of_ble_eq_true rfl) (c2  ) ?_
  show Bod _ _ _ _ [_] _ _ _
  refine Bod.ist dc_412_56 (by rw [ml_412]; exact Nat.le_of_ble_eq_true rfl) ?_
  refine Bod.go dc_412_58 rfl ?_
  refine Bod.ifT dc_412_60 rfl (by decide) ?_
  refine Bod.go dc_412_67 rfl ?_
  refine Bod.go dc_412_68 rfl ?_
  refine Bod.get dc_412_70 fr_412_472 (mk_thing ag (by first | exact hz2 | (simp only [rIS, rJS, rAS, rLS, rVS, rQS, rS_hold]; exact hz2))) rfl ?_
  refine Bod.eqI (Int32.ofInt (-1)) (by first | assumption | (simp (disch := omega) only [rI, rIe, rA, rIA, rLA, rJA, rVI, rQI, rVA, rQA, upd_at,  rAI, rLI, rJI, nI_add, pk_sub, kc_0, kc_1, kc_2, kc_3, kc_4, kc_5, reduceIte, Nat.reduceEqDiff, Nat.add_zero, rI_hold, rI_hold, rL_hold, ht, n2]; done) | (simp (disch := omega) only [rI, rIe, rA, rIA, rLA, rJA, rVI, rQI, rVA, rQA, upd_at,  rAI, rLI, rJI, nI_add, pk_sub, kc_0, kc_1, kc_2, kc_3, kc_4, kc_5, reduceIte, Nat.reduceEqDiff, Nat.add_zero, rI_hold, rI_hold, rL_hold, ht, n2]; exact congrArg nI (by omega))) ?_
  refine Bod.go dc_412_73 rfl ?_
  refine Bod.virt (r := []) dc_412_74 kr_412_777 ⟨Or.inl rfl, ow_398, cl_14⟩ (by rw [np_398]; rfl) (by rw [np_398]; rfl) (ob_of (mk_61 _)) (Nat.le_of_ble_eq_true rfl) (c3  ) ?_
  show Bod _ _ _ _ [_] _ _ _
  refine Bod.ist dc_412_77 (by rw [ml_412]; exact Nat.le_of_ble_eq_true rfl) ?_
  refine Bod.go dc_412_79 rfl ?_
  refine Bod.ifF dc_412_81 rfl (by decide) ?_
  refine Bod.go dc_412_84 rfl ?_
  refine Bod.bip 9 (by decide) dc_412_85 ?_
  refine Bod.virt (r := []) dc_412_87 kr_412_608 ⟨Or.inl rfl, ow_351, cl_14⟩ (by rw [np_351]; rfl) (by rw [np_351]; rfl) (ob_of (mk_61 _)) (Nat.le_of_ble_eq_true rfl) (c4  ) ?_
  show Bod _ _ _ _ [_] _ _ _
  exact Bod.retZ dc_412_90 rt_412 (Or.inl rfl)
theorem rGa_15 {d : Nat} {S : cS} {nm : Nat} {t : Nat} {S1 : cS} {S2 : cS} {o : Nat} {g : Nat} {zg : Nat} {S3 : cS} {a : Nat} {g1 : Nat} {zg1 : Nat} {S4 : cS} {a1 : Nat} {fd0 : Nat} {t1 : Nat} {r : Nat} {N : Nat} {e : Nat} {r1 : Nat} {N1 : Nat} {r2 : Nat} {N2 : Nat} {S5 : cS} (mnm : nm < 2 ^ 20) (ht : sI S 6151 = nI t) (mt : t < 20481) (b1 : 1 ≤ t) (c1 : Ans (d + 8) 363 [.ref 61, .int (nI (t - 1)), .int (nI 5)] S (some (.int (nI 0))) S1) (c2 : Ans (d + 8) 363 [.ref 61, .int (nI (t - 1)), .int (nI 4)] S1 (some (.int (nI 1))) S2) (ho : (sL S2 92 (t - 1)).toInt32 = nI o) (mo : o < 1500) (ag : 108 ≤ g) (hq3 : sQ S2 86 o = some g) (ma : a < 2 ^ 20) (c3 : Ans (d + 8) 399 [.ref g, .int (nI 0), .long ((nI nm).toInt64), .long 0] S2 (some (.int (nI a))) S3) (hz1 : (sS S2)[g - 108]? = some (13, zg)) (ag1 : 108 ≤ g1) (hq6 : sQ S3 86 o = some g1) (ma1 : a1 < 2 ^ 20) (c4 : Ans (d + 8) 399 [.ref g1, .int (nI 0), .long ((nI nm).toInt64), .long 0] S3 (some (.int (nI a1))) S4) (hz2 : (sS S3)[g1 - 108]? = some (13, zg1)) (hz3 : (sS S4)[g - 108]? = some (13, zg)) (hfd0 : sI S4 (100 * g + 0) = nI fd0) (mfd0 : fd0 < 2 ^ 20) (b2 : fd0 = 4) (ht1 : sI S4 6151 = nI t1) (mt1 : t1 < 20481) (b3 : 1 ≤ t1) (hz4 : (sS S4)[g1 - 108]? = some (13, zg1)) (hv1 : sV S4 (100 * g1 + 2) = .ref r) (hg1 : isK S4 r 0 N) (mN : N < 2 ^ 20) (b4 : a1 < N) (he : sA (wI 6151 (nI (t1 - 1)) S4) r a1 = nI e) (me : e < 2 ^ 20) (hv2 : sV S4 (100 * g1 + 4) = .ref r1) (hg2 : isK S4 r1 1 N1) (mN1 : N1 < 2 ^ 20) (b5 : a1 < N1) (hv3 : sV S4 (100 * g1 + 5) = .ref r2) (hg3 : isK S4 r2 1 N2) (mN2 : N2 < 2 ^ 20) (b6 : a1 < N2) (c5 : Ans (d + 8) 352 [.ref 61, .int (nI e), .long (sL (wI 6151 (nI (t1 - 1)) S4) r1 a1), .long (sL (wI 6151 (nI (t1 - 1)) S4) r2 a1)] (wI 6151 (nI (t1 - 1)) S4) none S5) : Bod (d + 8) 412 0 [(0, .ref 61), (1, .int (nI nm))] [] S (some (.int 1)) (S5) := by
  refine Bod.go dc_412_0 rfl ?_
  refine Bod.get dc_412_1 fr_412_493 (mk_61 _) rfl ?_
  refine Bod.eqI (nI t) (by first | assumption | rfl | exact congrArg nI (by omega) | (simp (disch := omega) only [rI, rIe, rA, rIA, rLA, rJA, rVI, rQI, rVA, rQA, upd_at,  rAI, rLI, rJI, nI_add, pk_sub, kc_0, kc_1, kc_2, kc_3, kc_4, kc_5, reduceIte, Nat.reduceEqDiff, Nat.add_zero, rI_hold, rI_hold, rL_hold, ht]; done)) ?_
  refine Bod.ic 1 (by decide) dc_412_4 ?_
  refine Bod.subN (t - 1) (by omega) (by omega) dc_412_5 ?_
  refine Bod.istn dc_412_6 (by rw [ml_412]; exact Nat.le_of_ble_eq_true rfl) ?_
  refine Bod.go dc_412_7 rfl ?_
  refine Bod.go dc_412_8 rfl ?_
  refine Bod.ic 5 (by decide) dc_412_9 ?_
  refine Bod.virt (r := []) dc_412_10 kr_412_683 ⟨Or.inl rfl, ow_363, cl_14⟩ (by rw [np_363]; rfl) (by rw [np_363]; rfl) (ob_of (mk_61 _)) (Nat.le_of_ble_eq_true rfl) (c1  ) ?_
  show Bod _ _ _ _ [_] _ _ _
  refine Bod.ifF dc_412_13 rfl (k1_ne_F (k_eq 0 0 rfl rfl (by omega))) ?_
  refine Bod.go dc_412_16 rfl ?_
  refine Bod.go dc_412_17 rfl ?_
  refine Bod.ic 4 (by decide) dc_412_18 ?_
  refine Bod.virt (r := []) dc_412_19 kr_412_683 ⟨Or.inl rfl, ow_363, cl_14⟩ (by rw [np_363]; rfl) (by rw [np_363]; rfl) (ob_of (mk_61 _)) (Nat.le_of_ble_eq_true rfl) (c2  ) ?_
  show Bod _ _ _ _ [_] _ _ _
  refine Bod.ifT dc_412_22 rfl (k1_ne_T (k_ne 1 0 rfl rfl (by omega) (by omega) (by omega))) ?_
  refine Bod.go dc_412_31 rfl ?_
  refine Bod.get dc_412_32 fr_412_499 (mk_61 _) rfl ?_
  refine Bod.go dc_412_35 rfl ?_
  refine Bod.laldN (t - 1) rfl (by omega) (by omega) dc_412_36 (mk_92 _) ?_
  refine Bod.go dc_412_37 rfl ?_
  refine Bod.eqI (nI o) (by first | exact ho | (simp only [rI, rIe, rA, rIA, rLA, rJA, rVI, rQI, rVA, rQA, upd_at,  rAI, rLI, rJI, nI_add, pk_sub, kc_0, kc_1, kc_2, kc_3, kc_4, kc_5, reduceIte, Nat.reduceEqDiff, Nat.add_zero, rI_hold, rI_hold, rL_hold]; exact ho)) ?_
  refine Bod.istn dc_412_38 (by rw [ml_412]; exact Nat.le_of_ble_eq_true rfl) ?_
  refine Bod.go dc_412_39 rfl ?_
  refine Bod.get dc_412_40 fr_412_485 (mk_61 _) rfl ?_
  refine Bod.go dc_412_43 rfl ?_
  refine Bod.aaldR (N := 1500) (b := g) o rfl (by omega) (by omega) (by first | exact hq3 | (simp only [rIQ, rJQ, rAQ, rLQ, rVQ, rQ_holdE]; exact hq3)) dc_412_44 (mk_86 _) ht_5 ?_
  refine Bod.ast dc_412_45 (by rw [ml_412]; exact Nat.le_of_ble_eq_true rfl) ?_
  refine Bod.go dc_412_47 rfl ?_
  refine Bod.ic 0 (by decide) dc_412_49 ?_
  refine Bod.go dc_412_50 rfl ?_
  refine Bod.go dc_412_51 rfl ?_
  refine Bod.go dc_412_52 rfl ?_
  refine Bod.virt (r := []) dc_412_53 kr_412_764 ⟨Or.inl rfl, ow_399, cl_13⟩ (by rw [np_399]; rfl) (by rw [np_399]; rfl) (ob_of (mk_thing ag (by first | exact hz1 | (simp only [rIS, rJS, rAS, rLS, rVS, rQS, rS_hold]; exact hz1)))) (Nat.le_of_ble_eq_true rfl) (c3  ) ?_
  show Bod _ _ _ _ [_] _ _ _
  refine Bod.ist dc_412_56 (by rw [ml_412]; exact Nat.le_of_ble_eq_true rfl) ?_
  refine Bod.go dc_412_58 rfl ?_
  refine Bod.ifF dc_412_60 rfl (k1_lt_F a rfl (by omega)) ?_
  refine Bod.go dc_412_63 rfl ?_
  refine Bod.go dc_412_64 rfl ?_
  refine Bod.ist dc_412_77 (by rw [ml_412]; exact Nat.le_of_ble_eq_true rfl) ?_
  refine Bod.go dc_412_79 rfl ?_
  refine Bod.ifT dc_412_81 rfl (k1_ge_T o rfl (by omega)) ?_
  refine Bod.go dc_412_91 rfl ?_
  refine Bod.get dc_412_92 fr_412_485 (mk_61 _) rfl ?_
  refine Bod.go dc_412_95 rfl ?_
  refine Bod.aaldR (N := 1500) (b := g1) o rfl (by omega) (by omega) (by first | exact hq6 | (simp only [rIQ, rJQ, rAQ, rLQ, rVQ, rQ_holdE]; exact hq6)) dc_412_97 (mk_86 _) ht_5 ?_
  refine Bod.ast dc_412_98 (by rw [ml_412]; exact Nat.le_of_ble_eq_true rfl) ?_
  refine Bod.go dc_412_100 rfl ?_
  refine Bod.ic 0 (by decide) dc_412_102 ?_
  refine Bod.go dc_412_103 rfl ?_
  refine Bod.go dc_412_104 rfl ?_
  refine Bod.go dc_412_105 rfl ?_
  refine Bod.virt (r := []) dc_412_106 kr_412_764 ⟨Or.inl rfl, ow_399, cl_13⟩ (by rw [np_399]; rfl) (by rw [np_399]; rfl) (ob_of (mk_thing ag1 (by first | exact hz2 | (simp only [rIS, rJS, rAS, rLS, rVS, rQS, rS_hold]; exact hz2)))) (Nat.le_of_ble_eq_true rfl) (c4  ) ?_
  show Bod _ _ _ _ [_] _ _ _
  refine Bod.ist dc_412_109 (by rw [ml_412]; exact Nat.le_of_ble_eq_true rfl) ?_
  refine Bod.go dc_412_111 rfl ?_
  refine Bod.get dc_412_113 fr_412_531 (mk_thing ag (by first | exact hz3 | (simp only [rIS, rJS, rAS, rLS, rVS, rQS, rS_hold]; exact hz3))) rfl ?_
  refine Bod.eqI (nI fd0) (by first | assumption | (simp (disch := omega) only [rI, rIe, rA, rIA, rLA, rJA, rVI, rQI, rVA, rQA, upd_at,  rAI, rLI, rJI, nI_add, pk_sub, kc_0, kc_1, kc_2, kc_3, kc_4, kc_5, reduceIte, Nat.reduceEqDiff, Nat.add_zero, rI_hold, rI_hold, rL_hold, ht, hfd0]; done) | (simp (disch := omega) only [rI, rIe, rA, rIA, rLA, rJA, rVI, rQI, rVA, rQA, upd_at,  rAI, rLI, rJI, nI_add, pk_sub, kc_0, kc_1, kc_2, kc_3, kc_4, kc_5, reduceIte, Nat.reduceEqDiff, Nat.add_zero, rI_hold, rI_hold, rL_hold, ht, hfd0]; exact congrArg nI (by omega))) ?_
  refine Bod.ic 4 (by decide) dc_412_116 ?_
  refine Bod.icT dc_412_117 rfl (k2_eq_T (k_eq fd0 4 rfl rfl (by omega))) ?_
  refine Bod.go dc_412_158 rfl ?_
  refine Bod.go dc_412_159 rfl ?_
  refine Bod.get dc_412_160 fr_412_493 (mk_61 _) rfl ?_
  refine Bod.eqI (nI t1) (by first | assumption | (simp (disch := omega) only [rI, rIe, rA, rIA, rLA, rJA, rVI, rQI, rVA, rQA, upd_at,  rAI, rLI, rJI, nI_add, pk_sub, kc_0, kc_1, kc_2, kc_3, kc_4, kc_5, reduceIte, Nat.reduceEqDiff, Nat.add_zero, rI_hold, rI_hold, rL_hold, ht, hfd0, ht1]; done) | (simp (disch := omega) only [rI, rIe, rA, rIA, rLA, rJA, rVI, rQI, rVA, rQA, upd_at,  rAI, rLI, rJI, nI_add, pk_sub, kc_0, kc_1, kc_2, kc_3, kc_4, kc_5, reduceIte, Nat.reduceEqDiff, Nat.add_zero, rI_hold, rI_hold, rL_hold, ht, hfd0, ht1]; exact congrArg nI (by omega))) ?_
  refine Bod.ic 1 (by decide) dc_412_163 ?_
  refine Bod.subN (t1 - 1) (by omega) (by omega) dc_412_164 ?_
  refine Bod.put dc_412_165 fr_412_493 (mk_61 _) (Nat.le_of_ble_eq_true rfl) pf_14_51 (st_6151 _ _) (mu_I _ _ _) ?_
  refine Bod.go dc_412_168 rfl ?_
  refine Bod.go dc_412_169 rfl ?_
  refine Bod.get dc_412_171 fr_412_462 (mk_thing ag1 (by first | exact hz4 | (simp only [rIS, rJS, rAS, rLS, rVS, rQS, rS_hold]; exact hz4))) rfl ?_
  refine Bod.eqV (.ref r) (by first | exact hv1 | (simp only [rIV, rJV, rAV, rLV, rQV, rV, reduceIte, Nat.reduceEqDiff]; exact hv1)) ?_
  refine Bod.go dc_412_174 rfl ?_
  refine Bod.ialdN (N := N) a1 rfl (by omega) (by omega) dc_412_176 (mk_isI (by first | exact hg1 | exact isK_S (by simp only [rIS, rJS, rAS, rLS, rVS, rQS, rS_hold]) hg1)) ?_
  refine Bod.eqI (nI e) (by first | assumption | (simp (disch := omega) only [rI, rIe, rA, rIA, rLA, rJA, rVI, rQI, rVA, rQA, upd_at,  rAI, rLI, rJI, nI_add, pk_sub, kc_0, kc_1, kc_2, kc_3, kc_4, kc_5, reduceIte, Nat.reduceEqDiff, Nat.add_zero, rI_hold, rI_hold, rL_hold, ht, hfd0, ht1, he]; done) | (simp (disch := omega) only [rI, rIe, rA, rIA, rLA, rJA, rVI, rQI, rVA, rQA, upd_at,  rAI, rLI, rJI, nI_add, pk_sub, kc_0, kc_1, kc_2, kc_3, kc_4, kc_5, reduceIte, Nat.reduceEqDiff, Nat.add_zero, rI_hold, rI_hold, rL_hold, ht, hfd0, ht1, he]; exact congrArg nI (by omega))) ?_
  refine Bod.go dc_412_177 rfl ?_
  refine Bod.get dc_412_179 fr_412_465 (mk_thing ag1 (by first | exact hz4 | (simp only [rIS, rJS, rAS, rLS, rVS, rQS, rS_hold]; exact hz4))) rfl ?_
  refine Bod.eqV (.ref r1) (by first | exact hv2 | (simp only [rIV, rJV, rAV, rLV, rQV, rV, reduceIte, Nat.reduceEqDiff]; exact hv2)) ?_
  refine Bod.go dc_412_182 rfl ?_
  refine Bod.laldN (N := N1) a1 rfl (by omega) (by omega) dc_412_184 (mk_isL (by first | exact hg2 | exact isK_S (by simp only [rIS, rJS, rAS, rLS, rVS, rQS, rS_hold]) hg2)) ?_
  refine Bod.go dc_412_185 rfl ?_
  refine Bod.get dc_412_187 fr_412_627 (mk_thing ag1 (by first | exact hz4 | (simp only [rIS, rJS, rAS, rLS, rVS, rQS, rS_hold]; exact hz4))) rfl ?_
  refine Bod.eqV (.ref r2) (by first | exact hv3 | (simp only [rIV, rJV, rAV, rLV, rQV, rV, reduceIte, Nat.reduceEqDiff]; exact hv3)) ?_
  refine Bod.go dc_412_190 rfl ?_
  refine Bod.laldN (N := N2) a1 rfl (by omega) (by omega) dc_412_192 (mk_isL (by first | exact hg3 | exact isK_S (by simp only [rIS, rJS, rAS, rLS, rVS, rQS, rS_hold]) hg3)) ?_
  refine Bod.virt (r := []) dc_412_193 kr_412_549 ⟨Or.inl rfl, ow_352, cl_14⟩ (by rw [np_352]; rfl) (by rw [np_352]; rfl) (ob_of (mk_61 _)) (Nat.le_of_ble_eq_true rfl) (c5  ) ?_
  show Bod _ _ _ _ [] _ _ _
  refine Bod.ic 1 (by decide) dc_412_196 ?_
  exact Bod.retZ dc_412_197 rt_412 (Or.inr rfl)
theorem rGa_16 {d : Nat} {S : cS} {nm : Nat} {t : Nat} {S1 : cS} {S2 : cS} {o : Nat} {g : Nat} {zg : Nat} {S3 : cS} {a : Nat} {g1 : Nat} {zg1 : Nat} {S4 : cS} {a1 : Nat} {fd0 : Nat} {t1 : Nat} {r : Nat} {N : Nat} {e : Nat} {r1 : Nat} {N1 : Nat} {r2 : Nat} {N2 : Nat} {S5 : cS} (mnm : nm < 2 ^ 20) (ht : sI S 6151 = nI t) (mt : t < 20481) (b1 : 1 ≤ t) (c1 : Ans (d + 8) 363 [.ref 61, .int (nI (t - 1)), .int (nI 5)] S (some (.int (nI 0))) S1) (c2 : Ans (d + 8) 363 [.ref 61, .int (nI (t - 1)), .int (nI 4)] S1 (some (.int (nI 1))) S2) (ho : (sL S2 92 (t - 1)).toInt32 = nI o) (mo : o < 1500) (ag : 108 ≤ g) (hq3 : sQ S2 86 o = some g) (ma : a < 2 ^ 20) (c3 : Ans (d + 8) 399 [.ref g, .int (nI 0), .long ((nI nm).toInt64), .long 0] S2 (some (.int (nI a))) S3) (hz1 : (sS S2)[g - 108]? = some (13, zg)) (ag1 : 108 ≤ g1) (hq6 : sQ S3 86 o = some g1) (ma1 : a1 < 2 ^ 20) (c4 : Ans (d + 8) 399 [.ref g1, .int (nI 0), .long ((nI nm).toInt64), .long 0] S3 (some (.int (nI a1))) S4) (hz2 : (sS S3)[g1 - 108]? = some (13, zg1)) (hz3 : (sS S4)[g - 108]? = some (13, zg)) (hfd0 : sI S4 (100 * g + 0) = nI fd0) (mfd0 : fd0 < 2 ^ 20) (b2 : fd0 ≠ 4) (ht1 : sI S4 6151 = nI t1) (mt1 : t1 < 20481) (b3 : 1 ≤ t1) (hz4 : (sS S4)[g1 - 108]? = some (13, zg1)) (hv1 : sV S4 (100 * g1 + 2) = .ref r) (hg1 : isK S4 r 0 N) (mN : N < 2 ^ 20) (b4 : a1 < N) (he : sA (wI 6151 (nI (t1 - 1)) S4) r a1 = nI e) (me : e < 2 ^ 20) (hv2 : sV S4 (100 * g1 + 4) = .ref r1) (hg2 : isK S4 r1 1 N1) (mN1 : N1 < 2 ^ 20) (b5 : a1 < N1) (hv3 : sV S4 (100 * g1 + 5) = .ref r2) (hg3 : isK S4 r2 1 N2) (mN2 : N2 < 2 ^ 20) (b6 : a1 < N2) (c5 : Ans (d + 8) 352 [.ref 61, .int (nI e), .long (sL (wI 6151 (nI (t1 - 1)) S4) r1 a1), .long (sL (wI 6151 (nI (t1 - 1)) S4) r2 a1)] (wI 6151 (nI (t1 - 1)) S4) none S5) : Bod (d + 8) 412 0 [(0, .ref 61), (1, .int (nI nm))] [] S (some (.int 1)) (S5) := by
  refine Bod.go dc_412_0 rfl ?_
  refine Bod.get dc_412_1 fr_412_493 (mk_61 _) rfl ?_
  refine Bod.eqI (nI t) (by first | assumption | rfl | exact congrArg nI (by omega) | (simp (disch := omega) only [rI, rIe, rA, rIA, rLA, rJA, rVI, rQI, rVA, rQA, upd_at,  rAI, rLI, rJI, nI_add, pk_sub, kc_0, kc_1, kc_2, kc_3, kc_4, kc_5, reduceIte, Nat.reduceEqDiff, Nat.add_zero, rI_hold, rI_hold, rL_hold, ht]; done)) ?_
  refine Bod.ic 1 (by decide) dc_412_4 ?_
  refine Bod.subN (t - 1) (by omega) (by omega) dc_412_5 ?_
  refine Bod.istn dc_412_6 (by rw [ml_412]; exact Nat.le_of_ble_eq_true rfl) ?_
  refine Bod.go dc_412_7 rfl ?_
  refine Bod.go dc_412_8 rfl ?_
  refine Bod.ic 5 (by decide) dc_412_9 ?_
  refine Bod.virt (r := []) dc_412_10 kr_412_683 ⟨Or.inl rfl, ow_363, cl_14⟩ (by rw [np_363]; rfl) (by rw [np_363]; rfl) (ob_of (mk_61 _)) (Nat.le_of_ble_eq_true rfl) (c1  ) ?_
  show Bod _ _ _ _ [_] _ _ _
  refine Bod.ifF dc_412_13 rfl (k1_ne_F (k_eq 0 0 rfl rfl (by omega))) ?_
  refine Bod.go dc_412_16 rfl ?_
  refine Bod.go dc_412_17 rfl ?_
  refine Bod.ic 4 (by decide) dc_412_18 ?_
  refine Bod.virt (r := []) dc_412_19 kr_412_683 ⟨Or.inl rfl, ow_363, cl_14⟩ (by rw [np_363]; rfl) (by rw [np_363]; rfl) (ob_of (mk_61 _)) (Nat.le_of_ble_eq_true rfl) (c2  ) ?_
  show Bod _ _ _ _ [_] _ _ _
  refine Bod.ifT dc_412_22 rfl (k1_ne_T (k_ne 1 0 rfl rfl (by omega) (by omega) (by omega))) ?_
  refine Bod.go dc_412_31 rfl ?_
  refine Bod.get dc_412_32 fr_412_499 (mk_61 _) rfl ?_
  refine Bod.go dc_412_35 rfl ?_
  refine Bod.laldN (t - 1) rfl (by omega) (by omega) dc_412_36 (mk_92 _) ?_
  refine Bod.go dc_412_37 rfl ?_
  refine Bod.eqI (nI o) (by first | exact ho | (simp only [rI, rIe, rA, rIA, rLA, rJA, rVI, rQI, rVA, rQA, upd_at,  rAI, rLI, rJI, nI_add, pk_sub, kc_0, kc_1, kc_2, kc_3, kc_4, kc_5, reduceIte, Nat.reduceEqDiff, Nat.add_zero, rI_hold, rI_hold, rL_hold]; exact ho)) ?_
  refine Bod.istn dc_412_38 (by rw [ml_412]; exact Nat.le_of_ble_eq_true rfl) ?_
  refine Bod.go dc_412_39 rfl ?_
  refine Bod.get dc_412_40 fr_412_485 (mk_61 _) rfl ?_
  refine Bod.go dc_412_43 rfl ?_
  refine Bod.aaldR (N := 1500) (b := g) o rfl (by omega) (by omega) (by first | exact hq3 | (simp only [rIQ, rJQ, rAQ, rLQ, rVQ, rQ_holdE]; exact hq3)) dc_412_44 (mk_86 _) ht_5 ?_
  refine Bod.ast dc_412_45 (by rw [ml_412]; exact Nat.le_of_ble_eq_true rfl) ?_
  refine Bod.go dc_412_47 rfl ?_
  refine Bod.ic 0 (by decide) dc_412_49 ?_
  refine Bod.go dc_412_50 rfl ?_
  refine Bod.go dc_412_51 rfl ?_
  refine Bod.go dc_412_52 rfl ?_
  refine Bod.virt (r := []) dc_412_53 kr_412_764 ⟨Or.inl rfl, ow_399, cl_13⟩ (by rw [np_399]; rfl) (by rw [np_399]; rfl) (ob_of (mk_thing ag (by first | exact hz1 | (simp only [rIS, rJS, rAS, rLS, rVS, rQS, rS_hold]; exact hz1)))) (Nat.le_of_ble_eq_true rfl) (c3  ) ?_
  show Bod _ _ _ _ [_] _ _ _
  refine Bod.ist dc_412_56 (by rw [ml_412]; exact Nat.le_of_ble_eq_true rfl) ?_
  refine Bod.go dc_412_58 rfl ?_
  refine Bod.ifF dc_412_60 rfl (k1_lt_F a rfl (by omega)) ?_
  refine Bod.go dc_412_63 rfl ?_
  refine Bod.go dc_412_64 rfl ?_
  refine Bod.ist dc_412_77 (by rw [ml_412]; exact Nat.le_of_ble_eq_true rfl) ?_
  refine Bod.go dc_412_79 rfl ?_
  refine Bod.ifT dc_412_81 rfl (k1_ge_T o rfl (by omega)) ?_
  refine Bod.go dc_412_91 rfl ?_
  refine Bod.get dc_412_92 fr_412_485 (mk_61 _) rfl ?_
  refine Bod.go dc_412_95 rfl ?_
  refine Bod.aaldR (N := 1500) (b := g1) o rfl (by omega) (by omega) (by first | exact hq6 | (simp only [rIQ, rJQ, rAQ, rLQ, rVQ, rQ_holdE]; exact hq6)) dc_412_97 (mk_86 _) ht_5 ?_
  refine Bod.ast dc_412_98 (by rw [ml_412]; exact Nat.le_of_ble_eq_true rfl) ?_
  refine Bod.go dc_412_100 rfl ?_
  refine Bod.ic 0 (by decide) dc_412_102 ?_
  refine Bod.go dc_412_103 rfl ?_
  refine Bod.go dc_412_104 rfl ?_
  refine Bod.go dc_412_105 rfl ?_
  refine Bod.virt (r := []) dc_412_106 kr_412_764 ⟨Or.inl rfl, ow_399, cl_13⟩ (by rw [np_399]; rfl) (by rw [np_399]; rfl) (ob_of (mk_thing ag1 (by first | exact hz2 | (simp only [rIS, rJS, rAS, rLS, rVS, rQS, rS_hold]; exact hz2)))) (Nat.le_of_ble_eq_true rfl) (c4  ) ?_
  show Bod _ _ _ _ [_] _ _ _
  refine Bod.ist dc_412_109 (by rw [ml_412]; exact Nat.le_of_ble_eq_true rfl) ?_
  refine Bod.go dc_412_111 rfl ?_
  refine Bod.get dc_412_113 fr_412_531 (mk_thing ag (by first | exact hz3 | (simp only [rIS, rJS, rAS, rLS, rVS, rQS, rS_hold]; exact hz3))) rfl ?_
  refine Bod.eqI (nI fd0) (by first | assumption | (simp (disch := omega) only [rI, rIe, rA, rIA, rLA, rJA, rVI, rQI, rVA, rQA, upd_at,  rAI, rLI, rJI, nI_add, pk_sub, kc_0, kc_1, kc_2, kc_3, kc_4, kc_5, reduceIte, Nat.reduceEqDiff, Nat.add_zero, rI_hold, rI_hold, rL_hold, ht, hfd0]; done) | (simp (disch := omega) only [rI, rIe, rA, rIA, rLA, rJA, rVI, rQI, rVA, rQA, upd_at,  rAI, rLI, rJI, nI_add, pk_sub, kc_0, kc_1, kc_2, kc_3, kc_4, kc_5, reduceIte, Nat.reduceEqDiff, Nat.add_zero, rI_hold, rI_hold, rL_hold, ht, hfd0]; exact congrArg nI (by omega))) ?_
  refine Bod.ic 4 (by decide) dc_412_116 ?_
  refine Bod.icF dc_412_117 rfl (k2_eq_F (k_ne fd0 4 rfl rfl (by omega) (by omega) (by omega))) ?_
  refine Bod.go dc_412_120 rfl ?_
  refine Bod.ifT dc_412_122 rfl (k1_ge_T a rfl (by omega)) ?_
  refine Bod.go dc_412_158 rfl ?_
  refine Bod.go dc_412_159 rfl ?_
  refine Bod.get dc_412_160 fr_412_493 (mk_61 _) rfl ?_
  refine Bod.eqI (nI t1) (by first | assumption | (simp (disch := omega) only [rI, rIe, rA, rIA, rLA, rJA, rVI, rQI, rVA, rQA, upd_at,  rAI, rLI, rJI, nI_add, pk_sub, kc_0, kc_1, kc_2, kc_3, kc_4, kc_5, reduceIte, Nat.reduceEqDiff, Nat.add_zero, rI_hold, rI_hold, rL_hold, ht, hfd0, ht1]; done) | (simp (disch := omega) only [rI, rIe, rA, rIA, rLA, rJA, rVI, rQI, rVA, rQA, upd_at,  rAI, rLI, rJI, nI_add, pk_sub, kc_0, kc_1, kc_2, kc_3, kc_4, kc_5, reduceIte, Nat.reduceEqDiff, Nat.add_zero, rI_hold, rI_hold, rL_hold, ht, hfd0, ht1]; exact congrArg nI (by omega))) ?_
  refine Bod.ic 1 (by decide) dc_412_163 ?_
  refine Bod.subN (t1 - 1) (by omega) (by omega) dc_412_164 ?_
  refine Bod.put dc_412_165 fr_412_493 (mk_61 _) (Nat.le_of_ble_eq_true rfl) pf_14_51 (st_6151 _ _) (mu_I _ _ _) ?_
  refine Bod.go dc_412_168 rfl ?_
  refine Bod.go dc_412_169 rfl ?_
  refine Bod.get dc_412_171 fr_412_462 (mk_thing ag1 (by first | exact hz4 | (simp only [rIS, rJS, rAS, rLS, rVS, rQS, rS_hold]; exact hz4))) rfl ?_
  refine Bod.eqV (.ref r) (by first | exact hv1 | (simp only [rIV, rJV, rAV, rLV, rQV, rV, reduceIte, Nat.reduceEqDiff]; exact hv1)) ?_
  refine Bod.go dc_412_174 rfl ?_
  refine Bod.ialdN (N := N) a1 rfl (by omega) (by omega) dc_412_176 (mk_isI (by first | exact hg1 | exact isK_S (by simp only [rIS, rJS, rAS, rLS, rVS, rQS, rS_hold]) hg1)) ?_
  refine Bod.eqI (nI e) (by first | assumption | (simp (disch := omega) only [rI, rIe, rA, rIA, rLA, rJA, rVI, rQI, rVA, rQA, upd_at,  rAI, rLI, rJI, nI_add, pk_sub, kc_0, kc_1, kc_2, kc_3, kc_4, kc_5, reduceIte, Nat.reduceEqDiff, Nat.add_zero, rI_hold, rI_hold, rL_hold, ht, hfd0, ht1, he]; done) | (simp (disch := omega) only [rI, rIe, rA, rIA, rLA, rJA, rVI, rQI, rVA, rQA, upd_at,  rAI, rLI, rJI, nI_add, pk_sub, kc_0, kc_1, kc_2, kc_3, kc_4, kc_5, reduceIte, Nat.reduceEqDiff, Nat.add_zero, rI_hold, rI_hold, rL_hold, ht, hfd0, ht1, he]; exact congrArg nI (by omega))) ?_
  refine Bod.go dc_412_177 rfl ?_
  refine Bod.get dc_412_179 fr_412_465 (mk_thing ag1 (by first | exact hz4 | (simp only [rIS, rJS, rAS, rLS, rVS, rQS, rS_hold]; exact hz4))) rfl ?_
  refine Bod.eqV (.ref r1) (by first | exact hv2 | (simp only [rIV, rJV, rAV, rLV, rQV, rV, reduceIte, Nat.reduceEqDiff]; exact hv2)) ?_
  refine Bod.go dc_412_182 rfl ?_
  refine Bod.laldN (N := N1) a1 rfl (by omega) (by omega) dc_412_184 (mk_isL (by first | exact hg2 | exact isK_S (by simp only [rIS, rJS, rAS, rLS, rVS, rQS, rS_hold]) hg2)) ?_
  refine Bod.go dc_412_185 rfl ?_
  refine Bod.get dc_412_187 fr_412_627 (mk_thing ag1 (by first | exact hz4 | (simp only [rIS, rJS, rAS, rLS, rVS, rQS, rS_hold]; exact hz4))) rfl ?_
  refine Bod.eqV (.ref r2) (by first | exact hv3 | (simp only [rIV, rJV, rAV, rLV, rQV, rV, reduceIte, Nat.reduceEqDiff]; exact hv3)) ?_
  refine Bod.go dc_412_190 rfl ?_
  refine Bod.laldN (N := N2) a1 rfl (by omega) (by omega) dc_412_192 (mk_isL (by first | exact hg3 | exact isK_S (by simp only [rIS, rJS, rAS, rLS, rVS, rQS, rS_hold]) hg3)) ?_
  refine Bod.virt (r := []) dc_412_193 kr_412_549 ⟨Or.inl rfl, ow_352, cl_14⟩ (by rw [np_352]; rfl) (by rw [np_352]; rfl) (ob_of (mk_61 _)) (Nat.le_of_ble_eq_true rfl) (c5  ) ?_
  show Bod _ _ _ _ [] _ _ _
  refine Bod.ic 1 (by decide) dc_412_196 ?_
  exact Bod.retZ dc_412_197 rt_412 (Or.inr rfl)
theorem rGa_17 {d : Nat} {S : cS} {nm : Nat} {t : Nat} {S1 : cS} {S2 : cS} {o : Nat} {g : Nat} {zg : Nat} {S3 : cS} {fd11 : Nat} {S4 : cS} {a : Nat} {g1 : Nat} {zg1 : Nat} {S5 : cS} {a1 : Nat} {fd0 : Nat} {t1 : Nat} {r : Nat} {N : Nat} {e : Nat} {r1 : Nat} {N1 : Nat} {r2 : Nat} {N2 : Nat} {S6 : cS} (mnm : nm < 2 ^ 20) (ht : sI S 6151 = nI t) (mt : t < 20481) (b1 : 1 ≤ t) (c1 : Ans (d + 8) 363 [.ref 61, .int (nI (t - 1)), .int (nI 5)] S (some (.int (nI 0))) S1) (c2 : Ans (d + 8) 363 [.ref 61, .int (nI (t - 1)), .int (nI 4)] S1 (some (.int (nI 1))) S2) (ho : (sL S2 92 (t - 1)).toInt32 = nI o) (mo : o < 1500) (ag : 108 ≤ g) (hq3 : sQ S2 86 o = some g) (c3 : Ans (d + 8) 399 [.ref g, .int (nI 0), .long ((nI nm).toInt64), .long 0] S2 (some (.int (Int32.ofInt (-1)))) S3) (hz1 : (sS S2)[g - 108]? = some (13, zg)) (hz2 : (sS S3)[g - 108]? = some (13, zg)) (hfd11 : sI S3 (100 * g + 11) = nI fd11) (mfd11 : fd11 < 2 ^ 20) (ma : a < 1500) (c4 : Ans (d + 8) 398 [.ref 61, .int (nI fd11), .int (nI nm)] S3 (some (.int (nI a))) S4) (ag1 : 108 ≤ g1) (hq7 : sQ S4 86 a = some g1) (ma1 : a1 < 2 ^ 20) (c5 : Ans (d + 8) 399 [.ref g1, .int (nI 0), .long ((nI nm).toInt64), .long 0] S4 (some (.int (nI a1))) S5) (hz3 : (sS S4)[g1 - 108]? = some (13, zg1)) (hz4 : (sS S5)[g - 108]? = some (13, zg)) (hfd0 : sI S5 (100 * g + 0) = nI fd0) (mfd0 : fd0 < 2 ^ 20) (b2 : fd0 = 4) (ht1 : sI S5 6151 = nI t1) (mt1 : t1 < 20481) (b3 : 1 ≤ t1) (hz5 : (sS S5)[g1 - 108]? = some (13, zg1)) (hv1 : sV S5 (100 * g1 + 2) = .ref r) (hg1 : isK S5 r 0 N) (mN : N < 2 ^ 20) (b4 : a1 < N) (he : sA (wI 6151 (nI (t1 - 1)) S5) r a1 = nI e) (me : e < 2 ^ 20) (hv2 : sV S5 (100 * g1 + 4) = .ref r1) (hg2 : isK S5 r1 1 N1) (mN1 : N1 < 2 ^ 20) (b5 : a1 < N1) (hv3 : sV S5 (100 * g1 + 5) = .ref r2) (hg3 : isK S5 r2 1 N2) (mN2 : N2 < 2 ^ 20) (b6 : a1 < N2) (c6 : Ans (d + 8) 352 [.ref 61, .int (nI e), .long (sL (wI 6151 (nI (t1 - 1)) S5) r1 a1), .long (sL (wI 6151 (nI (t1 - 1)) S5) r2 a1)] (wI 6151 (nI (t1 - 1)) S5) none S6) : Bod (d + 8) 412 0 [(0, .ref 61), (1, .int (nI nm))] [] S (some (.int 1)) (S6) := by
  refine Bod.go dc_412_0 rfl ?_
  refine Bod.get dc_412_1 fr_412_493 (mk_61 _) rfl ?_
  refine Bod.eqI (nI t) (by first | assumption | rfl | exact congrArg nI (by omega) | (simp (disch := omega) only [rI, rIe, rA, rIA, rLA, rJA, rVI, rQI, rVA, rQA, upd_at,  rAI, rLI, rJI, nI_add, pk_sub, kc_0, kc_1, kc_2, kc_3, kc_4, kc_5, reduceIte, Nat.reduceEqDiff, Nat.add_zero, rI_hold, rI_hold, rL_hold, ht]; done)) ?_
  refine Bod.ic 1 (by decide) dc_412_4 ?_
  refine Bod.subN (t - 1) (by omega) (by omega) dc_412_5 ?_
  refine Bod.istn dc_412_6 (by rw [ml_412]; exact Nat.le_of_ble_eq_true rfl) ?_
  refine Bod.go dc_412_7 rfl ?_
  refine Bod.go dc_412_8 rfl ?_
  refine Bod.ic 5 (by decide) dc_412_9 ?_
  refine Bod.virt (r := []) dc_412_10 kr_412_683 ⟨Or.inl rfl, ow_363, cl_14⟩ (by rw [np_363]; rfl) (by rw [np_363]; rfl) (ob_of (mk_61 _)) (Nat.le_of_ble_eq_true rfl) (c1  ) ?_
  show Bod _ _ _ _ [_] _ _ _
  refine Bod.ifF dc_412_13 rfl (k1_ne_F (k_eq 0 0 rfl rfl (by omega))) ?_
  refine Bod.go dc_412_16 rfl ?_
  refine Bod.go dc_412_17 rfl ?_
  refine Bod.ic 4 (by decide) dc_412_18 ?_
  refine Bod.virt (r := []) dc_412_19 kr_412_683 ⟨Or.inl rfl, ow_363, cl_14⟩ (by rw [np_363]; rfl) (by rw [np_363]; rfl) (ob_of (mk_61 _)) (Nat.le_of_ble_eq_true rfl) (c2  ) ?_
  show Bod _ _ _ _ [_] _ _ _
  refine Bod.ifT dc_412_22 rfl (k1_ne_T (k_ne 1 0 rfl rfl (by omega) (by omega) (by omega))) ?_
  refine Bod.go dc_412_31 rfl ?_
  refine Bod.get dc_412_32 fr_412_499 (mk_61 _) rfl ?_
  refine Bod.go dc_412_35 rfl ?_
  refine Bod.laldN (t - 1) rfl (by omega) (by omega) dc_412_36 (mk_92 _) ?_
  refine Bod.go dc_412_37 rfl ?_
  refine Bod.eqI (nI o) (by first | exact ho | (simp only [rI, rIe, rA, rIA, rLA, rJA, rVI, rQI, rVA, rQA, upd_at,  rAI, rLI, rJI, nI_add, pk_sub, kc_0, kc_1, kc_2, kc_3, kc_4, kc_5, reduceIte, Nat.reduceEqDiff, Nat.add_zero, rI_hold, rI_hold, rL_hold]; exact ho)) ?_
  refine Bod.istn dc_412_38 (by rw [ml_412]; exact Nat.le_of_ble_eq_true rfl) ?_
  refine Bod.go dc_412_39 rfl ?_
  refine Bod.get dc_412_40 fr_412_485 (mk_61 _) rfl ?_
  refine Bod.go dc_412_43 rfl ?_
  refine Bod.aaldR (N := 1500) (b := g) o rfl (by omega) (by omega) (by first | exact hq3 | (simp only [rIQ, rJQ, rAQ, rLQ, rVQ, rQ_holdE]; exact hq3)) dc_412_44 (mk_86 _) ht_5 ?_
  refine Bod.ast dc_412_45 (by rw [ml_412]; exact Nat.le_of_ble_eq_true rfl) ?_
  refine Bod.go dc_412_47 rfl ?_
  refine Bod.ic 0 (by decide) dc_412_49 ?_
  refine Bod.go dc_412_50 rfl ?_
  refine Bod.go dc_412_51 rfl ?_
  refine Bod.go dc_412_52 rfl ?_
  refine Bod.virt (r := []) dc_412_53 kr_412_764 ⟨Or.inl rfl, ow_399, cl_13⟩ (by rw [np_399]; rfl) (by rw [np_399]; rfl) (ob_of (mk_thing ag (by first | exact hz1 | (simp only [rIS, rJS, rAS, rLS, rVS, rQS, rS_hold]; exact hz1)))) (Nat.le_of_ble_eq_true rfl) (c3  ) ?_
  show Bod _ _ _ _ [_] _ _ _
  refine Bod.ist dc_412_56 (by rw [ml_412]; exact Nat.le_of_ble_eq_true rfl) ?_
  refine Bod.go dc_412_58 rfl ?_
  refine Bod.ifT dc_412_60 rfl (by decide) ?_
  refine Bod.go dc_412_67 rfl ?_
  refine Bod.go dc_412_68 rfl ?_
  refine Bod.get dc_412_70 fr_412_472 (mk_thing ag (by first | exact hz2 | (simp only [rIS, rJS, rAS, rLS, rVS, rQS, rS_hold]; exact hz2))) rfl ?_
  refine Bod.eqI (nI fd11) (by first | assumption | (simp (disch := omega) only [rI, rIe, rA, rIA, rLA, rJA, rVI, rQI, rVA, rQA, upd_at,  rAI, rLI, rJI, nI_add, pk_sub, kc_0, kc_1, kc_2, kc_3, kc_4, kc_5, reduceIte, Nat.reduceEqDiff, Nat.add_zero, rI_hold, rI_hold, rL_hold, ht, hfd11]; done) | (simp (disch := omega) only [rI, rIe, rA, rIA, rLA, rJA, rVI, rQI, rVA, rQA, upd_at,  rAI, rLI, rJI, nI_add, pk_sub, kc_0, kc_1, kc_2, kc_3, kc_4, kc_5, reduceIte, Nat.reduceEqDiff, Nat.add_zero, rI_hold, rI_hold, rL_hold, ht, hfd11]; exact congrArg nI (by omega))) ?_
  refine Bod.go dc_412_73 rfl ?_
  refine Bod.virt (r := []) dc_412_74 kr_412_777 ⟨Or.inl rfl, ow_398, cl_14⟩ (by rw [np_398]; rfl) (by rw [np_398]; rfl) (ob_of (mk_61 _)) (Nat.le_of_ble_eq_true rfl) (c4  ) ?_
  show Bod _ _ _ _ [_] _ _ _
  refine Bod.ist dc_412_77 (by rw [ml_412]; exact Nat.le_of_ble_eq_true rfl) ?_
  refine Bod.go dc_412_79 rfl ?_
  refine Bod.ifT dc_412_81 rfl (k1_ge_T a rfl (by omega)) ?_
  refine Bod.go dc_412_91 rfl ?_
  refine Bod.get dc_412_92 fr_412_485 (mk_61 _) rfl ?_
  refine Bod.go dc_412_95 rfl ?_
  refine Bod.aaldR (N := 1500) (b := g1) a rfl (by omega) (by omega) (by first | exact hq7 | (simp only [rIQ, rJQ, rAQ, rLQ, rVQ, rQ_holdE]; exact hq7)) dc_412_97 (mk_86 _) ht_5 ?_
  refine Bod.ast dc_412_98 (by rw [ml_412]; exact Nat.le_of_ble_eq_true rfl) ?_
  refine Bod.go dc_412_100 rfl ?_
  refine Bod.ic 0 (by decide) dc_412_102 ?_
  refine Bod.go dc_412_103 rfl ?_
  refine Bod.go dc_412_104 rfl ?_
  refine Bod.go dc_412_105 rfl ?_
  refine Bod.virt (r := []) dc_412_106 kr_412_764 ⟨Or.inl rfl, ow_399, cl_13⟩ (by rw [np_399]; rfl) (by rw [np_399]; rfl) (ob_of (mk_thing ag1 (by first | exact hz3 | (simp only [rIS, rJS, rAS, rLS, rVS, rQS, rS_hold]; exact hz3)))) (Nat.le_of_ble_eq_true rfl) (c5  ) ?_
  show Bod _ _ _ _ [_] _ _ _
  refine Bod.ist dc_412_109 (by rw [ml_412]; exact Nat.le_of_ble_eq_true rfl) ?_
  refine Bod.go dc_412_111 rfl ?_
  refine Bod.get dc_412_113 fr_412_531 (mk_thing ag (by first | exact hz4 | (simp only [rIS, rJS, rAS, rLS, rVS, rQS, rS_hold]; exact hz4))) rfl ?_
  refine Bod.eqI (nI fd0) (by first | assumption | (simp (disch := omega) only [rI, rIe, rA, rIA, rLA, rJA, rVI, rQI, rVA, rQA, upd_at,  rAI, rLI, rJI, nI_add, pk_sub, kc_0, kc_1, kc_2, kc_3, kc_4, kc_5, reduceIte, Nat.reduceEqDiff, Nat.add_zero, rI_hold, rI_hold, rL_hold, ht, hfd11, hfd0]; done) | (simp (disch := omega) only [rI, rIe, rA, rIA, rLA, rJA, rVI, rQI, rVA, rQA, upd_at,  rAI, rLI, rJI, nI_add, pk_sub, kc_0, kc_1, kc_2, kc_3, kc_4, kc_5, reduceIte, Nat.reduceEqDiff, Nat.add_zero, rI_hold, rI_hold, rL_hold, ht, hfd11, hfd0]; exact congrArg nI (by omega))) ?_
  refine Bod.ic 4 (by decide) dc_412_116 ?_
  refine Bod.icT dc_412_117 rfl (k2_eq_T (k_eq fd0 4 rfl rfl (by omega))) ?_
  refine Bod.go dc_412_158 rfl ?_
  refine Bod.go dc_412_159 rfl ?_
  refine Bod.get dc_412_160 fr_412_493 (mk_61 _) rfl ?_
  refine Bod.eqI (nI t1) (by first | assumption | (simp (disch := omega) only [rI, rIe, rA, rIA, rLA, rJA, rVI, rQI, rVA, rQA, upd_at,  rAI, rLI, rJI, nI_add, pk_sub, kc_0, kc_1, kc_2, kc_3, kc_4, kc_5, reduceIte, Nat.reduceEqDiff, Nat.add_zero, rI_hold, rI_hold, rL_hold, ht, hfd11, hfd0, ht1]; done) | (simp (disch := omega) only [rI, rIe, rA, rIA, rLA, rJA, rVI, rQI, rVA, rQA, upd_at,  rAI, rLI, rJI, nI_add, pk_sub, kc_0, kc_1, kc_2, kc_3, kc_4, kc_5, reduceIte, Nat.reduceEqDiff, Nat.add_zero, rI_hold, rI_hold, rL_hold, ht, hfd11, hfd0, ht1]; exact congrArg nI (by omega))) ?_
  refine Bod.ic 1 (by decide) dc_412_163 ?_
  refine Bod.subN (t1 - 1) (by omega) (by omega) dc_412_164 ?_
  refine Bod.put dc_412_165 fr_412_493 (mk_61 _) (Nat.le_of_ble_eq_true rfl) pf_14_51 (st_6151 _ _) (mu_I _ _ _) ?_
  refine Bod.go dc_412_168 rfl ?_
  refine Bod.go dc_412_169 rfl ?_
  refine Bod.get dc_412_171 fr_412_462 (mk_thing ag1 (by first | exact hz5 | (simp only [rIS, rJS, rAS, rLS, rVS, rQS, rS_hold]; exact hz5))) rfl ?_
  refine Bod.eqV (.ref r) (by first | exact hv1 | (simp only [rIV, rJV, rAV, rLV, rQV, rV, reduceIte, Nat.reduceEqDiff]; exact hv1)) ?_
  refine Bod.go dc_412_174 rfl ?_
  refine Bod.ialdN (N := N) a1 rfl (by omega) (by omega) dc_412_176 (mk_isI (by first | exact hg1 | exact isK_S (by simp only [rIS, rJS, rAS, rLS, rVS, rQS, rS_hold]) hg1)) ?_
  refine Bod.eqI (nI e) (by first | assumption | (simp (disch := omega) only [rI, rIe, rA, rIA, rLA, rJA, rVI, rQI, rVA, rQA, upd_at,  rAI, rLI, rJI, nI_add, pk_sub, kc_0, kc_1, kc_2, kc_3, kc_4, kc_5, reduceIte, Nat.reduceEqDiff, Nat.add_zero, rI_hold, rI_hold, rL_hold, ht, hfd11, hfd0, ht1, he]; done) | (simp (disch := omega) only [rI, rIe, rA, rIA, rLA, rJA, rVI, rQI, rVA, rQA, upd_at,  rAI, rLI, rJI, nI_add, pk_sub, kc_0, kc_1, kc_2, kc_3, kc_4, kc_5, reduceIte, Nat.reduceEqDiff, Nat.add_zero, rI_hold, rI_hold, rL_hold, ht, hfd11, hfd0, ht1, he]; exact congrArg nI (by omega))) ?_
  refine Bod.go dc_412_177 rfl ?_
  refine Bod.get dc_412_179 fr_412_465 (mk_thing ag1 (by first | exact hz5 | (simp only [rIS, rJS, rAS, rLS, rVS, rQS, rS_hold]; exact hz5))) rfl ?_
  refine Bod.eqV (.ref r1) (by first | exact hv2 | (simp only [rIV, rJV, rAV, rLV, rQV, rV, reduceIte, Nat.reduceEqDiff]; exact hv2)) ?_
  refine Bod.go dc_412_182 rfl ?_
  refine Bod.laldN (N := N1) a1 rfl (by omega) (by omega) dc_412_184 (mk_isL (by first | exact hg2 | exact isK_S (by simp only [rIS, rJS, rAS, rLS, rVS, rQS, rS_hold]) hg2)) ?_
  refine Bod.go dc_412_185 rfl ?_
  refine Bod.get dc_412_187 fr_412_627 (mk_thing ag1 (by first | exact hz5 | (simp only [rIS, rJS, rAS, rLS, rVS, rQS, rS_hold]; exact hz5))) rfl ?_
  refine Bod.eqV (.ref r2) (by first | exact hv3 | (simp only [rIV, rJV, rAV, rLV, rQV, rV, reduceIte, Nat.reduceEqDiff]; exact hv3)) ?_
  refine Bod.go dc_412_190 rfl ?_
  refine Bod.laldN (N := N2) a1 rfl (by omega) (by omega) dc_412_192 (mk_isL (by first | exact hg3 | exact isK_S (by simp only [rIS, rJS, rAS, rLS, rVS, rQS, rS_hold]) hg3)) ?_
  refine Bod.virt (r := []) dc_412_193 kr_412_549 ⟨Or.inl rfl, ow_352, cl_14⟩ (by rw [np_352]; rfl) (by rw [np_352]; rfl) (ob_of (mk_61 _)) (Nat.le_of_ble_eq_true rfl) (c6  ) ?_
  show Bod _ _ _ _ [] _ _ _
  refine Bod.ic 1 (by decide) dc_412_196 ?_
  exact Bod.retZ dc_412_197 rt_412 (Or.inr rfl)
theorem rGa_18 {d : Nat} {S : cS} {nm : Nat} {t : Nat} {S1 : cS} {S2 : cS} {o : Nat} {g : Nat} {zg : Nat} {S3 : cS} {fd11 : Nat} {S4 : cS} {a : Nat} {g1 : Nat} {zg1 : Nat} {S5 : cS} {a1 : Nat} {fd0 : Nat} {r : Nat} {N : Nat} {e : Nat} {t1 : Nat} {r1 : Nat} {N1 : Nat} {r2 : Nat} {N2 : Nat} {S6 : cS} (mnm : nm < 2 ^ 20) (ht : sI S 6151 = nI t) (mt : t < 20481) (b1 : 1 ≤ t) (c1 : Ans (d + 8) 363 [.ref 61, .int (nI (t - 1)), .int (nI 5)] S (some (.int (nI 0))) S1) (c2 : Ans (d + 8) 363 [.ref 61, .int (nI (t - 1)), .int (nI 4)] S1 (some (.int (nI 1))) S2) (ho : (sL S2 92 (t - 1)).toInt32 = nI o) (mo : o < 1500) (ag : 108 ≤ g) (hq3 : sQ S2 86 o = some g) (c3 : Ans (d + 8) 399 [.ref g, .int (nI 0), .long ((nI nm).toInt64), .long 0] S2 (some (.int (Int32.ofInt (-1)))) S3) (hz1 : (sS S2)[g - 108]? = some (13, zg)) (hz2 : (sS S3)[g - 108]? = some (13, zg)) (hfd11 : sI S3 (100 * g + 11) = nI fd11) (mfd11 : fd11 < 2 ^ 20) (ma : a < 1500) (c4 : Ans (d + 8) 398 [.ref 61, .int (nI fd11), .int (nI nm)] S3 (some (.int (nI a))) S4) (ag1 : 108 ≤ g1) (hq7 : sQ S4 86 a = some g1) (ma1 : a1 < 2 ^ 20) (c5 : Ans (d + 8) 399 [.ref g1, .int (nI 0), .long ((nI nm).toInt64), .long 0] S4 (some (.int (nI a1))) S5) (hz3 : (sS S4)[g1 - 108]? = some (13, zg1)) (hz4 : (sS S5)[g - 108]? = some (13, zg)) (hfd0 : sI S5 (100 * g + 0) = nI fd0) (mfd0 : fd0 < 2 ^ 20) (b2 : fd0 ≠ 4) (hz5 : (sS S5)[g1 - 108]? = some (13, zg1)) (hv1 : sV S5 (100 * g1 + 2) = .ref r) (hg1 : isK S5 r 0 N) (mN : N < 2 ^ 20) (b3 : a1 < N) (he : sA S5 r a1 = nI e) (me : e < 2 ^ 20) (b4 : e ≠ 3) (ht1 : sI S5 6151 = nI t1) (mt1 : t1 < 20481) (b5 : 1 ≤ t1) (hv2 : sV S5 (100 * g1 + 4) = .ref r1) (hg2 : isK S5 r1 1 N1) (mN1 : N1 < 2 ^ 20) (b6 : a1 < N1) (hv3 : sV S5 (100 * g1 + 5) = .ref r2) (hg3 : isK S5 r2 1 N2) (mN2 : N2 < 2 ^ 20) (b7 : a1 < N2) (c6 : Ans (d + 8) 352 [.ref 61, .int (nI e), .long (sL (wI 6151 (nI (t1 - 1)) S5) r1 a1), .long (sL (wI 6151 (nI (t1 - 1)) S5) r2 a1)] (wI 6151 (nI (t1 - 1)) S5) none S6) : Bod (d + 8) 412 0 [(0, .ref 61), (1, .int (nI nm))] [] S (some (.int 1)) (S6) := by
  refine Bod.go dc_412_0 rfl ?_
  refine Bod.get dc_412_1 fr_412_493 (mk_61 _) rfl ?_
  refine Bod.eqI (nI t) (by first | assumption | rfl | exact congrArg nI (by omega) | (simp (disch := omega) only [rI, rIe, rA, rIA, rLA, rJA, rVI, rQI, rVA, rQA, upd_at,  rAI, rLI, rJI, nI_add, pk_sub, kc_0, kc_1, kc_2, kc_3, kc_4, kc_5, reduceIte, Nat.reduceEqDiff, Nat.add_zero, rI_hold, rI_hold, rL_hold, ht]; done)) ?_
  refine Bod.ic 1 (by decide) dc_412_4 ?_
  refine Bod.subN (t - 1) (by omega) (by omega) dc_412_5 ?_
  refine Bod.istn dc_412_6 (by rw [ml_412]; exact Nat.le_of_ble_eq_true rfl) ?_
  refine Bod.go dc_412_7 rfl ?_
  refine Bod.go dc_412_8 rfl ?_
  refine Bod.ic 5 (by decide) dc_412_9 ?_
  refine Bod.virt (r := []) dc_412_10 kr_412_683 ⟨Or.inl rfl, ow_363, cl_14⟩ (by rw [np_363]; rfl) (by rw [np_363]; rfl) (ob_of (mk_61 _)) (Nat.le_of_ble_eq_true rfl) (c1  ) ?_
  show Bod _ _ _ _ [_] _ _ _
  refine Bod.ifF dc_412_13 rfl (k1_ne_F (k_eq 0 0 rfl rfl (by omega))) ?_
  refine Bod.go dc_412_16 rfl ?_
  refine Bod.go dc_412_17 rfl ?_
  refine Bod.ic 4 (by decide) dc_412_18 ?_
  refine Bod.virt (r := []) dc_412_19 kr_412_683 ⟨Or.inl rfl, ow_363, cl_14⟩ (by rw [np_363]; rfl) (by rw [np_363]; rfl) (ob_of (mk_61 _)) (Nat.le_of_ble_eq_true rfl) (c2  ) ?_
  show Bod _ _ _ _ [_] _ _ _
  refine Bod.ifT dc_412_22 rfl (k1_ne_T (k_ne 1 0 rfl rfl (by omega) (by omega) (by omega))) ?_
  refine Bod.go dc_412_31 rfl ?_
  refine Bod.get dc_412_32 fr_412_499 (mk_61 _) rfl ?_
  refine Bod.go dc_412_35 rfl ?_
  refine Bod.laldN (t - 1) rfl (by omega) (by omega) dc_412_36 (mk_92 _) ?_
  refine Bod.go dc_412_37 rfl ?_
  refine Bod.eqI (nI o) (by first | exact ho | (simp only [rI, rIe, rA, rIA, rLA, rJA, rVI, rQI, rVA, rQA, upd_at,  rAI, rLI, rJI, nI_add, pk_sub, kc_0, kc_1, kc_2, kc_3, kc_4, kc_5, reduceIte, Nat.reduceEqDiff, Nat.add_zero, rI_hold, rI_hold, rL_hold]; exact ho)) ?_
  refine Bod.istn dc_412_38 (by rw [ml_412]; exact Nat.le_of_ble_eq_true rfl) ?_
  refine Bod.go dc_412_39 rfl ?_
  refine Bod.get dc_412_40 fr_412_485 (mk_61 _) rfl ?_
  refine Bod.go dc_412_43 rfl ?_
  refine Bod.aaldR (N := 1500) (b := g) o rfl (by omega) (by omega) (by first | exact hq3 | (simp only [rIQ, rJQ, rAQ, rLQ, rVQ, rQ_holdE]; exact hq3)) dc_412_44 (mk_86 _) ht_5 ?_
  refine Bod.ast dc_412_45 (by rw [ml_412]; exact Nat.le_of_ble_eq_true rfl) ?_
  refine Bod.go dc_412_47 rfl ?_
  refine Bod.ic 0 (by decide) dc_412_49 ?_
  refine Bod.go dc_412_50 rfl ?_
  refine Bod.go dc_412_51 rfl ?_
  refine Bod.go dc_412_52 rfl ?_
  refine Bod.virt (r := []) dc_412_53 kr_412_764 ⟨Or.inl rfl, ow_399, cl_13⟩ (by rw [np_399]; rfl) (by rw [np_399]; rfl) (ob_of (mk_thing ag (by first | exact hz1 | (simp only [rIS, rJS, rAS, rLS, rVS, rQS, rS_hold]; exact hz1)))) (Nat.le_of_ble_eq_true rfl) (c3  ) ?_
  show Bod _ _ _ _ [_] _ _ _
  refine Bod.ist dc_412_56 (by rw [ml_412]; exact Nat.le_of_ble_eq_true rfl) ?_
  refine Bod.go dc_412_58 rfl ?_
  refine Bod.ifT dc_412_60 rfl (by decide) ?_
  refine Bod.go dc_412_67 rfl ?_
  refine Bod.go dc_412_68 rfl ?_
  refine Bod.get dc_412_70 fr_412_472 (mk_thing ag (by first | exact hz2 | (simp only [rIS, rJS, rAS, rLS, rVS, rQS, rS_hold]; exact hz2))) rfl ?_
  refine Bod.eqI (nI fd11) (by first | assumption | (simp (disch := omega) only [rI, rIe, rA, rIA, rLA, rJA, rVI, rQI, rVA, rQA, upd_at,  rAI, rLI, rJI, nI_add, pk_sub, kc_0, kc_1, kc_2, kc_3, kc_4, kc_5, reduceIte, Nat.reduceEqDiff, Nat.add_zero, rI_hold, rI_hold, rL_hold, ht, hfd11]; done) | (simp (disch := omega) only [rI, rIe, rA, rIA, rLA, rJA, rVI, rQI, rVA, rQA, upd_at,  rAI, rLI, rJI, nI_add, pk_sub, kc_0, kc_1, kc_2, kc_3, kc_4, kc_5, reduceIte, Nat.reduceEqDiff, Nat.add_zero, rI_hold, rI_hold, rL_hold, ht, hfd11]; exact congrArg nI (by omega))) ?_
  refine Bod.go dc_412_73 rfl ?_
  refine Bod.virt (r := []) dc_412_74 kr_412_777 ⟨Or.inl rfl, ow_398, cl_14⟩ (by rw [np_398]; rfl) (by rw [np_398]; rfl) (ob_of (mk_61 _)) (Nat.le_of_ble_eq_true rfl) (c4  ) ?_
  show Bod _ _ _ _ [_] _ _ _
  refine Bod.ist dc_412_77 (by rw [ml_412]; exact Nat.le_of_ble_eq_true rfl) ?_
  refine Bod.go dc_412_79 rfl ?_
  refine Bod.ifT dc_412_81 rfl (k1_ge_T a rfl (by omega)) ?_
  refine Bod.go dc_412_91 rfl ?_
  refine Bod.get dc_412_92 fr_412_485 (mk_61 _) rfl ?_
  refine Bod.go dc_412_95 rfl ?_
  refine Bod.aaldR (N := 1500) (b := g1) a rfl (by omega) (by omega) (by first | exact hq7 | (simp only [rIQ, rJQ, rAQ, rLQ, rVQ, rQ_holdE]; exact hq7)) dc_412_97 (mk_86 _) ht_5 ?_
  refine Bod.ast dc_412_98 (by rw [ml_412]; exact Nat.le_of_ble_eq_true rfl) ?_
  refine Bod.go dc_412_100 rfl ?_
  refine Bod.ic 0 (by decide) dc_412_102 ?_
  refine Bod.go dc_412_103 rfl ?_
  refine Bod.go dc_412_104 rfl ?_
  refine Bod.go dc_412_105 rfl ?_
  refine Bod.virt (r := []) dc_412_106 kr_412_764 ⟨Or.inl rfl, ow_399, cl_13⟩ (by rw [np_399]; rfl) (by rw [np_399]; rfl) (ob_of (mk_thing ag1 (by first | exact hz3 | (simp only [rIS, rJS, rAS, rLS, rVS, rQS, rS_hold]; exact hz3)))) (Nat.le_of_ble_eq_true rfl) (c5  ) ?_
  show Bod _ _ _ _ [_] _ _ _
  refine Bod.ist dc_412_109 (by rw [ml_412]; exact Nat.le_of_ble_eq_true rfl) ?_
  refine Bod.go dc_412_111 rfl ?_
  refine Bod.get dc_412_113 fr_412_531 (mk_thing ag (by first | exact hz4 | (simp only [rIS, rJS, rAS, rLS, rVS, rQS, rS_hold]; exact hz4))) rfl ?_
  refine Bod.eqI (nI fd0) (by first | assumption | (simp (disch := omega) only [rI, rIe, rA, rIA, rLA, rJA, rVI, rQI, rVA, rQA, upd_at,  rAI, rLI, rJI, nI_add, pk_sub, kc_0, kc_1, kc_2, kc_3, kc_4, kc_5, reduceIte, Nat.reduceEqDiff, Nat.add_zero, rI_hold, rI_hold, rL_hold, ht, hfd11, hfd0]; done) | (simp (disch := omega) only [rI, rIe, rA, rIA, rLA, rJA, rVI, rQI, rVA, rQA, upd_at,  rAI, rLI, rJI, nI_add, pk_sub, kc_0, kc_1, kc_2, kc_3, kc_4, kc_5, reduceIte, Nat.reduceEqDiff, Nat.add_zero, rI_hold, rI_hold, rL_hold, ht, hfd11, hfd0]; exact congrArg nI (by omega))) ?_
  refine Bod.ic 4 (by decide) dc_412_116 ?_
  refine Bod.icF dc_412_117 rfl (k2_eq_F (k_ne fd0 4 rfl rfl (by omega) (by omega) (by omega))) ?_
  refine Bod.go dc_412_120 rfl ?_
  refine Bod.ifF dc_412_122 rfl (by decide) ?_
  refine Bod.go dc_412_125 rfl ?_
  refine Bod.get dc_412_127 fr_412_462 (mk_thing ag1 (by first | exact hz5 | (simp only [rIS, rJS, rAS, rLS, rVS, rQS, rS_hold]; exact hz5))) rfl ?_
  refine Bod.eqV (.ref r) (by first | exact hv1 | (simp only [rIV, rJV, rAV, rLV, rQV, rV, reduceIte, Nat.reduceEqDiff]; exact hv1)) ?_
  refine Bod.go dc_412_130 rfl ?_
  refine Bod.ialdN (N := N) a1 rfl (by omega) (by omega) dc_412_132 (mk_isI (by first | exact hg1 | exact isK_S (by simp only [rIS, rJS, rAS, rLS, rVS, rQS, rS_hold]) hg1)) ?_
  refine Bod.eqI (nI e) (by first | assumption | (simp (disch := omega) only [rI, rIe, rA, rIA, rLA, rJA, rVI, rQI, rVA, rQA, upd_at,  rAI, rLI, rJI, nI_add, pk_sub, kc_0, kc_1, kc_2, kc_3, kc_4, kc_5, reduceIte, Nat.reduceEqDiff, Nat.add_zero, rI_hold, rI_hold, rL_hold, ht, hfd11, hfd0, he]; done) | (simp (disch := omega) only [rI, rIe, rA, rIA, rLA, rJA, rVI, rQI, rVA, rQA, upd_at,  rAI, rLI, rJI, nI_add, pk_sub, kc_0, kc_1, kc_2, kc_3, kc_4, kc_5, reduceIte, Nat.reduceEqDiff, Nat.add_zero, rI_hold, rI_hold, rL_hold, ht, hfd11, hfd0, he]; exact congrArg nI (by omega))) ?_
  refine Bod.ic 3 (by decide) dc_412_133 ?_
  refine Bod.icT dc_412_134 rfl (k2_ne_T (k_ne e 3 rfl rfl (by omega) (by omega) (by omega))) ?_
  refine Bod.go dc_412_158 rfl ?_
  refine Bod.go dc_412_159 rfl ?_
  refine Bod.get dc_412_160 fr_412_493 (mk_61 _) rfl ?_
  refine Bod.eqI (nI t1) (by first | assumption | (simp (disch := omega) only [rI, rIe, rA, rIA, rLA, rJA, rVI, rQI, rVA, rQA, upd_at,  rAI, rLI, rJI, nI_add, pk_sub, kc_0, kc_1, kc_2, kc_3, kc_4, kc_5, reduceIte, Nat.reduceEqDiff, Nat.add_zero, rI_hold, rI_hold, rL_hold, ht, hfd11, hfd0, he, ht1]; done) | (simp (disch := omega) only [rI, rIe, rA, rIA, rLA, rJA, rVI, rQI, rVA, rQA, upd_at,  rAI, rLI, rJI, nI_add, pk_sub, kc_0, kc_1, kc_2, kc_3, kc_4, kc_5, reduceIte, Nat.reduceEqDiff, Nat.add_zero, rI_hold, rI_hold, rL_hold, ht, hfd11, hfd0, he, ht1]; exact congrArg nI (by omega))) ?_
  refine Bod.ic 1 (by decide) dc_412_163 ?_
  refine Bod.subN (t1 - 1) (by omega) (by omega) dc_412_164 ?_
  refine Bod.put dc_412_165 fr_412_493 (mk_61 _) (Nat.le_of_ble_eq_true rfl) pf_14_51 (st_6151 _ _) (mu_I _ _ _) ?_
  refine Bod.go dc_412_168 rfl ?_
  refine Bod.go dc_412_169 rfl ?_
  refine Bod.get dc_412_171 fr_412_462 (mk_thing ag1 (by first | exact hz5 | (simp only [rIS, rJS, rAS, rLS, rVS, rQS, rS_hold]; exact hz5))) rfl ?_
  refine Bod.eqV (.ref r) (by first | exact hv1 | (simp only [rIV, rJV, rAV, rLV, rQV, rV, reduceIte, Nat.reduceEqDiff]; exact hv1)) ?_
  refine Bod.go dc_412_174 rfl ?_
  refine Bod.ialdN (N := N) a1 rfl (by omega) (by omega) dc_412_176 (mk_isI (by first | exact hg1 | exact isK_S (by simp only [rIS, rJS, rAS, rLS, rVS, rQS, rS_hold]) hg1)) ?_
  refine Bod.eqI (nI e) (by first | assumption | (simp (disch := omega) only [rI, rIe, rA, rIA, rLA, rJA, rVI, rQI, rVA, rQA, upd_at,  rAI, rLI, rJI, nI_add, pk_sub, kc_0, kc_1, kc_2, kc_3, kc_4, kc_5, reduceIte, Nat.reduceEqDiff, Nat.add_zero, rI_hold, rI_hold, rL_hold, ht, hfd11, hfd0, he, ht1]; done) | (simp (disch := omega) only [rI, rIe, rA, rIA, rLA, rJA, rVI, rQI, rVA, rQA, upd_at,  rAI, rLI, rJI, nI_add, pk_sub, kc_0, kc_1, kc_2, kc_3, kc_4, kc_5, reduceIte, Nat.reduceEqDiff, Nat.add_zero, rI_hold, rI_hold, rL_hold, ht, hfd11, hfd0, he, ht1]; exact congrArg nI (by omega))) ?_
  refine Bod.go dc_412_177 rfl ?_
  refine Bod.get dc_412_179 fr_412_465 (mk_thing ag1 (by first | exact hz5 | (simp only [rIS, rJS, rAS, rLS, rVS, rQS, rS_hold]; exact hz5))) rfl ?_
  refine Bod.eqV (.ref r1) (by first | exact hv2 | (simp only [rIV, rJV, rAV, rLV, rQV, rV, reduceIte, Nat.reduceEqDiff]; exact hv2)) ?_
  refine Bod.go dc_412_182 rfl ?_
  refine Bod.laldN (N := N1) a1 rfl (by omega) (by omega) dc_412_184 (mk_isL (by first | exact hg2 | exact isK_S (by simp only [rIS, rJS, rAS, rLS, rVS, rQS, rS_hold]) hg2)) ?_
  refine Bod.go dc_412_185 rfl ?_
  refine Bod.get dc_412_187 fr_412_627 (mk_thing ag1 (by first | exact hz5 | (simp only [rIS, rJS, rAS, rLS, rVS, rQS, rS_hold]; exact hz5))) rfl ?_
  refine Bod.eqV (.ref r2) (by first | exact hv3 | (simp only [rIV, rJV, rAV, rLV, rQV, rV, reduceIte, Nat.reduceEqDiff]; exact hv3)) ?_
  refine Bod.go dc_412_190 rfl ?_
  refine Bod.laldN (N := N2) a1 rfl (by omega) (by omega) dc_412_192 (mk_isL (by first | exact hg3 | exact isK_S (by simp only [rIS, rJS, rAS, rLS, rVS, rQS, rS_hold]) hg3)) ?_
  refine Bod.virt (r := []) dc_412_193 kr_412_549 ⟨Or.inl rfl, ow_352, cl_14⟩ (by rw [np_352]; rfl) (by rw [np_352]; rfl) (ob_of (mk_61 _)) (Nat.le_of_ble_eq_true rfl) (c6  ) ?_
  show Bod _ _ _ _ [] _ _ _
  refine Bod.ic 1 (by decide) dc_412_196 ?_
  exact Bod.retZ dc_412_197 rt_412 (Or.inr rfl)
theorem rGa_19 {d : Nat} {S : cS} {nm : Nat} {t : Nat} {S1 : cS} {S2 : cS} {o : Nat} {g : Nat} {zg : Nat} {S3 : cS} {fd11 : Nat} {S4 : cS} {a : Nat} {g1 : Nat} {zg1 : Nat} {S5 : cS} {a1 : Nat} {fd0 : Nat} {r : Nat} {N : Nat} {e : Nat} {r1 : Nat} {N1 : Nat} {o1 : Nat} {g2 : Nat} {zg2 : Nat} {fd01 : Nat} {S6 : cS} {a2 : Nat} {g3 : Nat} {zg3 : Nat} {r2 : Nat} {N2 : Nat} {o2 : Nat} {t1 : Nat} {S7 : cS} (mnm : nm < 2 ^ 20) (ht : sI S 6151 = nI t) (mt : t < 20481) (b1 : 1 ≤ t) (c1 : Ans (d + 8) 363 [.ref 61, .int (nI (t - 1)), .int (nI 5)] S (some (.int (nI 0))) S1) (c2 : Ans (d + 8) 363 [.ref 61, .int (nI (t - 1)), .int (nI 4)] S1 (some (.int (nI 1))) S2) (ho : (sL S2 92 (t - 1)).toInt32 = nI o) (mo : o < 1500) (ag : 108 ≤ g) (hq3 : sQ S2 86 o = some g) (c3 : Ans (d + 8) 399 [.ref g, .int (nI 0), .long ((nI nm).toInt64), .long 0] S2 (some (.int (Int32.ofInt (-1)))) S3) (hz1 : (sS S2)[g - 108]? = some (13, zg)) (hz2 : (sS S3)[g - 108]? = some (13, zg)) (hfd11 : sI S3 (100 * g + 11) = nI fd11) (mfd11 : fd11 < 2 ^ 20) (ma : a < 1500) (c4 : Ans (d + 8) 398 [.ref 61, .int (nI fd11), .int (nI nm)] S3 (some (.int (nI a))) S4) (ag1 : 108 ≤ g1) (hq7 : sQ S4 86 a = some g1) (ma1 : a1 < 2 ^ 20) (c5 : Ans (d + 8) 399 [.ref g1, .int (nI 0), .long ((nI nm).toInt64), .long 0] S4 (some (.int (nI a1))) S5) (hz3 : (sS S4)[g1 - 108]? = some (13, zg1)) (hz4 : (sS S5)[g - 108]? = some (13, zg)) (hfd0 : sI S5 (100 * g + 0) = nI fd0) (mfd0 : fd0 < 2 ^ 20) (b2 : fd0 ≠ 4) (hz5 : (sS S5)[g1 - 108]? = some (13, zg1)) (hv1 : sV S5 (100 * g1 + 2) = .ref r) (hg1 : isK S5 r 0 N) (mN : N < 2 ^ 20) (b3 : a1 < N) (he : sA S5 r a1 = nI e) (me : e < 2 ^ 20) (b4 : e = 3) (hv2 : sV S5 (100 * g1 + 4) = .ref r1) (hg2 : isK S5 r1 1 N1) (mN1 : N1 < 2 ^ 20) (b5 : a1 < N1) (ho1 : (sL S5 r1 a1).toInt32 = nI o1) (mo1 : o1 < 1500) (ag2 : 108 ≤ g2) (hq16 : sQ S5 86 o1 = some g2) (hz6 : (sS S5)[g2 - 108]? = some (13, zg2)) (hfd01 : sI S5 (100 * g2 + 0) = nI fd01) (mfd01 : fd01 < 2 ^ 20) (b6 : fd01 = 3) (ma2 : a2 < 1500) (c6 : Ans (d + 8) 364 [.ref 61, .int (nI 6)] S5 (some (.int (nI a2))) S6) (ag3 : 108 ≤ g3) (hq19 : sQ S6 86 a2 = some g3) (hz7 : (sS S6)[g1 - 108]? = some (13, zg1)) (hv3 : sV S6 (100 * g1 + 4) = .ref r2) (hg3 : isK S6 r2 1 N2) (mN2 : N2 < 2 ^ 20) (b7 : a1 < N2) (ho2 : (sL S6 r2 a1).toInt32 = nI o2) (mo2 : o2 < 1500) (hz8 : (sS S6)[g3 - 108]? = some (13, zg3)) (ht1 : sI (wI (100 * g3 + 12) (nI o) (wI (100 * g3 + 11) (nI o2) S6)) 6151 = nI t1) (mt1 : t1 < 20481) (b8 : 1 ≤ t1) (c7 : Ans (d + 8) 352 [.ref 61, .int (nI 3), .long ((nI a2).toInt64), .long 0] (wI 6151 (nI (t1 - 1)) (wI (100 * g3 + 12) (nI o) (wI (100 * g3 + 11) (nI o2) S6))) none S7) : Bod (d + 8) 412 0 [(0, .ref 61), (1, .int (nI nm))] [] S (some (.int 1)) (S7) := by
  refine Bod.go dc_412_0 rfl ?_
  refine Bod.get dc_412_1 fr_412_493 (mk_61 _) rfl ?_
  refine Bod.eqI (nI t) (by first | assumption | rfl | exact congrArg nI (by omega) | (simp (disch := omega) only [rI, rIe, rA, rIA, rLA, rJA, rVI, rQI, rVA, rQA, upd_at,  rAI, rLI, rJI, nI_add, pk_sub, kc_0, kc_1, kc_2, kc_3, kc_4, kc_5, reduceIte, Nat.reduceEqDiff, Nat.add_zero, rI_hold, rI_hold, rL_hold, ht]; done)) ?_
  refine Bod.ic 1 (by decide) dc_412_4 ?_
  refine Bod.subN (t - 1) (by omega) (by omega) dc_412_5 ?_
  refine Bod.istn dc_412_6 (by rw [ml_412]; exact Nat.le_of_ble_eq_true rfl) ?_
  refine Bod.go dc_412_7 rfl ?_
  refine Bod.go dc_412_8 rfl ?_
  refine Bod.ic 5 (by decide) dc_412_9 ?_
  refine Bod.virt (r := []) dc_412_10 kr_412_683 ⟨Or.inl rfl, ow_363, cl_14⟩ (by rw [np_363]; rfl) (by rw [np_363]; rfl) (ob_of (mk_61 _)) (Nat.le_of_ble_eq_true rfl) (c1  ) ?_
  show Bod _ _ _ _ [_] _ _ _
  refine Bod.ifF dc_412_13 rfl (k1_ne_F (k_eq 0 0 rfl rfl (by omega))) ?_
  refine Bod.go dc_412_16 rfl ?_
  refine Bod.go dc_412_17 rfl ?_
  refine Bod.ic 4 (by decide) dc_412_18 ?_
  refine Bod.virt (r := []) dc_412_19 kr_412_683 ⟨Or.inl rfl, ow_363, cl_14⟩ (by rw [np_363]; rfl) (by rw [np_363]; rfl) (ob_of (mk_61 _)) (Nat.le_of_ble_eq_true rfl) (c2  ) ?_
  show Bod _ _ _ _ [_] _ _ _
  refine Bod.ifT dc_412_22 rfl (k1_ne_T (k_ne 1 0 rfl rfl (by omega) (by omega) (by omega))) ?_
  refine Bod.go dc_412_31 rfl ?_
  refine Bod.get dc_412_32 fr_412_499 (mk_61 _) rfl ?_
  refine Bod.go dc_412_35 rfl ?_
  refine Bod.laldN (t - 1) rfl (by omega) (by omega) dc_412_36 (mk_92 _) ?_
  refine Bod.go dc_412_37 rfl ?_
  refine Bod.eqI (nI o) (by first | exact ho | (simp only [rI, rIe, rA, rIA, rLA, rJA, rVI, rQI, rVA, rQA, upd_at,  rAI, rLI, rJI, nI_add, pk_sub, kc_0, kc_1, kc_2, kc_3, kc_4, kc_5, reduceIte, Nat.reduceEqDiff, Nat.add_zero, rI_hold, rI_hold, rL_hold]; exact ho)) ?_
  refine Bod.istn dc_412_38 (by rw [ml_412]; exact Nat.le_of_ble_eq_true rfl) ?_
  refine Bod.go dc_412_39 rfl ?_
  refine Bod.get dc_412_40 fr_412_485 (mk_61 _) rfl ?_
  refine Bod.go dc_412_43 rfl ?_
  refine Bod.aaldR (N := 1500) (b := g) o rfl (by omega) (by omega) (by first | exact hq3 | (simp only [rIQ, rJQ, rAQ, rLQ, rVQ, rQ_holdE]; exact hq3)) dc_412_44 (mk_86 _) ht_5 ?_
  refine Bod.ast dc_412_45 (by rw [ml_412]; exact Nat.le_of_ble_eq_true rfl) ?_
  refine Bod.go dc_412_47 rfl ?_
  refine Bod.ic 0 (by decide) dc_412_49 ?_
  refine Bod.go dc_412_50 rfl ?_
  refine Bod.go dc_412_51 rfl ?_
  refine Bod.go dc_412_52 rfl ?_
  refine Bod.virt (r := []) dc_412_53 kr_412_764 ⟨Or.inl rfl, ow_399, cl_13⟩ (by rw [np_399]; rfl) (by rw [np_399]; rfl) (ob_of (mk_thing ag (by first | exact hz1 | (simp only [rIS, rJS, rAS, rLS, rVS, rQS, rS_hold]; exact hz1)))) (Nat.le_of_ble_eq_true rfl) (c3  ) ?_
  show Bod _ _ _ _ [_] _ _ _
  refine Bod.ist dc_412_56 (by rw [ml_412]; exact Nat.le_of_ble_eq_true rfl) ?_
  refine Bod.go dc_412_58 rfl ?_
  refine Bod.ifT dc_412_60 rfl (by decide) ?_
  refine Bod.go dc_412_67 rfl ?_
  refine Bod.go dc_412_68 rfl ?_
  refine Bod.get dc_412_70 fr_412_472 (mk_thing ag (by first | exact hz2 | (simp only [rIS, rJS, rAS, rLS, rVS, rQS, rS_hold]; exact hz2))) rfl ?_
  refine Bod.eqI (nI fd11) (by first | assumption | (simp (disch := omega) only [rI, rIe, rA, rIA, rLA, rJA, rVI, rQI, rVA, rQA, upd_at,  rAI, rLI, rJI, nI_add, pk_sub, kc_0, kc_1, kc_2, kc_3, kc_4, kc_5, reduceIte, Nat.reduceEqDiff, Nat.add_zero, rI_hold, rI_hold, rL_hold, ht, hfd11]; done) | (simp (disch := omega) only [rI, rIe, rA, rIA, rLA, rJA, rVI, rQI, rVA, rQA, upd_at,  rAI, rLI, rJI, nI_add, pk_sub, kc_0, kc_1, kc_2, kc_3, kc_4, kc_5, reduceIte, Nat.reduceEqDiff, Nat.add_zero, rI_hold, rI_hold, rL_hold, ht, hfd11]; exact congrArg nI (by omega))) ?_
  refine Bod.go dc_412_73 rfl ?_
  refine Bod.virt (r := []) dc_412_74 kr_412_777 ⟨Or.inl rfl, ow_398, cl_14⟩ (by rw [np_398]; rfl) (by rw [np_398]; rfl) (ob_of (mk_61 _)) (Nat.le_of_ble_eq_true rfl) (c4  ) ?_
  show Bod _ _ _ _ [_] _ _ _
  refine Bod.ist dc_412_77 (by rw [ml_412]; exact Nat.le_of_ble_eq_true rfl) ?_
  refine Bod.go dc_412_79 rfl ?_
  refine Bod.ifT dc_412_81 rfl (k1_ge_T a rfl (by omega)) ?_
  refine Bod.go dc_412_91 rfl ?_
  refine Bod.get dc_412_92 fr_412_485 (mk_61 _) rfl ?_
  refine Bod.go dc_412_95 rfl ?_
  refine Bod.aaldR (N := 1500) (b := g1) a rfl (by omega) (by omega) (by first | exact hq7 | (simp only [rIQ, rJQ, rAQ, rLQ, rVQ, rQ_holdE]; exact hq7)) dc_412_97 (mk_86 _) ht_5 ?_
  refine Bod.ast dc_412_98 (by rw [ml_412]; exact Nat.le_of_ble_eq_true rfl) ?_
  refine Bod.go dc_412_100 rfl ?_
  refine Bod.ic 0 (by decide) dc_412_102 ?_
  refine Bod.go dc_412_103 rfl ?_
  refine Bod.go dc_412_104 rfl ?_
  refine Bod.go dc_412_105 rfl ?_
  refine Bod.virt (r := []) dc_412_106 kr_412_764 ⟨Or.inl rfl, ow_399, cl_13⟩ (by rw [np_399]; rfl) (by rw [np_399]; rfl) (ob_of (mk_thing ag1 (by first | exact hz3 | (simp only [rIS, rJS, rAS, rLS, rVS, rQS, rS_hold]; exact hz3)))) (Nat.le_of_ble_eq_true rfl) (c5  ) ?_
  show Bod _ _ _ _ [_] _ _ _
  refine Bod.ist dc_412_109 (by rw [ml_412]; exact Nat.le_of_ble_eq_true rfl) ?_
  refine Bod.go dc_412_111 rfl ?_
  refine Bod.get dc_412_113 fr_412_531 (mk_thing ag (by first | exact hz4 | (simp only [rIS, rJS, rAS, rLS, rVS, rQS, rS_hold]; exact hz4))) rfl ?_
  refine Bod.eqI (nI fd0) (by first | assumption | (simp (disch := omega) only [rI, rIe, rA, rIA, rLA, rJA, rVI, rQI, rVA, rQA, upd_at,  rAI, rLI, rJI, nI_add, pk_sub, kc_0, kc_1, kc_2, kc_3, kc_4, kc_5, reduceIte, Nat.reduceEqDiff, Nat.add_zero, rI_hold, rI_hold, rL_hold, ht, hfd11, hfd0]; done) | (simp (disch := omega) only [rI, rIe, rA, rIA, rLA, rJA, rVI, rQI, rVA, rQA, upd_at,  rAI, rLI, rJI, nI_add, pk_sub, kc_0, kc_1, kc_2, kc_3, kc_4, kc_5, reduceIte, Nat.reduceEqDiff, Nat.add_zero, rI_hold, rI_hold, rL_hold, ht, hfd11, hfd0]; exact congrArg nI (by omega))) ?_
  refine Bod.ic 4 (by decide) dc_412_116 ?_
  refine Bod.icF dc_412_117 rfl (k2_eq_F (k_ne fd0 4 rfl rfl (by omega) (by omega) (by omega))) ?_
  refine Bod.go dc_412_120 rfl ?_
  refine Bod.ifF dc_412_122 rfl (by decide) ?_
  refine Bod.go dc_412_125 rfl ?_
  refine Bod.get dc_412_127 fr_412_462 (mk_thing ag1 (by first | exact hz5 | (simp only [rIS, rJS, rAS, rLS, rVS, rQS, rS_hold]; exact hz5))) rfl ?_
  refine Bod.eqV (.ref r) (by first | exact hv1 | (simp only [rIV, rJV, rAV, rLV, rQV, rV, reduceIte, Nat.reduceEqDiff]; exact hv1)) ?_
  refine Bod.go dc_412_130 rfl ?_
  refine Bod.ialdN (N := N) a1 rfl (by omega) (by omega) dc_412_132 (mk_isI (by first | exact hg1 | exact isK_S (by simp only [rIS, rJS, rAS, rLS, rVS, rQS, rS_hold]) hg1)) ?_
  refine Bod.eqI (nI e) (by first | assumption | (simp (disch := omega) only [rI, rIe, rA, rIA, rLA, rJA, rVI, rQI, rVA, rQA, upd_at,  rAI, rLI, rJI, nI_add, pk_sub, kc_0, kc_1, kc_2, kc_3, kc_4, kc_5, reduceIte, Nat.reduceEqDiff, Nat.add_zero, rI_hold, rI_hold, rL_hold, ht, hfd11, hfd0, he]; done) | (simp (disch := omega) only [rI, rIe, rA, rIA, rLA, rJA, rVI, rQI, rVA, rQA, upd_at,  rAI, rLI, rJI, nI_add, pk_sub, kc_0, kc_1, kc_2, kc_3, kc_4, kc_5, reduceIte, Nat.reduceEqDiff, Nat.add_zero, rI_hold, rI_hold, rL_hold, ht, hfd11, hfd0, he]; exact congrArg nI (by omega))) ?_
  refine Bod.ic 3 (by decide) dc_412_133 ?_
  refine Bod.icF dc_412_134 rfl (k2_ne_F (k_eq e 3 rfl rfl (by omega))) ?_
  refine Bod.go dc_412_137 rfl ?_
  refine Bod.get dc_412_138 fr_412_485 (mk_61 _) rfl ?_
  refine Bod.go dc_412_141 rfl ?_
  refine Bod.get dc_412_143 fr_412_465 (mk_thing ag1 (by first | exact hz5 | (simp only [rIS, rJS, rAS, rLS, rVS, rQS, rS_hold]; exact hz5))) rfl ?_
  refine Bod.eqV (.ref r1) (by first | exact hv2 | (simp only [rIV, rJV, rAV, rLV, rQV, rV, reduceIte, Nat.reduceEqDiff]; exact hv2)) ?_
  refine Bod.go dc_412_146 rfl ?_
  refine Bod.laldN (N := N1) a1 rfl (by omega) (by omega) dc_412_148 (mk_isL (by first | exact hg2 | exact isK_S (by simp only [rIS, rJS, rAS, rLS, rVS, rQS, rS_hold]) hg2)) ?_
  refine Bod.go dc_412_149 rfl ?_
  refine Bod.eqI (nI o1) (by first | exact ho1 | (simp only [rI, rIe, rA, rIA, rLA, rJA, rVI, rQI, rVA, rQA, upd_at,  rAI, rLI, rJI, nI_add, pk_sub, kc_0, kc_1, kc_2, kc_3, kc_4, kc_5, reduceIte, Nat.reduceEqDiff, Nat.add_zero, rI_hold, rI_hold, rL_hold]; exact ho1)) ?_
  refine Bod.aaldR (N := 1500) (b := g2) o1 rfl (by omega) (by omega) (by first | exact hq16 | (simp only [rIQ, rJQ, rAQ, rLQ, rVQ, rQ_holdE]; exact hq16)) dc_412_150 (mk_86 _) ht_5 ?_
  refine Bod.get dc_412_151 fr_412_531 (mk_thing ag2 (by first | exact hz6 | (simp only [rIS, rJS, rAS, rLS, rVS, rQS, rS_hold]; exact hz6))) rfl ?_
  refine Bod.eqI (nI fd01) (by first | assumption | (simp (disch := omega) only [rI, rIe, rA, rIA, rLA, rJA, rVI, rQI, rVA, rQA, upd_at,  rAI, rLI, rJI, nI_add, pk_sub, kc_0, kc_1, kc_2, kc_3, kc_4, kc_5, reduceIte, Nat.reduceEqDiff, Nat.add_zero, rI_hold, rI_hold, rL_hold, ht, hfd11, hfd0, he, hfd01]; done) | (simp (disch := omega) only [rI, rIe, rA, rIA, rLA, rJA, rVI, rQI, rVA, rQA, upd_at,  rAI, rLI, rJI, nI_add, pk_sub, kc_0, kc_1, kc_2, kc_3, kc_4, kc_5, reduceIte, Nat.reduceEqDiff, Nat.add_zero, rI_hold, rI_hold, rL_hold, ht, hfd11, hfd0, he, hfd01]; exact congrArg nI (by omega))) ?_
  refine Bod.ic 3 (by decide) dc_412_154 ?_
  refine Bod.icT dc_412_155 rfl (k2_eq_T (k_eq fd01 3 rfl rfl (by omega))) ?_
  refine Bod.go dc_412_198 rfl ?_
  refine Bod.bip 6 (by decide) dc_412_199 ?_
  refine Bod.virt (r := []) dc_412_201 kr_412_686 ⟨Or.inl rfl, ow_364, cl_14⟩ (by rw [np_364]; rfl) (by rw [np_364]; rfl) (ob_of (mk_61 _)) (Nat.le_of_ble_eq_true rfl) (c6  ) ?_
  show Bod _ _ _ _ [_] _ _ _
  refine Bod.ist dc_412_204 (by rw [ml_412]; exact Nat.le_of_ble_eq_true rfl) ?_
  refine Bod.go dc_412_206 rfl ?_
  refine Bod.ifT dc_412_208 rfl (k1_ge_T a2 rfl (by omega)) ?_
  refine Bod.go dc_412_213 rfl ?_
  refine Bod.get dc_412_214 fr_412_485 (mk_61 _) rfl ?_
  refine Bod.go dc_412_217 rfl ?_
  refine Bod.aaldR (N := 1500) (b := g3) a2 rfl (by omega) (by omega) (by first | exact hq19 | (simp only [rIQ, rJQ, rAQ, rLQ, rVQ, rQ_holdE]; exact hq19)) dc_412_219 (mk_86 _) ht_5 ?_
  refine Bod.go dc_412_220 rfl ?_
  refine Bod.get dc_412_222 fr_412_465 (mk_thing ag1 (by first | exact hz7 | (simp only [rIS, rJS, rAS, rLS, rVS, rQS, rS_hold]; exact hz7))) rfl ?_
  refine Bod.eqV (.ref r2) (by first | exact hv3 | (simp only [rIV, rJV, rAV, rLV, rQV, rV, reduceIte, Nat.reduceEqDiff]; exact hv3)) ?_
  refine Bod.go dc_412_225 rfl ?_
  refine Bod.laldN (N := N2) a1 rfl (by omega) (by omega) dc_412_227 (mk_isL (by first | exact hg3 | exact isK_S (by simp only [rIS, rJS, rAS, rLS, rVS, rQS, rS_hold]) hg3)) ?_
  refine Bod.go dc_412_228 rfl ?_
  refine Bod.eqI (nI o2) (by first | exact ho2 | (simp only [rI, rIe, rA, rIA, rLA, rJA, rVI, rQI, rVA, rQA, upd_at,  rAI, rLI, rJI, nI_add, pk_sub, kc_0, kc_1, kc_2, kc_3, kc_4, kc_5, reduceIte, Nat.reduceEqDiff, Nat.add_zero, rI_hold, rI_hold, rL_hold]; exact ho2)) ?_
  refine Bod.put dc_412_229 fr_412_472 (mk_thing ag3 (by first | exact hz8 | (simp only [rIS, rJS, rAS, rLS, rVS, rQS, rS_hold]; exact hz8))) (Nat.le_of_ble_eq_true rfl) pf_13_11 (st_thing_11 ag3 (by first | exact hz8 | (simp only [rIS, rJS, rAS, rLS, rVS, rQS, rS_hold]; exact hz8))) (mu_I _ _ _) ?_
  refine Bod.go dc_412_232 rfl ?_
  refine Bod.get dc_412_233 fr_412_485 (mk_61 _) rfl ?_
  refine Bod.go dc_412_236 rfl ?_
  refine Bod.aaldR (N := 1500) (b := g3) a2 rfl (by omega) (by omega) (by first | exact hq19 | (simp only [rIQ, rJQ, rAQ, rLQ, rVQ, rQ_holdE]; exact hq19)) dc_412_238 (mk_86 _) ht_5 ?_
  refine Bod.go dc_412_239 rfl ?_
  refine Bod.put dc_412_240 fr_412_475 (mk_thing ag3 (by first | exact hz8 | (simp only [rIS, rJS, rAS, rLS, rVS, rQS, rS_hold]; exact hz8))) (Nat.le_of_ble_eq_true rfl) pf_13_12 (st_thing_12 ag3 (by first | exact hz8 | (simp only [rIS, rJS, rAS, rLS, rVS, rQS, rS_hold]; exact hz8))) (mu_I _ _ _) ?_
  refine Bod.go dc_412_243 rfl ?_
  refine Bod.go dc_412_244 rfl ?_
  refine Bod.get dc_412_245 fr_412_493 (mk_61 _) rfl ?_
  refine Bod.eqI (nI t1) (by first | assumption | (simp (disch := omega) only [rI, rIe, rA, rIA, rLA, rJA, rVI, rQI, rVA, rQA, upd_at,  rAI, rLI, rJI, nI_add, pk_sub, kc_0, kc_1, kc_2, kc_3, kc_4, kc_5, reduceIte, Nat.reduceEqDiff, Nat.add_zero, rI_hold, rI_hold, rL_hold, ht, hfd11, hfd0, he, hfd01, ht1]; done) | (simp (disch := omega) only [rI, rIe, rA, rIA, rLA, rJA, rVI, rQI, rVA, rQA, upd_at,  rAI, rLI, rJI, nI_add, pk_sub, kc_0, kc_1, kc_2, kc_3, kc_4, kc_5, reduceIte, Nat.reduceEqDiff, Nat.add_zero, rI_hold, rI_hold, rL_hold, ht, hfd11, hfd0, he, hfd01, ht1]; exact congrArg nI (by omega))) ?_
  refine Bod.ic 1 (by decide) dc_412_248 ?_
  refine Bod.subN (t1 - 1) (by omega) (by omega) dc_412_249 ?_
  refine Bod.put dc_412_250 fr_412_493 (mk_61 _) (Nat.le_of_ble_eq_true rfl) pf_14_51 (st_6151 _ _) (mu_I _ _ _) ?_
  refine Bod.go dc_412_253 rfl ?_
  refine Bod.ic 3 (by decide) dc_412_254 ?_
  refine Bod.go dc_412_255 rfl ?_
  refine Bod.go dc_412_257 rfl ?_
  refine Bod.go dc_412_258 rfl ?_
  refine Bod.virt (r := []) dc_412_259 kr_412_549 ⟨Or.inl rfl, ow_352, cl_14⟩ (by rw [np_352]; rfl) (by rw [np_352]; rfl) (ob_of (mk_61 _)) (Nat.le_of_ble_eq_true rfl) (c7  ) ?_
  show Bod _ _ _ _ [] _ _ _
  refine Bod.ic 1 (by decide) dc_412_262 ?_
  exact Bod.retZ dc_412_263 rt_412 (Or.inr rfl)
theorem rGa_20 {d : Nat} {S : cS} {nm : Nat} {t : Nat} {S1 : cS} {S2 : cS} {o : Nat} {g : Nat} {zg : Nat} {S3 : cS} {fd11 : Nat} {S4 : cS} {a : Nat} {g1 : Nat} {zg1 : Nat} {S5 : cS} {a1 : Nat} {fd0 : Nat} {r : Nat} {N : Nat} {e : Nat} {r1 : Nat} {N1 : Nat} {o1 : Nat} {g2 : Nat} {zg2 : Nat} {fd01 : Nat} {S6 : cS} (mnm : nm < 2 ^ 20) (ht : sI S 6151 = nI t) (mt : t < 20481) (b1 : 1 ≤ t) (c1 : Ans (d + 8) 363 [.ref 61, .int (nI (t - 1)), .int (nI 5)] S (some (.int (nI 0))) S1) (c2 : Ans (d + 8) 363 [.ref 61, .int (nI (t - 1)), .int (nI 4)] S1 (some (.int (nI 1))) S2) (ho : (sL S2 92 (t - 1)).toInt32 = nI o) (mo : o < 1500) (ag : 108 ≤ g) (hq3 : sQ S2 86 o = some g) (c3 : Ans (d + 8) 399 [.ref g, .int (nI 0), .long ((nI nm).toInt64), .long 0] S2 (some (.int (Int32.ofInt (-1)))) S3) (hz1 : (sS S2)[g - 108]? = some (13, zg)) (hz2 : (sS S3)[g - 108]? = some (13, zg)) (hfd11 : sI S3 (100 * g + 11) = nI fd11) (mfd11 : fd11 < 2 ^ 20) (ma : a < 1500) (c4 : Ans (d + 8) 398 [.ref 61, .int (nI fd11), .int (nI nm)] S3 (some (.int (nI a))) S4) (ag1 : 108 ≤ g1) (hq7 : sQ S4 86 a = some g1) (ma1 : a1 < 2 ^ 20) (c5 : Ans (d + 8) 399 [.ref g1, .int (nI 0), .long ((nI nm).toInt64), .long 0] S4 (some (.int (nI a1))) S5) (hz3 : (sS S4)[g1 - 108]? = some (13, zg1)) (hz4 : (sS S5)[g - 108]? = some (13, zg)) (hfd0 : sI S5 (100 * g + 0) = nI fd0) (mfd0 : fd0 < 2 ^ 20) (b2 : fd0 ≠ 4) (hz5 : (sS S5)[g1 - 108]? = some (13, zg1)) (hv1 : sV S5 (100 * g1 + 2) = .ref r) (hg1 : isK S5 r 0 N) (mN : N < 2 ^ 20) (b3 : a1 < N) (he : sA S5 r a1 = nI e) (me : e < 2 ^ 20) (b4 : e = 3) (hv2 : sV S5 (100 * g1 + 4) = .ref r1) (hg2 : isK S5 r1 1 N1) (mN1 : N1 < 2 ^ 20) (b5 : a1 < N1) (ho1 : (sL S5 r1 a1).toInt32 = nI o1) (mo1 : o1 < 1500) (ag2 : 108 ≤ g2) (hq16 : sQ S5 86 o1 = some g2) (hz6 : (sS S5)[g2 - 108]? = some (13, zg2)) (hfd01 : sI S5 (100 * g2 + 0) = nI fd01) (mfd01 : fd01 < 2 ^ 20) (b6 : fd01 = 3) (c6 : Ans (d + 8) 364 [.ref 61, .int (nI 6)] S5 (some (.int (Int32.ofInt (-1)))) S6) : Bod (d + 8) 412 0 [(0, .ref 61), (1, .int (nI nm))] [] S (some (.int 0)) (S6) := by
  refine Bod.go dc_412_0 rfl ?_
  refine Bod.get dc_412_1 fr_412_493 (mk_61 _) rfl ?_
  refine Bod.eqI (nI t) (by first | assumption | rfl | exact congrArg nI (by omega) | (simp (disch := omega) only [rI, rIe, rA, rIA, rLA, rJA, rVI, rQI, rVA, rQA, upd_at,  rAI, rLI, rJI, nI_add, pk_sub, kc_0, kc_1, kc_2, kc_3, kc_4, kc_5, reduceIte, Nat.reduceEqDiff, Nat.add_zero, rI_hold, rI_hold, rL_hold, ht]; done)) ?_
  refine Bod.ic 1 (by decide) dc_412_4 ?_
  refine Bod.subN (t - 1) (by omega) (by omega) dc_412_5 ?_
  refine Bod.istn dc_412_6 (by rw [ml_412]; exact Nat.le_of_ble_eq_true rfl) ?_
  refine Bod.go dc_412_7 rfl ?_
  refine Bod.go dc_412_8 rfl ?_
  refine Bod.ic 5 (by decide) dc_412_9 ?_
  refine Bod.virt (r := []) dc_412_10 kr_412_683 ⟨Or.inl rfl, ow_363, cl_14⟩ (by rw [np_363]; rfl) (by rw [np_363]; rfl) (ob_of (mk_61 _)) (Nat.le_of_ble_eq_true rfl) (c1  ) ?_
  show Bod _ _ _ _ [_] _ _ _
  refine Bod.ifF dc_412_13 rfl (k1_ne_F (k_eq 0 0 rfl rfl (by omega))) ?_
  refine Bod.go dc_412_16 rfl ?_
  refine Bod.go dc_412_17 rfl ?_
  refine Bod.ic 4 (by decide) dc_412_18 ?_
  refine Bod.virt (r := []) dc_412_19 kr_412_683 ⟨Or.inl rfl, ow_363, cl_14⟩ (by rw [np_363]; rfl) (by rw [np_363]; rfl) (ob_of (mk_61 _)) (Nat.le_of_ble_eq_true rfl) (c2  ) ?_
  show Bod _ _ _ _ [_] _ _ _
  refine Bod.ifT dc_412_22 rfl (k1_ne_T (k_ne 1 0 rfl rfl (by omega) (by omega) (by omega))) ?_
  refine Bod.go dc_412_31 rfl ?_
  refine Bod.get dc_412_32 fr_412_499 (mk_61 _) rfl ?_
  refine Bod.go dc_412_35 rfl ?_
  refine Bod.laldN (t - 1) rfl (by omega) (by omega) dc_412_36 (mk_92 _) ?_
  refine Bod.go dc_412_37 rfl ?_
  refine Bod.eqI (nI o) (by first | exact ho | (simp only [rI, rIe, rA, rIA, rLA, rJA, rVI, rQI, rVA, rQA, upd_at,  rAI, rLI, rJI, nI_add, pk_sub, kc_0, kc_1, kc_2, kc_3, kc_4, kc_5, reduceIte, Nat.reduceEqDiff, Nat.add_zero, rI_hold, rI_hold, rL_hold]; exact ho)) ?_
  refine Bod.istn dc_412_38 (by rw [ml_412]; exact Nat.le_of_ble_eq_true rfl) ?_
  refine Bod.go dc_412_39 rfl ?_
  refine Bod.get dc_412_40 fr_412_485 (mk_61 _) rfl ?_
  refine Bod.go dc_412_43 rfl ?_
  refine Bod.aaldR (N := 1500) (b := g) o rfl (by omega) (by omega) (by first | exact hq3 | (simp only [rIQ, rJQ, rAQ, rLQ, rVQ, rQ_holdE]; exact hq3)) dc_412_44 (mk_86 _) ht_5 ?_
  refine Bod.ast dc_412_45 (by rw [ml_412]; exact Nat.le_of_ble_eq_true rfl) ?_
  refine Bod.go dc_412_47 rfl ?_
  refine Bod.ic 0 (by decide) dc_412_49 ?_
  refine Bod.go dc_412_50 rfl ?_
  refine Bod.go dc_412_51 rfl ?_
  refine Bod.go dc_412_52 rfl ?_
  refine Bod.virt (r := []) dc_412_53 kr_412_764 ⟨Or.inl rfl, ow_399, cl_13⟩ (by rw [np_399]; rfl) (by rw [np_399]; rfl) (ob_of (mk_thing ag (by first | exact hz1 | (simp only [rIS, rJS, rAS, rLS, rVS, rQS, rS_hold]; exact hz1)))) (Nat.le_of_ble_eq_true rfl) (c3  ) ?_
  show Bod _ _ _ _ [_] _ _ _
  refine Bod.ist dc_412_56 (by rw [ml_412]; exact Nat.le_of_ble_eq_true rfl) ?_
  refine Bod.go dc_412_58 rfl ?_
  refine Bod.ifT dc_412_60 rfl (by decide) ?_
  refine Bod.go dc_412_67 rfl ?_
  refine Bod.go dc_412_68 rfl ?_
  refine Bod.get dc_412_70 fr_412_472 (mk_thing ag (by first | exact hz2 | (simp only [rIS, rJS, rAS, rLS, rVS, rQS, rS_hold]; exact hz2))) rfl ?_
  refine Bod.eqI (nI fd11) (by first | assumption | (simp (disch := omega) only [rI, rIe, rA, rIA, rLA, rJA, rVI, rQI, rVA, rQA, upd_at,  rAI, rLI, rJI, nI_add, pk_sub, kc_0, kc_1, kc_2, kc_3, kc_4, kc_5, reduceIte, Nat.reduceEqDiff, Nat.add_zero, rI_hold, rI_hold, rL_hold, ht, hfd11]; done) | (simp (disch := omega) only [rI, rIe, rA, rIA, rLA, rJA, rVI, rQI, rVA, rQA, upd_at,  rAI, rLI, rJI, nI_add, pk_sub, kc_0, kc_1, kc_2, kc_3, kc_4, kc_5, reduceIte, Nat.reduceEqDiff, Nat.add_zero, rI_hold, rI_hold, rL_hold, ht, hfd11]; exact congrArg nI (by omega))) ?_
  refine Bod.go dc_412_73 rfl ?_
  refine Bod.virt (r := []) dc_412_74 kr_412_777 ⟨Or.inl rfl, ow_398, cl_14⟩ (by rw [np_398]; rfl) (by rw [np_398]; rfl) (ob_of (mk_61 _)) (Nat.le_of_ble_eq_true rfl) (c4  ) ?_
  show Bod _ _ _ _ [_] _ _ _
  refine Bod.ist dc_412_77 (by rw [ml_412]; exact Nat.le_of_ble_eq_true rfl) ?_
  refine Bod.go dc_412_79 rfl ?_
  refine Bod.ifT dc_412_81 rfl (k1_ge_T a rfl (by omega)) ?_
  refine Bod.go dc_412_91 rfl ?_
  refine Bod.get dc_412_92 fr_412_485 (mk_61 _) rfl ?_
  refine Bod.go dc_412_95 rfl ?_
  refine Bod.aaldR (N := 1500) (b := g1) a rfl (by omega) (by omega) (by first | exact hq7 | (simp only [rIQ, rJQ, rAQ, rLQ, rVQ, rQ_holdE]; exact hq7)) dc_412_97 (mk_86 _) ht_5 ?_
  refine Bod.ast dc_412_98 (by rw [ml_412]; exact Nat.le_of_ble_eq_true rfl) ?_
  refine Bod.go dc_412_100 rfl ?_
  refine Bod.ic 0 (by decide) dc_412_102 ?_
  refine Bod.go dc_412_103 rfl ?_
  refine Bod.go dc_412_104 rfl ?_
  refine Bod.go dc_412_105 rfl ?_
  refine Bod.virt (r := []) dc_412_106 kr_412_764 ⟨Or.inl rfl, ow_399, cl_13⟩ (by rw [np_399]; rfl) (by rw [np_399]; rfl) (ob_of (mk_thing ag1 (by first | exact hz3 | (simp only [rIS, rJS, rAS, rLS, rVS, rQS, rS_hold]; exact hz3)))) (Nat.le_of_ble_eq_true rfl) (c5  ) ?_
  show Bod _ _ _ _ [_] _ _ _
  refine Bod.ist dc_412_109 (by rw [ml_412]; exact Nat.le_of_ble_eq_true rfl) ?_
  refine Bod.go dc_412_111 rfl ?_
  refine Bod.get dc_412_113 fr_412_531 (mk_thing ag (by first | exact hz4 | (simp only [rIS, rJS, rAS, rLS, rVS, rQS, rS_hold]; exact hz4))) rfl ?_
  refine Bod.eqI (nI fd0) (by first | assumption | (simp (disch := omega) only [rI, rIe, rA, rIA, rLA, rJA, rVI, rQI, rVA, rQA, upd_at,  rAI, rLI, rJI, nI_add, pk_sub, kc_0, kc_1, kc_2, kc_3, kc_4, kc_5, reduceIte, Nat.reduceEqDiff, Nat.add_zero, rI_hold, rI_hold, rL_hold, ht, hfd11, hfd0]; done) | (simp (disch := omega) only [rI, rIe, rA, rIA, rLA, rJA, rVI, rQI, rVA, rQA, upd_at,  rAI, rLI, rJI, nI_add, pk_sub, kc_0, kc_1, kc_2, kc_3, kc_4, kc_5, reduceIte, Nat.reduceEqDiff, Nat.add_zero, rI_hold, rI_hold, rL_hold, ht, hfd11, hfd0]; exact congrArg nI (by omega))) ?_
  refine Bod.ic 4 (by decide) dc_412_116 ?_
  refine Bod.icF dc_412_117 rfl (k2_eq_F (k_ne fd0 4 rfl rfl (by omega) (by omega) (by omega))) ?_
  refine Bod.go dc_412_120 rfl ?_
  refine Bod.ifF dc_412_122 rfl (by decide) ?_
  refine Bod.go dc_412_125 rfl ?_
  refine Bod.get dc_412_127 fr_412_462 (mk_thing ag1 (by first | exact hz5 | (simp only [rIS, rJS, rAS, rLS, rVS, rQS, rS_hold]; exact hz5))) rfl ?_
  refine Bod.eqV (.ref r) (by first | exact hv1 | (simp only [rIV, rJV, rAV, rLV, rQV, rV, reduceIte, Nat.reduceEqDiff]; exact hv1)) ?_
  refine Bod.go dc_412_130 rfl ?_
  refine Bod.ialdN (N := N) a1 rfl (by omega) (by omega) dc_412_132 (mk_isI (by first | exact hg1 | exact isK_S (by simp only [rIS, rJS, rAS, rLS, rVS, rQS, rS_hold]) hg1)) ?_
  refine Bod.eqI (nI e) (by first | assumption | (simp (disch := omega) only [rI, rIe, rA, rIA, rLA, rJA, rVI, rQI, rVA, rQA, upd_at,  rAI, rLI, rJI, nI_add, pk_sub, kc_0, kc_1, kc_2, kc_3, kc_4, kc_5, reduceIte, Nat.reduceEqDiff, Nat.add_zero, rI_hold, rI_hold, rL_hold, ht, hfd11, hfd0, he]; done) | (simp (disch := omega) only [rI, rIe, rA, rIA, rLA, rJA, rVI, rQI, rVA, rQA, upd_at,  rAI, rLI, rJI, nI_add, pk_sub, kc_0, kc_1, kc_2, kc_3, kc_4, kc_5, reduceIte, Nat.reduceEqDiff, Nat.add_zero, rI_hold, rI_hold, rL_hold, ht, hfd11, hfd0, he]; exact congrArg nI (by omega))) ?_
  refine Bod.ic 3 (by decide) dc_412_133 ?_
  refine Bod.icF dc_412_134 rfl (k2_ne_F (k_eq e 3 rfl rfl (by omega))) ?_
  refine Bod.go dc_412_137 rfl ?_
  refine Bod.get dc_412_138 fr_412_485 (mk_61 _) rfl ?_
  refine Bod.go dc_412_141 rfl ?_
  refine Bod.get dc_412_143 fr_412_465 (mk_thing ag1 (by first | exact hz5 | (simp only [rIS, rJS, rAS, rLS, rVS, rQS, rS_hold]; exact hz5))) rfl ?_
  refine Bod.eqV (.ref r1) (by first | exact hv2 | (simp only [rIV, rJV, rAV, rLV, rQV, rV, reduceIte, Nat.reduceEqDiff]; exact hv2)) ?_
  refine Bod.go dc_412_146 rfl ?_
  refine Bod.laldN (N := N1) a1 rfl (by omega) (by omega) dc_412_148 (mk_isL (by first | exact hg2 | exact isK_S (by simp only [rIS, rJS, rAS, rLS, rVS, rQS, rS_hold]) hg2)) ?_
  refine Bod.go dc_412_149 rfl ?_
  refine Bod.eqI (nI o1) (by first | exact ho1 | (simp only [rI, rIe, rA, rIA, rLA, rJA, rVI, rQI, rVA, rQA, upd_at,  rAI, rLI, rJI, nI_add, pk_sub, kc_0, kc_1, kc_2, kc_3, kc_4, kc_5, reduceIte, Nat.reduceEqDiff, Nat.add_zero, rI_hold, rI_hold, rL_hold]; exact ho1)) ?_
  refine Bod.aaldR (N := 1500) (b := g2) o1 rfl (by omega) (by omega) (by first | exact hq16 | (simp only [rIQ, rJQ, rAQ, rLQ, rVQ, rQ_holdE]; exact hq16)) dc_412_150 (mk_86 _) ht_5 ?_
  refine Bod.get dc_412_151 fr_412_531 (mk_thing ag2 (by first | exact hz6 | (simp only [rIS, rJS, rAS, rLS, rVS, rQS, rS_hold]; exact hz6))) rfl ?_
  refine Bod.eqI (nI fd01) (by first | assumption | (simp (disch := omega) only [rI, rIe, rA, rIA, rLA, rJA, rVI, rQI, rVA, rQA, upd_at,  rAI, rLI, rJI, nI_add, pk_sub, kc_0, kc_1, kc_2, kc_3, kc_4, kc_5, reduceIte, Nat.reduceEqDiff, Nat.add_zero, rI_hold, rI_hold, rL_hold, ht, hfd11, hfd0, he, hfd01]; done) | (simp (disch := omega) only [rI, rIe, rA, rIA, rLA, rJA, rVI, rQI, rVA, rQA, upd_at,  rAI, rLI, rJI, nI_add, pk_sub, kc_0, kc_1, kc_2, kc_3, kc_4, kc_5, reduceIte, Nat.reduceEqDiff, Nat.add_zero, rI_hold, rI_hold, rL_hold, ht, hfd11, hfd0, he, hfd01]; exact congrArg nI (by omega))) ?_
  refine Bod.ic 3 (by decide) dc_412_154 ?_
  refine Bod.icT dc_412_155 rfl (k2_eq_T (k_eq fd01 3 rfl rfl (by omega))) ?_
  refine Bod.go dc_412_198 rfl ?_
  refine Bod.bip 6 (by decide) dc_412_199 ?_
  refine Bod.virt (r := []) dc_412_201 kr_412_686 ⟨Or.inl rfl, ow_364, cl_14⟩ (by rw [np_364]; rfl) (by rw [np_364]; rfl) (ob_of (mk_61 _)) (Nat.le_of_ble_eq_true rfl) (c6  ) ?_
  show Bod _ _ _ _ [_] _ _ _
  refine Bod.ist dc_412_204 (by rw [ml_412]; exact Nat.le_of_ble_eq_true rfl) ?_
  refine Bod.go dc_412_206 rfl ?_
  refine Bod.ifF dc_412_208 rfl (by decide) ?_
  refine Bod.ic 0 (by decide) dc_412_211 ?_
  exact Bod.retZ dc_412_212 rt_412 (Or.inl rfl)
theorem rGa_21 {d : Nat} {S : cS} {nm : Nat} {t : Nat} {S1 : cS} {S2 : cS} {o : Nat} {g : Nat} {zg : Nat} {S3 : cS} {fd11 : Nat} {S4 : cS} {a : Nat} {g1 : Nat} {zg1 : Nat} {S5 : cS} {a1 : Nat} {fd0 : Nat} {r : Nat} {N : Nat} {e : Nat} {r1 : Nat} {N1 : Nat} {o1 : Nat} {g2 : Nat} {zg2 : Nat} {fd01 : Nat} {t1 : Nat} {r2 : Nat} {N2 : Nat} {S6 : cS} (mnm : nm < 2 ^ 20) (ht : sI S 6151 = nI t) (mt : t < 20481) (b1 : 1 ≤ t) (c1 : Ans (d + 8) 363 [.ref 61, .int (nI (t - 1)), .int (nI 5)] S (some (.int (nI 0))) S1) (c2 : Ans (d + 8) 363 [.ref 61, .int (nI (t - 1)), .int (nI 4)] S1 (some (.int (nI 1))) S2) (ho : (sL S2 92 (t - 1)).toInt32 = nI o) (mo : o < 1500) (ag : 108 ≤ g) (hq3 : sQ S2 86 o = some g) (c3 : Ans (d + 8) 399 [.ref g, .int (nI 0), .long ((nI nm).toInt64), .long 0] S2 (some (.int (Int32.ofInt (-1)))) S3) (hz1 : (sS S2)[g - 108]? = some (13, zg)) (hz2 : (sS S3)[g - 108]? = some (13, zg)) (hfd11 : sI S3 (100 * g + 11) = nI fd11) (mfd11 : fd11 < 2 ^ 20) (ma : a < 1500) (c4 : Ans (d + 8) 398 [.ref 61, .int (nI fd11), .int (nI nm)] S3 (some (.int (nI a))) S4) (ag1 : 108 ≤ g1) (hq7 : sQ S4 86 a = some g1) (ma1 : a1 < 2 ^ 20) (c5 : Ans (d + 8) 399 [.ref g1, .int (nI 0), .long ((nI nm).toInt64), .long 0] S4 (some (.int (nI a1))) S5) (hz3 : (sS S4)[g1 - 108]? = some (13, zg1)) (hz4 : (sS S5)[g - 108]? = some (13, zg)) (hfd0 : sI S5 (100 * g + 0) = nI fd0) (mfd0 : fd0 < 2 ^ 20) (b2 : fd0 ≠ 4) (hz5 : (sS S5)[g1 - 108]? = some (13, zg1)) (hv1 : sV S5 (100 * g1 + 2) = .ref r) (hg1 : isK S5 r 0 N) (mN : N < 2 ^ 20) (b3 : a1 < N) (he : sA S5 r a1 = nI e) (me : e < 2 ^ 20) (b4 : e = 3) (hv2 : sV S5 (100 * g1 + 4) = .ref r1) (hg2 : isK S5 r1 1 N1) (mN1 : N1 < 2 ^ 20) (b5 : a1 < N1) (ho1 : (sL S5 r1 a1).toInt32 = nI o1) (mo1 : o1 < 1500) (ag2 : 108 ≤ g2) (hq16 : sQ S5 86 o1 = some g2) (hz6 : (sS S5)[g2 - 108]? = some (13, zg2)) (hfd01 : sI S5 (100 * g2 + 0) = nI fd01) (mfd01 : fd01 < 2 ^ 20) (b6 : fd01 ≠ 3) (ht1 : sI S5 6151 = nI t1) (mt1 : t1 < 20481) (b7 : 1 ≤ t1) (hv3 : sV S5 (100 * g1 + 5) = .ref r2) (hg3 : isK S5 r2 1 N2) (mN2 : N2 < 2 ^ 20) (b8 : a1 < N2) (c6 : Ans (d + 8) 352 [.ref 61, .int (nI e), .long (sL (wI 6151 (nI (t1 - 1)) S5) r1 a1), .long (sL (wI 6151 (nI (t1 - 1)) S5) r2 a1)] (wI 6151 (nI (t1 - 1)) S5) none S6) : Bod (d + 8) 412 0 [(0, .ref 61), (1, .int (nI nm))] [] S (some (.int 1)) (S6) := by
  refine Bod.go dc_412_0 rfl ?_
  refine Bod.get dc_412_1 fr_412_493 (mk_61 _) rfl ?_
  refine Bod.eqI (nI t) (by first | assumption | rfl | exact congrArg nI (by omega) | (simp (disch := omega) only [rI, rIe, rA, rIA, rLA, rJA, rVI, rQI, rVA, rQA, upd_at,  rAI, rLI, rJI, nI_add, pk_sub, kc_0, kc_1, kc_2, kc_3, kc_4, kc_5, reduceIte, Nat.reduceEqDiff, Nat.add_zero, rI_hold, rI_hold, rL_hold, ht]; done)) ?_
  refine Bod.ic 1 (by decide) dc_412_4 ?_
  refine Bod.subN (t - 1) (by omega) (by omega) dc_412_5 ?_
  refine Bod.istn dc_412_6 (by rw [ml_412]; exact Nat.le_of_ble_eq_true rfl) ?_
  refine Bod.go dc_412_7 rfl ?_
  refine Bod.go dc_412_8 rfl ?_
  refine Bod.ic 5 (by decide) dc_412_9 ?_
  refine Bod.virt (r := []) dc_412_10 kr_412_683 ⟨Or.inl rfl, ow_363, cl_14⟩ (by rw [np_363]; rfl) (by rw [np_363]; rfl) (ob_of (mk_61 _)) (Nat.le_of_ble_eq_true rfl) (c1  ) ?_
  show Bod _ _ _ _ [_] _ _ _
  refine Bod.ifF dc_412_13 rfl (k1_ne_F (k_eq 0 0 rfl rfl (by omega))) ?_
  refine Bod.go dc_412_16 rfl ?_
  refine Bod.go dc_412_17 rfl ?_
  refine Bod.ic 4 (by decide) dc_412_18 ?_
  refine Bod.virt (r := []) dc_412_19 kr_412_683 ⟨Or.inl rfl, ow_363, cl_14⟩ (by rw [np_363]; rfl) (by rw [np_363]; rfl) (ob_of (mk_61 _)) (Nat.le_of_ble_eq_true rfl) (c2  ) ?_
  show Bod _ _ _ _ [_] _ _ _
  refine Bod.ifT dc_412_22 rfl (k1_ne_T (k_ne 1 0 rfl rfl (by omega) (by omega) (by omega))) ?_
  refine Bod.go dc_412_31 rfl ?_
  refine Bod.get dc_412_32 fr_412_499 (mk_61 _) rfl ?_
  refine Bod.go dc_412_35 rfl ?_
  refine Bod.laldN (t - 1) rfl (by omega) (by omega) dc_412_36 (mk_92 _) ?_
  refine Bod.go dc_412_37 rfl ?_
  refine Bod.eqI (nI o) (by first | exact ho | (simp only [rI, rIe, rA, rIA, rLA, rJA, rVI, rQI, rVA, rQA, upd_at,  rAI, rLI, rJI, nI_add, pk_sub, kc_0, kc_1, kc_2, kc_3, kc_4, kc_5, reduceIte, Nat.reduceEqDiff, Nat.add_zero, rI_hold, rI_hold, rL_hold]; exact ho)) ?_
  refine Bod.istn dc_412_38 (by rw [ml_412]; exact Nat.le_of_ble_eq_true rfl) ?_
  refine Bod.go dc_412_39 rfl ?_
  refine Bod.get dc_412_40 fr_412_485 (mk_61 _) rfl ?_
  refine Bod.go dc_412_43 rfl ?_
  refine Bod.aaldR (N := 1500) (b := g) o rfl (by omega) (by omega) (by first | exact hq3 | (simp only [rIQ, rJQ, rAQ, rLQ, rVQ, rQ_holdE]; exact hq3)) dc_412_44 (mk_86 _) ht_5 ?_
  refine Bod.ast dc_412_45 (by rw [ml_412]; exact Nat.le_of_ble_eq_true rfl) ?_
  refine Bod.go dc_412_47 rfl ?_
  refine Bod.ic 0 (by decide) dc_412_49 ?_
  refine Bod.go dc_412_50 rfl ?_
  refine Bod.go dc_412_51 rfl ?_
  refine Bod.go dc_412_52 rfl ?_
  refine Bod.virt (r := []) dc_412_53 kr_412_764 ⟨Or.inl rfl, ow_399, cl_13⟩ (by rw [np_399]; rfl) (by rw [np_399]; rfl) (ob_of (mk_thing ag (by first | exact hz1 | (simp only [rIS, rJS, rAS, rLS, rVS, rQS, rS_hold]; exact hz1)))) (Nat.le_of_ble_eq_true rfl) (c3  ) ?_
  show Bod _ _ _ _ [_] _ _ _
  refine Bod.ist dc_412_56 (by rw [ml_412]; exact Nat.le_of_ble_eq_true rfl) ?_
  refine Bod.go dc_412_58 rfl ?_
  refine Bod.ifT dc_412_60 rfl (by decide) ?_
  refine Bod.go dc_412_67 rfl ?_
  refine Bod.go dc_412_68 rfl ?_
  refine Bod.get dc_412_70 fr_412_472 (mk_thing ag (by first | exact hz2 | (simp only [rIS, rJS, rAS, rLS, rVS, rQS, rS_hold]; exact hz2))) rfl ?_
  refine Bod.eqI (nI fd11) (by first | assumption | (simp (disch := omega) only [rI, rIe, rA, rIA, rLA, rJA, rVI, rQI, rVA, rQA, upd_at,  rAI, rLI, rJI, nI_add, pk_sub, kc_0, kc_1, kc_2, kc_3, kc_4, kc_5, reduceIte, Nat.reduceEqDiff, Nat.add_zero, rI_hold, rI_hold, rL_hold, ht, hfd11]; done) | (simp (disch := omega) only [rI, rIe, rA, rIA, rLA, rJA, rVI, rQI, rVA, rQA, upd_at,  rAI, rLI, rJI, nI_add, pk_sub, kc_0, kc_1, kc_2, kc_3, kc_4, kc_5, reduceIte, Nat.reduceEqDiff, Nat.add_zero, rI_hold, rI_hold, rL_hold, ht, hfd11]; exact congrArg nI (by omega))) ?_
  refine Bod.go dc_412_73 rfl ?_
  refine Bod.virt (r := []) dc_412_74 kr_412_777 ⟨Or.inl rfl, ow_398, cl_14⟩ (by rw [np_398]; rfl) (by rw [np_398]; rfl) (ob_of (mk_61 _)) (Nat.le_of_ble_eq_true rfl) (c4  ) ?_
  show Bod _ _ _ _ [_] _ _ _
  refine Bod.ist dc_412_77 (by rw [ml_412]; exact Nat.le_of_ble_eq_true rfl) ?_
  refine Bod.go dc_412_79 rfl ?_
  refine Bod.ifT dc_412_81 rfl (k1_ge_T a rfl (by omega)) ?_
  refine Bod.go dc_412_91 rfl ?_
  refine Bod.get dc_412_92 fr_412_485 (mk_61 _) rfl ?_
  refine Bod.go dc_412_95 rfl ?_
  refine Bod.aaldR (N := 1500) (b := g1) a rfl (by omega) (by omega) (by first | exact hq7 | (simp only [rIQ, rJQ, rAQ, rLQ, rVQ, rQ_holdE]; exact hq7)) dc_412_97 (mk_86 _) ht_5 ?_
  refine Bod.ast dc_412_98 (by rw [ml_412]; exact Nat.le_of_ble_eq_true rfl) ?_
  refine Bod.go dc_412_100 rfl ?_
  refine Bod.ic 0 (by decide) dc_412_102 ?_
  refine Bod.go dc_412_103 rfl ?_
  refine Bod.go dc_412_104 rfl ?_
  refine Bod.go dc_412_105 rfl ?_
  refine Bod.virt (r := []) dc_412_106 kr_412_764 ⟨Or.inl rfl, ow_399, cl_13⟩ (by rw [np_399]; rfl) (by rw [np_399]; rfl) (ob_of (mk_thing ag1 (by first | exact hz3 | (simp only [rIS, rJS, rAS, rLS, rVS, rQS, rS_hold]; exact hz3)))) (Nat.le_of_ble_eq_true rfl) (c5  ) ?_
  show Bod _ _ _ _ [_] _ _ _
  refine Bod.ist dc_412_109 (by rw [ml_412]; exact Nat.le_of_ble_eq_true rfl) ?_
  refine Bod.go dc_412_111 rfl ?_
  refine Bod.get dc_412_113 fr_412_531 (mk_thing ag (by first | exact hz4 | (simp only [rIS, rJS, rAS, rLS, rVS, rQS, rS_hold]; exact hz4))) rfl ?_
  refine Bod.eqI (nI fd0) (by first | assumption | (simp (disch := omega) only [rI, rIe, rA, rIA, rLA, rJA, rVI, rQI, rVA, rQA, upd_at,  rAI, rLI, rJI, nI_add, pk_sub, kc_0, kc_1, kc_2, kc_3, kc_4, kc_5, reduceIte, Nat.reduceEqDiff, Nat.add_zero, rI_hold, rI_hold, rL_hold, ht, hfd11, hfd0]; done) | (simp (disch := omega) only [rI, rIe, rA, rIA, rLA, rJA, rVI, rQI, rVA, rQA, upd_at,  rAI, rLI, rJI, nI_add, pk_sub, kc_0, kc_1, kc_2, kc_3, kc_4, kc_5, reduceIte, Nat.reduceEqDiff, Nat.add_zero, rI_hold, rI_hold, rL_hold, ht, hfd11, hfd0]; exact congrArg nI (by omega))) ?_
  refine Bod.ic 4 (by decide) dc_412_116 ?_
  refine Bod.icF dc_412_117 rfl (k2_eq_F (k_ne fd0 4 rfl rfl (by omega) (by omega) (by omega))) ?_
  refine Bod.go dc_412_120 rfl ?_
  refine Bod.ifF dc_412_122 rfl (by decide) ?_
  refine Bod.go dc_412_125 rfl ?_
  refine Bod.get dc_412_127 fr_412_462 (mk_thing ag1 (by first | exact hz5 | (simp only [rIS, rJS, rAS, rLS, rVS, rQS, rS_hold]; exact hz5))) rfl ?_
  refine Bod.eqV (.ref r) (by first | exact hv1 | (simp only [rIV, rJV, rAV, rLV, rQV, rV, reduceIte, Nat.reduceEqDiff]; exact hv1)) ?_
  refine Bod.go dc_412_130 rfl ?_
  refine Bod.ialdN (N := N) a1 rfl (by omega) (by omega) dc_412_132 (mk_isI (by first | exact hg1 | exact isK_S (by simp only [rIS, rJS, rAS, rLS, rVS, rQS, rS_hold]) hg1)) ?_
  refine Bod.eqI (nI e) (by first | assumption | (simp (disch := omega) only [rI, rIe, rA, rIA, rLA, rJA, rVI, rQI, rVA, rQA, upd_at,  rAI, rLI, rJI, nI_add, pk_sub, kc_0, kc_1, kc_2, kc_3, kc_4, kc_5, reduceIte, Nat.reduceEqDiff, Nat.add_zero, rI_hold, rI_hold, rL_hold, ht, hfd11, hfd0, he]; done) | (simp (disch := omega) only [rI, rIe, rA, rIA, rLA, rJA, rVI, rQI, rVA, rQA, upd_at,  rAI, rLI, rJI, nI_add, pk_sub, kc_0, kc_1, kc_2, kc_3, kc_4, kc_5, reduceIte, Nat.reduceEqDiff, Nat.add_zero, rI_hold, rI_hold, rL_hold, ht, hfd11, hfd0, he]; exact congrArg nI (by omega))) ?_
  refine Bod.ic 3 (by decide) dc_412_133 ?_
  refine Bod.icF dc_412_134 rfl (k2_ne_F (k_eq e 3 rfl rfl (by omega))) ?_
  refine Bod.go dc_412_137 rfl ?_
  refine Bod.get dc_412_138 fr_412_485 (mk_61 _) rfl ?_
  refine Bod.go dc_412_141 rfl ?_
  refine Bod.get dc_412_143 fr_412_465 (mk_thing ag1 (by first | exact hz5 | (simp only [rIS, rJS, rAS, rLS, rVS, rQS, rS_hold]; exact hz5))) rfl ?_
  refine Bod.eqV (.ref r1) (by first | exact hv2 | (simp only [rIV, rJV, rAV, rLV, rQV, rV, reduceIte, Nat.reduceEqDiff]; exact hv2)) ?_
  refine Bod.go dc_412_146 rfl ?_
  refine Bod.laldN (N := N1) a1 rfl (by omega) (by omega) dc_412_148 (mk_isL (by first | exact hg2 | exact isK_S (by simp only [rIS, rJS, rAS, rLS, rVS, rQS, rS_hold]) hg2)) ?_
  refine Bod.go dc_412_149 rfl ?_
  refine Bod.eqI (nI o1) (by first | exact ho1 | (simp only [rI, rIe, rA, rIA, rLA, rJA, rVI, rQI, rVA, rQA, upd_at,  rAI, rLI, rJI, nI_add, pk_sub, kc_0, kc_1, kc_2, kc_3, kc_4, kc_5, reduceIte, Nat.reduceEqDiff, Nat.add_zero, rI_hold, rI_hold, rL_hold]; exact ho1)) ?_
  refine Bod.aaldR (N := 1500) (b := g2) o1 rfl (by omega) (by omega) (by first | exact hq16 | (simp only [rIQ, rJQ, rAQ, rLQ, rVQ, rQ_holdE]; exact hq16)) dc_412_150 (mk_86 _) ht_5 ?_
  refine Bod.get dc_412_151 fr_412_531 (mk_thing ag2 (by first | exact hz6 | (simp only [rIS, rJS, rAS, rLS, rVS, rQS, rS_hold]; exact hz6))) rfl ?_
  refine Bod.eqI (nI fd01) (by first | assumption | (simp (disch := omega) only [rI, rIe, rA, rIA, rLA, rJA, rVI, rQI, rVA, rQA, upd_at,  rAI, rLI, rJI, nI_add, pk_sub, kc_0, kc_1, kc_2, kc_3, kc_4, kc_5, reduceIte, Nat.reduceEqDiff, Nat.add_zero, rI_hold, rI_hold, rL_hold, ht, hfd11, hfd0, he, hfd01]; done) | (simp (disch := omega) only [rI, rIe, rA, rIA, rLA, rJA, rVI, rQI, rVA, rQA, upd_at,  rAI, rLI, rJI, nI_add, pk_sub, kc_0, kc_1, kc_2, kc_3, kc_4, kc_5, reduceIte, Nat.reduceEqDiff, Nat.add_zero, rI_hold, rI_hold, rL_hold, ht, hfd11, hfd0, he, hfd01]; exact congrArg nI (by omega))) ?_
  refine Bod.ic 3 (by decide) dc_412_154 ?_
  refine Bod.icF dc_412_155 rfl (k2_eq_F (k_ne fd01 3 rfl rfl (by omega) (by omega) (by omega))) ?_
  refine Bod.go dc_412_158 rfl ?_
  refine Bod.go dc_412_159 rfl ?_
  refine Bod.get dc_412_160 fr_412_493 (mk_61 _) rfl ?_
  refine Bod.eqI (nI t1) (by first | assumption | (simp (disch := omega) only [rI, rIe, rA, rIA, rLA, rJA, rVI, rQI, rVA, rQA, upd_at,  rAI, rLI, rJI, nI_add, pk_sub, kc_0, kc_1, kc_2, kc_3, kc_4, kc_5, reduceIte, Nat.reduceEqDiff, Nat.add_zero, rI_hold, rI_hold, rL_hold, ht, hfd11, hfd0, he, hfd01, ht1]; done) | (simp (disch := omega) only [rI, rIe, rA, rIA, rLA, rJA, rVI, rQI, rVA, rQA, upd_at,  rAI, rLI, rJI, nI_add, pk_sub, kc_0, kc_1, kc_2, kc_3, kc_4, kc_5, reduceIte, Nat.reduceEqDiff, Nat.add_zero, rI_hold, rI_hold, rL_hold, ht, hfd11, hfd0, he, hfd01, ht1]; exact congrArg nI (by omega))) ?_
  refine Bod.ic 1 (by decide) dc_412_163 ?_
  refine Bod.subN (t1 - 1) (by omega) (by omega) dc_412_164 ?_
  refine Bod.put dc_412_165 fr_412_493 (mk_61 _) (Nat.le_of_ble_eq_true rfl) pf_14_51 (st_6151 _ _) (mu_I _ _ _) ?_
  refine Bod.go dc_412_168 rfl ?_
  refine Bod.go dc_412_169 rfl ?_
  refine Bod.get dc_412_171 fr_412_462 (mk_thing ag1 (by first | exact hz5 | (simp only [rIS, rJS, rAS, rLS, rVS, rQS, rS_hold]; exact hz5))) rfl ?_
  refine Bod.eqV (.ref r) (by first | exact hv1 | (simp only [rIV, rJV, rAV, rLV, rQV, rV, reduceIte, Nat.reduceEqDiff]; exact hv1)) ?_
  refine Bod.go dc_412_174 rfl ?_
  refine Bod.ialdN (N := N) a1 rfl (by omega) (by omega) dc_412_176 (mk_isI (by first | exact hg1 | exact isK_S (by simp only [rIS, rJS, rAS, rLS, rVS, rQS, rS_hold]) hg1)) ?_
  refine Bod.eqI (nI e) (by first | assumption | (simp (disch := omega) only [rI, rIe, rA, rIA, rLA, rJA, rVI, rQI, rVA, rQA, upd_at,  rAI, rLI, rJI, nI_add, pk_sub, kc_0, kc_1, kc_2, kc_3, kc_4, kc_5, reduceIte, Nat.reduceEqDiff, Nat.add_zero, rI_hold, rI_hold, rL_hold, ht, hfd11, hfd0, he, hfd01, ht1]; done) | (simp (disch := omega) only [rI, rIe, rA, rIA, rLA, rJA, rVI, rQI, rVA, rQA, upd_at,  rAI, rLI, rJI, nI_add, pk_sub, kc_0, kc_1, kc_2, kc_3, kc_4, kc_5, reduceIte, Nat.reduceEqDiff, Nat.add_zero, rI_hold, rI_hold, rL_hold, ht, hfd11, hfd0, he, hfd01, ht1]; exact congrArg nI (by omega))) ?_
  refine Bod.go dc_412_177 rfl ?_
  refine Bod.get dc_412_179 fr_412_465 (mk_thing ag1 (by first | exact hz5 | (simp only [rIS, rJS, rAS, rLS, rVS, rQS, rS_hold]; exact hz5))) rfl ?_
  refine Bod.eqV (.ref r1) (by first | exact hv2 | (simp only [rIV, rJV, rAV, rLV, rQV, rV, reduceIte, Nat.reduceEqDiff]; exact hv2)) ?_
  refine Bod.go dc_412_182 rfl ?_
  refine Bod.laldN (N := N1) a1 rfl (by omega) (by omega) dc_412_184 (mk_isL (by first | exact hg2 | exact isK_S (by simp only [rIS, rJS, rAS, rLS, rVS, rQS, rS_hold]) hg2)) ?_
  refine Bod.go dc_412_185 rfl ?_
  refine Bod.get dc_412_187 fr_412_627 (mk_thing ag1 (by first | exact hz5 | (simp only [rIS, rJS, rAS, rLS, rVS, rQS, rS_hold]; exact hz5))) rfl ?_
  refine Bod.eqV (.ref r2) (by first | exact hv3 | (simp only [rIV, rJV, rAV, rLV, rQV, rV, reduceIte, Nat.reduceEqDiff]; exact hv3)) ?_
  refine Bod.go dc_412_190 rfl ?_
  refine Bod.laldN (N := N2) a1 rfl (by omega) (by omega) dc_412_192 (mk_isL (by first | exact hg3 | exact isK_S (by simp only [rIS, rJS, rAS, rLS, rVS, rQS, rS_hold]) hg3)) ?_
  refine Bod.virt (r := []) dc_412_193 kr_412_549 ⟨Or.inl rfl, ow_352, cl_14⟩ (by rw [np_352]; rfl) (by rw [np_352]; rfl) (ob_of (mk_61 _)) (Nat.le_of_ble_eq_true rfl) (c6  ) ?_
  show Bod _ _ _ _ [] _ _ _
  refine Bod.ic 1 (by decide) dc_412_196 ?_
  exact Bod.retZ dc_412_197 rt_412 (Or.inr rfl)
theorem rGa_22 {d : Nat} {S : cS} {nm : Nat} {t : Nat} {S1 : cS} {S2 : cS} {o : Nat} {g : Nat} {zg : Nat} {S3 : cS} {fd11 : Nat} {S4 : cS} {S5 : cS} (mnm : nm < 2 ^ 20) (ht : sI S 6151 = nI t) (mt : t < 20481) (b1 : 1 ≤ t) (c1 : Ans (d + 8) 363 [.ref 61, .int (nI (t - 1)), .int (nI 5)] S (some (.int (nI 0))) S1) (c2 : Ans (d + 8) 363 [.ref 61, .int (nI (t - 1)), .int (nI 4)] S1 (some (.int (nI 1))) S2) (ho : (sL S2 92 (t - 1)).toInt32 = nI o) (mo : o < 1500) (ag : 108 ≤ g) (hq3 : sQ S2 86 o = some g) (c3 : Ans (d + 8) 399 [.ref g, .int (nI 0), .long ((nI nm).toInt64), .long 0] S2 (some (.int (Int32.ofInt (-1)))) S3) (hz1 : (sS S2)[g - 108]? = some (13, zg)) (hz2 : (sS S3)[g - 108]? = some (13, zg)) (hfd11 : sI S3 (100 * g + 11) = nI fd11) (mfd11 : fd11 < 2 ^ 20) (c4 : Ans (d + 8) 398 [.ref 61, .int (nI fd11), .int (nI nm)] S3 (some (.int (Int32.ofInt (-1)))) S4) (c5 : Ans (d + 8) 351 [.ref 61, .int (nI 9)] S4 (some (.int (nI 0))) S5) : Bod (d + 8) 412 0 [(0, .ref 61), (1, .int (nI nm))] [] S (some (.int 0)) (S5) := by
  refine Bod.go dc_412_0 rfl ?_
  refine Bod.get dc_412_1 fr_412_493 (mk_61 _) rfl ?_
  refine Bod.eqI (nI t) (by first | assumption | rfl | exact congrArg nI (by omega) | (simp (disch := omega) only [rI, rIe, rA, rIA, rLA, rJA, rVI, rQI, rVA, rQA, upd_at,  rAI, rLI, rJI, nI_add, pk_sub, kc_0, kc_1, kc_2, kc_3, kc_4, kc_5, reduceIte, Nat.reduceEqDiff, Nat.add_zero, rI_hold, rI_hold, rL_hold, ht]; done)) ?_
  refine Bod.ic 1 (by decide) dc_412_4 ?_
  refine Bod.subN (t - 1) (by omega) (by omega) dc_412_5 ?_
  refine Bod.istn dc_412_6 (by rw [ml_412]; exact Nat.le_of_ble_eq_true rfl) ?_
  refine Bod.go dc_412_7 rfl ?_
  refine Bod.go dc_412_8 rfl ?_
  refine Bod.ic 5 (by decide) dc_412_9 ?_
  refine Bod.virt (r := []) dc_412_10 kr_412_683 ⟨Or.inl rfl, ow_363, cl_14⟩ (by rw [np_363]; rfl) (by rw [np_363]; rfl) (ob_of (mk_61 _)) (Nat.le_of_ble_eq_true rfl) (c1  ) ?_
  show Bod _ _ _ _ [_] _ _ _
  refine Bod.ifF dc_412_13 rfl (k1_ne_F (k_eq 0 0 rfl rfl (by omega))) ?_
  refine Bod.go dc_412_16 rfl ?_
  refine Bod.go dc_412_17 rfl ?_
  refine Bod.ic 4 (by decide) dc_412_18 ?_
  refine Bod.virt (r := []) dc_412_19 kr_412_683 ⟨Or.inl rfl, ow_363, cl_14⟩ (by rw [np_363]; rfl) (by rw [np_363]; rfl) (ob_of (mk_61 _)) (Nat.le_of_ble_eq_true rfl) (c2  ) ?_
  show Bod _ _ _ _ [_] _ _ _
  refine Bod.ifT dc_412_22 rfl (k1_ne_T (k_ne 1 0 rfl rfl (by omega) (by omega) (by omega))) ?_
  refine Bod.go dc_412_31 rfl ?_
  refine Bod.get dc_412_32 fr_412_499 (mk_61 _) rfl ?_
  refine Bod.go dc_412_35 rfl ?_
  refine Bod.laldN (t - 1) rfl (by omega) (by omega) dc_412_36 (mk_92 _) ?_
  refine Bod.go dc_412_37 rfl ?_
  refine Bod.eqI (nI o) (by first | exact ho | (simp only [rI, rIe, rA, rIA, rLA, rJA, rVI, rQI, rVA, rQA, upd_at,  rAI, rLI, rJI, nI_add, pk_sub, kc_0, kc_1, kc_2, kc_3, kc_4, kc_5, reduceIte, Nat.reduceEqDiff, Nat.add_zero, rI_hold, rI_hold, rL_hold]; exact ho)) ?_
  refine Bod.istn dc_412_38 (by rw [ml_412]; exact Nat.le_of_ble_eq_true rfl) ?_
  refine Bod.go dc_412_39 rfl ?_
  refine Bod.get dc_412_40 fr_412_485 (mk_61 _) rfl ?_
  refine Bod.go dc_412_43 rfl ?_
  refine Bod.aaldR (N := 1500) (b := g) o rfl (by omega) (by omega) (by first | exact hq3 | (simp only [rIQ, rJQ, rAQ, rLQ, rVQ, rQ_holdE]; exact hq3)) dc_412_44 (mk_86 _) ht_5 ?_
  refine Bod.ast dc_412_45 (by rw [ml_412]; exact Nat.le_of_ble_eq_true rfl) ?_
  refine Bod.go dc_412_47 rfl ?_
  refine Bod.ic 0 (by decide) dc_412_49 ?_
  refine Bod.go dc_412_50 rfl ?_
  refine Bod.go dc_412_51 rfl ?_
  refine Bod.go dc_412_52 rfl ?_
  refine Bod.virt (r := []) dc_412_53 kr_412_764 ⟨Or.inl rfl, ow_399, cl_13⟩ (by rw [np_399]; rfl) (by rw [np_399]; rfl) (ob_of (mk_thing ag (by first | exact hz1 | (simp only [rIS, rJS, rAS, rLS, rVS, rQS, rS_hold]; exact hz1)))) (Nat.le_of_ble_eq_true rfl) (c3  ) ?_
  show Bod _ _ _ _ [_] _ _ _
  refine Bod.ist dc_412_56 (by rw [ml_412]; exact Nat.le_of_ble_eq_true rfl) ?_
  refine Bod.go dc_412_58 rfl ?_
  refine Bod.ifT dc_412_60 rfl (by decide) ?_
  refine Bod.go dc_412_67 rfl ?_
  refine Bod.go dc_412_68 rfl ?_
  refine Bod.get dc_412_70 fr_412_472 (mk_thing ag (by first | exact hz2 | (simp only [rIS, rJS, rAS, rLS, rVS, rQS, rS_hold]; exact hz2))) rfl ?_
  refine Bod.eqI (nI fd11) (by first | assumption | (simp (disch := omega) only [rI, rIe, rA, rIA, rLA, rJA, rVI, rQI, rVA, rQA, upd_at,  rAI, rLI, rJI, nI_add, pk_sub, kc_0, kc_1, kc_2, kc_3, kc_4, kc_5, reduceIte, Nat.reduceEqDiff, Nat.add_zero, rI_hold, rI_hold, rL_hold, ht, hfd11]; done) | (simp (disch := omega) only [rI, rIe, rA, rIA, rLA, rJA, rVI, rQI, rVA, rQA, upd_at,  rAI, rLI, rJI, nI_add, pk_sub, kc_0, kc_1, kc_2, kc_3, kc_4, kc_5, reduceIte, Nat.reduceEqDiff, Nat.add_zero, rI_hold, rI_hold, rL_hold, ht, hfd11]; exact congrArg nI (by omega))) ?_
  refine Bod.go dc_412_73 rfl ?_
  refine Bod.virt (r := []) dc_412_74 kr_412_777 ⟨Or.inl rfl, ow_398, cl_14⟩ (by rw [np_398]; rfl) (by rw [np_398]; rfl) (ob_of (mk_61 _)) (Nat.le_of_ble_eq_true rfl) (c4  ) ?_
  show Bod _ _ _ _ [_] _ _ _
  refine Bod.ist dc_412_77 (by rw [ml_412]; exact Nat.le_of_ble_eq_true rfl) ?_
  refine Bod.go dc_412_79 rfl ?_
  refine Bod.ifF dc_412_81 rfl (by decide) ?_
  refine Bod.go dc_412_84 rfl ?_
  refine Bod.bip 9 (by decide) dc_412_85 ?_
  refine Bod.virt (r := []) dc_412_87 kr_412_608 ⟨Or.inl rfl, ow_351, cl_14⟩ (by rw [np_351]; rfl) (by rw [np_351]; rfl) (ob_of (mk_61 _)) (Nat.le_of_ble_eq_true rfl) (c5  ) ?_
  show Bod _ _ _ _ [_] _ _ _
  exact Bod.retZ dc_412_90 rt_412 (Or.inl rfl)
theorem rGa_23 {d : Nat} {S : cS} {nm : Nat} {t : Nat} {S1 : cS} {S2 : cS} {o : Nat} {g : Nat} {zg : Nat} {S3 : cS} {S4 : cS} {a : Nat} {g1 : Nat} {zg1 : Nat} {S5 : cS} {a1 : Nat} {fd0 : Nat} {t1 : Nat} {r : Nat} {N : Nat} {e : Nat} {r1 : Nat} {N1 : Nat} {r2 : Nat} {N2 : Nat} {S6 : cS} (mnm : nm < 2 ^ 20) (ht : sI S 6151 = nI t) (mt : t < 20481) (b1 : 1 ≤ t) (c1 : Ans (d + 8) 363 [.ref 61, .int (nI (t - 1)), .int (nI 5)] S (some (.int (nI 0))) S1) (c2 : Ans (d + 8) 363 [.ref 61, .int (nI (t - 1)), .int (nI 4)] S1 (some (.int (nI 1))) S2) (ho : (sL S2 92 (t - 1)).toInt32 = nI o) (mo : o < 1500) (ag : 108 ≤ g) (hq3 : sQ S2 86 o = some g) (c3 : Ans (d + 8) 399 [.ref g, .int (nI 0), .long ((nI nm).toInt64), .long 0] S2 (some (.int (Int32.ofInt (-1)))) S3) (hz1 : (sS S2)[g - 108]? = some (13, zg)) (hz2 : (sS S3)[g - 108]? = some (13, zg)) (n2 : sI S3 (100 * g + 11) = Int32.ofInt (-1)) (ma : a < 1500) (c4 : Ans (d + 8) 398 [.ref 61, .int (Int32.ofInt (-1)), .int (nI nm)] S3 (some (.int (nI a))) S4) (ag1 : 108 ≤ g1) (hq7 : sQ S4 86 a = some g1) (ma1 : a1 < 2 ^ 20) (c5 : Ans (d + 8) 399 [.ref g1, .int (nI 0), .long ((nI nm).toInt64), .long 0] S4 (some (.int (nI a1))) S5) (hz3 : (sS S4)[g1 - 108]? = some (13, zg1)) (hz4 : (sS S5)[g - 108]? = some (13, zg)) (hfd0 : sI S5 (100 * g + 0) = nI fd0) (mfd0 : fd0 < 2 ^ 20) (b3 : fd0 = 4) (ht1 : sI S5 6151 = nI t1) (mt1 : t1 < 20481) (b4 : 1 ≤ t1) (hz5 : (sS S5)[g1 - 108]? = some (13, zg1)) (hv1 : sV S5 (100 * g1 + 2) = .ref r) (hg1 : isK S5 r 0 N) (mN : N < 2 ^ 20) (b5 : a1 < N) (he : sA (wI 6151 (nI (t1 - 1)) S5) r a1 = nI e) (me : e < 2 ^ 20) (hv2 : sV S5 (100 * g1 + 4) = .ref r1) (hg2 : isK S5 r1 1 N1) (mN1 : N1 < 2 ^ 20) (b6 : a1 < N1) (hv3 : sV S5 (100 * g1 + 5) = .ref r2) (hg3 : isK S5 r2 1 N2) (mN2 : N2 < 2 ^ 20) (b7 : a1 < N2) (c6 : Ans (d + 8) 352 [.ref 61, .int (nI e), .long (sL (wI 6151 (nI (t1 - 1)) S5) r1 a1), .long (sL (wI 6151 (nI (t1 - 1)) S5) r2 a1)] (wI 6151 (nI (t1 - 1)) S5) none S6) : Bod (d + 8) 412 0 [(0, .ref 61), (1, .int (nI nm))] [] S (some (.int 1)) (S6) := by
  refine Bod.go dc_412_0 rfl ?_
  refine Bod.get dc_412_1 fr_412_493 (mk_61 _) rfl ?_
  refine Bod.eqI (nI t) (by first | assumption | rfl | exact congrArg nI (by omega) | (simp (disch := omega) only [rI, rIe, rA, rIA, rLA, rJA, rVI, rQI, rVA, rQA, upd_at,  rAI, rLI, rJI, nI_add, pk_sub, kc_0, kc_1, kc_2, kc_3, kc_4, kc_5, reduceIte, Nat.reduceEqDiff, Nat.add_zero, rI_hold, rI_hold, rL_hold, ht]; done)) ?_
  refine Bod.ic 1 (by decide) dc_412_4 ?_
  refine Bod.subN (t - 1) (by omega) (by omega) dc_412_5 ?_
  refine Bod.istn dc_412_6 (by rw [ml_412]; exact Nat.le_of_ble_eq_true rfl) ?_
  refine Bod.go dc_412_7 rfl ?_
  refine Bod.go dc_412_8 rfl ?_
  refine Bod.ic 5 (by decide) dc_412_9 ?_
  refine Bod.virt (r := []) dc_412_10 kr_412_683 ⟨Or.inl rfl, ow_363, cl_14⟩ (by rw [np_363]; rfl) (by rw [np_363]; rfl) (ob_of (mk_61 _)) (Nat.le_of_ble_eq_true rfl) (c1  ) ?_
  show Bod _ _ _ _ [_] _ _ _
  refine Bod.ifF dc_412_13 rfl (k1_ne_F (k_eq 0 0 rfl rfl (by omega))) ?_
  refine Bod.go dc_412_16 rfl ?_
  refine Bod.go dc_412_17 rfl ?_
  refine Bod.ic 4 (by decide) dc_412_18 ?_
  refine Bod.virt (r := []) dc_412_19 kr_412_683 ⟨Or.inl rfl, ow_363, cl_14⟩ (by rw [np_363]; rfl) (by rw [np_363]; rfl) (ob_of (mk_61 _)) (Nat.le_of_ble_eq_true rfl) (c2  ) ?_
  show Bod _ _ _ _ [_] _ _ _
  refine Bod.ifT dc_412_22 rfl (k1_ne_T (k_ne 1 0 rfl rfl (by omega) (by omega) (by omega))) ?_
  refine Bod.go dc_412_31 rfl ?_
  refine Bod.get dc_412_32 fr_412_499 (mk_61 _) rfl ?_
  refine Bod.go dc_412_35 rfl ?_
  refine Bod.laldN (t - 1) rfl (by omega) (by omega) dc_412_36 (mk_92 _) ?_
  refine Bod.go dc_412_37 rfl ?_
  refine Bod.eqI (nI o) (by first | exact ho | (simp only [rI, rIe, rA, rIA, rLA, rJA, rVI, rQI, rVA, rQA, upd_at,  rAI, rLI, rJI, nI_add, pk_sub, kc_0, kc_1, kc_2, kc_3, kc_4, kc_5, reduceIte, Nat.reduceEqDiff, Nat.add_zero, rI_hold, rI_hold, rL_hold]; exact ho)) ?_
  refine Bod.istn dc_412_38 (by rw [ml_412]; exact Nat.le_of_ble_eq_true rfl) ?_
  refine Bod.go dc_412_39 rfl ?_
  refine Bod.get dc_412_40 fr_412_485 (mk_61 _) rfl ?_
  refine Bod.go dc_412_43 rfl ?_
  refine Bod.aaldR (N := 1500) (b := g) o rfl (by omega) (by omega) (by first | exact hq3 | (simp only [rIQ, rJQ, rAQ, rLQ, rVQ, rQ_holdE]; exact hq3)) dc_412_44 (mk_86 _) ht_5 ?_
  refine Bod.ast dc_412_45 (by rw [ml_412]; exact Nat.le_of_ble_eq_true rfl) ?_
  refine Bod.go dc_412_47 rfl ?_
  refine Bod.ic 0 (by decide) dc_412_49 ?_
  refine Bod.go dc_412_50 rfl ?_
  refine Bod.go dc_412_51 rfl ?_
  refine Bod.go dc_412_52 rfl ?_
  refine Bod.virt (r := []) dc_412_53 kr_412_764 ⟨Or.inl rfl, ow_399, cl_13⟩ (by rw [np_399]; rfl) (by rw [np_399]; rfl) (ob_of (mk_thing ag (by first | exact hz1 | (simp only [rIS, rJS, rAS, rLS, rVS, rQS, rS_hold]; exact hz1)))) (Nat.le_of_ble_eq_true rfl) (c3  ) ?_
  show Bod _ _ _ _ [_] _ _ _
  refine Bod.ist dc_412_56 (by rw [ml_412]; exact Nat.le_of_ble_eq_true rfl) ?_
  refine Bod.go dc_412_58 rfl ?_
  refine Bod.ifT dc_412_60 rfl (by decide) ?_
  refine Bod.go dc_412_67 rfl ?_
  refine Bod.go dc_412_68 rfl ?_
  refine Bod.get dc_412_70 fr_412_472 (mk_thing ag (by first | exact hz2 | (simp only [rIS, rJS, rAS, rLS, rVS, rQS, rS_hold]; exact hz2))) rfl ?_
  refine Bod.eqI (Int32.ofInt (-1)) (by first | assumption | (simp (disch := omega) only [rI, rIe, rA, rIA, rLA, rJA, rVI, rQI, rVA, rQA, upd_at,  rAI, rLI, rJI, nI_add, pk_sub, kc_0, kc_1, kc_2, kc_3, kc_4, kc_5, reduceIte, Nat.reduceEqDiff, Nat.add_zero, rI_hold, rI_hold, rL_hold, ht, n2]; done) | (simp (disch := omega) only [rI, rIe, rA, rIA, rLA, rJA, rVI, rQI, rVA, rQA, upd_at,  rAI, rLI, rJI, nI_add, pk_sub, kc_0, kc_1, kc_2, kc_3, kc_4, kc_5, reduceIte, Nat.reduceEqDiff, Nat.add_zero, rI_hold, rI_hold, rL_hold, ht, n2]; exact congrArg nI (by omega))) ?_
  refine Bod.go dc_412_73 rfl ?_
  refine Bod.virt (r := []) dc_412_74 kr_412_777 ⟨Or.inl rfl, ow_398, cl_14⟩ (by rw [np_398]; rfl) (by rw [np_398]; rfl) (ob_of (mk_61 _)) (Nat.le_of_ble_eq_true rfl) (c4  ) ?_
  show Bod _ _ _ _ [_] _ _ _
  refine Bod.ist dc_412_77 (by rw [ml_412]; exact Nat.le_of_ble_eq_true rfl) ?_
  refine Bod.go dc_412_79 rfl ?_
  refine Bod.ifT dc_412_81 rfl (k1_ge_T a rfl (by omega)) ?_
  refine Bod.go dc_412_91 rfl ?_
  refine Bod.get dc_412_92 fr_412_485 (mk_61 _) rfl ?_
  refine Bod.go dc_412_95 rfl ?_
  refine Bod.aaldR (N := 1500) (b := g1) a rfl (by omega) (by omega) (by first | exact hq7 | (simp only [rIQ, rJQ, rAQ, rLQ, rVQ, rQ_holdE]; exact hq7)) dc_412_97 (mk_86 _) ht_5 ?_
  refine Bod.ast dc_412_98 (by rw [ml_412]; exact Nat.le_of_ble_eq_true rfl) ?_
  refine Bod.go dc_412_100 rfl ?_
  refine Bod.ic 0 (by decide) dc_412_102 ?_
  refine Bod.go dc_412_103 rfl ?_
  refine Bod.go dc_412_104 rfl ?_
  refine Bod.go dc_412_105 rfl ?_
  refine Bod.virt (r := []) dc_412_106 kr_412_764 ⟨Or.inl rfl, ow_399, cl_13⟩ (by rw [np_399]; rfl) (by rw [np_399]; rfl) (ob_of (mk_thing ag1 (by first | exact hz3 | (simp only [rIS, rJS, rAS, rLS, rVS, rQS, rS_hold]; exact hz3)))) (Nat.le_of_ble_eq_true rfl) (c5  ) ?_
  show Bod _ _ _ _ [_] _ _ _
  refine Bod.ist dc_412_109 (by rw [ml_412]; exact Nat.le_of_ble_eq_true rfl) ?_
  refine Bod.go dc_412_111 rfl ?_
  refine Bod.get dc_412_113 fr_412_531 (mk_thing ag (by first | exact hz4 | (simp only [rIS, rJS, rAS, rLS, rVS, rQS, rS_hold]; exact hz4))) rfl ?_
  refine Bod.eqI (nI fd0) (by first | assumption | (simp (disch := omega) only [rI, rIe, rA, rIA, rLA, rJA, rVI, rQI, rVA, rQA, upd_at,  rAI, rLI, rJI, nI_add, pk_sub, kc_0, kc_1, kc_2, kc_3, kc_4, kc_5, reduceIte, Nat.reduceEqDiff, Nat.add_zero, rI_hold, rI_hold, rL_hold, ht, n2, hfd0]; done) | (simp (disch := omega) only [rI, rIe, rA, rIA, rLA, rJA, rVI, rQI, rVA, rQA, upd_at,  rAI, rLI, rJI, nI_add, pk_sub, kc_0, kc_1, kc_2, kc_3, kc_4, kc_5, reduceIte, Nat.reduceEqDiff, Nat.add_zero, rI_hold, rI_hold, rL_hold, ht, n2, hfd0]; exact congrArg nI (by omega))) ?_
  refine Bod.ic 4 (by decide) dc_412_116 ?_
  refine Bod.icT dc_412_117 rfl (k2_eq_T (k_eq fd0 4 rfl rfl (by omega))) ?_
  refine Bod.go dc_412_158 rfl ?_
  refine Bod.go dc_412_159 rfl ?_
  refine Bod.get dc_412_160 fr_412_493 (mk_61 _) rfl ?_
  refine Bod.eqI (nI t1) (by first | assumption | (simp (disch := omega) only [rI, rIe, rA, rIA, rLA, rJA, rVI, rQI, rVA, rQA, upd_at,  rAI, rLI, rJI, nI_add, pk_sub, kc_0, kc_1, kc_2, kc_3, kc_4, kc_5, reduceIte, Nat.reduceEqDiff, Nat.add_zero, rI_hold, rI_hold, rL_hold, ht, n2, hfd0, ht1]; done) | (simp (disch := omega) only [rI, rIe, rA, rIA, rLA, rJA, rVI, rQI, rVA, rQA, upd_at,  rAI, rLI, rJI, nI_add, pk_sub, kc_0, kc_1, kc_2, kc_3, kc_4, kc_5, reduceIte, Nat.reduceEqDiff, Nat.add_zero, rI_hold, rI_hold, rL_hold, ht, n2, hfd0, ht1]; exact congrArg nI (by omega))) ?_
  refine Bod.ic 1 (by decide) dc_412_163 ?_
  refine Bod.subN (t1 - 1) (by omega) (by omega) dc_412_164 ?_
  refine Bod.put dc_412_165 fr_412_493 (mk_61 _) (Nat.le_of_ble_eq_true rfl) pf_14_51 (st_6151 _ _) (mu_I _ _ _) ?_
  refine Bod.go dc_412_168 rfl ?_
  refine Bod.go dc_412_169 rfl ?_
  refine Bod.get dc_412_171 fr_412_462 (mk_thing ag1 (by first | exact hz5 | (simp only [rIS, rJS, rAS, rLS, rVS, rQS, rS_hold]; exact hz5))) rfl ?_
  refine Bod.eqV (.ref r) (by first | exact hv1 | (simp only [rIV, rJV, rAV, rLV, rQV, rV, reduceIte, Nat.reduceEqDiff]; exact hv1)) ?_
  refine Bod.go dc_412_174 rfl ?_
  refine Bod.ialdN (N := N) a1 rfl (by omega) (by omega) dc_412_176 (mk_isI (by first | exact hg1 | exact isK_S (by simp only [rIS, rJS, rAS, rLS, rVS, rQS, rS_hold]) hg1)) ?_
  refine Bod.eqI (nI e) (by first | assumption | (simp (disch := omega) only [rI, rIe, rA, rIA, rLA, rJA, rVI, rQI, rVA, rQA, upd_at,  rAI, rLI, rJI, nI_add, pk_sub, kc_0, kc_1, kc_2, kc_3, kc_4, kc_5, reduceIte, Nat.reduceEqDiff, Nat.add_zero, rI_hold, rI_hold, rL_hold, ht, n2, hfd0, ht1, he]; done) | (simp (disch := omega) only [rI, rIe, rA, rIA, rLA, rJA, rVI, rQI, rVA, rQA, upd_at,  rAI, rLI, rJI, nI_add, pk_sub, kc_0, kc_1, kc_2, kc_3, kc_4, kc_5, reduceIte, Nat.reduceEqDiff, Nat.add_zero, rI_hold, rI_hold, rL_hold, ht, n2, hfd0, ht1, he]; exact congrArg nI (by omega))) ?_
  refine Bod.go dc_412_177 rfl ?_
  refine Bod.get dc_412_179 fr_412_465 (mk_thing ag1 (by first | exact hz5 | (simp only [rIS, rJS, rAS, rLS, rVS, rQS, rS_hold]; exact hz5))) rfl ?_
  refine Bod.eqV (.ref r1) (by first | exact hv2 | (simp only [rIV, rJV, rAV, rLV, rQV, rV, reduceIte, Nat.reduceEqDiff]; exact hv2)) ?_
  refine Bod.go dc_412_182 rfl ?_
  refine Bod.laldN (N := N1) a1 rfl (by omega) (by omega) dc_412_184 (mk_isL (by first | exact hg2 | exact isK_S (by simp only [rIS, rJS, rAS, rLS, rVS, rQS, rS_hold]) hg2)) ?_
  refine Bod.go dc_412_185 rfl ?_
  refine Bod.get dc_412_187 fr_412_627 (mk_thing ag1 (by first | exact hz5 | (simp only [rIS, rJS, rAS, rLS, rVS, rQS, rS_hold]; exact hz5))) rfl ?_
  refine Bod.eqV (.ref r2) (by first | exact hv3 | (simp only [rIV, rJV, rAV, rLV, rQV, rV, reduceIte, Nat.reduceEqDiff]; exact hv3)) ?_
  refine Bod.go dc_412_190 rfl ?_
  refine Bod.laldN (N := N2) a1 rfl (by omega) (by omega) dc_412_192 (mk_isL (by first | exact hg3 | exact isK_S (by simp only [rIS, rJS, rAS, rLS, rVS, rQS, rS_hold]) hg3)) ?_
  refine Bod.virt (r := []) dc_412_193 kr_412_549 ⟨Or.inl rfl, ow_352, cl_14⟩ (by rw [np_352]; rfl) (by rw [np_352]; rfl) (ob_of (mk_61 _)) (Nat.le_of_ble_eq_true rfl) (c6  ) ?_
  show Bod _ _ _ _ [] _ _ _
  refine Bod.ic 1 (by decide) dc_412_196 ?_
  exact Bod.retZ dc_412_197 rt_412 (Or.inr rfl)
theorem rGa_24 {d : Nat} {S : cS} {nm : Nat} {t : Nat} {S1 : cS} {S2 : cS} {o : Nat} {g : Nat} {zg : Nat} {S3 : cS} {S4 : cS} {a : Nat} {g1 : Nat} {zg1 : Nat} {S5 : cS} {a1 : Nat} {fd0 : Nat} {r : Nat} {N : Nat} {e : Nat} {t1 : Nat} {r1 : Nat} {N1 : Nat} {r2 : Nat} {N2 : Nat} {S6 : cS} (mnm : nm < 2 ^ 20) (ht : sI S 6151 = nI t) (mt : t < 20481) (b1 : 1 ≤ t) (c1 : Ans (d + 8) 363 [.ref 61, .int (nI (t - 1)), .int (nI 5)] S (some (.int (nI 0))) S1) (c2 : Ans (d + 8) 363 [.ref 61, .int (nI (t - 1)), .int (nI 4)] S1 (some (.int (nI 1))) S2) (ho : (sL S2 92 (t - 1)).toInt32 = nI o) (mo : o < 1500) (ag : 108 ≤ g) (hq3 : sQ S2 86 o = some g) (c3 : Ans (d + 8) 399 [.ref g, .int (nI 0), .long ((nI nm).toInt64), .long 0] S2 (some (.int (Int32.ofInt (-1)))) S3) (hz1 : (sS S2)[g - 108]? = some (13, zg)) (hz2 : (sS S3)[g - 108]? = some (13, zg)) (n2 : sI S3 (100 * g + 11) = Int32.ofInt (-1)) (ma : a < 1500) (c4 : Ans (d + 8) 398 [.ref 61, .int (Int32.ofInt (-1)), .int (nI nm)] S3 (some (.int (nI a))) S4) (ag1 : 108 ≤ g1) (hq7 : sQ S4 86 a = some g1) (ma1 : a1 < 2 ^ 20) (c5 : Ans (d + 8) 399 [.ref g1, .int (nI 0), .long ((nI nm).toInt64), .long 0] S4 (some (.int (nI a1))) S5) (hz3 : (sS S4)[g1 - 108]? = some (13, zg1)) (hz4 : (sS S5)[g - 108]? = some (13, zg)) (hfd0 : sI S5 (100 * g + 0) = nI fd0) (mfd0 : fd0 < 2 ^ 20) (b3 : fd0 ≠ 4) (hz5 : (sS S5)[g1 - 108]? = some (13, zg1)) (hv1 : sV S5 (100 * g1 + 2) = .ref r) (hg1 : isK S5 r 0 N) (mN : N < 2 ^ 20) (b4 : a1 < N) (he : sA S5 r a1 = nI e) (me : e < 2 ^ 20) (b5 : e ≠ 3) (ht1 : sI S5 6151 = nI t1) (mt1 : t1 < 20481) (b6 : 1 ≤ t1) (hv2 : sV S5 (100 * g1 + 4) = .ref r1) (hg2 : isK S5 r1 1 N1) (mN1 : N1 < 2 ^ 20) (b7 : a1 < N1) (hv3 : sV S5 (100 * g1 + 5) = .ref r2) (hg3 : isK S5 r2 1 N2) (mN2 : N2 < 2 ^ 20) (b8 : a1 < N2) (c6 : Ans (d + 8) 352 [.ref 61, .int (nI e), .long (sL (wI 6151 (nI (t1 - 1)) S5) r1 a1), .long (sL (wI 6151 (nI (t1 - 1)) S5) r2 a1)] (wI 6151 (nI (t1 - 1)) S5) none S6) : Bod (d + 8) 412 0 [(0, .ref 61), (1, .int (nI nm))] [] S (some (.int 1)) (S6) := by
  refine Bod.go dc_412_0 rfl ?_
  refine Bod.get dc_412_1 fr_412_493 (mk_61 _) rfl ?_
  refine Bod.eqI (nI t) (by first | assumption | rfl | exact congrArg nI (by omega) | (simp (disch := omega) only [rI, rIe, rA, rIA, rLA, rJA, rVI, rQI, rVA, rQA, upd_at,  rAI, rLI, rJI, nI_add, pk_sub, kc_0, kc_1, kc_2, kc_3, kc_4, kc_5, reduceIte, Nat.reduceEqDiff, Nat.add_zero, rI_hold, rI_hold, rL_hold, ht]; done)) ?_
  refine Bod.ic 1 (by decide) dc_412_4 ?_
  refine Bod.subN (t - 1) (by omega) (by omega) dc_412_5 ?_
  refine Bod.istn dc_412_6 (by rw [ml_412]; exact Nat.le_of_ble_eq_true rfl) ?_
  refine Bod.go dc_412_7 rfl ?_
  refine Bod.go dc_412_8 rfl ?_
  refine Bod.ic 5 (by decide) dc_412_9 ?_
  refine Bod.virt (r := []) dc_412_10 kr_412_683 ⟨Or.inl rfl, ow_363, cl_14⟩ (by rw [np_363]; rfl) (by rw [np_363]; rfl) (ob_of (mk_61 _)) (Nat.le_of_ble_eq_true rfl) (c1  ) ?_
  show Bod _ _ _ _ [_] _ _ _
  refine Bod.ifF dc_412_13 rfl (k1_ne_F (k_eq 0 0 rfl rfl (by omega))) ?_
  refine Bod.go dc_412_16 rfl ?_
  refine Bod.go dc_412_17 rfl ?_
  refine Bod.ic 4 (by decide) dc_412_18 ?_
  refine Bod.virt (r := []) dc_412_19 kr_412_683 ⟨Or.inl rfl, ow_363, cl_14⟩ (by rw [np_363]; rfl) (by rw [np_363]; rfl) (ob_of (mk_61 _)) (Nat.le_of_ble_eq_true rfl) (c2  ) ?_
  show Bod _ _ _ _ [_] _ _ _
  refine Bod.ifT dc_412_22 rfl (k1_ne_T (k_ne 1 0 rfl rfl (by omega) (by omega) (by omega))) ?_
  refine Bod.go dc_412_31 rfl ?_
  refine Bod.get dc_412_32 fr_412_499 (mk_61 _) rfl ?_
  refine Bod.go dc_412_35 rfl ?_
  refine Bod.laldN (t - 1) rfl (by omega) (by omega) dc_412_36 (mk_92 _) ?_
  refine Bod.go dc_412_37 rfl ?_
  refine Bod.eqI (nI o) (by first | exact ho | (simp only [rI, rIe, rA, rIA, rLA, rJA, rVI, rQI, rVA, rQA, upd_at,  rAI, rLI, rJI, nI_add, pk_sub, kc_0, kc_1, kc_2, kc_3, kc_4, kc_5, reduceIte, Nat.reduceEqDiff, Nat.add_zero, rI_hold, rI_hold, rL_hold]; exact ho)) ?_
  refine Bod.istn dc_412_38 (by rw [ml_412]; exact Nat.le_of_ble_eq_true rfl) ?_
  refine Bod.go dc_412_39 rfl ?_
  refine Bod.get dc_412_40 fr_412_485 (mk_61 _) rfl ?_
  refine Bod.go dc_412_43 rfl ?_
  refine Bod.aaldR (N := 1500) (b := g) o rfl (by omega) (by omega) (by first | exact hq3 | (simp only [rIQ, rJQ, rAQ, rLQ, rVQ, rQ_holdE]; exact hq3)) dc_412_44 (mk_86 _) ht_5 ?_
  refine Bod.ast dc_412_45 (by rw [ml_412]; exact Nat.le_of_ble_eq_true rfl) ?_
  refine Bod.go dc_412_47 rfl ?_
  refine Bod.ic 0 (by decide) dc_412_49 ?_
  refine Bod.go dc_412_50 rfl ?_
  refine Bod.go dc_412_51 rfl ?_
  refine Bod.go dc_412_52 rfl ?_
  refine Bod.virt (r := []) dc_412_53 kr_412_764 ⟨Or.inl rfl, ow_399, cl_13⟩ (by rw [np_399]; rfl) (by rw [np_399]; rfl) (ob_of (mk_thing ag (by first | exact hz1 | (simp only [rIS, rJS, rAS, rLS, rVS, rQS, rS_hold]; exact hz1)))) (Nat.le_of_ble_eq_true rfl) (c3  ) ?_
  show Bod _ _ _ _ [_] _ _ _
  refine Bod.ist dc_412_56 (by rw [ml_412]; exact Nat.le_of_ble_eq_true rfl) ?_
  refine Bod.go dc_412_58 rfl ?_
  refine Bod.ifT dc_412_60 rfl (by decide) ?_
  refine Bod.go dc_412_67 rfl ?_
  refine Bod.go dc_412_68 rfl ?_
  refine Bod.get dc_412_70 fr_412_472 (mk_thing ag (by first | exact hz2 | (simp only [rIS, rJS, rAS, rLS, rVS, rQS, rS_hold]; exact hz2))) rfl ?_
  refine Bod.eqI (Int32.ofInt (-1)) (by first | assumption | (simp (disch := omega) only [rI, rIe, rA, rIA, rLA, rJA, rVI, rQI, rVA, rQA, upd_at,  rAI, rLI, rJI, nI_add, pk_sub, kc_0, kc_1, kc_2, kc_3, kc_4, kc_5, reduceIte, Nat.reduceEqDiff, Nat.add_zero, rI_hold, rI_hold, rL_hold, ht, n2]; done) | (simp (disch := omega) only [rI, rIe, rA, rIA, rLA, rJA, rVI, rQI, rVA, rQA, upd_at,  rAI, rLI, rJI, nI_add, pk_sub, kc_0, kc_1, kc_2, kc_3, kc_4, kc_5, reduceIte, Nat.reduceEqDiff, Nat.add_zero, rI_hold, rI_hold, rL_hold, ht, n2]; exact congrArg nI (by omega))) ?_
  refine Bod.go dc_412_73 rfl ?_
  refine Bod.virt (r := []) dc_412_74 kr_412_777 ⟨Or.inl rfl, ow_398, cl_14⟩ (by rw [np_398]; rfl) (by rw [np_398]; rfl) (ob_of (mk_61 _)) (Nat.le_of_ble_eq_true rfl) (c4  ) ?_
  show Bod _ _ _ _ [_] _ _ _
  refine Bod.ist dc_412_77 (by rw [ml_412]; exact Nat.le_of_ble_eq_true rfl) ?_
  refine Bod.go dc_412_79 rfl ?_
  refine Bod.ifT dc_412_81 rfl (k1_ge_T a rfl (by omega)) ?_
  refine Bod.go dc_412_91 rfl ?_
  refine Bod.get dc_412_92 fr_412_485 (mk_61 _) rfl ?_
  refine Bod.go dc_412_95 rfl ?_
  refine Bod.aaldR (N := 1500) (b := g1) a rfl (by omega) (by omega) (by first | exact hq7 | (simp only [rIQ, rJQ, rAQ, rLQ, rVQ, rQ_holdE]; exact hq7)) dc_412_97 (mk_86 _) ht_5 ?_
  refine Bod.ast dc_412_98 (by rw [ml_412]; exact Nat.le_of_ble_eq_true rfl) ?_
  refine Bod.go dc_412_100 rfl ?_
  refine Bod.ic 0 (by decide) dc_412_102 ?_
  refine Bod.go dc_412_103 rfl ?_
  refine Bod.go dc_412_104 rfl ?_
  refine Bod.go dc_412_105 rfl ?_
  refine Bod.virt (r := []) dc_412_106 kr_412_764 ⟨Or.inl rfl, ow_399, cl_13⟩ (by rw [np_399]; rfl) (by rw [np_399]; rfl) (ob_of (mk_thing ag1 (by first | exact hz3 | (simp only [rIS, rJS, rAS, rLS, rVS, rQS, rS_hold]; exact hz3)))) (Nat.le_of_ble_eq_true rfl) (c5  ) ?_
  show Bod _ _ _ _ [_] _ _ _
  refine Bod.ist dc_412_109 (by rw [ml_412]; exact Nat.le_of_ble_eq_true rfl) ?_
  refine Bod.go dc_412_111 rfl ?_
  refine Bod.get dc_412_113 fr_412_531 (mk_thing ag (by first | exact hz4 | (simp only [rIS, rJS, rAS, rLS, rVS, rQS, rS_hold]; exact hz4))) rfl ?_
  refine Bod.eqI (nI fd0) (by first | assumption | (simp (disch := omega) only [rI, rIe, rA, rIA, rLA, rJA, rVI, rQI, rVA, rQA, upd_at,  rAI, rLI, rJI, nI_add, pk_sub, kc_0, kc_1, kc_2, kc_3, kc_4, kc_5, reduceIte, Nat.reduceEqDiff, Nat.add_zero, rI_hold, rI_hold, rL_hold, ht, n2, hfd0]; done) | (simp (disch := omega) only [rI, rIe, rA, rIA, rLA, rJA, rVI, rQI, rVA, rQA, upd_at,  rAI, rLI, rJI, nI_add, pk_sub, kc_0, kc_1, kc_2, kc_3, kc_4, kc_5, reduceIte, Nat.reduceEqDiff, Nat.add_zero, rI_hold, rI_hold, rL_hold, ht, n2, hfd0]; exact congrArg nI (by omega))) ?_
  refine Bod.ic 4 (by decide) dc_412_116 ?_
  refine Bod.icF dc_412_117 rfl (k2_eq_F (k_ne fd0 4 rfl rfl (by omega) (by omega) (by omega))) ?_
  refine Bod.go dc_412_120 rfl ?_
  refine Bod.ifF dc_412_122 rfl (by decide) ?_
  refine Bod.go dc_412_125 rfl ?_
  refine Bod.get dc_412_127 fr_412_462 (mk_thing ag1 (by first | exact hz5 | (simp only [rIS, rJS, rAS, rLS, rVS, rQS, rS_hold]; exact hz5))) rfl ?_
  refine Bod.eqV (.ref r) (by first | exact hv1 | (simp only [rIV, rJV, rAV, rLV, rQV, rV, reduceIte, Nat.reduceEqDiff]; exact hv1)) ?_
  refine Bod.go dc_412_130 rfl ?_
  refine Bod.ialdN (N := N) a1 rfl (by omega) (by omega) dc_412_132 (mk_isI (by first | exact hg1 | exact isK_S (by simp only [rIS, rJS, rAS, rLS, rVS, rQS, rS_hold]) hg1)) ?_
  refine Bod.eqI (nI e) (by first | assumption | (simp (disch := omega) only [rI, rIe, rA, rIA, rLA, rJA, rVI, rQI, rVA, rQA, upd_at,  rAI, rLI, rJI, nI_add, pk_sub, kc_0, kc_1, kc_2, kc_3, kc_4, kc_5, reduceIte, Nat.reduceEqDiff, Nat.add_zero, rI_hold, rI_hold, rL_hold, ht, n2, hfd0, he]; done) | (simp (disch := omega) only [rI, rIe, rA, rIA, rLA, rJA, rVI, rQI, rVA, rQA, upd_at,  rAI, rLI, rJI, nI_add, pk_sub, kc_0, kc_1, kc_2, kc_3, kc_4, kc_5, reduceIte, Nat.reduceEqDiff, Nat.add_zero, rI_hold, rI_hold, rL_hold, ht, n2, hfd0, he]; exact congrArg nI (by omega))) ?_
  refine Bod.ic 3 (by decide) dc_412_133 ?_
  refine Bod.icT dc_412_134 rfl (k2_ne_T (k_ne e 3 rfl rfl (by omega) (by omega) (by omega))) ?_
  refine Bod.go dc_412_158 rfl ?_
  refine Bod.go dc_412_159 rfl ?_
  refine Bod.get dc_412_160 fr_412_493 (mk_61 _) rfl ?_
  refine Bod.eqI (nI t1) (by first | assumption | (simp (disch := omega) only [rI, rIe, rA, rIA, rLA, rJA, rVI, rQI, rVA, rQA, upd_at,  rAI, rLI, rJI, nI_add, pk_sub, kc_0, kc_1, kc_2, kc_3, kc_4, kc_5, reduceIte, Nat.reduceEqDiff, Nat.add_zero, rI_hold, rI_hold, rL_hold, ht, n2, hfd0, he, ht1]; done) | (simp (disch := omega) only [rI, rIe, rA, rIA, rLA, rJA, rVI, rQI, rVA, rQA, upd_at,  rAI, rLI, rJI, nI_add, pk_sub, kc_0, kc_1, kc_2, kc_3, kc_4, kc_5, reduceIte, Nat.reduceEqDiff, Nat.add_zero, rI_hold, rI_hold, rL_hold, ht, n2, hfd0, he, ht1]; exact congrArg nI (by omega))) ?_
  refine Bod.ic 1 (by decide) dc_412_163 ?_
  refine Bod.subN (t1 - 1) (by omega) (by omega) dc_412_164 ?_
  refine Bod.put dc_412_165 fr_412_493 (mk_61 _) (Nat.le_of_ble_eq_true rfl) pf_14_51 (st_6151 _ _) (mu_I _ _ _) ?_
  refine Bod.go dc_412_168 rfl ?_
  refine Bod.go dc_412_169 rfl ?_
  refine Bod.get dc_412_171 fr_412_462 (mk_thing ag1 (by first | exact hz5 | (simp only [rIS, rJS, rAS, rLS, rVS, rQS, rS_hold]; exact hz5))) rfl ?_
  refine Bod.eqV (.ref r) (by first | exact hv1 | (simp only [rIV, rJV, rAV, rLV, rQV, rV, reduceIte, Nat.reduceEqDiff]; exact hv1)) ?_
  refine Bod.go dc_412_174 rfl ?_
  refine Bod.ialdN (N := N) a1 rfl (by omega) (by omega) dc_412_176 (mk_isI (by first | exact hg1 | exact isK_S (by simp only [rIS, rJS, rAS, rLS, rVS, rQS, rS_hold]) hg1)) ?_
  refine Bod.eqI (nI e) (by first | assumption | (simp (disch := omega) only [rI, rIe, rA, rIA, rLA, rJA, rVI, rQI, rVA, rQA, upd_at,  rAI, rLI, rJI, nI_add, pk_sub, kc_0, kc_1, kc_2, kc_3, kc_4, kc_5, reduceIte, Nat.reduceEqDiff, Nat.add_zero, rI_hold, rI_hold, rL_hold, ht, n2, hfd0, he, ht1]; done) | (simp (disch := omega) only [rI, rIe, rA, rIA, rLA, rJA, rVI, rQI, rVA, rQA, upd_at,  rAI, rLI, rJI, nI_add, pk_sub, kc_0, kc_1, kc_2, kc_3, kc_4, kc_5, reduceIte, Nat.reduceEqDiff, Nat.add_zero, rI_hold, rI_hold, rL_hold, ht, n2, hfd0, he, ht1]; exact congrArg nI (by omega))) ?_
  refine Bod.go dc_412_177 rfl ?_
  refine Bod.get dc_412_179 fr_412_465 (mk_thing ag1 (by first | exact hz5 | (simp only [rIS, rJS, rAS, rLS, rVS, rQS, rS_hold]; exact hz5))) rfl ?_
  refine Bod.eqV (.ref r1) (by first | exact hv2 | (simp only [rIV, rJV, rAV, rLV, rQV, rV, reduceIte, Nat.reduceEqDiff]; exact hv2)) ?_
  refine Bod.go dc_412_182 rfl ?_
  refine Bod.laldN (N := N1) a1 rfl (by omega) (by omega) dc_412_184 (mk_isL (by first | exact hg2 | exact isK_S (by simp only [rIS, rJS, rAS, rLS, rVS, rQS, rS_hold]) hg2)) ?_
  refine Bod.go dc_412_185 rfl ?_
  refine Bod.get dc_412_187 fr_412_627 (mk_thing ag1 (by first | exact hz5 | (simp only [rIS, rJS, rAS, rLS, rVS, rQS, rS_hold]; exact hz5))) rfl ?_
  refine Bod.eqV (.ref r2) (by first | exact hv3 | (simp only [rIV, rJV, rAV, rLV, rQV, rV, reduceIte, Nat.reduceEqDiff]; exact hv3)) ?_
  refine Bod.go dc_412_190 rfl ?_
  refine Bod.laldN (N := N2) a1 rfl (by omega) (by omega) dc_412_192 (mk_isL (by first | exact hg3 | exact isK_S (by simp only [rIS, rJS, rAS, rLS, rVS, rQS, rS_hold]) hg3)) ?_
  refine Bod.virt (r := []) dc_412_193 kr_412_549 ⟨Or.inl rfl, ow_352, cl_14⟩ (by rw [np_352]; rfl) (by rw [np_352]; rfl) (ob_of (mk_61 _)) (Nat.le_of_ble_eq_true rfl) (c6  ) ?_
  show Bod _ _ _ _ [] _ _ _
  refine Bod.ic 1 (by decide) dc_412_196 ?_
  exact Bod.retZ dc_412_197 rt_412 (Or.inr rfl)
theorem rGa_25 {d : Nat} {S : cS} {nm : Nat} {t : Nat} {S1 : cS} {S2 : cS} {o : Nat} {g : Nat} {zg : Nat} {S3 : cS} {S4 : cS} {a : Nat} {g1 : Nat} {zg1 : Nat} {S5 : cS} {a1 : Nat} {fd0 : Nat} {r : Nat} {N : Nat} {e : Nat} {r1 : Nat} {N1 : Nat} {o1 : Nat} {g2 : Nat} {zg2 : Nat} {fd01 : Nat} {S6 : cS} {a2 : Nat} {g3 : Nat} {zg3 : Nat} {r2 : Nat} {N2 : Nat} {o2 : Nat} {t1 : Nat} {S7 : cS} (mnm : nm < 2 ^ 20) (ht : sI S 6151 = nI t) (mt : t < 20481) (b1 : 1 ≤ t) (c1 : Ans (d + 8) 363 [.ref 61, .int (nI (t - 1)), .int (nI 5)] S (some (.int (nI 0))) S1) (c2 : Ans (d + 8) 363 [.ref 61, .int (nI (t - 1)), .int (nI 4)] S1 (some (.int (nI 1))) S2) (ho : (sL S2 92 (t - 1)).toInt32 = nI o) (mo : o < 1500) (ag : 108 ≤ g) (hq3 : sQ S2 86 o = some g) (c3 : Ans (d + 8) 399 [.ref g, .int (nI 0), .long ((nI nm).toInt64), .long 0] S2 (some (.int (Int32.ofInt (-1)))) S3) (hz1 : (sS S2)[g - 108]? = some (13, zg)) (hz2 : (sS S3)[g - 108]? = some (13, zg)) (n2 : sI S3 (100 * g + 11) = Int32.ofInt (-1)) (ma : a < 1500) (c4 : Ans (d + 8) 398 [.ref 61, .int (Int32.ofInt (-1)), .int (nI nm)] S3 (some (.int (nI a))) S4) (ag1 : 108 ≤ g1) (hq7 : sQ S4 86 a = some g1) (ma1 : a1 < 2 ^ 20) (c5 : Ans (d + 8) 399 [.ref g1, .int (nI 0), .long ((nI nm).toInt64), .long 0] S4 (some (.int (nI a1))) S5) (hz3 : (sS S4)[g1 - 108]? = some (13, zg1)) (hz4 : (sS S5)[g - 108]? = some (13, zg)) (hfd0 : sI S5 (100 * g + 0) = nI fd0) (mfd0 : fd0 < 2 ^ 20) (b3 : fd0 ≠ 4) (hz5 : (sS S5)[g1 - 108]? = some (13, zg1)) (hv1 : sV S5 (100 * g1 + 2) = .ref r) (hg1 : isK S5 r 0 N) (mN : N < 2 ^ 20) (b4 : a1 < N) (he : sA S5 r a1 = nI e) (me : e < 2 ^ 20) (b5 : e = 3) (hv2 : sV S5 (100 * g1 + 4) = .ref r1) (hg2 : isK S5 r1 1 N1) (mN1 : N1 < 2 ^ 20) (b6 : a1 < N1) (ho1 : (sL S5 r1 a1).toInt32 = nI o1) (mo1 : o1 < 1500) (ag2 : 108 ≤ g2) (hq16 : sQ S5 86 o1 = some g2) (hz6 : (sS S5)[g2 - 108]? = some (13, zg2)) (hfd01 : sI S5 (100 * g2 + 0) = nI fd01) (mfd01 : fd01 < 2 ^ 20) (b7 : fd01 = 3) (ma2 : a2 < 1500) (c6 : Ans (d + 8) 364 [.ref 61, .int (nI 6)] S5 (some (.int (nI a2))) S6) (ag3 : 108 ≤ g3) (hq19 : sQ S6 86 a2 = some g3) (hz7 : (sS S6)[g1 - 108]? = some (13, zg1)) (hv3 : sV S6 (100 * g1 + 4) = .ref r2) (hg3 : isK S6 r2 1 N2) (mN2 : N2 < 2 ^ 20) (b8 : a1 < N2) (ho2 : (sL S6 r2 a1).toInt32 = nI o2) (mo2 : o2 < 1500) (hz8 : (sS S6)[g3 - 108]? = some (13, zg3)) (ht1 : sI (wI (100 * g3 + 12) (nI o) (wI (100 * g3 + 11) (nI o2) S6)) 6151 = nI t1) (mt1 : t1 < 20481) (b9 : 1 ≤ t1) (c7 : Ans (d + 8) 352 [.ref 61, .int (nI 3), .long ((nI a2).toInt64), .long 0] (wI 6151 (nI (t1 - 1)) (wI (100 * g3 + 12) (nI o) (wI (100 * g3 + 11) (nI o2) S6))) none S7) : Bod (d + 8) 412 0 [(0, .ref 61), (1, .int (nI nm))] [] S (some (.int 1)) (S7) := by
  refine Bod.go dc_412_0 rfl ?_
  refine Bod.get dc_412_1 fr_412_493 (mk_61 _) rfl ?_
  refine Bod.eqI (nI t) (by first | assumption | rfl | exact congrArg nI (by omega) | (simp (disch := omega) only [rI, rIe, rA, rIA, rLA, rJA, rVI, rQI, rVA, rQA, upd_at,  rAI, rLI, rJI, nI_add, pk_sub, kc_0, kc_1, kc_2, kc_3, kc_4, kc_5, reduceIte, Nat.reduceEqDiff, Nat.add_zero, rI_hold, rI_hold, rL_hold, ht]; done)) ?_
  refine Bod.ic 1 (by decide) dc_412_4 ?_
  refine Bod.subN (t - 1) (by omega) (by omega) dc_412_5 ?_
  refine Bod.istn dc_412_6 (by rw [ml_412]; exact Nat.le_of_ble_eq_true rfl) ?_
  refine Bod.go dc_412_7 rfl ?_
  refine Bod.go dc_412_8 rfl ?_
  refine Bod.ic 5 (by decide) dc_412_9 ?_
  refine Bod.virt (r := []) dc_412_10 kr_412_683 ⟨Or.inl rfl, ow_363, cl_14⟩ (by rw [np_363]; rfl) (by rw [np_363]; rfl) (ob_of (mk_61 _)) (Nat.le_of_ble_eq_true rfl) (c1  ) ?_
  show Bod _ _ _ _ [_] _ _ _
  refine Bod.ifF dc_412_13 rfl (k1_ne_F (k_eq 0 0 rfl rfl (by omega))) ?_
  refine Bod.go dc_412_16 rfl ?_
  refine Bod.go dc_412_17 rfl ?_
  refine Bod.ic 4 (by decide) dc_412_18 ?_
  refine Bod.virt (r := []) dc_412_19 kr_412_683 ⟨Or.inl rfl, ow_363, cl_14⟩ (by rw [np_363]; rfl) (by rw [np_363]; rfl) (ob_of (mk_61 _)) (Nat.le_of_ble_eq_true rfl) (c2  ) ?_
  show Bod _ _ _ _ [_] _ _ _
  refine Bod.ifT dc_412_22 rfl (k1_ne_T (k_ne 1 0 rfl rfl (by omega) (by omega) (by omega))) ?_
  refine Bod.go dc_412_31 rfl ?_
  refine Bod.get dc_412_32 fr_412_499 (mk_61 _) rfl ?_
  refine Bod.go dc_412_35 rfl ?_
  refine Bod.laldN (t - 1) rfl (by omega) (by omega) dc_412_36 (mk_92 _) ?_
  refine Bod.go dc_412_37 rfl ?_
  refine Bod.eqI (nI o) (by first | exact ho | (simp only [rI, rIe, rA, rIA, rLA, rJA, rVI, rQI, rVA, rQA, upd_at,  rAI, rLI, rJI, nI_add, pk_sub, kc_0, kc_1, kc_2, kc_3, kc_4, kc_5, reduceIte, Nat.reduceEqDiff, Nat.add_zero, rI_hold, rI_hold, rL_hold]; exact ho)) ?_
  refine Bod.istn dc_412_38 (by rw [ml_412]; exact Nat.le_of_ble_eq_true rfl) ?_
  refine Bod.go dc_412_39 rfl ?_
  refine Bod.get dc_412_40 fr_412_485 (mk_61 _) rfl ?_
  refine Bod.go dc_412_43 rfl ?_
  refine Bod.aaldR (N := 1500) (b := g) o rfl (by omega) (by omega) (by first | exact hq3 | (simp only [rIQ, rJQ, rAQ, rLQ, rVQ, rQ_holdE]; exact hq3)) dc_412_44 (mk_86 _) ht_5 ?_
  refine Bod.ast dc_412_45 (by rw [ml_412]; exact Nat.le_of_ble_eq_true rfl) ?_
  refine Bod.go dc_412_47 rfl ?_
  refine Bod.ic 0 (by decide) dc_412_49 ?_
  refine Bod.go dc_412_50 rfl ?_
  refine Bod.go dc_412_51 rfl ?_
  refine Bod.go dc_412_52 rfl ?_
  refine Bod.virt (r := []) dc_412_53 kr_412_764 ⟨Or.inl rfl, ow_399, cl_13⟩ (by rw [np_399]; rfl) (by rw [np_399]; rfl) (ob_of (mk_thing ag (by first | exact hz1 | (simp only [rIS, rJS, rAS, rLS, rVS, rQS, rS_hold]; exact hz1)))) (Nat.le_of_ble_eq_true rfl) (c3  ) ?_
  show Bod _ _ _ _ [_] _ _ _
  refine Bod.ist dc_412_56 (by rw [ml_412]; exact Nat.le_of_ble_eq_true rfl) ?_
  refine Bod.go dc_412_58 rfl ?_
  refine Bod.ifT dc_412_60 rfl (by decide) ?_
  refine Bod.go dc_412_67 rfl ?_
  refine Bod.go dc_412_68 rfl ?_
  refine Bod.get dc_412_70 fr_412_472 (mk_thing ag (by first | exact hz2 | (simp only [rIS, rJS, rAS, rLS, rVS, rQS, rS_hold]; exact hz2))) rfl ?_
  refine Bod.eqI (Int32.ofInt (-1)) (by first | assumption | (simp (disch := omega) only [rI, rIe, rA, rIA, rLA, rJA, rVI, rQI, rVA, rQA, upd_at,  rAI, rLI, rJI, nI_add, pk_sub, kc_0, kc_1, kc_2, kc_3, kc_4, kc_5, reduceIte, Nat.reduceEqDiff, Nat.add_zero, rI_hold, rI_hold, rL_hold, ht, n2]; done) | (simp (disch := omega) only [rI, rIe, rA, rIA, rLA, rJA, rVI, rQI, rVA, rQA, upd_at,  rAI, rLI, rJI, nI_add, pk_sub, kc_0, kc_1, kc_2, kc_3, kc_4, kc_5, reduceIte, Nat.reduceEqDiff, Nat.add_zero, rI_hold, rI_hold, rL_hold, ht, n2]; exact congrArg nI (by omega))) ?_
  refine Bod.go dc_412_73 rfl ?_
  refine Bod.virt (r := []) dc_412_74 kr_412_777 ⟨Or.inl rfl, ow_398, cl_14⟩ (by rw [np_398]; rfl) (by rw [np_398]; rfl) (ob_of (mk_61 _)) (Nat.le_of_ble_eq_true rfl) (c4  ) ?_
  show Bod _ _ _ _ [_] _ _ _
  refine Bod.ist dc_412_77 (by rw [ml_412]; exact Nat.le_of_ble_eq_true rfl) ?_
  refine Bod.go dc_412_79 rfl ?_
  refine Bod.ifT dc_412_81 rfl (k1_ge_T a rfl (by omega)) ?_
  refine Bod.go dc_412_91 rfl ?_
  refine Bod.get dc_412_92 fr_412_485 (mk_61 _) rfl ?_
  refine Bod.go dc_412_95 rfl ?_
  refine Bod.aaldR (N := 1500) (b := g1) a rfl (by omega) (by omega) (by first | exact hq7 | (simp only [rIQ, rJQ, rAQ, rLQ, rVQ, rQ_holdE]; exact hq7)) dc_412_97 (mk_86 _) ht_5 ?_
  refine Bod.ast dc_412_98 (by rw [ml_412]; exact Nat.le_of_ble_eq_true rfl) ?_
  refine Bod.go dc_412_100 rfl ?_
  refine Bod.ic 0 (by decide) dc_412_102 ?_
  refine Bod.go dc_412_103 rfl ?_
  refine Bod.go dc_412_104 rfl ?_
  refine Bod.go dc_412_105 rfl ?_
  refine Bod.virt (r := []) dc_412_106 kr_412_764 ⟨Or.inl rfl, ow_399, cl_13⟩ (by rw [np_399]; rfl) (by rw [np_399]; rfl) (ob_of (mk_thing ag1 (by first | exact hz3 | (simp only [rIS, rJS, rAS, rLS, rVS, rQS, rS_hold]; exact hz3)))) (Nat.le_of_ble_eq_true rfl) (c5  ) ?_
  show Bod _ _ _ _ [_] _ _ _
  refine Bod.ist dc_412_109 (by rw [ml_412]; exact Nat.le_of_ble_eq_true rfl) ?_
  refine Bod.go dc_412_111 rfl ?_
  refine Bod.get dc_412_113 fr_412_531 (mk_thing ag (by first | exact hz4 | (simp only [rIS, rJS, rAS, rLS, rVS, rQS, rS_hold]; exact hz4))) rfl ?_
  refine Bod.eqI (nI fd0) (by first | assumption | (simp (disch := omega) only [rI, rIe, rA, rIA, rLA, rJA, rVI, rQI, rVA, rQA, upd_at,  rAI, rLI, rJI, nI_add, pk_sub, kc_0, kc_1, kc_2, kc_3, kc_4, kc_5, reduceIte, Nat.reduceEqDiff, Nat.add_zero, rI_hold, rI_hold, rL_hold, ht, n2, hfd0]; done) | (simp (disch := omega) only [rI, rIe, rA, rIA, rLA, rJA, rVI, rQI, rVA, rQA, upd_at,  rAI, rLI, rJI, nI_add, pk_sub, kc_0, kc_1, kc_2, kc_3, kc_4, kc_5, reduceIte, Nat.reduceEqDiff, Nat.add_zero, rI_hold, rI_hold, rL_hold, ht, n2, hfd0]; exact congrArg nI (by omega))) ?_
  refine Bod.ic 4 (by decide) dc_412_116 ?_
  refine Bod.icF dc_412_117 rfl (k2_eq_F (k_ne fd0 4 rfl rfl (by omega) (by omega) (by omega))) ?_
  refine Bod.go dc_412_120 rfl ?_
  refine Bod.ifF dc_412_122 rfl (by decide) ?_
  refine Bod.go dc_412_125 rfl ?_
  refine Bod.get dc_412_127 fr_412_462 (mk_thing ag1 (by first | exact hz5 | (simp only [rIS, rJS, rAS, rLS, rVS, rQS, rS_hold]; exact hz5))) rfl ?_
  refine Bod.eqV (.ref r) (by first | exact hv1 | (simp only [rIV, rJV, rAV, rLV, rQV, rV, reduceIte, Nat.reduceEqDiff]; exact hv1)) ?_
  refine Bod.go dc_412_130 rfl ?_
  refine Bod.ialdN (N := N) a1 rfl (by omega) (by omega) dc_412_132 (mk_isI (by first | exact hg1 | exact isK_S (by simp only [rIS, rJS, rAS, rLS, rVS, rQS, rS_hold]) hg1)) ?_
  refine Bod.eqI (nI e) (by first | assumption | (simp (disch := omega) only [rI, rIe, rA, rIA, rLA, rJA, rVI, rQI, rVA, rQA, upd_at,  rAI, rLI, rJI, nI_add, pk_sub, kc_0, kc_1, kc_2, kc_3, kc_4, kc_5, reduceIte, Nat.reduceEqDiff, Nat.add_zero, rI_hold, rI_hold, rL_hold, ht, n2, hfd0, he]; done) | (simp (disch := omega) only [rI, rIe, rA, rIA, rLA, rJA, rVI, rQI, rVA, rQA, upd_at,  rAI, rLI, rJI, nI_add, pk_sub, kc_0, kc_1, kc_2, kc_3, kc_4, kc_5, reduceIte, Nat.reduceEqDiff, Nat.add_zero, rI_hold, rI_hold, rL_hold, ht, n2, hfd0, he]; exact congrArg nI (by omega))) ?_
  refine Bod.ic 3 (by decide) dc_412_133 ?_
  refine Bod.icF dc_412_134 rfl (k2_ne_F (k_eq e 3 rfl rfl (by omega))) ?_
  refine Bod.go dc_412_137 rfl ?_
  refine Bod.get dc_412_138 fr_412_485 (mk_61 _) rfl ?_
  refine Bod.go dc_412_141 rfl ?_
  refine Bod.get dc_412_143 fr_412_465 (mk_thing ag1 (by first | exact hz5 | (simp only [rIS, rJS, rAS, rLS, rVS, rQS, rS_hold]; exact hz5))) rfl ?_
  refine Bod.eqV (.ref r1) (by first | exact hv2 | (simp only [rIV, rJV, rAV, rLV, rQV, rV, reduceIte, Nat.reduceEqDiff]; exact hv2)) ?_
  refine Bod.go dc_412_146 rfl ?_
  refine Bod.laldN (N := N1) a1 rfl (by omega) (by omega) dc_412_148 (mk_isL (by first | exact hg2 | exact isK_S (by simp only [rIS, rJS, rAS, rLS, rVS, rQS, rS_hold]) hg2)) ?_
  refine Bod.go dc_412_149 rfl ?_
  refine Bod.eqI (nI o1) (by first | exact ho1 | (simp only [rI, rIe, rA, rIA, rLA, rJA, rVI, rQI, rVA, rQA, upd_at,  rAI, rLI, rJI, nI_add, pk_sub, kc_0, kc_1, kc_2, kc_3, kc_4, kc_5, reduceIte, Nat.reduceEqDiff, Nat.add_zero, rI_hold, rI_hold, rL_hold]; exact ho1)) ?_
  refine Bod.aaldR (N := 1500) (b := g2) o1 rfl (by omega) (by omega) (by first | exact hq16 | (simp only [rIQ, rJQ, rAQ, rLQ, rVQ, rQ_holdE]; exact hq16)) dc_412_150 (mk_86 _) ht_5 ?_
  refine Bod.get dc_412_151 fr_412_531 (mk_thing ag2 (by first | exact hz6 | (simp only [rIS, rJS, rAS, rLS, rVS, rQS, rS_hold]; exact hz6))) rfl ?_
  refine Bod.eqI (nI fd01) (by first | assumption | (simp (disch := omega) only [rI, rIe, rA, rIA, rLA, rJA, rVI, rQI, rVA, rQA, upd_at,  rAI, rLI, rJI, nI_add, pk_sub, kc_0, kc_1, kc_2, kc_3, kc_4, kc_5, reduceIte, Nat.reduceEqDiff, Nat.add_zero, rI_hold, rI_hold, rL_hold, ht, n2, hfd0, he, hfd01]; done) | (simp (disch := omega) only [rI, rIe, rA, rIA, rLA, rJA, rVI, rQI, rVA, rQA, upd_at,  rAI, rLI, rJI, nI_add, pk_sub, kc_0, kc_1, kc_2, kc_3, kc_4, kc_5, reduceIte, Nat.reduceEqDiff, Nat.add_zero, rI_hold, rI_hold, rL_hold, ht, n2, hfd0, he, hfd01]; exact congrArg nI (by omega))) ?_
  refine Bod.ic 3 (by decide) dc_412_154 ?_
  refine Bod.icT dc_412_155 rfl (k2_eq_T (k_eq fd01 3 rfl rfl (by omega))) ?_
  refine Bod.go dc_412_198 rfl ?_
  refine Bod.bip 6 (by decide) dc_412_199 ?_
  refine Bod.virt (r := []) dc_412_201 kr_412_686 ⟨Or.inl rfl, ow_364, cl_14⟩ (by rw [np_364]; rfl) (by rw [np_364]; rfl) (ob_of (mk_61 _)) (Nat.le_of_ble_eq_true rfl) (c6  ) ?_
  show Bod _ _ _ _ [_] _ _ _
  refine Bod.ist dc_412_204 (by rw [ml_412]; exact Nat.le_of_ble_eq_true rfl) ?_
  refine Bod.go dc_412_206 rfl ?_
  refine Bod.ifT dc_412_208 rfl (k1_ge_T a2 rfl (by omega)) ?_
  refine Bod.go dc_412_213 rfl ?_
  refine Bod.get dc_412_214 fr_412_485 (mk_61 _) rfl ?_
  refine Bod.go dc_412_217 rfl ?_
  refine Bod.aaldR (N := 1500) (b := g3) a2 rfl (by omega) (by omega) (by first | exact hq19 | (simp only [rIQ, rJQ, rAQ, rLQ, rVQ, rQ_holdE]; exact hq19)) dc_412_219 (mk_86 _) ht_5 ?_
  refine Bod.go dc_412_220 rfl ?_
  refine Bod.get dc_412_222 fr_412_465 (mk_thing ag1 (by first | exact hz7 | (simp only [rIS, rJS, rAS, rLS, rVS, rQS, rS_hold]; exact hz7))) rfl ?_
  refine Bod.eqV (.ref r2) (by first | exact hv3 | (simp only [rIV, rJV, rAV, rLV, rQV, rV, reduceIte, Nat.reduceEqDiff]; exact hv3)) ?_
  refine Bod.go dc_412_225 rfl ?_
  refine Bod.laldN (N := N2) a1 rfl (by omega) (by omega) dc_412_227 (mk_isL (by first | exact hg3 | exact isK_S (by simp only [rIS, rJS, rAS, rLS, rVS, rQS, rS_hold]) hg3)) ?_
  refine Bod.go dc_412_228 rfl ?_
  refine Bod.eqI (nI o2) (by first | exact ho2 | (simp only [rI, rIe, rA, rIA, rLA, rJA, rVI, rQI, rVA, rQA, upd_at,  rAI, rLI, rJI, nI_add, pk_sub, kc_0, kc_1, kc_2, kc_3, kc_4, kc_5, reduceIte, Nat.reduceEqDiff, Nat.add_zero, rI_hold, rI_hold, rL_hold]; exact ho2)) ?_
  refine Bod.put dc_412_229 fr_412_472 (mk_thing ag3 (by first | exact hz8 | (simp only [rIS, rJS, rAS, rLS, rVS, rQS, rS_hold]; exact hz8))) (Nat.le_of_ble_eq_true rfl) pf_13_11 (st_thing_11 ag3 (by first | exact hz8 | (simp only [rIS, rJS, rAS, rLS, rVS, rQS, rS_hold]; exact hz8))) (mu_I _ _ _) ?_
  refine Bod.go dc_412_232 rfl ?_
  refine Bod.get dc_412_233 fr_412_485 (mk_61 _) rfl ?_
  refine Bod.go dc_412_236 rfl ?_
  refine Bod.aaldR (N := 1500) (b := g3) a2 rfl (by omega) (by omega) (by first | exact hq19 | (simp only [rIQ, rJQ, rAQ, rLQ, rVQ, rQ_holdE]; exact hq19)) dc_412_238 (mk_86 _) ht_5 ?_
  refine Bod.go dc_412_239 rfl ?_
  refine Bod.put dc_412_240 fr_412_475 (mk_thing ag3 (by first | exact hz8 | (simp only [rIS, rJS, rAS, rLS, rVS, rQS, rS_hold]; exact hz8))) (Nat.le_of_ble_eq_true rfl) pf_13_12 (st_thing_12 ag3 (by first | exact hz8 | (simp only [rIS, rJS, rAS, rLS, rVS, rQS, rS_hold]; exact hz8))) (mu_I _ _ _) ?_
  refine Bod.go dc_412_243 rfl ?_
  refine Bod.go dc_412_244 rfl ?_
  refine Bod.get dc_412_245 fr_412_493 (mk_61 _) rfl ?_
  refine Bod.eqI (nI t1) (by first | assumption | (simp (disch := omega) only [rI, rIe, rA, rIA, rLA, rJA, rVI, rQI, rVA, rQA, upd_at,  rAI, rLI, rJI, nI_add, pk_sub, kc_0, kc_1, kc_2, kc_3, kc_4, kc_5, reduceIte, Nat.reduceEqDiff, Nat.add_zero, rI_hold, rI_hold, rL_hold, ht, n2, hfd0, he, hfd01, ht1]; done) | (simp (disch := omega) only [rI, rIe, rA, rIA, rLA, rJA, rVI, rQI, rVA, rQA, upd_at,  rAI, rLI, rJI, nI_add, pk_sub, kc_0, kc_1, kc_2, kc_3, kc_4, kc_5, reduceIte, Nat.reduceEqDiff, Nat.add_zero, rI_hold, rI_hold, rL_hold, ht, n2, hfd0, he, hfd01, ht1]; exact congrArg nI (by omega))) ?_
  refine Bod.ic 1 (by decide) dc_412_248 ?_
  refine Bod.subN (t1 - 1) (by omega) (by omega) dc_412_249 ?_
  refine Bod.put dc_412_250 fr_412_493 (mk_61 _) (Nat.le_of_ble_eq_true rfl) pf_14_51 (st_6151 _ _) (mu_I _ _ _) ?_
  refine Bod.go dc_412_253 rfl ?_
  refine Bod.ic 3 (by decide) dc_412_254 ?_
  refine Bod.go dc_412_255 rfl ?_
  refine Bod.go dc_412_257 rfl ?_
  refine Bod.go dc_412_258 rfl ?_
  refine Bod.virt (r := []) dc_412_259 kr_412_549 ⟨Or.inl rfl, ow_352, cl_14⟩ (by rw [np_352]; rfl) (by rw [np_352]; rfl) (ob_of (mk_61 _)) (Nat.le_of_ble_eq_true rfl) (c7  ) ?_
  show Bod _ _ _ _ [] _ _ _
  refine Bod.ic 1 (by decide) dc_412_262 ?_
  exact Bod.retZ dc_412_263 rt_412 (Or.inr rfl)
theorem rGa_26 {d : Nat} {S : cS} {nm : Nat} {t : Nat} {S1 : cS} {S2 : cS} {o : Nat} {g : Nat} {zg : Nat} {S3 : cS} {S4 : cS} {a : Nat} {g1 : Nat} {zg1 : Nat} {S5 : cS} {a1 : Nat} {fd0 : Nat} {r : Nat} {N : Nat} {e : Nat} {r1 : Nat} {N1 : Nat} {o1 : Nat} {g2 : Nat} {zg2 : Nat} {fd01 : Nat} {S6 : cS} (mnm : nm < 2 ^ 20) (ht : sI S 6151 = nI t) (mt : t < 20481) (b1 : 1 ≤ t) (c1 : Ans (d + 8) 363 [.ref 61, .int (nI (t - 1)), .int (nI 5)] S (some (.int (nI 0))) S1) (c2 : Ans (d + 8) 363 [.ref 61, .int (nI (t - 1)), .int (nI 4)] S1 (some (.int (nI 1))) S2) (ho : (sL S2 92 (t - 1)).toInt32 = nI o) (mo : o < 1500) (ag : 108 ≤ g) (hq3 : sQ S2 86 o = some g) (c3 : Ans (d + 8) 399 [.ref g, .int (nI 0), .long ((nI nm).toInt64), .long 0] S2 (some (.int (Int32.ofInt (-1)))) S3) (hz1 : (sS S2)[g - 108]? = some (13, zg)) (hz2 : (sS S3)[g - 108]? = some (13, zg)) (n2 : sI S3 (100 * g + 11) = Int32.ofInt (-1)) (ma : a < 1500) (c4 : Ans (d + 8) 398 [.ref 61, .int (Int32.ofInt (-1)), .int (nI nm)] S3 (some (.int (nI a))) S4) (ag1 : 108 ≤ g1) (hq7 : sQ S4 86 a = some g1) (ma1 : a1 < 2 ^ 20) (c5 : Ans (d + 8) 399 [.ref g1, .int (nI 0), .long ((nI nm).toInt64), .long 0] S4 (some (.int (nI a1))) S5) (hz3 : (sS S4)[g1 - 108]? = some (13, zg1)) (hz4 : (sS S5)[g - 108]? = some (13, zg)) (hfd0 : sI S5 (100 * g + 0) = nI fd0) (mfd0 : fd0 < 2 ^ 20) (b3 : fd0 ≠ 4) (hz5 : (sS S5)[g1 - 108]? = some (13, zg1)) (hv1 : sV S5 (100 * g1 + 2) = .ref r) (hg1 : isK S5 r 0 N) (mN : N < 2 ^ 20) (b4 : a1 < N) (he : sA S5 r a1 = nI e) (me : e < 2 ^ 20) (b5 : e = 3) (hv2 : sV S5 (100 * g1 + 4) = .ref r1) (hg2 : isK S5 r1 1 N1) (mN1 : N1 < 2 ^ 20) (b6 : a1 < N1) (ho1 : (sL S5 r1 a1).toInt32 = nI o1) (mo1 : o1 < 1500) (ag2 : 108 ≤ g2) (hq16 : sQ S5 86 o1 = some g2) (hz6 : (sS S5)[g2 - 108]? = some (13, zg2)) (hfd01 : sI S5 (100 * g2 + 0) = nI fd01) (mfd01 : fd01 < 2 ^ 20) (b7 : fd01 = 3) (c6 : Ans (d + 8) 364 [.ref 61, .int (nI 6)] S5 (some (.int (Int32.ofInt (-1)))) S6) : Bod (d + 8) 412 0 [(0, .ref 61), (1, .int (nI nm))] [] S (some (.int 0)) (S6) := by
  refine Bod.go dc_412_0 rfl ?_
  refine Bod.get dc_412_1 fr_412_493 (mk_61 _) rfl ?_
  refine Bod.eqI (nI t) (by first | assumption | rfl | exact congrArg nI (by omega) | (simp (disch := omega) only [rI, rIe, rA, rIA, rLA, rJA, rVI, rQI, rVA, rQA, upd_at,  rAI, rLI, rJI, nI_add, pk_sub, kc_0, kc_1, kc_2, kc_3, kc_4, kc_5, reduceIte, Nat.reduceEqDiff, Nat.add_zero, rI_hold, rI_hold, rL_hold, ht]; done)) ?_
  refine Bod.ic 1 (by decide) dc_412_4 ?_
  refine Bod.subN (t - 1) (by omega) (by omega) dc_412_5 ?_
  refine Bod.istn dc_412_6 (by rw [ml_412]; exact Nat.le_of_ble_eq_true rfl) ?_
  refine Bod.go dc_412_7 rfl ?_
  refine Bod.go dc_412_8 rfl ?_
  refine Bod.ic 5 (by decide) dc_412_9 ?_
  refine Bod.virt (r := []) dc_412_10 kr_412_683 ⟨Or.inl rfl, ow_363, cl_14⟩ (by rw [np_363]; rfl) (by rw [np_363]; rfl) (ob_of (mk_61 _)) (Nat.le_of_ble_eq_true rfl) (c1  ) ?_
  show Bod _ _ _ _ [_] _ _ _
  refine Bod.ifF dc_412_13 rfl (k1_ne_F (k_eq 0 0 rfl rfl (by omega))) ?_
  refine Bod.go dc_412_16 rfl ?_
  refine Bod.go dc_412_17 rfl ?_
  refine Bod.ic 4 (by decide) dc_412_18 ?_
  refine Bod.virt (r := []) dc_412_19 kr_412_683 ⟨Or.inl rfl, ow_363, cl_14⟩ (by rw [np_363]; rfl) (by rw [np_363]; rfl) (ob_of (mk_61 _)) (Nat.le_of_ble_eq_true rfl) (c2  ) ?_
  show Bod _ _ _ _ [_] _ _ _
  refine Bod.ifT dc_412_22 rfl (k1_ne_T (k_ne 1 0 rfl rfl (by omega) (by omega) (by omega))) ?_
  refine Bod.go dc_412_31 rfl ?_
  refine Bod.get dc_412_32 fr_412_499 (mk_61 _) rfl ?_
  refine Bod.go dc_412_35 rfl ?_
  refine Bod.laldN (t - 1) rfl (by omega) (by omega) dc_412_36 (mk_92 _) ?_
  refine Bod.go dc_412_37 rfl ?_
  refine Bod.eqI (nI o) (by first | exact ho | (simp only [rI, rIe, rA, rIA, rLA, rJA, rVI, rQI, rVA, rQA, upd_at,  rAI, rLI, rJI, nI_add, pk_sub, kc_0, kc_1, kc_2, kc_3, kc_4, kc_5, reduceIte, Nat.reduceEqDiff, Nat.add_zero, rI_hold, rI_hold, rL_hold]; exact ho)) ?_
  refine Bod.istn dc_412_38 (by rw [ml_412]; exact Nat.le_of_ble_eq_true rfl) ?_
  refine Bod.go dc_412_39 rfl ?_
  refine Bod.get dc_412_40 fr_412_485 (mk_61 _) rfl ?_
  refine Bod.go dc_412_43 rfl ?_
  refine Bod.aaldR (N := 1500) (b := g) o rfl (by omega) (by omega) (by first | exact hq3 | (simp only [rIQ, rJQ, rAQ, rLQ, rVQ, rQ_holdE]; exact hq3)) dc_412_44 (mk_86 _) ht_5 ?_
  refine Bod.ast dc_412_45 (by rw [ml_412]; exact Nat.le_of_ble_eq_true rfl) ?_
  refine Bod.go dc_412_47 rfl ?_
  refine Bod.ic 0 (by decide) dc_412_49 ?_
  refine Bod.go dc_412_50 rfl ?_
  refine Bod.go dc_412_51 rfl ?_
  refine Bod.go dc_412_52 rfl ?_
  refine Bod.virt (r := []) dc_412_53 kr_412_764 ⟨Or.inl rfl, ow_399, cl_13⟩ (by rw [np_399]; rfl) (by rw [np_399]; rfl) (ob_of (mk_thing ag (by first | exact hz1 | (simp only [rIS, rJS, rAS, rLS, rVS, rQS, rS_hold]; exact hz1)))) (Nat.le_of_ble_eq_true rfl) (c3  ) ?_
  show Bod _ _ _ _ [_] _ _ _
  refine Bod.ist dc_412_56 (by rw [ml_412]; exact Nat.le_of_ble_eq_true rfl) ?_
  refine Bod.go dc_412_58 rfl ?_
  refine Bod.ifT dc_412_60 rfl (by decide) ?_
  refine Bod.go dc_412_67 rfl ?_
  refine Bod.go dc_412_68 rfl ?_
  refine Bod.get dc_412_70 fr_412_472 (mk_thing ag (by first | exact hz2 | (simp only [rIS, rJS, rAS, rLS, rVS, rQS, rS_hold]; exact hz2))) rfl ?_
  refine Bod.eqI (Int32.ofInt (-1)) (by first | assumption | (simp (disch := omega) only [rI, rIe, rA, rIA, rLA, rJA, rVI, rQI, rVA, rQA, upd_at,  rAI, rLI, rJI, nI_add, pk_sub, kc_0, kc_1, kc_2, kc_3, kc_4, kc_5, reduceIte, Nat.reduceEqDiff, Nat.add_zero, rI_hold, rI_hold, rL_hold, ht, n2]; done) | (simp (disch := omega) only [rI, rIe, rA, rIA, rLA, rJA, rVI, rQI, rVA, rQA, upd_at,  rAI, rLI, rJI, nI_add, pk_sub, kc_0, kc_1, kc_2, kc_3, kc_4, kc_5, reduceIte, Nat.reduceEqDiff, Nat.add_zero, rI_hold, rI_hold, rL_hold, ht, n2]; exact congrArg nI (by omega))) ?_
  refine Bod.go dc_412_73 rfl ?_
  refine Bod.virt (r := []) dc_412_74 kr_412_777 ⟨Or.inl rfl, ow_398, cl_14⟩ (by rw [np_398]; rfl) (by rw [np_398]; rfl) (ob_of (mk_61 _)) (Nat.le_of_ble_eq_true rfl) (c4  ) ?_
  show Bod _ _ _ _ [_] _ _ _
  refine Bod.ist dc_412_77 (by rw [ml_412]; exact Nat.le_of_ble_eq_true rfl) ?_
  refine Bod.go dc_412_79 rfl ?_
  refine Bod.ifT dc_412_81 rfl (k1_ge_T a rfl (by omega)) ?_
  refine Bod.go dc_412_91 rfl ?_
  refine Bod.get dc_412_92 fr_412_485 (mk_61 _) rfl ?_
  refine Bod.go dc_412_95 rfl ?_
  refine Bod.aaldR (N := 1500) (b := g1) a rfl (by omega) (by omega) (by first | exact hq7 | (simp only [rIQ, rJQ, rAQ, rLQ, rVQ, rQ_holdE]; exact hq7)) dc_412_97 (mk_86 _) ht_5 ?_
  refine Bod.ast dc_412_98 (by rw [ml_412]; exact Nat.le_of_ble_eq_true rfl) ?_
  refine Bod.go dc_412_100 rfl ?_
  refine Bod.ic 0 (by decide) dc_412_102 ?_
  refine Bod.go dc_412_103 rfl ?_
  refine Bod.go dc_412_104 rfl ?_
  refine Bod.go dc_412_105 rfl ?_
  refine Bod.virt (r := []) dc_412_106 kr_412_764 ⟨Or.inl rfl, ow_399, cl_13⟩ (by rw [np_399]; rfl) (by rw [np_399]; rfl) (ob_of (mk_thing ag1 (by first | exact hz3 | (simp only [rIS, rJS, rAS, rLS, rVS, rQS, rS_hold]; exact hz3)))) (Nat.le_of_ble_eq_true rfl) (c5  ) ?_
  show Bod _ _ _ _ [_] _ _ _
  refine Bod.ist dc_412_109 (by rw [ml_412]; exact Nat.le_of_ble_eq_true rfl) ?_
  refine Bod.go dc_412_111 rfl ?_
  refine Bod.get dc_412_113 fr_412_531 (mk_thing ag (by first | exact hz4 | (simp only [rIS, rJS, rAS, rLS, rVS, rQS, rS_hold]; exact hz4))) rfl ?_
  refine Bod.eqI (nI fd0) (by first | assumption | (simp (disch := omega) only [rI, rIe, rA, rIA, rLA, rJA, rVI, rQI, rVA, rQA, upd_at,  rAI, rLI, rJI, nI_add, pk_sub, kc_0, kc_1, kc_2, kc_3, kc_4, kc_5, reduceIte, Nat.reduceEqDiff, Nat.add_zero, rI_hold, rI_hold, rL_hold, ht, n2, hfd0]; done) | (simp (disch := omega) only [rI, rIe, rA, rIA, rLA, rJA, rVI, rQI, rVA, rQA, upd_at,  rAI, rLI, rJI, nI_add, pk_sub, kc_0, kc_1, kc_2, kc_3, kc_4, kc_5, reduceIte, Nat.reduceEqDiff, Nat.add_zero, rI_hold, rI_hold, rL_hold, ht, n2, hfd0]; exact congrArg nI (by omega))) ?_
  refine Bod.ic 4 (by decide) dc_412_116 ?_
  refine Bod.icF dc_412_117 rfl (k2_eq_F (k_ne fd0 4 rfl rfl (by omega) (by omega) (by omega))) ?_
  refine Bod.go dc_412_120 rfl ?_
  refine Bod.ifF dc_412_122 rfl (by decide) ?_
  refine Bod.go dc_412_125 rfl ?_
  refine Bod.get dc_412_127 fr_412_462 (mk_thing ag1 (by first | exact hz5 | (simp only [rIS, rJS, rAS, rLS, rVS, rQS, rS_hold]; exact hz5))) rfl ?_
  refine Bod.eqV (.ref r) (by first | exact hv1 | (simp only [rIV, rJV, rAV, rLV, rQV, rV, reduceIte, Nat.reduceEqDiff]; exact hv1)) ?_
  refine Bod.go dc_412_130 rfl ?_
  refine Bod.ialdN (N := N) a1 rfl (by omega) (by omega) dc_412_132 (mk_isI (by first | exact hg1 | exact isK_S (by simp only [rIS, rJS, rAS, rLS, rVS, rQS, rS_hold]) hg1)) ?_
  refine Bod.eqI (nI e) (by first | assumption | (simp (disch := omega) only [rI, rIe, rA, rIA, rLA, rJA, rVI, rQI, rVA, rQA, upd_at,  rAI, rLI, rJI, nI_add, pk_sub, kc_0, kc_1, kc_2, kc_3, kc_4, kc_5, reduceIte, Nat.reduceEqDiff, Nat.add_zero, rI_hold, rI_hold, rL_hold, ht, n2, hfd0, he]; done) | (simp (disch := omega) only [rI, rIe, rA, rIA, rLA, rJA, rVI, rQI, rVA, rQA, upd_at,  rAI, rLI, rJI, nI_add, pk_sub, kc_0, kc_1, kc_2, kc_3, kc_4, kc_5, reduceIte, Nat.reduceEqDiff, Nat.add_zero, rI_hold, rI_hold, rL_hold, ht, n2, hfd0, he]; exact congrArg nI (by omega))) ?_
  refine Bod.ic 3 (by decide) dc_412_133 ?_
  refine Bod.icF dc_412_134 rfl (k2_ne_F (k_eq e 3 rfl rfl (by omega))) ?_
  refine Bod.go dc_412_137 rfl ?_
  refine Bod.get dc_412_138 fr_412_485 (mk_61 _) rfl ?_
  refine Bod.go dc_412_141 rfl ?_
  refine Bod.get dc_412_143 fr_412_465 (mk_thing ag1 (by first | exact hz5 | (simp only [rIS, rJS, rAS, rLS, rVS, rQS, rS_hold]; exact hz5))) rfl ?_
  refine Bod.eqV (.ref r1) (by first | exact hv2 | (simp only [rIV, rJV, rAV, rLV, rQV, rV, reduceIte, Nat.reduceEqDiff]; exact hv2)) ?_
  refine Bod.go dc_412_146 rfl ?_
  refine Bod.laldN (N := N1) a1 rfl (by omega) (by omega) dc_412_148 (mk_isL (by first | exact hg2 | exact isK_S (by simp only [rIS, rJS, rAS, rLS, rVS, rQS, rS_hold]) hg2)) ?_
  refine Bod.go dc_412_149 rfl ?_
  refine Bod.eqI (nI o1) (by first | exact ho1 | (simp only [rI, rIe, rA, rIA, rLA, rJA, rVI, rQI, rVA, rQA, upd_at,  rAI, rLI, rJI, nI_add, pk_sub, kc_0, kc_1, kc_2, kc_3, kc_4, kc_5, reduceIte, Nat.reduceEqDiff, Nat.add_zero, rI_hold, rI_hold, rL_hold]; exact ho1)) ?_
  refine Bod.aaldR (N := 1500) (b := g2) o1 rfl (by omega) (by omega) (by first | exact hq16 | (simp only [rIQ, rJQ, rAQ, rLQ, rVQ, rQ_holdE]; exact hq16)) dc_412_150 (mk_86 _) ht_5 ?_
  refine Bod.get dc_412_151 fr_412_531 (mk_thing ag2 (by first | exact hz6 | (simp only [rIS, rJS, rAS, rLS, rVS, rQS, rS_hold]; exact hz6))) rfl ?_
  refine Bod.eqI (nI fd01) (by first | assumption | (simp (disch := omega) only [rI, rIe, rA, rIA, rLA, rJA, rVI, rQI, rVA, rQA, upd_at,  rAI, rLI, rJI, nI_add, pk_sub, kc_0, kc_1, kc_2, kc_3, kc_4, kc_5, reduceIte, Nat.reduceEqDiff, Nat.add_zero, rI_hold, rI_hold, rL_hold, ht, n2, hfd0, he, hfd01]; done) | (simp (disch := omega) only [rI, rIe, rA, rIA, rLA, rJA, rVI, rQI, rVA, rQA, upd_at,  rAI, rLI, rJI, nI_add, pk_sub, kc_0, kc_1, kc_2, kc_3, kc_4, kc_5, reduceIte, Nat.reduceEqDiff, Nat.add_zero, rI_hold, rI_hold, rL_hold, ht, n2, hfd0, he, hfd01]; exact congrArg nI (by omega))) ?_
  refine Bod.ic 3 (by decide) dc_412_154 ?_
  refine Bod.icT dc_412_155 rfl (k2_eq_T (k_eq fd01 3 rfl rfl (by omega))) ?_
  refine Bod.go dc_412_198 rfl ?_
  refine Bod.bip 6 (by decide) dc_412_199 ?_
  refine Bod.virt (r := []) dc_412_201 kr_412_686 ⟨Or.inl rfl, ow_364, cl_14⟩ (by rw [np_364]; rfl) (by rw [np_364]; rfl) (ob_of (mk_61 _)) (Nat.le_of_ble_eq_true rfl) (c6  ) ?_
  show Bod _ _ _ _ [_] _ _ _
  refine Bod.ist dc_412_204 (by rw [ml_412]; exact Nat.le_of_ble_eq_true rfl) ?_
  refine Bod.go dc_412_206 rfl ?_
  refine Bod.ifF dc_412_208 rfl (by decide) ?_
  refine Bod.ic 0 (by decide) dc_412_211 ?_
  exact Bod.retZ dc_412_212 rt_412 (Or.inl rfl)
theorem rGa_27 {d : Nat} {S : cS} {nm : Nat} {t : Nat} {S1 : cS} {S2 : cS} {o : Nat} {g : Nat} {zg : Nat} {S3 : cS} {S4 : cS} {a : Nat} {g1 : Nat} {zg1 : Nat} {S5 : cS} {a1 : Nat} {fd0 : Nat} {r : Nat} {N : Nat} {e : Nat} {r1 : Nat} {N1 : Nat} {o1 : Nat} {g2 : Nat} {zg2 : Nat} {fd01 : Nat} {t1 : Nat} {r2 : Nat} {N2 : Nat} {S6 : cS} (mnm : nm < 2 ^ 20) (ht : sI S 6151 = nI t) (mt : t < 20481) (b1 : 1 ≤ t) (c1 : Ans (d + 8) 363 [.ref 61, .int (nI (t - 1)), .int (nI 5)] S (some (.int (nI 0))) S1) (c2 : Ans (d + 8) 363 [.ref 61, .int (nI (t - 1)), .int (nI 4)] S1 (some (.int (nI 1))) S2) (ho : (sL S2 92 (t - 1)).toInt32 = nI o) (mo : o < 1500) (ag : 108 ≤ g) (hq3 : sQ S2 86 o = some g) (c3 : Ans (d + 8) 399 [.ref g, .int (nI 0), .long ((nI nm).toInt64), .long 0] S2 (some (.int (Int32.ofInt (-1)))) S3) (hz1 : (sS S2)[g - 108]? = some (13, zg)) (hz2 : (sS S3)[g - 108]? = some (13, zg)) (n2 : sI S3 (100 * g + 11) = Int32.ofInt (-1)) (ma : a < 1500) (c4 : Ans (d + 8) 398 [.ref 61, .int (Int32.ofInt (-1)), .int (nI nm)] S3 (some (.int (nI a))) S4) (ag1 : 108 ≤ g1) (hq7 : sQ S4 86 a = some g1) (ma1 : a1 < 2 ^ 20) (c5 : Ans (d + 8) 399 [.ref g1, .int (nI 0), .long ((nI nm).toInt64), .long 0] S4 (some (.int (nI a1))) S5) (hz3 : (sS S4)[g1 - 108]? = some (13, zg1)) (hz4 : (sS S5)[g - 108]? = some (13, zg)) (hfd0 : sI S5 (100 * g + 0) = nI fd0) (mfd0 : fd0 < 2 ^ 20) (b3 : fd0 ≠ 4) (hz5 : (sS S5)[g1 - 108]? = some (13, zg1)) (hv1 : sV S5 (100 * g1 + 2) = .ref r) (hg1 : isK S5 r 0 N) (mN : N < 2 ^ 20) (b4 : a1 < N) (he : sA S5 r a1 = nI e) (me : e < 2 ^ 20) (b5 : e = 3) (hv2 : sV S5 (100 * g1 + 4) = .ref r1) (hg2 : isK S5 r1 1 N1) (mN1 : N1 < 2 ^ 20) (b6 : a1 < N1) (ho1 : (sL S5 r1 a1).toInt32 = nI o1) (mo1 : o1 < 1500) (ag2 : 108 ≤ g2) (hq16 : sQ S5 86 o1 = some g2) (hz6 : (sS S5)[g2 - 108]? = some (13, zg2)) (hfd01 : sI S5 (100 * g2 + 0) = nI fd01) (mfd01 : fd01 < 2 ^ 20) (b7 : fd01 ≠ 3) (ht1 : sI S5 6151 = nI t1) (mt1 : t1 < 20481) (b8 : 1 ≤ t1) (hv3 : sV S5 (100 * g1 + 5) = .ref r2) (hg3 : isK S5 r2 1 N2) (mN2 : N2 < 2 ^ 20) (b9 : a1 < N2) (c6 : Ans (d + 8) 352 [.ref 61, .int (nI e), .long (sL (wI 6151 (nI (t1 - 1)) S5) r1 a1), .long (sL (wI 6151 (nI (t1 - 1)) S5) r2 a1)] (wI 6151 (nI (t1 - 1)) S5) none S6) : Bod (d + 8) 412 0 [(0, .ref 61), (1, .int (nI nm))] [] S (some (.int 1)) (S6) := by
  refine Bod.go dc_412_0 rfl ?_
  refine Bod.get dc_412_1 fr_412_493 (mk_61 _) rfl ?_
  refine Bod.eqI (nI t) (by first | assumption | rfl | exact congrArg nI (by omega) | (simp (disch := omega) only [rI, rIe, rA, rIA, rLA, rJA, rVI, rQI, rVA, rQA, upd_at,  rAI, rLI, rJI, nI_add, pk_sub, kc_0, kc_1, kc_2, kc_3, kc_4, kc_5, reduceIte, Nat.reduceEqDiff, Nat.add_zero, rI_hold, rI_hold, rL_hold, ht]; done)) ?_
  refine Bod.ic 1 (by decide) dc_412_4 ?_
  refine Bod.subN (t - 1) (by omega) (by omega) dc_412_5 ?_
  refine Bod.istn dc_412_6 (by rw [ml_412]; exact Nat.le_of_ble_eq_true rfl) ?_
  refine Bod.go dc_412_7 rfl ?_
  refine Bod.go dc_412_8 rfl ?_
  refine Bod.ic 5 (by decide) dc_412_9 ?_
  refine Bod.virt (r := []) dc_412_10 kr_412_683 ⟨Or.inl rfl, ow_363, cl_14⟩ (by rw [np_363]; rfl) (by rw [np_363]; rfl) (ob_of (mk_61 _)) (Nat.le_of_ble_eq_true rfl) (c1  ) ?_
  show Bod _ _ _ _ [_] _ _ _
  refine Bod.ifF dc_412_13 rfl (k1_ne_F (k_eq 0 0 rfl rfl (by omega))) ?_
  refine Bod.go dc_412_16 rfl ?_
  refine Bod.go dc_412_17 rfl ?_
  refine Bod.ic 4 (by decide) dc_412_18 ?_
  refine Bod.virt (r := []) dc_412_19 kr_412_683 ⟨Or.inl rfl, ow_363, cl_14⟩ (by rw [np_363]; rfl) (by rw [np_363]; rfl) (ob_of (mk_61 _)) (Nat.le_of_ble_eq_true rfl) (c2  ) ?_
  show Bod _ _ _ _ [_] _ _ _
  refine Bod.ifT dc_412_22 rfl (k1_ne_T (k_ne 1 0 rfl rfl (by omega) (by omega) (by omega))) ?_
  refine Bod.go dc_412_31 rfl ?_
  refine Bod.get dc_412_32 fr_412_499 (mk_61 _) rfl ?_
  refine Bod.go dc_412_35 rfl ?_
  refine Bod.laldN (t - 1) rfl (by omega) (by omega) dc_412_36 (mk_92 _) ?_
  refine Bod.go dc_412_37 rfl ?_
  refine Bod.eqI (nI o) (by first | exact ho | (simp only [rI, rIe, rA, rIA, rLA, rJA, rVI, rQI, rVA, rQA, upd_at,  rAI, rLI, rJI, nI_add, pk_sub, kc_0, kc_1, kc_2, kc_3, kc_4, kc_5, reduceIte, Nat.reduceEqDiff, Nat.add_zero, rI_hold, rI_hold, rL_hold]; exact ho)) ?_
  refine Bod.istn dc_412_38 (by rw [ml_412]; exact Nat.le_of_ble_eq_true rfl) ?_
  refine Bod.go dc_412_39 rfl ?_
  refine Bod.get dc_412_40 fr_412_485 (mk_61 _) rfl ?_
  refine Bod.go dc_412_43 rfl ?_
  refine Bod.aaldR (N := 1500) (b := g) o rfl (by omega) (by omega) (by first | exact hq3 | (simp only [rIQ, rJQ, rAQ, rLQ, rVQ, rQ_holdE]; exact hq3)) dc_412_44 (mk_86 _) ht_5 ?_
  refine Bod.ast dc_412_45 (by rw [ml_412]; exact Nat.le_of_ble_eq_true rfl) ?_
  refine Bod.go dc_412_47 rfl ?_
  refine Bod.ic 0 (by decide) dc_412_49 ?_
  refine Bod.go dc_412_50 rfl ?_
  refine Bod.go dc_412_51 rfl ?_
  refine Bod.go dc_412_52 rfl ?_
  refine Bod.virt (r := []) dc_412_53 kr_412_764 ⟨Or.inl rfl, ow_399, cl_13⟩ (by rw [np_399]; rfl) (by rw [np_399]; rfl) (ob_of (mk_thing ag (by first | exact hz1 | (simp only [rIS, rJS, rAS, rLS, rVS, rQS, rS_hold]; exact hz1)))) (Nat.le_of_ble_eq_true rfl) (c3  ) ?_
  show Bod _ _ _ _ [_] _ _ _
  refine Bod.ist dc_412_56 (by rw [ml_412]; exact Nat.le_of_ble_eq_true rfl) ?_
  refine Bod.go dc_412_58 rfl ?_
  refine Bod.ifT dc_412_60 rfl (by decide) ?_
  refine Bod.go dc_412_67 rfl ?_
  refine Bod.go dc_412_68 rfl ?_
  refine Bod.get dc_412_70 fr_412_472 (mk_thing ag (by first | exact hz2 | (simp only [rIS, rJS, rAS, rLS, rVS, rQS, rS_hold]; exact hz2))) rfl ?_
  refine Bod.eqI (Int32.ofInt (-1)) (by first | assumption | (simp (disch := omega) only [rI, rIe, rA, rIA, rLA, rJA, rVI, rQI, rVA, rQA, upd_at,  rAI, rLI, rJI, nI_add, pk_sub, kc_0, kc_1, kc_2, kc_3, kc_4, kc_5, reduceIte, Nat.reduceEqDiff, Nat.add_zero, rI_hold, rI_hold, rL_hold, ht, n2]; done) | (simp (disch := omega) only [rI, rIe, rA, rIA, rLA, rJA, rVI, rQI, rVA, rQA, upd_at,  rAI, rLI, rJI, nI_add, pk_sub, kc_0, kc_1, kc_2, kc_3, kc_4, kc_5, reduceIte, Nat.reduceEqDiff, Nat.add_zero, rI_hold, rI_hold, rL_hold, ht, n2]; exact congrArg nI (by omega))) ?_
  refine Bod.go dc_412_73 rfl ?_
  refine Bod.virt (r := []) dc_412_74 kr_412_777 ⟨Or.inl rfl, ow_398, cl_14⟩ (by rw [np_398]; rfl) (by rw [np_398]; rfl) (ob_of (mk_61 _)) (Nat.le_of_ble_eq_true rfl) (c4  ) ?_
  show Bod _ _ _ _ [_] _ _ _
  refine Bod.ist dc_412_77 (by rw [ml_412]; exact Nat.le_of_ble_eq_true rfl) ?_
  refine Bod.go dc_412_79 rfl ?_
  refine Bod.ifT dc_412_81 rfl (k1_ge_T a rfl (by omega)) ?_
  refine Bod.go dc_412_91 rfl ?_
  refine Bod.get dc_412_92 fr_412_485 (mk_61 _) rfl ?_
  refine Bod.go dc_412_95 rfl ?_
  refine Bod.aaldR (N := 1500) (b := g1) a rfl (by omega) (by omega) (by first | exact hq7 | (simp only [rIQ, rJQ, rAQ, rLQ, rVQ, rQ_holdE]; exact hq7)) dc_412_97 (mk_86 _) ht_5 ?_
  refine Bod.ast dc_412_98 (by rw [ml_412]; exact Nat.le_of_ble_eq_true rfl) ?_
  refine Bod.go dc_412_100 rfl ?_
  refine Bod.ic 0 (by decide) dc_412_102 ?_
  refine Bod.go dc_412_103 rfl ?_
  refine Bod.go dc_412_104 rfl ?_
  refine Bod.go dc_412_105 rfl ?_
  refine Bod.virt (r := []) dc_412_106 kr_412_764 ⟨Or.inl rfl, ow_399, cl_13⟩ (by rw [np_399]; rfl) (by rw [np_399]; rfl) (ob_of (mk_thing ag1 (by first | exact hz3 | (simp only [rIS, rJS, rAS, rLS, rVS, rQS, rS_hold]; exact hz3)))) (Nat.le_of_ble_eq_true rfl) (c5  ) ?_
  show Bod _ _ _ _ [_] _ _ _
  refine Bod.ist dc_412_109 (by rw [ml_412]; exact Nat.le_of_ble_eq_true rfl) ?_
  refine Bod.go dc_412_111 rfl ?_
  refine Bod.get dc_412_113 fr_412_531 (mk_thing ag (by first | exact hz4 | (simp only [rIS, rJS, rAS, rLS, rVS, rQS, rS_hold]; exact hz4))) rfl ?_
  refine Bod.eqI (nI fd0) (by first | assumption | (simp (disch := omega) only [rI, rIe, rA, rIA, rLA, rJA, rVI, rQI, rVA, rQA, upd_at,  rAI, rLI, rJI, nI_add, pk_sub, kc_0, kc_1, kc_2, kc_3, kc_4, kc_5, reduceIte, Nat.reduceEqDiff, Nat.add_zero, rI_hold, rI_hold, rL_hold, ht, n2, hfd0]; done) | (simp (disch := omega) only [rI, rIe, rA, rIA, rLA, rJA, rVI, rQI, rVA, rQA, upd_at,  rAI, rLI, rJI, nI_add, pk_sub, kc_0, kc_1, kc_2, kc_3, kc_4, kc_5, reduceIte, Nat.reduceEqDiff, Nat.add_zero, rI_hold, rI_hold, rL_hold, ht, n2, hfd0]; exact congrArg nI (by omega))) ?_
  refine Bod.ic 4 (by decide) dc_412_116 ?_
  refine Bod.icF dc_412_117 rfl (k2_eq_F (k_ne fd0 4 rfl rfl (by omega) (by omega) (by omega))) ?_
  refine Bod.go dc_412_120 rfl ?_
  refine Bod.ifF dc_412_122 rfl (by decide) ?_
  refine Bod.go dc_412_125 rfl ?_
  refine Bod.get dc_412_127 fr_412_462 (mk_thing ag1 (by first | exact hz5 | (simp only [rIS, rJS, rAS, rLS, rVS, rQS, rS_hold]; exact hz5))) rfl ?_
  refine Bod.eqV (.ref r) (by first | exact hv1 | (simp only [rIV, rJV, rAV, rLV, rQV, rV, reduceIte, Nat.reduceEqDiff]; exact hv1)) ?_
  refine Bod.go dc_412_130 rfl ?_
  refine Bod.ialdN (N := N) a1 rfl (by omega) (by omega) dc_412_132 (mk_isI (by first | exact hg1 | exact isK_S (by simp only [rIS, rJS, rAS, rLS, rVS, rQS, rS_hold]) hg1)) ?_
  refine Bod.eqI (nI e) (by first | assumption | (simp (disch := omega) only [rI, rIe, rA, rIA, rLA, rJA, rVI, rQI, rVA, rQA, upd_at,  rAI, rLI, rJI, nI_add, pk_sub, kc_0, kc_1, kc_2, kc_3, kc_4, kc_5, reduceIte, Nat.reduceEqDiff, Nat.add_zero, rI_hold, rI_hold, rL_hold, ht, n2, hfd0, he]; done) | (simp (disch := omega) only [rI, rIe, rA, rIA, rLA, rJA, rVI, rQI, rVA, rQA, upd_at,  rAI, rLI, rJI, nI_add, pk_sub, kc_0, kc_1, kc_2, kc_3, kc_4, kc_5, reduceIte, Nat.reduceEqDiff, Nat.add_zero, rI_hold, rI_hold, rL_hold, ht, n2, hfd0, he]; exact congrArg nI (by omega))) ?_
  refine Bod.ic 3 (by decide) dc_412_133 ?_
  refine Bod.icF dc_412_134 rfl (k2_ne_F (k_eq e 3 rfl rfl (by omega))) ?_
  refine Bod.go dc_412_137 rfl ?_
  refine Bod.get dc_412_138 fr_412_485 (mk_61 _) rfl ?_
  refine Bod.go dc_412_141 rfl ?_
  refine Bod.get dc_412_143 fr_412_465 (mk_thing ag1 (by first | exact hz5 | (simp only [rIS, rJS, rAS, rLS, rVS, rQS, rS_hold]; exact hz5))) rfl ?_
  refine Bod.eqV (.ref r1) (by first | exact hv2 | (simp only [rIV, rJV, rAV, rLV, rQV, rV, reduceIte, Nat.reduceEqDiff]; exact hv2)) ?_
  refine Bod.go dc_412_146 rfl ?_
  refine Bod.laldN (N := N1) a1 rfl (by omega) (by omega) dc_412_148 (mk_isL (by first | exact hg2 | exact isK_S (by simp only [rIS, rJS, rAS, rLS, rVS, rQS, rS_hold]) hg2)) ?_
  refine Bod.go dc_412_149 rfl ?_
  refine Bod.eqI (nI o1) (by first | exact ho1 | (simp only [rI, rIe, rA, rIA, rLA, rJA, rVI, rQI, rVA, rQA, upd_at,  rAI, rLI, rJI, nI_add, pk_sub, kc_0, kc_1, kc_2, kc_3, kc_4, kc_5, reduceIte, Nat.reduceEqDiff, Nat.add_zero, rI_hold, rI_hold, rL_hold]; exact ho1)) ?_
  refine Bod.aaldR (N := 1500) (b := g2) o1 rfl (by omega) (by omega) (by first | exact hq16 | (simp only [rIQ, rJQ, rAQ, rLQ, rVQ, rQ_holdE]; exact hq16)) dc_412_150 (mk_86 _) ht_5 ?_
  refine Bod.get dc_412_151 fr_412_531 (mk_thing ag2 (by first | exact hz6 | (simp only [rIS, rJS, rAS, rLS, rVS, rQS, rS_hold]; exact hz6))) rfl ?_
  refine Bod.eqI (nI fd01) (by first | assumption | (simp (disch := omega) only [rI, rIe, rA, rIA, rLA, rJA, rVI, rQI, rVA, rQA, upd_at,  rAI, rLI, rJI, nI_add, pk_sub, kc_0, kc_1, kc_2, kc_3, kc_4, kc_5, reduceIte, Nat.reduceEqDiff, Nat.add_zero, rI_hold, rI_hold, rL_hold, ht, n2, hfd0, he, hfd01]; done) | (simp (disch := omega) only [rI, rIe, rA, rIA, rLA, rJA, rVI, rQI, rVA, rQA, upd_at,  rAI, rLI, rJI, nI_add, pk_sub, kc_0, kc_1, kc_2, kc_3, kc_4, kc_5, reduceIte, Nat.reduceEqDiff, Nat.add_zero, rI_hold, rI_hold, rL_hold, ht, n2, hfd0, he, hfd01]; exact congrArg nI (by omega))) ?_
  refine Bod.ic 3 (by decide) dc_412_154 ?_
  refine Bod.icF dc_412_155 rfl (k2_eq_F (k_ne fd01 3 rfl rfl (by omega) (by omega) (by omega))) ?_
  refine Bod.go dc_412_158 rfl ?_
  refine Bod.go dc_412_159 rfl ?_
  refine Bod.get dc_412_160 fr_412_493 (mk_61 _) rfl ?_
  refine Bod.eqI (nI t1) (by first | assumption | (simp (disch := omega) only [rI, rIe, rA, rIA, rLA, rJA, rVI, rQI, rVA, rQA, upd_at,  rAI, rLI, rJI, nI_add, pk_sub, kc_0, kc_1, kc_2, kc_3, kc_4, kc_5, reduceIte, Nat.reduceEqDiff, Nat.add_zero, rI_hold, rI_hold, rL_hold, ht, n2, hfd0, he, hfd01, ht1]; done) | (simp (disch := omega) only [rI, rIe, rA, rIA, rLA, rJA, rVI, rQI, rVA, rQA, upd_at,  rAI, rLI, rJI, nI_add, pk_sub, kc_0, kc_1, kc_2, kc_3, kc_4, kc_5, reduceIte, Nat.reduceEqDiff, Nat.add_zero, rI_hold, rI_hold, rL_hold, ht, n2, hfd0, he, hfd01, ht1]; exact congrArg nI (by omega))) ?_
  refine Bod.ic 1 (by decide) dc_412_163 ?_
  refine Bod.subN (t1 - 1) (by omega) (by omega) dc_412_164 ?_
  refine Bod.put dc_412_165 fr_412_493 (mk_61 _) (Nat.le_of_ble_eq_true rfl) pf_14_51 (st_6151 _ _) (mu_I _ _ _) ?_
  refine Bod.go dc_412_168 rfl ?_
  refine Bod.go dc_412_169 rfl ?_
  refine Bod.get dc_412_171 fr_412_462 (mk_thing ag1 (by first | exact hz5 | (simp only [rIS, rJS, rAS, rLS, rVS, rQS, rS_hold]; exact hz5))) rfl ?_
  refine Bod.eqV (.ref r) (by first | exact hv1 | (simp only [rIV, rJV, rAV, rLV, rQV, rV, reduceIte, Nat.reduceEqDiff]; exact hv1)) ?_
  refine Bod.go dc_412_174 rfl ?_
  refine Bod.ialdN (N := N) a1 rfl (by omega) (by omega) dc_412_176 (mk_isI (by first | exact hg1 | exact isK_S (by simp only [rIS, rJS, rAS, rLS, rVS, rQS, rS_hold]) hg1)) ?_
  refine Bod.eqI (nI e) (by first | assumption | (simp (disch := omega) only [rI, rIe, rA, rIA, rLA, rJA, rVI, rQI, rVA, rQA, upd_at,  rAI, rLI, rJI, nI_add, pk_sub, kc_0, kc_1, kc_2, kc_3, kc_4, kc_5, reduceIte, Nat.reduceEqDiff, Nat.add_zero, rI_hold, rI_hold, rL_hold, ht, n2, hfd0, he, hfd01, ht1]; done) | (simp (disch := omega) only [rI, rIe, rA, rIA, rLA, rJA, rVI, rQI, rVA, rQA, upd_at,  rAI, rLI, rJI, nI_add, pk_sub, kc_0, kc_1, kc_2, kc_3, kc_4, kc_5, reduceIte, Nat.reduceEqDiff, Nat.add_zero, rI_hold, rI_hold, rL_hold, ht, n2, hfd0, he, hfd01, ht1]; exact congrArg nI (by omega))) ?_
  refine Bod.go dc_412_177 rfl ?_
  refine Bod.get dc_412_179 fr_412_465 (mk_thing ag1 (by first | exact hz5 | (simp only [rIS, rJS, rAS, rLS, rVS, rQS, rS_hold]; exact hz5))) rfl ?_
  refine Bod.eqV (.ref r1) (by first | exact hv2 | (simp only [rIV, rJV, rAV, rLV, rQV, rV, reduceIte, Nat.reduceEqDiff]; exact hv2)) ?_
  refine Bod.go dc_412_182 rfl ?_
  refine Bod.laldN (N := N1) a1 rfl (by omega) (by omega) dc_412_184 (mk_isL (by first | exact hg2 | exact isK_S (by simp only [rIS, rJS, rAS, rLS, rVS, rQS, rS_hold]) hg2)) ?_
  refine Bod.go dc_412_185 rfl ?_
  refine Bod.get dc_412_187 fr_412_627 (mk_thing ag1 (by first | exact hz5 | (simp only [rIS, rJS, rAS, rLS, rVS, rQS, rS_hold]; exact hz5))) rfl ?_
  refine Bod.eqV (.ref r2) (by first | exact hv3 | (simp only [rIV, rJV, rAV, rLV, rQV, rV, reduceIte, Nat.reduceEqDiff]; exact hv3)) ?_
  refine Bod.go dc_412_190 rfl ?_
  refine Bod.laldN (N := N2) a1 rfl (by omega) (by omega) dc_412_192 (mk_isL (by first | exact hg3 | exact isK_S (by simp only [rIS, rJS, rAS, rLS, rVS, rQS, rS_hold]) hg3)) ?_
  refine Bod.virt (r := []) dc_412_193 kr_412_549 ⟨Or.inl rfl, ow_352, cl_14⟩ (by rw [np_352]; rfl) (by rw [np_352]; rfl) (ob_of (mk_61 _)) (Nat.le_of_ble_eq_true rfl) (c6  ) ?_
  show Bod _ _ _ _ [] _ _ _
  refine Bod.ic 1 (by decide) dc_412_196 ?_
  exact Bod.retZ dc_412_197 rt_412 (Or.inr rfl)
theorem rGa_28 {d : Nat} {S : cS} {nm : Nat} {t : Nat} {S1 : cS} {S2 : cS} {o : Nat} {g : Nat} {zg : Nat} {S3 : cS} {S4 : cS} {S5 : cS} (mnm : nm < 2 ^ 20) (ht : sI S 6151 = nI t) (mt : t < 20481) (b1 : 1 ≤ t) (c1 : Ans (d + 8) 363 [.ref 61, .int (nI (t - 1)), .int (nI 5)] S (some (.int (nI 0))) S1) (c2 : Ans (d + 8) 363 [.ref 61, .int (nI (t - 1)), .int (nI 4)] S1 (some (.int (nI 1))) S2) (ho : (sL S2 92 (t - 1)).toInt32 = nI o) (mo : o < 1500) (ag : 108 ≤ g) (hq3 : sQ S2 86 o = some g) (c3 : Ans (d + 8) 399 [.ref g, .int (nI 0), .long ((nI nm).toInt64), .long 0] S2 (some (.int (Int32.ofInt (-1)))) S3) (hz1 : (sS S2)[g - 108]? = some (13, zg)) (hz2 : (sS S3)[g - 108]? = some (13, zg)) (n2 : sI S3 (100 * g + 11) = Int32.ofInt (-1)) (c4 : Ans (d + 8) 398 [.ref 61, .int (Int32.ofInt (-1)), .int (nI nm)] S3 (some (.int (Int32.ofInt (-1)))) S4) (c5 : Ans (d + 8) 351 [.ref 61, .int (nI 9)] S4 (some (.int (nI 0))) S5) : Bod (d + 8) 412 0 [(0, .ref 61), (1, .int (nI nm))] [] S (some (.int 0)) (S5) := by
  refine Bod.go dc_412_0 rfl ?_
  refine Bod.get dc_412_1 fr_412_493 (mk_61 _) rfl ?_
  refine Bod.eqI (nI t) (by first | assumption | rfl | exact congrArg nI (by omega) | (simp (disch := omega) only [rI, rIe, rA, rIA, rLA, rJA, rVI, rQI, rVA, rQA, upd_at,  rAI, rLI, rJI, nI_add, pk_sub, kc_0, kc_1, kc_2, kc_3, kc_4, kc_5, reduceIte, Nat.reduceEqDiff, Nat.add_zero, rI_hold, rI_hold, rL_hold, ht]; done)) ?_
  refine Bod.ic 1 (by decide) dc_412_4 ?_
  refine Bod.subN (t - 1) (by omega) (by omega) dc_412_5 ?_
  refine Bod.istn dc_412_6 (by rw [ml_412]; exact Nat.le_of_ble_eq_true rfl) ?_
  refine Bod.go dc_412_7 rfl ?_
  refine Bod.go dc_412_8 rfl ?_
  refine Bod.ic 5 (by decide) dc_412_9 ?_
  refine Bod.virt (r := []) dc_412_10 kr_412_683 ⟨Or.inl rfl, ow_363, cl_14⟩ (by rw [np_363]; rfl) (by rw [np_363]; rfl) (ob_of (mk_61 _)) (Nat.le_of_ble_eq_true rfl) (c1  ) ?_
  show Bod _ _ _ _ [_] _ _ _
  refine Bod.ifF dc_412_13 rfl (k1_ne_F (k_eq 0 0 rfl rfl (by omega))) ?_
  refine Bod.go dc_412_16 rfl ?_
  refine Bod.go dc_412_17 rfl ?_
  refine Bod.ic 4 (by decide) dc_412_18 ?_
  refine Bod.virt (r := []) dc_412_19 kr_412_683 ⟨Or.inl rfl, ow_363, cl_14⟩ (by rw [np_363]; rfl) (by rw [np_363]; rfl) (ob_of (mk_61 _)) (Nat.le_of_ble_eq_true rfl) (c2  ) ?_
  show Bod _ _ _ _ [_] _ _ _
  refine Bod.ifT dc_412_22 rfl (k1_ne_T (k_ne 1 0 rfl rfl (by omega) (by omega) (by omega))) ?_
  refine Bod.go dc_412_31 rfl ?_
  refine Bod.get dc_412_32 fr_412_499 (mk_61 _) rfl ?_
  refine Bod.go dc_412_35 rfl ?_
  refine Bod.laldN (t - 1) rfl (by omega) (by omega) dc_412_36 (mk_92 _) ?_
  refine Bod.go dc_412_37 rfl ?_
  refine Bod.eqI (nI o) (by first | exact ho | (simp only [rI, rIe, rA, rIA, rLA, rJA, rVI, rQI, rVA, rQA, upd_at,  rAI, rLI, rJI, nI_add, pk_sub, kc_0, kc_1, kc_2, kc_3, kc_4, kc_5, reduceIte, Nat.reduceEqDiff, Nat.add_zero, rI_hold, rI_hold, rL_hold]; exact ho)) ?_
  refine Bod.istn dc_412_38 (by rw [ml_412]; exact Nat.le_of_ble_eq_true rfl) ?_
  refine Bod.go dc_412_39 rfl ?_
  refine Bod.get dc_412_40 fr_412_485 (mk_61 _) rfl ?_
  refine Bod.go dc_412_43 rfl ?_
  refine Bod.aaldR (N := 1500) (b := g) o rfl (by omega) (by omega) (by first | exact hq3 | (simp only [rIQ, rJQ, rAQ, rLQ, rVQ, rQ_holdE]; exact hq3)) dc_412_44 (mk_86 _) ht_5 ?_
  refine Bod.ast dc_412_45 (by rw [ml_412]; exact Nat.le_of_ble_eq_true rfl) ?_
  refine Bod.go dc_412_47 rfl ?_
  refine Bod.ic 0 (by decide) dc_412_49 ?_
  refine Bod.go dc_412_50 rfl ?_
  refine Bod.go dc_412_51 rfl ?_
  refine Bod.go dc_412_52 rfl ?_
  refine Bod.virt (r := []) dc_412_53 kr_412_764 ⟨Or.inl rfl, ow_399, cl_13⟩ (by rw [np_399]; rfl) (by rw [np_399]; rfl) (ob_of (mk_thing ag (by first | exact hz1 | (simp only [rIS, rJS, rAS, rLS, rVS, rQS, rS_hold]; exact hz1)))) (Nat.le_of_ble_eq_true rfl) (c3  ) ?_
  show Bod _ _ _ _ [_] _ _ _
  refine Bod.ist dc_412_56 (by rw [ml_412]; exact Nat.le_of_ble_eq_true rfl) ?_
  refine Bod.go dc_412_58 rfl ?_
  refine Bod.ifT dc_412_60 rfl (by decide) ?_
  refine Bod.go dc_412_67 rfl ?_
  refine Bod.go dc_412_68 rfl ?_
  refine Bod.get dc_412_70 fr_412_472 (mk_thing ag (by first | exact hz2 | (simp only [rIS, rJS, rAS, rLS, rVS, rQS, rS_hold]; exact hz2))) rfl ?_
  refine Bod.eqI (Int32.ofInt (-1)) (by first | assumption | (simp (disch := omega) only [rI, rIe, rA, rIA, rLA, rJA, rVI, rQI, rVA, rQA, upd_at,  rAI, rLI, rJI, nI_add, pk_sub, kc_0, kc_1, kc_2, kc_3, kc_4, kc_5, reduceIte, Nat.reduceEqDiff, Nat.add_zero, rI_hold, rI_hold, rL_hold, ht, n2]; done) | (simp (disch := omega) only [rI, rIe, rA, rIA, rLA, rJA, rVI, rQI, rVA, rQA, upd_at,  rAI, rLI, rJI, nI_add, pk_sub, kc_0, kc_1, kc_2, kc_3, kc_4, kc_5, reduceIte, Nat.reduceEqDiff, Nat.add_zero, rI_hold, rI_hold, rL_hold, ht, n2]; exact congrArg nI (by omega))) ?_
  refine Bod.go dc_412_73 rfl ?_
  refine Bod.virt (r := []) dc_412_74 kr_412_777 ⟨Or.inl rfl, ow_398, cl_14⟩ (by rw [np_398]; rfl) (by rw [np_398]; rfl) (ob_of (mk_61 _)) (Nat.le_of_ble_eq_true rfl) (c4  ) ?_
  show Bod _ _ _ _ [_] _ _ _
  refine Bod.ist dc_412_77 (by rw [ml_412]; exact Nat.le_of_ble_eq_true rfl) ?_
  refine Bod.go dc_412_79 rfl ?_
  refine Bod.ifF dc_412_81 rfl (by decide) ?_
  refine Bod.go dc_412_84 rfl ?_
  refine Bod.bip 9 (by decide) dc_412_85 ?_
  refine Bod.virt (r := []) dc_412_87 kr_412_608 ⟨Or.inl rfl, ow_351, cl_14⟩ (by rw [np_351]; rfl) (by rw [np_351]; rfl) (ob_of (mk_61 _)) (Nat.le_of_ble_eq_true rfl) (c5  ) ?_
  show Bod _ _ _ _ [_] _ _ _
  exact Bod.retZ dc_412_90 rt_412 (Or.inl rfl)
theorem rGa_29 {d : Nat} {S : cS} {nm : Nat} {t : Nat} {S1 : cS} {S2 : cS} {S3 : cS} (mnm : nm < 2 ^ 20) (ht : sI S 6151 = nI t) (mt : t < 20481) (b1 : 1 ≤ t) (c1 : Ans (d + 8) 363 [.ref 61, .int (nI (t - 1)), .int (nI 5)] S (some (.int (nI 0))) S1) (c2 : Ans (d + 8) 363 [.ref 61, .int (nI (t - 1)), .int (nI 4)] S1 (some (.int (nI 0))) S2) (c3 : Ans (d + 8) 351 [.ref 61, .int (nI 2)] S2 (some (.int (nI 0))) S3) : Bod (d + 8) 412 0 [(0, .ref 61), (1, .int (nI nm))] [] S (some (.int 0)) (S3) := by
  refine Bod.go dc_412_0 rfl ?_
  refine Bod.get dc_412_1 fr_412_493 (mk_61 _) rfl ?_
  refine Bod.eqI (nI t) (by first | assumption | rfl | exact congrArg nI (by omega) | (simp (disch := omega) only [rI, rIe, rA, rIA, rLA, rJA, rVI, rQI, rVA, rQA, upd_at,  rAI, rLI, rJI, nI_add, pk_sub, kc_0, kc_1, kc_2, kc_3, kc_4, kc_5, reduceIte, Nat.reduceEqDiff, Nat.add_zero, rI_hold, rI_hold, rL_hold, ht]; done)) ?_
  refine Bod.ic 1 (by decide) dc_412_4 ?_
  refine Bod.subN (t - 1) (by omega) (by omega) dc_412_5 ?_
  refine Bod.istn dc_412_6 (by rw [ml_412]; exact Nat.le_of_ble_eq_true rfl) ?_
  refine Bod.go dc_412_7 rfl ?_
  refine Bod.go dc_412_8 rfl ?_
  refine Bod.ic 5 (by decide) dc_412_9 ?_
  refine Bod.virt (r := []) dc_412_10 kr_412_683 ⟨Or.inl rfl, ow_363, cl_14⟩ (by rw [np_363]; rfl) (by rw [np_363]; rfl) (ob_of (mk_61 _)) (Nat.le_of_ble_eq_true rfl) (c1  ) ?_
  show Bod _ _ _ _ [_] _ _ _
  refine Bod.ifF dc_412_13 rfl (k1_ne_F (k_eq 0 0 rfl rfl (by omega))) ?_
  refine Bod.go dc_412_16 rfl ?_
  refine Bod.go dc_412_17 rfl ?_
  refine Bod.ic 4 (by decide) dc_412_18 ?_
  refine Bod.virt (r := []) dc_412_19 kr_412_683 ⟨Or.inl rfl, ow_363, cl_14⟩ (by rw [np_363]; rfl) (by rw [np_363]; rfl) (ob_of (mk_61 _)) (Nat.le_of_ble_eq_true rfl) (c2  ) ?_
  show Bod _ _ _ _ [_] _ _ _
  refine Bod.ifF dc_412_22 rfl (k1_ne_F (k_eq 0 0 rfl rfl (by omega))) ?_
  refine Bod.go dc_412_25 rfl ?_
  refine Bod.ic 2 (by decide) dc_412_26 ?_
  refine Bod.virt (r := []) dc_412_27 kr_412_608 ⟨Or.inl rfl, ow_351, cl_14⟩ (by rw [np_351]; rfl) (by rw [np_351]; rfl) (ob_of (mk_61 _)) (Nat.le_of_ble_eq_true rfl) (c3  ) ?_
  show Bod _ _ _ _ [_] _ _ _
  exact Bod.retZ dc_412_30 rt_412 (Or.inl rfl)
theorem xsw_379_59 : ∀ b, b < 64 → (b = 3 ∨ b = 4 ∨ b = 6 ∨ sm_br (.tableswitch (68) 3 6 #[29, 61, 68, 45]) 29 59 [.int (nI b)] = some (127, [])) := by decide +kernel
theorem rCl_1 {d : Nat} {S : cS} {nn : Nat} {t : Nat} {e91 : Nat} {S1 : cS} {g : Nat} {zg : Nat} {fd0 : Nat} {o : Nat} {S2 : cS} (mnn : nn < 2 ^ 20) (ht : sI S 6151 = nI t) (mt : t < 20481) (b1 : nn ≤ t) (b2 : 1 ≤ t - nn) (he91 : sA S 91 (t - 1 - nn) = nI e91) (me91 : e91 < 2 ^ 20) (b3 : e91 ≠ 4) (b4 : e91 = 3) (ag : 108 ≤ g) (c1 : Ans (d + 8) 361 [.ref 61, .int (nI (t - 1 - nn))] S (some (.ref g)) S1) (hz1 : (sS S1)[g - 108]? = some (13, zg)) (hfd0 : sI S1 (100 * g + 0) = nI fd0) (mfd0 : fd0 < 2 ^ 20) (sw15 : fd0 = 3) (ho : (sL S1 92 (t - 1 - nn)).toInt32 = nI o) (mo : o < 1500) (c2 : Ans (d + 8) 396 [.ref 61, .int (nI o), .int (nI (t - 1 - nn)), .int (nI nn), .int (Int32.ofInt (-1)), .int (nI 0)] S1 (some (.int (nI 1))) S2) : Bod (d + 8) 379 0 [(0, .ref 61), (1, .int (nI nn))] [] S (some (.int 1)) (S2) := by
  refine Bod.go dc_379_0 rfl ?_
  refine Bod.get dc_379_1 fr_379_493 (mk_61 _) rfl ?_
  refine Bod.eqI (nI t) (by first | assumption | rfl | exact congrArg nI (by omega) | (simp (disch := omega) only [rI, rIe, rA, rIA, rLA, rJA, rVI, rQI, rVA, rQA, upd_at,  rAI, rLI, rJI, nI_add, pk_sub, kc_0, kc_1, kc_2, kc_3, kc_4, kc_5, reduceIte, Nat.reduceEqDiff, Nat.add_zero, rI_hold, rI_hold, rL_hold, ht]; done)) ?_
  refine Bod.go dc_379_4 rfl ?_
  refine Bod.subN (t - nn) (by omega) (by omega) dc_379_5 ?_
  refine Bod.ic 1 (by decide) dc_379_6 ?_
  refine Bod.subN (t - 1 - nn) (by omega) (by omega) dc_379_7 ?_
  refine Bod.istn dc_379_8 (by rw [ml_379]; exact Nat.le_of_ble_eq_true rfl) ?_
  refine Bod.go dc_379_9 rfl ?_
  refine Bod.get dc_379_10 fr_379_496 (mk_61 _) rfl ?_
  refine Bod.go dc_379_13 rfl ?_
  refine Bod.ialdN (t - 1 - nn) rfl (by omega) (by omega) dc_379_14 (mk_91 _) ?_
  refine Bod.eqI (nI e91) (by first | assumption | rfl | exact congrArg nI (by omega) | (simp (disch := omega) only [rI, rIe, rA, rIA, rLA, rJA, rVI, rQI, rVA, rQA, upd_at,  rAI, rLI, rJI, nI_add, pk_sub, kc_0, kc_1, kc_2, kc_3, kc_4, kc_5, reduceIte, Nat.reduceEqDiff, Nat.add_zero, rI_hold, rI_hold, rL_hold, ht, he91]; done)) ?_
  refine Bod.ic 4 (by decide) dc_379_15 ?_
  refine Bod.icT dc_379_16 rfl (k2_ne_T (k_ne e91 4 rfl rfl (by omega) (by omega) (by omega))) ?_
  refine Bod.go dc_379_33 rfl ?_
  refine Bod.get dc_379_34 fr_379_496 (mk_61 _) rfl ?_
  refine Bod.go dc_379_37 rfl ?_
  refine Bod.ialdN (t - 1 - nn) rfl (by omega) (by omega) dc_379_38 (mk_91 _) ?_
  refine Bod.eqI (nI e91) (by first | assumption | rfl | exact congrArg nI (by omega) | (simp (disch := omega) only [rI, rIe, rA, rIA, rLA, rJA, rVI, rQI, rVA, rQA, upd_at,  rAI, rLI, rJI, nI_add, pk_sub, kc_0, kc_1, kc_2, kc_3, kc_4, kc_5, reduceIte, Nat.reduceEqDiff, Nat.add_zero, rI_hold, rI_hold, rL_hold, ht, he91]; done)) ?_
  refine Bod.ic 3 (by decide) dc_379_39 ?_
  refine Bod.icT dc_379_40 rfl (k2_eq_T (k_eq e91 3 rfl rfl (by omega))) ?_
  refine Bod.go dc_379_49 rfl ?_
  refine Bod.go dc_379_50 rfl ?_
  refine Bod.virt (r := []) dc_379_51 kr_379_554 ⟨Or.inl rfl, ow_361, cl_14⟩ (by rw [np_361]; rfl) (by rw [np_361]; rfl) (ob_of (mk_61 _)) (Nat.le_of_ble_eq_true rfl) (c1  ) ?_
  show Bod _ _ _ _ [_] _ _ _
  refine Bod.astn dc_379_54 (by rw [ml_379]; exact Nat.le_of_ble_eq_true rfl) ?_
  refine Bod.go dc_379_55 rfl ?_
  refine Bod.get dc_379_56 fr_379_531 (mk_thing ag (by first | exact hz1 | (simp only [rIS, rJS, rAS, rLS, rVS, rQS, rS_hold]; exact hz1))) rfl ?_
  refine Bod.eqI (nI fd0) (by first | assumption | (simp (disch := omega) only [rI, rIe, rA, rIA, rLA, rJA, rVI, rQI, rVA, rQA, upd_at,  rAI, rLI, rJI, nI_add, pk_sub, kc_0, kc_1, kc_2, kc_3, kc_4, kc_5, reduceIte, Nat.reduceEqDiff, Nat.add_zero, rI_hold, rI_hold, rL_hold, ht, he91, hfd0]; done) | (simp (disch := omega) only [rI, rIe, rA, rIA, rLA, rJA, rVI, rQI, rVA, rQA, upd_at,  rAI, rLI, rJI, nI_add, pk_sub, kc_0, kc_1, kc_2, kc_3, kc_4, kc_5, reduceIte, Nat.reduceEqDiff, Nat.add_zero, rI_hold, rI_hold, rL_hold, ht, he91, hfd0]; exact congrArg nI (by omega))) ?_
  refine Bod.sw (t := 88) dc_379_59 rfl rfl (by rw [sw15]; decide +kernel) ?_
  refine Bod.go dc_379_88 rfl ?_
  refine Bod.go dc_379_89 rfl ?_
  refine Bod.get dc_379_90 fr_379_499 (mk_61 _) rfl ?_
  refine Bod.go dc_379_93 rfl ?_
  refine Bod.laldN (t - 1 - nn) rfl (by omega) (by omega) dc_379_94 (mk_92 _) ?_
  refine Bod.go dc_379_95 rfl ?_
  refine Bod.eqI (nI o) (by first | exact ho | (simp only [rI, rIe, rA, rIA, rLA, rJA, rVI, rQI, rVA, rQA, upd_at,  rAI, rLI, rJI, nI_add, pk_sub, kc_0, kc_1, kc_2, kc_3, kc_4, kc_5, reduceIte, Nat.reduceEqDiff, Nat.add_zero, rI_hold, rI_hold, rL_hold]; exact ho)) ?_
  refine Bod.go dc_379_96 rfl ?_
  refine Bod.go dc_379_97 rfl ?_
  refine Bod.go dc_379_98 rfl ?_
  refine Bod.ic 0 (by decide) dc_379_99 ?_
  refine Bod.virt (r := []) dc_379_100 kr_379_783 ⟨Or.inl rfl, ow_396, cl_14⟩ (by rw [np_396]; rfl) (by rw [np_396]; rfl) (ob_of (mk_61 _)) (Nat.le_of_ble_eq_true rfl) (c2  ) ?_
  show Bod _ _ _ _ [_] _ _ _
  exact Bod.retZ dc_379_103 rt_379 (Or.inr rfl)
theorem rCl_2 {d : Nat} {S : cS} {nn : Nat} {t : Nat} {e91 : Nat} {S1 : cS} {g : Nat} {zg : Nat} {fd0 : Nat} {o : Nat} {S2 : cS} (mnn : nn < 2 ^ 20) (ht : sI S 6151 = nI t) (mt : t < 20481) (b1 : nn ≤ t) (b2 : 1 ≤ t - nn) (he91 : sA S 91 (t - 1 - nn) = nI e91) (me91 : e91 < 2 ^ 20) (b3 : e91 ≠ 4) (b4 : e91 = 3) (ag : 108 ≤ g) (c1 : Ans (d + 8) 361 [.ref 61, .int (nI (t - 1 - nn))] S (some (.ref g)) S1) (hz1 : (sS S1)[g - 108]? = some (13, zg)) (hfd0 : sI S1 (100 * g + 0) = nI fd0) (mfd0 : fd0 < 2 ^ 20) (sw15 : fd0 = 3) (ho : (sL S1 92 (t - 1 - nn)).toInt32 = nI o) (mo : o < 1500) (c2 : Ans (d + 8) 396 [.ref 61, .int (nI o), .int (nI (t - 1 - nn)), .int (nI nn), .int (Int32.ofInt (-1)), .int (nI 0)] S1 (some (.int (nI 0))) S2) : Bod (d + 8) 379 0 [(0, .ref 61), (1, .int (nI nn))] [] S (some (.int 0)) (S2) := by
  refine Bod.go dc_379_0 rfl ?_
  refine Bod.get dc_379_1 fr_379_493 (mk_61 _) rfl ?_
  refine Bod.eqI (nI t) (by first | assumption | rfl | exact congrArg nI (by omega) | (simp (disch := omega) only [rI, rIe, rA, rIA, rLA, rJA, rVI, rQI, rVA, rQA, upd_at,  rAI, rLI, rJI, nI_add, pk_sub, kc_0, kc_1, kc_2, kc_3, kc_4, kc_5, reduceIte, Nat.reduceEqDiff, Nat.add_zero, rI_hold, rI_hold, rL_hold, ht]; done)) ?_
  refine Bod.go dc_379_4 rfl ?_
  refine Bod.subN (t - nn) (by omega) (by omega) dc_379_5 ?_
  refine Bod.ic 1 (by decide) dc_379_6 ?_
  refine Bod.subN (t - 1 - nn) (by omega) (by omega) dc_379_7 ?_
  refine Bod.istn dc_379_8 (by rw [ml_379]; exact Nat.le_of_ble_eq_true rfl) ?_
  refine Bod.go dc_379_9 rfl ?_
  refine Bod.get dc_379_10 fr_379_496 (mk_61 _) rfl ?_
  refine Bod.go dc_379_13 rfl ?_
  refine Bod.ialdN (t - 1 - nn) rfl (by omega) (by omega) dc_379_14 (mk_91 _) ?_
  refine Bod.eqI (nI e91) (by first | assumption | rfl | exact congrArg nI (by omega) | (simp (disch := omega) only [rI, rIe, rA, rIA, rLA, rJA, rVI, rQI, rVA, rQA, upd_at,  rAI, rLI, rJI, nI_add, pk_sub, kc_0, kc_1, kc_2, kc_3, kc_4, kc_5, reduceIte, Nat.reduceEqDiff, Nat.add_zero, rI_hold, rI_hold, rL_hold, ht, he91]; done)) ?_
  refine Bod.ic 4 (by decide) dc_379_15 ?_
  refine Bod.icT dc_379_16 rfl (k2_ne_T (k_ne e91 4 rfl rfl (by omega) (by omega) (by omega))) ?_
  refine Bod.go dc_379_33 rfl ?_
  refine Bod.get dc_379_34 fr_379_496 (mk_61 _) rfl ?_
  refine Bod.go dc_379_37 rfl ?_
  refine Bod.ialdN (t - 1 - nn) rfl (by omega) (by omega) dc_379_38 (mk_91 _) ?_
  refine Bod.eqI (nI e91) (by first | assumption | rfl | exact congrArg nI (by omega) | (simp (disch := omega) only [rI, rIe, rA, rIA, rLA, rJA, rVI, rQI, rVA, rQA, upd_at,  rAI, rLI, rJI, nI_add, pk_sub, kc_0, kc_1, kc_2, kc_3, kc_4, kc_5, reduceIte, Nat.reduceEqDiff, Nat.add_zero, rI_hold, rI_hold, rL_hold, ht, he91]; done)) ?_
  refine Bod.ic 3 (by decide) dc_379_39 ?_
  refine Bod.icT dc_379_40 rfl (k2_eq_T (k_eq e91 3 rfl rfl (by omega))) ?_
  refine Bod.go dc_379_49 rfl ?_
  refine Bod.go dc_379_50 rfl ?_
  refine Bod.virt (r := []) dc_379_51 kr_379_554 ⟨Or.inl rfl, ow_361, cl_14⟩ (by rw [np_361]; rfl) (by rw [np_361]; rfl) (ob_of (mk_61 _)) (Nat.le_of_ble_eq_true rfl) (c1  ) ?_
  show Bod _ _ _ _ [_] _ _ _
  refine Bod.astn dc_379_54 (by rw [ml_379]; exact Nat.le_of_ble_eq_true rfl) ?_
  refine Bod.go dc_379_55 rfl ?_
  refine Bod.get dc_379_56 fr_379_531 (mk_thing ag (by first | exact hz1 | (simp only [rIS, rJS, rAS, rLS, rVS, rQS, rS_hold]; exact hz1))) rfl ?_
  refine Bod.eqI (nI fd0) (by first | assumption | (simp (disch := omega) only [rI, rIe, rA, rIA, rLA, rJA, rVI, rQI, rVA, rQA, upd_at,  rAI, rLI, rJI, nI_add, pk_sub, kc_0, kc_1, kc_2, kc_3, kc_4, kc_5, reduceIte, Nat.reduceEqDiff, Nat.add_zero, rI_hold, rI_hold, rL_hold, ht, he91, hfd0]; done) | (simp (disch := omega) only [rI, rIe, rA, rIA, rLA, rJA, rVI, rQI, rVA, rQA, upd_at,  rAI, rLI, rJI, nI_add, pk_sub, kc_0, kc_1, kc_2, kc_3, kc_4, kc_5, reduceIte, Nat.reduceEqDiff, Nat.add_zero, rI_hold, rI_hold, rL_hold, ht, he91, hfd0]; exact congrArg nI (by omega))) ?_
  refine Bod.sw (t := 88) dc_379_59 rfl rfl (by rw [sw15]; decide +kernel) ?_
  refine Bod.go dc_379_88 rfl ?_
  refine Bod.go dc_379_89 rfl ?_
  refine Bod.get dc_379_90 fr_379_499 (mk_61 _) rfl ?_
  refine Bod.go dc_379_93 rfl ?_
  refine Bod.laldN (t - 1 - nn) rfl (by omega) (by omega) dc_379_94 (mk_92 _) ?_
  refine Bod.go dc_379_95 rfl ?_
  refine Bod.eqI (nI o) (by first | exact ho | (simp only [rI, rIe, rA, rIA, rLA, rJA, rVI, rQI, rVA, rQA, upd_at,  rAI, rLI, rJI, nI_add, pk_sub, kc_0, kc_1, kc_2, kc_3, kc_4, kc_5, reduceIte, Nat.reduceEqDiff, Nat.add_zero, rI_hold, rI_hold, rL_hold]; exact ho)) ?_
  refine Bod.go dc_379_96 rfl ?_
  refine Bod.go dc_379_97 rfl ?_
  refine Bod.go dc_379_98 rfl ?_
  refine Bod.ic 0 (by decide) dc_379_99 ?_
  refine Bod.virt (r := []) dc_379_100 kr_379_783 ⟨Or.inl rfl, ow_396, cl_14⟩ (by rw [np_396]; rfl) (by rw [np_396]; rfl) (ob_of (mk_61 _)) (Nat.le_of_ble_eq_true rfl) (c2  ) ?_
  show Bod _ _ _ _ [_] _ _ _
  exact Bod.retZ dc_379_103 rt_379 (Or.inl rfl)
theorem rCl_3 {d : Nat} {S : cS} {nn : Nat} {t : Nat} {e91 : Nat} {S1 : cS} {g : Nat} {zg : Nat} {fd0 : Nat} {S2 : cS} (mnn : nn < 2 ^ 20) (ht : sI S 6151 = nI t) (mt : t < 20481) (b1 : nn ≤ t) (b2 : 1 ≤ t - nn) (he91 : sA S 91 (t - 1 - nn) = nI e91) (me91 : e91 < 2 ^ 20) (b3 : e91 ≠ 4) (b4 : e91 = 3) (ag : 108 ≤ g) (c1 : Ans (d + 8) 361 [.ref 61, .int (nI (t - 1 - nn))] S (some (.ref g)) S1) (hz1 : (sS S1)[g - 108]? = some (13, zg)) (hfd0 : sI S1 (100 * g + 0) = nI fd0) (mfd0 : fd0 < 2 ^ 20) (sw15 : fd0 = 4) (c2 : Ans (d + 8) 397 [.ref 61, .int (nI (t - 1 - nn)), .int (nI nn)] S1 (some (.int (nI 1))) S2) : Bod (d + 8) 379 0 [(0, .ref 61), (1, .int (nI nn))] [] S (some (.int 1)) (S2) := by
  refine Bod.go dc_379_0 rfl ?_
  refine Bod.get dc_379_1 fr_379_493 (mk_61 _) rfl ?_
  refine Bod.eqI (nI t) (by first | assumption | rfl | exact congrArg nI (by omega) | (simp (disch := omega) only [rI, rIe, rA, rIA, rLA, rJA, rVI, rQI, rVA, rQA, upd_at,  rAI, rLI, rJI, nI_add, pk_sub, kc_0, kc_1, kc_2, kc_3, kc_4, kc_5, reduceIte, Nat.reduceEqDiff, Nat.add_zero, rI_hold, rI_hold, rL_hold, ht]; done)) ?_
  refine Bod.go dc_379_4 rfl ?_
  refine Bod.subN (t - nn) (by omega) (by omega) dc_379_5 ?_
  refine Bod.ic 1 (by decide) dc_379_6 ?_
  refine Bod.subN (t - 1 - nn) (by omega) (by omega) dc_379_7 ?_
  refine Bod.istn dc_379_8 (by rw [ml_379]; exact Nat.le_of_ble_eq_true rfl) ?_
  refine Bod.go dc_379_9 rfl ?_
  refine Bod.get dc_379_10 fr_379_496 (mk_61 _) rfl ?_
  refine Bod.go dc_379_13 rfl ?_
  refine Bod.ialdN (t - 1 - nn) rfl (by omega) (by omega) dc_379_14 (mk_91 _) ?_
  refine Bod.eqI (nI e91) (by first | assumption | rfl | exact congrArg nI (by omega) | (simp (disch := omega) only [rI, rIe, rA, rIA, rLA, rJA, rVI, rQI, rVA, rQA, upd_at,  rAI, rLI, rJI, nI_add, pk_sub, kc_0, kc_1, kc_2, kc_3, kc_4, kc_5, reduceIte, Nat.reduceEqDiff, Nat.add_zero, rI_hold, rI_hold, rL_hold, ht, he91]; done)) ?_
  refine Bod.ic 4 (by decide) dc_379_15 ?_
  refine Bod.icT dc_379_16 rfl (k2_ne_T (k_ne e91 4 rfl rfl (by omega) (by omega) (by omega))) ?_
  refine Bod.go dc_379_33 rfl ?_
  refine Bod.get dc_379_34 fr_379_496 (mk_61 _) rfl ?_
  refine Bod.go dc_379_37 rfl ?_
  refine Bod.ialdN (t - 1 - nn) rfl (by omega) (by omega) dc_379_38 (mk_91 _) ?_
  refine Bod.eqI (nI e91) (by first | assumption | rfl | exact congrArg nI (by omega) | (simp (disch := omega) only [rI, rIe, rA, rIA, rLA, rJA, rVI, rQI, rVA, rQA, upd_at,  rAI, rLI, rJI, nI_add, pk_sub, kc_0, kc_1, kc_2, kc_3, kc_4, kc_5, reduceIte, Nat.reduceEqDiff, Nat.add_zero, rI_hold, rI_hold, rL_hold, ht, he91]; done)) ?_
  refine Bod.ic 3 (by decide) dc_379_39 ?_
  refine Bod.icT dc_379_40 rfl (k2_eq_T (k_eq e91 3 rfl rfl (by omega))) ?_
  refine Bod.go dc_379_49 rfl ?_
  refine Bod.go dc_379_50 rfl ?_
  refine Bod.virt (r := []) dc_379_51 kr_379_554 ⟨Or.inl rfl, ow_361, cl_14⟩ (by rw [np_361]; rfl) (by rw [np_361]; rfl) (ob_of (mk_61 _)) (Nat.le_of_ble_eq_true rfl) (c1  ) ?_
  show Bod _ _ _ _ [_] _ _ _
  refine Bod.astn dc_379_54 (by rw [ml_379]; exact Nat.le_of_ble_eq_true rfl) ?_
  refine Bod.go dc_379_55 rfl ?_
  refine Bod.get dc_379_56 fr_379_531 (mk_thing ag (by first | exact hz1 | (simp only [rIS, rJS, rAS, rLS, rVS, rQS, rS_hold]; exact hz1))) rfl ?_
  refine Bod.eqI (nI fd0) (by first | assumption | (simp (disch := omega) only [rI, rIe, rA, rIA, rLA, rJA, rVI, rQI, rVA, rQA, upd_at,  rAI, rLI, rJI, nI_add, pk_sub, kc_0, kc_1, kc_2, kc_3, kc_4, kc_5, reduceIte, Nat.reduceEqDiff, Nat.add_zero, rI_hold, rI_hold, rL_hold, ht, he91, hfd0]; done) | (simp (disch := omega) only [rI, rIe, rA, rIA, rLA, rJA, rVI, rQI, rVA, rQA, upd_at,  rAI, rLI, rJI, nI_add, pk_sub, kc_0, kc_1, kc_2, kc_3, kc_4, kc_5, reduceIte, Nat.reduceEqDiff, Nat.add_zero, rI_hold, rI_hold, rL_hold, ht, he91, hfd0]; exact congrArg nI (by omega))) ?_
  refine Bod.sw (t := 120) dc_379_59 rfl rfl (by rw [sw15]; decide +kernel) ?_
  refine Bod.go dc_379_120 rfl ?_
  refine Bod.go dc_379_121 rfl ?_
  refine Bod.go dc_379_122 rfl ?_
  refine Bod.virt (r := []) dc_379_123 kr_379_787 ⟨Or.inl rfl, ow_397, cl_14⟩ (by rw [np_397]; rfl) (by rw [np_397]; rfl) (ob_of (mk_61 _)) (Nat.le_of_ble_eq_true rfl) (c2  ) ?_
  show Bod _ _ _ _ [_] _ _ _
  exact Bod.retZ dc_379_126 rt_379 (Or.inr rfl)
theorem rCl_4 {d : Nat} {S : cS} {nn : Nat} {t : Nat} {e91 : Nat} {S1 : cS} {g : Nat} {zg : Nat} {fd0 : Nat} {S2 : cS} (mnn : nn < 2 ^ 20) (ht : sI S 6151 = nI t) (mt : t < 20481) (b1 : nn ≤ t) (b2 : 1 ≤ t - nn) (he91 : sA S 91 (t - 1 - nn) = nI e91) (me91 : e91 < 2 ^ 20) (b3 : e91 ≠ 4) (b4 : e91 = 3) (ag : 108 ≤ g) (c1 : Ans (d + 8) 361 [.ref 61, .int (nI (t - 1 - nn))] S (some (.ref g)) S1) (hz1 : (sS S1)[g - 108]? = some (13, zg)) (hfd0 : sI S1 (100 * g + 0) = nI fd0) (mfd0 : fd0 < 2 ^ 20) (sw15 : fd0 = 4) (c2 : Ans (d + 8) 397 [.ref 61, .int (nI (t - 1 - nn)), .int (nI nn)] S1 (some (.int (nI 0))) S2) : Bod (d + 8) 379 0 [(0, .ref 61), (1, .int (nI nn))] [] S (some (.int 0)) (S2) := by
  refine Bod.go dc_379_0 rfl ?_
  refine Bod.get dc_379_1 fr_379_493 (mk_61 _) rfl ?_
  refine Bod.eqI (nI t) (by first | assumption | rfl | exact congrArg nI (by omega) | (simp (disch := omega) only [rI, rIe, rA, rIA, rLA, rJA, rVI, rQI, rVA, rQA, upd_at,  rAI, rLI, rJI, nI_add, pk_sub, kc_0, kc_1, kc_2, kc_3, kc_4, kc_5, reduceIte, Nat.reduceEqDiff, Nat.add_zero, rI_hold, rI_hold, rL_hold, ht]; done)) ?_
  refine Bod.go dc_379_4 rfl ?_
  refine Bod.subN (t - nn) (by omega) (by omega) dc_379_5 ?_
  refine Bod.ic 1 (by decide) dc_379_6 ?_
  refine Bod.subN (t - 1 - nn) (by omega) (by omega) dc_379_7 ?_
  refine Bod.istn dc_379_8 (by rw [ml_379]; exact Nat.le_of_ble_eq_true rfl) ?_
  refine Bod.go dc_379_9 rfl ?_
  refine Bod.get dc_379_10 fr_379_496 (mk_61 _) rfl ?_
  refine Bod.go dc_379_13 rfl ?_
  refine Bod.ialdN (t - 1 - nn) rfl (by omega) (by omega) dc_379_14 (mk_91 _) ?_
  refine Bod.eqI (nI e91) (by first | assumption | rfl | exact congrArg nI (by omega) | (simp (disch := omega) only [rI, rIe, rA, rIA, rLA, rJA, rVI, rQI, rVA, rQA, upd_at,  rAI, rLI, rJI, nI_add, pk_sub, kc_0, kc_1, kc_2, kc_3, kc_4, kc_5, reduceIte, Nat.reduceEqDiff, Nat.add_zero, rI_hold, rI_hold, rL_hold, ht, he91]; done)) ?_
  refine Bod.ic 4 (by decide) dc_379_15 ?_
  refine Bod.icT dc_379_16 rfl (k2_ne_T (k_ne e91 4 rfl rfl (by omega) (by omega) (by omega))) ?_
  refine Bod.go dc_379_33 rfl ?_
  refine Bod.get dc_379_34 fr_379_496 (mk_61 _) rfl ?_
  refine Bod.go dc_379_37 rfl ?_
  refine Bod.ialdN (t - 1 - nn) rfl (by omega) (by omega) dc_379_38 (mk_91 _) ?_
  refine Bod.eqI (nI e91) (by first | assumption | rfl | exact congrArg nI (by omega) | (simp (disch := omega) only [rI, rIe, rA, rIA, rLA, rJA, rVI, rQI, rVA, rQA, upd_at,  rAI, rLI, rJI, nI_add, pk_sub, kc_0, kc_1, kc_2, kc_3, kc_4, kc_5, reduceIte, Nat.reduceEqDiff, Nat.add_zero, rI_hold, rI_hold, rL_hold, ht, he91]; done)) ?_
  refine Bod.ic 3 (by decide) dc_379_39 ?_
  refine Bod.icT dc_379_40 rfl (k2_eq_T (k_eq e91 3 rfl rfl (by omega))) ?_
  refine Bod.go dc_379_49 rfl ?_
  refine Bod.go dc_379_50 rfl ?_
  refine Bod.virt (r := []) dc_379_51 kr_379_554 ⟨Or.inl rfl, ow_361, cl_14⟩ (by rw [np_361]; rfl) (by rw [np_361]; rfl) (ob_of (mk_61 _)) (Nat.le_of_ble_eq_true rfl) (c1  ) ?_
  show Bod _ _ _ _ [_] _ _ _
  refine Bod.astn dc_379_54 (by rw [ml_379]; exact Nat.le_of_ble_eq_true rfl) ?_
  refine Bod.go dc_379_55 rfl ?_
  refine Bod.get dc_379_56 fr_379_531 (mk_thing ag (by first | exact hz1 | (simp only [rIS, rJS, rAS, rLS, rVS, rQS, rS_hold]; exact hz1))) rfl ?_
  refine Bod.eqI (nI fd0) (by first | assumption | (simp (disch := omega) only [rI, rIe, rA, rIA, rLA, rJA, rVI, rQI, rVA, rQA, upd_at,  rAI, rLI, rJI, nI_add, pk_sub, kc_0, kc_1, kc_2, kc_3, kc_4, kc_5, reduceIte, Nat.reduceEqDiff, Nat.add_zero, rI_hold, rI_hold, rL_hold, ht, he91, hfd0]; done) | (simp (disch := omega) only [rI, rIe, rA, rIA, rLA, rJA, rVI, rQI, rVA, rQA, upd_at,  rAI, rLI, rJI, nI_add, pk_sub, kc_0, kc_1, kc_2, kc_3, kc_4, kc_5, reduceIte, Nat.reduceEqDiff, Nat.add_zero, rI_hold, rI_hold, rL_hold, ht, he91, hfd0]; exact congrArg nI (by omega))) ?_
  refine Bod.sw (t := 120) dc_379_59 rfl rfl (by rw [sw15]; decide +kernel) ?_
  refine Bod.go dc_379_120 rfl ?_
  refine Bod.go dc_379_121 rfl ?_
  refine Bod.go dc_379_122 rfl ?_
  refine Bod.virt (r := []) dc_379_123 kr_379_787 ⟨Or.inl rfl, ow_397, cl_14⟩ (by rw [np_397]; rfl) (by rw [np_397]; rfl) (ob_of (mk_61 _)) (Nat.le_of_ble_eq_true rfl) (c2  ) ?_
  show Bod _ _ _ _ [_] _ _ _
  exact Bod.retZ dc_379_126 rt_379 (Or.inl rfl)
theorem rCl_5 {d : Nat} {S : cS} {nn : Nat} {t : Nat} {e91 : Nat} {S1 : cS} {g : Nat} {zg : Nat} {fd0 : Nat} {fd11 : Nat} {fd12 : Nat} {S2 : cS} (mnn : nn < 2 ^ 20) (ht : sI S 6151 = nI t) (mt : t < 20481) (b1 : nn ≤ t) (b2 : 1 ≤ t - nn) (he91 : sA S 91 (t - 1 - nn) = nI e91) (me91 : e91 < 2 ^ 20) (b3 : e91 ≠ 4) (b4 : e91 = 3) (ag : 108 ≤ g) (c1 : Ans (d + 8) 361 [.ref 61, .int (nI (t - 1 - nn))] S (some (.ref g)) S1) (hz1 : (sS S1)[g - 108]? = some (13, zg)) (hfd0 : sI S1 (100 * g + 0) = nI fd0) (mfd0 : fd0 < 2 ^ 20) (sw15 : fd0 = 6) (hfd11 : sI S1 (100 * g + 11) = nI fd11) (mfd11 : fd11 < 2 ^ 20) (hfd12 : sI S1 (100 * g + 12) = nI fd12) (mfd12 : fd12 < 2 ^ 20) (c2 : Ans (d + 8) 396 [.ref 61, .int (nI fd11), .int (nI (t - 1 - nn)), .int (nI nn), .int (nI fd12), .int (nI 0)] S1 (some (.int (nI 1))) S2) : Bod (d + 8) 379 0 [(0, .ref 61), (1, .int (nI nn))] [] S (some (.int 1)) (S2) := by
  refine Bod.go dc_379_0 rfl ?_
  refine Bod.get dc_379_1 fr_379_493 (mk_61 _) rfl ?_
  refine Bod.eqI (nI t) (by first | assumption | rfl | exact congrArg nI (by omega) | (simp (disch := omega) only [rI, rIe, rA, rIA, rLA, rJA, rVI, rQI, rVA, rQA, upd_at,  rAI, rLI, rJI, nI_add, pk_sub, kc_0, kc_1, kc_2, kc_3, kc_4, kc_5, reduceIte, Nat.reduceEqDiff, Nat.add_zero, rI_hold, rI_hold, rL_hold, ht]; done)) ?_
  refine Bod.go dc_379_4 rfl ?_
  refine Bod.subN (t - nn) (by omega) (by omega) dc_379_5 ?_
  refine Bod.ic 1 (by decide) dc_379_6 ?_
  refine Bod.subN (t - 1 - nn) (by omega) (by omega) dc_379_7 ?_
  refine Bod.istn dc_379_8 (by rw [ml_379]; exact Nat.le_of_ble_eq_true rfl) ?_
  refine Bod.go dc_379_9 rfl ?_
  refine Bod.get dc_379_10 fr_379_496 (mk_61 _) rfl ?_
  refine Bod.go dc_379_13 rfl ?_
  refine Bod.ialdN (t - 1 - nn) rfl (by omega) (by omega) dc_379_14 (mk_91 _) ?_
  refine Bod.eqI (nI e91) (by first | assumption | rfl | exact congrArg nI (by omega) | (simp (disch := omega) only [rI, rIe, rA, rIA, rLA, rJA, rVI, rQI, rVA, rQA, upd_at,  rAI, rLI, rJI, nI_add, pk_sub, kc_0, kc_1, kc_2, kc_3, kc_4, kc_5, reduceIte, Nat.reduceEqDiff, Nat.add_zero, rI_hold, rI_hold, rL_hold, ht, he91]; done)) ?_
  refine Bod.ic 4 (by decide) dc_379_15 ?_
  refine Bod.icT dc_379_16 rfl (k2_ne_T (k_ne e91 4 rfl rfl (by omega) (by omega) (by omega))) ?_
  refine Bod.go dc_379_33 rfl ?_
  refine Bod.get dc_379_34 fr_379_496 (mk_61 _) rfl ?_
  refine Bod.go dc_379_37 rfl ?_
  refine Bod.ialdN (t - 1 - nn) rfl (by omega) (by omega) dc_379_38 (mk_91 _) ?_
  refine Bod.eqI (nI e91) (by first | assumption | rfl | exact congrArg nI (by omega) | (simp (disch := omega) only [rI, rIe, rA, rIA, rLA, rJA, rVI, rQI, rVA, rQA, upd_at,  rAI, rLI, rJI, nI_add, pk_sub, kc_0, kc_1, kc_2, kc_3, kc_4, kc_5, reduceIte, Nat.reduceEqDiff, Nat.add_zero, rI_hold, rI_hold, rL_hold, ht, he91]; done)) ?_
  refine Bod.ic 3 (by decide) dc_379_39 ?_
  refine Bod.icT dc_379_40 rfl (k2_eq_T (k_eq e91 3 rfl rfl (by omega))) ?_
  refine Bod.go dc_379_49 rfl ?_
  refine Bod.go dc_379_50 rfl ?_
  refine Bod.virt (r := []) dc_379_51 kr_379_554 ⟨Or.inl rfl, ow_361, cl_14⟩ (by rw [np_361]; rfl) (by rw [np_361]; rfl) (ob_of (mk_61 _)) (Nat.le_of_ble_eq_true rfl) (c1  ) ?_
  show Bod _ _ _ _ [_] _ _ _
  refine Bod.astn dc_379_54 (by rw [ml_379]; exact Nat.le_of_ble_eq_true rfl) ?_
  refine Bod.go dc_379_55 rfl ?_
  refine Bod.get dc_379_56 fr_379_531 (mk_thing ag (by first | exact hz1 | (simp only [rIS, rJS, rAS, rLS, rVS, rQS, rS_hold]; exact hz1))) rfl ?_
  refine Bod.eqI (nI fd0) (by first | assumption | (simp (disch := omega) only [rI, rIe, rA, rIA, rLA, rJA, rVI, rQI, rVA, rQA, upd_at,  rAI, rLI, rJI, nI_add, pk_sub, kc_0, kc_1, kc_2, kc_3, kc_4, kc_5, reduceIte, Nat.reduceEqDiff, Nat.add_zero, rI_hold, rI_hold, rL_hold, ht, he91, hfd0]; done) | (simp (disch := omega) only [rI, rIe, rA, rIA, rLA, rJA, rVI, rQI, rVA, rQA, upd_at,  rAI, rLI, rJI, nI_add, pk_sub, kc_0, kc_1, kc_2, kc_3, kc_4, kc_5, reduceIte, Nat.reduceEqDiff, Nat.add_zero, rI_hold, rI_hold, rL_hold, ht, he91, hfd0]; exact congrArg nI (by omega))) ?_
  refine Bod.sw (t := 104) dc_379_59 rfl rfl (by rw [sw15]; decide +kernel) ?_
  refine Bod.go dc_379_104 rfl ?_
  refine Bod.go dc_379_105 rfl ?_
  refine Bod.get dc_379_106 fr_379_472 (mk_thing ag (by first | exact hz1 | (simp only [rIS, rJS, rAS, rLS, rVS, rQS, rS_hold]; exact hz1))) rfl ?_
  refine Bod.eqI (nI fd11) (by first | assumption | (simp (disch := omega) only [rI, rIe, rA, rIA, rLA, rJA, rVI, rQI, rVA, rQA, upd_at,  rAI, rLI, rJI, nI_add, pk_sub, kc_0, kc_1, kc_2, kc_3, kc_4, kc_5, reduceIte, Nat.reduceEqDiff, Nat.add_zero, rI_hold, rI_hold, rL_hold, ht, he91, hfd0, hfd11]; done) | (simp (disch := omega) only [rI, rIe, rA, rIA, rLA, rJA, rVI, rQI, rVA, rQA, upd_at,  rAI, rLI, rJI, nI_add, pk_sub, kc_0, kc_1, kc_2, kc_3, kc_4, kc_5, reduceIte, Nat.reduceEqDiff, Nat.add_zero, rI_hold, rI_hold, rL_hold, ht, he91, hfd0, hfd11]; exact congrArg nI (by omega))) ?_
  refine Bod.go dc_379_109 rfl ?_
  refine Bod.go dc_379_110 rfl ?_
  refine Bod.go dc_379_111 rfl ?_
  refine Bod.get dc_379_112 fr_379_475 (mk_thing ag (by first | exact hz1 | (simp only [rIS, rJS, rAS, rLS, rVS, rQS, rS_hold]; exact hz1))) rfl ?_
  refine Bod.eqI (nI fd12) (by first | assumption | (simp (disch := omega) only [rI, rIe, rA, rIA, rLA, rJA, rVI, rQI, rVA, rQA, upd_at,  rAI, rLI, rJI, nI_add, pk_sub, kc_0, kc_1, kc_2, kc_3, kc_4, kc_5, reduceIte, Nat.reduceEqDiff, Nat.add_zero, rI_hold, rI_hold, rL_hold, ht, he91, hfd0, hfd11, hfd12]; done) | (simp (disch := omega) only [rI, rIe, rA, rIA, rLA, rJA, rVI, rQI, rVA, rQA, upd_at,  rAI, rLI, rJI, nI_add, pk_sub, kc_0, kc_1, kc_2, kc_3, kc_4, kc_5, reduceIte, Nat.reduceEqDiff, Nat.add_zero, rI_hold, rI_hold, rL_hold, ht, he91, hfd0, hfd11, hfd12]; exact congrArg nI (by omega))) ?_
  refine Bod.ic 0 (by decide) dc_379_115 ?_
  refine Bod.virt (r := []) dc_379_116 kr_379_783 ⟨Or.inl rfl, ow_396, cl_14⟩ (by rw [np_396]; rfl) (by rw [np_396]; rfl) (ob_of (mk_61 _)) (Nat.le_of_ble_eq_true rfl) (c2  ) ?_
  show Bod _ _ _ _ [_] _ _ _
  exact Bod.retZ dc_379_119 rt_379 (Or.inr rfl)
theorem rCl_6 {d : Nat} {S : cS} {nn : Nat} {t : Nat} {e91 : Nat} {S1 : cS} {g : Nat} {zg : Nat} {fd0 : Nat} {fd11 : Nat} {fd12 : Nat} {S2 : cS} (mnn : nn < 2 ^ 20) (ht : sI S 6151 = nI t) (mt : t < 20481) (b1 : nn ≤ t) (b2 : 1 ≤ t - nn) (he91 : sA S 91 (t - 1 - nn) = nI e91) (me91 : e91 < 2 ^ 20) (b3 : e91 ≠ 4) (b4 : e91 = 3) (ag : 108 ≤ g) (c1 : Ans (d + 8) 361 [.ref 61, .int (nI (t - 1 - nn))] S (some (.ref g)) S1) (hz1 : (sS S1)[g - 108]? = some (13, zg)) (hfd0 : sI S1 (100 * g + 0) = nI fd0) (mfd0 : fd0 < 2 ^ 20) (sw15 : fd0 = 6) (hfd11 : sI S1 (100 * g + 11) = nI fd11) (mfd11 : fd11 < 2 ^ 20) (hfd12 : sI S1 (100 * g + 12) = nI fd12) (mfd12 : fd12 < 2 ^ 20) (c2 : Ans (d + 8) 396 [.ref 61, .int (nI fd11), .int (nI (t - 1 - nn)), .int (nI nn), .int (nI fd12), .int (nI 0)] S1 (some (.int (nI 0))) S2) : Bod (d + 8) 379 0 [(0, .ref 61), (1, .int (nI nn))] [] S (some (.int 0)) (S2) := by
  refine Bod.go dc_379_0 rfl ?_
  refine Bod.get dc_379_1 fr_379_493 (mk_61 _) rfl ?_
  refine Bod.eqI (nI t) (by first | assumption | rfl | exact congrArg nI (by omega) | (simp (disch := omega) only [rI, rIe, rA, rIA, rLA, rJA, rVI, rQI, rVA, rQA, upd_at,  rAI, rLI, rJI, nI_add, pk_sub, kc_0, kc_1, kc_2, kc_3, kc_4, kc_5, reduceIte, Nat.reduceEqDiff, Nat.add_zero, rI_hold, rI_hold, rL_hold, ht]; done)) ?_
  refine Bod.go dc_379_4 rfl ?_
  refine Bod.subN (t - nn) (by omega) (by omega) dc_379_5 ?_
  refine Bod.ic 1 (by decide) dc_379_6 ?_
  refine Bod.subN (t - 1 - nn) (by omega) (by omega) dc_379_7 ?_
  refine Bod.istn dc_379_8 (by rw [ml_379]; exact Nat.le_of_ble_eq_true rfl) ?_
  refine Bod.go dc_379_9 rfl ?_
  refine Bod.get dc_379_10 fr_379_496 (mk_61 _) rfl ?_
  refine Bod.go dc_379_13 rfl ?_
  refine Bod.ialdN (t - 1 - nn) rfl (by omega) (by omega) dc_379_14 (mk_91 _) ?_
  refine Bod.eqI (nI e91) (by first | assumption | rfl | exact congrArg nI (by omega) | (simp (disch := omega) only [rI, rIe, rA, rIA, rLA, rJA, rVI, rQI, rVA, rQA, upd_at,  rAI, rLI, rJI, nI_add, pk_sub, kc_0, kc_1, kc_2, kc_3, kc_4, kc_5, reduceIte, Nat.reduceEqDiff, Nat.add_zero, rI_hold, rI_hold, rL_hold, ht, he91]; done)) ?_
  refine Bod.ic 4 (by decide) dc_379_15 ?_
  refine Bod.icT dc_379_16 rfl (k2_ne_T (k_ne e91 4 rfl rfl (by omega) (by omega) (by omega))) ?_
  refine Bod.go dc_379_33 rfl ?_
  refine Bod.get dc_379_34 fr_379_496 (mk_61 _) rfl ?_
  refine Bod.go dc_379_37 rfl ?_
  refine Bod.ialdN (t - 1 - nn) rfl (by omega) (by omega) dc_379_38 (mk_91 _) ?_
  refine Bod.eqI (nI e91) (by first | assumption | rfl | exact congrArg nI (by omega) | (simp (disch := omega) only [rI, rIe, rA, rIA, rLA, rJA, rVI, rQI, rVA, rQA, upd_at,  rAI, rLI, rJI, nI_add, pk_sub, kc_0, kc_1, kc_2, kc_3, kc_4, kc_5, reduceIte, Nat.reduceEqDiff, Nat.add_zero, rI_hold, rI_hold, rL_hold, ht, he91]; done)) ?_
  refine Bod.ic 3 (by decide) dc_379_39 ?_
  refine Bod.icT dc_379_40 rfl (k2_eq_T (k_eq e91 3 rfl rfl (by omega))) ?_
  refine Bod.go dc_379_49 rfl ?_
  refine Bod.go dc_379_50 rfl ?_
  refine Bod.virt (r := []) dc_379_51 kr_379_554 ⟨Or.inl rfl, ow_361, cl_14⟩ (by rw [np_361]; rfl) (by rw [np_361]; rfl) (ob_of (mk_61 _)) (Nat.le_of_ble_eq_true rfl) (c1  ) ?_
  show Bod _ _ _ _ [_] _ _ _
  refine Bod.astn dc_379_54 (by rw [ml_379]; exact Nat.le_of_ble_eq_true rfl) ?_
  refine Bod.go dc_379_55 rfl ?_
  refine Bod.get dc_379_56 fr_379_531 (mk_thing ag (by first | exact hz1 | (simp only [rIS, rJS, rAS, rLS, rVS, rQS, rS_hold]; exact hz1))) rfl ?_
  refine Bod.eqI (nI fd0) (by first | assumption | (simp (disch := omega) only [rI, rIe, rA, rIA, rLA, rJA, rVI, rQI, rVA, rQA, upd_at,  rAI, rLI, rJI, nI_add, pk_sub, kc_0, kc_1, kc_2, kc_3, kc_4, kc_5, reduceIte, Nat.reduceEqDiff, Nat.add_zero, rI_hold, rI_hold, rL_hold, ht, he91, hfd0]; done) | (simp (disch := omega) only [rI, rIe, rA, rIA, rLA, rJA, rVI, rQI, rVA, rQA, upd_at,  rAI, rLI, rJI, nI_add, pk_sub, kc_0, kc_1, kc_2, kc_3, kc_4, kc_5, reduceIte, Nat.reduceEqDiff, Nat.add_zero, rI_hold, rI_hold, rL_hold, ht, he91, hfd0]; exact congrArg nI (by omega))) ?_
  refine Bod.sw (t := 104) dc_379_59 rfl rfl (by rw [sw15]; decide +kernel) ?_
  refine Bod.go dc_379_104 rfl ?_
  refine Bod.go dc_379_105 rfl ?_
  refine Bod.get dc_379_106 fr_379_472 (mk_thing ag (by first | exact hz1 | (simp only [rIS, rJS, rAS, rLS, rVS, rQS, rS_hold]; exact hz1))) rfl ?_
  refine Bod.eqI (nI fd11) (by first | assumption | (simp (disch := omega) only [rI, rIe, rA, rIA, rLA, rJA, rVI, rQI, rVA, rQA, upd_at,  rAI, rLI, rJI, nI_add, pk_sub, kc_0, kc_1, kc_2, kc_3, kc_4, kc_5, reduceIte, Nat.reduceEqDiff, Nat.add_zero, rI_hold, rI_hold, rL_hold, ht, he91, hfd0, hfd11]; done) | (simp (disch := omega) only [rI, rIe, rA, rIA, rLA, rJA, rVI, rQI, rVA, rQA, upd_at,  rAI, rLI, rJI, nI_add, pk_sub, kc_0, kc_1, kc_2, kc_3, kc_4, kc_5, reduceIte, Nat.reduceEqDiff, Nat.add_zero, rI_hold, rI_hold, rL_hold, ht, he91, hfd0, hfd11]; exact congrArg nI (by omega))) ?_
  refine Bod.go dc_379_109 rfl ?_
  refine Bod.go dc_379_110 rfl ?_
  refine Bod.go dc_379_111 rfl ?_
  refine Bod.get dc_379_112 fr_379_475 (mk_thing ag (by first | exact hz1 | (simp only [rIS, rJS, rAS, rLS, rVS, rQS, rS_hold]; exact hz1))) rfl ?_
  refine Bod.eqI (nI fd12) (by first | assumption | (simp (disch := omega) only [rI, rIe, rA, rIA, rLA, rJA, rVI, rQI, rVA, rQA, upd_at,  rAI, rLI, rJI, nI_add, pk_sub, kc_0, kc_1, kc_2, kc_3, kc_4, kc_5, reduceIte, Nat.reduceEqDiff, Nat.add_zero, rI_hold, rI_hold, rL_hold, ht, he91, hfd0, hfd11, hfd12]; done) | (simp (disch := omega) only [rI, rIe, rA, rIA, rLA, rJA, rVI, rQI, rVA, rQA, upd_at,  rAI, rLI, rJI, nI_add, pk_sub, kc_0, kc_1, kc_2, kc_3, kc_4, kc_5, reduceIte, Nat.reduceEqDiff, Nat.add_zero, rI_hold, rI_hold, rL_hold, ht, he91, hfd0, hfd11, hfd12]; exact congrArg nI (by omega))) ?_
  refine Bod.ic 0 (by decide) dc_379_115 ?_
  refine Bod.virt (r := []) dc_379_116 kr_379_783 ⟨Or.inl rfl, ow_396, cl_14⟩ (by rw [np_396]; rfl) (by rw [np_396]; rfl) (ob_of (mk_61 _)) (Nat.le_of_ble_eq_true rfl) (c2  ) ?_
  show Bod _ _ _ _ [_] _ _ _
  exact Bod.retZ dc_379_119 rt_379 (Or.inl rfl)
theorem rCl_7 {d : Nat} {S : cS} {nn : Nat} {t : Nat} {e91 : Nat} {S1 : cS} {g : Nat} {zg : Nat} {fd0 : Nat} {fd11 : Nat} {S2 : cS} (mnn : nn < 2 ^ 20) (ht : sI S 6151 = nI t) (mt : t < 20481) (b1 : nn ≤ t) (b2 : 1 ≤ t - nn) (he91 : sA S 91 (t - 1 - nn) = nI e91) (me91 : e91 < 2 ^ 20) (b3 : e91 ≠ 4) (b4 : e91 = 3) (ag : 108 ≤ g) (c1 : Ans (d + 8) 361 [.ref 61, .int (nI (t - 1 - nn))] S (some (.ref g)) S1) (hz1 : (sS S1)[g - 108]? = some (13, zg)) (hfd0 : sI S1 (100 * g + 0) = nI fd0) (mfd0 : fd0 < 2 ^ 20) (sw15 : fd0 = 6) (hfd11 : sI S1 (100 * g + 11) = nI fd11) (mfd11 : fd11 < 2 ^ 20) (n5 : sI S1 (100 * g + 12) = Int32.ofInt (-1)) (c2 : Ans (d + 8) 396 [.ref 61, .int (nI fd11), .int (nI (t - 1 - nn)), .int (nI nn), .int (Int32.ofInt (-1)), .int (nI 0)] S1 (some (.int (nI 1))) S2) : Bod (d + 8) 379 0 [(0, .ref 61), (1, .int (nI nn))] [] S (some (.int 1)) (S2) := by
  refine Bod.go dc_379_0 rfl ?_
  refine Bod.get dc_379_1 fr_379_493 (mk_61 _) rfl ?_
  refine Bod.eqI (nI t) (by first | assumption | rfl | exact congrArg nI (by omega) | (simp (disch := omega) only [rI, rIe, rA, rIA, rLA, rJA, rVI, rQI, rVA, rQA, upd_at,  rAI, rLI, rJI, nI_add, pk_sub, kc_0, kc_1, kc_2, kc_3, kc_4, kc_5, reduceIte, Nat.reduceEqDiff, Nat.add_zero, rI_hold, rI_hold, rL_hold, ht]; done)) ?_
  refine Bod.go dc_379_4 rfl ?_
  refine Bod.subN (t - nn) (by omega) (by omega) dc_379_5 ?_
  refine Bod.ic 1 (by decide) dc_379_6 ?_
  refine Bod.subN (t - 1 - nn) (by omega) (by omega) dc_379_7 ?_
  refine Bod.istn dc_379_8 (by rw [ml_379]; exact Nat.le_of_ble_eq_true rfl) ?_
  refine Bod.go dc_379_9 rfl ?_
  refine Bod.get dc_379_10 fr_379_496 (mk_61 _) rfl ?_
  refine Bod.go dc_379_13 rfl ?_
  refine Bod.ialdN (t - 1 - nn) rfl (by omega) (by omega) dc_379_14 (mk_91 _) ?_
  refine Bod.eqI (nI e91) (by first | assumption | rfl | exact congrArg nI (by omega) | (simp (disch := omega) only [rI, rIe, rA, rIA, rLA, rJA, rVI, rQI, rVA, rQA, upd_at,  rAI, rLI, rJI, nI_add, pk_sub, kc_0, kc_1, kc_2, kc_3, kc_4, kc_5, reduceIte, Nat.reduceEqDiff, Nat.add_zero, rI_hold, rI_hold, rL_hold, ht, he91]; done)) ?_
  refine Bod.ic 4 (by decide) dc_379_15 ?_
  refine Bod.icT dc_379_16 rfl (k2_ne_T (k_ne e91 4 rfl rfl (by omega) (by omega) (by omega))) ?_
  refine Bod.go dc_379_33 rfl ?_
  refine Bod.get dc_379_34 fr_379_496 (mk_61 _) rfl ?_
  refine Bod.go dc_379_37 rfl ?_
  refine Bod.ialdN (t - 1 - nn) rfl (by omega) (by omega) dc_379_38 (mk_91 _) ?_
  refine Bod.eqI (nI e91) (by first | assumption | rfl | exact congrArg nI (by omega) | (simp (disch := omega) only [rI, rIe, rA, rIA, rLA, rJA, rVI, rQI, rVA, rQA, upd_at,  rAI, rLI, rJI, nI_add, pk_sub, kc_0, kc_1, kc_2, kc_3, kc_4, kc_5, reduceIte, Nat.reduceEqDiff, Nat.add_zero, rI_hold, rI_hold, rL_hold, ht, he91]; done)) ?_
  refine Bod.ic 3 (by decide) dc_379_39 ?_
  refine Bod.icT dc_379_40 rfl (k2_eq_T (k_eq e91 3 rfl rfl (by omega))) ?_
  refine Bod.go dc_379_49 rfl ?_
  refine Bod.go dc_379_50 rfl ?_
  refine Bod.virt (r := []) dc_379_51 kr_379_554 ⟨Or.inl rfl, ow_361, cl_14⟩ (by rw [np_361]; rfl) (by rw [np_361]; rfl) (ob_of (mk_61 _)) (Nat.le_of_ble_eq_true rfl) (c1  ) ?_
  show Bod _ _ _ _ [_] _ _ _
  refine Bod.astn dc_379_54 (by rw [ml_379]; exact Nat.le_of_ble_eq_true rfl) ?_
  refine Bod.go dc_379_55 rfl ?_
  refine Bod.get dc_379_56 fr_379_531 (mk_thing ag (by first | exact hz1 | (simp only [rIS, rJS, rAS, rLS, rVS, rQS, rS_hold]; exact hz1))) rfl ?_
  refine Bod.eqI (nI fd0) (by first | assumption | (simp (disch := omega) only [rI, rIe, rA, rIA, rLA, rJA, rVI, rQI, rVA, rQA, upd_at,  rAI, rLI, rJI, nI_add, pk_sub, kc_0, kc_1, kc_2, kc_3, kc_4, kc_5, reduceIte, Nat.reduceEqDiff, Nat.add_zero, rI_hold, rI_hold, rL_hold, ht, he91, hfd0]; done) | (simp (disch := omega) only [rI, rIe, rA, rIA, rLA, rJA, rVI, rQI, rVA, rQA, upd_at,  rAI, rLI, rJI, nI_add, pk_sub, kc_0, kc_1, kc_2, kc_3, kc_4, kc_5, reduceIte, Nat.reduceEqDiff, Nat.add_zero, rI_hold, rI_hold, rL_hold, ht, he91, hfd0]; exact congrArg nI (by omega))) ?_
  refine Bod.sw (t := 104) dc_379_59 rfl rfl (by rw [sw15]; decide +kernel) ?_
  refine Bod.go dc_379_104 rfl ?_
  refine Bod.go dc_379_105 rfl ?_
  refine Bod.get dc_379_106 fr_379_472 (mk_thing ag (by first | exact hz1 | (simp only [rIS, rJS, rAS, rLS, rVS, rQS, rS_hold]; exact hz1))) rfl ?_
  refine Bod.eqI (nI fd11) (by first | assumption | (simp (disch := omega) only [rI, rIe, rA, rIA, rLA, rJA, rVI, rQI, rVA, rQA, upd_at,  rAI, rLI, rJI, nI_add, pk_sub, kc_0, kc_1, kc_2, kc_3, kc_4, kc_5, reduceIte, Nat.reduceEqDiff, Nat.add_zero, rI_hold, rI_hold, rL_hold, ht, he91, hfd0, hfd11]; done) | (simp (disch := omega) only [rI, rIe, rA, rIA, rLA, rJA, rVI, rQI, rVA, rQA, upd_at,  rAI, rLI, rJI, nI_add, pk_sub, kc_0, kc_1, kc_2, kc_3, kc_4, kc_5, reduceIte, Nat.reduceEqDiff, Nat.add_zero, rI_hold, rI_hold, rL_hold, ht, he91, hfd0, hfd11]; exact congrArg nI (by omega))) ?_
  refine Bod.go dc_379_109 rfl ?_
  refine Bod.go dc_379_110 rfl ?_
  refine Bod.go dc_379_111 rfl ?_
  refine Bod.get dc_379_112 fr_379_475 (mk_thing ag (by first | exact hz1 | (simp only [rIS, rJS, rAS, rLS, rVS, rQS, rS_hold]; exact hz1))) rfl ?_
  refine Bod.eqI (Int32.ofInt (-1)) (by first | assumption | (simp (disch := omega) only [rI, rIe, rA, rIA, rLA, rJA, rVI, rQI, rVA, rQA, upd_at,  rAI, rLI, rJI, nI_add, pk_sub, kc_0, kc_1, kc_2, kc_3, kc_4, kc_5, reduceIte, Nat.reduceEqDiff, Nat.add_zero, rI_hold, rI_hold, rL_hold, ht, he91, hfd0, hfd11, n5]; done) | (simp (disch := omega) only [rI, rIe, rA, rIA, rLA, rJA, rVI, rQI, rVA, rQA, upd_at,  rAI, rLI, rJI, nI_add, pk_sub, kc_0, kc_1, kc_2, kc_3, kc_4, kc_5, reduceIte, Nat.reduceEqDiff, Nat.add_zero, rI_hold, rI_hold, rL_hold, ht, he91, hfd0, hfd11, n5]; exact congrArg nI (by omega))) ?_
  refine Bod.ic 0 (by decide) dc_379_115 ?_
  refine Bod.virt (r := []) dc_379_116 kr_379_783 ⟨Or.inl rfl, ow_396, cl_14⟩ (by rw [np_396]; rfl) (by rw [np_396]; rfl) (ob_of (mk_61 _)) (Nat.le_of_ble_eq_true rfl) (c2  ) ?_
  show Bod _ _ _ _ [_] _ _ _
  exact Bod.retZ dc_379_119 rt_379 (Or.inr rfl)
theorem rCl_8 {d : Nat} {S : cS} {nn : Nat} {t : Nat} {e91 : Nat} {S1 : cS} {g : Nat} {zg : Nat} {fd0 : Nat} {fd11 : Nat} {S2 : cS} (mnn : nn < 2 ^ 20) (ht : sI S 6151 = nI t) (mt : t < 20481) (b1 : nn ≤ t) (b2 : 1 ≤ t - nn) (he91 : sA S 91 (t - 1 - nn) = nI e91) (me91 : e91 < 2 ^ 20) (b3 : e91 ≠ 4) (b4 : e91 = 3) (ag : 108 ≤ g) (c1 : Ans (d + 8) 361 [.ref 61, .int (nI (t - 1 - nn))] S (some (.ref g)) S1) (hz1 : (sS S1)[g - 108]? = some (13, zg)) (hfd0 : sI S1 (100 * g + 0) = nI fd0) (mfd0 : fd0 < 2 ^ 20) (sw15 : fd0 = 6) (hfd11 : sI S1 (100 * g + 11) = nI fd11) (mfd11 : fd11 < 2 ^ 20) (n5 : sI S1 (100 * g + 12) = Int32.ofInt (-1)) (c2 : Ans (d + 8) 396 [.ref 61, .int (nI fd11), .int (nI (t - 1 - nn)), .int (nI nn), .int (Int32.ofInt (-1)), .int (nI 0)] S1 (some (.int (nI 0))) S2) : Bod (d + 8) 379 0 [(0, .ref 61), (1, .int (nI nn))] [] S (some (.int 0)) (S2) := by
  refine Bod.go dc_379_0 rfl ?_
  refine Bod.get dc_379_1 fr_379_493 (mk_61 _) rfl ?_
  refine Bod.eqI (nI t) (by first | assumption | rfl | exact congrArg nI (by omega) | (simp (disch := omega) only [rI, rIe, rA, rIA, rLA, rJA, rVI, rQI, rVA, rQA, upd_at,  rAI, rLI, rJI, nI_add, pk_sub, kc_0, kc_1, kc_2, kc_3, kc_4, kc_5, reduceIte, Nat.reduceEqDiff, Nat.add_zero, rI_hold, rI_hold, rL_hold, ht]; done)) ?_
  refine Bod.go dc_379_4 rfl ?_
  refine Bod.subN (t - nn) (by omega) (by omega) dc_379_5 ?_
  refine Bod.ic 1 (by decide) dc_379_6 ?_
  refine Bod.subN (t - 1 - nn) (by omega) (by omega) dc_379_7 ?_
  refine Bod.istn dc_379_8 (by rw [ml_379]; exact Nat.le_of_ble_eq_true rfl) ?_
  refine Bod.go dc_379_9 rfl ?_
  refine Bod.get dc_379_10 fr_379_496 (mk_61 _) rfl ?_
  refine Bod.go dc_379_13 rfl ?_
  refine Bod.ialdN (t - 1 - nn) rfl (by omega) (by omega) dc_379_14 (mk_91 _) ?_
  refine Bod.eqI (nI e91) (by first | assumption | rfl | exact congrArg nI (by omega) | (simp (disch := omega) only [rI, rIe, rA, rIA, rLA, rJA, rVI, rQI, rVA, rQA, upd_at,  rAI, rLI, rJI, nI_add, pk_sub, kc_0, kc_1, kc_2, kc_3, kc_4, kc_5, reduceIte, Nat.reduceEqDiff, Nat.add_zero, rI_hold, rI_hold, rL_hold, ht, he91]; done)) ?_
  refine Bod.ic 4 (by decide) dc_379_15 ?_
  refine Bod.icT dc_379_16 rfl (k2_ne_T (k_ne e91 4 rfl rfl (by omega) (by omega) (by omega))) ?_
  refine Bod.go dc_379_33 rfl ?_
  refine Bod.get dc_379_34 fr_379_496 (mk_61 _) rfl ?_
  refine Bod.go dc_379_37 rfl ?_
  refine Bod.ialdN (t - 1 - nn) rfl (by omega) (by omega) dc_379_38 (mk_91 _) ?_
  refine Bod.eqI (nI e91) (by first | assumption | rfl | exact congrArg nI (by omega) | (simp (disch := omega) only [rI, rIe, rA, rIA, rLA, rJA, rVI, rQI, rVA, rQA, upd_at,  rAI, rLI, rJI, nI_add, pk_sub, kc_0, kc_1, kc_2, kc_3, kc_4, kc_5, reduceIte, Nat.reduceEqDiff, Nat.add_zero, rI_hold, rI_hold, rL_hold, ht, he91]; done)) ?_
  refine Bod.ic 3 (by decide) dc_379_39 ?_
  refine Bod.icT dc_379_40 rfl (k2_eq_T (k_eq e91 3 rfl rfl (by omega))) ?_
  refine Bod.go dc_379_49 rfl ?_
  refine Bod.go dc_379_50 rfl ?_
  refine Bod.virt (r := []) dc_379_51 kr_379_554 ⟨Or.inl rfl, ow_361, cl_14⟩ (by rw [np_361]; rfl) (by rw [np_361]; rfl) (ob_of (mk_61 _)) (Nat.le_of_ble_eq_true rfl) (c1  ) ?_
  show Bod _ _ _ _ [_] _ _ _
  refine Bod.astn dc_379_54 (by rw [ml_379]; exact Nat.le_of_ble_eq_true rfl) ?_
  refine Bod.go dc_379_55 rfl ?_
  refine Bod.get dc_379_56 fr_379_531 (mk_thing ag (by first | exact hz1 | (simp only [rIS, rJS, rAS, rLS, rVS, rQS, rS_hold]; exact hz1))) rfl ?_
  refine Bod.eqI (nI fd0) (by first | assumption | (simp (disch := omega) only [rI, rIe, rA, rIA, rLA, rJA, rVI, rQI, rVA, rQA, upd_at,  rAI, rLI, rJI, nI_add, pk_sub, kc_0, kc_1, kc_2, kc_3, kc_4, kc_5, reduceIte, Nat.reduceEqDiff, Nat.add_zero, rI_hold, rI_hold, rL_hold, ht, he91, hfd0]; done) | (simp (disch := omega) only [rI, rIe, rA, rIA, rLA, rJA, rVI, rQI, rVA, rQA, upd_at,  rAI, rLI, rJI, nI_add, pk_sub, kc_0, kc_1, kc_2, kc_3, kc_4, kc_5, reduceIte, Nat.reduceEqDiff, Nat.add_zero, rI_hold, rI_hold, rL_hold, ht, he91, hfd0]; exact congrArg nI (by omega))) ?_
  refine Bod.sw (t := 104) dc_379_59 rfl rfl (by rw [sw15]; decide +kernel) ?_
  refine Bod.go dc_379_104 rfl ?_
  refine Bod.go dc_379_105 rfl ?_
  refine Bod.get dc_379_106 fr_379_472 (mk_thing ag (by first | exact hz1 | (simp only [rIS, rJS, rAS, rLS, rVS, rQS, rS_hold]; exact hz1))) rfl ?_
  refine Bod.eqI (nI fd11) (by first | assumption | (simp (disch := omega) only [rI, rIe, rA, rIA, rLA, rJA, rVI, rQI, rVA, rQA, upd_at,  rAI, rLI, rJI, nI_add, pk_sub, kc_0, kc_1, kc_2, kc_3, kc_4, kc_5, reduceIte, Nat.reduceEqDiff, Nat.add_zero, rI_hold, rI_hold, rL_hold, ht, he91, hfd0, hfd11]; done) | (simp (disch := omega) only [rI, rIe, rA, rIA, rLA, rJA, rVI, rQI, rVA, rQA, upd_at,  rAI, rLI, rJI, nI_add, pk_sub, kc_0, kc_1, kc_2, kc_3, kc_4, kc_5, reduceIte, Nat.reduceEqDiff, Nat.add_zero, rI_hold, rI_hold, rL_hold, ht, he91, hfd0, hfd11]; exact congrArg nI (by omega))) ?_
  refine Bod.go dc_379_109 rfl ?_
  refine Bod.go dc_379_110 rfl ?_
  refine Bod.go dc_379_111 rfl ?_
  refine Bod.get dc_379_112 fr_379_475 (mk_thing ag (by first | exact hz1 | (simp only [rIS, rJS, rAS, rLS, rVS, rQS, rS_hold]; exact hz1))) rfl ?_
  refine Bod.eqI (Int32.ofInt (-1)) (by first | assumption | (simp (disch := omega) only [rI, rIe, rA, rIA, rLA, rJA, rVI, rQI, rVA, rQA, upd_at,  rAI, rLI, rJI, nI_add, pk_sub, kc_0, kc_1, kc_2, kc_3, kc_4, kc_5, reduceIte, Nat.reduceEqDiff, Nat.add_zero, rI_hold, rI_hold, rL_hold, ht, he91, hfd0, hfd11, n5]; done) | (simp (disch := omega) only [rI, rIe, rA, rIA, rLA, rJA, rVI, rQI, rVA, rQA, upd_at,  rAI, rLI, rJI, nI_add, pk_sub, kc_0, kc_1, kc_2, kc_3, kc_4, kc_5, reduceIte, Nat.reduceEqDiff, Nat.add_zero, rI_hold, rI_hold, rL_hold, ht, he91, hfd0, hfd11, n5]; exact congrArg nI (by omega))) ?_
  refine Bod.ic 0 (by decide) dc_379_115 ?_
  refine Bod.virt (r := []) dc_379_116 kr_379_783 ⟨Or.inl rfl, ow_396, cl_14⟩ (by rw [np_396]; rfl) (by rw [np_396]; rfl) (ob_of (mk_61 _)) (Nat.le_of_ble_eq_true rfl) (c2  ) ?_
  show Bod _ _ _ _ [_] _ _ _
  exact Bod.retZ dc_379_119 rt_379 (Or.inl rfl)
theorem rCl_9 {d : Nat} {S : cS} {nn : Nat} {t : Nat} {e91 : Nat} {S1 : cS} {g : Nat} {zg : Nat} {fd0 : Nat} {fd12 : Nat} {S2 : cS} (mnn : nn < 2 ^ 20) (ht : sI S 6151 = nI t) (mt : t < 20481) (b1 : nn ≤ t) (b2 : 1 ≤ t - nn) (he91 : sA S 91 (t - 1 - nn) = nI e91) (me91 : e91 < 2 ^ 20) (b3 : e91 ≠ 4) (b4 : e91 = 3) (ag : 108 ≤ g) (c1 : Ans (d + 8) 361 [.ref 61, .int (nI (t - 1 - nn))] S (some (.ref g)) S1) (hz1 : (sS S1)[g - 108]? = some (13, zg)) (hfd0 : sI S1 (100 * g + 0) = nI fd0) (mfd0 : fd0 < 2 ^ 20) (sw15 : fd0 = 6) (n5 : sI S1 (100 * g + 11) = Int32.ofInt (-1)) (hfd12 : sI S1 (100 * g + 12) = nI fd12) (mfd12 : fd12 < 2 ^ 20) (c2 : Ans (d + 8) 396 [.ref 61, .int (Int32.ofInt (-1)), .int (nI (t - 1 - nn)), .int (nI nn), .int (nI fd12), .int (nI 0)] S1 (some (.int (nI 1))) S2) : Bod (d + 8) 379 0 [(0, .ref 61), (1, .int (nI nn))] [] S (some (.int 1)) (S2) := by
  refine Bod.go dc_379_0 rfl ?_
  refine Bod.get dc_379_1 fr_379_493 (mk_61 _) rfl ?_
  refine Bod.eqI (nI t) (by first | assumption | rfl | exact congrArg nI (by omega) | (simp (disch := omega) only [rI, rIe, rA, rIA, rLA, rJA, rVI, rQI, rVA, rQA, upd_at,  rAI, rLI, rJI, nI_add, pk_sub, kc_0, kc_1, kc_2, kc_3, kc_4, kc_5, reduceIte, Nat.reduceEqDiff, Nat.add_zero, rI_hold, rI_hold, rL_hold, ht]; done)) ?_
  refine Bod.go dc_379_4 rfl ?_
  refine Bod.subN (t - nn) (by omega) (by omega) dc_379_5 ?_
  refine Bod.ic 1 (by decide) dc_379_6 ?_
  refine Bod.subN (t - 1 - nn) (by omega) (by omega) dc_379_7 ?_
  refine Bod.istn dc_379_8 (by rw [ml_379]; exact Nat.le_of_ble_eq_true rfl) ?_
  refine Bod.go dc_379_9 rfl ?_
  refine Bod.get dc_379_10 fr_379_496 (mk_61 _) rfl ?_
  refine Bod.go dc_379_13 rfl ?_
  refine Bod.ialdN (t - 1 - nn) rfl (by omega) (by omega) dc_379_14 (mk_91 _) ?_
  refine Bod.eqI (nI e91) (by first | assumption | rfl | exact congrArg nI (by omega) | (simp (disch := omega) only [rI, rIe, rA, rIA, rLA, rJA, rVI, rQI, rVA, rQA, upd_at,  rAI, rLI, rJI, nI_add, pk_sub, kc_0, kc_1, kc_2, kc_3, kc_4, kc_5, reduceIte, Nat.reduceEqDiff, Nat.add_zero, rI_hold, rI_hold, rL_hold, ht, he91]; done)) ?_
  refine Bod.ic 4 (by decide) dc_379_15 ?_
  refine Bod.icT dc_379_16 rfl (k2_ne_T (k_ne e91 4 rfl rfl (by omega) (by omega) (by omega))) ?_
  refine Bod.go dc_379_33 rfl ?_
  refine Bod.get dc_379_34 fr_379_496 (mk_61 _) rfl ?_
  refine Bod.go dc_379_37 rfl ?_
  refine Bod.ialdN (t - 1 - nn) rfl (by omega) (by omega) dc_379_38 (mk_91 _) ?_
  refine Bod.eqI (nI e91) (by first | assumption | rfl | exact congrArg nI (by omega) | (simp (disch := omega) only [rI, rIe, rA, rIA, rLA, rJA, rVI, rQI, rVA, rQA, upd_at,  rAI, rLI, rJI, nI_add, pk_sub, kc_0, kc_1, kc_2, kc_3, kc_4, kc_5, reduceIte, Nat.reduceEqDiff, Nat.add_zero, rI_hold, rI_hold, rL_hold, ht, he91]; done)) ?_
  refine Bod.ic 3 (by decide) dc_379_39 ?_
  refine Bod.icT dc_379_40 rfl (k2_eq_T (k_eq e91 3 rfl rfl (by omega))) ?_
  refine Bod.go dc_379_49 rfl ?_
  refine Bod.go dc_379_50 rfl ?_
  refine Bod.virt (r := []) dc_379_51 kr_379_554 ⟨Or.inl rfl, ow_361, cl_14⟩ (by rw [np_361]; rfl) (by rw [np_361]; rfl) (ob_of (mk_61 _)) (Nat.le_of_ble_eq_true rfl) (c1  ) ?_
  show Bod _ _ _ _ [_] _ _ _
  refine Bod.astn dc_379_54 (by rw [ml_379]; exact Nat.le_of_ble_eq_true rfl) ?_
  refine Bod.go dc_379_55 rfl ?_
  refine Bod.get dc_379_56 fr_379_531 (mk_thing ag (by first | exact hz1 | (simp only [rIS, rJS, rAS, rLS, rVS, rQS, rS_hold]; exact hz1))) rfl ?_
  refine Bod.eqI (nI fd0) (by first | assumption | (simp (disch := omega) only [rI, rIe, rA, rIA, rLA, rJA, rVI, rQI, rVA, rQA, upd_at,  rAI, rLI, rJI, nI_add, pk_sub, kc_0, kc_1, kc_2, kc_3, kc_4, kc_5, reduceIte, Nat.reduceEqDiff, Nat.add_zero, rI_hold, rI_hold, rL_hold, ht, he91, hfd0]; done) | (simp (disch := omega) only [rI, rIe, rA, rIA, rLA, rJA, rVI, rQI, rVA, rQA, upd_at,  rAI, rLI, rJI, nI_add, pk_sub, kc_0, kc_1, kc_2, kc_3, kc_4, kc_5, reduceIte, Nat.reduceEqDiff, Nat.add_zero, rI_hold, rI_hold, rL_hold, ht, he91, hfd0]; exact congrArg nI (by omega))) ?_
  refine Bod.sw (t := 104) dc_379_59 rfl rfl (by rw [sw15]; decide +kernel) ?_
  refine Bod.go dc_379_104 rfl ?_
  refine Bod.go dc_379_105 rfl ?_
  refine Bod.get dc_379_106 fr_379_472 (mk_thing ag (by first | exact hz1 | (simp only [rIS, rJS, rAS, rLS, rVS, rQS, rS_hold]; exact hz1))) rfl ?_
  refine Bod.eqI (Int32.ofInt (-1)) (by first | assumption | (simp (disch := omega) only [rI, rIe, rA, rIA, rLA, rJA, rVI, rQI, rVA, rQA, upd_at,  rAI, rLI, rJI, nI_add, pk_sub, kc_0, kc_1, kc_2, kc_3, kc_4, kc_5, reduceIte, Nat.reduceEqDiff, Nat.add_zero, rI_hold, rI_hold, rL_hold, ht, he91, hfd0, n5]; done) | (simp (disch := omega) only [rI, rIe, rA, rIA, rLA, rJA, rVI, rQI, rVA, rQA, upd_at,  rAI, rLI, rJI, nI_add, pk_sub, kc_0, kc_1, kc_2, kc_3, kc_4, kc_5, reduceIte, Nat.reduceEqDiff, Nat.add_zero, rI_hold, rI_hold, rL_hold, ht, he91, hfd0, n5]; exact congrArg nI (by omega))) ?_
  refine Bod.go dc_379_109 rfl ?_
  refine Bod.go dc_379_110 rfl ?_
  refine Bod.go dc_379_111 rfl ?_
  refine Bod.get dc_379_112 fr_379_475 (mk_thing ag (by first | exact hz1 | (simp only [rIS, rJS, rAS, rLS, rVS, rQS, rS_hold]; exact hz1))) rfl ?_
  refine Bod.eqI (nI fd12) (by first | assumption | (simp (disch := omega) only [rI, rIe, rA, rIA, rLA, rJA, rVI, rQI, rVA, rQA, upd_at,  rAI, rLI, rJI, nI_add, pk_sub, kc_0, kc_1, kc_2, kc_3, kc_4, kc_5, reduceIte, Nat.reduceEqDiff, Nat.add_zero, rI_hold, rI_hold, rL_hold, ht, he91, hfd0, n5, hfd12]; done) | (simp (disch := omega) only [rI, rIe, rA, rIA, rLA, rJA, rVI, rQI, rVA, rQA, upd_at,  rAI, rLI, rJI, nI_add, pk_sub, kc_0, kc_1, kc_2, kc_3, kc_4, kc_5, reduceIte, Nat.reduceEqDiff, Nat.add_zero, rI_hold, rI_hold, rL_hold, ht, he91, hfd0, n5, hfd12]; exact congrArg nI (by omega))) ?_
  refine Bod.ic 0 (by decide) dc_379_115 ?_
  refine Bod.virt (r := []) dc_379_116 kr_379_783 ⟨Or.inl rfl, ow_396, cl_14⟩ (by rw [np_396]; rfl) (by rw [np_396]; rfl) (ob_of (mk_61 _)) (Nat.le_of_ble_eq_true rfl) (c2  ) ?_
  show Bod _ _ _ _ [_] _ _ _
  exact Bod.retZ dc_379_119 rt_379 (Or.inr rfl)
theorem rCl_10 {d : Nat} {S : cS} {nn : Nat} {t : Nat} {e91 : Nat} {S1 : cS} {g : Nat} {zg : Nat} {fd0 : Nat} {fd12 : Nat} {S2 : cS} (mnn : nn < 2 ^ 20) (ht : sI S 6151 = nI t) (mt : t < 20481) (b1 : nn ≤ t) (b2 : 1 ≤ t - nn) (he91 : sA S 91 (t - 1 - nn) = nI e91) (me91 : e91 < 2 ^ 20) (b3 : e91 ≠ 4) (b4 : e91 = 3) (ag : 108 ≤ g) (c1 : Ans (d + 8) 361 [.ref 61, .int (nI (t - 1 - nn))] S (some (.ref g)) S1) (hz1 : (sS S1)[g - 108]? = some (13, zg)) (hfd0 : sI S1 (100 * g + 0) = nI fd0) (mfd0 : fd0 < 2 ^ 20) (sw15 : fd0 = 6) (n5 : sI S1 (100 * g + 11) = Int32.ofInt (-1)) (hfd12 : sI S1 (100 * g + 12) = nI fd12) (mfd12 : fd12 < 2 ^ 20) (c2 : Ans (d + 8) 396 [.ref 61, .int (Int32.ofInt (-1)), .int (nI (t - 1 - nn)), .int (nI nn), .int (nI fd12), .int (nI 0)] S1 (some (.int (nI 0))) S2) : Bod (d + 8) 379 0 [(0, .ref 61), (1, .int (nI nn))] [] S (some (.int 0)) (S2) := by
  refine Bod.go dc_379_0 rfl ?_
  refine Bod.get dc_379_1 fr_379_493 (mk_61 _) rfl ?_
  refine Bod.eqI (nI t) (by first | assumption | rfl | exact congrArg nI (by omega) | (simp (disch := omega) only [rI, rIe, rA, rIA, rLA, rJA, rVI, rQI, rVA, rQA, upd_at,  rAI, rLI, rJI, nI_add, pk_sub, kc_0, kc_1, kc_2, kc_3, kc_4, kc_5, reduceIte, Nat.reduceEqDiff, Nat.add_zero, rI_hold, rI_hold, rL_hold, ht]; done)) ?_
  refine Bod.go dc_379_4 rfl ?_
  refine Bod.subN (t - nn) (by omega) (by omega) dc_379_5 ?_
  refine Bod.ic 1 (by decide) dc_379_6 ?_
  refine Bod.subN (t - 1 - nn) (by omega) (by omega) dc_379_7 ?_
  refine Bod.istn dc_379_8 (by rw [ml_379]; exact Nat.le_of_ble_eq_true rfl) ?_
  refine Bod.go dc_379_9 rfl ?_
  refine Bod.get dc_379_10 fr_379_496 (mk_61 _) rfl ?_
  refine Bod.go dc_379_13 rfl ?_
  refine Bod.ialdN (t - 1 - nn) rfl (by omega) (by omega) dc_379_14 (mk_91 _) ?_
  refine Bod.eqI (nI e91) (by first | assumption | rfl | exact congrArg nI (by omega) | (simp (disch := omega) only [rI, rIe, rA, rIA, rLA, rJA, rVI, rQI, rVA, rQA, upd_at,  rAI, rLI, rJI, nI_add, pk_sub, kc_0, kc_1, kc_2, kc_3, kc_4, kc_5, reduceIte, Nat.reduceEqDiff, Nat.add_zero, rI_hold, rI_hold, rL_hold, ht, he91]; done)) ?_
  refine Bod.ic 4 (by decide) dc_379_15 ?_
  refine Bod.icT dc_379_16 rfl (k2_ne_T (k_ne e91 4 rfl rfl (by omega) (by omega) (by omega))) ?_
  refine Bod.go dc_379_33 rfl ?_
  refine Bod.get dc_379_34 fr_379_496 (mk_61 _) rfl ?_
  refine Bod.go dc_379_37 rfl ?_
  refine Bod.ialdN (t - 1 - nn) rfl (by omega) (by omega) dc_379_38 (mk_91 _) ?_
  refine Bod.eqI (nI e91) (by first | assumption | rfl | exact congrArg nI (by omega) | (simp (disch := omega) only [rI, rIe, rA, rIA, rLA, rJA, rVI, rQI, rVA, rQA, upd_at,  rAI, rLI, rJI, nI_add, pk_sub, kc_0, kc_1, kc_2, kc_3, kc_4, kc_5, reduceIte, Nat.reduceEqDiff, Nat.add_zero, rI_hold, rI_hold, rL_hold, ht, he91]; done)) ?_
  refine Bod.ic 3 (by decide) dc_379_39 ?_
  refine Bod.icT dc_379_40 rfl (k2_eq_T (k_eq e91 3 rfl rfl (by omega))) ?_
  refine Bod.go dc_379_49 rfl ?_
  refine Bod.go dc_379_50 rfl ?_
  refine Bod.virt (r := []) dc_379_51 kr_379_554 ⟨Or.inl rfl, ow_361, cl_14⟩ (by rw [np_361]; rfl) (by rw [np_361]; rfl) (ob_of (mk_61 _)) (Nat.le_of_ble_eq_true rfl) (c1  ) ?_
  show Bod _ _ _ _ [_] _ _ _
  refine Bod.astn dc_379_54 (by rw [ml_379]; exact Nat.le_of_ble_eq_true rfl) ?_
  refine Bod.go dc_379_55 rfl ?_
  refine Bod.get dc_379_56 fr_379_531 (mk_thing ag (by first | exact hz1 | (simp only [rIS, rJS, rAS, rLS, rVS, rQS, rS_hold]; exact hz1))) rfl ?_
  refine Bod.eqI (nI fd0) (by first | assumption | (simp (disch := omega) only [rI, rIe, rA, rIA, rLA, rJA, rVI, rQI, rVA, rQA, upd_at,  rAI, rLI, rJI, nI_add, pk_sub, kc_0, kc_1, kc_2, kc_3, kc_4, kc_5, reduceIte, Nat.reduceEqDiff, Nat.add_zero, rI_hold, rI_hold, rL_hold, ht, he91, hfd0]; done) | (simp (disch := omega) only [rI, rIe, rA, rIA, rLA, rJA, rVI, rQI, rVA, rQA, upd_at,  rAI, rLI, rJI, nI_add, pk_sub, kc_0, kc_1, kc_2, kc_3, kc_4, kc_5, reduceIte, Nat.reduceEqDiff, Nat.add_zero, rI_hold, rI_hold, rL_hold, ht, he91, hfd0]; exact congrArg nI (by omega))) ?_
  refine Bod.sw (t := 104) dc_379_59 rfl rfl (by rw [sw15]; decide +kernel) ?_
  refine Bod.go dc_379_104 rfl ?_
  refine Bod.go dc_379_105 rfl ?_
  refine Bod.get dc_379_106 fr_379_472 (mk_thing ag (by first | exact hz1 | (simp only [rIS, rJS, rAS, rLS, rVS, rQS, rS_hold]; exact hz1))) rfl ?_
  refine Bod.eqI (Int32.ofInt (-1)) (by first | assumption | (simp (disch := omega) only [rI, rIe, rA, rIA, rLA, rJA, rVI, rQI, rVA, rQA, upd_at,  rAI, rLI, rJI, nI_add, pk_sub, kc_0, kc_1, kc_2, kc_3, kc_4, kc_5, reduceIte, Nat.reduceEqDiff, Nat.add_zero, rI_hold, rI_hold, rL_hold, ht, he91, hfd0, n5]; done) | (simp (disch := omega) only [rI, rIe, rA, rIA, rLA, rJA, rVI, rQI, rVA, rQA, upd_at,  rAI, rLI, rJI, nI_add, pk_sub, kc_0, kc_1, kc_2, kc_3, kc_4, kc_5, reduceIte, Nat.reduceEqDiff, Nat.add_zero, rI_hold, rI_hold, rL_hold, ht, he91, hfd0, n5]; exact congrArg nI (by omega))) ?_
  refine Bod.go dc_379_109 rfl ?_
  refine Bod.go dc_379_110 rfl ?_
  refine Bod.go dc_379_111 rfl ?_
  refine Bod.get dc_379_112 fr_379_475 (mk_thing ag (by first | exact hz1 | (simp only [rIS, rJS, rAS, rLS, rVS, rQS, rS_hold]; exact hz1))) rfl ?_
  refine Bod.eqI (nI fd12) (by first | assumption | (simp (disch := omega) only [rI, rIe, rA, rIA, rLA, rJA, rVI, rQI, rVA, rQA, upd_at,  rAI, rLI, rJI, nI_add, pk_sub, kc_0, kc_1, kc_2, kc_3, kc_4, kc_5, reduceIte, Nat.reduceEqDiff, Nat.add_zero, rI_hold, rI_hold, rL_hold, ht, he91, hfd0, n5, hfd12]; done) | (simp (disch := omega) only [rI, rIe, rA, rIA, rLA, rJA, rVI, rQI, rVA, rQA, upd_at,  rAI, rLI, rJI, nI_add, pk_sub, kc_0, kc_1, kc_2, kc_3, kc_4, kc_5, reduceIte, Nat.reduceEqDiff, Nat.add_zero, rI_hold, rI_hold, rL_hold, ht, he91, hfd0, n5, hfd12]; exact congrArg nI (by omega))) ?_
  refine Bod.ic 0 (by decide) dc_379_115 ?_
  refine Bod.virt (r := []) dc_379_116 kr_379_783 ⟨Or.inl rfl, ow_396, cl_14⟩ (by rw [np_396]; rfl) (by rw [np_396]; rfl) (ob_of (mk_61 _)) (Nat.le_of_ble_eq_true rfl) (c2  ) ?_
  show Bod _ _ _ _ [_] _ _ _
  exact Bod.retZ dc_379_119 rt_379 (Or.inl rfl)
theorem rCl_11 {d : Nat} {S : cS} {nn : Nat} {t : Nat} {e91 : Nat} {S1 : cS} {g : Nat} {zg : Nat} {fd0 : Nat} {S2 : cS} (mnn : nn < 2 ^ 20) (ht : sI S 6151 = nI t) (mt : t < 20481) (b1 : nn ≤ t) (b2 : 1 ≤ t - nn) (he91 : sA S 91 (t - 1 - nn) = nI e91) (me91 : e91 < 2 ^ 20) (b3 : e91 ≠ 4) (b4 : e91 = 3) (ag : 108 ≤ g) (c1 : Ans (d + 8) 361 [.ref 61, .int (nI (t - 1 - nn))] S (some (.ref g)) S1) (hz1 : (sS S1)[g - 108]? = some (13, zg)) (hfd0 : sI S1 (100 * g + 0) = nI fd0) (mfd0 : fd0 < 2 ^ 20) (sw15 : fd0 = 6) (n5 : sI S1 (100 * g + 11) = Int32.ofInt (-1)) (n6 : sI S1 (100 * g + 12) = Int32.ofInt (-1)) (c2 : Ans (d + 8) 396 [.ref 61, .int (Int32.ofInt (-1)), .int (nI (t - 1 - nn)), .int (nI nn), .int (Int32.ofInt (-1)), .int (nI 0)] S1 (some (.int (nI 1))) S2) : Bod (d + 8) 379 0 [(0, .ref 61), (1, .int (nI nn))] [] S (some (.int 1)) (S2) := by
  refine Bod.go dc_379_0 rfl ?_
  refine Bod.get dc_379_1 fr_379_493 (mk_61 _) rfl ?_
  refine Bod.eqI (nI t) (by first | assumption | rfl | exact congrArg nI (by omega) | (simp (disch := omega) only [rI, rIe, rA, rIA, rLA, rJA, rVI, rQI, rVA, rQA, upd_at,  rAI, rLI, rJI, nI_add, pk_sub, kc_0, kc_1, kc_2, kc_3, kc_4, kc_5, reduceIte, Nat.reduceEqDiff, Nat.add_zero, rI_hold, rI_hold, rL_hold, ht]; done)) ?_
  refine Bod.go dc_379_4 rfl ?_
  refine Bod.subN (t - nn) (by omega) (by omega) dc_379_5 ?_
  refine Bod.ic 1 (by decide) dc_379_6 ?_
  refine Bod.subN (t - 1 - nn) (by omega) (by omega) dc_379_7 ?_
  refine Bod.istn dc_379_8 (by rw [ml_379]; exact Nat.le_of_ble_eq_true rfl) ?_
  refine Bod.go dc_379_9 rfl ?_
  refine Bod.get dc_379_10 fr_379_496 (mk_61 _) rfl ?_
  refine Bod.go dc_379_13 rfl ?_
  refine Bod.ialdN (t - 1 - nn) rfl (by omega) (by omega) dc_379_14 (mk_91 _) ?_
  refine Bod.eqI (nI e91) (by first | assumption | rfl | exact congrArg nI (by omega) | (simp (disch := omega) only [rI, rIe, rA, rIA, rLA, rJA, rVI, rQI, rVA, rQA, upd_at,  rAI, rLI, rJI, nI_add, pk_sub, kc_0, kc_1, kc_2, kc_3, kc_4, kc_5, reduceIte, Nat.reduceEqDiff, Nat.add_zero, rI_hold, rI_hold, rL_hold, ht, he91]; done)) ?_
  refine Bod.ic 4 (by decide) dc_379_15 ?_
  refine Bod.icT dc_379_16 rfl (k2_ne_T (k_ne e91 4 rfl rfl (by omega) (by omega) (by omega))) ?_
  refine Bod.go dc_379_33 rfl ?_
  refine Bod.get dc_379_34 fr_379_496 (mk_61 _) rfl ?_
  refine Bod.go dc_379_37 rfl ?_
  refine Bod.ialdN (t - 1 - nn) rfl (by omega) (by omega) dc_379_38 (mk_91 _) ?_
  refine Bod.eqI (nI e91) (by first | assumption | rfl | exact congrArg nI (by omega) | (simp (disch := omega) only [rI, rIe, rA, rIA, rLA, rJA, rVI, rQI, rVA, rQA, upd_at,  rAI, rLI, rJI, nI_add, pk_sub, kc_0, kc_1, kc_2, kc_3, kc_4, kc_5, reduceIte, Nat.reduceEqDiff, Nat.add_zero, rI_hold, rI_hold, rL_hold, ht, he91]; done)) ?_
  refine Bod.ic 3 (by decide) dc_379_39 ?_
  refine Bod.icT dc_379_40 rfl (k2_eq_T (k_eq e91 3 rfl rfl (by omega))) ?_
  refine Bod.go dc_379_49 rfl ?_
  refine Bod.go dc_379_50 rfl ?_
  refine Bod.virt (r := []) dc_379_51 kr_379_554 ⟨Or.inl rfl, ow_361, cl_14⟩ (by rw [np_361]; rfl) (by rw [np_361]; rfl) (ob_of (mk_61 _)) (Nat.le_of_ble_eq_true rfl) (c1  ) ?_
  show Bod _ _ _ _ [_] _ _ _
  refine Bod.astn dc_379_54 (by rw [ml_379]; exact Nat.le_of_ble_eq_true rfl) ?_
  refine Bod.go dc_379_55 rfl ?_
  refine Bod.get dc_379_56 fr_379_531 (mk_thing ag (by first | exact hz1 | (simp only [rIS, rJS, rAS, rLS, rVS, rQS, rS_hold]; exact hz1))) rfl ?_
  refine Bod.eqI (nI fd0) (by first | assumption | (simp (disch := omega) only [rI, rIe, rA, rIA, rLA, rJA, rVI, rQI, rVA, rQA, upd_at,  rAI, rLI, rJI, nI_add, pk_sub, kc_0, kc_1, kc_2, kc_3, kc_4, kc_5, reduceIte, Nat.reduceEqDiff, Nat.add_zero, rI_hold, rI_hold, rL_hold, ht, he91, hfd0]; done) | (simp (disch := omega) only [rI, rIe, rA, rIA, rLA, rJA, rVI, rQI, rVA, rQA, upd_at,  rAI, rLI, rJI, nI_add, pk_sub, kc_0, kc_1, kc_2, kc_3, kc_4, kc_5, reduceIte, Nat.reduceEqDiff, Nat.add_zero, rI_hold, rI_hold, rL_hold, ht, he91, hfd0]; exact congrArg nI (by omega))) ?_
  refine Bod.sw (t := 104) dc_379_59 rfl rfl (by rw [sw15]; decide +kernel) ?_
  refine Bod.go dc_379_104 rfl ?_
  refine Bod.go dc_379_105 rfl ?_
  refine Bod.get dc_379_106 fr_379_472 (mk_thing ag (by first | exact hz1 | (simp only [rIS, rJS, rAS, rLS, rVS, rQS, rS_hold]; exact hz1))) rfl ?_
  refine Bod.eqI (Int32.ofInt (-1)) (by first | assumption | (simp (disch := omega) only [rI, rIe, rA, rIA, rLA, rJA, rVI, rQI, rVA, rQA, upd_at,  rAI, rLI, rJI, nI_add, pk_sub, kc_0, kc_1, kc_2, kc_3, kc_4, kc_5, reduceIte, Nat.reduceEqDiff, Nat.add_zero, rI_hold, rI_hold, rL_hold, ht, he91, hfd0, n5]; done) | (simp (disch := omega) only [rI, rIe, rA, rIA, rLA, rJA, rVI, rQI, rVA, rQA, upd_at,  rAI, rLI, rJI, nI_add, pk_sub, kc_0, kc_1, kc_2, kc_3, kc_4, kc_5, reduceIte, Nat.reduceEqDiff, Nat.add_zero, rI_hold, rI_hold, rL_hold, ht, he91, hfd0, n5]; exact congrArg nI (by omega))) ?_
  refine Bod.go dc_379_109 rfl ?_
  refine Bod.go dc_379_110 rfl ?_
  refine Bod.go dc_379_111 rfl ?_
  refine Bod.get dc_379_112 fr_379_475 (mk_thing ag (by first | exact hz1 | (simp only [rIS, rJS, rAS, rLS, rVS, rQS, rS_hold]; exact hz1))) rfl ?_
  refine Bod.eqI (Int32.ofInt (-1)) (by first | assumption | (simp (disch := omega) only [rI, rIe, rA, rIA, rLA, rJA, rVI, rQI, rVA, rQA, upd_at,  rAI, rLI, rJI, nI_add, pk_sub, kc_0, kc_1, kc_2, kc_3, kc_4, kc_5, reduceIte, Nat.reduceEqDiff, Nat.add_zero, rI_hold, rI_hold, rL_hold, ht, he91, hfd0, n5, n6]; done) | (simp (disch := omega) only [rI, rIe, rA, rIA, rLA, rJA, rVI, rQI, rVA, rQA, upd_at,  rAI, rLI, rJI, nI_add, pk_sub, kc_0, kc_1, kc_2, kc_3, kc_4, kc_5, reduceIte, Nat.reduceEqDiff, Nat.add_zero, rI_hold, rI_hold, rL_hold, ht, he91, hfd0, n5, n6]; exact congrArg nI (by omega))) ?_
  refine Bod.ic 0 (by decide) dc_379_115 ?_
  refine Bod.virt (r := []) dc_379_116 kr_379_783 ⟨Or.inl rfl, ow_396, cl_14⟩ (by rw [np_396]; rfl) (by rw [np_396]; rfl) (ob_of (mk_61 _)) (Nat.le_of_ble_eq_true rfl) (c2  ) ?_
  show Bod _ _ _ _ [_] _ _ _
  exact Bod.retZ dc_379_119 rt_379 (Or.inr rfl)
theorem rCl_12 {d : Nat} {S : cS} {nn : Nat} {t : Nat} {e91 : Nat} {S1 : cS} {g : Nat} {zg : Nat} {fd0 : Nat} {S2 : cS} (mnn : nn < 2 ^ 20) (ht : sI S 6151 = nI t) (mt : t < 20481) (b1 : nn ≤ t) (b2 : 1 ≤ t - nn) (he91 : sA S 91 (t - 1 - nn) = nI e91) (me91 : e91 < 2 ^ 20) (b3 : e91 ≠ 4) (b4 : e91 = 3) (ag : 108 ≤ g) (c1 : Ans (d + 8) 361 [.ref 61, .int (nI (t - 1 - nn))] S (some (.ref g)) S1) (hz1 : (sS S1)[g - 108]? = some (13, zg)) (hfd0 : sI S1 (100 * g + 0) = nI fd0) (mfd0 : fd0 < 2 ^ 20) (sw15 : fd0 = 6) (n5 : sI S1 (100 * g + 11) = Int32.ofInt (-1)) (n6 : sI S1 (100 * g + 12) = Int32.ofInt (-1)) (c2 : Ans (d + 8) 396 [.ref 61, .int (Int32.ofInt (-1)), .int (nI (t - 1 - nn)), .int (nI nn), .int (Int32.ofInt (-1)), .int (nI 0)] S1 (some (.int (nI 0))) S2) : Bod (d + 8) 379 0 [(0, .ref 61), (1, .int (nI nn))] [] S (some (.int 0)) (S2) := by
  refine Bod.go dc_379_0 rfl ?_
  refine Bod.get dc_379_1 fr_379_493 (mk_61 _) rfl ?_
  refine Bod.eqI (nI t) (by first | assumption | rfl | exact congrArg nI (by omega) | (simp (disch := omega) only [rI, rIe, rA, rIA, rLA, rJA, rVI, rQI, rVA, rQA, upd_at,  rAI, rLI, rJI, nI_add, pk_sub, kc_0, kc_1, kc_2, kc_3, kc_4, kc_5, reduceIte, Nat.reduceEqDiff, Nat.add_zero, rI_hold, rI_hold, rL_hold, ht]; done)) ?_
  refine Bod.go dc_379_4 rfl ?_
  refine Bod.subN (t - nn) (by omega) (by omega) dc_379_5 ?_
  refine Bod.ic 1 (by decide) dc_379_6 ?_
  refine Bod.subN (t - 1 - nn) (by omega) (by omega) dc_379_7 ?_
  refine Bod.istn dc_379_8 (by rw [ml_379]; exact Nat.le_of_ble_eq_true rfl) ?_
  refine Bod.go dc_379_9 rfl ?_
  refine Bod.get dc_379_10 fr_379_496 (mk_61 _) rfl ?_
  refine Bod.go dc_379_13 rfl ?_
  refine Bod.ialdN (t - 1 - nn) rfl (by omega) (by omega) dc_379_14 (mk_91 _) ?_
  refine Bod.eqI (nI e91) (by first | assumption | rfl | exact congrArg nI (by omega) | (simp (disch := omega) only [rI, rIe, rA, rIA, rLA, rJA, rVI, rQI, rVA, rQA, upd_at,  rAI, rLI, rJI, nI_add, pk_sub, kc_0, kc_1, kc_2, kc_3, kc_4, kc_5, reduceIte, Nat.reduceEqDiff, Nat.add_zero, rI_hold, rI_hold, rL_hold, ht, he91]; done)) ?_
  refine Bod.ic 4 (by decide) dc_379_15 ?_
  refine Bod.icT dc_379_16 rfl (k2_ne_T (k_ne e91 4 rfl rfl (by omega) (by omega) (by omega))) ?_
  refine Bod.go dc_379_33 rfl ?_
  refine Bod.get dc_379_34 fr_379_496 (mk_61 _) rfl ?_
  refine Bod.go dc_379_37 rfl ?_
  refine Bod.ialdN (t - 1 - nn) rfl (by omega) (by omega) dc_379_38 (mk_91 _) ?_
  refine Bod.eqI (nI e91) (by first | assumption | rfl | exact congrArg nI (by omega) | (simp (disch := omega) only [rI, rIe, rA, rIA, rLA, rJA, rVI, rQI, rVA, rQA, upd_at,  rAI, rLI, rJI, nI_add, pk_sub, kc_0, kc_1, kc_2, kc_3, kc_4, kc_5, reduceIte, Nat.reduceEqDiff, Nat.add_zero, rI_hold, rI_hold, rL_hold, ht, he91]; done)) ?_
  refine Bod.ic 3 (by decide) dc_379_39 ?_
  refine Bod.icT dc_379_40 rfl (k2_eq_T (k_eq e91 3 rfl rfl (by omega))) ?_
  refine Bod.go dc_379_49 rfl ?_
  refine Bod.go dc_379_50 rfl ?_
  refine Bod.virt (r := []) dc_379_51 kr_379_554 ⟨Or.inl rfl, ow_361, cl_14⟩ (by rw [np_361]; rfl) (by rw [np_361]; rfl) (ob_of (mk_61 _)) (Nat.le_of_ble_eq_true rfl) (c1  ) ?_
  show Bod _ _ _ _ [_] _ _ _
  refine Bod.astn dc_379_54 (by rw [ml_379]; exact Nat.le_of_ble_eq_true rfl) ?_
  refine Bod.go dc_379_55 rfl ?_
  refine Bod.get dc_379_56 fr_379_531 (mk_thing ag (by first | exact hz1 | (simp only [rIS, rJS, rAS, rLS, rVS, rQS, rS_hold]; exact hz1))) rfl ?_
  refine Bod.eqI (nI fd0) (by first | assumption | (simp (disch := omega) only [rI, rIe, rA, rIA, rLA, rJA, rVI, rQI, rVA, rQA, upd_at,  rAI, rLI, rJI, nI_add, pk_sub, kc_0, kc_1, kc_2, kc_3, kc_4, kc_5, reduceIte, Nat.reduceEqDiff, Nat.add_zero, rI_hold, rI_hold, rL_hold, ht, he91, hfd0]; done) | (simp (disch := omega) only [rI, rIe, rA, rIA, rLA, rJA, rVI, rQI, rVA, rQA, upd_at,  rAI, rLI, rJI, nI_add, pk_sub, kc_0, kc_1, kc_2, kc_3, kc_4, kc_5, reduceIte, Nat.reduceEqDiff, Nat.add_zero, rI_hold, rI_hold, rL_hold, ht, he91, hfd0]; exact congrArg nI (by omega))) ?_
  refine Bod.sw (t := 104) dc_379_59 rfl rfl (by rw [sw15]; decide +kernel) ?_
  refine Bod.go dc_379_104 rfl ?_
  refine Bod.go dc_379_105 rfl ?_
  refine Bod.get dc_379_106 fr_379_472 (mk_thing ag (by first | exact hz1 | (simp only [rIS, rJS, rAS, rLS, rVS, rQS, rS_hold]; exact hz1))) rfl ?_
  refine Bod.eqI (Int32.ofInt (-1)) (by first | assumption | (simp (disch := omega) only [rI, rIe, rA, rIA, rLA, rJA, rVI, rQI, rVA, rQA, upd_at,  rAI, rLI, rJI, nI_add, pk_sub, kc_0, kc_1, kc_2, kc_3, kc_4, kc_5, reduceIte, Nat.reduceEqDiff, Nat.add_zero, rI_hold, rI_hold, rL_hold, ht, he91, hfd0, n5]; done) | (simp (disch := omega) only [rI, rIe, rA, rIA, rLA, rJA, rVI, rQI, rVA, rQA, upd_at,  rAI, rLI, rJI, nI_add, pk_sub, kc_0, kc_1, kc_2, kc_3, kc_4, kc_5, reduceIte, Nat.reduceEqDiff, Nat.add_zero, rI_hold, rI_hold, rL_hold, ht, he91, hfd0, n5]; exact congrArg nI (by omega))) ?_
  refine Bod.go dc_379_109 rfl ?_
  refine Bod.go dc_379_110 rfl ?_
  refine Bod.go dc_379_111 rfl ?_
  refine Bod.get dc_379_112 fr_379_475 (mk_thing ag (by first | exact hz1 | (simp only [rIS, rJS, rAS, rLS, rVS, rQS, rS_hold]; exact hz1))) rfl ?_
  refine Bod.eqI (Int32.ofInt (-1)) (by first | assumption | (simp (disch := omega) only [rI, rIe, rA, rIA, rLA, rJA, rVI, rQI, rVA, rQA, upd_at,  rAI, rLI, rJI, nI_add, pk_sub, kc_0, kc_1, kc_2, kc_3, kc_4, kc_5, reduceIte, Nat.reduceEqDiff, Nat.add_zero, rI_hold, rI_hold, rL_hold, ht, he91, hfd0, n5, n6]; done) | (simp (disch := omega) only [rI, rIe, rA, rIA, rLA, rJA, rVI, rQI, rVA, rQA, upd_at,  rAI, rLI, rJI, nI_add, pk_sub, kc_0, kc_1, kc_2, kc_3, kc_4, kc_5, reduceIte, Nat.reduceEqDiff, Nat.add_zero, rI_hold, rI_hold, rL_hold, ht, he91, hfd0, n5, n6]; exact congrArg nI (by omega))) ?_
  refine Bod.ic 0 (by decide) dc_379_115 ?_
  refine Bod.virt (r := []) dc_379_116 kr_379_783 ⟨Or.inl rfl, ow_396, cl_14⟩ (by rw [np_396]; rfl) (by rw [np_396]; rfl) (ob_of (mk_61 _)) (Nat.le_of_ble_eq_true rfl) (c2  ) ?_
  show Bod _ _ _ _ [_] _ _ _
  exact Bod.retZ dc_379_119 rt_379 (Or.inl rfl)
theorem rCl_13 {d : Nat} {S : cS} {nn : Nat} {t : Nat} {e91 : Nat} {S1 : cS} {g : Nat} {zg : Nat} {fd0 : Nat} {S2 : cS} (mnn : nn < 2 ^ 20) (ht : sI S 6151 = nI t) (mt : t < 20481) (b1 : nn ≤ t) (b2 : 1 ≤ t - nn) (he91 : sA S 91 (t - 1 - nn) = nI e91) (me91 : e91 < 2 ^ 20) (b3 : e91 ≠ 4) (b4 : e91 = 3) (ag : 108 ≤ g) (c1 : Ans (d + 8) 361 [.ref 61, .int (nI (t - 1 - nn))] S (some (.ref g)) S1) (hz1 : (sS S1)[g - 108]? = some (13, zg)) (hfd0 : sI S1 (100 * g + 0) = nI fd0) (mfd0 : fd0 < 2 ^ 20) (b64 : fd0 < 64) (n3 : fd0 ≠ 3) (n4 : fd0 ≠ 4) (n6 : fd0 ≠ 6) (c2 : Ans (d + 8) 351 [.ref 61, .int (nI 2)] S1 (some (.int (nI 0))) S2) : Bod (d + 8) 379 0 [(0, .ref 61), (1, .int (nI nn))] [] S (some (.int 0)) (S2) := by
  refine Bod.go dc_379_0 rfl ?_
  refine Bod.get dc_379_1 fr_379_493 (mk_61 _) rfl ?_
  refine Bod.eqI (nI t) (by first | assumption | rfl | exact congrArg nI (by omega) | (simp (disch := omega) only [rI, rIe, rA, rIA, rLA, rJA, rVI, rQI, rVA, rQA, upd_at,  rAI, rLI, rJI, nI_add, pk_sub, kc_0, kc_1, kc_2, kc_3, kc_4, kc_5, reduceIte, Nat.reduceEqDiff, Nat.add_zero, rI_hold, rI_hold, rL_hold, ht]; done)) ?_
  refine Bod.go dc_379_4 rfl ?_
  refine Bod.subN (t - nn) (by omega) (by omega) dc_379_5 ?_
  refine Bod.ic 1 (by decide) dc_379_6 ?_
  refine Bod.subN (t - 1 - nn) (by omega) (by omega) dc_379_7 ?_
  refine Bod.istn dc_379_8 (by rw [ml_379]; exact Nat.le_of_ble_eq_true rfl) ?_
  refine Bod.go dc_379_9 rfl ?_
  refine Bod.get dc_379_10 fr_379_496 (mk_61 _) rfl ?_
  refine Bod.go dc_379_13 rfl ?_
  refine Bod.ialdN (t - 1 - nn) rfl (by omega) (by omega) dc_379_14 (mk_91 _) ?_
  refine Bod.eqI (nI e91) (by first | assumption | rfl | exact congrArg nI (by omega) | (simp (disch := omega) only [rI, rIe, rA, rIA, rLA, rJA, rVI, rQI, rVA, rQA, upd_at,  rAI, rLI, rJI, nI_add, pk_sub, kc_0, kc_1, kc_2, kc_3, kc_4, kc_5, reduceIte, Nat.reduceEqDiff, Nat.add_zero, rI_hold, rI_hold, rL_hold, ht, he91]; done)) ?_
  refine Bod.ic 4 (by decide) dc_379_15 ?_
  refine Bod.icT dc_379_16 rfl (k2_ne_T (k_ne e91 4 rfl rfl (by omega) (by omega) (by omega))) ?_
  refine Bod.go dc_379_33 rfl ?_
  refine Bod.get dc_379_34 fr_379_496 (mk_61 _) rfl ?_
  refine Bod.go dc_379_37 rfl ?_
  refine Bod.ialdN (t - 1 - nn) rfl (by omega) (by omega) dc_379_38 (mk_91 _) ?_
  refine Bod.eqI (nI e91) (by first | assumption | rfl | exact congrArg nI (by omega) | (simp (disch := omega) only [rI, rIe, rA, rIA, rLA, rJA, rVI, rQI, rVA, rQA, upd_at,  rAI, rLI, rJI, nI_add, pk_sub, kc_0, kc_1, kc_2, kc_3, kc_4, kc_5, reduceIte, Nat.reduceEqDiff, Nat.add_zero, rI_hold, rI_hold, rL_hold, ht, he91]; done)) ?_
  refine Bod.ic 3 (by decide) dc_379_39 ?_
  refine Bod.icT dc_379_40 rfl (k2_eq_T (k_eq e91 3 rfl rfl (by omega))) ?_
  refine Bod.go dc_379_49 rfl ?_
  refine Bod.go dc_379_50 rfl ?_
  refine Bod.virt (r := []) dc_379_51 kr_379_554 ⟨Or.inl rfl, ow_361, cl_14⟩ (by rw [np_361]; rfl) (by rw [np_361]; rfl) (ob_of (mk_61 _)) (Nat.le_of_ble_eq_true rfl) (c1  ) ?_
  show Bod _ _ _ _ [_] _ _ _
  refine Bod.astn dc_379_54 (by rw [ml_379]; exact Nat.le_of_ble_eq_true rfl) ?_
  refine Bod.go dc_379_55 rfl ?_
  refine Bod.get dc_379_56 fr_379_531 (mk_thing ag (by first | exact hz1 | (simp only [rIS, rJS, rAS, rLS, rVS, rQS, rS_hold]; exact hz1))) rfl ?_
  refine Bod.eqI (nI fd0) (by first | assumption | (simp (disch := omega) only [rI, rIe, rA, rIA, rLA, rJA, rVI, rQI, rVA, rQA, upd_at,  rAI, rLI, rJI, nI_add, pk_sub, kc_0, kc_1, kc_2, kc_3, kc_4, kc_5, reduceIte, Nat.reduceEqDiff, Nat.add_zero, rI_hold, rI_hold, rL_hold, ht, he91, hfd0]; done) | (simp (disch := omega) only [rI, rIe, rA, rIA, rLA, rJA, rVI, rQI, rVA, rQA, upd_at,  rAI, rLI, rJI, nI_add, pk_sub, kc_0, kc_1, kc_2, kc_3, kc_4, kc_5, reduceIte, Nat.reduceEqDiff, Nat.add_zero, rI_hold, rI_hold, rL_hold, ht, he91, hfd0]; exact congrArg nI (by omega))) ?_
  refine Bod.sw (t := 127) dc_379_59 rfl rfl (((((xsw_379_59 fd0 b64).resolve_left n3).resolve_left n4).resolve_left n6)) ?_
  refine Bod.go dc_379_127 rfl ?_
  refine Bod.ic 2 (by decide) dc_379_128 ?_
  refine Bod.virt (r := []) dc_379_129 kr_379_608 ⟨Or.inl rfl, ow_351, cl_14⟩ (by rw [np_351]; rfl) (by rw [np_351]; rfl) (ob_of (mk_61 _)) (Nat.le_of_ble_eq_true rfl) (c2  ) ?_
  show Bod _ _ _ _ [_] _ _ _
  exact Bod.retZ dc_379_132 rt_379 (Or.inl rfl)
theorem rCl_14 {d : Nat} {S : cS} {nn : Nat} {t : Nat} {e91 : Nat} {S1 : cS} (mnn : nn < 2 ^ 20) (ht : sI S 6151 = nI t) (mt : t < 20481) (b1 : nn ≤ t) (b2 : 1 ≤ t - nn) (he91 : sA S 91 (t - 1 - nn) = nI e91) (me91 : e91 < 2 ^ 20) (b3 : e91 ≠ 4) (b4 : e91 ≠ 3) (c1 : Ans (d + 8) 351 [.ref 61, .int (nI 2)] S (some (.int (nI 0))) S1) : Bod (d + 8) 379 0 [(0, .ref 61), (1, .int (nI nn))] [] S (some (.int 0)) (S1) := by
  refine Bod.go dc_379_0 rfl ?_
  refine Bod.get dc_379_1 fr_379_493 (mk_61 _) rfl ?_
  refine Bod.eqI (nI t) (by first | assumption | rfl | exact congrArg nI (by omega) | (simp (disch := omega) only [rI, rIe, rA, rIA, rLA, rJA, rVI, rQI, rVA, rQA, upd_at,  rAI, rLI, rJI, nI_add, pk_sub, kc_0, kc_1, kc_2, kc_3, kc_4, kc_5, reduceIte, Nat.reduceEqDiff, Nat.add_zero, rI_hold, rI_hold, rL_hold, ht]; done)) ?_
  refine Bod.go dc_379_4 rfl ?_
  refine Bod.subN (t - nn) (by omega) (by omega) dc_379_5 ?_
  refine Bod.ic 1 (by decide) dc_379_6 ?_
  refine Bod.subN (t - 1 - nn) (by omega) (by omega) dc_379_7 ?_
  refine Bod.istn dc_379_8 (by rw [ml_379]; exact Nat.le_of_ble_eq_true rfl) ?_
  refine Bod.go dc_379_9 rfl ?_
  refine Bod.get dc_379_10 fr_379_496 (mk_61 _) rfl ?_
  refine Bod.go dc_379_13 rfl ?_
  refine Bod.ialdN (t - 1 - nn) rfl (by omega) (by omega) dc_379_14 (mk_91 _) ?_
  refine Bod.eqI (nI e91) (by first | assumption | rfl | exact congrArg nI (by omega) | (simp (disch := omega) only [rI, rIe, rA, rIA, rLA, rJA, rVI, rQI, rVA, rQA, upd_at,  rAI, rLI, rJI, nI_add, pk_sub, kc_0, kc_1, kc_2, kc_3, kc_4, kc_5, reduceIte, Nat.reduceEqDiff, Nat.add_zero, rI_hold, rI_hold, rL_hold, ht, he91]; done)) ?_
  refine Bod.ic 4 (by decide) dc_379_15 ?_
  refine Bod.icT dc_379_16 rfl (k2_ne_T (k_ne e91 4 rfl rfl (by omega) (by omega) (by omega))) ?_
  refine Bod.go dc_379_33 rfl ?_
  refine Bod.get dc_379_34 fr_379_496 (mk_61 _) rfl ?_
  refine Bod.go dc_379_37 rfl ?_
  refine Bod.ialdN (t - 1 - nn) rfl (by omega) (by omega) dc_379_38 (mk_91 _) ?_
  refine Bod.eqI (nI e91) (by first | assumption | rfl | exact congrArg nI (by omega) | (simp (disch := omega) only [rI, rIe, rA, rIA, rLA, rJA, rVI, rQI, rVA, rQA, upd_at,  rAI, rLI, rJI, nI_add, pk_sub, kc_0, kc_1, kc_2, kc_3, kc_4, kc_5, reduceIte, Nat.reduceEqDiff, Nat.add_zero, rI_hold, rI_hold, rL_hold, ht, he91]; done)) ?_
  refine Bod.ic 3 (by decide) dc_379_39 ?_
  refine Bod.icF dc_379_40 rfl (k2_eq_F (k_ne e91 3 rfl rfl (by omega) (by omega) (by omega))) ?_
  refine Bod.go dc_379_43 rfl ?_
  refine Bod.ic 2 (by decide) dc_379_44 ?_
  refine Bod.virt (r := []) dc_379_45 kr_379_608 ⟨Or.inl rfl, ow_351, cl_14⟩ (by rw [np_351]; rfl) (by rw [np_351]; rfl) (ob_of (mk_61 _)) (Nat.le_of_ble_eq_true rfl) (c1  ) ?_
  show Bod _ _ _ _ [_] _ _ _
  exact Bod.retZ dc_379_48 rt_379 (Or.inl rfl)
theorem rCl_15 {d : Nat} {S : cS} {nn : Nat} {t : Nat} {e91 : Nat} {o : Nat} {S1 : cS} (mnn : nn < 2 ^ 20) (ht : sI S 6151 = nI t) (mt : t < 20481) (b1 : nn ≤ t) (b2 : 1 ≤ t - nn) (he91 : sA S 91 (t - 1 - nn) = nI e91) (me91 : e91 < 2 ^ 20) (b3 : e91 = 4) (ho : (sL S 92 (t - 1 - nn)).toInt32 = nI o) (mo : o < 1500) (c1 : Ans (d + 8) 380 [.ref 61, .int (nI o), .int (nI (t - 1 - nn)), .int (nI nn)] S (some (.int (nI 1))) S1) : Bod (d + 8) 379 0 [(0, .ref 61), (1, .int (nI nn))] [] S (some (.int 1)) (S1) := by
  refine Bod.go dc_379_0 rfl ?_
  refine Bod.get dc_379_1 fr_379_493 (mk_61 _) rfl ?_
  refine Bod.eqI (nI t) (by first | assumption | rfl | exact congrArg nI (by omega) | (simp (disch := omega) only [rI, rIe, rA, rIA, rLA, rJA, rVI, rQI, rVA, rQA, upd_at,  rAI, rLI, rJI, nI_add, pk_sub, kc_0, kc_1, kc_2, kc_3, kc_4, kc_5, reduceIte, Nat.reduceEqDiff, Nat.add_zero, rI_hold, rI_hold, rL_hold, ht]; done)) ?_
  refine Bod.go dc_379_4 rfl ?_
  refine Bod.subN (t - nn) (by omega) (by omega) dc_379_5 ?_
  refine Bod.ic 1 (by decide) dc_379_6 ?_
  refine Bod.subN (t - 1 - nn) (by omega) (by omega) dc_379_7 ?_
  refine Bod.istn dc_379_8 (by rw [ml_379]; exact Nat.le_of_ble_eq_true rfl) ?_
  refine Bod.go dc_379_9 rfl ?_
  refine Bod.get dc_379_10 fr_379_496 (mk_61 _) rfl ?_
  refine Bod.go dc_379_13 rfl ?_
  refine Bod.ialdN (t - 1 - nn) rfl (by omega) (by omega) dc_379_14 (mk_91 _) ?_
  refine Bod.eqI (nI e91) (by first | assumption | rfl | exact congrArg nI (by omega) | (simp (disch := omega) only [rI, rIe, rA, rIA, rLA, rJA, rVI, rQI, rVA, rQA, upd_at,  rAI, rLI, rJI, nI_add, pk_sub, kc_0, kc_1, kc_2, kc_3, kc_4, kc_5, reduceIte, Nat.reduceEqDiff, Nat.add_zero, rI_hold, rI_hold, rL_hold, ht, he91]; done)) ?_
  refine Bod.ic 4 (by decide) dc_379_15 ?_
  refine Bod.icF dc_379_16 rfl (k2_ne_F (k_eq e91 4 rfl rfl (by omega))) ?_
  refine Bod.go dc_379_19 rfl ?_
  refine Bod.go dc_379_20 rfl ?_
  refine Bod.get dc_379_21 fr_379_499 (mk_61 _) rfl ?_
  refine Bod.go dc_379_24 rfl ?_
  refine Bod.laldN (t - 1 - nn) rfl (by omega) (by omega) dc_379_25 (mk_92 _) ?_
  refine Bod.go dc_379_26 rfl ?_
  refine Bod.eqI (nI o) (by first | exact ho | (simp only [rI, rIe, rA, rIA, rLA, rJA, rVI, rQI, rVA, rQA, upd_at,  rAI, rLI, rJI, nI_add, pk_sub, kc_0, kc_1, kc_2, kc_3, kc_4, kc_5, reduceIte, Nat.reduceEqDiff, Nat.add_zero, rI_hold, rI_hold, rL_hold]; exact ho)) ?_
  refine Bod.go dc_379_27 rfl ?_
  refine Bod.go dc_379_28 rfl ?_
  refine Bod.virt (r := []) dc_379_29 kr_379_780 ⟨Or.inl rfl, ow_380, cl_14⟩ (by rw [np_380]; rfl) (by rw [np_380]; rfl) (ob_of (mk_61 _)) (Nat.le_of_ble_eq_true rfl) (c1  ) ?_
  show Bod _ _ _ _ [_] _ _ _
  exact Bod.retZ dc_379_32 rt_379 (Or.inr rfl)
theorem rCl_16 {d : Nat} {S : cS} {nn : Nat} {t : Nat} {e91 : Nat} {o : Nat} {S1 : cS} (mnn : nn < 2 ^ 20) (ht : sI S 6151 = nI t) (mt : t < 20481) (b1 : nn ≤ t) (b2 : 1 ≤ t - nn) (he91 : sA S 91 (t - 1 - nn) = nI e91) (me91 : e91 < 2 ^ 20) (b3 : e91 = 4) (ho : (sL S 92 (t - 1 - nn)).toInt32 = nI o) (mo : o < 1500) (c1 : Ans (d + 8) 380 [.ref 61, .int (nI o), .int (nI (t - 1 - nn)), .int (nI nn)] S (some (.int (nI 0))) S1) : Bod (d + 8) 379 0 [(0, .ref 61), (1, .int (nI nn))] [] S (some (.int 0)) (S1) := by
  refine Bod.go dc_379_0 rfl ?_
  refine Bod.get dc_379_1 fr_379_493 (mk_61 _) rfl ?_
  refine Bod.eqI (nI t) (by first | assumption | rfl | exact congrArg nI (by omega) | (simp (disch := omega) only [rI, rIe, rA, rIA, rLA, rJA, rVI, rQI, rVA, rQA, upd_at,  rAI, rLI, rJI, nI_add, pk_sub, kc_0, kc_1, kc_2, kc_3, kc_4, kc_5, reduceIte, Nat.reduceEqDiff, Nat.add_zero, rI_hold, rI_hold, rL_hold, ht]; done)) ?_
  refine Bod.go dc_379_4 rfl ?_
  refine Bod.subN (t - nn) (by omega) (by omega) dc_379_5 ?_
  refine Bod.ic 1 (by decide) dc_379_6 ?_
  refine Bod.subN (t - 1 - nn) (by omega) (by omega) dc_379_7 ?_
  refine Bod.istn dc_379_8 (by rw [ml_379]; exact Nat.le_of_ble_eq_true rfl) ?_
  refine Bod.go dc_379_9 rfl ?_
  refine Bod.get dc_379_10 fr_379_496 (mk_61 _) rfl ?_
  refine Bod.go dc_379_13 rfl ?_
  refine Bod.ialdN (t - 1 - nn) rfl (by omega) (by omega) dc_379_14 (mk_91 _) ?_
  refine Bod.eqI (nI e91) (by first | assumption | rfl | exact congrArg nI (by omega) | (simp (disch := omega) only [rI, rIe, rA, rIA, rLA, rJA, rVI, rQI, rVA, rQA, upd_at,  rAI, rLI, rJI, nI_add, pk_sub, kc_0, kc_1, kc_2, kc_3, kc_4, kc_5, reduceIte, Nat.reduceEqDiff, Nat.add_zero, rI_hold, rI_hold, rL_hold, ht, he91]; done)) ?_
  refine Bod.ic 4 (by decide) dc_379_15 ?_
  refine Bod.icF dc_379_16 rfl (k2_ne_F (k_eq e91 4 rfl rfl (by omega))) ?_
  refine Bod.go dc_379_19 rfl ?_
  refine Bod.go dc_379_20 rfl ?_
  refine Bod.get dc_379_21 fr_379_499 (mk_61 _) rfl ?_
  refine Bod.go dc_379_24 rfl ?_
  refine Bod.laldN (t - 1 - nn) rfl (by omega) (by omega) dc_379_25 (mk_92 _) ?_
  refine Bod.go dc_379_26 rfl ?_
  refine Bod.eqI (nI o) (by first | exact ho | (simp only [rI, rIe, rA, rIA, rLA, rJA, rVI, rQI, rVA, rQA, upd_at,  rAI, rLI, rJI, nI_add, pk_sub, kc_0, kc_1, kc_2, kc_3, kc_4, kc_5, reduceIte, Nat.reduceEqDiff, Nat.add_zero, rI_hold, rI_hold, rL_hold]; exact ho)) ?_
  refine Bod.go dc_379_27 rfl ?_
  refine Bod.go dc_379_28 rfl ?_
  refine Bod.virt (r := []) dc_379_29 kr_379_780 ⟨Or.inl rfl, ow_380, cl_14⟩ (by rw [np_380]; rfl) (by rw [np_380]; rfl) (ob_of (mk_61 _)) (Nat.le_of_ble_eq_true rfl) (c1  ) ?_
  show Bod _ _ _ _ [_] _ _ _
  exact Bod.retZ dc_379_32 rt_379 (Or.inl rfl)
theorem rRkA_1 {d : Nat} {S : cS} {x : Nat} {y : Nat} {e91 : Nat} {S1 : cS} {S2 : cS} {S3 : cS} (mx : x < 2 ^ 20) (my : y < 2 ^ 20) (b1 : x < 20480) (he91 : sA S 91 x = nI e91) (me91 : e91 < 2 ^ 20) (b2 : e91 ≠ 2) (c1 : Ans (d + 8) 363 [.ref 61, .int (nI x), .int (nI 1)] S (some (.int (nI 1))) S1) (c2 : Ans (d + 8) 363 [.ref 61, .int (nI y), .int (nI 1)] S1 (some (.int (nI 1))) S2) (c3 : Ans (d + 8) 407 [.ref 61, .int (nI x), .int (nI y)] S2 (some (.int (nI 1))) S3) : Bod (d + 8) 405 0 [(0, .ref 61), (1, .int (nI 43)), (2, .int (nI x)), (3, .int (nI y))] [] S (some (.int 1)) (S3) := by
  refine Bod.go dc_405_0 rfl ?_
  refine Bod.bip 43 (by decide) dc_405_1 ?_
  refine Bod.icF dc_405_3 rfl (k2_ne_F (k_eq 43 43 rfl rfl (by omega))) ?_
  refine Bod.go dc_405_6 rfl ?_
  refine Bod.get dc_405_7 fr_405_496 (mk_61 _) rfl ?_
  refine Bod.go dc_405_10 rfl ?_
  refine Bod.ialdN x rfl (by omega) (by omega) dc_405_11 (mk_91 _) ?_
  refine Bod.eqI (nI e91) (by first | assumption | rfl | exact congrArg nI (by omega) | (simp (disch := omega) only [rI, rIe, rA, rIA, rLA, rJA, rVI, rQI, rVA, rQA, upd_at,  rAI, rLI, rJI, nI_add, pk_sub, kc_0, kc_1, kc_2, kc_3, kc_4, kc_5, reduceIte, Nat.reduceEqDiff, Nat.add_zero, rI_hold, rI_hold, rL_hold, he91]; done)) ?_
  refine Bod.ic 2 (by decide) dc_405_12 ?_
  refine Bod.icT dc_405_13 rfl (k2_ne_T (k_ne e91 2 rfl rfl (by omega) (by omega) (by omega))) ?_
  refine Bod.go dc_405_33 rfl ?_
  refine Bod.bip 43 (by decide) dc_405_34 ?_
  refine Bod.icF dc_405_36 rfl (k2_ne_F (k_eq 43 43 rfl rfl (by omega))) ?_
  refine Bod.go dc_405_39 rfl ?_
  refine Bod.go dc_405_40 rfl ?_
  refine Bod.ic 1 (by decide) dc_405_41 ?_
  refine Bod.virt (r := []) dc_405_42 kr_405_683 ⟨Or.inl rfl, ow_363, cl_14⟩ (by rw [np_363]; rfl) (by rw [np_363]; rfl) (ob_of (mk_61 _)) (Nat.le_of_ble_eq_true rfl) (c1  ) ?_
  show Bod _ _ _ _ [_] _ _ _
  refine Bod.ifF dc_405_45 rfl (k1_eq_F (k_ne 1 0 rfl rfl (by omega) (by omega) (by omega))) ?_
  refine Bod.go dc_405_48 rfl ?_
  refine Bod.go dc_405_49 rfl ?_
  refine Bod.ic 1 (by decide) dc_405_50 ?_
  refine Bod.virt (r := []) dc_405_51 kr_405_683 ⟨Or.inl rfl, ow_363, cl_14⟩ (by rw [np_363]; rfl) (by rw [np_363]; rfl) (ob_of (mk_61 _)) (Nat.le_of_ble_eq_true rfl) (c2  ) ?_
  show Bod _ _ _ _ [_] _ _ _
  refine Bod.ifF dc_405_54 rfl (k1_eq_F (k_ne 1 0 rfl rfl (by omega) (by omega) (by omega))) ?_
  refine Bod.go dc_405_57 rfl ?_
  refine Bod.go dc_405_58 rfl ?_
  refine Bod.go dc_405_59 rfl ?_
  refine Bod.virt (r := []) dc_405_60 kr_405_737 ⟨Or.inl rfl, ow_407, cl_14⟩ (by rw [np_407]; rfl) (by rw [np_407]; rfl) (ob_of (mk_61 _)) (Nat.le_of_ble_eq_true rfl) (c3  ) ?_
  show Bod _ _ _ _ [_] _ _ _
  exact Bod.retZ dc_405_63 rt_405 (Or.inr rfl)
theorem rRkA_2 {d : Nat} {S : cS} {x : Nat} {y : Nat} {e91 : Nat} {S1 : cS} {S2 : cS} {S3 : cS} (mx : x < 2 ^ 20) (my : y < 2 ^ 20) (b1 : x < 20480) (he91 : sA S 91 x = nI e91) (me91 : e91 < 2 ^ 20) (b2 : e91 ≠ 2) (c1 : Ans (d + 8) 363 [.ref 61, .int (nI x), .int (nI 1)] S (some (.int (nI 1))) S1) (c2 : Ans (d + 8) 363 [.ref 61, .int (nI y), .int (nI 1)] S1 (some (.int (nI 1))) S2) (c3 : Ans (d + 8) 407 [.ref 61, .int (nI x), .int (nI y)] S2 (some (.int (nI 0))) S3) : Bod (d + 8) 405 0 [(0, .ref 61), (1, .int (nI 43)), (2, .int (nI x)), (3, .int (nI y))] [] S (some (.int 0)) (S3) := by
  refine Bod.go dc_405_0 rfl ?_
  refine Bod.bip 43 (by decide) dc_405_1 ?_
  refine Bod.icF dc_405_3 rfl (k2_ne_F (k_eq 43 43 rfl rfl (by omega))) ?_
  refine Bod.go dc_405_6 rfl ?_
  refine Bod.get dc_405_7 fr_405_496 (mk_61 _) rfl ?_
  refine Bod.go dc_405_10 rfl ?_
  refine Bod.ialdN x rfl (by omega) (by omega) dc_405_11 (mk_91 _) ?_
  refine Bod.eqI (nI e91) (by first | assumption | rfl | exact congrArg nI (by omega) | (simp (disch := omega) only [rI, rIe, rA, rIA, rLA, rJA, rVI, rQI, rVA, rQA, upd_at,  rAI, rLI, rJI, nI_add, pk_sub, kc_0, kc_1, kc_2, kc_3, kc_4, kc_5, reduceIte, Nat.reduceEqDiff, Nat.add_zero, rI_hold, rI_hold, rL_hold, he91]; done)) ?_
  refine Bod.ic 2 (by decide) dc_405_12 ?_
  refine Bod.icT dc_405_13 rfl (k2_ne_T (k_ne e91 2 rfl rfl (by omega) (by omega) (by omega))) ?_
  refine Bod.go dc_405_33 rfl ?_
  refine Bod.bip 43 (by decide) dc_405_34 ?_
  refine Bod.icF dc_405_36 rfl (k2_ne_F (k_eq 43 43 rfl rfl (by omega))) ?_
  refine Bod.go dc_405_39 rfl ?_
  refine Bod.go dc_405_40 rfl ?_
  refine Bod.ic 1 (by decide) dc_405_41 ?_
  refine Bod.virt (r := []) dc_405_42 kr_405_683 ⟨Or.inl rfl, ow_363, cl_14⟩ (by rw [np_363]; rfl) (by rw [np_363]; rfl) (ob_of (mk_61 _)) (Nat.le_of_ble_eq_true rfl) (c1  ) ?_
  show Bod _ _ _ _ [_] _ _ _
  refine Bod.ifF dc_405_45 rfl (k1_eq_F (k_ne 1 0 rfl rfl (by omega) (by omega) (by omega))) ?_
  refine Bod.go dc_405_48 rfl ?_
  refine Bod.go dc_405_49 rfl ?_
  refine Bod.ic 1 (by decide) dc_405_50 ?_
  refine Bod.virt (r := []) dc_405_51 kr_405_683 ⟨Or.inl rfl, ow_363, cl_14⟩ (by rw [np_363]; rfl) (by rw [np_363]; rfl) (ob_of (mk_61 _)) (Nat.le_of_ble_eq_true rfl) (c2  ) ?_
  show Bod _ _ _ _ [_] _ _ _
  refine Bod.ifF dc_405_54 rfl (k1_eq_F (k_ne 1 0 rfl rfl (by omega) (by omega) (by omega))) ?_
  refine Bod.go dc_405_57 rfl ?_
  refine Bod.go dc_405_58 rfl ?_
  refine Bod.go dc_405_59 rfl ?_
  refine Bod.virt (r := []) dc_405_60 kr_405_737 ⟨Or.inl rfl, ow_407, cl_14⟩ (by rw [np_407]; rfl) (by rw [np_407]; rfl) (ob_of (mk_61 _)) (Nat.le_of_ble_eq_true rfl) (c3  ) ?_
  show Bod _ _ _ _ [_] _ _ _
  exact Bod.retZ dc_405_63 rt_405 (Or.inl rfl)
theorem rRkA_3 {d : Nat} {S : cS} {x : Nat} {y : Nat} {e91 : Nat} {S1 : cS} {S2 : cS} {e911 : Nat} {S3 : cS} (mx : x < 2 ^ 20) (my : y < 2 ^ 20) (b1 : x < 20480) (he91 : sA S 91 x = nI e91) (me91 : e91 < 2 ^ 20) (b2 : e91 ≠ 2) (c1 : Ans (d + 8) 363 [.ref 61, .int (nI x), .int (nI 1)] S (some (.int (nI 1))) S1) (c2 : Ans (d + 8) 363 [.ref 61, .int (nI y), .int (nI 1)] S1 (some (.int (nI 0))) S2) (he911 : sA S2 91 x = nI e911) (me911 : e911 < 2 ^ 20) (b3 : e911 ≠ 1) (c3 : Ans (d + 8) 351 [.ref 61, .int (nI 2)] S2 (some (.int (nI 0))) S3) : Bod (d + 8) 405 0 [(0, .ref 61), (1, .int (nI 43)), (2, .int (nI x)), (3, .int (nI y))] [] S (some (.int 0)) (S3) := by
  refine Bod.go dc_405_0 rfl ?_
  refine Bod.bip 43 (by decide) dc_405_1 ?_
  refine Bod.icF dc_405_3 rfl (k2_ne_F (k_eq 43 43 rfl rfl (by omega))) ?_
  refine Bod.go dc_405_6 rfl ?_
  refine Bod.get dc_405_7 fr_405_496 (mk_61 _) rfl ?_
  refine Bod.go dc_405_10 rfl ?_
  refine Bod.ialdN x rfl (by omega) (by omega) dc_405_11 (mk_91 _) ?_
  refine Bod.eqI (nI e91) (by first | assumption | rfl | exact congrArg nI (by omega) | (simp (disch := omega) only [rI, rIe, rA, rIA, rLA, rJA, rVI, rQI, rVA, rQA, upd_at,  rAI, rLI, rJI, nI_add, pk_sub, kc_0, kc_1, kc_2, kc_3, kc_4, kc_5, reduceIte, Nat.reduceEqDiff, Nat.add_zero, rI_hold, rI_hold, rL_hold, he91]; done)) ?_
  refine Bod.ic 2 (by decide) dc_405_12 ?_
  refine Bod.icT dc_405_13 rfl (k2_ne_T (k_ne e91 2 rfl rfl (by omega) (by omega) (by omega))) ?_
  refine Bod.go dc_405_33 rfl ?_
  refine Bod.bip 43 (by decide) dc_405_34 ?_
  refine Bod.icF dc_405_36 rfl (k2_ne_F (k_eq 43 43 rfl rfl (by omega))) ?_
  refine Bod.go dc_405_39 rfl ?_
  refine Bod.go dc_405_40 rfl ?_
  refine Bod.ic 1 (by decide) dc_405_41 ?_
  refine Bod.virt (r := []) dc_405_42 kr_405_683 ⟨Or.inl rfl, ow_363, cl_14⟩ (by rw [np_363]; rfl) (by rw [np_363]; rfl) (ob_of (mk_61 _)) (Nat.le_of_ble_eq_true rfl) (c1  ) ?_
  show Bod _ _ _ _ [_] _ _ _
  refine Bod.ifF dc_405_45 rfl (k1_eq_F (k_ne 1 0 rfl rfl (by omega) (by omega) (by omega))) ?_
  refine Bod.go dc_405_48 rfl ?_
  refine Bod.go dc_405_49 rfl ?_
  refine Bod.ic 1 (by decide) dc_405_50 ?_
  refine Bod.virt (r := []) dc_405_51 kr_405_683 ⟨Or.inl rfl, ow_363, cl_14⟩ (by rw [np_363]; rfl) (by rw [np_363]; rfl) (ob_of (mk_61 _)) (Nat.le_of_ble_eq_true rfl) (c2  ) ?_
  show Bod _ _ _ _ [_] _ _ _
  refine Bod.ifT dc_405_54 rfl (k1_eq_T (k_eq 0 0 rfl rfl (by omega))) ?_
  refine Bod.go dc_405_64 rfl ?_
  refine Bod.get dc_405_65 fr_405_496 (mk_61 _) rfl ?_
  refine Bod.go dc_405_68 rfl ?_
  refine Bod.ialdN x rfl (by omega) (by omega) dc_405_69 (mk_91 _) ?_
  refine Bod.eqI (nI e911) (by first | assumption | (simp (disch := omega) only [rI, rIe, rA, rIA, rLA, rJA, rVI, rQI, rVA, rQA, upd_at,  rAI, rLI, rJI, nI_add, pk_sub, kc_0, kc_1, kc_2, kc_3, kc_4, kc_5, reduceIte, Nat.reduceEqDiff, Nat.add_zero, rI_hold, rI_hold, rL_hold, he91, he911]; done) | (simp (disch := omega) only [rI, rIe, rA, rIA, rLA, rJA, rVI, rQI, rVA, rQA, upd_at,  rAI, rLI, rJI, nI_add, pk_sub, kc_0, kc_1, kc_2, kc_3, kc_4, kc_5, reduceIte, Nat.reduceEqDiff, Nat.add_zero, rI_hold, rI_hold, rL_hold, he91, he911]; exact congrArg nI (by omega))) ?_
  refine Bod.ic 1 (by decide) dc_405_70 ?_
  refine Bod.icT dc_405_71 rfl (k2_ne_T (k_ne e911 1 rfl rfl (by omega) (by omega) (by omega))) ?_
  refine Bod.go dc_405_84 rfl ?_
  refine Bod.ic 2 (by decide) dc_405_85 ?_
  refine Bod.virt (r := []) dc_405_86 kr_405_608 ⟨Or.inl rfl, ow_351, cl_14⟩ (by rw [np_351]; rfl) (by rw [np_351]; rfl) (ob_of (mk_61 _)) (Nat.le_of_ble_eq_true rfl) (c3  ) ?_
  show Bod _ _ _ _ [_] _ _ _
  exact Bod.retZ dc_405_89 rt_405 (Or.inl rfl)
theorem rRkA_4 {d : Nat} {S : cS} {x : Nat} {y : Nat} {e91 : Nat} {S1 : cS} {S2 : cS} {e911 : Nat} {e912 : Nat} {t : Nat} {S3 : cS} (mx : x < 2 ^ 20) (my : y < 2 ^ 20) (b1 : x < 20480) (he91 : sA S 91 x = nI e91) (me91 : e91 < 2 ^ 20) (b2 : e91 ≠ 2) (c1 : Ans (d + 8) 363 [.ref 61, .int (nI x), .int (nI 1)] S (some (.int (nI 1))) S1) (c2 : Ans (d + 8) 363 [.ref 61, .int (nI y), .int (nI 1)] S1 (some (.int (nI 0))) S2) (he911 : sA S2 91 x = nI e911) (me911 : e911 < 2 ^ 20) (b3 : e911 = 1) (b4 : y < 20480) (he912 : sA S2 91 y = nI e912) (me912 : e912 < 2 ^ 20) (b5 : e912 = 1) (w16 : sm_c1 .ge (lg_cmp (((sL S2 92 x) ^^^ ((sL S2 92 x) + (sL S2 92 y))) &&& ((sL S2 92 y) ^^^ ((sL S2 92 x) + (sL S2 92 y)))) 0) true false = true) (ht : sI S2 6151 = nI t) (mt : t < 20481) (b6 : 2 ≤ t) (c3 : Ans (d + 8) 353 [.ref 61, .long ((sL S2 92 x) + (sL S2 92 y))] (wI 6151 (nI (t - 2)) S2) none S3) : Bod (d + 8) 405 0 [(0, .ref 61), (1, .int (nI 43)), (2, .int (nI x)), (3, .int (nI y))] [] S (some (.int 1)) (S3) := by
  refine Bod.go dc_405_0 rfl ?_
  refine Bod.bip 43 (by decide) dc_405_1 ?_
  refine Bod.icF dc_405_3 rfl (k2_ne_F (k_eq 43 43 rfl rfl (by omega))) ?_
  refine Bod.go dc_405_6 rfl ?_
  refine Bod.get dc_405_7 fr_405_496 (mk_61 _) rfl ?_
  refine Bod.go dc_405_10 rfl ?_
  refine Bod.ialdN x rfl (by omega) (by omega) dc_405_11 (mk_91 _) ?_
  refine Bod.eqI (nI e91) (by first | assumption | rfl | exact congrArg nI (by omega) | (simp (disch := omega) only [rI, rIe, rA, rIA, rLA, rJA, rVI, rQI, rVA, rQA, upd_at,  rAI, rLI, rJI, nI_add, pk_sub, kc_0, kc_1, kc_2, kc_3, kc_4, kc_5, reduceIte, Nat.reduceEqDiff, Nat.add_zero, rI_hold, rI_hold, rL_hold, he91]; done)) ?_
  refine Bod.ic 2 (by decide) dc_405_12 ?_
  refine Bod.icT dc_405_13 rfl (k2_ne_T (k_ne e91 2 rfl rfl (by omega) (by omega) (by omega))) ?_
  refine Bod.go dc_405_33 rfl ?_
  refine Bod.bip 43 (by decide) dc_405_34 ?_
  refine Bod.icF dc_405_36 rfl (k2_ne_F (k_eq 43 43 rfl rfl (by omega))) ?_
  refine Bod.go dc_405_39 rfl ?_
  refine Bod.go dc_405_40 rfl ?_
  refine Bod.ic 1 (by decide) dc_405_41 ?_
  refine Bod.virt (r := []) dc_405_42 kr_405_683 ⟨Or.inl rfl, ow_363, cl_14⟩ (by rw [np_363]; rfl) (by rw [np_363]; rfl) (ob_of (mk_61 _)) (Nat.le_of_ble_eq_true rfl) (c1  ) ?_
  show Bod _ _ _ _ [_] _ _ _
  refine Bod.ifF dc_405_45 rfl (k1_eq_F (k_ne 1 0 rfl rfl (by omega) (by omega) (by omega))) ?_
  refine Bod.go dc_405_48 rfl ?_
  refine Bod.go dc_405_49 rfl ?_
  refine Bod.ic 1 (by decide) dc_405_50 ?_
  refine Bod.virt (r := []) dc_405_51 kr_405_683 ⟨Or.inl rfl, ow_363, cl_14⟩ (by rw [np_363]; rfl) (by rw [np_363]; rfl) (ob_of (mk_61 _)) (Nat.le_of_ble_eq_true rfl) (c2  ) ?_
  show Bod _ _ _ _ [_] _ _ _
  refine Bod.ifT dc_405_54 rfl (k1_eq_T (k_eq 0 0 rfl rfl (by omega))) ?_
  refine Bod.go dc_405_64 rfl ?_
  refine Bod.get dc_405_65 fr_405_496 (mk_61 _) rfl ?_
  refine Bod.go dc_405_68 rfl ?_
  refine Bod.ialdN x rfl (by omega) (by omega) dc_405_69 (mk_91 _) ?_
  refine Bod.eqI (nI e911) (by first | assumption | (simp (disch := omega) only [rI, rIe, rA, rIA, rLA, rJA, rVI, rQI, rVA, rQA, upd_at,  rAI, rLI, rJI, nI_add, pk_sub, kc_0, kc_1, kc_2, kc_3, kc_4, kc_5, reduceIte, Nat.reduceEqDiff, Nat.add_zero, rI_hold, rI_hold, rL_hold, he91, he911]; done) | (simp (disch := omega) only [rI, rIe, rA, rIA, rLA, rJA, rVI, rQI, rVA, rQA, upd_at,  rAI, rLI, rJI, nI_add, pk_sub, kc_0, kc_1, kc_2, kc_3, kc_4, kc_5, reduceIte, Nat.reduceEqDiff, Nat.add_zero, rI_hold, rI_hold, rL_hold, he91, he911]; exact congrArg nI (by omega))) ?_
  refine Bod.ic 1 (by decide) dc_405_70 ?_
  refine Bod.icF dc_405_71 rfl (k2_ne_F (k_eq e911 1 rfl rfl (by omega))) ?_
  refine Bod.go dc_405_74 rfl ?_
  refine Bod.get dc_405_75 fr_405_496 (mk_61 _) rfl ?_
  refine Bod.go dc_405_78 rfl ?_
  refine Bod.ialdN y rfl (by omega) (by omega) dc_405_79 (mk_91 _) ?_
  refine Bod.eqI (nI e912) (by first | assumption | (simp (disch := omega) only [rI, rIe, rA, rIA, rLA, rJA, rVI, rQI, rVA, rQA, upd_at,  rAI, rLI, rJI, nI_add, pk_sub, kc_0, kc_1, kc_2, kc_3, kc_4, kc_5, reduceIte, Nat.reduceEqDiff, Nat.add_zero, rI_hold, rI_hold, rL_hold, he91, he911, he912]; done) | (simp (disch := omega) only [rI, rIe, rA, rIA, rLA, rJA, rVI, rQI, rVA, rQA, upd_at,  rAI, rLI, rJI, nI_add, pk_sub, kc_0, kc_1, kc_2, kc_3, kc_4, kc_5, reduceIte, Nat.reduceEqDiff, Nat.add_zero, rI_hold, rI_hold, rL_hold, he91, he911, he912]; exact congrArg nI (by omega))) ?_
  refine Bod.ic 1 (by decide) dc_405_80 ?_
  refine Bod.icT dc_405_81 rfl (k2_eq_T (k_eq e912 1 rfl rfl (by omega))) ?_
  refine Bod.go dc_405_90 rfl ?_
  refine Bod.get dc_405_91 fr_405_499 (mk_61 _) rfl ?_
  refine Bod.go dc_405_94 rfl ?_
  refine Bod.laldN x rfl (by omega) (by omega) dc_405_95 (mk_92 _) ?_
  refine Bod.lst dc_405_96 (by rw [ml_405]; exact Nat.le_of_ble_eq_true rfl) ?_
  refine Bod.go dc_405_98 rfl ?_
  refine Bod.get dc_405_99 fr_405_499 (mk_61 _) rfl ?_
  refine Bod.go dc_405_102 rfl ?_
  refine Bod.laldN y rfl (by omega) (by omega) dc_405_103 (mk_92 _) ?_
  refine Bod.lst dc_405_104 (by rw [ml_405]; exact Nat.le_of_ble_eq_true rfl) ?_
  refine Bod.go dc_405_106 rfl ?_
  refine Bod.sw (t := 156) dc_405_107 rfl rfl (by decide +kernel) ?_
  refine Bod.go dc_405_156 rfl ?_
  refine Bod.go dc_405_158 rfl ?_
  refine Bod.go dc_405_160 rfl ?_
  refine Bod.lst dc_405_161 (by rw [ml_405]; exact Nat.le_of_ble_eq_true rfl) ?_
  refine Bod.go dc_405_163 rfl ?_
  refine Bod.go dc_405_165 rfl ?_
  refine Bod.go dc_405_167 rfl ?_
  refine Bod.go dc_405_168 rfl ?_
  refine Bod.go dc_405_170 rfl ?_
  refine Bod.go dc_405_172 rfl ?_
  refine Bod.go dc_405_173 rfl ?_
  refine Bod.go dc_405_174 rfl ?_
  refine Bod.go dc_405_175 rfl ?_
  refine Bod.ifT dc_405_176 rfl w16 ?_
  refine Bod.go dc_405_331 rfl ?_
  refine Bod.go dc_405_332 rfl ?_
  refine Bod.get dc_405_333 fr_405_493 (mk_61 _) rfl ?_
  refine Bod.eqI (nI t) (by first | assumption | (simp (disch := omega) only [rI, rIe, rA, rIA, rLA, rJA, rVI, rQI, rVA, rQA, upd_at,  rAI, rLI, rJI, nI_add, pk_sub, kc_0, kc_1, kc_2, kc_3, kc_4, kc_5, reduceIte, Nat.reduceEqDiff, Nat.add_zero, rI_hold, rI_hold, rL_hold, he91, he911, he912, ht]; done) | (simp (disch := omega) only [rI, rIe, rA, rIA, rLA, rJA, rVI, rQI, rVA, rQA, upd_at,  rAI, rLI, rJI, nI_add, pk_sub, kc_0, kc_1, kc_2, kc_3, kc_4, kc_5, reduceIte, Nat.reduceEqDiff, Nat.add_zero, rI_hold, rI_hold, rL_hold, he91, he911, he912, ht]; exact congrArg nI (by omega))) ?_
  refine Bod.ic 2 (by decide) dc_405_336 ?_
  refine Bod.subN (t - 2) (by omega) (by omega) dc_405_337 ?_
  refine Bod.put dc_405_338 fr_405_493 (mk_61 _) (Nat.le_of_ble_eq_true rfl) pf_14_51 (st_6151 _ _) (mu_I _ _ _) ?_
  refine Bod.go dc_405_341 rfl ?_
  refine Bod.go dc_405_342 rfl ?_
  refine Bod.virt (r := []) dc_405_344 kr_405_613 ⟨Or.inl rfl, ow_353, cl_14⟩ (by rw [np_353]; rfl) (by rw [np_353]; rfl) (ob_of (mk_61 _)) (Nat.le_of_ble_eq_true rfl) (c3  ) ?_
  show Bod _ _ _ _ [] _ _ _
  refine Bod.ic 1 (by decide) dc_405_347 ?_
  exact Bod.retZ dc_405_348 rt_405 (Or.inr rfl)
theorem rRkA_5 {d : Nat} {S : cS} {x : Nat} {y : Nat} {e91 : Nat} {S1 : cS} {S2 : cS} {e911 : Nat} {e912 : Nat} {S3 : cS} (mx : x < 2 ^ 20) (my : y < 2 ^ 20) (b1 : x < 20480) (he91 : sA S 91 x = nI e91) (me91 : e91 < 2 ^ 20) (b2 : e91 ≠ 2) (c1 : Ans (d + 8) 363 [.ref 61, .int (nI x), .int (nI 1)] S (some (.int (nI 1))) S1) (c2 : Ans (d + 8) 363 [.ref 61, .int (nI y), .int (nI 1)] S1 (some (.int (nI 0))) S2) (he911 : sA S2 91 x = nI e911) (me911 : e911 < 2 ^ 20) (b3 : e911 = 1) (b4 : y < 20480) (he912 : sA S2 91 y = nI e912) (me912 : e912 < 2 ^ 20) (b5 : e912 = 1) (w16 : sm_c1 .ge (lg_cmp (((sL S2 92 x) ^^^ ((sL S2 92 x) + (sL S2 92 y))) &&& ((sL S2 92 y) ^^^ ((sL S2 92 x) + (sL S2 92 y)))) 0) true false = false) (c3 : Ans (d + 8) 351 [.ref 61, .int (nI 6)] S2 (some (.int (nI 0))) S3) : Bod (d + 8) 405 0 [(0, .ref 61), (1, .int (nI 43)), (2, .int (nI x)), (3, .int (nI y))] [] S (some (.int 0)) (S3) := by
  refine Bod.go dc_405_0 rfl ?_
  refine Bod.bip 43 (by decide) dc_405_1 ?_
  refine Bod.icF dc_405_3 rfl (k2_ne_F (k_eq 43 43 rfl rfl (by omega))) ?_
  refine Bod.go dc_405_6 rfl ?_
  refine Bod.get dc_405_7 fr_405_496 (mk_61 _) rfl ?_
  refine Bod.go dc_405_10 rfl ?_
  refine Bod.ialdN x rfl (by omega) (by omega) dc_405_11 (mk_91 _) ?_
  refine Bod.eqI (nI e91) (by first | assumption | rfl | exact congrArg nI (by omega) | (simp (disch := omega) only [rI, rIe, rA, rIA, rLA, rJA, rVI, rQI, rVA, rQA, upd_at,  rAI, rLI, rJI, nI_add, pk_sub, kc_0, kc_1, kc_2, kc_3, kc_4, kc_5, reduceIte, Nat.reduceEqDiff, Nat.add_zero, rI_hold, rI_hold, rL_hold, he91]; done)) ?_
  refine Bod.ic 2 (by decide) dc_405_12 ?_
  refine Bod.icT dc_405_13 rfl (k2_ne_T (k_ne e91 2 rfl rfl (by omega) (by omega) (by omega))) ?_
  refine Bod.go dc_405_33 rfl ?_
  refine Bod.bip 43 (by decide) dc_405_34 ?_
  refine Bod.icF dc_405_36 rfl (k2_ne_F (k_eq 43 43 rfl rfl (by omega))) ?_
  refine Bod.go dc_405_39 rfl ?_
  refine Bod.go dc_405_40 rfl ?_
  refine Bod.ic 1 (by decide) dc_405_41 ?_
  refine Bod.virt (r := []) dc_405_42 kr_405_683 ⟨Or.inl rfl, ow_363, cl_14⟩ (by rw [np_363]; rfl) (by rw [np_363]; rfl) (ob_of (mk_61 _)) (Nat.le_of_ble_eq_true rfl) (c1  ) ?_
  show Bod _ _ _ _ [_] _ _ _
  refine Bod.ifF dc_405_45 rfl (k1_eq_F (k_ne 1 0 rfl rfl (by omega) (by omega) (by omega))) ?_
  refine Bod.go dc_405_48 rfl ?_
  refine Bod.go dc_405_49 rfl ?_
  refine Bod.ic 1 (by decide) dc_405_50 ?_
  refine Bod.virt (r := []) dc_405_51 kr_405_683 ⟨Or.inl rfl, ow_363, cl_14⟩ (by rw [np_363]; rfl) (by rw [np_363]; rfl) (ob_of (mk_61 _)) (Nat.le_of_ble_eq_true rfl) (c2  ) ?_
  show Bod _ _ _ _ [_] _ _ _
  refine Bod.ifT dc_405_54 rfl (k1_eq_T (k_eq 0 0 rfl rfl (by omega))) ?_
  refine Bod.go dc_405_64 rfl ?_
  refine Bod.get dc_405_65 fr_405_496 (mk_61 _) rfl ?_
  refine Bod.go dc_405_68 rfl ?_
  refine Bod.ialdN x rfl (by omega) (by omega) dc_405_69 (mk_91 _) ?_
  refine Bod.eqI (nI e911) (by first | assumption | (simp (disch := omega) only [rI, rIe, rA, rIA, rLA, rJA, rVI, rQI, rVA, rQA, upd_at,  rAI, rLI, rJI, nI_add, pk_sub, kc_0, kc_1, kc_2, kc_3, kc_4, kc_5, reduceIte, Nat.reduceEqDiff, Nat.add_zero, rI_hold, rI_hold, rL_hold, he91, he911]; done) | (simp (disch := omega) only [rI, rIe, rA, rIA, rLA, rJA, rVI, rQI, rVA, rQA, upd_at,  rAI, rLI, rJI, nI_add, pk_sub, kc_0, kc_1, kc_2, kc_3, kc_4, kc_5, reduceIte, Nat.reduceEqDiff, Nat.add_zero, rI_hold, rI_hold, rL_hold, he91, he911]; exact congrArg nI (by omega))) ?_
  refine Bod.ic 1 (by decide) dc_405_70 ?_
  refine Bod.icF dc_405_71 rfl (k2_ne_F (k_eq e911 1 rfl rfl (by omega))) ?_
  refine Bod.go dc_405_74 rfl ?_
  refine Bod.get dc_405_75 fr_405_496 (mk_61 _) rfl ?_
  refine Bod.go dc_405_78 rfl ?_
  refine Bod.ialdN y rfl (by omega) (by omega) dc_405_79 (mk_91 _) ?_
  refine Bod.eqI (nI e912) (by first | assumption | (simp (disch := omega) only [rI, rIe, rA, rIA, rLA, rJA, rVI, rQI, rVA, rQA, upd_at,  rAI, rLI, rJI, nI_add, pk_sub, kc_0, kc_1, kc_2, kc_3, kc_4, kc_5, reduceIte, Nat.reduceEqDiff, Nat.add_zero, rI_hold, rI_hold, rL_hold, he91, he911, he912]; done) | (simp (disch := omega) only [rI, rIe, rA, rIA, rLA, rJA, rVI, rQI, rVA, rQA, upd_at,  rAI, rLI, rJI, nI_add, pk_sub, kc_0, kc_1, kc_2, kc_3, kc_4, kc_5, reduceIte, Nat.reduceEqDiff, Nat.add_zero, rI_hold, rI_hold, rL_hold, he91, he911, he912]; exact congrArg nI (by omega))) ?_
  refine Bod.ic 1 (by decide) dc_405_80 ?_
  refine Bod.icT dc_405_81 rfl (k2_eq_T (k_eq e912 1 rfl rfl (by omega))) ?_
  refine Bod.go dc_405_90 rfl ?_
  refine Bod.get dc_405_91 fr_405_499 (mk_61 _) rfl ?_
  refine Bod.go dc_405_94 rfl ?_
  refine Bod.laldN x rfl (by omega) (by omega) dc_405_95 (mk_92 _) ?_
  refine Bod.lst dc_405_96 (by rw [ml_405]; exact Nat.le_of_ble_eq_true rfl) ?_
  refine Bod.go dc_405_98 rfl ?_
  refine Bod.get dc_405_99 fr_405_499 (mk_61 _) rfl ?_
  refine Bod.go dc_405_102 rfl ?_
  refine Bod.laldN y rfl (by omega) (by omega) dc_405_103 (mk_92 _) ?_
  refine Bod.lst dc_405_104 (by rw [ml_405]; exact Nat.le_of_ble_eq_true rfl) ?_
  refine Bod.go dc_405_106 rfl ?_
  refine Bod.sw (t := 156) dc_405_107 rfl rfl (by decide +kernel) ?_
  refine Bod.go dc_405_156 rfl ?_
  refine Bod.go dc_405_158 rfl ?_
  refine Bod.go dc_405_160 rfl ?_
  refine Bod.lst dc_405_161 (by rw [ml_405]; exact Nat.le_of_ble_eq_true rfl) ?_
  refine Bod.go dc_405_163 rfl ?_
  refine Bod.go dc_405_165 rfl ?_
  refine Bod.go dc_405_167 rfl ?_
  refine Bod.go dc_405_168 rfl ?_
  refine Bod.go dc_405_170 rfl ?_
  refine Bod.go dc_405_172 rfl ?_
  refine Bod.go dc_405_173 rfl ?_
  refine Bod.go dc_405_174 rfl ?_
  refine Bod.go dc_405_175 rfl ?_
  refine Bod.ifF dc_405_176 rfl w16 ?_
  refine Bod.go dc_405_179 rfl ?_
  refine Bod.bip 6 (by decide) dc_405_180 ?_
  refine Bod.virt (r := []) dc_405_182 kr_405_608 ⟨Or.inl rfl, ow_351, cl_14⟩ (by rw [np_351]; rfl) (by rw [np_351]; rfl) (ob_of (mk_61 _)) (Nat.le_of_ble_eq_true rfl) (c3  ) ?_
  show Bod _ _ _ _ [_] _ _ _
  exact Bod.retZ dc_405_185 rt_405 (Or.inl rfl)
theorem rRkA_6 {d : Nat} {S : cS} {x : Nat} {y : Nat} {e91 : Nat} {S1 : cS} {S2 : cS} {e911 : Nat} {e912 : Nat} {S3 : cS} (mx : x < 2 ^ 20) (my : y < 2 ^ 20) (b1 : x < 20480) (he91 : sA S 91 x = nI e91) (me91 : e91 < 2 ^ 20) (b2 : e91 ≠ 2) (c1 : Ans (d + 8) 363 [.ref 61, .int (nI x), .int (nI 1)] S (some (.int (nI 1))) S1) (c2 : Ans (d + 8) 363 [.ref 61, .int (nI y), .int (nI 1)] S1 (some (.int (nI 0))) S2) (he911 : sA S2 91 x = nI e911) (me911 : e911 < 2 ^ 20) (b3 : e911 = 1) (b4 : y < 20480) (he912 : sA S2 91 y = nI e912) (me912 : e912 < 2 ^ 20) (b5 : e912 ≠ 1) (c3 : Ans (d + 8) 351 [.ref 61, .int (nI 2)] S2 (some (.int (nI 0))) S3) : Bod (d + 8) 405 0 [(0, .ref 61), (1, .int (nI 43)), (2, .int (nI x)), (3, .int (nI y))] [] S (some (.int 0)) (S3) := by
  refine Bod.go dc_405_0 rfl ?_
  refine Bod.bip 43 (by decide) dc_405_1 ?_
  refine Bod.icF dc_405_3 rfl (k2_ne_F (k_eq 43 43 rfl rfl (by omega))) ?_
  refine Bod.go dc_405_6 rfl ?_
  refine Bod.get dc_405_7 fr_405_496 (mk_61 _) rfl ?_
  refine Bod.go dc_405_10 rfl ?_
  refine Bod.ialdN x rfl (by omega) (by omega) dc_405_11 (mk_91 _) ?_
  refine Bod.eqI (nI e91) (by first | assumption | rfl | exact congrArg nI (by omega) | (simp (disch := omega) only [rI, rIe, rA, rIA, rLA, rJA, rVI, rQI, rVA, rQA, upd_at,  rAI, rLI, rJI, nI_add, pk_sub, kc_0, kc_1, kc_2, kc_3, kc_4, kc_5, reduceIte, Nat.reduceEqDiff, Nat.add_zero, rI_hold, rI_hold, rL_hold, he91]; done)) ?_
  refine Bod.ic 2 (by decide) dc_405_12 ?_
  refine Bod.icT dc_405_13 rfl (k2_ne_T (k_ne e91 2 rfl rfl (by omega) (by omega) (by omega))) ?_
  refine Bod.go dc_405_33 rfl ?_
  refine Bod.bip 43 (by decide) dc_405_34 ?_
  refine Bod.icF dc_405_36 rfl (k2_ne_F (k_eq 43 43 rfl rfl (by omega))) ?_
  refine Bod.go dc_405_39 rfl ?_
  refine Bod.go dc_405_40 rfl ?_
  refine Bod.ic 1 (by decide) dc_405_41 ?_
  refine Bod.virt (r := []) dc_405_42 kr_405_683 ⟨Or.inl rfl, ow_363, cl_14⟩ (by rw [np_363]; rfl) (by rw [np_363]; rfl) (ob_of (mk_61 _)) (Nat.le_of_ble_eq_true rfl) (c1  ) ?_
  show Bod _ _ _ _ [_] _ _ _
  refine Bod.ifF dc_405_45 rfl (k1_eq_F (k_ne 1 0 rfl rfl (by omega) (by omega) (by omega))) ?_
  refine Bod.go dc_405_48 rfl ?_
  refine Bod.go dc_405_49 rfl ?_
  refine Bod.ic 1 (by decide) dc_405_50 ?_
  refine Bod.virt (r := []) dc_405_51 kr_405_683 ⟨Or.inl rfl, ow_363, cl_14⟩ (by rw [np_363]; rfl) (by rw [np_363]; rfl) (ob_of (mk_61 _)) (Nat.le_of_ble_eq_true rfl) (c2  ) ?_
  show Bod _ _ _ _ [_] _ _ _
  refine Bod.ifT dc_405_54 rfl (k1_eq_T (k_eq 0 0 rfl rfl (by omega))) ?_
  refine Bod.go dc_405_64 rfl ?_
  refine Bod.get dc_405_65 fr_405_496 (mk_61 _) rfl ?_
  refine Bod.go dc_405_68 rfl ?_
  refine Bod.ialdN x rfl (by omega) (by omega) dc_405_69 (mk_91 _) ?_
  refine Bod.eqI (nI e911) (by first | assumption | (simp (disch := omega) only [rI, rIe, rA, rIA, rLA, rJA, rVI, rQI, rVA, rQA, upd_at,  rAI, rLI, rJI, nI_add, pk_sub, kc_0, kc_1, kc_2, kc_3, kc_4, kc_5, reduceIte, Nat.reduceEqDiff, Nat.add_zero, rI_hold, rI_hold, rL_hold, he91, he911]; done) | (simp (disch := omega) only [rI, rIe, rA, rIA, rLA, rJA, rVI, rQI, rVA, rQA, upd_at,  rAI, rLI, rJI, nI_add, pk_sub, kc_0, kc_1, kc_2, kc_3, kc_4, kc_5, reduceIte, Nat.reduceEqDiff, Nat.add_zero, rI_hold, rI_hold, rL_hold, he91, he911]; exact congrArg nI (by omega))) ?_
  refine Bod.ic 1 (by decide) dc_405_70 ?_
  refine Bod.icF dc_405_71 rfl (k2_ne_F (k_eq e911 1 rfl rfl (by omega))) ?_
  refine Bod.go dc_405_74 rfl ?_
  refine Bod.get dc_405_75 fr_405_496 (mk_61 _) rfl ?_
  refine Bod.go dc_405_78 rfl ?_
  refine Bod.ialdN y rfl (by omega) (by omega) dc_405_79 (mk_91 _) ?_
  refine Bod.eqI (nI e912) (by first | assumption | (simp (disch := omega) only [rI, rIe, rA, rIA, rLA, rJA, rVI, rQI, rVA, rQA, upd_at,  rAI, rLI, rJI, nI_add, pk_sub, kc_0, kc_1, kc_2, kc_3, kc_4, kc_5, reduceIte, Nat.reduceEqDiff, Nat.add_zero, rI_hold, rI_hold, rL_hold, he91, he911, he912]; done) | (simp (disch := omega) only [rI, rIe, rA, rIA, rLA, rJA, rVI, rQI, rVA, rQA, upd_at,  rAI, rLI, rJI, nI_add, pk_sub, kc_0, kc_1, kc_2, kc_3, kc_4, kc_5, reduceIte, Nat.reduceEqDiff, Nat.add_zero, rI_hold, rI_hold, rL_hold, he91, he911, he912]; exact congrArg nI (by omega))) ?_
  refine Bod.ic 1 (by decide) dc_405_80 ?_
  refine Bod.icF dc_405_81 rfl (k2_eq_F (k_ne e912 1 rfl rfl (by omega) (by omega) (by omega))) ?_
  refine Bod.go dc_405_84 rfl ?_
  refine Bod.ic 2 (by decide) dc_405_85 ?_
  refine Bod.virt (r := []) dc_405_86 kr_405_608 ⟨Or.inl rfl, ow_351, cl_14⟩ (by rw [np_351]; rfl) (by rw [np_351]; rfl) (ob_of (mk_61 _)) (Nat.le_of_ble_eq_true rfl) (c3  ) ?_
  show Bod _ _ _ _ [_] _ _ _
  exact Bod.retZ dc_405_89 rt_405 (Or.inl rfl)
theorem rRkA_7 {d : Nat} {S : cS} {x : Nat} {y : Nat} {e91 : Nat} {S1 : cS} {e911 : Nat} {S2 : cS} (mx : x < 2 ^ 20) (my : y < 2 ^ 20) (b1 : x < 20480) (he91 : sA S 91 x = nI e91) (me91 : e91 < 2 ^ 20) (b2 : e91 ≠ 2) (c1 : Ans (d + 8) 363 [.ref 61, .int (nI x), .int (nI 1)] S (some (.int (nI 0))) S1) (he911 : sA S1 91 x = nI e911) (me911 : e911 < 2 ^ 20) (b3 : e911 ≠ 1) (c2 : Ans (d + 8) 351 [.ref 61, .int (nI 2)] S1 (some (.int (nI 0))) S2) : Bod (d + 8) 405 0 [(0, .ref 61), (1, .int (nI 43)), (2, .int (nI x)), (3, .int (nI y))] [] S (some (.int 0)) (S2) := by
  refine Bod.go dc_405_0 rfl ?_
  refine Bod.bip 43 (by decide) dc_405_1 ?_
  refine Bod.icF dc_405_3 rfl (k2_ne_F (k_eq 43 43 rfl rfl (by omega))) ?_
  refine Bod.go dc_405_6 rfl ?_
  refine Bod.get dc_405_7 fr_405_496 (mk_61 _) rfl ?_
  refine Bod.go dc_405_10 rfl ?_
  refine Bod.ialdN x rfl (by omega) (by omega) dc_405_11 (mk_91 _) ?_
  refine Bod.eqI (nI e91) (by first | assumption | rfl | exact congrArg nI (by omega) | (simp (disch := omega) only [rI, rIe, rA, rIA, rLA, rJA, rVI, rQI, rVA, rQA, upd_at,  rAI, rLI, rJI, nI_add, pk_sub, kc_0, kc_1, kc_2, kc_3, kc_4, kc_5, reduceIte, Nat.reduceEqDiff, Nat.add_zero, rI_hold, rI_hold, rL_hold, he91]; done)) ?_
  refine Bod.ic 2 (by decide) dc_405_12 ?_
  refine Bod.icT dc_405_13 rfl (k2_ne_T (k_ne e91 2 rfl rfl (by omega) (by omega) (by omega))) ?_
  refine Bod.go dc_405_33 rfl ?_
  refine Bod.bip 43 (by decide) dc_405_34 ?_
  refine Bod.icF dc_405_36 rfl (k2_ne_F (k_eq 43 43 rfl rfl (by omega))) ?_
  refine Bod.go dc_405_39 rfl ?_
  refine Bod.go dc_405_40 rfl ?_
  refine Bod.ic 1 (by decide) dc_405_41 ?_
  refine Bod.virt (r := []) dc_405_42 kr_405_683 ⟨Or.inl rfl, ow_363, cl_14⟩ (by rw [np_363]; rfl) (by rw [np_363]; rfl) (ob_of (mk_61 _)) (Nat.le_of_ble_eq_true rfl) (c1  ) ?_
  show Bod _ _ _ _ [_] _ _ _
  refine Bod.ifT dc_405_45 rfl (k1_eq_T (k_eq 0 0 rfl rfl (by omega))) ?_
  refine Bod.go dc_405_64 rfl ?_
  refine Bod.get dc_405_65 fr_405_496 (mk_61 _) rfl ?_
  refine Bod.go dc_405_68 rfl ?_
  refine Bod.ialdN x rfl (by omega) (by omega) dc_405_69 (mk_91 _) ?_
  refine Bod.eqI (nI e911) (by first | assumption | (simp (disch := omega) only [rI, rIe, rA, rIA, rLA, rJA, rVI, rQI, rVA, rQA, upd_at,  rAI, rLI, rJI, nI_add, pk_sub, kc_0, kc_1, kc_2, kc_3, kc_4, kc_5, reduceIte, Nat.reduceEqDiff, Nat.add_zero, rI_hold, rI_hold, rL_hold, he91, he911]; done) | (simp (disch := omega) only [rI, rIe, rA, rIA, rLA, rJA, rVI, rQI, rVA, rQA, upd_at,  rAI, rLI, rJI, nI_add, pk_sub, kc_0, kc_1, kc_2, kc_3, kc_4, kc_5, reduceIte, Nat.reduceEqDiff, Nat.add_zero, rI_hold, rI_hold, rL_hold, he91, he911]; exact congrArg nI (by omega))) ?_
  refine Bod.ic 1 (by decide) dc_405_70 ?_
  refine Bod.icT dc_405_71 rfl (k2_ne_T (k_ne e911 1 rfl rfl (by omega) (by omega) (by omega))) ?_
  refine Bod.go dc_405_84 rfl ?_
  refine Bod.ic 2 (by decide) dc_405_85 ?_
  refine Bod.virt (r := []) dc_405_86 kr_405_608 ⟨Or.inl rfl, ow_351, cl_14⟩ (by rw [np_351]; rfl) (by rw [np_351]; rfl) (ob_of (mk_61 _)) (Nat.le_of_ble_eq_true rfl) (c2  ) ?_
  show Bod _ _ _ _ [_] _ _ _
  exact Bod.retZ dc_405_89 rt_405 (Or.inl rfl)
theorem rRkA_8 {d : Nat} {S : cS} {x : Nat} {y : Nat} {e91 : Nat} {S1 : cS} {e911 : Nat} {e912 : Nat} {t : Nat} {S2 : cS} (mx : x < 2 ^ 20) (my : y < 2 ^ 20) (b1 : x < 20480) (he91 : sA S 91 x = nI e91) (me91 : e91 < 2 ^ 20) (b2 : e91 ≠ 2) (c1 : Ans (d + 8) 363 [.ref 61, .int (nI x), .int (nI 1)] S (some (.int (nI 0))) S1) (he911 : sA S1 91 x = nI e911) (me911 : e911 < 2 ^ 20) (b3 : e911 = 1) (b4 : y < 20480) (he912 : sA S1 91 y = nI e912) (me912 : e912 < 2 ^ 20) (b5 : e912 = 1) (w15 : sm_c1 .ge (lg_cmp (((sL S1 92 x) ^^^ ((sL S1 92 x) + (sL S1 92 y))) &&& ((sL S1 92 y) ^^^ ((sL S1 92 x) + (sL S1 92 y)))) 0) true false = true) (ht : sI S1 6151 = nI t) (mt : t < 20481) (b6 : 2 ≤ t) (c2 : Ans (d + 8) 353 [.ref 61, .long ((sL S1 92 x) + (sL S1 92 y))] (wI 6151 (nI (t - 2)) S1) none S2) : Bod (d + 8) 405 0 [(0, .ref 61), (1, .int (nI 43)), (2, .int (nI x)), (3, .int (nI y))] [] S (some (.int 1)) (S2) := by
  refine Bod.go dc_405_0 rfl ?_
  refine Bod.bip 43 (by decide) dc_405_1 ?_
  refine Bod.icF dc_405_3 rfl (k2_ne_F (k_eq 43 43 rfl rfl (by omega))) ?_
  refine Bod.go dc_405_6 rfl ?_
  refine Bod.get dc_405_7 fr_405_496 (mk_61 _) rfl ?_
  refine Bod.go dc_405_10 rfl ?_
  refine Bod.ialdN x rfl (by omega) (by omega) dc_405_11 (mk_91 _) ?_
  refine Bod.eqI (nI e91) (by first | assumption | rfl | exact congrArg nI (by omega) | (simp (disch := omega) only [rI, rIe, rA, rIA, rLA, rJA, rVI, rQI, rVA, rQA, upd_at,  rAI, rLI, rJI, nI_add, pk_sub, kc_0, kc_1, kc_2, kc_3, kc_4, kc_5, reduceIte, Nat.reduceEqDiff, Nat.add_zero, rI_hold, rI_hold, rL_hold, he91]; done)) ?_
  refine Bod.ic 2 (by decide) dc_405_12 ?_
  refine Bod.icT dc_405_13 rfl (k2_ne_T (k_ne e91 2 rfl rfl (by omega) (by omega) (by omega))) ?_
  refine Bod.go dc_405_33 rfl ?_
  refine Bod.bip 43 (by decide) dc_405_34 ?_
  refine Bod.icF dc_405_36 rfl (k2_ne_F (k_eq 43 43 rfl rfl (by omega))) ?_
  refine Bod.go dc_405_39 rfl ?_
  refine Bod.go dc_405_40 rfl ?_
  refine Bod.ic 1 (by decide) dc_405_41 ?_
  refine Bod.virt (r := []) dc_405_42 kr_405_683 ⟨Or.inl rfl, ow_363, cl_14⟩ (by rw [np_363]; rfl) (by rw [np_363]; rfl) (ob_of (mk_61 _)) (Nat.le_of_ble_eq_true rfl) (c1  ) ?_
  show Bod _ _ _ _ [_] _ _ _
  refine Bod.ifT dc_405_45 rfl (k1_eq_T (k_eq 0 0 rfl rfl (by omega))) ?_
  refine Bod.go dc_405_64 rfl ?_
  refine Bod.get dc_405_65 fr_405_496 (mk_61 _) rfl ?_
  refine Bod.go dc_405_68 rfl ?_
  refine Bod.ialdN x rfl (by omega) (by omega) dc_405_69 (mk_91 _) ?_
  refine Bod.eqI (nI e911) (by first | assumption | (simp (disch := omega) only [rI, rIe, rA, rIA, rLA, rJA, rVI, rQI, rVA, rQA, upd_at,  rAI, rLI, rJI, nI_add, pk_sub, kc_0, kc_1, kc_2, kc_3, kc_4, kc_5, reduceIte, Nat.reduceEqDiff, Nat.add_zero, rI_hold, rI_hold, rL_hold, he91, he911]; done) | (simp (disch := omega) only [rI, rIe, rA, rIA, rLA, rJA, rVI, rQI, rVA, rQA, upd_at,  rAI, rLI, rJI, nI_add, pk_sub, kc_0, kc_1, kc_2, kc_3, kc_4, kc_5, reduceIte, Nat.reduceEqDiff, Nat.add_zero, rI_hold, rI_hold, rL_hold, he91, he911]; exact congrArg nI (by omega))) ?_
  refine Bod.ic 1 (by decide) dc_405_70 ?_
  refine Bod.icF dc_405_71 rfl (k2_ne_F (k_eq e911 1 rfl rfl (by omega))) ?_
  refine Bod.go dc_405_74 rfl ?_
  refine Bod.get dc_405_75 fr_405_496 (mk_61 _) rfl ?_
  refine Bod.go dc_405_78 rfl ?_
  refine Bod.ialdN y rfl (by omega) (by omega) dc_405_79 (mk_91 _) ?_
  refine Bod.eqI (nI e912) (by first | assumption | (simp (disch := omega) only [rI, rIe, rA, rIA, rLA, rJA, rVI, rQI, rVA, rQA, upd_at,  rAI, rLI, rJI, nI_add, pk_sub, kc_0, kc_1, kc_2, kc_3, kc_4, kc_5, reduceIte, Nat.reduceEqDiff, Nat.add_zero, rI_hold, rI_hold, rL_hold, he91, he911, he912]; done) | (simp (disch := omega) only [rI, rIe, rA, rIA, rLA, rJA, rVI, rQI, rVA, rQA, upd_at,  rAI, rLI, rJI, nI_add, pk_sub, kc_0, kc_1, kc_2, kc_3, kc_4, kc_5, reduceIte, Nat.reduceEqDiff, Nat.add_zero, rI_hold, rI_hold, rL_hold, he91, he911, he912]; exact congrArg nI (by omega))) ?_
  refine Bod.ic 1 (by decide) dc_405_80 ?_
  refine Bod.icT dc_405_81 rfl (k2_eq_T (k_eq e912 1 rfl rfl (by omega))) ?_
  refine Bod.go dc_405_90 rfl ?_
  refine Bod.get dc_405_91 fr_405_499 (mk_61 _) rfl ?_
  refine Bod.go dc_405_94 rfl ?_
  refine Bod.laldN x rfl (by omega) (by omega) dc_405_95 (mk_92 _) ?_
  refine Bod.lst dc_405_96 (by rw [ml_405]; exact Nat.le_of_ble_eq_true rfl) ?_
  refine Bod.go dc_405_98 rfl ?_
  refine Bod.get dc_405_99 fr_405_499 (mk_61 _) rfl ?_
  refine Bod.go dc_405_102 rfl ?_
  refine Bod.laldN y rfl (by omega) (by omega) dc_405_103 (mk_92 _) ?_
  refine Bod.lst dc_405_104 (by rw [ml_405]; exact Nat.le_of_ble_eq_true rfl) ?_
  refine Bod.go dc_405_106 rfl ?_
  refine Bod.sw (t := 156) dc_405_107 rfl rfl (by decide +kernel) ?_
  refine Bod.go dc_405_156 rfl ?_
  refine Bod.go dc_405_158 rfl ?_
  refine Bod.go dc_405_160 rfl ?_
  refine Bod.lst dc_405_161 (by rw [ml_405]; exact Nat.le_of_ble_eq_true rfl) ?_
  refine Bod.go dc_405_163 rfl ?_
  refine Bod.go dc_405_165 rfl ?_
  refine Bod.go dc_405_167 rfl ?_
  refine Bod.go dc_405_168 rfl ?_
  refine Bod.go dc_405_170 rfl ?_
  refine Bod.go dc_405_172 rfl ?_
  refine Bod.go dc_405_173 rfl ?_
  refine Bod.go dc_405_174 rfl ?_
  refine Bod.go dc_405_175 rfl ?_
  refine Bod.ifT dc_405_176 rfl w15 ?_
  refine Bod.go dc_405_331 rfl ?_
  refine Bod.go dc_405_332 rfl ?_
  refine Bod.get dc_405_333 fr_405_493 (mk_61 _) rfl ?_
  refine Bod.eqI (nI t) (by first | assumption | (simp (disch := omega) only [rI, rIe, rA, rIA, rLA, rJA, rVI, rQI, rVA, rQA, upd_at,  rAI, rLI, rJI, nI_add, pk_sub, kc_0, kc_1, kc_2, kc_3, kc_4, kc_5, reduceIte, Nat.reduceEqDiff, Nat.add_zero, rI_hold, rI_hold, rL_hold, he91, he911, he912, ht]; done) | (simp (disch := omega) only [rI, rIe, rA, rIA, rLA, rJA, rVI, rQI, rVA, rQA, upd_at,  rAI, rLI, rJI, nI_add, pk_sub, kc_0, kc_1, kc_2, kc_3, kc_4, kc_5, reduceIte, Nat.reduceEqDiff, Nat.add_zero, rI_hold, rI_hold, rL_hold, he91, he911, he912, ht]; exact congrArg nI (by omega))) ?_
  refine Bod.ic 2 (by decide) dc_405_336 ?_
  refine Bod.subN (t - 2) (by omega) (by omega) dc_405_337 ?_
  refine Bod.put dc_405_338 fr_405_493 (mk_61 _) (Nat.le_of_ble_eq_true rfl) pf_14_51 (st_6151 _ _) (mu_I _ _ _) ?_
  refine Bod.go dc_405_341 rfl ?_
  refine Bod.go dc_405_342 rfl ?_
  refine Bod.virt (r := []) dc_405_344 kr_405_613 ⟨Or.inl rfl, ow_353, cl_14⟩ (by rw [np_353]; rfl) (by rw [np_353]; rfl) (ob_of (mk_61 _)) (Nat.le_of_ble_eq_true rfl) (c2  ) ?_
  show Bod _ _ _ _ [] _ _ _
  refine Bod.ic 1 (by decide) dc_405_347 ?_
  exact Bod.retZ dc_405_348 rt_405 (Or.inr rfl)
theorem rRkA_9 {d : Nat} {S : cS} {x : Nat} {y : Nat} {e91 : Nat} {S1 : cS} {e911 : Nat} {e912 : Nat} {S2 : cS} (mx : x < 2 ^ 20) (my : y < 2 ^ 20) (b1 : x < 20480) (he91 : sA S 91 x = nI e91) (me91 : e91 < 2 ^ 20) (b2 : e91 ≠ 2) (c1 : Ans (d + 8) 363 [.ref 61, .int (nI x), .int (nI 1)] S (some (.int (nI 0))) S1) (he911 : sA S1 91 x = nI e911) (me911 : e911 < 2 ^ 20) (b3 : e911 = 1) (b4 : y < 20480) (he912 : sA S1 91 y = nI e912) (me912 : e912 < 2 ^ 20) (b5 : e912 = 1) (w15 : sm_c1 .ge (lg_cmp (((sL S1 92 x) ^^^ ((sL S1 92 x) + (sL S1 92 y))) &&& ((sL S1 92 y) ^^^ ((sL S1 92 x) + (sL S1 92 y)))) 0) true false = false) (c2 : Ans (d + 8) 351 [.ref 61, .int (nI 6)] S1 (some (.int (nI 0))) S2) : Bod (d + 8) 405 0 [(0, .ref 61), (1, .int (nI 43)), (2, .int (nI x)), (3, .int (nI y))] [] S (some (.int 0)) (S2) := by
  refine Bod.go dc_405_0 rfl ?_
  refine Bod.bip 43 (by decide) dc_405_1 ?_
  refine Bod.icF dc_405_3 rfl (k2_ne_F (k_eq 43 43 rfl rfl (by omega))) ?_
  refine Bod.go dc_405_6 rfl ?_
  refine Bod.get dc_405_7 fr_405_496 (mk_61 _) rfl ?_
  refine Bod.go dc_405_10 rfl ?_
  refine Bod.ialdN x rfl (by omega) (by omega) dc_405_11 (mk_91 _) ?_
  refine Bod.eqI (nI e91) (by first | assumption | rfl | exact congrArg nI (by omega) | (simp (disch := omega) only [rI, rIe, rA, rIA, rLA, rJA, rVI, rQI, rVA, rQA, upd_at,  rAI, rLI, rJI, nI_add, pk_sub, kc_0, kc_1, kc_2, kc_3, kc_4, kc_5, reduceIte, Nat.reduceEqDiff, Nat.add_zero, rI_hold, rI_hold, rL_hold, he91]; done)) ?_
  refine Bod.ic 2 (by decide) dc_405_12 ?_
  refine Bod.icT dc_405_13 rfl (k2_ne_T (k_ne e91 2 rfl rfl (by omega) (by omega) (by omega))) ?_
  refine Bod.go dc_405_33 rfl ?_
  refine Bod.bip 43 (by decide) dc_405_34 ?_
  refine Bod.icF dc_405_36 rfl (k2_ne_F (k_eq 43 43 rfl rfl (by omega))) ?_
  refine Bod.go dc_405_39 rfl ?_
  refine Bod.go dc_405_40 rfl ?_
  refine Bod.ic 1 (by decide) dc_405_41 ?_
  refine Bod.virt (r := []) dc_405_42 kr_405_683 ⟨Or.inl rfl, ow_363, cl_14⟩ (by rw [np_363]; rfl) (by rw [np_363]; rfl) (ob_of (mk_61 _)) (Nat.le_of_ble_eq_true rfl) (c1  ) ?_
  show Bod _ _ _ _ [_] _ _ _
  refine Bod.ifT dc_405_45 rfl (k1_eq_T (k_eq 0 0 rfl rfl (by omega))) ?_
  refine Bod.go dc_405_64 rfl ?_
  refine Bod.get dc_405_65 fr_405_496 (mk_61 _) rfl ?_
  refine Bod.go dc_405_68 rfl ?_
  refine Bod.ialdN x rfl (by omega) (by omega) dc_405_69 (mk_91 _) ?_
  refine Bod.eqI (nI e911) (by first | assumption | (simp (disch := omega) only [rI, rIe, rA, rIA, rLA, rJA, rVI, rQI, rVA, rQA, upd_at,  rAI, rLI, rJI, nI_add, pk_sub, kc_0, kc_1, kc_2, kc_3, kc_4, kc_5, reduceIte, Nat.reduceEqDiff, Nat.add_zero, rI_hold, rI_hold, rL_hold, he91, he911]; done) | (simp (disch := omega) only [rI, rIe, rA, rIA, rLA, rJA, rVI, rQI, rVA, rQA, upd_at,  rAI, rLI, rJI, nI_add, pk_sub, kc_0, kc_1, kc_2, kc_3, kc_4, kc_5, reduceIte, Nat.reduceEqDiff, Nat.add_zero, rI_hold, rI_hold, rL_hold, he91, he911]; exact congrArg nI (by omega))) ?_
  refine Bod.ic 1 (by decide) dc_405_70 ?_
  refine Bod.icF dc_405_71 rfl (k2_ne_F (k_eq e911 1 rfl rfl (by omega))) ?_
  refine Bod.go dc_405_74 rfl ?_
  refine Bod.get dc_405_75 fr_405_496 (mk_61 _) rfl ?_
  refine Bod.go dc_405_78 rfl ?_
  refine Bod.ialdN y rfl (by omega) (by omega) dc_405_79 (mk_91 _) ?_
  refine Bod.eqI (nI e912) (by first | assumption | (simp (disch := omega) only [rI, rIe, rA, rIA, rLA, rJA, rVI, rQI, rVA, rQA, upd_at,  rAI, rLI, rJI, nI_add, pk_sub, kc_0, kc_1, kc_2, kc_3, kc_4, kc_5, reduceIte, Nat.reduceEqDiff, Nat.add_zero, rI_hold, rI_hold, rL_hold, he91, he911, he912]; done) | (simp (disch := omega) only [rI, rIe, rA, rIA, rLA, rJA, rVI, rQI, rVA, rQA, upd_at,  rAI, rLI, rJI, nI_add, pk_sub, kc_0, kc_1, kc_2, kc_3, kc_4, kc_5, reduceIte, Nat.reduceEqDiff, Nat.add_zero, rI_hold, rI_hold, rL_hold, he91, he911, he912]; exact congrArg nI (by omega))) ?_
  refine Bod.ic 1 (by decide) dc_405_80 ?_
  refine Bod.icT dc_405_81 rfl (k2_eq_T (k_eq e912 1 rfl rfl (by omega))) ?_
  refine Bod.go dc_405_90 rfl ?_
  refine Bod.get dc_405_91 fr_405_499 (mk_61 _) rfl ?_
  refine Bod.go dc_405_94 rfl ?_
  refine Bod.laldN x rfl (by omega) (by omega) dc_405_95 (mk_92 _) ?_
  refine Bod.lst dc_405_96 (by rw [ml_405]; exact Nat.le_of_ble_eq_true rfl) ?_
  refine Bod.go dc_405_98 rfl ?_
  refine Bod.get dc_405_99 fr_405_499 (mk_61 _) rfl ?_
  refine Bod.go dc_405_102 rfl ?_
  refine Bod.laldN y rfl (by omega) (by omega) dc_405_103 (mk_92 _) ?_
  refine Bod.lst dc_405_104 (by rw [ml_405]; exact Nat.le_of_ble_eq_true rfl) ?_
  refine Bod.go dc_405_106 rfl ?_
  refine Bod.sw (t := 156) dc_405_107 rfl rfl (by decide +kernel) ?_
  refine Bod.go dc_405_156 rfl ?_
  refine Bod.go dc_405_158 rfl ?_
  refine Bod.go dc_405_160 rfl ?_
  refine Bod.lst dc_405_161 (by rw [ml_405]; exact Nat.le_of_ble_eq_true rfl) ?_
  refine Bod.go dc_405_163 rfl ?_
  refine Bod.go dc_405_165 rfl ?_
  refine Bod.go dc_405_167 rfl ?_
  refine Bod.go dc_405_168 rfl ?_
  refine Bod.go dc_405_170 rfl ?_
  refine Bod.go dc_405_172 rfl ?_
  refine Bod.go dc_405_173 rfl ?_
  refine Bod.go dc_405_174 rfl ?_
  refine Bod.go dc_405_175 rfl ?_
  refine Bod.ifF dc_405_176 rfl w15 ?_
  refine Bod.go dc_405_179 rfl ?_
  refine Bod.bip 6 (by decide) dc_405_180 ?_
  refine Bod.virt (r := []) dc_405_182 kr_405_608 ⟨Or.inl rfl, ow_351, cl_14⟩ (by rw [np_351]; rfl) (by rw [np_351]; rfl) (ob_of (mk_61 _)) (Nat.le_of_ble_eq_true rfl) (c2  ) ?_
  show Bod _ _ _ _ [_] _ _ _
  exact Bod.retZ dc_405_185 rt_405 (Or.inl rfl)
theorem rRkA_10 {d : Nat} {S : cS} {x : Nat} {y : Nat} {e91 : Nat} {S1 : cS} {e911 : Nat} {e912 : Nat} {S2 : cS} (mx : x < 2 ^ 20) (my : y < 2 ^ 20) (b1 : x < 20480) (he91 : sA S 91 x = nI e91) (me91 : e91 < 2 ^ 20) (b2 : e91 ≠ 2) (c1 : Ans (d + 8) 363 [.ref 61, .int (nI x), .int (nI 1)] S (some (.int (nI 0))) S1) (he911 : sA S1 91 x = nI e911) (me911 : e911 < 2 ^ 20) (b3 : e911 = 1) (b4 : y < 20480) (he912 : sA S1 91 y = nI e912) (me912 : e912 < 2 ^ 20) (b5 : e912 ≠ 1) (c2 : Ans (d + 8) 351 [.ref 61, .int (nI 2)] S1 (some (.int (nI 0))) S2) : Bod (d + 8) 405 0 [(0, .ref 61), (1, .int (nI 43)), (2, .int (nI x)), (3, .int (nI y))] [] S (some (.int 0)) (S2) := by
  refine Bod.go dc_405_0 rfl ?_
  refine Bod.bip 43 (by decide) dc_405_1 ?_
  refine Bod.icF dc_405_3 rfl (k2_ne_F (k_eq 43 43 rfl rfl (by omega))) ?_
  refine Bod.go dc_405_6 rfl ?_
  refine Bod.get dc_405_7 fr_405_496 (mk_61 _) rfl ?_
  refine Bod.go dc_405_10 rfl ?_
  refine Bod.ialdN x rfl (by omega) (by omega) dc_405_11 (mk_91 _) ?_
  refine Bod.eqI (nI e91) (by first | assumption | rfl | exact congrArg nI (by omega) | (simp (disch := omega) only [rI, rIe, rA, rIA, rLA, rJA, rVI, rQI, rVA, rQA, upd_at,  rAI, rLI, rJI, nI_add, pk_sub, kc_0, kc_1, kc_2, kc_3, kc_4, kc_5, reduceIte, Nat.reduceEqDiff, Nat.add_zero, rI_hold, rI_hold, rL_hold, he91]; done)) ?_
  refine Bod.ic 2 (by decide) dc_405_12 ?_
  refine Bod.icT dc_405_13 rfl (k2_ne_T (k_ne e91 2 rfl rfl (by omega) (by omega) (by omega))) ?_
  refine Bod.go dc_405_33 rfl ?_
  refine Bod.bip 43 (by decide) dc_405_34 ?_
  refine Bod.icF dc_405_36 rfl (k2_ne_F (k_eq 43 43 rfl rfl (by omega))) ?_
  refine Bod.go dc_405_39 rfl ?_
  refine Bod.go dc_405_40 rfl ?_
  refine Bod.ic 1 (by decide) dc_405_41 ?_
  refine Bod.virt (r := []) dc_405_42 kr_405_683 ⟨Or.inl rfl, ow_363, cl_14⟩ (by rw [np_363]; rfl) (by rw [np_363]; rfl) (ob_of (mk_61 _)) (Nat.le_of_ble_eq_true rfl) (c1  ) ?_
  show Bod _ _ _ _ [_] _ _ _
  refine Bod.ifT dc_405_45 rfl (k1_eq_T (k_eq 0 0 rfl rfl (by omega))) ?_
  refine Bod.go dc_405_64 rfl ?_
  refine Bod.get dc_405_65 fr_405_496 (mk_61 _) rfl ?_
  refine Bod.go dc_405_68 rfl ?_
  refine Bod.ialdN x rfl (by omega) (by omega) dc_405_69 (mk_91 _) ?_
  refine Bod.eqI (nI e911) (by first | assumption | (simp (disch := omega) only [rI, rIe, rA, rIA, rLA, rJA, rVI, rQI, rVA, rQA, upd_at,  rAI, rLI, rJI, nI_add, pk_sub, kc_0, kc_1, kc_2, kc_3, kc_4, kc_5, reduceIte, Nat.reduceEqDiff, Nat.add_zero, rI_hold, rI_hold, rL_hold, he91, he911]; done) | (simp (disch := omega) only [rI, rIe, rA, rIA, rLA, rJA, rVI, rQI, rVA, rQA, upd_at,  rAI, rLI, rJI, nI_add, pk_sub, kc_0, kc_1, kc_2, kc_3, kc_4, kc_5, reduceIte, Nat.reduceEqDiff, Nat.add_zero, rI_hold, rI_hold, rL_hold, he91, he911]; exact congrArg nI (by omega))) ?_
  refine Bod.ic 1 (by decide) dc_405_70 ?_
  refine Bod.icF dc_405_71 rfl (k2_ne_F (k_eq e911 1 rfl rfl (by omega))) ?_
  refine Bod.go dc_405_74 rfl ?_
  refine Bod.get dc_405_75 fr_405_496 (mk_61 _) rfl ?_
  refine Bod.go dc_405_78 rfl ?_
  refine Bod.ialdN y rfl (by omega) (by omega) dc_405_79 (mk_91 _) ?_
  refine Bod.eqI (nI e912) (by first | assumption | (simp (disch := omega) only [rI, rIe, rA, rIA, rLA, rJA, rVI, rQI, rVA, rQA, upd_at,  rAI, rLI, rJI, nI_add, pk_sub, kc_0, kc_1, kc_2, kc_3, kc_4, kc_5, reduceIte, Nat.reduceEqDiff, Nat.add_zero, rI_hold, rI_hold, rL_hold, he91, he911, he912]; done) | (simp (disch := omega) only [rI, rIe, rA, rIA, rLA, rJA, rVI, rQI, rVA, rQA, upd_at,  rAI, rLI, rJI, nI_add, pk_sub, kc_0, kc_1, kc_2, kc_3, kc_4, kc_5, reduceIte, Nat.reduceEqDiff, Nat.add_zero, rI_hold, rI_hold, rL_hold, he91, he911, he912]; exact congrArg nI (by omega))) ?_
  refine Bod.ic 1 (by decide) dc_405_80 ?_
  refine Bod.icF dc_405_81 rfl (k2_eq_F (k_ne e912 1 rfl rfl (by omega) (by omega) (by omega))) ?_
  refine Bod.go dc_405_84 rfl ?_
  refine Bod.ic 2 (by decide) dc_405_85 ?_
  refine Bod.virt (r := []) dc_405_86 kr_405_608 ⟨Or.inl rfl, ow_351, cl_14⟩ (by rw [np_351]; rfl) (by rw [np_351]; rfl) (ob_of (mk_61 _)) (Nat.le_of_ble_eq_true rfl) (c2  ) ?_
  show Bod _ _ _ _ [_] _ _ _
  exact Bod.retZ dc_405_89 rt_405 (Or.inl rfl)
theorem rRkA_11 {d : Nat} {S : cS} {x : Nat} {y : Nat} {e91 : Nat} {e911 : Nat} {S1 : cS} {S2 : cS} {S3 : cS} (mx : x < 2 ^ 20) (my : y < 2 ^ 20) (b1 : x < 20480) (he91 : sA S 91 x = nI e91) (me91 : e91 < 2 ^ 20) (b2 : e91 = 2) (b3 : y < 20480) (he911 : sA S 91 y = nI e911) (me911 : e911 < 2 ^ 20) (b4 : e911 ≠ 2) (c1 : Ans (d + 8) 363 [.ref 61, .int (nI x), .int (nI 1)] S (some (.int (nI 1))) S1) (c2 : Ans (d + 8) 363 [.ref 61, .int (nI y), .int (nI 1)] S1 (some (.int (nI 1))) S2) (c3 : Ans (d + 8) 407 [.ref 61, .int (nI x), .int (nI y)] S2 (some (.int (nI 1))) S3) : Bod (d + 8) 405 0 [(0, .ref 61), (1, .int (nI 43)), (2, .int (nI x)), (3, .int (nI y))] [] S (some (.int 1)) (S3) := by
  refine Bod.go dc_405_0 rfl ?_
  refine Bod.bip 43 (by decide) dc_405_1 ?_
  refine Bod.icF dc_405_3 rfl (k2_ne_F (k_eq 43 43 rfl rfl (by omega))) ?_
  refine Bod.go dc_405_6 rfl ?_
  refine Bod.get dc_405_7 fr_405_496 (mk_61 _) rfl ?_
  refine Bod.go dc_405_10 rfl ?_
  refine Bod.ialdN x rfl (by omega) (by omega) dc_405_11 (mk_91 _) ?_
  refine Bod.eqI (nI e91) (by first | assumption | rfl | exact congrArg nI (by omega) | (simp (disch := omega) only [rI, rIe, rA, rIA, rLA, rJA, rVI, rQI, rVA, rQA, upd_at,  rAI, rLI, rJI, nI_add, pk_sub, kc_0, kc_1, kc_2, kc_3, kc_4, kc_5, reduceIte, Nat.reduceEqDiff, Nat.add_zero, rI_hold, rI_hold, rL_hold, he91]; done)) ?_
  refine Bod.ic 2 (by decide) dc_405_12 ?_
  refine Bod.icF dc_405_13 rfl (k2_ne_F (k_eq e91 2 rfl rfl (by omega))) ?_
  refine Bod.go dc_405_16 rfl ?_
  refine Bod.get dc_405_17 fr_405_496 (mk_61 _) rfl ?_
  refine Bod.go dc_405_20 rfl ?_
  refine Bod.ialdN y rfl (by omega) (by omega) dc_405_21 (mk_91 _) ?_
  refine Bod.eqI (nI e911) (by first | assumption | rfl | exact congrArg nI (by omega) | (simp (disch := omega) only [rI, rIe, rA, rIA, rLA, rJA, rVI, rQI, rVA, rQA, upd_at,  rAI, rLI, rJI, nI_add, pk_sub, kc_0, kc_1, kc_2, kc_3, kc_4, kc_5, reduceIte, Nat.reduceEqDiff, Nat.add_zero, rI_hold, rI_hold, rL_hold, he91, he911]; done)) ?_
  refine Bod.ic 2 (by decide) dc_405_22 ?_
  refine Bod.icT dc_405_23 rfl (k2_ne_T (k_ne e911 2 rfl rfl (by omega) (by omega) (by omega))) ?_
  refine Bod.go dc_405_33 rfl ?_
  refine Bod.bip 43 (by decide) dc_405_34 ?_
  refine Bod.icF dc_405_36 rfl (k2_ne_F (k_eq 43 43 rfl rfl (by omega))) ?_
  refine Bod.go dc_405_39 rfl ?_
  refine Bod.go dc_405_40 rfl ?_
  refine Bod.ic 1 (by decide) dc_405_41 ?_
  refine Bod.virt (r := []) dc_405_42 kr_405_683 ⟨Or.inl rfl, ow_363, cl_14⟩ (by rw [np_363]; rfl) (by rw [np_363]; rfl) (ob_of (mk_61 _)) (Nat.le_of_ble_eq_true rfl) (c1  ) ?_
  show Bod _ _ _ _ [_] _ _ _
  refine Bod.ifF dc_405_45 rfl (k1_eq_F (k_ne 1 0 rfl rfl (by omega) (by omega) (by omega))) ?_
  refine Bod.go dc_405_48 rfl ?_
  refine Bod.go dc_405_49 rfl ?_
  refine Bod.ic 1 (by decide) dc_405_50 ?_
  refine Bod.virt (r := []) dc_405_51 kr_405_683 ⟨Or.inl rfl, ow_363, cl_14⟩ (by rw [np_363]; rfl) (by rw [np_363]; rfl) (ob_of (mk_61 _)) (Nat.le_of_ble_eq_true rfl) (c2  ) ?_
  show Bod _ _ _ _ [_] _ _ _
  refine Bod.ifF dc_405_54 rfl (k1_eq_F (k_ne 1 0 rfl rfl (by omega) (by omega) (by omega))) ?_
  refine Bod.go dc_405_57 rfl ?_
  refine Bod.go dc_405_58 rfl ?_
  refine Bod.go dc_405_59 rfl ?_
  refine Bod.virt (r := []) dc_405_60 kr_405_737 ⟨Or.inl rfl, ow_407, cl_14⟩ (by rw [np_407]; rfl) (by rw [np_407]; rfl) (ob_of (mk_61 _)) (Nat.le_of_ble_eq_true rfl) (c3  ) ?_
  show Bod _ _ _ _ [_] _ _ _
  exact Bod.retZ dc_405_63 rt_405 (Or.inr rfl)
theorem rRkA_12 {d : Nat} {S : cS} {x : Nat} {y : Nat} {e91 : Nat} {e911 : Nat} {S1 : cS} {S2 : cS} {S3 : cS} (mx : x < 2 ^ 20) (my : y < 2 ^ 20) (b1 : x < 20480) (he91 : sA S 91 x = nI e91) (me91 : e91 < 2 ^ 20) (b2 : e91 = 2) (b3 : y < 20480) (he911 : sA S 91 y = nI e911) (me911 : e911 < 2 ^ 20) (b4 : e911 ≠ 2) (c1 : Ans (d + 8) 363 [.ref 61, .int (nI x), .int (nI 1)] S (some (.int (nI 1))) S1) (c2 : Ans (d + 8) 363 [.ref 61, .int (nI y), .int (nI 1)] S1 (some (.int (nI 1))) S2) (c3 : Ans (d + 8) 407 [.ref 61, .int (nI x), .int (nI y)] S2 (some (.int (nI 0))) S3) : Bod (d + 8) 405 0 [(0, .ref 61), (1, .int (nI 43)), (2, .int (nI x)), (3, .int (nI y))] [] S (some (.int 0)) (S3) := by
  refine Bod.go dc_405_0 rfl ?_
  refine Bod.bip 43 (by decide) dc_405_1 ?_
  refine Bod.icF dc_405_3 rfl (k2_ne_F (k_eq 43 43 rfl rfl (by omega))) ?_
  refine Bod.go dc_405_6 rfl ?_
  refine Bod.get dc_405_7 fr_405_496 (mk_61 _) rfl ?_
  refine Bod.go dc_405_10 rfl ?_
  refine Bod.ialdN x rfl (by omega) (by omega) dc_405_11 (mk_91 _) ?_
  refine Bod.eqI (nI e91) (by first | assumption | rfl | exact congrArg nI (by omega) | (simp (disch := omega) only [rI, rIe, rA, rIA, rLA, rJA, rVI, rQI, rVA, rQA, upd_at,  rAI, rLI, rJI, nI_add, pk_sub, kc_0, kc_1, kc_2, kc_3, kc_4, kc_5, reduceIte, Nat.reduceEqDiff, Nat.add_zero, rI_hold, rI_hold, rL_hold, he91]; done)) ?_
  refine Bod.ic 2 (by decide) dc_405_12 ?_
  refine Bod.icF dc_405_13 rfl (k2_ne_F (k_eq e91 2 rfl rfl (by omega))) ?_
  refine Bod.go dc_405_16 rfl ?_
  refine Bod.get dc_405_17 fr_405_496 (mk_61 _) rfl ?_
  refine Bod.go dc_405_20 rfl ?_
  refine Bod.ialdN y rfl (by omega) (by omega) dc_405_21 (mk_91 _) ?_
  refine Bod.eqI (nI e911) (by first | assumption | rfl | exact congrArg nI (by omega) | (simp (disch := omega) only [rI, rIe, rA, rIA, rLA, rJA, rVI, rQI, rVA, rQA, upd_at,  rAI, rLI, rJI, nI_add, pk_sub, kc_0, kc_1, kc_2, kc_3, kc_4, kc_5, reduceIte, Nat.reduceEqDiff, Nat.add_zero, rI_hold, rI_hold, rL_hold, he91, he911]; done)) ?_
  refine Bod.ic 2 (by decide) dc_405_22 ?_
  refine Bod.icT dc_405_23 rfl (k2_ne_T (k_ne e911 2 rfl rfl (by omega) (by omega) (by omega))) ?_
  refine Bod.go dc_405_33 rfl ?_
  refine Bod.bip 43 (by decide) dc_405_34 ?_
  refine Bod.icF dc_405_36 rfl (k2_ne_F (k_eq 43 43 rfl rfl (by omega))) ?_
  refine Bod.go dc_405_39 rfl ?_
  refine Bod.go dc_405_40 rfl ?_
  refine Bod.ic 1 (by decide) dc_405_41 ?_
  refine Bod.virt (r := []) dc_405_42 kr_405_683 ⟨Or.inl rfl, ow_363, cl_14⟩ (by rw [np_363]; rfl) (by rw [np_363]; rfl) (ob_of (mk_61 _)) (Nat.le_of_ble_eq_true rfl) (c1  ) ?_
  show Bod _ _ _ _ [_] _ _ _
  refine Bod.ifF dc_405_45 rfl (k1_eq_F (k_ne 1 0 rfl rfl (by omega) (by omega) (by omega))) ?_
  refine Bod.go dc_405_48 rfl ?_
  refine Bod.go dc_405_49 rfl ?_
  refine Bod.ic 1 (by decide) dc_405_50 ?_
  refine Bod.virt (r := []) dc_405_51 kr_405_683 ⟨Or.inl rfl, ow_363, cl_14⟩ (by rw [np_363]; rfl) (by rw [np_363]; rfl) (ob_of (mk_61 _)) (Nat.le_of_ble_eq_true rfl) (c2  ) ?_
  show Bod _ _ _ _ [_] _ _ _
  refine Bod.ifF dc_405_54 rfl (k1_eq_F (k_ne 1 0 rfl rfl (by omega) (by omega) (by omega))) ?_
  refine Bod.go dc_405_57 rfl ?_
  refine Bod.go dc_405_58 rfl ?_
  refine Bod.go dc_405_59 rfl ?_
  refine Bod.virt (r := []) dc_405_60 kr_405_737 ⟨Or.inl rfl, ow_407, cl_14⟩ (by rw [np_407]; rfl) (by rw [np_407]; rfl) (ob_of (mk_61 _)) (Nat.le_of_ble_eq_true rfl) (c3  ) ?_
  show Bod _ _ _ _ [_] _ _ _
  exact Bod.retZ dc_405_63 rt_405 (Or.inl rfl)
theorem rRkA_13 {d : Nat} {S : cS} {x : Nat} {y : Nat} {e91 : Nat} {e911 : Nat} {S1 : cS} {S2 : cS} {e912 : Nat} {S3 : cS} (mx : x < 2 ^ 20) (my : y < 2 ^ 20) (b1 : x < 20480) (he91 : sA S 91 x = nI e91) (me91 : e91 < 2 ^ 20) (b2 : e91 = 2) (b3 : y < 20480) (he911 : sA S 91 y = nI e911) (me911 : e911 < 2 ^ 20) (b4 : e911 ≠ 2) (c1 : Ans (d + 8) 363 [.ref 61, .int (nI x), .int (nI 1)] S (some (.int (nI 1))) S1) (c2 : Ans (d + 8) 363 [.ref 61, .int (nI y), .int (nI 1)] S1 (some (.int (nI 0))) S2) (he912 : sA S2 91 x = nI e912) (me912 : e912 < 2 ^ 20) (b5 : e912 ≠ 1) (c3 : Ans (d + 8) 351 [.ref 61, .int (nI 2)] S2 (some (.int (nI 0))) S3) : Bod (d + 8) 405 0 [(0, .ref 61), (1, .int (nI 43)), (2, .int (nI x)), (3, .int (nI y))] [] S (some (.int 0)) (S3) := by
  refine Bod.go dc_405_0 rfl ?_
  refine Bod.bip 43 (by decide) dc_405_1 ?_
  refine Bod.icF dc_405_3 rfl (k2_ne_F (k_eq 43 43 rfl rfl (by omega))) ?_
  refine Bod.go dc_405_6 rfl ?_
  refine Bod.get dc_405_7 fr_405_496 (mk_61 _) rfl ?_
  refine Bod.go dc_405_10 rfl ?_
  refine Bod.ialdN x rfl (by omega) (by omega) dc_405_11 (mk_91 _) ?_
  refine Bod.eqI (nI e91) (by first | assumption | rfl | exact congrArg nI (by omega) | (simp (disch := omega) only [rI, rIe, rA, rIA, rLA, rJA, rVI, rQI, rVA, rQA, upd_at,  rAI, rLI, rJI, nI_add, pk_sub, kc_0, kc_1, kc_2, kc_3, kc_4, kc_5, reduceIte, Nat.reduceEqDiff, Nat.add_zero, rI_hold, rI_hold, rL_hold, he91]; done)) ?_
  refine Bod.ic 2 (by decide) dc_405_12 ?_
  refine Bod.icF dc_405_13 rfl (k2_ne_F (k_eq e91 2 rfl rfl (by omega))) ?_
  refine Bod.go dc_405_16 rfl ?_
  refine Bod.get dc_405_17 fr_405_496 (mk_61 _) rfl ?_
  refine Bod.go dc_405_20 rfl ?_
  refine Bod.ialdN y rfl (by omega) (by omega) dc_405_21 (mk_91 _) ?_
  refine Bod.eqI (nI e911) (by first | assumption | rfl | exact congrArg nI (by omega) | (simp (disch := omega) only [rI, rIe, rA, rIA, rLA, rJA, rVI, rQI, rVA, rQA, upd_at,  rAI, rLI, rJI, nI_add, pk_sub, kc_0, kc_1, kc_2, kc_3, kc_4, kc_5, reduceIte, Nat.reduceEqDiff, Nat.add_zero, rI_hold, rI_hold, rL_hold, he91, he911]; done)) ?_
  refine Bod.ic 2 (by decide) dc_405_22 ?_
  refine Bod.icT dc_405_23 rfl (k2_ne_T (k_ne e911 2 rfl rfl (by omega) (by omega) (by omega))) ?_
  refine Bod.go dc_405_33 rfl ?_
  refine Bod.bip 43 (by decide) dc_405_34 ?_
  refine Bod.icF dc_405_36 rfl (k2_ne_F (k_eq 43 43 rfl rfl (by omega))) ?_
  refine Bod.go dc_405_39 rfl ?_
  refine Bod.go dc_405_40 rfl ?_
  refine Bod.ic 1 (by decide) dc_405_41 ?_
  refine Bod.virt (r := []) dc_405_42 kr_405_683 ⟨Or.inl rfl, ow_363, cl_14⟩ (by rw [np_363]; rfl) (by rw [np_363]; rfl) (ob_of (mk_61 _)) (Nat.le_of_ble_eq_true rfl) (c1  ) ?_
  show Bod _ _ _ _ [_] _ _ _
  refine Bod.ifF dc_405_45 rfl (k1_eq_F (k_ne 1 0 rfl rfl (by omega) (by omega) (by omega))) ?_
  refine Bod.go dc_405_48 rfl ?_
  refine Bod.go dc_405_49 rfl ?_
  refine Bod.ic 1 (by decide) dc_405_50 ?_
  refine Bod.virt (r := []) dc_405_51 kr_405_683 ⟨Or.inl rfl, ow_363, cl_14⟩ (by rw [np_363]; rfl) (by rw [np_363]; rfl) (ob_of (mk_61 _)) (Nat.le_of_ble_eq_true rfl) (c2  ) ?_
  show Bod _ _ _ _ [_] _ _ _
  refine Bod.ifT dc_405_54 rfl (k1_eq_T (k_eq 0 0 rfl rfl (by omega))) ?_
  refine Bod.go dc_405_64 rfl ?_
  refine Bod.get dc_405_65 fr_405_496 (mk_61 _) rfl ?_
  refine Bod.go dc_405_68 rfl ?_
  refine Bod.ialdN x rfl (by omega) (by omega) dc_405_69 (mk_91 _) ?_
  refine Bod.eqI (nI e912) (by first | assumption | (simp (disch := omega) only [rI, rIe, rA, rIA, rLA, rJA, rVI, rQI, rVA, rQA, upd_at,  rAI, rLI, rJI, nI_add, pk_sub, kc_0, kc_1, kc_2, kc_3, kc_4, kc_5, reduceIte, Nat.reduceEqDiff, Nat.add_zero, rI_hold, rI_hold, rL_hold, he91, he911, he912]; done) | (simp (disch := omega) only [rI, rIe, rA, rIA, rLA, rJA, rVI, rQI, rVA, rQA, upd_at,  rAI, rLI, rJI, nI_add, pk_sub, kc_0, kc_1, kc_2, kc_3, kc_4, kc_5, reduceIte, Nat.reduceEqDiff, Nat.add_zero, rI_hold, rI_hold, rL_hold, he91, he911, he912]; exact congrArg nI (by omega))) ?_
  refine Bod.ic 1 (by decide) dc_405_70 ?_
  refine Bod.icT dc_405_71 rfl (k2_ne_T (k_ne e912 1 rfl rfl (by omega) (by omega) (by omega))) ?_
  refine Bod.go dc_405_84 rfl ?_
  refine Bod.ic 2 (by decide) dc_405_85 ?_
  refine Bod.virt (r := []) dc_405_86 kr_405_608 ⟨Or.inl rfl, ow_351, cl_14⟩ (by rw [np_351]; rfl) (by rw [np_351]; rfl) (ob_of (mk_61 _)) (Nat.le_of_ble_eq_true rfl) (c3  ) ?_
  show Bod _ _ _ _ [_] _ _ _
  exact Bod.retZ dc_405_89 rt_405 (Or.inl rfl)
theorem rRkA_14 {d : Nat} {S : cS} {x : Nat} {y : Nat} {e91 : Nat} {e911 : Nat} {S1 : cS} {S2 : cS} {e912 : Nat} {e913 : Nat} {t : Nat} {S3 : cS} (mx : x < 2 ^ 20) (my : y < 2 ^ 20) (b1 : x < 20480) (he91 : sA S 91 x = nI e91) (me91 : e91 < 2 ^ 20) (b2 : e91 = 2) (b3 : y < 20480) (he911 : sA S 91 y = nI e911) (me911 : e911 < 2 ^ 20) (b4 : e911 ≠ 2) (c1 : Ans (d + 8) 363 [.ref 61, .int (nI x), .int (nI 1)] S (some (.int (nI 1))) S1) (c2 : Ans (d + 8) 363 [.ref 61, .int (nI y), .int (nI 1)] S1 (some (.int (nI 0))) S2) (he912 : sA S2 91 x = nI e912) (me912 : e912 < 2 ^ 20) (b5 : e912 = 1) (he913 : sA S2 91 y = nI e913) (me913 : e913 < 2 ^ 20) (b6 : e913 = 1) (w19 : sm_c1 .ge (lg_cmp (((sL S2 92 x) ^^^ ((sL S2 92 x) + (sL S2 92 y))) &&& ((sL S2 92 y) ^^^ ((sL S2 92 x) + (sL S2 92 y)))) 0) true false = true) (ht : sI S2 6151 = nI t) (mt : t < 20481) (b7 : 2 ≤ t) (c3 : Ans (d + 8) 353 [.ref 61, .long ((sL S2 92 x) + (sL S2 92 y))] (wI 6151 (nI (t - 2)) S2) none S3) : Bod (d + 8) 405 0 [(0, .ref 61), (1, .int (nI 43)), (2, .int (nI x)), (3, .int (nI y))] [] S (some (.int 1)) (S3) := by
  refine Bod.go dc_405_0 rfl ?_
  refine Bod.bip 43 (by decide) dc_405_1 ?_
  refine Bod.icF dc_405_3 rfl (k2_ne_F (k_eq 43 43 rfl rfl (by omega))) ?_
  refine Bod.go dc_405_6 rfl ?_
  refine Bod.get dc_405_7 fr_405_496 (mk_61 _) rfl ?_
  refine Bod.go dc_405_10 rfl ?_
  refine Bod.ialdN x rfl (by omega) (by omega) dc_405_11 (mk_91 _) ?_
  refine Bod.eqI (nI e91) (by first | assumption | rfl | exact congrArg nI (by omega) | (simp (disch := omega) only [rI, rIe, rA, rIA, rLA, rJA, rVI, rQI, rVA, rQA, upd_at,  rAI, rLI, rJI, nI_add, pk_sub, kc_0, kc_1, kc_2, kc_3, kc_4, kc_5, reduceIte, Nat.reduceEqDiff, Nat.add_zero, rI_hold, rI_hold, rL_hold, he91]; done)) ?_
  refine Bod.ic 2 (by decide) dc_405_12 ?_
  refine Bod.icF dc_405_13 rfl (k2_ne_F (k_eq e91 2 rfl rfl (by omega))) ?_
  refine Bod.go dc_405_16 rfl ?_
  refine Bod.get dc_405_17 fr_405_496 (mk_61 _) rfl ?_
  refine Bod.go dc_405_20 rfl ?_
  refine Bod.ialdN y rfl (by omega) (by omega) dc_405_21 (mk_91 _) ?_
  refine Bod.eqI (nI e911) (by first | assumption | rfl | exact congrArg nI (by omega) | (simp (disch := omega) only [rI, rIe, rA, rIA, rLA, rJA, rVI, rQI, rVA, rQA, upd_at,  rAI, rLI, rJI, nI_add, pk_sub, kc_0, kc_1, kc_2, kc_3, kc_4, kc_5, reduceIte, Nat.reduceEqDiff, Nat.add_zero, rI_hold, rI_hold, rL_hold, he91, he911]; done)) ?_
  refine Bod.ic 2 (by decide) dc_405_22 ?_
  refine Bod.icT dc_405_23 rfl (k2_ne_T (k_ne e911 2 rfl rfl (by omega) (by omega) (by omega))) ?_
  refine Bod.go dc_405_33 rfl ?_
  refine Bod.bip 43 (by decide) dc_405_34 ?_
  refine Bod.icF dc_405_36 rfl (k2_ne_F (k_eq 43 43 rfl rfl (by omega))) ?_
  refine Bod.go dc_405_39 rfl ?_
  refine Bod.go dc_405_40 rfl ?_
  refine Bod.ic 1 (by decide) dc_405_41 ?_
  refine Bod.virt (r := []) dc_405_42 kr_405_683 ⟨Or.inl rfl, ow_363, cl_14⟩ (by rw [np_363]; rfl) (by rw [np_363]; rfl) (ob_of (mk_61 _)) (Nat.le_of_ble_eq_true rfl) (c1  ) ?_
  show Bod _ _ _ _ [_] _ _ _
  refine Bod.ifF dc_405_45 rfl (k1_eq_F (k_ne 1 0 rfl rfl (by omega) (by omega) (by omega))) ?_
  refine Bod.go dc_405_48 rfl ?_
  refine Bod.go dc_405_49 rfl ?_
  refine Bod.ic 1 (by decide) dc_405_50 ?_
  refine Bod.virt (r := []) dc_405_51 kr_405_683 ⟨Or.inl rfl, ow_363, cl_14⟩ (by rw [np_363]; rfl) (by rw [np_363]; rfl) (ob_of (mk_61 _)) (Nat.le_of_ble_eq_true rfl) (c2  ) ?_
  show Bod _ _ _ _ [_] _ _ _
  refine Bod.ifT dc_405_54 rfl (k1_eq_T (k_eq 0 0 rfl rfl (by omega))) ?_
  refine Bod.go dc_405_64 rfl ?_
  refine Bod.get dc_405_65 fr_405_496 (mk_61 _) rfl ?_
  refine Bod.go dc_405_68 rfl ?_
  refine Bod.ialdN x rfl (by omega) (by omega) dc_405_69 (mk_91 _) ?_
  refine Bod.eqI (nI e912) (by first | assumption | (simp (disch := omega) only [rI, rIe, rA, rIA, rLA, rJA, rVI, rQI, rVA, rQA, upd_at,  rAI, rLI, rJI, nI_add, pk_sub, kc_0, kc_1, kc_2, kc_3, kc_4, kc_5, reduceIte, Nat.reduceEqDiff, Nat.add_zero, rI_hold, rI_hold, rL_hold, he91, he911, he912]; done) | (simp (disch := omega) only [rI, rIe, rA, rIA, rLA, rJA, rVI, rQI, rVA, rQA, upd_at,  rAI, rLI, rJI, nI_add, pk_sub, kc_0, kc_1, kc_2, kc_3, kc_4, kc_5, reduceIte, Nat.reduceEqDiff, Nat.add_zero, rI_hold, rI_hold, rL_hold, he91, he911, he912]; exact congrArg nI (by omega))) ?_
  refine Bod.ic 1 (by decide) dc_405_70 ?_
  refine Bod.icF dc_405_71 rfl (k2_ne_F (k_eq e912 1 rfl rfl (by omega))) ?_
  refine Bod.go dc_405_74 rfl ?_
  refine Bod.get dc_405_75 fr_405_496 (mk_61 _) rfl ?_
  refine Bod.go dc_405_78 rfl ?_
  refine Bod.ialdN y rfl (by omega) (by omega) dc_405_79 (mk_91 _) ?_
  refine Bod.eqI (nI e913) (by first | assumption | (simp (disch := omega) only [rI, rIe, rA, rIA, rLA, rJA, rVI, rQI, rVA, rQA, upd_at,  rAI, rLI, rJI, nI_add, pk_sub, kc_0, kc_1, kc_2, kc_3, kc_4, kc_5, reduceIte, Nat.reduceEqDiff, Nat.add_zero, rI_hold, rI_hold, rL_hold, he91, he911, he912, he913]; done) | (simp (disch := omega) only [rI, rIe, rA, rIA, rLA, rJA, rVI, rQI, rVA, rQA, upd_at,  rAI, rLI, rJI, nI_add, pk_sub, kc_0, kc_1, kc_2, kc_3, kc_4, kc_5, reduceIte, Nat.reduceEqDiff, Nat.add_zero, rI_hold, rI_hold, rL_hold, he91, he911, he912, he913]; exact congrArg nI (by omega))) ?_
  refine Bod.ic 1 (by decide) dc_405_80 ?_
  refine Bod.icT dc_405_81 rfl (k2_eq_T (k_eq e913 1 rfl rfl (by omega))) ?_
  refine Bod.go dc_405_90 rfl ?_
  refine Bod.get dc_405_91 fr_405_499 (mk_61 _) rfl ?_
  refine Bod.go dc_405_94 rfl ?_
  refine Bod.laldN x rfl (by omega) (by omega) dc_405_95 (mk_92 _) ?_
  refine Bod.lst dc_405_96 (by rw [ml_405]; exact Nat.le_of_ble_eq_true rfl) ?_
  refine Bod.go dc_405_98 rfl ?_
  refine Bod.get dc_405_99 fr_405_499 (mk_61 _) rfl ?_
  refine Bod.go dc_405_102 rfl ?_
  refine Bod.laldN y rfl (by omega) (by omega) dc_405_103 (mk_92 _) ?_
  refine Bod.lst dc_405_104 (by rw [ml_405]; exact Nat.le_of_ble_eq_true rfl) ?_
  refine Bod.go dc_405_106 rfl ?_
  refine Bod.sw (t := 156) dc_405_107 rfl rfl (by decide +kernel) ?_
  refine Bod.go dc_405_156 rfl ?_
  refine Bod.go dc_405_158 rfl ?_
  refine Bod.go dc_405_160 rfl ?_
  refine Bod.lst dc_405_161 (by rw [ml_405]; exact Nat.le_of_ble_eq_true rfl) ?_
  refine Bod.go dc_405_163 rfl ?_
  refine Bod.go dc_405_165 rfl ?_
  refine Bod.go dc_405_167 rfl ?_
  refine Bod.go dc_405_168 rfl ?_
  refine Bod.go dc_405_170 rfl ?_
  refine Bod.go dc_405_172 rfl ?_
  refine Bod.go dc_405_173 rfl ?_
  refine Bod.go dc_405_174 rfl ?_
  refine Bod.go dc_405_175 rfl ?_
  refine Bod.ifT dc_405_176 rfl w19 ?_
  refine Bod.go dc_405_331 rfl ?_
  refine Bod.go dc_405_332 rfl ?_
  refine Bod.get dc_405_333 fr_405_493 (mk_61 _) rfl ?_
  refine Bod.eqI (nI t) (by first | assumption | (simp (disch := omega) only [rI, rIe, rA, rIA, rLA, rJA, rVI, rQI, rVA, rQA, upd_at,  rAI, rLI, rJI, nI_add, pk_sub, kc_0, kc_1, kc_2, kc_3, kc_4, kc_5, reduceIte, Nat.reduceEqDiff, Nat.add_zero, rI_hold, rI_hold, rL_hold, he91, he911, he912, he913, ht]; done) | (simp (disch := omega) only [rI, rIe, rA, rIA, rLA, rJA, rVI, rQI, rVA, rQA, upd_at,  rAI, rLI, rJI, nI_add, pk_sub, kc_0, kc_1, kc_2, kc_3, kc_4, kc_5, reduceIte, Nat.reduceEqDiff, Nat.add_zero, rI_hold, rI_hold, rL_hold, he91, he911, he912, he913, ht]; exact congrArg nI (by omega))) ?_
  refine Bod.ic 2 (by decide) dc_405_336 ?_
  refine Bod.subN (t - 2) (by omega) (by omega) dc_405_337 ?_
  refine Bod.put dc_405_338 fr_405_493 (mk_61 _) (Nat.le_of_ble_eq_true rfl) pf_14_51 (st_6151 _ _) (mu_I _ _ _) ?_
  refine Bod.go dc_405_341 rfl ?_
  refine Bod.go dc_405_342 rfl ?_
  refine Bod.virt (r := []) dc_405_344 kr_405_613 ⟨Or.inl rfl, ow_353, cl_14⟩ (by rw [np_353]; rfl) (by rw [np_353]; rfl) (ob_of (mk_61 _)) (Nat.le_of_ble_eq_true rfl) (c3  ) ?_
  show Bod _ _ _ _ [] _ _ _
  refine Bod.ic 1 (by decide) dc_405_347 ?_
  exact Bod.retZ dc_405_348 rt_405 (Or.inr rfl)
theorem rRkA_15 {d : Nat} {S : cS} {x : Nat} {y : Nat} {e91 : Nat} {e911 : Nat} {S1 : cS} {S2 : cS} {e912 : Nat} {e913 : Nat} {S3 : cS} (mx : x < 2 ^ 20) (my : y < 2 ^ 20) (b1 : x < 20480) (he91 : sA S 91 x = nI e91) (me91 : e91 < 2 ^ 20) (b2 : e91 = 2) (b3 : y < 20480) (he911 : sA S 91 y = nI e911) (me911 : e911 < 2 ^ 20) (b4 : e911 ≠ 2) (c1 : Ans (d + 8) 363 [.ref 61, .int (nI x), .int (nI 1)] S (some (.int (nI 1))) S1) (c2 : Ans (d + 8) 363 [.ref 61, .int (nI y), .int (nI 1)] S1 (some (.int (nI 0))) S2) (he912 : sA S2 91 x = nI e912) (me912 : e912 < 2 ^ 20) (b5 : e912 = 1) (he913 : sA S2 91 y = nI e913) (me913 : e913 < 2 ^ 20) (b6 : e913 = 1) (w19 : sm_c1 .ge (lg_cmp (((sL S2 92 x) ^^^ ((sL S2 92 x) + (sL S2 92 y))) &&& ((sL S2 92 y) ^^^ ((sL S2 92 x) + (sL S2 92 y)))) 0) true false = false) (c3 : Ans (d + 8) 351 [.ref 61, .int (nI 6)] S2 (some (.int (nI 0))) S3) : Bod (d + 8) 405 0 [(0, .ref 61), (1, .int (nI 43)), (2, .int (nI x)), (3, .int (nI y))] [] S (some (.int 0)) (S3) := by
  refine Bod.go dc_405_0 rfl ?_
  refine Bod.bip 43 (by decide) dc_405_1 ?_
  refine Bod.icF dc_405_3 rfl (k2_ne_F (k_eq 43 43 rfl rfl (by omega))) ?_
  refine Bod.go dc_405_6 rfl ?_
  refine Bod.get dc_405_7 fr_405_496 (mk_61 _) rfl ?_
  refine Bod.go dc_405_10 rfl ?_
  refine Bod.ialdN x rfl (by omega) (by omega) dc_405_11 (mk_91 _) ?_
  refine Bod.eqI (nI e91) (by first | assumption | rfl | exact congrArg nI (by omega) | (simp (disch := omega) only [rI, rIe, rA, rIA, rLA, rJA, rVI, rQI, rVA, rQA, upd_at,  rAI, rLI, rJI, nI_add, pk_sub, kc_0, kc_1, kc_2, kc_3, kc_4, kc_5, reduceIte, Nat.reduceEqDiff, Nat.add_zero, rI_hold, rI_hold, rL_hold, he91]; done)) ?_
  refine Bod.ic 2 (by decide) dc_405_12 ?_
  refine Bod.icF dc_405_13 rfl (k2_ne_F (k_eq e91 2 rfl rfl (by omega))) ?_
  refine Bod.go dc_405_16 rfl ?_
  refine Bod.get dc_405_17 fr_405_496 (mk_61 _) rfl ?_
  refine Bod.go dc_405_20 rfl ?_
  refine Bod.ialdN y rfl (by omega) (by omega) dc_405_21 (mk_91 _) ?_
  refine Bod.eqI (nI e911) (by first | assumption | rfl | exact congrArg nI (by omega) | (simp (disch := omega) only [rI, rIe, rA, rIA, rLA, rJA, rVI, rQI, rVA, rQA, upd_at,  rAI, rLI, rJI, nI_add, pk_sub, kc_0, kc_1, kc_2, kc_3, kc_4, kc_5, reduceIte, Nat.reduceEqDiff, Nat.add_zero, rI_hold, rI_hold, rL_hold, he91, he911]; done)) ?_
  refine Bod.ic 2 (by decide) dc_405_22 ?_
  refine Bod.icT dc_405_23 rfl (k2_ne_T (k_ne e911 2 rfl rfl (by omega) (by omega) (by omega))) ?_
  refine Bod.go dc_405_33 rfl ?_
  refine Bod.bip 43 (by decide) dc_405_34 ?_
  refine Bod.icF dc_405_36 rfl (k2_ne_F (k_eq 43 43 rfl rfl (by omega))) ?_
  refine Bod.go dc_405_39 rfl ?_
  refine Bod.go dc_405_40 rfl ?_
  refine Bod.ic 1 (by decide) dc_405_41 ?_
  refine Bod.virt (r := []) dc_405_42 kr_405_683 ⟨Or.inl rfl, ow_363, cl_14⟩ (by rw [np_363]; rfl) (by rw [np_363]; rfl) (ob_of (mk_61 _)) (Nat.le_of_ble_eq_true rfl) (c1  ) ?_
  show Bod _ _ _ _ [_] _ _ _
  refine Bod.ifF dc_405_45 rfl (k1_eq_F (k_ne 1 0 rfl rfl (by omega) (by omega) (by omega))) ?_
  refine Bod.go dc_405_48 rfl ?_
  refine Bod.go dc_405_49 rfl ?_
  refine Bod.ic 1 (by decide) dc_405_50 ?_
  refine Bod.virt (r := []) dc_405_51 kr_405_683 ⟨Or.inl rfl, ow_363, cl_14⟩ (by rw [np_363]; rfl) (by rw [np_363]; rfl) (ob_of (mk_61 _)) (Nat.le_of_ble_eq_true rfl) (c2  ) ?_
  show Bod _ _ _ _ [_] _ _ _
  refine Bod.ifT dc_405_54 rfl (k1_eq_T (k_eq 0 0 rfl rfl (by omega))) ?_
  refine Bod.go dc_405_64 rfl ?_
  refine Bod.get dc_405_65 fr_405_496 (mk_61 _) rfl ?_
  refine Bod.go dc_405_68 rfl ?_
  refine Bod.ialdN x rfl (by omega) (by omega) dc_405_69 (mk_91 _) ?_
  refine Bod.eqI (nI e912) (by first | assumption | (simp (disch := omega) only [rI, rIe, rA, rIA, rLA, rJA, rVI, rQI, rVA, rQA, upd_at,  rAI, rLI, rJI, nI_add, pk_sub, kc_0, kc_1, kc_2, kc_3, kc_4, kc_5, reduceIte, Nat.reduceEqDiff, Nat.add_zero, rI_hold, rI_hold, rL_hold, he91, he911, he912]; done) | (simp (disch := omega) only [rI, rIe, rA, rIA, rLA, rJA, rVI, rQI, rVA, rQA, upd_at,  rAI, rLI, rJI, nI_add, pk_sub, kc_0, kc_1, kc_2, kc_3, kc_4, kc_5, reduceIte, Nat.reduceEqDiff, Nat.add_zero, rI_hold, rI_hold, rL_hold, he91, he911, he912]; exact congrArg nI (by omega))) ?_
  refine Bod.ic 1 (by decide) dc_405_70 ?_
  refine Bod.icF dc_405_71 rfl (k2_ne_F (k_eq e912 1 rfl rfl (by omega))) ?_
  refine Bod.go dc_405_74 rfl ?_
  refine Bod.get dc_405_75 fr_405_496 (mk_61 _) rfl ?_
  refine Bod.go dc_405_78 rfl ?_
  refine Bod.ialdN y rfl (by omega) (by omega) dc_405_79 (mk_91 _) ?_
  refine Bod.eqI (nI e913) (by first | assumption | (simp (disch := omega) only [rI, rIe, rA, rIA, rLA, rJA, rVI, rQI, rVA, rQA, upd_at,  rAI, rLI, rJI, nI_add, pk_sub, kc_0, kc_1, kc_2, kc_3, kc_4, kc_5, reduceIte, Nat.reduceEqDiff, Nat.add_zero, rI_hold, rI_hold, rL_hold, he91, he911, he912, he913]; done) | (simp (disch := omega) only [rI, rIe, rA, rIA, rLA, rJA, rVI, rQI, rVA, rQA, upd_at,  rAI, rLI, rJI, nI_add, pk_sub, kc_0, kc_1, kc_2, kc_3, kc_4, kc_5, reduceIte, Nat.reduceEqDiff, Nat.add_zero, rI_hold, rI_hold, rL_hold, he91, he911, he912, he913]; exact congrArg nI (by omega))) ?_
  refine Bod.ic 1 (by decide) dc_405_80 ?_
  refine Bod.icT dc_405_81 rfl (k2_eq_T (k_eq e913 1 rfl rfl (by omega))) ?_
  refine Bod.go dc_405_90 rfl ?_
  refine Bod.get dc_405_91 fr_405_499 (mk_61 _) rfl ?_
  refine Bod.go dc_405_94 rfl ?_
  refine Bod.laldN x rfl (by omega) (by omega) dc_405_95 (mk_92 _) ?_
  refine Bod.lst dc_405_96 (by rw [ml_405]; exact Nat.le_of_ble_eq_true rfl) ?_
  refine Bod.go dc_405_98 rfl ?_
  refine Bod.get dc_405_99 fr_405_499 (mk_61 _) rfl ?_
  refine Bod.go dc_405_102 rfl ?_
  refine Bod.laldN y rfl (by omega) (by omega) dc_405_103 (mk_92 _) ?_
  refine Bod.lst dc_405_104 (by rw [ml_405]; exact Nat.le_of_ble_eq_true rfl) ?_
  refine Bod.go dc_405_106 rfl ?_
  refine Bod.sw (t := 156) dc_405_107 rfl rfl (by decide +kernel) ?_
  refine Bod.go dc_405_156 rfl ?_
  refine Bod.go dc_405_158 rfl ?_
  refine Bod.go dc_405_160 rfl ?_
  refine Bod.lst dc_405_161 (by rw [ml_405]; exact Nat.le_of_ble_eq_true rfl) ?_
  refine Bod.go dc_405_163 rfl ?_
  refine Bod.go dc_405_165 rfl ?_
  refine Bod.go dc_405_167 rfl ?_
  refine Bod.go dc_405_168 rfl ?_
  refine Bod.go dc_405_170 rfl ?_
  refine Bod.go dc_405_172 rfl ?_
  refine Bod.go dc_405_173 rfl ?_
  refine Bod.go dc_405_174 rfl ?_
  refine Bod.go dc_405_175 rfl ?_
  refine Bod.ifF dc_405_176 rfl w19 ?_
  refine Bod.go dc_405_179 rfl ?_
  refine Bod.bip 6 (by decide) dc_405_180 ?_
  refine Bod.virt (r := []) dc_405_182 kr_405_608 ⟨Or.inl rfl, ow_351, cl_14⟩ (by rw [np_351]; rfl) (by rw [np_351]; rfl) (ob_of (mk_61 _)) (Nat.le_of_ble_eq_true rfl) (c3  ) ?_
  show Bod _ _ _ _ [_] _ _ _
  exact Bod.retZ dc_405_185 rt_405 (Or.inl rfl)
theorem rRkA_16 {d : Nat} {S : cS} {x : Nat} {y : Nat} {e91 : Nat} {e911 : Nat} {S1 : cS} {S2 : cS} {e912 : Nat} {e913 : Nat} {S3 : cS} (mx : x < 2 ^ 20) (my : y < 2 ^ 20) (b1 : x < 20480) (he91 : sA S 91 x = nI e91) (me91 : e91 < 2 ^ 20) (b2 : e91 = 2) (b3 : y < 20480) (he911 : sA S 91 y = nI e911) (me911 : e911 < 2 ^ 20) (b4 : e911 ≠ 2) (c1 : Ans (d + 8) 363 [.ref 61, .int (nI x), .int (nI 1)] S (some (.int (nI 1))) S1) (c2 : Ans (d + 8) 363 [.ref 61, .int (nI y), .int (nI 1)] S1 (some (.int (nI 0))) S2) (he912 : sA S2 91 x = nI e912) (me912 : e912 < 2 ^ 20) (b5 : e912 = 1) (he913 : sA S2 91 y = nI e913) (me913 : e913 < 2 ^ 20) (b6 : e913 ≠ 1) (c3 : Ans (d + 8) 351 [.ref 61, .int (nI 2)] S2 (some (.int (nI 0))) S3) : Bod (d + 8) 405 0 [(0, .ref 61), (1, .int (nI 43)), (2, .int (nI x)), (3, .int (nI y))] [] S (some (.int 0)) (S3) := by
  refine Bod.go dc_405_0 rfl ?_
  refine Bod.bip 43 (by decide) dc_405_1 ?_
  refine Bod.icF dc_405_3 rfl (k2_ne_F (k_eq 43 43 rfl rfl (by omega))) ?_
  refine Bod.go dc_405_6 rfl ?_
  refine Bod.get dc_405_7 fr_405_496 (mk_61 _) rfl ?_
  refine Bod.go dc_405_10 rfl ?_
  refine Bod.ialdN x rfl (by omega) (by omega) dc_405_11 (mk_91 _) ?_
  refine Bod.eqI (nI e91) (by first | assumption | rfl | exact congrArg nI (by omega) | (simp (disch := omega) only [rI, rIe, rA, rIA, rLA, rJA, rVI, rQI, rVA, rQA, upd_at,  rAI, rLI, rJI, nI_add, pk_sub, kc_0, kc_1, kc_2, kc_3, kc_4, kc_5, reduceIte, Nat.reduceEqDiff, Nat.add_zero, rI_hold, rI_hold, rL_hold, he91]; done)) ?_
  refine Bod.ic 2 (by decide) dc_405_12 ?_
  refine Bod.icF dc_405_13 rfl (k2_ne_F (k_eq e91 2 rfl rfl (by omega))) ?_
  refine Bod.go dc_405_16 rfl ?_
  refine Bod.get dc_405_17 fr_405_496 (mk_61 _) rfl ?_
  refine Bod.go dc_405_20 rfl ?_
  refine Bod.ialdN y rfl (by omega) (by omega) dc_405_21 (mk_91 _) ?_
  refine Bod.eqI (nI e911) (by first | assumption | rfl | exact congrArg nI (by omega) | (simp (disch := omega) only [rI, rIe, rA, rIA, rLA, rJA, rVI, rQI, rVA, rQA, upd_at,  rAI, rLI, rJI, nI_add, pk_sub, kc_0, kc_1, kc_2, kc_3, kc_4, kc_5, reduceIte, Nat.reduceEqDiff, Nat.add_zero, rI_hold, rI_hold, rL_hold, he91, he911]; done)) ?_
  refine Bod.ic 2 (by decide) dc_405_22 ?_
  refine Bod.icT dc_405_23 rfl (k2_ne_T (k_ne e911 2 rfl rfl (by omega) (by omega) (by omega))) ?_
  refine Bod.go dc_405_33 rfl ?_
  refine Bod.bip 43 (by decide) dc_405_34 ?_
  refine Bod.icF dc_405_36 rfl (k2_ne_F (k_eq 43 43 rfl rfl (by omega))) ?_
  refine Bod.go dc_405_39 rfl ?_
  refine Bod.go dc_405_40 rfl ?_
  refine Bod.ic 1 (by decide) dc_405_41 ?_
  refine Bod.virt (r := []) dc_405_42 kr_405_683 ⟨Or.inl rfl, ow_363, cl_14⟩ (by rw [np_363]; rfl) (by rw [np_363]; rfl) (ob_of (mk_61 _)) (Nat.le_of_ble_eq_true rfl) (c1  ) ?_
  show Bod _ _ _ _ [_] _ _ _
  refine Bod.ifF dc_405_45 rfl (k1_eq_F (k_ne 1 0 rfl rfl (by omega) (by omega) (by omega))) ?_
  refine Bod.go dc_405_48 rfl ?_
  refine Bod.go dc_405_49 rfl ?_
  refine Bod.ic 1 (by decide) dc_405_50 ?_
  refine Bod.virt (r := []) dc_405_51 kr_405_683 ⟨Or.inl rfl, ow_363, cl_14⟩ (by rw [np_363]; rfl) (by rw [np_363]; rfl) (ob_of (mk_61 _)) (Nat.le_of_ble_eq_true rfl) (c2  ) ?_
  show Bod _ _ _ _ [_] _ _ _
  refine Bod.ifT dc_405_54 rfl (k1_eq_T (k_eq 0 0 rfl rfl (by omega))) ?_
  refine Bod.go dc_405_64 rfl ?_
  refine Bod.get dc_405_65 fr_405_496 (mk_61 _) rfl ?_
  refine Bod.go dc_405_68 rfl ?_
  refine Bod.ialdN x rfl (by omega) (by omega) dc_405_69 (mk_91 _) ?_
  refine Bod.eqI (nI e912) (by first | assumption | (simp (disch := omega) only [rI, rIe, rA, rIA, rLA, rJA, rVI, rQI, rVA, rQA, upd_at,  rAI, rLI, rJI, nI_add, pk_sub, kc_0, kc_1, kc_2, kc_3, kc_4, kc_5, reduceIte, Nat.reduceEqDiff, Nat.add_zero, rI_hold, rI_hold, rL_hold, he91, he911, he912]; done) | (simp (disch := omega) only [rI, rIe, rA, rIA, rLA, rJA, rVI, rQI, rVA, rQA, upd_at,  rAI, rLI, rJI, nI_add, pk_sub, kc_0, kc_1, kc_2, kc_3, kc_4, kc_5, reduceIte, Nat.reduceEqDiff, Nat.add_zero, rI_hold, rI_hold, rL_hold, he91, he911, he912]; exact congrArg nI (by omega))) ?_
  refine Bod.ic 1 (by decide) dc_405_70 ?_
  refine Bod.icF dc_405_71 rfl (k2_ne_F (k_eq e912 1 rfl rfl (by omega))) ?_
  refine Bod.go dc_405_74 rfl ?_
  refine Bod.get dc_405_75 fr_405_496 (mk_61 _) rfl ?_
  refine Bod.go dc_405_78 rfl ?_
  refine Bod.ialdN y rfl (by omega) (by omega) dc_405_79 (mk_91 _) ?_
  refine Bod.eqI (nI e913) (by first | assumption | (simp (disch := omega) only [rI, rIe, rA, rIA, rLA, rJA, rVI, rQI, rVA, rQA, upd_at,  rAI, rLI, rJI, nI_add, pk_sub, kc_0, kc_1, kc_2, kc_3, kc_4, kc_5, reduceIte, Nat.reduceEqDiff, Nat.add_zero, rI_hold, rI_hold, rL_hold, he91, he911, he912, he913]; done) | (simp (disch := omega) only [rI, rIe, rA, rIA, rLA, rJA, rVI, rQI, rVA, rQA, upd_at,  rAI, rLI, rJI, nI_add, pk_sub, kc_0, kc_1, kc_2, kc_3, kc_4, kc_5, reduceIte, Nat.reduceEqDiff, Nat.add_zero, rI_hold, rI_hold, rL_hold, he91, he911, he912, he913]; exact congrArg nI (by omega))) ?_
  refine Bod.ic 1 (by decide) dc_405_80 ?_
  refine Bod.icF dc_405_81 rfl (k2_eq_F (k_ne e913 1 rfl rfl (by omega) (by omega) (by omega))) ?_
  refine Bod.go dc_405_84 rfl ?_
  refine Bod.ic 2 (by decide) dc_405_85 ?_
  refine Bod.virt (r := []) dc_405_86 kr_405_608 ⟨Or.inl rfl, ow_351, cl_14⟩ (by rw [np_351]; rfl) (by rw [np_351]; rfl) (ob_of (mk_61 _)) (Nat.le_of_ble_eq_true rfl) (c3  ) ?_
  show Bod _ _ _ _ [_] _ _ _
  exact Bod.retZ dc_405_89 rt_405 (Or.inl rfl)
theorem rRkA_17 {d : Nat} {S : cS} {x : Nat} {y : Nat} {e91 : Nat} {e911 : Nat} {S1 : cS} {e912 : Nat} {S2 : cS} (mx : x < 2 ^ 20) (my : y < 2 ^ 20) (b1 : x < 20480) (he91 : sA S 91 x = nI e91) (me91 : e91 < 2 ^ 20) (b2 : e91 = 2) (b3 : y < 20480) (he911 : sA S 91 y = nI e911) (me911 : e911 < 2 ^ 20) (b4 : e911 ≠ 2) (c1 : Ans (d + 8) 363 [.ref 61, .int (nI x), .int (nI 1)] S (some (.int (nI 0))) S1) (he912 : sA S1 91 x = nI e912) (me912 : e912 < 2 ^ 20) (b5 : e912 ≠ 1) (c2 : Ans (d + 8) 351 [.ref 61, .int (nI 2)] S1 (some (.int (nI 0))) S2) : Bod (d + 8) 405 0 [(0, .ref 61), (1, .int (nI 43)), (2, .int (nI x)), (3, .int (nI y))] [] S (some (.int 0)) (S2) := by
  refine Bod.go dc_405_0 rfl ?_
  refine Bod.bip 43 (by decide) dc_405_1 ?_
  refine Bod.icF dc_405_3 rfl (k2_ne_F (k_eq 43 43 rfl rfl (by omega))) ?_
  refine Bod.go dc_405_6 rfl ?_
  refine Bod.get dc_405_7 fr_405_496 (mk_61 _) rfl ?_
  refine Bod.go dc_405_10 rfl ?_
  refine Bod.ialdN x rfl (by omega) (by omega) dc_405_11 (mk_91 _) ?_
  refine Bod.eqI (nI e91) (by first | assumption | rfl | exact congrArg nI (by omega) | (simp (disch := omega) only [rI, rIe, rA, rIA, rLA, rJA, rVI, rQI, rVA, rQA, upd_at,  rAI, rLI, rJI, nI_add, pk_sub, kc_0, kc_1, kc_2, kc_3, kc_4, kc_5, reduceIte, Nat.reduceEqDiff, Nat.add_zero, rI_hold, rI_hold, rL_hold, he91]; done)) ?_
  refine Bod.ic 2 (by decide) dc_405_12 ?_
  refine Bod.icF dc_405_13 rfl (k2_ne_F (k_eq e91 2 rfl rfl (by omega))) ?_
  refine Bod.go dc_405_16 rfl ?_
  refine Bod.get dc_405_17 fr_405_496 (mk_61 _) rfl ?_
  refine Bod.go dc_405_20 rfl ?_
  refine Bod.ialdN y rfl (by omega) (by omega) dc_405_21 (mk_91 _) ?_
  refine Bod.eqI (nI e911) (by first | assumption | rfl | exact congrArg nI (by omega) | (simp (disch := omega) only [rI, rIe, rA, rIA, rLA, rJA, rVI, rQI, rVA, rQA, upd_at,  rAI, rLI, rJI, nI_add, pk_sub, kc_0, kc_1, kc_2, kc_3, kc_4, kc_5, reduceIte, Nat.reduceEqDiff, Nat.add_zero, rI_hold, rI_hold, rL_hold, he91, he911]; done)) ?_
  refine Bod.ic 2 (by decide) dc_405_22 ?_
  refine Bod.icT dc_405_23 rfl (k2_ne_T (k_ne e911 2 rfl rfl (by omega) (by omega) (by omega))) ?_
  refine Bod.go dc_405_33 rfl ?_
  refine Bod.bip 43 (by decide) dc_405_34 ?_
  refine Bod.icF dc_405_36 rfl (k2_ne_F (k_eq 43 43 rfl rfl (by omega))) ?_
  refine Bod.go dc_405_39 rfl ?_
  refine Bod.go dc_405_40 rfl ?_
  refine Bod.ic 1 (by decide) dc_405_41 ?_
  refine Bod.virt (r := []) dc_405_42 kr_405_683 ⟨Or.inl rfl, ow_363, cl_14⟩ (by rw [np_363]; rfl) (by rw [np_363]; rfl) (ob_of (mk_61 _)) (Nat.le_of_ble_eq_true rfl) (c1  ) ?_
  show Bod _ _ _ _ [_] _ _ _
  refine Bod.ifT dc_405_45 rfl (k1_eq_T (k_eq 0 0 rfl rfl (by omega))) ?_
  refine Bod.go dc_405_64 rfl ?_
  refine Bod.get dc_405_65 fr_405_496 (mk_61 _) rfl ?_
  refine Bod.go dc_405_68 rfl ?_
  refine Bod.ialdN x rfl (by omega) (by omega) dc_405_69 (mk_91 _) ?_
  refine Bod.eqI (nI e912) (by first | assumption | (simp (disch := omega) only [rI, rIe, rA, rIA, rLA, rJA, rVI, rQI, rVA, rQA, upd_at,  rAI, rLI, rJI, nI_add, pk_sub, kc_0, kc_1, kc_2, kc_3, kc_4, kc_5, reduceIte, Nat.reduceEqDiff, Nat.add_zero, rI_hold, rI_hold, rL_hold, he91, he911, he912]; done) | (simp (disch := omega) only [rI, rIe, rA, rIA, rLA, rJA, rVI, rQI, rVA, rQA, upd_at,  rAI, rLI, rJI, nI_add, pk_sub, kc_0, kc_1, kc_2, kc_3, kc_4, kc_5, reduceIte, Nat.reduceEqDiff, Nat.add_zero, rI_hold, rI_hold, rL_hold, he91, he911, he912]; exact congrArg nI (by omega))) ?_
  refine Bod.ic 1 (by decide) dc_405_70 ?_
  refine Bod.icT dc_405_71 rfl (k2_ne_T (k_ne e912 1 rfl rfl (by omega) (by omega) (by omega))) ?_
  refine Bod.go dc_405_84 rfl ?_
  refine Bod.ic 2 (by decide) dc_405_85 ?_
  refine Bod.virt (r := []) dc_405_86 kr_405_608 ⟨Or.inl rfl, ow_351, cl_14⟩ (by rw [np_351]; rfl) (by rw [np_351]; rfl) (ob_of (mk_61 _)) (Nat.le_of_ble_eq_true rfl) (c2  ) ?_
  show Bod _ _ _ _ [_] _ _ _
  exact Bod.retZ dc_405_89 rt_405 (Or.inl rfl)
theorem rRkA_18 {d : Nat} {S : cS} {x : Nat} {y : Nat} {e91 : Nat} {e911 : Nat} {S1 : cS} {e912 : Nat} {e913 : Nat} {t : Nat} {S2 : cS} (mx : x < 2 ^ 20) (my : y < 2 ^ 20) (b1 : x < 20480) (he91 : sA S 91 x = nI e91) (me91 : e91 < 2 ^ 20) (b2 : e91 = 2) (b3 : y < 20480) (he911 : sA S 91 y = nI e911) (me911 : e911 < 2 ^ 20) (b4 : e911 ≠ 2) (c1 : Ans (d + 8) 363 [.ref 61, .int (nI x), .int (nI 1)] S (some (.int (nI 0))) S1) (he912 : sA S1 91 x = nI e912) (me912 : e912 < 2 ^ 20) (b5 : e912 = 1) (he913 : sA S1 91 y = nI e913) (me913 : e913 < 2 ^ 20) (b6 : e913 = 1) (w18 : sm_c1 .ge (lg_cmp (((sL S1 92 x) ^^^ ((sL S1 92 x) + (sL S1 92 y))) &&& ((sL S1 92 y) ^^^ ((sL S1 92 x) + (sL S1 92 y)))) 0) true false = true) (ht : sI S1 6151 = nI t) (mt : t < 20481) (b7 : 2 ≤ t) (c2 : Ans (d + 8) 353 [.ref 61, .long ((sL S1 92 x) + (sL S1 92 y))] (wI 6151 (nI (t - 2)) S1) none S2) : Bod (d + 8) 405 0 [(0, .ref 61), (1, .int (nI 43)), (2, .int (nI x)), (3, .int (nI y))] [] S (some (.int 1)) (S2) := by
  refine Bod.go dc_405_0 rfl ?_
  refine Bod.bip 43 (by decide) dc_405_1 ?_
  refine Bod.icF dc_405_3 rfl (k2_ne_F (k_eq 43 43 rfl rfl (by omega))) ?_
  refine Bod.go dc_405_6 rfl ?_
  refine Bod.get dc_405_7 fr_405_496 (mk_61 _) rfl ?_
  refine Bod.go dc_405_10 rfl ?_
  refine Bod.ialdN x rfl (by omega) (by omega) dc_405_11 (mk_91 _) ?_
  refine Bod.eqI (nI e91) (by first | assumption | rfl | exact congrArg nI (by omega) | (simp (disch := omega) only [rI, rIe, rA, rIA, rLA, rJA, rVI, rQI, rVA, rQA, upd_at,  rAI, rLI, rJI, nI_add, pk_sub, kc_0, kc_1, kc_2, kc_3, kc_4, kc_5, reduceIte, Nat.reduceEqDiff, Nat.add_zero, rI_hold, rI_hold, rL_hold, he91]; done)) ?_
  refine Bod.ic 2 (by decide) dc_405_12 ?_
  refine Bod.icF dc_405_13 rfl (k2_ne_F (k_eq e91 2 rfl rfl (by omega))) ?_
  refine Bod.go dc_405_16 rfl ?_
  refine Bod.get dc_405_17 fr_405_496 (mk_61 _) rfl ?_
  refine Bod.go dc_405_20 rfl ?_
  refine Bod.ialdN y rfl (by omega) (by omega) dc_405_21 (mk_91 _) ?_
  refine Bod.eqI (nI e911) (by first | assumption | rfl | exact congrArg nI (by omega) | (simp (disch := omega) only [rI, rIe, rA, rIA, rLA, rJA, rVI, rQI, rVA, rQA, upd_at,  rAI, rLI, rJI, nI_add, pk_sub, kc_0, kc_1, kc_2, kc_3, kc_4, kc_5, reduceIte, Nat.reduceEqDiff, Nat.add_zero, rI_hold, rI_hold, rL_hold, he91, he911]; done)) ?_
  refine Bod.ic 2 (by decide) dc_405_22 ?_
  refine Bod.icT dc_405_23 rfl (k2_ne_T (k_ne e911 2 rfl rfl (by omega) (by omega) (by omega))) ?_
  refine Bod.go dc_405_33 rfl ?_
  refine Bod.bip 43 (by decide) dc_405_34 ?_
  refine Bod.icF dc_405_36 rfl (k2_ne_F (k_eq 43 43 rfl rfl (by omega))) ?_
  refine Bod.go dc_405_39 rfl ?_
  refine Bod.go dc_405_40 rfl ?_
  refine Bod.ic 1 (by decide) dc_405_41 ?_
  refine Bod.virt (r := []) dc_405_42 kr_405_683 ⟨Or.inl rfl, ow_363, cl_14⟩ (by rw [np_363]; rfl) (by rw [np_363]; rfl) (ob_of (mk_61 _)) (Nat.le_of_ble_eq_true rfl) (c1  ) ?_
  show Bod _ _ _ _ [_] _ _ _
  refine Bod.ifT dc_405_45 rfl (k1_eq_T (k_eq 0 0 rfl rfl (by omega))) ?_
  refine Bod.go dc_405_64 rfl ?_
  refine Bod.get dc_405_65 fr_405_496 (mk_61 _) rfl ?_
  refine Bod.go dc_405_68 rfl ?_
  refine Bod.ialdN x rfl (by omega) (by omega) dc_405_69 (mk_91 _) ?_
  refine Bod.eqI (nI e912) (by first | assumption | (simp (disch := omega) only [rI, rIe, rA, rIA, rLA, rJA, rVI, rQI, rVA, rQA, upd_at,  rAI, rLI, rJI, nI_add, pk_sub, kc_0, kc_1, kc_2, kc_3, kc_4, kc_5, reduceIte, Nat.reduceEqDiff, Nat.add_zero, rI_hold, rI_hold, rL_hold, he91, he911, he912]; done) | (simp (disch := omega) only [rI, rIe, rA, rIA, rLA, rJA, rVI, rQI, rVA, rQA, upd_at,  rAI, rLI, rJI, nI_add, pk_sub, kc_0, kc_1, kc_2, kc_3, kc_4, kc_5, reduceIte, Nat.reduceEqDiff, Nat.add_zero, rI_hold, rI_hold, rL_hold, he91, he911, he912]; exact congrArg nI (by omega))) ?_
  refine Bod.ic 1 (by decide) dc_405_70 ?_
  refine Bod.icF dc_405_71 rfl (k2_ne_F (k_eq e912 1 rfl rfl (by omega))) ?_
  refine Bod.go dc_405_74 rfl ?_
  refine Bod.get dc_405_75 fr_405_496 (mk_61 _) rfl ?_
  refine Bod.go dc_405_78 rfl ?_
  refine Bod.ialdN y rfl (by omega) (by omega) dc_405_79 (mk_91 _) ?_
  refine Bod.eqI (nI e913) (by first | assumption | (simp (disch := omega) only [rI, rIe, rA, rIA, rLA, rJA, rVI, rQI, rVA, rQA, upd_at,  rAI, rLI, rJI, nI_add, pk_sub, kc_0, kc_1, kc_2, kc_3, kc_4, kc_5, reduceIte, Nat.reduceEqDiff, Nat.add_zero, rI_hold, rI_hold, rL_hold, he91, he911, he912, he913]; done) | (simp (disch := omega) only [rI, rIe, rA, rIA, rLA, rJA, rVI, rQI, rVA, rQA, upd_at,  rAI, rLI, rJI, nI_add, pk_sub, kc_0, kc_1, kc_2, kc_3, kc_4, kc_5, reduceIte, Nat.reduceEqDiff, Nat.add_zero, rI_hold, rI_hold, rL_hold, he91, he911, he912, he913]; exact congrArg nI (by omega))) ?_
  refine Bod.ic 1 (by decide) dc_405_80 ?_
  refine Bod.icT dc_405_81 rfl (k2_eq_T (k_eq e913 1 rfl rfl (by omega))) ?_
  refine Bod.go dc_405_90 rfl ?_
  refine Bod.get dc_405_91 fr_405_499 (mk_61 _) rfl ?_
  refine Bod.go dc_405_94 rfl ?_
  refine Bod.laldN x rfl (by omega) (by omega) dc_405_95 (mk_92 _) ?_
  refine Bod.lst dc_405_96 (by rw [ml_405]; exact Nat.le_of_ble_eq_true rfl) ?_
  refine Bod.go dc_405_98 rfl ?_
  refine Bod.get dc_405_99 fr_405_499 (mk_61 _) rfl ?_
  refine Bod.go dc_405_102 rfl ?_
  refine Bod.laldN y rfl (by omega) (by omega) dc_405_103 (mk_92 _) ?_
  refine Bod.lst dc_405_104 (by rw [ml_405]; exact Nat.le_of_ble_eq_true rfl) ?_
  refine Bod.go dc_405_106 rfl ?_
  refine Bod.sw (t := 156) dc_405_107 rfl rfl (by decide +kernel) ?_
  refine Bod.go dc_405_156 rfl ?_
  refine Bod.go dc_405_158 rfl ?_
  refine Bod.go dc_405_160 rfl ?_
  refine Bod.lst dc_405_161 (by rw [ml_405]; exact Nat.le_of_ble_eq_true rfl) ?_
  refine Bod.go dc_405_163 rfl ?_
  refine Bod.go dc_405_165 rfl ?_
  refine Bod.go dc_405_167 rfl ?_
  refine Bod.go dc_405_168 rfl ?_
  refine Bod.go dc_405_170 rfl ?_
  refine Bod.go dc_405_172 rfl ?_
  refine Bod.go dc_405_173 rfl ?_
  refine Bod.go dc_405_174 rfl ?_
  refine Bod.go dc_405_175 rfl ?_
  refine Bod.ifT dc_405_176 rfl w18 ?_
  refine Bod.go dc_405_331 rfl ?_
  refine Bod.go dc_405_332 rfl ?_
  refine Bod.get dc_405_333 fr_405_493 (mk_61 _) rfl ?_
  refine Bod.eqI (nI t) (by first | assumption | (simp (disch := omega) only [rI, rIe, rA, rIA, rLA, rJA, rVI, rQI, rVA, rQA, upd_at,  rAI, rLI, rJI, nI_add, pk_sub, kc_0, kc_1, kc_2, kc_3, kc_4, kc_5, reduceIte, Nat.reduceEqDiff, Nat.add_zero, rI_hold, rI_hold, rL_hold, he91, he911, he912, he913, ht]; done) | (simp (disch := omega) only [rI, rIe, rA, rIA, rLA, rJA, rVI, rQI, rVA, rQA, upd_at,  rAI, rLI, rJI, nI_add, pk_sub, kc_0, kc_1, kc_2, kc_3, kc_4, kc_5, reduceIte, Nat.reduceEqDiff, Nat.add_zero, rI_hold, rI_hold, rL_hold, he91, he911, he912, he913, ht]; exact congrArg nI (by omega))) ?_
  refine Bod.ic 2 (by decide) dc_405_336 ?_
  refine Bod.subN (t - 2) (by omega) (by omega) dc_405_337 ?_
  refine Bod.put dc_405_338 fr_405_493 (mk_61 _) (Nat.le_of_ble_eq_true rfl) pf_14_51 (st_6151 _ _) (mu_I _ _ _) ?_
  refine Bod.go dc_405_341 rfl ?_
  refine Bod.go dc_405_342 rfl ?_
  refine Bod.virt (r := []) dc_405_344 kr_405_613 ⟨Or.inl rfl, ow_353, cl_14⟩ (by rw [np_353]; rfl) (by rw [np_353]; rfl) (ob_of (mk_61 _)) (Nat.le_of_ble_eq_true rfl) (c2  ) ?_
  show Bod _ _ _ _ [] _ _ _
  refine Bod.ic 1 (by decide) dc_405_347 ?_
  exact Bod.retZ dc_405_348 rt_405 (Or.inr rfl)
theorem rRkA_19 {d : Nat} {S : cS} {x : Nat} {y : Nat} {e91 : Nat} {e911 : Nat} {S1 : cS} {e912 : Nat} {e913 : Nat} {S2 : cS} (mx : x < 2 ^ 20) (my : y < 2 ^ 20) (b1 : x < 20480) (he91 : sA S 91 x = nI e91) (me91 : e91 < 2 ^ 20) (b2 : e91 = 2) (b3 : y < 20480) (he911 : sA S 91 y = nI e911) (me911 : e911 < 2 ^ 20) (b4 : e911 ≠ 2) (c1 : Ans (d + 8) 363 [.ref 61, .int (nI x), .int (nI 1)] S (some (.int (nI 0))) S1) (he912 : sA S1 91 x = nI e912) (me912 : e912 < 2 ^ 20) (b5 : e912 = 1) (he913 : sA S1 91 y = nI e913) (me913 : e913 < 2 ^ 20) (b6 : e913 = 1) (w18 : sm_c1 .ge (lg_cmp (((sL S1 92 x) ^^^ ((sL S1 92 x) + (sL S1 92 y))) &&& ((sL S1 92 y) ^^^ ((sL S1 92 x) + (sL S1 92 y)))) 0) true false = false) (c2 : Ans (d + 8) 351 [.ref 61, .int (nI 6)] S1 (some (.int (nI 0))) S2) : Bod (d + 8) 405 0 [(0, .ref 61), (1, .int (nI 43)), (2, .int (nI x)), (3, .int (nI y))] [] S (some (.int 0)) (S2) := by
  refine Bod.go dc_405_0 rfl ?_
  refine Bod.bip 43 (by decide) dc_405_1 ?_
  refine Bod.icF dc_405_3 rfl (k2_ne_F (k_eq 43 43 rfl rfl (by omega))) ?_
  refine Bod.go dc_405_6 rfl ?_
  refine Bod.get dc_405_7 fr_405_496 (mk_61 _) rfl ?_
  refine Bod.go dc_405_10 rfl ?_
  refine Bod.ialdN x rfl (by omega) (by omega) dc_405_11 (mk_91 _) ?_
  refine Bod.eqI (nI e91) (by first | assumption | rfl | exact congrArg nI (by omega) | (simp (disch := omega) only [rI, rIe, rA, rIA, rLA, rJA, rVI, rQI, rVA, rQA, upd_at,  rAI, rLI, rJI, nI_add, pk_sub, kc_0, kc_1, kc_2, kc_3, kc_4, kc_5, reduceIte, Nat.reduceEqDiff, Nat.add_zero, rI_hold, rI_hold, rL_hold, he91]; done)) ?_
  refine Bod.ic 2 (by decide) dc_405_12 ?_
  refine Bod.icF dc_405_13 rfl (k2_ne_F (k_eq e91 2 rfl rfl (by omega))) ?_
  refine Bod.go dc_405_16 rfl ?_
  refine Bod.get dc_405_17 fr_405_496 (mk_61 _) rfl ?_
  refine Bod.go dc_405_20 rfl ?_
  refine Bod.ialdN y rfl (by omega) (by omega) dc_405_21 (mk_91 _) ?_
  refine Bod.eqI (nI e911) (by first | assumption | rfl | exact congrArg nI (by omega) | (simp (disch := omega) only [rI, rIe, rA, rIA, rLA, rJA, rVI, rQI, rVA, rQA, upd_at,  rAI, rLI, rJI, nI_add, pk_sub, kc_0, kc_1, kc_2, kc_3, kc_4, kc_5, reduceIte, Nat.reduceEqDiff, Nat.add_zero, rI_hold, rI_hold, rL_hold, he91, he911]; done)) ?_
  refine Bod.ic 2 (by decide) dc_405_22 ?_
  refine Bod.icT dc_405_23 rfl (k2_ne_T (k_ne e911 2 rfl rfl (by omega) (by omega) (by omega))) ?_
  refine Bod.go dc_405_33 rfl ?_
  refine Bod.bip 43 (by decide) dc_405_34 ?_
  refine Bod.icF dc_405_36 rfl (k2_ne_F (k_eq 43 43 rfl rfl (by omega))) ?_
  refine Bod.go dc_405_39 rfl ?_
  refine Bod.go dc_405_40 rfl ?_
  refine Bod.ic 1 (by decide) dc_405_41 ?_
  refine Bod.virt (r := []) dc_405_42 kr_405_683 ⟨Or.inl rfl, ow_363, cl_14⟩ (by rw [np_363]; rfl) (by rw [np_363]; rfl) (ob_of (mk_61 _)) (Nat.le_of_ble_eq_true rfl) (c1  ) ?_
  show Bod _ _ _ _ [_] _ _ _
  refine Bod.ifT dc_405_45 rfl (k1_eq_T (k_eq 0 0 rfl rfl (by omega))) ?_
  refine Bod.go dc_405_64 rfl ?_
  refine Bod.get dc_405_65 fr_405_496 (mk_61 _) rfl ?_
  refine Bod.go dc_405_68 rfl ?_
  refine Bod.ialdN x rfl (by omega) (by omega) dc_405_69 (mk_91 _) ?_
  refine Bod.eqI (nI e912) (by first | assumption | (simp (disch := omega) only [rI, rIe, rA, rIA, rLA, rJA, rVI, rQI, rVA, rQA, upd_at,  rAI, rLI, rJI, nI_add, pk_sub, kc_0, kc_1, kc_2, kc_3, kc_4, kc_5, reduceIte, Nat.reduceEqDiff, Nat.add_zero, rI_hold, rI_hold, rL_hold, he91, he911, he912]; done) | (simp (disch := omega) only [rI, rIe, rA, rIA, rLA, rJA, rVI, rQI, rVA, rQA, upd_at,  rAI, rLI, rJI, nI_add, pk_sub, kc_0, kc_1, kc_2, kc_3, kc_4, kc_5, reduceIte, Nat.reduceEqDiff, Nat.add_zero, rI_hold, rI_hold, rL_hold, he91, he911, he912]; exact congrArg nI (by omega))) ?_
  refine Bod.ic 1 (by decide) dc_405_70 ?_
  refine Bod.icF dc_405_71 rfl (k2_ne_F (k_eq e912 1 rfl rfl (by omega))) ?_
  refine Bod.go dc_405_74 rfl ?_
  refine Bod.get dc_405_75 fr_405_496 (mk_61 _) rfl ?_
  refine Bod.go dc_405_78 rfl ?_
  refine Bod.ialdN y rfl (by omega) (by omega) dc_405_79 (mk_91 _) ?_
  refine Bod.eqI (nI e913) (by first | assumption | (simp (disch := omega) only [rI, rIe, rA, rIA, rLA, rJA, rVI, rQI, rVA, rQA, upd_at,  rAI, rLI, rJI, nI_add, pk_sub, kc_0, kc_1, kc_2, kc_3, kc_4, kc_5, reduceIte, Nat.reduceEqDiff, Nat.add_zero, rI_hold, rI_hold, rL_hold, he91, he911, he912, he913]; done) | (simp (disch := omega) only [rI, rIe, rA, rIA, rLA, rJA, rVI, rQI, rVA, rQA, upd_at,  rAI, rLI, rJI, nI_add, pk_sub, kc_0, kc_1, kc_2, kc_3, kc_4, kc_5, reduceIte, Nat.reduceEqDiff, Nat.add_zero, rI_hold, rI_hold, rL_hold, he91, he911, he912, he913]; exact congrArg nI (by omega))) ?_
  refine Bod.ic 1 (by decide) dc_405_80 ?_
  refine Bod.icT dc_405_81 rfl (k2_eq_T (k_eq e913 1 rfl rfl (by omega))) ?_
  refine Bod.go dc_405_90 rfl ?_
  refine Bod.get dc_405_91 fr_405_499 (mk_61 _) rfl ?_
  refine Bod.go dc_405_94 rfl ?_
  refine Bod.laldN x rfl (by omega) (by omega) dc_405_95 (mk_92 _) ?_
  refine Bod.lst dc_405_96 (by rw [ml_405]; exact Nat.le_of_ble_eq_true rfl) ?_
  refine Bod.go dc_405_98 rfl ?_
  refine Bod.get dc_405_99 fr_405_499 (mk_61 _) rfl ?_
  refine Bod.go dc_405_102 rfl ?_
  refine Bod.laldN y rfl (by omega) (by omega) dc_405_103 (mk_92 _) ?_
  refine Bod.lst dc_405_104 (by rw [ml_405]; exact Nat.le_of_ble_eq_true rfl) ?_
  refine Bod.go dc_405_106 rfl ?_
  refine Bod.sw (t := 156) dc_405_107 rfl rfl (by decide +kernel) ?_
  refine Bod.go dc_405_156 rfl ?_
  refine Bod.go dc_405_158 rfl ?_
  refine Bod.go dc_405_160 rfl ?_
  refine Bod.lst dc_405_161 (by rw [ml_405]; exact Nat.le_of_ble_eq_true rfl) ?_
  refine Bod.go dc_405_163 rfl ?_
  refine Bod.go dc_405_165 rfl ?_
  refine Bod.go dc_405_167 rfl ?_
  refine Bod.go dc_405_168 rfl ?_
  refine Bod.go dc_405_170 rfl ?_
  refine Bod.go dc_405_172 rfl ?_
  refine Bod.go dc_405_173 rfl ?_
  refine Bod.go dc_405_174 rfl ?_
  refine Bod.go dc_405_175 rfl ?_
  refine Bod.ifF dc_405_176 rfl w18 ?_
  refine Bod.go dc_405_179 rfl ?_
  refine Bod.bip 6 (by decide) dc_405_180 ?_
  refine Bod.virt (r := []) dc_405_182 kr_405_608 ⟨Or.inl rfl, ow_351, cl_14⟩ (by rw [np_351]; rfl) (by rw [np_351]; rfl) (ob_of (mk_61 _)) (Nat.le_of_ble_eq_true rfl) (c2  ) ?_
  show Bod _ _ _ _ [_] _ _ _
  exact Bod.retZ dc_405_185 rt_405 (Or.inl rfl)
theorem rRkA_20 {d : Nat} {S : cS} {x : Nat} {y : Nat} {e91 : Nat} {e911 : Nat} {S1 : cS} {e912 : Nat} {e913 : Nat} {S2 : cS} (mx : x < 2 ^ 20) (my : y < 2 ^ 20) (b1 : x < 20480) (he91 : sA S 91 x = nI e91) (me91 : e91 < 2 ^ 20) (b2 : e91 = 2) (b3 : y < 20480) (he911 : sA S 91 y = nI e911) (me911 : e911 < 2 ^ 20) (b4 : e911 ≠ 2) (c1 : Ans (d + 8) 363 [.ref 61, .int (nI x), .int (nI 1)] S (some (.int (nI 0))) S1) (he912 : sA S1 91 x = nI e912) (me912 : e912 < 2 ^ 20) (b5 : e912 = 1) (he913 : sA S1 91 y = nI e913) (me913 : e913 < 2 ^ 20) (b6 : e913 ≠ 1) (c2 : Ans (d + 8) 351 [.ref 61, .int (nI 2)] S1 (some (.int (nI 0))) S2) : Bod (d + 8) 405 0 [(0, .ref 61), (1, .int (nI 43)), (2, .int (nI x)), (3, .int (nI y))] [] S (some (.int 0)) (S2) := by
  refine Bod.go dc_405_0 rfl ?_
  refine Bod.bip 43 (by decide) dc_405_1 ?_
  refine Bod.icF dc_405_3 rfl (k2_ne_F (k_eq 43 43 rfl rfl (by omega))) ?_
  refine Bod.go dc_405_6 rfl ?_
  refine Bod.get dc_405_7 fr_405_496 (mk_61 _) rfl ?_
  refine Bod.go dc_405_10 rfl ?_
  refine Bod.ialdN x rfl (by omega) (by omega) dc_405_11 (mk_91 _) ?_
  refine Bod.eqI (nI e91) (by first | assumption | rfl | exact congrArg nI (by omega) | (simp (disch := omega) only [rI, rIe, rA, rIA, rLA, rJA, rVI, rQI, rVA, rQA, upd_at,  rAI, rLI, rJI, nI_add, pk_sub, kc_0, kc_1, kc_2, kc_3, kc_4, kc_5, reduceIte, Nat.reduceEqDiff, Nat.add_zero, rI_hold, rI_hold, rL_hold, he91]; done)) ?_
  refine Bod.ic 2 (by decide) dc_405_12 ?_
  refine Bod.icF dc_405_13 rfl (k2_ne_F (k_eq e91 2 rfl rfl (by omega))) ?_
  refine Bod.go dc_405_16 rfl ?_
  refine Bod.get dc_405_17 fr_405_496 (mk_61 _) rfl ?_
  refine Bod.go dc_405_20 rfl ?_
  refine Bod.ialdN y rfl (by omega) (by omega) dc_405_21 (mk_91 _) ?_
  refine Bod.eqI (nI e911) (by first | assumption | rfl | exact congrArg nI (by omega) | (simp (disch := omega) only [rI, rIe, rA, rIA, rLA, rJA, rVI, rQI, rVA, rQA, upd_at,  rAI, rLI, rJI, nI_add, pk_sub, kc_0, kc_1, kc_2, kc_3, kc_4, kc_5, reduceIte, Nat.reduceEqDiff, Nat.add_zero, rI_hold, rI_hold, rL_hold, he91, he911]; done)) ?_
  refine Bod.ic 2 (by decide) dc_405_22 ?_
  refine Bod.icT dc_405_23 rfl (k2_ne_T (k_ne e911 2 rfl rfl (by omega) (by omega) (by omega))) ?_
  refine Bod.go dc_405_33 rfl ?_
  refine Bod.bip 43 (by decide) dc_405_34 ?_
  refine Bod.icF dc_405_36 rfl (k2_ne_F (k_eq 43 43 rfl rfl (by omega))) ?_
  refine Bod.go dc_405_39 rfl ?_
  refine Bod.go dc_405_40 rfl ?_
  refine Bod.ic 1 (by decide) dc_405_41 ?_
  refine Bod.virt (r := []) dc_405_42 kr_405_683 ⟨Or.inl rfl, ow_363, cl_14⟩ (by rw [np_363]; rfl) (by rw [np_363]; rfl) (ob_of (mk_61 _)) (Nat.le_of_ble_eq_true rfl) (c1  ) ?_
  show Bod _ _ _ _ [_] _ _ _
  refine Bod.ifT dc_405_45 rfl (k1_eq_T (k_eq 0 0 rfl rfl (by omega))) ?_
  refine Bod.go dc_405_64 rfl ?_
  refine Bod.get dc_405_65 fr_405_496 (mk_61 _) rfl ?_
  refine Bod.go dc_405_68 rfl ?_
  refine Bod.ialdN x rfl (by omega) (by omega) dc_405_69 (mk_91 _) ?_
  refine Bod.eqI (nI e912) (by first | assumption | (simp (disch := omega) only [rI, rIe, rA, rIA, rLA, rJA, rVI, rQI, rVA, rQA, upd_at,  rAI, rLI, rJI, nI_add, pk_sub, kc_0, kc_1, kc_2, kc_3, kc_4, kc_5, reduceIte, Nat.reduceEqDiff, Nat.add_zero, rI_hold, rI_hold, rL_hold, he91, he911, he912]; done) | (simp (disch := omega) only [rI, rIe, rA, rIA, rLA, rJA, rVI, rQI, rVA, rQA, upd_at,  rAI, rLI, rJI, nI_add, pk_sub, kc_0, kc_1, kc_2, kc_3, kc_4, kc_5, reduceIte, Nat.reduceEqDiff, Nat.add_zero, rI_hold, rI_hold, rL_hold, he91, he911, he912]; exact congrArg nI (by omega))) ?_
  refine Bod.ic 1 (by decide) dc_405_70 ?_
  refine Bod.icF dc_405_71 rfl (k2_ne_F (k_eq e912 1 rfl rfl (by omega))) ?_
  refine Bod.go dc_405_74 rfl ?_
  refine Bod.get dc_405_75 fr_405_496 (mk_61 _) rfl ?_
  refine Bod.go dc_405_78 rfl ?_
  refine Bod.ialdN y rfl (by omega) (by omega) dc_405_79 (mk_91 _) ?_
  refine Bod.eqI (nI e913) (by first | assumption | (simp (disch := omega) only [rI, rIe, rA, rIA, rLA, rJA, rVI, rQI, rVA, rQA, upd_at,  rAI, rLI, rJI, nI_add, pk_sub, kc_0, kc_1, kc_2, kc_3, kc_4, kc_5, reduceIte, Nat.reduceEqDiff, Nat.add_zero, rI_hold, rI_hold, rL_hold, he91, he911, he912, he913]; done) | (simp (disch := omega) only [rI, rIe, rA, rIA, rLA, rJA, rVI, rQI, rVA, rQA, upd_at,  rAI, rLI, rJI, nI_add, pk_sub, kc_0, kc_1, kc_2, kc_3, kc_4, kc_5, reduceIte, Nat.reduceEqDiff, Nat.add_zero, rI_hold, rI_hold, rL_hold, he91, he911, he912, he913]; exact congrArg nI (by omega))) ?_
  refine Bod.ic 1 (by decide) dc_405_80 ?_
  refine Bod.icF dc_405_81 rfl (k2_eq_F (k_ne e913 1 rfl rfl (by omega) (by omega) (by omega))) ?_
  refine Bod.go dc_405_84 rfl ?_
  refine Bod.ic 2 (by decide) dc_405_85 ?_
  refine Bod.virt (r := []) dc_405_86 kr_405_608 ⟨Or.inl rfl, ow_351, cl_14⟩ (by rw [np_351]; rfl) (by rw [np_351]; rfl) (ob_of (mk_61 _)) (Nat.le_of_ble_eq_true rfl) (c2  ) ?_
  show Bod _ _ _ _ [_] _ _ _
  exact Bod.retZ dc_405_89 rt_405 (Or.inl rfl)
theorem rRkA_21 {d : Nat} {S : cS} {x : Nat} {y : Nat} {e91 : Nat} {e911 : Nat} {S1 : cS} (mx : x < 2 ^ 20) (my : y < 2 ^ 20) (b1 : x < 20480) (he91 : sA S 91 x = nI e91) (me91 : e91 < 2 ^ 20) (b2 : e91 = 2) (b3 : y < 20480) (he911 : sA S 91 y = nI e911) (me911 : e911 < 2 ^ 20) (b4 : e911 = 2) (c1 : Ans (d + 8) 406 [.ref 61, .int (nI x), .int (nI y)] S (some (.int (nI 1))) S1) : Bod (d + 8) 405 0 [(0, .ref 61), (1, .int (nI 43)), (2, .int (nI x)), (3, .int (nI y))] [] S (some (.int 1)) (S1) := by
  refine Bod.go dc_405_0 rfl ?_
  refine Bod.bip 43 (by decide) dc_405_1 ?_
  refine Bod.icF dc_405_3 rfl (k2_ne_F (k_eq 43 43 rfl rfl (by omega))) ?_
  refine Bod.go dc_405_6 rfl ?_
  refine Bod.get dc_405_7 fr_405_496 (mk_61 _) rfl ?_
  refine Bod.go dc_405_10 rfl ?_
  refine Bod.ialdN x rfl (by omega) (by omega) dc_405_11 (mk_91 _) ?_
  refine Bod.eqI (nI e91) (by first | assumption | rfl | exact congrArg nI (by omega) | (simp (disch := omega) only [rI, rIe, rA, rIA, rLA, rJA, rVI, rQI, rVA, rQA, upd_at,  rAI, rLI, rJI, nI_add, pk_sub, kc_0, kc_1, kc_2, kc_3, kc_4, kc_5, reduceIte, Nat.reduceEqDiff, Nat.add_zero, rI_hold, rI_hold, rL_hold, he91]; done)) ?_
  refine Bod.ic 2 (by decide) dc_405_12 ?_
  refine Bod.icF dc_405_13 rfl (k2_ne_F (k_eq e91 2 rfl rfl (by omega))) ?_
  refine Bod.go dc_405_16 rfl ?_
  refine Bod.get dc_405_17 fr_405_496 (mk_61 _) rfl ?_
  refine Bod.go dc_405_20 rfl ?_
  refine Bod.ialdN y rfl (by omega) (by omega) dc_405_21 (mk_91 _) ?_
  refine Bod.eqI (nI e911) (by first | assumption | rfl | exact congrArg nI (by omega) | (simp (disch := omega) only [rI, rIe, rA, rIA, rLA, rJA, rVI, rQI, rVA, rQA, upd_at,  rAI, rLI, rJI, nI_add, pk_sub, kc_0, kc_1, kc_2, kc_3, kc_4, kc_5, reduceIte, Nat.reduceEqDiff, Nat.add_zero, rI_hold, rI_hold, rL_hold, he91, he911]; done)) ?_
  refine Bod.ic 2 (by decide) dc_405_22 ?_
  refine Bod.icF dc_405_23 rfl (k2_ne_F (k_eq e911 2 rfl rfl (by omega))) ?_
  refine Bod.go dc_405_26 rfl ?_
  refine Bod.go dc_405_27 rfl ?_
  refine Bod.go dc_405_28 rfl ?_
  refine Bod.virt (r := []) dc_405_29 kr_405_734 ⟨Or.inl rfl, ow_406, cl_14⟩ (by rw [np_406]; rfl) (by rw [np_406]; rfl) (ob_of (mk_61 _)) (Nat.le_of_ble_eq_true rfl) (c1  ) ?_
  show Bod _ _ _ _ [_] _ _ _
  exact Bod.retZ dc_405_32 rt_405 (Or.inr rfl)
theorem rRkA_22 {d : Nat} {S : cS} {x : Nat} {y : Nat} {e91 : Nat} {e911 : Nat} {S1 : cS} (mx : x < 2 ^ 20) (my : y < 2 ^ 20) (b1 : x < 20480) (he91 : sA S 91 x = nI e91) (me91 : e91 < 2 ^ 20) (b2 : e91 = 2) (b3 : y < 20480) (he911 : sA S 91 y = nI e911) (me911 : e911 < 2 ^ 20) (b4 : e911 = 2) (c1 : Ans (d + 8) 406 [.ref 61, .int (nI x), .int (nI y)] S (some (.int (nI 0))) S1) : Bod (d + 8) 405 0 [(0, .ref 61), (1, .int (nI 43)), (2, .int (nI x)), (3, .int (nI y))] [] S (some (.int 0)) (S1) := by
  refine Bod.go dc_405_0 rfl ?_
  refine Bod.bip 43 (by decide) dc_405_1 ?_
  refine Bod.icF dc_405_3 rfl (k2_ne_F (k_eq 43 43 rfl rfl (by omega))) ?_
  refine Bod.go dc_405_6 rfl ?_
  refine Bod.get dc_405_7 fr_405_496 (mk_61 _) rfl ?_
  refine Bod.go dc_405_10 rfl ?_
  refine Bod.ialdN x rfl (by omega) (by omega) dc_405_11 (mk_91 _) ?_
  refine Bod.eqI (nI e91) (by first | assumption | rfl | exact congrArg nI (by omega) | (simp (disch := omega) only [rI, rIe, rA, rIA, rLA, rJA, rVI, rQI, rVA, rQA, upd_at,  rAI, rLI, rJI, nI_add, pk_sub, kc_0, kc_1, kc_2, kc_3, kc_4, kc_5, reduceIte, Nat.reduceEqDiff, Nat.add_zero, rI_hold, rI_hold, rL_hold, he91]; done)) ?_
  refine Bod.ic 2 (by decide) dc_405_12 ?_
  refine Bod.icF dc_405_13 rfl (k2_ne_F (k_eq e91 2 rfl rfl (by omega))) ?_
  refine Bod.go dc_405_16 rfl ?_
  refine Bod.get dc_405_17 fr_405_496 (mk_61 _) rfl ?_
  refine Bod.go dc_405_20 rfl ?_
  refine Bod.ialdN y rfl (by omega) (by omega) dc_405_21 (mk_91 _) ?_
  refine Bod.eqI (nI e911) (by first | assumption | rfl | exact congrArg nI (by omega) | (simp (disch := omega) only [rI, rIe, rA, rIA, rLA, rJA, rVI, rQI, rVA, rQA, upd_at,  rAI, rLI, rJI, nI_add, pk_sub, kc_0, kc_1, kc_2, kc_3, kc_4, kc_5, reduceIte, Nat.reduceEqDiff, Nat.add_zero, rI_hold, rI_hold, rL_hold, he91, he911]; done)) ?_
  refine Bod.ic 2 (by decide) dc_405_22 ?_
  refine Bod.icF dc_405_23 rfl (k2_ne_F (k_eq e911 2 rfl rfl (by omega))) ?_
  refine Bod.go dc_405_26 rfl ?_
  refine Bod.go dc_405_27 rfl ?_
  refine Bod.go dc_405_28 rfl ?_
  refine Bod.virt (r := []) dc_405_29 kr_405_734 ⟨Or.inl rfl, ow_406, cl_14⟩ (by rw [np_406]; rfl) (by rw [np_406]; rfl) (ob_of (mk_61 _)) (Nat.le_of_ble_eq_true rfl) (c1  ) ?_
  show Bod _ _ _ _ [_] _ _ _
  exact Bod.retZ dc_405_32 rt_405 (Or.inl rfl)
theorem rRkS_1 {d : Nat} {S : cS} {x : Nat} {y : Nat} {e91 : Nat} {S1 : cS} (mx : x < 2 ^ 20) (my : y < 2 ^ 20) (b1 : x < 20480) (he91 : sA S 91 x = nI e91) (me91 : e91 < 2 ^ 20) (b2 : e91 ≠ 1) (c1 : Ans (d + 8) 351 [.ref 61, .int (nI 2)] S (some (.int (nI 0))) S1) : Bod (d + 8) 405 0 [(0, .ref 61), (1, .int (nI 45)), (2, .int (nI x)), (3, .int (nI y))] [] S (some (.int 0)) (S1) := by
  refine Bod.go dc_405_0 rfl ?_
  refine Bod.bip 43 (by decide) dc_405_1 ?_
  refine Bod.icT dc_405_3 rfl (k2_ne_T (k_ne 45 43 rfl rfl (by omega) (by omega) (by omega))) ?_
  refine Bod.go dc_405_33 rfl ?_
  refine Bod.bip 43 (by decide) dc_405_34 ?_
  refine Bod.icT dc_405_36 rfl (k2_ne_T (k_ne 45 43 rfl rfl (by omega) (by omega) (by omega))) ?_
  refine Bod.go dc_405_64 rfl ?_
  refine Bod.get dc_405_65 fr_405_496 (mk_61 _) rfl ?_
  refine Bod.go dc_405_68 rfl ?_
  refine Bod.ialdN x rfl (by omega) (by omega) dc_405_69 (mk_91 _) ?_
  refine Bod.eqI (nI e91) (by first | assumption | rfl | exact congrArg nI (by omega) | (simp (disch := omega) only [rI, rIe, rA, rIA, rLA, rJA, rVI, rQI, rVA, rQA, upd_at,  rAI, rLI, rJI, nI_add, pk_sub, kc_0, kc_1, kc_2, kc_3, kc_4, kc_5, reduceIte, Nat.reduceEqDiff, Nat.add_zero, rI_hold, rI_hold, rL_hold, he91]; done)) ?_
  refine Bod.ic 1 (by decide) dc_405_70 ?_
  refine Bod.icT dc_405_71 rfl (k2_ne_T (k_ne e91 1 rfl rfl (by omega) (by omega) (by omega))) ?_
  refine Bod.go dc_405_84 rfl ?_
  refine Bod.ic 2 (by decide) dc_405_85 ?_
  refine Bod.virt (r := []) dc_405_86 kr_405_608 ⟨Or.inl rfl, ow_351, cl_14⟩ (by rw [np_351]; rfl) (by rw [np_351]; rfl) (ob_of (mk_61 _)) (Nat.le_of_ble_eq_true rfl) (c1  ) ?_
  show Bod _ _ _ _ [_] _ _ _
  exact Bod.retZ dc_405_89 rt_405 (Or.inl rfl)
theorem rRkS_2 {d : Nat} {S : cS} {x : Nat} {y : Nat} {e91 : Nat} {e911 : Nat} {t : Nat} {S1 : cS} (mx : x < 2 ^ 20) (my : y < 2 ^ 20) (b1 : x < 20480) (he91 : sA S 91 x = nI e91) (me91 : e91 < 2 ^ 20) (b2 : e91 = 1) (b3 : y < 20480) (he911 : sA S 91 y = nI e911) (me911 : e911 < 2 ^ 20) (b4 : e911 = 1) (w11 : sm_c1 .ge (lg_cmp (((sL S 92 x) ^^^ (sL S 92 y)) &&& ((sL S 92 x) ^^^ ((sL S 92 x) - (sL S 92 y)))) 0) true false = true) (ht : sI S 6151 = nI t) (mt : t < 20481) (b5 : 2 ≤ t) (c1 : Ans (d + 8) 353 [.ref 61, .long ((sL S 92 x) - (sL S 92 y))] (wI 6151 (nI (t - 2)) S) none S1) : Bod (d + 8) 405 0 [(0, .ref 61), (1, .int (nI 45)), (2, .int (nI x)), (3, .int (nI y))] [] S (some (.int 1)) (S1) := by
  refine Bod.go dc_405_0 rfl ?_
  refine Bod.bip 43 (by decide) dc_405_1 ?_
  refine Bod.icT dc_405_3 rfl (k2_ne_T (k_ne 45 43 rfl rfl (by omega) (by omega) (by omega))) ?_
  refine Bod.go dc_405_33 rfl ?_
  refine Bod.bip 43 (by decide) dc_405_34 ?_
  refine Bod.icT dc_405_36 rfl (k2_ne_T (k_ne 45 43 rfl rfl (by omega) (by omega) (by omega))) ?_
  refine Bod.go dc_405_64 rfl ?_
  refine Bod.get dc_405_65 fr_405_496 (mk_61 _) rfl ?_
  refine Bod.go dc_405_68 rfl ?_
  refine Bod.ialdN x rfl (by omega) (by omega) dc_405_69 (mk_91 _) ?_
  refine Bod.eqI (nI e91) (by first | assumption | rfl | exact congrArg nI (by omega) | (simp (disch := omega) only [rI, rIe, rA, rIA, rLA, rJA, rVI, rQI, rVA, rQA, upd_at,  rAI, rLI, rJI, nI_add, pk_sub, kc_0, kc_1, kc_2, kc_3, kc_4, kc_5, reduceIte, Nat.reduceEqDiff, Nat.add_zero, rI_hold, rI_hold, rL_hold, he91]; done)) ?_
  refine Bod.ic 1 (by decide) dc_405_70 ?_
  refine Bod.icF dc_405_71 rfl (k2_ne_F (k_eq e91 1 rfl rfl (by omega))) ?_
  refine Bod.go dc_405_74 rfl ?_
  refine Bod.get dc_405_75 fr_405_496 (mk_61 _) rfl ?_
  refine Bod.go dc_405_78 rfl ?_
  refine Bod.ialdN y rfl (by omega) (by omega) dc_405_79 (mk_91 _) ?_
  refine Bod.eqI (nI e911) (by first | assumption | rfl | exact congrArg nI (by omega) | (simp (disch := omega) only [rI, rIe, rA, rIA, rLA, rJA, rVI, rQI, rVA, rQA, upd_at,  rAI, rLI, rJI, nI_add, pk_sub, kc_0, kc_1, kc_2, kc_3, kc_4, kc_5, reduceIte, Nat.reduceEqDiff, Nat.add_zero, rI_hold, rI_hold, rL_hold, he91, he911]; done)) ?_
  refine Bod.ic 1 (by decide) dc_405_80 ?_
  refine Bod.icT dc_405_81 rfl (k2_eq_T (k_eq e911 1 rfl rfl (by omega))) ?_
  refine Bod.go dc_405_90 rfl ?_
  refine Bod.get dc_405_91 fr_405_499 (mk_61 _) rfl ?_
  refine Bod.go dc_405_94 rfl ?_
  refine Bod.laldN x rfl (by omega) (by omega) dc_405_95 (mk_92 _) ?_
  refine Bod.lst dc_405_96 (by rw [ml_405]; exact Nat.le_of_ble_eq_true rfl) ?_
  refine Bod.go dc_405_98 rfl ?_
  refine Bod.get dc_405_99 fr_405_499 (mk_61 _) rfl ?_
  refine Bod.go dc_405_102 rfl ?_
  refine Bod.laldN y rfl (by omega) (by omega) dc_405_103 (mk_92 _) ?_
  refine Bod.lst dc_405_104 (by rw [ml_405]; exact Nat.le_of_ble_eq_true rfl) ?_
  refine Bod.go dc_405_106 rfl ?_
  refine Bod.sw (t := 186) dc_405_107 rfl rfl (by decide +kernel) ?_
  refine Bod.go dc_405_186 rfl ?_
  refine Bod.go dc_405_188 rfl ?_
  refine Bod.go dc_405_190 rfl ?_
  refine Bod.lst dc_405_191 (by rw [ml_405]; exact Nat.le_of_ble_eq_true rfl) ?_
  refine Bod.go dc_405_193 rfl ?_
  refine Bod.go dc_405_195 rfl ?_
  refine Bod.go dc_405_197 rfl ?_
  refine Bod.go dc_405_198 rfl ?_
  refine Bod.go dc_405_200 rfl ?_
  refine Bod.go dc_405_202 rfl ?_
  refine Bod.go dc_405_203 rfl ?_
  refine Bod.go dc_405_204 rfl ?_
  refine Bod.go dc_405_205 rfl ?_
  refine Bod.ifT dc_405_206 rfl w11 ?_
  refine Bod.go dc_405_331 rfl ?_
  refine Bod.go dc_405_332 rfl ?_
  refine Bod.get dc_405_333 fr_405_493 (mk_61 _) rfl ?_
  refine Bod.eqI (nI t) (by first | assumption | rfl | exact congrArg nI (by omega) | (simp (disch := omega) only [rI, rIe, rA, rIA, rLA, rJA, rVI, rQI, rVA, rQA, upd_at,  rAI, rLI, rJI, nI_add, pk_sub, kc_0, kc_1, kc_2, kc_3, kc_4, kc_5, reduceIte, Nat.reduceEqDiff, Nat.add_zero, rI_hold, rI_hold, rL_hold, he91, he911, ht]; done)) ?_
  refine Bod.ic 2 (by decide) dc_405_336 ?_
  refine Bod.subN (t - 2) (by omega) (by omega) dc_405_337 ?_
  refine Bod.put dc_405_338 fr_405_493 (mk_61 _) (Nat.le_of_ble_eq_true rfl) pf_14_51 (st_6151 _ _) (mu_I _ _ _) ?_
  refine Bod.go dc_405_341 rfl ?_
  refine Bod.go dc_405_342 rfl ?_
  refine Bod.virt (r := []) dc_405_344 kr_405_613 ⟨Or.inl rfl, ow_353, cl_14⟩ (by rw [np_353]; rfl) (by rw [np_353]; rfl) (ob_of (mk_61 _)) (Nat.le_of_ble_eq_true rfl) (c1  ) ?_
  show Bod _ _ _ _ [] _ _ _
  refine Bod.ic 1 (by decide) dc_405_347 ?_
  exact Bod.retZ dc_405_348 rt_405 (Or.inr rfl)
theorem rRkS_3 {d : Nat} {S : cS} {x : Nat} {y : Nat} {e91 : Nat} {e911 : Nat} {S1 : cS} (mx : x < 2 ^ 20) (my : y < 2 ^ 20) (b1 : x < 20480) (he91 : sA S 91 x = nI e91) (me91 : e91 < 2 ^ 20) (b2 : e91 = 1) (b3 : y < 20480) (he911 : sA S 91 y = nI e911) (me911 : e911 < 2 ^ 20) (b4 : e911 = 1) (w11 : sm_c1 .ge (lg_cmp (((sL S 92 x) ^^^ (sL S 92 y)) &&& ((sL S 92 x) ^^^ ((sL S 92 x) - (sL S 92 y)))) 0) true false = false) (c1 : Ans (d + 8) 351 [.ref 61, .int (nI 6)] S (some (.int (nI 0))) S1) : Bod (d + 8) 405 0 [(0, .ref 61), (1, .int (nI 45)), (2, .int (nI x)), (3, .int (nI y))] [] S (some (.int 0)) (S1) := by
  refine Bod.go dc_405_0 rfl ?_
  refine Bod.bip 43 (by decide) dc_405_1 ?_
  refine Bod.icT dc_405_3 rfl (k2_ne_T (k_ne 45 43 rfl rfl (by omega) (by omega) (by omega))) ?_
  refine Bod.go dc_405_33 rfl ?_
  refine Bod.bip 43 (by decide) dc_405_34 ?_
  refine Bod.icT dc_405_36 rfl (k2_ne_T (k_ne 45 43 rfl rfl (by omega) (by omega) (by omega))) ?_
  refine Bod.go dc_405_64 rfl ?_
  refine Bod.get dc_405_65 fr_405_496 (mk_61 _) rfl ?_
  refine Bod.go dc_405_68 rfl ?_
  refine Bod.ialdN x rfl (by omega) (by omega) dc_405_69 (mk_91 _) ?_
  refine Bod.eqI (nI e91) (by first | assumption | rfl | exact congrArg nI (by omega) | (simp (disch := omega) only [rI, rIe, rA, rIA, rLA, rJA, rVI, rQI, rVA, rQA, upd_at,  rAI, rLI, rJI, nI_add, pk_sub, kc_0, kc_1, kc_2, kc_3, kc_4, kc_5, reduceIte, Nat.reduceEqDiff, Nat.add_zero, rI_hold, rI_hold, rL_hold, he91]; done)) ?_
  refine Bod.ic 1 (by decide) dc_405_70 ?_
  refine Bod.icF dc_405_71 rfl (k2_ne_F (k_eq e91 1 rfl rfl (by omega))) ?_
  refine Bod.go dc_405_74 rfl ?_
  refine Bod.get dc_405_75 fr_405_496 (mk_61 _) rfl ?_
  refine Bod.go dc_405_78 rfl ?_
  refine Bod.ialdN y rfl (by omega) (by omega) dc_405_79 (mk_91 _) ?_
  refine Bod.eqI (nI e911) (by first | assumption | rfl | exact congrArg nI (by omega) | (simp (disch := omega) only [rI, rIe, rA, rIA, rLA, rJA, rVI, rQI, rVA, rQA, upd_at,  rAI, rLI, rJI, nI_add, pk_sub, kc_0, kc_1, kc_2, kc_3, kc_4, kc_5, reduceIte, Nat.reduceEqDiff, Nat.add_zero, rI_hold, rI_hold, rL_hold, he91, he911]; done)) ?_
  refine Bod.ic 1 (by decide) dc_405_80 ?_
  refine Bod.icT dc_405_81 rfl (k2_eq_T (k_eq e911 1 rfl rfl (by omega))) ?_
  refine Bod.go dc_405_90 rfl ?_
  refine Bod.get dc_405_91 fr_405_499 (mk_61 _) rfl ?_
  refine Bod.go dc_405_94 rfl ?_
  refine Bod.laldN x rfl (by omega) (by omega) dc_405_95 (mk_92 _) ?_
  refine Bod.lst dc_405_96 (by rw [ml_405]; exact Nat.le_of_ble_eq_true rfl) ?_
  refine Bod.go dc_405_98 rfl ?_
  refine Bod.get dc_405_99 fr_405_499 (mk_61 _) rfl ?_
  refine Bod.go dc_405_102 rfl ?_
  refine Bod.laldN y rfl (by omega) (by omega) dc_405_103 (mk_92 _) ?_
  refine Bod.lst dc_405_104 (by rw [ml_405]; exact Nat.le_of_ble_eq_true rfl) ?_
  refine Bod.go dc_405_106 rfl ?_
  refine Bod.sw (t := 186) dc_405_107 rfl rfl (by decide +kernel) ?_
  refine Bod.go dc_405_186 rfl ?_
  refine Bod.go dc_405_188 rfl ?_
  refine Bod.go dc_405_190 rfl ?_
  refine Bod.lst dc_405_191 (by rw [ml_405]; exact Nat.le_of_ble_eq_true rfl) ?_
  refine Bod.go dc_405_193 rfl ?_
  refine Bod.go dc_405_195 rfl ?_
  refine Bod.go dc_405_197 rfl ?_
  refine Bod.go dc_405_198 rfl ?_
  refine Bod.go dc_405_200 rfl ?_
  refine Bod.go dc_405_202 rfl ?_
  refine Bod.go dc_405_203 rfl ?_
  refine Bod.go dc_405_204 rfl ?_
  refine Bod.go dc_405_205 rfl ?_
  refine Bod.ifF dc_405_206 rfl w11 ?_
  refine Bod.go dc_405_209 rfl ?_
  refine Bod.bip 6 (by decide) dc_405_210 ?_
  refine Bod.virt (r := []) dc_405_212 kr_405_608 ⟨Or.inl rfl, ow_351, cl_14⟩ (by rw [np_351]; rfl) (by rw [np_351]; rfl) (ob_of (mk_61 _)) (Nat.le_of_ble_eq_true rfl) (c1  ) ?_
  show Bod _ _ _ _ [_] _ _ _
  exact Bod.retZ dc_405_215 rt_405 (Or.inl rfl)
theorem rRkS_4 {d : Nat} {S : cS} {x : Nat} {y : Nat} {e91 : Nat} {e911 : Nat} {S1 : cS} (mx : x < 2 ^ 20) (my : y < 2 ^ 20) (b1 : x < 20480) (he91 : sA S 91 x = nI e91) (me91 : e91 < 2 ^ 20) (b2 : e91 = 1) (b3 : y < 20480) (he911 : sA S 91 y = nI e911) (me911 : e911 < 2 ^ 20) (b4 : e911 ≠ 1) (c1 : Ans (d + 8) 351 [.ref 61, .int (nI 2)] S (some (.int (nI 0))) S1) : Bod (d + 8) 405 0 [(0, .ref 61), (1, .int (nI 45)), (2, .int (nI x)), (3, .int (nI y))] [] S (some (.int 0)) (S1) := by
  refine Bod.go dc_405_0 rfl ?_
  refine Bod.bip 43 (by decide) dc_405_1 ?_
  refine Bod.icT dc_405_3 rfl (k2_ne_T (k_ne 45 43 rfl rfl (by omega) (by omega) (by omega))) ?_
  refine Bod.go dc_405_33 rfl ?_
  refine Bod.bip 43 (by decide) dc_405_34 ?_
  refine Bod.icT dc_405_36 rfl (k2_ne_T (k_ne 45 43 rfl rfl (by omega) (by omega) (by omega))) ?_
  refine Bod.go dc_405_64 rfl ?_
  refine Bod.get dc_405_65 fr_405_496 (mk_61 _) rfl ?_
  refine Bod.go dc_405_68 rfl ?_
  refine Bod.ialdN x rfl (by omega) (by omega) dc_405_69 (mk_91 _) ?_
  refine Bod.eqI (nI e91) (by first | assumption | rfl | exact congrArg nI (by omega) | (simp (disch := omega) only [rI, rIe, rA, rIA, rLA, rJA, rVI, rQI, rVA, rQA, upd_at,  rAI, rLI, rJI, nI_add, pk_sub, kc_0, kc_1, kc_2, kc_3, kc_4, kc_5, reduceIte, Nat.reduceEqDiff, Nat.add_zero, rI_hold, rI_hold, rL_hold, he91]; done)) ?_
  refine Bod.ic 1 (by decide) dc_405_70 ?_
  refine Bod.icF dc_405_71 rfl (k2_ne_F (k_eq e91 1 rfl rfl (by omega))) ?_
  refine Bod.go dc_405_74 rfl ?_
  refine Bod.get dc_405_75 fr_405_496 (mk_61 _) rfl ?_
  refine Bod.go dc_405_78 rfl ?_
  refine Bod.ialdN y rfl (by omega) (by omega) dc_405_79 (mk_91 _) ?_
  refine Bod.eqI (nI e911) (by first | assumption | rfl | exact congrArg nI (by omega) | (simp (disch := omega) only [rI, rIe, rA, rIA, rLA, rJA, rVI, rQI, rVA, rQA, upd_at,  rAI, rLI, rJI, nI_add, pk_sub, kc_0, kc_1, kc_2, kc_3, kc_4, kc_5, reduceIte, Nat.reduceEqDiff, Nat.add_zero, rI_hold, rI_hold, rL_hold, he91, he911]; done)) ?_
  refine Bod.ic 1 (by decide) dc_405_80 ?_
  refine Bod.icF dc_405_81 rfl (k2_eq_F (k_ne e911 1 rfl rfl (by omega) (by omega) (by omega))) ?_
  refine Bod.go dc_405_84 rfl ?_
  refine Bod.ic 2 (by decide) dc_405_85 ?_
  refine Bod.virt (r := []) dc_405_86 kr_405_608 ⟨Or.inl rfl, ow_351, cl_14⟩ (by rw [np_351]; rfl) (by rw [np_351]; rfl) (ob_of (mk_61 _)) (Nat.le_of_ble_eq_true rfl) (c1  ) ?_
  show Bod _ _ _ _ [_] _ _ _
  exact Bod.retZ dc_405_89 rt_405 (Or.inl rfl)
theorem rRkM_1 {d : Nat} {S : cS} {x : Nat} {y : Nat} {e91 : Nat} {S1 : cS} (mx : x < 2 ^ 20) (my : y < 2 ^ 20) (b1 : x < 20480) (he91 : sA S 91 x = nI e91) (me91 : e91 < 2 ^ 20) (b2 : e91 ≠ 1) (c1 : Ans (d + 8) 351 [.ref 61, .int (nI 2)] S (some (.int (nI 0))) S1) : Bod (d + 8) 405 0 [(0, .ref 61), (1, .int (nI 42)), (2, .int (nI x)), (3, .int (nI y))] [] S (some (.int 0)) (S1) := by
  refine Bod.go dc_405_0 rfl ?_
  refine Bod.bip 43 (by decide) dc_405_1 ?_
  refine Bod.icT dc_405_3 rfl (k2_ne_T (k_ne 42 43 rfl rfl (by omega) (by omega) (by omega))) ?_
  refine Bod.go dc_405_33 rfl ?_
  refine Bod.bip 43 (by decide) dc_405_34 ?_
  refine Bod.icT dc_405_36 rfl (k2_ne_T (k_ne 42 43 rfl rfl (by omega) (by omega) (by omega))) ?_
  refine Bod.go dc_405_64 rfl ?_
  refine Bod.get dc_405_65 fr_405_496 (mk_61 _) rfl ?_
  refine Bod.go dc_405_68 rfl ?_
  refine Bod.ialdN x rfl (by omega) (by omega) dc_405_69 (mk_91 _) ?_
  refine Bod.eqI (nI e91) (by first | assumption | rfl | exact congrArg nI (by omega) | (simp (disch := omega) only [rI, rIe, rA, rIA, rLA, rJA, rVI, rQI, rVA, rQA, upd_at,  rAI, rLI, rJI, nI_add, pk_sub, kc_0, kc_1, kc_2, kc_3, kc_4, kc_5, reduceIte, Nat.reduceEqDiff, Nat.add_zero, rI_hold, rI_hold, rL_hold, he91]; done)) ?_
  refine Bod.ic 1 (by decide) dc_405_70 ?_
  refine Bod.icT dc_405_71 rfl (k2_ne_T (k_ne e91 1 rfl rfl (by omega) (by omega) (by omega))) ?_
  refine Bod.go dc_405_84 rfl ?_
  refine Bod.ic 2 (by decide) dc_405_85 ?_
  refine Bod.virt (r := []) dc_405_86 kr_405_608 ⟨Or.inl rfl, ow_351, cl_14⟩ (by rw [np_351]; rfl) (by rw [np_351]; rfl) (ob_of (mk_61 _)) (Nat.le_of_ble_eq_true rfl) (c1  ) ?_
  show Bod _ _ _ _ [_] _ _ _
  exact Bod.retZ dc_405_89 rt_405 (Or.inl rfl)
theorem rRkM_2 {d : Nat} {S : cS} {x : Nat} {y : Nat} {e91 : Nat} {e911 : Nat} {S1 : cS} {u : Int64} {t : Nat} {S2 : cS} (mx : x < 2 ^ 20) (my : y < 2 ^ 20) (b1 : x < 20480) (he91 : sA S 91 x = nI e91) (me91 : e91 < 2 ^ 20) (b2 : e91 = 1) (b3 : y < 20480) (he911 : sA S 91 y = nI e911) (me911 : e911 < 2 ^ 20) (b4 : e911 = 1) (c1 : Ans (d + 8) 408 [.long (sL S 92 x), .long (sL S 92 y)] S (some (.long u)) S1) (w12 : sm_c1 .eq (lg_cmp u (((sL S 92 x) * (sL S 92 y)) >>> ((nI 63).toInt64 &&& 63))) true false = true) (ht : sI S1 6151 = nI t) (mt : t < 20481) (b5 : 2 ≤ t) (c2 : Ans (d + 8) 353 [.ref 61, .long ((sL S 92 x) * (sL S 92 y))] (wI 6151 (nI (t - 2)) S1) none S2) : Bod (d + 8) 405 0 [(0, .ref 61), (1, .int (nI 42)), (2, .int (nI x)), (3, .int (nI y))] [] S (some (.int 1)) (S2) := by
  refine Bod.go dc_405_0 rfl ?_
  refine Bod.bip 43 (by decide) dc_405_1 ?_
  refine Bod.icT dc_405_3 rfl (k2_ne_T (k_ne 42 43 rfl rfl (by omega) (by omega) (by omega))) ?_
  refine Bod.go dc_405_33 rfl ?_
  refine Bod.bip 43 (by decide) dc_405_34 ?_
  refine Bod.icT dc_405_36 rfl (k2_ne_T (k_ne 42 43 rfl rfl (by omega) (by omega) (by omega))) ?_
  refine Bod.go dc_405_64 rfl ?_
  refine Bod.get dc_405_65 fr_405_496 (mk_61 _) rfl ?_
  refine Bod.go dc_405_68 rfl ?_
  refine Bod.ialdN x rfl (by omega) (by omega) dc_405_69 (mk_91 _) ?_
  refine Bod.eqI (nI e91) (by first | assumption | rfl | exact congrArg nI (by omega) | (simp (disch := omega) only [rI, rIe, rA, rIA, rLA, rJA, rVI, rQI, rVA, rQA, upd_at,  rAI, rLI, rJI, nI_add, pk_sub, kc_0, kc_1, kc_2, kc_3, kc_4, kc_5, reduceIte, Nat.reduceEqDiff, Nat.add_zero, rI_hold, rI_hold, rL_hold, he91]; done)) ?_
  refine Bod.ic 1 (by decide) dc_405_70 ?_
  refine Bod.icF dc_405_71 rfl (k2_ne_F (k_eq e91 1 rfl rfl (by omega))) ?_
  refine Bod.go dc_405_74 rfl ?_
  refine Bod.get dc_405_75 fr_405_496 (mk_61 _) rfl ?_
  refine Bod.go dc_405_78 rfl ?_
  refine Bod.ialdN y rfl (by omega) (by omega) dc_405_79 (mk_91 _) ?_
  refine Bod.eqI (nI e911) (by first | assumption | rfl | exact congrArg nI (by omega) | (simp (disch := omega) only [rI, rIe, rA, rIA, rLA, rJA, rVI, rQI, rVA, rQA, upd_at,  rAI, rLI, rJI, nI_add, pk_sub, kc_0, kc_1, kc_2, kc_3, kc_4, kc_5, reduceIte, Nat.reduceEqDiff, Nat.add_zero, rI_hold, rI_hold, rL_hold, he91, he911]; done)) ?_
  refine Bod.ic 1 (by decide) dc_405_80 ?_
  refine Bod.icT dc_405_81 rfl (k2_eq_T (k_eq e911 1 rfl rfl (by omega))) ?_
  refine Bod.go dc_405_90 rfl ?_
  refine Bod.get dc_405_91 fr_405_499 (mk_61 _) rfl ?_
  refine Bod.go dc_405_94 rfl ?_
  refine Bod.laldN x rfl (by omega) (by omega) dc_405_95 (mk_92 _) ?_
  refine Bod.lst dc_405_96 (by rw [ml_405]; exact Nat.le_of_ble_eq_true rfl) ?_
  refine Bod.go dc_405_98 rfl ?_
  refine Bod.get dc_405_99 fr_405_499 (mk_61 _) rfl ?_
  refine Bod.go dc_405_102 rfl ?_
  refine Bod.laldN y rfl (by omega) (by omega) dc_405_103 (mk_92 _) ?_
  refine Bod.lst dc_405_104 (by rw [ml_405]; exact Nat.le_of_ble_eq_true rfl) ?_
  refine Bod.go dc_405_106 rfl ?_
  refine Bod.sw (t := 216) dc_405_107 rfl rfl (by decide +kernel) ?_
  refine Bod.go dc_405_216 rfl ?_
  refine Bod.go dc_405_218 rfl ?_
  refine Bod.go dc_405_220 rfl ?_
  refine Bod.lst dc_405_221 (by rw [ml_405]; exact Nat.le_of_ble_eq_true rfl) ?_
  refine Bod.go dc_405_223 rfl ?_
  refine Bod.go dc_405_225 rfl ?_
  refine Bod.stat (r := []) dc_405_227 kr_405_740 (Or.inl rfl) (by rw [np_408]; rfl) (by rw [np_408]; rfl) (by rw [np_408]; exact Nat.le_of_ble_eq_true rfl) (Nat.le_of_ble_eq_true rfl) (c1  ) ?_
  show Bod _ _ _ _ [_] _ _ _
  refine Bod.go dc_405_230 rfl ?_
  refine Bod.bip 63 (by decide) dc_405_232 ?_
  refine Bod.go dc_405_234 rfl ?_
  refine Bod.go dc_405_235 rfl ?_
  refine Bod.ifT dc_405_236 rfl w12 ?_
  refine Bod.go dc_405_331 rfl ?_
  refine Bod.go dc_405_332 rfl ?_
  refine Bod.get dc_405_333 fr_405_493 (mk_61 _) rfl ?_
  refine Bod.eqI (nI t) (by first | assumption | (simp (disch := omega) only [rI, rIe, rA, rIA, rLA, rJA, rVI, rQI, rVA, rQA, upd_at,  rAI, rLI, rJI, nI_add, pk_sub, kc_0, kc_1, kc_2, kc_3, kc_4, kc_5, reduceIte, Nat.reduceEqDiff, Nat.add_zero, rI_hold, rI_hold, rL_hold, he91, he911, ht]; done) | (simp (disch := omega) only [rI, rIe, rA, rIA, rLA, rJA, rVI, rQI, rVA, rQA, upd_at,  rAI, rLI, rJI, nI_add, pk_sub, kc_0, kc_1, kc_2, kc_3, kc_4, kc_5, reduceIte, Nat.reduceEqDiff, Nat.add_zero, rI_hold, rI_hold, rL_hold, he91, he911, ht]; exact congrArg nI (by omega))) ?_
  refine Bod.ic 2 (by decide) dc_405_336 ?_
  refine Bod.subN (t - 2) (by omega) (by omega) dc_405_337 ?_
  refine Bod.put dc_405_338 fr_405_493 (mk_61 _) (Nat.le_of_ble_eq_true rfl) pf_14_51 (st_6151 _ _) (mu_I _ _ _) ?_
  refine Bod.go dc_405_341 rfl ?_
  refine Bod.go dc_405_342 rfl ?_
  refine Bod.virt (r := []) dc_405_344 kr_405_613 ⟨Or.inl rfl, ow_353, cl_14⟩ (by rw [np_353]; rfl) (by rw [np_353]; rfl) (ob_of (mk_61 _)) (Nat.le_of_ble_eq_true rfl) (c2  ) ?_
  show Bod _ _ _ _ [] _ _ _
  refine Bod.ic 1 (by decide) dc_405_347 ?_
  exact Bod.retZ dc_405_348 rt_405 (Or.inr rfl)
theorem rRkM_3 {d : Nat} {S : cS} {x : Nat} {y : Nat} {e91 : Nat} {e911 : Nat} {S1 : cS} {u : Int64} {S2 : cS} (mx : x < 2 ^ 20) (my : y < 2 ^ 20) (b1 : x < 20480) (he91 : sA S 91 x = nI e91) (me91 : e91 < 2 ^ 20) (b2 : e91 = 1) (b3 : y < 20480) (he911 : sA S 91 y = nI e911) (me911 : e911 < 2 ^ 20) (b4 : e911 = 1) (c1 : Ans (d + 8) 408 [.long (sL S 92 x), .long (sL S 92 y)] S (some (.long u)) S1) (w12 : sm_c1 .eq (lg_cmp u (((sL S 92 x) * (sL S 92 y)) >>> ((nI 63).toInt64 &&& 63))) true false = false) (c2 : Ans (d + 8) 351 [.ref 61, .int (nI 6)] S1 (some (.int (nI 0))) S2) : Bod (d + 8) 405 0 [(0, .ref 61), (1, .int (nI 42)), (2, .int (nI x)), (3, .int (nI y))] [] S (some (.int 0)) (S2) := by
  refine Bod.go dc_405_0 rfl ?_
  refine Bod.bip 43 (by decide) dc_405_1 ?_
  refine Bod.icT dc_405_3 rfl (k2_ne_T (k_ne 42 43 rfl rfl (by omega) (by omega) (by omega))) ?_
  refine Bod.go dc_405_33 rfl ?_
  refine Bod.bip 43 (by decide) dc_405_34 ?_
  refine Bod.icT dc_405_36 rfl (k2_ne_T (k_ne 42 43 rfl rfl (by omega) (by omega) (by omega))) ?_
  refine Bod.go dc_405_64 rfl ?_
  refine Bod.get dc_405_65 fr_405_496 (mk_61 _) rfl ?_
  refine Bod.go dc_405_68 rfl ?_
  refine Bod.ialdN x rfl (by omega) (by omega) dc_405_69 (mk_91 _) ?_
  refine Bod.eqI (nI e91) (by first | assumption | rfl | exact congrArg nI (by omega) | (simp (disch := omega) only [rI, rIe, rA, rIA, rLA, rJA, rVI, rQI, rVA, rQA, upd_at,  rAI, rLI, rJI, nI_add, pk_sub, kc_0, kc_1, kc_2, kc_3, kc_4, kc_5, reduceIte, Nat.reduceEqDiff, Nat.add_zero, rI_hold, rI_hold, rL_hold, he91]; done)) ?_
  refine Bod.ic 1 (by decide) dc_405_70 ?_
  refine Bod.icF dc_405_71 rfl (k2_ne_F (k_eq e91 1 rfl rfl (by omega))) ?_
  refine Bod.go dc_405_74 rfl ?_
  refine Bod.get dc_405_75 fr_405_496 (mk_61 _) rfl ?_
  refine Bod.go dc_405_78 rfl ?_
  refine Bod.ialdN y rfl (by omega) (by omega) dc_405_79 (mk_91 _) ?_
  refine Bod.eqI (nI e911) (by first | assumption | rfl | exact congrArg nI (by omega) | (simp (disch := omega) only [rI, rIe, rA, rIA, rLA, rJA, rVI, rQI, rVA, rQA, upd_at,  rAI, rLI, rJI, nI_add, pk_sub, kc_0, kc_1, kc_2, kc_3, kc_4, kc_5, reduceIte, Nat.reduceEqDiff, Nat.add_zero, rI_hold, rI_hold, rL_hold, he91, he911]; done)) ?_
  refine Bod.ic 1 (by decide) dc_405_80 ?_
  refine Bod.icT dc_405_81 rfl (k2_eq_T (k_eq e911 1 rfl rfl (by omega))) ?_
  refine Bod.go dc_405_90 rfl ?_
  refine Bod.get dc_405_91 fr_405_499 (mk_61 _) rfl ?_
  refine Bod.go dc_405_94 rfl ?_
  refine Bod.laldN x rfl (by omega) (by omega) dc_405_95 (mk_92 _) ?_
  refine Bod.lst dc_405_96 (by rw [ml_405]; exact Nat.le_of_ble_eq_true rfl) ?_
  refine Bod.go dc_405_98 rfl ?_
  refine Bod.get dc_405_99 fr_405_499 (mk_61 _) rfl ?_
  refine Bod.go dc_405_102 rfl ?_
  refine Bod.laldN y rfl (by omega) (by omega) dc_405_103 (mk_92 _) ?_
  refine Bod.lst dc_405_104 (by rw [ml_405]; exact Nat.le_of_ble_eq_true rfl) ?_
  refine Bod.go dc_405_106 rfl ?_
  refine Bod.sw (t := 216) dc_405_107 rfl rfl (by decide +kernel) ?_
  refine Bod.go dc_405_216 rfl ?_
  refine Bod.go dc_405_218 rfl ?_
  refine Bod.go dc_405_220 rfl ?_
  refine Bod.lst dc_405_221 (by rw [ml_405]; exact Nat.le_of_ble_eq_true rfl) ?_
  refine Bod.go dc_405_223 rfl ?_
  refine Bod.go dc_405_225 rfl ?_
  refine Bod.stat (r := []) dc_405_227 kr_405_740 (Or.inl rfl) (by rw [np_408]; rfl) (by rw [np_408]; rfl) (by rw [np_408]; exact Nat.le_of_ble_eq_true rfl) (Nat.le_of_ble_eq_true rfl) (c1  ) ?_
  show Bod _ _ _ _ [_] _ _ _
  refine Bod.go dc_405_230 rfl ?_
  refine Bod.bip 63 (by decide) dc_405_232 ?_
  refine Bod.go dc_405_234 rfl ?_
  refine Bod.go dc_405_235 rfl ?_
  refine Bod.ifF dc_405_236 rfl w12 ?_
  refine Bod.go dc_405_239 rfl ?_
  refine Bod.bip 6 (by decide) dc_405_240 ?_
  refine Bod.virt (r := []) dc_405_242 kr_405_608 ⟨Or.inl rfl, ow_351, cl_14⟩ (by rw [np_351]; rfl) (by rw [np_351]; rfl) (ob_of (mk_61 _)) (Nat.le_of_ble_eq_true rfl) (c2  ) ?_
  show Bod _ _ _ _ [_] _ _ _
  exact Bod.retZ dc_405_245 rt_405 (Or.inl rfl)
theorem rRkM_4 {d : Nat} {S : cS} {x : Nat} {y : Nat} {e91 : Nat} {e911 : Nat} {S1 : cS} (mx : x < 2 ^ 20) (my : y < 2 ^ 20) (b1 : x < 20480) (he91 : sA S 91 x = nI e91) (me91 : e91 < 2 ^ 20) (b2 : e91 = 1) (b3 : y < 20480) (he911 : sA S 91 y = nI e911) (me911 : e911 < 2 ^ 20) (b4 : e911 ≠ 1) (c1 : Ans (d + 8) 351 [.ref 61, .int (nI 2)] S (some (.int (nI 0))) S1) : Bod (d + 8) 405 0 [(0, .ref 61), (1, .int (nI 42)), (2, .int (nI x)), (3, .int (nI y))] [] S (some (.int 0)) (S1) := by
  refine Bod.go dc_405_0 rfl ?_
  refine Bod.bip 43 (by decide) dc_405_1 ?_
  refine Bod.icT dc_405_3 rfl (k2_ne_T (k_ne 42 43 rfl rfl (by omega) (by omega) (by omega))) ?_
  refine Bod.go dc_405_33 rfl ?_
  refine Bod.bip 43 (by decide) dc_405_34 ?_
  refine Bod.icT dc_405_36 rfl (k2_ne_T (k_ne 42 43 rfl rfl (by omega) (by omega) (by omega))) ?_
  refine Bod.go dc_405_64 rfl ?_
  refine Bod.get dc_405_65 fr_405_496 (mk_61 _) rfl ?_
  refine Bod.go dc_405_68 rfl ?_
  refine Bod.ialdN x rfl (by omega) (by omega) dc_405_69 (mk_91 _) ?_
  refine Bod.eqI (nI e91) (by first | assumption | rfl | exact congrArg nI (by omega) | (simp (disch := omega) only [rI, rIe, rA, rIA, rLA, rJA, rVI, rQI, rVA, rQA, upd_at,  rAI, rLI, rJI, nI_add, pk_sub, kc_0, kc_1, kc_2, kc_3, kc_4, kc_5, reduceIte, Nat.reduceEqDiff, Nat.add_zero, rI_hold, rI_hold, rL_hold, he91]; done)) ?_
  refine Bod.ic 1 (by decide) dc_405_70 ?_
  refine Bod.icF dc_405_71 rfl (k2_ne_F (k_eq e91 1 rfl rfl (by omega))) ?_
  refine Bod.go dc_405_74 rfl ?_
  refine Bod.get dc_405_75 fr_405_496 (mk_61 _) rfl ?_
  refine Bod.go dc_405_78 rfl ?_
  refine Bod.ialdN y rfl (by omega) (by omega) dc_405_79 (mk_91 _) ?_
  refine Bod.eqI (nI e911) (by first | assumption | rfl | exact congrArg nI (by omega) | (simp (disch := omega) only [rI, rIe, rA, rIA, rLA, rJA, rVI, rQI, rVA, rQA, upd_at,  rAI, rLI, rJI, nI_add, pk_sub, kc_0, kc_1, kc_2, kc_3, kc_4, kc_5, reduceIte, Nat.reduceEqDiff, Nat.add_zero, rI_hold, rI_hold, rL_hold, he91, he911]; done)) ?_
  refine Bod.ic 1 (by decide) dc_405_80 ?_
  refine Bod.icF dc_405_81 rfl (k2_eq_F (k_ne e911 1 rfl rfl (by omega) (by omega) (by omega))) ?_
  refine Bod.go dc_405_84 rfl ?_
  refine Bod.ic 2 (by decide) dc_405_85 ?_
  refine Bod.virt (r := []) dc_405_86 kr_405_608 ⟨Or.inl rfl, ow_351, cl_14⟩ (by rw [np_351]; rfl) (by rw [np_351]; rfl) (ob_of (mk_61 _)) (Nat.le_of_ble_eq_true rfl) (c1  ) ?_
  show Bod _ _ _ _ [_] _ _ _
  exact Bod.retZ dc_405_89 rt_405 (Or.inl rfl)
theorem rRkR_1 {d : Nat} {S : cS} {x : Nat} {y : Nat} {e91 : Nat} {S1 : cS} (mx : x < 2 ^ 20) (my : y < 2 ^ 20) (b1 : x < 20480) (he91 : sA S 91 x = nI e91) (me91 : e91 < 2 ^ 20) (b2 : e91 ≠ 1) (c1 : Ans (d + 8) 351 [.ref 61, .int (nI 2)] S (some (.int (nI 0))) S1) : Bod (d + 8) 405 0 [(0, .ref 61), (1, .int (nI 37)), (2, .int (nI x)), (3, .int (nI y))] [] S (some (.int 0)) (S1) := by
  refine Bod.go dc_405_0 rfl ?_
  refine Bod.bip 43 (by decide) dc_405_1 ?_
  refine Bod.icT dc_405_3 rfl (k2_ne_T (k_ne 37 43 rfl rfl (by omega) (by omega) (by omega))) ?_
  refine Bod.go dc_405_33 rfl ?_
  refine Bod.bip 43 (by decide) dc_405_34 ?_
  refine Bod.icT dc_405_36 rfl (k2_ne_T (k_ne 37 43 rfl rfl (by omega) (by omega) (by omega))) ?_
  refine Bod.go dc_405_64 rfl ?_
  refine Bod.get dc_405_65 fr_405_496 (mk_61 _) rfl ?_
  refine Bod.go dc_405_68 rfl ?_
  refine Bod.ialdN x rfl (by omega) (by omega) dc_405_69 (mk_91 _) ?_
  refine Bod.eqI (nI e91) (by first | assumption | rfl | exact congrArg nI (by omega) | (simp (disch := omega) only [rI, rIe, rA, rIA, rLA, rJA, rVI, rQI, rVA, rQA, upd_at,  rAI, rLI, rJI, nI_add, pk_sub, kc_0, kc_1, kc_2, kc_3, kc_4, kc_5, reduceIte, Nat.reduceEqDiff, Nat.add_zero, rI_hold, rI_hold, rL_hold, he91]; done)) ?_
  refine Bod.ic 1 (by decide) dc_405_70 ?_
  refine Bod.icT dc_405_71 rfl (k2_ne_T (k_ne e91 1 rfl rfl (by omega) (by omega) (by omega))) ?_
  refine Bod.go dc_405_84 rfl ?_
  refine Bod.ic 2 (by decide) dc_405_85 ?_
  refine Bod.virt (r := []) dc_405_86 kr_405_608 ⟨Or.inl rfl, ow_351, cl_14⟩ (by rw [np_351]; rfl) (by rw [np_351]; rfl) (ob_of (mk_61 _)) (Nat.le_of_ble_eq_true rfl) (c1  ) ?_
  show Bod _ _ _ _ [_] _ _ _
  exact Bod.retZ dc_405_89 rt_405 (Or.inl rfl)
theorem rRkR_2 {d : Nat} {S : cS} {x : Nat} {y : Nat} {e91 : Nat} {e911 : Nat} {S1 : cS} {u : Int64} {t : Nat} {S2 : cS} (mx : x < 2 ^ 20) (my : y < 2 ^ 20) (b1 : x < 20480) (he91 : sA S 91 x = nI e91) (me91 : e91 < 2 ^ 20) (b2 : e91 = 1) (b3 : y < 20480) (he911 : sA S 91 y = nI e911) (me911 : e911 < 2 ^ 20) (b4 : e911 = 1) (w11 : sm_c1 .ne (lg_cmp (sL S 92 y) 0) true false = true) (w12 : sm_c1 .ne (lg_cmp (sL S 92 y) ((-1))) true false = true) (c1 : Ans (d + 8) 202 [.long (sL S 92 x), .long (sL S 92 y)] S (some (.long u)) S1) (ht : sI S1 6151 = nI t) (mt : t < 20481) (b5 : 2 ≤ t) (c2 : Ans (d + 8) 353 [.ref 61, .long u] (wI 6151 (nI (t - 2)) S1) none S2) : Bod (d + 8) 405 0 [(0, .ref 61), (1, .int (nI 37)), (2, .int (nI x)), (3, .int (nI y))] [] S (some (.int 1)) (S2) := by
  refine Bod.go dc_405_0 rfl ?_
  refine Bod.bip 43 (by decide) dc_405_1 ?_
  refine Bod.icT dc_405_3 rfl (k2_ne_T (k_ne 37 43 rfl rfl (by omega) (by omega) (by omega))) ?_
  refine Bod.go dc_405_33 rfl ?_
  refine Bod.bip 43 (by decide) dc_405_34 ?_
  refine Bod.icT dc_405_36 rfl (k2_ne_T (k_ne 37 43 rfl rfl (by omega) (by omega) (by omega))) ?_
  refine Bod.go dc_405_64 rfl ?_
  refine Bod.get dc_405_65 fr_405_496 (mk_61 _) rfl ?_
  refine Bod.go dc_405_68 rfl ?_
  refine Bod.ialdN x rfl (by omega) (by omega) dc_405_69 (mk_91 _) ?_
  refine Bod.eqI (nI e91) (by first | assumption | rfl | exact congrArg nI (by omega) | (simp (disch := omega) only [rI, rIe, rA, rIA, rLA, rJA, rVI, rQI, rVA, rQA, upd_at,  rAI, rLI, rJI, nI_add, pk_sub, kc_0, kc_1, kc_2, kc_3, kc_4, kc_5, reduceIte, Nat.reduceEqDiff, Nat.add_zero, rI_hold, rI_hold, rL_hold, he91]; done)) ?_
  refine Bod.ic 1 (by decide) dc_405_70 ?_
  refine Bod.icF dc_405_71 rfl (k2_ne_F (k_eq e91 1 rfl rfl (by omega))) ?_
  refine Bod.go dc_405_74 rfl ?_
  refine Bod.get dc_405_75 fr_405_496 (mk_61 _) rfl ?_
  refine Bod.go dc_405_78 rfl ?_
  refine Bod.ialdN y rfl (by omega) (by omega) dc_405_79 (mk_91 _) ?_
  refine Bod.eqI (nI e911) (by first | assumption | rfl | exact congrArg nI (by omega) | (simp (disch := omega) only [rI, rIe, rA, rIA, rLA, rJA, rVI, rQI, rVA, rQA, upd_at,  rAI, rLI, rJI, nI_add, pk_sub, kc_0, kc_1, kc_2, kc_3, kc_4, kc_5, reduceIte, Nat.reduceEqDiff, Nat.add_zero, rI_hold, rI_hold, rL_hold, he91, he911]; done)) ?_
  refine Bod.ic 1 (by decide) dc_405_80 ?_
  refine Bod.icT dc_405_81 rfl (k2_eq_T (k_eq e911 1 rfl rfl (by omega))) ?_
  refine Bod.go dc_405_90 rfl ?_
  refine Bod.get dc_405_91 fr_405_499 (mk_61 _) rfl ?_
  refine Bod.go dc_405_94 rfl ?_
  refine Bod.laldN x rfl (by omega) (by omega) dc_405_95 (mk_92 _) ?_
  refine Bod.lst dc_405_96 (by rw [ml_405]; exact Nat.le_of_ble_eq_true rfl) ?_
  refine Bod.go dc_405_98 rfl ?_
  refine Bod.get dc_405_99 fr_405_499 (mk_61 _) rfl ?_
  refine Bod.go dc_405_102 rfl ?_
  refine Bod.laldN y rfl (by omega) (by omega) dc_405_103 (mk_92 _) ?_
  refine Bod.lst dc_405_104 (by rw [ml_405]; exact Nat.le_of_ble_eq_true rfl) ?_
  refine Bod.go dc_405_106 rfl ?_
  refine Bod.sw (t := 246) dc_405_107 rfl rfl (by decide +kernel) ?_
  refine Bod.go dc_405_246 rfl ?_
  refine Bod.go dc_405_248 rfl ?_
  refine Bod.go dc_405_249 rfl ?_
  refine Bod.ifT dc_405_250 rfl w11 ?_
  refine Bod.go dc_405_259 rfl ?_
  refine Bod.ldc2 dc_405_261 cj_405_744 ?_
  refine Bod.go dc_405_264 rfl ?_
  refine Bod.ifT dc_405_265 rfl w12 ?_
  refine Bod.go dc_405_272 rfl ?_
  refine Bod.go dc_405_274 rfl ?_
  refine Bod.stat (r := []) dc_405_276 kr_405_746 (Or.inl rfl) (by rw [np_202]; rfl) (by rw [np_202]; rfl) (by rw [np_202]; exact Nat.le_of_ble_eq_true rfl) (Nat.le_of_ble_eq_true rfl) (c1  ) ?_
  show Bod _ _ _ _ [_] _ _ _
  refine Bod.lst dc_405_279 (by rw [ml_405]; exact Nat.le_of_ble_eq_true rfl) ?_
  refine Bod.go dc_405_281 rfl ?_
  refine Bod.go dc_405_331 rfl ?_
  refine Bod.go dc_405_332 rfl ?_
  refine Bod.get dc_405_333 fr_405_493 (mk_61 _) rfl ?_
  refine Bod.eqI (nI t) (by first | assumption | (simp (disch := omega) only [rI, rIe, rA, rIA, rLA, rJA, rVI, rQI, rVA, rQA, upd_at,  rAI, rLI, rJI, nI_add, pk_sub, kc_0, kc_1, kc_2, kc_3, kc_4, kc_5, reduceIte, Nat.reduceEqDiff, Nat.add_zero, rI_hold, rI_hold, rL_hold, he91, he911, ht]; done) | (simp (disch := omega) only [rI, rIe, rA, rIA, rLA, rJA, rVI, rQI, rVA, rQA, upd_at,  rAI, rLI, rJI, nI_add, pk_sub, kc_0, kc_1, kc_2, kc_3, kc_4, kc_5, reduceIte, Nat.reduceEqDiff, Nat.add_zero, rI_hold, rI_hold, rL_hold, he91, he911, ht]; exact congrArg nI (by omega))) ?_
  refine Bod.ic 2 (by decide) dc_405_336 ?_
  refine Bod.subN (t - 2) (by omega) (by omega) dc_405_337 ?_
  refine Bod.put dc_405_338 fr_405_493 (mk_61 _) (Nat.le_of_ble_eq_true rfl) pf_14_51 (st_6151 _ _) (mu_I _ _ _) ?_
  refine Bod.go dc_405_341 rfl ?_
  refine Bod.go dc_405_342 rfl ?_
  refine Bod.virt (r := []) dc_405_344 kr_405_613 ⟨Or.inl rfl, ow_353, cl_14⟩ (by rw [np_353]; rfl) (by rw [np_353]; rfl) (ob_of (mk_61 _)) (Nat.le_of_ble_eq_true rfl) (c2  ) ?_
  show Bod _ _ _ _ [] _ _ _
  refine Bod.ic 1 (by decide) dc_405_347 ?_
  exact Bod.retZ dc_405_348 rt_405 (Or.inr rfl)
theorem rRkR_3 {d : Nat} {S : cS} {x : Nat} {y : Nat} {e91 : Nat} {e911 : Nat} {t : Nat} {S1 : cS} (mx : x < 2 ^ 20) (my : y < 2 ^ 20) (b1 : x < 20480) (he91 : sA S 91 x = nI e91) (me91 : e91 < 2 ^ 20) (b2 : e91 = 1) (b3 : y < 20480) (he911 : sA S 91 y = nI e911) (me911 : e911 < 2 ^ 20) (b4 : e911 = 1) (w11 : sm_c1 .ne (lg_cmp (sL S 92 y) 0) true false = true) (w12 : sm_c1 .ne (lg_cmp (sL S 92 y) ((-1))) true false = false) (ht : sI S 6151 = nI t) (mt : t < 20481) (b5 : 2 ≤ t) (c1 : Ans (d + 8) 353 [.ref 61, .long 0] (wI 6151 (nI (t - 2)) S) none S1) : Bod (d + 8) 405 0 [(0, .ref 61), (1, .int (nI 37)), (2, .int (nI x)), (3, .int (nI y))] [] S (some (.int 1)) (S1) := by
  refine Bod.go dc_405_0 rfl ?_
  refine Bod.bip 43 (by decide) dc_405_1 ?_
  refine Bod.icT dc_405_3 rfl (k2_ne_T (k_ne 37 43 rfl rfl (by omega) (by omega) (by omega))) ?_
  refine Bod.go dc_405_33 rfl ?_
  refine Bod.bip 43 (by decide) dc_405_34 ?_
  refine Bod.icT dc_405_36 rfl (k2_ne_T (k_ne 37 43 rfl rfl (by omega) (by omega) (by omega))) ?_
  refine Bod.go dc_405_64 rfl ?_
  refine Bod.get dc_405_65 fr_405_496 (mk_61 _) rfl ?_
  refine Bod.go dc_405_68 rfl ?_
  refine Bod.ialdN x rfl (by omega) (by omega) dc_405_69 (mk_91 _) ?_
  refine Bod.eqI (nI e91) (by first | assumption | rfl | exact congrArg nI (by omega) | (simp (disch := omega) only [rI, rIe, rA, rIA, rLA, rJA, rVI, rQI, rVA, rQA, upd_at,  rAI, rLI, rJI, nI_add, pk_sub, kc_0, kc_1, kc_2, kc_3, kc_4, kc_5, reduceIte, Nat.reduceEqDiff, Nat.add_zero, rI_hold, rI_hold, rL_hold, he91]; done)) ?_
  refine Bod.ic 1 (by decide) dc_405_70 ?_
  refine Bod.icF dc_405_71 rfl (k2_ne_F (k_eq e91 1 rfl rfl (by omega))) ?_
  refine Bod.go dc_405_74 rfl ?_
  refine Bod.get dc_405_75 fr_405_496 (mk_61 _) rfl ?_
  refine Bod.go dc_405_78 rfl ?_
  refine Bod.ialdN y rfl (by omega) (by omega) dc_405_79 (mk_91 _) ?_
  refine Bod.eqI (nI e911) (by first | assumption | rfl | exact congrArg nI (by omega) | (simp (disch := omega) only [rI, rIe, rA, rIA, rLA, rJA, rVI, rQI, rVA, rQA, upd_at,  rAI, rLI, rJI, nI_add, pk_sub, kc_0, kc_1, kc_2, kc_3, kc_4, kc_5, reduceIte, Nat.reduceEqDiff, Nat.add_zero, rI_hold, rI_hold, rL_hold, he91, he911]; done)) ?_
  refine Bod.ic 1 (by decide) dc_405_80 ?_
  refine Bod.icT dc_405_81 rfl (k2_eq_T (k_eq e911 1 rfl rfl (by omega))) ?_
  refine Bod.go dc_405_90 rfl ?_
  refine Bod.get dc_405_91 fr_405_499 (mk_61 _) rfl ?_
  refine Bod.go dc_405_94 rfl ?_
  refine Bod.laldN x rfl (by omega) (by omega) dc_405_95 (mk_92 _) ?_
  refine Bod.lst dc_405_96 (by rw [ml_405]; exact Nat.le_of_ble_eq_true rfl) ?_
  refine Bod.go dc_405_98 rfl ?_
  refine Bod.get dc_405_99 fr_405_499 (mk_61 _) rfl ?_
  refine Bod.go dc_405_102 rfl ?_
  refine Bod.laldN y rfl (by omega) (by omega) dc_405_103 (mk_92 _) ?_
  refine Bod.lst dc_405_104 (by rw [ml_405]; exact Nat.le_of_ble_eq_true rfl) ?_
  refine Bod.go dc_405_106 rfl ?_
  refine Bod.sw (t := 246) dc_405_107 rfl rfl (by decide +kernel) ?_
  refine Bod.go dc_405_246 rfl ?_
  refine Bod.go dc_405_248 rfl ?_
  refine Bod.go dc_405_249 rfl ?_
  refine Bod.ifT dc_405_250 rfl w11 ?_
  refine Bod.go dc_405_259 rfl ?_
  refine Bod.ldc2 dc_405_261 cj_405_744 ?_
  refine Bod.go dc_405_264 rfl ?_
  refine Bod.ifF dc_405_265 rfl w12 ?_
  refine Bod.go dc_405_268 rfl ?_
  refine Bod.go dc_405_269 rfl ?_
  refine Bod.lst dc_405_279 (by rw [ml_405]; exact Nat.le_of_ble_eq_true rfl) ?_
  refine Bod.go dc_405_281 rfl ?_
  refine Bod.go dc_405_331 rfl ?_
  refine Bod.go dc_405_332 rfl ?_
  refine Bod.get dc_405_333 fr_405_493 (mk_61 _) rfl ?_
  refine Bod.eqI (nI t) (by first | assumption | rfl | exact congrArg nI (by omega) | (simp (disch := omega) only [rI, rIe, rA, rIA, rLA, rJA, rVI, rQI, rVA, rQA, upd_at,  rAI, rLI, rJI, nI_add, pk_sub, kc_0, kc_1, kc_2, kc_3, kc_4, kc_5, reduceIte, Nat.reduceEqDiff, Nat.add_zero, rI_hold, rI_hold, rL_hold, he91, he911, ht]; done)) ?_
  refine Bod.ic 2 (by decide) dc_405_336 ?_
  refine Bod.subN (t - 2) (by omega) (by omega) dc_405_337 ?_
  refine Bod.put dc_405_338 fr_405_493 (mk_61 _) (Nat.le_of_ble_eq_true rfl) pf_14_51 (st_6151 _ _) (mu_I _ _ _) ?_
  refine Bod.go dc_405_341 rfl ?_
  refine Bod.go dc_405_342 rfl ?_
  refine Bod.virt (r := []) dc_405_344 kr_405_613 ⟨Or.inl rfl, ow_353, cl_14⟩ (by rw [np_353]; rfl) (by rw [np_353]; rfl) (ob_of (mk_61 _)) (Nat.le_of_ble_eq_true rfl) (c1  ) ?_
  show Bod _ _ _ _ [] _ _ _
  refine Bod.ic 1 (by decide) dc_405_347 ?_
  exact Bod.retZ dc_405_348 rt_405 (Or.inr rfl)
theorem rRkR_4 {d : Nat} {S : cS} {x : Nat} {y : Nat} {e91 : Nat} {e911 : Nat} {S1 : cS} (mx : x < 2 ^ 20) (my : y < 2 ^ 20) (b1 : x < 20480) (he91 : sA S 91 x = nI e91) (me91 : e91 < 2 ^ 20) (b2 : e91 = 1) (b3 : y < 20480) (he911 : sA S 91 y = nI e911) (me911 : e911 < 2 ^ 20) (b4 : e911 = 1) (w11 : sm_c1 .ne (lg_cmp (sL S 92 y) 0) true false = false) (c1 : Ans (d + 8) 351 [.ref 61, .int (nI 5)] S (some (.int (nI 0))) S1) : Bod (d + 8) 405 0 [(0, .ref 61), (1, .int (nI 37)), (2, .int (nI x)), (3, .int (nI y))] [] S (some (.int 0)) (S1) := by
  refine Bod.go dc_405_0 rfl ?_
  refine Bod.bip 43 (by decide) dc_405_1 ?_
  refine Bod.icT dc_405_3 rfl (k2_ne_T (k_ne 37 43 rfl rfl (by omega) (by omega) (by omega))) ?_
  refine Bod.go dc_405_33 rfl ?_
  refine Bod.bip 43 (by decide) dc_405_34 ?_
  refine Bod.icT dc_405_36 rfl (k2_ne_T (k_ne 37 43 rfl rfl (by omega) (by omega) (by omega))) ?_
  refine Bod.go dc_405_64 rfl ?_
  refine Bod.get dc_405_65 fr_405_496 (mk_61 _) rfl ?_
  refine Bod.go dc_405_68 rfl ?_
  refine Bod.ialdN x rfl (by omega) (by omega) dc_405_69 (mk_91 _) ?_
  refine Bod.eqI (nI e91) (by first | assumption | rfl | exact congrArg nI (by omega) | (simp (disch := omega) only [rI, rIe, rA, rIA, rLA, rJA, rVI, rQI, rVA, rQA, upd_at,  rAI, rLI, rJI, nI_add, pk_sub, kc_0, kc_1, kc_2, kc_3, kc_4, kc_5, reduceIte, Nat.reduceEqDiff, Nat.add_zero, rI_hold, rI_hold, rL_hold, he91]; done)) ?_
  refine Bod.ic 1 (by decide) dc_405_70 ?_
  refine Bod.icF dc_405_71 rfl (k2_ne_F (k_eq e91 1 rfl rfl (by omega))) ?_
  refine Bod.go dc_405_74 rfl ?_
  refine Bod.get dc_405_75 fr_405_496 (mk_61 _) rfl ?_
  refine Bod.go dc_405_78 rfl ?_
  refine Bod.ialdN y rfl (by omega) (by omega) dc_405_79 (mk_91 _) ?_
  refine Bod.eqI (nI e911) (by first | assumption | rfl | exact congrArg nI (by omega) | (simp (disch := omega) only [rI, rIe, rA, rIA, rLA, rJA, rVI, rQI, rVA, rQA, upd_at,  rAI, rLI, rJI, nI_add, pk_sub, kc_0, kc_1, kc_2, kc_3, kc_4, kc_5, reduceIte, Nat.reduceEqDiff, Nat.add_zero, rI_hold, rI_hold, rL_hold, he91, he911]; done)) ?_
  refine Bod.ic 1 (by decide) dc_405_80 ?_
  refine Bod.icT dc_405_81 rfl (k2_eq_T (k_eq e911 1 rfl rfl (by omega))) ?_
  refine Bod.go dc_405_90 rfl ?_
  refine Bod.get dc_405_91 fr_405_499 (mk_61 _) rfl ?_
  refine Bod.go dc_405_94 rfl ?_
  refine Bod.laldN x rfl (by omega) (by omega) dc_405_95 (mk_92 _) ?_
  refine Bod.lst dc_405_96 (by rw [ml_405]; exact Nat.le_of_ble_eq_true rfl) ?_
  refine Bod.go dc_405_98 rfl ?_
  refine Bod.get dc_405_99 fr_405_499 (mk_61 _) rfl ?_
  refine Bod.go dc_405_102 rfl ?_
  refine Bod.laldN y rfl (by omega) (by omega) dc_405_103 (mk_92 _) ?_
  refine Bod.lst dc_405_104 (by rw [ml_405]; exact Nat.le_of_ble_eq_true rfl) ?_
  refine Bod.go dc_405_106 rfl ?_
  refine Bod.sw (t := 246) dc_405_107 rfl rfl (by decide +kernel) ?_
  refine Bod.go dc_405_246 rfl ?_
  refine Bod.go dc_405_248 rfl ?_
  refine Bod.go dc_405_249 rfl ?_
  refine Bod.ifF dc_405_250 rfl w11 ?_
  refine Bod.go dc_405_253 rfl ?_
  refine Bod.ic 5 (by decide) dc_405_254 ?_
  refine Bod.virt (r := []) dc_405_255 kr_405_608 ⟨Or.inl rfl, ow_351, cl_14⟩ (by rw [np_351]; rfl) (by rw [np_351]; rfl) (ob_of (mk_61 _)) (Nat.le_of_ble_eq_true rfl) (c1  ) ?_
  show Bod _ _ _ _ [_] _ _ _
  exact Bod.retZ dc_405_258 rt_405 (Or.inl rfl)
theorem rRkR_5 {d : Nat} {S : cS} {x : Nat} {y : Nat} {e91 : Nat} {e911 : Nat} {S1 : cS} (mx : x < 2 ^ 20) (my : y < 2 ^ 20) (b1 : x < 20480) (he91 : sA S 91 x = nI e91) (me91 : e91 < 2 ^ 20) (b2 : e91 = 1) (b3 : y < 20480) (he911 : sA S 91 y = nI e911) (me911 : e911 < 2 ^ 20) (b4 : e911 ≠ 1) (c1 : Ans (d + 8) 351 [.ref 61, .int (nI 2)] S (some (.int (nI 0))) S1) : Bod (d + 8) 405 0 [(0, .ref 61), (1, .int (nI 37)), (2, .int (nI x)), (3, .int (nI y))] [] S (some (.int 0)) (S1) := by
  refine Bod.go dc_405_0 rfl ?_
  refine Bod.bip 43 (by decide) dc_405_1 ?_
  refine Bod.icT dc_405_3 rfl (k2_ne_T (k_ne 37 43 rfl rfl (by omega) (by omega) (by omega))) ?_
  refine Bod.go dc_405_33 rfl ?_
  refine Bod.bip 43 (by decide) dc_405_34 ?_
  refine Bod.icT dc_405_36 rfl (k2_ne_T (k_ne 37 43 rfl rfl (by omega) (by omega) (by omega))) ?_
  refine Bod.go dc_405_64 rfl ?_
  refine Bod.get dc_405_65 fr_405_496 (mk_61 _) rfl ?_
  refine Bod.go dc_405_68 rfl ?_
  refine Bod.ialdN x rfl (by omega) (by omega) dc_405_69 (mk_91 _) ?_
  refine Bod.eqI (nI e91) (by first | assumption | rfl | exact congrArg nI (by omega) | (simp (disch := omega) only [rI, rIe, rA, rIA, rLA, rJA, rVI, rQI, rVA, rQA, upd_at,  rAI, rLI, rJI, nI_add, pk_sub, kc_0, kc_1, kc_2, kc_3, kc_4, kc_5, reduceIte, Nat.reduceEqDiff, Nat.add_zero, rI_hold, rI_hold, rL_hold, he91]; done)) ?_
  refine Bod.ic 1 (by decide) dc_405_70 ?_
  refine Bod.icF dc_405_71 rfl (k2_ne_F (k_eq e91 1 rfl rfl (by omega))) ?_
  refine Bod.go dc_405_74 rfl ?_
  refine Bod.get dc_405_75 fr_405_496 (mk_61 _) rfl ?_
  refine Bod.go dc_405_78 rfl ?_
  refine Bod.ialdN y rfl (by omega) (by omega) dc_405_79 (mk_91 _) ?_
  refine Bod.eqI (nI e911) (by first | assumption | rfl | exact congrArg nI (by omega) | (simp (disch := omega) only [rI, rIe, rA, rIA, rLA, rJA, rVI, rQI, rVA, rQA, upd_at,  rAI, rLI, rJI, nI_add, pk_sub, kc_0, kc_1, kc_2, kc_3, kc_4, kc_5, reduceIte, Nat.reduceEqDiff, Nat.add_zero, rI_hold, rI_hold, rL_hold, he91, he911]; done)) ?_
  refine Bod.ic 1 (by decide) dc_405_80 ?_
  refine Bod.icF dc_405_81 rfl (k2_eq_F (k_ne e911 1 rfl rfl (by omega) (by omega) (by omega))) ?_
  refine Bod.go dc_405_84 rfl ?_
  refine Bod.ic 2 (by decide) dc_405_85 ?_
  refine Bod.virt (r := []) dc_405_86 kr_405_608 ⟨Or.inl rfl, ow_351, cl_14⟩ (by rw [np_351]; rfl) (by rw [np_351]; rfl) (ob_of (mk_61 _)) (Nat.le_of_ble_eq_true rfl) (c1  ) ?_
  show Bod _ _ _ _ [_] _ _ _
  exact Bod.retZ dc_405_89 rt_405 (Or.inl rfl)
theorem rRkD_1 {d : Nat} {S : cS} {x : Nat} {y : Nat} {e91 : Nat} {S1 : cS} (mx : x < 2 ^ 20) (my : y < 2 ^ 20) (b1 : x < 20480) (he91 : sA S 91 x = nI e91) (me91 : e91 < 2 ^ 20) (b2 : e91 ≠ 1) (c1 : Ans (d + 8) 351 [.ref 61, .int (nI 2)] S (some (.int (nI 0))) S1) : Bod (d + 8) 405 0 [(0, .ref 61), (1, .int (nI 12079)), (2, .int (nI x)), (3, .int (nI y))] [] S (some (.int 0)) (S1) := by
  refine Bod.go dc_405_0 rfl ?_
  refine Bod.bip 43 (by decide) dc_405_1 ?_
  refine Bod.icT dc_405_3 rfl (k2_ne_T (k_ne 12079 43 rfl rfl (by omega) (by omega) (by omega))) ?_
  refine Bod.go dc_405_33 rfl ?_
  refine Bod.bip 43 (by decide) dc_405_34 ?_
  refine Bod.icT dc_405_36 rfl (k2_ne_T (k_ne 12079 43 rfl rfl (by omega) (by omega) (by omega))) ?_
  refine Bod.go dc_405_64 rfl ?_
  refine Bod.get dc_405_65 fr_405_496 (mk_61 _) rfl ?_
  refine Bod.go dc_405_68 rfl ?_
  refine Bod.ialdN x rfl (by omega) (by omega) dc_405_69 (mk_91 _) ?_
  refine Bod.eqI (nI e91) (by first | assumption | rfl | exact congrArg nI (by omega) | (simp (disch := omega) only [rI, rIe, rA, rIA, rLA, rJA, rVI, rQI, rVA, rQA, upd_at,  rAI, rLI, rJI, nI_add, pk_sub, kc_0, kc_1, kc_2, kc_3, kc_4, kc_5, reduceIte, Nat.reduceEqDiff, Nat.add_zero, rI_hold, rI_hold, rL_hold, he91]; done)) ?_
  refine Bod.ic 1 (by decide) dc_405_70 ?_
  refine Bod.icT dc_405_71 rfl (k2_ne_T (k_ne e91 1 rfl rfl (by omega) (by omega) (by omega))) ?_
  refine Bod.go dc_405_84 rfl ?_
  refine Bod.ic 2 (by decide) dc_405_85 ?_
  refine Bod.virt (r := []) dc_405_86 kr_405_608 ⟨Or.inl rfl, ow_351, cl_14⟩ (by rw [np_351]; rfl) (by rw [np_351]; rfl) (ob_of (mk_61 _)) (Nat.le_of_ble_eq_true rfl) (c1  ) ?_
  show Bod _ _ _ _ [_] _ _ _
  exact Bod.retZ dc_405_89 rt_405 (Or.inl rfl)
theorem rRkD_2 {d : Nat} {S : cS} {x : Nat} {y : Nat} {e91 : Nat} {e911 : Nat} {S1 : cS} {u : Int64} {t : Nat} {S2 : cS} (mx : x < 2 ^ 20) (my : y < 2 ^ 20) (b1 : x < 20480) (he91 : sA S 91 x = nI e91) (me91 : e91 < 2 ^ 20) (b2 : e91 = 1) (b3 : y < 20480) (he911 : sA S 91 y = nI e911) (me911 : e911 < 2 ^ 20) (b4 : e911 = 1) (w11 : sm_c1 .ne (lg_cmp (sL S 92 y) 0) true false = true) (w12 : sm_c1 .ne (lg_cmp (sL S 92 x) ((-9223372036854775808))) true false = true) (c1 : Ans (d + 8) 200 [.long (sL S 92 x), .long (sL S 92 y)] S (some (.long u)) S1) (ht : sI S1 6151 = nI t) (mt : t < 20481) (b5 : 2 ≤ t) (c2 : Ans (d + 8) 353 [.ref 61, .long u] (wI 6151 (nI (t - 2)) S1) none S2) : Bod (d + 8) 405 0 [(0, .ref 61), (1, .int (nI 12079)), (2, .int (nI x)), (3, .int (nI y))] [] S (some (.int 1)) (S2) := by
  refine Bod.go dc_405_0 rfl ?_
  refine Bod.bip 43 (by decide) dc_405_1 ?_
  refine Bod.icT dc_405_3 rfl (k2_ne_T (k_ne 12079 43 rfl rfl (by omega) (by omega) (by omega))) ?_
  refine Bod.go dc_405_33 rfl ?_
  refine Bod.bip 43 (by decide) dc_405_34 ?_
  refine Bod.icT dc_405_36 rfl (k2_ne_T (k_ne 12079 43 rfl rfl (by omega) (by omega) (by omega))) ?_
  refine Bod.go dc_405_64 rfl ?_
  refine Bod.get dc_405_65 fr_405_496 (mk_61 _) rfl ?_
  refine Bod.go dc_405_68 rfl ?_
  refine Bod.ialdN x rfl (by omega) (by omega) dc_405_69 (mk_91 _) ?_
  refine Bod.eqI (nI e91) (by first | assumption | rfl | exact congrArg nI (by omega) | (simp (disch := omega) only [rI, rIe, rA, rIA, rLA, rJA, rVI, rQI, rVA, rQA, upd_at,  rAI, rLI, rJI, nI_add, pk_sub, kc_0, kc_1, kc_2, kc_3, kc_4, kc_5, reduceIte, Nat.reduceEqDiff, Nat.add_zero, rI_hold, rI_hold, rL_hold, he91]; done)) ?_
  refine Bod.ic 1 (by decide) dc_405_70 ?_
  refine Bod.icF dc_405_71 rfl (k2_ne_F (k_eq e91 1 rfl rfl (by omega))) ?_
  refine Bod.go dc_405_74 rfl ?_
  refine Bod.get dc_405_75 fr_405_496 (mk_61 _) rfl ?_
  refine Bod.go dc_405_78 rfl ?_
  refine Bod.ialdN y rfl (by omega) (by omega) dc_405_79 (mk_91 _) ?_
  refine Bod.eqI (nI e911) (by first | assumption | rfl | exact congrArg nI (by omega) | (simp (disch := omega) only [rI, rIe, rA, rIA, rLA, rJA, rVI, rQI, rVA, rQA, upd_at,  rAI, rLI, rJI, nI_add, pk_sub, kc_0, kc_1, kc_2, kc_3, kc_4, kc_5, reduceIte, Nat.reduceEqDiff, Nat.add_zero, rI_hold, rI_hold, rL_hold, he91, he911]; done)) ?_
  refine Bod.ic 1 (by decide) dc_405_80 ?_
  refine Bod.icT dc_405_81 rfl (k2_eq_T (k_eq e911 1 rfl rfl (by omega))) ?_
  refine Bod.go dc_405_90 rfl ?_
  refine Bod.get dc_405_91 fr_405_499 (mk_61 _) rfl ?_
  refine Bod.go dc_405_94 rfl ?_
  refine Bod.laldN x rfl (by omega) (by omega) dc_405_95 (mk_92 _) ?_
  refine Bod.lst dc_405_96 (by rw [ml_405]; exact Nat.le_of_ble_eq_true rfl) ?_
  refine Bod.go dc_405_98 rfl ?_
  refine Bod.get dc_405_99 fr_405_499 (mk_61 _) rfl ?_
  refine Bod.go dc_405_102 rfl ?_
  refine Bod.laldN y rfl (by omega) (by omega) dc_405_103 (mk_92 _) ?_
  refine Bod.lst dc_405_104 (by rw [ml_405]; exact Nat.le_of_ble_eq_true rfl) ?_
  refine Bod.go dc_405_106 rfl ?_
  refine Bod.sw (t := 284) dc_405_107 rfl rfl (by decide +kernel) ?_
  refine Bod.go dc_405_284 rfl ?_
  refine Bod.go dc_405_286 rfl ?_
  refine Bod.go dc_405_287 rfl ?_
  refine Bod.ifT dc_405_288 rfl w11 ?_
  refine Bod.go dc_405_297 rfl ?_
  refine Bod.ldc2 dc_405_299 cj_405_645 ?_
  refine Bod.go dc_405_302 rfl ?_
  refine Bod.ifT dc_405_303 rfl w12 ?_
  refine Bod.go dc_405_322 rfl ?_
  refine Bod.go dc_405_324 rfl ?_
  refine Bod.stat (r := []) dc_405_326 kr_405_749 (Or.inl rfl) (by rw [np_200]; rfl) (by rw [np_200]; rfl) (by rw [np_200]; exact Nat.le_of_ble_eq_true rfl) (Nat.le_of_ble_eq_true rfl) (c1  ) ?_
  show Bod _ _ _ _ [_] _ _ _
  refine Bod.lst dc_405_329 (by rw [ml_405]; exact Nat.le_of_ble_eq_true rfl) ?_
  refine Bod.go dc_405_331 rfl ?_
  refine Bod.go dc_405_332 rfl ?_
  refine Bod.get dc_405_333 fr_405_493 (mk_61 _) rfl ?_
  refine Bod.eqI (nI t) (by first | assumption | (simp (disch := omega) only [rI, rIe, rA, rIA, rLA, rJA, rVI, rQI, rVA, rQA, upd_at,  rAI, rLI, rJI, nI_add, pk_sub, kc_0, kc_1, kc_2, kc_3, kc_4, kc_5, reduceIte, Nat.reduceEqDiff, Nat.add_zero, rI_hold, rI_hold, rL_hold, he91, he911, ht]; done) | (simp (disch := omega) only [rI, rIe, rA, rIA, rLA, rJA, rVI, rQI, rVA, rQA, upd_at,  rAI, rLI, rJI, nI_add, pk_sub, kc_0, kc_1, kc_2, kc_3, kc_4, kc_5, reduceIte, Nat.reduceEqDiff, Nat.add_zero, rI_hold, rI_hold, rL_hold, he91, he911, ht]; exact congrArg nI (by omega))) ?_
  refine Bod.ic 2 (by decide) dc_405_336 ?_
  refine Bod.subN (t - 2) (by omega) (by omega) dc_405_337 ?_
  refine Bod.put dc_405_338 fr_405_493 (mk_61 _) (Nat.le_of_ble_eq_true rfl) pf_14_51 (st_6151 _ _) (mu_I _ _ _) ?_
  refine Bod.go dc_405_341 rfl ?_
  refine Bod.go dc_405_342 rfl ?_
  refine Bod.virt (r := []) dc_405_344 kr_405_613 ⟨Or.inl rfl, ow_353, cl_14⟩ (by rw [np_353]; rfl) (by rw [np_353]; rfl) (ob_of (mk_61 _)) (Nat.le_of_ble_eq_true rfl) (c2  ) ?_
  show Bod _ _ _ _ [] _ _ _
  refine Bod.ic 1 (by decide) dc_405_347 ?_
  exact Bod.retZ dc_405_348 rt_405 (Or.inr rfl)
theorem rRkD_3 {d : Nat} {S : cS} {x : Nat} {y : Nat} {e91 : Nat} {e911 : Nat} {S1 : cS} {u : Int64} {t : Nat} {S2 : cS} (mx : x < 2 ^ 20) (my : y < 2 ^ 20) (b1 : x < 20480) (he91 : sA S 91 x = nI e91) (me91 : e91 < 2 ^ 20) (b2 : e91 = 1) (b3 : y < 20480) (he911 : sA S 91 y = nI e911) (me911 : e911 < 2 ^ 20) (b4 : e911 = 1) (w11 : sm_c1 .ne (lg_cmp (sL S 92 y) 0) true false = true) (w12 : sm_c1 .ne (lg_cmp (sL S 92 x) ((-9223372036854775808))) true false = false) (w13 : sm_c1 .ne (lg_cmp (sL S 92 y) ((-1))) true false = true) (c1 : Ans (d + 8) 200 [.long (sL S 92 x), .long (sL S 92 y)] S (some (.long u)) S1) (ht : sI S1 6151 = nI t) (mt : t < 20481) (b5 : 2 ≤ t) (c2 : Ans (d + 8) 353 [.ref 61, .long u] (wI 6151 (nI (t - 2)) S1) none S2) : Bod (d + 8) 405 0 [(0, .ref 61), (1, .int (nI 12079)), (2, .int (nI x)), (3, .int (nI y))] [] S (some (.int 1)) (S2) := by
  refine Bod.go dc_405_0 rfl ?_
  refine Bod.bip 43 (by decide) dc_405_1 ?_
  refine Bod.icT dc_405_3 rfl (k2_ne_T (k_ne 12079 43 rfl rfl (by omega) (by omega) (by omega))) ?_
  refine Bod.go dc_405_33 rfl ?_
  refine Bod.bip 43 (by decide) dc_405_34 ?_
  refine Bod.icT dc_405_36 rfl (k2_ne_T (k_ne 12079 43 rfl rfl (by omega) (by omega) (by omega))) ?_
  refine Bod.go dc_405_64 rfl ?_
  refine Bod.get dc_405_65 fr_405_496 (mk_61 _) rfl ?_
  refine Bod.go dc_405_68 rfl ?_
  refine Bod.ialdN x rfl (by omega) (by omega) dc_405_69 (mk_91 _) ?_
  refine Bod.eqI (nI e91) (by first | assumption | rfl | exact congrArg nI (by omega) | (simp (disch := omega) only [rI, rIe, rA, rIA, rLA, rJA, rVI, rQI, rVA, rQA, upd_at,  rAI, rLI, rJI, nI_add, pk_sub, kc_0, kc_1, kc_2, kc_3, kc_4, kc_5, reduceIte, Nat.reduceEqDiff, Nat.add_zero, rI_hold, rI_hold, rL_hold, he91]; done)) ?_
  refine Bod.ic 1 (by decide) dc_405_70 ?_
  refine Bod.icF dc_405_71 rfl (k2_ne_F (k_eq e91 1 rfl rfl (by omega))) ?_
  refine Bod.go dc_405_74 rfl ?_
  refine Bod.get dc_405_75 fr_405_496 (mk_61 _) rfl ?_
  refine Bod.go dc_405_78 rfl ?_
  refine Bod.ialdN y rfl (by omega) (by omega) dc_405_79 (mk_91 _) ?_
  refine Bod.eqI (nI e911) (by first | assumption | rfl | exact congrArg nI (by omega) | (simp (disch := omega) only [rI, rIe, rA, rIA, rLA, rJA, rVI, rQI, rVA, rQA, upd_at,  rAI, rLI, rJI, nI_add, pk_sub, kc_0, kc_1, kc_2, kc_3, kc_4, kc_5, reduceIte, Nat.reduceEqDiff, Nat.add_zero, rI_hold, rI_hold, rL_hold, he91, he911]; done)) ?_
  refine Bod.ic 1 (by decide) dc_405_80 ?_
  refine Bod.icT dc_405_81 rfl (k2_eq_T (k_eq e911 1 rfl rfl (by omega))) ?_
  refine Bod.go dc_405_90 rfl ?_
  refine Bod.get dc_405_91 fr_405_499 (mk_61 _) rfl ?_
  refine Bod.go dc_405_94 rfl ?_
  refine Bod.laldN x rfl (by omega) (by omega) dc_405_95 (mk_92 _) ?_
  refine Bod.lst dc_405_96 (by rw [ml_405]; exact Nat.le_of_ble_eq_true rfl) ?_
  refine Bod.go dc_405_98 rfl ?_
  refine Bod.get dc_405_99 fr_405_499 (mk_61 _) rfl ?_
  refine Bod.go dc_405_102 rfl ?_
  refine Bod.laldN y rfl (by omega) (by omega) dc_405_103 (mk_92 _) ?_
  refine Bod.lst dc_405_104 (by rw [ml_405]; exact Nat.le_of_ble_eq_true rfl) ?_
  refine Bod.go dc_405_106 rfl ?_
  refine Bod.sw (t := 284) dc_405_107 rfl rfl (by decide +kernel) ?_
  refine Bod.go dc_405_284 rfl ?_
  refine Bod.go dc_405_286 rfl ?_
  refine Bod.go dc_405_287 rfl ?_
  refine Bod.ifT dc_405_288 rfl w11 ?_
  refine Bod.go dc_405_297 rfl ?_
  refine Bod.ldc2 dc_405_299 cj_405_645 ?_
  refine Bod.go dc_405_302 rfl ?_
  refine Bod.ifF dc_405_303 rfl w12 ?_
  refine Bod.go dc_405_306 rfl ?_
  refine Bod.ldc2 dc_405_308 cj_405_744 ?_
  refine Bod.go dc_405_311 rfl ?_
  refine Bod.ifT dc_405_312 rfl w13 ?_
  refine Bod.go dc_405_322 rfl ?_
  refine Bod.go dc_405_324 rfl ?_
  refine Bod.stat (r := []) dc_405_326 kr_405_749 (Or.inl rfl) (by rw [np_200]; rfl) (by rw [np_200]; rfl) (by rw [np_200]; exact Nat.le_of_ble_eq_true rfl) (Nat.le_of_ble_eq_true rfl) (c1  ) ?_
  show Bod _ _ _ _ [_] _ _ _
  refine Bod.lst dc_405_329 (by rw [ml_405]; exact Nat.le_of_ble_eq_true rfl) ?_
  refine Bod.go dc_405_331 rfl ?_
  refine Bod.go dc_405_332 rfl ?_
  refine Bod.get dc_405_333 fr_405_493 (mk_61 _) rfl ?_
  refine Bod.eqI (nI t) (by first | assumption | (simp (disch := omega) only [rI, rIe, rA, rIA, rLA, rJA, rVI, rQI, rVA, rQA, upd_at,  rAI, rLI, rJI, nI_add, pk_sub, kc_0, kc_1, kc_2, kc_3, kc_4, kc_5, reduceIte, Nat.reduceEqDiff, Nat.add_zero, rI_hold, rI_hold, rL_hold, he91, he911, ht]; done) | (simp (disch := omega) only [rI, rIe, rA, rIA, rLA, rJA, rVI, rQI, rVA, rQA, upd_at,  rAI, rLI, rJI, nI_add, pk_sub, kc_0, kc_1, kc_2, kc_3, kc_4, kc_5, reduceIte, Nat.reduceEqDiff, Nat.add_zero, rI_hold, rI_hold, rL_hold, he91, he911, ht]; exact congrArg nI (by omega))) ?_
  refine Bod.ic 2 (by decide) dc_405_336 ?_
  refine Bod.subN (t - 2) (by omega) (by omega) dc_405_337 ?_
  refine Bod.put dc_405_338 fr_405_493 (mk_61 _) (Nat.le_of_ble_eq_true rfl) pf_14_51 (st_6151 _ _) (mu_I _ _ _) ?_
  refine Bod.go dc_405_341 rfl ?_
  refine Bod.go dc_405_342 rfl ?_
  refine Bod.virt (r := []) dc_405_344 kr_405_613 ⟨Or.inl rfl, ow_353, cl_14⟩ (by rw [np_353]; rfl) (by rw [np_353]; rfl) (ob_of (mk_61 _)) (Nat.le_of_ble_eq_true rfl) (c2  ) ?_
  show Bod _ _ _ _ [] _ _ _
  refine Bod.ic 1 (by decide) dc_405_347 ?_
  exact Bod.retZ dc_405_348 rt_405 (Or.inr rfl)
theorem rRkD_4 {d : Nat} {S : cS} {x : Nat} {y : Nat} {e91 : Nat} {e911 : Nat} {S1 : cS} (mx : x < 2 ^ 20) (my : y < 2 ^ 20) (b1 : x < 20480) (he91 : sA S 91 x = nI e91) (me91 : e91 < 2 ^ 20) (b2 : e91 = 1) (b3 : y < 20480) (he911 : sA S 91 y = nI e911) (me911 : e911 < 2 ^ 20) (b4 : e911 = 1) (w11 : sm_c1 .ne (lg_cmp (sL S 92 y) 0) true false = true) (w12 : sm_c1 .ne (lg_cmp (sL S 92 x) ((-9223372036854775808))) true false = false) (w13 : sm_c1 .ne (lg_cmp (sL S 92 y) ((-1))) true false = false) (c1 : Ans (d + 8) 351 [.ref 61, .int (nI 6)] S (some (.int (nI 0))) S1) : Bod (d + 8) 405 0 [(0, .ref 61), (1, .int (nI 12079)), (2, .int (nI x)), (3, .int (nI y))] [] S (some (.int 0)) (S1) := by
  refine Bod.go dc_405_0 rfl ?_
  refine Bod.bip 43 (by decide) dc_405_1 ?_
  refine Bod.icT dc_405_3 rfl (k2_ne_T (k_ne 12079 43 rfl rfl (by omega) (by omega) (by omega))) ?_
  refine Bod.go dc_405_33 rfl ?_
  refine Bod.bip 43 (by decide) dc_405_34 ?_
  refine Bod.icT dc_405_36 rfl (k2_ne_T (k_ne 12079 43 rfl rfl (by omega) (by omega) (by omega))) ?_
  refine Bod.go dc_405_64 rfl ?_
  refine Bod.get dc_405_65 fr_405_496 (mk_61 _) rfl ?_
  refine Bod.go dc_405_68 rfl ?_
  refine Bod.ialdN x rfl (by omega) (by omega) dc_405_69 (mk_91 _) ?_
  refine Bod.eqI (nI e91) (by first | assumption | rfl | exact congrArg nI (by omega) | (simp (disch := omega) only [rI, rIe, rA, rIA, rLA, rJA, rVI, rQI, rVA, rQA, upd_at,  rAI, rLI, rJI, nI_add, pk_sub, kc_0, kc_1, kc_2, kc_3, kc_4, kc_5, reduceIte, Nat.reduceEqDiff, Nat.add_zero, rI_hold, rI_hold, rL_hold, he91]; done)) ?_
  refine Bod.ic 1 (by decide) dc_405_70 ?_
  refine Bod.icF dc_405_71 rfl (k2_ne_F (k_eq e91 1 rfl rfl (by omega))) ?_
  refine Bod.go dc_405_74 rfl ?_
  refine Bod.get dc_405_75 fr_405_496 (mk_61 _) rfl ?_
  refine Bod.go dc_405_78 rfl ?_
  refine Bod.ialdN y rfl (by omega) (by omega) dc_405_79 (mk_91 _) ?_
  refine Bod.eqI (nI e911) (by first | assumption | rfl | exact congrArg nI (by omega) | (simp (disch := omega) only [rI, rIe, rA, rIA, rLA, rJA, rVI, rQI, rVA, rQA, upd_at,  rAI, rLI, rJI, nI_add, pk_sub, kc_0, kc_1, kc_2, kc_3, kc_4, kc_5, reduceIte, Nat.reduceEqDiff, Nat.add_zero, rI_hold, rI_hold, rL_hold, he91, he911]; done)) ?_
  refine Bod.ic 1 (by decide) dc_405_80 ?_
  refine Bod.icT dc_405_81 rfl (k2_eq_T (k_eq e911 1 rfl rfl (by omega))) ?_
  refine Bod.go dc_405_90 rfl ?_
  refine Bod.get dc_405_91 fr_405_499 (mk_61 _) rfl ?_
  refine Bod.go dc_405_94 rfl ?_
  refine Bod.laldN x rfl (by omega) (by omega) dc_405_95 (mk_92 _) ?_
  refine Bod.lst dc_405_96 (by rw [ml_405]; exact Nat.le_of_ble_eq_true rfl) ?_
  refine Bod.go dc_405_98 rfl ?_
  refine Bod.get dc_405_99 fr_405_499 (mk_61 _) rfl ?_
  refine Bod.go dc_405_102 rfl ?_
  refine Bod.laldN y rfl (by omega) (by omega) dc_405_103 (mk_92 _) ?_
  refine Bod.lst dc_405_104 (by rw [ml_405]; exact Nat.le_of_ble_eq_true rfl) ?_
  refine Bod.go dc_405_106 rfl ?_
  refine Bod.sw (t := 284) dc_405_107 rfl rfl (by decide +kernel) ?_
  refine Bod.go dc_405_284 rfl ?_
  refine Bod.go dc_405_286 rfl ?_
  refine Bod.go dc_405_287 rfl ?_
  refine Bod.ifT dc_405_288 rfl w11 ?_
  refine Bod.go dc_405_297 rfl ?_
  refine Bod.ldc2 dc_405_299 cj_405_645 ?_
  refine Bod.go dc_405_302 rfl ?_
  refine Bod.ifF dc_405_303 rfl w12 ?_
  refine Bod.go dc_405_306 rfl ?_
  refine Bod.ldc2 dc_405_308 cj_405_744 ?_
  refine Bod.go dc_405_311 rfl ?_
  refine Bod.ifF dc_405_312 rfl w13 ?_
  refine Bod.go dc_405_315 rfl ?_
  refine Bod.bip 6 (by decide) dc_405_316 ?_
  refine Bod.virt (r := []) dc_405_318 kr_405_608 ⟨Or.inl rfl, ow_351, cl_14⟩ (by rw [np_351]; rfl) (by rw [np_351]; rfl) (ob_of (mk_61 _)) (Nat.le_of_ble_eq_true rfl) (c1  ) ?_
  show Bod _ _ _ _ [_] _ _ _
  exact Bod.retZ dc_405_321 rt_405 (Or.inl rfl)
theorem rRkD_5 {d : Nat} {S : cS} {x : Nat} {y : Nat} {e91 : Nat} {e911 : Nat} {S1 : cS} (mx : x < 2 ^ 20) (my : y < 2 ^ 20) (b1 : x < 20480) (he91 : sA S 91 x = nI e91) (me91 : e91 < 2 ^ 20) (b2 : e91 = 1) (b3 : y < 20480) (he911 : sA S 91 y = nI e911) (me911 : e911 < 2 ^ 20) (b4 : e911 = 1) (w11 : sm_c1 .ne (lg_cmp (sL S 92 y) 0) true false = false) (c1 : Ans (d + 8) 351 [.ref 61, .int (nI 5)] S (some (.int (nI 0))) S1) : Bod (d + 8) 405 0 [(0, .ref 61), (1, .int (nI 12079)), (2, .int (nI x)), (3, .int (nI y))] [] S (some (.int 0)) (S1) := by
  refine Bod.go dc_405_0 rfl ?_
  refine Bod.bip 43 (by decide) dc_405_1 ?_
  refine Bod.icT dc_405_3 rfl (k2_ne_T (k_ne 12079 43 rfl rfl (by omega) (by omega) (by omega))) ?_
  refine Bod.go dc_405_33 rfl ?_
  refine Bod.bip 43 (by decide) dc_405_34 ?_
  refine Bod.icT dc_405_36 rfl (k2_ne_T (k_ne 12079 43 rfl rfl (by omega) (by omega) (by omega))) ?_
  refine Bod.go dc_405_64 rfl ?_
  refine Bod.get dc_405_65 fr_405_496 (mk_61 _) rfl ?_
  refine Bod.go dc_405_68 rfl ?_
  refine Bod.ialdN x rfl (by omega) (by omega) dc_405_69 (mk_91 _) ?_
  refine Bod.eqI (nI e91) (by first | assumption | rfl | exact congrArg nI (by omega) | (simp (disch := omega) only [rI, rIe, rA, rIA, rLA, rJA, rVI, rQI, rVA, rQA, upd_at,  rAI, rLI, rJI, nI_add, pk_sub, kc_0, kc_1, kc_2, kc_3, kc_4, kc_5, reduceIte, Nat.reduceEqDiff, Nat.add_zero, rI_hold, rI_hold, rL_hold, he91]; done)) ?_
  refine Bod.ic 1 (by decide) dc_405_70 ?_
  refine Bod.icF dc_405_71 rfl (k2_ne_F (k_eq e91 1 rfl rfl (by omega))) ?_
  refine Bod.go dc_405_74 rfl ?_
  refine Bod.get dc_405_75 fr_405_496 (mk_61 _) rfl ?_
  refine Bod.go dc_405_78 rfl ?_
  refine Bod.ialdN y rfl (by omega) (by omega) dc_405_79 (mk_91 _) ?_
  refine Bod.eqI (nI e911) (by first | assumption | rfl | exact congrArg nI (by omega) | (simp (disch := omega) only [rI, rIe, rA, rIA, rLA, rJA, rVI, rQI, rVA, rQA, upd_at,  rAI, rLI, rJI, nI_add, pk_sub, kc_0, kc_1, kc_2, kc_3, kc_4, kc_5, reduceIte, Nat.reduceEqDiff, Nat.add_zero, rI_hold, rI_hold, rL_hold, he91, he911]; done)) ?_
  refine Bod.ic 1 (by decide) dc_405_80 ?_
  refine Bod.icT dc_405_81 rfl (k2_eq_T (k_eq e911 1 rfl rfl (by omega))) ?_
  refine Bod.go dc_405_90 rfl ?_
  refine Bod.get dc_405_91 fr_405_499 (mk_61 _) rfl ?_
  refine Bod.go dc_405_94 rfl ?_
  refine Bod.laldN x rfl (by omega) (by omega) dc_405_95 (mk_92 _) ?_
  refine Bod.lst dc_405_96 (by rw [ml_405]; exact Nat.le_of_ble_eq_true rfl) ?_
  refine Bod.go dc_405_98 rfl ?_
  refine Bod.get dc_405_99 fr_405_499 (mk_61 _) rfl ?_
  refine Bod.go dc_405_102 rfl ?_
  refine Bod.laldN y rfl (by omega) (by omega) dc_405_103 (mk_92 _) ?_
  refine Bod.lst dc_405_104 (by rw [ml_405]; exact Nat.le_of_ble_eq_true rfl) ?_
  refine Bod.go dc_405_106 rfl ?_
  refine Bod.sw (t := 284) dc_405_107 rfl rfl (by decide +kernel) ?_
  refine Bod.go dc_405_284 rfl ?_
  refine Bod.go dc_405_286 rfl ?_
  refine Bod.go dc_405_287 rfl ?_
  refine Bod.ifF dc_405_288 rfl w11 ?_
  refine Bod.go dc_405_291 rfl ?_
  refine Bod.ic 5 (by decide) dc_405_292 ?_
  refine Bod.virt (r := []) dc_405_293 kr_405_608 ⟨Or.inl rfl, ow_351, cl_14⟩ (by rw [np_351]; rfl) (by rw [np_351]; rfl) (ob_of (mk_61 _)) (Nat.le_of_ble_eq_true rfl) (c1  ) ?_
  show Bod _ _ _ _ [_] _ _ _
  exact Bod.retZ dc_405_296 rt_405 (Or.inl rfl)
theorem rRkD_6 {d : Nat} {S : cS} {x : Nat} {y : Nat} {e91 : Nat} {e911 : Nat} {S1 : cS} (mx : x < 2 ^ 20) (my : y < 2 ^ 20) (b1 : x < 20480) (he91 : sA S 91 x = nI e91) (me91 : e91 < 2 ^ 20) (b2 : e91 = 1) (b3 : y < 20480) (he911 : sA S 91 y = nI e911) (me911 : e911 < 2 ^ 20) (b4 : e911 ≠ 1) (c1 : Ans (d + 8) 351 [.ref 61, .int (nI 2)] S (some (.int (nI 0))) S1) : Bod (d + 8) 405 0 [(0, .ref 61), (1, .int (nI 12079)), (2, .int (nI x)), (3, .int (nI y))] [] S (some (.int 0)) (S1) := by
  refine Bod.go dc_405_0 rfl ?_
  refine Bod.bip 43 (by decide) dc_405_1 ?_
  refine Bod.icT dc_405_3 rfl (k2_ne_T (k_ne 12079 43 rfl rfl (by omega) (by omega) (by omega))) ?_
  refine Bod.go dc_405_33 rfl ?_
  refine Bod.bip 43 (by decide) dc_405_34 ?_
  refine Bod.icT dc_405_36 rfl (k2_ne_T (k_ne 12079 43 rfl rfl (by omega) (by omega) (by omega))) ?_
  refine Bod.go dc_405_64 rfl ?_
  refine Bod.get dc_405_65 fr_405_496 (mk_61 _) rfl ?_
  refine Bod.go dc_405_68 rfl ?_
  refine Bod.ialdN x rfl (by omega) (by omega) dc_405_69 (mk_91 _) ?_
  refine Bod.eqI (nI e91) (by first | assumption | rfl | exact congrArg nI (by omega) | (simp (disch := omega) only [rI, rIe, rA, rIA, rLA, rJA, rVI, rQI, rVA, rQA, upd_at,  rAI, rLI, rJI, nI_add, pk_sub, kc_0, kc_1, kc_2, kc_3, kc_4, kc_5, reduceIte, Nat.reduceEqDiff, Nat.add_zero, rI_hold, rI_hold, rL_hold, he91]; done)) ?_
  refine Bod.ic 1 (by decide) dc_405_70 ?_
  refine Bod.icF dc_405_71 rfl (k2_ne_F (k_eq e91 1 rfl rfl (by omega))) ?_
  refine Bod.go dc_405_74 rfl ?_
  refine Bod.get dc_405_75 fr_405_496 (mk_61 _) rfl ?_
  refine Bod.go dc_405_78 rfl ?_
  refine Bod.ialdN y rfl (by omega) (by omega) dc_405_79 (mk_91 _) ?_
  refine Bod.eqI (nI e911) (by first | assumption | rfl | exact congrArg nI (by omega) | (simp (disch := omega) only [rI, rIe, rA, rIA, rLA, rJA, rVI, rQI, rVA, rQA, upd_at,  rAI, rLI, rJI, nI_add, pk_sub, kc_0, kc_1, kc_2, kc_3, kc_4, kc_5, reduceIte, Nat.reduceEqDiff, Nat.add_zero, rI_hold, rI_hold, rL_hold, he91, he911]; done)) ?_
  refine Bod.ic 1 (by decide) dc_405_80 ?_
  refine Bod.icF dc_405_81 rfl (k2_eq_F (k_ne e911 1 rfl rfl (by omega) (by omega) (by omega))) ?_
  refine Bod.go dc_405_84 rfl ?_
  refine Bod.ic 2 (by decide) dc_405_85 ?_
  refine Bod.virt (r := []) dc_405_86 kr_405_608 ⟨Or.inl rfl, ow_351, cl_14⟩ (by rw [np_351]; rfl) (by rw [np_351]; rfl) (ob_of (mk_61 _)) (Nat.le_of_ble_eq_true rfl) (c1  ) ?_
  show Bod _ _ _ _ [_] _ _ _
  exact Bod.retZ dc_405_89 rt_405 (Or.inl rfl)
theorem rPo_1 {d : Nat} {S : cS} {g : Nat} {zg : Nat} {i0 : Nat} {fd0 : Nat} {e91 : Nat} {fd1 : Nat} {S1 : cS} {o : Nat} (mi0 : i0 < 2 ^ 20) (ag : 108 ≤ g) (hz1 : (sS S)[g - 108]? = some (13, zg)) (hfd0 : sI S (100 * g + 0) = nI fd0) (mfd0 : fd0 < 2 ^ 20) (b1 : fd0 ≠ 2) (b2 : i0 < 20480) (he91 : sA S 91 i0 = nI e91) (me91 : e91 < 2 ^ 20) (b3 : e91 = 1) (w11 : sm_c1 .ge (lg_cmp (sL S 92 i0) 0) true false = true) (hfd1 : sI S (100 * g + 1) = nI fd1) (mfd1 : fd1 < 2 ^ 20) (b4 : 1 ≤ fd1) (c1 : Ans (d + 8) 284 [.long (sL S 92 i0), .long 0, .long ((nI (fd1 - 1)).toInt64)] S (some (.int (nI 1))) S1) (ho : (sL S 92 i0).toInt32 = nI o) (mo : o < 1500) : Bod (d + 8) 410 0 [(0, .ref 61), (1, .ref g), (2, .int (nI i0))] [] S (some (.int (nI o))) (S1) := by
  refine Bod.go dc_410_0 rfl ?_
  refine Bod.get dc_410_1 fr_410_531 (mk_thing ag (by first | exact hz1 | (simp only [rIS, rJS, rAS, rLS, rVS, rQS, rS_hold]; exact hz1))) rfl ?_
  refine Bod.eqI (nI fd0) (by first | assumption | rfl | exact congrArg nI (by omega) | (simp (disch := omega) only [rI, rIe, rA, rIA, rLA, rJA, rVI, rQI, rVA, rQA, upd_at,  rAI, rLI, rJI, nI_add, pk_sub, kc_0, kc_1, kc_2, kc_3, kc_4, kc_5, reduceIte, Nat.reduceEqDiff, Nat.add_zero, rI_hold, rI_hold, rL_hold, hfd0]; done)) ?_
  refine Bod.ic 2 (by decide) dc_410_4 ?_
  refine Bod.icT dc_410_5 rfl (k2_ne_T (k_ne fd0 2 rfl rfl (by omega) (by omega) (by omega))) ?_
  refine Bod.go dc_410_73 rfl ?_
  refine Bod.get dc_410_74 fr_410_496 (mk_61 _) rfl ?_
  refine Bod.go dc_410_77 rfl ?_
  refine Bod.ialdN i0 rfl (by omega) (by omega) dc_410_78 (mk_91 _) ?_
  refine Bod.eqI (nI e91) (by first | assumption | rfl | exact congrArg nI (by omega) | (simp (disch := omega) only [rI, rIe, rA, rIA, rLA, rJA, rVI, rQI, rVA, rQA, upd_at,  rAI, rLI, rJI, nI_add, pk_sub, kc_0, kc_1, kc_2, kc_3, kc_4, kc_5, reduceIte, Nat.reduceEqDiff, Nat.add_zero, rI_hold, rI_hold, rL_hold, hfd0, he91]; done)) ?_
  refine Bod.ic 1 (by decide) dc_410_79 ?_
  refine Bod.icT dc_410_80 rfl (k2_eq_T (k_eq e91 1 rfl rfl (by omega))) ?_
  refine Bod.go dc_410_89 rfl ?_
  refine Bod.get dc_410_90 fr_410_499 (mk_61 _) rfl ?_
  refine Bod.go dc_410_93 rfl ?_
  refine Bod.laldN i0 rfl (by omega) (by omega) dc_410_94 (mk_92 _) ?_
  refine Bod.go dc_410_95 rfl ?_
  refine Bod.go dc_410_96 rfl ?_
  refine Bod.ifT dc_410_97 rfl w11 ?_
  refine Bod.go dc_410_115 rfl ?_
  refine Bod.get dc_410_116 fr_410_499 (mk_61 _) rfl ?_
  refine Bod.go dc_410_119 rfl ?_
  refine Bod.laldN i0 rfl (by omega) (by omega) dc_410_120 (mk_92 _) ?_
  refine Bod.lstn dc_410_121 (by rw [ml_410]; exact Nat.le_of_ble_eq_true rfl) ?_
  refine Bod.go dc_410_122 rfl ?_
  refine Bod.go dc_410_123 rfl ?_
  refine Bod.go dc_410_124 rfl ?_
  refine Bod.get dc_410_125 fr_410_459 (mk_thing ag (by first | exact hz1 | (simp only [rIS, rJS, rAS, rLS, rVS, rQS, rS_hold]; exact hz1))) rfl ?_
  refine Bod.eqI (nI fd1) (by first | assumption | rfl | exact congrArg nI (by omega) | (simp (disch := omega) only [rI, rIe, rA, rIA, rLA, rJA, rVI, rQI, rVA, rQA, upd_at,  rAI, rLI, rJI, nI_add, pk_sub, kc_0, kc_1, kc_2, kc_3, kc_4, kc_5, reduceIte, Nat.reduceEqDiff, Nat.add_zero, rI_hold, rI_hold, rL_hold, hfd0, he91, hfd1]; done)) ?_
  refine Bod.ic 1 (by decide) dc_410_128 ?_
  refine Bod.subN (fd1 - 1) (by omega) (by omega) dc_410_129 ?_
  refine Bod.go dc_410_130 rfl ?_
  refine Bod.stat (r := []) dc_410_131 kr_410_680 (Or.inl rfl) (by rw [np_284]; rfl) (by rw [np_284]; rfl) (by rw [np_284]; exact Nat.le_of_ble_eq_true rfl) (Nat.le_of_ble_eq_true rfl) (c1  ) ?_
  show Bod _ _ _ _ [_] _ _ _
  refine Bod.ifF dc_410_134 rfl (k1_eq_F (k_ne 1 0 rfl rfl (by omega) (by omega) (by omega))) ?_
  refine Bod.go dc_410_137 rfl ?_
  refine Bod.go dc_410_138 rfl ?_
  refine Bod.eqI (nI o) (by first | exact ho | (simp only [rI, rIe, rA, rIA, rLA, rJA, rVI, rQI, rVA, rQA, upd_at,  rAI, rLI, rJI, nI_add, pk_sub, kc_0, kc_1, kc_2, kc_3, kc_4, kc_5, reduceIte, Nat.reduceEqDiff, Nat.add_zero, rI_hold, rI_hold, rL_hold]; exact ho)) ?_
  refine Bod.go dc_410_139 rfl ?_
  exact Bod.retI dc_410_147 rt_410
theorem rPo_2 {d : Nat} {S : cS} {g : Nat} {zg : Nat} {i0 : Nat} {fd0 : Nat} {e91 : Nat} {fd1 : Nat} {S1 : cS} {S2 : cS} {a : Nat} (mi0 : i0 < 2 ^ 20) (ag : 108 ≤ g) (hz1 : (sS S)[g - 108]? = some (13, zg)) (hfd0 : sI S (100 * g + 0) = nI fd0) (mfd0 : fd0 < 2 ^ 20) (b1 : fd0 ≠ 2) (b2 : i0 < 20480) (he91 : sA S 91 i0 = nI e91) (me91 : e91 < 2 ^ 20) (b3 : e91 = 1) (w11 : sm_c1 .ge (lg_cmp (sL S 92 i0) 0) true false = true) (hfd1 : sI S (100 * g + 1) = nI fd1) (mfd1 : fd1 < 2 ^ 20) (b4 : 1 ≤ fd1) (c1 : Ans (d + 8) 284 [.long (sL S 92 i0), .long 0, .long ((nI (fd1 - 1)).toInt64)] S (some (.int (nI 0))) S1) (ma : a < 2 ^ 20) (c2 : Ans (d + 8) 411 [.ref 61, .int (nI 3)] S1 (some (.int (nI a))) S2) : Bod (d + 8) 410 0 [(0, .ref 61), (1, .ref g), (2, .int (nI i0))] [] S (some (.int (nI a))) (S2) := by
  refine Bod.go dc_410_0 rfl ?_
  refine Bod.get dc_410_1 fr_410_531 (mk_thing ag (by first | exact hz1 | (simp only [rIS, rJS, rAS, rLS, rVS, rQS, rS_hold]; exact hz1))) rfl ?_
  refine Bod.eqI (nI fd0) (by first | assumption | rfl | exact congrArg nI (by omega) | (simp (disch := omega) only [rI, rIe, rA, rIA, rLA, rJA, rVI, rQI, rVA, rQA, upd_at,  rAI, rLI, rJI, nI_add, pk_sub, kc_0, kc_1, kc_2, kc_3, kc_4, kc_5, reduceIte, Nat.reduceEqDiff, Nat.add_zero, rI_hold, rI_hold, rL_hold, hfd0]; done)) ?_
  refine Bod.ic 2 (by decide) dc_410_4 ?_
  refine Bod.icT dc_410_5 rfl (k2_ne_T (k_ne fd0 2 rfl rfl (by omega) (by omega) (by omega))) ?_
  refine Bod.go dc_410_73 rfl ?_
  refine Bod.get dc_410_74 fr_410_496 (mk_61 _) rfl ?_
  refine Bod.go dc_410_77 rfl ?_
  refine Bod.ialdN i0 rfl (by omega) (by omega) dc_410_78 (mk_91 _) ?_
  refine Bod.eqI (nI e91) (by first | assumption | rfl | exact congrArg nI (by omega) | (simp (disch := omega) only [rI, rIe, rA, rIA, rLA, rJA, rVI, rQI, rVA, rQA, upd_at,  rAI, rLI, rJI, nI_add, pk_sub, kc_0, kc_1, kc_2, kc_3, kc_4, kc_5, reduceIte, Nat.reduceEqDiff, Nat.add_zero, rI_hold, rI_hold, rL_hold, hfd0, he91]; done)) ?_
  refine Bod.ic 1 (by decide) dc_410_79 ?_
  refine Bod.icT dc_410_80 rfl (k2_eq_T (k_eq e91 1 rfl rfl (by omega))) ?_
  refine Bod.go dc_410_89 rfl ?_
  refine Bod.get dc_410_90 fr_410_499 (mk_61 _) rfl ?_
  refine Bod.go dc_410_93 rfl ?_
  refine Bod.laldN i0 rfl (by omega) (by omega) dc_410_94 (mk_92 _) ?_
  refine Bod.go dc_410_95 rfl ?_
  refine Bod.go dc_410_96 rfl ?_
  refine Bod.ifT dc_410_97 rfl w11 ?_
  refine Bod.go dc_410_115 rfl ?_
  refine Bod.get dc_410_116 fr_410_499 (mk_61 _) rfl ?_
  refine Bod.go dc_410_119 rfl ?_
  refine Bod.laldN i0 rfl (by omega) (by omega) dc_410_120 (mk_92 _) ?_
  refine Bod.lstn dc_410_121 (by rw [ml_410]; exact Nat.le_of_ble_eq_true rfl) ?_
  refine Bod.go dc_410_122 rfl ?_
  refine Bod.go dc_410_123 rfl ?_
  refine Bod.go dc_410_124 rfl ?_
  refine Bod.get dc_410_125 fr_410_459 (mk_thing ag (by first | exact hz1 | (simp only [rIS, rJS, rAS, rLS, rVS, rQS, rS_hold]; exact hz1))) rfl ?_
  refine Bod.eqI (nI fd1) (by first | assumption | rfl | exact congrArg nI (by omega) | (simp (disch := omega) only [rI, rIe, rA, rIA, rLA, rJA, rVI, rQI, rVA, rQA, upd_at,  rAI, rLI, rJI, nI_add, pk_sub, kc_0, kc_1, kc_2, kc_3, kc_4, kc_5, reduceIte, Nat.reduceEqDiff, Nat.add_zero, rI_hold, rI_hold, rL_hold, hfd0, he91, hfd1]; done)) ?_
  refine Bod.ic 1 (by decide) dc_410_128 ?_
  refine Bod.subN (fd1 - 1) (by omega) (by omega) dc_410_129 ?_
  refine Bod.go dc_410_130 rfl ?_
  refine Bod.stat (r := []) dc_410_131 kr_410_680 (Or.inl rfl) (by rw [np_284]; rfl) (by rw [np_284]; rfl) (by rw [np_284]; exact Nat.le_of_ble_eq_true rfl) (Nat.le_of_ble_eq_true rfl) (c1  ) ?_
  show Bod _ _ _ _ [_] _ _ _
  refine Bod.ifT dc_410_134 rfl (k1_eq_T (k_eq 0 0 rfl rfl (by omega))) ?_
  refine Bod.go dc_410_142 rfl ?_
  refine Bod.ic 3 (by decide) dc_410_143 ?_
  refine Bod.virt (r := []) dc_410_144 kr_410_762 ⟨Or.inl rfl, ow_411, cl_14⟩ (by rw [np_411]; rfl) (by rw [np_411]; rfl) (ob_of (mk_61 _)) (Nat.le_of_ble_eq_true rfl) (c2  ) ?_
  show Bod _ _ _ _ [_] _ _ _
  exact Bod.retI dc_410_147 rt_410
theorem rPo_3 {d : Nat} {S : cS} {g : Nat} {zg : Nat} {i0 : Nat} {fd0 : Nat} {e91 : Nat} {fd1 : Nat} {S1 : cS} {o : Nat} (mi0 : i0 < 2 ^ 20) (ag : 108 ≤ g) (hz1 : (sS S)[g - 108]? = some (13, zg)) (hfd0 : sI S (100 * g + 0) = nI fd0) (mfd0 : fd0 < 2 ^ 20) (b1 : fd0 ≠ 2) (b2 : i0 < 20480) (he91 : sA S 91 i0 = nI e91) (me91 : e91 < 2 ^ 20) (b3 : e91 = 1) (w11 : sm_c1 .ge (lg_cmp (sL S 92 i0) 0) true false = false) (hfd1 : sI S (100 * g + 1) = nI fd1) (mfd1 : fd1 < 2 ^ 20) (b4 : 1 ≤ fd1) (c1 : Ans (d + 8) 284 [.long ((sL S 92 i0) + ((nI fd1).toInt64)), .long 0, .long ((nI (fd1 - 1)).toInt64)] S (some (.int (nI 1))) S1) (ho : ((sL S 92 i0) + ((nI fd1).toInt64)).toInt32 = nI o) (mo : o < 1500) : Bod (d + 8) 410 0 [(0, .ref 61), (1, .ref g), (2, .int (nI i0))] [] S (some (.int (nI o))) (S1) := by
  refine Bod.go dc_410_0 rfl ?_
  refine Bod.get dc_410_1 fr_410_531 (mk_thing ag (by first | exact hz1 | (simp only [rIS, rJS, rAS, rLS, rVS, rQS, rS_hold]; exact hz1))) rfl ?_
  refine Bod.eqI (nI fd0) (by first | assumption | rfl | exact congrArg nI (by omega) | (simp (disch := omega) only [rI, rIe, rA, rIA, rLA, rJA, rVI, rQI, rVA, rQA, upd_at,  rAI, rLI, rJI, nI_add, pk_sub, kc_0, kc_1, kc_2, kc_3, kc_4, kc_5, reduceIte, Nat.reduceEqDiff, Nat.add_zero, rI_hold, rI_hold, rL_hold, hfd0]; done)) ?_
  refine Bod.ic 2 (by decide) dc_410_4 ?_
  refine Bod.icT dc_410_5 rfl (k2_ne_T (k_ne fd0 2 rfl rfl (by omega) (by omega) (by omega))) ?_
  refine Bod.go dc_410_73 rfl ?_
  refine Bod.get dc_410_74 fr_410_496 (mk_61 _) rfl ?_
  refine Bod.go dc_410_77 rfl ?_
  refine Bod.ialdN i0 rfl (by omega) (by omega) dc_410_78 (mk_91 _) ?_
  refine Bod.eqI (nI e91) (by first | assumption | rfl | exact congrArg nI (by omega) | (simp (disch := omega) only [rI, rIe, rA, rIA, rLA, rJA, rVI, rQI, rVA, rQA, upd_at,  rAI, rLI, rJI, nI_add, pk_sub, kc_0, kc_1, kc_2, kc_3, kc_4, kc_5, reduceIte, Nat.reduceEqDiff, Nat.add_zero, rI_hold, rI_hold, rL_hold, hfd0, he91]; done)) ?_
  refine Bod.ic 1 (by decide) dc_410_79 ?_
  refine Bod.icT dc_410_80 rfl (k2_eq_T (k_eq e91 1 rfl rfl (by omega))) ?_
  refine Bod.go dc_410_89 rfl ?_
  refine Bod.get dc_410_90 fr_410_499 (mk_61 _) rfl ?_
  refine Bod.go dc_410_93 rfl ?_
  refine Bod.laldN i0 rfl (by omega) (by omega) dc_410_94 (mk_92 _) ?_
  refine Bod.go dc_410_95 rfl ?_
  refine Bod.go dc_410_96 rfl ?_
  refine Bod.ifF dc_410_97 rfl w11 ?_
  refine Bod.go dc_410_100 rfl ?_
  refine Bod.get dc_410_101 fr_410_499 (mk_61 _) rfl ?_
  refine Bod.go dc_410_104 rfl ?_
  refine Bod.laldN i0 rfl (by omega) (by omega) dc_410_105 (mk_92 _) ?_
  refine Bod.go dc_410_106 rfl ?_
  refine Bod.get dc_410_107 fr_410_459 (mk_thing ag (by first | exact hz1 | (simp only [rIS, rJS, rAS, rLS, rVS, rQS, rS_hold]; exact hz1))) rfl ?_
  refine Bod.eqI (nI fd1) (by first | assumption | rfl | exact congrArg nI (by omega) | (simp (disch := omega) only [rI, rIe, rA, rIA, rLA, rJA, rVI, rQI, rVA, rQA, upd_at,  rAI, rLI, rJI, nI_add, pk_sub, kc_0, kc_1, kc_2, kc_3, kc_4, kc_5, reduceIte, Nat.reduceEqDiff, Nat.add_zero, rI_hold, rI_hold, rL_hold, hfd0, he91, hfd1]; done)) ?_
  refine Bod.go dc_410_110 rfl ?_
  refine Bod.go dc_410_111 rfl ?_
  refine Bod.go dc_410_112 rfl ?_
  refine Bod.lstn dc_410_121 (by rw [ml_410]; exact Nat.le_of_ble_eq_true rfl) ?_
  refine Bod.go dc_410_122 rfl ?_
  refine Bod.go dc_410_123 rfl ?_
  refine Bod.go dc_410_124 rfl ?_
  refine Bod.get dc_410_125 fr_410_459 (mk_thing ag (by first | exact hz1 | (simp only [rIS, rJS, rAS, rLS, rVS, rQS, rS_hold]; exact hz1))) rfl ?_
  refine Bod.eqI (nI fd1) (by first | assumption | rfl | exact congrArg nI (by omega) | (simp (disch := omega) only [rI, rIe, rA, rIA, rLA, rJA, rVI, rQI, rVA, rQA, upd_at,  rAI, rLI, rJI, nI_add, pk_sub, kc_0, kc_1, kc_2, kc_3, kc_4, kc_5, reduceIte, Nat.reduceEqDiff, Nat.add_zero, rI_hold, rI_hold, rL_hold, hfd0, he91, hfd1]; done)) ?_
  refine Bod.ic 1 (by decide) dc_410_128 ?_
  refine Bod.subN (fd1 - 1) (by omega) (by omega) dc_410_129 ?_
  refine Bod.go dc_410_130 rfl ?_
  refine Bod.stat (r := []) dc_410_131 kr_410_680 (Or.inl rfl) (by rw [np_284]; rfl) (by rw [np_284]; rfl) (by rw [np_284]; exact Nat.le_of_ble_eq_true rfl) (Nat.le_of_ble_eq_true rfl) (c1  ) ?_
  show Bod _ _ _ _ [_] _ _ _
  refine Bod.ifF dc_410_134 rfl (k1_eq_F (k_ne 1 0 rfl rfl (by omega) (by omega) (by omega))) ?_
  refine Bod.go dc_410_137 rfl ?_
  refine Bod.go dc_410_138 rfl ?_
  refine Bod.eqI (nI o) (by first | exact ho | (simp only [rI, rIe, rA, rIA, rLA, rJA, rVI, rQI, rVA, rQA, upd_at,  rAI, rLI, rJI, nI_add, pk_sub, kc_0, kc_1, kc_2, kc_3, kc_4, kc_5, reduceIte, Nat.reduceEqDiff, Nat.add_zero, rI_hold, rI_hold, rL_hold]; exact ho)) ?_
  refine Bod.go dc_410_139 rfl ?_
  exact Bod.retI dc_410_147 rt_410
theorem rPo_4 {d : Nat} {S : cS} {g : Nat} {zg : Nat} {i0 : Nat} {fd0 : Nat} {e91 : Nat} {fd1 : Nat} {S1 : cS} {S2 : cS} {a : Nat} (mi0 : i0 < 2 ^ 20) (ag : 108 ≤ g) (hz1 : (sS S)[g - 108]? = some (13, zg)) (hfd0 : sI S (100 * g + 0) = nI fd0) (mfd0 : fd0 < 2 ^ 20) (b1 : fd0 ≠ 2) (b2 : i0 < 20480) (he91 : sA S 91 i0 = nI e91) (me91 : e91 < 2 ^ 20) (b3 : e91 = 1) (w11 : sm_c1 .ge (lg_cmp (sL S 92 i0) 0) true false = false) (hfd1 : sI S (100 * g + 1) = nI fd1) (mfd1 : fd1 < 2 ^ 20) (b4 : 1 ≤ fd1) (c1 : Ans (d + 8) 284 [.long ((sL S 92 i0) + ((nI fd1).toInt64)), .long 0, .long ((nI (fd1 - 1)).toInt64)] S (some (.int (nI 0))) S1) (ma : a < 2 ^ 20) (c2 : Ans (d + 8) 411 [.ref 61, .int (nI 3)] S1 (some (.int (nI a))) S2) : Bod (d + 8) 410 0 [(0, .ref 61), (1, .ref g), (2, .int (nI i0))] [] S (some (.int (nI a))) (S2) := by
  refine Bod.go dc_410_0 rfl ?_
  refine Bod.get dc_410_1 fr_410_531 (mk_thing ag (by first | exact hz1 | (simp only [rIS, rJS, rAS, rLS, rVS, rQS, rS_hold]; exact hz1))) rfl ?_
  refine Bod.eqI (nI fd0) (by first | assumption | rfl | exact congrArg nI (by omega) | (simp (disch := omega) only [rI, rIe, rA, rIA, rLA, rJA, rVI, rQI, rVA, rQA, upd_at,  rAI, rLI, rJI, nI_add, pk_sub, kc_0, kc_1, kc_2, kc_3, kc_4, kc_5, reduceIte, Nat.reduceEqDiff, Nat.add_zero, rI_hold, rI_hold, rL_hold, hfd0]; done)) ?_
  refine Bod.ic 2 (by decide) dc_410_4 ?_
  refine Bod.icT dc_410_5 rfl (k2_ne_T (k_ne fd0 2 rfl rfl (by omega) (by omega) (by omega))) ?_
  refine Bod.go dc_410_73 rfl ?_
  refine Bod.get dc_410_74 fr_410_496 (mk_61 _) rfl ?_
  refine Bod.go dc_410_77 rfl ?_
  refine Bod.ialdN i0 rfl (by omega) (by omega) dc_410_78 (mk_91 _) ?_
  refine Bod.eqI (nI e91) (by first | assumption | rfl | exact congrArg nI (by omega) | (simp (disch := omega) only [rI, rIe, rA, rIA, rLA, rJA, rVI, rQI, rVA, rQA, upd_at,  rAI, rLI, rJI, nI_add, pk_sub, kc_0, kc_1, kc_2, kc_3, kc_4, kc_5, reduceIte, Nat.reduceEqDiff, Nat.add_zero, rI_hold, rI_hold, rL_hold, hfd0, he91]; done)) ?_
  refine Bod.ic 1 (by decide) dc_410_79 ?_
  refine Bod.icT dc_410_80 rfl (k2_eq_T (k_eq e91 1 rfl rfl (by omega))) ?_
  refine Bod.go dc_410_89 rfl ?_
  refine Bod.get dc_410_90 fr_410_499 (mk_61 _) rfl ?_
  refine Bod.go dc_410_93 rfl ?_
  refine Bod.laldN i0 rfl (by omega) (by omega) dc_410_94 (mk_92 _) ?_
  refine Bod.go dc_410_95 rfl ?_
  refine Bod.go dc_410_96 rfl ?_
  refine Bod.ifF dc_410_97 rfl w11 ?_
  refine Bod.go dc_410_100 rfl ?_
  refine Bod.get dc_410_101 fr_410_499 (mk_61 _) rfl ?_
  refine Bod.go dc_410_104 rfl ?_
  refine Bod.laldN i0 rfl (by omega) (by omega) dc_410_105 (mk_92 _) ?_
  refine Bod.go dc_410_106 rfl ?_
  refine Bod.get dc_410_107 fr_410_459 (mk_thing ag (by first | exact hz1 | (simp only [rIS, rJS, rAS, rLS, rVS, rQS, rS_hold]; exact hz1))) rfl ?_
  refine Bod.eqI (nI fd1) (by first | assumption | rfl | exact congrArg nI (by omega) | (simp (disch := omega) only [rI, rIe, rA, rIA, rLA, rJA, rVI, rQI, rVA, rQA, upd_at,  rAI, rLI, rJI, nI_add, pk_sub, kc_0, kc_1, kc_2, kc_3, kc_4, kc_5, reduceIte, Nat.reduceEqDiff, Nat.add_zero, rI_hold, rI_hold, rL_hold, hfd0, he91, hfd1]; done)) ?_
  refine Bod.go dc_410_110 rfl ?_
  refine Bod.go dc_410_111 rfl ?_
  refine Bod.go dc_410_112 rfl ?_
  refine Bod.lstn dc_410_121 (by rw [ml_410]; exact Nat.le_of_ble_eq_true rfl) ?_
  refine Bod.go dc_410_122 rfl ?_
  refine Bod.go dc_410_123 rfl ?_
  refine Bod.go dc_410_124 rfl ?_
  refine Bod.get dc_410_125 fr_410_459 (mk_thing ag (by first | exact hz1 | (simp only [rIS, rJS, rAS, rLS, rVS, rQS, rS_hold]; exact hz1))) rfl ?_
  refine Bod.eqI (nI fd1) (by first | assumption | rfl | exact congrArg nI (by omega) | (simp (disch := omega) only [rI, rIe, rA, rIA, rLA, rJA, rVI, rQI, rVA, rQA, upd_at,  rAI, rLI, rJI, nI_add, pk_sub, kc_0, kc_1, kc_2, kc_3, kc_4, kc_5, reduceIte, Nat.reduceEqDiff, Nat.add_zero, rI_hold, rI_hold, rL_hold, hfd0, he91, hfd1]; done)) ?_
  refine Bod.ic 1 (by decide) dc_410_128 ?_
  refine Bod.subN (fd1 - 1) (by omega) (by omega) dc_410_129 ?_
  refine Bod.go dc_410_130 rfl ?_
  refine Bod.stat (r := []) dc_410_131 kr_410_680 (Or.inl rfl) (by rw [np_284]; rfl) (by rw [np_284]; rfl) (by rw [np_284]; exact Nat.le_of_ble_eq_true rfl) (Nat.le_of_ble_eq_true rfl) (c1  ) ?_
  show Bod _ _ _ _ [_] _ _ _
  refine Bod.ifT dc_410_134 rfl (k1_eq_T (k_eq 0 0 rfl rfl (by omega))) ?_
  refine Bod.go dc_410_142 rfl ?_
  refine Bod.ic 3 (by decide) dc_410_143 ?_
  refine Bod.virt (r := []) dc_410_144 kr_410_762 ⟨Or.inl rfl, ow_411, cl_14⟩ (by rw [np_411]; rfl) (by rw [np_411]; rfl) (ob_of (mk_61 _)) (Nat.le_of_ble_eq_true rfl) (c2  ) ?_
  show Bod _ _ _ _ [_] _ _ _
  exact Bod.retI dc_410_147 rt_410
theorem rPo_5 {d : Nat} {S : cS} {g : Nat} {zg : Nat} {i0 : Nat} {fd0 : Nat} {e91 : Nat} {S1 : cS} {a : Nat} (mi0 : i0 < 2 ^ 20) (ag : 108 ≤ g) (hz1 : (sS S)[g - 108]? = some (13, zg)) (hfd0 : sI S (100 * g + 0) = nI fd0) (mfd0 : fd0 < 2 ^ 20) (b1 : fd0 ≠ 2) (b2 : i0 < 20480) (he91 : sA S 91 i0 = nI e91) (me91 : e91 < 2 ^ 20) (b3 : e91 ≠ 1) (ma : a < 2 ^ 20) (c1 : Ans (d + 8) 411 [.ref 61, .int (nI 2)] S (some (.int (nI a))) S1) : Bod (d + 8) 410 0 [(0, .ref 61), (1, .ref g), (2, .int (nI i0))] [] S (some (.int (nI a))) (S1) := by
  refine Bod.go dc_410_0 rfl ?_
  refine Bod.get dc_410_1 fr_410_531 (mk_thing ag (by first | exact hz1 | (simp only [rIS, rJS, rAS, rLS, rVS, rQS, rS_hold]; exact hz1))) rfl ?_
  refine Bod.eqI (nI fd0) (by first | assumption | rfl | exact congrArg nI (by omega) | (simp (disch := omega) only [rI, rIe, rA, rIA, rLA, rJA, rVI, rQI, rVA, rQA, upd_at,  rAI, rLI, rJI, nI_add, pk_sub, kc_0, kc_1, kc_2, kc_3, kc_4, kc_5, reduceIte, Nat.reduceEqDiff, Nat.add_zero, rI_hold, rI_hold, rL_hold, hfd0]; done)) ?_
  refine Bod.ic 2 (by decide) dc_410_4 ?_
  refine Bod.icT dc_410_5 rfl (k2_ne_T (k_ne fd0 2 rfl rfl (by omega) (by omega) (by omega))) ?_
  refine Bod.go dc_410_73 rfl ?_
  refine Bod.get dc_410_74 fr_410_496 (mk_61 _) rfl ?_
  refine Bod.go dc_410_77 rfl ?_
  refine Bod.ialdN i0 rfl (by omega) (by omega) dc_410_78 (mk_91 _) ?_
  refine Bod.eqI (nI e91) (by first | assumption | rfl | exact congrArg nI (by omega) | (simp (disch := omega) only [rI, rIe, rA, rIA, rLA, rJA, rVI, rQI, rVA, rQA, upd_at,  rAI, rLI, rJI, nI_add, pk_sub, kc_0, kc_1, kc_2, kc_3, kc_4, kc_5, reduceIte, Nat.reduceEqDiff, Nat.add_zero, rI_hold, rI_hold, rL_hold, hfd0, he91]; done)) ?_
  refine Bod.ic 1 (by decide) dc_410_79 ?_
  refine Bod.icF dc_410_80 rfl (k2_eq_F (k_ne e91 1 rfl rfl (by omega) (by omega) (by omega))) ?_
  refine Bod.go dc_410_83 rfl ?_
  refine Bod.ic 2 (by decide) dc_410_84 ?_
  refine Bod.virt (r := []) dc_410_85 kr_410_762 ⟨Or.inl rfl, ow_411, cl_14⟩ (by rw [np_411]; rfl) (by rw [np_411]; rfl) (ob_of (mk_61 _)) (Nat.le_of_ble_eq_true rfl) (c1  ) ?_
  show Bod _ _ _ _ [_] _ _ _
  exact Bod.retI dc_410_88 rt_410
theorem rPo_6 {d : Nat} {S : cS} {g : Nat} {zg : Nat} {i0 : Nat} {fd0 : Nat} {S1 : cS} {e91 : Nat} {S2 : cS} {a : Nat} (mi0 : i0 < 2 ^ 20) (ag : 108 ≤ g) (hz1 : (sS S)[g - 108]? = some (13, zg)) (hfd0 : sI S (100 * g + 0) = nI fd0) (mfd0 : fd0 < 2 ^ 20) (b1 : fd0 = 2) (c1 : Ans (d + 8) 403 [.ref 61, .int (nI i0)] S (some (.int (nI 1))) S1) (b2 : i0 < 20480) (he91 : sA S1 91 i0 = nI e91) (me91 : e91 < 2 ^ 20) (b3 : e91 ≠ 1) (ma : a < 2 ^ 20) (c2 : Ans (d + 8) 399 [.ref g, .int (nI e91), .long (sL S1 92 i0), .long (sL S1 93 i0)] S1 (some (.int (nI a))) S2) (hz2 : (sS S1)[g - 108]? = some (13, zg)) : Bod (d + 8) 410 0 [(0, .ref 61), (1, .ref g), (2, .int (nI i0))] [] S (some (.int (nI a))) (S2) := by
  refine Bod.go dc_410_0 rfl ?_
  refine Bod.get dc_410_1 fr_410_531 (mk_thing ag (by first | exact hz1 | (simp only [rIS, rJS, rAS, rLS, rVS, rQS, rS_hold]; exact hz1))) rfl ?_
  refine Bod.eqI (nI fd0) (by first | assumption | rfl | exact congrArg nI (by omega) | (simp (disch := omega) only [rI, rIe, rA, rIA, rLA, rJA, rVI, rQI, rVA, rQA, upd_at,  rAI, rLI, rJI, nI_add, pk_sub, kc_0, kc_1, kc_2, kc_3, kc_4, kc_5, reduceIte, Nat.reduceEqDiff, Nat.add_zero, rI_hold, rI_hold, rL_hold, hfd0]; done)) ?_
  refine Bod.ic 2 (by decide) dc_410_4 ?_
  refine Bod.icF dc_410_5 rfl (k2_ne_F (k_eq fd0 2 rfl rfl (by omega))) ?_
  refine Bod.go dc_410_8 rfl ?_
  refine Bod.go dc_410_9 rfl ?_
  refine Bod.virt (r := []) dc_410_10 kr_410_716 ⟨Or.inl rfl, ow_403, cl_14⟩ (by rw [np_403]; rfl) (by rw [np_403]; rfl) (ob_of (mk_61 _)) (Nat.le_of_ble_eq_true rfl) (c1  ) ?_
  show Bod _ _ _ _ [_] _ _ _
  refine Bod.ifT dc_410_13 rfl (k1_ne_T (k_ne 1 0 rfl rfl (by omega) (by omega) (by omega))) ?_
  refine Bod.go dc_410_22 rfl ?_
  refine Bod.go dc_410_23 rfl ?_
  refine Bod.get dc_410_24 fr_410_496 (mk_61 _) rfl ?_
  refine Bod.go dc_410_27 rfl ?_
  refine Bod.ialdN i0 rfl (by omega) (by omega) dc_410_28 (mk_91 _) ?_
  refine Bod.eqI (nI e91) (by first | assumption | (simp (disch := omega) only [rI, rIe, rA, rIA, rLA, rJA, rVI, rQI, rVA, rQA, upd_at,  rAI, rLI, rJI, nI_add, pk_sub, kc_0, kc_1, kc_2, kc_3, kc_4, kc_5, reduceIte, Nat.reduceEqDiff, Nat.add_zero, rI_hold, rI_hold, rL_hold, hfd0, he91]; done) | (simp (disch := omega) only [rI, rIe, rA, rIA, rLA, rJA, rVI, rQI, rVA, rQA, upd_at,  rAI, rLI, rJI, nI_add, pk_sub, kc_0, kc_1, kc_2, kc_3, kc_4, kc_5, reduceIte, Nat.reduceEqDiff, Nat.add_zero, rI_hold, rI_hold, rL_hold, hfd0, he91]; exact congrArg nI (by omega))) ?_
  refine Bod.go dc_410_29 rfl ?_
  refine Bod.get dc_410_30 fr_410_499 (mk_61 _) rfl ?_
  refine Bod.go dc_410_33 rfl ?_
  refine Bod.laldN i0 rfl (by omega) (by omega) dc_410_34 (mk_92 _) ?_
  refine Bod.go dc_410_35 rfl ?_
  refine Bod.get dc_410_36 fr_410_496 (mk_61 _) rfl ?_
  refine Bod.go dc_410_39 rfl ?_
  refine Bod.ialdN i0 rfl (by omega) (by omega) dc_410_40 (mk_91 _) ?_
  refine Bod.eqI (nI e91) (by first | assumption | (simp (disch := omega) only [rI, rIe, rA, rIA, rLA, rJA, rVI, rQI, rVA, rQA, upd_at,  rAI, rLI, rJI, nI_add, pk_sub, kc_0, kc_1, kc_2, kc_3, kc_4, kc_5, reduceIte, Nat.reduceEqDiff, Nat.add_zero, rI_hold, rI_hold, rL_hold, hfd0, he91]; done) | (simp (disch := omega) only [rI, rIe, rA, rIA, rLA, rJA, rVI, rQI, rVA, rQA, upd_at,  rAI, rLI, rJI, nI_add, pk_sub, kc_0, kc_1, kc_2, kc_3, kc_4, kc_5, reduceIte, Nat.reduceEqDiff, Nat.add_zero, rI_hold, rI_hold, rL_hold, hfd0, he91]; exact congrArg nI (by omega))) ?_
  refine Bod.ic 1 (by decide) dc_410_41 ?_
  refine Bod.icT dc_410_42 rfl (k2_ne_T (k_ne e91 1 rfl rfl (by omega) (by omega) (by omega))) ?_
  refine Bod.go dc_410_49 rfl ?_
  refine Bod.get dc_410_50 fr_410_546 (mk_61 _) rfl ?_
  refine Bod.go dc_410_53 rfl ?_
  refine Bod.laldN i0 rfl (by omega) (by omega) dc_410_54 (mk_93 _) ?_
  refine Bod.virt (r := []) dc_410_55 kr_410_764 ⟨Or.inl rfl, ow_399, cl_13⟩ (by rw [np_399]; rfl) (by rw [np_399]; rfl) (ob_of (mk_thing ag (by first | exact hz2 | (simp only [rIS, rJS, rAS, rLS, rVS, rQS, rS_hold]; exact hz2)))) (Nat.le_of_ble_eq_true rfl) (c2  ) ?_
  show Bod _ _ _ _ [_] _ _ _
  refine Bod.istn dc_410_58 (by rw [ml_410]; exact Nat.le_of_ble_eq_true rfl) ?_
  refine Bod.go dc_410_59 rfl ?_
  refine Bod.ifT dc_410_60 rfl (k1_ge_T a rfl (by omega)) ?_
  refine Bod.go dc_410_71 rfl ?_
  exact Bod.retI dc_410_72 rt_410
theorem rPo_7 {d : Nat} {S : cS} {g : Nat} {zg : Nat} {i0 : Nat} {fd0 : Nat} {S1 : cS} {e91 : Nat} {S2 : cS} {S3 : cS} {a : Nat} (mi0 : i0 < 2 ^ 20) (ag : 108 ≤ g) (hz1 : (sS S)[g - 108]? = some (13, zg)) (hfd0 : sI S (100 * g + 0) = nI fd0) (mfd0 : fd0 < 2 ^ 20) (b1 : fd0 = 2) (c1 : Ans (d + 8) 403 [.ref 61, .int (nI i0)] S (some (.int (nI 1))) S1) (b2 : i0 < 20480) (he91 : sA S1 91 i0 = nI e91) (me91 : e91 < 2 ^ 20) (b3 : e91 ≠ 1) (c2 : Ans (d + 8) 399 [.ref g, .int (nI e91), .long (sL S1 92 i0), .long (sL S1 93 i0)] S1 (some (.int (Int32.ofInt (-1)))) S2) (hz2 : (sS S1)[g - 108]? = some (13, zg)) (ma : a < 2 ^ 20) (c3 : Ans (d + 8) 411 [.ref 61, .int (nI 4)] S2 (some (.int (nI a))) S3) : Bod (d + 8) 410 0 [(0, .ref 61), (1, .ref g), (2, .int (nI i0))] [] S (some (.int (nI a))) (S3) := by
  refine Bod.go dc_410_0 rfl ?_
  refine Bod.get dc_410_1 fr_410_531 (mk_thing ag (by first | exact hz1 | (simp only [rIS, rJS, rAS, rLS, rVS, rQS, rS_hold]; exact hz1))) rfl ?_
  refine Bod.eqI (nI fd0) (by first | assumption | rfl | exact congrArg nI (by omega) | (simp (disch := omega) only [rI, rIe, rA, rIA, rLA, rJA, rVI, rQI, rVA, rQA, upd_at,  rAI, rLI, rJI, nI_add, pk_sub, kc_0, kc_1, kc_2, kc_3, kc_4, kc_5, reduceIte, Nat.reduceEqDiff, Nat.add_zero, rI_hold, rI_hold, rL_hold, hfd0]; done)) ?_
  refine Bod.ic 2 (by decide) dc_410_4 ?_
  refine Bod.icF dc_410_5 rfl (k2_ne_F (k_eq fd0 2 rfl rfl (by omega))) ?_
  refine Bod.go dc_410_8 rfl ?_
  refine Bod.go dc_410_9 rfl ?_
  refine Bod.virt (r := []) dc_410_10 kr_410_716 ⟨Or.inl rfl, ow_403, cl_14⟩ (by rw [np_403]; rfl) (by rw [np_403]; rfl) (ob_of (mk_61 _)) (Nat.le_of_ble_eq_true rfl) (c1  ) ?_
  show Bod _ _ _ _ [_] _ _ _
  refine Bod.ifT dc_410_13 rfl (k1_ne_T (k_ne 1 0 rfl rfl (by omega) (by omega) (by omega))) ?_
  refine Bod.go dc_410_22 rfl ?_
  refine Bod.go dc_410_23 rfl ?_
  refine Bod.get dc_410_24 fr_410_496 (mk_61 _) rfl ?_
  refine Bod.go dc_410_27 rfl ?_
  refine Bod.ialdN i0 rfl (by omega) (by omega) dc_410_28 (mk_91 _) ?_
  refine Bod.eqI (nI e91) (by first | assumption | (simp (disch := omega) only [rI, rIe, rA, rIA, rLA, rJA, rVI, rQI, rVA, rQA, upd_at,  rAI, rLI, rJI, nI_add, pk_sub, kc_0, kc_1, kc_2, kc_3, kc_4, kc_5, reduceIte, Nat.reduceEqDiff, Nat.add_zero, rI_hold, rI_hold, rL_hold, hfd0, he91]; done) | (simp (disch := omega) only [rI, rIe, rA, rIA, rLA, rJA, rVI, rQI, rVA, rQA, upd_at,  rAI, rLI, rJI, nI_add, pk_sub, kc_0, kc_1, kc_2, kc_3, kc_4, kc_5, reduceIte, Nat.reduceEqDiff, Nat.add_zero, rI_hold, rI_hold, rL_hold, hfd0, he91]; exact congrArg nI (by omega))) ?_
  refine Bod.go dc_410_29 rfl ?_
  refine Bod.get dc_410_30 fr_410_499 (mk_61 _) rfl ?_
  refine Bod.go dc_410_33 rfl ?_
  refine Bod.laldN i0 rfl (by omega) (by omega) dc_410_34 (mk_92 _) ?_
  refine Bod.go dc_410_35 rfl ?_
  refine Bod.get dc_410_36 fr_410_496 (mk_61 _) rfl ?_
  refine Bod.go dc_410_39 rfl ?_
  refine Bod.ialdN i0 rfl (by omega) (by omega) dc_410_40 (mk_91 _) ?_
  refine Bod.eqI (nI e91) (by first | assumption | (simp (disch := omega) only [rI, rIe, rA, rIA, rLA, rJA, rVI, rQI, rVA, rQA, upd_at,  rAI, rLI, rJI, nI_add, pk_sub, kc_0, kc_1, kc_2, kc_3, kc_4, kc_5, reduceIte, Nat.reduceEqDiff, Nat.add_zero, rI_hold, rI_hold, rL_hold, hfd0, he91]; done) | (simp (disch := omega) only [rI, rIe, rA, rIA, rLA, rJA, rVI, rQI, rVA, rQA, upd_at,  rAI, rLI, rJI, nI_add, pk_sub, kc_0, kc_1, kc_2, kc_3, kc_4, kc_5, reduceIte, Nat.reduceEqDiff, Nat.add_zero, rI_hold, rI_hold, rL_hold, hfd0, he91]; exact congrArg nI (by omega))) ?_
  refine Bod.ic 1 (by decide) dc_410_41 ?_
  refine Bod.icT dc_410_42 rfl (k2_ne_T (k_ne e91 1 rfl rfl (by omega) (by omega) (by omega))) ?_
  refine Bod.go dc_410_49 rfl ?_
  refine Bod.get dc_410_50 fr_410_546 (mk_61 _) rfl ?_
  refine Bod.go dc_410_53 rfl ?_
  refine Bod.laldN i0 rfl (by omega) (by omega) dc_410_54 (mk_93 _) ?_
  refine Bod.virt (r := []) dc_410_55 kr_410_764 ⟨Or.inl rfl, ow_399, cl_13⟩ (by rw [np_399]; rfl) (by rw [np_399]; rfl) (ob_of (mk_thing ag (by first | exact hz2 | (simp only [rIS, rJS, rAS, rLS, rVS, rQS, rS_hold]; exact hz2)))) (Nat.le_of_ble_eq_true rfl) (c2  ) ?_
  show Bod _ _ _ _ [_] _ _ _
  refine Bod.istn dc_410_58 (by rw [ml_410]; exact Nat.le_of_ble_eq_true rfl) ?_
  refine Bod.go dc_410_59 rfl ?_
  refine Bod.ifF dc_410_60 rfl (by decide) ?_
  refine Bod.go dc_410_63 rfl ?_
  refine Bod.ic 4 (by decide) dc_410_64 ?_
  refine Bod.virt (r := []) dc_410_65 kr_410_762 ⟨Or.inl rfl, ow_411, cl_14⟩ (by rw [np_411]; rfl) (by rw [np_411]; rfl) (ob_of (mk_61 _)) (Nat.le_of_ble_eq_true rfl) (c3  ) ?_
  show Bod _ _ _ _ [_] _ _ _
  refine Bod.go dc_410_68 rfl ?_
  exact Bod.retI dc_410_72 rt_410
theorem rPo_8 {d : Nat} {S : cS} {g : Nat} {zg : Nat} {i0 : Nat} {fd0 : Nat} {S1 : cS} {e91 : Nat} {S2 : cS} {a : Nat} (mi0 : i0 < 2 ^ 20) (ag : 108 ≤ g) (hz1 : (sS S)[g - 108]? = some (13, zg)) (hfd0 : sI S (100 * g + 0) = nI fd0) (mfd0 : fd0 < 2 ^ 20) (b1 : fd0 = 2) (c1 : Ans (d + 8) 403 [.ref 61, .int (nI i0)] S (some (.int (nI 1))) S1) (b2 : i0 < 20480) (he91 : sA S1 91 i0 = nI e91) (me91 : e91 < 2 ^ 20) (b3 : e91 = 1) (ma : a < 2 ^ 20) (c2 : Ans (d + 8) 399 [.ref g, .int (nI e91), .long (sL S1 92 i0), .long 0] S1 (some (.int (nI a))) S2) (hz2 : (sS S1)[g - 108]? = some (13, zg)) : Bod (d + 8) 410 0 [(0, .ref 61), (1, .ref g), (2, .int (nI i0))] [] S (some (.int (nI a))) (S2) := by
  refine Bod.go dc_410_0 rfl ?_
  refine Bod.get dc_410_1 fr_410_531 (mk_thing ag (by first | exact hz1 | (simp only [rIS, rJS, rAS, rLS, rVS, rQS, rS_hold]; exact hz1))) rfl ?_
  refine Bod.eqI (nI fd0) (by first | assumption | rfl | exact congrArg nI (by omega) | (simp (disch := omega) only [rI, rIe, rA, rIA, rLA, rJA, rVI, rQI, rVA, rQA, upd_at,  rAI, rLI, rJI, nI_add, pk_sub, kc_0, kc_1, kc_2, kc_3, kc_4, kc_5, reduceIte, Nat.reduceEqDiff, Nat.add_zero, rI_hold, rI_hold, rL_hold, hfd0]; done)) ?_
  refine Bod.ic 2 (by decide) dc_410_4 ?_
  refine Bod.icF dc_410_5 rfl (k2_ne_F (k_eq fd0 2 rfl rfl (by omega))) ?_
  refine Bod.go dc_410_8 rfl ?_
  refine Bod.go dc_410_9 rfl ?_
  refine Bod.virt (r := []) dc_410_10 kr_410_716 ⟨Or.inl rfl, ow_403, cl_14⟩ (by rw [np_403]; rfl) (by rw [np_403]; rfl) (ob_of (mk_61 _)) (Nat.le_of_ble_eq_true rfl) (c1  ) ?_
  show Bod _ _ _ _ [_] _ _ _
  refine Bod.ifT dc_410_13 rfl (k1_ne_T (k_ne 1 0 rfl rfl (by omega) (by omega) (by omega))) ?_
  refine Bod.go dc_410_22 rfl ?_
  refine Bod.go dc_410_23 rfl ?_
  refine Bod.get dc_410_24 fr_410_496 (mk_61 _) rfl ?_
  refine Bod.go dc_410_27 rfl ?_
  refine Bod.ialdN i0 rfl (by omega) (by omega) dc_410_28 (mk_91 _) ?_
  refine Bod.eqI (nI e91) (by first | assumption | (simp (disch := omega) only [rI, rIe, rA, rIA, rLA, rJA, rVI, rQI, rVA, rQA, upd_at,  rAI, rLI, rJI, nI_add, pk_sub, kc_0, kc_1, kc_2, kc_3, kc_4, kc_5, reduceIte, Nat.reduceEqDiff, Nat.add_zero, rI_hold, rI_hold, rL_hold, hfd0, he91]; done) | (simp (disch := omega) only [rI, rIe, rA, rIA, rLA, rJA, rVI, rQI, rVA, rQA, upd_at,  rAI, rLI, rJI, nI_add, pk_sub, kc_0, kc_1, kc_2, kc_3, kc_4, kc_5, reduceIte, Nat.reduceEqDiff, Nat.add_zero, rI_hold, rI_hold, rL_hold, hfd0, he91]; exact congrArg nI (by omega))) ?_
  refine Bod.go dc_410_29 rfl ?_
  refine Bod.get dc_410_30 fr_410_499 (mk_61 _) rfl ?_
  refine Bod.go dc_410_33 rfl ?_
  refine Bod.laldN i0 rfl (by omega) (by omega) dc_410_34 (mk_92 _) ?_
  refine Bod.go dc_410_35 rfl ?_
  refine Bod.get dc_410_36 fr_410_496 (mk_61 _) rfl ?_
  refine Bod.go dc_410_39 rfl ?_
  refine Bod.ialdN i0 rfl (by omega) (by omega) dc_410_40 (mk_91 _) ?_
  refine Bod.eqI (nI e91) (by first | assumption | (simp (disch := omega) only [rI, rIe, rA, rIA, rLA, rJA, rVI, rQI, rVA, rQA, upd_at,  rAI, rLI, rJI, nI_add, pk_sub, kc_0, kc_1, kc_2, kc_3, kc_4, kc_5, reduceIte, Nat.reduceEqDiff, Nat.add_zero, rI_hold, rI_hold, rL_hold, hfd0, he91]; done) | (simp (disch := omega) only [rI, rIe, rA, rIA, rLA, rJA, rVI, rQI, rVA, rQA, upd_at,  rAI, rLI, rJI, nI_add, pk_sub, kc_0, kc_1, kc_2, kc_3, kc_4, kc_5, reduceIte, Nat.reduceEqDiff, Nat.add_zero, rI_hold, rI_hold, rL_hold, hfd0, he91]; exact congrArg nI (by omega))) ?_
  refine Bod.ic 1 (by decide) dc_410_41 ?_
  refine Bod.icF dc_410_42 rfl (k2_ne_F (k_eq e91 1 rfl rfl (by omega))) ?_
  refine Bod.go dc_410_45 rfl ?_
  refine Bod.go dc_410_46 rfl ?_
  refine Bod.virt (r := []) dc_410_55 kr_410_764 ⟨Or.inl rfl, ow_399, cl_13⟩ (by rw [np_399]; rfl) (by rw [np_399]; rfl) (ob_of (mk_thing ag (by first | exact hz2 | (simp only [rIS, rJS, rAS, rLS, rVS, rQS, rS_hold]; exact hz2)))) (Nat.le_of_ble_eq_true rfl) (c2  ) ?_
  show Bod _ _ _ _ [_] _ _ _
  refine Bod.istn dc_410_58 (by rw [ml_410]; exact Nat.le_of_ble_eq_true rfl) ?_
  refine Bod.go dc_410_59 rfl ?_
  refine Bod.ifT dc_410_60 rfl (k1_ge_T a rfl (by omega)) ?_
  refine Bod.go dc_410_71 rfl ?_
  exact Bod.retI dc_410_72 rt_410
theorem rPo_9 {d : Nat} {S : cS} {g : Nat} {zg : Nat} {i0 : Nat} {fd0 : Nat} {S1 : cS} {e91 : Nat} {S2 : cS} {S3 : cS} {a : Nat} (mi0 : i0 < 2 ^ 20) (ag : 108 ≤ g) (hz1 : (sS S)[g - 108]? = some (13, zg)) (hfd0 : sI S (100 * g + 0) = nI fd0) (mfd0 : fd0 < 2 ^ 20) (b1 : fd0 = 2) (c1 : Ans (d + 8) 403 [.ref 61, .int (nI i0)] S (some (.int (nI 1))) S1) (b2 : i0 < 20480) (he91 : sA S1 91 i0 = nI e91) (me91 : e91 < 2 ^ 20) (b3 : e91 = 1) (c2 : Ans (d + 8) 399 [.ref g, .int (nI e91), .long (sL S1 92 i0), .long 0] S1 (some (.int (Int32.ofInt (-1)))) S2) (hz2 : (sS S1)[g - 108]? = some (13, zg)) (ma : a < 2 ^ 20) (c3 : Ans (d + 8) 411 [.ref 61, .int (nI 4)] S2 (some (.int (nI a))) S3) : Bod (d + 8) 410 0 [(0, .ref 61), (1, .ref g), (2, .int (nI i0))] [] S (some (.int (nI a))) (S3) := by
  refine Bod.go dc_410_0 rfl ?_
  refine Bod.get dc_410_1 fr_410_531 (mk_thing ag (by first | exact hz1 | (simp only [rIS, rJS, rAS, rLS, rVS, rQS, rS_hold]; exact hz1))) rfl ?_
  refine Bod.eqI (nI fd0) (by first | assumption | rfl | exact congrArg nI (by omega) | (simp (disch := omega) only [rI, rIe, rA, rIA, rLA, rJA, rVI, rQI, rVA, rQA, upd_at,  rAI, rLI, rJI, nI_add, pk_sub, kc_0, kc_1, kc_2, kc_3, kc_4, kc_5, reduceIte, Nat.reduceEqDiff, Nat.add_zero, rI_hold, rI_hold, rL_hold, hfd0]; done)) ?_
  refine Bod.ic 2 (by decide) dc_410_4 ?_
  refine Bod.icF dc_410_5 rfl (k2_ne_F (k_eq fd0 2 rfl rfl (by omega))) ?_
  refine Bod.go dc_410_8 rfl ?_
  refine Bod.go dc_410_9 rfl ?_
  refine Bod.virt (r := []) dc_410_10 kr_410_716 ⟨Or.inl rfl, ow_403, cl_14⟩ (by rw [np_403]; rfl) (by rw [np_403]; rfl) (ob_of (mk_61 _)) (Nat.le_of_ble_eq_true rfl) (c1  ) ?_
  show Bod _ _ _ _ [_] _ _ _
  refine Bod.ifT dc_410_13 rfl (k1_ne_T (k_ne 1 0 rfl rfl (by omega) (by omega) (by omega))) ?_
  refine Bod.go dc_410_22 rfl ?_
  refine Bod.go dc_410_23 rfl ?_
  refine Bod.get dc_410_24 fr_410_496 (mk_61 _) rfl ?_
  refine Bod.go dc_410_27 rfl ?_
  refine Bod.ialdN i0 rfl (by omega) (by omega) dc_410_28 (mk_91 _) ?_
  refine Bod.eqI (nI e91) (by first | assumption | (simp (disch := omega) only [rI, rIe, rA, rIA, rLA, rJA, rVI, rQI, rVA, rQA, upd_at,  rAI, rLI, rJI, nI_add, pk_sub, kc_0, kc_1, kc_2, kc_3, kc_4, kc_5, reduceIte, Nat.reduceEqDiff, Nat.add_zero, rI_hold, rI_hold, rL_hold, hfd0, he91]; done) | (simp (disch := omega) only [rI, rIe, rA, rIA, rLA, rJA, rVI, rQI, rVA, rQA, upd_at,  rAI, rLI, rJI, nI_add, pk_sub, kc_0, kc_1, kc_2, kc_3, kc_4, kc_5, reduceIte, Nat.reduceEqDiff, Nat.add_zero, rI_hold, rI_hold, rL_hold, hfd0, he91]; exact congrArg nI (by omega))) ?_
  refine Bod.go dc_410_29 rfl ?_
  refine Bod.get dc_410_30 fr_410_499 (mk_61 _) rfl ?_
  refine Bod.go dc_410_33 rfl ?_
  refine Bod.laldN i0 rfl (by omega) (by omega) dc_410_34 (mk_92 _) ?_
  refine Bod.go dc_410_35 rfl ?_
  refine Bod.get dc_410_36 fr_410_496 (mk_61 _) rfl ?_
  refine Bod.go dc_410_39 rfl ?_
  refine Bod.ialdN i0 rfl (by omega) (by omega) dc_410_40 (mk_91 _) ?_
  refine Bod.eqI (nI e91) (by first | assumption | (simp (disch := omega) only [rI, rIe, rA, rIA, rLA, rJA, rVI, rQI, rVA, rQA, upd_at,  rAI, rLI, rJI, nI_add, pk_sub, kc_0, kc_1, kc_2, kc_3, kc_4, kc_5, reduceIte, Nat.reduceEqDiff, Nat.add_zero, rI_hold, rI_hold, rL_hold, hfd0, he91]; done) | (simp (disch := omega) only [rI, rIe, rA, rIA, rLA, rJA, rVI, rQI, rVA, rQA, upd_at,  rAI, rLI, rJI, nI_add, pk_sub, kc_0, kc_1, kc_2, kc_3, kc_4, kc_5, reduceIte, Nat.reduceEqDiff, Nat.add_zero, rI_hold, rI_hold, rL_hold, hfd0, he91]; exact congrArg nI (by omega))) ?_
  refine Bod.ic 1 (by decide) dc_410_41 ?_
  refine Bod.icF dc_410_42 rfl (k2_ne_F (k_eq e91 1 rfl rfl (by omega))) ?_
  refine Bod.go dc_410_45 rfl ?_
  refine Bod.go dc_410_46 rfl ?_
  refine Bod.virt (r := []) dc_410_55 kr_410_764 ⟨Or.inl rfl, ow_399, cl_13⟩ (by rw [np_399]; rfl) (by rw [np_399]; rfl) (ob_of (mk_thing ag (by first | exact hz2 | (simp only [rIS, rJS, rAS, rLS, rVS, rQS, rS_hold]; exact hz2)))) (Nat.le_of_ble_eq_true rfl) (c2  ) ?_
  show Bod _ _ _ _ [_] _ _ _
  refine Bod.istn dc_410_58 (by rw [ml_410]; exact Nat.le_of_ble_eq_true rfl) ?_
  refine Bod.go dc_410_59 rfl ?_
  refine Bod.ifF dc_410_60 rfl (by decide) ?_
  refine Bod.go dc_410_63 rfl ?_
  refine Bod.ic 4 (by decide) dc_410_64 ?_
  refine Bod.virt (r := []) dc_410_65 kr_410_762 ⟨Or.inl rfl, ow_411, cl_14⟩ (by rw [np_411]; rfl) (by rw [np_411]; rfl) (ob_of (mk_61 _)) (Nat.le_of_ble_eq_true rfl) (c3  ) ?_
  show Bod _ _ _ _ [_] _ _ _
  refine Bod.go dc_410_68 rfl ?_
  exact Bod.retI dc_410_72 rt_410
theorem rPo_10 {d : Nat} {S : cS} {g : Nat} {zg : Nat} {i0 : Nat} {fd0 : Nat} {S1 : cS} {S2 : cS} {a : Nat} (mi0 : i0 < 2 ^ 20) (ag : 108 ≤ g) (hz1 : (sS S)[g - 108]? = some (13, zg)) (hfd0 : sI S (100 * g + 0) = nI fd0) (mfd0 : fd0 < 2 ^ 20) (b1 : fd0 = 2) (c1 : Ans (d + 8) 403 [.ref 61, .int (nI i0)] S (some (.int (nI 0))) S1) (ma : a < 2 ^ 20) (c2 : Ans (d + 8) 411 [.ref 61, .int (nI 2)] S1 (some (.int (nI a))) S2) : Bod (d + 8) 410 0 [(0, .ref 61), (1, .ref g), (2, .int (nI i0))] [] S (some (.int (nI a))) (S2) := by
  refine Bod.go dc_410_0 rfl ?_
  refine Bod.get dc_410_1 fr_410_531 (mk_thing ag (by first | exact hz1 | (simp only [rIS, rJS, rAS, rLS, rVS, rQS, rS_hold]; exact hz1))) rfl ?_
  refine Bod.eqI (nI fd0) (by first | assumption | rfl | exact congrArg nI (by omega) | (simp (disch := omega) only [rI, rIe, rA, rIA, rLA, rJA, rVI, rQI, rVA, rQA, upd_at,  rAI, rLI, rJI, nI_add, pk_sub, kc_0, kc_1, kc_2, kc_3, kc_4, kc_5, reduceIte, Nat.reduceEqDiff, Nat.add_zero, rI_hold, rI_hold, rL_hold, hfd0]; done)) ?_
  refine Bod.ic 2 (by decide) dc_410_4 ?_
  refine Bod.icF dc_410_5 rfl (k2_ne_F (k_eq fd0 2 rfl rfl (by omega))) ?_
  refine Bod.go dc_410_8 rfl ?_
  refine Bod.go dc_410_9 rfl ?_
  refine Bod.virt (r := []) dc_410_10 kr_410_716 ⟨Or.inl rfl, ow_403, cl_14⟩ (by rw [np_403]; rfl) (by rw [np_403]; rfl) (ob_of (mk_61 _)) (Nat.le_of_ble_eq_true rfl) (c1  ) ?_
  show Bod _ _ _ _ [_] _ _ _
  refine Bod.ifF dc_410_13 rfl (k1_ne_F (k_eq 0 0 rfl rfl (by omega))) ?_
  refine Bod.go dc_410_16 rfl ?_
  refine Bod.ic 2 (by decide) dc_410_17 ?_
  refine Bod.virt (r := []) dc_410_18 kr_410_762 ⟨Or.inl rfl, ow_411, cl_14⟩ (by rw [np_411]; rfl) (by rw [np_411]; rfl) (ob_of (mk_61 _)) (Nat.le_of_ble_eq_true rfl) (c2  ) ?_
  show Bod _ _ _ _ [_] _ _ _
  exact Bod.retI dc_410_21 rt_410
theorem rSe_1 {d : Nat} {S : cS} {g : Nat} {zg : Nat} {k : Nat} {kd : Int32} {xa : Int64} {xb : Int64} {r : Nat} {N : Nat} {r1 : Nat} {N1 : Nat} {r2 : Nat} {N2 : Nat} (mk : k < 2 ^ 20) (ag : 108 ≤ g) (hz1 : (sS S)[g - 108]? = some (13, zg)) (hv1 : sV S (100 * g + 2) = .ref r) (hg1 : isK S r 0 N) (mN : N < 2 ^ 20) (b1 : k < N) (hv2 : sV S (100 * g + 4) = .ref r1) (hg2 : isK S r1 1 N1) (mN1 : N1 < 2 ^ 20) (b2 : k < N1) (hv3 : sV S (100 * g + 5) = .ref r2) (hg3 : isK S r2 1 N2) (mN2 : N2 < 2 ^ 20) (b3 : k < N2) : Bod (d + 8) 358 0 [(0, .ref g), (1, .int (nI k)), (2, .int kd), (3, .long xa), (5, .long xb)] [] S none (wL r2 k xb (wL r1 k xa (wA r k kd S))) := by
  refine Bod.go dc_358_0 rfl ?_
  refine Bod.get dc_358_1 fr_358_7 (mk_thing ag (by first | exact hz1 | (simp only [rIS, rJS, rAS, rLS, rVS, rQS, rS_hold]; exact hz1))) rfl ?_
  refine Bod.eqV (.ref r) (by first | exact hv1 | (simp only [rIV, rJV, rAV, rLV, rQV, rV, reduceIte, Nat.reduceEqDiff]; exact hv1)) ?_
  refine Bod.go dc_358_4 rfl ?_
  refine Bod.go dc_358_5 rfl ?_
  refine Bod.iastN (N := N) k rfl (by omega) (by omega) dc_358_6 (mk_isI (by first | exact hg1 | exact isK_S (by simp only [rIS, rJS, rAS, rLS, rVS, rQS, rS_hold]) hg1)) (sa_isI (by first | exact hg1 | exact isK_S (by simp only [rIS, rJS, rAS, rLS, rVS, rQS, rS_hold]) hg1)) (mu_A _ _ _ _) ?_
  refine Bod.go dc_358_7 rfl ?_
  refine Bod.get dc_358_8 fr_358_16 (mk_thing ag (by first | exact hz1 | (simp only [rIS, rJS, rAS, rLS, rVS, rQS, rS_hold]; exact hz1))) rfl ?_
  refine Bod.eqV (.ref r1) (by first | exact hv2 | (simp only [rIV, rJV, rAV, rLV, rQV, rV, reduceIte, Nat.reduceEqDiff]; exact hv2)) ?_
  refine Bod.go dc_358_11 rfl ?_
  refine Bod.go dc_358_12 rfl ?_
  refine Bod.lastN (N := N1) k rfl (by omega) (by omega) dc_358_13 (mk_isL (by first | exact hg2 | exact isK_S (by simp only [rIS, rJS, rAS, rLS, rVS, rQS, rS_hold]) hg2)) (sa_isL (by first | exact hg2 | exact isK_S (by simp only [rIS, rJS, rAS, rLS, rVS, rQS, rS_hold]) hg2)) (mu_L _ _ _ _) ?_
  refine Bod.go dc_358_14 rfl ?_
  refine Bod.get dc_358_15 fr_358_20 (mk_thing ag (by first | exact hz1 | (simp only [rIS, rJS, rAS, rLS, rVS, rQS, rS_hold]; exact hz1))) rfl ?_
  refine Bod.eqV (.ref r2) (by first | exact hv3 | (simp only [rIV, rJV, rAV, rLV, rQV, rV, reduceIte, Nat.reduceEqDiff]; exact hv3)) ?_
  refine Bod.go dc_358_18 rfl ?_
  refine Bod.go dc_358_19 rfl ?_
  refine Bod.lastN (N := N2) k rfl (by omega) (by omega) dc_358_21 (mk_isL (by first | exact hg3 | exact isK_S (by simp only [rIS, rJS, rAS, rLS, rVS, rQS, rS_hold]) hg3)) (sa_isL (by first | exact hg3 | exact isK_S (by simp only [rIS, rJS, rAS, rLS, rVS, rQS, rS_hold]) hg3)) (mu_L _ _ _ _) ?_
  exact Bod.retV dc_358_22 rt_358
theorem rAd_1 {d : Nat} {S : cS} {g : Nat} {zg : Nat} {kd : Int32} {xa : Int64} {xb : Int64} {fd1 : Nat} {S1 : cS} {fd11 : Nat} {S2 : cS} {fd12 : Nat} (ag : 108 ≤ g) (hz1 : (sS S)[g - 108]? = some (13, zg)) (hfd1 : sI S (100 * g + 1) = nI fd1) (mfd1 : fd1 < 2 ^ 20) (c1 : Ans (d + 8) 376 [.ref g, .int (nI (fd1 + 1))] S none S1) (hz2 : (sS S1)[g - 108]? = some (13, zg)) (hfd11 : sI S1 (100 * g + 1) = nI fd11) (mfd11 : fd11 < 2 ^ 20) (c2 : Ans (d + 8) 358 [.ref g, .int (nI fd11), .int kd, .long xa, .long xb] S1 none S2) (hz3 : (sS S2)[g - 108]? = some (13, zg)) (hfd12 : sI S2 (100 * g + 1) = nI fd12) (mfd12 : fd12 < 2 ^ 20) : Bod (d + 8) 375 0 [(0, .ref g), (1, .int kd), (2, .long xa), (4, .long xb)] [] S none (wI (100 * g + 1) (nI (fd12 + 1)) S2) := by
  refine Bod.go dc_375_0 rfl ?_
  refine Bod.go dc_375_1 rfl ?_
  refine Bod.get dc_375_2 fr_375_38 (mk_thing ag (by first | exact hz1 | (simp only [rIS, rJS, rAS, rLS, rVS, rQS, rS_hold]; exact hz1))) rfl ?_
  refine Bod.eqI (nI fd1) (by first | assumption | rfl | exact congrArg nI (by omega) | (simp (disch := omega) only [rI, rIe, rA, rIA, rLA, rJA, rVI, rQI, rVA, rQA, upd_at,  rAI, rLI, rJI, nI_add, pk_sub, kc_0, kc_1, kc_2, kc_3, kc_4, kc_5, reduceIte, Nat.reduceEqDiff, Nat.add_zero, rI_hold, rI_hold, rL_hold, hfd1]; done)) ?_
  refine Bod.ic 1 (by decide) dc_375_5 ?_
  refine Bod.addN (fd1 + 1) (by omega) dc_375_6 ?_
  refine Bod.virt (r := []) dc_375_7 kr_375_42 ⟨Or.inl rfl, ow_376, cl_13⟩ (by rw [np_376]; rfl) (by rw [np_376]; rfl) (ob_of (mk_thing ag (by first | exact hz1 | (simp only [rIS, rJS, rAS, rLS, rVS, rQS, rS_hold]; exact hz1)))) (Nat.le_of_ble_eq_true rfl) (c1  ) ?_
  show Bod _ _ _ _ [] _ _ _
  refine Bod.go dc_375_10 rfl ?_
  refine Bod.go dc_375_11 rfl ?_
  refine Bod.get dc_375_12 fr_375_38 (mk_thing ag (by first | exact hz2 | (simp only [rIS, rJS, rAS, rLS, rVS, rQS, rS_hold]; exact hz2))) rfl ?_
  refine Bod.eqI (nI fd11) (by first | assumption | (simp (disch := omega) only [rI, rIe, rA, rIA, rLA, rJA, rVI, rQI, rVA, rQA, upd_at,  rAI, rLI, rJI, nI_add, pk_sub, kc_0, kc_1, kc_2, kc_3, kc_4, kc_5, reduceIte, Nat.reduceEqDiff, Nat.add_zero, rI_hold, rI_hold, rL_hold, hfd1, hfd11]; done) | (simp (disch := omega) only [rI, rIe, rA, rIA, rLA, rJA, rVI, rQI, rVA, rQA, upd_at,  rAI, rLI, rJI, nI_add, pk_sub, kc_0, kc_1, kc_2, kc_3, kc_4, kc_5, reduceIte, Nat.reduceEqDiff, Nat.add_zero, rI_hold, rI_hold, rL_hold, hfd1, hfd11]; exact congrArg nI (by omega))) ?_
  refine Bod.go dc_375_15 rfl ?_
  refine Bod.go dc_375_16 rfl ?_
  refine Bod.go dc_375_17 rfl ?_
  refine Bod.virt (r := []) dc_375_19 kr_375_46 ⟨Or.inl rfl, ow_358, cl_13⟩ (by rw [np_358]; rfl) (by rw [np_358]; rfl) (ob_of (mk_thing ag (by first | exact hz2 | (simp only [rIS, rJS, rAS, rLS, rVS, rQS, rS_hold]; exact hz2)))) (Nat.le_of_ble_eq_true rfl) (c2  ) ?_
  show Bod _ _ _ _ [] _ _ _
  refine Bod.go dc_375_22 rfl ?_
  refine Bod.go dc_375_23 rfl ?_
  refine Bod.get dc_375_24 fr_375_38 (mk_thing ag (by first | exact hz3 | (simp only [rIS, rJS, rAS, rLS, rVS, rQS, rS_hold]; exact hz3))) rfl ?_
  refine Bod.eqI (nI fd12) (by first | assumption | (simp (disch := omega) only [rI, rIe, rA, rIA, rLA, rJA, rVI, rQI, rVA, rQA, upd_at,  rAI, rLI, rJI, nI_add, pk_sub, kc_0, kc_1, kc_2, kc_3, kc_4, kc_5, reduceIte, Nat.reduceEqDiff, Nat.add_zero, rI_hold, rI_hold, rL_hold, hfd1, hfd11, hfd12]; done) | (simp (disch := omega) only [rI, rIe, rA, rIA, rLA, rJA, rVI, rQI, rVA, rQA, upd_at,  rAI, rLI, rJI, nI_add, pk_sub, kc_0, kc_1, kc_2, kc_3, kc_4, kc_5, reduceIte, Nat.reduceEqDiff, Nat.add_zero, rI_hold, rI_hold, rL_hold, hfd1, hfd11, hfd12]; exact congrArg nI (by omega))) ?_
  refine Bod.ic 1 (by decide) dc_375_27 ?_
  refine Bod.addN (fd12 + 1) (by omega) dc_375_28 ?_
  refine Bod.put dc_375_29 fr_375_38 (mk_thing ag (by first | exact hz3 | (simp only [rIS, rJS, rAS, rLS, rVS, rQS, rS_hold]; exact hz3))) (Nat.le_of_ble_eq_true rfl) pf_13_1 (st_thing_1 ag (by first | exact hz3 | (simp only [rIS, rJS, rAS, rLS, rVS, rQS, rS_hold]; exact hz3))) (mu_I _ _ _) ?_
  exact Bod.retV dc_375_32 rt_375
theorem rKe_1 {d : Nat} {S : cS} {g : Nat} {zg : Nat} {k : Nat} {kd : Int32} {xa : Int64} {xb : Int64} {S1 : cS} {r : Nat} {N : Nat} {r1 : Nat} {N1 : Nat} {r2 : Nat} {N2 : Nat} (mk : k < 2 ^ 20) (ag : 108 ≤ g) (c1 : Ans (d + 8) 378 [.ref g, .int (nI (k + 1))] S none S1) (hz1 : (sS S)[g - 108]? = some (13, zg)) (hz2 : (sS S1)[g - 108]? = some (13, zg)) (hv1 : sV S1 (100 * g + 3) = .ref r) (hg1 : isK S1 r 0 N) (mN : N < 2 ^ 20) (b1 : k < N) (hv2 : sV S1 (100 * g + 6) = .ref r1) (hg2 : isK S1 r1 1 N1) (mN1 : N1 < 2 ^ 20) (b2 : k < N1) (hv3 : sV S1 (100 * g + 7) = .ref r2) (hg3 : isK S1 r2 1 N2) (mN2 : N2 < 2 ^ 20) (b3 : k < N2) : Bod (d + 8) 377 0 [(0, .ref g), (1, .int (nI k)), (2, .int kd), (3, .long xa), (5, .long xb)] [] S none (wL r2 k xb (wL r1 k xa (wA r k kd S1))) := by
  refine Bod.go dc_377_0 rfl ?_
  refine Bod.go dc_377_1 rfl ?_
  refine Bod.ic 1 (by decide) dc_377_2 ?_
  refine Bod.addN (k + 1) (by omega) dc_377_3 ?_
  refine Bod.virt (r := []) dc_377_4 kr_377_50 ⟨Or.inl rfl, ow_378, cl_13⟩ (by rw [np_378]; rfl) (by rw [np_378]; rfl) (ob_of (mk_thing ag (by first | exact hz1 | (simp only [rIS, rJS, rAS, rLS, rVS, rQS, rS_hold]; exact hz1)))) (Nat.le_of_ble_eq_true rfl) (c1  ) ?_
  show Bod _ _ _ _ [] _ _ _
  refine Bod.go dc_377_7 rfl ?_
  refine Bod.get dc_377_8 fr_377_13 (mk_thing ag (by first | exact hz2 | (simp only [rIS, rJS, rAS, rLS, rVS, rQS, rS_hold]; exact hz2))) rfl ?_
  refine Bod.eqV (.ref r) (by first | exact hv1 | (simp only [rIV, rJV, rAV, rLV, rQV, rV, reduceIte, Nat.reduceEqDiff]; exact hv1)) ?_
  refine Bod.go dc_377_11 rfl ?_
  refine Bod.go dc_377_12 rfl ?_
  refine Bod.iastN (N := N) k rfl (by omega) (by omega) dc_377_13 (mk_isI (by first | exact hg1 | exact isK_S (by simp only [rIS, rJS, rAS, rLS, rVS, rQS, rS_hold]) hg1)) (sa_isI (by first | exact hg1 | exact isK_S (by simp only [rIS, rJS, rAS, rLS, rVS, rQS, rS_hold]) hg1)) (mu_A _ _ _ _) ?_
  refine Bod.go dc_377_14 rfl ?_
  refine Bod.get dc_377_15 fr_377_23 (mk_thing ag (by first | exact hz2 | (simp only [rIS, rJS, rAS, rLS, rVS, rQS, rS_hold]; exact hz2))) rfl ?_
  refine Bod.eqV (.ref r1) (by first | exact hv2 | (simp only [rIV, rJV, rAV, rLV, rQV, rV, reduceIte, Nat.reduceEqDiff]; exact hv2)) ?_
  refine Bod.go dc_377_18 rfl ?_
  refine Bod.go dc_377_19 rfl ?_
  refine Bod.lastN (N := N1) k rfl (by omega) (by omega) dc_377_20 (mk_isL (by first | exact hg2 | exact isK_S (by simp only [rIS, rJS, rAS, rLS, rVS, rQS, rS_hold]) hg2)) (sa_isL (by first | exact hg2 | exact isK_S (by simp only [rIS, rJS, rAS, rLS, rVS, rQS, rS_hold]) hg2)) (mu_L _ _ _ _) ?_
  refine Bod.go dc_377_21 rfl ?_
  refine Bod.get dc_377_22 fr_377_26 (mk_thing ag (by first | exact hz2 | (simp only [rIS, rJS, rAS, rLS, rVS, rQS, rS_hold]; exact hz2))) rfl ?_
  refine Bod.eqV (.ref r2) (by first | exact hv3 | (simp only [rIV, rJV, rAV, rLV, rQV, rV, reduceIte, Nat.reduceEqDiff]; exact hv3)) ?_
  refine Bod.go dc_377_25 rfl ?_
  refine Bod.go dc_377_26 rfl ?_
  refine Bod.lastN (N := N2) k rfl (by omega) (by omega) dc_377_28 (mk_isL (by first | exact hg3 | exact isK_S (by simp only [rIS, rJS, rAS, rLS, rVS, rQS, rS_hold]) hg3)) (sa_isL (by first | exact hg3 | exact isK_S (by simp only [rIS, rJS, rAS, rLS, rVS, rQS, rS_hold]) hg3)) (mu_L _ _ _ _) ?_
  exact Bod.retV dc_377_29 rt_377
