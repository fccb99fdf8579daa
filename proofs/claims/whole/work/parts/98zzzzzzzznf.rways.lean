/-! WAYS of the reference's machine: every call is a hypothesis -/
theorem dc_396_131 : decode (sm_cc 396) 131 = .ok (.iload 11, 2) := by decide +kernel
theorem dc_396_133 : decode (sm_cc 396) 133 = .ok (.iload 8, 2) := by decide +kernel
theorem dc_396_135 : decode (sm_cc 396) 135 = .ok (.if_icmp .ge (17), 3) := by decide +kernel
theorem dc_396_152 : decode (sm_cc 396) 152 = .ok (.iload 4, 2) := by decide +kernel
theorem dc_396_154 : decode (sm_cc 396) 154 = .ok (.ifCond .lt (14), 3) := by decide +kernel
theorem dc_396_168 : decode (sm_cc 396) 168 = .ok (.iconst 0, 1) := by decide +kernel
theorem dc_396_169 : decode (sm_cc 396) 169 = .ok (.istore 11, 2) := by decide +kernel
theorem dc_396_138 : decode (sm_cc 396) 138 = .ok (.aload 10, 2) := by decide +kernel
theorem dc_396_140 : decode (sm_cc 396) 140 = .ok (.iconst (-1), 1) := by decide +kernel
theorem dc_396_141 : decode (sm_cc 396) 141 = .ok (.lconst 0, 1) := by decide +kernel
theorem dc_396_142 : decode (sm_cc 396) 142 = .ok (.lconst 0, 1) := by decide +kernel
theorem dc_396_143 : decode (sm_cc 396) 143 = .ok (.invokevirtual 759, 3) := by decide +kernel
theorem kr_396_759 : sm_at mt_k (sm_ow 396) 759 = some (759, 0, 375, 0, 2817) := by decide +kernel
theorem dc_396_146 : decode (sm_cc 396) 146 = .ok (.iinc 11 (1), 3) := by decide +kernel
theorem dc_396_149 : decode (sm_cc 396) 149 = .ok (.goto (-18), 3) := by decide +kernel
theorem dc_396_157 : decode (sm_cc 396) 157 = .ok (.aload 10, 2) := by decide +kernel
theorem dc_396_159 : decode (sm_cc 396) 159 = .ok (.iconst 0, 1) := by decide +kernel
theorem dc_396_160 : decode (sm_cc 396) 160 = .ok (.iconst 3, 1) := by decide +kernel
theorem dc_396_161 : decode (sm_cc 396) 161 = .ok (.iload 4, 2) := by decide +kernel
theorem dc_396_163 : decode (sm_cc 396) 163 = .ok (.i2l, 1) := by decide +kernel
theorem dc_396_164 : decode (sm_cc 396) 164 = .ok (.lconst 0, 1) := by decide +kernel
theorem dc_396_165 : decode (sm_cc 396) 165 = .ok (.invokevirtual 699, 3) := by decide +kernel
theorem kr_396_699 : sm_at mt_k (sm_ow 396) 699 = some (699, 0, 358, 0, 2702) := by decide +kernel
theorem dc_396_171 : decode (sm_cc 396) 171 = .ok (.iload 11, 2) := by decide +kernel
theorem dc_396_173 : decode (sm_cc 396) 173 = .ok (.iload_n 3, 1) := by decide +kernel
theorem dc_396_174 : decode (sm_cc 396) 174 = .ok (.if_icmp .ge (63), 3) := by decide +kernel
theorem dc_396_237 : decode (sm_cc 396) 237 = .ok (.aload_n 0, 1) := by decide +kernel
theorem dc_396_238 : decode (sm_cc 396) 238 = .ok (.dup, 1) := by decide +kernel
theorem dc_396_239 : decode (sm_cc 396) 239 = .ok (.getfield 493, 3) := by decide +kernel
theorem fr_396_493 : sm_at mt_f (sm_ow 396) 493 = some (493, 14, 51, 0, 2124) := by decide +kernel
theorem dc_396_242 : decode (sm_cc 396) 242 = .ok (.iload_n 3, 1) := by decide +kernel
theorem dc_396_243 : decode (sm_cc 396) 243 = .ok (.isub, 1) := by decide +kernel
theorem dc_396_244 : decode (sm_cc 396) 244 = .ok (.putfield 493, 3) := by decide +kernel
theorem dc_396_247 : decode (sm_cc 396) 247 = .ok (.aload_n 0, 1) := by decide +kernel
theorem dc_396_248 : decode (sm_cc 396) 248 = .ok (.aload 6, 2) := by decide +kernel
theorem dc_396_250 : decode (sm_cc 396) 250 = .ok (.getfield 533, 3) := by decide +kernel
theorem dc_396_253 : decode (sm_cc 396) 253 = .ok (.aload 6, 2) := by decide +kernel
theorem dc_396_255 : decode (sm_cc 396) 255 = .ok (.getfield 533, 3) := by decide +kernel
theorem dc_396_258 : decode (sm_cc 396) 258 = .ok (.getfield 370, 3) := by decide +kernel
theorem fr_396_370 : sm_at mt_f (sm_ow 396) 370 = some (370, 12, 8, 0, 2423) := by decide +kernel
theorem dc_396_261 : decode (sm_cc 396) 261 = .ok (.aload 6, 2) := by decide +kernel
theorem dc_396_263 : decode (sm_cc 396) 263 = .ok (.getfield 689, 3) := by decide +kernel
theorem dc_396_266 : decode (sm_cc 396) 266 = .ok (.iaload, 1) := by decide +kernel
theorem dc_396_267 : decode (sm_cc 396) 267 = .ok (.iload 9, 2) := by decide +kernel
theorem dc_396_269 : decode (sm_cc 396) 269 = .ok (.iload_n 2, 1) := by decide +kernel
theorem dc_396_270 : decode (sm_cc 396) 270 = .ok (.iload 5, 2) := by decide +kernel
theorem dc_396_272 : decode (sm_cc 396) 272 = .ok (.invokevirtual 564, 3) := by decide +kernel
theorem ow_349 : 14 = sm_ow 349 := by decide +kernel
theorem kr_396_564 : sm_at mt_k (sm_ow 396) 564 = some (564, 0, 349, 0, 2656) := by decide +kernel
theorem np_349 : sm_np 349 = 5 := by decide +kernel
theorem dc_396_275 : decode (sm_cc 396) 275 = .ok (.iconst 1, 1) := by decide +kernel
theorem dc_396_276 : decode (sm_cc 396) 276 = .ok (.ireturn, 1) := by decide +kernel
theorem dc_396_177 : decode (sm_cc 396) 177 = .ok (.aload 10, 2) := by decide +kernel
theorem dc_396_179 : decode (sm_cc 396) 179 = .ok (.iload 7, 2) := by decide +kernel
theorem dc_396_181 : decode (sm_cc 396) 181 = .ok (.iload_n 3, 1) := by decide +kernel
theorem dc_396_182 : decode (sm_cc 396) 182 = .ok (.isub, 1) := by decide +kernel
theorem dc_396_183 : decode (sm_cc 396) 183 = .ok (.iload 11, 2) := by decide +kernel
theorem dc_396_185 : decode (sm_cc 396) 185 = .ok (.iadd, 1) := by decide +kernel
theorem dc_396_186 : decode (sm_cc 396) 186 = .ok (.aload_n 0, 1) := by decide +kernel
theorem dc_396_187 : decode (sm_cc 396) 187 = .ok (.getfield 496, 3) := by decide +kernel
theorem fr_396_496 : sm_at mt_f (sm_ow 396) 496 = some (496, 14, 48, 0, 2121) := by decide +kernel
theorem dc_396_190 : decode (sm_cc 396) 190 = .ok (.aload_n 0, 1) := by decide +kernel
theorem dc_396_191 : decode (sm_cc 396) 191 = .ok (.getfield 493, 3) := by decide +kernel
theorem dc_396_194 : decode (sm_cc 396) 194 = .ok (.iload_n 3, 1) := by decide +kernel
theorem dc_396_195 : decode (sm_cc 396) 195 = .ok (.isub, 1) := by decide +kernel
theorem dc_396_196 : decode (sm_cc 396) 196 = .ok (.iload 11, 2) := by decide +kernel
theorem dc_396_198 : decode (sm_cc 396) 198 = .ok (.iadd, 1) := by decide +kernel
theorem dc_396_199 : decode (sm_cc 396) 199 = .ok (.iaload, 1) := by decide +kernel
theorem dc_396_200 : decode (sm_cc 396) 200 = .ok (.aload_n 0, 1) := by decide +kernel
theorem dc_396_201 : decode (sm_cc 396) 201 = .ok (.getfield 499, 3) := by decide +kernel
theorem fr_396_499 : sm_at mt_f (sm_ow 396) 499 = some (499, 14, 49, 0, 2122) := by decide +kernel
theorem dc_396_204 : decode (sm_cc 396) 204 = .ok (.aload_n 0, 1) := by decide +kernel
theorem dc_396_205 : decode (sm_cc 396) 205 = .ok (.getfield 493, 3) := by decide +kernel
theorem dc_396_208 : decode (sm_cc 396) 208 = .ok (.iload_n 3, 1) := by decide +kernel
theorem dc_396_209 : decode (sm_cc 396) 209 = .ok (.isub, 1) := by decide +kernel
theorem dc_396_210 : decode (sm_cc 396) 210 = .ok (.iload 11, 2) := by decide +kernel
theorem dc_396_212 : decode (sm_cc 396) 212 = .ok (.iadd, 1) := by decide +kernel
theorem dc_396_213 : decode (sm_cc 396) 213 = .ok (.laload, 1) := by decide +kernel
theorem dc_396_214 : decode (sm_cc 396) 214 = .ok (.aload_n 0, 1) := by decide +kernel
theorem dc_396_215 : decode (sm_cc 396) 215 = .ok (.getfield 546, 3) := by decide +kernel
theorem fr_396_546 : sm_at mt_f (sm_ow 396) 546 = some (546, 14, 50, 0, 2123) := by decide +kernel
theorem dc_396_218 : decode (sm_cc 396) 218 = .ok (.aload_n 0, 1) := by decide +kernel
theorem dc_396_219 : decode (sm_cc 396) 219 = .ok (.getfield 493, 3) := by decide +kernel
theorem dc_396_222 : decode (sm_cc 396) 222 = .ok (.iload_n 3, 1) := by decide +kernel
theorem dc_396_223 : decode (sm_cc 396) 223 = .ok (.isub, 1) := by decide +kernel
theorem dc_396_224 : decode (sm_cc 396) 224 = .ok (.iload 11, 2) := by decide +kernel
theorem dc_396_226 : decode (sm_cc 396) 226 = .ok (.iadd, 1) := by decide +kernel
theorem dc_396_227 : decode (sm_cc 396) 227 = .ok (.laload, 1) := by decide +kernel
theorem dc_396_228 : decode (sm_cc 396) 228 = .ok (.invokevirtual 699, 3) := by decide +kernel
theorem dc_396_231 : decode (sm_cc 396) 231 = .ok (.iinc 11 (1), 3) := by decide +kernel
theorem dc_396_234 : decode (sm_cc 396) 234 = .ok (.goto (-63), 3) := by decide +kernel
theorem ml_397 : sm_ml 397 = 7 := by decide +kernel
theorem dc_397_0 : decode (sm_cc 397) 0 = .ok (.aload_n 0, 1) := by decide +kernel
theorem dc_397_1 : decode (sm_cc 397) 1 = .ok (.iconst 5, 1) := by decide +kernel
theorem dc_397_2 : decode (sm_cc 397) 2 = .ok (.invokevirtual 686, 3) := by decide +kernel
theorem kr_397_686 : sm_at mt_k (sm_ow 397) 686 = some (686, 0, 364, 0, 2726) := by decide +kernel
theorem dc_397_5 : decode (sm_cc 397) 5 = .ok (.istore_n 3, 1) := by decide +kernel
theorem dc_397_6 : decode (sm_cc 397) 6 = .ok (.iload_n 3, 1) := by decide +kernel
theorem dc_397_7 : decode (sm_cc 397) 7 = .ok (.ifCond .ge (5), 3) := by decide +kernel
theorem dc_397_12 : decode (sm_cc 397) 12 = .ok (.aload_n 0, 1) := by decide +kernel
theorem dc_397_13 : decode (sm_cc 397) 13 = .ok (.getfield 485, 3) := by decide +kernel
theorem fr_397_485 : sm_at mt_f (sm_ow 397) 485 = some (485, 14, 42, 0, 2115) := by decide +kernel
theorem dc_397_16 : decode (sm_cc 397) 16 = .ok (.iload_n 3, 1) := by decide +kernel
theorem dc_397_17 : decode (sm_cc 397) 17 = .ok (.aaload, 1) := by decide +kernel
theorem dc_397_18 : decode (sm_cc 397) 18 = .ok (.aload_n 0, 1) := by decide +kernel
theorem dc_397_19 : decode (sm_cc 397) 19 = .ok (.getfield 499, 3) := by decide +kernel
theorem fr_397_499 : sm_at mt_f (sm_ow 397) 499 = some (499, 14, 49, 0, 2122) := by decide +kernel
theorem dc_397_22 : decode (sm_cc 397) 22 = .ok (.iload_n 1, 1) := by decide +kernel
theorem dc_397_23 : decode (sm_cc 397) 23 = .ok (.laload, 1) := by decide +kernel
theorem dc_397_24 : decode (sm_cc 397) 24 = .ok (.l2i, 1) := by decide +kernel
theorem dc_397_25 : decode (sm_cc 397) 25 = .ok (.putfield 472, 3) := by decide +kernel
theorem fr_397_472 : sm_at mt_f (sm_ow 397) 472 = some (472, 13, 11, 0, 2788) := by decide +kernel
theorem dc_397_28 : decode (sm_cc 397) 28 = .ok (.aload_n 0, 1) := by decide +kernel
theorem dc_397_29 : decode (sm_cc 397) 29 = .ok (.getfield 493, 3) := by decide +kernel
theorem fr_397_493 : sm_at mt_f (sm_ow 397) 493 = some (493, 14, 51, 0, 2124) := by decide +kernel
theorem dc_397_32 : decode (sm_cc 397) 32 = .ok (.istore 4, 2) := by decide +kernel
theorem dc_397_10 : decode (sm_cc 397) 10 = .ok (.iconst 0, 1) := by decide +kernel
theorem dc_397_11 : decode (sm_cc 397) 11 = .ok (.ireturn, 1) := by decide +kernel
theorem rt_397 : sm_rt 397 = some .boolean := by decide +kernel
theorem dc_397_34 : decode (sm_cc 397) 34 = .ok (.iload 4, 2) := by decide +kernel
theorem dc_397_36 : decode (sm_cc 397) 36 = .ok (.iload_n 1, 1) := by decide +kernel
theorem dc_397_37 : decode (sm_cc 397) 37 = .ok (.iconst 1, 1) := by decide +kernel
theorem dc_397_38 : decode (sm_cc 397) 38 = .ok (.iadd, 1) := by decide +kernel
theorem dc_397_39 : decode (sm_cc 397) 39 = .ok (.if_icmp .le (19), 3) := by decide +kernel
theorem dc_397_42 : decode (sm_cc 397) 42 = .ok (.aload_n 0, 1) := by decide +kernel
theorem dc_397_43 : decode (sm_cc 397) 43 = .ok (.iload 4, 2) := by decide +kernel
theorem dc_397_45 : decode (sm_cc 397) 45 = .ok (.iconst 1, 1) := by decide +kernel
theorem dc_397_46 : decode (sm_cc 397) 46 = .ok (.isub, 1) := by decide +kernel
theorem dc_397_47 : decode (sm_cc 397) 47 = .ok (.iload 4, 2) := by decide +kernel
theorem dc_397_49 : decode (sm_cc 397) 49 = .ok (.invokevirtual 672, 3) := by decide +kernel
theorem kr_397_672 : sm_at mt_k (sm_ow 397) 672 = some (672, 0, 391, 0, 2893) := by decide +kernel
theorem dc_397_52 : decode (sm_cc 397) 52 = .ok (.iinc 4 (-1), 3) := by decide +kernel
theorem dc_397_55 : decode (sm_cc 397) 55 = .ok (.goto (-21), 3) := by decide +kernel
theorem dc_397_58 : decode (sm_cc 397) 58 = .ok (.aload_n 0, 1) := by decide +kernel
theorem dc_397_59 : decode (sm_cc 397) 59 = .ok (.getfield 496, 3) := by decide +kernel
theorem fr_397_496 : sm_at mt_f (sm_ow 397) 496 = some (496, 14, 48, 0, 2121) := by decide +kernel
theorem dc_397_62 : decode (sm_cc 397) 62 = .ok (.iload_n 1, 1) := by decide +kernel
theorem dc_397_63 : decode (sm_cc 397) 63 = .ok (.iconst 1, 1) := by decide +kernel
theorem dc_397_64 : decode (sm_cc 397) 64 = .ok (.iadd, 1) := by decide +kernel
theorem dc_397_65 : decode (sm_cc 397) 65 = .ok (.iconst 3, 1) := by decide +kernel
theorem dc_397_66 : decode (sm_cc 397) 66 = .ok (.iastore, 1) := by decide +kernel
theorem dc_397_67 : decode (sm_cc 397) 67 = .ok (.aload_n 0, 1) := by decide +kernel
theorem dc_397_68 : decode (sm_cc 397) 68 = .ok (.getfield 499, 3) := by decide +kernel
theorem dc_397_71 : decode (sm_cc 397) 71 = .ok (.iload_n 1, 1) := by decide +kernel
theorem dc_397_72 : decode (sm_cc 397) 72 = .ok (.iconst 1, 1) := by decide +kernel
theorem dc_397_73 : decode (sm_cc 397) 73 = .ok (.iadd, 1) := by decide +kernel
theorem dc_397_74 : decode (sm_cc 397) 74 = .ok (.iload_n 3, 1) := by decide +kernel
theorem dc_397_75 : decode (sm_cc 397) 75 = .ok (.i2l, 1) := by decide +kernel
theorem dc_397_76 : decode (sm_cc 397) 76 = .ok (.lastore, 1) := by decide +kernel
theorem dc_397_77 : decode (sm_cc 397) 77 = .ok (.aload_n 0, 1) := by decide +kernel
theorem dc_397_78 : decode (sm_cc 397) 78 = .ok (.dup, 1) := by decide +kernel
theorem dc_397_79 : decode (sm_cc 397) 79 = .ok (.getfield 493, 3) := by decide +kernel
theorem dc_397_82 : decode (sm_cc 397) 82 = .ok (.iconst 1, 1) := by decide +kernel
theorem dc_397_83 : decode (sm_cc 397) 83 = .ok (.iadd, 1) := by decide +kernel
theorem dc_397_84 : decode (sm_cc 397) 84 = .ok (.putfield 493, 3) := by decide +kernel
theorem dc_397_87 : decode (sm_cc 397) 87 = .ok (.aload_n 0, 1) := by decide +kernel
theorem dc_397_88 : decode (sm_cc 397) 88 = .ok (.aload_n 0, 1) := by decide +kernel
theorem dc_397_89 : decode (sm_cc 397) 89 = .ok (.getfield 790, 3) := by decide +kernel
theorem fr_397_790 : sm_at mt_f (sm_ow 397) 790 = some (790, 14, 70, 0, 2143) := by decide +kernel
theorem dc_397_92 : decode (sm_cc 397) 92 = .ok (.iconst 0, 1) := by decide +kernel
theorem dc_397_93 : decode (sm_cc 397) 93 = .ok (.iconst 4, 1) := by decide +kernel
theorem dc_397_94 : decode (sm_cc 397) 94 = .ok (.invokevirtual 166, 3) := by decide +kernel
theorem kr_397_166 : sm_at mt_k (sm_ow 397) 166 = some (166, 0, 294, 0, 2375) := by decide +kernel
theorem dc_397_97 : decode (sm_cc 397) 97 = .ok (.istore 4, 2) := by decide +kernel
theorem dc_397_99 : decode (sm_cc 397) 99 = .ok (.aload_n 0, 1) := by decide +kernel
theorem dc_397_100 : decode (sm_cc 397) 100 = .ok (.aload_n 0, 1) := by decide +kernel
theorem dc_397_101 : decode (sm_cc 397) 101 = .ok (.getfield 499, 3) := by decide +kernel
theorem dc_397_104 : decode (sm_cc 397) 104 = .ok (.iload_n 1, 1) := by decide +kernel
theorem dc_397_105 : decode (sm_cc 397) 105 = .ok (.laload, 1) := by decide +kernel
theorem dc_397_106 : decode (sm_cc 397) 106 = .ok (.l2i, 1) := by decide +kernel
theorem dc_397_107 : decode (sm_cc 397) 107 = .ok (.iload 4, 2) := by decide +kernel
theorem dc_397_109 : decode (sm_cc 397) 109 = .ok (.invokevirtual 777, 3) := by decide +kernel
theorem kr_397_777 : sm_at mt_k (sm_ow 397) 777 = some (777, 0, 398, 0, 2920) := by decide +kernel
theorem dc_397_112 : decode (sm_cc 397) 112 = .ok (.istore 5, 2) := by decide +kernel
theorem dc_397_114 : decode (sm_cc 397) 114 = .ok (.iload 5, 2) := by decide +kernel
theorem dc_397_116 : decode (sm_cc 397) 116 = .ok (.ifCond .lt (86), 3) := by decide +kernel
theorem dc_397_119 : decode (sm_cc 397) 119 = .ok (.aload_n 0, 1) := by decide +kernel
theorem dc_397_120 : decode (sm_cc 397) 120 = .ok (.getfield 485, 3) := by decide +kernel
theorem dc_397_123 : decode (sm_cc 397) 123 = .ok (.iload 5, 2) := by decide +kernel
theorem dc_397_125 : decode (sm_cc 397) 125 = .ok (.aaload, 1) := by decide +kernel
theorem dc_397_126 : decode (sm_cc 397) 126 = .ok (.iconst 0, 1) := by decide +kernel
theorem dc_397_127 : decode (sm_cc 397) 127 = .ok (.iload 4, 2) := by decide +kernel
theorem dc_397_129 : decode (sm_cc 397) 129 = .ok (.i2l, 1) := by decide +kernel
theorem dc_397_130 : decode (sm_cc 397) 130 = .ok (.lconst 0, 1) := by decide +kernel
theorem dc_397_131 : decode (sm_cc 397) 131 = .ok (.invokevirtual 764, 3) := by decide +kernel
theorem kr_397_764 : sm_at mt_k (sm_ow 397) 764 = some (764, 0, 399, 0, 2924) := by decide +kernel
theorem dc_397_134 : decode (sm_cc 397) 134 = .ok (.istore 6, 2) := by decide +kernel
theorem dc_397_136 : decode (sm_cc 397) 136 = .ok (.aload_n 0, 1) := by decide +kernel
theorem dc_397_137 : decode (sm_cc 397) 137 = .ok (.getfield 485, 3) := by decide +kernel
theorem dc_397_140 : decode (sm_cc 397) 140 = .ok (.iload 5, 2) := by decide +kernel
theorem dc_397_142 : decode (sm_cc 397) 142 = .ok (.aaload, 1) := by decide +kernel
theorem dc_397_143 : decode (sm_cc 397) 143 = .ok (.getfield 462, 3) := by decide +kernel
theorem fr_397_462 : sm_at mt_f (sm_ow 397) 462 = some (462, 13, 2, 0, 2774) := by decide +kernel
theorem dc_397_146 : decode (sm_cc 397) 146 = .ok (.iload 6, 2) := by decide +kernel
theorem dc_397_148 : decode (sm_cc 397) 148 = .ok (.iaload, 1) := by decide +kernel
theorem dc_397_149 : decode (sm_cc 397) 149 = .ok (.iconst 3, 1) := by decide +kernel
theorem dc_397_150 : decode (sm_cc 397) 150 = .ok (.if_icmp .ne (52), 3) := by decide +kernel
theorem dc_397_202 : decode (sm_cc 397) 202 = .ok (.iload_n 2, 1) := by decide +kernel
theorem dc_397_203 : decode (sm_cc 397) 203 = .ok (.ifCond .le (9), 3) := by decide +kernel
theorem dc_397_212 : decode (sm_cc 397) 212 = .ok (.aload_n 0, 1) := by decide +kernel
theorem dc_397_213 : decode (sm_cc 397) 213 = .ok (.iload_n 1, 1) := by decide +kernel
theorem dc_397_214 : decode (sm_cc 397) 214 = .ok (.iconst 1, 1) := by decide +kernel
theorem dc_397_215 : decode (sm_cc 397) 215 = .ok (.iadd, 1) := by decide +kernel
theorem dc_397_216 : decode (sm_cc 397) 216 = .ok (.iload_n 1, 1) := by decide +kernel
theorem dc_397_217 : decode (sm_cc 397) 217 = .ok (.invokevirtual 672, 3) := by decide +kernel
theorem dc_397_220 : decode (sm_cc 397) 220 = .ok (.aload_n 0, 1) := by decide +kernel
theorem dc_397_221 : decode (sm_cc 397) 221 = .ok (.iload_n 1, 1) := by decide +kernel
theorem dc_397_222 : decode (sm_cc 397) 222 = .ok (.iconst 1, 1) := by decide +kernel
theorem dc_397_223 : decode (sm_cc 397) 223 = .ok (.iadd, 1) := by decide +kernel
theorem dc_397_224 : decode (sm_cc 397) 224 = .ok (.putfield 493, 3) := by decide +kernel
theorem dc_397_227 : decode (sm_cc 397) 227 = .ok (.iconst 1, 1) := by decide +kernel
theorem dc_397_228 : decode (sm_cc 397) 228 = .ok (.ireturn, 1) := by decide +kernel
theorem dc_397_206 : decode (sm_cc 397) 206 = .ok (.aload_n 0, 1) := by decide +kernel
theorem dc_397_207 : decode (sm_cc 397) 207 = .ok (.iconst 2, 1) := by decide +kernel
theorem dc_397_208 : decode (sm_cc 397) 208 = .ok (.invokevirtual 608, 3) := by decide +kernel
theorem kr_397_608 : sm_at mt_k (sm_ow 397) 608 = some (608, 0, 351, 0, 2664) := by decide +kernel
theorem dc_397_211 : decode (sm_cc 397) 211 = .ok (.ireturn, 1) := by decide +kernel
theorem dc_397_153 : decode (sm_cc 397) 153 = .ok (.aload_n 0, 1) := by decide +kernel
theorem dc_397_154 : decode (sm_cc 397) 154 = .ok (.getfield 485, 3) := by decide +kernel
theorem dc_397_157 : decode (sm_cc 397) 157 = .ok (.aload_n 0, 1) := by decide +kernel
theorem dc_397_158 : decode (sm_cc 397) 158 = .ok (.getfield 485, 3) := by decide +kernel
theorem dc_397_161 : decode (sm_cc 397) 161 = .ok (.iload 5, 2) := by decide +kernel
theorem dc_397_163 : decode (sm_cc 397) 163 = .ok (.aaload, 1) := by decide +kernel
theorem dc_397_164 : decode (sm_cc 397) 164 = .ok (.getfield 465, 3) := by decide +kernel
theorem fr_397_465 : sm_at mt_f (sm_ow 397) 465 = some (465, 13, 4, 0, 2778) := by decide +kernel
theorem dc_397_167 : decode (sm_cc 397) 167 = .ok (.iload 6, 2) := by decide +kernel
theorem dc_397_169 : decode (sm_cc 397) 169 = .ok (.laload, 1) := by decide +kernel
theorem dc_397_170 : decode (sm_cc 397) 170 = .ok (.l2i, 1) := by decide +kernel
theorem dc_397_171 : decode (sm_cc 397) 171 = .ok (.aaload, 1) := by decide +kernel
theorem dc_397_172 : decode (sm_cc 397) 172 = .ok (.getfield 531, 3) := by decide +kernel
theorem fr_397_531 : sm_at mt_f (sm_ow 397) 531 = some (531, 13, 0, 0, 2770) := by decide +kernel
theorem dc_397_175 : decode (sm_cc 397) 175 = .ok (.iconst 3, 1) := by decide +kernel
theorem dc_397_176 : decode (sm_cc 397) 176 = .ok (.if_icmp .ne (26), 3) := by decide +kernel
theorem dc_397_179 : decode (sm_cc 397) 179 = .ok (.aload_n 0, 1) := by decide +kernel
theorem dc_397_180 : decode (sm_cc 397) 180 = .ok (.aload_n 0, 1) := by decide +kernel
theorem dc_397_181 : decode (sm_cc 397) 181 = .ok (.getfield 485, 3) := by decide +kernel
theorem dc_397_184 : decode (sm_cc 397) 184 = .ok (.iload 5, 2) := by decide +kernel
theorem dc_397_186 : decode (sm_cc 397) 186 = .ok (.aaload, 1) := by decide +kernel
theorem dc_397_187 : decode (sm_cc 397) 187 = .ok (.getfield 465, 3) := by decide +kernel
theorem dc_397_190 : decode (sm_cc 397) 190 = .ok (.iload 6, 2) := by decide +kernel
theorem dc_397_192 : decode (sm_cc 397) 192 = .ok (.laload, 1) := by decide +kernel
theorem dc_397_193 : decode (sm_cc 397) 193 = .ok (.l2i, 1) := by decide +kernel
theorem dc_397_194 : decode (sm_cc 397) 194 = .ok (.iload_n 1, 1) := by decide +kernel
theorem dc_397_195 : decode (sm_cc 397) 195 = .ok (.iload_n 2, 1) := by decide +kernel
theorem dc_397_196 : decode (sm_cc 397) 196 = .ok (.iload_n 3, 1) := by decide +kernel
theorem dc_397_197 : decode (sm_cc 397) 197 = .ok (.iconst 1, 1) := by decide +kernel
theorem dc_397_198 : decode (sm_cc 397) 198 = .ok (.invokevirtual 783, 3) := by decide +kernel
theorem kr_397_783 : sm_at mt_k (sm_ow 397) 783 = some (783, 0, 396, 0, 2912) := by decide +kernel
theorem dc_397_201 : decode (sm_cc 397) 201 = .ok (.ireturn, 1) := by decide +kernel
theorem ml_380 : sm_ml 380 = 12 := by decide +kernel
theorem dc_380_0 : decode (sm_cc 380) 0 = .ok (.iload_n 2, 1) := by decide +kernel
theorem dc_380_1 : decode (sm_cc 380) 1 = .ok (.iconst 1, 1) := by decide +kernel
theorem dc_380_2 : decode (sm_cc 380) 2 = .ok (.iadd, 1) := by decide +kernel
theorem dc_380_3 : decode (sm_cc 380) 3 = .ok (.istore 4, 2) := by decide +kernel
theorem dc_380_5 : decode (sm_cc 380) 5 = .ok (.iload_n 1, 1) := by decide +kernel
theorem dc_380_6 : decode (sm_cc 380) 6 = .ok (.iconst 2, 1) := by decide +kernel
theorem dc_380_7 : decode (sm_cc 380) 7 = .ok (.if_icmp .ne (16), 3) := by decide +kernel
theorem dc_380_23 : decode (sm_cc 380) 23 = .ok (.iload_n 1, 1) := by decide +kernel
theorem dc_380_24 : decode (sm_cc 380) 24 = .ok (.iconst 3, 1) := by decide +kernel
theorem dc_380_25 : decode (sm_cc 380) 25 = .ok (.if_icmp .ne (7), 3) := by decide +kernel
theorem dc_380_32 : decode (sm_cc 380) 32 = .ok (.iload_n 1, 1) := by decide +kernel
theorem dc_380_33 : decode (sm_cc 380) 33 = .ok (.bipush (8), 2) := by decide +kernel
theorem dc_380_35 : decode (sm_cc 380) 35 = .ok (.if_icmp .eq (9), 3) := by decide +kernel
theorem dc_380_38 : decode (sm_cc 380) 38 = .ok (.iload_n 1, 1) := by decide +kernel
theorem dc_380_39 : decode (sm_cc 380) 39 = .ok (.bipush (9), 2) := by decide +kernel
theorem dc_380_41 : decode (sm_cc 380) 41 = .ok (.if_icmp .ne (7), 3) := by decide +kernel
theorem dc_380_48 : decode (sm_cc 380) 48 = .ok (.iconst 1, 1) := by decide +kernel
theorem dc_380_49 : decode (sm_cc 380) 49 = .ok (.istore 5, 2) := by decide +kernel
theorem dc_380_51 : decode (sm_cc 380) 51 = .ok (.iload_n 1, 1) := by decide +kernel
theorem dc_380_52 : decode (sm_cc 380) 52 = .ok (.ifCond .ne (10), 3) := by decide +kernel
theorem dc_380_55 : decode (sm_cc 380) 55 = .ok (.aload_n 0, 1) := by decide +kernel
theorem dc_380_56 : decode (sm_cc 380) 56 = .ok (.iload_n 2, 1) := by decide +kernel
theorem dc_380_57 : decode (sm_cc 380) 57 = .ok (.iload_n 3, 1) := by decide +kernel
theorem dc_380_58 : decode (sm_cc 380) 58 = .ok (.invokevirtual 793, 3) := by decide +kernel
theorem ow_381 : 14 = sm_ow 381 := by decide +kernel
theorem kr_380_793 : sm_at mt_k (sm_ow 380) 793 = some (793, 0, 381, 0, 2844) := by decide +kernel
theorem np_381 : sm_np 381 = 2 := by decide +kernel
theorem dc_380_61 : decode (sm_cc 380) 61 = .ok (.ireturn, 1) := by decide +kernel
theorem rt_380 : sm_rt 380 = some .boolean := by decide +kernel
theorem dc_380_62 : decode (sm_cc 380) 62 = .ok (.iload_n 3, 1) := by decide +kernel
theorem dc_380_63 : decode (sm_cc 380) 63 = .ok (.iload 5, 2) := by decide +kernel
theorem dc_380_65 : decode (sm_cc 380) 65 = .ok (.if_icmp .eq (9), 3) := by decide +kernel
theorem dc_380_74 : decode (sm_cc 380) 74 = .ok (.lconst 0, 1) := by decide +kernel
theorem dc_380_75 : decode (sm_cc 380) 75 = .ok (.lstore 6, 2) := by decide +kernel
theorem dc_380_77 : decode (sm_cc 380) 77 = .ok (.iload_n 1, 1) := by decide +kernel
theorem dc_380_78 : decode (sm_cc 380) 78 = .ok (.tableswitch (469) 1 8 #[46, 114, 121, 209, 302, 409, 415, 459], 46) := by decide +kernel
theorem dc_380_124 : decode (sm_cc 380) 124 = .ok (.aload_n 0, 1) := by decide +kernel
theorem dc_380_125 : decode (sm_cc 380) 125 = .ok (.getfield 496, 3) := by decide +kernel
theorem fr_380_496 : sm_at mt_f (sm_ow 380) 496 = some (496, 14, 48, 0, 2121) := by decide +kernel
theorem dc_380_128 : decode (sm_cc 380) 128 = .ok (.iload 4, 2) := by decide +kernel
theorem dc_380_130 : decode (sm_cc 380) 130 = .ok (.iaload, 1) := by decide +kernel
theorem dc_380_131 : decode (sm_cc 380) 131 = .ok (.iconst 2, 1) := by decide +kernel
theorem dc_380_132 : decode (sm_cc 380) 132 = .ok (.if_icmp .ne (19), 3) := by decide +kernel
theorem dc_380_151 : decode (sm_cc 380) 151 = .ok (.aload_n 0, 1) := by decide +kernel
theorem dc_380_152 : decode (sm_cc 380) 152 = .ok (.iload 4, 2) := by decide +kernel
theorem dc_380_154 : decode (sm_cc 380) 154 = .ok (.iconst 1, 1) := by decide +kernel
theorem dc_380_155 : decode (sm_cc 380) 155 = .ok (.invokevirtual 683, 3) := by decide +kernel
theorem kr_380_683 : sm_at mt_k (sm_ow 380) 683 = some (683, 0, 363, 0, 2722) := by decide +kernel
theorem dc_380_158 : decode (sm_cc 380) 158 = .ok (.ifCond .ne (13), 3) := by decide +kernel
theorem dc_380_171 : decode (sm_cc 380) 171 = .ok (.aload_n 0, 1) := by decide +kernel
theorem dc_380_172 : decode (sm_cc 380) 172 = .ok (.iload 4, 2) := by decide +kernel
theorem dc_380_174 : decode (sm_cc 380) 174 = .ok (.invokevirtual 554, 3) := by decide +kernel
theorem kr_380_554 : sm_at mt_k (sm_ow 380) 554 = some (554, 0, 361, 0, 2714) := by decide +kernel
theorem dc_380_177 : decode (sm_cc 380) 177 = .ok (.getfield 459, 3) := by decide +kernel
theorem fr_380_459 : sm_at mt_f (sm_ow 380) 459 = some (459, 13, 1, 0, 2772) := by decide +kernel
theorem dc_380_180 : decode (sm_cc 380) 180 = .ok (.i2l, 1) := by decide +kernel
theorem dc_380_181 : decode (sm_cc 380) 181 = .ok (.lstore 6, 2) := by decide +kernel
theorem dc_380_183 : decode (sm_cc 380) 183 = .ok (.goto (371), 3) := by decide +kernel
theorem dc_380_554 : decode (sm_cc 380) 554 = .ok (.aload_n 0, 1) := by decide +kernel
theorem dc_380_555 : decode (sm_cc 380) 555 = .ok (.iload_n 2, 1) := by decide +kernel
theorem dc_380_556 : decode (sm_cc 380) 556 = .ok (.putfield 493, 3) := by decide +kernel
theorem fr_380_493 : sm_at mt_f (sm_ow 380) 493 = some (493, 14, 51, 0, 2124) := by decide +kernel
theorem dc_380_559 : decode (sm_cc 380) 559 = .ok (.aload_n 0, 1) := by decide +kernel
theorem dc_380_560 : decode (sm_cc 380) 560 = .ok (.lload 6, 2) := by decide +kernel
theorem dc_380_562 : decode (sm_cc 380) 562 = .ok (.invokevirtual 613, 3) := by decide +kernel
theorem kr_380_613 : sm_at mt_k (sm_ow 380) 613 = some (613, 0, 353, 0, 2672) := by decide +kernel
theorem dc_380_565 : decode (sm_cc 380) 565 = .ok (.iconst 1, 1) := by decide +kernel
theorem dc_380_566 : decode (sm_cc 380) 566 = .ok (.ireturn, 1) := by decide +kernel
theorem dc_380_161 : decode (sm_cc 380) 161 = .ok (.aload_n 0, 1) := by decide +kernel
theorem dc_380_162 : decode (sm_cc 380) 162 = .ok (.iload 4, 2) := by decide +kernel
theorem dc_380_164 : decode (sm_cc 380) 164 = .ok (.iconst 2, 1) := by decide +kernel
theorem dc_380_165 : decode (sm_cc 380) 165 = .ok (.invokevirtual 683, 3) := by decide +kernel
theorem dc_380_168 : decode (sm_cc 380) 168 = .ok (.ifCond .eq (18), 3) := by decide +kernel
theorem dc_380_186 : decode (sm_cc 380) 186 = .ok (.aload_n 0, 1) := by decide +kernel
theorem dc_380_187 : decode (sm_cc 380) 187 = .ok (.iconst 2, 1) := by decide +kernel
theorem dc_380_188 : decode (sm_cc 380) 188 = .ok (.invokevirtual 608, 3) := by decide +kernel
theorem kr_380_608 : sm_at mt_k (sm_ow 380) 608 = some (608, 0, 351, 0, 2664) := by decide +kernel
theorem dc_380_191 : decode (sm_cc 380) 191 = .ok (.ireturn, 1) := by decide +kernel
theorem dc_380_135 : decode (sm_cc 380) 135 = .ok (.aload_n 0, 1) := by decide +kernel
theorem dc_380_136 : decode (sm_cc 380) 136 = .ok (.getfield 546, 3) := by decide +kernel
theorem fr_380_546 : sm_at mt_f (sm_ow 380) 546 = some (546, 14, 50, 0, 2123) := by decide +kernel
theorem dc_380_139 : decode (sm_cc 380) 139 = .ok (.iload 4, 2) := by decide +kernel
theorem dc_380_141 : decode (sm_cc 380) 141 = .ok (.laload, 1) := by decide +kernel
theorem dc_380_142 : decode (sm_cc 380) 142 = .ok (.invokestatic 552, 3) := by decide +kernel
theorem kr_380_552 : sm_at mt_k (sm_ow 380) 552 = some (552, 2, 360, 0, 2710) := by decide +kernel
theorem dc_380_145 : decode (sm_cc 380) 145 = .ok (.i2l, 1) := by decide +kernel
theorem dc_380_146 : decode (sm_cc 380) 146 = .ok (.lstore 6, 2) := by decide +kernel
theorem dc_380_148 : decode (sm_cc 380) 148 = .ok (.goto (406), 3) := by decide +kernel
theorem dc_380_68 : decode (sm_cc 380) 68 = .ok (.aload_n 0, 1) := by decide +kernel
theorem dc_380_69 : decode (sm_cc 380) 69 = .ok (.iconst 2, 1) := by decide +kernel
theorem dc_380_70 : decode (sm_cc 380) 70 = .ok (.invokevirtual 608, 3) := by decide +kernel
theorem dc_380_73 : decode (sm_cc 380) 73 = .ok (.ireturn, 1) := by decide +kernel
theorem dc_380_10 : decode (sm_cc 380) 10 = .ok (.iload_n 3, 1) := by decide +kernel
theorem dc_380_11 : decode (sm_cc 380) 11 = .ok (.iconst 2, 1) := by decide +kernel
theorem dc_380_12 : decode (sm_cc 380) 12 = .ok (.if_icmp .ne (7), 3) := by decide +kernel
theorem dc_380_19 : decode (sm_cc 380) 19 = .ok (.iconst 1, 1) := by decide +kernel
theorem dc_380_20 : decode (sm_cc 380) 20 = .ok (.goto (29), 3) := by decide +kernel
theorem dc_380_192 : decode (sm_cc 380) 192 = .ok (.aload_n 0, 1) := by decide +kernel
theorem dc_380_193 : decode (sm_cc 380) 193 = .ok (.iload_n 2, 1) := by decide +kernel
theorem dc_380_194 : decode (sm_cc 380) 194 = .ok (.iload_n 3, 1) := by decide +kernel
theorem dc_380_195 : decode (sm_cc 380) 195 = .ok (.invokevirtual 795, 3) := by decide +kernel
theorem ow_388 : 14 = sm_ow 388 := by decide +kernel
theorem kr_380_795 : sm_at mt_k (sm_ow 380) 795 = some (795, 0, 388, 0, 2879) := by decide +kernel
theorem np_388 : sm_np 388 = 2 := by decide +kernel
theorem dc_380_198 : decode (sm_cc 380) 198 = .ok (.ireturn, 1) := by decide +kernel
theorem dc_380_15 : decode (sm_cc 380) 15 = .ok (.iconst 2, 1) := by decide +kernel
theorem dc_380_16 : decode (sm_cc 380) 16 = .ok (.goto (33), 3) := by decide +kernel
theorem dc_380_28 : decode (sm_cc 380) 28 = .ok (.iconst 2, 1) := by decide +kernel
theorem dc_380_29 : decode (sm_cc 380) 29 = .ok (.goto (20), 3) := by decide +kernel
theorem dc_380_199 : decode (sm_cc 380) 199 = .ok (.aload_n 0, 1) := by decide +kernel
theorem dc_380_200 : decode (sm_cc 380) 200 = .ok (.iload 4, 2) := by decide +kernel
theorem dc_380_202 : decode (sm_cc 380) 202 = .ok (.iconst 1, 1) := by decide +kernel
theorem dc_380_203 : decode (sm_cc 380) 203 = .ok (.invokevirtual 683, 3) := by decide +kernel
theorem dc_380_206 : decode (sm_cc 380) 206 = .ok (.ifCond .ne (9), 3) := by decide +kernel
theorem dc_380_215 : decode (sm_cc 380) 215 = .ok (.aload_n 0, 1) := by decide +kernel
theorem dc_380_216 : decode (sm_cc 380) 216 = .ok (.iload 4, 2) := by decide +kernel
theorem dc_380_218 : decode (sm_cc 380) 218 = .ok (.invokevirtual 554, 3) := by decide +kernel
theorem dc_380_221 : decode (sm_cc 380) 221 = .ok (.getfield 459, 3) := by decide +kernel
theorem dc_380_224 : decode (sm_cc 380) 224 = .ok (.sipush (300), 3) := by decide +kernel
theorem dc_380_227 : decode (sm_cc 380) 227 = .ok (.if_icmp .ne (10), 3) := by decide +kernel
theorem dc_380_237 : decode (sm_cc 380) 237 = .ok (.aload_n 0, 1) := by decide +kernel
theorem dc_380_238 : decode (sm_cc 380) 238 = .ok (.iload 4, 2) := by decide +kernel
theorem dc_380_240 : decode (sm_cc 380) 240 = .ok (.invokevirtual 554, 3) := by decide +kernel
theorem dc_380_243 : decode (sm_cc 380) 243 = .ok (.aload_n 0, 1) := by decide +kernel
theorem dc_380_244 : decode (sm_cc 380) 244 = .ok (.getfield 496, 3) := by decide +kernel
theorem dc_380_247 : decode (sm_cc 380) 247 = .ok (.iload 4, 2) := by decide +kernel
theorem dc_380_249 : decode (sm_cc 380) 249 = .ok (.iconst 1, 1) := by decide +kernel
theorem dc_380_250 : decode (sm_cc 380) 250 = .ok (.iadd, 1) := by decide +kernel
theorem dc_380_251 : decode (sm_cc 380) 251 = .ok (.iaload, 1) := by decide +kernel
theorem dc_380_252 : decode (sm_cc 380) 252 = .ok (.aload_n 0, 1) := by decide +kernel
theorem dc_380_253 : decode (sm_cc 380) 253 = .ok (.getfield 499, 3) := by decide +kernel
theorem fr_380_499 : sm_at mt_f (sm_ow 380) 499 = some (499, 14, 49, 0, 2122) := by decide +kernel
theorem dc_380_256 : decode (sm_cc 380) 256 = .ok (.iload 4, 2) := by decide +kernel
theorem dc_380_258 : decode (sm_cc 380) 258 = .ok (.iconst 1, 1) := by decide +kernel
theorem dc_380_259 : decode (sm_cc 380) 259 = .ok (.iadd, 1) := by decide +kernel
theorem dc_380_260 : decode (sm_cc 380) 260 = .ok (.laload, 1) := by decide +kernel
theorem dc_380_261 : decode (sm_cc 380) 261 = .ok (.aload_n 0, 1) := by decide +kernel
theorem dc_380_262 : decode (sm_cc 380) 262 = .ok (.getfield 546, 3) := by decide +kernel
theorem dc_380_265 : decode (sm_cc 380) 265 = .ok (.iload 4, 2) := by decide +kernel
theorem dc_380_267 : decode (sm_cc 380) 267 = .ok (.iconst 1, 1) := by decide +kernel
theorem dc_380_268 : decode (sm_cc 380) 268 = .ok (.iadd, 1) := by decide +kernel
theorem dc_380_269 : decode (sm_cc 380) 269 = .ok (.laload, 1) := by decide +kernel
theorem dc_380_270 : decode (sm_cc 380) 270 = .ok (.invokevirtual 759, 3) := by decide +kernel
theorem kr_380_759 : sm_at mt_k (sm_ow 380) 759 = some (759, 0, 375, 0, 2817) := by decide +kernel
theorem dc_380_273 : decode (sm_cc 380) 273 = .ok (.aload_n 0, 1) := by decide +kernel
theorem dc_380_274 : decode (sm_cc 380) 274 = .ok (.iload_n 2, 1) := by decide +kernel
theorem dc_380_275 : decode (sm_cc 380) 275 = .ok (.putfield 493, 3) := by decide +kernel
theorem dc_380_278 : decode (sm_cc 380) 278 = .ok (.aload_n 0, 1) := by decide +kernel
theorem dc_380_279 : decode (sm_cc 380) 279 = .ok (.iconst 0, 1) := by decide +kernel
theorem dc_380_280 : decode (sm_cc 380) 280 = .ok (.lconst 0, 1) := by decide +kernel
theorem dc_380_281 : decode (sm_cc 380) 281 = .ok (.lconst 0, 1) := by decide +kernel
theorem dc_380_282 : decode (sm_cc 380) 282 = .ok (.invokevirtual 549, 3) := by decide +kernel
theorem kr_380_549 : sm_at mt_k (sm_ow 380) 549 = some (549, 0, 352, 0, 2668) := by decide +kernel
theorem dc_380_285 : decode (sm_cc 380) 285 = .ok (.iconst 1, 1) := by decide +kernel
theorem dc_380_286 : decode (sm_cc 380) 286 = .ok (.ireturn, 1) := by decide +kernel
theorem dc_380_230 : decode (sm_cc 380) 230 = .ok (.aload_n 0, 1) := by decide +kernel
theorem dc_380_231 : decode (sm_cc 380) 231 = .ok (.bipush (8), 2) := by decide +kernel
theorem dc_380_233 : decode (sm_cc 380) 233 = .ok (.invokevirtual 608, 3) := by decide +kernel
theorem dc_380_236 : decode (sm_cc 380) 236 = .ok (.ireturn, 1) := by decide +kernel
theorem dc_380_209 : decode (sm_cc 380) 209 = .ok (.aload_n 0, 1) := by decide +kernel
theorem dc_380_210 : decode (sm_cc 380) 210 = .ok (.iconst 2, 1) := by decide +kernel
theorem dc_380_211 : decode (sm_cc 380) 211 = .ok (.invokevirtual 608, 3) := by decide +kernel
theorem dc_380_214 : decode (sm_cc 380) 214 = .ok (.ireturn, 1) := by decide +kernel
theorem dc_380_287 : decode (sm_cc 380) 287 = .ok (.aload_n 0, 1) := by decide +kernel
theorem dc_380_288 : decode (sm_cc 380) 288 = .ok (.iload 4, 2) := by decide +kernel
theorem dc_380_290 : decode (sm_cc 380) 290 = .ok (.iconst 1, 1) := by decide +kernel
theorem dc_380_291 : decode (sm_cc 380) 291 = .ok (.invokevirtual 683, 3) := by decide +kernel
theorem dc_380_294 : decode (sm_cc 380) 294 = .ok (.ifCond .ne (9), 3) := by decide +kernel
theorem dc_380_303 : decode (sm_cc 380) 303 = .ok (.aload_n 0, 1) := by decide +kernel
theorem dc_380_304 : decode (sm_cc 380) 304 = .ok (.iload 4, 2) := by decide +kernel
theorem dc_380_306 : decode (sm_cc 380) 306 = .ok (.invokevirtual 554, 3) := by decide +kernel
theorem dc_380_309 : decode (sm_cc 380) 309 = .ok (.astore 8, 2) := by decide +kernel
theorem dc_380_311 : decode (sm_cc 380) 311 = .ok (.aload 8, 2) := by decide +kernel
theorem dc_380_313 : decode (sm_cc 380) 313 = .ok (.getfield 459, 3) := by decide +kernel
theorem dc_380_316 : decode (sm_cc 380) 316 = .ok (.ifCond .ne (9), 3) := by decide +kernel
theorem dc_380_325 : decode (sm_cc 380) 325 = .ok (.aload 8, 2) := by decide +kernel
theorem dc_380_327 : decode (sm_cc 380) 327 = .ok (.dup, 1) := by decide +kernel
theorem dc_380_328 : decode (sm_cc 380) 328 = .ok (.getfield 459, 3) := by decide +kernel
theorem dc_380_331 : decode (sm_cc 380) 331 = .ok (.iconst 1, 1) := by decide +kernel
theorem dc_380_332 : decode (sm_cc 380) 332 = .ok (.isub, 1) := by decide +kernel
theorem dc_380_333 : decode (sm_cc 380) 333 = .ok (.putfield 459, 3) := by decide +kernel
theorem dc_380_336 : decode (sm_cc 380) 336 = .ok (.aload_n 0, 1) := by decide +kernel
theorem dc_380_337 : decode (sm_cc 380) 337 = .ok (.iload_n 2, 1) := by decide +kernel
theorem dc_380_338 : decode (sm_cc 380) 338 = .ok (.putfield 493, 3) := by decide +kernel
theorem dc_380_341 : decode (sm_cc 380) 341 = .ok (.aload_n 0, 1) := by decide +kernel
theorem dc_380_342 : decode (sm_cc 380) 342 = .ok (.aload 8, 2) := by decide +kernel
theorem dc_380_344 : decode (sm_cc 380) 344 = .ok (.getfield 462, 3) := by decide +kernel
theorem fr_380_462 : sm_at mt_f (sm_ow 380) 462 = some (462, 13, 2, 0, 2774) := by decide +kernel
theorem dc_380_347 : decode (sm_cc 380) 347 = .ok (.aload 8, 2) := by decide +kernel
theorem dc_380_349 : decode (sm_cc 380) 349 = .ok (.getfield 459, 3) := by decide +kernel
theorem dc_380_352 : decode (sm_cc 380) 352 = .ok (.iaload, 1) := by decide +kernel
theorem dc_380_353 : decode (sm_cc 380) 353 = .ok (.aload 8, 2) := by decide +kernel
theorem dc_380_355 : decode (sm_cc 380) 355 = .ok (.getfield 465, 3) := by decide +kernel
theorem fr_380_465 : sm_at mt_f (sm_ow 380) 465 = some (465, 13, 4, 0, 2778) := by decide +kernel
theorem dc_380_358 : decode (sm_cc 380) 358 = .ok (.aload 8, 2) := by decide +kernel
theorem dc_380_360 : decode (sm_cc 380) 360 = .ok (.getfield 459, 3) := by decide +kernel
theorem dc_380_363 : decode (sm_cc 380) 363 = .ok (.laload, 1) := by decide +kernel
theorem dc_380_364 : decode (sm_cc 380) 364 = .ok (.aload 8, 2) := by decide +kernel
theorem dc_380_366 : decode (sm_cc 380) 366 = .ok (.getfield 627, 3) := by decide +kernel
theorem fr_380_627 : sm_at mt_f (sm_ow 380) 627 = some (627, 13, 5, 0, 2780) := by decide +kernel
theorem dc_380_369 : decode (sm_cc 380) 369 = .ok (.aload 8, 2) := by decide +kernel
theorem dc_380_371 : decode (sm_cc 380) 371 = .ok (.getfield 459, 3) := by decide +kernel
theorem dc_380_374 : decode (sm_cc 380) 374 = .ok (.laload, 1) := by decide +kernel
theorem dc_380_375 : decode (sm_cc 380) 375 = .ok (.invokevirtual 549, 3) := by decide +kernel
theorem dc_380_378 : decode (sm_cc 380) 378 = .ok (.iconst 1, 1) := by decide +kernel
theorem dc_380_379 : decode (sm_cc 380) 379 = .ok (.ireturn, 1) := by decide +kernel
theorem dc_380_319 : decode (sm_cc 380) 319 = .ok (.aload_n 0, 1) := by decide +kernel
theorem dc_380_320 : decode (sm_cc 380) 320 = .ok (.iconst 3, 1) := by decide +kernel
theorem dc_380_321 : decode (sm_cc 380) 321 = .ok (.invokevirtual 608, 3) := by decide +kernel
theorem dc_380_324 : decode (sm_cc 380) 324 = .ok (.ireturn, 1) := by decide +kernel
theorem dc_380_297 : decode (sm_cc 380) 297 = .ok (.aload_n 0, 1) := by decide +kernel
theorem dc_380_298 : decode (sm_cc 380) 298 = .ok (.iconst 2, 1) := by decide +kernel
theorem dc_380_299 : decode (sm_cc 380) 299 = .ok (.invokevirtual 608, 3) := by decide +kernel
theorem dc_380_302 : decode (sm_cc 380) 302 = .ok (.ireturn, 1) := by decide +kernel
theorem dc_380_380 : decode (sm_cc 380) 380 = .ok (.aload_n 0, 1) := by decide +kernel
theorem dc_380_381 : decode (sm_cc 380) 381 = .ok (.iload 4, 2) := by decide +kernel
theorem dc_380_383 : decode (sm_cc 380) 383 = .ok (.iconst 2, 1) := by decide +kernel
theorem dc_380_384 : decode (sm_cc 380) 384 = .ok (.invokevirtual 683, 3) := by decide +kernel
theorem dc_380_387 : decode (sm_cc 380) 387 = .ok (.ifCond .ne (9), 3) := by decide +kernel
theorem dc_380_396 : decode (sm_cc 380) 396 = .ok (.aload_n 0, 1) := by decide +kernel
theorem dc_380_397 : decode (sm_cc 380) 397 = .ok (.iconst 1, 1) := by decide +kernel
theorem dc_380_398 : decode (sm_cc 380) 398 = .ok (.invokevirtual 686, 3) := by decide +kernel
theorem kr_380_686 : sm_at mt_k (sm_ow 380) 686 = some (686, 0, 364, 0, 2726) := by decide +kernel
theorem dc_380_401 : decode (sm_cc 380) 401 = .ok (.istore 9, 2) := by decide +kernel
theorem dc_380_403 : decode (sm_cc 380) 403 = .ok (.iload 9, 2) := by decide +kernel
theorem dc_380_405 : decode (sm_cc 380) 405 = .ok (.ifCond .ge (5), 3) := by decide +kernel
theorem dc_380_410 : decode (sm_cc 380) 410 = .ok (.aload_n 0, 1) := by decide +kernel
theorem dc_380_411 : decode (sm_cc 380) 411 = .ok (.iload 4, 2) := by decide +kernel
theorem dc_380_413 : decode (sm_cc 380) 413 = .ok (.invokevirtual 554, 3) := by decide +kernel
theorem dc_380_416 : decode (sm_cc 380) 416 = .ok (.astore 10, 2) := by decide +kernel
theorem dc_380_418 : decode (sm_cc 380) 418 = .ok (.iconst 0, 1) := by decide +kernel
theorem dc_380_419 : decode (sm_cc 380) 419 = .ok (.istore 11, 2) := by decide +kernel
theorem dc_380_408 : decode (sm_cc 380) 408 = .ok (.iconst 0, 1) := by decide +kernel
theorem dc_380_409 : decode (sm_cc 380) 409 = .ok (.ireturn, 1) := by decide +kernel
theorem dc_380_390 : decode (sm_cc 380) 390 = .ok (.aload_n 0, 1) := by decide +kernel
theorem dc_380_391 : decode (sm_cc 380) 391 = .ok (.iconst 2, 1) := by decide +kernel
theorem dc_380_392 : decode (sm_cc 380) 392 = .ok (.invokevirtual 608, 3) := by decide +kernel
theorem dc_380_395 : decode (sm_cc 380) 395 = .ok (.ireturn, 1) := by decide +kernel
theorem dc_380_487 : decode (sm_cc 380) 487 = .ok (.aload_n 0, 1) := by decide +kernel
theorem dc_380_488 : decode (sm_cc 380) 488 = .ok (.iload_n 2, 1) := by decide +kernel
theorem dc_380_489 : decode (sm_cc 380) 489 = .ok (.invokevirtual 797, 3) := by decide +kernel
theorem ow_390 : 14 = sm_ow 390 := by decide +kernel
theorem kr_380_797 : sm_at mt_k (sm_ow 380) 797 = some (797, 0, 390, 0, 2889) := by decide +kernel
theorem np_390 : sm_np 390 = 1 := by decide +kernel
theorem dc_380_492 : decode (sm_cc 380) 492 = .ok (.ireturn, 1) := by decide +kernel
theorem dc_380_493 : decode (sm_cc 380) 493 = .ok (.aload_n 0, 1) := by decide +kernel
theorem dc_380_494 : decode (sm_cc 380) 494 = .ok (.getfield 496, 3) := by decide +kernel
theorem dc_380_497 : decode (sm_cc 380) 497 = .ok (.iload 4, 2) := by decide +kernel
theorem dc_380_499 : decode (sm_cc 380) 499 = .ok (.iaload, 1) := by decide +kernel
theorem dc_380_500 : decode (sm_cc 380) 500 = .ok (.iconst 3, 1) := by decide +kernel
theorem dc_380_501 : decode (sm_cc 380) 501 = .ok (.if_icmp .eq (9), 3) := by decide +kernel
theorem dc_380_510 : decode (sm_cc 380) 510 = .ok (.aload_n 0, 1) := by decide +kernel
theorem dc_380_511 : decode (sm_cc 380) 511 = .ok (.invokevirtual 527, 3) := by decide +kernel
theorem kr_380_527 : sm_at mt_k (sm_ow 380) 527 = some (527, 0, 366, 0, 2734) := by decide +kernel
theorem dc_380_514 : decode (sm_cc 380) 514 = .ok (.aload_n 0, 1) := by decide +kernel
theorem dc_380_515 : decode (sm_cc 380) 515 = .ok (.invokevirtual 508, 3) := by decide +kernel
theorem kr_380_508 : sm_at mt_k (sm_ow 380) 508 = some (508, 0, 367, 0, 2738) := by decide +kernel
theorem dc_380_518 : decode (sm_cc 380) 518 = .ok (.aload_n 0, 1) := by decide +kernel
theorem dc_380_519 : decode (sm_cc 380) 519 = .ok (.getfield 456, 3) := by decide +kernel
theorem fr_380_456 : sm_at mt_f (sm_ow 380) 456 = some (456, 14, 45, 0, 2118) := by decide +kernel
theorem dc_380_522 : decode (sm_cc 380) 522 = .ok (.aload_n 0, 1) := by decide +kernel
theorem dc_380_523 : decode (sm_cc 380) 523 = .ok (.getfield 499, 3) := by decide +kernel
theorem dc_380_526 : decode (sm_cc 380) 526 = .ok (.iload 4, 2) := by decide +kernel
theorem dc_380_528 : decode (sm_cc 380) 528 = .ok (.laload, 1) := by decide +kernel
theorem dc_380_529 : decode (sm_cc 380) 529 = .ok (.l2i, 1) := by decide +kernel
theorem dc_380_530 : decode (sm_cc 380) 530 = .ok (.iaload, 1) := by decide +kernel
theorem dc_380_531 : decode (sm_cc 380) 531 = .ok (.i2l, 1) := by decide +kernel
theorem dc_380_532 : decode (sm_cc 380) 532 = .ok (.lstore 6, 2) := by decide +kernel
theorem dc_380_534 : decode (sm_cc 380) 534 = .ok (.goto (20), 3) := by decide +kernel
theorem dc_380_504 : decode (sm_cc 380) 504 = .ok (.aload_n 0, 1) := by decide +kernel
theorem dc_380_505 : decode (sm_cc 380) 505 = .ok (.iconst 2, 1) := by decide +kernel
theorem dc_380_506 : decode (sm_cc 380) 506 = .ok (.invokevirtual 608, 3) := by decide +kernel
theorem dc_380_509 : decode (sm_cc 380) 509 = .ok (.ireturn, 1) := by decide +kernel
theorem dc_380_44 : decode (sm_cc 380) 44 = .ok (.iconst 0, 1) := by decide +kernel
theorem dc_380_45 : decode (sm_cc 380) 45 = .ok (.goto (4), 3) := by decide +kernel
theorem dc_380_537 : decode (sm_cc 380) 537 = .ok (.aload_n 0, 1) := by decide +kernel
theorem dc_380_538 : decode (sm_cc 380) 538 = .ok (.invokevirtual 799, 3) := by decide +kernel
theorem ow_392 : 14 = sm_ow 392 := by decide +kernel
theorem kr_380_799 : sm_at mt_k (sm_ow 380) 799 = some (799, 0, 392, 0, 2897) := by decide +kernel
theorem np_392 : sm_np 392 = 0 := by decide +kernel
theorem dc_380_541 : decode (sm_cc 380) 541 = .ok (.i2l, 1) := by decide +kernel
theorem dc_380_542 : decode (sm_cc 380) 542 = .ok (.lstore 6, 2) := by decide +kernel
theorem dc_380_544 : decode (sm_cc 380) 544 = .ok (.goto (10), 3) := by decide +kernel
theorem dc_380_547 : decode (sm_cc 380) 547 = .ok (.aload_n 0, 1) := by decide +kernel
theorem dc_380_548 : decode (sm_cc 380) 548 = .ok (.invokevirtual 801, 3) := by decide +kernel
theorem ow_393 : 14 = sm_ow 393 := by decide +kernel
theorem kr_380_801 : sm_at mt_k (sm_ow 380) 801 = some (801, 0, 393, 0, 2901) := by decide +kernel
theorem np_393 : sm_np 393 = 0 := by decide +kernel
theorem dc_380_551 : decode (sm_cc 380) 551 = .ok (.i2l, 1) := by decide +kernel
theorem dc_380_552 : decode (sm_cc 380) 552 = .ok (.lstore 6, 2) := by decide +kernel
theorem dc_380_421 : decode (sm_cc 380) 421 = .ok (.iload 11, 2) := by decide +kernel
theorem dc_380_423 : decode (sm_cc 380) 423 = .ok (.aload 10, 2) := by decide +kernel
theorem dc_380_425 : decode (sm_cc 380) 425 = .ok (.getfield 459, 3) := by decide +kernel
theorem dc_380_428 : decode (sm_cc 380) 428 = .ok (.if_icmp .ge (43), 3) := by decide +kernel
theorem dc_380_471 : decode (sm_cc 380) 471 = .ok (.aload_n 0, 1) := by decide +kernel
theorem dc_380_472 : decode (sm_cc 380) 472 = .ok (.iload_n 2, 1) := by decide +kernel
theorem dc_380_473 : decode (sm_cc 380) 473 = .ok (.putfield 493, 3) := by decide +kernel
theorem dc_380_476 : decode (sm_cc 380) 476 = .ok (.aload_n 0, 1) := by decide +kernel
theorem dc_380_477 : decode (sm_cc 380) 477 = .ok (.iconst 3, 1) := by decide +kernel
theorem dc_380_478 : decode (sm_cc 380) 478 = .ok (.iload 9, 2) := by decide +kernel
theorem dc_380_480 : decode (sm_cc 380) 480 = .ok (.i2l, 1) := by decide +kernel
theorem dc_380_481 : decode (sm_cc 380) 481 = .ok (.lconst 0, 1) := by decide +kernel
theorem dc_380_482 : decode (sm_cc 380) 482 = .ok (.invokevirtual 549, 3) := by decide +kernel
theorem dc_380_485 : decode (sm_cc 380) 485 = .ok (.iconst 1, 1) := by decide +kernel
theorem dc_380_486 : decode (sm_cc 380) 486 = .ok (.ireturn, 1) := by decide +kernel
theorem dc_380_431 : decode (sm_cc 380) 431 = .ok (.aload_n 0, 1) := by decide +kernel
theorem dc_380_432 : decode (sm_cc 380) 432 = .ok (.getfield 485, 3) := by decide +kernel
theorem fr_380_485 : sm_at mt_f (sm_ow 380) 485 = some (485, 14, 42, 0, 2115) := by decide +kernel
theorem dc_380_435 : decode (sm_cc 380) 435 = .ok (.iload 9, 2) := by decide +kernel
theorem dc_380_437 : decode (sm_cc 380) 437 = .ok (.aaload, 1) := by decide +kernel
theorem dc_380_438 : decode (sm_cc 380) 438 = .ok (.aload 10, 2) := by decide +kernel
theorem dc_380_440 : decode (sm_cc 380) 440 = .ok (.getfield 719, 3) := by decide +kernel
theorem fr_380_719 : sm_at mt_f (sm_ow 380) 719 = some (719, 13, 3, 0, 2776) := by decide +kernel
theorem dc_380_443 : decode (sm_cc 380) 443 = .ok (.iload 11, 2) := by decide +kernel
theorem dc_380_445 : decode (sm_cc 380) 445 = .ok (.iaload, 1) := by decide +kernel
theorem dc_380_446 : decode (sm_cc 380) 446 = .ok (.aload 10, 2) := by decide +kernel
theorem dc_380_448 : decode (sm_cc 380) 448 = .ok (.getfield 722, 3) := by decide +kernel
theorem fr_380_722 : sm_at mt_f (sm_ow 380) 722 = some (722, 13, 6, 0, 2782) := by decide +kernel
theorem dc_380_451 : decode (sm_cc 380) 451 = .ok (.iload 11, 2) := by decide +kernel
theorem dc_380_453 : decode (sm_cc 380) 453 = .ok (.laload, 1) := by decide +kernel
theorem dc_380_454 : decode (sm_cc 380) 454 = .ok (.aload 10, 2) := by decide +kernel
theorem dc_380_456 : decode (sm_cc 380) 456 = .ok (.getfield 725, 3) := by decide +kernel
theorem fr_380_725 : sm_at mt_f (sm_ow 380) 725 = some (725, 13, 7, 0, 2784) := by decide +kernel
theorem dc_380_459 : decode (sm_cc 380) 459 = .ok (.iload 11, 2) := by decide +kernel
theorem dc_380_461 : decode (sm_cc 380) 461 = .ok (.laload, 1) := by decide +kernel
theorem dc_380_462 : decode (sm_cc 380) 462 = .ok (.invokevirtual 759, 3) := by decide +kernel
theorem dc_380_465 : decode (sm_cc 380) 465 = .ok (.iinc 11 (1), 3) := by decide +kernel
theorem dc_380_468 : decode (sm_cc 380) 468 = .ok (.goto (-47), 3) := by decide +kernel
theorem rBgAN_1 {d : Nat} {S Sf : cS} {v : Option Value} {lv : sm_L} {f0 : Nat} {zf0 : Nat} {r0 : Nat} {zr0 : Nat} {ba : Nat} {nn : Nat} {mk : Nat} {all : Nat} {lo : Nat} {fi : Nat} {ni : Nat} (q0 : sm_get lv 0 = some (.ref 61)) (q2 : sm_get lv 2 = some (.int (nI ba))) (q3 : sm_get lv 3 = some (.int (nI nn))) (q4 : sm_get lv 4 = some (.int (Int32.ofInt (-1)))) (q5 : sm_get lv 5 = some (.int (nI mk))) (q6 : sm_get lv 6 = some (.ref f0)) (q7 : sm_get lv 7 = some (.int (nI all))) (q8 : sm_get lv 8 = some (.int (nI lo))) (q9 : sm_get lv 9 = some (.int (nI fi))) (q10 : sm_get lv 10 = some (.ref r0)) (q11 : sm_get lv 11 = some (.int (nI ni))) (mba : ba < 2 ^ 20) (mnn : nn < 2 ^ 20) (mmk : mk < 2 ^ 20) (mall : all < 2 ^ 20) (mlo : lo < 2 ^ 20) (mfi : fi < 2 ^ 20) (mni : ni < 2 ^ 20) (af0 : 108 ≤ f0) (ar0 : 108 ≤ r0) (b1 : lo ≤ ni) (hB : ∀ lv1 : sm_L, sm_get lv1 0 = some (.ref 61) → sm_get lv1 2 = some (.int (nI ba)) → sm_get lv1 3 = some (.int (nI nn)) → sm_get lv1 5 = some (.int (nI mk)) → sm_get lv1 6 = some (.ref f0) → sm_get lv1 7 = some (.int (nI all)) → sm_get lv1 9 = some (.int (nI fi)) → sm_get lv1 10 = some (.ref r0) → sm_get lv1 11 = some (.int (nI 0)) → Bod (d + 8) 396 171 lv1 [] (S) v Sf) : Bod (d + 8) 396 131 lv [] S v Sf := by
  refine Bod.ildG dc_396_131 (by repeat (first | exact q11 | exact sm_get_p1 | exact sm_get_p2e | refine sm_get_p1m (by decide) (by decide) ?_ | refine sm_get_p1n (by decide) rfl ?_ | refine sm_get_p2n (by decide) (by decide) rfl ?_ | refine sm_get_p2m (by decide) (by decide) (by decide) ?_)) ?_
  refine Bod.ildG dc_396_133 (by repeat (first | exact q8 | exact sm_get_p1 | exact sm_get_p2e | refine sm_get_p1m (by decide) (by decide) ?_ | refine sm_get_p1n (by decide) rfl ?_ | refine sm_get_p2n (by decide) (by decide) rfl ?_ | refine sm_get_p2m (by decide) (by decide) (by decide) ?_)) ?_
  refine Bod.icT dc_396_135 rfl (k2_ge_T ni lo rfl rfl (by omega) (by omega)) ?_
  refine Bod.ildG dc_396_152 (by repeat (first | exact q4 | exact sm_get_p1 | exact sm_get_p2e | refine sm_get_p1m (by decide) (by decide) ?_ | refine sm_get_p1n (by decide) rfl ?_ | refine sm_get_p2n (by decide) (by decide) rfl ?_ | refine sm_get_p2m (by decide) (by decide) (by decide) ?_)) ?_
  refine Bod.ifT dc_396_154 rfl (by decide) ?_
  refine Bod.ic 0 (by decide) dc_396_168 ?_
  refine Bod.ist dc_396_169 (by rw [ml_396]; exact Nat.le_of_ble_eq_true rfl) ?_
  exact hB _ (by repeat (first | exact q0 | exact sm_get_p1 | exact sm_get_p2e | refine sm_get_p1m (by decide) (by decide) ?_ | refine sm_get_p1n (by decide) rfl ?_ | refine sm_get_p2n (by decide) (by decide) rfl ?_ | refine sm_get_p2m (by decide) (by decide) (by decide) ?_)) (by repeat (first | exact q2 | exact sm_get_p1 | exact sm_get_p2e | refine sm_get_p1m (by decide) (by decide) ?_ | refine sm_get_p1n (by decide) rfl ?_ | refine sm_get_p2n (by decide) (by decide) rfl ?_ | refine sm_get_p2m (by decide) (by decide) (by decide) ?_)) (by repeat (first | exact q3 | exact sm_get_p1 | exact sm_get_p2e | refine sm_get_p1m (by decide) (by decide) ?_ | refine sm_get_p1n (by decide) rfl ?_ | refine sm_get_p2n (by decide) (by decide) rfl ?_ | refine sm_get_p2m (by decide) (by decide) (by decide) ?_)) (by repeat (first | exact q5 | exact sm_get_p1 | exact sm_get_p2e | refine sm_get_p1m (by decide) (by decide) ?_ | refine sm_get_p1n (by decide) rfl ?_ | refine sm_get_p2n (by decide) (by decide) rfl ?_ | refine sm_get_p2m (by decide) (by decide) (by decide) ?_)) (by repeat (first | exact q6 | exact sm_get_p1 | exact sm_get_p2e | refine sm_get_p1m (by decide) (by decide) ?_ | refine sm_get_p1n (by decide) rfl ?_ | refine sm_get_p2n (by decide) (by decide) rfl ?_ | refine sm_get_p2m (by decide) (by decide) (by decide) ?_)) (by repeat (first | exact q7 | exact sm_get_p1 | exact sm_get_p2e | refine sm_get_p1m (by decide) (by decide) ?_ | refine sm_get_p1n (by decide) rfl ?_ | refine sm_get_p2n (by decide) (by decide) rfl ?_ | refine sm_get_p2m (by decide) (by decide) (by decide) ?_)) (by repeat (first | exact q9 | exact sm_get_p1 | exact sm_get_p2e | refine sm_get_p1m (by decide) (by decide) ?_ | refine sm_get_p1n (by decide) rfl ?_ | refine sm_get_p2n (by decide) (by decide) rfl ?_ | refine sm_get_p2m (by decide) (by decide) (by decide) ?_)) (by repeat (first | exact q10 | exact sm_get_p1 | exact sm_get_p2e | refine sm_get_p1m (by decide) (by decide) ?_ | refine sm_get_p1n (by decide) rfl ?_ | refine sm_get_p2n (by decide) (by decide) rfl ?_ | refine sm_get_p2m (by decide) (by decide) (by decide) ?_)) (by repeat (first | exact q0 | exact sm_get_p1 | exact sm_get_p2e | refine sm_get_p1m (by decide) (by decide) ?_ | refine sm_get_p1n (by decide) rfl ?_ | refine sm_get_p2n (by decide) (by decide) rfl ?_ | refine sm_get_p2m (by decide) (by decide) (by decide) ?_))
theorem rBgAN_2 {d : Nat} {S Sf : cS} {v : Option Value} {lv : sm_L} {f0 : Nat} {zf0 : Nat} {r0 : Nat} {zr0 : Nat} {ba : Nat} {nn : Nat} {mk : Nat} {all : Nat} {lo : Nat} {fi : Nat} {ni : Nat} {S1 : cS} (q0 : sm_get lv 0 = some (.ref 61)) (q2 : sm_get lv 2 = some (.int (nI ba))) (q3 : sm_get lv 3 = some (.int (nI nn))) (q4 : sm_get lv 4 = some (.int (Int32.ofInt (-1)))) (q5 : sm_get lv 5 = some (.int (nI mk))) (q6 : sm_get lv 6 = some (.ref f0)) (q7 : sm_get lv 7 = some (.int (nI all))) (q8 : sm_get lv 8 = some (.int (nI lo))) (q9 : sm_get lv 9 = some (.int (nI fi))) (q10 : sm_get lv 10 = some (.ref r0)) (q11 : sm_get lv 11 = some (.int (nI ni))) (mba : ba < 2 ^ 20) (mnn : nn < 2 ^ 20) (mmk : mk < 2 ^ 20) (mall : all < 2 ^ 20) (mlo : lo < 2 ^ 20) (mfi : fi < 2 ^ 20) (mni : ni < 2 ^ 20) (af0 : 108 ≤ f0) (ar0 : 108 ≤ r0) (b1 : ni < lo) (c1 : Ans (d + 8) 375 [.ref r0, .int (Int32.ofInt (-1)), .long 0, .long 0] S none S1) (hz1 : (sS S)[r0 - 108]? = some (13, zr0)) (hB : ∀ lv1 : sm_L, sm_get lv1 0 = some (.ref 61) → sm_get lv1 2 = some (.int (nI ba)) → sm_get lv1 3 = some (.int (nI nn)) → sm_get lv1 4 = some (.int (Int32.ofInt (-1))) → sm_get lv1 5 = some (.int (nI mk)) → sm_get lv1 6 = some (.ref f0) → sm_get lv1 7 = some (.int (nI all)) → sm_get lv1 8 = some (.int (nI lo)) → sm_get lv1 9 = some (.int (nI fi)) → sm_get lv1 10 = some (.ref r0) → sm_get lv1 11 = some (.int (nI (ni + 1))) → Bod (d + 8) 396 131 lv1 [] (S1) v Sf) : Bod (d + 8) 396 131 lv [] S v Sf := by
  refine Bod.ildG dc_396_131 (by repeat (first | exact q11 | exact sm_get_p1 | exact sm_get_p2e | refine sm_get_p1m (by decide) (by decide) ?_ | refine sm_get_p1n (by decide) rfl ?_ | refine sm_get_p2n (by decide) (by decide) rfl ?_ | refine sm_get_p2m (by decide) (by decide) (by decide) ?_)) ?_
  refine Bod.ildG dc_396_133 (by repeat (first | exact q8 | exact sm_get_p1 | exact sm_get_p2e | refine sm_get_p1m (by decide) (by decide) ?_ | refine sm_get_p1n (by decide) rfl ?_ | refine sm_get_p2n (by decide) (by decide) rfl ?_ | refine sm_get_p2m (by decide) (by decide) (by decide) ?_)) ?_
  refine Bod.icF dc_396_135 rfl (k2_ge_F ni lo rfl rfl (by omega) (by omega)) ?_
  refine Bod.aldG dc_396_138 (by repeat (first | exact q10 | exact sm_get_p1 | exact sm_get_p2e | refine sm_get_p1m (by decide) (by decide) ?_ | refine sm_get_p1n (by decide) rfl ?_ | refine sm_get_p2n (by decide) (by decide) rfl ?_ | refine sm_get_p2m (by decide) (by decide) (by decide) ?_)) ?_
  refine Bod.go dc_396_140 rfl ?_
  refine Bod.go dc_396_141 rfl ?_
  refine Bod.go dc_396_142 rfl ?_
  refine Bod.virt (r := []) dc_396_143 kr_396_759 ⟨Or.inl rfl, ow_375, cl_13⟩ (by rw [np_375]; rfl) (by rw [np_375]; rfl) (ob_of (mk_thing ar0 (by first | exact hz1 | (simp only [rIS, rJS, rAS, rLS, rVS, rQS, rS_hold]; exact hz1)))) (Nat.le_of_ble_eq_true rfl) (c1  ) ?_
  show Bod _ _ _ _ [] _ _ _
  refine Bod.incN (ni + 1) (by rw [kc_1, nI_add]) dc_396_146 (by rw [ml_396]; exact Nat.le_of_ble_eq_true rfl) (by repeat (first | exact q11 | exact sm_get_p1 | exact sm_get_p2e | refine sm_get_p1m (by decide) (by decide) ?_ | refine sm_get_p1n (by decide) rfl ?_ | refine sm_get_p2n (by decide) (by decide) rfl ?_ | refine sm_get_p2m (by decide) (by decide) (by decide) ?_)) ?_
  refine Bod.go dc_396_149 rfl ?_
  exact hB _ (by repeat (first | exact q0 | exact sm_get_p1 | exact sm_get_p2e | refine sm_get_p1m (by decide) (by decide) ?_ | refine sm_get_p1n (by decide) rfl ?_ | refine sm_get_p2n (by decide) (by decide) rfl ?_ | refine sm_get_p2m (by decide) (by decide) (by decide) ?_)) (by repeat (first | exact q2 | exact sm_get_p1 | exact sm_get_p2e | refine sm_get_p1m (by decide) (by decide) ?_ | refine sm_get_p1n (by decide) rfl ?_ | refine sm_get_p2n (by decide) (by decide) rfl ?_ | refine sm_get_p2m (by decide) (by decide) (by decide) ?_)) (by repeat (first | exact q3 | exact sm_get_p1 | exact sm_get_p2e | refine sm_get_p1m (by decide) (by decide) ?_ | refine sm_get_p1n (by decide) rfl ?_ | refine sm_get_p2n (by decide) (by decide) rfl ?_ | refine sm_get_p2m (by decide) (by decide) (by decide) ?_)) (by repeat (first | exact q4 | exact sm_get_p1 | exact sm_get_p2e | refine sm_get_p1m (by decide) (by decide) ?_ | refine sm_get_p1n (by decide) rfl ?_ | refine sm_get_p2n (by decide) (by decide) rfl ?_ | refine sm_get_p2m (by decide) (by decide) (by decide) ?_)) (by repeat (first | exact q5 | exact sm_get_p1 | exact sm_get_p2e | refine sm_get_p1m (by decide) (by decide) ?_ | refine sm_get_p1n (by decide) rfl ?_ | refine sm_get_p2n (by decide) (by decide) rfl ?_ | refine sm_get_p2m (by decide) (by decide) (by decide) ?_)) (by repeat (first | exact q6 | exact sm_get_p1 | exact sm_get_p2e | refine sm_get_p1m (by decide) (by decide) ?_ | refine sm_get_p1n (by decide) rfl ?_ | refine sm_get_p2n (by decide) (by decide) rfl ?_ | refine sm_get_p2m (by decide) (by decide) (by decide) ?_)) (by repeat (first | exact q7 | exact sm_get_p1 | exact sm_get_p2e | refine sm_get_p1m (by decide) (by decide) ?_ | refine sm_get_p1n (by decide) rfl ?_ | refine sm_get_p2n (by decide) (by decide) rfl ?_ | refine sm_get_p2m (by decide) (by decide) (by decide) ?_)) (by repeat (first | exact q8 | exact sm_get_p1 | exact sm_get_p2e | refine sm_get_p1m (by decide) (by decide) ?_ | refine sm_get_p1n (by decide) rfl ?_ | refine sm_get_p2n (by decide) (by decide) rfl ?_ | refine sm_get_p2m (by decide) (by decide) (by decide) ?_)) (by repeat (first | exact q9 | exact sm_get_p1 | exact sm_get_p2e | refine sm_get_p1m (by decide) (by decide) ?_ | refine sm_get_p1n (by decide) rfl ?_ | refine sm_get_p2n (by decide) (by decide) rfl ?_ | refine sm_get_p2m (by decide) (by decide) (by decide) ?_)) (by repeat (first | exact q10 | exact sm_get_p1 | exact sm_get_p2e | refine sm_get_p1m (by decide) (by decide) ?_ | refine sm_get_p1n (by decide) rfl ?_ | refine sm_get_p2n (by decide) (by decide) rfl ?_ | refine sm_get_p2m (by decide) (by decide) (by decide) ?_)) (by repeat (first | exact q0 | exact sm_get_p1 | exact sm_get_p2e | refine sm_get_p1m (by decide) (by decide) ?_ | refine sm_get_p1n (by decide) rfl ?_ | refine sm_get_p2n (by decide) (by decide) rfl ?_ | refine sm_get_p2m (by decide) (by decide) (by decide) ?_))
theorem rBgAI_1 {d : Nat} {S Sf : cS} {v : Option Value} {lv : sm_L} {f0 : Nat} {zf0 : Nat} {r0 : Nat} {zr0 : Nat} {ba : Nat} {nn : Nat} {io : Nat} {mk : Nat} {all : Nat} {lo : Nat} {fi : Nat} {ni : Nat} {S1 : cS} (q0 : sm_get lv 0 = some (.ref 61)) (q2 : sm_get lv 2 = some (.int (nI ba))) (q3 : sm_get lv 3 = some (.int (nI nn))) (q4 : sm_get lv 4 = some (.int (nI io))) (q5 : sm_get lv 5 = some (.int (nI mk))) (q6 : sm_get lv 6 = some (.ref f0)) (q7 : sm_get lv 7 = some (.int (nI all))) (q8 : sm_get lv 8 = some (.int (nI lo))) (q9 : sm_get lv 9 = some (.int (nI fi))) (q10 : sm_get lv 10 = some (.ref r0)) (q11 : sm_get lv 11 = some (.int (nI ni))) (mba : ba < 2 ^ 20) (mnn : nn < 2 ^ 20) (mio : io < 2 ^ 20) (mmk : mk < 2 ^ 20) (mall : all < 2 ^ 20) (mlo : lo < 2 ^ 20) (mfi : fi < 2 ^ 20) (mni : ni < 2 ^ 20) (af0 : 108 ≤ f0) (ar0 : 108 ≤ r0) (b1 : lo ≤ ni) (c1 : Ans (d + 8) 358 [.ref r0, .int (nI 0), .int (nI 3), .long ((nI io).toInt64), .long 0] S none S1) (hz1 : (sS S)[r0 - 108]? = some (13, zr0)) (hB : ∀ lv1 : sm_L, sm_get lv1 0 = some (.ref 61) → sm_get lv1 2 = some (.int (nI ba)) → sm_get lv1 3 = some (.int (nI nn)) → sm_get lv1 5 = some (.int (nI mk)) → sm_get lv1 6 = some (.ref f0) → sm_get lv1 7 = some (.int (nI all)) → sm_get lv1 9 = some (.int (nI fi)) → sm_get lv1 10 = some (.ref r0) → sm_get lv1 11 = some (.int (nI 0)) → Bod (d + 8) 396 171 lv1 [] (S1) v Sf) : Bod (d + 8) 396 131 lv [] S v Sf := by
  refine Bod.ildG dc_396_131 (by repeat (first | exact q11 | exact sm_get_p1 | exact sm_get_p2e | refine sm_get_p1m (by decide) (by decide) ?_ | refine sm_get_p1n (by decide) rfl ?_ | refine sm_get_p2n (by decide) (by decide) rfl ?_ | refine sm_get_p2m (by decide) (by decide) (by decide) ?_)) ?_
  refine Bod.ildG dc_396_133 (by repeat (first | exact q8 | exact sm_get_p1 | exact sm_get_p2e | refine sm_get_p1m (by decide) (by decide) ?_ | refine sm_get_p1n (by decide) rfl ?_ | refine sm_get_p2n (by decide) (by decide) rfl ?_ | refine sm_get_p2m (by decide) (by decide) (by decide) ?_)) ?_
  refine Bod.icT dc_396_135 rfl (k2_ge_T ni lo rfl rfl (by omega) (by omega)) ?_
  refine Bod.ildG dc_396_152 (by repeat (first | exact q4 | exact sm_get_p1 | exact sm_get_p2e | refine sm_get_p1m (by decide) (by decide) ?_ | refine sm_get_p1n (by decide) rfl ?_ | refine sm_get_p2n (by decide) (by decide) rfl ?_ | refine sm_get_p2m (by decide) (by decide) (by decide) ?_)) ?_
  refine Bod.ifF dc_396_154 rfl (k1_lt_F io rfl (by omega)) ?_
  refine Bod.aldG dc_396_157 (by repeat (first | exact q10 | exact sm_get_p1 | exact sm_get_p2e | refine sm_get_p1m (by decide) (by decide) ?_ | refine sm_get_p1n (by decide) rfl ?_ | refine sm_get_p2n (by decide) (by decide) rfl ?_ | refine sm_get_p2m (by decide) (by decide) (by decide) ?_)) ?_
  refine Bod.ic 0 (by decide) dc_396_159 ?_
  refine Bod.ic 3 (by decide) dc_396_160 ?_
  refine Bod.ildG dc_396_161 (by repeat (first | exact q4 | exact sm_get_p1 | exact sm_get_p2e | refine sm_get_p1m (by decide) (by decide) ?_ | refine sm_get_p1n (by decide) rfl ?_ | refine sm_get_p2n (by decide) (by decide) rfl ?_ | refine sm_get_p2m (by decide) (by decide) (by decide) ?_)) ?_
  refine Bod.go dc_396_163 rfl ?_
  refine Bod.go dc_396_164 rfl ?_
  refine Bod.virt (r := []) dc_396_165 kr_396_699 ⟨Or.inl rfl, ow_358, cl_13⟩ (by rw [np_358]; rfl) (by rw [np_358]; rfl) (ob_of (mk_thing ar0 (by first | exact hz1 | (simp only [rIS, rJS, rAS, rLS, rVS, rQS, rS_hold]; exact hz1)))) (Nat.le_of_ble_eq_true rfl) (c1  ) ?_
  show Bod _ _ _ _ [] _ _ _
  refine Bod.ic 0 (by decide) dc_396_168 ?_
  refine Bod.ist dc_396_169 (by rw [ml_396]; exact Nat.le_of_ble_eq_true rfl) ?_
  exact hB _ (by repeat (first | exact q0 | exact sm_get_p1 | exact sm_get_p2e | refine sm_get_p1m (by decide) (by decide) ?_ | refine sm_get_p1n (by decide) rfl ?_ | refine sm_get_p2n (by decide) (by decide) rfl ?_ | refine sm_get_p2m (by decide) (by decide) (by decide) ?_)) (by repeat (first | exact q2 | exact sm_get_p1 | exact sm_get_p2e | refine sm_get_p1m (by decide) (by decide) ?_ | refine sm_get_p1n (by decide) rfl ?_ | refine sm_get_p2n (by decide) (by decide) rfl ?_ | refine sm_get_p2m (by decide) (by decide) (by decide) ?_)) (by repeat (first | exact q3 | exact sm_get_p1 | exact sm_get_p2e | refine sm_get_p1m (by decide) (by decide) ?_ | refine sm_get_p1n (by decide) rfl ?_ | refine sm_get_p2n (by decide) (by decide) rfl ?_ | refine sm_get_p2m (by decide) (by decide) (by decide) ?_)) (by repeat (first | exact q5 | exact sm_get_p1 | exact sm_get_p2e | refine sm_get_p1m (by decide) (by decide) ?_ | refine sm_get_p1n (by decide) rfl ?_ | refine sm_get_p2n (by decide) (by decide) rfl ?_ | refine sm_get_p2m (by decide) (by decide) (by decide) ?_)) (by repeat (first | exact q6 | exact sm_get_p1 | exact sm_get_p2e | refine sm_get_p1m (by decide) (by decide) ?_ | refine sm_get_p1n (by decide) rfl ?_ | refine sm_get_p2n (by decide) (by decide) rfl ?_ | refine sm_get_p2m (by decide) (by decide) (by decide) ?_)) (by repeat (first | exact q7 | exact sm_get_p1 | exact sm_get_p2e | refine sm_get_p1m (by decide) (by decide) ?_ | refine sm_get_p1n (by decide) rfl ?_ | refine sm_get_p2n (by decide) (by decide) rfl ?_ | refine sm_get_p2m (by decide) (by decide) (by decide) ?_)) (by repeat (first | exact q9 | exact sm_get_p1 | exact sm_get_p2e | refine sm_get_p1m (by decide) (by decide) ?_ | refine sm_get_p1n (by decide) rfl ?_ | refine sm_get_p2n (by decide) (by decide) rfl ?_ | refine sm_get_p2m (by decide) (by decide) (by decide) ?_)) (by repeat (first | exact q10 | exact sm_get_p1 | exact sm_get_p2e | refine sm_get_p1m (by decide) (by decide) ?_ | refine sm_get_p1n (by decide) rfl ?_ | refine sm_get_p2n (by decide) (by decide) rfl ?_ | refine sm_get_p2m (by decide) (by decide) (by decide) ?_)) (by repeat (first | exact q0 | exact sm_get_p1 | exact sm_get_p2e | refine sm_get_p1m (by decide) (by decide) ?_ | refine sm_get_p1n (by decide) rfl ?_ | refine sm_get_p2n (by decide) (by decide) rfl ?_ | refine sm_get_p2m (by decide) (by decide) (by decide) ?_))
theorem rBgAI_2 {d : Nat} {S Sf : cS} {v : Option Value} {lv : sm_L} {f0 : Nat} {zf0 : Nat} {r0 : Nat} {zr0 : Nat} {ba : Nat} {nn : Nat} {io : Nat} {mk : Nat} {all : Nat} {lo : Nat} {fi : Nat} {ni : Nat} {S1 : cS} (q0 : sm_get lv 0 = some (.ref 61)) (q2 : sm_get lv 2 = some (.int (nI ba))) (q3 : sm_get lv 3 = some (.int (nI nn))) (q4 : sm_get lv 4 = some (.int (nI io))) (q5 : sm_get lv 5 = some (.int (nI mk))) (q6 : sm_get lv 6 = some (.ref f0)) (q7 : sm_get lv 7 = some (.int (nI all))) (q8 : sm_get lv 8 = some (.int (nI lo))) (q9 : sm_get lv 9 = some (.int (nI fi))) (q10 : sm_get lv 10 = some (.ref r0)) (q11 : sm_get lv 11 = some (.int (nI ni))) (mba : ba < 2 ^ 20) (mnn : nn < 2 ^ 20) (mio : io < 2 ^ 20) (mmk : mk < 2 ^ 20) (mall : all < 2 ^ 20) (mlo : lo < 2 ^ 20) (mfi : fi < 2 ^ 20) (mni : ni < 2 ^ 20) (af0 : 108 ≤ f0) (ar0 : 108 ≤ r0) (b1 : ni < lo) (c1 : Ans (d + 8) 375 [.ref r0, .int (Int32.ofInt (-1)), .long 0, .long 0] S none S1) (hz1 : (sS S)[r0 - 108]? = some (13, zr0)) (hB : ∀ lv1 : sm_L, sm_get lv1 0 = some (.ref 61) → sm_get lv1 2 = some (.int (nI ba)) → sm_get lv1 3 = some (.int (nI nn)) → sm_get lv1 4 = some (.int (nI io)) → sm_get lv1 5 = some (.int (nI mk)) → sm_get lv1 6 = some (.ref f0) → sm_get lv1 7 = some (.int (nI all)) → sm_get lv1 8 = some (.int (nI lo)) → sm_get lv1 9 = some (.int (nI fi)) → sm_get lv1 10 = some (.ref r0) → sm_get lv1 11 = some (.int (nI (ni + 1))) → Bod (d + 8) 396 131 lv1 [] (S1) v Sf) : Bod (d + 8) 396 131 lv [] S v Sf := by
  refine Bod.ildG dc_396_131 (by repeat (first | exact q11 | exact sm_get_p1 | exact sm_get_p2e | refine sm_get_p1m (by decide) (by decide) ?_ | refine sm_get_p1n (by decide) rfl ?_ | refine sm_get_p2n (by decide) (by decide) rfl ?_ | refine sm_get_p2m (by decide) (by decide) (by decide) ?_)) ?_
  refine Bod.ildG dc_396_133 (by repeat (first | exact q8 | exact sm_get_p1 | exact sm_get_p2e | refine sm_get_p1m (by decide) (by decide) ?_ | refine sm_get_p1n (by decide) rfl ?_ | refine sm_get_p2n (by decide) (by decide) rfl ?_ | refine sm_get_p2m (by decide) (by decide) (by decide) ?_)) ?_
  refine Bod.icF dc_396_135 rfl (k2_ge_F ni lo rfl rfl (by omega) (by omega)) ?_
  refine Bod.aldG dc_396_138 (by repeat (first | exact q10 | exact sm_get_p1 | exact sm_get_p2e | refine sm_get_p1m (by decide) (by decide) ?_ | refine sm_get_p1n (by decide) rfl ?_ | refine sm_get_p2n (by decide) (by decide) rfl ?_ | refine sm_get_p2m (by decide) (by decide) (by decide) ?_)) ?_
  refine Bod.go dc_396_140 rfl ?_
  refine Bod.go dc_396_141 rfl ?_
  refine Bod.go dc_396_142 rfl ?_
  refine Bod.virt (r := []) dc_396_143 kr_396_759 ⟨Or.inl rfl, ow_375, cl_13⟩ (by rw [np_375]; rfl) (by rw [np_375]; rfl) (ob_of (mk_thing ar0 (by first | exact hz1 | (simp only [rIS, rJS, rAS, rLS, rVS, rQS, rS_hold]; exact hz1)))) (Nat.le_of_ble_eq_true rfl) (c1  ) ?_
  show Bod _ _ _ _ [] _ _ _
  refine Bod.incN (ni + 1) (by rw [kc_1, nI_add]) dc_396_146 (by rw [ml_396]; exact Nat.le_of_ble_eq_true rfl) (by repeat (first | exact q11 | exact sm_get_p1 | exact sm_get_p2e | refine sm_get_p1m (by decide) (by decide) ?_ | refine sm_get_p1n (by decide) rfl ?_ | refine sm_get_p2n (by decide) (by decide) rfl ?_ | refine sm_get_p2m (by decide) (by decide) (by decide) ?_)) ?_
  refine Bod.go dc_396_149 rfl ?_
  exact hB _ (by repeat (first | exact q0 | exact sm_get_p1 | exact sm_get_p2e | refine sm_get_p1m (by decide) (by decide) ?_ | refine sm_get_p1n (by decide) rfl ?_ | refine sm_get_p2n (by decide) (by decide) rfl ?_ | refine sm_get_p2m (by decide) (by decide) (by decide) ?_)) (by repeat (first | exact q2 | exact sm_get_p1 | exact sm_get_p2e | refine sm_get_p1m (by decide) (by decide) ?_ | refine sm_get_p1n (by decide) rfl ?_ | refine sm_get_p2n (by decide) (by decide) rfl ?_ | refine sm_get_p2m (by decide) (by decide) (by decide) ?_)) (by repeat (first | exact q3 | exact sm_get_p1 | exact sm_get_p2e | refine sm_get_p1m (by decide) (by decide) ?_ | refine sm_get_p1n (by decide) rfl ?_ | refine sm_get_p2n (by decide) (by decide) rfl ?_ | refine sm_get_p2m (by decide) (by decide) (by decide) ?_)) (by repeat (first | exact q4 | exact sm_get_p1 | exact sm_get_p2e | refine sm_get_p1m (by decide) (by decide) ?_ | refine sm_get_p1n (by decide) rfl ?_ | refine sm_get_p2n (by decide) (by decide) rfl ?_ | refine sm_get_p2m (by decide) (by decide) (by decide) ?_)) (by repeat (first | exact q5 | exact sm_get_p1 | exact sm_get_p2e | refine sm_get_p1m (by decide) (by decide) ?_ | refine sm_get_p1n (by decide) rfl ?_ | refine sm_get_p2n (by decide) (by decide) rfl ?_ | refine sm_get_p2m (by decide) (by decide) (by decide) ?_)) (by repeat (first | exact q6 | exact sm_get_p1 | exact sm_get_p2e | refine sm_get_p1m (by decide) (by decide) ?_ | refine sm_get_p1n (by decide) rfl ?_ | refine sm_get_p2n (by decide) (by decide) rfl ?_ | refine sm_get_p2m (by decide) (by decide) (by decide) ?_)) (by repeat (first | exact q7 | exact sm_get_p1 | exact sm_get_p2e | refine sm_get_p1m (by decide) (by decide) ?_ | refine sm_get_p1n (by decide) rfl ?_ | refine sm_get_p2n (by decide) (by decide) rfl ?_ | refine sm_get_p2m (by decide) (by decide) (by decide) ?_)) (by repeat (first | exact q8 | exact sm_get_p1 | exact sm_get_p2e | refine sm_get_p1m (by decide) (by decide) ?_ | refine sm_get_p1n (by decide) rfl ?_ | refine sm_get_p2n (by decide) (by decide) rfl ?_ | refine sm_get_p2m (by decide) (by decide) (by decide) ?_)) (by repeat (first | exact q9 | exact sm_get_p1 | exact sm_get_p2e | refine sm_get_p1m (by decide) (by decide) ?_ | refine sm_get_p1n (by decide) rfl ?_ | refine sm_get_p2n (by decide) (by decide) rfl ?_ | refine sm_get_p2m (by decide) (by decide) (by decide) ?_)) (by repeat (first | exact q10 | exact sm_get_p1 | exact sm_get_p2e | refine sm_get_p1m (by decide) (by decide) ?_ | refine sm_get_p1n (by decide) rfl ?_ | refine sm_get_p2n (by decide) (by decide) rfl ?_ | refine sm_get_p2m (by decide) (by decide) (by decide) ?_)) (by repeat (first | exact q0 | exact sm_get_p1 | exact sm_get_p2e | refine sm_get_p1m (by decide) (by decide) ?_ | refine sm_get_p1n (by decide) rfl ?_ | refine sm_get_p2n (by decide) (by decide) rfl ?_ | refine sm_get_p2m (by decide) (by decide) (by decide) ?_))
theorem rBgB_1 {d : Nat} {S : cS} {lv : sm_L} {f0 : Nat} {zf0 : Nat} {r0 : Nat} {zr0 : Nat} {ba : Nat} {nn : Nat} {mk : Nat} {all : Nat} {fi : Nat} {ni : Nat} {t : Nat} {m : Nat} {zm : Nat} {r : Nat} {N : Nat} {fd9 : Nat} {e : Nat} {S1 : cS} (q0 : sm_get lv 0 = some (.ref 61)) (q2 : sm_get lv 2 = some (.int (nI ba))) (q3 : sm_get lv 3 = some (.int (nI nn))) (q5 : sm_get lv 5 = some (.int (nI mk))) (q6 : sm_get lv 6 = some (.ref f0)) (q7 : sm_get lv 7 = some (.int (nI all))) (q9 : sm_get lv 9 = some (.int (nI fi))) (q10 : sm_get lv 10 = some (.ref r0)) (q11 : sm_get lv 11 = some (.int (nI ni))) (mba : ba < 2 ^ 20) (mnn : nn < 2 ^ 20) (mmk : mk < 2 ^ 20) (mall : all < 2 ^ 20) (mfi : fi < 2 ^ 20) (mni : ni < 2 ^ 20) (af0 : 108 ≤ f0) (ar0 : 108 ≤ r0) (b1 : nn ≤ ni) (ht : sI S 6151 = nI t) (mt : t < 20481) (b2 : nn ≤ t) (hz1 : (sS S)[f0 - 108]? = some (13, zf0)) (am : 108 ≤ m) (hv1 : sV S (100 * f0 + 8) = .ref m) (hz2 : (sS S)[m - 108]? = some (12, zm)) (hv2 : sV S (100 * m + 8) = .ref r) (hg2 : isK S r 0 N) (mN : N < 2 ^ 20) (hfd9 : sI (wI 6151 (nI (t - nn)) S) (100 * f0 + 9) = nI fd9) (mfd9 : fd9 < 2 ^ 20) (b3 : fd9 < N) (he : sA (wI 6151 (nI (t - nn)) S) r fd9 = nI e) (me : e < 2 ^ 20) (c1 : Ans (d + 8) 349 [.ref 61, .ref m, .int (nI e), .int (nI fi), .int (nI ba), .int (nI mk)] (wI 6151 (nI (t - nn)) S) none S1) : Bod (d + 8) 396 171 lv [] S (some (.int 1)) (S1) := by
  refine Bod.ildG dc_396_171 (by repeat (first | exact q11 | exact sm_get_p1 | exact sm_get_p2e | refine sm_get_p1m (by decide) (by decide) ?_ | refine sm_get_p1n (by decide) rfl ?_ | refine sm_get_p2n (by decide) (by decide) rfl ?_ | refine sm_get_p2m (by decide) (by decide) (by decide) ?_)) ?_
  refine Bod.ildnG dc_396_173 (by repeat (first | exact q3 | exact sm_get_p1 | exact sm_get_p2e | refine sm_get_p1m (by decide) (by decide) ?_ | refine sm_get_p1n (by decide) rfl ?_ | refine sm_get_p2n (by decide) (by decide) rfl ?_ | refine sm_get_p2m (by decide) (by decide) (by decide) ?_)) ?_
  refine Bod.icT dc_396_174 rfl (k2_ge_T ni nn rfl rfl (by omega) (by omega)) ?_
  refine Bod.aldnG dc_396_237 (by repeat (first | exact q0 | exact sm_get_p1 | exact sm_get_p2e | refine sm_get_p1m (by decide) (by decide) ?_ | refine sm_get_p1n (by decide) rfl ?_ | refine sm_get_p2n (by decide) (by decide) rfl ?_ | refine sm_get_p2m (by decide) (by decide) (by decide) ?_)) ?_
  refine Bod.go dc_396_238 rfl ?_
  refine Bod.get dc_396_239 fr_396_493 (mk_61 _) rfl ?_
  refine Bod.eqI (nI t) (by first | assumption | rfl | exact congrArg nI (by omega) | (simp (disch := omega) only [rIn, rIe, rA, rIA, rLA, rJA, rVI, rQI, rVA, rQA, upd_at,  rAI, rLI, rJI, nI_add, pk_sub, kc_0, kc_1, kc_2, kc_3, kc_4, kc_5, reduceIte, Nat.reduceEqDiff, Nat.add_zero, rI_hold, rI_hold, rL_hold, ht]; done)) ?_
  refine Bod.ildnG dc_396_242 (by repeat (first | exact q3 | exact sm_get_p1 | exact sm_get_p2e | refine sm_get_p1m (by decide) (by decide) ?_ | refine sm_get_p1n (by decide) rfl ?_ | refine sm_get_p2n (by decide) (by decide) rfl ?_ | refine sm_get_p2m (by decide) (by decide) (by decide) ?_)) ?_
  refine Bod.subN (t - nn) (by omega) (by omega) dc_396_243 ?_
  refine Bod.put dc_396_244 fr_396_493 (mk_61 _) (Nat.le_of_ble_eq_true rfl) pf_14_51 (st_6151 _ _) (mu_I _ _ _) ?_
  refine Bod.aldnG dc_396_247 (by repeat (first | exact q0 | exact sm_get_p1 | exact sm_get_p2e | refine sm_get_p1m (by decide) (by decide) ?_ | refine sm_get_p1n (by decide) rfl ?_ | refine sm_get_p2n (by decide) (by decide) rfl ?_ | refine sm_get_p2m (by decide) (by decide) (by decide) ?_)) ?_
  refine Bod.aldG dc_396_248 (by repeat (first | exact q6 | exact sm_get_p1 | exact sm_get_p2e | refine sm_get_p1m (by decide) (by decide) ?_ | refine sm_get_p1n (by decide) rfl ?_ | refine sm_get_p2n (by decide) (by decide) rfl ?_ | refine sm_get_p2m (by decide) (by decide) (by decide) ?_)) ?_
  refine Bod.get dc_396_250 fr_396_533 (mk_thing af0 (by first | exact hz1 | (simp only [rIS, rJS, rAS, rLS, rVS, rQS, rS_hold]; exact hz1))) rfl ?_
  refine Bod.eqV (.ref m) (by first | exact hv1 | (simp only [rIV, rJV, rAV, rLV, rQV, rV, reduceIte, Nat.reduceEqDiff]; exact hv1)) ?_
  refine Bod.aldG dc_396_253 (by repeat (first | exact q6 | exact sm_get_p1 | exact sm_get_p2e | refine sm_get_p1m (by decide) (by decide) ?_ | refine sm_get_p1n (by decide) rfl ?_ | refine sm_get_p2n (by decide) (by decide) rfl ?_ | refine sm_get_p2m (by decide) (by decide) (by decide) ?_)) ?_
  refine Bod.get dc_396_255 fr_396_533 (mk_thing af0 (by first | exact hz1 | (simp only [rIS, rJS, rAS, rLS, rVS, rQS, rS_hold]; exact hz1))) rfl ?_
  refine Bod.eqV (.ref m) (by first | exact hv1 | (simp only [rIV, rJV, rAV, rLV, rQV, rV, reduceIte, Nat.reduceEqDiff]; exact hv1)) ?_
  refine Bod.get dc_396_258 fr_396_370 (mk_code am (by first | exact hz2 | (simp only [rIS, rJS, rAS, rLS, rVS, rQS, rS_hold]; exact hz2))) rfl ?_
  refine Bod.eqV (.ref r) (by first | exact hv2 | (simp only [rIV, rJV, rAV, rLV, rQV, rV, reduceIte, Nat.reduceEqDiff]; exact hv2)) ?_
  refine Bod.aldG dc_396_261 (by repeat (first | exact q6 | exact sm_get_p1 | exact sm_get_p2e | refine sm_get_p1m (by decide) (by decide) ?_ | refine sm_get_p1n (by decide) rfl ?_ | refine sm_get_p2n (by decide) (by decide) rfl ?_ | refine sm_get_p2m (by decide) (by decide) (by decide) ?_)) ?_
  refine Bod.get dc_396_263 fr_396_689 (mk_thing af0 (by first | exact hz1 | (simp only [rIS, rJS, rAS, rLS, rVS, rQS, rS_hold]; exact hz1))) rfl ?_
  refine Bod.eqI (nI fd9) (by first | assumption | (simp (disch := omega) only [rIn, rIe, rA, rIA, rLA, rJA, rVI, rQI, rVA, rQA, upd_at,  rAI, rLI, rJI, nI_add, pk_sub, kc_0, kc_1, kc_2, kc_3, kc_4, kc_5, reduceIte, Nat.reduceEqDiff, Nat.add_zero, rI_hold, rI_hold, rL_hold, ht, hfd9]; done) | (simp (disch := omega) only [rIn, rIe, rA, rIA, rLA, rJA, rVI, rQI, rVA, rQA, upd_at,  rAI, rLI, rJI, nI_add, pk_sub, kc_0, kc_1, kc_2, kc_3, kc_4, kc_5, reduceIte, Nat.reduceEqDiff, Nat.add_zero, rI_hold, rI_hold, rL_hold, ht, hfd9]; exact congrArg nI (by omega))) ?_
  refine Bod.ialdN (N := N) fd9 rfl (by omega) (by omega) dc_396_266 (mk_isI (by first | exact hg2 | exact isK_S (by simp only [rIS, rJS, rAS, rLS, rVS, rQS, rS_hold]) hg2)) ?_
  refine Bod.eqI (nI e) (by first | assumption | (simp (disch := omega) only [rIn, rIe, rA, rIA, rLA, rJA, rVI, rQI, rVA, rQA, upd_at,  rAI, rLI, rJI, nI_add, pk_sub, kc_0, kc_1, kc_2, kc_3, kc_4, kc_5, reduceIte, Nat.reduceEqDiff, Nat.add_zero, rI_hold, rI_hold, rL_hold, ht, hfd9, he]; done) | (simp (disch := omega) only [rIn, rIe, rA, rIA, rLA, rJA, rVI, rQI, rVA, rQA, upd_at,  rAI, rLI, rJI, nI_add, pk_sub, kc_0, kc_1, kc_2, kc_3, kc_4, kc_5, reduceIte, Nat.reduceEqDiff, Nat.add_zero, rI_hold, rI_hold, rL_hold, ht, hfd9, he]; exact congrArg nI (by omega))) ?_
  refine Bod.ildG dc_396_267 (by repeat (first | exact q9 | exact sm_get_p1 | exact sm_get_p2e | refine sm_get_p1m (by decide) (by decide) ?_ | refine sm_get_p1n (by decide) rfl ?_ | refine sm_get_p2n (by decide) (by decide) rfl ?_ | refine sm_get_p2m (by decide) (by decide) (by decide) ?_)) ?_
  refine Bod.ildnG dc_396_269 (by repeat (first | exact q2 | exact sm_get_p1 | exact sm_get_p2e | refine sm_get_p1m (by decide) (by decide) ?_ | refine sm_get_p1n (by decide) rfl ?_ | refine sm_get_p2n (by decide) (by decide) rfl ?_ | refine sm_get_p2m (by decide) (by decide) (by decide) ?_)) ?_
  refine Bod.ildG dc_396_270 (by repeat (first | exact q5 | exact sm_get_p1 | exact sm_get_p2e | refine sm_get_p1m (by decide) (by decide) ?_ | refine sm_get_p1n (by decide) rfl ?_ | refine sm_get_p2n (by decide) (by decide) rfl ?_ | refine sm_get_p2m (by decide) (by decide) (by decide) ?_)) ?_
  refine Bod.virt (r := []) dc_396_272 kr_396_564 ⟨Or.inl rfl, ow_349, cl_14⟩ (by rw [np_349]; rfl) (by rw [np_349]; rfl) (ob_of (mk_61 _)) (Nat.le_of_ble_eq_true rfl) (c1  ) ?_
  show Bod _ _ _ _ [] _ _ _
  refine Bod.ic 1 (by decide) dc_396_275 ?_
  exact Bod.retZ dc_396_276 rt_396 (Or.inr rfl)
theorem rBgB_2 {d : Nat} {S Sf : cS} {v : Option Value} {lv : sm_L} {f0 : Nat} {zf0 : Nat} {r0 : Nat} {zr0 : Nat} {ba : Nat} {nn : Nat} {mk : Nat} {all : Nat} {fi : Nat} {ni : Nat} {t : Nat} {e91 : Nat} {S1 : cS} (q0 : sm_get lv 0 = some (.ref 61)) (q2 : sm_get lv 2 = some (.int (nI ba))) (q3 : sm_get lv 3 = some (.int (nI nn))) (q5 : sm_get lv 5 = some (.int (nI mk))) (q6 : sm_get lv 6 = some (.ref f0)) (q7 : sm_get lv 7 = some (.int (nI all))) (q9 : sm_get lv 9 = some (.int (nI fi))) (q10 : sm_get lv 10 = some (.ref r0)) (q11 : sm_get lv 11 = some (.int (nI ni))) (mba : ba < 2 ^ 20) (mnn : nn < 2 ^ 20) (mmk : mk < 2 ^ 20) (mall : all < 2 ^ 20) (mfi : fi < 2 ^ 20) (mni : ni < 2 ^ 20) (af0 : 108 ≤ f0) (ar0 : 108 ≤ r0) (b1 : ni < nn) (b2 : nn ≤ all) (ht : sI S 6151 = nI t) (mt : t < 20481) (b3 : nn ≤ t) (b4 : t + ni - nn < 20480) (he91 : sA S 91 (t + ni - nn) = nI e91) (me91 : e91 < 2 ^ 20) (c1 : Ans (d + 8) 358 [.ref r0, .int (nI (all + ni - nn)), .int (nI e91), .long (sL S 92 (t + ni - nn)), .long (sL S 93 (t + ni - nn))] S none S1) (hz1 : (sS S)[r0 - 108]? = some (13, zr0)) (hB : ∀ lv1 : sm_L, sm_get lv1 0 = some (.ref 61) → sm_get lv1 2 = some (.int (nI ba)) → sm_get lv1 3 = some (.int (nI nn)) → sm_get lv1 5 = some (.int (nI mk)) → sm_get lv1 6 = some (.ref f0) → sm_get lv1 7 = some (.int (nI all)) → sm_get lv1 9 = some (.int (nI fi)) → sm_get lv1 10 = some (.ref r0) → sm_get lv1 11 = some (.int (nI (ni + 1))) → Bod (d + 8) 396 171 lv1 [] (S1) v Sf) : Bod (d + 8) 396 171 lv [] S v Sf := by
  refine Bod.ildG dc_396_171 (by repeat (first | exact q11 | exact sm_get_p1 | exact sm_get_p2e | refine sm_get_p1m (by decide) (by decide) ?_ | refine sm_get_p1n (by decide) rfl ?_ | refine sm_get_p2n (by decide) (by decide) rfl ?_ | refine sm_get_p2m (by decide) (by decide) (by decide) ?_)) ?_
  refine Bod.ildnG dc_396_173 (by repeat (first | exact q3 | exact sm_get_p1 | exact sm_get_p2e | refine sm_get_p1m (by decide) (by decide) ?_ | refine sm_get_p1n (by decide) rfl ?_ | refine sm_get_p2n (by decide) (by decide) rfl ?_ | refine sm_get_p2m (by decide) (by decide) (by decide) ?_)) ?_
  refine Bod.icF dc_396_174 rfl (k2_ge_F ni nn rfl rfl (by omega) (by omega)) ?_
  refine Bod.aldG dc_396_177 (by repeat (first | exact q10 | exact sm_get_p1 | exact sm_get_p2e | refine sm_get_p1m (by decide) (by decide) ?_ | refine sm_get_p1n (by decide) rfl ?_ | refine sm_get_p2n (by decide) (by decide) rfl ?_ | refine sm_get_p2m (by decide) (by decide) (by decide) ?_)) ?_
  refine Bod.ildG dc_396_179 (by repeat (first | exact q7 | exact sm_get_p1 | exact sm_get_p2e | refine sm_get_p1m (by decide) (by decide) ?_ | refine sm_get_p1n (by decide) rfl ?_ | refine sm_get_p2n (by decide) (by decide) rfl ?_ | refine sm_get_p2m (by decide) (by decide) (by decide) ?_)) ?_
  refine Bod.ildnG dc_396_181 (by repeat (first | exact q3 | exact sm_get_p1 | exact sm_get_p2e | refine sm_get_p1m (by decide) (by decide) ?_ | refine sm_get_p1n (by decide) rfl ?_ | refine sm_get_p2n (by decide) (by decide) rfl ?_ | refine sm_get_p2m (by decide) (by decide) (by decide) ?_)) ?_
  refine Bod.subN (all - nn) (by omega) (by omega) dc_396_182 ?_
  refine Bod.ildG dc_396_183 (by repeat (first | exact q11 | exact sm_get_p1 | exact sm_get_p2e | refine sm_get_p1m (by decide) (by decide) ?_ | refine sm_get_p1n (by decide) rfl ?_ | refine sm_get_p2n (by decide) (by decide) rfl ?_ | refine sm_get_p2m (by decide) (by decide) (by decide) ?_)) ?_
  refine Bod.addN (all + ni - nn) (by omega) dc_396_185 ?_
  refine Bod.aldnG dc_396_186 (by repeat (first | exact q0 | exact sm_get_p1 | exact sm_get_p2e | refine sm_get_p1m (by decide) (by decide) ?_ | refine sm_get_p1n (by decide) rfl ?_ | refine sm_get_p2n (by decide) (by decide) rfl ?_ | refine sm_get_p2m (by decide) (by decide) (by decide) ?_)) ?_
  refine Bod.get dc_396_187 fr_396_496 (mk_61 _) rfl ?_
  refine Bod.aldnG dc_396_190 (by repeat (first | exact q0 | exact sm_get_p1 | exact sm_get_p2e | refine sm_get_p1m (by decide) (by decide) ?_ | refine sm_get_p1n (by decide) rfl ?_ | refine sm_get_p2n (by decide) (by decide) rfl ?_ | refine sm_get_p2m (by decide) (by decide) (by decide) ?_)) ?_
  refine Bod.get dc_396_191 fr_396_493 (mk_61 _) rfl ?_
  refine Bod.eqI (nI t) (by first | assumption | rfl | exact congrArg nI (by omega) | (simp (disch := omega) only [rIn, rIe, rA, rIA, rLA, rJA, rVI, rQI, rVA, rQA, upd_at,  rAI, rLI, rJI, nI_add, pk_sub, kc_0, kc_1, kc_2, kc_3, kc_4, kc_5, reduceIte, Nat.reduceEqDiff, Nat.add_zero, rI_hold, rI_hold, rL_hold, ht]; done)) ?_
  refine Bod.ildnG dc_396_194 (by repeat (first | exact q3 | exact sm_get_p1 | exact sm_get_p2e | refine sm_get_p1m (by decide) (by decide) ?_ | refine sm_get_p1n (by decide) rfl ?_ | refine sm_get_p2n (by decide) (by decide) rfl ?_ | refine sm_get_p2m (by decide) (by decide) (by decide) ?_)) ?_
  refine Bod.subN (t - nn) (by omega) (by omega) dc_396_195 ?_
  refine Bod.ildG dc_396_196 (by repeat (first | exact q11 | exact sm_get_p1 | exact sm_get_p2e | refine sm_get_p1m (by decide) (by decide) ?_ | refine sm_get_p1n (by decide) rfl ?_ | refine sm_get_p2n (by decide) (by decide) rfl ?_ | refine sm_get_p2m (by decide) (by decide) (by decide) ?_)) ?_
  refine Bod.addN (t + ni - nn) (by omega) dc_396_198 ?_
  refine Bod.ialdN (t + ni - nn) rfl (by omega) (by omega) dc_396_199 (mk_91 _) ?_
  refine Bod.eqI (nI e91) (by first | assumption | rfl | exact congrArg nI (by omega) | (simp (disch := omega) only [rIn, rIe, rA, rIA, rLA, rJA, rVI, rQI, rVA, rQA, upd_at,  rAI, rLI, rJI, nI_add, pk_sub, kc_0, kc_1, kc_2, kc_3, kc_4, kc_5, reduceIte, Nat.reduceEqDiff, Nat.add_zero, rI_hold, rI_hold, rL_hold, ht, he91]; done)) ?_
  refine Bod.aldnG dc_396_200 (by repeat (first | exact q0 | exact sm_get_p1 | exact sm_get_p2e | refine sm_get_p1m (by decide) (by decide) ?_ | refine sm_get_p1n (by decide) rfl ?_ | refine sm_get_p2n (by decide) (by decide) rfl ?_ | refine sm_get_p2m (by decide) (by decide) (by decide) ?_)) ?_
  refine Bod.get dc_396_201 fr_396_499 (mk_61 _) rfl ?_
  refine Bod.aldnG dc_396_204 (by repeat (first | exact q0 | exact sm_get_p1 | exact sm_get_p2e | refine sm_get_p1m (by decide) (by decide) ?_ | refine sm_get_p1n (by decide) rfl ?_ | refine sm_get_p2n (by decide) (by decide) rfl ?_ | refine sm_get_p2m (by decide) (by decide) (by decide) ?_)) ?_
  refine Bod.get dc_396_205 fr_396_493 (mk_61 _) rfl ?_
  refine Bod.eqI (nI t) (by first | assumption | rfl | exact congrArg nI (by omega) | (simp (disch := omega) only [rIn, rIe, rA, rIA, rLA, rJA, rVI, rQI, rVA, rQA, upd_at,  rAI, rLI, rJI, nI_add, pk_sub, kc_0, kc_1, kc_2, kc_3, kc_4, kc_5, reduceIte, Nat.reduceEqDiff, Nat.add_zero, rI_hold, rI_hold, rL_hold, ht, he91]; done)) ?_
  refine Bod.ildnG dc_396_208 (by repeat (first | exact q3 | exact sm_get_p1 | exact sm_get_p2e | refine sm_get_p1m (by decide) (by decide) ?_ | refine sm_get_p1n (by decide) rfl ?_ | refine sm_get_p2n (by decide) (by decide) rfl ?_ | refine sm_get_p2m (by decide) (by decide) (by decide) ?_)) ?_
  refine Bod.subN (t - nn) (by omega) (by omega) dc_396_209 ?_
  refine Bod.ildG dc_396_210 (by repeat (first | exact q11 | exact sm_get_p1 | exact sm_get_p2e | refine sm_get_p1m (by decide) (by decide) ?_ | refine sm_get_p1n (by decide) rfl ?_ | refine sm_get_p2n (by decide) (by decide) rfl ?_ | refine sm_get_p2m (by decide) (by decide) (by decide) ?_)) ?_
  refine Bod.addN (t + ni - nn) (by omega) dc_396_212 ?_
  refine Bod.laldN (t + ni - nn) rfl (by omega) (by omega) dc_396_213 (mk_92 _) ?_
  refine Bod.aldnG dc_396_214 (by repeat (first | exact q0 | exact sm_get_p1 | exact sm_get_p2e | refine sm_get_p1m (by decide) (by decide) ?_ | refine sm_get_p1n (by decide) rfl ?_ | refine sm_get_p2n (by decide) (by decide) rfl ?_ | refine sm_get_p2m (by decide) (by decide) (by decide) ?_)) ?_
  refine Bod.get dc_396_215 fr_396_546 (mk_61 _) rfl ?_
  refine Bod.aldnG dc_396_218 (by repeat (first | exact q0 | exact sm_get_p1 | exact sm_get_p2e | refine sm_get_p1m (by decide) (by decide) ?_ | refine sm_get_p1n (by decide) rfl ?_ | refine sm_get_p2n (by decide) (by decide) rfl ?_ | refine sm_get_p2m (by decide) (by decide) (by decide) ?_)) ?_
  refine Bod.get dc_396_219 fr_396_493 (mk_61 _) rfl ?_
  refine Bod.eqI (nI t) (by first | assumption | rfl | exact congrArg nI (by omega) | (simp (disch := omega) only [rIn, rIe, rA, rIA, rLA, rJA, rVI, rQI, rVA, rQA, upd_at,  rAI, rLI, rJI, nI_add, pk_sub, kc_0, kc_1, kc_2, kc_3, kc_4, kc_5, reduceIte, Nat.reduceEqDiff, Nat.add_zero, rI_hold, rI_hold, rL_hold, ht, he91]; done)) ?_
  refine Bod.ildnG dc_396_222 (by repeat (first | exact q3 | exact sm_get_p1 | exact sm_get_p2e | refine sm_get_p1m (by decide) (by decide) ?_ | refine sm_get_p1n (by decide) rfl ?_ | refine sm_get_p2n (by decide) (by decide) rfl ?_ | refine sm_get_p2m (by decide) (by decide) (by decide) ?_)) ?_
  refine Bod.subN (t - nn) (by omega) (by omega) dc_396_223 ?_
  refine Bod.ildG dc_396_224 (by repeat (first | exact q11 | exact sm_get_p1 | exact sm_get_p2e | refine sm_get_p1m (by decide) (by decide) ?_ | refine sm_get_p1n (by decide) rfl ?_ | refine sm_get_p2n (by decide) (by decide) rfl ?_ | refine sm_get_p2m (by decide) (by decide) (by decide) ?_)) ?_
  refine Bod.addN (t + ni - nn) (by omega) dc_396_226 ?_
  refine Bod.laldN (t + ni - nn) rfl (by omega) (by omega) dc_396_227 (mk_93 _) ?_
  refine Bod.virt (r := []) dc_396_228 kr_396_699 ⟨Or.inl rfl, ow_358, cl_13⟩ (by rw [np_358]; rfl) (by rw [np_358]; rfl) (ob_of (mk_thing ar0 (by first | exact hz1 | (simp only [rIS, rJS, rAS, rLS, rVS, rQS, rS_hold]; exact hz1)))) (Nat.le_of_ble_eq_true rfl) (c1  ) ?_
  show Bod _ _ _ _ [] _ _ _
  refine Bod.incN (ni + 1) (by rw [kc_1, nI_add]) dc_396_231 (by rw [ml_396]; exact Nat.le_of_ble_eq_true rfl) (by repeat (first | exact q11 | exact sm_get_p1 | exact sm_get_p2e | refine sm_get_p1m (by decide) (by decide) ?_ | refine sm_get_p1n (by decide) rfl ?_ | refine sm_get_p2n (by decide) (by decide) rfl ?_ | refine sm_get_p2m (by decide) (by decide) (by decide) ?_)) ?_
  refine Bod.go dc_396_234 rfl ?_
  exact hB _ (by repeat (first | exact q0 | exact sm_get_p1 | exact sm_get_p2e | refine sm_get_p1m (by decide) (by decide) ?_ | refine sm_get_p1n (by decide) rfl ?_ | refine sm_get_p2n (by decide) (by decide) rfl ?_ | refine sm_get_p2m (by decide) (by decide) (by decide) ?_)) (by repeat (first | exact q2 | exact sm_get_p1 | exact sm_get_p2e | refine sm_get_p1m (by decide) (by decide) ?_ | refine sm_get_p1n (by decide) rfl ?_ | refine sm_get_p2n (by decide) (by decide) rfl ?_ | refine sm_get_p2m (by decide) (by decide) (by decide) ?_)) (by repeat (first | exact q3 | exact sm_get_p1 | exact sm_get_p2e | refine sm_get_p1m (by decide) (by decide) ?_ | refine sm_get_p1n (by decide) rfl ?_ | refine sm_get_p2n (by decide) (by decide) rfl ?_ | refine sm_get_p2m (by decide) (by decide) (by decide) ?_)) (by repeat (first | exact q5 | exact sm_get_p1 | exact sm_get_p2e | refine sm_get_p1m (by decide) (by decide) ?_ | refine sm_get_p1n (by decide) rfl ?_ | refine sm_get_p2n (by decide) (by decide) rfl ?_ | refine sm_get_p2m (by decide) (by decide) (by decide) ?_)) (by repeat (first | exact q6 | exact sm_get_p1 | exact sm_get_p2e | refine sm_get_p1m (by decide) (by decide) ?_ | refine sm_get_p1n (by decide) rfl ?_ | refine sm_get_p2n (by decide) (by decide) rfl ?_ | refine sm_get_p2m (by decide) (by decide) (by decide) ?_)) (by repeat (first | exact q7 | exact sm_get_p1 | exact sm_get_p2e | refine sm_get_p1m (by decide) (by decide) ?_ | refine sm_get_p1n (by decide) rfl ?_ | refine sm_get_p2n (by decide) (by decide) rfl ?_ | refine sm_get_p2m (by decide) (by decide) (by decide) ?_)) (by repeat (first | exact q9 | exact sm_get_p1 | exact sm_get_p2e | refine sm_get_p1m (by decide) (by decide) ?_ | refine sm_get_p1n (by decide) rfl ?_ | refine sm_get_p2n (by decide) (by decide) rfl ?_ | refine sm_get_p2m (by decide) (by decide) (by decide) ?_)) (by repeat (first | exact q10 | exact sm_get_p1 | exact sm_get_p2e | refine sm_get_p1m (by decide) (by decide) ?_ | refine sm_get_p1n (by decide) rfl ?_ | refine sm_get_p2n (by decide) (by decide) rfl ?_ | refine sm_get_p2m (by decide) (by decide) (by decide) ?_)) (by repeat (first | exact q0 | exact sm_get_p1 | exact sm_get_p2e | refine sm_get_p1m (by decide) (by decide) ?_ | refine sm_get_p1n (by decide) rfl ?_ | refine sm_get_p2n (by decide) (by decide) rfl ?_ | refine sm_get_p2m (by decide) (by decide) (by decide) ?_))
theorem rMk_1 {d : Nat} {S Sf : cS} {v : Option Value} {ba : Nat} {nn : Nat} {S1 : cS} {a : Nat} {g : Nat} {zg : Nat} {o : Nat} {t : Nat} (mba : ba < 2 ^ 20) (mnn : nn < 2 ^ 20) (ma : a < 1500) (c1 : Ans (d + 8) 364 [.ref 61, .int (nI 5)] S (some (.int (nI a))) S1) (ag : 108 ≤ g) (hq2 : sQ S1 86 a = some g) (b1 : ba < 20480) (ho : (sL S1 92 ba).toInt32 = nI o) (mo : o < 1500) (hz1 : (sS S1)[g - 108]? = some (13, zg)) (ht : sI (wI (100 * g + 11) (nI o) S1) 6151 = nI t) (mt : t < 20481) (hB : ∀ lv1 : sm_L, sm_get lv1 0 = some (.ref 61) → sm_get lv1 1 = some (.int (nI ba)) → sm_get lv1 2 = some (.int (nI nn)) → sm_get lv1 3 = some (.int (nI a)) → sm_get lv1 4 = some (.int (nI t)) → Bod (d + 8) 397 34 lv1 [] (wI (100 * g + 11) (nI o) S1) v Sf) : Bod (d + 8) 397 0 [(0, .ref 61), (1, .int (nI ba)), (2, .int (nI nn))] [] S v Sf := by
  refine Bod.go dc_397_0 rfl ?_
  refine Bod.ic 5 (by decide) dc_397_1 ?_
  refine Bod.virt (r := []) dc_397_2 kr_397_686 ⟨Or.inl rfl, ow_364, cl_14⟩ (by rw [np_364]; rfl) (by rw [np_364]; rfl) (ob_of (mk_61 _)) (Nat.le_of_ble_eq_true rfl) (c1  ) ?_
  show Bod _ _ _ _ [_] _ _ _
  refine Bod.istn dc_397_5 (by rw [ml_397]; exact Nat.le_of_ble_eq_true rfl) ?_
  refine Bod.go dc_397_6 rfl ?_
  refine Bod.ifT dc_397_7 rfl (k1_ge_T a rfl (by omega)) ?_
  refine Bod.go dc_397_12 rfl ?_
  refine Bod.get dc_397_13 fr_397_485 (mk_61 _) rfl ?_
  refine Bod.go dc_397_16 rfl ?_
  refine Bod.aaldR (N := 1500) (b := g) a rfl (by omega) (by omega) (by first | exact hq2 | (simp only [rIQ, rJQ, rAQ, rLQ, rVQ, rQ_holdE]; exact hq2)) dc_397_17 (mk_86 _) ht_5 ?_
  refine Bod.go dc_397_18 rfl ?_
  refine Bod.get dc_397_19 fr_397_499 (mk_61 _) rfl ?_
  refine Bod.go dc_397_22 rfl ?_
  refine Bod.laldN ba rfl (by omega) (by omega) dc_397_23 (mk_92 _) ?_
  refine Bod.go dc_397_24 rfl ?_
  refine Bod.eqI (nI o) (by first | exact ho | (simp only [rIn, rIe, rA, rIA, rLA, rJA, rVI, rQI, rVA, rQA, upd_at,  rAI, rLI, rJI, nI_add, pk_sub, kc_0, kc_1, kc_2, kc_3, kc_4, kc_5, reduceIte, Nat.reduceEqDiff, Nat.add_zero, rI_hold, rI_hold, rL_hold]; exact ho)) ?_
  refine Bod.put dc_397_25 fr_397_472 (mk_thing ag (by first | exact hz1 | (simp only [rIS, rJS, rAS, rLS, rVS, rQS, rS_hold]; exact hz1))) (Nat.le_of_ble_eq_true rfl) pf_13_11 (st_thing_11 ag (by first | exact hz1 | (simp only [rIS, rJS, rAS, rLS, rVS, rQS, rS_hold]; exact hz1))) (mu_I _ _ _) ?_
  refine Bod.go dc_397_28 rfl ?_
  refine Bod.get dc_397_29 fr_397_493 (mk_61 _) rfl ?_
  refine Bod.eqI (nI t) (by first | assumption | (simp (disch := omega) only [rIn, rIe, rA, rIA, rLA, rJA, rVI, rQI, rVA, rQA, upd_at,  rAI, rLI, rJI, nI_add, pk_sub, kc_0, kc_1, kc_2, kc_3, kc_4, kc_5, reduceIte, Nat.reduceEqDiff, Nat.add_zero, rI_hold, rI_hold, rL_hold, ht]; done) | (simp (disch := omega) only [rIn, rIe, rA, rIA, rLA, rJA, rVI, rQI, rVA, rQA, upd_at,  rAI, rLI, rJI, nI_add, pk_sub, kc_0, kc_1, kc_2, kc_3, kc_4, kc_5, reduceIte, Nat.reduceEqDiff, Nat.add_zero, rI_hold, rI_hold, rL_hold, ht]; exact congrArg nI (by omega))) ?_
  refine Bod.ist dc_397_32 (by rw [ml_397]; exact Nat.le_of_ble_eq_true rfl) ?_
  exact hB _ (by first | rfl | exact (by repeat (first | exact rfl | exact sm_get_p1 | exact sm_get_p2e | refine sm_get_p1m (by decide) (by decide) ?_ | refine sm_get_p1n (by decide) rfl ?_ | refine sm_get_p2n (by decide) (by decide) rfl ?_ | refine sm_get_p2m (by decide) (by decide) (by decide) ?_))) (by first | rfl | exact (by repeat (first | exact rfl | exact sm_get_p1 | exact sm_get_p2e | refine sm_get_p1m (by decide) (by decide) ?_ | refine sm_get_p1n (by decide) rfl ?_ | refine sm_get_p2n (by decide) (by decide) rfl ?_ | refine sm_get_p2m (by decide) (by decide) (by decide) ?_))) (by first | rfl | exact (by repeat (first | exact rfl | exact sm_get_p1 | exact sm_get_p2e | refine sm_get_p1m (by decide) (by decide) ?_ | refine sm_get_p1n (by decide) rfl ?_ | refine sm_get_p2n (by decide) (by decide) rfl ?_ | refine sm_get_p2m (by decide) (by decide) (by decide) ?_))) (by first | rfl | exact (by repeat (first | exact rfl | exact sm_get_p1 | exact sm_get_p2e | refine sm_get_p1m (by decide) (by decide) ?_ | refine sm_get_p1n (by decide) rfl ?_ | refine sm_get_p2n (by decide) (by decide) rfl ?_ | refine sm_get_p2m (by decide) (by decide) (by decide) ?_))) (by first | rfl | exact (by repeat (first | exact rfl | exact sm_get_p1 | exact sm_get_p2e | refine sm_get_p1m (by decide) (by decide) ?_ | refine sm_get_p1n (by decide) rfl ?_ | refine sm_get_p2n (by decide) (by decide) rfl ?_ | refine sm_get_p2m (by decide) (by decide) (by decide) ?_)))
theorem rMk_2 {d : Nat} {S : cS} {ba : Nat} {nn : Nat} {S1 : cS} (mba : ba < 2 ^ 20) (mnn : nn < 2 ^ 20) (c1 : Ans (d + 8) 364 [.ref 61, .int (nI 5)] S (some (.int (Int32.ofInt (-1)))) S1) : Bod (d + 8) 397 0 [(0, .ref 61), (1, .int (nI ba)), (2, .int (nI nn))] [] S (some (.int 0)) (S1) := by
  refine Bod.go dc_397_0 rfl ?_
  refine Bod.ic 5 (by decide) dc_397_1 ?_
  refine Bod.virt (r := []) dc_397_2 kr_397_686 ⟨Or.inl rfl, ow_364, cl_14⟩ (by rw [np_364]; rfl) (by rw [np_364]; rfl) (ob_of (mk_61 _)) (Nat.le_of_ble_eq_true rfl) (c1  ) ?_
  show Bod _ _ _ _ [_] _ _ _
  refine Bod.istn dc_397_5 (by rw [ml_397]; exact Nat.le_of_ble_eq_true rfl) ?_
  refine Bod.go dc_397_6 rfl ?_
  refine Bod.ifF dc_397_7 rfl (by decide) ?_
  refine Bod.ic 0 (by decide) dc_397_10 ?_
  exact Bod.retZ dc_397_11 rt_397 (Or.inl rfl)
theorem rMkA_1 {d : Nat} {S Sf : cS} {v : Option Value} {lv : sm_L} {ba : Nat} {nn : Nat} {io : Nat} {ni : Nat} (q0 : sm_get lv 0 = some (.ref 61)) (q1 : sm_get lv 1 = some (.int (nI ba))) (q2 : sm_get lv 2 = some (.int (nI nn))) (q3 : sm_get lv 3 = some (.int (nI io))) (q4 : sm_get lv 4 = some (.int (nI (ni + 1)))) (mba : ba < 2 ^ 20) (mnn : nn < 2 ^ 20) (mio : io < 2 ^ 20) (mni : ni < 2 ^ 20) (b1 : (ni + 1) ≤ (ba + 1)) (hB : ∀ lv1 : sm_L, sm_get lv1 0 = some (.ref 61) → sm_get lv1 1 = some (.int (nI ba)) → sm_get lv1 2 = some (.int (nI nn)) → sm_get lv1 3 = some (.int (nI io)) → Bod (d + 8) 397 58 lv1 [] (S) v Sf) : Bod (d + 8) 397 34 lv [] S v Sf := by
  refine Bod.ildG dc_397_34 (by repeat (first | exact q4 | exact sm_get_p1 | exact sm_get_p2e | refine sm_get_p1m (by decide) (by decide) ?_ | refine sm_get_p1n (by decide) rfl ?_ | refine sm_get_p2n (by decide) (by decide) rfl ?_ | refine sm_get_p2m (by decide) (by decide) (by decide) ?_)) ?_
  refine Bod.ildnG dc_397_36 (by repeat (first | exact q1 | exact sm_get_p1 | exact sm_get_p2e | refine sm_get_p1m (by decide) (by decide) ?_ | refine sm_get_p1n (by decide) rfl ?_ | refine sm_get_p2n (by decide) (by decide) rfl ?_ | refine sm_get_p2m (by decide) (by decide) (by decide) ?_)) ?_
  refine Bod.ic 1 (by decide) dc_397_37 ?_
  refine Bod.addN (ba + 1) (by omega) dc_397_38 ?_
  refine Bod.icT dc_397_39 rfl (k2_le_T (ni + 1) (ba + 1) rfl rfl (by omega) (by omega)) ?_
  exact hB _ (by repeat (first | exact q0 | exact sm_get_p1 | exact sm_get_p2e | refine sm_get_p1m (by decide) (by decide) ?_ | refine sm_get_p1n (by decide) rfl ?_ | refine sm_get_p2n (by decide) (by decide) rfl ?_ | refine sm_get_p2m (by decide) (by decide) (by decide) ?_)) (by repeat (first | exact q1 | exact sm_get_p1 | exact sm_get_p2e | refine sm_get_p1m (by decide) (by decide) ?_ | refine sm_get_p1n (by decide) rfl ?_ | refine sm_get_p2n (by decide) (by decide) rfl ?_ | refine sm_get_p2m (by decide) (by decide) (by decide) ?_)) (by repeat (first | exact q2 | exact sm_get_p1 | exact sm_get_p2e | refine sm_get_p1m (by decide) (by decide) ?_ | refine sm_get_p1n (by decide) rfl ?_ | refine sm_get_p2n (by decide) (by decide) rfl ?_ | refine sm_get_p2m (by decide) (by decide) (by decide) ?_)) (by repeat (first | exact q3 | exact sm_get_p1 | exact sm_get_p2e | refine sm_get_p1m (by decide) (by decide) ?_ | refine sm_get_p1n (by decide) rfl ?_ | refine sm_get_p2n (by decide) (by decide) rfl ?_ | refine sm_get_p2m (by decide) (by decide) (by decide) ?_))
theorem rMkA_2 {d : Nat} {S Sf : cS} {v : Option Value} {lv : sm_L} {ba : Nat} {nn : Nat} {io : Nat} {ni : Nat} {S1 : cS} (q0 : sm_get lv 0 = some (.ref 61)) (q1 : sm_get lv 1 = some (.int (nI ba))) (q2 : sm_get lv 2 = some (.int (nI nn))) (q3 : sm_get lv 3 = some (.int (nI io))) (q4 : sm_get lv 4 = some (.int (nI (ni + 1)))) (mba : ba < 2 ^ 20) (mnn : nn < 2 ^ 20) (mio : io < 2 ^ 20) (mni : ni < 2 ^ 20) (b1 : (ba + 1) < (ni + 1)) (b2 : 1 ≤ ni + 1) (c1 : Ans (d + 8) 391 [.ref 61, .int (nI ni), .int (nI (ni + 1))] S none S1) (hB : ∀ lv1 : sm_L, sm_get lv1 0 = some (.ref 61) → sm_get lv1 1 = some (.int (nI ba)) → sm_get lv1 2 = some (.int (nI nn)) → sm_get lv1 3 = some (.int (nI io)) → sm_get lv1 4 = some (.int (nI ni)) → Bod (d + 8) 397 34 lv1 [] (S1) v Sf) : Bod (d + 8) 397 34 lv [] S v Sf := by
  refine Bod.ildG dc_397_34 (by repeat (first | exact q4 | exact sm_get_p1 | exact sm_get_p2e | refine sm_get_p1m (by decide) (by decide) ?_ | refine sm_get_p1n (by decide) rfl ?_ | refine sm_get_p2n (by decide) (by decide) rfl ?_ | refine sm_get_p2m (by decide) (by decide) (by decide) ?_)) ?_
  refine Bod.ildnG dc_397_36 (by repeat (first | exact q1 | exact sm_get_p1 | exact sm_get_p2e | refine sm_get_p1m (by decide) (by decide) ?_ | refine sm_get_p1n (by decide) rfl ?_ | refine sm_get_p2n (by decide) (by decide) rfl ?_ | refine sm_get_p2m (by decide) (by decide) (by decide) ?_)) ?_
  refine Bod.ic 1 (by decide) dc_397_37 ?_
  refine Bod.addN (ba + 1) (by omega) dc_397_38 ?_
  refine Bod.icF dc_397_39 rfl (k2_le_F (ni + 1) (ba + 1) rfl rfl (by omega) (by omega)) ?_
  refine Bod.aldnG dc_397_42 (by repeat (first | exact q0 | exact sm_get_p1 | exact sm_get_p2e | refine sm_get_p1m (by decide) (by decide) ?_ | refine sm_get_p1n (by decide) rfl ?_ | refine sm_get_p2n (by decide) (by decide) rfl ?_ | refine sm_get_p2m (by decide) (by decide) (by decide) ?_)) ?_
  refine Bod.ildG dc_397_43 (by repeat (first | exact q4 | exact sm_get_p1 | exact sm_get_p2e | refine sm_get_p1m (by decide) (by decide) ?_ | refine sm_get_p1n (by decide) rfl ?_ | refine sm_get_p2n (by decide) (by decide) rfl ?_ | refine sm_get_p2m (by decide) (by decide) (by decide) ?_)) ?_
  refine Bod.ic 1 (by decide) dc_397_45 ?_
  refine Bod.subN ni (by omega) (by omega) dc_397_46 ?_
  refine Bod.ildG dc_397_47 (by repeat (first | exact q4 | exact sm_get_p1 | exact sm_get_p2e | refine sm_get_p1m (by decide) (by decide) ?_ | refine sm_get_p1n (by decide) rfl ?_ | refine sm_get_p2n (by decide) (by decide) rfl ?_ | refine sm_get_p2m (by decide) (by decide) (by decide) ?_)) ?_
  refine Bod.virt (r := []) dc_397_49 kr_397_672 ⟨Or.inl rfl, ow_391, cl_14⟩ (by rw [np_391]; rfl) (by rw [np_391]; rfl) (ob_of (mk_61 _)) (Nat.le_of_ble_eq_true rfl) (c1  ) ?_
  show Bod _ _ _ _ [] _ _ _
  refine Bod.incN ni nI_dec dc_397_52 (by rw [ml_397]; exact Nat.le_of_ble_eq_true rfl) (by repeat (first | exact q4 | exact sm_get_p1 | exact sm_get_p2e | refine sm_get_p1m (by decide) (by decide) ?_ | refine sm_get_p1n (by decide) rfl ?_ | refine sm_get_p2n (by decide) (by decide) rfl ?_ | refine sm_get_p2m (by decide) (by decide) (by decide) ?_)) ?_
  refine Bod.go dc_397_55 rfl ?_
  exact hB _ (by repeat (first | exact q0 | exact sm_get_p1 | exact sm_get_p2e | refine sm_get_p1m (by decide) (by decide) ?_ | refine sm_get_p1n (by decide) rfl ?_ | refine sm_get_p2n (by decide) (by decide) rfl ?_ | refine sm_get_p2m (by decide) (by decide) (by decide) ?_)) (by repeat (first | exact q1 | exact sm_get_p1 | exact sm_get_p2e | refine sm_get_p1m (by decide) (by decide) ?_ | refine sm_get_p1n (by decide) rfl ?_ | refine sm_get_p2n (by decide) (by decide) rfl ?_ | refine sm_get_p2m (by decide) (by decide) (by decide) ?_)) (by repeat (first | exact q2 | exact sm_get_p1 | exact sm_get_p2e | refine sm_get_p1m (by decide) (by decide) ?_ | refine sm_get_p1n (by decide) rfl ?_ | refine sm_get_p2n (by decide) (by decide) rfl ?_ | refine sm_get_p2m (by decide) (by decide) (by decide) ?_)) (by repeat (first | exact q3 | exact sm_get_p1 | exact sm_get_p2e | refine sm_get_p1m (by decide) (by decide) ?_ | refine sm_get_p1n (by decide) rfl ?_ | refine sm_get_p2n (by decide) (by decide) rfl ?_ | refine sm_get_p2m (by decide) (by decide) (by decide) ?_)) (by repeat (first | exact q0 | exact sm_get_p1 | exact sm_get_p2e | refine sm_get_p1m (by decide) (by decide) ?_ | refine sm_get_p1n (by decide) rfl ?_ | refine sm_get_p2n (by decide) (by decide) rfl ?_ | refine sm_get_p2m (by decide) (by decide) (by decide) ?_))
theorem rMkB_1 {d : Nat} {S : cS} {lv : sm_L} {ba : Nat} {nn : Nat} {io : Nat} {t : Nat} {S1 : cS} {a : Nat} {o : Nat} {S2 : cS} {a1 : Nat} {g : Nat} {zg : Nat} {S3 : cS} {a2 : Nat} {g1 : Nat} {zg1 : Nat} {r : Nat} {N : Nat} {e : Nat} {S4 : cS} (q0 : sm_get lv 0 = some (.ref 61)) (q1 : sm_get lv 1 = some (.int (nI ba))) (q2 : sm_get lv 2 = some (.int (nI nn))) (q3 : sm_get lv 3 = some (.int (nI io))) (mba : ba < 2 ^ 20) (mnn : nn < 2 ^ 20) (mio : io < 2 ^ 20) (b1 : ba + 1 < 20480) (ht : sI (wL 92 (ba + 1) ((nI io).toInt64) (wA 91 (ba + 1) (nI 3) S)) 6151 = nI t) (mt : t < 20481) (ma : a < 2 ^ 20) (c1 : Ans (d + 8) 294 [.ref 61, .ref 105, .int (nI 0), .int (nI 4)] (wI 6151 (nI (t + 1)) (wL 92 (ba + 1) ((nI io).toInt64) (wA 91 (ba + 1) (nI 3) S))) (some (.int (nI a))) S1) (b2 : ba < 20480) (ho : (sL S1 92 ba).toInt32 = nI o) (mo : o < 1500) (ma1 : a1 < 1500) (c2 : Ans (d + 8) 398 [.ref 61, .int (nI o), .int (nI a)] S1 (some (.int (nI a1))) S2) (ag : 108 ≤ g) (hq3 : sQ S2 86 a1 = some g) (ma2 : a2 < 2 ^ 20) (c3 : Ans (d + 8) 399 [.ref g, .int (nI 0), .long ((nI a).toInt64), .long 0] S2 (some (.int (nI a2))) S3) (hz1 : (sS S2)[g - 108]? = some (13, zg)) (ag1 : 108 ≤ g1) (hq6 : sQ S3 86 a1 = some g1) (hz2 : (sS S3)[g1 - 108]? = some (13, zg1)) (hv1 : sV S3 (100 * g1 + 2) = .ref r) (hg1 : isK S3 r 0 N) (mN : N < 2 ^ 20) (b3 : a2 < N) (he : sA S3 r a2 = nI e) (me : e < 2 ^ 20) (b4 : e ≠ 3) (b5 : nn ≤ 0) (c4 : Ans (d + 8) 391 [.ref 61, .int (nI (ba + 1)), .int (nI ba)] S3 none S4) : Bod (d + 8) 397 58 lv [] S (some (.int 1)) (wI 6151 (nI (ba + 1)) S4) := by
  refine Bod.aldnG dc_397_58 (by repeat (first | exact q0 | exact sm_get_p1 | exact sm_get_p2e | refine sm_get_p1m (by decide) (by decide) ?_ | refine sm_get_p1n (by decide) rfl ?_ | refine sm_get_p2n (by decide) (by decide) rfl ?_ | refine sm_get_p2m (by decide) (by decide) (by decide) ?_)) ?_
  refine Bod.get dc_397_59 fr_397_496 (mk_61 _) rfl ?_
  refine Bod.ildnG dc_397_62 (by repeat (first | exact q1 | exact sm_get_p1 | exact sm_get_p2e | refine sm_get_p1m (by decide) (by decide) ?_ | refine sm_get_p1n (by decide) rfl ?_ | refine sm_get_p2n (by decide) (by decide) rfl ?_ | refine sm_get_p2m (by decide) (by decide) (by decide) ?_)) ?_
  refine Bod.ic 1 (by decide) dc_397_63 ?_
  refine Bod.addN (ba + 1) (by omega) dc_397_64 ?_
  refine Bod.ic 3 (by decide) dc_397_65 ?_
  refine Bod.iastN (ba + 1) rfl (by omega) (by omega) dc_397_66 (mk_91 _) (sa_91 _ _ _) (mu_A _ _ _ _) ?_
  refine Bod.aldnG dc_397_67 (by repeat (first | exact q0 | exact sm_get_p1 | exact sm_get_p2e | refine sm_get_p1m (by decide) (by decide) ?_ | refine sm_get_p1n (by decide) rfl ?_ | refine sm_get_p2n (by decide) (by decide) rfl ?_ | refine sm_get_p2m (by decide) (by decide) (by decide) ?_)) ?_
  refine Bod.get dc_397_68 fr_397_499 (mk_61 _) rfl ?_
  refine Bod.ildnG dc_397_71 (by repeat (first | exact q1 | exact sm_get_p1 | exact sm_get_p2e | refine sm_get_p1m (by decide) (by decide) ?_ | refine sm_get_p1n (by decide) rfl ?_ | refine sm_get_p2n (by decide) (by decide) rfl ?_ | refine sm_get_p2m (by decide) (by decide) (by decide) ?_)) ?_
  refine Bod.ic 1 (by decide) dc_397_72 ?_
  refine Bod.addN (ba + 1) (by omega) dc_397_73 ?_
  refine Bod.ildnG dc_397_74 (by repeat (first | exact q3 | exact sm_get_p1 | exact sm_get_p2e | refine sm_get_p1m (by decide) (by decide) ?_ | refine sm_get_p1n (by decide) rfl ?_ | refine sm_get_p2n (by decide) (by decide) rfl ?_ | refine sm_get_p2m (by decide) (by decide) (by decide) ?_)) ?_
  refine Bod.go dc_397_75 rfl ?_
  refine Bod.lastN (ba + 1) rfl (by omega) (by omega) dc_397_76 (mk_92 _) (sa_92 _ _ _) (mu_L _ _ _ _) ?_
  refine Bod.aldnG dc_397_77 (by repeat (first | exact q0 | exact sm_get_p1 | exact sm_get_p2e | refine sm_get_p1m (by decide) (by decide) ?_ | refine sm_get_p1n (by decide) rfl ?_ | refine sm_get_p2n (by decide) (by decide) rfl ?_ | refine sm_get_p2m (by decide) (by decide) (by decide) ?_)) ?_
  refine Bod.go dc_397_78 rfl ?_
  refine Bod.get dc_397_79 fr_397_493 (mk_61 _) rfl ?_
  refine Bod.eqI (nI t) (by first | assumption | (simp (disch := omega) only [rIn, rIe, rA, rIA, rLA, rJA, rVI, rQI, rVA, rQA, upd_at,  rAI, rLI, rJI, nI_add, pk_sub, kc_0, kc_1, kc_2, kc_3, kc_4, kc_5, reduceIte, Nat.reduceEqDiff, Nat.add_zero, rI_hold, rI_hold, rL_hold, ht]; done) | (simp (disch := omega) only [rIn, rIe, rA, rIA, rLA, rJA, rVI, rQI, rVA, rQA, upd_at,  rAI, rLI, rJI, nI_add, pk_sub, kc_0, kc_1, kc_2, kc_3, kc_4, kc_5, reduceIte, Nat.reduceEqDiff, Nat.add_zero, rI_hold, rI_hold, rL_hold, ht]; exact congrArg nI (by omega))) ?_
  refine Bod.ic 1 (by decide) dc_397_82 ?_
  refine Bod.addN (t + 1) (by omega) dc_397_83 ?_
  refine Bod.put dc_397_84 fr_397_493 (mk_61 _) (Nat.le_of_ble_eq_true rfl) pf_14_51 (st_6151 _ _) (mu_I _ _ _) ?_
  refine Bod.aldnG dc_397_87 (by repeat (first | exact q0 | exact sm_get_p1 | exact sm_get_p2e | refine sm_get_p1m (by decide) (by decide) ?_ | refine sm_get_p1n (by decide) rfl ?_ | refine sm_get_p2n (by decide) (by decide) rfl ?_ | refine sm_get_p2m (by decide) (by decide) (by decide) ?_)) ?_
  refine Bod.aldnG dc_397_88 (by repeat (first | exact q0 | exact sm_get_p1 | exact sm_get_p2e | refine sm_get_p1m (by decide) (by decide) ?_ | refine sm_get_p1n (by decide) rfl ?_ | refine sm_get_p2n (by decide) (by decide) rfl ?_ | refine sm_get_p2m (by decide) (by decide) (by decide) ?_)) ?_
  refine Bod.get dc_397_89 fr_397_790 (mk_61 _) rfl ?_
  refine Bod.ic 0 (by decide) dc_397_92 ?_
  refine Bod.ic 4 (by decide) dc_397_93 ?_
  refine Bod.virt (r := []) dc_397_94 kr_397_166 ⟨Or.inl rfl, ow_294, cl_14⟩ (by rw [np_294]; rfl) (by rw [np_294]; rfl) (ob_of (mk_61 _)) (Nat.le_of_ble_eq_true rfl) (c1  ) ?_
  show Bod _ _ _ _ [_] _ _ _
  refine Bod.ist dc_397_97 (by rw [ml_397]; exact Nat.le_of_ble_eq_true rfl) ?_
  refine Bod.aldnG dc_397_99 (by repeat (first | exact q0 | exact sm_get_p1 | exact sm_get_p2e | refine sm_get_p1m (by decide) (by decide) ?_ | refine sm_get_p1n (by decide) rfl ?_ | refine sm_get_p2n (by decide) (by decide) rfl ?_ | refine sm_get_p2m (by decide) (by decide) (by decide) ?_)) ?_
  refine Bod.aldnG dc_397_100 (by repeat (first | exact q0 | exact sm_get_p1 | exact sm_get_p2e | refine sm_get_p1m (by decide) (by decide) ?_ | refine sm_get_p1n (by decide) rfl ?_ | refine sm_get_p2n (by decide) (by decide) rfl ?_ | refine sm_get_p2m (by decide) (by decide) (by decide) ?_)) ?_
  refine Bod.get dc_397_101 fr_397_499 (mk_61 _) rfl ?_
  refine Bod.ildnG dc_397_104 (by repeat (first | exact q1 | exact sm_get_p1 | exact sm_get_p2e | refine sm_get_p1m (by decide) (by decide) ?_ | refine sm_get_p1n (by decide) rfl ?_ | refine sm_get_p2n (by decide) (by decide) rfl ?_ | refine sm_get_p2m (by decide) (by decide) (by decide) ?_)) ?_
  refine Bod.laldN ba rfl (by omega) (by omega) dc_397_105 (mk_92 _) ?_
  refine Bod.go dc_397_106 rfl ?_
  refine Bod.eqI (nI o) (by first | exact ho | (simp only [rIn, rIe, rA, rIA, rLA, rJA, rVI, rQI, rVA, rQA, upd_at,  rAI, rLI, rJI, nI_add, pk_sub, kc_0, kc_1, kc_2, kc_3, kc_4, kc_5, reduceIte, Nat.reduceEqDiff, Nat.add_zero, rI_hold, rI_hold, rL_hold]; exact ho)) ?_
  refine Bod.ildG dc_397_107 (by repeat (first | exact q0 | exact sm_get_p1 | exact sm_get_p2e | refine sm_get_p1m (by decide) (by decide) ?_ | refine sm_get_p1n (by decide) rfl ?_ | refine sm_get_p2n (by decide) (by decide) rfl ?_ | refine sm_get_p2m (by decide) (by decide) (by decide) ?_)) ?_
  refine Bod.virt (r := []) dc_397_109 kr_397_777 ⟨Or.inl rfl, ow_398, cl_14⟩ (by rw [np_398]; rfl) (by rw [np_398]; rfl) (ob_of (mk_61 _)) (Nat.le_of_ble_eq_true rfl) (c2  ) ?_
  show Bod _ _ _ _ [_] _ _ _
  refine Bod.ist dc_397_112 (by rw [ml_397]; exact Nat.le_of_ble_eq_true rfl) ?_
  refine Bod.ildG dc_397_114 (by repeat (first | exact q0 | exact sm_get_p1 | exact sm_get_p2e | refine sm_get_p1m (by decide) (by decide) ?_ | refine sm_get_p1n (by decide) rfl ?_ | refine sm_get_p2n (by decide) (by decide) rfl ?_ | refine sm_get_p2m (by decide) (by decide) (by decide) ?_)) ?_
  refine Bod.ifF dc_397_116 rfl (k1_lt_F a1 rfl (by omega)) ?_
  refine Bod.aldnG dc_397_119 (by repeat (first | exact q0 | exact sm_get_p1 | exact sm_get_p2e | refine sm_get_p1m (by decide) (by decide) ?_ | refine sm_get_p1n (by decide) rfl ?_ | refine sm_get_p2n (by decide) (by decide) rfl ?_ | refine sm_get_p2m (by decide) (by decide) (by decide) ?_)) ?_
  refine Bod.get dc_397_120 fr_397_485 (mk_61 _) rfl ?_
  refine Bod.ildG dc_397_123 (by repeat (first | exact q0 | exact sm_get_p1 | exact sm_get_p2e | refine sm_get_p1m (by decide) (by decide) ?_ | refine sm_get_p1n (by decide) rfl ?_ | refine sm_get_p2n (by decide) (by decide) rfl ?_ | refine sm_get_p2m (by decide) (by decide) (by decide) ?_)) ?_
  refine Bod.aaldR (N := 1500) (b := g) a1 rfl (by omega) (by omega) (by first | exact hq3 | (simp only [rIQ, rJQ, rAQ, rLQ, rVQ, rQ_holdE]; exact hq3)) dc_397_125 (mk_86 _) ht_5 ?_
  refine Bod.ic 0 (by decide) dc_397_126 ?_
  refine Bod.ildG dc_397_127 (by repeat (first | exact q0 | exact sm_get_p1 | exact sm_get_p2e | refine sm_get_p1m (by decide) (by decide) ?_ | refine sm_get_p1n (by decide) rfl ?_ | refine sm_get_p2n (by decide) (by decide) rfl ?_ | refine sm_get_p2m (by decide) (by decide) (by decide) ?_)) ?_
  refine Bod.go dc_397_129 rfl ?_
  refine Bod.go dc_397_130 rfl ?_
  refine Bod.virt (r := []) dc_397_131 kr_397_764 ⟨Or.inl rfl, ow_399, cl_13⟩ (by rw [np_399]; rfl) (by rw [np_399]; rfl) (ob_of (mk_thing ag (by first | exact hz1 | (simp only [rIS, rJS, rAS, rLS, rVS, rQS, rS_hold]; exact hz1)))) (Nat.le_of_ble_eq_true rfl) (c3  ) ?_
  show Bod _ _ _ _ [_] _ _ _
  refine Bod.ist dc_397_134 (by rw [ml_397]; exact Nat.le_of_ble_eq_true rfl) ?_
  refine Bod.aldnG dc_397_136 (by repeat (first | exact q0 | exact sm_get_p1 | exact sm_get_p2e | refine sm_get_p1m (by decide) (by decide) ?_ | refine sm_get_p1n (by decide) rfl ?_ | refine sm_get_p2n (by decide) (by decide) rfl ?_ | refine sm_get_p2m (by decide) (by decide) (by decide) ?_)) ?_
  refine Bod.get dc_397_137 fr_397_485 (mk_61 _) rfl ?_
  refine Bod.ildG dc_397_140 (by repeat (first | exact q0 | exact sm_get_p1 | exact sm_get_p2e | refine sm_get_p1m (by decide) (by decide) ?_ | refine sm_get_p1n (by decide) rfl ?_ | refine sm_get_p2n (by decide) (by decide) rfl ?_ | refine sm_get_p2m (by decide) (by decide) (by decide) ?_)) ?_
  refine Bod.aaldR (N := 1500) (b := g1) a1 rfl (by omega) (by omega) (by first | exact hq6 | (simp only [rIQ, rJQ, rAQ, rLQ, rVQ, rQ_holdE]; exact hq6)) dc_397_142 (mk_86 _) ht_5 ?_
  refine Bod.get dc_397_143 fr_397_462 (mk_thing ag1 (by first | exact hz2 | (simp only [rIS, rJS, rAS, rLS, rVS, rQS, rS_hold]; exact hz2))) rfl ?_
  refine Bod.eqV (.ref r) (by first | exact hv1 | (simp only [rIV, rJV, rAV, rLV, rQV, rV, reduceIte, Nat.reduceEqDiff]; exact hv1)) ?_
  refine Bod.ildG dc_397_146 (by repeat (first | exact q0 | exact sm_get_p1 | exact sm_get_p2e | refine sm_get_p1m (by decide) (by decide) ?_ | refine sm_get_p1n (by decide) rfl ?_ | refine sm_get_p2n (by decide) (by decide) rfl ?_ | refine sm_get_p2m (by decide) (by decide) (by decide) ?_)) ?_
  refine Bod.ialdN (N := N) a2 rfl (by omega) (by omega) dc_397_148 (mk_isI (by first | exact hg1 | exact isK_S (by simp only [rIS, rJS, rAS, rLS, rVS, rQS, rS_hold]) hg1)) ?_
  refine Bod.eqI (nI e) (by first | assumption | (simp (disch := omega) only [rIn, rIe, rA, rIA, rLA, rJA, rVI, rQI, rVA, rQA, upd_at,  rAI, rLI, rJI, nI_add, pk_sub, kc_0, kc_1, kc_2, kc_3, kc_4, kc_5, reduceIte, Nat.reduceEqDiff, Nat.add_zero, rI_hold, rI_hold, rL_hold, ht, he]; done) | (simp (disch := omega) only [rIn, rIe, rA, rIA, rLA, rJA, rVI, rQI, rVA, rQA, upd_at,  rAI, rLI, rJI, nI_add, pk_sub, kc_0, kc_1, kc_2, kc_3, kc_4, kc_5, reduceIte, Nat.reduceEqDiff, Nat.add_zero, rI_hold, rI_hold, rL_hold, ht, he]; exact congrArg nI (by omega))) ?_
  refine Bod.ic 3 (by decide) dc_397_149 ?_
  refine Bod.icT dc_397_150 rfl (k2_ne_T (k_ne e 3 rfl rfl (by omega) (by omega) (by omega))) ?_
  refine Bod.ildnG dc_397_202 (by repeat (first | exact q2 | exact sm_get_p1 | exact sm_get_p2e | refine sm_get_p1m (by decide) (by decide) ?_ | refine sm_get_p1n (by decide) rfl ?_ | refine sm_get_p2n (by decide) (by decide) rfl ?_ | refine sm_get_p2m (by decide) (by decide) (by decide) ?_)) ?_
  refine Bod.ifT dc_397_203 rfl (k1_le_T (k_eq nn 0 (by first | assumption | (simp (disch := omega) only [rIn, rIe, rA, rIA, rLA, rJA, rVI, rQI, rVA, rQA, upd_at,  rAI, rLI, rJI, nI_add, pk_sub, kc_0, kc_1, kc_2, kc_3, kc_4, kc_5, reduceIte, Nat.reduceEqDiff, Nat.add_zero, rI_hold, rI_hold, rL_hold, ht, he]; done) | (simp (disch := omega) only [rIn, rIe, rA, rIA, rLA, rJA, rVI, rQI, rVA, rQA, upd_at,  rAI, rLI, rJI, nI_add, pk_sub, kc_0, kc_1, kc_2, kc_3, kc_4, kc_5, reduceIte, Nat.reduceEqDiff, Nat.add_zero, rI_hold, rI_hold, rL_hold, ht, he]; exact congrArg nI (by omega))) rfl (by omega))) ?_
  refine Bod.aldnG dc_397_212 (by repeat (first | exact q0 | exact sm_get_p1 | exact sm_get_p2e | refine sm_get_p1m (by decide) (by decide) ?_ | refine sm_get_p1n (by decide) rfl ?_ | refine sm_get_p2n (by decide) (by decide) rfl ?_ | refine sm_get_p2m (by decide) (by decide) (by decide) ?_)) ?_
  refine Bod.ildnG dc_397_213 (by repeat (first | exact q1 | exact sm_get_p1 | exact sm_get_p2e | refine sm_get_p1m (by decide) (by decide) ?_ | refine sm_get_p1n (by decide) rfl ?_ | refine sm_get_p2n (by decide) (by decide) rfl ?_ | refine sm_get_p2m (by decide) (by decide) (by decide) ?_)) ?_
  refine Bod.ic 1 (by decide) dc_397_214 ?_
  refine Bod.addN (ba + 1) (by omega) dc_397_215 ?_
  refine Bod.ildnG dc_397_216 (by repeat (first | exact q1 | exact sm_get_p1 | exact sm_get_p2e | refine sm_get_p1m (by decide) (by decide) ?_ | refine sm_get_p1n (by decide) rfl ?_ | refine sm_get_p2n (by decide) (by decide) rfl ?_ | refine sm_get_p2m (by decide) (by decide) (by decide) ?_)) ?_
  refine Bod.virt (r := []) dc_397_217 kr_397_672 ⟨Or.inl rfl, ow_391, cl_14⟩ (by rw [np_391]; rfl) (by rw [np_391]; rfl) (ob_of (mk_61 _)) (Nat.le_of_ble_eq_true rfl) (c4  ) ?_
  show Bod _ _ _ _ [] _ _ _
  refine Bod.aldnG dc_397_220 (by repeat (first | exact q0 | exact sm_get_p1 | exact sm_get_p2e | refine sm_get_p1m (by decide) (by decide) ?_ | refine sm_get_p1n (by decide) rfl ?_ | refine sm_get_p2n (by decide) (by decide) rfl ?_ | refine sm_get_p2m (by decide) (by decide) (by decide) ?_)) ?_
  refine Bod.ildnG dc_397_221 (by repeat (first | exact q1 | exact sm_get_p1 | exact sm_get_p2e | refine sm_get_p1m (by decide) (by decide) ?_ | refine sm_get_p1n (by decide) rfl ?_ | refine sm_get_p2n (by decide) (by decide) rfl ?_ | refine sm_get_p2m (by decide) (by decide) (by decide) ?_)) ?_
  refine Bod.ic 1 (by decide) dc_397_222 ?_
  refine Bod.addN (ba + 1) (by omega) dc_397_223 ?_
  refine Bod.put dc_397_224 fr_397_493 (mk_61 _) (Nat.le_of_ble_eq_true rfl) pf_14_51 (st_6151 _ _) (mu_I _ _ _) ?_
  refine Bod.ic 1 (by decide) dc_397_227 ?_
  exact Bod.retZ dc_397_228 rt_397 (Or.inr rfl)
theorem rMkB_2 {d : Nat} {S : cS} {lv : sm_L} {ba : Nat} {nn : Nat} {io : Nat} {t : Nat} {S1 : cS} {a : Nat} {o : Nat} {S2 : cS} {a1 : Nat} {g : Nat} {zg : Nat} {S3 : cS} {a2 : Nat} {g1 : Nat} {zg1 : Nat} {r : Nat} {N : Nat} {e : Nat} {S4 : cS} (q0 : sm_get lv 0 = some (.ref 61)) (q1 : sm_get lv 1 = some (.int (nI ba))) (q2 : sm_get lv 2 = some (.int (nI nn))) (q3 : sm_get lv 3 = some (.int (nI io))) (mba : ba < 2 ^ 20) (mnn : nn < 2 ^ 20) (mio : io < 2 ^ 20) (b1 : ba + 1 < 20480) (ht : sI (wL 92 (ba + 1) ((nI io).toInt64) (wA 91 (ba + 1) (nI 3) S)) 6151 = nI t) (mt : t < 20481) (ma : a < 2 ^ 20) (c1 : Ans (d + 8) 294 [.ref 61, .ref 105, .int (nI 0), .int (nI 4)] (wI 6151 (nI (t + 1)) (wL 92 (ba + 1) ((nI io).toInt64) (wA 91 (ba + 1) (nI 3) S))) (some (.int (nI a))) S1) (b2 : ba < 20480) (ho : (sL S1 92 ba).toInt32 = nI o) (mo : o < 1500) (ma1 : a1 < 1500) (c2 : Ans (d + 8) 398 [.ref 61, .int (nI o), .int (nI a)] S1 (some (.int (nI a1))) S2) (ag : 108 ≤ g) (hq3 : sQ S2 86 a1 = some g) (ma2 : a2 < 2 ^ 20) (c3 : Ans (d + 8) 399 [.ref g, .int (nI 0), .long ((nI a).toInt64), .long 0] S2 (some (.int (nI a2))) S3) (hz1 : (sS S2)[g - 108]? = some (13, zg)) (ag1 : 108 ≤ g1) (hq6 : sQ S3 86 a1 = some g1) (hz2 : (sS S3)[g1 - 108]? = some (13, zg1)) (hv1 : sV S3 (100 * g1 + 2) = .ref r) (hg1 : isK S3 r 0 N) (mN : N < 2 ^ 20) (b3 : a2 < N) (he : sA S3 r a2 = nI e) (me : e < 2 ^ 20) (b4 : e ≠ 3) (b5 : 0 < nn) (c4 : Ans (d + 8) 351 [.ref 61, .int (nI 2)] S3 (some (.int (nI 0))) S4) : Bod (d + 8) 397 58 lv [] S (some (.int 0)) (S4) := by
  refine Bod.aldnG dc_397_58 (by repeat (first | exact q0 | exact sm_get_p1 | exact sm_get_p2e | refine sm_get_p1m (by decide) (by decide) ?_ | refine sm_get_p1n (by decide) rfl ?_ | refine sm_get_p2n (by decide) (by decide) rfl ?_ | refine sm_get_p2m (by decide) (by decide) (by decide) ?_)) ?_
  refine Bod.get dc_397_59 fr_397_496 (mk_61 _) rfl ?_
  refine Bod.ildnG dc_397_62 (by repeat (first | exact q1 | exact sm_get_p1 | exact sm_get_p2e | refine sm_get_p1m (by decide) (by decide) ?_ | refine sm_get_p1n (by decide) rfl ?_ | refine sm_get_p2n (by decide) (by decide) rfl ?_ | refine sm_get_p2m (by decide) (by decide) (by decide) ?_)) ?_
  refine Bod.ic 1 (by decide) dc_397_63 ?_
  refine Bod.addN (ba + 1) (by omega) dc_397_64 ?_
  refine Bod.ic 3 (by decide) dc_397_65 ?_
  refine Bod.iastN (ba + 1) rfl (by omega) (by omega) dc_397_66 (mk_91 _) (sa_91 _ _ _) (mu_A _ _ _ _) ?_
  refine Bod.aldnG dc_397_67 (by repeat (first | exact q0 | exact sm_get_p1 | exact sm_get_p2e | refine sm_get_p1m (by decide) (by decide) ?_ | refine sm_get_p1n (by decide) rfl ?_ | refine sm_get_p2n (by decide) (by decide) rfl ?_ | refine sm_get_p2m (by decide) (by decide) (by decide) ?_)) ?_
  refine Bod.get dc_397_68 fr_397_499 (mk_61 _) rfl ?_
  refine Bod.ildnG dc_397_71 (by repeat (first | exact q1 | exact sm_get_p1 | exact sm_get_p2e | refine sm_get_p1m (by decide) (by decide) ?_ | refine sm_get_p1n (by decide) rfl ?_ | refine sm_get_p2n (by decide) (by decide) rfl ?_ | refine sm_get_p2m (by decide) (by decide) (by decide) ?_)) ?_
  refine Bod.ic 1 (by decide) dc_397_72 ?_
  refine Bod.addN (ba + 1) (by omega) dc_397_73 ?_
  refine Bod.ildnG dc_397_74 (by repeat (first | exact q3 | exact sm_get_p1 | exact sm_get_p2e | refine sm_get_p1m (by decide) (by decide) ?_ | refine sm_get_p1n (by decide) rfl ?_ | refine sm_get_p2n (by decide) (by decide) rfl ?_ | refine sm_get_p2m (by decide) (by decide) (by decide) ?_)) ?_
  refine Bod.go dc_397_75 rfl ?_
  refine Bod.lastN (ba + 1) rfl (by omega) (by omega) dc_397_76 (mk_92 _) (sa_92 _ _ _) (mu_L _ _ _ _) ?_
  refine Bod.aldnG dc_397_77 (by repeat (first | exact q0 | exact sm_get_p1 | exact sm_get_p2e | refine sm_get_p1m (by decide) (by decide) ?_ | refine sm_get_p1n (by decide) rfl ?_ | refine sm_get_p2n (by decide) (by decide) rfl ?_ | refine sm_get_p2m (by decide) (by decide) (by decide) ?_)) ?_
  refine Bod.go dc_397_78 rfl ?_
  refine Bod.get dc_397_79 fr_397_493 (mk_61 _) rfl ?_
  refine Bod.eqI (nI t) (by first | assumption | (simp (disch := omega) only [rIn, rIe, rA, rIA, rLA, rJA, rVI, rQI, rVA, rQA, upd_at,  rAI, rLI, rJI, nI_add, pk_sub, kc_0, kc_1, kc_2, kc_3, kc_4, kc_5, reduceIte, Nat.reduceEqDiff, Nat.add_zero, rI_hold, rI_hold, rL_hold, ht]; done) | (simp (disch := omega) only [rIn, rIe, rA, rIA, rLA, rJA, rVI, rQI, rVA, rQA, upd_at,  rAI, rLI, rJI, nI_add, pk_sub, kc_0, kc_1, kc_2, kc_3, kc_4, kc_5, reduceIte, Nat.reduceEqDiff, Nat.add_zero, rI_hold, rI_hold, rL_hold, ht]; exact congrArg nI (by omega))) ?_
  refine Bod.ic 1 (by decide) dc_397_82 ?_
  refine Bod.addN (t + 1) (by omega) dc_397_83 ?_
  refine Bod.put dc_397_84 fr_397_493 (mk_61 _) (Nat.le_of_ble_eq_true rfl) pf_14_51 (st_6151 _ _) (mu_I _ _ _) ?_
  refine Bod.aldnG dc_397_87 (by repeat (first | exact q0 | exact sm_get_p1 | exact sm_get_p2e | refine sm_get_p1m (by decide) (by decide) ?_ | refine sm_get_p1n (by decide) rfl ?_ | refine sm_get_p2n (by decide) (by decide) rfl ?_ | refine sm_get_p2m (by decide) (by decide) (by decide) ?_)) ?_
  refine Bod.aldnG dc_397_88 (by repeat (first | exact q0 | exact sm_get_p1 | exact sm_get_p2e | refine sm_get_p1m (by decide) (by decide) ?_ | refine sm_get_p1n (by decide) rfl ?_ | refine sm_get_p2n (by decide) (by decide) rfl ?_ | refine sm_get_p2m (by decide) (by decide) (by decide) ?_)) ?_
  refine Bod.get dc_397_89 fr_397_790 (mk_61 _) rfl ?_
  refine Bod.ic 0 (by decide) dc_397_92 ?_
  refine Bod.ic 4 (by decide) dc_397_93 ?_
  refine Bod.virt (r := []) dc_397_94 kr_397_166 ⟨Or.inl rfl, ow_294, cl_14⟩ (by rw [np_294]; rfl) (by rw [np_294]; rfl) (ob_of (mk_61 _)) (Nat.le_of_ble_eq_true rfl) (c1  ) ?_
  show Bod _ _ _ _ [_] _ _ _
  refine Bod.ist dc_397_97 (by rw [ml_397]; exact Nat.le_of_ble_eq_true rfl) ?_
  refine Bod.aldnG dc_397_99 (by repeat (first | exact q0 | exact sm_get_p1 | exact sm_get_p2e | refine sm_get_p1m (by decide) (by decide) ?_ | refine sm_get_p1n (by decide) rfl ?_ | refine sm_get_p2n (by decide) (by decide) rfl ?_ | refine sm_get_p2m (by decide) (by decide) (by decide) ?_)) ?_
  refine Bod.aldnG dc_397_100 (by repeat (first | exact q0 | exact sm_get_p1 | exact sm_get_p2e | refine sm_get_p1m (by decide) (by decide) ?_ | refine sm_get_p1n (by decide) rfl ?_ | refine sm_get_p2n (by decide) (by decide) rfl ?_ | refine sm_get_p2m (by decide) (by decide) (by decide) ?_)) ?_
  refine Bod.get dc_397_101 fr_397_499 (mk_61 _) rfl ?_
  refine Bod.ildnG dc_397_104 (by repeat (first | exact q1 | exact sm_get_p1 | exact sm_get_p2e | refine sm_get_p1m (by decide) (by decide) ?_ | refine sm_get_p1n (by decide) rfl ?_ | refine sm_get_p2n (by decide) (by decide) rfl ?_ | refine sm_get_p2m (by decide) (by decide) (by decide) ?_)) ?_
  refine Bod.laldN ba rfl (by omega) (by omega) dc_397_105 (mk_92 _) ?_
  refine Bod.go dc_397_106 rfl ?_
  refine Bod.eqI (nI o) (by first | exact ho | (simp only [rIn, rIe, rA, rIA, rLA, rJA, rVI, rQI, rVA, rQA, upd_at,  rAI, rLI, rJI, nI_add, pk_sub, kc_0, kc_1, kc_2, kc_3, kc_4, kc_5, reduceIte, Nat.reduceEqDiff, Nat.add_zero, rI_hold, rI_hold, rL_hold]; exact ho)) ?_
  refine Bod.ildG dc_397_107 (by repeat (first | exact q0 | exact sm_get_p1 | exact sm_get_p2e | refine sm_get_p1m (by decide) (by decide) ?_ | refine sm_get_p1n (by decide) rfl ?_ | refine sm_get_p2n (by decide) (by decide) rfl ?_ | refine sm_get_p2m (by decide) (by decide) (by decide) ?_)) ?_
  refine Bod.virt (r := []) dc_397_109 kr_397_777 ⟨Or.inl rfl, ow_398, cl_14⟩ (by rw [np_398]; rfl) (by rw [np_398]; rfl) (ob_of (mk_61 _)) (Nat.le_of_ble_eq_true rfl) (c2  ) ?_
  show Bod _ _ _ _ [_] _ _ _
  refine Bod.ist dc_397_112 (by rw [ml_397]; exact Nat.le_of_ble_eq_true rfl) ?_
  refine Bod.ildG dc_397_114 (by repeat (first | exact q0 | exact sm_get_p1 | exact sm_get_p2e | refine sm_get_p1m (by decide) (by decide) ?_ | refine sm_get_p1n (by decide) rfl ?_ | refine sm_get_p2n (by decide) (by decide) rfl ?_ | refine sm_get_p2m (by decide) (by decide) (by decide) ?_)) ?_
  refine Bod.ifF dc_397_116 rfl (k1_lt_F a1 rfl (by omega)) ?_
  refine Bod.aldnG dc_397_119 (by repeat (first | exact q0 | exact sm_get_p1 | exact sm_get_p2e | refine sm_get_p1m (by decide) (by decide) ?_ | refine sm_get_p1n (by decide) rfl ?_ | refine sm_get_p2n (by decide) (by decide) rfl ?_ | refine sm_get_p2m (by decide) (by decide) (by decide) ?_)) ?_
  refine Bod.get dc_397_120 fr_397_485 (mk_61 _) rfl ?_
  refine Bod.ildG dc_397_123 (by repeat (first | exact q0 | exact sm_get_p1 | exact sm_get_p2e | refine sm_get_p1m (by decide) (by decide) ?_ | refine sm_get_p1n (by decide) rfl ?_ | refine sm_get_p2n (by decide) (by decide) rfl ?_ | refine sm_get_p2m (by decide) (by decide) (by decide) ?_)) ?_
  refine Bod.aaldR (N := 1500) (b := g) a1 rfl (by omega) (by omega) (by first | exact hq3 | (simp only [rIQ, rJQ, rAQ, rLQ, rVQ, rQ_holdE]; exact hq3)) dc_397_125 (mk_86 _) ht_5 ?_
  refine Bod.ic 0 (by decide) dc_397_126 ?_
  refine Bod.ildG dc_397_127 (by repeat (first | exact q0 | exact sm_get_p1 | exact sm_get_p2e | refine sm_get_p1m (by decide) (by decide) ?_ | refine sm_get_p1n (by decide) rfl ?_ | refine sm_get_p2n (by decide) (by decide) rfl ?_ | refine sm_get_p2m (by decide) (by decide) (by decide) ?_)) ?_
  refine Bod.go dc_397_129 rfl ?_
  refine Bod.go dc_397_130 rfl ?_
  refine Bod.virt (r := []) dc_397_131 kr_397_764 ⟨Or.inl rfl, ow_399, cl_13⟩ (by rw [np_399]; rfl) (by rw [np_399]; rfl) (ob_of (mk_thing ag (by first | exact hz1 | (simp only [rIS, rJS, rAS, rLS, rVS, rQS, rS_hold]; exact hz1)))) (Nat.le_of_ble_eq_true rfl) (c3  ) ?_
  show Bod _ _ _ _ [_] _ _ _
  refine Bod.ist dc_397_134 (by rw [ml_397]; exact Nat.le_of_ble_eq_true rfl) ?_
  refine Bod.aldnG dc_397_136 (by repeat (first | exact q0 | exact sm_get_p1 | exact sm_get_p2e | refine sm_get_p1m (by decide) (by decide) ?_ | refine sm_get_p1n (by decide) rfl ?_ | refine sm_get_p2n (by decide) (by decide) rfl ?_ | refine sm_get_p2m (by decide) (by decide) (by decide) ?_)) ?_
  refine Bod.get dc_397_137 fr_397_485 (mk_61 _) rfl ?_
  refine Bod.ildG dc_397_140 (by repeat (first | exact q0 | exact sm_get_p1 | exact sm_get_p2e | refine sm_get_p1m (by decide) (by decide) ?_ | refine sm_get_p1n (by decide) rfl ?_ | refine sm_get_p2n (by decide) (by decide) rfl ?_ | refine sm_get_p2m (by decide) (by decide) (by decide) ?_)) ?_
  refine Bod.aaldR (N := 1500) (b := g1) a1 rfl (by omega) (by omega) (by first | exact hq6 | (simp only [rIQ, rJQ, rAQ, rLQ, rVQ, rQ_holdE]; exact hq6)) dc_397_142 (mk_86 _) ht_5 ?_
  refine Bod.get dc_397_143 fr_397_462 (mk_thing ag1 (by first | exact hz2 | (simp only [rIS, rJS, rAS, rLS, rVS, rQS, rS_hold]; exact hz2))) rfl ?_
  refine Bod.eqV (.ref r) (by first | exact hv1 | (simp only [rIV, rJV, rAV, rLV, rQV, rV, reduceIte, Nat.reduceEqDiff]; exact hv1)) ?_
  refine Bod.ildG dc_397_146 (by repeat (first | exact q0 | exact sm_get_p1 | exact sm_get_p2e | refine sm_get_p1m (by decide) (by decide) ?_ | refine sm_get_p1n (by decide) rfl ?_ | refine sm_get_p2n (by decide) (by decide) rfl ?_ | refine sm_get_p2m (by decide) (by decide) (by decide) ?_)) ?_
  refine Bod.ialdN (N := N) a2 rfl (by omega) (by omega) dc_397_148 (mk_isI (by first | exact hg1 | exact isK_S (by simp only [rIS, rJS, rAS, rLS, rVS, rQS, rS_hold]) hg1)) ?_
  refine Bod.eqI (nI e) (by first | assumption | (simp (disch := omega) only [rIn, rIe, rA, rIA, rLA, rJA, rVI, rQI, rVA, rQA, upd_at,  rAI, rLI, rJI, nI_add, pk_sub, kc_0, kc_1, kc_2, kc_3, kc_4, kc_5, reduceIte, Nat.reduceEqDiff, Nat.add_zero, rI_hold, rI_hold, rL_hold, ht, he]; done) | (simp (disch := omega) only [rIn, rIe, rA, rIA, rLA, rJA, rVI, rQI, rVA, rQA, upd_at,  rAI, rLI, rJI, nI_add, pk_sub, kc_0, kc_1, kc_2, kc_3, kc_4, kc_5, reduceIte, Nat.reduceEqDiff, Nat.add_zero, rI_hold, rI_hold, rL_hold, ht, he]; exact congrArg nI (by omega))) ?_
  refine Bod.ic 3 (by decide) dc_397_149 ?_
  refine Bod.icT dc_397_150 rfl (k2_ne_T (k_ne e 3 rfl rfl (by omega) (by omega) (by omega))) ?_
  refine Bod.ildnG dc_397_202 (by repeat (first | exact q2 | exact sm_get_p1 | exact sm_get_p2e | refine sm_get_p1m (by decide) (by decide) ?_ | refine sm_get_p1n (by decide) rfl ?_ | refine sm_get_p2n (by decide) (by decide) rfl ?_ | refine sm_get_p2m (by decide) (by decide) (by decide) ?_)) ?_
  refine Bod.ifF dc_397_203 rfl (k1_le_F nn rfl (by omega) (by omega)) ?_
  refine Bod.aldnG dc_397_206 (by repeat (first | exact q0 | exact sm_get_p1 | exact sm_get_p2e | refine sm_get_p1m (by decide) (by decide) ?_ | refine sm_get_p1n (by decide) rfl ?_ | refine sm_get_p2n (by decide) (by decide) rfl ?_ | refine sm_get_p2m (by decide) (by decide) (by decide) ?_)) ?_
  refine Bod.ic 2 (by decide) dc_397_207 ?_
  refine Bod.virt (r := []) dc_397_208 kr_397_608 ⟨Or.inl rfl, ow_351, cl_14⟩ (by rw [np_351]; rfl) (by rw [np_351]; rfl) (ob_of (mk_61 _)) (Nat.le_of_ble_eq_true rfl) (c4  ) ?_
  show Bod _ _ _ _ [_] _ _ _
  exact Bod.retZ dc_397_211 rt_397 (Or.inl rfl)
theorem rMkB_3 {d : Nat} {S : cS} {lv : sm_L} {ba : Nat} {nn : Nat} {io : Nat} {t : Nat} {S1 : cS} {a : Nat} {o : Nat} {S2 : cS} {a1 : Nat} {g : Nat} {zg : Nat} {S3 : cS} {a2 : Nat} {g1 : Nat} {zg1 : Nat} {r : Nat} {N : Nat} {e : Nat} {r1 : Nat} {N1 : Nat} {o1 : Nat} {g2 : Nat} {zg2 : Nat} {fd0 : Nat} {S4 : cS} (q0 : sm_get lv 0 = some (.ref 61)) (q1 : sm_get lv 1 = some (.int (nI ba))) (q2 : sm_get lv 2 = some (.int (nI nn))) (q3 : sm_get lv 3 = some (.int (nI io))) (mba : ba < 2 ^ 20) (mnn : nn < 2 ^ 20) (mio : io < 2 ^ 20) (b1 : ba + 1 < 20480) (ht : sI (wL 92 (ba + 1) ((nI io).toInt64) (wA 91 (ba + 1) (nI 3) S)) 6151 = nI t) (mt : t < 20481) (ma : a < 2 ^ 20) (c1 : Ans (d + 8) 294 [.ref 61, .ref 105, .int (nI 0), .int (nI 4)] (wI 6151 (nI (t + 1)) (wL 92 (ba + 1) ((nI io).toInt64) (wA 91 (ba + 1) (nI 3) S))) (some (.int (nI a))) S1) (b2 : ba < 20480) (ho : (sL S1 92 ba).toInt32 = nI o) (mo : o < 1500) (ma1 : a1 < 1500) (c2 : Ans (d + 8) 398 [.ref 61, .int (nI o), .int (nI a)] S1 (some (.int (nI a1))) S2) (ag : 108 ≤ g) (hq3 : sQ S2 86 a1 = some g) (ma2 : a2 < 2 ^ 20) (c3 : Ans (d + 8) 399 [.ref g, .int (nI 0), .long ((nI a).toInt64), .long 0] S2 (some (.int (nI a2))) S3) (hz1 : (sS S2)[g - 108]? = some (13, zg)) (ag1 : 108 ≤ g1) (hq6 : sQ S3 86 a1 = some g1) (hz2 : (sS S3)[g1 - 108]? = some (13, zg1)) (hv1 : sV S3 (100 * g1 + 2) = .ref r) (hg1 : isK S3 r 0 N) (mN : N < 2 ^ 20) (b3 : a2 < N) (he : sA S3 r a2 = nI e) (me : e < 2 ^ 20) (b4 : e = 3) (hv2 : sV S3 (100 * g1 + 4) = .ref r1) (hg2 : isK S3 r1 1 N1) (mN1 : N1 < 2 ^ 20) (b5 : a2 < N1) (ho1 : (sL S3 r1 a2).toInt32 = nI o1) (mo1 : o1 < 1500) (ag2 : 108 ≤ g2) (hq13 : sQ S3 86 o1 = some g2) (hz3 : (sS S3)[g2 - 108]? = some (13, zg2)) (hfd0 : sI S3 (100 * g2 + 0) = nI fd0) (mfd0 : fd0 < 2 ^ 20) (b6 : fd0 ≠ 3) (b7 : nn ≤ 0) (c4 : Ans (d + 8) 391 [.ref 61, .int (nI (ba + 1)), .int (nI ba)] S3 none S4) : Bod (d + 8) 397 58 lv [] S (some (.int 1)) (wI 6151 (nI (ba + 1)) S4) := by
  refine Bod.aldnG dc_397_58 (by repeat (first | exact q0 | exact sm_get_p1 | exact sm_get_p2e | refine sm_get_p1m (by decide) (by decide) ?_ | refine sm_get_p1n (by decide) rfl ?_ | refine sm_get_p2n (by decide) (by decide) rfl ?_ | refine sm_get_p2m (by decide) (by decide) (by decide) ?_)) ?_
  refine Bod.get dc_397_59 fr_397_496 (mk_61 _) rfl ?_
  refine Bod.ildnG dc_397_62 (by repeat (first | exact q1 | exact sm_get_p1 | exact sm_get_p2e | refine sm_get_p1m (by decide) (by decide) ?_ | refine sm_get_p1n (by decide) rfl ?_ | refine sm_get_p2n (by decide) (by decide) rfl ?_ | refine sm_get_p2m (by decide) (by decide) (by decide) ?_)) ?_
  refine Bod.ic 1 (by decide) dc_397_63 ?_
  refine Bod.addN (ba + 1) (by omega) dc_397_64 ?_
  refine Bod.ic 3 (by decide) dc_397_65 ?_
  refine Bod.iastN (ba + 1) rfl (by omega) (by omega) dc_397_66 (mk_91 _) (sa_91 _ _ _) (mu_A _ _ _ _) ?_
  refine Bod.aldnG dc_397_67 (by repeat (first | exact q0 | exact sm_get_p1 | exact sm_get_p2e | refine sm_get_p1m (by decide) (by decide) ?_ | refine sm_get_p1n (by decide) rfl ?_ | refine sm_get_p2n (by decide) (by decide) rfl ?_ | refine sm_get_p2m (by decide) (by decide) (by decide) ?_)) ?_
  refine Bod.get dc_397_68 fr_397_499 (mk_61 _) rfl ?_
  refine Bod.ildnG dc_397_71 (by repeat (first | exact q1 | exact sm_get_p1 | exact sm_get_p2e | refine sm_get_p1m (by decide) (by decide) ?_ | refine sm_get_p1n (by decide) rfl ?_ | refine sm_get_p2n (by decide) (by decide) rfl ?_ | refine sm_get_p2m (by decide) (by decide) (by decide) ?_)) ?_
  refine Bod.ic 1 (by decide) dc_397_72 ?_
  refine Bod.addN (ba + 1) (by omega) dc_397_73 ?_
  refine Bod.ildnG dc_397_74 (by repeat (first | exact q3 | exact sm_get_p1 | exact sm_get_p2e | refine sm_get_p1m (by decide) (by decide) ?_ | refine sm_get_p1n (by decide) rfl ?_ | refine sm_get_p2n (by decide) (by decide) rfl ?_ | refine sm_get_p2m (by decide) (by decide) (by decide) ?_)) ?_
  refine Bod.go dc_397_75 rfl ?_
  refine Bod.lastN (ba + 1) rfl (by omega) (by omega) dc_397_76 (mk_92 _) (sa_92 _ _ _) (mu_L _ _ _ _) ?_
  refine Bod.aldnG dc_397_77 (by repeat (first | exact q0 | exact sm_get_p1 | exact sm_get_p2e | refine sm_get_p1m (by decide) (by decide) ?_ | refine sm_get_p1n (by decide) rfl ?_ | refine sm_get_p2n (by decide) (by decide) rfl ?_ | refine sm_get_p2m (by decide) (by decide) (by decide) ?_)) ?_
  refine Bod.go dc_397_78 rfl ?_
  refine Bod.get dc_397_79 fr_397_493 (mk_61 _) rfl ?_
  refine Bod.eqI (nI t) (by first | assumption | (simp (disch := omega) only [rIn, rIe, rA, rIA, rLA, rJA, rVI, rQI, rVA, rQA, upd_at,  rAI, rLI, rJI, nI_add, pk_sub, kc_0, kc_1, kc_2, kc_3, kc_4, kc_5, reduceIte, Nat.reduceEqDiff, Nat.add_zero, rI_hold, rI_hold, rL_hold, ht]; done) | (simp (disch := omega) only [rIn, rIe, rA, rIA, rLA, rJA, rVI, rQI, rVA, rQA, upd_at,  rAI, rLI, rJI, nI_add, pk_sub, kc_0, kc_1, kc_2, kc_3, kc_4, kc_5, reduceIte, Nat.reduceEqDiff, Nat.add_zero, rI_hold, rI_hold, rL_hold, ht]; exact congrArg nI (by omega))) ?_
  refine Bod.ic 1 (by decide) dc_397_82 ?_
  refine Bod.addN (t + 1) (by omega) dc_397_83 ?_
  refine Bod.put dc_397_84 fr_397_493 (mk_61 _) (Nat.le_of_ble_eq_true rfl) pf_14_51 (st_6151 _ _) (mu_I _ _ _) ?_
  refine Bod.aldnG dc_397_87 (by repeat (first | exact q0 | exact sm_get_p1 | exact sm_get_p2e | refine sm_get_p1m (by decide) (by decide) ?_ | refine sm_get_p1n (by decide) rfl ?_ | refine sm_get_p2n (by decide) (by decide) rfl ?_ | refine sm_get_p2m (by decide) (by decide) (by decide) ?_)) ?_
  refine Bod.aldnG dc_397_88 (by repeat (first | exact q0 | exact sm_get_p1 | exact sm_get_p2e | refine sm_get_p1m (by decide) (by decide) ?_ | refine sm_get_p1n (by decide) rfl ?_ | refine sm_get_p2n (by decide) (by decide) rfl ?_ | refine sm_get_p2m (by decide) (by decide) (by decide) ?_)) ?_
  refine Bod.get dc_397_89 fr_397_790 (mk_61 _) rfl ?_
  refine Bod.ic 0 (by decide) dc_397_92 ?_
  refine Bod.ic 4 (by decide) dc_397_93 ?_
  refine Bod.virt (r := []) dc_397_94 kr_397_166 ⟨Or.inl rfl, ow_294, cl_14⟩ (by rw [np_294]; rfl) (by rw [np_294]; rfl) (ob_of (mk_61 _)) (Nat.le_of_ble_eq_true rfl) (c1  ) ?_
  show Bod _ _ _ _ [_] _ _ _
  refine Bod.ist dc_397_97 (by rw [ml_397]; exact Nat.le_of_ble_eq_true rfl) ?_
  refine Bod.aldnG dc_397_99 (by repeat (first | exact q0 | exact sm_get_p1 | exact sm_get_p2e | refine sm_get_p1m (by decide) (by decide) ?_ | refine sm_get_p1n (by decide) rfl ?_ | refine sm_get_p2n (by decide) (by decide) rfl ?_ | refine sm_get_p2m (by decide) (by decide) (by decide) ?_)) ?_
  refine Bod.aldnG dc_397_100 (by repeat (first | exact q0 | exact sm_get_p1 | exact sm_get_p2e | refine sm_get_p1m (by decide) (by decide) ?_ | refine sm_get_p1n (by decide) rfl ?_ | refine sm_get_p2n (by decide) (by decide) rfl ?_ | refine sm_get_p2m (by decide) (by decide) (by decide) ?_)) ?_
  refine Bod.get dc_397_101 fr_397_499 (mk_61 _) rfl ?_
  refine Bod.ildnG dc_397_104 (by repeat (first | exact q1 | exact sm_get_p1 | exact sm_get_p2e | refine sm_get_p1m (by decide) (by decide) ?_ | refine sm_get_p1n (by decide) rfl ?_ | refine sm_get_p2n (by decide) (by decide) rfl ?_ | refine sm_get_p2m (by decide) (by decide) (by decide) ?_)) ?_
  refine Bod.laldN ba rfl (by omega) (by omega) dc_397_105 (mk_92 _) ?_
  refine Bod.go dc_397_106 rfl ?_
  refine Bod.eqI (nI o) (by first | exact ho | (simp only [rIn, rIe, rA, rIA, rLA, rJA, rVI, rQI, rVA, rQA, upd_at,  rAI, rLI, rJI, nI_add, pk_sub, kc_0, kc_1, kc_2, kc_3, kc_4, kc_5, reduceIte, Nat.reduceEqDiff, Nat.add_zero, rI_hold, rI_hold, rL_hold]; exact ho)) ?_
  refine Bod.ildG dc_397_107 (by repeat (first | exact q0 | exact sm_get_p1 | exact sm_get_p2e | refine sm_get_p1m (by decide) (by decide) ?_ | refine sm_get_p1n (by decide) rfl ?_ | refine sm_get_p2n (by decide) (by decide) rfl ?_ | refine sm_get_p2m (by decide) (by decide) (by decide) ?_)) ?_
  refine Bod.virt (r := []) dc_397_109 kr_397_777 ⟨Or.inl rfl, ow_398, cl_14⟩ (by rw [np_398]; rfl) (by rw [np_398]; rfl) (ob_of (mk_61 _)) (Nat.le_of_ble_eq_true rfl) (c2  ) ?_
  show Bod _ _ _ _ [_] _ _ _
  refine Bod.ist dc_397_112 (by rw [ml_397]; exact Nat.le_of_ble_eq_true rfl) ?_
  refine Bod.ildG dc_397_114 (by repeat (first | exact q0 | exact sm_get_p1 | exact sm_get_p2e | refine sm_get_p1m (by decide) (by decide) ?_ | refine sm_get_p1n (by decide) rfl ?_ | refine sm_get_p2n (by decide) (by decide) rfl ?_ | refine sm_get_p2m (by decide) (by decide) (by decide) ?_)) ?_
  refine Bod.ifF dc_397_116 rfl (k1_lt_F a1 rfl (by omega)) ?_
  refine Bod.aldnG dc_397_119 (by repeat (first | exact q0 | exact sm_get_p1 | exact sm_get_p2e | refine sm_get_p1m (by decide) (by decide) ?_ | refine sm_get_p1n (by decide) rfl ?_ | refine sm_get_p2n (by decide) (by decide) rfl ?_ | refine sm_get_p2m (by decide) (by decide) (by decide) ?_)) ?_
  refine Bod.get dc_397_120 fr_397_485 (mk_61 _) rfl ?_
  refine Bod.ildG dc_397_123 (by repeat (first | exact q0 | exact sm_get_p1 | exact sm_get_p2e | refine sm_get_p1m (by decide) (by decide) ?_ | refine sm_get_p1n (by decide) rfl ?_ | refine sm_get_p2n (by decide) (by decide) rfl ?_ | refine sm_get_p2m (by decide) (by decide) (by decide) ?_)) ?_
  refine Bod.aaldR (N := 1500) (b := g) a1 rfl (by omega) (by omega) (by first | exact hq3 | (simp only [rIQ, rJQ, rAQ, rLQ, rVQ, rQ_holdE]; exact hq3)) dc_397_125 (mk_86 _) ht_5 ?_
  refine Bod.ic 0 (by decide) dc_397_126 ?_
  refine Bod.ildG dc_397_127 (by repeat (first | exact q0 | exact sm_get_p1 | exact sm_get_p2e | refine sm_get_p1m (by decide) (by decide) ?_ | refine sm_get_p1n (by decide) rfl ?_ | refine sm_get_p2n (by decide) (by decide) rfl ?_ | refine sm_get_p2m (by decide) (by decide) (by decide) ?_)) ?_
  refine Bod.go dc_397_129 rfl ?_
  refine Bod.go dc_397_130 rfl ?_
  refine Bod.virt (r := []) dc_397_131 kr_397_764 ⟨Or.inl rfl, ow_399, cl_13⟩ (by rw [np_399]; rfl) (by rw [np_399]; rfl) (ob_of (mk_thing ag (by first | exact hz1 | (simp only [rIS, rJS, rAS, rLS, rVS, rQS, rS_hold]; exact hz1)))) (Nat.le_of_ble_eq_true rfl) (c3  ) ?_
  show Bod _ _ _ _ [_] _ _ _
  refine Bod.ist dc_397_134 (by rw [ml_397]; exact Nat.le_of_ble_eq_true rfl) ?_
  refine Bod.aldnG dc_397_136 (by repeat (first | exact q0 | exact sm_get_p1 | exact sm_get_p2e | refine sm_get_p1m (by decide) (by decide) ?_ | refine sm_get_p1n (by decide) rfl ?_ | refine sm_get_p2n (by decide) (by decide) rfl ?_ | refine sm_get_p2m (by decide) (by decide) (by decide) ?_)) ?_
  refine Bod.get dc_397_137 fr_397_485 (mk_61 _) rfl ?_
  refine Bod.ildG dc_397_140 (by repeat (first | exact q0 | exact sm_get_p1 | exact sm_get_p2e | refine sm_get_p1m (by decide) (by decide) ?_ | refine sm_get_p1n (by decide) rfl ?_ | refine sm_get_p2n (by decide) (by decide) rfl ?_ | refine sm_get_p2m (by decide) (by decide) (by decide) ?_)) ?_
  refine Bod.aaldR (N := 1500) (b := g1) a1 rfl (by omega) (by omega) (by first | exact hq6 | (simp only [rIQ, rJQ, rAQ, rLQ, rVQ, rQ_holdE]; exact hq6)) dc_397_142 (mk_86 _) ht_5 ?_
  refine Bod.get dc_397_143 fr_397_462 (mk_thing ag1 (by first | exact hz2 | (simp only [rIS, rJS, rAS, rLS, rVS, rQS, rS_hold]; exact hz2))) rfl ?_
  refine Bod.eqV (.ref r) (by first | exact hv1 | (simp only [rIV, rJV, rAV, rLV, rQV, rV, reduceIte, Nat.reduceEqDiff]; exact hv1)) ?_
  refine Bod.ildG dc_397_146 (by repeat (first | exact q0 | exact sm_get_p1 | exact sm_get_p2e | refine sm_get_p1m (by decide) (by decide) ?_ | refine sm_get_p1n (by decide) rfl ?_ | refine sm_get_p2n (by decide) (by decide) rfl ?_ | refine sm_get_p2m (by decide) (by decide) (by decide) ?_)) ?_
  refine Bod.ialdN (N := N) a2 rfl (by omega) (by omega) dc_397_148 (mk_isI (by first | exact hg1 | exact isK_S (by simp only [rIS, rJS, rAS, rLS, rVS, rQS, rS_hold]) hg1)) ?_
  refine Bod.eqI (nI e) (by first | assumption | (simp (disch := omega) only [rIn, rIe, rA, rIA, rLA, rJA, rVI, rQI, rVA, rQA, upd_at,  rAI, rLI, rJI, nI_add, pk_sub, kc_0, kc_1, kc_2, kc_3, kc_4, kc_5, reduceIte, Nat.reduceEqDiff, Nat.add_zero, rI_hold, rI_hold, rL_hold, ht, he]; done) | (simp (disch := omega) only [rIn, rIe, rA, rIA, rLA, rJA, rVI, rQI, rVA, rQA, upd_at,  rAI, rLI, rJI, nI_add, pk_sub, kc_0, kc_1, kc_2, kc_3, kc_4, kc_5, reduceIte, Nat.reduceEqDiff, Nat.add_zero, rI_hold, rI_hold, rL_hold, ht, he]; exact congrArg nI (by omega))) ?_
  refine Bod.ic 3 (by decide) dc_397_149 ?_
  refine Bod.icF dc_397_150 rfl (k2_ne_F (k_eq e 3 rfl rfl (by omega))) ?_
  refine Bod.aldnG dc_397_153 (by repeat (first | exact q0 | exact sm_get_p1 | exact sm_get_p2e | refine sm_get_p1m (by decide) (by decide) ?_ | refine sm_get_p1n (by decide) rfl ?_ | refine sm_get_p2n (by decide) (by decide) rfl ?_ | refine sm_get_p2m (by decide) (by decide) (by decide) ?_)) ?_
  refine Bod.get dc_397_154 fr_397_485 (mk_61 _) rfl ?_
  refine Bod.aldnG dc_397_157 (by repeat (first | exact q0 | exact sm_get_p1 | exact sm_get_p2e | refine sm_get_p1m (by decide) (by decide) ?_ | refine sm_get_p1n (by decide) rfl ?_ | refine sm_get_p2n (by decide) (by decide) rfl ?_ | refine sm_get_p2m (by decide) (by decide) (by decide) ?_)) ?_
  refine Bod.get dc_397_158 fr_397_485 (mk_61 _) rfl ?_
  refine Bod.ildG dc_397_161 (by repeat (first | exact q0 | exact sm_get_p1 | exact sm_get_p2e | refine sm_get_p1m (by decide) (by decide) ?_ | refine sm_get_p1n (by decide) rfl ?_ | refine sm_get_p2n (by decide) (by decide) rfl ?_ | refine sm_get_p2m (by decide) (by decide) (by decide) ?_)) ?_
  refine Bod.aaldR (N := 1500) (b := g1) a1 rfl (by omega) (by omega) (by first | exact hq6 | (simp only [rIQ, rJQ, rAQ, rLQ, rVQ, rQ_holdE]; exact hq6)) dc_397_163 (mk_86 _) ht_5 ?_
  refine Bod.get dc_397_164 fr_397_465 (mk_thing ag1 (by first | exact hz2 | (simp only [rIS, rJS, rAS, rLS, rVS, rQS, rS_hold]; exact hz2))) rfl ?_
  refine Bod.eqV (.ref r1) (by first | exact hv2 | (simp only [rIV, rJV, rAV, rLV, rQV, rV, reduceIte, Nat.reduceEqDiff]; exact hv2)) ?_
  refine Bod.ildG dc_397_167 (by repeat (first | exact q0 | exact sm_get_p1 | exact sm_get_p2e | refine sm_get_p1m (by decide) (by decide) ?_ | refine sm_get_p1n (by decide) rfl ?_ | refine sm_get_p2n (by decide) (by decide) rfl ?_ | refine sm_get_p2m (by decide) (by decide) (by decide) ?_)) ?_
  refine Bod.laldN (N := N1) a2 rfl (by omega) (by omega) dc_397_169 (mk_isL (by first | exact hg2 | exact isK_S (by simp only [rIS, rJS, rAS, rLS, rVS, rQS, rS_hold]) hg2)) ?_
  refine Bod.go dc_397_170 rfl ?_
  refine Bod.eqI (nI o1) (by first | exact ho1 | (simp only [rIn, rIe, rA, rIA, rLA, rJA, rVI, rQI, rVA, rQA, upd_at,  rAI, rLI, rJI, nI_add, pk_sub, kc_0, kc_1, kc_2, kc_3, kc_4, kc_5, reduceIte, Nat.reduceEqDiff, Nat.add_zero, rI_hold, rI_hold, rL_hold]; exact ho1)) ?_
  refine Bod.aaldR (N := 1500) (b := g2) o1 rfl (by omega) (by omega) (by first | exact hq13 | (simp only [rIQ, rJQ, rAQ, rLQ, rVQ, rQ_holdE]; exact hq13)) dc_397_171 (mk_86 _) ht_5 ?_
  refine Bod.get dc_397_172 fr_397_531 (mk_thing ag2 (by first | exact hz3 | (simp only [rIS, rJS, rAS, rLS, rVS, rQS, rS_hold]; exact hz3))) rfl ?_
  refine Bod.eqI (nI fd0) (by first | assumption | (simp (disch := omega) only [rIn, rIe, rA, rIA, rLA, rJA, rVI, rQI, rVA, rQA, upd_at,  rAI, rLI, rJI, nI_add, pk_sub, kc_0, kc_1, kc_2, kc_3, kc_4, kc_5, reduceIte, Nat.reduceEqDiff, Nat.add_zero, rI_hold, rI_hold, rL_hold, ht, he, hfd0]; done) | (simp (disch := omega) only [rIn, rIe, rA, rIA, rLA, rJA, rVI, rQI, rVA, rQA, upd_at,  rAI, rLI, rJI, nI_add, pk_sub, kc_0, kc_1, kc_2, kc_3, kc_4, kc_5, reduceIte, Nat.reduceEqDiff, Nat.add_zero, rI_hold, rI_hold, rL_hold, ht, he, hfd0]; exact congrArg nI (by omega))) ?_
  refine Bod.ic 3 (by decide) dc_397_175 ?_
  refine Bod.icT dc_397_176 rfl (k2_ne_T (k_ne fd0 3 rfl rfl (by omega) (by omega) (by omega))) ?_
  refine Bod.ildnG dc_397_202 (by repeat (first | exact q2 | exact sm_get_p1 | exact sm_get_p2e | refine sm_get_p1m (by decide) (by decide) ?_ | refine sm_get_p1n (by decide) rfl ?_ | refine sm_get_p2n (by decide) (by decide) rfl ?_ | refine sm_get_p2m (by decide) (by decide) (by decide) ?_)) ?_
  refine Bod.ifT dc_397_203 rfl (k1_le_T (k_eq nn 0 (by first | assumption | (simp (disch := omega) only [rIn, rIe, rA, rIA, rLA, rJA, rVI, rQI, rVA, rQA, upd_at,  rAI, rLI, rJI, nI_add, pk_sub, kc_0, kc_1, kc_2, kc_3, kc_4, kc_5, reduceIte, Nat.reduceEqDiff, Nat.add_zero, rI_hold, rI_hold, rL_hold, ht, he, hfd0]; done) | (simp (disch := omega) only [rIn, rIe, rA, rIA, rLA, rJA, rVI, rQI, rVA, rQA, upd_at,  rAI, rLI, rJI, nI_add, pk_sub, kc_0, kc_1, kc_2, kc_3, kc_4, kc_5, reduceIte, Nat.reduceEqDiff, Nat.add_zero, rI_hold, rI_hold, rL_hold, ht, he, hfd0]; exact congrArg nI (by omega))) rfl (by omega))) ?_
  refine Bod.aldnG dc_397_212 (by repeat (first | exact q0 | exact sm_get_p1 | exact sm_get_p2e | refine sm_get_p1m (by decide) (by decide) ?_ | refine sm_get_p1n (by decide) rfl ?_ | refine sm_get_p2n (by decide) (by decide) rfl ?_ | refine sm_get_p2m (by decide) (by decide) (by decide) ?_)) ?_
  refine Bod.ildnG dc_397_213 (by repeat (first | exact q1 | exact sm_get_p1 | exact sm_get_p2e | refine sm_get_p1m (by decide) (by decide) ?_ | refine sm_get_p1n (by decide) rfl ?_ | refine sm_get_p2n (by decide) (by decide) rfl ?_ | refine sm_get_p2m (by decide) (by decide) (by decide) ?_)) ?_
  refine Bod.ic 1 (by decide) dc_397_214 ?_
  refine Bod.addN (ba + 1) (by omega) dc_397_215 ?_
  refine Bod.ildnG dc_397_216 (by repeat (first | exact q1 | exact sm_get_p1 | exact sm_get_p2e | refine sm_get_p1m (by decide) (by decide) ?_ | refine sm_get_p1n (by decide) rfl ?_ | refine sm_get_p2n (by decide) (by decide) rfl ?_ | refine sm_get_p2m (by decide) (by decide) (by decide) ?_)) ?_
  refine Bod.virt (r := []) dc_397_217 kr_397_672 ⟨Or.inl rfl, ow_391, cl_14⟩ (by rw [np_391]; rfl) (by rw [np_391]; rfl) (ob_of (mk_61 _)) (Nat.le_of_ble_eq_true rfl) (c4  ) ?_
  show Bod _ _ _ _ [] _ _ _
  refine Bod.aldnG dc_397_220 (by repeat (first | exact q0 | exact sm_get_p1 | exact sm_get_p2e | refine sm_get_p1m (by decide) (by decide) ?_ | refine sm_get_p1n (by decide) rfl ?_ | refine sm_get_p2n (by decide) (by decide) rfl ?_ | refine sm_get_p2m (by decide) (by decide) (by decide) ?_)) ?_
  refine Bod.ildnG dc_397_221 (by repeat (first | exact q1 | exact sm_get_p1 | exact sm_get_p2e | refine sm_get_p1m (by decide) (by decide) ?_ | refine sm_get_p1n (by decide) rfl ?_ | refine sm_get_p2n (by decide) (by decide) rfl ?_ | refine sm_get_p2m (by decide) (by decide) (by decide) ?_)) ?_
  refine Bod.ic 1 (by decide) dc_397_222 ?_
  refine Bod.addN (ba + 1) (by omega) dc_397_223 ?_
  refine Bod.put dc_397_224 fr_397_493 (mk_61 _) (Nat.le_of_ble_eq_true rfl) pf_14_51 (st_6151 _ _) (mu_I _ _ _) ?_
  refine Bod.ic 1 (by decide) dc_397_227 ?_
  exact Bod.retZ dc_397_228 rt_397 (Or.inr rfl)
theorem rMkB_4 {d : Nat} {S : cS} {lv : sm_L} {ba : Nat} {nn : Nat} {io : Nat} {t : Nat} {S1 : cS} {a : Nat} {o : Nat} {S2 : cS} {a1 : Nat} {g : Nat} {zg : Nat} {S3 : cS} {a2 : Nat} {g1 : Nat} {zg1 : Nat} {r : Nat} {N : Nat} {e : Nat} {r1 : Nat} {N1 : Nat} {o1 : Nat} {g2 : Nat} {zg2 : Nat} {fd0 : Nat} {S4 : cS} (q0 : sm_get lv 0 = some (.ref 61)) (q1 : sm_get lv 1 = some (.int (nI ba))) (q2 : sm_get lv 2 = some (.int (nI nn))) (q3 : sm_get lv 3 = some (.int (nI io))) (mba : ba < 2 ^ 20) (mnn : nn < 2 ^ 20) (mio : io < 2 ^ 20) (b1 : ba + 1 < 20480) (ht : sI (wL 92 (ba + 1) ((nI io).toInt64) (wA 91 (ba + 1) (nI 3) S)) 6151 = nI t) (mt : t < 20481) (ma : a < 2 ^ 20) (c1 : Ans (d + 8) 294 [.ref 61, .ref 105, .int (nI 0), .int (nI 4)] (wI 6151 (nI (t + 1)) (wL 92 (ba + 1) ((nI io).toInt64) (wA 91 (ba + 1) (nI 3) S))) (some (.int (nI a))) S1) (b2 : ba < 20480) (ho : (sL S1 92 ba).toInt32 = nI o) (mo : o < 1500) (ma1 : a1 < 1500) (c2 : Ans (d + 8) 398 [.ref 61, .int (nI o), .int (nI a)] S1 (some (.int (nI a1))) S2) (ag : 108 ≤ g) (hq3 : sQ S2 86 a1 = some g) (ma2 : a2 < 2 ^ 20) (c3 : Ans (d + 8) 399 [.ref g, .int (nI 0), .long ((nI a).toInt64), .long 0] S2 (some (.int (nI a2))) S3) (hz1 : (sS S2)[g - 108]? = some (13, zg)) (ag1 : 108 ≤ g1) (hq6 : sQ S3 86 a1 = some g1) (hz2 : (sS S3)[g1 - 108]? = some (13, zg1)) (hv1 : sV S3 (100 * g1 + 2) = .ref r) (hg1 : isK S3 r 0 N) (mN : N < 2 ^ 20) (b3 : a2 < N) (he : sA S3 r a2 = nI e) (me : e < 2 ^ 20) (b4 : e = 3) (hv2 : sV S3 (100 * g1 + 4) = .ref r1) (hg2 : isK S3 r1 1 N1) (mN1 : N1 < 2 ^ 20) (b5 : a2 < N1) (ho1 : (sL S3 r1 a2).toInt32 = nI o1) (mo1 : o1 < 1500) (ag2 : 108 ≤ g2) (hq13 : sQ S3 86 o1 = some g2) (hz3 : (sS S3)[g2 - 108]? = some (13, zg2)) (hfd0 : sI S3 (100 * g2 + 0) = nI fd0) (mfd0 : fd0 < 2 ^ 20) (b6 : fd0 ≠ 3) (b7 : 0 < nn) (c4 : Ans (d + 8) 351 [.ref 61, .int (nI 2)] S3 (some (.int (nI 0))) S4) : Bod (d + 8) 397 58 lv [] S (some (.int 0)) (S4) := by
  refine Bod.aldnG dc_397_58 (by repeat (first | exact q0 | exact sm_get_p1 | exact sm_get_p2e | refine sm_get_p1m (by decide) (by decide) ?_ | refine sm_get_p1n (by decide) rfl ?_ | refine sm_get_p2n (by decide) (by decide) rfl ?_ | refine sm_get_p2m (by decide) (by decide) (by decide) ?_)) ?_
  refine Bod.get dc_397_59 fr_397_496 (mk_61 _) rfl ?_
  refine Bod.ildnG dc_397_62 (by repeat (first | exact q1 | exact sm_get_p1 | exact sm_get_p2e | refine sm_get_p1m (by decide) (by decide) ?_ | refine sm_get_p1n (by decide) rfl ?_ | refine sm_get_p2n (by decide) (by decide) rfl ?_ | refine sm_get_p2m (by decide) (by decide) (by decide) ?_)) ?_
  refine Bod.ic 1 (by decide) dc_397_63 ?_
  refine Bod.addN (ba + 1) (by omega) dc_397_64 ?_
  refine Bod.ic 3 (by decide) dc_397_65 ?_
  refine Bod.iastN (ba + 1) rfl (by omega) (by omega) dc_397_66 (mk_91 _) (sa_91 _ _ _) (mu_A _ _ _ _) ?_
  refine Bod.aldnG dc_397_67 (by repeat (first | exact q0 | exact sm_get_p1 | exact sm_get_p2e | refine sm_get_p1m (by decide) (by decide) ?_ | refine sm_get_p1n (by decide) rfl ?_ | refine sm_get_p2n (by decide) (by decide) rfl ?_ | refine sm_get_p2m (by decide) (by decide) (by decide) ?_)) ?_
  refine Bod.get dc_397_68 fr_397_499 (mk_61 _) rfl ?_
  refine Bod.ildnG dc_397_71 (by repeat (first | exact q1 | exact sm_get_p1 | exact sm_get_p2e | refine sm_get_p1m (by decide) (by decide) ?_ | refine sm_get_p1n (by decide) rfl ?_ | refine sm_get_p2n (by decide) (by decide) rfl ?_ | refine sm_get_p2m (by decide) (by decide) (by decide) ?_)) ?_
  refine Bod.ic 1 (by decide) dc_397_72 ?_
  refine Bod.addN (ba + 1) (by omega) dc_397_73 ?_
  refine Bod.ildnG dc_397_74 (by repeat (first | exact q3 | exact sm_get_p1 | exact sm_get_p2e | refine sm_get_p1m (by decide) (by decide) ?_ | refine sm_get_p1n (by decide) rfl ?_ | refine sm_get_p2n (by decide) (by decide) rfl ?_ | refine sm_get_p2m (by decide) (by decide) (by decide) ?_)) ?_
  refine Bod.go dc_397_75 rfl ?_
  refine Bod.lastN (ba + 1) rfl (by omega) (by omega) dc_397_76 (mk_92 _) (sa_92 _ _ _) (mu_L _ _ _ _) ?_
  refine Bod.aldnG dc_397_77 (by repeat (first | exact q0 | exact sm_get_p1 | exact sm_get_p2e | refine sm_get_p1m (by decide) (by decide) ?_ | refine sm_get_p1n (by decide) rfl ?_ | refine sm_get_p2n (by decide) (by decide) rfl ?_ | refine sm_get_p2m (by decide) (by decide) (by decide) ?_)) ?_
  refine Bod.go dc_397_78 rfl ?_
  refine Bod.get dc_397_79 fr_397_493 (mk_61 _) rfl ?_
  refine Bod.eqI (nI t) (by first | assumption | (simp (disch := omega) only [rIn, rIe, rA, rIA, rLA, rJA, rVI, rQI, rVA, rQA, upd_at,  rAI, rLI, rJI, nI_add, pk_sub, kc_0, kc_1, kc_2, kc_3, kc_4, kc_5, reduceIte, Nat.reduceEqDiff, Nat.add_zero, rI_hold, rI_hold, rL_hold, ht]; done) | (simp (disch := omega) only [rIn, rIe, rA, rIA, rLA, rJA, rVI, rQI, rVA, rQA, upd_at,  rAI, rLI, rJI, nI_add, pk_sub, kc_0, kc_1, kc_2, kc_3, kc_4, kc_5, reduceIte, Nat.reduceEqDiff, Nat.add_zero, rI_hold, rI_hold, rL_hold, ht]; exact congrArg nI (by omega))) ?_
  refine Bod.ic 1 (by decide) dc_397_82 ?_
  refine Bod.addN (t + 1) (by omega) dc_397_83 ?_
  refine Bod.put dc_397_84 fr_397_493 (mk_61 _) (Nat.le_of_ble_eq_true rfl) pf_14_51 (st_6151 _ _) (mu_I _ _ _) ?_
  refine Bod.aldnG dc_397_87 (by repeat (first | exact q0 | exact sm_get_p1 | exact sm_get_p2e | refine sm_get_p1m (by decide) (by decide) ?_ | refine sm_get_p1n (by decide) rfl ?_ | refine sm_get_p2n (by decide) (by decide) rfl ?_ | refine sm_get_p2m (by decide) (by decide) (by decide) ?_)) ?_
  refine Bod.aldnG dc_397_88 (by repeat (first | exact q0 | exact sm_get_p1 | exact sm_get_p2e | refine sm_get_p1m (by decide) (by decide) ?_ | refine sm_get_p1n (by decide) rfl ?_ | refine sm_get_p2n (by decide) (by decide) rfl ?_ | refine sm_get_p2m (by decide) (by decide) (by decide) ?_)) ?_
  refine Bod.get dc_397_89 fr_397_790 (mk_61 _) rfl ?_
  refine Bod.ic 0 (by decide) dc_397_92 ?_
  refine Bod.ic 4 (by decide) dc_397_93 ?_
  refine Bod.virt (r := []) dc_397_94 kr_397_166 ⟨Or.inl rfl, ow_294, cl_14⟩ (by rw [np_294]; rfl) (by rw [np_294]; rfl) (ob_of (mk_61 _)) (Nat.le_of_ble_eq_true rfl) (c1  ) ?_
  show Bod _ _ _ _ [_] _ _ _
  refine Bod.ist dc_397_97 (by rw [ml_397]; exact Nat.le_of_ble_eq_true rfl) ?_
  refine Bod.aldnG dc_397_99 (by repeat (first | exact q0 | exact sm_get_p1 | exact sm_get_p2e | refine sm_get_p1m (by decide) (by decide) ?_ | refine sm_get_p1n (by decide) rfl ?_ | refine sm_get_p2n (by decide) (by decide) rfl ?_ | refine sm_get_p2m (by decide) (by decide) (by decide) ?_)) ?_
  refine Bod.aldnG dc_397_100 (by repeat (first | exact q0 | exact sm_get_p1 | exact sm_get_p2e | refine sm_get_p1m (by decide) (by decide) ?_ | refine sm_get_p1n (by decide) rfl ?_ | refine sm_get_p2n (by decide) (by decide) rfl ?_ | refine sm_get_p2m (by decide) (by decide) (by decide) ?_)) ?_
  refine Bod.get dc_397_101 fr_397_499 (mk_61 _) rfl ?_
  refine Bod.ildnG dc_397_104 (by repeat (first | exact q1 | exact sm_get_p1 | exact sm_get_p2e | refine sm_get_p1m (by decide) (by decide) ?_ | refine sm_get_p1n (by decide) rfl ?_ | refine sm_get_p2n (by decide) (by decide) rfl ?_ | refine sm_get_p2m (by decide) (by decide) (by decide) ?_)) ?_
  refine Bod.laldN ba rfl (by omega) (by omega) dc_397_105 (mk_92 _) ?_
  refine Bod.go dc_397_106 rfl ?_
  refine Bod.eqI (nI o) (by first | exact ho | (simp only [rIn, rIe, rA, rIA, rLA, rJA, rVI, rQI, rVA, rQA, upd_at,  rAI, rLI, rJI, nI_add, pk_sub, kc_0, kc_1, kc_2, kc_3, kc_4, kc_5, reduceIte, Nat.reduceEqDiff, Nat.add_zero, rI_hold, rI_hold, rL_hold]; exact ho)) ?_
  refine Bod.ildG dc_397_107 (by repeat (first | exact q0 | exact sm_get_p1 | exact sm_get_p2e | refine sm_get_p1m (by decide) (by decide) ?_ | refine sm_get_p1n (by decide) rfl ?_ | refine sm_get_p2n (by decide) (by decide) rfl ?_ | refine sm_get_p2m (by decide) (by decide) (by decide) ?_)) ?_
  refine Bod.virt (r := []) dc_397_109 kr_397_777 ⟨Or.inl rfl, ow_398, cl_14⟩ (by rw [np_398]; rfl) (by rw [np_398]; rfl) (ob_of (mk_61 _)) (Nat.le_of_ble_eq_true rfl) (c2  ) ?_
  show Bod _ _ _ _ [_] _ _ _
  refine Bod.ist dc_397_112 (by rw [ml_397]; exact Nat.le_of_ble_eq_true rfl) ?_
  refine Bod.ildG dc_397_114 (by repeat (first | exact q0 | exact sm_get_p1 | exact sm_get_p2e | refine sm_get_p1m (by decide) (by decide) ?_ | refine sm_get_p1n (by decide) rfl ?_ | refine sm_get_p2n (by decide) (by decide) rfl ?_ | refine sm_get_p2m (by decide) (by decide) (by decide) ?_)) ?_
  refine Bod.ifF dc_397_116 rfl (k1_lt_F a1 rfl (by omega)) ?_
  refine Bod.aldnG dc_397_119 (by repeat (first | exact q0 | exact sm_get_p1 | exact sm_get_p2e | refine sm_get_p1m (by decide) (by decide) ?_ | refine sm_get_p1n (by decide) rfl ?_ | refine sm_get_p2n (by decide) (by decide) rfl ?_ | refine sm_get_p2m (by decide) (by decide) (by decide) ?_)) ?_
  refine Bod.get dc_397_120 fr_397_485 (mk_61 _) rfl ?_
  refine Bod.ildG dc_397_123 (by repeat (first | exact q0 | exact sm_get_p1 | exact sm_get_p2e | refine sm_get_p1m (by decide) (by decide) ?_ | refine sm_get_p1n (by decide) rfl ?_ | refine sm_get_p2n (by decide) (by decide) rfl ?_ | refine sm_get_p2m (by decide) (by decide) (by decide) ?_)) ?_
  refine Bod.aaldR (N := 1500) (b := g) a1 rfl (by omega) (by omega) (by first | exact hq3 | (simp only [rIQ, rJQ, rAQ, rLQ, rVQ, rQ_holdE]; exact hq3)) dc_397_125 (mk_86 _) ht_5 ?_
  refine Bod.ic 0 (by decide) dc_397_126 ?_
  refine Bod.ildG dc_397_127 (by repeat (first | exact q0 | exact sm_get_p1 | exact sm_get_p2e | refine sm_get_p1m (by decide) (by decide) ?_ | refine sm_get_p1n (by decide) rfl ?_ | refine sm_get_p2n (by decide) (by decide) rfl ?_ | refine sm_get_p2m (by decide) (by decide) (by decide) ?_)) ?_
  refine Bod.go dc_397_129 rfl ?_
  refine Bod.go dc_397_130 rfl ?_
  refine Bod.virt (r := []) dc_397_131 kr_397_764 ⟨Or.inl rfl, ow_399, cl_13⟩ (by rw [np_399]; rfl) (by rw [np_399]; rfl) (ob_of (mk_thing ag (by first | exact hz1 | (simp only [rIS, rJS, rAS, rLS, rVS, rQS, rS_hold]; exact hz1)))) (Nat.le_of_ble_eq_true rfl) (c3  ) ?_
  show Bod _ _ _ _ [_] _ _ _
  refine Bod.ist dc_397_134 (by rw [ml_397]; exact Nat.le_of_ble_eq_true rfl) ?_
  refine Bod.aldnG dc_397_136 (by repeat (first | exact q0 | exact sm_get_p1 | exact sm_get_p2e | refine sm_get_p1m (by decide) (by decide) ?_ | refine sm_get_p1n (by decide) rfl ?_ | refine sm_get_p2n (by decide) (by decide) rfl ?_ | refine sm_get_p2m (by decide) (by decide) (by decide) ?_)) ?_
  refine Bod.get dc_397_137 fr_397_485 (mk_61 _) rfl ?_
  refine Bod.ildG dc_397_140 (by repeat (first | exact q0 | exact sm_get_p1 | exact sm_get_p2e | refine sm_get_p1m (by decide) (by decide) ?_ | refine sm_get_p1n (by decide) rfl ?_ | refine sm_get_p2n (by decide) (by decide) rfl ?_ | refine sm_get_p2m (by decide) (by decide) (by decide) ?_)) ?_
  refine Bod.aaldR (N := 1500) (b := g1) a1 rfl (by omega) (by omega) (by first | exact hq6 | (simp only [rIQ, rJQ, rAQ, rLQ, rVQ, rQ_holdE]; exact hq6)) dc_397_142 (mk_86 _) ht_5 ?_
  refine Bod.get dc_397_143 fr_397_462 (mk_thing ag1 (by first | exact hz2 | (simp only [rIS, rJS, rAS, rLS, rVS, rQS, rS_hold]; exact hz2))) rfl ?_
  refine Bod.eqV (.ref r) (by first | exact hv1 | (simp only [rIV, rJV, rAV, rLV, rQV, rV, reduceIte, Nat.reduceEqDiff]; exact hv1)) ?_
  refine Bod.ildG dc_397_146 (by repeat (first | exact q0 | exact sm_get_p1 | exact sm_get_p2e | refine sm_get_p1m (by decide) (by decide) ?_ | refine sm_get_p1n (by decide) rfl ?_ | refine sm_get_p2n (by decide) (by decide) rfl ?_ | refine sm_get_p2m (by decide) (by decide) (by decide) ?_)) ?_
  refine Bod.ialdN (N := N) a2 rfl (by omega) (by omega) dc_397_148 (mk_isI (by first | exact hg1 | exact isK_S (by simp only [rIS, rJS, rAS, rLS, rVS, rQS, rS_hold]) hg1)) ?_
  refine Bod.eqI (nI e) (by first | assumption | (simp (disch := omega) only [rIn, rIe, rA, rIA, rLA, rJA, rVI, rQI, rVA, rQA, upd_at,  rAI, rLI, rJI, nI_add, pk_sub, kc_0, kc_1, kc_2, kc_3, kc_4, kc_5, reduceIte, Nat.reduceEqDiff, Nat.add_zero, rI_hold, rI_hold, rL_hold, ht, he]; done) | (simp (disch := omega) only [rIn, rIe, rA, rIA, rLA, rJA, rVI, rQI, rVA, rQA, upd_at,  rAI, rLI, rJI, nI_add, pk_sub, kc_0, kc_1, kc_2, kc_3, kc_4, kc_5, reduceIte, Nat.reduceEqDiff, Nat.add_zero, rI_hold, rI_hold, rL_hold, ht, he]; exact congrArg nI (by omega))) ?_
  refine Bod.ic 3 (by decide) dc_397_149 ?_
  refine Bod.icF dc_397_150 rfl (k2_ne_F (k_eq e 3 rfl rfl (by omega))) ?_
  refine Bod.aldnG dc_397_153 (by repeat (first | exact q0 | exact sm_get_p1 | exact sm_get_p2e | refine sm_get_p1m (by decide) (by decide) ?_ | refine sm_get_p1n (by decide) rfl ?_ | refine sm_get_p2n (by decide) (by decide) rfl ?_ | refine sm_get_p2m (by decide) (by decide) (by decide) ?_)) ?_
  refine Bod.get dc_397_154 fr_397_485 (mk_61 _) rfl ?_
  refine Bod.aldnG dc_397_157 (by repeat (first | exact q0 | exact sm_get_p1 | exact sm_get_p2e | refine sm_get_p1m (by decide) (by decide) ?_ | refine sm_get_p1n (by decide) rfl ?_ | refine sm_get_p2n (by decide) (by decide) rfl ?_ | refine sm_get_p2m (by decide) (by decide) (by decide) ?_)) ?_
  refine Bod.get dc_397_158 fr_397_485 (mk_61 _) rfl ?_
  refine Bod.ildG dc_397_161 (by repeat (first | exact q0 | exact sm_get_p1 | exact sm_get_p2e | refine sm_get_p1m (by decide) (by decide) ?_ | refine sm_get_p1n (by decide) rfl ?_ | refine sm_get_p2n (by decide) (by decide) rfl ?_ | refine sm_get_p2m (by decide) (by decide) (by decide) ?_)) ?_
  refine Bod.aaldR (N := 1500) (b := g1) a1 rfl (by omega) (by omega) (by first | exact hq6 | (simp only [rIQ, rJQ, rAQ, rLQ, rVQ, rQ_holdE]; exact hq6)) dc_397_163 (mk_86 _) ht_5 ?_
  refine Bod.get dc_397_164 fr_397_465 (mk_thing ag1 (by first | exact hz2 | (simp only [rIS, rJS, rAS, rLS, rVS, rQS, rS_hold]; exact hz2))) rfl ?_
  refine Bod.eqV (.ref r1) (by first | exact hv2 | (simp only [rIV, rJV, rAV, rLV, rQV, rV, reduceIte, Nat.reduceEqDiff]; exact hv2)) ?_
  refine Bod.ildG dc_397_167 (by repeat (first | exact q0 | exact sm_get_p1 | exact sm_get_p2e | refine sm_get_p1m (by decide) (by decide) ?_ | refine sm_get_p1n (by decide) rfl ?_ | refine sm_get_p2n (by decide) (by decide) rfl ?_ | refine sm_get_p2m (by decide) (by decide) (by decide) ?_)) ?_
  refine Bod.laldN (N := N1) a2 rfl (by omega) (by omega) dc_397_169 (mk_isL (by first | exact hg2 | exact isK_S (by simp only [rIS, rJS, rAS, rLS, rVS, rQS, rS_hold]) hg2)) ?_
  refine Bod.go dc_397_170 rfl ?_
  refine Bod.eqI (nI o1) (by first | exact ho1 | (simp only [rIn, rIe, rA, rIA, rLA, rJA, rVI, rQI, rVA, rQA, upd_at,  rAI, rLI, rJI, nI_add, pk_sub, kc_0, kc_1, kc_2, kc_3, kc_4, kc_5, reduceIte, Nat.reduceEqDiff, Nat.add_zero, rI_hold, rI_hold, rL_hold]; exact ho1)) ?_
  refine Bod.aaldR (N := 1500) (b := g2) o1 rfl (by omega) (by omega) (by first | exact hq13 | (simp only [rIQ, rJQ, rAQ, rLQ, rVQ, rQ_holdE]; exact hq13)) dc_397_171 (mk_86 _) ht_5 ?_
  refine Bod.get dc_397_172 fr_397_531 (mk_thing ag2 (by first | exact hz3 | (simp only [rIS, rJS, rAS, rLS, rVS, rQS, rS_hold]; exact hz3))) rfl ?_
  refine Bod.eqI (nI fd0) (by first | assumption | (simp (disch := omega) only [rIn, rIe, rA, rIA, rLA, rJA, rVI, rQI, rVA, rQA, upd_at,  rAI, rLI, rJI, nI_add, pk_sub, kc_0, kc_1, kc_2, kc_3, kc_4, kc_5, reduceIte, Nat.reduceEqDiff, Nat.add_zero, rI_hold, rI_hold, rL_hold, ht, he, hfd0]; done) | (simp (disch := omega) only [rIn, rIe, rA, rIA, rLA, rJA, rVI, rQI, rVA, rQA, upd_at,  rAI, rLI, rJI, nI_add, pk_sub, kc_0, kc_1, kc_2, kc_3, kc_4, kc_5, reduceIte, Nat.reduceEqDiff, Nat.add_zero, rI_hold, rI_hold, rL_hold, ht, he, hfd0]; exact congrArg nI (by omega))) ?_
  refine Bod.ic 3 (by decide) dc_397_175 ?_
  refine Bod.icT dc_397_176 rfl (k2_ne_T (k_ne fd0 3 rfl rfl (by omega) (by omega) (by omega))) ?_
  refine Bod.ildnG dc_397_202 (by repeat (first | exact q2 | exact sm_get_p1 | exact sm_get_p2e | refine sm_get_p1m (by decide) (by decide) ?_ | refine sm_get_p1n (by decide) rfl ?_ | refine sm_get_p2n (by decide) (by decide) rfl ?_ | refine sm_get_p2m (by decide) (by decide) (by decide) ?_)) ?_
  refine Bod.ifF dc_397_203 rfl (k1_le_F nn rfl (by omega) (by omega)) ?_
  refine Bod.aldnG dc_397_206 (by repeat (first | exact q0 | exact sm_get_p1 | exact sm_get_p2e | refine sm_get_p1m (by decide) (by decide) ?_ | refine sm_get_p1n (by decide) rfl ?_ | refine sm_get_p2n (by decide) (by decide) rfl ?_ | refine sm_get_p2m (by decide) (by decide) (by decide) ?_)) ?_
  refine Bod.ic 2 (by decide) dc_397_207 ?_
  refine Bod.virt (r := []) dc_397_208 kr_397_608 ⟨Or.inl rfl, ow_351, cl_14⟩ (by rw [np_351]; rfl) (by rw [np_351]; rfl) (ob_of (mk_61 _)) (Nat.le_of_ble_eq_true rfl) (c4  ) ?_
  show Bod _ _ _ _ [_] _ _ _
  exact Bod.retZ dc_397_211 rt_397 (Or.inl rfl)
theorem rMkB_5 {d : Nat} {S : cS} {lv : sm_L} {ba : Nat} {nn : Nat} {io : Nat} {t : Nat} {S1 : cS} {a : Nat} {o : Nat} {S2 : cS} {a1 : Nat} {g : Nat} {zg : Nat} {S3 : cS} {a2 : Nat} {g1 : Nat} {zg1 : Nat} {r : Nat} {N : Nat} {e : Nat} {r1 : Nat} {N1 : Nat} {o1 : Nat} {g2 : Nat} {zg2 : Nat} {fd0 : Nat} {S4 : cS} (q0 : sm_get lv 0 = some (.ref 61)) (q1 : sm_get lv 1 = some (.int (nI ba))) (q2 : sm_get lv 2 = some (.int (nI nn))) (q3 : sm_get lv 3 = some (.int (nI io))) (mba : ba < 2 ^ 20) (mnn : nn < 2 ^ 20) (mio : io < 2 ^ 20) (b1 : ba + 1 < 20480) (ht : sI (wL 92 (ba + 1) ((nI io).toInt64) (wA 91 (ba + 1) (nI 3) S)) 6151 = nI t) (mt : t < 20481) (ma : a < 2 ^ 20) (c1 : Ans (d + 8) 294 [.ref 61, .ref 105, .int (nI 0), .int (nI 4)] (wI 6151 (nI (t + 1)) (wL 92 (ba + 1) ((nI io).toInt64) (wA 91 (ba + 1) (nI 3) S))) (some (.int (nI a))) S1) (b2 : ba < 20480) (ho : (sL S1 92 ba).toInt32 = nI o) (mo : o < 1500) (ma1 : a1 < 1500) (c2 : Ans (d + 8) 398 [.ref 61, .int (nI o), .int (nI a)] S1 (some (.int (nI a1))) S2) (ag : 108 ≤ g) (hq3 : sQ S2 86 a1 = some g) (ma2 : a2 < 2 ^ 20) (c3 : Ans (d + 8) 399 [.ref g, .int (nI 0), .long ((nI a).toInt64), .long 0] S2 (some (.int (nI a2))) S3) (hz1 : (sS S2)[g - 108]? = some (13, zg)) (ag1 : 108 ≤ g1) (hq6 : sQ S3 86 a1 = some g1) (hz2 : (sS S3)[g1 - 108]? = some (13, zg1)) (hv1 : sV S3 (100 * g1 + 2) = .ref r) (hg1 : isK S3 r 0 N) (mN : N < 2 ^ 20) (b3 : a2 < N) (he : sA S3 r a2 = nI e) (me : e < 2 ^ 20) (b4 : e = 3) (hv2 : sV S3 (100 * g1 + 4) = .ref r1) (hg2 : isK S3 r1 1 N1) (mN1 : N1 < 2 ^ 20) (b5 : a2 < N1) (ho1 : (sL S3 r1 a2).toInt32 = nI o1) (mo1 : o1 < 1500) (ag2 : 108 ≤ g2) (hq13 : sQ S3 86 o1 = some g2) (hz3 : (sS S3)[g2 - 108]? = some (13, zg2)) (hfd0 : sI S3 (100 * g2 + 0) = nI fd0) (mfd0 : fd0 < 2 ^ 20) (b6 : fd0 = 3) (c4 : Ans (d + 8) 396 [.ref 61, .int (nI o1), .int (nI ba), .int (nI nn), .int (nI io), .int (nI 1)] S3 (some (.int (nI 1))) S4) : Bod (d + 8) 397 58 lv [] S (some (.int 1)) (S4) := by
  refine Bod.aldnG dc_397_58 (by repeat (first | exact q0 | exact sm_get_p1 | exact sm_get_p2e | refine sm_get_p1m (by decide) (by decide) ?_ | refine sm_get_p1n (by decide) rfl ?_ | refine sm_get_p2n (by decide) (by decide) rfl ?_ | refine sm_get_p2m (by decide) (by decide) (by decide) ?_)) ?_
  refine Bod.get dc_397_59 fr_397_496 (mk_61 _) rfl ?_
  refine Bod.ildnG dc_397_62 (by repeat (first | exact q1 | exact sm_get_p1 | exact sm_get_p2e | refine sm_get_p1m (by decide) (by decide) ?_ | refine sm_get_p1n (by decide) rfl ?_ | refine sm_get_p2n (by decide) (by decide) rfl ?_ | refine sm_get_p2m (by decide) (by decide) (by decide) ?_)) ?_
  refine Bod.ic 1 (by decide) dc_397_63 ?_
  refine Bod.addN (ba + 1) (by omega) dc_397_64 ?_
  refine Bod.ic 3 (by decide) dc_397_65 ?_
  refine Bod.iastN (ba + 1) rfl (by omega) (by omega) dc_397_66 (mk_91 _) (sa_91 _ _ _) (mu_A _ _ _ _) ?_
  refine Bod.aldnG dc_397_67 (by repeat (first | exact q0 | exact sm_get_p1 | exact sm_get_p2e | refine sm_get_p1m (by decide) (by decide) ?_ | refine sm_get_p1n (by decide) rfl ?_ | refine sm_get_p2n (by decide) (by decide) rfl ?_ | refine sm_get_p2m (by decide) (by decide) (by decide) ?_)) ?_
  refine Bod.get dc_397_68 fr_397_499 (mk_61 _) rfl ?_
  refine Bod.ildnG dc_397_71 (by repeat (first | exact q1 | exact sm_get_p1 | exact sm_get_p2e | refine sm_get_p1m (by decide) (by decide) ?_ | refine sm_get_p1n (by decide) rfl ?_ | refine sm_get_p2n (by decide) (by decide) rfl ?_ | refine sm_get_p2m (by decide) (by decide) (by decide) ?_)) ?_
  refine Bod.ic 1 (by decide) dc_397_72 ?_
  refine Bod.addN (ba + 1) (by omega) dc_397_73 ?_
  refine Bod.ildnG dc_397_74 (by repeat (first | exact q3 | exact sm_get_p1 | exact sm_get_p2e | refine sm_get_p1m (by decide) (by decide) ?_ | refine sm_get_p1n (by decide) rfl ?_ | refine sm_get_p2n (by decide) (by decide) rfl ?_ | refine sm_get_p2m (by decide) (by decide) (by decide) ?_)) ?_
  refine Bod.go dc_397_75 rfl ?_
  refine Bod.lastN (ba + 1) rfl (by omega) (by omega) dc_397_76 (mk_92 _) (sa_92 _ _ _) (mu_L _ _ _ _) ?_
  refine Bod.aldnG dc_397_77 (by repeat (first | exact q0 | exact sm_get_p1 | exact sm_get_p2e | refine sm_get_p1m (by decide) (by decide) ?_ | refine sm_get_p1n (by decide) rfl ?_ | refine sm_get_p2n (by decide) (by decide) rfl ?_ | refine sm_get_p2m (by decide) (by decide) (by decide) ?_)) ?_
  refine Bod.go dc_397_78 rfl ?_
  refine Bod.get dc_397_79 fr_397_493 (mk_61 _) rfl ?_
  refine Bod.eqI (nI t) (by first | assumption | (simp (disch := omega) only [rIn, rIe, rA, rIA, rLA, rJA, rVI, rQI, rVA, rQA, upd_at,  rAI, rLI, rJI, nI_add, pk_sub, kc_0, kc_1, kc_2, kc_3, kc_4, kc_5, reduceIte, Nat.reduceEqDiff, Nat.add_zero, rI_hold, rI_hold, rL_hold, ht]; done) | (simp (disch := omega) only [rIn, rIe, rA, rIA, rLA, rJA, rVI, rQI, rVA, rQA, upd_at,  rAI, rLI, rJI, nI_add, pk_sub, kc_0, kc_1, kc_2, kc_3, kc_4, kc_5, reduceIte, Nat.reduceEqDiff, Nat.add_zero, rI_hold, rI_hold, rL_hold, ht]; exact congrArg nI (by omega))) ?_
  refine Bod.ic 1 (by decide) dc_397_82 ?_
  refine Bod.addN (t + 1) (by omega) dc_397_83 ?_
  refine Bod.put dc_397_84 fr_397_493 (mk_61 _) (Nat.le_of_ble_eq_true rfl) pf_14_51 (st_6151 _ _) (mu_I _ _ _) ?_
  refine Bod.aldnG dc_397_87 (by repeat (first | exact q0 | exact sm_get_p1 | exact sm_get_p2e | refine sm_get_p1m (by decide) (by decide) ?_ | refine sm_get_p1n (by decide) rfl ?_ | refine sm_get_p2n (by decide) (by decide) rfl ?_ | refine sm_get_p2m (by decide) (by decide) (by decide) ?_)) ?_
  refine Bod.aldnG dc_397_88 (by repeat (first | exact q0 | exact sm_get_p1 | exact sm_get_p2e | refine sm_get_p1m (by decide) (by decide) ?_ | refine sm_get_p1n (by decide) rfl ?_ | refine sm_get_p2n (by decide) (by decide) rfl ?_ | refine sm_get_p2m (by decide) (by decide) (by decide) ?_)) ?_
  refine Bod.get dc_397_89 fr_397_790 (mk_61 _) rfl ?_
  refine Bod.ic 0 (by decide) dc_397_92 ?_
  refine Bod.ic 4 (by decide) dc_397_93 ?_
  refine Bod.virt (r := []) dc_397_94 kr_397_166 ⟨Or.inl rfl, ow_294, cl_14⟩ (by rw [np_294]; rfl) (by rw [np_294]; rfl) (ob_of (mk_61 _)) (Nat.le_of_ble_eq_true rfl) (c1  ) ?_
  show Bod _ _ _ _ [_] _ _ _
  refine Bod.ist dc_397_97 (by rw [ml_397]; exact Nat.le_of_ble_eq_true rfl) ?_
  refine Bod.aldnG dc_397_99 (by repeat (first | exact q0 | exact sm_get_p1 | exact sm_get_p2e | refine sm_get_p1m (by decide) (by decide) ?_ | refine sm_get_p1n (by decide) rfl ?_ | refine sm_get_p2n (by decide) (by decide) rfl ?_ | refine sm_get_p2m (by decide) (by decide) (by decide) ?_)) ?_
  refine Bod.aldnG dc_397_100 (by repeat (first | exact q0 | exact sm_get_p1 | exact sm_get_p2e | refine sm_get_p1m (by decide) (by decide) ?_ | refine sm_get_p1n (by decide) rfl ?_ | refine sm_get_p2n (by decide) (by decide) rfl ?_ | refine sm_get_p2m (by decide) (by decide) (by decide) ?_)) ?_
  refine Bod.get dc_397_101 fr_397_499 (mk_61 _) rfl ?_
  refine Bod.ildnG dc_397_104 (by repeat (first | exact q1 | exact sm_get_p1 | exact sm_get_p2e | refine sm_get_p1m (by decide) (by decide) ?_ | refine sm_get_p1n (by decide) rfl ?_ | refine sm_get_p2n (by decide) (by decide) rfl ?_ | refine sm_get_p2m (by decide) (by decide) (by decide) ?_)) ?_
  refine Bod.laldN ba rfl (by omega) (by omega) dc_397_105 (mk_92 _) ?_
  refine Bod.go dc_397_106 rfl ?_
  refine Bod.eqI (nI o) (by first | exact ho | (simp only [rIn, rIe, rA, rIA, rLA, rJA, rVI, rQI, rVA, rQA, upd_at,  rAI, rLI, rJI, nI_add, pk_sub, kc_0, kc_1, kc_2, kc_3, kc_4, kc_5, reduceIte, Nat.reduceEqDiff, Nat.add_zero, rI_hold, rI_hold, rL_hold]; exact ho)) ?_
  refine Bod.ildG dc_397_107 (by repeat (first | exact q0 | exact sm_get_p1 | exact sm_get_p2e | refine sm_get_p1m (by decide) (by decide) ?_ | refine sm_get_p1n (by decide) rfl ?_ | refine sm_get_p2n (by decide) (by decide) rfl ?_ | refine sm_get_p2m (by decide) (by decide) (by decide) ?_)) ?_
  refine Bod.virt (r := []) dc_397_109 kr_397_777 ⟨Or.inl rfl, ow_398, cl_14⟩ (by rw [np_398]; rfl) (by rw [np_398]; rfl) (ob_of (mk_61 _)) (Nat.le_of_ble_eq_true rfl) (c2  ) ?_
  show Bod _ _ _ _ [_] _ _ _
  refine Bod.ist dc_397_112 (by rw [ml_397]; exact Nat.le_of_ble_eq_true rfl) ?_
  refine Bod.ildG dc_397_114 (by repeat (first | exact q0 | exact sm_get_p1 | exact sm_get_p2e | refine sm_get_p1m (by decide) (by decide) ?_ | refine sm_get_p1n (by decide) rfl ?_ | refine sm_get_p2n (by decide) (by decide) rfl ?_ | refine sm_get_p2m (by decide) (by decide) (by decide) ?_)) ?_
  refine Bod.ifF dc_397_116 rfl (k1_lt_F a1 rfl (by omega)) ?_
  refine Bod.aldnG dc_397_119 (by repeat (first | exact q0 | exact sm_get_p1 | exact sm_get_p2e | refine sm_get_p1m (by decide) (by decide) ?_ | refine sm_get_p1n (by decide) rfl ?_ | refine sm_get_p2n (by decide) (by decide) rfl ?_ | refine sm_get_p2m (by decide) (by decide) (by decide) ?_)) ?_
  refine Bod.get dc_397_120 fr_397_485 (mk_61 _) rfl ?_
  refine Bod.ildG dc_397_123 (by repeat (first | exact q0 | exact sm_get_p1 | exact sm_get_p2e | refine sm_get_p1m (by decide) (by decide) ?_ | refine sm_get_p1n (by decide) rfl ?_ | refine sm_get_p2n (by decide) (by decide) rfl ?_ | refine sm_get_p2m (by decide) (by decide) (by decide) ?_)) ?_
  refine Bod.aaldR (N := 1500) (b := g) a1 rfl (by omega) (by omega) (by first | exact hq3 | (simp only [rIQ, rJQ, rAQ, rLQ, rVQ, rQ_holdE]; exact hq3)) dc_397_125 (mk_86 _) ht_5 ?_
  refine Bod.ic 0 (by decide) dc_397_126 ?_
  refine Bod.ildG dc_397_127 (by repeat (first | exact q0 | exact sm_get_p1 | exact sm_get_p2e | refine sm_get_p1m (by decide) (by decide) ?_ | refine sm_get_p1n (by decide) rfl ?_ | refine sm_get_p2n (by decide) (by decide) rfl ?_ | refine sm_get_p2m (by decide) (by decide) (by decide) ?_)) ?_
  refine Bod.go dc_397_129 rfl ?_
  refine Bod.go dc_397_130 rfl ?_
  refine Bod.virt (r := []) dc_397_131 kr_397_764 ⟨Or.inl rfl, ow_399, cl_13⟩ (by rw [np_399]; rfl) (by rw [np_399]; rfl) (ob_of (mk_thing ag (by first | exact hz1 | (simp only [rIS, rJS, rAS, rLS, rVS, rQS, rS_hold]; exact hz1)))) (Nat.le_of_ble_eq_true rfl) (c3  ) ?_
  show Bod _ _ _ _ [_] _ _ _
  refine Bod.ist dc_397_134 (by rw [ml_397]; exact Nat.le_of_ble_eq_true rfl) ?_
  refine Bod.aldnG dc_397_136 (by repeat (first | exact q0 | exact sm_get_p1 | exact sm_get_p2e | refine sm_get_p1m (by decide) (by decide) ?_ | refine sm_get_p1n (by decide) rfl ?_ | refine sm_get_p2n (by decide) (by decide) rfl ?_ | refine sm_get_p2m (by decide) (by decide) (by decide) ?_)) ?_
  refine Bod.get dc_397_137 fr_397_485 (mk_61 _) rfl ?_
  refine Bod.ildG dc_397_140 (by repeat (first | exact q0 | exact sm_get_p1 | exact sm_get_p2e | refine sm_get_p1m (by decide) (by decide) ?_ | refine sm_get_p1n (by decide) rfl ?_ | refine sm_get_p2n (by decide) (by decide) rfl ?_ | refine sm_get_p2m (by decide) (by decide) (by decide) ?_)) ?_
  refine Bod.aaldR (N := 1500) (b := g1) a1 rfl (by omega) (by omega) (by first | exact hq6 | (simp only [rIQ, rJQ, rAQ, rLQ, rVQ, rQ_holdE]; exact hq6)) dc_397_142 (mk_86 _) ht_5 ?_
  refine Bod.get dc_397_143 fr_397_462 (mk_thing ag1 (by first | exact hz2 | (simp only [rIS, rJS, rAS, rLS, rVS, rQS, rS_hold]; exact hz2))) rfl ?_
  refine Bod.eqV (.ref r) (by first | exact hv1 | (simp only [rIV, rJV, rAV, rLV, rQV, rV, reduceIte, Nat.reduceEqDiff]; exact hv1)) ?_
  refine Bod.ildG dc_397_146 (by repeat (first | exact q0 | exact sm_get_p1 | exact sm_get_p2e | refine sm_get_p1m (by decide) (by decide) ?_ | refine sm_get_p1n (by decide) rfl ?_ | refine sm_get_p2n (by decide) (by decide) rfl ?_ | refine sm_get_p2m (by decide) (by decide) (by decide) ?_)) ?_
  refine Bod.ialdN (N := N) a2 rfl (by omega) (by omega) dc_397_148 (mk_isI (by first | exact hg1 | exact isK_S (by simp only [rIS, rJS, rAS, rLS, rVS, rQS, rS_hold]) hg1)) ?_
  refine Bod.eqI (nI e) (by first | assumption | (simp (disch := omega) only [rIn, rIe, rA, rIA, rLA, rJA, rVI, rQI, rVA, rQA, upd_at,  rAI, rLI, rJI, nI_add, pk_sub, kc_0, kc_1, kc_2, kc_3, kc_4, kc_5, reduceIte, Nat.reduceEqDiff, Nat.add_zero, rI_hold, rI_hold, rL_hold, ht, he]; done) | (simp (disch := omega) only [rIn, rIe, rA, rIA, rLA, rJA, rVI, rQI, rVA, rQA, upd_at,  rAI, rLI, rJI, nI_add, pk_sub, kc_0, kc_1, kc_2, kc_3, kc_4, kc_5, reduceIte, Nat.reduceEqDiff, Nat.add_zero, rI_hold, rI_hold, rL_hold, ht, he]; exact congrArg nI (by omega))) ?_
  refine Bod.ic 3 (by decide) dc_397_149 ?_
  refine Bod.icF dc_397_150 rfl (k2_ne_F (k_eq e 3 rfl rfl (by omega))) ?_
  refine Bod.aldnG dc_397_153 (by repeat (first | exact q0 | exact sm_get_p1 | exact sm_get_p2e | refine sm_get_p1m (by decide) (by decide) ?_ | refine sm_get_p1n (by decide) rfl ?_ | refine sm_get_p2n (by decide) (by decide) rfl ?_ | refine sm_get_p2m (by decide) (by decide) (by decide) ?_)) ?_
  refine Bod.get dc_397_154 fr_397_485 (mk_61 _) rfl ?_
  refine Bod.aldnG dc_397_157 (by repeat (first | exact q0 | exact sm_get_p1 | exact sm_get_p2e | refine sm_get_p1m (by decide) (by decide) ?_ | refine sm_get_p1n (by decide) rfl ?_ | refine sm_get_p2n (by decide) (by decide) rfl ?_ | refine sm_get_p2m (by decide) (by decide) (by decide) ?_)) ?_
  refine Bod.get dc_397_158 fr_397_485 (mk_61 _) rfl ?_
  refine Bod.ildG dc_397_161 (by repeat (first | exact q0 | exact sm_get_p1 | exact sm_get_p2e | refine sm_get_p1m (by decide) (by decide) ?_ | refine sm_get_p1n (by decide) rfl ?_ | refine sm_get_p2n (by decide) (by decide) rfl ?_ | refine sm_get_p2m (by decide) (by decide) (by decide) ?_)) ?_
  refine Bod.aaldR (N := 1500) (b := g1) a1 rfl (by omega) (by omega) (by first | exact hq6 | (simp only [rIQ, rJQ, rAQ, rLQ, rVQ, rQ_holdE]; exact hq6)) dc_397_163 (mk_86 _) ht_5 ?_
  refine Bod.get dc_397_164 fr_397_465 (mk_thing ag1 (by first | exact hz2 | (simp only [rIS, rJS, rAS, rLS, rVS, rQS, rS_hold]; exact hz2))) rfl ?_
  refine Bod.eqV (.ref r1) (by first | exact hv2 | (simp only [rIV, rJV, rAV, rLV, rQV, rV, reduceIte, Nat.reduceEqDiff]; exact hv2)) ?_
  refine Bod.ildG dc_397_167 (by repeat (first | exact q0 | exact sm_get_p1 | exact sm_get_p2e | refine sm_get_p1m (by decide) (by decide) ?_ | refine sm_get_p1n (by decide) rfl ?_ | refine sm_get_p2n (by decide) (by decide) rfl ?_ | refine sm_get_p2m (by decide) (by decide) (by decide) ?_)) ?_
  refine Bod.laldN (N := N1) a2 rfl (by omega) (by omega) dc_397_169 (mk_isL (by first | exact hg2 | exact isK_S (by simp only [rIS, rJS, rAS, rLS, rVS, rQS, rS_hold]) hg2)) ?_
  refine Bod.go dc_397_170 rfl ?_
  refine Bod.eqI (nI o1) (by first | exact ho1 | (simp only [rIn, rIe, rA, rIA, rLA, rJA, rVI, rQI, rVA, rQA, upd_at,  rAI, rLI, rJI, nI_add, pk_sub, kc_0, kc_1, kc_2, kc_3, kc_4, kc_5, reduceIte, Nat.reduceEqDiff, Nat.add_zero, rI_hold, rI_hold, rL_hold]; exact ho1)) ?_
  refine Bod.aaldR (N := 1500) (b := g2) o1 rfl (by omega) (by omega) (by first | exact hq13 | (simp only [rIQ, rJQ, rAQ, rLQ, rVQ, rQ_holdE]; exact hq13)) dc_397_171 (mk_86 _) ht_5 ?_
  refine Bod.get dc_397_172 fr_397_531 (mk_thing ag2 (by first | exact hz3 | (simp only [rIS, rJS, rAS, rLS, rVS, rQS, rS_hold]; exact hz3))) rfl ?_
  refine Bod.eqI (nI fd0) (by first | assumption | (simp (disch := omega) only [rIn, rIe, rA, rIA, rLA, rJA, rVI, rQI, rVA, rQA, upd_at,  rAI, rLI, rJI, nI_add, pk_sub, kc_0, kc_1, kc_2, kc_3, kc_4, kc_5, reduceIte, Nat.reduceEqDiff, Nat.add_zero, rI_hold, rI_hold, rL_hold, ht, he, hfd0]; done) | (simp (disch := omega) only [rIn, rIe, rA, rIA, rLA, rJA, rVI, rQI, rVA, rQA, upd_at,  rAI, rLI, rJI, nI_add, pk_sub, kc_0, kc_1, kc_2, kc_3, kc_4, kc_5, reduceIte, Nat.reduceEqDiff, Nat.add_zero, rI_hold, rI_hold, rL_hold, ht, he, hfd0]; exact congrArg nI (by omega))) ?_
  refine Bod.ic 3 (by decide) dc_397_175 ?_
  refine Bod.icF dc_397_176 rfl (k2_ne_F (k_eq fd0 3 rfl rfl (by omega))) ?_
  refine Bod.aldnG dc_397_179 (by repeat (first | exact q0 | exact sm_get_p1 | exact sm_get_p2e | refine sm_get_p1m (by decide) (by decide) ?_ | refine sm_get_p1n (by decide) rfl ?_ | refine sm_get_p2n (by decide) (by decide) rfl ?_ | refine sm_get_p2m (by decide) (by decide) (by decide) ?_)) ?_
  refine Bod.aldnG dc_397_180 (by repeat (first | exact q0 | exact sm_get_p1 | exact sm_get_p2e | refine sm_get_p1m (by decide) (by decide) ?_ | refine sm_get_p1n (by decide) rfl ?_ | refine sm_get_p2n (by decide) (by decide) rfl ?_ | refine sm_get_p2m (by decide) (by decide) (by decide) ?_)) ?_
  refine Bod.get dc_397_181 fr_397_485 (mk_61 _) rfl ?_
  refine Bod.ildG dc_397_184 (by repeat (first | exact q0 | exact sm_get_p1 | exact sm_get_p2e | refine sm_get_p1m (by decide) (by decide) ?_ | refine sm_get_p1n (by decide) rfl ?_ | refine sm_get_p2n (by decide) (by decide) rfl ?_ | refine sm_get_p2m (by decide) (by decide) (by decide) ?_)) ?_
  refine Bod.aaldR (N := 1500) (b := g1) a1 rfl (by omega) (by omega) (by first | exact hq6 | (simp only [rIQ, rJQ, rAQ, rLQ, rVQ, rQ_holdE]; exact hq6)) dc_397_186 (mk_86 _) ht_5 ?_
  refine Bod.get dc_397_187 fr_397_465 (mk_thing ag1 (by first | exact hz2 | (simp only [rIS, rJS, rAS, rLS, rVS, rQS, rS_hold]; exact hz2))) rfl ?_
  refine Bod.eqV (.ref r1) (by first | exact hv2 | (simp only [rIV, rJV, rAV, rLV, rQV, rV, reduceIte, Nat.reduceEqDiff]; exact hv2)) ?_
  refine Bod.ildG dc_397_190 (by repeat (first | exact q0 | exact sm_get_p1 | exact sm_get_p2e | refine sm_get_p1m (by decide) (by decide) ?_ | refine sm_get_p1n (by decide) rfl ?_ | refine sm_get_p2n (by decide) (by decide) rfl ?_ | refine sm_get_p2m (by decide) (by decide) (by decide) ?_)) ?_
  refine Bod.laldN (N := N1) a2 rfl (by omega) (by omega) dc_397_192 (mk_isL (by first | exact hg2 | exact isK_S (by simp only [rIS, rJS, rAS, rLS, rVS, rQS, rS_hold]) hg2)) ?_
  refine Bod.go dc_397_193 rfl ?_
  refine Bod.eqI (nI o1) (by first | exact ho1 | (simp only [rIn, rIe, rA, rIA, rLA, rJA, rVI, rQI, rVA, rQA, upd_at,  rAI, rLI, rJI, nI_add, pk_sub, kc_0, kc_1, kc_2, kc_3, kc_4, kc_5, reduceIte, Nat.reduceEqDiff, Nat.add_zero, rI_hold, rI_hold, rL_hold]; exact ho1)) ?_
  refine Bod.ildnG dc_397_194 (by repeat (first | exact q1 | exact sm_get_p1 | exact sm_get_p2e | refine sm_get_p1m (by decide) (by decide) ?_ | refine sm_get_p1n (by decide) rfl ?_ | refine sm_get_p2n (by decide) (by decide) rfl ?_ | refine sm_get_p2m (by decide) (by decide) (by decide) ?_)) ?_
  refine Bod.ildnG dc_397_195 (by repeat (first | exact q2 | exact sm_get_p1 | exact sm_get_p2e | refine sm_get_p1m (by decide) (by decide) ?_ | refine sm_get_p1n (by decide) rfl ?_ | refine sm_get_p2n (by decide) (by decide) rfl ?_ | refine sm_get_p2m (by decide) (by decide) (by decide) ?_)) ?_
  refine Bod.ildnG dc_397_196 (by repeat (first | exact q3 | exact sm_get_p1 | exact sm_get_p2e | refine sm_get_p1m (by decide) (by decide) ?_ | refine sm_get_p1n (by decide) rfl ?_ | refine sm_get_p2n (by decide) (by decide) rfl ?_ | refine sm_get_p2m (by decide) (by decide) (by decide) ?_)) ?_
  refine Bod.ic 1 (by decide) dc_397_197 ?_
  refine Bod.virt (r := []) dc_397_198 kr_397_783 ⟨Or.inl rfl, ow_396, cl_14⟩ (by rw [np_396]; rfl) (by rw [np_396]; rfl) (ob_of (mk_61 _)) (Nat.le_of_ble_eq_true rfl) (c4  ) ?_
  show Bod _ _ _ _ [_] _ _ _
  exact Bod.retZ dc_397_201 rt_397 (Or.inr rfl)
theorem rMkB_6 {d : Nat} {S : cS} {lv : sm_L} {ba : Nat} {nn : Nat} {io : Nat} {t : Nat} {S1 : cS} {a : Nat} {o : Nat} {S2 : cS} {a1 : Nat} {g : Nat} {zg : Nat} {S3 : cS} {a2 : Nat} {g1 : Nat} {zg1 : Nat} {r : Nat} {N : Nat} {e : Nat} {r1 : Nat} {N1 : Nat} {o1 : Nat} {g2 : Nat} {zg2 : Nat} {fd0 : Nat} {S4 : cS} (q0 : sm_get lv 0 = some (.ref 61)) (q1 : sm_get lv 1 = some (.int (nI ba))) (q2 : sm_get lv 2 = some (.int (nI nn))) (q3 : sm_get lv 3 = some (.int (nI io))) (mba : ba < 2 ^ 20) (mnn : nn < 2 ^ 20) (mio : io < 2 ^ 20) (b1 : ba + 1 < 20480) (ht : sI (wL 92 (ba + 1) ((nI io).toInt64) (wA 91 (ba + 1) (nI 3) S)) 6151 = nI t) (mt : t < 20481) (ma : a < 2 ^ 20) (c1 : Ans (d + 8) 294 [.ref 61, .ref 105, .int (nI 0), .int (nI 4)] (wI 6151 (nI (t + 1)) (wL 92 (ba + 1) ((nI io).toInt64) (wA 91 (ba + 1) (nI 3) S))) (some (.int (nI a))) S1) (b2 : ba < 20480) (ho : (sL S1 92 ba).toInt32 = nI o) (mo : o < 1500) (ma1 : a1 < 1500) (c2 : Ans (d + 8) 398 [.ref 61, .int (nI o), .int (nI a)] S1 (some (.int (nI a1))) S2) (ag : 108 ≤ g) (hq3 : sQ S2 86 a1 = some g) (ma2 : a2 < 2 ^ 20) (c3 : Ans (d + 8) 399 [.ref g, .int (nI 0), .long ((nI a).toInt64), .long 0] S2 (some (.int (nI a2))) S3) (hz1 : (sS S2)[g - 108]? = some (13, zg)) (ag1 : 108 ≤ g1) (hq6 : sQ S3 86 a1 = some g1) (hz2 : (sS S3)[g1 - 108]? = some (13, zg1)) (hv1 : sV S3 (100 * g1 + 2) = .ref r) (hg1 : isK S3 r 0 N) (mN : N < 2 ^ 20) (b3 : a2 < N) (he : sA S3 r a2 = nI e) (me : e < 2 ^ 20) (b4 : e = 3) (hv2 : sV S3 (100 * g1 + 4) = .ref r1) (hg2 : isK S3 r1 1 N1) (mN1 : N1 < 2 ^ 20) (b5 : a2 < N1) (ho1 : (sL S3 r1 a2).toInt32 = nI o1) (mo1 : o1 < 1500) (ag2 : 108 ≤ g2) (hq13 : sQ S3 86 o1 = some g2) (hz3 : (sS S3)[g2 - 108]? = some (13, zg2)) (hfd0 : sI S3 (100 * g2 + 0) = nI fd0) (mfd0 : fd0 < 2 ^ 20) (b6 : fd0 = 3) (c4 : Ans (d + 8) 396 [.ref 61, .int (nI o1), .int (nI ba), .int (nI nn), .int (nI io), .int (nI 1)] S3 (some (.int (nI 0))) S4) : Bod (d + 8) 397 58 lv [] S (some (.int 0)) (S4) := by
  refine Bod.aldnG dc_397_58 (by repeat (first | exact q0 | exact sm_get_p1 | exact sm_get_p2e | refine sm_get_p1m (by decide) (by decide) ?_ | refine sm_get_p1n (by decide) rfl ?_ | refine sm_get_p2n (by decide) (by decide) rfl ?_ | refine sm_get_p2m (by decide) (by decide) (by decide) ?_)) ?_
  refine Bod.get dc_397_59 fr_397_496 (mk_61 _) rfl ?_
  refine Bod.ildnG dc_397_62 (by repeat (first | exact q1 | exact sm_get_p1 | exact sm_get_p2e | refine sm_get_p1m (by decide) (by decide) ?_ | refine sm_get_p1n (by decide) rfl ?_ | refine sm_get_p2n (by decide) (by decide) rfl ?_ | refine sm_get_p2m (by decide) (by decide) (by decide) ?_)) ?_
  refine Bod.ic 1 (by decide) dc_397_63 ?_
  refine Bod.addN (ba + 1) (by omega) dc_397_64 ?_
  refine Bod.ic 3 (by decide) dc_397_65 ?_
  refine Bod.iastN (ba + 1) rfl (by omega) (by omega) dc_397_66 (mk_91 _) (sa_91 _ _ _) (mu_A _ _ _ _) ?_
  refine Bod.aldnG dc_397_67 (by repeat (first | exact q0 | exact sm_get_p1 | exact sm_get_p2e | refine sm_get_p1m (by decide) (by decide) ?_ | refine sm_get_p1n (by decide) rfl ?_ | refine sm_get_p2n (by decide) (by decide) rfl ?_ | refine sm_get_p2m (by decide) (by decide) (by decide) ?_)) ?_
  refine Bod.get dc_397_68 fr_397_499 (mk_61 _) rfl ?_
  refine Bod.ildnG dc_397_71 (by repeat (first | exact q1 | exact sm_get_p1 | exact sm_get_p2e | refine sm_get_p1m (by decide) (by decide) ?_ | refine sm_get_p1n (by decide) rfl ?_ | refine sm_get_p2n (by decide) (by decide) rfl ?_ | refine sm_get_p2m (by decide) (by decide) (by decide) ?_)) ?_
  refine Bod.ic 1 (by decide) dc_397_72 ?_
  refine Bod.addN (ba + 1) (by omega) dc_397_73 ?_
  refine Bod.ildnG dc_397_74 (by repeat (first | exact q3 | exact sm_get_p1 | exact sm_get_p2e | refine sm_get_p1m (by decide) (by decide) ?_ | refine sm_get_p1n (by decide) rfl ?_ | refine sm_get_p2n (by decide) (by decide) rfl ?_ | refine sm_get_p2m (by decide) (by decide) (by decide) ?_)) ?_
  refine Bod.go dc_397_75 rfl ?_
  refine Bod.lastN (ba + 1) rfl (by omega) (by omega) dc_397_76 (mk_92 _) (sa_92 _ _ _) (mu_L _ _ _ _) ?_
  refine Bod.aldnG dc_397_77 (by repeat (first | exact q0 | exact sm_get_p1 | exact sm_get_p2e | refine sm_get_p1m (by decide) (by decide) ?_ | refine sm_get_p1n (by decide) rfl ?_ | refine sm_get_p2n (by decide) (by decide) rfl ?_ | refine sm_get_p2m (by decide) (by decide) (by decide) ?_)) ?_
  refine Bod.go dc_397_78 rfl ?_
  refine Bod.get dc_397_79 fr_397_493 (mk_61 _) rfl ?_
  refine Bod.eqI (nI t) (by first | assumption | (simp (disch := omega) only [rIn, rIe, rA, rIA, rLA, rJA, rVI, rQI, rVA, rQA, upd_at,  rAI, rLI, rJI, nI_add, pk_sub, kc_0, kc_1, kc_2, kc_3, kc_4, kc_5, reduceIte, Nat.reduceEqDiff, Nat.add_zero, rI_hold, rI_hold, rL_hold, ht]; done) | (simp (disch := omega) only [rIn, rIe, rA, rIA, rLA, rJA, rVI, rQI, rVA, rQA, upd_at,  rAI, rLI, rJI, nI_add, pk_sub, kc_0, kc_1, kc_2, kc_3, kc_4, kc_5, reduceIte, Nat.reduceEqDiff, Nat.add_zero, rI_hold, rI_hold, rL_hold, ht]; exact congrArg nI (by omega))) ?_
  refine Bod.ic 1 (by decide) dc_397_82 ?_
  refine Bod.addN (t + 1) (by omega) dc_397_83 ?_
  refine Bod.put dc_397_84 fr_397_493 (mk_61 _) (Nat.le_of_ble_eq_true rfl) pf_14_51 (st_6151 _ _) (mu_I _ _ _) ?_
  refine Bod.aldnG dc_397_87 (by repeat (first | exact q0 | exact sm_get_p1 | exact sm_get_p2e | refine sm_get_p1m (by decide) (by decide) ?_ | refine sm_get_p1n (by decide) rfl ?_ | refine sm_get_p2n (by decide) (by decide) rfl ?_ | refine sm_get_p2m (by decide) (by decide) (by decide) ?_)) ?_
  refine Bod.aldnG dc_397_88 (by repeat (first | exact q0 | exact sm_get_p1 | exact sm_get_p2e | refine sm_get_p1m (by decide) (by decide) ?_ | refine sm_get_p1n (by decide) rfl ?_ | refine sm_get_p2n (by decide) (by decide) rfl ?_ | refine sm_get_p2m (by decide) (by decide) (by decide) ?_)) ?_
  refine Bod.get dc_397_89 fr_397_790 (mk_61 _) rfl ?_
  refine Bod.ic 0 (by decide) dc_397_92 ?_
  refine Bod.ic 4 (by decide) dc_397_93 ?_
  refine Bod.virt (r := []) dc_397_94 kr_397_166 ⟨Or.inl rfl, ow_294, cl_14⟩ (by rw [np_294]; rfl) (by rw [np_294]; rfl) (ob_of (mk_61 _)) (Nat.le_of_ble_eq_true rfl) (c1  ) ?_
  show Bod _ _ _ _ [_] _ _ _
  refine Bod.ist dc_397_97 (by rw [ml_397]; exact Nat.le_of_ble_eq_true rfl) ?_
  refine Bod.aldnG dc_397_99 (by repeat (first | exact q0 | exact sm_get_p1 | exact sm_get_p2e | refine sm_get_p1m (by decide) (by decide) ?_ | refine sm_get_p1n (by decide) rfl ?_ | refine sm_get_p2n (by decide) (by decide) rfl ?_ | refine sm_get_p2m (by decide) (by decide) (by decide) ?_)) ?_
  refine Bod.aldnG dc_397_100 (by repeat (first | exact q0 | exact sm_get_p1 | exact sm_get_p2e | refine sm_get_p1m (by decide) (by decide) ?_ | refine sm_get_p1n (by decide) rfl ?_ | refine sm_get_p2n (by decide) (by decide) rfl ?_ | refine sm_get_p2m (by decide) (by decide) (by decide) ?_)) ?_
  refine Bod.get dc_397_101 fr_397_499 (mk_61 _) rfl ?_
  refine Bod.ildnG dc_397_104 (by repeat (first | exact q1 | exact sm_get_p1 | exact sm_get_p2e | refine sm_get_p1m (by decide) (by decide) ?_ | refine sm_get_p1n (by decide) rfl ?_ | refine sm_get_p2n (by decide) (by decide) rfl ?_ | refine sm_get_p2m (by decide) (by decide) (by decide) ?_)) ?_
  refine Bod.laldN ba rfl (by omega) (by omega) dc_397_105 (mk_92 _) ?_
  refine Bod.go dc_397_106 rfl ?_
  refine Bod.eqI (nI o) (by first | exact ho | (simp only [rIn, rIe, rA, rIA, rLA, rJA, rVI, rQI, rVA, rQA, upd_at,  rAI, rLI, rJI, nI_add, pk_sub, kc_0, kc_1, kc_2, kc_3, kc_4, kc_5, reduceIte, Nat.reduceEqDiff, Nat.add_zero, rI_hold, rI_hold, rL_hold]; exact ho)) ?_
  refine Bod.ildG dc_397_107 (by repeat (first | exact q0 | exact sm_get_p1 | exact sm_get_p2e | refine sm_get_p1m (by decide) (by decide) ?_ | refine sm_get_p1n (by decide) rfl ?_ | refine sm_get_p2n (by decide) (by decide) rfl ?_ | refine sm_get_p2m (by decide) (by decide) (by decide) ?_)) ?_
  refine Bod.virt (r := []) dc_397_109 kr_397_777 ⟨Or.inl rfl, ow_398, cl_14⟩ (by rw [np_398]; rfl) (by rw [np_398]; rfl) (ob_of (mk_61 _)) (Nat.le_of_ble_eq_true rfl) (c2  ) ?_
  show Bod _ _ _ _ [_] _ _ _
  refine Bod.ist dc_397_112 (by rw [ml_397]; exact Nat.le_of_ble_eq_true rfl) ?_
  refine Bod.ildG dc_397_114 (by repeat (first | exact q0 | exact sm_get_p1 | exact sm_get_p2e | refine sm_get_p1m (by decide) (by decide) ?_ | refine sm_get_p1n (by decide) rfl ?_ | refine sm_get_p2n (by decide) (by decide) rfl ?_ | refine sm_get_p2m (by decide) (by decide) (by decide) ?_)) ?_
  refine Bod.ifF dc_397_116 rfl (k1_lt_F a1 rfl (by omega)) ?_
  refine Bod.aldnG dc_397_119 (by repeat (first | exact q0 | exact sm_get_p1 | exact sm_get_p2e | refine sm_get_p1m (by decide) (by decide) ?_ | refine sm_get_p1n (by decide) rfl ?_ | refine sm_get_p2n (by decide) (by decide) rfl ?_ | refine sm_get_p2m (by decide) (by decide) (by decide) ?_)) ?_
  refine Bod.get dc_397_120 fr_397_485 (mk_61 _) rfl ?_
  refine Bod.ildG dc_397_123 (by repeat (first | exact q0 | exact sm_get_p1 | exact sm_get_p2e | refine sm_get_p1m (by decide) (by decide) ?_ | refine sm_get_p1n (by decide) rfl ?_ | refine sm_get_p2n (by decide) (by decide) rfl ?_ | refine sm_get_p2m (by decide) (by decide) (by decide) ?_)) ?_
  refine Bod.aaldR (N := 1500) (b := g) a1 rfl (by omega) (by omega) (by first | exact hq3 | (simp only [rIQ, rJQ, rAQ, rLQ, rVQ, rQ_holdE]; exact hq3)) dc_397_125 (mk_86 _) ht_5 ?_
  refine Bod.ic 0 (by decide) dc_397_126 ?_
  refine Bod.ildG dc_397_127 (by repeat (first | exact q0 | exact sm_get_p1 | exact sm_get_p2e | refine sm_get_p1m (by decide) (by decide) ?_ | refine sm_get_p1n (by decide) rfl ?_ | refine sm_get_p2n (by decide) (by decide) rfl ?_ | refine sm_get_p2m (by decide) (by decide) (by decide) ?_)) ?_
  refine Bod.go dc_397_129 rfl ?_
  refine Bod.go dc_397_130 rfl ?_
  refine Bod.virt (r := []) dc_397_131 kr_397_764 ⟨Or.inl rfl, ow_399, cl_13⟩ (by rw [np_399]; rfl) (by rw [np_399]; rfl) (ob_of (mk_thing ag (by first | exact hz1 | (simp only [rIS, rJS, rAS, rLS, rVS, rQS, rS_hold]; exact hz1)))) (Nat.le_of_ble_eq_true rfl) (c3  ) ?_
  show Bod _ _ _ _ [_] _ _ _
  refine Bod.ist dc_397_134 (by rw [ml_397]; exact Nat.le_of_ble_eq_true rfl) ?_
  refine Bod.aldnG dc_397_136 (by repeat (first | exact q0 | exact sm_get_p1 | exact sm_get_p2e | refine sm_get_p1m (by decide) (by decide) ?_ | refine sm_get_p1n (by decide) rfl ?_ | refine sm_get_p2n (by decide) (by decide) rfl ?_ | refine sm_get_p2m (by decide) (by decide) (by decide) ?_)) ?_
  refine Bod.get dc_397_137 fr_397_485 (mk_61 _) rfl ?_
  refine Bod.ildG dc_397_140 (by repeat (first | exact q0 | exact sm_get_p1 | exact sm_get_p2e | refine sm_get_p1m (by decide) (by decide) ?_ | refine sm_get_p1n (by decide) rfl ?_ | refine sm_get_p2n (by decide) (by decide) rfl ?_ | refine sm_get_p2m (by decide) (by decide) (by decide) ?_)) ?_
  refine Bod.aaldR (N := 1500) (b := g1) a1 rfl (by omega) (by omega) (by first | exact hq6 | (simp only [rIQ, rJQ, rAQ, rLQ, rVQ, rQ_holdE]; exact hq6)) dc_397_142 (mk_86 _) ht_5 ?_
  refine Bod.get dc_397_143 fr_397_462 (mk_thing ag1 (by first | exact hz2 | (simp only [rIS, rJS, rAS, rLS, rVS, rQS, rS_hold]; exact hz2))) rfl ?_
  refine Bod.eqV (.ref r) (by first | exact hv1 | (simp only [rIV, rJV, rAV, rLV, rQV, rV, reduceIte, Nat.reduceEqDiff]; exact hv1)) ?_
  refine Bod.ildG dc_397_146 (by repeat (first | exact q0 | exact sm_get_p1 | exact sm_get_p2e | refine sm_get_p1m (by decide) (by decide) ?_ | refine sm_get_p1n (by decide) rfl ?_ | refine sm_get_p2n (by decide) (by decide) rfl ?_ | refine sm_get_p2m (by decide) (by decide) (by decide) ?_)) ?_
  refine Bod.ialdN (N := N) a2 rfl (by omega) (by omega) dc_397_148 (mk_isI (by first | exact hg1 | exact isK_S (by simp only [rIS, rJS, rAS, rLS, rVS, rQS, rS_hold]) hg1)) ?_
  refine Bod.eqI (nI e) (by first | assumption | (simp (disch := omega) only [rIn, rIe, rA, rIA, rLA, rJA, rVI, rQI, rVA, rQA, upd_at,  rAI, rLI, rJI, nI_add, pk_sub, kc_0, kc_1, kc_2, kc_3, kc_4, kc_5, reduceIte, Nat.reduceEqDiff, Nat.add_zero, rI_hold, rI_hold, rL_hold, ht, he]; done) | (simp (disch := omega) only [rIn, rIe, rA, rIA, rLA, rJA, rVI, rQI, rVA, rQA, upd_at,  rAI, rLI, rJI, nI_add, pk_sub, kc_0, kc_1, kc_2, kc_3, kc_4, kc_5, reduceIte, Nat.reduceEqDiff, Nat.add_zero, rI_hold, rI_hold, rL_hold, ht, he]; exact congrArg nI (by omega))) ?_
  refine Bod.ic 3 (by decide) dc_397_149 ?_
  refine Bod.icF dc_397_150 rfl (k2_ne_F (k_eq e 3 rfl rfl (by omega))) ?_
  refine Bod.aldnG dc_397_153 (by repeat (first | exact q0 | exact sm_get_p1 | exact sm_get_p2e | refine sm_get_p1m (by decide) (by decide) ?_ | refine sm_get_p1n (by decide) rfl ?_ | refine sm_get_p2n (by decide) (by decide) rfl ?_ | refine sm_get_p2m (by decide) (by decide) (by decide) ?_)) ?_
  refine Bod.get dc_397_154 fr_397_485 (mk_61 _) rfl ?_
  refine Bod.aldnG dc_397_157 (by repeat (first | exact q0 | exact sm_get_p1 | exact sm_get_p2e | refine sm_get_p1m (by decide) (by decide) ?_ | refine sm_get_p1n (by decide) rfl ?_ | refine sm_get_p2n (by decide) (by decide) rfl ?_ | refine sm_get_p2m (by decide) (by decide) (by decide) ?_)) ?_
  refine Bod.get dc_397_158 fr_397_485 (mk_61 _) rfl ?_
  refine Bod.ildG dc_397_161 (by repeat (first | exact q0 | exact sm_get_p1 | exact sm_get_p2e | refine sm_get_p1m (by decide) (by decide) ?_ | refine sm_get_p1n (by decide) rfl ?_ | refine sm_get_p2n (by decide) (by decide) rfl ?_ | refine sm_get_p2m (by decide) (by decide) (by decide) ?_)) ?_
  refine Bod.aaldR (N := 1500) (b := g1) a1 rfl (by omega) (by omega) (by first | exact hq6 | (simp only [rIQ, rJQ, rAQ, rLQ, rVQ, rQ_holdE]; exact hq6)) dc_397_163 (mk_86 _) ht_5 ?_
  refine Bod.get dc_397_164 fr_397_465 (mk_thing ag1 (by first | exact hz2 | (simp only [rIS, rJS, rAS, rLS, rVS, rQS, rS_hold]; exact hz2))) rfl ?_
  refine Bod.eqV (.ref r1) (by first | exact hv2 | (simp only [rIV, rJV, rAV, rLV, rQV, rV, reduceIte, Nat.reduceEqDiff]; exact hv2)) ?_
  refine Bod.ildG dc_397_167 (by repeat (first | exact q0 | exact sm_get_p1 | exact sm_get_p2e | refine sm_get_p1m (by decide) (by decide) ?_ | refine sm_get_p1n (by decide) rfl ?_ | refine sm_get_p2n (by decide) (by decide) rfl ?_ | refine sm_get_p2m (by decide) (by decide) (by decide) ?_)) ?_
  refine Bod.laldN (N := N1) a2 rfl (by omega) (by omega) dc_397_169 (mk_isL (by first | exact hg2 | exact isK_S (by simp only [rIS, rJS, rAS, rLS, rVS, rQS, rS_hold]) hg2)) ?_
  refine Bod.go dc_397_170 rfl ?_
  refine Bod.eqI (nI o1) (by first | exact ho1 | (simp only [rIn, rIe, rA, rIA, rLA, rJA, rVI, rQI, rVA, rQA, upd_at,  rAI, rLI, rJI, nI_add, pk_sub, kc_0, kc_1, kc_2, kc_3, kc_4, kc_5, reduceIte, Nat.reduceEqDiff, Nat.add_zero, rI_hold, rI_hold, rL_hold]; exact ho1)) ?_
  refine Bod.aaldR (N := 1500) (b := g2) o1 rfl (by omega) (by omega) (by first | exact hq13 | (simp only [rIQ, rJQ, rAQ, rLQ, rVQ, rQ_holdE]; exact hq13)) dc_397_171 (mk_86 _) ht_5 ?_
  refine Bod.get dc_397_172 fr_397_531 (mk_thing ag2 (by first | exact hz3 | (simp only [rIS, rJS, rAS, rLS, rVS, rQS, rS_hold]; exact hz3))) rfl ?_
  refine Bod.eqI (nI fd0) (by first | assumption | (simp (disch := omega) only [rIn, rIe, rA, rIA, rLA, rJA, rVI, rQI, rVA, rQA, upd_at,  rAI, rLI, rJI, nI_add, pk_sub, kc_0, kc_1, kc_2, kc_3, kc_4, kc_5, reduceIte, Nat.reduceEqDiff, Nat.add_zero, rI_hold, rI_hold, rL_hold, ht, he, hfd0]; done) | (simp (disch := omega) only [rIn, rIe, rA, rIA, rLA, rJA, rVI, rQI, rVA, rQA, upd_at,  rAI, rLI, rJI, nI_add, pk_sub, kc_0, kc_1, kc_2, kc_3, kc_4, kc_5, reduceIte, Nat.reduceEqDiff, Nat.add_zero, rI_hold, rI_hold, rL_hold, ht, he, hfd0]; exact congrArg nI (by omega))) ?_
  refine Bod.ic 3 (by decide) dc_397_175 ?_
  refine Bod.icF dc_397_176 rfl (k2_ne_F (k_eq fd0 3 rfl rfl (by omega))) ?_
  refine Bod.aldnG dc_397_179 (by repeat (first | exact q0 | exact sm_get_p1 | exact sm_get_p2e | refine sm_get_p1m (by decide) (by decide) ?_ | refine sm_get_p1n (by decide) rfl ?_ | refine sm_get_p2n (by decide) (by decide) rfl ?_ | refine sm_get_p2m (by decide) (by decide) (by decide) ?_)) ?_
  refine Bod.aldnG dc_397_180 (by repeat (first | exact q0 | exact sm_get_p1 | exact sm_get_p2e | refine sm_get_p1m (by decide) (by decide) ?_ | refine sm_get_p1n (by decide) rfl ?_ | refine sm_get_p2n (by decide) (by decide) rfl ?_ | refine sm_get_p2m (by decide) (by decide) (by decide) ?_)) ?_
  refine Bod.get dc_397_181 fr_397_485 (mk_61 _) rfl ?_
  refine Bod.ildG dc_397_184 (by repeat (first | exact q0 | exact sm_get_p1 | exact sm_get_p2e | refine sm_get_p1m (by decide) (by decide) ?_ | refine sm_get_p1n (by decide) rfl ?_ | refine sm_get_p2n (by decide) (by decide) rfl ?_ | refine sm_get_p2m (by decide) (by decide) (by decide) ?_)) ?_
  refine Bod.aaldR (N := 1500) (b := g1) a1 rfl (by omega) (by omega) (by first | exact hq6 | (simp only [rIQ, rJQ, rAQ, rLQ, rVQ, rQ_holdE]; exact hq6)) dc_397_186 (mk_86 _) ht_5 ?_
  refine Bod.get dc_397_187 fr_397_465 (mk_thing ag1 (by first | exact hz2 | (simp only [rIS, rJS, rAS, rLS, rVS, rQS, rS_hold]; exact hz2))) rfl ?_
  refine Bod.eqV (.ref r1) (by first | exact hv2 | (simp only [rIV, rJV, rAV, rLV, rQV, rV, reduceIte, Nat.reduceEqDiff]; exact hv2)) ?_
  refine Bod.ildG dc_397_190 (by repeat (first | exact q0 | exact sm_get_p1 | exact sm_get_p2e | refine sm_get_p1m (by decide) (by decide) ?_ | refine sm_get_p1n (by decide) rfl ?_ | refine sm_get_p2n (by decide) (by decide) rfl ?_ | refine sm_get_p2m (by decide) (by decide) (by decide) ?_)) ?_
  refine Bod.laldN (N := N1) a2 rfl (by omega) (by omega) dc_397_192 (mk_isL (by first | exact hg2 | exact isK_S (by simp only [rIS, rJS, rAS, rLS, rVS, rQS, rS_hold]) hg2)) ?_
  refine Bod.go dc_397_193 rfl ?_
  refine Bod.eqI (nI o1) (by first | exact ho1 | (simp only [rIn, rIe, rA, rIA, rLA, rJA, rVI, rQI, rVA, rQA, upd_at,  rAI, rLI, rJI, nI_add, pk_sub, kc_0, kc_1, kc_2, kc_3, kc_4, kc_5, reduceIte, Nat.reduceEqDiff, Nat.add_zero, rI_hold, rI_hold, rL_hold]; exact ho1)) ?_
  refine Bod.ildnG dc_397_194 (by repeat (first | exact q1 | exact sm_get_p1 | exact sm_get_p2e | refine sm_get_p1m (by decide) (by decide) ?_ | refine sm_get_p1n (by decide) rfl ?_ | refine sm_get_p2n (by decide) (by decide) rfl ?_ | refine sm_get_p2m (by decide) (by decide) (by decide) ?_)) ?_
  refine Bod.ildnG dc_397_195 (by repeat (first | exact q2 | exact sm_get_p1 | exact sm_get_p2e | refine sm_get_p1m (by decide) (by decide) ?_ | refine sm_get_p1n (by decide) rfl ?_ | refine sm_get_p2n (by decide) (by decide) rfl ?_ | refine sm_get_p2m (by decide) (by decide) (by decide) ?_)) ?_
  refine Bod.ildnG dc_397_196 (by repeat (first | exact q3 | exact sm_get_p1 | exact sm_get_p2e | refine sm_get_p1m (by decide) (by decide) ?_ | refine sm_get_p1n (by decide) rfl ?_ | refine sm_get_p2n (by decide) (by decide) rfl ?_ | refine sm_get_p2m (by decide) (by decide) (by decide) ?_)) ?_
  refine Bod.ic 1 (by decide) dc_397_197 ?_
  refine Bod.virt (r := []) dc_397_198 kr_397_783 ⟨Or.inl rfl, ow_396, cl_14⟩ (by rw [np_396]; rfl) (by rw [np_396]; rfl) (ob_of (mk_61 _)) (Nat.le_of_ble_eq_true rfl) (c4  ) ?_
  show Bod _ _ _ _ [_] _ _ _
  exact Bod.retZ dc_397_201 rt_397 (Or.inl rfl)
theorem rMkB_7 {d : Nat} {S : cS} {lv : sm_L} {ba : Nat} {nn : Nat} {io : Nat} {t : Nat} {S1 : cS} {a : Nat} {o : Nat} {S2 : cS} {S3 : cS} (q0 : sm_get lv 0 = some (.ref 61)) (q1 : sm_get lv 1 = some (.int (nI ba))) (q2 : sm_get lv 2 = some (.int (nI nn))) (q3 : sm_get lv 3 = some (.int (nI io))) (mba : ba < 2 ^ 20) (mnn : nn < 2 ^ 20) (mio : io < 2 ^ 20) (b1 : ba + 1 < 20480) (ht : sI (wL 92 (ba + 1) ((nI io).toInt64) (wA 91 (ba + 1) (nI 3) S)) 6151 = nI t) (mt : t < 20481) (ma : a < 2 ^ 20) (c1 : Ans (d + 8) 294 [.ref 61, .ref 105, .int (nI 0), .int (nI 4)] (wI 6151 (nI (t + 1)) (wL 92 (ba + 1) ((nI io).toInt64) (wA 91 (ba + 1) (nI 3) S))) (some (.int (nI a))) S1) (b2 : ba < 20480) (ho : (sL S1 92 ba).toInt32 = nI o) (mo : o < 1500) (c2 : Ans (d + 8) 398 [.ref 61, .int (nI o), .int (nI a)] S1 (some (.int (Int32.ofInt (-1)))) S2) (b3 : nn ≤ 0) (c3 : Ans (d + 8) 391 [.ref 61, .int (nI (ba + 1)), .int (nI ba)] S2 none S3) : Bod (d + 8) 397 58 lv [] S (some (.int 1)) (wI 6151 (nI (ba + 1)) S3) := by
  refine Bod.aldnG dc_397_58 (by repeat (first | exact q0 | exact sm_get_p1 | exact sm_get_p2e | refine sm_get_p1m (by decide) (by decide) ?_ | refine sm_get_p1n (by decide) rfl ?_ | refine sm_get_p2n (by decide) (by decide) rfl ?_ | refine sm_get_p2m (by decide) (by decide) (by decide) ?_)) ?_
  refine Bod.get dc_397_59 fr_397_496 (mk_61 _) rfl ?_
  refine Bod.ildnG dc_397_62 (by repeat (first | exact q1 | exact sm_get_p1 | exact sm_get_p2e | refine sm_get_p1m (by decide) (by decide) ?_ | refine sm_get_p1n (by decide) rfl ?_ | refine sm_get_p2n (by decide) (by decide) rfl ?_ | refine sm_get_p2m (by decide) (by decide) (by decide) ?_)) ?_
  refine Bod.ic 1 (by decide) dc_397_63 ?_
  refine Bod.addN (ba + 1) (by omega) dc_397_64 ?_
  refine Bod.ic 3 (by decide) dc_397_65 ?_
  refine Bod.iastN (ba + 1) rfl (by omega) (by omega) dc_397_66 (mk_91 _) (sa_91 _ _ _) (mu_A _ _ _ _) ?_
  refine Bod.aldnG dc_397_67 (by repeat (first | exact q0 | exact sm_get_p1 | exact sm_get_p2e | refine sm_get_p1m (by decide) (by decide) ?_ | refine sm_get_p1n (by decide) rfl ?_ | refine sm_get_p2n (by decide) (by decide) rfl ?_ | refine sm_get_p2m (by decide) (by decide) (by decide) ?_)) ?_
  refine Bod.get dc_397_68 fr_397_499 (mk_61 _) rfl ?_
  refine Bod.ildnG dc_397_71 (by repeat (first | exact q1 | exact sm_get_p1 | exact sm_get_p2e | refine sm_get_p1m (by decide) (by decide) ?_ | refine sm_get_p1n (by decide) rfl ?_ | refine sm_get_p2n (by decide) (by decide) rfl ?_ | refine sm_get_p2m (by decide) (by decide) (by decide) ?_)) ?_
  refine Bod.ic 1 (by decide) dc_397_72 ?_
  refine Bod.addN (ba + 1) (by omega) dc_397_73 ?_
  refine Bod.ildnG dc_397_74 (by repeat (first | exact q3 | exact sm_get_p1 | exact sm_get_p2e | refine sm_get_p1m (by decide) (by decide) ?_ | refine sm_get_p1n (by decide) rfl ?_ | refine sm_get_p2n (by decide) (by decide) rfl ?_ | refine sm_get_p2m (by decide) (by decide) (by decide) ?_)) ?_
  refine Bod.go dc_397_75 rfl ?_
  refine Bod.lastN (ba + 1) rfl (by omega) (by omega) dc_397_76 (mk_92 _) (sa_92 _ _ _) (mu_L _ _ _ _) ?_
  refine Bod.aldnG dc_397_77 (by repeat (first | exact q0 | exact sm_get_p1 | exact sm_get_p2e | refine sm_get_p1m (by decide) (by decide) ?_ | refine sm_get_p1n (by decide) rfl ?_ | refine sm_get_p2n (by decide) (by decide) rfl ?_ | refine sm_get_p2m (by decide) (by decide) (by decide) ?_)) ?_
  refine Bod.go dc_397_78 rfl ?_
  refine Bod.get dc_397_79 fr_397_493 (mk_61 _) rfl ?_
  refine Bod.eqI (nI t) (by first | assumption | (simp (disch := omega) only [rIn, rIe, rA, rIA, rLA, rJA, rVI, rQI, rVA, rQA, upd_at,  rAI, rLI, rJI, nI_add, pk_sub, kc_0, kc_1, kc_2, kc_3, kc_4, kc_5, reduceIte, Nat.reduceEqDiff, Nat.add_zero, rI_hold, rI_hold, rL_hold, ht]; done) | (simp (disch := omega) only [rIn, rIe, rA, rIA, rLA, rJA, rVI, rQI, rVA, rQA, upd_at,  rAI, rLI, rJI, nI_add, pk_sub, kc_0, kc_1, kc_2, kc_3, kc_4, kc_5, reduceIte, Nat.reduceEqDiff, Nat.add_zero, rI_hold, rI_hold, rL_hold, ht]; exact congrArg nI (by omega))) ?_
  refine Bod.ic 1 (by decide) dc_397_82 ?_
  refine Bod.addN (t + 1) (by omega) dc_397_83 ?_
  refine Bod.put dc_397_84 fr_397_493 (mk_61 _) (Nat.le_of_ble_eq_true rfl) pf_14_51 (st_6151 _ _) (mu_I _ _ _) ?_
  refine Bod.aldnG dc_397_87 (by repeat (first | exact q0 | exact sm_get_p1 | exact sm_get_p2e | refine sm_get_p1m (by decide) (by decide) ?_ | refine sm_get_p1n (by decide) rfl ?_ | refine sm_get_p2n (by decide) (by decide) rfl ?_ | refine sm_get_p2m (by decide) (by decide) (by decide) ?_)) ?_
  refine Bod.aldnG dc_397_88 (by repeat (first | exact q0 | exact sm_get_p1 | exact sm_get_p2e | refine sm_get_p1m (by decide) (by decide) ?_ | refine sm_get_p1n (by decide) rfl ?_ | refine sm_get_p2n (by decide) (by decide) rfl ?_ | refine sm_get_p2m (by decide) (by decide) (by decide) ?_)) ?_
  refine Bod.get dc_397_89 fr_397_790 (mk_61 _) rfl ?_
  refine Bod.ic 0 (by decide) dc_397_92 ?_
  refine Bod.ic 4 (by decide) dc_397_93 ?_
  refine Bod.virt (r := []) dc_397_94 kr_397_166 ⟨Or.inl rfl, ow_294, cl_14⟩ (by rw [np_294]; rfl) (by rw [np_294]; rfl) (ob_of (mk_61 _)) (Nat.le_of_ble_eq_true rfl) (c1  ) ?_
  show Bod _ _ _ _ [_] _ _ _
  refine Bod.ist dc_397_97 (by rw [ml_397]; exact Nat.le_of_ble_eq_true rfl) ?_
  refine Bod.aldnG dc_397_99 (by repeat (first | exact q0 | exact sm_get_p1 | exact sm_get_p2e | refine sm_get_p1m (by decide) (by decide) ?_ | refine sm_get_p1n (by decide) rfl ?_ | refine sm_get_p2n (by decide) (by decide) rfl ?_ | refine sm_get_p2m (by decide) (by decide) (by decide) ?_)) ?_
  refine Bod.aldnG dc_397_100 (by repeat (first | exact q0 | exact sm_get_p1 | exact sm_get_p2e | refine sm_get_p1m (by decide) (by decide) ?_ | refine sm_get_p1n (by decide) rfl ?_ | refine sm_get_p2n (by decide) (by decide) rfl ?_ | refine sm_get_p2m (by decide) (by decide) (by decide) ?_)) ?_
  refine Bod.get dc_397_101 fr_397_499 (mk_61 _) rfl ?_
  refine Bod.ildnG dc_397_104 (by repeat (first | exact q1 | exact sm_get_p1 | exact sm_get_p2e | refine sm_get_p1m (by decide) (by decide) ?_ | refine sm_get_p1n (by decide) rfl ?_ | refine sm_get_p2n (by decide) (by decide) rfl ?_ | refine sm_get_p2m (by decide) (by decide) (by decide) ?_)) ?_
  refine Bod.laldN ba rfl (by omega) (by omega) dc_397_105 (mk_92 _) ?_
  refine Bod.go dc_397_106 rfl ?_
  refine Bod.eqI (nI o) (by first | exact ho | (simp only [rIn, rIe, rA, rIA, rLA, rJA, rVI, rQI, rVA, rQA, upd_at,  rAI, rLI, rJI, nI_add, pk_sub, kc_0, kc_1, kc_2, kc_3, kc_4, kc_5, reduceIte, Nat.reduceEqDiff, Nat.add_zero, rI_hold, rI_hold, rL_hold]; exact ho)) ?_
  refine Bod.ildG dc_397_107 (by repeat (first | exact q0 | exact sm_get_p1 | exact sm_get_p2e | refine sm_get_p1m (by decide) (by decide) ?_ | refine sm_get_p1n (by decide) rfl ?_ | refine sm_get_p2n (by decide) (by decide) rfl ?_ | refine sm_get_p2m (by decide) (by decide) (by decide) ?_)) ?_
  refine Bod.virt (r := []) dc_397_109 kr_397_777 ⟨Or.inl rfl, ow_398, cl_14⟩ (by rw [np_398]; rfl) (by rw [np_398]; rfl) (ob_of (mk_61 _)) (Nat.le_of_ble_eq_true rfl) (c2  ) ?_
  show Bod _ _ _ _ [_] _ _ _
  refine Bod.ist dc_397_112 (by rw [ml_397]; exact Nat.le_of_ble_eq_true rfl) ?_
  refine Bod.ildG dc_397_114 (by repeat (first | exact q0 | exact sm_get_p1 | exact sm_get_p2e | refine sm_get_p1m (by decide) (by decide) ?_ | refine sm_get_p1n (by decide) rfl ?_ | refine sm_get_p2n (by decide) (by decide) rfl ?_ | refine sm_get_p2m (by decide) (by decide) (by decide) ?_)) ?_
  refine Bod.ifT dc_397_116 rfl (by decide) ?_
  refine Bod.ildnG dc_397_202 (by repeat (first | exact q2 | exact sm_get_p1 | exact sm_get_p2e | refine sm_get_p1m (by decide) (by decide) ?_ | refine sm_get_p1n (by decide) rfl ?_ | refine sm_get_p2n (by decide) (by decide) rfl ?_ | refine sm_get_p2m (by decide) (by decide) (by decide) ?_)) ?_
  refine Bod.ifT dc_397_203 rfl (k1_le_T (k_eq nn 0 (by first | assumption | (simp (disch := omega) only [rIn, rIe, rA, rIA, rLA, rJA, rVI, rQI, rVA, rQA, upd_at,  rAI, rLI, rJI, nI_add, pk_sub, kc_0, kc_1, kc_2, kc_3, kc_4, kc_5, reduceIte, Nat.reduceEqDiff, Nat.add_zero, rI_hold, rI_hold, rL_hold, ht]; done) | (simp (disch := omega) only [rIn, rIe, rA, rIA, rLA, rJA, rVI, rQI, rVA, rQA, upd_at,  rAI, rLI, rJI, nI_add, pk_sub, kc_0, kc_1, kc_2, kc_3, kc_4, kc_5, reduceIte, Nat.reduceEqDiff, Nat.add_zero, rI_hold, rI_hold, rL_hold, ht]; exact congrArg nI (by omega))) rfl (by omega))) ?_
  refine Bod.aldnG dc_397_212 (by repeat (first | exact q0 | exact sm_get_p1 | exact sm_get_p2e | refine sm_get_p1m (by decide) (by decide) ?_ | refine sm_get_p1n (by decide) rfl ?_ | refine sm_get_p2n (by decide) (by decide) rfl ?_ | refine sm_get_p2m (by decide) (by decide) (by decide) ?_)) ?_
  refine Bod.ildnG dc_397_213 (by repeat (first | exact q1 | exact sm_get_p1 | exact sm_get_p2e | refine sm_get_p1m (by decide) (by decide) ?_ | refine sm_get_p1n (by decide) rfl ?_ | refine sm_get_p2n (by decide) (by decide) rfl ?_ | refine sm_get_p2m (by decide) (by decide) (by decide) ?_)) ?_
  refine Bod.ic 1 (by decide) dc_397_214 ?_
  refine Bod.addN (ba + 1) (by omega) dc_397_215 ?_
  refine Bod.ildnG dc_397_216 (by repeat (first | exact q1 | exact sm_get_p1 | exact sm_get_p2e | refine sm_get_p1m (by decide) (by decide) ?_ | refine sm_get_p1n (by decide) rfl ?_ | refine sm_get_p2n (by decide) (by decide) rfl ?_ | refine sm_get_p2m (by decide) (by decide) (by decide) ?_)) ?_
  refine Bod.virt (r := []) dc_397_217 kr_397_672 ⟨Or.inl rfl, ow_391, cl_14⟩ (by rw [np_391]; rfl) (by rw [np_391]; rfl) (ob_of (mk_61 _)) (Nat.le_of_ble_eq_true rfl) (c3  ) ?_
  show Bod _ _ _ _ [] _ _ _
  refine Bod.aldnG dc_397_220 (by repeat (first | exact q0 | exact sm_get_p1 | exact sm_get_p2e | refine sm_get_p1m (by decide) (by decide) ?_ | refine sm_get_p1n (by decide) rfl ?_ | refine sm_get_p2n (by decide) (by decide) rfl ?_ | refine sm_get_p2m (by decide) (by decide) (by decide) ?_)) ?_
  refine Bod.ildnG dc_397_221 (by repeat (first | exact q1 | exact sm_get_p1 | exact sm_get_p2e | refine sm_get_p1m (by decide) (by decide) ?_ | refine sm_get_p1n (by decide) rfl ?_ | refine sm_get_p2n (by decide) (by decide) rfl ?_ | refine sm_get_p2m (by decide) (by decide) (by decide) ?_)) ?_
  refine Bod.ic 1 (by decide) dc_397_222 ?_
  refine Bod.addN (ba + 1) (by omega) dc_397_223 ?_
  refine Bod.put dc_397_224 fr_397_493 (mk_61 _) (Nat.le_of_ble_eq_true rfl) pf_14_51 (st_6151 _ _) (mu_I _ _ _) ?_
  refine Bod.ic 1 (by decide) dc_397_227 ?_
  exact Bod.retZ dc_397_228 rt_397 (Or.inr rfl)
theorem rMkB_8 {d : Nat} {S : cS} {lv : sm_L} {ba : Nat} {nn : Nat} {io : Nat} {t : Nat} {S1 : cS} {a : Nat} {o : Nat} {S2 : cS} {S3 : cS} (q0 : sm_get lv 0 = some (.ref 61)) (q1 : sm_get lv 1 = some (.int (nI ba))) (q2 : sm_get lv 2 = some (.int (nI nn))) (q3 : sm_get lv 3 = some (.int (nI io))) (mba : ba < 2 ^ 20) (mnn : nn < 2 ^ 20) (mio : io < 2 ^ 20) (b1 : ba + 1 < 20480) (ht : sI (wL 92 (ba + 1) ((nI io).toInt64) (wA 91 (ba + 1) (nI 3) S)) 6151 = nI t) (mt : t < 20481) (ma : a < 2 ^ 20) (c1 : Ans (d + 8) 294 [.ref 61, .ref 105, .int (nI 0), .int (nI 4)] (wI 6151 (nI (t + 1)) (wL 92 (ba + 1) ((nI io).toInt64) (wA 91 (ba + 1) (nI 3) S))) (some (.int (nI a))) S1) (b2 : ba < 20480) (ho : (sL S1 92 ba).toInt32 = nI o) (mo : o < 1500) (c2 : Ans (d + 8) 398 [.ref 61, .int (nI o), .int (nI a)] S1 (some (.int (Int32.ofInt (-1)))) S2) (b3 : 0 < nn) (c3 : Ans (d + 8) 351 [.ref 61, .int (nI 2)] S2 (some (.int (nI 0))) S3) : Bod (d + 8) 397 58 lv [] S (some (.int 0)) (S3) := by
  refine Bod.aldnG dc_397_58 (by repeat (first | exact q0 | exact sm_get_p1 | exact sm_get_p2e | refine sm_get_p1m (by decide) (by decide) ?_ | refine sm_get_p1n (by decide) rfl ?_ | refine sm_get_p2n (by decide) (by decide) rfl ?_ | refine sm_get_p2m (by decide) (by decide) (by decide) ?_)) ?_
  refine Bod.get dc_397_59 fr_397_496 (mk_61 _) rfl ?_
  refine Bod.ildnG dc_397_62 (by repeat (first | exact q1 | exact sm_get_p1 | exact sm_get_p2e | refine sm_get_p1m (by decide) (by decide) ?_ | refine sm_get_p1n (by decide) rfl ?_ | refine sm_get_p2n (by decide) (by decide) rfl ?_ | refine sm_get_p2m (by decide) (by decide) (by decide) ?_)) ?_
  refine Bod.ic 1 (by decide) dc_397_63 ?_
  refine Bod.addN (ba + 1) (by omega) dc_397_64 ?_
  refine Bod.ic 3 (by decide) dc_397_65 ?_
  refine Bod.iastN (ba + 1) rfl (by omega) (by omega) dc_397_66 (mk_91 _) (sa_91 _ _ _) (mu_A _ _ _ _) ?_
  refine Bod.aldnG dc_397_67 (by repeat (first | exact q0 | exact sm_get_p1 | exact sm_get_p2e | refine sm_get_p1m (by decide) (by decide) ?_ | refine sm_get_p1n (by decide) rfl ?_ | refine sm_get_p2n (by decide) (by decide) rfl ?_ | refine sm_get_p2m (by decide) (by decide) (by decide) ?_)) ?_
  refine Bod.get dc_397_68 fr_397_499 (mk_61 _) rfl ?_
  refine Bod.ildnG dc_397_71 (by repeat (first | exact q1 | exact sm_get_p1 | exact sm_get_p2e | refine sm_get_p1m (by decide) (by decide) ?_ | refine sm_get_p1n (by decide) rfl ?_ | refine sm_get_p2n (by decide) (by decide) rfl ?_ | refine sm_get_p2m (by decide) (by decide) (by decide) ?_)) ?_
  refine Bod.ic 1 (by decide) dc_397_72 ?_
  refine Bod.addN (ba + 1) (by omega) dc_397_73 ?_
  refine Bod.ildnG dc_397_74 (by repeat (first | exact q3 | exact sm_get_p1 | exact sm_get_p2e | refine sm_get_p1m (by decide) (by decide) ?_ | refine sm_get_p1n (by decide) rfl ?_ | refine sm_get_p2n (by decide) (by decide) rfl ?_ | refine sm_get_p2m (by decide) (by decide) (by decide) ?_)) ?_
  refine Bod.go dc_397_75 rfl ?_
  refine Bod.lastN (ba + 1) rfl (by omega) (by omega) dc_397_76 (mk_92 _) (sa_92 _ _ _) (mu_L _ _ _ _) ?_
  refine Bod.aldnG dc_397_77 (by repeat (first | exact q0 | exact sm_get_p1 | exact sm_get_p2e | refine sm_get_p1m (by decide) (by decide) ?_ | refine sm_get_p1n (by decide) rfl ?_ | refine sm_get_p2n (by decide) (by decide) rfl ?_ | refine sm_get_p2m (by decide) (by decide) (by decide) ?_)) ?_
  refine Bod.go dc_397_78 rfl ?_
  refine Bod.get dc_397_79 fr_397_493 (mk_61 _) rfl ?_
  refine Bod.eqI (nI t) (by first | assumption | (simp (disch := omega) only [rIn, rIe, rA, rIA, rLA, rJA, rVI, rQI, rVA, rQA, upd_at,  rAI, rLI, rJI, nI_add, pk_sub, kc_0, kc_1, kc_2, kc_3, kc_4, kc_5, reduceIte, Nat.reduceEqDiff, Nat.add_zero, rI_hold, rI_hold, rL_hold, ht]; done) | (simp (disch := omega) only [rIn, rIe, rA, rIA, rLA, rJA, rVI, rQI, rVA, rQA, upd_at,  rAI, rLI, rJI, nI_add, pk_sub, kc_0, kc_1, kc_2, kc_3, kc_4, kc_5, reduceIte, Nat.reduceEqDiff, Nat.add_zero, rI_hold, rI_hold, rL_hold, ht]; exact congrArg nI (by omega))) ?_
  refine Bod.ic 1 (by decide) dc_397_82 ?_
  refine Bod.addN (t + 1) (by omega) dc_397_83 ?_
  refine Bod.put dc_397_84 fr_397_493 (mk_61 _) (Nat.le_of_ble_eq_true rfl) pf_14_51 (st_6151 _ _) (mu_I _ _ _) ?_
  refine Bod.aldnG dc_397_87 (by repeat (first | exact q0 | exact sm_get_p1 | exact sm_get_p2e | refine sm_get_p1m (by decide) (by decide) ?_ | refine sm_get_p1n (by decide) rfl ?_ | refine sm_get_p2n (by decide) (by decide) rfl ?_ | refine sm_get_p2m (by decide) (by decide) (by decide) ?_)) ?_
  refine Bod.aldnG dc_397_88 (by repeat (first | exact q0 | exact sm_get_p1 | exact sm_get_p2e | refine sm_get_p1m (by decide) (by decide) ?_ | refine sm_get_p1n (by decide) rfl ?_ | refine sm_get_p2n (by decide) (by decide) rfl ?_ | refine sm_get_p2m (by decide) (by decide) (by decide) ?_)) ?_
  refine Bod.get dc_397_89 fr_397_790 (mk_61 _) rfl ?_
  refine Bod.ic 0 (by decide) dc_397_92 ?_
  refine Bod.ic 4 (by decide) dc_397_93 ?_
  refine Bod.virt (r := []) dc_397_94 kr_397_166 ⟨Or.inl rfl, ow_294, cl_14⟩ (by rw [np_294]; rfl) (by rw [np_294]; rfl) (ob_of (mk_61 _)) (Nat.le_of_ble_eq_true rfl) (c1  ) ?_
  show Bod _ _ _ _ [_] _ _ _
  refine Bod.ist dc_397_97 (by rw [ml_397]; exact Nat.le_of_ble_eq_true rfl) ?_
  refine Bod.aldnG dc_397_99 (by repeat (first | exact q0 | exact sm_get_p1 | exact sm_get_p2e | refine sm_get_p1m (by decide) (by decide) ?_ | refine sm_get_p1n (by decide) rfl ?_ | refine sm_get_p2n (by decide) (by decide) rfl ?_ | refine sm_get_p2m (by decide) (by decide) (by decide) ?_)) ?_
  refine Bod.aldnG dc_397_100 (by repeat (first | exact q0 | exact sm_get_p1 | exact sm_get_p2e | refine sm_get_p1m (by decide) (by decide) ?_ | refine sm_get_p1n (by decide) rfl ?_ | refine sm_get_p2n (by decide) (by decide) rfl ?_ | refine sm_get_p2m (by decide) (by decide) (by decide) ?_)) ?_
  refine Bod.get dc_397_101 fr_397_499 (mk_61 _) rfl ?_
  refine Bod.ildnG dc_397_104 (by repeat (first | exact q1 | exact sm_get_p1 | exact sm_get_p2e | refine sm_get_p1m (by decide) (by decide) ?_ | refine sm_get_p1n (by decide) rfl ?_ | refine sm_get_p2n (by decide) (by decide) rfl ?_ | refine sm_get_p2m (by decide) (by decide) (by decide) ?_)) ?_
  refine Bod.laldN ba rfl (by omega) (by omega) dc_397_105 (mk_92 _) ?_
  refine Bod.go dc_397_106 rfl ?_
  refine Bod.eqI (nI o) (by first | exact ho | (simp only [rIn, rIe, rA, rIA, rLA, rJA, rVI, rQI, rVA, rQA, upd_at,  rAI, rLI, rJI, nI_add, pk_sub, kc_0, kc_1, kc_2, kc_3, kc_4, kc_5, reduceIte, Nat.reduceEqDiff, Nat.add_zero, rI_hold, rI_hold, rL_hold]; exact ho)) ?_
  refine Bod.ildG dc_397_107 (by repeat (first | exact q0 | exact sm_get_p1 | exact sm_get_p2e | refine sm_get_p1m (by decide) (by decide) ?_ | refine sm_get_p1n (by decide) rfl ?_ | refine sm_get_p2n (by decide) (by decide) rfl ?_ | refine sm_get_p2m (by decide) (by decide) (by decide) ?_)) ?_
  refine Bod.virt (r := []) dc_397_109 kr_397_777 ⟨Or.inl rfl, ow_398, cl_14⟩ (by rw [np_398]; rfl) (by rw [np_398]; rfl) (ob_of (mk_61 _)) (Nat.le_of_ble_eq_true rfl) (c2  ) ?_
  show Bod _ _ _ _ [_] _ _ _
  refine Bod.ist dc_397_112 (by rw [ml_397]; exact Nat.le_of_ble_eq_true rfl) ?_
  refine Bod.ildG dc_397_114 (by repeat (first | exact q0 | exact sm_get_p1 | exact sm_get_p2e | refine sm_get_p1m (by decide) (by decide) ?_ | refine sm_get_p1n (by decide) rfl ?_ | refine sm_get_p2n (by decide) (by decide) rfl ?_ | refine sm_get_p2m (by decide) (by decide) (by decide) ?_)) ?_
  refine Bod.ifT dc_397_116 rfl (by decide) ?_
  refine Bod.ildnG dc_397_202 (by repeat (first | exact q2 | exact sm_get_p1 | exact sm_get_p2e | refine sm_get_p1m (by decide) (by decide) ?_ | refine sm_get_p1n (by decide) rfl ?_ | refine sm_get_p2n (by decide) (by decide) rfl ?_ | refine sm_get_p2m (by decide) (by decide) (by decide) ?_)) ?_
  refine Bod.ifF dc_397_203 rfl (k1_le_F nn rfl (by omega) (by omega)) ?_
  refine Bod.aldnG dc_397_206 (by repeat (first | exact q0 | exact sm_get_p1 | exact sm_get_p2e | refine sm_get_p1m (by decide) (by decide) ?_ | refine sm_get_p1n (by decide) rfl ?_ | refine sm_get_p2n (by decide) (by decide) rfl ?_ | refine sm_get_p2m (by decide) (by decide) (by decide) ?_)) ?_
  refine Bod.ic 2 (by decide) dc_397_207 ?_
  refine Bod.virt (r := []) dc_397_208 kr_397_608 ⟨Or.inl rfl, ow_351, cl_14⟩ (by rw [np_351]; rfl) (by rw [np_351]; rfl) (ob_of (mk_61 _)) (Nat.le_of_ble_eq_true rfl) (c3  ) ?_
  show Bod _ _ _ _ [_] _ _ _
  exact Bod.retZ dc_397_211 rt_397 (Or.inl rfl)
theorem rBt0_1 {d : Nat} {S : cS} {ba : Nat} {nn : Nat} {S1 : cS} (mba : ba < 2 ^ 20) (mnn : nn < 2 ^ 20) (c1 : Ans (d + 8) 381 [.ref 61, .int (nI ba), .int (nI nn)] S (some (.int (nI 1))) S1) : Bod (d + 8) 380 0 [(0, .ref 61), (1, .int (nI 0)), (2, .int (nI ba)), (3, .int (nI nn))] [] S (some (.int 1)) (S1) := by
  refine Bod.go dc_380_0 rfl ?_
  refine Bod.ic 1 (by decide) dc_380_1 ?_
  refine Bod.addN (ba + 1) (by omega) dc_380_2 ?_
  refine Bod.ist dc_380_3 (by rw [ml_380]; exact Nat.le_of_ble_eq_true rfl) ?_
  refine Bod.go dc_380_5 rfl ?_
  refine Bod.ic 2 (by decide) dc_380_6 ?_
  refine Bod.icT dc_380_7 rfl (k2_ne_T (k_ne 0 2 rfl rfl (by omega) (by omega) (by omega))) ?_
  refine Bod.go dc_380_23 rfl ?_
  refine Bod.ic 3 (by decide) dc_380_24 ?_
  refine Bod.icT dc_380_25 rfl (k2_ne_T (k_ne 0 3 rfl rfl (by omega) (by omega) (by omega))) ?_
  refine Bod.go dc_380_32 rfl ?_
  refine Bod.bip 8 (by decide) dc_380_33 ?_
  refine Bod.icF dc_380_35 rfl (k2_eq_F (k_ne 0 8 rfl rfl (by omega) (by omega) (by omega))) ?_
  refine Bod.go dc_380_38 rfl ?_
  refine Bod.bip 9 (by decide) dc_380_39 ?_
  refine Bod.icT dc_380_41 rfl (k2_ne_T (k_ne 0 9 rfl rfl (by omega) (by omega) (by omega))) ?_
  refine Bod.ic 1 (by decide) dc_380_48 ?_
  refine Bod.ist dc_380_49 (by rw [ml_380]; exact Nat.le_of_ble_eq_true rfl) ?_
  refine Bod.go dc_380_51 rfl ?_
  refine Bod.ifF dc_380_52 rfl (k1_ne_F (k_eq 0 0 rfl rfl (by omega))) ?_
  refine Bod.go dc_380_55 rfl ?_
  refine Bod.go dc_380_56 rfl ?_
  refine Bod.go dc_380_57 rfl ?_
  refine Bod.virt (r := []) dc_380_58 kr_380_793 ⟨Or.inl rfl, ow_381, cl_14⟩ (by rw [np_381]; rfl) (by rw [np_381]; rfl) (ob_of (mk_61 _)) (Nat.le_of_ble_eq_true rfl) (c1  ) ?_
  show Bod _ _ _ _ [_] _ _ _
  exact Bod.retZ dc_380_61 rt_380 (Or.inr rfl)
theorem rBt0_2 {d : Nat} {S : cS} {ba : Nat} {nn : Nat} {S1 : cS} (mba : ba < 2 ^ 20) (mnn : nn < 2 ^ 20) (c1 : Ans (d + 8) 381 [.ref 61, .int (nI ba), .int (nI nn)] S (some (.int (nI 0))) S1) : Bod (d + 8) 380 0 [(0, .ref 61), (1, .int (nI 0)), (2, .int (nI ba)), (3, .int (nI nn))] [] S (some (.int 0)) (S1) := by
  refine Bod.go dc_380_0 rfl ?_
  refine Bod.ic 1 (by decide) dc_380_1 ?_
  refine Bod.addN (ba + 1) (by omega) dc_380_2 ?_
  refine Bod.ist dc_380_3 (by rw [ml_380]; exact Nat.le_of_ble_eq_true rfl) ?_
  refine Bod.go dc_380_5 rfl ?_
  refine Bod.ic 2 (by decide) dc_380_6 ?_
  refine Bod.icT dc_380_7 rfl (k2_ne_T (k_ne 0 2 rfl rfl (by omega) (by omega) (by omega))) ?_
  refine Bod.go dc_380_23 rfl ?_
  refine Bod.ic 3 (by decide) dc_380_24 ?_
  refine Bod.icT dc_380_25 rfl (k2_ne_T (k_ne 0 3 rfl rfl (by omega) (by omega) (by omega))) ?_
  refine Bod.go dc_380_32 rfl ?_
  refine Bod.bip 8 (by decide) dc_380_33 ?_
  refine Bod.icF dc_380_35 rfl (k2_eq_F (k_ne 0 8 rfl rfl (by omega) (by omega) (by omega))) ?_
  refine Bod.go dc_380_38 rfl ?_
  refine Bod.bip 9 (by decide) dc_380_39 ?_
  refine Bod.icT dc_380_41 rfl (k2_ne_T (k_ne 0 9 rfl rfl (by omega) (by omega) (by omega))) ?_
  refine Bod.ic 1 (by decide) dc_380_48 ?_
  refine Bod.ist dc_380_49 (by rw [ml_380]; exact Nat.le_of_ble_eq_true rfl) ?_
  refine Bod.go dc_380_51 rfl ?_
  refine Bod.ifF dc_380_52 rfl (k1_ne_F (k_eq 0 0 rfl rfl (by omega))) ?_
  refine Bod.go dc_380_55 rfl ?_
  refine Bod.go dc_380_56 rfl ?_
  refine Bod.go dc_380_57 rfl ?_
  refine Bod.virt (r := []) dc_380_58 kr_380_793 ⟨Or.inl rfl, ow_381, cl_14⟩ (by rw [np_381]; rfl) (by rw [np_381]; rfl) (ob_of (mk_61 _)) (Nat.le_of_ble_eq_true rfl) (c1  ) ?_
  show Bod _ _ _ _ [_] _ _ _
  exact Bod.retZ dc_380_61 rt_380 (Or.inl rfl)
theorem rBt1_1 {d : Nat} {S : cS} {ba : Nat} {nn : Nat} {e91 : Nat} {S1 : cS} {S2 : cS} {g : Nat} {zg : Nat} {fd1 : Nat} {S3 : cS} (mba : ba < 2 ^ 20) (mnn : nn < 2 ^ 20) (b1 : nn = 1) (b2 : ba + 1 < 20480) (he91 : sA S 91 (ba + 1) = nI e91) (me91 : e91 < 2 ^ 20) (b3 : e91 ≠ 2) (c1 : Ans (d + 8) 363 [.ref 61, .int (nI (ba + 1)), .int (nI 1)] S (some (.int (nI 1))) S1) (ag : 108 ≤ g) (c2 : Ans (d + 8) 361 [.ref 61, .int (nI (ba + 1))] S1 (some (.ref g)) S2) (hz1 : (sS S2)[g - 108]? = some (13, zg)) (hfd1 : sI S2 (100 * g + 1) = nI fd1) (mfd1 : fd1 < 2 ^ 20) (c3 : Ans (d + 8) 353 [.ref 61, .long ((nI fd1).toInt64)] (wI 6151 (nI ba) S2) none S3) : Bod (d + 8) 380 0 [(0, .ref 61), (1, .int (nI 1)), (2, .int (nI ba)), (3, .int (nI nn))] [] S (some (.int 1)) (S3) := by
  refine Bod.go dc_380_0 rfl ?_
  refine Bod.ic 1 (by decide) dc_380_1 ?_
  refine Bod.addN (ba + 1) (by omega) dc_380_2 ?_
  refine Bod.ist dc_380_3 (by rw [ml_380]; exact Nat.le_of_ble_eq_true rfl) ?_
  refine Bod.go dc_380_5 rfl ?_
  refine Bod.ic 2 (by decide) dc_380_6 ?_
  refine Bod.icT dc_380_7 rfl (k2_ne_T (k_ne 1 2 rfl rfl (by omega) (by omega) (by omega))) ?_
  refine Bod.go dc_380_23 rfl ?_
  refine Bod.ic 3 (by decide) dc_380_24 ?_
  refine Bod.icT dc_380_25 rfl (k2_ne_T (k_ne 1 3 rfl rfl (by omega) (by omega) (by omega))) ?_
  refine Bod.go dc_380_32 rfl ?_
  refine Bod.bip 8 (by decide) dc_380_33 ?_
  refine Bod.icF dc_380_35 rfl (k2_eq_F (k_ne 1 8 rfl rfl (by omega) (by omega) (by omega))) ?_
  refine Bod.go dc_380_38 rfl ?_
  refine Bod.bip 9 (by decide) dc_380_39 ?_
  refine Bod.icT dc_380_41 rfl (k2_ne_T (k_ne 1 9 rfl rfl (by omega) (by omega) (by omega))) ?_
  refine Bod.ic 1 (by decide) dc_380_48 ?_
  refine Bod.ist dc_380_49 (by rw [ml_380]; exact Nat.le_of_ble_eq_true rfl) ?_
  refine Bod.go dc_380_51 rfl ?_
  refine Bod.ifT dc_380_52 rfl (k1_ne_T (k_ne 1 0 rfl rfl (by omega) (by omega) (by omega))) ?_
  refine Bod.go dc_380_62 rfl ?_
  refine Bod.go dc_380_63 rfl ?_
  refine Bod.icT dc_380_65 rfl (k2_eq_T (k_eq nn 1 rfl rfl (by omega))) ?_
  refine Bod.go dc_380_74 rfl ?_
  refine Bod.lst dc_380_75 (by rw [ml_380]; exact Nat.le_of_ble_eq_true rfl) ?_
  refine Bod.go dc_380_77 rfl ?_
  refine Bod.sw (t := 124) dc_380_78 rfl rfl (by decide +kernel) ?_
  refine Bod.go dc_380_124 rfl ?_
  refine Bod.get dc_380_125 fr_380_496 (mk_61 _) rfl ?_
  refine Bod.go dc_380_128 rfl ?_
  refine Bod.ialdN (ba + 1) rfl (by omega) (by omega) dc_380_130 (mk_91 _) ?_
  refine Bod.eqI (nI e91) (by first | assumption | rfl | exact congrArg nI (by omega) | (simp (disch := omega) only [rIn, rIe, rA, rIA, rLA, rJA, rVI, rQI, rVA, rQA, upd_at,  rAI, rLI, rJI, nI_add, pk_sub, kc_0, kc_1, kc_2, kc_3, kc_4, kc_5, reduceIte, Nat.reduceEqDiff, Nat.add_zero, rI_hold, rI_hold, rL_hold, he91]; done)) ?_
  refine Bod.ic 2 (by decide) dc_380_131 ?_
  refine Bod.icT dc_380_132 rfl (k2_ne_T (k_ne e91 2 rfl rfl (by omega) (by omega) (by omega))) ?_
  refine Bod.go dc_380_151 rfl ?_
  refine Bod.go dc_380_152 rfl ?_
  refine Bod.ic 1 (by decide) dc_380_154 ?_
  refine Bod.virt (r := []) dc_380_155 kr_380_683 ⟨Or.inl rfl, ow_363, cl_14⟩ (by rw [np_363]; rfl) (by rw [np_363]; rfl) (ob_of (mk_61 _)) (Nat.le_of_ble_eq_true rfl) (c1  ) ?_
  show Bod _ _ _ _ [_] _ _ _
  refine Bod.ifT dc_380_158 rfl (k1_ne_T (k_ne 1 0 rfl rfl (by omega) (by omega) (by omega))) ?_
  refine Bod.go dc_380_171 rfl ?_
  refine Bod.go dc_380_172 rfl ?_
  refine Bod.virt (r := []) dc_380_174 kr_380_554 ⟨Or.inl rfl, ow_361, cl_14⟩ (by rw [np_361]; rfl) (by rw [np_361]; rfl) (ob_of (mk_61 _)) (Nat.le_of_ble_eq_true rfl) (c2  ) ?_
  show Bod _ _ _ _ [_] _ _ _
  refine Bod.get dc_380_177 fr_380_459 (mk_thing ag (by first | exact hz1 | (simp only [rIS, rJS, rAS, rLS, rVS, rQS, rS_hold]; exact hz1))) rfl ?_
  refine Bod.eqI (nI fd1) (by first | assumption | (simp (disch := omega) only [rIn, rIe, rA, rIA, rLA, rJA, rVI, rQI, rVA, rQA, upd_at,  rAI, rLI, rJI, nI_add, pk_sub, kc_0, kc_1, kc_2, kc_3, kc_4, kc_5, reduceIte, Nat.reduceEqDiff, Nat.add_zero, rI_hold, rI_hold, rL_hold, he91, hfd1]; done) | (simp (disch := omega) only [rIn, rIe, rA, rIA, rLA, rJA, rVI, rQI, rVA, rQA, upd_at,  rAI, rLI, rJI, nI_add, pk_sub, kc_0, kc_1, kc_2, kc_3, kc_4, kc_5, reduceIte, Nat.reduceEqDiff, Nat.add_zero, rI_hold, rI_hold, rL_hold, he91, hfd1]; exact congrArg nI (by omega))) ?_
  refine Bod.go dc_380_180 rfl ?_
  refine Bod.lst dc_380_181 (by rw [ml_380]; exact Nat.le_of_ble_eq_true rfl) ?_
  refine Bod.go dc_380_183 rfl ?_
  refine Bod.go dc_380_554 rfl ?_
  refine Bod.go dc_380_555 rfl ?_
  refine Bod.put dc_380_556 fr_380_493 (mk_61 _) (Nat.le_of_ble_eq_true rfl) pf_14_51 (st_6151 _ _) (mu_I _ _ _) ?_
  refine Bod.go dc_380_559 rfl ?_
  refine Bod.go dc_380_560 rfl ?_
  refine Bod.virt (r := []) dc_380_562 kr_380_613 ⟨Or.inl rfl, ow_353, cl_14⟩ (by rw [np_353]; rfl) (by rw [np_353]; rfl) (ob_of (mk_61 _)) (Nat.le_of_ble_eq_true rfl) (c3  ) ?_
  show Bod _ _ _ _ [] _ _ _
  refine Bod.ic 1 (by decide) dc_380_565 ?_
  exact Bod.retZ dc_380_566 rt_380 (Or.inr rfl)
theorem rBt1_2 {d : Nat} {S : cS} {ba : Nat} {nn : Nat} {e91 : Nat} {S1 : cS} {S2 : cS} {S3 : cS} {g : Nat} {zg : Nat} {fd1 : Nat} {S4 : cS} (mba : ba < 2 ^ 20) (mnn : nn < 2 ^ 20) (b1 : nn = 1) (b2 : ba + 1 < 20480) (he91 : sA S 91 (ba + 1) = nI e91) (me91 : e91 < 2 ^ 20) (b3 : e91 ≠ 2) (c1 : Ans (d + 8) 363 [.ref 61, .int (nI (ba + 1)), .int (nI 1)] S (some (.int (nI 0))) S1) (c2 : Ans (d + 8) 363 [.ref 61, .int (nI (ba + 1)), .int (nI 2)] S1 (some (.int (nI 1))) S2) (ag : 108 ≤ g) (c3 : Ans (d + 8) 361 [.ref 61, .int (nI (ba + 1))] S2 (some (.ref g)) S3) (hz1 : (sS S3)[g - 108]? = some (13, zg)) (hfd1 : sI S3 (100 * g + 1) = nI fd1) (mfd1 : fd1 < 2 ^ 20) (c4 : Ans (d + 8) 353 [.ref 61, .long ((nI fd1).toInt64)] (wI 6151 (nI ba) S3) none S4) : Bod (d + 8) 380 0 [(0, .ref 61), (1, .int (nI 1)), (2, .int (nI ba)), (3, .int (nI nn))] [] S (some (.int 1)) (S4) := by
  refine Bod.go dc_380_0 rfl ?_
  refine Bod.ic 1 (by decide) dc_380_1 ?_
  refine Bod.addN (ba + 1) (by omega) dc_380_2 ?_
  refine Bod.ist dc_380_3 (by rw [ml_380]; exact Nat.le_of_ble_eq_true rfl) ?_
  refine Bod.go dc_380_5 rfl ?_
  refine Bod.ic 2 (by decide) dc_380_6 ?_
  refine Bod.icT dc_380_7 rfl (k2_ne_T (k_ne 1 2 rfl rfl (by omega) (by omega) (by omega))) ?_
  refine Bod.go dc_380_23 rfl ?_
  refine Bod.ic 3 (by decide) dc_380_24 ?_
  refine Bod.icT dc_380_25 rfl (k2_ne_T (k_ne 1 3 rfl rfl (by omega) (by omega) (by omega))) ?_
  refine Bod.go dc_380_32 rfl ?_
  refine Bod.bip 8 (by decide) dc_380_33 ?_
  refine Bod.icF dc_380_35 rfl (k2_eq_F (k_ne 1 8 rfl rfl (by omega) (by omega) (by omega))) ?_
  refine Bod.go dc_380_38 rfl ?_
  refine Bod.bip 9 (by decide) dc_380_39 ?_
  refine Bod.icT dc_380_41 rfl (k2_ne_T (k_ne 1 9 rfl rfl (by omega) (by omega) (by omega))) ?_
  refine Bod.ic 1 (by decide) dc_380_48 ?_
  refine Bod.ist dc_380_49 (by rw [ml_380]; exact Nat.le_of_ble_eq_true rfl) ?_
  refine Bod.go dc_380_51 rfl ?_
  refine Bod.ifT dc_380_52 rfl (k1_ne_T (k_ne 1 0 rfl rfl (by omega) (by omega) (by omega))) ?_
  refine Bod.go dc_380_62 rfl ?_
  refine Bod.go dc_380_63 rfl ?_
  refine Bod.icT dc_380_65 rfl (k2_eq_T (k_eq nn 1 rfl rfl (by omega))) ?_
  refine Bod.go dc_380_74 rfl ?_
  refine Bod.lst dc_380_75 (by rw [ml_380]; exact Nat.le_of_ble_eq_true rfl) ?_
  refine Bod.go dc_380_77 rfl ?_
  refine Bod.sw (t := 124) dc_380_78 rfl rfl (by decide +kernel) ?_
  refine Bod.go dc_380_124 rfl ?_
  refine Bod.get dc_380_125 fr_380_496 (mk_61 _) rfl ?_
  refine Bod.go dc_380_128 rfl ?_
  refine Bod.ialdN (ba + 1) rfl (by omega) (by omega) dc_380_130 (mk_91 _) ?_
  refine Bod.eqI (nI e91) (by first | assumption | rfl | exact congrArg nI (by omega) | (simp (disch := omega) only [rIn, rIe, rA, rIA, rLA, rJA, rVI, rQI, rVA, rQA, upd_at,  rAI, rLI, rJI, nI_add, pk_sub, kc_0, kc_1, kc_2, kc_3, kc_4, kc_5, reduceIte, Nat.reduceEqDiff, Nat.add_zero, rI_hold, rI_hold, rL_hold, he91]; done)) ?_
  refine Bod.ic 2 (by decide) dc_380_131 ?_
  refine Bod.icT dc_380_132 rfl (k2_ne_T (k_ne e91 2 rfl rfl (by omega) (by omega) (by omega))) ?_
  refine Bod.go dc_380_151 rfl ?_
  refine Bod.go dc_380_152 rfl ?_
  refine Bod.ic 1 (by decide) dc_380_154 ?_
  refine Bod.virt (r := []) dc_380_155 kr_380_683 ⟨Or.inl rfl, ow_363, cl_14⟩ (by rw [np_363]; rfl) (by rw [np_363]; rfl) (ob_of (mk_61 _)) (Nat.le_of_ble_eq_true rfl) (c1  ) ?_
  show Bod _ _ _ _ [_] _ _ _
  refine Bod.ifF dc_380_158 rfl (k1_ne_F (k_eq 0 0 rfl rfl (by omega))) ?_
  refine Bod.go dc_380_161 rfl ?_
  refine Bod.go dc_380_162 rfl ?_
  refine Bod.ic 2 (by decide) dc_380_164 ?_
  refine Bod.virt (r := []) dc_380_165 kr_380_683 ⟨Or.inl rfl, ow_363, cl_14⟩ (by rw [np_363]; rfl) (by rw [np_363]; rfl) (ob_of (mk_61 _)) (Nat.le_of_ble_eq_true rfl) (c2  ) ?_
  show Bod _ _ _ _ [_] _ _ _
  refine Bod.ifF dc_380_168 rfl (k1_eq_F (k_ne 1 0 rfl rfl (by omega) (by omega) (by omega))) ?_
  refine Bod.go dc_380_171 rfl ?_
  refine Bod.go dc_380_172 rfl ?_
  refine Bod.virt (r := []) dc_380_174 kr_380_554 ⟨Or.inl rfl, ow_361, cl_14⟩ (by rw [np_361]; rfl) (by rw [np_361]; rfl) (ob_of (mk_61 _)) (Nat.le_of_ble_eq_true rfl) (c3  ) ?_
  show Bod _ _ _ _ [_] _ _ _
  refine Bod.get dc_380_177 fr_380_459 (mk_thing ag (by first | exact hz1 | (simp only [rIS, rJS, rAS, rLS, rVS, rQS, rS_hold]; exact hz1))) rfl ?_
  refine Bod.eqI (nI fd1) (by first | assumption | (simp (disch := omega) only [rIn, rIe, rA, rIA, rLA, rJA, rVI, rQI, rVA, rQA, upd_at,  rAI, rLI, rJI, nI_add, pk_sub, kc_0, kc_1, kc_2, kc_3, kc_4, kc_5, reduceIte, Nat.reduceEqDiff, Nat.add_zero, rI_hold, rI_hold, rL_hold, he91, hfd1]; done) | (simp (disch := omega) only [rIn, rIe, rA, rIA, rLA, rJA, rVI, rQI, rVA, rQA, upd_at,  rAI, rLI, rJI, nI_add, pk_sub, kc_0, kc_1, kc_2, kc_3, kc_4, kc_5, reduceIte, Nat.reduceEqDiff, Nat.add_zero, rI_hold, rI_hold, rL_hold, he91, hfd1]; exact congrArg nI (by omega))) ?_
  refine Bod.go dc_380_180 rfl ?_
  refine Bod.lst dc_380_181 (by rw [ml_380]; exact Nat.le_of_ble_eq_true rfl) ?_
  refine Bod.go dc_380_183 rfl ?_
  refine Bod.go dc_380_554 rfl ?_
  refine Bod.go dc_380_555 rfl ?_
  refine Bod.put dc_380_556 fr_380_493 (mk_61 _) (Nat.le_of_ble_eq_true rfl) pf_14_51 (st_6151 _ _) (mu_I _ _ _) ?_
  refine Bod.go dc_380_559 rfl ?_
  refine Bod.go dc_380_560 rfl ?_
  refine Bod.virt (r := []) dc_380_562 kr_380_613 ⟨Or.inl rfl, ow_353, cl_14⟩ (by rw [np_353]; rfl) (by rw [np_353]; rfl) (ob_of (mk_61 _)) (Nat.le_of_ble_eq_true rfl) (c4  ) ?_
  show Bod _ _ _ _ [] _ _ _
  refine Bod.ic 1 (by decide) dc_380_565 ?_
  exact Bod.retZ dc_380_566 rt_380 (Or.inr rfl)
theorem rBt1_3 {d : Nat} {S : cS} {ba : Nat} {nn : Nat} {e91 : Nat} {S1 : cS} {S2 : cS} {S3 : cS} (mba : ba < 2 ^ 20) (mnn : nn < 2 ^ 20) (b1 : nn = 1) (b2 : ba + 1 < 20480) (he91 : sA S 91 (ba + 1) = nI e91) (me91 : e91 < 2 ^ 20) (b3 : e91 ≠ 2) (c1 : Ans (d + 8) 363 [.ref 61, .int (nI (ba + 1)), .int (nI 1)] S (some (.int (nI 0))) S1) (c2 : Ans (d + 8) 363 [.ref 61, .int (nI (ba + 1)), .int (nI 2)] S1 (some (.int (nI 0))) S2) (c3 : Ans (d + 8) 351 [.ref 61, .int (nI 2)] S2 (some (.int (nI 0))) S3) : Bod (d + 8) 380 0 [(0, .ref 61), (1, .int (nI 1)), (2, .int (nI ba)), (3, .int (nI nn))] [] S (some (.int 0)) (S3) := by
  refine Bod.go dc_380_0 rfl ?_
  refine Bod.ic 1 (by decide) dc_380_1 ?_
  refine Bod.addN (ba + 1) (by omega) dc_380_2 ?_
  refine Bod.ist dc_380_3 (by rw [ml_380]; exact Nat.le_of_ble_eq_true rfl) ?_
  refine Bod.go dc_380_5 rfl ?_
  refine Bod.ic 2 (by decide) dc_380_6 ?_
  refine Bod.icT dc_380_7 rfl (k2_ne_T (k_ne 1 2 rfl rfl (by omega) (by omega) (by omega))) ?_
  refine Bod.go dc_380_23 rfl ?_
  refine Bod.ic 3 (by decide) dc_380_24 ?_
  refine Bod.icT dc_380_25 rfl (k2_ne_T (k_ne 1 3 rfl rfl (by omega) (by omega) (by omega))) ?_
  refine Bod.go dc_380_32 rfl ?_
  refine Bod.bip 8 (by decide) dc_380_33 ?_
  refine Bod.icF dc_380_35 rfl (k2_eq_F (k_ne 1 8 rfl rfl (by omega) (by omega) (by omega))) ?_
  refine Bod.go dc_380_38 rfl ?_
  refine Bod.bip 9 (by decide) dc_380_39 ?_
  refine Bod.icT dc_380_41 rfl (k2_ne_T (k_ne 1 9 rfl rfl (by omega) (by omega) (by omega))) ?_
  refine Bod.ic 1 (by decide) dc_380_48 ?_
  refine Bod.ist dc_380_49 (by rw [ml_380]; exact Nat.le_of_ble_eq_true rfl) ?_
  refine Bod.go dc_380_51 rfl ?_
  refine Bod.ifT dc_380_52 rfl (k1_ne_T (k_ne 1 0 rfl rfl (by omega) (by omega) (by omega))) ?_
  refine Bod.go dc_380_62 rfl ?_
  refine Bod.go dc_380_63 rfl ?_
  refine Bod.icT dc_380_65 rfl (k2_eq_T (k_eq nn 1 rfl rfl (by omega))) ?_
  refine Bod.go dc_380_74 rfl ?_
  refine Bod.lst dc_380_75 (by rw [ml_380]; exact Nat.le_of_ble_eq_true rfl) ?_
  refine Bod.go dc_380_77 rfl ?_
  refine Bod.sw (t := 124) dc_380_78 rfl rfl (by decide +kernel) ?_
  refine Bod.go dc_380_124 rfl ?_
  refine Bod.get dc_380_125 fr_380_496 (mk_61 _) rfl ?_
  refine Bod.go dc_380_128 rfl ?_
  refine Bod.ialdN (ba + 1) rfl (by omega) (by omega) dc_380_130 (mk_91 _) ?_
  refine Bod.eqI (nI e91) (by first | assumption | rfl | exact congrArg nI (by omega) | (simp (disch := omega) only [rIn, rIe, rA, rIA, rLA, rJA, rVI, rQI, rVA, rQA, upd_at,  rAI, rLI, rJI, nI_add, pk_sub, kc_0, kc_1, kc_2, kc_3, kc_4, kc_5, reduceIte, Nat.reduceEqDiff, Nat.add_zero, rI_hold, rI_hold, rL_hold, he91]; done)) ?_
  refine Bod.ic 2 (by decide) dc_380_131 ?_
  refine Bod.icT dc_380_132 rfl (k2_ne_T (k_ne e91 2 rfl rfl (by omega) (by omega) (by omega))) ?_
  refine Bod.go dc_380_151 rfl ?_
  refine Bod.go dc_380_152 rfl ?_
  refine Bod.ic 1 (by decide) dc_380_154 ?_
  refine Bod.virt (r := []) dc_380_155 kr_380_683 ⟨Or.inl rfl, ow_363, cl_14⟩ (by rw [np_363]; rfl) (by rw [np_363]; rfl) (ob_of (mk_61 _)) (Nat.le_of_ble_eq_true rfl) (c1  ) ?_
  show Bod _ _ _ _ [_] _ _ _
  refine Bod.ifF dc_380_158 rfl (k1_ne_F (k_eq 0 0 rfl rfl (by omega))) ?_
  refine Bod.go dc_380_161 rfl ?_
  refine Bod.go dc_380_162 rfl ?_
  refine Bod.ic 2 (by decide) dc_380_164 ?_
  refine Bod.virt (r := []) dc_380_165 kr_380_683 ⟨Or.inl rfl, ow_363, cl_14⟩ (by rw [np_363]; rfl) (by rw [np_363]; rfl) (ob_of (mk_61 _)) (Nat.le_of_ble_eq_true rfl) (c2  ) ?_
  show Bod _ _ _ _ [_] _ _ _
  refine Bod.ifT dc_380_168 rfl (k1_eq_T (k_eq 0 0 rfl rfl (by omega))) ?_
  refine Bod.go dc_380_186 rfl ?_
  refine Bod.ic 2 (by decide) dc_380_187 ?_
  refine Bod.virt (r := []) dc_380_188 kr_380_608 ⟨Or.inl rfl, ow_351, cl_14⟩ (by rw [np_351]; rfl) (by rw [np_351]; rfl) (ob_of (mk_61 _)) (Nat.le_of_ble_eq_true rfl) (c3  ) ?_
  show Bod _ _ _ _ [_] _ _ _
  exact Bod.retZ dc_380_191 rt_380 (Or.inl rfl)
theorem rBt1_4 {d : Nat} {S : cS} {ba : Nat} {nn : Nat} {e91 : Nat} {S1 : cS} {a : Nat} {S2 : cS} (mba : ba < 2 ^ 20) (mnn : nn < 2 ^ 20) (b1 : nn = 1) (b2 : ba + 1 < 20480) (he91 : sA S 91 (ba + 1) = nI e91) (me91 : e91 < 2 ^ 20) (b3 : e91 = 2) (ma : a < 2 ^ 20) (c1 : Ans (d + 8) 360 [.long (sL S 93 (ba + 1))] S (some (.int (nI a))) S1) (c2 : Ans (d + 8) 353 [.ref 61, .long ((nI a).toInt64)] (wI 6151 (nI ba) S1) none S2) : Bod (d + 8) 380 0 [(0, .ref 61), (1, .int (nI 1)), (2, .int (nI ba)), (3, .int (nI nn))] [] S (some (.int 1)) (S2) := by
  refine Bod.go dc_380_0 rfl ?_
  refine Bod.ic 1 (by decide) dc_380_1 ?_
  refine Bod.addN (ba + 1) (by omega) dc_380_2 ?_
  refine Bod.ist dc_380_3 (by rw [ml_380]; exact Nat.le_of_ble_eq_true rfl) ?_
  refine Bod.go dc_380_5 rfl ?_
  refine Bod.ic 2 (by decide) dc_380_6 ?_
  refine Bod.icT dc_380_7 rfl (k2_ne_T (k_ne 1 2 rfl rfl (by omega) (by omega) (by omega))) ?_
  refine Bod.go dc_380_23 rfl ?_
  refine Bod.ic 3 (by decide) dc_380_24 ?_
  refine Bod.icT dc_380_25 rfl (k2_ne_T (k_ne 1 3 rfl rfl (by omega) (by omega) (by omega))) ?_
  refine Bod.go dc_380_32 rfl ?_
  refine Bod.bip 8 (by decide) dc_380_33 ?_
  refine Bod.icF dc_380_35 rfl (k2_eq_F (k_ne 1 8 rfl rfl (by omega) (by omega) (by omega))) ?_
  refine Bod.go dc_380_38 rfl ?_
  refine Bod.bip 9 (by decide) dc_380_39 ?_
  refine Bod.icT dc_380_41 rfl (k2_ne_T (k_ne 1 9 rfl rfl (by omega) (by omega) (by omega))) ?_
  refine Bod.ic 1 (by decide) dc_380_48 ?_
  refine Bod.ist dc_380_49 (by rw [ml_380]; exact Nat.le_of_ble_eq_true rfl) ?_
  refine Bod.go dc_380_51 rfl ?_
  refine Bod.ifT dc_380_52 rfl (k1_ne_T (k_ne 1 0 rfl rfl (by omega) (by omega) (by omega))) ?_
  refine Bod.go dc_380_62 rfl ?_
  refine Bod.go dc_380_63 rfl ?_
  refine Bod.icT dc_380_65 rfl (k2_eq_T (k_eq nn 1 rfl rfl (by omega))) ?_
  refine Bod.go dc_380_74 rfl ?_
  refine Bod.lst dc_380_75 (by rw [ml_380]; exact Nat.le_of_ble_eq_true rfl) ?_
  refine Bod.go dc_380_77 rfl ?_
  refine Bod.sw (t := 124) dc_380_78 rfl rfl (by decide +kernel) ?_
  refine Bod.go dc_380_124 rfl ?_
  refine Bod.get dc_380_125 fr_380_496 (mk_61 _) rfl ?_
  refine Bod.go dc_380_128 rfl ?_
  refine Bod.ialdN (ba + 1) rfl (by omega) (by omega) dc_380_130 (mk_91 _) ?_
  refine Bod.eqI (nI e91) (by first | assumption | rfl | exact congrArg nI (by omega) | (simp (disch := omega) only [rIn, rIe, rA, rIA, rLA, rJA, rVI, rQI, rVA, rQA, upd_at,  rAI, rLI, rJI, nI_add, pk_sub, kc_0, kc_1, kc_2, kc_3, kc_4, kc_5, reduceIte, Nat.reduceEqDiff, Nat.add_zero, rI_hold, rI_hold, rL_hold, he91]; done)) ?_
  refine Bod.ic 2 (by decide) dc_380_131 ?_
  refine Bod.icF dc_380_132 rfl (k2_ne_F (k_eq e91 2 rfl rfl (by omega))) ?_
  refine Bod.go dc_380_135 rfl ?_
  refine Bod.get dc_380_136 fr_380_546 (mk_61 _) rfl ?_
  refine Bod.go dc_380_139 rfl ?_
  refine Bod.laldN (ba + 1) rfl (by omega) (by omega) dc_380_141 (mk_93 _) ?_
  refine Bod.stat (r := []) dc_380_142 kr_380_552 (Or.inl rfl) (by rw [np_360]; rfl) (by rw [np_360]; rfl) (by rw [np_360]; exact Nat.le_of_ble_eq_true rfl) (Nat.le_of_ble_eq_true rfl) (c1  ) ?_
  show Bod _ _ _ _ [_] _ _ _
  refine Bod.go dc_380_145 rfl ?_
  refine Bod.lst dc_380_146 (by rw [ml_380]; exact Nat.le_of_ble_eq_true rfl) ?_
  refine Bod.go dc_380_148 rfl ?_
  refine Bod.go dc_380_554 rfl ?_
  refine Bod.go dc_380_555 rfl ?_
  refine Bod.put dc_380_556 fr_380_493 (mk_61 _) (Nat.le_of_ble_eq_true rfl) pf_14_51 (st_6151 _ _) (mu_I _ _ _) ?_
  refine Bod.go dc_380_559 rfl ?_
  refine Bod.go dc_380_560 rfl ?_
  refine Bod.virt (r := []) dc_380_562 kr_380_613 ⟨Or.inl rfl, ow_353, cl_14⟩ (by rw [np_353]; rfl) (by rw [np_353]; rfl) (ob_of (mk_61 _)) (Nat.le_of_ble_eq_true rfl) (c2  ) ?_
  show Bod _ _ _ _ [] _ _ _
  refine Bod.ic 1 (by decide) dc_380_565 ?_
  exact Bod.retZ dc_380_566 rt_380 (Or.inr rfl)
theorem rBt1_5 {d : Nat} {S : cS} {ba : Nat} {nn : Nat} {S1 : cS} (mba : ba < 2 ^ 20) (mnn : nn < 2 ^ 20) (b1 : nn ≠ 1) (c1 : Ans (d + 8) 351 [.ref 61, .int (nI 2)] S (some (.int (nI 0))) S1) : Bod (d + 8) 380 0 [(0, .ref 61), (1, .int (nI 1)), (2, .int (nI ba)), (3, .int (nI nn))] [] S (some (.int 0)) (S1) := by
  refine Bod.go dc_380_0 rfl ?_
  refine Bod.ic 1 (by decide) dc_380_1 ?_
  refine Bod.addN (ba + 1) (by omega) dc_380_2 ?_
  refine Bod.ist dc_380_3 (by rw [ml_380]; exact Nat.le_of_ble_eq_true rfl) ?_
  refine Bod.go dc_380_5 rfl ?_
  refine Bod.ic 2 (by decide) dc_380_6 ?_
  refine Bod.icT dc_380_7 rfl (k2_ne_T (k_ne 1 2 rfl rfl (by omega) (by omega) (by omega))) ?_
  refine Bod.go dc_380_23 rfl ?_
  refine Bod.ic 3 (by decide) dc_380_24 ?_
  refine Bod.icT dc_380_25 rfl (k2_ne_T (k_ne 1 3 rfl rfl (by omega) (by omega) (by omega))) ?_
  refine Bod.go dc_380_32 rfl ?_
  refine Bod.bip 8 (by decide) dc_380_33 ?_
  refine Bod.icF dc_380_35 rfl (k2_eq_F (k_ne 1 8 rfl rfl (by omega) (by omega) (by omega))) ?_
  refine Bod.go dc_380_38 rfl ?_
  refine Bod.bip 9 (by decide) dc_380_39 ?_
  refine Bod.icT dc_380_41 rfl (k2_ne_T (k_ne 1 9 rfl rfl (by omega) (by omega) (by omega))) ?_
  refine Bod.ic 1 (by decide) dc_380_48 ?_
  refine Bod.ist dc_380_49 (by rw [ml_380]; exact Nat.le_of_ble_eq_true rfl) ?_
  refine Bod.go dc_380_51 rfl ?_
  refine Bod.ifT dc_380_52 rfl (k1_ne_T (k_ne 1 0 rfl rfl (by omega) (by omega) (by omega))) ?_
  refine Bod.go dc_380_62 rfl ?_
  refine Bod.go dc_380_63 rfl ?_
  refine Bod.icF dc_380_65 rfl (k2_eq_F (k_ne nn 1 rfl rfl (by omega) (by omega) (by omega))) ?_
  refine Bod.go dc_380_68 rfl ?_
  refine Bod.ic 2 (by decide) dc_380_69 ?_
  refine Bod.virt (r := []) dc_380_70 kr_380_608 ⟨Or.inl rfl, ow_351, cl_14⟩ (by rw [np_351]; rfl) (by rw [np_351]; rfl) (ob_of (mk_61 _)) (Nat.le_of_ble_eq_true rfl) (c1  ) ?_
  show Bod _ _ _ _ [_] _ _ _
  exact Bod.retZ dc_380_73 rt_380 (Or.inl rfl)
theorem rBt2_1 {d : Nat} {S : cS} {ba : Nat} {nn : Nat} {S1 : cS} (mba : ba < 2 ^ 20) (mnn : nn < 2 ^ 20) (b1 : nn ≠ 2) (b2 : nn = 1) (c1 : Ans (d + 8) 388 [.ref 61, .int (nI ba), .int (nI nn)] S (some (.int (nI 1))) S1) : Bod (d + 8) 380 0 [(0, .ref 61), (1, .int (nI 2)), (2, .int (nI ba)), (3, .int (nI nn))] [] S (some (.int 1)) (S1) := by
  refine Bod.go dc_380_0 rfl ?_
  refine Bod.ic 1 (by decide) dc_380_1 ?_
  refine Bod.addN (ba + 1) (by omega) dc_380_2 ?_
  refine Bod.ist dc_380_3 (by rw [ml_380]; exact Nat.le_of_ble_eq_true rfl) ?_
  refine Bod.go dc_380_5 rfl ?_
  refine Bod.ic 2 (by decide) dc_380_6 ?_
  refine Bod.icF dc_380_7 rfl (k2_ne_F (k_eq 2 2 rfl rfl (by omega))) ?_
  refine Bod.go dc_380_10 rfl ?_
  refine Bod.ic 2 (by decide) dc_380_11 ?_
  refine Bod.icT dc_380_12 rfl (k2_ne_T (k_ne nn 2 rfl rfl (by omega) (by omega) (by omega))) ?_
  refine Bod.ic 1 (by decide) dc_380_19 ?_
  refine Bod.go dc_380_20 rfl ?_
  refine Bod.ist dc_380_49 (by rw [ml_380]; exact Nat.le_of_ble_eq_true rfl) ?_
  refine Bod.go dc_380_51 rfl ?_
  refine Bod.ifT dc_380_52 rfl (k1_ne_T (k_ne 2 0 rfl rfl (by omega) (by omega) (by omega))) ?_
  refine Bod.go dc_380_62 rfl ?_
  refine Bod.go dc_380_63 rfl ?_
  refine Bod.icT dc_380_65 rfl (k2_eq_T (k_eq nn 1 rfl rfl (by omega))) ?_
  refine Bod.go dc_380_74 rfl ?_
  refine Bod.lst dc_380_75 (by rw [ml_380]; exact Nat.le_of_ble_eq_true rfl) ?_
  refine Bod.go dc_380_77 rfl ?_
  refine Bod.sw (t := 192) dc_380_78 rfl rfl (by decide +kernel) ?_
  refine Bod.go dc_380_192 rfl ?_
  refine Bod.go dc_380_193 rfl ?_
  refine Bod.go dc_380_194 rfl ?_
  refine Bod.virt (r := []) dc_380_195 kr_380_795 ⟨Or.inl rfl, ow_388, cl_14⟩ (by rw [np_388]; rfl) (by rw [np_388]; rfl) (ob_of (mk_61 _)) (Nat.le_of_ble_eq_true rfl) (c1  ) ?_
  show Bod _ _ _ _ [_] _ _ _
  exact Bod.retZ dc_380_198 rt_380 (Or.inr rfl)
theorem rBt2_2 {d : Nat} {S : cS} {ba : Nat} {nn : Nat} {S1 : cS} (mba : ba < 2 ^ 20) (mnn : nn < 2 ^ 20) (b1 : nn ≠ 2) (b2 : nn = 1) (c1 : Ans (d + 8) 388 [.ref 61, .int (nI ba), .int (nI nn)] S (some (.int (nI 0))) S1) : Bod (d + 8) 380 0 [(0, .ref 61), (1, .int (nI 2)), (2, .int (nI ba)), (3, .int (nI nn))] [] S (some (.int 0)) (S1) := by
  refine Bod.go dc_380_0 rfl ?_
  refine Bod.ic 1 (by decide) dc_380_1 ?_
  refine Bod.addN (ba + 1) (by omega) dc_380_2 ?_
  refine Bod.ist dc_380_3 (by rw [ml_380]; exact Nat.le_of_ble_eq_true rfl) ?_
  refine Bod.go dc_380_5 rfl ?_
  refine Bod.ic 2 (by decide) dc_380_6 ?_
  refine Bod.icF dc_380_7 rfl (k2_ne_F (k_eq 2 2 rfl rfl (by omega))) ?_
  refine Bod.go dc_380_10 rfl ?_
  refine Bod.ic 2 (by decide) dc_380_11 ?_
  refine Bod.icT dc_380_12 rfl (k2_ne_T (k_ne nn 2 rfl rfl (by omega) (by omega) (by omega))) ?_
  refine Bod.ic 1 (by decide) dc_380_19 ?_
  refine Bod.go dc_380_20 rfl ?_
  refine Bod.ist dc_380_49 (by rw [ml_380]; exact Nat.le_of_ble_eq_true rfl) ?_
  refine Bod.go dc_380_51 rfl ?_
  refine Bod.ifT dc_380_52 rfl (k1_ne_T (k_ne 2 0 rfl rfl (by omega) (by omega) (by omega))) ?_
  refine Bod.go dc_380_62 rfl ?_
  refine Bod.go dc_380_63 rfl ?_
  refine Bod.icT dc_380_65 rfl (k2_eq_T (k_eq nn 1 rfl rfl (by omega))) ?_
  refine Bod.go dc_380_74 rfl ?_
  refine Bod.lst dc_380_75 (by rw [ml_380]; exact Nat.le_of_ble_eq_true rfl) ?_
  refine Bod.go dc_380_77 rfl ?_
  refine Bod.sw (t := 192) dc_380_78 rfl rfl (by decide +kernel) ?_
  refine Bod.go dc_380_192 rfl ?_
  refine Bod.go dc_380_193 rfl ?_
  refine Bod.go dc_380_194 rfl ?_
  refine Bod.virt (r := []) dc_380_195 kr_380_795 ⟨Or.inl rfl, ow_388, cl_14⟩ (by rw [np_388]; rfl) (by rw [np_388]; rfl) (ob_of (mk_61 _)) (Nat.le_of_ble_eq_true rfl) (c1  ) ?_
  show Bod _ _ _ _ [_] _ _ _
  exact Bod.retZ dc_380_198 rt_380 (Or.inl rfl)
theorem rBt2_3 {d : Nat} {S : cS} {ba : Nat} {nn : Nat} {S1 : cS} (mba : ba < 2 ^ 20) (mnn : nn < 2 ^ 20) (b1 : nn ≠ 2) (b2 : nn ≠ 1) (c1 : Ans (d + 8) 351 [.ref 61, .int (nI 2)] S (some (.int (nI 0))) S1) : Bod (d + 8) 380 0 [(0, .ref 61), (1, .int (nI 2)), (2, .int (nI ba)), (3, .int (nI nn))] [] S (some (.int 0)) (S1) := by
  refine Bod.go dc_380_0 rfl ?_
  refine Bod.ic 1 (by decide) dc_380_1 ?_
  refine Bod.addN (ba + 1) (by omega) dc_380_2 ?_
  refine Bod.ist dc_380_3 (by rw [ml_380]; exact Nat.le_of_ble_eq_true rfl) ?_
  refine Bod.go dc_380_5 rfl ?_
  refine Bod.ic 2 (by decide) dc_380_6 ?_
  refine Bod.icF dc_380_7 rfl (k2_ne_F (k_eq 2 2 rfl rfl (by omega))) ?_
  refine Bod.go dc_380_10 rfl ?_
  refine Bod.ic 2 (by decide) dc_380_11 ?_
  refine Bod.icT dc_380_12 rfl (k2_ne_T (k_ne nn 2 rfl rfl (by omega) (by omega) (by omega))) ?_
  refine Bod.ic 1 (by decide) dc_380_19 ?_
  refine Bod.go dc_380_20 rfl ?_
  refine Bod.ist dc_380_49 (by rw [ml_380]; exact Nat.le_of_ble_eq_true rfl) ?_
  refine Bod.go dc_380_51 rfl ?_
  refine Bod.ifT dc_380_52 rfl (k1_ne_T (k_ne 2 0 rfl rfl (by omega) (by omega) (by omega))) ?_
  refine Bod.go dc_380_62 rfl ?_
  refine Bod.go dc_380_63 rfl ?_
  refine Bod.icF dc_380_65 rfl (k2_eq_F (k_ne nn 1 rfl rfl (by omega) (by omega) (by omega))) ?_
  refine Bod.go dc_380_68 rfl ?_
  refine Bod.ic 2 (by decide) dc_380_69 ?_
  refine Bod.virt (r := []) dc_380_70 kr_380_608 ⟨Or.inl rfl, ow_351, cl_14⟩ (by rw [np_351]; rfl) (by rw [np_351]; rfl) (ob_of (mk_61 _)) (Nat.le_of_ble_eq_true rfl) (c1  ) ?_
  show Bod _ _ _ _ [_] _ _ _
  exact Bod.retZ dc_380_73 rt_380 (Or.inl rfl)
theorem rBt2_4 {d : Nat} {S : cS} {ba : Nat} {nn : Nat} {S1 : cS} (mba : ba < 2 ^ 20) (mnn : nn < 2 ^ 20) (b1 : nn = 2) (c1 : Ans (d + 8) 388 [.ref 61, .int (nI ba), .int (nI nn)] S (some (.int (nI 1))) S1) : Bod (d + 8) 380 0 [(0, .ref 61), (1, .int (nI 2)), (2, .int (nI ba)), (3, .int (nI nn))] [] S (some (.int 1)) (S1) := by
  refine Bod.go dc_380_0 rfl ?_
  refine Bod.ic 1 (by decide) dc_380_1 ?_
  refine Bod.addN (ba + 1) (by omega) dc_380_2 ?_
  refine Bod.ist dc_380_3 (by rw [ml_380]; exact Nat.le_of_ble_eq_true rfl) ?_
  refine Bod.go dc_380_5 rfl ?_
  refine Bod.ic 2 (by decide) dc_380_6 ?_
  refine Bod.icF dc_380_7 rfl (k2_ne_F (k_eq 2 2 rfl rfl (by omega))) ?_
  refine Bod.go dc_380_10 rfl ?_
  refine Bod.ic 2 (by decide) dc_380_11 ?_
  refine Bod.icF dc_380_12 rfl (k2_ne_F (k_eq nn 2 rfl rfl (by omega))) ?_
  refine Bod.ic 2 (by decide) dc_380_15 ?_
  refine Bod.go dc_380_16 rfl ?_
  refine Bod.ist dc_380_49 (by rw [ml_380]; exact Nat.le_of_ble_eq_true rfl) ?_
  refine Bod.go dc_380_51 rfl ?_
  refine Bod.ifT dc_380_52 rfl (k1_ne_T (k_ne 2 0 rfl rfl (by omega) (by omega) (by omega))) ?_
  refine Bod.go dc_380_62 rfl ?_
  refine Bod.go dc_380_63 rfl ?_
  refine Bod.icT dc_380_65 rfl (k2_eq_T (k_eq nn 2 rfl rfl (by omega))) ?_
  refine Bod.go dc_380_74 rfl ?_
  refine Bod.lst dc_380_75 (by rw [ml_380]; exact Nat.le_of_ble_eq_true rfl) ?_
  refine Bod.go dc_380_77 rfl ?_
  refine Bod.sw (t := 192) dc_380_78 rfl rfl (by decide +kernel) ?_
  refine Bod.go dc_380_192 rfl ?_
  refine Bod.go dc_380_193 rfl ?_
  refine Bod.go dc_380_194 rfl ?_
  refine Bod.virt (r := []) dc_380_195 kr_380_795 ⟨Or.inl rfl, ow_388, cl_14⟩ (by rw [np_388]; rfl) (by rw [np_388]; rfl) (ob_of (mk_61 _)) (Nat.le_of_ble_eq_true rfl) (c1  ) ?_
  show Bod _ _ _ _ [_] _ _ _
  exact Bod.retZ dc_380_198 rt_380 (Or.inr rfl)
theorem rBt2_5 {d : Nat} {S : cS} {ba : Nat} {nn : Nat} {S1 : cS} (mba : ba < 2 ^ 20) (mnn : nn < 2 ^ 20) (b1 : nn = 2) (c1 : Ans (d + 8) 388 [.ref 61, .int (nI ba), .int (nI nn)] S (some (.int (nI 0))) S1) : Bod (d + 8) 380 0 [(0, .ref 61), (1, .int (nI 2)), (2, .int (nI ba)), (3, .int (nI nn))] [] S (some (.int 0)) (S1) := by
  refine Bod.go dc_380_0 rfl ?_
  refine Bod.ic 1 (by decide) dc_380_1 ?_
  refine Bod.addN (ba + 1) (by omega) dc_380_2 ?_
  refine Bod.ist dc_380_3 (by rw [ml_380]; exact Nat.le_of_ble_eq_true rfl) ?_
  refine Bod.go dc_380_5 rfl ?_
  refine Bod.ic 2 (by decide) dc_380_6 ?_
  refine Bod.icF dc_380_7 rfl (k2_ne_F (k_eq 2 2 rfl rfl (by omega))) ?_
  refine Bod.go dc_380_10 rfl ?_
  refine Bod.ic 2 (by decide) dc_380_11 ?_
  refine Bod.icF dc_380_12 rfl (k2_ne_F (k_eq nn 2 rfl rfl (by omega))) ?_
  refine Bod.ic 2 (by decide) dc_380_15 ?_
  refine Bod.go dc_380_16 rfl ?_
  refine Bod.ist dc_380_49 (by rw [ml_380]; exact Nat.le_of_ble_eq_true rfl) ?_
  refine Bod.go dc_380_51 rfl ?_
  refine Bod.ifT dc_380_52 rfl (k1_ne_T (k_ne 2 0 rfl rfl (by omega) (by omega) (by omega))) ?_
  refine Bod.go dc_380_62 rfl ?_
  refine Bod.go dc_380_63 rfl ?_
  refine Bod.icT dc_380_65 rfl (k2_eq_T (k_eq nn 2 rfl rfl (by omega))) ?_
  refine Bod.go dc_380_74 rfl ?_
  refine Bod.lst dc_380_75 (by rw [ml_380]; exact Nat.le_of_ble_eq_true rfl) ?_
  refine Bod.go dc_380_77 rfl ?_
  refine Bod.sw (t := 192) dc_380_78 rfl rfl (by decide +kernel) ?_
  refine Bod.go dc_380_192 rfl ?_
  refine Bod.go dc_380_193 rfl ?_
  refine Bod.go dc_380_194 rfl ?_
  refine Bod.virt (r := []) dc_380_195 kr_380_795 ⟨Or.inl rfl, ow_388, cl_14⟩ (by rw [np_388]; rfl) (by rw [np_388]; rfl) (ob_of (mk_61 _)) (Nat.le_of_ble_eq_true rfl) (c1  ) ?_
  show Bod _ _ _ _ [_] _ _ _
  exact Bod.retZ dc_380_198 rt_380 (Or.inl rfl)
theorem rBt3_1 {d : Nat} {S : cS} {ba : Nat} {nn : Nat} {S1 : cS} {S2 : cS} {g : Nat} {zg : Nat} {fd1 : Nat} {S3 : cS} {g1 : Nat} {zg1 : Nat} {e91 : Nat} {S4 : cS} {S5 : cS} (mba : ba < 2 ^ 20) (mnn : nn < 2 ^ 20) (b1 : nn = 2) (c1 : Ans (d + 8) 363 [.ref 61, .int (nI (ba + 1)), .int (nI 1)] S (some (.int (nI 1))) S1) (ag : 108 ≤ g) (c2 : Ans (d + 8) 361 [.ref 61, .int (nI (ba + 1))] S1 (some (.ref g)) S2) (hz1 : (sS S2)[g - 108]? = some (13, zg)) (hfd1 : sI S2 (100 * g + 1) = nI fd1) (mfd1 : fd1 < 2 ^ 20) (b2 : fd1 ≠ 300) (ag1 : 108 ≤ g1) (c3 : Ans (d + 8) 361 [.ref 61, .int (nI (ba + 1))] S2 (some (.ref g1)) S3) (b3 : ba + 2 < 20480) (he91 : sA S3 91 (ba + 2) = nI e91) (me91 : e91 < 2 ^ 20) (c4 : Ans (d + 8) 375 [.ref g1, .int (nI e91), .long (sL S3 92 (ba + 2)), .long (sL S3 93 (ba + 2))] S3 none S4) (hz2 : (sS S3)[g1 - 108]? = some (13, zg1)) (c5 : Ans (d + 8) 352 [.ref 61, .int (nI 0), .long 0, .long 0] (wI 6151 (nI ba) S4) none S5) : Bod (d + 8) 380 0 [(0, .ref 61), (1, .int (nI 3)), (2, .int (nI ba)), (3, .int (nI nn))] [] S (some (.int 1)) (S5) := by
  refine Bod.go dc_380_0 rfl ?_
  refine Bod.ic 1 (by decide) dc_380_1 ?_
  refine Bod.addN (ba + 1) (by omega) dc_380_2 ?_
  refine Bod.ist dc_380_3 (by rw [ml_380]; exact Nat.le_of_ble_eq_true rfl) ?_
  refine Bod.go dc_380_5 rfl ?_
  refine Bod.ic 2 (by decide) dc_380_6 ?_
  refine Bod.icT dc_380_7 rfl (k2_ne_T (k_ne 3 2 rfl rfl (by omega) (by omega) (by omega))) ?_
  refine Bod.go dc_380_23 rfl ?_
  refine Bod.ic 3 (by decide) dc_380_24 ?_
  refine Bod.icF dc_380_25 rfl (k2_ne_F (k_eq 3 3 rfl rfl (by omega))) ?_
  refine Bod.ic 2 (by decide) dc_380_28 ?_
  refine Bod.go dc_380_29 rfl ?_
  refine Bod.ist dc_380_49 (by rw [ml_380]; exact Nat.le_of_ble_eq_true rfl) ?_
  refine Bod.go dc_380_51 rfl ?_
  refine Bod.ifT dc_380_52 rfl (k1_ne_T (k_ne 3 0 rfl rfl (by omega) (by omega) (by omega))) ?_
  refine Bod.go dc_380_62 rfl ?_
  refine Bod.go dc_380_63 rfl ?_
  refine Bod.icT dc_380_65 rfl (k2_eq_T (k_eq nn 2 rfl rfl (by omega))) ?_
  refine Bod.go dc_380_74 rfl ?_
  refine Bod.lst dc_380_75 (by rw [ml_380]; exact Nat.le_of_ble_eq_true rfl) ?_
  refine Bod.go dc_380_77 rfl ?_
  refine Bod.sw (t := 199) dc_380_78 rfl rfl (by decide +kernel) ?_
  refine Bod.go dc_380_199 rfl ?_
  refine Bod.go dc_380_200 rfl ?_
  refine Bod.ic 1 (by decide) dc_380_202 ?_
  refine Bod.virt (r := []) dc_380_203 kr_380_683 ⟨Or.inl rfl, ow_363, cl_14⟩ (by rw [np_363]; rfl) (by rw [np_363]; rfl) (ob_of (mk_61 _)) (Nat.le_of_ble_eq_true rfl) (c1  ) ?_
  show Bod _ _ _ _ [_] _ _ _
  refine Bod.ifT dc_380_206 rfl (k1_ne_T (k_ne 1 0 rfl rfl (by omega) (by omega) (by omega))) ?_
  refine Bod.go dc_380_215 rfl ?_
  refine Bod.go dc_380_216 rfl ?_
  refine Bod.virt (r := []) dc_380_218 kr_380_554 ⟨Or.inl rfl, ow_361, cl_14⟩ (by rw [np_361]; rfl) (by rw [np_361]; rfl) (ob_of (mk_61 _)) (Nat.le_of_ble_eq_true rfl) (c2  ) ?_
  show Bod _ _ _ _ [_] _ _ _
  refine Bod.get dc_380_221 fr_380_459 (mk_thing ag (by first | exact hz1 | (simp only [rIS, rJS, rAS, rLS, rVS, rQS, rS_hold]; exact hz1))) rfl ?_
  refine Bod.eqI (nI fd1) (by first | assumption | (simp (disch := omega) only [rIn, rIe, rA, rIA, rLA, rJA, rVI, rQI, rVA, rQA, upd_at,  rAI, rLI, rJI, nI_add, pk_sub, kc_0, kc_1, kc_2, kc_3, kc_4, kc_5, reduceIte, Nat.reduceEqDiff, Nat.add_zero, rI_hold, rI_hold, rL_hold, hfd1]; done) | (simp (disch := omega) only [rIn, rIe, rA, rIA, rLA, rJA, rVI, rQI, rVA, rQA, upd_at,  rAI, rLI, rJI, nI_add, pk_sub, kc_0, kc_1, kc_2, kc_3, kc_4, kc_5, reduceIte, Nat.reduceEqDiff, Nat.add_zero, rI_hold, rI_hold, rL_hold, hfd1]; exact congrArg nI (by omega))) ?_
  refine Bod.sip 300 (by decide) dc_380_224 ?_
  refine Bod.icT dc_380_227 rfl (k2_ne_T (k_ne fd1 300 rfl rfl (by omega) (by omega) (by omega))) ?_
  refine Bod.go dc_380_237 rfl ?_
  refine Bod.go dc_380_238 rfl ?_
  refine Bod.virt (r := []) dc_380_240 kr_380_554 ⟨Or.inl rfl, ow_361, cl_14⟩ (by rw [np_361]; rfl) (by rw [np_361]; rfl) (ob_of (mk_61 _)) (Nat.le_of_ble_eq_true rfl) (c3  ) ?_
  show Bod _ _ _ _ [_] _ _ _
  refine Bod.go dc_380_243 rfl ?_
  refine Bod.get dc_380_244 fr_380_496 (mk_61 _) rfl ?_
  refine Bod.go dc_380_247 rfl ?_
  refine Bod.ic 1 (by decide) dc_380_249 ?_
  refine Bod.addN (ba + 2) (by omega) dc_380_250 ?_
  refine Bod.ialdN (ba + 2) rfl (by omega) (by omega) dc_380_251 (mk_91 _) ?_
  refine Bod.eqI (nI e91) (by first | assumption | (simp (disch := omega) only [rIn, rIe, rA, rIA, rLA, rJA, rVI, rQI, rVA, rQA, upd_at,  rAI, rLI, rJI, nI_add, pk_sub, kc_0, kc_1, kc_2, kc_3, kc_4, kc_5, reduceIte, Nat.reduceEqDiff, Nat.add_zero, rI_hold, rI_hold, rL_hold, hfd1, he91]; done) | (simp (disch := omega) only [rIn, rIe, rA, rIA, rLA, rJA, rVI, rQI, rVA, rQA, upd_at,  rAI, rLI, rJI, nI_add, pk_sub, kc_0, kc_1, kc_2, kc_3, kc_4, kc_5, reduceIte, Nat.reduceEqDiff, Nat.add_zero, rI_hold, rI_hold, rL_hold, hfd1, he91]; exact congrArg nI (by omega))) ?_
  refine Bod.go dc_380_252 rfl ?_
  refine Bod.get dc_380_253 fr_380_499 (mk_61 _) rfl ?_
  refine Bod.go dc_380_256 rfl ?_
  refine Bod.ic 1 (by decide) dc_380_258 ?_
  refine Bod.addN (ba + 2) (by omega) dc_380_259 ?_
  refine Bod.laldN (ba + 2) rfl (by omega) (by omega) dc_380_260 (mk_92 _) ?_
  refine Bod.go dc_380_261 rfl ?_
  refine Bod.get dc_380_262 fr_380_546 (mk_61 _) rfl ?_
  refine Bod.go dc_380_265 rfl ?_
  refine Bod.ic 1 (by decide) dc_380_267 ?_
  refine Bod.addN (ba + 2) (by omega) dc_380_268 ?_
  refine Bod.laldN (ba + 2) rfl (by omega) (by omega) dc_380_269 (mk_93 _) ?_
  refine Bod.virt (r := []) dc_380_270 kr_380_759 ⟨Or.inl rfl, ow_375, cl_13⟩ (by rw [np_375]; rfl) (by rw [np_375]; rfl) (ob_of (mk_thing ag1 (by first | exact hz2 | (simp only [rIS, rJS, rAS, rLS, rVS, rQS, rS_hold]; exact hz2)))) (Nat.le_of_ble_eq_true rfl) (c4  ) ?_
  show Bod _ _ _ _ [] _ _ _
  refine Bod.go dc_380_273 rfl ?_
  refine Bod.go dc_380_274 rfl ?_
  refine Bod.put dc_380_275 fr_380_493 (mk_61 _) (Nat.le_of_ble_eq_true rfl) pf_14_51 (st_6151 _ _) (mu_I _ _ _) ?_
  refine Bod.go dc_380_278 rfl ?_
  refine Bod.ic 0 (by decide) dc_380_279 ?_
  refine Bod.go dc_380_280 rfl ?_
  refine Bod.go dc_380_281 rfl ?_
  refine Bod.virt (r := []) dc_380_282 kr_380_549 ⟨Or.inl rfl, ow_352, cl_14⟩ (by rw [np_352]; rfl) (by rw [np_352]; rfl) (ob_of (mk_61 _)) (Nat.le_of_ble_eq_true rfl) (c5  ) ?_
  show Bod _ _ _ _ [] _ _ _
  refine Bod.ic 1 (by decide) dc_380_285 ?_
  exact Bod.retZ dc_380_286 rt_380 (Or.inr rfl)
theorem rBt3_2 {d : Nat} {S : cS} {ba : Nat} {nn : Nat} {S1 : cS} {S2 : cS} {g : Nat} {zg : Nat} {fd1 : Nat} {S3 : cS} (mba : ba < 2 ^ 20) (mnn : nn < 2 ^ 20) (b1 : nn = 2) (c1 : Ans (d + 8) 363 [.ref 61, .int (nI (ba + 1)), .int (nI 1)] S (some (.int (nI 1))) S1) (ag : 108 ≤ g) (c2 : Ans (d + 8) 361 [.ref 61, .int (nI (ba + 1))] S1 (some (.ref g)) S2) (hz1 : (sS S2)[g - 108]? = some (13, zg)) (hfd1 : sI S2 (100 * g + 1) = nI fd1) (mfd1 : fd1 < 2 ^ 20) (b2 : fd1 = 300) (c3 : Ans (d + 8) 351 [.ref 61, .int (nI 8)] S2 (some (.int (nI 0))) S3) : Bod (d + 8) 380 0 [(0, .ref 61), (1, .int (nI 3)), (2, .int (nI ba)), (3, .int (nI nn))] [] S (some (.int 0)) (S3) := by
  refine Bod.go dc_380_0 rfl ?_
  refine Bod.ic 1 (by decide) dc_380_1 ?_
  refine Bod.addN (ba + 1) (by omega) dc_380_2 ?_
  refine Bod.ist dc_380_3 (by rw [ml_380]; exact Nat.le_of_ble_eq_true rfl) ?_
  refine Bod.go dc_380_5 rfl ?_
  refine Bod.ic 2 (by decide) dc_380_6 ?_
  refine Bod.icT dc_380_7 rfl (k2_ne_T (k_ne 3 2 rfl rfl (by omega) (by omega) (by omega))) ?_
  refine Bod.go dc_380_23 rfl ?_
  refine Bod.ic 3 (by decide) dc_380_24 ?_
  refine Bod.icF dc_380_25 rfl (k2_ne_F (k_eq 3 3 rfl rfl (by omega))) ?_
  refine Bod.ic 2 (by decide) dc_380_28 ?_
  refine Bod.go dc_380_29 rfl ?_
  refine Bod.ist dc_380_49 (by rw [ml_380]; exact Nat.le_of_ble_eq_true rfl) ?_
  refine Bod.go dc_380_51 rfl ?_
  refine Bod.ifT dc_380_52 rfl (k1_ne_T (k_ne 3 0 rfl rfl (by omega) (by omega) (by omega))) ?_
  refine Bod.go dc_380_62 rfl ?_
  refine Bod.go dc_380_63 rfl ?_
  refine Bod.icT dc_380_65 rfl (k2_eq_T (k_eq nn 2 rfl rfl (by omega))) ?_
  refine Bod.go dc_380_74 rfl ?_
  refine Bod.lst dc_380_75 (by rw [ml_380]; exact Nat.le_of_ble_eq_true rfl) ?_
  refine Bod.go dc_380_77 rfl ?_
  refine Bod.sw (t := 199) dc_380_78 rfl rfl (by decide +kernel) ?_
  refine Bod.go dc_380_199 rfl ?_
  refine Bod.go dc_380_200 rfl ?_
  refine Bod.ic 1 (by decide) dc_380_202 ?_
  refine Bod.virt (r := []) dc_380_203 kr_380_683 ⟨Or.inl rfl, ow_363, cl_14⟩ (by rw [np_363]; rfl) (by rw [np_363]; rfl) (ob_of (mk_61 _)) (Nat.le_of_ble_eq_true rfl) (c1  ) ?_
  show Bod _ _ _ _ [_] _ _ _
  refine Bod.ifT dc_380_206 rfl (k1_ne_T (k_ne 1 0 rfl rfl (by omega) (by omega) (by omega))) ?_
  refine Bod.go dc_380_215 rfl ?_
  refine Bod.go dc_380_216 rfl ?_
  refine Bod.virt (r := []) dc_380_218 kr_380_554 ⟨Or.inl rfl, ow_361, cl_14⟩ (by rw [np_361]; rfl) (by rw [np_361]; rfl) (ob_of (mk_61 _)) (Nat.le_of_ble_eq_true rfl) (c2  ) ?_
  show Bod _ _ _ _ [_] _ _ _
  refine Bod.get dc_380_221 fr_380_459 (mk_thing ag (by first | exact hz1 | (simp only [rIS, rJS, rAS, rLS, rVS, rQS, rS_hold]; exact hz1))) rfl ?_
  refine Bod.eqI (nI fd1) (by first | assumption | (simp (disch := omega) only [rIn, rIe, rA, rIA, rLA, rJA, rVI, rQI, rVA, rQA, upd_at,  rAI, rLI, rJI, nI_add, pk_sub, kc_0, kc_1, kc_2, kc_3, kc_4, kc_5, reduceIte, Nat.reduceEqDiff, Nat.add_zero, rI_hold, rI_hold, rL_hold, hfd1]; done) | (simp (disch := omega) only [rIn, rIe, rA, rIA, rLA, rJA, rVI, rQI, rVA, rQA, upd_at,  rAI, rLI, rJI, nI_add, pk_sub, kc_0, kc_1, kc_2, kc_3, kc_4, kc_5, reduceIte, Nat.reduceEqDiff, Nat.add_zero, rI_hold, rI_hold, rL_hold, hfd1]; exact congrArg nI (by omega))) ?_
  refine Bod.sip 300 (by decide) dc_380_224 ?_
  refine Bod.icF dc_380_227 rfl (k2_ne_F (k_eq fd1 300 rfl rfl (by omega))) ?_
  refine Bod.go dc_380_230 rfl ?_
  refine Bod.bip 8 (by decide) dc_380_231 ?_
  refine Bod.virt (r := []) dc_380_233 kr_380_608 ⟨Or.inl rfl, ow_351, cl_14⟩ (by rw [np_351]; rfl) (by rw [np_351]; rfl) (ob_of (mk_61 _)) (Nat.le_of_ble_eq_true rfl) (c3  ) ?_
  show Bod _ _ _ _ [_] _ _ _
  exact Bod.retZ dc_380_236 rt_380 (Or.inl rfl)
theorem rBt3_3 {d : Nat} {S : cS} {ba : Nat} {nn : Nat} {S1 : cS} {S2 : cS} (mba : ba < 2 ^ 20) (mnn : nn < 2 ^ 20) (b1 : nn = 2) (c1 : Ans (d + 8) 363 [.ref 61, .int (nI (ba + 1)), .int (nI 1)] S (some (.int (nI 0))) S1) (c2 : Ans (d + 8) 351 [.ref 61, .int (nI 2)] S1 (some (.int (nI 0))) S2) : Bod (d + 8) 380 0 [(0, .ref 61), (1, .int (nI 3)), (2, .int (nI ba)), (3, .int (nI nn))] [] S (some (.int 0)) (S2) := by
  refine Bod.go dc_380_0 rfl ?_
  refine Bod.ic 1 (by decide) dc_380_1 ?_
  refine Bod.addN (ba + 1) (by omega) dc_380_2 ?_
  refine Bod.ist dc_380_3 (by rw [ml_380]; exact Nat.le_of_ble_eq_true rfl) ?_
  refine Bod.go dc_380_5 rfl ?_
  refine Bod.ic 2 (by decide) dc_380_6 ?_
  refine Bod.icT dc_380_7 rfl (k2_ne_T (k_ne 3 2 rfl rfl (by omega) (by omega) (by omega))) ?_
  refine Bod.go dc_380_23 rfl ?_
  refine Bod.ic 3 (by decide) dc_380_24 ?_
  refine Bod.icF dc_380_25 rfl (k2_ne_F (k_eq 3 3 rfl rfl (by omega))) ?_
  refine Bod.ic 2 (by decide) dc_380_28 ?_
  refine Bod.go dc_380_29 rfl ?_
  refine Bod.ist dc_380_49 (by rw [ml_380]; exact Nat.le_of_ble_eq_true rfl) ?_
  refine Bod.go dc_380_51 rfl ?_
  refine Bod.ifT dc_380_52 rfl (k1_ne_T (k_ne 3 0 rfl rfl (by omega) (by omega) (by omega))) ?_
  refine Bod.go dc_380_62 rfl ?_
  refine Bod.go dc_380_63 rfl ?_
  refine Bod.icT dc_380_65 rfl (k2_eq_T (k_eq nn 2 rfl rfl (by omega))) ?_
  refine Bod.go dc_380_74 rfl ?_
  refine Bod.lst dc_380_75 (by rw [ml_380]; exact Nat.le_of_ble_eq_true rfl) ?_
  refine Bod.go dc_380_77 rfl ?_
  refine Bod.sw (t := 199) dc_380_78 rfl rfl (by decide +kernel) ?_
  refine Bod.go dc_380_199 rfl ?_
  refine Bod.go dc_380_200 rfl ?_
  refine Bod.ic 1 (by decide) dc_380_202 ?_
  refine Bod.virt (r := []) dc_380_203 kr_380_683 ⟨Or.inl rfl, ow_363, cl_14⟩ (by rw [np_363]; rfl) (by rw [np_363]; rfl) (ob_of (mk_61 _)) (Nat.le_of_ble_eq_true rfl) (c1  ) ?_
  show Bod _ _ _ _ [_] _ _ _
  refine Bod.ifF dc_380_206 rfl (k1_ne_F (k_eq 0 0 rfl rfl (by omega))) ?_
  refine Bod.go dc_380_209 rfl ?_
  refine Bod.ic 2 (by decide) dc_380_210 ?_
  refine Bod.virt (r := []) dc_380_211 kr_380_608 ⟨Or.inl rfl, ow_351, cl_14⟩ (by rw [np_351]; rfl) (by rw [np_351]; rfl) (ob_of (mk_61 _)) (Nat.le_of_ble_eq_true rfl) (c2  ) ?_
  show Bod _ _ _ _ [_] _ _ _
  exact Bod.retZ dc_380_214 rt_380 (Or.inl rfl)
theorem rBt3_4 {d : Nat} {S : cS} {ba : Nat} {nn : Nat} {S1 : cS} (mba : ba < 2 ^ 20) (mnn : nn < 2 ^ 20) (b1 : nn ≠ 2) (c1 : Ans (d + 8) 351 [.ref 61, .int (nI 2)] S (some (.int (nI 0))) S1) : Bod (d + 8) 380 0 [(0, .ref 61), (1, .int (nI 3)), (2, .int (nI ba)), (3, .int (nI nn))] [] S (some (.int 0)) (S1) := by
  refine Bod.go dc_380_0 rfl ?_
  refine Bod.ic 1 (by decide) dc_380_1 ?_
  refine Bod.addN (ba + 1) (by omega) dc_380_2 ?_
  refine Bod.ist dc_380_3 (by rw [ml_380]; exact Nat.le_of_ble_eq_true rfl) ?_
  refine Bod.go dc_380_5 rfl ?_
  refine Bod.ic 2 (by decide) dc_380_6 ?_
  refine Bod.icT dc_380_7 rfl (k2_ne_T (k_ne 3 2 rfl rfl (by omega) (by omega) (by omega))) ?_
  refine Bod.go dc_380_23 rfl ?_
  refine Bod.ic 3 (by decide) dc_380_24 ?_
  refine Bod.icF dc_380_25 rfl (k2_ne_F (k_eq 3 3 rfl rfl (by omega))) ?_
  refine Bod.ic 2 (by decide) dc_380_28 ?_
  refine Bod.go dc_380_29 rfl ?_
  refine Bod.ist dc_380_49 (by rw [ml_380]; exact Nat.le_of_ble_eq_true rfl) ?_
  refine Bod.go dc_380_51 rfl ?_
  refine Bod.ifT dc_380_52 rfl (k1_ne_T (k_ne 3 0 rfl rfl (by omega) (by omega) (by omega))) ?_
  refine Bod.go dc_380_62 rfl ?_
  refine Bod.go dc_380_63 rfl ?_
  refine Bod.icF dc_380_65 rfl (k2_eq_F (k_ne nn 2 rfl rfl (by omega) (by omega) (by omega))) ?_
  refine Bod.go dc_380_68 rfl ?_
  refine Bod.ic 2 (by decide) dc_380_69 ?_
  refine Bod.virt (r := []) dc_380_70 kr_380_608 ⟨Or.inl rfl, ow_351, cl_14⟩ (by rw [np_351]; rfl) (by rw [np_351]; rfl) (ob_of (mk_61 _)) (Nat.le_of_ble_eq_true rfl) (c1  ) ?_
  show Bod _ _ _ _ [_] _ _ _
  exact Bod.retZ dc_380_73 rt_380 (Or.inl rfl)
theorem rBt4_1 {d : Nat} {S : cS} {ba : Nat} {nn : Nat} {S1 : cS} {S2 : cS} {g : Nat} {zg : Nat} {fd1 : Nat} {r : Nat} {N : Nat} {e : Nat} {r1 : Nat} {N1 : Nat} {r2 : Nat} {N2 : Nat} {S3 : cS} (mba : ba < 2 ^ 20) (mnn : nn < 2 ^ 20) (b1 : nn = 1) (c1 : Ans (d + 8) 363 [.ref 61, .int (nI (ba + 1)), .int (nI 1)] S (some (.int (nI 1))) S1) (ag : 108 ≤ g) (c2 : Ans (d + 8) 361 [.ref 61, .int (nI (ba + 1))] S1 (some (.ref g)) S2) (hz1 : (sS S2)[g - 108]? = some (13, zg)) (hfd1 : sI S2 (100 * g + 1) = nI fd1) (mfd1 : fd1 < 2 ^ 20) (b2 : fd1 ≠ 0) (b3 : 1 ≤ fd1) (hv1 : sV S2 (100 * g + 2) = .ref r) (hg1 : isK S2 r 0 N) (mN : N < 2 ^ 20) (b4 : (fd1 - 1) < N) (he : sA (wI 6151 (nI ba) (wI (100 * g + 1) (nI (fd1 - 1)) S2)) r (fd1 - 1) = nI e) (me : e < 2 ^ 20) (hv2 : sV S2 (100 * g + 4) = .ref r1) (hg2 : isK S2 r1 1 N1) (mN1 : N1 < 2 ^ 20) (b5 : (fd1 - 1) < N1) (hv3 : sV S2 (100 * g + 5) = .ref r2) (hg3 : isK S2 r2 1 N2) (mN2 : N2 < 2 ^ 20) (b6 : (fd1 - 1) < N2) (c3 : Ans (d + 8) 352 [.ref 61, .int (nI e), .long (sL (wI 6151 (nI ba) (wI (100 * g + 1) (nI (fd1 - 1)) S2)) r1 (fd1 - 1)), .long (sL (wI 6151 (nI ba) (wI (100 * g + 1) (nI (fd1 - 1)) S2)) r2 (fd1 - 1))] (wI 6151 (nI ba) (wI (100 * g + 1) (nI (fd1 - 1)) S2)) none S3) : Bod (d + 8) 380 0 [(0, .ref 61), (1, .int (nI 4)), (2, .int (nI ba)), (3, .int (nI nn))] [] S (some (.int 1)) (S3) := by
  refine Bod.go dc_380_0 rfl ?_
  refine Bod.ic 1 (by decide) dc_380_1 ?_
  refine Bod.addN (ba + 1) (by omega) dc_380_2 ?_
  refine Bod.ist dc_380_3 (by rw [ml_380]; exact Nat.le_of_ble_eq_true rfl) ?_
  refine Bod.go dc_380_5 rfl ?_
  refine Bod.ic 2 (by decide) dc_380_6 ?_
  refine Bod.icT dc_380_7 rfl (k2_ne_T (k_ne 4 2 rfl rfl (by omega) (by omega) (by omega))) ?_
  refine Bod.go dc_380_23 rfl ?_
  refine Bod.ic 3 (by decide) dc_380_24 ?_
  refine Bod.icT dc_380_25 rfl (k2_ne_T (k_ne 4 3 rfl rfl (by omega) (by omega) (by omega))) ?_
  refine Bod.go dc_380_32 rfl ?_
  refine Bod.bip 8 (by decide) dc_380_33 ?_
  refine Bod.icF dc_380_35 rfl (k2_eq_F (k_ne 4 8 rfl rfl (by omega) (by omega) (by omega))) ?_
  refine Bod.go dc_380_38 rfl ?_
  refine Bod.bip 9 (by decide) dc_380_39 ?_
  refine Bod.icT dc_380_41 rfl (k2_ne_T (k_ne 4 9 rfl rfl (by omega) (by omega) (by omega))) ?_
  refine Bod.ic 1 (by decide) dc_380_48 ?_
  refine Bod.ist dc_380_49 (by rw [ml_380]; exact Nat.le_of_ble_eq_true rfl) ?_
  refine Bod.go dc_380_51 rfl ?_
  refine Bod.ifT dc_380_52 rfl (k1_ne_T (k_ne 4 0 rfl rfl (by omega) (by omega) (by omega))) ?_
  refine Bod.go dc_380_62 rfl ?_
  refine Bod.go dc_380_63 rfl ?_
  refine Bod.icT dc_380_65 rfl (k2_eq_T (k_eq nn 1 rfl rfl (by omega))) ?_
  refine Bod.go dc_380_74 rfl ?_
  refine Bod.lst dc_380_75 (by rw [ml_380]; exact Nat.le_of_ble_eq_true rfl) ?_
  refine Bod.go dc_380_77 rfl ?_
  refine Bod.sw (t := 287) dc_380_78 rfl rfl (by decide +kernel) ?_
  refine Bod.go dc_380_287 rfl ?_
  refine Bod.go dc_380_288 rfl ?_
  refine Bod.ic 1 (by decide) dc_380_290 ?_
  refine Bod.virt (r := []) dc_380_291 kr_380_683 ⟨Or.inl rfl, ow_363, cl_14⟩ (by rw [np_363]; rfl) (by rw [np_363]; rfl) (ob_of (mk_61 _)) (Nat.le_of_ble_eq_true rfl) (c1  ) ?_
  show Bod _ _ _ _ [_] _ _ _
  refine Bod.ifT dc_380_294 rfl (k1_ne_T (k_ne 1 0 rfl rfl (by omega) (by omega) (by omega))) ?_
  refine Bod.go dc_380_303 rfl ?_
  refine Bod.go dc_380_304 rfl ?_
  refine Bod.virt (r := []) dc_380_306 kr_380_554 ⟨Or.inl rfl, ow_361, cl_14⟩ (by rw [np_361]; rfl) (by rw [np_361]; rfl) (ob_of (mk_61 _)) (Nat.le_of_ble_eq_true rfl) (c2  ) ?_
  show Bod _ _ _ _ [_] _ _ _
  refine Bod.ast dc_380_309 (by rw [ml_380]; exact Nat.le_of_ble_eq_true rfl) ?_
  refine Bod.go dc_380_311 rfl ?_
  refine Bod.get dc_380_313 fr_380_459 (mk_thing ag (by first | exact hz1 | (simp only [rIS, rJS, rAS, rLS, rVS, rQS, rS_hold]; exact hz1))) rfl ?_
  refine Bod.eqI (nI fd1) (by first | assumption | (simp (disch := omega) only [rIn, rIe, rA, rIA, rLA, rJA, rVI, rQI, rVA, rQA, upd_at,  rAI, rLI, rJI, nI_add, pk_sub, kc_0, kc_1, kc_2, kc_3, kc_4, kc_5, reduceIte, Nat.reduceEqDiff, Nat.add_zero, rI_hold, rI_hold, rL_hold, hfd1]; done) | (simp (disch := omega) only [rIn, rIe, rA, rIA, rLA, rJA, rVI, rQI, rVA, rQA, upd_at,  rAI, rLI, rJI, nI_add, pk_sub, kc_0, kc_1, kc_2, kc_3, kc_4, kc_5, reduceIte, Nat.reduceEqDiff, Nat.add_zero, rI_hold, rI_hold, rL_hold, hfd1]; exact congrArg nI (by omega))) ?_
  refine Bod.ifT dc_380_316 rfl (k1_ne_T (k_ne fd1 0 rfl rfl (by omega) (by omega) (by omega))) ?_
  refine Bod.go dc_380_325 rfl ?_
  refine Bod.go dc_380_327 rfl ?_
  refine Bod.get dc_380_328 fr_380_459 (mk_thing ag (by first | exact hz1 | (simp only [rIS, rJS, rAS, rLS, rVS, rQS, rS_hold]; exact hz1))) rfl ?_
  refine Bod.eqI (nI fd1) (by first | assumption | (simp (disch := omega) only [rIn, rIe, rA, rIA, rLA, rJA, rVI, rQI, rVA, rQA, upd_at,  rAI, rLI, rJI, nI_add, pk_sub, kc_0, kc_1, kc_2, kc_3, kc_4, kc_5, reduceIte, Nat.reduceEqDiff, Nat.add_zero, rI_hold, rI_hold, rL_hold, hfd1]; done) | (simp (disch := omega) only [rIn, rIe, rA, rIA, rLA, rJA, rVI, rQI, rVA, rQA, upd_at,  rAI, rLI, rJI, nI_add, pk_sub, kc_0, kc_1, kc_2, kc_3, kc_4, kc_5, reduceIte, Nat.reduceEqDiff, Nat.add_zero, rI_hold, rI_hold, rL_hold, hfd1]; exact congrArg nI (by omega))) ?_
  refine Bod.ic 1 (by decide) dc_380_331 ?_
  refine Bod.subN (fd1 - 1) (by omega) (by omega) dc_380_332 ?_
  refine Bod.put dc_380_333 fr_380_459 (mk_thing ag (by first | exact hz1 | (simp only [rIS, rJS, rAS, rLS, rVS, rQS, rS_hold]; exact hz1))) (Nat.le_of_ble_eq_true rfl) pf_13_1 (st_thing_1 ag (by first | exact hz1 | (simp only [rIS, rJS, rAS, rLS, rVS, rQS, rS_hold]; exact hz1))) (mu_I _ _ _) ?_
  refine Bod.go dc_380_336 rfl ?_
  refine Bod.go dc_380_337 rfl ?_
  refine Bod.put dc_380_338 fr_380_493 (mk_61 _) (Nat.le_of_ble_eq_true rfl) pf_14_51 (st_6151 _ _) (mu_I _ _ _) ?_
  refine Bod.go dc_380_341 rfl ?_
  refine Bod.go dc_380_342 rfl ?_
  refine Bod.get dc_380_344 fr_380_462 (mk_thing ag (by first | exact hz1 | (simp only [rIS, rJS, rAS, rLS, rVS, rQS, rS_hold]; exact hz1))) rfl ?_
  refine Bod.eqV (.ref r) (by first | exact hv1 | (simp only [rIV, rJV, rAV, rLV, rQV, rV, reduceIte, Nat.reduceEqDiff]; exact hv1)) ?_
  refine Bod.go dc_380_347 rfl ?_
  refine Bod.get dc_380_349 fr_380_459 (mk_thing ag (by first | exact hz1 | (simp only [rIS, rJS, rAS, rLS, rVS, rQS, rS_hold]; exact hz1))) rfl ?_
  refine Bod.eqI (nI (fd1 - 1)) (by first | assumption | (simp (disch := omega) only [rIn, rIe, rA, rIA, rLA, rJA, rVI, rQI, rVA, rQA, upd_at,  rAI, rLI, rJI, nI_add, pk_sub, kc_0, kc_1, kc_2, kc_3, kc_4, kc_5, reduceIte, Nat.reduceEqDiff, Nat.add_zero, rI_hold, rI_hold, rL_hold, hfd1]; done) | (simp (disch := omega) only [rIn, rIe, rA, rIA, rLA, rJA, rVI, rQI, rVA, rQA, upd_at,  rAI, rLI, rJI, nI_add, pk_sub, kc_0, kc_1, kc_2, kc_3, kc_4, kc_5, reduceIte, Nat.reduceEqDiff, Nat.add_zero, rI_hold, rI_hold, rL_hold, hfd1]; exact congrArg nI (by omega))) ?_
  refine Bod.ialdN (N := N) (fd1 - 1) rfl (by omega) (by omega) dc_380_352 (mk_isI (by first | exact hg1 | exact isK_S (by simp only [rIS, rJS, rAS, rLS, rVS, rQS, rS_hold]) hg1)) ?_
  refine Bod.eqI (nI e) (by first | assumption | (simp (disch := omega) only [rIn, rIe, rA, rIA, rLA, rJA, rVI, rQI, rVA, rQA, upd_at,  rAI, rLI, rJI, nI_add, pk_sub, kc_0, kc_1, kc_2, kc_3, kc_4, kc_5, reduceIte, Nat.reduceEqDiff, Nat.add_zero, rI_hold, rI_hold, rL_hold, hfd1, he]; done) | (simp (disch := omega) only [rIn, rIe, rA, rIA, rLA, rJA, rVI, rQI, rVA, rQA, upd_at,  rAI, rLI, rJI, nI_add, pk_sub, kc_0, kc_1, kc_2, kc_3, kc_4, kc_5, reduceIte, Nat.reduceEqDiff, Nat.add_zero, rI_hold, rI_hold, rL_hold, hfd1, he]; exact congrArg nI (by omega))) ?_
  refine Bod.go dc_380_353 rfl ?_
  refine Bod.get dc_380_355 fr_380_465 (mk_thing ag (by first | exact hz1 | (simp only [rIS, rJS, rAS, rLS, rVS, rQS, rS_hold]; exact hz1))) rfl ?_
  refine Bod.eqV (.ref r1) (by first | exact hv2 | (simp only [rIV, rJV, rAV, rLV, rQV, rV, reduceIte, Nat.reduceEqDiff]; exact hv2)) ?_
  refine Bod.go dc_380_358 rfl ?_
  refine Bod.get dc_380_360 fr_380_459 (mk_thing ag (by first | exact hz1 | (simp only [rIS, rJS, rAS, rLS, rVS, rQS, rS_hold]; exact hz1))) rfl ?_
  refine Bod.eqI (nI (fd1 - 1)) (by first | assumption | (simp (disch := omega) only [rIn, rIe, rA, rIA, rLA, rJA, rVI, rQI, rVA, rQA, upd_at,  rAI, rLI, rJI, nI_add, pk_sub, kc_0, kc_1, kc_2, kc_3, kc_4, kc_5, reduceIte, Nat.reduceEqDiff, Nat.add_zero, rI_hold, rI_hold, rL_hold, hfd1, he]; done) | (simp (disch := omega) only [rIn, rIe, rA, rIA, rLA, rJA, rVI, rQI, rVA, rQA, upd_at,  rAI, rLI, rJI, nI_add, pk_sub, kc_0, kc_1, kc_2, kc_3, kc_4, kc_5, reduceIte, Nat.reduceEqDiff, Nat.add_zero, rI_hold, rI_hold, rL_hold, hfd1, he]; exact congrArg nI (by omega))) ?_
  refine Bod.laldN (N := N1) (fd1 - 1) rfl (by omega) (by omega) dc_380_363 (mk_isL (by first | exact hg2 | exact isK_S (by simp only [rIS, rJS, rAS, rLS, rVS, rQS, rS_hold]) hg2)) ?_
  refine Bod.go dc_380_364 rfl ?_
  refine Bod.get dc_380_366 fr_380_627 (mk_thing ag (by first | exact hz1 | (simp only [rIS, rJS, rAS, rLS, rVS, rQS, rS_hold]; exact hz1))) rfl ?_
  refine Bod.eqV (.ref r2) (by first | exact hv3 | (simp only [rIV, rJV, rAV, rLV, rQV, rV, reduceIte, Nat.reduceEqDiff]; exact hv3)) ?_
  refine Bod.go dc_380_369 rfl ?_
  refine Bod.get dc_380_371 fr_380_459 (mk_thing ag (by first | exact hz1 | (simp only [rIS, rJS, rAS, rLS, rVS, rQS, rS_hold]; exact hz1))) rfl ?_
  refine Bod.eqI (nI (fd1 - 1)) (by first | assumption | (simp (disch := omega) only [rIn, rIe, rA, rIA, rLA, rJA, rVI, rQI, rVA, rQA, upd_at,  rAI, rLI, rJI, nI_add, pk_sub, kc_0, kc_1, kc_2, kc_3, kc_4, kc_5, reduceIte, Nat.reduceEqDiff, Nat.add_zero, rI_hold, rI_hold, rL_hold, hfd1, he]; done) | (simp (disch := omega) only [rIn, rIe, rA, rIA, rLA, rJA, rVI, rQI, rVA, rQA, upd_at,  rAI, rLI, rJI, nI_add, pk_sub, kc_0, kc_1, kc_2, kc_3, kc_4, kc_5, reduceIte, Nat.reduceEqDiff, Nat.add_zero, rI_hold, rI_hold, rL_hold, hfd1, he]; exact congrArg nI (by omega))) ?_
  refine Bod.laldN (N := N2) (fd1 - 1) rfl (by omega) (by omega) dc_380_374 (mk_isL (by first | exact hg3 | exact isK_S (by simp only [rIS, rJS, rAS, rLS, rVS, rQS, rS_hold]) hg3)) ?_
  refine Bod.virt (r := []) dc_380_375 kr_380_549 ⟨Or.inl rfl, ow_352, cl_14⟩ (by rw [np_352]; rfl) (by rw [np_352]; rfl) (ob_of (mk_61 _)) (Nat.le_of_ble_eq_true rfl) (c3  ) ?_
  show Bod _ _ _ _ [] _ _ _
  refine Bod.ic 1 (by decide) dc_380_378 ?_
  exact Bod.retZ dc_380_379 rt_380 (Or.inr rfl)
theorem rBt4_2 {d : Nat} {S : cS} {ba : Nat} {nn : Nat} {S1 : cS} {S2 : cS} {g : Nat} {zg : Nat} {fd1 : Nat} {S3 : cS} (mba : ba < 2 ^ 20) (mnn : nn < 2 ^ 20) (b1 : nn = 1) (c1 : Ans (d + 8) 363 [.ref 61, .int (nI (ba + 1)), .int (nI 1)] S (some (.int (nI 1))) S1) (ag : 108 ≤ g) (c2 : Ans (d + 8) 361 [.ref 61, .int (nI (ba + 1))] S1 (some (.ref g)) S2) (hz1 : (sS S2)[g - 108]? = some (13, zg)) (hfd1 : sI S2 (100 * g + 1) = nI fd1) (mfd1 : fd1 < 2 ^ 20) (b2 : fd1 = 0) (c3 : Ans (d + 8) 351 [.ref 61, .int (nI 3)] S2 (some (.int (nI 0))) S3) : Bod (d + 8) 380 0 [(0, .ref 61), (1, .int (nI 4)), (2, .int (nI ba)), (3, .int (nI nn))] [] S (some (.int 0)) (S3) := by
  refine Bod.go dc_380_0 rfl ?_
  refine Bod.ic 1 (by decide) dc_380_1 ?_
  refine Bod.addN (ba + 1) (by omega) dc_380_2 ?_
  refine Bod.ist dc_380_3 (by rw [ml_380]; exact Nat.le_of_ble_eq_true rfl) ?_
  refine Bod.go dc_380_5 rfl ?_
  refine Bod.ic 2 (by decide) dc_380_6 ?_
  refine Bod.icT dc_380_7 rfl (k2_ne_T (k_ne 4 2 rfl rfl (by omega) (by omega) (by omega))) ?_
  refine Bod.go dc_380_23 rfl ?_
  refine Bod.ic 3 (by decide) dc_380_24 ?_
  refine Bod.icT dc_380_25 rfl (k2_ne_T (k_ne 4 3 rfl rfl (by omega) (by omega) (by omega))) ?_
  refine Bod.go dc_380_32 rfl ?_
  refine Bod.bip 8 (by decide) dc_380_33 ?_
  refine Bod.icF dc_380_35 rfl (k2_eq_F (k_ne 4 8 rfl rfl (by omega) (by omega) (by omega))) ?_
  refine Bod.go dc_380_38 rfl ?_
  refine Bod.bip 9 (by decide) dc_380_39 ?_
  refine Bod.icT dc_380_41 rfl (k2_ne_T (k_ne 4 9 rfl rfl (by omega) (by omega) (by omega))) ?_
  refine Bod.ic 1 (by decide) dc_380_48 ?_
  refine Bod.ist dc_380_49 (by rw [ml_380]; exact Nat.le_of_ble_eq_true rfl) ?_
  refine Bod.go dc_380_51 rfl ?_
  refine Bod.ifT dc_380_52 rfl (k1_ne_T (k_ne 4 0 rfl rfl (by omega) (by omega) (by omega))) ?_
  refine Bod.go dc_380_62 rfl ?_
  refine Bod.go dc_380_63 rfl ?_
  refine Bod.icT dc_380_65 rfl (k2_eq_T (k_eq nn 1 rfl rfl (by omega))) ?_
  refine Bod.go dc_380_74 rfl ?_
  refine Bod.lst dc_380_75 (by rw [ml_380]; exact Nat.le_of_ble_eq_true rfl) ?_
  refine Bod.go dc_380_77 rfl ?_
  refine Bod.sw (t := 287) dc_380_78 rfl rfl (by decide +kernel) ?_
  refine Bod.go dc_380_287 rfl ?_
  refine Bod.go dc_380_288 rfl ?_
  refine Bod.ic 1 (by decide) dc_380_290 ?_
  refine Bod.virt (r := []) dc_380_291 kr_380_683 ⟨Or.inl rfl, ow_363, cl_14⟩ (by rw [np_363]; rfl) (by rw [np_363]; rfl) (ob_of (mk_61 _)) (Nat.le_of_ble_eq_true rfl) (c1  ) ?_
  show Bod _ _ _ _ [_] _ _ _
  refine Bod.ifT dc_380_294 rfl (k1_ne_T (k_ne 1 0 rfl rfl (by omega) (by omega) (by omega))) ?_
  refine Bod.go dc_380_303 rfl ?_
  refine Bod.go dc_380_304 rfl ?_
  refine Bod.virt (r := []) dc_380_306 kr_380_554 ⟨Or.inl rfl, ow_361, cl_14⟩ (by rw [np_361]; rfl) (by rw [np_361]; rfl) (ob_of (mk_61 _)) (Nat.le_of_ble_eq_true rfl) (c2  ) ?_
  show Bod _ _ _ _ [_] _ _ _
  refine Bod.ast dc_380_309 (by rw [ml_380]; exact Nat.le_of_ble_eq_true rfl) ?_
  refine Bod.go dc_380_311 rfl ?_
  refine Bod.get dc_380_313 fr_380_459 (mk_thing ag (by first | exact hz1 | (simp only [rIS, rJS, rAS, rLS, rVS, rQS, rS_hold]; exact hz1))) rfl ?_
  refine Bod.eqI (nI fd1) (by first | assumption | (simp (disch := omega) only [rIn, rIe, rA, rIA, rLA, rJA, rVI, rQI, rVA, rQA, upd_at,  rAI, rLI, rJI, nI_add, pk_sub, kc_0, kc_1, kc_2, kc_3, kc_4, kc_5, reduceIte, Nat.reduceEqDiff, Nat.add_zero, rI_hold, rI_hold, rL_hold, hfd1]; done) | (simp (disch := omega) only [rIn, rIe, rA, rIA, rLA, rJA, rVI, rQI, rVA, rQA, upd_at,  rAI, rLI, rJI, nI_add, pk_sub, kc_0, kc_1, kc_2, kc_3, kc_4, kc_5, reduceIte, Nat.reduceEqDiff, Nat.add_zero, rI_hold, rI_hold, rL_hold, hfd1]; exact congrArg nI (by omega))) ?_
  refine Bod.ifF dc_380_316 rfl (k1_ne_F (k_eq fd1 0 rfl rfl (by omega))) ?_
  refine Bod.go dc_380_319 rfl ?_
  refine Bod.ic 3 (by decide) dc_380_320 ?_
  refine Bod.virt (r := []) dc_380_321 kr_380_608 ⟨Or.inl rfl, ow_351, cl_14⟩ (by rw [np_351]; rfl) (by rw [np_351]; rfl) (ob_of (mk_61 _)) (Nat.le_of_ble_eq_true rfl) (c3  ) ?_
  show Bod _ _ _ _ [_] _ _ _
  exact Bod.retZ dc_380_324 rt_380 (Or.inl rfl)
theorem rBt4_3 {d : Nat} {S : cS} {ba : Nat} {nn : Nat} {S1 : cS} {S2 : cS} (mba : ba < 2 ^ 20) (mnn : nn < 2 ^ 20) (b1 : nn = 1) (c1 : Ans (d + 8) 363 [.ref 61, .int (nI (ba + 1)), .int (nI 1)] S (some (.int (nI 0))) S1) (c2 : Ans (d + 8) 351 [.ref 61, .int (nI 2)] S1 (some (.int (nI 0))) S2) : Bod (d + 8) 380 0 [(0, .ref 61), (1, .int (nI 4)), (2, .int (nI ba)), (3, .int (nI nn))] [] S (some (.int 0)) (S2) := by
  refine Bod.go dc_380_0 rfl ?_
  refine Bod.ic 1 (by decide) dc_380_1 ?_
  refine Bod.addN (ba + 1) (by omega) dc_380_2 ?_
  refine Bod.ist dc_380_3 (by rw [ml_380]; exact Nat.le_of_ble_eq_true rfl) ?_
  refine Bod.go dc_380_5 rfl ?_
  refine Bod.ic 2 (by decide) dc_380_6 ?_
  refine Bod.icT dc_380_7 rfl (k2_ne_T (k_ne 4 2 rfl rfl (by omega) (by omega) (by omega))) ?_
  refine Bod.go dc_380_23 rfl ?_
  refine Bod.ic 3 (by decide) dc_380_24 ?_
  refine Bod.icT dc_380_25 rfl (k2_ne_T (k_ne 4 3 rfl rfl (by omega) (by omega) (by omega))) ?_
  refine Bod.go dc_380_32 rfl ?_
  refine Bod.bip 8 (by decide) dc_380_33 ?_
  refine Bod.icF dc_380_35 rfl (k2_eq_F (k_ne 4 8 rfl rfl (by omega) (by omega) (by omega))) ?_
  refine Bod.go dc_380_38 rfl ?_
  refine Bod.bip 9 (by decide) dc_380_39 ?_
  refine Bod.icT dc_380_41 rfl (k2_ne_T (k_ne 4 9 rfl rfl (by omega) (by omega) (by omega))) ?_
  refine Bod.ic 1 (by decide) dc_380_48 ?_
  refine Bod.ist dc_380_49 (by rw [ml_380]; exact Nat.le_of_ble_eq_true rfl) ?_
  refine Bod.go dc_380_51 rfl ?_
  refine Bod.ifT dc_380_52 rfl (k1_ne_T (k_ne 4 0 rfl rfl (by omega) (by omega) (by omega))) ?_
  refine Bod.go dc_380_62 rfl ?_
  refine Bod.go dc_380_63 rfl ?_
  refine Bod.icT dc_380_65 rfl (k2_eq_T (k_eq nn 1 rfl rfl (by omega))) ?_
  refine Bod.go dc_380_74 rfl ?_
  refine Bod.lst dc_380_75 (by rw [ml_380]; exact Nat.le_of_ble_eq_true rfl) ?_
  refine Bod.go dc_380_77 rfl ?_
  refine Bod.sw (t := 287) dc_380_78 rfl rfl (by decide +kernel) ?_
  refine Bod.go dc_380_287 rfl ?_
  refine Bod.go dc_380_288 rfl ?_
  refine Bod.ic 1 (by decide) dc_380_290 ?_
  refine Bod.virt (r := []) dc_380_291 kr_380_683 ⟨Or.inl rfl, ow_363, cl_14⟩ (by rw [np_363]; rfl) (by rw [np_363]; rfl) (ob_of (mk_61 _)) (Nat.le_of_ble_eq_true rfl) (c1  ) ?_
  show Bod _ _ _ _ [_] _ _ _
  refine Bod.ifF dc_380_294 rfl (k1_ne_F (k_eq 0 0 rfl rfl (by omega))) ?_
  refine Bod.go dc_380_297 rfl ?_
  refine Bod.ic 2 (by decide) dc_380_298 ?_
  refine Bod.virt (r := []) dc_380_299 kr_380_608 ⟨Or.inl rfl, ow_351, cl_14⟩ (by rw [np_351]; rfl) (by rw [np_351]; rfl) (ob_of (mk_61 _)) (Nat.le_of_ble_eq_true rfl) (c2  ) ?_
  show Bod _ _ _ _ [_] _ _ _
  exact Bod.retZ dc_380_302 rt_380 (Or.inl rfl)
theorem rBt4_4 {d : Nat} {S : cS} {ba : Nat} {nn : Nat} {S1 : cS} (mba : ba < 2 ^ 20) (mnn : nn < 2 ^ 20) (b1 : nn ≠ 1) (c1 : Ans (d + 8) 351 [.ref 61, .int (nI 2)] S (some (.int (nI 0))) S1) : Bod (d + 8) 380 0 [(0, .ref 61), (1, .int (nI 4)), (2, .int (nI ba)), (3, .int (nI nn))] [] S (some (.int 0)) (S1) := by
  refine Bod.go dc_380_0 rfl ?_
  refine Bod.ic 1 (by decide) dc_380_1 ?_
  refine Bod.addN (ba + 1) (by omega) dc_380_2 ?_
  refine Bod.ist dc_380_3 (by rw [ml_380]; exact Nat.le_of_ble_eq_true rfl) ?_
  refine Bod.go dc_380_5 rfl ?_
  refine Bod.ic 2 (by decide) dc_380_6 ?_
  refine Bod.icT dc_380_7 rfl (k2_ne_T (k_ne 4 2 rfl rfl (by omega) (by omega) (by omega))) ?_
  refine Bod.go dc_380_23 rfl ?_
  refine Bod.ic 3 (by decide) dc_380_24 ?_
  refine Bod.icT dc_380_25 rfl (k2_ne_T (k_ne 4 3 rfl rfl (by omega) (by omega) (by omega))) ?_
  refine Bod.go dc_380_32 rfl ?_
  refine Bod.bip 8 (by decide) dc_380_33 ?_
  refine Bod.icF dc_380_35 rfl (k2_eq_F (k_ne 4 8 rfl rfl (by omega) (by omega) (by omega))) ?_
  refine Bod.go dc_380_38 rfl ?_
  refine Bod.bip 9 (by decide) dc_380_39 ?_
  refine Bod.icT dc_380_41 rfl (k2_ne_T (k_ne 4 9 rfl rfl (by omega) (by omega) (by omega))) ?_
  refine Bod.ic 1 (by decide) dc_380_48 ?_
  refine Bod.ist dc_380_49 (by rw [ml_380]; exact Nat.le_of_ble_eq_true rfl) ?_
  refine Bod.go dc_380_51 rfl ?_
  refine Bod.ifT dc_380_52 rfl (k1_ne_T (k_ne 4 0 rfl rfl (by omega) (by omega) (by omega))) ?_
  refine Bod.go dc_380_62 rfl ?_
  refine Bod.go dc_380_63 rfl ?_
  refine Bod.icF dc_380_65 rfl (k2_eq_F (k_ne nn 1 rfl rfl (by omega) (by omega) (by omega))) ?_
  refine Bod.go dc_380_68 rfl ?_
  refine Bod.ic 2 (by decide) dc_380_69 ?_
  refine Bod.virt (r := []) dc_380_70 kr_380_608 ⟨Or.inl rfl, ow_351, cl_14⟩ (by rw [np_351]; rfl) (by rw [np_351]; rfl) (ob_of (mk_61 _)) (Nat.le_of_ble_eq_true rfl) (c1  ) ?_
  show Bod _ _ _ _ [_] _ _ _
  exact Bod.retZ dc_380_73 rt_380 (Or.inl rfl)
theorem rBt5_1 {d : Nat} {S Sf : cS} {v : Option Value} {ba : Nat} {nn : Nat} {S1 : cS} {S2 : cS} {a : Nat} {S3 : cS} {g : Nat} {zg : Nat} (mba : ba < 2 ^ 20) (mnn : nn < 2 ^ 20) (b1 : nn = 1) (c1 : Ans (d + 8) 363 [.ref 61, .int (nI (ba + 1)), .int (nI 2)] S (some (.int (nI 1))) S1) (ma : a < 1500) (c2 : Ans (d + 8) 364 [.ref 61, .int (nI 1)] S1 (some (.int (nI a))) S2) (ag : 108 ≤ g) (c3 : Ans (d + 8) 361 [.ref 61, .int (nI (ba + 1))] S2 (some (.ref g)) S3) (hB : ∀ lv1 : sm_L, sm_get lv1 0 = some (.ref 61) → sm_get lv1 2 = some (.int (nI ba)) → sm_get lv1 9 = some (.int (nI a)) → sm_get lv1 10 = some (.ref g) → sm_get lv1 11 = some (.int (nI 0)) → Bod (d + 8) 380 421 lv1 [] (S3) v Sf) : Bod (d + 8) 380 0 [(0, .ref 61), (1, .int (nI 5)), (2, .int (nI ba)), (3, .int (nI nn))] [] S v Sf := by
  refine Bod.go dc_380_0 rfl ?_
  refine Bod.ic 1 (by decide) dc_380_1 ?_
  refine Bod.addN (ba + 1) (by omega) dc_380_2 ?_
  refine Bod.ist dc_380_3 (by rw [ml_380]; exact Nat.le_of_ble_eq_true rfl) ?_
  refine Bod.go dc_380_5 rfl ?_
  refine Bod.ic 2 (by decide) dc_380_6 ?_
  refine Bod.icT dc_380_7 rfl (k2_ne_T (k_ne 5 2 rfl rfl (by omega) (by omega) (by omega))) ?_
  refine Bod.go dc_380_23 rfl ?_
  refine Bod.ic 3 (by decide) dc_380_24 ?_
  refine Bod.icT dc_380_25 rfl (k2_ne_T (k_ne 5 3 rfl rfl (by omega) (by omega) (by omega))) ?_
  refine Bod.go dc_380_32 rfl ?_
  refine Bod.bip 8 (by decide) dc_380_33 ?_
  refine Bod.icF dc_380_35 rfl (k2_eq_F (k_ne 5 8 rfl rfl (by omega) (by omega) (by omega))) ?_
  refine Bod.go dc_380_38 rfl ?_
  refine Bod.bip 9 (by decide) dc_380_39 ?_
  refine Bod.icT dc_380_41 rfl (k2_ne_T (k_ne 5 9 rfl rfl (by omega) (by omega) (by omega))) ?_
  refine Bod.ic 1 (by decide) dc_380_48 ?_
  refine Bod.ist dc_380_49 (by rw [ml_380]; exact Nat.le_of_ble_eq_true rfl) ?_
  refine Bod.go dc_380_51 rfl ?_
  refine Bod.ifT dc_380_52 rfl (k1_ne_T (k_ne 5 0 rfl rfl (by omega) (by omega) (by omega))) ?_
  refine Bod.go dc_380_62 rfl ?_
  refine Bod.go dc_380_63 rfl ?_
  refine Bod.icT dc_380_65 rfl (k2_eq_T (k_eq nn 1 rfl rfl (by omega))) ?_
  refine Bod.go dc_380_74 rfl ?_
  refine Bod.lst dc_380_75 (by rw [ml_380]; exact Nat.le_of_ble_eq_true rfl) ?_
  refine Bod.go dc_380_77 rfl ?_
  refine Bod.sw (t := 380) dc_380_78 rfl rfl (by decide +kernel) ?_
  refine Bod.go dc_380_380 rfl ?_
  refine Bod.go dc_380_381 rfl ?_
  refine Bod.ic 2 (by decide) dc_380_383 ?_
  refine Bod.virt (r := []) dc_380_384 kr_380_683 ⟨Or.inl rfl, ow_363, cl_14⟩ (by rw [np_363]; rfl) (by rw [np_363]; rfl) (ob_of (mk_61 _)) (Nat.le_of_ble_eq_true rfl) (c1  ) ?_
  show Bod _ _ _ _ [_] _ _ _
  refine Bod.ifT dc_380_387 rfl (k1_ne_T (k_ne 1 0 rfl rfl (by omega) (by omega) (by omega))) ?_
  refine Bod.go dc_380_396 rfl ?_
  refine Bod.ic 1 (by decide) dc_380_397 ?_
  refine Bod.virt (r := []) dc_380_398 kr_380_686 ⟨Or.inl rfl, ow_364, cl_14⟩ (by rw [np_364]; rfl) (by rw [np_364]; rfl) (ob_of (mk_61 _)) (Nat.le_of_ble_eq_true rfl) (c2  ) ?_
  show Bod _ _ _ _ [_] _ _ _
  refine Bod.ist dc_380_401 (by rw [ml_380]; exact Nat.le_of_ble_eq_true rfl) ?_
  refine Bod.go dc_380_403 rfl ?_
  refine Bod.ifT dc_380_405 rfl (k1_ge_T a rfl (by omega)) ?_
  refine Bod.go dc_380_410 rfl ?_
  refine Bod.go dc_380_411 rfl ?_
  refine Bod.virt (r := []) dc_380_413 kr_380_554 ⟨Or.inl rfl, ow_361, cl_14⟩ (by rw [np_361]; rfl) (by rw [np_361]; rfl) (ob_of (mk_61 _)) (Nat.le_of_ble_eq_true rfl) (c3  ) ?_
  show Bod _ _ _ _ [_] _ _ _
  refine Bod.ast dc_380_416 (by rw [ml_380]; exact Nat.le_of_ble_eq_true rfl) ?_
  refine Bod.ic 0 (by decide) dc_380_418 ?_
  refine Bod.ist dc_380_419 (by rw [ml_380]; exact Nat.le_of_ble_eq_true rfl) ?_
  exact hB _ (by first | rfl | exact (by repeat (first | exact rfl | exact sm_get_p1 | exact sm_get_p2e | refine sm_get_p1m (by decide) (by decide) ?_ | refine sm_get_p1n (by decide) rfl ?_ | refine sm_get_p2n (by decide) (by decide) rfl ?_ | refine sm_get_p2m (by decide) (by decide) (by decide) ?_))) (by first | rfl | exact (by repeat (first | exact rfl | exact sm_get_p1 | exact sm_get_p2e | refine sm_get_p1m (by decide) (by decide) ?_ | refine sm_get_p1n (by decide) rfl ?_ | refine sm_get_p2n (by decide) (by decide) rfl ?_ | refine sm_get_p2m (by decide) (by decide) (by decide) ?_))) (by first | rfl | exact (by repeat (first | exact rfl | exact sm_get_p1 | exact sm_get_p2e | refine sm_get_p1m (by decide) (by decide) ?_ | refine sm_get_p1n (by decide) rfl ?_ | refine sm_get_p2n (by decide) (by decide) rfl ?_ | refine sm_get_p2m (by decide) (by decide) (by decide) ?_))) (by first | rfl | exact (by repeat (first | exact rfl | exact sm_get_p1 | exact sm_get_p2e | refine sm_get_p1m (by decide) (by decide) ?_ | refine sm_get_p1n (by decide) rfl ?_ | refine sm_get_p2n (by decide) (by decide) rfl ?_ | refine sm_get_p2m (by decide) (by decide) (by decide) ?_))) (by first | rfl | exact (by repeat (first | exact rfl | exact sm_get_p1 | exact sm_get_p2e | refine sm_get_p1m (by decide) (by decide) ?_ | refine sm_get_p1n (by decide) rfl ?_ | refine sm_get_p2n (by decide) (by decide) rfl ?_ | refine sm_get_p2m (by decide) (by decide) (by decide) ?_)))
theorem rBt5_2 {d : Nat} {S : cS} {ba : Nat} {nn : Nat} {S1 : cS} {S2 : cS} (mba : ba < 2 ^ 20) (mnn : nn < 2 ^ 20) (b1 : nn = 1) (c1 : Ans (d + 8) 363 [.ref 61, .int (nI (ba + 1)), .int (nI 2)] S (some (.int (nI 1))) S1) (c2 : Ans (d + 8) 364 [.ref 61, .int (nI 1)] S1 (some (.int (Int32.ofInt (-1)))) S2) : Bod (d + 8) 380 0 [(0, .ref 61), (1, .int (nI 5)), (2, .int (nI ba)), (3, .int (nI nn))] [] S (some (.int 0)) (S2) := by
  refine Bod.go dc_380_0 rfl ?_
  refine Bod.ic 1 (by decide) dc_380_1 ?_
  refine Bod.addN (ba + 1) (by omega) dc_380_2 ?_
  refine Bod.ist dc_380_3 (by rw [ml_380]; exact Nat.le_of_ble_eq_true rfl) ?_
  refine Bod.go dc_380_5 rfl ?_
  refine Bod.ic 2 (by decide) dc_380_6 ?_
  refine Bod.icT dc_380_7 rfl (k2_ne_T (k_ne 5 2 rfl rfl (by omega) (by omega) (by omega))) ?_
  refine Bod.go dc_380_23 rfl ?_
  refine Bod.ic 3 (by decide) dc_380_24 ?_
  refine Bod.icT dc_380_25 rfl (k2_ne_T (k_ne 5 3 rfl rfl (by omega) (by omega) (by omega))) ?_
  refine Bod.go dc_380_32 rfl ?_
  refine Bod.bip 8 (by decide) dc_380_33 ?_
  refine Bod.icF dc_380_35 rfl (k2_eq_F (k_ne 5 8 rfl rfl (by omega) (by omega) (by omega))) ?_
  refine Bod.go dc_380_38 rfl ?_
  refine Bod.bip 9 (by decide) dc_380_39 ?_
  refine Bod.icT dc_380_41 rfl (k2_ne_T (k_ne 5 9 rfl rfl (by omega) (by omega) (by omega))) ?_
  refine Bod.ic 1 (by decide) dc_380_48 ?_
  refine Bod.ist dc_380_49 (by rw [ml_380]; exact Nat.le_of_ble_eq_true rfl) ?_
  refine Bod.go dc_380_51 rfl ?_
  refine Bod.ifT dc_380_52 rfl (k1_ne_T (k_ne 5 0 rfl rfl (by omega) (by omega) (by omega))) ?_
  refine Bod.go dc_380_62 rfl ?_
  refine Bod.go dc_380_63 rfl ?_
  refine Bod.icT dc_380_65 rfl (k2_eq_T (k_eq nn 1 rfl rfl (by omega))) ?_
  refine Bod.go dc_380_74 rfl ?_
  refine Bod.lst dc_380_75 (by rw [ml_380]; exact Nat.le_of_ble_eq_true rfl) ?_
  refine Bod.go dc_380_77 rfl ?_
  refine Bod.sw (t := 380) dc_380_78 rfl rfl (by decide +kernel) ?_
  refine Bod.go dc_380_380 rfl ?_
  refine Bod.go dc_380_381 rfl ?_
  refine Bod.ic 2 (by decide) dc_380_383 ?_
  refine Bod.virt (r := []) dc_380_384 kr_380_683 ⟨Or.inl rfl, ow_363, cl_14⟩ (by rw [np_363]; rfl) (by rw [np_363]; rfl) (ob_of (mk_61 _)) (Nat.le_of_ble_eq_true rfl) (c1  ) ?_
  show Bod _ _ _ _ [_] _ _ _
  refine Bod.ifT dc_380_387 rfl (k1_ne_T (k_ne 1 0 rfl rfl (by omega) (by omega) (by omega))) ?_
  refine Bod.go dc_380_396 rfl ?_
  refine Bod.ic 1 (by decide) dc_380_397 ?_
  refine Bod.virt (r := []) dc_380_398 kr_380_686 ⟨Or.inl rfl, ow_364, cl_14⟩ (by rw [np_364]; rfl) (by rw [np_364]; rfl) (ob_of (mk_61 _)) (Nat.le_of_ble_eq_true rfl) (c2  ) ?_
  show Bod _ _ _ _ [_] _ _ _
  refine Bod.ist dc_380_401 (by rw [ml_380]; exact Nat.le_of_ble_eq_true rfl) ?_
  refine Bod.go dc_380_403 rfl ?_
  refine Bod.ifF dc_380_405 rfl (by decide) ?_
  refine Bod.ic 0 (by decide) dc_380_408 ?_
  exact Bod.retZ dc_380_409 rt_380 (Or.inl rfl)
theorem rBt5_3 {d : Nat} {S : cS} {ba : Nat} {nn : Nat} {S1 : cS} {S2 : cS} (mba : ba < 2 ^ 20) (mnn : nn < 2 ^ 20) (b1 : nn = 1) (c1 : Ans (d + 8) 363 [.ref 61, .int (nI (ba + 1)), .int (nI 2)] S (some (.int (nI 0))) S1) (c2 : Ans (d + 8) 351 [.ref 61, .int (nI 2)] S1 (some (.int (nI 0))) S2) : Bod (d + 8) 380 0 [(0, .ref 61), (1, .int (nI 5)), (2, .int (nI ba)), (3, .int (nI nn))] [] S (some (.int 0)) (S2) := by
  refine Bod.go dc_380_0 rfl ?_
  refine Bod.ic 1 (by decide) dc_380_1 ?_
  refine Bod.addN (ba + 1) (by omega) dc_380_2 ?_
  refine Bod.ist dc_380_3 (by rw [ml_380]; exact Nat.le_of_ble_eq_true rfl) ?_
  refine Bod.go dc_380_5 rfl ?_
  refine Bod.ic 2 (by decide) dc_380_6 ?_
  refine Bod.icT dc_380_7 rfl (k2_ne_T (k_ne 5 2 rfl rfl (by omega) (by omega) (by omega))) ?_
  refine Bod.go dc_380_23 rfl ?_
  refine Bod.ic 3 (by decide) dc_380_24 ?_
  refine Bod.icT dc_380_25 rfl (k2_ne_T (k_ne 5 3 rfl rfl (by omega) (by omega) (by omega))) ?_
  refine Bod.go dc_380_32 rfl ?_
  refine Bod.bip 8 (by decide) dc_380_33 ?_
  refine Bod.icF dc_380_35 rfl (k2_eq_F (k_ne 5 8 rfl rfl (by omega) (by omega) (by omega))) ?_
  refine Bod.go dc_380_38 rfl ?_
  refine Bod.bip 9 (by decide) dc_380_39 ?_
  refine Bod.icT dc_380_41 rfl (k2_ne_T (k_ne 5 9 rfl rfl (by omega) (by omega) (by omega))) ?_
  refine Bod.ic 1 (by decide) dc_380_48 ?_
  refine Bod.ist dc_380_49 (by rw [ml_380]; exact Nat.le_of_ble_eq_true rfl) ?_
  refine Bod.go dc_380_51 rfl ?_
  refine Bod.ifT dc_380_52 rfl (k1_ne_T (k_ne 5 0 rfl rfl (by omega) (by omega) (by omega))) ?_
  refine Bod.go dc_380_62 rfl ?_
  refine Bod.go dc_380_63 rfl ?_
  refine Bod.icT dc_380_65 rfl (k2_eq_T (k_eq nn 1 rfl rfl (by omega))) ?_
  refine Bod.go dc_380_74 rfl ?_
  refine Bod.lst dc_380_75 (by rw [ml_380]; exact Nat.le_of_ble_eq_true rfl) ?_
  refine Bod.go dc_380_77 rfl ?_
  refine Bod.sw (t := 380) dc_380_78 rfl rfl (by decide +kernel) ?_
  refine Bod.go dc_380_380 rfl ?_
  refine Bod.go dc_380_381 rfl ?_
  refine Bod.ic 2 (by decide) dc_380_383 ?_
  refine Bod.virt (r := []) dc_380_384 kr_380_683 ⟨Or.inl rfl, ow_363, cl_14⟩ (by rw [np_363]; rfl) (by rw [np_363]; rfl) (ob_of (mk_61 _)) (Nat.le_of_ble_eq_true rfl) (c1  ) ?_
  show Bod _ _ _ _ [_] _ _ _
  refine Bod.ifF dc_380_387 rfl (k1_ne_F (k_eq 0 0 rfl rfl (by omega))) ?_
  refine Bod.go dc_380_390 rfl ?_
  refine Bod.ic 2 (by decide) dc_380_391 ?_
  refine Bod.virt (r := []) dc_380_392 kr_380_608 ⟨Or.inl rfl, ow_351, cl_14⟩ (by rw [np_351]; rfl) (by rw [np_351]; rfl) (ob_of (mk_61 _)) (Nat.le_of_ble_eq_true rfl) (c2  ) ?_
  show Bod _ _ _ _ [_] _ _ _
  exact Bod.retZ dc_380_395 rt_380 (Or.inl rfl)
theorem rBt5_4 {d : Nat} {S : cS} {ba : Nat} {nn : Nat} {S1 : cS} (mba : ba < 2 ^ 20) (mnn : nn < 2 ^ 20) (b1 : nn ≠ 1) (c1 : Ans (d + 8) 351 [.ref 61, .int (nI 2)] S (some (.int (nI 0))) S1) : Bod (d + 8) 380 0 [(0, .ref 61), (1, .int (nI 5)), (2, .int (nI ba)), (3, .int (nI nn))] [] S (some (.int 0)) (S1) := by
  refine Bod.go dc_380_0 rfl ?_
  refine Bod.ic 1 (by decide) dc_380_1 ?_
  refine Bod.addN (ba + 1) (by omega) dc_380_2 ?_
  refine Bod.ist dc_380_3 (by rw [ml_380]; exact Nat.le_of_ble_eq_true rfl) ?_
  refine Bod.go dc_380_5 rfl ?_
  refine Bod.ic 2 (by decide) dc_380_6 ?_
  refine Bod.icT dc_380_7 rfl (k2_ne_T (k_ne 5 2 rfl rfl (by omega) (by omega) (by omega))) ?_
  refine Bod.go dc_380_23 rfl ?_
  refine Bod.ic 3 (by decide) dc_380_24 ?_
  refine Bod.icT dc_380_25 rfl (k2_ne_T (k_ne 5 3 rfl rfl (by omega) (by omega) (by omega))) ?_
  refine Bod.go dc_380_32 rfl ?_
  refine Bod.bip 8 (by decide) dc_380_33 ?_
  refine Bod.icF dc_380_35 rfl (k2_eq_F (k_ne 5 8 rfl rfl (by omega) (by omega) (by omega))) ?_
  refine Bod.go dc_380_38 rfl ?_
  refine Bod.bip 9 (by decide) dc_380_39 ?_
  refine Bod.icT dc_380_41 rfl (k2_ne_T (k_ne 5 9 rfl rfl (by omega) (by omega) (by omega))) ?_
  refine Bod.ic 1 (by decide) dc_380_48 ?_
  refine Bod.ist dc_380_49 (by rw [ml_380]; exact Nat.le_of_ble_eq_true rfl) ?_
  refine Bod.go dc_380_51 rfl ?_
  refine Bod.ifT dc_380_52 rfl (k1_ne_T (k_ne 5 0 rfl rfl (by omega) (by omega) (by omega))) ?_
  refine Bod.go dc_380_62 rfl ?_
  refine Bod.go dc_380_63 rfl ?_
  refine Bod.icF dc_380_65 rfl (k2_eq_F (k_ne nn 1 rfl rfl (by omega) (by omega) (by omega))) ?_
  refine Bod.go dc_380_68 rfl ?_
  refine Bod.ic 2 (by decide) dc_380_69 ?_
  refine Bod.virt (r := []) dc_380_70 kr_380_608 ⟨Or.inl rfl, ow_351, cl_14⟩ (by rw [np_351]; rfl) (by rw [np_351]; rfl) (ob_of (mk_61 _)) (Nat.le_of_ble_eq_true rfl) (c1  ) ?_
  show Bod _ _ _ _ [_] _ _ _
  exact Bod.retZ dc_380_73 rt_380 (Or.inl rfl)
theorem rBt6_1 {d : Nat} {S : cS} {ba : Nat} {nn : Nat} {S1 : cS} (mba : ba < 2 ^ 20) (mnn : nn < 2 ^ 20) (b1 : nn = 1) (c1 : Ans (d + 8) 390 [.ref 61, .int (nI ba)] S (some (.int (nI 1))) S1) : Bod (d + 8) 380 0 [(0, .ref 61), (1, .int (nI 6)), (2, .int (nI ba)), (3, .int (nI nn))] [] S (some (.int 1)) (S1) := by
  refine Bod.go dc_380_0 rfl ?_
  refine Bod.ic 1 (by decide) dc_380_1 ?_
  refine Bod.addN (ba + 1) (by omega) dc_380_2 ?_
  refine Bod.ist dc_380_3 (by rw [ml_380]; exact Nat.le_of_ble_eq_true rfl) ?_
  refine Bod.go dc_380_5 rfl ?_
  refine Bod.ic 2 (by decide) dc_380_6 ?_
  refine Bod.icT dc_380_7 rfl (k2_ne_T (k_ne 6 2 rfl rfl (by omega) (by omega) (by omega))) ?_
  refine Bod.go dc_380_23 rfl ?_
  refine Bod.ic 3 (by decide) dc_380_24 ?_
  refine Bod.icT dc_380_25 rfl (k2_ne_T (k_ne 6 3 rfl rfl (by omega) (by omega) (by omega))) ?_
  refine Bod.go dc_380_32 rfl ?_
  refine Bod.bip 8 (by decide) dc_380_33 ?_
  refine Bod.icF dc_380_35 rfl (k2_eq_F (k_ne 6 8 rfl rfl (by omega) (by omega) (by omega))) ?_
  refine Bod.go dc_380_38 rfl ?_
  refine Bod.bip 9 (by decide) dc_380_39 ?_
  refine Bod.icT dc_380_41 rfl (k2_ne_T (k_ne 6 9 rfl rfl (by omega) (by omega) (by omega))) ?_
  refine Bod.ic 1 (by decide) dc_380_48 ?_
  refine Bod.ist dc_380_49 (by rw [ml_380]; exact Nat.le_of_ble_eq_true rfl) ?_
  refine Bod.go dc_380_51 rfl ?_
  refine Bod.ifT dc_380_52 rfl (k1_ne_T (k_ne 6 0 rfl rfl (by omega) (by omega) (by omega))) ?_
  refine Bod.go dc_380_62 rfl ?_
  refine Bod.go dc_380_63 rfl ?_
  refine Bod.icT dc_380_65 rfl (k2_eq_T (k_eq nn 1 rfl rfl (by omega))) ?_
  refine Bod.go dc_380_74 rfl ?_
  refine Bod.lst dc_380_75 (by rw [ml_380]; exact Nat.le_of_ble_eq_true rfl) ?_
  refine Bod.go dc_380_77 rfl ?_
  refine Bod.sw (t := 487) dc_380_78 rfl rfl (by decide +kernel) ?_
  refine Bod.go dc_380_487 rfl ?_
  refine Bod.go dc_380_488 rfl ?_
  refine Bod.virt (r := []) dc_380_489 kr_380_797 ⟨Or.inl rfl, ow_390, cl_14⟩ (by rw [np_390]; rfl) (by rw [np_390]; rfl) (ob_of (mk_61 _)) (Nat.le_of_ble_eq_true rfl) (c1  ) ?_
  show Bod _ _ _ _ [_] _ _ _
  exact Bod.retZ dc_380_492 rt_380 (Or.inr rfl)
theorem rBt6_2 {d : Nat} {S : cS} {ba : Nat} {nn : Nat} {S1 : cS} (mba : ba < 2 ^ 20) (mnn : nn < 2 ^ 20) (b1 : nn = 1) (c1 : Ans (d + 8) 390 [.ref 61, .int (nI ba)] S (some (.int (nI 0))) S1) : Bod (d + 8) 380 0 [(0, .ref 61), (1, .int (nI 6)), (2, .int (nI ba)), (3, .int (nI nn))] [] S (some (.int 0)) (S1) := by
  refine Bod.go dc_380_0 rfl ?_
  refine Bod.ic 1 (by decide) dc_380_1 ?_
  refine Bod.addN (ba + 1) (by omega) dc_380_2 ?_
  refine Bod.ist dc_380_3 (by rw [ml_380]; exact Nat.le_of_ble_eq_true rfl) ?_
  refine Bod.go dc_380_5 rfl ?_
  refine Bod.ic 2 (by decide) dc_380_6 ?_
  refine Bod.icT dc_380_7 rfl (k2_ne_T (k_ne 6 2 rfl rfl (by omega) (by omega) (by omega))) ?_
  refine Bod.go dc_380_23 rfl ?_
  refine Bod.ic 3 (by decide) dc_380_24 ?_
  refine Bod.icT dc_380_25 rfl (k2_ne_T (k_ne 6 3 rfl rfl (by omega) (by omega) (by omega))) ?_
  refine Bod.go dc_380_32 rfl ?_
  refine Bod.bip 8 (by decide) dc_380_33 ?_
  refine Bod.icF dc_380_35 rfl (k2_eq_F (k_ne 6 8 rfl rfl (by omega) (by omega) (by omega))) ?_
  refine Bod.go dc_380_38 rfl ?_
  refine Bod.bip 9 (by decide) dc_380_39 ?_
  refine Bod.icT dc_380_41 rfl (k2_ne_T (k_ne 6 9 rfl rfl (by omega) (by omega) (by omega))) ?_
  refine Bod.ic 1 (by decide) dc_380_48 ?_
  refine Bod.ist dc_380_49 (by rw [ml_380]; exact Nat.le_of_ble_eq_true rfl) ?_
  refine Bod.go dc_380_51 rfl ?_
  refine Bod.ifT dc_380_52 rfl (k1_ne_T (k_ne 6 0 rfl rfl (by omega) (by omega) (by omega))) ?_
  refine Bod.go dc_380_62 rfl ?_
  refine Bod.go dc_380_63 rfl ?_
  refine Bod.icT dc_380_65 rfl (k2_eq_T (k_eq nn 1 rfl rfl (by omega))) ?_
  refine Bod.go dc_380_74 rfl ?_
  refine Bod.lst dc_380_75 (by rw [ml_380]; exact Nat.le_of_ble_eq_true rfl) ?_
  refine Bod.go dc_380_77 rfl ?_
  refine Bod.sw (t := 487) dc_380_78 rfl rfl (by decide +kernel) ?_
  refine Bod.go dc_380_487 rfl ?_
  refine Bod.go dc_380_488 rfl ?_
  refine Bod.virt (r := []) dc_380_489 kr_380_797 ⟨Or.inl rfl, ow_390, cl_14⟩ (by rw [np_390]; rfl) (by rw [np_390]; rfl) (ob_of (mk_61 _)) (Nat.le_of_ble_eq_true rfl) (c1  ) ?_
  show Bod _ _ _ _ [_] _ _ _
  exact Bod.retZ dc_380_492 rt_380 (Or.inl rfl)
theorem rBt6_3 {d : Nat} {S : cS} {ba : Nat} {nn : Nat} {S1 : cS} (mba : ba < 2 ^ 20) (mnn : nn < 2 ^ 20) (b1 : nn ≠ 1) (c1 : Ans (d + 8) 351 [.ref 61, .int (nI 2)] S (some (.int (nI 0))) S1) : Bod (d + 8) 380 0 [(0, .ref 61), (1, .int (nI 6)), (2, .int (nI ba)), (3, .int (nI nn))] [] S (some (.int 0)) (S1) := by
  refine Bod.go dc_380_0 rfl ?_
  refine Bod.ic 1 (by decide) dc_380_1 ?_
  refine Bod.addN (ba + 1) (by omega) dc_380_2 ?_
  refine Bod.ist dc_380_3 (by rw [ml_380]; exact Nat.le_of_ble_eq_true rfl) ?_
  refine Bod.go dc_380_5 rfl ?_
  refine Bod.ic 2 (by decide) dc_380_6 ?_
  refine Bod.icT dc_380_7 rfl (k2_ne_T (k_ne 6 2 rfl rfl (by omega) (by omega) (by omega))) ?_
  refine Bod.go dc_380_23 rfl ?_
  refine Bod.ic 3 (by decide) dc_380_24 ?_
  refine Bod.icT dc_380_25 rfl (k2_ne_T (k_ne 6 3 rfl rfl (by omega) (by omega) (by omega))) ?_
  refine Bod.go dc_380_32 rfl ?_
  refine Bod.bip 8 (by decide) dc_380_33 ?_
  refine Bod.icF dc_380_35 rfl (k2_eq_F (k_ne 6 8 rfl rfl (by omega) (by omega) (by omega))) ?_
  refine Bod.go dc_380_38 rfl ?_
  refine Bod.bip 9 (by decide) dc_380_39 ?_
  refine Bod.icT dc_380_41 rfl (k2_ne_T (k_ne 6 9 rfl rfl (by omega) (by omega) (by omega))) ?_
  refine Bod.ic 1 (by decide) dc_380_48 ?_
  refine Bod.ist dc_380_49 (by rw [ml_380]; exact Nat.le_of_ble_eq_true rfl) ?_
  refine Bod.go dc_380_51 rfl ?_
  refine Bod.ifT dc_380_52 rfl (k1_ne_T (k_ne 6 0 rfl rfl (by omega) (by omega) (by omega))) ?_
  refine Bod.go dc_380_62 rfl ?_
  refine Bod.go dc_380_63 rfl ?_
  refine Bod.icF dc_380_65 rfl (k2_eq_F (k_ne nn 1 rfl rfl (by omega) (by omega) (by omega))) ?_
  refine Bod.go dc_380_68 rfl ?_
  refine Bod.ic 2 (by decide) dc_380_69 ?_
  refine Bod.virt (r := []) dc_380_70 kr_380_608 ⟨Or.inl rfl, ow_351, cl_14⟩ (by rw [np_351]; rfl) (by rw [np_351]; rfl) (ob_of (mk_61 _)) (Nat.le_of_ble_eq_true rfl) (c1  ) ?_
  show Bod _ _ _ _ [_] _ _ _
  exact Bod.retZ dc_380_73 rt_380 (Or.inl rfl)
theorem rBt7_1 {d : Nat} {S : cS} {ba : Nat} {nn : Nat} {e91 : Nat} {S1 : cS} {S2 : cS} {o : Nat} {e89 : Nat} {S3 : cS} (mba : ba < 2 ^ 20) (mnn : nn < 2 ^ 20) (b1 : nn = 1) (b2 : ba + 1 < 20480) (he91 : sA S 91 (ba + 1) = nI e91) (me91 : e91 < 2 ^ 20) (b3 : e91 = 3) (c1 : Ans (d + 8) 366 [.ref 61] S none S1) (c2 : Ans (d + 8) 367 [.ref 61] S1 none S2) (b4 : ba + 1 < 20480) (ho : (sL S2 92 (ba + 1)).toInt32 = nI o) (mo : o < 1500) (he89 : sA S2 89 o = nI e89) (me89 : e89 < 2 ^ 20) (c3 : Ans (d + 8) 353 [.ref 61, .long ((nI e89).toInt64)] (wI 6151 (nI ba) S2) none S3) : Bod (d + 8) 380 0 [(0, .ref 61), (1, .int (nI 7)), (2, .int (nI ba)), (3, .int (nI nn))] [] S (some (.int 1)) (S3) := by
  refine Bod.go dc_380_0 rfl ?_
  refine Bod.ic 1 (by decide) dc_380_1 ?_
  refine Bod.addN (ba + 1) (by omega) dc_380_2 ?_
  refine Bod.ist dc_380_3 (by rw [ml_380]; exact Nat.le_of_ble_eq_true rfl) ?_
  refine Bod.go dc_380_5 rfl ?_
  refine Bod.ic 2 (by decide) dc_380_6 ?_
  refine Bod.icT dc_380_7 rfl (k2_ne_T (k_ne 7 2 rfl rfl (by omega) (by omega) (by omega))) ?_
  refine Bod.go dc_380_23 rfl ?_
  refine Bod.ic 3 (by decide) dc_380_24 ?_
  refine Bod.icT dc_380_25 rfl (k2_ne_T (k_ne 7 3 rfl rfl (by omega) (by omega) (by omega))) ?_
  refine Bod.go dc_380_32 rfl ?_
  refine Bod.bip 8 (by decide) dc_380_33 ?_
  refine Bod.icF dc_380_35 rfl (k2_eq_F (k_ne 7 8 rfl rfl (by omega) (by omega) (by omega))) ?_
  refine Bod.go dc_380_38 rfl ?_
  refine Bod.bip 9 (by decide) dc_380_39 ?_
  refine Bod.icT dc_380_41 rfl (k2_ne_T (k_ne 7 9 rfl rfl (by omega) (by omega) (by omega))) ?_
  refine Bod.ic 1 (by decide) dc_380_48 ?_
  refine Bod.ist dc_380_49 (by rw [ml_380]; exact Nat.le_of_ble_eq_true rfl) ?_
  refine Bod.go dc_380_51 rfl ?_
  refine Bod.ifT dc_380_52 rfl (k1_ne_T (k_ne 7 0 rfl rfl (by omega) (by omega) (by omega))) ?_
  refine Bod.go dc_380_62 rfl ?_
  refine Bod.go dc_380_63 rfl ?_
  refine Bod.icT dc_380_65 rfl (k2_eq_T (k_eq nn 1 rfl rfl (by omega))) ?_
  refine Bod.go dc_380_74 rfl ?_
  refine Bod.lst dc_380_75 (by rw [ml_380]; exact Nat.le_of_ble_eq_true rfl) ?_
  refine Bod.go dc_380_77 rfl ?_
  refine Bod.sw (t := 493) dc_380_78 rfl rfl (by decide +kernel) ?_
  refine Bod.go dc_380_493 rfl ?_
  refine Bod.get dc_380_494 fr_380_496 (mk_61 _) rfl ?_
  refine Bod.go dc_380_497 rfl ?_
  refine Bod.ialdN (ba + 1) rfl (by omega) (by omega) dc_380_499 (mk_91 _) ?_
  refine Bod.eqI (nI e91) (by first | assumption | rfl | exact congrArg nI (by omega) | (simp (disch := omega) only [rIn, rIe, rA, rIA, rLA, rJA, rVI, rQI, rVA, rQA, upd_at,  rAI, rLI, rJI, nI_add, pk_sub, kc_0, kc_1, kc_2, kc_3, kc_4, kc_5, reduceIte, Nat.reduceEqDiff, Nat.add_zero, rI_hold, rI_hold, rL_hold, he91]; done)) ?_
  refine Bod.ic 3 (by decide) dc_380_500 ?_
  refine Bod.icT dc_380_501 rfl (k2_eq_T (k_eq e91 3 rfl rfl (by omega))) ?_
  refine Bod.go dc_380_510 rfl ?_
  refine Bod.virt (r := []) dc_380_511 kr_380_527 ⟨Or.inl rfl, ow_366, cl_14⟩ (by rw [np_366]; rfl) (by rw [np_366]; rfl) (ob_of (mk_61 _)) (Nat.le_of_ble_eq_true rfl) (c1  ) ?_
  show Bod _ _ _ _ [] _ _ _
  refine Bod.go dc_380_514 rfl ?_
  refine Bod.virt (r := []) dc_380_515 kr_380_508 ⟨Or.inl rfl, ow_367, cl_14⟩ (by rw [np_367]; rfl) (by rw [np_367]; rfl) (ob_of (mk_61 _)) (Nat.le_of_ble_eq_true rfl) (c2  ) ?_
  show Bod _ _ _ _ [] _ _ _
  refine Bod.go dc_380_518 rfl ?_
  refine Bod.get dc_380_519 fr_380_456 (mk_61 _) rfl ?_
  refine Bod.go dc_380_522 rfl ?_
  refine Bod.get dc_380_523 fr_380_499 (mk_61 _) rfl ?_
  refine Bod.go dc_380_526 rfl ?_
  refine Bod.laldN (ba + 1) rfl (by omega) (by omega) dc_380_528 (mk_92 _) ?_
  refine Bod.go dc_380_529 rfl ?_
  refine Bod.eqI (nI o) (by first | exact ho | (simp only [rIn, rIe, rA, rIA, rLA, rJA, rVI, rQI, rVA, rQA, upd_at,  rAI, rLI, rJI, nI_add, pk_sub, kc_0, kc_1, kc_2, kc_3, kc_4, kc_5, reduceIte, Nat.reduceEqDiff, Nat.add_zero, rI_hold, rI_hold, rL_hold]; exact ho)) ?_
  refine Bod.ialdN o rfl (by omega) (by omega) dc_380_530 (mk_89 _) ?_
  refine Bod.eqI (nI e89) (by first | assumption | (simp (disch := omega) only [rIn, rIe, rA, rIA, rLA, rJA, rVI, rQI, rVA, rQA, upd_at,  rAI, rLI, rJI, nI_add, pk_sub, kc_0, kc_1, kc_2, kc_3, kc_4, kc_5, reduceIte, Nat.reduceEqDiff, Nat.add_zero, rI_hold, rI_hold, rL_hold, he91, he89]; done) | (simp (disch := omega) only [rIn, rIe, rA, rIA, rLA, rJA, rVI, rQI, rVA, rQA, upd_at,  rAI, rLI, rJI, nI_add, pk_sub, kc_0, kc_1, kc_2, kc_3, kc_4, kc_5, reduceIte, Nat.reduceEqDiff, Nat.add_zero, rI_hold, rI_hold, rL_hold, he91, he89]; exact congrArg nI (by omega))) ?_
  refine Bod.go dc_380_531 rfl ?_
  refine Bod.lst dc_380_532 (by rw [ml_380]; exact Nat.le_of_ble_eq_true rfl) ?_
  refine Bod.go dc_380_534 rfl ?_
  refine Bod.go dc_380_554 rfl ?_
  refine Bod.go dc_380_555 rfl ?_
  refine Bod.put dc_380_556 fr_380_493 (mk_61 _) (Nat.le_of_ble_eq_true rfl) pf_14_51 (st_6151 _ _) (mu_I _ _ _) ?_
  refine Bod.go dc_380_559 rfl ?_
  refine Bod.go dc_380_560 rfl ?_
  refine Bod.virt (r := []) dc_380_562 kr_380_613 ⟨Or.inl rfl, ow_353, cl_14⟩ (by rw [np_353]; rfl) (by rw [np_353]; rfl) (ob_of (mk_61 _)) (Nat.le_of_ble_eq_true rfl) (c3  ) ?_
  show Bod _ _ _ _ [] _ _ _
  refine Bod.ic 1 (by decide) dc_380_565 ?_
  exact Bod.retZ dc_380_566 rt_380 (Or.inr rfl)
theorem rBt7_2 {d : Nat} {S : cS} {ba : Nat} {nn : Nat} {e91 : Nat} {S1 : cS} (mba : ba < 2 ^ 20) (mnn : nn < 2 ^ 20) (b1 : nn = 1) (b2 : ba + 1 < 20480) (he91 : sA S 91 (ba + 1) = nI e91) (me91 : e91 < 2 ^ 20) (b3 : e91 ≠ 3) (c1 : Ans (d + 8) 351 [.ref 61, .int (nI 2)] S (some (.int (nI 0))) S1) : Bod (d + 8) 380 0 [(0, .ref 61), (1, .int (nI 7)), (2, .int (nI ba)), (3, .int (nI nn))] [] S (some (.int 0)) (S1) := by
  refine Bod.go dc_380_0 rfl ?_
  refine Bod.ic 1 (by decide) dc_380_1 ?_
  refine Bod.addN (ba + 1) (by omega) dc_380_2 ?_
  refine Bod.ist dc_380_3 (by rw [ml_380]; exact Nat.le_of_ble_eq_true rfl) ?_
  refine Bod.go dc_380_5 rfl ?_
  refine Bod.ic 2 (by decide) dc_380_6 ?_
  refine Bod.icT dc_380_7 rfl (k2_ne_T (k_ne 7 2 rfl rfl (by omega) (by omega) (by omega))) ?_
  refine Bod.go dc_380_23 rfl ?_
  refine Bod.ic 3 (by decide) dc_380_24 ?_
  refine Bod.icT dc_380_25 rfl (k2_ne_T (k_ne 7 3 rfl rfl (by omega) (by omega) (by omega))) ?_
  refine Bod.go dc_380_32 rfl ?_
  refine Bod.bip 8 (by decide) dc_380_33 ?_
  refine Bod.icF dc_380_35 rfl (k2_eq_F (k_ne 7 8 rfl rfl (by omega) (by omega) (by omega))) ?_
  refine Bod.go dc_380_38 rfl ?_
  refine Bod.bip 9 (by decide) dc_380_39 ?_
  refine Bod.icT dc_380_41 rfl (k2_ne_T (k_ne 7 9 rfl rfl (by omega) (by omega) (by omega))) ?_
  refine Bod.ic 1 (by decide) dc_380_48 ?_
  refine Bod.ist dc_380_49 (by rw [ml_380]; exact Nat.le_of_ble_eq_true rfl) ?_
  refine Bod.go dc_380_51 rfl ?_
  refine Bod.ifT dc_380_52 rfl (k1_ne_T (k_ne 7 0 rfl rfl (by omega) (by omega) (by omega))) ?_
  refine Bod.go dc_380_62 rfl ?_
  refine Bod.go dc_380_63 rfl ?_
  refine Bod.icT dc_380_65 rfl (k2_eq_T (k_eq nn 1 rfl rfl (by omega))) ?_
  refine Bod.go dc_380_74 rfl ?_
  refine Bod.lst dc_380_75 (by rw [ml_380]; exact Nat.le_of_ble_eq_true rfl) ?_
  refine Bod.go dc_380_77 rfl ?_
  refine Bod.sw (t := 493) dc_380_78 rfl rfl (by decide +kernel) ?_
  refine Bod.go dc_380_493 rfl ?_
  refine Bod.get dc_380_494 fr_380_496 (mk_61 _) rfl ?_
  refine Bod.go dc_380_497 rfl ?_
  refine Bod.ialdN (ba + 1) rfl (by omega) (by omega) dc_380_499 (mk_91 _) ?_
  refine Bod.eqI (nI e91) (by first | assumption | rfl | exact congrArg nI (by omega) | (simp (disch := omega) only [rIn, rIe, rA, rIA, rLA, rJA, rVI, rQI, rVA, rQA, upd_at,  rAI, rLI, rJI, nI_add, pk_sub, kc_0, kc_1, kc_2, kc_3, kc_4, kc_5, reduceIte, Nat.reduceEqDiff, Nat.add_zero, rI_hold, rI_hold, rL_hold, he91]; done)) ?_
  refine Bod.ic 3 (by decide) dc_380_500 ?_
  refine Bod.icF dc_380_501 rfl (k2_eq_F (k_ne e91 3 rfl rfl (by omega) (by omega) (by omega))) ?_
  refine Bod.go dc_380_504 rfl ?_
  refine Bod.ic 2 (by decide) dc_380_505 ?_
  refine Bod.virt (r := []) dc_380_506 kr_380_608 ⟨Or.inl rfl, ow_351, cl_14⟩ (by rw [np_351]; rfl) (by rw [np_351]; rfl) (ob_of (mk_61 _)) (Nat.le_of_ble_eq_true rfl) (c1  ) ?_
  show Bod _ _ _ _ [_] _ _ _
  exact Bod.retZ dc_380_509 rt_380 (Or.inl rfl)
theorem rBt7_3 {d : Nat} {S : cS} {ba : Nat} {nn : Nat} {S1 : cS} (mba : ba < 2 ^ 20) (mnn : nn < 2 ^ 20) (b1 : nn ≠ 1) (c1 : Ans (d + 8) 351 [.ref 61, .int (nI 2)] S (some (.int (nI 0))) S1) : Bod (d + 8) 380 0 [(0, .ref 61), (1, .int (nI 7)), (2, .int (nI ba)), (3, .int (nI nn))] [] S (some (.int 0)) (S1) := by
  refine Bod.go dc_380_0 rfl ?_
  refine Bod.ic 1 (by decide) dc_380_1 ?_
  refine Bod.addN (ba + 1) (by omega) dc_380_2 ?_
  refine Bod.ist dc_380_3 (by rw [ml_380]; exact Nat.le_of_ble_eq_true rfl) ?_
  refine Bod.go dc_380_5 rfl ?_
  refine Bod.ic 2 (by decide) dc_380_6 ?_
  refine Bod.icT dc_380_7 rfl (k2_ne_T (k_ne 7 2 rfl rfl (by omega) (by omega) (by omega))) ?_
  refine Bod.go dc_380_23 rfl ?_
  refine Bod.ic 3 (by decide) dc_380_24 ?_
  refine Bod.icT dc_380_25 rfl (k2_ne_T (k_ne 7 3 rfl rfl (by omega) (by omega) (by omega))) ?_
  refine Bod.go dc_380_32 rfl ?_
  refine Bod.bip 8 (by decide) dc_380_33 ?_
  refine Bod.icF dc_380_35 rfl (k2_eq_F (k_ne 7 8 rfl rfl (by omega) (by omega) (by omega))) ?_
  refine Bod.go dc_380_38 rfl ?_
  refine Bod.bip 9 (by decide) dc_380_39 ?_
  refine Bod.icT dc_380_41 rfl (k2_ne_T (k_ne 7 9 rfl rfl (by omega) (by omega) (by omega))) ?_
  refine Bod.ic 1 (by decide) dc_380_48 ?_
  refine Bod.ist dc_380_49 (by rw [ml_380]; exact Nat.le_of_ble_eq_true rfl) ?_
  refine Bod.go dc_380_51 rfl ?_
  refine Bod.ifT dc_380_52 rfl (k1_ne_T (k_ne 7 0 rfl rfl (by omega) (by omega) (by omega))) ?_
  refine Bod.go dc_380_62 rfl ?_
  refine Bod.go dc_380_63 rfl ?_
  refine Bod.icF dc_380_65 rfl (k2_eq_F (k_ne nn 1 rfl rfl (by omega) (by omega) (by omega))) ?_
  refine Bod.go dc_380_68 rfl ?_
  refine Bod.ic 2 (by decide) dc_380_69 ?_
  refine Bod.virt (r := []) dc_380_70 kr_380_608 ⟨Or.inl rfl, ow_351, cl_14⟩ (by rw [np_351]; rfl) (by rw [np_351]; rfl) (ob_of (mk_61 _)) (Nat.le_of_ble_eq_true rfl) (c1  ) ?_
  show Bod _ _ _ _ [_] _ _ _
  exact Bod.retZ dc_380_73 rt_380 (Or.inl rfl)
theorem rBt8_1 {d : Nat} {S : cS} {ba : Nat} {nn : Nat} {S1 : cS} {a : Nat} {S2 : cS} (mba : ba < 2 ^ 20) (mnn : nn < 2 ^ 20) (b1 : nn = 0) (ma : a < 2 ^ 20) (c1 : Ans (d + 8) 392 [.ref 61] S (some (.int (nI a))) S1) (c2 : Ans (d + 8) 353 [.ref 61, .long ((nI a).toInt64)] (wI 6151 (nI ba) S1) none S2) : Bod (d + 8) 380 0 [(0, .ref 61), (1, .int (nI 8)), (2, .int (nI ba)), (3, .int (nI nn))] [] S (some (.int 1)) (S2) := by
  refine Bod.go dc_380_0 rfl ?_
  refine Bod.ic 1 (by decide) dc_380_1 ?_
  refine Bod.addN (ba + 1) (by omega) dc_380_2 ?_
  refine Bod.ist dc_380_3 (by rw [ml_380]; exact Nat.le_of_ble_eq_true rfl) ?_
  refine Bod.go dc_380_5 rfl ?_
  refine Bod.ic 2 (by decide) dc_380_6 ?_
  refine Bod.icT dc_380_7 rfl (k2_ne_T (k_ne 8 2 rfl rfl (by omega) (by omega) (by omega))) ?_
  refine Bod.go dc_380_23 rfl ?_
  refine Bod.ic 3 (by decide) dc_380_24 ?_
  refine Bod.icT dc_380_25 rfl (k2_ne_T (k_ne 8 3 rfl rfl (by omega) (by omega) (by omega))) ?_
  refine Bod.go dc_380_32 rfl ?_
  refine Bod.bip 8 (by decide) dc_380_33 ?_
  refine Bod.icT dc_380_35 rfl (k2_eq_T (k_eq 8 8 rfl rfl (by omega))) ?_
  refine Bod.ic 0 (by decide) dc_380_44 ?_
  refine Bod.go dc_380_45 rfl ?_
  refine Bod.ist dc_380_49 (by rw [ml_380]; exact Nat.le_of_ble_eq_true rfl) ?_
  refine Bod.go dc_380_51 rfl ?_
  refine Bod.ifT dc_380_52 rfl (k1_ne_T (k_ne 8 0 rfl rfl (by omega) (by omega) (by omega))) ?_
  refine Bod.go dc_380_62 rfl ?_
  refine Bod.go dc_380_63 rfl ?_
  refine Bod.icT dc_380_65 rfl (k2_eq_T (k_eq nn 0 rfl rfl (by omega))) ?_
  refine Bod.go dc_380_74 rfl ?_
  refine Bod.lst dc_380_75 (by rw [ml_380]; exact Nat.le_of_ble_eq_true rfl) ?_
  refine Bod.go dc_380_77 rfl ?_
  refine Bod.sw (t := 537) dc_380_78 rfl rfl (by decide +kernel) ?_
  refine Bod.go dc_380_537 rfl ?_
  refine Bod.virt (r := []) dc_380_538 kr_380_799 ⟨Or.inl rfl, ow_392, cl_14⟩ (by rw [np_392]; rfl) (by rw [np_392]; rfl) (ob_of (mk_61 _)) (Nat.le_of_ble_eq_true rfl) (c1  ) ?_
  show Bod _ _ _ _ [_] _ _ _
  refine Bod.go dc_380_541 rfl ?_
  refine Bod.lst dc_380_542 (by rw [ml_380]; exact Nat.le_of_ble_eq_true rfl) ?_
  refine Bod.go dc_380_544 rfl ?_
  refine Bod.go dc_380_554 rfl ?_
  refine Bod.go dc_380_555 rfl ?_
  refine Bod.put dc_380_556 fr_380_493 (mk_61 _) (Nat.le_of_ble_eq_true rfl) pf_14_51 (st_6151 _ _) (mu_I _ _ _) ?_
  refine Bod.go dc_380_559 rfl ?_
  refine Bod.go dc_380_560 rfl ?_
  refine Bod.virt (r := []) dc_380_562 kr_380_613 ⟨Or.inl rfl, ow_353, cl_14⟩ (by rw [np_353]; rfl) (by rw [np_353]; rfl) (ob_of (mk_61 _)) (Nat.le_of_ble_eq_true rfl) (c2  ) ?_
  show Bod _ _ _ _ [] _ _ _
  refine Bod.ic 1 (by decide) dc_380_565 ?_
  exact Bod.retZ dc_380_566 rt_380 (Or.inr rfl)
theorem rBt8_2 {d : Nat} {S : cS} {ba : Nat} {nn : Nat} {S1 : cS} (mba : ba < 2 ^ 20) (mnn : nn < 2 ^ 20) (b1 : nn ≠ 0) (c1 : Ans (d + 8) 351 [.ref 61, .int (nI 2)] S (some (.int (nI 0))) S1) : Bod (d + 8) 380 0 [(0, .ref 61), (1, .int (nI 8)), (2, .int (nI ba)), (3, .int (nI nn))] [] S (some (.int 0)) (S1) := by
  refine Bod.go dc_380_0 rfl ?_
  refine Bod.ic 1 (by decide) dc_380_1 ?_
  refine Bod.addN (ba + 1) (by omega) dc_380_2 ?_
  refine Bod.ist dc_380_3 (by rw [ml_380]; exact Nat.le_of_ble_eq_true rfl) ?_
  refine Bod.go dc_380_5 rfl ?_
  refine Bod.ic 2 (by decide) dc_380_6 ?_
  refine Bod.icT dc_380_7 rfl (k2_ne_T (k_ne 8 2 rfl rfl (by omega) (by omega) (by omega))) ?_
  refine Bod.go dc_380_23 rfl ?_
  refine Bod.ic 3 (by decide) dc_380_24 ?_
  refine Bod.icT dc_380_25 rfl (k2_ne_T (k_ne 8 3 rfl rfl (by omega) (by omega) (by omega))) ?_
  refine Bod.go dc_380_32 rfl ?_
  refine Bod.bip 8 (by decide) dc_380_33 ?_
  refine Bod.icT dc_380_35 rfl (k2_eq_T (k_eq 8 8 rfl rfl (by omega))) ?_
  refine Bod.ic 0 (by decide) dc_380_44 ?_
  refine Bod.go dc_380_45 rfl ?_
  refine Bod.ist dc_380_49 (by rw [ml_380]; exact Nat.le_of_ble_eq_true rfl) ?_
  refine Bod.go dc_380_51 rfl ?_
  refine Bod.ifT dc_380_52 rfl (k1_ne_T (k_ne 8 0 rfl rfl (by omega) (by omega) (by omega))) ?_
  refine Bod.go dc_380_62 rfl ?_
  refine Bod.go dc_380_63 rfl ?_
  refine Bod.icF dc_380_65 rfl (k2_eq_F (k_ne nn 0 rfl rfl (by omega) (by omega) (by omega))) ?_
  refine Bod.go dc_380_68 rfl ?_
  refine Bod.ic 2 (by decide) dc_380_69 ?_
  refine Bod.virt (r := []) dc_380_70 kr_380_608 ⟨Or.inl rfl, ow_351, cl_14⟩ (by rw [np_351]; rfl) (by rw [np_351]; rfl) (ob_of (mk_61 _)) (Nat.le_of_ble_eq_true rfl) (c1  ) ?_
  show Bod _ _ _ _ [_] _ _ _
  exact Bod.retZ dc_380_73 rt_380 (Or.inl rfl)
theorem rBt9_1 {d : Nat} {S : cS} {ba : Nat} {nn : Nat} {S1 : cS} {a : Nat} {S2 : cS} (mba : ba < 2 ^ 20) (mnn : nn < 2 ^ 20) (b1 : nn = 0) (ma : a < 2 ^ 20) (c1 : Ans (d + 8) 393 [.ref 61] S (some (.int (nI a))) S1) (c2 : Ans (d + 8) 353 [.ref 61, .long ((nI a).toInt64)] (wI 6151 (nI ba) S1) none S2) : Bod (d + 8) 380 0 [(0, .ref 61), (1, .int (nI 9)), (2, .int (nI ba)), (3, .int (nI nn))] [] S (some (.int 1)) (S2) := by
  refine Bod.go dc_380_0 rfl ?_
  refine Bod.ic 1 (by decide) dc_380_1 ?_
  refine Bod.addN (ba + 1) (by omega) dc_380_2 ?_
  refine Bod.ist dc_380_3 (by rw [ml_380]; exact Nat.le_of_ble_eq_true rfl) ?_
  refine Bod.go dc_380_5 rfl ?_
  refine Bod.ic 2 (by decide) dc_380_6 ?_
  refine Bod.icT dc_380_7 rfl (k2_ne_T (k_ne 9 2 rfl rfl (by omega) (by omega) (by omega))) ?_
  refine Bod.go dc_380_23 rfl ?_
  refine Bod.ic 3 (by decide) dc_380_24 ?_
  refine Bod.icT dc_380_25 rfl (k2_ne_T (k_ne 9 3 rfl rfl (by omega) (by omega) (by omega))) ?_
  refine Bod.go dc_380_32 rfl ?_
  refine Bod.bip 8 (by decide) dc_380_33 ?_
  refine Bod.icF dc_380_35 rfl (k2_eq_F (k_ne 9 8 rfl rfl (by omega) (by omega) (by omega))) ?_
  refine Bod.go dc_380_38 rfl ?_
  refine Bod.bip 9 (by decide) dc_380_39 ?_
  refine Bod.icF dc_380_41 rfl (k2_ne_F (k_eq 9 9 rfl rfl (by omega))) ?_
  refine Bod.ic 0 (by decide) dc_380_44 ?_
  refine Bod.go dc_380_45 rfl ?_
  refine Bod.ist dc_380_49 (by rw [ml_380]; exact Nat.le_of_ble_eq_true rfl) ?_
  refine Bod.go dc_380_51 rfl ?_
  refine Bod.ifT dc_380_52 rfl (k1_ne_T (k_ne 9 0 rfl rfl (by omega) (by omega) (by omega))) ?_
  refine Bod.go dc_380_62 rfl ?_
  refine Bod.go dc_380_63 rfl ?_
  refine Bod.icT dc_380_65 rfl (k2_eq_T (k_eq nn 0 rfl rfl (by omega))) ?_
  refine Bod.go dc_380_74 rfl ?_
  refine Bod.lst dc_380_75 (by rw [ml_380]; exact Nat.le_of_ble_eq_true rfl) ?_
  refine Bod.go dc_380_77 rfl ?_
  refine Bod.sw (t := 547) dc_380_78 rfl rfl (by decide +kernel) ?_
  refine Bod.go dc_380_547 rfl ?_
  refine Bod.virt (r := []) dc_380_548 kr_380_801 ⟨Or.inl rfl, ow_393, cl_14⟩ (by rw [np_393]; rfl) (by rw [np_393]; rfl) (ob_of (mk_61 _)) (Nat.le_of_ble_eq_true rfl) (c1  ) ?_
  show Bod _ _ _ _ [_] _ _ _
  refine Bod.go dc_380_551 rfl ?_
  refine Bod.lst dc_380_552 (by rw [ml_380]; exact Nat.le_of_ble_eq_true rfl) ?_
  refine Bod.go dc_380_554 rfl ?_
  refine Bod.go dc_380_555 rfl ?_
  refine Bod.put dc_380_556 fr_380_493 (mk_61 _) (Nat.le_of_ble_eq_true rfl) pf_14_51 (st_6151 _ _) (mu_I _ _ _) ?_
  refine Bod.go dc_380_559 rfl ?_
  refine Bod.go dc_380_560 rfl ?_
  refine Bod.virt (r := []) dc_380_562 kr_380_613 ⟨Or.inl rfl, ow_353, cl_14⟩ (by rw [np_353]; rfl) (by rw [np_353]; rfl) (ob_of (mk_61 _)) (Nat.le_of_ble_eq_true rfl) (c2  ) ?_
  show Bod _ _ _ _ [] _ _ _
  refine Bod.ic 1 (by decide) dc_380_565 ?_
  exact Bod.retZ dc_380_566 rt_380 (Or.inr rfl)
theorem rBt9_2 {d : Nat} {S : cS} {ba : Nat} {nn : Nat} {S1 : cS} (mba : ba < 2 ^ 20) (mnn : nn < 2 ^ 20) (b1 : nn ≠ 0) (c1 : Ans (d + 8) 351 [.ref 61, .int (nI 2)] S (some (.int (nI 0))) S1) : Bod (d + 8) 380 0 [(0, .ref 61), (1, .int (nI 9)), (2, .int (nI ba)), (3, .int (nI nn))] [] S (some (.int 0)) (S1) := by
  refine Bod.go dc_380_0 rfl ?_
  refine Bod.ic 1 (by decide) dc_380_1 ?_
  refine Bod.addN (ba + 1) (by omega) dc_380_2 ?_
  refine Bod.ist dc_380_3 (by rw [ml_380]; exact Nat.le_of_ble_eq_true rfl) ?_
  refine Bod.go dc_380_5 rfl ?_
  refine Bod.ic 2 (by decide) dc_380_6 ?_
  refine Bod.icT dc_380_7 rfl (k2_ne_T (k_ne 9 2 rfl rfl (by omega) (by omega) (by omega))) ?_
  refine Bod.go dc_380_23 rfl ?_
  refine Bod.ic 3 (by decide) dc_380_24 ?_
  refine Bod.icT dc_380_25 rfl (k2_ne_T (k_ne 9 3 rfl rfl (by omega) (by omega) (by omega))) ?_
  refine Bod.go dc_380_32 rfl ?_
  refine Bod.bip 8 (by decide) dc_380_33 ?_
  refine Bod.icF dc_380_35 rfl (k2_eq_F (k_ne 9 8 rfl rfl (by omega) (by omega) (by omega))) ?_
  refine Bod.go dc_380_38 rfl ?_
  refine Bod.bip 9 (by decide) dc_380_39 ?_
  refine Bod.icF dc_380_41 rfl (k2_ne_F (k_eq 9 9 rfl rfl (by omega))) ?_
  refine Bod.ic 0 (by decide) dc_380_44 ?_
  refine Bod.go dc_380_45 rfl ?_
  refine Bod.ist dc_380_49 (by rw [ml_380]; exact Nat.le_of_ble_eq_true rfl) ?_
  refine Bod.go dc_380_51 rfl ?_
  refine Bod.ifT dc_380_52 rfl (k1_ne_T (k_ne 9 0 rfl rfl (by omega) (by omega) (by omega))) ?_
  refine Bod.go dc_380_62 rfl ?_
  refine Bod.go dc_380_63 rfl ?_
  refine Bod.icF dc_380_65 rfl (k2_eq_F (k_ne nn 0 rfl rfl (by omega) (by omega) (by omega))) ?_
  refine Bod.go dc_380_68 rfl ?_
  refine Bod.ic 2 (by decide) dc_380_69 ?_
  refine Bod.virt (r := []) dc_380_70 kr_380_608 ⟨Or.inl rfl, ow_351, cl_14⟩ (by rw [np_351]; rfl) (by rw [np_351]; rfl) (ob_of (mk_61 _)) (Nat.le_of_ble_eq_true rfl) (c1  ) ?_
  show Bod _ _ _ _ [_] _ _ _
  exact Bod.retZ dc_380_73 rt_380 (Or.inl rfl)
theorem rBt5L_1 {d : Nat} {S : cS} {lv : sm_L} {r0 : Nat} {zr0 : Nat} {ba : Nat} {l : Nat} {ni : Nat} {fd1 : Nat} {S1 : cS} (q0 : sm_get lv 0 = some (.ref 61)) (q2 : sm_get lv 2 = some (.int (nI ba))) (q9 : sm_get lv 9 = some (.int (nI l))) (q10 : sm_get lv 10 = some (.ref r0)) (q11 : sm_get lv 11 = some (.int (nI ni))) (mba : ba < 2 ^ 20) (ml : l < 2 ^ 20) (mni : ni < 2 ^ 20) (ar0 : 108 ≤ r0) (hz1 : (sS S)[r0 - 108]? = some (13, zr0)) (hfd1 : sI S (100 * r0 + 1) = nI fd1) (mfd1 : fd1 < 2 ^ 20) (b1 : fd1 ≤ ni) (c1 : Ans (d + 8) 352 [.ref 61, .int (nI 3), .long ((nI l).toInt64), .long 0] (wI 6151 (nI ba) S) none S1) : Bod (d + 8) 380 421 lv [] S (some (.int 1)) (S1) := by
  refine Bod.ildG dc_380_421 (by repeat (first | exact q11 | exact sm_get_p1 | exact sm_get_p2e | refine sm_get_p1m (by decide) (by decide) ?_ | refine sm_get_p1n (by decide) rfl ?_ | refine sm_get_p2n (by decide) (by decide) rfl ?_ | refine sm_get_p2m (by decide) (by decide) (by decide) ?_)) ?_
  refine Bod.aldG dc_380_423 (by repeat (first | exact q10 | exact sm_get_p1 | exact sm_get_p2e | refine sm_get_p1m (by decide) (by decide) ?_ | refine sm_get_p1n (by decide) rfl ?_ | refine sm_get_p2n (by decide) (by decide) rfl ?_ | refine sm_get_p2m (by decide) (by decide) (by decide) ?_)) ?_
  refine Bod.get dc_380_425 fr_380_459 (mk_thing ar0 (by first | exact hz1 | (simp only [rIS, rJS, rAS, rLS, rVS, rQS, rS_hold]; exact hz1))) rfl ?_
  refine Bod.eqI (nI fd1) (by first | assumption | rfl | exact congrArg nI (by omega) | (simp (disch := omega) only [rIn, rIe, rA, rIA, rLA, rJA, rVI, rQI, rVA, rQA, upd_at,  rAI, rLI, rJI, nI_add, pk_sub, kc_0, kc_1, kc_2, kc_3, kc_4, kc_5, reduceIte, Nat.reduceEqDiff, Nat.add_zero, rI_hold, rI_hold, rL_hold, hfd1]; done)) ?_
  refine Bod.icT dc_380_428 rfl (k2_ge_T ni fd1 rfl rfl (by omega) (by omega)) ?_
  refine Bod.aldnG dc_380_471 (by repeat (first | exact q0 | exact sm_get_p1 | exact sm_get_p2e | refine sm_get_p1m (by decide) (by decide) ?_ | refine sm_get_p1n (by decide) rfl ?_ | refine sm_get_p2n (by decide) (by decide) rfl ?_ | refine sm_get_p2m (by decide) (by decide) (by decide) ?_)) ?_
  refine Bod.ildnG dc_380_472 (by repeat (first | exact q2 | exact sm_get_p1 | exact sm_get_p2e | refine sm_get_p1m (by decide) (by decide) ?_ | refine sm_get_p1n (by decide) rfl ?_ | refine sm_get_p2n (by decide) (by decide) rfl ?_ | refine sm_get_p2m (by decide) (by decide) (by decide) ?_)) ?_
  refine Bod.put dc_380_473 fr_380_493 (mk_61 _) (Nat.le_of_ble_eq_true rfl) pf_14_51 (st_6151 _ _) (mu_I _ _ _) ?_
  refine Bod.aldnG dc_380_476 (by repeat (first | exact q0 | exact sm_get_p1 | exact sm_get_p2e | refine sm_get_p1m (by decide) (by decide) ?_ | refine sm_get_p1n (by decide) rfl ?_ | refine sm_get_p2n (by decide) (by decide) rfl ?_ | refine sm_get_p2m (by decide) (by decide) (by decide) ?_)) ?_
  refine Bod.ic 3 (by decide) dc_380_477 ?_
  refine Bod.ildG dc_380_478 (by repeat (first | exact q9 | exact sm_get_p1 | exact sm_get_p2e | refine sm_get_p1m (by decide) (by decide) ?_ | refine sm_get_p1n (by decide) rfl ?_ | refine sm_get_p2n (by decide) (by decide) rfl ?_ | refine sm_get_p2m (by decide) (by decide) (by decide) ?_)) ?_
  refine Bod.go dc_380_480 rfl ?_
  refine Bod.go dc_380_481 rfl ?_
  refine Bod.virt (r := []) dc_380_482 kr_380_549 ⟨Or.inl rfl, ow_352, cl_14⟩ (by rw [np_352]; rfl) (by rw [np_352]; rfl) (ob_of (mk_61 _)) (Nat.le_of_ble_eq_true rfl) (c1  ) ?_
  show Bod _ _ _ _ [] _ _ _
  refine Bod.ic 1 (by decide) dc_380_485 ?_
  exact Bod.retZ dc_380_486 rt_380 (Or.inr rfl)
theorem rBt5L_2 {d : Nat} {S Sf : cS} {v : Option Value} {lv : sm_L} {r0 : Nat} {zr0 : Nat} {ba : Nat} {l : Nat} {ni : Nat} {fd1 : Nat} {g : Nat} {zg : Nat} {r : Nat} {N : Nat} {e : Nat} {r1 : Nat} {N1 : Nat} {r2 : Nat} {N2 : Nat} {S1 : cS} (q0 : sm_get lv 0 = some (.ref 61)) (q2 : sm_get lv 2 = some (.int (nI ba))) (q9 : sm_get lv 9 = some (.int (nI l))) (q10 : sm_get lv 10 = some (.ref r0)) (q11 : sm_get lv 11 = some (.int (nI ni))) (mba : ba < 2 ^ 20) (ml : l < 2 ^ 20) (mni : ni < 2 ^ 20) (ar0 : 108 ≤ r0) (hz1 : (sS S)[r0 - 108]? = some (13, zr0)) (hfd1 : sI S (100 * r0 + 1) = nI fd1) (mfd1 : fd1 < 2 ^ 20) (b1 : ni < fd1) (b2 : l < 1500) (ag : 108 ≤ g) (hq3 : sQ S 86 l = some g) (hv1 : sV S (100 * r0 + 3) = .ref r) (hg1 : isK S r 0 N) (mN : N < 2 ^ 20) (b3 : ni < N) (he : sA S r ni = nI e) (me : e < 2 ^ 20) (hv2 : sV S (100 * r0 + 6) = .ref r1) (hg2 : isK S r1 1 N1) (mN1 : N1 < 2 ^ 20) (b4 : ni < N1) (hv3 : sV S (100 * r0 + 7) = .ref r2) (hg3 : isK S r2 1 N2) (mN2 : N2 < 2 ^ 20) (b5 : ni < N2) (c1 : Ans (d + 8) 375 [.ref g, .int (nI e), .long (sL S r1 ni), .long (sL S r2 ni)] S none S1) (hz2 : (sS S)[g - 108]? = some (13, zg)) (hB : ∀ lv1 : sm_L, sm_get lv1 0 = some (.ref 61) → sm_get lv1 2 = some (.int (nI ba)) → sm_get lv1 9 = some (.int (nI l)) → sm_get lv1 10 = some (.ref r0) → sm_get lv1 11 = some (.int (nI (ni + 1))) → Bod (d + 8) 380 421 lv1 [] (S1) v Sf) : Bod (d + 8) 380 421 lv [] S v Sf := by
  refine Bod.ildG dc_380_421 (by repeat (first | exact q11 | exact sm_get_p1 | exact sm_get_p2e | refine sm_get_p1m (by decide) (by decide) ?_ | refine sm_get_p1n (by decide) rfl ?_ | refine sm_get_p2n (by decide) (by decide) rfl ?_ | refine sm_get_p2m (by decide) (by decide) (by decide) ?_)) ?_
  refine Bod.aldG dc_380_423 (by repeat (first | exact q10 | exact sm_get_p1 | exact sm_get_p2e | refine sm_get_p1m (by decide) (by decide) ?_ | refine sm_get_p1n (by decide) rfl ?_ | refine sm_get_p2n (by decide) (by decide) rfl ?_ | refine sm_get_p2m (by decide) (by decide) (by decide) ?_)) ?_
  refine Bod.get dc_380_425 fr_380_459 (mk_thing ar0 (by first | exact hz1 | (simp only [rIS, rJS, rAS, rLS, rVS, rQS, rS_hold]; exact hz1))) rfl ?_
  refine Bod.eqI (nI fd1) (by first | assumption | rfl | exact congrArg nI (by omega) | (simp (disch := omega) only [rIn, rIe, rA, rIA, rLA, rJA, rVI, rQI, rVA, rQA, upd_at,  rAI, rLI, rJI, nI_add, pk_sub, kc_0, kc_1, kc_2, kc_3, kc_4, kc_5, reduceIte, Nat.reduceEqDiff, Nat.add_zero, rI_hold, rI_hold, rL_hold, hfd1]; done)) ?_
  refine Bod.icF dc_380_428 rfl (k2_ge_F ni fd1 rfl rfl (by omega) (by omega)) ?_
  refine Bod.aldnG dc_380_431 (by repeat (first | exact q0 | exact sm_get_p1 | exact sm_get_p2e | refine sm_get_p1m (by decide) (by decide) ?_ | refine sm_get_p1n (by decide) rfl ?_ | refine sm_get_p2n (by decide) (by decide) rfl ?_ | refine sm_get_p2m (by decide) (by decide) (by decide) ?_)) ?_
  refine Bod.get dc_380_432 fr_380_485 (mk_61 _) rfl ?_
  refine Bod.ildG dc_380_435 (by repeat (first | exact q9 | exact sm_get_p1 | exact sm_get_p2e | refine sm_get_p1m (by decide) (by decide) ?_ | refine sm_get_p1n (by decide) rfl ?_ | refine sm_get_p2n (by decide) (by decide) rfl ?_ | refine sm_get_p2m (by decide) (by decide) (by decide) ?_)) ?_
  refine Bod.aaldR (N := 1500) (b := g) l rfl (by omega) (by omega) (by first | exact hq3 | (simp only [rIQ, rJQ, rAQ, rLQ, rVQ, rQ_holdE]; exact hq3)) dc_380_437 (mk_86 _) ht_5 ?_
  refine Bod.aldG dc_380_438 (by repeat (first | exact q10 | exact sm_get_p1 | exact sm_get_p2e | refine sm_get_p1m (by decide) (by decide) ?_ | refine sm_get_p1n (by decide) rfl ?_ | refine sm_get_p2n (by decide) (by decide) rfl ?_ | refine sm_get_p2m (by decide) (by decide) (by decide) ?_)) ?_
  refine Bod.get dc_380_440 fr_380_719 (mk_thing ar0 (by first | exact hz1 | (simp only [rIS, rJS, rAS, rLS, rVS, rQS, rS_hold]; exact hz1))) rfl ?_
  refine Bod.eqV (.ref r) (by first | exact hv1 | (simp only [rIV, rJV, rAV, rLV, rQV, rV, reduceIte, Nat.reduceEqDiff]; exact hv1)) ?_
  refine Bod.ildG dc_380_443 (by repeat (first | exact q11 | exact sm_get_p1 | exact sm_get_p2e | refine sm_get_p1m (by decide) (by decide) ?_ | refine sm_get_p1n (by decide) rfl ?_ | refine sm_get_p2n (by decide) (by decide) rfl ?_ | refine sm_get_p2m (by decide) (by decide) (by decide) ?_)) ?_
  refine Bod.ialdN (N := N) ni rfl (by omega) (by omega) dc_380_445 (mk_isI (by first | exact hg1 | exact isK_S (by simp only [rIS, rJS, rAS, rLS, rVS, rQS, rS_hold]) hg1)) ?_
  refine Bod.eqI (nI e) (by first | assumption | rfl | exact congrArg nI (by omega) | (simp (disch := omega) only [rIn, rIe, rA, rIA, rLA, rJA, rVI, rQI, rVA, rQA, upd_at,  rAI, rLI, rJI, nI_add, pk_sub, kc_0, kc_1, kc_2, kc_3, kc_4, kc_5, reduceIte, Nat.reduceEqDiff, Nat.add_zero, rI_hold, rI_hold, rL_hold, hfd1, he]; done)) ?_
  refine Bod.aldG dc_380_446 (by repeat (first | exact q10 | exact sm_get_p1 | exact sm_get_p2e | refine sm_get_p1m (by decide) (by decide) ?_ | refine sm_get_p1n (by decide) rfl ?_ | refine sm_get_p2n (by decide) (by decide) rfl ?_ | refine sm_get_p2m (by decide) (by decide) (by decide) ?_)) ?_
  refine Bod.get dc_380_448 fr_380_722 (mk_thing ar0 (by first | exact hz1 | (simp only [rIS, rJS, rAS, rLS, rVS, rQS, rS_hold]; exact hz1))) rfl ?_
  refine Bod.eqV (.ref r1) (by first | exact hv2 | (simp only [rIV, rJV, rAV, rLV, rQV, rV, reduceIte, Nat.reduceEqDiff]; exact hv2)) ?_
  refine Bod.ildG dc_380_451 (by repeat (first | exact q11 | exact sm_get_p1 | exact sm_get_p2e | refine sm_get_p1m (by decide) (by decide) ?_ | refine sm_get_p1n (by decide) rfl ?_ | refine sm_get_p2n (by decide) (by decide) rfl ?_ | refine sm_get_p2m (by decide) (by decide) (by decide) ?_)) ?_
  refine Bod.laldN (N := N1) ni rfl (by omega) (by omega) dc_380_453 (mk_isL (by first | exact hg2 | exact isK_S (by simp only [rIS, rJS, rAS, rLS, rVS, rQS, rS_hold]) hg2)) ?_
  refine Bod.aldG dc_380_454 (by repeat (first | exact q10 | exact sm_get_p1 | exact sm_get_p2e | refine sm_get_p1m (by decide) (by decide) ?_ | refine sm_get_p1n (by decide) rfl ?_ | refine sm_get_p2n (by decide) (by decide) rfl ?_ | refine sm_get_p2m (by decide) (by decide) (by decide) ?_)) ?_
  refine Bod.get dc_380_456 fr_380_725 (mk_thing ar0 (by first | exact hz1 | (simp only [rIS, rJS, rAS, rLS, rVS, rQS, rS_hold]; exact hz1))) rfl ?_
  refine Bod.eqV (.ref r2) (by first | exact hv3 | (simp only [rIV, rJV, rAV, rLV, rQV, rV, reduceIte, Nat.reduceEqDiff]; exact hv3)) ?_
  refine Bod.ildG dc_380_459 (by repeat (first | exact q11 | exact sm_get_p1 | exact sm_get_p2e | refine sm_get_p1m (by decide) (by decide) ?_ | refine sm_get_p1n (by decide) rfl ?_ | refine sm_get_p2n (by decide) (by decide) rfl ?_ | refine sm_get_p2m (by decide) (by decide) (by decide) ?_)) ?_
  refine Bod.laldN (N := N2) ni rfl (by omega) (by omega) dc_380_461 (mk_isL (by first | exact hg3 | exact isK_S (by simp only [rIS, rJS, rAS, rLS, rVS, rQS, rS_hold]) hg3)) ?_
  refine Bod.virt (r := []) dc_380_462 kr_380_759 ⟨Or.inl rfl, ow_375, cl_13⟩ (by rw [np_375]; rfl) (by rw [np_375]; rfl) (ob_of (mk_thing ag (by first | exact hz2 | (simp only [rIS, rJS, rAS, rLS, rVS, rQS, rS_hold]; exact hz2)))) (Nat.le_of_ble_eq_true rfl) (c1  ) ?_
  show Bod _ _ _ _ [] _ _ _
  refine Bod.incN (ni + 1) (by rw [kc_1, nI_add]) dc_380_465 (by rw [ml_380]; exact Nat.le_of_ble_eq_true rfl) (by repeat (first | exact q11 | exact sm_get_p1 | exact sm_get_p2e | refine sm_get_p1m (by decide) (by decide) ?_ | refine sm_get_p1n (by decide) rfl ?_ | refine sm_get_p2n (by decide) (by decide) rfl ?_ | refine sm_get_p2m (by decide) (by decide) (by decide) ?_)) ?_
  refine Bod.go dc_380_468 rfl ?_
  exact hB _ (by repeat (first | exact q0 | exact sm_get_p1 | exact sm_get_p2e | refine sm_get_p1m (by decide) (by decide) ?_ | refine sm_get_p1n (by decide) rfl ?_ | refine sm_get_p2n (by decide) (by decide) rfl ?_ | refine sm_get_p2m (by decide) (by decide) (by decide) ?_)) (by repeat (first | exact q2 | exact sm_get_p1 | exact sm_get_p2e | refine sm_get_p1m (by decide) (by decide) ?_ | refine sm_get_p1n (by decide) rfl ?_ | refine sm_get_p2n (by decide) (by decide) rfl ?_ | refine sm_get_p2m (by decide) (by decide) (by decide) ?_)) (by repeat (first | exact q9 | exact sm_get_p1 | exact sm_get_p2e | refine sm_get_p1m (by decide) (by decide) ?_ | refine sm_get_p1n (by decide) rfl ?_ | refine sm_get_p2n (by decide) (by decide) rfl ?_ | refine sm_get_p2m (by decide) (by decide) (by decide) ?_)) (by repeat (first | exact q10 | exact sm_get_p1 | exact sm_get_p2e | refine sm_get_p1m (by decide) (by decide) ?_ | refine sm_get_p1n (by decide) rfl ?_ | refine sm_get_p2n (by decide) (by decide) rfl ?_ | refine sm_get_p2m (by decide) (by decide) (by decide) ?_)) (by repeat (first | exact q0 | exact sm_get_p1 | exact sm_get_p2e | refine sm_get_p1m (by decide) (by decide) ?_ | refine sm_get_p1n (by decide) rfl ?_ | refine sm_get_p2n (by decide) (by decide) rfl ?_ | refine sm_get_p2m (by decide) (by decide) (by decide) ?_))
