/-! WAYS of the reference's machine: every call is a hypothesis -/
theorem dc_414_66 : decode (sm_cc 414) 66 = .ok (.iload 4, 2) := by decide +kernel
theorem dc_414_68 : decode (sm_cc 414) 68 = .ok (.aload_n 0, 1) := by decide +kernel
theorem dc_414_69 : decode (sm_cc 414) 69 = .ok (.getfield 493, 3) := by decide +kernel
theorem dc_414_72 : decode (sm_cc 414) 72 = .ok (.if_icmp .ge (128), 3) := by decide +kernel
theorem dc_414_75 : decode (sm_cc 414) 75 = .ok (.aload_n 0, 1) := by decide +kernel
theorem dc_414_76 : decode (sm_cc 414) 76 = .ok (.getfield 496, 3) := by decide +kernel
theorem fr_414_496 : sm_at mt_f (sm_ow 414) 496 = some (496, 14, 48, 0, 2121) := by decide +kernel
theorem dc_414_79 : decode (sm_cc 414) 79 = .ok (.iload 4, 2) := by decide +kernel
theorem dc_414_81 : decode (sm_cc 414) 81 = .ok (.iaload, 1) := by decide +kernel
theorem dc_414_82 : decode (sm_cc 414) 82 = .ok (.iconst 1, 1) := by decide +kernel
theorem dc_414_83 : decode (sm_cc 414) 83 = .ok (.if_icmp .ne (7), 3) := by decide +kernel
theorem dc_414_90 : decode (sm_cc 414) 90 = .ok (.aload_n 0, 1) := by decide +kernel
theorem dc_414_91 : decode (sm_cc 414) 91 = .ok (.getfield 546, 3) := by decide +kernel
theorem fr_414_546 : sm_at mt_f (sm_ow 414) 546 = some (546, 14, 50, 0, 2123) := by decide +kernel
theorem dc_414_94 : decode (sm_cc 414) 94 = .ok (.iload 4, 2) := by decide +kernel
theorem dc_414_96 : decode (sm_cc 414) 96 = .ok (.laload, 1) := by decide +kernel
theorem dc_414_97 : decode (sm_cc 414) 97 = .ok (.lstore 5, 2) := by decide +kernel
theorem dc_414_99 : decode (sm_cc 414) 99 = .ok (.aload_n 3, 1) := by decide +kernel
theorem dc_414_100 : decode (sm_cc 414) 100 = .ok (.aload_n 0, 1) := by decide +kernel
theorem dc_414_101 : decode (sm_cc 414) 101 = .ok (.getfield 496, 3) := by decide +kernel
theorem dc_414_104 : decode (sm_cc 414) 104 = .ok (.iload 4, 2) := by decide +kernel
theorem dc_414_106 : decode (sm_cc 414) 106 = .ok (.iaload, 1) := by decide +kernel
theorem dc_414_107 : decode (sm_cc 414) 107 = .ok (.aload_n 0, 1) := by decide +kernel
theorem dc_414_108 : decode (sm_cc 414) 108 = .ok (.getfield 499, 3) := by decide +kernel
theorem fr_414_499 : sm_at mt_f (sm_ow 414) 499 = some (499, 14, 49, 0, 2122) := by decide +kernel
theorem dc_414_111 : decode (sm_cc 414) 111 = .ok (.iload 4, 2) := by decide +kernel
theorem dc_414_113 : decode (sm_cc 414) 113 = .ok (.laload, 1) := by decide +kernel
theorem dc_414_114 : decode (sm_cc 414) 114 = .ok (.lload 5, 2) := by decide +kernel
theorem dc_414_116 : decode (sm_cc 414) 116 = .ok (.invokevirtual 764, 3) := by decide +kernel
theorem kr_414_764 : sm_at mt_k (sm_ow 414) 764 = some (764, 0, 399, 0, 2924) := by decide +kernel
theorem dc_414_119 : decode (sm_cc 414) 119 = .ok (.istore 7, 2) := by decide +kernel
theorem dc_414_121 : decode (sm_cc 414) 121 = .ok (.iload 7, 2) := by decide +kernel
theorem dc_414_123 : decode (sm_cc 414) 123 = .ok (.ifCond .ge (38), 3) := by decide +kernel
theorem dc_414_161 : decode (sm_cc 414) 161 = .ok (.aload_n 3, 1) := by decide +kernel
theorem dc_414_162 : decode (sm_cc 414) 162 = .ok (.iload 7, 2) := by decide +kernel
theorem dc_414_164 : decode (sm_cc 414) 164 = .ok (.aload_n 0, 1) := by decide +kernel
theorem dc_414_165 : decode (sm_cc 414) 165 = .ok (.getfield 496, 3) := by decide +kernel
theorem dc_414_168 : decode (sm_cc 414) 168 = .ok (.iload 4, 2) := by decide +kernel
theorem dc_414_170 : decode (sm_cc 414) 170 = .ok (.iconst 1, 1) := by decide +kernel
theorem dc_414_171 : decode (sm_cc 414) 171 = .ok (.iadd, 1) := by decide +kernel
theorem dc_414_172 : decode (sm_cc 414) 172 = .ok (.iaload, 1) := by decide +kernel
theorem dc_414_173 : decode (sm_cc 414) 173 = .ok (.aload_n 0, 1) := by decide +kernel
theorem dc_414_174 : decode (sm_cc 414) 174 = .ok (.getfield 499, 3) := by decide +kernel
theorem dc_414_177 : decode (sm_cc 414) 177 = .ok (.iload 4, 2) := by decide +kernel
theorem dc_414_179 : decode (sm_cc 414) 179 = .ok (.iconst 1, 1) := by decide +kernel
theorem dc_414_180 : decode (sm_cc 414) 180 = .ok (.iadd, 1) := by decide +kernel
theorem dc_414_181 : decode (sm_cc 414) 181 = .ok (.laload, 1) := by decide +kernel
theorem dc_414_182 : decode (sm_cc 414) 182 = .ok (.aload_n 0, 1) := by decide +kernel
theorem dc_414_183 : decode (sm_cc 414) 183 = .ok (.getfield 546, 3) := by decide +kernel
theorem dc_414_186 : decode (sm_cc 414) 186 = .ok (.iload 4, 2) := by decide +kernel
theorem dc_414_188 : decode (sm_cc 414) 188 = .ok (.iconst 1, 1) := by decide +kernel
theorem dc_414_189 : decode (sm_cc 414) 189 = .ok (.iadd, 1) := by decide +kernel
theorem dc_414_190 : decode (sm_cc 414) 190 = .ok (.laload, 1) := by decide +kernel
theorem dc_414_191 : decode (sm_cc 414) 191 = .ok (.invokevirtual 699, 3) := by decide +kernel
theorem kr_414_699 : sm_at mt_k (sm_ow 414) 699 = some (699, 0, 358, 0, 2702) := by decide +kernel
theorem dc_414_194 : decode (sm_cc 414) 194 = .ok (.iinc 4 (2), 3) := by decide +kernel
theorem dc_414_197 : decode (sm_cc 414) 197 = .ok (.goto (-131), 3) := by decide +kernel
theorem dc_414_126 : decode (sm_cc 414) 126 = .ok (.aload_n 3, 1) := by decide +kernel
theorem dc_414_127 : decode (sm_cc 414) 127 = .ok (.getfield 459, 3) := by decide +kernel
theorem fr_414_459 : sm_at mt_f (sm_ow 414) 459 = some (459, 13, 1, 0, 2772) := by decide +kernel
theorem dc_414_130 : decode (sm_cc 414) 130 = .ok (.istore 7, 2) := by decide +kernel
theorem dc_414_132 : decode (sm_cc 414) 132 = .ok (.aload_n 3, 1) := by decide +kernel
theorem dc_414_133 : decode (sm_cc 414) 133 = .ok (.iconst 0, 1) := by decide +kernel
theorem dc_414_134 : decode (sm_cc 414) 134 = .ok (.lconst 0, 1) := by decide +kernel
theorem dc_414_135 : decode (sm_cc 414) 135 = .ok (.lconst 0, 1) := by decide +kernel
theorem dc_414_136 : decode (sm_cc 414) 136 = .ok (.invokevirtual 759, 3) := by decide +kernel
theorem kr_414_759 : sm_at mt_k (sm_ow 414) 759 = some (759, 0, 375, 0, 2817) := by decide +kernel
theorem dc_414_139 : decode (sm_cc 414) 139 = .ok (.aload_n 3, 1) := by decide +kernel
theorem dc_414_140 : decode (sm_cc 414) 140 = .ok (.iload 7, 2) := by decide +kernel
theorem dc_414_142 : decode (sm_cc 414) 142 = .ok (.aload_n 0, 1) := by decide +kernel
theorem dc_414_143 : decode (sm_cc 414) 143 = .ok (.getfield 496, 3) := by decide +kernel
theorem dc_414_146 : decode (sm_cc 414) 146 = .ok (.iload 4, 2) := by decide +kernel
theorem dc_414_148 : decode (sm_cc 414) 148 = .ok (.iaload, 1) := by decide +kernel
theorem dc_414_149 : decode (sm_cc 414) 149 = .ok (.aload_n 0, 1) := by decide +kernel
theorem dc_414_150 : decode (sm_cc 414) 150 = .ok (.getfield 499, 3) := by decide +kernel
theorem dc_414_153 : decode (sm_cc 414) 153 = .ok (.iload 4, 2) := by decide +kernel
theorem dc_414_155 : decode (sm_cc 414) 155 = .ok (.laload, 1) := by decide +kernel
theorem dc_414_156 : decode (sm_cc 414) 156 = .ok (.lload 5, 2) := by decide +kernel
theorem dc_414_158 : decode (sm_cc 414) 158 = .ok (.invokevirtual 771, 3) := by decide +kernel
theorem kr_414_771 : sm_at mt_k (sm_ow 414) 771 = some (771, 0, 377, 0, 2828) := by decide +kernel
theorem dc_414_86 : decode (sm_cc 414) 86 = .ok (.lconst 0, 1) := by decide +kernel
theorem dc_414_87 : decode (sm_cc 414) 87 = .ok (.goto (10), 3) := by decide +kernel
theorem dc_401_196 : decode (sm_cc 401) 196 = .ok (.iload 6, 2) := by decide +kernel
theorem dc_401_198 : decode (sm_cc 401) 198 = .ok (.aload 5, 2) := by decide +kernel
theorem dc_401_200 : decode (sm_cc 401) 200 = .ok (.getfield 459, 3) := by decide +kernel
theorem fr_401_459 : sm_at mt_f (sm_ow 401) 459 = some (459, 13, 1, 0, 2772) := by decide +kernel
theorem dc_401_203 : decode (sm_cc 401) 203 = .ok (.if_icmp .ge (84), 3) := by decide +kernel
theorem dc_401_287 : decode (sm_cc 401) 287 = .ok (.goto (133), 3) := by decide +kernel
theorem dc_401_206 : decode (sm_cc 401) 206 = .ok (.iload 4, 2) := by decide +kernel
theorem dc_401_208 : decode (sm_cc 401) 208 = .ok (.aload 5, 2) := by decide +kernel
theorem dc_401_210 : decode (sm_cc 401) 210 = .ok (.getfield 531, 3) := by decide +kernel
theorem dc_401_213 : decode (sm_cc 401) 213 = .ok (.iconst 1, 1) := by decide +kernel
theorem dc_401_214 : decode (sm_cc 401) 214 = .ok (.if_icmp .ne (35), 3) := by decide +kernel
theorem dc_401_249 : decode (sm_cc 401) 249 = .ok (.aload_n 0, 1) := by decide +kernel
theorem dc_401_250 : decode (sm_cc 401) 250 = .ok (.iload_n 2, 1) := by decide +kernel
theorem dc_401_251 : decode (sm_cc 401) 251 = .ok (.aload 5, 2) := by decide +kernel
theorem dc_401_253 : decode (sm_cc 401) 253 = .ok (.getfield 719, 3) := by decide +kernel
theorem fr_401_719 : sm_at mt_f (sm_ow 401) 719 = some (719, 13, 3, 0, 2776) := by decide +kernel
theorem dc_401_256 : decode (sm_cc 401) 256 = .ok (.iload 6, 2) := by decide +kernel
theorem dc_401_258 : decode (sm_cc 401) 258 = .ok (.iaload, 1) := by decide +kernel
theorem dc_401_259 : decode (sm_cc 401) 259 = .ok (.aload 5, 2) := by decide +kernel
theorem dc_401_261 : decode (sm_cc 401) 261 = .ok (.getfield 722, 3) := by decide +kernel
theorem fr_401_722 : sm_at mt_f (sm_ow 401) 722 = some (722, 13, 6, 0, 2782) := by decide +kernel
theorem dc_401_264 : decode (sm_cc 401) 264 = .ok (.iload 6, 2) := by decide +kernel
theorem dc_401_266 : decode (sm_cc 401) 266 = .ok (.laload, 1) := by decide +kernel
theorem dc_401_267 : decode (sm_cc 401) 267 = .ok (.aload 5, 2) := by decide +kernel
theorem dc_401_269 : decode (sm_cc 401) 269 = .ok (.getfield 725, 3) := by decide +kernel
theorem fr_401_725 : sm_at mt_f (sm_ow 401) 725 = some (725, 13, 7, 0, 2784) := by decide +kernel
theorem dc_401_272 : decode (sm_cc 401) 272 = .ok (.iload 6, 2) := by decide +kernel
theorem dc_401_274 : decode (sm_cc 401) 274 = .ok (.laload, 1) := by decide +kernel
theorem dc_401_275 : decode (sm_cc 401) 275 = .ok (.invokevirtual 712, 3) := by decide +kernel
theorem dc_401_278 : decode (sm_cc 401) 278 = .ok (.ior, 1) := by decide +kernel
theorem dc_401_279 : decode (sm_cc 401) 279 = .ok (.istore 4, 2) := by decide +kernel
theorem dc_401_281 : decode (sm_cc 401) 281 = .ok (.iinc 6 (1), 3) := by decide +kernel
theorem dc_401_284 : decode (sm_cc 401) 284 = .ok (.goto (-88), 3) := by decide +kernel
theorem dc_401_217 : decode (sm_cc 401) 217 = .ok (.aload_n 0, 1) := by decide +kernel
theorem dc_401_218 : decode (sm_cc 401) 218 = .ok (.iload_n 2, 1) := by decide +kernel
theorem dc_401_219 : decode (sm_cc 401) 219 = .ok (.aload 5, 2) := by decide +kernel
theorem dc_401_221 : decode (sm_cc 401) 221 = .ok (.getfield 462, 3) := by decide +kernel
theorem fr_401_462 : sm_at mt_f (sm_ow 401) 462 = some (462, 13, 2, 0, 2774) := by decide +kernel
theorem dc_401_224 : decode (sm_cc 401) 224 = .ok (.iload 6, 2) := by decide +kernel
theorem dc_401_226 : decode (sm_cc 401) 226 = .ok (.iaload, 1) := by decide +kernel
theorem dc_401_227 : decode (sm_cc 401) 227 = .ok (.aload 5, 2) := by decide +kernel
theorem dc_401_229 : decode (sm_cc 401) 229 = .ok (.getfield 465, 3) := by decide +kernel
theorem fr_401_465 : sm_at mt_f (sm_ow 401) 465 = some (465, 13, 4, 0, 2778) := by decide +kernel
theorem dc_401_232 : decode (sm_cc 401) 232 = .ok (.iload 6, 2) := by decide +kernel
theorem dc_401_234 : decode (sm_cc 401) 234 = .ok (.laload, 1) := by decide +kernel
theorem dc_401_235 : decode (sm_cc 401) 235 = .ok (.aload 5, 2) := by decide +kernel
theorem dc_401_237 : decode (sm_cc 401) 237 = .ok (.getfield 627, 3) := by decide +kernel
theorem fr_401_627 : sm_at mt_f (sm_ow 401) 627 = some (627, 13, 5, 0, 2780) := by decide +kernel
theorem dc_401_240 : decode (sm_cc 401) 240 = .ok (.iload 6, 2) := by decide +kernel
theorem dc_401_242 : decode (sm_cc 401) 242 = .ok (.laload, 1) := by decide +kernel
theorem dc_401_243 : decode (sm_cc 401) 243 = .ok (.invokevirtual 712, 3) := by decide +kernel
theorem dc_401_246 : decode (sm_cc 401) 246 = .ok (.goto (32), 3) := by decide +kernel
theorem ml_407 : sm_ml 407 = 7 := by decide +kernel
theorem dc_407_0 : decode (sm_cc 407) 0 = .ok (.aload_n 0, 1) := by decide +kernel
theorem dc_407_1 : decode (sm_cc 407) 1 = .ok (.iload_n 1, 1) := by decide +kernel
theorem dc_407_2 : decode (sm_cc 407) 2 = .ok (.invokevirtual 554, 3) := by decide +kernel
theorem kr_407_554 : sm_at mt_k (sm_ow 407) 554 = some (554, 0, 361, 0, 2714) := by decide +kernel
theorem dc_407_5 : decode (sm_cc 407) 5 = .ok (.astore_n 3, 1) := by decide +kernel
theorem dc_407_6 : decode (sm_cc 407) 6 = .ok (.aload_n 0, 1) := by decide +kernel
theorem dc_407_7 : decode (sm_cc 407) 7 = .ok (.iload_n 2, 1) := by decide +kernel
theorem dc_407_8 : decode (sm_cc 407) 8 = .ok (.invokevirtual 554, 3) := by decide +kernel
theorem dc_407_11 : decode (sm_cc 407) 11 = .ok (.astore 4, 2) := by decide +kernel
theorem dc_407_13 : decode (sm_cc 407) 13 = .ok (.aload_n 3, 1) := by decide +kernel
theorem dc_407_14 : decode (sm_cc 407) 14 = .ok (.getfield 459, 3) := by decide +kernel
theorem fr_407_459 : sm_at mt_f (sm_ow 407) 459 = some (459, 13, 1, 0, 2772) := by decide +kernel
theorem dc_407_17 : decode (sm_cc 407) 17 = .ok (.aload 4, 2) := by decide +kernel
theorem dc_407_19 : decode (sm_cc 407) 19 = .ok (.getfield 459, 3) := by decide +kernel
theorem dc_407_22 : decode (sm_cc 407) 22 = .ok (.iadd, 1) := by decide +kernel
theorem dc_407_23 : decode (sm_cc 407) 23 = .ok (.sipush (300), 3) := by decide +kernel
theorem dc_407_26 : decode (sm_cc 407) 26 = .ok (.if_icmp .le (10), 3) := by decide +kernel
theorem dc_407_36 : decode (sm_cc 407) 36 = .ok (.aload_n 0, 1) := by decide +kernel
theorem dc_407_37 : decode (sm_cc 407) 37 = .ok (.iconst 1, 1) := by decide +kernel
theorem dc_407_38 : decode (sm_cc 407) 38 = .ok (.invokevirtual 686, 3) := by decide +kernel
theorem kr_407_686 : sm_at mt_k (sm_ow 407) 686 = some (686, 0, 364, 0, 2726) := by decide +kernel
theorem dc_407_41 : decode (sm_cc 407) 41 = .ok (.istore 5, 2) := by decide +kernel
theorem dc_407_43 : decode (sm_cc 407) 43 = .ok (.iload 5, 2) := by decide +kernel
theorem dc_407_45 : decode (sm_cc 407) 45 = .ok (.ifCond .ge (5), 3) := by decide +kernel
theorem dc_407_50 : decode (sm_cc 407) 50 = .ok (.iconst 0, 1) := by decide +kernel
theorem dc_407_51 : decode (sm_cc 407) 51 = .ok (.istore 6, 2) := by decide +kernel
theorem dc_407_48 : decode (sm_cc 407) 48 = .ok (.iconst 0, 1) := by decide +kernel
theorem dc_407_49 : decode (sm_cc 407) 49 = .ok (.ireturn, 1) := by decide +kernel
theorem rt_407 : sm_rt 407 = some .boolean := by decide +kernel
theorem dc_407_29 : decode (sm_cc 407) 29 = .ok (.aload_n 0, 1) := by decide +kernel
theorem dc_407_30 : decode (sm_cc 407) 30 = .ok (.bipush (8), 2) := by decide +kernel
theorem dc_407_32 : decode (sm_cc 407) 32 = .ok (.invokevirtual 608, 3) := by decide +kernel
theorem kr_407_608 : sm_at mt_k (sm_ow 407) 608 = some (608, 0, 351, 0, 2664) := by decide +kernel
theorem dc_407_35 : decode (sm_cc 407) 35 = .ok (.ireturn, 1) := by decide +kernel
theorem dc_407_53 : decode (sm_cc 407) 53 = .ok (.iload 6, 2) := by decide +kernel
theorem dc_407_55 : decode (sm_cc 407) 55 = .ok (.aload_n 3, 1) := by decide +kernel
theorem dc_407_56 : decode (sm_cc 407) 56 = .ok (.getfield 459, 3) := by decide +kernel
theorem dc_407_59 : decode (sm_cc 407) 59 = .ok (.if_icmp .ge (40), 3) := by decide +kernel
theorem dc_407_99 : decode (sm_cc 407) 99 = .ok (.iconst 0, 1) := by decide +kernel
theorem dc_407_100 : decode (sm_cc 407) 100 = .ok (.istore 6, 2) := by decide +kernel
theorem dc_407_62 : decode (sm_cc 407) 62 = .ok (.aload_n 0, 1) := by decide +kernel
theorem dc_407_63 : decode (sm_cc 407) 63 = .ok (.getfield 485, 3) := by decide +kernel
theorem fr_407_485 : sm_at mt_f (sm_ow 407) 485 = some (485, 14, 42, 0, 2115) := by decide +kernel
theorem dc_407_66 : decode (sm_cc 407) 66 = .ok (.iload 5, 2) := by decide +kernel
theorem dc_407_68 : decode (sm_cc 407) 68 = .ok (.aaload, 1) := by decide +kernel
theorem dc_407_69 : decode (sm_cc 407) 69 = .ok (.aload_n 3, 1) := by decide +kernel
theorem dc_407_70 : decode (sm_cc 407) 70 = .ok (.getfield 462, 3) := by decide +kernel
theorem fr_407_462 : sm_at mt_f (sm_ow 407) 462 = some (462, 13, 2, 0, 2774) := by decide +kernel
theorem dc_407_73 : decode (sm_cc 407) 73 = .ok (.iload 6, 2) := by decide +kernel
theorem dc_407_75 : decode (sm_cc 407) 75 = .ok (.iaload, 1) := by decide +kernel
theorem dc_407_76 : decode (sm_cc 407) 76 = .ok (.aload_n 3, 1) := by decide +kernel
theorem dc_407_77 : decode (sm_cc 407) 77 = .ok (.getfield 465, 3) := by decide +kernel
theorem fr_407_465 : sm_at mt_f (sm_ow 407) 465 = some (465, 13, 4, 0, 2778) := by decide +kernel
theorem dc_407_80 : decode (sm_cc 407) 80 = .ok (.iload 6, 2) := by decide +kernel
theorem dc_407_82 : decode (sm_cc 407) 82 = .ok (.laload, 1) := by decide +kernel
theorem dc_407_83 : decode (sm_cc 407) 83 = .ok (.aload_n 3, 1) := by decide +kernel
theorem dc_407_84 : decode (sm_cc 407) 84 = .ok (.getfield 627, 3) := by decide +kernel
theorem fr_407_627 : sm_at mt_f (sm_ow 407) 627 = some (627, 13, 5, 0, 2780) := by decide +kernel
theorem dc_407_87 : decode (sm_cc 407) 87 = .ok (.iload 6, 2) := by decide +kernel
theorem dc_407_89 : decode (sm_cc 407) 89 = .ok (.laload, 1) := by decide +kernel
theorem dc_407_90 : decode (sm_cc 407) 90 = .ok (.invokevirtual 759, 3) := by decide +kernel
theorem kr_407_759 : sm_at mt_k (sm_ow 407) 759 = some (759, 0, 375, 0, 2817) := by decide +kernel
theorem dc_407_93 : decode (sm_cc 407) 93 = .ok (.iinc 6 (1), 3) := by decide +kernel
theorem dc_407_96 : decode (sm_cc 407) 96 = .ok (.goto (-43), 3) := by decide +kernel
theorem dc_407_102 : decode (sm_cc 407) 102 = .ok (.iload 6, 2) := by decide +kernel
theorem dc_407_104 : decode (sm_cc 407) 104 = .ok (.aload 4, 2) := by decide +kernel
theorem dc_407_106 : decode (sm_cc 407) 106 = .ok (.getfield 459, 3) := by decide +kernel
theorem dc_407_109 : decode (sm_cc 407) 109 = .ok (.if_icmp .ge (43), 3) := by decide +kernel
theorem dc_407_152 : decode (sm_cc 407) 152 = .ok (.aload_n 0, 1) := by decide +kernel
theorem dc_407_153 : decode (sm_cc 407) 153 = .ok (.dup, 1) := by decide +kernel
theorem dc_407_154 : decode (sm_cc 407) 154 = .ok (.getfield 493, 3) := by decide +kernel
theorem fr_407_493 : sm_at mt_f (sm_ow 407) 493 = some (493, 14, 51, 0, 2124) := by decide +kernel
theorem dc_407_157 : decode (sm_cc 407) 157 = .ok (.iconst 2, 1) := by decide +kernel
theorem dc_407_158 : decode (sm_cc 407) 158 = .ok (.isub, 1) := by decide +kernel
theorem dc_407_159 : decode (sm_cc 407) 159 = .ok (.putfield 493, 3) := by decide +kernel
theorem dc_407_162 : decode (sm_cc 407) 162 = .ok (.aload_n 0, 1) := by decide +kernel
theorem dc_407_163 : decode (sm_cc 407) 163 = .ok (.iconst 3, 1) := by decide +kernel
theorem dc_407_164 : decode (sm_cc 407) 164 = .ok (.iload 5, 2) := by decide +kernel
theorem dc_407_166 : decode (sm_cc 407) 166 = .ok (.i2l, 1) := by decide +kernel
theorem dc_407_167 : decode (sm_cc 407) 167 = .ok (.lconst 0, 1) := by decide +kernel
theorem dc_407_168 : decode (sm_cc 407) 168 = .ok (.invokevirtual 549, 3) := by decide +kernel
theorem kr_407_549 : sm_at mt_k (sm_ow 407) 549 = some (549, 0, 352, 0, 2668) := by decide +kernel
theorem dc_407_171 : decode (sm_cc 407) 171 = .ok (.iconst 1, 1) := by decide +kernel
theorem dc_407_172 : decode (sm_cc 407) 172 = .ok (.ireturn, 1) := by decide +kernel
theorem dc_407_112 : decode (sm_cc 407) 112 = .ok (.aload_n 0, 1) := by decide +kernel
theorem dc_407_113 : decode (sm_cc 407) 113 = .ok (.getfield 485, 3) := by decide +kernel
theorem dc_407_116 : decode (sm_cc 407) 116 = .ok (.iload 5, 2) := by decide +kernel
theorem dc_407_118 : decode (sm_cc 407) 118 = .ok (.aaload, 1) := by decide +kernel
theorem dc_407_119 : decode (sm_cc 407) 119 = .ok (.aload 4, 2) := by decide +kernel
theorem dc_407_121 : decode (sm_cc 407) 121 = .ok (.getfield 462, 3) := by decide +kernel
theorem dc_407_124 : decode (sm_cc 407) 124 = .ok (.iload 6, 2) := by decide +kernel
theorem dc_407_126 : decode (sm_cc 407) 126 = .ok (.iaload, 1) := by decide +kernel
theorem dc_407_127 : decode (sm_cc 407) 127 = .ok (.aload 4, 2) := by decide +kernel
theorem dc_407_129 : decode (sm_cc 407) 129 = .ok (.getfield 465, 3) := by decide +kernel
theorem dc_407_132 : decode (sm_cc 407) 132 = .ok (.iload 6, 2) := by decide +kernel
theorem dc_407_134 : decode (sm_cc 407) 134 = .ok (.laload, 1) := by decide +kernel
theorem dc_407_135 : decode (sm_cc 407) 135 = .ok (.aload 4, 2) := by decide +kernel
theorem dc_407_137 : decode (sm_cc 407) 137 = .ok (.getfield 627, 3) := by decide +kernel
theorem dc_407_140 : decode (sm_cc 407) 140 = .ok (.iload 6, 2) := by decide +kernel
theorem dc_407_142 : decode (sm_cc 407) 142 = .ok (.laload, 1) := by decide +kernel
theorem dc_407_143 : decode (sm_cc 407) 143 = .ok (.invokevirtual 759, 3) := by decide +kernel
theorem dc_407_146 : decode (sm_cc 407) 146 = .ok (.iinc 6 (1), 3) := by decide +kernel
theorem dc_407_149 : decode (sm_cc 407) 149 = .ok (.goto (-47), 3) := by decide +kernel
theorem ml_406 : sm_ml 406 = 6 := by decide +kernel
theorem dc_406_0 : decode (sm_cc 406) 0 = .ok (.aload_n 0, 1) := by decide +kernel
theorem dc_406_1 : decode (sm_cc 406) 1 = .ok (.getfield 546, 3) := by decide +kernel
theorem fr_406_546 : sm_at mt_f (sm_ow 406) 546 = some (546, 14, 50, 0, 2123) := by decide +kernel
theorem dc_406_4 : decode (sm_cc 406) 4 = .ok (.iload_n 1, 1) := by decide +kernel
theorem dc_406_5 : decode (sm_cc 406) 5 = .ok (.laload, 1) := by decide +kernel
theorem dc_406_6 : decode (sm_cc 406) 6 = .ok (.invokestatic 552, 3) := by decide +kernel
theorem kr_406_552 : sm_at mt_k (sm_ow 406) 552 = some (552, 2, 360, 0, 2710) := by decide +kernel
theorem dc_406_9 : decode (sm_cc 406) 9 = .ok (.istore_n 3, 1) := by decide +kernel
theorem dc_406_10 : decode (sm_cc 406) 10 = .ok (.aload_n 0, 1) := by decide +kernel
theorem dc_406_11 : decode (sm_cc 406) 11 = .ok (.getfield 546, 3) := by decide +kernel
theorem dc_406_14 : decode (sm_cc 406) 14 = .ok (.iload_n 2, 1) := by decide +kernel
theorem dc_406_15 : decode (sm_cc 406) 15 = .ok (.laload, 1) := by decide +kernel
theorem dc_406_16 : decode (sm_cc 406) 16 = .ok (.invokestatic 552, 3) := by decide +kernel
theorem dc_406_19 : decode (sm_cc 406) 19 = .ok (.istore 4, 2) := by decide +kernel
theorem dc_406_21 : decode (sm_cc 406) 21 = .ok (.iload_n 3, 1) := by decide +kernel
theorem dc_406_22 : decode (sm_cc 406) 22 = .ok (.iload 4, 2) := by decide +kernel
theorem dc_406_24 : decode (sm_cc 406) 24 = .ok (.iadd, 1) := by decide +kernel
theorem dc_406_25 : decode (sm_cc 406) 25 = .ok (.bipush (15), 2) := by decide +kernel
theorem dc_406_27 : decode (sm_cc 406) 27 = .ok (.if_icmp .le (10), 3) := by decide +kernel
theorem dc_406_37 : decode (sm_cc 406) 37 = .ok (.iconst 0, 1) := by decide +kernel
theorem dc_406_38 : decode (sm_cc 406) 38 = .ok (.istore 5, 2) := by decide +kernel
theorem dc_406_30 : decode (sm_cc 406) 30 = .ok (.aload_n 0, 1) := by decide +kernel
theorem dc_406_31 : decode (sm_cc 406) 31 = .ok (.bipush (8), 2) := by decide +kernel
theorem dc_406_33 : decode (sm_cc 406) 33 = .ok (.invokevirtual 608, 3) := by decide +kernel
theorem kr_406_608 : sm_at mt_k (sm_ow 406) 608 = some (608, 0, 351, 0, 2664) := by decide +kernel
theorem dc_406_36 : decode (sm_cc 406) 36 = .ok (.ireturn, 1) := by decide +kernel
theorem rt_406 : sm_rt 406 = some .boolean := by decide +kernel
theorem dc_406_40 : decode (sm_cc 406) 40 = .ok (.iload 5, 2) := by decide +kernel
theorem dc_406_42 : decode (sm_cc 406) 42 = .ok (.iload_n 3, 1) := by decide +kernel
theorem dc_406_43 : decode (sm_cc 406) 43 = .ok (.if_icmp .ge (34), 3) := by decide +kernel
theorem dc_406_77 : decode (sm_cc 406) 77 = .ok (.iconst 0, 1) := by decide +kernel
theorem dc_406_78 : decode (sm_cc 406) 78 = .ok (.istore 5, 2) := by decide +kernel
theorem dc_406_46 : decode (sm_cc 406) 46 = .ok (.aload_n 0, 1) := by decide +kernel
theorem dc_406_47 : decode (sm_cc 406) 47 = .ok (.getfield 752, 3) := by decide +kernel
theorem fr_406_752 : sm_at mt_f (sm_ow 406) 752 = some (752, 14, 69, 0, 2142) := by decide +kernel
theorem dc_406_50 : decode (sm_cc 406) 50 = .ok (.iload 5, 2) := by decide +kernel
theorem dc_406_52 : decode (sm_cc 406) 52 = .ok (.aload_n 0, 1) := by decide +kernel
theorem dc_406_53 : decode (sm_cc 406) 53 = .ok (.getfield 499, 3) := by decide +kernel
theorem fr_406_499 : sm_at mt_f (sm_ow 406) 499 = some (499, 14, 49, 0, 2122) := by decide +kernel
theorem dc_406_56 : decode (sm_cc 406) 56 = .ok (.iload_n 1, 1) := by decide +kernel
theorem dc_406_57 : decode (sm_cc 406) 57 = .ok (.laload, 1) := by decide +kernel
theorem dc_406_58 : decode (sm_cc 406) 58 = .ok (.aload_n 0, 1) := by decide +kernel
theorem dc_406_59 : decode (sm_cc 406) 59 = .ok (.getfield 546, 3) := by decide +kernel
theorem dc_406_62 : decode (sm_cc 406) 62 = .ok (.iload_n 1, 1) := by decide +kernel
theorem dc_406_63 : decode (sm_cc 406) 63 = .ok (.laload, 1) := by decide +kernel
theorem dc_406_64 : decode (sm_cc 406) 64 = .ok (.iload 5, 2) := by decide +kernel
theorem dc_406_66 : decode (sm_cc 406) 66 = .ok (.invokestatic 755, 3) := by decide +kernel
theorem kr_406_755 : sm_at mt_k (sm_ow 406) 755 = some (755, 2, 386, 0, 2864) := by decide +kernel
theorem dc_406_69 : decode (sm_cc 406) 69 = .ok (.i2b, 1) := by decide +kernel
theorem dc_406_70 : decode (sm_cc 406) 70 = .ok (.bastore, 1) := by decide +kernel
theorem dc_406_71 : decode (sm_cc 406) 71 = .ok (.iinc 5 (1), 3) := by decide +kernel
theorem dc_406_74 : decode (sm_cc 406) 74 = .ok (.goto (-34), 3) := by decide +kernel
theorem dc_406_80 : decode (sm_cc 406) 80 = .ok (.iload 5, 2) := by decide +kernel
theorem dc_406_82 : decode (sm_cc 406) 82 = .ok (.iload 4, 2) := by decide +kernel
theorem dc_406_84 : decode (sm_cc 406) 84 = .ok (.if_icmp .ge (36), 3) := by decide +kernel
theorem dc_406_120 : decode (sm_cc 406) 120 = .ok (.aload_n 0, 1) := by decide +kernel
theorem dc_406_121 : decode (sm_cc 406) 121 = .ok (.dup, 1) := by decide +kernel
theorem dc_406_122 : decode (sm_cc 406) 122 = .ok (.getfield 493, 3) := by decide +kernel
theorem fr_406_493 : sm_at mt_f (sm_ow 406) 493 = some (493, 14, 51, 0, 2124) := by decide +kernel
theorem dc_406_125 : decode (sm_cc 406) 125 = .ok (.iconst 2, 1) := by decide +kernel
theorem dc_406_126 : decode (sm_cc 406) 126 = .ok (.isub, 1) := by decide +kernel
theorem dc_406_127 : decode (sm_cc 406) 127 = .ok (.putfield 493, 3) := by decide +kernel
theorem dc_406_130 : decode (sm_cc 406) 130 = .ok (.aload_n 0, 1) := by decide +kernel
theorem dc_406_131 : decode (sm_cc 406) 131 = .ok (.iconst 2, 1) := by decide +kernel
theorem dc_406_132 : decode (sm_cc 406) 132 = .ok (.aload_n 0, 1) := by decide +kernel
theorem dc_406_133 : decode (sm_cc 406) 133 = .ok (.getfield 752, 3) := by decide +kernel
theorem dc_406_136 : decode (sm_cc 406) 136 = .ok (.iconst 0, 1) := by decide +kernel
theorem dc_406_137 : decode (sm_cc 406) 137 = .ok (.iload_n 3, 1) := by decide +kernel
theorem dc_406_138 : decode (sm_cc 406) 138 = .ok (.iload 4, 2) := by decide +kernel
theorem dc_406_140 : decode (sm_cc 406) 140 = .ok (.iadd, 1) := by decide +kernel
theorem dc_406_141 : decode (sm_cc 406) 141 = .ok (.iconst 0, 1) := by decide +kernel
theorem dc_406_142 : decode (sm_cc 406) 142 = .ok (.invokestatic 178, 3) := by decide +kernel
theorem kr_406_178 : sm_at mt_k (sm_ow 406) 178 = some (178, 2, 297, 0, 2400) := by decide +kernel
theorem dc_406_145 : decode (sm_cc 406) 145 = .ok (.aload_n 0, 1) := by decide +kernel
theorem dc_406_146 : decode (sm_cc 406) 146 = .ok (.getfield 752, 3) := by decide +kernel
theorem dc_406_149 : decode (sm_cc 406) 149 = .ok (.iconst 0, 1) := by decide +kernel
theorem dc_406_150 : decode (sm_cc 406) 150 = .ok (.iload_n 3, 1) := by decide +kernel
theorem dc_406_151 : decode (sm_cc 406) 151 = .ok (.iload 4, 2) := by decide +kernel
theorem dc_406_153 : decode (sm_cc 406) 153 = .ok (.iadd, 1) := by decide +kernel
theorem dc_406_154 : decode (sm_cc 406) 154 = .ok (.iconst 1, 1) := by decide +kernel
theorem dc_406_155 : decode (sm_cc 406) 155 = .ok (.invokestatic 178, 3) := by decide +kernel
theorem dc_406_158 : decode (sm_cc 406) 158 = .ok (.invokevirtual 549, 3) := by decide +kernel
theorem kr_406_549 : sm_at mt_k (sm_ow 406) 549 = some (549, 0, 352, 0, 2668) := by decide +kernel
theorem dc_406_161 : decode (sm_cc 406) 161 = .ok (.iconst 1, 1) := by decide +kernel
theorem dc_406_162 : decode (sm_cc 406) 162 = .ok (.ireturn, 1) := by decide +kernel
theorem dc_406_87 : decode (sm_cc 406) 87 = .ok (.aload_n 0, 1) := by decide +kernel
theorem dc_406_88 : decode (sm_cc 406) 88 = .ok (.getfield 752, 3) := by decide +kernel
theorem dc_406_91 : decode (sm_cc 406) 91 = .ok (.iload_n 3, 1) := by decide +kernel
theorem dc_406_92 : decode (sm_cc 406) 92 = .ok (.iload 5, 2) := by decide +kernel
theorem dc_406_94 : decode (sm_cc 406) 94 = .ok (.iadd, 1) := by decide +kernel
theorem dc_406_95 : decode (sm_cc 406) 95 = .ok (.aload_n 0, 1) := by decide +kernel
theorem dc_406_96 : decode (sm_cc 406) 96 = .ok (.getfield 499, 3) := by decide +kernel
theorem dc_406_99 : decode (sm_cc 406) 99 = .ok (.iload_n 2, 1) := by decide +kernel
theorem dc_406_100 : decode (sm_cc 406) 100 = .ok (.laload, 1) := by decide +kernel
theorem dc_406_101 : decode (sm_cc 406) 101 = .ok (.aload_n 0, 1) := by decide +kernel
theorem dc_406_102 : decode (sm_cc 406) 102 = .ok (.getfield 546, 3) := by decide +kernel
theorem dc_406_105 : decode (sm_cc 406) 105 = .ok (.iload_n 2, 1) := by decide +kernel
theorem dc_406_106 : decode (sm_cc 406) 106 = .ok (.laload, 1) := by decide +kernel
theorem dc_406_107 : decode (sm_cc 406) 107 = .ok (.iload 5, 2) := by decide +kernel
theorem dc_406_109 : decode (sm_cc 406) 109 = .ok (.invokestatic 755, 3) := by decide +kernel
theorem dc_406_112 : decode (sm_cc 406) 112 = .ok (.i2b, 1) := by decide +kernel
theorem dc_406_113 : decode (sm_cc 406) 113 = .ok (.bastore, 1) := by decide +kernel
theorem dc_406_114 : decode (sm_cc 406) 114 = .ok (.iinc 5 (1), 3) := by decide +kernel
theorem dc_406_117 : decode (sm_cc 406) 117 = .ok (.goto (-37), 3) := by decide +kernel
theorem ml_362 : sm_ml 362 = 9 := by decide +kernel
theorem dc_362_0 : decode (sm_cc 362) 0 = .ok (.iconst (-1), 1) := by decide +kernel
theorem dc_362_1 : decode (sm_cc 362) 1 = .ok (.istore_n 3, 1) := by decide +kernel
theorem dc_362_2 : decode (sm_cc 362) 2 = .ok (.aload_n 1, 1) := by decide +kernel
theorem dc_362_3 : decode (sm_cc 362) 3 = .ok (.iload_n 2, 1) := by decide +kernel
theorem dc_362_4 : decode (sm_cc 362) 4 = .ok (.iconst 3, 1) := by decide +kernel
theorem dc_362_5 : decode (sm_cc 362) 5 = .ok (.iadd, 1) := by decide +kernel
theorem dc_362_6 : decode (sm_cc 362) 6 = .ok (.iaload, 1) := by decide +kernel
theorem dc_362_7 : decode (sm_cc 362) 7 = .ok (.istore 4, 2) := by decide +kernel
theorem dc_362_9 : decode (sm_cc 362) 9 = .ok (.aload_n 1, 1) := by decide +kernel
theorem dc_362_10 : decode (sm_cc 362) 10 = .ok (.iload_n 2, 1) := by decide +kernel
theorem dc_362_11 : decode (sm_cc 362) 11 = .ok (.iconst 2, 1) := by decide +kernel
theorem dc_362_12 : decode (sm_cc 362) 12 = .ok (.iadd, 1) := by decide +kernel
theorem dc_362_13 : decode (sm_cc 362) 13 = .ok (.iaload, 1) := by decide +kernel
theorem dc_362_14 : decode (sm_cc 362) 14 = .ok (.iconst 1, 1) := by decide +kernel
theorem dc_362_15 : decode (sm_cc 362) 15 = .ok (.if_icmp .ne (36), 3) := by decide +kernel
theorem dc_362_51 : decode (sm_cc 362) 51 = .ok (.aload_n 0, 1) := by decide +kernel
theorem dc_362_52 : decode (sm_cc 362) 52 = .ok (.iconst 4, 1) := by decide +kernel
theorem dc_362_53 : decode (sm_cc 362) 53 = .ok (.invokevirtual 686, 3) := by decide +kernel
theorem kr_362_686 : sm_at mt_k (sm_ow 362) 686 = some (686, 0, 364, 0, 2726) := by decide +kernel
theorem dc_362_56 : decode (sm_cc 362) 56 = .ok (.istore 5, 2) := by decide +kernel
theorem dc_362_58 : decode (sm_cc 362) 58 = .ok (.iload 5, 2) := by decide +kernel
theorem dc_362_60 : decode (sm_cc 362) 60 = .ok (.ifCond .ge (5), 3) := by decide +kernel
theorem dc_362_65 : decode (sm_cc 362) 65 = .ok (.iload_n 3, 1) := by decide +kernel
theorem dc_362_66 : decode (sm_cc 362) 66 = .ok (.ifCond .lt (13), 3) := by decide +kernel
theorem dc_362_79 : decode (sm_cc 362) 79 = .ok (.aload_n 0, 1) := by decide +kernel
theorem dc_362_80 : decode (sm_cc 362) 80 = .ok (.getfield 485, 3) := by decide +kernel
theorem fr_362_485 : sm_at mt_f (sm_ow 362) 485 = some (485, 14, 42, 0, 2115) := by decide +kernel
theorem dc_362_83 : decode (sm_cc 362) 83 = .ok (.iload 5, 2) := by decide +kernel
theorem dc_362_85 : decode (sm_cc 362) 85 = .ok (.aaload, 1) := by decide +kernel
theorem dc_362_86 : decode (sm_cc 362) 86 = .ok (.astore 6, 2) := by decide +kernel
theorem dc_362_88 : decode (sm_cc 362) 88 = .ok (.aload 6, 2) := by decide +kernel
theorem dc_362_90 : decode (sm_cc 362) 90 = .ok (.aload_n 1, 1) := by decide +kernel
theorem dc_362_91 : decode (sm_cc 362) 91 = .ok (.iload_n 2, 1) := by decide +kernel
theorem dc_362_92 : decode (sm_cc 362) 92 = .ok (.iconst 1, 1) := by decide +kernel
theorem dc_362_93 : decode (sm_cc 362) 93 = .ok (.iadd, 1) := by decide +kernel
theorem dc_362_94 : decode (sm_cc 362) 94 = .ok (.iaload, 1) := by decide +kernel
theorem dc_362_95 : decode (sm_cc 362) 95 = .ok (.putfield 694, 3) := by decide +kernel
theorem fr_362_694 : sm_at mt_f (sm_ow 362) 694 = some (694, 13, 10, 0, 2787) := by decide +kernel
theorem dc_362_98 : decode (sm_cc 362) 98 = .ok (.aload 6, 2) := by decide +kernel
theorem dc_362_100 : decode (sm_cc 362) 100 = .ok (.iload_n 3, 1) := by decide +kernel
theorem dc_362_101 : decode (sm_cc 362) 101 = .ok (.putfield 472, 3) := by decide +kernel
theorem fr_362_472 : sm_at mt_f (sm_ow 362) 472 = some (472, 13, 11, 0, 2788) := by decide +kernel
theorem dc_362_104 : decode (sm_cc 362) 104 = .ok (.iconst 0, 1) := by decide +kernel
theorem dc_362_105 : decode (sm_cc 362) 105 = .ok (.istore 7, 2) := by decide +kernel
theorem dc_362_63 : decode (sm_cc 362) 63 = .ok (.iconst 0, 1) := by decide +kernel
theorem dc_362_64 : decode (sm_cc 362) 64 = .ok (.ireturn, 1) := by decide +kernel
theorem rt_362 : sm_rt 362 = some .boolean := by decide +kernel
theorem dc_362_18 : decode (sm_cc 362) 18 = .ok (.aload_n 0, 1) := by decide +kernel
theorem dc_362_19 : decode (sm_cc 362) 19 = .ok (.aload_n 0, 1) := by decide +kernel
theorem dc_362_20 : decode (sm_cc 362) 20 = .ok (.getfield 493, 3) := by decide +kernel
theorem fr_362_493 : sm_at mt_f (sm_ow 362) 493 = some (493, 14, 51, 0, 2124) := by decide +kernel
theorem dc_362_23 : decode (sm_cc 362) 23 = .ok (.iconst 1, 1) := by decide +kernel
theorem dc_362_24 : decode (sm_cc 362) 24 = .ok (.isub, 1) := by decide +kernel
theorem dc_362_25 : decode (sm_cc 362) 25 = .ok (.iconst 4, 1) := by decide +kernel
theorem dc_362_26 : decode (sm_cc 362) 26 = .ok (.invokevirtual 683, 3) := by decide +kernel
theorem kr_362_683 : sm_at mt_k (sm_ow 362) 683 = some (683, 0, 363, 0, 2722) := by decide +kernel
theorem dc_362_29 : decode (sm_cc 362) 29 = .ok (.ifCond .ne (9), 3) := by decide +kernel
theorem dc_362_38 : decode (sm_cc 362) 38 = .ok (.aload_n 0, 1) := by decide +kernel
theorem dc_362_39 : decode (sm_cc 362) 39 = .ok (.getfield 499, 3) := by decide +kernel
theorem fr_362_499 : sm_at mt_f (sm_ow 362) 499 = some (499, 14, 49, 0, 2122) := by decide +kernel
theorem dc_362_42 : decode (sm_cc 362) 42 = .ok (.aload_n 0, 1) := by decide +kernel
theorem dc_362_43 : decode (sm_cc 362) 43 = .ok (.getfield 493, 3) := by decide +kernel
theorem dc_362_46 : decode (sm_cc 362) 46 = .ok (.iconst 1, 1) := by decide +kernel
theorem dc_362_47 : decode (sm_cc 362) 47 = .ok (.isub, 1) := by decide +kernel
theorem dc_362_48 : decode (sm_cc 362) 48 = .ok (.laload, 1) := by decide +kernel
theorem dc_362_49 : decode (sm_cc 362) 49 = .ok (.l2i, 1) := by decide +kernel
theorem dc_362_50 : decode (sm_cc 362) 50 = .ok (.istore_n 3, 1) := by decide +kernel
theorem dc_362_69 : decode (sm_cc 362) 69 = .ok (.aload_n 0, 1) := by decide +kernel
theorem dc_362_70 : decode (sm_cc 362) 70 = .ok (.dup, 1) := by decide +kernel
theorem dc_362_71 : decode (sm_cc 362) 71 = .ok (.getfield 493, 3) := by decide +kernel
theorem dc_362_74 : decode (sm_cc 362) 74 = .ok (.iconst 1, 1) := by decide +kernel
theorem dc_362_75 : decode (sm_cc 362) 75 = .ok (.isub, 1) := by decide +kernel
theorem dc_362_76 : decode (sm_cc 362) 76 = .ok (.putfield 493, 3) := by decide +kernel
theorem dc_362_32 : decode (sm_cc 362) 32 = .ok (.aload_n 0, 1) := by decide +kernel
theorem dc_362_33 : decode (sm_cc 362) 33 = .ok (.iconst 2, 1) := by decide +kernel
theorem dc_362_34 : decode (sm_cc 362) 34 = .ok (.invokevirtual 608, 3) := by decide +kernel
theorem kr_362_608 : sm_at mt_k (sm_ow 362) 608 = some (608, 0, 351, 0, 2664) := by decide +kernel
theorem dc_362_37 : decode (sm_cc 362) 37 = .ok (.ireturn, 1) := by decide +kernel
theorem dc_362_107 : decode (sm_cc 362) 107 = .ok (.iload 7, 2) := by decide +kernel
theorem dc_362_109 : decode (sm_cc 362) 109 = .ok (.iload 4, 2) := by decide +kernel
theorem dc_362_111 : decode (sm_cc 362) 111 = .ok (.if_icmp .ge (65), 3) := by decide +kernel
theorem dc_362_176 : decode (sm_cc 362) 176 = .ok (.aload_n 0, 1) := by decide +kernel
theorem dc_362_177 : decode (sm_cc 362) 177 = .ok (.dup, 1) := by decide +kernel
theorem dc_362_178 : decode (sm_cc 362) 178 = .ok (.getfield 493, 3) := by decide +kernel
theorem dc_362_181 : decode (sm_cc 362) 181 = .ok (.iload 4, 2) := by decide +kernel
theorem dc_362_183 : decode (sm_cc 362) 183 = .ok (.isub, 1) := by decide +kernel
theorem dc_362_184 : decode (sm_cc 362) 184 = .ok (.putfield 493, 3) := by decide +kernel
theorem dc_362_187 : decode (sm_cc 362) 187 = .ok (.aload_n 0, 1) := by decide +kernel
theorem dc_362_188 : decode (sm_cc 362) 188 = .ok (.iconst 3, 1) := by decide +kernel
theorem dc_362_189 : decode (sm_cc 362) 189 = .ok (.iload 5, 2) := by decide +kernel
theorem dc_362_191 : decode (sm_cc 362) 191 = .ok (.i2l, 1) := by decide +kernel
theorem dc_362_192 : decode (sm_cc 362) 192 = .ok (.lconst 0, 1) := by decide +kernel
theorem dc_362_193 : decode (sm_cc 362) 193 = .ok (.invokevirtual 549, 3) := by decide +kernel
theorem kr_362_549 : sm_at mt_k (sm_ow 362) 549 = some (549, 0, 352, 0, 2668) := by decide +kernel
theorem dc_362_196 : decode (sm_cc 362) 196 = .ok (.iconst 1, 1) := by decide +kernel
theorem dc_362_197 : decode (sm_cc 362) 197 = .ok (.ireturn, 1) := by decide +kernel
theorem dc_362_114 : decode (sm_cc 362) 114 = .ok (.aload_n 0, 1) := by decide +kernel
theorem dc_362_115 : decode (sm_cc 362) 115 = .ok (.getfield 493, 3) := by decide +kernel
theorem dc_362_118 : decode (sm_cc 362) 118 = .ok (.iload 4, 2) := by decide +kernel
theorem dc_362_120 : decode (sm_cc 362) 120 = .ok (.isub, 1) := by decide +kernel
theorem dc_362_121 : decode (sm_cc 362) 121 = .ok (.iload 7, 2) := by decide +kernel
theorem dc_362_123 : decode (sm_cc 362) 123 = .ok (.iadd, 1) := by decide +kernel
theorem dc_362_124 : decode (sm_cc 362) 124 = .ok (.istore 8, 2) := by decide +kernel
theorem dc_362_126 : decode (sm_cc 362) 126 = .ok (.aload 6, 2) := by decide +kernel
theorem dc_362_128 : decode (sm_cc 362) 128 = .ok (.aload_n 0, 1) := by decide +kernel
theorem dc_362_129 : decode (sm_cc 362) 129 = .ok (.getfield 496, 3) := by decide +kernel
theorem fr_362_496 : sm_at mt_f (sm_ow 362) 496 = some (496, 14, 48, 0, 2121) := by decide +kernel
theorem dc_362_132 : decode (sm_cc 362) 132 = .ok (.iload 8, 2) := by decide +kernel
theorem dc_362_134 : decode (sm_cc 362) 134 = .ok (.iaload, 1) := by decide +kernel
theorem dc_362_135 : decode (sm_cc 362) 135 = .ok (.aload_n 0, 1) := by decide +kernel
theorem dc_362_136 : decode (sm_cc 362) 136 = .ok (.getfield 499, 3) := by decide +kernel
theorem dc_362_139 : decode (sm_cc 362) 139 = .ok (.iload 8, 2) := by decide +kernel
theorem dc_362_141 : decode (sm_cc 362) 141 = .ok (.laload, 1) := by decide +kernel
theorem dc_362_142 : decode (sm_cc 362) 142 = .ok (.aload_n 0, 1) := by decide +kernel
theorem dc_362_143 : decode (sm_cc 362) 143 = .ok (.getfield 546, 3) := by decide +kernel
theorem fr_362_546 : sm_at mt_f (sm_ow 362) 546 = some (546, 14, 50, 0, 2123) := by decide +kernel
theorem dc_362_146 : decode (sm_cc 362) 146 = .ok (.iload 8, 2) := by decide +kernel
theorem dc_362_148 : decode (sm_cc 362) 148 = .ok (.laload, 1) := by decide +kernel
theorem dc_362_149 : decode (sm_cc 362) 149 = .ok (.invokevirtual 759, 3) := by decide +kernel
theorem kr_362_759 : sm_at mt_k (sm_ow 362) 759 = some (759, 0, 375, 0, 2817) := by decide +kernel
theorem dc_362_152 : decode (sm_cc 362) 152 = .ok (.aload 6, 2) := by decide +kernel
theorem dc_362_154 : decode (sm_cc 362) 154 = .ok (.iload 7, 2) := by decide +kernel
theorem dc_362_156 : decode (sm_cc 362) 156 = .ok (.iconst 0, 1) := by decide +kernel
theorem dc_362_157 : decode (sm_cc 362) 157 = .ok (.aload_n 1, 1) := by decide +kernel
theorem dc_362_158 : decode (sm_cc 362) 158 = .ok (.iload_n 2, 1) := by decide +kernel
theorem dc_362_159 : decode (sm_cc 362) 159 = .ok (.iconst 4, 1) := by decide +kernel
theorem dc_362_160 : decode (sm_cc 362) 160 = .ok (.iadd, 1) := by decide +kernel
theorem dc_362_161 : decode (sm_cc 362) 161 = .ok (.iload 7, 2) := by decide +kernel
theorem dc_362_163 : decode (sm_cc 362) 163 = .ok (.iadd, 1) := by decide +kernel
theorem dc_362_164 : decode (sm_cc 362) 164 = .ok (.iaload, 1) := by decide +kernel
theorem dc_362_165 : decode (sm_cc 362) 165 = .ok (.i2l, 1) := by decide +kernel
theorem dc_362_166 : decode (sm_cc 362) 166 = .ok (.lconst 0, 1) := by decide +kernel
theorem dc_362_167 : decode (sm_cc 362) 167 = .ok (.invokevirtual 771, 3) := by decide +kernel
theorem kr_362_771 : sm_at mt_k (sm_ow 362) 771 = some (771, 0, 377, 0, 2828) := by decide +kernel
theorem dc_362_170 : decode (sm_cc 362) 170 = .ok (.iinc 7 (1), 3) := by decide +kernel
theorem dc_362_173 : decode (sm_cc 362) 173 = .ok (.goto (-66), 3) := by decide +kernel
theorem ml_396 : sm_ml 396 = 12 := by decide +kernel
theorem dc_396_0 : decode (sm_cc 396) 0 = .ok (.aload_n 0, 1) := by decide +kernel
theorem dc_396_1 : decode (sm_cc 396) 1 = .ok (.getfield 485, 3) := by decide +kernel
theorem fr_396_485 : sm_at mt_f (sm_ow 396) 485 = some (485, 14, 42, 0, 2115) := by decide +kernel
theorem dc_396_4 : decode (sm_cc 396) 4 = .ok (.iload_n 1, 1) := by decide +kernel
theorem dc_396_5 : decode (sm_cc 396) 5 = .ok (.aaload, 1) := by decide +kernel
theorem dc_396_6 : decode (sm_cc 396) 6 = .ok (.astore 6, 2) := by decide +kernel
theorem dc_396_8 : decode (sm_cc 396) 8 = .ok (.iload 4, 2) := by decide +kernel
theorem dc_396_10 : decode (sm_cc 396) 10 = .ok (.ifCond .lt (9), 3) := by decide +kernel
theorem dc_396_19 : decode (sm_cc 396) 19 = .ok (.iload_n 3, 1) := by decide +kernel
theorem dc_396_20 : decode (sm_cc 396) 20 = .ok (.istore 7, 2) := by decide +kernel
theorem dc_396_22 : decode (sm_cc 396) 22 = .ok (.iload 7, 2) := by decide +kernel
theorem dc_396_24 : decode (sm_cc 396) 24 = .ok (.aload 6, 2) := by decide +kernel
theorem dc_396_26 : decode (sm_cc 396) 26 = .ok (.getfield 533, 3) := by decide +kernel
theorem fr_396_533 : sm_at mt_f (sm_ow 396) 533 = some (533, 13, 8, 0, 2785) := by decide +kernel
theorem dc_396_29 : decode (sm_cc 396) 29 = .ok (.getfield 373, 3) := by decide +kernel
theorem fr_396_373 : sm_at mt_f (sm_ow 396) 373 = some (373, 12, 9, 0, 2425) := by decide +kernel
theorem dc_396_32 : decode (sm_cc 396) 32 = .ok (.aload 6, 2) := by decide +kernel
theorem dc_396_34 : decode (sm_cc 396) 34 = .ok (.getfield 689, 3) := by decide +kernel
theorem fr_396_689 : sm_at mt_f (sm_ow 396) 689 = some (689, 13, 9, 0, 2786) := by decide +kernel
theorem dc_396_37 : decode (sm_cc 396) 37 = .ok (.iaload, 1) := by decide +kernel
theorem dc_396_38 : decode (sm_cc 396) 38 = .ok (.if_icmp .eq (9), 3) := by decide +kernel
theorem dc_396_47 : decode (sm_cc 396) 47 = .ok (.aload_n 0, 1) := by decide +kernel
theorem dc_396_48 : decode (sm_cc 396) 48 = .ok (.getfield 502, 3) := by decide +kernel
theorem fr_396_502 : sm_at mt_f (sm_ow 396) 502 = some (502, 14, 59, 0, 2132) := by decide +kernel
theorem dc_396_51 : decode (sm_cc 396) 51 = .ok (.bipush (31), 2) := by decide +kernel
theorem dc_396_53 : decode (sm_cc 396) 53 = .ok (.if_icmp .ne (10), 3) := by decide +kernel
theorem dc_396_63 : decode (sm_cc 396) 63 = .ok (.aload 6, 2) := by decide +kernel
theorem dc_396_65 : decode (sm_cc 396) 65 = .ok (.getfield 533, 3) := by decide +kernel
theorem dc_396_68 : decode (sm_cc 396) 68 = .ok (.getfield 379, 3) := by decide +kernel
theorem fr_396_379 : sm_at mt_f (sm_ow 396) 379 = some (379, 12, 10, 0, 2427) := by decide +kernel
theorem dc_396_71 : decode (sm_cc 396) 71 = .ok (.aload 6, 2) := by decide +kernel
theorem dc_396_73 : decode (sm_cc 396) 73 = .ok (.getfield 689, 3) := by decide +kernel
theorem dc_396_76 : decode (sm_cc 396) 76 = .ok (.iaload, 1) := by decide +kernel
theorem dc_396_77 : decode (sm_cc 396) 77 = .ok (.istore 8, 2) := by decide +kernel
theorem dc_396_79 : decode (sm_cc 396) 79 = .ok (.iload 8, 2) := by decide +kernel
theorem dc_396_81 : decode (sm_cc 396) 81 = .ok (.sipush (300), 3) := by decide +kernel
theorem dc_396_84 : decode (sm_cc 396) 84 = .ok (.if_icmp .le (10), 3) := by decide +kernel
theorem dc_396_94 : decode (sm_cc 396) 94 = .ok (.aload_n 0, 1) := by decide +kernel
theorem dc_396_95 : decode (sm_cc 396) 95 = .ok (.bipush (7), 2) := by decide +kernel
theorem dc_396_97 : decode (sm_cc 396) 97 = .ok (.invokevirtual 686, 3) := by decide +kernel
theorem kr_396_686 : sm_at mt_k (sm_ow 396) 686 = some (686, 0, 364, 0, 2726) := by decide +kernel
theorem dc_396_100 : decode (sm_cc 396) 100 = .ok (.istore 9, 2) := by decide +kernel
theorem dc_396_102 : decode (sm_cc 396) 102 = .ok (.iload 9, 2) := by decide +kernel
theorem dc_396_104 : decode (sm_cc 396) 104 = .ok (.ifCond .ge (5), 3) := by decide +kernel
theorem dc_396_109 : decode (sm_cc 396) 109 = .ok (.aload_n 0, 1) := by decide +kernel
theorem dc_396_110 : decode (sm_cc 396) 110 = .ok (.getfield 485, 3) := by decide +kernel
theorem dc_396_113 : decode (sm_cc 396) 113 = .ok (.iload 9, 2) := by decide +kernel
theorem dc_396_115 : decode (sm_cc 396) 115 = .ok (.aaload, 1) := by decide +kernel
theorem dc_396_116 : decode (sm_cc 396) 116 = .ok (.astore 10, 2) := by decide +kernel
theorem dc_396_118 : decode (sm_cc 396) 118 = .ok (.aload 10, 2) := by decide +kernel
theorem dc_396_120 : decode (sm_cc 396) 120 = .ok (.aload 6, 2) := by decide +kernel
theorem dc_396_122 : decode (sm_cc 396) 122 = .ok (.getfield 472, 3) := by decide +kernel
theorem fr_396_472 : sm_at mt_f (sm_ow 396) 472 = some (472, 13, 11, 0, 2788) := by decide +kernel
theorem dc_396_125 : decode (sm_cc 396) 125 = .ok (.putfield 472, 3) := by decide +kernel
theorem dc_396_128 : decode (sm_cc 396) 128 = .ok (.iconst 0, 1) := by decide +kernel
theorem dc_396_129 : decode (sm_cc 396) 129 = .ok (.istore 11, 2) := by decide +kernel
theorem dc_396_107 : decode (sm_cc 396) 107 = .ok (.iconst 0, 1) := by decide +kernel
theorem dc_396_108 : decode (sm_cc 396) 108 = .ok (.ireturn, 1) := by decide +kernel
theorem rt_396 : sm_rt 396 = some .boolean := by decide +kernel
theorem dc_396_87 : decode (sm_cc 396) 87 = .ok (.aload_n 0, 1) := by decide +kernel
theorem dc_396_88 : decode (sm_cc 396) 88 = .ok (.bipush (8), 2) := by decide +kernel
theorem dc_396_90 : decode (sm_cc 396) 90 = .ok (.invokevirtual 608, 3) := by decide +kernel
theorem kr_396_608 : sm_at mt_k (sm_ow 396) 608 = some (608, 0, 351, 0, 2664) := by decide +kernel
theorem dc_396_93 : decode (sm_cc 396) 93 = .ok (.ireturn, 1) := by decide +kernel
theorem dc_396_56 : decode (sm_cc 396) 56 = .ok (.aload_n 0, 1) := by decide +kernel
theorem dc_396_57 : decode (sm_cc 396) 57 = .ok (.bipush (7), 2) := by decide +kernel
theorem dc_396_59 : decode (sm_cc 396) 59 = .ok (.invokevirtual 608, 3) := by decide +kernel
theorem dc_396_62 : decode (sm_cc 396) 62 = .ok (.ireturn, 1) := by decide +kernel
theorem dc_396_41 : decode (sm_cc 396) 41 = .ok (.aload_n 0, 1) := by decide +kernel
theorem dc_396_42 : decode (sm_cc 396) 42 = .ok (.iconst 2, 1) := by decide +kernel
theorem dc_396_43 : decode (sm_cc 396) 43 = .ok (.invokevirtual 608, 3) := by decide +kernel
theorem dc_396_46 : decode (sm_cc 396) 46 = .ok (.ireturn, 1) := by decide +kernel
theorem dc_396_13 : decode (sm_cc 396) 13 = .ok (.iload_n 3, 1) := by decide +kernel
theorem dc_396_14 : decode (sm_cc 396) 14 = .ok (.iconst 1, 1) := by decide +kernel
theorem dc_396_15 : decode (sm_cc 396) 15 = .ok (.iadd, 1) := by decide +kernel
theorem dc_396_16 : decode (sm_cc 396) 16 = .ok (.goto (4), 3) := by decide +kernel
theorem rMdL_1 {d : Nat} {S Sf : cS} {v : Option Value} {lv : sm_L} {g : Nat} {zg : Nat} {nn : Nat} {dd : Nat} {ni : Nat} {t : Nat} (q0 : sm_get lv 0 = some (.ref 61)) (q1 : sm_get lv 1 = some (.int (nI nn))) (q2 : sm_get lv 2 = some (.int (nI dd))) (q3 : sm_get lv 3 = some (.ref g)) (q4 : sm_get lv 4 = some (.int (nI ni))) (mnn : nn < 2 ^ 20) (mdd : dd < 2 ^ 20) (mni : ni < 2 ^ 20) (ag : 108 ≤ g) (ht : sI S 6151 = nI t) (mt : t < 20481) (b1 : t ≤ ni) (hB : ∀ lv1 : sm_L, sm_get lv1 0 = some (.ref 61) → sm_get lv1 1 = some (.int (nI nn)) → sm_get lv1 2 = some (.int (nI dd)) → Bod (d + 8) 414 200 lv1 [] (S) v Sf) : Bod (d + 8) 414 66 lv [] S v Sf := by
  refine Bod.ildG dc_414_66 (by repeat (first | exact q4 | exact sm_get_p1 | exact sm_get_p2e | refine sm_get_p1m (by decide) (by decide) ?_ | refine sm_get_p1n (by decide) rfl ?_ | refine sm_get_p2n (by decide) (by decide) rfl ?_ | refine sm_get_p2m (by decide) (by decide) (by decide) ?_)) ?_
  refine Bod.aldnG dc_414_68 (by repeat (first | exact q0 | exact sm_get_p1 | exact sm_get_p2e | refine sm_get_p1m (by decide) (by decide) ?_ | refine sm_get_p1n (by decide) rfl ?_ | refine sm_get_p2n (by decide) (by decide) rfl ?_ | refine sm_get_p2m (by decide) (by decide) (by decide) ?_)) ?_
  refine Bod.get dc_414_69 fr_414_493 (mk_61 _) rfl ?_
  refine Bod.eqI (nI t) (by first | assumption | rfl | exact congrArg nI (by omega) | (simp (disch := omega) only [rI, rIe, rA, rIA, rLA, rJA, rVI, rQI, rVA, rQA, upd_at,  rAI, rLI, rJI, nI_add, pk_sub, kc_0, kc_1, kc_2, kc_3, kc_4, kc_5, reduceIte, Nat.reduceEqDiff, Nat.add_zero, rI_hold, rI_hold, rL_hold, ht]; done)) ?_
  refine Bod.icT dc_414_72 rfl (k2_ge_T ni t rfl rfl (by omega) (by omega)) ?_
  exact hB _ (by repeat (first | exact q0 | exact sm_get_p1 | exact sm_get_p2e | refine sm_get_p1m (by decide) (by decide) ?_ | refine sm_get_p1n (by decide) rfl ?_ | refine sm_get_p2n (by decide) (by decide) rfl ?_ | refine sm_get_p2m (by decide) (by decide) (by decide) ?_)) (by repeat (first | exact q1 | exact sm_get_p1 | exact sm_get_p2e | refine sm_get_p1m (by decide) (by decide) ?_ | refine sm_get_p1n (by decide) rfl ?_ | refine sm_get_p2n (by decide) (by decide) rfl ?_ | refine sm_get_p2m (by decide) (by decide) (by decide) ?_)) (by repeat (first | exact q2 | exact sm_get_p1 | exact sm_get_p2e | refine sm_get_p1m (by decide) (by decide) ?_ | refine sm_get_p1n (by decide) rfl ?_ | refine sm_get_p2n (by decide) (by decide) rfl ?_ | refine sm_get_p2m (by decide) (by decide) (by decide) ?_))
theorem rMdL_2 {d : Nat} {S Sf : cS} {v : Option Value} {lv : sm_L} {g : Nat} {zg : Nat} {nn : Nat} {dd : Nat} {ni : Nat} {t : Nat} {e91 : Nat} {S1 : cS} {a : Nat} {e911 : Nat} {S2 : cS} (q0 : sm_get lv 0 = some (.ref 61)) (q1 : sm_get lv 1 = some (.int (nI nn))) (q2 : sm_get lv 2 = some (.int (nI dd))) (q3 : sm_get lv 3 = some (.ref g)) (q4 : sm_get lv 4 = some (.int (nI ni))) (mnn : nn < 2 ^ 20) (mdd : dd < 2 ^ 20) (mni : ni < 2 ^ 20) (ag : 108 ≤ g) (ht : sI S 6151 = nI t) (mt : t < 20481) (b1 : ni < t) (b2 : ni < 20480) (he91 : sA S 91 ni = nI e91) (me91 : e91 < 2 ^ 20) (b3 : e91 ≠ 1) (ma : a < 2 ^ 20) (c1 : Ans (d + 8) 399 [.ref g, .int (nI e91), .long (sL S 92 ni), .long (sL S 93 ni)] S (some (.int (nI a))) S1) (hz1 : (sS S)[g - 108]? = some (13, zg)) (b4 : ni + 1 < 20480) (he911 : sA S1 91 (ni + 1) = nI e911) (me911 : e911 < 2 ^ 20) (c2 : Ans (d + 8) 358 [.ref g, .int (nI a), .int (nI e911), .long (sL S1 92 (ni + 1)), .long (sL S1 93 (ni + 1))] S1 none S2) (hz2 : (sS S1)[g - 108]? = some (13, zg)) (hB : ∀ lv1 : sm_L, sm_get lv1 0 = some (.ref 61) → sm_get lv1 1 = some (.int (nI nn)) → sm_get lv1 2 = some (.int (nI dd)) → sm_get lv1 3 = some (.ref g) → sm_get lv1 4 = some (.int (nI (ni + 2))) → Bod (d + 8) 414 66 lv1 [] (S2) v Sf) : Bod (d + 8) 414 66 lv [] S v Sf := by
  refine Bod.ildG dc_414_66 (by repeat (first | exact q4 | exact sm_get_p1 | exact sm_get_p2e | refine sm_get_p1m (by decide) (by decide) ?_ | refine sm_get_p1n (by decide) rfl ?_ | refine sm_get_p2n (by decide) (by decide) rfl ?_ | refine sm_get_p2m (by decide) (by decide) (by decide) ?_)) ?_
  refine Bod.aldnG dc_414_68 (by repeat (first | exact q0 | exact sm_get_p1 | exact sm_get_p2e | refine sm_get_p1m (by decide) (by decide) ?_ | refine sm_get_p1n (by decide) rfl ?_ | refine sm_get_p2n (by decide) (by decide) rfl ?_ | refine sm_get_p2m (by decide) (by decide) (by decide) ?_)) ?_
  refine Bod.get dc_414_69 fr_414_493 (mk_61 _) rfl ?_
  refine Bod.eqI (nI t) (by first | assumption | rfl | exact congrArg nI (by omega) | (simp (disch := omega) only [rI, rIe, rA, rIA, rLA, rJA, rVI, rQI, rVA, rQA, upd_at,  rAI, rLI, rJI, nI_add, pk_sub, kc_0, kc_1, kc_2, kc_3, kc_4, kc_5, reduceIte, Nat.reduceEqDiff, Nat.add_zero, rI_hold, rI_hold, rL_hold, ht]; done)) ?_
  refine Bod.icF dc_414_72 rfl (k2_ge_F ni t rfl rfl (by omega) (by omega)) ?_
  refine Bod.aldnG dc_414_75 (by repeat (first | exact q0 | exact sm_get_p1 | exact sm_get_p2e | refine sm_get_p1m (by decide) (by decide) ?_ | refine sm_get_p1n (by decide) rfl ?_ | refine sm_get_p2n (by decide) (by decide) rfl ?_ | refine sm_get_p2m (by decide) (by decide) (by decide) ?_)) ?_
  refine Bod.get dc_414_76 fr_414_496 (mk_61 _) rfl ?_
  refine Bod.ildG dc_414_79 (by repeat (first | exact q4 | exact sm_get_p1 | exact sm_get_p2e | refine sm_get_p1m (by decide) (by decide) ?_ | refine sm_get_p1n (by decide) rfl ?_ | refine sm_get_p2n (by decide) (by decide) rfl ?_ | refine sm_get_p2m (by decide) (by decide) (by decide) ?_)) ?_
  refine Bod.ialdN ni rfl (by omega) (by omega) dc_414_81 (mk_91 _) ?_
  refine Bod.eqI (nI e91) (by first | assumption | rfl | exact congrArg nI (by omega) | (simp (disch := omega) only [rI, rIe, rA, rIA, rLA, rJA, rVI, rQI, rVA, rQA, upd_at,  rAI, rLI, rJI, nI_add, pk_sub, kc_0, kc_1, kc_2, kc_3, kc_4, kc_5, reduceIte, Nat.reduceEqDiff, Nat.add_zero, rI_hold, rI_hold, rL_hold, ht, he91]; done)) ?_
  refine Bod.ic 1 (by decide) dc_414_82 ?_
  refine Bod.icT dc_414_83 rfl (k2_ne_T (k_ne e91 1 rfl rfl (by omega) (by omega) (by omega))) ?_
  refine Bod.aldnG dc_414_90 (by repeat (first | exact q0 | exact sm_get_p1 | exact sm_get_p2e | refine sm_get_p1m (by decide) (by decide) ?_ | refine sm_get_p1n (by decide) rfl ?_ | refine sm_get_p2n (by decide) (by decide) rfl ?_ | refine sm_get_p2m (by decide) (by decide) (by decide) ?_)) ?_
  refine Bod.get dc_414_91 fr_414_546 (mk_61 _) rfl ?_
  refine Bod.ildG dc_414_94 (by repeat (first | exact q4 | exact sm_get_p1 | exact sm_get_p2e | refine sm_get_p1m (by decide) (by decide) ?_ | refine sm_get_p1n (by decide) rfl ?_ | refine sm_get_p2n (by decide) (by decide) rfl ?_ | refine sm_get_p2m (by decide) (by decide) (by decide) ?_)) ?_
  refine Bod.laldN ni rfl (by omega) (by omega) dc_414_96 (mk_93 _) ?_
  refine Bod.lst dc_414_97 (by rw [ml_414]; exact Nat.le_of_ble_eq_true rfl) ?_
  refine Bod.aldnG dc_414_99 (by repeat (first | exact q3 | exact sm_get_p1 | exact sm_get_p2e | refine sm_get_p1m (by decide) (by decide) ?_ | refine sm_get_p1n (by decide) rfl ?_ | refine sm_get_p2n (by decide) (by decide) rfl ?_ | refine sm_get_p2m (by decide) (by decide) (by decide) ?_)) ?_
  refine Bod.aldnG dc_414_100 (by repeat (first | exact q0 | exact sm_get_p1 | exact sm_get_p2e | refine sm_get_p1m (by decide) (by decide) ?_ | refine sm_get_p1n (by decide) rfl ?_ | refine sm_get_p2n (by decide) (by decide) rfl ?_ | refine sm_get_p2m (by decide) (by decide) (by decide) ?_)) ?_
  refine Bod.get dc_414_101 fr_414_496 (mk_61 _) rfl ?_
  refine Bod.ildG dc_414_104 (by repeat (first | exact q4 | exact sm_get_p1 | exact sm_get_p2e | refine sm_get_p1m (by decide) (by decide) ?_ | refine sm_get_p1n (by decide) rfl ?_ | refine sm_get_p2n (by decide) (by decide) rfl ?_ | refine sm_get_p2m (by decide) (by decide) (by decide) ?_)) ?_
  refine Bod.ialdN ni rfl (by omega) (by omega) dc_414_106 (mk_91 _) ?_
  refine Bod.eqI (nI e91) (by first | assumption | rfl | exact congrArg nI (by omega) | (simp (disch := omega) only [rI, rIe, rA, rIA, rLA, rJA, rVI, rQI, rVA, rQA, upd_at,  rAI, rLI, rJI, nI_add, pk_sub, kc_0, kc_1, kc_2, kc_3, kc_4, kc_5, reduceIte, Nat.reduceEqDiff, Nat.add_zero, rI_hold, rI_hold, rL_hold, ht, he91]; done)) ?_
  refine Bod.aldnG dc_414_107 (by repeat (first | exact q0 | exact sm_get_p1 | exact sm_get_p2e | refine sm_get_p1m (by decide) (by decide) ?_ | refine sm_get_p1n (by decide) rfl ?_ | refine sm_get_p2n (by decide) (by decide) rfl ?_ | refine sm_get_p2m (by decide) (by decide) (by decide) ?_)) ?_
  refine Bod.get dc_414_108 fr_414_499 (mk_61 _) rfl ?_
  refine Bod.ildG dc_414_111 (by repeat (first | exact q4 | exact sm_get_p1 | exact sm_get_p2e | refine sm_get_p1m (by decide) (by decide) ?_ | refine sm_get_p1n (by decide) rfl ?_ | refine sm_get_p2n (by decide) (by decide) rfl ?_ | refine sm_get_p2m (by decide) (by decide) (by decide) ?_)) ?_
  refine Bod.laldN ni rfl (by omega) (by omega) dc_414_113 (mk_92 _) ?_
  refine Bod.lldG dc_414_114 (by repeat (first | exact q0 | exact sm_get_p1 | exact sm_get_p2e | refine sm_get_p1m (by decide) (by decide) ?_ | refine sm_get_p1n (by decide) rfl ?_ | refine sm_get_p2n (by decide) (by decide) rfl ?_ | refine sm_get_p2m (by decide) (by decide) (by decide) ?_)) ?_
  refine Bod.virt (r := []) dc_414_116 kr_414_764 ⟨Or.inl rfl, ow_399, cl_13⟩ (by rw [np_399]; rfl) (by rw [np_399]; rfl) (ob_of (mk_thing ag (by first | exact hz1 | (simp only [rIS, rJS, rAS, rLS, rVS, rQS, rS_hold]; exact hz1)))) (Nat.le_of_ble_eq_true rfl) (c1  ) ?_
  show Bod _ _ _ _ [_] _ _ _
  refine Bod.ist dc_414_119 (by rw [ml_414]; exact Nat.le_of_ble_eq_true rfl) ?_
  refine Bod.ildG dc_414_121 (by repeat (first | exact q0 | exact sm_get_p1 | exact sm_get_p2e | refine sm_get_p1m (by decide) (by decide) ?_ | refine sm_get_p1n (by decide) rfl ?_ | refine sm_get_p2n (by decide) (by decide) rfl ?_ | refine sm_get_p2m (by decide) (by decide) (by decide) ?_)) ?_
  refine Bod.ifT dc_414_123 rfl (k1_ge_T a rfl (by omega)) ?_
  refine Bod.aldnG dc_414_161 (by repeat (first | exact q3 | exact sm_get_p1 | exact sm_get_p2e | refine sm_get_p1m (by decide) (by decide) ?_ | refine sm_get_p1n (by decide) rfl ?_ | refine sm_get_p2n (by decide) (by decide) rfl ?_ | refine sm_get_p2m (by decide) (by decide) (by decide) ?_)) ?_
  refine Bod.ildG dc_414_162 (by repeat (first | exact q0 | exact sm_get_p1 | exact sm_get_p2e | refine sm_get_p1m (by decide) (by decide) ?_ | refine sm_get_p1n (by decide) rfl ?_ | refine sm_get_p2n (by decide) (by decide) rfl ?_ | refine sm_get_p2m (by decide) (by decide) (by decide) ?_)) ?_
  refine Bod.aldnG dc_414_164 (by repeat (first | exact q0 | exact sm_get_p1 | exact sm_get_p2e | refine sm_get_p1m (by decide) (by decide) ?_ | refine sm_get_p1n (by decide) rfl ?_ | refine sm_get_p2n (by decide) (by decide) rfl ?_ | refine sm_get_p2m (by decide) (by decide) (by decide) ?_)) ?_
  refine Bod.get dc_414_165 fr_414_496 (mk_61 _) rfl ?_
  refine Bod.ildG dc_414_168 (by repeat (first | exact q4 | exact sm_get_p1 | exact sm_get_p2e | refine sm_get_p1m (by decide) (by decide) ?_ | refine sm_get_p1n (by decide) rfl ?_ | refine sm_get_p2n (by decide) (by decide) rfl ?_ | refine sm_get_p2m (by decide) (by decide) (by decide) ?_)) ?_
  refine Bod.ic 1 (by decide) dc_414_170 ?_
  refine Bod.addN (ni + 1) (by omega) dc_414_171 ?_
  refine Bod.ialdN (ni + 1) rfl (by omega) (by omega) dc_414_172 (mk_91 _) ?_
  refine Bod.eqI (nI e911) (by first | assumption | (simp (disch := omega) only [rI, rIe, rA, rIA, rLA, rJA, rVI, rQI, rVA, rQA, upd_at,  rAI, rLI, rJI, nI_add, pk_sub, kc_0, kc_1, kc_2, kc_3, kc_4, kc_5, reduceIte, Nat.reduceEqDiff, Nat.add_zero, rI_hold, rI_hold, rL_hold, ht, he91, he911]; done) | (simp (disch := omega) only [rI, rIe, rA, rIA, rLA, rJA, rVI, rQI, rVA, rQA, upd_at,  rAI, rLI, rJI, nI_add, pk_sub, kc_0, kc_1, kc_2, kc_3, kc_4, kc_5, reduceIte, Nat.reduceEqDiff, Nat.add_zero, rI_hold, rI_hold, rL_hold, ht, he91, he911]; exact congrArg nI (by omega))) ?_
  refine Bod.aldnG dc_414_173 (by repeat (first | exact q0 | exact sm_get_p1 | exact sm_get_p2e | refine sm_get_p1m (by decide) (by decide) ?_ | refine sm_get_p1n (by decide) rfl ?_ | refine sm_get_p2n (by decide) (by decide) rfl ?_ | refine sm_get_p2m (by decide) (by decide) (by decide) ?_)) ?_
  refine Bod.get dc_414_174 fr_414_499 (mk_61 _) rfl ?_
  refine Bod.ildG dc_414_177 (by repeat (first | exact q4 | exact sm_get_p1 | exact sm_get_p2e | refine sm_get_p1m (by decide) (by decide) ?_ | refine sm_get_p1n (by decide) rfl ?_ | refine sm_get_p2n (by decide) (by decide) rfl ?_ | refine sm_get_p2m (by decide) (by decide) (by decide) ?_)) ?_
  refine Bod.ic 1 (by decide) dc_414_179 ?_
  refine Bod.addN (ni + 1) (by omega) dc_414_180 ?_
  refine Bod.laldN (ni + 1) rfl (by omega) (by omega) dc_414_181 (mk_92 _) ?_
  refine Bod.aldnG dc_414_182 (by repeat (first | exact q0 | exact sm_get_p1 | exact sm_get_p2e | refine sm_get_p1m (by decide) (by decide) ?_ | refine sm_get_p1n (by decide) rfl ?_ | refine sm_get_p2n (by decide) (by decide) rfl ?_ | refine sm_get_p2m (by decide) (by decide) (by decide) ?_)) ?_
  refine Bod.get dc_414_183 fr_414_546 (mk_61 _) rfl ?_
  refine Bod.ildG dc_414_186 (by repeat (first | exact q4 | exact sm_get_p1 | exact sm_get_p2e | refine sm_get_p1m (by decide) (by decide) ?_ | refine sm_get_p1n (by decide) rfl ?_ | refine sm_get_p2n (by decide) (by decide) rfl ?_ | refine sm_get_p2m (by decide) (by decide) (by decide) ?_)) ?_
  refine Bod.ic 1 (by decide) dc_414_188 ?_
  refine Bod.addN (ni + 1) (by omega) dc_414_189 ?_
  refine Bod.laldN (ni + 1) rfl (by omega) (by omega) dc_414_190 (mk_93 _) ?_
  refine Bod.virt (r := []) dc_414_191 kr_414_699 ⟨Or.inl rfl, ow_358, cl_13⟩ (by rw [np_358]; rfl) (by rw [np_358]; rfl) (ob_of (mk_thing ag (by first | exact hz2 | (simp only [rIS, rJS, rAS, rLS, rVS, rQS, rS_hold]; exact hz2)))) (Nat.le_of_ble_eq_true rfl) (c2  ) ?_
  show Bod _ _ _ _ [] _ _ _
  refine Bod.incN (ni + 2) (by rw [kc_2, nI_add]) dc_414_194 (by rw [ml_414]; exact Nat.le_of_ble_eq_true rfl) (by repeat (first | exact q4 | exact sm_get_p1 | exact sm_get_p2e | refine sm_get_p1m (by decide) (by decide) ?_ | refine sm_get_p1n (by decide) rfl ?_ | refine sm_get_p2n (by decide) (by decide) rfl ?_ | refine sm_get_p2m (by decide) (by decide) (by decide) ?_)) ?_
  refine Bod.go dc_414_197 rfl ?_
  exact hB _ (by repeat (first | exact q0 | exact sm_get_p1 | exact sm_get_p2e | refine sm_get_p1m (by decide) (by decide) ?_ | refine sm_get_p1n (by decide) rfl ?_ | refine sm_get_p2n (by decide) (by decide) rfl ?_ | refine sm_get_p2m (by decide) (by decide) (by decide) ?_)) (by repeat (first | exact q1 | exact sm_get_p1 | exact sm_get_p2e | refine sm_get_p1m (by decide) (by decide) ?_ | refine sm_get_p1n (by decide) rfl ?_ | refine sm_get_p2n (by decide) (by decide) rfl ?_ | refine sm_get_p2m (by decide) (by decide) (by decide) ?_)) (by repeat (first | exact q2 | exact sm_get_p1 | exact sm_get_p2e | refine sm_get_p1m (by decide) (by decide) ?_ | refine sm_get_p1n (by decide) rfl ?_ | refine sm_get_p2n (by decide) (by decide) rfl ?_ | refine sm_get_p2m (by decide) (by decide) (by decide) ?_)) (by repeat (first | exact q3 | exact sm_get_p1 | exact sm_get_p2e | refine sm_get_p1m (by decide) (by decide) ?_ | refine sm_get_p1n (by decide) rfl ?_ | refine sm_get_p2n (by decide) (by decide) rfl ?_ | refine sm_get_p2m (by decide) (by decide) (by decide) ?_)) (by repeat (first | exact q0 | exact sm_get_p1 | exact sm_get_p2e | refine sm_get_p1m (by decide) (by decide) ?_ | refine sm_get_p1n (by decide) rfl ?_ | refine sm_get_p2n (by decide) (by decide) rfl ?_ | refine sm_get_p2m (by decide) (by decide) (by decide) ?_))
theorem rMdL_3 {d : Nat} {S Sf : cS} {v : Option Value} {lv : sm_L} {g : Nat} {zg : Nat} {nn : Nat} {dd : Nat} {ni : Nat} {t : Nat} {e91 : Nat} {S1 : cS} {fd1 : Nat} {S2 : cS} {e911 : Nat} {S3 : cS} {e912 : Nat} {S4 : cS} (q0 : sm_get lv 0 = some (.ref 61)) (q1 : sm_get lv 1 = some (.int (nI nn))) (q2 : sm_get lv 2 = some (.int (nI dd))) (q3 : sm_get lv 3 = some (.ref g)) (q4 : sm_get lv 4 = some (.int (nI ni))) (mnn : nn < 2 ^ 20) (mdd : dd < 2 ^ 20) (mni : ni < 2 ^ 20) (ag : 108 ≤ g) (ht : sI S 6151 = nI t) (mt : t < 20481) (b1 : ni < t) (b2 : ni < 20480) (he91 : sA S 91 ni = nI e91) (me91 : e91 < 2 ^ 20) (b3 : e91 ≠ 1) (c1 : Ans (d + 8) 399 [.ref g, .int (nI e91), .long (sL S 92 ni), .long (sL S 93 ni)] S (some (.int (Int32.ofInt (-1)))) S1) (hz1 : (sS S)[g - 108]? = some (13, zg)) (hz2 : (sS S1)[g - 108]? = some (13, zg)) (hfd1 : sI S1 (100 * g + 1) = nI fd1) (mfd1 : fd1 < 2 ^ 20) (c2 : Ans (d + 8) 375 [.ref g, .int (nI 0), .long 0, .long 0] S1 none S2) (he911 : sA S2 91 ni = nI e911) (me911 : e911 < 2 ^ 20) (c3 : Ans (d + 8) 377 [.ref g, .int (nI fd1), .int (nI e911), .long (sL S2 92 ni), .long (sL S 93 ni)] S2 none S3) (hz3 : (sS S2)[g - 108]? = some (13, zg)) (b4 : ni + 1 < 20480) (he912 : sA S3 91 (ni + 1) = nI e912) (me912 : e912 < 2 ^ 20) (c4 : Ans (d + 8) 358 [.ref g, .int (nI fd1), .int (nI e912), .long (sL S3 92 (ni + 1)), .long (sL S3 93 (ni + 1))] S3 none S4) (hz4 : (sS S3)[g - 108]? = some (13, zg)) (hB : ∀ lv1 : sm_L, sm_get lv1 0 = some (.ref 61) → sm_get lv1 1 = some (.int (nI nn)) → sm_get lv1 2 = some (.int (nI dd)) → sm_get lv1 3 = some (.ref g) → sm_get lv1 4 = some (.int (nI (ni + 2))) → Bod (d + 8) 414 66 lv1 [] (S4) v Sf) : Bod (d + 8) 414 66 lv [] S v Sf := by
  refine Bod.ildG dc_414_66 (by repeat (first | exact q4 | exact sm_get_p1 | exact sm_get_p2e | refine sm_get_p1m (by decide) (by decide) ?_ | refine sm_get_p1n (by decide) rfl ?_ | refine sm_get_p2n (by decide) (by decide) rfl ?_ | refine sm_get_p2m (by decide) (by decide) (by decide) ?_)) ?_
  refine Bod.aldnG dc_414_68 (by repeat (first | exact q0 | exact sm_get_p1 | exact sm_get_p2e | refine sm_get_p1m (by decide) (by decide) ?_ | refine sm_get_p1n (by decide) rfl ?_ | refine sm_get_p2n (by decide) (by decide) rfl ?_ | refine sm_get_p2m (by decide) (by decide) (by decide) ?_)) ?_
  refine Bod.get dc_414_69 fr_414_493 (mk_61 _) rfl ?_
  refine Bod.eqI (nI t) (by first | assumption | rfl | exact congrArg nI (by omega) | (simp (disch := omega) only [rI, rIe, rA, rIA, rLA, rJA, rVI, rQI, rVA, rQA, upd_at,  rAI, rLI, rJI, nI_add, pk_sub, kc_0, kc_1, kc_2, kc_3, kc_4, kc_5, reduceIte, Nat.reduceEqDiff, Nat.add_zero, rI_hold, rI_hold, rL_hold, ht]; done)) ?_
  refine Bod.icF dc_414_72 rfl (k2_ge_F ni t rfl rfl (by omega) (by omega)) ?_
  refine Bod.aldnG dc_414_75 (by repeat (first | exact q0 | exact sm_get_p1 | exact sm_get_p2e | refine sm_get_p1m (by decide) (by decide) ?_ | refine sm_get_p1n (by decide) rfl ?_ | refine sm_get_p2n (by decide) (by decide) rfl ?_ | refine sm_get_p2m (by decide) (by decide) (by decide) ?_)) ?_
  refine Bod.get dc_414_76 fr_414_496 (mk_61 _) rfl ?_
  refine Bod.ildG dc_414_79 (by repeat (first | exact q4 | exact sm_get_p1 | exact sm_get_p2e | refine sm_get_p1m (by decide) (by decide) ?_ | refine sm_get_p1n (by decide) rfl ?_ | refine sm_get_p2n (by decide) (by decide) rfl ?_ | refine sm_get_p2m (by decide) (by decide) (by decide) ?_)) ?_
  refine Bod.ialdN ni rfl (by omega) (by omega) dc_414_81 (mk_91 _) ?_
  refine Bod.eqI (nI e91) (by first | assumption | rfl | exact congrArg nI (by omega) | (simp (disch := omega) only [rI, rIe, rA, rIA, rLA, rJA, rVI, rQI, rVA, rQA, upd_at,  rAI, rLI, rJI, nI_add, pk_sub, kc_0, kc_1, kc_2, kc_3, kc_4, kc_5, reduceIte, Nat.reduceEqDiff, Nat.add_zero, rI_hold, rI_hold, rL_hold, ht, he91]; done)) ?_
  refine Bod.ic 1 (by decide) dc_414_82 ?_
  refine Bod.icT dc_414_83 rfl (k2_ne_T (k_ne e91 1 rfl rfl (by omega) (by omega) (by omega))) ?_
  refine Bod.aldnG dc_414_90 (by repeat (first | exact q0 | exact sm_get_p1 | exact sm_get_p2e | refine sm_get_p1m (by decide) (by decide) ?_ | refine sm_get_p1n (by decide) rfl ?_ | refine sm_get_p2n (by decide) (by decide) rfl ?_ | refine sm_get_p2m (by decide) (by decide) (by decide) ?_)) ?_
  refine Bod.get dc_414_91 fr_414_546 (mk_61 _) rfl ?_
  refine Bod.ildG dc_414_94 (by repeat (first | exact q4 | exact sm_get_p1 | exact sm_get_p2e | refine sm_get_p1m (by decide) (by decide) ?_ | refine sm_get_p1n (by decide) rfl ?_ | refine sm_get_p2n (by decide) (by decide) rfl ?_ | refine sm_get_p2m (by decide) (by decide) (by decide) ?_)) ?_
  refine Bod.laldN ni rfl (by omega) (by omega) dc_414_96 (mk_93 _) ?_
  refine Bod.lst dc_414_97 (by rw [ml_414]; exact Nat.le_of_ble_eq_true rfl) ?_
  refine Bod.aldnG dc_414_99 (by repeat (first | exact q3 | exact sm_get_p1 | exact sm_get_p2e | refine sm_get_p1m (by decide) (by decide) ?_ | refine sm_get_p1n (by decide) rfl ?_ | refine sm_get_p2n (by decide) (by decide) rfl ?_ | refine sm_get_p2m (by decide) (by decide) (by decide) ?_)) ?_
  refine Bod.aldnG dc_414_100 (by repeat (first | exact q0 | exact sm_get_p1 | exact sm_get_p2e | refine sm_get_p1m (by decide) (by decide) ?_ | refine sm_get_p1n (by decide) rfl ?_ | refine sm_get_p2n (by decide) (by decide) rfl ?_ | refine sm_get_p2m (by decide) (by decide) (by decide) ?_)) ?_
  refine Bod.get dc_414_101 fr_414_496 (mk_61 _) rfl ?_
  refine Bod.ildG dc_414_104 (by repeat (first | exact q4 | exact sm_get_p1 | exact sm_get_p2e | refine sm_get_p1m (by decide) (by decide) ?_ | refine sm_get_p1n (by decide) rfl ?_ | refine sm_get_p2n (by decide) (by decide) rfl ?_ | refine sm_get_p2m (by decide) (by decide) (by decide) ?_)) ?_
  refine Bod.ialdN ni rfl (by omega) (by omega) dc_414_106 (mk_91 _) ?_
  refine Bod.eqI (nI e91) (by first | assumption | rfl | exact congrArg nI (by omega) | (simp (disch := omega) only [rI, rIe, rA, rIA, rLA, rJA, rVI, rQI, rVA, rQA, upd_at,  rAI, rLI, rJI, nI_add, pk_sub, kc_0, kc_1, kc_2, kc_3, kc_4, kc_5, reduceIte, Nat.reduceEqDiff, Nat.add_zero, rI_hold, rI_hold, rL_hold, ht, he91]; done)) ?_
  refine Bod.aldnG dc_414_107 (by repeat (first | exact q0 | exact sm_get_p1 | exact sm_get_p2e | refine sm_get_p1m (by decide) (by decide) ?_ | refine sm_get_p1n (by decide) rfl ?_ | refine sm_get_p2n (by decide) (by decide) rfl ?_ | refine sm_get_p2m (by decide) (by decide) (by decide) ?_)) ?_
  refine Bod.get dc_414_108 fr_414_499 (mk_61 _) rfl ?_
  refine Bod.ildG dc_414_111 (by repeat (first | exact q4 | exact sm_get_p1 | exact sm_get_p2e | refine sm_get_p1m (by decide) (by decide) ?_ | refine sm_get_p1n (by decide) rfl ?_ | refine sm_get_p2n (by decide) (by decide) rfl ?_ | refine sm_get_p2m (by decide) (by decide) (by decide) ?_)) ?_
  refine Bod.laldN ni rfl (by omega) (by omega) dc_414_113 (mk_92 _) ?_
  refine Bod.lldG dc_414_114 (by repeat (first | exact q0 | exact sm_get_p1 | exact sm_get_p2e | refine sm_get_p1m (by decide) (by decide) ?_ | refine sm_get_p1n (by decide) rfl ?_ | refine sm_get_p2n (by decide) (by decide) rfl ?_ | refine sm_get_p2m (by decide) (by decide) (by decide) ?_)) ?_
  refine Bod.virt (r := []) dc_414_116 kr_414_764 ⟨Or.inl rfl, ow_399, cl_13⟩ (by rw [np_399]; rfl) (by rw [np_399]; rfl) (ob_of (mk_thing ag (by first | exact hz1 | (simp only [rIS, rJS, rAS, rLS, rVS, rQS, rS_hold]; exact hz1)))) (Nat.le_of_ble_eq_true rfl) (c1  ) ?_
  show Bod _ _ _ _ [_] _ _ _
  refine Bod.ist dc_414_119 (by rw [ml_414]; exact Nat.le_of_ble_eq_true rfl) ?_
  refine Bod.ildG dc_414_121 (by repeat (first | exact q0 | exact sm_get_p1 | exact sm_get_p2e | refine sm_get_p1m (by decide) (by decide) ?_ | refine sm_get_p1n (by decide) rfl ?_ | refine sm_get_p2n (by decide) (by decide) rfl ?_ | refine sm_get_p2m (by decide) (by decide) (by decide) ?_)) ?_
  refine Bod.ifF dc_414_123 rfl (by decide) ?_
  refine Bod.aldnG dc_414_126 (by repeat (first | exact q3 | exact sm_get_p1 | exact sm_get_p2e | refine sm_get_p1m (by decide) (by decide) ?_ | refine sm_get_p1n (by decide) rfl ?_ | refine sm_get_p2n (by decide) (by decide) rfl ?_ | refine sm_get_p2m (by decide) (by decide) (by decide) ?_)) ?_
  refine Bod.get dc_414_127 fr_414_459 (mk_thing ag (by first | exact hz2 | (simp only [rIS, rJS, rAS, rLS, rVS, rQS, rS_hold]; exact hz2))) rfl ?_
  refine Bod.eqI (nI fd1) (by first | assumption | (simp (disch := omega) only [rI, rIe, rA, rIA, rLA, rJA, rVI, rQI, rVA, rQA, upd_at,  rAI, rLI, rJI, nI_add, pk_sub, kc_0, kc_1, kc_2, kc_3, kc_4, kc_5, reduceIte, Nat.reduceEqDiff, Nat.add_zero, rI_hold, rI_hold, rL_hold, ht, he91, hfd1]; done) | (simp (disch := omega) only [rI, rIe, rA, rIA, rLA, rJA, rVI, rQI, rVA, rQA, upd_at,  rAI, rLI, rJI, nI_add, pk_sub, kc_0, kc_1, kc_2, kc_3, kc_4, kc_5, reduceIte, Nat.reduceEqDiff, Nat.add_zero, rI_hold, rI_hold, rL_hold, ht, he91, hfd1]; exact congrArg nI (by omega))) ?_
  refine Bod.ist dc_414_130 (by rw [ml_414]; exact Nat.le_of_ble_eq_true rfl) ?_
  refine Bod.aldnG dc_414_132 (by repeat (first | exact q3 | exact sm_get_p1 | exact sm_get_p2e | refine sm_get_p1m (by decide) (by decide) ?_ | refine sm_get_p1n (by decide) rfl ?_ | refine sm_get_p2n (by decide) (by decide) rfl ?_ | refine sm_get_p2m (by decide) (by decide) (by decide) ?_)) ?_
  refine Bod.ic 0 (by decide) dc_414_133 ?_
  refine Bod.go dc_414_134 rfl ?_
  refine Bod.go dc_414_135 rfl ?_
  refine Bod.virt (r := []) dc_414_136 kr_414_759 ⟨Or.inl rfl, ow_375, cl_13⟩ (by rw [np_375]; rfl) (by rw [np_375]; rfl) (ob_of (mk_thing ag (by first | exact hz2 | (simp only [rIS, rJS, rAS, rLS, rVS, rQS, rS_hold]; exact hz2)))) (Nat.le_of_ble_eq_true rfl) (c2  ) ?_
  show Bod _ _ _ _ [] _ _ _
  refine Bod.aldnG dc_414_139 (by repeat (first | exact q3 | exact sm_get_p1 | exact sm_get_p2e | refine sm_get_p1m (by decide) (by decide) ?_ | refine sm_get_p1n (by decide) rfl ?_ | refine sm_get_p2n (by decide) (by decide) rfl ?_ | refine sm_get_p2m (by decide) (by decide) (by decide) ?_)) ?_
  refine Bod.ildG dc_414_140 (by repeat (first | exact q0 | exact sm_get_p1 | exact sm_get_p2e | refine sm_get_p1m (by decide) (by decide) ?_ | refine sm_get_p1n (by decide) rfl ?_ | refine sm_get_p2n (by decide) (by decide) rfl ?_ | refine sm_get_p2m (by decide) (by decide) (by decide) ?_)) ?_
  refine Bod.aldnG dc_414_142 (by repeat (first | exact q0 | exact sm_get_p1 | exact sm_get_p2e | refine sm_get_p1m (by decide) (by decide) ?_ | refine sm_get_p1n (by decide) rfl ?_ | refine sm_get_p2n (by decide) (by decide) rfl ?_ | refine sm_get_p2m (by decide) (by decide) (by decide) ?_)) ?_
  refine Bod.get dc_414_143 fr_414_496 (mk_61 _) rfl ?_
  refine Bod.ildG dc_414_146 (by repeat (first | exact q4 | exact sm_get_p1 | exact sm_get_p2e | refine sm_get_p1m (by decide) (by decide) ?_ | refine sm_get_p1n (by decide) rfl ?_ | refine sm_get_p2n (by decide) (by decide) rfl ?_ | refine sm_get_p2m (by decide) (by decide) (by decide) ?_)) ?_
  refine Bod.ialdN ni rfl (by omega) (by omega) dc_414_148 (mk_91 _) ?_
  refine Bod.eqI (nI e911) (by first | assumption | (simp (disch := omega) only [rI, rIe, rA, rIA, rLA, rJA, rVI, rQI, rVA, rQA, upd_at,  rAI, rLI, rJI, nI_add, pk_sub, kc_0, kc_1, kc_2, kc_3, kc_4, kc_5, reduceIte, Nat.reduceEqDiff, Nat.add_zero, rI_hold, rI_hold, rL_hold, ht, he91, hfd1, he911]; done) | (simp (disch := omega) only [rI, rIe, rA, rIA, rLA, rJA, rVI, rQI, rVA, rQA, upd_at,  rAI, rLI, rJI, nI_add, pk_sub, kc_0, kc_1, kc_2, kc_3, kc_4, kc_5, reduceIte, Nat.reduceEqDiff, Nat.add_zero, rI_hold, rI_hold, rL_hold, ht, he91, hfd1, he911]; exact congrArg nI (by omega))) ?_
  refine Bod.aldnG dc_414_149 (by repeat (first | exact q0 | exact sm_get_p1 | exact sm_get_p2e | refine sm_get_p1m (by decide) (by decide) ?_ | refine sm_get_p1n (by decide) rfl ?_ | refine sm_get_p2n (by decide) (by decide) rfl ?_ | refine sm_get_p2m (by decide) (by decide) (by decide) ?_)) ?_
  refine Bod.get dc_414_150 fr_414_499 (mk_61 _) rfl ?_
  refine Bod.ildG dc_414_153 (by repeat (first | exact q4 | exact sm_get_p1 | exact sm_get_p2e | refine sm_get_p1m (by decide) (by decide) ?_ | refine sm_get_p1n (by decide) rfl ?_ | refine sm_get_p2n (by decide) (by decide) rfl ?_ | refine sm_get_p2m (by decide) (by decide) (by decide) ?_)) ?_
  refine Bod.laldN ni rfl (by omega) (by omega) dc_414_155 (mk_92 _) ?_
  refine Bod.lldG dc_414_156 (by repeat (first | exact q0 | exact sm_get_p1 | exact sm_get_p2e | refine sm_get_p1m (by decide) (by decide) ?_ | refine sm_get_p1n (by decide) rfl ?_ | refine sm_get_p2n (by decide) (by decide) rfl ?_ | refine sm_get_p2m (by decide) (by decide) (by decide) ?_)) ?_
  refine Bod.virt (r := []) dc_414_158 kr_414_771 ⟨Or.inl rfl, ow_377, cl_13⟩ (by rw [np_377]; rfl) (by rw [np_377]; rfl) (ob_of (mk_thing ag (by first | exact hz3 | (simp only [rIS, rJS, rAS, rLS, rVS, rQS, rS_hold]; exact hz3)))) (Nat.le_of_ble_eq_true rfl) (c3  ) ?_
  show Bod _ _ _ _ [] _ _ _
  refine Bod.aldnG dc_414_161 (by repeat (first | exact q3 | exact sm_get_p1 | exact sm_get_p2e | refine sm_get_p1m (by decide) (by decide) ?_ | refine sm_get_p1n (by decide) rfl ?_ | refine sm_get_p2n (by decide) (by decide) rfl ?_ | refine sm_get_p2m (by decide) (by decide) (by decide) ?_)) ?_
  refine Bod.ildG dc_414_162 (by repeat (first | exact q0 | exact sm_get_p1 | exact sm_get_p2e | refine sm_get_p1m (by decide) (by decide) ?_ | refine sm_get_p1n (by decide) rfl ?_ | refine sm_get_p2n (by decide) (by decide) rfl ?_ | refine sm_get_p2m (by decide) (by decide) (by decide) ?_)) ?_
  refine Bod.aldnG dc_414_164 (by repeat (first | exact q0 | exact sm_get_p1 | exact sm_get_p2e | refine sm_get_p1m (by decide) (by decide) ?_ | refine sm_get_p1n (by decide) rfl ?_ | refine sm_get_p2n (by decide) (by decide) rfl ?_ | refine sm_get_p2m (by decide) (by decide) (by decide) ?_)) ?_
  refine Bod.get dc_414_165 fr_414_496 (mk_61 _) rfl ?_
  refine Bod.ildG dc_414_168 (by repeat (first | exact q4 | exact sm_get_p1 | exact sm_get_p2e | refine sm_get_p1m (by decide) (by decide) ?_ | refine sm_get_p1n (by decide) rfl ?_ | refine sm_get_p2n (by decide) (by decide) rfl ?_ | refine sm_get_p2m (by decide) (by decide) (by decide) ?_)) ?_
  refine Bod.ic 1 (by decide) dc_414_170 ?_
  refine Bod.addN (ni + 1) (by omega) dc_414_171 ?_
  refine Bod.ialdN (ni + 1) rfl (by omega) (by omega) dc_414_172 (mk_91 _) ?_
  refine Bod.eqI (nI e912) (by first | assumption | (simp (disch := omega) only [rI, rIe, rA, rIA, rLA, rJA, rVI, rQI, rVA, rQA, upd_at,  rAI, rLI, rJI, nI_add, pk_sub, kc_0, kc_1, kc_2, kc_3, kc_4, kc_5, reduceIte, Nat.reduceEqDiff, Nat.add_zero, rI_hold, rI_hold, rL_hold, ht, he91, hfd1, he911, he912]; done) | (simp (disch := omega) only [rI, rIe, rA, rIA, rLA, rJA, rVI, rQI, rVA, rQA, upd_at,  rAI, rLI, rJI, nI_add, pk_sub, kc_0, kc_1, kc_2, kc_3, kc_4, kc_5, reduceIte, Nat.reduceEqDiff, Nat.add_zero, rI_hold, rI_hold, rL_hold, ht, he91, hfd1, he911, he912]; exact congrArg nI (by omega))) ?_
  refine Bod.aldnG dc_414_173 (by repeat (first | exact q0 | exact sm_get_p1 | exact sm_get_p2e | refine sm_get_p1m (by decide) (by decide) ?_ | refine sm_get_p1n (by decide) rfl ?_ | refine sm_get_p2n (by decide) (by decide) rfl ?_ | refine sm_get_p2m (by decide) (by decide) (by decide) ?_)) ?_
  refine Bod.get dc_414_174 fr_414_499 (mk_61 _) rfl ?_
  refine Bod.ildG dc_414_177 (by repeat (first | exact q4 | exact sm_get_p1 | exact sm_get_p2e | refine sm_get_p1m (by decide) (by decide) ?_ | refine sm_get_p1n (by decide) rfl ?_ | refine sm_get_p2n (by decide) (by decide) rfl ?_ | refine sm_get_p2m (by decide) (by decide) (by decide) ?_)) ?_
  refine Bod.ic 1 (by decide) dc_414_179 ?_
  refine Bod.addN (ni + 1) (by omega) dc_414_180 ?_
  refine Bod.laldN (ni + 1) rfl (by omega) (by omega) dc_414_181 (mk_92 _) ?_
  refine Bod.aldnG dc_414_182 (by repeat (first | exact q0 | exact sm_get_p1 | exact sm_get_p2e | refine sm_get_p1m (by decide) (by decide) ?_ | refine sm_get_p1n (by decide) rfl ?_ | refine sm_get_p2n (by decide) (by decide) rfl ?_ | refine sm_get_p2m (by decide) (by decide) (by decide) ?_)) ?_
  refine Bod.get dc_414_183 fr_414_546 (mk_61 _) rfl ?_
  refine Bod.ildG dc_414_186 (by repeat (first | exact q4 | exact sm_get_p1 | exact sm_get_p2e | refine sm_get_p1m (by decide) (by decide) ?_ | refine sm_get_p1n (by decide) rfl ?_ | refine sm_get_p2n (by decide) (by decide) rfl ?_ | refine sm_get_p2m (by decide) (by decide) (by decide) ?_)) ?_
  refine Bod.ic 1 (by decide) dc_414_188 ?_
  refine Bod.addN (ni + 1) (by omega) dc_414_189 ?_
  refine Bod.laldN (ni + 1) rfl (by omega) (by omega) dc_414_190 (mk_93 _) ?_
  refine Bod.virt (r := []) dc_414_191 kr_414_699 ⟨Or.inl rfl, ow_358, cl_13⟩ (by rw [np_358]; rfl) (by rw [np_358]; rfl) (ob_of (mk_thing ag (by first | exact hz4 | (simp only [rIS, rJS, rAS, rLS, rVS, rQS, rS_hold]; exact hz4)))) (Nat.le_of_ble_eq_true rfl) (c4  ) ?_
  show Bod _ _ _ _ [] _ _ _
  refine Bod.incN (ni + 2) (by rw [kc_2, nI_add]) dc_414_194 (by rw [ml_414]; exact Nat.le_of_ble_eq_true rfl) (by repeat (first | exact q4 | exact sm_get_p1 | exact sm_get_p2e | refine sm_get_p1m (by decide) (by decide) ?_ | refine sm_get_p1n (by decide) rfl ?_ | refine sm_get_p2n (by decide) (by decide) rfl ?_ | refine sm_get_p2m (by decide) (by decide) (by decide) ?_)) ?_
  refine Bod.go dc_414_197 rfl ?_
  exact hB _ (by repeat (first | exact q0 | exact sm_get_p1 | exact sm_get_p2e | refine sm_get_p1m (by decide) (by decide) ?_ | refine sm_get_p1n (by decide) rfl ?_ | refine sm_get_p2n (by decide) (by decide) rfl ?_ | refine sm_get_p2m (by decide) (by decide) (by decide) ?_)) (by repeat (first | exact q1 | exact sm_get_p1 | exact sm_get_p2e | refine sm_get_p1m (by decide) (by decide) ?_ | refine sm_get_p1n (by decide) rfl ?_ | refine sm_get_p2n (by decide) (by decide) rfl ?_ | refine sm_get_p2m (by decide) (by decide) (by decide) ?_)) (by repeat (first | exact q2 | exact sm_get_p1 | exact sm_get_p2e | refine sm_get_p1m (by decide) (by decide) ?_ | refine sm_get_p1n (by decide) rfl ?_ | refine sm_get_p2n (by decide) (by decide) rfl ?_ | refine sm_get_p2m (by decide) (by decide) (by decide) ?_)) (by repeat (first | exact q3 | exact sm_get_p1 | exact sm_get_p2e | refine sm_get_p1m (by decide) (by decide) ?_ | refine sm_get_p1n (by decide) rfl ?_ | refine sm_get_p2n (by decide) (by decide) rfl ?_ | refine sm_get_p2m (by decide) (by decide) (by decide) ?_)) (by repeat (first | exact q0 | exact sm_get_p1 | exact sm_get_p2e | refine sm_get_p1m (by decide) (by decide) ?_ | refine sm_get_p1n (by decide) rfl ?_ | refine sm_get_p2n (by decide) (by decide) rfl ?_ | refine sm_get_p2m (by decide) (by decide) (by decide) ?_))
theorem rMdL_4 {d : Nat} {S Sf : cS} {v : Option Value} {lv : sm_L} {g : Nat} {zg : Nat} {nn : Nat} {dd : Nat} {ni : Nat} {t : Nat} {e91 : Nat} {S1 : cS} {a : Nat} {e911 : Nat} {S2 : cS} (q0 : sm_get lv 0 = some (.ref 61)) (q1 : sm_get lv 1 = some (.int (nI nn))) (q2 : sm_get lv 2 = some (.int (nI dd))) (q3 : sm_get lv 3 = some (.ref g)) (q4 : sm_get lv 4 = some (.int (nI ni))) (mnn : nn < 2 ^ 20) (mdd : dd < 2 ^ 20) (mni : ni < 2 ^ 20) (ag : 108 ≤ g) (ht : sI S 6151 = nI t) (mt : t < 20481) (b1 : ni < t) (b2 : ni < 20480) (he91 : sA S 91 ni = nI e91) (me91 : e91 < 2 ^ 20) (b3 : e91 = 1) (ma : a < 2 ^ 20) (c1 : Ans (d + 8) 399 [.ref g, .int (nI e91), .long (sL S 92 ni), .long 0] S (some (.int (nI a))) S1) (hz1 : (sS S)[g - 108]? = some (13, zg)) (b4 : ni + 1 < 20480) (he911 : sA S1 91 (ni + 1) = nI e911) (me911 : e911 < 2 ^ 20) (c2 : Ans (d + 8) 358 [.ref g, .int (nI a), .int (nI e911), .long (sL S1 92 (ni + 1)), .long (sL S1 93 (ni + 1))] S1 none S2) (hz2 : (sS S1)[g - 108]? = some (13, zg)) (hB : ∀ lv1 : sm_L, sm_get lv1 0 = some (.ref 61) → sm_get lv1 1 = some (.int (nI nn)) → sm_get lv1 2 = some (.int (nI dd)) → sm_get lv1 3 = some (.ref g) → sm_get lv1 4 = some (.int (nI (ni + 2))) → Bod (d + 8) 414 66 lv1 [] (S2) v Sf) : Bod (d + 8) 414 66 lv [] S v Sf := by
  refine Bod.ildG dc_414_66 (by repeat (first | exact q4 | exact sm_get_p1 | exact sm_get_p2e | refine sm_get_p1m (by decide) (by decide) ?_ | refine sm_get_p1n (by decide) rfl ?_ | refine sm_get_p2n (by decide) (by decide) rfl ?_ | refine sm_get_p2m (by decide) (by decide) (by decide) ?_)) ?_
  refine Bod.aldnG dc_414_68 (by repeat (first | exact q0 | exact sm_get_p1 | exact sm_get_p2e | refine sm_get_p1m (by decide) (by decide) ?_ | refine sm_get_p1n (by decide) rfl ?_ | refine sm_get_p2n (by decide) (by decide) rfl ?_ | refine sm_get_p2m (by decide) (by decide) (by decide) ?_)) ?_
  refine Bod.get dc_414_69 fr_414_493 (mk_61 _) rfl ?_
  refine Bod.eqI (nI t) (by first | assumption | rfl | exact congrArg nI (by omega) | (simp (disch := omega) only [rI, rIe, rA, rIA, rLA, rJA, rVI, rQI, rVA, rQA, upd_at,  rAI, rLI, rJI, nI_add, pk_sub, kc_0, kc_1, kc_2, kc_3, kc_4, kc_5, reduceIte, Nat.reduceEqDiff, Nat.add_zero, rI_hold, rI_hold, rL_hold, ht]; done)) ?_
  refine Bod.icF dc_414_72 rfl (k2_ge_F ni t rfl rfl (by omega) (by omega)) ?_
  refine Bod.aldnG dc_414_75 (by repeat (first | exact q0 | exact sm_get_p1 | exact sm_get_p2e | refine sm_get_p1m (by decide) (by decide) ?_ | refine sm_get_p1n (by decide) rfl ?_ | refine sm_get_p2n (by decide) (by decide) rfl ?_ | refine sm_get_p2m (by decide) (by decide) (by decide) ?_)) ?_
  refine Bod.get dc_414_76 fr_414_496 (mk_61 _) rfl ?_
  refine Bod.ildG dc_414_79 (by repeat (first | exact q4 | exact sm_get_p1 | exact sm_get_p2e | refine sm_get_p1m (by decide) (by decide) ?_ | refine sm_get_p1n (by decide) rfl ?_ | refine sm_get_p2n (by decide) (by decide) rfl ?_ | refine sm_get_p2m (by decide) (by decide) (by decide) ?_)) ?_
  refine Bod.ialdN ni rfl (by omega) (by omega) dc_414_81 (mk_91 _) ?_
  refine Bod.eqI (nI e91) (by first | assumption | rfl | exact congrArg nI (by omega) | (simp (disch := omega) only [rI, rIe, rA, rIA, rLA, rJA, rVI, rQI, rVA, rQA, upd_at,  rAI, rLI, rJI, nI_add, pk_sub, kc_0, kc_1, kc_2, kc_3, kc_4, kc_5, reduceIte, Nat.reduceEqDiff, Nat.add_zero, rI_hold, rI_hold, rL_hold, ht, he91]; done)) ?_
  refine Bod.ic 1 (by decide) dc_414_82 ?_
  refine Bod.icF dc_414_83 rfl (k2_ne_F (k_eq e91 1 rfl rfl (by omega))) ?_
  refine Bod.go dc_414_86 rfl ?_
  refine Bod.go dc_414_87 rfl ?_
  refine Bod.lst dc_414_97 (by rw [ml_414]; exact Nat.le_of_ble_eq_true rfl) ?_
  refine Bod.aldnG dc_414_99 (by repeat (first | exact q3 | exact sm_get_p1 | exact sm_get_p2e | refine sm_get_p1m (by decide) (by decide) ?_ | refine sm_get_p1n (by decide) rfl ?_ | refine sm_get_p2n (by decide) (by decide) rfl ?_ | refine sm_get_p2m (by decide) (by decide) (by decide) ?_)) ?_
  refine Bod.aldnG dc_414_100 (by repeat (first | exact q0 | exact sm_get_p1 | exact sm_get_p2e | refine sm_get_p1m (by decide) (by decide) ?_ | refine sm_get_p1n (by decide) rfl ?_ | refine sm_get_p2n (by decide) (by decide) rfl ?_ | refine sm_get_p2m (by decide) (by decide) (by decide) ?_)) ?_
  refine Bod.get dc_414_101 fr_414_496 (mk_61 _) rfl ?_
  refine Bod.ildG dc_414_104 (by repeat (first | exact q4 | exact sm_get_p1 | exact sm_get_p2e | refine sm_get_p1m (by decide) (by decide) ?_ | refine sm_get_p1n (by decide) rfl ?_ | refine sm_get_p2n (by decide) (by decide) rfl ?_ | refine sm_get_p2m (by decide) (by decide) (by decide) ?_)) ?_
  refine Bod.ialdN ni rfl (by omega) (by omega) dc_414_106 (mk_91 _) ?_
  refine Bod.eqI (nI e91) (by first | assumption | rfl | exact congrArg nI (by omega) | (simp (disch := omega) only [rI, rIe, rA, rIA, rLA, rJA, rVI, rQI, rVA, rQA, upd_at,  rAI, rLI, rJI, nI_add, pk_sub, kc_0, kc_1, kc_2, kc_3, kc_4, kc_5, reduceIte, Nat.reduceEqDiff, Nat.add_zero, rI_hold, rI_hold, rL_hold, ht, he91]; done)) ?_
  refine Bod.aldnG dc_414_107 (by repeat (first | exact q0 | exact sm_get_p1 | exact sm_get_p2e | refine sm_get_p1m (by decide) (by decide) ?_ | refine sm_get_p1n (by decide) rfl ?_ | refine sm_get_p2n (by decide) (by decide) rfl ?_ | refine sm_get_p2m (by decide) (by decide) (by decide) ?_)) ?_
  refine Bod.get dc_414_108 fr_414_499 (mk_61 _) rfl ?_
  refine Bod.ildG dc_414_111 (by repeat (first | exact q4 | exact sm_get_p1 | exact sm_get_p2e | refine sm_get_p1m (by decide) (by decide) ?_ | refine sm_get_p1n (by decide) rfl ?_ | refine sm_get_p2n (by decide) (by decide) rfl ?_ | refine sm_get_p2m (by decide) (by decide) (by decide) ?_)) ?_
  refine Bod.laldN ni rfl (by omega) (by omega) dc_414_113 (mk_92 _) ?_
  refine Bod.lldG dc_414_114 (by repeat (first | exact q0 | exact sm_get_p1 | exact sm_get_p2e | refine sm_get_p1m (by decide) (by decide) ?_ | refine sm_get_p1n (by decide) rfl ?_ | refine sm_get_p2n (by decide) (by decide) rfl ?_ | refine sm_get_p2m (by decide) (by decide) (by decide) ?_)) ?_
  refine Bod.virt (r := []) dc_414_116 kr_414_764 ⟨Or.inl rfl, ow_399, cl_13⟩ (by rw [np_399]; rfl) (by rw [np_399]; rfl) (ob_of (mk_thing ag (by first | exact hz1 | (simp only [rIS, rJS, rAS, rLS, rVS, rQS, rS_hold]; exact hz1)))) (Nat.le_of_ble_eq_true rfl) (c1  ) ?_
  show Bod _ _ _ _ [_] _ _ _
  refine Bod.ist dc_414_119 (by rw [ml_414]; exact Nat.le_of_ble_eq_true rfl) ?_
  refine Bod.ildG dc_414_121 (by repeat (first | exact q0 | exact sm_get_p1 | exact sm_get_p2e | refine sm_get_p1m (by decide) (by decide) ?_ | refine sm_get_p1n (by decide) rfl ?_ | refine sm_get_p2n (by decide) (by decide) rfl ?_ | refine sm_get_p2m (by decide) (by decide) (by decide) ?_)) ?_
  refine Bod.ifT dc_414_123 rfl (k1_ge_T a rfl (by omega)) ?_
  refine Bod.aldnG dc_414_161 (by repeat (first | exact q3 | exact sm_get_p1 | exact sm_get_p2e | refine sm_get_p1m (by decide) (by decide) ?_ | refine sm_get_p1n (by decide) rfl ?_ | refine sm_get_p2n (by decide) (by decide) rfl ?_ | refine sm_get_p2m (by decide) (by decide) (by decide) ?_)) ?_
  refine Bod.ildG dc_414_162 (by repeat (first | exact q0 | exact sm_get_p1 | exact sm_get_p2e | refine sm_get_p1m (by decide) (by decide) ?_ | refine sm_get_p1n (by decide) rfl ?_ | refine sm_get_p2n (by decide) (by decide) rfl ?_ | refine sm_get_p2m (by decide) (by decide) (by decide) ?_)) ?_
  refine Bod.aldnG dc_414_164 (by repeat (first | exact q0 | exact sm_get_p1 | exact sm_get_p2e | refine sm_get_p1m (by decide) (by decide) ?_ | refine sm_get_p1n (by decide) rfl ?_ | refine sm_get_p2n (by decide) (by decide) rfl ?_ | refine sm_get_p2m (by decide) (by decide) (by decide) ?_)) ?_
  refine Bod.get dc_414_165 fr_414_496 (mk_61 _) rfl ?_
  refine Bod.ildG dc_414_168 (by repeat (first | exact q4 | exact sm_get_p1 | exact sm_get_p2e | refine sm_get_p1m (by decide) (by decide) ?_ | refine sm_get_p1n (by decide) rfl ?_ | refine sm_get_p2n (by decide) (by decide) rfl ?_ | refine sm_get_p2m (by decide) (by decide) (by decide) ?_)) ?_
  refine Bod.ic 1 (by decide) dc_414_170 ?_
  refine Bod.addN (ni + 1) (by omega) dc_414_171 ?_
  refine Bod.ialdN (ni + 1) rfl (by omega) (by omega) dc_414_172 (mk_91 _) ?_
  refine Bod.eqI (nI e911) (by first | assumption | (simp (disch := omega) only [rI, rIe, rA, rIA, rLA, rJA, rVI, rQI, rVA, rQA, upd_at,  rAI, rLI, rJI, nI_add, pk_sub, kc_0, kc_1, kc_2, kc_3, kc_4, kc_5, reduceIte, Nat.reduceEqDiff, Nat.add_zero, rI_hold, rI_hold, rL_hold, ht, he91, he911]; done) | (simp (disch := omega) only [rI, rIe, rA, rIA, rLA, rJA, rVI, rQI, rVA, rQA, upd_at,  rAI, rLI, rJI, nI_add, pk_sub, kc_0, kc_1, kc_2, kc_3, kc_4, kc_5, reduceIte, Nat.reduceEqDiff, Nat.add_zero, rI_hold, rI_hold, rL_hold, ht, he91, he911]; exact congrArg nI (by omega))) ?_
  refine Bod.aldnG dc_414_173 (by repeat (first | exact q0 | exact sm_get_p1 | exact sm_get_p2e | refine sm_get_p1m (by decide) (by decide) ?_ | refine sm_get_p1n (by decide) rfl ?_ | refine sm_get_p2n (by decide) (by decide) rfl ?_ | refine sm_get_p2m (by decide) (by decide) (by decide) ?_)) ?_
  refine Bod.get dc_414_174 fr_414_499 (mk_61 _) rfl ?_
  refine Bod.ildG dc_414_177 (by repeat (first | exact q4 | exact sm_get_p1 | exact sm_get_p2e | refine sm_get_p1m (by decide) (by decide) ?_ | refine sm_get_p1n (by decide) rfl ?_ | refine sm_get_p2n (by decide) (by decide) rfl ?_ | refine sm_get_p2m (by decide) (by decide) (by decide) ?_)) ?_
  refine Bod.ic 1 (by decide) dc_414_179 ?_
  refine Bod.addN (ni + 1) (by omega) dc_414_180 ?_
  refine Bod.laldN (ni + 1) rfl (by omega) (by omega) dc_414_181 (mk_92 _) ?_
  refine Bod.aldnG dc_414_182 (by repeat (first | exact q0 | exact sm_get_p1 | exact sm_get_p2e | refine sm_get_p1m (by decide) (by decide) ?_ | refine sm_get_p1n (by decide) rfl ?_ | refine sm_get_p2n (by decide) (by decide) rfl ?_ | refine sm_get_p2m (by decide) (by decide) (by decide) ?_)) ?_
  refine Bod.get dc_414_183 fr_414_546 (mk_61 _) rfl ?_
  refine Bod.ildG dc_414_186 (by repeat (first | exact q4 | exact sm_get_p1 | exact sm_get_p2e | refine sm_get_p1m (by decide) (by decide) ?_ | refine sm_get_p1n (by decide) rfl ?_ | refine sm_get_p2n (by decide) (by decide) rfl ?_ | refine sm_get_p2m (by decide) (by decide) (by decide) ?_)) ?_
  refine Bod.ic 1 (by decide) dc_414_188 ?_
  refine Bod.addN (ni + 1) (by omega) dc_414_189 ?_
  refine Bod.laldN (ni + 1) rfl (by omega) (by omega) dc_414_190 (mk_93 _) ?_
  refine Bod.virt (r := []) dc_414_191 kr_414_699 ⟨Or.inl rfl, ow_358, cl_13⟩ (by rw [np_358]; rfl) (by rw [np_358]; rfl) (ob_of (mk_thing ag (by first | exact hz2 | (simp only [rIS, rJS, rAS, rLS, rVS, rQS, rS_hold]; exact hz2)))) (Nat.le_of_ble_eq_true rfl) (c2  ) ?_
  show Bod _ _ _ _ [] _ _ _
  refine Bod.incN (ni + 2) (by rw [kc_2, nI_add]) dc_414_194 (by rw [ml_414]; exact Nat.le_of_ble_eq_true rfl) (by repeat (first | exact q4 | exact sm_get_p1 | exact sm_get_p2e | refine sm_get_p1m (by decide) (by decide) ?_ | refine sm_get_p1n (by decide) rfl ?_ | refine sm_get_p2n (by decide) (by decide) rfl ?_ | refine sm_get_p2m (by decide) (by decide) (by decide) ?_)) ?_
  refine Bod.go dc_414_197 rfl ?_
  exact hB _ (by repeat (first | exact q0 | exact sm_get_p1 | exact sm_get_p2e | refine sm_get_p1m (by decide) (by decide) ?_ | refine sm_get_p1n (by decide) rfl ?_ | refine sm_get_p2n (by decide) (by decide) rfl ?_ | refine sm_get_p2m (by decide) (by decide) (by decide) ?_)) (by repeat (first | exact q1 | exact sm_get_p1 | exact sm_get_p2e | refine sm_get_p1m (by decide) (by decide) ?_ | refine sm_get_p1n (by decide) rfl ?_ | refine sm_get_p2n (by decide) (by decide) rfl ?_ | refine sm_get_p2m (by decide) (by decide) (by decide) ?_)) (by repeat (first | exact q2 | exact sm_get_p1 | exact sm_get_p2e | refine sm_get_p1m (by decide) (by decide) ?_ | refine sm_get_p1n (by decide) rfl ?_ | refine sm_get_p2n (by decide) (by decide) rfl ?_ | refine sm_get_p2m (by decide) (by decide) (by decide) ?_)) (by repeat (first | exact q3 | exact sm_get_p1 | exact sm_get_p2e | refine sm_get_p1m (by decide) (by decide) ?_ | refine sm_get_p1n (by decide) rfl ?_ | refine sm_get_p2n (by decide) (by decide) rfl ?_ | refine sm_get_p2m (by decide) (by decide) (by decide) ?_)) (by repeat (first | exact q0 | exact sm_get_p1 | exact sm_get_p2e | refine sm_get_p1m (by decide) (by decide) ?_ | refine sm_get_p1n (by decide) rfl ?_ | refine sm_get_p2n (by decide) (by decide) rfl ?_ | refine sm_get_p2m (by decide) (by decide) (by decide) ?_))
theorem rMdL_5 {d : Nat} {S Sf : cS} {v : Option Value} {lv : sm_L} {g : Nat} {zg : Nat} {nn : Nat} {dd : Nat} {ni : Nat} {t : Nat} {e91 : Nat} {S1 : cS} {fd1 : Nat} {S2 : cS} {e911 : Nat} {S3 : cS} {e912 : Nat} {S4 : cS} (q0 : sm_get lv 0 = some (.ref 61)) (q1 : sm_get lv 1 = some (.int (nI nn))) (q2 : sm_get lv 2 = some (.int (nI dd))) (q3 : sm_get lv 3 = some (.ref g)) (q4 : sm_get lv 4 = some (.int (nI ni))) (mnn : nn < 2 ^ 20) (mdd : dd < 2 ^ 20) (mni : ni < 2 ^ 20) (ag : 108 ≤ g) (ht : sI S 6151 = nI t) (mt : t < 20481) (b1 : ni < t) (b2 : ni < 20480) (he91 : sA S 91 ni = nI e91) (me91 : e91 < 2 ^ 20) (b3 : e91 = 1) (c1 : Ans (d + 8) 399 [.ref g, .int (nI e91), .long (sL S 92 ni), .long 0] S (some (.int (Int32.ofInt (-1)))) S1) (hz1 : (sS S)[g - 108]? = some (13, zg)) (hz2 : (sS S1)[g - 108]? = some (13, zg)) (hfd1 : sI S1 (100 * g + 1) = nI fd1) (mfd1 : fd1 < 2 ^ 20) (c2 : Ans (d + 8) 375 [.ref g, .int (nI 0), .long 0, .long 0] S1 none S2) (he911 : sA S2 91 ni = nI e911) (me911 : e911 < 2 ^ 20) (c3 : Ans (d + 8) 377 [.ref g, .int (nI fd1), .int (nI e911), .long (sL S2 92 ni), .long 0] S2 none S3) (hz3 : (sS S2)[g - 108]? = some (13, zg)) (b4 : ni + 1 < 20480) (he912 : sA S3 91 (ni + 1) = nI e912) (me912 : e912 < 2 ^ 20) (c4 : Ans (d + 8) 358 [.ref g, .int (nI fd1), .int (nI e912), .long (sL S3 92 (ni + 1)), .long (sL S3 93 (ni + 1))] S3 none S4) (hz4 : (sS S3)[g - 108]? = some (13, zg)) (hB : ∀ lv1 : sm_L, sm_get lv1 0 = some (.ref 61) → sm_get lv1 1 = some (.int (nI nn)) → sm_get lv1 2 = some (.int (nI dd)) → sm_get lv1 3 = some (.ref g) → sm_get lv1 4 = some (.int (nI (ni + 2))) → Bod (d + 8) 414 66 lv1 [] (S4) v Sf) : Bod (d + 8) 414 66 lv [] S v Sf := by
  refine Bod.ildG dc_414_66 (by repeat (first | exact q4 | exact sm_get_p1 | exact sm_get_p2e | refine sm_get_p1m (by decide) (by decide) ?_ | refine sm_get_p1n (by decide) rfl ?_ | refine sm_get_p2n (by decide) (by decide) rfl ?_ | refine sm_get_p2m (by decide) (by decide) (by decide) ?_)) ?_
  refine Bod.aldnG dc_414_68 (by repeat (first | exact q0 | exact sm_get_p1 | exact sm_get_p2e | refine sm_get_p1m (by decide) (by decide) ?_ | refine sm_get_p1n (by decide) rfl ?_ | refine sm_get_p2n (by decide) (by decide) rfl ?_ | refine sm_get_p2m (by decide) (by decide) (by decide) ?_)) ?_
  refine Bod.get dc_414_69 fr_414_493 (mk_61 _) rfl ?_
  refine Bod.eqI (nI t) (by first | assumption | rfl | exact congrArg nI (by omega) | (simp (disch := omega) only [rI, rIe, rA, rIA, rLA, rJA, rVI, rQI, rVA, rQA, upd_at,  rAI, rLI, rJI, nI_add, pk_sub, kc_0, kc_1, kc_2, kc_3, kc_4, kc_5, reduceIte, Nat.reduceEqDiff, Nat.add_zero, rI_hold, rI_hold, rL_hold, ht]; done)) ?_
  refine Bod.icF dc_414_72 rfl (k2_ge_F ni t rfl rfl (by omega) (by omega)) ?_
  refine Bod.aldnG dc_414_75 (by repeat (first | exact q0 | exact sm_get_p1 | exact sm_get_p2e | refine sm_get_p1m (by decide) (by decide) ?_ | refine sm_get_p1n (by decide) rfl ?_ | refine sm_get_p2n (by decide) (by decide) rfl ?_ | refine sm_get_p2m (by decide) (by decide) (by decide) ?_)) ?_
  refine Bod.get dc_414_76 fr_414_496 (mk_61 _) rfl ?_
  refine Bod.ildG dc_414_79 (by repeat (first | exact q4 | exact sm_get_p1 | exact sm_get_p2e | refine sm_get_p1m (by decide) (by decide) ?_ | refine sm_get_p1n (by decide) rfl ?_ | refine sm_get_p2n (by decide) (by decide) rfl ?_ | refine sm_get_p2m (by decide) (by decide) (by decide) ?_)) ?_
  refine Bod.ialdN ni rfl (by omega) (by omega) dc_414_81 (mk_91 _) ?_
  refine Bod.eqI (nI e91) (by first | assumption | rfl | exact congrArg nI (by omega) | (simp (disch := omega) only [rI, rIe, rA, rIA, rLA, rJA, rVI, rQI, rVA, rQA, upd_at,  rAI, rLI, rJI, nI_add, pk_sub, kc_0, kc_1, kc_2, kc_3, kc_4, kc_5, reduceIte, Nat.reduceEqDiff, Nat.add_zero, rI_hold, rI_hold, rL_hold, ht, he91]; done)) ?_
  refine Bod.ic 1 (by decide) dc_414_82 ?_
  refine Bod.icF dc_414_83 rfl (k2_ne_F (k_eq e91 1 rfl rfl (by omega))) ?_
  refine Bod.go dc_414_86 rfl ?_
  refine Bod.go dc_414_87 rfl ?_
  refine Bod.lst dc_414_97 (by rw [ml_414]; exact Nat.le_of_ble_eq_true rfl) ?_
  refine Bod.aldnG dc_414_99 (by repeat (first | exact q3 | exact sm_get_p1 | exact sm_get_p2e | refine sm_get_p1m (by decide) (by decide) ?_ | refine sm_get_p1n (by decide) rfl ?_ | refine sm_get_p2n (by decide) (by decide) rfl ?_ | refine sm_get_p2m (by decide) (by decide) (by decide) ?_)) ?_
  refine Bod.aldnG dc_414_100 (by repeat (first | exact q0 | exact sm_get_p1 | exact sm_get_p2e | refine sm_get_p1m (by decide) (by decide) ?_ | refine sm_get_p1n (by decide) rfl ?_ | refine sm_get_p2n (by decide) (by decide) rfl ?_ | refine sm_get_p2m (by decide) (by decide) (by decide) ?_)) ?_
  refine Bod.get dc_414_101 fr_414_496 (mk_61 _) rfl ?_
  refine Bod.ildG dc_414_104 (by repeat (first | exact q4 | exact sm_get_p1 | exact sm_get_p2e | refine sm_get_p1m (by decide) (by decide) ?_ | refine sm_get_p1n (by decide) rfl ?_ | refine sm_get_p2n (by decide) (by decide) rfl ?_ | refine sm_get_p2m (by decide) (by decide) (by decide) ?_)) ?_
  refine Bod.ialdN ni rfl (by omega) (by omega) dc_414_106 (mk_91 _) ?_
  refine Bod.eqI (nI e91) (by first | assumption | rfl | exact congrArg nI (by omega) | (simp (disch := omega) only [rI, rIe, rA, rIA, rLA, rJA, rVI, rQI, rVA, rQA, upd_at,  rAI, rLI, rJI, nI_add, pk_sub, kc_0, kc_1, kc_2, kc_3, kc_4, kc_5, reduceIte, Nat.reduceEqDiff, Nat.add_zero, rI_hold, rI_hold, rL_hold, ht, he91]; done)) ?_
  refine Bod.aldnG dc_414_107 (by repeat (first | exact q0 | exact sm_get_p1 | exact sm_get_p2e | refine sm_get_p1m (by decide) (by decide) ?_ | refine sm_get_p1n (by decide) rfl ?_ | refine sm_get_p2n (by decide) (by decide) rfl ?_ | refine sm_get_p2m (by decide) (by decide) (by decide) ?_)) ?_
  refine Bod.get dc_414_108 fr_414_499 (mk_61 _) rfl ?_
  refine Bod.ildG dc_414_111 (by repeat (first | exact q4 | exact sm_get_p1 | exact sm_get_p2e | refine sm_get_p1m (by decide) (by decide) ?_ | refine sm_get_p1n (by decide) rfl ?_ | refine sm_get_p2n (by decide) (by decide) rfl ?_ | refine sm_get_p2m (by decide) (by decide) (by decide) ?_)) ?_
  refine Bod.laldN ni rfl (by omega) (by omega) dc_414_113 (mk_92 _) ?_
  refine Bod.lldG dc_414_114 (by repeat (first | exact q0 | exact sm_get_p1 | exact sm_get_p2e | refine sm_get_p1m (by decide) (by decide) ?_ | refine sm_get_p1n (by decide) rfl ?_ | refine sm_get_p2n (by decide) (by decide) rfl ?_ | refine sm_get_p2m (by decide) (by decide) (by decide) ?_)) ?_
  refine Bod.virt (r := []) dc_414_116 kr_414_764 ⟨Or.inl rfl, ow_399, cl_13⟩ (by rw [np_399]; rfl) (by rw [np_399]; rfl) (ob_of (mk_thing ag (by first | exact hz1 | (simp only [rIS, rJS, rAS, rLS, rVS, rQS, rS_hold]; exact hz1)))) (Nat.le_of_ble_eq_true rfl) (c1  ) ?_
  show Bod _ _ _ _ [_] _ _ _
  refine Bod.ist dc_414_119 (by rw [ml_414]; exact Nat.le_of_ble_eq_true rfl) ?_
  refine Bod.ildG dc_414_121 (by repeat (first | exact q0 | exact sm_get_p1 | exact sm_get_p2e | refine sm_get_p1m (by decide) (by decide) ?_ | refine sm_get_p1n (by decide) rfl ?_ | refine sm_get_p2n (by decide) (by decide) rfl ?_ | refine sm_get_p2m (by decide) (by decide) (by decide) ?_)) ?_
  refine Bod.ifF dc_414_123 rfl (by decide) ?_
  refine Bod.aldnG dc_414_126 (by repeat (first | exact q3 | exact sm_get_p1 | exact sm_get_p2e | refine sm_get_p1m (by decide) (by decide) ?_ | refine sm_get_p1n (by decide) rfl ?_ | refine sm_get_p2n (by decide) (by decide) rfl ?_ | refine sm_get_p2m (by decide) (by decide) (by decide) ?_)) ?_
  refine Bod.get dc_414_127 fr_414_459 (mk_thing ag (by first | exact hz2 | (simp only [rIS, rJS, rAS, rLS, rVS, rQS, rS_hold]; exact hz2))) rfl ?_
  refine Bod.eqI (nI fd1) (by first | assumption | (simp (disch := omega) only [rI, rIe, rA, rIA, rLA, rJA, rVI, rQI, rVA, rQA, upd_at,  rAI, rLI, rJI, nI_add, pk_sub, kc_0, kc_1, kc_2, kc_3, kc_4, kc_5, reduceIte, Nat.reduceEqDiff, Nat.add_zero, rI_hold, rI_hold, rL_hold, ht, he91, hfd1]; done) | (simp (disch := omega) only [rI, rIe, rA, rIA, rLA, rJA, rVI, rQI, rVA, rQA, upd_at,  rAI, rLI, rJI, nI_add, pk_sub, kc_0, kc_1, kc_2, kc_3, kc_4, kc_5, reduceIte, Nat.reduceEqDiff, Nat.add_zero, rI_hold, rI_hold, rL_hold, ht, he91, hfd1]; exact congrArg nI (by omega))) ?_
  refine Bod.ist dc_414_130 (by rw [ml_414]; exact Nat.le_of_ble_eq_true rfl) ?_
  refine Bod.aldnG dc_414_132 (by repeat (first | exact q3 | exact sm_get_p1 | exact sm_get_p2e | refine sm_get_p1m (by decide) (by decide) ?_ | refine sm_get_p1n (by decide) rfl ?_ | refine sm_get_p2n (by decide) (by decide) rfl ?_ | refine sm_get_p2m (by decide) (by decide) (by decide) ?_)) ?_
  refine Bod.ic 0 (by decide) dc_414_133 ?_
  refine Bod.go dc_414_134 rfl ?_
  refine Bod.go dc_414_135 rfl ?_
  refine Bod.virt (r := []) dc_414_136 kr_414_759 ⟨Or.inl rfl, ow_375, cl_13⟩ (by rw [np_375]; rfl) (by rw [np_375]; rfl) (ob_of (mk_thing ag (by first | exact hz2 | (simp only [rIS, rJS, rAS, rLS, rVS, rQS, rS_hold]; exact hz2)))) (Nat.le_of_ble_eq_true rfl) (c2  ) ?_
  show Bod _ _ _ _ [] _ _ _
  refine Bod.aldnG dc_414_139 (by repeat (first | exact q3 | exact sm_get_p1 | exact sm_get_p2e | refine sm_get_p1m (by decide) (by decide) ?_ | refine sm_get_p1n (by decide) rfl ?_ | refine sm_get_p2n (by decide) (by decide) rfl ?_ | refine sm_get_p2m (by decide) (by decide) (by decide) ?_)) ?_
  refine Bod.ildG dc_414_140 (by repeat (first | exact q0 | exact sm_get_p1 | exact sm_get_p2e | refine sm_get_p1m (by decide) (by decide) ?_ | refine sm_get_p1n (by decide) rfl ?_ | refine sm_get_p2n (by decide) (by decide) rfl ?_ | refine sm_get_p2m (by decide) (by decide) (by decide) ?_)) ?_
  refine Bod.aldnG dc_414_142 (by repeat (first | exact q0 | exact sm_get_p1 | exact sm_get_p2e | refine sm_get_p1m (by decide) (by decide) ?_ | refine sm_get_p1n (by decide) rfl ?_ | refine sm_get_p2n (by decide) (by decide) rfl ?_ | refine sm_get_p2m (by decide) (by decide) (by decide) ?_)) ?_
  refine Bod.get dc_414_143 fr_414_496 (mk_61 _) rfl ?_
  refine Bod.ildG dc_414_146 (by repeat (first | exact q4 | exact sm_get_p1 | exact sm_get_p2e | refine sm_get_p1m (by decide) (by decide) ?_ | refine sm_get_p1n (by decide) rfl ?_ | refine sm_get_p2n (by decide) (by decide) rfl ?_ | refine sm_get_p2m (by decide) (by decide) (by decide) ?_)) ?_
  refine Bod.ialdN ni rfl (by omega) (by omega) dc_414_148 (mk_91 _) ?_
  refine Bod.eqI (nI e911) (by first | assumption | (simp (disch := omega) only [rI, rIe, rA, rIA, rLA, rJA, rVI, rQI, rVA, rQA, upd_at,  rAI, rLI, rJI, nI_add, pk_sub, kc_0, kc_1, kc_2, kc_3, kc_4, kc_5, reduceIte, Nat.reduceEqDiff, Nat.add_zero, rI_hold, rI_hold, rL_hold, ht, he91, hfd1, he911]; done) | (simp (disch := omega) only [rI, rIe, rA, rIA, rLA, rJA, rVI, rQI, rVA, rQA, upd_at,  rAI, rLI, rJI, nI_add, pk_sub, kc_0, kc_1, kc_2, kc_3, kc_4, kc_5, reduceIte, Nat.reduceEqDiff, Nat.add_zero, rI_hold, rI_hold, rL_hold, ht, he91, hfd1, he911]; exact congrArg nI (by omega))) ?_
  refine Bod.aldnG dc_414_149 (by repeat (first | exact q0 | exact sm_get_p1 | exact sm_get_p2e | refine sm_get_p1m (by decide) (by decide) ?_ | refine sm_get_p1n (by decide) rfl ?_ | refine sm_get_p2n (by decide) (by decide) rfl ?_ | refine sm_get_p2m (by decide) (by decide) (by decide) ?_)) ?_
  refine Bod.get dc_414_150 fr_414_499 (mk_61 _) rfl ?_
  refine Bod.ildG dc_414_153 (by repeat (first | exact q4 | exact sm_get_p1 | exact sm_get_p2e | refine sm_get_p1m (by decide) (by decide) ?_ | refine sm_get_p1n (by decide) rfl ?_ | refine sm_get_p2n (by decide) (by decide) rfl ?_ | refine sm_get_p2m (by decide) (by decide) (by decide) ?_)) ?_
  refine Bod.laldN ni rfl (by omega) (by omega) dc_414_155 (mk_92 _) ?_
  refine Bod.lldG dc_414_156 (by repeat (first | exact q0 | exact sm_get_p1 | exact sm_get_p2e | refine sm_get_p1m (by decide) (by decide) ?_ | refine sm_get_p1n (by decide) rfl ?_ | refine sm_get_p2n (by decide) (by decide) rfl ?_ | refine sm_get_p2m (by decide) (by decide) (by decide) ?_)) ?_
  refine Bod.virt (r := []) dc_414_158 kr_414_771 ⟨Or.inl rfl, ow_377, cl_13⟩ (by rw [np_377]; rfl) (by rw [np_377]; rfl) (ob_of (mk_thing ag (by first | exact hz3 | (simp only [rIS, rJS, rAS, rLS, rVS, rQS, rS_hold]; exact hz3)))) (Nat.le_of_ble_eq_true rfl) (c3  ) ?_
  show Bod _ _ _ _ [] _ _ _
  refine Bod.aldnG dc_414_161 (by repeat (first | exact q3 | exact sm_get_p1 | exact sm_get_p2e | refine sm_get_p1m (by decide) (by decide) ?_ | refine sm_get_p1n (by decide) rfl ?_ | refine sm_get_p2n (by decide) (by decide) rfl ?_ | refine sm_get_p2m (by decide) (by decide) (by decide) ?_)) ?_
  refine Bod.ildG dc_414_162 (by repeat (first | exact q0 | exact sm_get_p1 | exact sm_get_p2e | refine sm_get_p1m (by decide) (by decide) ?_ | refine sm_get_p1n (by decide) rfl ?_ | refine sm_get_p2n (by decide) (by decide) rfl ?_ | refine sm_get_p2m (by decide) (by decide) (by decide) ?_)) ?_
  refine Bod.aldnG dc_414_164 (by repeat (first | exact q0 | exact sm_get_p1 | exact sm_get_p2e | refine sm_get_p1m (by decide) (by decide) ?_ | refine sm_get_p1n (by decide) rfl ?_ | refine sm_get_p2n (by decide) (by decide) rfl ?_ | refine sm_get_p2m (by decide) (by decide) (by decide) ?_)) ?_
  refine Bod.get dc_414_165 fr_414_496 (mk_61 _) rfl ?_
  refine Bod.ildG dc_414_168 (by repeat (first | exact q4 | exact sm_get_p1 | exact sm_get_p2e | refine sm_get_p1m (by decide) (by decide) ?_ | refine sm_get_p1n (by decide) rfl ?_ | refine sm_get_p2n (by decide) (by decide) rfl ?_ | refine sm_get_p2m (by decide) (by decide) (by decide) ?_)) ?_
  refine Bod.ic 1 (by decide) dc_414_170 ?_
  refine Bod.addN (ni + 1) (by omega) dc_414_171 ?_
  refine Bod.ialdN (ni + 1) rfl (by omega) (by omega) dc_414_172 (mk_91 _) ?_
  refine Bod.eqI (nI e912) (by first | assumption | (simp (disch := omega) only [rI, rIe, rA, rIA, rLA, rJA, rVI, rQI, rVA, rQA, upd_at,  rAI, rLI, rJI, nI_add, pk_sub, kc_0, kc_1, kc_2, kc_3, kc_4, kc_5, reduceIte, Nat.reduceEqDiff, Nat.add_zero, rI_hold, rI_hold, rL_hold, ht, he91, hfd1, he911, he912]; done) | (simp (disch := omega) only [rI, rIe, rA, rIA, rLA, rJA, rVI, rQI, rVA, rQA, upd_at,  rAI, rLI, rJI, nI_add, pk_sub, kc_0, kc_1, kc_2, kc_3, kc_4, kc_5, reduceIte, Nat.reduceEqDiff, Nat.add_zero, rI_hold, rI_hold, rL_hold, ht, he91, hfd1, he911, he912]; exact congrArg nI (by omega))) ?_
  refine Bod.aldnG dc_414_173 (by repeat (first | exact q0 | exact sm_get_p1 | exact sm_get_p2e | refine sm_get_p1m (by decide) (by decide) ?_ | refine sm_get_p1n (by decide) rfl ?_ | refine sm_get_p2n (by decide) (by decide) rfl ?_ | refine sm_get_p2m (by decide) (by decide) (by decide) ?_)) ?_
  refine Bod.get dc_414_174 fr_414_499 (mk_61 _) rfl ?_
  refine Bod.ildG dc_414_177 (by repeat (first | exact q4 | exact sm_get_p1 | exact sm_get_p2e | refine sm_get_p1m (by decide) (by decide) ?_ | refine sm_get_p1n (by decide) rfl ?_ | refine sm_get_p2n (by decide) (by decide) rfl ?_ | refine sm_get_p2m (by decide) (by decide) (by decide) ?_)) ?_
  refine Bod.ic 1 (by decide) dc_414_179 ?_
  refine Bod.addN (ni + 1) (by omega) dc_414_180 ?_
  refine Bod.laldN (ni + 1) rfl (by omega) (by omega) dc_414_181 (mk_92 _) ?_
  refine Bod.aldnG dc_414_182 (by repeat (first | exact q0 | exact sm_get_p1 | exact sm_get_p2e | refine sm_get_p1m (by decide) (by decide) ?_ | refine sm_get_p1n (by decide) rfl ?_ | refine sm_get_p2n (by decide) (by decide) rfl ?_ | refine sm_get_p2m (by decide) (by decide) (by decide) ?_)) ?_
  refine Bod.get dc_414_183 fr_414_546 (mk_61 _) rfl ?_
  refine Bod.ildG dc_414_186 (by repeat (first | exact q4 | exact sm_get_p1 | exact sm_get_p2e | refine sm_get_p1m (by decide) (by decide) ?_ | refine sm_get_p1n (by decide) rfl ?_ | refine sm_get_p2n (by decide) (by decide) rfl ?_ | refine sm_get_p2m (by decide) (by decide) (by decide) ?_)) ?_
  refine Bod.ic 1 (by decide) dc_414_188 ?_
  refine Bod.addN (ni + 1) (by omega) dc_414_189 ?_
  refine Bod.laldN (ni + 1) rfl (by omega) (by omega) dc_414_190 (mk_93 _) ?_
  refine Bod.virt (r := []) dc_414_191 kr_414_699 ⟨Or.inl rfl, ow_358, cl_13⟩ (by rw [np_358]; rfl) (by rw [np_358]; rfl) (ob_of (mk_thing ag (by first | exact hz4 | (simp only [rIS, rJS, rAS, rLS, rVS, rQS, rS_hold]; exact hz4)))) (Nat.le_of_ble_eq_true rfl) (c4  ) ?_
  show Bod _ _ _ _ [] _ _ _
  refine Bod.incN (ni + 2) (by rw [kc_2, nI_add]) dc_414_194 (by rw [ml_414]; exact Nat.le_of_ble_eq_true rfl) (by repeat (first | exact q4 | exact sm_get_p1 | exact sm_get_p2e | refine sm_get_p1m (by decide) (by decide) ?_ | refine sm_get_p1n (by decide) rfl ?_ | refine sm_get_p2n (by decide) (by decide) rfl ?_ | refine sm_get_p2m (by decide) (by decide) (by decide) ?_)) ?_
  refine Bod.go dc_414_197 rfl ?_
  exact hB _ (by repeat (first | exact q0 | exact sm_get_p1 | exact sm_get_p2e | refine sm_get_p1m (by decide) (by decide) ?_ | refine sm_get_p1n (by decide) rfl ?_ | refine sm_get_p2n (by decide) (by decide) rfl ?_ | refine sm_get_p2m (by decide) (by decide) (by decide) ?_)) (by repeat (first | exact q1 | exact sm_get_p1 | exact sm_get_p2e | refine sm_get_p1m (by decide) (by decide) ?_ | refine sm_get_p1n (by decide) rfl ?_ | refine sm_get_p2n (by decide) (by decide) rfl ?_ | refine sm_get_p2m (by decide) (by decide) (by decide) ?_)) (by repeat (first | exact q2 | exact sm_get_p1 | exact sm_get_p2e | refine sm_get_p1m (by decide) (by decide) ?_ | refine sm_get_p1n (by decide) rfl ?_ | refine sm_get_p2n (by decide) (by decide) rfl ?_ | refine sm_get_p2m (by decide) (by decide) (by decide) ?_)) (by repeat (first | exact q3 | exact sm_get_p1 | exact sm_get_p2e | refine sm_get_p1m (by decide) (by decide) ?_ | refine sm_get_p1n (by decide) rfl ?_ | refine sm_get_p2n (by decide) (by decide) rfl ?_ | refine sm_get_p2m (by decide) (by decide) (by decide) ?_)) (by repeat (first | exact q0 | exact sm_get_p1 | exact sm_get_p2e | refine sm_get_p1m (by decide) (by decide) ?_ | refine sm_get_p1n (by decide) rfl ?_ | refine sm_get_p2n (by decide) (by decide) rfl ?_ | refine sm_get_p2m (by decide) (by decide) (by decide) ?_))
theorem rBiL_1 {d : Nat} {S : cS} {lv : sm_L} {g : Nat} {zg : Nat} {x : Nat} {xs : Int32} {ni : Nat} {fd1 : Nat} {t : Nat} {S1 : cS} (q0 : sm_get lv 0 = some (.ref 61)) (q2 : sm_get lv 2 = some (.int (nI x))) (q4 : sm_get lv 4 = some (.int xs)) (q5 : sm_get lv 5 = some (.ref g)) (q6 : sm_get lv 6 = some (.int (nI ni))) (mx : x < 2 ^ 20) (mni : ni < 2 ^ 20) (ag : 108 ≤ g) (hz1 : (sS S)[g - 108]? = some (13, zg)) (hfd1 : sI S (100 * g + 1) = nI fd1) (mfd1 : fd1 < 2 ^ 20) (b1 : fd1 ≤ ni) (ht : sI S 6151 = nI t) (mt : t < 20481) (b2 : 2 ≤ t) (w11 : sm_c1 .eq xs true false = true) (c1 : Ans (d + 8) 353 [.ref 61, .long 0] (wI 6151 (nI (t - 2)) S) none S1) : Bod (d + 8) 401 196 lv [] S (some (.int 1)) (S1) := by
  refine Bod.ildG dc_401_196 (by repeat (first | exact q6 | exact sm_get_p1 | exact sm_get_p2e | refine sm_get_p1m (by decide) (by decide) ?_ | refine sm_get_p1n (by decide) rfl ?_ | refine sm_get_p2n (by decide) (by decide) rfl ?_ | refine sm_get_p2m (by decide) (by decide) (by decide) ?_)) ?_
  refine Bod.aldG dc_401_198 (by repeat (first | exact q5 | exact sm_get_p1 | exact sm_get_p2e | refine sm_get_p1m (by decide) (by decide) ?_ | refine sm_get_p1n (by decide) rfl ?_ | refine sm_get_p2n (by decide) (by decide) rfl ?_ | refine sm_get_p2m (by decide) (by decide) (by decide) ?_)) ?_
  refine Bod.get dc_401_200 fr_401_459 (mk_thing ag (by first | exact hz1 | (simp only [rIS, rJS, rAS, rLS, rVS, rQS, rS_hold]; exact hz1))) rfl ?_
  refine Bod.eqI (nI fd1) (by first | assumption | rfl | exact congrArg nI (by omega) | (simp (disch := omega) only [rI, rIe, rA, rIA, rLA, rJA, rVI, rQI, rVA, rQA, upd_at,  rAI, rLI, rJI, nI_add, pk_sub, kc_0, kc_1, kc_2, kc_3, kc_4, kc_5, reduceIte, Nat.reduceEqDiff, Nat.add_zero, rI_hold, rI_hold, rL_hold, hfd1]; done)) ?_
  refine Bod.icT dc_401_203 rfl (k2_ge_T ni fd1 rfl rfl (by omega) (by omega)) ?_
  refine Bod.go dc_401_287 rfl ?_
  refine Bod.aldnG dc_401_420 (by repeat (first | exact q0 | exact sm_get_p1 | exact sm_get_p2e | refine sm_get_p1m (by decide) (by decide) ?_ | refine sm_get_p1n (by decide) rfl ?_ | refine sm_get_p2n (by decide) (by decide) rfl ?_ | refine sm_get_p2m (by decide) (by decide) (by decide) ?_)) ?_
  refine Bod.go dc_401_421 rfl ?_
  refine Bod.get dc_401_422 fr_401_493 (mk_61 _) rfl ?_
  refine Bod.eqI (nI t) (by first | assumption | rfl | exact congrArg nI (by omega) | (simp (disch := omega) only [rI, rIe, rA, rIA, rLA, rJA, rVI, rQI, rVA, rQA, upd_at,  rAI, rLI, rJI, nI_add, pk_sub, kc_0, kc_1, kc_2, kc_3, kc_4, kc_5, reduceIte, Nat.reduceEqDiff, Nat.add_zero, rI_hold, rI_hold, rL_hold, hfd1, ht]; done)) ?_
  refine Bod.ic 2 (by decide) dc_401_425 ?_
  refine Bod.subN (t - 2) (by omega) (by omega) dc_401_426 ?_
  refine Bod.put dc_401_427 fr_401_493 (mk_61 _) (Nat.le_of_ble_eq_true rfl) pf_14_51 (st_6151 _ _) (mu_I _ _ _) ?_
  refine Bod.aldnG dc_401_430 (by repeat (first | exact q0 | exact sm_get_p1 | exact sm_get_p2e | refine sm_get_p1m (by decide) (by decide) ?_ | refine sm_get_p1n (by decide) rfl ?_ | refine sm_get_p2n (by decide) (by decide) rfl ?_ | refine sm_get_p2m (by decide) (by decide) (by decide) ?_)) ?_
  refine Bod.ildG dc_401_431 (by repeat (first | exact q4 | exact sm_get_p1 | exact sm_get_p2e | refine sm_get_p1m (by decide) (by decide) ?_ | refine sm_get_p1n (by decide) rfl ?_ | refine sm_get_p2n (by decide) (by decide) rfl ?_ | refine sm_get_p2m (by decide) (by decide) (by decide) ?_)) ?_
  refine Bod.ifT dc_401_433 rfl w11 ?_
  refine Bod.go dc_401_440 rfl ?_
  refine Bod.virt (r := []) dc_401_441 kr_401_613 ⟨Or.inl rfl, ow_353, cl_14⟩ (by rw [np_353]; rfl) (by rw [np_353]; rfl) (ob_of (mk_61 _)) (Nat.le_of_ble_eq_true rfl) (c1  ) ?_
  show Bod _ _ _ _ [] _ _ _
  refine Bod.ic 1 (by decide) dc_401_444 ?_
  exact Bod.retZ dc_401_445 rt_401 (Or.inr rfl)
theorem rBiL_2 {d : Nat} {S : cS} {lv : sm_L} {g : Nat} {zg : Nat} {x : Nat} {xs : Int32} {ni : Nat} {fd1 : Nat} {t : Nat} {S1 : cS} (q0 : sm_get lv 0 = some (.ref 61)) (q2 : sm_get lv 2 = some (.int (nI x))) (q4 : sm_get lv 4 = some (.int xs)) (q5 : sm_get lv 5 = some (.ref g)) (q6 : sm_get lv 6 = some (.int (nI ni))) (mx : x < 2 ^ 20) (mni : ni < 2 ^ 20) (ag : 108 ≤ g) (hz1 : (sS S)[g - 108]? = some (13, zg)) (hfd1 : sI S (100 * g + 1) = nI fd1) (mfd1 : fd1 < 2 ^ 20) (b1 : fd1 ≤ ni) (ht : sI S 6151 = nI t) (mt : t < 20481) (b2 : 2 ≤ t) (w11 : sm_c1 .eq xs true false = false) (c1 : Ans (d + 8) 353 [.ref 61, .long 1] (wI 6151 (nI (t - 2)) S) none S1) : Bod (d + 8) 401 196 lv [] S (some (.int 1)) (S1) := by
  refine Bod.ildG dc_401_196 (by repeat (first | exact q6 | exact sm_get_p1 | exact sm_get_p2e | refine sm_get_p1m (by decide) (by decide) ?_ | refine sm_get_p1n (by decide) rfl ?_ | refine sm_get_p2n (by decide) (by decide) rfl ?_ | refine sm_get_p2m (by decide) (by decide) (by decide) ?_)) ?_
  refine Bod.aldG dc_401_198 (by repeat (first | exact q5 | exact sm_get_p1 | exact sm_get_p2e | refine sm_get_p1m (by decide) (by decide) ?_ | refine sm_get_p1n (by decide) rfl ?_ | refine sm_get_p2n (by decide) (by decide) rfl ?_ | refine sm_get_p2m (by decide) (by decide) (by decide) ?_)) ?_
  refine Bod.get dc_401_200 fr_401_459 (mk_thing ag (by first | exact hz1 | (simp only [rIS, rJS, rAS, rLS, rVS, rQS, rS_hold]; exact hz1))) rfl ?_
  refine Bod.eqI (nI fd1) (by first | assumption | rfl | exact congrArg nI (by omega) | (simp (disch := omega) only [rI, rIe, rA, rIA, rLA, rJA, rVI, rQI, rVA, rQA, upd_at,  rAI, rLI, rJI, nI_add, pk_sub, kc_0, kc_1, kc_2, kc_3, kc_4, kc_5, reduceIte, Nat.reduceEqDiff, Nat.add_zero, rI_hold, rI_hold, rL_hold, hfd1]; done)) ?_
  refine Bod.icT dc_401_203 rfl (k2_ge_T ni fd1 rfl rfl (by omega) (by omega)) ?_
  refine Bod.go dc_401_287 rfl ?_
  refine Bod.aldnG dc_401_420 (by repeat (first | exact q0 | exact sm_get_p1 | exact sm_get_p2e | refine sm_get_p1m (by decide) (by decide) ?_ | refine sm_get_p1n (by decide) rfl ?_ | refine sm_get_p2n (by decide) (by decide) rfl ?_ | refine sm_get_p2m (by decide) (by decide) (by decide) ?_)) ?_
  refine Bod.go dc_401_421 rfl ?_
  refine Bod.get dc_401_422 fr_401_493 (mk_61 _) rfl ?_
  refine Bod.eqI (nI t) (by first | assumption | rfl | exact congrArg nI (by omega) | (simp (disch := omega) only [rI, rIe, rA, rIA, rLA, rJA, rVI, rQI, rVA, rQA, upd_at,  rAI, rLI, rJI, nI_add, pk_sub, kc_0, kc_1, kc_2, kc_3, kc_4, kc_5, reduceIte, Nat.reduceEqDiff, Nat.add_zero, rI_hold, rI_hold, rL_hold, hfd1, ht]; done)) ?_
  refine Bod.ic 2 (by decide) dc_401_425 ?_
  refine Bod.subN (t - 2) (by omega) (by omega) dc_401_426 ?_
  refine Bod.put dc_401_427 fr_401_493 (mk_61 _) (Nat.le_of_ble_eq_true rfl) pf_14_51 (st_6151 _ _) (mu_I _ _ _) ?_
  refine Bod.aldnG dc_401_430 (by repeat (first | exact q0 | exact sm_get_p1 | exact sm_get_p2e | refine sm_get_p1m (by decide) (by decide) ?_ | refine sm_get_p1n (by decide) rfl ?_ | refine sm_get_p2n (by decide) (by decide) rfl ?_ | refine sm_get_p2m (by decide) (by decide) (by decide) ?_)) ?_
  refine Bod.ildG dc_401_431 (by repeat (first | exact q4 | exact sm_get_p1 | exact sm_get_p2e | refine sm_get_p1m (by decide) (by decide) ?_ | refine sm_get_p1n (by decide) rfl ?_ | refine sm_get_p2n (by decide) (by decide) rfl ?_ | refine sm_get_p2m (by decide) (by decide) (by decide) ?_)) ?_
  refine Bod.ifF dc_401_433 rfl w11 ?_
  refine Bod.go dc_401_436 rfl ?_
  refine Bod.go dc_401_437 rfl ?_
  refine Bod.virt (r := []) dc_401_441 kr_401_613 ⟨Or.inl rfl, ow_353, cl_14⟩ (by rw [np_353]; rfl) (by rw [np_353]; rfl) (ob_of (mk_61 _)) (Nat.le_of_ble_eq_true rfl) (c1  ) ?_
  show Bod _ _ _ _ [] _ _ _
  refine Bod.ic 1 (by decide) dc_401_444 ?_
  exact Bod.retZ dc_401_445 rt_401 (Or.inr rfl)
theorem rBiL_3 {d : Nat} {S Sf : cS} {v : Option Value} {lv : sm_L} {g : Nat} {zg : Nat} {x : Nat} {xs : Int32} {ni : Nat} {fd1 : Nat} {fd0 : Nat} {r : Nat} {N : Nat} {e : Nat} {r1 : Nat} {N1 : Nat} {r2 : Nat} {N2 : Nat} {S1 : cS} (q0 : sm_get lv 0 = some (.ref 61)) (q2 : sm_get lv 2 = some (.int (nI x))) (q4 : sm_get lv 4 = some (.int xs)) (q5 : sm_get lv 5 = some (.ref g)) (q6 : sm_get lv 6 = some (.int (nI ni))) (mx : x < 2 ^ 20) (mni : ni < 2 ^ 20) (ag : 108 ≤ g) (hz1 : (sS S)[g - 108]? = some (13, zg)) (hfd1 : sI S (100 * g + 1) = nI fd1) (mfd1 : fd1 < 2 ^ 20) (b1 : ni < fd1) (hfd0 : sI S (100 * g + 0) = nI fd0) (mfd0 : fd0 < 2 ^ 20) (b2 : fd0 ≠ 1) (hv1 : sV S (100 * g + 3) = .ref r) (hg1 : isK S r 0 N) (mN : N < 2 ^ 20) (b3 : ni < N) (he : sA S r ni = nI e) (me : e < 2 ^ 20) (hv2 : sV S (100 * g + 6) = .ref r1) (hg2 : isK S r1 1 N1) (mN1 : N1 < 2 ^ 20) (b4 : ni < N1) (hv3 : sV S (100 * g + 7) = .ref r2) (hg3 : isK S r2 1 N2) (mN2 : N2 < 2 ^ 20) (b5 : ni < N2) (c1 : Ans (d + 8) 402 [.ref 61, .int (nI x), .int (nI e), .long (sL S r1 ni), .long (sL S r2 ni)] S (some (.int (nI 1))) S1) (hB : ∀ lv1 : sm_L, sm_get lv1 0 = some (.ref 61) → sm_get lv1 2 = some (.int (nI x)) → sm_get lv1 4 = some (.int (xs ||| (nI 1))) → sm_get lv1 5 = some (.ref g) → sm_get lv1 6 = some (.int (nI (ni + 1))) → Bod (d + 8) 401 196 lv1 [] (S1) v Sf) : Bod (d + 8) 401 196 lv [] S v Sf := by
  refine Bod.ildG dc_401_196 (by repeat (first | exact q6 | exact sm_get_p1 | exact sm_get_p2e | refine sm_get_p1m (by decide) (by decide) ?_ | refine sm_get_p1n (by decide) rfl ?_ | refine sm_get_p2n (by decide) (by decide) rfl ?_ | refine sm_get_p2m (by decide) (by decide) (by decide) ?_)) ?_
  refine Bod.aldG dc_401_198 (by repeat (first | exact q5 | exact sm_get_p1 | exact sm_get_p2e | refine sm_get_p1m (by decide) (by decide) ?_ | refine sm_get_p1n (by decide) rfl ?_ | refine sm_get_p2n (by decide) (by decide) rfl ?_ | refine sm_get_p2m (by decide) (by decide) (by decide) ?_)) ?_
  refine Bod.get dc_401_200 fr_401_459 (mk_thing ag (by first | exact hz1 | (simp only [rIS, rJS, rAS, rLS, rVS, rQS, rS_hold]; exact hz1))) rfl ?_
  refine Bod.eqI (nI fd1) (by first | assumption | rfl | exact congrArg nI (by omega) | (simp (disch := omega) only [rI, rIe, rA, rIA, rLA, rJA, rVI, rQI, rVA, rQA, upd_at,  rAI, rLI, rJI, nI_add, pk_sub, kc_0, kc_1, kc_2, kc_3, kc_4, kc_5, reduceIte, Nat.reduceEqDiff, Nat.add_zero, rI_hold, rI_hold, rL_hold, hfd1]; done)) ?_
  refine Bod.icF dc_401_203 rfl (k2_ge_F ni fd1 rfl rfl (by omega) (by omega)) ?_
  refine Bod.ildG dc_401_206 (by repeat (first | exact q4 | exact sm_get_p1 | exact sm_get_p2e | refine sm_get_p1m (by decide) (by decide) ?_ | refine sm_get_p1n (by decide) rfl ?_ | refine sm_get_p2n (by decide) (by decide) rfl ?_ | refine sm_get_p2m (by decide) (by decide) (by decide) ?_)) ?_
  refine Bod.aldG dc_401_208 (by repeat (first | exact q5 | exact sm_get_p1 | exact sm_get_p2e | refine sm_get_p1m (by decide) (by decide) ?_ | refine sm_get_p1n (by decide) rfl ?_ | refine sm_get_p2n (by decide) (by decide) rfl ?_ | refine sm_get_p2m (by decide) (by decide) (by decide) ?_)) ?_
  refine Bod.get dc_401_210 fr_401_531 (mk_thing ag (by first | exact hz1 | (simp only [rIS, rJS, rAS, rLS, rVS, rQS, rS_hold]; exact hz1))) rfl ?_
  refine Bod.eqI (nI fd0) (by first | assumption | rfl | exact congrArg nI (by omega) | (simp (disch := omega) only [rI, rIe, rA, rIA, rLA, rJA, rVI, rQI, rVA, rQA, upd_at,  rAI, rLI, rJI, nI_add, pk_sub, kc_0, kc_1, kc_2, kc_3, kc_4, kc_5, reduceIte, Nat.reduceEqDiff, Nat.add_zero, rI_hold, rI_hold, rL_hold, hfd1, hfd0]; done)) ?_
  refine Bod.ic 1 (by decide) dc_401_213 ?_
  refine Bod.icT dc_401_214 rfl (k2_ne_T (k_ne fd0 1 rfl rfl (by omega) (by omega) (by omega))) ?_
  refine Bod.aldnG dc_401_249 (by repeat (first | exact q0 | exact sm_get_p1 | exact sm_get_p2e | refine sm_get_p1m (by decide) (by decide) ?_ | refine sm_get_p1n (by decide) rfl ?_ | refine sm_get_p2n (by decide) (by decide) rfl ?_ | refine sm_get_p2m (by decide) (by decide) (by decide) ?_)) ?_
  refine Bod.ildnG dc_401_250 (by repeat (first | exact q2 | exact sm_get_p1 | exact sm_get_p2e | refine sm_get_p1m (by decide) (by decide) ?_ | refine sm_get_p1n (by decide) rfl ?_ | refine sm_get_p2n (by decide) (by decide) rfl ?_ | refine sm_get_p2m (by decide) (by decide) (by decide) ?_)) ?_
  refine Bod.aldG dc_401_251 (by repeat (first | exact q5 | exact sm_get_p1 | exact sm_get_p2e | refine sm_get_p1m (by decide) (by decide) ?_ | refine sm_get_p1n (by decide) rfl ?_ | refine sm_get_p2n (by decide) (by decide) rfl ?_ | refine sm_get_p2m (by decide) (by decide) (by decide) ?_)) ?_
  refine Bod.get dc_401_253 fr_401_719 (mk_thing ag (by first | exact hz1 | (simp only [rIS, rJS, rAS, rLS, rVS, rQS, rS_hold]; exact hz1))) rfl ?_
  refine Bod.eqV (.ref r) (by first | exact hv1 | (simp only [rIV, rJV, rAV, rLV, rQV, rV, reduceIte, Nat.reduceEqDiff]; exact hv1)) ?_
  refine Bod.ildG dc_401_256 (by repeat (first | exact q6 | exact sm_get_p1 | exact sm_get_p2e | refine sm_get_p1m (by decide) (by decide) ?_ | refine sm_get_p1n (by decide) rfl ?_ | refine sm_get_p2n (by decide) (by decide) rfl ?_ | refine sm_get_p2m (by decide) (by decide) (by decide) ?_)) ?_
  refine Bod.ialdN (N := N) ni rfl (by omega) (by omega) dc_401_258 (mk_isI (by first | exact hg1 | exact isK_S (by simp only [rIS, rJS, rAS, rLS, rVS, rQS, rS_hold]) hg1)) ?_
  refine Bod.eqI (nI e) (by first | assumption | rfl | exact congrArg nI (by omega) | (simp (disch := omega) only [rI, rIe, rA, rIA, rLA, rJA, rVI, rQI, rVA, rQA, upd_at,  rAI, rLI, rJI, nI_add, pk_sub, kc_0, kc_1, kc_2, kc_3, kc_4, kc_5, reduceIte, Nat.reduceEqDiff, Nat.add_zero, rI_hold, rI_hold, rL_hold, hfd1, hfd0, he]; done)) ?_
  refine Bod.aldG dc_401_259 (by repeat (first | exact q5 | exact sm_get_p1 | exact sm_get_p2e | refine sm_get_p1m (by decide) (by decide) ?_ | refine sm_get_p1n (by decide) rfl ?_ | refine sm_get_p2n (by decide) (by decide) rfl ?_ | refine sm_get_p2m (by decide) (by decide) (by decide) ?_)) ?_
  refine Bod.get dc_401_261 fr_401_722 (mk_thing ag (by first | exact hz1 | (simp only [rIS, rJS, rAS, rLS, rVS, rQS, rS_hold]; exact hz1))) rfl ?_
  refine Bod.eqV (.ref r1) (by first | exact hv2 | (simp only [rIV, rJV, rAV, rLV, rQV, rV, reduceIte, Nat.reduceEqDiff]; exact hv2)) ?_
  refine Bod.ildG dc_401_264 (by repeat (first | exact q6 | exact sm_get_p1 | exact sm_get_p2e | refine sm_get_p1m (by decide) (by decide) ?_ | refine sm_get_p1n (by decide) rfl ?_ | refine sm_get_p2n (by decide) (by decide) rfl ?_ | refine sm_get_p2m (by decide) (by decide) (by decide) ?_)) ?_
  refine Bod.laldN (N := N1) ni rfl (by omega) (by omega) dc_401_266 (mk_isL (by first | exact hg2 | exact isK_S (by simp only [rIS, rJS, rAS, rLS, rVS, rQS, rS_hold]) hg2)) ?_
  refine Bod.aldG dc_401_267 (by repeat (first | exact q5 | exact sm_get_p1 | exact sm_get_p2e | refine sm_get_p1m (by decide) (by decide) ?_ | refine sm_get_p1n (by decide) rfl ?_ | refine sm_get_p2n (by decide) (by decide) rfl ?_ | refine sm_get_p2m (by decide) (by decide) (by decide) ?_)) ?_
  refine Bod.get dc_401_269 fr_401_725 (mk_thing ag (by first | exact hz1 | (simp only [rIS, rJS, rAS, rLS, rVS, rQS, rS_hold]; exact hz1))) rfl ?_
  refine Bod.eqV (.ref r2) (by first | exact hv3 | (simp only [rIV, rJV, rAV, rLV, rQV, rV, reduceIte, Nat.reduceEqDiff]; exact hv3)) ?_
  refine Bod.ildG dc_401_272 (by repeat (first | exact q6 | exact sm_get_p1 | exact sm_get_p2e | refine sm_get_p1m (by decide) (by decide) ?_ | refine sm_get_p1n (by decide) rfl ?_ | refine sm_get_p2n (by decide) (by decide) rfl ?_ | refine sm_get_p2m (by decide) (by decide) (by decide) ?_)) ?_
  refine Bod.laldN (N := N2) ni rfl (by omega) (by omega) dc_401_274 (mk_isL (by first | exact hg3 | exact isK_S (by simp only [rIS, rJS, rAS, rLS, rVS, rQS, rS_hold]) hg3)) ?_
  refine Bod.virt (r := [_]) dc_401_275 kr_401_712 ⟨Or.inl rfl, ow_402, cl_14⟩ (by rw [np_402]; rfl) (by rw [np_402]; rfl) (ob_of (mk_61 _)) (Nat.le_of_ble_eq_true rfl) (c1  ) ?_
  show Bod _ _ _ _ [_, _] _ _ _
  refine Bod.go dc_401_278 rfl ?_
  refine Bod.ist dc_401_279 (by rw [ml_401]; exact Nat.le_of_ble_eq_true rfl) ?_
  refine Bod.incN (ni + 1) (by rw [kc_1, nI_add]) dc_401_281 (by rw [ml_401]; exact Nat.le_of_ble_eq_true rfl) (by repeat (first | exact q6 | exact sm_get_p1 | exact sm_get_p2e | refine sm_get_p1m (by decide) (by decide) ?_ | refine sm_get_p1n (by decide) rfl ?_ | refine sm_get_p2n (by decide) (by decide) rfl ?_ | refine sm_get_p2m (by decide) (by decide) (by decide) ?_)) ?_
  refine Bod.go dc_401_284 rfl ?_
  exact hB _ (by repeat (first | exact q0 | exact sm_get_p1 | exact sm_get_p2e | refine sm_get_p1m (by decide) (by decide) ?_ | refine sm_get_p1n (by decide) rfl ?_ | refine sm_get_p2n (by decide) (by decide) rfl ?_ | refine sm_get_p2m (by decide) (by decide) (by decide) ?_)) (by repeat (first | exact q2 | exact sm_get_p1 | exact sm_get_p2e | refine sm_get_p1m (by decide) (by decide) ?_ | refine sm_get_p1n (by decide) rfl ?_ | refine sm_get_p2n (by decide) (by decide) rfl ?_ | refine sm_get_p2m (by decide) (by decide) (by decide) ?_)) (by repeat (first | exact q0 | exact sm_get_p1 | exact sm_get_p2e | refine sm_get_p1m (by decide) (by decide) ?_ | refine sm_get_p1n (by decide) rfl ?_ | refine sm_get_p2n (by decide) (by decide) rfl ?_ | refine sm_get_p2m (by decide) (by decide) (by decide) ?_)) (by repeat (first | exact q5 | exact sm_get_p1 | exact sm_get_p2e | refine sm_get_p1m (by decide) (by decide) ?_ | refine sm_get_p1n (by decide) rfl ?_ | refine sm_get_p2n (by decide) (by decide) rfl ?_ | refine sm_get_p2m (by decide) (by decide) (by decide) ?_)) (by repeat (first | exact q0 | exact sm_get_p1 | exact sm_get_p2e | refine sm_get_p1m (by decide) (by decide) ?_ | refine sm_get_p1n (by decide) rfl ?_ | refine sm_get_p2n (by decide) (by decide) rfl ?_ | refine sm_get_p2m (by decide) (by decide) (by decide) ?_))
theorem rBiL_4 {d : Nat} {S Sf : cS} {v : Option Value} {lv : sm_L} {g : Nat} {zg : Nat} {x : Nat} {xs : Int32} {ni : Nat} {fd1 : Nat} {fd0 : Nat} {r : Nat} {N : Nat} {e : Nat} {r1 : Nat} {N1 : Nat} {r2 : Nat} {N2 : Nat} {S1 : cS} (q0 : sm_get lv 0 = some (.ref 61)) (q2 : sm_get lv 2 = some (.int (nI x))) (q4 : sm_get lv 4 = some (.int xs)) (q5 : sm_get lv 5 = some (.ref g)) (q6 : sm_get lv 6 = some (.int (nI ni))) (mx : x < 2 ^ 20) (mni : ni < 2 ^ 20) (ag : 108 ≤ g) (hz1 : (sS S)[g - 108]? = some (13, zg)) (hfd1 : sI S (100 * g + 1) = nI fd1) (mfd1 : fd1 < 2 ^ 20) (b1 : ni < fd1) (hfd0 : sI S (100 * g + 0) = nI fd0) (mfd0 : fd0 < 2 ^ 20) (b2 : fd0 ≠ 1) (hv1 : sV S (100 * g + 3) = .ref r) (hg1 : isK S r 0 N) (mN : N < 2 ^ 20) (b3 : ni < N) (he : sA S r ni = nI e) (me : e < 2 ^ 20) (hv2 : sV S (100 * g + 6) = .ref r1) (hg2 : isK S r1 1 N1) (mN1 : N1 < 2 ^ 20) (b4 : ni < N1) (hv3 : sV S (100 * g + 7) = .ref r2) (hg3 : isK S r2 1 N2) (mN2 : N2 < 2 ^ 20) (b5 : ni < N2) (c1 : Ans (d + 8) 402 [.ref 61, .int (nI x), .int (nI e), .long (sL S r1 ni), .long (sL S r2 ni)] S (some (.int (nI 0))) S1) (hB : ∀ lv1 : sm_L, sm_get lv1 0 = some (.ref 61) → sm_get lv1 2 = some (.int (nI x)) → sm_get lv1 4 = some (.int (xs ||| (nI 0))) → sm_get lv1 5 = some (.ref g) → sm_get lv1 6 = some (.int (nI (ni + 1))) → Bod (d + 8) 401 196 lv1 [] (S1) v Sf) : Bod (d + 8) 401 196 lv [] S v Sf := by
  refine Bod.ildG dc_401_196 (by repeat (first | exact q6 | exact sm_get_p1 | exact sm_get_p2e | refine sm_get_p1m (by decide) (by decide) ?_ | refine sm_get_p1n (by decide) rfl ?_ | refine sm_get_p2n (by decide) (by decide) rfl ?_ | refine sm_get_p2m (by decide) (by decide) (by decide) ?_)) ?_
  refine Bod.aldG dc_401_198 (by repeat (first | exact q5 | exact sm_get_p1 | exact sm_get_p2e | refine sm_get_p1m (by decide) (by decide) ?_ | refine sm_get_p1n (by decide) rfl ?_ | refine sm_get_p2n (by decide) (by decide) rfl ?_ | refine sm_get_p2m (by decide) (by decide) (by decide) ?_)) ?_
  refine Bod.get dc_401_200 fr_401_459 (mk_thing ag (by first | exact hz1 | (simp only [rIS, rJS, rAS, rLS, rVS, rQS, rS_hold]; exact hz1))) rfl ?_
  refine Bod.eqI (nI fd1) (by first | assumption | rfl | exact congrArg nI (by omega) | (simp (disch := omega) only [rI, rIe, rA, rIA, rLA, rJA, rVI, rQI, rVA, rQA, upd_at,  rAI, rLI, rJI, nI_add, pk_sub, kc_0, kc_1, kc_2, kc_3, kc_4, kc_5, reduceIte, Nat.reduceEqDiff, Nat.add_zero, rI_hold, rI_hold, rL_hold, hfd1]; done)) ?_
  refine Bod.icF dc_401_203 rfl (k2_ge_F ni fd1 rfl rfl (by omega) (by omega)) ?_
  refine Bod.ildG dc_401_206 (by repeat (first | exact q4 | exact sm_get_p1 | exact sm_get_p2e | refine sm_get_p1m (by decide) (by decide) ?_ | refine sm_get_p1n (by decide) rfl ?_ | refine sm_get_p2n (by decide) (by decide) rfl ?_ | refine sm_get_p2m (by decide) (by decide) (by decide) ?_)) ?_
  refine Bod.aldG dc_401_208 (by repeat (first | exact q5 | exact sm_get_p1 | exact sm_get_p2e | refine sm_get_p1m (by decide) (by decide) ?_ | refine sm_get_p1n (by decide) rfl ?_ | refine sm_get_p2n (by decide) (by decide) rfl ?_ | refine sm_get_p2m (by decide) (by decide) (by decide) ?_)) ?_
  refine Bod.get dc_401_210 fr_401_531 (mk_thing ag (by first | exact hz1 | (simp only [rIS, rJS, rAS, rLS, rVS, rQS, rS_hold]; exact hz1))) rfl ?_
  refine Bod.eqI (nI fd0) (by first | assumption | rfl | exact congrArg nI (by omega) | (simp (disch := omega) only [rI, rIe, rA, rIA, rLA, rJA, rVI, rQI, rVA, rQA, upd_at,  rAI, rLI, rJI, nI_add, pk_sub, kc_0, kc_1, kc_2, kc_3, kc_4, kc_5, reduceIte, Nat.reduceEqDiff, Nat.add_zero, rI_hold, rI_hold, rL_hold, hfd1, hfd0]; done)) ?_
  refine Bod.ic 1 (by decide) dc_401_213 ?_
  refine Bod.icT dc_401_214 rfl (k2_ne_T (k_ne fd0 1 rfl rfl (by omega) (by omega) (by omega))) ?_
  refine Bod.aldnG dc_401_249 (by repeat (first | exact q0 | exact sm_get_p1 | exact sm_get_p2e | refine sm_get_p1m (by decide) (by decide) ?_ | refine sm_get_p1n (by decide) rfl ?_ | refine sm_get_p2n (by decide) (by decide) rfl ?_ | refine sm_get_p2m (by decide) (by decide) (by decide) ?_)) ?_
  refine Bod.ildnG dc_401_250 (by repeat (first | exact q2 | exact sm_get_p1 | exact sm_get_p2e | refine sm_get_p1m (by decide) (by decide) ?_ | refine sm_get_p1n (by decide) rfl ?_ | refine sm_get_p2n (by decide) (by decide) rfl ?_ | refine sm_get_p2m (by decide) (by decide) (by decide) ?_)) ?_
  refine Bod.aldG dc_401_251 (by repeat (first | exact q5 | exact sm_get_p1 | exact sm_get_p2e | refine sm_get_p1m (by decide) (by decide) ?_ | refine sm_get_p1n (by decide) rfl ?_ | refine sm_get_p2n (by decide) (by decide) rfl ?_ | refine sm_get_p2m (by decide) (by decide) (by decide) ?_)) ?_
  refine Bod.get dc_401_253 fr_401_719 (mk_thing ag (by first | exact hz1 | (simp only [rIS, rJS, rAS, rLS, rVS, rQS, rS_hold]; exact hz1))) rfl ?_
  refine Bod.eqV (.ref r) (by first | exact hv1 | (simp only [rIV, rJV, rAV, rLV, rQV, rV, reduceIte, Nat.reduceEqDiff]; exact hv1)) ?_
  refine Bod.ildG dc_401_256 (by repeat (first | exact q6 | exact sm_get_p1 | exact sm_get_p2e | refine sm_get_p1m (by decide) (by decide) ?_ | refine sm_get_p1n (by decide) rfl ?_ | refine sm_get_p2n (by decide) (by decide) rfl ?_ | refine sm_get_p2m (by decide) (by decide) (by decide) ?_)) ?_
  refine Bod.ialdN (N := N) ni rfl (by omega) (by omega) dc_401_258 (mk_isI (by first | exact hg1 | exact isK_S (by simp only [rIS, rJS, rAS, rLS, rVS, rQS, rS_hold]) hg1)) ?_
  refine Bod.eqI (nI e) (by first | assumption | rfl | exact congrArg nI (by omega) | (simp (disch := omega) only [rI, rIe, rA, rIA, rLA, rJA, rVI, rQI, rVA, rQA, upd_at,  rAI, rLI, rJI, nI_add, pk_sub, kc_0, kc_1, kc_2, kc_3, kc_4, kc_5, reduceIte, Nat.reduceEqDiff, Nat.add_zero, rI_hold, rI_hold, rL_hold, hfd1, hfd0, he]; done)) ?_
  refine Bod.aldG dc_401_259 (by repeat (first | exact q5 | exact sm_get_p1 | exact sm_get_p2e | refine sm_get_p1m (by decide) (by decide) ?_ | refine sm_get_p1n (by decide) rfl ?_ | refine sm_get_p2n (by decide) (by decide) rfl ?_ | refine sm_get_p2m (by decide) (by decide) (by decide) ?_)) ?_
  refine Bod.get dc_401_261 fr_401_722 (mk_thing ag (by first | exact hz1 | (simp only [rIS, rJS, rAS, rLS, rVS, rQS, rS_hold]; exact hz1))) rfl ?_
  refine Bod.eqV (.ref r1) (by first | exact hv2 | (simp only [rIV, rJV, rAV, rLV, rQV, rV, reduceIte, Nat.reduceEqDiff]; exact hv2)) ?_
  refine Bod.ildG dc_401_264 (by repeat (first | exact q6 | exact sm_get_p1 | exact sm_get_p2e | refine sm_get_p1m (by decide) (by decide) ?_ | refine sm_get_p1n (by decide) rfl ?_ | refine sm_get_p2n (by decide) (by decide) rfl ?_ | refine sm_get_p2m (by decide) (by decide) (by decide) ?_)) ?_
  refine Bod.laldN (N := N1) ni rfl (by omega) (by omega) dc_401_266 (mk_isL (by first | exact hg2 | exact isK_S (by simp only [rIS, rJS, rAS, rLS, rVS, rQS, rS_hold]) hg2)) ?_
  refine Bod.aldG dc_401_267 (by repeat (first | exact q5 | exact sm_get_p1 | exact sm_get_p2e | refine sm_get_p1m (by decide) (by decide) ?_ | refine sm_get_p1n (by decide) rfl ?_ | refine sm_get_p2n (by decide) (by decide) rfl ?_ | refine sm_get_p2m (by decide) (by decide) (by decide) ?_)) ?_
  refine Bod.get dc_401_269 fr_401_725 (mk_thing ag (by first | exact hz1 | (simp only [rIS, rJS, rAS, rLS, rVS, rQS, rS_hold]; exact hz1))) rfl ?_
  refine Bod.eqV (.ref r2) (by first | exact hv3 | (simp only [rIV, rJV, rAV, rLV, rQV, rV, reduceIte, Nat.reduceEqDiff]; exact hv3)) ?_
  refine Bod.ildG dc_401_272 (by repeat (first | exact q6 | exact sm_get_p1 | exact sm_get_p2e | refine sm_get_p1m (by decide) (by decide) ?_ | refine sm_get_p1n (by decide) rfl ?_ | refine sm_get_p2n (by decide) (by decide) rfl ?_ | refine sm_get_p2m (by decide) (by decide) (by decide) ?_)) ?_
  refine Bod.laldN (N := N2) ni rfl (by omega) (by omega) dc_401_274 (mk_isL (by first | exact hg3 | exact isK_S (by simp only [rIS, rJS, rAS, rLS, rVS, rQS, rS_hold]) hg3)) ?_
  refine Bod.virt (r := [_]) dc_401_275 kr_401_712 ⟨Or.inl rfl, ow_402, cl_14⟩ (by rw [np_402]; rfl) (by rw [np_402]; rfl) (ob_of (mk_61 _)) (Nat.le_of_ble_eq_true rfl) (c1  ) ?_
  show Bod _ _ _ _ [_, _] _ _ _
  refine Bod.go dc_401_278 rfl ?_
  refine Bod.ist dc_401_279 (by rw [ml_401]; exact Nat.le_of_ble_eq_true rfl) ?_
  refine Bod.incN (ni + 1) (by rw [kc_1, nI_add]) dc_401_281 (by rw [ml_401]; exact Nat.le_of_ble_eq_true rfl) (by repeat (first | exact q6 | exact sm_get_p1 | exact sm_get_p2e | refine sm_get_p1m (by decide) (by decide) ?_ | refine sm_get_p1n (by decide) rfl ?_ | refine sm_get_p2n (by decide) (by decide) rfl ?_ | refine sm_get_p2m (by decide) (by decide) (by decide) ?_)) ?_
  refine Bod.go dc_401_284 rfl ?_
  exact hB _ (by repeat (first | exact q0 | exact sm_get_p1 | exact sm_get_p2e | refine sm_get_p1m (by decide) (by decide) ?_ | refine sm_get_p1n (by decide) rfl ?_ | refine sm_get_p2n (by decide) (by decide) rfl ?_ | refine sm_get_p2m (by decide) (by decide) (by decide) ?_)) (by repeat (first | exact q2 | exact sm_get_p1 | exact sm_get_p2e | refine sm_get_p1m (by decide) (by decide) ?_ | refine sm_get_p1n (by decide) rfl ?_ | refine sm_get_p2n (by decide) (by decide) rfl ?_ | refine sm_get_p2m (by decide) (by decide) (by decide) ?_)) (by repeat (first | exact q0 | exact sm_get_p1 | exact sm_get_p2e | refine sm_get_p1m (by decide) (by decide) ?_ | refine sm_get_p1n (by decide) rfl ?_ | refine sm_get_p2n (by decide) (by decide) rfl ?_ | refine sm_get_p2m (by decide) (by decide) (by decide) ?_)) (by repeat (first | exact q5 | exact sm_get_p1 | exact sm_get_p2e | refine sm_get_p1m (by decide) (by decide) ?_ | refine sm_get_p1n (by decide) rfl ?_ | refine sm_get_p2n (by decide) (by decide) rfl ?_ | refine sm_get_p2m (by decide) (by decide) (by decide) ?_)) (by repeat (first | exact q0 | exact sm_get_p1 | exact sm_get_p2e | refine sm_get_p1m (by decide) (by decide) ?_ | refine sm_get_p1n (by decide) rfl ?_ | refine sm_get_p2n (by decide) (by decide) rfl ?_ | refine sm_get_p2m (by decide) (by decide) (by decide) ?_))
theorem rBiL_5 {d : Nat} {S Sf : cS} {v : Option Value} {lv : sm_L} {g : Nat} {zg : Nat} {x : Nat} {xs : Int32} {ni : Nat} {fd1 : Nat} {fd0 : Nat} {r : Nat} {N : Nat} {e : Nat} {r1 : Nat} {N1 : Nat} {r2 : Nat} {N2 : Nat} {S1 : cS} (q0 : sm_get lv 0 = some (.ref 61)) (q2 : sm_get lv 2 = some (.int (nI x))) (q4 : sm_get lv 4 = some (.int xs)) (q5 : sm_get lv 5 = some (.ref g)) (q6 : sm_get lv 6 = some (.int (nI ni))) (mx : x < 2 ^ 20) (mni : ni < 2 ^ 20) (ag : 108 ≤ g) (hz1 : (sS S)[g - 108]? = some (13, zg)) (hfd1 : sI S (100 * g + 1) = nI fd1) (mfd1 : fd1 < 2 ^ 20) (b1 : ni < fd1) (hfd0 : sI S (100 * g + 0) = nI fd0) (mfd0 : fd0 < 2 ^ 20) (b2 : fd0 = 1) (hv1 : sV S (100 * g + 2) = .ref r) (hg1 : isK S r 0 N) (mN : N < 2 ^ 20) (b3 : ni < N) (he : sA S r ni = nI e) (me : e < 2 ^ 20) (hv2 : sV S (100 * g + 4) = .ref r1) (hg2 : isK S r1 1 N1) (mN1 : N1 < 2 ^ 20) (b4 : ni < N1) (hv3 : sV S (100 * g + 5) = .ref r2) (hg3 : isK S r2 1 N2) (mN2 : N2 < 2 ^ 20) (b5 : ni < N2) (c1 : Ans (d + 8) 402 [.ref 61, .int (nI x), .int (nI e), .long (sL S r1 ni), .long (sL S r2 ni)] S (some (.int (nI 1))) S1) (hB : ∀ lv1 : sm_L, sm_get lv1 0 = some (.ref 61) → sm_get lv1 2 = some (.int (nI x)) → sm_get lv1 4 = some (.int (xs ||| (nI 1))) → sm_get lv1 5 = some (.ref g) → sm_get lv1 6 = some (.int (nI (ni + 1))) → Bod (d + 8) 401 196 lv1 [] (S1) v Sf) : Bod (d + 8) 401 196 lv [] S v Sf := by
  refine Bod.ildG dc_401_196 (by repeat (first | exact q6 | exact sm_get_p1 | exact sm_get_p2e | refine sm_get_p1m (by decide) (by decide) ?_ | refine sm_get_p1n (by decide) rfl ?_ | refine sm_get_p2n (by decide) (by decide) rfl ?_ | refine sm_get_p2m (by decide) (by decide) (by decide) ?_)) ?_
  refine Bod.aldG dc_401_198 (by repeat (first | exact q5 | exact sm_get_p1 | exact sm_get_p2e | refine sm_get_p1m (by decide) (by decide) ?_ | refine sm_get_p1n (by decide) rfl ?_ | refine sm_get_p2n (by decide) (by decide) rfl ?_ | refine sm_get_p2m (by decide) (by decide) (by decide) ?_)) ?_
  refine Bod.get dc_401_200 fr_401_459 (mk_thing ag (by first | exact hz1 | (simp only [rIS, rJS, rAS, rLS, rVS, rQS, rS_hold]; exact hz1))) rfl ?_
  refine Bod.eqI (nI fd1) (by first | assumption | rfl | exact congrArg nI (by omega) | (simp (disch := omega) only [rI, rIe, rA, rIA, rLA, rJA, rVI, rQI, rVA, rQA, upd_at,  rAI, rLI, rJI, nI_add, pk_sub, kc_0, kc_1, kc_2, kc_3, kc_4, kc_5, reduceIte, Nat.reduceEqDiff, Nat.add_zero, rI_hold, rI_hold, rL_hold, hfd1]; done)) ?_
  refine Bod.icF dc_401_203 rfl (k2_ge_F ni fd1 rfl rfl (by omega) (by omega)) ?_
  refine Bod.ildG dc_401_206 (by repeat (first | exact q4 | exact sm_get_p1 | exact sm_get_p2e | refine sm_get_p1m (by decide) (by decide) ?_ | refine sm_get_p1n (by decide) rfl ?_ | refine sm_get_p2n (by decide) (by decide) rfl ?_ | refine sm_get_p2m (by decide) (by decide) (by decide) ?_)) ?_
  refine Bod.aldG dc_401_208 (by repeat (first | exact q5 | exact sm_get_p1 | exact sm_get_p2e | refine sm_get_p1m (by decide) (by decide) ?_ | refine sm_get_p1n (by decide) rfl ?_ | refine sm_get_p2n (by decide) (by decide) rfl ?_ | refine sm_get_p2m (by decide) (by decide) (by decide) ?_)) ?_
  refine Bod.get dc_401_210 fr_401_531 (mk_thing ag (by first | exact hz1 | (simp only [rIS, rJS, rAS, rLS, rVS, rQS, rS_hold]; exact hz1))) rfl ?_
  refine Bod.eqI (nI fd0) (by first | assumption | rfl | exact congrArg nI (by omega) | (simp (disch := omega) only [rI, rIe, rA, rIA, rLA, rJA, rVI, rQI, rVA, rQA, upd_at,  rAI, rLI, rJI, nI_add, pk_sub, kc_0, kc_1, kc_2, kc_3, kc_4, kc_5, reduceIte, Nat.reduceEqDiff, Nat.add_zero, rI_hold, rI_hold, rL_hold, hfd1, hfd0]; done)) ?_
  refine Bod.ic 1 (by decide) dc_401_213 ?_
  refine Bod.icF dc_401_214 rfl (k2_ne_F (k_eq fd0 1 rfl rfl (by omega))) ?_
  refine Bod.aldnG dc_401_217 (by repeat (first | exact q0 | exact sm_get_p1 | exact sm_get_p2e | refine sm_get_p1m (by decide) (by decide) ?_ | refine sm_get_p1n (by decide) rfl ?_ | refine sm_get_p2n (by decide) (by decide) rfl ?_ | refine sm_get_p2m (by decide) (by decide) (by decide) ?_)) ?_
  refine Bod.ildnG dc_401_218 (by repeat (first | exact q2 | exact sm_get_p1 | exact sm_get_p2e | refine sm_get_p1m (by decide) (by decide) ?_ | refine sm_get_p1n (by decide) rfl ?_ | refine sm_get_p2n (by decide) (by decide) rfl ?_ | refine sm_get_p2m (by decide) (by decide) (by decide) ?_)) ?_
  refine Bod.aldG dc_401_219 (by repeat (first | exact q5 | exact sm_get_p1 | exact sm_get_p2e | refine sm_get_p1m (by decide) (by decide) ?_ | refine sm_get_p1n (by decide) rfl ?_ | refine sm_get_p2n (by decide) (by decide) rfl ?_ | refine sm_get_p2m (by decide) (by decide) (by decide) ?_)) ?_
  refine Bod.get dc_401_221 fr_401_462 (mk_thing ag (by first | exact hz1 | (simp only [rIS, rJS, rAS, rLS, rVS, rQS, rS_hold]; exact hz1))) rfl ?_
  refine Bod.eqV (.ref r) (by first | exact hv1 | (simp only [rIV, rJV, rAV, rLV, rQV, rV, reduceIte, Nat.reduceEqDiff]; exact hv1)) ?_
  refine Bod.ildG dc_401_224 (by repeat (first | exact q6 | exact sm_get_p1 | exact sm_get_p2e | refine sm_get_p1m (by decide) (by decide) ?_ | refine sm_get_p1n (by decide) rfl ?_ | refine sm_get_p2n (by decide) (by decide) rfl ?_ | refine sm_get_p2m (by decide) (by decide) (by decide) ?_)) ?_
  refine Bod.ialdN (N := N) ni rfl (by omega) (by omega) dc_401_226 (mk_isI (by first | exact hg1 | exact isK_S (by simp only [rIS, rJS, rAS, rLS, rVS, rQS, rS_hold]) hg1)) ?_
  refine Bod.eqI (nI e) (by first | assumption | rfl | exact congrArg nI (by omega) | (simp (disch := omega) only [rI, rIe, rA, rIA, rLA, rJA, rVI, rQI, rVA, rQA, upd_at,  rAI, rLI, rJI, nI_add, pk_sub, kc_0, kc_1, kc_2, kc_3, kc_4, kc_5, reduceIte, Nat.reduceEqDiff, Nat.add_zero, rI_hold, rI_hold, rL_hold, hfd1, hfd0, he]; done)) ?_
  refine Bod.aldG dc_401_227 (by repeat (first | exact q5 | exact sm_get_p1 | exact sm_get_p2e | refine sm_get_p1m (by decide) (by decide) ?_ | refine sm_get_p1n (by decide) rfl ?_ | refine sm_get_p2n (by decide) (by decide) rfl ?_ | refine sm_get_p2m (by decide) (by decide) (by decide) ?_)) ?_
  refine Bod.get dc_401_229 fr_401_465 (mk_thing ag (by first | exact hz1 | (simp only [rIS, rJS, rAS, rLS, rVS, rQS, rS_hold]; exact hz1))) rfl ?_
  refine Bod.eqV (.ref r1) (by first | exact hv2 | (simp only [rIV, rJV, rAV, rLV, rQV, rV, reduceIte, Nat.reduceEqDiff]; exact hv2)) ?_
  refine Bod.ildG dc_401_232 (by repeat (first | exact q6 | exact sm_get_p1 | exact sm_get_p2e | refine sm_get_p1m (by decide) (by decide) ?_ | refine sm_get_p1n (by decide) rfl ?_ | refine sm_get_p2n (by decide) (by decide) rfl ?_ | refine sm_get_p2m (by decide) (by decide) (by decide) ?_)) ?_
  refine Bod.laldN (N := N1) ni rfl (by omega) (by omega) dc_401_234 (mk_isL (by first | exact hg2 | exact isK_S (by simp only [rIS, rJS, rAS, rLS, rVS, rQS, rS_hold]) hg2)) ?_
  refine Bod.aldG dc_401_235 (by repeat (first | exact q5 | exact sm_get_p1 | exact sm_get_p2e | refine sm_get_p1m (by decide) (by decide) ?_ | refine sm_get_p1n (by decide) rfl ?_ | refine sm_get_p2n (by decide) (by decide) rfl ?_ | refine sm_get_p2m (by decide) (by decide) (by decide) ?_)) ?_
  refine Bod.get dc_401_237 fr_401_627 (mk_thing ag (by first | exact hz1 | (simp only [rIS, rJS, rAS, rLS, rVS, rQS, rS_hold]; exact hz1))) rfl ?_
  refine Bod.eqV (.ref r2) (by first | exact hv3 | (simp only [rIV, rJV, rAV, rLV, rQV, rV, reduceIte, Nat.reduceEqDiff]; exact hv3)) ?_
  refine Bod.ildG dc_401_240 (by repeat (first | exact q6 | exact sm_get_p1 | exact sm_get_p2e | refine sm_get_p1m (by decide) (by decide) ?_ | refine sm_get_p1n (by decide) rfl ?_ | refine sm_get_p2n (by decide) (by decide) rfl ?_ | refine sm_get_p2m (by decide) (by decide) (by decide) ?_)) ?_
  refine Bod.laldN (N := N2) ni rfl (by omega) (by omega) dc_401_242 (mk_isL (by first | exact hg3 | exact isK_S (by simp only [rIS, rJS, rAS, rLS, rVS, rQS, rS_hold]) hg3)) ?_
  refine Bod.virt (r := [_]) dc_401_243 kr_401_712 ⟨Or.inl rfl, ow_402, cl_14⟩ (by rw [np_402]; rfl) (by rw [np_402]; rfl) (ob_of (mk_61 _)) (Nat.le_of_ble_eq_true rfl) (c1  ) ?_
  show Bod _ _ _ _ [_, _] _ _ _
  refine Bod.go dc_401_246 rfl ?_
  refine Bod.go dc_401_278 rfl ?_
  refine Bod.ist dc_401_279 (by rw [ml_401]; exact Nat.le_of_ble_eq_true rfl) ?_
  refine Bod.incN (ni + 1) (by rw [kc_1, nI_add]) dc_401_281 (by rw [ml_401]; exact Nat.le_of_ble_eq_true rfl) (by repeat (first | exact q6 | exact sm_get_p1 | exact sm_get_p2e | refine sm_get_p1m (by decide) (by decide) ?_ | refine sm_get_p1n (by decide) rfl ?_ | refine sm_get_p2n (by decide) (by decide) rfl ?_ | refine sm_get_p2m (by decide) (by decide) (by decide) ?_)) ?_
  refine Bod.go dc_401_284 rfl ?_
  exact hB _ (by repeat (first | exact q0 | exact sm_get_p1 | exact sm_get_p2e | refine sm_get_p1m (by decide) (by decide) ?_ | refine sm_get_p1n (by decide) rfl ?_ | refine sm_get_p2n (by decide) (by decide) rfl ?_ | refine sm_get_p2m (by decide) (by decide) (by decide) ?_)) (by repeat (first | exact q2 | exact sm_get_p1 | exact sm_get_p2e | refine sm_get_p1m (by decide) (by decide) ?_ | refine sm_get_p1n (by decide) rfl ?_ | refine sm_get_p2n (by decide) (by decide) rfl ?_ | refine sm_get_p2m (by decide) (by decide) (by decide) ?_)) (by repeat (first | exact q0 | exact sm_get_p1 | exact sm_get_p2e | refine sm_get_p1m (by decide) (by decide) ?_ | refine sm_get_p1n (by decide) rfl ?_ | refine sm_get_p2n (by decide) (by decide) rfl ?_ | refine sm_get_p2m (by decide) (by decide) (by decide) ?_)) (by repeat (first | exact q5 | exact sm_get_p1 | exact sm_get_p2e | refine sm_get_p1m (by decide) (by decide) ?_ | refine sm_get_p1n (by decide) rfl ?_ | refine sm_get_p2n (by decide) (by decide) rfl ?_ | refine sm_get_p2m (by decide) (by decide) (by decide) ?_)) (by repeat (first | exact q0 | exact sm_get_p1 | exact sm_get_p2e | refine sm_get_p1m (by decide) (by decide) ?_ | refine sm_get_p1n (by decide) rfl ?_ | refine sm_get_p2n (by decide) (by decide) rfl ?_ | refine sm_get_p2m (by decide) (by decide) (by decide) ?_))
theorem rBiL_6 {d : Nat} {S Sf : cS} {v : Option Value} {lv : sm_L} {g : Nat} {zg : Nat} {x : Nat} {xs : Int32} {ni : Nat} {fd1 : Nat} {fd0 : Nat} {r : Nat} {N : Nat} {e : Nat} {r1 : Nat} {N1 : Nat} {r2 : Nat} {N2 : Nat} {S1 : cS} (q0 : sm_get lv 0 = some (.ref 61)) (q2 : sm_get lv 2 = some (.int (nI x))) (q4 : sm_get lv 4 = some (.int xs)) (q5 : sm_get lv 5 = some (.ref g)) (q6 : sm_get lv 6 = some (.int (nI ni))) (mx : x < 2 ^ 20) (mni : ni < 2 ^ 20) (ag : 108 ≤ g) (hz1 : (sS S)[g - 108]? = some (13, zg)) (hfd1 : sI S (100 * g + 1) = nI fd1) (mfd1 : fd1 < 2 ^ 20) (b1 : ni < fd1) (hfd0 : sI S (100 * g + 0) = nI fd0) (mfd0 : fd0 < 2 ^ 20) (b2 : fd0 = 1) (hv1 : sV S (100 * g + 2) = .ref r) (hg1 : isK S r 0 N) (mN : N < 2 ^ 20) (b3 : ni < N) (he : sA S r ni = nI e) (me : e < 2 ^ 20) (hv2 : sV S (100 * g + 4) = .ref r1) (hg2 : isK S r1 1 N1) (mN1 : N1 < 2 ^ 20) (b4 : ni < N1) (hv3 : sV S (100 * g + 5) = .ref r2) (hg3 : isK S r2 1 N2) (mN2 : N2 < 2 ^ 20) (b5 : ni < N2) (c1 : Ans (d + 8) 402 [.ref 61, .int (nI x), .int (nI e), .long (sL S r1 ni), .long (sL S r2 ni)] S (some (.int (nI 0))) S1) (hB : ∀ lv1 : sm_L, sm_get lv1 0 = some (.ref 61) → sm_get lv1 2 = some (.int (nI x)) → sm_get lv1 4 = some (.int (xs ||| (nI 0))) → sm_get lv1 5 = some (.ref g) → sm_get lv1 6 = some (.int (nI (ni + 1))) → Bod (d + 8) 401 196 lv1 [] (S1) v Sf) : Bod (d + 8) 401 196 lv [] S v Sf := by
  refine Bod.ildG dc_401_196 (by repeat (first | exact q6 | exact sm_get_p1 | exact sm_get_p2e | refine sm_get_p1m (by decide) (by decide) ?_ | refine sm_get_p1n (by decide) rfl ?_ | refine sm_get_p2n (by decide) (by decide) rfl ?_ | refine sm_get_p2m (by decide) (by decide) (by decide) ?_)) ?_
  refine Bod.aldG dc_401_198 (by repeat (first | exact q5 | exact sm_get_p1 | exact sm_get_p2e | refine sm_get_p1m (by decide) (by decide) ?_ | refine sm_get_p1n (by decide) rfl ?_ | refine sm_get_p2n (by decide) (by decide) rfl ?_ | refine sm_get_p2m (by decide) (by decide) (by decide) ?_)) ?_
  refine Bod.get dc_401_200 fr_401_459 (mk_thing ag (by first | exact hz1 | (simp only [rIS, rJS, rAS, rLS, rVS, rQS, rS_hold]; exact hz1))) rfl ?_
  refine Bod.eqI (nI fd1) (by first | assumption | rfl | exact congrArg nI (by omega) | (simp (disch := omega) only [rI, rIe, rA, rIA, rLA, rJA, rVI, rQI, rVA, rQA, upd_at,  rAI, rLI, rJI, nI_add, pk_sub, kc_0, kc_1, kc_2, kc_3, kc_4, kc_5, reduceIte, Nat.reduceEqDiff, Nat.add_zero, rI_hold, rI_hold, rL_hold, hfd1]; done)) ?_
  refine Bod.icF dc_401_203 rfl (k2_ge_F ni fd1 rfl rfl (by omega) (by omega)) ?_
  refine Bod.ildG dc_401_206 (by repeat (first | exact q4 | exact sm_get_p1 | exact sm_get_p2e | refine sm_get_p1m (by decide) (by decide) ?_ | refine sm_get_p1n (by decide) rfl ?_ | refine sm_get_p2n (by decide) (by decide) rfl ?_ | refine sm_get_p2m (by decide) (by decide) (by decide) ?_)) ?_
  refine Bod.aldG dc_401_208 (by repeat (first | exact q5 | exact sm_get_p1 | exact sm_get_p2e | refine sm_get_p1m (by decide) (by decide) ?_ | refine sm_get_p1n (by decide) rfl ?_ | refine sm_get_p2n (by decide) (by decide) rfl ?_ | refine sm_get_p2m (by decide) (by decide) (by decide) ?_)) ?_
  refine Bod.get dc_401_210 fr_401_531 (mk_thing ag (by first | exact hz1 | (simp only [rIS, rJS, rAS, rLS, rVS, rQS, rS_hold]; exact hz1))) rfl ?_
  refine Bod.eqI (nI fd0) (by first | assumption | rfl | exact congrArg nI (by omega) | (simp (disch := omega) only [rI, rIe, rA, rIA, rLA, rJA, rVI, rQI, rVA, rQA, upd_at,  rAI, rLI, rJI, nI_add, pk_sub, kc_0, kc_1, kc_2, kc_3, kc_4, kc_5, reduceIte, Nat.reduceEqDiff, Nat.add_zero, rI_hold, rI_hold, rL_hold, hfd1, hfd0]; done)) ?_
  refine Bod.ic 1 (by decide) dc_401_213 ?_
  refine Bod.icF dc_401_214 rfl (k2_ne_F (k_eq fd0 1 rfl rfl (by omega))) ?_
  refine Bod.aldnG dc_401_217 (by repeat (first | exact q0 | exact sm_get_p1 | exact sm_get_p2e | refine sm_get_p1m (by decide) (by decide) ?_ | refine sm_get_p1n (by decide) rfl ?_ | refine sm_get_p2n (by decide) (by decide) rfl ?_ | refine sm_get_p2m (by decide) (by decide) (by decide) ?_)) ?_
  refine Bod.ildnG dc_401_218 (by repeat (first | exact q2 | exact sm_get_p1 | exact sm_get_p2e | refine sm_get_p1m (by decide) (by decide) ?_ | refine sm_get_p1n (by decide) rfl ?_ | refine sm_get_p2n (by decide) (by decide) rfl ?_ | refine sm_get_p2m (by decide) (by decide) (by decide) ?_)) ?_
  refine Bod.aldG dc_401_219 (by repeat (first | exact q5 | exact sm_get_p1 | exact sm_get_p2e | refine sm_get_p1m (by decide) (by decide) ?_ | refine sm_get_p1n (by decide) rfl ?_ | refine sm_get_p2n (by decide) (by decide) rfl ?_ | refine sm_get_p2m (by decide) (by decide) (by decide) ?_)) ?_
  refine Bod.get dc_401_221 fr_401_462 (mk_thing ag (by first | exact hz1 | (simp only [rIS, rJS, rAS, rLS, rVS, rQS, rS_hold]; exact hz1))) rfl ?_
  refine Bod.eqV (.ref r) (by first | exact hv1 | (simp only [rIV, rJV, rAV, rLV, rQV, rV, reduceIte, Nat.reduceEqDiff]; exact hv1)) ?_
  refine Bod.ildG dc_401_224 (by repeat (first | exact q6 | exact sm_get_p1 | exact sm_get_p2e | refine sm_get_p1m (by decide) (by decide) ?_ | refine sm_get_p1n (by decide) rfl ?_ | refine sm_get_p2n (by decide) (by decide) rfl ?_ | refine sm_get_p2m (by decide) (by decide) (by decide) ?_)) ?_
  refine Bod.ialdN (N := N) ni rfl (by omega) (by omega) dc_401_226 (mk_isI (by first | exact hg1 | exact isK_S (by simp only [rIS, rJS, rAS, rLS, rVS, rQS, rS_hold]) hg1)) ?_
  refine Bod.eqI (nI e) (by first | assumption | rfl | exact congrArg nI (by omega) | (simp (disch := omega) only [rI, rIe, rA, rIA, rLA, rJA, rVI, rQI, rVA, rQA, upd_at,  rAI, rLI, rJI, nI_add, pk_sub, kc_0, kc_1, kc_2, kc_3, kc_4, kc_5, reduceIte, Nat.reduceEqDiff, Nat.add_zero, rI_hold, rI_hold, rL_hold, hfd1, hfd0, he]; done)) ?_
  refine Bod.aldG dc_401_227 (by repeat (first | exact q5 | exact sm_get_p1 | exact sm_get_p2e | refine sm_get_p1m (by decide) (by decide) ?_ | refine sm_get_p1n (by decide) rfl ?_ | refine sm_get_p2n (by decide) (by decide) rfl ?_ | refine sm_get_p2m (by decide) (by decide) (by decide) ?_)) ?_
  refine Bod.get dc_401_229 fr_401_465 (mk_thing ag (by first | exact hz1 | (simp only [rIS, rJS, rAS, rLS, rVS, rQS, rS_hold]; exact hz1))) rfl ?_
  refine Bod.eqV (.ref r1) (by first | exact hv2 | (simp only [rIV, rJV, rAV, rLV, rQV, rV, reduceIte, Nat.reduceEqDiff]; exact hv2)) ?_
  refine Bod.ildG dc_401_232 (by repeat (first | exact q6 | exact sm_get_p1 | exact sm_get_p2e | refine sm_get_p1m (by decide) (by decide) ?_ | refine sm_get_p1n (by decide) rfl ?_ | refine sm_get_p2n (by decide) (by decide) rfl ?_ | refine sm_get_p2m (by decide) (by decide) (by decide) ?_)) ?_
  refine Bod.laldN (N := N1) ni rfl (by omega) (by omega) dc_401_234 (mk_isL (by first | exact hg2 | exact isK_S (by simp only [rIS, rJS, rAS, rLS, rVS, rQS, rS_hold]) hg2)) ?_
  refine Bod.aldG dc_401_235 (by repeat (first | exact q5 | exact sm_get_p1 | exact sm_get_p2e | refine sm_get_p1m (by decide) (by decide) ?_ | refine sm_get_p1n (by decide) rfl ?_ | refine sm_get_p2n (by decide) (by decide) rfl ?_ | refine sm_get_p2m (by decide) (by decide) (by decide) ?_)) ?_
  refine Bod.get dc_401_237 fr_401_627 (mk_thing ag (by first | exact hz1 | (simp only [rIS, rJS, rAS, rLS, rVS, rQS, rS_hold]; exact hz1))) rfl ?_
  refine Bod.eqV (.ref r2) (by first | exact hv3 | (simp only [rIV, rJV, rAV, rLV, rQV, rV, reduceIte, Nat.reduceEqDiff]; exact hv3)) ?_
  refine Bod.ildG dc_401_240 (by repeat (first | exact q6 | exact sm_get_p1 | exact sm_get_p2e | refine sm_get_p1m (by decide) (by decide) ?_ | refine sm_get_p1n (by decide) rfl ?_ | refine sm_get_p2n (by decide) (by decide) rfl ?_ | refine sm_get_p2m (by decide) (by decide) (by decide) ?_)) ?_
  refine Bod.laldN (N := N2) ni rfl (by omega) (by omega) dc_401_242 (mk_isL (by first | exact hg3 | exact isK_S (by simp only [rIS, rJS, rAS, rLS, rVS, rQS, rS_hold]) hg3)) ?_
  refine Bod.virt (r := [_]) dc_401_243 kr_401_712 ⟨Or.inl rfl, ow_402, cl_14⟩ (by rw [np_402]; rfl) (by rw [np_402]; rfl) (ob_of (mk_61 _)) (Nat.le_of_ble_eq_true rfl) (c1  ) ?_
  show Bod _ _ _ _ [_, _] _ _ _
  refine Bod.go dc_401_246 rfl ?_
  refine Bod.go dc_401_278 rfl ?_
  refine Bod.ist dc_401_279 (by rw [ml_401]; exact Nat.le_of_ble_eq_true rfl) ?_
  refine Bod.incN (ni + 1) (by rw [kc_1, nI_add]) dc_401_281 (by rw [ml_401]; exact Nat.le_of_ble_eq_true rfl) (by repeat (first | exact q6 | exact sm_get_p1 | exact sm_get_p2e | refine sm_get_p1m (by decide) (by decide) ?_ | refine sm_get_p1n (by decide) rfl ?_ | refine sm_get_p2n (by decide) (by decide) rfl ?_ | refine sm_get_p2m (by decide) (by decide) (by decide) ?_)) ?_
  refine Bod.go dc_401_284 rfl ?_
  exact hB _ (by repeat (first | exact q0 | exact sm_get_p1 | exact sm_get_p2e | refine sm_get_p1m (by decide) (by decide) ?_ | refine sm_get_p1n (by decide) rfl ?_ | refine sm_get_p2n (by decide) (by decide) rfl ?_ | refine sm_get_p2m (by decide) (by decide) (by decide) ?_)) (by repeat (first | exact q2 | exact sm_get_p1 | exact sm_get_p2e | refine sm_get_p1m (by decide) (by decide) ?_ | refine sm_get_p1n (by decide) rfl ?_ | refine sm_get_p2n (by decide) (by decide) rfl ?_ | refine sm_get_p2m (by decide) (by decide) (by decide) ?_)) (by repeat (first | exact q0 | exact sm_get_p1 | exact sm_get_p2e | refine sm_get_p1m (by decide) (by decide) ?_ | refine sm_get_p1n (by decide) rfl ?_ | refine sm_get_p2n (by decide) (by decide) rfl ?_ | refine sm_get_p2m (by decide) (by decide) (by decide) ?_)) (by repeat (first | exact q5 | exact sm_get_p1 | exact sm_get_p2e | refine sm_get_p1m (by decide) (by decide) ?_ | refine sm_get_p1n (by decide) rfl ?_ | refine sm_get_p2n (by decide) (by decide) rfl ?_ | refine sm_get_p2m (by decide) (by decide) (by decide) ?_)) (by repeat (first | exact q0 | exact sm_get_p1 | exact sm_get_p2e | refine sm_get_p1m (by decide) (by decide) ?_ | refine sm_get_p1n (by decide) rfl ?_ | refine sm_get_p2n (by decide) (by decide) rfl ?_ | refine sm_get_p2m (by decide) (by decide) (by decide) ?_))
theorem rJl_1 {d : Nat} {S Sf : cS} {v : Option Value} {x : Nat} {y : Nat} {S1 : cS} {g : Nat} {zg : Nat} {S2 : cS} {g1 : Nat} {zg1 : Nat} {fd1 : Nat} {fd11 : Nat} {S3 : cS} {a : Nat} (mx : x < 2 ^ 20) (my : y < 2 ^ 20) (ag : 108 ≤ g) (c1 : Ans (d + 8) 361 [.ref 61, .int (nI x)] S (some (.ref g)) S1) (ag1 : 108 ≤ g1) (c2 : Ans (d + 8) 361 [.ref 61, .int (nI y)] S1 (some (.ref g1)) S2) (hz1 : (sS S2)[g - 108]? = some (13, zg)) (hfd1 : sI S2 (100 * g + 1) = nI fd1) (mfd1 : fd1 < 2 ^ 20) (hz2 : (sS S2)[g1 - 108]? = some (13, zg1)) (hfd11 : sI S2 (100 * g1 + 1) = nI fd11) (mfd11 : fd11 < 2 ^ 20) (b1 : (fd1 + fd11) ≤ 300) (ma : a < 1500) (c3 : Ans (d + 8) 364 [.ref 61, .int (nI 1)] S2 (some (.int (nI a))) S3) (hB : ∀ lv1 : sm_L, sm_get lv1 0 = some (.ref 61) → sm_get lv1 3 = some (.ref g) → sm_get lv1 4 = some (.ref g1) → sm_get lv1 5 = some (.int (nI a)) → sm_get lv1 6 = some (.int (nI 0)) → Bod (d + 8) 407 53 lv1 [] (S3) v Sf) : Bod (d + 8) 407 0 [(0, .ref 61), (1, .int (nI x)), (2, .int (nI y))] [] S v Sf := by
  refine Bod.go dc_407_0 rfl ?_
  refine Bod.go dc_407_1 rfl ?_
  refine Bod.virt (r := []) dc_407_2 kr_407_554 ⟨Or.inl rfl, ow_361, cl_14⟩ (by rw [np_361]; rfl) (by rw [np_361]; rfl) (ob_of (mk_61 _)) (Nat.le_of_ble_eq_true rfl) (c1  ) ?_
  show Bod _ _ _ _ [_] _ _ _
  refine Bod.astn dc_407_5 (by rw [ml_407]; exact Nat.le_of_ble_eq_true rfl) ?_
  refine Bod.go dc_407_6 rfl ?_
  refine Bod.go dc_407_7 rfl ?_
  refine Bod.virt (r := []) dc_407_8 kr_407_554 ⟨Or.inl rfl, ow_361, cl_14⟩ (by rw [np_361]; rfl) (by rw [np_361]; rfl) (ob_of (mk_61 _)) (Nat.le_of_ble_eq_true rfl) (c2  ) ?_
  show Bod _ _ _ _ [_] _ _ _
  refine Bod.ast dc_407_11 (by rw [ml_407]; exact Nat.le_of_ble_eq_true rfl) ?_
  refine Bod.go dc_407_13 rfl ?_
  refine Bod.get dc_407_14 fr_407_459 (mk_thing ag (by first | exact hz1 | (simp only [rIS, rJS, rAS, rLS, rVS, rQS, rS_hold]; exact hz1))) rfl ?_
  refine Bod.eqI (nI fd1) (by first | assumption | (simp (disch := omega) only [rI, rIe, rA, rIA, rLA, rJA, rVI, rQI, rVA, rQA, upd_at,  rAI, rLI, rJI, nI_add, pk_sub, kc_0, kc_1, kc_2, kc_3, kc_4, kc_5, reduceIte, Nat.reduceEqDiff, Nat.add_zero, rI_hold, rI_hold, rL_hold, hfd1]; done) | (simp (disch := omega) only [rI, rIe, rA, rIA, rLA, rJA, rVI, rQI, rVA, rQA, upd_at,  rAI, rLI, rJI, nI_add, pk_sub, kc_0, kc_1, kc_2, kc_3, kc_4, kc_5, reduceIte, Nat.reduceEqDiff, Nat.add_zero, rI_hold, rI_hold, rL_hold, hfd1]; exact congrArg nI (by omega))) ?_
  refine Bod.go dc_407_17 rfl ?_
  refine Bod.get dc_407_19 fr_407_459 (mk_thing ag1 (by first | exact hz2 | (simp only [rIS, rJS, rAS, rLS, rVS, rQS, rS_hold]; exact hz2))) rfl ?_
  refine Bod.eqI (nI fd11) (by first | assumption | (simp (disch := omega) only [rI, rIe, rA, rIA, rLA, rJA, rVI, rQI, rVA, rQA, upd_at,  rAI, rLI, rJI, nI_add, pk_sub, kc_0, kc_1, kc_2, kc_3, kc_4, kc_5, reduceIte, Nat.reduceEqDiff, Nat.add_zero, rI_hold, rI_hold, rL_hold, hfd1, hfd11]; done) | (simp (disch := omega) only [rI, rIe, rA, rIA, rLA, rJA, rVI, rQI, rVA, rQA, upd_at,  rAI, rLI, rJI, nI_add, pk_sub, kc_0, kc_1, kc_2, kc_3, kc_4, kc_5, reduceIte, Nat.reduceEqDiff, Nat.add_zero, rI_hold, rI_hold, rL_hold, hfd1, hfd11]; exact congrArg nI (by omega))) ?_
  refine Bod.addN (fd1 + fd11) (by omega) dc_407_22 ?_
  refine Bod.sip 300 (by decide) dc_407_23 ?_
  refine Bod.icT dc_407_26 rfl (k2_le_T (fd1 + fd11) 300 rfl rfl (by omega) (by omega)) ?_
  refine Bod.go dc_407_36 rfl ?_
  refine Bod.ic 1 (by decide) dc_407_37 ?_
  refine Bod.virt (r := []) dc_407_38 kr_407_686 ⟨Or.inl rfl, ow_364, cl_14⟩ (by rw [np_364]; rfl) (by rw [np_364]; rfl) (ob_of (mk_61 _)) (Nat.le_of_ble_eq_true rfl) (c3  ) ?_
  show Bod _ _ _ _ [_] _ _ _
  refine Bod.ist dc_407_41 (by rw [ml_407]; exact Nat.le_of_ble_eq_true rfl) ?_
  refine Bod.go dc_407_43 rfl ?_
  refine Bod.ifT dc_407_45 rfl (k1_ge_T a rfl (by omega)) ?_
  refine Bod.ic 0 (by decide) dc_407_50 ?_
  refine Bod.ist dc_407_51 (by rw [ml_407]; exact Nat.le_of_ble_eq_true rfl) ?_
  exact hB _ (by first | rfl | exact (by repeat (first | exact rfl | exact sm_get_p1 | exact sm_get_p2e | refine sm_get_p1m (by decide) (by decide) ?_ | refine sm_get_p1n (by decide) rfl ?_ | refine sm_get_p2n (by decide) (by decide) rfl ?_ | refine sm_get_p2m (by decide) (by decide) (by decide) ?_))) (by first | rfl | exact (by repeat (first | exact rfl | exact sm_get_p1 | exact sm_get_p2e | refine sm_get_p1m (by decide) (by decide) ?_ | refine sm_get_p1n (by decide) rfl ?_ | refine sm_get_p2n (by decide) (by decide) rfl ?_ | refine sm_get_p2m (by decide) (by decide) (by decide) ?_))) (by first | rfl | exact (by repeat (first | exact rfl | exact sm_get_p1 | exact sm_get_p2e | refine sm_get_p1m (by decide) (by decide) ?_ | refine sm_get_p1n (by decide) rfl ?_ | refine sm_get_p2n (by decide) (by decide) rfl ?_ | refine sm_get_p2m (by decide) (by decide) (by decide) ?_))) (by first | rfl | exact (by repeat (first | exact rfl | exact sm_get_p1 | exact sm_get_p2e | refine sm_get_p1m (by decide) (by decide) ?_ | refine sm_get_p1n (by decide) rfl ?_ | refine sm_get_p2n (by decide) (by decide) rfl ?_ | refine sm_get_p2m (by decide) (by decide) (by decide) ?_))) (by first | rfl | exact (by repeat (first | exact rfl | exact sm_get_p1 | exact sm_get_p2e | refine sm_get_p1m (by decide) (by decide) ?_ | refine sm_get_p1n (by decide) rfl ?_ | refine sm_get_p2n (by decide) (by decide) rfl ?_ | refine sm_get_p2m (by decide) (by decide) (by decide) ?_)))
theorem rJl_2 {d : Nat} {S : cS} {x : Nat} {y : Nat} {S1 : cS} {g : Nat} {zg : Nat} {S2 : cS} {g1 : Nat} {zg1 : Nat} {fd1 : Nat} {fd11 : Nat} {S3 : cS} (mx : x < 2 ^ 20) (my : y < 2 ^ 20) (ag : 108 ≤ g) (c1 : Ans (d + 8) 361 [.ref 61, .int (nI x)] S (some (.ref g)) S1) (ag1 : 108 ≤ g1) (c2 : Ans (d + 8) 361 [.ref 61, .int (nI y)] S1 (some (.ref g1)) S2) (hz1 : (sS S2)[g - 108]? = some (13, zg)) (hfd1 : sI S2 (100 * g + 1) = nI fd1) (mfd1 : fd1 < 2 ^ 20) (hz2 : (sS S2)[g1 - 108]? = some (13, zg1)) (hfd11 : sI S2 (100 * g1 + 1) = nI fd11) (mfd11 : fd11 < 2 ^ 20) (b1 : (fd1 + fd11) ≤ 300) (c3 : Ans (d + 8) 364 [.ref 61, .int (nI 1)] S2 (some (.int (Int32.ofInt (-1)))) S3) : Bod (d + 8) 407 0 [(0, .ref 61), (1, .int (nI x)), (2, .int (nI y))] [] S (some (.int 0)) (S3) := by
  refine Bod.go dc_407_0 rfl ?_
  refine Bod.go dc_407_1 rfl ?_
  refine Bod.virt (r := []) dc_407_2 kr_407_554 ⟨Or.inl rfl, ow_361, cl_14⟩ (by rw [np_361]; rfl) (by rw [np_361]; rfl) (ob_of (mk_61 _)) (Nat.le_of_ble_eq_true rfl) (c1  ) ?_
  show Bod _ _ _ _ [_] _ _ _
  refine Bod.astn dc_407_5 (by rw [ml_407]; exact Nat.le_of_ble_eq_true rfl) ?_
  refine Bod.go dc_407_6 rfl ?_
  refine Bod.go dc_407_7 rfl ?_
  refine Bod.virt (r := []) dc_407_8 kr_407_554 ⟨Or.inl rfl, ow_361, cl_14⟩ (by rw [np_361]; rfl) (by rw [np_361]; rfl) (ob_of (mk_61 _)) (Nat.le_of_ble_eq_true rfl) (c2  ) ?_
  show Bod _ _ _ _ [_] _ _ _
  refine Bod.ast dc_407_11 (by rw [ml_407]; exact Nat.le_of_ble_eq_true rfl) ?_
  refine Bod.go dc_407_13 rfl ?_
  refine Bod.get dc_407_14 fr_407_459 (mk_thing ag (by first | exact hz1 | (simp only [rIS, rJS, rAS, rLS, rVS, rQS, rS_hold]; exact hz1))) rfl ?_
  refine Bod.eqI (nI fd1) (by first | assumption | (simp (disch := omega) only [rI, rIe, rA, rIA, rLA, rJA, rVI, rQI, rVA, rQA, upd_at,  rAI, rLI, rJI, nI_add, pk_sub, kc_0, kc_1, kc_2, kc_3, kc_4, kc_5, reduceIte, Nat.reduceEqDiff, Nat.add_zero, rI_hold, rI_hold, rL_hold, hfd1]; done) | (simp (disch := omega) only [rI, rIe, rA, rIA, rLA, rJA, rVI, rQI, rVA, rQA, upd_at,  rAI, rLI, rJI, nI_add, pk_sub, kc_0, kc_1, kc_2, kc_3, kc_4, kc_5, reduceIte, Nat.reduceEqDiff, Nat.add_zero, rI_hold, rI_hold, rL_hold, hfd1]; exact congrArg nI (by omega))) ?_
  refine Bod.go dc_407_17 rfl ?_
  refine Bod.get dc_407_19 fr_407_459 (mk_thing ag1 (by first | exact hz2 | (simp only [rIS, rJS, rAS, rLS, rVS, rQS, rS_hold]; exact hz2))) rfl ?_
  refine Bod.eqI (nI fd11) (by first | assumption | (simp (disch := omega) only [rI, rIe, rA, rIA, rLA, rJA, rVI, rQI, rVA, rQA, upd_at,  rAI, rLI, rJI, nI_add, pk_sub, kc_0, kc_1, kc_2, kc_3, kc_4, kc_5, reduceIte, Nat.reduceEqDiff, Nat.add_zero, rI_hold, rI_hold, rL_hold, hfd1, hfd11]; done) | (simp (disch := omega) only [rI, rIe, rA, rIA, rLA, rJA, rVI, rQI, rVA, rQA, upd_at,  rAI, rLI, rJI, nI_add, pk_sub, kc_0, kc_1, kc_2, kc_3, kc_4, kc_5, reduceIte, Nat.reduceEqDiff, Nat.add_zero, rI_hold, rI_hold, rL_hold, hfd1, hfd11]; exact congrArg nI (by omega))) ?_
  refine Bod.addN (fd1 + fd11) (by omega) dc_407_22 ?_
  refine Bod.sip 300 (by decide) dc_407_23 ?_
  refine Bod.icT dc_407_26 rfl (k2_le_T (fd1 + fd11) 300 rfl rfl (by omega) (by omega)) ?_
  refine Bod.go dc_407_36 rfl ?_
  refine Bod.ic 1 (by decide) dc_407_37 ?_
  refine Bod.virt (r := []) dc_407_38 kr_407_686 ⟨Or.inl rfl, ow_364, cl_14⟩ (by rw [np_364]; rfl) (by rw [np_364]; rfl) (ob_of (mk_61 _)) (Nat.le_of_ble_eq_true rfl) (c3  ) ?_
  show Bod _ _ _ _ [_] _ _ _
  refine Bod.ist dc_407_41 (by rw [ml_407]; exact Nat.le_of_ble_eq_true rfl) ?_
  refine Bod.go dc_407_43 rfl ?_
  refine Bod.ifF dc_407_45 rfl (by decide) ?_
  refine Bod.ic 0 (by decide) dc_407_48 ?_
  exact Bod.retZ dc_407_49 rt_407 (Or.inl rfl)
theorem rJl_3 {d : Nat} {S : cS} {x : Nat} {y : Nat} {S1 : cS} {g : Nat} {zg : Nat} {S2 : cS} {g1 : Nat} {zg1 : Nat} {fd1 : Nat} {fd11 : Nat} {S3 : cS} (mx : x < 2 ^ 20) (my : y < 2 ^ 20) (ag : 108 ≤ g) (c1 : Ans (d + 8) 361 [.ref 61, .int (nI x)] S (some (.ref g)) S1) (ag1 : 108 ≤ g1) (c2 : Ans (d + 8) 361 [.ref 61, .int (nI y)] S1 (some (.ref g1)) S2) (hz1 : (sS S2)[g - 108]? = some (13, zg)) (hfd1 : sI S2 (100 * g + 1) = nI fd1) (mfd1 : fd1 < 2 ^ 20) (hz2 : (sS S2)[g1 - 108]? = some (13, zg1)) (hfd11 : sI S2 (100 * g1 + 1) = nI fd11) (mfd11 : fd11 < 2 ^ 20) (b1 : 300 < (fd1 + fd11)) (c3 : Ans (d + 8) 351 [.ref 61, .int (nI 8)] S2 (some (.int (nI 0))) S3) : Bod (d + 8) 407 0 [(0, .ref 61), (1, .int (nI x)), (2, .int (nI y))] [] S (some (.int 0)) (S3) := by
  refine Bod.go dc_407_0 rfl ?_
  refine Bod.go dc_407_1 rfl ?_
  refine Bod.virt (r := []) dc_407_2 kr_407_554 ⟨Or.inl rfl, ow_361, cl_14⟩ (by rw [np_361]; rfl) (by rw [np_361]; rfl) (ob_of (mk_61 _)) (Nat.le_of_ble_eq_true rfl) (c1  ) ?_
  show Bod _ _ _ _ [_] _ _ _
  refine Bod.astn dc_407_5 (by rw [ml_407]; exact Nat.le_of_ble_eq_true rfl) ?_
  refine Bod.go dc_407_6 rfl ?_
  refine Bod.go dc_407_7 rfl ?_
  refine Bod.virt (r := []) dc_407_8 kr_407_554 ⟨Or.inl rfl, ow_361, cl_14⟩ (by rw [np_361]; rfl) (by rw [np_361]; rfl) (ob_of (mk_61 _)) (Nat.le_of_ble_eq_true rfl) (c2  ) ?_
  show Bod _ _ _ _ [_] _ _ _
  refine Bod.ast dc_407_11 (by rw [ml_407]; exact Nat.le_of_ble_eq_true rfl) ?_
  refine Bod.go dc_407_13 rfl ?_
  refine Bod.get dc_407_14 fr_407_459 (mk_thing ag (by first | exact hz1 | (simp only [rIS, rJS, rAS, rLS, rVS, rQS, rS_hold]; exact hz1))) rfl ?_
  refine Bod.eqI (nI fd1) (by first | assumption | (simp (disch := omega) only [rI, rIe, rA, rIA, rLA, rJA, rVI, rQI, rVA, rQA, upd_at,  rAI, rLI, rJI, nI_add, pk_sub, kc_0, kc_1, kc_2, kc_3, kc_4, kc_5, reduceIte, Nat.reduceEqDiff, Nat.add_zero, rI_hold, rI_hold, rL_hold, hfd1]; done) | (simp (disch := omega) only [rI, rIe, rA, rIA, rLA, rJA, rVI, rQI, rVA, rQA, upd_at,  rAI, rLI, rJI, nI_add, pk_sub, kc_0, kc_1, kc_2, kc_3, kc_4, kc_5, reduceIte, Nat.reduceEqDiff, Nat.add_zero, rI_hold, rI_hold, rL_hold, hfd1]; exact congrArg nI (by omega))) ?_
  refine Bod.go dc_407_17 rfl ?_
  refine Bod.get dc_407_19 fr_407_459 (mk_thing ag1 (by first | exact hz2 | (simp only [rIS, rJS, rAS, rLS, rVS, rQS, rS_hold]; exact hz2))) rfl ?_
  refine Bod.eqI (nI fd11) (by first | assumption | (simp (disch := omega) only [rI, rIe, rA, rIA, rLA, rJA, rVI, rQI, rVA, rQA, upd_at,  rAI, rLI, rJI, nI_add, pk_sub, kc_0, kc_1, kc_2, kc_3, kc_4, kc_5, reduceIte, Nat.reduceEqDiff, Nat.add_zero, rI_hold, rI_hold, rL_hold, hfd1, hfd11]; done) | (simp (disch := omega) only [rI, rIe, rA, rIA, rLA, rJA, rVI, rQI, rVA, rQA, upd_at,  rAI, rLI, rJI, nI_add, pk_sub, kc_0, kc_1, kc_2, kc_3, kc_4, kc_5, reduceIte, Nat.reduceEqDiff, Nat.add_zero, rI_hold, rI_hold, rL_hold, hfd1, hfd11]; exact congrArg nI (by omega))) ?_
  refine Bod.addN (fd1 + fd11) (by omega) dc_407_22 ?_
  refine Bod.sip 300 (by decide) dc_407_23 ?_
  refine Bod.icF dc_407_26 rfl (k2_le_F (fd1 + fd11) 300 rfl rfl (by omega) (by omega)) ?_
  refine Bod.go dc_407_29 rfl ?_
  refine Bod.bip 8 (by decide) dc_407_30 ?_
  refine Bod.virt (r := []) dc_407_32 kr_407_608 ⟨Or.inl rfl, ow_351, cl_14⟩ (by rw [np_351]; rfl) (by rw [np_351]; rfl) (ob_of (mk_61 _)) (Nat.le_of_ble_eq_true rfl) (c3  ) ?_
  show Bod _ _ _ _ [_] _ _ _
  exact Bod.retZ dc_407_35 rt_407 (Or.inl rfl)
theorem rJlA_1 {d : Nat} {S Sf : cS} {v : Option Value} {lv : sm_L} {g1 : Nat} {zg1 : Nat} {g2 : Nat} {zg2 : Nat} {l : Nat} {ni : Nat} {fd1 : Nat} (q0 : sm_get lv 0 = some (.ref 61)) (q3 : sm_get lv 3 = some (.ref g1)) (q4 : sm_get lv 4 = some (.ref g2)) (q5 : sm_get lv 5 = some (.int (nI l))) (q6 : sm_get lv 6 = some (.int (nI ni))) (ml : l < 2 ^ 20) (mni : ni < 2 ^ 20) (ag1 : 108 ≤ g1) (ag2 : 108 ≤ g2) (hz1 : (sS S)[g1 - 108]? = some (13, zg1)) (hfd1 : sI S (100 * g1 + 1) = nI fd1) (mfd1 : fd1 < 2 ^ 20) (b1 : fd1 ≤ ni) (hB : ∀ lv1 : sm_L, sm_get lv1 0 = some (.ref 61) → sm_get lv1 4 = some (.ref g2) → sm_get lv1 5 = some (.int (nI l)) → sm_get lv1 6 = some (.int (nI 0)) → Bod (d + 8) 407 102 lv1 [] (S) v Sf) : Bod (d + 8) 407 53 lv [] S v Sf := by
  refine Bod.ildG dc_407_53 (by repeat (first | exact q6 | exact sm_get_p1 | exact sm_get_p2e | refine sm_get_p1m (by decide) (by decide) ?_ | refine sm_get_p1n (by decide) rfl ?_ | refine sm_get_p2n (by decide) (by decide) rfl ?_ | refine sm_get_p2m (by decide) (by decide) (by decide) ?_)) ?_
  refine Bod.aldnG dc_407_55 (by repeat (first | exact q3 | exact sm_get_p1 | exact sm_get_p2e | refine sm_get_p1m (by decide) (by decide) ?_ | refine sm_get_p1n (by decide) rfl ?_ | refine sm_get_p2n (by decide) (by decide) rfl ?_ | refine sm_get_p2m (by decide) (by decide) (by decide) ?_)) ?_
  refine Bod.get dc_407_56 fr_407_459 (mk_thing ag1 (by first | exact hz1 | (simp only [rIS, rJS, rAS, rLS, rVS, rQS, rS_hold]; exact hz1))) rfl ?_
  refine Bod.eqI (nI fd1) (by first | assumption | rfl | exact congrArg nI (by omega) | (simp (disch := omega) only [rI, rIe, rA, rIA, rLA, rJA, rVI, rQI, rVA, rQA, upd_at,  rAI, rLI, rJI, nI_add, pk_sub, kc_0, kc_1, kc_2, kc_3, kc_4, kc_5, reduceIte, Nat.reduceEqDiff, Nat.add_zero, rI_hold, rI_hold, rL_hold, hfd1]; done)) ?_
  refine Bod.icT dc_407_59 rfl (k2_ge_T ni fd1 rfl rfl (by omega) (by omega)) ?_
  refine Bod.ic 0 (by decide) dc_407_99 ?_
  refine Bod.ist dc_407_100 (by rw [ml_407]; exact Nat.le_of_ble_eq_true rfl) ?_
  exact hB _ (by repeat (first | exact q0 | exact sm_get_p1 | exact sm_get_p2e | refine sm_get_p1m (by decide) (by decide) ?_ | refine sm_get_p1n (by decide) rfl ?_ | refine sm_get_p2n (by decide) (by decide) rfl ?_ | refine sm_get_p2m (by decide) (by decide) (by decide) ?_)) (by repeat (first | exact q4 | exact sm_get_p1 | exact sm_get_p2e | refine sm_get_p1m (by decide) (by decide) ?_ | refine sm_get_p1n (by decide) rfl ?_ | refine sm_get_p2n (by decide) (by decide) rfl ?_ | refine sm_get_p2m (by decide) (by decide) (by decide) ?_)) (by repeat (first | exact q5 | exact sm_get_p1 | exact sm_get_p2e | refine sm_get_p1m (by decide) (by decide) ?_ | refine sm_get_p1n (by decide) rfl ?_ | refine sm_get_p2n (by decide) (by decide) rfl ?_ | refine sm_get_p2m (by decide) (by decide) (by decide) ?_)) (by repeat (first | exact q0 | exact sm_get_p1 | exact sm_get_p2e | refine sm_get_p1m (by decide) (by decide) ?_ | refine sm_get_p1n (by decide) rfl ?_ | refine sm_get_p2n (by decide) (by decide) rfl ?_ | refine sm_get_p2m (by decide) (by decide) (by decide) ?_))
theorem rJlA_2 {d : Nat} {S Sf : cS} {v : Option Value} {lv : sm_L} {g1 : Nat} {zg1 : Nat} {g2 : Nat} {zg2 : Nat} {l : Nat} {ni : Nat} {fd1 : Nat} {g : Nat} {zg : Nat} {r : Nat} {N : Nat} {e : Nat} {r1 : Nat} {N1 : Nat} {r2 : Nat} {N2 : Nat} {S1 : cS} (q0 : sm_get lv 0 = some (.ref 61)) (q3 : sm_get lv 3 = some (.ref g1)) (q4 : sm_get lv 4 = some (.ref g2)) (q5 : sm_get lv 5 = some (.int (nI l))) (q6 : sm_get lv 6 = some (.int (nI ni))) (ml : l < 2 ^ 20) (mni : ni < 2 ^ 20) (ag1 : 108 ≤ g1) (ag2 : 108 ≤ g2) (hz1 : (sS S)[g1 - 108]? = some (13, zg1)) (hfd1 : sI S (100 * g1 + 1) = nI fd1) (mfd1 : fd1 < 2 ^ 20) (b1 : ni < fd1) (b2 : l < 1500) (ag : 108 ≤ g) (hq3 : sQ S 86 l = some g) (hv1 : sV S (100 * g1 + 2) = .ref r) (hg1 : isK S r 0 N) (mN : N < 2 ^ 20) (b3 : ni < N) (he : sA S r ni = nI e) (me : e < 2 ^ 20) (hv2 : sV S (100 * g1 + 4) = .ref r1) (hg2 : isK S r1 1 N1) (mN1 : N1 < 2 ^ 20) (b4 : ni < N1) (hv3 : sV S (100 * g1 + 5) = .ref r2) (hg3 : isK S r2 1 N2) (mN2 : N2 < 2 ^ 20) (b5 : ni < N2) (c1 : Ans (d + 8) 375 [.ref g, .int (nI e), .long (sL S r1 ni), .long (sL S r2 ni)] S none S1) (hz2 : (sS S)[g - 108]? = some (13, zg)) (hB : ∀ lv1 : sm_L, sm_get lv1 0 = some (.ref 61) → sm_get lv1 3 = some (.ref g1) → sm_get lv1 4 = some (.ref g2) → sm_get lv1 5 = some (.int (nI l)) → sm_get lv1 6 = some (.int (nI (ni + 1))) → Bod (d + 8) 407 53 lv1 [] (S1) v Sf) : Bod (d + 8) 407 53 lv [] S v Sf := by
  refine Bod.ildG dc_407_53 (by repeat (first | exact q6 | exact sm_get_p1 | exact sm_get_p2e | refine sm_get_p1m (by decide) (by decide) ?_ | refine sm_get_p1n (by decide) rfl ?_ | refine sm_get_p2n (by decide) (by decide) rfl ?_ | refine sm_get_p2m (by decide) (by decide) (by decide) ?_)) ?_
  refine Bod.aldnG dc_407_55 (by repeat (first | exact q3 | exact sm_get_p1 | exact sm_get_p2e | refine sm_get_p1m (by decide) (by decide) ?_ | refine sm_get_p1n (by decide) rfl ?_ | refine sm_get_p2n (by decide) (by decide) rfl ?_ | refine sm_get_p2m (by decide) (by decide) (by decide) ?_)) ?_
  refine Bod.get dc_407_56 fr_407_459 (mk_thing ag1 (by first | exact hz1 | (simp only [rIS, rJS, rAS, rLS, rVS, rQS, rS_hold]; exact hz1))) rfl ?_
  refine Bod.eqI (nI fd1) (by first | assumption | rfl | exact congrArg nI (by omega) | (simp (disch := omega) only [rI, rIe, rA, rIA, rLA, rJA, rVI, rQI, rVA, rQA, upd_at,  rAI, rLI, rJI, nI_add, pk_sub, kc_0, kc_1, kc_2, kc_3, kc_4, kc_5, reduceIte, Nat.reduceEqDiff, Nat.add_zero, rI_hold, rI_hold, rL_hold, hfd1]; done)) ?_
  refine Bod.icF dc_407_59 rfl (k2_ge_F ni fd1 rfl rfl (by omega) (by omega)) ?_
  refine Bod.aldnG dc_407_62 (by repeat (first | exact q0 | exact sm_get_p1 | exact sm_get_p2e | refine sm_get_p1m (by decide) (by decide) ?_ | refine sm_get_p1n (by decide) rfl ?_ | refine sm_get_p2n (by decide) (by decide) rfl ?_ | refine sm_get_p2m (by decide) (by decide) (by decide) ?_)) ?_
  refine Bod.get dc_407_63 fr_407_485 (mk_61 _) rfl ?_
  refine Bod.ildG dc_407_66 (by repeat (first | exact q5 | exact sm_get_p1 | exact sm_get_p2e | refine sm_get_p1m (by decide) (by decide) ?_ | refine sm_get_p1n (by decide) rfl ?_ | refine sm_get_p2n (by decide) (by decide) rfl ?_ | refine sm_get_p2m (by decide) (by decide) (by decide) ?_)) ?_
  refine Bod.aaldR (N := 1500) (b := g) l rfl (by omega) (by omega) (by first | exact hq3 | (simp only [rIQ, rJQ, rAQ, rLQ, rVQ, rQ_holdE]; exact hq3)) dc_407_68 (mk_86 _) ht_5 ?_
  refine Bod.aldnG dc_407_69 (by repeat (first | exact q3 | exact sm_get_p1 | exact sm_get_p2e | refine sm_get_p1m (by decide) (by decide) ?_ | refine sm_get_p1n (by decide) rfl ?_ | refine sm_get_p2n (by decide) (by decide) rfl ?_ | refine sm_get_p2m (by decide) (by decide) (by decide) ?_)) ?_
  refine Bod.get dc_407_70 fr_407_462 (mk_thing ag1 (by first | exact hz1 | (simp only [rIS, rJS, rAS, rLS, rVS, rQS, rS_hold]; exact hz1))) rfl ?_
  refine Bod.eqV (.ref r) (by first | exact hv1 | (simp only [rIV, rJV, rAV, rLV, rQV, rV, reduceIte, Nat.reduceEqDiff]; exact hv1)) ?_
  refine Bod.ildG dc_407_73 (by repeat (first | exact q6 | exact sm_get_p1 | exact sm_get_p2e | refine sm_get_p1m (by decide) (by decide) ?_ | refine sm_get_p1n (by decide) rfl ?_ | refine sm_get_p2n (by decide) (by decide) rfl ?_ | refine sm_get_p2m (by decide) (by decide) (by decide) ?_)) ?_
  refine Bod.ialdN (N := N) ni rfl (by omega) (by omega) dc_407_75 (mk_isI (by first | exact hg1 | exact isK_S (by simp only [rIS, rJS, rAS, rLS, rVS, rQS, rS_hold]) hg1)) ?_
  refine Bod.eqI (nI e) (by first | assumption | rfl | exact congrArg nI (by omega) | (simp (disch := omega) only [rI, rIe, rA, rIA, rLA, rJA, rVI, rQI, rVA, rQA, upd_at,  rAI, rLI, rJI, nI_add, pk_sub, kc_0, kc_1, kc_2, kc_3, kc_4, kc_5, reduceIte, Nat.reduceEqDiff, Nat.add_zero, rI_hold, rI_hold, rL_hold, hfd1, he]; done)) ?_
  refine Bod.aldnG dc_407_76 (by repeat (first | exact q3 | exact sm_get_p1 | exact sm_get_p2e | refine sm_get_p1m (by decide) (by decide) ?_ | refine sm_get_p1n (by decide) rfl ?_ | refine sm_get_p2n (by decide) (by decide) rfl ?_ | refine sm_get_p2m (by decide) (by decide) (by decide) ?_)) ?_
  refine Bod.get dc_407_77 fr_407_465 (mk_thing ag1 (by first | exact hz1 | (simp only [rIS, rJS, rAS, rLS, rVS, rQS, rS_hold]; exact hz1))) rfl ?_
  refine Bod.eqV (.ref r1) (by first | exact hv2 | (simp only [rIV, rJV, rAV, rLV, rQV, rV, reduceIte, Nat.reduceEqDiff]; exact hv2)) ?_
  refine Bod.ildG dc_407_80 (by repeat (first | exact q6 | exact sm_get_p1 | exact sm_get_p2e | refine sm_get_p1m (by decide) (by decide) ?_ | refine sm_get_p1n (by decide) rfl ?_ | refine sm_get_p2n (by decide) (by decide) rfl ?_ | refine sm_get_p2m (by decide) (by decide) (by decide) ?_)) ?_
  refine Bod.laldN (N := N1) ni rfl (by omega) (by omega) dc_407_82 (mk_isL (by first | exact hg2 | exact isK_S (by simp only [rIS, rJS, rAS, rLS, rVS, rQS, rS_hold]) hg2)) ?_
  refine Bod.aldnG dc_407_83 (by repeat (first | exact q3 | exact sm_get_p1 | exact sm_get_p2e | refine sm_get_p1m (by decide) (by decide) ?_ | refine sm_get_p1n (by decide) rfl ?_ | refine sm_get_p2n (by decide) (by decide) rfl ?_ | refine sm_get_p2m (by decide) (by decide) (by decide) ?_)) ?_
  refine Bod.get dc_407_84 fr_407_627 (mk_thing ag1 (by first | exact hz1 | (simp only [rIS, rJS, rAS, rLS, rVS, rQS, rS_hold]; exact hz1))) rfl ?_
  refine Bod.eqV (.ref r2) (by first | exact hv3 | (simp only [rIV, rJV, rAV, rLV, rQV, rV, reduceIte, Nat.reduceEqDiff]; exact hv3)) ?_
  refine Bod.ildG dc_407_87 (by repeat (first | exact q6 | exact sm_get_p1 | exact sm_get_p2e | refine sm_get_p1m (by decide) (by decide) ?_ | refine sm_get_p1n (by decide) rfl ?_ | refine sm_get_p2n (by decide) (by decide) rfl ?_ | refine sm_get_p2m (by decide) (by decide) (by decide) ?_)) ?_
  refine Bod.laldN (N := N2) ni rfl (by omega) (by omega) dc_407_89 (mk_isL (by first | exact hg3 | exact isK_S (by simp only [rIS, rJS, rAS, rLS, rVS, rQS, rS_hold]) hg3)) ?_
  refine Bod.virt (r := []) dc_407_90 kr_407_759 ⟨Or.inl rfl, ow_375, cl_13⟩ (by rw [np_375]; rfl) (by rw [np_375]; rfl) (ob_of (mk_thing ag (by first | exact hz2 | (simp only [rIS, rJS, rAS, rLS, rVS, rQS, rS_hold]; exact hz2)))) (Nat.le_of_ble_eq_true rfl) (c1  ) ?_
  show Bod _ _ _ _ [] _ _ _
  refine Bod.incN (ni + 1) (by rw [kc_1, nI_add]) dc_407_93 (by rw [ml_407]; exact Nat.le_of_ble_eq_true rfl) (by repeat (first | exact q6 | exact sm_get_p1 | exact sm_get_p2e | refine sm_get_p1m (by decide) (by decide) ?_ | refine sm_get_p1n (by decide) rfl ?_ | refine sm_get_p2n (by decide) (by decide) rfl ?_ | refine sm_get_p2m (by decide) (by decide) (by decide) ?_)) ?_
  refine Bod.go dc_407_96 rfl ?_
  exact hB _ (by repeat (first | exact q0 | exact sm_get_p1 | exact sm_get_p2e | refine sm_get_p1m (by decide) (by decide) ?_ | refine sm_get_p1n (by decide) rfl ?_ | refine sm_get_p2n (by decide) (by decide) rfl ?_ | refine sm_get_p2m (by decide) (by decide) (by decide) ?_)) (by repeat (first | exact q3 | exact sm_get_p1 | exact sm_get_p2e | refine sm_get_p1m (by decide) (by decide) ?_ | refine sm_get_p1n (by decide) rfl ?_ | refine sm_get_p2n (by decide) (by decide) rfl ?_ | refine sm_get_p2m (by decide) (by decide) (by decide) ?_)) (by repeat (first | exact q4 | exact sm_get_p1 | exact sm_get_p2e | refine sm_get_p1m (by decide) (by decide) ?_ | refine sm_get_p1n (by decide) rfl ?_ | refine sm_get_p2n (by decide) (by decide) rfl ?_ | refine sm_get_p2m (by decide) (by decide) (by decide) ?_)) (by repeat (first | exact q5 | exact sm_get_p1 | exact sm_get_p2e | refine sm_get_p1m (by decide) (by decide) ?_ | refine sm_get_p1n (by decide) rfl ?_ | refine sm_get_p2n (by decide) (by decide) rfl ?_ | refine sm_get_p2m (by decide) (by decide) (by decide) ?_)) (by repeat (first | exact q0 | exact sm_get_p1 | exact sm_get_p2e | refine sm_get_p1m (by decide) (by decide) ?_ | refine sm_get_p1n (by decide) rfl ?_ | refine sm_get_p2n (by decide) (by decide) rfl ?_ | refine sm_get_p2m (by decide) (by decide) (by decide) ?_))
theorem rJlB_1 {d : Nat} {S : cS} {lv : sm_L} {g2 : Nat} {zg2 : Nat} {l : Nat} {ni : Nat} {fd1 : Nat} {t : Nat} {S1 : cS} (q0 : sm_get lv 0 = some (.ref 61)) (q4 : sm_get lv 4 = some (.ref g2)) (q5 : sm_get lv 5 = some (.int (nI l))) (q6 : sm_get lv 6 = some (.int (nI ni))) (ml : l < 2 ^ 20) (mni : ni < 2 ^ 20) (ag2 : 108 ≤ g2) (hz1 : (sS S)[g2 - 108]? = some (13, zg2)) (hfd1 : sI S (100 * g2 + 1) = nI fd1) (mfd1 : fd1 < 2 ^ 20) (b1 : fd1 ≤ ni) (ht : sI S 6151 = nI t) (mt : t < 20481) (b2 : 2 ≤ t) (c1 : Ans (d + 8) 352 [.ref 61, .int (nI 3), .long ((nI l).toInt64), .long 0] (wI 6151 (nI (t - 2)) S) none S1) : Bod (d + 8) 407 102 lv [] S (some (.int 1)) (S1) := by
  refine Bod.ildG dc_407_102 (by repeat (first | exact q6 | exact sm_get_p1 | exact sm_get_p2e | refine sm_get_p1m (by decide) (by decide) ?_ | refine sm_get_p1n (by decide) rfl ?_ | refine sm_get_p2n (by decide) (by decide) rfl ?_ | refine sm_get_p2m (by decide) (by decide) (by decide) ?_)) ?_
  refine Bod.aldG dc_407_104 (by repeat (first | exact q4 | exact sm_get_p1 | exact sm_get_p2e | refine sm_get_p1m (by decide) (by decide) ?_ | refine sm_get_p1n (by decide) rfl ?_ | refine sm_get_p2n (by decide) (by decide) rfl ?_ | refine sm_get_p2m (by decide) (by decide) (by decide) ?_)) ?_
  refine Bod.get dc_407_106 fr_407_459 (mk_thing ag2 (by first | exact hz1 | (simp only [rIS, rJS, rAS, rLS, rVS, rQS, rS_hold]; exact hz1))) rfl ?_
  refine Bod.eqI (nI fd1) (by first | assumption | rfl | exact congrArg nI (by omega) | (simp (disch := omega) only [rI, rIe, rA, rIA, rLA, rJA, rVI, rQI, rVA, rQA, upd_at,  rAI, rLI, rJI, nI_add, pk_sub, kc_0, kc_1, kc_2, kc_3, kc_4, kc_5, reduceIte, Nat.reduceEqDiff, Nat.add_zero, rI_hold, rI_hold, rL_hold, hfd1]; done)) ?_
  refine Bod.icT dc_407_109 rfl (k2_ge_T ni fd1 rfl rfl (by omega) (by omega)) ?_
  refine Bod.aldnG dc_407_152 (by repeat (first | exact q0 | exact sm_get_p1 | exact sm_get_p2e | refine sm_get_p1m (by decide) (by decide) ?_ | refine sm_get_p1n (by decide) rfl ?_ | refine sm_get_p2n (by decide) (by decide) rfl ?_ | refine sm_get_p2m (by decide) (by decide) (by decide) ?_)) ?_
  refine Bod.go dc_407_153 rfl ?_
  refine Bod.get dc_407_154 fr_407_493 (mk_61 _) rfl ?_
  refine Bod.eqI (nI t) (by first | assumption | rfl | exact congrArg nI (by omega) | (simp (disch := omega) only [rI, rIe, rA, rIA, rLA, rJA, rVI, rQI, rVA, rQA, upd_at,  rAI, rLI, rJI, nI_add, pk_sub, kc_0, kc_1, kc_2, kc_3, kc_4, kc_5, reduceIte, Nat.reduceEqDiff, Nat.add_zero, rI_hold, rI_hold, rL_hold, hfd1, ht]; done)) ?_
  refine Bod.ic 2 (by decide) dc_407_157 ?_
  refine Bod.subN (t - 2) (by omega) (by omega) dc_407_158 ?_
  refine Bod.put dc_407_159 fr_407_493 (mk_61 _) (Nat.le_of_ble_eq_true rfl) pf_14_51 (st_6151 _ _) (mu_I _ _ _) ?_
  refine Bod.aldnG dc_407_162 (by repeat (first | exact q0 | exact sm_get_p1 | exact sm_get_p2e | refine sm_get_p1m (by decide) (by decide) ?_ | refine sm_get_p1n (by decide) rfl ?_ | refine sm_get_p2n (by decide) (by decide) rfl ?_ | refine sm_get_p2m (by decide) (by decide) (by decide) ?_)) ?_
  refine Bod.ic 3 (by decide) dc_407_163 ?_
  refine Bod.ildG dc_407_164 (by repeat (first | exact q5 | exact sm_get_p1 | exact sm_get_p2e | refine sm_get_p1m (by decide) (by decide) ?_ | refine sm_get_p1n (by decide) rfl ?_ | refine sm_get_p2n (by decide) (by decide) rfl ?_ | refine sm_get_p2m (by decide) (by decide) (by decide) ?_)) ?_
  refine Bod.go dc_407_166 rfl ?_
  refine Bod.go dc_407_167 rfl ?_
  refine Bod.virt (r := []) dc_407_168 kr_407_549 ⟨Or.inl rfl, ow_352, cl_14⟩ (by rw [np_352]; rfl) (by rw [np_352]; rfl) (ob_of (mk_61 _)) (Nat.le_of_ble_eq_true rfl) (c1  ) ?_
  show Bod _ _ _ _ [] _ _ _
  refine Bod.ic 1 (by decide) dc_407_171 ?_
  exact Bod.retZ dc_407_172 rt_407 (Or.inr rfl)
theorem rJlB_2 {d : Nat} {S Sf : cS} {v : Option Value} {lv : sm_L} {g2 : Nat} {zg2 : Nat} {l : Nat} {ni : Nat} {fd1 : Nat} {g : Nat} {zg : Nat} {r : Nat} {N : Nat} {e : Nat} {r1 : Nat} {N1 : Nat} {r2 : Nat} {N2 : Nat} {S1 : cS} (q0 : sm_get lv 0 = some (.ref 61)) (q4 : sm_get lv 4 = some (.ref g2)) (q5 : sm_get lv 5 = some (.int (nI l))) (q6 : sm_get lv 6 = some (.int (nI ni))) (ml : l < 2 ^ 20) (mni : ni < 2 ^ 20) (ag2 : 108 ≤ g2) (hz1 : (sS S)[g2 - 108]? = some (13, zg2)) (hfd1 : sI S (100 * g2 + 1) = nI fd1) (mfd1 : fd1 < 2 ^ 20) (b1 : ni < fd1) (b2 : l < 1500) (ag : 108 ≤ g) (hq3 : sQ S 86 l = some g) (hv1 : sV S (100 * g2 + 2) = .ref r) (hg1 : isK S r 0 N) (mN : N < 2 ^ 20) (b3 : ni < N) (he : sA S r ni = nI e) (me : e < 2 ^ 20) (hv2 : sV S (100 * g2 + 4) = .ref r1) (hg2 : isK S r1 1 N1) (mN1 : N1 < 2 ^ 20) (b4 : ni < N1) (hv3 : sV S (100 * g2 + 5) = .ref r2) (hg3 : isK S r2 1 N2) (mN2 : N2 < 2 ^ 20) (b5 : ni < N2) (c1 : Ans (d + 8) 375 [.ref g, .int (nI e), .long (sL S r1 ni), .long (sL S r2 ni)] S none S1) (hz2 : (sS S)[g - 108]? = some (13, zg)) (hB : ∀ lv1 : sm_L, sm_get lv1 0 = some (.ref 61) → sm_get lv1 4 = some (.ref g2) → sm_get lv1 5 = some (.int (nI l)) → sm_get lv1 6 = some (.int (nI (ni + 1))) → Bod (d + 8) 407 102 lv1 [] (S1) v Sf) : Bod (d + 8) 407 102 lv [] S v Sf := by
  refine Bod.ildG dc_407_102 (by repeat (first | exact q6 | exact sm_get_p1 | exact sm_get_p2e | refine sm_get_p1m (by decide) (by decide) ?_ | refine sm_get_p1n (by decide) rfl ?_ | refine sm_get_p2n (by decide) (by decide) rfl ?_ | refine sm_get_p2m (by decide) (by decide) (by decide) ?_)) ?_
  refine Bod.aldG dc_407_104 (by repeat (first | exact q4 | exact sm_get_p1 | exact sm_get_p2e | refine sm_get_p1m (by decide) (by decide) ?_ | refine sm_get_p1n (by decide) rfl ?_ | refine sm_get_p2n (by decide) (by decide) rfl ?_ | refine sm_get_p2m (by decide) (by decide) (by decide) ?_)) ?_
  refine Bod.get dc_407_106 fr_407_459 (mk_thing ag2 (by first | exact hz1 | (simp only [rIS, rJS, rAS, rLS, rVS, rQS, rS_hold]; exact hz1))) rfl ?_
  refine Bod.eqI (nI fd1) (by first | assumption | rfl | exact congrArg nI (by omega) | (simp (disch := omega) only [rI, rIe, rA, rIA, rLA, rJA, rVI, rQI, rVA, rQA, upd_at,  rAI, rLI, rJI, nI_add, pk_sub, kc_0, kc_1, kc_2, kc_3, kc_4, kc_5, reduceIte, Nat.reduceEqDiff, Nat.add_zero, rI_hold, rI_hold, rL_hold, hfd1]; done)) ?_
  refine Bod.icF dc_407_109 rfl (k2_ge_F ni fd1 rfl rfl (by omega) (by omega)) ?_
  refine Bod.aldnG dc_407_112 (by repeat (first | exact q0 | exact sm_get_p1 | exact sm_get_p2e | refine sm_get_p1m (by decide) (by decide) ?_ | refine sm_get_p1n (by decide) rfl ?_ | refine sm_get_p2n (by decide) (by decide) rfl ?_ | refine sm_get_p2m (by decide) (by decide) (by decide) ?_)) ?_
  refine Bod.get dc_407_113 fr_407_485 (mk_61 _) rfl ?_
  refine Bod.ildG dc_407_116 (by repeat (first | exact q5 | exact sm_get_p1 | exact sm_get_p2e | refine sm_get_p1m (by decide) (by decide) ?_ | refine sm_get_p1n (by decide) rfl ?_ | refine sm_get_p2n (by decide) (by decide) rfl ?_ | refine sm_get_p2m (by decide) (by decide) (by decide) ?_)) ?_
  refine Bod.aaldR (N := 1500) (b := g) l rfl (by omega) (by omega) (by first | exact hq3 | (simp only [rIQ, rJQ, rAQ, rLQ, rVQ, rQ_holdE]; exact hq3)) dc_407_118 (mk_86 _) ht_5 ?_
  refine Bod.aldG dc_407_119 (by repeat (first | exact q4 | exact sm_get_p1 | exact sm_get_p2e | refine sm_get_p1m (by decide) (by decide) ?_ | refine sm_get_p1n (by decide) rfl ?_ | refine sm_get_p2n (by decide) (by decide) rfl ?_ | refine sm_get_p2m (by decide) (by decide) (by decide) ?_)) ?_
  refine Bod.get dc_407_121 fr_407_462 (mk_thing ag2 (by first | exact hz1 | (simp only [rIS, rJS, rAS, rLS, rVS, rQS, rS_hold]; exact hz1))) rfl ?_
  refine Bod.eqV (.ref r) (by first | exact hv1 | (simp only [rIV, rJV, rAV, rLV, rQV, rV, reduceIte, Nat.reduceEqDiff]; exact hv1)) ?_
  refine Bod.ildG dc_407_124 (by repeat (first | exact q6 | exact sm_get_p1 | exact sm_get_p2e | refine sm_get_p1m (by decide) (by decide) ?_ | refine sm_get_p1n (by decide) rfl ?_ | refine sm_get_p2n (by decide) (by decide) rfl ?_ | refine sm_get_p2m (by decide) (by decide) (by decide) ?_)) ?_
  refine Bod.ialdN (N := N) ni rfl (by omega) (by omega) dc_407_126 (mk_isI (by first | exact hg1 | exact isK_S (by simp only [rIS, rJS, rAS, rLS, rVS, rQS, rS_hold]) hg1)) ?_
  refine Bod.eqI (nI e) (by first | assumption | rfl | exact congrArg nI (by omega) | (simp (disch := omega) only [rI, rIe, rA, rIA, rLA, rJA, rVI, rQI, rVA, rQA, upd_at,  rAI, rLI, rJI, nI_add, pk_sub, kc_0, kc_1, kc_2, kc_3, kc_4, kc_5, reduceIte, Nat.reduceEqDiff, Nat.add_zero, rI_hold, rI_hold, rL_hold, hfd1, he]; done)) ?_
  refine Bod.aldG dc_407_127 (by repeat (first | exact q4 | exact sm_get_p1 | exact sm_get_p2e | refine sm_get_p1m (by decide) (by decide) ?_ | refine sm_get_p1n (by decide) rfl ?_ | refine sm_get_p2n (by decide) (by decide) rfl ?_ | refine sm_get_p2m (by decide) (by decide) (by decide) ?_)) ?_
  refine Bod.get dc_407_129 fr_407_465 (mk_thing ag2 (by first | exact hz1 | (simp only [rIS, rJS, rAS, rLS, rVS, rQS, rS_hold]; exact hz1))) rfl ?_
  refine Bod.eqV (.ref r1) (by first | exact hv2 | (simp only [rIV, rJV, rAV, rLV, rQV, rV, reduceIte, Nat.reduceEqDiff]; exact hv2)) ?_
  refine Bod.ildG dc_407_132 (by repeat (first | exact q6 | exact sm_get_p1 | exact sm_get_p2e | refine sm_get_p1m (by decide) (by decide) ?_ | refine sm_get_p1n (by decide) rfl ?_ | refine sm_get_p2n (by decide) (by decide) rfl ?_ | refine sm_get_p2m (by decide) (by decide) (by decide) ?_)) ?_
  refine Bod.laldN (N := N1) ni rfl (by omega) (by omega) dc_407_134 (mk_isL (by first | exact hg2 | exact isK_S (by simp only [rIS, rJS, rAS, rLS, rVS, rQS, rS_hold]) hg2)) ?_
  refine Bod.aldG dc_407_135 (by repeat (first | exact q4 | exact sm_get_p1 | exact sm_get_p2e | refine sm_get_p1m (by decide) (by decide) ?_ | refine sm_get_p1n (by decide) rfl ?_ | refine sm_get_p2n (by decide) (by decide) rfl ?_ | refine sm_get_p2m (by decide) (by decide) (by decide) ?_)) ?_
  refine Bod.get dc_407_137 fr_407_627 (mk_thing ag2 (by first | exact hz1 | (simp only [rIS, rJS, rAS, rLS, rVS, rQS, rS_hold]; exact hz1))) rfl ?_
  refine Bod.eqV (.ref r2) (by first | exact hv3 | (simp only [rIV, rJV, rAV, rLV, rQV, rV, reduceIte, Nat.reduceEqDiff]; exact hv3)) ?_
  refine Bod.ildG dc_407_140 (by repeat (first | exact q6 | exact sm_get_p1 | exact sm_get_p2e | refine sm_get_p1m (by decide) (by decide) ?_ | refine sm_get_p1n (by decide) rfl ?_ | refine sm_get_p2n (by decide) (by decide) rfl ?_ | refine sm_get_p2m (by decide) (by decide) (by decide) ?_)) ?_
  refine Bod.laldN (N := N2) ni rfl (by omega) (by omega) dc_407_142 (mk_isL (by first | exact hg3 | exact isK_S (by simp only [rIS, rJS, rAS, rLS, rVS, rQS, rS_hold]) hg3)) ?_
  refine Bod.virt (r := []) dc_407_143 kr_407_759 ⟨Or.inl rfl, ow_375, cl_13⟩ (by rw [np_375]; rfl) (by rw [np_375]; rfl) (ob_of (mk_thing ag (by first | exact hz2 | (simp only [rIS, rJS, rAS, rLS, rVS, rQS, rS_hold]; exact hz2)))) (Nat.le_of_ble_eq_true rfl) (c1  ) ?_
  show Bod _ _ _ _ [] _ _ _
  refine Bod.incN (ni + 1) (by rw [kc_1, nI_add]) dc_407_146 (by rw [ml_407]; exact Nat.le_of_ble_eq_true rfl) (by repeat (first | exact q6 | exact sm_get_p1 | exact sm_get_p2e | refine sm_get_p1m (by decide) (by decide) ?_ | refine sm_get_p1n (by decide) rfl ?_ | refine sm_get_p2n (by decide) (by decide) rfl ?_ | refine sm_get_p2m (by decide) (by decide) (by decide) ?_)) ?_
  refine Bod.go dc_407_149 rfl ?_
  exact hB _ (by repeat (first | exact q0 | exact sm_get_p1 | exact sm_get_p2e | refine sm_get_p1m (by decide) (by decide) ?_ | refine sm_get_p1n (by decide) rfl ?_ | refine sm_get_p2n (by decide) (by decide) rfl ?_ | refine sm_get_p2m (by decide) (by decide) (by decide) ?_)) (by repeat (first | exact q4 | exact sm_get_p1 | exact sm_get_p2e | refine sm_get_p1m (by decide) (by decide) ?_ | refine sm_get_p1n (by decide) rfl ?_ | refine sm_get_p2n (by decide) (by decide) rfl ?_ | refine sm_get_p2m (by decide) (by decide) (by decide) ?_)) (by repeat (first | exact q5 | exact sm_get_p1 | exact sm_get_p2e | refine sm_get_p1m (by decide) (by decide) ?_ | refine sm_get_p1n (by decide) rfl ?_ | refine sm_get_p2n (by decide) (by decide) rfl ?_ | refine sm_get_p2m (by decide) (by decide) (by decide) ?_)) (by repeat (first | exact q0 | exact sm_get_p1 | exact sm_get_p2e | refine sm_get_p1m (by decide) (by decide) ?_ | refine sm_get_p1n (by decide) rfl ?_ | refine sm_get_p2n (by decide) (by decide) rfl ?_ | refine sm_get_p2m (by decide) (by decide) (by decide) ?_))
theorem rJs_1 {d : Nat} {S Sf : cS} {v : Option Value} {x : Nat} {y : Nat} {S1 : cS} {a : Nat} {S2 : cS} {a1 : Nat} (mx : x < 2 ^ 20) (my : y < 2 ^ 20) (b1 : x < 20480) (ma : a < 2 ^ 20) (c1 : Ans (d + 8) 360 [.long (sL S 93 x)] S (some (.int (nI a))) S1) (b2 : y < 20480) (ma1 : a1 < 2 ^ 20) (c2 : Ans (d + 8) 360 [.long (sL S1 93 y)] S1 (some (.int (nI a1))) S2) (b3 : (a + a1) ≤ 15) (hB : ∀ lv1 : sm_L, sm_get lv1 0 = some (.ref 61) → sm_get lv1 1 = some (.int (nI x)) → sm_get lv1 2 = some (.int (nI y)) → sm_get lv1 3 = some (.int (nI a)) → sm_get lv1 4 = some (.int (nI a1)) → sm_get lv1 5 = some (.int (nI 0)) → Bod (d + 8) 406 40 lv1 [] (S2) v Sf) : Bod (d + 8) 406 0 [(0, .ref 61), (1, .int (nI x)), (2, .int (nI y))] [] S v Sf := by
  refine Bod.go dc_406_0 rfl ?_
  refine Bod.get dc_406_1 fr_406_546 (mk_61 _) rfl ?_
  refine Bod.go dc_406_4 rfl ?_
  refine Bod.laldN x rfl (by omega) (by omega) dc_406_5 (mk_93 _) ?_
  refine Bod.stat (r := []) dc_406_6 kr_406_552 (Or.inl rfl) (by rw [np_360]; rfl) (by rw [np_360]; rfl) (by rw [np_360]; exact Nat.le_of_ble_eq_true rfl) (Nat.le_of_ble_eq_true rfl) (c1  ) ?_
  show Bod _ _ _ _ [_] _ _ _
  refine Bod.istn dc_406_9 (by rw [ml_406]; exact Nat.le_of_ble_eq_true rfl) ?_
  refine Bod.go dc_406_10 rfl ?_
  refine Bod.get dc_406_11 fr_406_546 (mk_61 _) rfl ?_
  refine Bod.go dc_406_14 rfl ?_
  refine Bod.laldN y rfl (by omega) (by omega) dc_406_15 (mk_93 _) ?_
  refine Bod.stat (r := []) dc_406_16 kr_406_552 (Or.inl rfl) (by rw [np_360]; rfl) (by rw [np_360]; rfl) (by rw [np_360]; exact Nat.le_of_ble_eq_true rfl) (Nat.le_of_ble_eq_true rfl) (c2  ) ?_
  show Bod _ _ _ _ [_] _ _ _
  refine Bod.ist dc_406_19 (by rw [ml_406]; exact Nat.le_of_ble_eq_true rfl) ?_
  refine Bod.go dc_406_21 rfl ?_
  refine Bod.go dc_406_22 rfl ?_
  refine Bod.addN (a + a1) (by omega) dc_406_24 ?_
  refine Bod.bip 15 (by decide) dc_406_25 ?_
  refine Bod.icT dc_406_27 rfl (k2_le_T (a + a1) 15 rfl rfl (by omega) (by omega)) ?_
  refine Bod.ic 0 (by decide) dc_406_37 ?_
  refine Bod.ist dc_406_38 (by rw [ml_406]; exact Nat.le_of_ble_eq_true rfl) ?_
  exact hB _ (by first | rfl | exact (by repeat (first | exact rfl | exact sm_get_p1 | exact sm_get_p2e | refine sm_get_p1m (by decide) (by decide) ?_ | refine sm_get_p1n (by decide) rfl ?_ | refine sm_get_p2n (by decide) (by decide) rfl ?_ | refine sm_get_p2m (by decide) (by decide) (by decide) ?_))) (by first | rfl | exact (by repeat (first | exact rfl | exact sm_get_p1 | exact sm_get_p2e | refine sm_get_p1m (by decide) (by decide) ?_ | refine sm_get_p1n (by decide) rfl ?_ | refine sm_get_p2n (by decide) (by decide) rfl ?_ | refine sm_get_p2m (by decide) (by decide) (by decide) ?_))) (by first | rfl | exact (by repeat (first | exact rfl | exact sm_get_p1 | exact sm_get_p2e | refine sm_get_p1m (by decide) (by decide) ?_ | refine sm_get_p1n (by decide) rfl ?_ | refine sm_get_p2n (by decide) (by decide) rfl ?_ | refine sm_get_p2m (by decide) (by decide) (by decide) ?_))) (by first | rfl | exact (by repeat (first | exact rfl | exact sm_get_p1 | exact sm_get_p2e | refine sm_get_p1m (by decide) (by decide) ?_ | refine sm_get_p1n (by decide) rfl ?_ | refine sm_get_p2n (by decide) (by decide) rfl ?_ | refine sm_get_p2m (by decide) (by decide) (by decide) ?_))) (by first | rfl | exact (by repeat (first | exact rfl | exact sm_get_p1 | exact sm_get_p2e | refine sm_get_p1m (by decide) (by decide) ?_ | refine sm_get_p1n (by decide) rfl ?_ | refine sm_get_p2n (by decide) (by decide) rfl ?_ | refine sm_get_p2m (by decide) (by decide) (by decide) ?_))) (by first | rfl | exact (by repeat (first | exact rfl | exact sm_get_p1 | exact sm_get_p2e | refine sm_get_p1m (by decide) (by decide) ?_ | refine sm_get_p1n (by decide) rfl ?_ | refine sm_get_p2n (by decide) (by decide) rfl ?_ | refine sm_get_p2m (by decide) (by decide) (by decide) ?_)))
theorem rJs_2 {d : Nat} {S : cS} {x : Nat} {y : Nat} {S1 : cS} {a : Nat} {S2 : cS} {a1 : Nat} {S3 : cS} (mx : x < 2 ^ 20) (my : y < 2 ^ 20) (b1 : x < 20480) (ma : a < 2 ^ 20) (c1 : Ans (d + 8) 360 [.long (sL S 93 x)] S (some (.int (nI a))) S1) (b2 : y < 20480) (ma1 : a1 < 2 ^ 20) (c2 : Ans (d + 8) 360 [.long (sL S1 93 y)] S1 (some (.int (nI a1))) S2) (b3 : 15 < (a + a1)) (c3 : Ans (d + 8) 351 [.ref 61, .int (nI 8)] S2 (some (.int (nI 0))) S3) : Bod (d + 8) 406 0 [(0, .ref 61), (1, .int (nI x)), (2, .int (nI y))] [] S (some (.int 0)) (S3) := by
  refine Bod.go dc_406_0 rfl ?_
  refine Bod.get dc_406_1 fr_406_546 (mk_61 _) rfl ?_
  refine Bod.go dc_406_4 rfl ?_
  refine Bod.laldN x rfl (by omega) (by omega) dc_406_5 (mk_93 _) ?_
  refine Bod.stat (r := []) dc_406_6 kr_406_552 (Or.inl rfl) (by rw [np_360]; rfl) (by rw [np_360]; rfl) (by rw [np_360]; exact Nat.le_of_ble_eq_true rfl) (Nat.le_of_ble_eq_true rfl) (c1  ) ?_
  show Bod _ _ _ _ [_] _ _ _
  refine Bod.istn dc_406_9 (by rw [ml_406]; exact Nat.le_of_ble_eq_true rfl) ?_
  refine Bod.go dc_406_10 rfl ?_
  refine Bod.get dc_406_11 fr_406_546 (mk_61 _) rfl ?_
  refine Bod.go dc_406_14 rfl ?_
  refine Bod.laldN y rfl (by omega) (by omega) dc_406_15 (mk_93 _) ?_
  refine Bod.stat (r := []) dc_406_16 kr_406_552 (Or.inl rfl) (by rw [np_360]; rfl) (by rw [np_360]; rfl) (by rw [np_360]; exact Nat.le_of_ble_eq_true rfl) (Nat.le_of_ble_eq_true rfl) (c2  ) ?_
  show Bod _ _ _ _ [_] _ _ _
  refine Bod.ist dc_406_19 (by rw [ml_406]; exact Nat.le_of_ble_eq_true rfl) ?_
  refine Bod.go dc_406_21 rfl ?_
  refine Bod.go dc_406_22 rfl ?_
  refine Bod.addN (a + a1) (by omega) dc_406_24 ?_
  refine Bod.bip 15 (by decide) dc_406_25 ?_
  refine Bod.icF dc_406_27 rfl (k2_le_F (a + a1) 15 rfl rfl (by omega) (by omega)) ?_
  refine Bod.go dc_406_30 rfl ?_
  refine Bod.bip 8 (by decide) dc_406_31 ?_
  refine Bod.virt (r := []) dc_406_33 kr_406_608 ⟨Or.inl rfl, ow_351, cl_14⟩ (by rw [np_351]; rfl) (by rw [np_351]; rfl) (ob_of (mk_61 _)) (Nat.le_of_ble_eq_true rfl) (c3  ) ?_
  show Bod _ _ _ _ [_] _ _ _
  exact Bod.retZ dc_406_36 rt_406 (Or.inl rfl)
theorem rJsA_1 {d : Nat} {S Sf : cS} {v : Option Value} {lv : sm_L} {x : Nat} {y : Nat} {na : Nat} {nb : Nat} {ni : Nat} (q0 : sm_get lv 0 = some (.ref 61)) (q1 : sm_get lv 1 = some (.int (nI x))) (q2 : sm_get lv 2 = some (.int (nI y))) (q3 : sm_get lv 3 = some (.int (nI na))) (q4 : sm_get lv 4 = some (.int (nI nb))) (q5 : sm_get lv 5 = some (.int (nI ni))) (mx : x < 2 ^ 20) (my : y < 2 ^ 20) (mna : na < 2 ^ 20) (mnb : nb < 2 ^ 20) (mni : ni < 2 ^ 20) (b1 : na ≤ ni) (hB : ∀ lv1 : sm_L, sm_get lv1 0 = some (.ref 61) → sm_get lv1 2 = some (.int (nI y)) → sm_get lv1 3 = some (.int (nI na)) → sm_get lv1 4 = some (.int (nI nb)) → sm_get lv1 5 = some (.int (nI 0)) → Bod (d + 8) 406 80 lv1 [] (S) v Sf) : Bod (d + 8) 406 40 lv [] S v Sf := by
  refine Bod.ildG dc_406_40 (by repeat (first | exact q5 | exact sm_get_p1 | exact sm_get_p2e | refine sm_get_p1m (by decide) (by decide) ?_ | refine sm_get_p1n (by decide) rfl ?_ | refine sm_get_p2n (by decide) (by decide) rfl ?_ | refine sm_get_p2m (by decide) (by decide) (by decide) ?_)) ?_
  refine Bod.ildnG dc_406_42 (by repeat (first | exact q3 | exact sm_get_p1 | exact sm_get_p2e | refine sm_get_p1m (by decide) (by decide) ?_ | refine sm_get_p1n (by decide) rfl ?_ | refine sm_get_p2n (by decide) (by decide) rfl ?_ | refine sm_get_p2m (by decide) (by decide) (by decide) ?_)) ?_
  refine Bod.icT dc_406_43 rfl (k2_ge_T ni na rfl rfl (by omega) (by omega)) ?_
  refine Bod.ic 0 (by decide) dc_406_77 ?_
  refine Bod.ist dc_406_78 (by rw [ml_406]; exact Nat.le_of_ble_eq_true rfl) ?_
  exact hB _ (by repeat (first | exact q0 | exact sm_get_p1 | exact sm_get_p2e | refine sm_get_p1m (by decide) (by decide) ?_ | refine sm_get_p1n (by decide) rfl ?_ | refine sm_get_p2n (by decide) (by decide) rfl ?_ | refine sm_get_p2m (by decide) (by decide) (by decide) ?_)) (by repeat (first | exact q2 | exact sm_get_p1 | exact sm_get_p2e | refine sm_get_p1m (by decide) (by decide) ?_ | refine sm_get_p1n (by decide) rfl ?_ | refine sm_get_p2n (by decide) (by decide) rfl ?_ | refine sm_get_p2m (by decide) (by decide) (by decide) ?_)) (by repeat (first | exact q3 | exact sm_get_p1 | exact sm_get_p2e | refine sm_get_p1m (by decide) (by decide) ?_ | refine sm_get_p1n (by decide) rfl ?_ | refine sm_get_p2n (by decide) (by decide) rfl ?_ | refine sm_get_p2m (by decide) (by decide) (by decide) ?_)) (by repeat (first | exact q4 | exact sm_get_p1 | exact sm_get_p2e | refine sm_get_p1m (by decide) (by decide) ?_ | refine sm_get_p1n (by decide) rfl ?_ | refine sm_get_p2n (by decide) (by decide) rfl ?_ | refine sm_get_p2m (by decide) (by decide) (by decide) ?_)) (by repeat (first | exact q0 | exact sm_get_p1 | exact sm_get_p2e | refine sm_get_p1m (by decide) (by decide) ?_ | refine sm_get_p1n (by decide) rfl ?_ | refine sm_get_p2n (by decide) (by decide) rfl ?_ | refine sm_get_p2m (by decide) (by decide) (by decide) ?_))
theorem rJsA_2 {d : Nat} {S Sf : cS} {v : Option Value} {lv : sm_L} {x : Nat} {y : Nat} {na : Nat} {nb : Nat} {ni : Nat} {S1 : cS} {a : Nat} (q0 : sm_get lv 0 = some (.ref 61)) (q1 : sm_get lv 1 = some (.int (nI x))) (q2 : sm_get lv 2 = some (.int (nI y))) (q3 : sm_get lv 3 = some (.int (nI na))) (q4 : sm_get lv 4 = some (.int (nI nb))) (q5 : sm_get lv 5 = some (.int (nI ni))) (mx : x < 2 ^ 20) (my : y < 2 ^ 20) (mna : na < 2 ^ 20) (mnb : nb < 2 ^ 20) (mni : ni < 2 ^ 20) (b1 : ni < na) (b2 : x < 20480) (ma : a < 2 ^ 20) (c1 : Ans (d + 8) 386 [.long (sL S 92 x), .long (sL S 93 x), .int (nI ni)] S (some (.int (nI a))) S1) (b3 : ni < 40) (hB : ∀ lv1 : sm_L, sm_get lv1 0 = some (.ref 61) → sm_get lv1 1 = some (.int (nI x)) → sm_get lv1 2 = some (.int (nI y)) → sm_get lv1 3 = some (.int (nI na)) → sm_get lv1 4 = some (.int (nI nb)) → sm_get lv1 5 = some (.int (nI (ni + 1))) → Bod (d + 8) 406 40 lv1 [] (wA 104 ni (vp_nar .byte ((nI a).toInt8.toInt32)) S1) v Sf) : Bod (d + 8) 406 40 lv [] S v Sf := by
  refine Bod.ildG dc_406_40 (by repeat (first | exact q5 | exact sm_get_p1 | exact sm_get_p2e | refine sm_get_p1m (by decide) (by decide) ?_ | refine sm_get_p1n (by decide) rfl ?_ | refine sm_get_p2n (by decide) (by decide) rfl ?_ | refine sm_get_p2m (by decide) (by decide) (by decide) ?_)) ?_
  refine Bod.ildnG dc_406_42 (by repeat (first | exact q3 | exact sm_get_p1 | exact sm_get_p2e | refine sm_get_p1m (by decide) (by decide) ?_ | refine sm_get_p1n (by decide) rfl ?_ | refine sm_get_p2n (by decide) (by decide) rfl ?_ | refine sm_get_p2m (by decide) (by decide) (by decide) ?_)) ?_
  refine Bod.icF dc_406_43 rfl (k2_ge_F ni na rfl rfl (by omega) (by omega)) ?_
  refine Bod.aldnG dc_406_46 (by repeat (first | exact q0 | exact sm_get_p1 | exact sm_get_p2e | refine sm_get_p1m (by decide) (by decide) ?_ | refine sm_get_p1n (by decide) rfl ?_ | refine sm_get_p2n (by decide) (by decide) rfl ?_ | refine sm_get_p2m (by decide) (by decide) (by decide) ?_)) ?_
  refine Bod.get dc_406_47 fr_406_752 (mk_61 _) rfl ?_
  refine Bod.ildG dc_406_50 (by repeat (first | exact q5 | exact sm_get_p1 | exact sm_get_p2e | refine sm_get_p1m (by decide) (by decide) ?_ | refine sm_get_p1n (by decide) rfl ?_ | refine sm_get_p2n (by decide) (by decide) rfl ?_ | refine sm_get_p2m (by decide) (by decide) (by decide) ?_)) ?_
  refine Bod.aldnG dc_406_52 (by repeat (first | exact q0 | exact sm_get_p1 | exact sm_get_p2e | refine sm_get_p1m (by decide) (by decide) ?_ | refine sm_get_p1n (by decide) rfl ?_ | refine sm_get_p2n (by decide) (by decide) rfl ?_ | refine sm_get_p2m (by decide) (by decide) (by decide) ?_)) ?_
  refine Bod.get dc_406_53 fr_406_499 (mk_61 _) rfl ?_
  refine Bod.ildnG dc_406_56 (by repeat (first | exact q1 | exact sm_get_p1 | exact sm_get_p2e | refine sm_get_p1m (by decide) (by decide) ?_ | refine sm_get_p1n (by decide) rfl ?_ | refine sm_get_p2n (by decide) (by decide) rfl ?_ | refine sm_get_p2m (by decide) (by decide) (by decide) ?_)) ?_
  refine Bod.laldN x rfl (by omega) (by omega) dc_406_57 (mk_92 _) ?_
  refine Bod.aldnG dc_406_58 (by repeat (first | exact q0 | exact sm_get_p1 | exact sm_get_p2e | refine sm_get_p1m (by decide) (by decide) ?_ | refine sm_get_p1n (by decide) rfl ?_ | refine sm_get_p2n (by decide) (by decide) rfl ?_ | refine sm_get_p2m (by decide) (by decide) (by decide) ?_)) ?_
  refine Bod.get dc_406_59 fr_406_546 (mk_61 _) rfl ?_
  refine Bod.ildnG dc_406_62 (by repeat (first | exact q1 | exact sm_get_p1 | exact sm_get_p2e | refine sm_get_p1m (by decide) (by decide) ?_ | refine sm_get_p1n (by decide) rfl ?_ | refine sm_get_p2n (by decide) (by decide) rfl ?_ | refine sm_get_p2m (by decide) (by decide) (by decide) ?_)) ?_
  refine Bod.laldN x rfl (by omega) (by omega) dc_406_63 (mk_93 _) ?_
  refine Bod.ildG dc_406_64 (by repeat (first | exact q5 | exact sm_get_p1 | exact sm_get_p2e | refine sm_get_p1m (by decide) (by decide) ?_ | refine sm_get_p1n (by decide) rfl ?_ | refine sm_get_p2n (by decide) (by decide) rfl ?_ | refine sm_get_p2m (by decide) (by decide) (by decide) ?_)) ?_
  refine Bod.stat (r := [_, _]) dc_406_66 kr_406_755 (Or.inl rfl) (by rw [np_386]; rfl) (by rw [np_386]; rfl) (by rw [np_386]; exact Nat.le_of_ble_eq_true rfl) (Nat.le_of_ble_eq_true rfl) (c1  ) ?_
  show Bod _ _ _ _ [_, _, _] _ _ _
  refine Bod.go dc_406_69 rfl ?_
  refine Bod.bastN ni rfl (by omega) (by omega) dc_406_70 (mk_104 _) (sa_104 _ _ _) (mu_A _ _ _ _) ?_
  refine Bod.incN (ni + 1) (by rw [kc_1, nI_add]) dc_406_71 (by rw [ml_406]; exact Nat.le_of_ble_eq_true rfl) (by repeat (first | exact q5 | exact sm_get_p1 | exact sm_get_p2e | refine sm_get_p1m (by decide) (by decide) ?_ | refine sm_get_p1n (by decide) rfl ?_ | refine sm_get_p2n (by decide) (by decide) rfl ?_ | refine sm_get_p2m (by decide) (by decide) (by decide) ?_)) ?_
  refine Bod.go dc_406_74 rfl ?_
  exact hB _ (by repeat (first | exact q0 | exact sm_get_p1 | exact sm_get_p2e | refine sm_get_p1m (by decide) (by decide) ?_ | refine sm_get_p1n (by decide) rfl ?_ | refine sm_get_p2n (by decide) (by decide) rfl ?_ | refine sm_get_p2m (by decide) (by decide) (by decide) ?_)) (by repeat (first | exact q1 | exact sm_get_p1 | exact sm_get_p2e | refine sm_get_p1m (by decide) (by decide) ?_ | refine sm_get_p1n (by decide) rfl ?_ | refine sm_get_p2n (by decide) (by decide) rfl ?_ | refine sm_get_p2m (by decide) (by decide) (by decide) ?_)) (by repeat (first | exact q2 | exact sm_get_p1 | exact sm_get_p2e | refine sm_get_p1m (by decide) (by decide) ?_ | refine sm_get_p1n (by decide) rfl ?_ | refine sm_get_p2n (by decide) (by decide) rfl ?_ | refine sm_get_p2m (by decide) (by decide) (by decide) ?_)) (by repeat (first | exact q3 | exact sm_get_p1 | exact sm_get_p2e | refine sm_get_p1m (by decide) (by decide) ?_ | refine sm_get_p1n (by decide) rfl ?_ | refine sm_get_p2n (by decide) (by decide) rfl ?_ | refine sm_get_p2m (by decide) (by decide) (by decide) ?_)) (by repeat (first | exact q4 | exact sm_get_p1 | exact sm_get_p2e | refine sm_get_p1m (by decide) (by decide) ?_ | refine sm_get_p1n (by decide) rfl ?_ | refine sm_get_p2n (by decide) (by decide) rfl ?_ | refine sm_get_p2m (by decide) (by decide) (by decide) ?_)) (by repeat (first | exact q0 | exact sm_get_p1 | exact sm_get_p2e | refine sm_get_p1m (by decide) (by decide) ?_ | refine sm_get_p1n (by decide) rfl ?_ | refine sm_get_p2n (by decide) (by decide) rfl ?_ | refine sm_get_p2m (by decide) (by decide) (by decide) ?_))
theorem rJsB_1 {d : Nat} {S : cS} {lv : sm_L} {y : Nat} {na : Nat} {nb : Nat} {ni : Nat} {t : Nat} {S1 : cS} {u : Int64} {S2 : cS} {u1 : Int64} {S3 : cS} (q0 : sm_get lv 0 = some (.ref 61)) (q2 : sm_get lv 2 = some (.int (nI y))) (q3 : sm_get lv 3 = some (.int (nI na))) (q4 : sm_get lv 4 = some (.int (nI nb))) (q5 : sm_get lv 5 = some (.int (nI ni))) (my : y < 2 ^ 20) (mna : na < 2 ^ 20) (mnb : nb < 2 ^ 20) (mni : ni < 2 ^ 20) (b1 : nb ≤ ni) (ht : sI S 6151 = nI t) (mt : t < 20481) (b2 : 2 ≤ t) (c1 : Ans (d + 8) 297 [.ref 104, .int (nI 0), .int (nI (na + nb)), .int (nI 0)] (wI 6151 (nI (t - 2)) S) (some (.long u)) S1) (c2 : Ans (d + 8) 297 [.ref 104, .int (nI 0), .int (nI (na + nb)), .int (nI 1)] S1 (some (.long u1)) S2) (c3 : Ans (d + 8) 352 [.ref 61, .int (nI 2), .long u, .long u1] S2 none S3) : Bod (d + 8) 406 80 lv [] S (some (.int 1)) (S3) := by
  refine Bod.ildG dc_406_80 (by repeat (first | exact q5 | exact sm_get_p1 | exact sm_get_p2e | refine sm_get_p1m (by decide) (by decide) ?_ | refine sm_get_p1n (by decide) rfl ?_ | refine sm_get_p2n (by decide) (by decide) rfl ?_ | refine sm_get_p2m (by decide) (by decide) (by decide) ?_)) ?_
  refine Bod.ildG dc_406_82 (by repeat (first | exact q4 | exact sm_get_p1 | exact sm_get_p2e | refine sm_get_p1m (by decide) (by decide) ?_ | refine sm_get_p1n (by decide) rfl ?_ | refine sm_get_p2n (by decide) (by decide) rfl ?_ | refine sm_get_p2m (by decide) (by decide) (by decide) ?_)) ?_
  refine Bod.icT dc_406_84 rfl (k2_ge_T ni nb rfl rfl (by omega) (by omega)) ?_
  refine Bod.aldnG dc_406_120 (by repeat (first | exact q0 | exact sm_get_p1 | exact sm_get_p2e | refine sm_get_p1m (by decide) (by decide) ?_ | refine sm_get_p1n (by decide) rfl ?_ | refine sm_get_p2n (by decide) (by decide) rfl ?_ | refine sm_get_p2m (by decide) (by decide) (by decide) ?_)) ?_
  refine Bod.go dc_406_121 rfl ?_
  refine Bod.get dc_406_122 fr_406_493 (mk_61 _) rfl ?_
  refine Bod.eqI (nI t) (by first | assumption | rfl | exact congrArg nI (by omega) | (simp (disch := omega) only [rI, rIe, rA, rIA, rLA, rJA, rVI, rQI, rVA, rQA, upd_at,  rAI, rLI, rJI, nI_add, pk_sub, kc_0, kc_1, kc_2, kc_3, kc_4, kc_5, reduceIte, Nat.reduceEqDiff, Nat.add_zero, rI_hold, rI_hold, rL_hold, ht]; done)) ?_
  refine Bod.ic 2 (by decide) dc_406_125 ?_
  refine Bod.subN (t - 2) (by omega) (by omega) dc_406_126 ?_
  refine Bod.put dc_406_127 fr_406_493 (mk_61 _) (Nat.le_of_ble_eq_true rfl) pf_14_51 (st_6151 _ _) (mu_I _ _ _) ?_
  refine Bod.aldnG dc_406_130 (by repeat (first | exact q0 | exact sm_get_p1 | exact sm_get_p2e | refine sm_get_p1m (by decide) (by decide) ?_ | refine sm_get_p1n (by decide) rfl ?_ | refine sm_get_p2n (by decide) (by decide) rfl ?_ | refine sm_get_p2m (by decide) (by decide) (by decide) ?_)) ?_
  refine Bod.ic 2 (by decide) dc_406_131 ?_
  refine Bod.aldnG dc_406_132 (by repeat (first | exact q0 | exact sm_get_p1 | exact sm_get_p2e | refine sm_get_p1m (by decide) (by decide) ?_ | refine sm_get_p1n (by decide) rfl ?_ | refine sm_get_p2n (by decide) (by decide) rfl ?_ | refine sm_get_p2m (by decide) (by decide) (by decide) ?_)) ?_
  refine Bod.get dc_406_133 fr_406_752 (mk_61 _) rfl ?_
  refine Bod.ic 0 (by decide) dc_406_136 ?_
  refine Bod.ildnG dc_406_137 (by repeat (first | exact q3 | exact sm_get_p1 | exact sm_get_p2e | refine sm_get_p1m (by decide) (by decide) ?_ | refine sm_get_p1n (by decide) rfl ?_ | refine sm_get_p2n (by decide) (by decide) rfl ?_ | refine sm_get_p2m (by decide) (by decide) (by decide) ?_)) ?_
  refine Bod.ildG dc_406_138 (by repeat (first | exact q4 | exact sm_get_p1 | exact sm_get_p2e | refine sm_get_p1m (by decide) (by decide) ?_ | refine sm_get_p1n (by decide) rfl ?_ | refine sm_get_p2n (by decide) (by decide) rfl ?_ | refine sm_get_p2m (by decide) (by decide) (by decide) ?_)) ?_
  refine Bod.addN (na + nb) (by omega) dc_406_140 ?_
  refine Bod.ic 0 (by decide) dc_406_141 ?_
  refine Bod.stat (r := [_, _]) dc_406_142 kr_406_178 (Or.inl rfl) (by rw [np_297]; rfl) (by rw [np_297]; rfl) (by rw [np_297]; exact Nat.le_of_ble_eq_true rfl) (Nat.le_of_ble_eq_true rfl) (c1  ) ?_
  show Bod _ _ _ _ [_, _, _] _ _ _
  refine Bod.aldnG dc_406_145 (by repeat (first | exact q0 | exact sm_get_p1 | exact sm_get_p2e | refine sm_get_p1m (by decide) (by decide) ?_ | refine sm_get_p1n (by decide) rfl ?_ | refine sm_get_p2n (by decide) (by decide) rfl ?_ | refine sm_get_p2m (by decide) (by decide) (by decide) ?_)) ?_
  refine Bod.get dc_406_146 fr_406_752 (mk_61 _) rfl ?_
  refine Bod.ic 0 (by decide) dc_406_149 ?_
  refine Bod.ildnG dc_406_150 (by repeat (first | exact q3 | exact sm_get_p1 | exact sm_get_p2e | refine sm_get_p1m (by decide) (by decide) ?_ | refine sm_get_p1n (by decide) rfl ?_ | refine sm_get_p2n (by decide) (by decide) rfl ?_ | refine sm_get_p2m (by decide) (by decide) (by decide) ?_)) ?_
  refine Bod.ildG dc_406_151 (by repeat (first | exact q4 | exact sm_get_p1 | exact sm_get_p2e | refine sm_get_p1m (by decide) (by decide) ?_ | refine sm_get_p1n (by decide) rfl ?_ | refine sm_get_p2n (by decide) (by decide) rfl ?_ | refine sm_get_p2m (by decide) (by decide) (by decide) ?_)) ?_
  refine Bod.addN (na + nb) (by omega) dc_406_153 ?_
  refine Bod.ic 1 (by decide) dc_406_154 ?_
  refine Bod.stat (r := [_, _, _]) dc_406_155 kr_406_178 (Or.inl rfl) (by rw [np_297]; rfl) (by rw [np_297]; rfl) (by rw [np_297]; exact Nat.le_of_ble_eq_true rfl) (Nat.le_of_ble_eq_true rfl) (c2  ) ?_
  show Bod _ _ _ _ [_, _, _, _] _ _ _
  refine Bod.virt (r := []) dc_406_158 kr_406_549 ⟨Or.inl rfl, ow_352, cl_14⟩ (by rw [np_352]; rfl) (by rw [np_352]; rfl) (ob_of (mk_61 _)) (Nat.le_of_ble_eq_true rfl) (c3  ) ?_
  show Bod _ _ _ _ [] _ _ _
  refine Bod.ic 1 (by decide) dc_406_161 ?_
  exact Bod.retZ dc_406_162 rt_406 (Or.inr rfl)
theorem rJsB_2 {d : Nat} {S Sf : cS} {v : Option Value} {lv : sm_L} {y : Nat} {na : Nat} {nb : Nat} {ni : Nat} {S1 : cS} {a : Nat} (q0 : sm_get lv 0 = some (.ref 61)) (q2 : sm_get lv 2 = some (.int (nI y))) (q3 : sm_get lv 3 = some (.int (nI na))) (q4 : sm_get lv 4 = some (.int (nI nb))) (q5 : sm_get lv 5 = some (.int (nI ni))) (my : y < 2 ^ 20) (mna : na < 2 ^ 20) (mnb : nb < 2 ^ 20) (mni : ni < 2 ^ 20) (b1 : ni < nb) (b2 : y < 20480) (ma : a < 2 ^ 20) (c1 : Ans (d + 8) 386 [.long (sL S 92 y), .long (sL S 93 y), .int (nI ni)] S (some (.int (nI a))) S1) (b3 : na + ni < 40) (hB : ∀ lv1 : sm_L, sm_get lv1 0 = some (.ref 61) → sm_get lv1 2 = some (.int (nI y)) → sm_get lv1 3 = some (.int (nI na)) → sm_get lv1 4 = some (.int (nI nb)) → sm_get lv1 5 = some (.int (nI (ni + 1))) → Bod (d + 8) 406 80 lv1 [] (wA 104 (na + ni) (vp_nar .byte ((nI a).toInt8.toInt32)) S1) v Sf) : Bod (d + 8) 406 80 lv [] S v Sf := by
  refine Bod.ildG dc_406_80 (by repeat (first | exact q5 | exact sm_get_p1 | exact sm_get_p2e | refine sm_get_p1m (by decide) (by decide) ?_ | refine sm_get_p1n (by decide) rfl ?_ | refine sm_get_p2n (by decide) (by decide) rfl ?_ | refine sm_get_p2m (by decide) (by decide) (by decide) ?_)) ?_
  refine Bod.ildG dc_406_82 (by repeat (first | exact q4 | exact sm_get_p1 | exact sm_get_p2e | refine sm_get_p1m (by decide) (by decide) ?_ | refine sm_get_p1n (by decide) rfl ?_ | refine sm_get_p2n (by decide) (by decide) rfl ?_ | refine sm_get_p2m (by decide) (by decide) (by decide) ?_)) ?_
  refine Bod.icF dc_406_84 rfl (k2_ge_F ni nb rfl rfl (by omega) (by omega)) ?_
  refine Bod.aldnG dc_406_87 (by repeat (first | exact q0 | exact sm_get_p1 | exact sm_get_p2e | refine sm_get_p1m (by decide) (by decide) ?_ | refine sm_get_p1n (by decide) rfl ?_ | refine sm_get_p2n (by decide) (by decide) rfl ?_ | refine sm_get_p2m (by decide) (by decide) (by decide) ?_)) ?_
  refine Bod.get dc_406_88 fr_406_752 (mk_61 _) rfl ?_
  refine Bod.ildnG dc_406_91 (by repeat (first | exact q3 | exact sm_get_p1 | exact sm_get_p2e | refine sm_get_p1m (by decide) (by decide) ?_ | refine sm_get_p1n (by decide) rfl ?_ | refine sm_get_p2n (by decide) (by decide) rfl ?_ | refine sm_get_p2m (by decide) (by decide) (by decide) ?_)) ?_
  refine Bod.ildG dc_406_92 (by repeat (first | exact q5 | exact sm_get_p1 | exact sm_get_p2e | refine sm_get_p1m (by decide) (by decide) ?_ | refine sm_get_p1n (by decide) rfl ?_ | refine sm_get_p2n (by decide) (by decide) rfl ?_ | refine sm_get_p2m (by decide) (by decide) (by decide) ?_)) ?_
  refine Bod.addN (na + ni) (by omega) dc_406_94 ?_
  refine Bod.aldnG dc_406_95 (by repeat (first | exact q0 | exact sm_get_p1 | exact sm_get_p2e | refine sm_get_p1m (by decide) (by decide) ?_ | refine sm_get_p1n (by decide) rfl ?_ | refine sm_get_p2n (by decide) (by decide) rfl ?_ | refine sm_get_p2m (by decide) (by decide) (by decide) ?_)) ?_
  refine Bod.get dc_406_96 fr_406_499 (mk_61 _) rfl ?_
  refine Bod.ildnG dc_406_99 (by repeat (first | exact q2 | exact sm_get_p1 | exact sm_get_p2e | refine sm_get_p1m (by decide) (by decide) ?_ | refine sm_get_p1n (by decide) rfl ?_ | refine sm_get_p2n (by decide) (by decide) rfl ?_ | refine sm_get_p2m (by decide) (by decide) (by decide) ?_)) ?_
  refine Bod.laldN y rfl (by omega) (by omega) dc_406_100 (mk_92 _) ?_
  refine Bod.aldnG dc_406_101 (by repeat (first | exact q0 | exact sm_get_p1 | exact sm_get_p2e | refine sm_get_p1m (by decide) (by decide) ?_ | refine sm_get_p1n (by decide) rfl ?_ | refine sm_get_p2n (by decide) (by decide) rfl ?_ | refine sm_get_p2m (by decide) (by decide) (by decide) ?_)) ?_
  refine Bod.get dc_406_102 fr_406_546 (mk_61 _) rfl ?_
  refine Bod.ildnG dc_406_105 (by repeat (first | exact q2 | exact sm_get_p1 | exact sm_get_p2e | refine sm_get_p1m (by decide) (by decide) ?_ | refine sm_get_p1n (by decide) rfl ?_ | refine sm_get_p2n (by decide) (by decide) rfl ?_ | refine sm_get_p2m (by decide) (by decide) (by decide) ?_)) ?_
  refine Bod.laldN y rfl (by omega) (by omega) dc_406_106 (mk_93 _) ?_
  refine Bod.ildG dc_406_107 (by repeat (first | exact q5 | exact sm_get_p1 | exact sm_get_p2e | refine sm_get_p1m (by decide) (by decide) ?_ | refine sm_get_p1n (by decide) rfl ?_ | refine sm_get_p2n (by decide) (by decide) rfl ?_ | refine sm_get_p2m (by decide) (by decide) (by decide) ?_)) ?_
  refine Bod.stat (r := [_, _]) dc_406_109 kr_406_755 (Or.inl rfl) (by rw [np_386]; rfl) (by rw [np_386]; rfl) (by rw [np_386]; exact Nat.le_of_ble_eq_true rfl) (Nat.le_of_ble_eq_true rfl) (c1  ) ?_
  show Bod _ _ _ _ [_, _, _] _ _ _
  refine Bod.go dc_406_112 rfl ?_
  refine Bod.bastN (na + ni) rfl (by omega) (by omega) dc_406_113 (mk_104 _) (sa_104 _ _ _) (mu_A _ _ _ _) ?_
  refine Bod.incN (ni + 1) (by rw [kc_1, nI_add]) dc_406_114 (by rw [ml_406]; exact Nat.le_of_ble_eq_true rfl) (by repeat (first | exact q5 | exact sm_get_p1 | exact sm_get_p2e | refine sm_get_p1m (by decide) (by decide) ?_ | refine sm_get_p1n (by decide) rfl ?_ | refine sm_get_p2n (by decide) (by decide) rfl ?_ | refine sm_get_p2m (by decide) (by decide) (by decide) ?_)) ?_
  refine Bod.go dc_406_117 rfl ?_
  exact hB _ (by repeat (first | exact q0 | exact sm_get_p1 | exact sm_get_p2e | refine sm_get_p1m (by decide) (by decide) ?_ | refine sm_get_p1n (by decide) rfl ?_ | refine sm_get_p2n (by decide) (by decide) rfl ?_ | refine sm_get_p2m (by decide) (by decide) (by decide) ?_)) (by repeat (first | exact q2 | exact sm_get_p1 | exact sm_get_p2e | refine sm_get_p1m (by decide) (by decide) ?_ | refine sm_get_p1n (by decide) rfl ?_ | refine sm_get_p2n (by decide) (by decide) rfl ?_ | refine sm_get_p2m (by decide) (by decide) (by decide) ?_)) (by repeat (first | exact q3 | exact sm_get_p1 | exact sm_get_p2e | refine sm_get_p1m (by decide) (by decide) ?_ | refine sm_get_p1n (by decide) rfl ?_ | refine sm_get_p2n (by decide) (by decide) rfl ?_ | refine sm_get_p2m (by decide) (by decide) (by decide) ?_)) (by repeat (first | exact q4 | exact sm_get_p1 | exact sm_get_p2e | refine sm_get_p1m (by decide) (by decide) ?_ | refine sm_get_p1n (by decide) rfl ?_ | refine sm_get_p2n (by decide) (by decide) rfl ?_ | refine sm_get_p2m (by decide) (by decide) (by decide) ?_)) (by repeat (first | exact q0 | exact sm_get_p1 | exact sm_get_p2e | refine sm_get_p1m (by decide) (by decide) ?_ | refine sm_get_p1n (by decide) rfl ?_ | refine sm_get_p2n (by decide) (by decide) rfl ?_ | refine sm_get_p2m (by decide) (by decide) (by decide) ?_))
theorem rMc_1 {d : Nat} {S Sf : cS} {v : Option Value} {ws : Nat} {Nw : Nat} {pc : Nat} {e : Nat} {e1 : Nat} {S1 : cS} {a : Nat} {g : Nat} {zg : Nat} {e2 : Nat} (mpc : pc < 2 ^ 20) (hws : isK S ws 0 Nw) (mNw : Nw < 2 ^ 20) (b1 : (pc + 3) < Nw) (he : sA S ws (pc + 3) = nI e) (me : e < 2 ^ 20) (b2 : (pc + 2) < Nw) (he1 : sA S ws (pc + 2) = nI e1) (me1 : e1 < 2 ^ 20) (b3 : e1 ≠ 1) (ma : a < 1500) (c1 : Ans (d + 8) 364 [.ref 61, .int (nI 4)] S (some (.int (nI a))) S1) (ag : 108 ≤ g) (hq2 : sQ S1 86 a = some g) (b4 : (pc + 1) < Nw) (he2 : sA S1 ws (pc + 1) = nI e2) (me2 : e2 < 2 ^ 20) (hy3 : isK S1 ws 0 Nw) (hz1 : (sS S1)[g - 108]? = some (13, zg)) (hB : ∀ lv1 : sm_L, sm_get lv1 0 = some (.ref 61) → sm_get lv1 1 = some (.ref ws) → sm_get lv1 2 = some (.int (nI pc)) → sm_get lv1 4 = some (.int (nI e)) → sm_get lv1 5 = some (.int (nI a)) → sm_get lv1 6 = some (.ref g) → sm_get lv1 7 = some (.int (nI 0)) → Bod (d + 8) 362 107 lv1 [] (wI (100 * g + 11) (Int32.ofInt (-1)) (wI (100 * g + 10) (nI e2) S1)) v Sf) : Bod (d + 8) 362 0 [(0, .ref 61), (1, .ref ws), (2, .int (nI pc))] [] S v Sf := by
  refine Bod.go dc_362_0 rfl ?_
  refine Bod.istn dc_362_1 (by rw [ml_362]; exact Nat.le_of_ble_eq_true rfl) ?_
  refine Bod.go dc_362_2 rfl ?_
  refine Bod.go dc_362_3 rfl ?_
  refine Bod.ic 3 (by decide) dc_362_4 ?_
  refine Bod.addN (pc + 3) (by omega) dc_362_5 ?_
  refine Bod.ialdN (N := Nw) (pc + 3) rfl (by omega) (by omega) dc_362_6 (mk_isI (by first | exact hws | exact isK_S (by simp only [rIS, rJS, rAS, rLS, rVS, rQS, rS_hold]) hws)) ?_
  refine Bod.eqI (nI e) (by first | assumption | rfl | exact congrArg nI (by omega) | (simp (disch := omega) only [rI, rIe, rA, rIA, rLA, rJA, rVI, rQI, rVA, rQA, upd_at,  rAI, rLI, rJI, nI_add, pk_sub, kc_0, kc_1, kc_2, kc_3, kc_4, kc_5, reduceIte, Nat.reduceEqDiff, Nat.add_zero, rI_hold, rI_hold, rL_hold, he]; done)) ?_
  refine Bod.ist dc_362_7 (by rw [ml_362]; exact Nat.le_of_ble_eq_true rfl) ?_
  refine Bod.go dc_362_9 rfl ?_
  refine Bod.go dc_362_10 rfl ?_
  refine Bod.ic 2 (by decide) dc_362_11 ?_
  refine Bod.addN (pc + 2) (by omega) dc_362_12 ?_
  refine Bod.ialdN (N := Nw) (pc + 2) rfl (by omega) (by omega) dc_362_13 (mk_isI (by first | exact hws | exact isK_S (by simp only [rIS, rJS, rAS, rLS, rVS, rQS, rS_hold]) hws)) ?_
  refine Bod.eqI (nI e1) (by first | assumption | rfl | exact congrArg nI (by omega) | (simp (disch := omega) only [rI, rIe, rA, rIA, rLA, rJA, rVI, rQI, rVA, rQA, upd_at,  rAI, rLI, rJI, nI_add, pk_sub, kc_0, kc_1, kc_2, kc_3, kc_4, kc_5, reduceIte, Nat.reduceEqDiff, Nat.add_zero, rI_hold, rI_hold, rL_hold, he, he1]; done)) ?_
  refine Bod.ic 1 (by decide) dc_362_14 ?_
  refine Bod.icT dc_362_15 rfl (k2_ne_T (k_ne e1 1 rfl rfl (by omega) (by omega) (by omega))) ?_
  refine Bod.go dc_362_51 rfl ?_
  refine Bod.ic 4 (by decide) dc_362_52 ?_
  refine Bod.virt (r := []) dc_362_53 kr_362_686 ⟨Or.inl rfl, ow_364, cl_14⟩ (by rw [np_364]; rfl) (by rw [np_364]; rfl) (ob_of (mk_61 _)) (Nat.le_of_ble_eq_true rfl) (c1  ) ?_
  show Bod _ _ _ _ [_] _ _ _
  refine Bod.ist dc_362_56 (by rw [ml_362]; exact Nat.le_of_ble_eq_true rfl) ?_
  refine Bod.go dc_362_58 rfl ?_
  refine Bod.ifT dc_362_60 rfl (k1_ge_T a rfl (by omega)) ?_
  refine Bod.go dc_362_65 rfl ?_
  refine Bod.ifT dc_362_66 rfl (by decide) ?_
  refine Bod.go dc_362_79 rfl ?_
  refine Bod.get dc_362_80 fr_362_485 (mk_61 _) rfl ?_
  refine Bod.go dc_362_83 rfl ?_
  refine Bod.aaldR (N := 1500) (b := g) a rfl (by omega) (by omega) (by first | exact hq2 | (simp only [rIQ, rJQ, rAQ, rLQ, rVQ, rQ_holdE]; exact hq2)) dc_362_85 (mk_86 _) ht_5 ?_
  refine Bod.ast dc_362_86 (by rw [ml_362]; exact Nat.le_of_ble_eq_true rfl) ?_
  refine Bod.go dc_362_88 rfl ?_
  refine Bod.go dc_362_90 rfl ?_
  refine Bod.go dc_362_91 rfl ?_
  refine Bod.ic 1 (by decide) dc_362_92 ?_
  refine Bod.addN (pc + 1) (by omega) dc_362_93 ?_
  refine Bod.ialdN (N := Nw) (pc + 1) rfl (by omega) (by omega) dc_362_94 (mk_isI (by first | exact hy3 | exact isK_S (by simp only [rIS, rJS, rAS, rLS, rVS, rQS, rS_hold]) hy3)) ?_
  refine Bod.eqI (nI e2) (by first | assumption | (simp (disch := omega) only [rI, rIe, rA, rIA, rLA, rJA, rVI, rQI, rVA, rQA, upd_at,  rAI, rLI, rJI, nI_add, pk_sub, kc_0, kc_1, kc_2, kc_3, kc_4, kc_5, reduceIte, Nat.reduceEqDiff, Nat.add_zero, rI_hold, rI_hold, rL_hold, he, he1, he2]; done) | (simp (disch := omega) only [rI, rIe, rA, rIA, rLA, rJA, rVI, rQI, rVA, rQA, upd_at,  rAI, rLI, rJI, nI_add, pk_sub, kc_0, kc_1, kc_2, kc_3, kc_4, kc_5, reduceIte, Nat.reduceEqDiff, Nat.add_zero, rI_hold, rI_hold, rL_hold, he, he1, he2]; exact congrArg nI (by omega))) ?_
  refine Bod.put dc_362_95 fr_362_694 (mk_thing ag (by first | exact hz1 | (simp only [rIS, rJS, rAS, rLS, rVS, rQS, rS_hold]; exact hz1))) (Nat.le_of_ble_eq_true rfl) pf_13_10 (st_thing_10 ag (by first | exact hz1 | (simp only [rIS, rJS, rAS, rLS, rVS, rQS, rS_hold]; exact hz1))) (mu_I _ _ _) ?_
  refine Bod.go dc_362_98 rfl ?_
  refine Bod.go dc_362_100 rfl ?_
  refine Bod.put dc_362_101 fr_362_472 (mk_thing ag (by first | exact hz1 | (simp only [rIS, rJS, rAS, rLS, rVS, rQS, rS_hold]; exact hz1))) (Nat.le_of_ble_eq_true rfl) pf_13_11 (st_thing_11 ag (by first | exact hz1 | (simp only [rIS, rJS, rAS, rLS, rVS, rQS, rS_hold]; exact hz1))) (mu_I _ _ _) ?_
  refine Bod.ic 0 (by decide) dc_362_104 ?_
  refine Bod.ist dc_362_105 (by rw [ml_362]; exact Nat.le_of_ble_eq_true rfl) ?_
  exact hB _ (by first | rfl | exact (by repeat (first | exact rfl | exact sm_get_p1 | exact sm_get_p2e | refine sm_get_p1m (by decide) (by decide) ?_ | refine sm_get_p1n (by decide) rfl ?_ | refine sm_get_p2n (by decide) (by decide) rfl ?_ | refine sm_get_p2m (by decide) (by decide) (by decide) ?_))) (by first | rfl | exact (by repeat (first | exact rfl | exact sm_get_p1 | exact sm_get_p2e | refine sm_get_p1m (by decide) (by decide) ?_ | refine sm_get_p1n (by decide) rfl ?_ | refine sm_get_p2n (by decide) (by decide) rfl ?_ | refine sm_get_p2m (by decide) (by decide) (by decide) ?_))) (by first | rfl | exact (by repeat (first | exact rfl | exact sm_get_p1 | exact sm_get_p2e | refine sm_get_p1m (by decide) (by decide) ?_ | refine sm_get_p1n (by decide) rfl ?_ | refine sm_get_p2n (by decide) (by decide) rfl ?_ | refine sm_get_p2m (by decide) (by decide) (by decide) ?_))) (by first | rfl | exact (by repeat (first | exact rfl | exact sm_get_p1 | exact sm_get_p2e | refine sm_get_p1m (by decide) (by decide) ?_ | refine sm_get_p1n (by decide) rfl ?_ | refine sm_get_p2n (by decide) (by decide) rfl ?_ | refine sm_get_p2m (by decide) (by decide) (by decide) ?_))) (by first | rfl | exact (by repeat (first | exact rfl | exact sm_get_p1 | exact sm_get_p2e | refine sm_get_p1m (by decide) (by decide) ?_ | refine sm_get_p1n (by decide) rfl ?_ | refine sm_get_p2n (by decide) (by decide) rfl ?_ | refine sm_get_p2m (by decide) (by decide) (by decide) ?_))) (by first | rfl | exact (by repeat (first | exact rfl | exact sm_get_p1 | exact sm_get_p2e | refine sm_get_p1m (by decide) (by decide) ?_ | refine sm_get_p1n (by decide) rfl ?_ | refine sm_get_p2n (by decide) (by decide) rfl ?_ | refine sm_get_p2m (by decide) (by decide) (by decide) ?_))) (by first | rfl | exact (by repeat (first | exact rfl | exact sm_get_p1 | exact sm_get_p2e | refine sm_get_p1m (by decide) (by decide) ?_ | refine sm_get_p1n (by decide) rfl ?_ | refine sm_get_p2n (by decide) (by decide) rfl ?_ | refine sm_get_p2m (by decide) (by decide) (by decide) ?_)))
theorem rMc_2 {d : Nat} {S : cS} {ws : Nat} {Nw : Nat} {pc : Nat} {e : Nat} {e1 : Nat} {S1 : cS} (mpc : pc < 2 ^ 20) (hws : isK S ws 0 Nw) (mNw : Nw < 2 ^ 20) (b1 : (pc + 3) < Nw) (he : sA S ws (pc + 3) = nI e) (me : e < 2 ^ 20) (b2 : (pc + 2) < Nw) (he1 : sA S ws (pc + 2) = nI e1) (me1 : e1 < 2 ^ 20) (b3 : e1 ≠ 1) (c1 : Ans (d + 8) 364 [.ref 61, .int (nI 4)] S (some (.int (Int32.ofInt (-1)))) S1) : Bod (d + 8) 362 0 [(0, .ref 61), (1, .ref ws), (2, .int (nI pc))] [] S (some (.int 0)) (S1) := by
  refine Bod.go dc_362_0 rfl ?_
  refine Bod.istn dc_362_1 (by rw [ml_362]; exact Nat.le_of_ble_eq_true rfl) ?_
  refine Bod.go dc_362_2 rfl ?_
  refine Bod.go dc_362_3 rfl ?_
  refine Bod.ic 3 (by decide) dc_362_4 ?_
  refine Bod.addN (pc + 3) (by omega) dc_362_5 ?_
  refine Bod.ialdN (N := Nw) (pc + 3) rfl (by omega) (by omega) dc_362_6 (mk_isI (by first | exact hws | exact isK_S (by simp only [rIS, rJS, rAS, rLS, rVS, rQS, rS_hold]) hws)) ?_
  refine Bod.eqI (nI e) (by first | assumption | rfl | exact congrArg nI (by omega) | (simp (disch := omega) only [rI, rIe, rA, rIA, rLA, rJA, rVI, rQI, rVA, rQA, upd_at,  rAI, rLI, rJI, nI_add, pk_sub, kc_0, kc_1, kc_2, kc_3, kc_4, kc_5, reduceIte, Nat.reduceEqDiff, Nat.add_zero, rI_hold, rI_hold, rL_hold, he]; done)) ?_
  refine Bod.ist dc_362_7 (by rw [ml_362]; exact Nat.le_of_ble_eq_true rfl) ?_
  refine Bod.go dc_362_9 rfl ?_
  refine Bod.go dc_362_10 rfl ?_
  refine Bod.ic 2 (by decide) dc_362_11 ?_
  refine Bod.addN (pc + 2) (by omega) dc_362_12 ?_
  refine Bod.ialdN (N := Nw) (pc + 2) rfl (by omega) (by omega) dc_362_13 (mk_isI (by first | exact hws | exact isK_S (by simp only [rIS, rJS, rAS, rLS, rVS, rQS, rS_hold]) hws)) ?_
  refine Bod.eqI (nI e1) (by first | assumption | rfl | exact congrArg nI (by omega) | (simp (disch := omega) only [rI, rIe, rA, rIA, rLA, rJA, rVI, rQI, rVA, rQA, upd_at,  rAI, rLI, rJI, nI_add, pk_sub, kc_0, kc_1, kc_2, kc_3, kc_4, kc_5, reduceIte, Nat.reduceEqDiff, Nat.add_zero, rI_hold, rI_hold, rL_hold, he, he1]; done)) ?_
  refine Bod.ic 1 (by decide) dc_362_14 ?_
  refine Bod.icT dc_362_15 rfl (k2_ne_T (k_ne e1 1 rfl rfl (by omega) (by omega) (by omega))) ?_
  refine Bod.go dc_362_51 rfl ?_
  refine Bod.ic 4 (by decide) dc_362_52 ?_
  refine Bod.virt (r := []) dc_362_53 kr_362_686 ⟨Or.inl rfl, ow_364, cl_14⟩ (by rw [np_364]; rfl) (by rw [np_364]; rfl) (ob_of (mk_61 _)) (Nat.le_of_ble_eq_true rfl) (c1  ) ?_
  show Bod _ _ _ _ [_] _ _ _
  refine Bod.ist dc_362_56 (by rw [ml_362]; exact Nat.le_of_ble_eq_true rfl) ?_
  refine Bod.go dc_362_58 rfl ?_
  refine Bod.ifF dc_362_60 rfl (by decide) ?_
  refine Bod.ic 0 (by decide) dc_362_63 ?_
  exact Bod.retZ dc_362_64 rt_362 (Or.inl rfl)
theorem rMc_3 {d : Nat} {S Sf : cS} {v : Option Value} {ws : Nat} {Nw : Nat} {pc : Nat} {e : Nat} {e1 : Nat} {t : Nat} {S1 : cS} {t1 : Nat} {o : Nat} {S2 : cS} {a : Nat} {t2 : Nat} {g : Nat} {zg : Nat} {e2 : Nat} (mpc : pc < 2 ^ 20) (hws : isK S ws 0 Nw) (mNw : Nw < 2 ^ 20) (b1 : (pc + 3) < Nw) (he : sA S ws (pc + 3) = nI e) (me : e < 2 ^ 20) (b2 : (pc + 2) < Nw) (he1 : sA S ws (pc + 2) = nI e1) (me1 : e1 < 2 ^ 20) (b3 : e1 = 1) (ht : sI S 6151 = nI t) (mt : t < 20481) (b4 : 1 ≤ t) (c1 : Ans (d + 8) 363 [.ref 61, .int (nI (t - 1)), .int (nI 4)] S (some (.int (nI 1))) S1) (ht1 : sI S1 6151 = nI t1) (mt1 : t1 < 20481) (b5 : 1 ≤ t1) (ho : (sL S1 92 (t1 - 1)).toInt32 = nI o) (mo : o < 1500) (ma : a < 1500) (c2 : Ans (d + 8) 364 [.ref 61, .int (nI 4)] S1 (some (.int (nI a))) S2) (ht2 : sI S2 6151 = nI t2) (mt2 : t2 < 20481) (b6 : 1 ≤ t2) (ag : 108 ≤ g) (hq3 : sQ S2 86 a = some g) (b7 : (pc + 1) < Nw) (he2 : sA (wI 6151 (nI (t2 - 1)) S2) ws (pc + 1) = nI e2) (me2 : e2 < 2 ^ 20) (hy4 : isK S2 ws 0 Nw) (hz1 : (sS S2)[g - 108]? = some (13, zg)) (hB : ∀ lv1 : sm_L, sm_get lv1 0 = some (.ref 61) → sm_get lv1 1 = some (.ref ws) → sm_get lv1 2 = some (.int (nI pc)) → sm_get lv1 4 = some (.int (nI e)) → sm_get lv1 5 = some (.int (nI a)) → sm_get lv1 6 = some (.ref g) → sm_get lv1 7 = some (.int (nI 0)) → Bod (d + 8) 362 107 lv1 [] (wI (100 * g + 11) (nI o) (wI (100 * g + 10) (nI e2) (wI 6151 (nI (t2 - 1)) S2))) v Sf) : Bod (d + 8) 362 0 [(0, .ref 61), (1, .ref ws), (2, .int (nI pc))] [] S v Sf := by
  refine Bod.go dc_362_0 rfl ?_
  refine Bod.istn dc_362_1 (by rw [ml_362]; exact Nat.le_of_ble_eq_true rfl) ?_
  refine Bod.go dc_362_2 rfl ?_
  refine Bod.go dc_362_3 rfl ?_
  refine Bod.ic 3 (by decide) dc_362_4 ?_
  refine Bod.addN (pc + 3) (by omega) dc_362_5 ?_
  refine Bod.ialdN (N := Nw) (pc + 3) rfl (by omega) (by omega) dc_362_6 (mk_isI (by first | exact hws | exact isK_S (by simp only [rIS, rJS, rAS, rLS, rVS, rQS, rS_hold]) hws)) ?_
  refine Bod.eqI (nI e) (by first | assumption | rfl | exact congrArg nI (by omega) | (simp (disch := omega) only [rI, rIe, rA, rIA, rLA, rJA, rVI, rQI, rVA, rQA, upd_at,  rAI, rLI, rJI, nI_add, pk_sub, kc_0, kc_1, kc_2, kc_3, kc_4, kc_5, reduceIte, Nat.reduceEqDiff, Nat.add_zero, rI_hold, rI_hold, rL_hold, he]; done)) ?_
  refine Bod.ist dc_362_7 (by rw [ml_362]; exact Nat.le_of_ble_eq_true rfl) ?_
  refine Bod.go dc_362_9 rfl ?_
  refine Bod.go dc_362_10 rfl ?_
  refine Bod.ic 2 (by decide) dc_362_11 ?_
  refine Bod.addN (pc + 2) (by omega) dc_362_12 ?_
  refine Bod.ialdN (N := Nw) (pc + 2) rfl (by omega) (by omega) dc_362_13 (mk_isI (by first | exact hws | exact isK_S (by simp only [rIS, rJS, rAS, rLS, rVS, rQS, rS_hold]) hws)) ?_
  refine Bod.eqI (nI e1) (by first | assumption | rfl | exact congrArg nI (by omega) | (simp (disch := omega) only [rI, rIe, rA, rIA, rLA, rJA, rVI, rQI, rVA, rQA, upd_at,  rAI, rLI, rJI, nI_add, pk_sub, kc_0, kc_1, kc_2, kc_3, kc_4, kc_5, reduceIte, Nat.reduceEqDiff, Nat.add_zero, rI_hold, rI_hold, rL_hold, he, he1]; done)) ?_
  refine Bod.ic 1 (by decide) dc_362_14 ?_
  refine Bod.icF dc_362_15 rfl (k2_ne_F (k_eq e1 1 rfl rfl (by omega))) ?_
  refine Bod.go dc_362_18 rfl ?_
  refine Bod.go dc_362_19 rfl ?_
  refine Bod.get dc_362_20 fr_362_493 (mk_61 _) rfl ?_
  refine Bod.eqI (nI t) (by first | assumption | rfl | exact congrArg nI (by omega) | (simp (disch := omega) only [rI, rIe, rA, rIA, rLA, rJA, rVI, rQI, rVA, rQA, upd_at,  rAI, rLI, rJI, nI_add, pk_sub, kc_0, kc_1, kc_2, kc_3, kc_4, kc_5, reduceIte, Nat.reduceEqDiff, Nat.add_zero, rI_hold, rI_hold, rL_hold, he, he1, ht]; done)) ?_
  refine Bod.ic 1 (by decide) dc_362_23 ?_
  refine Bod.subN (t - 1) (by omega) (by omega) dc_362_24 ?_
  refine Bod.ic 4 (by decide) dc_362_25 ?_
  refine Bod.virt (r := []) dc_362_26 kr_362_683 ⟨Or.inl rfl, ow_363, cl_14⟩ (by rw [np_363]; rfl) (by rw [np_363]; rfl) (ob_of (mk_61 _)) (Nat.le_of_ble_eq_true rfl) (c1  ) ?_
  show Bod _ _ _ _ [_] _ _ _
  refine Bod.ifT dc_362_29 rfl (k1_ne_T (k_ne 1 0 rfl rfl (by omega) (by omega) (by omega))) ?_
  refine Bod.go dc_362_38 rfl ?_
  refine Bod.get dc_362_39 fr_362_499 (mk_61 _) rfl ?_
  refine Bod.go dc_362_42 rfl ?_
  refine Bod.get dc_362_43 fr_362_493 (mk_61 _) rfl ?_
  refine Bod.eqI (nI t1) (by first | assumption | (simp (disch := omega) only [rI, rIe, rA, rIA, rLA, rJA, rVI, rQI, rVA, rQA, upd_at,  rAI, rLI, rJI, nI_add, pk_sub, kc_0, kc_1, kc_2, kc_3, kc_4, kc_5, reduceIte, Nat.reduceEqDiff, Nat.add_zero, rI_hold, rI_hold, rL_hold, he, he1, ht, ht1]; done) | (simp (disch := omega) only [rI, rIe, rA, rIA, rLA, rJA, rVI, rQI, rVA, rQA, upd_at,  rAI, rLI, rJI, nI_add, pk_sub, kc_0, kc_1, kc_2, kc_3, kc_4, kc_5, reduceIte, Nat.reduceEqDiff, Nat.add_zero, rI_hold, rI_hold, rL_hold, he, he1, ht, ht1]; exact congrArg nI (by omega))) ?_
  refine Bod.ic 1 (by decide) dc_362_46 ?_
  refine Bod.subN (t1 - 1) (by omega) (by omega) dc_362_47 ?_
  refine Bod.laldN (t1 - 1) rfl (by omega) (by omega) dc_362_48 (mk_92 _) ?_
  refine Bod.go dc_362_49 rfl ?_
  refine Bod.eqI (nI o) (by first | exact ho | (simp only [rI, rIe, rA, rIA, rLA, rJA, rVI, rQI, rVA, rQA, upd_at,  rAI, rLI, rJI, nI_add, pk_sub, kc_0, kc_1, kc_2, kc_3, kc_4, kc_5, reduceIte, Nat.reduceEqDiff, Nat.add_zero, rI_hold, rI_hold, rL_hold]; exact ho)) ?_
  refine Bod.istn dc_362_50 (by rw [ml_362]; exact Nat.le_of_ble_eq_true rfl) ?_
  refine Bod.go dc_362_51 rfl ?_
  refine Bod.ic 4 (by decide) dc_362_52 ?_
  refine Bod.virt (r := []) dc_362_53 kr_362_686 ⟨Or.inl rfl, ow_364, cl_14⟩ (by rw [np_364]; rfl) (by rw [np_364]; rfl) (ob_of (mk_61 _)) (Nat.le_of_ble_eq_true rfl) (c2  ) ?_
  show Bod _ _ _ _ [_] _ _ _
  refine Bod.ist dc_362_56 (by rw [ml_362]; exact Nat.le_of_ble_eq_true rfl) ?_
  refine Bod.go dc_362_58 rfl ?_
  refine Bod.ifT dc_362_60 rfl (k1_ge_T a rfl (by omega)) ?_
  refine Bod.go dc_362_65 rfl ?_
  refine Bod.ifF dc_362_66 rfl (k1_lt_F o rfl (by omega)) ?_
  refine Bod.go dc_362_69 rfl ?_
  refine Bod.go dc_362_70 rfl ?_
  refine Bod.get dc_362_71 fr_362_493 (mk_61 _) rfl ?_
  refine Bod.eqI (nI t2) (by first | assumption | (simp (disch := omega) only [rI, rIe, rA, rIA, rLA, rJA, rVI, rQI, rVA, rQA, upd_at,  rAI, rLI, rJI, nI_add, pk_sub, kc_0, kc_1, kc_2, kc_3, kc_4, kc_5, reduceIte, Nat.reduceEqDiff, Nat.add_zero, rI_hold, rI_hold, rL_hold, he, he1, ht, ht1, ht2]; done) | (simp (disch := omega) only [rI, rIe, rA, rIA, rLA, rJA, rVI, rQI, rVA, rQA, upd_at,  rAI, rLI, rJI, nI_add, pk_sub, kc_0, kc_1, kc_2, kc_3, kc_4, kc_5, reduceIte, Nat.reduceEqDiff, Nat.add_zero, rI_hold, rI_hold, rL_hold, he, he1, ht, ht1, ht2]; exact congrArg nI (by omega))) ?_
  refine Bod.ic 1 (by decide) dc_362_74 ?_
  refine Bod.subN (t2 - 1) (by omega) (by omega) dc_362_75 ?_
  refine Bod.put dc_362_76 fr_362_493 (mk_61 _) (Nat.le_of_ble_eq_true rfl) pf_14_51 (st_6151 _ _) (mu_I _ _ _) ?_
  refine Bod.go dc_362_79 rfl ?_
  refine Bod.get dc_362_80 fr_362_485 (mk_61 _) rfl ?_
  refine Bod.go dc_362_83 rfl ?_
  refine Bod.aaldR (N := 1500) (b := g) a rfl (by omega) (by omega) (by first | exact hq3 | (simp only [rIQ, rJQ, rAQ, rLQ, rVQ, rQ_holdE]; exact hq3)) dc_362_85 (mk_86 _) ht_5 ?_
  refine Bod.ast dc_362_86 (by rw [ml_362]; exact Nat.le_of_ble_eq_true rfl) ?_
  refine Bod.go dc_362_88 rfl ?_
  refine Bod.go dc_362_90 rfl ?_
  refine Bod.go dc_362_91 rfl ?_
  refine Bod.ic 1 (by decide) dc_362_92 ?_
  refine Bod.addN (pc + 1) (by omega) dc_362_93 ?_
  refine Bod.ialdN (N := Nw) (pc + 1) rfl (by omega) (by omega) dc_362_94 (mk_isI (by first | exact hy4 | exact isK_S (by simp only [rIS, rJS, rAS, rLS, rVS, rQS, rS_hold]) hy4)) ?_
  refine Bod.eqI (nI e2) (by first | assumption | (simp (disch := omega) only [rI, rIe, rA, rIA, rLA, rJA, rVI, rQI, rVA, rQA, upd_at,  rAI, rLI, rJI, nI_add, pk_sub, kc_0, kc_1, kc_2, kc_3, kc_4, kc_5, reduceIte, Nat.reduceEqDiff, Nat.add_zero, rI_hold, rI_hold, rL_hold, he, he1, ht, ht1, ht2, he2]; done) | (simp (disch := omega) only [rI, rIe, rA, rIA, rLA, rJA, rVI, rQI, rVA, rQA, upd_at,  rAI, rLI, rJI, nI_add, pk_sub, kc_0, kc_1, kc_2, kc_3, kc_4, kc_5, reduceIte, Nat.reduceEqDiff, Nat.add_zero, rI_hold, rI_hold, rL_hold, he, he1, ht, ht1, ht2, he2]; exact congrArg nI (by omega))) ?_
  refine Bod.put dc_362_95 fr_362_694 (mk_thing ag (by first | exact hz1 | (simp only [rIS, rJS, rAS, rLS, rVS, rQS, rS_hold]; exact hz1))) (Nat.le_of_ble_eq_true rfl) pf_13_10 (st_thing_10 ag (by first | exact hz1 | (simp only [rIS, rJS, rAS, rLS, rVS, rQS, rS_hold]; exact hz1))) (mu_I _ _ _) ?_
  refine Bod.go dc_362_98 rfl ?_
  refine Bod.go dc_362_100 rfl ?_
  refine Bod.put dc_362_101 fr_362_472 (mk_thing ag (by first | exact hz1 | (simp only [rIS, rJS, rAS, rLS, rVS, rQS, rS_hold]; exact hz1))) (Nat.le_of_ble_eq_true rfl) pf_13_11 (st_thing_11 ag (by first | exact hz1 | (simp only [rIS, rJS, rAS, rLS, rVS, rQS, rS_hold]; exact hz1))) (mu_I _ _ _) ?_
  refine Bod.ic 0 (by decide) dc_362_104 ?_
  refine Bod.ist dc_362_105 (by rw [ml_362]; exact Nat.le_of_ble_eq_true rfl) ?_
  exact hB _ (by first | rfl | exact (by repeat (first | exact rfl | exact sm_get_p1 | exact sm_get_p2e | refine sm_get_p1m (by decide) (by decide) ?_ | refine sm_get_p1n (by decide) rfl ?_ | refine sm_get_p2n (by decide) (by decide) rfl ?_ | refine sm_get_p2m (by decide) (by decide) (by decide) ?_))) (by first | rfl | exact (by repeat (first | exact rfl | exact sm_get_p1 | exact sm_get_p2e | refine sm_get_p1m (by decide) (by decide) ?_ | refine sm_get_p1n (by decide) rfl ?_ | refine sm_get_p2n (by decide) (by decide) rfl ?_ | refine sm_get_p2m (by decide) (by decide) (by decide) ?_))) (by first | rfl | exact (by repeat (first | exact rfl | exact sm_get_p1 | exact sm_get_p2e | refine sm_get_p1m (by decide) (by decide) ?_ | refine sm_get_p1n (by decide) rfl ?_ | refine sm_get_p2n (by decide) (by decide) rfl ?_ | refine sm_get_p2m (by decide) (by decide) (by decide) ?_))) (by first | rfl | exact (by repeat (first | exact rfl | exact sm_get_p1 | exact sm_get_p2e | refine sm_get_p1m (by decide) (by decide) ?_ | refine sm_get_p1n (by decide) rfl ?_ | refine sm_get_p2n (by decide) (by decide) rfl ?_ | refine sm_get_p2m (by decide) (by decide) (by decide) ?_))) (by first | rfl | exact (by repeat (first | exact rfl | exact sm_get_p1 | exact sm_get_p2e | refine sm_get_p1m (by decide) (by decide) ?_ | refine sm_get_p1n (by decide) rfl ?_ | refine sm_get_p2n (by decide) (by decide) rfl ?_ | refine sm_get_p2m (by decide) (by decide) (by decide) ?_))) (by first | rfl | exact (by repeat (first | exact rfl | exact sm_get_p1 | exact sm_get_p2e | refine sm_get_p1m (by decide) (by decide) ?_ | refine sm_get_p1n (by decide) rfl ?_ | refine sm_get_p2n (by decide) (by decide) rfl ?_ | refine sm_get_p2m (by decide) (by decide) (by decide) ?_))) (by first | rfl | exact (by repeat (first | exact rfl | exact sm_get_p1 | exact sm_get_p2e | refine sm_get_p1m (by decide) (by decide) ?_ | refine sm_get_p1n (by decide) rfl ?_ | refine sm_get_p2n (by decide) (by decide) rfl ?_ | refine sm_get_p2m (by decide) (by decide) (by decide) ?_)))
theorem rMc_4 {d : Nat} {S : cS} {ws : Nat} {Nw : Nat} {pc : Nat} {e : Nat} {e1 : Nat} {t : Nat} {S1 : cS} {t1 : Nat} {o : Nat} {S2 : cS} (mpc : pc < 2 ^ 20) (hws : isK S ws 0 Nw) (mNw : Nw < 2 ^ 20) (b1 : (pc + 3) < Nw) (he : sA S ws (pc + 3) = nI e) (me : e < 2 ^ 20) (b2 : (pc + 2) < Nw) (he1 : sA S ws (pc + 2) = nI e1) (me1 : e1 < 2 ^ 20) (b3 : e1 = 1) (ht : sI S 6151 = nI t) (mt : t < 20481) (b4 : 1 ≤ t) (c1 : Ans (d + 8) 363 [.ref 61, .int (nI (t - 1)), .int (nI 4)] S (some (.int (nI 1))) S1) (ht1 : sI S1 6151 = nI t1) (mt1 : t1 < 20481) (b5 : 1 ≤ t1) (ho : (sL S1 92 (t1 - 1)).toInt32 = nI o) (mo : o < 1500) (c2 : Ans (d + 8) 364 [.ref 61, .int (nI 4)] S1 (some (.int (Int32.ofInt (-1)))) S2) : Bod (d + 8) 362 0 [(0, .ref 61), (1, .ref ws), (2, .int (nI pc))] [] S (some (.int 0)) (S2) := by
  refine Bod.go dc_362_0 rfl ?_
  refine Bod.istn dc_362_1 (by rw [ml_362]; exact Nat.le_of_ble_eq_true rfl) ?_
  refine Bod.go dc_362_2 rfl ?_
  refine Bod.go dc_362_3 rfl ?_
  refine Bod.ic 3 (by decide) dc_362_4 ?_
  refine Bod.addN (pc + 3) (by omega) dc_362_5 ?_
  refine Bod.ialdN (N := Nw) (pc + 3) rfl (by omega) (by omega) dc_362_6 (mk_isI (by first | exact hws | exact isK_S (by simp only [rIS, rJS, rAS, rLS, rVS, rQS, rS_hold]) hws)) ?_
  refine Bod.eqI (nI e) (by first | assumption | rfl | exact congrArg nI (by omega) | (simp (disch := omega) only [rI, rIe, rA, rIA, rLA, rJA, rVI, rQI, rVA, rQA, upd_at,  rAI, rLI, rJI, nI_add, pk_sub, kc_0, kc_1, kc_2, kc_3, kc_4, kc_5, reduceIte, Nat.reduceEqDiff, Nat.add_zero, rI_hold, rI_hold, rL_hold, he]; done)) ?_
  refine Bod.ist dc_362_7 (by rw [ml_362]; exact Nat.le_of_ble_eq_true rfl) ?_
  refine Bod.go dc_362_9 rfl ?_
  refine Bod.go dc_362_10 rfl ?_
  refine Bod.ic 2 (by decide) dc_362_11 ?_
  refine Bod.addN (pc + 2) (by omega) dc_362_12 ?_
  refine Bod.ialdN (N := Nw) (pc + 2) rfl (by omega) (by omega) dc_362_13 (mk_isI (by first | exact hws | exact isK_S (by simp only [rIS, rJS, rAS, rLS, rVS, rQS, rS_hold]) hws)) ?_
  refine Bod.eqI (nI e1) (by first | assumption | rfl | exact congrArg nI (by omega) | (simp (disch := omega) only [rI, rIe, rA, rIA, rLA, rJA, rVI, rQI, rVA, rQA, upd_at,  rAI, rLI, rJI, nI_add, pk_sub, kc_0, kc_1, kc_2, kc_3, kc_4, kc_5, reduceIte, Nat.reduceEqDiff, Nat.add_zero, rI_hold, rI_hold, rL_hold, he, he1]; done)) ?_
  refine Bod.ic 1 (by decide) dc_362_14 ?_
  refine Bod.icF dc_362_15 rfl (k2_ne_F (k_eq e1 1 rfl rfl (by omega))) ?_
  refine Bod.go dc_362_18 rfl ?_
  refine Bod.go dc_362_19 rfl ?_
  refine Bod.get dc_362_20 fr_362_493 (mk_61 _) rfl ?_
  refine Bod.eqI (nI t) (by first | assumption | rfl | exact congrArg nI (by omega) | (simp (disch := omega) only [rI, rIe, rA, rIA, rLA, rJA, rVI, rQI, rVA, rQA, upd_at,  rAI, rLI, rJI, nI_add, pk_sub, kc_0, kc_1, kc_2, kc_3, kc_4, kc_5, reduceIte, Nat.reduceEqDiff, Nat.add_zero, rI_hold, rI_hold, rL_hold, he, he1, ht]; done)) ?_
  refine Bod.ic 1 (by decide) dc_362_23 ?_
  refine Bod.subN (t - 1) (by omega) (by omega) dc_362_24 ?_
  refine Bod.ic 4 (by decide) dc_362_25 ?_
  refine Bod.virt (r := []) dc_362_26 kr_362_683 ⟨Or.inl rfl, ow_363, cl_14⟩ (by rw [np_363]; rfl) (by rw [np_363]; rfl) (ob_of (mk_61 _)) (Nat.le_of_ble_eq_true rfl) (c1  ) ?_
  show Bod _ _ _ _ [_] _ _ _
  refine Bod.ifT dc_362_29 rfl (k1_ne_T (k_ne 1 0 rfl rfl (by omega) (by omega) (by omega))) ?_
  refine Bod.go dc_362_38 rfl ?_
  refine Bod.get dc_362_39 fr_362_499 (mk_61 _) rfl ?_
  refine Bod.go dc_362_42 rfl ?_
  refine Bod.get dc_362_43 fr_362_493 (mk_61 _) rfl ?_
  refine Bod.eqI (nI t1) (by first | assumption | (simp (disch := omega) only [rI, rIe, rA, rIA, rLA, rJA, rVI, rQI, rVA, rQA, upd_at,  rAI, rLI, rJI, nI_add, pk_sub, kc_0, kc_1, kc_2, kc_3, kc_4, kc_5, reduceIte, Nat.reduceEqDiff, Nat.add_zero, rI_hold, rI_hold, rL_hold, he, he1, ht, ht1]; done) | (simp (disch := omega) only [rI, rIe, rA, rIA, rLA, rJA, rVI, rQI, rVA, rQA, upd_at,  rAI, rLI, rJI, nI_add, pk_sub, kc_0, kc_1, kc_2, kc_3, kc_4, kc_5, reduceIte, Nat.reduceEqDiff, Nat.add_zero, rI_hold, rI_hold, rL_hold, he, he1, ht, ht1]; exact congrArg nI (by omega))) ?_
  refine Bod.ic 1 (by decide) dc_362_46 ?_
  refine Bod.subN (t1 - 1) (by omega) (by omega) dc_362_47 ?_
  refine Bod.laldN (t1 - 1) rfl (by omega) (by omega) dc_362_48 (mk_92 _) ?_
  refine Bod.go dc_362_49 rfl ?_
  refine Bod.eqI (nI o) (by first | exact ho | (simp only [rI, rIe, rA, rIA, rLA, rJA, rVI, rQI, rVA, rQA, upd_at,  rAI, rLI, rJI, nI_add, pk_sub, kc_0, kc_1, kc_2, kc_3, kc_4, kc_5, reduceIte, Nat.reduceEqDiff, Nat.add_zero, rI_hold, rI_hold, rL_hold]; exact ho)) ?_
  refine Bod.istn dc_362_50 (by rw [ml_362]; exact Nat.le_of_ble_eq_true rfl) ?_
  refine Bod.go dc_362_51 rfl ?_
  refine Bod.ic 4 (by decide) dc_362_52 ?_
  refine Bod.virt (r := []) dc_362_53 kr_362_686 ⟨Or.inl rfl, ow_364, cl_14⟩ (by rw [np_364]; rfl) (by rw [np_364]; rfl) (ob_of (mk_61 _)) (Nat.le_of_ble_eq_true rfl) (c2  ) ?_
  show Bod _ _ _ _ [_] _ _ _
  refine Bod.ist dc_362_56 (by rw [ml_362]; exact Nat.le_of_ble_eq_true rfl) ?_
  refine Bod.go dc_362_58 rfl ?_
  refine Bod.ifF dc_362_60 rfl (by decide) ?_
  refine Bod.ic 0 (by decide) dc_362_63 ?_
  exact Bod.retZ dc_362_64 rt_362 (Or.inl rfl)
theorem rMc_5 {d : Nat} {S : cS} {ws : Nat} {Nw : Nat} {pc : Nat} {e : Nat} {e1 : Nat} {t : Nat} {S1 : cS} {S2 : cS} (mpc : pc < 2 ^ 20) (hws : isK S ws 0 Nw) (mNw : Nw < 2 ^ 20) (b1 : (pc + 3) < Nw) (he : sA S ws (pc + 3) = nI e) (me : e < 2 ^ 20) (b2 : (pc + 2) < Nw) (he1 : sA S ws (pc + 2) = nI e1) (me1 : e1 < 2 ^ 20) (b3 : e1 = 1) (ht : sI S 6151 = nI t) (mt : t < 20481) (b4 : 1 ≤ t) (c1 : Ans (d + 8) 363 [.ref 61, .int (nI (t - 1)), .int (nI 4)] S (some (.int (nI 0))) S1) (c2 : Ans (d + 8) 351 [.ref 61, .int (nI 2)] S1 (some (.int (nI 0))) S2) : Bod (d + 8) 362 0 [(0, .ref 61), (1, .ref ws), (2, .int (nI pc))] [] S (some (.int 0)) (S2) := by
  refine Bod.go dc_362_0 rfl ?_
  refine Bod.istn dc_362_1 (by rw [ml_362]; exact Nat.le_of_ble_eq_true rfl) ?_
  refine Bod.go dc_362_2 rfl ?_
  refine Bod.go dc_362_3 rfl ?_
  refine Bod.ic 3 (by decide) dc_362_4 ?_
  refine Bod.addN (pc + 3) (by omega) dc_362_5 ?_
  refine Bod.ialdN (N := Nw) (pc + 3) rfl (by omega) (by omega) dc_362_6 (mk_isI (by first | exact hws | exact isK_S (by simp only [rIS, rJS, rAS, rLS, rVS, rQS, rS_hold]) hws)) ?_
  refine Bod.eqI (nI e) (by first | assumption | rfl | exact congrArg nI (by omega) | (simp (disch := omega) only [rI, rIe, rA, rIA, rLA, rJA, rVI, rQI, rVA, rQA, upd_at,  rAI, rLI, rJI, nI_add, pk_sub, kc_0, kc_1, kc_2, kc_3, kc_4, kc_5, reduceIte, Nat.reduceEqDiff, Nat.add_zero, rI_hold, rI_hold, rL_hold, he]; done)) ?_
  refine Bod.ist dc_362_7 (by rw [ml_362]; exact Nat.le_of_ble_eq_true rfl) ?_
  refine Bod.go dc_362_9 rfl ?_
  refine Bod.go dc_362_10 rfl ?_
  refine Bod.ic 2 (by decide) dc_362_11 ?_
  refine Bod.addN (pc + 2) (by omega) dc_362_12 ?_
  refine Bod.ialdN (N := Nw) (pc + 2) rfl (by omega) (by omega) dc_362_13 (mk_isI (by first | exact hws | exact isK_S (by simp only [rIS, rJS, rAS, rLS, rVS, rQS, rS_hold]) hws)) ?_
  refine Bod.eqI (nI e1) (by first | assumption | rfl | exact congrArg nI (by omega) | (simp (disch := omega) only [rI, rIe, rA, rIA, rLA, rJA, rVI, rQI, rVA, rQA, upd_at,  rAI, rLI, rJI, nI_add, pk_sub, kc_0, kc_1, kc_2, kc_3, kc_4, kc_5, reduceIte, Nat.reduceEqDiff, Nat.add_zero, rI_hold, rI_hold, rL_hold, he, he1]; done)) ?_
  refine Bod.ic 1 (by decide) dc_362_14 ?_
  refine Bod.icF dc_362_15 rfl (k2_ne_F (k_eq e1 1 rfl rfl (by omega))) ?_
  refine Bod.go dc_362_18 rfl ?_
  refine Bod.go dc_362_19 rfl ?_
  refine Bod.get dc_362_20 fr_362_493 (mk_61 _) rfl ?_
  refine Bod.eqI (nI t) (by first | assumption | rfl | exact congrArg nI (by omega) | (simp (disch := omega) only [rI, rIe, rA, rIA, rLA, rJA, rVI, rQI, rVA, rQA, upd_at,  rAI, rLI, rJI, nI_add, pk_sub, kc_0, kc_1, kc_2, kc_3, kc_4, kc_5, reduceIte, Nat.reduceEqDiff, Nat.add_zero, rI_hold, rI_hold, rL_hold, he, he1, ht]; done)) ?_
  refine Bod.ic 1 (by decide) dc_362_23 ?_
  refine Bod.subN (t - 1) (by omega) (by omega) dc_362_24 ?_
  refine Bod.ic 4 (by decide) dc_362_25 ?_
  refine Bod.virt (r := []) dc_362_26 kr_362_683 ⟨Or.inl rfl, ow_363, cl_14⟩ (by rw [np_363]; rfl) (by rw [np_363]; rfl) (ob_of (mk_61 _)) (Nat.le_of_ble_eq_true rfl) (c1  ) ?_
  show Bod _ _ _ _ [_] _ _ _
  refine Bod.ifF dc_362_29 rfl (k1_ne_F (k_eq 0 0 rfl rfl (by omega))) ?_
  refine Bod.go dc_362_32 rfl ?_
  refine Bod.ic 2 (by decide) dc_362_33 ?_
  refine Bod.virt (r := []) dc_362_34 kr_362_608 ⟨Or.inl rfl, ow_351, cl_14⟩ (by rw [np_351]; rfl) (by rw [np_351]; rfl) (ob_of (mk_61 _)) (Nat.le_of_ble_eq_true rfl) (c2  ) ?_
  show Bod _ _ _ _ [_] _ _ _
  exact Bod.retZ dc_362_37 rt_362 (Or.inl rfl)
theorem rMcL_1 {d : Nat} {S : cS} {lv : sm_L} {ws : Nat} {Nw : Nat} {g : Nat} {zg : Nat} {pc : Nat} {nn : Nat} {cc : Nat} {ni : Nat} {t : Nat} {S1 : cS} (q0 : sm_get lv 0 = some (.ref 61)) (q1 : sm_get lv 1 = some (.ref ws)) (q2 : sm_get lv 2 = some (.int (nI pc))) (q4 : sm_get lv 4 = some (.int (nI nn))) (q5 : sm_get lv 5 = some (.int (nI cc))) (q6 : sm_get lv 6 = some (.ref g)) (q7 : sm_get lv 7 = some (.int (nI ni))) (mpc : pc < 2 ^ 20) (mnn : nn < 2 ^ 20) (mcc : cc < 2 ^ 20) (mni : ni < 2 ^ 20) (hws : isK S ws 0 Nw) (mNw : Nw < 2 ^ 20) (ag : 108 ≤ g) (b1 : nn ≤ ni) (ht : sI S 6151 = nI t) (mt : t < 20481) (b2 : nn ≤ t) (c1 : Ans (d + 8) 352 [.ref 61, .int (nI 3), .long ((nI cc).toInt64), .long 0] (wI 6151 (nI (t - nn)) S) none S1) : Bod (d + 8) 362 107 lv [] S (some (.int 1)) (S1) := by
  refine Bod.ildG dc_362_107 (by repeat (first | exact q7 | exact sm_get_p1 | exact sm_get_p2e | refine sm_get_p1m (by decide) (by decide) ?_ | refine sm_get_p1n (by decide) rfl ?_ | refine sm_get_p2n (by decide) (by decide) rfl ?_ | refine sm_get_p2m (by decide) (by decide) (by decide) ?_)) ?_
  refine Bod.ildG dc_362_109 (by repeat (first | exact q4 | exact sm_get_p1 | exact sm_get_p2e | refine sm_get_p1m (by decide) (by decide) ?_ | refine sm_get_p1n (by decide) rfl ?_ | refine sm_get_p2n (by decide) (by decide) rfl ?_ | refine sm_get_p2m (by decide) (by decide) (by decide) ?_)) ?_
  refine Bod.icT dc_362_111 rfl (k2_ge_T ni nn rfl rfl (by omega) (by omega)) ?_
  refine Bod.aldnG dc_362_176 (by repeat (first | exact q0 | exact sm_get_p1 | exact sm_get_p2e | refine sm_get_p1m (by decide) (by decide) ?_ | refine sm_get_p1n (by decide) rfl ?_ | refine sm_get_p2n (by decide) (by decide) rfl ?_ | refine sm_get_p2m (by decide) (by decide) (by decide) ?_)) ?_
  refine Bod.go dc_362_177 rfl ?_
  refine Bod.get dc_362_178 fr_362_493 (mk_61 _) rfl ?_
  refine Bod.eqI (nI t) (by first | assumption | rfl | exact congrArg nI (by omega) | (simp (disch := omega) only [rI, rIe, rA, rIA, rLA, rJA, rVI, rQI, rVA, rQA, upd_at,  rAI, rLI, rJI, nI_add, pk_sub, kc_0, kc_1, kc_2, kc_3, kc_4, kc_5, reduceIte, Nat.reduceEqDiff, Nat.add_zero, rI_hold, rI_hold, rL_hold, ht]; done)) ?_
  refine Bod.ildG dc_362_181 (by repeat (first | exact q4 | exact sm_get_p1 | exact sm_get_p2e | refine sm_get_p1m (by decide) (by decide) ?_ | refine sm_get_p1n (by decide) rfl ?_ | refine sm_get_p2n (by decide) (by decide) rfl ?_ | refine sm_get_p2m (by decide) (by decide) (by decide) ?_)) ?_
  refine Bod.subN (t - nn) (by omega) (by omega) dc_362_183 ?_
  refine Bod.put dc_362_184 fr_362_493 (mk_61 _) (Nat.le_of_ble_eq_true rfl) pf_14_51 (st_6151 _ _) (mu_I _ _ _) ?_
  refine Bod.aldnG dc_362_187 (by repeat (first | exact q0 | exact sm_get_p1 | exact sm_get_p2e | refine sm_get_p1m (by decide) (by decide) ?_ | refine sm_get_p1n (by decide) rfl ?_ | refine sm_get_p2n (by decide) (by decide) rfl ?_ | refine sm_get_p2m (by decide) (by decide) (by decide) ?_)) ?_
  refine Bod.ic 3 (by decide) dc_362_188 ?_
  refine Bod.ildG dc_362_189 (by repeat (first | exact q5 | exact sm_get_p1 | exact sm_get_p2e | refine sm_get_p1m (by decide) (by decide) ?_ | refine sm_get_p1n (by decide) rfl ?_ | refine sm_get_p2n (by decide) (by decide) rfl ?_ | refine sm_get_p2m (by decide) (by decide) (by decide) ?_)) ?_
  refine Bod.go dc_362_191 rfl ?_
  refine Bod.go dc_362_192 rfl ?_
  refine Bod.virt (r := []) dc_362_193 kr_362_549 ⟨Or.inl rfl, ow_352, cl_14⟩ (by rw [np_352]; rfl) (by rw [np_352]; rfl) (ob_of (mk_61 _)) (Nat.le_of_ble_eq_true rfl) (c1  ) ?_
  show Bod _ _ _ _ [] _ _ _
  refine Bod.ic 1 (by decide) dc_362_196 ?_
  exact Bod.retZ dc_362_197 rt_362 (Or.inr rfl)
theorem rMcL_2 {d : Nat} {S Sf : cS} {v : Option Value} {lv : sm_L} {ws : Nat} {Nw : Nat} {g : Nat} {zg : Nat} {pc : Nat} {nn : Nat} {cc : Nat} {ni : Nat} {t : Nat} {e91 : Nat} {S1 : cS} {e : Nat} {S2 : cS} (q0 : sm_get lv 0 = some (.ref 61)) (q1 : sm_get lv 1 = some (.ref ws)) (q2 : sm_get lv 2 = some (.int (nI pc))) (q4 : sm_get lv 4 = some (.int (nI nn))) (q5 : sm_get lv 5 = some (.int (nI cc))) (q6 : sm_get lv 6 = some (.ref g)) (q7 : sm_get lv 7 = some (.int (nI ni))) (mpc : pc < 2 ^ 20) (mnn : nn < 2 ^ 20) (mcc : cc < 2 ^ 20) (mni : ni < 2 ^ 20) (hws : isK S ws 0 Nw) (mNw : Nw < 2 ^ 20) (ag : 108 ≤ g) (b1 : ni < nn) (ht : sI S 6151 = nI t) (mt : t < 20481) (b2 : nn ≤ t) (b3 : t + ni - nn < 20480) (he91 : sA S 91 (t + ni - nn) = nI e91) (me91 : e91 < 2 ^ 20) (c1 : Ans (d + 8) 375 [.ref g, .int (nI e91), .long (sL S 92 (t + ni - nn)), .long (sL S 93 (t + ni - nn))] S none S1) (hz1 : (sS S)[g - 108]? = some (13, zg)) (b4 : (pc + ni + 4) < Nw) (he : sA S1 ws (pc + ni + 4) = nI e) (me : e < 2 ^ 20) (hy2 : isK S1 ws 0 Nw) (c2 : Ans (d + 8) 377 [.ref g, .int (nI ni), .int (nI 0), .long ((nI e).toInt64), .long 0] S1 none S2) (hz2 : (sS S1)[g - 108]? = some (13, zg)) (hB : ∀ lv1 : sm_L, sm_get lv1 0 = some (.ref 61) → sm_get lv1 1 = some (.ref ws) → sm_get lv1 2 = some (.int (nI pc)) → sm_get lv1 4 = some (.int (nI nn)) → sm_get lv1 5 = some (.int (nI cc)) → sm_get lv1 6 = some (.ref g) → sm_get lv1 7 = some (.int (nI (ni + 1))) → Bod (d + 8) 362 107 lv1 [] (S2) v Sf) : Bod (d + 8) 362 107 lv [] S v Sf := by
  refine Bod.ildG dc_362_107 (by repeat (first | exact q7 | exact sm_get_p1 | exact sm_get_p2e | refine sm_get_p1m (by decide) (by decide) ?_ | refine sm_get_p1n (by decide) rfl ?_ | refine sm_get_p2n (by decide) (by decide) rfl ?_ | refine sm_get_p2m (by decide) (by decide) (by decide) ?_)) ?_
  refine Bod.ildG dc_362_109 (by repeat (first | exact q4 | exact sm_get_p1 | exact sm_get_p2e | refine sm_get_p1m (by decide) (by decide) ?_ | refine sm_get_p1n (by decide) rfl ?_ | refine sm_get_p2n (by decide) (by decide) rfl ?_ | refine sm_get_p2m (by decide) (by decide) (by decide) ?_)) ?_
  refine Bod.icF dc_362_111 rfl (k2_ge_F ni nn rfl rfl (by omega) (by omega)) ?_
  refine Bod.aldnG dc_362_114 (by repeat (first | exact q0 | exact sm_get_p1 | exact sm_get_p2e | refine sm_get_p1m (by decide) (by decide) ?_ | refine sm_get_p1n (by decide) rfl ?_ | refine sm_get_p2n (by decide) (by decide) rfl ?_ | refine sm_get_p2m (by decide) (by decide) (by decide) ?_)) ?_
  refine Bod.get dc_362_115 fr_362_493 (mk_61 _) rfl ?_
  refine Bod.eqI (nI t) (by first | assumption | rfl | exact congrArg nI (by omega) | (simp (disch := omega) only [rI, rIe, rA, rIA, rLA, rJA, rVI, rQI, rVA, rQA, upd_at,  rAI, rLI, rJI, nI_add, pk_sub, kc_0, kc_1, kc_2, kc_3, kc_4, kc_5, reduceIte, Nat.reduceEqDiff, Nat.add_zero, rI_hold, rI_hold, rL_hold, ht]; done)) ?_
  refine Bod.ildG dc_362_118 (by repeat (first | exact q4 | exact sm_get_p1 | exact sm_get_p2e | refine sm_get_p1m (by decide) (by decide) ?_ | refine sm_get_p1n (by decide) rfl ?_ | refine sm_get_p2n (by decide) (by decide) rfl ?_ | refine sm_get_p2m (by decide) (by decide) (by decide) ?_)) ?_
  refine Bod.subN (t - nn) (by omega) (by omega) dc_362_120 ?_
  refine Bod.ildG dc_362_121 (by repeat (first | exact q7 | exact sm_get_p1 | exact sm_get_p2e | refine sm_get_p1m (by decide) (by decide) ?_ | refine sm_get_p1n (by decide) rfl ?_ | refine sm_get_p2n (by decide) (by decide) rfl ?_ | refine sm_get_p2m (by decide) (by decide) (by decide) ?_)) ?_
  refine Bod.addN (t + ni - nn) (by omega) dc_362_123 ?_
  refine Bod.ist dc_362_124 (by rw [ml_362]; exact Nat.le_of_ble_eq_true rfl) ?_
  refine Bod.aldG dc_362_126 (by repeat (first | exact q6 | exact sm_get_p1 | exact sm_get_p2e | refine sm_get_p1m (by decide) (by decide) ?_ | refine sm_get_p1n (by decide) rfl ?_ | refine sm_get_p2n (by decide) (by decide) rfl ?_ | refine sm_get_p2m (by decide) (by decide) (by decide) ?_)) ?_
  refine Bod.aldnG dc_362_128 (by repeat (first | exact q0 | exact sm_get_p1 | exact sm_get_p2e | refine sm_get_p1m (by decide) (by decide) ?_ | refine sm_get_p1n (by decide) rfl ?_ | refine sm_get_p2n (by decide) (by decide) rfl ?_ | refine sm_get_p2m (by decide) (by decide) (by decide) ?_)) ?_
  refine Bod.get dc_362_129 fr_362_496 (mk_61 _) rfl ?_
  refine Bod.ildG dc_362_132 (by repeat (first | exact q0 | exact sm_get_p1 | exact sm_get_p2e | refine sm_get_p1m (by decide) (by decide) ?_ | refine sm_get_p1n (by decide) rfl ?_ | refine sm_get_p2n (by decide) (by decide) rfl ?_ | refine sm_get_p2m (by decide) (by decide) (by decide) ?_)) ?_
  refine Bod.ialdN (t + ni - nn) rfl (by omega) (by omega) dc_362_134 (mk_91 _) ?_
  refine Bod.eqI (nI e91) (by first | assumption | rfl | exact congrArg nI (by omega) | (simp (disch := omega) only [rI, rIe, rA, rIA, rLA, rJA, rVI, rQI, rVA, rQA, upd_at,  rAI, rLI, rJI, nI_add, pk_sub, kc_0, kc_1, kc_2, kc_3, kc_4, kc_5, reduceIte, Nat.reduceEqDiff, Nat.add_zero, rI_hold, rI_hold, rL_hold, ht, he91]; done)) ?_
  refine Bod.aldnG dc_362_135 (by repeat (first | exact q0 | exact sm_get_p1 | exact sm_get_p2e | refine sm_get_p1m (by decide) (by decide) ?_ | refine sm_get_p1n (by decide) rfl ?_ | refine sm_get_p2n (by decide) (by decide) rfl ?_ | refine sm_get_p2m (by decide) (by decide) (by decide) ?_)) ?_
  refine Bod.get dc_362_136 fr_362_499 (mk_61 _) rfl ?_
  refine Bod.ildG dc_362_139 (by repeat (first | exact q0 | exact sm_get_p1 | exact sm_get_p2e | refine sm_get_p1m (by decide) (by decide) ?_ | refine sm_get_p1n (by decide) rfl ?_ | refine sm_get_p2n (by decide) (by decide) rfl ?_ | refine sm_get_p2m (by decide) (by decide) (by decide) ?_)) ?_
  refine Bod.laldN (t + ni - nn) rfl (by omega) (by omega) dc_362_141 (mk_92 _) ?_
  refine Bod.aldnG dc_362_142 (by repeat (first | exact q0 | exact sm_get_p1 | exact sm_get_p2e | refine sm_get_p1m (by decide) (by decide) ?_ | refine sm_get_p1n (by decide) rfl ?_ | refine sm_get_p2n (by decide) (by decide) rfl ?_ | refine sm_get_p2m (by decide) (by decide) (by decide) ?_)) ?_
  refine Bod.get dc_362_143 fr_362_546 (mk_61 _) rfl ?_
  refine Bod.ildG dc_362_146 (by repeat (first | exact q0 | exact sm_get_p1 | exact sm_get_p2e | refine sm_get_p1m (by decide) (by decide) ?_ | refine sm_get_p1n (by decide) rfl ?_ | refine sm_get_p2n (by decide) (by decide) rfl ?_ | refine sm_get_p2m (by decide) (by decide) (by decide) ?_)) ?_
  refine Bod.laldN (t + ni - nn) rfl (by omega) (by omega) dc_362_148 (mk_93 _) ?_
  refine Bod.virt (r := []) dc_362_149 kr_362_759 ⟨Or.inl rfl, ow_375, cl_13⟩ (by rw [np_375]; rfl) (by rw [np_375]; rfl) (ob_of (mk_thing ag (by first | exact hz1 | (simp only [rIS, rJS, rAS, rLS, rVS, rQS, rS_hold]; exact hz1)))) (Nat.le_of_ble_eq_true rfl) (c1  ) ?_
  show Bod _ _ _ _ [] _ _ _
  refine Bod.aldG dc_362_152 (by repeat (first | exact q6 | exact sm_get_p1 | exact sm_get_p2e | refine sm_get_p1m (by decide) (by decide) ?_ | refine sm_get_p1n (by decide) rfl ?_ | refine sm_get_p2n (by decide) (by decide) rfl ?_ | refine sm_get_p2m (by decide) (by decide) (by decide) ?_)) ?_
  refine Bod.ildG dc_362_154 (by repeat (first | exact q7 | exact sm_get_p1 | exact sm_get_p2e | refine sm_get_p1m (by decide) (by decide) ?_ | refine sm_get_p1n (by decide) rfl ?_ | refine sm_get_p2n (by decide) (by decide) rfl ?_ | refine sm_get_p2m (by decide) (by decide) (by decide) ?_)) ?_
  refine Bod.ic 0 (by decide) dc_362_156 ?_
  refine Bod.aldnG dc_362_157 (by repeat (first | exact q1 | exact sm_get_p1 | exact sm_get_p2e | refine sm_get_p1m (by decide) (by decide) ?_ | refine sm_get_p1n (by decide) rfl ?_ | refine sm_get_p2n (by decide) (by decide) rfl ?_ | refine sm_get_p2m (by decide) (by decide) (by decide) ?_)) ?_
  refine Bod.ildnG dc_362_158 (by repeat (first | exact q2 | exact sm_get_p1 | exact sm_get_p2e | refine sm_get_p1m (by decide) (by decide) ?_ | refine sm_get_p1n (by decide) rfl ?_ | refine sm_get_p2n (by decide) (by decide) rfl ?_ | refine sm_get_p2m (by decide) (by decide) (by decide) ?_)) ?_
  refine Bod.ic 4 (by decide) dc_362_159 ?_
  refine Bod.addN (pc + 4) (by omega) dc_362_160 ?_
  refine Bod.ildG dc_362_161 (by repeat (first | exact q7 | exact sm_get_p1 | exact sm_get_p2e | refine sm_get_p1m (by decide) (by decide) ?_ | refine sm_get_p1n (by decide) rfl ?_ | refine sm_get_p2n (by decide) (by decide) rfl ?_ | refine sm_get_p2m (by decide) (by decide) (by decide) ?_)) ?_
  refine Bod.addN (pc + ni + 4) (by omega) dc_362_163 ?_
  refine Bod.ialdN (N := Nw) (pc + ni + 4) rfl (by omega) (by omega) dc_362_164 (mk_isI (by first | exact hy2 | exact isK_S (by simp only [rIS, rJS, rAS, rLS, rVS, rQS, rS_hold]) hy2)) ?_
  refine Bod.eqI (nI e) (by first | assumption | (simp (disch := omega) only [rI, rIe, rA, rIA, rLA, rJA, rVI, rQI, rVA, rQA, upd_at,  rAI, rLI, rJI, nI_add, pk_sub, kc_0, kc_1, kc_2, kc_3, kc_4, kc_5, reduceIte, Nat.reduceEqDiff, Nat.add_zero, rI_hold, rI_hold, rL_hold, ht, he91, he]; done) | (simp (disch := omega) only [rI, rIe, rA, rIA, rLA, rJA, rVI, rQI, rVA, rQA, upd_at,  rAI, rLI, rJI, nI_add, pk_sub, kc_0, kc_1, kc_2, kc_3, kc_4, kc_5, reduceIte, Nat.reduceEqDiff, Nat.add_zero, rI_hold, rI_hold, rL_hold, ht, he91, he]; exact congrArg nI (by omega))) ?_
  refine Bod.go dc_362_165 rfl ?_
  refine Bod.go dc_362_166 rfl ?_
  refine Bod.virt (r := []) dc_362_167 kr_362_771 ⟨Or.inl rfl, ow_377, cl_13⟩ (by rw [np_377]; rfl) (by rw [np_377]; rfl) (ob_of (mk_thing ag (by first | exact hz2 | (simp only [rIS, rJS, rAS, rLS, rVS, rQS, rS_hold]; exact hz2)))) (Nat.le_of_ble_eq_true rfl) (c2  ) ?_
  show Bod _ _ _ _ [] _ _ _
  refine Bod.incN (ni + 1) (by rw [kc_1, nI_add]) dc_362_170 (by rw [ml_362]; exact Nat.le_of_ble_eq_true rfl) (by repeat (first | exact q7 | exact sm_get_p1 | exact sm_get_p2e | refine sm_get_p1m (by decide) (by decide) ?_ | refine sm_get_p1n (by decide) rfl ?_ | refine sm_get_p2n (by decide) (by decide) rfl ?_ | refine sm_get_p2m (by decide) (by decide) (by decide) ?_)) ?_
  refine Bod.go dc_362_173 rfl ?_
  exact hB _ (by repeat (first | exact q0 | exact sm_get_p1 | exact sm_get_p2e | refine sm_get_p1m (by decide) (by decide) ?_ | refine sm_get_p1n (by decide) rfl ?_ | refine sm_get_p2n (by decide) (by decide) rfl ?_ | refine sm_get_p2m (by decide) (by decide) (by decide) ?_)) (by repeat (first | exact q1 | exact sm_get_p1 | exact sm_get_p2e | refine sm_get_p1m (by decide) (by decide) ?_ | refine sm_get_p1n (by decide) rfl ?_ | refine sm_get_p2n (by decide) (by decide) rfl ?_ | refine sm_get_p2m (by decide) (by decide) (by decide) ?_)) (by repeat (first | exact q2 | exact sm_get_p1 | exact sm_get_p2e | refine sm_get_p1m (by decide) (by decide) ?_ | refine sm_get_p1n (by decide) rfl ?_ | refine sm_get_p2n (by decide) (by decide) rfl ?_ | refine sm_get_p2m (by decide) (by decide) (by decide) ?_)) (by repeat (first | exact q4 | exact sm_get_p1 | exact sm_get_p2e | refine sm_get_p1m (by decide) (by decide) ?_ | refine sm_get_p1n (by decide) rfl ?_ | refine sm_get_p2n (by decide) (by decide) rfl ?_ | refine sm_get_p2m (by decide) (by decide) (by decide) ?_)) (by repeat (first | exact q5 | exact sm_get_p1 | exact sm_get_p2e | refine sm_get_p1m (by decide) (by decide) ?_ | refine sm_get_p1n (by decide) rfl ?_ | refine sm_get_p2n (by decide) (by decide) rfl ?_ | refine sm_get_p2m (by decide) (by decide) (by decide) ?_)) (by repeat (first | exact q6 | exact sm_get_p1 | exact sm_get_p2e | refine sm_get_p1m (by decide) (by decide) ?_ | refine sm_get_p1n (by decide) rfl ?_ | refine sm_get_p2n (by decide) (by decide) rfl ?_ | refine sm_get_p2m (by decide) (by decide) (by decide) ?_)) (by repeat (first | exact q0 | exact sm_get_p1 | exact sm_get_p2e | refine sm_get_p1m (by decide) (by decide) ?_ | refine sm_get_p1n (by decide) rfl ?_ | refine sm_get_p2n (by decide) (by decide) rfl ?_ | refine sm_get_p2m (by decide) (by decide) (by decide) ?_))
theorem rBgN_1 {d : Nat} {S Sf : cS} {v : Option Value} {fo : Nat} {ba : Nat} {nn : Nat} {mk : Nat} {g : Nat} {zg : Nat} {m : Nat} {zm : Nat} {r : Nat} {N : Nat} {fd9 : Nat} {e : Nat} {cl : Nat} {r1 : Nat} {N1 : Nat} {e1 : Nat} {S1 : cS} {a : Nat} {g1 : Nat} {zg1 : Nat} {fd11 : Nat} (mfo : fo < 2 ^ 20) (mba : ba < 2 ^ 20) (mnn : nn < 2 ^ 20) (mmk : mk < 2 ^ 20) (b1 : fo < 1500) (ag : 108 ≤ g) (hq2 : sQ S 86 fo = some g) (hz1 : (sS S)[g - 108]? = some (13, zg)) (am : 108 ≤ m) (hv1 : sV S (100 * g + 8) = .ref m) (hz2 : (sS S)[m - 108]? = some (12, zm)) (hv2 : sV S (100 * m + 9) = .ref r) (hg2 : isK S r 0 N) (mN : N < 2 ^ 20) (hfd9 : sI S (100 * g + 9) = nI fd9) (mfd9 : fd9 < 2 ^ 20) (b2 : fd9 < N) (he : sA S r fd9 = nI e) (me : e < 2 ^ 20) (b3 : nn = e) (hcl : sI S 6159 = nI cl) (mcl : cl < 32) (b4 : cl ≠ 31) (hv3 : sV S (100 * m + 10) = .ref r1) (hg3 : isK S r1 0 N1) (mN1 : N1 < 2 ^ 20) (b5 : fd9 < N1) (he1 : sA S r1 fd9 = nI e1) (me1 : e1 < 2 ^ 20) (b6 : e1 ≤ 300) (ma : a < 1500) (c1 : Ans (d + 8) 364 [.ref 61, .int (nI 7)] S (some (.int (nI a))) S1) (ag1 : 108 ≤ g1) (hq10 : sQ S1 86 a = some g1) (hz3 : (sS S1)[g - 108]? = some (13, zg)) (hfd11 : sI S1 (100 * g + 11) = nI fd11) (mfd11 : fd11 < 2 ^ 20) (hz4 : (sS S1)[g1 - 108]? = some (13, zg1)) (hB : ∀ lv1 : sm_L, sm_get lv1 0 = some (.ref 61) → sm_get lv1 2 = some (.int (nI ba)) → sm_get lv1 3 = some (.int (nI nn)) → sm_get lv1 4 = some (.int (Int32.ofInt (-1))) → sm_get lv1 5 = some (.int (nI mk)) → sm_get lv1 6 = some (.ref g) → sm_get lv1 7 = some (.int (nI nn)) → sm_get lv1 8 = some (.int (nI e1)) → sm_get lv1 9 = some (.int (nI a)) → sm_get lv1 10 = some (.ref g1) → sm_get lv1 11 = some (.int (nI 0)) → Bod (d + 8) 396 131 lv1 [] (wI (100 * g1 + 11) (nI fd11) S1) v Sf) : Bod (d + 8) 396 0 [(0, .ref 61), (1, .int (nI fo)), (2, .int (nI ba)), (3, .int (nI nn)), (4, .int (Int32.ofInt (-1))), (5, .int (nI mk))] [] S v Sf := by
  refine Bod.go dc_396_0 rfl ?_
  refine Bod.get dc_396_1 fr_396_485 (mk_61 _) rfl ?_
  refine Bod.go dc_396_4 rfl ?_
  refine Bod.aaldR (N := 1500) (b := g) fo rfl (by omega) (by omega) (by first | exact hq2 | (simp only [rIQ, rJQ, rAQ, rLQ, rVQ, rQ_holdE]; exact hq2)) dc_396_5 (mk_86 _) ht_5 ?_
  refine Bod.ast dc_396_6 (by rw [ml_396]; exact Nat.le_of_ble_eq_true rfl) ?_
  refine Bod.go dc_396_8 rfl ?_
  refine Bod.ifT dc_396_10 rfl (by decide) ?_
  refine Bod.go dc_396_19 rfl ?_
  refine Bod.ist dc_396_20 (by rw [ml_396]; exact Nat.le_of_ble_eq_true rfl) ?_
  refine Bod.go dc_396_22 rfl ?_
  refine Bod.go dc_396_24 rfl ?_
  refine Bod.get dc_396_26 fr_396_533 (mk_thing ag (by first | exact hz1 | (simp only [rIS, rJS, rAS, rLS, rVS, rQS, rS_hold]; exact hz1))) rfl ?_
  refine Bod.eqV (.ref m) (by first | exact hv1 | (simp only [rIV, rJV, rAV, rLV, rQV, rV, reduceIte, Nat.reduceEqDiff]; exact hv1)) ?_
  refine Bod.get dc_396_29 fr_396_373 (mk_code am (by first | exact hz2 | (simp only [rIS, rJS, rAS, rLS, rVS, rQS, rS_hold]; exact hz2))) rfl ?_
  refine Bod.eqV (.ref r) (by first | exact hv2 | (simp only [rIV, rJV, rAV, rLV, rQV, rV, reduceIte, Nat.reduceEqDiff]; exact hv2)) ?_
  refine Bod.go dc_396_32 rfl ?_
  refine Bod.get dc_396_34 fr_396_689 (mk_thing ag (by first | exact hz1 | (simp only [rIS, rJS, rAS, rLS, rVS, rQS, rS_hold]; exact hz1))) rfl ?_
  refine Bod.eqI (nI fd9) (by first | assumption | rfl | exact congrArg nI (by omega) | (simp (disch := omega) only [rI, rIe, rA, rIA, rLA, rJA, rVI, rQI, rVA, rQA, upd_at,  rAI, rLI, rJI, nI_add, pk_sub, kc_0, kc_1, kc_2, kc_3, kc_4, kc_5, reduceIte, Nat.reduceEqDiff, Nat.add_zero, rI_hold, rI_hold, rL_hold, hfd9]; done)) ?_
  refine Bod.ialdN (N := N) fd9 rfl (by omega) (by omega) dc_396_37 (mk_isI (by first | exact hg2 | exact isK_S (by simp only [rIS, rJS, rAS, rLS, rVS, rQS, rS_hold]) hg2)) ?_
  refine Bod.eqI (nI e) (by first | assumption | rfl | exact congrArg nI (by omega) | (simp (disch := omega) only [rI, rIe, rA, rIA, rLA, rJA, rVI, rQI, rVA, rQA, upd_at,  rAI, rLI, rJI, nI_add, pk_sub, kc_0, kc_1, kc_2, kc_3, kc_4, kc_5, reduceIte, Nat.reduceEqDiff, Nat.add_zero, rI_hold, rI_hold, rL_hold, hfd9, he]; done)) ?_
  refine Bod.icT dc_396_38 rfl (k2_eq_T (k_eq nn e rfl rfl (by omega))) ?_
  refine Bod.go dc_396_47 rfl ?_
  refine Bod.get dc_396_48 fr_396_502 (mk_61 _) rfl ?_
  refine Bod.eqI (nI cl) (by first | assumption | rfl | exact congrArg nI (by omega) | (simp (disch := omega) only [rI, rIe, rA, rIA, rLA, rJA, rVI, rQI, rVA, rQA, upd_at,  rAI, rLI, rJI, nI_add, pk_sub, kc_0, kc_1, kc_2, kc_3, kc_4, kc_5, reduceIte, Nat.reduceEqDiff, Nat.add_zero, rI_hold, rI_hold, rL_hold, hfd9, he, hcl]; done)) ?_
  refine Bod.bip 31 (by decide) dc_396_51 ?_
  refine Bod.icT dc_396_53 rfl (k2_ne_T (k_ne cl 31 rfl rfl (by omega) (by omega) (by omega))) ?_
  refine Bod.go dc_396_63 rfl ?_
  refine Bod.get dc_396_65 fr_396_533 (mk_thing ag (by first | exact hz1 | (simp only [rIS, rJS, rAS, rLS, rVS, rQS, rS_hold]; exact hz1))) rfl ?_
  refine Bod.eqV (.ref m) (by first | exact hv1 | (simp only [rIV, rJV, rAV, rLV, rQV, rV, reduceIte, Nat.reduceEqDiff]; exact hv1)) ?_
  refine Bod.get dc_396_68 fr_396_379 (mk_code am (by first | exact hz2 | (simp only [rIS, rJS, rAS, rLS, rVS, rQS, rS_hold]; exact hz2))) rfl ?_
  refine Bod.eqV (.ref r1) (by first | exact hv3 | (simp only [rIV, rJV, rAV, rLV, rQV, rV, reduceIte, Nat.reduceEqDiff]; exact hv3)) ?_
  refine Bod.go dc_396_71 rfl ?_
  refine Bod.get dc_396_73 fr_396_689 (mk_thing ag (by first | exact hz1 | (simp only [rIS, rJS, rAS, rLS, rVS, rQS, rS_hold]; exact hz1))) rfl ?_
  refine Bod.eqI (nI fd9) (by first | assumption | rfl | exact congrArg nI (by omega) | (simp (disch := omega) only [rI, rIe, rA, rIA, rLA, rJA, rVI, rQI, rVA, rQA, upd_at,  rAI, rLI, rJI, nI_add, pk_sub, kc_0, kc_1, kc_2, kc_3, kc_4, kc_5, reduceIte, Nat.reduceEqDiff, Nat.add_zero, rI_hold, rI_hold, rL_hold, hfd9, he, hcl]; done)) ?_
  refine Bod.ialdN (N := N1) fd9 rfl (by omega) (by omega) dc_396_76 (mk_isI (by first | exact hg3 | exact isK_S (by simp only [rIS, rJS, rAS, rLS, rVS, rQS, rS_hold]) hg3)) ?_
  refine Bod.eqI (nI e1) (by first | assumption | rfl | exact congrArg nI (by omega) | (simp (disch := omega) only [rI, rIe, rA, rIA, rLA, rJA, rVI, rQI, rVA, rQA, upd_at,  rAI, rLI, rJI, nI_add, pk_sub, kc_0, kc_1, kc_2, kc_3, kc_4, kc_5, reduceIte, Nat.reduceEqDiff, Nat.add_zero, rI_hold, rI_hold, rL_hold, hfd9, he, hcl, he1]; done)) ?_
  refine Bod.ist dc_396_77 (by rw [ml_396]; exact Nat.le_of_ble_eq_true rfl) ?_
  refine Bod.go dc_396_79 rfl ?_
  refine Bod.sip 300 (by decide) dc_396_81 ?_
  refine Bod.icT dc_396_84 rfl (k2_le_T e1 300 rfl rfl (by omega) (by omega)) ?_
  refine Bod.go dc_396_94 rfl ?_
  refine Bod.bip 7 (by decide) dc_396_95 ?_
  refine Bod.virt (r := []) dc_396_97 kr_396_686 ⟨Or.inl rfl, ow_364, cl_14⟩ (by rw [np_364]; rfl) (by rw [np_364]; rfl) (ob_of (mk_61 _)) (Nat.le_of_ble_eq_true rfl) (c1  ) ?_
  show Bod _ _ _ _ [_] _ _ _
  refine Bod.ist dc_396_100 (by rw [ml_396]; exact Nat.le_of_ble_eq_true rfl) ?_
  refine Bod.go dc_396_102 rfl ?_
  refine Bod.ifT dc_396_104 rfl (k1_ge_T a rfl (by omega)) ?_
  refine Bod.go dc_396_109 rfl ?_
  refine Bod.get dc_396_110 fr_396_485 (mk_61 _) rfl ?_
  refine Bod.go dc_396_113 rfl ?_
  refine Bod.aaldR (N := 1500) (b := g1) a rfl (by omega) (by omega) (by first | exact hq10 | (simp only [rIQ, rJQ, rAQ, rLQ, rVQ, rQ_holdE]; exact hq10)) dc_396_115 (mk_86 _) ht_5 ?_
  refine Bod.ast dc_396_116 (by rw [ml_396]; exact Nat.le_of_ble_eq_true rfl) ?_
  refine Bod.go dc_396_118 rfl ?_
  refine Bod.go dc_396_120 rfl ?_
  refine Bod.get dc_396_122 fr_396_472 (mk_thing ag (by first | exact hz3 | (simp only [rIS, rJS, rAS, rLS, rVS, rQS, rS_hold]; exact hz3))) rfl ?_
  refine Bod.eqI (nI fd11) (by first | assumption | (simp (disch := omega) only [rI, rIe, rA, rIA, rLA, rJA, rVI, rQI, rVA, rQA, upd_at,  rAI, rLI, rJI, nI_add, pk_sub, kc_0, kc_1, kc_2, kc_3, kc_4, kc_5, reduceIte, Nat.reduceEqDiff, Nat.add_zero, rI_hold, rI_hold, rL_hold, hfd9, he, hcl, he1, hfd11]; done) | (simp (disch := omega) only [rI, rIe, rA, rIA, rLA, rJA, rVI, rQI, rVA, rQA, upd_at,  rAI, rLI, rJI, nI_add, pk_sub, kc_0, kc_1, kc_2, kc_3, kc_4, kc_5, reduceIte, Nat.reduceEqDiff, Nat.add_zero, rI_hold, rI_hold, rL_hold, hfd9, he, hcl, he1, hfd11]; exact congrArg nI (by omega))) ?_
  refine Bod.put dc_396_125 fr_396_472 (mk_thing ag1 (by first | exact hz4 | (simp only [rIS, rJS, rAS, rLS, rVS, rQS, rS_hold]; exact hz4))) (Nat.le_of_ble_eq_true rfl) pf_13_11 (st_thing_11 ag1 (by first | exact hz4 | (simp only [rIS, rJS, rAS, rLS, rVS, rQS, rS_hold]; exact hz4))) (mu_I _ _ _) ?_
  refine Bod.ic 0 (by decide) dc_396_128 ?_
  refine Bod.ist dc_396_129 (by rw [ml_396]; exact Nat.le_of_ble_eq_true rfl) ?_
  exact hB _ (by first | rfl | exact (by repeat (first | exact rfl | exact sm_get_p1 | exact sm_get_p2e | refine sm_get_p1m (by decide) (by decide) ?_ | refine sm_get_p1n (by decide) rfl ?_ | refine sm_get_p2n (by decide) (by decide) rfl ?_ | refine sm_get_p2m (by decide) (by decide) (by decide) ?_))) (by first | rfl | exact (by repeat (first | exact rfl | exact sm_get_p1 | exact sm_get_p2e | refine sm_get_p1m (by decide) (by decide) ?_ | refine sm_get_p1n (by decide) rfl ?_ | refine sm_get_p2n (by decide) (by decide) rfl ?_ | refine sm_get_p2m (by decide) (by decide) (by decide) ?_))) (by first | rfl | exact (by repeat (first | exact rfl | exact sm_get_p1 | exact sm_get_p2e | refine sm_get_p1m (by decide) (by decide) ?_ | refine sm_get_p1n (by decide) rfl ?_ | refine sm_get_p2n (by decide) (by decide) rfl ?_ | refine sm_get_p2m (by decide) (by decide) (by decide) ?_))) (by first | rfl | exact (by repeat (first | exact rfl | exact sm_get_p1 | exact sm_get_p2e | refine sm_get_p1m (by decide) (by decide) ?_ | refine sm_get_p1n (by decide) rfl ?_ | refine sm_get_p2n (by decide) (by decide) rfl ?_ | refine sm_get_p2m (by decide) (by decide) (by decide) ?_))) (by first | rfl | exact (by repeat (first | exact rfl | exact sm_get_p1 | exact sm_get_p2e | refine sm_get_p1m (by decide) (by decide) ?_ | refine sm_get_p1n (by decide) rfl ?_ | refine sm_get_p2n (by decide) (by decide) rfl ?_ | refine sm_get_p2m (by decide) (by decide) (by decide) ?_))) (by first | rfl | exact (by repeat (first | exact rfl | exact sm_get_p1 | exact sm_get_p2e | refine sm_get_p1m (by decide) (by decide) ?_ | refine sm_get_p1n (by decide) rfl ?_ | refine sm_get_p2n (by decide) (by decide) rfl ?_ | refine sm_get_p2m (by decide) (by decide) (by decide) ?_))) (by first | rfl | exact (by repeat (first | exact rfl | exact sm_get_p1 | exact sm_get_p2e | refine sm_get_p1m (by decide) (by decide) ?_ | refine sm_get_p1n (by decide) rfl ?_ | refine sm_get_p2n (by decide) (by decide) rfl ?_ | refine sm_get_p2m (by decide) (by decide) (by decide) ?_))) (by first | rfl | exact (by repeat (first | exact rfl | exact sm_get_p1 | exact sm_get_p2e | refine sm_get_p1m (by decide) (by decide) ?_ | refine sm_get_p1n (by decide) rfl ?_ | refine sm_get_p2n (by decide) (by decide) rfl ?_ | refine sm_get_p2m (by decide) (by decide) (by decide) ?_))) (by first | rfl | exact (by repeat (first | exact rfl | exact sm_get_p1 | exact sm_get_p2e | refine sm_get_p1m (by decide) (by decide) ?_ | refine sm_get_p1n (by decide) rfl ?_ | refine sm_get_p2n (by decide) (by decide) rfl ?_ | refine sm_get_p2m (by decide) (by decide) (by decide) ?_))) (by first | rfl | exact (by repeat (first | exact rfl | exact sm_get_p1 | exact sm_get_p2e | refine sm_get_p1m (by decide) (by decide) ?_ | refine sm_get_p1n (by decide) rfl ?_ | refine sm_get_p2n (by decide) (by decide) rfl ?_ | refine sm_get_p2m (by decide) (by decide) (by decide) ?_))) (by first | rfl | exact (by repeat (first | exact rfl | exact sm_get_p1 | exact sm_get_p2e | refine sm_get_p1m (by decide) (by decide) ?_ | refine sm_get_p1n (by decide) rfl ?_ | refine sm_get_p2n (by decide) (by decide) rfl ?_ | refine sm_get_p2m (by decide) (by decide) (by decide) ?_)))
theorem rBgN_2 {d : Nat} {S Sf : cS} {v : Option Value} {fo : Nat} {ba : Nat} {nn : Nat} {mk : Nat} {g : Nat} {zg : Nat} {m : Nat} {zm : Nat} {r : Nat} {N : Nat} {fd9 : Nat} {e : Nat} {cl : Nat} {r1 : Nat} {N1 : Nat} {e1 : Nat} {S1 : cS} {a : Nat} {g1 : Nat} {zg1 : Nat} (mfo : fo < 2 ^ 20) (mba : ba < 2 ^ 20) (mnn : nn < 2 ^ 20) (mmk : mk < 2 ^ 20) (b1 : fo < 1500) (ag : 108 ≤ g) (hq2 : sQ S 86 fo = some g) (hz1 : (sS S)[g - 108]? = some (13, zg)) (am : 108 ≤ m) (hv1 : sV S (100 * g + 8) = .ref m) (hz2 : (sS S)[m - 108]? = some (12, zm)) (hv2 : sV S (100 * m + 9) = .ref r) (hg2 : isK S r 0 N) (mN : N < 2 ^ 20) (hfd9 : sI S (100 * g + 9) = nI fd9) (mfd9 : fd9 < 2 ^ 20) (b2 : fd9 < N) (he : sA S r fd9 = nI e) (me : e < 2 ^ 20) (b3 : nn = e) (hcl : sI S 6159 = nI cl) (mcl : cl < 32) (b4 : cl ≠ 31) (hv3 : sV S (100 * m + 10) = .ref r1) (hg3 : isK S r1 0 N1) (mN1 : N1 < 2 ^ 20) (b5 : fd9 < N1) (he1 : sA S r1 fd9 = nI e1) (me1 : e1 < 2 ^ 20) (b6 : e1 ≤ 300) (ma : a < 1500) (c1 : Ans (d + 8) 364 [.ref 61, .int (nI 7)] S (some (.int (nI a))) S1) (ag1 : 108 ≤ g1) (hq10 : sQ S1 86 a = some g1) (hz3 : (sS S1)[g - 108]? = some (13, zg)) (n7 : sI S1 (100 * g + 11) = Int32.ofInt (-1)) (hz4 : (sS S1)[g1 - 108]? = some (13, zg1)) (hB : ∀ lv1 : sm_L, sm_get lv1 0 = some (.ref 61) → sm_get lv1 2 = some (.int (nI ba)) → sm_get lv1 3 = some (.int (nI nn)) → sm_get lv1 4 = some (.int (Int32.ofInt (-1))) → sm_get lv1 5 = some (.int (nI mk)) → sm_get lv1 6 = some (.ref g) → sm_get lv1 7 = some (.int (nI nn)) → sm_get lv1 8 = some (.int (nI e1)) → sm_get lv1 9 = some (.int (nI a)) → sm_get lv1 10 = some (.ref g1) → sm_get lv1 11 = some (.int (nI 0)) → Bod (d + 8) 396 131 lv1 [] (wI (100 * g1 + 11) (Int32.ofInt (-1)) S1) v Sf) : Bod (d + 8) 396 0 [(0, .ref 61), (1, .int (nI fo)), (2, .int (nI ba)), (3, .int (nI nn)), (4, .int (Int32.ofInt (-1))), (5, .int (nI mk))] [] S v Sf := by
  refine Bod.go dc_396_0 rfl ?_
  refine Bod.get dc_396_1 fr_396_485 (mk_61 _) rfl ?_
  refine Bod.go dc_396_4 rfl ?_
  refine Bod.aaldR (N := 1500) (b := g) fo rfl (by omega) (by omega) (by first | exact hq2 | (simp only [rIQ, rJQ, rAQ, rLQ, rVQ, rQ_holdE]; exact hq2)) dc_396_5 (mk_86 _) ht_5 ?_
  refine Bod.ast dc_396_6 (by rw [ml_396]; exact Nat.le_of_ble_eq_true rfl) ?_
  refine Bod.go dc_396_8 rfl ?_
  refine Bod.ifT dc_396_10 rfl (by decide) ?_
  refine Bod.go dc_396_19 rfl ?_
  refine Bod.ist dc_396_20 (by rw [ml_396]; exact Nat.le_of_ble_eq_true rfl) ?_
  refine Bod.go dc_396_22 rfl ?_
  refine Bod.go dc_396_24 rfl ?_
  refine Bod.get dc_396_26 fr_396_533 (mk_thing ag (by first | exact hz1 | (simp only [rIS, rJS, rAS, rLS, rVS, rQS, rS_hold]; exact hz1))) rfl ?_
  refine Bod.eqV (.ref m) (by first | exact hv1 | (simp only [rIV, rJV, rAV, rLV, rQV, rV, reduceIte, Nat.reduceEqDiff]; exact hv1)) ?_
  refine Bod.get dc_396_29 fr_396_373 (mk_code am (by first | exact hz2 | (simp only [rIS, rJS, rAS, rLS, rVS, rQS, rS_hold]; exact hz2))) rfl ?_
  refine Bod.eqV (.ref r) (by first | exact hv2 | (simp only [rIV, rJV, rAV, rLV, rQV, rV, reduceIte, Nat.reduceEqDiff]; exact hv2)) ?_
  refine Bod.go dc_396_32 rfl ?_
  refine Bod.get dc_396_34 fr_396_689 (mk_thing ag (by first | exact hz1 | (simp only [rIS, rJS, rAS, rLS, rVS, rQS, rS_hold]; exact hz1))) rfl ?_
  refine Bod.eqI (nI fd9) (by first | assumption | rfl | exact congrArg nI (by omega) | (simp (disch := omega) only [rI, rIe, rA, rIA, rLA, rJA, rVI, rQI, rVA, rQA, upd_at,  rAI, rLI, rJI, nI_add, pk_sub, kc_0, kc_1, kc_2, kc_3, kc_4, kc_5, reduceIte, Nat.reduceEqDiff, Nat.add_zero, rI_hold, rI_hold, rL_hold, hfd9]; done)) ?_
  refine Bod.ialdN (N := N) fd9 rfl (by omega) (by omega) dc_396_37 (mk_isI (by first | exact hg2 | exact isK_S (by simp only [rIS, rJS, rAS, rLS, rVS, rQS, rS_hold]) hg2)) ?_
  refine Bod.eqI (nI e) (by first | assumption | rfl | exact congrArg nI (by omega) | (simp (disch := omega) only [rI, rIe, rA, rIA, rLA, rJA, rVI, rQI, rVA, rQA, upd_at,  rAI, rLI, rJI, nI_add, pk_sub, kc_0, kc_1, kc_2, kc_3, kc_4, kc_5, reduceIte, Nat.reduceEqDiff, Nat.add_zero, rI_hold, rI_hold, rL_hold, hfd9, he]; done)) ?_
  refine Bod.icT dc_396_38 rfl (k2_eq_T (k_eq nn e rfl rfl (by omega))) ?_
  refine Bod.go dc_396_47 rfl ?_
  refine Bod.get dc_396_48 fr_396_502 (mk_61 _) rfl ?_
  refine Bod.eqI (nI cl) (by first | assumption | rfl | exact congrArg nI (by omega) | (simp (disch := omega) only [rI, rIe, rA, rIA, rLA, rJA, rVI, rQI, rVA, rQA, upd_at,  rAI, rLI, rJI, nI_add, pk_sub, kc_0, kc_1, kc_2, kc_3, kc_4, kc_5, reduceIte, Nat.reduceEqDiff, Nat.add_zero, rI_hold, rI_hold, rL_hold, hfd9, he, hcl]; done)) ?_
  refine Bod.bip 31 (by decide) dc_396_51 ?_
  refine Bod.icT dc_396_53 rfl (k2_ne_T (k_ne cl 31 rfl rfl (by omega) (by omega) (by omega))) ?_
  refine Bod.go dc_396_63 rfl ?_
  refine Bod.get dc_396_65 fr_396_533 (mk_thing ag (by first | exact hz1 | (simp only [rIS, rJS, rAS, rLS, rVS, rQS, rS_hold]; exact hz1))) rfl ?_
  refine Bod.eqV (.ref m) (by first | exact hv1 | (simp only [rIV, rJV, rAV, rLV, rQV, rV, reduceIte, Nat.reduceEqDiff]; exact hv1)) ?_
  refine Bod.get dc_396_68 fr_396_379 (mk_code am (by first | exact hz2 | (simp only [rIS, rJS, rAS, rLS, rVS, rQS, rS_hold]; exact hz2))) rfl ?_
  refine Bod.eqV (.ref r1) (by first | exact hv3 | (simp only [rIV, rJV, rAV, rLV, rQV, rV, reduceIte, Nat.reduceEqDiff]; exact hv3)) ?_
  refine Bod.go dc_396_71 rfl ?_
  refine Bod.get dc_396_73 fr_396_689 (mk_thing ag (by first | exact hz1 | (simp only [rIS, rJS, rAS, rLS, rVS, rQS, rS_hold]; exact hz1))) rfl ?_
  refine Bod.eqI (nI fd9) (by first | assumption | rfl | exact congrArg nI (by omega) | (simp (disch := omega) only [rI, rIe, rA, rIA, rLA, rJA, rVI, rQI, rVA, rQA, upd_at,  rAI, rLI, rJI, nI_add, pk_sub, kc_0, kc_1, kc_2, kc_3, kc_4, kc_5, reduceIte, Nat.reduceEqDiff, Nat.add_zero, rI_hold, rI_hold, rL_hold, hfd9, he, hcl]; done)) ?_
  refine Bod.ialdN (N := N1) fd9 rfl (by omega) (by omega) dc_396_76 (mk_isI (by first | exact hg3 | exact isK_S (by simp only [rIS, rJS, rAS, rLS, rVS, rQS, rS_hold]) hg3)) ?_
  refine Bod.eqI (nI e1) (by first | assumption | rfl | exact congrArg nI (by omega) | (simp (disch := omega) only [rI, rIe, rA, rIA, rLA, rJA, rVI, rQI, rVA, rQA, upd_at,  rAI, rLI, rJI, nI_add, pk_sub, kc_0, kc_1, kc_2, kc_3, kc_4, kc_5, reduceIte, Nat.reduceEqDiff, Nat.add_zero, rI_hold, rI_hold, rL_hold, hfd9, he, hcl, he1]; done)) ?_
  refine Bod.ist dc_396_77 (by rw [ml_396]; exact Nat.le_of_ble_eq_true rfl) ?_
  refine Bod.go dc_396_79 rfl ?_
  refine Bod.sip 300 (by decide) dc_396_81 ?_
  refine Bod.icT dc_396_84 rfl (k2_le_T e1 300 rfl rfl (by omega) (by omega)) ?_
  refine Bod.go dc_396_94 rfl ?_
  refine Bod.bip 7 (by decide) dc_396_95 ?_
  refine Bod.virt (r := []) dc_396_97 kr_396_686 ⟨Or.inl rfl, ow_364, cl_14⟩ (by rw [np_364]; rfl) (by rw [np_364]; rfl) (ob_of (mk_61 _)) (Nat.le_of_ble_eq_true rfl) (c1  ) ?_
  show Bod _ _ _ _ [_] _ _ _
  refine Bod.ist dc_396_100 (by rw [ml_396]; exact Nat.le_of_ble_eq_true rfl) ?_
  refine Bod.go dc_396_102 rfl ?_
  refine Bod.ifT dc_396_104 rfl (k1_ge_T a rfl (by omega)) ?_
  refine Bod.go dc_396_109 rfl ?_
  refine Bod.get dc_396_110 fr_396_485 (mk_61 _) rfl ?_
  refine Bod.go dc_396_113 rfl ?_
  refine Bod.aaldR (N := 1500) (b := g1) a rfl (by omega) (by omega) (by first | exact hq10 | (simp only [rIQ, rJQ, rAQ, rLQ, rVQ, rQ_holdE]; exact hq10)) dc_396_115 (mk_86 _) ht_5 ?_
  refine Bod.ast dc_396_116 (by rw [ml_396]; exact Nat.le_of_ble_eq_true rfl) ?_
  refine Bod.go dc_396_118 rfl ?_
  refine Bod.go dc_396_120 rfl ?_
  refine Bod.get dc_396_122 fr_396_472 (mk_thing ag (by first | exact hz3 | (simp only [rIS, rJS, rAS, rLS, rVS, rQS, rS_hold]; exact hz3))) rfl ?_
  refine Bod.eqI (Int32.ofInt (-1)) (by first | assumption | (simp (disch := omega) only [rI, rIe, rA, rIA, rLA, rJA, rVI, rQI, rVA, rQA, upd_at,  rAI, rLI, rJI, nI_add, pk_sub, kc_0, kc_1, kc_2, kc_3, kc_4, kc_5, reduceIte, Nat.reduceEqDiff, Nat.add_zero, rI_hold, rI_hold, rL_hold, hfd9, he, hcl, he1, n7]; done) | (simp (disch := omega) only [rI, rIe, rA, rIA, rLA, rJA, rVI, rQI, rVA, rQA, upd_at,  rAI, rLI, rJI, nI_add, pk_sub, kc_0, kc_1, kc_2, kc_3, kc_4, kc_5, reduceIte, Nat.reduceEqDiff, Nat.add_zero, rI_hold, rI_hold, rL_hold, hfd9, he, hcl, he1, n7]; exact congrArg nI (by omega))) ?_
  refine Bod.put dc_396_125 fr_396_472 (mk_thing ag1 (by first | exact hz4 | (simp only [rIS, rJS, rAS, rLS, rVS, rQS, rS_hold]; exact hz4))) (Nat.le_of_ble_eq_true rfl) pf_13_11 (st_thing_11 ag1 (by first | exact hz4 | (simp only [rIS, rJS, rAS, rLS, rVS, rQS, rS_hold]; exact hz4))) (mu_I _ _ _) ?_
  refine Bod.ic 0 (by decide) dc_396_128 ?_
  refine Bod.ist dc_396_129 (by rw [ml_396]; exact Nat.le_of_ble_eq_true rfl) ?_
  exact hB _ (by first | rfl | exact (by repeat (first | exact rfl | exact sm_get_p1 | exact sm_get_p2e | refine sm_get_p1m (by decide) (by decide) ?_ | refine sm_get_p1n (by decide) rfl ?_ | refine sm_get_p2n (by decide) (by decide) rfl ?_ | refine sm_get_p2m (by decide) (by decide) (by decide) ?_))) (by first | rfl | exact (by repeat (first | exact rfl | exact sm_get_p1 | exact sm_get_p2e | refine sm_get_p1m (by decide) (by decide) ?_ | refine sm_get_p1n (by decide) rfl ?_ | refine sm_get_p2n (by decide) (by decide) rfl ?_ | refine sm_get_p2m (by decide) (by decide) (by decide) ?_))) (by first | rfl | exact (by repeat (first | exact rfl | exact sm_get_p1 | exact sm_get_p2e | refine sm_get_p1m (by decide) (by decide) ?_ | refine sm_get_p1n (by decide) rfl ?_ | refine sm_get_p2n (by decide) (by decide) rfl ?_ | refine sm_get_p2m (by decide) (by decide) (by decide) ?_))) (by first | rfl | exact (by repeat (first | exact rfl | exact sm_get_p1 | exact sm_get_p2e | refine sm_get_p1m (by decide) (by decide) ?_ | refine sm_get_p1n (by decide) rfl ?_ | refine sm_get_p2n (by decide) (by decide) rfl ?_ | refine sm_get_p2m (by decide) (by decide) (by decide) ?_))) (by first | rfl | exact (by repeat (first | exact rfl | exact sm_get_p1 | exact sm_get_p2e | refine sm_get_p1m (by decide) (by decide) ?_ | refine sm_get_p1n (by decide) rfl ?_ | refine sm_get_p2n (by decide) (by decide) rfl ?_ | refine sm_get_p2m (by decide) (by decide) (by decide) ?_))) (by first | rfl | exact (by repeat (first | exact rfl | exact sm_get_p1 | exact sm_get_p2e | refine sm_get_p1m (by decide) (by decide) ?_ | refine sm_get_p1n (by decide) rfl ?_ | refine sm_get_p2n (by decide) (by decide) rfl ?_ | refine sm_get_p2m (by decide) (by decide) (by decide) ?_))) (by first | rfl | exact (by repeat (first | exact rfl | exact sm_get_p1 | exact sm_get_p2e | refine sm_get_p1m (by decide) (by decide) ?_ | refine sm_get_p1n (by decide) rfl ?_ | refine sm_get_p2n (by decide) (by decide) rfl ?_ | refine sm_get_p2m (by decide) (by decide) (by decide) ?_))) (by first | rfl | exact (by repeat (first | exact rfl | exact sm_get_p1 | exact sm_get_p2e | refine sm_get_p1m (by decide) (by decide) ?_ | refine sm_get_p1n (by decide) rfl ?_ | refine sm_get_p2n (by decide) (by decide) rfl ?_ | refine sm_get_p2m (by decide) (by decide) (by decide) ?_))) (by first | rfl | exact (by repeat (first | exact rfl | exact sm_get_p1 | exact sm_get_p2e | refine sm_get_p1m (by decide) (by decide) ?_ | refine sm_get_p1n (by decide) rfl ?_ | refine sm_get_p2n (by decide) (by decide) rfl ?_ | refine sm_get_p2m (by decide) (by decide) (by decide) ?_))) (by first | rfl | exact (by repeat (first | exact rfl | exact sm_get_p1 | exact sm_get_p2e | refine sm_get_p1m (by decide) (by decide) ?_ | refine sm_get_p1n (by decide) rfl ?_ | refine sm_get_p2n (by decide) (by decide) rfl ?_ | refine sm_get_p2m (by decide) (by decide) (by decide) ?_))) (by first | rfl | exact (by repeat (first | exact rfl | exact sm_get_p1 | exact sm_get_p2e | refine sm_get_p1m (by decide) (by decide) ?_ | refine sm_get_p1n (by decide) rfl ?_ | refine sm_get_p2n (by decide) (by decide) rfl ?_ | refine sm_get_p2m (by decide) (by decide) (by decide) ?_)))
theorem rBgN_3 {d : Nat} {S : cS} {fo : Nat} {ba : Nat} {nn : Nat} {mk : Nat} {g : Nat} {zg : Nat} {m : Nat} {zm : Nat} {r : Nat} {N : Nat} {fd9 : Nat} {e : Nat} {cl : Nat} {r1 : Nat} {N1 : Nat} {e1 : Nat} {S1 : cS} (mfo : fo < 2 ^ 20) (mba : ba < 2 ^ 20) (mnn : nn < 2 ^ 20) (mmk : mk < 2 ^ 20) (b1 : fo < 1500) (ag : 108 ≤ g) (hq2 : sQ S 86 fo = some g) (hz1 : (sS S)[g - 108]? = some (13, zg)) (am : 108 ≤ m) (hv1 : sV S (100 * g + 8) = .ref m) (hz2 : (sS S)[m - 108]? = some (12, zm)) (hv2 : sV S (100 * m + 9) = .ref r) (hg2 : isK S r 0 N) (mN : N < 2 ^ 20) (hfd9 : sI S (100 * g + 9) = nI fd9) (mfd9 : fd9 < 2 ^ 20) (b2 : fd9 < N) (he : sA S r fd9 = nI e) (me : e < 2 ^ 20) (b3 : nn = e) (hcl : sI S 6159 = nI cl) (mcl : cl < 32) (b4 : cl ≠ 31) (hv3 : sV S (100 * m + 10) = .ref r1) (hg3 : isK S r1 0 N1) (mN1 : N1 < 2 ^ 20) (b5 : fd9 < N1) (he1 : sA S r1 fd9 = nI e1) (me1 : e1 < 2 ^ 20) (b6 : e1 ≤ 300) (c1 : Ans (d + 8) 364 [.ref 61, .int (nI 7)] S (some (.int (Int32.ofInt (-1)))) S1) : Bod (d + 8) 396 0 [(0, .ref 61), (1, .int (nI fo)), (2, .int (nI ba)), (3, .int (nI nn)), (4, .int (Int32.ofInt (-1))), (5, .int (nI mk))] [] S (some (.int 0)) (S1) := by
  refine Bod.go dc_396_0 rfl ?_
  refine Bod.get dc_396_1 fr_396_485 (mk_61 _) rfl ?_
  refine Bod.go dc_396_4 rfl ?_
  refine Bod.aaldR (N := 1500) (b := g) fo rfl (by omega) (by omega) (by first | exact hq2 | (simp only [rIQ, rJQ, rAQ, rLQ, rVQ, rQ_holdE]; exact hq2)) dc_396_5 (mk_86 _) ht_5 ?_
  refine Bod.ast dc_396_6 (by rw [ml_396]; exact Nat.le_of_ble_eq_true rfl) ?_
  refine Bod.go dc_396_8 rfl ?_
  refine Bod.ifT dc_396_10 rfl (by decide) ?_
  refine Bod.go dc_396_19 rfl ?_
  refine Bod.ist dc_396_20 (by rw [ml_396]; exact Nat.le_of_ble_eq_true rfl) ?_
  refine Bod.go dc_396_22 rfl ?_
  refine Bod.go dc_396_24 rfl ?_
  refine Bod.get dc_396_26 fr_396_533 (mk_thing ag (by first | exact hz1 | (simp only [rIS, rJS, rAS, rLS, rVS, rQS, rS_hold]; exact hz1))) rfl ?_
  refine Bod.eqV (.ref m) (by first | exact hv1 | (simp only [rIV, rJV, rAV, rLV, rQV, rV, reduceIte, Nat.reduceEqDiff]; exact hv1)) ?_
  refine Bod.get dc_396_29 fr_396_373 (mk_code am (by first | exact hz2 | (simp only [rIS, rJS, rAS, rLS, rVS, rQS, rS_hold]; exact hz2))) rfl ?_
  refine Bod.eqV (.ref r) (by first | exact hv2 | (simp only [rIV, rJV, rAV, rLV, rQV, rV, reduceIte, Nat.reduceEqDiff]; exact hv2)) ?_
  refine Bod.go dc_396_32 rfl ?_
  refine Bod.get dc_396_34 fr_396_689 (mk_thing ag (by first | exact hz1 | (simp only [rIS, rJS, rAS, rLS, rVS, rQS, rS_hold]; exact hz1))) rfl ?_
  refine Bod.eqI (nI fd9) (by first | assumption | rfl | exact congrArg nI (by omega) | (simp (disch := omega) only [rI, rIe, rA, rIA, rLA, rJA, rVI, rQI, rVA, rQA, upd_at,  rAI, rLI, rJI, nI_add, pk_sub, kc_0, kc_1, kc_2, kc_3, kc_4, kc_5, reduceIte, Nat.reduceEqDiff, Nat.add_zero, rI_hold, rI_hold, rL_hold, hfd9]; done)) ?_
  refine Bod.ialdN (N := N) fd9 rfl (by omega) (by omega) dc_396_37 (mk_isI (by first | exact hg2 | exact isK_S (by simp only [rIS, rJS, rAS, rLS, rVS, rQS, rS_hold]) hg2)) ?_
  refine Bod.eqI (nI e) (by first | assumption | rfl | exact congrArg nI (by omega) | (simp (disch := omega) only [rI, rIe, rA, rIA, rLA, rJA, rVI, rQI, rVA, rQA, upd_at,  rAI, rLI, rJI, nI_add, pk_sub, kc_0, kc_1, kc_2, kc_3, kc_4, kc_5, reduceIte, Nat.reduceEqDiff, Nat.add_zero, rI_hold, rI_hold, rL_hold, hfd9, he]; done)) ?_
  refine Bod.icT dc_396_38 rfl (k2_eq_T (k_eq nn e rfl rfl (by omega))) ?_
  refine Bod.go dc_396_47 rfl ?_
  refine Bod.get dc_396_48 fr_396_502 (mk_61 _) rfl ?_
  refine Bod.eqI (nI cl) (by first | assumption | rfl | exact congrArg nI (by omega) | (simp (disch := omega) only [rI, rIe, rA, rIA, rLA, rJA, rVI, rQI, rVA, rQA, upd_at,  rAI, rLI, rJI, nI_add, pk_sub, kc_0, kc_1, kc_2, kc_3, kc_4, kc_5, reduceIte, Nat.reduceEqDiff, Nat.add_zero, rI_hold, rI_hold, rL_hold, hfd9, he, hcl]; done)) ?_
  refine Bod.bip 31 (by decide) dc_396_51 ?_
  refine Bod.icT dc_396_53 rfl (k2_ne_T (k_ne cl 31 rfl rfl (by omega) (by omega) (by omega))) ?_
  refine Bod.go dc_396_63 rfl ?_
  refine Bod.get dc_396_65 fr_396_533 (mk_thing ag (by first | exact hz1 | (simp only [rIS, rJS, rAS, rLS, rVS, rQS, rS_hold]; exact hz1))) rfl ?_
  refine Bod.eqV (.ref m) (by first | exact hv1 | (simp only [rIV, rJV, rAV, rLV, rQV, rV, reduceIte, Nat.reduceEqDiff]; exact hv1)) ?_
  refine Bod.get dc_396_68 fr_396_379 (mk_code am (by first | exact hz2 | (simp only [rIS, rJS, rAS, rLS, rVS, rQS, rS_hold]; exact hz2))) rfl ?_
  refine Bod.eqV (.ref r1) (by first | exact hv3 | (simp only [rIV, rJV, rAV, rLV, rQV, rV, reduceIte, Nat.reduceEqDiff]; exact hv3)) ?_
  refine Bod.go dc_396_71 rfl ?_
  refine Bod.get dc_396_73 fr_396_689 (mk_thing ag (by first | exact hz1 | (simp only [rIS, rJS, rAS, rLS, rVS, rQS, rS_hold]; exact hz1))) rfl ?_
  refine Bod.eqI (nI fd9) (by first | assumption | rfl | exact congrArg nI (by omega) | (simp (disch := omega) only [rI, rIe, rA, rIA, rLA, rJA, rVI, rQI, rVA, rQA, upd_at,  rAI, rLI, rJI, nI_add, pk_sub, kc_0, kc_1, kc_2, kc_3, kc_4, kc_5, reduceIte, Nat.reduceEqDiff, Nat.add_zero, rI_hold, rI_hold, rL_hold, hfd9, he, hcl]; done)) ?_
  refine Bod.ialdN (N := N1) fd9 rfl (by omega) (by omega) dc_396_76 (mk_isI (by first | exact hg3 | exact isK_S (by simp only [rIS, rJS, rAS, rLS, rVS, rQS, rS_hold]) hg3)) ?_
  refine Bod.eqI (nI e1) (by first | assumption | rfl | exact congrArg nI (by omega) | (simp (disch := omega) only [rI, rIe, rA, rIA, rLA, rJA, rVI, rQI, rVA, rQA, upd_at,  rAI, rLI, rJI, nI_add, pk_sub, kc_0, kc_1, kc_2, kc_3, kc_4, kc_5, reduceIte, Nat.reduceEqDiff, Nat.add_zero, rI_hold, rI_hold, rL_hold, hfd9, he, hcl, he1]; done)) ?_
  refine Bod.ist dc_396_77 (by rw [ml_396]; exact Nat.le_of_ble_eq_true rfl) ?_
  refine Bod.go dc_396_79 rfl ?_
  refine Bod.sip 300 (by decide) dc_396_81 ?_
  refine Bod.icT dc_396_84 rfl (k2_le_T e1 300 rfl rfl (by omega) (by omega)) ?_
  refine Bod.go dc_396_94 rfl ?_
  refine Bod.bip 7 (by decide) dc_396_95 ?_
  refine Bod.virt (r := []) dc_396_97 kr_396_686 ⟨Or.inl rfl, ow_364, cl_14⟩ (by rw [np_364]; rfl) (by rw [np_364]; rfl) (ob_of (mk_61 _)) (Nat.le_of_ble_eq_true rfl) (c1  ) ?_
  show Bod _ _ _ _ [_] _ _ _
  refine Bod.ist dc_396_100 (by rw [ml_396]; exact Nat.le_of_ble_eq_true rfl) ?_
  refine Bod.go dc_396_102 rfl ?_
  refine Bod.ifF dc_396_104 rfl (by decide) ?_
  refine Bod.ic 0 (by decide) dc_396_107 ?_
  exact Bod.retZ dc_396_108 rt_396 (Or.inl rfl)
theorem rBgN_4 {d : Nat} {S : cS} {fo : Nat} {ba : Nat} {nn : Nat} {mk : Nat} {g : Nat} {zg : Nat} {m : Nat} {zm : Nat} {r : Nat} {N : Nat} {fd9 : Nat} {e : Nat} {cl : Nat} {r1 : Nat} {N1 : Nat} {e1 : Nat} {S1 : cS} (mfo : fo < 2 ^ 20) (mba : ba < 2 ^ 20) (mnn : nn < 2 ^ 20) (mmk : mk < 2 ^ 20) (b1 : fo < 1500) (ag : 108 ≤ g) (hq2 : sQ S 86 fo = some g) (hz1 : (sS S)[g - 108]? = some (13, zg)) (am : 108 ≤ m) (hv1 : sV S (100 * g + 8) = .ref m) (hz2 : (sS S)[m - 108]? = some (12, zm)) (hv2 : sV S (100 * m + 9) = .ref r) (hg2 : isK S r 0 N) (mN : N < 2 ^ 20) (hfd9 : sI S (100 * g + 9) = nI fd9) (mfd9 : fd9 < 2 ^ 20) (b2 : fd9 < N) (he : sA S r fd9 = nI e) (me : e < 2 ^ 20) (b3 : nn = e) (hcl : sI S 6159 = nI cl) (mcl : cl < 32) (b4 : cl ≠ 31) (hv3 : sV S (100 * m + 10) = .ref r1) (hg3 : isK S r1 0 N1) (mN1 : N1 < 2 ^ 20) (b5 : fd9 < N1) (he1 : sA S r1 fd9 = nI e1) (me1 : e1 < 2 ^ 20) (b6 : 300 < e1) (c1 : Ans (d + 8) 351 [.ref 61, .int (nI 8)] S (some (.int (nI 0))) S1) : Bod (d + 8) 396 0 [(0, .ref 61), (1, .int (nI fo)), (2, .int (nI ba)), (3, .int (nI nn)), (4, .int (Int32.ofInt (-1))), (5, .int (nI mk))] [] S (some (.int 0)) (S1) := by
  refine Bod.go dc_396_0 rfl ?_
  refine Bod.get dc_396_1 fr_396_485 (mk_61 _) rfl ?_
  refine Bod.go dc_396_4 rfl ?_
  refine Bod.aaldR (N := 1500) (b := g) fo rfl (by omega) (by omega) (by first | exact hq2 | (simp only [rIQ, rJQ, rAQ, rLQ, rVQ, rQ_holdE]; exact hq2)) dc_396_5 (mk_86 _) ht_5 ?_
  refine Bod.ast dc_396_6 (by rw [ml_396]; exact Nat.le_of_ble_eq_true rfl) ?_
  refine Bod.go dc_396_8 rfl ?_
  refine Bod.ifT dc_396_10 rfl (by decide) ?_
  refine Bod.go dc_396_19 rfl ?_
  refine Bod.ist dc_396_20 (by rw [ml_396]; exact Nat.le_of_ble_eq_true rfl) ?_
  refine Bod.go dc_396_22 rfl ?_
  refine Bod.go dc_396_24 rfl ?_
  refine Bod.get dc_396_26 fr_396_533 (mk_thing ag (by first | exact hz1 | (simp only [rIS, rJS, rAS, rLS, rVS, rQS, rS_hold]; exact hz1))) rfl ?_
  refine Bod.eqV (.ref m) (by first | exact hv1 | (simp only [rIV, rJV, rAV, rLV, rQV, rV, reduceIte, Nat.reduceEqDiff]; exact hv1)) ?_
  refine Bod.get dc_396_29 fr_396_373 (mk_code am (by first | exact hz2 | (simp only [rIS, rJS, rAS, rLS, rVS, rQS, rS_hold]; exact hz2))) rfl ?_
  refine Bod.eqV (.ref r) (by first | exact hv2 | (simp only [rIV, rJV, rAV, rLV, rQV, rV, reduceIte, Nat.reduceEqDiff]; exact hv2)) ?_
  refine Bod.go dc_396_32 rfl ?_
  refine Bod.get dc_396_34 fr_396_689 (mk_thing ag (by first | exact hz1 | (simp only [rIS, rJS, rAS, rLS, rVS, rQS, rS_hold]; exact hz1))) rfl ?_
  refine Bod.eqI (nI fd9) (by first | assumption | rfl | exact congrArg nI (by omega) | (simp (disch := omega) only [rI, rIe, rA, rIA, rLA, rJA, rVI, rQI, rVA, rQA, upd_at,  rAI, rLI, rJI, nI_add, pk_sub, kc_0, kc_1, kc_2, kc_3, kc_4, kc_5, reduceIte, Nat.reduceEqDiff, Nat.add_zero, rI_hold, rI_hold, rL_hold, hfd9]; done)) ?_
  refine Bod.ialdN (N := N) fd9 rfl (by omega) (by omega) dc_396_37 (mk_isI (by first | exact hg2 | exact isK_S (by simp only [rIS, rJS, rAS, rLS, rVS, rQS, rS_hold]) hg2)) ?_
  refine Bod.eqI (nI e) (by first | assumption | rfl | exact congrArg nI (by omega) | (simp (disch := omega) only [rI, rIe, rA, rIA, rLA, rJA, rVI, rQI, rVA, rQA, upd_at,  rAI, rLI, rJI, nI_add, pk_sub, kc_0, kc_1, kc_2, kc_3, kc_4, kc_5, reduceIte, Nat.reduceEqDiff, Nat.add_zero, rI_hold, rI_hold, rL_hold, hfd9, he]; done)) ?_
  refine Bod.icT dc_396_38 rfl (k2_eq_T (k_eq nn e rfl rfl (by omega))) ?_
  refine Bod.go dc_396_47 rfl ?_
  refine Bod.get dc_396_48 fr_396_502 (mk_61 _) rfl ?_
  refine Bod.eqI (nI cl) (by first | assumption | rfl | exact congrArg nI (by omega) | (simp (disch := omega) only [rI, rIe, rA, rIA, rLA, rJA, rVI, rQI, rVA, rQA, upd_at,  rAI, rLI, rJI, nI_add, pk_sub, kc_0, kc_1, kc_2, kc_3, kc_4, kc_5, reduceIte, Nat.reduceEqDiff, Nat.add_zero, rI_hold, rI_hold, rL_hold, hfd9, he, hcl]; done)) ?_
  refine Bod.bip 31 (by decide) dc_396_51 ?_
  refine Bod.icT dc_396_53 rfl (k2_ne_T (k_ne cl 31 rfl rfl (by omega) (by omega) (by omega))) ?_
  refine Bod.go dc_396_63 rfl ?_
  refine Bod.get dc_396_65 fr_396_533 (mk_thing ag (by first | exact hz1 | (simp only [rIS, rJS, rAS, rLS, rVS, rQS, rS_hold]; exact hz1))) rfl ?_
  refine Bod.eqV (.ref m) (by first | exact hv1 | (simp only [rIV, rJV, rAV, rLV, rQV, rV, reduceIte, Nat.reduceEqDiff]; exact hv1)) ?_
  refine Bod.get dc_396_68 fr_396_379 (mk_code am (by first | exact hz2 | (simp only [rIS, rJS, rAS, rLS, rVS, rQS, rS_hold]; exact hz2))) rfl ?_
  refine Bod.eqV (.ref r1) (by first | exact hv3 | (simp only [rIV, rJV, rAV, rLV, rQV, rV, reduceIte, Nat.reduceEqDiff]; exact hv3)) ?_
  refine Bod.go dc_396_71 rfl ?_
  refine Bod.get dc_396_73 fr_396_689 (mk_thing ag (by first | exact hz1 | (simp only [rIS, rJS, rAS, rLS, rVS, rQS, rS_hold]; exact hz1))) rfl ?_
  refine Bod.eqI (nI fd9) (by first | assumption | rfl | exact congrArg nI (by omega) | (simp (disch := omega) only [rI, rIe, rA, rIA, rLA, rJA, rVI, rQI, rVA, rQA, upd_at,  rAI, rLI, rJI, nI_add, pk_sub, kc_0, kc_1, kc_2, kc_3, kc_4, kc_5, reduceIte, Nat.reduceEqDiff, Nat.add_zero, rI_hold, rI_hold, rL_hold, hfd9, he, hcl]; done)) ?_
  refine Bod.ialdN (N := N1) fd9 rfl (by omega) (by omega) dc_396_76 (mk_isI (by first | exact hg3 | exact isK_S (by simp only [rIS, rJS, rAS, rLS, rVS, rQS, rS_hold]) hg3)) ?_
  refine Bod.eqI (nI e1) (by first | assumption | rfl | exact congrArg nI (by omega) | (simp (disch := omega) only [rI, rIe, rA, rIA, rLA, rJA, rVI, rQI, rVA, rQA, upd_at,  rAI, rLI, rJI, nI_add, pk_sub, kc_0, kc_1, kc_2, kc_3, kc_4, kc_5, reduceIte, Nat.reduceEqDiff, Nat.add_zero, rI_hold, rI_hold, rL_hold, hfd9, he, hcl, he1]; done)) ?_
  refine Bod.ist dc_396_77 (by rw [ml_396]; exact Nat.le_of_ble_eq_true rfl) ?_
  refine Bod.go dc_396_79 rfl ?_
  refine Bod.sip 300 (by decide) dc_396_81 ?_
  refine Bod.icF dc_396_84 rfl (k2_le_F e1 300 rfl rfl (by omega) (by omega)) ?_
  refine Bod.go dc_396_87 rfl ?_
  refine Bod.bip 8 (by decide) dc_396_88 ?_
  refine Bod.virt (r := []) dc_396_90 kr_396_608 ⟨Or.inl rfl, ow_351, cl_14⟩ (by rw [np_351]; rfl) (by rw [np_351]; rfl) (ob_of (mk_61 _)) (Nat.le_of_ble_eq_true rfl) (c1  ) ?_
  show Bod _ _ _ _ [_] _ _ _
  exact Bod.retZ dc_396_93 rt_396 (Or.inl rfl)
theorem rBgN_5 {d : Nat} {S : cS} {fo : Nat} {ba : Nat} {nn : Nat} {mk : Nat} {g : Nat} {zg : Nat} {m : Nat} {zm : Nat} {r : Nat} {N : Nat} {fd9 : Nat} {e : Nat} {cl : Nat} {S1 : cS} (mfo : fo < 2 ^ 20) (mba : ba < 2 ^ 20) (mnn : nn < 2 ^ 20) (mmk : mk < 2 ^ 20) (b1 : fo < 1500) (ag : 108 ≤ g) (hq2 : sQ S 86 fo = some g) (hz1 : (sS S)[g - 108]? = some (13, zg)) (am : 108 ≤ m) (hv1 : sV S (100 * g + 8) = .ref m) (hz2 : (sS S)[m - 108]? = some (12, zm)) (hv2 : sV S (100 * m + 9) = .ref r) (hg2 : isK S r 0 N) (mN : N < 2 ^ 20) (hfd9 : sI S (100 * g + 9) = nI fd9) (mfd9 : fd9 < 2 ^ 20) (b2 : fd9 < N) (he : sA S r fd9 = nI e) (me : e < 2 ^ 20) (b3 : nn = e) (hcl : sI S 6159 = nI cl) (mcl : cl < 32) (b4 : cl = 31) (c1 : Ans (d + 8) 351 [.ref 61, .int (nI 7)] S (some (.int (nI 0))) S1) : Bod (d + 8) 396 0 [(0, .ref 61), (1, .int (nI fo)), (2, .int (nI ba)), (3, .int (nI nn)), (4, .int (Int32.ofInt (-1))), (5, .int (nI mk))] [] S (some (.int 0)) (S1) := by
  refine Bod.go dc_396_0 rfl ?_
  refine Bod.get dc_396_1 fr_396_485 (mk_61 _) rfl ?_
  refine Bod.go dc_396_4 rfl ?_
  refine Bod.aaldR (N := 1500) (b := g) fo rfl (by omega) (by omega) (by first | exact hq2 | (simp only [rIQ, rJQ, rAQ, rLQ, rVQ, rQ_holdE]; exact hq2)) dc_396_5 (mk_86 _) ht_5 ?_
  refine Bod.ast dc_396_6 (by rw [ml_396]; exact Nat.le_of_ble_eq_true rfl) ?_
  refine Bod.go dc_396_8 rfl ?_
  refine Bod.ifT dc_396_10 rfl (by decide) ?_
  refine Bod.go dc_396_19 rfl ?_
  refine Bod.ist dc_396_20 (by rw [ml_396]; exact Nat.le_of_ble_eq_true rfl) ?_
  refine Bod.go dc_396_22 rfl ?_
  refine Bod.go dc_396_24 rfl ?_
  refine Bod.get dc_396_26 fr_396_533 (mk_thing ag (by first | exact hz1 | (simp only [rIS, rJS, rAS, rLS, rVS, rQS, rS_hold]; exact hz1))) rfl ?_
  refine Bod.eqV (.ref m) (by first | exact hv1 | (simp only [rIV, rJV, rAV, rLV, rQV, rV, reduceIte, Nat.reduceEqDiff]; exact hv1)) ?_
  refine Bod.get dc_396_29 fr_396_373 (mk_code am (by first | exact hz2 | (simp only [rIS, rJS, rAS, rLS, rVS, rQS, rS_hold]; exact hz2))) rfl ?_
  refine Bod.eqV (.ref r) (by first | exact hv2 | (simp only [rIV, rJV, rAV, rLV, rQV, rV, reduceIte, Nat.reduceEqDiff]; exact hv2)) ?_
  refine Bod.go dc_396_32 rfl ?_
  refine Bod.get dc_396_34 fr_396_689 (mk_thing ag (by first | exact hz1 | (simp only [rIS, rJS, rAS, rLS, rVS, rQS, rS_hold]; exact hz1))) rfl ?_
  refine Bod.eqI (nI fd9) (by first | assumption | rfl | exact congrArg nI (by omega) | (simp (disch := omega) only [rI, rIe, rA, rIA, rLA, rJA, rVI, rQI, rVA, rQA, upd_at,  rAI, rLI, rJI, nI_add, pk_sub, kc_0, kc_1, kc_2, kc_3, kc_4, kc_5, reduceIte, Nat.reduceEqDiff, Nat.add_zero, rI_hold, rI_hold, rL_hold, hfd9]; done)) ?_
  refine Bod.ialdN (N := N) fd9 rfl (by omega) (by omega) dc_396_37 (mk_isI (by first | exact hg2 | exact isK_S (by simp only [rIS, rJS, rAS, rLS, rVS, rQS, rS_hold]) hg2)) ?_
  refine Bod.eqI (nI e) (by first | assumption | rfl | exact congrArg nI (by omega) | (simp (disch := omega) only [rI, rIe, rA, rIA, rLA, rJA, rVI, rQI, rVA, rQA, upd_at,  rAI, rLI, rJI, nI_add, pk_sub, kc_0, kc_1, kc_2, kc_3, kc_4, kc_5, reduceIte, Nat.reduceEqDiff, Nat.add_zero, rI_hold, rI_hold, rL_hold, hfd9, he]; done)) ?_
  refine Bod.icT dc_396_38 rfl (k2_eq_T (k_eq nn e rfl rfl (by omega))) ?_
  refine Bod.go dc_396_47 rfl ?_
  refine Bod.get dc_396_48 fr_396_502 (mk_61 _) rfl ?_
  refine Bod.eqI (nI cl) (by first | assumption | rfl | exact congrArg nI (by omega) | (simp (disch := omega) only [rI, rIe, rA, rIA, rLA, rJA, rVI, rQI, rVA, rQA, upd_at,  rAI, rLI, rJI, nI_add, pk_sub, kc_0, kc_1, kc_2, kc_3, kc_4, kc_5, reduceIte, Nat.reduceEqDiff, Nat.add_zero, rI_hold, rI_hold, rL_hold, hfd9, he, hcl]; done)) ?_
  refine Bod.bip 31 (by decide) dc_396_51 ?_
  refine Bod.icF dc_396_53 rfl (k2_ne_F (k_eq cl 31 rfl rfl (by omega))) ?_
  refine Bod.go dc_396_56 rfl ?_
  refine Bod.bip 7 (by decide) dc_396_57 ?_
  refine Bod.virt (r := []) dc_396_59 kr_396_608 ⟨Or.inl rfl, ow_351, cl_14⟩ (by rw [np_351]; rfl) (by rw [np_351]; rfl) (ob_of (mk_61 _)) (Nat.le_of_ble_eq_true rfl) (c1  ) ?_
  show Bod _ _ _ _ [_] _ _ _
  exact Bod.retZ dc_396_62 rt_396 (Or.inl rfl)
theorem rBgN_6 {d : Nat} {S : cS} {fo : Nat} {ba : Nat} {nn : Nat} {mk : Nat} {g : Nat} {zg : Nat} {m : Nat} {zm : Nat} {r : Nat} {N : Nat} {fd9 : Nat} {e : Nat} {S1 : cS} (mfo : fo < 2 ^ 20) (mba : ba < 2 ^ 20) (mnn : nn < 2 ^ 20) (mmk : mk < 2 ^ 20) (b1 : fo < 1500) (ag : 108 ≤ g) (hq2 : sQ S 86 fo = some g) (hz1 : (sS S)[g - 108]? = some (13, zg)) (am : 108 ≤ m) (hv1 : sV S (100 * g + 8) = .ref m) (hz2 : (sS S)[m - 108]? = some (12, zm)) (hv2 : sV S (100 * m + 9) = .ref r) (hg2 : isK S r 0 N) (mN : N < 2 ^ 20) (hfd9 : sI S (100 * g + 9) = nI fd9) (mfd9 : fd9 < 2 ^ 20) (b2 : fd9 < N) (he : sA S r fd9 = nI e) (me : e < 2 ^ 20) (b3 : nn ≠ e) (c1 : Ans (d + 8) 351 [.ref 61, .int (nI 2)] S (some (.int (nI 0))) S1) : Bod (d + 8) 396 0 [(0, .ref 61), (1, .int (nI fo)), (2, .int (nI ba)), (3, .int (nI nn)), (4, .int (Int32.ofInt (-1))), (5, .int (nI mk))] [] S (some (.int 0)) (S1) := by
  refine Bod.go dc_396_0 rfl ?_
  refine Bod.get dc_396_1 fr_396_485 (mk_61 _) rfl ?_
  refine Bod.go dc_396_4 rfl ?_
  refine Bod.aaldR (N := 1500) (b := g) fo rfl (by omega) (by omega) (by first | exact hq2 | (simp only [rIQ, rJQ, rAQ, rLQ, rVQ, rQ_holdE]; exact hq2)) dc_396_5 (mk_86 _) ht_5 ?_
  refine Bod.ast dc_396_6 (by rw [ml_396]; exact Nat.le_of_ble_eq_true rfl) ?_
  refine Bod.go dc_396_8 rfl ?_
  refine Bod.ifT dc_396_10 rfl (by decide) ?_
  refine Bod.go dc_396_19 rfl ?_
  refine Bod.ist dc_396_20 (by rw [ml_396]; exact Nat.le_of_ble_eq_true rfl) ?_
  refine Bod.go dc_396_22 rfl ?_
  refine Bod.go dc_396_24 rfl ?_
  refine Bod.get dc_396_26 fr_396_533 (mk_thing ag (by first | exact hz1 | (simp only [rIS, rJS, rAS, rLS, rVS, rQS, rS_hold]; exact hz1))) rfl ?_
  refine Bod.eqV (.ref m) (by first | exact hv1 | (simp only [rIV, rJV, rAV, rLV, rQV, rV, reduceIte, Nat.reduceEqDiff]; exact hv1)) ?_
  refine Bod.get dc_396_29 fr_396_373 (mk_code am (by first | exact hz2 | (simp only [rIS, rJS, rAS, rLS, rVS, rQS, rS_hold]; exact hz2))) rfl ?_
  refine Bod.eqV (.ref r) (by first | exact hv2 | (simp only [rIV, rJV, rAV, rLV, rQV, rV, reduceIte, Nat.reduceEqDiff]; exact hv2)) ?_
  refine Bod.go dc_396_32 rfl ?_
  refine Bod.get dc_396_34 fr_396_689 (mk_thing ag (by first | exact hz1 | (simp only [rIS, rJS, rAS, rLS, rVS, rQS, rS_hold]; exact hz1))) rfl ?_
  refine Bod.eqI (nI fd9) (by first | assumption | rfl | exact congrArg nI (by omega) | (simp (disch := omega) only [rI, rIe, rA, rIA, rLA, rJA, rVI, rQI, rVA, rQA, upd_at,  rAI, rLI, rJI, nI_add, pk_sub, kc_0, kc_1, kc_2, kc_3, kc_4, kc_5, reduceIte, Nat.reduceEqDiff, Nat.add_zero, rI_hold, rI_hold, rL_hold, hfd9]; done)) ?_
  refine Bod.ialdN (N := N) fd9 rfl (by omega) (by omega) dc_396_37 (mk_isI (by first | exact hg2 | exact isK_S (by simp only [rIS, rJS, rAS, rLS, rVS, rQS, rS_hold]) hg2)) ?_
  refine Bod.eqI (nI e) (by first | assumption | rfl | exact congrArg nI (by omega) | (simp (disch := omega) only [rI, rIe, rA, rIA, rLA, rJA, rVI, rQI, rVA, rQA, upd_at,  rAI, rLI, rJI, nI_add, pk_sub, kc_0, kc_1, kc_2, kc_3, kc_4, kc_5, reduceIte, Nat.reduceEqDiff, Nat.add_zero, rI_hold, rI_hold, rL_hold, hfd9, he]; done)) ?_
  refine Bod.icF dc_396_38 rfl (k2_eq_F (k_ne nn e rfl rfl (by omega) (by omega) (by omega))) ?_
  refine Bod.go dc_396_41 rfl ?_
  refine Bod.ic 2 (by decide) dc_396_42 ?_
  refine Bod.virt (r := []) dc_396_43 kr_396_608 ⟨Or.inl rfl, ow_351, cl_14⟩ (by rw [np_351]; rfl) (by rw [np_351]; rfl) (ob_of (mk_61 _)) (Nat.le_of_ble_eq_true rfl) (c1  ) ?_
  show Bod _ _ _ _ [_] _ _ _
  exact Bod.retZ dc_396_46 rt_396 (Or.inl rfl)
theorem rBgI_1 {d : Nat} {S Sf : cS} {v : Option Value} {fo : Nat} {ba : Nat} {nn : Nat} {io : Nat} {mk : Nat} {g : Nat} {zg : Nat} {m : Nat} {zm : Nat} {r : Nat} {N : Nat} {fd9 : Nat} {e : Nat} {cl : Nat} {r1 : Nat} {N1 : Nat} {e1 : Nat} {S1 : cS} {a : Nat} {g1 : Nat} {zg1 : Nat} {fd11 : Nat} (mfo : fo < 2 ^ 20) (mba : ba < 2 ^ 20) (mnn : nn < 2 ^ 20) (mio : io < 2 ^ 20) (mmk : mk < 2 ^ 20) (b1 : fo < 1500) (ag : 108 ≤ g) (hq2 : sQ S 86 fo = some g) (hz1 : (sS S)[g - 108]? = some (13, zg)) (am : 108 ≤ m) (hv1 : sV S (100 * g + 8) = .ref m) (hz2 : (sS S)[m - 108]? = some (12, zm)) (hv2 : sV S (100 * m + 9) = .ref r) (hg2 : isK S r 0 N) (mN : N < 2 ^ 20) (hfd9 : sI S (100 * g + 9) = nI fd9) (mfd9 : fd9 < 2 ^ 20) (b2 : fd9 < N) (he : sA S r fd9 = nI e) (me : e < 2 ^ 20) (b3 : (nn + 1) = e) (hcl : sI S 6159 = nI cl) (mcl : cl < 32) (b4 : cl ≠ 31) (hv3 : sV S (100 * m + 10) = .ref r1) (hg3 : isK S r1 0 N1) (mN1 : N1 < 2 ^ 20) (b5 : fd9 < N1) (he1 : sA S r1 fd9 = nI e1) (me1 : e1 < 2 ^ 20) (b6 : e1 ≤ 300) (ma : a < 1500) (c1 : Ans (d + 8) 364 [.ref 61, .int (nI 7)] S (some (.int (nI a))) S1) (ag1 : 108 ≤ g1) (hq10 : sQ S1 86 a = some g1) (hz3 : (sS S1)[g - 108]? = some (13, zg)) (hfd11 : sI S1 (100 * g + 11) = nI fd11) (mfd11 : fd11 < 2 ^ 20) (hz4 : (sS S1)[g1 - 108]? = some (13, zg1)) (hB : ∀ lv1 : sm_L, sm_get lv1 0 = some (.ref 61) → sm_get lv1 2 = some (.int (nI ba)) → sm_get lv1 3 = some (.int (nI nn)) → sm_get lv1 4 = some (.int (nI io)) → sm_get lv1 5 = some (.int (nI mk)) → sm_get lv1 6 = some (.ref g) → sm_get lv1 7 = some (.int (nI (nn + 1))) → sm_get lv1 8 = some (.int (nI e1)) → sm_get lv1 9 = some (.int (nI a)) → sm_get lv1 10 = some (.ref g1) → sm_get lv1 11 = some (.int (nI 0)) → Bod (d + 8) 396 131 lv1 [] (wI (100 * g1 + 11) (nI fd11) S1) v Sf) : Bod (d + 8) 396 0 [(0, .ref 61), (1, .int (nI fo)), (2, .int (nI ba)), (3, .int (nI nn)), (4, .int (nI io)), (5, .int (nI mk))] [] S v Sf := by
  refine Bod.go dc_396_0 rfl ?_
  refine Bod.get dc_396_1 fr_396_485 (mk_61 _) rfl ?_
  refine Bod.go dc_396_4 rfl ?_
  refine Bod.aaldR (N := 1500) (b := g) fo rfl (by omega) (by omega) (by first | exact hq2 | (simp only [rIQ, rJQ, rAQ, rLQ, rVQ, rQ_holdE]; exact hq2)) dc_396_5 (mk_86 _) ht_5 ?_
  refine Bod.ast dc_396_6 (by rw [ml_396]; exact Nat.le_of_ble_eq_true rfl) ?_
  refine Bod.go dc_396_8 rfl ?_
  refine Bod.ifF dc_396_10 rfl (k1_lt_F io rfl (by omega)) ?_
  refine Bod.go dc_396_13 rfl ?_
  refine Bod.ic 1 (by decide) dc_396_14 ?_
  refine Bod.addN (nn + 1) (by omega) dc_396_15 ?_
  refine Bod.go dc_396_16 rfl ?_
  refine Bod.ist dc_396_20 (by rw [ml_396]; exact Nat.le_of_ble_eq_true rfl) ?_
  refine Bod.go dc_396_22 rfl ?_
  refine Bod.go dc_396_24 rfl ?_
  refine Bod.get dc_396_26 fr_396_533 (mk_thing ag (by first | exact hz1 | (simp only [rIS, rJS, rAS, rLS, rVS, rQS, rS_hold]; exact hz1))) rfl ?_
  refine Bod.eqV (.ref m) (by first | exact hv1 | (simp only [rIV, rJV, rAV, rLV, rQV, rV, reduceIte, Nat.reduceEqDiff]; exact hv1)) ?_
  refine Bod.get dc_396_29 fr_396_373 (mk_code am (by first | exact hz2 | (simp only [rIS, rJS, rAS, rLS, rVS, rQS, rS_hold]; exact hz2))) rfl ?_
  refine Bod.eqV (.ref r) (by first | exact hv2 | (simp only [rIV, rJV, rAV, rLV, rQV, rV, reduceIte, Nat.reduceEqDiff]; exact hv2)) ?_
  refine Bod.go dc_396_32 rfl ?_
  refine Bod.get dc_396_34 fr_396_689 (mk_thing ag (by first | exact hz1 | (simp only [rIS, rJS, rAS, rLS, rVS, rQS, rS_hold]; exact hz1))) rfl ?_
  refine Bod.eqI (nI fd9) (by first | assumption | rfl | exact congrArg nI (by omega) | (simp (disch := omega) only [rI, rIe, rA, rIA, rLA, rJA, rVI, rQI, rVA, rQA, upd_at,  rAI, rLI, rJI, nI_add, pk_sub, kc_0, kc_1, kc_2, kc_3, kc_4, kc_5, reduceIte, Nat.reduceEqDiff, Nat.add_zero, rI_hold, rI_hold, rL_hold, hfd9]; done)) ?_
  refine Bod.ialdN (N := N) fd9 rfl (by omega) (by omega) dc_396_37 (mk_isI (by first | exact hg2 | exact isK_S (by simp only [rIS, rJS, rAS, rLS, rVS, rQS, rS_hold]) hg2)) ?_
  refine Bod.eqI (nI e) (by first | assumption | rfl | exact congrArg nI (by omega) | (simp (disch := omega) only [rI, rIe, rA, rIA, rLA, rJA, rVI, rQI, rVA, rQA, upd_at,  rAI, rLI, rJI, nI_add, pk_sub, kc_0, kc_1, kc_2, kc_3, kc_4, kc_5, reduceIte, Nat.reduceEqDiff, Nat.add_zero, rI_hold, rI_hold, rL_hold, hfd9, he]; done)) ?_
  refine Bod.icT dc_396_38 rfl (k2_eq_T (k_eq (nn + 1) e rfl rfl (by omega))) ?_
  refine Bod.go dc_396_47 rfl ?_
  refine Bod.get dc_396_48 fr_396_502 (mk_61 _) rfl ?_
  refine Bod.eqI (nI cl) (by first | assumption | rfl | exact congrArg nI (by omega) | (simp (disch := omega) only [rI, rIe, rA, rIA, rLA, rJA, rVI, rQI, rVA, rQA, upd_at,  rAI, rLI, rJI, nI_add, pk_sub, kc_0, kc_1, kc_2, kc_3, kc_4, kc_5, reduceIte, Nat.reduceEqDiff, Nat.add_zero, rI_hold, rI_hold, rL_hold, hfd9, he, hcl]; done)) ?_
  refine Bod.bip 31 (by decide) dc_396_51 ?_
  refine Bod.icT dc_396_53 rfl (k2_ne_T (k_ne cl 31 rfl rfl (by omega) (by omega) (by omega))) ?_
  refine Bod.go dc_396_63 rfl ?_
  refine Bod.get dc_396_65 fr_396_533 (mk_thing ag (by first | exact hz1 | (simp only [rIS, rJS, rAS, rLS, rVS, rQS, rS_hold]; exact hz1))) rfl ?_
  refine Bod.eqV (.ref m) (by first | exact hv1 | (simp only [rIV, rJV, rAV, rLV, rQV, rV, reduceIte, Nat.reduceEqDiff]; exact hv1)) ?_
  refine Bod.get dc_396_68 fr_396_379 (mk_code am (by first | exact hz2 | (simp only [rIS, rJS, rAS, rLS, rVS, rQS, rS_hold]; exact hz2))) rfl ?_
  refine Bod.eqV (.ref r1) (by first | exact hv3 | (simp only [rIV, rJV, rAV, rLV, rQV, rV, reduceIte, Nat.reduceEqDiff]; exact hv3)) ?_
  refine Bod.go dc_396_71 rfl ?_
  refine Bod.get dc_396_73 fr_396_689 (mk_thing ag (by first | exact hz1 | (simp only [rIS, rJS, rAS, rLS, rVS, rQS, rS_hold]; exact hz1))) rfl ?_
  refine Bod.eqI (nI fd9) (by first | assumption | rfl | exact congrArg nI (by omega) | (simp (disch := omega) only [rI, rIe, rA, rIA, rLA, rJA, rVI, rQI, rVA, rQA, upd_at,  rAI, rLI, rJI, nI_add, pk_sub, kc_0, kc_1, kc_2, kc_3, kc_4, kc_5, reduceIte, Nat.reduceEqDiff, Nat.add_zero, rI_hold, rI_hold, rL_hold, hfd9, he, hcl]; done)) ?_
  refine Bod.ialdN (N := N1) fd9 rfl (by omega) (by omega) dc_396_76 (mk_isI (by first | exact hg3 | exact isK_S (by simp only [rIS, rJS, rAS, rLS, rVS, rQS, rS_hold]) hg3)) ?_
  refine Bod.eqI (nI e1) (by first | assumption | rfl | exact congrArg nI (by omega) | (simp (disch := omega) only [rI, rIe, rA, rIA, rLA, rJA, rVI, rQI, rVA, rQA, upd_at,  rAI, rLI, rJI, nI_add, pk_sub, kc_0, kc_1, kc_2, kc_3, kc_4, kc_5, reduceIte, Nat.reduceEqDiff, Nat.add_zero, rI_hold, rI_hold, rL_hold, hfd9, he, hcl, he1]; done)) ?_
  refine Bod.ist dc_396_77 (by rw [ml_396]; exact Nat.le_of_ble_eq_true rfl) ?_
  refine Bod.go dc_396_79 rfl ?_
  refine Bod.sip 300 (by decide) dc_396_81 ?_
  refine Bod.icT dc_396_84 rfl (k2_le_T e1 300 rfl rfl (by omega) (by omega)) ?_
  refine Bod.go dc_396_94 rfl ?_
  refine Bod.bip 7 (by decide) dc_396_95 ?_
  refine Bod.virt (r := []) dc_396_97 kr_396_686 ⟨Or.inl rfl, ow_364, cl_14⟩ (by rw [np_364]; rfl) (by rw [np_364]; rfl) (ob_of (mk_61 _)) (Nat.le_of_ble_eq_true rfl) (c1  ) ?_
  show Bod _ _ _ _ [_] _ _ _
  refine Bod.ist dc_396_100 (by rw [ml_396]; exact Nat.le_of_ble_eq_true rfl) ?_
  refine Bod.go dc_396_102 rfl ?_
  refine Bod.ifT dc_396_104 rfl (k1_ge_T a rfl (by omega)) ?_
  refine Bod.go dc_396_109 rfl ?_
  refine Bod.get dc_396_110 fr_396_485 (mk_61 _) rfl ?_
  refine Bod.go dc_396_113 rfl ?_
  refine Bod.aaldR (N := 1500) (b := g1) a rfl (by omega) (by omega) (by first | exact hq10 | (simp only [rIQ, rJQ, rAQ, rLQ, rVQ, rQ_holdE]; exact hq10)) dc_396_115 (mk_86 _) ht_5 ?_
  refine Bod.ast dc_396_116 (by rw [ml_396]; exact Nat.le_of_ble_eq_true rfl) ?_
  refine Bod.go dc_396_118 rfl ?_
  refine Bod.go dc_396_120 rfl ?_
  refine Bod.get dc_396_122 fr_396_472 (mk_thing ag (by first | exact hz3 | (simp only [rIS, rJS, rAS, rLS, rVS, rQS, rS_hold]; exact hz3))) rfl ?_
  refine Bod.eqI (nI fd11) (by first | assumption | (simp (disch := omega) only [rI, rIe, rA, rIA, rLA, rJA, rVI, rQI, rVA, rQA, upd_at,  rAI, rLI, rJI, nI_add, pk_sub, kc_0, kc_1, kc_2, kc_3, kc_4, kc_5, reduceIte, Nat.reduceEqDiff, Nat.add_zero, rI_hold, rI_hold, rL_hold, hfd9, he, hcl, he1, hfd11]; done) | (simp (disch := omega) only [rI, rIe, rA, rIA, rLA, rJA, rVI, rQI, rVA, rQA, upd_at,  rAI, rLI, rJI, nI_add, pk_sub, kc_0, kc_1, kc_2, kc_3, kc_4, kc_5, reduceIte, Nat.reduceEqDiff, Nat.add_zero, rI_hold, rI_hold, rL_hold, hfd9, he, hcl, he1, hfd11]; exact congrArg nI (by omega))) ?_
  refine Bod.put dc_396_125 fr_396_472 (mk_thing ag1 (by first | exact hz4 | (simp only [rIS, rJS, rAS, rLS, rVS, rQS, rS_hold]; exact hz4))) (Nat.le_of_ble_eq_true rfl) pf_13_11 (st_thing_11 ag1 (by first | exact hz4 | (simp only [rIS, rJS, rAS, rLS, rVS, rQS, rS_hold]; exact hz4))) (mu_I _ _ _) ?_
  refine Bod.ic 0 (by decide) dc_396_128 ?_
  refine Bod.ist dc_396_129 (by rw [ml_396]; exact Nat.le_of_ble_eq_true rfl) ?_
  exact hB _ (by first | rfl | exact (by repeat (first | exact rfl | exact sm_get_p1 | exact sm_get_p2e | refine sm_get_p1m (by decide) (by decide) ?_ | refine sm_get_p1n (by decide) rfl ?_ | refine sm_get_p2n (by decide) (by decide) rfl ?_ | refine sm_get_p2m (by decide) (by decide) (by decide) ?_))) (by first | rfl | exact (by repeat (first | exact rfl | exact sm_get_p1 | exact sm_get_p2e | refine sm_get_p1m (by decide) (by decide) ?_ | refine sm_get_p1n (by decide) rfl ?_ | refine sm_get_p2n (by decide) (by decide) rfl ?_ | refine sm_get_p2m (by decide) (by decide) (by decide) ?_))) (by first | rfl | exact (by repeat (first | exact rfl | exact sm_get_p1 | exact sm_get_p2e | refine sm_get_p1m (by decide) (by decide) ?_ | refine sm_get_p1n (by decide) rfl ?_ | refine sm_get_p2n (by decide) (by decide) rfl ?_ | refine sm_get_p2m (by decide) (by decide) (by decide) ?_))) (by first | rfl | exact (by repeat (first | exact rfl | exact sm_get_p1 | exact sm_get_p2e | refine sm_get_p1m (by decide) (by decide) ?_ | refine sm_get_p1n (by decide) rfl ?_ | refine sm_get_p2n (by decide) (by decide) rfl ?_ | refine sm_get_p2m (by decide) (by decide) (by decide) ?_))) (by first | rfl | exact (by repeat (first | exact rfl | exact sm_get_p1 | exact sm_get_p2e | refine sm_get_p1m (by decide) (by decide) ?_ | refine sm_get_p1n (by decide) rfl ?_ | refine sm_get_p2n (by decide) (by decide) rfl ?_ | refine sm_get_p2m (by decide) (by decide) (by decide) ?_))) (by first | rfl | exact (by repeat (first | exact rfl | exact sm_get_p1 | exact sm_get_p2e | refine sm_get_p1m (by decide) (by decide) ?_ | refine sm_get_p1n (by decide) rfl ?_ | refine sm_get_p2n (by decide) (by decide) rfl ?_ | refine sm_get_p2m (by decide) (by decide) (by decide) ?_))) (by first | rfl | exact (by repeat (first | exact rfl | exact sm_get_p1 | exact sm_get_p2e | refine sm_get_p1m (by decide) (by decide) ?_ | refine sm_get_p1n (by decide) rfl ?_ | refine sm_get_p2n (by decide) (by decide) rfl ?_ | refine sm_get_p2m (by decide) (by decide) (by decide) ?_))) (by first | rfl | exact (by repeat (first | exact rfl | exact sm_get_p1 | exact sm_get_p2e | refine sm_get_p1m (by decide) (by decide) ?_ | refine sm_get_p1n (by decide) rfl ?_ | refine sm_get_p2n (by decide) (by decide) rfl ?_ | refine sm_get_p2m (by decide) (by decide) (by decide) ?_))) (by first | rfl | exact (by repeat (first | exact rfl | exact sm_get_p1 | exact sm_get_p2e | refine sm_get_p1m (by decide) (by decide) ?_ | refine sm_get_p1n (by decide) rfl ?_ | refine sm_get_p2n (by decide) (by decide) rfl ?_ | refine sm_get_p2m (by decide) (by decide) (by decide) ?_))) (by first | rfl | exact (by repeat (first | exact rfl | exact sm_get_p1 | exact sm_get_p2e | refine sm_get_p1m (by decide) (by decide) ?_ | refine sm_get_p1n (by decide) rfl ?_ | refine sm_get_p2n (by decide) (by decide) rfl ?_ | refine sm_get_p2m (by decide) (by decide) (by decide) ?_))) (by first | rfl | exact (by repeat (first | exact rfl | exact sm_get_p1 | exact sm_get_p2e | refine sm_get_p1m (by decide) (by decide) ?_ | refine sm_get_p1n (by decide) rfl ?_ | refine sm_get_p2n (by decide) (by decide) rfl ?_ | refine sm_get_p2m (by decide) (by decide) (by decide) ?_)))
theorem rBgI_2 {d : Nat} {S Sf : cS} {v : Option Value} {fo : Nat} {ba : Nat} {nn : Nat} {io : Nat} {mk : Nat} {g : Nat} {zg : Nat} {m : Nat} {zm : Nat} {r : Nat} {N : Nat} {fd9 : Nat} {e : Nat} {cl : Nat} {r1 : Nat} {N1 : Nat} {e1 : Nat} {S1 : cS} {a : Nat} {g1 : Nat} {zg1 : Nat} (mfo : fo < 2 ^ 20) (mba : ba < 2 ^ 20) (mnn : nn < 2 ^ 20) (mio : io < 2 ^ 20) (mmk : mk < 2 ^ 20) (b1 : fo < 1500) (ag : 108 ≤ g) (hq2 : sQ S 86 fo = some g) (hz1 : (sS S)[g - 108]? = some (13, zg)) (am : 108 ≤ m) (hv1 : sV S (100 * g + 8) = .ref m) (hz2 : (sS S)[m - 108]? = some (12, zm)) (hv2 : sV S (100 * m + 9) = .ref r) (hg2 : isK S r 0 N) (mN : N < 2 ^ 20) (hfd9 : sI S (100 * g + 9) = nI fd9) (mfd9 : fd9 < 2 ^ 20) (b2 : fd9 < N) (he : sA S r fd9 = nI e) (me : e < 2 ^ 20) (b3 : (nn + 1) = e) (hcl : sI S 6159 = nI cl) (mcl : cl < 32) (b4 : cl ≠ 31) (hv3 : sV S (100 * m + 10) = .ref r1) (hg3 : isK S r1 0 N1) (mN1 : N1 < 2 ^ 20) (b5 : fd9 < N1) (he1 : sA S r1 fd9 = nI e1) (me1 : e1 < 2 ^ 20) (b6 : e1 ≤ 300) (ma : a < 1500) (c1 : Ans (d + 8) 364 [.ref 61, .int (nI 7)] S (some (.int (nI a))) S1) (ag1 : 108 ≤ g1) (hq10 : sQ S1 86 a = some g1) (hz3 : (sS S1)[g - 108]? = some (13, zg)) (n7 : sI S1 (100 * g + 11) = Int32.ofInt (-1)) (hz4 : (sS S1)[g1 - 108]? = some (13, zg1)) (hB : ∀ lv1 : sm_L, sm_get lv1 0 = some (.ref 61) → sm_get lv1 2 = some (.int (nI ba)) → sm_get lv1 3 = some (.int (nI nn)) → sm_get lv1 4 = some (.int (nI io)) → sm_get lv1 5 = some (.int (nI mk)) → sm_get lv1 6 = some (.ref g) → sm_get lv1 7 = some (.int (nI (nn + 1))) → sm_get lv1 8 = some (.int (nI e1)) → sm_get lv1 9 = some (.int (nI a)) → sm_get lv1 10 = some (.ref g1) → sm_get lv1 11 = some (.int (nI 0)) → Bod (d + 8) 396 131 lv1 [] (wI (100 * g1 + 11) (Int32.ofInt (-1)) S1) v Sf) : Bod (d + 8) 396 0 [(0, .ref 61), (1, .int (nI fo)), (2, .int (nI ba)), (3, .int (nI nn)), (4, .int (nI io)), (5, .int (nI mk))] [] S v Sf := by
  refine Bod.go dc_396_0 rfl ?_
  refine Bod.get dc_396_1 fr_396_485 (mk_61 _) rfl ?_
  refine Bod.go dc_396_4 rfl ?_
  refine Bod.aaldR (N := 1500) (b := g) fo rfl (by omega) (by omega) (by first | exact hq2 | (simp only [rIQ, rJQ, rAQ, rLQ, rVQ, rQ_holdE]; exact hq2)) dc_396_5 (mk_86 _) ht_5 ?_
  refine Bod.ast dc_396_6 (by rw [ml_396]; exact Nat.le_of_ble_eq_true rfl) ?_
  refine Bod.go dc_396_8 rfl ?_
  refine Bod.ifF dc_396_10 rfl (k1_lt_F io rfl (by omega)) ?_
  refine Bod.go dc_396_13 rfl ?_
  refine Bod.ic 1 (by decide) dc_396_14 ?_
  refine Bod.addN (nn + 1) (by omega) dc_396_15 ?_
  refine Bod.go dc_396_16 rfl ?_
  refine Bod.ist dc_396_20 (by rw [ml_396]; exact Nat.le_of_ble_eq_true rfl) ?_
  refine Bod.go dc_396_22 rfl ?_
  refine Bod.go dc_396_24 rfl ?_
  refine Bod.get dc_396_26 fr_396_533 (mk_thing ag (by first | exact hz1 | (simp only [rIS, rJS, rAS, rLS, rVS, rQS, rS_hold]; exact hz1))) rfl ?_
  refine Bod.eqV (.ref m) (by first | exact hv1 | (simp only [rIV, rJV, rAV, rLV, rQV, rV, reduceIte, Nat.reduceEqDiff]; exact hv1)) ?_
  refine Bod.get dc_396_29 fr_396_373 (mk_code am (by first | exact hz2 | (simp only [rIS, rJS, rAS, rLS, rVS, rQS, rS_hold]; exact hz2))) rfl ?_
  refine Bod.eqV (.ref r) (by first | exact hv2 | (simp only [rIV, rJV, rAV, rLV, rQV, rV, reduceIte, Nat.reduceEqDiff]; exact hv2)) ?_
  refine Bod.go dc_396_32 rfl ?_
  refine Bod.get dc_396_34 fr_396_689 (mk_thing ag (by first | exact hz1 | (simp only [rIS, rJS, rAS, rLS, rVS, rQS, rS_hold]; exact hz1))) rfl ?_
  refine Bod.eqI (nI fd9) (by first | assumption | rfl | exact congrArg nI (by omega) | (simp (disch := omega) only [rI, rIe, rA, rIA, rLA, rJA, rVI, rQI, rVA, rQA, upd_at,  rAI, rLI, rJI, nI_add, pk_sub, kc_0, kc_1, kc_2, kc_3, kc_4, kc_5, reduceIte, Nat.reduceEqDiff, Nat.add_zero, rI_hold, rI_hold, rL_hold, hfd9]; done)) ?_
  refine Bod.ialdN (N := N) fd9 rfl (by omega) (by omega) dc_396_37 (mk_isI (by first | exact hg2 | exact isK_S (by simp only [rIS, rJS, rAS, rLS, rVS, rQS, rS_hold]) hg2)) ?_
  refine Bod.eqI (nI e) (by first | assumption | rfl | exact congrArg nI (by omega) | (simp (disch := omega) only [rI, rIe, rA, rIA, rLA, rJA, rVI, rQI, rVA, rQA, upd_at,  rAI, rLI, rJI, nI_add, pk_sub, kc_0, kc_1, kc_2, kc_3, kc_4, kc_5, reduceIte, Nat.reduceEqDiff, Nat.add_zero, rI_hold, rI_hold, rL_hold, hfd9, he]; done)) ?_
  refine Bod.icT dc_396_38 rfl (k2_eq_T (k_eq (nn + 1) e rfl rfl (by omega))) ?_
  refine Bod.go dc_396_47 rfl ?_
  refine Bod.get dc_396_48 fr_396_502 (mk_61 _) rfl ?_
  refine Bod.eqI (nI cl) (by first | assumption | rfl | exact congrArg nI (by omega) | (simp (disch := omega) only [rI, rIe, rA, rIA, rLA, rJA, rVI, rQI, rVA, rQA, upd_at,  rAI, rLI, rJI, nI_add, pk_sub, kc_0, kc_1, kc_2, kc_3, kc_4, kc_5, reduceIte, Nat.reduceEqDiff, Nat.add_zero, rI_hold, rI_hold, rL_hold, hfd9, he, hcl]; done)) ?_
  refine Bod.bip 31 (by decide) dc_396_51 ?_
  refine Bod.icT dc_396_53 rfl (k2_ne_T (k_ne cl 31 rfl rfl (by omega) (by omega) (by omega))) ?_
  refine Bod.go dc_396_63 rfl ?_
  refine Bod.get dc_396_65 fr_396_533 (mk_thing ag (by first | exact hz1 | (simp only [rIS, rJS, rAS, rLS, rVS, rQS, rS_hold]; exact hz1))) rfl ?_
  refine Bod.eqV (.ref m) (by first | exact hv1 | (simp only [rIV, rJV, rAV, rLV, rQV, rV, reduceIte, Nat.reduceEqDiff]; exact hv1)) ?_
  refine Bod.get dc_396_68 fr_396_379 (mk_code am (by first | exact hz2 | (simp only [rIS, rJS, rAS, rLS, rVS, rQS, rS_hold]; exact hz2))) rfl ?_
  refine Bod.eqV (.ref r1) (by first | exact hv3 | (simp only [rIV, rJV, rAV, rLV, rQV, rV, reduceIte, Nat.reduceEqDiff]; exact hv3)) ?_
  refine Bod.go dc_396_71 rfl ?_
  refine Bod.get dc_396_73 fr_396_689 (mk_thing ag (by first | exact hz1 | (simp only [rIS, rJS, rAS, rLS, rVS, rQS, rS_hold]; exact hz1))) rfl ?_
  refine Bod.eqI (nI fd9) (by first | assumption | rfl | exact congrArg nI (by omega) | (simp (disch := omega) only [rI, rIe, rA, rIA, rLA, rJA, rVI, rQI, rVA, rQA, upd_at,  rAI, rLI, rJI, nI_add, pk_sub, kc_0, kc_1, kc_2, kc_3, kc_4, kc_5, reduceIte, Nat.reduceEqDiff, Nat.add_zero, rI_hold, rI_hold, rL_hold, hfd9, he, hcl]; done)) ?_
  refine Bod.ialdN (N := N1) fd9 rfl (by omega) (by omega) dc_396_76 (mk_isI (by first | exact hg3 | exact isK_S (by simp only [rIS, rJS, rAS, rLS, rVS, rQS, rS_hold]) hg3)) ?_
  refine Bod.eqI (nI e1) (by first | assumption | rfl | exact congrArg nI (by omega) | (simp (disch := omega) only [rI, rIe, rA, rIA, rLA, rJA, rVI, rQI, rVA, rQA, upd_at,  rAI, rLI, rJI, nI_add, pk_sub, kc_0, kc_1, kc_2, kc_3, kc_4, kc_5, reduceIte, Nat.reduceEqDiff, Nat.add_zero, rI_hold, rI_hold, rL_hold, hfd9, he, hcl, he1]; done)) ?_
  refine Bod.ist dc_396_77 (by rw [ml_396]; exact Nat.le_of_ble_eq_true rfl) ?_
  refine Bod.go dc_396_79 rfl ?_
  refine Bod.sip 300 (by decide) dc_396_81 ?_
  refine Bod.icT dc_396_84 rfl (k2_le_T e1 300 rfl rfl (by omega) (by omega)) ?_
  refine Bod.go dc_396_94 rfl ?_
  refine Bod.bip 7 (by decide) dc_396_95 ?_
  refine Bod.virt (r := []) dc_396_97 kr_396_686 ⟨Or.inl rfl, ow_364, cl_14⟩ (by rw [np_364]; rfl) (by rw [np_364]; rfl) (ob_of (mk_61 _)) (Nat.le_of_ble_eq_true rfl) (c1  ) ?_
  show Bod _ _ _ _ [_] _ _ _
  refine Bod.ist dc_396_100 (by rw [ml_396]; exact Nat.le_of_ble_eq_true rfl) ?_
  refine Bod.go dc_396_102 rfl ?_
  refine Bod.ifT dc_396_104 rfl (k1_ge_T a rfl (by omega)) ?_
  refine Bod.go dc_396_109 rfl ?_
  refine Bod.get dc_396_110 fr_396_485 (mk_61 _) rfl ?_
  refine Bod.go dc_396_113 rfl ?_
  refine Bod.aaldR (N := 1500) (b := g1) a rfl (by omega) (by omega) (by first | exact hq10 | (simp only [rIQ, rJQ, rAQ, rLQ, rVQ, rQ_holdE]; exact hq10)) dc_396_115 (mk_86 _) ht_5 ?_
  refine Bod.ast dc_396_116 (by rw [ml_396]; exact Nat.le_of_ble_eq_true rfl) ?_
  refine Bod.go dc_396_118 rfl ?_
  refine Bod.go dc_396_120 rfl ?_
  refine Bod.get dc_396_122 fr_396_472 (mk_thing ag (by first | exact hz3 | (simp only [rIS, rJS, rAS, rLS, rVS, rQS, rS_hold]; exact hz3))) rfl ?_
  refine Bod.eqI (Int32.ofInt (-1)) (by first | assumption | (simp (disch := omega) only [rI, rIe, rA, rIA, rLA, rJA, rVI, rQI, rVA, rQA, upd_at,  rAI, rLI, rJI, nI_add, pk_sub, kc_0, kc_1, kc_2, kc_3, kc_4, kc_5, reduceIte, Nat.reduceEqDiff, Nat.add_zero, rI_hold, rI_hold, rL_hold, hfd9, he, hcl, he1, n7]; done) | (simp (disch := omega) only [rI, rIe, rA, rIA, rLA, rJA, rVI, rQI, rVA, rQA, upd_at,  rAI, rLI, rJI, nI_add, pk_sub, kc_0, kc_1, kc_2, kc_3, kc_4, kc_5, reduceIte, Nat.reduceEqDiff, Nat.add_zero, rI_hold, rI_hold, rL_hold, hfd9, he, hcl, he1, n7]; exact congrArg nI (by omega))) ?_
  refine Bod.put dc_396_125 fr_396_472 (mk_thing ag1 (by first | exact hz4 | (simp only [rIS, rJS, rAS, rLS, rVS, rQS, rS_hold]; exact hz4))) (Nat.le_of_ble_eq_true rfl) pf_13_11 (st_thing_11 ag1 (by first | exact hz4 | (simp only [rIS, rJS, rAS, rLS, rVS, rQS, rS_hold]; exact hz4))) (mu_I _ _ _) ?_
  refine Bod.ic 0 (by decide) dc_396_128 ?_
  refine Bod.ist dc_396_129 (by rw [ml_396]; exact Nat.le_of_ble_eq_true rfl) ?_
  exact hB _ (by first | rfl | exact (by repeat (first | exact rfl | exact sm_get_p1 | exact sm_get_p2e | refine sm_get_p1m (by decide) (by decide) ?_ | refine sm_get_p1n (by decide) rfl ?_ | refine sm_get_p2n (by decide) (by decide) rfl ?_ | refine sm_get_p2m (by decide) (by decide) (by decide) ?_))) (by first | rfl | exact (by repeat (first | exact rfl | exact sm_get_p1 | exact sm_get_p2e | refine sm_get_p1m (by decide) (by decide) ?_ | refine sm_get_p1n (by decide) rfl ?_ | refine sm_get_p2n (by decide) (by decide) rfl ?_ | refine sm_get_p2m (by decide) (by decide) (by decide) ?_))) (by first | rfl | exact (by repeat (first | exact rfl | exact sm_get_p1 | exact sm_get_p2e | refine sm_get_p1m (by decide) (by decide) ?_ | refine sm_get_p1n (by decide) rfl ?_ | refine sm_get_p2n (by decide) (by decide) rfl ?_ | refine sm_get_p2m (by decide) (by decide) (by decide) ?_))) (by first | rfl | exact (by repeat (first | exact rfl | exact sm_get_p1 | exact sm_get_p2e | refine sm_get_p1m (by decide) (by decide) ?_ | refine sm_get_p1n (by decide) rfl ?_ | refine sm_get_p2n (by decide) (by decide) rfl ?_ | refine sm_get_p2m (by decide) (by decide) (by decide) ?_))) (by first | rfl | exact (by repeat (first | exact rfl | exact sm_get_p1 | exact sm_get_p2e | refine sm_get_p1m (by decide) (by decide) ?_ | refine sm_get_p1n (by decide) rfl ?_ | refine sm_get_p2n (by decide) (by decide) rfl ?_ | refine sm_get_p2m (by decide) (by decide) (by decide) ?_))) (by first | rfl | exact (by repeat (first | exact rfl | exact sm_get_p1 | exact sm_get_p2e | refine sm_get_p1m (by decide) (by decide) ?_ | refine sm_get_p1n (by decide) rfl ?_ | refine sm_get_p2n (by decide) (by decide) rfl ?_ | refine sm_get_p2m (by decide) (by decide) (by decide) ?_))) (by first | rfl | exact (by repeat (first | exact rfl | exact sm_get_p1 | exact sm_get_p2e | refine sm_get_p1m (by decide) (by decide) ?_ | refine sm_get_p1n (by decide) rfl ?_ | refine sm_get_p2n (by decide) (by decide) rfl ?_ | refine sm_get_p2m (by decide) (by decide) (by decide) ?_))) (by first | rfl | exact (by repeat (first | exact rfl | exact sm_get_p1 | exact sm_get_p2e | refine sm_get_p1m (by decide) (by decide) ?_ | refine sm_get_p1n (by decide) rfl ?_ | refine sm_get_p2n (by decide) (by decide) rfl ?_ | refine sm_get_p2m (by decide) (by decide) (by decide) ?_))) (by first | rfl | exact (by repeat (first | exact rfl | exact sm_get_p1 | exact sm_get_p2e | refine sm_get_p1m (by decide) (by decide) ?_ | refine sm_get_p1n (by decide) rfl ?_ | refine sm_get_p2n (by decide) (by decide) rfl ?_ | refine sm_get_p2m (by decide) (by decide) (by decide) ?_))) (by first | rfl | exact (by repeat (first | exact rfl | exact sm_get_p1 | exact sm_get_p2e | refine sm_get_p1m (by decide) (by decide) ?_ | refine sm_get_p1n (by decide) rfl ?_ | refine sm_get_p2n (by decide) (by decide) rfl ?_ | refine sm_get_p2m (by decide) (by decide) (by decide) ?_))) (by first | rfl | exact (by repeat (first | exact rfl | exact sm_get_p1 | exact sm_get_p2e | refine sm_get_p1m (by decide) (by decide) ?_ | refine sm_get_p1n (by decide) rfl ?_ | refine sm_get_p2n (by decide) (by decide) rfl ?_ | refine sm_get_p2m (by decide) (by decide) (by decide) ?_)))
theorem rBgI_3 {d : Nat} {S : cS} {fo : Nat} {ba : Nat} {nn : Nat} {io : Nat} {mk : Nat} {g : Nat} {zg : Nat} {m : Nat} {zm : Nat} {r : Nat} {N : Nat} {fd9 : Nat} {e : Nat} {cl : Nat} {r1 : Nat} {N1 : Nat} {e1 : Nat} {S1 : cS} (mfo : fo < 2 ^ 20) (mba : ba < 2 ^ 20) (mnn : nn < 2 ^ 20) (mio : io < 2 ^ 20) (mmk : mk < 2 ^ 20) (b1 : fo < 1500) (ag : 108 ≤ g) (hq2 : sQ S 86 fo = some g) (hz1 : (sS S)[g - 108]? = some (13, zg)) (am : 108 ≤ m) (hv1 : sV S (100 * g + 8) = .ref m) (hz2 : (sS S)[m - 108]? = some (12, zm)) (hv2 : sV S (100 * m + 9) = .ref r) (hg2 : isK S r 0 N) (mN : N < 2 ^ 20) (hfd9 : sI S (100 * g + 9) = nI fd9) (mfd9 : fd9 < 2 ^ 20) (b2 : fd9 < N) (he : sA S r fd9 = nI e) (me : e < 2 ^ 20) (b3 : (nn + 1) = e) (hcl : sI S 6159 = nI cl) (mcl : cl < 32) (b4 : cl ≠ 31) (hv3 : sV S (100 * m + 10) = .ref r1) (hg3 : isK S r1 0 N1) (mN1 : N1 < 2 ^ 20) (b5 : fd9 < N1) (he1 : sA S r1 fd9 = nI e1) (me1 : e1 < 2 ^ 20) (b6 : e1 ≤ 300) (c1 : Ans (d + 8) 364 [.ref 61, .int (nI 7)] S (some (.int (Int32.ofInt (-1)))) S1) : Bod (d + 8) 396 0 [(0, .ref 61), (1, .int (nI fo)), (2, .int (nI ba)), (3, .int (nI nn)), (4, .int (nI io)), (5, .int (nI mk))] [] S (some (.int 0)) (S1) := by
  refine Bod.go dc_396_0 rfl ?_
  refine Bod.get dc_396_1 fr_396_485 (mk_61 _) rfl ?_
  refine Bod.go dc_396_4 rfl ?_
  refine Bod.aaldR (N := 1500) (b := g) fo rfl (by omega) (by omega) (by first | exact hq2 | (simp only [rIQ, rJQ, rAQ, rLQ, rVQ, rQ_holdE]; exact hq2)) dc_396_5 (mk_86 _) ht_5 ?_
  refine Bod.ast dc_396_6 (by rw [ml_396]; exact Nat.le_of_ble_eq_true rfl) ?_
  refine Bod.go dc_396_8 rfl ?_
  refine Bod.ifF dc_396_10 rfl (k1_lt_F io rfl (by omega)) ?_
  refine Bod.go dc_396_13 rfl ?_
  refine Bod.ic 1 (by decide) dc_396_14 ?_
  refine Bod.addN (nn + 1) (by omega) dc_396_15 ?_
  refine Bod.go dc_396_16 rfl ?_
  refine Bod.ist dc_396_20 (by rw [ml_396]; exact Nat.le_of_ble_eq_true rfl) ?_
  refine Bod.go dc_396_22 rfl ?_
  refine Bod.go dc_396_24 rfl ?_
  refine Bod.get dc_396_26 fr_396_533 (mk_thing ag (by first | exact hz1 | (simp only [rIS, rJS, rAS, rLS, rVS, rQS, rS_hold]; exact hz1))) rfl ?_
  refine Bod.eqV (.ref m) (by first | exact hv1 | (simp only [rIV, rJV, rAV, rLV, rQV, rV, reduceIte, Nat.reduceEqDiff]; exact hv1)) ?_
  refine Bod.get dc_396_29 fr_396_373 (mk_code am (by first | exact hz2 | (simp only [rIS, rJS, rAS, rLS, rVS, rQS, rS_hold]; exact hz2))) rfl ?_
  refine Bod.eqV (.ref r) (by first | exact hv2 | (simp only [rIV, rJV, rAV, rLV, rQV, rV, reduceIte, Nat.reduceEqDiff]; exact hv2)) ?_
  refine Bod.go dc_396_32 rfl ?_
  refine Bod.get dc_396_34 fr_396_689 (mk_thing ag (by first | exact hz1 | (simp only [rIS, rJS, rAS, rLS, rVS, rQS, rS_hold]; exact hz1))) rfl ?_
  refine Bod.eqI (nI fd9) (by first | assumption | rfl | exact congrArg nI (by omega) | (simp (disch := omega) only [rI, rIe, rA, rIA, rLA, rJA, rVI, rQI, rVA, rQA, upd_at,  rAI, rLI, rJI, nI_add, pk_sub, kc_0, kc_1, kc_2, kc_3, kc_4, kc_5, reduceIte, Nat.reduceEqDiff, Nat.add_zero, rI_hold, rI_hold, rL_hold, hfd9]; done)) ?_
  refine Bod.ialdN (N := N) fd9 rfl (by omega) (by omega) dc_396_37 (mk_isI (by first | exact hg2 | exact isK_S (by simp only [rIS, rJS, rAS, rLS, rVS, rQS, rS_hold]) hg2)) ?_
  refine Bod.eqI (nI e) (by first | assumption | rfl | exact congrArg nI (by omega) | (simp (disch := omega) only [rI, rIe, rA, rIA, rLA, rJA, rVI, rQI, rVA, rQA, upd_at,  rAI, rLI, rJI, nI_add, pk_sub, kc_0, kc_1, kc_2, kc_3, kc_4, kc_5, reduceIte, Nat.reduceEqDiff, Nat.add_zero, rI_hold, rI_hold, rL_hold, hfd9, he]; done)) ?_
  refine Bod.icT dc_396_38 rfl (k2_eq_T (k_eq (nn + 1) e rfl rfl (by omega))) ?_
  refine Bod.go dc_396_47 rfl ?_
  refine Bod.get dc_396_48 fr_396_502 (mk_61 _) rfl ?_
  refine Bod.eqI (nI cl) (by first | assumption | rfl | exact congrArg nI (by omega) | (simp (disch := omega) only [rI, rIe, rA, rIA, rLA, rJA, rVI, rQI, rVA, rQA, upd_at,  rAI, rLI, rJI, nI_add, pk_sub, kc_0, kc_1, kc_2, kc_3, kc_4, kc_5, reduceIte, Nat.reduceEqDiff, Nat.add_zero, rI_hold, rI_hold, rL_hold, hfd9, he, hcl]; done)) ?_
  refine Bod.bip 31 (by decide) dc_396_51 ?_
  refine Bod.icT dc_396_53 rfl (k2_ne_T (k_ne cl 31 rfl rfl (by omega) (by omega) (by omega))) ?_
  refine Bod.go dc_396_63 rfl ?_
  refine Bod.get dc_396_65 fr_396_533 (mk_thing ag (by first | exact hz1 | (simp only [rIS, rJS, rAS, rLS, rVS, rQS, rS_hold]; exact hz1))) rfl ?_
  refine Bod.eqV (.ref m) (by first | exact hv1 | (simp only [rIV, rJV, rAV, rLV, rQV, rV, reduceIte, Nat.reduceEqDiff]; exact hv1)) ?_
  refine Bod.get dc_396_68 fr_396_379 (mk_code am (by first | exact hz2 | (simp only [rIS, rJS, rAS, rLS, rVS, rQS, rS_hold]; exact hz2))) rfl ?_
  refine Bod.eqV (.ref r1) (by first | exact hv3 | (simp only [rIV, rJV, rAV, rLV, rQV, rV, reduceIte, Nat.reduceEqDiff]; exact hv3)) ?_
  refine Bod.go dc_396_71 rfl ?_
  refine Bod.get dc_396_73 fr_396_689 (mk_thing ag (by first | exact hz1 | (simp only [rIS, rJS, rAS, rLS, rVS, rQS, rS_hold]; exact hz1))) rfl ?_
  refine Bod.eqI (nI fd9) (by first | assumption | rfl | exact congrArg nI (by omega) | (simp (disch := omega) only [rI, rIe, rA, rIA, rLA, rJA, rVI, rQI, rVA, rQA, upd_at,  rAI, rLI, rJI, nI_add, pk_sub, kc_0, kc_1, kc_2, kc_3, kc_4, kc_5, reduceIte, Nat.reduceEqDiff, Nat.add_zero, rI_hold, rI_hold, rL_hold, hfd9, he, hcl]; done)) ?_
  refine Bod.ialdN (N := N1) fd9 rfl (by omega) (by omega) dc_396_76 (mk_isI (by first | exact hg3 | exact isK_S (by simp only [rIS, rJS, rAS, rLS, rVS, rQS, rS_hold]) hg3)) ?_
  refine Bod.eqI (nI e1) (by first | assumption | rfl | exact congrArg nI (by omega) | (simp (disch := omega) only [rI, rIe, rA, rIA, rLA, rJA, rVI, rQI, rVA, rQA, upd_at,  rAI, rLI, rJI, nI_add, pk_sub, kc_0, kc_1, kc_2, kc_3, kc_4, kc_5, reduceIte, Nat.reduceEqDiff, Nat.add_zero, rI_hold, rI_hold, rL_hold, hfd9, he, hcl, he1]; done)) ?_
  refine Bod.ist dc_396_77 (by rw [ml_396]; exact Nat.le_of_ble_eq_true rfl) ?_
  refine Bod.go dc_396_79 rfl ?_
  refine Bod.sip 300 (by decide) dc_396_81 ?_
  refine Bod.icT dc_396_84 rfl (k2_le_T e1 300 rfl rfl (by omega) (by omega)) ?_
  refine Bod.go dc_396_94 rfl ?_
  refine Bod.bip 7 (by decide) dc_396_95 ?_
  refine Bod.virt (r := []) dc_396_97 kr_396_686 ⟨Or.inl rfl, ow_364, cl_14⟩ (by rw [np_364]; rfl) (by rw [np_364]; rfl) (ob_of (mk_61 _)) (Nat.le_of_ble_eq_true rfl) (c1  ) ?_
  show Bod _ _ _ _ [_] _ _ _
  refine Bod.ist dc_396_100 (by rw [ml_396]; exact Nat.le_of_ble_eq_true rfl) ?_
  refine Bod.go dc_396_102 rfl ?_
  refine Bod.ifF dc_396_104 rfl (by decide) ?_
  refine Bod.ic 0 (by decide) dc_396_107 ?_
  exact Bod.retZ dc_396_108 rt_396 (Or.inl rfl)
theorem rBgI_4 {d : Nat} {S : cS} {fo : Nat} {ba : Nat} {nn : Nat} {io : Nat} {mk : Nat} {g : Nat} {zg : Nat} {m : Nat} {zm : Nat} {r : Nat} {N : Nat} {fd9 : Nat} {e : Nat} {cl : Nat} {r1 : Nat} {N1 : Nat} {e1 : Nat} {S1 : cS} (mfo : fo < 2 ^ 20) (mba : ba < 2 ^ 20) (mnn : nn < 2 ^ 20) (mio : io < 2 ^ 20) (mmk : mk < 2 ^ 20) (b1 : fo < 1500) (ag : 108 ≤ g) (hq2 : sQ S 86 fo = some g) (hz1 : (sS S)[g - 108]? = some (13, zg)) (am : 108 ≤ m) (hv1 : sV S (100 * g + 8) = .ref m) (hz2 : (sS S)[m - 108]? = some (12, zm)) (hv2 : sV S (100 * m + 9) = .ref r) (hg2 : isK S r 0 N) (mN : N < 2 ^ 20) (hfd9 : sI S (100 * g + 9) = nI fd9) (mfd9 : fd9 < 2 ^ 20) (b2 : fd9 < N) (he : sA S r fd9 = nI e) (me : e < 2 ^ 20) (b3 : (nn + 1) = e) (hcl : sI S 6159 = nI cl) (mcl : cl < 32) (b4 : cl ≠ 31) (hv3 : sV S (100 * m + 10) = .ref r1) (hg3 : isK S r1 0 N1) (mN1 : N1 < 2 ^ 20) (b5 : fd9 < N1) (he1 : sA S r1 fd9 = nI e1) (me1 : e1 < 2 ^ 20) (b6 : 300 < e1) (c1 : Ans (d + 8) 351 [.ref 61, .int (nI 8)] S (some (.int (nI 0))) S1) : Bod (d + 8) 396 0 [(0, .ref 61), (1, .int (nI fo)), (2, .int (nI ba)), (3, .int (nI nn)), (4, .int (nI io)), (5, .int (nI mk))] [] S (some (.int 0)) (S1) := by
  refine Bod.go dc_396_0 rfl ?_
  refine Bod.get dc_396_1 fr_396_485 (mk_61 _) rfl ?_
  refine Bod.go dc_396_4 rfl ?_
  refine Bod.aaldR (N := 1500) (b := g) fo rfl (by omega) (by omega) (by first | exact hq2 | (simp only [rIQ, rJQ, rAQ, rLQ, rVQ, rQ_holdE]; exact hq2)) dc_396_5 (mk_86 _) ht_5 ?_
  refine Bod.ast dc_396_6 (by rw [ml_396]; exact Nat.le_of_ble_eq_true rfl) ?_
  refine Bod.go dc_396_8 rfl ?_
  refine Bod.ifF dc_396_10 rfl (k1_lt_F io rfl (by omega)) ?_
  refine Bod.go dc_396_13 rfl ?_
  refine Bod.ic 1 (by decide) dc_396_14 ?_
  refine Bod.addN (nn + 1) (by omega) dc_396_15 ?_
  refine Bod.go dc_396_16 rfl ?_
  refine Bod.ist dc_396_20 (by rw [ml_396]; exact Nat.le_of_ble_eq_true rfl) ?_
  refine Bod.go dc_396_22 rfl ?_
  refine Bod.go dc_396_24 rfl ?_
  refine Bod.get dc_396_26 fr_396_533 (mk_thing ag (by first | exact hz1 | (simp only [rIS, rJS, rAS, rLS, rVS, rQS, rS_hold]; exact hz1))) rfl ?_
  refine Bod.eqV (.ref m) (by first | exact hv1 | (simp only [rIV, rJV, rAV, rLV, rQV, rV, reduceIte, Nat.reduceEqDiff]; exact hv1)) ?_
  refine Bod.get dc_396_29 fr_396_373 (mk_code am (by first | exact hz2 | (simp only [rIS, rJS, rAS, rLS, rVS, rQS, rS_hold]; exact hz2))) rfl ?_
  refine Bod.eqV (.ref r) (by first | exact hv2 | (simp only [rIV, rJV, rAV, rLV, rQV, rV, reduceIte, Nat.reduceEqDiff]; exact hv2)) ?_
  refine Bod.go dc_396_32 rfl ?_
  refine Bod.get dc_396_34 fr_396_689 (mk_thing ag (by first | exact hz1 | (simp only [rIS, rJS, rAS, rLS, rVS, rQS, rS_hold]; exact hz1))) rfl ?_
  refine Bod.eqI (nI fd9) (by first | assumption | rfl | exact congrArg nI (by omega) | (simp (disch := omega) only [rI, rIe, rA, rIA, rLA, rJA, rVI, rQI, rVA, rQA, upd_at,  rAI, rLI, rJI, nI_add, pk_sub, kc_0, kc_1, kc_2, kc_3, kc_4, kc_5, reduceIte, Nat.reduceEqDiff, Nat.add_zero, rI_hold, rI_hold, rL_hold, hfd9]; done)) ?_
  refine Bod.ialdN (N := N) fd9 rfl (by omega) (by omega) dc_396_37 (mk_isI (by first | exact hg2 | exact isK_S (by simp only [rIS, rJS, rAS, rLS, rVS, rQS, rS_hold]) hg2)) ?_
  refine Bod.eqI (nI e) (by first | assumption | rfl | exact congrArg nI (by omega) | (simp (disch := omega) only [rI, rIe, rA, rIA, rLA, rJA, rVI, rQI, rVA, rQA, upd_at,  rAI, rLI, rJI, nI_add, pk_sub, kc_0, kc_1, kc_2, kc_3, kc_4, kc_5, reduceIte, Nat.reduceEqDiff, Nat.add_zero, rI_hold, rI_hold, rL_hold, hfd9, he]; done)) ?_
  refine Bod.icT dc_396_38 rfl (k2_eq_T (k_eq (nn + 1) e rfl rfl (by omega))) ?_
  refine Bod.go dc_396_47 rfl ?_
  refine Bod.get dc_396_48 fr_396_502 (mk_61 _) rfl ?_
  refine Bod.eqI (nI cl) (by first | assumption | rfl | exact congrArg nI (by omega) | (simp (disch := omega) only [rI, rIe, rA, rIA, rLA, rJA, rVI, rQI, rVA, rQA, upd_at,  rAI, rLI, rJI, nI_add, pk_sub, kc_0, kc_1, kc_2, kc_3, kc_4, kc_5, reduceIte, Nat.reduceEqDiff, Nat.add_zero, rI_hold, rI_hold, rL_hold, hfd9, he, hcl]; done)) ?_
  refine Bod.bip 31 (by decide) dc_396_51 ?_
  refine Bod.icT dc_396_53 rfl (k2_ne_T (k_ne cl 31 rfl rfl (by omega) (by omega) (by omega))) ?_
  refine Bod.go dc_396_63 rfl ?_
  refine Bod.get dc_396_65 fr_396_533 (mk_thing ag (by first | exact hz1 | (simp only [rIS, rJS, rAS, rLS, rVS, rQS, rS_hold]; exact hz1))) rfl ?_
  refine Bod.eqV (.ref m) (by first | exact hv1 | (simp only [rIV, rJV, rAV, rLV, rQV, rV, reduceIte, Nat.reduceEqDiff]; exact hv1)) ?_
  refine Bod.get dc_396_68 fr_396_379 (mk_code am (by first | exact hz2 | (simp only [rIS, rJS, rAS, rLS, rVS, rQS, rS_hold]; exact hz2))) rfl ?_
  refine Bod.eqV (.ref r1) (by first | exact hv3 | (simp only [rIV, rJV, rAV, rLV, rQV, rV, reduceIte, Nat.reduceEqDiff]; exact hv3)) ?_
  refine Bod.go dc_396_71 rfl ?_
  refine Bod.get dc_396_73 fr_396_689 (mk_thing ag (by first | exact hz1 | (simp only [rIS, rJS, rAS, rLS, rVS, rQS, rS_hold]; exact hz1))) rfl ?_
  refine Bod.eqI (nI fd9) (by first | assumption | rfl | exact congrArg nI (by omega) | (simp (disch := omega) only [rI, rIe, rA, rIA, rLA, rJA, rVI, rQI, rVA, rQA, upd_at,  rAI, rLI, rJI, nI_add, pk_sub, kc_0, kc_1, kc_2, kc_3, kc_4, kc_5, reduceIte, Nat.reduceEqDiff, Nat.add_zero, rI_hold, rI_hold, rL_hold, hfd9, he, hcl]; done)) ?_
  refine Bod.ialdN (N := N1) fd9 rfl (by omega) (by omega) dc_396_76 (mk_isI (by first | exact hg3 | exact isK_S (by simp only [rIS, rJS, rAS, rLS, rVS, rQS, rS_hold]) hg3)) ?_
  refine Bod.eqI (nI e1) (by first | assumption | rfl | exact congrArg nI (by omega) | (simp (disch := omega) only [rI, rIe, rA, rIA, rLA, rJA, rVI, rQI, rVA, rQA, upd_at,  rAI, rLI, rJI, nI_add, pk_sub, kc_0, kc_1, kc_2, kc_3, kc_4, kc_5, reduceIte, Nat.reduceEqDiff, Nat.add_zero, rI_hold, rI_hold, rL_hold, hfd9, he, hcl, he1]; done)) ?_
  refine Bod.ist dc_396_77 (by rw [ml_396]; exact Nat.le_of_ble_eq_true rfl) ?_
  refine Bod.go dc_396_79 rfl ?_
  refine Bod.sip 300 (by decide) dc_396_81 ?_
  refine Bod.icF dc_396_84 rfl (k2_le_F e1 300 rfl rfl (by omega) (by omega)) ?_
  refine Bod.go dc_396_87 rfl ?_
  refine Bod.bip 8 (by decide) dc_396_88 ?_
  refine Bod.virt (r := []) dc_396_90 kr_396_608 ⟨Or.inl rfl, ow_351, cl_14⟩ (by rw [np_351]; rfl) (by rw [np_351]; rfl) (ob_of (mk_61 _)) (Nat.le_of_ble_eq_true rfl) (c1  ) ?_
  show Bod _ _ _ _ [_] _ _ _
  exact Bod.retZ dc_396_93 rt_396 (Or.inl rfl)
theorem rBgI_5 {d : Nat} {S : cS} {fo : Nat} {ba : Nat} {nn : Nat} {io : Nat} {mk : Nat} {g : Nat} {zg : Nat} {m : Nat} {zm : Nat} {r : Nat} {N : Nat} {fd9 : Nat} {e : Nat} {cl : Nat} {S1 : cS} (mfo : fo < 2 ^ 20) (mba : ba < 2 ^ 20) (mnn : nn < 2 ^ 20) (mio : io < 2 ^ 20) (mmk : mk < 2 ^ 20) (b1 : fo < 1500) (ag : 108 ≤ g) (hq2 : sQ S 86 fo = some g) (hz1 : (sS S)[g - 108]? = some (13, zg)) (am : 108 ≤ m) (hv1 : sV S (100 * g + 8) = .ref m) (hz2 : (sS S)[m - 108]? = some (12, zm)) (hv2 : sV S (100 * m + 9) = .ref r) (hg2 : isK S r 0 N) (mN : N < 2 ^ 20) (hfd9 : sI S (100 * g + 9) = nI fd9) (mfd9 : fd9 < 2 ^ 20) (b2 : fd9 < N) (he : sA S r fd9 = nI e) (me : e < 2 ^ 20) (b3 : (nn + 1) = e) (hcl : sI S 6159 = nI cl) (mcl : cl < 32) (b4 : cl = 31) (c1 : Ans (d + 8) 351 [.ref 61, .int (nI 7)] S (some (.int (nI 0))) S1) : Bod (d + 8) 396 0 [(0, .ref 61), (1, .int (nI fo)), (2, .int (nI ba)), (3, .int (nI nn)), (4, .int (nI io)), (5, .int (nI mk))] [] S (some (.int 0)) (S1) := by
  refine Bod.go dc_396_0 rfl ?_
  refine Bod.get dc_396_1 fr_396_485 (mk_61 _) rfl ?_
  refine Bod.go dc_396_4 rfl ?_
  refine Bod.aaldR (N := 1500) (b := g) fo rfl (by omega) (by omega) (by first | exact hq2 | (simp only [rIQ, rJQ, rAQ, rLQ, rVQ, rQ_holdE]; exact hq2)) dc_396_5 (mk_86 _) ht_5 ?_
  refine Bod.ast dc_396_6 (by rw [ml_396]; exact Nat.le_of_ble_eq_true rfl) ?_
  refine Bod.go dc_396_8 rfl ?_
  refine Bod.ifF dc_396_10 rfl (k1_lt_F io rfl (by omega)) ?_
  refine Bod.go dc_396_13 rfl ?_
  refine Bod.ic 1 (by decide) dc_396_14 ?_
  refine Bod.addN (nn + 1) (by omega) dc_396_15 ?_
  refine Bod.go dc_396_16 rfl ?_
  refine Bod.ist dc_396_20 (by rw [ml_396]; exact Nat.le_of_ble_eq_true rfl) ?_
  refine Bod.go dc_396_22 rfl ?_
  refine Bod.go dc_396_24 rfl ?_
  refine Bod.get dc_396_26 fr_396_533 (mk_thing ag (by first | exact hz1 | (simp only [rIS, rJS, rAS, rLS, rVS, rQS, rS_hold]; exact hz1))) rfl ?_
  refine Bod.eqV (.ref m) (by first | exact hv1 | (simp only [rIV, rJV, rAV, rLV, rQV, rV, reduceIte, Nat.reduceEqDiff]; exact hv1)) ?_
  refine Bod.get dc_396_29 fr_396_373 (mk_code am (by first | exact hz2 | (simp only [rIS, rJS, rAS, rLS, rVS, rQS, rS_hold]; exact hz2))) rfl ?_
  refine Bod.eqV (.ref r) (by first | exact hv2 | (simp only [rIV, rJV, rAV, rLV, rQV, rV, reduceIte, Nat.reduceEqDiff]; exact hv2)) ?_
  refine Bod.go dc_396_32 rfl ?_
  refine Bod.get dc_396_34 fr_396_689 (mk_thing ag (by first | exact hz1 | (simp only [rIS, rJS, rAS, rLS, rVS, rQS, rS_hold]; exact hz1))) rfl ?_
  refine Bod.eqI (nI fd9) (by first | assumption | rfl | exact congrArg nI (by omega) | (simp (disch := omega) only [rI, rIe, rA, rIA, rLA, rJA, rVI, rQI, rVA, rQA, upd_at,  rAI, rLI, rJI, nI_add, pk_sub, kc_0, kc_1, kc_2, kc_3, kc_4, kc_5, reduceIte, Nat.reduceEqDiff, Nat.add_zero, rI_hold, rI_hold, rL_hold, hfd9]; done)) ?_
  refine Bod.ialdN (N := N) fd9 rfl (by omega) (by omega) dc_396_37 (mk_isI (by first | exact hg2 | exact isK_S (by simp only [rIS, rJS, rAS, rLS, rVS, rQS, rS_hold]) hg2)) ?_
  refine Bod.eqI (nI e) (by first | assumption | rfl | exact congrArg nI (by omega) | (simp (disch := omega) only [rI, rIe, rA, rIA, rLA, rJA, rVI, rQI, rVA, rQA, upd_at,  rAI, rLI, rJI, nI_add, pk_sub, kc_0, kc_1, kc_2, kc_3, kc_4, kc_5, reduceIte, Nat.reduceEqDiff, Nat.add_zero, rI_hold, rI_hold, rL_hold, hfd9, he]; done)) ?_
  refine Bod.icT dc_396_38 rfl (k2_eq_T (k_eq (nn + 1) e rfl rfl (by omega))) ?_
  refine Bod.go dc_396_47 rfl ?_
  refine Bod.get dc_396_48 fr_396_502 (mk_61 _) rfl ?_
  refine Bod.eqI (nI cl) (by first | assumption | rfl | exact congrArg nI (by omega) | (simp (disch := omega) only [rI, rIe, rA, rIA, rLA, rJA, rVI, rQI, rVA, rQA, upd_at,  rAI, rLI, rJI, nI_add, pk_sub, kc_0, kc_1, kc_2, kc_3, kc_4, kc_5, reduceIte, Nat.reduceEqDiff, Nat.add_zero, rI_hold, rI_hold, rL_hold, hfd9, he, hcl]; done)) ?_
  refine Bod.bip 31 (by decide) dc_396_51 ?_
  refine Bod.icF dc_396_53 rfl (k2_ne_F (k_eq cl 31 rfl rfl (by omega))) ?_
  refine Bod.go dc_396_56 rfl ?_
  refine Bod.bip 7 (by decide) dc_396_57 ?_
  refine Bod.virt (r := []) dc_396_59 kr_396_608 ⟨Or.inl rfl, ow_351, cl_14⟩ (by rw [np_351]; rfl) (by rw [np_351]; rfl) (ob_of (mk_61 _)) (Nat.le_of_ble_eq_true rfl) (c1  ) ?_
  show Bod _ _ _ _ [_] _ _ _
  exact Bod.retZ dc_396_62 rt_396 (Or.inl rfl)
theorem rBgI_6 {d : Nat} {S : cS} {fo : Nat} {ba : Nat} {nn : Nat} {io : Nat} {mk : Nat} {g : Nat} {zg : Nat} {m : Nat} {zm : Nat} {r : Nat} {N : Nat} {fd9 : Nat} {e : Nat} {S1 : cS} (mfo : fo < 2 ^ 20) (mba : ba < 2 ^ 20) (mnn : nn < 2 ^ 20) (mio : io < 2 ^ 20) (mmk : mk < 2 ^ 20) (b1 : fo < 1500) (ag : 108 ≤ g) (hq2 : sQ S 86 fo = some g) (hz1 : (sS S)[g - 108]? = some (13, zg)) (am : 108 ≤ m) (hv1 : sV S (100 * g + 8) = .ref m) (hz2 : (sS S)[m - 108]? = some (12, zm)) (hv2 : sV S (100 * m + 9) = .ref r) (hg2 : isK S r 0 N) (mN : N < 2 ^ 20) (hfd9 : sI S (100 * g + 9) = nI fd9) (mfd9 : fd9 < 2 ^ 20) (b2 : fd9 < N) (he : sA S r fd9 = nI e) (me : e < 2 ^ 20) (b3 : (nn + 1) ≠ e) (c1 : Ans (d + 8) 351 [.ref 61, .int (nI 2)] S (some (.int (nI 0))) S1) : Bod (d + 8) 396 0 [(0, .ref 61), (1, .int (nI fo)), (2, .int (nI ba)), (3, .int (nI nn)), (4, .int (nI io)), (5, .int (nI mk))] [] S (some (.int 0)) (S1) := by
  refine Bod.go dc_396_0 rfl ?_
  refine Bod.get dc_396_1 fr_396_485 (mk_61 _) rfl ?_
  refine Bod.go dc_396_4 rfl ?_
  refine Bod.aaldR (N := 1500) (b := g) fo rfl (by omega) (by omega) (by first | exact hq2 | (simp only [rIQ, rJQ, rAQ, rLQ, rVQ, rQ_holdE]; exact hq2)) dc_396_5 (mk_86 _) ht_5 ?_
  refine Bod.ast dc_396_6 (by rw [ml_396]; exact Nat.le_of_ble_eq_true rfl) ?_
  refine Bod.go dc_396_8 rfl ?_
  refine Bod.ifF dc_396_10 rfl (k1_lt_F io rfl (by omega)) ?_
  refine Bod.go dc_396_13 rfl ?_
  refine Bod.ic 1 (by decide) dc_396_14 ?_
  refine Bod.addN (nn + 1) (by omega) dc_396_15 ?_
  refine Bod.go dc_396_16 rfl ?_
  refine Bod.ist dc_396_20 (by rw [ml_396]; exact Nat.le_of_ble_eq_true rfl) ?_
  refine Bod.go dc_396_22 rfl ?_
  refine Bod.go dc_396_24 rfl ?_
  refine Bod.get dc_396_26 fr_396_533 (mk_thing ag (by first | exact hz1 | (simp only [rIS, rJS, rAS, rLS, rVS, rQS, rS_hold]; exact hz1))) rfl ?_
  refine Bod.eqV (.ref m) (by first | exact hv1 | (simp only [rIV, rJV, rAV, rLV, rQV, rV, reduceIte, Nat.reduceEqDiff]; exact hv1)) ?_
  refine Bod.get dc_396_29 fr_396_373 (mk_code am (by first | exact hz2 | (simp only [rIS, rJS, rAS, rLS, rVS, rQS, rS_hold]; exact hz2))) rfl ?_
  refine Bod.eqV (.ref r) (by first | exact hv2 | (simp only [rIV, rJV, rAV, rLV, rQV, rV, reduceIte, Nat.reduceEqDiff]; exact hv2)) ?_
  refine Bod.go dc_396_32 rfl ?_
  refine Bod.get dc_396_34 fr_396_689 (mk_thing ag (by first | exact hz1 | (simp only [rIS, rJS, rAS, rLS, rVS, rQS, rS_hold]; exact hz1))) rfl ?_
  refine Bod.eqI (nI fd9) (by first | assumption | rfl | exact congrArg nI (by omega) | (simp (disch := omega) only [rI, rIe, rA, rIA, rLA, rJA, rVI, rQI, rVA, rQA, upd_at,  rAI, rLI, rJI, nI_add, pk_sub, kc_0, kc_1, kc_2, kc_3, kc_4, kc_5, reduceIte, Nat.reduceEqDiff, Nat.add_zero, rI_hold, rI_hold, rL_hold, hfd9]; done)) ?_
  refine Bod.ialdN (N := N) fd9 rfl (by omega) (by omega) dc_396_37 (mk_isI (by first | exact hg2 | exact isK_S (by simp only [rIS, rJS, rAS, rLS, rVS, rQS, rS_hold]) hg2)) ?_
  refine Bod.eqI (nI e) (by first | assumption | rfl | exact congrArg nI (by omega) | (simp (disch := omega) only [rI, rIe, rA, rIA, rLA, rJA, rVI, rQI, rVA, rQA, upd_at,  rAI, rLI, rJI, nI_add, pk_sub, kc_0, kc_1, kc_2, kc_3, kc_4, kc_5, reduceIte, Nat.reduceEqDiff, Nat.add_zero, rI_hold, rI_hold, rL_hold, hfd9, he]; done)) ?_
  refine Bod.icF dc_396_38 rfl (k2_eq_F (k_ne (nn + 1) e rfl rfl (by omega) (by omega) (by omega))) ?_
  refine Bod.go dc_396_41 rfl ?_
  refine Bod.ic 2 (by decide) dc_396_42 ?_
  refine Bod.virt (r := []) dc_396_43 kr_396_608 ⟨Or.inl rfl, ow_351, cl_14⟩ (by rw [np_351]; rfl) (by rw [np_351]; rfl) (ob_of (mk_61 _)) (Nat.le_of_ble_eq_true rfl) (c1  ) ?_
  show Bod _ _ _ _ [_] _ _ _
  exact Bod.retZ dc_396_46 rt_396 (Or.inl rfl)
