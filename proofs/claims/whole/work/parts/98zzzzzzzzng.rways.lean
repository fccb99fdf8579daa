/-! WAYS of the reference's machine: every call is a hypothesis -/
theorem ml_348 : sm_ml 348 = 1 := by decide +kernel
theorem dc_348_0 : decode (sm_cc 348) 0 = .ok (.aload_n 0, 1) := by decide +kernel
theorem dc_348_1 : decode (sm_cc 348) 1 = .ok (.iconst 0, 1) := by decide +kernel
theorem dc_348_2 : decode (sm_cc 348) 2 = .ok (.putfield 502, 3) := by decide +kernel
theorem fr_348_502 : sm_at mt_f (sm_ow 348) 502 = some (502, 14, 59, 0, 2132) := by decide +kernel
theorem dc_348_5 : decode (sm_cc 348) 5 = .ok (.aload_n 0, 1) := by decide +kernel
theorem dc_348_6 : decode (sm_cc 348) 6 = .ok (.iconst 0, 1) := by decide +kernel
theorem dc_348_7 : decode (sm_cc 348) 7 = .ok (.putfield 493, 3) := by decide +kernel
theorem fr_348_493 : sm_at mt_f (sm_ow 348) 493 = some (493, 14, 51, 0, 2124) := by decide +kernel
theorem dc_348_10 : decode (sm_cc 348) 10 = .ok (.aload_n 0, 1) := by decide +kernel
theorem dc_348_11 : decode (sm_cc 348) 11 = .ok (.iconst 0, 1) := by decide +kernel
theorem dc_348_12 : decode (sm_cc 348) 12 = .ok (.putfield 558, 3) := by decide +kernel
theorem fr_348_558 : sm_at mt_f (sm_ow 348) 558 = some (558, 14, 63, 0, 2136) := by decide +kernel
theorem dc_348_15 : decode (sm_cc 348) 15 = .ok (.aload_n 0, 1) := by decide +kernel
theorem dc_348_16 : decode (sm_cc 348) 16 = .ok (.iconst 0, 1) := by decide +kernel
theorem dc_348_17 : decode (sm_cc 348) 17 = .ok (.putfield 561, 3) := by decide +kernel
theorem fr_348_561 : sm_at mt_f (sm_ow 348) 561 = some (561, 14, 66, 0, 2139) := by decide +kernel
theorem dc_348_20 : decode (sm_cc 348) 20 = .ok (.aload_n 0, 1) := by decide +kernel
theorem dc_348_21 : decode (sm_cc 348) 21 = .ok (.aload_n 0, 1) := by decide +kernel
theorem dc_348_22 : decode (sm_cc 348) 22 = .ok (.getfield 206, 3) := by decide +kernel
theorem fr_348_206 : sm_at mt_f (sm_ow 348) 206 = some (206, 14, 14, 0, 2087) := by decide +kernel
theorem dc_348_25 : decode (sm_cc 348) 25 = .ok (.iconst 0, 1) := by decide +kernel
theorem dc_348_26 : decode (sm_cc 348) 26 = .ok (.iconst (-1), 1) := by decide +kernel
theorem dc_348_27 : decode (sm_cc 348) 27 = .ok (.iconst 0, 1) := by decide +kernel
theorem dc_348_28 : decode (sm_cc 348) 28 = .ok (.iconst 0, 1) := by decide +kernel
theorem dc_348_29 : decode (sm_cc 348) 29 = .ok (.invokevirtual 564, 3) := by decide +kernel
theorem kr_348_564 : sm_at mt_k (sm_ow 348) 564 = some (564, 0, 349, 0, 2656) := by decide +kernel
theorem dc_348_32 : decode (sm_cc 348) 32 = .ok (.aload_n 0, 1) := by decide +kernel
theorem dc_348_33 : decode (sm_cc 348) 33 = .ok (.getfield 568, 3) := by decide +kernel
theorem fr_348_568 : sm_at mt_f (sm_ow 348) 568 = some (568, 14, 52, 0, 2125) := by decide +kernel
theorem dc_348_36 : decode (sm_cc 348) 36 = .ok (.aload_n 0, 1) := by decide +kernel
theorem dc_348_37 : decode (sm_cc 348) 37 = .ok (.getfield 502, 3) := by decide +kernel
theorem dc_348_40 : decode (sm_cc 348) 40 = .ok (.iconst 1, 1) := by decide +kernel
theorem dc_348_41 : decode (sm_cc 348) 41 = .ok (.isub, 1) := by decide +kernel
theorem dc_348_42 : decode (sm_cc 348) 42 = .ok (.aaload, 1) := by decide +kernel
theorem dc_348_43 : decode (sm_cc 348) 43 = .ok (.getfield 222, 3) := by decide +kernel
theorem fr_348_222 : sm_at mt_f (sm_ow 348) 222 = some (222, 12, 0, 0, 2409) := by decide +kernel
theorem dc_348_46 : decode (sm_cc 348) 46 = .ok (.aload_n 0, 1) := by decide +kernel
theorem dc_348_47 : decode (sm_cc 348) 47 = .ok (.getfield 572, 3) := by decide +kernel
theorem fr_348_572 : sm_at mt_f (sm_ow 348) 572 = some (572, 14, 53, 0, 2126) := by decide +kernel
theorem dc_348_50 : decode (sm_cc 348) 50 = .ok (.aload_n 0, 1) := by decide +kernel
theorem dc_348_51 : decode (sm_cc 348) 51 = .ok (.getfield 502, 3) := by decide +kernel
theorem dc_348_54 : decode (sm_cc 348) 54 = .ok (.iconst 1, 1) := by decide +kernel
theorem dc_348_55 : decode (sm_cc 348) 55 = .ok (.isub, 1) := by decide +kernel
theorem dc_348_56 : decode (sm_cc 348) 56 = .ok (.iaload, 1) := by decide +kernel
theorem dc_348_57 : decode (sm_cc 348) 57 = .ok (.iaload, 1) := by decide +kernel
theorem dc_348_58 : decode (sm_cc 348) 58 = .ok (.bipush (41), 2) := by decide +kernel
theorem dc_348_60 : decode (sm_cc 348) 60 = .ok (.if_icmp .eq (128), 3) := by decide +kernel
theorem dc_348_188 : decode (sm_cc 348) 188 = .ok (.aload_n 0, 1) := by decide +kernel
theorem dc_348_189 : decode (sm_cc 348) 189 = .ok (.iconst 0, 1) := by decide +kernel
theorem dc_348_190 : decode (sm_cc 348) 190 = .ok (.putfield 502, 3) := by decide +kernel
theorem dc_348_193 : decode (sm_cc 348) 193 = .ok (.aload_n 0, 1) := by decide +kernel
theorem dc_348_194 : decode (sm_cc 348) 194 = .ok (.iconst 0, 1) := by decide +kernel
theorem dc_348_195 : decode (sm_cc 348) 195 = .ok (.putfield 493, 3) := by decide +kernel
theorem dc_348_198 : decode (sm_cc 348) 198 = .ok (.iconst 0, 1) := by decide +kernel
theorem dc_348_199 : decode (sm_cc 348) 199 = .ok (.ireturn, 1) := by decide +kernel
theorem rt_348 : sm_rt 348 = some .int := by decide +kernel
theorem dc_348_63 : decode (sm_cc 348) 63 = .ok (.aload_n 0, 1) := by decide +kernel
theorem dc_348_64 : decode (sm_cc 348) 64 = .ok (.invokevirtual 575, 3) := by decide +kernel
theorem ow_350 : 14 = sm_ow 350 := by decide +kernel
theorem kr_348_575 : sm_at mt_k (sm_ow 348) 575 = some (575, 0, 350, 0, 2660) := by decide +kernel
theorem np_350 : sm_np 350 = 0 := by decide +kernel
theorem dc_348_67 : decode (sm_cc 348) 67 = .ok (.ifCond .eq (6), 3) := by decide +kernel
theorem dc_348_70 : decode (sm_cc 348) 70 = .ok (.goto (-38), 3) := by decide +kernel
theorem dc_348_73 : decode (sm_cc 348) 73 = .ok (.aload_n 0, 1) := by decide +kernel
theorem dc_348_74 : decode (sm_cc 348) 74 = .ok (.getfield 453, 3) := by decide +kernel
theorem fr_348_453 : sm_at mt_f (sm_ow 348) 453 = some (453, 14, 64, 0, 2137) := by decide +kernel
theorem dc_348_77 : decode (sm_cc 348) 77 = .ok (.bipush (100), 2) := by decide +kernel
theorem dc_348_79 : decode (sm_cc 348) 79 = .ok (.if_icmp .eq (10), 3) := by decide +kernel
theorem dc_348_89 : decode (sm_cc 348) 89 = .ok (.aload_n 0, 1) := by decide +kernel
theorem dc_348_90 : decode (sm_cc 348) 90 = .ok (.aload_n 0, 1) := by decide +kernel
theorem dc_348_91 : decode (sm_cc 348) 91 = .ok (.getfield 578, 3) := by decide +kernel
theorem fr_348_578 : sm_at mt_f (sm_ow 348) 578 = some (578, 14, 56, 0, 2129) := by decide +kernel
theorem dc_348_94 : decode (sm_cc 348) 94 = .ok (.aload_n 0, 1) := by decide +kernel
theorem dc_348_95 : decode (sm_cc 348) 95 = .ok (.getfield 502, 3) := by decide +kernel
theorem dc_348_98 : decode (sm_cc 348) 98 = .ok (.iconst 1, 1) := by decide +kernel
theorem dc_348_99 : decode (sm_cc 348) 99 = .ok (.isub, 1) := by decide +kernel
theorem dc_348_100 : decode (sm_cc 348) 100 = .ok (.iaload, 1) := by decide +kernel
theorem dc_348_101 : decode (sm_cc 348) 101 = .ok (.putfield 581, 3) := by decide +kernel
theorem fr_348_581 : sm_at mt_f (sm_ow 348) 581 = some (581, 14, 68, 0, 2141) := by decide +kernel
theorem dc_348_104 : decode (sm_cc 348) 104 = .ok (.aload_n 0, 1) := by decide +kernel
theorem dc_348_105 : decode (sm_cc 348) 105 = .ok (.iconst 0, 1) := by decide +kernel
theorem dc_348_106 : decode (sm_cc 348) 106 = .ok (.putfield 502, 3) := by decide +kernel
theorem dc_348_109 : decode (sm_cc 348) 109 = .ok (.aload_n 0, 1) := by decide +kernel
theorem dc_348_110 : decode (sm_cc 348) 110 = .ok (.iconst 0, 1) := by decide +kernel
theorem dc_348_111 : decode (sm_cc 348) 111 = .ok (.putfield 493, 3) := by decide +kernel
theorem dc_348_114 : decode (sm_cc 348) 114 = .ok (.aload_n 0, 1) := by decide +kernel
theorem dc_348_115 : decode (sm_cc 348) 115 = .ok (.getfield 453, 3) := by decide +kernel
theorem dc_348_118 : decode (sm_cc 348) 118 = .ok (.ireturn, 1) := by decide +kernel
theorem dc_348_82 : decode (sm_cc 348) 82 = .ok (.aload_n 0, 1) := by decide +kernel
theorem dc_348_83 : decode (sm_cc 348) 83 = .ok (.getfield 558, 3) := by decide +kernel
theorem dc_348_86 : decode (sm_cc 348) 86 = .ok (.ifCond .ne (33), 3) := by decide +kernel
theorem dc_348_119 : decode (sm_cc 348) 119 = .ok (.aload_n 0, 1) := by decide +kernel
theorem dc_348_120 : decode (sm_cc 348) 120 = .ok (.dup, 1) := by decide +kernel
theorem dc_348_121 : decode (sm_cc 348) 121 = .ok (.getfield 558, 3) := by decide +kernel
theorem dc_348_124 : decode (sm_cc 348) 124 = .ok (.iconst 1, 1) := by decide +kernel
theorem dc_348_125 : decode (sm_cc 348) 125 = .ok (.isub, 1) := by decide +kernel
theorem dc_348_126 : decode (sm_cc 348) 126 = .ok (.putfield 558, 3) := by decide +kernel
theorem dc_348_129 : decode (sm_cc 348) 129 = .ok (.aload_n 0, 1) := by decide +kernel
theorem dc_348_130 : decode (sm_cc 348) 130 = .ok (.aload_n 0, 1) := by decide +kernel
theorem dc_348_131 : decode (sm_cc 348) 131 = .ok (.getfield 584, 3) := by decide +kernel
theorem fr_348_584 : sm_at mt_f (sm_ow 348) 584 = some (584, 14, 60, 0, 2133) := by decide +kernel
theorem dc_348_134 : decode (sm_cc 348) 134 = .ok (.aload_n 0, 1) := by decide +kernel
theorem dc_348_135 : decode (sm_cc 348) 135 = .ok (.getfield 558, 3) := by decide +kernel
theorem dc_348_138 : decode (sm_cc 348) 138 = .ok (.iaload, 1) := by decide +kernel
theorem dc_348_139 : decode (sm_cc 348) 139 = .ok (.iconst 1, 1) := by decide +kernel
theorem dc_348_140 : decode (sm_cc 348) 140 = .ok (.iadd, 1) := by decide +kernel
theorem dc_348_141 : decode (sm_cc 348) 141 = .ok (.putfield 502, 3) := by decide +kernel
theorem dc_348_144 : decode (sm_cc 348) 144 = .ok (.aload_n 0, 1) := by decide +kernel
theorem dc_348_145 : decode (sm_cc 348) 145 = .ok (.aload_n 0, 1) := by decide +kernel
theorem dc_348_146 : decode (sm_cc 348) 146 = .ok (.getfield 587, 3) := by decide +kernel
theorem fr_348_587 : sm_at mt_f (sm_ow 348) 587 = some (587, 14, 62, 0, 2135) := by decide +kernel
theorem dc_348_149 : decode (sm_cc 348) 149 = .ok (.aload_n 0, 1) := by decide +kernel
theorem dc_348_150 : decode (sm_cc 348) 150 = .ok (.getfield 558, 3) := by decide +kernel
theorem dc_348_153 : decode (sm_cc 348) 153 = .ok (.iaload, 1) := by decide +kernel
theorem dc_348_154 : decode (sm_cc 348) 154 = .ok (.putfield 493, 3) := by decide +kernel
theorem dc_348_157 : decode (sm_cc 348) 157 = .ok (.aload_n 0, 1) := by decide +kernel
theorem dc_348_158 : decode (sm_cc 348) 158 = .ok (.getfield 572, 3) := by decide +kernel
theorem dc_348_161 : decode (sm_cc 348) 161 = .ok (.aload_n 0, 1) := by decide +kernel
theorem dc_348_162 : decode (sm_cc 348) 162 = .ok (.getfield 502, 3) := by decide +kernel
theorem dc_348_165 : decode (sm_cc 348) 165 = .ok (.iconst 1, 1) := by decide +kernel
theorem dc_348_166 : decode (sm_cc 348) 166 = .ok (.isub, 1) := by decide +kernel
theorem dc_348_167 : decode (sm_cc 348) 167 = .ok (.aload_n 0, 1) := by decide +kernel
theorem dc_348_168 : decode (sm_cc 348) 168 = .ok (.getfield 590, 3) := by decide +kernel
theorem fr_348_590 : sm_at mt_f (sm_ow 348) 590 = some (590, 14, 61, 0, 2134) := by decide +kernel
theorem dc_348_171 : decode (sm_cc 348) 171 = .ok (.aload_n 0, 1) := by decide +kernel
theorem dc_348_172 : decode (sm_cc 348) 172 = .ok (.getfield 558, 3) := by decide +kernel
theorem dc_348_175 : decode (sm_cc 348) 175 = .ok (.iaload, 1) := by decide +kernel
theorem dc_348_176 : decode (sm_cc 348) 176 = .ok (.iastore, 1) := by decide +kernel
theorem dc_348_177 : decode (sm_cc 348) 177 = .ok (.aload_n 0, 1) := by decide +kernel
theorem dc_348_178 : decode (sm_cc 348) 178 = .ok (.aload_n 0, 1) := by decide +kernel
theorem dc_348_179 : decode (sm_cc 348) 179 = .ok (.getfield 453, 3) := by decide +kernel
theorem dc_348_182 : decode (sm_cc 348) 182 = .ok (.putfield 593, 3) := by decide +kernel
theorem fr_348_593 : sm_at mt_f (sm_ow 348) 593 = some (593, 14, 67, 0, 2140) := by decide +kernel
theorem dc_348_185 : decode (sm_cc 348) 185 = .ok (.goto (-153), 3) := by decide +kernel
theorem ml_392 : sm_ml 392 = 6 := by decide +kernel
theorem dc_392_0 : decode (sm_cc 392) 0 = .ok (.aload_n 0, 1) := by decide +kernel
theorem dc_392_1 : decode (sm_cc 392) 1 = .ok (.invokevirtual 527, 3) := by decide +kernel
theorem kr_392_527 : sm_at mt_k (sm_ow 392) 527 = some (527, 0, 366, 0, 2734) := by decide +kernel
theorem dc_392_4 : decode (sm_cc 392) 4 = .ok (.iconst 0, 1) := by decide +kernel
theorem dc_392_5 : decode (sm_cc 392) 5 = .ok (.istore_n 1, 1) := by decide +kernel
theorem dc_392_6 : decode (sm_cc 392) 6 = .ok (.aload_n 0, 1) := by decide +kernel
theorem dc_392_7 : decode (sm_cc 392) 7 = .ok (.getfield 481, 3) := by decide +kernel
theorem fr_392_481 : sm_at mt_f (sm_ow 392) 481 = some (481, 14, 43, 0, 2116) := by decide +kernel
theorem dc_392_10 : decode (sm_cc 392) 10 = .ok (.astore_n 2, 1) := by decide +kernel
theorem dc_392_11 : decode (sm_cc 392) 11 = .ok (.aload_n 2, 1) := by decide +kernel
theorem dc_392_12 : decode (sm_cc 392) 12 = .ok (.arraylength, 1) := by decide +kernel
theorem dc_392_13 : decode (sm_cc 392) 13 = .ok (.istore_n 3, 1) := by decide +kernel
theorem dc_392_14 : decode (sm_cc 392) 14 = .ok (.iconst 0, 1) := by decide +kernel
theorem dc_392_15 : decode (sm_cc 392) 15 = .ok (.istore 4, 2) := by decide +kernel
theorem dc_392_17 : decode (sm_cc 392) 17 = .ok (.iload 4, 2) := by decide +kernel
theorem dc_392_19 : decode (sm_cc 392) 19 = .ok (.iload_n 3, 1) := by decide +kernel
theorem dc_392_20 : decode (sm_cc 392) 20 = .ok (.if_icmp .ge (23), 3) := by decide +kernel
theorem dc_392_43 : decode (sm_cc 392) 43 = .ok (.iload_n 1, 1) := by decide +kernel
theorem dc_392_44 : decode (sm_cc 392) 44 = .ok (.ireturn, 1) := by decide +kernel
theorem rt_392 : sm_rt 392 = some .int := by decide +kernel
theorem dc_392_23 : decode (sm_cc 392) 23 = .ok (.aload_n 2, 1) := by decide +kernel
theorem dc_392_24 : decode (sm_cc 392) 24 = .ok (.iload 4, 2) := by decide +kernel
theorem dc_392_26 : decode (sm_cc 392) 26 = .ok (.baload, 1) := by decide +kernel
theorem dc_392_27 : decode (sm_cc 392) 27 = .ok (.istore 5, 2) := by decide +kernel
theorem dc_392_29 : decode (sm_cc 392) 29 = .ok (.iload 5, 2) := by decide +kernel
theorem dc_392_31 : decode (sm_cc 392) 31 = .ok (.ifCond .eq (6), 3) := by decide +kernel
theorem dc_392_37 : decode (sm_cc 392) 37 = .ok (.iinc 4 (1), 3) := by decide +kernel
theorem dc_392_40 : decode (sm_cc 392) 40 = .ok (.goto (-23), 3) := by decide +kernel
theorem dc_392_34 : decode (sm_cc 392) 34 = .ok (.iinc 1 (1), 3) := by decide +kernel
theorem ml_393 : sm_ml 393 = 4 := by decide +kernel
theorem dc_393_0 : decode (sm_cc 393) 0 = .ok (.aload_n 0, 1) := by decide +kernel
theorem dc_393_1 : decode (sm_cc 393) 1 = .ok (.invokevirtual 527, 3) := by decide +kernel
theorem kr_393_527 : sm_at mt_k (sm_ow 393) 527 = some (527, 0, 366, 0, 2734) := by decide +kernel
theorem dc_393_4 : decode (sm_cc 393) 4 = .ok (.aload_n 0, 1) := by decide +kernel
theorem dc_393_5 : decode (sm_cc 393) 5 = .ok (.getfield 537, 3) := by decide +kernel
theorem fr_393_537 : sm_at mt_f (sm_ow 393) 537 = some (537, 14, 44, 0, 2117) := by decide +kernel
theorem dc_393_8 : decode (sm_cc 393) 8 = .ok (.iconst 0, 1) := by decide +kernel
theorem dc_393_9 : decode (sm_cc 393) 9 = .ok (.invokestatic 540, 3) := by decide +kernel
theorem kr_393_540 : sm_at mt_k (sm_ow 393) 540 = some (540, 2, 394, 0, 2905) := by decide +kernel
theorem np_394 : sm_np 394 = 2 := by decide +kernel
theorem dc_393_12 : decode (sm_cc 393) 12 = .ok (.iconst 0, 1) := by decide +kernel
theorem dc_393_13 : decode (sm_cc 393) 13 = .ok (.istore_n 1, 1) := by decide +kernel
theorem dc_393_14 : decode (sm_cc 393) 14 = .ok (.iconst 0, 1) := by decide +kernel
theorem dc_393_15 : decode (sm_cc 393) 15 = .ok (.istore_n 2, 1) := by decide +kernel
theorem dc_393_16 : decode (sm_cc 393) 16 = .ok (.iload_n 2, 1) := by decide +kernel
theorem dc_393_17 : decode (sm_cc 393) 17 = .ok (.aload_n 0, 1) := by decide +kernel
theorem dc_393_18 : decode (sm_cc 393) 18 = .ok (.getfield 1, 3) := by decide +kernel
theorem fr_393_1 : sm_at mt_f (sm_ow 393) 1 = some (1, 14, 2, 0, 2075) := by decide +kernel
theorem dc_393_21 : decode (sm_cc 393) 21 = .ok (.if_icmp .ge (32), 3) := by decide +kernel
theorem dc_393_53 : decode (sm_cc 393) 53 = .ok (.iconst 0, 1) := by decide +kernel
theorem dc_393_54 : decode (sm_cc 393) 54 = .ok (.istore_n 2, 1) := by decide +kernel
theorem dc_393_24 : decode (sm_cc 393) 24 = .ok (.aload_n 0, 1) := by decide +kernel
theorem dc_393_25 : decode (sm_cc 393) 25 = .ok (.getfield 24, 3) := by decide +kernel
theorem fr_393_24 : sm_at mt_f (sm_ow 393) 24 = some (24, 14, 3, 0, 2076) := by decide +kernel
theorem dc_393_28 : decode (sm_cc 393) 28 = .ok (.iload_n 2, 1) := by decide +kernel
theorem dc_393_29 : decode (sm_cc 393) 29 = .ok (.iaload, 1) := by decide +kernel
theorem dc_393_30 : decode (sm_cc 393) 30 = .ok (.iconst 3, 1) := by decide +kernel
theorem dc_393_31 : decode (sm_cc 393) 31 = .ok (.if_icmp .ne (16), 3) := by decide +kernel
theorem dc_393_47 : decode (sm_cc 393) 47 = .ok (.iinc 2 (1), 3) := by decide +kernel
theorem dc_393_50 : decode (sm_cc 393) 50 = .ok (.goto (-34), 3) := by decide +kernel
theorem dc_393_34 : decode (sm_cc 393) 34 = .ok (.aload_n 0, 1) := by decide +kernel
theorem dc_393_35 : decode (sm_cc 393) 35 = .ok (.aload_n 0, 1) := by decide +kernel
theorem dc_393_36 : decode (sm_cc 393) 36 = .ok (.getfield 27, 3) := by decide +kernel
theorem fr_393_27 : sm_at mt_f (sm_ow 393) 27 = some (27, 14, 4, 0, 2077) := by decide +kernel
theorem dc_393_39 : decode (sm_cc 393) 39 = .ok (.iload_n 2, 1) := by decide +kernel
theorem dc_393_40 : decode (sm_cc 393) 40 = .ok (.laload, 1) := by decide +kernel
theorem dc_393_41 : decode (sm_cc 393) 41 = .ok (.l2i, 1) := by decide +kernel
theorem dc_393_42 : decode (sm_cc 393) 42 = .ok (.iload_n 1, 1) := by decide +kernel
theorem dc_393_43 : decode (sm_cc 393) 43 = .ok (.invokevirtual 543, 3) := by decide +kernel
theorem ow_395 : 14 = sm_ow 395 := by decide +kernel
theorem kr_393_543 : sm_at mt_k (sm_ow 393) 543 = some (543, 0, 395, 0, 2908) := by decide +kernel
theorem np_395 : sm_np 395 = 2 := by decide +kernel
theorem dc_393_46 : decode (sm_cc 393) 46 = .ok (.istore_n 1, 1) := by decide +kernel
theorem dc_393_55 : decode (sm_cc 393) 55 = .ok (.iload_n 2, 1) := by decide +kernel
theorem dc_393_56 : decode (sm_cc 393) 56 = .ok (.aload_n 0, 1) := by decide +kernel
theorem dc_393_57 : decode (sm_cc 393) 57 = .ok (.getfield 493, 3) := by decide +kernel
theorem fr_393_493 : sm_at mt_f (sm_ow 393) 493 = some (493, 14, 51, 0, 2124) := by decide +kernel
theorem dc_393_60 : decode (sm_cc 393) 60 = .ok (.if_icmp .ge (32), 3) := by decide +kernel
theorem dc_393_92 : decode (sm_cc 393) 92 = .ok (.iconst 0, 1) := by decide +kernel
theorem dc_393_93 : decode (sm_cc 393) 93 = .ok (.istore_n 2, 1) := by decide +kernel
theorem dc_393_63 : decode (sm_cc 393) 63 = .ok (.aload_n 0, 1) := by decide +kernel
theorem dc_393_64 : decode (sm_cc 393) 64 = .ok (.getfield 496, 3) := by decide +kernel
theorem fr_393_496 : sm_at mt_f (sm_ow 393) 496 = some (496, 14, 48, 0, 2121) := by decide +kernel
theorem dc_393_67 : decode (sm_cc 393) 67 = .ok (.iload_n 2, 1) := by decide +kernel
theorem dc_393_68 : decode (sm_cc 393) 68 = .ok (.iaload, 1) := by decide +kernel
theorem dc_393_69 : decode (sm_cc 393) 69 = .ok (.iconst 3, 1) := by decide +kernel
theorem dc_393_70 : decode (sm_cc 393) 70 = .ok (.if_icmp .ne (16), 3) := by decide +kernel
theorem dc_393_86 : decode (sm_cc 393) 86 = .ok (.iinc 2 (1), 3) := by decide +kernel
theorem dc_393_89 : decode (sm_cc 393) 89 = .ok (.goto (-34), 3) := by decide +kernel
theorem dc_393_73 : decode (sm_cc 393) 73 = .ok (.aload_n 0, 1) := by decide +kernel
theorem dc_393_74 : decode (sm_cc 393) 74 = .ok (.aload_n 0, 1) := by decide +kernel
theorem dc_393_75 : decode (sm_cc 393) 75 = .ok (.getfield 499, 3) := by decide +kernel
theorem fr_393_499 : sm_at mt_f (sm_ow 393) 499 = some (499, 14, 49, 0, 2122) := by decide +kernel
theorem dc_393_78 : decode (sm_cc 393) 78 = .ok (.iload_n 2, 1) := by decide +kernel
theorem dc_393_79 : decode (sm_cc 393) 79 = .ok (.laload, 1) := by decide +kernel
theorem dc_393_80 : decode (sm_cc 393) 80 = .ok (.l2i, 1) := by decide +kernel
theorem dc_393_81 : decode (sm_cc 393) 81 = .ok (.iload_n 1, 1) := by decide +kernel
theorem dc_393_82 : decode (sm_cc 393) 82 = .ok (.invokevirtual 543, 3) := by decide +kernel
theorem dc_393_85 : decode (sm_cc 393) 85 = .ok (.istore_n 1, 1) := by decide +kernel
theorem dc_393_94 : decode (sm_cc 393) 94 = .ok (.iload_n 2, 1) := by decide +kernel
theorem dc_393_95 : decode (sm_cc 393) 95 = .ok (.aload_n 0, 1) := by decide +kernel
theorem dc_393_96 : decode (sm_cc 393) 96 = .ok (.getfield 502, 3) := by decide +kernel
theorem fr_393_502 : sm_at mt_f (sm_ow 393) 502 = some (502, 14, 59, 0, 2132) := by decide +kernel
theorem dc_393_99 : decode (sm_cc 393) 99 = .ok (.if_icmp .ge (30), 3) := by decide +kernel
theorem dc_393_102 : decode (sm_cc 393) 102 = .ok (.aload_n 0, 1) := by decide +kernel
theorem dc_393_103 : decode (sm_cc 393) 103 = .ok (.getfield 505, 3) := by decide +kernel
theorem fr_393_505 : sm_at mt_f (sm_ow 393) 505 = some (505, 14, 54, 0, 2127) := by decide +kernel
theorem dc_393_106 : decode (sm_cc 393) 106 = .ok (.iload_n 2, 1) := by decide +kernel
theorem dc_393_107 : decode (sm_cc 393) 107 = .ok (.iaload, 1) := by decide +kernel
theorem dc_393_108 : decode (sm_cc 393) 108 = .ok (.ifCond .lt (15), 3) := by decide +kernel
theorem dc_393_111 : decode (sm_cc 393) 111 = .ok (.aload_n 0, 1) := by decide +kernel
theorem dc_393_112 : decode (sm_cc 393) 112 = .ok (.aload_n 0, 1) := by decide +kernel
theorem dc_393_113 : decode (sm_cc 393) 113 = .ok (.getfield 505, 3) := by decide +kernel
theorem dc_393_116 : decode (sm_cc 393) 116 = .ok (.iload_n 2, 1) := by decide +kernel
theorem dc_393_117 : decode (sm_cc 393) 117 = .ok (.iaload, 1) := by decide +kernel
theorem dc_393_118 : decode (sm_cc 393) 118 = .ok (.iload_n 1, 1) := by decide +kernel
theorem dc_393_119 : decode (sm_cc 393) 119 = .ok (.invokevirtual 543, 3) := by decide +kernel
theorem dc_393_122 : decode (sm_cc 393) 122 = .ok (.istore_n 1, 1) := by decide +kernel
theorem dc_393_123 : decode (sm_cc 393) 123 = .ok (.iinc 2 (1), 3) := by decide +kernel
theorem dc_393_126 : decode (sm_cc 393) 126 = .ok (.goto (-32), 3) := by decide +kernel
theorem dc_393_129 : decode (sm_cc 393) 129 = .ok (.iload_n 1, 1) := by decide +kernel
theorem dc_393_130 : decode (sm_cc 393) 130 = .ok (.ifCond .le (94), 3) := by decide +kernel
theorem dc_393_224 : decode (sm_cc 393) 224 = .ok (.iconst 0, 1) := by decide +kernel
theorem dc_393_225 : decode (sm_cc 393) 225 = .ok (.istore_n 2, 1) := by decide +kernel
theorem dc_393_226 : decode (sm_cc 393) 226 = .ok (.iconst 0, 1) := by decide +kernel
theorem dc_393_227 : decode (sm_cc 393) 227 = .ok (.istore_n 3, 1) := by decide +kernel
theorem dc_393_133 : decode (sm_cc 393) 133 = .ok (.iinc 1 (-1), 3) := by decide +kernel
theorem dc_393_136 : decode (sm_cc 393) 136 = .ok (.aload_n 0, 1) := by decide +kernel
theorem dc_393_137 : decode (sm_cc 393) 137 = .ok (.getfield 485, 3) := by decide +kernel
theorem fr_393_485 : sm_at mt_f (sm_ow 393) 485 = some (485, 14, 42, 0, 2115) := by decide +kernel
theorem dc_393_140 : decode (sm_cc 393) 140 = .ok (.aload_n 0, 1) := by decide +kernel
theorem dc_393_141 : decode (sm_cc 393) 141 = .ok (.getfield 514, 3) := by decide +kernel
theorem fr_393_514 : sm_at mt_f (sm_ow 393) 514 = some (514, 14, 46, 0, 2119) := by decide +kernel
theorem dc_393_144 : decode (sm_cc 393) 144 = .ok (.iload_n 1, 1) := by decide +kernel
theorem dc_393_145 : decode (sm_cc 393) 145 = .ok (.iaload, 1) := by decide +kernel
theorem dc_393_146 : decode (sm_cc 393) 146 = .ok (.aaload, 1) := by decide +kernel
theorem dc_393_147 : decode (sm_cc 393) 147 = .ok (.astore_n 2, 1) := by decide +kernel
theorem dc_393_148 : decode (sm_cc 393) 148 = .ok (.iconst 0, 1) := by decide +kernel
theorem dc_393_149 : decode (sm_cc 393) 149 = .ok (.istore_n 3, 1) := by decide +kernel
theorem dc_393_150 : decode (sm_cc 393) 150 = .ok (.iload_n 3, 1) := by decide +kernel
theorem dc_393_151 : decode (sm_cc 393) 151 = .ok (.aload_n 2, 1) := by decide +kernel
theorem dc_393_152 : decode (sm_cc 393) 152 = .ok (.getfield 459, 3) := by decide +kernel
theorem fr_393_459 : sm_at mt_f (sm_ow 393) 459 = some (459, 13, 1, 0, 2772) := by decide +kernel
theorem dc_393_155 : decode (sm_cc 393) 155 = .ok (.if_icmp .ge (32), 3) := by decide +kernel
theorem dc_393_187 : decode (sm_cc 393) 187 = .ok (.aload_n 2, 1) := by decide +kernel
theorem dc_393_188 : decode (sm_cc 393) 188 = .ok (.getfield 472, 3) := by decide +kernel
theorem fr_393_472 : sm_at mt_f (sm_ow 393) 472 = some (472, 13, 11, 0, 2788) := by decide +kernel
theorem dc_393_191 : decode (sm_cc 393) 191 = .ok (.ifCond .lt (13), 3) := by decide +kernel
theorem dc_393_194 : decode (sm_cc 393) 194 = .ok (.aload_n 0, 1) := by decide +kernel
theorem dc_393_195 : decode (sm_cc 393) 195 = .ok (.aload_n 2, 1) := by decide +kernel
theorem dc_393_196 : decode (sm_cc 393) 196 = .ok (.getfield 472, 3) := by decide +kernel
theorem dc_393_199 : decode (sm_cc 393) 199 = .ok (.iload_n 1, 1) := by decide +kernel
theorem dc_393_200 : decode (sm_cc 393) 200 = .ok (.invokevirtual 543, 3) := by decide +kernel
theorem dc_393_203 : decode (sm_cc 393) 203 = .ok (.istore_n 1, 1) := by decide +kernel
theorem dc_393_204 : decode (sm_cc 393) 204 = .ok (.aload_n 2, 1) := by decide +kernel
theorem dc_393_205 : decode (sm_cc 393) 205 = .ok (.getfield 475, 3) := by decide +kernel
theorem fr_393_475 : sm_at mt_f (sm_ow 393) 475 = some (475, 13, 12, 0, 2789) := by decide +kernel
theorem dc_393_208 : decode (sm_cc 393) 208 = .ok (.ifCond .lt (13), 3) := by decide +kernel
theorem dc_393_211 : decode (sm_cc 393) 211 = .ok (.aload_n 0, 1) := by decide +kernel
theorem dc_393_212 : decode (sm_cc 393) 212 = .ok (.aload_n 2, 1) := by decide +kernel
theorem dc_393_213 : decode (sm_cc 393) 213 = .ok (.getfield 475, 3) := by decide +kernel
theorem dc_393_216 : decode (sm_cc 393) 216 = .ok (.iload_n 1, 1) := by decide +kernel
theorem dc_393_217 : decode (sm_cc 393) 217 = .ok (.invokevirtual 543, 3) := by decide +kernel
theorem dc_393_220 : decode (sm_cc 393) 220 = .ok (.istore_n 1, 1) := by decide +kernel
theorem dc_393_221 : decode (sm_cc 393) 221 = .ok (.goto (-92), 3) := by decide +kernel
theorem dc_393_158 : decode (sm_cc 393) 158 = .ok (.aload_n 2, 1) := by decide +kernel
theorem dc_393_159 : decode (sm_cc 393) 159 = .ok (.getfield 462, 3) := by decide +kernel
theorem fr_393_462 : sm_at mt_f (sm_ow 393) 462 = some (462, 13, 2, 0, 2774) := by decide +kernel
theorem dc_393_162 : decode (sm_cc 393) 162 = .ok (.iload_n 3, 1) := by decide +kernel
theorem dc_393_163 : decode (sm_cc 393) 163 = .ok (.iaload, 1) := by decide +kernel
theorem dc_393_164 : decode (sm_cc 393) 164 = .ok (.iconst 3, 1) := by decide +kernel
theorem dc_393_165 : decode (sm_cc 393) 165 = .ok (.if_icmp .ne (16), 3) := by decide +kernel
theorem dc_393_181 : decode (sm_cc 393) 181 = .ok (.iinc 3 (1), 3) := by decide +kernel
theorem dc_393_184 : decode (sm_cc 393) 184 = .ok (.goto (-34), 3) := by decide +kernel
theorem dc_393_168 : decode (sm_cc 393) 168 = .ok (.aload_n 0, 1) := by decide +kernel
theorem dc_393_169 : decode (sm_cc 393) 169 = .ok (.aload_n 2, 1) := by decide +kernel
theorem dc_393_170 : decode (sm_cc 393) 170 = .ok (.getfield 465, 3) := by decide +kernel
theorem fr_393_465 : sm_at mt_f (sm_ow 393) 465 = some (465, 13, 4, 0, 2778) := by decide +kernel
theorem dc_393_173 : decode (sm_cc 393) 173 = .ok (.iload_n 3, 1) := by decide +kernel
theorem dc_393_174 : decode (sm_cc 393) 174 = .ok (.laload, 1) := by decide +kernel
theorem dc_393_175 : decode (sm_cc 393) 175 = .ok (.l2i, 1) := by decide +kernel
theorem dc_393_176 : decode (sm_cc 393) 176 = .ok (.iload_n 1, 1) := by decide +kernel
theorem dc_393_177 : decode (sm_cc 393) 177 = .ok (.invokevirtual 543, 3) := by decide +kernel
theorem dc_393_180 : decode (sm_cc 393) 180 = .ok (.istore_n 1, 1) := by decide +kernel
theorem dc_393_228 : decode (sm_cc 393) 228 = .ok (.iload_n 3, 1) := by decide +kernel
theorem dc_393_229 : decode (sm_cc 393) 229 = .ok (.sipush (1500), 3) := by decide +kernel
theorem dc_393_232 : decode (sm_cc 393) 232 = .ok (.if_icmp .ge (40), 3) := by decide +kernel
theorem dc_393_272 : decode (sm_cc 393) 272 = .ok (.iload_n 2, 1) := by decide +kernel
theorem dc_393_273 : decode (sm_cc 393) 273 = .ok (.ireturn, 1) := by decide +kernel
theorem rt_393 : sm_rt 393 = some .int := by decide +kernel
theorem dc_393_235 : decode (sm_cc 393) 235 = .ok (.aload_n 0, 1) := by decide +kernel
theorem dc_393_236 : decode (sm_cc 393) 236 = .ok (.getfield 481, 3) := by decide +kernel
theorem fr_393_481 : sm_at mt_f (sm_ow 393) 481 = some (481, 14, 43, 0, 2116) := by decide +kernel
theorem dc_393_239 : decode (sm_cc 393) 239 = .ok (.iload_n 3, 1) := by decide +kernel
theorem dc_393_240 : decode (sm_cc 393) 240 = .ok (.baload, 1) := by decide +kernel
theorem dc_393_241 : decode (sm_cc 393) 241 = .ok (.ifCond .eq (25), 3) := by decide +kernel
theorem dc_393_266 : decode (sm_cc 393) 266 = .ok (.iinc 3 (1), 3) := by decide +kernel
theorem dc_393_269 : decode (sm_cc 393) 269 = .ok (.goto (-41), 3) := by decide +kernel
theorem dc_393_244 : decode (sm_cc 393) 244 = .ok (.aload_n 0, 1) := by decide +kernel
theorem dc_393_245 : decode (sm_cc 393) 245 = .ok (.getfield 537, 3) := by decide +kernel
theorem dc_393_248 : decode (sm_cc 393) 248 = .ok (.iload_n 3, 1) := by decide +kernel
theorem dc_393_249 : decode (sm_cc 393) 249 = .ok (.baload, 1) := by decide +kernel
theorem dc_393_250 : decode (sm_cc 393) 250 = .ok (.ifCond .eq (6), 3) := by decide +kernel
theorem dc_393_256 : decode (sm_cc 393) 256 = .ok (.aload_n 0, 1) := by decide +kernel
theorem dc_393_257 : decode (sm_cc 393) 257 = .ok (.getfield 481, 3) := by decide +kernel
theorem dc_393_260 : decode (sm_cc 393) 260 = .ok (.iload_n 3, 1) := by decide +kernel
theorem dc_393_261 : decode (sm_cc 393) 261 = .ok (.iconst 0, 1) := by decide +kernel
theorem dc_393_262 : decode (sm_cc 393) 262 = .ok (.bastore, 1) := by decide +kernel
theorem dc_393_263 : decode (sm_cc 393) 263 = .ok (.iinc 2 (1), 3) := by decide +kernel
theorem dc_393_253 : decode (sm_cc 393) 253 = .ok (.goto (13), 3) := by decide +kernel
theorem ml_395 : sm_ml 395 = 3 := by decide +kernel
theorem dc_395_0 : decode (sm_cc 395) 0 = .ok (.aload_n 0, 1) := by decide +kernel
theorem dc_395_1 : decode (sm_cc 395) 1 = .ok (.getfield 537, 3) := by decide +kernel
theorem fr_395_537 : sm_at mt_f (sm_ow 395) 537 = some (537, 14, 44, 0, 2117) := by decide +kernel
theorem dc_395_4 : decode (sm_cc 395) 4 = .ok (.iload_n 1, 1) := by decide +kernel
theorem dc_395_5 : decode (sm_cc 395) 5 = .ok (.baload, 1) := by decide +kernel
theorem dc_395_6 : decode (sm_cc 395) 6 = .ok (.ifCond .eq (5), 3) := by decide +kernel
theorem dc_395_11 : decode (sm_cc 395) 11 = .ok (.aload_n 0, 1) := by decide +kernel
theorem dc_395_12 : decode (sm_cc 395) 12 = .ok (.getfield 537, 3) := by decide +kernel
theorem dc_395_15 : decode (sm_cc 395) 15 = .ok (.iload_n 1, 1) := by decide +kernel
theorem dc_395_16 : decode (sm_cc 395) 16 = .ok (.iconst 1, 1) := by decide +kernel
theorem dc_395_17 : decode (sm_cc 395) 17 = .ok (.bastore, 1) := by decide +kernel
theorem dc_395_18 : decode (sm_cc 395) 18 = .ok (.aload_n 0, 1) := by decide +kernel
theorem dc_395_19 : decode (sm_cc 395) 19 = .ok (.getfield 514, 3) := by decide +kernel
theorem fr_395_514 : sm_at mt_f (sm_ow 395) 514 = some (514, 14, 46, 0, 2119) := by decide +kernel
theorem dc_395_22 : decode (sm_cc 395) 22 = .ok (.iload_n 2, 1) := by decide +kernel
theorem dc_395_23 : decode (sm_cc 395) 23 = .ok (.iload_n 1, 1) := by decide +kernel
theorem dc_395_24 : decode (sm_cc 395) 24 = .ok (.iastore, 1) := by decide +kernel
theorem dc_395_25 : decode (sm_cc 395) 25 = .ok (.iload_n 2, 1) := by decide +kernel
theorem dc_395_26 : decode (sm_cc 395) 26 = .ok (.iconst 1, 1) := by decide +kernel
theorem dc_395_27 : decode (sm_cc 395) 27 = .ok (.iadd, 1) := by decide +kernel
theorem dc_395_28 : decode (sm_cc 395) 28 = .ok (.ireturn, 1) := by decide +kernel
theorem rt_395 : sm_rt 395 = some .int := by decide +kernel
theorem dc_395_9 : decode (sm_cc 395) 9 = .ok (.iload_n 2, 1) := by decide +kernel
theorem dc_395_10 : decode (sm_cc 395) 10 = .ok (.ireturn, 1) := by decide +kernel
theorem ml_356 : sm_ml 356 = 2 := by decide +kernel
theorem dc_356_0 : decode (sm_cc 356) 0 = .ok (.aload_n 0, 1) := by decide +kernel
theorem dc_356_1 : decode (sm_cc 356) 1 = .ok (.iload_n 1, 1) := by decide +kernel
theorem dc_356_2 : decode (sm_cc 356) 2 = .ok (.ldc 53, 2) := by decide +kernel
theorem cs_356_53 : sm_at mt_ci (sm_ow 356) 53 = none ∧ sm_at mt_cs (sm_ow 356) 53 = some (53, 35, 2688) := by decide +kernel
theorem dc_356_4 : decode (sm_cc 356) 4 = .ok (.invokevirtual 55, 3) := by decide +kernel
theorem ow_357 : 14 = sm_ow 357 := by decide +kernel
theorem kr_356_55 : sm_at mt_k (sm_ow 356) 55 = some (55, 0, 357, 0, 2689) := by decide +kernel
theorem np_357 : sm_np 357 = 2 := by decide +kernel
theorem dc_356_7 : decode (sm_cc 356) 7 = .ok (.ifCond .eq (7), 3) := by decide +kernel
theorem dc_356_10 : decode (sm_cc 356) 10 = .ok (.iconst 0, 1) := by decide +kernel
theorem dc_356_11 : decode (sm_cc 356) 11 = .ok (.goto (134), 3) := by decide +kernel
theorem dc_356_145 : decode (sm_cc 356) 145 = .ok (.ireturn, 1) := by decide +kernel
theorem rt_356 : sm_rt 356 = some .int := by decide +kernel
theorem dc_356_14 : decode (sm_cc 356) 14 = .ok (.aload_n 0, 1) := by decide +kernel
theorem dc_356_15 : decode (sm_cc 356) 15 = .ok (.iload_n 1, 1) := by decide +kernel
theorem dc_356_16 : decode (sm_cc 356) 16 = .ok (.ldc 59, 2) := by decide +kernel
theorem cs_356_59 : sm_at mt_ci (sm_ow 356) 59 = none ∧ sm_at mt_cs (sm_ow 356) 59 = some (59, 36, 2693) := by decide +kernel
theorem dc_356_18 : decode (sm_cc 356) 18 = .ok (.invokevirtual 55, 3) := by decide +kernel
theorem dc_356_21 : decode (sm_cc 356) 21 = .ok (.ifCond .eq (7), 3) := by decide +kernel
theorem dc_356_24 : decode (sm_cc 356) 24 = .ok (.iconst 1, 1) := by decide +kernel
theorem dc_356_25 : decode (sm_cc 356) 25 = .ok (.goto (120), 3) := by decide +kernel
theorem dc_356_28 : decode (sm_cc 356) 28 = .ok (.aload_n 0, 1) := by decide +kernel
theorem dc_356_29 : decode (sm_cc 356) 29 = .ok (.iload_n 1, 1) := by decide +kernel
theorem dc_356_30 : decode (sm_cc 356) 30 = .ok (.ldc 61, 2) := by decide +kernel
theorem cs_356_61 : sm_at mt_ci (sm_ow 356) 61 = none ∧ sm_at mt_cs (sm_ow 356) 61 = some (61, 37, 2694) := by decide +kernel
theorem dc_356_32 : decode (sm_cc 356) 32 = .ok (.invokevirtual 55, 3) := by decide +kernel
theorem dc_356_35 : decode (sm_cc 356) 35 = .ok (.ifCond .eq (7), 3) := by decide +kernel
theorem dc_356_38 : decode (sm_cc 356) 38 = .ok (.iconst 2, 1) := by decide +kernel
theorem dc_356_39 : decode (sm_cc 356) 39 = .ok (.goto (106), 3) := by decide +kernel
theorem dc_356_42 : decode (sm_cc 356) 42 = .ok (.aload_n 0, 1) := by decide +kernel
theorem dc_356_43 : decode (sm_cc 356) 43 = .ok (.iload_n 1, 1) := by decide +kernel
theorem dc_356_44 : decode (sm_cc 356) 44 = .ok (.ldc 63, 2) := by decide +kernel
theorem cs_356_63 : sm_at mt_ci (sm_ow 356) 63 = none ∧ sm_at mt_cs (sm_ow 356) 63 = some (63, 38, 2695) := by decide +kernel
theorem dc_356_46 : decode (sm_cc 356) 46 = .ok (.invokevirtual 55, 3) := by decide +kernel
theorem dc_356_49 : decode (sm_cc 356) 49 = .ok (.ifCond .eq (7), 3) := by decide +kernel
theorem dc_356_52 : decode (sm_cc 356) 52 = .ok (.iconst 3, 1) := by decide +kernel
theorem dc_356_53 : decode (sm_cc 356) 53 = .ok (.goto (92), 3) := by decide +kernel
theorem dc_356_56 : decode (sm_cc 356) 56 = .ok (.aload_n 0, 1) := by decide +kernel
theorem dc_356_57 : decode (sm_cc 356) 57 = .ok (.iload_n 1, 1) := by decide +kernel
theorem dc_356_58 : decode (sm_cc 356) 58 = .ok (.ldc 65, 2) := by decide +kernel
theorem cs_356_65 : sm_at mt_ci (sm_ow 356) 65 = none ∧ sm_at mt_cs (sm_ow 356) 65 = some (65, 39, 2696) := by decide +kernel
theorem dc_356_60 : decode (sm_cc 356) 60 = .ok (.invokevirtual 55, 3) := by decide +kernel
theorem dc_356_63 : decode (sm_cc 356) 63 = .ok (.ifCond .eq (7), 3) := by decide +kernel
theorem dc_356_66 : decode (sm_cc 356) 66 = .ok (.iconst 4, 1) := by decide +kernel
theorem dc_356_67 : decode (sm_cc 356) 67 = .ok (.goto (78), 3) := by decide +kernel
theorem dc_356_70 : decode (sm_cc 356) 70 = .ok (.aload_n 0, 1) := by decide +kernel
theorem dc_356_71 : decode (sm_cc 356) 71 = .ok (.iload_n 1, 1) := by decide +kernel
theorem dc_356_72 : decode (sm_cc 356) 72 = .ok (.ldc 67, 2) := by decide +kernel
theorem cs_356_67 : sm_at mt_ci (sm_ow 356) 67 = none ∧ sm_at mt_cs (sm_ow 356) 67 = some (67, 40, 2697) := by decide +kernel
theorem dc_356_74 : decode (sm_cc 356) 74 = .ok (.invokevirtual 55, 3) := by decide +kernel
theorem dc_356_77 : decode (sm_cc 356) 77 = .ok (.ifCond .eq (7), 3) := by decide +kernel
theorem dc_356_80 : decode (sm_cc 356) 80 = .ok (.iconst 5, 1) := by decide +kernel
theorem dc_356_81 : decode (sm_cc 356) 81 = .ok (.goto (64), 3) := by decide +kernel
theorem dc_356_84 : decode (sm_cc 356) 84 = .ok (.aload_n 0, 1) := by decide +kernel
theorem dc_356_85 : decode (sm_cc 356) 85 = .ok (.iload_n 1, 1) := by decide +kernel
theorem dc_356_86 : decode (sm_cc 356) 86 = .ok (.ldc 69, 2) := by decide +kernel
theorem cs_356_69 : sm_at mt_ci (sm_ow 356) 69 = none ∧ sm_at mt_cs (sm_ow 356) 69 = some (69, 41, 2698) := by decide +kernel
theorem dc_356_88 : decode (sm_cc 356) 88 = .ok (.invokevirtual 55, 3) := by decide +kernel
theorem dc_356_91 : decode (sm_cc 356) 91 = .ok (.ifCond .eq (8), 3) := by decide +kernel
theorem dc_356_94 : decode (sm_cc 356) 94 = .ok (.bipush (6), 2) := by decide +kernel
theorem dc_356_96 : decode (sm_cc 356) 96 = .ok (.goto (49), 3) := by decide +kernel
theorem dc_356_99 : decode (sm_cc 356) 99 = .ok (.aload_n 0, 1) := by decide +kernel
theorem dc_356_100 : decode (sm_cc 356) 100 = .ok (.iload_n 1, 1) := by decide +kernel
theorem dc_356_101 : decode (sm_cc 356) 101 = .ok (.ldc 71, 2) := by decide +kernel
theorem cs_356_71 : sm_at mt_ci (sm_ow 356) 71 = none ∧ sm_at mt_cs (sm_ow 356) 71 = some (71, 42, 2699) := by decide +kernel
theorem dc_356_103 : decode (sm_cc 356) 103 = .ok (.invokevirtual 55, 3) := by decide +kernel
theorem dc_356_106 : decode (sm_cc 356) 106 = .ok (.ifCond .eq (8), 3) := by decide +kernel
theorem dc_356_109 : decode (sm_cc 356) 109 = .ok (.bipush (7), 2) := by decide +kernel
theorem dc_356_111 : decode (sm_cc 356) 111 = .ok (.goto (34), 3) := by decide +kernel
theorem dc_356_114 : decode (sm_cc 356) 114 = .ok (.aload_n 0, 1) := by decide +kernel
theorem dc_356_115 : decode (sm_cc 356) 115 = .ok (.iload_n 1, 1) := by decide +kernel
theorem dc_356_116 : decode (sm_cc 356) 116 = .ok (.ldc 73, 2) := by decide +kernel
theorem cs_356_73 : sm_at mt_ci (sm_ow 356) 73 = none ∧ sm_at mt_cs (sm_ow 356) 73 = some (73, 43, 2700) := by decide +kernel
theorem dc_356_118 : decode (sm_cc 356) 118 = .ok (.invokevirtual 55, 3) := by decide +kernel
theorem dc_356_121 : decode (sm_cc 356) 121 = .ok (.ifCond .eq (8), 3) := by decide +kernel
theorem dc_356_124 : decode (sm_cc 356) 124 = .ok (.bipush (8), 2) := by decide +kernel
theorem dc_356_126 : decode (sm_cc 356) 126 = .ok (.goto (19), 3) := by decide +kernel
theorem dc_356_129 : decode (sm_cc 356) 129 = .ok (.aload_n 0, 1) := by decide +kernel
theorem dc_356_130 : decode (sm_cc 356) 130 = .ok (.iload_n 1, 1) := by decide +kernel
theorem dc_356_131 : decode (sm_cc 356) 131 = .ok (.ldc 75, 2) := by decide +kernel
theorem cs_356_75 : sm_at mt_ci (sm_ow 356) 75 = none ∧ sm_at mt_cs (sm_ow 356) 75 = some (75, 44, 2701) := by decide +kernel
theorem dc_356_133 : decode (sm_cc 356) 133 = .ok (.invokevirtual 55, 3) := by decide +kernel
theorem dc_356_136 : decode (sm_cc 356) 136 = .ok (.ifCond .eq (8), 3) := by decide +kernel
theorem dc_356_139 : decode (sm_cc 356) 139 = .ok (.bipush (9), 2) := by decide +kernel
theorem dc_356_141 : decode (sm_cc 356) 141 = .ok (.goto (4), 3) := by decide +kernel
theorem dc_356_144 : decode (sm_cc 356) 144 = .ok (.iconst (-1), 1) := by decide +kernel
theorem rWk_1 {d : Nat} {S Sf : cS} {v : Option Value} {m : Nat} {zm : Nat} {S1 : cS} (am : 108 ≤ m) (hv1 : sV S (6114) = .ref m) (c1 : Ans (d + 8) 349 [.ref 61, .ref m, .int (nI 0), .int (Int32.ofInt (-1)), .int (nI 0), .int (nI 0)] (wI 6166 (nI 0) (wI 6163 (nI 0) (wI 6151 (nI 0) (wI 6159 (nI 0) S)))) none S1) (hB : ∀ lv1 : sm_L, sm_get lv1 0 = some (.ref 61) → Bod (d + 8) 348 32 lv1 [] (S1) v Sf) : Bod (d + 8) 348 0 [(0, .ref 61)] [] S v Sf := by
  refine Bod.go dc_348_0 rfl ?_
  refine Bod.ic 0 (by decide) dc_348_1 ?_
  refine Bod.put dc_348_2 fr_348_502 (mk_61 _) (Nat.le_of_ble_eq_true rfl) pf_14_59 (st_6159 _ _) (mu_I _ _ _) ?_
  refine Bod.go dc_348_5 rfl ?_
  refine Bod.ic 0 (by decide) dc_348_6 ?_
  refine Bod.put dc_348_7 fr_348_493 (mk_61 _) (Nat.le_of_ble_eq_true rfl) pf_14_51 (st_6151 _ _) (mu_I _ _ _) ?_
  refine Bod.go dc_348_10 rfl ?_
  refine Bod.ic 0 (by decide) dc_348_11 ?_
  refine Bod.put dc_348_12 fr_348_558 (mk_61 _) (Nat.le_of_ble_eq_true rfl) pf_14_63 (st_6163 _ _) (mu_I _ _ _) ?_
  refine Bod.go dc_348_15 rfl ?_
  refine Bod.ic 0 (by decide) dc_348_16 ?_
  refine Bod.put dc_348_17 fr_348_561 (mk_61 _) (Nat.le_of_ble_eq_true rfl) pf_14_66 (st_6166 _ _) (mu_I _ _ _) ?_
  refine Bod.go dc_348_20 rfl ?_
  refine Bod.go dc_348_21 rfl ?_
  refine Bod.get dc_348_22 fr_348_206 (mk_61 _) rfl ?_
  refine Bod.eqV (.ref m) (by first | exact hv1 | (simp only [rIV, rJV, rAV, rLV, rQV, rV, reduceIte, Nat.reduceEqDiff]; exact hv1)) ?_
  refine Bod.ic 0 (by decide) dc_348_25 ?_
  refine Bod.go dc_348_26 rfl ?_
  refine Bod.ic 0 (by decide) dc_348_27 ?_
  refine Bod.ic 0 (by decide) dc_348_28 ?_
  refine Bod.virt (r := []) dc_348_29 kr_348_564 ⟨Or.inl rfl, ow_349, cl_14⟩ (by rw [np_349]; rfl) (by rw [np_349]; rfl) (ob_of (mk_61 _)) (Nat.le_of_ble_eq_true rfl) (c1  ) ?_
  show Bod _ _ _ _ [] _ _ _
  exact hB _ (by first | rfl | exact (by repeat (first | exact rfl | exact sm_get_p1 | exact sm_get_p2e | refine sm_get_p1m (by decide) (by decide) ?_ | refine sm_get_p1n (by decide) rfl ?_ | refine sm_get_p2n (by decide) (by decide) rfl ?_ | refine sm_get_p2m (by decide) (by decide) (by decide) ?_)))
theorem rWkL_1 {d : Nat} {S : cS} {lv : sm_L} {cl : Nat} {m : Nat} {zm : Nat} {r : Nat} {N : Nat} {e95 : Nat} {e : Nat} (q0 : sm_get lv 0 = some (.ref 61)) (hcl : sI S 6159 = nI cl) (mcl : cl < 32) (b1 : 1 ≤ cl) (am : 108 ≤ m) (hq2 : sQ S 94 (cl - 1) = some m) (hz1 : (sS S)[m - 108]? = some (12, zm)) (hv1 : sV S (100 * m + 0) = .ref r) (hg1 : isK S r 0 N) (mN : N < 2 ^ 20) (he95 : sA S 95 (cl - 1) = nI e95) (me95 : e95 < 2 ^ 20) (b2 : e95 < N) (he : sA S r e95 = nI e) (me : e < 2 ^ 20) (b3 : e = 41) : Bod (d + 8) 348 32 lv [] S (some (.int (nI 0))) (wI 6151 (nI 0) (wI 6159 (nI 0) S)) := by
  refine Bod.aldnG dc_348_32 (by repeat (first | exact q0 | exact sm_get_p1 | exact sm_get_p2e | refine sm_get_p1m (by decide) (by decide) ?_ | refine sm_get_p1n (by decide) rfl ?_ | refine sm_get_p2n (by decide) (by decide) rfl ?_ | refine sm_get_p2m (by decide) (by decide) (by decide) ?_)) ?_
  refine Bod.get dc_348_33 fr_348_568 (mk_61 _) rfl ?_
  refine Bod.aldnG dc_348_36 (by repeat (first | exact q0 | exact sm_get_p1 | exact sm_get_p2e | refine sm_get_p1m (by decide) (by decide) ?_ | refine sm_get_p1n (by decide) rfl ?_ | refine sm_get_p2n (by decide) (by decide) rfl ?_ | refine sm_get_p2m (by decide) (by decide) (by decide) ?_)) ?_
  refine Bod.get dc_348_37 fr_348_502 (mk_61 _) rfl ?_
  refine Bod.eqI (nI cl) (by first | assumption | rfl | exact congrArg nI (by omega) | (simp (disch := omega) only [rIn, rIe, rA, rIA, rLA, rJA, rVI, rQI, rVA, rQA, upd_at,  rAI, rLI, rJI, nI_add, pk_sub, kc_0, kc_1, kc_2, kc_3, kc_4, kc_5, reduceIte, Nat.reduceEqDiff, Nat.add_zero, rI_hold, rI_hold, rL_hold, hcl]; done)) ?_
  refine Bod.ic 1 (by decide) dc_348_40 ?_
  refine Bod.subN (cl - 1) (by omega) (by omega) dc_348_41 ?_
  refine Bod.aaldR (N := 31) (b := m) (cl - 1) rfl (by omega) (by omega) (by first | exact hq2 | (simp only [rIQ, rJQ, rAQ, rLQ, rVQ, rQ_holdE]; exact hq2)) dc_348_42 (mk_94 _) ht_6 ?_
  refine Bod.get dc_348_43 fr_348_222 (mk_code am (by first | exact hz1 | (simp only [rIS, rJS, rAS, rLS, rVS, rQS, rS_hold]; exact hz1))) rfl ?_
  refine Bod.eqV (.ref r) (by first | exact hv1 | (simp only [rIV, rJV, rAV, rLV, rQV, rV, reduceIte, Nat.reduceEqDiff]; exact hv1)) ?_
  refine Bod.aldnG dc_348_46 (by repeat (first | exact q0 | exact sm_get_p1 | exact sm_get_p2e | refine sm_get_p1m (by decide) (by decide) ?_ | refine sm_get_p1n (by decide) rfl ?_ | refine sm_get_p2n (by decide) (by decide) rfl ?_ | refine sm_get_p2m (by decide) (by decide) (by decide) ?_)) ?_
  refine Bod.get dc_348_47 fr_348_572 (mk_61 _) rfl ?_
  refine Bod.aldnG dc_348_50 (by repeat (first | exact q0 | exact sm_get_p1 | exact sm_get_p2e | refine sm_get_p1m (by decide) (by decide) ?_ | refine sm_get_p1n (by decide) rfl ?_ | refine sm_get_p2n (by decide) (by decide) rfl ?_ | refine sm_get_p2m (by decide) (by decide) (by decide) ?_)) ?_
  refine Bod.get dc_348_51 fr_348_502 (mk_61 _) rfl ?_
  refine Bod.eqI (nI cl) (by first | assumption | rfl | exact congrArg nI (by omega) | (simp (disch := omega) only [rIn, rIe, rA, rIA, rLA, rJA, rVI, rQI, rVA, rQA, upd_at,  rAI, rLI, rJI, nI_add, pk_sub, kc_0, kc_1, kc_2, kc_3, kc_4, kc_5, reduceIte, Nat.reduceEqDiff, Nat.add_zero, rI_hold, rI_hold, rL_hold, hcl]; done)) ?_
  refine Bod.ic 1 (by decide) dc_348_54 ?_
  refine Bod.subN (cl - 1) (by omega) (by omega) dc_348_55 ?_
  refine Bod.ialdN (cl - 1) rfl (by omega) (by omega) dc_348_56 (mk_95 _) ?_
  refine Bod.eqI (nI e95) (by first | assumption | rfl | exact congrArg nI (by omega) | (simp (disch := omega) only [rIn, rIe, rA, rIA, rLA, rJA, rVI, rQI, rVA, rQA, upd_at,  rAI, rLI, rJI, nI_add, pk_sub, kc_0, kc_1, kc_2, kc_3, kc_4, kc_5, reduceIte, Nat.reduceEqDiff, Nat.add_zero, rI_hold, rI_hold, rL_hold, hcl, he95]; done)) ?_
  refine Bod.ialdN (N := N) e95 rfl (by omega) (by omega) dc_348_57 (mk_isI (by first | exact hg1 | exact isK_S (by simp only [rIS, rJS, rAS, rLS, rVS, rQS, rS_hold]) hg1)) ?_
  refine Bod.eqI (nI e) (by first | assumption | rfl | exact congrArg nI (by omega) | (simp (disch := omega) only [rIn, rIe, rA, rIA, rLA, rJA, rVI, rQI, rVA, rQA, upd_at,  rAI, rLI, rJI, nI_add, pk_sub, kc_0, kc_1, kc_2, kc_3, kc_4, kc_5, reduceIte, Nat.reduceEqDiff, Nat.add_zero, rI_hold, rI_hold, rL_hold, hcl, he95, he]; done)) ?_
  refine Bod.bip 41 (by decide) dc_348_58 ?_
  refine Bod.icT dc_348_60 rfl (k2_eq_T (k_eq e 41 rfl rfl (by omega))) ?_
  refine Bod.aldnG dc_348_188 (by repeat (first | exact q0 | exact sm_get_p1 | exact sm_get_p2e | refine sm_get_p1m (by decide) (by decide) ?_ | refine sm_get_p1n (by decide) rfl ?_ | refine sm_get_p2n (by decide) (by decide) rfl ?_ | refine sm_get_p2m (by decide) (by decide) (by decide) ?_)) ?_
  refine Bod.ic 0 (by decide) dc_348_189 ?_
  refine Bod.put dc_348_190 fr_348_502 (mk_61 _) (Nat.le_of_ble_eq_true rfl) pf_14_59 (st_6159 _ _) (mu_I _ _ _) ?_
  refine Bod.aldnG dc_348_193 (by repeat (first | exact q0 | exact sm_get_p1 | exact sm_get_p2e | refine sm_get_p1m (by decide) (by decide) ?_ | refine sm_get_p1n (by decide) rfl ?_ | refine sm_get_p2n (by decide) (by decide) rfl ?_ | refine sm_get_p2m (by decide) (by decide) (by decide) ?_)) ?_
  refine Bod.ic 0 (by decide) dc_348_194 ?_
  refine Bod.put dc_348_195 fr_348_493 (mk_61 _) (Nat.le_of_ble_eq_true rfl) pf_14_51 (st_6151 _ _) (mu_I _ _ _) ?_
  refine Bod.ic 0 (by decide) dc_348_198 ?_
  exact Bod.retI dc_348_199 rt_348
theorem rWkL_2 {d : Nat} {S Sf : cS} {v : Option Value} {lv : sm_L} {cl : Nat} {m : Nat} {zm : Nat} {r : Nat} {N : Nat} {e95 : Nat} {e : Nat} {S1 : cS} (q0 : sm_get lv 0 = some (.ref 61)) (hcl : sI S 6159 = nI cl) (mcl : cl < 32) (b1 : 1 ≤ cl) (am : 108 ≤ m) (hq2 : sQ S 94 (cl - 1) = some m) (hz1 : (sS S)[m - 108]? = some (12, zm)) (hv1 : sV S (100 * m + 0) = .ref r) (hg1 : isK S r 0 N) (mN : N < 2 ^ 20) (he95 : sA S 95 (cl - 1) = nI e95) (me95 : e95 < 2 ^ 20) (b2 : e95 < N) (he : sA S r e95 = nI e) (me : e < 2 ^ 20) (b3 : e ≠ 41) (c1 : Ans (d + 8) 350 [.ref 61] S (some (.int (nI 1))) S1) (hB : ∀ lv1 : sm_L, sm_get lv1 0 = some (.ref 61) → Bod (d + 8) 348 32 lv1 [] (S1) v Sf) : Bod (d + 8) 348 32 lv [] S v Sf := by
  refine Bod.aldnG dc_348_32 (by repeat (first | exact q0 | exact sm_get_p1 | exact sm_get_p2e | refine sm_get_p1m (by decide) (by decide) ?_ | refine sm_get_p1n (by decide) rfl ?_ | refine sm_get_p2n (by decide) (by decide) rfl ?_ | refine sm_get_p2m (by decide) (by decide) (by decide) ?_)) ?_
  refine Bod.get dc_348_33 fr_348_568 (mk_61 _) rfl ?_
  refine Bod.aldnG dc_348_36 (by repeat (first | exact q0 | exact sm_get_p1 | exact sm_get_p2e | refine sm_get_p1m (by decide) (by decide) ?_ | refine sm_get_p1n (by decide) rfl ?_ | refine sm_get_p2n (by decide) (by decide) rfl ?_ | refine sm_get_p2m (by decide) (by decide) (by decide) ?_)) ?_
  refine Bod.get dc_348_37 fr_348_502 (mk_61 _) rfl ?_
  refine Bod.eqI (nI cl) (by first | assumption | rfl | exact congrArg nI (by omega) | (simp (disch := omega) only [rIn, rIe, rA, rIA, rLA, rJA, rVI, rQI, rVA, rQA, upd_at,  rAI, rLI, rJI, nI_add, pk_sub, kc_0, kc_1, kc_2, kc_3, kc_4, kc_5, reduceIte, Nat.reduceEqDiff, Nat.add_zero, rI_hold, rI_hold, rL_hold, hcl]; done)) ?_
  refine Bod.ic 1 (by decide) dc_348_40 ?_
  refine Bod.subN (cl - 1) (by omega) (by omega) dc_348_41 ?_
  refine Bod.aaldR (N := 31) (b := m) (cl - 1) rfl (by omega) (by omega) (by first | exact hq2 | (simp only [rIQ, rJQ, rAQ, rLQ, rVQ, rQ_holdE]; exact hq2)) dc_348_42 (mk_94 _) ht_6 ?_
  refine Bod.get dc_348_43 fr_348_222 (mk_code am (by first | exact hz1 | (simp only [rIS, rJS, rAS, rLS, rVS, rQS, rS_hold]; exact hz1))) rfl ?_
  refine Bod.eqV (.ref r) (by first | exact hv1 | (simp only [rIV, rJV, rAV, rLV, rQV, rV, reduceIte, Nat.reduceEqDiff]; exact hv1)) ?_
  refine Bod.aldnG dc_348_46 (by repeat (first | exact q0 | exact sm_get_p1 | exact sm_get_p2e | refine sm_get_p1m (by decide) (by decide) ?_ | refine sm_get_p1n (by decide) rfl ?_ | refine sm_get_p2n (by decide) (by decide) rfl ?_ | refine sm_get_p2m (by decide) (by decide) (by decide) ?_)) ?_
  refine Bod.get dc_348_47 fr_348_572 (mk_61 _) rfl ?_
  refine Bod.aldnG dc_348_50 (by repeat (first | exact q0 | exact sm_get_p1 | exact sm_get_p2e | refine sm_get_p1m (by decide) (by decide) ?_ | refine sm_get_p1n (by decide) rfl ?_ | refine sm_get_p2n (by decide) (by decide) rfl ?_ | refine sm_get_p2m (by decide) (by decide) (by decide) ?_)) ?_
  refine Bod.get dc_348_51 fr_348_502 (mk_61 _) rfl ?_
  refine Bod.eqI (nI cl) (by first | assumption | rfl | exact congrArg nI (by omega) | (simp (disch := omega) only [rIn, rIe, rA, rIA, rLA, rJA, rVI, rQI, rVA, rQA, upd_at,  rAI, rLI, rJI, nI_add, pk_sub, kc_0, kc_1, kc_2, kc_3, kc_4, kc_5, reduceIte, Nat.reduceEqDiff, Nat.add_zero, rI_hold, rI_hold, rL_hold, hcl]; done)) ?_
  refine Bod.ic 1 (by decide) dc_348_54 ?_
  refine Bod.subN (cl - 1) (by omega) (by omega) dc_348_55 ?_
  refine Bod.ialdN (cl - 1) rfl (by omega) (by omega) dc_348_56 (mk_95 _) ?_
  refine Bod.eqI (nI e95) (by first | assumption | rfl | exact congrArg nI (by omega) | (simp (disch := omega) only [rIn, rIe, rA, rIA, rLA, rJA, rVI, rQI, rVA, rQA, upd_at,  rAI, rLI, rJI, nI_add, pk_sub, kc_0, kc_1, kc_2, kc_3, kc_4, kc_5, reduceIte, Nat.reduceEqDiff, Nat.add_zero, rI_hold, rI_hold, rL_hold, hcl, he95]; done)) ?_
  refine Bod.ialdN (N := N) e95 rfl (by omega) (by omega) dc_348_57 (mk_isI (by first | exact hg1 | exact isK_S (by simp only [rIS, rJS, rAS, rLS, rVS, rQS, rS_hold]) hg1)) ?_
  refine Bod.eqI (nI e) (by first | assumption | rfl | exact congrArg nI (by omega) | (simp (disch := omega) only [rIn, rIe, rA, rIA, rLA, rJA, rVI, rQI, rVA, rQA, upd_at,  rAI, rLI, rJI, nI_add, pk_sub, kc_0, kc_1, kc_2, kc_3, kc_4, kc_5, reduceIte, Nat.reduceEqDiff, Nat.add_zero, rI_hold, rI_hold, rL_hold, hcl, he95, he]; done)) ?_
  refine Bod.bip 41 (by decide) dc_348_58 ?_
  refine Bod.icF dc_348_60 rfl (k2_eq_F (k_ne e 41 rfl rfl (by omega) (by omega) (by omega))) ?_
  refine Bod.aldnG dc_348_63 (by repeat (first | exact q0 | exact sm_get_p1 | exact sm_get_p2e | refine sm_get_p1m (by decide) (by decide) ?_ | refine sm_get_p1n (by decide) rfl ?_ | refine sm_get_p2n (by decide) (by decide) rfl ?_ | refine sm_get_p2m (by decide) (by decide) (by decide) ?_)) ?_
  refine Bod.virt (r := []) dc_348_64 kr_348_575 ⟨Or.inl rfl, ow_350, cl_14⟩ (by rw [np_350]; rfl) (by rw [np_350]; rfl) (ob_of (mk_61 _)) (Nat.le_of_ble_eq_true rfl) (c1  ) ?_
  show Bod _ _ _ _ [_] _ _ _
  refine Bod.ifF dc_348_67 rfl (k1_eq_F (k_ne 1 0 rfl rfl (by omega) (by omega) (by omega))) ?_
  refine Bod.go dc_348_70 rfl ?_
  exact hB _ (by repeat (first | exact q0 | exact sm_get_p1 | exact sm_get_p2e | refine sm_get_p1m (by decide) (by decide) ?_ | refine sm_get_p1n (by decide) rfl ?_ | refine sm_get_p2n (by decide) (by decide) rfl ?_ | refine sm_get_p2m (by decide) (by decide) (by decide) ?_))
theorem rWkL_3 {d : Nat} {S : cS} {lv : sm_L} {cl : Nat} {m : Nat} {zm : Nat} {r : Nat} {N : Nat} {e95 : Nat} {e : Nat} {S1 : cS} {er : Nat} {cl1 : Nat} {e98 : Nat} (q0 : sm_get lv 0 = some (.ref 61)) (hcl : sI S 6159 = nI cl) (mcl : cl < 32) (b1 : 1 ≤ cl) (am : 108 ≤ m) (hq2 : sQ S 94 (cl - 1) = some m) (hz1 : (sS S)[m - 108]? = some (12, zm)) (hv1 : sV S (100 * m + 0) = .ref r) (hg1 : isK S r 0 N) (mN : N < 2 ^ 20) (he95 : sA S 95 (cl - 1) = nI e95) (me95 : e95 < 2 ^ 20) (b2 : e95 < N) (he : sA S r e95 = nI e) (me : e < 2 ^ 20) (b3 : e ≠ 41) (c1 : Ans (d + 8) 350 [.ref 61] S (some (.int (nI 0))) S1) (her : sI S1 6164 = nI er) (mer : er < 2 ^ 20) (b4 : er = 100) (hcl1 : sI S1 6159 = nI cl1) (mcl1 : cl1 < 32) (b5 : 1 ≤ cl1) (he98 : sA S1 98 (cl1 - 1) = nI e98) (me98 : e98 < 2 ^ 20) : Bod (d + 8) 348 32 lv [] S (some (.int (nI er))) (wI 6151 (nI 0) (wI 6159 (nI 0) (wI 6168 (nI e98) S1))) := by
  refine Bod.aldnG dc_348_32 (by repeat (first | exact q0 | exact sm_get_p1 | exact sm_get_p2e | refine sm_get_p1m (by decide) (by decide) ?_ | refine sm_get_p1n (by decide) rfl ?_ | refine sm_get_p2n (by decide) (by decide) rfl ?_ | refine sm_get_p2m (by decide) (by decide) (by decide) ?_)) ?_
  refine Bod.get dc_348_33 fr_348_568 (mk_61 _) rfl ?_
  refine Bod.aldnG dc_348_36 (by repeat (first | exact q0 | exact sm_get_p1 | exact sm_get_p2e | refine sm_get_p1m (by decide) (by decide) ?_ | refine sm_get_p1n (by decide) rfl ?_ | refine sm_get_p2n (by decide) (by decide) rfl ?_ | refine sm_get_p2m (by decide) (by decide) (by decide) ?_)) ?_
  refine Bod.get dc_348_37 fr_348_502 (mk_61 _) rfl ?_
  refine Bod.eqI (nI cl) (by first | assumption | rfl | exact congrArg nI (by omega) | (simp (disch := omega) only [rIn, rIe, rA, rIA, rLA, rJA, rVI, rQI, rVA, rQA, upd_at,  rAI, rLI, rJI, nI_add, pk_sub, kc_0, kc_1, kc_2, kc_3, kc_4, kc_5, reduceIte, Nat.reduceEqDiff, Nat.add_zero, rI_hold, rI_hold, rL_hold, hcl]; done)) ?_
  refine Bod.ic 1 (by decide) dc_348_40 ?_
  refine Bod.subN (cl - 1) (by omega) (by omega) dc_348_41 ?_
  refine Bod.aaldR (N := 31) (b := m) (cl - 1) rfl (by omega) (by omega) (by first | exact hq2 | (simp only [rIQ, rJQ, rAQ, rLQ, rVQ, rQ_holdE]; exact hq2)) dc_348_42 (mk_94 _) ht_6 ?_
  refine Bod.get dc_348_43 fr_348_222 (mk_code am (by first | exact hz1 | (simp only [rIS, rJS, rAS, rLS, rVS, rQS, rS_hold]; exact hz1))) rfl ?_
  refine Bod.eqV (.ref r) (by first | exact hv1 | (simp only [rIV, rJV, rAV, rLV, rQV, rV, reduceIte, Nat.reduceEqDiff]; exact hv1)) ?_
  refine Bod.aldnG dc_348_46 (by repeat (first | exact q0 | exact sm_get_p1 | exact sm_get_p2e | refine sm_get_p1m (by decide) (by decide) ?_ | refine sm_get_p1n (by decide) rfl ?_ | refine sm_get_p2n (by decide) (by decide) rfl ?_ | refine sm_get_p2m (by decide) (by decide) (by decide) ?_)) ?_
  refine Bod.get dc_348_47 fr_348_572 (mk_61 _) rfl ?_
  refine Bod.aldnG dc_348_50 (by repeat (first | exact q0 | exact sm_get_p1 | exact sm_get_p2e | refine sm_get_p1m (by decide) (by decide) ?_ | refine sm_get_p1n (by decide) rfl ?_ | refine sm_get_p2n (by decide) (by decide) rfl ?_ | refine sm_get_p2m (by decide) (by decide) (by decide) ?_)) ?_
  refine Bod.get dc_348_51 fr_348_502 (mk_61 _) rfl ?_
  refine Bod.eqI (nI cl) (by first | assumption | rfl | exact congrArg nI (by omega) | (simp (disch := omega) only [rIn, rIe, rA, rIA, rLA, rJA, rVI, rQI, rVA, rQA, upd_at,  rAI, rLI, rJI, nI_add, pk_sub, kc_0, kc_1, kc_2, kc_3, kc_4, kc_5, reduceIte, Nat.reduceEqDiff, Nat.add_zero, rI_hold, rI_hold, rL_hold, hcl]; done)) ?_
  refine Bod.ic 1 (by decide) dc_348_54 ?_
  refine Bod.subN (cl - 1) (by omega) (by omega) dc_348_55 ?_
  refine Bod.ialdN (cl - 1) rfl (by omega) (by omega) dc_348_56 (mk_95 _) ?_
  refine Bod.eqI (nI e95) (by first | assumption | rfl | exact congrArg nI (by omega) | (simp (disch := omega) only [rIn, rIe, rA, rIA, rLA, rJA, rVI, rQI, rVA, rQA, upd_at,  rAI, rLI, rJI, nI_add, pk_sub, kc_0, kc_1, kc_2, kc_3, kc_4, kc_5, reduceIte, Nat.reduceEqDiff, Nat.add_zero, rI_hold, rI_hold, rL_hold, hcl, he95]; done)) ?_
  refine Bod.ialdN (N := N) e95 rfl (by omega) (by omega) dc_348_57 (mk_isI (by first | exact hg1 | exact isK_S (by simp only [rIS, rJS, rAS, rLS, rVS, rQS, rS_hold]) hg1)) ?_
  refine Bod.eqI (nI e) (by first | assumption | rfl | exact congrArg nI (by omega) | (simp (disch := omega) only [rIn, rIe, rA, rIA, rLA, rJA, rVI, rQI, rVA, rQA, upd_at,  rAI, rLI, rJI, nI_add, pk_sub, kc_0, kc_1, kc_2, kc_3, kc_4, kc_5, reduceIte, Nat.reduceEqDiff, Nat.add_zero, rI_hold, rI_hold, rL_hold, hcl, he95, he]; done)) ?_
  refine Bod.bip 41 (by decide) dc_348_58 ?_
  refine Bod.icF dc_348_60 rfl (k2_eq_F (k_ne e 41 rfl rfl (by omega) (by omega) (by omega))) ?_
  refine Bod.aldnG dc_348_63 (by repeat (first | exact q0 | exact sm_get_p1 | exact sm_get_p2e | refine sm_get_p1m (by decide) (by decide) ?_ | refine sm_get_p1n (by decide) rfl ?_ | refine sm_get_p2n (by decide) (by decide) rfl ?_ | refine sm_get_p2m (by decide) (by decide) (by decide) ?_)) ?_
  refine Bod.virt (r := []) dc_348_64 kr_348_575 ⟨Or.inl rfl, ow_350, cl_14⟩ (by rw [np_350]; rfl) (by rw [np_350]; rfl) (ob_of (mk_61 _)) (Nat.le_of_ble_eq_true rfl) (c1  ) ?_
  show Bod _ _ _ _ [_] _ _ _
  refine Bod.ifT dc_348_67 rfl (k1_eq_T (k_eq 0 0 rfl rfl (by omega))) ?_
  refine Bod.aldnG dc_348_73 (by repeat (first | exact q0 | exact sm_get_p1 | exact sm_get_p2e | refine sm_get_p1m (by decide) (by decide) ?_ | refine sm_get_p1n (by decide) rfl ?_ | refine sm_get_p2n (by decide) (by decide) rfl ?_ | refine sm_get_p2m (by decide) (by decide) (by decide) ?_)) ?_
  refine Bod.get dc_348_74 fr_348_453 (mk_61 _) rfl ?_
  refine Bod.eqI (nI er) (by first | assumption | (simp (disch := omega) only [rIn, rIe, rA, rIA, rLA, rJA, rVI, rQI, rVA, rQA, upd_at,  rAI, rLI, rJI, nI_add, pk_sub, kc_0, kc_1, kc_2, kc_3, kc_4, kc_5, reduceIte, Nat.reduceEqDiff, Nat.add_zero, rI_hold, rI_hold, rL_hold, hcl, he95, he, her]; done) | (simp (disch := omega) only [rIn, rIe, rA, rIA, rLA, rJA, rVI, rQI, rVA, rQA, upd_at,  rAI, rLI, rJI, nI_add, pk_sub, kc_0, kc_1, kc_2, kc_3, kc_4, kc_5, reduceIte, Nat.reduceEqDiff, Nat.add_zero, rI_hold, rI_hold, rL_hold, hcl, he95, he, her]; exact congrArg nI (by omega))) ?_
  refine Bod.bip 100 (by decide) dc_348_77 ?_
  refine Bod.icT dc_348_79 rfl (k2_eq_T (k_eq er 100 rfl rfl (by omega))) ?_
  refine Bod.aldnG dc_348_89 (by repeat (first | exact q0 | exact sm_get_p1 | exact sm_get_p2e | refine sm_get_p1m (by decide) (by decide) ?_ | refine sm_get_p1n (by decide) rfl ?_ | refine sm_get_p2n (by decide) (by decide) rfl ?_ | refine sm_get_p2m (by decide) (by decide) (by decide) ?_)) ?_
  refine Bod.aldnG dc_348_90 (by repeat (first | exact q0 | exact sm_get_p1 | exact sm_get_p2e | refine sm_get_p1m (by decide) (by decide) ?_ | refine sm_get_p1n (by decide) rfl ?_ | refine sm_get_p2n (by decide) (by decide) rfl ?_ | refine sm_get_p2m (by decide) (by decide) (by decide) ?_)) ?_
  refine Bod.get dc_348_91 fr_348_578 (mk_61 _) rfl ?_
  refine Bod.aldnG dc_348_94 (by repeat (first | exact q0 | exact sm_get_p1 | exact sm_get_p2e | refine sm_get_p1m (by decide) (by decide) ?_ | refine sm_get_p1n (by decide) rfl ?_ | refine sm_get_p2n (by decide) (by decide) rfl ?_ | refine sm_get_p2m (by decide) (by decide) (by decide) ?_)) ?_
  refine Bod.get dc_348_95 fr_348_502 (mk_61 _) rfl ?_
  refine Bod.eqI (nI cl1) (by first | assumption | (simp (disch := omega) only [rIn, rIe, rA, rIA, rLA, rJA, rVI, rQI, rVA, rQA, upd_at,  rAI, rLI, rJI, nI_add, pk_sub, kc_0, kc_1, kc_2, kc_3, kc_4, kc_5, reduceIte, Nat.reduceEqDiff, Nat.add_zero, rI_hold, rI_hold, rL_hold, hcl, he95, he, her, hcl1]; done) | (simp (disch := omega) only [rIn, rIe, rA, rIA, rLA, rJA, rVI, rQI, rVA, rQA, upd_at,  rAI, rLI, rJI, nI_add, pk_sub, kc_0, kc_1, kc_2, kc_3, kc_4, kc_5, reduceIte, Nat.reduceEqDiff, Nat.add_zero, rI_hold, rI_hold, rL_hold, hcl, he95, he, her, hcl1]; exact congrArg nI (by omega))) ?_
  refine Bod.ic 1 (by decide) dc_348_98 ?_
  refine Bod.subN (cl1 - 1) (by omega) (by omega) dc_348_99 ?_
  refine Bod.ialdN (cl1 - 1) rfl (by omega) (by omega) dc_348_100 (mk_98 _) ?_
  refine Bod.eqI (nI e98) (by first | assumption | (simp (disch := omega) only [rIn, rIe, rA, rIA, rLA, rJA, rVI, rQI, rVA, rQA, upd_at,  rAI, rLI, rJI, nI_add, pk_sub, kc_0, kc_1, kc_2, kc_3, kc_4, kc_5, reduceIte, Nat.reduceEqDiff, Nat.add_zero, rI_hold, rI_hold, rL_hold, hcl, he95, he, her, hcl1, he98]; done) | (simp (disch := omega) only [rIn, rIe, rA, rIA, rLA, rJA, rVI, rQI, rVA, rQA, upd_at,  rAI, rLI, rJI, nI_add, pk_sub, kc_0, kc_1, kc_2, kc_3, kc_4, kc_5, reduceIte, Nat.reduceEqDiff, Nat.add_zero, rI_hold, rI_hold, rL_hold, hcl, he95, he, her, hcl1, he98]; exact congrArg nI (by omega))) ?_
  refine Bod.put dc_348_101 fr_348_581 (mk_61 _) (Nat.le_of_ble_eq_true rfl) pf_14_68 (st_6168 _ _) (mu_I _ _ _) ?_
  refine Bod.aldnG dc_348_104 (by repeat (first | exact q0 | exact sm_get_p1 | exact sm_get_p2e | refine sm_get_p1m (by decide) (by decide) ?_ | refine sm_get_p1n (by decide) rfl ?_ | refine sm_get_p2n (by decide) (by decide) rfl ?_ | refine sm_get_p2m (by decide) (by decide) (by decide) ?_)) ?_
  refine Bod.ic 0 (by decide) dc_348_105 ?_
  refine Bod.put dc_348_106 fr_348_502 (mk_61 _) (Nat.le_of_ble_eq_true rfl) pf_14_59 (st_6159 _ _) (mu_I _ _ _) ?_
  refine Bod.aldnG dc_348_109 (by repeat (first | exact q0 | exact sm_get_p1 | exact sm_get_p2e | refine sm_get_p1m (by decide) (by decide) ?_ | refine sm_get_p1n (by decide) rfl ?_ | refine sm_get_p2n (by decide) (by decide) rfl ?_ | refine sm_get_p2m (by decide) (by decide) (by decide) ?_)) ?_
  refine Bod.ic 0 (by decide) dc_348_110 ?_
  refine Bod.put dc_348_111 fr_348_493 (mk_61 _) (Nat.le_of_ble_eq_true rfl) pf_14_51 (st_6151 _ _) (mu_I _ _ _) ?_
  refine Bod.aldnG dc_348_114 (by repeat (first | exact q0 | exact sm_get_p1 | exact sm_get_p2e | refine sm_get_p1m (by decide) (by decide) ?_ | refine sm_get_p1n (by decide) rfl ?_ | refine sm_get_p2n (by decide) (by decide) rfl ?_ | refine sm_get_p2m (by decide) (by decide) (by decide) ?_)) ?_
  refine Bod.get dc_348_115 fr_348_453 (mk_61 _) rfl ?_
  refine Bod.eqI (nI er) (by first | assumption | (simp (disch := omega) only [rIn, rIe, rA, rIA, rLA, rJA, rVI, rQI, rVA, rQA, upd_at,  rAI, rLI, rJI, nI_add, pk_sub, kc_0, kc_1, kc_2, kc_3, kc_4, kc_5, reduceIte, Nat.reduceEqDiff, Nat.add_zero, rI_hold, rI_hold, rL_hold, hcl, he95, he, her, hcl1, he98]; done) | (simp (disch := omega) only [rIn, rIe, rA, rIA, rLA, rJA, rVI, rQI, rVA, rQA, upd_at,  rAI, rLI, rJI, nI_add, pk_sub, kc_0, kc_1, kc_2, kc_3, kc_4, kc_5, reduceIte, Nat.reduceEqDiff, Nat.add_zero, rI_hold, rI_hold, rL_hold, hcl, he95, he, her, hcl1, he98]; exact congrArg nI (by omega))) ?_
  exact Bod.retI dc_348_118 rt_348
theorem rWkL_4 {d : Nat} {S Sf : cS} {v : Option Value} {lv : sm_L} {cl : Nat} {m : Nat} {zm : Nat} {r : Nat} {N : Nat} {e95 : Nat} {e : Nat} {S1 : cS} {er : Nat} {tr : Nat} {e101 : Nat} {e103 : Nat} {e102 : Nat} (q0 : sm_get lv 0 = some (.ref 61)) (hcl : sI S 6159 = nI cl) (mcl : cl < 32) (b1 : 1 ≤ cl) (am : 108 ≤ m) (hq2 : sQ S 94 (cl - 1) = some m) (hz1 : (sS S)[m - 108]? = some (12, zm)) (hv1 : sV S (100 * m + 0) = .ref r) (hg1 : isK S r 0 N) (mN : N < 2 ^ 20) (he95 : sA S 95 (cl - 1) = nI e95) (me95 : e95 < 2 ^ 20) (b2 : e95 < N) (he : sA S r e95 = nI e) (me : e < 2 ^ 20) (b3 : e ≠ 41) (c1 : Ans (d + 8) 350 [.ref 61] S (some (.int (nI 0))) S1) (her : sI S1 6164 = nI er) (mer : er < 2 ^ 20) (b4 : er ≠ 100) (htr : sI S1 6163 = nI tr) (mtr : tr < 401) (b5 : tr ≠ 0) (b6 : 1 ≤ tr) (he101 : sA (wI 6163 (nI (tr - 1)) S1) 101 (tr - 1) = nI e101) (me101 : e101 < 2 ^ 20) (he103 : sA (wI 6159 (nI (e101 + 1)) (wI 6163 (nI (tr - 1)) S1)) 103 (tr - 1) = nI e103) (me103 : e103 < 2 ^ 20) (b7 : 1 ≤ e101 + 1) (he102 : sA (wI 6151 (nI e103) (wI 6159 (nI (e101 + 1)) (wI 6163 (nI (tr - 1)) S1))) 102 (tr - 1) = nI e102) (me102 : e102 < 2 ^ 20) (b8 : e101 < 31) (hB : ∀ lv1 : sm_L, sm_get lv1 0 = some (.ref 61) → Bod (d + 8) 348 32 lv1 [] (wI 6167 (nI er) (wA 95 e101 (nI e102) (wI 6151 (nI e103) (wI 6159 (nI (e101 + 1)) (wI 6163 (nI (tr - 1)) S1))))) v Sf) : Bod (d + 8) 348 32 lv [] S v Sf := by
  refine Bod.aldnG dc_348_32 (by repeat (first | exact q0 | exact sm_get_p1 | exact sm_get_p2e | refine sm_get_p1m (by decide) (by decide) ?_ | refine sm_get_p1n (by decide) rfl ?_ | refine sm_get_p2n (by decide) (by decide) rfl ?_ | refine sm_get_p2m (by decide) (by decide) (by decide) ?_)) ?_
  refine Bod.get dc_348_33 fr_348_568 (mk_61 _) rfl ?_
  refine Bod.aldnG dc_348_36 (by repeat (first | exact q0 | exact sm_get_p1 | exact sm_get_p2e | refine sm_get_p1m (by decide) (by decide) ?_ | refine sm_get_p1n (by decide) rfl ?_ | refine sm_get_p2n (by decide) (by decide) rfl ?_ | refine sm_get_p2m (by decide) (by decide) (by decide) ?_)) ?_
  refine Bod.get dc_348_37 fr_348_502 (mk_61 _) rfl ?_
  refine Bod.eqI (nI cl) (by first | assumption | rfl | exact congrArg nI (by omega) | (simp (disch := omega) only [rIn, rIe, rA, rIA, rLA, rJA, rVI, rQI, rVA, rQA, upd_at,  rAI, rLI, rJI, nI_add, pk_sub, kc_0, kc_1, kc_2, kc_3, kc_4, kc_5, reduceIte, Nat.reduceEqDiff, Nat.add_zero, rI_hold, rI_hold, rL_hold, hcl]; done)) ?_
  refine Bod.ic 1 (by decide) dc_348_40 ?_
  refine Bod.subN (cl - 1) (by omega) (by omega) dc_348_41 ?_
  refine Bod.aaldR (N := 31) (b := m) (cl - 1) rfl (by omega) (by omega) (by first | exact hq2 | (simp only [rIQ, rJQ, rAQ, rLQ, rVQ, rQ_holdE]; exact hq2)) dc_348_42 (mk_94 _) ht_6 ?_
  refine Bod.get dc_348_43 fr_348_222 (mk_code am (by first | exact hz1 | (simp only [rIS, rJS, rAS, rLS, rVS, rQS, rS_hold]; exact hz1))) rfl ?_
  refine Bod.eqV (.ref r) (by first | exact hv1 | (simp only [rIV, rJV, rAV, rLV, rQV, rV, reduceIte, Nat.reduceEqDiff]; exact hv1)) ?_
  refine Bod.aldnG dc_348_46 (by repeat (first | exact q0 | exact sm_get_p1 | exact sm_get_p2e | refine sm_get_p1m (by decide) (by decide) ?_ | refine sm_get_p1n (by decide) rfl ?_ | refine sm_get_p2n (by decide) (by decide) rfl ?_ | refine sm_get_p2m (by decide) (by decide) (by decide) ?_)) ?_
  refine Bod.get dc_348_47 fr_348_572 (mk_61 _) rfl ?_
  refine Bod.aldnG dc_348_50 (by repeat (first | exact q0 | exact sm_get_p1 | exact sm_get_p2e | refine sm_get_p1m (by decide) (by decide) ?_ | refine sm_get_p1n (by decide) rfl ?_ | refine sm_get_p2n (by decide) (by decide) rfl ?_ | refine sm_get_p2m (by decide) (by decide) (by decide) ?_)) ?_
  refine Bod.get dc_348_51 fr_348_502 (mk_61 _) rfl ?_
  refine Bod.eqI (nI cl) (by first | assumption | rfl | exact congrArg nI (by omega) | (simp (disch := omega) only [rIn, rIe, rA, rIA, rLA, rJA, rVI, rQI, rVA, rQA, upd_at,  rAI, rLI, rJI, nI_add, pk_sub, kc_0, kc_1, kc_2, kc_3, kc_4, kc_5, reduceIte, Nat.reduceEqDiff, Nat.add_zero, rI_hold, rI_hold, rL_hold, hcl]; done)) ?_
  refine Bod.ic 1 (by decide) dc_348_54 ?_
  refine Bod.subN (cl - 1) (by omega) (by omega) dc_348_55 ?_
  refine Bod.ialdN (cl - 1) rfl (by omega) (by omega) dc_348_56 (mk_95 _) ?_
  refine Bod.eqI (nI e95) (by first | assumption | rfl | exact congrArg nI (by omega) | (simp (disch := omega) only [rIn, rIe, rA, rIA, rLA, rJA, rVI, rQI, rVA, rQA, upd_at,  rAI, rLI, rJI, nI_add, pk_sub, kc_0, kc_1, kc_2, kc_3, kc_4, kc_5, reduceIte, Nat.reduceEqDiff, Nat.add_zero, rI_hold, rI_hold, rL_hold, hcl, he95]; done)) ?_
  refine Bod.ialdN (N := N) e95 rfl (by omega) (by omega) dc_348_57 (mk_isI (by first | exact hg1 | exact isK_S (by simp only [rIS, rJS, rAS, rLS, rVS, rQS, rS_hold]) hg1)) ?_
  refine Bod.eqI (nI e) (by first | assumption | rfl | exact congrArg nI (by omega) | (simp (disch := omega) only [rIn, rIe, rA, rIA, rLA, rJA, rVI, rQI, rVA, rQA, upd_at,  rAI, rLI, rJI, nI_add, pk_sub, kc_0, kc_1, kc_2, kc_3, kc_4, kc_5, reduceIte, Nat.reduceEqDiff, Nat.add_zero, rI_hold, rI_hold, rL_hold, hcl, he95, he]; done)) ?_
  refine Bod.bip 41 (by decide) dc_348_58 ?_
  refine Bod.icF dc_348_60 rfl (k2_eq_F (k_ne e 41 rfl rfl (by omega) (by omega) (by omega))) ?_
  refine Bod.aldnG dc_348_63 (by repeat (first | exact q0 | exact sm_get_p1 | exact sm_get_p2e | refine sm_get_p1m (by decide) (by decide) ?_ | refine sm_get_p1n (by decide) rfl ?_ | refine sm_get_p2n (by decide) (by decide) rfl ?_ | refine sm_get_p2m (by decide) (by decide) (by decide) ?_)) ?_
  refine Bod.virt (r := []) dc_348_64 kr_348_575 ⟨Or.inl rfl, ow_350, cl_14⟩ (by rw [np_350]; rfl) (by rw [np_350]; rfl) (ob_of (mk_61 _)) (Nat.le_of_ble_eq_true rfl) (c1  ) ?_
  show Bod _ _ _ _ [_] _ _ _
  refine Bod.ifT dc_348_67 rfl (k1_eq_T (k_eq 0 0 rfl rfl (by omega))) ?_
  refine Bod.aldnG dc_348_73 (by repeat (first | exact q0 | exact sm_get_p1 | exact sm_get_p2e | refine sm_get_p1m (by decide) (by decide) ?_ | refine sm_get_p1n (by decide) rfl ?_ | refine sm_get_p2n (by decide) (by decide) rfl ?_ | refine sm_get_p2m (by decide) (by decide) (by decide) ?_)) ?_
  refine Bod.get dc_348_74 fr_348_453 (mk_61 _) rfl ?_
  refine Bod.eqI (nI er) (by first | assumption | (simp (disch := omega) only [rIn, rIe, rA, rIA, rLA, rJA, rVI, rQI, rVA, rQA, upd_at,  rAI, rLI, rJI, nI_add, pk_sub, kc_0, kc_1, kc_2, kc_3, kc_4, kc_5, reduceIte, Nat.reduceEqDiff, Nat.add_zero, rI_hold, rI_hold, rL_hold, hcl, he95, he, her]; done) | (simp (disch := omega) only [rIn, rIe, rA, rIA, rLA, rJA, rVI, rQI, rVA, rQA, upd_at,  rAI, rLI, rJI, nI_add, pk_sub, kc_0, kc_1, kc_2, kc_3, kc_4, kc_5, reduceIte, Nat.reduceEqDiff, Nat.add_zero, rI_hold, rI_hold, rL_hold, hcl, he95, he, her]; exact congrArg nI (by omega))) ?_
  refine Bod.bip 100 (by decide) dc_348_77 ?_
  refine Bod.icF dc_348_79 rfl (k2_eq_F (k_ne er 100 rfl rfl (by omega) (by omega) (by omega))) ?_
  refine Bod.aldnG dc_348_82 (by repeat (first | exact q0 | exact sm_get_p1 | exact sm_get_p2e | refine sm_get_p1m (by decide) (by decide) ?_ | refine sm_get_p1n (by decide) rfl ?_ | refine sm_get_p2n (by decide) (by decide) rfl ?_ | refine sm_get_p2m (by decide) (by decide) (by decide) ?_)) ?_
  refine Bod.get dc_348_83 fr_348_558 (mk_61 _) rfl ?_
  refine Bod.eqI (nI tr) (by first | assumption | (simp (disch := omega) only [rIn, rIe, rA, rIA, rLA, rJA, rVI, rQI, rVA, rQA, upd_at,  rAI, rLI, rJI, nI_add, pk_sub, kc_0, kc_1, kc_2, kc_3, kc_4, kc_5, reduceIte, Nat.reduceEqDiff, Nat.add_zero, rI_hold, rI_hold, rL_hold, hcl, he95, he, her, htr]; done) | (simp (disch := omega) only [rIn, rIe, rA, rIA, rLA, rJA, rVI, rQI, rVA, rQA, upd_at,  rAI, rLI, rJI, nI_add, pk_sub, kc_0, kc_1, kc_2, kc_3, kc_4, kc_5, reduceIte, Nat.reduceEqDiff, Nat.add_zero, rI_hold, rI_hold, rL_hold, hcl, he95, he, her, htr]; exact congrArg nI (by omega))) ?_
  refine Bod.ifT dc_348_86 rfl (k1_ne_T (k_ne tr 0 rfl rfl (by omega) (by omega) (by omega))) ?_
  refine Bod.aldnG dc_348_119 (by repeat (first | exact q0 | exact sm_get_p1 | exact sm_get_p2e | refine sm_get_p1m (by decide) (by decide) ?_ | refine sm_get_p1n (by decide) rfl ?_ | refine sm_get_p2n (by decide) (by decide) rfl ?_ | refine sm_get_p2m (by decide) (by decide) (by decide) ?_)) ?_
  refine Bod.go dc_348_120 rfl ?_
  refine Bod.get dc_348_121 fr_348_558 (mk_61 _) rfl ?_
  refine Bod.eqI (nI tr) (by first | assumption | (simp (disch := omega) only [rIn, rIe, rA, rIA, rLA, rJA, rVI, rQI, rVA, rQA, upd_at,  rAI, rLI, rJI, nI_add, pk_sub, kc_0, kc_1, kc_2, kc_3, kc_4, kc_5, reduceIte, Nat.reduceEqDiff, Nat.add_zero, rI_hold, rI_hold, rL_hold, hcl, he95, he, her, htr]; done) | (simp (disch := omega) only [rIn, rIe, rA, rIA, rLA, rJA, rVI, rQI, rVA, rQA, upd_at,  rAI, rLI, rJI, nI_add, pk_sub, kc_0, kc_1, kc_2, kc_3, kc_4, kc_5, reduceIte, Nat.reduceEqDiff, Nat.add_zero, rI_hold, rI_hold, rL_hold, hcl, he95, he, her, htr]; exact congrArg nI (by omega))) ?_
  refine Bod.ic 1 (by decide) dc_348_124 ?_
  refine Bod.subN (tr - 1) (by omega) (by omega) dc_348_125 ?_
  refine Bod.put dc_348_126 fr_348_558 (mk_61 _) (Nat.le_of_ble_eq_true rfl) pf_14_63 (st_6163 _ _) (mu_I _ _ _) ?_
  refine Bod.aldnG dc_348_129 (by repeat (first | exact q0 | exact sm_get_p1 | exact sm_get_p2e | refine sm_get_p1m (by decide) (by decide) ?_ | refine sm_get_p1n (by decide) rfl ?_ | refine sm_get_p2n (by decide) (by decide) rfl ?_ | refine sm_get_p2m (by decide) (by decide) (by decide) ?_)) ?_
  refine Bod.aldnG dc_348_130 (by repeat (first | exact q0 | exact sm_get_p1 | exact sm_get_p2e | refine sm_get_p1m (by decide) (by decide) ?_ | refine sm_get_p1n (by decide) rfl ?_ | refine sm_get_p2n (by decide) (by decide) rfl ?_ | refine sm_get_p2m (by decide) (by decide) (by decide) ?_)) ?_
  refine Bod.get dc_348_131 fr_348_584 (mk_61 _) rfl ?_
  refine Bod.aldnG dc_348_134 (by repeat (first | exact q0 | exact sm_get_p1 | exact sm_get_p2e | refine sm_get_p1m (by decide) (by decide) ?_ | refine sm_get_p1n (by decide) rfl ?_ | refine sm_get_p2n (by decide) (by decide) rfl ?_ | refine sm_get_p2m (by decide) (by decide) (by decide) ?_)) ?_
  refine Bod.get dc_348_135 fr_348_558 (mk_61 _) rfl ?_
  refine Bod.eqI (nI (tr - 1)) (by first | assumption | (simp (disch := omega) only [rIn, rIe, rA, rIA, rLA, rJA, rVI, rQI, rVA, rQA, upd_at,  rAI, rLI, rJI, nI_add, pk_sub, kc_0, kc_1, kc_2, kc_3, kc_4, kc_5, reduceIte, Nat.reduceEqDiff, Nat.add_zero, rI_hold, rI_hold, rL_hold, hcl, he95, he, her, htr]; done) | (simp (disch := omega) only [rIn, rIe, rA, rIA, rLA, rJA, rVI, rQI, rVA, rQA, upd_at,  rAI, rLI, rJI, nI_add, pk_sub, kc_0, kc_1, kc_2, kc_3, kc_4, kc_5, reduceIte, Nat.reduceEqDiff, Nat.add_zero, rI_hold, rI_hold, rL_hold, hcl, he95, he, her, htr]; exact congrArg nI (by omega))) ?_
  refine Bod.ialdN (tr - 1) rfl (by omega) (by omega) dc_348_138 (mk_101 _) ?_
  refine Bod.eqI (nI e101) (by first | assumption | (simp (disch := omega) only [rIn, rIe, rA, rIA, rLA, rJA, rVI, rQI, rVA, rQA, upd_at,  rAI, rLI, rJI, nI_add, pk_sub, kc_0, kc_1, kc_2, kc_3, kc_4, kc_5, reduceIte, Nat.reduceEqDiff, Nat.add_zero, rI_hold, rI_hold, rL_hold, hcl, he95, he, her, htr, he101]; done) | (simp (disch := omega) only [rIn, rIe, rA, rIA, rLA, rJA, rVI, rQI, rVA, rQA, upd_at,  rAI, rLI, rJI, nI_add, pk_sub, kc_0, kc_1, kc_2, kc_3, kc_4, kc_5, reduceIte, Nat.reduceEqDiff, Nat.add_zero, rI_hold, rI_hold, rL_hold, hcl, he95, he, her, htr, he101]; exact congrArg nI (by omega))) ?_
  refine Bod.ic 1 (by decide) dc_348_139 ?_
  refine Bod.addN (e101 + 1) (by omega) dc_348_140 ?_
  refine Bod.put dc_348_141 fr_348_502 (mk_61 _) (Nat.le_of_ble_eq_true rfl) pf_14_59 (st_6159 _ _) (mu_I _ _ _) ?_
  refine Bod.aldnG dc_348_144 (by repeat (first | exact q0 | exact sm_get_p1 | exact sm_get_p2e | refine sm_get_p1m (by decide) (by decide) ?_ | refine sm_get_p1n (by decide) rfl ?_ | refine sm_get_p2n (by decide) (by decide) rfl ?_ | refine sm_get_p2m (by decide) (by decide) (by decide) ?_)) ?_
  refine Bod.aldnG dc_348_145 (by repeat (first | exact q0 | exact sm_get_p1 | exact sm_get_p2e | refine sm_get_p1m (by decide) (by decide) ?_ | refine sm_get_p1n (by decide) rfl ?_ | refine sm_get_p2n (by decide) (by decide) rfl ?_ | refine sm_get_p2m (by decide) (by decide) (by decide) ?_)) ?_
  refine Bod.get dc_348_146 fr_348_587 (mk_61 _) rfl ?_
  refine Bod.aldnG dc_348_149 (by repeat (first | exact q0 | exact sm_get_p1 | exact sm_get_p2e | refine sm_get_p1m (by decide) (by decide) ?_ | refine sm_get_p1n (by decide) rfl ?_ | refine sm_get_p2n (by decide) (by decide) rfl ?_ | refine sm_get_p2m (by decide) (by decide) (by decide) ?_)) ?_
  refine Bod.get dc_348_150 fr_348_558 (mk_61 _) rfl ?_
  refine Bod.eqI (nI (tr - 1)) (by first | assumption | (simp (disch := omega) only [rIn, rIe, rA, rIA, rLA, rJA, rVI, rQI, rVA, rQA, upd_at,  rAI, rLI, rJI, nI_add, pk_sub, kc_0, kc_1, kc_2, kc_3, kc_4, kc_5, reduceIte, Nat.reduceEqDiff, Nat.add_zero, rI_hold, rI_hold, rL_hold, hcl, he95, he, her, htr, he101]; done) | (simp (disch := omega) only [rIn, rIe, rA, rIA, rLA, rJA, rVI, rQI, rVA, rQA, upd_at,  rAI, rLI, rJI, nI_add, pk_sub, kc_0, kc_1, kc_2, kc_3, kc_4, kc_5, reduceIte, Nat.reduceEqDiff, Nat.add_zero, rI_hold, rI_hold, rL_hold, hcl, he95, he, her, htr, he101]; exact congrArg nI (by omega))) ?_
  refine Bod.ialdN (tr - 1) rfl (by omega) (by omega) dc_348_153 (mk_103 _) ?_
  refine Bod.eqI (nI e103) (by first | assumption | (simp (disch := omega) only [rIn, rIe, rA, rIA, rLA, rJA, rVI, rQI, rVA, rQA, upd_at,  rAI, rLI, rJI, nI_add, pk_sub, kc_0, kc_1, kc_2, kc_3, kc_4, kc_5, reduceIte, Nat.reduceEqDiff, Nat.add_zero, rI_hold, rI_hold, rL_hold, hcl, he95, he, her, htr, he101, he103]; done) | (simp (disch := omega) only [rIn, rIe, rA, rIA, rLA, rJA, rVI, rQI, rVA, rQA, upd_at,  rAI, rLI, rJI, nI_add, pk_sub, kc_0, kc_1, kc_2, kc_3, kc_4, kc_5, reduceIte, Nat.reduceEqDiff, Nat.add_zero, rI_hold, rI_hold, rL_hold, hcl, he95, he, her, htr, he101, he103]; exact congrArg nI (by omega))) ?_
  refine Bod.put dc_348_154 fr_348_493 (mk_61 _) (Nat.le_of_ble_eq_true rfl) pf_14_51 (st_6151 _ _) (mu_I _ _ _) ?_
  refine Bod.aldnG dc_348_157 (by repeat (first | exact q0 | exact sm_get_p1 | exact sm_get_p2e | refine sm_get_p1m (by decide) (by decide) ?_ | refine sm_get_p1n (by decide) rfl ?_ | refine sm_get_p2n (by decide) (by decide) rfl ?_ | refine sm_get_p2m (by decide) (by decide) (by decide) ?_)) ?_
  refine Bod.get dc_348_158 fr_348_572 (mk_61 _) rfl ?_
  refine Bod.aldnG dc_348_161 (by repeat (first | exact q0 | exact sm_get_p1 | exact sm_get_p2e | refine sm_get_p1m (by decide) (by decide) ?_ | refine sm_get_p1n (by decide) rfl ?_ | refine sm_get_p2n (by decide) (by decide) rfl ?_ | refine sm_get_p2m (by decide) (by decide) (by decide) ?_)) ?_
  refine Bod.get dc_348_162 fr_348_502 (mk_61 _) rfl ?_
  refine Bod.eqI (nI (e101 + 1)) (by first | assumption | (simp (disch := omega) only [rIn, rIe, rA, rIA, rLA, rJA, rVI, rQI, rVA, rQA, upd_at,  rAI, rLI, rJI, nI_add, pk_sub, kc_0, kc_1, kc_2, kc_3, kc_4, kc_5, reduceIte, Nat.reduceEqDiff, Nat.add_zero, rI_hold, rI_hold, rL_hold, hcl, he95, he, her, htr, he101, he103]; done) | (simp (disch := omega) only [rIn, rIe, rA, rIA, rLA, rJA, rVI, rQI, rVA, rQA, upd_at,  rAI, rLI, rJI, nI_add, pk_sub, kc_0, kc_1, kc_2, kc_3, kc_4, kc_5, reduceIte, Nat.reduceEqDiff, Nat.add_zero, rI_hold, rI_hold, rL_hold, hcl, he95, he, her, htr, he101, he103]; exact congrArg nI (by omega))) ?_
  refine Bod.ic 1 (by decide) dc_348_165 ?_
  refine Bod.subN e101 (by omega) (by omega) dc_348_166 ?_
  refine Bod.aldnG dc_348_167 (by repeat (first | exact q0 | exact sm_get_p1 | exact sm_get_p2e | refine sm_get_p1m (by decide) (by decide) ?_ | refine sm_get_p1n (by decide) rfl ?_ | refine sm_get_p2n (by decide) (by decide) rfl ?_ | refine sm_get_p2m (by decide) (by decide) (by decide) ?_)) ?_
  refine Bod.get dc_348_168 fr_348_590 (mk_61 _) rfl ?_
  refine Bod.aldnG dc_348_171 (by repeat (first | exact q0 | exact sm_get_p1 | exact sm_get_p2e | refine sm_get_p1m (by decide) (by decide) ?_ | refine sm_get_p1n (by decide) rfl ?_ | refine sm_get_p2n (by decide) (by decide) rfl ?_ | refine sm_get_p2m (by decide) (by decide) (by decide) ?_)) ?_
  refine Bod.get dc_348_172 fr_348_558 (mk_61 _) rfl ?_
  refine Bod.eqI (nI (tr - 1)) (by first | assumption | (simp (disch := omega) only [rIn, rIe, rA, rIA, rLA, rJA, rVI, rQI, rVA, rQA, upd_at,  rAI, rLI, rJI, nI_add, pk_sub, kc_0, kc_1, kc_2, kc_3, kc_4, kc_5, reduceIte, Nat.reduceEqDiff, Nat.add_zero, rI_hold, rI_hold, rL_hold, hcl, he95, he, her, htr, he101, he103]; done) | (simp (disch := omega) only [rIn, rIe, rA, rIA, rLA, rJA, rVI, rQI, rVA, rQA, upd_at,  rAI, rLI, rJI, nI_add, pk_sub, kc_0, kc_1, kc_2, kc_3, kc_4, kc_5, reduceIte, Nat.reduceEqDiff, Nat.add_zero, rI_hold, rI_hold, rL_hold, hcl, he95, he, her, htr, he101, he103]; exact congrArg nI (by omega))) ?_
  refine Bod.ialdN (tr - 1) rfl (by omega) (by omega) dc_348_175 (mk_102 _) ?_
  refine Bod.eqI (nI e102) (by first | assumption | (simp (disch := omega) only [rIn, rIe, rA, rIA, rLA, rJA, rVI, rQI, rVA, rQA, upd_at,  rAI, rLI, rJI, nI_add, pk_sub, kc_0, kc_1, kc_2, kc_3, kc_4, kc_5, reduceIte, Nat.reduceEqDiff, Nat.add_zero, rI_hold, rI_hold, rL_hold, hcl, he95, he, her, htr, he101, he103, he102]; done) | (simp (disch := omega) only [rIn, rIe, rA, rIA, rLA, rJA, rVI, rQI, rVA, rQA, upd_at,  rAI, rLI, rJI, nI_add, pk_sub, kc_0, kc_1, kc_2, kc_3, kc_4, kc_5, reduceIte, Nat.reduceEqDiff, Nat.add_zero, rI_hold, rI_hold, rL_hold, hcl, he95, he, her, htr, he101, he103, he102]; exact congrArg nI (by omega))) ?_
  refine Bod.iastN e101 rfl (by omega) (by omega) dc_348_176 (mk_95 _) (sa_95 _ _ _) (mu_A _ _ _ _) ?_
  refine Bod.aldnG dc_348_177 (by repeat (first | exact q0 | exact sm_get_p1 | exact sm_get_p2e | refine sm_get_p1m (by decide) (by decide) ?_ | refine sm_get_p1n (by decide) rfl ?_ | refine sm_get_p2n (by decide) (by decide) rfl ?_ | refine sm_get_p2m (by decide) (by decide) (by decide) ?_)) ?_
  refine Bod.aldnG dc_348_178 (by repeat (first | exact q0 | exact sm_get_p1 | exact sm_get_p2e | refine sm_get_p1m (by decide) (by decide) ?_ | refine sm_get_p1n (by decide) rfl ?_ | refine sm_get_p2n (by decide) (by decide) rfl ?_ | refine sm_get_p2m (by decide) (by decide) (by decide) ?_)) ?_
  refine Bod.get dc_348_179 fr_348_453 (mk_61 _) rfl ?_
  refine Bod.eqI (nI er) (by first | assumption | (simp (disch := omega) only [rIn, rIe, rA, rIA, rLA, rJA, rVI, rQI, rVA, rQA, upd_at,  rAI, rLI, rJI, nI_add, pk_sub, kc_0, kc_1, kc_2, kc_3, kc_4, kc_5, reduceIte, Nat.reduceEqDiff, Nat.add_zero, rI_hold, rI_hold, rL_hold, hcl, he95, he, her, htr, he101, he103, he102]; done) | (simp (disch := omega) only [rIn, rIe, rA, rIA, rLA, rJA, rVI, rQI, rVA, rQA, upd_at,  rAI, rLI, rJI, nI_add, pk_sub, kc_0, kc_1, kc_2, kc_3, kc_4, kc_5, reduceIte, Nat.reduceEqDiff, Nat.add_zero, rI_hold, rI_hold, rL_hold, hcl, he95, he, her, htr, he101, he103, he102]; exact congrArg nI (by omega))) ?_
  refine Bod.put dc_348_182 fr_348_593 (mk_61 _) (Nat.le_of_ble_eq_true rfl) pf_14_67 (st_6167 _ _) (mu_I _ _ _) ?_
  refine Bod.go dc_348_185 rfl ?_
  exact hB _ (by repeat (first | exact q0 | exact sm_get_p1 | exact sm_get_p2e | refine sm_get_p1m (by decide) (by decide) ?_ | refine sm_get_p1n (by decide) rfl ?_ | refine sm_get_p2n (by decide) (by decide) rfl ?_ | refine sm_get_p2m (by decide) (by decide) (by decide) ?_))
theorem rWkL_5 {d : Nat} {S : cS} {lv : sm_L} {cl : Nat} {m : Nat} {zm : Nat} {r : Nat} {N : Nat} {e95 : Nat} {e : Nat} {S1 : cS} {er : Nat} {tr : Nat} {cl1 : Nat} {e98 : Nat} (q0 : sm_get lv 0 = some (.ref 61)) (hcl : sI S 6159 = nI cl) (mcl : cl < 32) (b1 : 1 ≤ cl) (am : 108 ≤ m) (hq2 : sQ S 94 (cl - 1) = some m) (hz1 : (sS S)[m - 108]? = some (12, zm)) (hv1 : sV S (100 * m + 0) = .ref r) (hg1 : isK S r 0 N) (mN : N < 2 ^ 20) (he95 : sA S 95 (cl - 1) = nI e95) (me95 : e95 < 2 ^ 20) (b2 : e95 < N) (he : sA S r e95 = nI e) (me : e < 2 ^ 20) (b3 : e ≠ 41) (c1 : Ans (d + 8) 350 [.ref 61] S (some (.int (nI 0))) S1) (her : sI S1 6164 = nI er) (mer : er < 2 ^ 20) (b4 : er ≠ 100) (htr : sI S1 6163 = nI tr) (mtr : tr < 401) (b5 : tr = 0) (hcl1 : sI S1 6159 = nI cl1) (mcl1 : cl1 < 32) (b6 : 1 ≤ cl1) (he98 : sA S1 98 (cl1 - 1) = nI e98) (me98 : e98 < 2 ^ 20) : Bod (d + 8) 348 32 lv [] S (some (.int (nI er))) (wI 6151 (nI 0) (wI 6159 (nI 0) (wI 6168 (nI e98) S1))) := by
  refine Bod.aldnG dc_348_32 (by repeat (first | exact q0 | exact sm_get_p1 | exact sm_get_p2e | refine sm_get_p1m (by decide) (by decide) ?_ | refine sm_get_p1n (by decide) rfl ?_ | refine sm_get_p2n (by decide) (by decide) rfl ?_ | refine sm_get_p2m (by decide) (by decide) (by decide) ?_)) ?_
  refine Bod.get dc_348_33 fr_348_568 (mk_61 _) rfl ?_
  refine Bod.aldnG dc_348_36 (by repeat (first | exact q0 | exact sm_get_p1 | exact sm_get_p2e | refine sm_get_p1m (by decide) (by decide) ?_ | refine sm_get_p1n (by decide) rfl ?_ | refine sm_get_p2n (by decide) (by decide) rfl ?_ | refine sm_get_p2m (by decide) (by decide) (by decide) ?_)) ?_
  refine Bod.get dc_348_37 fr_348_502 (mk_61 _) rfl ?_
  refine Bod.eqI (nI cl) (by first | assumption | rfl | exact congrArg nI (by omega) | (simp (disch := omega) only [rIn, rIe, rA, rIA, rLA, rJA, rVI, rQI, rVA, rQA, upd_at,  rAI, rLI, rJI, nI_add, pk_sub, kc_0, kc_1, kc_2, kc_3, kc_4, kc_5, reduceIte, Nat.reduceEqDiff, Nat.add_zero, rI_hold, rI_hold, rL_hold, hcl]; done)) ?_
  refine Bod.ic 1 (by decide) dc_348_40 ?_
  refine Bod.subN (cl - 1) (by omega) (by omega) dc_348_41 ?_
  refine Bod.aaldR (N := 31) (b := m) (cl - 1) rfl (by omega) (by omega) (by first | exact hq2 | (simp only [rIQ, rJQ, rAQ, rLQ, rVQ, rQ_holdE]; exact hq2)) dc_348_42 (mk_94 _) ht_6 ?_
  refine Bod.get dc_348_43 fr_348_222 (mk_code am (by first | exact hz1 | (simp only [rIS, rJS, rAS, rLS, rVS, rQS, rS_hold]; exact hz1))) rfl ?_
  refine Bod.eqV (.ref r) (by first | exact hv1 | (simp only [rIV, rJV, rAV, rLV, rQV, rV, reduceIte, Nat.reduceEqDiff]; exact hv1)) ?_
  refine Bod.aldnG dc_348_46 (by repeat (first | exact q0 | exact sm_get_p1 | exact sm_get_p2e | refine sm_get_p1m (by decide) (by decide) ?_ | refine sm_get_p1n (by decide) rfl ?_ | refine sm_get_p2n (by decide) (by decide) rfl ?_ | refine sm_get_p2m (by decide) (by decide) (by decide) ?_)) ?_
  refine Bod.get dc_348_47 fr_348_572 (mk_61 _) rfl ?_
  refine Bod.aldnG dc_348_50 (by repeat (first | exact q0 | exact sm_get_p1 | exact sm_get_p2e | refine sm_get_p1m (by decide) (by decide) ?_ | refine sm_get_p1n (by decide) rfl ?_ | refine sm_get_p2n (by decide) (by decide) rfl ?_ | refine sm_get_p2m (by decide) (by decide) (by decide) ?_)) ?_
  refine Bod.get dc_348_51 fr_348_502 (mk_61 _) rfl ?_
  refine Bod.eqI (nI cl) (by first | assumption | rfl | exact congrArg nI (by omega) | (simp (disch := omega) only [rIn, rIe, rA, rIA, rLA, rJA, rVI, rQI, rVA, rQA, upd_at,  rAI, rLI, rJI, nI_add, pk_sub, kc_0, kc_1, kc_2, kc_3, kc_4, kc_5, reduceIte, Nat.reduceEqDiff, Nat.add_zero, rI_hold, rI_hold, rL_hold, hcl]; done)) ?_
  refine Bod.ic 1 (by decide) dc_348_54 ?_
  refine Bod.subN (cl - 1) (by omega) (by omega) dc_348_55 ?_
  refine Bod.ialdN (cl - 1) rfl (by omega) (by omega) dc_348_56 (mk_95 _) ?_
  refine Bod.eqI (nI e95) (by first | assumption | rfl | exact congrArg nI (by omega) | (simp (disch := omega) only [rIn, rIe, rA, rIA, rLA, rJA, rVI, rQI, rVA, rQA, upd_at,  rAI, rLI, rJI, nI_add, pk_sub, kc_0, kc_1, kc_2, kc_3, kc_4, kc_5, reduceIte, Nat.reduceEqDiff, Nat.add_zero, rI_hold, rI_hold, rL_hold, hcl, he95]; done)) ?_
  refine Bod.ialdN (N := N) e95 rfl (by omega) (by omega) dc_348_57 (mk_isI (by first | exact hg1 | exact isK_S (by simp only [rIS, rJS, rAS, rLS, rVS, rQS, rS_hold]) hg1)) ?_
  refine Bod.eqI (nI e) (by first | assumption | rfl | exact congrArg nI (by omega) | (simp (disch := omega) only [rIn, rIe, rA, rIA, rLA, rJA, rVI, rQI, rVA, rQA, upd_at,  rAI, rLI, rJI, nI_add, pk_sub, kc_0, kc_1, kc_2, kc_3, kc_4, kc_5, reduceIte, Nat.reduceEqDiff, Nat.add_zero, rI_hold, rI_hold, rL_hold, hcl, he95, he]; done)) ?_
  refine Bod.bip 41 (by decide) dc_348_58 ?_
  refine Bod.icF dc_348_60 rfl (k2_eq_F (k_ne e 41 rfl rfl (by omega) (by omega) (by omega))) ?_
  refine Bod.aldnG dc_348_63 (by repeat (first | exact q0 | exact sm_get_p1 | exact sm_get_p2e | refine sm_get_p1m (by decide) (by decide) ?_ | refine sm_get_p1n (by decide) rfl ?_ | refine sm_get_p2n (by decide) (by decide) rfl ?_ | refine sm_get_p2m (by decide) (by decide) (by decide) ?_)) ?_
  refine Bod.virt (r := []) dc_348_64 kr_348_575 ⟨Or.inl rfl, ow_350, cl_14⟩ (by rw [np_350]; rfl) (by rw [np_350]; rfl) (ob_of (mk_61 _)) (Nat.le_of_ble_eq_true rfl) (c1  ) ?_
  show Bod _ _ _ _ [_] _ _ _
  refine Bod.ifT dc_348_67 rfl (k1_eq_T (k_eq 0 0 rfl rfl (by omega))) ?_
  refine Bod.aldnG dc_348_73 (by repeat (first | exact q0 | exact sm_get_p1 | exact sm_get_p2e | refine sm_get_p1m (by decide) (by decide) ?_ | refine sm_get_p1n (by decide) rfl ?_ | refine sm_get_p2n (by decide) (by decide) rfl ?_ | refine sm_get_p2m (by decide) (by decide) (by decide) ?_)) ?_
  refine Bod.get dc_348_74 fr_348_453 (mk_61 _) rfl ?_
  refine Bod.eqI (nI er) (by first | assumption | (simp (disch := omega) only [rIn, rIe, rA, rIA, rLA, rJA, rVI, rQI, rVA, rQA, upd_at,  rAI, rLI, rJI, nI_add, pk_sub, kc_0, kc_1, kc_2, kc_3, kc_4, kc_5, reduceIte, Nat.reduceEqDiff, Nat.add_zero, rI_hold, rI_hold, rL_hold, hcl, he95, he, her]; done) | (simp (disch := omega) only [rIn, rIe, rA, rIA, rLA, rJA, rVI, rQI, rVA, rQA, upd_at,  rAI, rLI, rJI, nI_add, pk_sub, kc_0, kc_1, kc_2, kc_3, kc_4, kc_5, reduceIte, Nat.reduceEqDiff, Nat.add_zero, rI_hold, rI_hold, rL_hold, hcl, he95, he, her]; exact congrArg nI (by omega))) ?_
  refine Bod.bip 100 (by decide) dc_348_77 ?_
  refine Bod.icF dc_348_79 rfl (k2_eq_F (k_ne er 100 rfl rfl (by omega) (by omega) (by omega))) ?_
  refine Bod.aldnG dc_348_82 (by repeat (first | exact q0 | exact sm_get_p1 | exact sm_get_p2e | refine sm_get_p1m (by decide) (by decide) ?_ | refine sm_get_p1n (by decide) rfl ?_ | refine sm_get_p2n (by decide) (by decide) rfl ?_ | refine sm_get_p2m (by decide) (by decide) (by decide) ?_)) ?_
  refine Bod.get dc_348_83 fr_348_558 (mk_61 _) rfl ?_
  refine Bod.eqI (nI tr) (by first | assumption | (simp (disch := omega) only [rIn, rIe, rA, rIA, rLA, rJA, rVI, rQI, rVA, rQA, upd_at,  rAI, rLI, rJI, nI_add, pk_sub, kc_0, kc_1, kc_2, kc_3, kc_4, kc_5, reduceIte, Nat.reduceEqDiff, Nat.add_zero, rI_hold, rI_hold, rL_hold, hcl, he95, he, her, htr]; done) | (simp (disch := omega) only [rIn, rIe, rA, rIA, rLA, rJA, rVI, rQI, rVA, rQA, upd_at,  rAI, rLI, rJI, nI_add, pk_sub, kc_0, kc_1, kc_2, kc_3, kc_4, kc_5, reduceIte, Nat.reduceEqDiff, Nat.add_zero, rI_hold, rI_hold, rL_hold, hcl, he95, he, her, htr]; exact congrArg nI (by omega))) ?_
  refine Bod.ifF dc_348_86 rfl (k1_ne_F (k_eq tr 0 rfl rfl (by omega))) ?_
  refine Bod.aldnG dc_348_89 (by repeat (first | exact q0 | exact sm_get_p1 | exact sm_get_p2e | refine sm_get_p1m (by decide) (by decide) ?_ | refine sm_get_p1n (by decide) rfl ?_ | refine sm_get_p2n (by decide) (by decide) rfl ?_ | refine sm_get_p2m (by decide) (by decide) (by decide) ?_)) ?_
  refine Bod.aldnG dc_348_90 (by repeat (first | exact q0 | exact sm_get_p1 | exact sm_get_p2e | refine sm_get_p1m (by decide) (by decide) ?_ | refine sm_get_p1n (by decide) rfl ?_ | refine sm_get_p2n (by decide) (by decide) rfl ?_ | refine sm_get_p2m (by decide) (by decide) (by decide) ?_)) ?_
  refine Bod.get dc_348_91 fr_348_578 (mk_61 _) rfl ?_
  refine Bod.aldnG dc_348_94 (by repeat (first | exact q0 | exact sm_get_p1 | exact sm_get_p2e | refine sm_get_p1m (by decide) (by decide) ?_ | refine sm_get_p1n (by decide) rfl ?_ | refine sm_get_p2n (by decide) (by decide) rfl ?_ | refine sm_get_p2m (by decide) (by decide) (by decide) ?_)) ?_
  refine Bod.get dc_348_95 fr_348_502 (mk_61 _) rfl ?_
  refine Bod.eqI (nI cl1) (by first | assumption | (simp (disch := omega) only [rIn, rIe, rA, rIA, rLA, rJA, rVI, rQI, rVA, rQA, upd_at,  rAI, rLI, rJI, nI_add, pk_sub, kc_0, kc_1, kc_2, kc_3, kc_4, kc_5, reduceIte, Nat.reduceEqDiff, Nat.add_zero, rI_hold, rI_hold, rL_hold, hcl, he95, he, her, htr, hcl1]; done) | (simp (disch := omega) only [rIn, rIe, rA, rIA, rLA, rJA, rVI, rQI, rVA, rQA, upd_at,  rAI, rLI, rJI, nI_add, pk_sub, kc_0, kc_1, kc_2, kc_3, kc_4, kc_5, reduceIte, Nat.reduceEqDiff, Nat.add_zero, rI_hold, rI_hold, rL_hold, hcl, he95, he, her, htr, hcl1]; exact congrArg nI (by omega))) ?_
  refine Bod.ic 1 (by decide) dc_348_98 ?_
  refine Bod.subN (cl1 - 1) (by omega) (by omega) dc_348_99 ?_
  refine Bod.ialdN (cl1 - 1) rfl (by omega) (by omega) dc_348_100 (mk_98 _) ?_
  refine Bod.eqI (nI e98) (by first | assumption | (simp (disch := omega) only [rIn, rIe, rA, rIA, rLA, rJA, rVI, rQI, rVA, rQA, upd_at,  rAI, rLI, rJI, nI_add, pk_sub, kc_0, kc_1, kc_2, kc_3, kc_4, kc_5, reduceIte, Nat.reduceEqDiff, Nat.add_zero, rI_hold, rI_hold, rL_hold, hcl, he95, he, her, htr, hcl1, he98]; done) | (simp (disch := omega) only [rIn, rIe, rA, rIA, rLA, rJA, rVI, rQI, rVA, rQA, upd_at,  rAI, rLI, rJI, nI_add, pk_sub, kc_0, kc_1, kc_2, kc_3, kc_4, kc_5, reduceIte, Nat.reduceEqDiff, Nat.add_zero, rI_hold, rI_hold, rL_hold, hcl, he95, he, her, htr, hcl1, he98]; exact congrArg nI (by omega))) ?_
  refine Bod.put dc_348_101 fr_348_581 (mk_61 _) (Nat.le_of_ble_eq_true rfl) pf_14_68 (st_6168 _ _) (mu_I _ _ _) ?_
  refine Bod.aldnG dc_348_104 (by repeat (first | exact q0 | exact sm_get_p1 | exact sm_get_p2e | refine sm_get_p1m (by decide) (by decide) ?_ | refine sm_get_p1n (by decide) rfl ?_ | refine sm_get_p2n (by decide) (by decide) rfl ?_ | refine sm_get_p2m (by decide) (by decide) (by decide) ?_)) ?_
  refine Bod.ic 0 (by decide) dc_348_105 ?_
  refine Bod.put dc_348_106 fr_348_502 (mk_61 _) (Nat.le_of_ble_eq_true rfl) pf_14_59 (st_6159 _ _) (mu_I _ _ _) ?_
  refine Bod.aldnG dc_348_109 (by repeat (first | exact q0 | exact sm_get_p1 | exact sm_get_p2e | refine sm_get_p1m (by decide) (by decide) ?_ | refine sm_get_p1n (by decide) rfl ?_ | refine sm_get_p2n (by decide) (by decide) rfl ?_ | refine sm_get_p2m (by decide) (by decide) (by decide) ?_)) ?_
  refine Bod.ic 0 (by decide) dc_348_110 ?_
  refine Bod.put dc_348_111 fr_348_493 (mk_61 _) (Nat.le_of_ble_eq_true rfl) pf_14_51 (st_6151 _ _) (mu_I _ _ _) ?_
  refine Bod.aldnG dc_348_114 (by repeat (first | exact q0 | exact sm_get_p1 | exact sm_get_p2e | refine sm_get_p1m (by decide) (by decide) ?_ | refine sm_get_p1n (by decide) rfl ?_ | refine sm_get_p2n (by decide) (by decide) rfl ?_ | refine sm_get_p2m (by decide) (by decide) (by decide) ?_)) ?_
  refine Bod.get dc_348_115 fr_348_453 (mk_61 _) rfl ?_
  refine Bod.eqI (nI er) (by first | assumption | (simp (disch := omega) only [rIn, rIe, rA, rIA, rLA, rJA, rVI, rQI, rVA, rQA, upd_at,  rAI, rLI, rJI, nI_add, pk_sub, kc_0, kc_1, kc_2, kc_3, kc_4, kc_5, reduceIte, Nat.reduceEqDiff, Nat.add_zero, rI_hold, rI_hold, rL_hold, hcl, he95, he, her, htr, hcl1, he98]; done) | (simp (disch := omega) only [rIn, rIe, rA, rIA, rLA, rJA, rVI, rQI, rVA, rQA, upd_at,  rAI, rLI, rJI, nI_add, pk_sub, kc_0, kc_1, kc_2, kc_3, kc_4, kc_5, reduceIte, Nat.reduceEqDiff, Nat.add_zero, rI_hold, rI_hold, rL_hold, hcl, he95, he, her, htr, hcl1, he98]; exact congrArg nI (by omega))) ?_
  exact Bod.retI dc_348_118 rt_348
theorem rAl_1 {d : Nat} {S Sf : cS} {v : Option Value} {S1 : cS} (c1 : Ans (d + 8) 366 [.ref 61] S none S1) (hB : ∀ lv1 : sm_L, sm_get lv1 0 = some (.ref 61) → sm_get lv1 1 = some (.int (nI 0)) → sm_get lv1 2 = some (.ref 87) → sm_get lv1 3 = some (.int (nI 1500)) → sm_get lv1 4 = some (.int (nI 0)) → Bod (d + 8) 392 17 lv1 [] (S1) v Sf) : Bod (d + 8) 392 0 [(0, .ref 61)] [] S v Sf := by
  refine Bod.go dc_392_0 rfl ?_
  refine Bod.virt (r := []) dc_392_1 kr_392_527 ⟨Or.inl rfl, ow_366, cl_14⟩ (by rw [np_366]; rfl) (by rw [np_366]; rfl) (ob_of (mk_61 _)) (Nat.le_of_ble_eq_true rfl) (c1  ) ?_
  show Bod _ _ _ _ [] _ _ _
  refine Bod.ic 0 (by decide) dc_392_4 ?_
  refine Bod.istn dc_392_5 (by rw [ml_392]; exact Nat.le_of_ble_eq_true rfl) ?_
  refine Bod.go dc_392_6 rfl ?_
  refine Bod.get dc_392_7 fr_392_481 (mk_61 _) rfl ?_
  refine Bod.astn dc_392_10 (by rw [ml_392]; exact Nat.le_of_ble_eq_true rfl) ?_
  refine Bod.go dc_392_11 rfl ?_
  refine Bod.alenN dc_392_12 (mk_87 _) (by decide +kernel) ?_
  refine Bod.istn dc_392_13 (by rw [ml_392]; exact Nat.le_of_ble_eq_true rfl) ?_
  refine Bod.ic 0 (by decide) dc_392_14 ?_
  refine Bod.ist dc_392_15 (by rw [ml_392]; exact Nat.le_of_ble_eq_true rfl) ?_
  exact hB _ (by first | rfl | exact (by repeat (first | exact rfl | exact sm_get_p1 | exact sm_get_p2e | refine sm_get_p1m (by decide) (by decide) ?_ | refine sm_get_p1n (by decide) rfl ?_ | refine sm_get_p2n (by decide) (by decide) rfl ?_ | refine sm_get_p2m (by decide) (by decide) (by decide) ?_))) (by first | rfl | exact (by repeat (first | exact rfl | exact sm_get_p1 | exact sm_get_p2e | refine sm_get_p1m (by decide) (by decide) ?_ | refine sm_get_p1n (by decide) rfl ?_ | refine sm_get_p2n (by decide) (by decide) rfl ?_ | refine sm_get_p2m (by decide) (by decide) (by decide) ?_))) (by first | rfl | exact (by repeat (first | exact rfl | exact sm_get_p1 | exact sm_get_p2e | refine sm_get_p1m (by decide) (by decide) ?_ | refine sm_get_p1n (by decide) rfl ?_ | refine sm_get_p2n (by decide) (by decide) rfl ?_ | refine sm_get_p2m (by decide) (by decide) (by decide) ?_))) (by first | rfl | exact (by repeat (first | exact rfl | exact sm_get_p1 | exact sm_get_p2e | refine sm_get_p1m (by decide) (by decide) ?_ | refine sm_get_p1n (by decide) rfl ?_ | refine sm_get_p2n (by decide) (by decide) rfl ?_ | refine sm_get_p2m (by decide) (by decide) (by decide) ?_))) (by first | rfl | exact (by repeat (first | exact rfl | exact sm_get_p1 | exact sm_get_p2e | refine sm_get_p1m (by decide) (by decide) ?_ | refine sm_get_p1n (by decide) rfl ?_ | refine sm_get_p2n (by decide) (by decide) rfl ?_ | refine sm_get_p2m (by decide) (by decide) (by decide) ?_)))
theorem rAlL_1 {d : Nat} {S : cS} {lv : sm_L} {nn : Nat} {ni : Nat} (q0 : sm_get lv 0 = some (.ref 61)) (q1 : sm_get lv 1 = some (.int (nI nn))) (q2 : sm_get lv 2 = some (.ref 87)) (q3 : sm_get lv 3 = some (.int (nI 1500))) (q4 : sm_get lv 4 = some (.int (nI ni))) (mnn : nn < 2 ^ 20) (mni : ni < 2 ^ 20) (b1 : 1500 ≤ ni) : Bod (d + 8) 392 17 lv [] S (some (.int (nI nn))) (S) := by
  refine Bod.ildG dc_392_17 (by repeat (first | exact q4 | exact sm_get_p1 | exact sm_get_p2e | refine sm_get_p1m (by decide) (by decide) ?_ | refine sm_get_p1n (by decide) rfl ?_ | refine sm_get_p2n (by decide) (by decide) rfl ?_ | refine sm_get_p2m (by decide) (by decide) (by decide) ?_)) ?_
  refine Bod.ildnG dc_392_19 (by repeat (first | exact q3 | exact sm_get_p1 | exact sm_get_p2e | refine sm_get_p1m (by decide) (by decide) ?_ | refine sm_get_p1n (by decide) rfl ?_ | refine sm_get_p2n (by decide) (by decide) rfl ?_ | refine sm_get_p2m (by decide) (by decide) (by decide) ?_)) ?_
  refine Bod.icT dc_392_20 rfl (k2_ge_T ni 1500 rfl rfl (by omega) (by omega)) ?_
  refine Bod.ildnG dc_392_43 (by repeat (first | exact q1 | exact sm_get_p1 | exact sm_get_p2e | refine sm_get_p1m (by decide) (by decide) ?_ | refine sm_get_p1n (by decide) rfl ?_ | refine sm_get_p2n (by decide) (by decide) rfl ?_ | refine sm_get_p2m (by decide) (by decide) (by decide) ?_)) ?_
  exact Bod.retI dc_392_44 rt_392
theorem rAlL_2 {d : Nat} {S Sf : cS} {v : Option Value} {lv : sm_L} {nn : Nat} {ni : Nat} {e87 : Nat} (q0 : sm_get lv 0 = some (.ref 61)) (q1 : sm_get lv 1 = some (.int (nI nn))) (q2 : sm_get lv 2 = some (.ref 87)) (q3 : sm_get lv 3 = some (.int (nI 1500))) (q4 : sm_get lv 4 = some (.int (nI ni))) (mnn : nn < 2 ^ 20) (mni : ni < 2 ^ 20) (b1 : ni < 1500) (he87 : sA S 87 ni = nI e87) (me87 : e87 < 2 ^ 20) (b2 : e87 = 0) (hB : ∀ lv1 : sm_L, sm_get lv1 0 = some (.ref 61) → sm_get lv1 1 = some (.int (nI nn)) → sm_get lv1 2 = some (.ref 87) → sm_get lv1 3 = some (.int (nI 1500)) → sm_get lv1 4 = some (.int (nI (ni + 1))) → Bod (d + 8) 392 17 lv1 [] (S) v Sf) : Bod (d + 8) 392 17 lv [] S v Sf := by
  refine Bod.ildG dc_392_17 (by repeat (first | exact q4 | exact sm_get_p1 | exact sm_get_p2e | refine sm_get_p1m (by decide) (by decide) ?_ | refine sm_get_p1n (by decide) rfl ?_ | refine sm_get_p2n (by decide) (by decide) rfl ?_ | refine sm_get_p2m (by decide) (by decide) (by decide) ?_)) ?_
  refine Bod.ildnG dc_392_19 (by repeat (first | exact q3 | exact sm_get_p1 | exact sm_get_p2e | refine sm_get_p1m (by decide) (by decide) ?_ | refine sm_get_p1n (by decide) rfl ?_ | refine sm_get_p2n (by decide) (by decide) rfl ?_ | refine sm_get_p2m (by decide) (by decide) (by decide) ?_)) ?_
  refine Bod.icF dc_392_20 rfl (k2_ge_F ni 1500 rfl rfl (by omega) (by omega)) ?_
  refine Bod.aldnG dc_392_23 (by repeat (first | exact q2 | exact sm_get_p1 | exact sm_get_p2e | refine sm_get_p1m (by decide) (by decide) ?_ | refine sm_get_p1n (by decide) rfl ?_ | refine sm_get_p2n (by decide) (by decide) rfl ?_ | refine sm_get_p2m (by decide) (by decide) (by decide) ?_)) ?_
  refine Bod.ildG dc_392_24 (by repeat (first | exact q4 | exact sm_get_p1 | exact sm_get_p2e | refine sm_get_p1m (by decide) (by decide) ?_ | refine sm_get_p1n (by decide) rfl ?_ | refine sm_get_p2n (by decide) (by decide) rfl ?_ | refine sm_get_p2m (by decide) (by decide) (by decide) ?_)) ?_
  refine Bod.baldN ni rfl (by omega) (by omega) dc_392_26 (mk_87 _) (Or.inr rfl) ?_
  refine Bod.eqI (nI e87) (by first | assumption | rfl | exact congrArg nI (by omega) | (simp (disch := omega) only [rIn, rIe, rA, rIA, rLA, rJA, rVI, rQI, rVA, rQA, upd_at,  rAI, rLI, rJI, nI_add, pk_sub, kc_0, kc_1, kc_2, kc_3, kc_4, kc_5, reduceIte, Nat.reduceEqDiff, Nat.add_zero, rI_hold, rI_hold, rL_hold, he87]; done)) ?_
  refine Bod.ist dc_392_27 (by rw [ml_392]; exact Nat.le_of_ble_eq_true rfl) ?_
  refine Bod.ildG dc_392_29 (by repeat (first | exact q0 | exact sm_get_p1 | exact sm_get_p2e | refine sm_get_p1m (by decide) (by decide) ?_ | refine sm_get_p1n (by decide) rfl ?_ | refine sm_get_p2n (by decide) (by decide) rfl ?_ | refine sm_get_p2m (by decide) (by decide) (by decide) ?_)) ?_
  refine Bod.ifT dc_392_31 rfl (k1_eq_T (k_eq e87 0 rfl rfl (by omega))) ?_
  refine Bod.incN (ni + 1) (by rw [kc_1, nI_add]) dc_392_37 (by rw [ml_392]; exact Nat.le_of_ble_eq_true rfl) (by repeat (first | exact q4 | exact sm_get_p1 | exact sm_get_p2e | refine sm_get_p1m (by decide) (by decide) ?_ | refine sm_get_p1n (by decide) rfl ?_ | refine sm_get_p2n (by decide) (by decide) rfl ?_ | refine sm_get_p2m (by decide) (by decide) (by decide) ?_)) ?_
  refine Bod.go dc_392_40 rfl ?_
  exact hB _ (by repeat (first | exact q0 | exact sm_get_p1 | exact sm_get_p2e | refine sm_get_p1m (by decide) (by decide) ?_ | refine sm_get_p1n (by decide) rfl ?_ | refine sm_get_p2n (by decide) (by decide) rfl ?_ | refine sm_get_p2m (by decide) (by decide) (by decide) ?_)) (by repeat (first | exact q1 | exact sm_get_p1 | exact sm_get_p2e | refine sm_get_p1m (by decide) (by decide) ?_ | refine sm_get_p1n (by decide) rfl ?_ | refine sm_get_p2n (by decide) (by decide) rfl ?_ | refine sm_get_p2m (by decide) (by decide) (by decide) ?_)) (by repeat (first | exact q2 | exact sm_get_p1 | exact sm_get_p2e | refine sm_get_p1m (by decide) (by decide) ?_ | refine sm_get_p1n (by decide) rfl ?_ | refine sm_get_p2n (by decide) (by decide) rfl ?_ | refine sm_get_p2m (by decide) (by decide) (by decide) ?_)) (by repeat (first | exact q3 | exact sm_get_p1 | exact sm_get_p2e | refine sm_get_p1m (by decide) (by decide) ?_ | refine sm_get_p1n (by decide) rfl ?_ | refine sm_get_p2n (by decide) (by decide) rfl ?_ | refine sm_get_p2m (by decide) (by decide) (by decide) ?_)) (by repeat (first | exact q0 | exact sm_get_p1 | exact sm_get_p2e | refine sm_get_p1m (by decide) (by decide) ?_ | refine sm_get_p1n (by decide) rfl ?_ | refine sm_get_p2n (by decide) (by decide) rfl ?_ | refine sm_get_p2m (by decide) (by decide) (by decide) ?_))
theorem rAlL_3 {d : Nat} {S Sf : cS} {v : Option Value} {lv : sm_L} {nn : Nat} {ni : Nat} {e87 : Nat} (q0 : sm_get lv 0 = some (.ref 61)) (q1 : sm_get lv 1 = some (.int (nI nn))) (q2 : sm_get lv 2 = some (.ref 87)) (q3 : sm_get lv 3 = some (.int (nI 1500))) (q4 : sm_get lv 4 = some (.int (nI ni))) (mnn : nn < 2 ^ 20) (mni : ni < 2 ^ 20) (b1 : ni < 1500) (he87 : sA S 87 ni = nI e87) (me87 : e87 < 2 ^ 20) (b2 : e87 ≠ 0) (hB : ∀ lv1 : sm_L, sm_get lv1 0 = some (.ref 61) → sm_get lv1 1 = some (.int (nI (nn + 1))) → sm_get lv1 2 = some (.ref 87) → sm_get lv1 3 = some (.int (nI 1500)) → sm_get lv1 4 = some (.int (nI (ni + 1))) → Bod (d + 8) 392 17 lv1 [] (S) v Sf) : Bod (d + 8) 392 17 lv [] S v Sf := by
  refine Bod.ildG dc_392_17 (by repeat (first | exact q4 | exact sm_get_p1 | exact sm_get_p2e | refine sm_get_p1m (by decide) (by decide) ?_ | refine sm_get_p1n (by decide) rfl ?_ | refine sm_get_p2n (by decide) (by decide) rfl ?_ | refine sm_get_p2m (by decide) (by decide) (by decide) ?_)) ?_
  refine Bod.ildnG dc_392_19 (by repeat (first | exact q3 | exact sm_get_p1 | exact sm_get_p2e | refine sm_get_p1m (by decide) (by decide) ?_ | refine sm_get_p1n (by decide) rfl ?_ | refine sm_get_p2n (by decide) (by decide) rfl ?_ | refine sm_get_p2m (by decide) (by decide) (by decide) ?_)) ?_
  refine Bod.icF dc_392_20 rfl (k2_ge_F ni 1500 rfl rfl (by omega) (by omega)) ?_
  refine Bod.aldnG dc_392_23 (by repeat (first | exact q2 | exact sm_get_p1 | exact sm_get_p2e | refine sm_get_p1m (by decide) (by decide) ?_ | refine sm_get_p1n (by decide) rfl ?_ | refine sm_get_p2n (by decide) (by decide) rfl ?_ | refine sm_get_p2m (by decide) (by decide) (by decide) ?_)) ?_
  refine Bod.ildG dc_392_24 (by repeat (first | exact q4 | exact sm_get_p1 | exact sm_get_p2e | refine sm_get_p1m (by decide) (by decide) ?_ | refine sm_get_p1n (by decide) rfl ?_ | refine sm_get_p2n (by decide) (by decide) rfl ?_ | refine sm_get_p2m (by decide) (by decide) (by decide) ?_)) ?_
  refine Bod.baldN ni rfl (by omega) (by omega) dc_392_26 (mk_87 _) (Or.inr rfl) ?_
  refine Bod.eqI (nI e87) (by first | assumption | rfl | exact congrArg nI (by omega) | (simp (disch := omega) only [rIn, rIe, rA, rIA, rLA, rJA, rVI, rQI, rVA, rQA, upd_at,  rAI, rLI, rJI, nI_add, pk_sub, kc_0, kc_1, kc_2, kc_3, kc_4, kc_5, reduceIte, Nat.reduceEqDiff, Nat.add_zero, rI_hold, rI_hold, rL_hold, he87]; done)) ?_
  refine Bod.ist dc_392_27 (by rw [ml_392]; exact Nat.le_of_ble_eq_true rfl) ?_
  refine Bod.ildG dc_392_29 (by repeat (first | exact q0 | exact sm_get_p1 | exact sm_get_p2e | refine sm_get_p1m (by decide) (by decide) ?_ | refine sm_get_p1n (by decide) rfl ?_ | refine sm_get_p2n (by decide) (by decide) rfl ?_ | refine sm_get_p2m (by decide) (by decide) (by decide) ?_)) ?_
  refine Bod.ifF dc_392_31 rfl (k1_eq_F (k_ne e87 0 rfl rfl (by omega) (by omega) (by omega))) ?_
  refine Bod.incN (nn + 1) (by rw [kc_1, nI_add]) dc_392_34 (by rw [ml_392]; exact Nat.le_of_ble_eq_true rfl) (by repeat (first | exact q1 | exact sm_get_p1 | exact sm_get_p2e | refine sm_get_p1m (by decide) (by decide) ?_ | refine sm_get_p1n (by decide) rfl ?_ | refine sm_get_p2n (by decide) (by decide) rfl ?_ | refine sm_get_p2m (by decide) (by decide) (by decide) ?_)) ?_
  refine Bod.incN (ni + 1) (by rw [kc_1, nI_add]) dc_392_37 (by rw [ml_392]; exact Nat.le_of_ble_eq_true rfl) (by repeat (first | exact q4 | exact sm_get_p1 | exact sm_get_p2e | refine sm_get_p1m (by decide) (by decide) ?_ | refine sm_get_p1n (by decide) rfl ?_ | refine sm_get_p2n (by decide) (by decide) rfl ?_ | refine sm_get_p2m (by decide) (by decide) (by decide) ?_)) ?_
  refine Bod.go dc_392_40 rfl ?_
  exact hB _ (by repeat (first | exact q0 | exact sm_get_p1 | exact sm_get_p2e | refine sm_get_p1m (by decide) (by decide) ?_ | refine sm_get_p1n (by decide) rfl ?_ | refine sm_get_p2n (by decide) (by decide) rfl ?_ | refine sm_get_p2m (by decide) (by decide) (by decide) ?_)) (by repeat (first | exact q0 | exact sm_get_p1 | exact sm_get_p2e | refine sm_get_p1m (by decide) (by decide) ?_ | refine sm_get_p1n (by decide) rfl ?_ | refine sm_get_p2n (by decide) (by decide) rfl ?_ | refine sm_get_p2m (by decide) (by decide) (by decide) ?_)) (by repeat (first | exact q2 | exact sm_get_p1 | exact sm_get_p2e | refine sm_get_p1m (by decide) (by decide) ?_ | refine sm_get_p1n (by decide) rfl ?_ | refine sm_get_p2n (by decide) (by decide) rfl ?_ | refine sm_get_p2m (by decide) (by decide) (by decide) ?_)) (by repeat (first | exact q3 | exact sm_get_p1 | exact sm_get_p2e | refine sm_get_p1m (by decide) (by decide) ?_ | refine sm_get_p1n (by decide) rfl ?_ | refine sm_get_p2n (by decide) (by decide) rfl ?_ | refine sm_get_p2m (by decide) (by decide) (by decide) ?_)) (by repeat (first | exact q0 | exact sm_get_p1 | exact sm_get_p2e | refine sm_get_p1m (by decide) (by decide) ?_ | refine sm_get_p1n (by decide) rfl ?_ | refine sm_get_p2n (by decide) (by decide) rfl ?_ | refine sm_get_p2m (by decide) (by decide) (by decide) ?_))
theorem rCo_1 {d : Nat} {S Sf : cS} {v : Option Value} {S1 : cS} {S2 : cS} (c1 : Ans (d + 8) 366 [.ref 61] S none S1) (c2 : Ans (d + 8) 394 [.ref 88, .int (nI 0)] S1 none S2) (hB : ∀ lv1 : sm_L, sm_get lv1 0 = some (.ref 61) → sm_get lv1 1 = some (.int (nI 0)) → sm_get lv1 2 = some (.int (nI 0)) → Bod (d + 8) 393 16 lv1 [] (S2) v Sf) : Bod (d + 8) 393 0 [(0, .ref 61)] [] S v Sf := by
  refine Bod.go dc_393_0 rfl ?_
  refine Bod.virt (r := []) dc_393_1 kr_393_527 ⟨Or.inl rfl, ow_366, cl_14⟩ (by rw [np_366]; rfl) (by rw [np_366]; rfl) (ob_of (mk_61 _)) (Nat.le_of_ble_eq_true rfl) (c1  ) ?_
  show Bod _ _ _ _ [] _ _ _
  refine Bod.go dc_393_4 rfl ?_
  refine Bod.get dc_393_5 fr_393_537 (mk_61 _) rfl ?_
  refine Bod.ic 0 (by decide) dc_393_8 ?_
  refine Bod.stat (r := []) dc_393_9 kr_393_540 (Or.inl rfl) (by rw [np_394]; rfl) (by rw [np_394]; rfl) (by rw [np_394]; exact Nat.le_of_ble_eq_true rfl) (Nat.le_of_ble_eq_true rfl) (c2  ) ?_
  show Bod _ _ _ _ [] _ _ _
  refine Bod.ic 0 (by decide) dc_393_12 ?_
  refine Bod.istn dc_393_13 (by rw [ml_393]; exact Nat.le_of_ble_eq_true rfl) ?_
  refine Bod.ic 0 (by decide) dc_393_14 ?_
  refine Bod.istn dc_393_15 (by rw [ml_393]; exact Nat.le_of_ble_eq_true rfl) ?_
  exact hB _ (by first | rfl | exact (by repeat (first | exact rfl | exact sm_get_p1 | exact sm_get_p2e | refine sm_get_p1m (by decide) (by decide) ?_ | refine sm_get_p1n (by decide) rfl ?_ | refine sm_get_p2n (by decide) (by decide) rfl ?_ | refine sm_get_p2m (by decide) (by decide) (by decide) ?_))) (by first | rfl | exact (by repeat (first | exact rfl | exact sm_get_p1 | exact sm_get_p2e | refine sm_get_p1m (by decide) (by decide) ?_ | refine sm_get_p1n (by decide) rfl ?_ | refine sm_get_p2n (by decide) (by decide) rfl ?_ | refine sm_get_p2m (by decide) (by decide) (by decide) ?_))) (by first | rfl | exact (by repeat (first | exact rfl | exact sm_get_p1 | exact sm_get_p2e | refine sm_get_p1m (by decide) (by decide) ?_ | refine sm_get_p1n (by decide) rfl ?_ | refine sm_get_p2n (by decide) (by decide) rfl ?_ | refine sm_get_p2m (by decide) (by decide) (by decide) ?_)))
theorem rCoA_1 {d : Nat} {S Sf : cS} {v : Option Value} {lv : sm_L} {nn : Nat} {ni : Nat} {f6102 : Nat} (q0 : sm_get lv 0 = some (.ref 61)) (q1 : sm_get lv 1 = some (.int (nI nn))) (q2 : sm_get lv 2 = some (.int (nI ni))) (mnn : nn < 2 ^ 20) (mni : ni < 2 ^ 20) (hf6102 : sI S 6102 = nI f6102) (mf6102 : f6102 < 2 ^ 20) (b1 : f6102 ≤ ni) (hB : ∀ lv1 : sm_L, sm_get lv1 0 = some (.ref 61) → sm_get lv1 1 = some (.int (nI nn)) → sm_get lv1 2 = some (.int (nI 0)) → Bod (d + 8) 393 55 lv1 [] (S) v Sf) : Bod (d + 8) 393 16 lv [] S v Sf := by
  refine Bod.ildnG dc_393_16 (by repeat (first | exact q2 | exact sm_get_p1 | exact sm_get_p2e | refine sm_get_p1m (by decide) (by decide) ?_ | refine sm_get_p1n (by decide) rfl ?_ | refine sm_get_p2n (by decide) (by decide) rfl ?_ | refine sm_get_p2m (by decide) (by decide) (by decide) ?_)) ?_
  refine Bod.aldnG dc_393_17 (by repeat (first | exact q0 | exact sm_get_p1 | exact sm_get_p2e | refine sm_get_p1m (by decide) (by decide) ?_ | refine sm_get_p1n (by decide) rfl ?_ | refine sm_get_p2n (by decide) (by decide) rfl ?_ | refine sm_get_p2m (by decide) (by decide) (by decide) ?_)) ?_
  refine Bod.get dc_393_18 fr_393_1 (mk_61 _) rfl ?_
  refine Bod.eqI (nI f6102) (by first | assumption | rfl | exact congrArg nI (by omega) | (simp (disch := omega) only [rIn, rIe, rA, rIA, rLA, rJA, rVI, rQI, rVA, rQA, upd_at,  rAI, rLI, rJI, nI_add, pk_sub, kc_0, kc_1, kc_2, kc_3, kc_4, kc_5, reduceIte, Nat.reduceEqDiff, Nat.add_zero, rI_hold, rI_hold, rL_hold, hf6102]; done)) ?_
  refine Bod.icT dc_393_21 rfl (k2_ge_T ni f6102 rfl rfl (by omega) (by omega)) ?_
  refine Bod.ic 0 (by decide) dc_393_53 ?_
  refine Bod.istn dc_393_54 (by rw [ml_393]; exact Nat.le_of_ble_eq_true rfl) ?_
  exact hB _ (by repeat (first | exact q0 | exact sm_get_p1 | exact sm_get_p2e | refine sm_get_p1m (by decide) (by decide) ?_ | refine sm_get_p1n (by decide) rfl ?_ | refine sm_get_p2n (by decide) (by decide) rfl ?_ | refine sm_get_p2m (by decide) (by decide) (by decide) ?_)) (by repeat (first | exact q1 | exact sm_get_p1 | exact sm_get_p2e | refine sm_get_p1m (by decide) (by decide) ?_ | refine sm_get_p1n (by decide) rfl ?_ | refine sm_get_p2n (by decide) (by decide) rfl ?_ | refine sm_get_p2m (by decide) (by decide) (by decide) ?_)) (by repeat (first | exact q0 | exact sm_get_p1 | exact sm_get_p2e | refine sm_get_p1m (by decide) (by decide) ?_ | refine sm_get_p1n (by decide) rfl ?_ | refine sm_get_p2n (by decide) (by decide) rfl ?_ | refine sm_get_p2m (by decide) (by decide) (by decide) ?_))
theorem rCoA_2 {d : Nat} {S Sf : cS} {v : Option Value} {lv : sm_L} {nn : Nat} {ni : Nat} {f6102 : Nat} {r : Nat} {N : Nat} {e : Nat} (q0 : sm_get lv 0 = some (.ref 61)) (q1 : sm_get lv 1 = some (.int (nI nn))) (q2 : sm_get lv 2 = some (.int (nI ni))) (mnn : nn < 2 ^ 20) (mni : ni < 2 ^ 20) (hf6102 : sI S 6102 = nI f6102) (mf6102 : f6102 < 2 ^ 20) (b1 : ni < f6102) (hv1 : sV S (6103) = .ref r) (hg1 : isK S r 0 N) (mN : N < 2 ^ 20) (b2 : ni < N) (he : sA S r ni = nI e) (me : e < 2 ^ 20) (b3 : e ≠ 3) (hB : ∀ lv1 : sm_L, sm_get lv1 0 = some (.ref 61) → sm_get lv1 1 = some (.int (nI nn)) → sm_get lv1 2 = some (.int (nI (ni + 1))) → Bod (d + 8) 393 16 lv1 [] (S) v Sf) : Bod (d + 8) 393 16 lv [] S v Sf := by
  refine Bod.ildnG dc_393_16 (by repeat (first | exact q2 | exact sm_get_p1 | exact sm_get_p2e | refine sm_get_p1m (by decide) (by decide) ?_ | refine sm_get_p1n (by decide) rfl ?_ | refine sm_get_p2n (by decide) (by decide) rfl ?_ | refine sm_get_p2m (by decide) (by decide) (by decide) ?_)) ?_
  refine Bod.aldnG dc_393_17 (by repeat (first | exact q0 | exact sm_get_p1 | exact sm_get_p2e | refine sm_get_p1m (by decide) (by decide) ?_ | refine sm_get_p1n (by decide) rfl ?_ | refine sm_get_p2n (by decide) (by decide) rfl ?_ | refine sm_get_p2m (by decide) (by decide) (by decide) ?_)) ?_
  refine Bod.get dc_393_18 fr_393_1 (mk_61 _) rfl ?_
  refine Bod.eqI (nI f6102) (by first | assumption | rfl | exact congrArg nI (by omega) | (simp (disch := omega) only [rIn, rIe, rA, rIA, rLA, rJA, rVI, rQI, rVA, rQA, upd_at,  rAI, rLI, rJI, nI_add, pk_sub, kc_0, kc_1, kc_2, kc_3, kc_4, kc_5, reduceIte, Nat.reduceEqDiff, Nat.add_zero, rI_hold, rI_hold, rL_hold, hf6102]; done)) ?_
  refine Bod.icF dc_393_21 rfl (k2_ge_F ni f6102 rfl rfl (by omega) (by omega)) ?_
  refine Bod.aldnG dc_393_24 (by repeat (first | exact q0 | exact sm_get_p1 | exact sm_get_p2e | refine sm_get_p1m (by decide) (by decide) ?_ | refine sm_get_p1n (by decide) rfl ?_ | refine sm_get_p2n (by decide) (by decide) rfl ?_ | refine sm_get_p2m (by decide) (by decide) (by decide) ?_)) ?_
  refine Bod.get dc_393_25 fr_393_24 (mk_61 _) rfl ?_
  refine Bod.eqV (.ref r) (by first | exact hv1 | (simp only [rIV, rJV, rAV, rLV, rQV, rV, reduceIte, Nat.reduceEqDiff]; exact hv1)) ?_
  refine Bod.ildnG dc_393_28 (by repeat (first | exact q2 | exact sm_get_p1 | exact sm_get_p2e | refine sm_get_p1m (by decide) (by decide) ?_ | refine sm_get_p1n (by decide) rfl ?_ | refine sm_get_p2n (by decide) (by decide) rfl ?_ | refine sm_get_p2m (by decide) (by decide) (by decide) ?_)) ?_
  refine Bod.ialdN (N := N) ni rfl (by omega) (by omega) dc_393_29 (mk_isI (by first | exact hg1 | exact isK_S (by simp only [rIS, rJS, rAS, rLS, rVS, rQS, rS_hold]) hg1)) ?_
  refine Bod.eqI (nI e) (by first | assumption | rfl | exact congrArg nI (by omega) | (simp (disch := omega) only [rIn, rIe, rA, rIA, rLA, rJA, rVI, rQI, rVA, rQA, upd_at,  rAI, rLI, rJI, nI_add, pk_sub, kc_0, kc_1, kc_2, kc_3, kc_4, kc_5, reduceIte, Nat.reduceEqDiff, Nat.add_zero, rI_hold, rI_hold, rL_hold, hf6102, he]; done)) ?_
  refine Bod.ic 3 (by decide) dc_393_30 ?_
  refine Bod.icT dc_393_31 rfl (k2_ne_T (k_ne e 3 rfl rfl (by omega) (by omega) (by omega))) ?_
  refine Bod.incN (ni + 1) (by rw [kc_1, nI_add]) dc_393_47 (by rw [ml_393]; exact Nat.le_of_ble_eq_true rfl) (by repeat (first | exact q2 | exact sm_get_p1 | exact sm_get_p2e | refine sm_get_p1m (by decide) (by decide) ?_ | refine sm_get_p1n (by decide) rfl ?_ | refine sm_get_p2n (by decide) (by decide) rfl ?_ | refine sm_get_p2m (by decide) (by decide) (by decide) ?_)) ?_
  refine Bod.go dc_393_50 rfl ?_
  exact hB _ (by repeat (first | exact q0 | exact sm_get_p1 | exact sm_get_p2e | refine sm_get_p1m (by decide) (by decide) ?_ | refine sm_get_p1n (by decide) rfl ?_ | refine sm_get_p2n (by decide) (by decide) rfl ?_ | refine sm_get_p2m (by decide) (by decide) (by decide) ?_)) (by repeat (first | exact q1 | exact sm_get_p1 | exact sm_get_p2e | refine sm_get_p1m (by decide) (by decide) ?_ | refine sm_get_p1n (by decide) rfl ?_ | refine sm_get_p2n (by decide) (by decide) rfl ?_ | refine sm_get_p2m (by decide) (by decide) (by decide) ?_)) (by repeat (first | exact q0 | exact sm_get_p1 | exact sm_get_p2e | refine sm_get_p1m (by decide) (by decide) ?_ | refine sm_get_p1n (by decide) rfl ?_ | refine sm_get_p2n (by decide) (by decide) rfl ?_ | refine sm_get_p2m (by decide) (by decide) (by decide) ?_))
theorem rCoA_3 {d : Nat} {S Sf : cS} {v : Option Value} {lv : sm_L} {nn : Nat} {ni : Nat} {f6102 : Nat} {r : Nat} {N : Nat} {e : Nat} {r1 : Nat} {N1 : Nat} {o : Nat} {S1 : cS} {a : Nat} (q0 : sm_get lv 0 = some (.ref 61)) (q1 : sm_get lv 1 = some (.int (nI nn))) (q2 : sm_get lv 2 = some (.int (nI ni))) (mnn : nn < 2 ^ 20) (mni : ni < 2 ^ 20) (hf6102 : sI S 6102 = nI f6102) (mf6102 : f6102 < 2 ^ 20) (b1 : ni < f6102) (hv1 : sV S (6103) = .ref r) (hg1 : isK S r 0 N) (mN : N < 2 ^ 20) (b2 : ni < N) (he : sA S r ni = nI e) (me : e < 2 ^ 20) (b3 : e = 3) (hv2 : sV S (6104) = .ref r1) (hg2 : isK S r1 1 N1) (mN1 : N1 < 2 ^ 20) (b4 : ni < N1) (ho : (sL S r1 ni).toInt32 = nI o) (mo : o < 1500) (ma : a < 2 ^ 20) (c1 : Ans (d + 8) 395 [.ref 61, .int (nI o), .int (nI nn)] S (some (.int (nI a))) S1) (hB : ∀ lv1 : sm_L, sm_get lv1 0 = some (.ref 61) → sm_get lv1 1 = some (.int (nI a)) → sm_get lv1 2 = some (.int (nI (ni + 1))) → Bod (d + 8) 393 16 lv1 [] (S1) v Sf) : Bod (d + 8) 393 16 lv [] S v Sf := by
  refine Bod.ildnG dc_393_16 (by repeat (first | exact q2 | exact sm_get_p1 | exact sm_get_p2e | refine sm_get_p1m (by decide) (by decide) ?_ | refine sm_get_p1n (by decide) rfl ?_ | refine sm_get_p2n (by decide) (by decide) rfl ?_ | refine sm_get_p2m (by decide) (by decide) (by decide) ?_)) ?_
  refine Bod.aldnG dc_393_17 (by repeat (first | exact q0 | exact sm_get_p1 | exact sm_get_p2e | refine sm_get_p1m (by decide) (by decide) ?_ | refine sm_get_p1n (by decide) rfl ?_ | refine sm_get_p2n (by decide) (by decide) rfl ?_ | refine sm_get_p2m (by decide) (by decide) (by decide) ?_)) ?_
  refine Bod.get dc_393_18 fr_393_1 (mk_61 _) rfl ?_
  refine Bod.eqI (nI f6102) (by first | assumption | rfl | exact congrArg nI (by omega) | (simp (disch := omega) only [rIn, rIe, rA, rIA, rLA, rJA, rVI, rQI, rVA, rQA, upd_at,  rAI, rLI, rJI, nI_add, pk_sub, kc_0, kc_1, kc_2, kc_3, kc_4, kc_5, reduceIte, Nat.reduceEqDiff, Nat.add_zero, rI_hold, rI_hold, rL_hold, hf6102]; done)) ?_
  refine Bod.icF dc_393_21 rfl (k2_ge_F ni f6102 rfl rfl (by omega) (by omega)) ?_
  refine Bod.aldnG dc_393_24 (by repeat (first | exact q0 | exact sm_get_p1 | exact sm_get_p2e | refine sm_get_p1m (by decide) (by decide) ?_ | refine sm_get_p1n (by decide) rfl ?_ | refine sm_get_p2n (by decide) (by decide) rfl ?_ | refine sm_get_p2m (by decide) (by decide) (by decide) ?_)) ?_
  refine Bod.get dc_393_25 fr_393_24 (mk_61 _) rfl ?_
  refine Bod.eqV (.ref r) (by first | exact hv1 | (simp only [rIV, rJV, rAV, rLV, rQV, rV, reduceIte, Nat.reduceEqDiff]; exact hv1)) ?_
  refine Bod.ildnG dc_393_28 (by repeat (first | exact q2 | exact sm_get_p1 | exact sm_get_p2e | refine sm_get_p1m (by decide) (by decide) ?_ | refine sm_get_p1n (by decide) rfl ?_ | refine sm_get_p2n (by decide) (by decide) rfl ?_ | refine sm_get_p2m (by decide) (by decide) (by decide) ?_)) ?_
  refine Bod.ialdN (N := N) ni rfl (by omega) (by omega) dc_393_29 (mk_isI (by first | exact hg1 | exact isK_S (by simp only [rIS, rJS, rAS, rLS, rVS, rQS, rS_hold]) hg1)) ?_
  refine Bod.eqI (nI e) (by first | assumption | rfl | exact congrArg nI (by omega) | (simp (disch := omega) only [rIn, rIe, rA, rIA, rLA, rJA, rVI, rQI, rVA, rQA, upd_at,  rAI, rLI, rJI, nI_add, pk_sub, kc_0, kc_1, kc_2, kc_3, kc_4, kc_5, reduceIte, Nat.reduceEqDiff, Nat.add_zero, rI_hold, rI_hold, rL_hold, hf6102, he]; done)) ?_
  refine Bod.ic 3 (by decide) dc_393_30 ?_
  refine Bod.icF dc_393_31 rfl (k2_ne_F (k_eq e 3 rfl rfl (by omega))) ?_
  refine Bod.aldnG dc_393_34 (by repeat (first | exact q0 | exact sm_get_p1 | exact sm_get_p2e | refine sm_get_p1m (by decide) (by decide) ?_ | refine sm_get_p1n (by decide) rfl ?_ | refine sm_get_p2n (by decide) (by decide) rfl ?_ | refine sm_get_p2m (by decide) (by decide) (by decide) ?_)) ?_
  refine Bod.aldnG dc_393_35 (by repeat (first | exact q0 | exact sm_get_p1 | exact sm_get_p2e | refine sm_get_p1m (by decide) (by decide) ?_ | refine sm_get_p1n (by decide) rfl ?_ | refine sm_get_p2n (by decide) (by decide) rfl ?_ | refine sm_get_p2m (by decide) (by decide) (by decide) ?_)) ?_
  refine Bod.get dc_393_36 fr_393_27 (mk_61 _) rfl ?_
  refine Bod.eqV (.ref r1) (by first | exact hv2 | (simp only [rIV, rJV, rAV, rLV, rQV, rV, reduceIte, Nat.reduceEqDiff]; exact hv2)) ?_
  refine Bod.ildnG dc_393_39 (by repeat (first | exact q2 | exact sm_get_p1 | exact sm_get_p2e | refine sm_get_p1m (by decide) (by decide) ?_ | refine sm_get_p1n (by decide) rfl ?_ | refine sm_get_p2n (by decide) (by decide) rfl ?_ | refine sm_get_p2m (by decide) (by decide) (by decide) ?_)) ?_
  refine Bod.laldN (N := N1) ni rfl (by omega) (by omega) dc_393_40 (mk_isL (by first | exact hg2 | exact isK_S (by simp only [rIS, rJS, rAS, rLS, rVS, rQS, rS_hold]) hg2)) ?_
  refine Bod.go dc_393_41 rfl ?_
  refine Bod.eqI (nI o) (by first | exact ho | (simp only [rIn, rIe, rA, rIA, rLA, rJA, rVI, rQI, rVA, rQA, upd_at,  rAI, rLI, rJI, nI_add, pk_sub, kc_0, kc_1, kc_2, kc_3, kc_4, kc_5, reduceIte, Nat.reduceEqDiff, Nat.add_zero, rI_hold, rI_hold, rL_hold]; exact ho)) ?_
  refine Bod.ildnG dc_393_42 (by repeat (first | exact q1 | exact sm_get_p1 | exact sm_get_p2e | refine sm_get_p1m (by decide) (by decide) ?_ | refine sm_get_p1n (by decide) rfl ?_ | refine sm_get_p2n (by decide) (by decide) rfl ?_ | refine sm_get_p2m (by decide) (by decide) (by decide) ?_)) ?_
  refine Bod.virt (r := []) dc_393_43 kr_393_543 ⟨Or.inl rfl, ow_395, cl_14⟩ (by rw [np_395]; rfl) (by rw [np_395]; rfl) (ob_of (mk_61 _)) (Nat.le_of_ble_eq_true rfl) (c1  ) ?_
  show Bod _ _ _ _ [_] _ _ _
  refine Bod.istn dc_393_46 (by rw [ml_393]; exact Nat.le_of_ble_eq_true rfl) ?_
  refine Bod.incN (ni + 1) (by rw [kc_1, nI_add]) dc_393_47 (by rw [ml_393]; exact Nat.le_of_ble_eq_true rfl) (by repeat (first | exact q2 | exact sm_get_p1 | exact sm_get_p2e | refine sm_get_p1m (by decide) (by decide) ?_ | refine sm_get_p1n (by decide) rfl ?_ | refine sm_get_p2n (by decide) (by decide) rfl ?_ | refine sm_get_p2m (by decide) (by decide) (by decide) ?_)) ?_
  refine Bod.go dc_393_50 rfl ?_
  exact hB _ (by repeat (first | exact q0 | exact sm_get_p1 | exact sm_get_p2e | refine sm_get_p1m (by decide) (by decide) ?_ | refine sm_get_p1n (by decide) rfl ?_ | refine sm_get_p2n (by decide) (by decide) rfl ?_ | refine sm_get_p2m (by decide) (by decide) (by decide) ?_)) (by repeat (first | exact q0 | exact sm_get_p1 | exact sm_get_p2e | refine sm_get_p1m (by decide) (by decide) ?_ | refine sm_get_p1n (by decide) rfl ?_ | refine sm_get_p2n (by decide) (by decide) rfl ?_ | refine sm_get_p2m (by decide) (by decide) (by decide) ?_)) (by repeat (first | exact q0 | exact sm_get_p1 | exact sm_get_p2e | refine sm_get_p1m (by decide) (by decide) ?_ | refine sm_get_p1n (by decide) rfl ?_ | refine sm_get_p2n (by decide) (by decide) rfl ?_ | refine sm_get_p2m (by decide) (by decide) (by decide) ?_))
theorem rCoA_4 {d : Nat} {S Sf : cS} {v : Option Value} {lv : sm_L} {nn : Nat} {ni : Nat} {f6102 : Nat} {r : Nat} {N : Nat} (q0 : sm_get lv 0 = some (.ref 61)) (q1 : sm_get lv 1 = some (.int (nI nn))) (q2 : sm_get lv 2 = some (.int (nI ni))) (mnn : nn < 2 ^ 20) (mni : ni < 2 ^ 20) (hf6102 : sI S 6102 = nI f6102) (mf6102 : f6102 < 2 ^ 20) (b1 : ni < f6102) (hv1 : sV S (6103) = .ref r) (hg1 : isK S r 0 N) (mN : N < 2 ^ 20) (b2 : ni < N) (n3 : sA S r ni = Int32.ofInt (-1)) (hB : ∀ lv1 : sm_L, sm_get lv1 0 = some (.ref 61) → sm_get lv1 1 = some (.int (nI nn)) → sm_get lv1 2 = some (.int (nI (ni + 1))) → Bod (d + 8) 393 16 lv1 [] (S) v Sf) : Bod (d + 8) 393 16 lv [] S v Sf := by
  refine Bod.ildnG dc_393_16 (by repeat (first | exact q2 | exact sm_get_p1 | exact sm_get_p2e | refine sm_get_p1m (by decide) (by decide) ?_ | refine sm_get_p1n (by decide) rfl ?_ | refine sm_get_p2n (by decide) (by decide) rfl ?_ | refine sm_get_p2m (by decide) (by decide) (by decide) ?_)) ?_
  refine Bod.aldnG dc_393_17 (by repeat (first | exact q0 | exact sm_get_p1 | exact sm_get_p2e | refine sm_get_p1m (by decide) (by decide) ?_ | refine sm_get_p1n (by decide) rfl ?_ | refine sm_get_p2n (by decide) (by decide) rfl ?_ | refine sm_get_p2m (by decide) (by decide) (by decide) ?_)) ?_
  refine Bod.get dc_393_18 fr_393_1 (mk_61 _) rfl ?_
  refine Bod.eqI (nI f6102) (by first | assumption | rfl | exact congrArg nI (by omega) | (simp (disch := omega) only [rIn, rIe, rA, rIA, rLA, rJA, rVI, rQI, rVA, rQA, upd_at,  rAI, rLI, rJI, nI_add, pk_sub, kc_0, kc_1, kc_2, kc_3, kc_4, kc_5, reduceIte, Nat.reduceEqDiff, Nat.add_zero, rI_hold, rI_hold, rL_hold, hf6102]; done)) ?_
  refine Bod.icF dc_393_21 rfl (k2_ge_F ni f6102 rfl rfl (by omega) (by omega)) ?_
  refine Bod.aldnG dc_393_24 (by repeat (first | exact q0 | exact sm_get_p1 | exact sm_get_p2e | refine sm_get_p1m (by decide) (by decide) ?_ | refine sm_get_p1n (by decide) rfl ?_ | refine sm_get_p2n (by decide) (by decide) rfl ?_ | refine sm_get_p2m (by decide) (by decide) (by decide) ?_)) ?_
  refine Bod.get dc_393_25 fr_393_24 (mk_61 _) rfl ?_
  refine Bod.eqV (.ref r) (by first | exact hv1 | (simp only [rIV, rJV, rAV, rLV, rQV, rV, reduceIte, Nat.reduceEqDiff]; exact hv1)) ?_
  refine Bod.ildnG dc_393_28 (by repeat (first | exact q2 | exact sm_get_p1 | exact sm_get_p2e | refine sm_get_p1m (by decide) (by decide) ?_ | refine sm_get_p1n (by decide) rfl ?_ | refine sm_get_p2n (by decide) (by decide) rfl ?_ | refine sm_get_p2m (by decide) (by decide) (by decide) ?_)) ?_
  refine Bod.ialdN (N := N) ni rfl (by omega) (by omega) dc_393_29 (mk_isI (by first | exact hg1 | exact isK_S (by simp only [rIS, rJS, rAS, rLS, rVS, rQS, rS_hold]) hg1)) ?_
  refine Bod.eqI (Int32.ofInt (-1)) (by first | assumption | rfl | exact congrArg nI (by omega) | (simp (disch := omega) only [rIn, rIe, rA, rIA, rLA, rJA, rVI, rQI, rVA, rQA, upd_at,  rAI, rLI, rJI, nI_add, pk_sub, kc_0, kc_1, kc_2, kc_3, kc_4, kc_5, reduceIte, Nat.reduceEqDiff, Nat.add_zero, rI_hold, rI_hold, rL_hold, hf6102, n3]; done)) ?_
  refine Bod.ic 3 (by decide) dc_393_30 ?_
  refine Bod.icT dc_393_31 rfl (ml_ne (by omega)) ?_
  refine Bod.incN (ni + 1) (by rw [kc_1, nI_add]) dc_393_47 (by rw [ml_393]; exact Nat.le_of_ble_eq_true rfl) (by repeat (first | exact q2 | exact sm_get_p1 | exact sm_get_p2e | refine sm_get_p1m (by decide) (by decide) ?_ | refine sm_get_p1n (by decide) rfl ?_ | refine sm_get_p2n (by decide) (by decide) rfl ?_ | refine sm_get_p2m (by decide) (by decide) (by decide) ?_)) ?_
  refine Bod.go dc_393_50 rfl ?_
  exact hB _ (by repeat (first | exact q0 | exact sm_get_p1 | exact sm_get_p2e | refine sm_get_p1m (by decide) (by decide) ?_ | refine sm_get_p1n (by decide) rfl ?_ | refine sm_get_p2n (by decide) (by decide) rfl ?_ | refine sm_get_p2m (by decide) (by decide) (by decide) ?_)) (by repeat (first | exact q1 | exact sm_get_p1 | exact sm_get_p2e | refine sm_get_p1m (by decide) (by decide) ?_ | refine sm_get_p1n (by decide) rfl ?_ | refine sm_get_p2n (by decide) (by decide) rfl ?_ | refine sm_get_p2m (by decide) (by decide) (by decide) ?_)) (by repeat (first | exact q0 | exact sm_get_p1 | exact sm_get_p2e | refine sm_get_p1m (by decide) (by decide) ?_ | refine sm_get_p1n (by decide) rfl ?_ | refine sm_get_p2n (by decide) (by decide) rfl ?_ | refine sm_get_p2m (by decide) (by decide) (by decide) ?_))
theorem rCoB_1 {d : Nat} {S Sf : cS} {v : Option Value} {lv : sm_L} {nn : Nat} {ni : Nat} {t : Nat} (q0 : sm_get lv 0 = some (.ref 61)) (q1 : sm_get lv 1 = some (.int (nI nn))) (q2 : sm_get lv 2 = some (.int (nI ni))) (mnn : nn < 2 ^ 20) (mni : ni < 2 ^ 20) (ht : sI S 6151 = nI t) (mt : t < 20481) (b1 : t ≤ ni) (hB : ∀ lv1 : sm_L, sm_get lv1 0 = some (.ref 61) → sm_get lv1 1 = some (.int (nI nn)) → sm_get lv1 2 = some (.int (nI 0)) → Bod (d + 8) 393 94 lv1 [] (S) v Sf) : Bod (d + 8) 393 55 lv [] S v Sf := by
  refine Bod.ildnG dc_393_55 (by repeat (first | exact q2 | exact sm_get_p1 | exact sm_get_p2e | refine sm_get_p1m (by decide) (by decide) ?_ | refine sm_get_p1n (by decide) rfl ?_ | refine sm_get_p2n (by decide) (by decide) rfl ?_ | refine sm_get_p2m (by decide) (by decide) (by decide) ?_)) ?_
  refine Bod.aldnG dc_393_56 (by repeat (first | exact q0 | exact sm_get_p1 | exact sm_get_p2e | refine sm_get_p1m (by decide) (by decide) ?_ | refine sm_get_p1n (by decide) rfl ?_ | refine sm_get_p2n (by decide) (by decide) rfl ?_ | refine sm_get_p2m (by decide) (by decide) (by decide) ?_)) ?_
  refine Bod.get dc_393_57 fr_393_493 (mk_61 _) rfl ?_
  refine Bod.eqI (nI t) (by first | assumption | rfl | exact congrArg nI (by omega) | (simp (disch := omega) only [rIn, rIe, rA, rIA, rLA, rJA, rVI, rQI, rVA, rQA, upd_at,  rAI, rLI, rJI, nI_add, pk_sub, kc_0, kc_1, kc_2, kc_3, kc_4, kc_5, reduceIte, Nat.reduceEqDiff, Nat.add_zero, rI_hold, rI_hold, rL_hold, ht]; done)) ?_
  refine Bod.icT dc_393_60 rfl (k2_ge_T ni t rfl rfl (by omega) (by omega)) ?_
  refine Bod.ic 0 (by decide) dc_393_92 ?_
  refine Bod.istn dc_393_93 (by rw [ml_393]; exact Nat.le_of_ble_eq_true rfl) ?_
  exact hB _ (by repeat (first | exact q0 | exact sm_get_p1 | exact sm_get_p2e | refine sm_get_p1m (by decide) (by decide) ?_ | refine sm_get_p1n (by decide) rfl ?_ | refine sm_get_p2n (by decide) (by decide) rfl ?_ | refine sm_get_p2m (by decide) (by decide) (by decide) ?_)) (by repeat (first | exact q1 | exact sm_get_p1 | exact sm_get_p2e | refine sm_get_p1m (by decide) (by decide) ?_ | refine sm_get_p1n (by decide) rfl ?_ | refine sm_get_p2n (by decide) (by decide) rfl ?_ | refine sm_get_p2m (by decide) (by decide) (by decide) ?_)) (by repeat (first | exact q0 | exact sm_get_p1 | exact sm_get_p2e | refine sm_get_p1m (by decide) (by decide) ?_ | refine sm_get_p1n (by decide) rfl ?_ | refine sm_get_p2n (by decide) (by decide) rfl ?_ | refine sm_get_p2m (by decide) (by decide) (by decide) ?_))
theorem rCoB_2 {d : Nat} {S Sf : cS} {v : Option Value} {lv : sm_L} {nn : Nat} {ni : Nat} {t : Nat} {e91 : Nat} (q0 : sm_get lv 0 = some (.ref 61)) (q1 : sm_get lv 1 = some (.int (nI nn))) (q2 : sm_get lv 2 = some (.int (nI ni))) (mnn : nn < 2 ^ 20) (mni : ni < 2 ^ 20) (ht : sI S 6151 = nI t) (mt : t < 20481) (b1 : ni < t) (b2 : ni < 20480) (he91 : sA S 91 ni = nI e91) (me91 : e91 < 2 ^ 20) (b3 : e91 ≠ 3) (hB : ∀ lv1 : sm_L, sm_get lv1 0 = some (.ref 61) → sm_get lv1 1 = some (.int (nI nn)) → sm_get lv1 2 = some (.int (nI (ni + 1))) → Bod (d + 8) 393 55 lv1 [] (S) v Sf) : Bod (d + 8) 393 55 lv [] S v Sf := by
  refine Bod.ildnG dc_393_55 (by repeat (first | exact q2 | exact sm_get_p1 | exact sm_get_p2e | refine sm_get_p1m (by decide) (by decide) ?_ | refine sm_get_p1n (by decide) rfl ?_ | refine sm_get_p2n (by decide) (by decide) rfl ?_ | refine sm_get_p2m (by decide) (by decide) (by decide) ?_)) ?_
  refine Bod.aldnG dc_393_56 (by repeat (first | exact q0 | exact sm_get_p1 | exact sm_get_p2e | refine sm_get_p1m (by decide) (by decide) ?_ | refine sm_get_p1n (by decide) rfl ?_ | refine sm_get_p2n (by decide) (by decide) rfl ?_ | refine sm_get_p2m (by decide) (by decide) (by decide) ?_)) ?_
  refine Bod.get dc_393_57 fr_393_493 (mk_61 _) rfl ?_
  refine Bod.eqI (nI t) (by first | assumption | rfl | exact congrArg nI (by omega) | (simp (disch := omega) only [rIn, rIe, rA, rIA, rLA, rJA, rVI, rQI, rVA, rQA, upd_at,  rAI, rLI, rJI, nI_add, pk_sub, kc_0, kc_1, kc_2, kc_3, kc_4, kc_5, reduceIte, Nat.reduceEqDiff, Nat.add_zero, rI_hold, rI_hold, rL_hold, ht]; done)) ?_
  refine Bod.icF dc_393_60 rfl (k2_ge_F ni t rfl rfl (by omega) (by omega)) ?_
  refine Bod.aldnG dc_393_63 (by repeat (first | exact q0 | exact sm_get_p1 | exact sm_get_p2e | refine sm_get_p1m (by decide) (by decide) ?_ | refine sm_get_p1n (by decide) rfl ?_ | refine sm_get_p2n (by decide) (by decide) rfl ?_ | refine sm_get_p2m (by decide) (by decide) (by decide) ?_)) ?_
  refine Bod.get dc_393_64 fr_393_496 (mk_61 _) rfl ?_
  refine Bod.ildnG dc_393_67 (by repeat (first | exact q2 | exact sm_get_p1 | exact sm_get_p2e | refine sm_get_p1m (by decide) (by decide) ?_ | refine sm_get_p1n (by decide) rfl ?_ | refine sm_get_p2n (by decide) (by decide) rfl ?_ | refine sm_get_p2m (by decide) (by decide) (by decide) ?_)) ?_
  refine Bod.ialdN ni rfl (by omega) (by omega) dc_393_68 (mk_91 _) ?_
  refine Bod.eqI (nI e91) (by first | assumption | rfl | exact congrArg nI (by omega) | (simp (disch := omega) only [rIn, rIe, rA, rIA, rLA, rJA, rVI, rQI, rVA, rQA, upd_at,  rAI, rLI, rJI, nI_add, pk_sub, kc_0, kc_1, kc_2, kc_3, kc_4, kc_5, reduceIte, Nat.reduceEqDiff, Nat.add_zero, rI_hold, rI_hold, rL_hold, ht, he91]; done)) ?_
  refine Bod.ic 3 (by decide) dc_393_69 ?_
  refine Bod.icT dc_393_70 rfl (k2_ne_T (k_ne e91 3 rfl rfl (by omega) (by omega) (by omega))) ?_
  refine Bod.incN (ni + 1) (by rw [kc_1, nI_add]) dc_393_86 (by rw [ml_393]; exact Nat.le_of_ble_eq_true rfl) (by repeat (first | exact q2 | exact sm_get_p1 | exact sm_get_p2e | refine sm_get_p1m (by decide) (by decide) ?_ | refine sm_get_p1n (by decide) rfl ?_ | refine sm_get_p2n (by decide) (by decide) rfl ?_ | refine sm_get_p2m (by decide) (by decide) (by decide) ?_)) ?_
  refine Bod.go dc_393_89 rfl ?_
  exact hB _ (by repeat (first | exact q0 | exact sm_get_p1 | exact sm_get_p2e | refine sm_get_p1m (by decide) (by decide) ?_ | refine sm_get_p1n (by decide) rfl ?_ | refine sm_get_p2n (by decide) (by decide) rfl ?_ | refine sm_get_p2m (by decide) (by decide) (by decide) ?_)) (by repeat (first | exact q1 | exact sm_get_p1 | exact sm_get_p2e | refine sm_get_p1m (by decide) (by decide) ?_ | refine sm_get_p1n (by decide) rfl ?_ | refine sm_get_p2n (by decide) (by decide) rfl ?_ | refine sm_get_p2m (by decide) (by decide) (by decide) ?_)) (by repeat (first | exact q0 | exact sm_get_p1 | exact sm_get_p2e | refine sm_get_p1m (by decide) (by decide) ?_ | refine sm_get_p1n (by decide) rfl ?_ | refine sm_get_p2n (by decide) (by decide) rfl ?_ | refine sm_get_p2m (by decide) (by decide) (by decide) ?_))
theorem rCoB_3 {d : Nat} {S Sf : cS} {v : Option Value} {lv : sm_L} {nn : Nat} {ni : Nat} {t : Nat} {e91 : Nat} {o : Nat} {S1 : cS} {a : Nat} (q0 : sm_get lv 0 = some (.ref 61)) (q1 : sm_get lv 1 = some (.int (nI nn))) (q2 : sm_get lv 2 = some (.int (nI ni))) (mnn : nn < 2 ^ 20) (mni : ni < 2 ^ 20) (ht : sI S 6151 = nI t) (mt : t < 20481) (b1 : ni < t) (b2 : ni < 20480) (he91 : sA S 91 ni = nI e91) (me91 : e91 < 2 ^ 20) (b3 : e91 = 3) (ho : (sL S 92 ni).toInt32 = nI o) (mo : o < 1500) (ma : a < 2 ^ 20) (c1 : Ans (d + 8) 395 [.ref 61, .int (nI o), .int (nI nn)] S (some (.int (nI a))) S1) (hB : ∀ lv1 : sm_L, sm_get lv1 0 = some (.ref 61) → sm_get lv1 1 = some (.int (nI a)) → sm_get lv1 2 = some (.int (nI (ni + 1))) → Bod (d + 8) 393 55 lv1 [] (S1) v Sf) : Bod (d + 8) 393 55 lv [] S v Sf := by
  refine Bod.ildnG dc_393_55 (by repeat (first | exact q2 | exact sm_get_p1 | exact sm_get_p2e | refine sm_get_p1m (by decide) (by decide) ?_ | refine sm_get_p1n (by decide) rfl ?_ | refine sm_get_p2n (by decide) (by decide) rfl ?_ | refine sm_get_p2m (by decide) (by decide) (by decide) ?_)) ?_
  refine Bod.aldnG dc_393_56 (by repeat (first | exact q0 | exact sm_get_p1 | exact sm_get_p2e | refine sm_get_p1m (by decide) (by decide) ?_ | refine sm_get_p1n (by decide) rfl ?_ | refine sm_get_p2n (by decide) (by decide) rfl ?_ | refine sm_get_p2m (by decide) (by decide) (by decide) ?_)) ?_
  refine Bod.get dc_393_57 fr_393_493 (mk_61 _) rfl ?_
  refine Bod.eqI (nI t) (by first | assumption | rfl | exact congrArg nI (by omega) | (simp (disch := omega) only [rIn, rIe, rA, rIA, rLA, rJA, rVI, rQI, rVA, rQA, upd_at,  rAI, rLI, rJI, nI_add, pk_sub, kc_0, kc_1, kc_2, kc_3, kc_4, kc_5, reduceIte, Nat.reduceEqDiff, Nat.add_zero, rI_hold, rI_hold, rL_hold, ht]; done)) ?_
  refine Bod.icF dc_393_60 rfl (k2_ge_F ni t rfl rfl (by omega) (by omega)) ?_
  refine Bod.aldnG dc_393_63 (by repeat (first | exact q0 | exact sm_get_p1 | exact sm_get_p2e | refine sm_get_p1m (by decide) (by decide) ?_ | refine sm_get_p1n (by decide) rfl ?_ | refine sm_get_p2n (by decide) (by decide) rfl ?_ | refine sm_get_p2m (by decide) (by decide) (by decide) ?_)) ?_
  refine Bod.get dc_393_64 fr_393_496 (mk_61 _) rfl ?_
  refine Bod.ildnG dc_393_67 (by repeat (first | exact q2 | exact sm_get_p1 | exact sm_get_p2e | refine sm_get_p1m (by decide) (by decide) ?_ | refine sm_get_p1n (by decide) rfl ?_ | refine sm_get_p2n (by decide) (by decide) rfl ?_ | refine sm_get_p2m (by decide) (by decide) (by decide) ?_)) ?_
  refine Bod.ialdN ni rfl (by omega) (by omega) dc_393_68 (mk_91 _) ?_
  refine Bod.eqI (nI e91) (by first | assumption | rfl | exact congrArg nI (by omega) | (simp (disch := omega) only [rIn, rIe, rA, rIA, rLA, rJA, rVI, rQI, rVA, rQA, upd_at,  rAI, rLI, rJI, nI_add, pk_sub, kc_0, kc_1, kc_2, kc_3, kc_4, kc_5, reduceIte, Nat.reduceEqDiff, Nat.add_zero, rI_hold, rI_hold, rL_hold, ht, he91]; done)) ?_
  refine Bod.ic 3 (by decide) dc_393_69 ?_
  refine Bod.icF dc_393_70 rfl (k2_ne_F (k_eq e91 3 rfl rfl (by omega))) ?_
  refine Bod.aldnG dc_393_73 (by repeat (first | exact q0 | exact sm_get_p1 | exact sm_get_p2e | refine sm_get_p1m (by decide) (by decide) ?_ | refine sm_get_p1n (by decide) rfl ?_ | refine sm_get_p2n (by decide) (by decide) rfl ?_ | refine sm_get_p2m (by decide) (by decide) (by decide) ?_)) ?_
  refine Bod.aldnG dc_393_74 (by repeat (first | exact q0 | exact sm_get_p1 | exact sm_get_p2e | refine sm_get_p1m (by decide) (by decide) ?_ | refine sm_get_p1n (by decide) rfl ?_ | refine sm_get_p2n (by decide) (by decide) rfl ?_ | refine sm_get_p2m (by decide) (by decide) (by decide) ?_)) ?_
  refine Bod.get dc_393_75 fr_393_499 (mk_61 _) rfl ?_
  refine Bod.ildnG dc_393_78 (by repeat (first | exact q2 | exact sm_get_p1 | exact sm_get_p2e | refine sm_get_p1m (by decide) (by decide) ?_ | refine sm_get_p1n (by decide) rfl ?_ | refine sm_get_p2n (by decide) (by decide) rfl ?_ | refine sm_get_p2m (by decide) (by decide) (by decide) ?_)) ?_
  refine Bod.laldN ni rfl (by omega) (by omega) dc_393_79 (mk_92 _) ?_
  refine Bod.go dc_393_80 rfl ?_
  refine Bod.eqI (nI o) (by first | exact ho | (simp only [rIn, rIe, rA, rIA, rLA, rJA, rVI, rQI, rVA, rQA, upd_at,  rAI, rLI, rJI, nI_add, pk_sub, kc_0, kc_1, kc_2, kc_3, kc_4, kc_5, reduceIte, Nat.reduceEqDiff, Nat.add_zero, rI_hold, rI_hold, rL_hold]; exact ho)) ?_
  refine Bod.ildnG dc_393_81 (by repeat (first | exact q1 | exact sm_get_p1 | exact sm_get_p2e | refine sm_get_p1m (by decide) (by decide) ?_ | refine sm_get_p1n (by decide) rfl ?_ | refine sm_get_p2n (by decide) (by decide) rfl ?_ | refine sm_get_p2m (by decide) (by decide) (by decide) ?_)) ?_
  refine Bod.virt (r := []) dc_393_82 kr_393_543 ⟨Or.inl rfl, ow_395, cl_14⟩ (by rw [np_395]; rfl) (by rw [np_395]; rfl) (ob_of (mk_61 _)) (Nat.le_of_ble_eq_true rfl) (c1  ) ?_
  show Bod _ _ _ _ [_] _ _ _
  refine Bod.istn dc_393_85 (by rw [ml_393]; exact Nat.le_of_ble_eq_true rfl) ?_
  refine Bod.incN (ni + 1) (by rw [kc_1, nI_add]) dc_393_86 (by rw [ml_393]; exact Nat.le_of_ble_eq_true rfl) (by repeat (first | exact q2 | exact sm_get_p1 | exact sm_get_p2e | refine sm_get_p1m (by decide) (by decide) ?_ | refine sm_get_p1n (by decide) rfl ?_ | refine sm_get_p2n (by decide) (by decide) rfl ?_ | refine sm_get_p2m (by decide) (by decide) (by decide) ?_)) ?_
  refine Bod.go dc_393_89 rfl ?_
  exact hB _ (by repeat (first | exact q0 | exact sm_get_p1 | exact sm_get_p2e | refine sm_get_p1m (by decide) (by decide) ?_ | refine sm_get_p1n (by decide) rfl ?_ | refine sm_get_p2n (by decide) (by decide) rfl ?_ | refine sm_get_p2m (by decide) (by decide) (by decide) ?_)) (by repeat (first | exact q0 | exact sm_get_p1 | exact sm_get_p2e | refine sm_get_p1m (by decide) (by decide) ?_ | refine sm_get_p1n (by decide) rfl ?_ | refine sm_get_p2n (by decide) (by decide) rfl ?_ | refine sm_get_p2m (by decide) (by decide) (by decide) ?_)) (by repeat (first | exact q0 | exact sm_get_p1 | exact sm_get_p2e | refine sm_get_p1m (by decide) (by decide) ?_ | refine sm_get_p1n (by decide) rfl ?_ | refine sm_get_p2n (by decide) (by decide) rfl ?_ | refine sm_get_p2m (by decide) (by decide) (by decide) ?_))
theorem rCoC_1 {d : Nat} {S Sf : cS} {v : Option Value} {lv : sm_L} {nn : Nat} {ni : Nat} {cl : Nat} (q0 : sm_get lv 0 = some (.ref 61)) (q1 : sm_get lv 1 = some (.int (nI nn))) (q2 : sm_get lv 2 = some (.int (nI ni))) (mnn : nn < 2 ^ 20) (mni : ni < 2 ^ 20) (hcl : sI S 6159 = nI cl) (mcl : cl < 32) (b1 : cl ≤ ni) (hB : ∀ lv1 : sm_L, sm_get lv1 0 = some (.ref 61) → sm_get lv1 1 = some (.int (nI nn)) → Bod (d + 8) 393 129 lv1 [] (S) v Sf) : Bod (d + 8) 393 94 lv [] S v Sf := by
  refine Bod.ildnG dc_393_94 (by repeat (first | exact q2 | exact sm_get_p1 | exact sm_get_p2e | refine sm_get_p1m (by decide) (by decide) ?_ | refine sm_get_p1n (by decide) rfl ?_ | refine sm_get_p2n (by decide) (by decide) rfl ?_ | refine sm_get_p2m (by decide) (by decide) (by decide) ?_)) ?_
  refine Bod.aldnG dc_393_95 (by repeat (first | exact q0 | exact sm_get_p1 | exact sm_get_p2e | refine sm_get_p1m (by decide) (by decide) ?_ | refine sm_get_p1n (by decide) rfl ?_ | refine sm_get_p2n (by decide) (by decide) rfl ?_ | refine sm_get_p2m (by decide) (by decide) (by decide) ?_)) ?_
  refine Bod.get dc_393_96 fr_393_502 (mk_61 _) rfl ?_
  refine Bod.eqI (nI cl) (by first | assumption | rfl | exact congrArg nI (by omega) | (simp (disch := omega) only [rIn, rIe, rA, rIA, rLA, rJA, rVI, rQI, rVA, rQA, upd_at,  rAI, rLI, rJI, nI_add, pk_sub, kc_0, kc_1, kc_2, kc_3, kc_4, kc_5, reduceIte, Nat.reduceEqDiff, Nat.add_zero, rI_hold, rI_hold, rL_hold, hcl]; done)) ?_
  refine Bod.icT dc_393_99 rfl (k2_ge_T ni cl rfl rfl (by omega) (by omega)) ?_
  exact hB _ (by repeat (first | exact q0 | exact sm_get_p1 | exact sm_get_p2e | refine sm_get_p1m (by decide) (by decide) ?_ | refine sm_get_p1n (by decide) rfl ?_ | refine sm_get_p2n (by decide) (by decide) rfl ?_ | refine sm_get_p2m (by decide) (by decide) (by decide) ?_)) (by repeat (first | exact q1 | exact sm_get_p1 | exact sm_get_p2e | refine sm_get_p1m (by decide) (by decide) ?_ | refine sm_get_p1n (by decide) rfl ?_ | refine sm_get_p2n (by decide) (by decide) rfl ?_ | refine sm_get_p2m (by decide) (by decide) (by decide) ?_))
theorem rCoC_2 {d : Nat} {S Sf : cS} {v : Option Value} {lv : sm_L} {nn : Nat} {ni : Nat} {cl : Nat} {e96 : Nat} {S1 : cS} {a : Nat} (q0 : sm_get lv 0 = some (.ref 61)) (q1 : sm_get lv 1 = some (.int (nI nn))) (q2 : sm_get lv 2 = some (.int (nI ni))) (mnn : nn < 2 ^ 20) (mni : ni < 2 ^ 20) (hcl : sI S 6159 = nI cl) (mcl : cl < 32) (b1 : ni < cl) (b2 : ni < 31) (he96 : sA S 96 ni = nI e96) (me96 : e96 < 2 ^ 20) (ma : a < 2 ^ 20) (c1 : Ans (d + 8) 395 [.ref 61, .int (nI e96), .int (nI nn)] S (some (.int (nI a))) S1) (hB : ∀ lv1 : sm_L, sm_get lv1 0 = some (.ref 61) → sm_get lv1 1 = some (.int (nI a)) → sm_get lv1 2 = some (.int (nI (ni + 1))) → Bod (d + 8) 393 94 lv1 [] (S1) v Sf) : Bod (d + 8) 393 94 lv [] S v Sf := by
  refine Bod.ildnG dc_393_94 (by repeat (first | exact q2 | exact sm_get_p1 | exact sm_get_p2e | refine sm_get_p1m (by decide) (by decide) ?_ | refine sm_get_p1n (by decide) rfl ?_ | refine sm_get_p2n (by decide) (by decide) rfl ?_ | refine sm_get_p2m (by decide) (by decide) (by decide) ?_)) ?_
  refine Bod.aldnG dc_393_95 (by repeat (first | exact q0 | exact sm_get_p1 | exact sm_get_p2e | refine sm_get_p1m (by decide) (by decide) ?_ | refine sm_get_p1n (by decide) rfl ?_ | refine sm_get_p2n (by decide) (by decide) rfl ?_ | refine sm_get_p2m (by decide) (by decide) (by decide) ?_)) ?_
  refine Bod.get dc_393_96 fr_393_502 (mk_61 _) rfl ?_
  refine Bod.eqI (nI cl) (by first | assumption | rfl | exact congrArg nI (by omega) | (simp (disch := omega) only [rIn, rIe, rA, rIA, rLA, rJA, rVI, rQI, rVA, rQA, upd_at,  rAI, rLI, rJI, nI_add, pk_sub, kc_0, kc_1, kc_2, kc_3, kc_4, kc_5, reduceIte, Nat.reduceEqDiff, Nat.add_zero, rI_hold, rI_hold, rL_hold, hcl]; done)) ?_
  refine Bod.icF dc_393_99 rfl (k2_ge_F ni cl rfl rfl (by omega) (by omega)) ?_
  refine Bod.aldnG dc_393_102 (by repeat (first | exact q0 | exact sm_get_p1 | exact sm_get_p2e | refine sm_get_p1m (by decide) (by decide) ?_ | refine sm_get_p1n (by decide) rfl ?_ | refine sm_get_p2n (by decide) (by decide) rfl ?_ | refine sm_get_p2m (by decide) (by decide) (by decide) ?_)) ?_
  refine Bod.get dc_393_103 fr_393_505 (mk_61 _) rfl ?_
  refine Bod.ildnG dc_393_106 (by repeat (first | exact q2 | exact sm_get_p1 | exact sm_get_p2e | refine sm_get_p1m (by decide) (by decide) ?_ | refine sm_get_p1n (by decide) rfl ?_ | refine sm_get_p2n (by decide) (by decide) rfl ?_ | refine sm_get_p2m (by decide) (by decide) (by decide) ?_)) ?_
  refine Bod.ialdN ni rfl (by omega) (by omega) dc_393_107 (mk_96 _) ?_
  refine Bod.eqI (nI e96) (by first | assumption | rfl | exact congrArg nI (by omega) | (simp (disch := omega) only [rIn, rIe, rA, rIA, rLA, rJA, rVI, rQI, rVA, rQA, upd_at,  rAI, rLI, rJI, nI_add, pk_sub, kc_0, kc_1, kc_2, kc_3, kc_4, kc_5, reduceIte, Nat.reduceEqDiff, Nat.add_zero, rI_hold, rI_hold, rL_hold, hcl, he96]; done)) ?_
  refine Bod.ifF dc_393_108 rfl (k1_lt_F e96 rfl (by omega)) ?_
  refine Bod.aldnG dc_393_111 (by repeat (first | exact q0 | exact sm_get_p1 | exact sm_get_p2e | refine sm_get_p1m (by decide) (by decide) ?_ | refine sm_get_p1n (by decide) rfl ?_ | refine sm_get_p2n (by decide) (by decide) rfl ?_ | refine sm_get_p2m (by decide) (by decide) (by decide) ?_)) ?_
  refine Bod.aldnG dc_393_112 (by repeat (first | exact q0 | exact sm_get_p1 | exact sm_get_p2e | refine sm_get_p1m (by decide) (by decide) ?_ | refine sm_get_p1n (by decide) rfl ?_ | refine sm_get_p2n (by decide) (by decide) rfl ?_ | refine sm_get_p2m (by decide) (by decide) (by decide) ?_)) ?_
  refine Bod.get dc_393_113 fr_393_505 (mk_61 _) rfl ?_
  refine Bod.ildnG dc_393_116 (by repeat (first | exact q2 | exact sm_get_p1 | exact sm_get_p2e | refine sm_get_p1m (by decide) (by decide) ?_ | refine sm_get_p1n (by decide) rfl ?_ | refine sm_get_p2n (by decide) (by decide) rfl ?_ | refine sm_get_p2m (by decide) (by decide) (by decide) ?_)) ?_
  refine Bod.ialdN ni rfl (by omega) (by omega) dc_393_117 (mk_96 _) ?_
  refine Bod.eqI (nI e96) (by first | assumption | rfl | exact congrArg nI (by omega) | (simp (disch := omega) only [rIn, rIe, rA, rIA, rLA, rJA, rVI, rQI, rVA, rQA, upd_at,  rAI, rLI, rJI, nI_add, pk_sub, kc_0, kc_1, kc_2, kc_3, kc_4, kc_5, reduceIte, Nat.reduceEqDiff, Nat.add_zero, rI_hold, rI_hold, rL_hold, hcl, he96]; done)) ?_
  refine Bod.ildnG dc_393_118 (by repeat (first | exact q1 | exact sm_get_p1 | exact sm_get_p2e | refine sm_get_p1m (by decide) (by decide) ?_ | refine sm_get_p1n (by decide) rfl ?_ | refine sm_get_p2n (by decide) (by decide) rfl ?_ | refine sm_get_p2m (by decide) (by decide) (by decide) ?_)) ?_
  refine Bod.virt (r := []) dc_393_119 kr_393_543 ⟨Or.inl rfl, ow_395, cl_14⟩ (by rw [np_395]; rfl) (by rw [np_395]; rfl) (ob_of (mk_61 _)) (Nat.le_of_ble_eq_true rfl) (c1  ) ?_
  show Bod _ _ _ _ [_] _ _ _
  refine Bod.istn dc_393_122 (by rw [ml_393]; exact Nat.le_of_ble_eq_true rfl) ?_
  refine Bod.incN (ni + 1) (by rw [kc_1, nI_add]) dc_393_123 (by rw [ml_393]; exact Nat.le_of_ble_eq_true rfl) (by repeat (first | exact q2 | exact sm_get_p1 | exact sm_get_p2e | refine sm_get_p1m (by decide) (by decide) ?_ | refine sm_get_p1n (by decide) rfl ?_ | refine sm_get_p2n (by decide) (by decide) rfl ?_ | refine sm_get_p2m (by decide) (by decide) (by decide) ?_)) ?_
  refine Bod.go dc_393_126 rfl ?_
  exact hB _ (by repeat (first | exact q0 | exact sm_get_p1 | exact sm_get_p2e | refine sm_get_p1m (by decide) (by decide) ?_ | refine sm_get_p1n (by decide) rfl ?_ | refine sm_get_p2n (by decide) (by decide) rfl ?_ | refine sm_get_p2m (by decide) (by decide) (by decide) ?_)) (by repeat (first | exact q0 | exact sm_get_p1 | exact sm_get_p2e | refine sm_get_p1m (by decide) (by decide) ?_ | refine sm_get_p1n (by decide) rfl ?_ | refine sm_get_p2n (by decide) (by decide) rfl ?_ | refine sm_get_p2m (by decide) (by decide) (by decide) ?_)) (by repeat (first | exact q0 | exact sm_get_p1 | exact sm_get_p2e | refine sm_get_p1m (by decide) (by decide) ?_ | refine sm_get_p1n (by decide) rfl ?_ | refine sm_get_p2n (by decide) (by decide) rfl ?_ | refine sm_get_p2m (by decide) (by decide) (by decide) ?_))
theorem rCoC_3 {d : Nat} {S Sf : cS} {v : Option Value} {lv : sm_L} {nn : Nat} {ni : Nat} {cl : Nat} (q0 : sm_get lv 0 = some (.ref 61)) (q1 : sm_get lv 1 = some (.int (nI nn))) (q2 : sm_get lv 2 = some (.int (nI ni))) (mnn : nn < 2 ^ 20) (mni : ni < 2 ^ 20) (hcl : sI S 6159 = nI cl) (mcl : cl < 32) (b1 : ni < cl) (b2 : ni < 31) (n3 : sA S 96 ni = Int32.ofInt (-1)) (hB : ∀ lv1 : sm_L, sm_get lv1 0 = some (.ref 61) → sm_get lv1 1 = some (.int (nI nn)) → sm_get lv1 2 = some (.int (nI (ni + 1))) → Bod (d + 8) 393 94 lv1 [] (S) v Sf) : Bod (d + 8) 393 94 lv [] S v Sf := by
  refine Bod.ildnG dc_393_94 (by repeat (first | exact q2 | exact sm_get_p1 | exact sm_get_p2e | refine sm_get_p1m (by decide) (by decide) ?_ | refine sm_get_p1n (by decide) rfl ?_ | refine sm_get_p2n (by decide) (by decide) rfl ?_ | refine sm_get_p2m (by decide) (by decide) (by decide) ?_)) ?_
  refine Bod.aldnG dc_393_95 (by repeat (first | exact q0 | exact sm_get_p1 | exact sm_get_p2e | refine sm_get_p1m (by decide) (by decide) ?_ | refine sm_get_p1n (by decide) rfl ?_ | refine sm_get_p2n (by decide) (by decide) rfl ?_ | refine sm_get_p2m (by decide) (by decide) (by decide) ?_)) ?_
  refine Bod.get dc_393_96 fr_393_502 (mk_61 _) rfl ?_
  refine Bod.eqI (nI cl) (by first | assumption | rfl | exact congrArg nI (by omega) | (simp (disch := omega) only [rIn, rIe, rA, rIA, rLA, rJA, rVI, rQI, rVA, rQA, upd_at,  rAI, rLI, rJI, nI_add, pk_sub, kc_0, kc_1, kc_2, kc_3, kc_4, kc_5, reduceIte, Nat.reduceEqDiff, Nat.add_zero, rI_hold, rI_hold, rL_hold, hcl]; done)) ?_
  refine Bod.icF dc_393_99 rfl (k2_ge_F ni cl rfl rfl (by omega) (by omega)) ?_
  refine Bod.aldnG dc_393_102 (by repeat (first | exact q0 | exact sm_get_p1 | exact sm_get_p2e | refine sm_get_p1m (by decide) (by decide) ?_ | refine sm_get_p1n (by decide) rfl ?_ | refine sm_get_p2n (by decide) (by decide) rfl ?_ | refine sm_get_p2m (by decide) (by decide) (by decide) ?_)) ?_
  refine Bod.get dc_393_103 fr_393_505 (mk_61 _) rfl ?_
  refine Bod.ildnG dc_393_106 (by repeat (first | exact q2 | exact sm_get_p1 | exact sm_get_p2e | refine sm_get_p1m (by decide) (by decide) ?_ | refine sm_get_p1n (by decide) rfl ?_ | refine sm_get_p2n (by decide) (by decide) rfl ?_ | refine sm_get_p2m (by decide) (by decide) (by decide) ?_)) ?_
  refine Bod.ialdN ni rfl (by omega) (by omega) dc_393_107 (mk_96 _) ?_
  refine Bod.eqI (Int32.ofInt (-1)) (by first | assumption | rfl | exact congrArg nI (by omega) | (simp (disch := omega) only [rIn, rIe, rA, rIA, rLA, rJA, rVI, rQI, rVA, rQA, upd_at,  rAI, rLI, rJI, nI_add, pk_sub, kc_0, kc_1, kc_2, kc_3, kc_4, kc_5, reduceIte, Nat.reduceEqDiff, Nat.add_zero, rI_hold, rI_hold, rL_hold, hcl, n3]; done)) ?_
  refine Bod.ifT dc_393_108 rfl (by decide) ?_
  refine Bod.incN (ni + 1) (by rw [kc_1, nI_add]) dc_393_123 (by rw [ml_393]; exact Nat.le_of_ble_eq_true rfl) (by repeat (first | exact q2 | exact sm_get_p1 | exact sm_get_p2e | refine sm_get_p1m (by decide) (by decide) ?_ | refine sm_get_p1n (by decide) rfl ?_ | refine sm_get_p2n (by decide) (by decide) rfl ?_ | refine sm_get_p2m (by decide) (by decide) (by decide) ?_)) ?_
  refine Bod.go dc_393_126 rfl ?_
  exact hB _ (by repeat (first | exact q0 | exact sm_get_p1 | exact sm_get_p2e | refine sm_get_p1m (by decide) (by decide) ?_ | refine sm_get_p1n (by decide) rfl ?_ | refine sm_get_p2n (by decide) (by decide) rfl ?_ | refine sm_get_p2m (by decide) (by decide) (by decide) ?_)) (by repeat (first | exact q1 | exact sm_get_p1 | exact sm_get_p2e | refine sm_get_p1m (by decide) (by decide) ?_ | refine sm_get_p1n (by decide) rfl ?_ | refine sm_get_p2n (by decide) (by decide) rfl ?_ | refine sm_get_p2m (by decide) (by decide) (by decide) ?_)) (by repeat (first | exact q0 | exact sm_get_p1 | exact sm_get_p2e | refine sm_get_p1m (by decide) (by decide) ?_ | refine sm_get_p1n (by decide) rfl ?_ | refine sm_get_p2n (by decide) (by decide) rfl ?_ | refine sm_get_p2m (by decide) (by decide) (by decide) ?_))
theorem rCoD_1 {d : Nat} {S Sf : cS} {v : Option Value} {lv : sm_L} {nn : Nat} (q0 : sm_get lv 0 = some (.ref 61)) (q1 : sm_get lv 1 = some (.int (nI (nn + 1)))) (mnn : nn < 2 ^ 20) (b1 : (nn + 1) ≤ 0) (hB : ∀ lv1 : sm_L, sm_get lv1 0 = some (.ref 61) → sm_get lv1 2 = some (.int (nI 0)) → sm_get lv1 3 = some (.int (nI 0)) → Bod (d + 8) 393 228 lv1 [] (S) v Sf) : Bod (d + 8) 393 129 lv [] S v Sf := by
  refine Bod.ildnG dc_393_129 (by repeat (first | exact q1 | exact sm_get_p1 | exact sm_get_p2e | refine sm_get_p1m (by decide) (by decide) ?_ | refine sm_get_p1n (by decide) rfl ?_ | refine sm_get_p2n (by decide) (by decide) rfl ?_ | refine sm_get_p2m (by decide) (by decide) (by decide) ?_)) ?_
  refine Bod.ifT dc_393_130 rfl (k1_le_T (k_eq (nn + 1) 0 (by first | assumption | rfl | exact congrArg nI (by omega) | (simp (disch := omega) only [rIn, rIe, rA, rIA, rLA, rJA, rVI, rQI, rVA, rQA, upd_at,  rAI, rLI, rJI, nI_add, pk_sub, kc_0, kc_1, kc_2, kc_3, kc_4, kc_5, reduceIte, Nat.reduceEqDiff, Nat.add_zero, rI_hold, rI_hold, rL_hold]; done)) rfl (by omega))) ?_
  refine Bod.ic 0 (by decide) dc_393_224 ?_
  refine Bod.istn dc_393_225 (by rw [ml_393]; exact Nat.le_of_ble_eq_true rfl) ?_
  refine Bod.ic 0 (by decide) dc_393_226 ?_
  refine Bod.istn dc_393_227 (by rw [ml_393]; exact Nat.le_of_ble_eq_true rfl) ?_
  exact hB _ (by repeat (first | exact q0 | exact sm_get_p1 | exact sm_get_p2e | refine sm_get_p1m (by decide) (by decide) ?_ | refine sm_get_p1n (by decide) rfl ?_ | refine sm_get_p2n (by decide) (by decide) rfl ?_ | refine sm_get_p2m (by decide) (by decide) (by decide) ?_)) (by repeat (first | exact q0 | exact sm_get_p1 | exact sm_get_p2e | refine sm_get_p1m (by decide) (by decide) ?_ | refine sm_get_p1n (by decide) rfl ?_ | refine sm_get_p2n (by decide) (by decide) rfl ?_ | refine sm_get_p2m (by decide) (by decide) (by decide) ?_)) (by repeat (first | exact q0 | exact sm_get_p1 | exact sm_get_p2e | refine sm_get_p1m (by decide) (by decide) ?_ | refine sm_get_p1n (by decide) rfl ?_ | refine sm_get_p2n (by decide) (by decide) rfl ?_ | refine sm_get_p2m (by decide) (by decide) (by decide) ?_))
theorem rCoD_2 {d : Nat} {S Sf : cS} {v : Option Value} {lv : sm_L} {nn : Nat} {e90 : Nat} {g : Nat} {zg : Nat} (q0 : sm_get lv 0 = some (.ref 61)) (q1 : sm_get lv 1 = some (.int (nI (nn + 1)))) (mnn : nn < 2 ^ 20) (b1 : 0 < (nn + 1)) (b2 : nn < 1500) (he90 : sA S 90 nn = nI e90) (me90 : e90 < 2 ^ 20) (b3 : e90 < 1500) (ag : 108 ≤ g) (hq2 : sQ S 86 e90 = some g) (hB : ∀ lv1 : sm_L, sm_get lv1 0 = some (.ref 61) → sm_get lv1 1 = some (.int (nI nn)) → sm_get lv1 2 = some (.ref g) → sm_get lv1 3 = some (.int (nI 0)) → Bod (d + 8) 393 150 lv1 [] (S) v Sf) : Bod (d + 8) 393 129 lv [] S v Sf := by
  refine Bod.ildnG dc_393_129 (by repeat (first | exact q1 | exact sm_get_p1 | exact sm_get_p2e | refine sm_get_p1m (by decide) (by decide) ?_ | refine sm_get_p1n (by decide) rfl ?_ | refine sm_get_p2n (by decide) (by decide) rfl ?_ | refine sm_get_p2m (by decide) (by decide) (by decide) ?_)) ?_
  refine Bod.ifF dc_393_130 rfl (k1_le_F (nn + 1) rfl (by omega) (by omega)) ?_
  refine Bod.incN nn nI_dec dc_393_133 (by rw [ml_393]; exact Nat.le_of_ble_eq_true rfl) (by repeat (first | exact q1 | exact sm_get_p1 | exact sm_get_p2e | refine sm_get_p1m (by decide) (by decide) ?_ | refine sm_get_p1n (by decide) rfl ?_ | refine sm_get_p2n (by decide) (by decide) rfl ?_ | refine sm_get_p2m (by decide) (by decide) (by decide) ?_)) ?_
  refine Bod.aldnG dc_393_136 (by repeat (first | exact q0 | exact sm_get_p1 | exact sm_get_p2e | refine sm_get_p1m (by decide) (by decide) ?_ | refine sm_get_p1n (by decide) rfl ?_ | refine sm_get_p2n (by decide) (by decide) rfl ?_ | refine sm_get_p2m (by decide) (by decide) (by decide) ?_)) ?_
  refine Bod.get dc_393_137 fr_393_485 (mk_61 _) rfl ?_
  refine Bod.aldnG dc_393_140 (by repeat (first | exact q0 | exact sm_get_p1 | exact sm_get_p2e | refine sm_get_p1m (by decide) (by decide) ?_ | refine sm_get_p1n (by decide) rfl ?_ | refine sm_get_p2n (by decide) (by decide) rfl ?_ | refine sm_get_p2m (by decide) (by decide) (by decide) ?_)) ?_
  refine Bod.get dc_393_141 fr_393_514 (mk_61 _) rfl ?_
  refine Bod.ildnG dc_393_144 (by repeat (first | exact q0 | exact sm_get_p1 | exact sm_get_p2e | refine sm_get_p1m (by decide) (by decide) ?_ | refine sm_get_p1n (by decide) rfl ?_ | refine sm_get_p2n (by decide) (by decide) rfl ?_ | refine sm_get_p2m (by decide) (by decide) (by decide) ?_)) ?_
  refine Bod.ialdN nn rfl (by omega) (by omega) dc_393_145 (mk_90 _) ?_
  refine Bod.eqI (nI e90) (by first | assumption | rfl | exact congrArg nI (by omega) | (simp (disch := omega) only [rIn, rIe, rA, rIA, rLA, rJA, rVI, rQI, rVA, rQA, upd_at,  rAI, rLI, rJI, nI_add, pk_sub, kc_0, kc_1, kc_2, kc_3, kc_4, kc_5, reduceIte, Nat.reduceEqDiff, Nat.add_zero, rI_hold, rI_hold, rL_hold, he90]; done)) ?_
  refine Bod.aaldR (N := 1500) (b := g) e90 rfl (by omega) (by omega) (by first | exact hq2 | (simp only [rIQ, rJQ, rAQ, rLQ, rVQ, rQ_holdE]; exact hq2)) dc_393_146 (mk_86 _) ht_5 ?_
  refine Bod.astn dc_393_147 (by rw [ml_393]; exact Nat.le_of_ble_eq_true rfl) ?_
  refine Bod.ic 0 (by decide) dc_393_148 ?_
  refine Bod.istn dc_393_149 (by rw [ml_393]; exact Nat.le_of_ble_eq_true rfl) ?_
  exact hB _ (by repeat (first | exact q0 | exact sm_get_p1 | exact sm_get_p2e | refine sm_get_p1m (by decide) (by decide) ?_ | refine sm_get_p1n (by decide) rfl ?_ | refine sm_get_p2n (by decide) (by decide) rfl ?_ | refine sm_get_p2m (by decide) (by decide) (by decide) ?_)) (by repeat (first | exact q0 | exact sm_get_p1 | exact sm_get_p2e | refine sm_get_p1m (by decide) (by decide) ?_ | refine sm_get_p1n (by decide) rfl ?_ | refine sm_get_p2n (by decide) (by decide) rfl ?_ | refine sm_get_p2m (by decide) (by decide) (by decide) ?_)) (by repeat (first | exact q0 | exact sm_get_p1 | exact sm_get_p2e | refine sm_get_p1m (by decide) (by decide) ?_ | refine sm_get_p1n (by decide) rfl ?_ | refine sm_get_p2n (by decide) (by decide) rfl ?_ | refine sm_get_p2m (by decide) (by decide) (by decide) ?_)) (by repeat (first | exact q0 | exact sm_get_p1 | exact sm_get_p2e | refine sm_get_p1m (by decide) (by decide) ?_ | refine sm_get_p1n (by decide) rfl ?_ | refine sm_get_p2n (by decide) (by decide) rfl ?_ | refine sm_get_p2m (by decide) (by decide) (by decide) ?_))
theorem rCoZ_1 {d : Nat} {S Sf : cS} {v : Option Value} {lv : sm_L} (q0 : sm_get lv 0 = some (.ref 61)) (q1 : sm_get lv 1 = some (.int (nI 0))) (hB : ∀ lv1 : sm_L, sm_get lv1 0 = some (.ref 61) → sm_get lv1 2 = some (.int (nI 0)) → sm_get lv1 3 = some (.int (nI 0)) → Bod (d + 8) 393 228 lv1 [] (S) v Sf) : Bod (d + 8) 393 129 lv [] S v Sf := by
  refine Bod.ildnG dc_393_129 (by repeat (first | exact q1 | exact sm_get_p1 | exact sm_get_p2e | refine sm_get_p1m (by decide) (by decide) ?_ | refine sm_get_p1n (by decide) rfl ?_ | refine sm_get_p2n (by decide) (by decide) rfl ?_ | refine sm_get_p2m (by decide) (by decide) (by decide) ?_)) ?_
  refine Bod.ifT dc_393_130 rfl (k1_le_T (k_eq 0 0 (by first | assumption | rfl | exact congrArg nI (by omega) | (simp (disch := omega) only [rIn, rIe, rA, rIA, rLA, rJA, rVI, rQI, rVA, rQA, upd_at,  rAI, rLI, rJI, nI_add, pk_sub, kc_0, kc_1, kc_2, kc_3, kc_4, kc_5, reduceIte, Nat.reduceEqDiff, Nat.add_zero, rI_hold, rI_hold, rL_hold]; done)) rfl (by omega))) ?_
  refine Bod.ic 0 (by decide) dc_393_224 ?_
  refine Bod.istn dc_393_225 (by rw [ml_393]; exact Nat.le_of_ble_eq_true rfl) ?_
  refine Bod.ic 0 (by decide) dc_393_226 ?_
  refine Bod.istn dc_393_227 (by rw [ml_393]; exact Nat.le_of_ble_eq_true rfl) ?_
  exact hB _ (by repeat (first | exact q0 | exact sm_get_p1 | exact sm_get_p2e | refine sm_get_p1m (by decide) (by decide) ?_ | refine sm_get_p1n (by decide) rfl ?_ | refine sm_get_p2n (by decide) (by decide) rfl ?_ | refine sm_get_p2m (by decide) (by decide) (by decide) ?_)) (by repeat (first | exact q0 | exact sm_get_p1 | exact sm_get_p2e | refine sm_get_p1m (by decide) (by decide) ?_ | refine sm_get_p1n (by decide) rfl ?_ | refine sm_get_p2n (by decide) (by decide) rfl ?_ | refine sm_get_p2m (by decide) (by decide) (by decide) ?_)) (by repeat (first | exact q0 | exact sm_get_p1 | exact sm_get_p2e | refine sm_get_p1m (by decide) (by decide) ?_ | refine sm_get_p1n (by decide) rfl ?_ | refine sm_get_p2n (by decide) (by decide) rfl ?_ | refine sm_get_p2m (by decide) (by decide) (by decide) ?_))
theorem rCoE_1 {d : Nat} {S Sf : cS} {v : Option Value} {lv : sm_L} {g : Nat} {zg : Nat} {nn : Nat} {ni : Nat} {fd1 : Nat} {fd11 : Nat} {S1 : cS} {a : Nat} {fd12 : Nat} {S2 : cS} {a1 : Nat} (q0 : sm_get lv 0 = some (.ref 61)) (q1 : sm_get lv 1 = some (.int (nI nn))) (q2 : sm_get lv 2 = some (.ref g)) (q3 : sm_get lv 3 = some (.int (nI ni))) (mnn : nn < 2 ^ 20) (mni : ni < 2 ^ 20) (ag : 108 ≤ g) (hz1 : (sS S)[g - 108]? = some (13, zg)) (hfd1 : sI S (100 * g + 1) = nI fd1) (mfd1 : fd1 < 2 ^ 20) (b1 : fd1 ≤ ni) (hfd11 : sI S (100 * g + 11) = nI fd11) (mfd11 : fd11 < 2 ^ 20) (ma : a < 2 ^ 20) (c1 : Ans (d + 8) 395 [.ref 61, .int (nI fd11), .int (nI nn)] S (some (.int (nI a))) S1) (hz2 : (sS S1)[g - 108]? = some (13, zg)) (hfd12 : sI S1 (100 * g + 12) = nI fd12) (mfd12 : fd12 < 2 ^ 20) (ma1 : a1 < 2 ^ 20) (c2 : Ans (d + 8) 395 [.ref 61, .int (nI fd12), .int (nI a)] S1 (some (.int (nI a1))) S2) (hB : ∀ lv1 : sm_L, sm_get lv1 0 = some (.ref 61) → sm_get lv1 1 = some (.int (nI a1)) → Bod (d + 8) 393 129 lv1 [] (S2) v Sf) : Bod (d + 8) 393 150 lv [] S v Sf := by
  refine Bod.ildnG dc_393_150 (by repeat (first | exact q3 | exact sm_get_p1 | exact sm_get_p2e | refine sm_get_p1m (by decide) (by decide) ?_ | refine sm_get_p1n (by decide) rfl ?_ | refine sm_get_p2n (by decide) (by decide) rfl ?_ | refine sm_get_p2m (by decide) (by decide) (by decide) ?_)) ?_
  refine Bod.aldnG dc_393_151 (by repeat (first | exact q2 | exact sm_get_p1 | exact sm_get_p2e | refine sm_get_p1m (by decide) (by decide) ?_ | refine sm_get_p1n (by decide) rfl ?_ | refine sm_get_p2n (by decide) (by decide) rfl ?_ | refine sm_get_p2m (by decide) (by decide) (by decide) ?_)) ?_
  refine Bod.get dc_393_152 fr_393_459 (mk_thing ag (by first | exact hz1 | (simp only [rIS, rJS, rAS, rLS, rVS, rQS, rS_hold]; exact hz1))) rfl ?_
  refine Bod.eqI (nI fd1) (by first | assumption | rfl | exact congrArg nI (by omega) | (simp (disch := omega) only [rIn, rIe, rA, rIA, rLA, rJA, rVI, rQI, rVA, rQA, upd_at,  rAI, rLI, rJI, nI_add, pk_sub, kc_0, kc_1, kc_2, kc_3, kc_4, kc_5, reduceIte, Nat.reduceEqDiff, Nat.add_zero, rI_hold, rI_hold, rL_hold, hfd1]; done)) ?_
  refine Bod.icT dc_393_155 rfl (k2_ge_T ni fd1 rfl rfl (by omega) (by omega)) ?_
  refine Bod.aldnG dc_393_187 (by repeat (first | exact q2 | exact sm_get_p1 | exact sm_get_p2e | refine sm_get_p1m (by decide) (by decide) ?_ | refine sm_get_p1n (by decide) rfl ?_ | refine sm_get_p2n (by decide) (by decide) rfl ?_ | refine sm_get_p2m (by decide) (by decide) (by decide) ?_)) ?_
  refine Bod.get dc_393_188 fr_393_472 (mk_thing ag (by first | exact hz1 | (simp only [rIS, rJS, rAS, rLS, rVS, rQS, rS_hold]; exact hz1))) rfl ?_
  refine Bod.eqI (nI fd11) (by first | assumption | rfl | exact congrArg nI (by omega) | (simp (disch := omega) only [rIn, rIe, rA, rIA, rLA, rJA, rVI, rQI, rVA, rQA, upd_at,  rAI, rLI, rJI, nI_add, pk_sub, kc_0, kc_1, kc_2, kc_3, kc_4, kc_5, reduceIte, Nat.reduceEqDiff, Nat.add_zero, rI_hold, rI_hold, rL_hold, hfd1, hfd11]; done)) ?_
  refine Bod.ifF dc_393_191 rfl (k1_lt_F fd11 rfl (by omega)) ?_
  refine Bod.aldnG dc_393_194 (by repeat (first | exact q0 | exact sm_get_p1 | exact sm_get_p2e | refine sm_get_p1m (by decide) (by decide) ?_ | refine sm_get_p1n (by decide) rfl ?_ | refine sm_get_p2n (by decide) (by decide) rfl ?_ | refine sm_get_p2m (by decide) (by decide) (by decide) ?_)) ?_
  refine Bod.aldnG dc_393_195 (by repeat (first | exact q2 | exact sm_get_p1 | exact sm_get_p2e | refine sm_get_p1m (by decide) (by decide) ?_ | refine sm_get_p1n (by decide) rfl ?_ | refine sm_get_p2n (by decide) (by decide) rfl ?_ | refine sm_get_p2m (by decide) (by decide) (by decide) ?_)) ?_
  refine Bod.get dc_393_196 fr_393_472 (mk_thing ag (by first | exact hz1 | (simp only [rIS, rJS, rAS, rLS, rVS, rQS, rS_hold]; exact hz1))) rfl ?_
  refine Bod.eqI (nI fd11) (by first | assumption | rfl | exact congrArg nI (by omega) | (simp (disch := omega) only [rIn, rIe, rA, rIA, rLA, rJA, rVI, rQI, rVA, rQA, upd_at,  rAI, rLI, rJI, nI_add, pk_sub, kc_0, kc_1, kc_2, kc_3, kc_4, kc_5, reduceIte, Nat.reduceEqDiff, Nat.add_zero, rI_hold, rI_hold, rL_hold, hfd1, hfd11]; done)) ?_
  refine Bod.ildnG dc_393_199 (by repeat (first | exact q1 | exact sm_get_p1 | exact sm_get_p2e | refine sm_get_p1m (by decide) (by decide) ?_ | refine sm_get_p1n (by decide) rfl ?_ | refine sm_get_p2n (by decide) (by decide) rfl ?_ | refine sm_get_p2m (by decide) (by decide) (by decide) ?_)) ?_
  refine Bod.virt (r := []) dc_393_200 kr_393_543 ⟨Or.inl rfl, ow_395, cl_14⟩ (by rw [np_395]; rfl) (by rw [np_395]; rfl) (ob_of (mk_61 _)) (Nat.le_of_ble_eq_true rfl) (c1  ) ?_
  show Bod _ _ _ _ [_] _ _ _
  refine Bod.istn dc_393_203 (by rw [ml_393]; exact Nat.le_of_ble_eq_true rfl) ?_
  refine Bod.aldnG dc_393_204 (by repeat (first | exact q2 | exact sm_get_p1 | exact sm_get_p2e | refine sm_get_p1m (by decide) (by decide) ?_ | refine sm_get_p1n (by decide) rfl ?_ | refine sm_get_p2n (by decide) (by decide) rfl ?_ | refine sm_get_p2m (by decide) (by decide) (by decide) ?_)) ?_
  refine Bod.get dc_393_205 fr_393_475 (mk_thing ag (by first | exact hz2 | (simp only [rIS, rJS, rAS, rLS, rVS, rQS, rS_hold]; exact hz2))) rfl ?_
  refine Bod.eqI (nI fd12) (by first | assumption | (simp (disch := omega) only [rIn, rIe, rA, rIA, rLA, rJA, rVI, rQI, rVA, rQA, upd_at,  rAI, rLI, rJI, nI_add, pk_sub, kc_0, kc_1, kc_2, kc_3, kc_4, kc_5, reduceIte, Nat.reduceEqDiff, Nat.add_zero, rI_hold, rI_hold, rL_hold, hfd1, hfd11, hfd12]; done) | (simp (disch := omega) only [rIn, rIe, rA, rIA, rLA, rJA, rVI, rQI, rVA, rQA, upd_at,  rAI, rLI, rJI, nI_add, pk_sub, kc_0, kc_1, kc_2, kc_3, kc_4, kc_5, reduceIte, Nat.reduceEqDiff, Nat.add_zero, rI_hold, rI_hold, rL_hold, hfd1, hfd11, hfd12]; exact congrArg nI (by omega))) ?_
  refine Bod.ifF dc_393_208 rfl (k1_lt_F fd12 rfl (by omega)) ?_
  refine Bod.aldnG dc_393_211 (by repeat (first | exact q0 | exact sm_get_p1 | exact sm_get_p2e | refine sm_get_p1m (by decide) (by decide) ?_ | refine sm_get_p1n (by decide) rfl ?_ | refine sm_get_p2n (by decide) (by decide) rfl ?_ | refine sm_get_p2m (by decide) (by decide) (by decide) ?_)) ?_
  refine Bod.aldnG dc_393_212 (by repeat (first | exact q2 | exact sm_get_p1 | exact sm_get_p2e | refine sm_get_p1m (by decide) (by decide) ?_ | refine sm_get_p1n (by decide) rfl ?_ | refine sm_get_p2n (by decide) (by decide) rfl ?_ | refine sm_get_p2m (by decide) (by decide) (by decide) ?_)) ?_
  refine Bod.get dc_393_213 fr_393_475 (mk_thing ag (by first | exact hz2 | (simp only [rIS, rJS, rAS, rLS, rVS, rQS, rS_hold]; exact hz2))) rfl ?_
  refine Bod.eqI (nI fd12) (by first | assumption | (simp (disch := omega) only [rIn, rIe, rA, rIA, rLA, rJA, rVI, rQI, rVA, rQA, upd_at,  rAI, rLI, rJI, nI_add, pk_sub, kc_0, kc_1, kc_2, kc_3, kc_4, kc_5, reduceIte, Nat.reduceEqDiff, Nat.add_zero, rI_hold, rI_hold, rL_hold, hfd1, hfd11, hfd12]; done) | (simp (disch := omega) only [rIn, rIe, rA, rIA, rLA, rJA, rVI, rQI, rVA, rQA, upd_at,  rAI, rLI, rJI, nI_add, pk_sub, kc_0, kc_1, kc_2, kc_3, kc_4, kc_5, reduceIte, Nat.reduceEqDiff, Nat.add_zero, rI_hold, rI_hold, rL_hold, hfd1, hfd11, hfd12]; exact congrArg nI (by omega))) ?_
  refine Bod.ildnG dc_393_216 (by repeat (first | exact q0 | exact sm_get_p1 | exact sm_get_p2e | refine sm_get_p1m (by decide) (by decide) ?_ | refine sm_get_p1n (by decide) rfl ?_ | refine sm_get_p2n (by decide) (by decide) rfl ?_ | refine sm_get_p2m (by decide) (by decide) (by decide) ?_)) ?_
  refine Bod.virt (r := []) dc_393_217 kr_393_543 ⟨Or.inl rfl, ow_395, cl_14⟩ (by rw [np_395]; rfl) (by rw [np_395]; rfl) (ob_of (mk_61 _)) (Nat.le_of_ble_eq_true rfl) (c2  ) ?_
  show Bod _ _ _ _ [_] _ _ _
  refine Bod.istn dc_393_220 (by rw [ml_393]; exact Nat.le_of_ble_eq_true rfl) ?_
  refine Bod.go dc_393_221 rfl ?_
  exact hB _ (by repeat (first | exact q0 | exact sm_get_p1 | exact sm_get_p2e | refine sm_get_p1m (by decide) (by decide) ?_ | refine sm_get_p1n (by decide) rfl ?_ | refine sm_get_p2n (by decide) (by decide) rfl ?_ | refine sm_get_p2m (by decide) (by decide) (by decide) ?_)) (by repeat (first | exact q0 | exact sm_get_p1 | exact sm_get_p2e | refine sm_get_p1m (by decide) (by decide) ?_ | refine sm_get_p1n (by decide) rfl ?_ | refine sm_get_p2n (by decide) (by decide) rfl ?_ | refine sm_get_p2m (by decide) (by decide) (by decide) ?_))
theorem rCoE_2 {d : Nat} {S Sf : cS} {v : Option Value} {lv : sm_L} {g : Nat} {zg : Nat} {nn : Nat} {ni : Nat} {fd1 : Nat} {fd11 : Nat} {S1 : cS} {a : Nat} (q0 : sm_get lv 0 = some (.ref 61)) (q1 : sm_get lv 1 = some (.int (nI nn))) (q2 : sm_get lv 2 = some (.ref g)) (q3 : sm_get lv 3 = some (.int (nI ni))) (mnn : nn < 2 ^ 20) (mni : ni < 2 ^ 20) (ag : 108 ≤ g) (hz1 : (sS S)[g - 108]? = some (13, zg)) (hfd1 : sI S (100 * g + 1) = nI fd1) (mfd1 : fd1 < 2 ^ 20) (b1 : fd1 ≤ ni) (hfd11 : sI S (100 * g + 11) = nI fd11) (mfd11 : fd11 < 2 ^ 20) (ma : a < 2 ^ 20) (c1 : Ans (d + 8) 395 [.ref 61, .int (nI fd11), .int (nI nn)] S (some (.int (nI a))) S1) (hz2 : (sS S1)[g - 108]? = some (13, zg)) (n2 : sI S1 (100 * g + 12) = Int32.ofInt (-1)) (hB : ∀ lv1 : sm_L, sm_get lv1 0 = some (.ref 61) → sm_get lv1 1 = some (.int (nI a)) → Bod (d + 8) 393 129 lv1 [] (S1) v Sf) : Bod (d + 8) 393 150 lv [] S v Sf := by
  refine Bod.ildnG dc_393_150 (by repeat (first | exact q3 | exact sm_get_p1 | exact sm_get_p2e | refine sm_get_p1m (by decide) (by decide) ?_ | refine sm_get_p1n (by decide) rfl ?_ | refine sm_get_p2n (by decide) (by decide) rfl ?_ | refine sm_get_p2m (by decide) (by decide) (by decide) ?_)) ?_
  refine Bod.aldnG dc_393_151 (by repeat (first | exact q2 | exact sm_get_p1 | exact sm_get_p2e | refine sm_get_p1m (by decide) (by decide) ?_ | refine sm_get_p1n (by decide) rfl ?_ | refine sm_get_p2n (by decide) (by decide) rfl ?_ | refine sm_get_p2m (by decide) (by decide) (by decide) ?_)) ?_
  refine Bod.get dc_393_152 fr_393_459 (mk_thing ag (by first | exact hz1 | (simp only [rIS, rJS, rAS, rLS, rVS, rQS, rS_hold]; exact hz1))) rfl ?_
  refine Bod.eqI (nI fd1) (by first | assumption | rfl | exact congrArg nI (by omega) | (simp (disch := omega) only [rIn, rIe, rA, rIA, rLA, rJA, rVI, rQI, rVA, rQA, upd_at,  rAI, rLI, rJI, nI_add, pk_sub, kc_0, kc_1, kc_2, kc_3, kc_4, kc_5, reduceIte, Nat.reduceEqDiff, Nat.add_zero, rI_hold, rI_hold, rL_hold, hfd1]; done)) ?_
  refine Bod.icT dc_393_155 rfl (k2_ge_T ni fd1 rfl rfl (by omega) (by omega)) ?_
  refine Bod.aldnG dc_393_187 (by repeat (first | exact q2 | exact sm_get_p1 | exact sm_get_p2e | refine sm_get_p1m (by decide) (by decide) ?_ | refine sm_get_p1n (by decide) rfl ?_ | refine sm_get_p2n (by decide) (by decide) rfl ?_ | refine sm_get_p2m (by decide) (by decide) (by decide) ?_)) ?_
  refine Bod.get dc_393_188 fr_393_472 (mk_thing ag (by first | exact hz1 | (simp only [rIS, rJS, rAS, rLS, rVS, rQS, rS_hold]; exact hz1))) rfl ?_
  refine Bod.eqI (nI fd11) (by first | assumption | rfl | exact congrArg nI (by omega) | (simp (disch := omega) only [rIn, rIe, rA, rIA, rLA, rJA, rVI, rQI, rVA, rQA, upd_at,  rAI, rLI, rJI, nI_add, pk_sub, kc_0, kc_1, kc_2, kc_3, kc_4, kc_5, reduceIte, Nat.reduceEqDiff, Nat.add_zero, rI_hold, rI_hold, rL_hold, hfd1, hfd11]; done)) ?_
  refine Bod.ifF dc_393_191 rfl (k1_lt_F fd11 rfl (by omega)) ?_
  refine Bod.aldnG dc_393_194 (by repeat (first | exact q0 | exact sm_get_p1 | exact sm_get_p2e | refine sm_get_p1m (by decide) (by decide) ?_ | refine sm_get_p1n (by decide) rfl ?_ | refine sm_get_p2n (by decide) (by decide) rfl ?_ | refine sm_get_p2m (by decide) (by decide) (by decide) ?_)) ?_
  refine Bod.aldnG dc_393_195 (by repeat (first | exact q2 | exact sm_get_p1 | exact sm_get_p2e | refine sm_get_p1m (by decide) (by decide) ?_ | refine sm_get_p1n (by decide) rfl ?_ | refine sm_get_p2n (by decide) (by decide) rfl ?_ | refine sm_get_p2m (by decide) (by decide) (by decide) ?_)) ?_
  refine Bod.get dc_393_196 fr_393_472 (mk_thing ag (by first | exact hz1 | (simp only [rIS, rJS, rAS, rLS, rVS, rQS, rS_hold]; exact hz1))) rfl ?_
  refine Bod.eqI (nI fd11) (by first | assumption | rfl | exact congrArg nI (by omega) | (simp (disch := omega) only [rIn, rIe, rA, rIA, rLA, rJA, rVI, rQI, rVA, rQA, upd_at,  rAI, rLI, rJI, nI_add, pk_sub, kc_0, kc_1, kc_2, kc_3, kc_4, kc_5, reduceIte, Nat.reduceEqDiff, Nat.add_zero, rI_hold, rI_hold, rL_hold, hfd1, hfd11]; done)) ?_
  refine Bod.ildnG dc_393_199 (by repeat (first | exact q1 | exact sm_get_p1 | exact sm_get_p2e | refine sm_get_p1m (by decide) (by decide) ?_ | refine sm_get_p1n (by decide) rfl ?_ | refine sm_get_p2n (by decide) (by decide) rfl ?_ | refine sm_get_p2m (by decide) (by decide) (by decide) ?_)) ?_
  refine Bod.virt (r := []) dc_393_200 kr_393_543 ⟨Or.inl rfl, ow_395, cl_14⟩ (by rw [np_395]; rfl) (by rw [np_395]; rfl) (ob_of (mk_61 _)) (Nat.le_of_ble_eq_true rfl) (c1  ) ?_
  show Bod _ _ _ _ [_] _ _ _
  refine Bod.istn dc_393_203 (by rw [ml_393]; exact Nat.le_of_ble_eq_true rfl) ?_
  refine Bod.aldnG dc_393_204 (by repeat (first | exact q2 | exact sm_get_p1 | exact sm_get_p2e | refine sm_get_p1m (by decide) (by decide) ?_ | refine sm_get_p1n (by decide) rfl ?_ | refine sm_get_p2n (by decide) (by decide) rfl ?_ | refine sm_get_p2m (by decide) (by decide) (by decide) ?_)) ?_
  refine Bod.get dc_393_205 fr_393_475 (mk_thing ag (by first | exact hz2 | (simp only [rIS, rJS, rAS, rLS, rVS, rQS, rS_hold]; exact hz2))) rfl ?_
  refine Bod.eqI (Int32.ofInt (-1)) (by first | assumption | (simp (disch := omega) only [rIn, rIe, rA, rIA, rLA, rJA, rVI, rQI, rVA, rQA, upd_at,  rAI, rLI, rJI, nI_add, pk_sub, kc_0, kc_1, kc_2, kc_3, kc_4, kc_5, reduceIte, Nat.reduceEqDiff, Nat.add_zero, rI_hold, rI_hold, rL_hold, hfd1, hfd11, n2]; done) | (simp (disch := omega) only [rIn, rIe, rA, rIA, rLA, rJA, rVI, rQI, rVA, rQA, upd_at,  rAI, rLI, rJI, nI_add, pk_sub, kc_0, kc_1, kc_2, kc_3, kc_4, kc_5, reduceIte, Nat.reduceEqDiff, Nat.add_zero, rI_hold, rI_hold, rL_hold, hfd1, hfd11, n2]; exact congrArg nI (by omega))) ?_
  refine Bod.ifT dc_393_208 rfl (by decide) ?_
  refine Bod.go dc_393_221 rfl ?_
  exact hB _ (by repeat (first | exact q0 | exact sm_get_p1 | exact sm_get_p2e | refine sm_get_p1m (by decide) (by decide) ?_ | refine sm_get_p1n (by decide) rfl ?_ | refine sm_get_p2n (by decide) (by decide) rfl ?_ | refine sm_get_p2m (by decide) (by decide) (by decide) ?_)) (by repeat (first | exact q0 | exact sm_get_p1 | exact sm_get_p2e | refine sm_get_p1m (by decide) (by decide) ?_ | refine sm_get_p1n (by decide) rfl ?_ | refine sm_get_p2n (by decide) (by decide) rfl ?_ | refine sm_get_p2m (by decide) (by decide) (by decide) ?_))
theorem rCoE_3 {d : Nat} {S Sf : cS} {v : Option Value} {lv : sm_L} {g : Nat} {zg : Nat} {nn : Nat} {ni : Nat} {fd1 : Nat} {fd12 : Nat} {S1 : cS} {a : Nat} (q0 : sm_get lv 0 = some (.ref 61)) (q1 : sm_get lv 1 = some (.int (nI nn))) (q2 : sm_get lv 2 = some (.ref g)) (q3 : sm_get lv 3 = some (.int (nI ni))) (mnn : nn < 2 ^ 20) (mni : ni < 2 ^ 20) (ag : 108 ≤ g) (hz1 : (sS S)[g - 108]? = some (13, zg)) (hfd1 : sI S (100 * g + 1) = nI fd1) (mfd1 : fd1 < 2 ^ 20) (b1 : fd1 ≤ ni) (n2 : sI S (100 * g + 11) = Int32.ofInt (-1)) (hfd12 : sI S (100 * g + 12) = nI fd12) (mfd12 : fd12 < 2 ^ 20) (ma : a < 2 ^ 20) (c1 : Ans (d + 8) 395 [.ref 61, .int (nI fd12), .int (nI nn)] S (some (.int (nI a))) S1) (hB : ∀ lv1 : sm_L, sm_get lv1 0 = some (.ref 61) → sm_get lv1 1 = some (.int (nI a)) → Bod (d + 8) 393 129 lv1 [] (S1) v Sf) : Bod (d + 8) 393 150 lv [] S v Sf := by
  refine Bod.ildnG dc_393_150 (by repeat (first | exact q3 | exact sm_get_p1 | exact sm_get_p2e | refine sm_get_p1m (by decide) (by decide) ?_ | refine sm_get_p1n (by decide) rfl ?_ | refine sm_get_p2n (by decide) (by decide) rfl ?_ | refine sm_get_p2m (by decide) (by decide) (by decide) ?_)) ?_
  refine Bod.aldnG dc_393_151 (by repeat (first | exact q2 | exact sm_get_p1 | exact sm_get_p2e | refine sm_get_p1m (by decide) (by decide) ?_ | refine sm_get_p1n (by decide) rfl ?_ | refine sm_get_p2n (by decide) (by decide) rfl ?_ | refine sm_get_p2m (by decide) (by decide) (by decide) ?_)) ?_
  refine Bod.get dc_393_152 fr_393_459 (mk_thing ag (by first | exact hz1 | (simp only [rIS, rJS, rAS, rLS, rVS, rQS, rS_hold]; exact hz1))) rfl ?_
  refine Bod.eqI (nI fd1) (by first | assumption | rfl | exact congrArg nI (by omega) | (simp (disch := omega) only [rIn, rIe, rA, rIA, rLA, rJA, rVI, rQI, rVA, rQA, upd_at,  rAI, rLI, rJI, nI_add, pk_sub, kc_0, kc_1, kc_2, kc_3, kc_4, kc_5, reduceIte, Nat.reduceEqDiff, Nat.add_zero, rI_hold, rI_hold, rL_hold, hfd1]; done)) ?_
  refine Bod.icT dc_393_155 rfl (k2_ge_T ni fd1 rfl rfl (by omega) (by omega)) ?_
  refine Bod.aldnG dc_393_187 (by repeat (first | exact q2 | exact sm_get_p1 | exact sm_get_p2e | refine sm_get_p1m (by decide) (by decide) ?_ | refine sm_get_p1n (by decide) rfl ?_ | refine sm_get_p2n (by decide) (by decide) rfl ?_ | refine sm_get_p2m (by decide) (by decide) (by decide) ?_)) ?_
  refine Bod.get dc_393_188 fr_393_472 (mk_thing ag (by first | exact hz1 | (simp only [rIS, rJS, rAS, rLS, rVS, rQS, rS_hold]; exact hz1))) rfl ?_
  refine Bod.eqI (Int32.ofInt (-1)) (by first | assumption | rfl | exact congrArg nI (by omega) | (simp (disch := omega) only [rIn, rIe, rA, rIA, rLA, rJA, rVI, rQI, rVA, rQA, upd_at,  rAI, rLI, rJI, nI_add, pk_sub, kc_0, kc_1, kc_2, kc_3, kc_4, kc_5, reduceIte, Nat.reduceEqDiff, Nat.add_zero, rI_hold, rI_hold, rL_hold, hfd1, n2]; done)) ?_
  refine Bod.ifT dc_393_191 rfl (by decide) ?_
  refine Bod.aldnG dc_393_204 (by repeat (first | exact q2 | exact sm_get_p1 | exact sm_get_p2e | refine sm_get_p1m (by decide) (by decide) ?_ | refine sm_get_p1n (by decide) rfl ?_ | refine sm_get_p2n (by decide) (by decide) rfl ?_ | refine sm_get_p2m (by decide) (by decide) (by decide) ?_)) ?_
  refine Bod.get dc_393_205 fr_393_475 (mk_thing ag (by first | exact hz1 | (simp only [rIS, rJS, rAS, rLS, rVS, rQS, rS_hold]; exact hz1))) rfl ?_
  refine Bod.eqI (nI fd12) (by first | assumption | rfl | exact congrArg nI (by omega) | (simp (disch := omega) only [rIn, rIe, rA, rIA, rLA, rJA, rVI, rQI, rVA, rQA, upd_at,  rAI, rLI, rJI, nI_add, pk_sub, kc_0, kc_1, kc_2, kc_3, kc_4, kc_5, reduceIte, Nat.reduceEqDiff, Nat.add_zero, rI_hold, rI_hold, rL_hold, hfd1, n2, hfd12]; done)) ?_
  refine Bod.ifF dc_393_208 rfl (k1_lt_F fd12 rfl (by omega)) ?_
  refine Bod.aldnG dc_393_211 (by repeat (first | exact q0 | exact sm_get_p1 | exact sm_get_p2e | refine sm_get_p1m (by decide) (by decide) ?_ | refine sm_get_p1n (by decide) rfl ?_ | refine sm_get_p2n (by decide) (by decide) rfl ?_ | refine sm_get_p2m (by decide) (by decide) (by decide) ?_)) ?_
  refine Bod.aldnG dc_393_212 (by repeat (first | exact q2 | exact sm_get_p1 | exact sm_get_p2e | refine sm_get_p1m (by decide) (by decide) ?_ | refine sm_get_p1n (by decide) rfl ?_ | refine sm_get_p2n (by decide) (by decide) rfl ?_ | refine sm_get_p2m (by decide) (by decide) (by decide) ?_)) ?_
  refine Bod.get dc_393_213 fr_393_475 (mk_thing ag (by first | exact hz1 | (simp only [rIS, rJS, rAS, rLS, rVS, rQS, rS_hold]; exact hz1))) rfl ?_
  refine Bod.eqI (nI fd12) (by first | assumption | rfl | exact congrArg nI (by omega) | (simp (disch := omega) only [rIn, rIe, rA, rIA, rLA, rJA, rVI, rQI, rVA, rQA, upd_at,  rAI, rLI, rJI, nI_add, pk_sub, kc_0, kc_1, kc_2, kc_3, kc_4, kc_5, reduceIte, Nat.reduceEqDiff, Nat.add_zero, rI_hold, rI_hold, rL_hold, hfd1, n2, hfd12]; done)) ?_
  refine Bod.ildnG dc_393_216 (by repeat (first | exact q1 | exact sm_get_p1 | exact sm_get_p2e | refine sm_get_p1m (by decide) (by decide) ?_ | refine sm_get_p1n (by decide) rfl ?_ | refine sm_get_p2n (by decide) (by decide) rfl ?_ | refine sm_get_p2m (by decide) (by decide) (by decide) ?_)) ?_
  refine Bod.virt (r := []) dc_393_217 kr_393_543 ⟨Or.inl rfl, ow_395, cl_14⟩ (by rw [np_395]; rfl) (by rw [np_395]; rfl) (ob_of (mk_61 _)) (Nat.le_of_ble_eq_true rfl) (c1  ) ?_
  show Bod _ _ _ _ [_] _ _ _
  refine Bod.istn dc_393_220 (by rw [ml_393]; exact Nat.le_of_ble_eq_true rfl) ?_
  refine Bod.go dc_393_221 rfl ?_
  exact hB _ (by repeat (first | exact q0 | exact sm_get_p1 | exact sm_get_p2e | refine sm_get_p1m (by decide) (by decide) ?_ | refine sm_get_p1n (by decide) rfl ?_ | refine sm_get_p2n (by decide) (by decide) rfl ?_ | refine sm_get_p2m (by decide) (by decide) (by decide) ?_)) (by repeat (first | exact q0 | exact sm_get_p1 | exact sm_get_p2e | refine sm_get_p1m (by decide) (by decide) ?_ | refine sm_get_p1n (by decide) rfl ?_ | refine sm_get_p2n (by decide) (by decide) rfl ?_ | refine sm_get_p2m (by decide) (by decide) (by decide) ?_))
theorem rCoE_4 {d : Nat} {S Sf : cS} {v : Option Value} {lv : sm_L} {g : Nat} {zg : Nat} {nn : Nat} {ni : Nat} {fd1 : Nat} (q0 : sm_get lv 0 = some (.ref 61)) (q1 : sm_get lv 1 = some (.int (nI nn))) (q2 : sm_get lv 2 = some (.ref g)) (q3 : sm_get lv 3 = some (.int (nI ni))) (mnn : nn < 2 ^ 20) (mni : ni < 2 ^ 20) (ag : 108 ≤ g) (hz1 : (sS S)[g - 108]? = some (13, zg)) (hfd1 : sI S (100 * g + 1) = nI fd1) (mfd1 : fd1 < 2 ^ 20) (b1 : fd1 ≤ ni) (n2 : sI S (100 * g + 11) = Int32.ofInt (-1)) (n3 : sI S (100 * g + 12) = Int32.ofInt (-1)) (hB : ∀ lv1 : sm_L, sm_get lv1 0 = some (.ref 61) → sm_get lv1 1 = some (.int (nI nn)) → Bod (d + 8) 393 129 lv1 [] (S) v Sf) : Bod (d + 8) 393 150 lv [] S v Sf := by
  refine Bod.ildnG dc_393_150 (by repeat (first | exact q3 | exact sm_get_p1 | exact sm_get_p2e | refine sm_get_p1m (by decide) (by decide) ?_ | refine sm_get_p1n (by decide) rfl ?_ | refine sm_get_p2n (by decide) (by decide) rfl ?_ | refine sm_get_p2m (by decide) (by decide) (by decide) ?_)) ?_
  refine Bod.aldnG dc_393_151 (by repeat (first | exact q2 | exact sm_get_p1 | exact sm_get_p2e | refine sm_get_p1m (by decide) (by decide) ?_ | refine sm_get_p1n (by decide) rfl ?_ | refine sm_get_p2n (by decide) (by decide) rfl ?_ | refine sm_get_p2m (by decide) (by decide) (by decide) ?_)) ?_
  refine Bod.get dc_393_152 fr_393_459 (mk_thing ag (by first | exact hz1 | (simp only [rIS, rJS, rAS, rLS, rVS, rQS, rS_hold]; exact hz1))) rfl ?_
  refine Bod.eqI (nI fd1) (by first | assumption | rfl | exact congrArg nI (by omega) | (simp (disch := omega) only [rIn, rIe, rA, rIA, rLA, rJA, rVI, rQI, rVA, rQA, upd_at,  rAI, rLI, rJI, nI_add, pk_sub, kc_0, kc_1, kc_2, kc_3, kc_4, kc_5, reduceIte, Nat.reduceEqDiff, Nat.add_zero, rI_hold, rI_hold, rL_hold, hfd1]; done)) ?_
  refine Bod.icT dc_393_155 rfl (k2_ge_T ni fd1 rfl rfl (by omega) (by omega)) ?_
  refine Bod.aldnG dc_393_187 (by repeat (first | exact q2 | exact sm_get_p1 | exact sm_get_p2e | refine sm_get_p1m (by decide) (by decide) ?_ | refine sm_get_p1n (by decide) rfl ?_ | refine sm_get_p2n (by decide) (by decide) rfl ?_ | refine sm_get_p2m (by decide) (by decide) (by decide) ?_)) ?_
  refine Bod.get dc_393_188 fr_393_472 (mk_thing ag (by first | exact hz1 | (simp only [rIS, rJS, rAS, rLS, rVS, rQS, rS_hold]; exact hz1))) rfl ?_
  refine Bod.eqI (Int32.ofInt (-1)) (by first | assumption | rfl | exact congrArg nI (by omega) | (simp (disch := omega) only [rIn, rIe, rA, rIA, rLA, rJA, rVI, rQI, rVA, rQA, upd_at,  rAI, rLI, rJI, nI_add, pk_sub, kc_0, kc_1, kc_2, kc_3, kc_4, kc_5, reduceIte, Nat.reduceEqDiff, Nat.add_zero, rI_hold, rI_hold, rL_hold, hfd1, n2]; done)) ?_
  refine Bod.ifT dc_393_191 rfl (by decide) ?_
  refine Bod.aldnG dc_393_204 (by repeat (first | exact q2 | exact sm_get_p1 | exact sm_get_p2e | refine sm_get_p1m (by decide) (by decide) ?_ | refine sm_get_p1n (by decide) rfl ?_ | refine sm_get_p2n (by decide) (by decide) rfl ?_ | refine sm_get_p2m (by decide) (by decide) (by decide) ?_)) ?_
  refine Bod.get dc_393_205 fr_393_475 (mk_thing ag (by first | exact hz1 | (simp only [rIS, rJS, rAS, rLS, rVS, rQS, rS_hold]; exact hz1))) rfl ?_
  refine Bod.eqI (Int32.ofInt (-1)) (by first | assumption | rfl | exact congrArg nI (by omega) | (simp (disch := omega) only [rIn, rIe, rA, rIA, rLA, rJA, rVI, rQI, rVA, rQA, upd_at,  rAI, rLI, rJI, nI_add, pk_sub, kc_0, kc_1, kc_2, kc_3, kc_4, kc_5, reduceIte, Nat.reduceEqDiff, Nat.add_zero, rI_hold, rI_hold, rL_hold, hfd1, n2, n3]; done)) ?_
  refine Bod.ifT dc_393_208 rfl (by decide) ?_
  refine Bod.go dc_393_221 rfl ?_
  exact hB _ (by repeat (first | exact q0 | exact sm_get_p1 | exact sm_get_p2e | refine sm_get_p1m (by decide) (by decide) ?_ | refine sm_get_p1n (by decide) rfl ?_ | refine sm_get_p2n (by decide) (by decide) rfl ?_ | refine sm_get_p2m (by decide) (by decide) (by decide) ?_)) (by repeat (first | exact q1 | exact sm_get_p1 | exact sm_get_p2e | refine sm_get_p1m (by decide) (by decide) ?_ | refine sm_get_p1n (by decide) rfl ?_ | refine sm_get_p2n (by decide) (by decide) rfl ?_ | refine sm_get_p2m (by decide) (by decide) (by decide) ?_))
theorem rCoE_5 {d : Nat} {S Sf : cS} {v : Option Value} {lv : sm_L} {g : Nat} {zg : Nat} {nn : Nat} {ni : Nat} {fd1 : Nat} {r : Nat} {N : Nat} {e : Nat} (q0 : sm_get lv 0 = some (.ref 61)) (q1 : sm_get lv 1 = some (.int (nI nn))) (q2 : sm_get lv 2 = some (.ref g)) (q3 : sm_get lv 3 = some (.int (nI ni))) (mnn : nn < 2 ^ 20) (mni : ni < 2 ^ 20) (ag : 108 ≤ g) (hz1 : (sS S)[g - 108]? = some (13, zg)) (hfd1 : sI S (100 * g + 1) = nI fd1) (mfd1 : fd1 < 2 ^ 20) (b1 : ni < fd1) (hv1 : sV S (100 * g + 2) = .ref r) (hg1 : isK S r 0 N) (mN : N < 2 ^ 20) (b2 : ni < N) (he : sA S r ni = nI e) (me : e < 2 ^ 20) (b3 : e ≠ 3) (hB : ∀ lv1 : sm_L, sm_get lv1 0 = some (.ref 61) → sm_get lv1 1 = some (.int (nI nn)) → sm_get lv1 2 = some (.ref g) → sm_get lv1 3 = some (.int (nI (ni + 1))) → Bod (d + 8) 393 150 lv1 [] (S) v Sf) : Bod (d + 8) 393 150 lv [] S v Sf := by
  refine Bod.ildnG dc_393_150 (by repeat (first | exact q3 | exact sm_get_p1 | exact sm_get_p2e | refine sm_get_p1m (by decide) (by decide) ?_ | refine sm_get_p1n (by decide) rfl ?_ | refine sm_get_p2n (by decide) (by decide) rfl ?_ | refine sm_get_p2m (by decide) (by decide) (by decide) ?_)) ?_
  refine Bod.aldnG dc_393_151 (by repeat (first | exact q2 | exact sm_get_p1 | exact sm_get_p2e | refine sm_get_p1m (by decide) (by decide) ?_ | refine sm_get_p1n (by decide) rfl ?_ | refine sm_get_p2n (by decide) (by decide) rfl ?_ | refine sm_get_p2m (by decide) (by decide) (by decide) ?_)) ?_
  refine Bod.get dc_393_152 fr_393_459 (mk_thing ag (by first | exact hz1 | (simp only [rIS, rJS, rAS, rLS, rVS, rQS, rS_hold]; exact hz1))) rfl ?_
  refine Bod.eqI (nI fd1) (by first | assumption | rfl | exact congrArg nI (by omega) | (simp (disch := omega) only [rIn, rIe, rA, rIA, rLA, rJA, rVI, rQI, rVA, rQA, upd_at,  rAI, rLI, rJI, nI_add, pk_sub, kc_0, kc_1, kc_2, kc_3, kc_4, kc_5, reduceIte, Nat.reduceEqDiff, Nat.add_zero, rI_hold, rI_hold, rL_hold, hfd1]; done)) ?_
  refine Bod.icF dc_393_155 rfl (k2_ge_F ni fd1 rfl rfl (by omega) (by omega)) ?_
  refine Bod.aldnG dc_393_158 (by repeat (first | exact q2 | exact sm_get_p1 | exact sm_get_p2e | refine sm_get_p1m (by decide) (by decide) ?_ | refine sm_get_p1n (by decide) rfl ?_ | refine sm_get_p2n (by decide) (by decide) rfl ?_ | refine sm_get_p2m (by decide) (by decide) (by decide) ?_)) ?_
  refine Bod.get dc_393_159 fr_393_462 (mk_thing ag (by first | exact hz1 | (simp only [rIS, rJS, rAS, rLS, rVS, rQS, rS_hold]; exact hz1))) rfl ?_
  refine Bod.eqV (.ref r) (by first | exact hv1 | (simp only [rIV, rJV, rAV, rLV, rQV, rV, reduceIte, Nat.reduceEqDiff]; exact hv1)) ?_
  refine Bod.ildnG dc_393_162 (by repeat (first | exact q3 | exact sm_get_p1 | exact sm_get_p2e | refine sm_get_p1m (by decide) (by decide) ?_ | refine sm_get_p1n (by decide) rfl ?_ | refine sm_get_p2n (by decide) (by decide) rfl ?_ | refine sm_get_p2m (by decide) (by decide) (by decide) ?_)) ?_
  refine Bod.ialdN (N := N) ni rfl (by omega) (by omega) dc_393_163 (mk_isI (by first | exact hg1 | exact isK_S (by simp only [rIS, rJS, rAS, rLS, rVS, rQS, rS_hold]) hg1)) ?_
  refine Bod.eqI (nI e) (by first | assumption | rfl | exact congrArg nI (by omega) | (simp (disch := omega) only [rIn, rIe, rA, rIA, rLA, rJA, rVI, rQI, rVA, rQA, upd_at,  rAI, rLI, rJI, nI_add, pk_sub, kc_0, kc_1, kc_2, kc_3, kc_4, kc_5, reduceIte, Nat.reduceEqDiff, Nat.add_zero, rI_hold, rI_hold, rL_hold, hfd1, he]; done)) ?_
  refine Bod.ic 3 (by decide) dc_393_164 ?_
  refine Bod.icT dc_393_165 rfl (k2_ne_T (k_ne e 3 rfl rfl (by omega) (by omega) (by omega))) ?_
  refine Bod.incN (ni + 1) (by rw [kc_1, nI_add]) dc_393_181 (by rw [ml_393]; exact Nat.le_of_ble_eq_true rfl) (by repeat (first | exact q3 | exact sm_get_p1 | exact sm_get_p2e | refine sm_get_p1m (by decide) (by decide) ?_ | refine sm_get_p1n (by decide) rfl ?_ | refine sm_get_p2n (by decide) (by decide) rfl ?_ | refine sm_get_p2m (by decide) (by decide) (by decide) ?_)) ?_
  refine Bod.go dc_393_184 rfl ?_
  exact hB _ (by repeat (first | exact q0 | exact sm_get_p1 | exact sm_get_p2e | refine sm_get_p1m (by decide) (by decide) ?_ | refine sm_get_p1n (by decide) rfl ?_ | refine sm_get_p2n (by decide) (by decide) rfl ?_ | refine sm_get_p2m (by decide) (by decide) (by decide) ?_)) (by repeat (first | exact q1 | exact sm_get_p1 | exact sm_get_p2e | refine sm_get_p1m (by decide) (by decide) ?_ | refine sm_get_p1n (by decide) rfl ?_ | refine sm_get_p2n (by decide) (by decide) rfl ?_ | refine sm_get_p2m (by decide) (by decide) (by decide) ?_)) (by repeat (first | exact q2 | exact sm_get_p1 | exact sm_get_p2e | refine sm_get_p1m (by decide) (by decide) ?_ | refine sm_get_p1n (by decide) rfl ?_ | refine sm_get_p2n (by decide) (by decide) rfl ?_ | refine sm_get_p2m (by decide) (by decide) (by decide) ?_)) (by repeat (first | exact q0 | exact sm_get_p1 | exact sm_get_p2e | refine sm_get_p1m (by decide) (by decide) ?_ | refine sm_get_p1n (by decide) rfl ?_ | refine sm_get_p2n (by decide) (by decide) rfl ?_ | refine sm_get_p2m (by decide) (by decide) (by decide) ?_))
theorem rCoE_6 {d : Nat} {S Sf : cS} {v : Option Value} {lv : sm_L} {g : Nat} {zg : Nat} {nn : Nat} {ni : Nat} {fd1 : Nat} {r : Nat} {N : Nat} {e : Nat} {r1 : Nat} {N1 : Nat} {o : Nat} {S1 : cS} {a : Nat} (q0 : sm_get lv 0 = some (.ref 61)) (q1 : sm_get lv 1 = some (.int (nI nn))) (q2 : sm_get lv 2 = some (.ref g)) (q3 : sm_get lv 3 = some (.int (nI ni))) (mnn : nn < 2 ^ 20) (mni : ni < 2 ^ 20) (ag : 108 ≤ g) (hz1 : (sS S)[g - 108]? = some (13, zg)) (hfd1 : sI S (100 * g + 1) = nI fd1) (mfd1 : fd1 < 2 ^ 20) (b1 : ni < fd1) (hv1 : sV S (100 * g + 2) = .ref r) (hg1 : isK S r 0 N) (mN : N < 2 ^ 20) (b2 : ni < N) (he : sA S r ni = nI e) (me : e < 2 ^ 20) (b3 : e = 3) (hv2 : sV S (100 * g + 4) = .ref r1) (hg2 : isK S r1 1 N1) (mN1 : N1 < 2 ^ 20) (b4 : ni < N1) (ho : (sL S r1 ni).toInt32 = nI o) (mo : o < 1500) (ma : a < 2 ^ 20) (c1 : Ans (d + 8) 395 [.ref 61, .int (nI o), .int (nI nn)] S (some (.int (nI a))) S1) (hB : ∀ lv1 : sm_L, sm_get lv1 0 = some (.ref 61) → sm_get lv1 1 = some (.int (nI a)) → sm_get lv1 2 = some (.ref g) → sm_get lv1 3 = some (.int (nI (ni + 1))) → Bod (d + 8) 393 150 lv1 [] (S1) v Sf) : Bod (d + 8) 393 150 lv [] S v Sf := by
  refine Bod.ildnG dc_393_150 (by repeat (first | exact q3 | exact sm_get_p1 | exact sm_get_p2e | refine sm_get_p1m (by decide) (by decide) ?_ | refine sm_get_p1n (by decide) rfl ?_ | refine sm_get_p2n (by decide) (by decide) rfl ?_ | refine sm_get_p2m (by decide) (by decide) (by decide) ?_)) ?_
  refine Bod.aldnG dc_393_151 (by repeat (first | exact q2 | exact sm_get_p1 | exact sm_get_p2e | refine sm_get_p1m (by decide) (by decide) ?_ | refine sm_get_p1n (by decide) rfl ?_ | refine sm_get_p2n (by decide) (by decide) rfl ?_ | refine sm_get_p2m (by decide) (by decide) (by decide) ?_)) ?_
  refine Bod.get dc_393_152 fr_393_459 (mk_thing ag (by first | exact hz1 | (simp only [rIS, rJS, rAS, rLS, rVS, rQS, rS_hold]; exact hz1))) rfl ?_
  refine Bod.eqI (nI fd1) (by first | assumption | rfl | exact congrArg nI (by omega) | (simp (disch := omega) only [rIn, rIe, rA, rIA, rLA, rJA, rVI, rQI, rVA, rQA, upd_at,  rAI, rLI, rJI, nI_add, pk_sub, kc_0, kc_1, kc_2, kc_3, kc_4, kc_5, reduceIte, Nat.reduceEqDiff, Nat.add_zero, rI_hold, rI_hold, rL_hold, hfd1]; done)) ?_
  refine Bod.icF dc_393_155 rfl (k2_ge_F ni fd1 rfl rfl (by omega) (by omega)) ?_
  refine Bod.aldnG dc_393_158 (by repeat (first | exact q2 | exact sm_get_p1 | exact sm_get_p2e | refine sm_get_p1m (by decide) (by decide) ?_ | refine sm_get_p1n (by decide) rfl ?_ | refine sm_get_p2n (by decide) (by decide) rfl ?_ | refine sm_get_p2m (by decide) (by decide) (by decide) ?_)) ?_
  refine Bod.get dc_393_159 fr_393_462 (mk_thing ag (by first | exact hz1 | (simp only [rIS, rJS, rAS, rLS, rVS, rQS, rS_hold]; exact hz1))) rfl ?_
  refine Bod.eqV (.ref r) (by first | exact hv1 | (simp only [rIV, rJV, rAV, rLV, rQV, rV, reduceIte, Nat.reduceEqDiff]; exact hv1)) ?_
  refine Bod.ildnG dc_393_162 (by repeat (first | exact q3 | exact sm_get_p1 | exact sm_get_p2e | refine sm_get_p1m (by decide) (by decide) ?_ | refine sm_get_p1n (by decide) rfl ?_ | refine sm_get_p2n (by decide) (by decide) rfl ?_ | refine sm_get_p2m (by decide) (by decide) (by decide) ?_)) ?_
  refine Bod.ialdN (N := N) ni rfl (by omega) (by omega) dc_393_163 (mk_isI (by first | exact hg1 | exact isK_S (by simp only [rIS, rJS, rAS, rLS, rVS, rQS, rS_hold]) hg1)) ?_
  refine Bod.eqI (nI e) (by first | assumption | rfl | exact congrArg nI (by omega) | (simp (disch := omega) only [rIn, rIe, rA, rIA, rLA, rJA, rVI, rQI, rVA, rQA, upd_at,  rAI, rLI, rJI, nI_add, pk_sub, kc_0, kc_1, kc_2, kc_3, kc_4, kc_5, reduceIte, Nat.reduceEqDiff, Nat.add_zero, rI_hold, rI_hold, rL_hold, hfd1, he]; done)) ?_
  refine Bod.ic 3 (by decide) dc_393_164 ?_
  refine Bod.icF dc_393_165 rfl (k2_ne_F (k_eq e 3 rfl rfl (by omega))) ?_
  refine Bod.aldnG dc_393_168 (by repeat (first | exact q0 | exact sm_get_p1 | exact sm_get_p2e | refine sm_get_p1m (by decide) (by decide) ?_ | refine sm_get_p1n (by decide) rfl ?_ | refine sm_get_p2n (by decide) (by decide) rfl ?_ | refine sm_get_p2m (by decide) (by decide) (by decide) ?_)) ?_
  refine Bod.aldnG dc_393_169 (by repeat (first | exact q2 | exact sm_get_p1 | exact sm_get_p2e | refine sm_get_p1m (by decide) (by decide) ?_ | refine sm_get_p1n (by decide) rfl ?_ | refine sm_get_p2n (by decide) (by decide) rfl ?_ | refine sm_get_p2m (by decide) (by decide) (by decide) ?_)) ?_
  refine Bod.get dc_393_170 fr_393_465 (mk_thing ag (by first | exact hz1 | (simp only [rIS, rJS, rAS, rLS, rVS, rQS, rS_hold]; exact hz1))) rfl ?_
  refine Bod.eqV (.ref r1) (by first | exact hv2 | (simp only [rIV, rJV, rAV, rLV, rQV, rV, reduceIte, Nat.reduceEqDiff]; exact hv2)) ?_
  refine Bod.ildnG dc_393_173 (by repeat (first | exact q3 | exact sm_get_p1 | exact sm_get_p2e | refine sm_get_p1m (by decide) (by decide) ?_ | refine sm_get_p1n (by decide) rfl ?_ | refine sm_get_p2n (by decide) (by decide) rfl ?_ | refine sm_get_p2m (by decide) (by decide) (by decide) ?_)) ?_
  refine Bod.laldN (N := N1) ni rfl (by omega) (by omega) dc_393_174 (mk_isL (by first | exact hg2 | exact isK_S (by simp only [rIS, rJS, rAS, rLS, rVS, rQS, rS_hold]) hg2)) ?_
  refine Bod.go dc_393_175 rfl ?_
  refine Bod.eqI (nI o) (by first | exact ho | (simp only [rIn, rIe, rA, rIA, rLA, rJA, rVI, rQI, rVA, rQA, upd_at,  rAI, rLI, rJI, nI_add, pk_sub, kc_0, kc_1, kc_2, kc_3, kc_4, kc_5, reduceIte, Nat.reduceEqDiff, Nat.add_zero, rI_hold, rI_hold, rL_hold]; exact ho)) ?_
  refine Bod.ildnG dc_393_176 (by repeat (first | exact q1 | exact sm_get_p1 | exact sm_get_p2e | refine sm_get_p1m (by decide) (by decide) ?_ | refine sm_get_p1n (by decide) rfl ?_ | refine sm_get_p2n (by decide) (by decide) rfl ?_ | refine sm_get_p2m (by decide) (by decide) (by decide) ?_)) ?_
  refine Bod.virt (r := []) dc_393_177 kr_393_543 ⟨Or.inl rfl, ow_395, cl_14⟩ (by rw [np_395]; rfl) (by rw [np_395]; rfl) (ob_of (mk_61 _)) (Nat.le_of_ble_eq_true rfl) (c1  ) ?_
  show Bod _ _ _ _ [_] _ _ _
  refine Bod.istn dc_393_180 (by rw [ml_393]; exact Nat.le_of_ble_eq_true rfl) ?_
  refine Bod.incN (ni + 1) (by rw [kc_1, nI_add]) dc_393_181 (by rw [ml_393]; exact Nat.le_of_ble_eq_true rfl) (by repeat (first | exact q3 | exact sm_get_p1 | exact sm_get_p2e | refine sm_get_p1m (by decide) (by decide) ?_ | refine sm_get_p1n (by decide) rfl ?_ | refine sm_get_p2n (by decide) (by decide) rfl ?_ | refine sm_get_p2m (by decide) (by decide) (by decide) ?_)) ?_
  refine Bod.go dc_393_184 rfl ?_
  exact hB _ (by repeat (first | exact q0 | exact sm_get_p1 | exact sm_get_p2e | refine sm_get_p1m (by decide) (by decide) ?_ | refine sm_get_p1n (by decide) rfl ?_ | refine sm_get_p2n (by decide) (by decide) rfl ?_ | refine sm_get_p2m (by decide) (by decide) (by decide) ?_)) (by repeat (first | exact q0 | exact sm_get_p1 | exact sm_get_p2e | refine sm_get_p1m (by decide) (by decide) ?_ | refine sm_get_p1n (by decide) rfl ?_ | refine sm_get_p2n (by decide) (by decide) rfl ?_ | refine sm_get_p2m (by decide) (by decide) (by decide) ?_)) (by repeat (first | exact q2 | exact sm_get_p1 | exact sm_get_p2e | refine sm_get_p1m (by decide) (by decide) ?_ | refine sm_get_p1n (by decide) rfl ?_ | refine sm_get_p2n (by decide) (by decide) rfl ?_ | refine sm_get_p2m (by decide) (by decide) (by decide) ?_)) (by repeat (first | exact q0 | exact sm_get_p1 | exact sm_get_p2e | refine sm_get_p1m (by decide) (by decide) ?_ | refine sm_get_p1n (by decide) rfl ?_ | refine sm_get_p2n (by decide) (by decide) rfl ?_ | refine sm_get_p2m (by decide) (by decide) (by decide) ?_))
theorem rCoE_7 {d : Nat} {S Sf : cS} {v : Option Value} {lv : sm_L} {g : Nat} {zg : Nat} {nn : Nat} {ni : Nat} {fd1 : Nat} {r : Nat} {N : Nat} (q0 : sm_get lv 0 = some (.ref 61)) (q1 : sm_get lv 1 = some (.int (nI nn))) (q2 : sm_get lv 2 = some (.ref g)) (q3 : sm_get lv 3 = some (.int (nI ni))) (mnn : nn < 2 ^ 20) (mni : ni < 2 ^ 20) (ag : 108 ≤ g) (hz1 : (sS S)[g - 108]? = some (13, zg)) (hfd1 : sI S (100 * g + 1) = nI fd1) (mfd1 : fd1 < 2 ^ 20) (b1 : ni < fd1) (hv1 : sV S (100 * g + 2) = .ref r) (hg1 : isK S r 0 N) (mN : N < 2 ^ 20) (b2 : ni < N) (n3 : sA S r ni = Int32.ofInt (-1)) (hB : ∀ lv1 : sm_L, sm_get lv1 0 = some (.ref 61) → sm_get lv1 1 = some (.int (nI nn)) → sm_get lv1 2 = some (.ref g) → sm_get lv1 3 = some (.int (nI (ni + 1))) → Bod (d + 8) 393 150 lv1 [] (S) v Sf) : Bod (d + 8) 393 150 lv [] S v Sf := by
  refine Bod.ildnG dc_393_150 (by repeat (first | exact q3 | exact sm_get_p1 | exact sm_get_p2e | refine sm_get_p1m (by decide) (by decide) ?_ | refine sm_get_p1n (by decide) rfl ?_ | refine sm_get_p2n (by decide) (by decide) rfl ?_ | refine sm_get_p2m (by decide) (by decide) (by decide) ?_)) ?_
  refine Bod.aldnG dc_393_151 (by repeat (first | exact q2 | exact sm_get_p1 | exact sm_get_p2e | refine sm_get_p1m (by decide) (by decide) ?_ | refine sm_get_p1n (by decide) rfl ?_ | refine sm_get_p2n (by decide) (by decide) rfl ?_ | refine sm_get_p2m (by decide) (by decide) (by decide) ?_)) ?_
  refine Bod.get dc_393_152 fr_393_459 (mk_thing ag (by first | exact hz1 | (simp only [rIS, rJS, rAS, rLS, rVS, rQS, rS_hold]; exact hz1))) rfl ?_
  refine Bod.eqI (nI fd1) (by first | assumption | rfl | exact congrArg nI (by omega) | (simp (disch := omega) only [rIn, rIe, rA, rIA, rLA, rJA, rVI, rQI, rVA, rQA, upd_at,  rAI, rLI, rJI, nI_add, pk_sub, kc_0, kc_1, kc_2, kc_3, kc_4, kc_5, reduceIte, Nat.reduceEqDiff, Nat.add_zero, rI_hold, rI_hold, rL_hold, hfd1]; done)) ?_
  refine Bod.icF dc_393_155 rfl (k2_ge_F ni fd1 rfl rfl (by omega) (by omega)) ?_
  refine Bod.aldnG dc_393_158 (by repeat (first | exact q2 | exact sm_get_p1 | exact sm_get_p2e | refine sm_get_p1m (by decide) (by decide) ?_ | refine sm_get_p1n (by decide) rfl ?_ | refine sm_get_p2n (by decide) (by decide) rfl ?_ | refine sm_get_p2m (by decide) (by decide) (by decide) ?_)) ?_
  refine Bod.get dc_393_159 fr_393_462 (mk_thing ag (by first | exact hz1 | (simp only [rIS, rJS, rAS, rLS, rVS, rQS, rS_hold]; exact hz1))) rfl ?_
  refine Bod.eqV (.ref r) (by first | exact hv1 | (simp only [rIV, rJV, rAV, rLV, rQV, rV, reduceIte, Nat.reduceEqDiff]; exact hv1)) ?_
  refine Bod.ildnG dc_393_162 (by repeat (first | exact q3 | exact sm_get_p1 | exact sm_get_p2e | refine sm_get_p1m (by decide) (by decide) ?_ | refine sm_get_p1n (by decide) rfl ?_ | refine sm_get_p2n (by decide) (by decide) rfl ?_ | refine sm_get_p2m (by decide) (by decide) (by decide) ?_)) ?_
  refine Bod.ialdN (N := N) ni rfl (by omega) (by omega) dc_393_163 (mk_isI (by first | exact hg1 | exact isK_S (by simp only [rIS, rJS, rAS, rLS, rVS, rQS, rS_hold]) hg1)) ?_
  refine Bod.eqI (Int32.ofInt (-1)) (by first | assumption | rfl | exact congrArg nI (by omega) | (simp (disch := omega) only [rIn, rIe, rA, rIA, rLA, rJA, rVI, rQI, rVA, rQA, upd_at,  rAI, rLI, rJI, nI_add, pk_sub, kc_0, kc_1, kc_2, kc_3, kc_4, kc_5, reduceIte, Nat.reduceEqDiff, Nat.add_zero, rI_hold, rI_hold, rL_hold, hfd1, n3]; done)) ?_
  refine Bod.ic 3 (by decide) dc_393_164 ?_
  refine Bod.icT dc_393_165 rfl (ml_ne (by omega)) ?_
  refine Bod.incN (ni + 1) (by rw [kc_1, nI_add]) dc_393_181 (by rw [ml_393]; exact Nat.le_of_ble_eq_true rfl) (by repeat (first | exact q3 | exact sm_get_p1 | exact sm_get_p2e | refine sm_get_p1m (by decide) (by decide) ?_ | refine sm_get_p1n (by decide) rfl ?_ | refine sm_get_p2n (by decide) (by decide) rfl ?_ | refine sm_get_p2m (by decide) (by decide) (by decide) ?_)) ?_
  refine Bod.go dc_393_184 rfl ?_
  exact hB _ (by repeat (first | exact q0 | exact sm_get_p1 | exact sm_get_p2e | refine sm_get_p1m (by decide) (by decide) ?_ | refine sm_get_p1n (by decide) rfl ?_ | refine sm_get_p2n (by decide) (by decide) rfl ?_ | refine sm_get_p2m (by decide) (by decide) (by decide) ?_)) (by repeat (first | exact q1 | exact sm_get_p1 | exact sm_get_p2e | refine sm_get_p1m (by decide) (by decide) ?_ | refine sm_get_p1n (by decide) rfl ?_ | refine sm_get_p2n (by decide) (by decide) rfl ?_ | refine sm_get_p2m (by decide) (by decide) (by decide) ?_)) (by repeat (first | exact q2 | exact sm_get_p1 | exact sm_get_p2e | refine sm_get_p1m (by decide) (by decide) ?_ | refine sm_get_p1n (by decide) rfl ?_ | refine sm_get_p2n (by decide) (by decide) rfl ?_ | refine sm_get_p2m (by decide) (by decide) (by decide) ?_)) (by repeat (first | exact q0 | exact sm_get_p1 | exact sm_get_p2e | refine sm_get_p1m (by decide) (by decide) ?_ | refine sm_get_p1n (by decide) rfl ?_ | refine sm_get_p2n (by decide) (by decide) rfl ?_ | refine sm_get_p2m (by decide) (by decide) (by decide) ?_))
theorem rCoF_1 {d : Nat} {S : cS} {lv : sm_L} {go : Nat} {ni : Nat} (q0 : sm_get lv 0 = some (.ref 61)) (q2 : sm_get lv 2 = some (.int (nI go))) (q3 : sm_get lv 3 = some (.int (nI ni))) (mgo : go < 2 ^ 20) (mni : ni < 2 ^ 20) (b1 : 1500 ≤ ni) : Bod (d + 8) 393 228 lv [] S (some (.int (nI go))) (S) := by
  refine Bod.ildnG dc_393_228 (by repeat (first | exact q3 | exact sm_get_p1 | exact sm_get_p2e | refine sm_get_p1m (by decide) (by decide) ?_ | refine sm_get_p1n (by decide) rfl ?_ | refine sm_get_p2n (by decide) (by decide) rfl ?_ | refine sm_get_p2m (by decide) (by decide) (by decide) ?_)) ?_
  refine Bod.sip 1500 (by decide) dc_393_229 ?_
  refine Bod.icT dc_393_232 rfl (k2_ge_T ni 1500 rfl rfl (by omega) (by omega)) ?_
  refine Bod.ildnG dc_393_272 (by repeat (first | exact q2 | exact sm_get_p1 | exact sm_get_p2e | refine sm_get_p1m (by decide) (by decide) ?_ | refine sm_get_p1n (by decide) rfl ?_ | refine sm_get_p2n (by decide) (by decide) rfl ?_ | refine sm_get_p2m (by decide) (by decide) (by decide) ?_)) ?_
  exact Bod.retI dc_393_273 rt_393
theorem rCoF_2 {d : Nat} {S Sf : cS} {v : Option Value} {lv : sm_L} {go : Nat} {ni : Nat} {e87 : Nat} (q0 : sm_get lv 0 = some (.ref 61)) (q2 : sm_get lv 2 = some (.int (nI go))) (q3 : sm_get lv 3 = some (.int (nI ni))) (mgo : go < 2 ^ 20) (mni : ni < 2 ^ 20) (b1 : ni < 1500) (he87 : sA S 87 ni = nI e87) (me87 : e87 < 2 ^ 20) (b2 : e87 = 0) (hB : ∀ lv1 : sm_L, sm_get lv1 0 = some (.ref 61) → sm_get lv1 2 = some (.int (nI go)) → sm_get lv1 3 = some (.int (nI (ni + 1))) → Bod (d + 8) 393 228 lv1 [] (S) v Sf) : Bod (d + 8) 393 228 lv [] S v Sf := by
  refine Bod.ildnG dc_393_228 (by repeat (first | exact q3 | exact sm_get_p1 | exact sm_get_p2e | refine sm_get_p1m (by decide) (by decide) ?_ | refine sm_get_p1n (by decide) rfl ?_ | refine sm_get_p2n (by decide) (by decide) rfl ?_ | refine sm_get_p2m (by decide) (by decide) (by decide) ?_)) ?_
  refine Bod.sip 1500 (by decide) dc_393_229 ?_
  refine Bod.icF dc_393_232 rfl (k2_ge_F ni 1500 rfl rfl (by omega) (by omega)) ?_
  refine Bod.aldnG dc_393_235 (by repeat (first | exact q0 | exact sm_get_p1 | exact sm_get_p2e | refine sm_get_p1m (by decide) (by decide) ?_ | refine sm_get_p1n (by decide) rfl ?_ | refine sm_get_p2n (by decide) (by decide) rfl ?_ | refine sm_get_p2m (by decide) (by decide) (by decide) ?_)) ?_
  refine Bod.get dc_393_236 fr_393_481 (mk_61 _) rfl ?_
  refine Bod.ildnG dc_393_239 (by repeat (first | exact q3 | exact sm_get_p1 | exact sm_get_p2e | refine sm_get_p1m (by decide) (by decide) ?_ | refine sm_get_p1n (by decide) rfl ?_ | refine sm_get_p2n (by decide) (by decide) rfl ?_ | refine sm_get_p2m (by decide) (by decide) (by decide) ?_)) ?_
  refine Bod.baldN ni rfl (by omega) (by omega) dc_393_240 (mk_87 _) (Or.inr rfl) ?_
  refine Bod.eqI (nI e87) (by first | assumption | rfl | exact congrArg nI (by omega) | (simp (disch := omega) only [rIn, rIe, rA, rIA, rLA, rJA, rVI, rQI, rVA, rQA, upd_at,  rAI, rLI, rJI, nI_add, pk_sub, kc_0, kc_1, kc_2, kc_3, kc_4, kc_5, reduceIte, Nat.reduceEqDiff, Nat.add_zero, rI_hold, rI_hold, rL_hold, he87]; done)) ?_
  refine Bod.ifT dc_393_241 rfl (k1_eq_T (k_eq e87 0 rfl rfl (by omega))) ?_
  refine Bod.incN (ni + 1) (by rw [kc_1, nI_add]) dc_393_266 (by rw [ml_393]; exact Nat.le_of_ble_eq_true rfl) (by repeat (first | exact q3 | exact sm_get_p1 | exact sm_get_p2e | refine sm_get_p1m (by decide) (by decide) ?_ | refine sm_get_p1n (by decide) rfl ?_ | refine sm_get_p2n (by decide) (by decide) rfl ?_ | refine sm_get_p2m (by decide) (by decide) (by decide) ?_)) ?_
  refine Bod.go dc_393_269 rfl ?_
  exact hB _ (by repeat (first | exact q0 | exact sm_get_p1 | exact sm_get_p2e | refine sm_get_p1m (by decide) (by decide) ?_ | refine sm_get_p1n (by decide) rfl ?_ | refine sm_get_p2n (by decide) (by decide) rfl ?_ | refine sm_get_p2m (by decide) (by decide) (by decide) ?_)) (by repeat (first | exact q2 | exact sm_get_p1 | exact sm_get_p2e | refine sm_get_p1m (by decide) (by decide) ?_ | refine sm_get_p1n (by decide) rfl ?_ | refine sm_get_p2n (by decide) (by decide) rfl ?_ | refine sm_get_p2m (by decide) (by decide) (by decide) ?_)) (by repeat (first | exact q0 | exact sm_get_p1 | exact sm_get_p2e | refine sm_get_p1m (by decide) (by decide) ?_ | refine sm_get_p1n (by decide) rfl ?_ | refine sm_get_p2n (by decide) (by decide) rfl ?_ | refine sm_get_p2m (by decide) (by decide) (by decide) ?_))
theorem rCoF_3 {d : Nat} {S Sf : cS} {v : Option Value} {lv : sm_L} {go : Nat} {ni : Nat} {e87 : Nat} {e88 : Nat} (q0 : sm_get lv 0 = some (.ref 61)) (q2 : sm_get lv 2 = some (.int (nI go))) (q3 : sm_get lv 3 = some (.int (nI ni))) (mgo : go < 2 ^ 20) (mni : ni < 2 ^ 20) (b1 : ni < 1500) (he87 : sA S 87 ni = nI e87) (me87 : e87 < 2 ^ 20) (b2 : e87 ≠ 0) (he88 : sA S 88 ni = nI e88) (me88 : e88 < 2 ^ 20) (b3 : e88 = 0) (hB : ∀ lv1 : sm_L, sm_get lv1 0 = some (.ref 61) → sm_get lv1 2 = some (.int (nI (go + 1))) → sm_get lv1 3 = some (.int (nI (ni + 1))) → Bod (d + 8) 393 228 lv1 [] (wA 87 ni (vp_nar .boolean (nI 0)) S) v Sf) : Bod (d + 8) 393 228 lv [] S v Sf := by
  refine Bod.ildnG dc_393_228 (by repeat (first | exact q3 | exact sm_get_p1 | exact sm_get_p2e | refine sm_get_p1m (by decide) (by decide) ?_ | refine sm_get_p1n (by decide) rfl ?_ | refine sm_get_p2n (by decide) (by decide) rfl ?_ | refine sm_get_p2m (by decide) (by decide) (by decide) ?_)) ?_
  refine Bod.sip 1500 (by decide) dc_393_229 ?_
  refine Bod.icF dc_393_232 rfl (k2_ge_F ni 1500 rfl rfl (by omega) (by omega)) ?_
  refine Bod.aldnG dc_393_235 (by repeat (first | exact q0 | exact sm_get_p1 | exact sm_get_p2e | refine sm_get_p1m (by decide) (by decide) ?_ | refine sm_get_p1n (by decide) rfl ?_ | refine sm_get_p2n (by decide) (by decide) rfl ?_ | refine sm_get_p2m (by decide) (by decide) (by decide) ?_)) ?_
  refine Bod.get dc_393_236 fr_393_481 (mk_61 _) rfl ?_
  refine Bod.ildnG dc_393_239 (by repeat (first | exact q3 | exact sm_get_p1 | exact sm_get_p2e | refine sm_get_p1m (by decide) (by decide) ?_ | refine sm_get_p1n (by decide) rfl ?_ | refine sm_get_p2n (by decide) (by decide) rfl ?_ | refine sm_get_p2m (by decide) (by decide) (by decide) ?_)) ?_
  refine Bod.baldN ni rfl (by omega) (by omega) dc_393_240 (mk_87 _) (Or.inr rfl) ?_
  refine Bod.eqI (nI e87) (by first | assumption | rfl | exact congrArg nI (by omega) | (simp (disch := omega) only [rIn, rIe, rA, rIA, rLA, rJA, rVI, rQI, rVA, rQA, upd_at,  rAI, rLI, rJI, nI_add, pk_sub, kc_0, kc_1, kc_2, kc_3, kc_4, kc_5, reduceIte, Nat.reduceEqDiff, Nat.add_zero, rI_hold, rI_hold, rL_hold, he87]; done)) ?_
  refine Bod.ifF dc_393_241 rfl (k1_eq_F (k_ne e87 0 rfl rfl (by omega) (by omega) (by omega))) ?_
  refine Bod.aldnG dc_393_244 (by repeat (first | exact q0 | exact sm_get_p1 | exact sm_get_p2e | refine sm_get_p1m (by decide) (by decide) ?_ | refine sm_get_p1n (by decide) rfl ?_ | refine sm_get_p2n (by decide) (by decide) rfl ?_ | refine sm_get_p2m (by decide) (by decide) (by decide) ?_)) ?_
  refine Bod.get dc_393_245 fr_393_537 (mk_61 _) rfl ?_
  refine Bod.ildnG dc_393_248 (by repeat (first | exact q3 | exact sm_get_p1 | exact sm_get_p2e | refine sm_get_p1m (by decide) (by decide) ?_ | refine sm_get_p1n (by decide) rfl ?_ | refine sm_get_p2n (by decide) (by decide) rfl ?_ | refine sm_get_p2m (by decide) (by decide) (by decide) ?_)) ?_
  refine Bod.baldN ni rfl (by omega) (by omega) dc_393_249 (mk_88 _) (Or.inr rfl) ?_
  refine Bod.eqI (nI e88) (by first | assumption | rfl | exact congrArg nI (by omega) | (simp (disch := omega) only [rIn, rIe, rA, rIA, rLA, rJA, rVI, rQI, rVA, rQA, upd_at,  rAI, rLI, rJI, nI_add, pk_sub, kc_0, kc_1, kc_2, kc_3, kc_4, kc_5, reduceIte, Nat.reduceEqDiff, Nat.add_zero, rI_hold, rI_hold, rL_hold, he87, he88]; done)) ?_
  refine Bod.ifT dc_393_250 rfl (k1_eq_T (k_eq e88 0 rfl rfl (by omega))) ?_
  refine Bod.aldnG dc_393_256 (by repeat (first | exact q0 | exact sm_get_p1 | exact sm_get_p2e | refine sm_get_p1m (by decide) (by decide) ?_ | refine sm_get_p1n (by decide) rfl ?_ | refine sm_get_p2n (by decide) (by decide) rfl ?_ | refine sm_get_p2m (by decide) (by decide) (by decide) ?_)) ?_
  refine Bod.get dc_393_257 fr_393_481 (mk_61 _) rfl ?_
  refine Bod.ildnG dc_393_260 (by repeat (first | exact q3 | exact sm_get_p1 | exact sm_get_p2e | refine sm_get_p1m (by decide) (by decide) ?_ | refine sm_get_p1n (by decide) rfl ?_ | refine sm_get_p2n (by decide) (by decide) rfl ?_ | refine sm_get_p2m (by decide) (by decide) (by decide) ?_)) ?_
  refine Bod.ic 0 (by decide) dc_393_261 ?_
  refine Bod.zastN ni rfl (by omega) (by omega) dc_393_262 (mk_87 _) (sa_87 _ _ _) (mu_A _ _ _ _) ?_
  refine Bod.incN (go + 1) (by rw [kc_1, nI_add]) dc_393_263 (by rw [ml_393]; exact Nat.le_of_ble_eq_true rfl) (by repeat (first | exact q2 | exact sm_get_p1 | exact sm_get_p2e | refine sm_get_p1m (by decide) (by decide) ?_ | refine sm_get_p1n (by decide) rfl ?_ | refine sm_get_p2n (by decide) (by decide) rfl ?_ | refine sm_get_p2m (by decide) (by decide) (by decide) ?_)) ?_
  refine Bod.incN (ni + 1) (by rw [kc_1, nI_add]) dc_393_266 (by rw [ml_393]; exact Nat.le_of_ble_eq_true rfl) (by repeat (first | exact q3 | exact sm_get_p1 | exact sm_get_p2e | refine sm_get_p1m (by decide) (by decide) ?_ | refine sm_get_p1n (by decide) rfl ?_ | refine sm_get_p2n (by decide) (by decide) rfl ?_ | refine sm_get_p2m (by decide) (by decide) (by decide) ?_)) ?_
  refine Bod.go dc_393_269 rfl ?_
  exact hB _ (by repeat (first | exact q0 | exact sm_get_p1 | exact sm_get_p2e | refine sm_get_p1m (by decide) (by decide) ?_ | refine sm_get_p1n (by decide) rfl ?_ | refine sm_get_p2n (by decide) (by decide) rfl ?_ | refine sm_get_p2m (by decide) (by decide) (by decide) ?_)) (by repeat (first | exact q0 | exact sm_get_p1 | exact sm_get_p2e | refine sm_get_p1m (by decide) (by decide) ?_ | refine sm_get_p1n (by decide) rfl ?_ | refine sm_get_p2n (by decide) (by decide) rfl ?_ | refine sm_get_p2m (by decide) (by decide) (by decide) ?_)) (by repeat (first | exact q0 | exact sm_get_p1 | exact sm_get_p2e | refine sm_get_p1m (by decide) (by decide) ?_ | refine sm_get_p1n (by decide) rfl ?_ | refine sm_get_p2n (by decide) (by decide) rfl ?_ | refine sm_get_p2m (by decide) (by decide) (by decide) ?_))
theorem rCoF_4 {d : Nat} {S Sf : cS} {v : Option Value} {lv : sm_L} {go : Nat} {ni : Nat} {e87 : Nat} {e88 : Nat} (q0 : sm_get lv 0 = some (.ref 61)) (q2 : sm_get lv 2 = some (.int (nI go))) (q3 : sm_get lv 3 = some (.int (nI ni))) (mgo : go < 2 ^ 20) (mni : ni < 2 ^ 20) (b1 : ni < 1500) (he87 : sA S 87 ni = nI e87) (me87 : e87 < 2 ^ 20) (b2 : e87 ≠ 0) (he88 : sA S 88 ni = nI e88) (me88 : e88 < 2 ^ 20) (b3 : e88 ≠ 0) (hB : ∀ lv1 : sm_L, sm_get lv1 0 = some (.ref 61) → sm_get lv1 2 = some (.int (nI go)) → sm_get lv1 3 = some (.int (nI (ni + 1))) → Bod (d + 8) 393 228 lv1 [] (S) v Sf) : Bod (d + 8) 393 228 lv [] S v Sf := by
  refine Bod.ildnG dc_393_228 (by repeat (first | exact q3 | exact sm_get_p1 | exact sm_get_p2e | refine sm_get_p1m (by decide) (by decide) ?_ | refine sm_get_p1n (by decide) rfl ?_ | refine sm_get_p2n (by decide) (by decide) rfl ?_ | refine sm_get_p2m (by decide) (by decide) (by decide) ?_)) ?_
  refine Bod.sip 1500 (by decide) dc_393_229 ?_
  refine Bod.icF dc_393_232 rfl (k2_ge_F ni 1500 rfl rfl (by omega) (by omega)) ?_
  refine Bod.aldnG dc_393_235 (by repeat (first | exact q0 | exact sm_get_p1 | exact sm_get_p2e | refine sm_get_p1m (by decide) (by decide) ?_ | refine sm_get_p1n (by decide) rfl ?_ | refine sm_get_p2n (by decide) (by decide) rfl ?_ | refine sm_get_p2m (by decide) (by decide) (by decide) ?_)) ?_
  refine Bod.get dc_393_236 fr_393_481 (mk_61 _) rfl ?_
  refine Bod.ildnG dc_393_239 (by repeat (first | exact q3 | exact sm_get_p1 | exact sm_get_p2e | refine sm_get_p1m (by decide) (by decide) ?_ | refine sm_get_p1n (by decide) rfl ?_ | refine sm_get_p2n (by decide) (by decide) rfl ?_ | refine sm_get_p2m (by decide) (by decide) (by decide) ?_)) ?_
  refine Bod.baldN ni rfl (by omega) (by omega) dc_393_240 (mk_87 _) (Or.inr rfl) ?_
  refine Bod.eqI (nI e87) (by first | assumption | rfl | exact congrArg nI (by omega) | (simp (disch := omega) only [rIn, rIe, rA, rIA, rLA, rJA, rVI, rQI, rVA, rQA, upd_at,  rAI, rLI, rJI, nI_add, pk_sub, kc_0, kc_1, kc_2, kc_3, kc_4, kc_5, reduceIte, Nat.reduceEqDiff, Nat.add_zero, rI_hold, rI_hold, rL_hold, he87]; done)) ?_
  refine Bod.ifF dc_393_241 rfl (k1_eq_F (k_ne e87 0 rfl rfl (by omega) (by omega) (by omega))) ?_
  refine Bod.aldnG dc_393_244 (by repeat (first | exact q0 | exact sm_get_p1 | exact sm_get_p2e | refine sm_get_p1m (by decide) (by decide) ?_ | refine sm_get_p1n (by decide) rfl ?_ | refine sm_get_p2n (by decide) (by decide) rfl ?_ | refine sm_get_p2m (by decide) (by decide) (by decide) ?_)) ?_
  refine Bod.get dc_393_245 fr_393_537 (mk_61 _) rfl ?_
  refine Bod.ildnG dc_393_248 (by repeat (first | exact q3 | exact sm_get_p1 | exact sm_get_p2e | refine sm_get_p1m (by decide) (by decide) ?_ | refine sm_get_p1n (by decide) rfl ?_ | refine sm_get_p2n (by decide) (by decide) rfl ?_ | refine sm_get_p2m (by decide) (by decide) (by decide) ?_)) ?_
  refine Bod.baldN ni rfl (by omega) (by omega) dc_393_249 (mk_88 _) (Or.inr rfl) ?_
  refine Bod.eqI (nI e88) (by first | assumption | rfl | exact congrArg nI (by omega) | (simp (disch := omega) only [rIn, rIe, rA, rIA, rLA, rJA, rVI, rQI, rVA, rQA, upd_at,  rAI, rLI, rJI, nI_add, pk_sub, kc_0, kc_1, kc_2, kc_3, kc_4, kc_5, reduceIte, Nat.reduceEqDiff, Nat.add_zero, rI_hold, rI_hold, rL_hold, he87, he88]; done)) ?_
  refine Bod.ifF dc_393_250 rfl (k1_eq_F (k_ne e88 0 rfl rfl (by omega) (by omega) (by omega))) ?_
  refine Bod.go dc_393_253 rfl ?_
  refine Bod.incN (ni + 1) (by rw [kc_1, nI_add]) dc_393_266 (by rw [ml_393]; exact Nat.le_of_ble_eq_true rfl) (by repeat (first | exact q3 | exact sm_get_p1 | exact sm_get_p2e | refine sm_get_p1m (by decide) (by decide) ?_ | refine sm_get_p1n (by decide) rfl ?_ | refine sm_get_p2n (by decide) (by decide) rfl ?_ | refine sm_get_p2m (by decide) (by decide) (by decide) ?_)) ?_
  refine Bod.go dc_393_269 rfl ?_
  exact hB _ (by repeat (first | exact q0 | exact sm_get_p1 | exact sm_get_p2e | refine sm_get_p1m (by decide) (by decide) ?_ | refine sm_get_p1n (by decide) rfl ?_ | refine sm_get_p2n (by decide) (by decide) rfl ?_ | refine sm_get_p2m (by decide) (by decide) (by decide) ?_)) (by repeat (first | exact q2 | exact sm_get_p1 | exact sm_get_p2e | refine sm_get_p1m (by decide) (by decide) ?_ | refine sm_get_p1n (by decide) rfl ?_ | refine sm_get_p2n (by decide) (by decide) rfl ?_ | refine sm_get_p2m (by decide) (by decide) (by decide) ?_)) (by repeat (first | exact q0 | exact sm_get_p1 | exact sm_get_p2e | refine sm_get_p1m (by decide) (by decide) ?_ | refine sm_get_p1n (by decide) rfl ?_ | refine sm_get_p2n (by decide) (by decide) rfl ?_ | refine sm_get_p2m (by decide) (by decide) (by decide) ?_))
theorem rRc_1 {d : Nat} {S : cS} {k : Nat} {nn : Nat} {e88 : Nat} (mk : k < 2 ^ 20) (mnn : nn < 2 ^ 20) (b1 : k < 1500) (he88 : sA S 88 k = nI e88) (me88 : e88 < 2 ^ 20) (b2 : e88 = 0) (b3 : nn < 1500) : Bod (d + 8) 395 0 [(0, .ref 61), (1, .int (nI k)), (2, .int (nI nn))] [] S (some (.int (nI (nn + 1)))) (wA 90 nn (nI k) (wA 88 k (vp_nar .boolean (nI 1)) S)) := by
  refine Bod.go dc_395_0 rfl ?_
  refine Bod.get dc_395_1 fr_395_537 (mk_61 _) rfl ?_
  refine Bod.go dc_395_4 rfl ?_
  refine Bod.baldN k rfl (by omega) (by omega) dc_395_5 (mk_88 _) (Or.inr rfl) ?_
  refine Bod.eqI (nI e88) (by first | assumption | rfl | exact congrArg nI (by omega) | (simp (disch := omega) only [rIn, rIe, rA, rIA, rLA, rJA, rVI, rQI, rVA, rQA, upd_at,  rAI, rLI, rJI, nI_add, pk_sub, kc_0, kc_1, kc_2, kc_3, kc_4, kc_5, reduceIte, Nat.reduceEqDiff, Nat.add_zero, rI_hold, rI_hold, rL_hold, he88]; done)) ?_
  refine Bod.ifT dc_395_6 rfl (k1_eq_T (k_eq e88 0 rfl rfl (by omega))) ?_
  refine Bod.go dc_395_11 rfl ?_
  refine Bod.get dc_395_12 fr_395_537 (mk_61 _) rfl ?_
  refine Bod.go dc_395_15 rfl ?_
  refine Bod.ic 1 (by decide) dc_395_16 ?_
  refine Bod.zastN k rfl (by omega) (by omega) dc_395_17 (mk_88 _) (sa_88 _ _ _) (mu_A _ _ _ _) ?_
  refine Bod.go dc_395_18 rfl ?_
  refine Bod.get dc_395_19 fr_395_514 (mk_61 _) rfl ?_
  refine Bod.go dc_395_22 rfl ?_
  refine Bod.go dc_395_23 rfl ?_
  refine Bod.iastN nn rfl (by omega) (by omega) dc_395_24 (mk_90 _) (sa_90 _ _ _) (mu_A _ _ _ _) ?_
  refine Bod.go dc_395_25 rfl ?_
  refine Bod.ic 1 (by decide) dc_395_26 ?_
  refine Bod.addN (nn + 1) (by omega) dc_395_27 ?_
  exact Bod.retI dc_395_28 rt_395
theorem rRc_2 {d : Nat} {S : cS} {k : Nat} {nn : Nat} {e88 : Nat} (mk : k < 2 ^ 20) (mnn : nn < 2 ^ 20) (b1 : k < 1500) (he88 : sA S 88 k = nI e88) (me88 : e88 < 2 ^ 20) (b2 : e88 ≠ 0) : Bod (d + 8) 395 0 [(0, .ref 61), (1, .int (nI k)), (2, .int (nI nn))] [] S (some (.int (nI nn))) (S) := by
  refine Bod.go dc_395_0 rfl ?_
  refine Bod.get dc_395_1 fr_395_537 (mk_61 _) rfl ?_
  refine Bod.go dc_395_4 rfl ?_
  refine Bod.baldN k rfl (by omega) (by omega) dc_395_5 (mk_88 _) (Or.inr rfl) ?_
  refine Bod.eqI (nI e88) (by first | assumption | rfl | exact congrArg nI (by omega) | (simp (disch := omega) only [rIn, rIe, rA, rIA, rLA, rJA, rVI, rQI, rVA, rQA, upd_at,  rAI, rLI, rJI, nI_add, pk_sub, kc_0, kc_1, kc_2, kc_3, kc_4, kc_5, reduceIte, Nat.reduceEqDiff, Nat.add_zero, rI_hold, rI_hold, rL_hold, he88]; done)) ?_
  refine Bod.ifF dc_395_6 rfl (k1_eq_F (k_ne e88 0 rfl rfl (by omega) (by omega) (by omega))) ?_
  refine Bod.go dc_395_9 rfl ?_
  exact Bod.retI dc_395_10 rt_395
theorem rBo_1 {d : Nat} {S : cS} {nm : Nat} {S1 : cS} (mnm : nm < 2 ^ 20) (c1 : Ans (d + 8) 357 [.ref 61, .int (nI nm), .retAddr (2 * 35)] S (some (.int (nI 1))) S1) : Bod (d + 8) 356 0 [(0, .ref 61), (1, .int (nI nm))] [] S (some (.int (nI 0))) (S1) := by
  refine Bod.go dc_356_0 rfl ?_
  refine Bod.go dc_356_1 rfl ?_
  refine Bod.ldcT dc_356_2 cs_356_53 ?_
  refine Bod.virt (r := []) dc_356_4 kr_356_55 ⟨Or.inl rfl, ow_357, cl_14⟩ (by rw [np_357]; rfl) (by rw [np_357]; rfl) (ob_of (mk_61 _)) (Nat.le_of_ble_eq_true rfl) (c1  ) ?_
  show Bod _ _ _ _ [_] _ _ _
  refine Bod.ifF dc_356_7 rfl (k1_eq_F (k_ne 1 0 rfl rfl (by omega) (by omega) (by omega))) ?_
  refine Bod.ic 0 (by decide) dc_356_10 ?_
  refine Bod.go dc_356_11 rfl ?_
  exact Bod.retI dc_356_145 rt_356
theorem rBo_2 {d : Nat} {S : cS} {nm : Nat} {S1 : cS} {S2 : cS} (mnm : nm < 2 ^ 20) (c1 : Ans (d + 8) 357 [.ref 61, .int (nI nm), .retAddr (2 * 35)] S (some (.int (nI 0))) S1) (c2 : Ans (d + 8) 357 [.ref 61, .int (nI nm), .retAddr (2 * 36)] S1 (some (.int (nI 1))) S2) : Bod (d + 8) 356 0 [(0, .ref 61), (1, .int (nI nm))] [] S (some (.int (nI 1))) (S2) := by
  refine Bod.go dc_356_0 rfl ?_
  refine Bod.go dc_356_1 rfl ?_
  refine Bod.ldcT dc_356_2 cs_356_53 ?_
  refine Bod.virt (r := []) dc_356_4 kr_356_55 ⟨Or.inl rfl, ow_357, cl_14⟩ (by rw [np_357]; rfl) (by rw [np_357]; rfl) (ob_of (mk_61 _)) (Nat.le_of_ble_eq_true rfl) (c1  ) ?_
  show Bod _ _ _ _ [_] _ _ _
  refine Bod.ifT dc_356_7 rfl (k1_eq_T (k_eq 0 0 rfl rfl (by omega))) ?_
  refine Bod.go dc_356_14 rfl ?_
  refine Bod.go dc_356_15 rfl ?_
  refine Bod.ldcT dc_356_16 cs_356_59 ?_
  refine Bod.virt (r := []) dc_356_18 kr_356_55 ⟨Or.inl rfl, ow_357, cl_14⟩ (by rw [np_357]; rfl) (by rw [np_357]; rfl) (ob_of (mk_61 _)) (Nat.le_of_ble_eq_true rfl) (c2  ) ?_
  show Bod _ _ _ _ [_] _ _ _
  refine Bod.ifF dc_356_21 rfl (k1_eq_F (k_ne 1 0 rfl rfl (by omega) (by omega) (by omega))) ?_
  refine Bod.ic 1 (by decide) dc_356_24 ?_
  refine Bod.go dc_356_25 rfl ?_
  exact Bod.retI dc_356_145 rt_356
theorem rBo_3 {d : Nat} {S : cS} {nm : Nat} {S1 : cS} {S2 : cS} {S3 : cS} (mnm : nm < 2 ^ 20) (c1 : Ans (d + 8) 357 [.ref 61, .int (nI nm), .retAddr (2 * 35)] S (some (.int (nI 0))) S1) (c2 : Ans (d + 8) 357 [.ref 61, .int (nI nm), .retAddr (2 * 36)] S1 (some (.int (nI 0))) S2) (c3 : Ans (d + 8) 357 [.ref 61, .int (nI nm), .retAddr (2 * 37)] S2 (some (.int (nI 1))) S3) : Bod (d + 8) 356 0 [(0, .ref 61), (1, .int (nI nm))] [] S (some (.int (nI 2))) (S3) := by
  refine Bod.go dc_356_0 rfl ?_
  refine Bod.go dc_356_1 rfl ?_
  refine Bod.ldcT dc_356_2 cs_356_53 ?_
  refine Bod.virt (r := []) dc_356_4 kr_356_55 ⟨Or.inl rfl, ow_357, cl_14⟩ (by rw [np_357]; rfl) (by rw [np_357]; rfl) (ob_of (mk_61 _)) (Nat.le_of_ble_eq_true rfl) (c1  ) ?_
  show Bod _ _ _ _ [_] _ _ _
  refine Bod.ifT dc_356_7 rfl (k1_eq_T (k_eq 0 0 rfl rfl (by omega))) ?_
  refine Bod.go dc_356_14 rfl ?_
  refine Bod.go dc_356_15 rfl ?_
  refine Bod.ldcT dc_356_16 cs_356_59 ?_
  refine Bod.virt (r := []) dc_356_18 kr_356_55 ⟨Or.inl rfl, ow_357, cl_14⟩ (by rw [np_357]; rfl) (by rw [np_357]; rfl) (ob_of (mk_61 _)) (Nat.le_of_ble_eq_true rfl) (c2  ) ?_
  show Bod _ _ _ _ [_] _ _ _
  refine Bod.ifT dc_356_21 rfl (k1_eq_T (k_eq 0 0 rfl rfl (by omega))) ?_
  refine Bod.go dc_356_28 rfl ?_
  refine Bod.go dc_356_29 rfl ?_
  refine Bod.ldcT dc_356_30 cs_356_61 ?_
  refine Bod.virt (r := []) dc_356_32 kr_356_55 ⟨Or.inl rfl, ow_357, cl_14⟩ (by rw [np_357]; rfl) (by rw [np_357]; rfl) (ob_of (mk_61 _)) (Nat.le_of_ble_eq_true rfl) (c3  ) ?_
  show Bod _ _ _ _ [_] _ _ _
  refine Bod.ifF dc_356_35 rfl (k1_eq_F (k_ne 1 0 rfl rfl (by omega) (by omega) (by omega))) ?_
  refine Bod.ic 2 (by decide) dc_356_38 ?_
  refine Bod.go dc_356_39 rfl ?_
  exact Bod.retI dc_356_145 rt_356
theorem rBo_4 {d : Nat} {S : cS} {nm : Nat} {S1 : cS} {S2 : cS} {S3 : cS} {S4 : cS} (mnm : nm < 2 ^ 20) (c1 : Ans (d + 8) 357 [.ref 61, .int (nI nm), .retAddr (2 * 35)] S (some (.int (nI 0))) S1) (c2 : Ans (d + 8) 357 [.ref 61, .int (nI nm), .retAddr (2 * 36)] S1 (some (.int (nI 0))) S2) (c3 : Ans (d + 8) 357 [.ref 61, .int (nI nm), .retAddr (2 * 37)] S2 (some (.int (nI 0))) S3) (c4 : Ans (d + 8) 357 [.ref 61, .int (nI nm), .retAddr (2 * 38)] S3 (some (.int (nI 1))) S4) : Bod (d + 8) 356 0 [(0, .ref 61), (1, .int (nI nm))] [] S (some (.int (nI 3))) (S4) := by
  refine Bod.go dc_356_0 rfl ?_
  refine Bod.go dc_356_1 rfl ?_
  refine Bod.ldcT dc_356_2 cs_356_53 ?_
  refine Bod.virt (r := []) dc_356_4 kr_356_55 ⟨Or.inl rfl, ow_357, cl_14⟩ (by rw [np_357]; rfl) (by rw [np_357]; rfl) (ob_of (mk_61 _)) (Nat.le_of_ble_eq_true rfl) (c1  ) ?_
  show Bod _ _ _ _ [_] _ _ _
  refine Bod.ifT dc_356_7 rfl (k1_eq_T (k_eq 0 0 rfl rfl (by omega))) ?_
  refine Bod.go dc_356_14 rfl ?_
  refine Bod.go dc_356_15 rfl ?_
  refine Bod.ldcT dc_356_16 cs_356_59 ?_
  refine Bod.virt (r := []) dc_356_18 kr_356_55 ⟨Or.inl rfl, ow_357, cl_14⟩ (by rw [np_357]; rfl) (by rw [np_357]; rfl) (ob_of (mk_61 _)) (Nat.le_of_ble_eq_true rfl) (c2  ) ?_
  show Bod _ _ _ _ [_] _ _ _
  refine Bod.ifT dc_356_21 rfl (k1_eq_T (k_eq 0 0 rfl rfl (by omega))) ?_
  refine Bod.go dc_356_28 rfl ?_
  refine Bod.go dc_356_29 rfl ?_
  refine Bod.ldcT dc_356_30 cs_356_61 ?_
  refine Bod.virt (r := []) dc_356_32 kr_356_55 ⟨Or.inl rfl, ow_357, cl_14⟩ (by rw [np_357]; rfl) (by rw [np_357]; rfl) (ob_of (mk_61 _)) (Nat.le_of_ble_eq_true rfl) (c3  ) ?_
  show Bod _ _ _ _ [_] _ _ _
  refine Bod.ifT dc_356_35 rfl (k1_eq_T (k_eq 0 0 rfl rfl (by omega))) ?_
  refine Bod.go dc_356_42 rfl ?_
  refine Bod.go dc_356_43 rfl ?_
  refine Bod.ldcT dc_356_44 cs_356_63 ?_
  refine Bod.virt (r := []) dc_356_46 kr_356_55 ⟨Or.inl rfl, ow_357, cl_14⟩ (by rw [np_357]; rfl) (by rw [np_357]; rfl) (ob_of (mk_61 _)) (Nat.le_of_ble_eq_true rfl) (c4  ) ?_
  show Bod _ _ _ _ [_] _ _ _
  refine Bod.ifF dc_356_49 rfl (k1_eq_F (k_ne 1 0 rfl rfl (by omega) (by omega) (by omega))) ?_
  refine Bod.ic 3 (by decide) dc_356_52 ?_
  refine Bod.go dc_356_53 rfl ?_
  exact Bod.retI dc_356_145 rt_356
theorem rBo_5 {d : Nat} {S : cS} {nm : Nat} {S1 : cS} {S2 : cS} {S3 : cS} {S4 : cS} {S5 : cS} (mnm : nm < 2 ^ 20) (c1 : Ans (d + 8) 357 [.ref 61, .int (nI nm), .retAddr (2 * 35)] S (some (.int (nI 0))) S1) (c2 : Ans (d + 8) 357 [.ref 61, .int (nI nm), .retAddr (2 * 36)] S1 (some (.int (nI 0))) S2) (c3 : Ans (d + 8) 357 [.ref 61, .int (nI nm), .retAddr (2 * 37)] S2 (some (.int (nI 0))) S3) (c4 : Ans (d + 8) 357 [.ref 61, .int (nI nm), .retAddr (2 * 38)] S3 (some (.int (nI 0))) S4) (c5 : Ans (d + 8) 357 [.ref 61, .int (nI nm), .retAddr (2 * 39)] S4 (some (.int (nI 1))) S5) : Bod (d + 8) 356 0 [(0, .ref 61), (1, .int (nI nm))] [] S (some (.int (nI 4))) (S5) := by
  refine Bod.go dc_356_0 rfl ?_
  refine Bod.go dc_356_1 rfl ?_
  refine Bod.ldcT dc_356_2 cs_356_53 ?_
  refine Bod.virt (r := []) dc_356_4 kr_356_55 ⟨Or.inl rfl, ow_357, cl_14⟩ (by rw [np_357]; rfl) (by rw [np_357]; rfl) (ob_of (mk_61 _)) (Nat.le_of_ble_eq_true rfl) (c1  ) ?_
  show Bod _ _ _ _ [_] _ _ _
  refine Bod.ifT dc_356_7 rfl (k1_eq_T (k_eq 0 0 rfl rfl (by omega))) ?_
  refine Bod.go dc_356_14 rfl ?_
  refine Bod.go dc_356_15 rfl ?_
  refine Bod.ldcT dc_356_16 cs_356_59 ?_
  refine Bod.virt (r := []) dc_356_18 kr_356_55 ⟨Or.inl rfl, ow_357, cl_14⟩ (by rw [np_357]; rfl) (by rw [np_357]; rfl) (ob_of (mk_61 _)) (Nat.le_of_ble_eq_true rfl) (c2  ) ?_
  show Bod _ _ _ _ [_] _ _ _
  refine Bod.ifT dc_356_21 rfl (k1_eq_T (k_eq 0 0 rfl rfl (by omega))) ?_
  refine Bod.go dc_356_28 rfl ?_
  refine Bod.go dc_356_29 rfl ?_
  refine Bod.ldcT dc_356_30 cs_356_61 ?_
  refine Bod.virt (r := []) dc_356_32 kr_356_55 ⟨Or.inl rfl, ow_357, cl_14⟩ (by rw [np_357]; rfl) (by rw [np_357]; rfl) (ob_of (mk_61 _)) (Nat.le_of_ble_eq_true rfl) (c3  ) ?_
  show Bod _ _ _ _ [_] _ _ _
  refine Bod.ifT dc_356_35 rfl (k1_eq_T (k_eq 0 0 rfl rfl (by omega))) ?_
  refine Bod.go dc_356_42 rfl ?_
  refine Bod.go dc_356_43 rfl ?_
  refine Bod.ldcT dc_356_44 cs_356_63 ?_
  refine Bod.virt (r := []) dc_356_46 kr_356_55 ⟨Or.inl rfl, ow_357, cl_14⟩ (by rw [np_357]; rfl) (by rw [np_357]; rfl) (ob_of (mk_61 _)) (Nat.le_of_ble_eq_true rfl) (c4  ) ?_
  show Bod _ _ _ _ [_] _ _ _
  refine Bod.ifT dc_356_49 rfl (k1_eq_T (k_eq 0 0 rfl rfl (by omega))) ?_
  refine Bod.go dc_356_56 rfl ?_
  refine Bod.go dc_356_57 rfl ?_
  refine Bod.ldcT dc_356_58 cs_356_65 ?_
  refine Bod.virt (r := []) dc_356_60 kr_356_55 ⟨Or.inl rfl, ow_357, cl_14⟩ (by rw [np_357]; rfl) (by rw [np_357]; rfl) (ob_of (mk_61 _)) (Nat.le_of_ble_eq_true rfl) (c5  ) ?_
  show Bod _ _ _ _ [_] _ _ _
  refine Bod.ifF dc_356_63 rfl (k1_eq_F (k_ne 1 0 rfl rfl (by omega) (by omega) (by omega))) ?_
  refine Bod.ic 4 (by decide) dc_356_66 ?_
  refine Bod.go dc_356_67 rfl ?_
  exact Bod.retI dc_356_145 rt_356
theorem rBo_6 {d : Nat} {S : cS} {nm : Nat} {S1 : cS} {S2 : cS} {S3 : cS} {S4 : cS} {S5 : cS} {S6 : cS} (mnm : nm < 2 ^ 20) (c1 : Ans (d + 8) 357 [.ref 61, .int (nI nm), .retAddr (2 * 35)] S (some (.int (nI 0))) S1) (c2 : Ans (d + 8) 357 [.ref 61, .int (nI nm), .retAddr (2 * 36)] S1 (some (.int (nI 0))) S2) (c3 : Ans (d + 8) 357 [.ref 61, .int (nI nm), .retAddr (2 * 37)] S2 (some (.int (nI 0))) S3) (c4 : Ans (d + 8) 357 [.ref 61, .int (nI nm), .retAddr (2 * 38)] S3 (some (.int (nI 0))) S4) (c5 : Ans (d + 8) 357 [.ref 61, .int (nI nm), .retAddr (2 * 39)] S4 (some (.int (nI 0))) S5) (c6 : Ans (d + 8) 357 [.ref 61, .int (nI nm), .retAddr (2 * 40)] S5 (some (.int (nI 1))) S6) : Bod (d + 8) 356 0 [(0, .ref 61), (1, .int (nI nm))] [] S (some (.int (nI 5))) (S6) := by
  refine Bod.go dc_356_0 rfl ?_
  refine Bod.go dc_356_1 rfl ?_
  refine Bod.ldcT dc_356_2 cs_356_53 ?_
  refine Bod.virt (r := []) dc_356_4 kr_356_55 ⟨Or.inl rfl, ow_357, cl_14⟩ (by rw [np_357]; rfl) (by rw [np_357]; rfl) (ob_of (mk_61 _)) (Nat.le_of_ble_eq_true rfl) (c1  ) ?_
  show Bod _ _ _ _ [_] _ _ _
  refine Bod.ifT dc_356_7 rfl (k1_eq_T (k_eq 0 0 rfl rfl (by omega))) ?_
  refine Bod.go dc_356_14 rfl ?_
  refine Bod.go dc_356_15 rfl ?_
  refine Bod.ldcT dc_356_16 cs_356_59 ?_
  refine Bod.virt (r := []) dc_356_18 kr_356_55 ⟨Or.inl rfl, ow_357, cl_14⟩ (by rw [np_357]; rfl) (by rw [np_357]; rfl) (ob_of (mk_61 _)) (Nat.le_of_ble_eq_true rfl) (c2  ) ?_
  show Bod _ _ _ _ [_] _ _ _
  refine Bod.ifT dc_356_21 rfl (k1_eq_T (k_eq 0 0 rfl rfl (by omega))) ?_
  refine Bod.go dc_356_28 rfl ?_
  refine Bod.go dc_356_29 rfl ?_
  refine Bod.ldcT dc_356_30 cs_356_61 ?_
  refine Bod.virt (r := []) dc_356_32 kr_356_55 ⟨Or.inl rfl, ow_357, cl_14⟩ (by rw [np_357]; rfl) (by rw [np_357]; rfl) (ob_of (mk_61 _)) (Nat.le_of_ble_eq_true rfl) (c3  ) ?_
  show Bod _ _ _ _ [_] _ _ _
  refine Bod.ifT dc_356_35 rfl (k1_eq_T (k_eq 0 0 rfl rfl (by omega))) ?_
  refine Bod.go dc_356_42 rfl ?_
  refine Bod.go dc_356_43 rfl ?_
  refine Bod.ldcT dc_356_44 cs_356_63 ?_
  refine Bod.virt (r := []) dc_356_46 kr_356_55 ⟨Or.inl rfl, ow_357, cl_14⟩ (by rw [np_357]; rfl) (by rw [np_357]; rfl) (ob_of (mk_61 _)) (Nat.le_of_ble_eq_true rfl) (c4  ) ?_
  show Bod _ _ _ _ [_] _ _ _
  refine Bod.ifT dc_356_49 rfl (k1_eq_T (k_eq 0 0 rfl rfl (by omega))) ?_
  refine Bod.go dc_356_56 rfl ?_
  refine Bod.go dc_356_57 rfl ?_
  refine Bod.ldcT dc_356_58 cs_356_65 ?_
  refine Bod.virt (r := []) dc_356_60 kr_356_55 ⟨Or.inl rfl, ow_357, cl_14⟩ (by rw [np_357]; rfl) (by rw [np_357]; rfl) (ob_of (mk_61 _)) (Nat.le_of_ble_eq_true rfl) (c5  ) ?_
  show Bod _ _ _ _ [_] _ _ _
  refine Bod.ifT dc_356_63 rfl (k1_eq_T (k_eq 0 0 rfl rfl (by omega))) ?_
  refine Bod.go dc_356_70 rfl ?_
  refine Bod.go dc_356_71 rfl ?_
  refine Bod.ldcT dc_356_72 cs_356_67 ?_
  refine Bod.virt (r := []) dc_356_74 kr_356_55 ⟨Or.inl rfl, ow_357, cl_14⟩ (by rw [np_357]; rfl) (by rw [np_357]; rfl) (ob_of (mk_61 _)) (Nat.le_of_ble_eq_true rfl) (c6  ) ?_
  show Bod _ _ _ _ [_] _ _ _
  refine Bod.ifF dc_356_77 rfl (k1_eq_F (k_ne 1 0 rfl rfl (by omega) (by omega) (by omega))) ?_
  refine Bod.ic 5 (by decide) dc_356_80 ?_
  refine Bod.go dc_356_81 rfl ?_
  exact Bod.retI dc_356_145 rt_356
theorem rBo_7 {d : Nat} {S : cS} {nm : Nat} {S1 : cS} {S2 : cS} {S3 : cS} {S4 : cS} {S5 : cS} {S6 : cS} {S7 : cS} (mnm : nm < 2 ^ 20) (c1 : Ans (d + 8) 357 [.ref 61, .int (nI nm), .retAddr (2 * 35)] S (some (.int (nI 0))) S1) (c2 : Ans (d + 8) 357 [.ref 61, .int (nI nm), .retAddr (2 * 36)] S1 (some (.int (nI 0))) S2) (c3 : Ans (d + 8) 357 [.ref 61, .int (nI nm), .retAddr (2 * 37)] S2 (some (.int (nI 0))) S3) (c4 : Ans (d + 8) 357 [.ref 61, .int (nI nm), .retAddr (2 * 38)] S3 (some (.int (nI 0))) S4) (c5 : Ans (d + 8) 357 [.ref 61, .int (nI nm), .retAddr (2 * 39)] S4 (some (.int (nI 0))) S5) (c6 : Ans (d + 8) 357 [.ref 61, .int (nI nm), .retAddr (2 * 40)] S5 (some (.int (nI 0))) S6) (c7 : Ans (d + 8) 357 [.ref 61, .int (nI nm), .retAddr (2 * 41)] S6 (some (.int (nI 1))) S7) : Bod (d + 8) 356 0 [(0, .ref 61), (1, .int (nI nm))] [] S (some (.int (nI 6))) (S7) := by
  refine Bod.go dc_356_0 rfl ?_
  refine Bod.go dc_356_1 rfl ?_
  refine Bod.ldcT dc_356_2 cs_356_53 ?_
  refine Bod.virt (r := []) dc_356_4 kr_356_55 ⟨Or.inl rfl, ow_357, cl_14⟩ (by rw [np_357]; rfl) (by rw [np_357]; rfl) (ob_of (mk_61 _)) (Nat.le_of_ble_eq_true rfl) (c1  ) ?_
  show Bod _ _ _ _ [_] _ _ _
  refine Bod.ifT dc_356_7 rfl (k1_eq_T (k_eq 0 0 rfl rfl (by omega))) ?_
  refine Bod.go dc_356_14 rfl ?_
  refine Bod.go dc_356_15 rfl ?_
  refine Bod.ldcT dc_356_16 cs_356_59 ?_
  refine Bod.virt (r := []) dc_356_18 kr_356_55 ⟨Or.inl rfl, ow_357, cl_14⟩ (by rw [np_357]; rfl) (by rw [np_357]; rfl) (ob_of (mk_61 _)) (Nat.le_of_ble_eq_true rfl) (c2  ) ?_
  show Bod _ _ _ _ [_] _ _ _
  refine Bod.ifT dc_356_21 rfl (k1_eq_T (k_eq 0 0 rfl rfl (by omega))) ?_
  refine Bod.go dc_356_28 rfl ?_
  refine Bod.go dc_356_29 rfl ?_
  refine Bod.ldcT dc_356_30 cs_356_61 ?_
  refine Bod.virt (r := []) dc_356_32 kr_356_55 ⟨Or.inl rfl, ow_357, cl_14⟩ (by rw [np_357]; rfl) (by rw [np_357]; rfl) (ob_of (mk_61 _)) (Nat.le_of_ble_eq_true rfl) (c3  ) ?_
  show Bod _ _ _ _ [_] _ _ _
  refine Bod.ifT dc_356_35 rfl (k1_eq_T (k_eq 0 0 rfl rfl (by omega))) ?_
  refine Bod.go dc_356_42 rfl ?_
  refine Bod.go dc_356_43 rfl ?_
  refine Bod.ldcT dc_356_44 cs_356_63 ?_
  refine Bod.virt (r := []) dc_356_46 kr_356_55 ⟨Or.inl rfl, ow_357, cl_14⟩ (by rw [np_357]; rfl) (by rw [np_357]; rfl) (ob_of (mk_61 _)) (Nat.le_of_ble_eq_true rfl) (c4  ) ?_
  show Bod _ _ _ _ [_] _ _ _
  refine Bod.ifT dc_356_49 rfl (k1_eq_T (k_eq 0 0 rfl rfl (by omega))) ?_
  refine Bod.go dc_356_56 rfl ?_
  refine Bod.go dc_356_57 rfl ?_
  refine Bod.ldcT dc_356_58 cs_356_65 ?_
  refine Bod.virt (r := []) dc_356_60 kr_356_55 ⟨Or.inl rfl, ow_357, cl_14⟩ (by rw [np_357]; rfl) (by rw [np_357]; rfl) (ob_of (mk_61 _)) (Nat.le_of_ble_eq_true rfl) (c5  ) ?_
  show Bod _ _ _ _ [_] _ _ _
  refine Bod.ifT dc_356_63 rfl (k1_eq_T (k_eq 0 0 rfl rfl (by omega))) ?_
  refine Bod.go dc_356_70 rfl ?_
  refine Bod.go dc_356_71 rfl ?_
  refine Bod.ldcT dc_356_72 cs_356_67 ?_
  refine Bod.virt (r := []) dc_356_74 kr_356_55 ⟨Or.inl rfl, ow_357, cl_14⟩ (by rw [np_357]; rfl) (by rw [np_357]; rfl) (ob_of (mk_61 _)) (Nat.le_of_ble_eq_true rfl) (c6  ) ?_
  show Bod _ _ _ _ [_] _ _ _
  refine Bod.ifT dc_356_77 rfl (k1_eq_T (k_eq 0 0 rfl rfl (by omega))) ?_
  refine Bod.go dc_356_84 rfl ?_
  refine Bod.go dc_356_85 rfl ?_
  refine Bod.ldcT dc_356_86 cs_356_69 ?_
  refine Bod.virt (r := []) dc_356_88 kr_356_55 ⟨Or.inl rfl, ow_357, cl_14⟩ (by rw [np_357]; rfl) (by rw [np_357]; rfl) (ob_of (mk_61 _)) (Nat.le_of_ble_eq_true rfl) (c7  ) ?_
  show Bod _ _ _ _ [_] _ _ _
  refine Bod.ifF dc_356_91 rfl (k1_eq_F (k_ne 1 0 rfl rfl (by omega) (by omega) (by omega))) ?_
  refine Bod.bip 6 (by decide) dc_356_94 ?_
  refine Bod.go dc_356_96 rfl ?_
  exact Bod.retI dc_356_145 rt_356
theorem rBo_8 {d : Nat} {S : cS} {nm : Nat} {S1 : cS} {S2 : cS} {S3 : cS} {S4 : cS} {S5 : cS} {S6 : cS} {S7 : cS} {S8 : cS} (mnm : nm < 2 ^ 20) (c1 : Ans (d + 8) 357 [.ref 61, .int (nI nm), .retAddr (2 * 35)] S (some (.int (nI 0))) S1) (c2 : Ans (d + 8) 357 [.ref 61, .int (nI nm), .retAddr (2 * 36)] S1 (some (.int (nI 0))) S2) (c3 : Ans (d + 8) 357 [.ref 61, .int (nI nm), .retAddr (2 * 37)] S2 (some (.int (nI 0))) S3) (c4 : Ans (d + 8) 357 [.ref 61, .int (nI nm), .retAddr (2 * 38)] S3 (some (.int (nI 0))) S4) (c5 : Ans (d + 8) 357 [.ref 61, .int (nI nm), .retAddr (2 * 39)] S4 (some (.int (nI 0))) S5) (c6 : Ans (d + 8) 357 [.ref 61, .int (nI nm), .retAddr (2 * 40)] S5 (some (.int (nI 0))) S6) (c7 : Ans (d + 8) 357 [.ref 61, .int (nI nm), .retAddr (2 * 41)] S6 (some (.int (nI 0))) S7) (c8 : Ans (d + 8) 357 [.ref 61, .int (nI nm), .retAddr (2 * 42)] S7 (some (.int (nI 1))) S8) : Bod (d + 8) 356 0 [(0, .ref 61), (1, .int (nI nm))] [] S (some (.int (nI 7))) (S8) := by
  refine Bod.go dc_356_0 rfl ?_
  refine Bod.go dc_356_1 rfl ?_
  refine Bod.ldcT dc_356_2 cs_356_53 ?_
  refine Bod.virt (r := []) dc_356_4 kr_356_55 ⟨Or.inl rfl, ow_357, cl_14⟩ (by rw [np_357]; rfl) (by rw [np_357]; rfl) (ob_of (mk_61 _)) (Nat.le_of_ble_eq_true rfl) (c1  ) ?_
  show Bod _ _ _ _ [_] _ _ _
  refine Bod.ifT dc_356_7 rfl (k1_eq_T (k_eq 0 0 rfl rfl (by omega))) ?_
  refine Bod.go dc_356_14 rfl ?_
  refine Bod.go dc_356_15 rfl ?_
  refine Bod.ldcT dc_356_16 cs_356_59 ?_
  refine Bod.virt (r := []) dc_356_18 kr_356_55 ⟨Or.inl rfl, ow_357, cl_14⟩ (by rw [np_357]; rfl) (by rw [np_357]; rfl) (ob_of (mk_61 _)) (Nat.le_of_ble_eq_true rfl) (c2  ) ?_
  show Bod _ _ _ _ [_] _ _ _
  refine Bod.ifT dc_356_21 rfl (k1_eq_T (k_eq 0 0 rfl rfl (by omega))) ?_
  refine Bod.go dc_356_28 rfl ?_
  refine Bod.go dc_356_29 rfl ?_
  refine Bod.ldcT dc_356_30 cs_356_61 ?_
  refine Bod.virt (r := []) dc_356_32 kr_356_55 ⟨Or.inl rfl, ow_357, cl_14⟩ (by rw [np_357]; rfl) (by rw [np_357]; rfl) (ob_of (mk_61 _)) (Nat.le_of_ble_eq_true rfl) (c3  ) ?_
  show Bod _ _ _ _ [_] _ _ _
  refine Bod.ifT dc_356_35 rfl (k1_eq_T (k_eq 0 0 rfl rfl (by omega))) ?_
  refine Bod.go dc_356_42 rfl ?_
  refine Bod.go dc_356_43 rfl ?_
  refine Bod.ldcT dc_356_44 cs_356_63 ?_
  refine Bod.virt (r := []) dc_356_46 kr_356_55 ⟨Or.inl rfl, ow_357, cl_14⟩ (by rw [np_357]; rfl) (by rw [np_357]; rfl) (ob_of (mk_61 _)) (Nat.le_of_ble_eq_true rfl) (c4  ) ?_
  show Bod _ _ _ _ [_] _ _ _
  refine Bod.ifT dc_356_49 rfl (k1_eq_T (k_eq 0 0 rfl rfl (by omega))) ?_
  refine Bod.go dc_356_56 rfl ?_
  refine Bod.go dc_356_57 rfl ?_
  refine Bod.ldcT dc_356_58 cs_356_65 ?_
  refine Bod.virt (r := []) dc_356_60 kr_356_55 ⟨Or.inl rfl, ow_357, cl_14⟩ (by rw [np_357]; rfl) (by rw [np_357]; rfl) (ob_of (mk_61 _)) (Nat.le_of_ble_eq_true rfl) (c5  ) ?_
  show Bod _ _ _ _ [_] _ _ _
  refine Bod.ifT dc_356_63 rfl (k1_eq_T (k_eq 0 0 rfl rfl (by omega))) ?_
  refine Bod.go dc_356_70 rfl ?_
  refine Bod.go dc_356_71 rfl ?_
  refine Bod.ldcT dc_356_72 cs_356_67 ?_
  refine Bod.virt (r := []) dc_356_74 kr_356_55 ⟨Or.inl rfl, ow_357, cl_14⟩ (by rw [np_357]; rfl) (by rw [np_357]; rfl) (ob_of (mk_61 _)) (Nat.le_of_ble_eq_true rfl) (c6  ) ?_
  show Bod _ _ _ _ [_] _ _ _
  refine Bod.ifT dc_356_77 rfl (k1_eq_T (k_eq 0 0 rfl rfl (by omega))) ?_
  refine Bod.go dc_356_84 rfl ?_
  refine Bod.go dc_356_85 rfl ?_
  refine Bod.ldcT dc_356_86 cs_356_69 ?_
  refine Bod.virt (r := []) dc_356_88 kr_356_55 ⟨Or.inl rfl, ow_357, cl_14⟩ (by rw [np_357]; rfl) (by rw [np_357]; rfl) (ob_of (mk_61 _)) (Nat.le_of_ble_eq_true rfl) (c7  ) ?_
  show Bod _ _ _ _ [_] _ _ _
  refine Bod.ifT dc_356_91 rfl (k1_eq_T (k_eq 0 0 rfl rfl (by omega))) ?_
  refine Bod.go dc_356_99 rfl ?_
  refine Bod.go dc_356_100 rfl ?_
  refine Bod.ldcT dc_356_101 cs_356_71 ?_
  refine Bod.virt (r := []) dc_356_103 kr_356_55 ⟨Or.inl rfl, ow_357, cl_14⟩ (by rw [np_357]; rfl) (by rw [np_357]; rfl) (ob_of (mk_61 _)) (Nat.le_of_ble_eq_true rfl) (c8  ) ?_
  show Bod _ _ _ _ [_] _ _ _
  refine Bod.ifF dc_356_106 rfl (k1_eq_F (k_ne 1 0 rfl rfl (by omega) (by omega) (by omega))) ?_
  refine Bod.bip 7 (by decide) dc_356_109 ?_
  refine Bod.go dc_356_111 rfl ?_
  exact Bod.retI dc_356_145 rt_356
theorem rBo_9 {d : Nat} {S : cS} {nm : Nat} {S1 : cS} {S2 : cS} {S3 : cS} {S4 : cS} {S5 : cS} {S6 : cS} {S7 : cS} {S8 : cS} {S9 : cS} (mnm : nm < 2 ^ 20) (c1 : Ans (d + 8) 357 [.ref 61, .int (nI nm), .retAddr (2 * 35)] S (some (.int (nI 0))) S1) (c2 : Ans (d + 8) 357 [.ref 61, .int (nI nm), .retAddr (2 * 36)] S1 (some (.int (nI 0))) S2) (c3 : Ans (d + 8) 357 [.ref 61, .int (nI nm), .retAddr (2 * 37)] S2 (some (.int (nI 0))) S3) (c4 : Ans (d + 8) 357 [.ref 61, .int (nI nm), .retAddr (2 * 38)] S3 (some (.int (nI 0))) S4) (c5 : Ans (d + 8) 357 [.ref 61, .int (nI nm), .retAddr (2 * 39)] S4 (some (.int (nI 0))) S5) (c6 : Ans (d + 8) 357 [.ref 61, .int (nI nm), .retAddr (2 * 40)] S5 (some (.int (nI 0))) S6) (c7 : Ans (d + 8) 357 [.ref 61, .int (nI nm), .retAddr (2 * 41)] S6 (some (.int (nI 0))) S7) (c8 : Ans (d + 8) 357 [.ref 61, .int (nI nm), .retAddr (2 * 42)] S7 (some (.int (nI 0))) S8) (c9 : Ans (d + 8) 357 [.ref 61, .int (nI nm), .retAddr (2 * 43)] S8 (some (.int (nI 1))) S9) : Bod (d + 8) 356 0 [(0, .ref 61), (1, .int (nI nm))] [] S (some (.int (nI 8))) (S9) := by
  refine Bod.go dc_356_0 rfl ?_
  refine Bod.go dc_356_1 rfl ?_
  refine Bod.ldcT dc_356_2 cs_356_53 ?_
  refine Bod.virt (r := []) dc_356_4 kr_356_55 ⟨Or.inl rfl, ow_357, cl_14⟩ (by rw [np_357]; rfl) (by rw [np_357]; rfl) (ob_of (mk_61 _)) (Nat.le_of_ble_eq_true rfl) (c1  ) ?_
  show Bod _ _ _ _ [_] _ _ _
  refine Bod.ifT dc_356_7 rfl (k1_eq_T (k_eq 0 0 rfl rfl (by omega))) ?_
  refine Bod.go dc_356_14 rfl ?_
  refine Bod.go dc_356_15 rfl ?_
  refine Bod.ldcT dc_356_16 cs_356_59 ?_
  refine Bod.virt (r := []) dc_356_18 kr_356_55 ⟨Or.inl rfl, ow_357, cl_14⟩ (by rw [np_357]; rfl) (by rw [np_357]; rfl) (ob_of (mk_61 _)) (Nat.le_of_ble_eq_true rfl) (c2  ) ?_
  show Bod _ _ _ _ [_] _ _ _
  refine Bod.ifT dc_356_21 rfl (k1_eq_T (k_eq 0 0 rfl rfl (by omega))) ?_
  refine Bod.go dc_356_28 rfl ?_
  refine Bod.go dc_356_29 rfl ?_
  refine Bod.ldcT dc_356_30 cs_356_61 ?_
  refine Bod.virt (r := []) dc_356_32 kr_356_55 ⟨Or.inl rfl, ow_357, cl_14⟩ (by rw [np_357]; rfl) (by rw [np_357]; rfl) (ob_of (mk_61 _)) (Nat.le_of_ble_eq_true rfl) (c3  ) ?_
  show Bod _ _ _ _ [_] _ _ _
  refine Bod.ifT dc_356_35 rfl (k1_eq_T (k_eq 0 0 rfl rfl (by omega))) ?_
  refine Bod.go dc_356_42 rfl ?_
  refine Bod.go dc_356_43 rfl ?_
  refine Bod.ldcT dc_356_44 cs_356_63 ?_
  refine Bod.virt (r := []) dc_356_46 kr_356_55 ⟨Or.inl rfl, ow_357, cl_14⟩ (by rw [np_357]; rfl) (by rw [np_357]; rfl) (ob_of (mk_61 _)) (Nat.le_of_ble_eq_true rfl) (c4  ) ?_
  show Bod _ _ _ _ [_] _ _ _
  refine Bod.ifT dc_356_49 rfl (k1_eq_T (k_eq 0 0 rfl rfl (by omega))) ?_
  refine Bod.go dc_356_56 rfl ?_
  refine Bod.go dc_356_57 rfl ?_
  refine Bod.ldcT dc_356_58 cs_356_65 ?_
  refine Bod.virt (r := []) dc_356_60 kr_356_55 ⟨Or.inl rfl, ow_357, cl_14⟩ (by rw [np_357]; rfl) (by rw [np_357]; rfl) (ob_of (mk_61 _)) (Nat.le_of_ble_eq_true rfl) (c5  ) ?_
  show Bod _ _ _ _ [_] _ _ _
  refine Bod.ifT dc_356_63 rfl (k1_eq_T (k_eq 0 0 rfl rfl (by omega))) ?_
  refine Bod.go dc_356_70 rfl ?_
  refine Bod.go dc_356_71 rfl ?_
  refine Bod.ldcT dc_356_72 cs_356_67 ?_
  refine Bod.virt (r := []) dc_356_74 kr_356_55 ⟨Or.inl rfl, ow_357, cl_14⟩ (by rw [np_357]; rfl) (by rw [np_357]; rfl) (ob_of (mk_61 _)) (Nat.le_of_ble_eq_true rfl) (c6  ) ?_
  show Bod _ _ _ _ [_] _ _ _
  refine Bod.ifT dc_356_77 rfl (k1_eq_T (k_eq 0 0 rfl rfl (by omega))) ?_
  refine Bod.go dc_356_84 rfl ?_
  refine Bod.go dc_356_85 rfl ?_
  refine Bod.ldcT dc_356_86 cs_356_69 ?_
  refine Bod.virt (r := []) dc_356_88 kr_356_55 ⟨Or.inl rfl, ow_357, cl_14⟩ (by rw [np_357]; rfl) (by rw [np_357]; rfl) (ob_of (mk_61 _)) (Nat.le_of_ble_eq_true rfl) (c7  ) ?_
  show Bod _ _ _ _ [_] _ _ _
  refine Bod.ifT dc_356_91 rfl (k1_eq_T (k_eq 0 0 rfl rfl (by omega))) ?_
  refine Bod.go dc_356_99 rfl ?_
  refine Bod.go dc_356_100 rfl ?_
  refine Bod.ldcT dc_356_101 cs_356_71 ?_
  refine Bod.virt (r := []) dc_356_103 kr_356_55 ⟨Or.inl rfl, ow_357, cl_14⟩ (by rw [np_357]; rfl) (by rw [np_357]; rfl) (ob_of (mk_61 _)) (Nat.le_of_ble_eq_true rfl) (c8  ) ?_
  show Bod _ _ _ _ [_] _ _ _
  refine Bod.ifT dc_356_106 rfl (k1_eq_T (k_eq 0 0 rfl rfl (by omega))) ?_
  refine Bod.go dc_356_114 rfl ?_
  refine Bod.go dc_356_115 rfl ?_
  refine Bod.ldcT dc_356_116 cs_356_73 ?_
  refine Bod.virt (r := []) dc_356_118 kr_356_55 ⟨Or.inl rfl, ow_357, cl_14⟩ (by rw [np_357]; rfl) (by rw [np_357]; rfl) (ob_of (mk_61 _)) (Nat.le_of_ble_eq_true rfl) (c9  ) ?_
  show Bod _ _ _ _ [_] _ _ _
  refine Bod.ifF dc_356_121 rfl (k1_eq_F (k_ne 1 0 rfl rfl (by omega) (by omega) (by omega))) ?_
  refine Bod.bip 8 (by decide) dc_356_124 ?_
  refine Bod.go dc_356_126 rfl ?_
  exact Bod.retI dc_356_145 rt_356
theorem rBo_10 {d : Nat} {S : cS} {nm : Nat} {S1 : cS} {S2 : cS} {S3 : cS} {S4 : cS} {S5 : cS} {S6 : cS} {S7 : cS} {S8 : cS} {S9 : cS} {S10 : cS} (mnm : nm < 2 ^ 20) (c1 : Ans (d + 8) 357 [.ref 61, .int (nI nm), .retAddr (2 * 35)] S (some (.int (nI 0))) S1) (c2 : Ans (d + 8) 357 [.ref 61, .int (nI nm), .retAddr (2 * 36)] S1 (some (.int (nI 0))) S2) (c3 : Ans (d + 8) 357 [.ref 61, .int (nI nm), .retAddr (2 * 37)] S2 (some (.int (nI 0))) S3) (c4 : Ans (d + 8) 357 [.ref 61, .int (nI nm), .retAddr (2 * 38)] S3 (some (.int (nI 0))) S4) (c5 : Ans (d + 8) 357 [.ref 61, .int (nI nm), .retAddr (2 * 39)] S4 (some (.int (nI 0))) S5) (c6 : Ans (d + 8) 357 [.ref 61, .int (nI nm), .retAddr (2 * 40)] S5 (some (.int (nI 0))) S6) (c7 : Ans (d + 8) 357 [.ref 61, .int (nI nm), .retAddr (2 * 41)] S6 (some (.int (nI 0))) S7) (c8 : Ans (d + 8) 357 [.ref 61, .int (nI nm), .retAddr (2 * 42)] S7 (some (.int (nI 0))) S8) (c9 : Ans (d + 8) 357 [.ref 61, .int (nI nm), .retAddr (2 * 43)] S8 (some (.int (nI 0))) S9) (c10 : Ans (d + 8) 357 [.ref 61, .int (nI nm), .retAddr (2 * 44)] S9 (some (.int (nI 1))) S10) : Bod (d + 8) 356 0 [(0, .ref 61), (1, .int (nI nm))] [] S (some (.int (nI 9))) (S10) := by
  refine Bod.go dc_356_0 rfl ?_
  refine Bod.go dc_356_1 rfl ?_
  refine Bod.ldcT dc_356_2 cs_356_53 ?_
  refine Bod.virt (r := []) dc_356_4 kr_356_55 ⟨Or.inl rfl, ow_357, cl_14⟩ (by rw [np_357]; rfl) (by rw [np_357]; rfl) (ob_of (mk_61 _)) (Nat.le_of_ble_eq_true rfl) (c1  ) ?_
  show Bod _ _ _ _ [_] _ _ _
  refine Bod.ifT dc_356_7 rfl (k1_eq_T (k_eq 0 0 rfl rfl (by omega))) ?_
  refine Bod.go dc_356_14 rfl ?_
  refine Bod.go dc_356_15 rfl ?_
  refine Bod.ldcT dc_356_16 cs_356_59 ?_
  refine Bod.virt (r := []) dc_356_18 kr_356_55 ⟨Or.inl rfl, ow_357, cl_14⟩ (by rw [np_357]; rfl) (by rw [np_357]; rfl) (ob_of (mk_61 _)) (Nat.le_of_ble_eq_true rfl) (c2  ) ?_
  show Bod _ _ _ _ [_] _ _ _
  refine Bod.ifT dc_356_21 rfl (k1_eq_T (k_eq 0 0 rfl rfl (by omega))) ?_
  refine Bod.go dc_356_28 rfl ?_
  refine Bod.go dc_356_29 rfl ?_
  refine Bod.ldcT dc_356_30 cs_356_61 ?_
  refine Bod.virt (r := []) dc_356_32 kr_356_55 ⟨Or.inl rfl, ow_357, cl_14⟩ (by rw [np_357]; rfl) (by rw [np_357]; rfl) (ob_of (mk_61 _)) (Nat.le_of_ble_eq_true rfl) (c3  ) ?_
  show Bod _ _ _ _ [_] _ _ _
  refine Bod.ifT dc_356_35 rfl (k1_eq_T (k_eq 0 0 rfl rfl (by omega))) ?_
  refine Bod.go dc_356_42 rfl ?_
  refine Bod.go dc_356_43 rfl ?_
  refine Bod.ldcT dc_356_44 cs_356_63 ?_
  refine Bod.virt (r := []) dc_356_46 kr_356_55 ⟨Or.inl rfl, ow_357, cl_14⟩ (by rw [np_357]; rfl) (by rw [np_357]; rfl) (ob_of (mk_61 _)) (Nat.le_of_ble_eq_true rfl) (c4  ) ?_
  show Bod _ _ _ _ [_] _ _ _
  refine Bod.ifT dc_356_49 rfl (k1_eq_T (k_eq 0 0 rfl rfl (by omega))) ?_
  refine Bod.go dc_356_56 rfl ?_
  refine Bod.go dc_356_57 rfl ?_
  refine Bod.ldcT dc_356_58 cs_356_65 ?_
  refine Bod.virt (r := []) dc_356_60 kr_356_55 ⟨Or.inl rfl, ow_357, cl_14⟩ (by rw [np_357]; rfl) (by rw [np_357]; rfl) (ob_of (mk_61 _)) (Nat.le_of_ble_eq_true rfl) (c5  ) ?_
  show Bod _ _ _ _ [_] _ _ _
  refine Bod.ifT dc_356_63 rfl (k1_eq_T (k_eq 0 0 rfl rfl (by omega))) ?_
  refine Bod.go dc_356_70 rfl ?_
  refine Bod.go dc_356_71 rfl ?_
  refine Bod.ldcT dc_356_72 cs_356_67 ?_
  refine Bod.virt (r := []) dc_356_74 kr_356_55 ⟨Or.inl rfl, ow_357, cl_14⟩ (by rw [np_357]; rfl) (by rw [np_357]; rfl) (ob_of (mk_61 _)) (Nat.le_of_ble_eq_true rfl) (c6  ) ?_
  show Bod _ _ _ _ [_] _ _ _
  refine Bod.ifT dc_356_77 rfl (k1_eq_T (k_eq 0 0 rfl rfl (by omega))) ?_
  refine Bod.go dc_356_84 rfl ?_
  refine Bod.go dc_356_85 rfl ?_
  refine Bod.ldcT dc_356_86 cs_356_69 ?_
  refine Bod.virt (r := []) dc_356_88 kr_356_55 ⟨Or.inl rfl, ow_357, cl_14⟩ (by rw [np_357]; rfl) (by rw [np_357]; rfl) (ob_of (mk_61 _)) (Nat.le_of_ble_eq_true rfl) (c7  ) ?_
  show Bod _ _ _ _ [_] _ _ _
  refine Bod.ifT dc_356_91 rfl (k1_eq_T (k_eq 0 0 rfl rfl (by omega))) ?_
  refine Bod.go dc_356_99 rfl ?_
  refine Bod.go dc_356_100 rfl ?_
  refine Bod.ldcT dc_356_101 cs_356_71 ?_
  refine Bod.virt (r := []) dc_356_103 kr_356_55 ⟨Or.inl rfl, ow_357, cl_14⟩ (by rw [np_357]; rfl) (by rw [np_357]; rfl) (ob_of (mk_61 _)) (Nat.le_of_ble_eq_true rfl) (c8  ) ?_
  show Bod _ _ _ _ [_] _ _ _
  refine Bod.ifT dc_356_106 rfl (k1_eq_T (k_eq 0 0 rfl rfl (by omega))) ?_
  refine Bod.go dc_356_114 rfl ?_
  refine Bod.go dc_356_115 rfl ?_
  refine Bod.ldcT dc_356_116 cs_356_73 ?_
  refine Bod.virt (r := []) dc_356_118 kr_356_55 ⟨Or.inl rfl, ow_357, cl_14⟩ (by rw [np_357]; rfl) (by rw [np_357]; rfl) (ob_of (mk_61 _)) (Nat.le_of_ble_eq_true rfl) (c9  ) ?_
  show Bod _ _ _ _ [_] _ _ _
  refine Bod.ifT dc_356_121 rfl (k1_eq_T (k_eq 0 0 rfl rfl (by omega))) ?_
  refine Bod.go dc_356_129 rfl ?_
  refine Bod.go dc_356_130 rfl ?_
  refine Bod.ldcT dc_356_131 cs_356_75 ?_
  refine Bod.virt (r := []) dc_356_133 kr_356_55 ⟨Or.inl rfl, ow_357, cl_14⟩ (by rw [np_357]; rfl) (by rw [np_357]; rfl) (ob_of (mk_61 _)) (Nat.le_of_ble_eq_true rfl) (c10  ) ?_
  show Bod _ _ _ _ [_] _ _ _
  refine Bod.ifF dc_356_136 rfl (k1_eq_F (k_ne 1 0 rfl rfl (by omega) (by omega) (by omega))) ?_
  refine Bod.bip 9 (by decide) dc_356_139 ?_
  refine Bod.go dc_356_141 rfl ?_
  exact Bod.retI dc_356_145 rt_356
theorem rBo_11 {d : Nat} {S : cS} {nm : Nat} {S1 : cS} {S2 : cS} {S3 : cS} {S4 : cS} {S5 : cS} {S6 : cS} {S7 : cS} {S8 : cS} {S9 : cS} {S10 : cS} (mnm : nm < 2 ^ 20) (c1 : Ans (d + 8) 357 [.ref 61, .int (nI nm), .retAddr (2 * 35)] S (some (.int (nI 0))) S1) (c2 : Ans (d + 8) 357 [.ref 61, .int (nI nm), .retAddr (2 * 36)] S1 (some (.int (nI 0))) S2) (c3 : Ans (d + 8) 357 [.ref 61, .int (nI nm), .retAddr (2 * 37)] S2 (some (.int (nI 0))) S3) (c4 : Ans (d + 8) 357 [.ref 61, .int (nI nm), .retAddr (2 * 38)] S3 (some (.int (nI 0))) S4) (c5 : Ans (d + 8) 357 [.ref 61, .int (nI nm), .retAddr (2 * 39)] S4 (some (.int (nI 0))) S5) (c6 : Ans (d + 8) 357 [.ref 61, .int (nI nm), .retAddr (2 * 40)] S5 (some (.int (nI 0))) S6) (c7 : Ans (d + 8) 357 [.ref 61, .int (nI nm), .retAddr (2 * 41)] S6 (some (.int (nI 0))) S7) (c8 : Ans (d + 8) 357 [.ref 61, .int (nI nm), .retAddr (2 * 42)] S7 (some (.int (nI 0))) S8) (c9 : Ans (d + 8) 357 [.ref 61, .int (nI nm), .retAddr (2 * 43)] S8 (some (.int (nI 0))) S9) (c10 : Ans (d + 8) 357 [.ref 61, .int (nI nm), .retAddr (2 * 44)] S9 (some (.int (nI 0))) S10) : Bod (d + 8) 356 0 [(0, .ref 61), (1, .int (nI nm))] [] S (some (.int (Int32.ofInt (-1)))) (S10) := by
  refine Bod.go dc_356_0 rfl ?_
  refine Bod.go dc_356_1 rfl ?_
  refine Bod.ldcT dc_356_2 cs_356_53 ?_
  refine Bod.virt (r := []) dc_356_4 kr_356_55 ⟨Or.inl rfl, ow_357, cl_14⟩ (by rw [np_357]; rfl) (by rw [np_357]; rfl) (ob_of (mk_61 _)) (Nat.le_of_ble_eq_true rfl) (c1  ) ?_
  show Bod _ _ _ _ [_] _ _ _
  refine Bod.ifT dc_356_7 rfl (k1_eq_T (k_eq 0 0 rfl rfl (by omega))) ?_
  refine Bod.go dc_356_14 rfl ?_
  refine Bod.go dc_356_15 rfl ?_
  refine Bod.ldcT dc_356_16 cs_356_59 ?_
  refine Bod.virt (r := []) dc_356_18 kr_356_55 ⟨Or.inl rfl, ow_357, cl_14⟩ (by rw [np_357]; rfl) (by rw [np_357]; rfl) (ob_of (mk_61 _)) (Nat.le_of_ble_eq_true rfl) (c2  ) ?_
  show Bod _ _ _ _ [_] _ _ _
  refine Bod.ifT dc_356_21 rfl (k1_eq_T (k_eq 0 0 rfl rfl (by omega))) ?_
  refine Bod.go dc_356_28 rfl ?_
  refine Bod.go dc_356_29 rfl ?_
  refine Bod.ldcT dc_356_30 cs_356_61 ?_
  refine Bod.virt (r := []) dc_356_32 kr_356_55 ⟨Or.inl rfl, ow_357, cl_14⟩ (by rw [np_357]; rfl) (by rw [np_357]; rfl) (ob_of (mk_61 _)) (Nat.le_of_ble_eq_true rfl) (c3  ) ?_
  show Bod _ _ _ _ [_] _ _ _
  refine Bod.ifT dc_356_35 rfl (k1_eq_T (k_eq 0 0 rfl rfl (by omega))) ?_
  refine Bod.go dc_356_42 rfl ?_
  refine Bod.go dc_356_43 rfl ?_
  refine Bod.ldcT dc_356_44 cs_356_63 ?_
  refine Bod.virt (r := []) dc_356_46 kr_356_55 ⟨Or.inl rfl, ow_357, cl_14⟩ (by rw [np_357]; rfl) (by rw [np_357]; rfl) (ob_of (mk_61 _)) (Nat.le_of_ble_eq_true rfl) (c4  ) ?_
  show Bod _ _ _ _ [_] _ _ _
  refine Bod.ifT dc_356_49 rfl (k1_eq_T (k_eq 0 0 rfl rfl (by omega))) ?_
  refine Bod.go dc_356_56 rfl ?_
  refine Bod.go dc_356_57 rfl ?_
  refine Bod.ldcT dc_356_58 cs_356_65 ?_
  refine Bod.virt (r := []) dc_356_60 kr_356_55 ⟨Or.inl rfl, ow_357, cl_14⟩ (by rw [np_357]; rfl) (by rw [np_357]; rfl) (ob_of (mk_61 _)) (Nat.le_of_ble_eq_true rfl) (c5  ) ?_
  show Bod _ _ _ _ [_] _ _ _
  refine Bod.ifT dc_356_63 rfl (k1_eq_T (k_eq 0 0 rfl rfl (by omega))) ?_
  refine Bod.go dc_356_70 rfl ?_
  refine Bod.go dc_356_71 rfl ?_
  refine Bod.ldcT dc_356_72 cs_356_67 ?_
  refine Bod.virt (r := []) dc_356_74 kr_356_55 ⟨Or.inl rfl, ow_357, cl_14⟩ (by rw [np_357]; rfl) (by rw [np_357]; rfl) (ob_of (mk_61 _)) (Nat.le_of_ble_eq_true rfl) (c6  ) ?_
  show Bod _ _ _ _ [_] _ _ _
  refine Bod.ifT dc_356_77 rfl (k1_eq_T (k_eq 0 0 rfl rfl (by omega))) ?_
  refine Bod.go dc_356_84 rfl ?_
  refine Bod.go dc_356_85 rfl ?_
  refine Bod.ldcT dc_356_86 cs_356_69 ?_
  refine Bod.virt (r := []) dc_356_88 kr_356_55 ⟨Or.inl rfl, ow_357, cl_14⟩ (by rw [np_357]; rfl) (by rw [np_357]; rfl) (ob_of (mk_61 _)) (Nat.le_of_ble_eq_true rfl) (c7  ) ?_
  show Bod _ _ _ _ [_] _ _ _
  refine Bod.ifT dc_356_91 rfl (k1_eq_T (k_eq 0 0 rfl rfl (by omega))) ?_
  refine Bod.go dc_356_99 rfl ?_
  refine Bod.go dc_356_100 rfl ?_
  refine Bod.ldcT dc_356_101 cs_356_71 ?_
  refine Bod.virt (r := []) dc_356_103 kr_356_55 ⟨Or.inl rfl, ow_357, cl_14⟩ (by rw [np_357]; rfl) (by rw [np_357]; rfl) (ob_of (mk_61 _)) (Nat.le_of_ble_eq_true rfl) (c8  ) ?_
  show Bod _ _ _ _ [_] _ _ _
  refine Bod.ifT dc_356_106 rfl (k1_eq_T (k_eq 0 0 rfl rfl (by omega))) ?_
  refine Bod.go dc_356_114 rfl ?_
  refine Bod.go dc_356_115 rfl ?_
  refine Bod.ldcT dc_356_116 cs_356_73 ?_
  refine Bod.virt (r := []) dc_356_118 kr_356_55 ⟨Or.inl rfl, ow_357, cl_14⟩ (by rw [np_357]; rfl) (by rw [np_357]; rfl) (ob_of (mk_61 _)) (Nat.le_of_ble_eq_true rfl) (c9  ) ?_
  show Bod _ _ _ _ [_] _ _ _
  refine Bod.ifT dc_356_121 rfl (k1_eq_T (k_eq 0 0 rfl rfl (by omega))) ?_
  refine Bod.go dc_356_129 rfl ?_
  refine Bod.go dc_356_130 rfl ?_
  refine Bod.ldcT dc_356_131 cs_356_75 ?_
  refine Bod.virt (r := []) dc_356_133 kr_356_55 ⟨Or.inl rfl, ow_357, cl_14⟩ (by rw [np_357]; rfl) (by rw [np_357]; rfl) (ob_of (mk_61 _)) (Nat.le_of_ble_eq_true rfl) (c10  ) ?_
  show Bod _ _ _ _ [_] _ _ _
  refine Bod.ifT dc_356_136 rfl (k1_eq_T (k_eq 0 0 rfl rfl (by omega))) ?_
  refine Bod.go dc_356_144 rfl ?_
  exact Bod.retI dc_356_145 rt_356
