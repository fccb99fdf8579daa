/-! WAYS of the class's machine: every call is a hypothesis -/
theorem ml_228 : sm_ml 228 = 4 := by decide +kernel
theorem dc_228_0 : decode (sm_cc 228) 0 = .ok (.aload_n 0, 1) := by decide +kernel
theorem dc_228_1 : decode (sm_cc 228) 1 = .ok (.aload_n 0, 1) := by decide +kernel
theorem dc_228_2 : decode (sm_cc 228) 2 = .ok (.getfield 34, 3) := by decide +kernel
theorem fr_228_34 : sm_at mt_f (sm_ow 228) 34 = some (34, 0, 6, 0, 795) := by decide +kernel
theorem dc_228_5 : decode (sm_cc 228) 5 = .ok (.putfield 155, 3) := by decide +kernel
theorem fr_228_155 : sm_at mt_f (sm_ow 228) 155 = some (155, 0, 7, 0, 796) := by decide +kernel
theorem dc_228_8 : decode (sm_cc 228) 8 = .ok (.iload_n 1, 1) := by decide +kernel
theorem dc_228_9 : decode (sm_cc 228) 9 = .ok (.iconst 1, 1) := by decide +kernel
theorem dc_228_10 : decode (sm_cc 228) 10 = .ok (.isub, 1) := by decide +kernel
theorem dc_228_11 : decode (sm_cc 228) 11 = .ok (.istore_n 2, 1) := by decide +kernel
theorem dc_228_12 : decode (sm_cc 228) 12 = .ok (.iload_n 2, 1) := by decide +kernel
theorem dc_228_13 : decode (sm_cc 228) 13 = .ok (.ifCond .lt (130), 3) := by decide +kernel
theorem dc_228_16 : decode (sm_cc 228) 16 = .ok (.aload_n 0, 1) := by decide +kernel
theorem dc_228_17 : decode (sm_cc 228) 17 = .ok (.getfield 15, 3) := by decide +kernel
theorem fr_228_15 : sm_at mt_f (sm_ow 228) 15 = some (15, 0, 1, 0, 790) := by decide +kernel
theorem dc_228_20 : decode (sm_cc 228) 20 = .ok (.iload_n 2, 1) := by decide +kernel
theorem dc_228_21 : decode (sm_cc 228) 21 = .ok (.invokevirtual 91, 3) := by decide +kernel
theorem kr_228_91 : sm_at mt_k (sm_ow 228) 91 = some (91, 1, 136, 1, 1806) := by decide +kernel
theorem dc_228_24 : decode (sm_cc 228) 24 = .ok (.istore_n 3, 1) := by decide +kernel
theorem dc_228_25 : decode (sm_cc 228) 25 = .ok (.aload_n 0, 1) := by decide +kernel
theorem dc_228_26 : decode (sm_cc 228) 26 = .ok (.getfield 9, 3) := by decide +kernel
theorem fr_228_9 : sm_at mt_f (sm_ow 228) 9 = some (9, 0, 0, 0, 789) := by decide +kernel
theorem dc_228_29 : decode (sm_cc 228) 29 = .ok (.iload_n 3, 1) := by decide +kernel
theorem dc_228_30 : decode (sm_cc 228) 30 = .ok (.invokevirtual 94, 3) := by decide +kernel
theorem kr_228_94 : sm_at mt_k (sm_ow 228) 94 = some (94, 1, 138, 1, 1807) := by decide +kernel
theorem dc_228_33 : decode (sm_cc 228) 33 = .ok (.iconst 1, 1) := by decide +kernel
theorem dc_228_34 : decode (sm_cc 228) 34 = .ok (.if_icmp .eq (15), 3) := by decide +kernel
theorem dc_228_49 : decode (sm_cc 228) 49 = .ok (.aload_n 0, 1) := by decide +kernel
theorem dc_228_50 : decode (sm_cc 228) 50 = .ok (.iload_n 3, 1) := by decide +kernel
theorem dc_228_51 : decode (sm_cc 228) 51 = .ok (.invokevirtual 158, 3) := by decide +kernel
theorem ow_229 : 0 = sm_ow 229 := by decide +kernel
theorem kr_228_158 : sm_at mt_k (sm_ow 228) 158 = some (158, 0, 229, 0, 1808) := by decide +kernel
theorem np_229 : sm_np 229 = 1 := by decide +kernel
theorem dc_228_54 : decode (sm_cc 228) 54 = .ok (.goto (73), 3) := by decide +kernel
theorem dc_228_127 : decode (sm_cc 228) 127 = .ok (.iload_n 2, 1) := by decide +kernel
theorem dc_228_128 : decode (sm_cc 228) 128 = .ok (.ifCond .le (9), 3) := by decide +kernel
theorem dc_228_137 : decode (sm_cc 228) 137 = .ok (.iinc 2 (-1), 3) := by decide +kernel
theorem dc_228_140 : decode (sm_cc 228) 140 = .ok (.goto (-128), 3) := by decide +kernel
theorem dc_228_131 : decode (sm_cc 228) 131 = .ok (.aload_n 0, 1) := by decide +kernel
theorem dc_228_132 : decode (sm_cc 228) 132 = .ok (.bipush (32), 2) := by decide +kernel
theorem dc_228_134 : decode (sm_cc 228) 134 = .ok (.invokevirtual 171, 3) := by decide +kernel
theorem ow_230 : 0 = sm_ow 230 := by decide +kernel
theorem kr_228_171 : sm_at mt_k (sm_ow 228) 171 = some (171, 0, 230, 0, 1813) := by decide +kernel
theorem np_230 : sm_np 230 = 1 := by decide +kernel
theorem dc_228_37 : decode (sm_cc 228) 37 = .ok (.aload_n 0, 1) := by decide +kernel
theorem dc_228_38 : decode (sm_cc 228) 38 = .ok (.getfield 9, 3) := by decide +kernel
theorem dc_228_41 : decode (sm_cc 228) 41 = .ok (.iload_n 3, 1) := by decide +kernel
theorem dc_228_42 : decode (sm_cc 228) 42 = .ok (.invokevirtual 94, 3) := by decide +kernel
theorem dc_228_45 : decode (sm_cc 228) 45 = .ok (.iconst 2, 1) := by decide +kernel
theorem dc_228_46 : decode (sm_cc 228) 46 = .ok (.if_icmp .ne (11), 3) := by decide +kernel
theorem dc_228_57 : decode (sm_cc 228) 57 = .ok (.aload_n 0, 1) := by decide +kernel
theorem dc_228_58 : decode (sm_cc 228) 58 = .ok (.getfield 15, 3) := by decide +kernel
theorem dc_228_61 : decode (sm_cc 228) 61 = .ok (.iload_n 2, 1) := by decide +kernel
theorem dc_228_62 : decode (sm_cc 228) 62 = .ok (.invokevirtual 80, 3) := by decide +kernel
theorem kr_228_80 : sm_at mt_k (sm_ow 228) 80 = some (80, 1, 132, 1, 1869) := by decide +kernel
theorem dc_228_65 : decode (sm_cc 228) 65 = .ok (.invokestatic 84, 3) := by decide +kernel
theorem kr_228_84 : sm_at mt_k (sm_ow 228) 84 = some (84, 3, 134, 1, 1836) := by decide +kernel
theorem dc_228_68 : decode (sm_cc 228) 68 = .ok (.iconst 3, 1) := by decide +kernel
theorem dc_228_69 : decode (sm_cc 228) 69 = .ok (.if_icmp .ne (26), 3) := by decide +kernel
theorem dc_228_72 : decode (sm_cc 228) 72 = .ok (.aload_n 0, 1) := by decide +kernel
theorem dc_228_73 : decode (sm_cc 228) 73 = .ok (.aload_n 0, 1) := by decide +kernel
theorem dc_228_74 : decode (sm_cc 228) 74 = .ok (.getfield 15, 3) := by decide +kernel
theorem dc_228_77 : decode (sm_cc 228) 77 = .ok (.iload_n 2, 1) := by decide +kernel
theorem dc_228_78 : decode (sm_cc 228) 78 = .ok (.invokevirtual 80, 3) := by decide +kernel
theorem dc_228_81 : decode (sm_cc 228) 81 = .ok (.aload_n 0, 1) := by decide +kernel
theorem dc_228_82 : decode (sm_cc 228) 82 = .ok (.getfield 15, 3) := by decide +kernel
theorem dc_228_85 : decode (sm_cc 228) 85 = .ok (.iload_n 2, 1) := by decide +kernel
theorem dc_228_86 : decode (sm_cc 228) 86 = .ok (.invokevirtual 100, 3) := by decide +kernel
theorem kr_228_100 : sm_at mt_k (sm_ow 228) 100 = some (100, 1, 135, 1, 1870) := by decide +kernel
theorem dc_228_89 : decode (sm_cc 228) 89 = .ok (.invokevirtual 162, 3) := by decide +kernel
theorem ow_238 : 0 = sm_ow 238 := by decide +kernel
theorem kr_228_162 : sm_at mt_k (sm_ow 228) 162 = some (162, 0, 238, 0, 1849) := by decide +kernel
theorem np_238 : sm_np 238 = 2 := by decide +kernel
theorem dc_228_92 : decode (sm_cc 228) 92 = .ok (.goto (35), 3) := by decide +kernel
theorem dc_228_95 : decode (sm_cc 228) 95 = .ok (.iload_n 3, 1) := by decide +kernel
theorem dc_228_96 : decode (sm_cc 228) 96 = .ok (.ifCond .eq (11), 3) := by decide +kernel
theorem dc_228_107 : decode (sm_cc 228) 107 = .ok (.aload_n 0, 1) := by decide +kernel
theorem dc_228_108 : decode (sm_cc 228) 108 = .ok (.aload_n 0, 1) := by decide +kernel
theorem dc_228_109 : decode (sm_cc 228) 109 = .ok (.getfield 15, 3) := by decide +kernel
theorem dc_228_112 : decode (sm_cc 228) 112 = .ok (.iload_n 2, 1) := by decide +kernel
theorem dc_228_113 : decode (sm_cc 228) 113 = .ok (.invokevirtual 80, 3) := by decide +kernel
theorem dc_228_116 : decode (sm_cc 228) 116 = .ok (.aload_n 0, 1) := by decide +kernel
theorem dc_228_117 : decode (sm_cc 228) 117 = .ok (.getfield 15, 3) := by decide +kernel
theorem dc_228_120 : decode (sm_cc 228) 120 = .ok (.iload_n 2, 1) := by decide +kernel
theorem dc_228_121 : decode (sm_cc 228) 121 = .ok (.invokevirtual 100, 3) := by decide +kernel
theorem dc_228_124 : decode (sm_cc 228) 124 = .ok (.invokevirtual 168, 3) := by decide +kernel
theorem ow_234 : 0 = sm_ow 234 := by decide +kernel
theorem kr_228_168 : sm_at mt_k (sm_ow 228) 168 = some (168, 0, 234, 0, 1832) := by decide +kernel
theorem np_234 : sm_np 234 = 2 := by decide +kernel
theorem dc_228_99 : decode (sm_cc 228) 99 = .ok (.aload_n 0, 1) := by decide +kernel
theorem dc_228_100 : decode (sm_cc 228) 100 = .ok (.iload_n 3, 1) := by decide +kernel
theorem dc_228_101 : decode (sm_cc 228) 101 = .ok (.invokevirtual 165, 3) := by decide +kernel
theorem ow_240 : 0 = sm_ow 240 := by decide +kernel
theorem kr_228_165 : sm_at mt_k (sm_ow 228) 165 = some (165, 0, 240, 0, 1871) := by decide +kernel
theorem np_240 : sm_np 240 = 1 := by decide +kernel
theorem dc_228_104 : decode (sm_cc 228) 104 = .ok (.goto (23), 3) := by decide +kernel
theorem dc_228_143 : decode (sm_cc 228) 143 = .ok (.aload_n 0, 1) := by decide +kernel
theorem dc_228_144 : decode (sm_cc 228) 144 = .ok (.bipush (10), 2) := by decide +kernel
theorem dc_228_146 : decode (sm_cc 228) 146 = .ok (.invokevirtual 171, 3) := by decide +kernel
theorem dc_228_149 : decode (sm_cc 228) 149 = .ok (.aload_n 0, 1) := by decide +kernel
theorem dc_228_150 : decode (sm_cc 228) 150 = .ok (.getfield 155, 3) := by decide +kernel
theorem dc_228_153 : decode (sm_cc 228) 153 = .ok (.sipush (4000), 3) := by decide +kernel
theorem dc_228_156 : decode (sm_cc 228) 156 = .ok (.if_icmp .le (6), 3) := by decide +kernel
theorem dc_228_162 : decode (sm_cc 228) 162 = .ok (.aload_n 0, 1) := by decide +kernel
theorem dc_228_163 : decode (sm_cc 228) 163 = .ok (.aload_n 0, 1) := by decide +kernel
theorem dc_228_164 : decode (sm_cc 228) 164 = .ok (.getfield 155, 3) := by decide +kernel
theorem dc_228_167 : decode (sm_cc 228) 167 = .ok (.putfield 34, 3) := by decide +kernel
theorem dc_228_170 : decode (sm_cc 228) 170 = .ok (.aload_n 0, 1) := by decide +kernel
theorem dc_228_171 : decode (sm_cc 228) 171 = .ok (.getfield 15, 3) := by decide +kernel
theorem dc_228_174 : decode (sm_cc 228) 174 = .ok (.iload_n 1, 1) := by decide +kernel
theorem dc_228_175 : decode (sm_cc 228) 175 = .ok (.iconst 1, 1) := by decide +kernel
theorem dc_228_176 : decode (sm_cc 228) 176 = .ok (.iadd, 1) := by decide +kernel
theorem dc_228_177 : decode (sm_cc 228) 177 = .ok (.ldc2_w 117, 3) := by decide +kernel
theorem cj_228_117 : sm_at mt_cj (sm_ow 228) 117 = some (117, (1152921504606846976), 1886) := by decide +kernel
theorem dc_228_180 : decode (sm_cc 228) 180 = .ok (.lconst 0, 1) := by decide +kernel
theorem dc_228_181 : decode (sm_cc 228) 181 = .ok (.invokevirtual 71, 3) := by decide +kernel
theorem kr_228_71 : sm_at mt_k (sm_ow 228) 71 = some (71, 1, 148, 1, 1887) := by decide +kernel
theorem dc_228_184 : decode (sm_cc 228) 184 = .ok (.ireturn, 1) := by decide +kernel
theorem rt_228 : sm_rt 228 = some .int := by decide +kernel
theorem dc_228_159 : decode (sm_cc 228) 159 = .ok (.bipush (8), 2) := by decide +kernel
theorem dc_228_161 : decode (sm_cc 228) 161 = .ok (.ireturn, 1) := by decide +kernel
theorem ml_229 : sm_ml 229 = 5 := by decide +kernel
theorem dc_229_0 : decode (sm_cc 229) 0 = .ok (.aload_n 0, 1) := by decide +kernel
theorem dc_229_1 : decode (sm_cc 229) 1 = .ok (.getfield 9, 3) := by decide +kernel
theorem fr_229_9 : sm_at mt_f (sm_ow 229) 9 = some (9, 0, 0, 0, 789) := by decide +kernel
theorem dc_229_4 : decode (sm_cc 229) 4 = .ok (.iload_n 1, 1) := by decide +kernel
theorem dc_229_5 : decode (sm_cc 229) 5 = .ok (.invokevirtual 94, 3) := by decide +kernel
theorem kr_229_94 : sm_at mt_k (sm_ow 229) 94 = some (94, 1, 138, 1, 1807) := by decide +kernel
theorem dc_229_8 : decode (sm_cc 229) 8 = .ok (.iconst 2, 1) := by decide +kernel
theorem dc_229_9 : decode (sm_cc 229) 9 = .ok (.if_icmp .ne (7), 3) := by decide +kernel
theorem dc_229_16 : decode (sm_cc 229) 16 = .ok (.iconst 0, 1) := by decide +kernel
theorem dc_229_17 : decode (sm_cc 229) 17 = .ok (.istore_n 2, 1) := by decide +kernel
theorem dc_229_18 : decode (sm_cc 229) 18 = .ok (.aload_n 0, 1) := by decide +kernel
theorem dc_229_19 : decode (sm_cc 229) 19 = .ok (.getfield 9, 3) := by decide +kernel
theorem dc_229_22 : decode (sm_cc 229) 22 = .ok (.iload_n 1, 1) := by decide +kernel
theorem dc_229_23 : decode (sm_cc 229) 23 = .ok (.invokevirtual 97, 3) := by decide +kernel
theorem kr_229_97 : sm_at mt_k (sm_ow 229) 97 = some (97, 1, 140, 1, 1812) := by decide +kernel
theorem dc_229_26 : decode (sm_cc 229) 26 = .ok (.istore_n 3, 1) := by decide +kernel
theorem dc_229_27 : decode (sm_cc 229) 27 = .ok (.aload_n 0, 1) := by decide +kernel
theorem dc_229_28 : decode (sm_cc 229) 28 = .ok (.iload_n 2, 1) := by decide +kernel
theorem dc_229_29 : decode (sm_cc 229) 29 = .ok (.ifCond .eq (8), 3) := by decide +kernel
theorem dc_229_37 : decode (sm_cc 229) 37 = .ok (.bipush (91), 2) := by decide +kernel
theorem dc_229_39 : decode (sm_cc 229) 39 = .ok (.invokevirtual 171, 3) := by decide +kernel
theorem kr_229_171 : sm_at mt_k (sm_ow 229) 171 = some (171, 0, 230, 0, 1813) := by decide +kernel
theorem dc_229_42 : decode (sm_cc 229) 42 = .ok (.iconst 0, 1) := by decide +kernel
theorem dc_229_43 : decode (sm_cc 229) 43 = .ok (.istore 4, 2) := by decide +kernel
theorem dc_229_12 : decode (sm_cc 229) 12 = .ok (.iconst 1, 1) := by decide +kernel
theorem dc_229_13 : decode (sm_cc 229) 13 = .ok (.goto (4), 3) := by decide +kernel
theorem dc_229_32 : decode (sm_cc 229) 32 = .ok (.bipush (123), 2) := by decide +kernel
theorem dc_229_34 : decode (sm_cc 229) 34 = .ok (.goto (5), 3) := by decide +kernel
theorem dc_229_45 : decode (sm_cc 229) 45 = .ok (.iload 4, 2) := by decide +kernel
theorem dc_229_47 : decode (sm_cc 229) 47 = .ok (.iload_n 3, 1) := by decide +kernel
theorem dc_229_48 : decode (sm_cc 229) 48 = .ok (.if_icmp .ge (78), 3) := by decide +kernel
theorem dc_229_126 : decode (sm_cc 229) 126 = .ok (.aload_n 0, 1) := by decide +kernel
theorem dc_229_127 : decode (sm_cc 229) 127 = .ok (.iload_n 2, 1) := by decide +kernel
theorem dc_229_128 : decode (sm_cc 229) 128 = .ok (.ifCond .eq (8), 3) := by decide +kernel
theorem dc_229_136 : decode (sm_cc 229) 136 = .ok (.bipush (93), 2) := by decide +kernel
theorem dc_229_138 : decode (sm_cc 229) 138 = .ok (.invokevirtual 171, 3) := by decide +kernel
theorem dc_229_141 : decode (sm_cc 229) 141 = .ok (.return_, 1) := by decide +kernel
theorem rt_229 : sm_rt 229 = none := by decide +kernel
theorem dc_229_51 : decode (sm_cc 229) 51 = .ok (.iload 4, 2) := by decide +kernel
theorem dc_229_53 : decode (sm_cc 229) 53 = .ok (.ifCond .le (9), 3) := by decide +kernel
theorem dc_229_62 : decode (sm_cc 229) 62 = .ok (.iload_n 2, 1) := by decide +kernel
theorem dc_229_63 : decode (sm_cc 229) 63 = .ok (.ifCond .eq (33), 3) := by decide +kernel
theorem dc_229_96 : decode (sm_cc 229) 96 = .ok (.aload_n 0, 1) := by decide +kernel
theorem dc_229_97 : decode (sm_cc 229) 97 = .ok (.aload_n 0, 1) := by decide +kernel
theorem dc_229_98 : decode (sm_cc 229) 98 = .ok (.getfield 9, 3) := by decide +kernel
theorem dc_229_101 : decode (sm_cc 229) 101 = .ok (.iload_n 1, 1) := by decide +kernel
theorem dc_229_102 : decode (sm_cc 229) 102 = .ok (.iload 4, 2) := by decide +kernel
theorem dc_229_104 : decode (sm_cc 229) 104 = .ok (.invokevirtual 119, 3) := by decide +kernel
theorem kr_229_119 : sm_at mt_k (sm_ow 229) 119 = some (119, 1, 156, 1, 1867) := by decide +kernel
theorem dc_229_107 : decode (sm_cc 229) 107 = .ok (.aload_n 0, 1) := by decide +kernel
theorem dc_229_108 : decode (sm_cc 229) 108 = .ok (.getfield 9, 3) := by decide +kernel
theorem dc_229_111 : decode (sm_cc 229) 111 = .ok (.iload_n 1, 1) := by decide +kernel
theorem dc_229_112 : decode (sm_cc 229) 112 = .ok (.iload 4, 2) := by decide +kernel
theorem dc_229_114 : decode (sm_cc 229) 114 = .ok (.invokevirtual 123, 3) := by decide +kernel
theorem kr_229_123 : sm_at mt_k (sm_ow 229) 123 = some (123, 1, 158, 1, 1868) := by decide +kernel
theorem dc_229_117 : decode (sm_cc 229) 117 = .ok (.invokevirtual 168, 3) := by decide +kernel
theorem kr_229_168 : sm_at mt_k (sm_ow 229) 168 = some (168, 0, 234, 0, 1832) := by decide +kernel
theorem dc_229_120 : decode (sm_cc 229) 120 = .ok (.iinc 4 (1), 3) := by decide +kernel
theorem dc_229_123 : decode (sm_cc 229) 123 = .ok (.goto (-78), 3) := by decide +kernel
theorem dc_229_56 : decode (sm_cc 229) 56 = .ok (.aload_n 0, 1) := by decide +kernel
theorem dc_229_57 : decode (sm_cc 229) 57 = .ok (.ldc 224, 2) := by decide +kernel
theorem cs_229_224 : sm_at mt_ci (sm_ow 229) 224 = none ∧ sm_at mt_cs (sm_ow 229) 224 = some (224, 4, 1817) := by decide +kernel
theorem dc_229_59 : decode (sm_cc 229) 59 = .ok (.invokevirtual 206, 3) := by decide +kernel
theorem ow_231 : 0 = sm_ow 231 := by decide +kernel
theorem kr_229_206 : sm_at mt_k (sm_ow 229) 206 = some (206, 0, 231, 0, 1818) := by decide +kernel
theorem np_231 : sm_np 231 = 1 := by decide +kernel
theorem dc_229_131 : decode (sm_cc 229) 131 = .ok (.bipush (125), 2) := by decide +kernel
theorem dc_229_133 : decode (sm_cc 229) 133 = .ok (.goto (5), 3) := by decide +kernel
theorem dc_229_66 : decode (sm_cc 229) 66 = .ok (.aload_n 0, 1) := by decide +kernel
theorem dc_229_67 : decode (sm_cc 229) 67 = .ok (.aload_n 0, 1) := by decide +kernel
theorem dc_229_68 : decode (sm_cc 229) 68 = .ok (.getfield 9, 3) := by decide +kernel
theorem dc_229_71 : decode (sm_cc 229) 71 = .ok (.iload_n 1, 1) := by decide +kernel
theorem dc_229_72 : decode (sm_cc 229) 72 = .ok (.iload 4, 2) := by decide +kernel
theorem dc_229_74 : decode (sm_cc 229) 74 = .ok (.invokevirtual 133, 3) := by decide +kernel
theorem ow_232 : 2 = sm_ow 232 := by decide +kernel
theorem kr_229_133 : sm_at mt_k (sm_ow 229) 133 = some (133, 1, 232, 1, 1824) := by decide +kernel
theorem np_232 : sm_np 232 = 2 := by decide +kernel
theorem dc_229_77 : decode (sm_cc 229) 77 = .ok (.aload_n 0, 1) := by decide +kernel
theorem dc_229_78 : decode (sm_cc 229) 78 = .ok (.getfield 9, 3) := by decide +kernel
theorem dc_229_81 : decode (sm_cc 229) 81 = .ok (.iload_n 1, 1) := by decide +kernel
theorem dc_229_82 : decode (sm_cc 229) 82 = .ok (.iload 4, 2) := by decide +kernel
theorem dc_229_84 : decode (sm_cc 229) 84 = .ok (.invokevirtual 136, 3) := by decide +kernel
theorem ow_233 : 2 = sm_ow 233 := by decide +kernel
theorem kr_229_136 : sm_at mt_k (sm_ow 229) 136 = some (136, 1, 233, 1, 1828) := by decide +kernel
theorem np_233 : sm_np 233 = 2 := by decide +kernel
theorem dc_229_87 : decode (sm_cc 229) 87 = .ok (.invokevirtual 168, 3) := by decide +kernel
theorem dc_229_90 : decode (sm_cc 229) 90 = .ok (.aload_n 0, 1) := by decide +kernel
theorem dc_229_91 : decode (sm_cc 229) 91 = .ok (.ldc 226, 2) := by decide +kernel
theorem cs_229_226 : sm_at mt_ci (sm_ow 229) 226 = none ∧ sm_at mt_cs (sm_ow 229) 226 = some (226, 12, 1866) := by decide +kernel
theorem dc_229_93 : decode (sm_cc 229) 93 = .ok (.invokevirtual 206, 3) := by decide +kernel
theorem ml_234 : sm_ml 234 = 5 := by decide +kernel
theorem dc_234_0 : decode (sm_cc 234) 0 = .ok (.lload_n 1, 1) := by decide +kernel
theorem dc_234_1 : decode (sm_cc 234) 1 = .ok (.invokestatic 84, 3) := by decide +kernel
theorem kr_234_84 : sm_at mt_k (sm_ow 234) 84 = some (84, 3, 134, 1, 1836) := by decide +kernel
theorem dc_234_4 : decode (sm_cc 234) 4 = .ok (.tableswitch (91) 2 4 #[28, 36, 57], 28) := by decide +kernel
theorem dc_234_32 : decode (sm_cc 234) 32 = .ok (.aload_n 0, 1) := by decide +kernel
theorem dc_234_33 : decode (sm_cc 234) 33 = .ok (.lload_n 3, 1) := by decide +kernel
theorem dc_234_34 : decode (sm_cc 234) 34 = .ok (.invokevirtual 194, 3) := by decide +kernel
theorem ow_235 : 0 = sm_ow 235 := by decide +kernel
theorem kr_234_194 : sm_at mt_k (sm_ow 234) 194 = some (194, 0, 235, 0, 1837) := by decide +kernel
theorem np_235 : sm_np 235 = 1 := by decide +kernel
theorem dc_234_37 : decode (sm_cc 234) 37 = .ok (.goto (64), 3) := by decide +kernel
theorem dc_234_101 : decode (sm_cc 234) 101 = .ok (.return_, 1) := by decide +kernel
theorem rt_234 : sm_rt 234 = none := by decide +kernel
theorem dc_234_40 : decode (sm_cc 234) 40 = .ok (.aload_n 0, 1) := by decide +kernel
theorem dc_234_41 : decode (sm_cc 234) 41 = .ok (.bipush (39), 2) := by decide +kernel
theorem dc_234_43 : decode (sm_cc 234) 43 = .ok (.invokevirtual 171, 3) := by decide +kernel
theorem kr_234_171 : sm_at mt_k (sm_ow 234) 171 = some (171, 0, 230, 0, 1813) := by decide +kernel
theorem dc_234_46 : decode (sm_cc 234) 46 = .ok (.aload_n 0, 1) := by decide +kernel
theorem dc_234_47 : decode (sm_cc 234) 47 = .ok (.lload_n 1, 1) := by decide +kernel
theorem dc_234_48 : decode (sm_cc 234) 48 = .ok (.lload_n 3, 1) := by decide +kernel
theorem dc_234_49 : decode (sm_cc 234) 49 = .ok (.invokevirtual 162, 3) := by decide +kernel
theorem kr_234_162 : sm_at mt_k (sm_ow 234) 162 = some (162, 0, 238, 0, 1849) := by decide +kernel
theorem dc_234_52 : decode (sm_cc 234) 52 = .ok (.aload_n 0, 1) := by decide +kernel
theorem dc_234_53 : decode (sm_cc 234) 53 = .ok (.bipush (39), 2) := by decide +kernel
theorem dc_234_55 : decode (sm_cc 234) 55 = .ok (.invokevirtual 171, 3) := by decide +kernel
theorem dc_234_58 : decode (sm_cc 234) 58 = .ok (.goto (43), 3) := by decide +kernel
theorem dc_234_61 : decode (sm_cc 234) 61 = .ok (.aload_n 0, 1) := by decide +kernel
theorem dc_234_62 : decode (sm_cc 234) 62 = .ok (.bipush (60), 2) := by decide +kernel
theorem dc_234_64 : decode (sm_cc 234) 64 = .ok (.invokevirtual 171, 3) := by decide +kernel
theorem dc_234_67 : decode (sm_cc 234) 67 = .ok (.aload_n 0, 1) := by decide +kernel
theorem dc_234_68 : decode (sm_cc 234) 68 = .ok (.aload_n 0, 1) := by decide +kernel
theorem dc_234_69 : decode (sm_cc 234) 69 = .ok (.getfield 9, 3) := by decide +kernel
theorem fr_234_9 : sm_at mt_f (sm_ow 234) 9 = some (9, 0, 0, 0, 789) := by decide +kernel
theorem dc_234_72 : decode (sm_cc 234) 72 = .ok (.lload_n 1, 1) := by decide +kernel
theorem dc_234_73 : decode (sm_cc 234) 73 = .ok (.lload_n 3, 1) := by decide +kernel
theorem dc_234_74 : decode (sm_cc 234) 74 = .ok (.invokestatic 198, 3) := by decide +kernel
theorem kr_234_198 : sm_at mt_k (sm_ow 234) 198 = some (198, 3, 137, 1, 1855) := by decide +kernel
theorem dc_234_77 : decode (sm_cc 234) 77 = .ok (.invokevirtual 94, 3) := by decide +kernel
theorem kr_234_94 : sm_at mt_k (sm_ow 234) 94 = some (94, 1, 138, 1, 1807) := by decide +kernel
theorem dc_234_80 : decode (sm_cc 234) 80 = .ok (.invokestatic 202, 3) := by decide +kernel
theorem kr_234_202 : sm_at mt_k (sm_ow 234) 202 = some (202, 2, 239, 0, 1856) := by decide +kernel
theorem np_239 : sm_np 239 = 1 := by decide +kernel
theorem dc_234_83 : decode (sm_cc 234) 83 = .ok (.invokevirtual 206, 3) := by decide +kernel
theorem kr_234_206 : sm_at mt_k (sm_ow 234) 206 = some (206, 0, 231, 0, 1818) := by decide +kernel
theorem dc_234_86 : decode (sm_cc 234) 86 = .ok (.aload_n 0, 1) := by decide +kernel
theorem dc_234_87 : decode (sm_cc 234) 87 = .ok (.bipush (62), 2) := by decide +kernel
theorem dc_234_89 : decode (sm_cc 234) 89 = .ok (.invokevirtual 171, 3) := by decide +kernel
theorem dc_234_92 : decode (sm_cc 234) 92 = .ok (.goto (9), 3) := by decide +kernel
theorem dc_234_95 : decode (sm_cc 234) 95 = .ok (.aload_n 0, 1) := by decide +kernel
theorem dc_234_96 : decode (sm_cc 234) 96 = .ok (.ldc 210, 2) := by decide +kernel
theorem cs_234_210 : sm_at mt_ci (sm_ow 234) 210 = none ∧ sm_at mt_cs (sm_ow 234) 210 = some (210, 11, 1865) := by decide +kernel
theorem dc_234_98 : decode (sm_cc 234) 98 = .ok (.invokevirtual 206, 3) := by decide +kernel
theorem ml_235 : sm_ml 235 = 4 := by decide +kernel
theorem dc_235_0 : decode (sm_cc 235) 0 = .ok (.aload_n 0, 1) := by decide +kernel
theorem dc_235_1 : decode (sm_cc 235) 1 = .ok (.lload_n 1, 1) := by decide +kernel
theorem dc_235_2 : decode (sm_cc 235) 2 = .ok (.invokevirtual 139, 3) := by decide +kernel
theorem ow_236 : 0 = sm_ow 236 := by decide +kernel
theorem kr_235_139 : sm_at mt_k (sm_ow 235) 139 = some (139, 0, 236, 0, 1841) := by decide +kernel
theorem np_236 : sm_np 236 = 1 := by decide +kernel
theorem dc_235_5 : decode (sm_cc 235) 5 = .ok (.istore_n 3, 1) := by decide +kernel
theorem dc_235_6 : decode (sm_cc 235) 6 = .ok (.iload_n 3, 1) := by decide +kernel
theorem dc_235_7 : decode (sm_cc 235) 7 = .ok (.ifCond .lt (25), 3) := by decide +kernel
theorem dc_235_10 : decode (sm_cc 235) 10 = .ok (.iload_n 3, 1) := by decide +kernel
theorem dc_235_11 : decode (sm_cc 235) 11 = .ok (.bipush (20), 2) := by decide +kernel
theorem dc_235_13 : decode (sm_cc 235) 13 = .ok (.if_icmp .ge (19), 3) := by decide +kernel
theorem dc_235_32 : decode (sm_cc 235) 32 = .ok (.return_, 1) := by decide +kernel
theorem rt_235 : sm_rt 235 = none := by decide +kernel
theorem dc_235_16 : decode (sm_cc 235) 16 = .ok (.aload_n 0, 1) := by decide +kernel
theorem dc_235_17 : decode (sm_cc 235) 17 = .ok (.aload_n 0, 1) := by decide +kernel
theorem dc_235_18 : decode (sm_cc 235) 18 = .ok (.getfield 31, 3) := by decide +kernel
theorem fr_235_31 : sm_at mt_f (sm_ow 235) 31 = some (31, 0, 5, 0, 794) := by decide +kernel
theorem dc_235_21 : decode (sm_cc 235) 21 = .ok (.iload_n 3, 1) := by decide +kernel
theorem dc_235_22 : decode (sm_cc 235) 22 = .ok (.baload, 1) := by decide +kernel
theorem dc_235_23 : decode (sm_cc 235) 23 = .ok (.invokevirtual 171, 3) := by decide +kernel
theorem kr_235_171 : sm_at mt_k (sm_ow 235) 171 = some (171, 0, 230, 0, 1813) := by decide +kernel
theorem dc_235_26 : decode (sm_cc 235) 26 = .ok (.iinc 3 (1), 3) := by decide +kernel
theorem dc_235_29 : decode (sm_cc 235) 29 = .ok (.goto (-23), 3) := by decide +kernel
theorem ml_238 : sm_ml 238 = 7 := by decide +kernel
theorem dc_238_0 : decode (sm_cc 238) 0 = .ok (.lload_n 1, 1) := by decide +kernel
theorem dc_238_1 : decode (sm_cc 238) 1 = .ok (.invokestatic 88, 3) := by decide +kernel
theorem kr_238_88 : sm_at mt_k (sm_ow 238) 88 = some (88, 3, 47, 1, 1853) := by decide +kernel
theorem dc_238_4 : decode (sm_cc 238) 4 = .ok (.istore 5, 2) := by decide +kernel
theorem dc_238_6 : decode (sm_cc 238) 6 = .ok (.iconst 0, 1) := by decide +kernel
theorem dc_238_7 : decode (sm_cc 238) 7 = .ok (.istore 6, 2) := by decide +kernel
theorem dc_238_9 : decode (sm_cc 238) 9 = .ok (.iload 6, 2) := by decide +kernel
theorem dc_238_11 : decode (sm_cc 238) 11 = .ok (.iload 5, 2) := by decide +kernel
theorem dc_238_13 : decode (sm_cc 238) 13 = .ok (.if_icmp .ge (20), 3) := by decide +kernel
theorem dc_238_33 : decode (sm_cc 238) 33 = .ok (.return_, 1) := by decide +kernel
theorem rt_238 : sm_rt 238 = none := by decide +kernel
theorem dc_238_16 : decode (sm_cc 238) 16 = .ok (.aload_n 0, 1) := by decide +kernel
theorem dc_238_17 : decode (sm_cc 238) 17 = .ok (.lload_n 1, 1) := by decide +kernel
theorem dc_238_18 : decode (sm_cc 238) 18 = .ok (.lload_n 3, 1) := by decide +kernel
theorem dc_238_19 : decode (sm_cc 238) 19 = .ok (.iload 6, 2) := by decide +kernel
theorem dc_238_21 : decode (sm_cc 238) 21 = .ok (.invokestatic 183, 3) := by decide +kernel
theorem kr_238_183 : sm_at mt_k (sm_ow 238) 183 = some (183, 3, 193, 1, 1854) := by decide +kernel
theorem dc_238_24 : decode (sm_cc 238) 24 = .ok (.invokevirtual 171, 3) := by decide +kernel
theorem kr_238_171 : sm_at mt_k (sm_ow 238) 171 = some (171, 0, 230, 0, 1813) := by decide +kernel
theorem dc_238_27 : decode (sm_cc 238) 27 = .ok (.iinc 6 (1), 3) := by decide +kernel
theorem dc_238_30 : decode (sm_cc 238) 30 = .ok (.goto (-21), 3) := by decide +kernel
theorem ml_239 : sm_ml 239 = 1 := by decide +kernel
theorem dc_239_0 : decode (sm_cc 239) 0 = .ok (.iload_n 0, 1) := by decide +kernel
theorem dc_239_1 : decode (sm_cc 239) 1 = .ok (.tableswitch (50) 1 5 #[35, 38, 41, 44, 47], 35) := by decide +kernel
theorem dc_239_36 : decode (sm_cc 239) 36 = .ok (.ldc 212, 2) := by decide +kernel
theorem cs_239_212 : sm_at mt_ci (sm_ow 239) 212 = none ∧ sm_at mt_cs (sm_ow 239) 212 = some (212, 5, 1859) := by decide +kernel
theorem dc_239_38 : decode (sm_cc 239) 38 = .ok (.areturn, 1) := by decide +kernel
theorem dc_239_39 : decode (sm_cc 239) 39 = .ok (.ldc 214, 2) := by decide +kernel
theorem cs_239_214 : sm_at mt_ci (sm_ow 239) 214 = none ∧ sm_at mt_cs (sm_ow 239) 214 = some (214, 6, 1860) := by decide +kernel
theorem dc_239_41 : decode (sm_cc 239) 41 = .ok (.areturn, 1) := by decide +kernel
theorem dc_239_42 : decode (sm_cc 239) 42 = .ok (.ldc 216, 2) := by decide +kernel
theorem cs_239_216 : sm_at mt_ci (sm_ow 239) 216 = none ∧ sm_at mt_cs (sm_ow 239) 216 = some (216, 7, 1861) := by decide +kernel
theorem dc_239_44 : decode (sm_cc 239) 44 = .ok (.areturn, 1) := by decide +kernel
theorem dc_239_45 : decode (sm_cc 239) 45 = .ok (.ldc 218, 2) := by decide +kernel
theorem cs_239_218 : sm_at mt_ci (sm_ow 239) 218 = none ∧ sm_at mt_cs (sm_ow 239) 218 = some (218, 8, 1862) := by decide +kernel
theorem dc_239_47 : decode (sm_cc 239) 47 = .ok (.areturn, 1) := by decide +kernel
theorem dc_239_48 : decode (sm_cc 239) 48 = .ok (.ldc 220, 2) := by decide +kernel
theorem cs_239_220 : sm_at mt_ci (sm_ow 239) 220 = none ∧ sm_at mt_cs (sm_ow 239) 220 = some (220, 9, 1863) := by decide +kernel
theorem dc_239_50 : decode (sm_cc 239) 50 = .ok (.areturn, 1) := by decide +kernel
theorem dc_239_51 : decode (sm_cc 239) 51 = .ok (.ldc 222, 2) := by decide +kernel
theorem cs_239_222 : sm_at mt_ci (sm_ow 239) 222 = none ∧ sm_at mt_cs (sm_ow 239) 222 = some (222, 10, 1864) := by decide +kernel
theorem dc_239_53 : decode (sm_cc 239) 53 = .ok (.areturn, 1) := by decide +kernel
theorem ml_240 : sm_ml 240 = 6 := by decide +kernel
theorem dc_240_0 : decode (sm_cc 240) 0 = .ok (.aload_n 0, 1) := by decide +kernel
theorem dc_240_1 : decode (sm_cc 240) 1 = .ok (.getfield 9, 3) := by decide +kernel
theorem fr_240_9 : sm_at mt_f (sm_ow 240) 9 = some (9, 0, 0, 0, 789) := by decide +kernel
theorem dc_240_4 : decode (sm_cc 240) 4 = .ok (.iload_n 1, 1) := by decide +kernel
theorem dc_240_5 : decode (sm_cc 240) 5 = .ok (.invokevirtual 94, 3) := by decide +kernel
theorem kr_240_94 : sm_at mt_k (sm_ow 240) 94 = some (94, 1, 138, 1, 1807) := by decide +kernel
theorem dc_240_8 : decode (sm_cc 240) 8 = .ok (.istore_n 2, 1) := by decide +kernel
theorem dc_240_9 : decode (sm_cc 240) 9 = .ok (.iload_n 2, 1) := by decide +kernel
theorem dc_240_10 : decode (sm_cc 240) 10 = .ok (.iconst 5, 1) := by decide +kernel
theorem dc_240_11 : decode (sm_cc 240) 11 = .ok (.if_icmp .eq (9), 3) := by decide +kernel
theorem dc_240_20 : decode (sm_cc 240) 20 = .ok (.aload_n 0, 1) := by decide +kernel
theorem dc_240_21 : decode (sm_cc 240) 21 = .ok (.getfield 9, 3) := by decide +kernel
theorem dc_240_24 : decode (sm_cc 240) 24 = .ok (.iload_n 1, 1) := by decide +kernel
theorem dc_240_25 : decode (sm_cc 240) 25 = .ok (.invokevirtual 228, 3) := by decide +kernel
theorem kr_240_228 : sm_at mt_k (sm_ow 240) 228 = some (228, 1, 168, 1, 1875) := by decide +kernel
theorem dc_240_28 : decode (sm_cc 240) 28 = .ok (.goto (4), 3) := by decide +kernel
theorem dc_240_32 : decode (sm_cc 240) 32 = .ok (.istore_n 3, 1) := by decide +kernel
theorem dc_240_33 : decode (sm_cc 240) 33 = .ok (.aload_n 0, 1) := by decide +kernel
theorem dc_240_34 : decode (sm_cc 240) 34 = .ok (.getfield 9, 3) := by decide +kernel
theorem dc_240_37 : decode (sm_cc 240) 37 = .ok (.iload_n 3, 1) := by decide +kernel
theorem dc_240_38 : decode (sm_cc 240) 38 = .ok (.invokevirtual 231, 3) := by decide +kernel
theorem kr_240_231 : sm_at mt_k (sm_ow 240) 231 = some (231, 1, 241, 1, 1876) := by decide +kernel
theorem dc_240_41 : decode (sm_cc 240) 41 = .ok (.istore 4, 2) := by decide +kernel
theorem dc_240_43 : decode (sm_cc 240) 43 = .ok (.aload_n 0, 1) := by decide +kernel
theorem dc_240_44 : decode (sm_cc 240) 44 = .ok (.getfield 9, 3) := by decide +kernel
theorem dc_240_47 : decode (sm_cc 240) 47 = .ok (.iload_n 3, 1) := by decide +kernel
theorem dc_240_48 : decode (sm_cc 240) 48 = .ok (.invokevirtual 94, 3) := by decide +kernel
theorem dc_240_51 : decode (sm_cc 240) 51 = .ok (.iconst 4, 1) := by decide +kernel
theorem dc_240_52 : decode (sm_cc 240) 52 = .ok (.if_icmp .ne (8), 3) := by decide +kernel
theorem dc_240_60 : decode (sm_cc 240) 60 = .ok (.aload_n 0, 1) := by decide +kernel
theorem dc_240_61 : decode (sm_cc 240) 61 = .ok (.getfield 23, 3) := by decide +kernel
theorem fr_240_23 : sm_at mt_f (sm_ow 240) 23 = some (23, 0, 3, 0, 792) := by decide +kernel
theorem dc_240_64 : decode (sm_cc 240) 64 = .ok (.iload 4, 2) := by decide +kernel
theorem dc_240_66 : decode (sm_cc 240) 66 = .ok (.invokevirtual 234, 3) := by decide +kernel
theorem ow_242 : 7 = sm_ow 242 := by decide +kernel
theorem kr_240_234 : sm_at mt_k (sm_ow 240) 234 = some (234, 1, 242, 1, 1880) := by decide +kernel
theorem np_242 : sm_np 242 = 1 := by decide +kernel
theorem dc_240_69 : decode (sm_cc 240) 69 = .ok (.istore 5, 2) := by decide +kernel
theorem dc_240_71 : decode (sm_cc 240) 71 = .ok (.aload_n 0, 1) := by decide +kernel
theorem dc_240_72 : decode (sm_cc 240) 72 = .ok (.bipush (60), 2) := by decide +kernel
theorem dc_240_74 : decode (sm_cc 240) 74 = .ok (.invokevirtual 171, 3) := by decide +kernel
theorem kr_240_171 : sm_at mt_k (sm_ow 240) 171 = some (171, 0, 230, 0, 1813) := by decide +kernel
theorem dc_240_77 : decode (sm_cc 240) 77 = .ok (.aload_n 0, 1) := by decide +kernel
theorem dc_240_78 : decode (sm_cc 240) 78 = .ok (.iload_n 2, 1) := by decide +kernel
theorem dc_240_79 : decode (sm_cc 240) 79 = .ok (.invokestatic 202, 3) := by decide +kernel
theorem kr_240_202 : sm_at mt_k (sm_ow 240) 202 = some (202, 2, 239, 0, 1856) := by decide +kernel
theorem dc_240_82 : decode (sm_cc 240) 82 = .ok (.invokevirtual 206, 3) := by decide +kernel
theorem kr_240_206 : sm_at mt_k (sm_ow 240) 206 = some (206, 0, 231, 0, 1818) := by decide +kernel
theorem dc_240_85 : decode (sm_cc 240) 85 = .ok (.aload_n 0, 1) := by decide +kernel
theorem dc_240_86 : decode (sm_cc 240) 86 = .ok (.bipush (32), 2) := by decide +kernel
theorem dc_240_88 : decode (sm_cc 240) 88 = .ok (.invokevirtual 171, 3) := by decide +kernel
theorem dc_240_91 : decode (sm_cc 240) 91 = .ok (.aload_n 0, 1) := by decide +kernel
theorem dc_240_92 : decode (sm_cc 240) 92 = .ok (.aload_n 0, 1) := by decide +kernel
theorem dc_240_93 : decode (sm_cc 240) 93 = .ok (.getfield 19, 3) := by decide +kernel
theorem fr_240_19 : sm_at mt_f (sm_ow 240) 19 = some (19, 0, 2, 0, 791) := by decide +kernel
theorem dc_240_96 : decode (sm_cc 240) 96 = .ok (.iload 5, 2) := by decide +kernel
theorem dc_240_98 : decode (sm_cc 240) 98 = .ok (.invokevirtual 239, 3) := by decide +kernel
theorem kr_240_239 : sm_at mt_k (sm_ow 240) 239 = some (239, 1, 181, 1, 1884) := by decide +kernel
theorem dc_240_101 : decode (sm_cc 240) 101 = .ok (.aload_n 0, 1) := by decide +kernel
theorem dc_240_102 : decode (sm_cc 240) 102 = .ok (.getfield 19, 3) := by decide +kernel
theorem dc_240_105 : decode (sm_cc 240) 105 = .ok (.iload 5, 2) := by decide +kernel
theorem dc_240_107 : decode (sm_cc 240) 107 = .ok (.invokevirtual 244, 3) := by decide +kernel
theorem kr_240_244 : sm_at mt_k (sm_ow 240) 244 = some (244, 1, 182, 1, 1885) := by decide +kernel
theorem dc_240_110 : decode (sm_cc 240) 110 = .ok (.invokevirtual 162, 3) := by decide +kernel
theorem kr_240_162 : sm_at mt_k (sm_ow 240) 162 = some (162, 0, 238, 0, 1849) := by decide +kernel
theorem dc_240_113 : decode (sm_cc 240) 113 = .ok (.aload_n 0, 1) := by decide +kernel
theorem dc_240_114 : decode (sm_cc 240) 114 = .ok (.bipush (62), 2) := by decide +kernel
theorem dc_240_116 : decode (sm_cc 240) 116 = .ok (.invokevirtual 171, 3) := by decide +kernel
theorem dc_240_119 : decode (sm_cc 240) 119 = .ok (.return_, 1) := by decide +kernel
theorem rt_240 : sm_rt 240 = none := by decide +kernel
theorem dc_240_55 : decode (sm_cc 240) 55 = .ok (.iload 4, 2) := by decide +kernel
theorem dc_240_57 : decode (sm_cc 240) 57 = .ok (.goto (12), 3) := by decide +kernel
theorem dc_240_14 : decode (sm_cc 240) 14 = .ok (.iload_n 2, 1) := by decide +kernel
theorem dc_240_15 : decode (sm_cc 240) 15 = .ok (.bipush (6), 2) := by decide +kernel
theorem dc_240_17 : decode (sm_cc 240) 17 = .ok (.if_icmp .ne (14), 3) := by decide +kernel
theorem dc_240_31 : decode (sm_cc 240) 31 = .ok (.iload_n 1, 1) := by decide +kernel
theorem ml_243 : sm_ml 243 = 10 := by decide +kernel
theorem dc_243_0 : decode (sm_cc 243) 0 = .ok (.aload_n 0, 1) := by decide +kernel
theorem dc_243_1 : decode (sm_cc 243) 1 = .ok (.getfield 15, 3) := by decide +kernel
theorem fr_243_15 : sm_at mt_f (sm_ow 243) 15 = some (15, 0, 1, 0, 790) := by decide +kernel
theorem dc_243_4 : decode (sm_cc 243) 4 = .ok (.iconst 0, 1) := by decide +kernel
theorem dc_243_5 : decode (sm_cc 243) 5 = .ok (.invokevirtual 80, 3) := by decide +kernel
theorem kr_243_80 : sm_at mt_k (sm_ow 243) 80 = some (80, 1, 132, 1, 1869) := by decide +kernel
theorem dc_243_8 : decode (sm_cc 243) 8 = .ok (.invokestatic 84, 3) := by decide +kernel
theorem kr_243_84 : sm_at mt_k (sm_ow 243) 84 = some (84, 3, 134, 1, 1836) := by decide +kernel
theorem dc_243_11 : decode (sm_cc 243) 11 = .ok (.iconst 2, 1) := by decide +kernel
theorem dc_243_12 : decode (sm_cc 243) 12 = .ok (.if_icmp .ne (23), 3) := by decide +kernel
theorem dc_243_15 : decode (sm_cc 243) 15 = .ok (.iload_n 1, 1) := by decide +kernel
theorem dc_243_16 : decode (sm_cc 243) 16 = .ok (.iconst 2, 1) := by decide +kernel
theorem dc_243_17 : decode (sm_cc 243) 17 = .ok (.if_icmp .ne (20), 3) := by decide +kernel
theorem dc_243_37 : decode (sm_cc 243) 37 = .ok (.iload_n 1, 1) := by decide +kernel
theorem dc_243_38 : decode (sm_cc 243) 38 = .ok (.iconst 2, 1) := by decide +kernel
theorem dc_243_39 : decode (sm_cc 243) 39 = .ok (.if_icmp .ne (14), 3) := by decide +kernel
theorem dc_243_53 : decode (sm_cc 243) 53 = .ok (.lconst 0, 1) := by decide +kernel
theorem dc_243_54 : decode (sm_cc 243) 54 = .ok (.lstore_n 2, 1) := by decide +kernel
theorem dc_243_55 : decode (sm_cc 243) 55 = .ok (.aload_n 0, 1) := by decide +kernel
theorem dc_243_56 : decode (sm_cc 243) 56 = .ok (.getfield 15, 3) := by decide +kernel
theorem dc_243_59 : decode (sm_cc 243) 59 = .ok (.iconst 0, 1) := by decide +kernel
theorem dc_243_60 : decode (sm_cc 243) 60 = .ok (.invokevirtual 100, 3) := by decide +kernel
theorem kr_243_100 : sm_at mt_k (sm_ow 243) 100 = some (100, 1, 135, 1, 1870) := by decide +kernel
theorem dc_243_63 : decode (sm_cc 243) 63 = .ok (.lstore 4, 2) := by decide +kernel
theorem dc_243_65 : decode (sm_cc 243) 65 = .ok (.lload_n 2, 1) := by decide +kernel
theorem dc_243_66 : decode (sm_cc 243) 66 = .ok (.lload 4, 2) := by decide +kernel
theorem dc_243_68 : decode (sm_cc 243) 68 = .ok (.lcmp, 1) := by decide +kernel
theorem dc_243_69 : decode (sm_cc 243) 69 = .ok (.ifCond .ge (10), 3) := by decide +kernel
theorem dc_243_79 : decode (sm_cc 243) 79 = .ok (.lconst 0, 1) := by decide +kernel
theorem dc_243_80 : decode (sm_cc 243) 80 = .ok (.lstore 6, 2) := by decide +kernel
theorem dc_243_82 : decode (sm_cc 243) 82 = .ok (.lload 6, 2) := by decide +kernel
theorem dc_243_84 : decode (sm_cc 243) 84 = .ok (.lconst 0, 1) := by decide +kernel
theorem dc_243_85 : decode (sm_cc 243) 85 = .ok (.lcmp, 1) := by decide +kernel
theorem dc_243_86 : decode (sm_cc 243) 86 = .ok (.ifCond .lt (12), 3) := by decide +kernel
theorem dc_243_98 : decode (sm_cc 243) 98 = .ok (.bipush (8), 2) := by decide +kernel
theorem dc_243_100 : decode (sm_cc 243) 100 = .ok (.ireturn, 1) := by decide +kernel
theorem rt_243 : sm_rt 243 = some .int := by decide +kernel
theorem dc_243_89 : decode (sm_cc 243) 89 = .ok (.lload 6, 2) := by decide +kernel
theorem dc_243_91 : decode (sm_cc 243) 91 = .ok (.ldc2_w 103, 3) := by decide +kernel
theorem cj_243_103 : sm_at mt_cj (sm_ow 243) 103 = some (103, (300), 1892) := by decide +kernel
theorem dc_243_94 : decode (sm_cc 243) 94 = .ok (.lcmp, 1) := by decide +kernel
theorem dc_243_95 : decode (sm_cc 243) 95 = .ok (.ifCond .le (6), 3) := by decide +kernel
theorem dc_243_101 : decode (sm_cc 243) 101 = .ok (.aload_n 0, 1) := by decide +kernel
theorem dc_243_102 : decode (sm_cc 243) 102 = .ok (.getfield 9, 3) := by decide +kernel
theorem fr_243_9 : sm_at mt_f (sm_ow 243) 9 = some (9, 0, 0, 0, 789) := by decide +kernel
theorem dc_243_105 : decode (sm_cc 243) 105 = .ok (.iconst 1, 1) := by decide +kernel
theorem dc_243_106 : decode (sm_cc 243) 106 = .ok (.invokevirtual 105, 3) := by decide +kernel
theorem kr_243_105 : sm_at mt_k (sm_ow 243) 105 = some (105, 1, 178, 1, 1893) := by decide +kernel
theorem dc_243_109 : decode (sm_cc 243) 109 = .ok (.istore 8, 2) := by decide +kernel
theorem dc_243_111 : decode (sm_cc 243) 111 = .ok (.iload 8, 2) := by decide +kernel
theorem dc_243_113 : decode (sm_cc 243) 113 = .ok (.ifCond .ne (6), 3) := by decide +kernel
theorem dc_243_119 : decode (sm_cc 243) 119 = .ok (.iconst 0, 1) := by decide +kernel
theorem dc_243_120 : decode (sm_cc 243) 120 = .ok (.istore 9, 2) := by decide +kernel
theorem dc_243_116 : decode (sm_cc 243) 116 = .ok (.bipush (8), 2) := by decide +kernel
theorem dc_243_118 : decode (sm_cc 243) 118 = .ok (.ireturn, 1) := by decide +kernel
theorem dc_243_72 : decode (sm_cc 243) 72 = .ok (.lload 4, 2) := by decide +kernel
theorem dc_243_74 : decode (sm_cc 243) 74 = .ok (.lload_n 2, 1) := by decide +kernel
theorem dc_243_75 : decode (sm_cc 243) 75 = .ok (.lsub, 1) := by decide +kernel
theorem dc_243_76 : decode (sm_cc 243) 76 = .ok (.goto (4), 3) := by decide +kernel
theorem dc_243_35 : decode (sm_cc 243) 35 = .ok (.iconst 2, 1) := by decide +kernel
theorem dc_243_36 : decode (sm_cc 243) 36 = .ok (.ireturn, 1) := by decide +kernel
theorem dc_243_20 : decode (sm_cc 243) 20 = .ok (.aload_n 0, 1) := by decide +kernel
theorem dc_243_21 : decode (sm_cc 243) 21 = .ok (.getfield 15, 3) := by decide +kernel
theorem dc_243_24 : decode (sm_cc 243) 24 = .ok (.iconst 1, 1) := by decide +kernel
theorem dc_243_25 : decode (sm_cc 243) 25 = .ok (.invokevirtual 80, 3) := by decide +kernel
theorem dc_243_28 : decode (sm_cc 243) 28 = .ok (.invokestatic 84, 3) := by decide +kernel
theorem dc_243_31 : decode (sm_cc 243) 31 = .ok (.iconst 2, 1) := by decide +kernel
theorem dc_243_32 : decode (sm_cc 243) 32 = .ok (.if_icmp .eq (5), 3) := by decide +kernel
theorem dc_243_42 : decode (sm_cc 243) 42 = .ok (.aload_n 0, 1) := by decide +kernel
theorem dc_243_43 : decode (sm_cc 243) 43 = .ok (.getfield 15, 3) := by decide +kernel
theorem dc_243_46 : decode (sm_cc 243) 46 = .ok (.iconst 1, 1) := by decide +kernel
theorem dc_243_47 : decode (sm_cc 243) 47 = .ok (.invokevirtual 100, 3) := by decide +kernel
theorem dc_243_50 : decode (sm_cc 243) 50 = .ok (.goto (4), 3) := by decide +kernel
theorem dc_243_122 : decode (sm_cc 243) 122 = .ok (.iload 9, 2) := by decide +kernel
theorem dc_243_124 : decode (sm_cc 243) 124 = .ok (.i2l, 1) := by decide +kernel
theorem dc_243_125 : decode (sm_cc 243) 125 = .ok (.lload 6, 2) := by decide +kernel
theorem dc_243_127 : decode (sm_cc 243) 127 = .ok (.lcmp, 1) := by decide +kernel
theorem dc_243_128 : decode (sm_cc 243) 128 = .ok (.ifCond .ge (29), 3) := by decide +kernel
theorem dc_243_157 : decode (sm_cc 243) 157 = .ok (.aload_n 0, 1) := by decide +kernel
theorem dc_243_158 : decode (sm_cc 243) 158 = .ok (.getfield 15, 3) := by decide +kernel
theorem dc_243_161 : decode (sm_cc 243) 161 = .ok (.iload_n 1, 1) := by decide +kernel
theorem dc_243_162 : decode (sm_cc 243) 162 = .ok (.iconst 1, 1) := by decide +kernel
theorem dc_243_163 : decode (sm_cc 243) 163 = .ok (.iadd, 1) := by decide +kernel
theorem dc_243_164 : decode (sm_cc 243) 164 = .ok (.ldc2_w 112, 3) := by decide +kernel
theorem cj_243_112 : sm_at mt_cj (sm_ow 243) 112 = some (112, (4611686018427387904), 1896) := by decide +kernel
theorem dc_243_167 : decode (sm_cc 243) 167 = .ok (.iload 8, 2) := by decide +kernel
theorem dc_243_169 : decode (sm_cc 243) 169 = .ok (.i2l, 1) := by decide +kernel
theorem dc_243_170 : decode (sm_cc 243) 170 = .ok (.invokevirtual 71, 3) := by decide +kernel
theorem kr_243_71 : sm_at mt_k (sm_ow 243) 71 = some (71, 1, 148, 1, 1887) := by decide +kernel
theorem dc_243_173 : decode (sm_cc 243) 173 = .ok (.ireturn, 1) := by decide +kernel
theorem dc_243_131 : decode (sm_cc 243) 131 = .ok (.aload_n 0, 1) := by decide +kernel
theorem dc_243_132 : decode (sm_cc 243) 132 = .ok (.getfield 9, 3) := by decide +kernel
theorem dc_243_135 : decode (sm_cc 243) 135 = .ok (.iload 8, 2) := by decide +kernel
theorem dc_243_137 : decode (sm_cc 243) 137 = .ok (.lconst 0, 1) := by decide +kernel
theorem dc_243_138 : decode (sm_cc 243) 138 = .ok (.lconst 0, 1) := by decide +kernel
theorem dc_243_139 : decode (sm_cc 243) 139 = .ok (.ldc2_w 64, 3) := by decide +kernel
theorem cj_243_64 : sm_at mt_cj (sm_ow 243) 64 = some (64, (2305843009213693952), 1894) := by decide +kernel
theorem dc_243_142 : decode (sm_cc 243) 142 = .ok (.lload_n 2, 1) := by decide +kernel
theorem dc_243_143 : decode (sm_cc 243) 143 = .ok (.iload 9, 2) := by decide +kernel
theorem dc_243_145 : decode (sm_cc 243) 145 = .ok (.i2l, 1) := by decide +kernel
theorem dc_243_146 : decode (sm_cc 243) 146 = .ok (.ladd, 1) := by decide +kernel
theorem dc_243_147 : decode (sm_cc 243) 147 = .ok (.invokevirtual 108, 3) := by decide +kernel
theorem kr_243_108 : sm_at mt_k (sm_ow 243) 108 = some (108, 1, 183, 1, 1895) := by decide +kernel
theorem dc_243_150 : decode (sm_cc 243) 150 = .ok (.pop, 1) := by decide +kernel
theorem dc_243_151 : decode (sm_cc 243) 151 = .ok (.iinc 9 (1), 3) := by decide +kernel
theorem dc_243_154 : decode (sm_cc 243) 154 = .ok (.goto (-32), 3) := by decide +kernel
theorem ml_247 : sm_ml 247 = 5 := by decide +kernel
theorem dc_247_0 : decode (sm_cc 247) 0 = .ok (.aload_n 0, 1) := by decide +kernel
theorem dc_247_1 : decode (sm_cc 247) 1 = .ok (.getfield 15, 3) := by decide +kernel
theorem fr_247_15 : sm_at mt_f (sm_ow 247) 15 = some (15, 0, 1, 0, 790) := by decide +kernel
theorem dc_247_4 : decode (sm_cc 247) 4 = .ok (.iconst 0, 1) := by decide +kernel
theorem dc_247_5 : decode (sm_cc 247) 5 = .ok (.iconst 2, 1) := by decide +kernel
theorem dc_247_6 : decode (sm_cc 247) 6 = .ok (.invokevirtual 114, 3) := by decide +kernel
theorem kr_247_114 : sm_at mt_k (sm_ow 247) 114 = some (114, 1, 152, 1, 1905) := by decide +kernel
theorem dc_247_9 : decode (sm_cc 247) 9 = .ok (.istore_n 1, 1) := by decide +kernel
theorem dc_247_10 : decode (sm_cc 247) 10 = .ok (.iload_n 1, 1) := by decide +kernel
theorem dc_247_11 : decode (sm_cc 247) 11 = .ok (.ifCond .ne (5), 3) := by decide +kernel
theorem dc_247_16 : decode (sm_cc 247) 16 = .ok (.aload_n 0, 1) := by decide +kernel
theorem dc_247_17 : decode (sm_cc 247) 17 = .ok (.getfield 9, 3) := by decide +kernel
theorem fr_247_9 : sm_at mt_f (sm_ow 247) 9 = some (9, 0, 0, 0, 789) := by decide +kernel
theorem dc_247_20 : decode (sm_cc 247) 20 = .ok (.iconst 1, 1) := by decide +kernel
theorem dc_247_21 : decode (sm_cc 247) 21 = .ok (.invokevirtual 105, 3) := by decide +kernel
theorem kr_247_105 : sm_at mt_k (sm_ow 247) 105 = some (105, 1, 178, 1, 1893) := by decide +kernel
theorem dc_247_24 : decode (sm_cc 247) 24 = .ok (.istore_n 2, 1) := by decide +kernel
theorem dc_247_25 : decode (sm_cc 247) 25 = .ok (.iload_n 2, 1) := by decide +kernel
theorem dc_247_26 : decode (sm_cc 247) 26 = .ok (.ifCond .ne (6), 3) := by decide +kernel
theorem dc_247_32 : decode (sm_cc 247) 32 = .ok (.aload_n 0, 1) := by decide +kernel
theorem dc_247_33 : decode (sm_cc 247) 33 = .ok (.getfield 9, 3) := by decide +kernel
theorem dc_247_36 : decode (sm_cc 247) 36 = .ok (.iload_n 1, 1) := by decide +kernel
theorem dc_247_37 : decode (sm_cc 247) 37 = .ok (.invokevirtual 97, 3) := by decide +kernel
theorem kr_247_97 : sm_at mt_k (sm_ow 247) 97 = some (97, 1, 140, 1, 1812) := by decide +kernel
theorem dc_247_40 : decode (sm_cc 247) 40 = .ok (.istore_n 3, 1) := by decide +kernel
theorem dc_247_41 : decode (sm_cc 247) 41 = .ok (.iconst 0, 1) := by decide +kernel
theorem dc_247_42 : decode (sm_cc 247) 42 = .ok (.istore 4, 2) := by decide +kernel
theorem dc_247_29 : decode (sm_cc 247) 29 = .ok (.bipush (8), 2) := by decide +kernel
theorem dc_247_31 : decode (sm_cc 247) 31 = .ok (.ireturn, 1) := by decide +kernel
theorem rt_247 : sm_rt 247 = some .int := by decide +kernel
theorem dc_247_14 : decode (sm_cc 247) 14 = .ok (.iconst 2, 1) := by decide +kernel
theorem dc_247_15 : decode (sm_cc 247) 15 = .ok (.ireturn, 1) := by decide +kernel
theorem dc_247_44 : decode (sm_cc 247) 44 = .ok (.iload 4, 2) := by decide +kernel
theorem dc_247_46 : decode (sm_cc 247) 46 = .ok (.iload_n 3, 1) := by decide +kernel
theorem dc_247_47 : decode (sm_cc 247) 47 = .ok (.if_icmp .ge (40), 3) := by decide +kernel
theorem dc_247_87 : decode (sm_cc 247) 87 = .ok (.aload_n 0, 1) := by decide +kernel
theorem dc_247_88 : decode (sm_cc 247) 88 = .ok (.getfield 15, 3) := by decide +kernel
theorem dc_247_91 : decode (sm_cc 247) 91 = .ok (.iconst 2, 1) := by decide +kernel
theorem dc_247_92 : decode (sm_cc 247) 92 = .ok (.ldc2_w 112, 3) := by decide +kernel
theorem cj_247_112 : sm_at mt_cj (sm_ow 247) 112 = some (112, (4611686018427387904), 1896) := by decide +kernel
theorem dc_247_95 : decode (sm_cc 247) 95 = .ok (.iload_n 2, 1) := by decide +kernel
theorem dc_247_96 : decode (sm_cc 247) 96 = .ok (.i2l, 1) := by decide +kernel
theorem dc_247_97 : decode (sm_cc 247) 97 = .ok (.invokevirtual 71, 3) := by decide +kernel
theorem kr_247_71 : sm_at mt_k (sm_ow 247) 71 = some (71, 1, 148, 1, 1887) := by decide +kernel
theorem dc_247_100 : decode (sm_cc 247) 100 = .ok (.ireturn, 1) := by decide +kernel
theorem dc_247_50 : decode (sm_cc 247) 50 = .ok (.aload_n 0, 1) := by decide +kernel
theorem dc_247_51 : decode (sm_cc 247) 51 = .ok (.getfield 9, 3) := by decide +kernel
theorem dc_247_54 : decode (sm_cc 247) 54 = .ok (.iload_n 2, 1) := by decide +kernel
theorem dc_247_55 : decode (sm_cc 247) 55 = .ok (.lconst 0, 1) := by decide +kernel
theorem dc_247_56 : decode (sm_cc 247) 56 = .ok (.lconst 0, 1) := by decide +kernel
theorem dc_247_57 : decode (sm_cc 247) 57 = .ok (.aload_n 0, 1) := by decide +kernel
theorem dc_247_58 : decode (sm_cc 247) 58 = .ok (.getfield 9, 3) := by decide +kernel
theorem dc_247_61 : decode (sm_cc 247) 61 = .ok (.iload_n 1, 1) := by decide +kernel
theorem dc_247_62 : decode (sm_cc 247) 62 = .ok (.iload 4, 2) := by decide +kernel
theorem dc_247_64 : decode (sm_cc 247) 64 = .ok (.invokevirtual 133, 3) := by decide +kernel
theorem kr_247_133 : sm_at mt_k (sm_ow 247) 133 = some (133, 1, 232, 1, 1824) := by decide +kernel
theorem dc_247_67 : decode (sm_cc 247) 67 = .ok (.aload_n 0, 1) := by decide +kernel
theorem dc_247_68 : decode (sm_cc 247) 68 = .ok (.getfield 9, 3) := by decide +kernel
theorem dc_247_71 : decode (sm_cc 247) 71 = .ok (.iload_n 1, 1) := by decide +kernel
theorem dc_247_72 : decode (sm_cc 247) 72 = .ok (.iload 4, 2) := by decide +kernel
theorem dc_247_74 : decode (sm_cc 247) 74 = .ok (.invokevirtual 136, 3) := by decide +kernel
theorem kr_247_136 : sm_at mt_k (sm_ow 247) 136 = some (136, 1, 233, 1, 1828) := by decide +kernel
theorem dc_247_77 : decode (sm_cc 247) 77 = .ok (.invokevirtual 108, 3) := by decide +kernel
theorem kr_247_108 : sm_at mt_k (sm_ow 247) 108 = some (108, 1, 183, 1, 1895) := by decide +kernel
theorem dc_247_80 : decode (sm_cc 247) 80 = .ok (.pop, 1) := by decide +kernel
theorem dc_247_81 : decode (sm_cc 247) 81 = .ok (.iinc 4 (1), 3) := by decide +kernel
theorem dc_247_84 : decode (sm_cc 247) 84 = .ok (.goto (-40), 3) := by decide +kernel
theorem ml_248 : sm_ml 248 = 7 := by decide +kernel
theorem dc_248_0 : decode (sm_cc 248) 0 = .ok (.aload_n 0, 1) := by decide +kernel
theorem dc_248_1 : decode (sm_cc 248) 1 = .ok (.getfield 15, 3) := by decide +kernel
theorem fr_248_15 : sm_at mt_f (sm_ow 248) 15 = some (15, 0, 1, 0, 790) := by decide +kernel
theorem dc_248_4 : decode (sm_cc 248) 4 = .ok (.iconst 0, 1) := by decide +kernel
theorem dc_248_5 : decode (sm_cc 248) 5 = .ok (.invokevirtual 80, 3) := by decide +kernel
theorem kr_248_80 : sm_at mt_k (sm_ow 248) 80 = some (80, 1, 132, 1, 1869) := by decide +kernel
theorem dc_248_8 : decode (sm_cc 248) 8 = .ok (.invokestatic 84, 3) := by decide +kernel
theorem kr_248_84 : sm_at mt_k (sm_ow 248) 84 = some (84, 3, 134, 1, 1836) := by decide +kernel
theorem dc_248_11 : decode (sm_cc 248) 11 = .ok (.iconst 3, 1) := by decide +kernel
theorem dc_248_12 : decode (sm_cc 248) 12 = .ok (.if_icmp .ne (28), 3) := by decide +kernel
theorem dc_248_15 : decode (sm_cc 248) 15 = .ok (.aload_n 0, 1) := by decide +kernel
theorem dc_248_16 : decode (sm_cc 248) 16 = .ok (.getfield 15, 3) := by decide +kernel
theorem dc_248_19 : decode (sm_cc 248) 19 = .ok (.iconst 2, 1) := by decide +kernel
theorem dc_248_20 : decode (sm_cc 248) 20 = .ok (.aload_n 0, 1) := by decide +kernel
theorem dc_248_21 : decode (sm_cc 248) 21 = .ok (.getfield 15, 3) := by decide +kernel
theorem dc_248_24 : decode (sm_cc 248) 24 = .ok (.iconst 0, 1) := by decide +kernel
theorem dc_248_25 : decode (sm_cc 248) 25 = .ok (.invokevirtual 80, 3) := by decide +kernel
theorem dc_248_28 : decode (sm_cc 248) 28 = .ok (.aload_n 0, 1) := by decide +kernel
theorem dc_248_29 : decode (sm_cc 248) 29 = .ok (.getfield 15, 3) := by decide +kernel
theorem dc_248_32 : decode (sm_cc 248) 32 = .ok (.iconst 0, 1) := by decide +kernel
theorem dc_248_33 : decode (sm_cc 248) 33 = .ok (.invokevirtual 100, 3) := by decide +kernel
theorem kr_248_100 : sm_at mt_k (sm_ow 248) 100 = some (100, 1, 135, 1, 1870) := by decide +kernel
theorem dc_248_36 : decode (sm_cc 248) 36 = .ok (.invokevirtual 71, 3) := by decide +kernel
theorem kr_248_71 : sm_at mt_k (sm_ow 248) 71 = some (71, 1, 148, 1, 1887) := by decide +kernel
theorem dc_248_39 : decode (sm_cc 248) 39 = .ok (.ireturn, 1) := by decide +kernel
theorem rt_248 : sm_rt 248 = some .int := by decide +kernel
theorem dc_248_40 : decode (sm_cc 248) 40 = .ok (.aload_n 0, 1) := by decide +kernel
theorem dc_248_41 : decode (sm_cc 248) 41 = .ok (.getfield 15, 3) := by decide +kernel
theorem dc_248_44 : decode (sm_cc 248) 44 = .ok (.iconst 0, 1) := by decide +kernel
theorem dc_248_45 : decode (sm_cc 248) 45 = .ok (.invokevirtual 80, 3) := by decide +kernel
theorem dc_248_48 : decode (sm_cc 248) 48 = .ok (.invokestatic 84, 3) := by decide +kernel
theorem dc_248_51 : decode (sm_cc 248) 51 = .ok (.iconst 2, 1) := by decide +kernel
theorem dc_248_52 : decode (sm_cc 248) 52 = .ok (.if_icmp .eq (5), 3) := by decide +kernel
theorem dc_248_57 : decode (sm_cc 248) 57 = .ok (.aload_n 0, 1) := by decide +kernel
theorem dc_248_58 : decode (sm_cc 248) 58 = .ok (.aload_n 0, 1) := by decide +kernel
theorem dc_248_59 : decode (sm_cc 248) 59 = .ok (.getfield 15, 3) := by decide +kernel
theorem dc_248_62 : decode (sm_cc 248) 62 = .ok (.iconst 0, 1) := by decide +kernel
theorem dc_248_63 : decode (sm_cc 248) 63 = .ok (.invokevirtual 100, 3) := by decide +kernel
theorem dc_248_66 : decode (sm_cc 248) 66 = .ok (.invokevirtual 139, 3) := by decide +kernel
theorem kr_248_139 : sm_at mt_k (sm_ow 248) 139 = some (139, 0, 236, 0, 1841) := by decide +kernel
theorem dc_248_69 : decode (sm_cc 248) 69 = .ok (.istore_n 1, 1) := by decide +kernel
theorem dc_248_70 : decode (sm_cc 248) 70 = .ok (.bipush (20), 2) := by decide +kernel
theorem dc_248_72 : decode (sm_cc 248) 72 = .ok (.iload_n 1, 1) := by decide +kernel
theorem dc_248_73 : decode (sm_cc 248) 73 = .ok (.isub, 1) := by decide +kernel
theorem dc_248_74 : decode (sm_cc 248) 74 = .ok (.bipush (15), 2) := by decide +kernel
theorem dc_248_76 : decode (sm_cc 248) 76 = .ok (.if_icmp .le (6), 3) := by decide +kernel
theorem dc_248_82 : decode (sm_cc 248) 82 = .ok (.ldc2_w 142, 3) := by decide +kernel
theorem cj_248_142 : sm_at mt_cj (sm_ow 248) 142 = some (142, (3458764513820540928), 1920) := by decide +kernel
theorem dc_248_85 : decode (sm_cc 248) 85 = .ok (.lstore_n 2, 1) := by decide +kernel
theorem dc_248_86 : decode (sm_cc 248) 86 = .ok (.lconst 0, 1) := by decide +kernel
theorem dc_248_87 : decode (sm_cc 248) 87 = .ok (.lstore 4, 2) := by decide +kernel
theorem dc_248_89 : decode (sm_cc 248) 89 = .ok (.iload_n 1, 1) := by decide +kernel
theorem dc_248_90 : decode (sm_cc 248) 90 = .ok (.istore 6, 2) := by decide +kernel
theorem dc_248_79 : decode (sm_cc 248) 79 = .ok (.bipush (8), 2) := by decide +kernel
theorem dc_248_81 : decode (sm_cc 248) 81 = .ok (.ireturn, 1) := by decide +kernel
theorem dc_248_55 : decode (sm_cc 248) 55 = .ok (.iconst 2, 1) := by decide +kernel
theorem dc_248_56 : decode (sm_cc 248) 56 = .ok (.ireturn, 1) := by decide +kernel
theorem dc_248_92 : decode (sm_cc 248) 92 = .ok (.iload 6, 2) := by decide +kernel
theorem dc_248_94 : decode (sm_cc 248) 94 = .ok (.ifCond .lt (43), 3) := by decide +kernel
theorem dc_248_97 : decode (sm_cc 248) 97 = .ok (.iload 6, 2) := by decide +kernel
theorem dc_248_99 : decode (sm_cc 248) 99 = .ok (.bipush (20), 2) := by decide +kernel
theorem dc_248_101 : decode (sm_cc 248) 101 = .ok (.if_icmp .ge (36), 3) := by decide +kernel
theorem dc_248_137 : decode (sm_cc 248) 137 = .ok (.aload_n 0, 1) := by decide +kernel
theorem dc_248_138 : decode (sm_cc 248) 138 = .ok (.getfield 15, 3) := by decide +kernel
theorem dc_248_141 : decode (sm_cc 248) 141 = .ok (.iconst 2, 1) := by decide +kernel
theorem dc_248_142 : decode (sm_cc 248) 142 = .ok (.lload_n 2, 1) := by decide +kernel
theorem dc_248_143 : decode (sm_cc 248) 143 = .ok (.lload 4, 2) := by decide +kernel
theorem dc_248_145 : decode (sm_cc 248) 145 = .ok (.invokevirtual 71, 3) := by decide +kernel
theorem dc_248_148 : decode (sm_cc 248) 148 = .ok (.ireturn, 1) := by decide +kernel
theorem dc_248_104 : decode (sm_cc 248) 104 = .ok (.lload_n 2, 1) := by decide +kernel
theorem dc_248_105 : decode (sm_cc 248) 105 = .ok (.lload 4, 2) := by decide +kernel
theorem dc_248_107 : decode (sm_cc 248) 107 = .ok (.aload_n 0, 1) := by decide +kernel
theorem dc_248_108 : decode (sm_cc 248) 108 = .ok (.getfield 31, 3) := by decide +kernel
theorem fr_248_31 : sm_at mt_f (sm_ow 248) 31 = some (31, 0, 5, 0, 794) := by decide +kernel
theorem dc_248_111 : decode (sm_cc 248) 111 = .ok (.iload 6, 2) := by decide +kernel
theorem dc_248_113 : decode (sm_cc 248) 113 = .ok (.baload, 1) := by decide +kernel
theorem dc_248_114 : decode (sm_cc 248) 114 = .ok (.invokestatic 144, 3) := by decide +kernel
theorem kr_248_144 : sm_at mt_k (sm_ow 248) 144 = some (144, 3, 16, 1, 1921) := by decide +kernel
theorem dc_248_117 : decode (sm_cc 248) 117 = .ok (.lstore 4, 2) := by decide +kernel
theorem dc_248_119 : decode (sm_cc 248) 119 = .ok (.lload_n 2, 1) := by decide +kernel
theorem dc_248_120 : decode (sm_cc 248) 120 = .ok (.aload_n 0, 1) := by decide +kernel
theorem dc_248_121 : decode (sm_cc 248) 121 = .ok (.getfield 31, 3) := by decide +kernel
theorem dc_248_124 : decode (sm_cc 248) 124 = .ok (.iload 6, 2) := by decide +kernel
theorem dc_248_126 : decode (sm_cc 248) 126 = .ok (.baload, 1) := by decide +kernel
theorem dc_248_127 : decode (sm_cc 248) 127 = .ok (.invokestatic 148, 3) := by decide +kernel
theorem kr_248_148 : sm_at mt_k (sm_ow 248) 148 = some (148, 3, 17, 1, 1922) := by decide +kernel
theorem dc_248_130 : decode (sm_cc 248) 130 = .ok (.lstore_n 2, 1) := by decide +kernel
theorem dc_248_131 : decode (sm_cc 248) 131 = .ok (.iinc 6 (1), 3) := by decide +kernel
theorem dc_248_134 : decode (sm_cc 248) 134 = .ok (.goto (-42), 3) := by decide +kernel
theorem sx_areturnX {X : Option (Nat × (Nat → Int32))} {cal : Nat → List Value → sm_H → Nat → Option sm_R} {j n pc a : Nat} {lv : sm_L} {σ : sm_H} {u : Nat} {c : String} (hd : decode (sm_cc j) pc = .ok (.areturn, 1)) (hr : sm_rt j = some (.object c)) (ha : ¬ a = 100001) : sm_run X cal j (n + 1) (pc, lv, [.retAddr a], σ, u) = some (some (.retAddr a), σ, u) := by
  refine sx_end0 (k := 1) hd ?_
  have h8 : sm_end (sm_rt j) .areturn [.retAddr a] = some (some (.retAddr a)) := by
    unfold sm_end
    rw [hr]
    exact if_neg ha
  unfold sm_do
  simp [h8, show sm_ops .areturn [Value.retAddr a] = none from rfl, show sm_loc (sm_ml j) .areturn lv [Value.retAddr a] = none from rfl, show sm_br .areturn 1 pc [Value.retAddr a] = none from rfl, show sm_rd X (sm_ow j) .areturn [Value.retAddr a] σ = none from rfl, show sm_wr (sm_ow j) (sm_ini j) .areturn [Value.retAddr a] σ = none from rfl, show sm_mk (sm_ow j) .areturn [Value.retAddr a] σ u = none from rfl, show sm_na (sm_ow j) .areturn [Value.retAddr a] σ = none from rfl, show sm_cl (sm_ow j) .areturn [Value.retAddr a] σ = none from rfl]
theorem Bod.retX {d j pc a : Nat} {lv : sm_L} {S : cS} {c : String} (hd : decode (sm_cc j) pc = .ok (.areturn, 1)) (hr : sm_rt j = some (.object c)) (ha : ¬ a = 100001) : Bod d j pc lv [.retAddr a] S (some (.retAddr a)) S := Bod.ret (fun _ _ => sx_areturnX hd hr ha)
theorem mPr_1 {d : Nat} {S Sf : cS} {v : Option Value} {gv : Nat} {ol : Nat} (mgv : gv < 2 ^ 20) (hol : sI S 4906 = nI ol) (mol : ol < 2 ^ 20) (b1 : 1 ≤ gv + 1) (hB : ∀ lv1 : sm_L, sm_get lv1 0 = some (.ref 49) → sm_get lv1 1 = some (.int (nI (gv + 1))) → sm_get lv1 2 = some (.int (nI gv)) → Bod (d + 8) 228 12 lv1 [] (wI 4907 (nI ol) S) v Sf) : Bod (d + 8) 228 0 [(0, .ref 49), (1, .int (nI (gv + 1)))] [] S v Sf := by
  refine Bod.go dc_228_0 rfl ?_
  refine Bod.go dc_228_1 rfl ?_
  refine Bod.get dc_228_2 fr_228_34 (mk_49 _) rfl ?_
  refine Bod.eqI (nI ol) (by first | assumption | rfl | exact congrArg nI (by omega) | (simp (disch := omega) only [rI, rIe, rA, rIA, rLA, rJA, rVI, rQI, rVA, rQA, upd_at,  rAI, rLI, rJI, nI_add, pk_sub, kc_0, kc_1, kc_2, kc_3, kc_4, kc_5, reduceIte, Nat.reduceEqDiff, Nat.add_zero, rI_hold, rI_hold, rL_hold, hol]; done)) ?_
  refine Bod.put dc_228_5 fr_228_155 (mk_49 _) (Nat.le_of_ble_eq_true rfl) pf_0_7 (st_4907 _ _) (mu_I _ _ _) ?_
  refine Bod.go dc_228_8 rfl ?_
  refine Bod.ic 1 (by decide) dc_228_9 ?_
  refine Bod.subN gv (by omega) (by omega) dc_228_10 ?_
  refine Bod.istn dc_228_11 (by rw [ml_228]; exact Nat.le_of_ble_eq_true rfl) ?_
  exact hB _ (by first | rfl | exact (by repeat (first | exact rfl | exact sm_get_p1 | exact sm_get_p2e | refine sm_get_p1m (by decide) (by decide) ?_ | refine sm_get_p1n (by decide) rfl ?_ | refine sm_get_p2n (by decide) (by decide) rfl ?_ | refine sm_get_p2m (by decide) (by decide) (by decide) ?_))) (by first | rfl | exact (by repeat (first | exact rfl | exact sm_get_p1 | exact sm_get_p2e | refine sm_get_p1m (by decide) (by decide) ?_ | refine sm_get_p1n (by decide) rfl ?_ | refine sm_get_p2n (by decide) (by decide) rfl ?_ | refine sm_get_p2m (by decide) (by decide) (by decide) ?_))) (by first | rfl | exact (by repeat (first | exact rfl | exact sm_get_p1 | exact sm_get_p2e | refine sm_get_p1m (by decide) (by decide) ?_ | refine sm_get_p1n (by decide) rfl ?_ | refine sm_get_p2n (by decide) (by decide) rfl ?_ | refine sm_get_p2m (by decide) (by decide) (by decide) ?_)))
theorem mPrZ_1 {d : Nat} {S Sf : cS} {v : Option Value} {ol : Nat} (hol : sI S 4906 = nI ol) (mol : ol < 2 ^ 20) (hB : ∀ lv1 : sm_L, sm_get lv1 0 = some (.ref 49) → sm_get lv1 1 = some (.int (nI 0)) → sm_get lv1 2 = some (.int (Int32.ofInt (-1))) → Bod (d + 8) 228 12 lv1 [] (wI 4907 (nI ol) S) v Sf) : Bod (d + 8) 228 0 [(0, .ref 49), (1, .int (nI 0))] [] S v Sf := by
  refine Bod.go dc_228_0 rfl ?_
  refine Bod.go dc_228_1 rfl ?_
  refine Bod.get dc_228_2 fr_228_34 (mk_49 _) rfl ?_
  refine Bod.eqI (nI ol) (by first | assumption | rfl | exact congrArg nI (by omega) | (simp (disch := omega) only [rI, rIe, rA, rIA, rLA, rJA, rVI, rQI, rVA, rQA, upd_at,  rAI, rLI, rJI, nI_add, pk_sub, kc_0, kc_1, kc_2, kc_3, kc_4, kc_5, reduceIte, Nat.reduceEqDiff, Nat.add_zero, rI_hold, rI_hold, rL_hold, hol]; done)) ?_
  refine Bod.put dc_228_5 fr_228_155 (mk_49 _) (Nat.le_of_ble_eq_true rfl) pf_0_7 (st_4907 _ _) (mu_I _ _ _) ?_
  refine Bod.go dc_228_8 rfl ?_
  refine Bod.ic 1 (by decide) dc_228_9 ?_
  refine Bod.subM dc_228_10 ?_
  refine Bod.istn dc_228_11 (by rw [ml_228]; exact Nat.le_of_ble_eq_true rfl) ?_
  exact hB _ (by first | rfl | exact (by repeat (first | exact rfl | exact sm_get_p1 | exact sm_get_p2e | refine sm_get_p1m (by decide) (by decide) ?_ | refine sm_get_p1n (by decide) rfl ?_ | refine sm_get_p2n (by decide) (by decide) rfl ?_ | refine sm_get_p2m (by decide) (by decide) (by decide) ?_))) (by first | rfl | exact (by repeat (first | exact rfl | exact sm_get_p1 | exact sm_get_p2e | refine sm_get_p1m (by decide) (by decide) ?_ | refine sm_get_p1n (by decide) rfl ?_ | refine sm_get_p2n (by decide) (by decide) rfl ?_ | refine sm_get_p2m (by decide) (by decide) (by decide) ?_))) (by first | rfl | exact (by repeat (first | exact rfl | exact sm_get_p1 | exact sm_get_p2e | refine sm_get_p1m (by decide) (by decide) ?_ | refine sm_get_p1n (by decide) rfl ?_ | refine sm_get_p2n (by decide) (by decide) rfl ?_ | refine sm_get_p2m (by decide) (by decide) (by decide) ?_)))
theorem mPrL_1 {d : Nat} {S Sf : cS} {v : Option Value} {lv : sm_L} {gv : Nat} {ni : Nat} {S1 : cS} {a : Nat} {S2 : cS} {a1 : Nat} {S3 : cS} (q0 : sm_get lv 0 = some (.ref 49)) (q1 : sm_get lv 1 = some (.int (nI gv))) (q2 : sm_get lv 2 = some (.int (nI (ni + 1)))) (mgv : gv < 2 ^ 20) (mni : ni < 2 ^ 20) (ma : a < 2 ^ 20) (c1 : Ans (d + 8) 136 [.ref 46, .int (nI (ni + 1))] S (some (.int (nI a))) S1) (ma1 : a1 < 2 ^ 20) (c2 : Ans (d + 8) 138 [.ref 2, .int (nI a)] S1 (some (.int (nI a1))) S2) (b1 : a1 = 1) (c3 : Ans (d + 8) 229 [.ref 49, .int (nI a)] S2 none S3) (b2 : (ni + 1) ≤ 0) (hB : ∀ lv1 : sm_L, sm_get lv1 0 = some (.ref 49) → sm_get lv1 1 = some (.int (nI gv)) → sm_get lv1 2 = some (.int (nI ni)) → Bod (d + 8) 228 12 lv1 [] (S3) v Sf) : Bod (d + 8) 228 12 lv [] S v Sf := by
  refine Bod.ildnG dc_228_12 (by repeat (first | exact q2 | exact sm_get_p1 | exact sm_get_p2e | refine sm_get_p1m (by decide) (by decide) ?_ | refine sm_get_p1n (by decide) rfl ?_ | refine sm_get_p2n (by decide) (by decide) rfl ?_ | refine sm_get_p2m (by decide) (by decide) (by decide) ?_)) ?_
  refine Bod.ifF dc_228_13 rfl (k1_lt_F (ni + 1) rfl (by omega)) ?_
  refine Bod.aldnG dc_228_16 (by repeat (first | exact q0 | exact sm_get_p1 | exact sm_get_p2e | refine sm_get_p1m (by decide) (by decide) ?_ | refine sm_get_p1n (by decide) rfl ?_ | refine sm_get_p2n (by decide) (by decide) rfl ?_ | refine sm_get_p2m (by decide) (by decide) (by decide) ?_)) ?_
  refine Bod.get dc_228_17 fr_228_15 (mk_49 _) rfl ?_
  refine Bod.ildnG dc_228_20 (by repeat (first | exact q2 | exact sm_get_p1 | exact sm_get_p2e | refine sm_get_p1m (by decide) (by decide) ?_ | refine sm_get_p1n (by decide) rfl ?_ | refine sm_get_p2n (by decide) (by decide) rfl ?_ | refine sm_get_p2m (by decide) (by decide) (by decide) ?_)) ?_
  refine Bod.virt (r := []) dc_228_21 kr_228_91 ⟨Or.inr rfl, ow_136, cl_9⟩ (by rw [np_136]; rfl) (by rw [np_136]; rfl) (ob_of (mk_46 _)) (Nat.le_of_ble_eq_true rfl) (c1  ) ?_
  show Bod _ _ _ _ [_] _ _ _
  refine Bod.istn dc_228_24 (by rw [ml_228]; exact Nat.le_of_ble_eq_true rfl) ?_
  refine Bod.aldnG dc_228_25 (by repeat (first | exact q0 | exact sm_get_p1 | exact sm_get_p2e | refine sm_get_p1m (by decide) (by decide) ?_ | refine sm_get_p1n (by decide) rfl ?_ | refine sm_get_p2n (by decide) (by decide) rfl ?_ | refine sm_get_p2m (by decide) (by decide) (by decide) ?_)) ?_
  refine Bod.get dc_228_26 fr_228_9 (mk_49 _) rfl ?_
  refine Bod.ildnG dc_228_29 (by repeat (first | exact q0 | exact sm_get_p1 | exact sm_get_p2e | refine sm_get_p1m (by decide) (by decide) ?_ | refine sm_get_p1n (by decide) rfl ?_ | refine sm_get_p2n (by decide) (by decide) rfl ?_ | refine sm_get_p2m (by decide) (by decide) (by decide) ?_)) ?_
  refine Bod.virt (r := []) dc_228_30 kr_228_94 ⟨Or.inr rfl, ow_138, cl_2⟩ (by rw [np_138]; rfl) (by rw [np_138]; rfl) (ob_of (mk_2 _)) (Nat.le_of_ble_eq_true rfl) (c2  ) ?_
  show Bod _ _ _ _ [_] _ _ _
  refine Bod.ic 1 (by decide) dc_228_33 ?_
  refine Bod.icT dc_228_34 rfl (k2_eq_T (k_eq a1 1 rfl rfl (by omega))) ?_
  refine Bod.aldnG dc_228_49 (by repeat (first | exact q0 | exact sm_get_p1 | exact sm_get_p2e | refine sm_get_p1m (by decide) (by decide) ?_ | refine sm_get_p1n (by decide) rfl ?_ | refine sm_get_p2n (by decide) (by decide) rfl ?_ | refine sm_get_p2m (by decide) (by decide) (by decide) ?_)) ?_
  refine Bod.ildnG dc_228_50 (by repeat (first | exact q0 | exact sm_get_p1 | exact sm_get_p2e | refine sm_get_p1m (by decide) (by decide) ?_ | refine sm_get_p1n (by decide) rfl ?_ | refine sm_get_p2n (by decide) (by decide) rfl ?_ | refine sm_get_p2m (by decide) (by decide) (by decide) ?_)) ?_
  refine Bod.virt (r := []) dc_228_51 kr_228_158 ⟨Or.inl rfl, ow_229, cl_0⟩ (by rw [np_229]; rfl) (by rw [np_229]; rfl) (ob_of (mk_49 _)) (Nat.le_of_ble_eq_true rfl) (c3  ) ?_
  show Bod _ _ _ _ [] _ _ _
  refine Bod.go dc_228_54 rfl ?_
  refine Bod.ildnG dc_228_127 (by repeat (first | exact q2 | exact sm_get_p1 | exact sm_get_p2e | refine sm_get_p1m (by decide) (by decide) ?_ | refine sm_get_p1n (by decide) rfl ?_ | refine sm_get_p2n (by decide) (by decide) rfl ?_ | refine sm_get_p2m (by decide) (by decide) (by decide) ?_)) ?_
  refine Bod.ifT dc_228_128 rfl (k1_le_T (k_eq (ni + 1) 0 (by first | assumption | (simp (disch := omega) only [rI, rIe, rA, rIA, rLA, rJA, rVI, rQI, rVA, rQA, upd_at,  rAI, rLI, rJI, nI_add, pk_sub, kc_0, kc_1, kc_2, kc_3, kc_4, kc_5, reduceIte, Nat.reduceEqDiff, Nat.add_zero, rI_hold, rI_hold, rL_hold]; done) | (simp (disch := omega) only [rI, rIe, rA, rIA, rLA, rJA, rVI, rQI, rVA, rQA, upd_at,  rAI, rLI, rJI, nI_add, pk_sub, kc_0, kc_1, kc_2, kc_3, kc_4, kc_5, reduceIte, Nat.reduceEqDiff, Nat.add_zero, rI_hold, rI_hold, rL_hold]; exact congrArg nI (by omega))) rfl (by omega))) ?_
  refine Bod.incN ni nI_dec dc_228_137 (by rw [ml_228]; exact Nat.le_of_ble_eq_true rfl) (by repeat (first | exact q2 | exact sm_get_p1 | exact sm_get_p2e | refine sm_get_p1m (by decide) (by decide) ?_ | refine sm_get_p1n (by decide) rfl ?_ | refine sm_get_p2n (by decide) (by decide) rfl ?_ | refine sm_get_p2m (by decide) (by decide) (by decide) ?_)) ?_
  refine Bod.go dc_228_140 rfl ?_
  exact hB _ (by repeat (first | exact q0 | exact sm_get_p1 | exact sm_get_p2e | refine sm_get_p1m (by decide) (by decide) ?_ | refine sm_get_p1n (by decide) rfl ?_ | refine sm_get_p2n (by decide) (by decide) rfl ?_ | refine sm_get_p2m (by decide) (by decide) (by decide) ?_)) (by repeat (first | exact q1 | exact sm_get_p1 | exact sm_get_p2e | refine sm_get_p1m (by decide) (by decide) ?_ | refine sm_get_p1n (by decide) rfl ?_ | refine sm_get_p2n (by decide) (by decide) rfl ?_ | refine sm_get_p2m (by decide) (by decide) (by decide) ?_)) (by repeat (first | exact q0 | exact sm_get_p1 | exact sm_get_p2e | refine sm_get_p1m (by decide) (by decide) ?_ | refine sm_get_p1n (by decide) rfl ?_ | refine sm_get_p2n (by decide) (by decide) rfl ?_ | refine sm_get_p2m (by decide) (by decide) (by decide) ?_))
theorem mPrL_2 {d : Nat} {S Sf : cS} {v : Option Value} {lv : sm_L} {gv : Nat} {ni : Nat} {S1 : cS} {a : Nat} {S2 : cS} {a1 : Nat} {S3 : cS} {S4 : cS} (q0 : sm_get lv 0 = some (.ref 49)) (q1 : sm_get lv 1 = some (.int (nI gv))) (q2 : sm_get lv 2 = some (.int (nI (ni + 1)))) (mgv : gv < 2 ^ 20) (mni : ni < 2 ^ 20) (ma : a < 2 ^ 20) (c1 : Ans (d + 8) 136 [.ref 46, .int (nI (ni + 1))] S (some (.int (nI a))) S1) (ma1 : a1 < 2 ^ 20) (c2 : Ans (d + 8) 138 [.ref 2, .int (nI a)] S1 (some (.int (nI a1))) S2) (b1 : a1 = 1) (c3 : Ans (d + 8) 229 [.ref 49, .int (nI a)] S2 none S3) (b2 : 0 < (ni + 1)) (c4 : Ans (d + 8) 230 [.ref 49, .int (nI 32)] S3 none S4) (hB : ∀ lv1 : sm_L, sm_get lv1 0 = some (.ref 49) → sm_get lv1 1 = some (.int (nI gv)) → sm_get lv1 2 = some (.int (nI ni)) → Bod (d + 8) 228 12 lv1 [] (S4) v Sf) : Bod (d + 8) 228 12 lv [] S v Sf := by
  refine Bod.ildnG dc_228_12 (by repeat (first | exact q2 | exact sm_get_p1 | exact sm_get_p2e | refine sm_get_p1m (by decide) (by decide) ?_ | refine sm_get_p1n (by decide) rfl ?_ | refine sm_get_p2n (by decide) (by decide) rfl ?_ | refine sm_get_p2m (by decide) (by decide) (by decide) ?_)) ?_
  refine Bod.ifF dc_228_13 rfl (k1_lt_F (ni + 1) rfl (by omega)) ?_
  refine Bod.aldnG dc_228_16 (by repeat (first | exact q0 | exact sm_get_p1 | exact sm_get_p2e | refine sm_get_p1m (by decide) (by decide) ?_ | refine sm_get_p1n (by decide) rfl ?_ | refine sm_get_p2n (by decide) (by decide) rfl ?_ | refine sm_get_p2m (by decide) (by decide) (by decide) ?_)) ?_
  refine Bod.get dc_228_17 fr_228_15 (mk_49 _) rfl ?_
  refine Bod.ildnG dc_228_20 (by repeat (first | exact q2 | exact sm_get_p1 | exact sm_get_p2e | refine sm_get_p1m (by decide) (by decide) ?_ | refine sm_get_p1n (by decide) rfl ?_ | refine sm_get_p2n (by decide) (by decide) rfl ?_ | refine sm_get_p2m (by decide) (by decide) (by decide) ?_)) ?_
  refine Bod.virt (r := []) dc_228_21 kr_228_91 ⟨Or.inr rfl, ow_136, cl_9⟩ (by rw [np_136]; rfl) (by rw [np_136]; rfl) (ob_of (mk_46 _)) (Nat.le_of_ble_eq_true rfl) (c1  ) ?_
  show Bod _ _ _ _ [_] _ _ _
  refine Bod.istn dc_228_24 (by rw [ml_228]; exact Nat.le_of_ble_eq_true rfl) ?_
  refine Bod.aldnG dc_228_25 (by repeat (first | exact q0 | exact sm_get_p1 | exact sm_get_p2e | refine sm_get_p1m (by decide) (by decide) ?_ | refine sm_get_p1n (by decide) rfl ?_ | refine sm_get_p2n (by decide) (by decide) rfl ?_ | refine sm_get_p2m (by decide) (by decide) (by decide) ?_)) ?_
  refine Bod.get dc_228_26 fr_228_9 (mk_49 _) rfl ?_
  refine Bod.ildnG dc_228_29 (by repeat (first | exact q0 | exact sm_get_p1 | exact sm_get_p2e | refine sm_get_p1m (by decide) (by decide) ?_ | refine sm_get_p1n (by decide) rfl ?_ | refine sm_get_p2n (by decide) (by decide) rfl ?_ | refine sm_get_p2m (by decide) (by decide) (by decide) ?_)) ?_
  refine Bod.virt (r := []) dc_228_30 kr_228_94 ⟨Or.inr rfl, ow_138, cl_2⟩ (by rw [np_138]; rfl) (by rw [np_138]; rfl) (ob_of (mk_2 _)) (Nat.le_of_ble_eq_true rfl) (c2  ) ?_
  show Bod _ _ _ _ [_] _ _ _
  refine Bod.ic 1 (by decide) dc_228_33 ?_
  refine Bod.icT dc_228_34 rfl (k2_eq_T (k_eq a1 1 rfl rfl (by omega))) ?_
  refine Bod.aldnG dc_228_49 (by repeat (first | exact q0 | exact sm_get_p1 | exact sm_get_p2e | refine sm_get_p1m (by decide) (by decide) ?_ | refine sm_get_p1n (by decide) rfl ?_ | refine sm_get_p2n (by decide) (by decide) rfl ?_ | refine sm_get_p2m (by decide) (by decide) (by decide) ?_)) ?_
  refine Bod.ildnG dc_228_50 (by repeat (first | exact q0 | exact sm_get_p1 | exact sm_get_p2e | refine sm_get_p1m (by decide) (by decide) ?_ | refine sm_get_p1n (by decide) rfl ?_ | refine sm_get_p2n (by decide) (by decide) rfl ?_ | refine sm_get_p2m (by decide) (by decide) (by decide) ?_)) ?_
  refine Bod.virt (r := []) dc_228_51 kr_228_158 ⟨Or.inl rfl, ow_229, cl_0⟩ (by rw [np_229]; rfl) (by rw [np_229]; rfl) (ob_of (mk_49 _)) (Nat.le_of_ble_eq_true rfl) (c3  ) ?_
  show Bod _ _ _ _ [] _ _ _
  refine Bod.go dc_228_54 rfl ?_
  refine Bod.ildnG dc_228_127 (by repeat (first | exact q2 | exact sm_get_p1 | exact sm_get_p2e | refine sm_get_p1m (by decide) (by decide) ?_ | refine sm_get_p1n (by decide) rfl ?_ | refine sm_get_p2n (by decide) (by decide) rfl ?_ | refine sm_get_p2m (by decide) (by decide) (by decide) ?_)) ?_
  refine Bod.ifF dc_228_128 rfl (k1_le_F (ni + 1) rfl (by omega) (by omega)) ?_
  refine Bod.aldnG dc_228_131 (by repeat (first | exact q0 | exact sm_get_p1 | exact sm_get_p2e | refine sm_get_p1m (by decide) (by decide) ?_ | refine sm_get_p1n (by decide) rfl ?_ | refine sm_get_p2n (by decide) (by decide) rfl ?_ | refine sm_get_p2m (by decide) (by decide) (by decide) ?_)) ?_
  refine Bod.bip 32 (by decide) dc_228_132 ?_
  refine Bod.virt (r := []) dc_228_134 kr_228_171 ⟨Or.inl rfl, ow_230, cl_0⟩ (by rw [np_230]; rfl) (by rw [np_230]; rfl) (ob_of (mk_49 _)) (Nat.le_of_ble_eq_true rfl) (c4  ) ?_
  show Bod _ _ _ _ [] _ _ _
  refine Bod.incN ni nI_dec dc_228_137 (by rw [ml_228]; exact Nat.le_of_ble_eq_true rfl) (by repeat (first | exact q2 | exact sm_get_p1 | exact sm_get_p2e | refine sm_get_p1m (by decide) (by decide) ?_ | refine sm_get_p1n (by decide) rfl ?_ | refine sm_get_p2n (by decide) (by decide) rfl ?_ | refine sm_get_p2m (by decide) (by decide) (by decide) ?_)) ?_
  refine Bod.go dc_228_140 rfl ?_
  exact hB _ (by repeat (first | exact q0 | exact sm_get_p1 | exact sm_get_p2e | refine sm_get_p1m (by decide) (by decide) ?_ | refine sm_get_p1n (by decide) rfl ?_ | refine sm_get_p2n (by decide) (by decide) rfl ?_ | refine sm_get_p2m (by decide) (by decide) (by decide) ?_)) (by repeat (first | exact q1 | exact sm_get_p1 | exact sm_get_p2e | refine sm_get_p1m (by decide) (by decide) ?_ | refine sm_get_p1n (by decide) rfl ?_ | refine sm_get_p2n (by decide) (by decide) rfl ?_ | refine sm_get_p2m (by decide) (by decide) (by decide) ?_)) (by repeat (first | exact q0 | exact sm_get_p1 | exact sm_get_p2e | refine sm_get_p1m (by decide) (by decide) ?_ | refine sm_get_p1n (by decide) rfl ?_ | refine sm_get_p2n (by decide) (by decide) rfl ?_ | refine sm_get_p2m (by decide) (by decide) (by decide) ?_))
theorem mPrL_3 {d : Nat} {S Sf : cS} {v : Option Value} {lv : sm_L} {gv : Nat} {ni : Nat} {S1 : cS} {a : Nat} {S2 : cS} {a1 : Nat} {S3 : cS} {a2 : Nat} {S4 : cS} {u : Int64} {S5 : cS} {rb : Int32} {S6 : cS} {u1 : Int64} {S7 : cS} {u2 : Int64} {S8 : cS} (q0 : sm_get lv 0 = some (.ref 49)) (q1 : sm_get lv 1 = some (.int (nI gv))) (q2 : sm_get lv 2 = some (.int (nI (ni + 1)))) (mgv : gv < 2 ^ 20) (mni : ni < 2 ^ 20) (ma : a < 2 ^ 20) (c1 : Ans (d + 8) 136 [.ref 46, .int (nI (ni + 1))] S (some (.int (nI a))) S1) (ma1 : a1 < 2 ^ 20) (c2 : Ans (d + 8) 138 [.ref 2, .int (nI a)] S1 (some (.int (nI a1))) S2) (b1 : a1 ≠ 1) (ma2 : a2 < 2 ^ 20) (c3 : Ans (d + 8) 138 [.ref 2, .int (nI a)] S2 (some (.int (nI a2))) S3) (b2 : a2 ≠ 2) (c4 : Ans (d + 8) 132 [.ref 46, .int (nI (ni + 1))] S3 (some (.long u)) S4) (c5 : Ans (d + 8) 134 [.long u] S4 (some (.int rb)) S5) (w13 : rb = nI 3) (c6 : Ans (d + 8) 132 [.ref 46, .int (nI (ni + 1))] S5 (some (.long u1)) S6) (c7 : Ans (d + 8) 135 [.ref 46, .int (nI (ni + 1))] S6 (some (.long u2)) S7) (c8 : Ans (d + 8) 238 [.ref 49, .long u1, .long u2] S7 none S8) (b3 : (ni + 1) ≤ 0) (hB : ∀ lv1 : sm_L, sm_get lv1 0 = some (.ref 49) → sm_get lv1 1 = some (.int (nI gv)) → sm_get lv1 2 = some (.int (nI ni)) → Bod (d + 8) 228 12 lv1 [] (S8) v Sf) : Bod (d + 8) 228 12 lv [] S v Sf := by
  refine Bod.ildnG dc_228_12 (by repeat (first | exact q2 | exact sm_get_p1 | exact sm_get_p2e | refine sm_get_p1m (by decide) (by decide) ?_ | refine sm_get_p1n (by decide) rfl ?_ | refine sm_get_p2n (by decide) (by decide) rfl ?_ | refine sm_get_p2m (by decide) (by decide) (by decide) ?_)) ?_
  refine Bod.ifF dc_228_13 rfl (k1_lt_F (ni + 1) rfl (by omega)) ?_
  refine Bod.aldnG dc_228_16 (by repeat (first | exact q0 | exact sm_get_p1 | exact sm_get_p2e | refine sm_get_p1m (by decide) (by decide) ?_ | refine sm_get_p1n (by decide) rfl ?_ | refine sm_get_p2n (by decide) (by decide) rfl ?_ | refine sm_get_p2m (by decide) (by decide) (by decide) ?_)) ?_
  refine Bod.get dc_228_17 fr_228_15 (mk_49 _) rfl ?_
  refine Bod.ildnG dc_228_20 (by repeat (first | exact q2 | exact sm_get_p1 | exact sm_get_p2e | refine sm_get_p1m (by decide) (by decide) ?_ | refine sm_get_p1n (by decide) rfl ?_ | refine sm_get_p2n (by decide) (by decide) rfl ?_ | refine sm_get_p2m (by decide) (by decide) (by decide) ?_)) ?_
  refine Bod.virt (r := []) dc_228_21 kr_228_91 ⟨Or.inr rfl, ow_136, cl_9⟩ (by rw [np_136]; rfl) (by rw [np_136]; rfl) (ob_of (mk_46 _)) (Nat.le_of_ble_eq_true rfl) (c1  ) ?_
  show Bod _ _ _ _ [_] _ _ _
  refine Bod.istn dc_228_24 (by rw [ml_228]; exact Nat.le_of_ble_eq_true rfl) ?_
  refine Bod.aldnG dc_228_25 (by repeat (first | exact q0 | exact sm_get_p1 | exact sm_get_p2e | refine sm_get_p1m (by decide) (by decide) ?_ | refine sm_get_p1n (by decide) rfl ?_ | refine sm_get_p2n (by decide) (by decide) rfl ?_ | refine sm_get_p2m (by decide) (by decide) (by decide) ?_)) ?_
  refine Bod.get dc_228_26 fr_228_9 (mk_49 _) rfl ?_
  refine Bod.ildnG dc_228_29 (by repeat (first | exact q0 | exact sm_get_p1 | exact sm_get_p2e | refine sm_get_p1m (by decide) (by decide) ?_ | refine sm_get_p1n (by decide) rfl ?_ | refine sm_get_p2n (by decide) (by decide) rfl ?_ | refine sm_get_p2m (by decide) (by decide) (by decide) ?_)) ?_
  refine Bod.virt (r := []) dc_228_30 kr_228_94 ⟨Or.inr rfl, ow_138, cl_2⟩ (by rw [np_138]; rfl) (by rw [np_138]; rfl) (ob_of (mk_2 _)) (Nat.le_of_ble_eq_true rfl) (c2  ) ?_
  show Bod _ _ _ _ [_] _ _ _
  refine Bod.ic 1 (by decide) dc_228_33 ?_
  refine Bod.icF dc_228_34 rfl (k2_eq_F (k_ne a1 1 rfl rfl (by omega) (by omega) (by omega))) ?_
  refine Bod.aldnG dc_228_37 (by repeat (first | exact q0 | exact sm_get_p1 | exact sm_get_p2e | refine sm_get_p1m (by decide) (by decide) ?_ | refine sm_get_p1n (by decide) rfl ?_ | refine sm_get_p2n (by decide) (by decide) rfl ?_ | refine sm_get_p2m (by decide) (by decide) (by decide) ?_)) ?_
  refine Bod.get dc_228_38 fr_228_9 (mk_49 _) rfl ?_
  refine Bod.ildnG dc_228_41 (by repeat (first | exact q0 | exact sm_get_p1 | exact sm_get_p2e | refine sm_get_p1m (by decide) (by decide) ?_ | refine sm_get_p1n (by decide) rfl ?_ | refine sm_get_p2n (by decide) (by decide) rfl ?_ | refine sm_get_p2m (by decide) (by decide) (by decide) ?_)) ?_
  refine Bod.virt (r := []) dc_228_42 kr_228_94 ⟨Or.inr rfl, ow_138, cl_2⟩ (by rw [np_138]; rfl) (by rw [np_138]; rfl) (ob_of (mk_2 _)) (Nat.le_of_ble_eq_true rfl) (c3  ) ?_
  show Bod _ _ _ _ [_] _ _ _
  refine Bod.ic 2 (by decide) dc_228_45 ?_
  refine Bod.icT dc_228_46 rfl (k2_ne_T (k_ne a2 2 rfl rfl (by omega) (by omega) (by omega))) ?_
  refine Bod.aldnG dc_228_57 (by repeat (first | exact q0 | exact sm_get_p1 | exact sm_get_p2e | refine sm_get_p1m (by decide) (by decide) ?_ | refine sm_get_p1n (by decide) rfl ?_ | refine sm_get_p2n (by decide) (by decide) rfl ?_ | refine sm_get_p2m (by decide) (by decide) (by decide) ?_)) ?_
  refine Bod.get dc_228_58 fr_228_15 (mk_49 _) rfl ?_
  refine Bod.ildnG dc_228_61 (by repeat (first | exact q2 | exact sm_get_p1 | exact sm_get_p2e | refine sm_get_p1m (by decide) (by decide) ?_ | refine sm_get_p1n (by decide) rfl ?_ | refine sm_get_p2n (by decide) (by decide) rfl ?_ | refine sm_get_p2m (by decide) (by decide) (by decide) ?_)) ?_
  refine Bod.virt (r := []) dc_228_62 kr_228_80 ⟨Or.inr rfl, ow_132, cl_9⟩ (by rw [np_132]; rfl) (by rw [np_132]; rfl) (ob_of (mk_46 _)) (Nat.le_of_ble_eq_true rfl) (c4  ) ?_
  show Bod _ _ _ _ [_] _ _ _
  refine Bod.stat (r := []) dc_228_65 kr_228_84 (Or.inr rfl) (by rw [np_134]; rfl) (by rw [np_134]; rfl) (by rw [np_134]; exact Nat.le_of_ble_eq_true rfl) (Nat.le_of_ble_eq_true rfl) (c5  ) ?_
  show Bod _ _ _ _ [_] _ _ _
  refine Bod.ic 3 (by decide) dc_228_68 ?_
  refine Bod.icF dc_228_69 rfl (c2_ne_F w13) ?_
  refine Bod.aldnG dc_228_72 (by repeat (first | exact q0 | exact sm_get_p1 | exact sm_get_p2e | refine sm_get_p1m (by decide) (by decide) ?_ | refine sm_get_p1n (by decide) rfl ?_ | refine sm_get_p2n (by decide) (by decide) rfl ?_ | refine sm_get_p2m (by decide) (by decide) (by decide) ?_)) ?_
  refine Bod.aldnG dc_228_73 (by repeat (first | exact q0 | exact sm_get_p1 | exact sm_get_p2e | refine sm_get_p1m (by decide) (by decide) ?_ | refine sm_get_p1n (by decide) rfl ?_ | refine sm_get_p2n (by decide) (by decide) rfl ?_ | refine sm_get_p2m (by decide) (by decide) (by decide) ?_)) ?_
  refine Bod.get dc_228_74 fr_228_15 (mk_49 _) rfl ?_
  refine Bod.ildnG dc_228_77 (by repeat (first | exact q2 | exact sm_get_p1 | exact sm_get_p2e | refine sm_get_p1m (by decide) (by decide) ?_ | refine sm_get_p1n (by decide) rfl ?_ | refine sm_get_p2n (by decide) (by decide) rfl ?_ | refine sm_get_p2m (by decide) (by decide) (by decide) ?_)) ?_
  refine Bod.virt (r := [_]) dc_228_78 kr_228_80 ⟨Or.inr rfl, ow_132, cl_9⟩ (by rw [np_132]; rfl) (by rw [np_132]; rfl) (ob_of (mk_46 _)) (Nat.le_of_ble_eq_true rfl) (c6  ) ?_
  show Bod _ _ _ _ [_, _] _ _ _
  refine Bod.aldnG dc_228_81 (by repeat (first | exact q0 | exact sm_get_p1 | exact sm_get_p2e | refine sm_get_p1m (by decide) (by decide) ?_ | refine sm_get_p1n (by decide) rfl ?_ | refine sm_get_p2n (by decide) (by decide) rfl ?_ | refine sm_get_p2m (by decide) (by decide) (by decide) ?_)) ?_
  refine Bod.get dc_228_82 fr_228_15 (mk_49 _) rfl ?_
  refine Bod.ildnG dc_228_85 (by repeat (first | exact q2 | exact sm_get_p1 | exact sm_get_p2e | refine sm_get_p1m (by decide) (by decide) ?_ | refine sm_get_p1n (by decide) rfl ?_ | refine sm_get_p2n (by decide) (by decide) rfl ?_ | refine sm_get_p2m (by decide) (by decide) (by decide) ?_)) ?_
  refine Bod.virt (r := [_, _]) dc_228_86 kr_228_100 ⟨Or.inr rfl, ow_135, cl_9⟩ (by rw [np_135]; rfl) (by rw [np_135]; rfl) (ob_of (mk_46 _)) (Nat.le_of_ble_eq_true rfl) (c7  ) ?_
  show Bod _ _ _ _ [_, _, _] _ _ _
  refine Bod.virt (r := []) dc_228_89 kr_228_162 ⟨Or.inl rfl, ow_238, cl_0⟩ (by rw [np_238]; rfl) (by rw [np_238]; rfl) (ob_of (mk_49 _)) (Nat.le_of_ble_eq_true rfl) (c8  ) ?_
  show Bod _ _ _ _ [] _ _ _
  refine Bod.go dc_228_92 rfl ?_
  refine Bod.ildnG dc_228_127 (by repeat (first | exact q2 | exact sm_get_p1 | exact sm_get_p2e | refine sm_get_p1m (by decide) (by decide) ?_ | refine sm_get_p1n (by decide) rfl ?_ | refine sm_get_p2n (by decide) (by decide) rfl ?_ | refine sm_get_p2m (by decide) (by decide) (by decide) ?_)) ?_
  refine Bod.ifT dc_228_128 rfl (k1_le_T (k_eq (ni + 1) 0 (by first | assumption | (simp (disch := omega) only [rI, rIe, rA, rIA, rLA, rJA, rVI, rQI, rVA, rQA, upd_at,  rAI, rLI, rJI, nI_add, pk_sub, kc_0, kc_1, kc_2, kc_3, kc_4, kc_5, reduceIte, Nat.reduceEqDiff, Nat.add_zero, rI_hold, rI_hold, rL_hold]; done) | (simp (disch := omega) only [rI, rIe, rA, rIA, rLA, rJA, rVI, rQI, rVA, rQA, upd_at,  rAI, rLI, rJI, nI_add, pk_sub, kc_0, kc_1, kc_2, kc_3, kc_4, kc_5, reduceIte, Nat.reduceEqDiff, Nat.add_zero, rI_hold, rI_hold, rL_hold]; exact congrArg nI (by omega))) rfl (by omega))) ?_
  refine Bod.incN ni nI_dec dc_228_137 (by rw [ml_228]; exact Nat.le_of_ble_eq_true rfl) (by repeat (first | exact q2 | exact sm_get_p1 | exact sm_get_p2e | refine sm_get_p1m (by decide) (by decide) ?_ | refine sm_get_p1n (by decide) rfl ?_ | refine sm_get_p2n (by decide) (by decide) rfl ?_ | refine sm_get_p2m (by decide) (by decide) (by decide) ?_)) ?_
  refine Bod.go dc_228_140 rfl ?_
  exact hB _ (by repeat (first | exact q0 | exact sm_get_p1 | exact sm_get_p2e | refine sm_get_p1m (by decide) (by decide) ?_ | refine sm_get_p1n (by decide) rfl ?_ | refine sm_get_p2n (by decide) (by decide) rfl ?_ | refine sm_get_p2m (by decide) (by decide) (by decide) ?_)) (by repeat (first | exact q1 | exact sm_get_p1 | exact sm_get_p2e | refine sm_get_p1m (by decide) (by decide) ?_ | refine sm_get_p1n (by decide) rfl ?_ | refine sm_get_p2n (by decide) (by decide) rfl ?_ | refine sm_get_p2m (by decide) (by decide) (by decide) ?_)) (by repeat (first | exact q0 | exact sm_get_p1 | exact sm_get_p2e | refine sm_get_p1m (by decide) (by decide) ?_ | refine sm_get_p1n (by decide) rfl ?_ | refine sm_get_p2n (by decide) (by decide) rfl ?_ | refine sm_get_p2m (by decide) (by decide) (by decide) ?_))
theorem mPrL_4 {d : Nat} {S Sf : cS} {v : Option Value} {lv : sm_L} {gv : Nat} {ni : Nat} {S1 : cS} {a : Nat} {S2 : cS} {a1 : Nat} {S3 : cS} {a2 : Nat} {S4 : cS} {u : Int64} {S5 : cS} {rb : Int32} {S6 : cS} {u1 : Int64} {S7 : cS} {u2 : Int64} {S8 : cS} {S9 : cS} (q0 : sm_get lv 0 = some (.ref 49)) (q1 : sm_get lv 1 = some (.int (nI gv))) (q2 : sm_get lv 2 = some (.int (nI (ni + 1)))) (mgv : gv < 2 ^ 20) (mni : ni < 2 ^ 20) (ma : a < 2 ^ 20) (c1 : Ans (d + 8) 136 [.ref 46, .int (nI (ni + 1))] S (some (.int (nI a))) S1) (ma1 : a1 < 2 ^ 20) (c2 : Ans (d + 8) 138 [.ref 2, .int (nI a)] S1 (some (.int (nI a1))) S2) (b1 : a1 ≠ 1) (ma2 : a2 < 2 ^ 20) (c3 : Ans (d + 8) 138 [.ref 2, .int (nI a)] S2 (some (.int (nI a2))) S3) (b2 : a2 ≠ 2) (c4 : Ans (d + 8) 132 [.ref 46, .int (nI (ni + 1))] S3 (some (.long u)) S4) (c5 : Ans (d + 8) 134 [.long u] S4 (some (.int rb)) S5) (w13 : rb = nI 3) (c6 : Ans (d + 8) 132 [.ref 46, .int (nI (ni + 1))] S5 (some (.long u1)) S6) (c7 : Ans (d + 8) 135 [.ref 46, .int (nI (ni + 1))] S6 (some (.long u2)) S7) (c8 : Ans (d + 8) 238 [.ref 49, .long u1, .long u2] S7 none S8) (b3 : 0 < (ni + 1)) (c9 : Ans (d + 8) 230 [.ref 49, .int (nI 32)] S8 none S9) (hB : ∀ lv1 : sm_L, sm_get lv1 0 = some (.ref 49) → sm_get lv1 1 = some (.int (nI gv)) → sm_get lv1 2 = some (.int (nI ni)) → Bod (d + 8) 228 12 lv1 [] (S9) v Sf) : Bod (d + 8) 228 12 lv [] S v Sf := by
  refine Bod.ildnG dc_228_12 (by repeat (first | exact q2 | exact sm_get_p1 | exact sm_get_p2e | refine sm_get_p1m (by decide) (by decide) ?_ | refine sm_get_p1n (by decide) rfl ?_ | refine sm_get_p2n (by decide) (by decide) rfl ?_ | refine sm_get_p2m (by decide) (by decide) (by decide) ?_)) ?_
  refine Bod.ifF dc_228_13 rfl (k1_lt_F (ni + 1) rfl (by omega)) ?_
  refine Bod.aldnG dc_228_16 (by repeat (first | exact q0 | exact sm_get_p1 | exact sm_get_p2e | refine sm_get_p1m (by decide) (by decide) ?_ | refine sm_get_p1n (by decide) rfl ?_ | refine sm_get_p2n (by decide) (by decide) rfl ?_ | refine sm_get_p2m (by decide) (by decide) (by decide) ?_)) ?_
  refine Bod.get dc_228_17 fr_228_15 (mk_49 _) rfl ?_
  refine Bod.ildnG dc_228_20 (by repeat (first | exact q2 | exact sm_get_p1 | exact sm_get_p2e | refine sm_get_p1m (by decide) (by decide) ?_ | refine sm_get_p1n (by decide) rfl ?_ | refine sm_get_p2n (by decide) (by decide) rfl ?_ | refine sm_get_p2m (by decide) (by decide) (by decide) ?_)) ?_
  refine Bod.virt (r := []) dc_228_21 kr_228_91 ⟨Or.inr rfl, ow_136, cl_9⟩ (by rw [np_136]; rfl) (by rw [np_136]; rfl) (ob_of (mk_46 _)) (Nat.le_of_ble_eq_true rfl) (c1  ) ?_
  show Bod _ _ _ _ [_] _ _ _
  refine Bod.istn dc_228_24 (by rw [ml_228]; exact Nat.le_of_ble_eq_true rfl) ?_
  refine Bod.aldnG dc_228_25 (by repeat (first | exact q0 | exact sm_get_p1 | exact sm_get_p2e | refine sm_get_p1m (by decide) (by decide) ?_ | refine sm_get_p1n (by decide) rfl ?_ | refine sm_get_p2n (by decide) (by decide) rfl ?_ | refine sm_get_p2m (by decide) (by decide) (by decide) ?_)) ?_
  refine Bod.get dc_228_26 fr_228_9 (mk_49 _) rfl ?_
  refine Bod.ildnG dc_228_29 (by repeat (first | exact q0 | exact sm_get_p1 | exact sm_get_p2e | refine sm_get_p1m (by decide) (by decide) ?_ | refine sm_get_p1n (by decide) rfl ?_ | refine sm_get_p2n (by decide) (by decide) rfl ?_ | refine sm_get_p2m (by decide) (by decide) (by decide) ?_)) ?_
  refine Bod.virt (r := []) dc_228_30 kr_228_94 ⟨Or.inr rfl, ow_138, cl_2⟩ (by rw [np_138]; rfl) (by rw [np_138]; rfl) (ob_of (mk_2 _)) (Nat.le_of_ble_eq_true rfl) (c2  ) ?_
  show Bod _ _ _ _ [_] _ _ _
  refine Bod.ic 1 (by decide) dc_228_33 ?_
  refine Bod.icF dc_228_34 rfl (k2_eq_F (k_ne a1 1 rfl rfl (by omega) (by omega) (by omega))) ?_
  refine Bod.aldnG dc_228_37 (by repeat (first | exact q0 | exact sm_get_p1 | exact sm_get_p2e | refine sm_get_p1m (by decide) (by decide) ?_ | refine sm_get_p1n (by decide) rfl ?_ | refine sm_get_p2n (by decide) (by decide) rfl ?_ | refine sm_get_p2m (by decide) (by decide) (by decide) ?_)) ?_
  refine Bod.get dc_228_38 fr_228_9 (mk_49 _) rfl ?_
  refine Bod.ildnG dc_228_41 (by repeat (first | exact q0 | exact sm_get_p1 | exact sm_get_p2e | refine sm_get_p1m (by decide) (by decide) ?_ | refine sm_get_p1n (by decide) rfl ?_ | refine sm_get_p2n (by decide) (by decide) rfl ?_ | refine sm_get_p2m (by decide) (by decide) (by decide) ?_)) ?_
  refine Bod.virt (r := []) dc_228_42 kr_228_94 ⟨Or.inr rfl, ow_138, cl_2⟩ (by rw [np_138]; rfl) (by rw [np_138]; rfl) (ob_of (mk_2 _)) (Nat.le_of_ble_eq_true rfl) (c3  ) ?_
  show Bod _ _ _ _ [_] _ _ _
  refine Bod.ic 2 (by decide) dc_228_45 ?_
  refine Bod.icT dc_228_46 rfl (k2_ne_T (k_ne a2 2 rfl rfl (by omega) (by omega) (by omega))) ?_
  refine Bod.aldnG dc_228_57 (by repeat (first | exact q0 | exact sm_get_p1 | exact sm_get_p2e | refine sm_get_p1m (by decide) (by decide) ?_ | refine sm_get_p1n (by decide) rfl ?_ | refine sm_get_p2n (by decide) (by decide) rfl ?_ | refine sm_get_p2m (by decide) (by decide) (by decide) ?_)) ?_
  refine Bod.get dc_228_58 fr_228_15 (mk_49 _) rfl ?_
  refine Bod.ildnG dc_228_61 (by repeat (first | exact q2 | exact sm_get_p1 | exact sm_get_p2e | refine sm_get_p1m (by decide) (by decide) ?_ | refine sm_get_p1n (by decide) rfl ?_ | refine sm_get_p2n (by decide) (by decide) rfl ?_ | refine sm_get_p2m (by decide) (by decide) (by decide) ?_)) ?_
  refine Bod.virt (r := []) dc_228_62 kr_228_80 ⟨Or.inr rfl, ow_132, cl_9⟩ (by rw [np_132]; rfl) (by rw [np_132]; rfl) (ob_of (mk_46 _)) (Nat.le_of_ble_eq_true rfl) (c4  ) ?_
  show Bod _ _ _ _ [_] _ _ _
  refine Bod.stat (r := []) dc_228_65 kr_228_84 (Or.inr rfl) (by rw [np_134]; rfl) (by rw [np_134]; rfl) (by rw [np_134]; exact Nat.le_of_ble_eq_true rfl) (Nat.le_of_ble_eq_true rfl) (c5  ) ?_
  show Bod _ _ _ _ [_] _ _ _
  refine Bod.ic 3 (by decide) dc_228_68 ?_
  refine Bod.icF dc_228_69 rfl (c2_ne_F w13) ?_
  refine Bod.aldnG dc_228_72 (by repeat (first | exact q0 | exact sm_get_p1 | exact sm_get_p2e | refine sm_get_p1m (by decide) (by decide) ?_ | refine sm_get_p1n (by decide) rfl ?_ | refine sm_get_p2n (by decide) (by decide) rfl ?_ | refine sm_get_p2m (by decide) (by decide) (by decide) ?_)) ?_
  refine Bod.aldnG dc_228_73 (by repeat (first | exact q0 | exact sm_get_p1 | exact sm_get_p2e | refine sm_get_p1m (by decide) (by decide) ?_ | refine sm_get_p1n (by decide) rfl ?_ | refine sm_get_p2n (by decide) (by decide) rfl ?_ | refine sm_get_p2m (by decide) (by decide) (by decide) ?_)) ?_
  refine Bod.get dc_228_74 fr_228_15 (mk_49 _) rfl ?_
  refine Bod.ildnG dc_228_77 (by repeat (first | exact q2 | exact sm_get_p1 | exact sm_get_p2e | refine sm_get_p1m (by decide) (by decide) ?_ | refine sm_get_p1n (by decide) rfl ?_ | refine sm_get_p2n (by decide) (by decide) rfl ?_ | refine sm_get_p2m (by decide) (by decide) (by decide) ?_)) ?_
  refine Bod.virt (r := [_]) dc_228_78 kr_228_80 ⟨Or.inr rfl, ow_132, cl_9⟩ (by rw [np_132]; rfl) (by rw [np_132]; rfl) (ob_of (mk_46 _)) (Nat.le_of_ble_eq_true rfl) (c6  ) ?_
  show Bod _ _ _ _ [_, _] _ _ _
  refine Bod.aldnG dc_228_81 (by repeat (first | exact q0 | exact sm_get_p1 | exact sm_get_p2e | refine sm_get_p1m (by decide) (by decide) ?_ | refine sm_get_p1n (by decide) rfl ?_ | refine sm_get_p2n (by decide) (by decide) rfl ?_ | refine sm_get_p2m (by decide) (by decide) (by decide) ?_)) ?_
  refine Bod.get dc_228_82 fr_228_15 (mk_49 _) rfl ?_
  refine Bod.ildnG dc_228_85 (by repeat (first | exact q2 | exact sm_get_p1 | exact sm_get_p2e | refine sm_get_p1m (by decide) (by decide) ?_ | refine sm_get_p1n (by decide) rfl ?_ | refine sm_get_p2n (by decide) (by decide) rfl ?_ | refine sm_get_p2m (by decide) (by decide) (by decide) ?_)) ?_
  refine Bod.virt (r := [_, _]) dc_228_86 kr_228_100 ⟨Or.inr rfl, ow_135, cl_9⟩ (by rw [np_135]; rfl) (by rw [np_135]; rfl) (ob_of (mk_46 _)) (Nat.le_of_ble_eq_true rfl) (c7  ) ?_
  show Bod _ _ _ _ [_, _, _] _ _ _
  refine Bod.virt (r := []) dc_228_89 kr_228_162 ⟨Or.inl rfl, ow_238, cl_0⟩ (by rw [np_238]; rfl) (by rw [np_238]; rfl) (ob_of (mk_49 _)) (Nat.le_of_ble_eq_true rfl) (c8  ) ?_
  show Bod _ _ _ _ [] _ _ _
  refine Bod.go dc_228_92 rfl ?_
  refine Bod.ildnG dc_228_127 (by repeat (first | exact q2 | exact sm_get_p1 | exact sm_get_p2e | refine sm_get_p1m (by decide) (by decide) ?_ | refine sm_get_p1n (by decide) rfl ?_ | refine sm_get_p2n (by decide) (by decide) rfl ?_ | refine sm_get_p2m (by decide) (by decide) (by decide) ?_)) ?_
  refine Bod.ifF dc_228_128 rfl (k1_le_F (ni + 1) rfl (by omega) (by omega)) ?_
  refine Bod.aldnG dc_228_131 (by repeat (first | exact q0 | exact sm_get_p1 | exact sm_get_p2e | refine sm_get_p1m (by decide) (by decide) ?_ | refine sm_get_p1n (by decide) rfl ?_ | refine sm_get_p2n (by decide) (by decide) rfl ?_ | refine sm_get_p2m (by decide) (by decide) (by decide) ?_)) ?_
  refine Bod.bip 32 (by decide) dc_228_132 ?_
  refine Bod.virt (r := []) dc_228_134 kr_228_171 ⟨Or.inl rfl, ow_230, cl_0⟩ (by rw [np_230]; rfl) (by rw [np_230]; rfl) (ob_of (mk_49 _)) (Nat.le_of_ble_eq_true rfl) (c9  ) ?_
  show Bod _ _ _ _ [] _ _ _
  refine Bod.incN ni nI_dec dc_228_137 (by rw [ml_228]; exact Nat.le_of_ble_eq_true rfl) (by repeat (first | exact q2 | exact sm_get_p1 | exact sm_get_p2e | refine sm_get_p1m (by decide) (by decide) ?_ | refine sm_get_p1n (by decide) rfl ?_ | refine sm_get_p2n (by decide) (by decide) rfl ?_ | refine sm_get_p2m (by decide) (by decide) (by decide) ?_)) ?_
  refine Bod.go dc_228_140 rfl ?_
  exact hB _ (by repeat (first | exact q0 | exact sm_get_p1 | exact sm_get_p2e | refine sm_get_p1m (by decide) (by decide) ?_ | refine sm_get_p1n (by decide) rfl ?_ | refine sm_get_p2n (by decide) (by decide) rfl ?_ | refine sm_get_p2m (by decide) (by decide) (by decide) ?_)) (by repeat (first | exact q1 | exact sm_get_p1 | exact sm_get_p2e | refine sm_get_p1m (by decide) (by decide) ?_ | refine sm_get_p1n (by decide) rfl ?_ | refine sm_get_p2n (by decide) (by decide) rfl ?_ | refine sm_get_p2m (by decide) (by decide) (by decide) ?_)) (by repeat (first | exact q0 | exact sm_get_p1 | exact sm_get_p2e | refine sm_get_p1m (by decide) (by decide) ?_ | refine sm_get_p1n (by decide) rfl ?_ | refine sm_get_p2n (by decide) (by decide) rfl ?_ | refine sm_get_p2m (by decide) (by decide) (by decide) ?_))
theorem mPrL_5 {d : Nat} {S Sf : cS} {v : Option Value} {lv : sm_L} {gv : Nat} {ni : Nat} {S1 : cS} {a : Nat} {S2 : cS} {a1 : Nat} {S3 : cS} {a2 : Nat} {S4 : cS} {u : Int64} {S5 : cS} {rb : Int32} {S6 : cS} {u1 : Int64} {S7 : cS} {u2 : Int64} {S8 : cS} (q0 : sm_get lv 0 = some (.ref 49)) (q1 : sm_get lv 1 = some (.int (nI gv))) (q2 : sm_get lv 2 = some (.int (nI (ni + 1)))) (mgv : gv < 2 ^ 20) (mni : ni < 2 ^ 20) (ma : a < 2 ^ 20) (c1 : Ans (d + 8) 136 [.ref 46, .int (nI (ni + 1))] S (some (.int (nI a))) S1) (ma1 : a1 < 2 ^ 20) (c2 : Ans (d + 8) 138 [.ref 2, .int (nI a)] S1 (some (.int (nI a1))) S2) (b1 : a1 ≠ 1) (ma2 : a2 < 2 ^ 20) (c3 : Ans (d + 8) 138 [.ref 2, .int (nI a)] S2 (some (.int (nI a2))) S3) (b2 : a2 ≠ 2) (c4 : Ans (d + 8) 132 [.ref 46, .int (nI (ni + 1))] S3 (some (.long u)) S4) (c5 : Ans (d + 8) 134 [.long u] S4 (some (.int rb)) S5) (w13 : rb ≠ nI 3) (b3 : a = 0) (c6 : Ans (d + 8) 132 [.ref 46, .int (nI (ni + 1))] S5 (some (.long u1)) S6) (c7 : Ans (d + 8) 135 [.ref 46, .int (nI (ni + 1))] S6 (some (.long u2)) S7) (c8 : Ans (d + 8) 234 [.ref 49, .long u1, .long u2] S7 none S8) (b4 : (ni + 1) ≤ 0) (hB : ∀ lv1 : sm_L, sm_get lv1 0 = some (.ref 49) → sm_get lv1 1 = some (.int (nI gv)) → sm_get lv1 2 = some (.int (nI ni)) → Bod (d + 8) 228 12 lv1 [] (S8) v Sf) : Bod (d + 8) 228 12 lv [] S v Sf := by
  refine Bod.ildnG dc_228_12 (by repeat (first | exact q2 | exact sm_get_p1 | exact sm_get_p2e | refine sm_get_p1m (by decide) (by decide) ?_ | refine sm_get_p1n (by decide) rfl ?_ | refine sm_get_p2n (by decide) (by decide) rfl ?_ | refine sm_get_p2m (by decide) (by decide) (by decide) ?_)) ?_
  refine Bod.ifF dc_228_13 rfl (k1_lt_F (ni + 1) rfl (by omega)) ?_
  refine Bod.aldnG dc_228_16 (by repeat (first | exact q0 | exact sm_get_p1 | exact sm_get_p2e | refine sm_get_p1m (by decide) (by decide) ?_ | refine sm_get_p1n (by decide) rfl ?_ | refine sm_get_p2n (by decide) (by decide) rfl ?_ | refine sm_get_p2m (by decide) (by decide) (by decide) ?_)) ?_
  refine Bod.get dc_228_17 fr_228_15 (mk_49 _) rfl ?_
  refine Bod.ildnG dc_228_20 (by repeat (first | exact q2 | exact sm_get_p1 | exact sm_get_p2e | refine sm_get_p1m (by decide) (by decide) ?_ | refine sm_get_p1n (by decide) rfl ?_ | refine sm_get_p2n (by decide) (by decide) rfl ?_ | refine sm_get_p2m (by decide) (by decide) (by decide) ?_)) ?_
  refine Bod.virt (r := []) dc_228_21 kr_228_91 ⟨Or.inr rfl, ow_136, cl_9⟩ (by rw [np_136]; rfl) (by rw [np_136]; rfl) (ob_of (mk_46 _)) (Nat.le_of_ble_eq_true rfl) (c1  ) ?_
  show Bod _ _ _ _ [_] _ _ _
  refine Bod.istn dc_228_24 (by rw [ml_228]; exact Nat.le_of_ble_eq_true rfl) ?_
  refine Bod.aldnG dc_228_25 (by repeat (first | exact q0 | exact sm_get_p1 | exact sm_get_p2e | refine sm_get_p1m (by decide) (by decide) ?_ | refine sm_get_p1n (by decide) rfl ?_ | refine sm_get_p2n (by decide) (by decide) rfl ?_ | refine sm_get_p2m (by decide) (by decide) (by decide) ?_)) ?_
  refine Bod.get dc_228_26 fr_228_9 (mk_49 _) rfl ?_
  refine Bod.ildnG dc_228_29 (by repeat (first | exact q0 | exact sm_get_p1 | exact sm_get_p2e | refine sm_get_p1m (by decide) (by decide) ?_ | refine sm_get_p1n (by decide) rfl ?_ | refine sm_get_p2n (by decide) (by decide) rfl ?_ | refine sm_get_p2m (by decide) (by decide) (by decide) ?_)) ?_
  refine Bod.virt (r := []) dc_228_30 kr_228_94 ⟨Or.inr rfl, ow_138, cl_2⟩ (by rw [np_138]; rfl) (by rw [np_138]; rfl) (ob_of (mk_2 _)) (Nat.le_of_ble_eq_true rfl) (c2  ) ?_
  show Bod _ _ _ _ [_] _ _ _
  refine Bod.ic 1 (by decide) dc_228_33 ?_
  refine Bod.icF dc_228_34 rfl (k2_eq_F (k_ne a1 1 rfl rfl (by omega) (by omega) (by omega))) ?_
  refine Bod.aldnG dc_228_37 (by repeat (first | exact q0 | exact sm_get_p1 | exact sm_get_p2e | refine sm_get_p1m (by decide) (by decide) ?_ | refine sm_get_p1n (by decide) rfl ?_ | refine sm_get_p2n (by decide) (by decide) rfl ?_ | refine sm_get_p2m (by decide) (by decide) (by decide) ?_)) ?_
  refine Bod.get dc_228_38 fr_228_9 (mk_49 _) rfl ?_
  refine Bod.ildnG dc_228_41 (by repeat (first | exact q0 | exact sm_get_p1 | exact sm_get_p2e | refine sm_get_p1m (by decide) (by decide) ?_ | refine sm_get_p1n (by decide) rfl ?_ | refine sm_get_p2n (by decide) (by decide) rfl ?_ | refine sm_get_p2m (by decide) (by decide) (by decide) ?_)) ?_
  refine Bod.virt (r := []) dc_228_42 kr_228_94 ⟨Or.inr rfl, ow_138, cl_2⟩ (by rw [np_138]; rfl) (by rw [np_138]; rfl) (ob_of (mk_2 _)) (Nat.le_of_ble_eq_true rfl) (c3  ) ?_
  show Bod _ _ _ _ [_] _ _ _
  refine Bod.ic 2 (by decide) dc_228_45 ?_
  refine Bod.icT dc_228_46 rfl (k2_ne_T (k_ne a2 2 rfl rfl (by omega) (by omega) (by omega))) ?_
  refine Bod.aldnG dc_228_57 (by repeat (first | exact q0 | exact sm_get_p1 | exact sm_get_p2e | refine sm_get_p1m (by decide) (by decide) ?_ | refine sm_get_p1n (by decide) rfl ?_ | refine sm_get_p2n (by decide) (by decide) rfl ?_ | refine sm_get_p2m (by decide) (by decide) (by decide) ?_)) ?_
  refine Bod.get dc_228_58 fr_228_15 (mk_49 _) rfl ?_
  refine Bod.ildnG dc_228_61 (by repeat (first | exact q2 | exact sm_get_p1 | exact sm_get_p2e | refine sm_get_p1m (by decide) (by decide) ?_ | refine sm_get_p1n (by decide) rfl ?_ | refine sm_get_p2n (by decide) (by decide) rfl ?_ | refine sm_get_p2m (by decide) (by decide) (by decide) ?_)) ?_
  refine Bod.virt (r := []) dc_228_62 kr_228_80 ⟨Or.inr rfl, ow_132, cl_9⟩ (by rw [np_132]; rfl) (by rw [np_132]; rfl) (ob_of (mk_46 _)) (Nat.le_of_ble_eq_true rfl) (c4  ) ?_
  show Bod _ _ _ _ [_] _ _ _
  refine Bod.stat (r := []) dc_228_65 kr_228_84 (Or.inr rfl) (by rw [np_134]; rfl) (by rw [np_134]; rfl) (by rw [np_134]; exact Nat.le_of_ble_eq_true rfl) (Nat.le_of_ble_eq_true rfl) (c5  ) ?_
  show Bod _ _ _ _ [_] _ _ _
  refine Bod.ic 3 (by decide) dc_228_68 ?_
  refine Bod.icT dc_228_69 rfl (c2_ne_T w13) ?_
  refine Bod.ildnG dc_228_95 (by repeat (first | exact q0 | exact sm_get_p1 | exact sm_get_p2e | refine sm_get_p1m (by decide) (by decide) ?_ | refine sm_get_p1n (by decide) rfl ?_ | refine sm_get_p2n (by decide) (by decide) rfl ?_ | refine sm_get_p2m (by decide) (by decide) (by decide) ?_)) ?_
  refine Bod.ifT dc_228_96 rfl (k1_eq_T (k_eq a 0 rfl rfl (by omega))) ?_
  refine Bod.aldnG dc_228_107 (by repeat (first | exact q0 | exact sm_get_p1 | exact sm_get_p2e | refine sm_get_p1m (by decide) (by decide) ?_ | refine sm_get_p1n (by decide) rfl ?_ | refine sm_get_p2n (by decide) (by decide) rfl ?_ | refine sm_get_p2m (by decide) (by decide) (by decide) ?_)) ?_
  refine Bod.aldnG dc_228_108 (by repeat (first | exact q0 | exact sm_get_p1 | exact sm_get_p2e | refine sm_get_p1m (by decide) (by decide) ?_ | refine sm_get_p1n (by decide) rfl ?_ | refine sm_get_p2n (by decide) (by decide) rfl ?_ | refine sm_get_p2m (by decide) (by decide) (by decide) ?_)) ?_
  refine Bod.get dc_228_109 fr_228_15 (mk_49 _) rfl ?_
  refine Bod.ildnG dc_228_112 (by repeat (first | exact q2 | exact sm_get_p1 | exact sm_get_p2e | refine sm_get_p1m (by decide) (by decide) ?_ | refine sm_get_p1n (by decide) rfl ?_ | refine sm_get_p2n (by decide) (by decide) rfl ?_ | refine sm_get_p2m (by decide) (by decide) (by decide) ?_)) ?_
  refine Bod.virt (r := [_]) dc_228_113 kr_228_80 ⟨Or.inr rfl, ow_132, cl_9⟩ (by rw [np_132]; rfl) (by rw [np_132]; rfl) (ob_of (mk_46 _)) (Nat.le_of_ble_eq_true rfl) (c6  ) ?_
  show Bod _ _ _ _ [_, _] _ _ _
  refine Bod.aldnG dc_228_116 (by repeat (first | exact q0 | exact sm_get_p1 | exact sm_get_p2e | refine sm_get_p1m (by decide) (by decide) ?_ | refine sm_get_p1n (by decide) rfl ?_ | refine sm_get_p2n (by decide) (by decide) rfl ?_ | refine sm_get_p2m (by decide) (by decide) (by decide) ?_)) ?_
  refine Bod.get dc_228_117 fr_228_15 (mk_49 _) rfl ?_
  refine Bod.ildnG dc_228_120 (by repeat (first | exact q2 | exact sm_get_p1 | exact sm_get_p2e | refine sm_get_p1m (by decide) (by decide) ?_ | refine sm_get_p1n (by decide) rfl ?_ | refine sm_get_p2n (by decide) (by decide) rfl ?_ | refine sm_get_p2m (by decide) (by decide) (by decide) ?_)) ?_
  refine Bod.virt (r := [_, _]) dc_228_121 kr_228_100 ⟨Or.inr rfl, ow_135, cl_9⟩ (by rw [np_135]; rfl) (by rw [np_135]; rfl) (ob_of (mk_46 _)) (Nat.le_of_ble_eq_true rfl) (c7  ) ?_
  show Bod _ _ _ _ [_, _, _] _ _ _
  refine Bod.virt (r := []) dc_228_124 kr_228_168 ⟨Or.inl rfl, ow_234, cl_0⟩ (by rw [np_234]; rfl) (by rw [np_234]; rfl) (ob_of (mk_49 _)) (Nat.le_of_ble_eq_true rfl) (c8  ) ?_
  show Bod _ _ _ _ [] _ _ _
  refine Bod.ildnG dc_228_127 (by repeat (first | exact q2 | exact sm_get_p1 | exact sm_get_p2e | refine sm_get_p1m (by decide) (by decide) ?_ | refine sm_get_p1n (by decide) rfl ?_ | refine sm_get_p2n (by decide) (by decide) rfl ?_ | refine sm_get_p2m (by decide) (by decide) (by decide) ?_)) ?_
  refine Bod.ifT dc_228_128 rfl (k1_le_T (k_eq (ni + 1) 0 (by first | assumption | (simp (disch := omega) only [rI, rIe, rA, rIA, rLA, rJA, rVI, rQI, rVA, rQA, upd_at,  rAI, rLI, rJI, nI_add, pk_sub, kc_0, kc_1, kc_2, kc_3, kc_4, kc_5, reduceIte, Nat.reduceEqDiff, Nat.add_zero, rI_hold, rI_hold, rL_hold]; done) | (simp (disch := omega) only [rI, rIe, rA, rIA, rLA, rJA, rVI, rQI, rVA, rQA, upd_at,  rAI, rLI, rJI, nI_add, pk_sub, kc_0, kc_1, kc_2, kc_3, kc_4, kc_5, reduceIte, Nat.reduceEqDiff, Nat.add_zero, rI_hold, rI_hold, rL_hold]; exact congrArg nI (by omega))) rfl (by omega))) ?_
  refine Bod.incN ni nI_dec dc_228_137 (by rw [ml_228]; exact Nat.le_of_ble_eq_true rfl) (by repeat (first | exact q2 | exact sm_get_p1 | exact sm_get_p2e | refine sm_get_p1m (by decide) (by decide) ?_ | refine sm_get_p1n (by decide) rfl ?_ | refine sm_get_p2n (by decide) (by decide) rfl ?_ | refine sm_get_p2m (by decide) (by decide) (by decide) ?_)) ?_
  refine Bod.go dc_228_140 rfl ?_
  exact hB _ (by repeat (first | exact q0 | exact sm_get_p1 | exact sm_get_p2e | refine sm_get_p1m (by decide) (by decide) ?_ | refine sm_get_p1n (by decide) rfl ?_ | refine sm_get_p2n (by decide) (by decide) rfl ?_ | refine sm_get_p2m (by decide) (by decide) (by decide) ?_)) (by repeat (first | exact q1 | exact sm_get_p1 | exact sm_get_p2e | refine sm_get_p1m (by decide) (by decide) ?_ | refine sm_get_p1n (by decide) rfl ?_ | refine sm_get_p2n (by decide) (by decide) rfl ?_ | refine sm_get_p2m (by decide) (by decide) (by decide) ?_)) (by repeat (first | exact q0 | exact sm_get_p1 | exact sm_get_p2e | refine sm_get_p1m (by decide) (by decide) ?_ | refine sm_get_p1n (by decide) rfl ?_ | refine sm_get_p2n (by decide) (by decide) rfl ?_ | refine sm_get_p2m (by decide) (by decide) (by decide) ?_))
theorem mPrL_6 {d : Nat} {S Sf : cS} {v : Option Value} {lv : sm_L} {gv : Nat} {ni : Nat} {S1 : cS} {a : Nat} {S2 : cS} {a1 : Nat} {S3 : cS} {a2 : Nat} {S4 : cS} {u : Int64} {S5 : cS} {rb : Int32} {S6 : cS} {u1 : Int64} {S7 : cS} {u2 : Int64} {S8 : cS} {S9 : cS} (q0 : sm_get lv 0 = some (.ref 49)) (q1 : sm_get lv 1 = some (.int (nI gv))) (q2 : sm_get lv 2 = some (.int (nI (ni + 1)))) (mgv : gv < 2 ^ 20) (mni : ni < 2 ^ 20) (ma : a < 2 ^ 20) (c1 : Ans (d + 8) 136 [.ref 46, .int (nI (ni + 1))] S (some (.int (nI a))) S1) (ma1 : a1 < 2 ^ 20) (c2 : Ans (d + 8) 138 [.ref 2, .int (nI a)] S1 (some (.int (nI a1))) S2) (b1 : a1 ≠ 1) (ma2 : a2 < 2 ^ 20) (c3 : Ans (d + 8) 138 [.ref 2, .int (nI a)] S2 (some (.int (nI a2))) S3) (b2 : a2 ≠ 2) (c4 : Ans (d + 8) 132 [.ref 46, .int (nI (ni + 1))] S3 (some (.long u)) S4) (c5 : Ans (d + 8) 134 [.long u] S4 (some (.int rb)) S5) (w13 : rb ≠ nI 3) (b3 : a = 0) (c6 : Ans (d + 8) 132 [.ref 46, .int (nI (ni + 1))] S5 (some (.long u1)) S6) (c7 : Ans (d + 8) 135 [.ref 46, .int (nI (ni + 1))] S6 (some (.long u2)) S7) (c8 : Ans (d + 8) 234 [.ref 49, .long u1, .long u2] S7 none S8) (b4 : 0 < (ni + 1)) (c9 : Ans (d + 8) 230 [.ref 49, .int (nI 32)] S8 none S9) (hB : ∀ lv1 : sm_L, sm_get lv1 0 = some (.ref 49) → sm_get lv1 1 = some (.int (nI gv)) → sm_get lv1 2 = some (.int (nI ni)) → Bod (d + 8) 228 12 lv1 [] (S9) v Sf) : Bod (d + 8) 228 12 lv [] S v Sf := by
  refine Bod.ildnG dc_228_12 (by repeat (first | exact q2 | exact sm_get_p1 | exact sm_get_p2e | refine sm_get_p1m (by decide) (by decide) ?_ | refine sm_get_p1n (by decide) rfl ?_ | refine sm_get_p2n (by decide) (by decide) rfl ?_ | refine sm_get_p2m (by decide) (by decide) (by decide) ?_)) ?_
  refine Bod.ifF dc_228_13 rfl (k1_lt_F (ni + 1) rfl (by omega)) ?_
  refine Bod.aldnG dc_228_16 (by repeat (first | exact q0 | exact sm_get_p1 | exact sm_get_p2e | refine sm_get_p1m (by decide) (by decide) ?_ | refine sm_get_p1n (by decide) rfl ?_ | refine sm_get_p2n (by decide) (by decide) rfl ?_ | refine sm_get_p2m (by decide) (by decide) (by decide) ?_)) ?_
  refine Bod.get dc_228_17 fr_228_15 (mk_49 _) rfl ?_
  refine Bod.ildnG dc_228_20 (by repeat (first | exact q2 | exact sm_get_p1 | exact sm_get_p2e | refine sm_get_p1m (by decide) (by decide) ?_ | refine sm_get_p1n (by decide) rfl ?_ | refine sm_get_p2n (by decide) (by decide) rfl ?_ | refine sm_get_p2m (by decide) (by decide) (by decide) ?_)) ?_
  refine Bod.virt (r := []) dc_228_21 kr_228_91 ⟨Or.inr rfl, ow_136, cl_9⟩ (by rw [np_136]; rfl) (by rw [np_136]; rfl) (ob_of (mk_46 _)) (Nat.le_of_ble_eq_true rfl) (c1  ) ?_
  show Bod _ _ _ _ [_] _ _ _
  refine Bod.istn dc_228_24 (by rw [ml_228]; exact Nat.le_of_ble_eq_true rfl) ?_
  refine Bod.aldnG dc_228_25 (by repeat (first | exact q0 | exact sm_get_p1 | exact sm_get_p2e | refine sm_get_p1m (by decide) (by decide) ?_ | refine sm_get_p1n (by decide) rfl ?_ | refine sm_get_p2n (by decide) (by decide) rfl ?_ | refine sm_get_p2m (by decide) (by decide) (by decide) ?_)) ?_
  refine Bod.get dc_228_26 fr_228_9 (mk_49 _) rfl ?_
  refine Bod.ildnG dc_228_29 (by repeat (first | exact q0 | exact sm_get_p1 | exact sm_get_p2e | refine sm_get_p1m (by decide) (by decide) ?_ | refine sm_get_p1n (by decide) rfl ?_ | refine sm_get_p2n (by decide) (by decide) rfl ?_ | refine sm_get_p2m (by decide) (by decide) (by decide) ?_)) ?_
  refine Bod.virt (r := []) dc_228_30 kr_228_94 ⟨Or.inr rfl, ow_138, cl_2⟩ (by rw [np_138]; rfl) (by rw [np_138]; rfl) (ob_of (mk_2 _)) (Nat.le_of_ble_eq_true rfl) (c2  ) ?_
  show Bod _ _ _ _ [_] _ _ _
  refine Bod.ic 1 (by decide) dc_228_33 ?_
  refine Bod.icF dc_228_34 rfl (k2_eq_F (k_ne a1 1 rfl rfl (by omega) (by omega) (by omega))) ?_
  refine Bod.aldnG dc_228_37 (by repeat (first | exact q0 | exact sm_get_p1 | exact sm_get_p2e | refine sm_get_p1m (by decide) (by decide) ?_ | refine sm_get_p1n (by decide) rfl ?_ | refine sm_get_p2n (by decide) (by decide) rfl ?_ | refine sm_get_p2m (by decide) (by decide) (by decide) ?_)) ?_
  refine Bod.get dc_228_38 fr_228_9 (mk_49 _) rfl ?_
  refine Bod.ildnG dc_228_41 (by repeat (first | exact q0 | exact sm_get_p1 | exact sm_get_p2e | refine sm_get_p1m (by decide) (by decide) ?_ | refine sm_get_p1n (by decide) rfl ?_ | refine sm_get_p2n (by decide) (by decide) rfl ?_ | refine sm_get_p2m (by decide) (by decide) (by decide) ?_)) ?_
  refine Bod.virt (r := []) dc_228_42 kr_228_94 ⟨Or.inr rfl, ow_138, cl_2⟩ (by rw [np_138]; rfl) (by rw [np_138]; rfl) (ob_of (mk_2 _)) (Nat.le_of_ble_eq_true rfl) (c3  ) ?_
  show Bod _ _ _ _ [_] _ _ _
  refine Bod.ic 2 (by decide) dc_228_45 ?_
  refine Bod.icT dc_228_46 rfl (k2_ne_T (k_ne a2 2 rfl rfl (by omega) (by omega) (by omega))) ?_
  refine Bod.aldnG dc_228_57 (by repeat (first | exact q0 | exact sm_get_p1 | exact sm_get_p2e | refine sm_get_p1m (by decide) (by decide) ?_ | refine sm_get_p1n (by decide) rfl ?_ | refine sm_get_p2n (by decide) (by decide) rfl ?_ | refine sm_get_p2m (by decide) (by decide) (by decide) ?_)) ?_
  refine Bod.get dc_228_58 fr_228_15 (mk_49 _) rfl ?_
  refine Bod.ildnG dc_228_61 (by repeat (first | exact q2 | exact sm_get_p1 | exact sm_get_p2e | refine sm_get_p1m (by decide) (by decide) ?_ | refine sm_get_p1n (by decide) rfl ?_ | refine sm_get_p2n (by decide) (by decide) rfl ?_ | refine sm_get_p2m (by decide) (by decide) (by decide) ?_)) ?_
  refine Bod.virt (r := []) dc_228_62 kr_228_80 ⟨Or.inr rfl, ow_132, cl_9⟩ (by rw [np_132]; rfl) (by rw [np_132]; rfl) (ob_of (mk_46 _)) (Nat.le_of_ble_eq_true rfl) (c4  ) ?_
  show Bod _ _ _ _ [_] _ _ _
  refine Bod.stat (r := []) dc_228_65 kr_228_84 (Or.inr rfl) (by rw [np_134]; rfl) (by rw [np_134]; rfl) (by rw [np_134]; exact Nat.le_of_ble_eq_true rfl) (Nat.le_of_ble_eq_true rfl) (c5  ) ?_
  show Bod _ _ _ _ [_] _ _ _
  refine Bod.ic 3 (by decide) dc_228_68 ?_
  refine Bod.icT dc_228_69 rfl (c2_ne_T w13) ?_
  refine Bod.ildnG dc_228_95 (by repeat (first | exact q0 | exact sm_get_p1 | exact sm_get_p2e | refine sm_get_p1m (by decide) (by decide) ?_ | refine sm_get_p1n (by decide) rfl ?_ | refine sm_get_p2n (by decide) (by decide) rfl ?_ | refine sm_get_p2m (by decide) (by decide) (by decide) ?_)) ?_
  refine Bod.ifT dc_228_96 rfl (k1_eq_T (k_eq a 0 rfl rfl (by omega))) ?_
  refine Bod.aldnG dc_228_107 (by repeat (first | exact q0 | exact sm_get_p1 | exact sm_get_p2e | refine sm_get_p1m (by decide) (by decide) ?_ | refine sm_get_p1n (by decide) rfl ?_ | refine sm_get_p2n (by decide) (by decide) rfl ?_ | refine sm_get_p2m (by decide) (by decide) (by decide) ?_)) ?_
  refine Bod.aldnG dc_228_108 (by repeat (first | exact q0 | exact sm_get_p1 | exact sm_get_p2e | refine sm_get_p1m (by decide) (by decide) ?_ | refine sm_get_p1n (by decide) rfl ?_ | refine sm_get_p2n (by decide) (by decide) rfl ?_ | refine sm_get_p2m (by decide) (by decide) (by decide) ?_)) ?_
  refine Bod.get dc_228_109 fr_228_15 (mk_49 _) rfl ?_
  refine Bod.ildnG dc_228_112 (by repeat (first | exact q2 | exact sm_get_p1 | exact sm_get_p2e | refine sm_get_p1m (by decide) (by decide) ?_ | refine sm_get_p1n (by decide) rfl ?_ | refine sm_get_p2n (by decide) (by decide) rfl ?_ | refine sm_get_p2m (by decide) (by decide) (by decide) ?_)) ?_
  refine Bod.virt (r := [_]) dc_228_113 kr_228_80 ⟨Or.inr rfl, ow_132, cl_9⟩ (by rw [np_132]; rfl) (by rw [np_132]; rfl) (ob_of (mk_46 _)) (Nat.le_of_ble_eq_true rfl) (c6  ) ?_
  show Bod _ _ _ _ [_, _] _ _ _
  refine Bod.aldnG dc_228_116 (by repeat (first | exact q0 | exact sm_get_p1 | exact sm_get_p2e | refine sm_get_p1m (by decide) (by decide) ?_ | refine sm_get_p1n (by decide) rfl ?_ | refine sm_get_p2n (by decide) (by decide) rfl ?_ | refine sm_get_p2m (by decide) (by decide) (by decide) ?_)) ?_
  refine Bod.get dc_228_117 fr_228_15 (mk_49 _) rfl ?_
  refine Bod.ildnG dc_228_120 (by repeat (first | exact q2 | exact sm_get_p1 | exact sm_get_p2e | refine sm_get_p1m (by decide) (by decide) ?_ | refine sm_get_p1n (by decide) rfl ?_ | refine sm_get_p2n (by decide) (by decide) rfl ?_ | refine sm_get_p2m (by decide) (by decide) (by decide) ?_)) ?_
  refine Bod.virt (r := [_, _]) dc_228_121 kr_228_100 ⟨Or.inr rfl, ow_135, cl_9⟩ (by rw [np_135]; rfl) (by rw [np_135]; rfl) (ob_of (mk_46 _)) (Nat.le_of_ble_eq_true rfl) (c7  ) ?_
  show Bod _ _ _ _ [_, _, _] _ _ _
  refine Bod.virt (r := []) dc_228_124 kr_228_168 ⟨Or.inl rfl, ow_234, cl_0⟩ (by rw [np_234]; rfl) (by rw [np_234]; rfl) (ob_of (mk_49 _)) (Nat.le_of_ble_eq_true rfl) (c8  ) ?_
  show Bod _ _ _ _ [] _ _ _
  refine Bod.ildnG dc_228_127 (by repeat (first | exact q2 | exact sm_get_p1 | exact sm_get_p2e | refine sm_get_p1m (by decide) (by decide) ?_ | refine sm_get_p1n (by decide) rfl ?_ | refine sm_get_p2n (by decide) (by decide) rfl ?_ | refine sm_get_p2m (by decide) (by decide) (by decide) ?_)) ?_
  refine Bod.ifF dc_228_128 rfl (k1_le_F (ni + 1) rfl (by omega) (by omega)) ?_
  refine Bod.aldnG dc_228_131 (by repeat (first | exact q0 | exact sm_get_p1 | exact sm_get_p2e | refine sm_get_p1m (by decide) (by decide) ?_ | refine sm_get_p1n (by decide) rfl ?_ | refine sm_get_p2n (by decide) (by decide) rfl ?_ | refine sm_get_p2m (by decide) (by decide) (by decide) ?_)) ?_
  refine Bod.bip 32 (by decide) dc_228_132 ?_
  refine Bod.virt (r := []) dc_228_134 kr_228_171 ⟨Or.inl rfl, ow_230, cl_0⟩ (by rw [np_230]; rfl) (by rw [np_230]; rfl) (ob_of (mk_49 _)) (Nat.le_of_ble_eq_true rfl) (c9  ) ?_
  show Bod _ _ _ _ [] _ _ _
  refine Bod.incN ni nI_dec dc_228_137 (by rw [ml_228]; exact Nat.le_of_ble_eq_true rfl) (by repeat (first | exact q2 | exact sm_get_p1 | exact sm_get_p2e | refine sm_get_p1m (by decide) (by decide) ?_ | refine sm_get_p1n (by decide) rfl ?_ | refine sm_get_p2n (by decide) (by decide) rfl ?_ | refine sm_get_p2m (by decide) (by decide) (by decide) ?_)) ?_
  refine Bod.go dc_228_140 rfl ?_
  exact hB _ (by repeat (first | exact q0 | exact sm_get_p1 | exact sm_get_p2e | refine sm_get_p1m (by decide) (by decide) ?_ | refine sm_get_p1n (by decide) rfl ?_ | refine sm_get_p2n (by decide) (by decide) rfl ?_ | refine sm_get_p2m (by decide) (by decide) (by decide) ?_)) (by repeat (first | exact q1 | exact sm_get_p1 | exact sm_get_p2e | refine sm_get_p1m (by decide) (by decide) ?_ | refine sm_get_p1n (by decide) rfl ?_ | refine sm_get_p2n (by decide) (by decide) rfl ?_ | refine sm_get_p2m (by decide) (by decide) (by decide) ?_)) (by repeat (first | exact q0 | exact sm_get_p1 | exact sm_get_p2e | refine sm_get_p1m (by decide) (by decide) ?_ | refine sm_get_p1n (by decide) rfl ?_ | refine sm_get_p2n (by decide) (by decide) rfl ?_ | refine sm_get_p2m (by decide) (by decide) (by decide) ?_))
theorem mPrL_7 {d : Nat} {S Sf : cS} {v : Option Value} {lv : sm_L} {gv : Nat} {ni : Nat} {S1 : cS} {a : Nat} {S2 : cS} {a1 : Nat} {S3 : cS} {a2 : Nat} {S4 : cS} {u : Int64} {S5 : cS} {rb : Int32} {S6 : cS} (q0 : sm_get lv 0 = some (.ref 49)) (q1 : sm_get lv 1 = some (.int (nI gv))) (q2 : sm_get lv 2 = some (.int (nI (ni + 1)))) (mgv : gv < 2 ^ 20) (mni : ni < 2 ^ 20) (ma : a < 2 ^ 20) (c1 : Ans (d + 8) 136 [.ref 46, .int (nI (ni + 1))] S (some (.int (nI a))) S1) (ma1 : a1 < 2 ^ 20) (c2 : Ans (d + 8) 138 [.ref 2, .int (nI a)] S1 (some (.int (nI a1))) S2) (b1 : a1 ≠ 1) (ma2 : a2 < 2 ^ 20) (c3 : Ans (d + 8) 138 [.ref 2, .int (nI a)] S2 (some (.int (nI a2))) S3) (b2 : a2 ≠ 2) (c4 : Ans (d + 8) 132 [.ref 46, .int (nI (ni + 1))] S3 (some (.long u)) S4) (c5 : Ans (d + 8) 134 [.long u] S4 (some (.int rb)) S5) (w13 : rb ≠ nI 3) (b3 : a ≠ 0) (c6 : Ans (d + 8) 240 [.ref 49, .int (nI a)] S5 none S6) (b4 : (ni + 1) ≤ 0) (hB : ∀ lv1 : sm_L, sm_get lv1 0 = some (.ref 49) → sm_get lv1 1 = some (.int (nI gv)) → sm_get lv1 2 = some (.int (nI ni)) → Bod (d + 8) 228 12 lv1 [] (S6) v Sf) : Bod (d + 8) 228 12 lv [] S v Sf := by
  refine Bod.ildnG dc_228_12 (by repeat (first | exact q2 | exact sm_get_p1 | exact sm_get_p2e | refine sm_get_p1m (by decide) (by decide) ?_ | refine sm_get_p1n (by decide) rfl ?_ | refine sm_get_p2n (by decide) (by decide) rfl ?_ | refine sm_get_p2m (by decide) (by decide) (by decide) ?_)) ?_
  refine Bod.ifF dc_228_13 rfl (k1_lt_F (ni + 1) rfl (by omega)) ?_
  refine Bod.aldnG dc_228_16 (by repeat (first | exact q0 | exact sm_get_p1 | exact sm_get_p2e | refine sm_get_p1m (by decide) (by decide) ?_ | refine sm_get_p1n (by decide) rfl ?_ | refine sm_get_p2n (by decide) (by decide) rfl ?_ | refine sm_get_p2m (by decide) (by decide) (by decide) ?_)) ?_
  refine Bod.get dc_228_17 fr_228_15 (mk_49 _) rfl ?_
  refine Bod.ildnG dc_228_20 (by repeat (first | exact q2 | exact sm_get_p1 | exact sm_get_p2e | refine sm_get_p1m (by decide) (by decide) ?_ | refine sm_get_p1n (by decide) rfl ?_ | refine sm_get_p2n (by decide) (by decide) rfl ?_ | refine sm_get_p2m (by decide) (by decide) (by decide) ?_)) ?_
  refine Bod.virt (r := []) dc_228_21 kr_228_91 ⟨Or.inr rfl, ow_136, cl_9⟩ (by rw [np_136]; rfl) (by rw [np_136]; rfl) (ob_of (mk_46 _)) (Nat.le_of_ble_eq_true rfl) (c1  ) ?_
  show Bod _ _ _ _ [_] _ _ _
  refine Bod.istn dc_228_24 (by rw [ml_228]; exact Nat.le_of_ble_eq_true rfl) ?_
  refine Bod.aldnG dc_228_25 (by repeat (first | exact q0 | exact sm_get_p1 | exact sm_get_p2e | refine sm_get_p1m (by decide) (by decide) ?_ | refine sm_get_p1n (by decide) rfl ?_ | refine sm_get_p2n (by decide) (by decide) rfl ?_ | refine sm_get_p2m (by decide) (by decide) (by decide) ?_)) ?_
  refine Bod.get dc_228_26 fr_228_9 (mk_49 _) rfl ?_
  refine Bod.ildnG dc_228_29 (by repeat (first | exact q0 | exact sm_get_p1 | exact sm_get_p2e | refine sm_get_p1m (by decide) (by decide) ?_ | refine sm_get_p1n (by decide) rfl ?_ | refine sm_get_p2n (by decide) (by decide) rfl ?_ | refine sm_get_p2m (by decide) (by decide) (by decide) ?_)) ?_
  refine Bod.virt (r := []) dc_228_30 kr_228_94 ⟨Or.inr rfl, ow_138, cl_2⟩ (by rw [np_138]; rfl) (by rw [np_138]; rfl) (ob_of (mk_2 _)) (Nat.le_of_ble_eq_true rfl) (c2  ) ?_
  show Bod _ _ _ _ [_] _ _ _
  refine Bod.ic 1 (by decide) dc_228_33 ?_
  refine Bod.icF dc_228_34 rfl (k2_eq_F (k_ne a1 1 rfl rfl (by omega) (by omega) (by omega))) ?_
  refine Bod.aldnG dc_228_37 (by repeat (first | exact q0 | exact sm_get_p1 | exact sm_get_p2e | refine sm_get_p1m (by decide) (by decide) ?_ | refine sm_get_p1n (by decide) rfl ?_ | refine sm_get_p2n (by decide) (by decide) rfl ?_ | refine sm_get_p2m (by decide) (by decide) (by decide) ?_)) ?_
  refine Bod.get dc_228_38 fr_228_9 (mk_49 _) rfl ?_
  refine Bod.ildnG dc_228_41 (by repeat (first | exact q0 | exact sm_get_p1 | exact sm_get_p2e | refine sm_get_p1m (by decide) (by decide) ?_ | refine sm_get_p1n (by decide) rfl ?_ | refine sm_get_p2n (by decide) (by decide) rfl ?_ | refine sm_get_p2m (by decide) (by decide) (by decide) ?_)) ?_
  refine Bod.virt (r := []) dc_228_42 kr_228_94 ⟨Or.inr rfl, ow_138, cl_2⟩ (by rw [np_138]; rfl) (by rw [np_138]; rfl) (ob_of (mk_2 _)) (Nat.le_of_ble_eq_true rfl) (c3  ) ?_
  show Bod _ _ _ _ [_] _ _ _
  refine Bod.ic 2 (by decide) dc_228_45 ?_
  refine Bod.icT dc_228_46 rfl (k2_ne_T (k_ne a2 2 rfl rfl (by omega) (by omega) (by omega))) ?_
  refine Bod.aldnG dc_228_57 (by repeat (first | exact q0 | exact sm_get_p1 | exact sm_get_p2e | refine sm_get_p1m (by decide) (by decide) ?_ | refine sm_get_p1n (by decide) rfl ?_ | refine sm_get_p2n (by decide) (by decide) rfl ?_ | refine sm_get_p2m (by decide) (by decide) (by decide) ?_)) ?_
  refine Bod.get dc_228_58 fr_228_15 (mk_49 _) rfl ?_
  refine Bod.ildnG dc_228_61 (by repeat (first | exact q2 | exact sm_get_p1 | exact sm_get_p2e | refine sm_get_p1m (by decide) (by decide) ?_ | refine sm_get_p1n (by decide) rfl ?_ | refine sm_get_p2n (by decide) (by decide) rfl ?_ | refine sm_get_p2m (by decide) (by decide) (by decide) ?_)) ?_
  refine Bod.virt (r := []) dc_228_62 kr_228_80 ⟨Or.inr rfl, ow_132, cl_9⟩ (by rw [np_132]; rfl) (by rw [np_132]; rfl) (ob_of (mk_46 _)) (Nat.le_of_ble_eq_true rfl) (c4  ) ?_
  show Bod _ _ _ _ [_] _ _ _
  refine Bod.stat (r := []) dc_228_65 kr_228_84 (Or.inr rfl) (by rw [np_134]; rfl) (by rw [np_134]; rfl) (by rw [np_134]; exact Nat.le_of_ble_eq_true rfl) (Nat.le_of_ble_eq_true rfl) (c5  ) ?_
  show Bod _ _ _ _ [_] _ _ _
  refine Bod.ic 3 (by decide) dc_228_68 ?_
  refine Bod.icT dc_228_69 rfl (c2_ne_T w13) ?_
  refine Bod.ildnG dc_228_95 (by repeat (first | exact q0 | exact sm_get_p1 | exact sm_get_p2e | refine sm_get_p1m (by decide) (by decide) ?_ | refine sm_get_p1n (by decide) rfl ?_ | refine sm_get_p2n (by decide) (by decide) rfl ?_ | refine sm_get_p2m (by decide) (by decide) (by decide) ?_)) ?_
  refine Bod.ifF dc_228_96 rfl (k1_eq_F (k_ne a 0 rfl rfl (by omega) (by omega) (by omega))) ?_
  refine Bod.aldnG dc_228_99 (by repeat (first | exact q0 | exact sm_get_p1 | exact sm_get_p2e | refine sm_get_p1m (by decide) (by decide) ?_ | refine sm_get_p1n (by decide) rfl ?_ | refine sm_get_p2n (by decide) (by decide) rfl ?_ | refine sm_get_p2m (by decide) (by decide) (by decide) ?_)) ?_
  refine Bod.ildnG dc_228_100 (by repeat (first | exact q0 | exact sm_get_p1 | exact sm_get_p2e | refine sm_get_p1m (by decide) (by decide) ?_ | refine sm_get_p1n (by decide) rfl ?_ | refine sm_get_p2n (by decide) (by decide) rfl ?_ | refine sm_get_p2m (by decide) (by decide) (by decide) ?_)) ?_
  refine Bod.virt (r := []) dc_228_101 kr_228_165 ⟨Or.inl rfl, ow_240, cl_0⟩ (by rw [np_240]; rfl) (by rw [np_240]; rfl) (ob_of (mk_49 _)) (Nat.le_of_ble_eq_true rfl) (c6  ) ?_
  show Bod _ _ _ _ [] _ _ _
  refine Bod.go dc_228_104 rfl ?_
  refine Bod.ildnG dc_228_127 (by repeat (first | exact q2 | exact sm_get_p1 | exact sm_get_p2e | refine sm_get_p1m (by decide) (by decide) ?_ | refine sm_get_p1n (by decide) rfl ?_ | refine sm_get_p2n (by decide) (by decide) rfl ?_ | refine sm_get_p2m (by decide) (by decide) (by decide) ?_)) ?_
  refine Bod.ifT dc_228_128 rfl (k1_le_T (k_eq (ni + 1) 0 (by first | assumption | (simp (disch := omega) only [rI, rIe, rA, rIA, rLA, rJA, rVI, rQI, rVA, rQA, upd_at,  rAI, rLI, rJI, nI_add, pk_sub, kc_0, kc_1, kc_2, kc_3, kc_4, kc_5, reduceIte, Nat.reduceEqDiff, Nat.add_zero, rI_hold, rI_hold, rL_hold]; done) | (simp (disch := omega) only [rI, rIe, rA, rIA, rLA, rJA, rVI, rQI, rVA, rQA, upd_at,  rAI, rLI, rJI, nI_add, pk_sub, kc_0, kc_1, kc_2, kc_3, kc_4, kc_5, reduceIte, Nat.reduceEqDiff, Nat.add_zero, rI_hold, rI_hold, rL_hold]; exact congrArg nI (by omega))) rfl (by omega))) ?_
  refine Bod.incN ni nI_dec dc_228_137 (by rw [ml_228]; exact Nat.le_of_ble_eq_true rfl) (by repeat (first | exact q2 | exact sm_get_p1 | exact sm_get_p2e | refine sm_get_p1m (by decide) (by decide) ?_ | refine sm_get_p1n (by decide) rfl ?_ | refine sm_get_p2n (by decide) (by decide) rfl ?_ | refine sm_get_p2m (by decide) (by decide) (by decide) ?_)) ?_
  refine Bod.go dc_228_140 rfl ?_
  exact hB _ (by repeat (first | exact q0 | exact sm_get_p1 | exact sm_get_p2e | refine sm_get_p1m (by decide) (by decide) ?_ | refine sm_get_p1n (by decide) rfl ?_ | refine sm_get_p2n (by decide) (by decide) rfl ?_ | refine sm_get_p2m (by decide) (by decide) (by decide) ?_)) (by repeat (first | exact q1 | exact sm_get_p1 | exact sm_get_p2e | refine sm_get_p1m (by decide) (by decide) ?_ | refine sm_get_p1n (by decide) rfl ?_ | refine sm_get_p2n (by decide) (by decide) rfl ?_ | refine sm_get_p2m (by decide) (by decide) (by decide) ?_)) (by repeat (first | exact q0 | exact sm_get_p1 | exact sm_get_p2e | refine sm_get_p1m (by decide) (by decide) ?_ | refine sm_get_p1n (by decide) rfl ?_ | refine sm_get_p2n (by decide) (by decide) rfl ?_ | refine sm_get_p2m (by decide) (by decide) (by decide) ?_))
theorem mPrL_8 {d : Nat} {S Sf : cS} {v : Option Value} {lv : sm_L} {gv : Nat} {ni : Nat} {S1 : cS} {a : Nat} {S2 : cS} {a1 : Nat} {S3 : cS} {a2 : Nat} {S4 : cS} {u : Int64} {S5 : cS} {rb : Int32} {S6 : cS} {S7 : cS} (q0 : sm_get lv 0 = some (.ref 49)) (q1 : sm_get lv 1 = some (.int (nI gv))) (q2 : sm_get lv 2 = some (.int (nI (ni + 1)))) (mgv : gv < 2 ^ 20) (mni : ni < 2 ^ 20) (ma : a < 2 ^ 20) (c1 : Ans (d + 8) 136 [.ref 46, .int (nI (ni + 1))] S (some (.int (nI a))) S1) (ma1 : a1 < 2 ^ 20) (c2 : Ans (d + 8) 138 [.ref 2, .int (nI a)] S1 (some (.int (nI a1))) S2) (b1 : a1 ≠ 1) (ma2 : a2 < 2 ^ 20) (c3 : Ans (d + 8) 138 [.ref 2, .int (nI a)] S2 (some (.int (nI a2))) S3) (b2 : a2 ≠ 2) (c4 : Ans (d + 8) 132 [.ref 46, .int (nI (ni + 1))] S3 (some (.long u)) S4) (c5 : Ans (d + 8) 134 [.long u] S4 (some (.int rb)) S5) (w13 : rb ≠ nI 3) (b3 : a ≠ 0) (c6 : Ans (d + 8) 240 [.ref 49, .int (nI a)] S5 none S6) (b4 : 0 < (ni + 1)) (c7 : Ans (d + 8) 230 [.ref 49, .int (nI 32)] S6 none S7) (hB : ∀ lv1 : sm_L, sm_get lv1 0 = some (.ref 49) → sm_get lv1 1 = some (.int (nI gv)) → sm_get lv1 2 = some (.int (nI ni)) → Bod (d + 8) 228 12 lv1 [] (S7) v Sf) : Bod (d + 8) 228 12 lv [] S v Sf := by
  refine Bod.ildnG dc_228_12 (by repeat (first | exact q2 | exact sm_get_p1 | exact sm_get_p2e | refine sm_get_p1m (by decide) (by decide) ?_ | refine sm_get_p1n (by decide) rfl ?_ | refine sm_get_p2n (by decide) (by decide) rfl ?_ | refine sm_get_p2m (by decide) (by decide) (by decide) ?_)) ?_
  refine Bod.ifF dc_228_13 rfl (k1_lt_F (ni + 1) rfl (by omega)) ?_
  refine Bod.aldnG dc_228_16 (by repeat (first | exact q0 | exact sm_get_p1 | exact sm_get_p2e | refine sm_get_p1m (by decide) (by decide) ?_ | refine sm_get_p1n (by decide) rfl ?_ | refine sm_get_p2n (by decide) (by decide) rfl ?_ | refine sm_get_p2m (by decide) (by decide) (by decide) ?_)) ?_
  refine Bod.get dc_228_17 fr_228_15 (mk_49 _) rfl ?_
  refine Bod.ildnG dc_228_20 (by repeat (first | exact q2 | exact sm_get_p1 | exact sm_get_p2e | refine sm_get_p1m (by decide) (by decide) ?_ | refine sm_get_p1n (by decide) rfl ?_ | refine sm_get_p2n (by decide) (by decide) rfl ?_ | refine sm_get_p2m (by decide) (by decide) (by decide) ?_)) ?_
  refine Bod.virt (r := []) dc_228_21 kr_228_91 ⟨Or.inr rfl, ow_136, cl_9⟩ (by rw [np_136]; rfl) (by rw [np_136]; rfl) (ob_of (mk_46 _)) (Nat.le_of_ble_eq_true rfl) (c1  ) ?_
  show Bod _ _ _ _ [_] _ _ _
  refine Bod.istn dc_228_24 (by rw [ml_228]; exact Nat.le_of_ble_eq_true rfl) ?_
  refine Bod.aldnG dc_228_25 (by repeat (first | exact q0 | exact sm_get_p1 | exact sm_get_p2e | refine sm_get_p1m (by decide) (by decide) ?_ | refine sm_get_p1n (by decide) rfl ?_ | refine sm_get_p2n (by decide) (by decide) rfl ?_ | refine sm_get_p2m (by decide) (by decide) (by decide) ?_)) ?_
  refine Bod.get dc_228_26 fr_228_9 (mk_49 _) rfl ?_
  refine Bod.ildnG dc_228_29 (by repeat (first | exact q0 | exact sm_get_p1 | exact sm_get_p2e | refine sm_get_p1m (by decide) (by decide) ?_ | refine sm_get_p1n (by decide) rfl ?_ | refine sm_get_p2n (by decide) (by decide) rfl ?_ | refine sm_get_p2m (by decide) (by decide) (by decide) ?_)) ?_
  refine Bod.virt (r := []) dc_228_30 kr_228_94 ⟨Or.inr rfl, ow_138, cl_2⟩ (by rw [np_138]; rfl) (by rw [np_138]; rfl) (ob_of (mk_2 _)) (Nat.le_of_ble_eq_true rfl) (c2  ) ?_
  show Bod _ _ _ _ [_] _ _ _
  refine Bod.ic 1 (by decide) dc_228_33 ?_
  refine Bod.icF dc_228_34 rfl (k2_eq_F (k_ne a1 1 rfl rfl (by omega) (by omega) (by omega))) ?_
  refine Bod.aldnG dc_228_37 (by repeat (first | exact q0 | exact sm_get_p1 | exact sm_get_p2e | refine sm_get_p1m (by decide) (by decide) ?_ | refine sm_get_p1n (by decide) rfl ?_ | refine sm_get_p2n (by decide) (by decide) rfl ?_ | refine sm_get_p2m (by decide) (by decide) (by decide) ?_)) ?_
  refine Bod.get dc_228_38 fr_228_9 (mk_49 _) rfl ?_
  refine Bod.ildnG dc_228_41 (by repeat (first | exact q0 | exact sm_get_p1 | exact sm_get_p2e | refine sm_get_p1m (by decide) (by decide) ?_ | refine sm_get_p1n (by decide) rfl ?_ | refine sm_get_p2n (by decide) (by decide) rfl ?_ | refine sm_get_p2m (by decide) (by decide) (by decide) ?_)) ?_
  refine Bod.virt (r := []) dc_228_42 kr_228_94 ⟨Or.inr rfl, ow_138, cl_2⟩ (by rw [np_138]; rfl) (by rw [np_138]; rfl) (ob_of (mk_2 _)) (Nat.le_of_ble_eq_true rfl) (c3  ) ?_
  show Bod _ _ _ _ [_] _ _ _
  refine Bod.ic 2 (by decide) dc_228_45 ?_
  refine Bod.icT dc_228_46 rfl (k2_ne_T (k_ne a2 2 rfl rfl (by omega) (by omega) (by omega))) ?_
  refine Bod.aldnG dc_228_57 (by repeat (first | exact q0 | exact sm_get_p1 | exact sm_get_p2e | refine sm_get_p1m (by decide) (by decide) ?_ | refine sm_get_p1n (by decide) rfl ?_ | refine sm_get_p2n (by decide) (by decide) rfl ?_ | refine sm_get_p2m (by decide) (by decide) (by decide) ?_)) ?_
  refine Bod.get dc_228_58 fr_228_15 (mk_49 _) rfl ?_
  refine Bod.ildnG dc_228_61 (by repeat (first | exact q2 | exact sm_get_p1 | exact sm_get_p2e | refine sm_get_p1m (by decide) (by decide) ?_ | refine sm_get_p1n (by decide) rfl ?_ | refine sm_get_p2n (by decide) (by decide) rfl ?_ | refine sm_get_p2m (by decide) (by decide) (by decide) ?_)) ?_
  refine Bod.virt (r := []) dc_228_62 kr_228_80 ⟨Or.inr rfl, ow_132, cl_9⟩ (by rw [np_132]; rfl) (by rw [np_132]; rfl) (ob_of (mk_46 _)) (Nat.le_of_ble_eq_true rfl) (c4  ) ?_
  show Bod _ _ _ _ [_] _ _ _
  refine Bod.stat (r := []) dc_228_65 kr_228_84 (Or.inr rfl) (by rw [np_134]; rfl) (by rw [np_134]; rfl) (by rw [np_134]; exact Nat.le_of_ble_eq_true rfl) (Nat.le_of_ble_eq_true rfl) (c5  ) ?_
  show Bod _ _ _ _ [_] _ _ _
  refine Bod.ic 3 (by decide) dc_228_68 ?_
  refine Bod.icT dc_228_69 rfl (c2_ne_T w13) ?_
  refine Bod.ildnG dc_228_95 (by repeat (first | exact q0 | exact sm_get_p1 | exact sm_get_p2e | refine sm_get_p1m (by decide) (by decide) ?_ | refine sm_get_p1n (by decide) rfl ?_ | refine sm_get_p2n (by decide) (by decide) rfl ?_ | refine sm_get_p2m (by decide) (by decide) (by decide) ?_)) ?_
  refine Bod.ifF dc_228_96 rfl (k1_eq_F (k_ne a 0 rfl rfl (by omega) (by omega) (by omega))) ?_
  refine Bod.aldnG dc_228_99 (by repeat (first | exact q0 | exact sm_get_p1 | exact sm_get_p2e | refine sm_get_p1m (by decide) (by decide) ?_ | refine sm_get_p1n (by decide) rfl ?_ | refine sm_get_p2n (by decide) (by decide) rfl ?_ | refine sm_get_p2m (by decide) (by decide) (by decide) ?_)) ?_
  refine Bod.ildnG dc_228_100 (by repeat (first | exact q0 | exact sm_get_p1 | exact sm_get_p2e | refine sm_get_p1m (by decide) (by decide) ?_ | refine sm_get_p1n (by decide) rfl ?_ | refine sm_get_p2n (by decide) (by decide) rfl ?_ | refine sm_get_p2m (by decide) (by decide) (by decide) ?_)) ?_
  refine Bod.virt (r := []) dc_228_101 kr_228_165 ⟨Or.inl rfl, ow_240, cl_0⟩ (by rw [np_240]; rfl) (by rw [np_240]; rfl) (ob_of (mk_49 _)) (Nat.le_of_ble_eq_true rfl) (c6  ) ?_
  show Bod _ _ _ _ [] _ _ _
  refine Bod.go dc_228_104 rfl ?_
  refine Bod.ildnG dc_228_127 (by repeat (first | exact q2 | exact sm_get_p1 | exact sm_get_p2e | refine sm_get_p1m (by decide) (by decide) ?_ | refine sm_get_p1n (by decide) rfl ?_ | refine sm_get_p2n (by decide) (by decide) rfl ?_ | refine sm_get_p2m (by decide) (by decide) (by decide) ?_)) ?_
  refine Bod.ifF dc_228_128 rfl (k1_le_F (ni + 1) rfl (by omega) (by omega)) ?_
  refine Bod.aldnG dc_228_131 (by repeat (first | exact q0 | exact sm_get_p1 | exact sm_get_p2e | refine sm_get_p1m (by decide) (by decide) ?_ | refine sm_get_p1n (by decide) rfl ?_ | refine sm_get_p2n (by decide) (by decide) rfl ?_ | refine sm_get_p2m (by decide) (by decide) (by decide) ?_)) ?_
  refine Bod.bip 32 (by decide) dc_228_132 ?_
  refine Bod.virt (r := []) dc_228_134 kr_228_171 ⟨Or.inl rfl, ow_230, cl_0⟩ (by rw [np_230]; rfl) (by rw [np_230]; rfl) (ob_of (mk_49 _)) (Nat.le_of_ble_eq_true rfl) (c7  ) ?_
  show Bod _ _ _ _ [] _ _ _
  refine Bod.incN ni nI_dec dc_228_137 (by rw [ml_228]; exact Nat.le_of_ble_eq_true rfl) (by repeat (first | exact q2 | exact sm_get_p1 | exact sm_get_p2e | refine sm_get_p1m (by decide) (by decide) ?_ | refine sm_get_p1n (by decide) rfl ?_ | refine sm_get_p2n (by decide) (by decide) rfl ?_ | refine sm_get_p2m (by decide) (by decide) (by decide) ?_)) ?_
  refine Bod.go dc_228_140 rfl ?_
  exact hB _ (by repeat (first | exact q0 | exact sm_get_p1 | exact sm_get_p2e | refine sm_get_p1m (by decide) (by decide) ?_ | refine sm_get_p1n (by decide) rfl ?_ | refine sm_get_p2n (by decide) (by decide) rfl ?_ | refine sm_get_p2m (by decide) (by decide) (by decide) ?_)) (by repeat (first | exact q1 | exact sm_get_p1 | exact sm_get_p2e | refine sm_get_p1m (by decide) (by decide) ?_ | refine sm_get_p1n (by decide) rfl ?_ | refine sm_get_p2n (by decide) (by decide) rfl ?_ | refine sm_get_p2m (by decide) (by decide) (by decide) ?_)) (by repeat (first | exact q0 | exact sm_get_p1 | exact sm_get_p2e | refine sm_get_p1m (by decide) (by decide) ?_ | refine sm_get_p1n (by decide) rfl ?_ | refine sm_get_p2n (by decide) (by decide) rfl ?_ | refine sm_get_p2m (by decide) (by decide) (by decide) ?_))
theorem mPrL_9 {d : Nat} {S Sf : cS} {v : Option Value} {lv : sm_L} {gv : Nat} {ni : Nat} {S1 : cS} {a : Nat} {S2 : cS} {a1 : Nat} {S3 : cS} {a2 : Nat} {S4 : cS} (q0 : sm_get lv 0 = some (.ref 49)) (q1 : sm_get lv 1 = some (.int (nI gv))) (q2 : sm_get lv 2 = some (.int (nI (ni + 1)))) (mgv : gv < 2 ^ 20) (mni : ni < 2 ^ 20) (ma : a < 2 ^ 20) (c1 : Ans (d + 8) 136 [.ref 46, .int (nI (ni + 1))] S (some (.int (nI a))) S1) (ma1 : a1 < 2 ^ 20) (c2 : Ans (d + 8) 138 [.ref 2, .int (nI a)] S1 (some (.int (nI a1))) S2) (b1 : a1 ≠ 1) (ma2 : a2 < 2 ^ 20) (c3 : Ans (d + 8) 138 [.ref 2, .int (nI a)] S2 (some (.int (nI a2))) S3) (b2 : a2 = 2) (c4 : Ans (d + 8) 229 [.ref 49, .int (nI a)] S3 none S4) (b3 : (ni + 1) ≤ 0) (hB : ∀ lv1 : sm_L, sm_get lv1 0 = some (.ref 49) → sm_get lv1 1 = some (.int (nI gv)) → sm_get lv1 2 = some (.int (nI ni)) → Bod (d + 8) 228 12 lv1 [] (S4) v Sf) : Bod (d + 8) 228 12 lv [] S v Sf := by
  refine Bod.ildnG dc_228_12 (by repeat (first | exact q2 | exact sm_get_p1 | exact sm_get_p2e | refine sm_get_p1m (by decide) (by decide) ?_ | refine sm_get_p1n (by decide) rfl ?_ | refine sm_get_p2n (by decide) (by decide) rfl ?_ | refine sm_get_p2m (by decide) (by decide) (by decide) ?_)) ?_
  refine Bod.ifF dc_228_13 rfl (k1_lt_F (ni + 1) rfl (by omega)) ?_
  refine Bod.aldnG dc_228_16 (by repeat (first | exact q0 | exact sm_get_p1 | exact sm_get_p2e | refine sm_get_p1m (by decide) (by decide) ?_ | refine sm_get_p1n (by decide) rfl ?_ | refine sm_get_p2n (by decide) (by decide) rfl ?_ | refine sm_get_p2m (by decide) (by decide) (by decide) ?_)) ?_
  refine Bod.get dc_228_17 fr_228_15 (mk_49 _) rfl ?_
  refine Bod.ildnG dc_228_20 (by repeat (first | exact q2 | exact sm_get_p1 | exact sm_get_p2e | refine sm_get_p1m (by decide) (by decide) ?_ | refine sm_get_p1n (by decide) rfl ?_ | refine sm_get_p2n (by decide) (by decide) rfl ?_ | refine sm_get_p2m (by decide) (by decide) (by decide) ?_)) ?_
  refine Bod.virt (r := []) dc_228_21 kr_228_91 ⟨Or.inr rfl, ow_136, cl_9⟩ (by rw [np_136]; rfl) (by rw [np_136]; rfl) (ob_of (mk_46 _)) (Nat.le_of_ble_eq_true rfl) (c1  ) ?_
  show Bod _ _ _ _ [_] _ _ _
  refine Bod.istn dc_228_24 (by rw [ml_228]; exact Nat.le_of_ble_eq_true rfl) ?_
  refine Bod.aldnG dc_228_25 (by repeat (first | exact q0 | exact sm_get_p1 | exact sm_get_p2e | refine sm_get_p1m (by decide) (by decide) ?_ | refine sm_get_p1n (by decide) rfl ?_ | refine sm_get_p2n (by decide) (by decide) rfl ?_ | refine sm_get_p2m (by decide) (by decide) (by decide) ?_)) ?_
  refine Bod.get dc_228_26 fr_228_9 (mk_49 _) rfl ?_
  refine Bod.ildnG dc_228_29 (by repeat (first | exact q0 | exact sm_get_p1 | exact sm_get_p2e | refine sm_get_p1m (by decide) (by decide) ?_ | refine sm_get_p1n (by decide) rfl ?_ | refine sm_get_p2n (by decide) (by decide) rfl ?_ | refine sm_get_p2m (by decide) (by decide) (by decide) ?_)) ?_
  refine Bod.virt (r := []) dc_228_30 kr_228_94 ⟨Or.inr rfl, ow_138, cl_2⟩ (by rw [np_138]; rfl) (by rw [np_138]; rfl) (ob_of (mk_2 _)) (Nat.le_of_ble_eq_true rfl) (c2  ) ?_
  show Bod _ _ _ _ [_] _ _ _
  refine Bod.ic 1 (by decide) dc_228_33 ?_
  refine Bod.icF dc_228_34 rfl (k2_eq_F (k_ne a1 1 rfl rfl (by omega) (by omega) (by omega))) ?_
  refine Bod.aldnG dc_228_37 (by repeat (first | exact q0 | exact sm_get_p1 | exact sm_get_p2e | refine sm_get_p1m (by decide) (by decide) ?_ | refine sm_get_p1n (by decide) rfl ?_ | refine sm_get_p2n (by decide) (by decide) rfl ?_ | refine sm_get_p2m (by decide) (by decide) (by decide) ?_)) ?_
  refine Bod.get dc_228_38 fr_228_9 (mk_49 _) rfl ?_
  refine Bod.ildnG dc_228_41 (by repeat (first | exact q0 | exact sm_get_p1 | exact sm_get_p2e | refine sm_get_p1m (by decide) (by decide) ?_ | refine sm_get_p1n (by decide) rfl ?_ | refine sm_get_p2n (by decide) (by decide) rfl ?_ | refine sm_get_p2m (by decide) (by decide) (by decide) ?_)) ?_
  refine Bod.virt (r := []) dc_228_42 kr_228_94 ⟨Or.inr rfl, ow_138, cl_2⟩ (by rw [np_138]; rfl) (by rw [np_138]; rfl) (ob_of (mk_2 _)) (Nat.le_of_ble_eq_true rfl) (c3  ) ?_
  show Bod _ _ _ _ [_] _ _ _
  refine Bod.ic 2 (by decide) dc_228_45 ?_
  refine Bod.icF dc_228_46 rfl (k2_ne_F (k_eq a2 2 rfl rfl (by omega))) ?_
  refine Bod.aldnG dc_228_49 (by repeat (first | exact q0 | exact sm_get_p1 | exact sm_get_p2e | refine sm_get_p1m (by decide) (by decide) ?_ | refine sm_get_p1n (by decide) rfl ?_ | refine sm_get_p2n (by decide) (by decide) rfl ?_ | refine sm_get_p2m (by decide) (by decide) (by decide) ?_)) ?_
  refine Bod.ildnG dc_228_50 (by repeat (first | exact q0 | exact sm_get_p1 | exact sm_get_p2e | refine sm_get_p1m (by decide) (by decide) ?_ | refine sm_get_p1n (by decide) rfl ?_ | refine sm_get_p2n (by decide) (by decide) rfl ?_ | refine sm_get_p2m (by decide) (by decide) (by decide) ?_)) ?_
  refine Bod.virt (r := []) dc_228_51 kr_228_158 ⟨Or.inl rfl, ow_229, cl_0⟩ (by rw [np_229]; rfl) (by rw [np_229]; rfl) (ob_of (mk_49 _)) (Nat.le_of_ble_eq_true rfl) (c4  ) ?_
  show Bod _ _ _ _ [] _ _ _
  refine Bod.go dc_228_54 rfl ?_
  refine Bod.ildnG dc_228_127 (by repeat (first | exact q2 | exact sm_get_p1 | exact sm_get_p2e | refine sm_get_p1m (by decide) (by decide) ?_ | refine sm_get_p1n (by decide) rfl ?_ | refine sm_get_p2n (by decide) (by decide) rfl ?_ | refine sm_get_p2m (by decide) (by decide) (by decide) ?_)) ?_
  refine Bod.ifT dc_228_128 rfl (k1_le_T (k_eq (ni + 1) 0 (by first | assumption | (simp (disch := omega) only [rI, rIe, rA, rIA, rLA, rJA, rVI, rQI, rVA, rQA, upd_at,  rAI, rLI, rJI, nI_add, pk_sub, kc_0, kc_1, kc_2, kc_3, kc_4, kc_5, reduceIte, Nat.reduceEqDiff, Nat.add_zero, rI_hold, rI_hold, rL_hold]; done) | (simp (disch := omega) only [rI, rIe, rA, rIA, rLA, rJA, rVI, rQI, rVA, rQA, upd_at,  rAI, rLI, rJI, nI_add, pk_sub, kc_0, kc_1, kc_2, kc_3, kc_4, kc_5, reduceIte, Nat.reduceEqDiff, Nat.add_zero, rI_hold, rI_hold, rL_hold]; exact congrArg nI (by omega))) rfl (by omega))) ?_
  refine Bod.incN ni nI_dec dc_228_137 (by rw [ml_228]; exact Nat.le_of_ble_eq_true rfl) (by repeat (first | exact q2 | exact sm_get_p1 | exact sm_get_p2e | refine sm_get_p1m (by decide) (by decide) ?_ | refine sm_get_p1n (by decide) rfl ?_ | refine sm_get_p2n (by decide) (by decide) rfl ?_ | refine sm_get_p2m (by decide) (by decide) (by decide) ?_)) ?_
  refine Bod.go dc_228_140 rfl ?_
  exact hB _ (by repeat (first | exact q0 | exact sm_get_p1 | exact sm_get_p2e | refine sm_get_p1m (by decide) (by decide) ?_ | refine sm_get_p1n (by decide) rfl ?_ | refine sm_get_p2n (by decide) (by decide) rfl ?_ | refine sm_get_p2m (by decide) (by decide) (by decide) ?_)) (by repeat (first | exact q1 | exact sm_get_p1 | exact sm_get_p2e | refine sm_get_p1m (by decide) (by decide) ?_ | refine sm_get_p1n (by decide) rfl ?_ | refine sm_get_p2n (by decide) (by decide) rfl ?_ | refine sm_get_p2m (by decide) (by decide) (by decide) ?_)) (by repeat (first | exact q0 | exact sm_get_p1 | exact sm_get_p2e | refine sm_get_p1m (by decide) (by decide) ?_ | refine sm_get_p1n (by decide) rfl ?_ | refine sm_get_p2n (by decide) (by decide) rfl ?_ | refine sm_get_p2m (by decide) (by decide) (by decide) ?_))
theorem mPrL_10 {d : Nat} {S Sf : cS} {v : Option Value} {lv : sm_L} {gv : Nat} {ni : Nat} {S1 : cS} {a : Nat} {S2 : cS} {a1 : Nat} {S3 : cS} {a2 : Nat} {S4 : cS} {S5 : cS} (q0 : sm_get lv 0 = some (.ref 49)) (q1 : sm_get lv 1 = some (.int (nI gv))) (q2 : sm_get lv 2 = some (.int (nI (ni + 1)))) (mgv : gv < 2 ^ 20) (mni : ni < 2 ^ 20) (ma : a < 2 ^ 20) (c1 : Ans (d + 8) 136 [.ref 46, .int (nI (ni + 1))] S (some (.int (nI a))) S1) (ma1 : a1 < 2 ^ 20) (c2 : Ans (d + 8) 138 [.ref 2, .int (nI a)] S1 (some (.int (nI a1))) S2) (b1 : a1 ≠ 1) (ma2 : a2 < 2 ^ 20) (c3 : Ans (d + 8) 138 [.ref 2, .int (nI a)] S2 (some (.int (nI a2))) S3) (b2 : a2 = 2) (c4 : Ans (d + 8) 229 [.ref 49, .int (nI a)] S3 none S4) (b3 : 0 < (ni + 1)) (c5 : Ans (d + 8) 230 [.ref 49, .int (nI 32)] S4 none S5) (hB : ∀ lv1 : sm_L, sm_get lv1 0 = some (.ref 49) → sm_get lv1 1 = some (.int (nI gv)) → sm_get lv1 2 = some (.int (nI ni)) → Bod (d + 8) 228 12 lv1 [] (S5) v Sf) : Bod (d + 8) 228 12 lv [] S v Sf := by
  refine Bod.ildnG dc_228_12 (by repeat (first | exact q2 | exact sm_get_p1 | exact sm_get_p2e | refine sm_get_p1m (by decide) (by decide) ?_ | refine sm_get_p1n (by decide) rfl ?_ | refine sm_get_p2n (by decide) (by decide) rfl ?_ | refine sm_get_p2m (by decide) (by decide) (by decide) ?_)) ?_
  refine Bod.ifF dc_228_13 rfl (k1_lt_F (ni + 1) rfl (by omega)) ?_
  refine Bod.aldnG dc_228_16 (by repeat (first | exact q0 | exact sm_get_p1 | exact sm_get_p2e | refine sm_get_p1m (by decide) (by decide) ?_ | refine sm_get_p1n (by decide) rfl ?_ | refine sm_get_p2n (by decide) (by decide) rfl ?_ | refine sm_get_p2m (by decide) (by decide) (by decide) ?_)) ?_
  refine Bod.get dc_228_17 fr_228_15 (mk_49 _) rfl ?_
  refine Bod.ildnG dc_228_20 (by repeat (first | exact q2 | exact sm_get_p1 | exact sm_get_p2e | refine sm_get_p1m (by decide) (by decide) ?_ | refine sm_get_p1n (by decide) rfl ?_ | refine sm_get_p2n (by decide) (by decide) rfl ?_ | refine sm_get_p2m (by decide) (by decide) (by decide) ?_)) ?_
  refine Bod.virt (r := []) dc_228_21 kr_228_91 ⟨Or.inr rfl, ow_136, cl_9⟩ (by rw [np_136]; rfl) (by rw [np_136]; rfl) (ob_of (mk_46 _)) (Nat.le_of_ble_eq_true rfl) (c1  ) ?_
  show Bod _ _ _ _ [_] _ _ _
  refine Bod.istn dc_228_24 (by rw [ml_228]; exact Nat.le_of_ble_eq_true rfl) ?_
  refine Bod.aldnG dc_228_25 (by repeat (first | exact q0 | exact sm_get_p1 | exact sm_get_p2e | refine sm_get_p1m (by decide) (by decide) ?_ | refine sm_get_p1n (by decide) rfl ?_ | refine sm_get_p2n (by decide) (by decide) rfl ?_ | refine sm_get_p2m (by decide) (by decide) (by decide) ?_)) ?_
  refine Bod.get dc_228_26 fr_228_9 (mk_49 _) rfl ?_
  refine Bod.ildnG dc_228_29 (by repeat (first | exact q0 | exact sm_get_p1 | exact sm_get_p2e | refine sm_get_p1m (by decide) (by decide) ?_ | refine sm_get_p1n (by decide) rfl ?_ | refine sm_get_p2n (by decide) (by decide) rfl ?_ | refine sm_get_p2m (by decide) (by decide) (by decide) ?_)) ?_
  refine Bod.virt (r := []) dc_228_30 kr_228_94 ⟨Or.inr rfl, ow_138, cl_2⟩ (by rw [np_138]; rfl) (by rw [np_138]; rfl) (ob_of (mk_2 _)) (Nat.le_of_ble_eq_true rfl) (c2  ) ?_
  show Bod _ _ _ _ [_] _ _ _
  refine Bod.ic 1 (by decide) dc_228_33 ?_
  refine Bod.icF dc_228_34 rfl (k2_eq_F (k_ne a1 1 rfl rfl (by omega) (by omega) (by omega))) ?_
  refine Bod.aldnG dc_228_37 (by repeat (first | exact q0 | exact sm_get_p1 | exact sm_get_p2e | refine sm_get_p1m (by decide) (by decide) ?_ | refine sm_get_p1n (by decide) rfl ?_ | refine sm_get_p2n (by decide) (by decide) rfl ?_ | refine sm_get_p2m (by decide) (by decide) (by decide) ?_)) ?_
  refine Bod.get dc_228_38 fr_228_9 (mk_49 _) rfl ?_
  refine Bod.ildnG dc_228_41 (by repeat (first | exact q0 | exact sm_get_p1 | exact sm_get_p2e | refine sm_get_p1m (by decide) (by decide) ?_ | refine sm_get_p1n (by decide) rfl ?_ | refine sm_get_p2n (by decide) (by decide) rfl ?_ | refine sm_get_p2m (by decide) (by decide) (by decide) ?_)) ?_
  refine Bod.virt (r := []) dc_228_42 kr_228_94 ⟨Or.inr rfl, ow_138, cl_2⟩ (by rw [np_138]; rfl) (by rw [np_138]; rfl) (ob_of (mk_2 _)) (Nat.le_of_ble_eq_true rfl) (c3  ) ?_
  show Bod _ _ _ _ [_] _ _ _
  refine Bod.ic 2 (by decide) dc_228_45 ?_
  refine Bod.icF dc_228_46 rfl (k2_ne_F (k_eq a2 2 rfl rfl (by omega))) ?_
  refine Bod.aldnG dc_228_49 (by repeat (first | exact q0 | exact sm_get_p1 | exact sm_get_p2e | refine sm_get_p1m (by decide) (by decide) ?_ | refine sm_get_p1n (by decide) rfl ?_ | refine sm_get_p2n (by decide) (by decide) rfl ?_ | refine sm_get_p2m (by decide) (by decide) (by decide) ?_)) ?_
  refine Bod.ildnG dc_228_50 (by repeat (first | exact q0 | exact sm_get_p1 | exact sm_get_p2e | refine sm_get_p1m (by decide) (by decide) ?_ | refine sm_get_p1n (by decide) rfl ?_ | refine sm_get_p2n (by decide) (by decide) rfl ?_ | refine sm_get_p2m (by decide) (by decide) (by decide) ?_)) ?_
  refine Bod.virt (r := []) dc_228_51 kr_228_158 ⟨Or.inl rfl, ow_229, cl_0⟩ (by rw [np_229]; rfl) (by rw [np_229]; rfl) (ob_of (mk_49 _)) (Nat.le_of_ble_eq_true rfl) (c4  ) ?_
  show Bod _ _ _ _ [] _ _ _
  refine Bod.go dc_228_54 rfl ?_
  refine Bod.ildnG dc_228_127 (by repeat (first | exact q2 | exact sm_get_p1 | exact sm_get_p2e | refine sm_get_p1m (by decide) (by decide) ?_ | refine sm_get_p1n (by decide) rfl ?_ | refine sm_get_p2n (by decide) (by decide) rfl ?_ | refine sm_get_p2m (by decide) (by decide) (by decide) ?_)) ?_
  refine Bod.ifF dc_228_128 rfl (k1_le_F (ni + 1) rfl (by omega) (by omega)) ?_
  refine Bod.aldnG dc_228_131 (by repeat (first | exact q0 | exact sm_get_p1 | exact sm_get_p2e | refine sm_get_p1m (by decide) (by decide) ?_ | refine sm_get_p1n (by decide) rfl ?_ | refine sm_get_p2n (by decide) (by decide) rfl ?_ | refine sm_get_p2m (by decide) (by decide) (by decide) ?_)) ?_
  refine Bod.bip 32 (by decide) dc_228_132 ?_
  refine Bod.virt (r := []) dc_228_134 kr_228_171 ⟨Or.inl rfl, ow_230, cl_0⟩ (by rw [np_230]; rfl) (by rw [np_230]; rfl) (ob_of (mk_49 _)) (Nat.le_of_ble_eq_true rfl) (c5  ) ?_
  show Bod _ _ _ _ [] _ _ _
  refine Bod.incN ni nI_dec dc_228_137 (by rw [ml_228]; exact Nat.le_of_ble_eq_true rfl) (by repeat (first | exact q2 | exact sm_get_p1 | exact sm_get_p2e | refine sm_get_p1m (by decide) (by decide) ?_ | refine sm_get_p1n (by decide) rfl ?_ | refine sm_get_p2n (by decide) (by decide) rfl ?_ | refine sm_get_p2m (by decide) (by decide) (by decide) ?_)) ?_
  refine Bod.go dc_228_140 rfl ?_
  exact hB _ (by repeat (first | exact q0 | exact sm_get_p1 | exact sm_get_p2e | refine sm_get_p1m (by decide) (by decide) ?_ | refine sm_get_p1n (by decide) rfl ?_ | refine sm_get_p2n (by decide) (by decide) rfl ?_ | refine sm_get_p2m (by decide) (by decide) (by decide) ?_)) (by repeat (first | exact q1 | exact sm_get_p1 | exact sm_get_p2e | refine sm_get_p1m (by decide) (by decide) ?_ | refine sm_get_p1n (by decide) rfl ?_ | refine sm_get_p2n (by decide) (by decide) rfl ?_ | refine sm_get_p2m (by decide) (by decide) (by decide) ?_)) (by repeat (first | exact q0 | exact sm_get_p1 | exact sm_get_p2e | refine sm_get_p1m (by decide) (by decide) ?_ | refine sm_get_p1n (by decide) rfl ?_ | refine sm_get_p2n (by decide) (by decide) rfl ?_ | refine sm_get_p2m (by decide) (by decide) (by decide) ?_))
theorem mPrM_1 {d : Nat} {S Sf : cS} {v : Option Value} {lv : sm_L} {gv : Nat} {S1 : cS} {a : Nat} {S2 : cS} {a1 : Nat} {S3 : cS} (q0 : sm_get lv 0 = some (.ref 49)) (q1 : sm_get lv 1 = some (.int (nI gv))) (q2 : sm_get lv 2 = some (.int (nI 0))) (mgv : gv < 2 ^ 20) (ma : a < 2 ^ 20) (c1 : Ans (d + 8) 136 [.ref 46, .int (nI 0)] S (some (.int (nI a))) S1) (ma1 : a1 < 2 ^ 20) (c2 : Ans (d + 8) 138 [.ref 2, .int (nI a)] S1 (some (.int (nI a1))) S2) (b1 : a1 = 1) (c3 : Ans (d + 8) 229 [.ref 49, .int (nI a)] S2 none S3) (hB : ∀ lv1 : sm_L, sm_get lv1 0 = some (.ref 49) → sm_get lv1 1 = some (.int (nI gv)) → sm_get lv1 2 = some (.int (Int32.ofInt (-1))) → Bod (d + 8) 228 12 lv1 [] (S3) v Sf) : Bod (d + 8) 228 12 lv [] S v Sf := by
  refine Bod.ildnG dc_228_12 (by repeat (first | exact q2 | exact sm_get_p1 | exact sm_get_p2e | refine sm_get_p1m (by decide) (by decide) ?_ | refine sm_get_p1n (by decide) rfl ?_ | refine sm_get_p2n (by decide) (by decide) rfl ?_ | refine sm_get_p2m (by decide) (by decide) (by decide) ?_)) ?_
  refine Bod.ifF dc_228_13 rfl (k1_lt_F 0 rfl (by omega)) ?_
  refine Bod.aldnG dc_228_16 (by repeat (first | exact q0 | exact sm_get_p1 | exact sm_get_p2e | refine sm_get_p1m (by decide) (by decide) ?_ | refine sm_get_p1n (by decide) rfl ?_ | refine sm_get_p2n (by decide) (by decide) rfl ?_ | refine sm_get_p2m (by decide) (by decide) (by decide) ?_)) ?_
  refine Bod.get dc_228_17 fr_228_15 (mk_49 _) rfl ?_
  refine Bod.ildnG dc_228_20 (by repeat (first | exact q2 | exact sm_get_p1 | exact sm_get_p2e | refine sm_get_p1m (by decide) (by decide) ?_ | refine sm_get_p1n (by decide) rfl ?_ | refine sm_get_p2n (by decide) (by decide) rfl ?_ | refine sm_get_p2m (by decide) (by decide) (by decide) ?_)) ?_
  refine Bod.virt (r := []) dc_228_21 kr_228_91 ⟨Or.inr rfl, ow_136, cl_9⟩ (by rw [np_136]; rfl) (by rw [np_136]; rfl) (ob_of (mk_46 _)) (Nat.le_of_ble_eq_true rfl) (c1  ) ?_
  show Bod _ _ _ _ [_] _ _ _
  refine Bod.istn dc_228_24 (by rw [ml_228]; exact Nat.le_of_ble_eq_true rfl) ?_
  refine Bod.aldnG dc_228_25 (by repeat (first | exact q0 | exact sm_get_p1 | exact sm_get_p2e | refine sm_get_p1m (by decide) (by decide) ?_ | refine sm_get_p1n (by decide) rfl ?_ | refine sm_get_p2n (by decide) (by decide) rfl ?_ | refine sm_get_p2m (by decide) (by decide) (by decide) ?_)) ?_
  refine Bod.get dc_228_26 fr_228_9 (mk_49 _) rfl ?_
  refine Bod.ildnG dc_228_29 (by repeat (first | exact q0 | exact sm_get_p1 | exact sm_get_p2e | refine sm_get_p1m (by decide) (by decide) ?_ | refine sm_get_p1n (by decide) rfl ?_ | refine sm_get_p2n (by decide) (by decide) rfl ?_ | refine sm_get_p2m (by decide) (by decide) (by decide) ?_)) ?_
  refine Bod.virt (r := []) dc_228_30 kr_228_94 ⟨Or.inr rfl, ow_138, cl_2⟩ (by rw [np_138]; rfl) (by rw [np_138]; rfl) (ob_of (mk_2 _)) (Nat.le_of_ble_eq_true rfl) (c2  ) ?_
  show Bod _ _ _ _ [_] _ _ _
  refine Bod.ic 1 (by decide) dc_228_33 ?_
  refine Bod.icT dc_228_34 rfl (k2_eq_T (k_eq a1 1 rfl rfl (by omega))) ?_
  refine Bod.aldnG dc_228_49 (by repeat (first | exact q0 | exact sm_get_p1 | exact sm_get_p2e | refine sm_get_p1m (by decide) (by decide) ?_ | refine sm_get_p1n (by decide) rfl ?_ | refine sm_get_p2n (by decide) (by decide) rfl ?_ | refine sm_get_p2m (by decide) (by decide) (by decide) ?_)) ?_
  refine Bod.ildnG dc_228_50 (by repeat (first | exact q0 | exact sm_get_p1 | exact sm_get_p2e | refine sm_get_p1m (by decide) (by decide) ?_ | refine sm_get_p1n (by decide) rfl ?_ | refine sm_get_p2n (by decide) (by decide) rfl ?_ | refine sm_get_p2m (by decide) (by decide) (by decide) ?_)) ?_
  refine Bod.virt (r := []) dc_228_51 kr_228_158 ⟨Or.inl rfl, ow_229, cl_0⟩ (by rw [np_229]; rfl) (by rw [np_229]; rfl) (ob_of (mk_49 _)) (Nat.le_of_ble_eq_true rfl) (c3  ) ?_
  show Bod _ _ _ _ [] _ _ _
  refine Bod.go dc_228_54 rfl ?_
  refine Bod.ildnG dc_228_127 (by repeat (first | exact q2 | exact sm_get_p1 | exact sm_get_p2e | refine sm_get_p1m (by decide) (by decide) ?_ | refine sm_get_p1n (by decide) rfl ?_ | refine sm_get_p2n (by decide) (by decide) rfl ?_ | refine sm_get_p2m (by decide) (by decide) (by decide) ?_)) ?_
  refine Bod.ifT dc_228_128 rfl (k1_le_T (k_eq 0 0 (by first | assumption | (simp (disch := omega) only [rI, rIe, rA, rIA, rLA, rJA, rVI, rQI, rVA, rQA, upd_at,  rAI, rLI, rJI, nI_add, pk_sub, kc_0, kc_1, kc_2, kc_3, kc_4, kc_5, reduceIte, Nat.reduceEqDiff, Nat.add_zero, rI_hold, rI_hold, rL_hold]; done) | (simp (disch := omega) only [rI, rIe, rA, rIA, rLA, rJA, rVI, rQI, rVA, rQA, upd_at,  rAI, rLI, rJI, nI_add, pk_sub, kc_0, kc_1, kc_2, kc_3, kc_4, kc_5, reduceIte, Nat.reduceEqDiff, Nat.add_zero, rI_hold, rI_hold, rL_hold]; exact congrArg nI (by omega))) rfl (by omega))) ?_
  refine Bod.incM dc_228_137 (by rw [ml_228]; exact Nat.le_of_ble_eq_true rfl) (by repeat (first | exact q2 | exact sm_get_p1 | exact sm_get_p2e | refine sm_get_p1m (by decide) (by decide) ?_ | refine sm_get_p1n (by decide) rfl ?_ | refine sm_get_p2n (by decide) (by decide) rfl ?_ | refine sm_get_p2m (by decide) (by decide) (by decide) ?_)) ?_
  refine Bod.go dc_228_140 rfl ?_
  exact hB _ (by repeat (first | exact q0 | exact sm_get_p1 | exact sm_get_p2e | refine sm_get_p1m (by decide) (by decide) ?_ | refine sm_get_p1n (by decide) rfl ?_ | refine sm_get_p2n (by decide) (by decide) rfl ?_ | refine sm_get_p2m (by decide) (by decide) (by decide) ?_)) (by repeat (first | exact q1 | exact sm_get_p1 | exact sm_get_p2e | refine sm_get_p1m (by decide) (by decide) ?_ | refine sm_get_p1n (by decide) rfl ?_ | refine sm_get_p2n (by decide) (by decide) rfl ?_ | refine sm_get_p2m (by decide) (by decide) (by decide) ?_)) (by repeat (first | exact q0 | exact sm_get_p1 | exact sm_get_p2e | refine sm_get_p1m (by decide) (by decide) ?_ | refine sm_get_p1n (by decide) rfl ?_ | refine sm_get_p2n (by decide) (by decide) rfl ?_ | refine sm_get_p2m (by decide) (by decide) (by decide) ?_))
theorem mPrM_2 {d : Nat} {S Sf : cS} {v : Option Value} {lv : sm_L} {gv : Nat} {S1 : cS} {a : Nat} {S2 : cS} {a1 : Nat} {S3 : cS} {a2 : Nat} {S4 : cS} {u : Int64} {S5 : cS} {rb : Int32} {S6 : cS} {u1 : Int64} {S7 : cS} {u2 : Int64} {S8 : cS} (q0 : sm_get lv 0 = some (.ref 49)) (q1 : sm_get lv 1 = some (.int (nI gv))) (q2 : sm_get lv 2 = some (.int (nI 0))) (mgv : gv < 2 ^ 20) (ma : a < 2 ^ 20) (c1 : Ans (d + 8) 136 [.ref 46, .int (nI 0)] S (some (.int (nI a))) S1) (ma1 : a1 < 2 ^ 20) (c2 : Ans (d + 8) 138 [.ref 2, .int (nI a)] S1 (some (.int (nI a1))) S2) (b1 : a1 ≠ 1) (ma2 : a2 < 2 ^ 20) (c3 : Ans (d + 8) 138 [.ref 2, .int (nI a)] S2 (some (.int (nI a2))) S3) (b2 : a2 ≠ 2) (c4 : Ans (d + 8) 132 [.ref 46, .int (nI 0)] S3 (some (.long u)) S4) (c5 : Ans (d + 8) 134 [.long u] S4 (some (.int rb)) S5) (w12 : rb = nI 3) (c6 : Ans (d + 8) 132 [.ref 46, .int (nI 0)] S5 (some (.long u1)) S6) (c7 : Ans (d + 8) 135 [.ref 46, .int (nI 0)] S6 (some (.long u2)) S7) (c8 : Ans (d + 8) 238 [.ref 49, .long u1, .long u2] S7 none S8) (hB : ∀ lv1 : sm_L, sm_get lv1 0 = some (.ref 49) → sm_get lv1 1 = some (.int (nI gv)) → sm_get lv1 2 = some (.int (Int32.ofInt (-1))) → Bod (d + 8) 228 12 lv1 [] (S8) v Sf) : Bod (d + 8) 228 12 lv [] S v Sf := by
  refine Bod.ildnG dc_228_12 (by repeat (first | exact q2 | exact sm_get_p1 | exact sm_get_p2e | refine sm_get_p1m (by decide) (by decide) ?_ | refine sm_get_p1n (by decide) rfl ?_ | refine sm_get_p2n (by decide) (by decide) rfl ?_ | refine sm_get_p2m (by decide) (by decide) (by decide) ?_)) ?_
  refine Bod.ifF dc_228_13 rfl (k1_lt_F 0 rfl (by omega)) ?_
  refine Bod.aldnG dc_228_16 (by repeat (first | exact q0 | exact sm_get_p1 | exact sm_get_p2e | refine sm_get_p1m (by decide) (by decide) ?_ | refine sm_get_p1n (by decide) rfl ?_ | refine sm_get_p2n (by decide) (by decide) rfl ?_ | refine sm_get_p2m (by decide) (by decide) (by decide) ?_)) ?_
  refine Bod.get dc_228_17 fr_228_15 (mk_49 _) rfl ?_
  refine Bod.ildnG dc_228_20 (by repeat (first | exact q2 | exact sm_get_p1 | exact sm_get_p2e | refine sm_get_p1m (by decide) (by decide) ?_ | refine sm_get_p1n (by decide) rfl ?_ | refine sm_get_p2n (by decide) (by decide) rfl ?_ | refine sm_get_p2m (by decide) (by decide) (by decide) ?_)) ?_
  refine Bod.virt (r := []) dc_228_21 kr_228_91 ⟨Or.inr rfl, ow_136, cl_9⟩ (by rw [np_136]; rfl) (by rw [np_136]; rfl) (ob_of (mk_46 _)) (Nat.le_of_ble_eq_true rfl) (c1  ) ?_
  show Bod _ _ _ _ [_] _ _ _
  refine Bod.istn dc_228_24 (by rw [ml_228]; exact Nat.le_of_ble_eq_true rfl) ?_
  refine Bod.aldnG dc_228_25 (by repeat (first | exact q0 | exact sm_get_p1 | exact sm_get_p2e | refine sm_get_p1m (by decide) (by decide) ?_ | refine sm_get_p1n (by decide) rfl ?_ | refine sm_get_p2n (by decide) (by decide) rfl ?_ | refine sm_get_p2m (by decide) (by decide) (by decide) ?_)) ?_
  refine Bod.get dc_228_26 fr_228_9 (mk_49 _) rfl ?_
  refine Bod.ildnG dc_228_29 (by repeat (first | exact q0 | exact sm_get_p1 | exact sm_get_p2e | refine sm_get_p1m (by decide) (by decide) ?_ | refine sm_get_p1n (by decide) rfl ?_ | refine sm_get_p2n (by decide) (by decide) rfl ?_ | refine sm_get_p2m (by decide) (by decide) (by decide) ?_)) ?_
  refine Bod.virt (r := []) dc_228_30 kr_228_94 ⟨Or.inr rfl, ow_138, cl_2⟩ (by rw [np_138]; rfl) (by rw [np_138]; rfl) (ob_of (mk_2 _)) (Nat.le_of_ble_eq_true rfl) (c2  ) ?_
  show Bod _ _ _ _ [_] _ _ _
  refine Bod.ic 1 (by decide) dc_228_33 ?_
  refine Bod.icF dc_228_34 rfl (k2_eq_F (k_ne a1 1 rfl rfl (by omega) (by omega) (by omega))) ?_
  refine Bod.aldnG dc_228_37 (by repeat (first | exact q0 | exact sm_get_p1 | exact sm_get_p2e | refine sm_get_p1m (by decide) (by decide) ?_ | refine sm_get_p1n (by decide) rfl ?_ | refine sm_get_p2n (by decide) (by decide) rfl ?_ | refine sm_get_p2m (by decide) (by decide) (by decide) ?_)) ?_
  refine Bod.get dc_228_38 fr_228_9 (mk_49 _) rfl ?_
  refine Bod.ildnG dc_228_41 (by repeat (first | exact q0 | exact sm_get_p1 | exact sm_get_p2e | refine sm_get_p1m (by decide) (by decide) ?_ | refine sm_get_p1n (by decide) rfl ?_ | refine sm_get_p2n (by decide) (by decide) rfl ?_ | refine sm_get_p2m (by decide) (by decide) (by decide) ?_)) ?_
  refine Bod.virt (r := []) dc_228_42 kr_228_94 ⟨Or.inr rfl, ow_138, cl_2⟩ (by rw [np_138]; rfl) (by rw [np_138]; rfl) (ob_of (mk_2 _)) (Nat.le_of_ble_eq_true rfl) (c3  ) ?_
  show Bod _ _ _ _ [_] _ _ _
  refine Bod.ic 2 (by decide) dc_228_45 ?_
  refine Bod.icT dc_228_46 rfl (k2_ne_T (k_ne a2 2 rfl rfl (by omega) (by omega) (by omega))) ?_
  refine Bod.aldnG dc_228_57 (by repeat (first | exact q0 | exact sm_get_p1 | exact sm_get_p2e | refine sm_get_p1m (by decide) (by decide) ?_ | refine sm_get_p1n (by decide) rfl ?_ | refine sm_get_p2n (by decide) (by decide) rfl ?_ | refine sm_get_p2m (by decide) (by decide) (by decide) ?_)) ?_
  refine Bod.get dc_228_58 fr_228_15 (mk_49 _) rfl ?_
  refine Bod.ildnG dc_228_61 (by repeat (first | exact q2 | exact sm_get_p1 | exact sm_get_p2e | refine sm_get_p1m (by decide) (by decide) ?_ | refine sm_get_p1n (by decide) rfl ?_ | refine sm_get_p2n (by decide) (by decide) rfl ?_ | refine sm_get_p2m (by decide) (by decide) (by decide) ?_)) ?_
  refine Bod.virt (r := []) dc_228_62 kr_228_80 ⟨Or.inr rfl, ow_132, cl_9⟩ (by rw [np_132]; rfl) (by rw [np_132]; rfl) (ob_of (mk_46 _)) (Nat.le_of_ble_eq_true rfl) (c4  ) ?_
  show Bod _ _ _ _ [_] _ _ _
  refine Bod.stat (r := []) dc_228_65 kr_228_84 (Or.inr rfl) (by rw [np_134]; rfl) (by rw [np_134]; rfl) (by rw [np_134]; exact Nat.le_of_ble_eq_true rfl) (Nat.le_of_ble_eq_true rfl) (c5  ) ?_
  show Bod _ _ _ _ [_] _ _ _
  refine Bod.ic 3 (by decide) dc_228_68 ?_
  refine Bod.icF dc_228_69 rfl (c2_ne_F w12) ?_
  refine Bod.aldnG dc_228_72 (by repeat (first | exact q0 | exact sm_get_p1 | exact sm_get_p2e | refine sm_get_p1m (by decide) (by decide) ?_ | refine sm_get_p1n (by decide) rfl ?_ | refine sm_get_p2n (by decide) (by decide) rfl ?_ | refine sm_get_p2m (by decide) (by decide) (by decide) ?_)) ?_
  refine Bod.aldnG dc_228_73 (by repeat (first | exact q0 | exact sm_get_p1 | exact sm_get_p2e | refine sm_get_p1m (by decide) (by decide) ?_ | refine sm_get_p1n (by decide) rfl ?_ | refine sm_get_p2n (by decide) (by decide) rfl ?_ | refine sm_get_p2m (by decide) (by decide) (by decide) ?_)) ?_
  refine Bod.get dc_228_74 fr_228_15 (mk_49 _) rfl ?_
  refine Bod.ildnG dc_228_77 (by repeat (first | exact q2 | exact sm_get_p1 | exact sm_get_p2e | refine sm_get_p1m (by decide) (by decide) ?_ | refine sm_get_p1n (by decide) rfl ?_ | refine sm_get_p2n (by decide) (by decide) rfl ?_ | refine sm_get_p2m (by decide) (by decide) (by decide) ?_)) ?_
  refine Bod.virt (r := [_]) dc_228_78 kr_228_80 ⟨Or.inr rfl, ow_132, cl_9⟩ (by rw [np_132]; rfl) (by rw [np_132]; rfl) (ob_of (mk_46 _)) (Nat.le_of_ble_eq_true rfl) (c6  ) ?_
  show Bod _ _ _ _ [_, _] _ _ _
  refine Bod.aldnG dc_228_81 (by repeat (first | exact q0 | exact sm_get_p1 | exact sm_get_p2e | refine sm_get_p1m (by decide) (by decide) ?_ | refine sm_get_p1n (by decide) rfl ?_ | refine sm_get_p2n (by decide) (by decide) rfl ?_ | refine sm_get_p2m (by decide) (by decide) (by decide) ?_)) ?_
  refine Bod.get dc_228_82 fr_228_15 (mk_49 _) rfl ?_
  refine Bod.ildnG dc_228_85 (by repeat (first | exact q2 | exact sm_get_p1 | exact sm_get_p2e | refine sm_get_p1m (by decide) (by decide) ?_ | refine sm_get_p1n (by decide) rfl ?_ | refine sm_get_p2n (by decide) (by decide) rfl ?_ | refine sm_get_p2m (by decide) (by decide) (by decide) ?_)) ?_
  refine Bod.virt (r := [_, _]) dc_228_86 kr_228_100 ⟨Or.inr rfl, ow_135, cl_9⟩ (by rw [np_135]; rfl) (by rw [np_135]; rfl) (ob_of (mk_46 _)) (Nat.le_of_ble_eq_true rfl) (c7  ) ?_
  show Bod _ _ _ _ [_, _, _] _ _ _
  refine Bod.virt (r := []) dc_228_89 kr_228_162 ⟨Or.inl rfl, ow_238, cl_0⟩ (by rw [np_238]; rfl) (by rw [np_238]; rfl) (ob_of (mk_49 _)) (Nat.le_of_ble_eq_true rfl) (c8  ) ?_
  show Bod _ _ _ _ [] _ _ _
  refine Bod.go dc_228_92 rfl ?_
  refine Bod.ildnG dc_228_127 (by repeat (first | exact q2 | exact sm_get_p1 | exact sm_get_p2e | refine sm_get_p1m (by decide) (by decide) ?_ | refine sm_get_p1n (by decide) rfl ?_ | refine sm_get_p2n (by decide) (by decide) rfl ?_ | refine sm_get_p2m (by decide) (by decide) (by decide) ?_)) ?_
  refine Bod.ifT dc_228_128 rfl (k1_le_T (k_eq 0 0 (by first | assumption | (simp (disch := omega) only [rI, rIe, rA, rIA, rLA, rJA, rVI, rQI, rVA, rQA, upd_at,  rAI, rLI, rJI, nI_add, pk_sub, kc_0, kc_1, kc_2, kc_3, kc_4, kc_5, reduceIte, Nat.reduceEqDiff, Nat.add_zero, rI_hold, rI_hold, rL_hold]; done) | (simp (disch := omega) only [rI, rIe, rA, rIA, rLA, rJA, rVI, rQI, rVA, rQA, upd_at,  rAI, rLI, rJI, nI_add, pk_sub, kc_0, kc_1, kc_2, kc_3, kc_4, kc_5, reduceIte, Nat.reduceEqDiff, Nat.add_zero, rI_hold, rI_hold, rL_hold]; exact congrArg nI (by omega))) rfl (by omega))) ?_
  refine Bod.incM dc_228_137 (by rw [ml_228]; exact Nat.le_of_ble_eq_true rfl) (by repeat (first | exact q2 | exact sm_get_p1 | exact sm_get_p2e | refine sm_get_p1m (by decide) (by decide) ?_ | refine sm_get_p1n (by decide) rfl ?_ | refine sm_get_p2n (by decide) (by decide) rfl ?_ | refine sm_get_p2m (by decide) (by decide) (by decide) ?_)) ?_
  refine Bod.go dc_228_140 rfl ?_
  exact hB _ (by repeat (first | exact q0 | exact sm_get_p1 | exact sm_get_p2e | refine sm_get_p1m (by decide) (by decide) ?_ | refine sm_get_p1n (by decide) rfl ?_ | refine sm_get_p2n (by decide) (by decide) rfl ?_ | refine sm_get_p2m (by decide) (by decide) (by decide) ?_)) (by repeat (first | exact q1 | exact sm_get_p1 | exact sm_get_p2e | refine sm_get_p1m (by decide) (by decide) ?_ | refine sm_get_p1n (by decide) rfl ?_ | refine sm_get_p2n (by decide) (by decide) rfl ?_ | refine sm_get_p2m (by decide) (by decide) (by decide) ?_)) (by repeat (first | exact q0 | exact sm_get_p1 | exact sm_get_p2e | refine sm_get_p1m (by decide) (by decide) ?_ | refine sm_get_p1n (by decide) rfl ?_ | refine sm_get_p2n (by decide) (by decide) rfl ?_ | refine sm_get_p2m (by decide) (by decide) (by decide) ?_))
theorem mPrM_3 {d : Nat} {S Sf : cS} {v : Option Value} {lv : sm_L} {gv : Nat} {S1 : cS} {a : Nat} {S2 : cS} {a1 : Nat} {S3 : cS} {a2 : Nat} {S4 : cS} {u : Int64} {S5 : cS} {rb : Int32} {S6 : cS} {u1 : Int64} {S7 : cS} {u2 : Int64} {S8 : cS} (q0 : sm_get lv 0 = some (.ref 49)) (q1 : sm_get lv 1 = some (.int (nI gv))) (q2 : sm_get lv 2 = some (.int (nI 0))) (mgv : gv < 2 ^ 20) (ma : a < 2 ^ 20) (c1 : Ans (d + 8) 136 [.ref 46, .int (nI 0)] S (some (.int (nI a))) S1) (ma1 : a1 < 2 ^ 20) (c2 : Ans (d + 8) 138 [.ref 2, .int (nI a)] S1 (some (.int (nI a1))) S2) (b1 : a1 ≠ 1) (ma2 : a2 < 2 ^ 20) (c3 : Ans (d + 8) 138 [.ref 2, .int (nI a)] S2 (some (.int (nI a2))) S3) (b2 : a2 ≠ 2) (c4 : Ans (d + 8) 132 [.ref 46, .int (nI 0)] S3 (some (.long u)) S4) (c5 : Ans (d + 8) 134 [.long u] S4 (some (.int rb)) S5) (w12 : rb ≠ nI 3) (b3 : a = 0) (c6 : Ans (d + 8) 132 [.ref 46, .int (nI 0)] S5 (some (.long u1)) S6) (c7 : Ans (d + 8) 135 [.ref 46, .int (nI 0)] S6 (some (.long u2)) S7) (c8 : Ans (d + 8) 234 [.ref 49, .long u1, .long u2] S7 none S8) (hB : ∀ lv1 : sm_L, sm_get lv1 0 = some (.ref 49) → sm_get lv1 1 = some (.int (nI gv)) → sm_get lv1 2 = some (.int (Int32.ofInt (-1))) → Bod (d + 8) 228 12 lv1 [] (S8) v Sf) : Bod (d + 8) 228 12 lv [] S v Sf := by
  refine Bod.ildnG dc_228_12 (by repeat (first | exact q2 | exact sm_get_p1 | exact sm_get_p2e | refine sm_get_p1m (by decide) (by decide) ?_ | refine sm_get_p1n (by decide) rfl ?_ | refine sm_get_p2n (by decide) (by decide) rfl ?_ | refine sm_get_p2m (by decide) (by decide) (by decide) ?_)) ?_
  refine Bod.ifF dc_228_13 rfl (k1_lt_F 0 rfl (by omega)) ?_
  refine Bod.aldnG dc_228_16 (by repeat (first | exact q0 | exact sm_get_p1 | exact sm_get_p2e | refine sm_get_p1m (by decide) (by decide) ?_ | refine sm_get_p1n (by decide) rfl ?_ | refine sm_get_p2n (by decide) (by decide) rfl ?_ | refine sm_get_p2m (by decide) (by decide) (by decide) ?_)) ?_
  refine Bod.get dc_228_17 fr_228_15 (mk_49 _) rfl ?_
  refine Bod.ildnG dc_228_20 (by repeat (first | exact q2 | exact sm_get_p1 | exact sm_get_p2e | refine sm_get_p1m (by decide) (by decide) ?_ | refine sm_get_p1n (by decide) rfl ?_ | refine sm_get_p2n (by decide) (by decide) rfl ?_ | refine sm_get_p2m (by decide) (by decide) (by decide) ?_)) ?_
  refine Bod.virt (r := []) dc_228_21 kr_228_91 ⟨Or.inr rfl, ow_136, cl_9⟩ (by rw [np_136]; rfl) (by rw [np_136]; rfl) (ob_of (mk_46 _)) (Nat.le_of_ble_eq_true rfl) (c1  ) ?_
  show Bod _ _ _ _ [_] _ _ _
  refine Bod.istn dc_228_24 (by rw [ml_228]; exact Nat.le_of_ble_eq_true rfl) ?_
  refine Bod.aldnG dc_228_25 (by repeat (first | exact q0 | exact sm_get_p1 | exact sm_get_p2e | refine sm_get_p1m (by decide) (by decide) ?_ | refine sm_get_p1n (by decide) rfl ?_ | refine sm_get_p2n (by decide) (by decide) rfl ?_ | refine sm_get_p2m (by decide) (by decide) (by decide) ?_)) ?_
  refine Bod.get dc_228_26 fr_228_9 (mk_49 _) rfl ?_
  refine Bod.ildnG dc_228_29 (by repeat (first | exact q0 | exact sm_get_p1 | exact sm_get_p2e | refine sm_get_p1m (by decide) (by decide) ?_ | refine sm_get_p1n (by decide) rfl ?_ | refine sm_get_p2n (by decide) (by decide) rfl ?_ | refine sm_get_p2m (by decide) (by decide) (by decide) ?_)) ?_
  refine Bod.virt (r := []) dc_228_30 kr_228_94 ⟨Or.inr rfl, ow_138, cl_2⟩ (by rw [np_138]; rfl) (by rw [np_138]; rfl) (ob_of (mk_2 _)) (Nat.le_of_ble_eq_true rfl) (c2  ) ?_
  show Bod _ _ _ _ [_] _ _ _
  refine Bod.ic 1 (by decide) dc_228_33 ?_
  refine Bod.icF dc_228_34 rfl (k2_eq_F (k_ne a1 1 rfl rfl (by omega) (by omega) (by omega))) ?_
  refine Bod.aldnG dc_228_37 (by repeat (first | exact q0 | exact sm_get_p1 | exact sm_get_p2e | refine sm_get_p1m (by decide) (by decide) ?_ | refine sm_get_p1n (by decide) rfl ?_ | refine sm_get_p2n (by decide) (by decide) rfl ?_ | refine sm_get_p2m (by decide) (by decide) (by decide) ?_)) ?_
  refine Bod.get dc_228_38 fr_228_9 (mk_49 _) rfl ?_
  refine Bod.ildnG dc_228_41 (by repeat (first | exact q0 | exact sm_get_p1 | exact sm_get_p2e | refine sm_get_p1m (by decide) (by decide) ?_ | refine sm_get_p1n (by decide) rfl ?_ | refine sm_get_p2n (by decide) (by decide) rfl ?_ | refine sm_get_p2m (by decide) (by decide) (by decide) ?_)) ?_
  refine Bod.virt (r := []) dc_228_42 kr_228_94 ⟨Or.inr rfl, ow_138, cl_2⟩ (by rw [np_138]; rfl) (by rw [np_138]; rfl) (ob_of (mk_2 _)) (Nat.le_of_ble_eq_true rfl) (c3  ) ?_
  show Bod _ _ _ _ [_] _ _ _
  refine Bod.ic 2 (by decide) dc_228_45 ?_
  refine Bod.icT dc_228_46 rfl (k2_ne_T (k_ne a2 2 rfl rfl (by omega) (by omega) (by omega))) ?_
  refine Bod.aldnG dc_228_57 (by repeat (first | exact q0 | exact sm_get_p1 | exact sm_get_p2e | refine sm_get_p1m (by decide) (by decide) ?_ | refine sm_get_p1n (by decide) rfl ?_ | refine sm_get_p2n (by decide) (by decide) rfl ?_ | refine sm_get_p2m (by decide) (by decide) (by decide) ?_)) ?_
  refine Bod.get dc_228_58 fr_228_15 (mk_49 _) rfl ?_
  refine Bod.ildnG dc_228_61 (by repeat (first | exact q2 | exact sm_get_p1 | exact sm_get_p2e | refine sm_get_p1m (by decide) (by decide) ?_ | refine sm_get_p1n (by decide) rfl ?_ | refine sm_get_p2n (by decide) (by decide) rfl ?_ | refine sm_get_p2m (by decide) (by decide) (by decide) ?_)) ?_
  refine Bod.virt (r := []) dc_228_62 kr_228_80 ⟨Or.inr rfl, ow_132, cl_9⟩ (by rw [np_132]; rfl) (by rw [np_132]; rfl) (ob_of (mk_46 _)) (Nat.le_of_ble_eq_true rfl) (c4  ) ?_
  show Bod _ _ _ _ [_] _ _ _
  refine Bod.stat (r := []) dc_228_65 kr_228_84 (Or.inr rfl) (by rw [np_134]; rfl) (by rw [np_134]; rfl) (by rw [np_134]; exact Nat.le_of_ble_eq_true rfl) (Nat.le_of_ble_eq_true rfl) (c5  ) ?_
  show Bod _ _ _ _ [_] _ _ _
  refine Bod.ic 3 (by decide) dc_228_68 ?_
  refine Bod.icT dc_228_69 rfl (c2_ne_T w12) ?_
  refine Bod.ildnG dc_228_95 (by repeat (first | exact q0 | exact sm_get_p1 | exact sm_get_p2e | refine sm_get_p1m (by decide) (by decide) ?_ | refine sm_get_p1n (by decide) rfl ?_ | refine sm_get_p2n (by decide) (by decide) rfl ?_ | refine sm_get_p2m (by decide) (by decide) (by decide) ?_)) ?_
  refine Bod.ifT dc_228_96 rfl (k1_eq_T (k_eq a 0 rfl rfl (by omega))) ?_
  refine Bod.aldnG dc_228_107 (by repeat (first | exact q0 | exact sm_get_p1 | exact sm_get_p2e | refine sm_get_p1m (by decide) (by decide) ?_ | refine sm_get_p1n (by decide) rfl ?_ | refine sm_get_p2n (by decide) (by decide) rfl ?_ | refine sm_get_p2m (by decide) (by decide) (by decide) ?_)) ?_
  refine Bod.aldnG dc_228_108 (by repeat (first | exact q0 | exact sm_get_p1 | exact sm_get_p2e | refine sm_get_p1m (by decide) (by decide) ?_ | refine sm_get_p1n (by decide) rfl ?_ | refine sm_get_p2n (by decide) (by decide) rfl ?_ | refine sm_get_p2m (by decide) (by decide) (by decide) ?_)) ?_
  refine Bod.get dc_228_109 fr_228_15 (mk_49 _) rfl ?_
  refine Bod.ildnG dc_228_112 (by repeat (first | exact q2 | exact sm_get_p1 | exact sm_get_p2e | refine sm_get_p1m (by decide) (by decide) ?_ | refine sm_get_p1n (by decide) rfl ?_ | refine sm_get_p2n (by decide) (by decide) rfl ?_ | refine sm_get_p2m (by decide) (by decide) (by decide) ?_)) ?_
  refine Bod.virt (r := [_]) dc_228_113 kr_228_80 ⟨Or.inr rfl, ow_132, cl_9⟩ (by rw [np_132]; rfl) (by rw [np_132]; rfl) (ob_of (mk_46 _)) (Nat.le_of_ble_eq_true rfl) (c6  ) ?_
  show Bod _ _ _ _ [_, _] _ _ _
  refine Bod.aldnG dc_228_116 (by repeat (first | exact q0 | exact sm_get_p1 | exact sm_get_p2e | refine sm_get_p1m (by decide) (by decide) ?_ | refine sm_get_p1n (by decide) rfl ?_ | refine sm_get_p2n (by decide) (by decide) rfl ?_ | refine sm_get_p2m (by decide) (by decide) (by decide) ?_)) ?_
  refine Bod.get dc_228_117 fr_228_15 (mk_49 _) rfl ?_
  refine Bod.ildnG dc_228_120 (by repeat (first | exact q2 | exact sm_get_p1 | exact sm_get_p2e | refine sm_get_p1m (by decide) (by decide) ?_ | refine sm_get_p1n (by decide) rfl ?_ | refine sm_get_p2n (by decide) (by decide) rfl ?_ | refine sm_get_p2m (by decide) (by decide) (by decide) ?_)) ?_
  refine Bod.virt (r := [_, _]) dc_228_121 kr_228_100 ⟨Or.inr rfl, ow_135, cl_9⟩ (by rw [np_135]; rfl) (by rw [np_135]; rfl) (ob_of (mk_46 _)) (Nat.le_of_ble_eq_true rfl) (c7  ) ?_
  show Bod _ _ _ _ [_, _, _] _ _ _
  refine Bod.virt (r := []) dc_228_124 kr_228_168 ⟨Or.inl rfl, ow_234, cl_0⟩ (by rw [np_234]; rfl) (by rw [np_234]; rfl) (ob_of (mk_49 _)) (Nat.le_of_ble_eq_true rfl) (c8  ) ?_
  show Bod _ _ _ _ [] _ _ _
  refine Bod.ildnG dc_228_127 (by repeat (first | exact q2 | exact sm_get_p1 | exact sm_get_p2e | refine sm_get_p1m (by decide) (by decide) ?_ | refine sm_get_p1n (by decide) rfl ?_ | refine sm_get_p2n (by decide) (by decide) rfl ?_ | refine sm_get_p2m (by decide) (by decide) (by decide) ?_)) ?_
  refine Bod.ifT dc_228_128 rfl (k1_le_T (k_eq 0 0 (by first | assumption | (simp (disch := omega) only [rI, rIe, rA, rIA, rLA, rJA, rVI, rQI, rVA, rQA, upd_at,  rAI, rLI, rJI, nI_add, pk_sub, kc_0, kc_1, kc_2, kc_3, kc_4, kc_5, reduceIte, Nat.reduceEqDiff, Nat.add_zero, rI_hold, rI_hold, rL_hold]; done) | (simp (disch := omega) only [rI, rIe, rA, rIA, rLA, rJA, rVI, rQI, rVA, rQA, upd_at,  rAI, rLI, rJI, nI_add, pk_sub, kc_0, kc_1, kc_2, kc_3, kc_4, kc_5, reduceIte, Nat.reduceEqDiff, Nat.add_zero, rI_hold, rI_hold, rL_hold]; exact congrArg nI (by omega))) rfl (by omega))) ?_
  refine Bod.incM dc_228_137 (by rw [ml_228]; exact Nat.le_of_ble_eq_true rfl) (by repeat (first | exact q2 | exact sm_get_p1 | exact sm_get_p2e | refine sm_get_p1m (by decide) (by decide) ?_ | refine sm_get_p1n (by decide) rfl ?_ | refine sm_get_p2n (by decide) (by decide) rfl ?_ | refine sm_get_p2m (by decide) (by decide) (by decide) ?_)) ?_
  refine Bod.go dc_228_140 rfl ?_
  exact hB _ (by repeat (first | exact q0 | exact sm_get_p1 | exact sm_get_p2e | refine sm_get_p1m (by decide) (by decide) ?_ | refine sm_get_p1n (by decide) rfl ?_ | refine sm_get_p2n (by decide) (by decide) rfl ?_ | refine sm_get_p2m (by decide) (by decide) (by decide) ?_)) (by repeat (first | exact q1 | exact sm_get_p1 | exact sm_get_p2e | refine sm_get_p1m (by decide) (by decide) ?_ | refine sm_get_p1n (by decide) rfl ?_ | refine sm_get_p2n (by decide) (by decide) rfl ?_ | refine sm_get_p2m (by decide) (by decide) (by decide) ?_)) (by repeat (first | exact q0 | exact sm_get_p1 | exact sm_get_p2e | refine sm_get_p1m (by decide) (by decide) ?_ | refine sm_get_p1n (by decide) rfl ?_ | refine sm_get_p2n (by decide) (by decide) rfl ?_ | refine sm_get_p2m (by decide) (by decide) (by decide) ?_))
theorem mPrM_4 {d : Nat} {S Sf : cS} {v : Option Value} {lv : sm_L} {gv : Nat} {S1 : cS} {a : Nat} {S2 : cS} {a1 : Nat} {S3 : cS} {a2 : Nat} {S4 : cS} {u : Int64} {S5 : cS} {rb : Int32} {S6 : cS} (q0 : sm_get lv 0 = some (.ref 49)) (q1 : sm_get lv 1 = some (.int (nI gv))) (q2 : sm_get lv 2 = some (.int (nI 0))) (mgv : gv < 2 ^ 20) (ma : a < 2 ^ 20) (c1 : Ans (d + 8) 136 [.ref 46, .int (nI 0)] S (some (.int (nI a))) S1) (ma1 : a1 < 2 ^ 20) (c2 : Ans (d + 8) 138 [.ref 2, .int (nI a)] S1 (some (.int (nI a1))) S2) (b1 : a1 ≠ 1) (ma2 : a2 < 2 ^ 20) (c3 : Ans (d + 8) 138 [.ref 2, .int (nI a)] S2 (some (.int (nI a2))) S3) (b2 : a2 ≠ 2) (c4 : Ans (d + 8) 132 [.ref 46, .int (nI 0)] S3 (some (.long u)) S4) (c5 : Ans (d + 8) 134 [.long u] S4 (some (.int rb)) S5) (w12 : rb ≠ nI 3) (b3 : a ≠ 0) (c6 : Ans (d + 8) 240 [.ref 49, .int (nI a)] S5 none S6) (hB : ∀ lv1 : sm_L, sm_get lv1 0 = some (.ref 49) → sm_get lv1 1 = some (.int (nI gv)) → sm_get lv1 2 = some (.int (Int32.ofInt (-1))) → Bod (d + 8) 228 12 lv1 [] (S6) v Sf) : Bod (d + 8) 228 12 lv [] S v Sf := by
  refine Bod.ildnG dc_228_12 (by repeat (first | exact q2 | exact sm_get_p1 | exact sm_get_p2e | refine sm_get_p1m (by decide) (by decide) ?_ | refine sm_get_p1n (by decide) rfl ?_ | refine sm_get_p2n (by decide) (by decide) rfl ?_ | refine sm_get_p2m (by decide) (by decide) (by decide) ?_)) ?_
  refine Bod.ifF dc_228_13 rfl (k1_lt_F 0 rfl (by omega)) ?_
  refine Bod.aldnG dc_228_16 (by repeat (first | exact q0 | exact sm_get_p1 | exact sm_get_p2e | refine sm_get_p1m (by decide) (by decide) ?_ | refine sm_get_p1n (by decide) rfl ?_ | refine sm_get_p2n (by decide) (by decide) rfl ?_ | refine sm_get_p2m (by decide) (by decide) (by decide) ?_)) ?_
  refine Bod.get dc_228_17 fr_228_15 (mk_49 _) rfl ?_
  refine Bod.ildnG dc_228_20 (by repeat (first | exact q2 | exact sm_get_p1 | exact sm_get_p2e | refine sm_get_p1m (by decide) (by decide) ?_ | refine sm_get_p1n (by decide) rfl ?_ | refine sm_get_p2n (by decide) (by decide) rfl ?_ | refine sm_get_p2m (by decide) (by decide) (by decide) ?_)) ?_
  refine Bod.virt (r := []) dc_228_21 kr_228_91 ⟨Or.inr rfl, ow_136, cl_9⟩ (by rw [np_136]; rfl) (by rw [np_136]; rfl) (ob_of (mk_46 _)) (Nat.le_of_ble_eq_true rfl) (c1  ) ?_
  show Bod _ _ _ _ [_] _ _ _
  refine Bod.istn dc_228_24 (by rw [ml_228]; exact Nat.le_of_ble_eq_true rfl) ?_
  refine Bod.aldnG dc_228_25 (by repeat (first | exact q0 | exact sm_get_p1 | exact sm_get_p2e | refine sm_get_p1m (by decide) (by decide) ?_ | refine sm_get_p1n (by decide) rfl ?_ | refine sm_get_p2n (by decide) (by decide) rfl ?_ | refine sm_get_p2m (by decide) (by decide) (by decide) ?_)) ?_
  refine Bod.get dc_228_26 fr_228_9 (mk_49 _) rfl ?_
  refine Bod.ildnG dc_228_29 (by repeat (first | exact q0 | exact sm_get_p1 | exact sm_get_p2e | refine sm_get_p1m (by decide) (by decide) ?_ | refine sm_get_p1n (by decide) rfl ?_ | refine sm_get_p2n (by decide) (by decide) rfl ?_ | refine sm_get_p2m (by decide) (by decide) (by decide) ?_)) ?_
  refine Bod.virt (r := []) dc_228_30 kr_228_94 ⟨Or.inr rfl, ow_138, cl_2⟩ (by rw [np_138]; rfl) (by rw [np_138]; rfl) (ob_of (mk_2 _)) (Nat.le_of_ble_eq_true rfl) (c2  ) ?_
  show Bod _ _ _ _ [_] _ _ _
  refine Bod.ic 1 (by decide) dc_228_33 ?_
  refine Bod.icF dc_228_34 rfl (k2_eq_F (k_ne a1 1 rfl rfl (by omega) (by omega) (by omega))) ?_
  refine Bod.aldnG dc_228_37 (by repeat (first | exact q0 | exact sm_get_p1 | exact sm_get_p2e | refine sm_get_p1m (by decide) (by decide) ?_ | refine sm_get_p1n (by decide) rfl ?_ | refine sm_get_p2n (by decide) (by decide) rfl ?_ | refine sm_get_p2m (by decide) (by decide) (by decide) ?_)) ?_
  refine Bod.get dc_228_38 fr_228_9 (mk_49 _) rfl ?_
  refine Bod.ildnG dc_228_41 (by repeat (first | exact q0 | exact sm_get_p1 | exact sm_get_p2e | refine sm_get_p1m (by decide) (by decide) ?_ | refine sm_get_p1n (by decide) rfl ?_ | refine sm_get_p2n (by decide) (by decide) rfl ?_ | refine sm_get_p2m (by decide) (by decide) (by decide) ?_)) ?_
  refine Bod.virt (r := []) dc_228_42 kr_228_94 ⟨Or.inr rfl, ow_138, cl_2⟩ (by rw [np_138]; rfl) (by rw [np_138]; rfl) (ob_of (mk_2 _)) (Nat.le_of_ble_eq_true rfl) (c3  ) ?_
  show Bod _ _ _ _ [_] _ _ _
  refine Bod.ic 2 (by decide) dc_228_45 ?_
  refine Bod.icT dc_228_46 rfl (k2_ne_T (k_ne a2 2 rfl rfl (by omega) (by omega) (by omega))) ?_
  refine Bod.aldnG dc_228_57 (by repeat (first | exact q0 | exact sm_get_p1 | exact sm_get_p2e | refine sm_get_p1m (by decide) (by decide) ?_ | refine sm_get_p1n (by decide) rfl ?_ | refine sm_get_p2n (by decide) (by decide) rfl ?_ | refine sm_get_p2m (by decide) (by decide) (by decide) ?_)) ?_
  refine Bod.get dc_228_58 fr_228_15 (mk_49 _) rfl ?_
  refine Bod.ildnG dc_228_61 (by repeat (first | exact q2 | exact sm_get_p1 | exact sm_get_p2e | refine sm_get_p1m (by decide) (by decide) ?_ | refine sm_get_p1n (by decide) rfl ?_ | refine sm_get_p2n (by decide) (by decide) rfl ?_ | refine sm_get_p2m (by decide) (by decide) (by decide) ?_)) ?_
  refine Bod.virt (r := []) dc_228_62 kr_228_80 ⟨Or.inr rfl, ow_132, cl_9⟩ (by rw [np_132]; rfl) (by rw [np_132]; rfl) (ob_of (mk_46 _)) (Nat.le_of_ble_eq_true rfl) (c4  ) ?_
  show Bod _ _ _ _ [_] _ _ _
  refine Bod.stat (r := []) dc_228_65 kr_228_84 (Or.inr rfl) (by rw [np_134]; rfl) (by rw [np_134]; rfl) (by rw [np_134]; exact Nat.le_of_ble_eq_true rfl) (Nat.le_of_ble_eq_true rfl) (c5  ) ?_
  show Bod _ _ _ _ [_] _ _ _
  refine Bod.ic 3 (by decide) dc_228_68 ?_
  refine Bod.icT dc_228_69 rfl (c2_ne_T w12) ?_
  refine Bod.ildnG dc_228_95 (by repeat (first | exact q0 | exact sm_get_p1 | exact sm_get_p2e | refine sm_get_p1m (by decide) (by decide) ?_ | refine sm_get_p1n (by decide) rfl ?_ | refine sm_get_p2n (by decide) (by decide) rfl ?_ | refine sm_get_p2m (by decide) (by decide) (by decide) ?_)) ?_
  refine Bod.ifF dc_228_96 rfl (k1_eq_F (k_ne a 0 rfl rfl (by omega) (by omega) (by omega))) ?_
  refine Bod.aldnG dc_228_99 (by repeat (first | exact q0 | exact sm_get_p1 | exact sm_get_p2e | refine sm_get_p1m (by decide) (by decide) ?_ | refine sm_get_p1n (by decide) rfl ?_ | refine sm_get_p2n (by decide) (by decide) rfl ?_ | refine sm_get_p2m (by decide) (by decide) (by decide) ?_)) ?_
  refine Bod.ildnG dc_228_100 (by repeat (first | exact q0 | exact sm_get_p1 | exact sm_get_p2e | refine sm_get_p1m (by decide) (by decide) ?_ | refine sm_get_p1n (by decide) rfl ?_ | refine sm_get_p2n (by decide) (by decide) rfl ?_ | refine sm_get_p2m (by decide) (by decide) (by decide) ?_)) ?_
  refine Bod.virt (r := []) dc_228_101 kr_228_165 ⟨Or.inl rfl, ow_240, cl_0⟩ (by rw [np_240]; rfl) (by rw [np_240]; rfl) (ob_of (mk_49 _)) (Nat.le_of_ble_eq_true rfl) (c6  ) ?_
  show Bod _ _ _ _ [] _ _ _
  refine Bod.go dc_228_104 rfl ?_
  refine Bod.ildnG dc_228_127 (by repeat (first | exact q2 | exact sm_get_p1 | exact sm_get_p2e | refine sm_get_p1m (by decide) (by decide) ?_ | refine sm_get_p1n (by decide) rfl ?_ | refine sm_get_p2n (by decide) (by decide) rfl ?_ | refine sm_get_p2m (by decide) (by decide) (by decide) ?_)) ?_
  refine Bod.ifT dc_228_128 rfl (k1_le_T (k_eq 0 0 (by first | assumption | (simp (disch := omega) only [rI, rIe, rA, rIA, rLA, rJA, rVI, rQI, rVA, rQA, upd_at,  rAI, rLI, rJI, nI_add, pk_sub, kc_0, kc_1, kc_2, kc_3, kc_4, kc_5, reduceIte, Nat.reduceEqDiff, Nat.add_zero, rI_hold, rI_hold, rL_hold]; done) | (simp (disch := omega) only [rI, rIe, rA, rIA, rLA, rJA, rVI, rQI, rVA, rQA, upd_at,  rAI, rLI, rJI, nI_add, pk_sub, kc_0, kc_1, kc_2, kc_3, kc_4, kc_5, reduceIte, Nat.reduceEqDiff, Nat.add_zero, rI_hold, rI_hold, rL_hold]; exact congrArg nI (by omega))) rfl (by omega))) ?_
  refine Bod.incM dc_228_137 (by rw [ml_228]; exact Nat.le_of_ble_eq_true rfl) (by repeat (first | exact q2 | exact sm_get_p1 | exact sm_get_p2e | refine sm_get_p1m (by decide) (by decide) ?_ | refine sm_get_p1n (by decide) rfl ?_ | refine sm_get_p2n (by decide) (by decide) rfl ?_ | refine sm_get_p2m (by decide) (by decide) (by decide) ?_)) ?_
  refine Bod.go dc_228_140 rfl ?_
  exact hB _ (by repeat (first | exact q0 | exact sm_get_p1 | exact sm_get_p2e | refine sm_get_p1m (by decide) (by decide) ?_ | refine sm_get_p1n (by decide) rfl ?_ | refine sm_get_p2n (by decide) (by decide) rfl ?_ | refine sm_get_p2m (by decide) (by decide) (by decide) ?_)) (by repeat (first | exact q1 | exact sm_get_p1 | exact sm_get_p2e | refine sm_get_p1m (by decide) (by decide) ?_ | refine sm_get_p1n (by decide) rfl ?_ | refine sm_get_p2n (by decide) (by decide) rfl ?_ | refine sm_get_p2m (by decide) (by decide) (by decide) ?_)) (by repeat (first | exact q0 | exact sm_get_p1 | exact sm_get_p2e | refine sm_get_p1m (by decide) (by decide) ?_ | refine sm_get_p1n (by decide) rfl ?_ | refine sm_get_p2n (by decide) (by decide) rfl ?_ | refine sm_get_p2m (by decide) (by decide) (by decide) ?_))
theorem mPrM_5 {d : Nat} {S Sf : cS} {v : Option Value} {lv : sm_L} {gv : Nat} {S1 : cS} {a : Nat} {S2 : cS} {a1 : Nat} {S3 : cS} {a2 : Nat} {S4 : cS} (q0 : sm_get lv 0 = some (.ref 49)) (q1 : sm_get lv 1 = some (.int (nI gv))) (q2 : sm_get lv 2 = some (.int (nI 0))) (mgv : gv < 2 ^ 20) (ma : a < 2 ^ 20) (c1 : Ans (d + 8) 136 [.ref 46, .int (nI 0)] S (some (.int (nI a))) S1) (ma1 : a1 < 2 ^ 20) (c2 : Ans (d + 8) 138 [.ref 2, .int (nI a)] S1 (some (.int (nI a1))) S2) (b1 : a1 ≠ 1) (ma2 : a2 < 2 ^ 20) (c3 : Ans (d + 8) 138 [.ref 2, .int (nI a)] S2 (some (.int (nI a2))) S3) (b2 : a2 = 2) (c4 : Ans (d + 8) 229 [.ref 49, .int (nI a)] S3 none S4) (hB : ∀ lv1 : sm_L, sm_get lv1 0 = some (.ref 49) → sm_get lv1 1 = some (.int (nI gv)) → sm_get lv1 2 = some (.int (Int32.ofInt (-1))) → Bod (d + 8) 228 12 lv1 [] (S4) v Sf) : Bod (d + 8) 228 12 lv [] S v Sf := by
  refine Bod.ildnG dc_228_12 (by repeat (first | exact q2 | exact sm_get_p1 | exact sm_get_p2e | refine sm_get_p1m (by decide) (by decide) ?_ | refine sm_get_p1n (by decide) rfl ?_ | refine sm_get_p2n (by decide) (by decide) rfl ?_ | refine sm_get_p2m (by decide) (by decide) (by decide) ?_)) ?_
  refine Bod.ifF dc_228_13 rfl (k1_lt_F 0 rfl (by omega)) ?_
  refine Bod.aldnG dc_228_16 (by repeat (first | exact q0 | exact sm_get_p1 | exact sm_get_p2e | refine sm_get_p1m (by decide) (by decide) ?_ | refine sm_get_p1n (by decide) rfl ?_ | refine sm_get_p2n (by decide) (by decide) rfl ?_ | refine sm_get_p2m (by decide) (by decide) (by decide) ?_)) ?_
  refine Bod.get dc_228_17 fr_228_15 (mk_49 _) rfl ?_
  refine Bod.ildnG dc_228_20 (by repeat (first | exact q2 | exact sm_get_p1 | exact sm_get_p2e | refine sm_get_p1m (by decide) (by decide) ?_ | refine sm_get_p1n (by decide) rfl ?_ | refine sm_get_p2n (by decide) (by decide) rfl ?_ | refine sm_get_p2m (by decide) (by decide) (by decide) ?_)) ?_
  refine Bod.virt (r := []) dc_228_21 kr_228_91 ⟨Or.inr rfl, ow_136, cl_9⟩ (by rw [np_136]; rfl) (by rw [np_136]; rfl) (ob_of (mk_46 _)) (Nat.le_of_ble_eq_true rfl) (c1  ) ?_
  show Bod _ _ _ _ [_] _ _ _
  refine Bod.istn dc_228_24 (by rw [ml_228]; exact Nat.le_of_ble_eq_true rfl) ?_
  refine Bod.aldnG dc_228_25 (by repeat (first | exact q0 | exact sm_get_p1 | exact sm_get_p2e | refine sm_get_p1m (by decide) (by decide) ?_ | refine sm_get_p1n (by decide) rfl ?_ | refine sm_get_p2n (by decide) (by decide) rfl ?_ | refine sm_get_p2m (by decide) (by decide) (by decide) ?_)) ?_
  refine Bod.get dc_228_26 fr_228_9 (mk_49 _) rfl ?_
  refine Bod.ildnG dc_228_29 (by repeat (first | exact q0 | exact sm_get_p1 | exact sm_get_p2e | refine sm_get_p1m (by decide) (by decide) ?_ | refine sm_get_p1n (by decide) rfl ?_ | refine sm_get_p2n (by decide) (by decide) rfl ?_ | refine sm_get_p2m (by decide) (by decide) (by decide) ?_)) ?_
  refine Bod.virt (r := []) dc_228_30 kr_228_94 ⟨Or.inr rfl, ow_138, cl_2⟩ (by rw [np_138]; rfl) (by rw [np_138]; rfl) (ob_of (mk_2 _)) (Nat.le_of_ble_eq_true rfl) (c2  ) ?_
  show Bod _ _ _ _ [_] _ _ _
  refine Bod.ic 1 (by decide) dc_228_33 ?_
  refine Bod.icF dc_228_34 rfl (k2_eq_F (k_ne a1 1 rfl rfl (by omega) (by omega) (by omega))) ?_
  refine Bod.aldnG dc_228_37 (by repeat (first | exact q0 | exact sm_get_p1 | exact sm_get_p2e | refine sm_get_p1m (by decide) (by decide) ?_ | refine sm_get_p1n (by decide) rfl ?_ | refine sm_get_p2n (by decide) (by decide) rfl ?_ | refine sm_get_p2m (by decide) (by decide) (by decide) ?_)) ?_
  refine Bod.get dc_228_38 fr_228_9 (mk_49 _) rfl ?_
  refine Bod.ildnG dc_228_41 (by repeat (first | exact q0 | exact sm_get_p1 | exact sm_get_p2e | refine sm_get_p1m (by decide) (by decide) ?_ | refine sm_get_p1n (by decide) rfl ?_ | refine sm_get_p2n (by decide) (by decide) rfl ?_ | refine sm_get_p2m (by decide) (by decide) (by decide) ?_)) ?_
  refine Bod.virt (r := []) dc_228_42 kr_228_94 ⟨Or.inr rfl, ow_138, cl_2⟩ (by rw [np_138]; rfl) (by rw [np_138]; rfl) (ob_of (mk_2 _)) (Nat.le_of_ble_eq_true rfl) (c3  ) ?_
  show Bod _ _ _ _ [_] _ _ _
  refine Bod.ic 2 (by decide) dc_228_45 ?_
  refine Bod.icF dc_228_46 rfl (k2_ne_F (k_eq a2 2 rfl rfl (by omega))) ?_
  refine Bod.aldnG dc_228_49 (by repeat (first | exact q0 | exact sm_get_p1 | exact sm_get_p2e | refine sm_get_p1m (by decide) (by decide) ?_ | refine sm_get_p1n (by decide) rfl ?_ | refine sm_get_p2n (by decide) (by decide) rfl ?_ | refine sm_get_p2m (by decide) (by decide) (by decide) ?_)) ?_
  refine Bod.ildnG dc_228_50 (by repeat (first | exact q0 | exact sm_get_p1 | exact sm_get_p2e | refine sm_get_p1m (by decide) (by decide) ?_ | refine sm_get_p1n (by decide) rfl ?_ | refine sm_get_p2n (by decide) (by decide) rfl ?_ | refine sm_get_p2m (by decide) (by decide) (by decide) ?_)) ?_
  refine Bod.virt (r := []) dc_228_51 kr_228_158 ⟨Or.inl rfl, ow_229, cl_0⟩ (by rw [np_229]; rfl) (by rw [np_229]; rfl) (ob_of (mk_49 _)) (Nat.le_of_ble_eq_true rfl) (c4  ) ?_
  show Bod _ _ _ _ [] _ _ _
  refine Bod.go dc_228_54 rfl ?_
  refine Bod.ildnG dc_228_127 (by repeat (first | exact q2 | exact sm_get_p1 | exact sm_get_p2e | refine sm_get_p1m (by decide) (by decide) ?_ | refine sm_get_p1n (by decide) rfl ?_ | refine sm_get_p2n (by decide) (by decide) rfl ?_ | refine sm_get_p2m (by decide) (by decide) (by decide) ?_)) ?_
  refine Bod.ifT dc_228_128 rfl (k1_le_T (k_eq 0 0 (by first | assumption | (simp (disch := omega) only [rI, rIe, rA, rIA, rLA, rJA, rVI, rQI, rVA, rQA, upd_at,  rAI, rLI, rJI, nI_add, pk_sub, kc_0, kc_1, kc_2, kc_3, kc_4, kc_5, reduceIte, Nat.reduceEqDiff, Nat.add_zero, rI_hold, rI_hold, rL_hold]; done) | (simp (disch := omega) only [rI, rIe, rA, rIA, rLA, rJA, rVI, rQI, rVA, rQA, upd_at,  rAI, rLI, rJI, nI_add, pk_sub, kc_0, kc_1, kc_2, kc_3, kc_4, kc_5, reduceIte, Nat.reduceEqDiff, Nat.add_zero, rI_hold, rI_hold, rL_hold]; exact congrArg nI (by omega))) rfl (by omega))) ?_
  refine Bod.incM dc_228_137 (by rw [ml_228]; exact Nat.le_of_ble_eq_true rfl) (by repeat (first | exact q2 | exact sm_get_p1 | exact sm_get_p2e | refine sm_get_p1m (by decide) (by decide) ?_ | refine sm_get_p1n (by decide) rfl ?_ | refine sm_get_p2n (by decide) (by decide) rfl ?_ | refine sm_get_p2m (by decide) (by decide) (by decide) ?_)) ?_
  refine Bod.go dc_228_140 rfl ?_
  exact hB _ (by repeat (first | exact q0 | exact sm_get_p1 | exact sm_get_p2e | refine sm_get_p1m (by decide) (by decide) ?_ | refine sm_get_p1n (by decide) rfl ?_ | refine sm_get_p2n (by decide) (by decide) rfl ?_ | refine sm_get_p2m (by decide) (by decide) (by decide) ?_)) (by repeat (first | exact q1 | exact sm_get_p1 | exact sm_get_p2e | refine sm_get_p1m (by decide) (by decide) ?_ | refine sm_get_p1n (by decide) rfl ?_ | refine sm_get_p2n (by decide) (by decide) rfl ?_ | refine sm_get_p2m (by decide) (by decide) (by decide) ?_)) (by repeat (first | exact q0 | exact sm_get_p1 | exact sm_get_p2e | refine sm_get_p1m (by decide) (by decide) ?_ | refine sm_get_p1n (by decide) rfl ?_ | refine sm_get_p2n (by decide) (by decide) rfl ?_ | refine sm_get_p2m (by decide) (by decide) (by decide) ?_))
theorem mPrE_1 {d : Nat} {S : cS} {lv : sm_L} {gv : Nat} {S1 : cS} {ot : Nat} {S2 : cS} {rb : Int32} (q0 : sm_get lv 0 = some (.ref 49)) (q1 : sm_get lv 1 = some (.int (nI gv))) (q2 : sm_get lv 2 = some (.int (Int32.ofInt (-1)))) (mgv : gv < 2 ^ 20) (c1 : Ans (d + 8) 230 [.ref 49, .int (nI 10)] S none S1) (hot : sI S1 4907 = nI ot) (mot : ot < 2 ^ 20) (b1 : ot ≤ 4000) (c2 : Ans (d + 8) 148 [.ref 46, .int (nI (gv + 1)), .long ((1152921504606846976)), .long 0] (wI 4906 (nI ot) S1) (some (.int rb)) S2) : Bod (d + 8) 228 12 lv [] S (some (.int rb)) (S2) := by
  refine Bod.ildnG dc_228_12 (by repeat (first | exact q2 | exact sm_get_p1 | exact sm_get_p2e | refine sm_get_p1m (by decide) (by decide) ?_ | refine sm_get_p1n (by decide) rfl ?_ | refine sm_get_p2n (by decide) (by decide) rfl ?_ | refine sm_get_p2m (by decide) (by decide) (by decide) ?_)) ?_
  refine Bod.ifT dc_228_13 rfl (by decide) ?_
  refine Bod.aldnG dc_228_143 (by repeat (first | exact q0 | exact sm_get_p1 | exact sm_get_p2e | refine sm_get_p1m (by decide) (by decide) ?_ | refine sm_get_p1n (by decide) rfl ?_ | refine sm_get_p2n (by decide) (by decide) rfl ?_ | refine sm_get_p2m (by decide) (by decide) (by decide) ?_)) ?_
  refine Bod.bip 10 (by decide) dc_228_144 ?_
  refine Bod.virt (r := []) dc_228_146 kr_228_171 ⟨Or.inl rfl, ow_230, cl_0⟩ (by rw [np_230]; rfl) (by rw [np_230]; rfl) (ob_of (mk_49 _)) (Nat.le_of_ble_eq_true rfl) (c1  ) ?_
  show Bod _ _ _ _ [] _ _ _
  refine Bod.aldnG dc_228_149 (by repeat (first | exact q0 | exact sm_get_p1 | exact sm_get_p2e | refine sm_get_p1m (by decide) (by decide) ?_ | refine sm_get_p1n (by decide) rfl ?_ | refine sm_get_p2n (by decide) (by decide) rfl ?_ | refine sm_get_p2m (by decide) (by decide) (by decide) ?_)) ?_
  refine Bod.get dc_228_150 fr_228_155 (mk_49 _) rfl ?_
  refine Bod.eqI (nI ot) (by first | assumption | (simp (disch := omega) only [rI, rIe, rA, rIA, rLA, rJA, rVI, rQI, rVA, rQA, upd_at,  rAI, rLI, rJI, nI_add, pk_sub, kc_0, kc_1, kc_2, kc_3, kc_4, kc_5, reduceIte, Nat.reduceEqDiff, Nat.add_zero, rI_hold, rI_hold, rL_hold, hot]; done) | (simp (disch := omega) only [rI, rIe, rA, rIA, rLA, rJA, rVI, rQI, rVA, rQA, upd_at,  rAI, rLI, rJI, nI_add, pk_sub, kc_0, kc_1, kc_2, kc_3, kc_4, kc_5, reduceIte, Nat.reduceEqDiff, Nat.add_zero, rI_hold, rI_hold, rL_hold, hot]; exact congrArg nI (by omega))) ?_
  refine Bod.sip 4000 (by decide) dc_228_153 ?_
  refine Bod.icT dc_228_156 rfl (k2_le_T ot 4000 rfl rfl (by omega) (by omega)) ?_
  refine Bod.aldnG dc_228_162 (by repeat (first | exact q0 | exact sm_get_p1 | exact sm_get_p2e | refine sm_get_p1m (by decide) (by decide) ?_ | refine sm_get_p1n (by decide) rfl ?_ | refine sm_get_p2n (by decide) (by decide) rfl ?_ | refine sm_get_p2m (by decide) (by decide) (by decide) ?_)) ?_
  refine Bod.aldnG dc_228_163 (by repeat (first | exact q0 | exact sm_get_p1 | exact sm_get_p2e | refine sm_get_p1m (by decide) (by decide) ?_ | refine sm_get_p1n (by decide) rfl ?_ | refine sm_get_p2n (by decide) (by decide) rfl ?_ | refine sm_get_p2m (by decide) (by decide) (by decide) ?_)) ?_
  refine Bod.get dc_228_164 fr_228_155 (mk_49 _) rfl ?_
  refine Bod.eqI (nI ot) (by first | assumption | (simp (disch := omega) only [rI, rIe, rA, rIA, rLA, rJA, rVI, rQI, rVA, rQA, upd_at,  rAI, rLI, rJI, nI_add, pk_sub, kc_0, kc_1, kc_2, kc_3, kc_4, kc_5, reduceIte, Nat.reduceEqDiff, Nat.add_zero, rI_hold, rI_hold, rL_hold, hot]; done) | (simp (disch := omega) only [rI, rIe, rA, rIA, rLA, rJA, rVI, rQI, rVA, rQA, upd_at,  rAI, rLI, rJI, nI_add, pk_sub, kc_0, kc_1, kc_2, kc_3, kc_4, kc_5, reduceIte, Nat.reduceEqDiff, Nat.add_zero, rI_hold, rI_hold, rL_hold, hot]; exact congrArg nI (by omega))) ?_
  refine Bod.put dc_228_167 fr_228_34 (mk_49 _) (Nat.le_of_ble_eq_true rfl) pf_0_6 (st_4906 _ _) (mu_I _ _ _) ?_
  refine Bod.aldnG dc_228_170 (by repeat (first | exact q0 | exact sm_get_p1 | exact sm_get_p2e | refine sm_get_p1m (by decide) (by decide) ?_ | refine sm_get_p1n (by decide) rfl ?_ | refine sm_get_p2n (by decide) (by decide) rfl ?_ | refine sm_get_p2m (by decide) (by decide) (by decide) ?_)) ?_
  refine Bod.get dc_228_171 fr_228_15 (mk_49 _) rfl ?_
  refine Bod.ildnG dc_228_174 (by repeat (first | exact q1 | exact sm_get_p1 | exact sm_get_p2e | refine sm_get_p1m (by decide) (by decide) ?_ | refine sm_get_p1n (by decide) rfl ?_ | refine sm_get_p2n (by decide) (by decide) rfl ?_ | refine sm_get_p2m (by decide) (by decide) (by decide) ?_)) ?_
  refine Bod.ic 1 (by decide) dc_228_175 ?_
  refine Bod.addN (gv + 1) (by omega) dc_228_176 ?_
  refine Bod.ldc2 dc_228_177 cj_228_117 ?_
  refine Bod.go dc_228_180 rfl ?_
  refine Bod.virt (r := []) dc_228_181 kr_228_71 ⟨Or.inr rfl, ow_148, cl_9⟩ (by rw [np_148]; rfl) (by rw [np_148]; rfl) (ob_of (mk_46 _)) (Nat.le_of_ble_eq_true rfl) (c2  ) ?_
  show Bod _ _ _ _ [_] _ _ _
  exact Bod.retI dc_228_184 rt_228
theorem mPrE_2 {d : Nat} {S : cS} {lv : sm_L} {gv : Nat} {S1 : cS} {ot : Nat} (q0 : sm_get lv 0 = some (.ref 49)) (q1 : sm_get lv 1 = some (.int (nI gv))) (q2 : sm_get lv 2 = some (.int (Int32.ofInt (-1)))) (mgv : gv < 2 ^ 20) (c1 : Ans (d + 8) 230 [.ref 49, .int (nI 10)] S none S1) (hot : sI S1 4907 = nI ot) (mot : ot < 2 ^ 20) (b1 : 4000 < ot) : Bod (d + 8) 228 12 lv [] S (some (.int (nI 8))) (S1) := by
  refine Bod.ildnG dc_228_12 (by repeat (first | exact q2 | exact sm_get_p1 | exact sm_get_p2e | refine sm_get_p1m (by decide) (by decide) ?_ | refine sm_get_p1n (by decide) rfl ?_ | refine sm_get_p2n (by decide) (by decide) rfl ?_ | refine sm_get_p2m (by decide) (by decide) (by decide) ?_)) ?_
  refine Bod.ifT dc_228_13 rfl (by decide) ?_
  refine Bod.aldnG dc_228_143 (by repeat (first | exact q0 | exact sm_get_p1 | exact sm_get_p2e | refine sm_get_p1m (by decide) (by decide) ?_ | refine sm_get_p1n (by decide) rfl ?_ | refine sm_get_p2n (by decide) (by decide) rfl ?_ | refine sm_get_p2m (by decide) (by decide) (by decide) ?_)) ?_
  refine Bod.bip 10 (by decide) dc_228_144 ?_
  refine Bod.virt (r := []) dc_228_146 kr_228_171 ⟨Or.inl rfl, ow_230, cl_0⟩ (by rw [np_230]; rfl) (by rw [np_230]; rfl) (ob_of (mk_49 _)) (Nat.le_of_ble_eq_true rfl) (c1  ) ?_
  show Bod _ _ _ _ [] _ _ _
  refine Bod.aldnG dc_228_149 (by repeat (first | exact q0 | exact sm_get_p1 | exact sm_get_p2e | refine sm_get_p1m (by decide) (by decide) ?_ | refine sm_get_p1n (by decide) rfl ?_ | refine sm_get_p2n (by decide) (by decide) rfl ?_ | refine sm_get_p2m (by decide) (by decide) (by decide) ?_)) ?_
  refine Bod.get dc_228_150 fr_228_155 (mk_49 _) rfl ?_
  refine Bod.eqI (nI ot) (by first | assumption | (simp (disch := omega) only [rI, rIe, rA, rIA, rLA, rJA, rVI, rQI, rVA, rQA, upd_at,  rAI, rLI, rJI, nI_add, pk_sub, kc_0, kc_1, kc_2, kc_3, kc_4, kc_5, reduceIte, Nat.reduceEqDiff, Nat.add_zero, rI_hold, rI_hold, rL_hold, hot]; done) | (simp (disch := omega) only [rI, rIe, rA, rIA, rLA, rJA, rVI, rQI, rVA, rQA, upd_at,  rAI, rLI, rJI, nI_add, pk_sub, kc_0, kc_1, kc_2, kc_3, kc_4, kc_5, reduceIte, Nat.reduceEqDiff, Nat.add_zero, rI_hold, rI_hold, rL_hold, hot]; exact congrArg nI (by omega))) ?_
  refine Bod.sip 4000 (by decide) dc_228_153 ?_
  refine Bod.icF dc_228_156 rfl (k2_le_F ot 4000 rfl rfl (by omega) (by omega)) ?_
  refine Bod.bip 8 (by decide) dc_228_159 ?_
  exact Bod.retI dc_228_161 rt_228
theorem mWi_1 {d : Nat} {S Sf : cS} {v : Option Value} {id : Nat} {S1 : cS} {a : Nat} {S2 : cS} {a1 : Nat} {S3 : cS} (mid : id < 2 ^ 20) (ma : a < 2 ^ 20) (c1 : Ans (d + 8) 138 [.ref 2, .int (nI id)] S (some (.int (nI a))) S1) (b1 : a ≠ 2) (ma1 : a1 < 2 ^ 20) (c2 : Ans (d + 8) 140 [.ref 2, .int (nI id)] S1 (some (.int (nI a1))) S2) (c3 : Ans (d + 8) 230 [.ref 49, .int (nI 91)] S2 none S3) (hB : ∀ lv1 : sm_L, sm_get lv1 0 = some (.ref 49) → sm_get lv1 1 = some (.int (nI id)) → sm_get lv1 2 = some (.int (nI 0)) → sm_get lv1 3 = some (.int (nI a1)) → sm_get lv1 4 = some (.int (nI 0)) → Bod (d + 8) 229 45 lv1 [] (S3) v Sf) : Bod (d + 8) 229 0 [(0, .ref 49), (1, .int (nI id))] [] S v Sf := by
  refine Bod.go dc_229_0 rfl ?_
  refine Bod.get dc_229_1 fr_229_9 (mk_49 _) rfl ?_
  refine Bod.go dc_229_4 rfl ?_
  refine Bod.virt (r := []) dc_229_5 kr_229_94 ⟨Or.inr rfl, ow_138, cl_2⟩ (by rw [np_138]; rfl) (by rw [np_138]; rfl) (ob_of (mk_2 _)) (Nat.le_of_ble_eq_true rfl) (c1  ) ?_
  show Bod _ _ _ _ [_] _ _ _
  refine Bod.ic 2 (by decide) dc_229_8 ?_
  refine Bod.icT dc_229_9 rfl (k2_ne_T (k_ne a 2 rfl rfl (by omega) (by omega) (by omega))) ?_
  refine Bod.ic 0 (by decide) dc_229_16 ?_
  refine Bod.istn dc_229_17 (by rw [ml_229]; exact Nat.le_of_ble_eq_true rfl) ?_
  refine Bod.go dc_229_18 rfl ?_
  refine Bod.get dc_229_19 fr_229_9 (mk_49 _) rfl ?_
  refine Bod.go dc_229_22 rfl ?_
  refine Bod.virt (r := []) dc_229_23 kr_229_97 ⟨Or.inr rfl, ow_140, cl_2⟩ (by rw [np_140]; rfl) (by rw [np_140]; rfl) (ob_of (mk_2 _)) (Nat.le_of_ble_eq_true rfl) (c2  ) ?_
  show Bod _ _ _ _ [_] _ _ _
  refine Bod.istn dc_229_26 (by rw [ml_229]; exact Nat.le_of_ble_eq_true rfl) ?_
  refine Bod.go dc_229_27 rfl ?_
  refine Bod.go dc_229_28 rfl ?_
  refine Bod.ifT dc_229_29 rfl (k1_eq_T (k_eq 0 0 rfl rfl (by omega))) ?_
  refine Bod.bip 91 (by decide) dc_229_37 ?_
  refine Bod.virt (r := []) dc_229_39 kr_229_171 ⟨Or.inl rfl, ow_230, cl_0⟩ (by rw [np_230]; rfl) (by rw [np_230]; rfl) (ob_of (mk_49 _)) (Nat.le_of_ble_eq_true rfl) (c3  ) ?_
  show Bod _ _ _ _ [] _ _ _
  refine Bod.ic 0 (by decide) dc_229_42 ?_
  refine Bod.ist dc_229_43 (by rw [ml_229]; exact Nat.le_of_ble_eq_true rfl) ?_
  exact hB _ (by first | rfl | exact (by repeat (first | exact rfl | exact sm_get_p1 | exact sm_get_p2e | refine sm_get_p1m (by decide) (by decide) ?_ | refine sm_get_p1n (by decide) rfl ?_ | refine sm_get_p2n (by decide) (by decide) rfl ?_ | refine sm_get_p2m (by decide) (by decide) (by decide) ?_))) (by first | rfl | exact (by repeat (first | exact rfl | exact sm_get_p1 | exact sm_get_p2e | refine sm_get_p1m (by decide) (by decide) ?_ | refine sm_get_p1n (by decide) rfl ?_ | refine sm_get_p2n (by decide) (by decide) rfl ?_ | refine sm_get_p2m (by decide) (by decide) (by decide) ?_))) (by first | rfl | exact (by repeat (first | exact rfl | exact sm_get_p1 | exact sm_get_p2e | refine sm_get_p1m (by decide) (by decide) ?_ | refine sm_get_p1n (by decide) rfl ?_ | refine sm_get_p2n (by decide) (by decide) rfl ?_ | refine sm_get_p2m (by decide) (by decide) (by decide) ?_))) (by first | rfl | exact (by repeat (first | exact rfl | exact sm_get_p1 | exact sm_get_p2e | refine sm_get_p1m (by decide) (by decide) ?_ | refine sm_get_p1n (by decide) rfl ?_ | refine sm_get_p2n (by decide) (by decide) rfl ?_ | refine sm_get_p2m (by decide) (by decide) (by decide) ?_))) (by first | rfl | exact (by repeat (first | exact rfl | exact sm_get_p1 | exact sm_get_p2e | refine sm_get_p1m (by decide) (by decide) ?_ | refine sm_get_p1n (by decide) rfl ?_ | refine sm_get_p2n (by decide) (by decide) rfl ?_ | refine sm_get_p2m (by decide) (by decide) (by decide) ?_)))
theorem mWi_2 {d : Nat} {S Sf : cS} {v : Option Value} {id : Nat} {S1 : cS} {a : Nat} {S2 : cS} {a1 : Nat} {S3 : cS} (mid : id < 2 ^ 20) (ma : a < 2 ^ 20) (c1 : Ans (d + 8) 138 [.ref 2, .int (nI id)] S (some (.int (nI a))) S1) (b1 : a = 2) (ma1 : a1 < 2 ^ 20) (c2 : Ans (d + 8) 140 [.ref 2, .int (nI id)] S1 (some (.int (nI a1))) S2) (c3 : Ans (d + 8) 230 [.ref 49, .int (nI 123)] S2 none S3) (hB : ∀ lv1 : sm_L, sm_get lv1 0 = some (.ref 49) → sm_get lv1 1 = some (.int (nI id)) → sm_get lv1 2 = some (.int (nI 1)) → sm_get lv1 3 = some (.int (nI a1)) → sm_get lv1 4 = some (.int (nI 0)) → Bod (d + 8) 229 45 lv1 [] (S3) v Sf) : Bod (d + 8) 229 0 [(0, .ref 49), (1, .int (nI id))] [] S v Sf := by
  refine Bod.go dc_229_0 rfl ?_
  refine Bod.get dc_229_1 fr_229_9 (mk_49 _) rfl ?_
  refine Bod.go dc_229_4 rfl ?_
  refine Bod.virt (r := []) dc_229_5 kr_229_94 ⟨Or.inr rfl, ow_138, cl_2⟩ (by rw [np_138]; rfl) (by rw [np_138]; rfl) (ob_of (mk_2 _)) (Nat.le_of_ble_eq_true rfl) (c1  ) ?_
  show Bod _ _ _ _ [_] _ _ _
  refine Bod.ic 2 (by decide) dc_229_8 ?_
  refine Bod.icF dc_229_9 rfl (k2_ne_F (k_eq a 2 rfl rfl (by omega))) ?_
  refine Bod.ic 1 (by decide) dc_229_12 ?_
  refine Bod.go dc_229_13 rfl ?_
  refine Bod.istn dc_229_17 (by rw [ml_229]; exact Nat.le_of_ble_eq_true rfl) ?_
  refine Bod.go dc_229_18 rfl ?_
  refine Bod.get dc_229_19 fr_229_9 (mk_49 _) rfl ?_
  refine Bod.go dc_229_22 rfl ?_
  refine Bod.virt (r := []) dc_229_23 kr_229_97 ⟨Or.inr rfl, ow_140, cl_2⟩ (by rw [np_140]; rfl) (by rw [np_140]; rfl) (ob_of (mk_2 _)) (Nat.le_of_ble_eq_true rfl) (c2  ) ?_
  show Bod _ _ _ _ [_] _ _ _
  refine Bod.istn dc_229_26 (by rw [ml_229]; exact Nat.le_of_ble_eq_true rfl) ?_
  refine Bod.go dc_229_27 rfl ?_
  refine Bod.go dc_229_28 rfl ?_
  refine Bod.ifF dc_229_29 rfl (k1_eq_F (k_ne 1 0 rfl rfl (by omega) (by omega) (by omega))) ?_
  refine Bod.bip 123 (by decide) dc_229_32 ?_
  refine Bod.go dc_229_34 rfl ?_
  refine Bod.virt (r := []) dc_229_39 kr_229_171 ⟨Or.inl rfl, ow_230, cl_0⟩ (by rw [np_230]; rfl) (by rw [np_230]; rfl) (ob_of (mk_49 _)) (Nat.le_of_ble_eq_true rfl) (c3  ) ?_
  show Bod _ _ _ _ [] _ _ _
  refine Bod.ic 0 (by decide) dc_229_42 ?_
  refine Bod.ist dc_229_43 (by rw [ml_229]; exact Nat.le_of_ble_eq_true rfl) ?_
  exact hB _ (by first | rfl | exact (by repeat (first | exact rfl | exact sm_get_p1 | exact sm_get_p2e | refine sm_get_p1m (by decide) (by decide) ?_ | refine sm_get_p1n (by decide) rfl ?_ | refine sm_get_p2n (by decide) (by decide) rfl ?_ | refine sm_get_p2m (by decide) (by decide) (by decide) ?_))) (by first | rfl | exact (by repeat (first | exact rfl | exact sm_get_p1 | exact sm_get_p2e | refine sm_get_p1m (by decide) (by decide) ?_ | refine sm_get_p1n (by decide) rfl ?_ | refine sm_get_p2n (by decide) (by decide) rfl ?_ | refine sm_get_p2m (by decide) (by decide) (by decide) ?_))) (by first | rfl | exact (by repeat (first | exact rfl | exact sm_get_p1 | exact sm_get_p2e | refine sm_get_p1m (by decide) (by decide) ?_ | refine sm_get_p1n (by decide) rfl ?_ | refine sm_get_p2n (by decide) (by decide) rfl ?_ | refine sm_get_p2m (by decide) (by decide) (by decide) ?_))) (by first | rfl | exact (by repeat (first | exact rfl | exact sm_get_p1 | exact sm_get_p2e | refine sm_get_p1m (by decide) (by decide) ?_ | refine sm_get_p1n (by decide) rfl ?_ | refine sm_get_p2n (by decide) (by decide) rfl ?_ | refine sm_get_p2m (by decide) (by decide) (by decide) ?_))) (by first | rfl | exact (by repeat (first | exact rfl | exact sm_get_p1 | exact sm_get_p2e | refine sm_get_p1m (by decide) (by decide) ?_ | refine sm_get_p1n (by decide) rfl ?_ | refine sm_get_p2n (by decide) (by decide) rfl ?_ | refine sm_get_p2m (by decide) (by decide) (by decide) ?_)))
theorem mWiL_1 {d : Nat} {S : cS} {lv : sm_L} {id : Nat} {sz : Nat} {ni : Nat} {S1 : cS} (q0 : sm_get lv 0 = some (.ref 49)) (q1 : sm_get lv 1 = some (.int (nI id))) (q2 : sm_get lv 2 = some (.int (nI 0))) (q3 : sm_get lv 3 = some (.int (nI sz))) (q4 : sm_get lv 4 = some (.int (nI ni))) (mid : id < 2 ^ 20) (msz : sz < 2 ^ 20) (mni : ni < 2 ^ 20) (b1 : sz ≤ ni) (c1 : Ans (d + 8) 230 [.ref 49, .int (nI 93)] S none S1) : Bod (d + 8) 229 45 lv [] S none (S1) := by
  refine Bod.ildG dc_229_45 (by repeat (first | exact q4 | exact sm_get_p1 | exact sm_get_p2e | refine sm_get_p1m (by decide) (by decide) ?_ | refine sm_get_p1n (by decide) rfl ?_ | refine sm_get_p2n (by decide) (by decide) rfl ?_ | refine sm_get_p2m (by decide) (by decide) (by decide) ?_)) ?_
  refine Bod.ildnG dc_229_47 (by repeat (first | exact q3 | exact sm_get_p1 | exact sm_get_p2e | refine sm_get_p1m (by decide) (by decide) ?_ | refine sm_get_p1n (by decide) rfl ?_ | refine sm_get_p2n (by decide) (by decide) rfl ?_ | refine sm_get_p2m (by decide) (by decide) (by decide) ?_)) ?_
  refine Bod.icT dc_229_48 rfl (k2_ge_T ni sz rfl rfl (by omega) (by omega)) ?_
  refine Bod.aldnG dc_229_126 (by repeat (first | exact q0 | exact sm_get_p1 | exact sm_get_p2e | refine sm_get_p1m (by decide) (by decide) ?_ | refine sm_get_p1n (by decide) rfl ?_ | refine sm_get_p2n (by decide) (by decide) rfl ?_ | refine sm_get_p2m (by decide) (by decide) (by decide) ?_)) ?_
  refine Bod.ildnG dc_229_127 (by repeat (first | exact q2 | exact sm_get_p1 | exact sm_get_p2e | refine sm_get_p1m (by decide) (by decide) ?_ | refine sm_get_p1n (by decide) rfl ?_ | refine sm_get_p2n (by decide) (by decide) rfl ?_ | refine sm_get_p2m (by decide) (by decide) (by decide) ?_)) ?_
  refine Bod.ifT dc_229_128 rfl (k1_eq_T (k_eq 0 0 rfl rfl (by omega))) ?_
  refine Bod.bip 93 (by decide) dc_229_136 ?_
  refine Bod.virt (r := []) dc_229_138 kr_229_171 ⟨Or.inl rfl, ow_230, cl_0⟩ (by rw [np_230]; rfl) (by rw [np_230]; rfl) (ob_of (mk_49 _)) (Nat.le_of_ble_eq_true rfl) (c1  ) ?_
  show Bod _ _ _ _ [] _ _ _
  exact Bod.retV dc_229_141 rt_229
theorem mWiL_2 {d : Nat} {S Sf : cS} {v : Option Value} {lv : sm_L} {id : Nat} {sz : Nat} {ni : Nat} {S1 : cS} {u : Int64} {S2 : cS} {u1 : Int64} {S3 : cS} (q0 : sm_get lv 0 = some (.ref 49)) (q1 : sm_get lv 1 = some (.int (nI id))) (q2 : sm_get lv 2 = some (.int (nI 0))) (q3 : sm_get lv 3 = some (.int (nI sz))) (q4 : sm_get lv 4 = some (.int (nI ni))) (mid : id < 2 ^ 20) (msz : sz < 2 ^ 20) (mni : ni < 2 ^ 20) (b1 : ni < sz) (b2 : ni ≤ 0) (c1 : Ans (d + 8) 156 [.ref 2, .int (nI id), .int (nI ni)] S (some (.long u)) S1) (c2 : Ans (d + 8) 158 [.ref 2, .int (nI id), .int (nI ni)] S1 (some (.long u1)) S2) (c3 : Ans (d + 8) 234 [.ref 49, .long u, .long u1] S2 none S3) (hB : ∀ lv1 : sm_L, sm_get lv1 0 = some (.ref 49) → sm_get lv1 1 = some (.int (nI id)) → sm_get lv1 2 = some (.int (nI 0)) → sm_get lv1 3 = some (.int (nI sz)) → sm_get lv1 4 = some (.int (nI (ni + 1))) → Bod (d + 8) 229 45 lv1 [] (S3) v Sf) : Bod (d + 8) 229 45 lv [] S v Sf := by
  refine Bod.ildG dc_229_45 (by repeat (first | exact q4 | exact sm_get_p1 | exact sm_get_p2e | refine sm_get_p1m (by decide) (by decide) ?_ | refine sm_get_p1n (by decide) rfl ?_ | refine sm_get_p2n (by decide) (by decide) rfl ?_ | refine sm_get_p2m (by decide) (by decide) (by decide) ?_)) ?_
  refine Bod.ildnG dc_229_47 (by repeat (first | exact q3 | exact sm_get_p1 | exact sm_get_p2e | refine sm_get_p1m (by decide) (by decide) ?_ | refine sm_get_p1n (by decide) rfl ?_ | refine sm_get_p2n (by decide) (by decide) rfl ?_ | refine sm_get_p2m (by decide) (by decide) (by decide) ?_)) ?_
  refine Bod.icF dc_229_48 rfl (k2_ge_F ni sz rfl rfl (by omega) (by omega)) ?_
  refine Bod.ildG dc_229_51 (by repeat (first | exact q4 | exact sm_get_p1 | exact sm_get_p2e | refine sm_get_p1m (by decide) (by decide) ?_ | refine sm_get_p1n (by decide) rfl ?_ | refine sm_get_p2n (by decide) (by decide) rfl ?_ | refine sm_get_p2m (by decide) (by decide) (by decide) ?_)) ?_
  refine Bod.ifT dc_229_53 rfl (k1_le_T (k_eq ni 0 (by first | assumption | rfl | exact congrArg nI (by omega) | (simp (disch := omega) only [rI, rIe, rA, rIA, rLA, rJA, rVI, rQI, rVA, rQA, upd_at,  rAI, rLI, rJI, nI_add, pk_sub, kc_0, kc_1, kc_2, kc_3, kc_4, kc_5, reduceIte, Nat.reduceEqDiff, Nat.add_zero, rI_hold, rI_hold, rL_hold]; done)) rfl (by omega))) ?_
  refine Bod.ildnG dc_229_62 (by repeat (first | exact q2 | exact sm_get_p1 | exact sm_get_p2e | refine sm_get_p1m (by decide) (by decide) ?_ | refine sm_get_p1n (by decide) rfl ?_ | refine sm_get_p2n (by decide) (by decide) rfl ?_ | refine sm_get_p2m (by decide) (by decide) (by decide) ?_)) ?_
  refine Bod.ifT dc_229_63 rfl (k1_eq_T (k_eq 0 0 rfl rfl (by omega))) ?_
  refine Bod.aldnG dc_229_96 (by repeat (first | exact q0 | exact sm_get_p1 | exact sm_get_p2e | refine sm_get_p1m (by decide) (by decide) ?_ | refine sm_get_p1n (by decide) rfl ?_ | refine sm_get_p2n (by decide) (by decide) rfl ?_ | refine sm_get_p2m (by decide) (by decide) (by decide) ?_)) ?_
  refine Bod.aldnG dc_229_97 (by repeat (first | exact q0 | exact sm_get_p1 | exact sm_get_p2e | refine sm_get_p1m (by decide) (by decide) ?_ | refine sm_get_p1n (by decide) rfl ?_ | refine sm_get_p2n (by decide) (by decide) rfl ?_ | refine sm_get_p2m (by decide) (by decide) (by decide) ?_)) ?_
  refine Bod.get dc_229_98 fr_229_9 (mk_49 _) rfl ?_
  refine Bod.ildnG dc_229_101 (by repeat (first | exact q1 | exact sm_get_p1 | exact sm_get_p2e | refine sm_get_p1m (by decide) (by decide) ?_ | refine sm_get_p1n (by decide) rfl ?_ | refine sm_get_p2n (by decide) (by decide) rfl ?_ | refine sm_get_p2m (by decide) (by decide) (by decide) ?_)) ?_
  refine Bod.ildG dc_229_102 (by repeat (first | exact q4 | exact sm_get_p1 | exact sm_get_p2e | refine sm_get_p1m (by decide) (by decide) ?_ | refine sm_get_p1n (by decide) rfl ?_ | refine sm_get_p2n (by decide) (by decide) rfl ?_ | refine sm_get_p2m (by decide) (by decide) (by decide) ?_)) ?_
  refine Bod.virt (r := [_]) dc_229_104 kr_229_119 ⟨Or.inr rfl, ow_156, cl_2⟩ (by rw [np_156]; rfl) (by rw [np_156]; rfl) (ob_of (mk_2 _)) (Nat.le_of_ble_eq_true rfl) (c1  ) ?_
  show Bod _ _ _ _ [_, _] _ _ _
  refine Bod.aldnG dc_229_107 (by repeat (first | exact q0 | exact sm_get_p1 | exact sm_get_p2e | refine sm_get_p1m (by decide) (by decide) ?_ | refine sm_get_p1n (by decide) rfl ?_ | refine sm_get_p2n (by decide) (by decide) rfl ?_ | refine sm_get_p2m (by decide) (by decide) (by decide) ?_)) ?_
  refine Bod.get dc_229_108 fr_229_9 (mk_49 _) rfl ?_
  refine Bod.ildnG dc_229_111 (by repeat (first | exact q1 | exact sm_get_p1 | exact sm_get_p2e | refine sm_get_p1m (by decide) (by decide) ?_ | refine sm_get_p1n (by decide) rfl ?_ | refine sm_get_p2n (by decide) (by decide) rfl ?_ | refine sm_get_p2m (by decide) (by decide) (by decide) ?_)) ?_
  refine Bod.ildG dc_229_112 (by repeat (first | exact q4 | exact sm_get_p1 | exact sm_get_p2e | refine sm_get_p1m (by decide) (by decide) ?_ | refine sm_get_p1n (by decide) rfl ?_ | refine sm_get_p2n (by decide) (by decide) rfl ?_ | refine sm_get_p2m (by decide) (by decide) (by decide) ?_)) ?_
  refine Bod.virt (r := [_, _]) dc_229_114 kr_229_123 ⟨Or.inr rfl, ow_158, cl_2⟩ (by rw [np_158]; rfl) (by rw [np_158]; rfl) (ob_of (mk_2 _)) (Nat.le_of_ble_eq_true rfl) (c2  ) ?_
  show Bod _ _ _ _ [_, _, _] _ _ _
  refine Bod.virt (r := []) dc_229_117 kr_229_168 ⟨Or.inl rfl, ow_234, cl_0⟩ (by rw [np_234]; rfl) (by rw [np_234]; rfl) (ob_of (mk_49 _)) (Nat.le_of_ble_eq_true rfl) (c3  ) ?_
  show Bod _ _ _ _ [] _ _ _
  refine Bod.incN (ni + 1) (by rw [kc_1, nI_add]) dc_229_120 (by rw [ml_229]; exact Nat.le_of_ble_eq_true rfl) (by repeat (first | exact q4 | exact sm_get_p1 | exact sm_get_p2e | refine sm_get_p1m (by decide) (by decide) ?_ | refine sm_get_p1n (by decide) rfl ?_ | refine sm_get_p2n (by decide) (by decide) rfl ?_ | refine sm_get_p2m (by decide) (by decide) (by decide) ?_)) ?_
  refine Bod.go dc_229_123 rfl ?_
  exact hB _ (by repeat (first | exact q0 | exact sm_get_p1 | exact sm_get_p2e | refine sm_get_p1m (by decide) (by decide) ?_ | refine sm_get_p1n (by decide) rfl ?_ | refine sm_get_p2n (by decide) (by decide) rfl ?_ | refine sm_get_p2m (by decide) (by decide) (by decide) ?_)) (by repeat (first | exact q1 | exact sm_get_p1 | exact sm_get_p2e | refine sm_get_p1m (by decide) (by decide) ?_ | refine sm_get_p1n (by decide) rfl ?_ | refine sm_get_p2n (by decide) (by decide) rfl ?_ | refine sm_get_p2m (by decide) (by decide) (by decide) ?_)) (by repeat (first | exact q2 | exact sm_get_p1 | exact sm_get_p2e | refine sm_get_p1m (by decide) (by decide) ?_ | refine sm_get_p1n (by decide) rfl ?_ | refine sm_get_p2n (by decide) (by decide) rfl ?_ | refine sm_get_p2m (by decide) (by decide) (by decide) ?_)) (by repeat (first | exact q3 | exact sm_get_p1 | exact sm_get_p2e | refine sm_get_p1m (by decide) (by decide) ?_ | refine sm_get_p1n (by decide) rfl ?_ | refine sm_get_p2n (by decide) (by decide) rfl ?_ | refine sm_get_p2m (by decide) (by decide) (by decide) ?_)) (by repeat (first | exact q0 | exact sm_get_p1 | exact sm_get_p2e | refine sm_get_p1m (by decide) (by decide) ?_ | refine sm_get_p1n (by decide) rfl ?_ | refine sm_get_p2n (by decide) (by decide) rfl ?_ | refine sm_get_p2m (by decide) (by decide) (by decide) ?_))
theorem mWiL_3 {d : Nat} {S Sf : cS} {v : Option Value} {lv : sm_L} {id : Nat} {sz : Nat} {ni : Nat} {S1 : cS} {S2 : cS} {u : Int64} {S3 : cS} {u1 : Int64} {S4 : cS} (q0 : sm_get lv 0 = some (.ref 49)) (q1 : sm_get lv 1 = some (.int (nI id))) (q2 : sm_get lv 2 = some (.int (nI 0))) (q3 : sm_get lv 3 = some (.int (nI sz))) (q4 : sm_get lv 4 = some (.int (nI ni))) (mid : id < 2 ^ 20) (msz : sz < 2 ^ 20) (mni : ni < 2 ^ 20) (b1 : ni < sz) (b2 : 0 < ni) (c1 : Ans (d + 8) 231 [.ref 49, .retAddr (2 * 4)] S none S1) (c2 : Ans (d + 8) 156 [.ref 2, .int (nI id), .int (nI ni)] S1 (some (.long u)) S2) (c3 : Ans (d + 8) 158 [.ref 2, .int (nI id), .int (nI ni)] S2 (some (.long u1)) S3) (c4 : Ans (d + 8) 234 [.ref 49, .long u, .long u1] S3 none S4) (hB : ∀ lv1 : sm_L, sm_get lv1 0 = some (.ref 49) → sm_get lv1 1 = some (.int (nI id)) → sm_get lv1 2 = some (.int (nI 0)) → sm_get lv1 3 = some (.int (nI sz)) → sm_get lv1 4 = some (.int (nI (ni + 1))) → Bod (d + 8) 229 45 lv1 [] (S4) v Sf) : Bod (d + 8) 229 45 lv [] S v Sf := by
  refine Bod.ildG dc_229_45 (by repeat (first | exact q4 | exact sm_get_p1 | exact sm_get_p2e | refine sm_get_p1m (by decide) (by decide) ?_ | refine sm_get_p1n (by decide) rfl ?_ | refine sm_get_p2n (by decide) (by decide) rfl ?_ | refine sm_get_p2m (by decide) (by decide) (by decide) ?_)) ?_
  refine Bod.ildnG dc_229_47 (by repeat (first | exact q3 | exact sm_get_p1 | exact sm_get_p2e | refine sm_get_p1m (by decide) (by decide) ?_ | refine sm_get_p1n (by decide) rfl ?_ | refine sm_get_p2n (by decide) (by decide) rfl ?_ | refine sm_get_p2m (by decide) (by decide) (by decide) ?_)) ?_
  refine Bod.icF dc_229_48 rfl (k2_ge_F ni sz rfl rfl (by omega) (by omega)) ?_
  refine Bod.ildG dc_229_51 (by repeat (first | exact q4 | exact sm_get_p1 | exact sm_get_p2e | refine sm_get_p1m (by decide) (by decide) ?_ | refine sm_get_p1n (by decide) rfl ?_ | refine sm_get_p2n (by decide) (by decide) rfl ?_ | refine sm_get_p2m (by decide) (by decide) (by decide) ?_)) ?_
  refine Bod.ifF dc_229_53 rfl (k1_le_F ni rfl (by omega) (by omega)) ?_
  refine Bod.aldnG dc_229_56 (by repeat (first | exact q0 | exact sm_get_p1 | exact sm_get_p2e | refine sm_get_p1m (by decide) (by decide) ?_ | refine sm_get_p1n (by decide) rfl ?_ | refine sm_get_p2n (by decide) (by decide) rfl ?_ | refine sm_get_p2m (by decide) (by decide) (by decide) ?_)) ?_
  refine Bod.ldcT dc_229_57 cs_229_224 ?_
  refine Bod.virt (r := []) dc_229_59 kr_229_206 ⟨Or.inl rfl, ow_231, cl_0⟩ (by rw [np_231]; rfl) (by rw [np_231]; rfl) (ob_of (mk_49 _)) (Nat.le_of_ble_eq_true rfl) (c1  ) ?_
  show Bod _ _ _ _ [] _ _ _
  refine Bod.ildnG dc_229_62 (by repeat (first | exact q2 | exact sm_get_p1 | exact sm_get_p2e | refine sm_get_p1m (by decide) (by decide) ?_ | refine sm_get_p1n (by decide) rfl ?_ | refine sm_get_p2n (by decide) (by decide) rfl ?_ | refine sm_get_p2m (by decide) (by decide) (by decide) ?_)) ?_
  refine Bod.ifT dc_229_63 rfl (k1_eq_T (k_eq 0 0 rfl rfl (by omega))) ?_
  refine Bod.aldnG dc_229_96 (by repeat (first | exact q0 | exact sm_get_p1 | exact sm_get_p2e | refine sm_get_p1m (by decide) (by decide) ?_ | refine sm_get_p1n (by decide) rfl ?_ | refine sm_get_p2n (by decide) (by decide) rfl ?_ | refine sm_get_p2m (by decide) (by decide) (by decide) ?_)) ?_
  refine Bod.aldnG dc_229_97 (by repeat (first | exact q0 | exact sm_get_p1 | exact sm_get_p2e | refine sm_get_p1m (by decide) (by decide) ?_ | refine sm_get_p1n (by decide) rfl ?_ | refine sm_get_p2n (by decide) (by decide) rfl ?_ | refine sm_get_p2m (by decide) (by decide) (by decide) ?_)) ?_
  refine Bod.get dc_229_98 fr_229_9 (mk_49 _) rfl ?_
  refine Bod.ildnG dc_229_101 (by repeat (first | exact q1 | exact sm_get_p1 | exact sm_get_p2e | refine sm_get_p1m (by decide) (by decide) ?_ | refine sm_get_p1n (by decide) rfl ?_ | refine sm_get_p2n (by decide) (by decide) rfl ?_ | refine sm_get_p2m (by decide) (by decide) (by decide) ?_)) ?_
  refine Bod.ildG dc_229_102 (by repeat (first | exact q4 | exact sm_get_p1 | exact sm_get_p2e | refine sm_get_p1m (by decide) (by decide) ?_ | refine sm_get_p1n (by decide) rfl ?_ | refine sm_get_p2n (by decide) (by decide) rfl ?_ | refine sm_get_p2m (by decide) (by decide) (by decide) ?_)) ?_
  refine Bod.virt (r := [_]) dc_229_104 kr_229_119 ⟨Or.inr rfl, ow_156, cl_2⟩ (by rw [np_156]; rfl) (by rw [np_156]; rfl) (ob_of (mk_2 _)) (Nat.le_of_ble_eq_true rfl) (c2  ) ?_
  show Bod _ _ _ _ [_, _] _ _ _
  refine Bod.aldnG dc_229_107 (by repeat (first | exact q0 | exact sm_get_p1 | exact sm_get_p2e | refine sm_get_p1m (by decide) (by decide) ?_ | refine sm_get_p1n (by decide) rfl ?_ | refine sm_get_p2n (by decide) (by decide) rfl ?_ | refine sm_get_p2m (by decide) (by decide) (by decide) ?_)) ?_
  refine Bod.get dc_229_108 fr_229_9 (mk_49 _) rfl ?_
  refine Bod.ildnG dc_229_111 (by repeat (first | exact q1 | exact sm_get_p1 | exact sm_get_p2e | refine sm_get_p1m (by decide) (by decide) ?_ | refine sm_get_p1n (by decide) rfl ?_ | refine sm_get_p2n (by decide) (by decide) rfl ?_ | refine sm_get_p2m (by decide) (by decide) (by decide) ?_)) ?_
  refine Bod.ildG dc_229_112 (by repeat (first | exact q4 | exact sm_get_p1 | exact sm_get_p2e | refine sm_get_p1m (by decide) (by decide) ?_ | refine sm_get_p1n (by decide) rfl ?_ | refine sm_get_p2n (by decide) (by decide) rfl ?_ | refine sm_get_p2m (by decide) (by decide) (by decide) ?_)) ?_
  refine Bod.virt (r := [_, _]) dc_229_114 kr_229_123 ⟨Or.inr rfl, ow_158, cl_2⟩ (by rw [np_158]; rfl) (by rw [np_158]; rfl) (ob_of (mk_2 _)) (Nat.le_of_ble_eq_true rfl) (c3  ) ?_
  show Bod _ _ _ _ [_, _, _] _ _ _
  refine Bod.virt (r := []) dc_229_117 kr_229_168 ⟨Or.inl rfl, ow_234, cl_0⟩ (by rw [np_234]; rfl) (by rw [np_234]; rfl) (ob_of (mk_49 _)) (Nat.le_of_ble_eq_true rfl) (c4  ) ?_
  show Bod _ _ _ _ [] _ _ _
  refine Bod.incN (ni + 1) (by rw [kc_1, nI_add]) dc_229_120 (by rw [ml_229]; exact Nat.le_of_ble_eq_true rfl) (by repeat (first | exact q4 | exact sm_get_p1 | exact sm_get_p2e | refine sm_get_p1m (by decide) (by decide) ?_ | refine sm_get_p1n (by decide) rfl ?_ | refine sm_get_p2n (by decide) (by decide) rfl ?_ | refine sm_get_p2m (by decide) (by decide) (by decide) ?_)) ?_
  refine Bod.go dc_229_123 rfl ?_
  exact hB _ (by repeat (first | exact q0 | exact sm_get_p1 | exact sm_get_p2e | refine sm_get_p1m (by decide) (by decide) ?_ | refine sm_get_p1n (by decide) rfl ?_ | refine sm_get_p2n (by decide) (by decide) rfl ?_ | refine sm_get_p2m (by decide) (by decide) (by decide) ?_)) (by repeat (first | exact q1 | exact sm_get_p1 | exact sm_get_p2e | refine sm_get_p1m (by decide) (by decide) ?_ | refine sm_get_p1n (by decide) rfl ?_ | refine sm_get_p2n (by decide) (by decide) rfl ?_ | refine sm_get_p2m (by decide) (by decide) (by decide) ?_)) (by repeat (first | exact q2 | exact sm_get_p1 | exact sm_get_p2e | refine sm_get_p1m (by decide) (by decide) ?_ | refine sm_get_p1n (by decide) rfl ?_ | refine sm_get_p2n (by decide) (by decide) rfl ?_ | refine sm_get_p2m (by decide) (by decide) (by decide) ?_)) (by repeat (first | exact q3 | exact sm_get_p1 | exact sm_get_p2e | refine sm_get_p1m (by decide) (by decide) ?_ | refine sm_get_p1n (by decide) rfl ?_ | refine sm_get_p2n (by decide) (by decide) rfl ?_ | refine sm_get_p2m (by decide) (by decide) (by decide) ?_)) (by repeat (first | exact q0 | exact sm_get_p1 | exact sm_get_p2e | refine sm_get_p1m (by decide) (by decide) ?_ | refine sm_get_p1n (by decide) rfl ?_ | refine sm_get_p2n (by decide) (by decide) rfl ?_ | refine sm_get_p2m (by decide) (by decide) (by decide) ?_))
theorem mWiD_1 {d : Nat} {S : cS} {lv : sm_L} {id : Nat} {sz : Nat} {ni : Nat} {S1 : cS} (q0 : sm_get lv 0 = some (.ref 49)) (q1 : sm_get lv 1 = some (.int (nI id))) (q2 : sm_get lv 2 = some (.int (nI 1))) (q3 : sm_get lv 3 = some (.int (nI sz))) (q4 : sm_get lv 4 = some (.int (nI ni))) (mid : id < 2 ^ 20) (msz : sz < 2 ^ 20) (mni : ni < 2 ^ 20) (b1 : sz ≤ ni) (c1 : Ans (d + 8) 230 [.ref 49, .int (nI 125)] S none S1) : Bod (d + 8) 229 45 lv [] S none (S1) := by
  refine Bod.ildG dc_229_45 (by repeat (first | exact q4 | exact sm_get_p1 | exact sm_get_p2e | refine sm_get_p1m (by decide) (by decide) ?_ | refine sm_get_p1n (by decide) rfl ?_ | refine sm_get_p2n (by decide) (by decide) rfl ?_ | refine sm_get_p2m (by decide) (by decide) (by decide) ?_)) ?_
  refine Bod.ildnG dc_229_47 (by repeat (first | exact q3 | exact sm_get_p1 | exact sm_get_p2e | refine sm_get_p1m (by decide) (by decide) ?_ | refine sm_get_p1n (by decide) rfl ?_ | refine sm_get_p2n (by decide) (by decide) rfl ?_ | refine sm_get_p2m (by decide) (by decide) (by decide) ?_)) ?_
  refine Bod.icT dc_229_48 rfl (k2_ge_T ni sz rfl rfl (by omega) (by omega)) ?_
  refine Bod.aldnG dc_229_126 (by repeat (first | exact q0 | exact sm_get_p1 | exact sm_get_p2e | refine sm_get_p1m (by decide) (by decide) ?_ | refine sm_get_p1n (by decide) rfl ?_ | refine sm_get_p2n (by decide) (by decide) rfl ?_ | refine sm_get_p2m (by decide) (by decide) (by decide) ?_)) ?_
  refine Bod.ildnG dc_229_127 (by repeat (first | exact q2 | exact sm_get_p1 | exact sm_get_p2e | refine sm_get_p1m (by decide) (by decide) ?_ | refine sm_get_p1n (by decide) rfl ?_ | refine sm_get_p2n (by decide) (by decide) rfl ?_ | refine sm_get_p2m (by decide) (by decide) (by decide) ?_)) ?_
  refine Bod.ifF dc_229_128 rfl (k1_eq_F (k_ne 1 0 rfl rfl (by omega) (by omega) (by omega))) ?_
  refine Bod.bip 125 (by decide) dc_229_131 ?_
  refine Bod.go dc_229_133 rfl ?_
  refine Bod.virt (r := []) dc_229_138 kr_229_171 ⟨Or.inl rfl, ow_230, cl_0⟩ (by rw [np_230]; rfl) (by rw [np_230]; rfl) (ob_of (mk_49 _)) (Nat.le_of_ble_eq_true rfl) (c1  ) ?_
  show Bod _ _ _ _ [] _ _ _
  exact Bod.retV dc_229_141 rt_229
theorem mWiD_2 {d : Nat} {S Sf : cS} {v : Option Value} {lv : sm_L} {id : Nat} {sz : Nat} {ni : Nat} {S1 : cS} {u : Int64} {S2 : cS} {u1 : Int64} {S3 : cS} {S4 : cS} {S5 : cS} {u2 : Int64} {S6 : cS} {u3 : Int64} {S7 : cS} (q0 : sm_get lv 0 = some (.ref 49)) (q1 : sm_get lv 1 = some (.int (nI id))) (q2 : sm_get lv 2 = some (.int (nI 1))) (q3 : sm_get lv 3 = some (.int (nI sz))) (q4 : sm_get lv 4 = some (.int (nI ni))) (mid : id < 2 ^ 20) (msz : sz < 2 ^ 20) (mni : ni < 2 ^ 20) (b1 : ni < sz) (b2 : ni ≤ 0) (c1 : Ans (d + 8) 232 [.ref 2, .int (nI id), .int (nI ni)] S (some (.long u)) S1) (c2 : Ans (d + 8) 233 [.ref 2, .int (nI id), .int (nI ni)] S1 (some (.long u1)) S2) (c3 : Ans (d + 8) 234 [.ref 49, .long u, .long u1] S2 none S3) (c4 : Ans (d + 8) 231 [.ref 49, .retAddr (2 * 12)] S3 none S4) (c5 : Ans (d + 8) 156 [.ref 2, .int (nI id), .int (nI ni)] S4 (some (.long u2)) S5) (c6 : Ans (d + 8) 158 [.ref 2, .int (nI id), .int (nI ni)] S5 (some (.long u3)) S6) (c7 : Ans (d + 8) 234 [.ref 49, .long u2, .long u3] S6 none S7) (hB : ∀ lv1 : sm_L, sm_get lv1 0 = some (.ref 49) → sm_get lv1 1 = some (.int (nI id)) → sm_get lv1 2 = some (.int (nI 1)) → sm_get lv1 3 = some (.int (nI sz)) → sm_get lv1 4 = some (.int (nI (ni + 1))) → Bod (d + 8) 229 45 lv1 [] (S7) v Sf) : Bod (d + 8) 229 45 lv [] S v Sf := by
  refine Bod.ildG dc_229_45 (by repeat (first | exact q4 | exact sm_get_p1 | exact sm_get_p2e | refine sm_get_p1m (by decide) (by decide) ?_ | refine sm_get_p1n (by decide) rfl ?_ | refine sm_get_p2n (by decide) (by decide) rfl ?_ | refine sm_get_p2m (by decide) (by decide) (by decide) ?_)) ?_
  refine Bod.ildnG dc_229_47 (by repeat (first | exact q3 | exact sm_get_p1 | exact sm_get_p2e | refine sm_get_p1m (by decide) (by decide) ?_ | refine sm_get_p1n (by decide) rfl ?_ | refine sm_get_p2n (by decide) (by decide) rfl ?_ | refine sm_get_p2m (by decide) (by decide) (by decide) ?_)) ?_
  refine Bod.icF dc_229_48 rfl (k2_ge_F ni sz rfl rfl (by omega) (by omega)) ?_
  refine Bod.ildG dc_229_51 (by repeat (first | exact q4 | exact sm_get_p1 | exact sm_get_p2e | refine sm_get_p1m (by decide) (by decide) ?_ | refine sm_get_p1n (by decide) rfl ?_ | refine sm_get_p2n (by decide) (by decide) rfl ?_ | refine sm_get_p2m (by decide) (by decide) (by decide) ?_)) ?_
  refine Bod.ifT dc_229_53 rfl (k1_le_T (k_eq ni 0 (by first | assumption | rfl | exact congrArg nI (by omega) | (simp (disch := omega) only [rI, rIe, rA, rIA, rLA, rJA, rVI, rQI, rVA, rQA, upd_at,  rAI, rLI, rJI, nI_add, pk_sub, kc_0, kc_1, kc_2, kc_3, kc_4, kc_5, reduceIte, Nat.reduceEqDiff, Nat.add_zero, rI_hold, rI_hold, rL_hold]; done)) rfl (by omega))) ?_
  refine Bod.ildnG dc_229_62 (by repeat (first | exact q2 | exact sm_get_p1 | exact sm_get_p2e | refine sm_get_p1m (by decide) (by decide) ?_ | refine sm_get_p1n (by decide) rfl ?_ | refine sm_get_p2n (by decide) (by decide) rfl ?_ | refine sm_get_p2m (by decide) (by decide) (by decide) ?_)) ?_
  refine Bod.ifF dc_229_63 rfl (k1_eq_F (k_ne 1 0 rfl rfl (by omega) (by omega) (by omega))) ?_
  refine Bod.aldnG dc_229_66 (by repeat (first | exact q0 | exact sm_get_p1 | exact sm_get_p2e | refine sm_get_p1m (by decide) (by decide) ?_ | refine sm_get_p1n (by decide) rfl ?_ | refine sm_get_p2n (by decide) (by decide) rfl ?_ | refine sm_get_p2m (by decide) (by decide) (by decide) ?_)) ?_
  refine Bod.aldnG dc_229_67 (by repeat (first | exact q0 | exact sm_get_p1 | exact sm_get_p2e | refine sm_get_p1m (by decide) (by decide) ?_ | refine sm_get_p1n (by decide) rfl ?_ | refine sm_get_p2n (by decide) (by decide) rfl ?_ | refine sm_get_p2m (by decide) (by decide) (by decide) ?_)) ?_
  refine Bod.get dc_229_68 fr_229_9 (mk_49 _) rfl ?_
  refine Bod.ildnG dc_229_71 (by repeat (first | exact q1 | exact sm_get_p1 | exact sm_get_p2e | refine sm_get_p1m (by decide) (by decide) ?_ | refine sm_get_p1n (by decide) rfl ?_ | refine sm_get_p2n (by decide) (by decide) rfl ?_ | refine sm_get_p2m (by decide) (by decide) (by decide) ?_)) ?_
  refine Bod.ildG dc_229_72 (by repeat (first | exact q4 | exact sm_get_p1 | exact sm_get_p2e | refine sm_get_p1m (by decide) (by decide) ?_ | refine sm_get_p1n (by decide) rfl ?_ | refine sm_get_p2n (by decide) (by decide) rfl ?_ | refine sm_get_p2m (by decide) (by decide) (by decide) ?_)) ?_
  refine Bod.virt (r := [_]) dc_229_74 kr_229_133 ⟨Or.inr rfl, ow_232, cl_2⟩ (by rw [np_232]; rfl) (by rw [np_232]; rfl) (ob_of (mk_2 _)) (Nat.le_of_ble_eq_true rfl) (c1  ) ?_
  show Bod _ _ _ _ [_, _] _ _ _
  refine Bod.aldnG dc_229_77 (by repeat (first | exact q0 | exact sm_get_p1 | exact sm_get_p2e | refine sm_get_p1m (by decide) (by decide) ?_ | refine sm_get_p1n (by decide) rfl ?_ | refine sm_get_p2n (by decide) (by decide) rfl ?_ | refine sm_get_p2m (by decide) (by decide) (by decide) ?_)) ?_
  refine Bod.get dc_229_78 fr_229_9 (mk_49 _) rfl ?_
  refine Bod.ildnG dc_229_81 (by repeat (first | exact q1 | exact sm_get_p1 | exact sm_get_p2e | refine sm_get_p1m (by decide) (by decide) ?_ | refine sm_get_p1n (by decide) rfl ?_ | refine sm_get_p2n (by decide) (by decide) rfl ?_ | refine sm_get_p2m (by decide) (by decide) (by decide) ?_)) ?_
  refine Bod.ildG dc_229_82 (by repeat (first | exact q4 | exact sm_get_p1 | exact sm_get_p2e | refine sm_get_p1m (by decide) (by decide) ?_ | refine sm_get_p1n (by decide) rfl ?_ | refine sm_get_p2n (by decide) (by decide) rfl ?_ | refine sm_get_p2m (by decide) (by decide) (by decide) ?_)) ?_
  refine Bod.virt (r := [_, _]) dc_229_84 kr_229_136 ⟨Or.inr rfl, ow_233, cl_2⟩ (by rw [np_233]; rfl) (by rw [np_233]; rfl) (ob_of (mk_2 _)) (Nat.le_of_ble_eq_true rfl) (c2  ) ?_
  show Bod _ _ _ _ [_, _, _] _ _ _
  refine Bod.virt (r := []) dc_229_87 kr_229_168 ⟨Or.inl rfl, ow_234, cl_0⟩ (by rw [np_234]; rfl) (by rw [np_234]; rfl) (ob_of (mk_49 _)) (Nat.le_of_ble_eq_true rfl) (c3  ) ?_
  show Bod _ _ _ _ [] _ _ _
  refine Bod.aldnG dc_229_90 (by repeat (first | exact q0 | exact sm_get_p1 | exact sm_get_p2e | refine sm_get_p1m (by decide) (by decide) ?_ | refine sm_get_p1n (by decide) rfl ?_ | refine sm_get_p2n (by decide) (by decide) rfl ?_ | refine sm_get_p2m (by decide) (by decide) (by decide) ?_)) ?_
  refine Bod.ldcT dc_229_91 cs_229_226 ?_
  refine Bod.virt (r := []) dc_229_93 kr_229_206 ⟨Or.inl rfl, ow_231, cl_0⟩ (by rw [np_231]; rfl) (by rw [np_231]; rfl) (ob_of (mk_49 _)) (Nat.le_of_ble_eq_true rfl) (c4  ) ?_
  show Bod _ _ _ _ [] _ _ _
  refine Bod.aldnG dc_229_96 (by repeat (first | exact q0 | exact sm_get_p1 | exact sm_get_p2e | refine sm_get_p1m (by decide) (by decide) ?_ | refine sm_get_p1n (by decide) rfl ?_ | refine sm_get_p2n (by decide) (by decide) rfl ?_ | refine sm_get_p2m (by decide) (by decide) (by decide) ?_)) ?_
  refine Bod.aldnG dc_229_97 (by repeat (first | exact q0 | exact sm_get_p1 | exact sm_get_p2e | refine sm_get_p1m (by decide) (by decide) ?_ | refine sm_get_p1n (by decide) rfl ?_ | refine sm_get_p2n (by decide) (by decide) rfl ?_ | refine sm_get_p2m (by decide) (by decide) (by decide) ?_)) ?_
  refine Bod.get dc_229_98 fr_229_9 (mk_49 _) rfl ?_
  refine Bod.ildnG dc_229_101 (by repeat (first | exact q1 | exact sm_get_p1 | exact sm_get_p2e | refine sm_get_p1m (by decide) (by decide) ?_ | refine sm_get_p1n (by decide) rfl ?_ | refine sm_get_p2n (by decide) (by decide) rfl ?_ | refine sm_get_p2m (by decide) (by decide) (by decide) ?_)) ?_
  refine Bod.ildG dc_229_102 (by repeat (first | exact q4 | exact sm_get_p1 | exact sm_get_p2e | refine sm_get_p1m (by decide) (by decide) ?_ | refine sm_get_p1n (by decide) rfl ?_ | refine sm_get_p2n (by decide) (by decide) rfl ?_ | refine sm_get_p2m (by decide) (by decide) (by decide) ?_)) ?_
  refine Bod.virt (r := [_]) dc_229_104 kr_229_119 ⟨Or.inr rfl, ow_156, cl_2⟩ (by rw [np_156]; rfl) (by rw [np_156]; rfl) (ob_of (mk_2 _)) (Nat.le_of_ble_eq_true rfl) (c5  ) ?_
  show Bod _ _ _ _ [_, _] _ _ _
  refine Bod.aldnG dc_229_107 (by repeat (first | exact q0 | exact sm_get_p1 | exact sm_get_p2e | refine sm_get_p1m (by decide) (by decide) ?_ | refine sm_get_p1n (by decide) rfl ?_ | refine sm_get_p2n (by decide) (by decide) rfl ?_ | refine sm_get_p2m (by decide) (by decide) (by decide) ?_)) ?_
  refine Bod.get dc_229_108 fr_229_9 (mk_49 _) rfl ?_
  refine Bod.ildnG dc_229_111 (by repeat (first | exact q1 | exact sm_get_p1 | exact sm_get_p2e | refine sm_get_p1m (by decide) (by decide) ?_ | refine sm_get_p1n (by decide) rfl ?_ | refine sm_get_p2n (by decide) (by decide) rfl ?_ | refine sm_get_p2m (by decide) (by decide) (by decide) ?_)) ?_
  refine Bod.ildG dc_229_112 (by repeat (first | exact q4 | exact sm_get_p1 | exact sm_get_p2e | refine sm_get_p1m (by decide) (by decide) ?_ | refine sm_get_p1n (by decide) rfl ?_ | refine sm_get_p2n (by decide) (by decide) rfl ?_ | refine sm_get_p2m (by decide) (by decide) (by decide) ?_)) ?_
  refine Bod.virt (r := [_, _]) dc_229_114 kr_229_123 ⟨Or.inr rfl, ow_158, cl_2⟩ (by rw [np_158]; rfl) (by rw [np_158]; rfl) (ob_of (mk_2 _)) (Nat.le_of_ble_eq_true rfl) (c6  ) ?_
  show Bod _ _ _ _ [_, _, _] _ _ _
  refine Bod.virt (r := []) dc_229_117 kr_229_168 ⟨Or.inl rfl, ow_234, cl_0⟩ (by rw [np_234]; rfl) (by rw [np_234]; rfl) (ob_of (mk_49 _)) (Nat.le_of_ble_eq_true rfl) (c7  ) ?_
  show Bod _ _ _ _ [] _ _ _
  refine Bod.incN (ni + 1) (by rw [kc_1, nI_add]) dc_229_120 (by rw [ml_229]; exact Nat.le_of_ble_eq_true rfl) (by repeat (first | exact q4 | exact sm_get_p1 | exact sm_get_p2e | refine sm_get_p1m (by decide) (by decide) ?_ | refine sm_get_p1n (by decide) rfl ?_ | refine sm_get_p2n (by decide) (by decide) rfl ?_ | refine sm_get_p2m (by decide) (by decide) (by decide) ?_)) ?_
  refine Bod.go dc_229_123 rfl ?_
  exact hB _ (by repeat (first | exact q0 | exact sm_get_p1 | exact sm_get_p2e | refine sm_get_p1m (by decide) (by decide) ?_ | refine sm_get_p1n (by decide) rfl ?_ | refine sm_get_p2n (by decide) (by decide) rfl ?_ | refine sm_get_p2m (by decide) (by decide) (by decide) ?_)) (by repeat (first | exact q1 | exact sm_get_p1 | exact sm_get_p2e | refine sm_get_p1m (by decide) (by decide) ?_ | refine sm_get_p1n (by decide) rfl ?_ | refine sm_get_p2n (by decide) (by decide) rfl ?_ | refine sm_get_p2m (by decide) (by decide) (by decide) ?_)) (by repeat (first | exact q2 | exact sm_get_p1 | exact sm_get_p2e | refine sm_get_p1m (by decide) (by decide) ?_ | refine sm_get_p1n (by decide) rfl ?_ | refine sm_get_p2n (by decide) (by decide) rfl ?_ | refine sm_get_p2m (by decide) (by decide) (by decide) ?_)) (by repeat (first | exact q3 | exact sm_get_p1 | exact sm_get_p2e | refine sm_get_p1m (by decide) (by decide) ?_ | refine sm_get_p1n (by decide) rfl ?_ | refine sm_get_p2n (by decide) (by decide) rfl ?_ | refine sm_get_p2m (by decide) (by decide) (by decide) ?_)) (by repeat (first | exact q0 | exact sm_get_p1 | exact sm_get_p2e | refine sm_get_p1m (by decide) (by decide) ?_ | refine sm_get_p1n (by decide) rfl ?_ | refine sm_get_p2n (by decide) (by decide) rfl ?_ | refine sm_get_p2m (by decide) (by decide) (by decide) ?_))
theorem mWiD_3 {d : Nat} {S Sf : cS} {v : Option Value} {lv : sm_L} {id : Nat} {sz : Nat} {ni : Nat} {S1 : cS} {S2 : cS} {u : Int64} {S3 : cS} {u1 : Int64} {S4 : cS} {S5 : cS} {S6 : cS} {u2 : Int64} {S7 : cS} {u3 : Int64} {S8 : cS} (q0 : sm_get lv 0 = some (.ref 49)) (q1 : sm_get lv 1 = some (.int (nI id))) (q2 : sm_get lv 2 = some (.int (nI 1))) (q3 : sm_get lv 3 = some (.int (nI sz))) (q4 : sm_get lv 4 = some (.int (nI ni))) (mid : id < 2 ^ 20) (msz : sz < 2 ^ 20) (mni : ni < 2 ^ 20) (b1 : ni < sz) (b2 : 0 < ni) (c1 : Ans (d + 8) 231 [.ref 49, .retAddr (2 * 4)] S none S1) (c2 : Ans (d + 8) 232 [.ref 2, .int (nI id), .int (nI ni)] S1 (some (.long u)) S2) (c3 : Ans (d + 8) 233 [.ref 2, .int (nI id), .int (nI ni)] S2 (some (.long u1)) S3) (c4 : Ans (d + 8) 234 [.ref 49, .long u, .long u1] S3 none S4) (c5 : Ans (d + 8) 231 [.ref 49, .retAddr (2 * 12)] S4 none S5) (c6 : Ans (d + 8) 156 [.ref 2, .int (nI id), .int (nI ni)] S5 (some (.long u2)) S6) (c7 : Ans (d + 8) 158 [.ref 2, .int (nI id), .int (nI ni)] S6 (some (.long u3)) S7) (c8 : Ans (d + 8) 234 [.ref 49, .long u2, .long u3] S7 none S8) (hB : ∀ lv1 : sm_L, sm_get lv1 0 = some (.ref 49) → sm_get lv1 1 = some (.int (nI id)) → sm_get lv1 2 = some (.int (nI 1)) → sm_get lv1 3 = some (.int (nI sz)) → sm_get lv1 4 = some (.int (nI (ni + 1))) → Bod (d + 8) 229 45 lv1 [] (S8) v Sf) : Bod (d + 8) 229 45 lv [] S v Sf := by
  refine Bod.ildG dc_229_45 (by repeat (first | exact q4 | exact sm_get_p1 | exact sm_get_p2e | refine sm_get_p1m (by decide) (by decide) ?_ | refine sm_get_p1n (by decide) rfl ?_ | refine sm_get_p2n (by decide) (by decide) rfl ?_ | refine sm_get_p2m (by decide) (by decide) (by decide) ?_)) ?_
  refine Bod.ildnG dc_229_47 (by repeat (first | exact q3 | exact sm_get_p1 | exact sm_get_p2e | refine sm_get_p1m (by decide) (by decide) ?_ | refine sm_get_p1n (by decide) rfl ?_ | refine sm_get_p2n (by decide) (by decide) rfl ?_ | refine sm_get_p2m (by decide) (by decide) (by decide) ?_)) ?_
  refine Bod.icF dc_229_48 rfl (k2_ge_F ni sz rfl rfl (by omega) (by omega)) ?_
  refine Bod.ildG dc_229_51 (by repeat (first | exact q4 | exact sm_get_p1 | exact sm_get_p2e | refine sm_get_p1m (by decide) (by decide) ?_ | refine sm_get_p1n (by decide) rfl ?_ | refine sm_get_p2n (by decide) (by decide) rfl ?_ | refine sm_get_p2m (by decide) (by decide) (by decide) ?_)) ?_
  refine Bod.ifF dc_229_53 rfl (k1_le_F ni rfl (by omega) (by omega)) ?_
  refine Bod.aldnG dc_229_56 (by repeat (first | exact q0 | exact sm_get_p1 | exact sm_get_p2e | refine sm_get_p1m (by decide) (by decide) ?_ | refine sm_get_p1n (by decide) rfl ?_ | refine sm_get_p2n (by decide) (by decide) rfl ?_ | refine sm_get_p2m (by decide) (by decide) (by decide) ?_)) ?_
  refine Bod.ldcT dc_229_57 cs_229_224 ?_
  refine Bod.virt (r := []) dc_229_59 kr_229_206 ⟨Or.inl rfl, ow_231, cl_0⟩ (by rw [np_231]; rfl) (by rw [np_231]; rfl) (ob_of (mk_49 _)) (Nat.le_of_ble_eq_true rfl) (c1  ) ?_
  show Bod _ _ _ _ [] _ _ _
  refine Bod.ildnG dc_229_62 (by repeat (first | exact q2 | exact sm_get_p1 | exact sm_get_p2e | refine sm_get_p1m (by decide) (by decide) ?_ | refine sm_get_p1n (by decide) rfl ?_ | refine sm_get_p2n (by decide) (by decide) rfl ?_ | refine sm_get_p2m (by decide) (by decide) (by decide) ?_)) ?_
  refine Bod.ifF dc_229_63 rfl (k1_eq_F (k_ne 1 0 rfl rfl (by omega) (by omega) (by omega))) ?_
  refine Bod.aldnG dc_229_66 (by repeat (first | exact q0 | exact sm_get_p1 | exact sm_get_p2e | refine sm_get_p1m (by decide) (by decide) ?_ | refine sm_get_p1n (by decide) rfl ?_ | refine sm_get_p2n (by decide) (by decide) rfl ?_ | refine sm_get_p2m (by decide) (by decide) (by decide) ?_)) ?_
  refine Bod.aldnG dc_229_67 (by repeat (first | exact q0 | exact sm_get_p1 | exact sm_get_p2e | refine sm_get_p1m (by decide) (by decide) ?_ | refine sm_get_p1n (by decide) rfl ?_ | refine sm_get_p2n (by decide) (by decide) rfl ?_ | refine sm_get_p2m (by decide) (by decide) (by decide) ?_)) ?_
  refine Bod.get dc_229_68 fr_229_9 (mk_49 _) rfl ?_
  refine Bod.ildnG dc_229_71 (by repeat (first | exact q1 | exact sm_get_p1 | exact sm_get_p2e | refine sm_get_p1m (by decide) (by decide) ?_ | refine sm_get_p1n (by decide) rfl ?_ | refine sm_get_p2n (by decide) (by decide) rfl ?_ | refine sm_get_p2m (by decide) (by decide) (by decide) ?_)) ?_
  refine Bod.ildG dc_229_72 (by repeat (first | exact q4 | exact sm_get_p1 | exact sm_get_p2e | refine sm_get_p1m (by decide) (by decide) ?_ | refine sm_get_p1n (by decide) rfl ?_ | refine sm_get_p2n (by decide) (by decide) rfl ?_ | refine sm_get_p2m (by decide) (by decide) (by decide) ?_)) ?_
  refine Bod.virt (r := [_]) dc_229_74 kr_229_133 ⟨Or.inr rfl, ow_232, cl_2⟩ (by rw [np_232]; rfl) (by rw [np_232]; rfl) (ob_of (mk_2 _)) (Nat.le_of_ble_eq_true rfl) (c2  ) ?_
  show Bod _ _ _ _ [_, _] _ _ _
  refine Bod.aldnG dc_229_77 (by repeat (first | exact q0 | exact sm_get_p1 | exact sm_get_p2e | refine sm_get_p1m (by decide) (by decide) ?_ | refine sm_get_p1n (by decide) rfl ?_ | refine sm_get_p2n (by decide) (by decide) rfl ?_ | refine sm_get_p2m (by decide) (by decide) (by decide) ?_)) ?_
  refine Bod.get dc_229_78 fr_229_9 (mk_49 _) rfl ?_
  refine Bod.ildnG dc_229_81 (by repeat (first | exact q1 | exact sm_get_p1 | exact sm_get_p2e | refine sm_get_p1m (by decide) (by decide) ?_ | refine sm_get_p1n (by decide) rfl ?_ | refine sm_get_p2n (by decide) (by decide) rfl ?_ | refine sm_get_p2m (by decide) (by decide) (by decide) ?_)) ?_
  refine Bod.ildG dc_229_82 (by repeat (first | exact q4 | exact sm_get_p1 | exact sm_get_p2e | refine sm_get_p1m (by decide) (by decide) ?_ | refine sm_get_p1n (by decide) rfl ?_ | refine sm_get_p2n (by decide) (by decide) rfl ?_ | refine sm_get_p2m (by decide) (by decide) (by decide) ?_)) ?_
  refine Bod.virt (r := [_, _]) dc_229_84 kr_229_136 ⟨Or.inr rfl, ow_233, cl_2⟩ (by rw [np_233]; rfl) (by rw [np_233]; rfl) (ob_of (mk_2 _)) (Nat.le_of_ble_eq_true rfl) (c3  ) ?_
  show Bod _ _ _ _ [_, _, _] _ _ _
  refine Bod.virt (r := []) dc_229_87 kr_229_168 ⟨Or.inl rfl, ow_234, cl_0⟩ (by rw [np_234]; rfl) (by rw [np_234]; rfl) (ob_of (mk_49 _)) (Nat.le_of_ble_eq_true rfl) (c4  ) ?_
  show Bod _ _ _ _ [] _ _ _
  refine Bod.aldnG dc_229_90 (by repeat (first | exact q0 | exact sm_get_p1 | exact sm_get_p2e | refine sm_get_p1m (by decide) (by decide) ?_ | refine sm_get_p1n (by decide) rfl ?_ | refine sm_get_p2n (by decide) (by decide) rfl ?_ | refine sm_get_p2m (by decide) (by decide) (by decide) ?_)) ?_
  refine Bod.ldcT dc_229_91 cs_229_226 ?_
  refine Bod.virt (r := []) dc_229_93 kr_229_206 ⟨Or.inl rfl, ow_231, cl_0⟩ (by rw [np_231]; rfl) (by rw [np_231]; rfl) (ob_of (mk_49 _)) (Nat.le_of_ble_eq_true rfl) (c5  ) ?_
  show Bod _ _ _ _ [] _ _ _
  refine Bod.aldnG dc_229_96 (by repeat (first | exact q0 | exact sm_get_p1 | exact sm_get_p2e | refine sm_get_p1m (by decide) (by decide) ?_ | refine sm_get_p1n (by decide) rfl ?_ | refine sm_get_p2n (by decide) (by decide) rfl ?_ | refine sm_get_p2m (by decide) (by decide) (by decide) ?_)) ?_
  refine Bod.aldnG dc_229_97 (by repeat (first | exact q0 | exact sm_get_p1 | exact sm_get_p2e | refine sm_get_p1m (by decide) (by decide) ?_ | refine sm_get_p1n (by decide) rfl ?_ | refine sm_get_p2n (by decide) (by decide) rfl ?_ | refine sm_get_p2m (by decide) (by decide) (by decide) ?_)) ?_
  refine Bod.get dc_229_98 fr_229_9 (mk_49 _) rfl ?_
  refine Bod.ildnG dc_229_101 (by repeat (first | exact q1 | exact sm_get_p1 | exact sm_get_p2e | refine sm_get_p1m (by decide) (by decide) ?_ | refine sm_get_p1n (by decide) rfl ?_ | refine sm_get_p2n (by decide) (by decide) rfl ?_ | refine sm_get_p2m (by decide) (by decide) (by decide) ?_)) ?_
  refine Bod.ildG dc_229_102 (by repeat (first | exact q4 | exact sm_get_p1 | exact sm_get_p2e | refine sm_get_p1m (by decide) (by decide) ?_ | refine sm_get_p1n (by decide) rfl ?_ | refine sm_get_p2n (by decide) (by decide) rfl ?_ | refine sm_get_p2m (by decide) (by decide) (by decide) ?_)) ?_
  refine Bod.virt (r := [_]) dc_229_104 kr_229_119 ⟨Or.inr rfl, ow_156, cl_2⟩ (by rw [np_156]; rfl) (by rw [np_156]; rfl) (ob_of (mk_2 _)) (Nat.le_of_ble_eq_true rfl) (c6  ) ?_
  show Bod _ _ _ _ [_, _] _ _ _
  refine Bod.aldnG dc_229_107 (by repeat (first | exact q0 | exact sm_get_p1 | exact sm_get_p2e | refine sm_get_p1m (by decide) (by decide) ?_ | refine sm_get_p1n (by decide) rfl ?_ | refine sm_get_p2n (by decide) (by decide) rfl ?_ | refine sm_get_p2m (by decide) (by decide) (by decide) ?_)) ?_
  refine Bod.get dc_229_108 fr_229_9 (mk_49 _) rfl ?_
  refine Bod.ildnG dc_229_111 (by repeat (first | exact q1 | exact sm_get_p1 | exact sm_get_p2e | refine sm_get_p1m (by decide) (by decide) ?_ | refine sm_get_p1n (by decide) rfl ?_ | refine sm_get_p2n (by decide) (by decide) rfl ?_ | refine sm_get_p2m (by decide) (by decide) (by decide) ?_)) ?_
  refine Bod.ildG dc_229_112 (by repeat (first | exact q4 | exact sm_get_p1 | exact sm_get_p2e | refine sm_get_p1m (by decide) (by decide) ?_ | refine sm_get_p1n (by decide) rfl ?_ | refine sm_get_p2n (by decide) (by decide) rfl ?_ | refine sm_get_p2m (by decide) (by decide) (by decide) ?_)) ?_
  refine Bod.virt (r := [_, _]) dc_229_114 kr_229_123 ⟨Or.inr rfl, ow_158, cl_2⟩ (by rw [np_158]; rfl) (by rw [np_158]; rfl) (ob_of (mk_2 _)) (Nat.le_of_ble_eq_true rfl) (c7  ) ?_
  show Bod _ _ _ _ [_, _, _] _ _ _
  refine Bod.virt (r := []) dc_229_117 kr_229_168 ⟨Or.inl rfl, ow_234, cl_0⟩ (by rw [np_234]; rfl) (by rw [np_234]; rfl) (ob_of (mk_49 _)) (Nat.le_of_ble_eq_true rfl) (c8  ) ?_
  show Bod _ _ _ _ [] _ _ _
  refine Bod.incN (ni + 1) (by rw [kc_1, nI_add]) dc_229_120 (by rw [ml_229]; exact Nat.le_of_ble_eq_true rfl) (by repeat (first | exact q4 | exact sm_get_p1 | exact sm_get_p2e | refine sm_get_p1m (by decide) (by decide) ?_ | refine sm_get_p1n (by decide) rfl ?_ | refine sm_get_p2n (by decide) (by decide) rfl ?_ | refine sm_get_p2m (by decide) (by decide) (by decide) ?_)) ?_
  refine Bod.go dc_229_123 rfl ?_
  exact hB _ (by repeat (first | exact q0 | exact sm_get_p1 | exact sm_get_p2e | refine sm_get_p1m (by decide) (by decide) ?_ | refine sm_get_p1n (by decide) rfl ?_ | refine sm_get_p2n (by decide) (by decide) rfl ?_ | refine sm_get_p2m (by decide) (by decide) (by decide) ?_)) (by repeat (first | exact q1 | exact sm_get_p1 | exact sm_get_p2e | refine sm_get_p1m (by decide) (by decide) ?_ | refine sm_get_p1n (by decide) rfl ?_ | refine sm_get_p2n (by decide) (by decide) rfl ?_ | refine sm_get_p2m (by decide) (by decide) (by decide) ?_)) (by repeat (first | exact q2 | exact sm_get_p1 | exact sm_get_p2e | refine sm_get_p1m (by decide) (by decide) ?_ | refine sm_get_p1n (by decide) rfl ?_ | refine sm_get_p2n (by decide) (by decide) rfl ?_ | refine sm_get_p2m (by decide) (by decide) (by decide) ?_)) (by repeat (first | exact q3 | exact sm_get_p1 | exact sm_get_p2e | refine sm_get_p1m (by decide) (by decide) ?_ | refine sm_get_p1n (by decide) rfl ?_ | refine sm_get_p2n (by decide) (by decide) rfl ?_ | refine sm_get_p2m (by decide) (by decide) (by decide) ?_)) (by repeat (first | exact q0 | exact sm_get_p1 | exact sm_get_p2e | refine sm_get_p1m (by decide) (by decide) ?_ | refine sm_get_p1n (by decide) rfl ?_ | refine sm_get_p2n (by decide) (by decide) rfl ?_ | refine sm_get_p2m (by decide) (by decide) (by decide) ?_))
theorem xsw_234_4 : ∀ b, b < 64 → (b = 2 ∨ b = 3 ∨ b = 4 ∨ sm_br (.tableswitch (91) 2 4 #[28, 36, 57]) 28 4 [.int (nI b)] = some (95, [])) := by decide +kernel
theorem mWp_1 {d : Nat} {S : cS} {xh : Int64} {xl : Int64} {S1 : cS} {a : Nat} {S2 : cS} (ma : a < 2 ^ 20) (c1 : Ans (d + 8) 134 [.long xh] S (some (.int (nI a))) S1) (sw3 : a = 2) (c2 : Ans (d + 8) 235 [.ref 49, .long xl] S1 none S2) : Bod (d + 8) 234 0 [(0, .ref 49), (1, .long xh), (3, .long xl)] [] S none (S2) := by
  refine Bod.go dc_234_0 rfl ?_
  refine Bod.stat (r := []) dc_234_1 kr_234_84 (Or.inr rfl) (by rw [np_134]; rfl) (by rw [np_134]; rfl) (by rw [np_134]; exact Nat.le_of_ble_eq_true rfl) (Nat.le_of_ble_eq_true rfl) (c1  ) ?_
  show Bod _ _ _ _ [_] _ _ _
  refine Bod.sw (t := 32) dc_234_4 rfl rfl (by rw [sw3]; decide +kernel) ?_
  refine Bod.go dc_234_32 rfl ?_
  refine Bod.go dc_234_33 rfl ?_
  refine Bod.virt (r := []) dc_234_34 kr_234_194 ⟨Or.inl rfl, ow_235, cl_0⟩ (by rw [np_235]; rfl) (by rw [np_235]; rfl) (ob_of (mk_49 _)) (Nat.le_of_ble_eq_true rfl) (c2  ) ?_
  show Bod _ _ _ _ [] _ _ _
  refine Bod.go dc_234_37 rfl ?_
  exact Bod.retV dc_234_101 rt_234
theorem mWp_2 {d : Nat} {S : cS} {xh : Int64} {xl : Int64} {S1 : cS} {a : Nat} {S2 : cS} {S3 : cS} {S4 : cS} (ma : a < 2 ^ 20) (c1 : Ans (d + 8) 134 [.long xh] S (some (.int (nI a))) S1) (sw3 : a = 3) (c2 : Ans (d + 8) 230 [.ref 49, .int (nI 39)] S1 none S2) (c3 : Ans (d + 8) 238 [.ref 49, .long xh, .long xl] S2 none S3) (c4 : Ans (d + 8) 230 [.ref 49, .int (nI 39)] S3 none S4) : Bod (d + 8) 234 0 [(0, .ref 49), (1, .long xh), (3, .long xl)] [] S none (S4) := by
  refine Bod.go dc_234_0 rfl ?_
  refine Bod.stat (r := []) dc_234_1 kr_234_84 (Or.inr rfl) (by rw [np_134]; rfl) (by rw [np_134]; rfl) (by rw [np_134]; exact Nat.le_of_ble_eq_true rfl) (Nat.le_of_ble_eq_true rfl) (c1  ) ?_
  show Bod _ _ _ _ [_] _ _ _
  refine Bod.sw (t := 40) dc_234_4 rfl rfl (by rw [sw3]; decide +kernel) ?_
  refine Bod.go dc_234_40 rfl ?_
  refine Bod.bip 39 (by decide) dc_234_41 ?_
  refine Bod.virt (r := []) dc_234_43 kr_234_171 ⟨Or.inl rfl, ow_230, cl_0⟩ (by rw [np_230]; rfl) (by rw [np_230]; rfl) (ob_of (mk_49 _)) (Nat.le_of_ble_eq_true rfl) (c2  ) ?_
  show Bod _ _ _ _ [] _ _ _
  refine Bod.go dc_234_46 rfl ?_
  refine Bod.go dc_234_47 rfl ?_
  refine Bod.go dc_234_48 rfl ?_
  refine Bod.virt (r := []) dc_234_49 kr_234_162 ⟨Or.inl rfl, ow_238, cl_0⟩ (by rw [np_238]; rfl) (by rw [np_238]; rfl) (ob_of (mk_49 _)) (Nat.le_of_ble_eq_true rfl) (c3  ) ?_
  show Bod _ _ _ _ [] _ _ _
  refine Bod.go dc_234_52 rfl ?_
  refine Bod.bip 39 (by decide) dc_234_53 ?_
  refine Bod.virt (r := []) dc_234_55 kr_234_171 ⟨Or.inl rfl, ow_230, cl_0⟩ (by rw [np_230]; rfl) (by rw [np_230]; rfl) (ob_of (mk_49 _)) (Nat.le_of_ble_eq_true rfl) (c4  ) ?_
  show Bod _ _ _ _ [] _ _ _
  refine Bod.go dc_234_58 rfl ?_
  exact Bod.retV dc_234_101 rt_234
theorem mWp_3 {d : Nat} {S : cS} {xh : Int64} {xl : Int64} {S1 : cS} {a : Nat} {S2 : cS} {S3 : cS} {a1 : Nat} {S4 : cS} {a2 : Nat} {S5 : cS} {tx : Nat} {S6 : cS} {S7 : cS} (ma : a < 2 ^ 20) (c1 : Ans (d + 8) 134 [.long xh] S (some (.int (nI a))) S1) (sw3 : a = 4) (c2 : Ans (d + 8) 230 [.ref 49, .int (nI 60)] S1 none S2) (ma1 : a1 < 2 ^ 20) (c3 : Ans (d + 8) 137 [.long xh, .long xl] S2 (some (.int (nI a1))) S3) (ma2 : a2 < 2 ^ 20) (c4 : Ans (d + 8) 138 [.ref 2, .int (nI a1)] S3 (some (.int (nI a2))) S4) (c5 : Ans (d + 8) 239 [.int (nI a2)] S4 (some (.retAddr (2 * tx))) S5) (c6 : Ans (d + 8) 231 [.ref 49, .retAddr (2 * tx)] S5 none S6) (c7 : Ans (d + 8) 230 [.ref 49, .int (nI 62)] S6 none S7) : Bod (d + 8) 234 0 [(0, .ref 49), (1, .long xh), (3, .long xl)] [] S none (S7) := by
  refine Bod.go dc_234_0 rfl ?_
  refine Bod.stat (r := []) dc_234_1 kr_234_84 (Or.inr rfl) (by rw [np_134]; rfl) (by rw [np_134]; rfl) (by rw [np_134]; exact Nat.le_of_ble_eq_true rfl) (Nat.le_of_ble_eq_true rfl) (c1  ) ?_
  show Bod _ _ _ _ [_] _ _ _
  refine Bod.sw (t := 61) dc_234_4 rfl rfl (by rw [sw3]; decide +kernel) ?_
  refine Bod.go dc_234_61 rfl ?_
  refine Bod.bip 60 (by decide) dc_234_62 ?_
  refine Bod.virt (r := []) dc_234_64 kr_234_171 ⟨Or.inl rfl, ow_230, cl_0⟩ (by rw [np_230]; rfl) (by rw [np_230]; rfl) (ob_of (mk_49 _)) (Nat.le_of_ble_eq_true rfl) (c2  ) ?_
  show Bod _ _ _ _ [] _ _ _
  refine Bod.go dc_234_67 rfl ?_
  refine Bod.go dc_234_68 rfl ?_
  refine Bod.get dc_234_69 fr_234_9 (mk_49 _) rfl ?_
  refine Bod.go dc_234_72 rfl ?_
  refine Bod.go dc_234_73 rfl ?_
  refine Bod.stat (r := [_, _]) dc_234_74 kr_234_198 (Or.inr rfl) (by rw [np_137]; rfl) (by rw [np_137]; rfl) (by rw [np_137]; exact Nat.le_of_ble_eq_true rfl) (Nat.le_of_ble_eq_true rfl) (c3  ) ?_
  show Bod _ _ _ _ [_, _, _] _ _ _
  refine Bod.virt (r := [_]) dc_234_77 kr_234_94 ⟨Or.inr rfl, ow_138, cl_2⟩ (by rw [np_138]; rfl) (by rw [np_138]; rfl) (ob_of (mk_2 _)) (Nat.le_of_ble_eq_true rfl) (c4  ) ?_
  show Bod _ _ _ _ [_, _] _ _ _
  refine Bod.stat (r := [_]) dc_234_80 kr_234_202 (Or.inl rfl) (by rw [np_239]; rfl) (by rw [np_239]; rfl) (by rw [np_239]; exact Nat.le_of_ble_eq_true rfl) (Nat.le_of_ble_eq_true rfl) (c5  ) ?_
  show Bod _ _ _ _ [_, _] _ _ _
  refine Bod.virt (r := []) dc_234_83 kr_234_206 ⟨Or.inl rfl, ow_231, cl_0⟩ (by rw [np_231]; rfl) (by rw [np_231]; rfl) (ob_of (mk_49 _)) (Nat.le_of_ble_eq_true rfl) (c6  ) ?_
  show Bod _ _ _ _ [] _ _ _
  refine Bod.go dc_234_86 rfl ?_
  refine Bod.bip 62 (by decide) dc_234_87 ?_
  refine Bod.virt (r := []) dc_234_89 kr_234_171 ⟨Or.inl rfl, ow_230, cl_0⟩ (by rw [np_230]; rfl) (by rw [np_230]; rfl) (ob_of (mk_49 _)) (Nat.le_of_ble_eq_true rfl) (c7  ) ?_
  show Bod _ _ _ _ [] _ _ _
  refine Bod.go dc_234_92 rfl ?_
  exact Bod.retV dc_234_101 rt_234
theorem mWp_4 {d : Nat} {S : cS} {xh : Int64} {xl : Int64} {S1 : cS} {a : Nat} {S2 : cS} (ma : a < 2 ^ 20) (c1 : Ans (d + 8) 134 [.long xh] S (some (.int (nI a))) S1) (b64 : a < 64) (n2 : a ≠ 2) (n3 : a ≠ 3) (n4 : a ≠ 4) (c2 : Ans (d + 8) 231 [.ref 49, .retAddr (2 * 11)] S1 none S2) : Bod (d + 8) 234 0 [(0, .ref 49), (1, .long xh), (3, .long xl)] [] S none (S2) := by
  refine Bod.go dc_234_0 rfl ?_
  refine Bod.stat (r := []) dc_234_1 kr_234_84 (Or.inr rfl) (by rw [np_134]; rfl) (by rw [np_134]; rfl) (by rw [np_134]; exact Nat.le_of_ble_eq_true rfl) (Nat.le_of_ble_eq_true rfl) (c1  ) ?_
  show Bod _ _ _ _ [_] _ _ _
  refine Bod.sw (t := 95) dc_234_4 rfl rfl (((((xsw_234_4 a b64).resolve_left n2).resolve_left n3).resolve_left n4)) ?_
  refine Bod.go dc_234_95 rfl ?_
  refine Bod.ldcT dc_234_96 cs_234_210 ?_
  refine Bod.virt (r := []) dc_234_98 kr_234_206 ⟨Or.inl rfl, ow_231, cl_0⟩ (by rw [np_231]; rfl) (by rw [np_231]; rfl) (ob_of (mk_49 _)) (Nat.le_of_ble_eq_true rfl) (c2  ) ?_
  show Bod _ _ _ _ [] _ _ _
  exact Bod.retV dc_234_101 rt_234
theorem mPn_1 {d : Nat} {S Sf : cS} {v : Option Value} {xl : Int64} {S1 : cS} {a : Nat} (ma : a < 2 ^ 20) (c1 : Ans (d + 8) 236 [.ref 49, .long xl] S (some (.int (nI a))) S1) (hB : ∀ lv1 : sm_L, sm_get lv1 0 = some (.ref 49) → sm_get lv1 3 = some (.int (nI a)) → Bod (d + 8) 235 6 lv1 [] (S1) v Sf) : Bod (d + 8) 235 0 [(0, .ref 49), (1, .long xl)] [] S v Sf := by
  refine Bod.go dc_235_0 rfl ?_
  refine Bod.go dc_235_1 rfl ?_
  refine Bod.virt (r := []) dc_235_2 kr_235_139 ⟨Or.inl rfl, ow_236, cl_0⟩ (by rw [np_236]; rfl) (by rw [np_236]; rfl) (ob_of (mk_49 _)) (Nat.le_of_ble_eq_true rfl) (c1  ) ?_
  show Bod _ _ _ _ [_] _ _ _
  refine Bod.istn dc_235_5 (by rw [ml_235]; exact Nat.le_of_ble_eq_true rfl) ?_
  exact hB _ (by first | rfl | exact (by repeat (first | exact rfl | exact sm_get_p1 | exact sm_get_p2e | refine sm_get_p1m (by decide) (by decide) ?_ | refine sm_get_p1n (by decide) rfl ?_ | refine sm_get_p2n (by decide) (by decide) rfl ?_ | refine sm_get_p2m (by decide) (by decide) (by decide) ?_))) (by first | rfl | exact (by repeat (first | exact rfl | exact sm_get_p1 | exact sm_get_p2e | refine sm_get_p1m (by decide) (by decide) ?_ | refine sm_get_p1n (by decide) rfl ?_ | refine sm_get_p2n (by decide) (by decide) rfl ?_ | refine sm_get_p2m (by decide) (by decide) (by decide) ?_)))
theorem mPnL_1 {d : Nat} {S : cS} {lv : sm_L} {ni : Nat} (q0 : sm_get lv 0 = some (.ref 49)) (q3 : sm_get lv 3 = some (.int (nI ni))) (mni : ni < 2 ^ 20) (b1 : 20 ≤ ni) : Bod (d + 8) 235 6 lv [] S none (S) := by
  refine Bod.ildnG dc_235_6 (by repeat (first | exact q3 | exact sm_get_p1 | exact sm_get_p2e | refine sm_get_p1m (by decide) (by decide) ?_ | refine sm_get_p1n (by decide) rfl ?_ | refine sm_get_p2n (by decide) (by decide) rfl ?_ | refine sm_get_p2m (by decide) (by decide) (by decide) ?_)) ?_
  refine Bod.ifF dc_235_7 rfl (k1_lt_F ni rfl (by omega)) ?_
  refine Bod.ildnG dc_235_10 (by repeat (first | exact q3 | exact sm_get_p1 | exact sm_get_p2e | refine sm_get_p1m (by decide) (by decide) ?_ | refine sm_get_p1n (by decide) rfl ?_ | refine sm_get_p2n (by decide) (by decide) rfl ?_ | refine sm_get_p2m (by decide) (by decide) (by decide) ?_)) ?_
  refine Bod.bip 20 (by decide) dc_235_11 ?_
  refine Bod.icT dc_235_13 rfl (k2_ge_T ni 20 rfl rfl (by omega) (by omega)) ?_
  exact Bod.retV dc_235_32 rt_235
theorem mPnL_2 {d : Nat} {S Sf : cS} {v : Option Value} {lv : sm_L} {ni : Nat} {S1 : cS} (q0 : sm_get lv 0 = some (.ref 49)) (q3 : sm_get lv 3 = some (.int (nI ni))) (mni : ni < 2 ^ 20) (b1 : ni < 20) (c1 : Ans (d + 8) 230 [.ref 49, .int (sA S 51 ni)] S none S1) (hB : ∀ lv1 : sm_L, sm_get lv1 0 = some (.ref 49) → sm_get lv1 3 = some (.int (nI (ni + 1))) → Bod (d + 8) 235 6 lv1 [] (S1) v Sf) : Bod (d + 8) 235 6 lv [] S v Sf := by
  refine Bod.ildnG dc_235_6 (by repeat (first | exact q3 | exact sm_get_p1 | exact sm_get_p2e | refine sm_get_p1m (by decide) (by decide) ?_ | refine sm_get_p1n (by decide) rfl ?_ | refine sm_get_p2n (by decide) (by decide) rfl ?_ | refine sm_get_p2m (by decide) (by decide) (by decide) ?_)) ?_
  refine Bod.ifF dc_235_7 rfl (k1_lt_F ni rfl (by omega)) ?_
  refine Bod.ildnG dc_235_10 (by repeat (first | exact q3 | exact sm_get_p1 | exact sm_get_p2e | refine sm_get_p1m (by decide) (by decide) ?_ | refine sm_get_p1n (by decide) rfl ?_ | refine sm_get_p2n (by decide) (by decide) rfl ?_ | refine sm_get_p2m (by decide) (by decide) (by decide) ?_)) ?_
  refine Bod.bip 20 (by decide) dc_235_11 ?_
  refine Bod.icF dc_235_13 rfl (k2_ge_F ni 20 rfl rfl (by omega) (by omega)) ?_
  refine Bod.aldnG dc_235_16 (by repeat (first | exact q0 | exact sm_get_p1 | exact sm_get_p2e | refine sm_get_p1m (by decide) (by decide) ?_ | refine sm_get_p1n (by decide) rfl ?_ | refine sm_get_p2n (by decide) (by decide) rfl ?_ | refine sm_get_p2m (by decide) (by decide) (by decide) ?_)) ?_
  refine Bod.aldnG dc_235_17 (by repeat (first | exact q0 | exact sm_get_p1 | exact sm_get_p2e | refine sm_get_p1m (by decide) (by decide) ?_ | refine sm_get_p1n (by decide) rfl ?_ | refine sm_get_p2n (by decide) (by decide) rfl ?_ | refine sm_get_p2m (by decide) (by decide) (by decide) ?_)) ?_
  refine Bod.get dc_235_18 fr_235_31 (mk_49 _) rfl ?_
  refine Bod.ildnG dc_235_21 (by repeat (first | exact q3 | exact sm_get_p1 | exact sm_get_p2e | refine sm_get_p1m (by decide) (by decide) ?_ | refine sm_get_p1n (by decide) rfl ?_ | refine sm_get_p2n (by decide) (by decide) rfl ?_ | refine sm_get_p2m (by decide) (by decide) (by decide) ?_)) ?_
  refine Bod.baldN ni rfl (by omega) (by omega) dc_235_22 (mk_51 _) (Or.inl rfl) ?_
  refine Bod.virt (r := []) dc_235_23 kr_235_171 ⟨Or.inl rfl, ow_230, cl_0⟩ (by rw [np_230]; rfl) (by rw [np_230]; rfl) (ob_of (mk_49 _)) (Nat.le_of_ble_eq_true rfl) (c1  ) ?_
  show Bod _ _ _ _ [] _ _ _
  refine Bod.incN (ni + 1) (by rw [kc_1, nI_add]) dc_235_26 (by rw [ml_235]; exact Nat.le_of_ble_eq_true rfl) (by repeat (first | exact q3 | exact sm_get_p1 | exact sm_get_p2e | refine sm_get_p1m (by decide) (by decide) ?_ | refine sm_get_p1n (by decide) rfl ?_ | refine sm_get_p2n (by decide) (by decide) rfl ?_ | refine sm_get_p2m (by decide) (by decide) (by decide) ?_)) ?_
  refine Bod.go dc_235_29 rfl ?_
  exact hB _ (by repeat (first | exact q0 | exact sm_get_p1 | exact sm_get_p2e | refine sm_get_p1m (by decide) (by decide) ?_ | refine sm_get_p1n (by decide) rfl ?_ | refine sm_get_p2n (by decide) (by decide) rfl ?_ | refine sm_get_p2m (by decide) (by decide) (by decide) ?_)) (by repeat (first | exact q0 | exact sm_get_p1 | exact sm_get_p2e | refine sm_get_p1m (by decide) (by decide) ?_ | refine sm_get_p1n (by decide) rfl ?_ | refine sm_get_p2n (by decide) (by decide) rfl ?_ | refine sm_get_p2m (by decide) (by decide) (by decide) ?_))
theorem mPs_1 {d : Nat} {S Sf : cS} {v : Option Value} {xh : Int64} {xl : Int64} {S1 : cS} {a : Nat} (ma : a < 2 ^ 20) (c1 : Ans (d + 8) 47 [.long xh] S (some (.int (nI a))) S1) (hB : ∀ lv1 : sm_L, sm_get lv1 0 = some (.ref 49) → sm_get lv1 1 = some (.long xh) → sm_get lv1 3 = some (.long xl) → sm_get lv1 5 = some (.int (nI a)) → sm_get lv1 6 = some (.int (nI 0)) → Bod (d + 8) 238 9 lv1 [] (S1) v Sf) : Bod (d + 8) 238 0 [(0, .ref 49), (1, .long xh), (3, .long xl)] [] S v Sf := by
  refine Bod.go dc_238_0 rfl ?_
  refine Bod.stat (r := []) dc_238_1 kr_238_88 (Or.inr rfl) (by rw [np_47]; rfl) (by rw [np_47]; rfl) (by rw [np_47]; exact Nat.le_of_ble_eq_true rfl) (Nat.le_of_ble_eq_true rfl) (c1  ) ?_
  show Bod _ _ _ _ [_] _ _ _
  refine Bod.ist dc_238_4 (by rw [ml_238]; exact Nat.le_of_ble_eq_true rfl) ?_
  refine Bod.ic 0 (by decide) dc_238_6 ?_
  refine Bod.ist dc_238_7 (by rw [ml_238]; exact Nat.le_of_ble_eq_true rfl) ?_
  exact hB _ (by first | rfl | exact (by repeat (first | exact rfl | exact sm_get_p1 | exact sm_get_p2e | refine sm_get_p1m (by decide) (by decide) ?_ | refine sm_get_p1n (by decide) rfl ?_ | refine sm_get_p2n (by decide) (by decide) rfl ?_ | refine sm_get_p2m (by decide) (by decide) (by decide) ?_))) (by first | rfl | exact (by repeat (first | exact rfl | exact sm_get_p1 | exact sm_get_p2e | refine sm_get_p1m (by decide) (by decide) ?_ | refine sm_get_p1n (by decide) rfl ?_ | refine sm_get_p2n (by decide) (by decide) rfl ?_ | refine sm_get_p2m (by decide) (by decide) (by decide) ?_))) (by first | rfl | exact (by repeat (first | exact rfl | exact sm_get_p1 | exact sm_get_p2e | refine sm_get_p1m (by decide) (by decide) ?_ | refine sm_get_p1n (by decide) rfl ?_ | refine sm_get_p2n (by decide) (by decide) rfl ?_ | refine sm_get_p2m (by decide) (by decide) (by decide) ?_))) (by first | rfl | exact (by repeat (first | exact rfl | exact sm_get_p1 | exact sm_get_p2e | refine sm_get_p1m (by decide) (by decide) ?_ | refine sm_get_p1n (by decide) rfl ?_ | refine sm_get_p2n (by decide) (by decide) rfl ?_ | refine sm_get_p2m (by decide) (by decide) (by decide) ?_))) (by first | rfl | exact (by repeat (first | exact rfl | exact sm_get_p1 | exact sm_get_p2e | refine sm_get_p1m (by decide) (by decide) ?_ | refine sm_get_p1n (by decide) rfl ?_ | refine sm_get_p2n (by decide) (by decide) rfl ?_ | refine sm_get_p2m (by decide) (by decide) (by decide) ?_)))
theorem mPsL_1 {d : Nat} {S : cS} {lv : sm_L} {xh : Int64} {xl : Int64} {sz : Nat} {ni : Nat} (q0 : sm_get lv 0 = some (.ref 49)) (q1 : sm_get lv 1 = some (.long xh)) (q3 : sm_get lv 3 = some (.long xl)) (q5 : sm_get lv 5 = some (.int (nI sz))) (q6 : sm_get lv 6 = some (.int (nI ni))) (msz : sz < 2 ^ 20) (mni : ni < 2 ^ 20) (b1 : sz ≤ ni) : Bod (d + 8) 238 9 lv [] S none (S) := by
  refine Bod.ildG dc_238_9 (by repeat (first | exact q6 | exact sm_get_p1 | exact sm_get_p2e | refine sm_get_p1m (by decide) (by decide) ?_ | refine sm_get_p1n (by decide) rfl ?_ | refine sm_get_p2n (by decide) (by decide) rfl ?_ | refine sm_get_p2m (by decide) (by decide) (by decide) ?_)) ?_
  refine Bod.ildG dc_238_11 (by repeat (first | exact q5 | exact sm_get_p1 | exact sm_get_p2e | refine sm_get_p1m (by decide) (by decide) ?_ | refine sm_get_p1n (by decide) rfl ?_ | refine sm_get_p2n (by decide) (by decide) rfl ?_ | refine sm_get_p2m (by decide) (by decide) (by decide) ?_)) ?_
  refine Bod.icT dc_238_13 rfl (k2_ge_T ni sz rfl rfl (by omega) (by omega)) ?_
  exact Bod.retV dc_238_33 rt_238
theorem mPsL_2 {d : Nat} {S Sf : cS} {v : Option Value} {lv : sm_L} {xh : Int64} {xl : Int64} {sz : Nat} {ni : Nat} {S1 : cS} {a : Nat} {S2 : cS} (q0 : sm_get lv 0 = some (.ref 49)) (q1 : sm_get lv 1 = some (.long xh)) (q3 : sm_get lv 3 = some (.long xl)) (q5 : sm_get lv 5 = some (.int (nI sz))) (q6 : sm_get lv 6 = some (.int (nI ni))) (msz : sz < 2 ^ 20) (mni : ni < 2 ^ 20) (b1 : ni < sz) (ma : a < 2 ^ 20) (c1 : Ans (d + 8) 193 [.long xh, .long xl, .int (nI ni)] S (some (.int (nI a))) S1) (c2 : Ans (d + 8) 230 [.ref 49, .int (nI a)] S1 none S2) (hB : ∀ lv1 : sm_L, sm_get lv1 0 = some (.ref 49) → sm_get lv1 1 = some (.long xh) → sm_get lv1 3 = some (.long xl) → sm_get lv1 5 = some (.int (nI sz)) → sm_get lv1 6 = some (.int (nI (ni + 1))) → Bod (d + 8) 238 9 lv1 [] (S2) v Sf) : Bod (d + 8) 238 9 lv [] S v Sf := by
  refine Bod.ildG dc_238_9 (by repeat (first | exact q6 | exact sm_get_p1 | exact sm_get_p2e | refine sm_get_p1m (by decide) (by decide) ?_ | refine sm_get_p1n (by decide) rfl ?_ | refine sm_get_p2n (by decide) (by decide) rfl ?_ | refine sm_get_p2m (by decide) (by decide) (by decide) ?_)) ?_
  refine Bod.ildG dc_238_11 (by repeat (first | exact q5 | exact sm_get_p1 | exact sm_get_p2e | refine sm_get_p1m (by decide) (by decide) ?_ | refine sm_get_p1n (by decide) rfl ?_ | refine sm_get_p2n (by decide) (by decide) rfl ?_ | refine sm_get_p2m (by decide) (by decide) (by decide) ?_)) ?_
  refine Bod.icF dc_238_13 rfl (k2_ge_F ni sz rfl rfl (by omega) (by omega)) ?_
  refine Bod.aldnG dc_238_16 (by repeat (first | exact q0 | exact sm_get_p1 | exact sm_get_p2e | refine sm_get_p1m (by decide) (by decide) ?_ | refine sm_get_p1n (by decide) rfl ?_ | refine sm_get_p2n (by decide) (by decide) rfl ?_ | refine sm_get_p2m (by decide) (by decide) (by decide) ?_)) ?_
  refine Bod.lldnG dc_238_17 (by repeat (first | exact q1 | exact sm_get_p1 | exact sm_get_p2e | refine sm_get_p1m (by decide) (by decide) ?_ | refine sm_get_p1n (by decide) rfl ?_ | refine sm_get_p2n (by decide) (by decide) rfl ?_ | refine sm_get_p2m (by decide) (by decide) (by decide) ?_)) ?_
  refine Bod.lldnG dc_238_18 (by repeat (first | exact q3 | exact sm_get_p1 | exact sm_get_p2e | refine sm_get_p1m (by decide) (by decide) ?_ | refine sm_get_p1n (by decide) rfl ?_ | refine sm_get_p2n (by decide) (by decide) rfl ?_ | refine sm_get_p2m (by decide) (by decide) (by decide) ?_)) ?_
  refine Bod.ildG dc_238_19 (by repeat (first | exact q6 | exact sm_get_p1 | exact sm_get_p2e | refine sm_get_p1m (by decide) (by decide) ?_ | refine sm_get_p1n (by decide) rfl ?_ | refine sm_get_p2n (by decide) (by decide) rfl ?_ | refine sm_get_p2m (by decide) (by decide) (by decide) ?_)) ?_
  refine Bod.stat (r := [_]) dc_238_21 kr_238_183 (Or.inr rfl) (by rw [np_193]; rfl) (by rw [np_193]; rfl) (by rw [np_193]; exact Nat.le_of_ble_eq_true rfl) (Nat.le_of_ble_eq_true rfl) (c1  ) ?_
  show Bod _ _ _ _ [_, _] _ _ _
  refine Bod.virt (r := []) dc_238_24 kr_238_171 ⟨Or.inl rfl, ow_230, cl_0⟩ (by rw [np_230]; rfl) (by rw [np_230]; rfl) (ob_of (mk_49 _)) (Nat.le_of_ble_eq_true rfl) (c2  ) ?_
  show Bod _ _ _ _ [] _ _ _
  refine Bod.incN (ni + 1) (by rw [kc_1, nI_add]) dc_238_27 (by rw [ml_238]; exact Nat.le_of_ble_eq_true rfl) (by repeat (first | exact q6 | exact sm_get_p1 | exact sm_get_p2e | refine sm_get_p1m (by decide) (by decide) ?_ | refine sm_get_p1n (by decide) rfl ?_ | refine sm_get_p2n (by decide) (by decide) rfl ?_ | refine sm_get_p2m (by decide) (by decide) (by decide) ?_)) ?_
  refine Bod.go dc_238_30 rfl ?_
  exact hB _ (by repeat (first | exact q0 | exact sm_get_p1 | exact sm_get_p2e | refine sm_get_p1m (by decide) (by decide) ?_ | refine sm_get_p1n (by decide) rfl ?_ | refine sm_get_p2n (by decide) (by decide) rfl ?_ | refine sm_get_p2m (by decide) (by decide) (by decide) ?_)) (by repeat (first | exact q1 | exact sm_get_p1 | exact sm_get_p2e | refine sm_get_p1m (by decide) (by decide) ?_ | refine sm_get_p1n (by decide) rfl ?_ | refine sm_get_p2n (by decide) (by decide) rfl ?_ | refine sm_get_p2m (by decide) (by decide) (by decide) ?_)) (by repeat (first | exact q3 | exact sm_get_p1 | exact sm_get_p2e | refine sm_get_p1m (by decide) (by decide) ?_ | refine sm_get_p1n (by decide) rfl ?_ | refine sm_get_p2n (by decide) (by decide) rfl ?_ | refine sm_get_p2m (by decide) (by decide) (by decide) ?_)) (by repeat (first | exact q5 | exact sm_get_p1 | exact sm_get_p2e | refine sm_get_p1m (by decide) (by decide) ?_ | refine sm_get_p1n (by decide) rfl ?_ | refine sm_get_p2n (by decide) (by decide) rfl ?_ | refine sm_get_p2m (by decide) (by decide) (by decide) ?_)) (by repeat (first | exact q0 | exact sm_get_p1 | exact sm_get_p2e | refine sm_get_p1m (by decide) (by decide) ?_ | refine sm_get_p1n (by decide) rfl ?_ | refine sm_get_p2n (by decide) (by decide) rfl ?_ | refine sm_get_p2m (by decide) (by decide) (by decide) ?_))
theorem xsw_239_1 : ∀ b, b < 64 → (b = 1 ∨ b = 2 ∨ b = 3 ∨ b = 4 ∨ b = 5 ∨ sm_br (.tableswitch (50) 1 5 #[35, 38, 41, 44, 47]) 35 1 [.int (nI b)] = some (51, [])) := by decide +kernel
theorem mWo_1 {d : Nat} {S : cS} {kd : Nat} (mkd : kd < 2 ^ 20) (sw2 : kd = 1) : Bod (d + 8) 239 0 [(0, .int (nI kd))] [] S (some (.retAddr (2 * 5))) (S) := by
  refine Bod.go dc_239_0 rfl ?_
  refine Bod.sw (t := 36) dc_239_1 rfl rfl (by rw [sw2]; decide +kernel) ?_
  refine Bod.ldcT dc_239_36 cs_239_212 ?_
  exact Bod.retX dc_239_38 (show sm_rt 239 = some (.object "java/lang/String") by decide +kernel) (by decide)
theorem mWo_2 {d : Nat} {S : cS} {kd : Nat} (mkd : kd < 2 ^ 20) (sw2 : kd = 2) : Bod (d + 8) 239 0 [(0, .int (nI kd))] [] S (some (.retAddr (2 * 6))) (S) := by
  refine Bod.go dc_239_0 rfl ?_
  refine Bod.sw (t := 39) dc_239_1 rfl rfl (by rw [sw2]; decide +kernel) ?_
  refine Bod.ldcT dc_239_39 cs_239_214 ?_
  exact Bod.retX dc_239_41 (show sm_rt 239 = some (.object "java/lang/String") by decide +kernel) (by decide)
theorem mWo_3 {d : Nat} {S : cS} {kd : Nat} (mkd : kd < 2 ^ 20) (sw2 : kd = 3) : Bod (d + 8) 239 0 [(0, .int (nI kd))] [] S (some (.retAddr (2 * 7))) (S) := by
  refine Bod.go dc_239_0 rfl ?_
  refine Bod.sw (t := 42) dc_239_1 rfl rfl (by rw [sw2]; decide +kernel) ?_
  refine Bod.ldcT dc_239_42 cs_239_216 ?_
  exact Bod.retX dc_239_44 (show sm_rt 239 = some (.object "java/lang/String") by decide +kernel) (by decide)
theorem mWo_4 {d : Nat} {S : cS} {kd : Nat} (mkd : kd < 2 ^ 20) (sw2 : kd = 4) : Bod (d + 8) 239 0 [(0, .int (nI kd))] [] S (some (.retAddr (2 * 8))) (S) := by
  refine Bod.go dc_239_0 rfl ?_
  refine Bod.sw (t := 45) dc_239_1 rfl rfl (by rw [sw2]; decide +kernel) ?_
  refine Bod.ldcT dc_239_45 cs_239_218 ?_
  exact Bod.retX dc_239_47 (show sm_rt 239 = some (.object "java/lang/String") by decide +kernel) (by decide)
theorem mWo_5 {d : Nat} {S : cS} {kd : Nat} (mkd : kd < 2 ^ 20) (sw2 : kd = 5) : Bod (d + 8) 239 0 [(0, .int (nI kd))] [] S (some (.retAddr (2 * 9))) (S) := by
  refine Bod.go dc_239_0 rfl ?_
  refine Bod.sw (t := 48) dc_239_1 rfl rfl (by rw [sw2]; decide +kernel) ?_
  refine Bod.ldcT dc_239_48 cs_239_220 ?_
  exact Bod.retX dc_239_50 (show sm_rt 239 = some (.object "java/lang/String") by decide +kernel) (by decide)
theorem mWo_6 {d : Nat} {S : cS} {kd : Nat} (mkd : kd < 2 ^ 20) (b64 : kd < 64) (n1 : kd ≠ 1) (n2 : kd ≠ 2) (n3 : kd ≠ 3) (n4 : kd ≠ 4) (n5 : kd ≠ 5) : Bod (d + 8) 239 0 [(0, .int (nI kd))] [] S (some (.retAddr (2 * 10))) (S) := by
  refine Bod.go dc_239_0 rfl ?_
  refine Bod.sw (t := 51) dc_239_1 rfl rfl (((((((xsw_239_1 kd b64).resolve_left n1).resolve_left n2).resolve_left n3).resolve_left n4).resolve_left n5)) ?_
  refine Bod.ldcT dc_239_51 cs_239_222 ?_
  exact Bod.retX dc_239_53 (show sm_rt 239 = some (.object "java/lang/String") by decide +kernel) (by decide)
theorem mWt_1 {d : Nat} {S : cS} {id : Nat} {S1 : cS} {a : Nat} {S2 : cS} {a1 : Nat} {S3 : cS} {a2 : Nat} {S4 : cS} {a3 : Nat} {S5 : cS} {a4 : Nat} {S6 : cS} {S7 : cS} {tx : Nat} {S8 : cS} {S9 : cS} {S10 : cS} {u : Int64} {S11 : cS} {u1 : Int64} {S12 : cS} {S13 : cS} (mid : id < 2 ^ 20) (ma : a < 2 ^ 20) (c1 : Ans (d + 8) 138 [.ref 2, .int (nI id)] S (some (.int (nI a))) S1) (b1 : a = 5) (ma1 : a1 < 2 ^ 20) (c2 : Ans (d + 8) 168 [.ref 2, .int (nI id)] S1 (some (.int (nI a1))) S2) (ma2 : a2 < 2 ^ 20) (c3 : Ans (d + 8) 241 [.ref 2, .int (nI a1)] S2 (some (.int (nI a2))) S3) (ma3 : a3 < 2 ^ 20) (c4 : Ans (d + 8) 138 [.ref 2, .int (nI a1)] S3 (some (.int (nI a3))) S4) (b2 : a3 ≠ 4) (ma4 : a4 < 2 ^ 20) (c5 : Ans (d + 8) 242 [.ref 23, .int (nI a2)] S4 (some (.int (nI a4))) S5) (c6 : Ans (d + 8) 230 [.ref 49, .int (nI 60)] S5 none S6) (c7 : Ans (d + 8) 239 [.int (nI a)] S6 (some (.retAddr (2 * tx))) S7) (c8 : Ans (d + 8) 231 [.ref 49, .retAddr (2 * tx)] S7 none S8) (c9 : Ans (d + 8) 230 [.ref 49, .int (nI 32)] S8 none S9) (c10 : Ans (d + 8) 181 [.ref 16, .int (nI a4)] S9 (some (.long u)) S10) (c11 : Ans (d + 8) 182 [.ref 16, .int (nI a4)] S10 (some (.long u1)) S11) (c12 : Ans (d + 8) 238 [.ref 49, .long u, .long u1] S11 none S12) (c13 : Ans (d + 8) 230 [.ref 49, .int (nI 62)] S12 none S13) : Bod (d + 8) 240 0 [(0, .ref 49), (1, .int (nI id))] [] S none (S13) := by
  refine Bod.go dc_240_0 rfl ?_
  refine Bod.get dc_240_1 fr_240_9 (mk_49 _) rfl ?_
  refine Bod.go dc_240_4 rfl ?_
  refine Bod.virt (r := []) dc_240_5 kr_240_94 ⟨Or.inr rfl, ow_138, cl_2⟩ (by rw [np_138]; rfl) (by rw [np_138]; rfl) (ob_of (mk_2 _)) (Nat.le_of_ble_eq_true rfl) (c1  ) ?_
  show Bod _ _ _ _ [_] _ _ _
  refine Bod.istn dc_240_8 (by rw [ml_240]; exact Nat.le_of_ble_eq_true rfl) ?_
  refine Bod.go dc_240_9 rfl ?_
  refine Bod.ic 5 (by decide) dc_240_10 ?_
  refine Bod.icT dc_240_11 rfl (k2_eq_T (k_eq a 5 rfl rfl (by omega))) ?_
  refine Bod.go dc_240_20 rfl ?_
  refine Bod.get dc_240_21 fr_240_9 (mk_49 _) rfl ?_
  refine Bod.go dc_240_24 rfl ?_
  refine Bod.virt (r := []) dc_240_25 kr_240_228 ⟨Or.inr rfl, ow_168, cl_2⟩ (by rw [np_168]; rfl) (by rw [np_168]; rfl) (ob_of (mk_2 _)) (Nat.le_of_ble_eq_true rfl) (c2  ) ?_
  show Bod _ _ _ _ [_] _ _ _
  refine Bod.go dc_240_28 rfl ?_
  refine Bod.istn dc_240_32 (by rw [ml_240]; exact Nat.le_of_ble_eq_true rfl) ?_
  refine Bod.go dc_240_33 rfl ?_
  refine Bod.get dc_240_34 fr_240_9 (mk_49 _) rfl ?_
  refine Bod.go dc_240_37 rfl ?_
  refine Bod.virt (r := []) dc_240_38 kr_240_231 ⟨Or.inr rfl, ow_241, cl_2⟩ (by rw [np_241]; rfl) (by rw [np_241]; rfl) (ob_of (mk_2 _)) (Nat.le_of_ble_eq_true rfl) (c3  ) ?_
  show Bod _ _ _ _ [_] _ _ _
  refine Bod.ist dc_240_41 (by rw [ml_240]; exact Nat.le_of_ble_eq_true rfl) ?_
  refine Bod.go dc_240_43 rfl ?_
  refine Bod.get dc_240_44 fr_240_9 (mk_49 _) rfl ?_
  refine Bod.go dc_240_47 rfl ?_
  refine Bod.virt (r := []) dc_240_48 kr_240_94 ⟨Or.inr rfl, ow_138, cl_2⟩ (by rw [np_138]; rfl) (by rw [np_138]; rfl) (ob_of (mk_2 _)) (Nat.le_of_ble_eq_true rfl) (c4  ) ?_
  show Bod _ _ _ _ [_] _ _ _
  refine Bod.ic 4 (by decide) dc_240_51 ?_
  refine Bod.icT dc_240_52 rfl (k2_ne_T (k_ne a3 4 rfl rfl (by omega) (by omega) (by omega))) ?_
  refine Bod.go dc_240_60 rfl ?_
  refine Bod.get dc_240_61 fr_240_23 (mk_49 _) rfl ?_
  refine Bod.go dc_240_64 rfl ?_
  refine Bod.virt (r := []) dc_240_66 kr_240_234 ⟨Or.inr rfl, ow_242, cl_7⟩ (by rw [np_242]; rfl) (by rw [np_242]; rfl) (ob_of (mk_23 _)) (Nat.le_of_ble_eq_true rfl) (c5  ) ?_
  show Bod _ _ _ _ [_] _ _ _
  refine Bod.ist dc_240_69 (by rw [ml_240]; exact Nat.le_of_ble_eq_true rfl) ?_
  refine Bod.go dc_240_71 rfl ?_
  refine Bod.bip 60 (by decide) dc_240_72 ?_
  refine Bod.virt (r := []) dc_240_74 kr_240_171 ⟨Or.inl rfl, ow_230, cl_0⟩ (by rw [np_230]; rfl) (by rw [np_230]; rfl) (ob_of (mk_49 _)) (Nat.le_of_ble_eq_true rfl) (c6  ) ?_
  show Bod _ _ _ _ [] _ _ _
  refine Bod.go dc_240_77 rfl ?_
  refine Bod.go dc_240_78 rfl ?_
  refine Bod.stat (r := [_]) dc_240_79 kr_240_202 (Or.inl rfl) (by rw [np_239]; rfl) (by rw [np_239]; rfl) (by rw [np_239]; exact Nat.le_of_ble_eq_true rfl) (Nat.le_of_ble_eq_true rfl) (c7  ) ?_
  show Bod _ _ _ _ [_, _] _ _ _
  refine Bod.virt (r := []) dc_240_82 kr_240_206 ⟨Or.inl rfl, ow_231, cl_0⟩ (by rw [np_231]; rfl) (by rw [np_231]; rfl) (ob_of (mk_49 _)) (Nat.le_of_ble_eq_true rfl) (c8  ) ?_
  show Bod _ _ _ _ [] _ _ _
  refine Bod.go dc_240_85 rfl ?_
  refine Bod.bip 32 (by decide) dc_240_86 ?_
  refine Bod.virt (r := []) dc_240_88 kr_240_171 ⟨Or.inl rfl, ow_230, cl_0⟩ (by rw [np_230]; rfl) (by rw [np_230]; rfl) (ob_of (mk_49 _)) (Nat.le_of_ble_eq_true rfl) (c9  ) ?_
  show Bod _ _ _ _ [] _ _ _
  refine Bod.go dc_240_91 rfl ?_
  refine Bod.go dc_240_92 rfl ?_
  refine Bod.get dc_240_93 fr_240_19 (mk_49 _) rfl ?_
  refine Bod.go dc_240_96 rfl ?_
  refine Bod.virt (r := [_]) dc_240_98 kr_240_239 ⟨Or.inr rfl, ow_181, cl_5⟩ (by rw [np_181]; rfl) (by rw [np_181]; rfl) (ob_of (mk_16 _)) (Nat.le_of_ble_eq_true rfl) (c10  ) ?_
  show Bod _ _ _ _ [_, _] _ _ _
  refine Bod.go dc_240_101 rfl ?_
  refine Bod.get dc_240_102 fr_240_19 (mk_49 _) rfl ?_
  refine Bod.go dc_240_105 rfl ?_
  refine Bod.virt (r := [_, _]) dc_240_107 kr_240_244 ⟨Or.inr rfl, ow_182, cl_5⟩ (by rw [np_182]; rfl) (by rw [np_182]; rfl) (ob_of (mk_16 _)) (Nat.le_of_ble_eq_true rfl) (c11  ) ?_
  show Bod _ _ _ _ [_, _, _] _ _ _
  refine Bod.virt (r := []) dc_240_110 kr_240_162 ⟨Or.inl rfl, ow_238, cl_0⟩ (by rw [np_238]; rfl) (by rw [np_238]; rfl) (ob_of (mk_49 _)) (Nat.le_of_ble_eq_true rfl) (c12  ) ?_
  show Bod _ _ _ _ [] _ _ _
  refine Bod.go dc_240_113 rfl ?_
  refine Bod.bip 62 (by decide) dc_240_114 ?_
  refine Bod.virt (r := []) dc_240_116 kr_240_171 ⟨Or.inl rfl, ow_230, cl_0⟩ (by rw [np_230]; rfl) (by rw [np_230]; rfl) (ob_of (mk_49 _)) (Nat.le_of_ble_eq_true rfl) (c13  ) ?_
  show Bod _ _ _ _ [] _ _ _
  exact Bod.retV dc_240_119 rt_240
theorem mWt_2 {d : Nat} {S : cS} {id : Nat} {S1 : cS} {a : Nat} {S2 : cS} {a1 : Nat} {S3 : cS} {a2 : Nat} {S4 : cS} {a3 : Nat} {S5 : cS} {S6 : cS} {tx : Nat} {S7 : cS} {S8 : cS} {S9 : cS} {u : Int64} {S10 : cS} {u1 : Int64} {S11 : cS} {S12 : cS} (mid : id < 2 ^ 20) (ma : a < 2 ^ 20) (c1 : Ans (d + 8) 138 [.ref 2, .int (nI id)] S (some (.int (nI a))) S1) (b1 : a = 5) (ma1 : a1 < 2 ^ 20) (c2 : Ans (d + 8) 168 [.ref 2, .int (nI id)] S1 (some (.int (nI a1))) S2) (ma2 : a2 < 2 ^ 20) (c3 : Ans (d + 8) 241 [.ref 2, .int (nI a1)] S2 (some (.int (nI a2))) S3) (ma3 : a3 < 2 ^ 20) (c4 : Ans (d + 8) 138 [.ref 2, .int (nI a1)] S3 (some (.int (nI a3))) S4) (b2 : a3 = 4) (c5 : Ans (d + 8) 230 [.ref 49, .int (nI 60)] S4 none S5) (c6 : Ans (d + 8) 239 [.int (nI a)] S5 (some (.retAddr (2 * tx))) S6) (c7 : Ans (d + 8) 231 [.ref 49, .retAddr (2 * tx)] S6 none S7) (c8 : Ans (d + 8) 230 [.ref 49, .int (nI 32)] S7 none S8) (c9 : Ans (d + 8) 181 [.ref 16, .int (nI a2)] S8 (some (.long u)) S9) (c10 : Ans (d + 8) 182 [.ref 16, .int (nI a2)] S9 (some (.long u1)) S10) (c11 : Ans (d + 8) 238 [.ref 49, .long u, .long u1] S10 none S11) (c12 : Ans (d + 8) 230 [.ref 49, .int (nI 62)] S11 none S12) : Bod (d + 8) 240 0 [(0, .ref 49), (1, .int (nI id))] [] S none (S12) := by
  refine Bod.go dc_240_0 rfl ?_
  refine Bod.get dc_240_1 fr_240_9 (mk_49 _) rfl ?_
  refine Bod.go dc_240_4 rfl ?_
  refine Bod.virt (r := []) dc_240_5 kr_240_94 ⟨Or.inr rfl, ow_138, cl_2⟩ (by rw [np_138]; rfl) (by rw [np_138]; rfl) (ob_of (mk_2 _)) (Nat.le_of_ble_eq_true rfl) (c1  ) ?_
  show Bod _ _ _ _ [_] _ _ _
  refine Bod.istn dc_240_8 (by rw [ml_240]; exact Nat.le_of_ble_eq_true rfl) ?_
  refine Bod.go dc_240_9 rfl ?_
  refine Bod.ic 5 (by decide) dc_240_10 ?_
  refine Bod.icT dc_240_11 rfl (k2_eq_T (k_eq a 5 rfl rfl (by omega))) ?_
  refine Bod.go dc_240_20 rfl ?_
  refine Bod.get dc_240_21 fr_240_9 (mk_49 _) rfl ?_
  refine Bod.go dc_240_24 rfl ?_
  refine Bod.virt (r := []) dc_240_25 kr_240_228 ⟨Or.inr rfl, ow_168, cl_2⟩ (by rw [np_168]; rfl) (by rw [np_168]; rfl) (ob_of (mk_2 _)) (Nat.le_of_ble_eq_true rfl) (c2  ) ?_
  show Bod _ _ _ _ [_] _ _ _
  refine Bod.go dc_240_28 rfl ?_
  refine Bod.istn dc_240_32 (by rw [ml_240]; exact Nat.le_of_ble_eq_true rfl) ?_
  refine Bod.go dc_240_33 rfl ?_
  refine Bod.get dc_240_34 fr_240_9 (mk_49 _) rfl ?_
  refine Bod.go dc_240_37 rfl ?_
  refine Bod.virt (r := []) dc_240_38 kr_240_231 ⟨Or.inr rfl, ow_241, cl_2⟩ (by rw [np_241]; rfl) (by rw [np_241]; rfl) (ob_of (mk_2 _)) (Nat.le_of_ble_eq_true rfl) (c3  ) ?_
  show Bod _ _ _ _ [_] _ _ _
  refine Bod.ist dc_240_41 (by rw [ml_240]; exact Nat.le_of_ble_eq_true rfl) ?_
  refine Bod.go dc_240_43 rfl ?_
  refine Bod.get dc_240_44 fr_240_9 (mk_49 _) rfl ?_
  refine Bod.go dc_240_47 rfl ?_
  refine Bod.virt (r := []) dc_240_48 kr_240_94 ⟨Or.inr rfl, ow_138, cl_2⟩ (by rw [np_138]; rfl) (by rw [np_138]; rfl) (ob_of (mk_2 _)) (Nat.le_of_ble_eq_true rfl) (c4  ) ?_
  show Bod _ _ _ _ [_] _ _ _
  refine Bod.ic 4 (by decide) dc_240_51 ?_
  refine Bod.icF dc_240_52 rfl (k2_ne_F (k_eq a3 4 rfl rfl (by omega))) ?_
  refine Bod.go dc_240_55 rfl ?_
  refine Bod.go dc_240_57 rfl ?_
  refine Bod.ist dc_240_69 (by rw [ml_240]; exact Nat.le_of_ble_eq_true rfl) ?_
  refine Bod.go dc_240_71 rfl ?_
  refine Bod.bip 60 (by decide) dc_240_72 ?_
  refine Bod.virt (r := []) dc_240_74 kr_240_171 ⟨Or.inl rfl, ow_230, cl_0⟩ (by rw [np_230]; rfl) (by rw [np_230]; rfl) (ob_of (mk_49 _)) (Nat.le_of_ble_eq_true rfl) (c5  ) ?_
  show Bod _ _ _ _ [] _ _ _
  refine Bod.go dc_240_77 rfl ?_
  refine Bod.go dc_240_78 rfl ?_
  refine Bod.stat (r := [_]) dc_240_79 kr_240_202 (Or.inl rfl) (by rw [np_239]; rfl) (by rw [np_239]; rfl) (by rw [np_239]; exact Nat.le_of_ble_eq_true rfl) (Nat.le_of_ble_eq_true rfl) (c6  ) ?_
  show Bod _ _ _ _ [_, _] _ _ _
  refine Bod.virt (r := []) dc_240_82 kr_240_206 ⟨Or.inl rfl, ow_231, cl_0⟩ (by rw [np_231]; rfl) (by rw [np_231]; rfl) (ob_of (mk_49 _)) (Nat.le_of_ble_eq_true rfl) (c7  ) ?_
  show Bod _ _ _ _ [] _ _ _
  refine Bod.go dc_240_85 rfl ?_
  refine Bod.bip 32 (by decide) dc_240_86 ?_
  refine Bod.virt (r := []) dc_240_88 kr_240_171 ⟨Or.inl rfl, ow_230, cl_0⟩ (by rw [np_230]; rfl) (by rw [np_230]; rfl) (ob_of (mk_49 _)) (Nat.le_of_ble_eq_true rfl) (c8  ) ?_
  show Bod _ _ _ _ [] _ _ _
  refine Bod.go dc_240_91 rfl ?_
  refine Bod.go dc_240_92 rfl ?_
  refine Bod.get dc_240_93 fr_240_19 (mk_49 _) rfl ?_
  refine Bod.go dc_240_96 rfl ?_
  refine Bod.virt (r := [_]) dc_240_98 kr_240_239 ⟨Or.inr rfl, ow_181, cl_5⟩ (by rw [np_181]; rfl) (by rw [np_181]; rfl) (ob_of (mk_16 _)) (Nat.le_of_ble_eq_true rfl) (c9  ) ?_
  show Bod _ _ _ _ [_, _] _ _ _
  refine Bod.go dc_240_101 rfl ?_
  refine Bod.get dc_240_102 fr_240_19 (mk_49 _) rfl ?_
  refine Bod.go dc_240_105 rfl ?_
  refine Bod.virt (r := [_, _]) dc_240_107 kr_240_244 ⟨Or.inr rfl, ow_182, cl_5⟩ (by rw [np_182]; rfl) (by rw [np_182]; rfl) (ob_of (mk_16 _)) (Nat.le_of_ble_eq_true rfl) (c10  ) ?_
  show Bod _ _ _ _ [_, _, _] _ _ _
  refine Bod.virt (r := []) dc_240_110 kr_240_162 ⟨Or.inl rfl, ow_238, cl_0⟩ (by rw [np_238]; rfl) (by rw [np_238]; rfl) (ob_of (mk_49 _)) (Nat.le_of_ble_eq_true rfl) (c11  ) ?_
  show Bod _ _ _ _ [] _ _ _
  refine Bod.go dc_240_113 rfl ?_
  refine Bod.bip 62 (by decide) dc_240_114 ?_
  refine Bod.virt (r := []) dc_240_116 kr_240_171 ⟨Or.inl rfl, ow_230, cl_0⟩ (by rw [np_230]; rfl) (by rw [np_230]; rfl) (ob_of (mk_49 _)) (Nat.le_of_ble_eq_true rfl) (c12  ) ?_
  show Bod _ _ _ _ [] _ _ _
  exact Bod.retV dc_240_119 rt_240
theorem mWt_3 {d : Nat} {S : cS} {id : Nat} {S1 : cS} {a : Nat} {S2 : cS} {a1 : Nat} {S3 : cS} {a2 : Nat} {S4 : cS} {a3 : Nat} {S5 : cS} {S6 : cS} {tx : Nat} {S7 : cS} {S8 : cS} {S9 : cS} {u : Int64} {S10 : cS} {u1 : Int64} {S11 : cS} {S12 : cS} (mid : id < 2 ^ 20) (ma : a < 2 ^ 20) (c1 : Ans (d + 8) 138 [.ref 2, .int (nI id)] S (some (.int (nI a))) S1) (b1 : a ≠ 5) (b2 : a ≠ 6) (ma1 : a1 < 2 ^ 20) (c2 : Ans (d + 8) 241 [.ref 2, .int (nI id)] S1 (some (.int (nI a1))) S2) (ma2 : a2 < 2 ^ 20) (c3 : Ans (d + 8) 138 [.ref 2, .int (nI id)] S2 (some (.int (nI a2))) S3) (b3 : a2 ≠ 4) (ma3 : a3 < 2 ^ 20) (c4 : Ans (d + 8) 242 [.ref 23, .int (nI a1)] S3 (some (.int (nI a3))) S4) (c5 : Ans (d + 8) 230 [.ref 49, .int (nI 60)] S4 none S5) (c6 : Ans (d + 8) 239 [.int (nI a)] S5 (some (.retAddr (2 * tx))) S6) (c7 : Ans (d + 8) 231 [.ref 49, .retAddr (2 * tx)] S6 none S7) (c8 : Ans (d + 8) 230 [.ref 49, .int (nI 32)] S7 none S8) (c9 : Ans (d + 8) 181 [.ref 16, .int (nI a3)] S8 (some (.long u)) S9) (c10 : Ans (d + 8) 182 [.ref 16, .int (nI a3)] S9 (some (.long u1)) S10) (c11 : Ans (d + 8) 238 [.ref 49, .long u, .long u1] S10 none S11) (c12 : Ans (d + 8) 230 [.ref 49, .int (nI 62)] S11 none S12) : Bod (d + 8) 240 0 [(0, .ref 49), (1, .int (nI id))] [] S none (S12) := by
  refine Bod.go dc_240_0 rfl ?_
  refine Bod.get dc_240_1 fr_240_9 (mk_49 _) rfl ?_
  refine Bod.go dc_240_4 rfl ?_
  refine Bod.virt (r := []) dc_240_5 kr_240_94 ⟨Or.inr rfl, ow_138, cl_2⟩ (by rw [np_138]; rfl) (by rw [np_138]; rfl) (ob_of (mk_2 _)) (Nat.le_of_ble_eq_true rfl) (c1  ) ?_
  show Bod _ _ _ _ [_] _ _ _
  refine Bod.istn dc_240_8 (by rw [ml_240]; exact Nat.le_of_ble_eq_true rfl) ?_
  refine Bod.go dc_240_9 rfl ?_
  refine Bod.ic 5 (by decide) dc_240_10 ?_
  refine Bod.icF dc_240_11 rfl (k2_eq_F (k_ne a 5 rfl rfl (by omega) (by omega) (by omega))) ?_
  refine Bod.go dc_240_14 rfl ?_
  refine Bod.bip 6 (by decide) dc_240_15 ?_
  refine Bod.icT dc_240_17 rfl (k2_ne_T (k_ne a 6 rfl rfl (by omega) (by omega) (by omega))) ?_
  refine Bod.go dc_240_31 rfl ?_
  refine Bod.istn dc_240_32 (by rw [ml_240]; exact Nat.le_of_ble_eq_true rfl) ?_
  refine Bod.go dc_240_33 rfl ?_
  refine Bod.get dc_240_34 fr_240_9 (mk_49 _) rfl ?_
  refine Bod.go dc_240_37 rfl ?_
  refine Bod.virt (r := []) dc_240_38 kr_240_231 ⟨Or.inr rfl, ow_241, cl_2⟩ (by rw [np_241]; rfl) (by rw [np_241]; rfl) (ob_of (mk_2 _)) (Nat.le_of_ble_eq_true rfl) (c2  ) ?_
  show Bod _ _ _ _ [_] _ _ _
  refine Bod.ist dc_240_41 (by rw [ml_240]; exact Nat.le_of_ble_eq_true rfl) ?_
  refine Bod.go dc_240_43 rfl ?_
  refine Bod.get dc_240_44 fr_240_9 (mk_49 _) rfl ?_
  refine Bod.go dc_240_47 rfl ?_
  refine Bod.virt (r := []) dc_240_48 kr_240_94 ⟨Or.inr rfl, ow_138, cl_2⟩ (by rw [np_138]; rfl) (by rw [np_138]; rfl) (ob_of (mk_2 _)) (Nat.le_of_ble_eq_true rfl) (c3  ) ?_
  show Bod _ _ _ _ [_] _ _ _
  refine Bod.ic 4 (by decide) dc_240_51 ?_
  refine Bod.icT dc_240_52 rfl (k2_ne_T (k_ne a2 4 rfl rfl (by omega) (by omega) (by omega))) ?_
  refine Bod.go dc_240_60 rfl ?_
  refine Bod.get dc_240_61 fr_240_23 (mk_49 _) rfl ?_
  refine Bod.go dc_240_64 rfl ?_
  refine Bod.virt (r := []) dc_240_66 kr_240_234 ⟨Or.inr rfl, ow_242, cl_7⟩ (by rw [np_242]; rfl) (by rw [np_242]; rfl) (ob_of (mk_23 _)) (Nat.le_of_ble_eq_true rfl) (c4  ) ?_
  show Bod _ _ _ _ [_] _ _ _
  refine Bod.ist dc_240_69 (by rw [ml_240]; exact Nat.le_of_ble_eq_true rfl) ?_
  refine Bod.go dc_240_71 rfl ?_
  refine Bod.bip 60 (by decide) dc_240_72 ?_
  refine Bod.virt (r := []) dc_240_74 kr_240_171 ⟨Or.inl rfl, ow_230, cl_0⟩ (by rw [np_230]; rfl) (by rw [np_230]; rfl) (ob_of (mk_49 _)) (Nat.le_of_ble_eq_true rfl) (c5  ) ?_
  show Bod _ _ _ _ [] _ _ _
  refine Bod.go dc_240_77 rfl ?_
  refine Bod.go dc_240_78 rfl ?_
  refine Bod.stat (r := [_]) dc_240_79 kr_240_202 (Or.inl rfl) (by rw [np_239]; rfl) (by rw [np_239]; rfl) (by rw [np_239]; exact Nat.le_of_ble_eq_true rfl) (Nat.le_of_ble_eq_true rfl) (c6  ) ?_
  show Bod _ _ _ _ [_, _] _ _ _
  refine Bod.virt (r := []) dc_240_82 kr_240_206 ⟨Or.inl rfl, ow_231, cl_0⟩ (by rw [np_231]; rfl) (by rw [np_231]; rfl) (ob_of (mk_49 _)) (Nat.le_of_ble_eq_true rfl) (c7  ) ?_
  show Bod _ _ _ _ [] _ _ _
  refine Bod.go dc_240_85 rfl ?_
  refine Bod.bip 32 (by decide) dc_240_86 ?_
  refine Bod.virt (r := []) dc_240_88 kr_240_171 ⟨Or.inl rfl, ow_230, cl_0⟩ (by rw [np_230]; rfl) (by rw [np_230]; rfl) (ob_of (mk_49 _)) (Nat.le_of_ble_eq_true rfl) (c8  ) ?_
  show Bod _ _ _ _ [] _ _ _
  refine Bod.go dc_240_91 rfl ?_
  refine Bod.go dc_240_92 rfl ?_
  refine Bod.get dc_240_93 fr_240_19 (mk_49 _) rfl ?_
  refine Bod.go dc_240_96 rfl ?_
  refine Bod.virt (r := [_]) dc_240_98 kr_240_239 ⟨Or.inr rfl, ow_181, cl_5⟩ (by rw [np_181]; rfl) (by rw [np_181]; rfl) (ob_of (mk_16 _)) (Nat.le_of_ble_eq_true rfl) (c9  ) ?_
  show Bod _ _ _ _ [_, _] _ _ _
  refine Bod.go dc_240_101 rfl ?_
  refine Bod.get dc_240_102 fr_240_19 (mk_49 _) rfl ?_
  refine Bod.go dc_240_105 rfl ?_
  refine Bod.virt (r := [_, _]) dc_240_107 kr_240_244 ⟨Or.inr rfl, ow_182, cl_5⟩ (by rw [np_182]; rfl) (by rw [np_182]; rfl) (ob_of (mk_16 _)) (Nat.le_of_ble_eq_true rfl) (c10  ) ?_
  show Bod _ _ _ _ [_, _, _] _ _ _
  refine Bod.virt (r := []) dc_240_110 kr_240_162 ⟨Or.inl rfl, ow_238, cl_0⟩ (by rw [np_238]; rfl) (by rw [np_238]; rfl) (ob_of (mk_49 _)) (Nat.le_of_ble_eq_true rfl) (c11  ) ?_
  show Bod _ _ _ _ [] _ _ _
  refine Bod.go dc_240_113 rfl ?_
  refine Bod.bip 62 (by decide) dc_240_114 ?_
  refine Bod.virt (r := []) dc_240_116 kr_240_171 ⟨Or.inl rfl, ow_230, cl_0⟩ (by rw [np_230]; rfl) (by rw [np_230]; rfl) (ob_of (mk_49 _)) (Nat.le_of_ble_eq_true rfl) (c12  ) ?_
  show Bod _ _ _ _ [] _ _ _
  exact Bod.retV dc_240_119 rt_240
theorem mWt_4 {d : Nat} {S : cS} {id : Nat} {S1 : cS} {a : Nat} {S2 : cS} {a1 : Nat} {S3 : cS} {a2 : Nat} {S4 : cS} {S5 : cS} {tx : Nat} {S6 : cS} {S7 : cS} {S8 : cS} {u : Int64} {S9 : cS} {u1 : Int64} {S10 : cS} {S11 : cS} (mid : id < 2 ^ 20) (ma : a < 2 ^ 20) (c1 : Ans (d + 8) 138 [.ref 2, .int (nI id)] S (some (.int (nI a))) S1) (b1 : a ≠ 5) (b2 : a ≠ 6) (ma1 : a1 < 2 ^ 20) (c2 : Ans (d + 8) 241 [.ref 2, .int (nI id)] S1 (some (.int (nI a1))) S2) (ma2 : a2 < 2 ^ 20) (c3 : Ans (d + 8) 138 [.ref 2, .int (nI id)] S2 (some (.int (nI a2))) S3) (b3 : a2 = 4) (c4 : Ans (d + 8) 230 [.ref 49, .int (nI 60)] S3 none S4) (c5 : Ans (d + 8) 239 [.int (nI a)] S4 (some (.retAddr (2 * tx))) S5) (c6 : Ans (d + 8) 231 [.ref 49, .retAddr (2 * tx)] S5 none S6) (c7 : Ans (d + 8) 230 [.ref 49, .int (nI 32)] S6 none S7) (c8 : Ans (d + 8) 181 [.ref 16, .int (nI a1)] S7 (some (.long u)) S8) (c9 : Ans (d + 8) 182 [.ref 16, .int (nI a1)] S8 (some (.long u1)) S9) (c10 : Ans (d + 8) 238 [.ref 49, .long u, .long u1] S9 none S10) (c11 : Ans (d + 8) 230 [.ref 49, .int (nI 62)] S10 none S11) : Bod (d + 8) 240 0 [(0, .ref 49), (1, .int (nI id))] [] S none (S11) := by
  refine Bod.go dc_240_0 rfl ?_
  refine Bod.get dc_240_1 fr_240_9 (mk_49 _) rfl ?_
  refine Bod.go dc_240_4 rfl ?_
  refine Bod.virt (r := []) dc_240_5 kr_240_94 ⟨Or.inr rfl, ow_138, cl_2⟩ (by rw [np_138]; rfl) (by rw [np_138]; rfl) (ob_of (mk_2 _)) (Nat.le_of_ble_eq_true rfl) (c1  ) ?_
  show Bod _ _ _ _ [_] _ _ _
  refine Bod.istn dc_240_8 (by rw [ml_240]; exact Nat.le_of_ble_eq_true rfl) ?_
  refine Bod.go dc_240_9 rfl ?_
  refine Bod.ic 5 (by decide) dc_240_10 ?_
  refine Bod.icF dc_240_11 rfl (k2_eq_F (k_ne a 5 rfl rfl (by omega) (by omega) (by omega))) ?_
  refine Bod.go dc_240_14 rfl ?_
  refine Bod.bip 6 (by decide) dc_240_15 ?_
  refine Bod.icT dc_240_17 rfl (k2_ne_T (k_ne a 6 rfl rfl (by omega) (by omega) (by omega))) ?_
  refine Bod.go dc_240_31 rfl ?_
  refine Bod.istn dc_240_32 (by rw [ml_240]; exact Nat.le_of_ble_eq_true rfl) ?_
  refine Bod.go dc_240_33 rfl ?_
  refine Bod.get dc_240_34 fr_240_9 (mk_49 _) rfl ?_
  refine Bod.go dc_240_37 rfl ?_
  refine Bod.virt (r := []) dc_240_38 kr_240_231 ⟨Or.inr rfl, ow_241, cl_2⟩ (by rw [np_241]; rfl) (by rw [np_241]; rfl) (ob_of (mk_2 _)) (Nat.le_of_ble_eq_true rfl) (c2  ) ?_
  show Bod _ _ _ _ [_] _ _ _
  refine Bod.ist dc_240_41 (by rw [ml_240]; exact Nat.le_of_ble_eq_true rfl) ?_
  refine Bod.go dc_240_43 rfl ?_
  refine Bod.get dc_240_44 fr_240_9 (mk_49 _) rfl ?_
  refine Bod.go dc_240_47 rfl ?_
  refine Bod.virt (r := []) dc_240_48 kr_240_94 ⟨Or.inr rfl, ow_138, cl_2⟩ (by rw [np_138]; rfl) (by rw [np_138]; rfl) (ob_of (mk_2 _)) (Nat.le_of_ble_eq_true rfl) (c3  ) ?_
  show Bod _ _ _ _ [_] _ _ _
  refine Bod.ic 4 (by decide) dc_240_51 ?_
  refine Bod.icF dc_240_52 rfl (k2_ne_F (k_eq a2 4 rfl rfl (by omega))) ?_
  refine Bod.go dc_240_55 rfl ?_
  refine Bod.go dc_240_57 rfl ?_
  refine Bod.ist dc_240_69 (by rw [ml_240]; exact Nat.le_of_ble_eq_true rfl) ?_
  refine Bod.go dc_240_71 rfl ?_
  refine Bod.bip 60 (by decide) dc_240_72 ?_
  refine Bod.virt (r := []) dc_240_74 kr_240_171 ⟨Or.inl rfl, ow_230, cl_0⟩ (by rw [np_230]; rfl) (by rw [np_230]; rfl) (ob_of (mk_49 _)) (Nat.le_of_ble_eq_true rfl) (c4  ) ?_
  show Bod _ _ _ _ [] _ _ _
  refine Bod.go dc_240_77 rfl ?_
  refine Bod.go dc_240_78 rfl ?_
  refine Bod.stat (r := [_]) dc_240_79 kr_240_202 (Or.inl rfl) (by rw [np_239]; rfl) (by rw [np_239]; rfl) (by rw [np_239]; exact Nat.le_of_ble_eq_true rfl) (Nat.le_of_ble_eq_true rfl) (c5  ) ?_
  show Bod _ _ _ _ [_, _] _ _ _
  refine Bod.virt (r := []) dc_240_82 kr_240_206 ⟨Or.inl rfl, ow_231, cl_0⟩ (by rw [np_231]; rfl) (by rw [np_231]; rfl) (ob_of (mk_49 _)) (Nat.le_of_ble_eq_true rfl) (c6  ) ?_
  show Bod _ _ _ _ [] _ _ _
  refine Bod.go dc_240_85 rfl ?_
  refine Bod.bip 32 (by decide) dc_240_86 ?_
  refine Bod.virt (r := []) dc_240_88 kr_240_171 ⟨Or.inl rfl, ow_230, cl_0⟩ (by rw [np_230]; rfl) (by rw [np_230]; rfl) (ob_of (mk_49 _)) (Nat.le_of_ble_eq_true rfl) (c7  ) ?_
  show Bod _ _ _ _ [] _ _ _
  refine Bod.go dc_240_91 rfl ?_
  refine Bod.go dc_240_92 rfl ?_
  refine Bod.get dc_240_93 fr_240_19 (mk_49 _) rfl ?_
  refine Bod.go dc_240_96 rfl ?_
  refine Bod.virt (r := [_]) dc_240_98 kr_240_239 ⟨Or.inr rfl, ow_181, cl_5⟩ (by rw [np_181]; rfl) (by rw [np_181]; rfl) (ob_of (mk_16 _)) (Nat.le_of_ble_eq_true rfl) (c8  ) ?_
  show Bod _ _ _ _ [_, _] _ _ _
  refine Bod.go dc_240_101 rfl ?_
  refine Bod.get dc_240_102 fr_240_19 (mk_49 _) rfl ?_
  refine Bod.go dc_240_105 rfl ?_
  refine Bod.virt (r := [_, _]) dc_240_107 kr_240_244 ⟨Or.inr rfl, ow_182, cl_5⟩ (by rw [np_182]; rfl) (by rw [np_182]; rfl) (ob_of (mk_16 _)) (Nat.le_of_ble_eq_true rfl) (c9  ) ?_
  show Bod _ _ _ _ [_, _, _] _ _ _
  refine Bod.virt (r := []) dc_240_110 kr_240_162 ⟨Or.inl rfl, ow_238, cl_0⟩ (by rw [np_238]; rfl) (by rw [np_238]; rfl) (ob_of (mk_49 _)) (Nat.le_of_ble_eq_true rfl) (c10  ) ?_
  show Bod _ _ _ _ [] _ _ _
  refine Bod.go dc_240_113 rfl ?_
  refine Bod.bip 62 (by decide) dc_240_114 ?_
  refine Bod.virt (r := []) dc_240_116 kr_240_171 ⟨Or.inl rfl, ow_230, cl_0⟩ (by rw [np_230]; rfl) (by rw [np_230]; rfl) (ob_of (mk_49 _)) (Nat.le_of_ble_eq_true rfl) (c11  ) ?_
  show Bod _ _ _ _ [] _ _ _
  exact Bod.retV dc_240_119 rt_240
theorem mWt_5 {d : Nat} {S : cS} {id : Nat} {S1 : cS} {a : Nat} {S2 : cS} {a1 : Nat} {S3 : cS} {a2 : Nat} {S4 : cS} {a3 : Nat} {S5 : cS} {a4 : Nat} {S6 : cS} {S7 : cS} {tx : Nat} {S8 : cS} {S9 : cS} {S10 : cS} {u : Int64} {S11 : cS} {u1 : Int64} {S12 : cS} {S13 : cS} (mid : id < 2 ^ 20) (ma : a < 2 ^ 20) (c1 : Ans (d + 8) 138 [.ref 2, .int (nI id)] S (some (.int (nI a))) S1) (b1 : a ≠ 5) (b2 : a = 6) (ma1 : a1 < 2 ^ 20) (c2 : Ans (d + 8) 168 [.ref 2, .int (nI id)] S1 (some (.int (nI a1))) S2) (ma2 : a2 < 2 ^ 20) (c3 : Ans (d + 8) 241 [.ref 2, .int (nI a1)] S2 (some (.int (nI a2))) S3) (ma3 : a3 < 2 ^ 20) (c4 : Ans (d + 8) 138 [.ref 2, .int (nI a1)] S3 (some (.int (nI a3))) S4) (b3 : a3 ≠ 4) (ma4 : a4 < 2 ^ 20) (c5 : Ans (d + 8) 242 [.ref 23, .int (nI a2)] S4 (some (.int (nI a4))) S5) (c6 : Ans (d + 8) 230 [.ref 49, .int (nI 60)] S5 none S6) (c7 : Ans (d + 8) 239 [.int (nI a)] S6 (some (.retAddr (2 * tx))) S7) (c8 : Ans (d + 8) 231 [.ref 49, .retAddr (2 * tx)] S7 none S8) (c9 : Ans (d + 8) 230 [.ref 49, .int (nI 32)] S8 none S9) (c10 : Ans (d + 8) 181 [.ref 16, .int (nI a4)] S9 (some (.long u)) S10) (c11 : Ans (d + 8) 182 [.ref 16, .int (nI a4)] S10 (some (.long u1)) S11) (c12 : Ans (d + 8) 238 [.ref 49, .long u, .long u1] S11 none S12) (c13 : Ans (d + 8) 230 [.ref 49, .int (nI 62)] S12 none S13) : Bod (d + 8) 240 0 [(0, .ref 49), (1, .int (nI id))] [] S none (S13) := by
  refine Bod.go dc_240_0 rfl ?_
  refine Bod.get dc_240_1 fr_240_9 (mk_49 _) rfl ?_
  refine Bod.go dc_240_4 rfl ?_
  refine Bod.virt (r := []) dc_240_5 kr_240_94 ⟨Or.inr rfl, ow_138, cl_2⟩ (by rw [np_138]; rfl) (by rw [np_138]; rfl) (ob_of (mk_2 _)) (Nat.le_of_ble_eq_true rfl) (c1  ) ?_
  show Bod _ _ _ _ [_] _ _ _
  refine Bod.istn dc_240_8 (by rw [ml_240]; exact Nat.le_of_ble_eq_true rfl) ?_
  refine Bod.go dc_240_9 rfl ?_
  refine Bod.ic 5 (by decide) dc_240_10 ?_
  refine Bod.icF dc_240_11 rfl (k2_eq_F (k_ne a 5 rfl rfl (by omega) (by omega) (by omega))) ?_
  refine Bod.go dc_240_14 rfl ?_
  refine Bod.bip 6 (by decide) dc_240_15 ?_
  refine Bod.icF dc_240_17 rfl (k2_ne_F (k_eq a 6 rfl rfl (by omega))) ?_
  refine Bod.go dc_240_20 rfl ?_
  refine Bod.get dc_240_21 fr_240_9 (mk_49 _) rfl ?_
  refine Bod.go dc_240_24 rfl ?_
  refine Bod.virt (r := []) dc_240_25 kr_240_228 ⟨Or.inr rfl, ow_168, cl_2⟩ (by rw [np_168]; rfl) (by rw [np_168]; rfl) (ob_of (mk_2 _)) (Nat.le_of_ble_eq_true rfl) (c2  ) ?_
  show Bod _ _ _ _ [_] _ _ _
  refine Bod.go dc_240_28 rfl ?_
  refine Bod.istn dc_240_32 (by rw [ml_240]; exact Nat.le_of_ble_eq_true rfl) ?_
  refine Bod.go dc_240_33 rfl ?_
  refine Bod.get dc_240_34 fr_240_9 (mk_49 _) rfl ?_
  refine Bod.go dc_240_37 rfl ?_
  refine Bod.virt (r := []) dc_240_38 kr_240_231 ⟨Or.inr rfl, ow_241, cl_2⟩ (by rw [np_241]; rfl) (by rw [np_241]; rfl) (ob_of (mk_2 _)) (Nat.le_of_ble_eq_true rfl) (c3  ) ?_
  show Bod _ _ _ _ [_] _ _ _
  refine Bod.ist dc_240_41 (by rw [ml_240]; exact Nat.le_of_ble_eq_true rfl) ?_
  refine Bod.go dc_240_43 rfl ?_
  refine Bod.get dc_240_44 fr_240_9 (mk_49 _) rfl ?_
  refine Bod.go dc_240_47 rfl ?_
  refine Bod.virt (r := []) dc_240_48 kr_240_94 ⟨Or.inr rfl, ow_138, cl_2⟩ (by rw [np_138]; rfl) (by rw [np_138]; rfl) (ob_of (mk_2 _)) (Nat.le_of_ble_eq_true rfl) (c4  ) ?_
  show Bod _ _ _ _ [_] _ _ _
  refine Bod.ic 4 (by decide) dc_240_51 ?_
  refine Bod.icT dc_240_52 rfl (k2_ne_T (k_ne a3 4 rfl rfl (by omega) (by omega) (by omega))) ?_
  refine Bod.go dc_240_60 rfl ?_
  refine Bod.get dc_240_61 fr_240_23 (mk_49 _) rfl ?_
  refine Bod.go dc_240_64 rfl ?_
  refine Bod.virt (r := []) dc_240_66 kr_240_234 ⟨Or.inr rfl, ow_242, cl_7⟩ (by rw [np_242]; rfl) (by rw [np_242]; rfl) (ob_of (mk_23 _)) (Nat.le_of_ble_eq_true rfl) (c5  ) ?_
  show Bod _ _ _ _ [_] _ _ _
  refine Bod.ist dc_240_69 (by rw [ml_240]; exact Nat.le_of_ble_eq_true rfl) ?_
  refine Bod.go dc_240_71 rfl ?_
  refine Bod.bip 60 (by decide) dc_240_72 ?_
  refine Bod.virt (r := []) dc_240_74 kr_240_171 ⟨Or.inl rfl, ow_230, cl_0⟩ (by rw [np_230]; rfl) (by rw [np_230]; rfl) (ob_of (mk_49 _)) (Nat.le_of_ble_eq_true rfl) (c6  ) ?_
  show Bod _ _ _ _ [] _ _ _
  refine Bod.go dc_240_77 rfl ?_
  refine Bod.go dc_240_78 rfl ?_
  refine Bod.stat (r := [_]) dc_240_79 kr_240_202 (Or.inl rfl) (by rw [np_239]; rfl) (by rw [np_239]; rfl) (by rw [np_239]; exact Nat.le_of_ble_eq_true rfl) (Nat.le_of_ble_eq_true rfl) (c7  ) ?_
  show Bod _ _ _ _ [_, _] _ _ _
  refine Bod.virt (r := []) dc_240_82 kr_240_206 ⟨Or.inl rfl, ow_231, cl_0⟩ (by rw [np_231]; rfl) (by rw [np_231]; rfl) (ob_of (mk_49 _)) (Nat.le_of_ble_eq_true rfl) (c8  ) ?_
  show Bod _ _ _ _ [] _ _ _
  refine Bod.go dc_240_85 rfl ?_
  refine Bod.bip 32 (by decide) dc_240_86 ?_
  refine Bod.virt (r := []) dc_240_88 kr_240_171 ⟨Or.inl rfl, ow_230, cl_0⟩ (by rw [np_230]; rfl) (by rw [np_230]; rfl) (ob_of (mk_49 _)) (Nat.le_of_ble_eq_true rfl) (c9  ) ?_
  show Bod _ _ _ _ [] _ _ _
  refine Bod.go dc_240_91 rfl ?_
  refine Bod.go dc_240_92 rfl ?_
  refine Bod.get dc_240_93 fr_240_19 (mk_49 _) rfl ?_
  refine Bod.go dc_240_96 rfl ?_
  refine Bod.virt (r := [_]) dc_240_98 kr_240_239 ⟨Or.inr rfl, ow_181, cl_5⟩ (by rw [np_181]; rfl) (by rw [np_181]; rfl) (ob_of (mk_16 _)) (Nat.le_of_ble_eq_true rfl) (c10  ) ?_
  show Bod _ _ _ _ [_, _] _ _ _
  refine Bod.go dc_240_101 rfl ?_
  refine Bod.get dc_240_102 fr_240_19 (mk_49 _) rfl ?_
  refine Bod.go dc_240_105 rfl ?_
  refine Bod.virt (r := [_, _]) dc_240_107 kr_240_244 ⟨Or.inr rfl, ow_182, cl_5⟩ (by rw [np_182]; rfl) (by rw [np_182]; rfl) (ob_of (mk_16 _)) (Nat.le_of_ble_eq_true rfl) (c11  ) ?_
  show Bod _ _ _ _ [_, _, _] _ _ _
  refine Bod.virt (r := []) dc_240_110 kr_240_162 ⟨Or.inl rfl, ow_238, cl_0⟩ (by rw [np_238]; rfl) (by rw [np_238]; rfl) (ob_of (mk_49 _)) (Nat.le_of_ble_eq_true rfl) (c12  ) ?_
  show Bod _ _ _ _ [] _ _ _
  refine Bod.go dc_240_113 rfl ?_
  refine Bod.bip 62 (by decide) dc_240_114 ?_
  refine Bod.virt (r := []) dc_240_116 kr_240_171 ⟨Or.inl rfl, ow_230, cl_0⟩ (by rw [np_230]; rfl) (by rw [np_230]; rfl) (ob_of (mk_49 _)) (Nat.le_of_ble_eq_true rfl) (c13  ) ?_
  show Bod _ _ _ _ [] _ _ _
  exact Bod.retV dc_240_119 rt_240
theorem mWt_6 {d : Nat} {S : cS} {id : Nat} {S1 : cS} {a : Nat} {S2 : cS} {a1 : Nat} {S3 : cS} {a2 : Nat} {S4 : cS} {a3 : Nat} {S5 : cS} {S6 : cS} {tx : Nat} {S7 : cS} {S8 : cS} {S9 : cS} {u : Int64} {S10 : cS} {u1 : Int64} {S11 : cS} {S12 : cS} (mid : id < 2 ^ 20) (ma : a < 2 ^ 20) (c1 : Ans (d + 8) 138 [.ref 2, .int (nI id)] S (some (.int (nI a))) S1) (b1 : a ≠ 5) (b2 : a = 6) (ma1 : a1 < 2 ^ 20) (c2 : Ans (d + 8) 168 [.ref 2, .int (nI id)] S1 (some (.int (nI a1))) S2) (ma2 : a2 < 2 ^ 20) (c3 : Ans (d + 8) 241 [.ref 2, .int (nI a1)] S2 (some (.int (nI a2))) S3) (ma3 : a3 < 2 ^ 20) (c4 : Ans (d + 8) 138 [.ref 2, .int (nI a1)] S3 (some (.int (nI a3))) S4) (b3 : a3 = 4) (c5 : Ans (d + 8) 230 [.ref 49, .int (nI 60)] S4 none S5) (c6 : Ans (d + 8) 239 [.int (nI a)] S5 (some (.retAddr (2 * tx))) S6) (c7 : Ans (d + 8) 231 [.ref 49, .retAddr (2 * tx)] S6 none S7) (c8 : Ans (d + 8) 230 [.ref 49, .int (nI 32)] S7 none S8) (c9 : Ans (d + 8) 181 [.ref 16, .int (nI a2)] S8 (some (.long u)) S9) (c10 : Ans (d + 8) 182 [.ref 16, .int (nI a2)] S9 (some (.long u1)) S10) (c11 : Ans (d + 8) 238 [.ref 49, .long u, .long u1] S10 none S11) (c12 : Ans (d + 8) 230 [.ref 49, .int (nI 62)] S11 none S12) : Bod (d + 8) 240 0 [(0, .ref 49), (1, .int (nI id))] [] S none (S12) := by
  refine Bod.go dc_240_0 rfl ?_
  refine Bod.get dc_240_1 fr_240_9 (mk_49 _) rfl ?_
  refine Bod.go dc_240_4 rfl ?_
  refine Bod.virt (r := []) dc_240_5 kr_240_94 ⟨Or.inr rfl, ow_138, cl_2⟩ (by rw [np_138]; rfl) (by rw [np_138]; rfl) (ob_of (mk_2 _)) (Nat.le_of_ble_eq_true rfl) (c1  ) ?_
  show Bod _ _ _ _ [_] _ _ _
  refine Bod.istn dc_240_8 (by rw [ml_240]; exact Nat.le_of_ble_eq_true rfl) ?_
  refine Bod.go dc_240_9 rfl ?_
  refine Bod.ic 5 (by decide) dc_240_10 ?_
  refine Bod.icF dc_240_11 rfl (k2_eq_F (k_ne a 5 rfl rfl (by omega) (by omega) (by omega))) ?_
  refine Bod.go dc_240_14 rfl ?_
  refine Bod.bip 6 (by decide) dc_240_15 ?_
  refine Bod.icF dc_240_17 rfl (k2_ne_F (k_eq a 6 rfl rfl (by omega))) ?_
  refine Bod.go dc_240_20 rfl ?_
  refine Bod.get dc_240_21 fr_240_9 (mk_49 _) rfl ?_
  refine Bod.go dc_240_24 rfl ?_
  refine Bod.virt (r := []) dc_240_25 kr_240_228 ⟨Or.inr rfl, ow_168, cl_2⟩ (by rw [np_168]; rfl) (by rw [np_168]; rfl) (ob_of (mk_2 _)) (Nat.le_of_ble_eq_true rfl) (c2  ) ?_
  show Bod _ _ _ _ [_] _ _ _
  refine Bod.go dc_240_28 rfl ?_
  refine Bod.istn dc_240_32 (by rw [ml_240]; exact Nat.le_of_ble_eq_true rfl) ?_
  refine Bod.go dc_240_33 rfl ?_
  refine Bod.get dc_240_34 fr_240_9 (mk_49 _) rfl ?_
  refine Bod.go dc_240_37 rfl ?_
  refine Bod.virt (r := []) dc_240_38 kr_240_231 ⟨Or.inr rfl, ow_241, cl_2⟩ (by rw [np_241]; rfl) (by rw [np_241]; rfl) (ob_of (mk_2 _)) (Nat.le_of_ble_eq_true rfl) (c3  ) ?_
  show Bod _ _ _ _ [_] _ _ _
  refine Bod.ist dc_240_41 (by rw [ml_240]; exact Nat.le_of_ble_eq_true rfl) ?_
  refine Bod.go dc_240_43 rfl ?_
  refine Bod.get dc_240_44 fr_240_9 (mk_49 _) rfl ?_
  refine Bod.go dc_240_47 rfl ?_
  refine Bod.virt (r := []) dc_240_48 kr_240_94 ⟨Or.inr rfl, ow_138, cl_2⟩ (by rw [np_138]; rfl) (by rw [np_138]; rfl) (ob_of (mk_2 _)) (Nat.le_of_ble_eq_true rfl) (c4  ) ?_
  show Bod _ _ _ _ [_] _ _ _
  refine Bod.ic 4 (by decide) dc_240_51 ?_
  refine Bod.icF dc_240_52 rfl (k2_ne_F (k_eq a3 4 rfl rfl (by omega))) ?_
  refine Bod.go dc_240_55 rfl ?_
  refine Bod.go dc_240_57 rfl ?_
  refine Bod.ist dc_240_69 (by rw [ml_240]; exact Nat.le_of_ble_eq_true rfl) ?_
  refine Bod.go dc_240_71 rfl ?_
  refine Bod.bip 60 (by decide) dc_240_72 ?_
  refine Bod.virt (r := []) dc_240_74 kr_240_171 ⟨Or.inl rfl, ow_230, cl_0⟩ (by rw [np_230]; rfl) (by rw [np_230]; rfl) (ob_of (mk_49 _)) (Nat.le_of_ble_eq_true rfl) (c5  ) ?_
  show Bod _ _ _ _ [] _ _ _
  refine Bod.go dc_240_77 rfl ?_
  refine Bod.go dc_240_78 rfl ?_
  refine Bod.stat (r := [_]) dc_240_79 kr_240_202 (Or.inl rfl) (by rw [np_239]; rfl) (by rw [np_239]; rfl) (by rw [np_239]; exact Nat.le_of_ble_eq_true rfl) (Nat.le_of_ble_eq_true rfl) (c6  ) ?_
  show Bod _ _ _ _ [_, _] _ _ _
  refine Bod.virt (r := []) dc_240_82 kr_240_206 ⟨Or.inl rfl, ow_231, cl_0⟩ (by rw [np_231]; rfl) (by rw [np_231]; rfl) (ob_of (mk_49 _)) (Nat.le_of_ble_eq_true rfl) (c7  ) ?_
  show Bod _ _ _ _ [] _ _ _
  refine Bod.go dc_240_85 rfl ?_
  refine Bod.bip 32 (by decide) dc_240_86 ?_
  refine Bod.virt (r := []) dc_240_88 kr_240_171 ⟨Or.inl rfl, ow_230, cl_0⟩ (by rw [np_230]; rfl) (by rw [np_230]; rfl) (ob_of (mk_49 _)) (Nat.le_of_ble_eq_true rfl) (c8  ) ?_
  show Bod _ _ _ _ [] _ _ _
  refine Bod.go dc_240_91 rfl ?_
  refine Bod.go dc_240_92 rfl ?_
  refine Bod.get dc_240_93 fr_240_19 (mk_49 _) rfl ?_
  refine Bod.go dc_240_96 rfl ?_
  refine Bod.virt (r := [_]) dc_240_98 kr_240_239 ⟨Or.inr rfl, ow_181, cl_5⟩ (by rw [np_181]; rfl) (by rw [np_181]; rfl) (ob_of (mk_16 _)) (Nat.le_of_ble_eq_true rfl) (c9  ) ?_
  show Bod _ _ _ _ [_, _] _ _ _
  refine Bod.go dc_240_101 rfl ?_
  refine Bod.get dc_240_102 fr_240_19 (mk_49 _) rfl ?_
  refine Bod.go dc_240_105 rfl ?_
  refine Bod.virt (r := [_, _]) dc_240_107 kr_240_244 ⟨Or.inr rfl, ow_182, cl_5⟩ (by rw [np_182]; rfl) (by rw [np_182]; rfl) (ob_of (mk_16 _)) (Nat.le_of_ble_eq_true rfl) (c10  ) ?_
  show Bod _ _ _ _ [_, _, _] _ _ _
  refine Bod.virt (r := []) dc_240_110 kr_240_162 ⟨Or.inl rfl, ow_238, cl_0⟩ (by rw [np_238]; rfl) (by rw [np_238]; rfl) (ob_of (mk_49 _)) (Nat.le_of_ble_eq_true rfl) (c11  ) ?_
  show Bod _ _ _ _ [] _ _ _
  refine Bod.go dc_240_113 rfl ?_
  refine Bod.bip 62 (by decide) dc_240_114 ?_
  refine Bod.virt (r := []) dc_240_116 kr_240_171 ⟨Or.inl rfl, ow_230, cl_0⟩ (by rw [np_230]; rfl) (by rw [np_230]; rfl) (ob_of (mk_49 _)) (Nat.le_of_ble_eq_true rfl) (c12  ) ?_
  show Bod _ _ _ _ [] _ _ _
  exact Bod.retV dc_240_119 rt_240
theorem mRn1__1 {d : Nat} {S : cS} {S1 : cS} {u : Int64} {S2 : cS} {rb : Int32} {S3 : cS} {u1 : Int64} (c1 : Ans (d + 8) 132 [.ref 46, .int (nI 0)] S (some (.long u)) S1) (c2 : Ans (d + 8) 134 [.long u] S1 (some (.int rb)) S2) (w3 : rb = nI 2) (c3 : Ans (d + 8) 135 [.ref 46, .int (nI 0)] S2 (some (.long u1)) S3) (w5 : sm_c1 .ge (lg_cmp 0 u1) true false = true) (w6 : sm_c1 .lt (lg_cmp 0 0) true false = true) : Bod (d + 8) 243 0 [(0, .ref 49), (1, .int (nI 1))] [] S (some (.int (nI 8))) (S3) := by
  refine Bod.go dc_243_0 rfl ?_
  refine Bod.get dc_243_1 fr_243_15 (mk_49 _) rfl ?_
  refine Bod.ic 0 (by decide) dc_243_4 ?_
  refine Bod.virt (r := []) dc_243_5 kr_243_80 ⟨Or.inr rfl, ow_132, cl_9⟩ (by rw [np_132]; rfl) (by rw [np_132]; rfl) (ob_of (mk_46 _)) (Nat.le_of_ble_eq_true rfl) (c1  ) ?_
  show Bod _ _ _ _ [_] _ _ _
  refine Bod.stat (r := []) dc_243_8 kr_243_84 (Or.inr rfl) (by rw [np_134]; rfl) (by rw [np_134]; rfl) (by rw [np_134]; exact Nat.le_of_ble_eq_true rfl) (Nat.le_of_ble_eq_true rfl) (c2  ) ?_
  show Bod _ _ _ _ [_] _ _ _
  refine Bod.ic 2 (by decide) dc_243_11 ?_
  refine Bod.icF dc_243_12 rfl (c2_ne_F w3) ?_
  refine Bod.go dc_243_15 rfl ?_
  refine Bod.ic 2 (by decide) dc_243_16 ?_
  refine Bod.icT dc_243_17 rfl (k2_ne_T (k_ne 1 2 rfl rfl (by omega) (by omega) (by omega))) ?_
  refine Bod.go dc_243_37 rfl ?_
  refine Bod.ic 2 (by decide) dc_243_38 ?_
  refine Bod.icT dc_243_39 rfl (k2_ne_T (k_ne 1 2 rfl rfl (by omega) (by omega) (by omega))) ?_
  refine Bod.go dc_243_53 rfl ?_
  refine Bod.lstn dc_243_54 (by rw [ml_243]; exact Nat.le_of_ble_eq_true rfl) ?_
  refine Bod.go dc_243_55 rfl ?_
  refine Bod.get dc_243_56 fr_243_15 (mk_49 _) rfl ?_
  refine Bod.ic 0 (by decide) dc_243_59 ?_
  refine Bod.virt (r := []) dc_243_60 kr_243_100 ⟨Or.inr rfl, ow_135, cl_9⟩ (by rw [np_135]; rfl) (by rw [np_135]; rfl) (ob_of (mk_46 _)) (Nat.le_of_ble_eq_true rfl) (c3  ) ?_
  show Bod _ _ _ _ [_] _ _ _
  refine Bod.lst dc_243_63 (by rw [ml_243]; exact Nat.le_of_ble_eq_true rfl) ?_
  refine Bod.go dc_243_65 rfl ?_
  refine Bod.go dc_243_66 rfl ?_
  refine Bod.go dc_243_68 rfl ?_
  refine Bod.ifT dc_243_69 rfl w5 ?_
  refine Bod.go dc_243_79 rfl ?_
  refine Bod.lst dc_243_80 (by rw [ml_243]; exact Nat.le_of_ble_eq_true rfl) ?_
  refine Bod.go dc_243_82 rfl ?_
  refine Bod.go dc_243_84 rfl ?_
  refine Bod.go dc_243_85 rfl ?_
  refine Bod.ifT dc_243_86 rfl w6 ?_
  refine Bod.bip 8 (by decide) dc_243_98 ?_
  exact Bod.retI dc_243_100 rt_243
theorem mRn1__2 {d : Nat} {S Sf : cS} {v : Option Value} {S1 : cS} {u : Int64} {S2 : cS} {rb : Int32} {S3 : cS} {u1 : Int64} {S4 : cS} {a : Nat} (c1 : Ans (d + 8) 132 [.ref 46, .int (nI 0)] S (some (.long u)) S1) (c2 : Ans (d + 8) 134 [.long u] S1 (some (.int rb)) S2) (w3 : rb = nI 2) (c3 : Ans (d + 8) 135 [.ref 46, .int (nI 0)] S2 (some (.long u1)) S3) (w5 : sm_c1 .ge (lg_cmp 0 u1) true false = true) (w6 : sm_c1 .lt (lg_cmp 0 0) true false = false) (w7 : sm_c1 .le (lg_cmp 0 ((300))) true false = true) (ma : a < 2 ^ 20) (c4 : Ans (d + 8) 178 [.ref 2, .int (nI 1)] S3 (some (.int (nI a))) S4) (b1 : a ≠ 0) (hB : ∀ lv1 : sm_L, sm_get lv1 0 = some (.ref 49) → sm_get lv1 1 = some (.int (nI 1)) → sm_get lv1 2 = some (.long 0) → sm_get lv1 6 = some (.long 0) → sm_get lv1 8 = some (.int (nI a)) → sm_get lv1 9 = some (.int (nI 0)) → Bod (d + 8) 243 122 lv1 [] (S4) v Sf) : Bod (d + 8) 243 0 [(0, .ref 49), (1, .int (nI 1))] [] S v Sf := by
  refine Bod.go dc_243_0 rfl ?_
  refine Bod.get dc_243_1 fr_243_15 (mk_49 _) rfl ?_
  refine Bod.ic 0 (by decide) dc_243_4 ?_
  refine Bod.virt (r := []) dc_243_5 kr_243_80 ⟨Or.inr rfl, ow_132, cl_9⟩ (by rw [np_132]; rfl) (by rw [np_132]; rfl) (ob_of (mk_46 _)) (Nat.le_of_ble_eq_true rfl) (c1  ) ?_
  show Bod _ _ _ _ [_] _ _ _
  refine Bod.stat (r := []) dc_243_8 kr_243_84 (Or.inr rfl) (by rw [np_134]; rfl) (by rw [np_134]; rfl) (by rw [np_134]; exact Nat.le_of_ble_eq_true rfl) (Nat.le_of_ble_eq_true rfl) (c2  ) ?_
  show Bod _ _ _ _ [_] _ _ _
  refine Bod.ic 2 (by decide) dc_243_11 ?_
  refine Bod.icF dc_243_12 rfl (c2_ne_F w3) ?_
  refine Bod.go dc_243_15 rfl ?_
  refine Bod.ic 2 (by decide) dc_243_16 ?_
  refine Bod.icT dc_243_17 rfl (k2_ne_T (k_ne 1 2 rfl rfl (by omega) (by omega) (by omega))) ?_
  refine Bod.go dc_243_37 rfl ?_
  refine Bod.ic 2 (by decide) dc_243_38 ?_
  refine Bod.icT dc_243_39 rfl (k2_ne_T (k_ne 1 2 rfl rfl (by omega) (by omega) (by omega))) ?_
  refine Bod.go dc_243_53 rfl ?_
  refine Bod.lstn dc_243_54 (by rw [ml_243]; exact Nat.le_of_ble_eq_true rfl) ?_
  refine Bod.go dc_243_55 rfl ?_
  refine Bod.get dc_243_56 fr_243_15 (mk_49 _) rfl ?_
  refine Bod.ic 0 (by decide) dc_243_59 ?_
  refine Bod.virt (r := []) dc_243_60 kr_243_100 ⟨Or.inr rfl, ow_135, cl_9⟩ (by rw [np_135]; rfl) (by rw [np_135]; rfl) (ob_of (mk_46 _)) (Nat.le_of_ble_eq_true rfl) (c3  ) ?_
  show Bod _ _ _ _ [_] _ _ _
  refine Bod.lst dc_243_63 (by rw [ml_243]; exact Nat.le_of_ble_eq_true rfl) ?_
  refine Bod.go dc_243_65 rfl ?_
  refine Bod.go dc_243_66 rfl ?_
  refine Bod.go dc_243_68 rfl ?_
  refine Bod.ifT dc_243_69 rfl w5 ?_
  refine Bod.go dc_243_79 rfl ?_
  refine Bod.lst dc_243_80 (by rw [ml_243]; exact Nat.le_of_ble_eq_true rfl) ?_
  refine Bod.go dc_243_82 rfl ?_
  refine Bod.go dc_243_84 rfl ?_
  refine Bod.go dc_243_85 rfl ?_
  refine Bod.ifF dc_243_86 rfl w6 ?_
  refine Bod.go dc_243_89 rfl ?_
  refine Bod.ldc2 dc_243_91 cj_243_103 ?_
  refine Bod.go dc_243_94 rfl ?_
  refine Bod.ifT dc_243_95 rfl w7 ?_
  refine Bod.go dc_243_101 rfl ?_
  refine Bod.get dc_243_102 fr_243_9 (mk_49 _) rfl ?_
  refine Bod.ic 1 (by decide) dc_243_105 ?_
  refine Bod.virt (r := []) dc_243_106 kr_243_105 ⟨Or.inr rfl, ow_178, cl_2⟩ (by rw [np_178]; rfl) (by rw [np_178]; rfl) (ob_of (mk_2 _)) (Nat.le_of_ble_eq_true rfl) (c4  ) ?_
  show Bod _ _ _ _ [_] _ _ _
  refine Bod.ist dc_243_109 (by rw [ml_243]; exact Nat.le_of_ble_eq_true rfl) ?_
  refine Bod.go dc_243_111 rfl ?_
  refine Bod.ifT dc_243_113 rfl (k1_ne_T (k_ne a 0 rfl rfl (by omega) (by omega) (by omega))) ?_
  refine Bod.ic 0 (by decide) dc_243_119 ?_
  refine Bod.ist dc_243_120 (by rw [ml_243]; exact Nat.le_of_ble_eq_true rfl) ?_
  exact hB _ (by first | rfl | exact (by repeat (first | exact rfl | exact sm_get_p1 | exact sm_get_p2e | refine sm_get_p1m (by decide) (by decide) ?_ | refine sm_get_p1n (by decide) rfl ?_ | refine sm_get_p2n (by decide) (by decide) rfl ?_ | refine sm_get_p2m (by decide) (by decide) (by decide) ?_))) (by first | rfl | exact (by repeat (first | exact rfl | exact sm_get_p1 | exact sm_get_p2e | refine sm_get_p1m (by decide) (by decide) ?_ | refine sm_get_p1n (by decide) rfl ?_ | refine sm_get_p2n (by decide) (by decide) rfl ?_ | refine sm_get_p2m (by decide) (by decide) (by decide) ?_))) (by first | rfl | exact (by repeat (first | exact rfl | exact sm_get_p1 | exact sm_get_p2e | refine sm_get_p1m (by decide) (by decide) ?_ | refine sm_get_p1n (by decide) rfl ?_ | refine sm_get_p2n (by decide) (by decide) rfl ?_ | refine sm_get_p2m (by decide) (by decide) (by decide) ?_))) (by first | rfl | exact (by repeat (first | exact rfl | exact sm_get_p1 | exact sm_get_p2e | refine sm_get_p1m (by decide) (by decide) ?_ | refine sm_get_p1n (by decide) rfl ?_ | refine sm_get_p2n (by decide) (by decide) rfl ?_ | refine sm_get_p2m (by decide) (by decide) (by decide) ?_))) (by first | rfl | exact (by repeat (first | exact rfl | exact sm_get_p1 | exact sm_get_p2e | refine sm_get_p1m (by decide) (by decide) ?_ | refine sm_get_p1n (by decide) rfl ?_ | refine sm_get_p2n (by decide) (by decide) rfl ?_ | refine sm_get_p2m (by decide) (by decide) (by decide) ?_))) (by first | rfl | exact (by repeat (first | exact rfl | exact sm_get_p1 | exact sm_get_p2e | refine sm_get_p1m (by decide) (by decide) ?_ | refine sm_get_p1n (by decide) rfl ?_ | refine sm_get_p2n (by decide) (by decide) rfl ?_ | refine sm_get_p2m (by decide) (by decide) (by decide) ?_)))
theorem mRn1__3 {d : Nat} {S : cS} {S1 : cS} {u : Int64} {S2 : cS} {rb : Int32} {S3 : cS} {u1 : Int64} {S4 : cS} {a : Nat} (c1 : Ans (d + 8) 132 [.ref 46, .int (nI 0)] S (some (.long u)) S1) (c2 : Ans (d + 8) 134 [.long u] S1 (some (.int rb)) S2) (w3 : rb = nI 2) (c3 : Ans (d + 8) 135 [.ref 46, .int (nI 0)] S2 (some (.long u1)) S3) (w5 : sm_c1 .ge (lg_cmp 0 u1) true false = true) (w6 : sm_c1 .lt (lg_cmp 0 0) true false = false) (w7 : sm_c1 .le (lg_cmp 0 ((300))) true false = true) (ma : a < 2 ^ 20) (c4 : Ans (d + 8) 178 [.ref 2, .int (nI 1)] S3 (some (.int (nI a))) S4) (b1 : a = 0) : Bod (d + 8) 243 0 [(0, .ref 49), (1, .int (nI 1))] [] S (some (.int (nI 8))) (S4) := by
  refine Bod.go dc_243_0 rfl ?_
  refine Bod.get dc_243_1 fr_243_15 (mk_49 _) rfl ?_
  refine Bod.ic 0 (by decide) dc_243_4 ?_
  refine Bod.virt (r := []) dc_243_5 kr_243_80 ⟨Or.inr rfl, ow_132, cl_9⟩ (by rw [np_132]; rfl) (by rw [np_132]; rfl) (ob_of (mk_46 _)) (Nat.le_of_ble_eq_true rfl) (c1  ) ?_
  show Bod _ _ _ _ [_] _ _ _
  refine Bod.stat (r := []) dc_243_8 kr_243_84 (Or.inr rfl) (by rw [np_134]; rfl) (by rw [np_134]; rfl) (by rw [np_134]; exact Nat.le_of_ble_eq_true rfl) (Nat.le_of_ble_eq_true rfl) (c2  ) ?_
  show Bod _ _ _ _ [_] _ _ _
  refine Bod.ic 2 (by decide) dc_243_11 ?_
  refine Bod.icF dc_243_12 rfl (c2_ne_F w3) ?_
  refine Bod.go dc_243_15 rfl ?_
  refine Bod.ic 2 (by decide) dc_243_16 ?_
  refine Bod.icT dc_243_17 rfl (k2_ne_T (k_ne 1 2 rfl rfl (by omega) (by omega) (by omega))) ?_
  refine Bod.go dc_243_37 rfl ?_
  refine Bod.ic 2 (by decide) dc_243_38 ?_
  refine Bod.icT dc_243_39 rfl (k2_ne_T (k_ne 1 2 rfl rfl (by omega) (by omega) (by omega))) ?_
  refine Bod.go dc_243_53 rfl ?_
  refine Bod.lstn dc_243_54 (by rw [ml_243]; exact Nat.le_of_ble_eq_true rfl) ?_
  refine Bod.go dc_243_55 rfl ?_
  refine Bod.get dc_243_56 fr_243_15 (mk_49 _) rfl ?_
  refine Bod.ic 0 (by decide) dc_243_59 ?_
  refine Bod.virt (r := []) dc_243_60 kr_243_100 ⟨Or.inr rfl, ow_135, cl_9⟩ (by rw [np_135]; rfl) (by rw [np_135]; rfl) (ob_of (mk_46 _)) (Nat.le_of_ble_eq_true rfl) (c3  ) ?_
  show Bod _ _ _ _ [_] _ _ _
  refine Bod.lst dc_243_63 (by rw [ml_243]; exact Nat.le_of_ble_eq_true rfl) ?_
  refine Bod.go dc_243_65 rfl ?_
  refine Bod.go dc_243_66 rfl ?_
  refine Bod.go dc_243_68 rfl ?_
  refine Bod.ifT dc_243_69 rfl w5 ?_
  refine Bod.go dc_243_79 rfl ?_
  refine Bod.lst dc_243_80 (by rw [ml_243]; exact Nat.le_of_ble_eq_true rfl) ?_
  refine Bod.go dc_243_82 rfl ?_
  refine Bod.go dc_243_84 rfl ?_
  refine Bod.go dc_243_85 rfl ?_
  refine Bod.ifF dc_243_86 rfl w6 ?_
  refine Bod.go dc_243_89 rfl ?_
  refine Bod.ldc2 dc_243_91 cj_243_103 ?_
  refine Bod.go dc_243_94 rfl ?_
  refine Bod.ifT dc_243_95 rfl w7 ?_
  refine Bod.go dc_243_101 rfl ?_
  refine Bod.get dc_243_102 fr_243_9 (mk_49 _) rfl ?_
  refine Bod.ic 1 (by decide) dc_243_105 ?_
  refine Bod.virt (r := []) dc_243_106 kr_243_105 ⟨Or.inr rfl, ow_178, cl_2⟩ (by rw [np_178]; rfl) (by rw [np_178]; rfl) (ob_of (mk_2 _)) (Nat.le_of_ble_eq_true rfl) (c4  ) ?_
  show Bod _ _ _ _ [_] _ _ _
  refine Bod.ist dc_243_109 (by rw [ml_243]; exact Nat.le_of_ble_eq_true rfl) ?_
  refine Bod.go dc_243_111 rfl ?_
  refine Bod.ifF dc_243_113 rfl (k1_ne_F (k_eq a 0 rfl rfl (by omega))) ?_
  refine Bod.bip 8 (by decide) dc_243_116 ?_
  exact Bod.retI dc_243_118 rt_243
theorem mRn1__4 {d : Nat} {S : cS} {S1 : cS} {u : Int64} {S2 : cS} {rb : Int32} {S3 : cS} {u1 : Int64} (c1 : Ans (d + 8) 132 [.ref 46, .int (nI 0)] S (some (.long u)) S1) (c2 : Ans (d + 8) 134 [.long u] S1 (some (.int rb)) S2) (w3 : rb = nI 2) (c3 : Ans (d + 8) 135 [.ref 46, .int (nI 0)] S2 (some (.long u1)) S3) (w5 : sm_c1 .ge (lg_cmp 0 u1) true false = true) (w6 : sm_c1 .lt (lg_cmp 0 0) true false = false) (w7 : sm_c1 .le (lg_cmp 0 ((300))) true false = false) : Bod (d + 8) 243 0 [(0, .ref 49), (1, .int (nI 1))] [] S (some (.int (nI 8))) (S3) := by
  refine Bod.go dc_243_0 rfl ?_
  refine Bod.get dc_243_1 fr_243_15 (mk_49 _) rfl ?_
  refine Bod.ic 0 (by decide) dc_243_4 ?_
  refine Bod.virt (r := []) dc_243_5 kr_243_80 ⟨Or.inr rfl, ow_132, cl_9⟩ (by rw [np_132]; rfl) (by rw [np_132]; rfl) (ob_of (mk_46 _)) (Nat.le_of_ble_eq_true rfl) (c1  ) ?_
  show Bod _ _ _ _ [_] _ _ _
  refine Bod.stat (r := []) dc_243_8 kr_243_84 (Or.inr rfl) (by rw [np_134]; rfl) (by rw [np_134]; rfl) (by rw [np_134]; exact Nat.le_of_ble_eq_true rfl) (Nat.le_of_ble_eq_true rfl) (c2  ) ?_
  show Bod _ _ _ _ [_] _ _ _
  refine Bod.ic 2 (by decide) dc_243_11 ?_
  refine Bod.icF dc_243_12 rfl (c2_ne_F w3) ?_
  refine Bod.go dc_243_15 rfl ?_
  refine Bod.ic 2 (by decide) dc_243_16 ?_
  refine Bod.icT dc_243_17 rfl (k2_ne_T (k_ne 1 2 rfl rfl (by omega) (by omega) (by omega))) ?_
  refine Bod.go dc_243_37 rfl ?_
  refine Bod.ic 2 (by decide) dc_243_38 ?_
  refine Bod.icT dc_243_39 rfl (k2_ne_T (k_ne 1 2 rfl rfl (by omega) (by omega) (by omega))) ?_
  refine Bod.go dc_243_53 rfl ?_
  refine Bod.lstn dc_243_54 (by rw [ml_243]; exact Nat.le_of_ble_eq_true rfl) ?_
  refine Bod.go dc_243_55 rfl ?_
  refine Bod.get dc_243_56 fr_243_15 (mk_49 _) rfl ?_
  refine Bod.ic 0 (by decide) dc_243_59 ?_
  refine Bod.virt (r := []) dc_243_60 kr_243_100 ⟨Or.inr rfl, ow_135, cl_9⟩ (by rw [np_135]; rfl) (by rw [np_135]; rfl) (ob_of (mk_46 _)) (Nat.le_of_ble_eq_true rfl) (c3  ) ?_
  show Bod _ _ _ _ [_] _ _ _
  refine Bod.lst dc_243_63 (by rw [ml_243]; exact Nat.le_of_ble_eq_true rfl) ?_
  refine Bod.go dc_243_65 rfl ?_
  refine Bod.go dc_243_66 rfl ?_
  refine Bod.go dc_243_68 rfl ?_
  refine Bod.ifT dc_243_69 rfl w5 ?_
  refine Bod.go dc_243_79 rfl ?_
  refine Bod.lst dc_243_80 (by rw [ml_243]; exact Nat.le_of_ble_eq_true rfl) ?_
  refine Bod.go dc_243_82 rfl ?_
  refine Bod.go dc_243_84 rfl ?_
  refine Bod.go dc_243_85 rfl ?_
  refine Bod.ifF dc_243_86 rfl w6 ?_
  refine Bod.go dc_243_89 rfl ?_
  refine Bod.ldc2 dc_243_91 cj_243_103 ?_
  refine Bod.go dc_243_94 rfl ?_
  refine Bod.ifF dc_243_95 rfl w7 ?_
  refine Bod.bip 8 (by decide) dc_243_98 ?_
  exact Bod.retI dc_243_100 rt_243
theorem mRn1__5 {d : Nat} {S : cS} {S1 : cS} {u : Int64} {S2 : cS} {rb : Int32} {S3 : cS} {u1 : Int64} (c1 : Ans (d + 8) 132 [.ref 46, .int (nI 0)] S (some (.long u)) S1) (c2 : Ans (d + 8) 134 [.long u] S1 (some (.int rb)) S2) (w3 : rb = nI 2) (c3 : Ans (d + 8) 135 [.ref 46, .int (nI 0)] S2 (some (.long u1)) S3) (w5 : sm_c1 .ge (lg_cmp 0 u1) true false = false) (w6 : sm_c1 .lt (lg_cmp (u1 - 0) 0) true false = true) : Bod (d + 8) 243 0 [(0, .ref 49), (1, .int (nI 1))] [] S (some (.int (nI 8))) (S3) := by
  refine Bod.go dc_243_0 rfl ?_
  refine Bod.get dc_243_1 fr_243_15 (mk_49 _) rfl ?_
  refine Bod.ic 0 (by decide) dc_243_4 ?_
  refine Bod.virt (r := []) dc_243_5 kr_243_80 ⟨Or.inr rfl, ow_132, cl_9⟩ (by rw [np_132]; rfl) (by rw [np_132]; rfl) (ob_of (mk_46 _)) (Nat.le_of_ble_eq_true rfl) (c1  ) ?_
  show Bod _ _ _ _ [_] _ _ _
  refine Bod.stat (r := []) dc_243_8 kr_243_84 (Or.inr rfl) (by rw [np_134]; rfl) (by rw [np_134]; rfl) (by rw [np_134]; exact Nat.le_of_ble_eq_true rfl) (Nat.le_of_ble_eq_true rfl) (c2  ) ?_
  show Bod _ _ _ _ [_] _ _ _
  refine Bod.ic 2 (by decide) dc_243_11 ?_
  refine Bod.icF dc_243_12 rfl (c2_ne_F w3) ?_
  refine Bod.go dc_243_15 rfl ?_
  refine Bod.ic 2 (by decide) dc_243_16 ?_
  refine Bod.icT dc_243_17 rfl (k2_ne_T (k_ne 1 2 rfl rfl (by omega) (by omega) (by omega))) ?_
  refine Bod.go dc_243_37 rfl ?_
  refine Bod.ic 2 (by decide) dc_243_38 ?_
  refine Bod.icT dc_243_39 rfl (k2_ne_T (k_ne 1 2 rfl rfl (by omega) (by omega) (by omega))) ?_
  refine Bod.go dc_243_53 rfl ?_
  refine Bod.lstn dc_243_54 (by rw [ml_243]; exact Nat.le_of_ble_eq_true rfl) ?_
  refine Bod.go dc_243_55 rfl ?_
  refine Bod.get dc_243_56 fr_243_15 (mk_49 _) rfl ?_
  refine Bod.ic 0 (by decide) dc_243_59 ?_
  refine Bod.virt (r := []) dc_243_60 kr_243_100 ⟨Or.inr rfl, ow_135, cl_9⟩ (by rw [np_135]; rfl) (by rw [np_135]; rfl) (ob_of (mk_46 _)) (Nat.le_of_ble_eq_true rfl) (c3  ) ?_
  show Bod _ _ _ _ [_] _ _ _
  refine Bod.lst dc_243_63 (by rw [ml_243]; exact Nat.le_of_ble_eq_true rfl) ?_
  refine Bod.go dc_243_65 rfl ?_
  refine Bod.go dc_243_66 rfl ?_
  refine Bod.go dc_243_68 rfl ?_
  refine Bod.ifF dc_243_69 rfl w5 ?_
  refine Bod.go dc_243_72 rfl ?_
  refine Bod.go dc_243_74 rfl ?_
  refine Bod.go dc_243_75 rfl ?_
  refine Bod.go dc_243_76 rfl ?_
  refine Bod.lst dc_243_80 (by rw [ml_243]; exact Nat.le_of_ble_eq_true rfl) ?_
  refine Bod.go dc_243_82 rfl ?_
  refine Bod.go dc_243_84 rfl ?_
  refine Bod.go dc_243_85 rfl ?_
  refine Bod.ifT dc_243_86 rfl w6 ?_
  refine Bod.bip 8 (by decide) dc_243_98 ?_
  exact Bod.retI dc_243_100 rt_243
theorem mRn1__6 {d : Nat} {S Sf : cS} {v : Option Value} {S1 : cS} {u : Int64} {S2 : cS} {rb : Int32} {S3 : cS} {u1 : Int64} {S4 : cS} {a : Nat} (c1 : Ans (d + 8) 132 [.ref 46, .int (nI 0)] S (some (.long u)) S1) (c2 : Ans (d + 8) 134 [.long u] S1 (some (.int rb)) S2) (w3 : rb = nI 2) (c3 : Ans (d + 8) 135 [.ref 46, .int (nI 0)] S2 (some (.long u1)) S3) (w5 : sm_c1 .ge (lg_cmp 0 u1) true false = false) (w6 : sm_c1 .lt (lg_cmp (u1 - 0) 0) true false = false) (w7 : sm_c1 .le (lg_cmp (u1 - 0) ((300))) true false = true) (ma : a < 2 ^ 20) (c4 : Ans (d + 8) 178 [.ref 2, .int (nI 1)] S3 (some (.int (nI a))) S4) (b1 : a ≠ 0) (hB : ∀ lv1 : sm_L, sm_get lv1 0 = some (.ref 49) → sm_get lv1 1 = some (.int (nI 1)) → sm_get lv1 2 = some (.long 0) → sm_get lv1 6 = some (.long (u1 - 0)) → sm_get lv1 8 = some (.int (nI a)) → sm_get lv1 9 = some (.int (nI 0)) → Bod (d + 8) 243 122 lv1 [] (S4) v Sf) : Bod (d + 8) 243 0 [(0, .ref 49), (1, .int (nI 1))] [] S v Sf := by
  refine Bod.go dc_243_0 rfl ?_
  refine Bod.get dc_243_1 fr_243_15 (mk_49 _) rfl ?_
  refine Bod.ic 0 (by decide) dc_243_4 ?_
  refine Bod.virt (r := []) dc_243_5 kr_243_80 ⟨Or.inr rfl, ow_132, cl_9⟩ (by rw [np_132]; rfl) (by rw [np_132]; rfl) (ob_of (mk_46 _)) (Nat.le_of_ble_eq_true rfl) (c1  ) ?_
  show Bod _ _ _ _ [_] _ _ _
  refine Bod.stat (r := []) dc_243_8 kr_243_84 (Or.inr rfl) (by rw [np_134]; rfl) (by rw [np_134]; rfl) (by rw [np_134]; exact Nat.le_of_ble_eq_true rfl) (Nat.le_of_ble_eq_true rfl) (c2  ) ?_
  show Bod _ _ _ _ [_] _ _ _
  refine Bod.ic 2 (by decide) dc_243_11 ?_
  refine Bod.icF dc_243_12 rfl (c2_ne_F w3) ?_
  refine Bod.go dc_243_15 rfl ?_
  refine Bod.ic 2 (by decide) dc_243_16 ?_
  refine Bod.icT dc_243_17 rfl (k2_ne_T (k_ne 1 2 rfl rfl (by omega) (by omega) (by omega))) ?_
  refine Bod.go dc_243_37 rfl ?_
  refine Bod.ic 2 (by decide) dc_243_38 ?_
  refine Bod.icT dc_243_39 rfl (k2_ne_T (k_ne 1 2 rfl rfl (by omega) (by omega) (by omega))) ?_
  refine Bod.go dc_243_53 rfl ?_
  refine Bod.lstn dc_243_54 (by rw [ml_243]; exact Nat.le_of_ble_eq_true rfl) ?_
  refine Bod.go dc_243_55 rfl ?_
  refine Bod.get dc_243_56 fr_243_15 (mk_49 _) rfl ?_
  refine Bod.ic 0 (by decide) dc_243_59 ?_
  refine Bod.virt (r := []) dc_243_60 kr_243_100 ⟨Or.inr rfl, ow_135, cl_9⟩ (by rw [np_135]; rfl) (by rw [np_135]; rfl) (ob_of (mk_46 _)) (Nat.le_of_ble_eq_true rfl) (c3  ) ?_
  show Bod _ _ _ _ [_] _ _ _
  refine Bod.lst dc_243_63 (by rw [ml_243]; exact Nat.le_of_ble_eq_true rfl) ?_
  refine Bod.go dc_243_65 rfl ?_
  refine Bod.go dc_243_66 rfl ?_
  refine Bod.go dc_243_68 rfl ?_
  refine Bod.ifF dc_243_69 rfl w5 ?_
  refine Bod.go dc_243_72 rfl ?_
  refine Bod.go dc_243_74 rfl ?_
  refine Bod.go dc_243_75 rfl ?_
  refine Bod.go dc_243_76 rfl ?_
  refine Bod.lst dc_243_80 (by rw [ml_243]; exact Nat.le_of_ble_eq_true rfl) ?_
  refine Bod.go dc_243_82 rfl ?_
  refine Bod.go dc_243_84 rfl ?_
  refine Bod.go dc_243_85 rfl ?_
  refine Bod.ifF dc_243_86 rfl w6 ?_
  refine Bod.go dc_243_89 rfl ?_
  refine Bod.ldc2 dc_243_91 cj_243_103 ?_
  refine Bod.go dc_243_94 rfl ?_
  refine Bod.ifT dc_243_95 rfl w7 ?_
  refine Bod.go dc_243_101 rfl ?_
  refine Bod.get dc_243_102 fr_243_9 (mk_49 _) rfl ?_
  refine Bod.ic 1 (by decide) dc_243_105 ?_
  refine Bod.virt (r := []) dc_243_106 kr_243_105 ⟨Or.inr rfl, ow_178, cl_2⟩ (by rw [np_178]; rfl) (by rw [np_178]; rfl) (ob_of (mk_2 _)) (Nat.le_of_ble_eq_true rfl) (c4  ) ?_
  show Bod _ _ _ _ [_] _ _ _
  refine Bod.ist dc_243_109 (by rw [ml_243]; exact Nat.le_of_ble_eq_true rfl) ?_
  refine Bod.go dc_243_111 rfl ?_
  refine Bod.ifT dc_243_113 rfl (k1_ne_T (k_ne a 0 rfl rfl (by omega) (by omega) (by omega))) ?_
  refine Bod.ic 0 (by decide) dc_243_119 ?_
  refine Bod.ist dc_243_120 (by rw [ml_243]; exact Nat.le_of_ble_eq_true rfl) ?_
  exact hB _ (by first | rfl | exact (by repeat (first | exact rfl | exact sm_get_p1 | exact sm_get_p2e | refine sm_get_p1m (by decide) (by decide) ?_ | refine sm_get_p1n (by decide) rfl ?_ | refine sm_get_p2n (by decide) (by decide) rfl ?_ | refine sm_get_p2m (by decide) (by decide) (by decide) ?_))) (by first | rfl | exact (by repeat (first | exact rfl | exact sm_get_p1 | exact sm_get_p2e | refine sm_get_p1m (by decide) (by decide) ?_ | refine sm_get_p1n (by decide) rfl ?_ | refine sm_get_p2n (by decide) (by decide) rfl ?_ | refine sm_get_p2m (by decide) (by decide) (by decide) ?_))) (by first | rfl | exact (by repeat (first | exact rfl | exact sm_get_p1 | exact sm_get_p2e | refine sm_get_p1m (by decide) (by decide) ?_ | refine sm_get_p1n (by decide) rfl ?_ | refine sm_get_p2n (by decide) (by decide) rfl ?_ | refine sm_get_p2m (by decide) (by decide) (by decide) ?_))) (by first | rfl | exact (by repeat (first | exact rfl | exact sm_get_p1 | exact sm_get_p2e | refine sm_get_p1m (by decide) (by decide) ?_ | refine sm_get_p1n (by decide) rfl ?_ | refine sm_get_p2n (by decide) (by decide) rfl ?_ | refine sm_get_p2m (by decide) (by decide) (by decide) ?_))) (by first | rfl | exact (by repeat (first | exact rfl | exact sm_get_p1 | exact sm_get_p2e | refine sm_get_p1m (by decide) (by decide) ?_ | refine sm_get_p1n (by decide) rfl ?_ | refine sm_get_p2n (by decide) (by decide) rfl ?_ | refine sm_get_p2m (by decide) (by decide) (by decide) ?_))) (by first | rfl | exact (by repeat (first | exact rfl | exact sm_get_p1 | exact sm_get_p2e | refine sm_get_p1m (by decide) (by decide) ?_ | refine sm_get_p1n (by decide) rfl ?_ | refine sm_get_p2n (by decide) (by decide) rfl ?_ | refine sm_get_p2m (by decide) (by decide) (by decide) ?_)))
theorem mRn1__7 {d : Nat} {S : cS} {S1 : cS} {u : Int64} {S2 : cS} {rb : Int32} {S3 : cS} {u1 : Int64} {S4 : cS} {a : Nat} (c1 : Ans (d + 8) 132 [.ref 46, .int (nI 0)] S (some (.long u)) S1) (c2 : Ans (d + 8) 134 [.long u] S1 (some (.int rb)) S2) (w3 : rb = nI 2) (c3 : Ans (d + 8) 135 [.ref 46, .int (nI 0)] S2 (some (.long u1)) S3) (w5 : sm_c1 .ge (lg_cmp 0 u1) true false = false) (w6 : sm_c1 .lt (lg_cmp (u1 - 0) 0) true false = false) (w7 : sm_c1 .le (lg_cmp (u1 - 0) ((300))) true false = true) (ma : a < 2 ^ 20) (c4 : Ans (d + 8) 178 [.ref 2, .int (nI 1)] S3 (some (.int (nI a))) S4) (b1 : a = 0) : Bod (d + 8) 243 0 [(0, .ref 49), (1, .int (nI 1))] [] S (some (.int (nI 8))) (S4) := by
  refine Bod.go dc_243_0 rfl ?_
  refine Bod.get dc_243_1 fr_243_15 (mk_49 _) rfl ?_
  refine Bod.ic 0 (by decide) dc_243_4 ?_
  refine Bod.virt (r := []) dc_243_5 kr_243_80 ⟨Or.inr rfl, ow_132, cl_9⟩ (by rw [np_132]; rfl) (by rw [np_132]; rfl) (ob_of (mk_46 _)) (Nat.le_of_ble_eq_true rfl) (c1  ) ?_
  show Bod _ _ _ _ [_] _ _ _
  refine Bod.stat (r := []) dc_243_8 kr_243_84 (Or.inr rfl) (by rw [np_134]; rfl) (by rw [np_134]; rfl) (by rw [np_134]; exact Nat.le_of_ble_eq_true rfl) (Nat.le_of_ble_eq_true rfl) (c2  ) ?_
  show Bod _ _ _ _ [_] _ _ _
  refine Bod.ic 2 (by decide) dc_243_11 ?_
  refine Bod.icF dc_243_12 rfl (c2_ne_F w3) ?_
  refine Bod.go dc_243_15 rfl ?_
  refine Bod.ic 2 (by decide) dc_243_16 ?_
  refine Bod.icT dc_243_17 rfl (k2_ne_T (k_ne 1 2 rfl rfl (by omega) (by omega) (by omega))) ?_
  refine Bod.go dc_243_37 rfl ?_
  refine Bod.ic 2 (by decide) dc_243_38 ?_
  refine Bod.icT dc_243_39 rfl (k2_ne_T (k_ne 1 2 rfl rfl (by omega) (by omega) (by omega))) ?_
  refine Bod.go dc_243_53 rfl ?_
  refine Bod.lstn dc_243_54 (by rw [ml_243]; exact Nat.le_of_ble_eq_true rfl) ?_
  refine Bod.go dc_243_55 rfl ?_
  refine Bod.get dc_243_56 fr_243_15 (mk_49 _) rfl ?_
  refine Bod.ic 0 (by decide) dc_243_59 ?_
  refine Bod.virt (r := []) dc_243_60 kr_243_100 ⟨Or.inr rfl, ow_135, cl_9⟩ (by rw [np_135]; rfl) (by rw [np_135]; rfl) (ob_of (mk_46 _)) (Nat.le_of_ble_eq_true rfl) (c3  ) ?_
  show Bod _ _ _ _ [_] _ _ _
  refine Bod.lst dc_243_63 (by rw [ml_243]; exact Nat.le_of_ble_eq_true rfl) ?_
  refine Bod.go dc_243_65 rfl ?_
  refine Bod.go dc_243_66 rfl ?_
  refine Bod.go dc_243_68 rfl ?_
  refine Bod.ifF dc_243_69 rfl w5 ?_
  refine Bod.go dc_243_72 rfl ?_
  refine Bod.go dc_243_74 rfl ?_
  refine Bod.go dc_243_75 rfl ?_
  refine Bod.go dc_243_76 rfl ?_
  refine Bod.lst dc_243_80 (by rw [ml_243]; exact Nat.le_of_ble_eq_true rfl) ?_
  refine Bod.go dc_243_82 rfl ?_
  refine Bod.go dc_243_84 rfl ?_
  refine Bod.go dc_243_85 rfl ?_
  refine Bod.ifF dc_243_86 rfl w6 ?_
  refine Bod.go dc_243_89 rfl ?_
  refine Bod.ldc2 dc_243_91 cj_243_103 ?_
  refine Bod.go dc_243_94 rfl ?_
  refine Bod.ifT dc_243_95 rfl w7 ?_
  refine Bod.go dc_243_101 rfl ?_
  refine Bod.get dc_243_102 fr_243_9 (mk_49 _) rfl ?_
  refine Bod.ic 1 (by decide) dc_243_105 ?_
  refine Bod.virt (r := []) dc_243_106 kr_243_105 ⟨Or.inr rfl, ow_178, cl_2⟩ (by rw [np_178]; rfl) (by rw [np_178]; rfl) (ob_of (mk_2 _)) (Nat.le_of_ble_eq_true rfl) (c4  ) ?_
  show Bod _ _ _ _ [_] _ _ _
  refine Bod.ist dc_243_109 (by rw [ml_243]; exact Nat.le_of_ble_eq_true rfl) ?_
  refine Bod.go dc_243_111 rfl ?_
  refine Bod.ifF dc_243_113 rfl (k1_ne_F (k_eq a 0 rfl rfl (by omega))) ?_
  refine Bod.bip 8 (by decide) dc_243_116 ?_
  exact Bod.retI dc_243_118 rt_243
theorem mRn1__8 {d : Nat} {S : cS} {S1 : cS} {u : Int64} {S2 : cS} {rb : Int32} {S3 : cS} {u1 : Int64} (c1 : Ans (d + 8) 132 [.ref 46, .int (nI 0)] S (some (.long u)) S1) (c2 : Ans (d + 8) 134 [.long u] S1 (some (.int rb)) S2) (w3 : rb = nI 2) (c3 : Ans (d + 8) 135 [.ref 46, .int (nI 0)] S2 (some (.long u1)) S3) (w5 : sm_c1 .ge (lg_cmp 0 u1) true false = false) (w6 : sm_c1 .lt (lg_cmp (u1 - 0) 0) true false = false) (w7 : sm_c1 .le (lg_cmp (u1 - 0) ((300))) true false = false) : Bod (d + 8) 243 0 [(0, .ref 49), (1, .int (nI 1))] [] S (some (.int (nI 8))) (S3) := by
  refine Bod.go dc_243_0 rfl ?_
  refine Bod.get dc_243_1 fr_243_15 (mk_49 _) rfl ?_
  refine Bod.ic 0 (by decide) dc_243_4 ?_
  refine Bod.virt (r := []) dc_243_5 kr_243_80 ⟨Or.inr rfl, ow_132, cl_9⟩ (by rw [np_132]; rfl) (by rw [np_132]; rfl) (ob_of (mk_46 _)) (Nat.le_of_ble_eq_true rfl) (c1  ) ?_
  show Bod _ _ _ _ [_] _ _ _
  refine Bod.stat (r := []) dc_243_8 kr_243_84 (Or.inr rfl) (by rw [np_134]; rfl) (by rw [np_134]; rfl) (by rw [np_134]; exact Nat.le_of_ble_eq_true rfl) (Nat.le_of_ble_eq_true rfl) (c2  ) ?_
  show Bod _ _ _ _ [_] _ _ _
  refine Bod.ic 2 (by decide) dc_243_11 ?_
  refine Bod.icF dc_243_12 rfl (c2_ne_F w3) ?_
  refine Bod.go dc_243_15 rfl ?_
  refine Bod.ic 2 (by decide) dc_243_16 ?_
  refine Bod.icT dc_243_17 rfl (k2_ne_T (k_ne 1 2 rfl rfl (by omega) (by omega) (by omega))) ?_
  refine Bod.go dc_243_37 rfl ?_
  refine Bod.ic 2 (by decide) dc_243_38 ?_
  refine Bod.icT dc_243_39 rfl (k2_ne_T (k_ne 1 2 rfl rfl (by omega) (by omega) (by omega))) ?_
  refine Bod.go dc_243_53 rfl ?_
  refine Bod.lstn dc_243_54 (by rw [ml_243]; exact Nat.le_of_ble_eq_true rfl) ?_
  refine Bod.go dc_243_55 rfl ?_
  refine Bod.get dc_243_56 fr_243_15 (mk_49 _) rfl ?_
  refine Bod.ic 0 (by decide) dc_243_59 ?_
  refine Bod.virt (r := []) dc_243_60 kr_243_100 ⟨Or.inr rfl, ow_135, cl_9⟩ (by rw [np_135]; rfl) (by rw [np_135]; rfl) (ob_of (mk_46 _)) (Nat.le_of_ble_eq_true rfl) (c3  ) ?_
  show Bod _ _ _ _ [_] _ _ _
  refine Bod.lst dc_243_63 (by rw [ml_243]; exact Nat.le_of_ble_eq_true rfl) ?_
  refine Bod.go dc_243_65 rfl ?_
  refine Bod.go dc_243_66 rfl ?_
  refine Bod.go dc_243_68 rfl ?_
  refine Bod.ifF dc_243_69 rfl w5 ?_
  refine Bod.go dc_243_72 rfl ?_
  refine Bod.go dc_243_74 rfl ?_
  refine Bod.go dc_243_75 rfl ?_
  refine Bod.go dc_243_76 rfl ?_
  refine Bod.lst dc_243_80 (by rw [ml_243]; exact Nat.le_of_ble_eq_true rfl) ?_
  refine Bod.go dc_243_82 rfl ?_
  refine Bod.go dc_243_84 rfl ?_
  refine Bod.go dc_243_85 rfl ?_
  refine Bod.ifF dc_243_86 rfl w6 ?_
  refine Bod.go dc_243_89 rfl ?_
  refine Bod.ldc2 dc_243_91 cj_243_103 ?_
  refine Bod.go dc_243_94 rfl ?_
  refine Bod.ifF dc_243_95 rfl w7 ?_
  refine Bod.bip 8 (by decide) dc_243_98 ?_
  exact Bod.retI dc_243_100 rt_243
theorem mRn1__9 {d : Nat} {S : cS} {S1 : cS} {u : Int64} {S2 : cS} {rb : Int32} (c1 : Ans (d + 8) 132 [.ref 46, .int (nI 0)] S (some (.long u)) S1) (c2 : Ans (d + 8) 134 [.long u] S1 (some (.int rb)) S2) (w3 : rb ≠ nI 2) : Bod (d + 8) 243 0 [(0, .ref 49), (1, .int (nI 1))] [] S (some (.int (nI 2))) (S2) := by
  refine Bod.go dc_243_0 rfl ?_
  refine Bod.get dc_243_1 fr_243_15 (mk_49 _) rfl ?_
  refine Bod.ic 0 (by decide) dc_243_4 ?_
  refine Bod.virt (r := []) dc_243_5 kr_243_80 ⟨Or.inr rfl, ow_132, cl_9⟩ (by rw [np_132]; rfl) (by rw [np_132]; rfl) (ob_of (mk_46 _)) (Nat.le_of_ble_eq_true rfl) (c1  ) ?_
  show Bod _ _ _ _ [_] _ _ _
  refine Bod.stat (r := []) dc_243_8 kr_243_84 (Or.inr rfl) (by rw [np_134]; rfl) (by rw [np_134]; rfl) (by rw [np_134]; exact Nat.le_of_ble_eq_true rfl) (Nat.le_of_ble_eq_true rfl) (c2  ) ?_
  show Bod _ _ _ _ [_] _ _ _
  refine Bod.ic 2 (by decide) dc_243_11 ?_
  refine Bod.icT dc_243_12 rfl (c2_ne_T w3) ?_
  refine Bod.ic 2 (by decide) dc_243_35 ?_
  exact Bod.retI dc_243_36 rt_243
theorem mRn2__1 {d : Nat} {S : cS} {S1 : cS} {u : Int64} {S2 : cS} {rb : Int32} {S3 : cS} {u1 : Int64} {S4 : cS} {rb1 : Int32} {S5 : cS} {u2 : Int64} {S6 : cS} {u3 : Int64} (c1 : Ans (d + 8) 132 [.ref 46, .int (nI 0)] S (some (.long u)) S1) (c2 : Ans (d + 8) 134 [.long u] S1 (some (.int rb)) S2) (w3 : rb = nI 2) (c3 : Ans (d + 8) 132 [.ref 46, .int (nI 1)] S2 (some (.long u1)) S3) (c4 : Ans (d + 8) 134 [.long u1] S3 (some (.int rb1)) S4) (w6 : rb1 = nI 2) (c5 : Ans (d + 8) 135 [.ref 46, .int (nI 1)] S4 (some (.long u2)) S5) (c6 : Ans (d + 8) 135 [.ref 46, .int (nI 0)] S5 (some (.long u3)) S6) (w9 : sm_c1 .ge (lg_cmp u2 u3) true false = true) (w10 : sm_c1 .lt (lg_cmp 0 0) true false = true) : Bod (d + 8) 243 0 [(0, .ref 49), (1, .int (nI 2))] [] S (some (.int (nI 8))) (S6) := by
  refine Bod.go dc_243_0 rfl ?_
  refine Bod.get dc_243_1 fr_243_15 (mk_49 _) rfl ?_
  refine Bod.ic 0 (by decide) dc_243_4 ?_
  refine Bod.virt (r := []) dc_243_5 kr_243_80 ⟨Or.inr rfl, ow_132, cl_9⟩ (by rw [np_132]; rfl) (by rw [np_132]; rfl) (ob_of (mk_46 _)) (Nat.le_of_ble_eq_true rfl) (c1  ) ?_
  show Bod _ _ _ _ [_] _ _ _
  refine Bod.stat (r := []) dc_243_8 kr_243_84 (Or.inr rfl) (by rw [np_134]; rfl) (by rw [np_134]; rfl) (by rw [np_134]; exact Nat.le_of_ble_eq_true rfl) (Nat.le_of_ble_eq_true rfl) (c2  ) ?_
  show Bod _ _ _ _ [_] _ _ _
  refine Bod.ic 2 (by decide) dc_243_11 ?_
  refine Bod.icF dc_243_12 rfl (c2_ne_F w3) ?_
  refine Bod.go dc_243_15 rfl ?_
  refine Bod.ic 2 (by decide) dc_243_16 ?_
  refine Bod.icF dc_243_17 rfl (k2_ne_F (k_eq 2 2 rfl rfl (by omega))) ?_
  refine Bod.go dc_243_20 rfl ?_
  refine Bod.get dc_243_21 fr_243_15 (mk_49 _) rfl ?_
  refine Bod.ic 1 (by decide) dc_243_24 ?_
  refine Bod.virt (r := []) dc_243_25 kr_243_80 ⟨Or.inr rfl, ow_132, cl_9⟩ (by rw [np_132]; rfl) (by rw [np_132]; rfl) (ob_of (mk_46 _)) (Nat.le_of_ble_eq_true rfl) (c3  ) ?_
  show Bod _ _ _ _ [_] _ _ _
  refine Bod.stat (r := []) dc_243_28 kr_243_84 (Or.inr rfl) (by rw [np_134]; rfl) (by rw [np_134]; rfl) (by rw [np_134]; exact Nat.le_of_ble_eq_true rfl) (Nat.le_of_ble_eq_true rfl) (c4  ) ?_
  show Bod _ _ _ _ [_] _ _ _
  refine Bod.ic 2 (by decide) dc_243_31 ?_
  refine Bod.icT dc_243_32 rfl (c2_eq_T w6) ?_
  refine Bod.go dc_243_37 rfl ?_
  refine Bod.ic 2 (by decide) dc_243_38 ?_
  refine Bod.icF dc_243_39 rfl (k2_ne_F (k_eq 2 2 rfl rfl (by omega))) ?_
  refine Bod.go dc_243_42 rfl ?_
  refine Bod.get dc_243_43 fr_243_15 (mk_49 _) rfl ?_
  refine Bod.ic 1 (by decide) dc_243_46 ?_
  refine Bod.virt (r := []) dc_243_47 kr_243_100 ⟨Or.inr rfl, ow_135, cl_9⟩ (by rw [np_135]; rfl) (by rw [np_135]; rfl) (ob_of (mk_46 _)) (Nat.le_of_ble_eq_true rfl) (c5  ) ?_
  show Bod _ _ _ _ [_] _ _ _
  refine Bod.go dc_243_50 rfl ?_
  refine Bod.lstn dc_243_54 (by rw [ml_243]; exact Nat.le_of_ble_eq_true rfl) ?_
  refine Bod.go dc_243_55 rfl ?_
  refine Bod.get dc_243_56 fr_243_15 (mk_49 _) rfl ?_
  refine Bod.ic 0 (by decide) dc_243_59 ?_
  refine Bod.virt (r := []) dc_243_60 kr_243_100 ⟨Or.inr rfl, ow_135, cl_9⟩ (by rw [np_135]; rfl) (by rw [np_135]; rfl) (ob_of (mk_46 _)) (Nat.le_of_ble_eq_true rfl) (c6  ) ?_
  show Bod _ _ _ _ [_] _ _ _
  refine Bod.lst dc_243_63 (by rw [ml_243]; exact Nat.le_of_ble_eq_true rfl) ?_
  refine Bod.go dc_243_65 rfl ?_
  refine Bod.go dc_243_66 rfl ?_
  refine Bod.go dc_243_68 rfl ?_
  refine Bod.ifT dc_243_69 rfl w9 ?_
  refine Bod.go dc_243_79 rfl ?_
  refine Bod.lst dc_243_80 (by rw [ml_243]; exact Nat.le_of_ble_eq_true rfl) ?_
  refine Bod.go dc_243_82 rfl ?_
  refine Bod.go dc_243_84 rfl ?_
  refine Bod.go dc_243_85 rfl ?_
  refine Bod.ifT dc_243_86 rfl w10 ?_
  refine Bod.bip 8 (by decide) dc_243_98 ?_
  exact Bod.retI dc_243_100 rt_243
theorem mRn2__2 {d : Nat} {S Sf : cS} {v : Option Value} {S1 : cS} {u : Int64} {S2 : cS} {rb : Int32} {S3 : cS} {u1 : Int64} {S4 : cS} {rb1 : Int32} {S5 : cS} {u2 : Int64} {S6 : cS} {u3 : Int64} {S7 : cS} {a : Nat} (c1 : Ans (d + 8) 132 [.ref 46, .int (nI 0)] S (some (.long u)) S1) (c2 : Ans (d + 8) 134 [.long u] S1 (some (.int rb)) S2) (w3 : rb = nI 2) (c3 : Ans (d + 8) 132 [.ref 46, .int (nI 1)] S2 (some (.long u1)) S3) (c4 : Ans (d + 8) 134 [.long u1] S3 (some (.int rb1)) S4) (w6 : rb1 = nI 2) (c5 : Ans (d + 8) 135 [.ref 46, .int (nI 1)] S4 (some (.long u2)) S5) (c6 : Ans (d + 8) 135 [.ref 46, .int (nI 0)] S5 (some (.long u3)) S6) (w9 : sm_c1 .ge (lg_cmp u2 u3) true false = true) (w10 : sm_c1 .lt (lg_cmp 0 0) true false = false) (w11 : sm_c1 .le (lg_cmp 0 ((300))) true false = true) (ma : a < 2 ^ 20) (c7 : Ans (d + 8) 178 [.ref 2, .int (nI 1)] S6 (some (.int (nI a))) S7) (b1 : a ≠ 0) (hB : ∀ lv1 : sm_L, sm_get lv1 0 = some (.ref 49) → sm_get lv1 1 = some (.int (nI 2)) → sm_get lv1 2 = some (.long u2) → sm_get lv1 6 = some (.long 0) → sm_get lv1 8 = some (.int (nI a)) → sm_get lv1 9 = some (.int (nI 0)) → Bod (d + 8) 243 122 lv1 [] (S7) v Sf) : Bod (d + 8) 243 0 [(0, .ref 49), (1, .int (nI 2))] [] S v Sf := by
  refine Bod.go dc_243_0 rfl ?_
  refine Bod.get dc_243_1 fr_243_15 (mk_49 _) rfl ?_
  refine Bod.ic 0 (by decide) dc_243_4 ?_
  refine Bod.virt (r := []) dc_243_5 kr_243_80 ⟨Or.inr rfl, ow_132, cl_9⟩ (by rw [np_132]; rfl) (by rw [np_132]; rfl) (ob_of (mk_46 _)) (Nat.le_of_ble_eq_true rfl) (c1  ) ?_
  show Bod _ _ _ _ [_] _ _ _
  refine Bod.stat (r := []) dc_243_8 kr_243_84 (Or.inr rfl) (by rw [np_134]; rfl) (by rw [np_134]; rfl) (by rw [np_134]; exact Nat.le_of_ble_eq_true rfl) (Nat.le_of_ble_eq_true rfl) (c2  ) ?_
  show Bod _ _ _ _ [_] _ _ _
  refine Bod.ic 2 (by decide) dc_243_11 ?_
  refine Bod.icF dc_243_12 rfl (c2_ne_F w3) ?_
  refine Bod.go dc_243_15 rfl ?_
  refine Bod.ic 2 (by decide) dc_243_16 ?_
  refine Bod.icF dc_243_17 rfl (k2_ne_F (k_eq 2 2 rfl rfl (by omega))) ?_
  refine Bod.go dc_243_20 rfl ?_
  refine Bod.get dc_243_21 fr_243_15 (mk_49 _) rfl ?_
  refine Bod.ic 1 (by decide) dc_243_24 ?_
  refine Bod.virt (r := []) dc_243_25 kr_243_80 ⟨Or.inr rfl, ow_132, cl_9⟩ (by rw [np_132]; rfl) (by rw [np_132]; rfl) (ob_of (mk_46 _)) (Nat.le_of_ble_eq_true rfl) (c3  ) ?_
  show Bod _ _ _ _ [_] _ _ _
  refine Bod.stat (r := []) dc_243_28 kr_243_84 (Or.inr rfl) (by rw [np_134]; rfl) (by rw [np_134]; rfl) (by rw [np_134]; exact Nat.le_of_ble_eq_true rfl) (Nat.le_of_ble_eq_true rfl) (c4  ) ?_
  show Bod _ _ _ _ [_] _ _ _
  refine Bod.ic 2 (by decide) dc_243_31 ?_
  refine Bod.icT dc_243_32 rfl (c2_eq_T w6) ?_
  refine Bod.go dc_243_37 rfl ?_
  refine Bod.ic 2 (by decide) dc_243_38 ?_
  refine Bod.icF dc_243_39 rfl (k2_ne_F (k_eq 2 2 rfl rfl (by omega))) ?_
  refine Bod.go dc_243_42 rfl ?_
  refine Bod.get dc_243_43 fr_243_15 (mk_49 _) rfl ?_
  refine Bod.ic 1 (by decide) dc_243_46 ?_
  refine Bod.virt (r := []) dc_243_47 kr_243_100 ⟨Or.inr rfl, ow_135, cl_9⟩ (by rw [np_135]; rfl) (by rw [np_135]; rfl) (ob_of (mk_46 _)) (Nat.le_of_ble_eq_true rfl) (c5  ) ?_
  show Bod _ _ _ _ [_] _ _ _
  refine Bod.go dc_243_50 rfl ?_
  refine Bod.lstn dc_243_54 (by rw [ml_243]; exact Nat.le_of_ble_eq_true rfl) ?_
  refine Bod.go dc_243_55 rfl ?_
  refine Bod.get dc_243_56 fr_243_15 (mk_49 _) rfl ?_
  refine Bod.ic 0 (by decide) dc_243_59 ?_
  refine Bod.virt (r := []) dc_243_60 kr_243_100 ⟨Or.inr rfl, ow_135, cl_9⟩ (by rw [np_135]; rfl) (by rw [np_135]; rfl) (ob_of (mk_46 _)) (Nat.le_of_ble_eq_true rfl) (c6  ) ?_
  show Bod _ _ _ _ [_] _ _ _
  refine Bod.lst dc_243_63 (by rw [ml_243]; exact Nat.le_of_ble_eq_true rfl) ?_
  refine Bod.go dc_243_65 rfl ?_
  refine Bod.go dc_243_66 rfl ?_
  refine Bod.go dc_243_68 rfl ?_
  refine Bod.ifT dc_243_69 rfl w9 ?_
  refine Bod.go dc_243_79 rfl ?_
  refine Bod.lst dc_243_80 (by rw [ml_243]; exact Nat.le_of_ble_eq_true rfl) ?_
  refine Bod.go dc_243_82 rfl ?_
  refine Bod.go dc_243_84 rfl ?_
  refine Bod.go dc_243_85 rfl ?_
  refine Bod.ifF dc_243_86 rfl w10 ?_
  refine Bod.go dc_243_89 rfl ?_
  refine Bod.ldc2 dc_243_91 cj_243_103 ?_
  refine Bod.go dc_243_94 rfl ?_
  refine Bod.ifT dc_243_95 rfl w11 ?_
  refine Bod.go dc_243_101 rfl ?_
  refine Bod.get dc_243_102 fr_243_9 (mk_49 _) rfl ?_
  refine Bod.ic 1 (by decide) dc_243_105 ?_
  refine Bod.virt (r := []) dc_243_106 kr_243_105 ⟨Or.inr rfl, ow_178, cl_2⟩ (by rw [np_178]; rfl) (by rw [np_178]; rfl) (ob_of (mk_2 _)) (Nat.le_of_ble_eq_true rfl) (c7  ) ?_
  show Bod _ _ _ _ [_] _ _ _
  refine Bod.ist dc_243_109 (by rw [ml_243]; exact Nat.le_of_ble_eq_true rfl) ?_
  refine Bod.go dc_243_111 rfl ?_
  refine Bod.ifT dc_243_113 rfl (k1_ne_T (k_ne a 0 rfl rfl (by omega) (by omega) (by omega))) ?_
  refine Bod.ic 0 (by decide) dc_243_119 ?_
  refine Bod.ist dc_243_120 (by rw [ml_243]; exact Nat.le_of_ble_eq_true rfl) ?_
  exact hB _ (by first | rfl | exact (by repeat (first | exact rfl | exact sm_get_p1 | exact sm_get_p2e | refine sm_get_p1m (by decide) (by decide) ?_ | refine sm_get_p1n (by decide) rfl ?_ | refine sm_get_p2n (by decide) (by decide) rfl ?_ | refine sm_get_p2m (by decide) (by decide) (by decide) ?_))) (by first | rfl | exact (by repeat (first | exact rfl | exact sm_get_p1 | exact sm_get_p2e | refine sm_get_p1m (by decide) (by decide) ?_ | refine sm_get_p1n (by decide) rfl ?_ | refine sm_get_p2n (by decide) (by decide) rfl ?_ | refine sm_get_p2m (by decide) (by decide) (by decide) ?_))) (by first | rfl | exact (by repeat (first | exact rfl | exact sm_get_p1 | exact sm_get_p2e | refine sm_get_p1m (by decide) (by decide) ?_ | refine sm_get_p1n (by decide) rfl ?_ | refine sm_get_p2n (by decide) (by decide) rfl ?_ | refine sm_get_p2m (by decide) (by decide) (by decide) ?_))) (by first | rfl | exact (by repeat (first | exact rfl | exact sm_get_p1 | exact sm_get_p2e | refine sm_get_p1m (by decide) (by decide) ?_ | refine sm_get_p1n (by decide) rfl ?_ | refine sm_get_p2n (by decide) (by decide) rfl ?_ | refine sm_get_p2m (by decide) (by decide) (by decide) ?_))) (by first | rfl | exact (by repeat (first | exact rfl | exact sm_get_p1 | exact sm_get_p2e | refine sm_get_p1m (by decide) (by decide) ?_ | refine sm_get_p1n (by decide) rfl ?_ | refine sm_get_p2n (by decide) (by decide) rfl ?_ | refine sm_get_p2m (by decide) (by decide) (by decide) ?_))) (by first | rfl | exact (by repeat (first | exact rfl | exact sm_get_p1 | exact sm_get_p2e | refine sm_get_p1m (by decide) (by decide) ?_ | refine sm_get_p1n (by decide) rfl ?_ | refine sm_get_p2n (by decide) (by decide) rfl ?_ | refine sm_get_p2m (by decide) (by decide) (by decide) ?_)))
theorem mRn2__3 {d : Nat} {S : cS} {S1 : cS} {u : Int64} {S2 : cS} {rb : Int32} {S3 : cS} {u1 : Int64} {S4 : cS} {rb1 : Int32} {S5 : cS} {u2 : Int64} {S6 : cS} {u3 : Int64} {S7 : cS} {a : Nat} (c1 : Ans (d + 8) 132 [.ref 46, .int (nI 0)] S (some (.long u)) S1) (c2 : Ans (d + 8) 134 [.long u] S1 (some (.int rb)) S2) (w3 : rb = nI 2) (c3 : Ans (d + 8) 132 [.ref 46, .int (nI 1)] S2 (some (.long u1)) S3) (c4 : Ans (d + 8) 134 [.long u1] S3 (some (.int rb1)) S4) (w6 : rb1 = nI 2) (c5 : Ans (d + 8) 135 [.ref 46, .int (nI 1)] S4 (some (.long u2)) S5) (c6 : Ans (d + 8) 135 [.ref 46, .int (nI 0)] S5 (some (.long u3)) S6) (w9 : sm_c1 .ge (lg_cmp u2 u3) true false = true) (w10 : sm_c1 .lt (lg_cmp 0 0) true false = false) (w11 : sm_c1 .le (lg_cmp 0 ((300))) true false = true) (ma : a < 2 ^ 20) (c7 : Ans (d + 8) 178 [.ref 2, .int (nI 1)] S6 (some (.int (nI a))) S7) (b1 : a = 0) : Bod (d + 8) 243 0 [(0, .ref 49), (1, .int (nI 2))] [] S (some (.int (nI 8))) (S7) := by
  refine Bod.go dc_243_0 rfl ?_
  refine Bod.get dc_243_1 fr_243_15 (mk_49 _) rfl ?_
  refine Bod.ic 0 (by decide) dc_243_4 ?_
  refine Bod.virt (r := []) dc_243_5 kr_243_80 ⟨Or.inr rfl, ow_132, cl_9⟩ (by rw [np_132]; rfl) (by rw [np_132]; rfl) (ob_of (mk_46 _)) (Nat.le_of_ble_eq_true rfl) (c1  ) ?_
  show Bod _ _ _ _ [_] _ _ _
  refine Bod.stat (r := []) dc_243_8 kr_243_84 (Or.inr rfl) (by rw [np_134]; rfl) (by rw [np_134]; rfl) (by rw [np_134]; exact Nat.le_of_ble_eq_true rfl) (Nat.le_of_ble_eq_true rfl) (c2  ) ?_
  show Bod _ _ _ _ [_] _ _ _
  refine Bod.ic 2 (by decide) dc_243_11 ?_
  refine Bod.icF dc_243_12 rfl (c2_ne_F w3) ?_
  refine Bod.go dc_243_15 rfl ?_
  refine Bod.ic 2 (by decide) dc_243_16 ?_
  refine Bod.icF dc_243_17 rfl (k2_ne_F (k_eq 2 2 rfl rfl (by omega))) ?_
  refine Bod.go dc_243_20 rfl ?_
  refine Bod.get dc_243_21 fr_243_15 (mk_49 _) rfl ?_
  refine Bod.ic 1 (by decide) dc_243_24 ?_
  refine Bod.virt (r := []) dc_243_25 kr_243_80 ⟨Or.inr rfl, ow_132, cl_9⟩ (by rw [np_132]; rfl) (by rw [np_132]; rfl) (ob_of (mk_46 _)) (Nat.le_of_ble_eq_true rfl) (c3  ) ?_
  show Bod _ _ _ _ [_] _ _ _
  refine Bod.stat (r := []) dc_243_28 kr_243_84 (Or.inr rfl) (by rw [np_134]; rfl) (by rw [np_134]; rfl) (by rw [np_134]; exact Nat.le_of_ble_eq_true rfl) (Nat.le_of_ble_eq_true rfl) (c4  ) ?_
  show Bod _ _ _ _ [_] _ _ _
  refine Bod.ic 2 (by decide) dc_243_31 ?_
  refine Bod.icT dc_243_32 rfl (c2_eq_T w6) ?_
  refine Bod.go dc_243_37 rfl ?_
  refine Bod.ic 2 (by decide) dc_243_38 ?_
  refine Bod.icF dc_243_39 rfl (k2_ne_F (k_eq 2 2 rfl rfl (by omega))) ?_
  refine Bod.go dc_243_42 rfl ?_
  refine Bod.get dc_243_43 fr_243_15 (mk_49 _) rfl ?_
  refine Bod.ic 1 (by decide) dc_243_46 ?_
  refine Bod.virt (r := []) dc_243_47 kr_243_100 ⟨Or.inr rfl, ow_135, cl_9⟩ (by rw [np_135]; rfl) (by rw [np_135]; rfl) (ob_of (mk_46 _)) (Nat.le_of_ble_eq_true rfl) (c5  ) ?_
  show Bod _ _ _ _ [_] _ _ _
  refine Bod.go dc_243_50 rfl ?_
  refine Bod.lstn dc_243_54 (by rw [ml_243]; exact Nat.le_of_ble_eq_true rfl) ?_
  refine Bod.go dc_243_55 rfl ?_
  refine Bod.get dc_243_56 fr_243_15 (mk_49 _) rfl ?_
  refine Bod.ic 0 (by decide) dc_243_59 ?_
  refine Bod.virt (r := []) dc_243_60 kr_243_100 ⟨Or.inr rfl, ow_135, cl_9⟩ (by rw [np_135]; rfl) (by rw [np_135]; rfl) (ob_of (mk_46 _)) (Nat.le_of_ble_eq_true rfl) (c6  ) ?_
  show Bod _ _ _ _ [_] _ _ _
  refine Bod.lst dc_243_63 (by rw [ml_243]; exact Nat.le_of_ble_eq_true rfl) ?_
  refine Bod.go dc_243_65 rfl ?_
  refine Bod.go dc_243_66 rfl ?_
  refine Bod.go dc_243_68 rfl ?_
  refine Bod.ifT dc_243_69 rfl w9 ?_
  refine Bod.go dc_243_79 rfl ?_
  refine Bod.lst dc_243_80 (by rw [ml_243]; exact Nat.le_of_ble_eq_true rfl) ?_
  refine Bod.go dc_243_82 rfl ?_
  refine Bod.go dc_243_84 rfl ?_
  refine Bod.go dc_243_85 rfl ?_
  refine Bod.ifF dc_243_86 rfl w10 ?_
  refine Bod.go dc_243_89 rfl ?_
  refine Bod.ldc2 dc_243_91 cj_243_103 ?_
  refine Bod.go dc_243_94 rfl ?_
  refine Bod.ifT dc_243_95 rfl w11 ?_
  refine Bod.go dc_243_101 rfl ?_
  refine Bod.get dc_243_102 fr_243_9 (mk_49 _) rfl ?_
  refine Bod.ic 1 (by decide) dc_243_105 ?_
  refine Bod.virt (r := []) dc_243_106 kr_243_105 ⟨Or.inr rfl, ow_178, cl_2⟩ (by rw [np_178]; rfl) (by rw [np_178]; rfl) (ob_of (mk_2 _)) (Nat.le_of_ble_eq_true rfl) (c7  ) ?_
  show Bod _ _ _ _ [_] _ _ _
  refine Bod.ist dc_243_109 (by rw [ml_243]; exact Nat.le_of_ble_eq_true rfl) ?_
  refine Bod.go dc_243_111 rfl ?_
  refine Bod.ifF dc_243_113 rfl (k1_ne_F (k_eq a 0 rfl rfl (by omega))) ?_
  refine Bod.bip 8 (by decide) dc_243_116 ?_
  exact Bod.retI dc_243_118 rt_243
theorem mRn2__4 {d : Nat} {S : cS} {S1 : cS} {u : Int64} {S2 : cS} {rb : Int32} {S3 : cS} {u1 : Int64} {S4 : cS} {rb1 : Int32} {S5 : cS} {u2 : Int64} {S6 : cS} {u3 : Int64} (c1 : Ans (d + 8) 132 [.ref 46, .int (nI 0)] S (some (.long u)) S1) (c2 : Ans (d + 8) 134 [.long u] S1 (some (.int rb)) S2) (w3 : rb = nI 2) (c3 : Ans (d + 8) 132 [.ref 46, .int (nI 1)] S2 (some (.long u1)) S3) (c4 : Ans (d + 8) 134 [.long u1] S3 (some (.int rb1)) S4) (w6 : rb1 = nI 2) (c5 : Ans (d + 8) 135 [.ref 46, .int (nI 1)] S4 (some (.long u2)) S5) (c6 : Ans (d + 8) 135 [.ref 46, .int (nI 0)] S5 (some (.long u3)) S6) (w9 : sm_c1 .ge (lg_cmp u2 u3) true false = true) (w10 : sm_c1 .lt (lg_cmp 0 0) true false = false) (w11 : sm_c1 .le (lg_cmp 0 ((300))) true false = false) : Bod (d + 8) 243 0 [(0, .ref 49), (1, .int (nI 2))] [] S (some (.int (nI 8))) (S6) := by
  refine Bod.go dc_243_0 rfl ?_
  refine Bod.get dc_243_1 fr_243_15 (mk_49 _) rfl ?_
  refine Bod.ic 0 (by decide) dc_243_4 ?_
  refine Bod.virt (r := []) dc_243_5 kr_243_80 ⟨Or.inr rfl, ow_132, cl_9⟩ (by rw [np_132]; rfl) (by rw [np_132]; rfl) (ob_of (mk_46 _)) (Nat.le_of_ble_eq_true rfl) (c1  ) ?_
  show Bod _ _ _ _ [_] _ _ _
  refine Bod.stat (r := []) dc_243_8 kr_243_84 (Or.inr rfl) (by rw [np_134]; rfl) (by rw [np_134]; rfl) (by rw [np_134]; exact Nat.le_of_ble_eq_true rfl) (Nat.le_of_ble_eq_true rfl) (c2  ) ?_
  show Bod _ _ _ _ [_] _ _ _
  refine Bod.ic 2 (by decide) dc_243_11 ?_
  refine Bod.icF dc_243_12 rfl (c2_ne_F w3) ?_
  refine Bod.go dc_243_15 rfl ?_
  refine Bod.ic 2 (by decide) dc_243_16 ?_
  refine Bod.icF dc_243_17 rfl (k2_ne_F (k_eq 2 2 rfl rfl (by omega))) ?_
  refine Bod.go dc_243_20 rfl ?_
  refine Bod.get dc_243_21 fr_243_15 (mk_49 _) rfl ?_
  refine Bod.ic 1 (by decide) dc_243_24 ?_
  refine Bod.virt (r := []) dc_243_25 kr_243_80 ⟨Or.inr rfl, ow_132, cl_9⟩ (by rw [np_132]; rfl) (by rw [np_132]; rfl) (ob_of (mk_46 _)) (Nat.le_of_ble_eq_true rfl) (c3  ) ?_
  show Bod _ _ _ _ [_] _ _ _
  refine Bod.stat (r := []) dc_243_28 kr_243_84 (Or.inr rfl) (by rw [np_134]; rfl) (by rw [np_134]; rfl) (by rw [np_134]; exact Nat.le_of_ble_eq_true rfl) (Nat.le_of_ble_eq_true rfl) (c4  ) ?_
  show Bod _ _ _ _ [_] _ _ _
  refine Bod.ic 2 (by decide) dc_243_31 ?_
  refine Bod.icT dc_243_32 rfl (c2_eq_T w6) ?_
  refine Bod.go dc_243_37 rfl ?_
  refine Bod.ic 2 (by decide) dc_243_38 ?_
  refine Bod.icF dc_243_39 rfl (k2_ne_F (k_eq 2 2 rfl rfl (by omega))) ?_
  refine Bod.go dc_243_42 rfl ?_
  refine Bod.get dc_243_43 fr_243_15 (mk_49 _) rfl ?_
  refine Bod.ic 1 (by decide) dc_243_46 ?_
  refine Bod.virt (r := []) dc_243_47 kr_243_100 ⟨Or.inr rfl, ow_135, cl_9⟩ (by rw [np_135]; rfl) (by rw [np_135]; rfl) (ob_of (mk_46 _)) (Nat.le_of_ble_eq_true rfl) (c5  ) ?_
  show Bod _ _ _ _ [_] _ _ _
  refine Bod.go dc_243_50 rfl ?_
  refine Bod.lstn dc_243_54 (by rw [ml_243]; exact Nat.le_of_ble_eq_true rfl) ?_
  refine Bod.go dc_243_55 rfl ?_
  refine Bod.get dc_243_56 fr_243_15 (mk_49 _) rfl ?_
  refine Bod.ic 0 (by decide) dc_243_59 ?_
  refine Bod.virt (r := []) dc_243_60 kr_243_100 ⟨Or.inr rfl, ow_135, cl_9⟩ (by rw [np_135]; rfl) (by rw [np_135]; rfl) (ob_of (mk_46 _)) (Nat.le_of_ble_eq_true rfl) (c6  ) ?_
  show Bod _ _ _ _ [_] _ _ _
  refine Bod.lst dc_243_63 (by rw [ml_243]; exact Nat.le_of_ble_eq_true rfl) ?_
  refine Bod.go dc_243_65 rfl ?_
  refine Bod.go dc_243_66 rfl ?_
  refine Bod.go dc_243_68 rfl ?_
  refine Bod.ifT dc_243_69 rfl w9 ?_
  refine Bod.go dc_243_79 rfl ?_
  refine Bod.lst dc_243_80 (by rw [ml_243]; exact Nat.le_of_ble_eq_true rfl) ?_
  refine Bod.go dc_243_82 rfl ?_
  refine Bod.go dc_243_84 rfl ?_
  refine Bod.go dc_243_85 rfl ?_
  refine Bod.ifF dc_243_86 rfl w10 ?_
  refine Bod.go dc_243_89 rfl ?_
  refine Bod.ldc2 dc_243_91 cj_243_103 ?_
  refine Bod.go dc_243_94 rfl ?_
  refine Bod.ifF dc_243_95 rfl w11 ?_
  refine Bod.bip 8 (by decide) dc_243_98 ?_
  exact Bod.retI dc_243_100 rt_243
theorem mRn2__5 {d : Nat} {S : cS} {S1 : cS} {u : Int64} {S2 : cS} {rb : Int32} {S3 : cS} {u1 : Int64} {S4 : cS} {rb1 : Int32} {S5 : cS} {u2 : Int64} {S6 : cS} {u3 : Int64} (c1 : Ans (d + 8) 132 [.ref 46, .int (nI 0)] S (some (.long u)) S1) (c2 : Ans (d + 8) 134 [.long u] S1 (some (.int rb)) S2) (w3 : rb = nI 2) (c3 : Ans (d + 8) 132 [.ref 46, .int (nI 1)] S2 (some (.long u1)) S3) (c4 : Ans (d + 8) 134 [.long u1] S3 (some (.int rb1)) S4) (w6 : rb1 = nI 2) (c5 : Ans (d + 8) 135 [.ref 46, .int (nI 1)] S4 (some (.long u2)) S5) (c6 : Ans (d + 8) 135 [.ref 46, .int (nI 0)] S5 (some (.long u3)) S6) (w9 : sm_c1 .ge (lg_cmp u2 u3) true false = false) (w10 : sm_c1 .lt (lg_cmp (u3 - u2) 0) true false = true) : Bod (d + 8) 243 0 [(0, .ref 49), (1, .int (nI 2))] [] S (some (.int (nI 8))) (S6) := by
  refine Bod.go dc_243_0 rfl ?_
  refine Bod.get dc_243_1 fr_243_15 (mk_49 _) rfl ?_
  refine Bod.ic 0 (by decide) dc_243_4 ?_
  refine Bod.virt (r := []) dc_243_5 kr_243_80 ⟨Or.inr rfl, ow_132, cl_9⟩ (by rw [np_132]; rfl) (by rw [np_132]; rfl) (ob_of (mk_46 _)) (Nat.le_of_ble_eq_true rfl) (c1  ) ?_
  show Bod _ _ _ _ [_] _ _ _
  refine Bod.stat (r := []) dc_243_8 kr_243_84 (Or.inr rfl) (by rw [np_134]; rfl) (by rw [np_134]; rfl) (by rw [np_134]; exact Nat.le_of_ble_eq_true rfl) (Nat.le_of_ble_eq_true rfl) (c2  ) ?_
  show Bod _ _ _ _ [_] _ _ _
  refine Bod.ic 2 (by decide) dc_243_11 ?_
  refine Bod.icF dc_243_12 rfl (c2_ne_F w3) ?_
  refine Bod.go dc_243_15 rfl ?_
  refine Bod.ic 2 (by decide) dc_243_16 ?_
  refine Bod.icF dc_243_17 rfl (k2_ne_F (k_eq 2 2 rfl rfl (by omega))) ?_
  refine Bod.go dc_243_20 rfl ?_
  refine Bod.get dc_243_21 fr_243_15 (mk_49 _) rfl ?_
  refine Bod.ic 1 (by decide) dc_243_24 ?_
  refine Bod.virt (r := []) dc_243_25 kr_243_80 ⟨Or.inr rfl, ow_132, cl_9⟩ (by rw [np_132]; rfl) (by rw [np_132]; rfl) (ob_of (mk_46 _)) (Nat.le_of_ble_eq_true rfl) (c3  ) ?_
  show Bod _ _ _ _ [_] _ _ _
  refine Bod.stat (r := []) dc_243_28 kr_243_84 (Or.inr rfl) (by rw [np_134]; rfl) (by rw [np_134]; rfl) (by rw [np_134]; exact Nat.le_of_ble_eq_true rfl) (Nat.le_of_ble_eq_true rfl) (c4  ) ?_
  show Bod _ _ _ _ [_] _ _ _
  refine Bod.ic 2 (by decide) dc_243_31 ?_
  refine Bod.icT dc_243_32 rfl (c2_eq_T w6) ?_
  refine Bod.go dc_243_37 rfl ?_
  refine Bod.ic 2 (by decide) dc_243_38 ?_
  refine Bod.icF dc_243_39 rfl (k2_ne_F (k_eq 2 2 rfl rfl (by omega))) ?_
  refine Bod.go dc_243_42 rfl ?_
  refine Bod.get dc_243_43 fr_243_15 (mk_49 _) rfl ?_
  refine Bod.ic 1 (by decide) dc_243_46 ?_
  refine Bod.virt (r := []) dc_243_47 kr_243_100 ⟨Or.inr rfl, ow_135, cl_9⟩ (by rw [np_135]; rfl) (by rw [np_135]; rfl) (ob_of (mk_46 _)) (Nat.le_of_ble_eq_true rfl) (c5  ) ?_
  show Bod _ _ _ _ [_] _ _ _
  refine Bod.go dc_243_50 rfl ?_
  refine Bod.lstn dc_243_54 (by rw [ml_243]; exact Nat.le_of_ble_eq_true rfl) ?_
  refine Bod.go dc_243_55 rfl ?_
  refine Bod.get dc_243_56 fr_243_15 (mk_49 _) rfl ?_
  refine Bod.ic 0 (by decide) dc_243_59 ?_
  refine Bod.virt (r := []) dc_243_60 kr_243_100 ⟨Or.inr rfl, ow_135, cl_9⟩ (by rw [np_135]; rfl) (by rw [np_135]; rfl) (ob_of (mk_46 _)) (Nat.le_of_ble_eq_true rfl) (c6  ) ?_
  show Bod _ _ _ _ [_] _ _ _
  refine Bod.lst dc_243_63 (by rw [ml_243]; exact Nat.le_of_ble_eq_true rfl) ?_
  refine Bod.go dc_243_65 rfl ?_
  refine Bod.go dc_243_66 rfl ?_
  refine Bod.go dc_243_68 rfl ?_
  refine Bod.ifF dc_243_69 rfl w9 ?_
  refine Bod.go dc_243_72 rfl ?_
  refine Bod.go dc_243_74 rfl ?_
  refine Bod.go dc_243_75 rfl ?_
  refine Bod.go dc_243_76 rfl ?_
  refine Bod.lst dc_243_80 (by rw [ml_243]; exact Nat.le_of_ble_eq_true rfl) ?_
  refine Bod.go dc_243_82 rfl ?_
  refine Bod.go dc_243_84 rfl ?_
  refine Bod.go dc_243_85 rfl ?_
  refine Bod.ifT dc_243_86 rfl w10 ?_
  refine Bod.bip 8 (by decide) dc_243_98 ?_
  exact Bod.retI dc_243_100 rt_243
theorem mRn2__6 {d : Nat} {S Sf : cS} {v : Option Value} {S1 : cS} {u : Int64} {S2 : cS} {rb : Int32} {S3 : cS} {u1 : Int64} {S4 : cS} {rb1 : Int32} {S5 : cS} {u2 : Int64} {S6 : cS} {u3 : Int64} {S7 : cS} {a : Nat} (c1 : Ans (d + 8) 132 [.ref 46, .int (nI 0)] S (some (.long u)) S1) (c2 : Ans (d + 8) 134 [.long u] S1 (some (.int rb)) S2) (w3 : rb = nI 2) (c3 : Ans (d + 8) 132 [.ref 46, .int (nI 1)] S2 (some (.long u1)) S3) (c4 : Ans (d + 8) 134 [.long u1] S3 (some (.int rb1)) S4) (w6 : rb1 = nI 2) (c5 : Ans (d + 8) 135 [.ref 46, .int (nI 1)] S4 (some (.long u2)) S5) (c6 : Ans (d + 8) 135 [.ref 46, .int (nI 0)] S5 (some (.long u3)) S6) (w9 : sm_c1 .ge (lg_cmp u2 u3) true false = false) (w10 : sm_c1 .lt (lg_cmp (u3 - u2) 0) true false = false) (w11 : sm_c1 .le (lg_cmp (u3 - u2) ((300))) true false = true) (ma : a < 2 ^ 20) (c7 : Ans (d + 8) 178 [.ref 2, .int (nI 1)] S6 (some (.int (nI a))) S7) (b1 : a ≠ 0) (hB : ∀ lv1 : sm_L, sm_get lv1 0 = some (.ref 49) → sm_get lv1 1 = some (.int (nI 2)) → sm_get lv1 2 = some (.long u2) → sm_get lv1 6 = some (.long (u3 - u2)) → sm_get lv1 8 = some (.int (nI a)) → sm_get lv1 9 = some (.int (nI 0)) → Bod (d + 8) 243 122 lv1 [] (S7) v Sf) : Bod (d + 8) 243 0 [(0, .ref 49), (1, .int (nI 2))] [] S v Sf := by
  refine Bod.go dc_243_0 rfl ?_
  refine Bod.get dc_243_1 fr_243_15 (mk_49 _) rfl ?_
  refine Bod.ic 0 (by decide) dc_243_4 ?_
  refine Bod.virt (r := []) dc_243_5 kr_243_80 ⟨Or.inr rfl, ow_132, cl_9⟩ (by rw [np_132]; rfl) (by rw [np_132]; rfl) (ob_of (mk_46 _)) (Nat.le_of_ble_eq_true rfl) (c1  ) ?_
  show Bod _ _ _ _ [_] _ _ _
  refine Bod.stat (r := []) dc_243_8 kr_243_84 (Or.inr rfl) (by rw [np_134]; rfl) (by rw [np_134]; rfl) (by rw [np_134]; exact Nat.le_of_ble_eq_true rfl) (Nat.le_of_ble_eq_true rfl) (c2  ) ?_
  show Bod _ _ _ _ [_] _ _ _
  refine Bod.ic 2 (by decide) dc_243_11 ?_
  refine Bod.icF dc_243_12 rfl (c2_ne_F w3) ?_
  refine Bod.go dc_243_15 rfl ?_
  refine Bod.ic 2 (by decide) dc_243_16 ?_
  refine Bod.icF dc_243_17 rfl (k2_ne_F (k_eq 2 2 rfl rfl (by omega))) ?_
  refine Bod.go dc_243_20 rfl ?_
  refine Bod.get dc_243_21 fr_243_15 (mk_49 _) rfl ?_
  refine Bod.ic 1 (by decide) dc_243_24 ?_
  refine Bod.virt (r := []) dc_243_25 kr_243_80 ⟨Or.inr rfl, ow_132, cl_9⟩ (by rw [np_132]; rfl) (by rw [np_132]; rfl) (ob_of (mk_46 _)) (Nat.le_of_ble_eq_true rfl) (c3  ) ?_
  show Bod _ _ _ _ [_] _ _ _
  refine Bod.stat (r := []) dc_243_28 kr_243_84 (Or.inr rfl) (by rw [np_134]; rfl) (by rw [np_134]; rfl) (by rw [np_134]; exact Nat.le_of_ble_eq_true rfl) (Nat.le_of_ble_eq_true rfl) (c4  ) ?_
  show Bod _ _ _ _ [_] _ _ _
  refine Bod.ic 2 (by decide) dc_243_31 ?_
  refine Bod.icT dc_243_32 rfl (c2_eq_T w6) ?_
  refine Bod.go dc_243_37 rfl ?_
  refine Bod.ic 2 (by decide) dc_243_38 ?_
  refine Bod.icF dc_243_39 rfl (k2_ne_F (k_eq 2 2 rfl rfl (by omega))) ?_
  refine Bod.go dc_243_42 rfl ?_
  refine Bod.get dc_243_43 fr_243_15 (mk_49 _) rfl ?_
  refine Bod.ic 1 (by decide) dc_243_46 ?_
  refine Bod.virt (r := []) dc_243_47 kr_243_100 ⟨Or.inr rfl, ow_135, cl_9⟩ (by rw [np_135]; rfl) (by rw [np_135]; rfl) (ob_of (mk_46 _)) (Nat.le_of_ble_eq_true rfl) (c5  ) ?_
  show Bod _ _ _ _ [_] _ _ _
  refine Bod.go dc_243_50 rfl ?_
  refine Bod.lstn dc_243_54 (by rw [ml_243]; exact Nat.le_of_ble_eq_true rfl) ?_
  refine Bod.go dc_243_55 rfl ?_
  refine Bod.get dc_243_56 fr_243_15 (mk_49 _) rfl ?_
  refine Bod.ic 0 (by decide) dc_243_59 ?_
  refine Bod.virt (r := []) dc_243_60 kr_243_100 ⟨Or.inr rfl, ow_135, cl_9⟩ (by rw [np_135]; rfl) (by rw [np_135]; rfl) (ob_of (mk_46 _)) (Nat.le_of_ble_eq_true rfl) (c6  ) ?_
  show Bod _ _ _ _ [_] _ _ _
  refine Bod.lst dc_243_63 (by rw [ml_243]; exact Nat.le_of_ble_eq_true rfl) ?_
  refine Bod.go dc_243_65 rfl ?_
  refine Bod.go dc_243_66 rfl ?_
  refine Bod.go dc_243_68 rfl ?_
  refine Bod.ifF dc_243_69 rfl w9 ?_
  refine Bod.go dc_243_72 rfl ?_
  refine Bod.go dc_243_74 rfl ?_
  refine Bod.go dc_243_75 rfl ?_
  refine Bod.go dc_243_76 rfl ?_
  refine Bod.lst dc_243_80 (by rw [ml_243]; exact Nat.le_of_ble_eq_true rfl) ?_
  refine Bod.go dc_243_82 rfl ?_
  refine Bod.go dc_243_84 rfl ?_
  refine Bod.go dc_243_85 rfl ?_
  refine Bod.ifF dc_243_86 rfl w10 ?_
  refine Bod.go dc_243_89 rfl ?_
  refine Bod.ldc2 dc_243_91 cj_243_103 ?_
  refine Bod.go dc_243_94 rfl ?_
  refine Bod.ifT dc_243_95 rfl w11 ?_
  refine Bod.go dc_243_101 rfl ?_
  refine Bod.get dc_243_102 fr_243_9 (mk_49 _) rfl ?_
  refine Bod.ic 1 (by decide) dc_243_105 ?_
  refine Bod.virt (r := []) dc_243_106 kr_243_105 ⟨Or.inr rfl, ow_178, cl_2⟩ (by rw [np_178]; rfl) (by rw [np_178]; rfl) (ob_of (mk_2 _)) (Nat.le_of_ble_eq_true rfl) (c7  ) ?_
  show Bod _ _ _ _ [_] _ _ _
  refine Bod.ist dc_243_109 (by rw [ml_243]; exact Nat.le_of_ble_eq_true rfl) ?_
  refine Bod.go dc_243_111 rfl ?_
  refine Bod.ifT dc_243_113 rfl (k1_ne_T (k_ne a 0 rfl rfl (by omega) (by omega) (by omega))) ?_
  refine Bod.ic 0 (by decide) dc_243_119 ?_
  refine Bod.ist dc_243_120 (by rw [ml_243]; exact Nat.le_of_ble_eq_true rfl) ?_
  exact hB _ (by first | rfl | exact (by repeat (first | exact rfl | exact sm_get_p1 | exact sm_get_p2e | refine sm_get_p1m (by decide) (by decide) ?_ | refine sm_get_p1n (by decide) rfl ?_ | refine sm_get_p2n (by decide) (by decide) rfl ?_ | refine sm_get_p2m (by decide) (by decide) (by decide) ?_))) (by first | rfl | exact (by repeat (first | exact rfl | exact sm_get_p1 | exact sm_get_p2e | refine sm_get_p1m (by decide) (by decide) ?_ | refine sm_get_p1n (by decide) rfl ?_ | refine sm_get_p2n (by decide) (by decide) rfl ?_ | refine sm_get_p2m (by decide) (by decide) (by decide) ?_))) (by first | rfl | exact (by repeat (first | exact rfl | exact sm_get_p1 | exact sm_get_p2e | refine sm_get_p1m (by decide) (by decide) ?_ | refine sm_get_p1n (by decide) rfl ?_ | refine sm_get_p2n (by decide) (by decide) rfl ?_ | refine sm_get_p2m (by decide) (by decide) (by decide) ?_))) (by first | rfl | exact (by repeat (first | exact rfl | exact sm_get_p1 | exact sm_get_p2e | refine sm_get_p1m (by decide) (by decide) ?_ | refine sm_get_p1n (by decide) rfl ?_ | refine sm_get_p2n (by decide) (by decide) rfl ?_ | refine sm_get_p2m (by decide) (by decide) (by decide) ?_))) (by first | rfl | exact (by repeat (first | exact rfl | exact sm_get_p1 | exact sm_get_p2e | refine sm_get_p1m (by decide) (by decide) ?_ | refine sm_get_p1n (by decide) rfl ?_ | refine sm_get_p2n (by decide) (by decide) rfl ?_ | refine sm_get_p2m (by decide) (by decide) (by decide) ?_))) (by first | rfl | exact (by repeat (first | exact rfl | exact sm_get_p1 | exact sm_get_p2e | refine sm_get_p1m (by decide) (by decide) ?_ | refine sm_get_p1n (by decide) rfl ?_ | refine sm_get_p2n (by decide) (by decide) rfl ?_ | refine sm_get_p2m (by decide) (by decide) (by decide) ?_)))
theorem mRn2__7 {d : Nat} {S : cS} {S1 : cS} {u : Int64} {S2 : cS} {rb : Int32} {S3 : cS} {u1 : Int64} {S4 : cS} {rb1 : Int32} {S5 : cS} {u2 : Int64} {S6 : cS} {u3 : Int64} {S7 : cS} {a : Nat} (c1 : Ans (d + 8) 132 [.ref 46, .int (nI 0)] S (some (.long u)) S1) (c2 : Ans (d + 8) 134 [.long u] S1 (some (.int rb)) S2) (w3 : rb = nI 2) (c3 : Ans (d + 8) 132 [.ref 46, .int (nI 1)] S2 (some (.long u1)) S3) (c4 : Ans (d + 8) 134 [.long u1] S3 (some (.int rb1)) S4) (w6 : rb1 = nI 2) (c5 : Ans (d + 8) 135 [.ref 46, .int (nI 1)] S4 (some (.long u2)) S5) (c6 : Ans (d + 8) 135 [.ref 46, .int (nI 0)] S5 (some (.long u3)) S6) (w9 : sm_c1 .ge (lg_cmp u2 u3) true false = false) (w10 : sm_c1 .lt (lg_cmp (u3 - u2) 0) true false = false) (w11 : sm_c1 .le (lg_cmp (u3 - u2) ((300))) true false = true) (ma : a < 2 ^ 20) (c7 : Ans (d + 8) 178 [.ref 2, .int (nI 1)] S6 (some (.int (nI a))) S7) (b1 : a = 0) : Bod (d + 8) 243 0 [(0, .ref 49), (1, .int (nI 2))] [] S (some (.int (nI 8))) (S7) := by
  refine Bod.go dc_243_0 rfl ?_
  refine Bod.get dc_243_1 fr_243_15 (mk_49 _) rfl ?_
  refine Bod.ic 0 (by decide) dc_243_4 ?_
  refine Bod.virt (r := []) dc_243_5 kr_243_80 ⟨Or.inr rfl, ow_132, cl_9⟩ (by rw [np_132]; rfl) (by rw [np_132]; rfl) (ob_of (mk_46 _)) (Nat.le_of_ble_eq_true rfl) (c1  ) ?_
  show Bod _ _ _ _ [_] _ _ _
  refine Bod.stat (r := []) dc_243_8 kr_243_84 (Or.inr rfl) (by rw [np_134]; rfl) (by rw [np_134]; rfl) (by rw [np_134]; exact Nat.le_of_ble_eq_true rfl) (Nat.le_of_ble_eq_true rfl) (c2  ) ?_
  show Bod _ _ _ _ [_] _ _ _
  refine Bod.ic 2 (by decide) dc_243_11 ?_
  refine Bod.icF dc_243_12 rfl (c2_ne_F w3) ?_
  refine Bod.go dc_243_15 rfl ?_
  refine Bod.ic 2 (by decide) dc_243_16 ?_
  refine Bod.icF dc_243_17 rfl (k2_ne_F (k_eq 2 2 rfl rfl (by omega))) ?_
  refine Bod.go dc_243_20 rfl ?_
  refine Bod.get dc_243_21 fr_243_15 (mk_49 _) rfl ?_
  refine Bod.ic 1 (by decide) dc_243_24 ?_
  refine Bod.virt (r := []) dc_243_25 kr_243_80 ⟨Or.inr rfl, ow_132, cl_9⟩ (by rw [np_132]; rfl) (by rw [np_132]; rfl) (ob_of (mk_46 _)) (Nat.le_of_ble_eq_true rfl) (c3  ) ?_
  show Bod _ _ _ _ [_] _ _ _
  refine Bod.stat (r := []) dc_243_28 kr_243_84 (Or.inr rfl) (by rw [np_134]; rfl) (by rw [np_134]; rfl) (by rw [np_134]; exact Nat.le_of_ble_eq_true rfl) (Nat.le_of_ble_eq_true rfl) (c4  ) ?_
  show Bod _ _ _ _ [_] _ _ _
  refine Bod.ic 2 (by decide) dc_243_31 ?_
  refine Bod.icT dc_243_32 rfl (c2_eq_T w6) ?_
  refine Bod.go dc_243_37 rfl ?_
  refine Bod.ic 2 (by decide) dc_243_38 ?_
  refine Bod.icF dc_243_39 rfl (k2_ne_F (k_eq 2 2 rfl rfl (by omega))) ?_
  refine Bod.go dc_243_42 rfl ?_
  refine Bod.get dc_243_43 fr_243_15 (mk_49 _) rfl ?_
  refine Bod.ic 1 (by decide) dc_243_46 ?_
  refine Bod.virt (r := []) dc_243_47 kr_243_100 ⟨Or.inr rfl, ow_135, cl_9⟩ (by rw [np_135]; rfl) (by rw [np_135]; rfl) (ob_of (mk_46 _)) (Nat.le_of_ble_eq_true rfl) (c5  ) ?_
  show Bod _ _ _ _ [_] _ _ _
  refine Bod.go dc_243_50 rfl ?_
  refine Bod.lstn dc_243_54 (by rw [ml_243]; exact Nat.le_of_ble_eq_true rfl) ?_
  refine Bod.go dc_243_55 rfl ?_
  refine Bod.get dc_243_56 fr_243_15 (mk_49 _) rfl ?_
  refine Bod.ic 0 (by decide) dc_243_59 ?_
  refine Bod.virt (r := []) dc_243_60 kr_243_100 ⟨Or.inr rfl, ow_135, cl_9⟩ (by rw [np_135]; rfl) (by rw [np_135]; rfl) (ob_of (mk_46 _)) (Nat.le_of_ble_eq_true rfl) (c6  ) ?_
  show Bod _ _ _ _ [_] _ _ _
  refine Bod.lst dc_243_63 (by rw [ml_243]; exact Nat.le_of_ble_eq_true rfl) ?_
  refine Bod.go dc_243_65 rfl ?_
  refine Bod.go dc_243_66 rfl ?_
  refine Bod.go dc_243_68 rfl ?_
  refine Bod.ifF dc_243_69 rfl w9 ?_
  refine Bod.go dc_243_72 rfl ?_
  refine Bod.go dc_243_74 rfl ?_
  refine Bod.go dc_243_75 rfl ?_
  refine Bod.go dc_243_76 rfl ?_
  refine Bod.lst dc_243_80 (by rw [ml_243]; exact Nat.le_of_ble_eq_true rfl) ?_
  refine Bod.go dc_243_82 rfl ?_
  refine Bod.go dc_243_84 rfl ?_
  refine Bod.go dc_243_85 rfl ?_
  refine Bod.ifF dc_243_86 rfl w10 ?_
  refine Bod.go dc_243_89 rfl ?_
  refine Bod.ldc2 dc_243_91 cj_243_103 ?_
  refine Bod.go dc_243_94 rfl ?_
  refine Bod.ifT dc_243_95 rfl w11 ?_
  refine Bod.go dc_243_101 rfl ?_
  refine Bod.get dc_243_102 fr_243_9 (mk_49 _) rfl ?_
  refine Bod.ic 1 (by decide) dc_243_105 ?_
  refine Bod.virt (r := []) dc_243_106 kr_243_105 ⟨Or.inr rfl, ow_178, cl_2⟩ (by rw [np_178]; rfl) (by rw [np_178]; rfl) (ob_of (mk_2 _)) (Nat.le_of_ble_eq_true rfl) (c7  ) ?_
  show Bod _ _ _ _ [_] _ _ _
  refine Bod.ist dc_243_109 (by rw [ml_243]; exact Nat.le_of_ble_eq_true rfl) ?_
  refine Bod.go dc_243_111 rfl ?_
  refine Bod.ifF dc_243_113 rfl (k1_ne_F (k_eq a 0 rfl rfl (by omega))) ?_
  refine Bod.bip 8 (by decide) dc_243_116 ?_
  exact Bod.retI dc_243_118 rt_243
theorem mRn2__8 {d : Nat} {S : cS} {S1 : cS} {u : Int64} {S2 : cS} {rb : Int32} {S3 : cS} {u1 : Int64} {S4 : cS} {rb1 : Int32} {S5 : cS} {u2 : Int64} {S6 : cS} {u3 : Int64} (c1 : Ans (d + 8) 132 [.ref 46, .int (nI 0)] S (some (.long u)) S1) (c2 : Ans (d + 8) 134 [.long u] S1 (some (.int rb)) S2) (w3 : rb = nI 2) (c3 : Ans (d + 8) 132 [.ref 46, .int (nI 1)] S2 (some (.long u1)) S3) (c4 : Ans (d + 8) 134 [.long u1] S3 (some (.int rb1)) S4) (w6 : rb1 = nI 2) (c5 : Ans (d + 8) 135 [.ref 46, .int (nI 1)] S4 (some (.long u2)) S5) (c6 : Ans (d + 8) 135 [.ref 46, .int (nI 0)] S5 (some (.long u3)) S6) (w9 : sm_c1 .ge (lg_cmp u2 u3) true false = false) (w10 : sm_c1 .lt (lg_cmp (u3 - u2) 0) true false = false) (w11 : sm_c1 .le (lg_cmp (u3 - u2) ((300))) true false = false) : Bod (d + 8) 243 0 [(0, .ref 49), (1, .int (nI 2))] [] S (some (.int (nI 8))) (S6) := by
  refine Bod.go dc_243_0 rfl ?_
  refine Bod.get dc_243_1 fr_243_15 (mk_49 _) rfl ?_
  refine Bod.ic 0 (by decide) dc_243_4 ?_
  refine Bod.virt (r := []) dc_243_5 kr_243_80 ⟨Or.inr rfl, ow_132, cl_9⟩ (by rw [np_132]; rfl) (by rw [np_132]; rfl) (ob_of (mk_46 _)) (Nat.le_of_ble_eq_true rfl) (c1  ) ?_
  show Bod _ _ _ _ [_] _ _ _
  refine Bod.stat (r := []) dc_243_8 kr_243_84 (Or.inr rfl) (by rw [np_134]; rfl) (by rw [np_134]; rfl) (by rw [np_134]; exact Nat.le_of_ble_eq_true rfl) (Nat.le_of_ble_eq_true rfl) (c2  ) ?_
  show Bod _ _ _ _ [_] _ _ _
  refine Bod.ic 2 (by decide) dc_243_11 ?_
  refine Bod.icF dc_243_12 rfl (c2_ne_F w3) ?_
  refine Bod.go dc_243_15 rfl ?_
  refine Bod.ic 2 (by decide) dc_243_16 ?_
  refine Bod.icF dc_243_17 rfl (k2_ne_F (k_eq 2 2 rfl rfl (by omega))) ?_
  refine Bod.go dc_243_20 rfl ?_
  refine Bod.get dc_243_21 fr_243_15 (mk_49 _) rfl ?_
  refine Bod.ic 1 (by decide) dc_243_24 ?_
  refine Bod.virt (r := []) dc_243_25 kr_243_80 ⟨Or.inr rfl, ow_132, cl_9⟩ (by rw [np_132]; rfl) (by rw [np_132]; rfl) (ob_of (mk_46 _)) (Nat.le_of_ble_eq_true rfl) (c3  ) ?_
  show Bod _ _ _ _ [_] _ _ _
  refine Bod.stat (r := []) dc_243_28 kr_243_84 (Or.inr rfl) (by rw [np_134]; rfl) (by rw [np_134]; rfl) (by rw [np_134]; exact Nat.le_of_ble_eq_true rfl) (Nat.le_of_ble_eq_true rfl) (c4  ) ?_
  show Bod _ _ _ _ [_] _ _ _
  refine Bod.ic 2 (by decide) dc_243_31 ?_
  refine Bod.icT dc_243_32 rfl (c2_eq_T w6) ?_
  refine Bod.go dc_243_37 rfl ?_
  refine Bod.ic 2 (by decide) dc_243_38 ?_
  refine Bod.icF dc_243_39 rfl (k2_ne_F (k_eq 2 2 rfl rfl (by omega))) ?_
  refine Bod.go dc_243_42 rfl ?_
  refine Bod.get dc_243_43 fr_243_15 (mk_49 _) rfl ?_
  refine Bod.ic 1 (by decide) dc_243_46 ?_
  refine Bod.virt (r := []) dc_243_47 kr_243_100 ⟨Or.inr rfl, ow_135, cl_9⟩ (by rw [np_135]; rfl) (by rw [np_135]; rfl) (ob_of (mk_46 _)) (Nat.le_of_ble_eq_true rfl) (c5  ) ?_
  show Bod _ _ _ _ [_] _ _ _
  refine Bod.go dc_243_50 rfl ?_
  refine Bod.lstn dc_243_54 (by rw [ml_243]; exact Nat.le_of_ble_eq_true rfl) ?_
  refine Bod.go dc_243_55 rfl ?_
  refine Bod.get dc_243_56 fr_243_15 (mk_49 _) rfl ?_
  refine Bod.ic 0 (by decide) dc_243_59 ?_
  refine Bod.virt (r := []) dc_243_60 kr_243_100 ⟨Or.inr rfl, ow_135, cl_9⟩ (by rw [np_135]; rfl) (by rw [np_135]; rfl) (ob_of (mk_46 _)) (Nat.le_of_ble_eq_true rfl) (c6  ) ?_
  show Bod _ _ _ _ [_] _ _ _
  refine Bod.lst dc_243_63 (by rw [ml_243]; exact Nat.le_of_ble_eq_true rfl) ?_
  refine Bod.go dc_243_65 rfl ?_
  refine Bod.go dc_243_66 rfl ?_
  refine Bod.go dc_243_68 rfl ?_
  refine Bod.ifF dc_243_69 rfl w9 ?_
  refine Bod.go dc_243_72 rfl ?_
  refine Bod.go dc_243_74 rfl ?_
  refine Bod.go dc_243_75 rfl ?_
  refine Bod.go dc_243_76 rfl ?_
  refine Bod.lst dc_243_80 (by rw [ml_243]; exact Nat.le_of_ble_eq_true rfl) ?_
  refine Bod.go dc_243_82 rfl ?_
  refine Bod.go dc_243_84 rfl ?_
  refine Bod.go dc_243_85 rfl ?_
  refine Bod.ifF dc_243_86 rfl w10 ?_
  refine Bod.go dc_243_89 rfl ?_
  refine Bod.ldc2 dc_243_91 cj_243_103 ?_
  refine Bod.go dc_243_94 rfl ?_
  refine Bod.ifF dc_243_95 rfl w11 ?_
  refine Bod.bip 8 (by decide) dc_243_98 ?_
  exact Bod.retI dc_243_100 rt_243
theorem mRn2__9 {d : Nat} {S : cS} {S1 : cS} {u : Int64} {S2 : cS} {rb : Int32} {S3 : cS} {u1 : Int64} {S4 : cS} {rb1 : Int32} (c1 : Ans (d + 8) 132 [.ref 46, .int (nI 0)] S (some (.long u)) S1) (c2 : Ans (d + 8) 134 [.long u] S1 (some (.int rb)) S2) (w3 : rb = nI 2) (c3 : Ans (d + 8) 132 [.ref 46, .int (nI 1)] S2 (some (.long u1)) S3) (c4 : Ans (d + 8) 134 [.long u1] S3 (some (.int rb1)) S4) (w6 : rb1 ≠ nI 2) : Bod (d + 8) 243 0 [(0, .ref 49), (1, .int (nI 2))] [] S (some (.int (nI 2))) (S4) := by
  refine Bod.go dc_243_0 rfl ?_
  refine Bod.get dc_243_1 fr_243_15 (mk_49 _) rfl ?_
  refine Bod.ic 0 (by decide) dc_243_4 ?_
  refine Bod.virt (r := []) dc_243_5 kr_243_80 ⟨Or.inr rfl, ow_132, cl_9⟩ (by rw [np_132]; rfl) (by rw [np_132]; rfl) (ob_of (mk_46 _)) (Nat.le_of_ble_eq_true rfl) (c1  ) ?_
  show Bod _ _ _ _ [_] _ _ _
  refine Bod.stat (r := []) dc_243_8 kr_243_84 (Or.inr rfl) (by rw [np_134]; rfl) (by rw [np_134]; rfl) (by rw [np_134]; exact Nat.le_of_ble_eq_true rfl) (Nat.le_of_ble_eq_true rfl) (c2  ) ?_
  show Bod _ _ _ _ [_] _ _ _
  refine Bod.ic 2 (by decide) dc_243_11 ?_
  refine Bod.icF dc_243_12 rfl (c2_ne_F w3) ?_
  refine Bod.go dc_243_15 rfl ?_
  refine Bod.ic 2 (by decide) dc_243_16 ?_
  refine Bod.icF dc_243_17 rfl (k2_ne_F (k_eq 2 2 rfl rfl (by omega))) ?_
  refine Bod.go dc_243_20 rfl ?_
  refine Bod.get dc_243_21 fr_243_15 (mk_49 _) rfl ?_
  refine Bod.ic 1 (by decide) dc_243_24 ?_
  refine Bod.virt (r := []) dc_243_25 kr_243_80 ⟨Or.inr rfl, ow_132, cl_9⟩ (by rw [np_132]; rfl) (by rw [np_132]; rfl) (ob_of (mk_46 _)) (Nat.le_of_ble_eq_true rfl) (c3  ) ?_
  show Bod _ _ _ _ [_] _ _ _
  refine Bod.stat (r := []) dc_243_28 kr_243_84 (Or.inr rfl) (by rw [np_134]; rfl) (by rw [np_134]; rfl) (by rw [np_134]; exact Nat.le_of_ble_eq_true rfl) (Nat.le_of_ble_eq_true rfl) (c4  ) ?_
  show Bod _ _ _ _ [_] _ _ _
  refine Bod.ic 2 (by decide) dc_243_31 ?_
  refine Bod.icF dc_243_32 rfl (c2_eq_F w6) ?_
  refine Bod.ic 2 (by decide) dc_243_35 ?_
  exact Bod.retI dc_243_36 rt_243
theorem mRn2__10 {d : Nat} {S : cS} {S1 : cS} {u : Int64} {S2 : cS} {rb : Int32} (c1 : Ans (d + 8) 132 [.ref 46, .int (nI 0)] S (some (.long u)) S1) (c2 : Ans (d + 8) 134 [.long u] S1 (some (.int rb)) S2) (w3 : rb ≠ nI 2) : Bod (d + 8) 243 0 [(0, .ref 49), (1, .int (nI 2))] [] S (some (.int (nI 2))) (S2) := by
  refine Bod.go dc_243_0 rfl ?_
  refine Bod.get dc_243_1 fr_243_15 (mk_49 _) rfl ?_
  refine Bod.ic 0 (by decide) dc_243_4 ?_
  refine Bod.virt (r := []) dc_243_5 kr_243_80 ⟨Or.inr rfl, ow_132, cl_9⟩ (by rw [np_132]; rfl) (by rw [np_132]; rfl) (ob_of (mk_46 _)) (Nat.le_of_ble_eq_true rfl) (c1  ) ?_
  show Bod _ _ _ _ [_] _ _ _
  refine Bod.stat (r := []) dc_243_8 kr_243_84 (Or.inr rfl) (by rw [np_134]; rfl) (by rw [np_134]; rfl) (by rw [np_134]; exact Nat.le_of_ble_eq_true rfl) (Nat.le_of_ble_eq_true rfl) (c2  ) ?_
  show Bod _ _ _ _ [_] _ _ _
  refine Bod.ic 2 (by decide) dc_243_11 ?_
  refine Bod.icT dc_243_12 rfl (c2_ne_T w3) ?_
  refine Bod.ic 2 (by decide) dc_243_35 ?_
  exact Bod.retI dc_243_36 rt_243
theorem mRnL_1 {d : Nat} {S : cS} {lv : sm_L} {gv : Nat} {xf : Int64} {xs : Int64} {id : Nat} {ni : Nat} {S1 : cS} {rb : Int32} (q0 : sm_get lv 0 = some (.ref 49)) (q1 : sm_get lv 1 = some (.int (nI gv))) (q2 : sm_get lv 2 = some (.long xf)) (q6 : sm_get lv 6 = some (.long xs)) (q8 : sm_get lv 8 = some (.int (nI id))) (q9 : sm_get lv 9 = some (.int (nI ni))) (mgv : gv < 2 ^ 20) (mid : id < 2 ^ 20) (mni : ni < 2 ^ 20) (w4 : sm_c1 .ge (lg_cmp ((nI ni).toInt64) xs) true false = true) (c1 : Ans (d + 8) 148 [.ref 46, .int (nI (gv + 1)), .long ((4611686018427387904)), .long ((nI id).toInt64)] S (some (.int rb)) S1) : Bod (d + 8) 243 122 lv [] S (some (.int rb)) (S1) := by
  refine Bod.ildG dc_243_122 (by repeat (first | exact q9 | exact sm_get_p1 | exact sm_get_p2e | refine sm_get_p1m (by decide) (by decide) ?_ | refine sm_get_p1n (by decide) rfl ?_ | refine sm_get_p2n (by decide) (by decide) rfl ?_ | refine sm_get_p2m (by decide) (by decide) (by decide) ?_)) ?_
  refine Bod.go dc_243_124 rfl ?_
  refine Bod.lldG dc_243_125 (by repeat (first | exact q6 | exact sm_get_p1 | exact sm_get_p2e | refine sm_get_p1m (by decide) (by decide) ?_ | refine sm_get_p1n (by decide) rfl ?_ | refine sm_get_p2n (by decide) (by decide) rfl ?_ | refine sm_get_p2m (by decide) (by decide) (by decide) ?_)) ?_
  refine Bod.go dc_243_127 rfl ?_
  refine Bod.ifT dc_243_128 rfl w4 ?_
  refine Bod.aldnG dc_243_157 (by repeat (first | exact q0 | exact sm_get_p1 | exact sm_get_p2e | refine sm_get_p1m (by decide) (by decide) ?_ | refine sm_get_p1n (by decide) rfl ?_ | refine sm_get_p2n (by decide) (by decide) rfl ?_ | refine sm_get_p2m (by decide) (by decide) (by decide) ?_)) ?_
  refine Bod.get dc_243_158 fr_243_15 (mk_49 _) rfl ?_
  refine Bod.ildnG dc_243_161 (by repeat (first | exact q1 | exact sm_get_p1 | exact sm_get_p2e | refine sm_get_p1m (by decide) (by decide) ?_ | refine sm_get_p1n (by decide) rfl ?_ | refine sm_get_p2n (by decide) (by decide) rfl ?_ | refine sm_get_p2m (by decide) (by decide) (by decide) ?_)) ?_
  refine Bod.ic 1 (by decide) dc_243_162 ?_
  refine Bod.addN (gv + 1) (by omega) dc_243_163 ?_
  refine Bod.ldc2 dc_243_164 cj_243_112 ?_
  refine Bod.ildG dc_243_167 (by repeat (first | exact q8 | exact sm_get_p1 | exact sm_get_p2e | refine sm_get_p1m (by decide) (by decide) ?_ | refine sm_get_p1n (by decide) rfl ?_ | refine sm_get_p2n (by decide) (by decide) rfl ?_ | refine sm_get_p2m (by decide) (by decide) (by decide) ?_)) ?_
  refine Bod.go dc_243_169 rfl ?_
  refine Bod.virt (r := []) dc_243_170 kr_243_71 ⟨Or.inr rfl, ow_148, cl_9⟩ (by rw [np_148]; rfl) (by rw [np_148]; rfl) (ob_of (mk_46 _)) (Nat.le_of_ble_eq_true rfl) (c1  ) ?_
  show Bod _ _ _ _ [_] _ _ _
  exact Bod.retI dc_243_173 rt_243
theorem mRnL_2 {d : Nat} {S Sf : cS} {v : Option Value} {lv : sm_L} {gv : Nat} {xf : Int64} {xs : Int64} {id : Nat} {ni : Nat} {S1 : cS} (q0 : sm_get lv 0 = some (.ref 49)) (q1 : sm_get lv 1 = some (.int (nI gv))) (q2 : sm_get lv 2 = some (.long xf)) (q6 : sm_get lv 6 = some (.long xs)) (q8 : sm_get lv 8 = some (.int (nI id))) (q9 : sm_get lv 9 = some (.int (nI ni))) (mgv : gv < 2 ^ 20) (mid : id < 2 ^ 20) (mni : ni < 2 ^ 20) (w4 : sm_c1 .ge (lg_cmp ((nI ni).toInt64) xs) true false = false) (c1 : Ans (d + 8) 183 [.ref 2, .int (nI id), .long 0, .long 0, .long ((2305843009213693952)), .long (xf + ((nI ni).toInt64))] S (some (.int (nI 1))) S1) (hB : ∀ lv1 : sm_L, sm_get lv1 0 = some (.ref 49) → sm_get lv1 1 = some (.int (nI gv)) → sm_get lv1 2 = some (.long xf) → sm_get lv1 6 = some (.long xs) → sm_get lv1 8 = some (.int (nI id)) → sm_get lv1 9 = some (.int (nI (ni + 1))) → Bod (d + 8) 243 122 lv1 [] (S1) v Sf) : Bod (d + 8) 243 122 lv [] S v Sf := by
  refine Bod.ildG dc_243_122 (by repeat (first | exact q9 | exact sm_get_p1 | exact sm_get_p2e | refine sm_get_p1m (by decide) (by decide) ?_ | refine sm_get_p1n (by decide) rfl ?_ | refine sm_get_p2n (by decide) (by decide) rfl ?_ | refine sm_get_p2m (by decide) (by decide) (by decide) ?_)) ?_
  refine Bod.go dc_243_124 rfl ?_
  refine Bod.lldG dc_243_125 (by repeat (first | exact q6 | exact sm_get_p1 | exact sm_get_p2e | refine sm_get_p1m (by decide) (by decide) ?_ | refine sm_get_p1n (by decide) rfl ?_ | refine sm_get_p2n (by decide) (by decide) rfl ?_ | refine sm_get_p2m (by decide) (by decide) (by decide) ?_)) ?_
  refine Bod.go dc_243_127 rfl ?_
  refine Bod.ifF dc_243_128 rfl w4 ?_
  refine Bod.aldnG dc_243_131 (by repeat (first | exact q0 | exact sm_get_p1 | exact sm_get_p2e | refine sm_get_p1m (by decide) (by decide) ?_ | refine sm_get_p1n (by decide) rfl ?_ | refine sm_get_p2n (by decide) (by decide) rfl ?_ | refine sm_get_p2m (by decide) (by decide) (by decide) ?_)) ?_
  refine Bod.get dc_243_132 fr_243_9 (mk_49 _) rfl ?_
  refine Bod.ildG dc_243_135 (by repeat (first | exact q8 | exact sm_get_p1 | exact sm_get_p2e | refine sm_get_p1m (by decide) (by decide) ?_ | refine sm_get_p1n (by decide) rfl ?_ | refine sm_get_p2n (by decide) (by decide) rfl ?_ | refine sm_get_p2m (by decide) (by decide) (by decide) ?_)) ?_
  refine Bod.go dc_243_137 rfl ?_
  refine Bod.go dc_243_138 rfl ?_
  refine Bod.ldc2 dc_243_139 cj_243_64 ?_
  refine Bod.lldnG dc_243_142 (by repeat (first | exact q2 | exact sm_get_p1 | exact sm_get_p2e | refine sm_get_p1m (by decide) (by decide) ?_ | refine sm_get_p1n (by decide) rfl ?_ | refine sm_get_p2n (by decide) (by decide) rfl ?_ | refine sm_get_p2m (by decide) (by decide) (by decide) ?_)) ?_
  refine Bod.ildG dc_243_143 (by repeat (first | exact q9 | exact sm_get_p1 | exact sm_get_p2e | refine sm_get_p1m (by decide) (by decide) ?_ | refine sm_get_p1n (by decide) rfl ?_ | refine sm_get_p2n (by decide) (by decide) rfl ?_ | refine sm_get_p2m (by decide) (by decide) (by decide) ?_)) ?_
  refine Bod.go dc_243_145 rfl ?_
  refine Bod.go dc_243_146 rfl ?_
  refine Bod.virt (r := []) dc_243_147 kr_243_108 ⟨Or.inr rfl, ow_183, cl_2⟩ (by rw [np_183]; rfl) (by rw [np_183]; rfl) (ob_of (mk_2 _)) (Nat.le_of_ble_eq_true rfl) (c1  ) ?_
  show Bod _ _ _ _ [_] _ _ _
  refine Bod.go dc_243_150 rfl ?_
  refine Bod.incN (ni + 1) (by rw [kc_1, nI_add]) dc_243_151 (by rw [ml_243]; exact Nat.le_of_ble_eq_true rfl) (by repeat (first | exact q9 | exact sm_get_p1 | exact sm_get_p2e | refine sm_get_p1m (by decide) (by decide) ?_ | refine sm_get_p1n (by decide) rfl ?_ | refine sm_get_p2n (by decide) (by decide) rfl ?_ | refine sm_get_p2m (by decide) (by decide) (by decide) ?_)) ?_
  refine Bod.go dc_243_154 rfl ?_
  exact hB _ (by repeat (first | exact q0 | exact sm_get_p1 | exact sm_get_p2e | refine sm_get_p1m (by decide) (by decide) ?_ | refine sm_get_p1n (by decide) rfl ?_ | refine sm_get_p2n (by decide) (by decide) rfl ?_ | refine sm_get_p2m (by decide) (by decide) (by decide) ?_)) (by repeat (first | exact q1 | exact sm_get_p1 | exact sm_get_p2e | refine sm_get_p1m (by decide) (by decide) ?_ | refine sm_get_p1n (by decide) rfl ?_ | refine sm_get_p2n (by decide) (by decide) rfl ?_ | refine sm_get_p2m (by decide) (by decide) (by decide) ?_)) (by repeat (first | exact q2 | exact sm_get_p1 | exact sm_get_p2e | refine sm_get_p1m (by decide) (by decide) ?_ | refine sm_get_p1n (by decide) rfl ?_ | refine sm_get_p2n (by decide) (by decide) rfl ?_ | refine sm_get_p2m (by decide) (by decide) (by decide) ?_)) (by repeat (first | exact q6 | exact sm_get_p1 | exact sm_get_p2e | refine sm_get_p1m (by decide) (by decide) ?_ | refine sm_get_p1n (by decide) rfl ?_ | refine sm_get_p2n (by decide) (by decide) rfl ?_ | refine sm_get_p2m (by decide) (by decide) (by decide) ?_)) (by repeat (first | exact q8 | exact sm_get_p1 | exact sm_get_p2e | refine sm_get_p1m (by decide) (by decide) ?_ | refine sm_get_p1n (by decide) rfl ?_ | refine sm_get_p2n (by decide) (by decide) rfl ?_ | refine sm_get_p2m (by decide) (by decide) (by decide) ?_)) (by repeat (first | exact q0 | exact sm_get_p1 | exact sm_get_p2e | refine sm_get_p1m (by decide) (by decide) ?_ | refine sm_get_p1n (by decide) rfl ?_ | refine sm_get_p2n (by decide) (by decide) rfl ?_ | refine sm_get_p2m (by decide) (by decide) (by decide) ?_))
theorem mRnL_3 {d : Nat} {S Sf : cS} {v : Option Value} {lv : sm_L} {gv : Nat} {xf : Int64} {xs : Int64} {id : Nat} {ni : Nat} {S1 : cS} (q0 : sm_get lv 0 = some (.ref 49)) (q1 : sm_get lv 1 = some (.int (nI gv))) (q2 : sm_get lv 2 = some (.long xf)) (q6 : sm_get lv 6 = some (.long xs)) (q8 : sm_get lv 8 = some (.int (nI id))) (q9 : sm_get lv 9 = some (.int (nI ni))) (mgv : gv < 2 ^ 20) (mid : id < 2 ^ 20) (mni : ni < 2 ^ 20) (w4 : sm_c1 .ge (lg_cmp ((nI ni).toInt64) xs) true false = false) (c1 : Ans (d + 8) 183 [.ref 2, .int (nI id), .long 0, .long 0, .long ((2305843009213693952)), .long (xf + ((nI ni).toInt64))] S (some (.int (nI 0))) S1) (hB : ∀ lv1 : sm_L, sm_get lv1 0 = some (.ref 49) → sm_get lv1 1 = some (.int (nI gv)) → sm_get lv1 2 = some (.long xf) → sm_get lv1 6 = some (.long xs) → sm_get lv1 8 = some (.int (nI id)) → sm_get lv1 9 = some (.int (nI (ni + 1))) → Bod (d + 8) 243 122 lv1 [] (S1) v Sf) : Bod (d + 8) 243 122 lv [] S v Sf := by
  refine Bod.ildG dc_243_122 (by repeat (first | exact q9 | exact sm_get_p1 | exact sm_get_p2e | refine sm_get_p1m (by decide) (by decide) ?_ | refine sm_get_p1n (by decide) rfl ?_ | refine sm_get_p2n (by decide) (by decide) rfl ?_ | refine sm_get_p2m (by decide) (by decide) (by decide) ?_)) ?_
  refine Bod.go dc_243_124 rfl ?_
  refine Bod.lldG dc_243_125 (by repeat (first | exact q6 | exact sm_get_p1 | exact sm_get_p2e | refine sm_get_p1m (by decide) (by decide) ?_ | refine sm_get_p1n (by decide) rfl ?_ | refine sm_get_p2n (by decide) (by decide) rfl ?_ | refine sm_get_p2m (by decide) (by decide) (by decide) ?_)) ?_
  refine Bod.go dc_243_127 rfl ?_
  refine Bod.ifF dc_243_128 rfl w4 ?_
  refine Bod.aldnG dc_243_131 (by repeat (first | exact q0 | exact sm_get_p1 | exact sm_get_p2e | refine sm_get_p1m (by decide) (by decide) ?_ | refine sm_get_p1n (by decide) rfl ?_ | refine sm_get_p2n (by decide) (by decide) rfl ?_ | refine sm_get_p2m (by decide) (by decide) (by decide) ?_)) ?_
  refine Bod.get dc_243_132 fr_243_9 (mk_49 _) rfl ?_
  refine Bod.ildG dc_243_135 (by repeat (first | exact q8 | exact sm_get_p1 | exact sm_get_p2e | refine sm_get_p1m (by decide) (by decide) ?_ | refine sm_get_p1n (by decide) rfl ?_ | refine sm_get_p2n (by decide) (by decide) rfl ?_ | refine sm_get_p2m (by decide) (by decide) (by decide) ?_)) ?_
  refine Bod.go dc_243_137 rfl ?_
  refine Bod.go dc_243_138 rfl ?_
  refine Bod.ldc2 dc_243_139 cj_243_64 ?_
  refine Bod.lldnG dc_243_142 (by repeat (first | exact q2 | exact sm_get_p1 | exact sm_get_p2e | refine sm_get_p1m (by decide) (by decide) ?_ | refine sm_get_p1n (by decide) rfl ?_ | refine sm_get_p2n (by decide) (by decide) rfl ?_ | refine sm_get_p2m (by decide) (by decide) (by decide) ?_)) ?_
  refine Bod.ildG dc_243_143 (by repeat (first | exact q9 | exact sm_get_p1 | exact sm_get_p2e | refine sm_get_p1m (by decide) (by decide) ?_ | refine sm_get_p1n (by decide) rfl ?_ | refine sm_get_p2n (by decide) (by decide) rfl ?_ | refine sm_get_p2m (by decide) (by decide) (by decide) ?_)) ?_
  refine Bod.go dc_243_145 rfl ?_
  refine Bod.go dc_243_146 rfl ?_
  refine Bod.virt (r := []) dc_243_147 kr_243_108 ⟨Or.inr rfl, ow_183, cl_2⟩ (by rw [np_183]; rfl) (by rw [np_183]; rfl) (ob_of (mk_2 _)) (Nat.le_of_ble_eq_true rfl) (c1  ) ?_
  show Bod _ _ _ _ [_] _ _ _
  refine Bod.go dc_243_150 rfl ?_
  refine Bod.incN (ni + 1) (by rw [kc_1, nI_add]) dc_243_151 (by rw [ml_243]; exact Nat.le_of_ble_eq_true rfl) (by repeat (first | exact q9 | exact sm_get_p1 | exact sm_get_p2e | refine sm_get_p1m (by decide) (by decide) ?_ | refine sm_get_p1n (by decide) rfl ?_ | refine sm_get_p2n (by decide) (by decide) rfl ?_ | refine sm_get_p2m (by decide) (by decide) (by decide) ?_)) ?_
  refine Bod.go dc_243_154 rfl ?_
  exact hB _ (by repeat (first | exact q0 | exact sm_get_p1 | exact sm_get_p2e | refine sm_get_p1m (by decide) (by decide) ?_ | refine sm_get_p1n (by decide) rfl ?_ | refine sm_get_p2n (by decide) (by decide) rfl ?_ | refine sm_get_p2m (by decide) (by decide) (by decide) ?_)) (by repeat (first | exact q1 | exact sm_get_p1 | exact sm_get_p2e | refine sm_get_p1m (by decide) (by decide) ?_ | refine sm_get_p1n (by decide) rfl ?_ | refine sm_get_p2n (by decide) (by decide) rfl ?_ | refine sm_get_p2m (by decide) (by decide) (by decide) ?_)) (by repeat (first | exact q2 | exact sm_get_p1 | exact sm_get_p2e | refine sm_get_p1m (by decide) (by decide) ?_ | refine sm_get_p1n (by decide) rfl ?_ | refine sm_get_p2n (by decide) (by decide) rfl ?_ | refine sm_get_p2m (by decide) (by decide) (by decide) ?_)) (by repeat (first | exact q6 | exact sm_get_p1 | exact sm_get_p2e | refine sm_get_p1m (by decide) (by decide) ?_ | refine sm_get_p1n (by decide) rfl ?_ | refine sm_get_p2n (by decide) (by decide) rfl ?_ | refine sm_get_p2m (by decide) (by decide) (by decide) ?_)) (by repeat (first | exact q8 | exact sm_get_p1 | exact sm_get_p2e | refine sm_get_p1m (by decide) (by decide) ?_ | refine sm_get_p1n (by decide) rfl ?_ | refine sm_get_p2n (by decide) (by decide) rfl ?_ | refine sm_get_p2m (by decide) (by decide) (by decide) ?_)) (by repeat (first | exact q0 | exact sm_get_p1 | exact sm_get_p2e | refine sm_get_p1m (by decide) (by decide) ?_ | refine sm_get_p1n (by decide) rfl ?_ | refine sm_get_p2n (by decide) (by decide) rfl ?_ | refine sm_get_p2m (by decide) (by decide) (by decide) ?_))
theorem mKy_1 {d : Nat} {S Sf : cS} {v : Option Value} {S1 : cS} {a : Nat} {S2 : cS} {a1 : Nat} {S3 : cS} {a2 : Nat} (ma : a < 2 ^ 20) (c1 : Ans (d + 8) 152 [.ref 46, .int (nI 0), .int (nI 2)] S (some (.int (nI a))) S1) (b1 : a ≠ 0) (ma1 : a1 < 2 ^ 20) (c2 : Ans (d + 8) 178 [.ref 2, .int (nI 1)] S1 (some (.int (nI a1))) S2) (b2 : a1 ≠ 0) (ma2 : a2 < 2 ^ 20) (c3 : Ans (d + 8) 140 [.ref 2, .int (nI a)] S2 (some (.int (nI a2))) S3) (hB : ∀ lv1 : sm_L, sm_get lv1 0 = some (.ref 49) → sm_get lv1 1 = some (.int (nI a)) → sm_get lv1 2 = some (.int (nI a1)) → sm_get lv1 3 = some (.int (nI a2)) → sm_get lv1 4 = some (.int (nI 0)) → Bod (d + 8) 247 44 lv1 [] (S3) v Sf) : Bod (d + 8) 247 0 [(0, .ref 49)] [] S v Sf := by
  refine Bod.go dc_247_0 rfl ?_
  refine Bod.get dc_247_1 fr_247_15 (mk_49 _) rfl ?_
  refine Bod.ic 0 (by decide) dc_247_4 ?_
  refine Bod.ic 2 (by decide) dc_247_5 ?_
  refine Bod.virt (r := []) dc_247_6 kr_247_114 ⟨Or.inr rfl, ow_152, cl_9⟩ (by rw [np_152]; rfl) (by rw [np_152]; rfl) (ob_of (mk_46 _)) (Nat.le_of_ble_eq_true rfl) (c1  ) ?_
  show Bod _ _ _ _ [_] _ _ _
  refine Bod.istn dc_247_9 (by rw [ml_247]; exact Nat.le_of_ble_eq_true rfl) ?_
  refine Bod.go dc_247_10 rfl ?_
  refine Bod.ifT dc_247_11 rfl (k1_ne_T (k_ne a 0 rfl rfl (by omega) (by omega) (by omega))) ?_
  refine Bod.go dc_247_16 rfl ?_
  refine Bod.get dc_247_17 fr_247_9 (mk_49 _) rfl ?_
  refine Bod.ic 1 (by decide) dc_247_20 ?_
  refine Bod.virt (r := []) dc_247_21 kr_247_105 ⟨Or.inr rfl, ow_178, cl_2⟩ (by rw [np_178]; rfl) (by rw [np_178]; rfl) (ob_of (mk_2 _)) (Nat.le_of_ble_eq_true rfl) (c2  ) ?_
  show Bod _ _ _ _ [_] _ _ _
  refine Bod.istn dc_247_24 (by rw [ml_247]; exact Nat.le_of_ble_eq_true rfl) ?_
  refine Bod.go dc_247_25 rfl ?_
  refine Bod.ifT dc_247_26 rfl (k1_ne_T (k_ne a1 0 rfl rfl (by omega) (by omega) (by omega))) ?_
  refine Bod.go dc_247_32 rfl ?_
  refine Bod.get dc_247_33 fr_247_9 (mk_49 _) rfl ?_
  refine Bod.go dc_247_36 rfl ?_
  refine Bod.virt (r := []) dc_247_37 kr_247_97 ⟨Or.inr rfl, ow_140, cl_2⟩ (by rw [np_140]; rfl) (by rw [np_140]; rfl) (ob_of (mk_2 _)) (Nat.le_of_ble_eq_true rfl) (c3  ) ?_
  show Bod _ _ _ _ [_] _ _ _
  refine Bod.istn dc_247_40 (by rw [ml_247]; exact Nat.le_of_ble_eq_true rfl) ?_
  refine Bod.ic 0 (by decide) dc_247_41 ?_
  refine Bod.ist dc_247_42 (by rw [ml_247]; exact Nat.le_of_ble_eq_true rfl) ?_
  exact hB _ (by first | rfl | exact (by repeat (first | exact rfl | exact sm_get_p1 | exact sm_get_p2e | refine sm_get_p1m (by decide) (by decide) ?_ | refine sm_get_p1n (by decide) rfl ?_ | refine sm_get_p2n (by decide) (by decide) rfl ?_ | refine sm_get_p2m (by decide) (by decide) (by decide) ?_))) (by first | rfl | exact (by repeat (first | exact rfl | exact sm_get_p1 | exact sm_get_p2e | refine sm_get_p1m (by decide) (by decide) ?_ | refine sm_get_p1n (by decide) rfl ?_ | refine sm_get_p2n (by decide) (by decide) rfl ?_ | refine sm_get_p2m (by decide) (by decide) (by decide) ?_))) (by first | rfl | exact (by repeat (first | exact rfl | exact sm_get_p1 | exact sm_get_p2e | refine sm_get_p1m (by decide) (by decide) ?_ | refine sm_get_p1n (by decide) rfl ?_ | refine sm_get_p2n (by decide) (by decide) rfl ?_ | refine sm_get_p2m (by decide) (by decide) (by decide) ?_))) (by first | rfl | exact (by repeat (first | exact rfl | exact sm_get_p1 | exact sm_get_p2e | refine sm_get_p1m (by decide) (by decide) ?_ | refine sm_get_p1n (by decide) rfl ?_ | refine sm_get_p2n (by decide) (by decide) rfl ?_ | refine sm_get_p2m (by decide) (by decide) (by decide) ?_))) (by first | rfl | exact (by repeat (first | exact rfl | exact sm_get_p1 | exact sm_get_p2e | refine sm_get_p1m (by decide) (by decide) ?_ | refine sm_get_p1n (by decide) rfl ?_ | refine sm_get_p2n (by decide) (by decide) rfl ?_ | refine sm_get_p2m (by decide) (by decide) (by decide) ?_)))
theorem mKy_2 {d : Nat} {S : cS} {S1 : cS} {a : Nat} {S2 : cS} {a1 : Nat} (ma : a < 2 ^ 20) (c1 : Ans (d + 8) 152 [.ref 46, .int (nI 0), .int (nI 2)] S (some (.int (nI a))) S1) (b1 : a ≠ 0) (ma1 : a1 < 2 ^ 20) (c2 : Ans (d + 8) 178 [.ref 2, .int (nI 1)] S1 (some (.int (nI a1))) S2) (b2 : a1 = 0) : Bod (d + 8) 247 0 [(0, .ref 49)] [] S (some (.int (nI 8))) (S2) := by
  refine Bod.go dc_247_0 rfl ?_
  refine Bod.get dc_247_1 fr_247_15 (mk_49 _) rfl ?_
  refine Bod.ic 0 (by decide) dc_247_4 ?_
  refine Bod.ic 2 (by decide) dc_247_5 ?_
  refine Bod.virt (r := []) dc_247_6 kr_247_114 ⟨Or.inr rfl, ow_152, cl_9⟩ (by rw [np_152]; rfl) (by rw [np_152]; rfl) (ob_of (mk_46 _)) (Nat.le_of_ble_eq_true rfl) (c1  ) ?_
  show Bod _ _ _ _ [_] _ _ _
  refine Bod.istn dc_247_9 (by rw [ml_247]; exact Nat.le_of_ble_eq_true rfl) ?_
  refine Bod.go dc_247_10 rfl ?_
  refine Bod.ifT dc_247_11 rfl (k1_ne_T (k_ne a 0 rfl rfl (by omega) (by omega) (by omega))) ?_
  refine Bod.go dc_247_16 rfl ?_
  refine Bod.get dc_247_17 fr_247_9 (mk_49 _) rfl ?_
  refine Bod.ic 1 (by decide) dc_247_20 ?_
  refine Bod.virt (r := []) dc_247_21 kr_247_105 ⟨Or.inr rfl, ow_178, cl_2⟩ (by rw [np_178]; rfl) (by rw [np_178]; rfl) (ob_of (mk_2 _)) (Nat.le_of_ble_eq_true rfl) (c2  ) ?_
  show Bod _ _ _ _ [_] _ _ _
  refine Bod.istn dc_247_24 (by rw [ml_247]; exact Nat.le_of_ble_eq_true rfl) ?_
  refine Bod.go dc_247_25 rfl ?_
  refine Bod.ifF dc_247_26 rfl (k1_ne_F (k_eq a1 0 rfl rfl (by omega))) ?_
  refine Bod.bip 8 (by decide) dc_247_29 ?_
  exact Bod.retI dc_247_31 rt_247
theorem mKy_3 {d : Nat} {S : cS} {S1 : cS} {a : Nat} (ma : a < 2 ^ 20) (c1 : Ans (d + 8) 152 [.ref 46, .int (nI 0), .int (nI 2)] S (some (.int (nI a))) S1) (b1 : a = 0) : Bod (d + 8) 247 0 [(0, .ref 49)] [] S (some (.int (nI 2))) (S1) := by
  refine Bod.go dc_247_0 rfl ?_
  refine Bod.get dc_247_1 fr_247_15 (mk_49 _) rfl ?_
  refine Bod.ic 0 (by decide) dc_247_4 ?_
  refine Bod.ic 2 (by decide) dc_247_5 ?_
  refine Bod.virt (r := []) dc_247_6 kr_247_114 ⟨Or.inr rfl, ow_152, cl_9⟩ (by rw [np_152]; rfl) (by rw [np_152]; rfl) (ob_of (mk_46 _)) (Nat.le_of_ble_eq_true rfl) (c1  ) ?_
  show Bod _ _ _ _ [_] _ _ _
  refine Bod.istn dc_247_9 (by rw [ml_247]; exact Nat.le_of_ble_eq_true rfl) ?_
  refine Bod.go dc_247_10 rfl ?_
  refine Bod.ifF dc_247_11 rfl (k1_ne_F (k_eq a 0 rfl rfl (by omega))) ?_
  refine Bod.ic 2 (by decide) dc_247_14 ?_
  exact Bod.retI dc_247_15 rt_247
theorem mKyL_1 {d : Nat} {S : cS} {lv : sm_L} {di : Nat} {id : Nat} {sz : Nat} {ni : Nat} {S1 : cS} {rb : Int32} (q0 : sm_get lv 0 = some (.ref 49)) (q1 : sm_get lv 1 = some (.int (nI di))) (q2 : sm_get lv 2 = some (.int (nI id))) (q3 : sm_get lv 3 = some (.int (nI sz))) (q4 : sm_get lv 4 = some (.int (nI ni))) (mdi : di < 2 ^ 20) (mid : id < 2 ^ 20) (msz : sz < 2 ^ 20) (mni : ni < 2 ^ 20) (b1 : sz ≤ ni) (c1 : Ans (d + 8) 148 [.ref 46, .int (nI 2), .long ((4611686018427387904)), .long ((nI id).toInt64)] S (some (.int rb)) S1) : Bod (d + 8) 247 44 lv [] S (some (.int rb)) (S1) := by
  refine Bod.ildG dc_247_44 (by repeat (first | exact q4 | exact sm_get_p1 | exact sm_get_p2e | refine sm_get_p1m (by decide) (by decide) ?_ | refine sm_get_p1n (by decide) rfl ?_ | refine sm_get_p2n (by decide) (by decide) rfl ?_ | refine sm_get_p2m (by decide) (by decide) (by decide) ?_)) ?_
  refine Bod.ildnG dc_247_46 (by repeat (first | exact q3 | exact sm_get_p1 | exact sm_get_p2e | refine sm_get_p1m (by decide) (by decide) ?_ | refine sm_get_p1n (by decide) rfl ?_ | refine sm_get_p2n (by decide) (by decide) rfl ?_ | refine sm_get_p2m (by decide) (by decide) (by decide) ?_)) ?_
  refine Bod.icT dc_247_47 rfl (k2_ge_T ni sz rfl rfl (by omega) (by omega)) ?_
  refine Bod.aldnG dc_247_87 (by repeat (first | exact q0 | exact sm_get_p1 | exact sm_get_p2e | refine sm_get_p1m (by decide) (by decide) ?_ | refine sm_get_p1n (by decide) rfl ?_ | refine sm_get_p2n (by decide) (by decide) rfl ?_ | refine sm_get_p2m (by decide) (by decide) (by decide) ?_)) ?_
  refine Bod.get dc_247_88 fr_247_15 (mk_49 _) rfl ?_
  refine Bod.ic 2 (by decide) dc_247_91 ?_
  refine Bod.ldc2 dc_247_92 cj_247_112 ?_
  refine Bod.ildnG dc_247_95 (by repeat (first | exact q2 | exact sm_get_p1 | exact sm_get_p2e | refine sm_get_p1m (by decide) (by decide) ?_ | refine sm_get_p1n (by decide) rfl ?_ | refine sm_get_p2n (by decide) (by decide) rfl ?_ | refine sm_get_p2m (by decide) (by decide) (by decide) ?_)) ?_
  refine Bod.go dc_247_96 rfl ?_
  refine Bod.virt (r := []) dc_247_97 kr_247_71 ⟨Or.inr rfl, ow_148, cl_9⟩ (by rw [np_148]; rfl) (by rw [np_148]; rfl) (ob_of (mk_46 _)) (Nat.le_of_ble_eq_true rfl) (c1  ) ?_
  show Bod _ _ _ _ [_] _ _ _
  exact Bod.retI dc_247_100 rt_247
theorem mKyL_2 {d : Nat} {S Sf : cS} {v : Option Value} {lv : sm_L} {di : Nat} {id : Nat} {sz : Nat} {ni : Nat} {S1 : cS} {u : Int64} {S2 : cS} {u1 : Int64} {S3 : cS} (q0 : sm_get lv 0 = some (.ref 49)) (q1 : sm_get lv 1 = some (.int (nI di))) (q2 : sm_get lv 2 = some (.int (nI id))) (q3 : sm_get lv 3 = some (.int (nI sz))) (q4 : sm_get lv 4 = some (.int (nI ni))) (mdi : di < 2 ^ 20) (mid : id < 2 ^ 20) (msz : sz < 2 ^ 20) (mni : ni < 2 ^ 20) (b1 : ni < sz) (c1 : Ans (d + 8) 232 [.ref 2, .int (nI di), .int (nI ni)] S (some (.long u)) S1) (c2 : Ans (d + 8) 233 [.ref 2, .int (nI di), .int (nI ni)] S1 (some (.long u1)) S2) (c3 : Ans (d + 8) 183 [.ref 2, .int (nI id), .long 0, .long 0, .long u, .long u1] S2 (some (.int (nI 1))) S3) (hB : ∀ lv1 : sm_L, sm_get lv1 0 = some (.ref 49) → sm_get lv1 1 = some (.int (nI di)) → sm_get lv1 2 = some (.int (nI id)) → sm_get lv1 3 = some (.int (nI sz)) → sm_get lv1 4 = some (.int (nI (ni + 1))) → Bod (d + 8) 247 44 lv1 [] (S3) v Sf) : Bod (d + 8) 247 44 lv [] S v Sf := by
  refine Bod.ildG dc_247_44 (by repeat (first | exact q4 | exact sm_get_p1 | exact sm_get_p2e | refine sm_get_p1m (by decide) (by decide) ?_ | refine sm_get_p1n (by decide) rfl ?_ | refine sm_get_p2n (by decide) (by decide) rfl ?_ | refine sm_get_p2m (by decide) (by decide) (by decide) ?_)) ?_
  refine Bod.ildnG dc_247_46 (by repeat (first | exact q3 | exact sm_get_p1 | exact sm_get_p2e | refine sm_get_p1m (by decide) (by decide) ?_ | refine sm_get_p1n (by decide) rfl ?_ | refine sm_get_p2n (by decide) (by decide) rfl ?_ | refine sm_get_p2m (by decide) (by decide) (by decide) ?_)) ?_
  refine Bod.icF dc_247_47 rfl (k2_ge_F ni sz rfl rfl (by omega) (by omega)) ?_
  refine Bod.aldnG dc_247_50 (by repeat (first | exact q0 | exact sm_get_p1 | exact sm_get_p2e | refine sm_get_p1m (by decide) (by decide) ?_ | refine sm_get_p1n (by decide) rfl ?_ | refine sm_get_p2n (by decide) (by decide) rfl ?_ | refine sm_get_p2m (by decide) (by decide) (by decide) ?_)) ?_
  refine Bod.get dc_247_51 fr_247_9 (mk_49 _) rfl ?_
  refine Bod.ildnG dc_247_54 (by repeat (first | exact q2 | exact sm_get_p1 | exact sm_get_p2e | refine sm_get_p1m (by decide) (by decide) ?_ | refine sm_get_p1n (by decide) rfl ?_ | refine sm_get_p2n (by decide) (by decide) rfl ?_ | refine sm_get_p2m (by decide) (by decide) (by decide) ?_)) ?_
  refine Bod.go dc_247_55 rfl ?_
  refine Bod.go dc_247_56 rfl ?_
  refine Bod.aldnG dc_247_57 (by repeat (first | exact q0 | exact sm_get_p1 | exact sm_get_p2e | refine sm_get_p1m (by decide) (by decide) ?_ | refine sm_get_p1n (by decide) rfl ?_ | refine sm_get_p2n (by decide) (by decide) rfl ?_ | refine sm_get_p2m (by decide) (by decide) (by decide) ?_)) ?_
  refine Bod.get dc_247_58 fr_247_9 (mk_49 _) rfl ?_
  refine Bod.ildnG dc_247_61 (by repeat (first | exact q1 | exact sm_get_p1 | exact sm_get_p2e | refine sm_get_p1m (by decide) (by decide) ?_ | refine sm_get_p1n (by decide) rfl ?_ | refine sm_get_p2n (by decide) (by decide) rfl ?_ | refine sm_get_p2m (by decide) (by decide) (by decide) ?_)) ?_
  refine Bod.ildG dc_247_62 (by repeat (first | exact q4 | exact sm_get_p1 | exact sm_get_p2e | refine sm_get_p1m (by decide) (by decide) ?_ | refine sm_get_p1n (by decide) rfl ?_ | refine sm_get_p2n (by decide) (by decide) rfl ?_ | refine sm_get_p2m (by decide) (by decide) (by decide) ?_)) ?_
  refine Bod.virt (r := [_, _, _, _]) dc_247_64 kr_247_133 ⟨Or.inr rfl, ow_232, cl_2⟩ (by rw [np_232]; rfl) (by rw [np_232]; rfl) (ob_of (mk_2 _)) (Nat.le_of_ble_eq_true rfl) (c1  ) ?_
  show Bod _ _ _ _ [_, _, _, _, _] _ _ _
  refine Bod.aldnG dc_247_67 (by repeat (first | exact q0 | exact sm_get_p1 | exact sm_get_p2e | refine sm_get_p1m (by decide) (by decide) ?_ | refine sm_get_p1n (by decide) rfl ?_ | refine sm_get_p2n (by decide) (by decide) rfl ?_ | refine sm_get_p2m (by decide) (by decide) (by decide) ?_)) ?_
  refine Bod.get dc_247_68 fr_247_9 (mk_49 _) rfl ?_
  refine Bod.ildnG dc_247_71 (by repeat (first | exact q1 | exact sm_get_p1 | exact sm_get_p2e | refine sm_get_p1m (by decide) (by decide) ?_ | refine sm_get_p1n (by decide) rfl ?_ | refine sm_get_p2n (by decide) (by decide) rfl ?_ | refine sm_get_p2m (by decide) (by decide) (by decide) ?_)) ?_
  refine Bod.ildG dc_247_72 (by repeat (first | exact q4 | exact sm_get_p1 | exact sm_get_p2e | refine sm_get_p1m (by decide) (by decide) ?_ | refine sm_get_p1n (by decide) rfl ?_ | refine sm_get_p2n (by decide) (by decide) rfl ?_ | refine sm_get_p2m (by decide) (by decide) (by decide) ?_)) ?_
  refine Bod.virt (r := [_, _, _, _, _]) dc_247_74 kr_247_136 ⟨Or.inr rfl, ow_233, cl_2⟩ (by rw [np_233]; rfl) (by rw [np_233]; rfl) (ob_of (mk_2 _)) (Nat.le_of_ble_eq_true rfl) (c2  ) ?_
  show Bod _ _ _ _ [_, _, _, _, _, _] _ _ _
  refine Bod.virt (r := []) dc_247_77 kr_247_108 ⟨Or.inr rfl, ow_183, cl_2⟩ (by rw [np_183]; rfl) (by rw [np_183]; rfl) (ob_of (mk_2 _)) (Nat.le_of_ble_eq_true rfl) (c3  ) ?_
  show Bod _ _ _ _ [_] _ _ _
  refine Bod.go dc_247_80 rfl ?_
  refine Bod.incN (ni + 1) (by rw [kc_1, nI_add]) dc_247_81 (by rw [ml_247]; exact Nat.le_of_ble_eq_true rfl) (by repeat (first | exact q4 | exact sm_get_p1 | exact sm_get_p2e | refine sm_get_p1m (by decide) (by decide) ?_ | refine sm_get_p1n (by decide) rfl ?_ | refine sm_get_p2n (by decide) (by decide) rfl ?_ | refine sm_get_p2m (by decide) (by decide) (by decide) ?_)) ?_
  refine Bod.go dc_247_84 rfl ?_
  exact hB _ (by repeat (first | exact q0 | exact sm_get_p1 | exact sm_get_p2e | refine sm_get_p1m (by decide) (by decide) ?_ | refine sm_get_p1n (by decide) rfl ?_ | refine sm_get_p2n (by decide) (by decide) rfl ?_ | refine sm_get_p2m (by decide) (by decide) (by decide) ?_)) (by repeat (first | exact q1 | exact sm_get_p1 | exact sm_get_p2e | refine sm_get_p1m (by decide) (by decide) ?_ | refine sm_get_p1n (by decide) rfl ?_ | refine sm_get_p2n (by decide) (by decide) rfl ?_ | refine sm_get_p2m (by decide) (by decide) (by decide) ?_)) (by repeat (first | exact q2 | exact sm_get_p1 | exact sm_get_p2e | refine sm_get_p1m (by decide) (by decide) ?_ | refine sm_get_p1n (by decide) rfl ?_ | refine sm_get_p2n (by decide) (by decide) rfl ?_ | refine sm_get_p2m (by decide) (by decide) (by decide) ?_)) (by repeat (first | exact q3 | exact sm_get_p1 | exact sm_get_p2e | refine sm_get_p1m (by decide) (by decide) ?_ | refine sm_get_p1n (by decide) rfl ?_ | refine sm_get_p2n (by decide) (by decide) rfl ?_ | refine sm_get_p2m (by decide) (by decide) (by decide) ?_)) (by repeat (first | exact q0 | exact sm_get_p1 | exact sm_get_p2e | refine sm_get_p1m (by decide) (by decide) ?_ | refine sm_get_p1n (by decide) rfl ?_ | refine sm_get_p2n (by decide) (by decide) rfl ?_ | refine sm_get_p2m (by decide) (by decide) (by decide) ?_))
theorem mKyL_3 {d : Nat} {S Sf : cS} {v : Option Value} {lv : sm_L} {di : Nat} {id : Nat} {sz : Nat} {ni : Nat} {S1 : cS} {u : Int64} {S2 : cS} {u1 : Int64} {S3 : cS} (q0 : sm_get lv 0 = some (.ref 49)) (q1 : sm_get lv 1 = some (.int (nI di))) (q2 : sm_get lv 2 = some (.int (nI id))) (q3 : sm_get lv 3 = some (.int (nI sz))) (q4 : sm_get lv 4 = some (.int (nI ni))) (mdi : di < 2 ^ 20) (mid : id < 2 ^ 20) (msz : sz < 2 ^ 20) (mni : ni < 2 ^ 20) (b1 : ni < sz) (c1 : Ans (d + 8) 232 [.ref 2, .int (nI di), .int (nI ni)] S (some (.long u)) S1) (c2 : Ans (d + 8) 233 [.ref 2, .int (nI di), .int (nI ni)] S1 (some (.long u1)) S2) (c3 : Ans (d + 8) 183 [.ref 2, .int (nI id), .long 0, .long 0, .long u, .long u1] S2 (some (.int (nI 0))) S3) (hB : ∀ lv1 : sm_L, sm_get lv1 0 = some (.ref 49) → sm_get lv1 1 = some (.int (nI di)) → sm_get lv1 2 = some (.int (nI id)) → sm_get lv1 3 = some (.int (nI sz)) → sm_get lv1 4 = some (.int (nI (ni + 1))) → Bod (d + 8) 247 44 lv1 [] (S3) v Sf) : Bod (d + 8) 247 44 lv [] S v Sf := by
  refine Bod.ildG dc_247_44 (by repeat (first | exact q4 | exact sm_get_p1 | exact sm_get_p2e | refine sm_get_p1m (by decide) (by decide) ?_ | refine sm_get_p1n (by decide) rfl ?_ | refine sm_get_p2n (by decide) (by decide) rfl ?_ | refine sm_get_p2m (by decide) (by decide) (by decide) ?_)) ?_
  refine Bod.ildnG dc_247_46 (by repeat (first | exact q3 | exact sm_get_p1 | exact sm_get_p2e | refine sm_get_p1m (by decide) (by decide) ?_ | refine sm_get_p1n (by decide) rfl ?_ | refine sm_get_p2n (by decide) (by decide) rfl ?_ | refine sm_get_p2m (by decide) (by decide) (by decide) ?_)) ?_
  refine Bod.icF dc_247_47 rfl (k2_ge_F ni sz rfl rfl (by omega) (by omega)) ?_
  refine Bod.aldnG dc_247_50 (by repeat (first | exact q0 | exact sm_get_p1 | exact sm_get_p2e | refine sm_get_p1m (by decide) (by decide) ?_ | refine sm_get_p1n (by decide) rfl ?_ | refine sm_get_p2n (by decide) (by decide) rfl ?_ | refine sm_get_p2m (by decide) (by decide) (by decide) ?_)) ?_
  refine Bod.get dc_247_51 fr_247_9 (mk_49 _) rfl ?_
  refine Bod.ildnG dc_247_54 (by repeat (first | exact q2 | exact sm_get_p1 | exact sm_get_p2e | refine sm_get_p1m (by decide) (by decide) ?_ | refine sm_get_p1n (by decide) rfl ?_ | refine sm_get_p2n (by decide) (by decide) rfl ?_ | refine sm_get_p2m (by decide) (by decide) (by decide) ?_)) ?_
  refine Bod.go dc_247_55 rfl ?_
  refine Bod.go dc_247_56 rfl ?_
  refine Bod.aldnG dc_247_57 (by repeat (first | exact q0 | exact sm_get_p1 | exact sm_get_p2e | refine sm_get_p1m (by decide) (by decide) ?_ | refine sm_get_p1n (by decide) rfl ?_ | refine sm_get_p2n (by decide) (by decide) rfl ?_ | refine sm_get_p2m (by decide) (by decide) (by decide) ?_)) ?_
  refine Bod.get dc_247_58 fr_247_9 (mk_49 _) rfl ?_
  refine Bod.ildnG dc_247_61 (by repeat (first | exact q1 | exact sm_get_p1 | exact sm_get_p2e | refine sm_get_p1m (by decide) (by decide) ?_ | refine sm_get_p1n (by decide) rfl ?_ | refine sm_get_p2n (by decide) (by decide) rfl ?_ | refine sm_get_p2m (by decide) (by decide) (by decide) ?_)) ?_
  refine Bod.ildG dc_247_62 (by repeat (first | exact q4 | exact sm_get_p1 | exact sm_get_p2e | refine sm_get_p1m (by decide) (by decide) ?_ | refine sm_get_p1n (by decide) rfl ?_ | refine sm_get_p2n (by decide) (by decide) rfl ?_ | refine sm_get_p2m (by decide) (by decide) (by decide) ?_)) ?_
  refine Bod.virt (r := [_, _, _, _]) dc_247_64 kr_247_133 ⟨Or.inr rfl, ow_232, cl_2⟩ (by rw [np_232]; rfl) (by rw [np_232]; rfl) (ob_of (mk_2 _)) (Nat.le_of_ble_eq_true rfl) (c1  ) ?_
  show Bod _ _ _ _ [_, _, _, _, _] _ _ _
  refine Bod.aldnG dc_247_67 (by repeat (first | exact q0 | exact sm_get_p1 | exact sm_get_p2e | refine sm_get_p1m (by decide) (by decide) ?_ | refine sm_get_p1n (by decide) rfl ?_ | refine sm_get_p2n (by decide) (by decide) rfl ?_ | refine sm_get_p2m (by decide) (by decide) (by decide) ?_)) ?_
  refine Bod.get dc_247_68 fr_247_9 (mk_49 _) rfl ?_
  refine Bod.ildnG dc_247_71 (by repeat (first | exact q1 | exact sm_get_p1 | exact sm_get_p2e | refine sm_get_p1m (by decide) (by decide) ?_ | refine sm_get_p1n (by decide) rfl ?_ | refine sm_get_p2n (by decide) (by decide) rfl ?_ | refine sm_get_p2m (by decide) (by decide) (by decide) ?_)) ?_
  refine Bod.ildG dc_247_72 (by repeat (first | exact q4 | exact sm_get_p1 | exact sm_get_p2e | refine sm_get_p1m (by decide) (by decide) ?_ | refine sm_get_p1n (by decide) rfl ?_ | refine sm_get_p2n (by decide) (by decide) rfl ?_ | refine sm_get_p2m (by decide) (by decide) (by decide) ?_)) ?_
  refine Bod.virt (r := [_, _, _, _, _]) dc_247_74 kr_247_136 ⟨Or.inr rfl, ow_233, cl_2⟩ (by rw [np_233]; rfl) (by rw [np_233]; rfl) (ob_of (mk_2 _)) (Nat.le_of_ble_eq_true rfl) (c2  ) ?_
  show Bod _ _ _ _ [_, _, _, _, _, _] _ _ _
  refine Bod.virt (r := []) dc_247_77 kr_247_108 ⟨Or.inr rfl, ow_183, cl_2⟩ (by rw [np_183]; rfl) (by rw [np_183]; rfl) (ob_of (mk_2 _)) (Nat.le_of_ble_eq_true rfl) (c3  ) ?_
  show Bod _ _ _ _ [_] _ _ _
  refine Bod.go dc_247_80 rfl ?_
  refine Bod.incN (ni + 1) (by rw [kc_1, nI_add]) dc_247_81 (by rw [ml_247]; exact Nat.le_of_ble_eq_true rfl) (by repeat (first | exact q4 | exact sm_get_p1 | exact sm_get_p2e | refine sm_get_p1m (by decide) (by decide) ?_ | refine sm_get_p1n (by decide) rfl ?_ | refine sm_get_p2n (by decide) (by decide) rfl ?_ | refine sm_get_p2m (by decide) (by decide) (by decide) ?_)) ?_
  refine Bod.go dc_247_84 rfl ?_
  exact hB _ (by repeat (first | exact q0 | exact sm_get_p1 | exact sm_get_p2e | refine sm_get_p1m (by decide) (by decide) ?_ | refine sm_get_p1n (by decide) rfl ?_ | refine sm_get_p2n (by decide) (by decide) rfl ?_ | refine sm_get_p2m (by decide) (by decide) (by decide) ?_)) (by repeat (first | exact q1 | exact sm_get_p1 | exact sm_get_p2e | refine sm_get_p1m (by decide) (by decide) ?_ | refine sm_get_p1n (by decide) rfl ?_ | refine sm_get_p2n (by decide) (by decide) rfl ?_ | refine sm_get_p2m (by decide) (by decide) (by decide) ?_)) (by repeat (first | exact q2 | exact sm_get_p1 | exact sm_get_p2e | refine sm_get_p1m (by decide) (by decide) ?_ | refine sm_get_p1n (by decide) rfl ?_ | refine sm_get_p2n (by decide) (by decide) rfl ?_ | refine sm_get_p2m (by decide) (by decide) (by decide) ?_)) (by repeat (first | exact q3 | exact sm_get_p1 | exact sm_get_p2e | refine sm_get_p1m (by decide) (by decide) ?_ | refine sm_get_p1n (by decide) rfl ?_ | refine sm_get_p2n (by decide) (by decide) rfl ?_ | refine sm_get_p2m (by decide) (by decide) (by decide) ?_)) (by repeat (first | exact q0 | exact sm_get_p1 | exact sm_get_p2e | refine sm_get_p1m (by decide) (by decide) ?_ | refine sm_get_p1n (by decide) rfl ?_ | refine sm_get_p2n (by decide) (by decide) rfl ?_ | refine sm_get_p2m (by decide) (by decide) (by decide) ?_))
theorem mTx_1 {d : Nat} {S : cS} {S1 : cS} {u : Int64} {S2 : cS} {rb : Int32} {S3 : cS} {u1 : Int64} {S4 : cS} {u2 : Int64} {S5 : cS} {rb1 : Int32} (c1 : Ans (d + 8) 132 [.ref 46, .int (nI 0)] S (some (.long u)) S1) (c2 : Ans (d + 8) 134 [.long u] S1 (some (.int rb)) S2) (w3 : rb = nI 3) (c3 : Ans (d + 8) 132 [.ref 46, .int (nI 0)] S2 (some (.long u1)) S3) (c4 : Ans (d + 8) 135 [.ref 46, .int (nI 0)] S3 (some (.long u2)) S4) (c5 : Ans (d + 8) 148 [.ref 46, .int (nI 2), .long u1, .long u2] S4 (some (.int rb1)) S5) : Bod (d + 8) 248 0 [(0, .ref 49)] [] S (some (.int rb1)) (S5) := by
  refine Bod.go dc_248_0 rfl ?_
  refine Bod.get dc_248_1 fr_248_15 (mk_49 _) rfl ?_
  refine Bod.ic 0 (by decide) dc_248_4 ?_
  refine Bod.virt (r := []) dc_248_5 kr_248_80 ⟨Or.inr rfl, ow_132, cl_9⟩ (by rw [np_132]; rfl) (by rw [np_132]; rfl) (ob_of (mk_46 _)) (Nat.le_of_ble_eq_true rfl) (c1  ) ?_
  show Bod _ _ _ _ [_] _ _ _
  refine Bod.stat (r := []) dc_248_8 kr_248_84 (Or.inr rfl) (by rw [np_134]; rfl) (by rw [np_134]; rfl) (by rw [np_134]; exact Nat.le_of_ble_eq_true rfl) (Nat.le_of_ble_eq_true rfl) (c2  ) ?_
  show Bod _ _ _ _ [_] _ _ _
  refine Bod.ic 3 (by decide) dc_248_11 ?_
  refine Bod.icF dc_248_12 rfl (c2_ne_F w3) ?_
  refine Bod.go dc_248_15 rfl ?_
  refine Bod.get dc_248_16 fr_248_15 (mk_49 _) rfl ?_
  refine Bod.ic 2 (by decide) dc_248_19 ?_
  refine Bod.go dc_248_20 rfl ?_
  refine Bod.get dc_248_21 fr_248_15 (mk_49 _) rfl ?_
  refine Bod.ic 0 (by decide) dc_248_24 ?_
  refine Bod.virt (r := [_, _]) dc_248_25 kr_248_80 ⟨Or.inr rfl, ow_132, cl_9⟩ (by rw [np_132]; rfl) (by rw [np_132]; rfl) (ob_of (mk_46 _)) (Nat.le_of_ble_eq_true rfl) (c3  ) ?_
  show Bod _ _ _ _ [_, _, _] _ _ _
  refine Bod.go dc_248_28 rfl ?_
  refine Bod.get dc_248_29 fr_248_15 (mk_49 _) rfl ?_
  refine Bod.ic 0 (by decide) dc_248_32 ?_
  refine Bod.virt (r := [_, _, _]) dc_248_33 kr_248_100 ⟨Or.inr rfl, ow_135, cl_9⟩ (by rw [np_135]; rfl) (by rw [np_135]; rfl) (ob_of (mk_46 _)) (Nat.le_of_ble_eq_true rfl) (c4  ) ?_
  show Bod _ _ _ _ [_, _, _, _] _ _ _
  refine Bod.virt (r := []) dc_248_36 kr_248_71 ⟨Or.inr rfl, ow_148, cl_9⟩ (by rw [np_148]; rfl) (by rw [np_148]; rfl) (ob_of (mk_46 _)) (Nat.le_of_ble_eq_true rfl) (c5  ) ?_
  show Bod _ _ _ _ [_] _ _ _
  exact Bod.retI dc_248_39 rt_248
theorem mTx_2 {d : Nat} {S Sf : cS} {v : Option Value} {S1 : cS} {u : Int64} {S2 : cS} {rb : Int32} {S3 : cS} {u1 : Int64} {S4 : cS} {rb1 : Int32} {S5 : cS} {u2 : Int64} {S6 : cS} {a : Nat} (c1 : Ans (d + 8) 132 [.ref 46, .int (nI 0)] S (some (.long u)) S1) (c2 : Ans (d + 8) 134 [.long u] S1 (some (.int rb)) S2) (w3 : rb ≠ nI 3) (c3 : Ans (d + 8) 132 [.ref 46, .int (nI 0)] S2 (some (.long u1)) S3) (c4 : Ans (d + 8) 134 [.long u1] S3 (some (.int rb1)) S4) (w6 : rb1 = nI 2) (c5 : Ans (d + 8) 135 [.ref 46, .int (nI 0)] S4 (some (.long u2)) S5) (ma : a < 2 ^ 20) (c6 : Ans (d + 8) 236 [.ref 49, .long u2] S5 (some (.int (nI a))) S6) (b1 : a ≤ 20) (b2 : (20 - a) ≤ 15) (hB : ∀ lv1 : sm_L, sm_get lv1 0 = some (.ref 49) → sm_get lv1 2 = some (.long ((3458764513820540928))) → sm_get lv1 4 = some (.long 0) → sm_get lv1 6 = some (.int (nI a)) → Bod (d + 8) 248 92 lv1 [] (S6) v Sf) : Bod (d + 8) 248 0 [(0, .ref 49)] [] S v Sf := by
  refine Bod.go dc_248_0 rfl ?_
  refine Bod.get dc_248_1 fr_248_15 (mk_49 _) rfl ?_
  refine Bod.ic 0 (by decide) dc_248_4 ?_
  refine Bod.virt (r := []) dc_248_5 kr_248_80 ⟨Or.inr rfl, ow_132, cl_9⟩ (by rw [np_132]; rfl) (by rw [np_132]; rfl) (ob_of (mk_46 _)) (Nat.le_of_ble_eq_true rfl) (c1  ) ?_
  show Bod _ _ _ _ [_] _ _ _
  refine Bod.stat (r := []) dc_248_8 kr_248_84 (Or.inr rfl) (by rw [np_134]; rfl) (by rw [np_134]; rfl) (by rw [np_134]; exact Nat.le_of_ble_eq_true rfl) (Nat.le_of_ble_eq_true rfl) (c2  ) ?_
  show Bod _ _ _ _ [_] _ _ _
  refine Bod.ic 3 (by decide) dc_248_11 ?_
  refine Bod.icT dc_248_12 rfl (c2_ne_T w3) ?_
  refine Bod.go dc_248_40 rfl ?_
  refine Bod.get dc_248_41 fr_248_15 (mk_49 _) rfl ?_
  refine Bod.ic 0 (by decide) dc_248_44 ?_
  refine Bod.virt (r := []) dc_248_45 kr_248_80 ⟨Or.inr rfl, ow_132, cl_9⟩ (by rw [np_132]; rfl) (by rw [np_132]; rfl) (ob_of (mk_46 _)) (Nat.le_of_ble_eq_true rfl) (c3  ) ?_
  show Bod _ _ _ _ [_] _ _ _
  refine Bod.stat (r := []) dc_248_48 kr_248_84 (Or.inr rfl) (by rw [np_134]; rfl) (by rw [np_134]; rfl) (by rw [np_134]; exact Nat.le_of_ble_eq_true rfl) (Nat.le_of_ble_eq_true rfl) (c4  ) ?_
  show Bod _ _ _ _ [_] _ _ _
  refine Bod.ic 2 (by decide) dc_248_51 ?_
  refine Bod.icT dc_248_52 rfl (c2_eq_T w6) ?_
  refine Bod.go dc_248_57 rfl ?_
  refine Bod.go dc_248_58 rfl ?_
  refine Bod.get dc_248_59 fr_248_15 (mk_49 _) rfl ?_
  refine Bod.ic 0 (by decide) dc_248_62 ?_
  refine Bod.virt (r := [_]) dc_248_63 kr_248_100 ⟨Or.inr rfl, ow_135, cl_9⟩ (by rw [np_135]; rfl) (by rw [np_135]; rfl) (ob_of (mk_46 _)) (Nat.le_of_ble_eq_true rfl) (c5  ) ?_
  show Bod _ _ _ _ [_, _] _ _ _
  refine Bod.virt (r := []) dc_248_66 kr_248_139 ⟨Or.inl rfl, ow_236, cl_0⟩ (by rw [np_236]; rfl) (by rw [np_236]; rfl) (ob_of (mk_49 _)) (Nat.le_of_ble_eq_true rfl) (c6  ) ?_
  show Bod _ _ _ _ [_] _ _ _
  refine Bod.istn dc_248_69 (by rw [ml_248]; exact Nat.le_of_ble_eq_true rfl) ?_
  refine Bod.bip 20 (by decide) dc_248_70 ?_
  refine Bod.go dc_248_72 rfl ?_
  refine Bod.subN (20 - a) (by omega) (by omega) dc_248_73 ?_
  refine Bod.bip 15 (by decide) dc_248_74 ?_
  refine Bod.icT dc_248_76 rfl (k2_le_T (20 - a) 15 rfl rfl (by omega) (by omega)) ?_
  refine Bod.ldc2 dc_248_82 cj_248_142 ?_
  refine Bod.lstn dc_248_85 (by rw [ml_248]; exact Nat.le_of_ble_eq_true rfl) ?_
  refine Bod.go dc_248_86 rfl ?_
  refine Bod.lst dc_248_87 (by rw [ml_248]; exact Nat.le_of_ble_eq_true rfl) ?_
  refine Bod.go dc_248_89 rfl ?_
  refine Bod.ist dc_248_90 (by rw [ml_248]; exact Nat.le_of_ble_eq_true rfl) ?_
  exact hB _ (by first | rfl | exact (by repeat (first | exact rfl | exact sm_get_p1 | exact sm_get_p2e | refine sm_get_p1m (by decide) (by decide) ?_ | refine sm_get_p1n (by decide) rfl ?_ | refine sm_get_p2n (by decide) (by decide) rfl ?_ | refine sm_get_p2m (by decide) (by decide) (by decide) ?_))) (by first | rfl | exact (by repeat (first | exact rfl | exact sm_get_p1 | exact sm_get_p2e | refine sm_get_p1m (by decide) (by decide) ?_ | refine sm_get_p1n (by decide) rfl ?_ | refine sm_get_p2n (by decide) (by decide) rfl ?_ | refine sm_get_p2m (by decide) (by decide) (by decide) ?_))) (by first | rfl | exact (by repeat (first | exact rfl | exact sm_get_p1 | exact sm_get_p2e | refine sm_get_p1m (by decide) (by decide) ?_ | refine sm_get_p1n (by decide) rfl ?_ | refine sm_get_p2n (by decide) (by decide) rfl ?_ | refine sm_get_p2m (by decide) (by decide) (by decide) ?_))) (by first | rfl | exact (by repeat (first | exact rfl | exact sm_get_p1 | exact sm_get_p2e | refine sm_get_p1m (by decide) (by decide) ?_ | refine sm_get_p1n (by decide) rfl ?_ | refine sm_get_p2n (by decide) (by decide) rfl ?_ | refine sm_get_p2m (by decide) (by decide) (by decide) ?_)))
theorem mTx_3 {d : Nat} {S : cS} {S1 : cS} {u : Int64} {S2 : cS} {rb : Int32} {S3 : cS} {u1 : Int64} {S4 : cS} {rb1 : Int32} {S5 : cS} {u2 : Int64} {S6 : cS} {a : Nat} (c1 : Ans (d + 8) 132 [.ref 46, .int (nI 0)] S (some (.long u)) S1) (c2 : Ans (d + 8) 134 [.long u] S1 (some (.int rb)) S2) (w3 : rb ≠ nI 3) (c3 : Ans (d + 8) 132 [.ref 46, .int (nI 0)] S2 (some (.long u1)) S3) (c4 : Ans (d + 8) 134 [.long u1] S3 (some (.int rb1)) S4) (w6 : rb1 = nI 2) (c5 : Ans (d + 8) 135 [.ref 46, .int (nI 0)] S4 (some (.long u2)) S5) (ma : a < 2 ^ 20) (c6 : Ans (d + 8) 236 [.ref 49, .long u2] S5 (some (.int (nI a))) S6) (b1 : a ≤ 20) (b2 : 15 < (20 - a)) : Bod (d + 8) 248 0 [(0, .ref 49)] [] S (some (.int (nI 8))) (S6) := by
  refine Bod.go dc_248_0 rfl ?_
  refine Bod.get dc_248_1 fr_248_15 (mk_49 _) rfl ?_
  refine Bod.ic 0 (by decide) dc_248_4 ?_
  refine Bod.virt (r := []) dc_248_5 kr_248_80 ⟨Or.inr rfl, ow_132, cl_9⟩ (by rw [np_132]; rfl) (by rw [np_132]; rfl) (ob_of (mk_46 _)) (Nat.le_of_ble_eq_true rfl) (c1  ) ?_
  show Bod _ _ _ _ [_] _ _ _
  refine Bod.stat (r := []) dc_248_8 kr_248_84 (Or.inr rfl) (by rw [np_134]; rfl) (by rw [np_134]; rfl) (by rw [np_134]; exact Nat.le_of_ble_eq_true rfl) (Nat.le_of_ble_eq_true rfl) (c2  ) ?_
  show Bod _ _ _ _ [_] _ _ _
  refine Bod.ic 3 (by decide) dc_248_11 ?_
  refine Bod.icT dc_248_12 rfl (c2_ne_T w3) ?_
  refine Bod.go dc_248_40 rfl ?_
  refine Bod.get dc_248_41 fr_248_15 (mk_49 _) rfl ?_
  refine Bod.ic 0 (by decide) dc_248_44 ?_
  refine Bod.virt (r := []) dc_248_45 kr_248_80 ⟨Or.inr rfl, ow_132, cl_9⟩ (by rw [np_132]; rfl) (by rw [np_132]; rfl) (ob_of (mk_46 _)) (Nat.le_of_ble_eq_true rfl) (c3  ) ?_
  show Bod _ _ _ _ [_] _ _ _
  refine Bod.stat (r := []) dc_248_48 kr_248_84 (Or.inr rfl) (by rw [np_134]; rfl) (by rw [np_134]; rfl) (by rw [np_134]; exact Nat.le_of_ble_eq_true rfl) (Nat.le_of_ble_eq_true rfl) (c4  ) ?_
  show Bod _ _ _ _ [_] _ _ _
  refine Bod.ic 2 (by decide) dc_248_51 ?_
  refine Bod.icT dc_248_52 rfl (c2_eq_T w6) ?_
  refine Bod.go dc_248_57 rfl ?_
  refine Bod.go dc_248_58 rfl ?_
  refine Bod.get dc_248_59 fr_248_15 (mk_49 _) rfl ?_
  refine Bod.ic 0 (by decide) dc_248_62 ?_
  refine Bod.virt (r := [_]) dc_248_63 kr_248_100 ⟨Or.inr rfl, ow_135, cl_9⟩ (by rw [np_135]; rfl) (by rw [np_135]; rfl) (ob_of (mk_46 _)) (Nat.le_of_ble_eq_true rfl) (c5  ) ?_
  show Bod _ _ _ _ [_, _] _ _ _
  refine Bod.virt (r := []) dc_248_66 kr_248_139 ⟨Or.inl rfl, ow_236, cl_0⟩ (by rw [np_236]; rfl) (by rw [np_236]; rfl) (ob_of (mk_49 _)) (Nat.le_of_ble_eq_true rfl) (c6  ) ?_
  show Bod _ _ _ _ [_] _ _ _
  refine Bod.istn dc_248_69 (by rw [ml_248]; exact Nat.le_of_ble_eq_true rfl) ?_
  refine Bod.bip 20 (by decide) dc_248_70 ?_
  refine Bod.go dc_248_72 rfl ?_
  refine Bod.subN (20 - a) (by omega) (by omega) dc_248_73 ?_
  refine Bod.bip 15 (by decide) dc_248_74 ?_
  refine Bod.icF dc_248_76 rfl (k2_le_F (20 - a) 15 rfl rfl (by omega) (by omega)) ?_
  refine Bod.bip 8 (by decide) dc_248_79 ?_
  exact Bod.retI dc_248_81 rt_248
theorem mTx_4 {d : Nat} {S : cS} {S1 : cS} {u : Int64} {S2 : cS} {rb : Int32} {S3 : cS} {u1 : Int64} {S4 : cS} {rb1 : Int32} (c1 : Ans (d + 8) 132 [.ref 46, .int (nI 0)] S (some (.long u)) S1) (c2 : Ans (d + 8) 134 [.long u] S1 (some (.int rb)) S2) (w3 : rb ≠ nI 3) (c3 : Ans (d + 8) 132 [.ref 46, .int (nI 0)] S2 (some (.long u1)) S3) (c4 : Ans (d + 8) 134 [.long u1] S3 (some (.int rb1)) S4) (w6 : rb1 ≠ nI 2) : Bod (d + 8) 248 0 [(0, .ref 49)] [] S (some (.int (nI 2))) (S4) := by
  refine Bod.go dc_248_0 rfl ?_
  refine Bod.get dc_248_1 fr_248_15 (mk_49 _) rfl ?_
  refine Bod.ic 0 (by decide) dc_248_4 ?_
  refine Bod.virt (r := []) dc_248_5 kr_248_80 ⟨Or.inr rfl, ow_132, cl_9⟩ (by rw [np_132]; rfl) (by rw [np_132]; rfl) (ob_of (mk_46 _)) (Nat.le_of_ble_eq_true rfl) (c1  ) ?_
  show Bod _ _ _ _ [_] _ _ _
  refine Bod.stat (r := []) dc_248_8 kr_248_84 (Or.inr rfl) (by rw [np_134]; rfl) (by rw [np_134]; rfl) (by rw [np_134]; exact Nat.le_of_ble_eq_true rfl) (Nat.le_of_ble_eq_true rfl) (c2  ) ?_
  show Bod _ _ _ _ [_] _ _ _
  refine Bod.ic 3 (by decide) dc_248_11 ?_
  refine Bod.icT dc_248_12 rfl (c2_ne_T w3) ?_
  refine Bod.go dc_248_40 rfl ?_
  refine Bod.get dc_248_41 fr_248_15 (mk_49 _) rfl ?_
  refine Bod.ic 0 (by decide) dc_248_44 ?_
  refine Bod.virt (r := []) dc_248_45 kr_248_80 ⟨Or.inr rfl, ow_132, cl_9⟩ (by rw [np_132]; rfl) (by rw [np_132]; rfl) (ob_of (mk_46 _)) (Nat.le_of_ble_eq_true rfl) (c3  ) ?_
  show Bod _ _ _ _ [_] _ _ _
  refine Bod.stat (r := []) dc_248_48 kr_248_84 (Or.inr rfl) (by rw [np_134]; rfl) (by rw [np_134]; rfl) (by rw [np_134]; exact Nat.le_of_ble_eq_true rfl) (Nat.le_of_ble_eq_true rfl) (c4  ) ?_
  show Bod _ _ _ _ [_] _ _ _
  refine Bod.ic 2 (by decide) dc_248_51 ?_
  refine Bod.icF dc_248_52 rfl (c2_eq_F w6) ?_
  refine Bod.ic 2 (by decide) dc_248_55 ?_
  exact Bod.retI dc_248_56 rt_248
theorem mTxL_1 {d : Nat} {S : cS} {lv : sm_L} {xh : Int64} {xl : Int64} {ni : Nat} {S1 : cS} {rb : Int32} (q0 : sm_get lv 0 = some (.ref 49)) (q2 : sm_get lv 2 = some (.long xh)) (q4 : sm_get lv 4 = some (.long xl)) (q6 : sm_get lv 6 = some (.int (nI ni))) (mni : ni < 2 ^ 20) (b1 : 20 ≤ ni) (c1 : Ans (d + 8) 148 [.ref 46, .int (nI 2), .long xh, .long xl] S (some (.int rb)) S1) : Bod (d + 8) 248 92 lv [] S (some (.int rb)) (S1) := by
  refine Bod.ildG dc_248_92 (by repeat (first | exact q6 | exact sm_get_p1 | exact sm_get_p2e | refine sm_get_p1m (by decide) (by decide) ?_ | refine sm_get_p1n (by decide) rfl ?_ | refine sm_get_p2n (by decide) (by decide) rfl ?_ | refine sm_get_p2m (by decide) (by decide) (by decide) ?_)) ?_
  refine Bod.ifF dc_248_94 rfl (k1_lt_F ni rfl (by omega)) ?_
  refine Bod.ildG dc_248_97 (by repeat (first | exact q6 | exact sm_get_p1 | exact sm_get_p2e | refine sm_get_p1m (by decide) (by decide) ?_ | refine sm_get_p1n (by decide) rfl ?_ | refine sm_get_p2n (by decide) (by decide) rfl ?_ | refine sm_get_p2m (by decide) (by decide) (by decide) ?_)) ?_
  refine Bod.bip 20 (by decide) dc_248_99 ?_
  refine Bod.icT dc_248_101 rfl (k2_ge_T ni 20 rfl rfl (by omega) (by omega)) ?_
  refine Bod.aldnG dc_248_137 (by repeat (first | exact q0 | exact sm_get_p1 | exact sm_get_p2e | refine sm_get_p1m (by decide) (by decide) ?_ | refine sm_get_p1n (by decide) rfl ?_ | refine sm_get_p2n (by decide) (by decide) rfl ?_ | refine sm_get_p2m (by decide) (by decide) (by decide) ?_)) ?_
  refine Bod.get dc_248_138 fr_248_15 (mk_49 _) rfl ?_
  refine Bod.ic 2 (by decide) dc_248_141 ?_
  refine Bod.lldnG dc_248_142 (by repeat (first | exact q2 | exact sm_get_p1 | exact sm_get_p2e | refine sm_get_p1m (by decide) (by decide) ?_ | refine sm_get_p1n (by decide) rfl ?_ | refine sm_get_p2n (by decide) (by decide) rfl ?_ | refine sm_get_p2m (by decide) (by decide) (by decide) ?_)) ?_
  refine Bod.lldG dc_248_143 (by repeat (first | exact q4 | exact sm_get_p1 | exact sm_get_p2e | refine sm_get_p1m (by decide) (by decide) ?_ | refine sm_get_p1n (by decide) rfl ?_ | refine sm_get_p2n (by decide) (by decide) rfl ?_ | refine sm_get_p2m (by decide) (by decide) (by decide) ?_)) ?_
  refine Bod.virt (r := []) dc_248_145 kr_248_71 ⟨Or.inr rfl, ow_148, cl_9⟩ (by rw [np_148]; rfl) (by rw [np_148]; rfl) (ob_of (mk_46 _)) (Nat.le_of_ble_eq_true rfl) (c1  ) ?_
  show Bod _ _ _ _ [_] _ _ _
  exact Bod.retI dc_248_148 rt_248
theorem mTxL_2 {d : Nat} {S Sf : cS} {v : Option Value} {lv : sm_L} {xh : Int64} {xl : Int64} {ni : Nat} {S1 : cS} {u : Int64} {S2 : cS} {u1 : Int64} (q0 : sm_get lv 0 = some (.ref 49)) (q2 : sm_get lv 2 = some (.long xh)) (q4 : sm_get lv 4 = some (.long xl)) (q6 : sm_get lv 6 = some (.int (nI ni))) (mni : ni < 2 ^ 20) (b1 : ni < 20) (c1 : Ans (d + 8) 16 [.long xh, .long xl, .int (sA S 51 ni)] S (some (.long u)) S1) (c2 : Ans (d + 8) 17 [.long xh, .int (sA S1 51 ni)] S1 (some (.long u1)) S2) (hB : ∀ lv1 : sm_L, sm_get lv1 0 = some (.ref 49) → sm_get lv1 2 = some (.long u1) → sm_get lv1 4 = some (.long u) → sm_get lv1 6 = some (.int (nI (ni + 1))) → Bod (d + 8) 248 92 lv1 [] (S2) v Sf) : Bod (d + 8) 248 92 lv [] S v Sf := by
  refine Bod.ildG dc_248_92 (by repeat (first | exact q6 | exact sm_get_p1 | exact sm_get_p2e | refine sm_get_p1m (by decide) (by decide) ?_ | refine sm_get_p1n (by decide) rfl ?_ | refine sm_get_p2n (by decide) (by decide) rfl ?_ | refine sm_get_p2m (by decide) (by decide) (by decide) ?_)) ?_
  refine Bod.ifF dc_248_94 rfl (k1_lt_F ni rfl (by omega)) ?_
  refine Bod.ildG dc_248_97 (by repeat (first | exact q6 | exact sm_get_p1 | exact sm_get_p2e | refine sm_get_p1m (by decide) (by decide) ?_ | refine sm_get_p1n (by decide) rfl ?_ | refine sm_get_p2n (by decide) (by decide) rfl ?_ | refine sm_get_p2m (by decide) (by decide) (by decide) ?_)) ?_
  refine Bod.bip 20 (by decide) dc_248_99 ?_
  refine Bod.icF dc_248_101 rfl (k2_ge_F ni 20 rfl rfl (by omega) (by omega)) ?_
  refine Bod.lldnG dc_248_104 (by repeat (first | exact q2 | exact sm_get_p1 | exact sm_get_p2e | refine sm_get_p1m (by decide) (by decide) ?_ | refine sm_get_p1n (by decide) rfl ?_ | refine sm_get_p2n (by decide) (by decide) rfl ?_ | refine sm_get_p2m (by decide) (by decide) (by decide) ?_)) ?_
  refine Bod.lldG dc_248_105 (by repeat (first | exact q4 | exact sm_get_p1 | exact sm_get_p2e | refine sm_get_p1m (by decide) (by decide) ?_ | refine sm_get_p1n (by decide) rfl ?_ | refine sm_get_p2n (by decide) (by decide) rfl ?_ | refine sm_get_p2m (by decide) (by decide) (by decide) ?_)) ?_
  refine Bod.aldnG dc_248_107 (by repeat (first | exact q0 | exact sm_get_p1 | exact sm_get_p2e | refine sm_get_p1m (by decide) (by decide) ?_ | refine sm_get_p1n (by decide) rfl ?_ | refine sm_get_p2n (by decide) (by decide) rfl ?_ | refine sm_get_p2m (by decide) (by decide) (by decide) ?_)) ?_
  refine Bod.get dc_248_108 fr_248_31 (mk_49 _) rfl ?_
  refine Bod.ildG dc_248_111 (by repeat (first | exact q6 | exact sm_get_p1 | exact sm_get_p2e | refine sm_get_p1m (by decide) (by decide) ?_ | refine sm_get_p1n (by decide) rfl ?_ | refine sm_get_p2n (by decide) (by decide) rfl ?_ | refine sm_get_p2m (by decide) (by decide) (by decide) ?_)) ?_
  refine Bod.baldN ni rfl (by omega) (by omega) dc_248_113 (mk_51 _) (Or.inl rfl) ?_
  refine Bod.stat (r := []) dc_248_114 kr_248_144 (Or.inr rfl) (by rw [np_16]; rfl) (by rw [np_16]; rfl) (by rw [np_16]; exact Nat.le_of_ble_eq_true rfl) (Nat.le_of_ble_eq_true rfl) (c1  ) ?_
  show Bod _ _ _ _ [_] _ _ _
  refine Bod.lst dc_248_117 (by rw [ml_248]; exact Nat.le_of_ble_eq_true rfl) ?_
  refine Bod.lldnG dc_248_119 (by repeat (first | exact q2 | exact sm_get_p1 | exact sm_get_p2e | refine sm_get_p1m (by decide) (by decide) ?_ | refine sm_get_p1n (by decide) rfl ?_ | refine sm_get_p2n (by decide) (by decide) rfl ?_ | refine sm_get_p2m (by decide) (by decide) (by decide) ?_)) ?_
  refine Bod.aldnG dc_248_120 (by repeat (first | exact q0 | exact sm_get_p1 | exact sm_get_p2e | refine sm_get_p1m (by decide) (by decide) ?_ | refine sm_get_p1n (by decide) rfl ?_ | refine sm_get_p2n (by decide) (by decide) rfl ?_ | refine sm_get_p2m (by decide) (by decide) (by decide) ?_)) ?_
  refine Bod.get dc_248_121 fr_248_31 (mk_49 _) rfl ?_
  refine Bod.ildG dc_248_124 (by repeat (first | exact q6 | exact sm_get_p1 | exact sm_get_p2e | refine sm_get_p1m (by decide) (by decide) ?_ | refine sm_get_p1n (by decide) rfl ?_ | refine sm_get_p2n (by decide) (by decide) rfl ?_ | refine sm_get_p2m (by decide) (by decide) (by decide) ?_)) ?_
  refine Bod.baldN ni rfl (by omega) (by omega) dc_248_126 (mk_51 _) (Or.inl rfl) ?_
  refine Bod.stat (r := []) dc_248_127 kr_248_148 (Or.inr rfl) (by rw [np_17]; rfl) (by rw [np_17]; rfl) (by rw [np_17]; exact Nat.le_of_ble_eq_true rfl) (Nat.le_of_ble_eq_true rfl) (c2  ) ?_
  show Bod _ _ _ _ [_] _ _ _
  refine Bod.lstn dc_248_130 (by rw [ml_248]; exact Nat.le_of_ble_eq_true rfl) ?_
  refine Bod.incN (ni + 1) (by rw [kc_1, nI_add]) dc_248_131 (by rw [ml_248]; exact Nat.le_of_ble_eq_true rfl) (by repeat (first | exact q6 | exact sm_get_p1 | exact sm_get_p2e | refine sm_get_p1m (by decide) (by decide) ?_ | refine sm_get_p1n (by decide) rfl ?_ | refine sm_get_p2n (by decide) (by decide) rfl ?_ | refine sm_get_p2m (by decide) (by decide) (by decide) ?_)) ?_
  refine Bod.go dc_248_134 rfl ?_
  exact hB _ (by repeat (first | exact q0 | exact sm_get_p1 | exact sm_get_p2e | refine sm_get_p1m (by decide) (by decide) ?_ | refine sm_get_p1n (by decide) rfl ?_ | refine sm_get_p2n (by decide) (by decide) rfl ?_ | refine sm_get_p2m (by decide) (by decide) (by decide) ?_)) (by repeat (first | exact q0 | exact sm_get_p1 | exact sm_get_p2e | refine sm_get_p1m (by decide) (by decide) ?_ | refine sm_get_p1n (by decide) rfl ?_ | refine sm_get_p2n (by decide) (by decide) rfl ?_ | refine sm_get_p2m (by decide) (by decide) (by decide) ?_)) (by repeat (first | exact q0 | exact sm_get_p1 | exact sm_get_p2e | refine sm_get_p1m (by decide) (by decide) ?_ | refine sm_get_p1n (by decide) rfl ?_ | refine sm_get_p2n (by decide) (by decide) rfl ?_ | refine sm_get_p2m (by decide) (by decide) (by decide) ?_)) (by repeat (first | exact q0 | exact sm_get_p1 | exact sm_get_p2e | refine sm_get_p1m (by decide) (by decide) ?_ | refine sm_get_p1n (by decide) rfl ?_ | refine sm_get_p2n (by decide) (by decide) rfl ?_ | refine sm_get_p2m (by decide) (by decide) (by decide) ?_))
