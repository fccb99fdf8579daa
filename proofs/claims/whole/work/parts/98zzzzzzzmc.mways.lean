/-! WAYS of the class's machine: every call is a hypothesis -/
theorem ml_189 : sm_ml 189 = 2 := by decide +kernel
theorem dc_189_0 : decode (sm_cc 189) 0 = .ok (.iload_n 1, 1) := by decide +kernel
theorem dc_189_1 : decode (sm_cc 189) 1 = .ok (.tableswitch (311) 25 43 #[91, 119, 124, 159, 164, 169, 174, 179, 203, 311, 311, 311, 311, 227, 232, 261, 290, 298, 306], 91) := by decide +kernel
theorem dc_189_92 : decode (sm_cc 189) 92 = .ok (.aload_n 0, 1) := by decide +kernel
theorem dc_189_93 : decode (sm_cc 189) 93 = .ok (.getfield 15, 3) := by decide +kernel
theorem fr_189_15 : sm_at mt_f (sm_ow 189) 15 = some (15, 6, 1, 0, 827) := by decide +kernel
theorem dc_189_96 : decode (sm_cc 189) 96 = .ok (.iconst 1, 1) := by decide +kernel
theorem dc_189_97 : decode (sm_cc 189) 97 = .ok (.ldc2_w 23, 3) := by decide +kernel
theorem cj_189_23 : sm_at mt_cj (sm_ow 189) 23 = some (23, (2305843009213693952), 1619) := by decide +kernel
theorem dc_189_100 : decode (sm_cc 189) 100 = .ok (.aload_n 0, 1) := by decide +kernel
theorem dc_189_101 : decode (sm_cc 189) 101 = .ok (.getfield 15, 3) := by decide +kernel
theorem dc_189_104 : decode (sm_cc 189) 104 = .ok (.iconst 0, 1) := by decide +kernel
theorem dc_189_105 : decode (sm_cc 189) 105 = .ok (.invokevirtual 25, 3) := by decide +kernel
theorem kr_189_25 : sm_at mt_k (sm_ow 189) 25 = some (25, 1, 131, 1, 1620) := by decide +kernel
theorem dc_189_108 : decode (sm_cc 189) 108 = .ok (.ifCond .eq (7), 3) := by decide +kernel
theorem dc_189_111 : decode (sm_cc 189) 111 = .ok (.lconst 0, 1) := by decide +kernel
theorem dc_189_112 : decode (sm_cc 189) 112 = .ok (.goto (4), 3) := by decide +kernel
theorem dc_189_116 : decode (sm_cc 189) 116 = .ok (.invokevirtual 31, 3) := by decide +kernel
theorem kr_189_31 : sm_at mt_k (sm_ow 189) 31 = some (31, 1, 148, 1, 1621) := by decide +kernel
theorem dc_189_119 : decode (sm_cc 189) 119 = .ok (.ireturn, 1) := by decide +kernel
theorem rt_189 : sm_rt 189 = some .int := by decide +kernel
theorem dc_189_115 : decode (sm_cc 189) 115 = .ok (.lconst 1, 1) := by decide +kernel
theorem dc_189_120 : decode (sm_cc 189) 120 = .ok (.aload_n 0, 1) := by decide +kernel
theorem dc_189_121 : decode (sm_cc 189) 121 = .ok (.invokevirtual 35, 3) := by decide +kernel
theorem ow_190 : 6 = sm_ow 190 := by decide +kernel
theorem cl_6 : 6 < mt_cl.length := by decide +kernel
theorem kr_189_35 : sm_at mt_k (sm_ow 189) 35 = some (35, 0, 190, 0, 1622) := by decide +kernel
theorem np_190 : sm_np 190 = 0 := by decide +kernel
theorem dc_189_124 : decode (sm_cc 189) 124 = .ok (.ireturn, 1) := by decide +kernel
theorem dc_189_125 : decode (sm_cc 189) 125 = .ok (.aload_n 0, 1) := by decide +kernel
theorem dc_189_126 : decode (sm_cc 189) 126 = .ok (.iconst 3, 1) := by decide +kernel
theorem dc_189_127 : decode (sm_cc 189) 127 = .ok (.invokevirtual 39, 3) := by decide +kernel
theorem ow_191 : 6 = sm_ow 191 := by decide +kernel
theorem kr_189_39 : sm_at mt_k (sm_ow 189) 39 = some (39, 0, 191, 0, 1630) := by decide +kernel
theorem np_191 : sm_np 191 = 1 := by decide +kernel
theorem dc_189_130 : decode (sm_cc 189) 130 = .ok (.ifCond .eq (10), 3) := by decide +kernel
theorem dc_189_133 : decode (sm_cc 189) 133 = .ok (.aload_n 0, 1) := by decide +kernel
theorem dc_189_134 : decode (sm_cc 189) 134 = .ok (.invokevirtual 42, 3) := by decide +kernel
theorem ow_192 : 6 = sm_ow 192 := by decide +kernel
theorem kr_189_42 : sm_at mt_k (sm_ow 189) 42 = some (42, 0, 192, 0, 1634) := by decide +kernel
theorem np_192 : sm_np 192 = 0 := by decide +kernel
theorem dc_189_137 : decode (sm_cc 189) 137 = .ok (.goto (22), 3) := by decide +kernel
theorem dc_189_159 : decode (sm_cc 189) 159 = .ok (.ireturn, 1) := by decide +kernel
theorem dc_189_140 : decode (sm_cc 189) 140 = .ok (.aload_n 0, 1) := by decide +kernel
theorem dc_189_141 : decode (sm_cc 189) 141 = .ok (.iconst 4, 1) := by decide +kernel
theorem dc_189_142 : decode (sm_cc 189) 142 = .ok (.invokevirtual 39, 3) := by decide +kernel
theorem dc_189_145 : decode (sm_cc 189) 145 = .ok (.ifCond .eq (10), 3) := by decide +kernel
theorem dc_189_148 : decode (sm_cc 189) 148 = .ok (.aload_n 0, 1) := by decide +kernel
theorem dc_189_149 : decode (sm_cc 189) 149 = .ok (.invokevirtual 45, 3) := by decide +kernel
theorem ow_194 : 6 = sm_ow 194 := by decide +kernel
theorem kr_189_45 : sm_at mt_k (sm_ow 189) 45 = some (45, 0, 194, 0, 1644) := by decide +kernel
theorem np_194 : sm_np 194 = 0 := by decide +kernel
theorem dc_189_152 : decode (sm_cc 189) 152 = .ok (.goto (7), 3) := by decide +kernel
theorem dc_189_155 : decode (sm_cc 189) 155 = .ok (.aload_n 0, 1) := by decide +kernel
theorem dc_189_156 : decode (sm_cc 189) 156 = .ok (.invokevirtual 48, 3) := by decide +kernel
theorem ow_196 : 6 = sm_ow 196 := by decide +kernel
theorem kr_189_48 : sm_at mt_k (sm_ow 189) 48 = some (48, 0, 196, 0, 1660) := by decide +kernel
theorem np_196 : sm_np 196 = 0 := by decide +kernel
theorem dc_189_160 : decode (sm_cc 189) 160 = .ok (.aload_n 0, 1) := by decide +kernel
theorem dc_189_161 : decode (sm_cc 189) 161 = .ok (.invokevirtual 51, 3) := by decide +kernel
theorem ow_197 : 6 = sm_ow 197 := by decide +kernel
theorem kr_189_51 : sm_at mt_k (sm_ow 189) 51 = some (51, 0, 197, 0, 1664) := by decide +kernel
theorem np_197 : sm_np 197 = 0 := by decide +kernel
theorem dc_189_164 : decode (sm_cc 189) 164 = .ok (.ireturn, 1) := by decide +kernel
theorem dc_189_165 : decode (sm_cc 189) 165 = .ok (.aload_n 0, 1) := by decide +kernel
theorem dc_189_166 : decode (sm_cc 189) 166 = .ok (.invokevirtual 54, 3) := by decide +kernel
theorem ow_198 : 6 = sm_ow 198 := by decide +kernel
theorem kr_189_54 : sm_at mt_k (sm_ow 189) 54 = some (54, 0, 198, 0, 1668) := by decide +kernel
theorem np_198 : sm_np 198 = 0 := by decide +kernel
theorem dc_189_169 : decode (sm_cc 189) 169 = .ok (.ireturn, 1) := by decide +kernel
theorem dc_189_170 : decode (sm_cc 189) 170 = .ok (.aload_n 0, 1) := by decide +kernel
theorem dc_189_171 : decode (sm_cc 189) 171 = .ok (.invokevirtual 57, 3) := by decide +kernel
theorem ow_199 : 6 = sm_ow 199 := by decide +kernel
theorem kr_189_57 : sm_at mt_k (sm_ow 189) 57 = some (57, 0, 199, 0, 1673) := by decide +kernel
theorem np_199 : sm_np 199 = 0 := by decide +kernel
theorem dc_189_174 : decode (sm_cc 189) 174 = .ok (.ireturn, 1) := by decide +kernel
theorem dc_189_175 : decode (sm_cc 189) 175 = .ok (.aload_n 0, 1) := by decide +kernel
theorem dc_189_176 : decode (sm_cc 189) 176 = .ok (.invokevirtual 60, 3) := by decide +kernel
theorem ow_201 : 6 = sm_ow 201 := by decide +kernel
theorem kr_189_60 : sm_at mt_k (sm_ow 189) 60 = some (60, 0, 201, 0, 1680) := by decide +kernel
theorem np_201 : sm_np 201 = 0 := by decide +kernel
theorem dc_189_179 : decode (sm_cc 189) 179 = .ok (.ireturn, 1) := by decide +kernel
theorem dc_189_180 : decode (sm_cc 189) 180 = .ok (.aload_n 0, 1) := by decide +kernel
theorem dc_189_181 : decode (sm_cc 189) 181 = .ok (.getfield 15, 3) := by decide +kernel
theorem dc_189_184 : decode (sm_cc 189) 184 = .ok (.iconst 2, 1) := by decide +kernel
theorem dc_189_185 : decode (sm_cc 189) 185 = .ok (.ldc2_w 23, 3) := by decide +kernel
theorem dc_189_188 : decode (sm_cc 189) 188 = .ok (.aload_n 0, 1) := by decide +kernel
theorem dc_189_189 : decode (sm_cc 189) 189 = .ok (.invokevirtual 63, 3) := by decide +kernel
theorem ow_203 : 6 = sm_ow 203 := by decide +kernel
theorem kr_189_63 : sm_at mt_k (sm_ow 189) 63 = some (63, 0, 203, 0, 1687) := by decide +kernel
theorem np_203 : sm_np 203 = 0 := by decide +kernel
theorem dc_189_192 : decode (sm_cc 189) 192 = .ok (.ifCond .eq (7), 3) := by decide +kernel
theorem dc_189_195 : decode (sm_cc 189) 195 = .ok (.lconst 1, 1) := by decide +kernel
theorem dc_189_196 : decode (sm_cc 189) 196 = .ok (.goto (4), 3) := by decide +kernel
theorem dc_189_200 : decode (sm_cc 189) 200 = .ok (.invokevirtual 31, 3) := by decide +kernel
theorem dc_189_203 : decode (sm_cc 189) 203 = .ok (.ireturn, 1) := by decide +kernel
theorem dc_189_199 : decode (sm_cc 189) 199 = .ok (.lconst 0, 1) := by decide +kernel
theorem dc_189_204 : decode (sm_cc 189) 204 = .ok (.aload_n 0, 1) := by decide +kernel
theorem dc_189_205 : decode (sm_cc 189) 205 = .ok (.getfield 15, 3) := by decide +kernel
theorem dc_189_208 : decode (sm_cc 189) 208 = .ok (.iconst 2, 1) := by decide +kernel
theorem dc_189_209 : decode (sm_cc 189) 209 = .ok (.ldc2_w 23, 3) := by decide +kernel
theorem dc_189_212 : decode (sm_cc 189) 212 = .ok (.aload_n 0, 1) := by decide +kernel
theorem dc_189_213 : decode (sm_cc 189) 213 = .ok (.invokevirtual 63, 3) := by decide +kernel
theorem dc_189_216 : decode (sm_cc 189) 216 = .ok (.ifCond .eq (7), 3) := by decide +kernel
theorem dc_189_219 : decode (sm_cc 189) 219 = .ok (.lconst 0, 1) := by decide +kernel
theorem dc_189_220 : decode (sm_cc 189) 220 = .ok (.goto (4), 3) := by decide +kernel
theorem dc_189_224 : decode (sm_cc 189) 224 = .ok (.invokevirtual 31, 3) := by decide +kernel
theorem dc_189_227 : decode (sm_cc 189) 227 = .ok (.ireturn, 1) := by decide +kernel
theorem dc_189_223 : decode (sm_cc 189) 223 = .ok (.lconst 1, 1) := by decide +kernel
theorem dc_189_228 : decode (sm_cc 189) 228 = .ok (.aload_n 0, 1) := by decide +kernel
theorem dc_189_229 : decode (sm_cc 189) 229 = .ok (.invokevirtual 67, 3) := by decide +kernel
theorem ow_204 : 6 = sm_ow 204 := by decide +kernel
theorem kr_189_67 : sm_at mt_k (sm_ow 189) 67 = some (67, 0, 204, 0, 1691) := by decide +kernel
theorem np_204 : sm_np 204 = 0 := by decide +kernel
theorem dc_189_232 : decode (sm_cc 189) 232 = .ok (.ireturn, 1) := by decide +kernel
theorem dc_189_233 : decode (sm_cc 189) 233 = .ok (.aload_n 0, 1) := by decide +kernel
theorem dc_189_234 : decode (sm_cc 189) 234 = .ok (.getfield 15, 3) := by decide +kernel
theorem dc_189_237 : decode (sm_cc 189) 237 = .ok (.iconst 1, 1) := by decide +kernel
theorem dc_189_238 : decode (sm_cc 189) 238 = .ok (.invokevirtual 70, 3) := by decide +kernel
theorem kr_189_70 : sm_at mt_k (sm_ow 189) 70 = some (70, 1, 132, 1, 1627) := by decide +kernel
theorem dc_189_241 : decode (sm_cc 189) 241 = .ok (.invokestatic 74, 3) := by decide +kernel
theorem kr_189_74 : sm_at mt_k (sm_ow 189) 74 = some (74, 3, 134, 1, 1628) := by decide +kernel
theorem dc_189_244 : decode (sm_cc 189) 244 = .ok (.iconst 3, 1) := by decide +kernel
theorem dc_189_245 : decode (sm_cc 189) 245 = .ok (.if_icmp .ne (11), 3) := by decide +kernel
theorem dc_189_248 : decode (sm_cc 189) 248 = .ok (.aload_n 0, 1) := by decide +kernel
theorem dc_189_249 : decode (sm_cc 189) 249 = .ok (.iconst 2, 1) := by decide +kernel
theorem dc_189_250 : decode (sm_cc 189) 250 = .ok (.invokevirtual 78, 3) := by decide +kernel
theorem ow_207 : 6 = sm_ow 207 := by decide +kernel
theorem kr_189_78 : sm_at mt_k (sm_ow 189) 78 = some (78, 0, 207, 0, 1707) := by decide +kernel
theorem np_207 : sm_np 207 = 1 := by decide +kernel
theorem dc_189_253 : decode (sm_cc 189) 253 = .ok (.goto (8), 3) := by decide +kernel
theorem dc_189_261 : decode (sm_cc 189) 261 = .ok (.ireturn, 1) := by decide +kernel
theorem dc_189_256 : decode (sm_cc 189) 256 = .ok (.aload_n 0, 1) := by decide +kernel
theorem dc_189_257 : decode (sm_cc 189) 257 = .ok (.iconst 2, 1) := by decide +kernel
theorem dc_189_258 : decode (sm_cc 189) 258 = .ok (.invokevirtual 82, 3) := by decide +kernel
theorem ow_209 : 6 = sm_ow 209 := by decide +kernel
theorem kr_189_82 : sm_at mt_k (sm_ow 189) 82 = some (82, 0, 209, 0, 1715) := by decide +kernel
theorem np_209 : sm_np 209 = 1 := by decide +kernel
theorem dc_189_262 : decode (sm_cc 189) 262 = .ok (.aload_n 0, 1) := by decide +kernel
theorem dc_189_263 : decode (sm_cc 189) 263 = .ok (.getfield 15, 3) := by decide +kernel
theorem dc_189_266 : decode (sm_cc 189) 266 = .ok (.iconst 1, 1) := by decide +kernel
theorem dc_189_267 : decode (sm_cc 189) 267 = .ok (.invokevirtual 70, 3) := by decide +kernel
theorem dc_189_270 : decode (sm_cc 189) 270 = .ok (.invokestatic 74, 3) := by decide +kernel
theorem dc_189_273 : decode (sm_cc 189) 273 = .ok (.iconst 3, 1) := by decide +kernel
theorem dc_189_274 : decode (sm_cc 189) 274 = .ok (.if_icmp .ne (11), 3) := by decide +kernel
theorem dc_189_277 : decode (sm_cc 189) 277 = .ok (.aload_n 0, 1) := by decide +kernel
theorem dc_189_278 : decode (sm_cc 189) 278 = .ok (.iconst 0, 1) := by decide +kernel
theorem dc_189_279 : decode (sm_cc 189) 279 = .ok (.invokevirtual 78, 3) := by decide +kernel
theorem dc_189_282 : decode (sm_cc 189) 282 = .ok (.goto (8), 3) := by decide +kernel
theorem dc_189_290 : decode (sm_cc 189) 290 = .ok (.ireturn, 1) := by decide +kernel
theorem dc_189_285 : decode (sm_cc 189) 285 = .ok (.aload_n 0, 1) := by decide +kernel
theorem dc_189_286 : decode (sm_cc 189) 286 = .ok (.iconst 0, 1) := by decide +kernel
theorem dc_189_287 : decode (sm_cc 189) 287 = .ok (.invokevirtual 82, 3) := by decide +kernel
theorem dc_189_291 : decode (sm_cc 189) 291 = .ok (.aload_n 0, 1) := by decide +kernel
theorem dc_189_292 : decode (sm_cc 189) 292 = .ok (.iconst 1, 1) := by decide +kernel
theorem dc_189_293 : decode (sm_cc 189) 293 = .ok (.iconst 0, 1) := by decide +kernel
theorem dc_189_294 : decode (sm_cc 189) 294 = .ok (.iconst 2, 1) := by decide +kernel
theorem dc_189_295 : decode (sm_cc 189) 295 = .ok (.invokevirtual 85, 3) := by decide +kernel
theorem ow_211 : 6 = sm_ow 211 := by decide +kernel
theorem kr_189_85 : sm_at mt_k (sm_ow 189) 85 = some (85, 0, 211, 0, 1723) := by decide +kernel
theorem np_211 : sm_np 211 = 3 := by decide +kernel
theorem dc_189_298 : decode (sm_cc 189) 298 = .ok (.ireturn, 1) := by decide +kernel
theorem dc_189_299 : decode (sm_cc 189) 299 = .ok (.aload_n 0, 1) := by decide +kernel
theorem dc_189_300 : decode (sm_cc 189) 300 = .ok (.iconst 2, 1) := by decide +kernel
theorem dc_189_301 : decode (sm_cc 189) 301 = .ok (.iconst 1, 1) := by decide +kernel
theorem dc_189_302 : decode (sm_cc 189) 302 = .ok (.iconst 0, 1) := by decide +kernel
theorem dc_189_303 : decode (sm_cc 189) 303 = .ok (.invokevirtual 85, 3) := by decide +kernel
theorem dc_189_306 : decode (sm_cc 189) 306 = .ok (.ireturn, 1) := by decide +kernel
theorem dc_189_307 : decode (sm_cc 189) 307 = .ok (.aload_n 0, 1) := by decide +kernel
theorem dc_189_308 : decode (sm_cc 189) 308 = .ok (.invokevirtual 89, 3) := by decide +kernel
theorem ow_212 : 6 = sm_ow 212 := by decide +kernel
theorem kr_189_89 : sm_at mt_k (sm_ow 189) 89 = some (89, 0, 212, 0, 1730) := by decide +kernel
theorem np_212 : sm_np 212 = 0 := by decide +kernel
theorem dc_189_311 : decode (sm_cc 189) 311 = .ok (.ireturn, 1) := by decide +kernel
theorem dc_189_312 : decode (sm_cc 189) 312 = .ok (.aload_n 0, 1) := by decide +kernel
theorem dc_189_313 : decode (sm_cc 189) 313 = .ok (.iload_n 1, 1) := by decide +kernel
theorem dc_189_314 : decode (sm_cc 189) 314 = .ok (.invokevirtual 92, 3) := by decide +kernel
theorem ow_214 : 6 = sm_ow 214 := by decide +kernel
theorem kr_189_92 : sm_at mt_k (sm_ow 189) 92 = some (92, 0, 214, 0, 1739) := by decide +kernel
theorem np_214 : sm_np 214 = 1 := by decide +kernel
theorem dc_189_317 : decode (sm_cc 189) 317 = .ok (.ireturn, 1) := by decide +kernel
theorem ml_217 : sm_ml 217 = 3 := by decide +kernel
theorem dc_217_0 : decode (sm_cc 217) 0 = .ok (.iload_n 1, 1) := by decide +kernel
theorem dc_217_1 : decode (sm_cc 217) 1 = .ok (.tableswitch (91) 44 50 #[43, 50, 57, 65, 73, 79, 85], 43) := by decide +kernel
theorem dc_217_44 : decode (sm_cc 217) 44 = .ok (.aload_n 0, 1) := by decide +kernel
theorem dc_217_45 : decode (sm_cc 217) 45 = .ok (.iload_n 2, 1) := by decide +kernel
theorem dc_217_46 : decode (sm_cc 217) 46 = .ok (.iconst 1, 1) := by decide +kernel
theorem dc_217_47 : decode (sm_cc 217) 47 = .ok (.invokevirtual 95, 3) := by decide +kernel
theorem ow_218 : 6 = sm_ow 218 := by decide +kernel
theorem kr_217_95 : sm_at mt_k (sm_ow 217) 95 = some (95, 0, 218, 0, 1755) := by decide +kernel
theorem np_218 : sm_np 218 = 2 := by decide +kernel
theorem dc_217_50 : decode (sm_cc 217) 50 = .ok (.ireturn, 1) := by decide +kernel
theorem rt_217 : sm_rt 217 = some .int := by decide +kernel
theorem dc_217_51 : decode (sm_cc 217) 51 = .ok (.aload_n 0, 1) := by decide +kernel
theorem dc_217_52 : decode (sm_cc 217) 52 = .ok (.iload_n 2, 1) := by decide +kernel
theorem dc_217_53 : decode (sm_cc 217) 53 = .ok (.iconst 0, 1) := by decide +kernel
theorem dc_217_54 : decode (sm_cc 217) 54 = .ok (.invokevirtual 95, 3) := by decide +kernel
theorem dc_217_57 : decode (sm_cc 217) 57 = .ok (.ireturn, 1) := by decide +kernel
theorem dc_217_58 : decode (sm_cc 217) 58 = .ok (.aload_n 0, 1) := by decide +kernel
theorem dc_217_59 : decode (sm_cc 217) 59 = .ok (.iload_n 2, 1) := by decide +kernel
theorem dc_217_60 : decode (sm_cc 217) 60 = .ok (.iconst 0, 1) := by decide +kernel
theorem dc_217_61 : decode (sm_cc 217) 61 = .ok (.iconst 1, 1) := by decide +kernel
theorem dc_217_62 : decode (sm_cc 217) 62 = .ok (.invokevirtual 99, 3) := by decide +kernel
theorem ow_221 : 6 = sm_ow 221 := by decide +kernel
theorem kr_217_99 : sm_at mt_k (sm_ow 217) 99 = some (99, 0, 221, 0, 1774) := by decide +kernel
theorem np_221 : sm_np 221 = 3 := by decide +kernel
theorem dc_217_65 : decode (sm_cc 217) 65 = .ok (.ireturn, 1) := by decide +kernel
theorem dc_217_66 : decode (sm_cc 217) 66 = .ok (.aload_n 0, 1) := by decide +kernel
theorem dc_217_67 : decode (sm_cc 217) 67 = .ok (.iload_n 2, 1) := by decide +kernel
theorem dc_217_68 : decode (sm_cc 217) 68 = .ok (.iconst 1, 1) := by decide +kernel
theorem dc_217_69 : decode (sm_cc 217) 69 = .ok (.iconst 0, 1) := by decide +kernel
theorem dc_217_70 : decode (sm_cc 217) 70 = .ok (.invokevirtual 99, 3) := by decide +kernel
theorem dc_217_73 : decode (sm_cc 217) 73 = .ok (.ireturn, 1) := by decide +kernel
theorem dc_217_74 : decode (sm_cc 217) 74 = .ok (.aload_n 0, 1) := by decide +kernel
theorem dc_217_75 : decode (sm_cc 217) 75 = .ok (.iload_n 2, 1) := by decide +kernel
theorem dc_217_76 : decode (sm_cc 217) 76 = .ok (.invokevirtual 102, 3) := by decide +kernel
theorem ow_222 : 6 = sm_ow 222 := by decide +kernel
theorem kr_217_102 : sm_at mt_k (sm_ow 217) 102 = some (102, 0, 222, 0, 1778) := by decide +kernel
theorem np_222 : sm_np 222 = 1 := by decide +kernel
theorem dc_217_79 : decode (sm_cc 217) 79 = .ok (.ireturn, 1) := by decide +kernel
theorem dc_217_80 : decode (sm_cc 217) 80 = .ok (.aload_n 0, 1) := by decide +kernel
theorem dc_217_81 : decode (sm_cc 217) 81 = .ok (.iload_n 2, 1) := by decide +kernel
theorem dc_217_82 : decode (sm_cc 217) 82 = .ok (.invokevirtual 105, 3) := by decide +kernel
theorem ow_223 : 6 = sm_ow 223 := by decide +kernel
theorem kr_217_105 : sm_at mt_k (sm_ow 217) 105 = some (105, 0, 223, 0, 1782) := by decide +kernel
theorem np_223 : sm_np 223 = 1 := by decide +kernel
theorem dc_217_85 : decode (sm_cc 217) 85 = .ok (.ireturn, 1) := by decide +kernel
theorem dc_217_86 : decode (sm_cc 217) 86 = .ok (.aload_n 0, 1) := by decide +kernel
theorem dc_217_87 : decode (sm_cc 217) 87 = .ok (.iload_n 2, 1) := by decide +kernel
theorem dc_217_88 : decode (sm_cc 217) 88 = .ok (.invokevirtual 108, 3) := by decide +kernel
theorem ow_224 : 6 = sm_ow 224 := by decide +kernel
theorem kr_217_108 : sm_at mt_k (sm_ow 217) 108 = some (108, 0, 224, 0, 1786) := by decide +kernel
theorem np_224 : sm_np 224 = 1 := by decide +kernel
theorem dc_217_91 : decode (sm_cc 217) 91 = .ok (.ireturn, 1) := by decide +kernel
theorem dc_217_92 : decode (sm_cc 217) 92 = .ok (.iconst 0, 1) := by decide +kernel
theorem dc_217_93 : decode (sm_cc 217) 93 = .ok (.ireturn, 1) := by decide +kernel
theorem ml_190 : sm_ml 190 = 3 := by decide +kernel
theorem dc_190_0 : decode (sm_cc 190) 0 = .ok (.aload_n 0, 1) := by decide +kernel
theorem dc_190_1 : decode (sm_cc 190) 1 = .ok (.getfield 15, 3) := by decide +kernel
theorem fr_190_15 : sm_at mt_f (sm_ow 190) 15 = some (15, 6, 1, 0, 827) := by decide +kernel
theorem dc_190_4 : decode (sm_cc 190) 4 = .ok (.iconst 0, 1) := by decide +kernel
theorem dc_190_5 : decode (sm_cc 190) 5 = .ok (.invokevirtual 111, 3) := by decide +kernel
theorem kr_190_111 : sm_at mt_k (sm_ow 190) 111 = some (111, 1, 135, 1, 1626) := by decide +kernel
theorem dc_190_8 : decode (sm_cc 190) 8 = .ok (.lstore_n 1, 1) := by decide +kernel
theorem dc_190_9 : decode (sm_cc 190) 9 = .ok (.aload_n 0, 1) := by decide +kernel
theorem dc_190_10 : decode (sm_cc 190) 10 = .ok (.getfield 15, 3) := by decide +kernel
theorem dc_190_13 : decode (sm_cc 190) 13 = .ok (.iconst 0, 1) := by decide +kernel
theorem dc_190_14 : decode (sm_cc 190) 14 = .ok (.invokevirtual 70, 3) := by decide +kernel
theorem kr_190_70 : sm_at mt_k (sm_ow 190) 70 = some (70, 1, 132, 1, 1627) := by decide +kernel
theorem dc_190_17 : decode (sm_cc 190) 17 = .ok (.invokestatic 74, 3) := by decide +kernel
theorem kr_190_74 : sm_at mt_k (sm_ow 190) 74 = some (74, 3, 134, 1, 1628) := by decide +kernel
theorem dc_190_20 : decode (sm_cc 190) 20 = .ok (.iconst 2, 1) := by decide +kernel
theorem dc_190_21 : decode (sm_cc 190) 21 = .ok (.if_icmp .eq (5), 3) := by decide +kernel
theorem dc_190_26 : decode (sm_cc 190) 26 = .ok (.lload_n 1, 1) := by decide +kernel
theorem dc_190_27 : decode (sm_cc 190) 27 = .ok (.ldc2_w 114, 3) := by decide +kernel
theorem cj_190_114 : sm_at mt_cj (sm_ow 190) 114 = some (114, (-9223372036854775808), 1629) := by decide +kernel
theorem dc_190_30 : decode (sm_cc 190) 30 = .ok (.lcmp, 1) := by decide +kernel
theorem dc_190_31 : decode (sm_cc 190) 31 = .ok (.ifCond .ne (8), 3) := by decide +kernel
theorem dc_190_39 : decode (sm_cc 190) 39 = .ok (.aload_n 0, 1) := by decide +kernel
theorem dc_190_40 : decode (sm_cc 190) 40 = .ok (.getfield 15, 3) := by decide +kernel
theorem dc_190_43 : decode (sm_cc 190) 43 = .ok (.iconst 1, 1) := by decide +kernel
theorem dc_190_44 : decode (sm_cc 190) 44 = .ok (.ldc2_w 23, 3) := by decide +kernel
theorem cj_190_23 : sm_at mt_cj (sm_ow 190) 23 = some (23, (2305843009213693952), 1619) := by decide +kernel
theorem dc_190_47 : decode (sm_cc 190) 47 = .ok (.lload_n 1, 1) := by decide +kernel
theorem dc_190_48 : decode (sm_cc 190) 48 = .ok (.lneg, 1) := by decide +kernel
theorem dc_190_49 : decode (sm_cc 190) 49 = .ok (.invokevirtual 31, 3) := by decide +kernel
theorem kr_190_31 : sm_at mt_k (sm_ow 190) 31 = some (31, 1, 148, 1, 1621) := by decide +kernel
theorem dc_190_52 : decode (sm_cc 190) 52 = .ok (.ireturn, 1) := by decide +kernel
theorem rt_190 : sm_rt 190 = some .int := by decide +kernel
theorem dc_190_34 : decode (sm_cc 190) 34 = .ok (.bipush (6), 2) := by decide +kernel
theorem dc_190_36 : decode (sm_cc 190) 36 = .ok (.goto (16), 3) := by decide +kernel
theorem dc_190_24 : decode (sm_cc 190) 24 = .ok (.iconst 2, 1) := by decide +kernel
theorem dc_190_25 : decode (sm_cc 190) 25 = .ok (.ireturn, 1) := by decide +kernel
theorem ml_191 : sm_ml 191 = 2 := by decide +kernel
theorem dc_191_0 : decode (sm_cc 191) 0 = .ok (.aload_n 0, 1) := by decide +kernel
theorem dc_191_1 : decode (sm_cc 191) 1 = .ok (.getfield 15, 3) := by decide +kernel
theorem fr_191_15 : sm_at mt_f (sm_ow 191) 15 = some (15, 6, 1, 0, 827) := by decide +kernel
theorem dc_191_4 : decode (sm_cc 191) 4 = .ok (.iconst 0, 1) := by decide +kernel
theorem dc_191_5 : decode (sm_cc 191) 5 = .ok (.invokevirtual 70, 3) := by decide +kernel
theorem kr_191_70 : sm_at mt_k (sm_ow 191) 70 = some (70, 1, 132, 1, 1627) := by decide +kernel
theorem dc_191_8 : decode (sm_cc 191) 8 = .ok (.invokestatic 74, 3) := by decide +kernel
theorem kr_191_74 : sm_at mt_k (sm_ow 191) 74 = some (74, 3, 134, 1, 1628) := by decide +kernel
theorem dc_191_11 : decode (sm_cc 191) 11 = .ok (.iload_n 1, 1) := by decide +kernel
theorem dc_191_12 : decode (sm_cc 191) 12 = .ok (.if_icmp .ne (22), 3) := by decide +kernel
theorem dc_191_15 : decode (sm_cc 191) 15 = .ok (.aload_n 0, 1) := by decide +kernel
theorem dc_191_16 : decode (sm_cc 191) 16 = .ok (.getfield 15, 3) := by decide +kernel
theorem dc_191_19 : decode (sm_cc 191) 19 = .ok (.iconst 1, 1) := by decide +kernel
theorem dc_191_20 : decode (sm_cc 191) 20 = .ok (.invokevirtual 70, 3) := by decide +kernel
theorem dc_191_23 : decode (sm_cc 191) 23 = .ok (.invokestatic 74, 3) := by decide +kernel
theorem dc_191_26 : decode (sm_cc 191) 26 = .ok (.iload_n 1, 1) := by decide +kernel
theorem dc_191_27 : decode (sm_cc 191) 27 = .ok (.if_icmp .ne (7), 3) := by decide +kernel
theorem dc_191_30 : decode (sm_cc 191) 30 = .ok (.iconst 1, 1) := by decide +kernel
theorem dc_191_31 : decode (sm_cc 191) 31 = .ok (.goto (4), 3) := by decide +kernel
theorem dc_191_35 : decode (sm_cc 191) 35 = .ok (.ireturn, 1) := by decide +kernel
theorem rt_191 : sm_rt 191 = some .boolean := by decide +kernel
theorem dc_191_34 : decode (sm_cc 191) 34 = .ok (.iconst 0, 1) := by decide +kernel
theorem ml_196 : sm_ml 196 = 8 := by decide +kernel
theorem dc_196_0 : decode (sm_cc 196) 0 = .ok (.aload_n 0, 1) := by decide +kernel
theorem dc_196_1 : decode (sm_cc 196) 1 = .ok (.iconst 2, 1) := by decide +kernel
theorem dc_196_2 : decode (sm_cc 196) 2 = .ok (.invokevirtual 39, 3) := by decide +kernel
theorem kr_196_39 : sm_at mt_k (sm_ow 196) 39 = some (39, 0, 191, 0, 1630) := by decide +kernel
theorem dc_196_5 : decode (sm_cc 196) 5 = .ok (.ifCond .ne (5), 3) := by decide +kernel
theorem dc_196_10 : decode (sm_cc 196) 10 = .ok (.aload_n 0, 1) := by decide +kernel
theorem dc_196_11 : decode (sm_cc 196) 11 = .ok (.getfield 15, 3) := by decide +kernel
theorem fr_196_15 : sm_at mt_f (sm_ow 196) 15 = some (15, 6, 1, 0, 827) := by decide +kernel
theorem dc_196_14 : decode (sm_cc 196) 14 = .ok (.iconst 1, 1) := by decide +kernel
theorem dc_196_15 : decode (sm_cc 196) 15 = .ok (.invokevirtual 111, 3) := by decide +kernel
theorem kr_196_111 : sm_at mt_k (sm_ow 196) 111 = some (111, 1, 135, 1, 1626) := by decide +kernel
theorem dc_196_18 : decode (sm_cc 196) 18 = .ok (.lstore_n 1, 1) := by decide +kernel
theorem dc_196_19 : decode (sm_cc 196) 19 = .ok (.aload_n 0, 1) := by decide +kernel
theorem dc_196_20 : decode (sm_cc 196) 20 = .ok (.getfield 15, 3) := by decide +kernel
theorem dc_196_23 : decode (sm_cc 196) 23 = .ok (.iconst 0, 1) := by decide +kernel
theorem dc_196_24 : decode (sm_cc 196) 24 = .ok (.invokevirtual 111, 3) := by decide +kernel
theorem dc_196_27 : decode (sm_cc 196) 27 = .ok (.lstore_n 3, 1) := by decide +kernel
theorem dc_196_28 : decode (sm_cc 196) 28 = .ok (.lload_n 1, 1) := by decide +kernel
theorem dc_196_29 : decode (sm_cc 196) 29 = .ok (.lload_n 3, 1) := by decide +kernel
theorem dc_196_30 : decode (sm_cc 196) 30 = .ok (.ladd, 1) := by decide +kernel
theorem dc_196_31 : decode (sm_cc 196) 31 = .ok (.lstore 5, 2) := by decide +kernel
theorem dc_196_33 : decode (sm_cc 196) 33 = .ok (.lload_n 1, 1) := by decide +kernel
theorem dc_196_34 : decode (sm_cc 196) 34 = .ok (.lload 5, 2) := by decide +kernel
theorem dc_196_36 : decode (sm_cc 196) 36 = .ok (.lxor, 1) := by decide +kernel
theorem dc_196_37 : decode (sm_cc 196) 37 = .ok (.lload_n 3, 1) := by decide +kernel
theorem dc_196_38 : decode (sm_cc 196) 38 = .ok (.lload 5, 2) := by decide +kernel
theorem dc_196_40 : decode (sm_cc 196) 40 = .ok (.lxor, 1) := by decide +kernel
theorem dc_196_41 : decode (sm_cc 196) 41 = .ok (.land, 1) := by decide +kernel
theorem dc_196_42 : decode (sm_cc 196) 42 = .ok (.lconst 0, 1) := by decide +kernel
theorem dc_196_43 : decode (sm_cc 196) 43 = .ok (.lcmp, 1) := by decide +kernel
theorem dc_196_44 : decode (sm_cc 196) 44 = .ok (.ifCond .ge (7), 3) := by decide +kernel
theorem dc_196_51 : decode (sm_cc 196) 51 = .ok (.iconst 0, 1) := by decide +kernel
theorem dc_196_52 : decode (sm_cc 196) 52 = .ok (.istore 7, 2) := by decide +kernel
theorem dc_196_54 : decode (sm_cc 196) 54 = .ok (.iload 7, 2) := by decide +kernel
theorem dc_196_56 : decode (sm_cc 196) 56 = .ok (.ifCond .eq (8), 3) := by decide +kernel
theorem dc_196_64 : decode (sm_cc 196) 64 = .ok (.aload_n 0, 1) := by decide +kernel
theorem dc_196_65 : decode (sm_cc 196) 65 = .ok (.getfield 15, 3) := by decide +kernel
theorem dc_196_68 : decode (sm_cc 196) 68 = .ok (.iconst 2, 1) := by decide +kernel
theorem dc_196_69 : decode (sm_cc 196) 69 = .ok (.ldc2_w 23, 3) := by decide +kernel
theorem cj_196_23 : sm_at mt_cj (sm_ow 196) 23 = some (23, (2305843009213693952), 1619) := by decide +kernel
theorem dc_196_72 : decode (sm_cc 196) 72 = .ok (.lload 5, 2) := by decide +kernel
theorem dc_196_74 : decode (sm_cc 196) 74 = .ok (.invokevirtual 31, 3) := by decide +kernel
theorem kr_196_31 : sm_at mt_k (sm_ow 196) 31 = some (31, 1, 148, 1, 1621) := by decide +kernel
theorem dc_196_77 : decode (sm_cc 196) 77 = .ok (.ireturn, 1) := by decide +kernel
theorem rt_196 : sm_rt 196 = some .int := by decide +kernel
theorem dc_196_47 : decode (sm_cc 196) 47 = .ok (.iconst 1, 1) := by decide +kernel
theorem dc_196_48 : decode (sm_cc 196) 48 = .ok (.goto (4), 3) := by decide +kernel
theorem dc_196_59 : decode (sm_cc 196) 59 = .ok (.bipush (6), 2) := by decide +kernel
theorem dc_196_61 : decode (sm_cc 196) 61 = .ok (.goto (16), 3) := by decide +kernel
theorem dc_196_8 : decode (sm_cc 196) 8 = .ok (.iconst 2, 1) := by decide +kernel
theorem dc_196_9 : decode (sm_cc 196) 9 = .ok (.ireturn, 1) := by decide +kernel
theorem ml_197 : sm_ml 197 = 8 := by decide +kernel
theorem dc_197_0 : decode (sm_cc 197) 0 = .ok (.aload_n 0, 1) := by decide +kernel
theorem dc_197_1 : decode (sm_cc 197) 1 = .ok (.iconst 2, 1) := by decide +kernel
theorem dc_197_2 : decode (sm_cc 197) 2 = .ok (.invokevirtual 39, 3) := by decide +kernel
theorem kr_197_39 : sm_at mt_k (sm_ow 197) 39 = some (39, 0, 191, 0, 1630) := by decide +kernel
theorem dc_197_5 : decode (sm_cc 197) 5 = .ok (.ifCond .ne (5), 3) := by decide +kernel
theorem dc_197_10 : decode (sm_cc 197) 10 = .ok (.aload_n 0, 1) := by decide +kernel
theorem dc_197_11 : decode (sm_cc 197) 11 = .ok (.getfield 15, 3) := by decide +kernel
theorem fr_197_15 : sm_at mt_f (sm_ow 197) 15 = some (15, 6, 1, 0, 827) := by decide +kernel
theorem dc_197_14 : decode (sm_cc 197) 14 = .ok (.iconst 1, 1) := by decide +kernel
theorem dc_197_15 : decode (sm_cc 197) 15 = .ok (.invokevirtual 111, 3) := by decide +kernel
theorem kr_197_111 : sm_at mt_k (sm_ow 197) 111 = some (111, 1, 135, 1, 1626) := by decide +kernel
theorem dc_197_18 : decode (sm_cc 197) 18 = .ok (.lstore_n 1, 1) := by decide +kernel
theorem dc_197_19 : decode (sm_cc 197) 19 = .ok (.aload_n 0, 1) := by decide +kernel
theorem dc_197_20 : decode (sm_cc 197) 20 = .ok (.getfield 15, 3) := by decide +kernel
theorem dc_197_23 : decode (sm_cc 197) 23 = .ok (.iconst 0, 1) := by decide +kernel
theorem dc_197_24 : decode (sm_cc 197) 24 = .ok (.invokevirtual 111, 3) := by decide +kernel
theorem dc_197_27 : decode (sm_cc 197) 27 = .ok (.lstore_n 3, 1) := by decide +kernel
theorem dc_197_28 : decode (sm_cc 197) 28 = .ok (.lload_n 1, 1) := by decide +kernel
theorem dc_197_29 : decode (sm_cc 197) 29 = .ok (.lload_n 3, 1) := by decide +kernel
theorem dc_197_30 : decode (sm_cc 197) 30 = .ok (.lsub, 1) := by decide +kernel
theorem dc_197_31 : decode (sm_cc 197) 31 = .ok (.lstore 5, 2) := by decide +kernel
theorem dc_197_33 : decode (sm_cc 197) 33 = .ok (.lload_n 1, 1) := by decide +kernel
theorem dc_197_34 : decode (sm_cc 197) 34 = .ok (.lload_n 3, 1) := by decide +kernel
theorem dc_197_35 : decode (sm_cc 197) 35 = .ok (.lxor, 1) := by decide +kernel
theorem dc_197_36 : decode (sm_cc 197) 36 = .ok (.lload_n 1, 1) := by decide +kernel
theorem dc_197_37 : decode (sm_cc 197) 37 = .ok (.lload 5, 2) := by decide +kernel
theorem dc_197_39 : decode (sm_cc 197) 39 = .ok (.lxor, 1) := by decide +kernel
theorem dc_197_40 : decode (sm_cc 197) 40 = .ok (.land, 1) := by decide +kernel
theorem dc_197_41 : decode (sm_cc 197) 41 = .ok (.lconst 0, 1) := by decide +kernel
theorem dc_197_42 : decode (sm_cc 197) 42 = .ok (.lcmp, 1) := by decide +kernel
theorem dc_197_43 : decode (sm_cc 197) 43 = .ok (.ifCond .ge (7), 3) := by decide +kernel
theorem dc_197_50 : decode (sm_cc 197) 50 = .ok (.iconst 0, 1) := by decide +kernel
theorem dc_197_51 : decode (sm_cc 197) 51 = .ok (.istore 7, 2) := by decide +kernel
theorem dc_197_53 : decode (sm_cc 197) 53 = .ok (.iload 7, 2) := by decide +kernel
theorem dc_197_55 : decode (sm_cc 197) 55 = .ok (.ifCond .eq (8), 3) := by decide +kernel
theorem dc_197_63 : decode (sm_cc 197) 63 = .ok (.aload_n 0, 1) := by decide +kernel
theorem dc_197_64 : decode (sm_cc 197) 64 = .ok (.getfield 15, 3) := by decide +kernel
theorem dc_197_67 : decode (sm_cc 197) 67 = .ok (.iconst 2, 1) := by decide +kernel
theorem dc_197_68 : decode (sm_cc 197) 68 = .ok (.ldc2_w 23, 3) := by decide +kernel
theorem cj_197_23 : sm_at mt_cj (sm_ow 197) 23 = some (23, (2305843009213693952), 1619) := by decide +kernel
theorem dc_197_71 : decode (sm_cc 197) 71 = .ok (.lload 5, 2) := by decide +kernel
theorem dc_197_73 : decode (sm_cc 197) 73 = .ok (.invokevirtual 31, 3) := by decide +kernel
theorem kr_197_31 : sm_at mt_k (sm_ow 197) 31 = some (31, 1, 148, 1, 1621) := by decide +kernel
theorem dc_197_76 : decode (sm_cc 197) 76 = .ok (.ireturn, 1) := by decide +kernel
theorem rt_197 : sm_rt 197 = some .int := by decide +kernel
theorem dc_197_46 : decode (sm_cc 197) 46 = .ok (.iconst 1, 1) := by decide +kernel
theorem dc_197_47 : decode (sm_cc 197) 47 = .ok (.goto (4), 3) := by decide +kernel
theorem dc_197_58 : decode (sm_cc 197) 58 = .ok (.bipush (6), 2) := by decide +kernel
theorem dc_197_60 : decode (sm_cc 197) 60 = .ok (.goto (16), 3) := by decide +kernel
theorem dc_197_8 : decode (sm_cc 197) 8 = .ok (.iconst 2, 1) := by decide +kernel
theorem dc_197_9 : decode (sm_cc 197) 9 = .ok (.ireturn, 1) := by decide +kernel
theorem ml_198 : sm_ml 198 = 8 := by decide +kernel
theorem dc_198_0 : decode (sm_cc 198) 0 = .ok (.aload_n 0, 1) := by decide +kernel
theorem dc_198_1 : decode (sm_cc 198) 1 = .ok (.iconst 2, 1) := by decide +kernel
theorem dc_198_2 : decode (sm_cc 198) 2 = .ok (.invokevirtual 39, 3) := by decide +kernel
theorem kr_198_39 : sm_at mt_k (sm_ow 198) 39 = some (39, 0, 191, 0, 1630) := by decide +kernel
theorem dc_198_5 : decode (sm_cc 198) 5 = .ok (.ifCond .ne (5), 3) := by decide +kernel
theorem dc_198_10 : decode (sm_cc 198) 10 = .ok (.aload_n 0, 1) := by decide +kernel
theorem dc_198_11 : decode (sm_cc 198) 11 = .ok (.getfield 15, 3) := by decide +kernel
theorem fr_198_15 : sm_at mt_f (sm_ow 198) 15 = some (15, 6, 1, 0, 827) := by decide +kernel
theorem dc_198_14 : decode (sm_cc 198) 14 = .ok (.iconst 1, 1) := by decide +kernel
theorem dc_198_15 : decode (sm_cc 198) 15 = .ok (.invokevirtual 111, 3) := by decide +kernel
theorem kr_198_111 : sm_at mt_k (sm_ow 198) 111 = some (111, 1, 135, 1, 1626) := by decide +kernel
theorem dc_198_18 : decode (sm_cc 198) 18 = .ok (.lstore_n 1, 1) := by decide +kernel
theorem dc_198_19 : decode (sm_cc 198) 19 = .ok (.aload_n 0, 1) := by decide +kernel
theorem dc_198_20 : decode (sm_cc 198) 20 = .ok (.getfield 15, 3) := by decide +kernel
theorem dc_198_23 : decode (sm_cc 198) 23 = .ok (.iconst 0, 1) := by decide +kernel
theorem dc_198_24 : decode (sm_cc 198) 24 = .ok (.invokevirtual 111, 3) := by decide +kernel
theorem dc_198_27 : decode (sm_cc 198) 27 = .ok (.lstore_n 3, 1) := by decide +kernel
theorem dc_198_28 : decode (sm_cc 198) 28 = .ok (.lload_n 1, 1) := by decide +kernel
theorem dc_198_29 : decode (sm_cc 198) 29 = .ok (.lload_n 3, 1) := by decide +kernel
theorem dc_198_30 : decode (sm_cc 198) 30 = .ok (.lmul, 1) := by decide +kernel
theorem dc_198_31 : decode (sm_cc 198) 31 = .ok (.lstore 5, 2) := by decide +kernel
theorem dc_198_33 : decode (sm_cc 198) 33 = .ok (.lload_n 1, 1) := by decide +kernel
theorem dc_198_34 : decode (sm_cc 198) 34 = .ok (.ldc2_w 148, 3) := by decide +kernel
theorem cj_198_148 : sm_at mt_cj (sm_ow 198) 148 = some (148, (-1), 1672) := by decide +kernel
theorem dc_198_37 : decode (sm_cc 198) 37 = .ok (.lcmp, 1) := by decide +kernel
theorem dc_198_38 : decode (sm_cc 198) 38 = .ok (.ifCond .ne (19), 3) := by decide +kernel
theorem dc_198_57 : decode (sm_cc 198) 57 = .ok (.lload_n 1, 1) := by decide +kernel
theorem dc_198_58 : decode (sm_cc 198) 58 = .ok (.lconst 0, 1) := by decide +kernel
theorem dc_198_59 : decode (sm_cc 198) 59 = .ok (.lcmp, 1) := by decide +kernel
theorem dc_198_60 : decode (sm_cc 198) 60 = .ok (.ifCond .eq (16), 3) := by decide +kernel
theorem dc_198_76 : decode (sm_cc 198) 76 = .ok (.iconst 0, 1) := by decide +kernel
theorem dc_198_77 : decode (sm_cc 198) 77 = .ok (.istore 7, 2) := by decide +kernel
theorem dc_198_79 : decode (sm_cc 198) 79 = .ok (.iload 7, 2) := by decide +kernel
theorem dc_198_81 : decode (sm_cc 198) 81 = .ok (.ifCond .eq (8), 3) := by decide +kernel
theorem dc_198_89 : decode (sm_cc 198) 89 = .ok (.aload_n 0, 1) := by decide +kernel
theorem dc_198_90 : decode (sm_cc 198) 90 = .ok (.getfield 15, 3) := by decide +kernel
theorem dc_198_93 : decode (sm_cc 198) 93 = .ok (.iconst 2, 1) := by decide +kernel
theorem dc_198_94 : decode (sm_cc 198) 94 = .ok (.ldc2_w 23, 3) := by decide +kernel
theorem cj_198_23 : sm_at mt_cj (sm_ow 198) 23 = some (23, (2305843009213693952), 1619) := by decide +kernel
theorem dc_198_97 : decode (sm_cc 198) 97 = .ok (.lload 5, 2) := by decide +kernel
theorem dc_198_99 : decode (sm_cc 198) 99 = .ok (.invokevirtual 31, 3) := by decide +kernel
theorem kr_198_31 : sm_at mt_k (sm_ow 198) 31 = some (31, 1, 148, 1, 1621) := by decide +kernel
theorem dc_198_102 : decode (sm_cc 198) 102 = .ok (.ireturn, 1) := by decide +kernel
theorem rt_198 : sm_rt 198 = some .int := by decide +kernel
theorem dc_198_63 : decode (sm_cc 198) 63 = .ok (.lload 5, 2) := by decide +kernel
theorem dc_198_65 : decode (sm_cc 198) 65 = .ok (.lload_n 1, 1) := by decide +kernel
theorem dc_198_66 : decode (sm_cc 198) 66 = .ok (.ldiv, 1) := by decide +kernel
theorem dc_198_67 : decode (sm_cc 198) 67 = .ok (.lload_n 3, 1) := by decide +kernel
theorem dc_198_68 : decode (sm_cc 198) 68 = .ok (.lcmp, 1) := by decide +kernel
theorem dc_198_69 : decode (sm_cc 198) 69 = .ok (.ifCond .eq (7), 3) := by decide +kernel
theorem dc_198_72 : decode (sm_cc 198) 72 = .ok (.iconst 1, 1) := by decide +kernel
theorem dc_198_73 : decode (sm_cc 198) 73 = .ok (.goto (4), 3) := by decide +kernel
theorem dc_198_84 : decode (sm_cc 198) 84 = .ok (.bipush (6), 2) := by decide +kernel
theorem dc_198_86 : decode (sm_cc 198) 86 = .ok (.goto (16), 3) := by decide +kernel
theorem dc_198_41 : decode (sm_cc 198) 41 = .ok (.lload_n 3, 1) := by decide +kernel
theorem dc_198_42 : decode (sm_cc 198) 42 = .ok (.ldc2_w 114, 3) := by decide +kernel
theorem cj_198_114 : sm_at mt_cj (sm_ow 198) 114 = some (114, (-9223372036854775808), 1629) := by decide +kernel
theorem dc_198_45 : decode (sm_cc 198) 45 = .ok (.lcmp, 1) := by decide +kernel
theorem dc_198_46 : decode (sm_cc 198) 46 = .ok (.ifCond .ne (7), 3) := by decide +kernel
theorem dc_198_53 : decode (sm_cc 198) 53 = .ok (.iconst 0, 1) := by decide +kernel
theorem dc_198_54 : decode (sm_cc 198) 54 = .ok (.goto (23), 3) := by decide +kernel
theorem dc_198_49 : decode (sm_cc 198) 49 = .ok (.iconst 1, 1) := by decide +kernel
theorem dc_198_50 : decode (sm_cc 198) 50 = .ok (.goto (27), 3) := by decide +kernel
theorem dc_198_8 : decode (sm_cc 198) 8 = .ok (.iconst 2, 1) := by decide +kernel
theorem dc_198_9 : decode (sm_cc 198) 9 = .ok (.ireturn, 1) := by decide +kernel
theorem ml_199 : sm_ml 199 = 5 := by decide +kernel
theorem dc_199_0 : decode (sm_cc 199) 0 = .ok (.aload_n 0, 1) := by decide +kernel
theorem dc_199_1 : decode (sm_cc 199) 1 = .ok (.iconst 2, 1) := by decide +kernel
theorem dc_199_2 : decode (sm_cc 199) 2 = .ok (.invokevirtual 39, 3) := by decide +kernel
theorem kr_199_39 : sm_at mt_k (sm_ow 199) 39 = some (39, 0, 191, 0, 1630) := by decide +kernel
theorem dc_199_5 : decode (sm_cc 199) 5 = .ok (.ifCond .ne (5), 3) := by decide +kernel
theorem dc_199_10 : decode (sm_cc 199) 10 = .ok (.aload_n 0, 1) := by decide +kernel
theorem dc_199_11 : decode (sm_cc 199) 11 = .ok (.getfield 15, 3) := by decide +kernel
theorem fr_199_15 : sm_at mt_f (sm_ow 199) 15 = some (15, 6, 1, 0, 827) := by decide +kernel
theorem dc_199_14 : decode (sm_cc 199) 14 = .ok (.iconst 1, 1) := by decide +kernel
theorem dc_199_15 : decode (sm_cc 199) 15 = .ok (.invokevirtual 111, 3) := by decide +kernel
theorem kr_199_111 : sm_at mt_k (sm_ow 199) 111 = some (111, 1, 135, 1, 1626) := by decide +kernel
theorem dc_199_18 : decode (sm_cc 199) 18 = .ok (.lstore_n 1, 1) := by decide +kernel
theorem dc_199_19 : decode (sm_cc 199) 19 = .ok (.aload_n 0, 1) := by decide +kernel
theorem dc_199_20 : decode (sm_cc 199) 20 = .ok (.getfield 15, 3) := by decide +kernel
theorem dc_199_23 : decode (sm_cc 199) 23 = .ok (.iconst 0, 1) := by decide +kernel
theorem dc_199_24 : decode (sm_cc 199) 24 = .ok (.invokevirtual 111, 3) := by decide +kernel
theorem dc_199_27 : decode (sm_cc 199) 27 = .ok (.lstore_n 3, 1) := by decide +kernel
theorem dc_199_28 : decode (sm_cc 199) 28 = .ok (.lload_n 3, 1) := by decide +kernel
theorem dc_199_29 : decode (sm_cc 199) 29 = .ok (.lconst 0, 1) := by decide +kernel
theorem dc_199_30 : decode (sm_cc 199) 30 = .ok (.lcmp, 1) := by decide +kernel
theorem dc_199_31 : decode (sm_cc 199) 31 = .ok (.ifCond .ne (5), 3) := by decide +kernel
theorem dc_199_36 : decode (sm_cc 199) 36 = .ok (.lload_n 1, 1) := by decide +kernel
theorem dc_199_37 : decode (sm_cc 199) 37 = .ok (.ldc2_w 114, 3) := by decide +kernel
theorem cj_199_114 : sm_at mt_cj (sm_ow 199) 114 = some (114, (-9223372036854775808), 1629) := by decide +kernel
theorem dc_199_40 : decode (sm_cc 199) 40 = .ok (.lcmp, 1) := by decide +kernel
theorem dc_199_41 : decode (sm_cc 199) 41 = .ok (.ifCond .ne (14), 3) := by decide +kernel
theorem dc_199_55 : decode (sm_cc 199) 55 = .ok (.aload_n 0, 1) := by decide +kernel
theorem dc_199_56 : decode (sm_cc 199) 56 = .ok (.getfield 15, 3) := by decide +kernel
theorem dc_199_59 : decode (sm_cc 199) 59 = .ok (.iconst 2, 1) := by decide +kernel
theorem dc_199_60 : decode (sm_cc 199) 60 = .ok (.ldc2_w 23, 3) := by decide +kernel
theorem cj_199_23 : sm_at mt_cj (sm_ow 199) 23 = some (23, (2305843009213693952), 1619) := by decide +kernel
theorem dc_199_63 : decode (sm_cc 199) 63 = .ok (.lload_n 1, 1) := by decide +kernel
theorem dc_199_64 : decode (sm_cc 199) 64 = .ok (.lload_n 3, 1) := by decide +kernel
theorem dc_199_65 : decode (sm_cc 199) 65 = .ok (.invokestatic 150, 3) := by decide +kernel
theorem kr_199_150 : sm_at mt_k (sm_ow 199) 150 = some (150, 2, 200, 0, 1677) := by decide +kernel
theorem np_200 : sm_np 200 = 2 := by decide +kernel
theorem dc_199_68 : decode (sm_cc 199) 68 = .ok (.invokevirtual 31, 3) := by decide +kernel
theorem kr_199_31 : sm_at mt_k (sm_ow 199) 31 = some (31, 1, 148, 1, 1621) := by decide +kernel
theorem dc_199_71 : decode (sm_cc 199) 71 = .ok (.ireturn, 1) := by decide +kernel
theorem rt_199 : sm_rt 199 = some .int := by decide +kernel
theorem dc_199_44 : decode (sm_cc 199) 44 = .ok (.lload_n 3, 1) := by decide +kernel
theorem dc_199_45 : decode (sm_cc 199) 45 = .ok (.ldc2_w 148, 3) := by decide +kernel
theorem cj_199_148 : sm_at mt_cj (sm_ow 199) 148 = some (148, (-1), 1672) := by decide +kernel
theorem dc_199_48 : decode (sm_cc 199) 48 = .ok (.lcmp, 1) := by decide +kernel
theorem dc_199_49 : decode (sm_cc 199) 49 = .ok (.ifCond .ne (6), 3) := by decide +kernel
theorem dc_199_52 : decode (sm_cc 199) 52 = .ok (.bipush (6), 2) := by decide +kernel
theorem dc_199_54 : decode (sm_cc 199) 54 = .ok (.ireturn, 1) := by decide +kernel
theorem dc_199_34 : decode (sm_cc 199) 34 = .ok (.iconst 5, 1) := by decide +kernel
theorem dc_199_35 : decode (sm_cc 199) 35 = .ok (.ireturn, 1) := by decide +kernel
theorem dc_199_8 : decode (sm_cc 199) 8 = .ok (.iconst 2, 1) := by decide +kernel
theorem dc_199_9 : decode (sm_cc 199) 9 = .ok (.ireturn, 1) := by decide +kernel
theorem ml_201 : sm_ml 201 = 3 := by decide +kernel
theorem dc_201_0 : decode (sm_cc 201) 0 = .ok (.aload_n 0, 1) := by decide +kernel
theorem dc_201_1 : decode (sm_cc 201) 1 = .ok (.iconst 2, 1) := by decide +kernel
theorem dc_201_2 : decode (sm_cc 201) 2 = .ok (.invokevirtual 39, 3) := by decide +kernel
theorem kr_201_39 : sm_at mt_k (sm_ow 201) 39 = some (39, 0, 191, 0, 1630) := by decide +kernel
theorem dc_201_5 : decode (sm_cc 201) 5 = .ok (.ifCond .ne (5), 3) := by decide +kernel
theorem dc_201_10 : decode (sm_cc 201) 10 = .ok (.aload_n 0, 1) := by decide +kernel
theorem dc_201_11 : decode (sm_cc 201) 11 = .ok (.getfield 15, 3) := by decide +kernel
theorem fr_201_15 : sm_at mt_f (sm_ow 201) 15 = some (15, 6, 1, 0, 827) := by decide +kernel
theorem dc_201_14 : decode (sm_cc 201) 14 = .ok (.iconst 0, 1) := by decide +kernel
theorem dc_201_15 : decode (sm_cc 201) 15 = .ok (.invokevirtual 111, 3) := by decide +kernel
theorem kr_201_111 : sm_at mt_k (sm_ow 201) 111 = some (111, 1, 135, 1, 1626) := by decide +kernel
theorem dc_201_18 : decode (sm_cc 201) 18 = .ok (.lstore_n 1, 1) := by decide +kernel
theorem dc_201_19 : decode (sm_cc 201) 19 = .ok (.lload_n 1, 1) := by decide +kernel
theorem dc_201_20 : decode (sm_cc 201) 20 = .ok (.lconst 0, 1) := by decide +kernel
theorem dc_201_21 : decode (sm_cc 201) 21 = .ok (.lcmp, 1) := by decide +kernel
theorem dc_201_22 : decode (sm_cc 201) 22 = .ok (.ifCond .ne (5), 3) := by decide +kernel
theorem dc_201_27 : decode (sm_cc 201) 27 = .ok (.aload_n 0, 1) := by decide +kernel
theorem dc_201_28 : decode (sm_cc 201) 28 = .ok (.getfield 15, 3) := by decide +kernel
theorem dc_201_31 : decode (sm_cc 201) 31 = .ok (.iconst 2, 1) := by decide +kernel
theorem dc_201_32 : decode (sm_cc 201) 32 = .ok (.ldc2_w 23, 3) := by decide +kernel
theorem cj_201_23 : sm_at mt_cj (sm_ow 201) 23 = some (23, (2305843009213693952), 1619) := by decide +kernel
theorem dc_201_35 : decode (sm_cc 201) 35 = .ok (.aload_n 0, 1) := by decide +kernel
theorem dc_201_36 : decode (sm_cc 201) 36 = .ok (.getfield 15, 3) := by decide +kernel
theorem dc_201_39 : decode (sm_cc 201) 39 = .ok (.iconst 1, 1) := by decide +kernel
theorem dc_201_40 : decode (sm_cc 201) 40 = .ok (.invokevirtual 111, 3) := by decide +kernel
theorem dc_201_43 : decode (sm_cc 201) 43 = .ok (.lload_n 1, 1) := by decide +kernel
theorem dc_201_44 : decode (sm_cc 201) 44 = .ok (.invokestatic 156, 3) := by decide +kernel
theorem kr_201_156 : sm_at mt_k (sm_ow 201) 156 = some (156, 2, 202, 0, 1684) := by decide +kernel
theorem np_202 : sm_np 202 = 2 := by decide +kernel
theorem dc_201_47 : decode (sm_cc 201) 47 = .ok (.invokevirtual 31, 3) := by decide +kernel
theorem kr_201_31 : sm_at mt_k (sm_ow 201) 31 = some (31, 1, 148, 1, 1621) := by decide +kernel
theorem dc_201_50 : decode (sm_cc 201) 50 = .ok (.ireturn, 1) := by decide +kernel
theorem rt_201 : sm_rt 201 = some .int := by decide +kernel
theorem dc_201_25 : decode (sm_cc 201) 25 = .ok (.iconst 5, 1) := by decide +kernel
theorem dc_201_26 : decode (sm_cc 201) 26 = .ok (.ireturn, 1) := by decide +kernel
theorem dc_201_8 : decode (sm_cc 201) 8 = .ok (.iconst 2, 1) := by decide +kernel
theorem dc_201_9 : decode (sm_cc 201) 9 = .ok (.ireturn, 1) := by decide +kernel
theorem ml_203 : sm_ml 203 = 1 := by decide +kernel
theorem dc_203_0 : decode (sm_cc 203) 0 = .ok (.aload_n 0, 1) := by decide +kernel
theorem dc_203_1 : decode (sm_cc 203) 1 = .ok (.getfield 15, 3) := by decide +kernel
theorem fr_203_15 : sm_at mt_f (sm_ow 203) 15 = some (15, 6, 1, 0, 827) := by decide +kernel
theorem dc_203_4 : decode (sm_cc 203) 4 = .ok (.iconst 0, 1) := by decide +kernel
theorem dc_203_5 : decode (sm_cc 203) 5 = .ok (.invokevirtual 70, 3) := by decide +kernel
theorem kr_203_70 : sm_at mt_k (sm_ow 203) 70 = some (70, 1, 132, 1, 1627) := by decide +kernel
theorem dc_203_8 : decode (sm_cc 203) 8 = .ok (.aload_n 0, 1) := by decide +kernel
theorem dc_203_9 : decode (sm_cc 203) 9 = .ok (.getfield 15, 3) := by decide +kernel
theorem dc_203_12 : decode (sm_cc 203) 12 = .ok (.iconst 1, 1) := by decide +kernel
theorem dc_203_13 : decode (sm_cc 203) 13 = .ok (.invokevirtual 70, 3) := by decide +kernel
theorem dc_203_16 : decode (sm_cc 203) 16 = .ok (.lcmp, 1) := by decide +kernel
theorem dc_203_17 : decode (sm_cc 203) 17 = .ok (.ifCond .ne (27), 3) := by decide +kernel
theorem dc_203_44 : decode (sm_cc 203) 44 = .ok (.iconst 0, 1) := by decide +kernel
theorem dc_203_45 : decode (sm_cc 203) 45 = .ok (.ireturn, 1) := by decide +kernel
theorem rt_203 : sm_rt 203 = some .boolean := by decide +kernel
theorem dc_203_20 : decode (sm_cc 203) 20 = .ok (.aload_n 0, 1) := by decide +kernel
theorem dc_203_21 : decode (sm_cc 203) 21 = .ok (.getfield 15, 3) := by decide +kernel
theorem dc_203_24 : decode (sm_cc 203) 24 = .ok (.iconst 0, 1) := by decide +kernel
theorem dc_203_25 : decode (sm_cc 203) 25 = .ok (.invokevirtual 111, 3) := by decide +kernel
theorem kr_203_111 : sm_at mt_k (sm_ow 203) 111 = some (111, 1, 135, 1, 1626) := by decide +kernel
theorem dc_203_28 : decode (sm_cc 203) 28 = .ok (.aload_n 0, 1) := by decide +kernel
theorem dc_203_29 : decode (sm_cc 203) 29 = .ok (.getfield 15, 3) := by decide +kernel
theorem dc_203_32 : decode (sm_cc 203) 32 = .ok (.iconst 1, 1) := by decide +kernel
theorem dc_203_33 : decode (sm_cc 203) 33 = .ok (.invokevirtual 111, 3) := by decide +kernel
theorem dc_203_36 : decode (sm_cc 203) 36 = .ok (.lcmp, 1) := by decide +kernel
theorem dc_203_37 : decode (sm_cc 203) 37 = .ok (.ifCond .ne (7), 3) := by decide +kernel
theorem dc_203_40 : decode (sm_cc 203) 40 = .ok (.iconst 1, 1) := by decide +kernel
theorem dc_203_41 : decode (sm_cc 203) 41 = .ok (.goto (4), 3) := by decide +kernel
theorem ml_209 : sm_ml 209 = 4 := by decide +kernel
theorem dc_209_0 : decode (sm_cc 209) 0 = .ok (.aload_n 0, 1) := by decide +kernel
theorem dc_209_1 : decode (sm_cc 209) 1 = .ok (.iconst 1, 1) := by decide +kernel
theorem dc_209_2 : decode (sm_cc 209) 2 = .ok (.iconst 0, 1) := by decide +kernel
theorem dc_209_3 : decode (sm_cc 209) 3 = .ok (.invokevirtual 192, 3) := by decide +kernel
theorem ow_210 : 6 = sm_ow 210 := by decide +kernel
theorem kr_209_192 : sm_at mt_k (sm_ow 209) 192 = some (192, 0, 210, 0, 1719) := by decide +kernel
theorem np_210 : sm_np 210 = 2 := by decide +kernel
theorem dc_209_6 : decode (sm_cc 209) 6 = .ok (.istore_n 2, 1) := by decide +kernel
theorem dc_209_7 : decode (sm_cc 209) 7 = .ok (.iload_n 2, 1) := by decide +kernel
theorem dc_209_8 : decode (sm_cc 209) 8 = .ok (.ifCond .ge (6), 3) := by decide +kernel
theorem dc_209_14 : decode (sm_cc 209) 14 = .ok (.aload_n 0, 1) := by decide +kernel
theorem dc_209_15 : decode (sm_cc 209) 15 = .ok (.getfield 15, 3) := by decide +kernel
theorem fr_209_15 : sm_at mt_f (sm_ow 209) 15 = some (15, 6, 1, 0, 827) := by decide +kernel
theorem dc_209_18 : decode (sm_cc 209) 18 = .ok (.iconst 1, 1) := by decide +kernel
theorem dc_209_19 : decode (sm_cc 209) 19 = .ok (.invokevirtual 169, 3) := by decide +kernel
theorem kr_209_169 : sm_at mt_k (sm_ow 209) 169 = some (169, 1, 136, 1, 1695) := by decide +kernel
theorem dc_209_22 : decode (sm_cc 209) 22 = .ok (.istore_n 3, 1) := by decide +kernel
theorem dc_209_23 : decode (sm_cc 209) 23 = .ok (.aload_n 0, 1) := by decide +kernel
theorem dc_209_24 : decode (sm_cc 209) 24 = .ok (.getfield 15, 3) := by decide +kernel
theorem dc_209_27 : decode (sm_cc 209) 27 = .ok (.iload_n 1, 1) := by decide +kernel
theorem dc_209_28 : decode (sm_cc 209) 28 = .ok (.aload_n 0, 1) := by decide +kernel
theorem dc_209_29 : decode (sm_cc 209) 29 = .ok (.getfield 9, 3) := by decide +kernel
theorem fr_209_9 : sm_at mt_f (sm_ow 209) 9 = some (9, 6, 0, 0, 826) := by decide +kernel
theorem dc_209_32 : decode (sm_cc 209) 32 = .ok (.iload_n 3, 1) := by decide +kernel
theorem dc_209_33 : decode (sm_cc 209) 33 = .ok (.iload_n 2, 1) := by decide +kernel
theorem dc_209_34 : decode (sm_cc 209) 34 = .ok (.invokevirtual 181, 3) := by decide +kernel
theorem kr_209_181 : sm_at mt_k (sm_ow 209) 181 = some (181, 1, 156, 1, 1705) := by decide +kernel
theorem dc_209_37 : decode (sm_cc 209) 37 = .ok (.aload_n 0, 1) := by decide +kernel
theorem dc_209_38 : decode (sm_cc 209) 38 = .ok (.getfield 9, 3) := by decide +kernel
theorem dc_209_41 : decode (sm_cc 209) 41 = .ok (.iload_n 3, 1) := by decide +kernel
theorem dc_209_42 : decode (sm_cc 209) 42 = .ok (.iload_n 2, 1) := by decide +kernel
theorem dc_209_43 : decode (sm_cc 209) 43 = .ok (.invokevirtual 185, 3) := by decide +kernel
theorem kr_209_185 : sm_at mt_k (sm_ow 209) 185 = some (185, 1, 158, 1, 1706) := by decide +kernel
theorem dc_209_46 : decode (sm_cc 209) 46 = .ok (.invokevirtual 31, 3) := by decide +kernel
theorem kr_209_31 : sm_at mt_k (sm_ow 209) 31 = some (31, 1, 148, 1, 1621) := by decide +kernel
theorem dc_209_49 : decode (sm_cc 209) 49 = .ok (.ireturn, 1) := by decide +kernel
theorem rt_209 : sm_rt 209 = some .int := by decide +kernel
theorem dc_209_11 : decode (sm_cc 209) 11 = .ok (.iload_n 2, 1) := by decide +kernel
theorem dc_209_12 : decode (sm_cc 209) 12 = .ok (.ineg, 1) := by decide +kernel
theorem dc_209_13 : decode (sm_cc 209) 13 = .ok (.ireturn, 1) := by decide +kernel
theorem ml_207 : sm_ml 207 = 5 := by decide +kernel
theorem dc_207_0 : decode (sm_cc 207) 0 = .ok (.aload_n 0, 1) := by decide +kernel
theorem dc_207_1 : decode (sm_cc 207) 1 = .ok (.getfield 15, 3) := by decide +kernel
theorem fr_207_15 : sm_at mt_f (sm_ow 207) 15 = some (15, 6, 1, 0, 827) := by decide +kernel
theorem dc_207_4 : decode (sm_cc 207) 4 = .ok (.iconst 1, 1) := by decide +kernel
theorem dc_207_5 : decode (sm_cc 207) 5 = .ok (.invokevirtual 70, 3) := by decide +kernel
theorem kr_207_70 : sm_at mt_k (sm_ow 207) 70 = some (70, 1, 132, 1, 1627) := by decide +kernel
theorem dc_207_8 : decode (sm_cc 207) 8 = .ok (.lstore_n 2, 1) := by decide +kernel
theorem dc_207_9 : decode (sm_cc 207) 9 = .ok (.aload_n 0, 1) := by decide +kernel
theorem dc_207_10 : decode (sm_cc 207) 10 = .ok (.getfield 15, 3) := by decide +kernel
theorem dc_207_13 : decode (sm_cc 207) 13 = .ok (.iconst 0, 1) := by decide +kernel
theorem dc_207_14 : decode (sm_cc 207) 14 = .ok (.invokevirtual 70, 3) := by decide +kernel
theorem dc_207_17 : decode (sm_cc 207) 17 = .ok (.invokestatic 74, 3) := by decide +kernel
theorem kr_207_74 : sm_at mt_k (sm_ow 207) 74 = some (74, 3, 134, 1, 1628) := by decide +kernel
theorem dc_207_20 : decode (sm_cc 207) 20 = .ok (.iconst 2, 1) := by decide +kernel
theorem dc_207_21 : decode (sm_cc 207) 21 = .ok (.if_icmp .eq (5), 3) := by decide +kernel
theorem dc_207_26 : decode (sm_cc 207) 26 = .ok (.aload_n 0, 1) := by decide +kernel
theorem dc_207_27 : decode (sm_cc 207) 27 = .ok (.getfield 15, 3) := by decide +kernel
theorem dc_207_30 : decode (sm_cc 207) 30 = .ok (.iconst 0, 1) := by decide +kernel
theorem dc_207_31 : decode (sm_cc 207) 31 = .ok (.invokevirtual 111, 3) := by decide +kernel
theorem kr_207_111 : sm_at mt_k (sm_ow 207) 111 = some (111, 1, 135, 1, 1626) := by decide +kernel
theorem dc_207_34 : decode (sm_cc 207) 34 = .ok (.lload_n 2, 1) := by decide +kernel
theorem dc_207_35 : decode (sm_cc 207) 35 = .ok (.invokestatic 116, 3) := by decide +kernel
theorem kr_207_116 : sm_at mt_k (sm_ow 207) 116 = some (116, 3, 47, 1, 1638) := by decide +kernel
theorem dc_207_38 : decode (sm_cc 207) 38 = .ok (.invokestatic 188, 3) := by decide +kernel
theorem kr_207_188 : sm_at mt_k (sm_ow 207) 188 = some (188, 2, 208, 0, 1711) := by decide +kernel
theorem np_208 : sm_np 208 = 2 := by decide +kernel
theorem dc_207_41 : decode (sm_cc 207) 41 = .ok (.istore 4, 2) := by decide +kernel
theorem dc_207_43 : decode (sm_cc 207) 43 = .ok (.iload 4, 2) := by decide +kernel
theorem dc_207_45 : decode (sm_cc 207) 45 = .ok (.ifCond .ge (7), 3) := by decide +kernel
theorem dc_207_52 : decode (sm_cc 207) 52 = .ok (.aload_n 0, 1) := by decide +kernel
theorem dc_207_53 : decode (sm_cc 207) 53 = .ok (.getfield 15, 3) := by decide +kernel
theorem dc_207_56 : decode (sm_cc 207) 56 = .ok (.iload_n 1, 1) := by decide +kernel
theorem dc_207_57 : decode (sm_cc 207) 57 = .ok (.ldc2_w 195, 3) := by decide +kernel
theorem cj_207_195 : sm_at mt_cj (sm_ow 207) 195 = some (195, (3458764513820540928), 1714) := by decide +kernel
theorem dc_207_60 : decode (sm_cc 207) 60 = .ok (.lload_n 2, 1) := by decide +kernel
theorem dc_207_61 : decode (sm_cc 207) 61 = .ok (.aload_n 0, 1) := by decide +kernel
theorem dc_207_62 : decode (sm_cc 207) 62 = .ok (.getfield 15, 3) := by decide +kernel
theorem dc_207_65 : decode (sm_cc 207) 65 = .ok (.iconst 1, 1) := by decide +kernel
theorem dc_207_66 : decode (sm_cc 207) 66 = .ok (.invokevirtual 111, 3) := by decide +kernel
theorem dc_207_69 : decode (sm_cc 207) 69 = .ok (.iload 4, 2) := by decide +kernel
theorem dc_207_71 : decode (sm_cc 207) 71 = .ok (.invokestatic 119, 3) := by decide +kernel
theorem kr_207_119 : sm_at mt_k (sm_ow 207) 119 = some (119, 3, 193, 1, 1639) := by decide +kernel
theorem np_193 : sm_np 193 = 3 := by decide +kernel
theorem dc_207_74 : decode (sm_cc 207) 74 = .ok (.invokestatic 127, 3) := by decide +kernel
theorem kr_207_127 : sm_at mt_k (sm_ow 207) 127 = some (127, 3, 17, 1, 1643) := by decide +kernel
theorem dc_207_77 : decode (sm_cc 207) 77 = .ok (.lconst 0, 1) := by decide +kernel
theorem dc_207_78 : decode (sm_cc 207) 78 = .ok (.invokevirtual 31, 3) := by decide +kernel
theorem kr_207_31 : sm_at mt_k (sm_ow 207) 31 = some (31, 1, 148, 1, 1621) := by decide +kernel
theorem dc_207_81 : decode (sm_cc 207) 81 = .ok (.ireturn, 1) := by decide +kernel
theorem rt_207 : sm_rt 207 = some .int := by decide +kernel
theorem dc_207_48 : decode (sm_cc 207) 48 = .ok (.iload 4, 2) := by decide +kernel
theorem dc_207_50 : decode (sm_cc 207) 50 = .ok (.ineg, 1) := by decide +kernel
theorem dc_207_51 : decode (sm_cc 207) 51 = .ok (.ireturn, 1) := by decide +kernel
theorem dc_207_24 : decode (sm_cc 207) 24 = .ok (.iconst 2, 1) := by decide +kernel
theorem dc_207_25 : decode (sm_cc 207) 25 = .ok (.ireturn, 1) := by decide +kernel
theorem ml_208 : sm_ml 208 = 5 := by decide +kernel
theorem dc_208_0 : decode (sm_cc 208) 0 = .ok (.lload_n 0, 1) := by decide +kernel
theorem dc_208_1 : decode (sm_cc 208) 1 = .ok (.lconst 0, 1) := by decide +kernel
theorem dc_208_2 : decode (sm_cc 208) 2 = .ok (.lcmp, 1) := by decide +kernel
theorem dc_208_3 : decode (sm_cc 208) 3 = .ok (.ifCond .ge (10), 3) := by decide +kernel
theorem dc_208_13 : decode (sm_cc 208) 13 = .ok (.lload_n 0, 1) := by decide +kernel
theorem dc_208_14 : decode (sm_cc 208) 14 = .ok (.lstore_n 3, 1) := by decide +kernel
theorem dc_208_15 : decode (sm_cc 208) 15 = .ok (.lload_n 3, 1) := by decide +kernel
theorem dc_208_16 : decode (sm_cc 208) 16 = .ok (.lconst 0, 1) := by decide +kernel
theorem dc_208_17 : decode (sm_cc 208) 17 = .ok (.lcmp, 1) := by decide +kernel
theorem dc_208_18 : decode (sm_cc 208) 18 = .ok (.ifCond .lt (10), 3) := by decide +kernel
theorem dc_208_28 : decode (sm_cc 208) 28 = .ok (.bipush (-3), 2) := by decide +kernel
theorem dc_208_30 : decode (sm_cc 208) 30 = .ok (.goto (5), 3) := by decide +kernel
theorem dc_208_35 : decode (sm_cc 208) 35 = .ok (.ireturn, 1) := by decide +kernel
theorem rt_208 : sm_rt 208 = some .int := by decide +kernel
theorem dc_208_21 : decode (sm_cc 208) 21 = .ok (.lload_n 3, 1) := by decide +kernel
theorem dc_208_22 : decode (sm_cc 208) 22 = .ok (.iload_n 2, 1) := by decide +kernel
theorem dc_208_23 : decode (sm_cc 208) 23 = .ok (.i2l, 1) := by decide +kernel
theorem dc_208_24 : decode (sm_cc 208) 24 = .ok (.lcmp, 1) := by decide +kernel
theorem dc_208_25 : decode (sm_cc 208) 25 = .ok (.ifCond .lt (8), 3) := by decide +kernel
theorem dc_208_33 : decode (sm_cc 208) 33 = .ok (.lload_n 3, 1) := by decide +kernel
theorem dc_208_34 : decode (sm_cc 208) 34 = .ok (.l2i, 1) := by decide +kernel
theorem dc_208_6 : decode (sm_cc 208) 6 = .ok (.lload_n 0, 1) := by decide +kernel
theorem dc_208_7 : decode (sm_cc 208) 7 = .ok (.iload_n 2, 1) := by decide +kernel
theorem dc_208_8 : decode (sm_cc 208) 8 = .ok (.i2l, 1) := by decide +kernel
theorem dc_208_9 : decode (sm_cc 208) 9 = .ok (.ladd, 1) := by decide +kernel
theorem dc_208_10 : decode (sm_cc 208) 10 = .ok (.goto (4), 3) := by decide +kernel
theorem ml_210 : sm_ml 210 = 9 := by decide +kernel
theorem dc_210_0 : decode (sm_cc 210) 0 = .ok (.aload_n 0, 1) := by decide +kernel
theorem dc_210_1 : decode (sm_cc 210) 1 = .ok (.getfield 15, 3) := by decide +kernel
theorem fr_210_15 : sm_at mt_f (sm_ow 210) 15 = some (15, 6, 1, 0, 827) := by decide +kernel
theorem dc_210_4 : decode (sm_cc 210) 4 = .ok (.iload_n 1, 1) := by decide +kernel
theorem dc_210_5 : decode (sm_cc 210) 5 = .ok (.invokevirtual 169, 3) := by decide +kernel
theorem kr_210_169 : sm_at mt_k (sm_ow 210) 169 = some (169, 1, 136, 1, 1695) := by decide +kernel
theorem dc_210_8 : decode (sm_cc 210) 8 = .ok (.istore_n 3, 1) := by decide +kernel
theorem dc_210_9 : decode (sm_cc 210) 9 = .ok (.aload_n 0, 1) := by decide +kernel
theorem dc_210_10 : decode (sm_cc 210) 10 = .ok (.getfield 15, 3) := by decide +kernel
theorem dc_210_13 : decode (sm_cc 210) 13 = .ok (.iload_n 2, 1) := by decide +kernel
theorem dc_210_14 : decode (sm_cc 210) 14 = .ok (.invokevirtual 70, 3) := by decide +kernel
theorem kr_210_70 : sm_at mt_k (sm_ow 210) 70 = some (70, 1, 132, 1, 1627) := by decide +kernel
theorem dc_210_17 : decode (sm_cc 210) 17 = .ok (.lstore 4, 2) := by decide +kernel
theorem dc_210_19 : decode (sm_cc 210) 19 = .ok (.aload_n 0, 1) := by decide +kernel
theorem dc_210_20 : decode (sm_cc 210) 20 = .ok (.getfield 15, 3) := by decide +kernel
theorem dc_210_23 : decode (sm_cc 210) 23 = .ok (.iload_n 2, 1) := by decide +kernel
theorem dc_210_24 : decode (sm_cc 210) 24 = .ok (.invokevirtual 111, 3) := by decide +kernel
theorem kr_210_111 : sm_at mt_k (sm_ow 210) 111 = some (111, 1, 135, 1, 1626) := by decide +kernel
theorem dc_210_27 : decode (sm_cc 210) 27 = .ok (.lstore 6, 2) := by decide +kernel
theorem dc_210_29 : decode (sm_cc 210) 29 = .ok (.aload_n 0, 1) := by decide +kernel
theorem dc_210_30 : decode (sm_cc 210) 30 = .ok (.getfield 9, 3) := by decide +kernel
theorem fr_210_9 : sm_at mt_f (sm_ow 210) 9 = some (9, 6, 0, 0, 826) := by decide +kernel
theorem dc_210_33 : decode (sm_cc 210) 33 = .ok (.iload_n 3, 1) := by decide +kernel
theorem dc_210_34 : decode (sm_cc 210) 34 = .ok (.invokevirtual 171, 3) := by decide +kernel
theorem kr_210_171 : sm_at mt_k (sm_ow 210) 171 = some (171, 1, 138, 1, 1696) := by decide +kernel
theorem dc_210_37 : decode (sm_cc 210) 37 = .ok (.iconst 1, 1) := by decide +kernel
theorem dc_210_38 : decode (sm_cc 210) 38 = .ok (.if_icmp .ne (31), 3) := by decide +kernel
theorem dc_210_69 : decode (sm_cc 210) 69 = .ok (.aload_n 0, 1) := by decide +kernel
theorem dc_210_70 : decode (sm_cc 210) 70 = .ok (.getfield 9, 3) := by decide +kernel
theorem dc_210_73 : decode (sm_cc 210) 73 = .ok (.iload_n 3, 1) := by decide +kernel
theorem dc_210_74 : decode (sm_cc 210) 74 = .ok (.invokevirtual 171, 3) := by decide +kernel
theorem dc_210_77 : decode (sm_cc 210) 77 = .ok (.iconst 2, 1) := by decide +kernel
theorem dc_210_78 : decode (sm_cc 210) 78 = .ok (.if_icmp .ne (11), 3) := by decide +kernel
theorem dc_210_89 : decode (sm_cc 210) 89 = .ok (.bipush (-2), 2) := by decide +kernel
theorem dc_210_91 : decode (sm_cc 210) 91 = .ok (.ireturn, 1) := by decide +kernel
theorem rt_210 : sm_rt 210 = some .int := by decide +kernel
theorem dc_210_81 : decode (sm_cc 210) 81 = .ok (.lload 4, 2) := by decide +kernel
theorem dc_210_83 : decode (sm_cc 210) 83 = .ok (.invokestatic 174, 3) := by decide +kernel
theorem kr_210_174 : sm_at mt_k (sm_ow 210) 174 = some (174, 3, 205, 1, 1697) := by decide +kernel
theorem np_205 : sm_np 205 = 1 := by decide +kernel
theorem dc_210_86 : decode (sm_cc 210) 86 = .ok (.ifCond .ne (6), 3) := by decide +kernel
theorem dc_210_92 : decode (sm_cc 210) 92 = .ok (.aload_n 0, 1) := by decide +kernel
theorem dc_210_93 : decode (sm_cc 210) 93 = .ok (.getfield 9, 3) := by decide +kernel
theorem dc_210_96 : decode (sm_cc 210) 96 = .ok (.iload_n 3, 1) := by decide +kernel
theorem dc_210_97 : decode (sm_cc 210) 97 = .ok (.lload 4, 2) := by decide +kernel
theorem dc_210_99 : decode (sm_cc 210) 99 = .ok (.lload 6, 2) := by decide +kernel
theorem dc_210_101 : decode (sm_cc 210) 101 = .ok (.invokevirtual 178, 3) := by decide +kernel
theorem kr_210_178 : sm_at mt_k (sm_ow 210) 178 = some (178, 1, 206, 1, 1701) := by decide +kernel
theorem dc_210_104 : decode (sm_cc 210) 104 = .ok (.istore 8, 2) := by decide +kernel
theorem dc_210_106 : decode (sm_cc 210) 106 = .ok (.iload 8, 2) := by decide +kernel
theorem dc_210_108 : decode (sm_cc 210) 108 = .ok (.ifCond .ge (8), 3) := by decide +kernel
theorem dc_210_116 : decode (sm_cc 210) 116 = .ok (.iload 8, 2) := by decide +kernel
theorem dc_210_118 : decode (sm_cc 210) 118 = .ok (.ireturn, 1) := by decide +kernel
theorem dc_210_111 : decode (sm_cc 210) 111 = .ok (.bipush (-4), 2) := by decide +kernel
theorem dc_210_113 : decode (sm_cc 210) 113 = .ok (.goto (5), 3) := by decide +kernel
theorem dc_210_41 : decode (sm_cc 210) 41 = .ok (.lload 4, 2) := by decide +kernel
theorem dc_210_43 : decode (sm_cc 210) 43 = .ok (.invokestatic 74, 3) := by decide +kernel
theorem kr_210_74 : sm_at mt_k (sm_ow 210) 74 = some (74, 3, 134, 1, 1628) := by decide +kernel
theorem dc_210_46 : decode (sm_cc 210) 46 = .ok (.iconst 2, 1) := by decide +kernel
theorem dc_210_47 : decode (sm_cc 210) 47 = .ok (.if_icmp .ne (19), 3) := by decide +kernel
theorem dc_210_50 : decode (sm_cc 210) 50 = .ok (.lload 6, 2) := by decide +kernel
theorem dc_210_52 : decode (sm_cc 210) 52 = .ok (.aload_n 0, 1) := by decide +kernel
theorem dc_210_53 : decode (sm_cc 210) 53 = .ok (.getfield 9, 3) := by decide +kernel
theorem dc_210_56 : decode (sm_cc 210) 56 = .ok (.iload_n 3, 1) := by decide +kernel
theorem dc_210_57 : decode (sm_cc 210) 57 = .ok (.invokevirtual 136, 3) := by decide +kernel
theorem kr_210_136 : sm_at mt_k (sm_ow 210) 136 = some (136, 1, 140, 1, 1649) := by decide +kernel
theorem dc_210_60 : decode (sm_cc 210) 60 = .ok (.invokestatic 188, 3) := by decide +kernel
theorem kr_210_188 : sm_at mt_k (sm_ow 210) 188 = some (188, 2, 208, 0, 1711) := by decide +kernel
theorem dc_210_63 : decode (sm_cc 210) 63 = .ok (.goto (5), 3) := by decide +kernel
theorem dc_210_68 : decode (sm_cc 210) 68 = .ok (.ireturn, 1) := by decide +kernel
theorem dc_210_66 : decode (sm_cc 210) 66 = .ok (.bipush (-2), 2) := by decide +kernel
theorem ml_211 : sm_ml 211 = 10 := by decide +kernel
theorem dc_211_0 : decode (sm_cc 211) 0 = .ok (.aload_n 0, 1) := by decide +kernel
theorem dc_211_1 : decode (sm_cc 211) 1 = .ok (.iload_n 1, 1) := by decide +kernel
theorem dc_211_2 : decode (sm_cc 211) 2 = .ok (.iload_n 2, 1) := by decide +kernel
theorem dc_211_3 : decode (sm_cc 211) 3 = .ok (.invokevirtual 192, 3) := by decide +kernel
theorem kr_211_192 : sm_at mt_k (sm_ow 211) 192 = some (192, 0, 210, 0, 1719) := by decide +kernel
theorem dc_211_6 : decode (sm_cc 211) 6 = .ok (.istore 4, 2) := by decide +kernel
theorem dc_211_8 : decode (sm_cc 211) 8 = .ok (.aload_n 0, 1) := by decide +kernel
theorem dc_211_9 : decode (sm_cc 211) 9 = .ok (.getfield 15, 3) := by decide +kernel
theorem fr_211_15 : sm_at mt_f (sm_ow 211) 15 = some (15, 6, 1, 0, 827) := by decide +kernel
theorem dc_211_12 : decode (sm_cc 211) 12 = .ok (.iload_n 1, 1) := by decide +kernel
theorem dc_211_13 : decode (sm_cc 211) 13 = .ok (.invokevirtual 169, 3) := by decide +kernel
theorem kr_211_169 : sm_at mt_k (sm_ow 211) 169 = some (169, 1, 136, 1, 1695) := by decide +kernel
theorem dc_211_16 : decode (sm_cc 211) 16 = .ok (.istore 5, 2) := by decide +kernel
theorem dc_211_18 : decode (sm_cc 211) 18 = .ok (.aload_n 0, 1) := by decide +kernel
theorem dc_211_19 : decode (sm_cc 211) 19 = .ok (.getfield 15, 3) := by decide +kernel
theorem dc_211_22 : decode (sm_cc 211) 22 = .ok (.iload_n 3, 1) := by decide +kernel
theorem dc_211_23 : decode (sm_cc 211) 23 = .ok (.invokevirtual 70, 3) := by decide +kernel
theorem kr_211_70 : sm_at mt_k (sm_ow 211) 70 = some (70, 1, 132, 1, 1627) := by decide +kernel
theorem dc_211_26 : decode (sm_cc 211) 26 = .ok (.lstore 6, 2) := by decide +kernel
theorem dc_211_28 : decode (sm_cc 211) 28 = .ok (.aload_n 0, 1) := by decide +kernel
theorem dc_211_29 : decode (sm_cc 211) 29 = .ok (.getfield 15, 3) := by decide +kernel
theorem dc_211_32 : decode (sm_cc 211) 32 = .ok (.iload_n 3, 1) := by decide +kernel
theorem dc_211_33 : decode (sm_cc 211) 33 = .ok (.invokevirtual 111, 3) := by decide +kernel
theorem kr_211_111 : sm_at mt_k (sm_ow 211) 111 = some (111, 1, 135, 1, 1626) := by decide +kernel
theorem dc_211_36 : decode (sm_cc 211) 36 = .ok (.lstore 8, 2) := by decide +kernel
theorem dc_211_38 : decode (sm_cc 211) 38 = .ok (.iload 4, 2) := by decide +kernel
theorem dc_211_40 : decode (sm_cc 211) 40 = .ok (.ifCond .lt (21), 3) := by decide +kernel
theorem dc_211_61 : decode (sm_cc 211) 61 = .ok (.iload 4, 2) := by decide +kernel
theorem dc_211_63 : decode (sm_cc 211) 63 = .ok (.bipush (-4), 2) := by decide +kernel
theorem dc_211_65 : decode (sm_cc 211) 65 = .ok (.if_icmp .eq (7), 3) := by decide +kernel
theorem dc_211_72 : decode (sm_cc 211) 72 = .ok (.aload_n 0, 1) := by decide +kernel
theorem dc_211_73 : decode (sm_cc 211) 73 = .ok (.getfield 9, 3) := by decide +kernel
theorem fr_211_9 : sm_at mt_f (sm_ow 211) 9 = some (9, 6, 0, 0, 826) := by decide +kernel
theorem dc_211_76 : decode (sm_cc 211) 76 = .ok (.iload 5, 2) := by decide +kernel
theorem dc_211_78 : decode (sm_cc 211) 78 = .ok (.aload_n 0, 1) := by decide +kernel
theorem dc_211_79 : decode (sm_cc 211) 79 = .ok (.getfield 15, 3) := by decide +kernel
theorem dc_211_82 : decode (sm_cc 211) 82 = .ok (.iload_n 2, 1) := by decide +kernel
theorem dc_211_83 : decode (sm_cc 211) 83 = .ok (.invokevirtual 70, 3) := by decide +kernel
theorem dc_211_86 : decode (sm_cc 211) 86 = .ok (.aload_n 0, 1) := by decide +kernel
theorem dc_211_87 : decode (sm_cc 211) 87 = .ok (.getfield 15, 3) := by decide +kernel
theorem dc_211_90 : decode (sm_cc 211) 90 = .ok (.iload_n 2, 1) := by decide +kernel
theorem dc_211_91 : decode (sm_cc 211) 91 = .ok (.invokevirtual 111, 3) := by decide +kernel
theorem dc_211_94 : decode (sm_cc 211) 94 = .ok (.lload 6, 2) := by decide +kernel
theorem dc_211_96 : decode (sm_cc 211) 96 = .ok (.lload 8, 2) := by decide +kernel
theorem dc_211_98 : decode (sm_cc 211) 98 = .ok (.invokevirtual 201, 3) := by decide +kernel
theorem ow_183 : 2 = sm_ow 183 := by decide +kernel
theorem kr_211_201 : sm_at mt_k (sm_ow 211) 201 = some (201, 1, 183, 1, 1728) := by decide +kernel
theorem np_183 : sm_np 183 = 5 := by decide +kernel
theorem dc_211_101 : decode (sm_cc 211) 101 = .ok (.ifCond .ne (6), 3) := by decide +kernel
theorem dc_211_107 : decode (sm_cc 211) 107 = .ok (.aload_n 0, 1) := by decide +kernel
theorem dc_211_108 : decode (sm_cc 211) 108 = .ok (.getfield 15, 3) := by decide +kernel
theorem dc_211_111 : decode (sm_cc 211) 111 = .ok (.iconst 3, 1) := by decide +kernel
theorem dc_211_112 : decode (sm_cc 211) 112 = .ok (.invokevirtual 205, 3) := by decide +kernel
theorem kr_211_205 : sm_at mt_k (sm_ow 211) 205 = some (205, 1, 141, 1, 1729) := by decide +kernel
theorem dc_211_115 : decode (sm_cc 211) 115 = .ok (.iconst 0, 1) := by decide +kernel
theorem dc_211_116 : decode (sm_cc 211) 116 = .ok (.ireturn, 1) := by decide +kernel
theorem rt_211 : sm_rt 211 = some .int := by decide +kernel
theorem dc_211_104 : decode (sm_cc 211) 104 = .ok (.bipush (8), 2) := by decide +kernel
theorem dc_211_106 : decode (sm_cc 211) 106 = .ok (.ireturn, 1) := by decide +kernel
theorem dc_211_68 : decode (sm_cc 211) 68 = .ok (.iload 4, 2) := by decide +kernel
theorem dc_211_70 : decode (sm_cc 211) 70 = .ok (.ineg, 1) := by decide +kernel
theorem dc_211_71 : decode (sm_cc 211) 71 = .ok (.ireturn, 1) := by decide +kernel
theorem dc_211_43 : decode (sm_cc 211) 43 = .ok (.aload_n 0, 1) := by decide +kernel
theorem dc_211_44 : decode (sm_cc 211) 44 = .ok (.getfield 9, 3) := by decide +kernel
theorem dc_211_47 : decode (sm_cc 211) 47 = .ok (.iload 5, 2) := by decide +kernel
theorem dc_211_49 : decode (sm_cc 211) 49 = .ok (.iload 4, 2) := by decide +kernel
theorem dc_211_51 : decode (sm_cc 211) 51 = .ok (.lload 6, 2) := by decide +kernel
theorem dc_211_53 : decode (sm_cc 211) 53 = .ok (.lload 8, 2) := by decide +kernel
theorem dc_211_55 : decode (sm_cc 211) 55 = .ok (.invokevirtual 197, 3) := by decide +kernel
theorem kr_211_197 : sm_at mt_k (sm_ow 211) 197 = some (197, 1, 174, 1, 1727) := by decide +kernel
theorem dc_211_58 : decode (sm_cc 211) 58 = .ok (.goto (49), 3) := by decide +kernel
theorem ml_212 : sm_ml 212 = 2 := by decide +kernel
theorem dc_212_0 : decode (sm_cc 212) 0 = .ok (.aload_n 0, 1) := by decide +kernel
theorem dc_212_1 : decode (sm_cc 212) 1 = .ok (.iconst 1, 1) := by decide +kernel
theorem dc_212_2 : decode (sm_cc 212) 2 = .ok (.iconst 0, 1) := by decide +kernel
theorem dc_212_3 : decode (sm_cc 212) 3 = .ok (.invokevirtual 192, 3) := by decide +kernel
theorem kr_212_192 : sm_at mt_k (sm_ow 212) 192 = some (192, 0, 210, 0, 1719) := by decide +kernel
theorem dc_212_6 : decode (sm_cc 212) 6 = .ok (.istore_n 1, 1) := by decide +kernel
theorem dc_212_7 : decode (sm_cc 212) 7 = .ok (.iload_n 1, 1) := by decide +kernel
theorem dc_212_8 : decode (sm_cc 212) 8 = .ok (.ifCond .ge (6), 3) := by decide +kernel
theorem dc_212_14 : decode (sm_cc 212) 14 = .ok (.aload_n 0, 1) := by decide +kernel
theorem dc_212_15 : decode (sm_cc 212) 15 = .ok (.getfield 9, 3) := by decide +kernel
theorem fr_212_9 : sm_at mt_f (sm_ow 212) 9 = some (9, 6, 0, 0, 826) := by decide +kernel
theorem dc_212_18 : decode (sm_cc 212) 18 = .ok (.aload_n 0, 1) := by decide +kernel
theorem dc_212_19 : decode (sm_cc 212) 19 = .ok (.getfield 15, 3) := by decide +kernel
theorem fr_212_15 : sm_at mt_f (sm_ow 212) 15 = some (15, 6, 1, 0, 827) := by decide +kernel
theorem dc_212_22 : decode (sm_cc 212) 22 = .ok (.iconst 1, 1) := by decide +kernel
theorem dc_212_23 : decode (sm_cc 212) 23 = .ok (.invokevirtual 169, 3) := by decide +kernel
theorem kr_212_169 : sm_at mt_k (sm_ow 212) 169 = some (169, 1, 136, 1, 1695) := by decide +kernel
theorem dc_212_26 : decode (sm_cc 212) 26 = .ok (.iload_n 1, 1) := by decide +kernel
theorem dc_212_27 : decode (sm_cc 212) 27 = .ok (.invokevirtual 209, 3) := by decide +kernel
theorem ow_213 : 2 = sm_ow 213 := by decide +kernel
theorem kr_212_209 : sm_at mt_k (sm_ow 212) 209 = some (209, 1, 213, 1, 1734) := by decide +kernel
theorem np_213 : sm_np 213 = 2 := by decide +kernel
theorem dc_212_30 : decode (sm_cc 212) 30 = .ok (.aload_n 0, 1) := by decide +kernel
theorem dc_212_31 : decode (sm_cc 212) 31 = .ok (.getfield 15, 3) := by decide +kernel
theorem dc_212_34 : decode (sm_cc 212) 34 = .ok (.iconst 2, 1) := by decide +kernel
theorem dc_212_35 : decode (sm_cc 212) 35 = .ok (.invokevirtual 205, 3) := by decide +kernel
theorem kr_212_205 : sm_at mt_k (sm_ow 212) 205 = some (205, 1, 141, 1, 1729) := by decide +kernel
theorem dc_212_38 : decode (sm_cc 212) 38 = .ok (.iconst 0, 1) := by decide +kernel
theorem dc_212_39 : decode (sm_cc 212) 39 = .ok (.ireturn, 1) := by decide +kernel
theorem rt_212 : sm_rt 212 = some .int := by decide +kernel
theorem dc_212_11 : decode (sm_cc 212) 11 = .ok (.iload_n 1, 1) := by decide +kernel
theorem dc_212_12 : decode (sm_cc 212) 12 = .ok (.ineg, 1) := by decide +kernel
theorem dc_212_13 : decode (sm_cc 212) 13 = .ok (.ireturn, 1) := by decide +kernel
theorem ml_214 : sm_ml 214 = 4 := by decide +kernel
theorem dc_214_0 : decode (sm_cc 214) 0 = .ok (.iconst 0, 1) := by decide +kernel
theorem dc_214_1 : decode (sm_cc 214) 1 = .ok (.istore_n 2, 1) := by decide +kernel
theorem dc_214_2 : decode (sm_cc 214) 2 = .ok (.aload_n 0, 1) := by decide +kernel
theorem dc_214_3 : decode (sm_cc 214) 3 = .ok (.iconst 2, 1) := by decide +kernel
theorem dc_214_4 : decode (sm_cc 214) 4 = .ok (.invokevirtual 39, 3) := by decide +kernel
theorem kr_214_39 : sm_at mt_k (sm_ow 214) 39 = some (39, 0, 191, 0, 1630) := by decide +kernel
theorem dc_214_7 : decode (sm_cc 214) 7 = .ok (.ifCond .eq (26), 3) := by decide +kernel
theorem dc_214_10 : decode (sm_cc 214) 10 = .ok (.aload_n 0, 1) := by decide +kernel
theorem dc_214_11 : decode (sm_cc 214) 11 = .ok (.getfield 15, 3) := by decide +kernel
theorem fr_214_15 : sm_at mt_f (sm_ow 214) 15 = some (15, 6, 1, 0, 827) := by decide +kernel
theorem dc_214_14 : decode (sm_cc 214) 14 = .ok (.iconst 1, 1) := by decide +kernel
theorem dc_214_15 : decode (sm_cc 214) 15 = .ok (.invokevirtual 111, 3) := by decide +kernel
theorem kr_214_111 : sm_at mt_k (sm_ow 214) 111 = some (111, 1, 135, 1, 1626) := by decide +kernel
theorem dc_214_18 : decode (sm_cc 214) 18 = .ok (.aload_n 0, 1) := by decide +kernel
theorem dc_214_19 : decode (sm_cc 214) 19 = .ok (.getfield 15, 3) := by decide +kernel
theorem dc_214_22 : decode (sm_cc 214) 22 = .ok (.iconst 0, 1) := by decide +kernel
theorem dc_214_23 : decode (sm_cc 214) 23 = .ok (.invokevirtual 111, 3) := by decide +kernel
theorem dc_214_26 : decode (sm_cc 214) 26 = .ok (.invokestatic 159, 3) := by decide +kernel
theorem kr_214_159 : sm_at mt_k (sm_ow 214) 159 = some (159, 2, 215, 0, 1743) := by decide +kernel
theorem np_215 : sm_np 215 = 2 := by decide +kernel
theorem dc_214_29 : decode (sm_cc 214) 29 = .ok (.istore_n 2, 1) := by decide +kernel
theorem dc_214_30 : decode (sm_cc 214) 30 = .ok (.goto (21), 3) := by decide +kernel
theorem dc_214_51 : decode (sm_cc 214) 51 = .ok (.iconst 0, 1) := by decide +kernel
theorem dc_214_52 : decode (sm_cc 214) 52 = .ok (.istore_n 3, 1) := by decide +kernel
theorem dc_214_53 : decode (sm_cc 214) 53 = .ok (.iload_n 1, 1) := by decide +kernel
theorem dc_214_54 : decode (sm_cc 214) 54 = .ok (.tableswitch (65) 34 36 #[26, 39, 52], 26) := by decide +kernel
theorem dc_214_80 : decode (sm_cc 214) 80 = .ok (.iload_n 2, 1) := by decide +kernel
theorem dc_214_81 : decode (sm_cc 214) 81 = .ok (.ifCond .ge (7), 3) := by decide +kernel
theorem dc_214_88 : decode (sm_cc 214) 88 = .ok (.iconst 0, 1) := by decide +kernel
theorem dc_214_89 : decode (sm_cc 214) 89 = .ok (.istore_n 3, 1) := by decide +kernel
theorem dc_214_90 : decode (sm_cc 214) 90 = .ok (.goto (39), 3) := by decide +kernel
theorem dc_214_129 : decode (sm_cc 214) 129 = .ok (.aload_n 0, 1) := by decide +kernel
theorem dc_214_130 : decode (sm_cc 214) 130 = .ok (.getfield 15, 3) := by decide +kernel
theorem dc_214_133 : decode (sm_cc 214) 133 = .ok (.iconst 2, 1) := by decide +kernel
theorem dc_214_134 : decode (sm_cc 214) 134 = .ok (.ldc2_w 23, 3) := by decide +kernel
theorem cj_214_23 : sm_at mt_cj (sm_ow 214) 23 = some (23, (2305843009213693952), 1619) := by decide +kernel
theorem dc_214_137 : decode (sm_cc 214) 137 = .ok (.iload_n 3, 1) := by decide +kernel
theorem dc_214_138 : decode (sm_cc 214) 138 = .ok (.ifCond .eq (7), 3) := by decide +kernel
theorem dc_214_145 : decode (sm_cc 214) 145 = .ok (.lconst 0, 1) := by decide +kernel
theorem dc_214_146 : decode (sm_cc 214) 146 = .ok (.invokevirtual 31, 3) := by decide +kernel
theorem kr_214_31 : sm_at mt_k (sm_ow 214) 31 = some (31, 1, 148, 1, 1621) := by decide +kernel
theorem dc_214_149 : decode (sm_cc 214) 149 = .ok (.ireturn, 1) := by decide +kernel
theorem rt_214 : sm_rt 214 = some .int := by decide +kernel
theorem dc_214_84 : decode (sm_cc 214) 84 = .ok (.iconst 1, 1) := by decide +kernel
theorem dc_214_85 : decode (sm_cc 214) 85 = .ok (.goto (4), 3) := by decide +kernel
theorem dc_214_141 : decode (sm_cc 214) 141 = .ok (.lconst 1, 1) := by decide +kernel
theorem dc_214_142 : decode (sm_cc 214) 142 = .ok (.goto (4), 3) := by decide +kernel
theorem dc_214_93 : decode (sm_cc 214) 93 = .ok (.iload_n 2, 1) := by decide +kernel
theorem dc_214_94 : decode (sm_cc 214) 94 = .ok (.ifCond .gt (7), 3) := by decide +kernel
theorem dc_214_101 : decode (sm_cc 214) 101 = .ok (.iconst 0, 1) := by decide +kernel
theorem dc_214_102 : decode (sm_cc 214) 102 = .ok (.istore_n 3, 1) := by decide +kernel
theorem dc_214_103 : decode (sm_cc 214) 103 = .ok (.goto (26), 3) := by decide +kernel
theorem dc_214_97 : decode (sm_cc 214) 97 = .ok (.iconst 1, 1) := by decide +kernel
theorem dc_214_98 : decode (sm_cc 214) 98 = .ok (.goto (4), 3) := by decide +kernel
theorem dc_214_106 : decode (sm_cc 214) 106 = .ok (.iload_n 2, 1) := by decide +kernel
theorem dc_214_107 : decode (sm_cc 214) 107 = .ok (.ifCond .le (7), 3) := by decide +kernel
theorem dc_214_114 : decode (sm_cc 214) 114 = .ok (.iconst 0, 1) := by decide +kernel
theorem dc_214_115 : decode (sm_cc 214) 115 = .ok (.istore_n 3, 1) := by decide +kernel
theorem dc_214_116 : decode (sm_cc 214) 116 = .ok (.goto (13), 3) := by decide +kernel
theorem dc_214_110 : decode (sm_cc 214) 110 = .ok (.iconst 1, 1) := by decide +kernel
theorem dc_214_111 : decode (sm_cc 214) 111 = .ok (.goto (4), 3) := by decide +kernel
theorem dc_214_119 : decode (sm_cc 214) 119 = .ok (.iload_n 2, 1) := by decide +kernel
theorem dc_214_120 : decode (sm_cc 214) 120 = .ok (.ifCond .lt (7), 3) := by decide +kernel
theorem dc_214_127 : decode (sm_cc 214) 127 = .ok (.iconst 0, 1) := by decide +kernel
theorem dc_214_128 : decode (sm_cc 214) 128 = .ok (.istore_n 3, 1) := by decide +kernel
theorem dc_214_123 : decode (sm_cc 214) 123 = .ok (.iconst 1, 1) := by decide +kernel
theorem dc_214_124 : decode (sm_cc 214) 124 = .ok (.goto (4), 3) := by decide +kernel
theorem dc_214_33 : decode (sm_cc 214) 33 = .ok (.aload_n 0, 1) := by decide +kernel
theorem dc_214_34 : decode (sm_cc 214) 34 = .ok (.iconst 3, 1) := by decide +kernel
theorem dc_214_35 : decode (sm_cc 214) 35 = .ok (.invokevirtual 39, 3) := by decide +kernel
theorem dc_214_38 : decode (sm_cc 214) 38 = .ok (.ifCond .eq (11), 3) := by decide +kernel
theorem dc_214_41 : decode (sm_cc 214) 41 = .ok (.aload_n 0, 1) := by decide +kernel
theorem dc_214_42 : decode (sm_cc 214) 42 = .ok (.invokevirtual 164, 3) := by decide +kernel
theorem ow_216 : 6 = sm_ow 216 := by decide +kernel
theorem kr_214_164 : sm_at mt_k (sm_ow 214) 164 = some (164, 0, 216, 0, 1746) := by decide +kernel
theorem np_216 : sm_np 216 = 0 := by decide +kernel
theorem dc_214_45 : decode (sm_cc 214) 45 = .ok (.istore_n 2, 1) := by decide +kernel
theorem dc_214_46 : decode (sm_cc 214) 46 = .ok (.goto (5), 3) := by decide +kernel
theorem dc_214_49 : decode (sm_cc 214) 49 = .ok (.iconst 2, 1) := by decide +kernel
theorem dc_214_50 : decode (sm_cc 214) 50 = .ok (.ireturn, 1) := by decide +kernel
theorem ml_216 : sm_ml 216 = 4 := by decide +kernel
theorem dc_216_0 : decode (sm_cc 216) 0 = .ok (.ldc2_w 167, 3) := by decide +kernel
theorem cj_216_167 : sm_at mt_cj (sm_ow 216) 167 = some (167, (72057594037927935), 1750) := by decide +kernel
theorem dc_216_3 : decode (sm_cc 216) 3 = .ok (.lstore_n 1, 1) := by decide +kernel
theorem dc_216_4 : decode (sm_cc 216) 4 = .ok (.aload_n 0, 1) := by decide +kernel
theorem dc_216_5 : decode (sm_cc 216) 5 = .ok (.getfield 15, 3) := by decide +kernel
theorem fr_216_15 : sm_at mt_f (sm_ow 216) 15 = some (15, 6, 1, 0, 827) := by decide +kernel
theorem dc_216_8 : decode (sm_cc 216) 8 = .ok (.iconst 1, 1) := by decide +kernel
theorem dc_216_9 : decode (sm_cc 216) 9 = .ok (.invokevirtual 70, 3) := by decide +kernel
theorem kr_216_70 : sm_at mt_k (sm_ow 216) 70 = some (70, 1, 132, 1, 1627) := by decide +kernel
theorem dc_216_12 : decode (sm_cc 216) 12 = .ok (.lload_n 1, 1) := by decide +kernel
theorem dc_216_13 : decode (sm_cc 216) 13 = .ok (.land, 1) := by decide +kernel
theorem dc_216_14 : decode (sm_cc 216) 14 = .ok (.aload_n 0, 1) := by decide +kernel
theorem dc_216_15 : decode (sm_cc 216) 15 = .ok (.getfield 15, 3) := by decide +kernel
theorem dc_216_18 : decode (sm_cc 216) 18 = .ok (.iconst 0, 1) := by decide +kernel
theorem dc_216_19 : decode (sm_cc 216) 19 = .ok (.invokevirtual 70, 3) := by decide +kernel
theorem dc_216_22 : decode (sm_cc 216) 22 = .ok (.lload_n 1, 1) := by decide +kernel
theorem dc_216_23 : decode (sm_cc 216) 23 = .ok (.land, 1) := by decide +kernel
theorem dc_216_24 : decode (sm_cc 216) 24 = .ok (.invokestatic 159, 3) := by decide +kernel
theorem kr_216_159 : sm_at mt_k (sm_ow 216) 159 = some (159, 2, 215, 0, 1743) := by decide +kernel
theorem dc_216_27 : decode (sm_cc 216) 27 = .ok (.istore_n 3, 1) := by decide +kernel
theorem dc_216_28 : decode (sm_cc 216) 28 = .ok (.iload_n 3, 1) := by decide +kernel
theorem dc_216_29 : decode (sm_cc 216) 29 = .ok (.ifCond .eq (7), 3) := by decide +kernel
theorem dc_216_36 : decode (sm_cc 216) 36 = .ok (.aload_n 0, 1) := by decide +kernel
theorem dc_216_37 : decode (sm_cc 216) 37 = .ok (.getfield 15, 3) := by decide +kernel
theorem dc_216_40 : decode (sm_cc 216) 40 = .ok (.iconst 1, 1) := by decide +kernel
theorem dc_216_41 : decode (sm_cc 216) 41 = .ok (.invokevirtual 111, 3) := by decide +kernel
theorem kr_216_111 : sm_at mt_k (sm_ow 216) 111 = some (111, 1, 135, 1, 1626) := by decide +kernel
theorem dc_216_44 : decode (sm_cc 216) 44 = .ok (.aload_n 0, 1) := by decide +kernel
theorem dc_216_45 : decode (sm_cc 216) 45 = .ok (.getfield 15, 3) := by decide +kernel
theorem dc_216_48 : decode (sm_cc 216) 48 = .ok (.iconst 0, 1) := by decide +kernel
theorem dc_216_49 : decode (sm_cc 216) 49 = .ok (.invokevirtual 111, 3) := by decide +kernel
theorem dc_216_52 : decode (sm_cc 216) 52 = .ok (.invokestatic 159, 3) := by decide +kernel
theorem dc_216_55 : decode (sm_cc 216) 55 = .ok (.ireturn, 1) := by decide +kernel
theorem rt_216 : sm_rt 216 = some .int := by decide +kernel
theorem dc_216_32 : decode (sm_cc 216) 32 = .ok (.iload_n 3, 1) := by decide +kernel
theorem dc_216_33 : decode (sm_cc 216) 33 = .ok (.goto (22), 3) := by decide +kernel
theorem ml_218 : sm_ml 218 = 17 := by decide +kernel
theorem dc_218_0 : decode (sm_cc 218) 0 = .ok (.aload_n 0, 1) := by decide +kernel
theorem dc_218_1 : decode (sm_cc 218) 1 = .ok (.getfield 15, 3) := by decide +kernel
theorem fr_218_15 : sm_at mt_f (sm_ow 218) 15 = some (15, 6, 1, 0, 827) := by decide +kernel
theorem dc_218_4 : decode (sm_cc 218) 4 = .ok (.iconst 0, 1) := by decide +kernel
theorem dc_218_5 : decode (sm_cc 218) 5 = .ok (.invokevirtual 169, 3) := by decide +kernel
theorem kr_218_169 : sm_at mt_k (sm_ow 218) 169 = some (169, 1, 136, 1, 1695) := by decide +kernel
theorem dc_218_8 : decode (sm_cc 218) 8 = .ok (.istore_n 3, 1) := by decide +kernel
theorem dc_218_9 : decode (sm_cc 218) 9 = .ok (.aload_n 0, 1) := by decide +kernel
theorem dc_218_10 : decode (sm_cc 218) 10 = .ok (.iload_n 3, 1) := by decide +kernel
theorem dc_218_11 : decode (sm_cc 218) 11 = .ok (.invokevirtual 212, 3) := by decide +kernel
theorem ow_219 : 6 = sm_ow 219 := by decide +kernel
theorem kr_218_212 : sm_at mt_k (sm_ow 218) 212 = some (212, 0, 219, 0, 1759) := by decide +kernel
theorem np_219 : sm_np 219 = 1 := by decide +kernel
theorem dc_218_14 : decode (sm_cc 218) 14 = .ok (.ifCond .ne (5), 3) := by decide +kernel
theorem dc_218_19 : decode (sm_cc 218) 19 = .ok (.aload_n 0, 1) := by decide +kernel
theorem dc_218_20 : decode (sm_cc 218) 20 = .ok (.getfield 19, 3) := by decide +kernel
theorem fr_218_19 : sm_at mt_f (sm_ow 218) 19 = some (19, 6, 2, 0, 828) := by decide +kernel
theorem dc_218_23 : decode (sm_cc 218) 23 = .ok (.iload_n 1, 1) := by decide +kernel
theorem dc_218_24 : decode (sm_cc 218) 24 = .ok (.invokevirtual 215, 3) := by decide +kernel
theorem kr_218_215 : sm_at mt_k (sm_ow 218) 215 = some (215, 1, 181, 1, 1763) := by decide +kernel
theorem dc_218_27 : decode (sm_cc 218) 27 = .ok (.lstore 4, 2) := by decide +kernel
theorem dc_218_29 : decode (sm_cc 218) 29 = .ok (.aload_n 0, 1) := by decide +kernel
theorem dc_218_30 : decode (sm_cc 218) 30 = .ok (.getfield 19, 3) := by decide +kernel
theorem dc_218_33 : decode (sm_cc 218) 33 = .ok (.iload_n 1, 1) := by decide +kernel
theorem dc_218_34 : decode (sm_cc 218) 34 = .ok (.invokevirtual 220, 3) := by decide +kernel
theorem kr_218_220 : sm_at mt_k (sm_ow 218) 220 = some (220, 1, 182, 1, 1764) := by decide +kernel
theorem dc_218_37 : decode (sm_cc 218) 37 = .ok (.lstore 6, 2) := by decide +kernel
theorem dc_218_39 : decode (sm_cc 218) 39 = .ok (.aload_n 0, 1) := by decide +kernel
theorem dc_218_40 : decode (sm_cc 218) 40 = .ok (.getfield 9, 3) := by decide +kernel
theorem fr_218_9 : sm_at mt_f (sm_ow 218) 9 = some (9, 6, 0, 0, 826) := by decide +kernel
theorem dc_218_43 : decode (sm_cc 218) 43 = .ok (.iload_n 3, 1) := by decide +kernel
theorem dc_218_44 : decode (sm_cc 218) 44 = .ok (.invokevirtual 171, 3) := by decide +kernel
theorem kr_218_171 : sm_at mt_k (sm_ow 218) 171 = some (171, 1, 138, 1, 1696) := by decide +kernel
theorem dc_218_47 : decode (sm_cc 218) 47 = .ok (.iconst 5, 1) := by decide +kernel
theorem dc_218_48 : decode (sm_cc 218) 48 = .ok (.if_icmp .ne (22), 3) := by decide +kernel
theorem dc_218_70 : decode (sm_cc 218) 70 = .ok (.iconst 0, 1) := by decide +kernel
theorem dc_218_71 : decode (sm_cc 218) 71 = .ok (.istore 8, 2) := by decide +kernel
theorem dc_218_73 : decode (sm_cc 218) 73 = .ok (.aload_n 0, 1) := by decide +kernel
theorem dc_218_74 : decode (sm_cc 218) 74 = .ok (.getfield 9, 3) := by decide +kernel
theorem dc_218_77 : decode (sm_cc 218) 77 = .ok (.iload 8, 2) := by decide +kernel
theorem dc_218_79 : decode (sm_cc 218) 79 = .ok (.ifCond .eq (14), 3) := by decide +kernel
theorem dc_218_93 : decode (sm_cc 218) 93 = .ok (.iload_n 3, 1) := by decide +kernel
theorem dc_218_94 : decode (sm_cc 218) 94 = .ok (.lload 4, 2) := by decide +kernel
theorem dc_218_96 : decode (sm_cc 218) 96 = .ok (.lload 6, 2) := by decide +kernel
theorem dc_218_98 : decode (sm_cc 218) 98 = .ok (.invokevirtual 226, 3) := by decide +kernel
theorem kr_218_226 : sm_at mt_k (sm_ow 218) 226 = some (226, 1, 220, 1, 1766) := by decide +kernel
theorem dc_218_101 : decode (sm_cc 218) 101 = .ok (.istore 9, 2) := by decide +kernel
theorem dc_218_103 : decode (sm_cc 218) 103 = .ok (.iload 9, 2) := by decide +kernel
theorem dc_218_105 : decode (sm_cc 218) 105 = .ok (.ifCond .ne (6), 3) := by decide +kernel
theorem dc_218_111 : decode (sm_cc 218) 111 = .ok (.aload_n 0, 1) := by decide +kernel
theorem dc_218_112 : decode (sm_cc 218) 112 = .ok (.getfield 9, 3) := by decide +kernel
theorem dc_218_115 : decode (sm_cc 218) 115 = .ok (.iload 9, 2) := by decide +kernel
theorem dc_218_117 : decode (sm_cc 218) 117 = .ok (.lload 4, 2) := by decide +kernel
theorem dc_218_119 : decode (sm_cc 218) 119 = .ok (.lload 6, 2) := by decide +kernel
theorem dc_218_121 : decode (sm_cc 218) 121 = .ok (.invokevirtual 178, 3) := by decide +kernel
theorem kr_218_178 : sm_at mt_k (sm_ow 218) 178 = some (178, 1, 206, 1, 1701) := by decide +kernel
theorem dc_218_124 : decode (sm_cc 218) 124 = .ok (.istore 10, 2) := by decide +kernel
theorem dc_218_126 : decode (sm_cc 218) 126 = .ok (.aload_n 0, 1) := by decide +kernel
theorem dc_218_127 : decode (sm_cc 218) 127 = .ok (.getfield 9, 3) := by decide +kernel
theorem dc_218_130 : decode (sm_cc 218) 130 = .ok (.iload 9, 2) := by decide +kernel
theorem dc_218_132 : decode (sm_cc 218) 132 = .ok (.iload 10, 2) := by decide +kernel
theorem dc_218_134 : decode (sm_cc 218) 134 = .ok (.invokevirtual 181, 3) := by decide +kernel
theorem kr_218_181 : sm_at mt_k (sm_ow 218) 181 = some (181, 1, 156, 1, 1705) := by decide +kernel
theorem dc_218_137 : decode (sm_cc 218) 137 = .ok (.lstore 11, 2) := by decide +kernel
theorem dc_218_139 : decode (sm_cc 218) 139 = .ok (.aload_n 0, 1) := by decide +kernel
theorem dc_218_140 : decode (sm_cc 218) 140 = .ok (.getfield 9, 3) := by decide +kernel
theorem dc_218_143 : decode (sm_cc 218) 143 = .ok (.iload 9, 2) := by decide +kernel
theorem dc_218_145 : decode (sm_cc 218) 145 = .ok (.iload 10, 2) := by decide +kernel
theorem dc_218_147 : decode (sm_cc 218) 147 = .ok (.invokevirtual 185, 3) := by decide +kernel
theorem kr_218_185 : sm_at mt_k (sm_ow 218) 185 = some (185, 1, 158, 1, 1706) := by decide +kernel
theorem dc_218_150 : decode (sm_cc 218) 150 = .ok (.lstore 13, 2) := by decide +kernel
theorem dc_218_152 : decode (sm_cc 218) 152 = .ok (.lload 11, 2) := by decide +kernel
theorem dc_218_154 : decode (sm_cc 218) 154 = .ok (.lload 13, 2) := by decide +kernel
theorem dc_218_156 : decode (sm_cc 218) 156 = .ok (.invokestatic 229, 3) := by decide +kernel
theorem kr_218_229 : sm_at mt_k (sm_ow 218) 229 = some (229, 3, 137, 1, 1772) := by decide +kernel
theorem dc_218_159 : decode (sm_cc 218) 159 = .ok (.istore 15, 2) := by decide +kernel
theorem dc_218_161 : decode (sm_cc 218) 161 = .ok (.iload 8, 2) := by decide +kernel
theorem dc_218_163 : decode (sm_cc 218) 163 = .ok (.ifCond .eq (16), 3) := by decide +kernel
theorem dc_218_179 : decode (sm_cc 218) 179 = .ok (.aload_n 0, 1) := by decide +kernel
theorem dc_218_180 : decode (sm_cc 218) 180 = .ok (.getfield 15, 3) := by decide +kernel
theorem dc_218_183 : decode (sm_cc 218) 183 = .ok (.iload_n 2, 1) := by decide +kernel
theorem dc_218_184 : decode (sm_cc 218) 184 = .ok (.lload 11, 2) := by decide +kernel
theorem dc_218_186 : decode (sm_cc 218) 186 = .ok (.lload 13, 2) := by decide +kernel
theorem dc_218_188 : decode (sm_cc 218) 188 = .ok (.invokevirtual 31, 3) := by decide +kernel
theorem kr_218_31 : sm_at mt_k (sm_ow 218) 31 = some (31, 1, 148, 1, 1621) := by decide +kernel
theorem dc_218_191 : decode (sm_cc 218) 191 = .ok (.ireturn, 1) := by decide +kernel
theorem rt_218 : sm_rt 218 = some .int := by decide +kernel
theorem dc_218_108 : decode (sm_cc 218) 108 = .ok (.bipush (9), 2) := by decide +kernel
theorem dc_218_110 : decode (sm_cc 218) 110 = .ok (.ireturn, 1) := by decide +kernel
theorem dc_218_51 : decode (sm_cc 218) 51 = .ok (.aload_n 0, 1) := by decide +kernel
theorem dc_218_52 : decode (sm_cc 218) 52 = .ok (.getfield 9, 3) := by decide +kernel
theorem dc_218_55 : decode (sm_cc 218) 55 = .ok (.iload_n 3, 1) := by decide +kernel
theorem dc_218_56 : decode (sm_cc 218) 56 = .ok (.lload 4, 2) := by decide +kernel
theorem dc_218_58 : decode (sm_cc 218) 58 = .ok (.lload 6, 2) := by decide +kernel
theorem dc_218_60 : decode (sm_cc 218) 60 = .ok (.invokevirtual 178, 3) := by decide +kernel
theorem dc_218_63 : decode (sm_cc 218) 63 = .ok (.ifCond .ge (7), 3) := by decide +kernel
theorem dc_218_66 : decode (sm_cc 218) 66 = .ok (.iconst 1, 1) := by decide +kernel
theorem dc_218_67 : decode (sm_cc 218) 67 = .ok (.goto (4), 3) := by decide +kernel
theorem dc_218_82 : decode (sm_cc 218) 82 = .ok (.aload_n 0, 1) := by decide +kernel
theorem dc_218_83 : decode (sm_cc 218) 83 = .ok (.getfield 9, 3) := by decide +kernel
theorem dc_218_86 : decode (sm_cc 218) 86 = .ok (.iload_n 3, 1) := by decide +kernel
theorem dc_218_87 : decode (sm_cc 218) 87 = .ok (.invokevirtual 223, 3) := by decide +kernel
theorem kr_218_223 : sm_at mt_k (sm_ow 218) 223 = some (223, 1, 168, 1, 1765) := by decide +kernel
theorem dc_218_90 : decode (sm_cc 218) 90 = .ok (.goto (4), 3) := by decide +kernel
theorem dc_218_166 : decode (sm_cc 218) 166 = .ok (.aload_n 0, 1) := by decide +kernel
theorem dc_218_167 : decode (sm_cc 218) 167 = .ok (.getfield 9, 3) := by decide +kernel
theorem dc_218_170 : decode (sm_cc 218) 170 = .ok (.iload 15, 2) := by decide +kernel
theorem dc_218_172 : decode (sm_cc 218) 172 = .ok (.invokevirtual 171, 3) := by decide +kernel
theorem dc_218_175 : decode (sm_cc 218) 175 = .ok (.iconst 3, 1) := by decide +kernel
theorem dc_218_176 : decode (sm_cc 218) 176 = .ok (.if_icmp .eq (16), 3) := by decide +kernel
theorem dc_218_192 : decode (sm_cc 218) 192 = .ok (.aload_n 0, 1) := by decide +kernel
theorem dc_218_193 : decode (sm_cc 218) 193 = .ok (.getfield 9, 3) := by decide +kernel
theorem dc_218_196 : decode (sm_cc 218) 196 = .ok (.bipush (6), 2) := by decide +kernel
theorem dc_218_198 : decode (sm_cc 218) 198 = .ok (.invokevirtual 139, 3) := by decide +kernel
theorem kr_218_139 : sm_at mt_k (sm_ow 218) 139 = some (139, 1, 178, 1, 1650) := by decide +kernel
theorem dc_218_201 : decode (sm_cc 218) 201 = .ok (.istore 16, 2) := by decide +kernel
theorem dc_218_203 : decode (sm_cc 218) 203 = .ok (.iload 16, 2) := by decide +kernel
theorem dc_218_205 : decode (sm_cc 218) 205 = .ok (.ifCond .ne (6), 3) := by decide +kernel
theorem dc_218_211 : decode (sm_cc 218) 211 = .ok (.aload_n 0, 1) := by decide +kernel
theorem dc_218_212 : decode (sm_cc 218) 212 = .ok (.getfield 9, 3) := by decide +kernel
theorem dc_218_215 : decode (sm_cc 218) 215 = .ok (.iload 16, 2) := by decide +kernel
theorem dc_218_217 : decode (sm_cc 218) 217 = .ok (.iconst 0, 1) := by decide +kernel
theorem dc_218_218 : decode (sm_cc 218) 218 = .ok (.iload 15, 2) := by decide +kernel
theorem dc_218_220 : decode (sm_cc 218) 220 = .ok (.iload_n 3, 1) := by decide +kernel
theorem dc_218_221 : decode (sm_cc 218) 221 = .ok (.invokevirtual 232, 3) := by decide +kernel
theorem kr_218_232 : sm_at mt_k (sm_ow 218) 232 = some (232, 1, 179, 1, 1773) := by decide +kernel
theorem dc_218_224 : decode (sm_cc 218) 224 = .ok (.aload_n 0, 1) := by decide +kernel
theorem dc_218_225 : decode (sm_cc 218) 225 = .ok (.getfield 15, 3) := by decide +kernel
theorem dc_218_228 : decode (sm_cc 218) 228 = .ok (.iload_n 2, 1) := by decide +kernel
theorem dc_218_229 : decode (sm_cc 218) 229 = .ok (.ldc2_w 146, 3) := by decide +kernel
theorem cj_218_146 : sm_at mt_cj (sm_ow 218) 146 = some (146, (4611686018427387904), 1659) := by decide +kernel
theorem dc_218_232 : decode (sm_cc 218) 232 = .ok (.iload 16, 2) := by decide +kernel
theorem dc_218_234 : decode (sm_cc 218) 234 = .ok (.i2l, 1) := by decide +kernel
theorem dc_218_235 : decode (sm_cc 218) 235 = .ok (.invokevirtual 31, 3) := by decide +kernel
theorem dc_218_238 : decode (sm_cc 218) 238 = .ok (.ireturn, 1) := by decide +kernel
theorem dc_218_208 : decode (sm_cc 218) 208 = .ok (.bipush (8), 2) := by decide +kernel
theorem dc_218_210 : decode (sm_cc 218) 210 = .ok (.ireturn, 1) := by decide +kernel
theorem dc_218_17 : decode (sm_cc 218) 17 = .ok (.iconst 2, 1) := by decide +kernel
theorem dc_218_18 : decode (sm_cc 218) 18 = .ok (.ireturn, 1) := by decide +kernel
theorem ml_219 : sm_ml 219 = 2 := by decide +kernel
theorem dc_219_0 : decode (sm_cc 219) 0 = .ok (.aload_n 0, 1) := by decide +kernel
theorem dc_219_1 : decode (sm_cc 219) 1 = .ok (.getfield 9, 3) := by decide +kernel
theorem fr_219_9 : sm_at mt_f (sm_ow 219) 9 = some (9, 6, 0, 0, 826) := by decide +kernel
theorem dc_219_4 : decode (sm_cc 219) 4 = .ok (.iload_n 1, 1) := by decide +kernel
theorem dc_219_5 : decode (sm_cc 219) 5 = .ok (.invokevirtual 171, 3) := by decide +kernel
theorem kr_219_171 : sm_at mt_k (sm_ow 219) 171 = some (171, 1, 138, 1, 1696) := by decide +kernel
theorem dc_219_8 : decode (sm_cc 219) 8 = .ok (.iconst 5, 1) := by decide +kernel
theorem dc_219_9 : decode (sm_cc 219) 9 = .ok (.if_icmp .eq (15), 3) := by decide +kernel
theorem dc_219_24 : decode (sm_cc 219) 24 = .ok (.iconst 1, 1) := by decide +kernel
theorem dc_219_25 : decode (sm_cc 219) 25 = .ok (.goto (4), 3) := by decide +kernel
theorem dc_219_29 : decode (sm_cc 219) 29 = .ok (.ireturn, 1) := by decide +kernel
theorem rt_219 : sm_rt 219 = some .boolean := by decide +kernel
theorem dc_219_12 : decode (sm_cc 219) 12 = .ok (.aload_n 0, 1) := by decide +kernel
theorem dc_219_13 : decode (sm_cc 219) 13 = .ok (.getfield 9, 3) := by decide +kernel
theorem dc_219_16 : decode (sm_cc 219) 16 = .ok (.iload_n 1, 1) := by decide +kernel
theorem dc_219_17 : decode (sm_cc 219) 17 = .ok (.invokevirtual 171, 3) := by decide +kernel
theorem dc_219_20 : decode (sm_cc 219) 20 = .ok (.iconst 4, 1) := by decide +kernel
theorem dc_219_21 : decode (sm_cc 219) 21 = .ok (.if_icmp .ne (7), 3) := by decide +kernel
theorem dc_219_28 : decode (sm_cc 219) 28 = .ok (.iconst 0, 1) := by decide +kernel
theorem ml_221 : sm_ml 221 = 14 := by decide +kernel
theorem dc_221_0 : decode (sm_cc 221) 0 = .ok (.aload_n 0, 1) := by decide +kernel
theorem dc_221_1 : decode (sm_cc 221) 1 = .ok (.getfield 15, 3) := by decide +kernel
theorem fr_221_15 : sm_at mt_f (sm_ow 221) 15 = some (15, 6, 1, 0, 827) := by decide +kernel
theorem dc_221_4 : decode (sm_cc 221) 4 = .ok (.iload_n 2, 1) := by decide +kernel
theorem dc_221_5 : decode (sm_cc 221) 5 = .ok (.invokevirtual 169, 3) := by decide +kernel
theorem kr_221_169 : sm_at mt_k (sm_ow 221) 169 = some (169, 1, 136, 1, 1695) := by decide +kernel
theorem dc_221_8 : decode (sm_cc 221) 8 = .ok (.istore 4, 2) := by decide +kernel
theorem dc_221_10 : decode (sm_cc 221) 10 = .ok (.aload_n 0, 1) := by decide +kernel
theorem dc_221_11 : decode (sm_cc 221) 11 = .ok (.iload 4, 2) := by decide +kernel
theorem dc_221_13 : decode (sm_cc 221) 13 = .ok (.invokevirtual 212, 3) := by decide +kernel
theorem kr_221_212 : sm_at mt_k (sm_ow 221) 212 = some (212, 0, 219, 0, 1759) := by decide +kernel
theorem dc_221_16 : decode (sm_cc 221) 16 = .ok (.ifCond .ne (5), 3) := by decide +kernel
theorem dc_221_21 : decode (sm_cc 221) 21 = .ok (.aload_n 0, 1) := by decide +kernel
theorem dc_221_22 : decode (sm_cc 221) 22 = .ok (.getfield 19, 3) := by decide +kernel
theorem fr_221_19 : sm_at mt_f (sm_ow 221) 19 = some (19, 6, 2, 0, 828) := by decide +kernel
theorem dc_221_25 : decode (sm_cc 221) 25 = .ok (.iload_n 1, 1) := by decide +kernel
theorem dc_221_26 : decode (sm_cc 221) 26 = .ok (.invokevirtual 215, 3) := by decide +kernel
theorem kr_221_215 : sm_at mt_k (sm_ow 221) 215 = some (215, 1, 181, 1, 1763) := by decide +kernel
theorem dc_221_29 : decode (sm_cc 221) 29 = .ok (.lstore 5, 2) := by decide +kernel
theorem dc_221_31 : decode (sm_cc 221) 31 = .ok (.aload_n 0, 1) := by decide +kernel
theorem dc_221_32 : decode (sm_cc 221) 32 = .ok (.getfield 19, 3) := by decide +kernel
theorem dc_221_35 : decode (sm_cc 221) 35 = .ok (.iload_n 1, 1) := by decide +kernel
theorem dc_221_36 : decode (sm_cc 221) 36 = .ok (.invokevirtual 220, 3) := by decide +kernel
theorem kr_221_220 : sm_at mt_k (sm_ow 221) 220 = some (220, 1, 182, 1, 1764) := by decide +kernel
theorem dc_221_39 : decode (sm_cc 221) 39 = .ok (.lstore 7, 2) := by decide +kernel
theorem dc_221_41 : decode (sm_cc 221) 41 = .ok (.aload_n 0, 1) := by decide +kernel
theorem dc_221_42 : decode (sm_cc 221) 42 = .ok (.getfield 15, 3) := by decide +kernel
theorem dc_221_45 : decode (sm_cc 221) 45 = .ok (.iload_n 3, 1) := by decide +kernel
theorem dc_221_46 : decode (sm_cc 221) 46 = .ok (.invokevirtual 70, 3) := by decide +kernel
theorem kr_221_70 : sm_at mt_k (sm_ow 221) 70 = some (70, 1, 132, 1, 1627) := by decide +kernel
theorem dc_221_49 : decode (sm_cc 221) 49 = .ok (.lstore 9, 2) := by decide +kernel
theorem dc_221_51 : decode (sm_cc 221) 51 = .ok (.aload_n 0, 1) := by decide +kernel
theorem dc_221_52 : decode (sm_cc 221) 52 = .ok (.getfield 15, 3) := by decide +kernel
theorem dc_221_55 : decode (sm_cc 221) 55 = .ok (.iload_n 3, 1) := by decide +kernel
theorem dc_221_56 : decode (sm_cc 221) 56 = .ok (.invokevirtual 111, 3) := by decide +kernel
theorem kr_221_111 : sm_at mt_k (sm_ow 221) 111 = some (111, 1, 135, 1, 1626) := by decide +kernel
theorem dc_221_59 : decode (sm_cc 221) 59 = .ok (.lstore 11, 2) := by decide +kernel
theorem dc_221_61 : decode (sm_cc 221) 61 = .ok (.aload_n 0, 1) := by decide +kernel
theorem dc_221_62 : decode (sm_cc 221) 62 = .ok (.getfield 9, 3) := by decide +kernel
theorem fr_221_9 : sm_at mt_f (sm_ow 221) 9 = some (9, 6, 0, 0, 826) := by decide +kernel
theorem dc_221_65 : decode (sm_cc 221) 65 = .ok (.iload 4, 2) := by decide +kernel
theorem dc_221_67 : decode (sm_cc 221) 67 = .ok (.lload 5, 2) := by decide +kernel
theorem dc_221_69 : decode (sm_cc 221) 69 = .ok (.lload 7, 2) := by decide +kernel
theorem dc_221_71 : decode (sm_cc 221) 71 = .ok (.invokevirtual 178, 3) := by decide +kernel
theorem kr_221_178 : sm_at mt_k (sm_ow 221) 178 = some (178, 1, 206, 1, 1701) := by decide +kernel
theorem dc_221_74 : decode (sm_cc 221) 74 = .ok (.istore 13, 2) := by decide +kernel
theorem dc_221_76 : decode (sm_cc 221) 76 = .ok (.iload 13, 2) := by decide +kernel
theorem dc_221_78 : decode (sm_cc 221) 78 = .ok (.ifCond .lt (21), 3) := by decide +kernel
theorem dc_221_99 : decode (sm_cc 221) 99 = .ok (.aload_n 0, 1) := by decide +kernel
theorem dc_221_100 : decode (sm_cc 221) 100 = .ok (.getfield 9, 3) := by decide +kernel
theorem dc_221_103 : decode (sm_cc 221) 103 = .ok (.iload 4, 2) := by decide +kernel
theorem dc_221_105 : decode (sm_cc 221) 105 = .ok (.lload 5, 2) := by decide +kernel
theorem dc_221_107 : decode (sm_cc 221) 107 = .ok (.lload 7, 2) := by decide +kernel
theorem dc_221_109 : decode (sm_cc 221) 109 = .ok (.lload 9, 2) := by decide +kernel
theorem dc_221_111 : decode (sm_cc 221) 111 = .ok (.lload 11, 2) := by decide +kernel
theorem dc_221_113 : decode (sm_cc 221) 113 = .ok (.invokevirtual 201, 3) := by decide +kernel
theorem kr_221_201 : sm_at mt_k (sm_ow 221) 201 = some (201, 1, 183, 1, 1728) := by decide +kernel
theorem dc_221_116 : decode (sm_cc 221) 116 = .ok (.ifCond .ne (6), 3) := by decide +kernel
theorem dc_221_122 : decode (sm_cc 221) 122 = .ok (.aload_n 0, 1) := by decide +kernel
theorem dc_221_123 : decode (sm_cc 221) 123 = .ok (.getfield 15, 3) := by decide +kernel
theorem dc_221_126 : decode (sm_cc 221) 126 = .ok (.iconst 2, 1) := by decide +kernel
theorem dc_221_127 : decode (sm_cc 221) 127 = .ok (.invokevirtual 205, 3) := by decide +kernel
theorem kr_221_205 : sm_at mt_k (sm_ow 221) 205 = some (205, 1, 141, 1, 1729) := by decide +kernel
theorem dc_221_130 : decode (sm_cc 221) 130 = .ok (.iconst 0, 1) := by decide +kernel
theorem dc_221_131 : decode (sm_cc 221) 131 = .ok (.ireturn, 1) := by decide +kernel
theorem rt_221 : sm_rt 221 = some .int := by decide +kernel
theorem dc_221_119 : decode (sm_cc 221) 119 = .ok (.bipush (8), 2) := by decide +kernel
theorem dc_221_121 : decode (sm_cc 221) 121 = .ok (.ireturn, 1) := by decide +kernel
theorem dc_221_81 : decode (sm_cc 221) 81 = .ok (.aload_n 0, 1) := by decide +kernel
theorem dc_221_82 : decode (sm_cc 221) 82 = .ok (.getfield 9, 3) := by decide +kernel
theorem dc_221_85 : decode (sm_cc 221) 85 = .ok (.iload 4, 2) := by decide +kernel
theorem dc_221_87 : decode (sm_cc 221) 87 = .ok (.iload 13, 2) := by decide +kernel
theorem dc_221_89 : decode (sm_cc 221) 89 = .ok (.lload 9, 2) := by decide +kernel
theorem dc_221_91 : decode (sm_cc 221) 91 = .ok (.lload 11, 2) := by decide +kernel
theorem dc_221_93 : decode (sm_cc 221) 93 = .ok (.invokevirtual 197, 3) := by decide +kernel
theorem kr_221_197 : sm_at mt_k (sm_ow 221) 197 = some (197, 1, 174, 1, 1727) := by decide +kernel
theorem dc_221_96 : decode (sm_cc 221) 96 = .ok (.goto (26), 3) := by decide +kernel
theorem dc_221_19 : decode (sm_cc 221) 19 = .ok (.iconst 2, 1) := by decide +kernel
theorem dc_221_20 : decode (sm_cc 221) 20 = .ok (.ireturn, 1) := by decide +kernel
theorem ml_222 : sm_ml 222 = 4 := by decide +kernel
theorem dc_222_0 : decode (sm_cc 222) 0 = .ok (.aload_n 0, 1) := by decide +kernel
theorem dc_222_1 : decode (sm_cc 222) 1 = .ok (.getfield 15, 3) := by decide +kernel
theorem fr_222_15 : sm_at mt_f (sm_ow 222) 15 = some (15, 6, 1, 0, 827) := by decide +kernel
theorem dc_222_4 : decode (sm_cc 222) 4 = .ok (.iconst 0, 1) := by decide +kernel
theorem dc_222_5 : decode (sm_cc 222) 5 = .ok (.invokevirtual 169, 3) := by decide +kernel
theorem kr_222_169 : sm_at mt_k (sm_ow 222) 169 = some (169, 1, 136, 1, 1695) := by decide +kernel
theorem dc_222_8 : decode (sm_cc 222) 8 = .ok (.istore_n 2, 1) := by decide +kernel
theorem dc_222_9 : decode (sm_cc 222) 9 = .ok (.aload_n 0, 1) := by decide +kernel
theorem dc_222_10 : decode (sm_cc 222) 10 = .ok (.iload_n 2, 1) := by decide +kernel
theorem dc_222_11 : decode (sm_cc 222) 11 = .ok (.invokevirtual 212, 3) := by decide +kernel
theorem kr_222_212 : sm_at mt_k (sm_ow 222) 212 = some (212, 0, 219, 0, 1759) := by decide +kernel
theorem dc_222_14 : decode (sm_cc 222) 14 = .ok (.ifCond .ne (5), 3) := by decide +kernel
theorem dc_222_19 : decode (sm_cc 222) 19 = .ok (.aload_n 0, 1) := by decide +kernel
theorem dc_222_20 : decode (sm_cc 222) 20 = .ok (.getfield 9, 3) := by decide +kernel
theorem fr_222_9 : sm_at mt_f (sm_ow 222) 9 = some (9, 6, 0, 0, 826) := by decide +kernel
theorem dc_222_23 : decode (sm_cc 222) 23 = .ok (.iload_n 2, 1) := by decide +kernel
theorem dc_222_24 : decode (sm_cc 222) 24 = .ok (.aload_n 0, 1) := by decide +kernel
theorem dc_222_25 : decode (sm_cc 222) 25 = .ok (.getfield 19, 3) := by decide +kernel
theorem fr_222_19 : sm_at mt_f (sm_ow 222) 19 = some (19, 6, 2, 0, 828) := by decide +kernel
theorem dc_222_28 : decode (sm_cc 222) 28 = .ok (.iload_n 1, 1) := by decide +kernel
theorem dc_222_29 : decode (sm_cc 222) 29 = .ok (.invokevirtual 215, 3) := by decide +kernel
theorem kr_222_215 : sm_at mt_k (sm_ow 222) 215 = some (215, 1, 181, 1, 1763) := by decide +kernel
theorem dc_222_32 : decode (sm_cc 222) 32 = .ok (.aload_n 0, 1) := by decide +kernel
theorem dc_222_33 : decode (sm_cc 222) 33 = .ok (.getfield 19, 3) := by decide +kernel
theorem dc_222_36 : decode (sm_cc 222) 36 = .ok (.iload_n 1, 1) := by decide +kernel
theorem dc_222_37 : decode (sm_cc 222) 37 = .ok (.invokevirtual 220, 3) := by decide +kernel
theorem kr_222_220 : sm_at mt_k (sm_ow 222) 220 = some (220, 1, 182, 1, 1764) := by decide +kernel
theorem dc_222_40 : decode (sm_cc 222) 40 = .ok (.invokevirtual 178, 3) := by decide +kernel
theorem kr_222_178 : sm_at mt_k (sm_ow 222) 178 = some (178, 1, 206, 1, 1701) := by decide +kernel
theorem dc_222_43 : decode (sm_cc 222) 43 = .ok (.istore_n 3, 1) := by decide +kernel
theorem dc_222_44 : decode (sm_cc 222) 44 = .ok (.iload_n 3, 1) := by decide +kernel
theorem dc_222_45 : decode (sm_cc 222) 45 = .ok (.ifCond .ge (6), 3) := by decide +kernel
theorem dc_222_51 : decode (sm_cc 222) 51 = .ok (.aload_n 0, 1) := by decide +kernel
theorem dc_222_52 : decode (sm_cc 222) 52 = .ok (.getfield 9, 3) := by decide +kernel
theorem dc_222_55 : decode (sm_cc 222) 55 = .ok (.iload_n 2, 1) := by decide +kernel
theorem dc_222_56 : decode (sm_cc 222) 56 = .ok (.iload_n 3, 1) := by decide +kernel
theorem dc_222_57 : decode (sm_cc 222) 57 = .ok (.invokevirtual 209, 3) := by decide +kernel
theorem kr_222_209 : sm_at mt_k (sm_ow 222) 209 = some (209, 1, 213, 1, 1734) := by decide +kernel
theorem dc_222_60 : decode (sm_cc 222) 60 = .ok (.aload_n 0, 1) := by decide +kernel
theorem dc_222_61 : decode (sm_cc 222) 61 = .ok (.getfield 15, 3) := by decide +kernel
theorem dc_222_64 : decode (sm_cc 222) 64 = .ok (.iconst 1, 1) := by decide +kernel
theorem dc_222_65 : decode (sm_cc 222) 65 = .ok (.invokevirtual 205, 3) := by decide +kernel
theorem kr_222_205 : sm_at mt_k (sm_ow 222) 205 = some (205, 1, 141, 1, 1729) := by decide +kernel
theorem dc_222_68 : decode (sm_cc 222) 68 = .ok (.iconst 0, 1) := by decide +kernel
theorem dc_222_69 : decode (sm_cc 222) 69 = .ok (.ireturn, 1) := by decide +kernel
theorem rt_222 : sm_rt 222 = some .int := by decide +kernel
theorem dc_222_48 : decode (sm_cc 222) 48 = .ok (.bipush (9), 2) := by decide +kernel
theorem dc_222_50 : decode (sm_cc 222) 50 = .ok (.ireturn, 1) := by decide +kernel
theorem dc_222_17 : decode (sm_cc 222) 17 = .ok (.iconst 2, 1) := by decide +kernel
theorem dc_222_18 : decode (sm_cc 222) 18 = .ok (.ireturn, 1) := by decide +kernel
theorem ml_205 : sm_ml 205 = 2 := by decide +kernel
theorem dc_205_0 : decode (sm_cc 205) 0 = .ok (.lload_n 0, 1) := by decide +kernel
theorem dc_205_1 : decode (sm_cc 205) 1 = .ok (.invokestatic 152, 3) := by decide +kernel
theorem kr_205_152 : sm_at mt_k (sm_ow 205) 152 = some (152, 2, 134, 0, 1700) := by decide +kernel
theorem dc_205_4 : decode (sm_cc 205) 4 = .ok (.iconst 2, 1) := by decide +kernel
theorem dc_205_5 : decode (sm_cc 205) 5 = .ok (.if_icmp .eq (11), 3) := by decide +kernel
theorem dc_205_16 : decode (sm_cc 205) 16 = .ok (.iconst 1, 1) := by decide +kernel
theorem dc_205_17 : decode (sm_cc 205) 17 = .ok (.goto (4), 3) := by decide +kernel
theorem dc_205_21 : decode (sm_cc 205) 21 = .ok (.ireturn, 1) := by decide +kernel
theorem rt_205 : sm_rt 205 = some .boolean := by decide +kernel
theorem dc_205_8 : decode (sm_cc 205) 8 = .ok (.lload_n 0, 1) := by decide +kernel
theorem dc_205_9 : decode (sm_cc 205) 9 = .ok (.invokestatic 152, 3) := by decide +kernel
theorem dc_205_12 : decode (sm_cc 205) 12 = .ok (.iconst 3, 1) := by decide +kernel
theorem dc_205_13 : decode (sm_cc 205) 13 = .ok (.if_icmp .ne (7), 3) := by decide +kernel
theorem dc_205_20 : decode (sm_cc 205) 20 = .ok (.iconst 0, 1) := by decide +kernel
theorem ne0_c {y : Int64} (h : sm_c1 .eq (lg_cmp y 0) true false = false) : ¬ y = 0 := fun e => by
  subst e
  revert h
  decide
theorem Bod.ldivX {d j pc : Nat} {lv : sm_L} {st : List Value} {S Sf : cS} {v : Option Value} {x y : Int64} (h0 : ¬ y = 0) (hd : decode (sm_cc j) pc = .ok (.ldiv, 1)) (h : Bod d j (pc + 1) lv (.long (x / y) :: st) S v Sf) : Bod d j pc lv (.long y :: .long x :: st) S v Sf := Bod.go hd (sd_ops (by
  show (if y = 0 then none else some (1, .long (x / y) :: st)) = _
  rw [if_neg h0])) h
theorem xsw_189_1 : ∀ b, b < 64 → (b = 25 ∨ b = 26 ∨ b = 27 ∨ b = 28 ∨ b = 29 ∨ b = 30 ∨ b = 31 ∨ b = 32 ∨ b = 33 ∨ b = 38 ∨ b = 39 ∨ b = 40 ∨ b = 41 ∨ b = 42 ∨ b = 43 ∨ sm_br (.tableswitch (311) 25 43 #[91, 119, 124, 159, 164, 169, 174, 179, 203, 311, 311, 311, 311, 227, 232, 261, 290, 298, 306]) 91 1 [.int (nI b)] = some (312, [])) := by decide +kernel
theorem mAc_1 {d : Nat} {S : cS} {op : Nat} {S1 : cS} {S2 : cS} {rb : Int32} (mop : op < 2 ^ 20) (sw2 : op = 25) (c1 : Ans (d + 8) 131 [.ref 46, .int (nI 0)] S (some (.int (nI 1))) S1) (c2 : Ans (d + 8) 148 [.ref 46, .int (nI 1), .long ((2305843009213693952)), .long 0] S1 (some (.int rb)) S2) : Bod (d + 8) 189 0 [(0, .ref 53), (1, .int (nI op))] [] S (some (.int rb)) (S2) := by
  refine Bod.go dc_189_0 rfl ?_
  refine Bod.sw (t := 92) dc_189_1 rfl rfl (by rw [sw2]; decide +kernel) ?_
  refine Bod.go dc_189_92 rfl ?_
  refine Bod.get dc_189_93 fr_189_15 (mk_53 _) rfl ?_
  refine Bod.ic 1 (by decide) dc_189_96 ?_
  refine Bod.ldc2 dc_189_97 cj_189_23 ?_
  refine Bod.go dc_189_100 rfl ?_
  refine Bod.get dc_189_101 fr_189_15 (mk_53 _) rfl ?_
  refine Bod.ic 0 (by decide) dc_189_104 ?_
  refine Bod.virt (r := [_, _, _]) dc_189_105 kr_189_25 ⟨Or.inr rfl, ow_131, cl_9⟩ (by rw [np_131]; rfl) (by rw [np_131]; rfl) (ob_of (mk_46 _)) (Nat.le_of_ble_eq_true rfl) (c1  ) ?_
  show Bod _ _ _ _ [_, _, _, _] _ _ _
  refine Bod.ifF dc_189_108 rfl (k1_eq_F (k_ne 1 0 rfl rfl (by omega) (by omega) (by omega))) ?_
  refine Bod.go dc_189_111 rfl ?_
  refine Bod.go dc_189_112 rfl ?_
  refine Bod.virt (r := []) dc_189_116 kr_189_31 ⟨Or.inr rfl, ow_148, cl_9⟩ (by rw [np_148]; rfl) (by rw [np_148]; rfl) (ob_of (mk_46 _)) (Nat.le_of_ble_eq_true rfl) (c2  ) ?_
  show Bod _ _ _ _ [_] _ _ _
  exact Bod.retI dc_189_119 rt_189
theorem mAc_2 {d : Nat} {S : cS} {op : Nat} {S1 : cS} {S2 : cS} {rb : Int32} (mop : op < 2 ^ 20) (sw2 : op = 25) (c1 : Ans (d + 8) 131 [.ref 46, .int (nI 0)] S (some (.int (nI 0))) S1) (c2 : Ans (d + 8) 148 [.ref 46, .int (nI 1), .long ((2305843009213693952)), .long 1] S1 (some (.int rb)) S2) : Bod (d + 8) 189 0 [(0, .ref 53), (1, .int (nI op))] [] S (some (.int rb)) (S2) := by
  refine Bod.go dc_189_0 rfl ?_
  refine Bod.sw (t := 92) dc_189_1 rfl rfl (by rw [sw2]; decide +kernel) ?_
  refine Bod.go dc_189_92 rfl ?_
  refine Bod.get dc_189_93 fr_189_15 (mk_53 _) rfl ?_
  refine Bod.ic 1 (by decide) dc_189_96 ?_
  refine Bod.ldc2 dc_189_97 cj_189_23 ?_
  refine Bod.go dc_189_100 rfl ?_
  refine Bod.get dc_189_101 fr_189_15 (mk_53 _) rfl ?_
  refine Bod.ic 0 (by decide) dc_189_104 ?_
  refine Bod.virt (r := [_, _, _]) dc_189_105 kr_189_25 ⟨Or.inr rfl, ow_131, cl_9⟩ (by rw [np_131]; rfl) (by rw [np_131]; rfl) (ob_of (mk_46 _)) (Nat.le_of_ble_eq_true rfl) (c1  ) ?_
  show Bod _ _ _ _ [_, _, _, _] _ _ _
  refine Bod.ifT dc_189_108 rfl (k1_eq_T (k_eq 0 0 rfl rfl (by omega))) ?_
  refine Bod.go dc_189_115 rfl ?_
  refine Bod.virt (r := []) dc_189_116 kr_189_31 ⟨Or.inr rfl, ow_148, cl_9⟩ (by rw [np_148]; rfl) (by rw [np_148]; rfl) (ob_of (mk_46 _)) (Nat.le_of_ble_eq_true rfl) (c2  ) ?_
  show Bod _ _ _ _ [_] _ _ _
  exact Bod.retI dc_189_119 rt_189
theorem mAc_3 {d : Nat} {S : cS} {op : Nat} {S1 : cS} {rb : Int32} (mop : op < 2 ^ 20) (sw2 : op = 26) (c1 : Ans (d + 8) 190 [.ref 53] S (some (.int rb)) S1) : Bod (d + 8) 189 0 [(0, .ref 53), (1, .int (nI op))] [] S (some (.int rb)) (S1) := by
  refine Bod.go dc_189_0 rfl ?_
  refine Bod.sw (t := 120) dc_189_1 rfl rfl (by rw [sw2]; decide +kernel) ?_
  refine Bod.go dc_189_120 rfl ?_
  refine Bod.virt (r := []) dc_189_121 kr_189_35 ⟨Or.inl rfl, ow_190, cl_6⟩ (by rw [np_190]; rfl) (by rw [np_190]; rfl) (ob_of (mk_53 _)) (Nat.le_of_ble_eq_true rfl) (c1  ) ?_
  show Bod _ _ _ _ [_] _ _ _
  exact Bod.retI dc_189_124 rt_189
theorem mAc_4 {d : Nat} {S : cS} {op : Nat} {S1 : cS} {S2 : cS} {rb : Int32} (mop : op < 2 ^ 20) (sw2 : op = 27) (c1 : Ans (d + 8) 191 [.ref 53, .int (nI 3)] S (some (.int (nI 1))) S1) (c2 : Ans (d + 8) 192 [.ref 53] S1 (some (.int rb)) S2) : Bod (d + 8) 189 0 [(0, .ref 53), (1, .int (nI op))] [] S (some (.int rb)) (S2) := by
  refine Bod.go dc_189_0 rfl ?_
  refine Bod.sw (t := 125) dc_189_1 rfl rfl (by rw [sw2]; decide +kernel) ?_
  refine Bod.go dc_189_125 rfl ?_
  refine Bod.ic 3 (by decide) dc_189_126 ?_
  refine Bod.virt (r := []) dc_189_127 kr_189_39 ⟨Or.inl rfl, ow_191, cl_6⟩ (by rw [np_191]; rfl) (by rw [np_191]; rfl) (ob_of (mk_53 _)) (Nat.le_of_ble_eq_true rfl) (c1  ) ?_
  show Bod _ _ _ _ [_] _ _ _
  refine Bod.ifF dc_189_130 rfl (k1_eq_F (k_ne 1 0 rfl rfl (by omega) (by omega) (by omega))) ?_
  refine Bod.go dc_189_133 rfl ?_
  refine Bod.virt (r := []) dc_189_134 kr_189_42 ⟨Or.inl rfl, ow_192, cl_6⟩ (by rw [np_192]; rfl) (by rw [np_192]; rfl) (ob_of (mk_53 _)) (Nat.le_of_ble_eq_true rfl) (c2  ) ?_
  show Bod _ _ _ _ [_] _ _ _
  refine Bod.go dc_189_137 rfl ?_
  exact Bod.retI dc_189_159 rt_189
theorem mAc_5 {d : Nat} {S : cS} {op : Nat} {S1 : cS} {S2 : cS} {S3 : cS} {rb : Int32} (mop : op < 2 ^ 20) (sw2 : op = 27) (c1 : Ans (d + 8) 191 [.ref 53, .int (nI 3)] S (some (.int (nI 0))) S1) (c2 : Ans (d + 8) 191 [.ref 53, .int (nI 4)] S1 (some (.int (nI 1))) S2) (c3 : Ans (d + 8) 194 [.ref 53] S2 (some (.int rb)) S3) : Bod (d + 8) 189 0 [(0, .ref 53), (1, .int (nI op))] [] S (some (.int rb)) (S3) := by
  refine Bod.go dc_189_0 rfl ?_
  refine Bod.sw (t := 125) dc_189_1 rfl rfl (by rw [sw2]; decide +kernel) ?_
  refine Bod.go dc_189_125 rfl ?_
  refine Bod.ic 3 (by decide) dc_189_126 ?_
  refine Bod.virt (r := []) dc_189_127 kr_189_39 ⟨Or.inl rfl, ow_191, cl_6⟩ (by rw [np_191]; rfl) (by rw [np_191]; rfl) (ob_of (mk_53 _)) (Nat.le_of_ble_eq_true rfl) (c1  ) ?_
  show Bod _ _ _ _ [_] _ _ _
  refine Bod.ifT dc_189_130 rfl (k1_eq_T (k_eq 0 0 rfl rfl (by omega))) ?_
  refine Bod.go dc_189_140 rfl ?_
  refine Bod.ic 4 (by decide) dc_189_141 ?_
  refine Bod.virt (r := []) dc_189_142 kr_189_39 ⟨Or.inl rfl, ow_191, cl_6⟩ (by rw [np_191]; rfl) (by rw [np_191]; rfl) (ob_of (mk_53 _)) (Nat.le_of_ble_eq_true rfl) (c2  ) ?_
  show Bod _ _ _ _ [_] _ _ _
  refine Bod.ifF dc_189_145 rfl (k1_eq_F (k_ne 1 0 rfl rfl (by omega) (by omega) (by omega))) ?_
  refine Bod.go dc_189_148 rfl ?_
  refine Bod.virt (r := []) dc_189_149 kr_189_45 ⟨Or.inl rfl, ow_194, cl_6⟩ (by rw [np_194]; rfl) (by rw [np_194]; rfl) (ob_of (mk_53 _)) (Nat.le_of_ble_eq_true rfl) (c3  ) ?_
  show Bod _ _ _ _ [_] _ _ _
  refine Bod.go dc_189_152 rfl ?_
  exact Bod.retI dc_189_159 rt_189
theorem mAc_6 {d : Nat} {S : cS} {op : Nat} {S1 : cS} {S2 : cS} {S3 : cS} {rb : Int32} (mop : op < 2 ^ 20) (sw2 : op = 27) (c1 : Ans (d + 8) 191 [.ref 53, .int (nI 3)] S (some (.int (nI 0))) S1) (c2 : Ans (d + 8) 191 [.ref 53, .int (nI 4)] S1 (some (.int (nI 0))) S2) (c3 : Ans (d + 8) 196 [.ref 53] S2 (some (.int rb)) S3) : Bod (d + 8) 189 0 [(0, .ref 53), (1, .int (nI op))] [] S (some (.int rb)) (S3) := by
  refine Bod.go dc_189_0 rfl ?_
  refine Bod.sw (t := 125) dc_189_1 rfl rfl (by rw [sw2]; decide +kernel) ?_
  refine Bod.go dc_189_125 rfl ?_
  refine Bod.ic 3 (by decide) dc_189_126 ?_
  refine Bod.virt (r := []) dc_189_127 kr_189_39 ⟨Or.inl rfl, ow_191, cl_6⟩ (by rw [np_191]; rfl) (by rw [np_191]; rfl) (ob_of (mk_53 _)) (Nat.le_of_ble_eq_true rfl) (c1  ) ?_
  show Bod _ _ _ _ [_] _ _ _
  refine Bod.ifT dc_189_130 rfl (k1_eq_T (k_eq 0 0 rfl rfl (by omega))) ?_
  refine Bod.go dc_189_140 rfl ?_
  refine Bod.ic 4 (by decide) dc_189_141 ?_
  refine Bod.virt (r := []) dc_189_142 kr_189_39 ⟨Or.inl rfl, ow_191, cl_6⟩ (by rw [np_191]; rfl) (by rw [np_191]; rfl) (ob_of (mk_53 _)) (Nat.le_of_ble_eq_true rfl) (c2  ) ?_
  show Bod _ _ _ _ [_] _ _ _
  refine Bod.ifT dc_189_145 rfl (k1_eq_T (k_eq 0 0 rfl rfl (by omega))) ?_
  refine Bod.go dc_189_155 rfl ?_
  refine Bod.virt (r := []) dc_189_156 kr_189_48 ⟨Or.inl rfl, ow_196, cl_6⟩ (by rw [np_196]; rfl) (by rw [np_196]; rfl) (ob_of (mk_53 _)) (Nat.le_of_ble_eq_true rfl) (c3  ) ?_
  show Bod _ _ _ _ [_] _ _ _
  exact Bod.retI dc_189_159 rt_189
theorem mAc_7 {d : Nat} {S : cS} {op : Nat} {S1 : cS} {rb : Int32} (mop : op < 2 ^ 20) (sw2 : op = 28) (c1 : Ans (d + 8) 197 [.ref 53] S (some (.int rb)) S1) : Bod (d + 8) 189 0 [(0, .ref 53), (1, .int (nI op))] [] S (some (.int rb)) (S1) := by
  refine Bod.go dc_189_0 rfl ?_
  refine Bod.sw (t := 160) dc_189_1 rfl rfl (by rw [sw2]; decide +kernel) ?_
  refine Bod.go dc_189_160 rfl ?_
  refine Bod.virt (r := []) dc_189_161 kr_189_51 ⟨Or.inl rfl, ow_197, cl_6⟩ (by rw [np_197]; rfl) (by rw [np_197]; rfl) (ob_of (mk_53 _)) (Nat.le_of_ble_eq_true rfl) (c1  ) ?_
  show Bod _ _ _ _ [_] _ _ _
  exact Bod.retI dc_189_164 rt_189
theorem mAc_8 {d : Nat} {S : cS} {op : Nat} {S1 : cS} {rb : Int32} (mop : op < 2 ^ 20) (sw2 : op = 29) (c1 : Ans (d + 8) 198 [.ref 53] S (some (.int rb)) S1) : Bod (d + 8) 189 0 [(0, .ref 53), (1, .int (nI op))] [] S (some (.int rb)) (S1) := by
  refine Bod.go dc_189_0 rfl ?_
  refine Bod.sw (t := 165) dc_189_1 rfl rfl (by rw [sw2]; decide +kernel) ?_
  refine Bod.go dc_189_165 rfl ?_
  refine Bod.virt (r := []) dc_189_166 kr_189_54 ⟨Or.inl rfl, ow_198, cl_6⟩ (by rw [np_198]; rfl) (by rw [np_198]; rfl) (ob_of (mk_53 _)) (Nat.le_of_ble_eq_true rfl) (c1  ) ?_
  show Bod _ _ _ _ [_] _ _ _
  exact Bod.retI dc_189_169 rt_189
theorem mAc_9 {d : Nat} {S : cS} {op : Nat} {S1 : cS} {rb : Int32} (mop : op < 2 ^ 20) (sw2 : op = 30) (c1 : Ans (d + 8) 199 [.ref 53] S (some (.int rb)) S1) : Bod (d + 8) 189 0 [(0, .ref 53), (1, .int (nI op))] [] S (some (.int rb)) (S1) := by
  refine Bod.go dc_189_0 rfl ?_
  refine Bod.sw (t := 170) dc_189_1 rfl rfl (by rw [sw2]; decide +kernel) ?_
  refine Bod.go dc_189_170 rfl ?_
  refine Bod.virt (r := []) dc_189_171 kr_189_57 ⟨Or.inl rfl, ow_199, cl_6⟩ (by rw [np_199]; rfl) (by rw [np_199]; rfl) (ob_of (mk_53 _)) (Nat.le_of_ble_eq_true rfl) (c1  ) ?_
  show Bod _ _ _ _ [_] _ _ _
  exact Bod.retI dc_189_174 rt_189
theorem mAc_10 {d : Nat} {S : cS} {op : Nat} {S1 : cS} {rb : Int32} (mop : op < 2 ^ 20) (sw2 : op = 31) (c1 : Ans (d + 8) 201 [.ref 53] S (some (.int rb)) S1) : Bod (d + 8) 189 0 [(0, .ref 53), (1, .int (nI op))] [] S (some (.int rb)) (S1) := by
  refine Bod.go dc_189_0 rfl ?_
  refine Bod.sw (t := 175) dc_189_1 rfl rfl (by rw [sw2]; decide +kernel) ?_
  refine Bod.go dc_189_175 rfl ?_
  refine Bod.virt (r := []) dc_189_176 kr_189_60 ⟨Or.inl rfl, ow_201, cl_6⟩ (by rw [np_201]; rfl) (by rw [np_201]; rfl) (ob_of (mk_53 _)) (Nat.le_of_ble_eq_true rfl) (c1  ) ?_
  show Bod _ _ _ _ [_] _ _ _
  exact Bod.retI dc_189_179 rt_189
theorem mAc_11 {d : Nat} {S : cS} {op : Nat} {S1 : cS} {S2 : cS} {rb : Int32} (mop : op < 2 ^ 20) (sw2 : op = 32) (c1 : Ans (d + 8) 203 [.ref 53] S (some (.int (nI 1))) S1) (c2 : Ans (d + 8) 148 [.ref 46, .int (nI 2), .long ((2305843009213693952)), .long 1] S1 (some (.int rb)) S2) : Bod (d + 8) 189 0 [(0, .ref 53), (1, .int (nI op))] [] S (some (.int rb)) (S2) := by
  refine Bod.go dc_189_0 rfl ?_
  refine Bod.sw (t := 180) dc_189_1 rfl rfl (by rw [sw2]; decide +kernel) ?_
  refine Bod.go dc_189_180 rfl ?_
  refine Bod.get dc_189_181 fr_189_15 (mk_53 _) rfl ?_
  refine Bod.ic 2 (by decide) dc_189_184 ?_
  refine Bod.ldc2 dc_189_185 cj_189_23 ?_
  refine Bod.go dc_189_188 rfl ?_
  refine Bod.virt (r := [_, _, _]) dc_189_189 kr_189_63 ⟨Or.inl rfl, ow_203, cl_6⟩ (by rw [np_203]; rfl) (by rw [np_203]; rfl) (ob_of (mk_53 _)) (Nat.le_of_ble_eq_true rfl) (c1  ) ?_
  show Bod _ _ _ _ [_, _, _, _] _ _ _
  refine Bod.ifF dc_189_192 rfl (k1_eq_F (k_ne 1 0 rfl rfl (by omega) (by omega) (by omega))) ?_
  refine Bod.go dc_189_195 rfl ?_
  refine Bod.go dc_189_196 rfl ?_
  refine Bod.virt (r := []) dc_189_200 kr_189_31 ⟨Or.inr rfl, ow_148, cl_9⟩ (by rw [np_148]; rfl) (by rw [np_148]; rfl) (ob_of (mk_46 _)) (Nat.le_of_ble_eq_true rfl) (c2  ) ?_
  show Bod _ _ _ _ [_] _ _ _
  exact Bod.retI dc_189_203 rt_189
theorem mAc_12 {d : Nat} {S : cS} {op : Nat} {S1 : cS} {S2 : cS} {rb : Int32} (mop : op < 2 ^ 20) (sw2 : op = 32) (c1 : Ans (d + 8) 203 [.ref 53] S (some (.int (nI 0))) S1) (c2 : Ans (d + 8) 148 [.ref 46, .int (nI 2), .long ((2305843009213693952)), .long 0] S1 (some (.int rb)) S2) : Bod (d + 8) 189 0 [(0, .ref 53), (1, .int (nI op))] [] S (some (.int rb)) (S2) := by
  refine Bod.go dc_189_0 rfl ?_
  refine Bod.sw (t := 180) dc_189_1 rfl rfl (by rw [sw2]; decide +kernel) ?_
  refine Bod.go dc_189_180 rfl ?_
  refine Bod.get dc_189_181 fr_189_15 (mk_53 _) rfl ?_
  refine Bod.ic 2 (by decide) dc_189_184 ?_
  refine Bod.ldc2 dc_189_185 cj_189_23 ?_
  refine Bod.go dc_189_188 rfl ?_
  refine Bod.virt (r := [_, _, _]) dc_189_189 kr_189_63 ⟨Or.inl rfl, ow_203, cl_6⟩ (by rw [np_203]; rfl) (by rw [np_203]; rfl) (ob_of (mk_53 _)) (Nat.le_of_ble_eq_true rfl) (c1  ) ?_
  show Bod _ _ _ _ [_, _, _, _] _ _ _
  refine Bod.ifT dc_189_192 rfl (k1_eq_T (k_eq 0 0 rfl rfl (by omega))) ?_
  refine Bod.go dc_189_199 rfl ?_
  refine Bod.virt (r := []) dc_189_200 kr_189_31 ⟨Or.inr rfl, ow_148, cl_9⟩ (by rw [np_148]; rfl) (by rw [np_148]; rfl) (ob_of (mk_46 _)) (Nat.le_of_ble_eq_true rfl) (c2  ) ?_
  show Bod _ _ _ _ [_] _ _ _
  exact Bod.retI dc_189_203 rt_189
theorem mAc_13 {d : Nat} {S : cS} {op : Nat} {S1 : cS} {S2 : cS} {rb : Int32} (mop : op < 2 ^ 20) (sw2 : op = 33) (c1 : Ans (d + 8) 203 [.ref 53] S (some (.int (nI 1))) S1) (c2 : Ans (d + 8) 148 [.ref 46, .int (nI 2), .long ((2305843009213693952)), .long 0] S1 (some (.int rb)) S2) : Bod (d + 8) 189 0 [(0, .ref 53), (1, .int (nI op))] [] S (some (.int rb)) (S2) := by
  refine Bod.go dc_189_0 rfl ?_
  refine Bod.sw (t := 204) dc_189_1 rfl rfl (by rw [sw2]; decide +kernel) ?_
  refine Bod.go dc_189_204 rfl ?_
  refine Bod.get dc_189_205 fr_189_15 (mk_53 _) rfl ?_
  refine Bod.ic 2 (by decide) dc_189_208 ?_
  refine Bod.ldc2 dc_189_209 cj_189_23 ?_
  refine Bod.go dc_189_212 rfl ?_
  refine Bod.virt (r := [_, _, _]) dc_189_213 kr_189_63 ⟨Or.inl rfl, ow_203, cl_6⟩ (by rw [np_203]; rfl) (by rw [np_203]; rfl) (ob_of (mk_53 _)) (Nat.le_of_ble_eq_true rfl) (c1  ) ?_
  show Bod _ _ _ _ [_, _, _, _] _ _ _
  refine Bod.ifF dc_189_216 rfl (k1_eq_F (k_ne 1 0 rfl rfl (by omega) (by omega) (by omega))) ?_
  refine Bod.go dc_189_219 rfl ?_
  refine Bod.go dc_189_220 rfl ?_
  refine Bod.virt (r := []) dc_189_224 kr_189_31 ⟨Or.inr rfl, ow_148, cl_9⟩ (by rw [np_148]; rfl) (by rw [np_148]; rfl) (ob_of (mk_46 _)) (Nat.le_of_ble_eq_true rfl) (c2  ) ?_
  show Bod _ _ _ _ [_] _ _ _
  exact Bod.retI dc_189_227 rt_189
theorem mAc_14 {d : Nat} {S : cS} {op : Nat} {S1 : cS} {S2 : cS} {rb : Int32} (mop : op < 2 ^ 20) (sw2 : op = 33) (c1 : Ans (d + 8) 203 [.ref 53] S (some (.int (nI 0))) S1) (c2 : Ans (d + 8) 148 [.ref 46, .int (nI 2), .long ((2305843009213693952)), .long 1] S1 (some (.int rb)) S2) : Bod (d + 8) 189 0 [(0, .ref 53), (1, .int (nI op))] [] S (some (.int rb)) (S2) := by
  refine Bod.go dc_189_0 rfl ?_
  refine Bod.sw (t := 204) dc_189_1 rfl rfl (by rw [sw2]; decide +kernel) ?_
  refine Bod.go dc_189_204 rfl ?_
  refine Bod.get dc_189_205 fr_189_15 (mk_53 _) rfl ?_
  refine Bod.ic 2 (by decide) dc_189_208 ?_
  refine Bod.ldc2 dc_189_209 cj_189_23 ?_
  refine Bod.go dc_189_212 rfl ?_
  refine Bod.virt (r := [_, _, _]) dc_189_213 kr_189_63 ⟨Or.inl rfl, ow_203, cl_6⟩ (by rw [np_203]; rfl) (by rw [np_203]; rfl) (ob_of (mk_53 _)) (Nat.le_of_ble_eq_true rfl) (c1  ) ?_
  show Bod _ _ _ _ [_, _, _, _] _ _ _
  refine Bod.ifT dc_189_216 rfl (k1_eq_T (k_eq 0 0 rfl rfl (by omega))) ?_
  refine Bod.go dc_189_223 rfl ?_
  refine Bod.virt (r := []) dc_189_224 kr_189_31 ⟨Or.inr rfl, ow_148, cl_9⟩ (by rw [np_148]; rfl) (by rw [np_148]; rfl) (ob_of (mk_46 _)) (Nat.le_of_ble_eq_true rfl) (c2  ) ?_
  show Bod _ _ _ _ [_] _ _ _
  exact Bod.retI dc_189_227 rt_189
theorem mAc_15 {d : Nat} {S : cS} {op : Nat} {S1 : cS} {rb : Int32} (mop : op < 2 ^ 20) (sw2 : op = 38) (c1 : Ans (d + 8) 204 [.ref 53] S (some (.int rb)) S1) : Bod (d + 8) 189 0 [(0, .ref 53), (1, .int (nI op))] [] S (some (.int rb)) (S1) := by
  refine Bod.go dc_189_0 rfl ?_
  refine Bod.sw (t := 228) dc_189_1 rfl rfl (by rw [sw2]; decide +kernel) ?_
  refine Bod.go dc_189_228 rfl ?_
  refine Bod.virt (r := []) dc_189_229 kr_189_67 ⟨Or.inl rfl, ow_204, cl_6⟩ (by rw [np_204]; rfl) (by rw [np_204]; rfl) (ob_of (mk_53 _)) (Nat.le_of_ble_eq_true rfl) (c1  ) ?_
  show Bod _ _ _ _ [_] _ _ _
  exact Bod.retI dc_189_232 rt_189
theorem mAc_16 {d : Nat} {S : cS} {op : Nat} {S1 : cS} {u : Int64} {S2 : cS} {rb : Int32} {S3 : cS} {rb1 : Int32} (mop : op < 2 ^ 20) (sw2 : op = 39) (c1 : Ans (d + 8) 132 [.ref 46, .int (nI 1)] S (some (.long u)) S1) (c2 : Ans (d + 8) 134 [.long u] S1 (some (.int rb)) S2) (w5 : rb = nI 3) (c3 : Ans (d + 8) 207 [.ref 53, .int (nI 2)] S2 (some (.int rb1)) S3) : Bod (d + 8) 189 0 [(0, .ref 53), (1, .int (nI op))] [] S (some (.int rb1)) (S3) := by
  refine Bod.go dc_189_0 rfl ?_
  refine Bod.sw (t := 233) dc_189_1 rfl rfl (by rw [sw2]; decide +kernel) ?_
  refine Bod.go dc_189_233 rfl ?_
  refine Bod.get dc_189_234 fr_189_15 (mk_53 _) rfl ?_
  refine Bod.ic 1 (by decide) dc_189_237 ?_
  refine Bod.virt (r := []) dc_189_238 kr_189_70 ⟨Or.inr rfl, ow_132, cl_9⟩ (by rw [np_132]; rfl) (by rw [np_132]; rfl) (ob_of (mk_46 _)) (Nat.le_of_ble_eq_true rfl) (c1  ) ?_
  show Bod _ _ _ _ [_] _ _ _
  refine Bod.stat (r := []) dc_189_241 kr_189_74 (Or.inr rfl) (by rw [np_134]; rfl) (by rw [np_134]; rfl) (by rw [np_134]; exact Nat.le_of_ble_eq_true rfl) (Nat.le_of_ble_eq_true rfl) (c2  ) ?_
  show Bod _ _ _ _ [_] _ _ _
  refine Bod.ic 3 (by decide) dc_189_244 ?_
  refine Bod.icF dc_189_245 rfl (c2_ne_F w5) ?_
  refine Bod.go dc_189_248 rfl ?_
  refine Bod.ic 2 (by decide) dc_189_249 ?_
  refine Bod.virt (r := []) dc_189_250 kr_189_78 ⟨Or.inl rfl, ow_207, cl_6⟩ (by rw [np_207]; rfl) (by rw [np_207]; rfl) (ob_of (mk_53 _)) (Nat.le_of_ble_eq_true rfl) (c3  ) ?_
  show Bod _ _ _ _ [_] _ _ _
  refine Bod.go dc_189_253 rfl ?_
  exact Bod.retI dc_189_261 rt_189
theorem mAc_17 {d : Nat} {S : cS} {op : Nat} {S1 : cS} {u : Int64} {S2 : cS} {rb : Int32} {S3 : cS} {rb1 : Int32} (mop : op < 2 ^ 20) (sw2 : op = 39) (c1 : Ans (d + 8) 132 [.ref 46, .int (nI 1)] S (some (.long u)) S1) (c2 : Ans (d + 8) 134 [.long u] S1 (some (.int rb)) S2) (w5 : rb ≠ nI 3) (c3 : Ans (d + 8) 209 [.ref 53, .int (nI 2)] S2 (some (.int rb1)) S3) : Bod (d + 8) 189 0 [(0, .ref 53), (1, .int (nI op))] [] S (some (.int rb1)) (S3) := by
  refine Bod.go dc_189_0 rfl ?_
  refine Bod.sw (t := 233) dc_189_1 rfl rfl (by rw [sw2]; decide +kernel) ?_
  refine Bod.go dc_189_233 rfl ?_
  refine Bod.get dc_189_234 fr_189_15 (mk_53 _) rfl ?_
  refine Bod.ic 1 (by decide) dc_189_237 ?_
  refine Bod.virt (r := []) dc_189_238 kr_189_70 ⟨Or.inr rfl, ow_132, cl_9⟩ (by rw [np_132]; rfl) (by rw [np_132]; rfl) (ob_of (mk_46 _)) (Nat.le_of_ble_eq_true rfl) (c1  ) ?_
  show Bod _ _ _ _ [_] _ _ _
  refine Bod.stat (r := []) dc_189_241 kr_189_74 (Or.inr rfl) (by rw [np_134]; rfl) (by rw [np_134]; rfl) (by rw [np_134]; exact Nat.le_of_ble_eq_true rfl) (Nat.le_of_ble_eq_true rfl) (c2  ) ?_
  show Bod _ _ _ _ [_] _ _ _
  refine Bod.ic 3 (by decide) dc_189_244 ?_
  refine Bod.icT dc_189_245 rfl (c2_ne_T w5) ?_
  refine Bod.go dc_189_256 rfl ?_
  refine Bod.ic 2 (by decide) dc_189_257 ?_
  refine Bod.virt (r := []) dc_189_258 kr_189_82 ⟨Or.inl rfl, ow_209, cl_6⟩ (by rw [np_209]; rfl) (by rw [np_209]; rfl) (ob_of (mk_53 _)) (Nat.le_of_ble_eq_true rfl) (c3  ) ?_
  show Bod _ _ _ _ [_] _ _ _
  exact Bod.retI dc_189_261 rt_189
theorem mAc_18 {d : Nat} {S : cS} {op : Nat} {S1 : cS} {u : Int64} {S2 : cS} {rb : Int32} {S3 : cS} {rb1 : Int32} (mop : op < 2 ^ 20) (sw2 : op = 40) (c1 : Ans (d + 8) 132 [.ref 46, .int (nI 1)] S (some (.long u)) S1) (c2 : Ans (d + 8) 134 [.long u] S1 (some (.int rb)) S2) (w5 : rb = nI 3) (c3 : Ans (d + 8) 207 [.ref 53, .int (nI 0)] S2 (some (.int rb1)) S3) : Bod (d + 8) 189 0 [(0, .ref 53), (1, .int (nI op))] [] S (some (.int rb1)) (S3) := by
  refine Bod.go dc_189_0 rfl ?_
  refine Bod.sw (t := 262) dc_189_1 rfl rfl (by rw [sw2]; decide +kernel) ?_
  refine Bod.go dc_189_262 rfl ?_
  refine Bod.get dc_189_263 fr_189_15 (mk_53 _) rfl ?_
  refine Bod.ic 1 (by decide) dc_189_266 ?_
  refine Bod.virt (r := []) dc_189_267 kr_189_70 ⟨Or.inr rfl, ow_132, cl_9⟩ (by rw [np_132]; rfl) (by rw [np_132]; rfl) (ob_of (mk_46 _)) (Nat.le_of_ble_eq_true rfl) (c1  ) ?_
  show Bod _ _ _ _ [_] _ _ _
  refine Bod.stat (r := []) dc_189_270 kr_189_74 (Or.inr rfl) (by rw [np_134]; rfl) (by rw [np_134]; rfl) (by rw [np_134]; exact Nat.le_of_ble_eq_true rfl) (Nat.le_of_ble_eq_true rfl) (c2  ) ?_
  show Bod _ _ _ _ [_] _ _ _
  refine Bod.ic 3 (by decide) dc_189_273 ?_
  refine Bod.icF dc_189_274 rfl (c2_ne_F w5) ?_
  refine Bod.go dc_189_277 rfl ?_
  refine Bod.ic 0 (by decide) dc_189_278 ?_
  refine Bod.virt (r := []) dc_189_279 kr_189_78 ⟨Or.inl rfl, ow_207, cl_6⟩ (by rw [np_207]; rfl) (by rw [np_207]; rfl) (ob_of (mk_53 _)) (Nat.le_of_ble_eq_true rfl) (c3  ) ?_
  show Bod _ _ _ _ [_] _ _ _
  refine Bod.go dc_189_282 rfl ?_
  exact Bod.retI dc_189_290 rt_189
theorem mAc_19 {d : Nat} {S : cS} {op : Nat} {S1 : cS} {u : Int64} {S2 : cS} {rb : Int32} {S3 : cS} {rb1 : Int32} (mop : op < 2 ^ 20) (sw2 : op = 40) (c1 : Ans (d + 8) 132 [.ref 46, .int (nI 1)] S (some (.long u)) S1) (c2 : Ans (d + 8) 134 [.long u] S1 (some (.int rb)) S2) (w5 : rb ≠ nI 3) (c3 : Ans (d + 8) 209 [.ref 53, .int (nI 0)] S2 (some (.int rb1)) S3) : Bod (d + 8) 189 0 [(0, .ref 53), (1, .int (nI op))] [] S (some (.int rb1)) (S3) := by
  refine Bod.go dc_189_0 rfl ?_
  refine Bod.sw (t := 262) dc_189_1 rfl rfl (by rw [sw2]; decide +kernel) ?_
  refine Bod.go dc_189_262 rfl ?_
  refine Bod.get dc_189_263 fr_189_15 (mk_53 _) rfl ?_
  refine Bod.ic 1 (by decide) dc_189_266 ?_
  refine Bod.virt (r := []) dc_189_267 kr_189_70 ⟨Or.inr rfl, ow_132, cl_9⟩ (by rw [np_132]; rfl) (by rw [np_132]; rfl) (ob_of (mk_46 _)) (Nat.le_of_ble_eq_true rfl) (c1  ) ?_
  show Bod _ _ _ _ [_] _ _ _
  refine Bod.stat (r := []) dc_189_270 kr_189_74 (Or.inr rfl) (by rw [np_134]; rfl) (by rw [np_134]; rfl) (by rw [np_134]; exact Nat.le_of_ble_eq_true rfl) (Nat.le_of_ble_eq_true rfl) (c2  ) ?_
  show Bod _ _ _ _ [_] _ _ _
  refine Bod.ic 3 (by decide) dc_189_273 ?_
  refine Bod.icT dc_189_274 rfl (c2_ne_T w5) ?_
  refine Bod.go dc_189_285 rfl ?_
  refine Bod.ic 0 (by decide) dc_189_286 ?_
  refine Bod.virt (r := []) dc_189_287 kr_189_82 ⟨Or.inl rfl, ow_209, cl_6⟩ (by rw [np_209]; rfl) (by rw [np_209]; rfl) (ob_of (mk_53 _)) (Nat.le_of_ble_eq_true rfl) (c3  ) ?_
  show Bod _ _ _ _ [_] _ _ _
  exact Bod.retI dc_189_290 rt_189
theorem mAc_20 {d : Nat} {S : cS} {op : Nat} {S1 : cS} {rb : Int32} (mop : op < 2 ^ 20) (sw2 : op = 41) (c1 : Ans (d + 8) 211 [.ref 53, .int (nI 1), .int (nI 0), .int (nI 2)] S (some (.int rb)) S1) : Bod (d + 8) 189 0 [(0, .ref 53), (1, .int (nI op))] [] S (some (.int rb)) (S1) := by
  refine Bod.go dc_189_0 rfl ?_
  refine Bod.sw (t := 291) dc_189_1 rfl rfl (by rw [sw2]; decide +kernel) ?_
  refine Bod.go dc_189_291 rfl ?_
  refine Bod.ic 1 (by decide) dc_189_292 ?_
  refine Bod.ic 0 (by decide) dc_189_293 ?_
  refine Bod.ic 2 (by decide) dc_189_294 ?_
  refine Bod.virt (r := []) dc_189_295 kr_189_85 ⟨Or.inl rfl, ow_211, cl_6⟩ (by rw [np_211]; rfl) (by rw [np_211]; rfl) (ob_of (mk_53 _)) (Nat.le_of_ble_eq_true rfl) (c1  ) ?_
  show Bod _ _ _ _ [_] _ _ _
  exact Bod.retI dc_189_298 rt_189
theorem mAc_21 {d : Nat} {S : cS} {op : Nat} {S1 : cS} {rb : Int32} (mop : op < 2 ^ 20) (sw2 : op = 42) (c1 : Ans (d + 8) 211 [.ref 53, .int (nI 2), .int (nI 1), .int (nI 0)] S (some (.int rb)) S1) : Bod (d + 8) 189 0 [(0, .ref 53), (1, .int (nI op))] [] S (some (.int rb)) (S1) := by
  refine Bod.go dc_189_0 rfl ?_
  refine Bod.sw (t := 299) dc_189_1 rfl rfl (by rw [sw2]; decide +kernel) ?_
  refine Bod.go dc_189_299 rfl ?_
  refine Bod.ic 2 (by decide) dc_189_300 ?_
  refine Bod.ic 1 (by decide) dc_189_301 ?_
  refine Bod.ic 0 (by decide) dc_189_302 ?_
  refine Bod.virt (r := []) dc_189_303 kr_189_85 ⟨Or.inl rfl, ow_211, cl_6⟩ (by rw [np_211]; rfl) (by rw [np_211]; rfl) (ob_of (mk_53 _)) (Nat.le_of_ble_eq_true rfl) (c1  ) ?_
  show Bod _ _ _ _ [_] _ _ _
  exact Bod.retI dc_189_306 rt_189
theorem mAc_22 {d : Nat} {S : cS} {op : Nat} {S1 : cS} {rb : Int32} (mop : op < 2 ^ 20) (sw2 : op = 43) (c1 : Ans (d + 8) 212 [.ref 53] S (some (.int rb)) S1) : Bod (d + 8) 189 0 [(0, .ref 53), (1, .int (nI op))] [] S (some (.int rb)) (S1) := by
  refine Bod.go dc_189_0 rfl ?_
  refine Bod.sw (t := 307) dc_189_1 rfl rfl (by rw [sw2]; decide +kernel) ?_
  refine Bod.go dc_189_307 rfl ?_
  refine Bod.virt (r := []) dc_189_308 kr_189_89 ⟨Or.inl rfl, ow_212, cl_6⟩ (by rw [np_212]; rfl) (by rw [np_212]; rfl) (ob_of (mk_53 _)) (Nat.le_of_ble_eq_true rfl) (c1  ) ?_
  show Bod _ _ _ _ [_] _ _ _
  exact Bod.retI dc_189_311 rt_189
theorem mAc_23 {d : Nat} {S : cS} {op : Nat} {S1 : cS} {rb : Int32} (mop : op < 2 ^ 20) (b64 : op < 64) (n25 : op ≠ 25) (n26 : op ≠ 26) (n27 : op ≠ 27) (n28 : op ≠ 28) (n29 : op ≠ 29) (n30 : op ≠ 30) (n31 : op ≠ 31) (n32 : op ≠ 32) (n33 : op ≠ 33) (n38 : op ≠ 38) (n39 : op ≠ 39) (n40 : op ≠ 40) (n41 : op ≠ 41) (n42 : op ≠ 42) (n43 : op ≠ 43) (c1 : Ans (d + 8) 214 [.ref 53, .int (nI op)] S (some (.int rb)) S1) : Bod (d + 8) 189 0 [(0, .ref 53), (1, .int (nI op))] [] S (some (.int rb)) (S1) := by
  refine Bod.go dc_189_0 rfl ?_
  refine Bod.sw (t := 312) dc_189_1 rfl rfl (((((((((((((((((xsw_189_1 op b64).resolve_left n25).resolve_left n26).resolve_left n27).resolve_left n28).resolve_left n29).resolve_left n30).resolve_left n31).resolve_left n32).resolve_left n33).resolve_left n38).resolve_left n39).resolve_left n40).resolve_left n41).resolve_left n42).resolve_left n43)) ?_
  refine Bod.go dc_189_312 rfl ?_
  refine Bod.go dc_189_313 rfl ?_
  refine Bod.virt (r := []) dc_189_314 kr_189_92 ⟨Or.inl rfl, ow_214, cl_6⟩ (by rw [np_214]; rfl) (by rw [np_214]; rfl) (ob_of (mk_53 _)) (Nat.le_of_ble_eq_true rfl) (c1  ) ?_
  show Bod _ _ _ _ [_] _ _ _
  exact Bod.retI dc_189_317 rt_189
theorem xsw_217_1 : ∀ b, b < 64 → (b = 44 ∨ b = 45 ∨ b = 46 ∨ b = 47 ∨ b = 48 ∨ b = 49 ∨ b = 50 ∨ sm_br (.tableswitch (91) 44 50 #[43, 50, 57, 65, 73, 79, 85]) 43 1 [.int (nI b)] = some (92, [])) := by decide +kernel
theorem mA2_1 {d : Nat} {S : cS} {op : Nat} {x : Int32} {S1 : cS} {rb : Int32} (mop : op < 2 ^ 20) (sw2 : op = 44) (c1 : Ans (d + 8) 218 [.ref 53, .int x, .int (nI 1)] S (some (.int rb)) S1) : Bod (d + 8) 217 0 [(0, .ref 53), (1, .int (nI op)), (2, .int x)] [] S (some (.int rb)) (S1) := by
  refine Bod.go dc_217_0 rfl ?_
  refine Bod.sw (t := 44) dc_217_1 rfl rfl (by rw [sw2]; decide +kernel) ?_
  refine Bod.go dc_217_44 rfl ?_
  refine Bod.go dc_217_45 rfl ?_
  refine Bod.ic 1 (by decide) dc_217_46 ?_
  refine Bod.virt (r := []) dc_217_47 kr_217_95 ⟨Or.inl rfl, ow_218, cl_6⟩ (by rw [np_218]; rfl) (by rw [np_218]; rfl) (ob_of (mk_53 _)) (Nat.le_of_ble_eq_true rfl) (c1  ) ?_
  show Bod _ _ _ _ [_] _ _ _
  exact Bod.retI dc_217_50 rt_217
theorem mA2_2 {d : Nat} {S : cS} {op : Nat} {x : Int32} {S1 : cS} {rb : Int32} (mop : op < 2 ^ 20) (sw2 : op = 45) (c1 : Ans (d + 8) 218 [.ref 53, .int x, .int (nI 0)] S (some (.int rb)) S1) : Bod (d + 8) 217 0 [(0, .ref 53), (1, .int (nI op)), (2, .int x)] [] S (some (.int rb)) (S1) := by
  refine Bod.go dc_217_0 rfl ?_
  refine Bod.sw (t := 51) dc_217_1 rfl rfl (by rw [sw2]; decide +kernel) ?_
  refine Bod.go dc_217_51 rfl ?_
  refine Bod.go dc_217_52 rfl ?_
  refine Bod.ic 0 (by decide) dc_217_53 ?_
  refine Bod.virt (r := []) dc_217_54 kr_217_95 ⟨Or.inl rfl, ow_218, cl_6⟩ (by rw [np_218]; rfl) (by rw [np_218]; rfl) (ob_of (mk_53 _)) (Nat.le_of_ble_eq_true rfl) (c1  ) ?_
  show Bod _ _ _ _ [_] _ _ _
  exact Bod.retI dc_217_57 rt_217
theorem mA2_3 {d : Nat} {S : cS} {op : Nat} {x : Int32} {S1 : cS} {rb : Int32} (mop : op < 2 ^ 20) (sw2 : op = 46) (c1 : Ans (d + 8) 221 [.ref 53, .int x, .int (nI 0), .int (nI 1)] S (some (.int rb)) S1) : Bod (d + 8) 217 0 [(0, .ref 53), (1, .int (nI op)), (2, .int x)] [] S (some (.int rb)) (S1) := by
  refine Bod.go dc_217_0 rfl ?_
  refine Bod.sw (t := 58) dc_217_1 rfl rfl (by rw [sw2]; decide +kernel) ?_
  refine Bod.go dc_217_58 rfl ?_
  refine Bod.go dc_217_59 rfl ?_
  refine Bod.ic 0 (by decide) dc_217_60 ?_
  refine Bod.ic 1 (by decide) dc_217_61 ?_
  refine Bod.virt (r := []) dc_217_62 kr_217_99 ⟨Or.inl rfl, ow_221, cl_6⟩ (by rw [np_221]; rfl) (by rw [np_221]; rfl) (ob_of (mk_53 _)) (Nat.le_of_ble_eq_true rfl) (c1  ) ?_
  show Bod _ _ _ _ [_] _ _ _
  exact Bod.retI dc_217_65 rt_217
theorem mA2_4 {d : Nat} {S : cS} {op : Nat} {x : Int32} {S1 : cS} {rb : Int32} (mop : op < 2 ^ 20) (sw2 : op = 47) (c1 : Ans (d + 8) 221 [.ref 53, .int x, .int (nI 1), .int (nI 0)] S (some (.int rb)) S1) : Bod (d + 8) 217 0 [(0, .ref 53), (1, .int (nI op)), (2, .int x)] [] S (some (.int rb)) (S1) := by
  refine Bod.go dc_217_0 rfl ?_
  refine Bod.sw (t := 66) dc_217_1 rfl rfl (by rw [sw2]; decide +kernel) ?_
  refine Bod.go dc_217_66 rfl ?_
  refine Bod.go dc_217_67 rfl ?_
  refine Bod.ic 1 (by decide) dc_217_68 ?_
  refine Bod.ic 0 (by decide) dc_217_69 ?_
  refine Bod.virt (r := []) dc_217_70 kr_217_99 ⟨Or.inl rfl, ow_221, cl_6⟩ (by rw [np_221]; rfl) (by rw [np_221]; rfl) (ob_of (mk_53 _)) (Nat.le_of_ble_eq_true rfl) (c1  ) ?_
  show Bod _ _ _ _ [_] _ _ _
  exact Bod.retI dc_217_73 rt_217
theorem mA2_5 {d : Nat} {S : cS} {op : Nat} {x : Int32} {S1 : cS} {rb : Int32} (mop : op < 2 ^ 20) (sw2 : op = 48) (c1 : Ans (d + 8) 222 [.ref 53, .int x] S (some (.int rb)) S1) : Bod (d + 8) 217 0 [(0, .ref 53), (1, .int (nI op)), (2, .int x)] [] S (some (.int rb)) (S1) := by
  refine Bod.go dc_217_0 rfl ?_
  refine Bod.sw (t := 74) dc_217_1 rfl rfl (by rw [sw2]; decide +kernel) ?_
  refine Bod.go dc_217_74 rfl ?_
  refine Bod.go dc_217_75 rfl ?_
  refine Bod.virt (r := []) dc_217_76 kr_217_102 ⟨Or.inl rfl, ow_222, cl_6⟩ (by rw [np_222]; rfl) (by rw [np_222]; rfl) (ob_of (mk_53 _)) (Nat.le_of_ble_eq_true rfl) (c1  ) ?_
  show Bod _ _ _ _ [_] _ _ _
  exact Bod.retI dc_217_79 rt_217
theorem mA2_6 {d : Nat} {S : cS} {op : Nat} {x : Int32} {S1 : cS} {rb : Int32} (mop : op < 2 ^ 20) (sw2 : op = 49) (c1 : Ans (d + 8) 223 [.ref 53, .int x] S (some (.int rb)) S1) : Bod (d + 8) 217 0 [(0, .ref 53), (1, .int (nI op)), (2, .int x)] [] S (some (.int rb)) (S1) := by
  refine Bod.go dc_217_0 rfl ?_
  refine Bod.sw (t := 80) dc_217_1 rfl rfl (by rw [sw2]; decide +kernel) ?_
  refine Bod.go dc_217_80 rfl ?_
  refine Bod.go dc_217_81 rfl ?_
  refine Bod.virt (r := []) dc_217_82 kr_217_105 ⟨Or.inl rfl, ow_223, cl_6⟩ (by rw [np_223]; rfl) (by rw [np_223]; rfl) (ob_of (mk_53 _)) (Nat.le_of_ble_eq_true rfl) (c1  ) ?_
  show Bod _ _ _ _ [_] _ _ _
  exact Bod.retI dc_217_85 rt_217
theorem mA2_7 {d : Nat} {S : cS} {op : Nat} {x : Int32} {S1 : cS} {rb : Int32} (mop : op < 2 ^ 20) (sw2 : op = 50) (c1 : Ans (d + 8) 224 [.ref 53, .int x] S (some (.int rb)) S1) : Bod (d + 8) 217 0 [(0, .ref 53), (1, .int (nI op)), (2, .int x)] [] S (some (.int rb)) (S1) := by
  refine Bod.go dc_217_0 rfl ?_
  refine Bod.sw (t := 86) dc_217_1 rfl rfl (by rw [sw2]; decide +kernel) ?_
  refine Bod.go dc_217_86 rfl ?_
  refine Bod.go dc_217_87 rfl ?_
  refine Bod.virt (r := []) dc_217_88 kr_217_108 ⟨Or.inl rfl, ow_224, cl_6⟩ (by rw [np_224]; rfl) (by rw [np_224]; rfl) (ob_of (mk_53 _)) (Nat.le_of_ble_eq_true rfl) (c1  ) ?_
  show Bod _ _ _ _ [_] _ _ _
  exact Bod.retI dc_217_91 rt_217
theorem mA2_8 {d : Nat} {S : cS} {op : Nat} {x : Int32} (mop : op < 2 ^ 20) (b64 : op < 64) (n44 : op ≠ 44) (n45 : op ≠ 45) (n46 : op ≠ 46) (n47 : op ≠ 47) (n48 : op ≠ 48) (n49 : op ≠ 49) (n50 : op ≠ 50) : Bod (d + 8) 217 0 [(0, .ref 53), (1, .int (nI op)), (2, .int x)] [] S (some (.int (nI 0))) (S) := by
  refine Bod.go dc_217_0 rfl ?_
  refine Bod.sw (t := 92) dc_217_1 rfl rfl (((((((((xsw_217_1 op b64).resolve_left n44).resolve_left n45).resolve_left n46).resolve_left n47).resolve_left n48).resolve_left n49).resolve_left n50)) ?_
  refine Bod.ic 0 (by decide) dc_217_92 ?_
  exact Bod.retI dc_217_93 rt_217
theorem mNg_1 {d : Nat} {S : cS} {S1 : cS} {u : Int64} {S2 : cS} {u1 : Int64} {S3 : cS} {rb : Int32} {S4 : cS} {rb1 : Int32} (c1 : Ans (d + 8) 135 [.ref 46, .int (nI 0)] S (some (.long u)) S1) (c2 : Ans (d + 8) 132 [.ref 46, .int (nI 0)] S1 (some (.long u1)) S2) (c3 : Ans (d + 8) 134 [.long u1] S2 (some (.int rb)) S3) (w4 : rb = nI 2) (w5 : sm_c1 .ne (lg_cmp u ((-9223372036854775808))) true false = true) (c4 : Ans (d + 8) 148 [.ref 46, .int (nI 1), .long ((2305843009213693952)), .long (-u)] S3 (some (.int rb1)) S4) : Bod (d + 8) 190 0 [(0, .ref 53)] [] S (some (.int rb1)) (S4) := by
  refine Bod.go dc_190_0 rfl ?_
  refine Bod.get dc_190_1 fr_190_15 (mk_53 _) rfl ?_
  refine Bod.ic 0 (by decide) dc_190_4 ?_
  refine Bod.virt (r := []) dc_190_5 kr_190_111 ⟨Or.inr rfl, ow_135, cl_9⟩ (by rw [np_135]; rfl) (by rw [np_135]; rfl) (ob_of (mk_46 _)) (Nat.le_of_ble_eq_true rfl) (c1  ) ?_
  show Bod _ _ _ _ [_] _ _ _
  refine Bod.lstn dc_190_8 (by rw [ml_190]; exact Nat.le_of_ble_eq_true rfl) ?_
  refine Bod.go dc_190_9 rfl ?_
  refine Bod.get dc_190_10 fr_190_15 (mk_53 _) rfl ?_
  refine Bod.ic 0 (by decide) dc_190_13 ?_
  refine Bod.virt (r := []) dc_190_14 kr_190_70 ⟨Or.inr rfl, ow_132, cl_9⟩ (by rw [np_132]; rfl) (by rw [np_132]; rfl) (ob_of (mk_46 _)) (Nat.le_of_ble_eq_true rfl) (c2  ) ?_
  show Bod _ _ _ _ [_] _ _ _
  refine Bod.stat (r := []) dc_190_17 kr_190_74 (Or.inr rfl) (by rw [np_134]; rfl) (by rw [np_134]; rfl) (by rw [np_134]; exact Nat.le_of_ble_eq_true rfl) (Nat.le_of_ble_eq_true rfl) (c3  ) ?_
  show Bod _ _ _ _ [_] _ _ _
  refine Bod.ic 2 (by decide) dc_190_20 ?_
  refine Bod.icT dc_190_21 rfl (c2_eq_T w4) ?_
  refine Bod.go dc_190_26 rfl ?_
  refine Bod.ldc2 dc_190_27 cj_190_114 ?_
  refine Bod.go dc_190_30 rfl ?_
  refine Bod.ifT dc_190_31 rfl w5 ?_
  refine Bod.go dc_190_39 rfl ?_
  refine Bod.get dc_190_40 fr_190_15 (mk_53 _) rfl ?_
  refine Bod.ic 1 (by decide) dc_190_43 ?_
  refine Bod.ldc2 dc_190_44 cj_190_23 ?_
  refine Bod.go dc_190_47 rfl ?_
  refine Bod.go dc_190_48 rfl ?_
  refine Bod.virt (r := []) dc_190_49 kr_190_31 ⟨Or.inr rfl, ow_148, cl_9⟩ (by rw [np_148]; rfl) (by rw [np_148]; rfl) (ob_of (mk_46 _)) (Nat.le_of_ble_eq_true rfl) (c4  ) ?_
  show Bod _ _ _ _ [_] _ _ _
  exact Bod.retI dc_190_52 rt_190
theorem mNg_2 {d : Nat} {S : cS} {S1 : cS} {u : Int64} {S2 : cS} {u1 : Int64} {S3 : cS} {rb : Int32} (c1 : Ans (d + 8) 135 [.ref 46, .int (nI 0)] S (some (.long u)) S1) (c2 : Ans (d + 8) 132 [.ref 46, .int (nI 0)] S1 (some (.long u1)) S2) (c3 : Ans (d + 8) 134 [.long u1] S2 (some (.int rb)) S3) (w4 : rb = nI 2) (w5 : sm_c1 .ne (lg_cmp u ((-9223372036854775808))) true false = false) : Bod (d + 8) 190 0 [(0, .ref 53)] [] S (some (.int (nI 6))) (S3) := by
  refine Bod.go dc_190_0 rfl ?_
  refine Bod.get dc_190_1 fr_190_15 (mk_53 _) rfl ?_
  refine Bod.ic 0 (by decide) dc_190_4 ?_
  refine Bod.virt (r := []) dc_190_5 kr_190_111 ⟨Or.inr rfl, ow_135, cl_9⟩ (by rw [np_135]; rfl) (by rw [np_135]; rfl) (ob_of (mk_46 _)) (Nat.le_of_ble_eq_true rfl) (c1  ) ?_
  show Bod _ _ _ _ [_] _ _ _
  refine Bod.lstn dc_190_8 (by rw [ml_190]; exact Nat.le_of_ble_eq_true rfl) ?_
  refine Bod.go dc_190_9 rfl ?_
  refine Bod.get dc_190_10 fr_190_15 (mk_53 _) rfl ?_
  refine Bod.ic 0 (by decide) dc_190_13 ?_
  refine Bod.virt (r := []) dc_190_14 kr_190_70 ⟨Or.inr rfl, ow_132, cl_9⟩ (by rw [np_132]; rfl) (by rw [np_132]; rfl) (ob_of (mk_46 _)) (Nat.le_of_ble_eq_true rfl) (c2  ) ?_
  show Bod _ _ _ _ [_] _ _ _
  refine Bod.stat (r := []) dc_190_17 kr_190_74 (Or.inr rfl) (by rw [np_134]; rfl) (by rw [np_134]; rfl) (by rw [np_134]; exact Nat.le_of_ble_eq_true rfl) (Nat.le_of_ble_eq_true rfl) (c3  ) ?_
  show Bod _ _ _ _ [_] _ _ _
  refine Bod.ic 2 (by decide) dc_190_20 ?_
  refine Bod.icT dc_190_21 rfl (c2_eq_T w4) ?_
  refine Bod.go dc_190_26 rfl ?_
  refine Bod.ldc2 dc_190_27 cj_190_114 ?_
  refine Bod.go dc_190_30 rfl ?_
  refine Bod.ifF dc_190_31 rfl w5 ?_
  refine Bod.bip 6 (by decide) dc_190_34 ?_
  refine Bod.go dc_190_36 rfl ?_
  exact Bod.retI dc_190_52 rt_190
theorem mNg_3 {d : Nat} {S : cS} {S1 : cS} {u : Int64} {S2 : cS} {u1 : Int64} {S3 : cS} {rb : Int32} (c1 : Ans (d + 8) 135 [.ref 46, .int (nI 0)] S (some (.long u)) S1) (c2 : Ans (d + 8) 132 [.ref 46, .int (nI 0)] S1 (some (.long u1)) S2) (c3 : Ans (d + 8) 134 [.long u1] S2 (some (.int rb)) S3) (w4 : rb ≠ nI 2) : Bod (d + 8) 190 0 [(0, .ref 53)] [] S (some (.int (nI 2))) (S3) := by
  refine Bod.go dc_190_0 rfl ?_
  refine Bod.get dc_190_1 fr_190_15 (mk_53 _) rfl ?_
  refine Bod.ic 0 (by decide) dc_190_4 ?_
  refine Bod.virt (r := []) dc_190_5 kr_190_111 ⟨Or.inr rfl, ow_135, cl_9⟩ (by rw [np_135]; rfl) (by rw [np_135]; rfl) (ob_of (mk_46 _)) (Nat.le_of_ble_eq_true rfl) (c1  ) ?_
  show Bod _ _ _ _ [_] _ _ _
  refine Bod.lstn dc_190_8 (by rw [ml_190]; exact Nat.le_of_ble_eq_true rfl) ?_
  refine Bod.go dc_190_9 rfl ?_
  refine Bod.get dc_190_10 fr_190_15 (mk_53 _) rfl ?_
  refine Bod.ic 0 (by decide) dc_190_13 ?_
  refine Bod.virt (r := []) dc_190_14 kr_190_70 ⟨Or.inr rfl, ow_132, cl_9⟩ (by rw [np_132]; rfl) (by rw [np_132]; rfl) (ob_of (mk_46 _)) (Nat.le_of_ble_eq_true rfl) (c2  ) ?_
  show Bod _ _ _ _ [_] _ _ _
  refine Bod.stat (r := []) dc_190_17 kr_190_74 (Or.inr rfl) (by rw [np_134]; rfl) (by rw [np_134]; rfl) (by rw [np_134]; exact Nat.le_of_ble_eq_true rfl) (Nat.le_of_ble_eq_true rfl) (c3  ) ?_
  show Bod _ _ _ _ [_] _ _ _
  refine Bod.ic 2 (by decide) dc_190_20 ?_
  refine Bod.icF dc_190_21 rfl (c2_eq_F w4) ?_
  refine Bod.ic 2 (by decide) dc_190_24 ?_
  exact Bod.retI dc_190_25 rt_190
theorem mAb_1 {d : Nat} {S : cS} {kd : Nat} {S1 : cS} {u : Int64} {S2 : cS} {rb : Int32} {S3 : cS} {u1 : Int64} {S4 : cS} {rb1 : Int32} (mkd : kd < 2 ^ 20) (c1 : Ans (d + 8) 132 [.ref 46, .int (nI 0)] S (some (.long u)) S1) (c2 : Ans (d + 8) 134 [.long u] S1 (some (.int rb)) S2) (w4 : rb = nI kd) (c3 : Ans (d + 8) 132 [.ref 46, .int (nI 1)] S2 (some (.long u1)) S3) (c4 : Ans (d + 8) 134 [.long u1] S3 (some (.int rb1)) S4) (w7 : rb1 = nI kd) : Bod (d + 8) 191 0 [(0, .ref 53), (1, .int (nI kd))] [] S (some (.int 1)) (S4) := by
  refine Bod.go dc_191_0 rfl ?_
  refine Bod.get dc_191_1 fr_191_15 (mk_53 _) rfl ?_
  refine Bod.ic 0 (by decide) dc_191_4 ?_
  refine Bod.virt (r := []) dc_191_5 kr_191_70 ⟨Or.inr rfl, ow_132, cl_9⟩ (by rw [np_132]; rfl) (by rw [np_132]; rfl) (ob_of (mk_46 _)) (Nat.le_of_ble_eq_true rfl) (c1  ) ?_
  show Bod _ _ _ _ [_] _ _ _
  refine Bod.stat (r := []) dc_191_8 kr_191_74 (Or.inr rfl) (by rw [np_134]; rfl) (by rw [np_134]; rfl) (by rw [np_134]; exact Nat.le_of_ble_eq_true rfl) (Nat.le_of_ble_eq_true rfl) (c2  ) ?_
  show Bod _ _ _ _ [_] _ _ _
  refine Bod.go dc_191_11 rfl ?_
  refine Bod.icF dc_191_12 rfl (c2_ne_F w4) ?_
  refine Bod.go dc_191_15 rfl ?_
  refine Bod.get dc_191_16 fr_191_15 (mk_53 _) rfl ?_
  refine Bod.ic 1 (by decide) dc_191_19 ?_
  refine Bod.virt (r := []) dc_191_20 kr_191_70 ⟨Or.inr rfl, ow_132, cl_9⟩ (by rw [np_132]; rfl) (by rw [np_132]; rfl) (ob_of (mk_46 _)) (Nat.le_of_ble_eq_true rfl) (c3  ) ?_
  show Bod _ _ _ _ [_] _ _ _
  refine Bod.stat (r := []) dc_191_23 kr_191_74 (Or.inr rfl) (by rw [np_134]; rfl) (by rw [np_134]; rfl) (by rw [np_134]; exact Nat.le_of_ble_eq_true rfl) (Nat.le_of_ble_eq_true rfl) (c4  ) ?_
  show Bod _ _ _ _ [_] _ _ _
  refine Bod.go dc_191_26 rfl ?_
  refine Bod.icF dc_191_27 rfl (c2_ne_F w7) ?_
  refine Bod.ic 1 (by decide) dc_191_30 ?_
  refine Bod.go dc_191_31 rfl ?_
  exact Bod.retZ dc_191_35 rt_191 (Or.inr rfl)
theorem mAb_2 {d : Nat} {S : cS} {kd : Nat} {S1 : cS} {u : Int64} {S2 : cS} {rb : Int32} {S3 : cS} {u1 : Int64} {S4 : cS} {rb1 : Int32} (mkd : kd < 2 ^ 20) (c1 : Ans (d + 8) 132 [.ref 46, .int (nI 0)] S (some (.long u)) S1) (c2 : Ans (d + 8) 134 [.long u] S1 (some (.int rb)) S2) (w4 : rb = nI kd) (c3 : Ans (d + 8) 132 [.ref 46, .int (nI 1)] S2 (some (.long u1)) S3) (c4 : Ans (d + 8) 134 [.long u1] S3 (some (.int rb1)) S4) (w7 : rb1 ≠ nI kd) : Bod (d + 8) 191 0 [(0, .ref 53), (1, .int (nI kd))] [] S (some (.int 0)) (S4) := by
  refine Bod.go dc_191_0 rfl ?_
  refine Bod.get dc_191_1 fr_191_15 (mk_53 _) rfl ?_
  refine Bod.ic 0 (by decide) dc_191_4 ?_
  refine Bod.virt (r := []) dc_191_5 kr_191_70 ⟨Or.inr rfl, ow_132, cl_9⟩ (by rw [np_132]; rfl) (by rw [np_132]; rfl) (ob_of (mk_46 _)) (Nat.le_of_ble_eq_true rfl) (c1  ) ?_
  show Bod _ _ _ _ [_] _ _ _
  refine Bod.stat (r := []) dc_191_8 kr_191_74 (Or.inr rfl) (by rw [np_134]; rfl) (by rw [np_134]; rfl) (by rw [np_134]; exact Nat.le_of_ble_eq_true rfl) (Nat.le_of_ble_eq_true rfl) (c2  ) ?_
  show Bod _ _ _ _ [_] _ _ _
  refine Bod.go dc_191_11 rfl ?_
  refine Bod.icF dc_191_12 rfl (c2_ne_F w4) ?_
  refine Bod.go dc_191_15 rfl ?_
  refine Bod.get dc_191_16 fr_191_15 (mk_53 _) rfl ?_
  refine Bod.ic 1 (by decide) dc_191_19 ?_
  refine Bod.virt (r := []) dc_191_20 kr_191_70 ⟨Or.inr rfl, ow_132, cl_9⟩ (by rw [np_132]; rfl) (by rw [np_132]; rfl) (ob_of (mk_46 _)) (Nat.le_of_ble_eq_true rfl) (c3  ) ?_
  show Bod _ _ _ _ [_] _ _ _
  refine Bod.stat (r := []) dc_191_23 kr_191_74 (Or.inr rfl) (by rw [np_134]; rfl) (by rw [np_134]; rfl) (by rw [np_134]; exact Nat.le_of_ble_eq_true rfl) (Nat.le_of_ble_eq_true rfl) (c4  ) ?_
  show Bod _ _ _ _ [_] _ _ _
  refine Bod.go dc_191_26 rfl ?_
  refine Bod.icT dc_191_27 rfl (c2_ne_T w7) ?_
  refine Bod.ic 0 (by decide) dc_191_34 ?_
  exact Bod.retZ dc_191_35 rt_191 (Or.inl rfl)
theorem mAb_3 {d : Nat} {S : cS} {kd : Nat} {S1 : cS} {u : Int64} {S2 : cS} {rb : Int32} (mkd : kd < 2 ^ 20) (c1 : Ans (d + 8) 132 [.ref 46, .int (nI 0)] S (some (.long u)) S1) (c2 : Ans (d + 8) 134 [.long u] S1 (some (.int rb)) S2) (w4 : rb ≠ nI kd) : Bod (d + 8) 191 0 [(0, .ref 53), (1, .int (nI kd))] [] S (some (.int 0)) (S2) := by
  refine Bod.go dc_191_0 rfl ?_
  refine Bod.get dc_191_1 fr_191_15 (mk_53 _) rfl ?_
  refine Bod.ic 0 (by decide) dc_191_4 ?_
  refine Bod.virt (r := []) dc_191_5 kr_191_70 ⟨Or.inr rfl, ow_132, cl_9⟩ (by rw [np_132]; rfl) (by rw [np_132]; rfl) (ob_of (mk_46 _)) (Nat.le_of_ble_eq_true rfl) (c1  ) ?_
  show Bod _ _ _ _ [_] _ _ _
  refine Bod.stat (r := []) dc_191_8 kr_191_74 (Or.inr rfl) (by rw [np_134]; rfl) (by rw [np_134]; rfl) (by rw [np_134]; exact Nat.le_of_ble_eq_true rfl) (Nat.le_of_ble_eq_true rfl) (c2  ) ?_
  show Bod _ _ _ _ [_] _ _ _
  refine Bod.go dc_191_11 rfl ?_
  refine Bod.icT dc_191_12 rfl (c2_ne_T w4) ?_
  refine Bod.ic 0 (by decide) dc_191_34 ?_
  exact Bod.retZ dc_191_35 rt_191 (Or.inl rfl)
theorem mAd_1 {d : Nat} {S : cS} {S1 : cS} {S2 : cS} {u : Int64} {S3 : cS} {u1 : Int64} {S4 : cS} {rb : Int32} (c1 : Ans (d + 8) 191 [.ref 53, .int (nI 2)] S (some (.int (nI 1))) S1) (c2 : Ans (d + 8) 135 [.ref 46, .int (nI 1)] S1 (some (.long u)) S2) (c3 : Ans (d + 8) 135 [.ref 46, .int (nI 0)] S2 (some (.long u1)) S3) (w4 : sm_c1 .ge (lg_cmp ((u ^^^ (u + u1)) &&& (u1 ^^^ (u + u1))) 0) true false = true) (c4 : Ans (d + 8) 148 [.ref 46, .int (nI 2), .long ((2305843009213693952)), .long (u + u1)] S3 (some (.int rb)) S4) : Bod (d + 8) 196 0 [(0, .ref 53)] [] S (some (.int rb)) (S4) := by
  refine Bod.go dc_196_0 rfl ?_
  refine Bod.ic 2 (by decide) dc_196_1 ?_
  refine Bod.virt (r := []) dc_196_2 kr_196_39 ⟨Or.inl rfl, ow_191, cl_6⟩ (by rw [np_191]; rfl) (by rw [np_191]; rfl) (ob_of (mk_53 _)) (Nat.le_of_ble_eq_true rfl) (c1  ) ?_
  show Bod _ _ _ _ [_] _ _ _
  refine Bod.ifT dc_196_5 rfl (k1_ne_T (k_ne 1 0 rfl rfl (by omega) (by omega) (by omega))) ?_
  refine Bod.go dc_196_10 rfl ?_
  refine Bod.get dc_196_11 fr_196_15 (mk_53 _) rfl ?_
  refine Bod.ic 1 (by decide) dc_196_14 ?_
  refine Bod.virt (r := []) dc_196_15 kr_196_111 ⟨Or.inr rfl, ow_135, cl_9⟩ (by rw [np_135]; rfl) (by rw [np_135]; rfl) (ob_of (mk_46 _)) (Nat.le_of_ble_eq_true rfl) (c2  ) ?_
  show Bod _ _ _ _ [_] _ _ _
  refine Bod.lstn dc_196_18 (by rw [ml_196]; exact Nat.le_of_ble_eq_true rfl) ?_
  refine Bod.go dc_196_19 rfl ?_
  refine Bod.get dc_196_20 fr_196_15 (mk_53 _) rfl ?_
  refine Bod.ic 0 (by decide) dc_196_23 ?_
  refine Bod.virt (r := []) dc_196_24 kr_196_111 ⟨Or.inr rfl, ow_135, cl_9⟩ (by rw [np_135]; rfl) (by rw [np_135]; rfl) (ob_of (mk_46 _)) (Nat.le_of_ble_eq_true rfl) (c3  ) ?_
  show Bod _ _ _ _ [_] _ _ _
  refine Bod.lstn dc_196_27 (by rw [ml_196]; exact Nat.le_of_ble_eq_true rfl) ?_
  refine Bod.go dc_196_28 rfl ?_
  refine Bod.go dc_196_29 rfl ?_
  refine Bod.go dc_196_30 rfl ?_
  refine Bod.lst dc_196_31 (by rw [ml_196]; exact Nat.le_of_ble_eq_true rfl) ?_
  refine Bod.go dc_196_33 rfl ?_
  refine Bod.go dc_196_34 rfl ?_
  refine Bod.go dc_196_36 rfl ?_
  refine Bod.go dc_196_37 rfl ?_
  refine Bod.go dc_196_38 rfl ?_
  refine Bod.go dc_196_40 rfl ?_
  refine Bod.go dc_196_41 rfl ?_
  refine Bod.go dc_196_42 rfl ?_
  refine Bod.go dc_196_43 rfl ?_
  refine Bod.ifT dc_196_44 rfl w4 ?_
  refine Bod.ic 0 (by decide) dc_196_51 ?_
  refine Bod.ist dc_196_52 (by rw [ml_196]; exact Nat.le_of_ble_eq_true rfl) ?_
  refine Bod.go dc_196_54 rfl ?_
  refine Bod.ifT dc_196_56 rfl (k1_eq_T (k_eq 0 0 rfl rfl (by omega))) ?_
  refine Bod.go dc_196_64 rfl ?_
  refine Bod.get dc_196_65 fr_196_15 (mk_53 _) rfl ?_
  refine Bod.ic 2 (by decide) dc_196_68 ?_
  refine Bod.ldc2 dc_196_69 cj_196_23 ?_
  refine Bod.go dc_196_72 rfl ?_
  refine Bod.virt (r := []) dc_196_74 kr_196_31 ⟨Or.inr rfl, ow_148, cl_9⟩ (by rw [np_148]; rfl) (by rw [np_148]; rfl) (ob_of (mk_46 _)) (Nat.le_of_ble_eq_true rfl) (c4  ) ?_
  show Bod _ _ _ _ [_] _ _ _
  exact Bod.retI dc_196_77 rt_196
theorem mAd_2 {d : Nat} {S : cS} {S1 : cS} {S2 : cS} {u : Int64} {S3 : cS} {u1 : Int64} (c1 : Ans (d + 8) 191 [.ref 53, .int (nI 2)] S (some (.int (nI 1))) S1) (c2 : Ans (d + 8) 135 [.ref 46, .int (nI 1)] S1 (some (.long u)) S2) (c3 : Ans (d + 8) 135 [.ref 46, .int (nI 0)] S2 (some (.long u1)) S3) (w4 : sm_c1 .ge (lg_cmp ((u ^^^ (u + u1)) &&& (u1 ^^^ (u + u1))) 0) true false = false) : Bod (d + 8) 196 0 [(0, .ref 53)] [] S (some (.int (nI 6))) (S3) := by
  refine Bod.go dc_196_0 rfl ?_
  refine Bod.ic 2 (by decide) dc_196_1 ?_
  refine Bod.virt (r := []) dc_196_2 kr_196_39 ⟨Or.inl rfl, ow_191, cl_6⟩ (by rw [np_191]; rfl) (by rw [np_191]; rfl) (ob_of (mk_53 _)) (Nat.le_of_ble_eq_true rfl) (c1  ) ?_
  show Bod _ _ _ _ [_] _ _ _
  refine Bod.ifT dc_196_5 rfl (k1_ne_T (k_ne 1 0 rfl rfl (by omega) (by omega) (by omega))) ?_
  refine Bod.go dc_196_10 rfl ?_
  refine Bod.get dc_196_11 fr_196_15 (mk_53 _) rfl ?_
  refine Bod.ic 1 (by decide) dc_196_14 ?_
  refine Bod.virt (r := []) dc_196_15 kr_196_111 ⟨Or.inr rfl, ow_135, cl_9⟩ (by rw [np_135]; rfl) (by rw [np_135]; rfl) (ob_of (mk_46 _)) (Nat.le_of_ble_eq_true rfl) (c2  ) ?_
  show Bod _ _ _ _ [_] _ _ _
  refine Bod.lstn dc_196_18 (by rw [ml_196]; exact Nat.le_of_ble_eq_true rfl) ?_
  refine Bod.go dc_196_19 rfl ?_
  refine Bod.get dc_196_20 fr_196_15 (mk_53 _) rfl ?_
  refine Bod.ic 0 (by decide) dc_196_23 ?_
  refine Bod.virt (r := []) dc_196_24 kr_196_111 ⟨Or.inr rfl, ow_135, cl_9⟩ (by rw [np_135]; rfl) (by rw [np_135]; rfl) (ob_of (mk_46 _)) (Nat.le_of_ble_eq_true rfl) (c3  ) ?_
  show Bod _ _ _ _ [_] _ _ _
  refine Bod.lstn dc_196_27 (by rw [ml_196]; exact Nat.le_of_ble_eq_true rfl) ?_
  refine Bod.go dc_196_28 rfl ?_
  refine Bod.go dc_196_29 rfl ?_
  refine Bod.go dc_196_30 rfl ?_
  refine Bod.lst dc_196_31 (by rw [ml_196]; exact Nat.le_of_ble_eq_true rfl) ?_
  refine Bod.go dc_196_33 rfl ?_
  refine Bod.go dc_196_34 rfl ?_
  refine Bod.go dc_196_36 rfl ?_
  refine Bod.go dc_196_37 rfl ?_
  refine Bod.go dc_196_38 rfl ?_
  refine Bod.go dc_196_40 rfl ?_
  refine Bod.go dc_196_41 rfl ?_
  refine Bod.go dc_196_42 rfl ?_
  refine Bod.go dc_196_43 rfl ?_
  refine Bod.ifF dc_196_44 rfl w4 ?_
  refine Bod.ic 1 (by decide) dc_196_47 ?_
  refine Bod.go dc_196_48 rfl ?_
  refine Bod.ist dc_196_52 (by rw [ml_196]; exact Nat.le_of_ble_eq_true rfl) ?_
  refine Bod.go dc_196_54 rfl ?_
  refine Bod.ifF dc_196_56 rfl (k1_eq_F (k_ne 1 0 rfl rfl (by omega) (by omega) (by omega))) ?_
  refine Bod.bip 6 (by decide) dc_196_59 ?_
  refine Bod.go dc_196_61 rfl ?_
  exact Bod.retI dc_196_77 rt_196
theorem mAd_3 {d : Nat} {S : cS} {S1 : cS} (c1 : Ans (d + 8) 191 [.ref 53, .int (nI 2)] S (some (.int (nI 0))) S1) : Bod (d + 8) 196 0 [(0, .ref 53)] [] S (some (.int (nI 2))) (S1) := by
  refine Bod.go dc_196_0 rfl ?_
  refine Bod.ic 2 (by decide) dc_196_1 ?_
  refine Bod.virt (r := []) dc_196_2 kr_196_39 ⟨Or.inl rfl, ow_191, cl_6⟩ (by rw [np_191]; rfl) (by rw [np_191]; rfl) (ob_of (mk_53 _)) (Nat.le_of_ble_eq_true rfl) (c1  ) ?_
  show Bod _ _ _ _ [_] _ _ _
  refine Bod.ifF dc_196_5 rfl (k1_ne_F (k_eq 0 0 rfl rfl (by omega))) ?_
  refine Bod.ic 2 (by decide) dc_196_8 ?_
  exact Bod.retI dc_196_9 rt_196
theorem mSb_1 {d : Nat} {S : cS} {S1 : cS} {S2 : cS} {u : Int64} {S3 : cS} {u1 : Int64} {S4 : cS} {rb : Int32} (c1 : Ans (d + 8) 191 [.ref 53, .int (nI 2)] S (some (.int (nI 1))) S1) (c2 : Ans (d + 8) 135 [.ref 46, .int (nI 1)] S1 (some (.long u)) S2) (c3 : Ans (d + 8) 135 [.ref 46, .int (nI 0)] S2 (some (.long u1)) S3) (w4 : sm_c1 .ge (lg_cmp ((u ^^^ u1) &&& (u ^^^ (u - u1))) 0) true false = true) (c4 : Ans (d + 8) 148 [.ref 46, .int (nI 2), .long ((2305843009213693952)), .long (u - u1)] S3 (some (.int rb)) S4) : Bod (d + 8) 197 0 [(0, .ref 53)] [] S (some (.int rb)) (S4) := by
  refine Bod.go dc_197_0 rfl ?_
  refine Bod.ic 2 (by decide) dc_197_1 ?_
  refine Bod.virt (r := []) dc_197_2 kr_197_39 ⟨Or.inl rfl, ow_191, cl_6⟩ (by rw [np_191]; rfl) (by rw [np_191]; rfl) (ob_of (mk_53 _)) (Nat.le_of_ble_eq_true rfl) (c1  ) ?_
  show Bod _ _ _ _ [_] _ _ _
  refine Bod.ifT dc_197_5 rfl (k1_ne_T (k_ne 1 0 rfl rfl (by omega) (by omega) (by omega))) ?_
  refine Bod.go dc_197_10 rfl ?_
  refine Bod.get dc_197_11 fr_197_15 (mk_53 _) rfl ?_
  refine Bod.ic 1 (by decide) dc_197_14 ?_
  refine Bod.virt (r := []) dc_197_15 kr_197_111 ⟨Or.inr rfl, ow_135, cl_9⟩ (by rw [np_135]; rfl) (by rw [np_135]; rfl) (ob_of (mk_46 _)) (Nat.le_of_ble_eq_true rfl) (c2  ) ?_
  show Bod _ _ _ _ [_] _ _ _
  refine Bod.lstn dc_197_18 (by rw [ml_197]; exact Nat.le_of_ble_eq_true rfl) ?_
  refine Bod.go dc_197_19 rfl ?_
  refine Bod.get dc_197_20 fr_197_15 (mk_53 _) rfl ?_
  refine Bod.ic 0 (by decide) dc_197_23 ?_
  refine Bod.virt (r := []) dc_197_24 kr_197_111 ⟨Or.inr rfl, ow_135, cl_9⟩ (by rw [np_135]; rfl) (by rw [np_135]; rfl) (ob_of (mk_46 _)) (Nat.le_of_ble_eq_true rfl) (c3  ) ?_
  show Bod _ _ _ _ [_] _ _ _
  refine Bod.lstn dc_197_27 (by rw [ml_197]; exact Nat.le_of_ble_eq_true rfl) ?_
  refine Bod.go dc_197_28 rfl ?_
  refine Bod.go dc_197_29 rfl ?_
  refine Bod.go dc_197_30 rfl ?_
  refine Bod.lst dc_197_31 (by rw [ml_197]; exact Nat.le_of_ble_eq_true rfl) ?_
  refine Bod.go dc_197_33 rfl ?_
  refine Bod.go dc_197_34 rfl ?_
  refine Bod.go dc_197_35 rfl ?_
  refine Bod.go dc_197_36 rfl ?_
  refine Bod.go dc_197_37 rfl ?_
  refine Bod.go dc_197_39 rfl ?_
  refine Bod.go dc_197_40 rfl ?_
  refine Bod.go dc_197_41 rfl ?_
  refine Bod.go dc_197_42 rfl ?_
  refine Bod.ifT dc_197_43 rfl w4 ?_
  refine Bod.ic 0 (by decide) dc_197_50 ?_
  refine Bod.ist dc_197_51 (by rw [ml_197]; exact Nat.le_of_ble_eq_true rfl) ?_
  refine Bod.go dc_197_53 rfl ?_
  refine Bod.ifT dc_197_55 rfl (k1_eq_T (k_eq 0 0 rfl rfl (by omega))) ?_
  refine Bod.go dc_197_63 rfl ?_
  refine Bod.get dc_197_64 fr_197_15 (mk_53 _) rfl ?_
  refine Bod.ic 2 (by decide) dc_197_67 ?_
  refine Bod.ldc2 dc_197_68 cj_197_23 ?_
  refine Bod.go dc_197_71 rfl ?_
  refine Bod.virt (r := []) dc_197_73 kr_197_31 ⟨Or.inr rfl, ow_148, cl_9⟩ (by rw [np_148]; rfl) (by rw [np_148]; rfl) (ob_of (mk_46 _)) (Nat.le_of_ble_eq_true rfl) (c4  ) ?_
  show Bod _ _ _ _ [_] _ _ _
  exact Bod.retI dc_197_76 rt_197
theorem mSb_2 {d : Nat} {S : cS} {S1 : cS} {S2 : cS} {u : Int64} {S3 : cS} {u1 : Int64} (c1 : Ans (d + 8) 191 [.ref 53, .int (nI 2)] S (some (.int (nI 1))) S1) (c2 : Ans (d + 8) 135 [.ref 46, .int (nI 1)] S1 (some (.long u)) S2) (c3 : Ans (d + 8) 135 [.ref 46, .int (nI 0)] S2 (some (.long u1)) S3) (w4 : sm_c1 .ge (lg_cmp ((u ^^^ u1) &&& (u ^^^ (u - u1))) 0) true false = false) : Bod (d + 8) 197 0 [(0, .ref 53)] [] S (some (.int (nI 6))) (S3) := by
  refine Bod.go dc_197_0 rfl ?_
  refine Bod.ic 2 (by decide) dc_197_1 ?_
  refine Bod.virt (r := []) dc_197_2 kr_197_39 ⟨Or.inl rfl, ow_191, cl_6⟩ (by rw [np_191]; rfl) (by rw [np_191]; rfl) (ob_of (mk_53 _)) (Nat.le_of_ble_eq_true rfl) (c1  ) ?_
  show Bod _ _ _ _ [_] _ _ _
  refine Bod.ifT dc_197_5 rfl (k1_ne_T (k_ne 1 0 rfl rfl (by omega) (by omega) (by omega))) ?_
  refine Bod.go dc_197_10 rfl ?_
  refine Bod.get dc_197_11 fr_197_15 (mk_53 _) rfl ?_
  refine Bod.ic 1 (by decide) dc_197_14 ?_
  refine Bod.virt (r := []) dc_197_15 kr_197_111 ⟨Or.inr rfl, ow_135, cl_9⟩ (by rw [np_135]; rfl) (by rw [np_135]; rfl) (ob_of (mk_46 _)) (Nat.le_of_ble_eq_true rfl) (c2  ) ?_
  show Bod _ _ _ _ [_] _ _ _
  refine Bod.lstn dc_197_18 (by rw [ml_197]; exact Nat.le_of_ble_eq_true rfl) ?_
  refine Bod.go dc_197_19 rfl ?_
  refine Bod.get dc_197_20 fr_197_15 (mk_53 _) rfl ?_
  refine Bod.ic 0 (by decide) dc_197_23 ?_
  refine Bod.virt (r := []) dc_197_24 kr_197_111 ⟨Or.inr rfl, ow_135, cl_9⟩ (by rw [np_135]; rfl) (by rw [np_135]; rfl) (ob_of (mk_46 _)) (Nat.le_of_ble_eq_true rfl) (c3  ) ?_
  show Bod _ _ _ _ [_] _ _ _
  refine Bod.lstn dc_197_27 (by rw [ml_197]; exact Nat.le_of_ble_eq_true rfl) ?_
  refine Bod.go dc_197_28 rfl ?_
  refine Bod.go dc_197_29 rfl ?_
  refine Bod.go dc_197_30 rfl ?_
  refine Bod.lst dc_197_31 (by rw [ml_197]; exact Nat.le_of_ble_eq_true rfl) ?_
  refine Bod.go dc_197_33 rfl ?_
  refine Bod.go dc_197_34 rfl ?_
  refine Bod.go dc_197_35 rfl ?_
  refine Bod.go dc_197_36 rfl ?_
  refine Bod.go dc_197_37 rfl ?_
  refine Bod.go dc_197_39 rfl ?_
  refine Bod.go dc_197_40 rfl ?_
  refine Bod.go dc_197_41 rfl ?_
  refine Bod.go dc_197_42 rfl ?_
  refine Bod.ifF dc_197_43 rfl w4 ?_
  refine Bod.ic 1 (by decide) dc_197_46 ?_
  refine Bod.go dc_197_47 rfl ?_
  refine Bod.ist dc_197_51 (by rw [ml_197]; exact Nat.le_of_ble_eq_true rfl) ?_
  refine Bod.go dc_197_53 rfl ?_
  refine Bod.ifF dc_197_55 rfl (k1_eq_F (k_ne 1 0 rfl rfl (by omega) (by omega) (by omega))) ?_
  refine Bod.bip 6 (by decide) dc_197_58 ?_
  refine Bod.go dc_197_60 rfl ?_
  exact Bod.retI dc_197_76 rt_197
theorem mSb_3 {d : Nat} {S : cS} {S1 : cS} (c1 : Ans (d + 8) 191 [.ref 53, .int (nI 2)] S (some (.int (nI 0))) S1) : Bod (d + 8) 197 0 [(0, .ref 53)] [] S (some (.int (nI 2))) (S1) := by
  refine Bod.go dc_197_0 rfl ?_
  refine Bod.ic 2 (by decide) dc_197_1 ?_
  refine Bod.virt (r := []) dc_197_2 kr_197_39 ⟨Or.inl rfl, ow_191, cl_6⟩ (by rw [np_191]; rfl) (by rw [np_191]; rfl) (ob_of (mk_53 _)) (Nat.le_of_ble_eq_true rfl) (c1  ) ?_
  show Bod _ _ _ _ [_] _ _ _
  refine Bod.ifF dc_197_5 rfl (k1_ne_F (k_eq 0 0 rfl rfl (by omega))) ?_
  refine Bod.ic 2 (by decide) dc_197_8 ?_
  exact Bod.retI dc_197_9 rt_197
theorem mMu_1 {d : Nat} {S : cS} {S1 : cS} {S2 : cS} {u : Int64} {S3 : cS} {u1 : Int64} {S4 : cS} {rb : Int32} (c1 : Ans (d + 8) 191 [.ref 53, .int (nI 2)] S (some (.int (nI 1))) S1) (c2 : Ans (d + 8) 135 [.ref 46, .int (nI 1)] S1 (some (.long u)) S2) (c3 : Ans (d + 8) 135 [.ref 46, .int (nI 0)] S2 (some (.long u1)) S3) (w4 : sm_c1 .ne (lg_cmp u ((-1))) true false = true) (w5 : sm_c1 .eq (lg_cmp u 0) true false = true) (c4 : Ans (d + 8) 148 [.ref 46, .int (nI 2), .long ((2305843009213693952)), .long (u * u1)] S3 (some (.int rb)) S4) : Bod (d + 8) 198 0 [(0, .ref 53)] [] S (some (.int rb)) (S4) := by
  refine Bod.go dc_198_0 rfl ?_
  refine Bod.ic 2 (by decide) dc_198_1 ?_
  refine Bod.virt (r := []) dc_198_2 kr_198_39 ⟨Or.inl rfl, ow_191, cl_6⟩ (by rw [np_191]; rfl) (by rw [np_191]; rfl) (ob_of (mk_53 _)) (Nat.le_of_ble_eq_true rfl) (c1  ) ?_
  show Bod _ _ _ _ [_] _ _ _
  refine Bod.ifT dc_198_5 rfl (k1_ne_T (k_ne 1 0 rfl rfl (by omega) (by omega) (by omega))) ?_
  refine Bod.go dc_198_10 rfl ?_
  refine Bod.get dc_198_11 fr_198_15 (mk_53 _) rfl ?_
  refine Bod.ic 1 (by decide) dc_198_14 ?_
  refine Bod.virt (r := []) dc_198_15 kr_198_111 ⟨Or.inr rfl, ow_135, cl_9⟩ (by rw [np_135]; rfl) (by rw [np_135]; rfl) (ob_of (mk_46 _)) (Nat.le_of_ble_eq_true rfl) (c2  ) ?_
  show Bod _ _ _ _ [_] _ _ _
  refine Bod.lstn dc_198_18 (by rw [ml_198]; exact Nat.le_of_ble_eq_true rfl) ?_
  refine Bod.go dc_198_19 rfl ?_
  refine Bod.get dc_198_20 fr_198_15 (mk_53 _) rfl ?_
  refine Bod.ic 0 (by decide) dc_198_23 ?_
  refine Bod.virt (r := []) dc_198_24 kr_198_111 ⟨Or.inr rfl, ow_135, cl_9⟩ (by rw [np_135]; rfl) (by rw [np_135]; rfl) (ob_of (mk_46 _)) (Nat.le_of_ble_eq_true rfl) (c3  ) ?_
  show Bod _ _ _ _ [_] _ _ _
  refine Bod.lstn dc_198_27 (by rw [ml_198]; exact Nat.le_of_ble_eq_true rfl) ?_
  refine Bod.go dc_198_28 rfl ?_
  refine Bod.go dc_198_29 rfl ?_
  refine Bod.go dc_198_30 rfl ?_
  refine Bod.lst dc_198_31 (by rw [ml_198]; exact Nat.le_of_ble_eq_true rfl) ?_
  refine Bod.go dc_198_33 rfl ?_
  refine Bod.ldc2 dc_198_34 cj_198_148 ?_
  refine Bod.go dc_198_37 rfl ?_
  refine Bod.ifT dc_198_38 rfl w4 ?_
  refine Bod.go dc_198_57 rfl ?_
  refine Bod.go dc_198_58 rfl ?_
  refine Bod.go dc_198_59 rfl ?_
  refine Bod.ifT dc_198_60 rfl w5 ?_
  refine Bod.ic 0 (by decide) dc_198_76 ?_
  refine Bod.ist dc_198_77 (by rw [ml_198]; exact Nat.le_of_ble_eq_true rfl) ?_
  refine Bod.go dc_198_79 rfl ?_
  refine Bod.ifT dc_198_81 rfl (k1_eq_T (k_eq 0 0 rfl rfl (by omega))) ?_
  refine Bod.go dc_198_89 rfl ?_
  refine Bod.get dc_198_90 fr_198_15 (mk_53 _) rfl ?_
  refine Bod.ic 2 (by decide) dc_198_93 ?_
  refine Bod.ldc2 dc_198_94 cj_198_23 ?_
  refine Bod.go dc_198_97 rfl ?_
  refine Bod.virt (r := []) dc_198_99 kr_198_31 ⟨Or.inr rfl, ow_148, cl_9⟩ (by rw [np_148]; rfl) (by rw [np_148]; rfl) (ob_of (mk_46 _)) (Nat.le_of_ble_eq_true rfl) (c4  ) ?_
  show Bod _ _ _ _ [_] _ _ _
  exact Bod.retI dc_198_102 rt_198
theorem mMu_2 {d : Nat} {S : cS} {S1 : cS} {S2 : cS} {u : Int64} {S3 : cS} {u1 : Int64} {S4 : cS} {rb : Int32} (c1 : Ans (d + 8) 191 [.ref 53, .int (nI 2)] S (some (.int (nI 1))) S1) (c2 : Ans (d + 8) 135 [.ref 46, .int (nI 1)] S1 (some (.long u)) S2) (c3 : Ans (d + 8) 135 [.ref 46, .int (nI 0)] S2 (some (.long u1)) S3) (w4 : sm_c1 .ne (lg_cmp u ((-1))) true false = true) (w5 : sm_c1 .eq (lg_cmp u 0) true false = false) (w6 : sm_c1 .eq (lg_cmp ((u * u1) / u) u1) true false = true) (c4 : Ans (d + 8) 148 [.ref 46, .int (nI 2), .long ((2305843009213693952)), .long (u * u1)] S3 (some (.int rb)) S4) : Bod (d + 8) 198 0 [(0, .ref 53)] [] S (some (.int rb)) (S4) := by
  refine Bod.go dc_198_0 rfl ?_
  refine Bod.ic 2 (by decide) dc_198_1 ?_
  refine Bod.virt (r := []) dc_198_2 kr_198_39 ⟨Or.inl rfl, ow_191, cl_6⟩ (by rw [np_191]; rfl) (by rw [np_191]; rfl) (ob_of (mk_53 _)) (Nat.le_of_ble_eq_true rfl) (c1  ) ?_
  show Bod _ _ _ _ [_] _ _ _
  refine Bod.ifT dc_198_5 rfl (k1_ne_T (k_ne 1 0 rfl rfl (by omega) (by omega) (by omega))) ?_
  refine Bod.go dc_198_10 rfl ?_
  refine Bod.get dc_198_11 fr_198_15 (mk_53 _) rfl ?_
  refine Bod.ic 1 (by decide) dc_198_14 ?_
  refine Bod.virt (r := []) dc_198_15 kr_198_111 ⟨Or.inr rfl, ow_135, cl_9⟩ (by rw [np_135]; rfl) (by rw [np_135]; rfl) (ob_of (mk_46 _)) (Nat.le_of_ble_eq_true rfl) (c2  ) ?_
  show Bod _ _ _ _ [_] _ _ _
  refine Bod.lstn dc_198_18 (by rw [ml_198]; exact Nat.le_of_ble_eq_true rfl) ?_
  refine Bod.go dc_198_19 rfl ?_
  refine Bod.get dc_198_20 fr_198_15 (mk_53 _) rfl ?_
  refine Bod.ic 0 (by decide) dc_198_23 ?_
  refine Bod.virt (r := []) dc_198_24 kr_198_111 ⟨Or.inr rfl, ow_135, cl_9⟩ (by rw [np_135]; rfl) (by rw [np_135]; rfl) (ob_of (mk_46 _)) (Nat.le_of_ble_eq_true rfl) (c3  ) ?_
  show Bod _ _ _ _ [_] _ _ _
  refine Bod.lstn dc_198_27 (by rw [ml_198]; exact Nat.le_of_ble_eq_true rfl) ?_
  refine Bod.go dc_198_28 rfl ?_
  refine Bod.go dc_198_29 rfl ?_
  refine Bod.go dc_198_30 rfl ?_
  refine Bod.lst dc_198_31 (by rw [ml_198]; exact Nat.le_of_ble_eq_true rfl) ?_
  refine Bod.go dc_198_33 rfl ?_
  refine Bod.ldc2 dc_198_34 cj_198_148 ?_
  refine Bod.go dc_198_37 rfl ?_
  refine Bod.ifT dc_198_38 rfl w4 ?_
  refine Bod.go dc_198_57 rfl ?_
  refine Bod.go dc_198_58 rfl ?_
  refine Bod.go dc_198_59 rfl ?_
  refine Bod.ifF dc_198_60 rfl w5 ?_
  refine Bod.go dc_198_63 rfl ?_
  refine Bod.go dc_198_65 rfl ?_
  refine Bod.ldivX (by first | assumption | exact ne0_c (by assumption)) dc_198_66 ?_
  refine Bod.go dc_198_67 rfl ?_
  refine Bod.go dc_198_68 rfl ?_
  refine Bod.ifT dc_198_69 rfl w6 ?_
  refine Bod.ic 0 (by decide) dc_198_76 ?_
  refine Bod.ist dc_198_77 (by rw [ml_198]; exact Nat.le_of_ble_eq_true rfl) ?_
  refine Bod.go dc_198_79 rfl ?_
  refine Bod.ifT dc_198_81 rfl (k1_eq_T (k_eq 0 0 rfl rfl (by omega))) ?_
  refine Bod.go dc_198_89 rfl ?_
  refine Bod.get dc_198_90 fr_198_15 (mk_53 _) rfl ?_
  refine Bod.ic 2 (by decide) dc_198_93 ?_
  refine Bod.ldc2 dc_198_94 cj_198_23 ?_
  refine Bod.go dc_198_97 rfl ?_
  refine Bod.virt (r := []) dc_198_99 kr_198_31 ⟨Or.inr rfl, ow_148, cl_9⟩ (by rw [np_148]; rfl) (by rw [np_148]; rfl) (ob_of (mk_46 _)) (Nat.le_of_ble_eq_true rfl) (c4  ) ?_
  show Bod _ _ _ _ [_] _ _ _
  exact Bod.retI dc_198_102 rt_198
theorem mMu_3 {d : Nat} {S : cS} {S1 : cS} {S2 : cS} {u : Int64} {S3 : cS} {u1 : Int64} (c1 : Ans (d + 8) 191 [.ref 53, .int (nI 2)] S (some (.int (nI 1))) S1) (c2 : Ans (d + 8) 135 [.ref 46, .int (nI 1)] S1 (some (.long u)) S2) (c3 : Ans (d + 8) 135 [.ref 46, .int (nI 0)] S2 (some (.long u1)) S3) (w4 : sm_c1 .ne (lg_cmp u ((-1))) true false = true) (w5 : sm_c1 .eq (lg_cmp u 0) true false = false) (w6 : sm_c1 .eq (lg_cmp ((u * u1) / u) u1) true false = false) : Bod (d + 8) 198 0 [(0, .ref 53)] [] S (some (.int (nI 6))) (S3) := by
  refine Bod.go dc_198_0 rfl ?_
  refine Bod.ic 2 (by decide) dc_198_1 ?_
  refine Bod.virt (r := []) dc_198_2 kr_198_39 ⟨Or.inl rfl, ow_191, cl_6⟩ (by rw [np_191]; rfl) (by rw [np_191]; rfl) (ob_of (mk_53 _)) (Nat.le_of_ble_eq_true rfl) (c1  ) ?_
  show Bod _ _ _ _ [_] _ _ _
  refine Bod.ifT dc_198_5 rfl (k1_ne_T (k_ne 1 0 rfl rfl (by omega) (by omega) (by omega))) ?_
  refine Bod.go dc_198_10 rfl ?_
  refine Bod.get dc_198_11 fr_198_15 (mk_53 _) rfl ?_
  refine Bod.ic 1 (by decide) dc_198_14 ?_
  refine Bod.virt (r := []) dc_198_15 kr_198_111 ⟨Or.inr rfl, ow_135, cl_9⟩ (by rw [np_135]; rfl) (by rw [np_135]; rfl) (ob_of (mk_46 _)) (Nat.le_of_ble_eq_true rfl) (c2  ) ?_
  show Bod _ _ _ _ [_] _ _ _
  refine Bod.lstn dc_198_18 (by rw [ml_198]; exact Nat.le_of_ble_eq_true rfl) ?_
  refine Bod.go dc_198_19 rfl ?_
  refine Bod.get dc_198_20 fr_198_15 (mk_53 _) rfl ?_
  refine Bod.ic 0 (by decide) dc_198_23 ?_
  refine Bod.virt (r := []) dc_198_24 kr_198_111 ⟨Or.inr rfl, ow_135, cl_9⟩ (by rw [np_135]; rfl) (by rw [np_135]; rfl) (ob_of (mk_46 _)) (Nat.le_of_ble_eq_true rfl) (c3  ) ?_
  show Bod _ _ _ _ [_] _ _ _
  refine Bod.lstn dc_198_27 (by rw [ml_198]; exact Nat.le_of_ble_eq_true rfl) ?_
  refine Bod.go dc_198_28 rfl ?_
  refine Bod.go dc_198_29 rfl ?_
  refine Bod.go dc_198_30 rfl ?_
  refine Bod.lst dc_198_31 (by rw [ml_198]; exact Nat.le_of_ble_eq_true rfl) ?_
  refine Bod.go dc_198_33 rfl ?_
  refine Bod.ldc2 dc_198_34 cj_198_148 ?_
  refine Bod.go dc_198_37 rfl ?_
  refine Bod.ifT dc_198_38 rfl w4 ?_
  refine Bod.go dc_198_57 rfl ?_
  refine Bod.go dc_198_58 rfl ?_
  refine Bod.go dc_198_59 rfl ?_
  refine Bod.ifF dc_198_60 rfl w5 ?_
  refine Bod.go dc_198_63 rfl ?_
  refine Bod.go dc_198_65 rfl ?_
  refine Bod.ldivX (by first | assumption | exact ne0_c (by assumption)) dc_198_66 ?_
  refine Bod.go dc_198_67 rfl ?_
  refine Bod.go dc_198_68 rfl ?_
  refine Bod.ifF dc_198_69 rfl w6 ?_
  refine Bod.ic 1 (by decide) dc_198_72 ?_
  refine Bod.go dc_198_73 rfl ?_
  refine Bod.ist dc_198_77 (by rw [ml_198]; exact Nat.le_of_ble_eq_true rfl) ?_
  refine Bod.go dc_198_79 rfl ?_
  refine Bod.ifF dc_198_81 rfl (k1_eq_F (k_ne 1 0 rfl rfl (by omega) (by omega) (by omega))) ?_
  refine Bod.bip 6 (by decide) dc_198_84 ?_
  refine Bod.go dc_198_86 rfl ?_
  exact Bod.retI dc_198_102 rt_198
theorem mMu_4 {d : Nat} {S : cS} {S1 : cS} {S2 : cS} {u : Int64} {S3 : cS} {u1 : Int64} {S4 : cS} {rb : Int32} (c1 : Ans (d + 8) 191 [.ref 53, .int (nI 2)] S (some (.int (nI 1))) S1) (c2 : Ans (d + 8) 135 [.ref 46, .int (nI 1)] S1 (some (.long u)) S2) (c3 : Ans (d + 8) 135 [.ref 46, .int (nI 0)] S2 (some (.long u1)) S3) (w4 : sm_c1 .ne (lg_cmp u ((-1))) true false = false) (w5 : sm_c1 .ne (lg_cmp u1 ((-9223372036854775808))) true false = true) (c4 : Ans (d + 8) 148 [.ref 46, .int (nI 2), .long ((2305843009213693952)), .long (u * u1)] S3 (some (.int rb)) S4) : Bod (d + 8) 198 0 [(0, .ref 53)] [] S (some (.int rb)) (S4) := by
  refine Bod.go dc_198_0 rfl ?_
  refine Bod.ic 2 (by decide) dc_198_1 ?_
  refine Bod.virt (r := []) dc_198_2 kr_198_39 ⟨Or.inl rfl, ow_191, cl_6⟩ (by rw [np_191]; rfl) (by rw [np_191]; rfl) (ob_of (mk_53 _)) (Nat.le_of_ble_eq_true rfl) (c1  ) ?_
  show Bod _ _ _ _ [_] _ _ _
  refine Bod.ifT dc_198_5 rfl (k1_ne_T (k_ne 1 0 rfl rfl (by omega) (by omega) (by omega))) ?_
  refine Bod.go dc_198_10 rfl ?_
  refine Bod.get dc_198_11 fr_198_15 (mk_53 _) rfl ?_
  refine Bod.ic 1 (by decide) dc_198_14 ?_
  refine Bod.virt (r := []) dc_198_15 kr_198_111 ⟨Or.inr rfl, ow_135, cl_9⟩ (by rw [np_135]; rfl) (by rw [np_135]; rfl) (ob_of (mk_46 _)) (Nat.le_of_ble_eq_true rfl) (c2  ) ?_
  show Bod _ _ _ _ [_] _ _ _
  refine Bod.lstn dc_198_18 (by rw [ml_198]; exact Nat.le_of_ble_eq_true rfl) ?_
  refine Bod.go dc_198_19 rfl ?_
  refine Bod.get dc_198_20 fr_198_15 (mk_53 _) rfl ?_
  refine Bod.ic 0 (by decide) dc_198_23 ?_
  refine Bod.virt (r := []) dc_198_24 kr_198_111 ⟨Or.inr rfl, ow_135, cl_9⟩ (by rw [np_135]; rfl) (by rw [np_135]; rfl) (ob_of (mk_46 _)) (Nat.le_of_ble_eq_true rfl) (c3  ) ?_
  show Bod _ _ _ _ [_] _ _ _
  refine Bod.lstn dc_198_27 (by rw [ml_198]; exact Nat.le_of_ble_eq_true rfl) ?_
  refine Bod.go dc_198_28 rfl ?_
  refine Bod.go dc_198_29 rfl ?_
  refine Bod.go dc_198_30 rfl ?_
  refine Bod.lst dc_198_31 (by rw [ml_198]; exact Nat.le_of_ble_eq_true rfl) ?_
  refine Bod.go dc_198_33 rfl ?_
  refine Bod.ldc2 dc_198_34 cj_198_148 ?_
  refine Bod.go dc_198_37 rfl ?_
  refine Bod.ifF dc_198_38 rfl w4 ?_
  refine Bod.go dc_198_41 rfl ?_
  refine Bod.ldc2 dc_198_42 cj_198_114 ?_
  refine Bod.go dc_198_45 rfl ?_
  refine Bod.ifT dc_198_46 rfl w5 ?_
  refine Bod.ic 0 (by decide) dc_198_53 ?_
  refine Bod.go dc_198_54 rfl ?_
  refine Bod.ist dc_198_77 (by rw [ml_198]; exact Nat.le_of_ble_eq_true rfl) ?_
  refine Bod.go dc_198_79 rfl ?_
  refine Bod.ifT dc_198_81 rfl (k1_eq_T (k_eq 0 0 rfl rfl (by omega))) ?_
  refine Bod.go dc_198_89 rfl ?_
  refine Bod.get dc_198_90 fr_198_15 (mk_53 _) rfl ?_
  refine Bod.ic 2 (by decide) dc_198_93 ?_
  refine Bod.ldc2 dc_198_94 cj_198_23 ?_
  refine Bod.go dc_198_97 rfl ?_
  refine Bod.virt (r := []) dc_198_99 kr_198_31 ⟨Or.inr rfl, ow_148, cl_9⟩ (by rw [np_148]; rfl) (by rw [np_148]; rfl) (ob_of (mk_46 _)) (Nat.le_of_ble_eq_true rfl) (c4  ) ?_
  show Bod _ _ _ _ [_] _ _ _
  exact Bod.retI dc_198_102 rt_198
theorem mMu_5 {d : Nat} {S : cS} {S1 : cS} {S2 : cS} {u : Int64} {S3 : cS} {u1 : Int64} (c1 : Ans (d + 8) 191 [.ref 53, .int (nI 2)] S (some (.int (nI 1))) S1) (c2 : Ans (d + 8) 135 [.ref 46, .int (nI 1)] S1 (some (.long u)) S2) (c3 : Ans (d + 8) 135 [.ref 46, .int (nI 0)] S2 (some (.long u1)) S3) (w4 : sm_c1 .ne (lg_cmp u ((-1))) true false = false) (w5 : sm_c1 .ne (lg_cmp u1 ((-9223372036854775808))) true false = false) : Bod (d + 8) 198 0 [(0, .ref 53)] [] S (some (.int (nI 6))) (S3) := by
  refine Bod.go dc_198_0 rfl ?_
  refine Bod.ic 2 (by decide) dc_198_1 ?_
  refine Bod.virt (r := []) dc_198_2 kr_198_39 ⟨Or.inl rfl, ow_191, cl_6⟩ (by rw [np_191]; rfl) (by rw [np_191]; rfl) (ob_of (mk_53 _)) (Nat.le_of_ble_eq_true rfl) (c1  ) ?_
  show Bod _ _ _ _ [_] _ _ _
  refine Bod.ifT dc_198_5 rfl (k1_ne_T (k_ne 1 0 rfl rfl (by omega) (by omega) (by omega))) ?_
  refine Bod.go dc_198_10 rfl ?_
  refine Bod.get dc_198_11 fr_198_15 (mk_53 _) rfl ?_
  refine Bod.ic 1 (by decide) dc_198_14 ?_
  refine Bod.virt (r := []) dc_198_15 kr_198_111 ⟨Or.inr rfl, ow_135, cl_9⟩ (by rw [np_135]; rfl) (by rw [np_135]; rfl) (ob_of (mk_46 _)) (Nat.le_of_ble_eq_true rfl) (c2  ) ?_
  show Bod _ _ _ _ [_] _ _ _
  refine Bod.lstn dc_198_18 (by rw [ml_198]; exact Nat.le_of_ble_eq_true rfl) ?_
  refine Bod.go dc_198_19 rfl ?_
  refine Bod.get dc_198_20 fr_198_15 (mk_53 _) rfl ?_
  refine Bod.ic 0 (by decide) dc_198_23 ?_
  refine Bod.virt (r := []) dc_198_24 kr_198_111 ⟨Or.inr rfl, ow_135, cl_9⟩ (by rw [np_135]; rfl) (by rw [np_135]; rfl) (ob_of (mk_46 _)) (Nat.le_of_ble_eq_true rfl) (c3  ) ?_
  show Bod _ _ _ _ [_] _ _ _
  refine Bod.lstn dc_198_27 (by rw [ml_198]; exact Nat.le_of_ble_eq_true rfl) ?_
  refine Bod.go dc_198_28 rfl ?_
  refine Bod.go dc_198_29 rfl ?_
  refine Bod.go dc_198_30 rfl ?_
  refine Bod.lst dc_198_31 (by rw [ml_198]; exact Nat.le_of_ble_eq_true rfl) ?_
  refine Bod.go dc_198_33 rfl ?_
  refine Bod.ldc2 dc_198_34 cj_198_148 ?_
  refine Bod.go dc_198_37 rfl ?_
  refine Bod.ifF dc_198_38 rfl w4 ?_
  refine Bod.go dc_198_41 rfl ?_
  refine Bod.ldc2 dc_198_42 cj_198_114 ?_
  refine Bod.go dc_198_45 rfl ?_
  refine Bod.ifF dc_198_46 rfl w5 ?_
  refine Bod.ic 1 (by decide) dc_198_49 ?_
  refine Bod.go dc_198_50 rfl ?_
  refine Bod.ist dc_198_77 (by rw [ml_198]; exact Nat.le_of_ble_eq_true rfl) ?_
  refine Bod.go dc_198_79 rfl ?_
  refine Bod.ifF dc_198_81 rfl (k1_eq_F (k_ne 1 0 rfl rfl (by omega) (by omega) (by omega))) ?_
  refine Bod.bip 6 (by decide) dc_198_84 ?_
  refine Bod.go dc_198_86 rfl ?_
  exact Bod.retI dc_198_102 rt_198
theorem mMu_6 {d : Nat} {S : cS} {S1 : cS} (c1 : Ans (d + 8) 191 [.ref 53, .int (nI 2)] S (some (.int (nI 0))) S1) : Bod (d + 8) 198 0 [(0, .ref 53)] [] S (some (.int (nI 2))) (S1) := by
  refine Bod.go dc_198_0 rfl ?_
  refine Bod.ic 2 (by decide) dc_198_1 ?_
  refine Bod.virt (r := []) dc_198_2 kr_198_39 ⟨Or.inl rfl, ow_191, cl_6⟩ (by rw [np_191]; rfl) (by rw [np_191]; rfl) (ob_of (mk_53 _)) (Nat.le_of_ble_eq_true rfl) (c1  ) ?_
  show Bod _ _ _ _ [_] _ _ _
  refine Bod.ifF dc_198_5 rfl (k1_ne_F (k_eq 0 0 rfl rfl (by omega))) ?_
  refine Bod.ic 2 (by decide) dc_198_8 ?_
  exact Bod.retI dc_198_9 rt_198
theorem mDv_1 {d : Nat} {S : cS} {S1 : cS} {S2 : cS} {u : Int64} {S3 : cS} {u1 : Int64} {S4 : cS} {u2 : Int64} {S5 : cS} {rb : Int32} (c1 : Ans (d + 8) 191 [.ref 53, .int (nI 2)] S (some (.int (nI 1))) S1) (c2 : Ans (d + 8) 135 [.ref 46, .int (nI 1)] S1 (some (.long u)) S2) (c3 : Ans (d + 8) 135 [.ref 46, .int (nI 0)] S2 (some (.long u1)) S3) (w4 : sm_c1 .ne (lg_cmp u1 0) true false = true) (w5 : sm_c1 .ne (lg_cmp u ((-9223372036854775808))) true false = true) (c4 : Ans (d + 8) 200 [.long u, .long u1] S3 (some (.long u2)) S4) (c5 : Ans (d + 8) 148 [.ref 46, .int (nI 2), .long ((2305843009213693952)), .long u2] S4 (some (.int rb)) S5) : Bod (d + 8) 199 0 [(0, .ref 53)] [] S (some (.int rb)) (S5) := by
  refine Bod.go dc_199_0 rfl ?_
  refine Bod.ic 2 (by decide) dc_199_1 ?_
  refine Bod.virt (r := []) dc_199_2 kr_199_39 ⟨Or.inl rfl, ow_191, cl_6⟩ (by rw [np_191]; rfl) (by rw [np_191]; rfl) (ob_of (mk_53 _)) (Nat.le_of_ble_eq_true rfl) (c1  ) ?_
  show Bod _ _ _ _ [_] _ _ _
  refine Bod.ifT dc_199_5 rfl (k1_ne_T (k_ne 1 0 rfl rfl (by omega) (by omega) (by omega))) ?_
  refine Bod.go dc_199_10 rfl ?_
  refine Bod.get dc_199_11 fr_199_15 (mk_53 _) rfl ?_
  refine Bod.ic 1 (by decide) dc_199_14 ?_
  refine Bod.virt (r := []) dc_199_15 kr_199_111 ⟨Or.inr rfl, ow_135, cl_9⟩ (by rw [np_135]; rfl) (by rw [np_135]; rfl) (ob_of (mk_46 _)) (Nat.le_of_ble_eq_true rfl) (c2  ) ?_
  show Bod _ _ _ _ [_] _ _ _
  refine Bod.lstn dc_199_18 (by rw [ml_199]; exact Nat.le_of_ble_eq_true rfl) ?_
  refine Bod.go dc_199_19 rfl ?_
  refine Bod.get dc_199_20 fr_199_15 (mk_53 _) rfl ?_
  refine Bod.ic 0 (by decide) dc_199_23 ?_
  refine Bod.virt (r := []) dc_199_24 kr_199_111 ⟨Or.inr rfl, ow_135, cl_9⟩ (by rw [np_135]; rfl) (by rw [np_135]; rfl) (ob_of (mk_46 _)) (Nat.le_of_ble_eq_true rfl) (c3  ) ?_
  show Bod _ _ _ _ [_] _ _ _
  refine Bod.lstn dc_199_27 (by rw [ml_199]; exact Nat.le_of_ble_eq_true rfl) ?_
  refine Bod.go dc_199_28 rfl ?_
  refine Bod.go dc_199_29 rfl ?_
  refine Bod.go dc_199_30 rfl ?_
  refine Bod.ifT dc_199_31 rfl w4 ?_
  refine Bod.go dc_199_36 rfl ?_
  refine Bod.ldc2 dc_199_37 cj_199_114 ?_
  refine Bod.go dc_199_40 rfl ?_
  refine Bod.ifT dc_199_41 rfl w5 ?_
  refine Bod.go dc_199_55 rfl ?_
  refine Bod.get dc_199_56 fr_199_15 (mk_53 _) rfl ?_
  refine Bod.ic 2 (by decide) dc_199_59 ?_
  refine Bod.ldc2 dc_199_60 cj_199_23 ?_
  refine Bod.go dc_199_63 rfl ?_
  refine Bod.go dc_199_64 rfl ?_
  refine Bod.stat (r := [_, _, _]) dc_199_65 kr_199_150 (Or.inl rfl) (by rw [np_200]; rfl) (by rw [np_200]; rfl) (by rw [np_200]; exact Nat.le_of_ble_eq_true rfl) (Nat.le_of_ble_eq_true rfl) (c4  ) ?_
  show Bod _ _ _ _ [_, _, _, _] _ _ _
  refine Bod.virt (r := []) dc_199_68 kr_199_31 ⟨Or.inr rfl, ow_148, cl_9⟩ (by rw [np_148]; rfl) (by rw [np_148]; rfl) (ob_of (mk_46 _)) (Nat.le_of_ble_eq_true rfl) (c5  ) ?_
  show Bod _ _ _ _ [_] _ _ _
  exact Bod.retI dc_199_71 rt_199
theorem mDv_2 {d : Nat} {S : cS} {S1 : cS} {S2 : cS} {u : Int64} {S3 : cS} {u1 : Int64} {S4 : cS} {u2 : Int64} {S5 : cS} {rb : Int32} (c1 : Ans (d + 8) 191 [.ref 53, .int (nI 2)] S (some (.int (nI 1))) S1) (c2 : Ans (d + 8) 135 [.ref 46, .int (nI 1)] S1 (some (.long u)) S2) (c3 : Ans (d + 8) 135 [.ref 46, .int (nI 0)] S2 (some (.long u1)) S3) (w4 : sm_c1 .ne (lg_cmp u1 0) true false = true) (w5 : sm_c1 .ne (lg_cmp u ((-9223372036854775808))) true false = false) (w6 : sm_c1 .ne (lg_cmp u1 ((-1))) true false = true) (c4 : Ans (d + 8) 200 [.long u, .long u1] S3 (some (.long u2)) S4) (c5 : Ans (d + 8) 148 [.ref 46, .int (nI 2), .long ((2305843009213693952)), .long u2] S4 (some (.int rb)) S5) : Bod (d + 8) 199 0 [(0, .ref 53)] [] S (some (.int rb)) (S5) := by
  refine Bod.go dc_199_0 rfl ?_
  refine Bod.ic 2 (by decide) dc_199_1 ?_
  refine Bod.virt (r := []) dc_199_2 kr_199_39 ⟨Or.inl rfl, ow_191, cl_6⟩ (by rw [np_191]; rfl) (by rw [np_191]; rfl) (ob_of (mk_53 _)) (Nat.le_of_ble_eq_true rfl) (c1  ) ?_
  show Bod _ _ _ _ [_] _ _ _
  refine Bod.ifT dc_199_5 rfl (k1_ne_T (k_ne 1 0 rfl rfl (by omega) (by omega) (by omega))) ?_
  refine Bod.go dc_199_10 rfl ?_
  refine Bod.get dc_199_11 fr_199_15 (mk_53 _) rfl ?_
  refine Bod.ic 1 (by decide) dc_199_14 ?_
  refine Bod.virt (r := []) dc_199_15 kr_199_111 ⟨Or.inr rfl, ow_135, cl_9⟩ (by rw [np_135]; rfl) (by rw [np_135]; rfl) (ob_of (mk_46 _)) (Nat.le_of_ble_eq_true rfl) (c2  ) ?_
  show Bod _ _ _ _ [_] _ _ _
  refine Bod.lstn dc_199_18 (by rw [ml_199]; exact Nat.le_of_ble_eq_true rfl) ?_
  refine Bod.go dc_199_19 rfl ?_
  refine Bod.get dc_199_20 fr_199_15 (mk_53 _) rfl ?_
  refine Bod.ic 0 (by decide) dc_199_23 ?_
  refine Bod.virt (r := []) dc_199_24 kr_199_111 ⟨Or.inr rfl, ow_135, cl_9⟩ (by rw [np_135]; rfl) (by rw [np_135]; rfl) (ob_of (mk_46 _)) (Nat.le_of_ble_eq_true rfl) (c3  ) ?_
  show Bod _ _ _ _ [_] _ _ _
  refine Bod.lstn dc_199_27 (by rw [ml_199]; exact Nat.le_of_ble_eq_true rfl) ?_
  refine Bod.go dc_199_28 rfl ?_
  refine Bod.go dc_199_29 rfl ?_
  refine Bod.go dc_199_30 rfl ?_
  refine Bod.ifT dc_199_31 rfl w4 ?_
  refine Bod.go dc_199_36 rfl ?_
  refine Bod.ldc2 dc_199_37 cj_199_114 ?_
  refine Bod.go dc_199_40 rfl ?_
  refine Bod.ifF dc_199_41 rfl w5 ?_
  refine Bod.go dc_199_44 rfl ?_
  refine Bod.ldc2 dc_199_45 cj_199_148 ?_
  refine Bod.go dc_199_48 rfl ?_
  refine Bod.ifT dc_199_49 rfl w6 ?_
  refine Bod.go dc_199_55 rfl ?_
  refine Bod.get dc_199_56 fr_199_15 (mk_53 _) rfl ?_
  refine Bod.ic 2 (by decide) dc_199_59 ?_
  refine Bod.ldc2 dc_199_60 cj_199_23 ?_
  refine Bod.go dc_199_63 rfl ?_
  refine Bod.go dc_199_64 rfl ?_
  refine Bod.stat (r := [_, _, _]) dc_199_65 kr_199_150 (Or.inl rfl) (by rw [np_200]; rfl) (by rw [np_200]; rfl) (by rw [np_200]; exact Nat.le_of_ble_eq_true rfl) (Nat.le_of_ble_eq_true rfl) (c4  ) ?_
  show Bod _ _ _ _ [_, _, _, _] _ _ _
  refine Bod.virt (r := []) dc_199_68 kr_199_31 ⟨Or.inr rfl, ow_148, cl_9⟩ (by rw [np_148]; rfl) (by rw [np_148]; rfl) (ob_of (mk_46 _)) (Nat.le_of_ble_eq_true rfl) (c5  ) ?_
  show Bod _ _ _ _ [_] _ _ _
  exact Bod.retI dc_199_71 rt_199
theorem mDv_3 {d : Nat} {S : cS} {S1 : cS} {S2 : cS} {u : Int64} {S3 : cS} {u1 : Int64} (c1 : Ans (d + 8) 191 [.ref 53, .int (nI 2)] S (some (.int (nI 1))) S1) (c2 : Ans (d + 8) 135 [.ref 46, .int (nI 1)] S1 (some (.long u)) S2) (c3 : Ans (d + 8) 135 [.ref 46, .int (nI 0)] S2 (some (.long u1)) S3) (w4 : sm_c1 .ne (lg_cmp u1 0) true false = true) (w5 : sm_c1 .ne (lg_cmp u ((-9223372036854775808))) true false = false) (w6 : sm_c1 .ne (lg_cmp u1 ((-1))) true false = false) : Bod (d + 8) 199 0 [(0, .ref 53)] [] S (some (.int (nI 6))) (S3) := by
  refine Bod.go dc_199_0 rfl ?_
  refine Bod.ic 2 (by decide) dc_199_1 ?_
  refine Bod.virt (r := []) dc_199_2 kr_199_39 ⟨Or.inl rfl, ow_191, cl_6⟩ (by rw [np_191]; rfl) (by rw [np_191]; rfl) (ob_of (mk_53 _)) (Nat.le_of_ble_eq_true rfl) (c1  ) ?_
  show Bod _ _ _ _ [_] _ _ _
  refine Bod.ifT dc_199_5 rfl (k1_ne_T (k_ne 1 0 rfl rfl (by omega) (by omega) (by omega))) ?_
  refine Bod.go dc_199_10 rfl ?_
  refine Bod.get dc_199_11 fr_199_15 (mk_53 _) rfl ?_
  refine Bod.ic 1 (by decide) dc_199_14 ?_
  refine Bod.virt (r := []) dc_199_15 kr_199_111 ⟨Or.inr rfl, ow_135, cl_9⟩ (by rw [np_135]; rfl) (by rw [np_135]; rfl) (ob_of (mk_46 _)) (Nat.le_of_ble_eq_true rfl) (c2  ) ?_
  show Bod _ _ _ _ [_] _ _ _
  refine Bod.lstn dc_199_18 (by rw [ml_199]; exact Nat.le_of_ble_eq_true rfl) ?_
  refine Bod.go dc_199_19 rfl ?_
  refine Bod.get dc_199_20 fr_199_15 (mk_53 _) rfl ?_
  refine Bod.ic 0 (by decide) dc_199_23 ?_
  refine Bod.virt (r := []) dc_199_24 kr_199_111 ⟨Or.inr rfl, ow_135, cl_9⟩ (by rw [np_135]; rfl) (by rw [np_135]; rfl) (ob_of (mk_46 _)) (Nat.le_of_ble_eq_true rfl) (c3  ) ?_
  show Bod _ _ _ _ [_] _ _ _
  refine Bod.lstn dc_199_27 (by rw [ml_199]; exact Nat.le_of_ble_eq_true rfl) ?_
  refine Bod.go dc_199_28 rfl ?_
  refine Bod.go dc_199_29 rfl ?_
  refine Bod.go dc_199_30 rfl ?_
  refine Bod.ifT dc_199_31 rfl w4 ?_
  refine Bod.go dc_199_36 rfl ?_
  refine Bod.ldc2 dc_199_37 cj_199_114 ?_
  refine Bod.go dc_199_40 rfl ?_
  refine Bod.ifF dc_199_41 rfl w5 ?_
  refine Bod.go dc_199_44 rfl ?_
  refine Bod.ldc2 dc_199_45 cj_199_148 ?_
  refine Bod.go dc_199_48 rfl ?_
  refine Bod.ifF dc_199_49 rfl w6 ?_
  refine Bod.bip 6 (by decide) dc_199_52 ?_
  exact Bod.retI dc_199_54 rt_199
theorem mDv_4 {d : Nat} {S : cS} {S1 : cS} {S2 : cS} {u : Int64} {S3 : cS} {u1 : Int64} (c1 : Ans (d + 8) 191 [.ref 53, .int (nI 2)] S (some (.int (nI 1))) S1) (c2 : Ans (d + 8) 135 [.ref 46, .int (nI 1)] S1 (some (.long u)) S2) (c3 : Ans (d + 8) 135 [.ref 46, .int (nI 0)] S2 (some (.long u1)) S3) (w4 : sm_c1 .ne (lg_cmp u1 0) true false = false) : Bod (d + 8) 199 0 [(0, .ref 53)] [] S (some (.int (nI 5))) (S3) := by
  refine Bod.go dc_199_0 rfl ?_
  refine Bod.ic 2 (by decide) dc_199_1 ?_
  refine Bod.virt (r := []) dc_199_2 kr_199_39 ⟨Or.inl rfl, ow_191, cl_6⟩ (by rw [np_191]; rfl) (by rw [np_191]; rfl) (ob_of (mk_53 _)) (Nat.le_of_ble_eq_true rfl) (c1  ) ?_
  show Bod _ _ _ _ [_] _ _ _
  refine Bod.ifT dc_199_5 rfl (k1_ne_T (k_ne 1 0 rfl rfl (by omega) (by omega) (by omega))) ?_
  refine Bod.go dc_199_10 rfl ?_
  refine Bod.get dc_199_11 fr_199_15 (mk_53 _) rfl ?_
  refine Bod.ic 1 (by decide) dc_199_14 ?_
  refine Bod.virt (r := []) dc_199_15 kr_199_111 ⟨Or.inr rfl, ow_135, cl_9⟩ (by rw [np_135]; rfl) (by rw [np_135]; rfl) (ob_of (mk_46 _)) (Nat.le_of_ble_eq_true rfl) (c2  ) ?_
  show Bod _ _ _ _ [_] _ _ _
  refine Bod.lstn dc_199_18 (by rw [ml_199]; exact Nat.le_of_ble_eq_true rfl) ?_
  refine Bod.go dc_199_19 rfl ?_
  refine Bod.get dc_199_20 fr_199_15 (mk_53 _) rfl ?_
  refine Bod.ic 0 (by decide) dc_199_23 ?_
  refine Bod.virt (r := []) dc_199_24 kr_199_111 ⟨Or.inr rfl, ow_135, cl_9⟩ (by rw [np_135]; rfl) (by rw [np_135]; rfl) (ob_of (mk_46 _)) (Nat.le_of_ble_eq_true rfl) (c3  ) ?_
  show Bod _ _ _ _ [_] _ _ _
  refine Bod.lstn dc_199_27 (by rw [ml_199]; exact Nat.le_of_ble_eq_true rfl) ?_
  refine Bod.go dc_199_28 rfl ?_
  refine Bod.go dc_199_29 rfl ?_
  refine Bod.go dc_199_30 rfl ?_
  refine Bod.ifF dc_199_31 rfl w4 ?_
  refine Bod.ic 5 (by decide) dc_199_34 ?_
  exact Bod.retI dc_199_35 rt_199
theorem mDv_5 {d : Nat} {S : cS} {S1 : cS} (c1 : Ans (d + 8) 191 [.ref 53, .int (nI 2)] S (some (.int (nI 0))) S1) : Bod (d + 8) 199 0 [(0, .ref 53)] [] S (some (.int (nI 2))) (S1) := by
  refine Bod.go dc_199_0 rfl ?_
  refine Bod.ic 2 (by decide) dc_199_1 ?_
  refine Bod.virt (r := []) dc_199_2 kr_199_39 ⟨Or.inl rfl, ow_191, cl_6⟩ (by rw [np_191]; rfl) (by rw [np_191]; rfl) (ob_of (mk_53 _)) (Nat.le_of_ble_eq_true rfl) (c1  ) ?_
  show Bod _ _ _ _ [_] _ _ _
  refine Bod.ifF dc_199_5 rfl (k1_ne_F (k_eq 0 0 rfl rfl (by omega))) ?_
  refine Bod.ic 2 (by decide) dc_199_8 ?_
  exact Bod.retI dc_199_9 rt_199
theorem mRm_1 {d : Nat} {S : cS} {S1 : cS} {S2 : cS} {u : Int64} {S3 : cS} {u1 : Int64} {S4 : cS} {u2 : Int64} {S5 : cS} {rb : Int32} (c1 : Ans (d + 8) 191 [.ref 53, .int (nI 2)] S (some (.int (nI 1))) S1) (c2 : Ans (d + 8) 135 [.ref 46, .int (nI 0)] S1 (some (.long u)) S2) (w3 : sm_c1 .ne (lg_cmp u 0) true false = true) (c3 : Ans (d + 8) 135 [.ref 46, .int (nI 1)] S2 (some (.long u1)) S3) (c4 : Ans (d + 8) 202 [.long u1, .long u] S3 (some (.long u2)) S4) (c5 : Ans (d + 8) 148 [.ref 46, .int (nI 2), .long ((2305843009213693952)), .long u2] S4 (some (.int rb)) S5) : Bod (d + 8) 201 0 [(0, .ref 53)] [] S (some (.int rb)) (S5) := by
  refine Bod.go dc_201_0 rfl ?_
  refine Bod.ic 2 (by decide) dc_201_1 ?_
  refine Bod.virt (r := []) dc_201_2 kr_201_39 ⟨Or.inl rfl, ow_191, cl_6⟩ (by rw [np_191]; rfl) (by rw [np_191]; rfl) (ob_of (mk_53 _)) (Nat.le_of_ble_eq_true rfl) (c1  ) ?_
  show Bod _ _ _ _ [_] _ _ _
  refine Bod.ifT dc_201_5 rfl (k1_ne_T (k_ne 1 0 rfl rfl (by omega) (by omega) (by omega))) ?_
  refine Bod.go dc_201_10 rfl ?_
  refine Bod.get dc_201_11 fr_201_15 (mk_53 _) rfl ?_
  refine Bod.ic 0 (by decide) dc_201_14 ?_
  refine Bod.virt (r := []) dc_201_15 kr_201_111 ⟨Or.inr rfl, ow_135, cl_9⟩ (by rw [np_135]; rfl) (by rw [np_135]; rfl) (ob_of (mk_46 _)) (Nat.le_of_ble_eq_true rfl) (c2  ) ?_
  show Bod _ _ _ _ [_] _ _ _
  refine Bod.lstn dc_201_18 (by rw [ml_201]; exact Nat.le_of_ble_eq_true rfl) ?_
  refine Bod.go dc_201_19 rfl ?_
  refine Bod.go dc_201_20 rfl ?_
  refine Bod.go dc_201_21 rfl ?_
  refine Bod.ifT dc_201_22 rfl w3 ?_
  refine Bod.go dc_201_27 rfl ?_
  refine Bod.get dc_201_28 fr_201_15 (mk_53 _) rfl ?_
  refine Bod.ic 2 (by decide) dc_201_31 ?_
  refine Bod.ldc2 dc_201_32 cj_201_23 ?_
  refine Bod.go dc_201_35 rfl ?_
  refine Bod.get dc_201_36 fr_201_15 (mk_53 _) rfl ?_
  refine Bod.ic 1 (by decide) dc_201_39 ?_
  refine Bod.virt (r := [_, _, _]) dc_201_40 kr_201_111 ⟨Or.inr rfl, ow_135, cl_9⟩ (by rw [np_135]; rfl) (by rw [np_135]; rfl) (ob_of (mk_46 _)) (Nat.le_of_ble_eq_true rfl) (c3  ) ?_
  show Bod _ _ _ _ [_, _, _, _] _ _ _
  refine Bod.go dc_201_43 rfl ?_
  refine Bod.stat (r := [_, _, _]) dc_201_44 kr_201_156 (Or.inl rfl) (by rw [np_202]; rfl) (by rw [np_202]; rfl) (by rw [np_202]; exact Nat.le_of_ble_eq_true rfl) (Nat.le_of_ble_eq_true rfl) (c4  ) ?_
  show Bod _ _ _ _ [_, _, _, _] _ _ _
  refine Bod.virt (r := []) dc_201_47 kr_201_31 ⟨Or.inr rfl, ow_148, cl_9⟩ (by rw [np_148]; rfl) (by rw [np_148]; rfl) (ob_of (mk_46 _)) (Nat.le_of_ble_eq_true rfl) (c5  ) ?_
  show Bod _ _ _ _ [_] _ _ _
  exact Bod.retI dc_201_50 rt_201
theorem mRm_2 {d : Nat} {S : cS} {S1 : cS} {S2 : cS} {u : Int64} (c1 : Ans (d + 8) 191 [.ref 53, .int (nI 2)] S (some (.int (nI 1))) S1) (c2 : Ans (d + 8) 135 [.ref 46, .int (nI 0)] S1 (some (.long u)) S2) (w3 : sm_c1 .ne (lg_cmp u 0) true false = false) : Bod (d + 8) 201 0 [(0, .ref 53)] [] S (some (.int (nI 5))) (S2) := by
  refine Bod.go dc_201_0 rfl ?_
  refine Bod.ic 2 (by decide) dc_201_1 ?_
  refine Bod.virt (r := []) dc_201_2 kr_201_39 ⟨Or.inl rfl, ow_191, cl_6⟩ (by rw [np_191]; rfl) (by rw [np_191]; rfl) (ob_of (mk_53 _)) (Nat.le_of_ble_eq_true rfl) (c1  ) ?_
  show Bod _ _ _ _ [_] _ _ _
  refine Bod.ifT dc_201_5 rfl (k1_ne_T (k_ne 1 0 rfl rfl (by omega) (by omega) (by omega))) ?_
  refine Bod.go dc_201_10 rfl ?_
  refine Bod.get dc_201_11 fr_201_15 (mk_53 _) rfl ?_
  refine Bod.ic 0 (by decide) dc_201_14 ?_
  refine Bod.virt (r := []) dc_201_15 kr_201_111 ⟨Or.inr rfl, ow_135, cl_9⟩ (by rw [np_135]; rfl) (by rw [np_135]; rfl) (ob_of (mk_46 _)) (Nat.le_of_ble_eq_true rfl) (c2  ) ?_
  show Bod _ _ _ _ [_] _ _ _
  refine Bod.lstn dc_201_18 (by rw [ml_201]; exact Nat.le_of_ble_eq_true rfl) ?_
  refine Bod.go dc_201_19 rfl ?_
  refine Bod.go dc_201_20 rfl ?_
  refine Bod.go dc_201_21 rfl ?_
  refine Bod.ifF dc_201_22 rfl w3 ?_
  refine Bod.ic 5 (by decide) dc_201_25 ?_
  exact Bod.retI dc_201_26 rt_201
theorem mRm_3 {d : Nat} {S : cS} {S1 : cS} (c1 : Ans (d + 8) 191 [.ref 53, .int (nI 2)] S (some (.int (nI 0))) S1) : Bod (d + 8) 201 0 [(0, .ref 53)] [] S (some (.int (nI 2))) (S1) := by
  refine Bod.go dc_201_0 rfl ?_
  refine Bod.ic 2 (by decide) dc_201_1 ?_
  refine Bod.virt (r := []) dc_201_2 kr_201_39 ⟨Or.inl rfl, ow_191, cl_6⟩ (by rw [np_191]; rfl) (by rw [np_191]; rfl) (ob_of (mk_53 _)) (Nat.le_of_ble_eq_true rfl) (c1  ) ?_
  show Bod _ _ _ _ [_] _ _ _
  refine Bod.ifF dc_201_5 rfl (k1_ne_F (k_eq 0 0 rfl rfl (by omega))) ?_
  refine Bod.ic 2 (by decide) dc_201_8 ?_
  exact Bod.retI dc_201_9 rt_201
theorem mEq_1 {d : Nat} {S : cS} {S1 : cS} {u : Int64} {S2 : cS} {u1 : Int64} (c1 : Ans (d + 8) 132 [.ref 46, .int (nI 0)] S (some (.long u)) S1) (c2 : Ans (d + 8) 132 [.ref 46, .int (nI 1)] S1 (some (.long u1)) S2) (w3 : sm_c1 .ne (lg_cmp u u1) true false = true) : Bod (d + 8) 203 0 [(0, .ref 53)] [] S (some (.int 0)) (S2) := by
  refine Bod.go dc_203_0 rfl ?_
  refine Bod.get dc_203_1 fr_203_15 (mk_53 _) rfl ?_
  refine Bod.ic 0 (by decide) dc_203_4 ?_
  refine Bod.virt (r := []) dc_203_5 kr_203_70 ⟨Or.inr rfl, ow_132, cl_9⟩ (by rw [np_132]; rfl) (by rw [np_132]; rfl) (ob_of (mk_46 _)) (Nat.le_of_ble_eq_true rfl) (c1  ) ?_
  show Bod _ _ _ _ [_] _ _ _
  refine Bod.go dc_203_8 rfl ?_
  refine Bod.get dc_203_9 fr_203_15 (mk_53 _) rfl ?_
  refine Bod.ic 1 (by decide) dc_203_12 ?_
  refine Bod.virt (r := [_]) dc_203_13 kr_203_70 ⟨Or.inr rfl, ow_132, cl_9⟩ (by rw [np_132]; rfl) (by rw [np_132]; rfl) (ob_of (mk_46 _)) (Nat.le_of_ble_eq_true rfl) (c2  ) ?_
  show Bod _ _ _ _ [_, _] _ _ _
  refine Bod.go dc_203_16 rfl ?_
  refine Bod.ifT dc_203_17 rfl w3 ?_
  refine Bod.ic 0 (by decide) dc_203_44 ?_
  exact Bod.retZ dc_203_45 rt_203 (Or.inl rfl)
theorem mEq_2 {d : Nat} {S : cS} {S1 : cS} {u : Int64} {S2 : cS} {u1 : Int64} {S3 : cS} {u2 : Int64} {S4 : cS} {u3 : Int64} (c1 : Ans (d + 8) 132 [.ref 46, .int (nI 0)] S (some (.long u)) S1) (c2 : Ans (d + 8) 132 [.ref 46, .int (nI 1)] S1 (some (.long u1)) S2) (w3 : sm_c1 .ne (lg_cmp u u1) true false = false) (c3 : Ans (d + 8) 135 [.ref 46, .int (nI 0)] S2 (some (.long u2)) S3) (c4 : Ans (d + 8) 135 [.ref 46, .int (nI 1)] S3 (some (.long u3)) S4) (w6 : sm_c1 .ne (lg_cmp u2 u3) true false = true) : Bod (d + 8) 203 0 [(0, .ref 53)] [] S (some (.int 0)) (S4) := by
  refine Bod.go dc_203_0 rfl ?_
  refine Bod.get dc_203_1 fr_203_15 (mk_53 _) rfl ?_
  refine Bod.ic 0 (by decide) dc_203_4 ?_
  refine Bod.virt (r := []) dc_203_5 kr_203_70 ⟨Or.inr rfl, ow_132, cl_9⟩ (by rw [np_132]; rfl) (by rw [np_132]; rfl) (ob_of (mk_46 _)) (Nat.le_of_ble_eq_true rfl) (c1  ) ?_
  show Bod _ _ _ _ [_] _ _ _
  refine Bod.go dc_203_8 rfl ?_
  refine Bod.get dc_203_9 fr_203_15 (mk_53 _) rfl ?_
  refine Bod.ic 1 (by decide) dc_203_12 ?_
  refine Bod.virt (r := [_]) dc_203_13 kr_203_70 ⟨Or.inr rfl, ow_132, cl_9⟩ (by rw [np_132]; rfl) (by rw [np_132]; rfl) (ob_of (mk_46 _)) (Nat.le_of_ble_eq_true rfl) (c2  ) ?_
  show Bod _ _ _ _ [_, _] _ _ _
  refine Bod.go dc_203_16 rfl ?_
  refine Bod.ifF dc_203_17 rfl w3 ?_
  refine Bod.go dc_203_20 rfl ?_
  refine Bod.get dc_203_21 fr_203_15 (mk_53 _) rfl ?_
  refine Bod.ic 0 (by decide) dc_203_24 ?_
  refine Bod.virt (r := []) dc_203_25 kr_203_111 ⟨Or.inr rfl, ow_135, cl_9⟩ (by rw [np_135]; rfl) (by rw [np_135]; rfl) (ob_of (mk_46 _)) (Nat.le_of_ble_eq_true rfl) (c3  ) ?_
  show Bod _ _ _ _ [_] _ _ _
  refine Bod.go dc_203_28 rfl ?_
  refine Bod.get dc_203_29 fr_203_15 (mk_53 _) rfl ?_
  refine Bod.ic 1 (by decide) dc_203_32 ?_
  refine Bod.virt (r := [_]) dc_203_33 kr_203_111 ⟨Or.inr rfl, ow_135, cl_9⟩ (by rw [np_135]; rfl) (by rw [np_135]; rfl) (ob_of (mk_46 _)) (Nat.le_of_ble_eq_true rfl) (c4  ) ?_
  show Bod _ _ _ _ [_, _] _ _ _
  refine Bod.go dc_203_36 rfl ?_
  refine Bod.ifT dc_203_37 rfl w6 ?_
  refine Bod.ic 0 (by decide) dc_203_44 ?_
  exact Bod.retZ dc_203_45 rt_203 (Or.inl rfl)
theorem mEq_3 {d : Nat} {S : cS} {S1 : cS} {u : Int64} {S2 : cS} {u1 : Int64} {S3 : cS} {u2 : Int64} {S4 : cS} {u3 : Int64} (c1 : Ans (d + 8) 132 [.ref 46, .int (nI 0)] S (some (.long u)) S1) (c2 : Ans (d + 8) 132 [.ref 46, .int (nI 1)] S1 (some (.long u1)) S2) (w3 : sm_c1 .ne (lg_cmp u u1) true false = false) (c3 : Ans (d + 8) 135 [.ref 46, .int (nI 0)] S2 (some (.long u2)) S3) (c4 : Ans (d + 8) 135 [.ref 46, .int (nI 1)] S3 (some (.long u3)) S4) (w6 : sm_c1 .ne (lg_cmp u2 u3) true false = false) : Bod (d + 8) 203 0 [(0, .ref 53)] [] S (some (.int 1)) (S4) := by
  refine Bod.go dc_203_0 rfl ?_
  refine Bod.get dc_203_1 fr_203_15 (mk_53 _) rfl ?_
  refine Bod.ic 0 (by decide) dc_203_4 ?_
  refine Bod.virt (r := []) dc_203_5 kr_203_70 ⟨Or.inr rfl, ow_132, cl_9⟩ (by rw [np_132]; rfl) (by rw [np_132]; rfl) (ob_of (mk_46 _)) (Nat.le_of_ble_eq_true rfl) (c1  ) ?_
  show Bod _ _ _ _ [_] _ _ _
  refine Bod.go dc_203_8 rfl ?_
  refine Bod.get dc_203_9 fr_203_15 (mk_53 _) rfl ?_
  refine Bod.ic 1 (by decide) dc_203_12 ?_
  refine Bod.virt (r := [_]) dc_203_13 kr_203_70 ⟨Or.inr rfl, ow_132, cl_9⟩ (by rw [np_132]; rfl) (by rw [np_132]; rfl) (ob_of (mk_46 _)) (Nat.le_of_ble_eq_true rfl) (c2  ) ?_
  show Bod _ _ _ _ [_, _] _ _ _
  refine Bod.go dc_203_16 rfl ?_
  refine Bod.ifF dc_203_17 rfl w3 ?_
  refine Bod.go dc_203_20 rfl ?_
  refine Bod.get dc_203_21 fr_203_15 (mk_53 _) rfl ?_
  refine Bod.ic 0 (by decide) dc_203_24 ?_
  refine Bod.virt (r := []) dc_203_25 kr_203_111 ⟨Or.inr rfl, ow_135, cl_9⟩ (by rw [np_135]; rfl) (by rw [np_135]; rfl) (ob_of (mk_46 _)) (Nat.le_of_ble_eq_true rfl) (c3  ) ?_
  show Bod _ _ _ _ [_] _ _ _
  refine Bod.go dc_203_28 rfl ?_
  refine Bod.get dc_203_29 fr_203_15 (mk_53 _) rfl ?_
  refine Bod.ic 1 (by decide) dc_203_32 ?_
  refine Bod.virt (r := [_]) dc_203_33 kr_203_111 ⟨Or.inr rfl, ow_135, cl_9⟩ (by rw [np_135]; rfl) (by rw [np_135]; rfl) (ob_of (mk_46 _)) (Nat.le_of_ble_eq_true rfl) (c4  ) ?_
  show Bod _ _ _ _ [_, _] _ _ _
  refine Bod.go dc_203_36 rfl ?_
  refine Bod.ifF dc_203_37 rfl w6 ?_
  refine Bod.ic 1 (by decide) dc_203_40 ?_
  refine Bod.go dc_203_41 rfl ?_
  exact Bod.retZ dc_203_45 rt_203 (Or.inr rfl)
theorem mIx_1 {d : Nat} {S : cS} {nt : Nat} {S1 : cS} {rb : Int32} {S2 : cS} {a : Nat} {S3 : cS} {u : Int64} {S4 : cS} {u1 : Int64} {S5 : cS} {rb1 : Int32} (mnt : nt < 2 ^ 20) (c1 : Ans (d + 8) 210 [.ref 53, .int (nI 1), .int (nI 0)] S (some (.int rb)) S1) (w3 : sm_c1 .ge rb true false = true) (ma : a < 2 ^ 20) (c2 : Ans (d + 8) 136 [.ref 46, .int (nI 1)] S1 (some (.int (nI a))) S2) (c3 : Ans (d + 8) 156 [.ref 2, .int (nI a), .int rb] S2 (some (.long u)) S3) (c4 : Ans (d + 8) 158 [.ref 2, .int (nI a), .int rb] S3 (some (.long u1)) S4) (c5 : Ans (d + 8) 148 [.ref 46, .int (nI nt), .long u, .long u1] S4 (some (.int rb1)) S5) : Bod (d + 8) 209 0 [(0, .ref 53), (1, .int (nI nt))] [] S (some (.int rb1)) (S5) := by
  refine Bod.go dc_209_0 rfl ?_
  refine Bod.ic 1 (by decide) dc_209_1 ?_
  refine Bod.ic 0 (by decide) dc_209_2 ?_
  refine Bod.virt (r := []) dc_209_3 kr_209_192 ⟨Or.inl rfl, ow_210, cl_6⟩ (by rw [np_210]; rfl) (by rw [np_210]; rfl) (ob_of (mk_53 _)) (Nat.le_of_ble_eq_true rfl) (c1  ) ?_
  show Bod _ _ _ _ [_] _ _ _
  refine Bod.istn dc_209_6 (by rw [ml_209]; exact Nat.le_of_ble_eq_true rfl) ?_
  refine Bod.go dc_209_7 rfl ?_
  refine Bod.ifT dc_209_8 rfl w3 ?_
  refine Bod.go dc_209_14 rfl ?_
  refine Bod.get dc_209_15 fr_209_15 (mk_53 _) rfl ?_
  refine Bod.ic 1 (by decide) dc_209_18 ?_
  refine Bod.virt (r := []) dc_209_19 kr_209_169 ⟨Or.inr rfl, ow_136, cl_9⟩ (by rw [np_136]; rfl) (by rw [np_136]; rfl) (ob_of (mk_46 _)) (Nat.le_of_ble_eq_true rfl) (c2  ) ?_
  show Bod _ _ _ _ [_] _ _ _
  refine Bod.istn dc_209_22 (by rw [ml_209]; exact Nat.le_of_ble_eq_true rfl) ?_
  refine Bod.go dc_209_23 rfl ?_
  refine Bod.get dc_209_24 fr_209_15 (mk_53 _) rfl ?_
  refine Bod.go dc_209_27 rfl ?_
  refine Bod.go dc_209_28 rfl ?_
  refine Bod.get dc_209_29 fr_209_9 (mk_53 _) rfl ?_
  refine Bod.go dc_209_32 rfl ?_
  refine Bod.go dc_209_33 rfl ?_
  refine Bod.virt (r := [_, _]) dc_209_34 kr_209_181 ⟨Or.inr rfl, ow_156, cl_2⟩ (by rw [np_156]; rfl) (by rw [np_156]; rfl) (ob_of (mk_2 _)) (Nat.le_of_ble_eq_true rfl) (c3  ) ?_
  show Bod _ _ _ _ [_, _, _] _ _ _
  refine Bod.go dc_209_37 rfl ?_
  refine Bod.get dc_209_38 fr_209_9 (mk_53 _) rfl ?_
  refine Bod.go dc_209_41 rfl ?_
  refine Bod.go dc_209_42 rfl ?_
  refine Bod.virt (r := [_, _, _]) dc_209_43 kr_209_185 ⟨Or.inr rfl, ow_158, cl_2⟩ (by rw [np_158]; rfl) (by rw [np_158]; rfl) (ob_of (mk_2 _)) (Nat.le_of_ble_eq_true rfl) (c4  ) ?_
  show Bod _ _ _ _ [_, _, _, _] _ _ _
  refine Bod.virt (r := []) dc_209_46 kr_209_31 ⟨Or.inr rfl, ow_148, cl_9⟩ (by rw [np_148]; rfl) (by rw [np_148]; rfl) (ob_of (mk_46 _)) (Nat.le_of_ble_eq_true rfl) (c5  ) ?_
  show Bod _ _ _ _ [_] _ _ _
  exact Bod.retI dc_209_49 rt_209
theorem mIx_2 {d : Nat} {S : cS} {nt : Nat} {S1 : cS} {rb : Int32} (mnt : nt < 2 ^ 20) (c1 : Ans (d + 8) 210 [.ref 53, .int (nI 1), .int (nI 0)] S (some (.int rb)) S1) (w3 : sm_c1 .ge rb true false = false) : Bod (d + 8) 209 0 [(0, .ref 53), (1, .int (nI nt))] [] S (some (.int (-rb))) (S1) := by
  refine Bod.go dc_209_0 rfl ?_
  refine Bod.ic 1 (by decide) dc_209_1 ?_
  refine Bod.ic 0 (by decide) dc_209_2 ?_
  refine Bod.virt (r := []) dc_209_3 kr_209_192 ⟨Or.inl rfl, ow_210, cl_6⟩ (by rw [np_210]; rfl) (by rw [np_210]; rfl) (ob_of (mk_53 _)) (Nat.le_of_ble_eq_true rfl) (c1  ) ?_
  show Bod _ _ _ _ [_] _ _ _
  refine Bod.istn dc_209_6 (by rw [ml_209]; exact Nat.le_of_ble_eq_true rfl) ?_
  refine Bod.go dc_209_7 rfl ?_
  refine Bod.ifF dc_209_8 rfl w3 ?_
  refine Bod.go dc_209_11 rfl ?_
  refine Bod.go dc_209_12 rfl ?_
  exact Bod.retI dc_209_13 rt_209
theorem mIs_1 {d : Nat} {S : cS} {nt : Nat} {S1 : cS} {u : Int64} {S2 : cS} {u1 : Int64} {S3 : cS} {rb : Int32} {S4 : cS} {u2 : Int64} {S5 : cS} {a : Nat} {S6 : cS} {rb1 : Int32} {S7 : cS} {u3 : Int64} {S8 : cS} {rb2 : Int32} {S9 : cS} {u4 : Int64} {S10 : cS} {rb3 : Int32} (mnt : nt < 2 ^ 20) (c1 : Ans (d + 8) 132 [.ref 46, .int (nI 1)] S (some (.long u)) S1) (c2 : Ans (d + 8) 132 [.ref 46, .int (nI 0)] S1 (some (.long u1)) S2) (c3 : Ans (d + 8) 134 [.long u1] S2 (some (.int rb)) S3) (w5 : rb = nI 2) (c4 : Ans (d + 8) 135 [.ref 46, .int (nI 0)] S3 (some (.long u2)) S4) (ma : a < 2 ^ 20) (c5 : Ans (d + 8) 47 [.long u] S4 (some (.int (nI a))) S5) (c6 : Ans (d + 8) 208 [.long u2, .int (nI a)] S5 (some (.int rb1)) S6) (w10 : sm_c1 .ge rb1 true false = true) (c7 : Ans (d + 8) 135 [.ref 46, .int (nI 1)] S6 (some (.long u3)) S7) (c8 : Ans (d + 8) 193 [.long u, .long u3, .int rb1] S7 (some (.int rb2)) S8) (c9 : Ans (d + 8) 17 [.long ((3458764513820540928)), .int rb2] S8 (some (.long u4)) S9) (c10 : Ans (d + 8) 148 [.ref 46, .int (nI nt), .long u4, .long 0] S9 (some (.int rb3)) S10) : Bod (d + 8) 207 0 [(0, .ref 53), (1, .int (nI nt))] [] S (some (.int rb3)) (S10) := by
  refine Bod.go dc_207_0 rfl ?_
  refine Bod.get dc_207_1 fr_207_15 (mk_53 _) rfl ?_
  refine Bod.ic 1 (by decide) dc_207_4 ?_
  refine Bod.virt (r := []) dc_207_5 kr_207_70 ⟨Or.inr rfl, ow_132, cl_9⟩ (by rw [np_132]; rfl) (by rw [np_132]; rfl) (ob_of (mk_46 _)) (Nat.le_of_ble_eq_true rfl) (c1  ) ?_
  show Bod _ _ _ _ [_] _ _ _
  refine Bod.lstn dc_207_8 (by rw [ml_207]; exact Nat.le_of_ble_eq_true rfl) ?_
  refine Bod.go dc_207_9 rfl ?_
  refine Bod.get dc_207_10 fr_207_15 (mk_53 _) rfl ?_
  refine Bod.ic 0 (by decide) dc_207_13 ?_
  refine Bod.virt (r := []) dc_207_14 kr_207_70 ⟨Or.inr rfl, ow_132, cl_9⟩ (by rw [np_132]; rfl) (by rw [np_132]; rfl) (ob_of (mk_46 _)) (Nat.le_of_ble_eq_true rfl) (c2  ) ?_
  show Bod _ _ _ _ [_] _ _ _
  refine Bod.stat (r := []) dc_207_17 kr_207_74 (Or.inr rfl) (by rw [np_134]; rfl) (by rw [np_134]; rfl) (by rw [np_134]; exact Nat.le_of_ble_eq_true rfl) (Nat.le_of_ble_eq_true rfl) (c3  ) ?_
  show Bod _ _ _ _ [_] _ _ _
  refine Bod.ic 2 (by decide) dc_207_20 ?_
  refine Bod.icT dc_207_21 rfl (c2_eq_T w5) ?_
  refine Bod.go dc_207_26 rfl ?_
  refine Bod.get dc_207_27 fr_207_15 (mk_53 _) rfl ?_
  refine Bod.ic 0 (by decide) dc_207_30 ?_
  refine Bod.virt (r := []) dc_207_31 kr_207_111 ⟨Or.inr rfl, ow_135, cl_9⟩ (by rw [np_135]; rfl) (by rw [np_135]; rfl) (ob_of (mk_46 _)) (Nat.le_of_ble_eq_true rfl) (c4  ) ?_
  show Bod _ _ _ _ [_] _ _ _
  refine Bod.go dc_207_34 rfl ?_
  refine Bod.stat (r := [_]) dc_207_35 kr_207_116 (Or.inr rfl) (by rw [np_47]; rfl) (by rw [np_47]; rfl) (by rw [np_47]; exact Nat.le_of_ble_eq_true rfl) (Nat.le_of_ble_eq_true rfl) (c5  ) ?_
  show Bod _ _ _ _ [_, _] _ _ _
  refine Bod.stat (r := []) dc_207_38 kr_207_188 (Or.inl rfl) (by rw [np_208]; rfl) (by rw [np_208]; rfl) (by rw [np_208]; exact Nat.le_of_ble_eq_true rfl) (Nat.le_of_ble_eq_true rfl) (c6  ) ?_
  show Bod _ _ _ _ [_] _ _ _
  refine Bod.ist dc_207_41 (by rw [ml_207]; exact Nat.le_of_ble_eq_true rfl) ?_
  refine Bod.go dc_207_43 rfl ?_
  refine Bod.ifT dc_207_45 rfl w10 ?_
  refine Bod.go dc_207_52 rfl ?_
  refine Bod.get dc_207_53 fr_207_15 (mk_53 _) rfl ?_
  refine Bod.go dc_207_56 rfl ?_
  refine Bod.ldc2 dc_207_57 cj_207_195 ?_
  refine Bod.go dc_207_60 rfl ?_
  refine Bod.go dc_207_61 rfl ?_
  refine Bod.get dc_207_62 fr_207_15 (mk_53 _) rfl ?_
  refine Bod.ic 1 (by decide) dc_207_65 ?_
  refine Bod.virt (r := [_, _, _, _]) dc_207_66 kr_207_111 ⟨Or.inr rfl, ow_135, cl_9⟩ (by rw [np_135]; rfl) (by rw [np_135]; rfl) (ob_of (mk_46 _)) (Nat.le_of_ble_eq_true rfl) (c7  ) ?_
  show Bod _ _ _ _ [_, _, _, _, _] _ _ _
  refine Bod.go dc_207_69 rfl ?_
  refine Bod.stat (r := [_, _, _]) dc_207_71 kr_207_119 (Or.inr rfl) (by rw [np_193]; rfl) (by rw [np_193]; rfl) (by rw [np_193]; exact Nat.le_of_ble_eq_true rfl) (Nat.le_of_ble_eq_true rfl) (c8  ) ?_
  show Bod _ _ _ _ [_, _, _, _] _ _ _
  refine Bod.stat (r := [_, _]) dc_207_74 kr_207_127 (Or.inr rfl) (by rw [np_17]; rfl) (by rw [np_17]; rfl) (by rw [np_17]; exact Nat.le_of_ble_eq_true rfl) (Nat.le_of_ble_eq_true rfl) (c9  ) ?_
  show Bod _ _ _ _ [_, _, _] _ _ _
  refine Bod.go dc_207_77 rfl ?_
  refine Bod.virt (r := []) dc_207_78 kr_207_31 ⟨Or.inr rfl, ow_148, cl_9⟩ (by rw [np_148]; rfl) (by rw [np_148]; rfl) (ob_of (mk_46 _)) (Nat.le_of_ble_eq_true rfl) (c10  ) ?_
  show Bod _ _ _ _ [_] _ _ _
  exact Bod.retI dc_207_81 rt_207
theorem mIs_2 {d : Nat} {S : cS} {nt : Nat} {S1 : cS} {u : Int64} {S2 : cS} {u1 : Int64} {S3 : cS} {rb : Int32} {S4 : cS} {u2 : Int64} {S5 : cS} {a : Nat} {S6 : cS} {rb1 : Int32} (mnt : nt < 2 ^ 20) (c1 : Ans (d + 8) 132 [.ref 46, .int (nI 1)] S (some (.long u)) S1) (c2 : Ans (d + 8) 132 [.ref 46, .int (nI 0)] S1 (some (.long u1)) S2) (c3 : Ans (d + 8) 134 [.long u1] S2 (some (.int rb)) S3) (w5 : rb = nI 2) (c4 : Ans (d + 8) 135 [.ref 46, .int (nI 0)] S3 (some (.long u2)) S4) (ma : a < 2 ^ 20) (c5 : Ans (d + 8) 47 [.long u] S4 (some (.int (nI a))) S5) (c6 : Ans (d + 8) 208 [.long u2, .int (nI a)] S5 (some (.int rb1)) S6) (w10 : sm_c1 .ge rb1 true false = false) : Bod (d + 8) 207 0 [(0, .ref 53), (1, .int (nI nt))] [] S (some (.int (-rb1))) (S6) := by
  refine Bod.go dc_207_0 rfl ?_
  refine Bod.get dc_207_1 fr_207_15 (mk_53 _) rfl ?_
  refine Bod.ic 1 (by decide) dc_207_4 ?_
  refine Bod.virt (r := []) dc_207_5 kr_207_70 ⟨Or.inr rfl, ow_132, cl_9⟩ (by rw [np_132]; rfl) (by rw [np_132]; rfl) (ob_of (mk_46 _)) (Nat.le_of_ble_eq_true rfl) (c1  ) ?_
  show Bod _ _ _ _ [_] _ _ _
  refine Bod.lstn dc_207_8 (by rw [ml_207]; exact Nat.le_of_ble_eq_true rfl) ?_
  refine Bod.go dc_207_9 rfl ?_
  refine Bod.get dc_207_10 fr_207_15 (mk_53 _) rfl ?_
  refine Bod.ic 0 (by decide) dc_207_13 ?_
  refine Bod.virt (r := []) dc_207_14 kr_207_70 ⟨Or.inr rfl, ow_132, cl_9⟩ (by rw [np_132]; rfl) (by rw [np_132]; rfl) (ob_of (mk_46 _)) (Nat.le_of_ble_eq_true rfl) (c2  ) ?_
  show Bod _ _ _ _ [_] _ _ _
  refine Bod.stat (r := []) dc_207_17 kr_207_74 (Or.inr rfl) (by rw [np_134]; rfl) (by rw [np_134]; rfl) (by rw [np_134]; exact Nat.le_of_ble_eq_true rfl) (Nat.le_of_ble_eq_true rfl) (c3  ) ?_
  show Bod _ _ _ _ [_] _ _ _
  refine Bod.ic 2 (by decide) dc_207_20 ?_
  refine Bod.icT dc_207_21 rfl (c2_eq_T w5) ?_
  refine Bod.go dc_207_26 rfl ?_
  refine Bod.get dc_207_27 fr_207_15 (mk_53 _) rfl ?_
  refine Bod.ic 0 (by decide) dc_207_30 ?_
  refine Bod.virt (r := []) dc_207_31 kr_207_111 ⟨Or.inr rfl, ow_135, cl_9⟩ (by rw [np_135]; rfl) (by rw [np_135]; rfl) (ob_of (mk_46 _)) (Nat.le_of_ble_eq_true rfl) (c4  ) ?_
  show Bod _ _ _ _ [_] _ _ _
  refine Bod.go dc_207_34 rfl ?_
  refine Bod.stat (r := [_]) dc_207_35 kr_207_116 (Or.inr rfl) (by rw [np_47]; rfl) (by rw [np_47]; rfl) (by rw [np_47]; exact Nat.le_of_ble_eq_true rfl) (Nat.le_of_ble_eq_true rfl) (c5  ) ?_
  show Bod _ _ _ _ [_, _] _ _ _
  refine Bod.stat (r := []) dc_207_38 kr_207_188 (Or.inl rfl) (by rw [np_208]; rfl) (by rw [np_208]; rfl) (by rw [np_208]; exact Nat.le_of_ble_eq_true rfl) (Nat.le_of_ble_eq_true rfl) (c6  ) ?_
  show Bod _ _ _ _ [_] _ _ _
  refine Bod.ist dc_207_41 (by rw [ml_207]; exact Nat.le_of_ble_eq_true rfl) ?_
  refine Bod.go dc_207_43 rfl ?_
  refine Bod.ifF dc_207_45 rfl w10 ?_
  refine Bod.go dc_207_48 rfl ?_
  refine Bod.go dc_207_50 rfl ?_
  exact Bod.retI dc_207_51 rt_207
theorem mIs_3 {d : Nat} {S : cS} {nt : Nat} {S1 : cS} {u : Int64} {S2 : cS} {u1 : Int64} {S3 : cS} {rb : Int32} (mnt : nt < 2 ^ 20) (c1 : Ans (d + 8) 132 [.ref 46, .int (nI 1)] S (some (.long u)) S1) (c2 : Ans (d + 8) 132 [.ref 46, .int (nI 0)] S1 (some (.long u1)) S2) (c3 : Ans (d + 8) 134 [.long u1] S2 (some (.int rb)) S3) (w5 : rb ≠ nI 2) : Bod (d + 8) 207 0 [(0, .ref 53), (1, .int (nI nt))] [] S (some (.int (nI 2))) (S3) := by
  refine Bod.go dc_207_0 rfl ?_
  refine Bod.get dc_207_1 fr_207_15 (mk_53 _) rfl ?_
  refine Bod.ic 1 (by decide) dc_207_4 ?_
  refine Bod.virt (r := []) dc_207_5 kr_207_70 ⟨Or.inr rfl, ow_132, cl_9⟩ (by rw [np_132]; rfl) (by rw [np_132]; rfl) (ob_of (mk_46 _)) (Nat.le_of_ble_eq_true rfl) (c1  ) ?_
  show Bod _ _ _ _ [_] _ _ _
  refine Bod.lstn dc_207_8 (by rw [ml_207]; exact Nat.le_of_ble_eq_true rfl) ?_
  refine Bod.go dc_207_9 rfl ?_
  refine Bod.get dc_207_10 fr_207_15 (mk_53 _) rfl ?_
  refine Bod.ic 0 (by decide) dc_207_13 ?_
  refine Bod.virt (r := []) dc_207_14 kr_207_70 ⟨Or.inr rfl, ow_132, cl_9⟩ (by rw [np_132]; rfl) (by rw [np_132]; rfl) (ob_of (mk_46 _)) (Nat.le_of_ble_eq_true rfl) (c2  ) ?_
  show Bod _ _ _ _ [_] _ _ _
  refine Bod.stat (r := []) dc_207_17 kr_207_74 (Or.inr rfl) (by rw [np_134]; rfl) (by rw [np_134]; rfl) (by rw [np_134]; exact Nat.le_of_ble_eq_true rfl) (Nat.le_of_ble_eq_true rfl) (c3  ) ?_
  show Bod _ _ _ _ [_] _ _ _
  refine Bod.ic 2 (by decide) dc_207_20 ?_
  refine Bod.icF dc_207_21 rfl (c2_eq_F w5) ?_
  refine Bod.ic 2 (by decide) dc_207_24 ?_
  exact Bod.retI dc_207_25 rt_207
theorem mEn_1 {d : Nat} {S : cS} {xi : Int64} {sz : Nat} (msz : sz < 2 ^ 20) (w2 : sm_c1 .ge (lg_cmp xi 0) true false = true) (w3 : sm_c1 .lt (lg_cmp xi 0) true false = true) : Bod (d + 8) 208 0 [(0, .long xi), (2, .int (nI sz))] [] S (some (.int ((Int8.ofInt (-3)).toInt32))) (S) := by
  refine Bod.go dc_208_0 rfl ?_
  refine Bod.go dc_208_1 rfl ?_
  refine Bod.go dc_208_2 rfl ?_
  refine Bod.ifT dc_208_3 rfl w2 ?_
  refine Bod.go dc_208_13 rfl ?_
  refine Bod.lstn dc_208_14 (by rw [ml_208]; exact Nat.le_of_ble_eq_true rfl) ?_
  refine Bod.go dc_208_15 rfl ?_
  refine Bod.go dc_208_16 rfl ?_
  refine Bod.go dc_208_17 rfl ?_
  refine Bod.ifT dc_208_18 rfl w3 ?_
  refine Bod.go dc_208_28 rfl ?_
  refine Bod.go dc_208_30 rfl ?_
  exact Bod.retI dc_208_35 rt_208
theorem mEn_2 {d : Nat} {S : cS} {xi : Int64} {sz : Nat} (msz : sz < 2 ^ 20) (w2 : sm_c1 .ge (lg_cmp xi 0) true false = true) (w3 : sm_c1 .lt (lg_cmp xi 0) true false = false) (w4 : sm_c1 .lt (lg_cmp xi ((nI sz).toInt64)) true false = true) : Bod (d + 8) 208 0 [(0, .long xi), (2, .int (nI sz))] [] S (some (.int xi.toInt32)) (S) := by
  refine Bod.go dc_208_0 rfl ?_
  refine Bod.go dc_208_1 rfl ?_
  refine Bod.go dc_208_2 rfl ?_
  refine Bod.ifT dc_208_3 rfl w2 ?_
  refine Bod.go dc_208_13 rfl ?_
  refine Bod.lstn dc_208_14 (by rw [ml_208]; exact Nat.le_of_ble_eq_true rfl) ?_
  refine Bod.go dc_208_15 rfl ?_
  refine Bod.go dc_208_16 rfl ?_
  refine Bod.go dc_208_17 rfl ?_
  refine Bod.ifF dc_208_18 rfl w3 ?_
  refine Bod.go dc_208_21 rfl ?_
  refine Bod.go dc_208_22 rfl ?_
  refine Bod.go dc_208_23 rfl ?_
  refine Bod.go dc_208_24 rfl ?_
  refine Bod.ifT dc_208_25 rfl w4 ?_
  refine Bod.go dc_208_33 rfl ?_
  refine Bod.go dc_208_34 rfl ?_
  exact Bod.retI dc_208_35 rt_208
theorem mEn_3 {d : Nat} {S : cS} {xi : Int64} {sz : Nat} (msz : sz < 2 ^ 20) (w2 : sm_c1 .ge (lg_cmp xi 0) true false = true) (w3 : sm_c1 .lt (lg_cmp xi 0) true false = false) (w4 : sm_c1 .lt (lg_cmp xi ((nI sz).toInt64)) true false = false) : Bod (d + 8) 208 0 [(0, .long xi), (2, .int (nI sz))] [] S (some (.int ((Int8.ofInt (-3)).toInt32))) (S) := by
  refine Bod.go dc_208_0 rfl ?_
  refine Bod.go dc_208_1 rfl ?_
  refine Bod.go dc_208_2 rfl ?_
  refine Bod.ifT dc_208_3 rfl w2 ?_
  refine Bod.go dc_208_13 rfl ?_
  refine Bod.lstn dc_208_14 (by rw [ml_208]; exact Nat.le_of_ble_eq_true rfl) ?_
  refine Bod.go dc_208_15 rfl ?_
  refine Bod.go dc_208_16 rfl ?_
  refine Bod.go dc_208_17 rfl ?_
  refine Bod.ifF dc_208_18 rfl w3 ?_
  refine Bod.go dc_208_21 rfl ?_
  refine Bod.go dc_208_22 rfl ?_
  refine Bod.go dc_208_23 rfl ?_
  refine Bod.go dc_208_24 rfl ?_
  refine Bod.ifF dc_208_25 rfl w4 ?_
  refine Bod.go dc_208_28 rfl ?_
  refine Bod.go dc_208_30 rfl ?_
  exact Bod.retI dc_208_35 rt_208
theorem mEn_4 {d : Nat} {S : cS} {xi : Int64} {sz : Nat} (msz : sz < 2 ^ 20) (w2 : sm_c1 .ge (lg_cmp xi 0) true false = false) (w3 : sm_c1 .lt (lg_cmp (xi + ((nI sz).toInt64)) 0) true false = true) : Bod (d + 8) 208 0 [(0, .long xi), (2, .int (nI sz))] [] S (some (.int ((Int8.ofInt (-3)).toInt32))) (S) := by
  refine Bod.go dc_208_0 rfl ?_
  refine Bod.go dc_208_1 rfl ?_
  refine Bod.go dc_208_2 rfl ?_
  refine Bod.ifF dc_208_3 rfl w2 ?_
  refine Bod.go dc_208_6 rfl ?_
  refine Bod.go dc_208_7 rfl ?_
  refine Bod.go dc_208_8 rfl ?_
  refine Bod.go dc_208_9 rfl ?_
  refine Bod.go dc_208_10 rfl ?_
  refine Bod.lstn dc_208_14 (by rw [ml_208]; exact Nat.le_of_ble_eq_true rfl) ?_
  refine Bod.go dc_208_15 rfl ?_
  refine Bod.go dc_208_16 rfl ?_
  refine Bod.go dc_208_17 rfl ?_
  refine Bod.ifT dc_208_18 rfl w3 ?_
  refine Bod.go dc_208_28 rfl ?_
  refine Bod.go dc_208_30 rfl ?_
  exact Bod.retI dc_208_35 rt_208
theorem mEn_5 {d : Nat} {S : cS} {xi : Int64} {sz : Nat} (msz : sz < 2 ^ 20) (w2 : sm_c1 .ge (lg_cmp xi 0) true false = false) (w3 : sm_c1 .lt (lg_cmp (xi + ((nI sz).toInt64)) 0) true false = false) (w4 : sm_c1 .lt (lg_cmp (xi + ((nI sz).toInt64)) ((nI sz).toInt64)) true false = true) : Bod (d + 8) 208 0 [(0, .long xi), (2, .int (nI sz))] [] S (some (.int ((xi + ((nI sz).toInt64)).toInt32))) (S) := by
  refine Bod.go dc_208_0 rfl ?_
  refine Bod.go dc_208_1 rfl ?_
  refine Bod.go dc_208_2 rfl ?_
  refine Bod.ifF dc_208_3 rfl w2 ?_
  refine Bod.go dc_208_6 rfl ?_
  refine Bod.go dc_208_7 rfl ?_
  refine Bod.go dc_208_8 rfl ?_
  refine Bod.go dc_208_9 rfl ?_
  refine Bod.go dc_208_10 rfl ?_
  refine Bod.lstn dc_208_14 (by rw [ml_208]; exact Nat.le_of_ble_eq_true rfl) ?_
  refine Bod.go dc_208_15 rfl ?_
  refine Bod.go dc_208_16 rfl ?_
  refine Bod.go dc_208_17 rfl ?_
  refine Bod.ifF dc_208_18 rfl w3 ?_
  refine Bod.go dc_208_21 rfl ?_
  refine Bod.go dc_208_22 rfl ?_
  refine Bod.go dc_208_23 rfl ?_
  refine Bod.go dc_208_24 rfl ?_
  refine Bod.ifT dc_208_25 rfl w4 ?_
  refine Bod.go dc_208_33 rfl ?_
  refine Bod.go dc_208_34 rfl ?_
  exact Bod.retI dc_208_35 rt_208
theorem mEn_6 {d : Nat} {S : cS} {xi : Int64} {sz : Nat} (msz : sz < 2 ^ 20) (w2 : sm_c1 .ge (lg_cmp xi 0) true false = false) (w3 : sm_c1 .lt (lg_cmp (xi + ((nI sz).toInt64)) 0) true false = false) (w4 : sm_c1 .lt (lg_cmp (xi + ((nI sz).toInt64)) ((nI sz).toInt64)) true false = false) : Bod (d + 8) 208 0 [(0, .long xi), (2, .int (nI sz))] [] S (some (.int ((Int8.ofInt (-3)).toInt32))) (S) := by
  refine Bod.go dc_208_0 rfl ?_
  refine Bod.go dc_208_1 rfl ?_
  refine Bod.go dc_208_2 rfl ?_
  refine Bod.ifF dc_208_3 rfl w2 ?_
  refine Bod.go dc_208_6 rfl ?_
  refine Bod.go dc_208_7 rfl ?_
  refine Bod.go dc_208_8 rfl ?_
  refine Bod.go dc_208_9 rfl ?_
  refine Bod.go dc_208_10 rfl ?_
  refine Bod.lstn dc_208_14 (by rw [ml_208]; exact Nat.le_of_ble_eq_true rfl) ?_
  refine Bod.go dc_208_15 rfl ?_
  refine Bod.go dc_208_16 rfl ?_
  refine Bod.go dc_208_17 rfl ?_
  refine Bod.ifF dc_208_18 rfl w3 ?_
  refine Bod.go dc_208_21 rfl ?_
  refine Bod.go dc_208_22 rfl ?_
  refine Bod.go dc_208_23 rfl ?_
  refine Bod.go dc_208_24 rfl ?_
  refine Bod.ifF dc_208_25 rfl w4 ?_
  refine Bod.go dc_208_28 rfl ?_
  refine Bod.go dc_208_30 rfl ?_
  exact Bod.retI dc_208_35 rt_208
theorem mLo_1 {d : Nat} {S : cS} {ob : Nat} {kb : Nat} {S1 : cS} {a : Nat} {S2 : cS} {u : Int64} {S3 : cS} {u1 : Int64} {S4 : cS} {a1 : Nat} {S5 : cS} {a2 : Nat} (mob : ob < 2 ^ 20) (mkb : kb < 2 ^ 20) (ma : a < 2 ^ 20) (c1 : Ans (d + 8) 136 [.ref 46, .int (nI ob)] S (some (.int (nI a))) S1) (c2 : Ans (d + 8) 132 [.ref 46, .int (nI kb)] S1 (some (.long u)) S2) (c3 : Ans (d + 8) 135 [.ref 46, .int (nI kb)] S2 (some (.long u1)) S3) (ma1 : a1 < 2 ^ 20) (c4 : Ans (d + 8) 138 [.ref 2, .int (nI a)] S3 (some (.int (nI a1))) S4) (b1 : a1 ≠ 1) (ma2 : a2 < 2 ^ 20) (c5 : Ans (d + 8) 138 [.ref 2, .int (nI a)] S4 (some (.int (nI a2))) S5) (b2 : a2 ≠ 2) : Bod (d + 8) 210 0 [(0, .ref 53), (1, .int (nI ob)), (2, .int (nI kb))] [] S (some (.int ((Int8.ofInt (-2)).toInt32))) (S5) := by
  refine Bod.go dc_210_0 rfl ?_
  refine Bod.get dc_210_1 fr_210_15 (mk_53 _) rfl ?_
  refine Bod.go dc_210_4 rfl ?_
  refine Bod.virt (r := []) dc_210_5 kr_210_169 ⟨Or.inr rfl, ow_136, cl_9⟩ (by rw [np_136]; rfl) (by rw [np_136]; rfl) (ob_of (mk_46 _)) (Nat.le_of_ble_eq_true rfl) (c1  ) ?_
  show Bod _ _ _ _ [_] _ _ _
  refine Bod.istn dc_210_8 (by rw [ml_210]; exact Nat.le_of_ble_eq_true rfl) ?_
  refine Bod.go dc_210_9 rfl ?_
  refine Bod.get dc_210_10 fr_210_15 (mk_53 _) rfl ?_
  refine Bod.go dc_210_13 rfl ?_
  refine Bod.virt (r := []) dc_210_14 kr_210_70 ⟨Or.inr rfl, ow_132, cl_9⟩ (by rw [np_132]; rfl) (by rw [np_132]; rfl) (ob_of (mk_46 _)) (Nat.le_of_ble_eq_true rfl) (c2  ) ?_
  show Bod _ _ _ _ [_] _ _ _
  refine Bod.lst dc_210_17 (by rw [ml_210]; exact Nat.le_of_ble_eq_true rfl) ?_
  refine Bod.go dc_210_19 rfl ?_
  refine Bod.get dc_210_20 fr_210_15 (mk_53 _) rfl ?_
  refine Bod.go dc_210_23 rfl ?_
  refine Bod.virt (r := []) dc_210_24 kr_210_111 ⟨Or.inr rfl, ow_135, cl_9⟩ (by rw [np_135]; rfl) (by rw [np_135]; rfl) (ob_of (mk_46 _)) (Nat.le_of_ble_eq_true rfl) (c3  ) ?_
  show Bod _ _ _ _ [_] _ _ _
  refine Bod.lst dc_210_27 (by rw [ml_210]; exact Nat.le_of_ble_eq_true rfl) ?_
  refine Bod.go dc_210_29 rfl ?_
  refine Bod.get dc_210_30 fr_210_9 (mk_53 _) rfl ?_
  refine Bod.go dc_210_33 rfl ?_
  refine Bod.virt (r := []) dc_210_34 kr_210_171 ⟨Or.inr rfl, ow_138, cl_2⟩ (by rw [np_138]; rfl) (by rw [np_138]; rfl) (ob_of (mk_2 _)) (Nat.le_of_ble_eq_true rfl) (c4  ) ?_
  show Bod _ _ _ _ [_] _ _ _
  refine Bod.ic 1 (by decide) dc_210_37 ?_
  refine Bod.icT dc_210_38 rfl (k2_ne_T (k_ne a1 1 rfl rfl (by omega) (by omega) (by omega))) ?_
  refine Bod.go dc_210_69 rfl ?_
  refine Bod.get dc_210_70 fr_210_9 (mk_53 _) rfl ?_
  refine Bod.go dc_210_73 rfl ?_
  refine Bod.virt (r := []) dc_210_74 kr_210_171 ⟨Or.inr rfl, ow_138, cl_2⟩ (by rw [np_138]; rfl) (by rw [np_138]; rfl) (ob_of (mk_2 _)) (Nat.le_of_ble_eq_true rfl) (c5  ) ?_
  show Bod _ _ _ _ [_] _ _ _
  refine Bod.ic 2 (by decide) dc_210_77 ?_
  refine Bod.icT dc_210_78 rfl (k2_ne_T (k_ne a2 2 rfl rfl (by omega) (by omega) (by omega))) ?_
  refine Bod.go dc_210_89 rfl ?_
  exact Bod.retI dc_210_91 rt_210
theorem mLo_2 {d : Nat} {S : cS} {ob : Nat} {kb : Nat} {S1 : cS} {a : Nat} {S2 : cS} {u : Int64} {S3 : cS} {u1 : Int64} {S4 : cS} {a1 : Nat} {S5 : cS} {a2 : Nat} {S6 : cS} {S7 : cS} {rb : Int32} (mob : ob < 2 ^ 20) (mkb : kb < 2 ^ 20) (ma : a < 2 ^ 20) (c1 : Ans (d + 8) 136 [.ref 46, .int (nI ob)] S (some (.int (nI a))) S1) (c2 : Ans (d + 8) 132 [.ref 46, .int (nI kb)] S1 (some (.long u)) S2) (c3 : Ans (d + 8) 135 [.ref 46, .int (nI kb)] S2 (some (.long u1)) S3) (ma1 : a1 < 2 ^ 20) (c4 : Ans (d + 8) 138 [.ref 2, .int (nI a)] S3 (some (.int (nI a1))) S4) (b1 : a1 ≠ 1) (ma2 : a2 < 2 ^ 20) (c5 : Ans (d + 8) 138 [.ref 2, .int (nI a)] S4 (some (.int (nI a2))) S5) (b2 : a2 = 2) (c6 : Ans (d + 8) 205 [.long u] S5 (some (.int (nI 1))) S6) (c7 : Ans (d + 8) 206 [.ref 2, .int (nI a), .long u, .long u1] S6 (some (.int rb)) S7) (w15 : sm_c1 .ge rb true false = true) : Bod (d + 8) 210 0 [(0, .ref 53), (1, .int (nI ob)), (2, .int (nI kb))] [] S (some (.int rb)) (S7) := by
  refine Bod.go dc_210_0 rfl ?_
  refine Bod.get dc_210_1 fr_210_15 (mk_53 _) rfl ?_
  refine Bod.go dc_210_4 rfl ?_
  refine Bod.virt (r := []) dc_210_5 kr_210_169 ⟨Or.inr rfl, ow_136, cl_9⟩ (by rw [np_136]; rfl) (by rw [np_136]; rfl) (ob_of (mk_46 _)) (Nat.le_of_ble_eq_true rfl) (c1  ) ?_
  show Bod _ _ _ _ [_] _ _ _
  refine Bod.istn dc_210_8 (by rw [ml_210]; exact Nat.le_of_ble_eq_true rfl) ?_
  refine Bod.go dc_210_9 rfl ?_
  refine Bod.get dc_210_10 fr_210_15 (mk_53 _) rfl ?_
  refine Bod.go dc_210_13 rfl ?_
  refine Bod.virt (r := []) dc_210_14 kr_210_70 ⟨Or.inr rfl, ow_132, cl_9⟩ (by rw [np_132]; rfl) (by rw [np_132]; rfl) (ob_of (mk_46 _)) (Nat.le_of_ble_eq_true rfl) (c2  ) ?_
  show Bod _ _ _ _ [_] _ _ _
  refine Bod.lst dc_210_17 (by rw [ml_210]; exact Nat.le_of_ble_eq_true rfl) ?_
  refine Bod.go dc_210_19 rfl ?_
  refine Bod.get dc_210_20 fr_210_15 (mk_53 _) rfl ?_
  refine Bod.go dc_210_23 rfl ?_
  refine Bod.virt (r := []) dc_210_24 kr_210_111 ⟨Or.inr rfl, ow_135, cl_9⟩ (by rw [np_135]; rfl) (by rw [np_135]; rfl) (ob_of (mk_46 _)) (Nat.le_of_ble_eq_true rfl) (c3  ) ?_
  show Bod _ _ _ _ [_] _ _ _
  refine Bod.lst dc_210_27 (by rw [ml_210]; exact Nat.le_of_ble_eq_true rfl) ?_
  refine Bod.go dc_210_29 rfl ?_
  refine Bod.get dc_210_30 fr_210_9 (mk_53 _) rfl ?_
  refine Bod.go dc_210_33 rfl ?_
  refine Bod.virt (r := []) dc_210_34 kr_210_171 ⟨Or.inr rfl, ow_138, cl_2⟩ (by rw [np_138]; rfl) (by rw [np_138]; rfl) (ob_of (mk_2 _)) (Nat.le_of_ble_eq_true rfl) (c4  ) ?_
  show Bod _ _ _ _ [_] _ _ _
  refine Bod.ic 1 (by decide) dc_210_37 ?_
  refine Bod.icT dc_210_38 rfl (k2_ne_T (k_ne a1 1 rfl rfl (by omega) (by omega) (by omega))) ?_
  refine Bod.go dc_210_69 rfl ?_
  refine Bod.get dc_210_70 fr_210_9 (mk_53 _) rfl ?_
  refine Bod.go dc_210_73 rfl ?_
  refine Bod.virt (r := []) dc_210_74 kr_210_171 ⟨Or.inr rfl, ow_138, cl_2⟩ (by rw [np_138]; rfl) (by rw [np_138]; rfl) (ob_of (mk_2 _)) (Nat.le_of_ble_eq_true rfl) (c5  ) ?_
  show Bod _ _ _ _ [_] _ _ _
  refine Bod.ic 2 (by decide) dc_210_77 ?_
  refine Bod.icF dc_210_78 rfl (k2_ne_F (k_eq a2 2 rfl rfl (by omega))) ?_
  refine Bod.go dc_210_81 rfl ?_
  refine Bod.stat (r := []) dc_210_83 kr_210_174 (Or.inr rfl) (by rw [np_205]; rfl) (by rw [np_205]; rfl) (by rw [np_205]; exact Nat.le_of_ble_eq_true rfl) (Nat.le_of_ble_eq_true rfl) (c6  ) ?_
  show Bod _ _ _ _ [_] _ _ _
  refine Bod.ifT dc_210_86 rfl (k1_ne_T (k_ne 1 0 rfl rfl (by omega) (by omega) (by omega))) ?_
  refine Bod.go dc_210_92 rfl ?_
  refine Bod.get dc_210_93 fr_210_9 (mk_53 _) rfl ?_
  refine Bod.go dc_210_96 rfl ?_
  refine Bod.go dc_210_97 rfl ?_
  refine Bod.go dc_210_99 rfl ?_
  refine Bod.virt (r := []) dc_210_101 kr_210_178 ⟨Or.inr rfl, ow_206, cl_2⟩ (by rw [np_206]; rfl) (by rw [np_206]; rfl) (ob_of (mk_2 _)) (Nat.le_of_ble_eq_true rfl) (c7  ) ?_
  show Bod _ _ _ _ [_] _ _ _
  refine Bod.ist dc_210_104 (by rw [ml_210]; exact Nat.le_of_ble_eq_true rfl) ?_
  refine Bod.go dc_210_106 rfl ?_
  refine Bod.ifT dc_210_108 rfl w15 ?_
  refine Bod.go dc_210_116 rfl ?_
  exact Bod.retI dc_210_118 rt_210
theorem mLo_3 {d : Nat} {S : cS} {ob : Nat} {kb : Nat} {S1 : cS} {a : Nat} {S2 : cS} {u : Int64} {S3 : cS} {u1 : Int64} {S4 : cS} {a1 : Nat} {S5 : cS} {a2 : Nat} {S6 : cS} {S7 : cS} {rb : Int32} (mob : ob < 2 ^ 20) (mkb : kb < 2 ^ 20) (ma : a < 2 ^ 20) (c1 : Ans (d + 8) 136 [.ref 46, .int (nI ob)] S (some (.int (nI a))) S1) (c2 : Ans (d + 8) 132 [.ref 46, .int (nI kb)] S1 (some (.long u)) S2) (c3 : Ans (d + 8) 135 [.ref 46, .int (nI kb)] S2 (some (.long u1)) S3) (ma1 : a1 < 2 ^ 20) (c4 : Ans (d + 8) 138 [.ref 2, .int (nI a)] S3 (some (.int (nI a1))) S4) (b1 : a1 ≠ 1) (ma2 : a2 < 2 ^ 20) (c5 : Ans (d + 8) 138 [.ref 2, .int (nI a)] S4 (some (.int (nI a2))) S5) (b2 : a2 = 2) (c6 : Ans (d + 8) 205 [.long u] S5 (some (.int (nI 1))) S6) (c7 : Ans (d + 8) 206 [.ref 2, .int (nI a), .long u, .long u1] S6 (some (.int rb)) S7) (w15 : sm_c1 .ge rb true false = false) : Bod (d + 8) 210 0 [(0, .ref 53), (1, .int (nI ob)), (2, .int (nI kb))] [] S (some (.int ((Int8.ofInt (-4)).toInt32))) (S7) := by
  refine Bod.go dc_210_0 rfl ?_
  refine Bod.get dc_210_1 fr_210_15 (mk_53 _) rfl ?_
  refine Bod.go dc_210_4 rfl ?_
  refine Bod.virt (r := []) dc_210_5 kr_210_169 ⟨Or.inr rfl, ow_136, cl_9⟩ (by rw [np_136]; rfl) (by rw [np_136]; rfl) (ob_of (mk_46 _)) (Nat.le_of_ble_eq_true rfl) (c1  ) ?_
  show Bod _ _ _ _ [_] _ _ _
  refine Bod.istn dc_210_8 (by rw [ml_210]; exact Nat.le_of_ble_eq_true rfl) ?_
  refine Bod.go dc_210_9 rfl ?_
  refine Bod.get dc_210_10 fr_210_15 (mk_53 _) rfl ?_
  refine Bod.go dc_210_13 rfl ?_
  refine Bod.virt (r := []) dc_210_14 kr_210_70 ⟨Or.inr rfl, ow_132, cl_9⟩ (by rw [np_132]; rfl) (by rw [np_132]; rfl) (ob_of (mk_46 _)) (Nat.le_of_ble_eq_true rfl) (c2  ) ?_
  show Bod _ _ _ _ [_] _ _ _
  refine Bod.lst dc_210_17 (by rw [ml_210]; exact Nat.le_of_ble_eq_true rfl) ?_
  refine Bod.go dc_210_19 rfl ?_
  refine Bod.get dc_210_20 fr_210_15 (mk_53 _) rfl ?_
  refine Bod.go dc_210_23 rfl ?_
  refine Bod.virt (r := []) dc_210_24 kr_210_111 ⟨Or.inr rfl, ow_135, cl_9⟩ (by rw [np_135]; rfl) (by rw [np_135]; rfl) (ob_of (mk_46 _)) (Nat.le_of_ble_eq_true rfl) (c3  ) ?_
  show Bod _ _ _ _ [_] _ _ _
  refine Bod.lst dc_210_27 (by rw [ml_210]; exact Nat.le_of_ble_eq_true rfl) ?_
  refine Bod.go dc_210_29 rfl ?_
  refine Bod.get dc_210_30 fr_210_9 (mk_53 _) rfl ?_
  refine Bod.go dc_210_33 rfl ?_
  refine Bod.virt (r := []) dc_210_34 kr_210_171 ⟨Or.inr rfl, ow_138, cl_2⟩ (by rw [np_138]; rfl) (by rw [np_138]; rfl) (ob_of (mk_2 _)) (Nat.le_of_ble_eq_true rfl) (c4  ) ?_
  show Bod _ _ _ _ [_] _ _ _
  refine Bod.ic 1 (by decide) dc_210_37 ?_
  refine Bod.icT dc_210_38 rfl (k2_ne_T (k_ne a1 1 rfl rfl (by omega) (by omega) (by omega))) ?_
  refine Bod.go dc_210_69 rfl ?_
  refine Bod.get dc_210_70 fr_210_9 (mk_53 _) rfl ?_
  refine Bod.go dc_210_73 rfl ?_
  refine Bod.virt (r := []) dc_210_74 kr_210_171 ⟨Or.inr rfl, ow_138, cl_2⟩ (by rw [np_138]; rfl) (by rw [np_138]; rfl) (ob_of (mk_2 _)) (Nat.le_of_ble_eq_true rfl) (c5  ) ?_
  show Bod _ _ _ _ [_] _ _ _
  refine Bod.ic 2 (by decide) dc_210_77 ?_
  refine Bod.icF dc_210_78 rfl (k2_ne_F (k_eq a2 2 rfl rfl (by omega))) ?_
  refine Bod.go dc_210_81 rfl ?_
  refine Bod.stat (r := []) dc_210_83 kr_210_174 (Or.inr rfl) (by rw [np_205]; rfl) (by rw [np_205]; rfl) (by rw [np_205]; exact Nat.le_of_ble_eq_true rfl) (Nat.le_of_ble_eq_true rfl) (c6  ) ?_
  show Bod _ _ _ _ [_] _ _ _
  refine Bod.ifT dc_210_86 rfl (k1_ne_T (k_ne 1 0 rfl rfl (by omega) (by omega) (by omega))) ?_
  refine Bod.go dc_210_92 rfl ?_
  refine Bod.get dc_210_93 fr_210_9 (mk_53 _) rfl ?_
  refine Bod.go dc_210_96 rfl ?_
  refine Bod.go dc_210_97 rfl ?_
  refine Bod.go dc_210_99 rfl ?_
  refine Bod.virt (r := []) dc_210_101 kr_210_178 ⟨Or.inr rfl, ow_206, cl_2⟩ (by rw [np_206]; rfl) (by rw [np_206]; rfl) (ob_of (mk_2 _)) (Nat.le_of_ble_eq_true rfl) (c7  ) ?_
  show Bod _ _ _ _ [_] _ _ _
  refine Bod.ist dc_210_104 (by rw [ml_210]; exact Nat.le_of_ble_eq_true rfl) ?_
  refine Bod.go dc_210_106 rfl ?_
  refine Bod.ifF dc_210_108 rfl w15 ?_
  refine Bod.go dc_210_111 rfl ?_
  refine Bod.go dc_210_113 rfl ?_
  exact Bod.retI dc_210_118 rt_210
theorem mLo_4 {d : Nat} {S : cS} {ob : Nat} {kb : Nat} {S1 : cS} {a : Nat} {S2 : cS} {u : Int64} {S3 : cS} {u1 : Int64} {S4 : cS} {a1 : Nat} {S5 : cS} {a2 : Nat} {S6 : cS} (mob : ob < 2 ^ 20) (mkb : kb < 2 ^ 20) (ma : a < 2 ^ 20) (c1 : Ans (d + 8) 136 [.ref 46, .int (nI ob)] S (some (.int (nI a))) S1) (c2 : Ans (d + 8) 132 [.ref 46, .int (nI kb)] S1 (some (.long u)) S2) (c3 : Ans (d + 8) 135 [.ref 46, .int (nI kb)] S2 (some (.long u1)) S3) (ma1 : a1 < 2 ^ 20) (c4 : Ans (d + 8) 138 [.ref 2, .int (nI a)] S3 (some (.int (nI a1))) S4) (b1 : a1 ≠ 1) (ma2 : a2 < 2 ^ 20) (c5 : Ans (d + 8) 138 [.ref 2, .int (nI a)] S4 (some (.int (nI a2))) S5) (b2 : a2 = 2) (c6 : Ans (d + 8) 205 [.long u] S5 (some (.int (nI 0))) S6) : Bod (d + 8) 210 0 [(0, .ref 53), (1, .int (nI ob)), (2, .int (nI kb))] [] S (some (.int ((Int8.ofInt (-2)).toInt32))) (S6) := by
  refine Bod.go dc_210_0 rfl ?_
  refine Bod.get dc_210_1 fr_210_15 (mk_53 _) rfl ?_
  refine Bod.go dc_210_4 rfl ?_
  refine Bod.virt (r := []) dc_210_5 kr_210_169 ⟨Or.inr rfl, ow_136, cl_9⟩ (by rw [np_136]; rfl) (by rw [np_136]; rfl) (ob_of (mk_46 _)) (Nat.le_of_ble_eq_true rfl) (c1  ) ?_
  show Bod _ _ _ _ [_] _ _ _
  refine Bod.istn dc_210_8 (by rw [ml_210]; exact Nat.le_of_ble_eq_true rfl) ?_
  refine Bod.go dc_210_9 rfl ?_
  refine Bod.get dc_210_10 fr_210_15 (mk_53 _) rfl ?_
  refine Bod.go dc_210_13 rfl ?_
  refine Bod.virt (r := []) dc_210_14 kr_210_70 ⟨Or.inr rfl, ow_132, cl_9⟩ (by rw [np_132]; rfl) (by rw [np_132]; rfl) (ob_of (mk_46 _)) (Nat.le_of_ble_eq_true rfl) (c2  ) ?_
  show Bod _ _ _ _ [_] _ _ _
  refine Bod.lst dc_210_17 (by rw [ml_210]; exact Nat.le_of_ble_eq_true rfl) ?_
  refine Bod.go dc_210_19 rfl ?_
  refine Bod.get dc_210_20 fr_210_15 (mk_53 _) rfl ?_
  refine Bod.go dc_210_23 rfl ?_
  refine Bod.virt (r := []) dc_210_24 kr_210_111 ⟨Or.inr rfl, ow_135, cl_9⟩ (by rw [np_135]; rfl) (by rw [np_135]; rfl) (ob_of (mk_46 _)) (Nat.le_of_ble_eq_true rfl) (c3  ) ?_
  show Bod _ _ _ _ [_] _ _ _
  refine Bod.lst dc_210_27 (by rw [ml_210]; exact Nat.le_of_ble_eq_true rfl) ?_
  refine Bod.go dc_210_29 rfl ?_
  refine Bod.get dc_210_30 fr_210_9 (mk_53 _) rfl ?_
  refine Bod.go dc_210_33 rfl ?_
  refine Bod.virt (r := []) dc_210_34 kr_210_171 ⟨Or.inr rfl, ow_138, cl_2⟩ (by rw [np_138]; rfl) (by rw [np_138]; rfl) (ob_of (mk_2 _)) (Nat.le_of_ble_eq_true rfl) (c4  ) ?_
  show Bod _ _ _ _ [_] _ _ _
  refine Bod.ic 1 (by decide) dc_210_37 ?_
  refine Bod.icT dc_210_38 rfl (k2_ne_T (k_ne a1 1 rfl rfl (by omega) (by omega) (by omega))) ?_
  refine Bod.go dc_210_69 rfl ?_
  refine Bod.get dc_210_70 fr_210_9 (mk_53 _) rfl ?_
  refine Bod.go dc_210_73 rfl ?_
  refine Bod.virt (r := []) dc_210_74 kr_210_171 ⟨Or.inr rfl, ow_138, cl_2⟩ (by rw [np_138]; rfl) (by rw [np_138]; rfl) (ob_of (mk_2 _)) (Nat.le_of_ble_eq_true rfl) (c5  ) ?_
  show Bod _ _ _ _ [_] _ _ _
  refine Bod.ic 2 (by decide) dc_210_77 ?_
  refine Bod.icF dc_210_78 rfl (k2_ne_F (k_eq a2 2 rfl rfl (by omega))) ?_
  refine Bod.go dc_210_81 rfl ?_
  refine Bod.stat (r := []) dc_210_83 kr_210_174 (Or.inr rfl) (by rw [np_205]; rfl) (by rw [np_205]; rfl) (by rw [np_205]; exact Nat.le_of_ble_eq_true rfl) (Nat.le_of_ble_eq_true rfl) (c6  ) ?_
  show Bod _ _ _ _ [_] _ _ _
  refine Bod.ifF dc_210_86 rfl (k1_ne_F (k_eq 0 0 rfl rfl (by omega))) ?_
  refine Bod.go dc_210_89 rfl ?_
  exact Bod.retI dc_210_91 rt_210
theorem mLo_5 {d : Nat} {S : cS} {ob : Nat} {kb : Nat} {S1 : cS} {a : Nat} {S2 : cS} {u : Int64} {S3 : cS} {u1 : Int64} {S4 : cS} {a1 : Nat} {S5 : cS} {rb : Int32} {S6 : cS} {a2 : Nat} {S7 : cS} {rb1 : Int32} (mob : ob < 2 ^ 20) (mkb : kb < 2 ^ 20) (ma : a < 2 ^ 20) (c1 : Ans (d + 8) 136 [.ref 46, .int (nI ob)] S (some (.int (nI a))) S1) (c2 : Ans (d + 8) 132 [.ref 46, .int (nI kb)] S1 (some (.long u)) S2) (c3 : Ans (d + 8) 135 [.ref 46, .int (nI kb)] S2 (some (.long u1)) S3) (ma1 : a1 < 2 ^ 20) (c4 : Ans (d + 8) 138 [.ref 2, .int (nI a)] S3 (some (.int (nI a1))) S4) (b1 : a1 = 1) (c5 : Ans (d + 8) 134 [.long u] S4 (some (.int rb)) S5) (w11 : rb = nI 2) (ma2 : a2 < 2 ^ 20) (c6 : Ans (d + 8) 140 [.ref 2, .int (nI a)] S5 (some (.int (nI a2))) S6) (c7 : Ans (d + 8) 208 [.long u1, .int (nI a2)] S6 (some (.int rb1)) S7) : Bod (d + 8) 210 0 [(0, .ref 53), (1, .int (nI ob)), (2, .int (nI kb))] [] S (some (.int rb1)) (S7) := by
  refine Bod.go dc_210_0 rfl ?_
  refine Bod.get dc_210_1 fr_210_15 (mk_53 _) rfl ?_
  refine Bod.go dc_210_4 rfl ?_
  refine Bod.virt (r := []) dc_210_5 kr_210_169 ⟨Or.inr rfl, ow_136, cl_9⟩ (by rw [np_136]; rfl) (by rw [np_136]; rfl) (ob_of (mk_46 _)) (Nat.le_of_ble_eq_true rfl) (c1  ) ?_
  show Bod _ _ _ _ [_] _ _ _
  refine Bod.istn dc_210_8 (by rw [ml_210]; exact Nat.le_of_ble_eq_true rfl) ?_
  refine Bod.go dc_210_9 rfl ?_
  refine Bod.get dc_210_10 fr_210_15 (mk_53 _) rfl ?_
  refine Bod.go dc_210_13 rfl ?_
  refine Bod.virt (r := []) dc_210_14 kr_210_70 ⟨Or.inr rfl, ow_132, cl_9⟩ (by rw [np_132]; rfl) (by rw [np_132]; rfl) (ob_of (mk_46 _)) (Nat.le_of_ble_eq_true rfl) (c2  ) ?_
  show Bod _ _ _ _ [_] _ _ _
  refine Bod.lst dc_210_17 (by rw [ml_210]; exact Nat.le_of_ble_eq_true rfl) ?_
  refine Bod.go dc_210_19 rfl ?_
  refine Bod.get dc_210_20 fr_210_15 (mk_53 _) rfl ?_
  refine Bod.go dc_210_23 rfl ?_
  refine Bod.virt (r := []) dc_210_24 kr_210_111 ⟨Or.inr rfl, ow_135, cl_9⟩ (by rw [np_135]; rfl) (by rw [np_135]; rfl) (ob_of (mk_46 _)) (Nat.le_of_ble_eq_true rfl) (c3  ) ?_
  show Bod _ _ _ _ [_] _ _ _
  refine Bod.lst dc_210_27 (by rw [ml_210]; exact Nat.le_of_ble_eq_true rfl) ?_
  refine Bod.go dc_210_29 rfl ?_
  refine Bod.get dc_210_30 fr_210_9 (mk_53 _) rfl ?_
  refine Bod.go dc_210_33 rfl ?_
  refine Bod.virt (r := []) dc_210_34 kr_210_171 ⟨Or.inr rfl, ow_138, cl_2⟩ (by rw [np_138]; rfl) (by rw [np_138]; rfl) (ob_of (mk_2 _)) (Nat.le_of_ble_eq_true rfl) (c4  ) ?_
  show Bod _ _ _ _ [_] _ _ _
  refine Bod.ic 1 (by decide) dc_210_37 ?_
  refine Bod.icF dc_210_38 rfl (k2_ne_F (k_eq a1 1 rfl rfl (by omega))) ?_
  refine Bod.go dc_210_41 rfl ?_
  refine Bod.stat (r := []) dc_210_43 kr_210_74 (Or.inr rfl) (by rw [np_134]; rfl) (by rw [np_134]; rfl) (by rw [np_134]; exact Nat.le_of_ble_eq_true rfl) (Nat.le_of_ble_eq_true rfl) (c5  ) ?_
  show Bod _ _ _ _ [_] _ _ _
  refine Bod.ic 2 (by decide) dc_210_46 ?_
  refine Bod.icF dc_210_47 rfl (c2_ne_F w11) ?_
  refine Bod.go dc_210_50 rfl ?_
  refine Bod.go dc_210_52 rfl ?_
  refine Bod.get dc_210_53 fr_210_9 (mk_53 _) rfl ?_
  refine Bod.go dc_210_56 rfl ?_
  refine Bod.virt (r := [_]) dc_210_57 kr_210_136 ⟨Or.inr rfl, ow_140, cl_2⟩ (by rw [np_140]; rfl) (by rw [np_140]; rfl) (ob_of (mk_2 _)) (Nat.le_of_ble_eq_true rfl) (c6  ) ?_
  show Bod _ _ _ _ [_, _] _ _ _
  refine Bod.stat (r := []) dc_210_60 kr_210_188 (Or.inl rfl) (by rw [np_208]; rfl) (by rw [np_208]; rfl) (by rw [np_208]; exact Nat.le_of_ble_eq_true rfl) (Nat.le_of_ble_eq_true rfl) (c7  ) ?_
  show Bod _ _ _ _ [_] _ _ _
  refine Bod.go dc_210_63 rfl ?_
  exact Bod.retI dc_210_68 rt_210
theorem mLo_6 {d : Nat} {S : cS} {ob : Nat} {kb : Nat} {S1 : cS} {a : Nat} {S2 : cS} {u : Int64} {S3 : cS} {u1 : Int64} {S4 : cS} {a1 : Nat} {S5 : cS} {rb : Int32} (mob : ob < 2 ^ 20) (mkb : kb < 2 ^ 20) (ma : a < 2 ^ 20) (c1 : Ans (d + 8) 136 [.ref 46, .int (nI ob)] S (some (.int (nI a))) S1) (c2 : Ans (d + 8) 132 [.ref 46, .int (nI kb)] S1 (some (.long u)) S2) (c3 : Ans (d + 8) 135 [.ref 46, .int (nI kb)] S2 (some (.long u1)) S3) (ma1 : a1 < 2 ^ 20) (c4 : Ans (d + 8) 138 [.ref 2, .int (nI a)] S3 (some (.int (nI a1))) S4) (b1 : a1 = 1) (c5 : Ans (d + 8) 134 [.long u] S4 (some (.int rb)) S5) (w11 : rb ≠ nI 2) : Bod (d + 8) 210 0 [(0, .ref 53), (1, .int (nI ob)), (2, .int (nI kb))] [] S (some (.int ((Int8.ofInt (-2)).toInt32))) (S5) := by
  refine Bod.go dc_210_0 rfl ?_
  refine Bod.get dc_210_1 fr_210_15 (mk_53 _) rfl ?_
  refine Bod.go dc_210_4 rfl ?_
  refine Bod.virt (r := []) dc_210_5 kr_210_169 ⟨Or.inr rfl, ow_136, cl_9⟩ (by rw [np_136]; rfl) (by rw [np_136]; rfl) (ob_of (mk_46 _)) (Nat.le_of_ble_eq_true rfl) (c1  ) ?_
  show Bod _ _ _ _ [_] _ _ _
  refine Bod.istn dc_210_8 (by rw [ml_210]; exact Nat.le_of_ble_eq_true rfl) ?_
  refine Bod.go dc_210_9 rfl ?_
  refine Bod.get dc_210_10 fr_210_15 (mk_53 _) rfl ?_
  refine Bod.go dc_210_13 rfl ?_
  refine Bod.virt (r := []) dc_210_14 kr_210_70 ⟨Or.inr rfl, ow_132, cl_9⟩ (by rw [np_132]; rfl) (by rw [np_132]; rfl) (ob_of (mk_46 _)) (Nat.le_of_ble_eq_true rfl) (c2  ) ?_
  show Bod _ _ _ _ [_] _ _ _
  refine Bod.lst dc_210_17 (by rw [ml_210]; exact Nat.le_of_ble_eq_true rfl) ?_
  refine Bod.go dc_210_19 rfl ?_
  refine Bod.get dc_210_20 fr_210_15 (mk_53 _) rfl ?_
  refine Bod.go dc_210_23 rfl ?_
  refine Bod.virt (r := []) dc_210_24 kr_210_111 ⟨Or.inr rfl, ow_135, cl_9⟩ (by rw [np_135]; rfl) (by rw [np_135]; rfl) (ob_of (mk_46 _)) (Nat.le_of_ble_eq_true rfl) (c3  ) ?_
  show Bod _ _ _ _ [_] _ _ _
  refine Bod.lst dc_210_27 (by rw [ml_210]; exact Nat.le_of_ble_eq_true rfl) ?_
  refine Bod.go dc_210_29 rfl ?_
  refine Bod.get dc_210_30 fr_210_9 (mk_53 _) rfl ?_
  refine Bod.go dc_210_33 rfl ?_
  refine Bod.virt (r := []) dc_210_34 kr_210_171 ⟨Or.inr rfl, ow_138, cl_2⟩ (by rw [np_138]; rfl) (by rw [np_138]; rfl) (ob_of (mk_2 _)) (Nat.le_of_ble_eq_true rfl) (c4  ) ?_
  show Bod _ _ _ _ [_] _ _ _
  refine Bod.ic 1 (by decide) dc_210_37 ?_
  refine Bod.icF dc_210_38 rfl (k2_ne_F (k_eq a1 1 rfl rfl (by omega))) ?_
  refine Bod.go dc_210_41 rfl ?_
  refine Bod.stat (r := []) dc_210_43 kr_210_74 (Or.inr rfl) (by rw [np_134]; rfl) (by rw [np_134]; rfl) (by rw [np_134]; exact Nat.le_of_ble_eq_true rfl) (Nat.le_of_ble_eq_true rfl) (c5  ) ?_
  show Bod _ _ _ _ [_] _ _ _
  refine Bod.ic 2 (by decide) dc_210_46 ?_
  refine Bod.icT dc_210_47 rfl (c2_ne_T w11) ?_
  refine Bod.go dc_210_66 rfl ?_
  exact Bod.retI dc_210_68 rt_210
theorem mPi_1 {d : Nat} {S : cS} {ob : Nat} {kb : Nat} {vb : Nat} {S1 : cS} {rb : Int32} {S2 : cS} {a : Nat} {S3 : cS} {u : Int64} {S4 : cS} {u1 : Int64} {S5 : cS} {u2 : Int64} {S6 : cS} {u3 : Int64} {S7 : cS} {S8 : cS} (mob : ob < 2 ^ 20) (mkb : kb < 2 ^ 20) (mvb : vb < 2 ^ 20) (c1 : Ans (d + 8) 210 [.ref 53, .int (nI ob), .int (nI kb)] S (some (.int rb)) S1) (ma : a < 2 ^ 20) (c2 : Ans (d + 8) 136 [.ref 46, .int (nI ob)] S1 (some (.int (nI a))) S2) (c3 : Ans (d + 8) 132 [.ref 46, .int (nI vb)] S2 (some (.long u)) S3) (c4 : Ans (d + 8) 135 [.ref 46, .int (nI vb)] S3 (some (.long u1)) S4) (w9 : sm_c1 .lt rb true false = true) (w10 : rb = (Int8.ofInt (-4)).toInt32) (c5 : Ans (d + 8) 132 [.ref 46, .int (nI kb)] S4 (some (.long u2)) S5) (c6 : Ans (d + 8) 135 [.ref 46, .int (nI kb)] S5 (some (.long u3)) S6) (c7 : Ans (d + 8) 183 [.ref 2, .int (nI a), .long u2, .long u3, .long u, .long u1] S6 (some (.int (nI 1))) S7) (c8 : Ans (d + 8) 141 [.ref 46, .int (nI 3)] S7 none S8) : Bod (d + 8) 211 0 [(0, .ref 53), (1, .int (nI ob)), (2, .int (nI kb)), (3, .int (nI vb))] [] S (some (.int (nI 0))) (S8) := by
  refine Bod.go dc_211_0 rfl ?_
  refine Bod.go dc_211_1 rfl ?_
  refine Bod.go dc_211_2 rfl ?_
  refine Bod.virt (r := []) dc_211_3 kr_211_192 ⟨Or.inl rfl, ow_210, cl_6⟩ (by rw [np_210]; rfl) (by rw [np_210]; rfl) (ob_of (mk_53 _)) (Nat.le_of_ble_eq_true rfl) (c1  ) ?_
  show Bod _ _ _ _ [_] _ _ _
  refine Bod.ist dc_211_6 (by rw [ml_211]; exact Nat.le_of_ble_eq_true rfl) ?_
  refine Bod.go dc_211_8 rfl ?_
  refine Bod.get dc_211_9 fr_211_15 (mk_53 _) rfl ?_
  refine Bod.go dc_211_12 rfl ?_
  refine Bod.virt (r := []) dc_211_13 kr_211_169 ⟨Or.inr rfl, ow_136, cl_9⟩ (by rw [np_136]; rfl) (by rw [np_136]; rfl) (ob_of (mk_46 _)) (Nat.le_of_ble_eq_true rfl) (c2  ) ?_
  show Bod _ _ _ _ [_] _ _ _
  refine Bod.ist dc_211_16 (by rw [ml_211]; exact Nat.le_of_ble_eq_true rfl) ?_
  refine Bod.go dc_211_18 rfl ?_
  refine Bod.get dc_211_19 fr_211_15 (mk_53 _) rfl ?_
  refine Bod.go dc_211_22 rfl ?_
  refine Bod.virt (r := []) dc_211_23 kr_211_70 ⟨Or.inr rfl, ow_132, cl_9⟩ (by rw [np_132]; rfl) (by rw [np_132]; rfl) (ob_of (mk_46 _)) (Nat.le_of_ble_eq_true rfl) (c3  ) ?_
  show Bod _ _ _ _ [_] _ _ _
  refine Bod.lst dc_211_26 (by rw [ml_211]; exact Nat.le_of_ble_eq_true rfl) ?_
  refine Bod.go dc_211_28 rfl ?_
  refine Bod.get dc_211_29 fr_211_15 (mk_53 _) rfl ?_
  refine Bod.go dc_211_32 rfl ?_
  refine Bod.virt (r := []) dc_211_33 kr_211_111 ⟨Or.inr rfl, ow_135, cl_9⟩ (by rw [np_135]; rfl) (by rw [np_135]; rfl) (ob_of (mk_46 _)) (Nat.le_of_ble_eq_true rfl) (c4  ) ?_
  show Bod _ _ _ _ [_] _ _ _
  refine Bod.lst dc_211_36 (by rw [ml_211]; exact Nat.le_of_ble_eq_true rfl) ?_
  refine Bod.go dc_211_38 rfl ?_
  refine Bod.ifT dc_211_40 rfl w9 ?_
  refine Bod.go dc_211_61 rfl ?_
  refine Bod.go dc_211_63 rfl ?_
  refine Bod.icT dc_211_65 rfl (c2_eq_T w10) ?_
  refine Bod.go dc_211_72 rfl ?_
  refine Bod.get dc_211_73 fr_211_9 (mk_53 _) rfl ?_
  refine Bod.go dc_211_76 rfl ?_
  refine Bod.go dc_211_78 rfl ?_
  refine Bod.get dc_211_79 fr_211_15 (mk_53 _) rfl ?_
  refine Bod.go dc_211_82 rfl ?_
  refine Bod.virt (r := [_, _]) dc_211_83 kr_211_70 ⟨Or.inr rfl, ow_132, cl_9⟩ (by rw [np_132]; rfl) (by rw [np_132]; rfl) (ob_of (mk_46 _)) (Nat.le_of_ble_eq_true rfl) (c5  ) ?_
  show Bod _ _ _ _ [_, _, _] _ _ _
  refine Bod.go dc_211_86 rfl ?_
  refine Bod.get dc_211_87 fr_211_15 (mk_53 _) rfl ?_
  refine Bod.go dc_211_90 rfl ?_
  refine Bod.virt (r := [_, _, _]) dc_211_91 kr_211_111 ⟨Or.inr rfl, ow_135, cl_9⟩ (by rw [np_135]; rfl) (by rw [np_135]; rfl) (ob_of (mk_46 _)) (Nat.le_of_ble_eq_true rfl) (c6  ) ?_
  show Bod _ _ _ _ [_, _, _, _] _ _ _
  refine Bod.go dc_211_94 rfl ?_
  refine Bod.go dc_211_96 rfl ?_
  refine Bod.virt (r := []) dc_211_98 kr_211_201 ⟨Or.inr rfl, ow_183, cl_2⟩ (by rw [np_183]; rfl) (by rw [np_183]; rfl) (ob_of (mk_2 _)) (Nat.le_of_ble_eq_true rfl) (c7  ) ?_
  show Bod _ _ _ _ [_] _ _ _
  refine Bod.ifT dc_211_101 rfl (k1_ne_T (k_ne 1 0 rfl rfl (by omega) (by omega) (by omega))) ?_
  refine Bod.go dc_211_107 rfl ?_
  refine Bod.get dc_211_108 fr_211_15 (mk_53 _) rfl ?_
  refine Bod.ic 3 (by decide) dc_211_111 ?_
  refine Bod.virt (r := []) dc_211_112 kr_211_205 ⟨Or.inr rfl, ow_141, cl_9⟩ (by rw [np_141]; rfl) (by rw [np_141]; rfl) (ob_of (mk_46 _)) (Nat.le_of_ble_eq_true rfl) (c8  ) ?_
  show Bod _ _ _ _ [] _ _ _
  refine Bod.ic 0 (by decide) dc_211_115 ?_
  exact Bod.retI dc_211_116 rt_211
theorem mPi_2 {d : Nat} {S : cS} {ob : Nat} {kb : Nat} {vb : Nat} {S1 : cS} {rb : Int32} {S2 : cS} {a : Nat} {S3 : cS} {u : Int64} {S4 : cS} {u1 : Int64} {S5 : cS} {u2 : Int64} {S6 : cS} {u3 : Int64} {S7 : cS} (mob : ob < 2 ^ 20) (mkb : kb < 2 ^ 20) (mvb : vb < 2 ^ 20) (c1 : Ans (d + 8) 210 [.ref 53, .int (nI ob), .int (nI kb)] S (some (.int rb)) S1) (ma : a < 2 ^ 20) (c2 : Ans (d + 8) 136 [.ref 46, .int (nI ob)] S1 (some (.int (nI a))) S2) (c3 : Ans (d + 8) 132 [.ref 46, .int (nI vb)] S2 (some (.long u)) S3) (c4 : Ans (d + 8) 135 [.ref 46, .int (nI vb)] S3 (some (.long u1)) S4) (w9 : sm_c1 .lt rb true false = true) (w10 : rb = (Int8.ofInt (-4)).toInt32) (c5 : Ans (d + 8) 132 [.ref 46, .int (nI kb)] S4 (some (.long u2)) S5) (c6 : Ans (d + 8) 135 [.ref 46, .int (nI kb)] S5 (some (.long u3)) S6) (c7 : Ans (d + 8) 183 [.ref 2, .int (nI a), .long u2, .long u3, .long u, .long u1] S6 (some (.int (nI 0))) S7) : Bod (d + 8) 211 0 [(0, .ref 53), (1, .int (nI ob)), (2, .int (nI kb)), (3, .int (nI vb))] [] S (some (.int (nI 8))) (S7) := by
  refine Bod.go dc_211_0 rfl ?_
  refine Bod.go dc_211_1 rfl ?_
  refine Bod.go dc_211_2 rfl ?_
  refine Bod.virt (r := []) dc_211_3 kr_211_192 ⟨Or.inl rfl, ow_210, cl_6⟩ (by rw [np_210]; rfl) (by rw [np_210]; rfl) (ob_of (mk_53 _)) (Nat.le_of_ble_eq_true rfl) (c1  ) ?_
  show Bod _ _ _ _ [_] _ _ _
  refine Bod.ist dc_211_6 (by rw [ml_211]; exact Nat.le_of_ble_eq_true rfl) ?_
  refine Bod.go dc_211_8 rfl ?_
  refine Bod.get dc_211_9 fr_211_15 (mk_53 _) rfl ?_
  refine Bod.go dc_211_12 rfl ?_
  refine Bod.virt (r := []) dc_211_13 kr_211_169 ⟨Or.inr rfl, ow_136, cl_9⟩ (by rw [np_136]; rfl) (by rw [np_136]; rfl) (ob_of (mk_46 _)) (Nat.le_of_ble_eq_true rfl) (c2  ) ?_
  show Bod _ _ _ _ [_] _ _ _
  refine Bod.ist dc_211_16 (by rw [ml_211]; exact Nat.le_of_ble_eq_true rfl) ?_
  refine Bod.go dc_211_18 rfl ?_
  refine Bod.get dc_211_19 fr_211_15 (mk_53 _) rfl ?_
  refine Bod.go dc_211_22 rfl ?_
  refine Bod.virt (r := []) dc_211_23 kr_211_70 ⟨Or.inr rfl, ow_132, cl_9⟩ (by rw [np_132]; rfl) (by rw [np_132]; rfl) (ob_of (mk_46 _)) (Nat.le_of_ble_eq_true rfl) (c3  ) ?_
  show Bod _ _ _ _ [_] _ _ _
  refine Bod.lst dc_211_26 (by rw [ml_211]; exact Nat.le_of_ble_eq_true rfl) ?_
  refine Bod.go dc_211_28 rfl ?_
  refine Bod.get dc_211_29 fr_211_15 (mk_53 _) rfl ?_
  refine Bod.go dc_211_32 rfl ?_
  refine Bod.virt (r := []) dc_211_33 kr_211_111 ⟨Or.inr rfl, ow_135, cl_9⟩ (by rw [np_135]; rfl) (by rw [np_135]; rfl) (ob_of (mk_46 _)) (Nat.le_of_ble_eq_true rfl) (c4  ) ?_
  show Bod _ _ _ _ [_] _ _ _
  refine Bod.lst dc_211_36 (by rw [ml_211]; exact Nat.le_of_ble_eq_true rfl) ?_
  refine Bod.go dc_211_38 rfl ?_
  refine Bod.ifT dc_211_40 rfl w9 ?_
  refine Bod.go dc_211_61 rfl ?_
  refine Bod.go dc_211_63 rfl ?_
  refine Bod.icT dc_211_65 rfl (c2_eq_T w10) ?_
  refine Bod.go dc_211_72 rfl ?_
  refine Bod.get dc_211_73 fr_211_9 (mk_53 _) rfl ?_
  refine Bod.go dc_211_76 rfl ?_
  refine Bod.go dc_211_78 rfl ?_
  refine Bod.get dc_211_79 fr_211_15 (mk_53 _) rfl ?_
  refine Bod.go dc_211_82 rfl ?_
  refine Bod.virt (r := [_, _]) dc_211_83 kr_211_70 ⟨Or.inr rfl, ow_132, cl_9⟩ (by rw [np_132]; rfl) (by rw [np_132]; rfl) (ob_of (mk_46 _)) (Nat.le_of_ble_eq_true rfl) (c5  ) ?_
  show Bod _ _ _ _ [_, _, _] _ _ _
  refine Bod.go dc_211_86 rfl ?_
  refine Bod.get dc_211_87 fr_211_15 (mk_53 _) rfl ?_
  refine Bod.go dc_211_90 rfl ?_
  refine Bod.virt (r := [_, _, _]) dc_211_91 kr_211_111 ⟨Or.inr rfl, ow_135, cl_9⟩ (by rw [np_135]; rfl) (by rw [np_135]; rfl) (ob_of (mk_46 _)) (Nat.le_of_ble_eq_true rfl) (c6  ) ?_
  show Bod _ _ _ _ [_, _, _, _] _ _ _
  refine Bod.go dc_211_94 rfl ?_
  refine Bod.go dc_211_96 rfl ?_
  refine Bod.virt (r := []) dc_211_98 kr_211_201 ⟨Or.inr rfl, ow_183, cl_2⟩ (by rw [np_183]; rfl) (by rw [np_183]; rfl) (ob_of (mk_2 _)) (Nat.le_of_ble_eq_true rfl) (c7  ) ?_
  show Bod _ _ _ _ [_] _ _ _
  refine Bod.ifF dc_211_101 rfl (k1_ne_F (k_eq 0 0 rfl rfl (by omega))) ?_
  refine Bod.bip 8 (by decide) dc_211_104 ?_
  exact Bod.retI dc_211_106 rt_211
theorem mPi_3 {d : Nat} {S : cS} {ob : Nat} {kb : Nat} {vb : Nat} {S1 : cS} {rb : Int32} {S2 : cS} {a : Nat} {S3 : cS} {u : Int64} {S4 : cS} {u1 : Int64} (mob : ob < 2 ^ 20) (mkb : kb < 2 ^ 20) (mvb : vb < 2 ^ 20) (c1 : Ans (d + 8) 210 [.ref 53, .int (nI ob), .int (nI kb)] S (some (.int rb)) S1) (ma : a < 2 ^ 20) (c2 : Ans (d + 8) 136 [.ref 46, .int (nI ob)] S1 (some (.int (nI a))) S2) (c3 : Ans (d + 8) 132 [.ref 46, .int (nI vb)] S2 (some (.long u)) S3) (c4 : Ans (d + 8) 135 [.ref 46, .int (nI vb)] S3 (some (.long u1)) S4) (w9 : sm_c1 .lt rb true false = true) (w10 : rb ≠ (Int8.ofInt (-4)).toInt32) : Bod (d + 8) 211 0 [(0, .ref 53), (1, .int (nI ob)), (2, .int (nI kb)), (3, .int (nI vb))] [] S (some (.int (-rb))) (S4) := by
  refine Bod.go dc_211_0 rfl ?_
  refine Bod.go dc_211_1 rfl ?_
  refine Bod.go dc_211_2 rfl ?_
  refine Bod.virt (r := []) dc_211_3 kr_211_192 ⟨Or.inl rfl, ow_210, cl_6⟩ (by rw [np_210]; rfl) (by rw [np_210]; rfl) (ob_of (mk_53 _)) (Nat.le_of_ble_eq_true rfl) (c1  ) ?_
  show Bod _ _ _ _ [_] _ _ _
  refine Bod.ist dc_211_6 (by rw [ml_211]; exact Nat.le_of_ble_eq_true rfl) ?_
  refine Bod.go dc_211_8 rfl ?_
  refine Bod.get dc_211_9 fr_211_15 (mk_53 _) rfl ?_
  refine Bod.go dc_211_12 rfl ?_
  refine Bod.virt (r := []) dc_211_13 kr_211_169 ⟨Or.inr rfl, ow_136, cl_9⟩ (by rw [np_136]; rfl) (by rw [np_136]; rfl) (ob_of (mk_46 _)) (Nat.le_of_ble_eq_true rfl) (c2  ) ?_
  show Bod _ _ _ _ [_] _ _ _
  refine Bod.ist dc_211_16 (by rw [ml_211]; exact Nat.le_of_ble_eq_true rfl) ?_
  refine Bod.go dc_211_18 rfl ?_
  refine Bod.get dc_211_19 fr_211_15 (mk_53 _) rfl ?_
  refine Bod.go dc_211_22 rfl ?_
  refine Bod.virt (r := []) dc_211_23 kr_211_70 ⟨Or.inr rfl, ow_132, cl_9⟩ (by rw [np_132]; rfl) (by rw [np_132]; rfl) (ob_of (mk_46 _)) (Nat.le_of_ble_eq_true rfl) (c3  ) ?_
  show Bod _ _ _ _ [_] _ _ _
  refine Bod.lst dc_211_26 (by rw [ml_211]; exact Nat.le_of_ble_eq_true rfl) ?_
  refine Bod.go dc_211_28 rfl ?_
  refine Bod.get dc_211_29 fr_211_15 (mk_53 _) rfl ?_
  refine Bod.go dc_211_32 rfl ?_
  refine Bod.virt (r := []) dc_211_33 kr_211_111 ⟨Or.inr rfl, ow_135, cl_9⟩ (by rw [np_135]; rfl) (by rw [np_135]; rfl) (ob_of (mk_46 _)) (Nat.le_of_ble_eq_true rfl) (c4  ) ?_
  show Bod _ _ _ _ [_] _ _ _
  refine Bod.lst dc_211_36 (by rw [ml_211]; exact Nat.le_of_ble_eq_true rfl) ?_
  refine Bod.go dc_211_38 rfl ?_
  refine Bod.ifT dc_211_40 rfl w9 ?_
  refine Bod.go dc_211_61 rfl ?_
  refine Bod.go dc_211_63 rfl ?_
  refine Bod.icF dc_211_65 rfl (c2_eq_F w10) ?_
  refine Bod.go dc_211_68 rfl ?_
  refine Bod.go dc_211_70 rfl ?_
  exact Bod.retI dc_211_71 rt_211
theorem mPi_4 {d : Nat} {S : cS} {ob : Nat} {kb : Nat} {vb : Nat} {S1 : cS} {rb : Int32} {S2 : cS} {a : Nat} {S3 : cS} {u : Int64} {S4 : cS} {u1 : Int64} {S5 : cS} {S6 : cS} (mob : ob < 2 ^ 20) (mkb : kb < 2 ^ 20) (mvb : vb < 2 ^ 20) (c1 : Ans (d + 8) 210 [.ref 53, .int (nI ob), .int (nI kb)] S (some (.int rb)) S1) (ma : a < 2 ^ 20) (c2 : Ans (d + 8) 136 [.ref 46, .int (nI ob)] S1 (some (.int (nI a))) S2) (c3 : Ans (d + 8) 132 [.ref 46, .int (nI vb)] S2 (some (.long u)) S3) (c4 : Ans (d + 8) 135 [.ref 46, .int (nI vb)] S3 (some (.long u1)) S4) (w9 : sm_c1 .lt rb true false = false) (c5 : Ans (d + 8) 174 [.ref 2, .int (nI a), .int rb, .long u, .long u1] S4 none S5) (c6 : Ans (d + 8) 141 [.ref 46, .int (nI 3)] S5 none S6) : Bod (d + 8) 211 0 [(0, .ref 53), (1, .int (nI ob)), (2, .int (nI kb)), (3, .int (nI vb))] [] S (some (.int (nI 0))) (S6) := by
  refine Bod.go dc_211_0 rfl ?_
  refine Bod.go dc_211_1 rfl ?_
  refine Bod.go dc_211_2 rfl ?_
  refine Bod.virt (r := []) dc_211_3 kr_211_192 ⟨Or.inl rfl, ow_210, cl_6⟩ (by rw [np_210]; rfl) (by rw [np_210]; rfl) (ob_of (mk_53 _)) (Nat.le_of_ble_eq_true rfl) (c1  ) ?_
  show Bod _ _ _ _ [_] _ _ _
  refine Bod.ist dc_211_6 (by rw [ml_211]; exact Nat.le_of_ble_eq_true rfl) ?_
  refine Bod.go dc_211_8 rfl ?_
  refine Bod.get dc_211_9 fr_211_15 (mk_53 _) rfl ?_
  refine Bod.go dc_211_12 rfl ?_
  refine Bod.virt (r := []) dc_211_13 kr_211_169 ⟨Or.inr rfl, ow_136, cl_9⟩ (by rw [np_136]; rfl) (by rw [np_136]; rfl) (ob_of (mk_46 _)) (Nat.le_of_ble_eq_true rfl) (c2  ) ?_
  show Bod _ _ _ _ [_] _ _ _
  refine Bod.ist dc_211_16 (by rw [ml_211]; exact Nat.le_of_ble_eq_true rfl) ?_
  refine Bod.go dc_211_18 rfl ?_
  refine Bod.get dc_211_19 fr_211_15 (mk_53 _) rfl ?_
  refine Bod.go dc_211_22 rfl ?_
  refine Bod.virt (r := []) dc_211_23 kr_211_70 ⟨Or.inr rfl, ow_132, cl_9⟩ (by rw [np_132]; rfl) (by rw [np_132]; rfl) (ob_of (mk_46 _)) (Nat.le_of_ble_eq_true rfl) (c3  ) ?_
  show Bod _ _ _ _ [_] _ _ _
  refine Bod.lst dc_211_26 (by rw [ml_211]; exact Nat.le_of_ble_eq_true rfl) ?_
  refine Bod.go dc_211_28 rfl ?_
  refine Bod.get dc_211_29 fr_211_15 (mk_53 _) rfl ?_
  refine Bod.go dc_211_32 rfl ?_
  refine Bod.virt (r := []) dc_211_33 kr_211_111 ⟨Or.inr rfl, ow_135, cl_9⟩ (by rw [np_135]; rfl) (by rw [np_135]; rfl) (ob_of (mk_46 _)) (Nat.le_of_ble_eq_true rfl) (c4  ) ?_
  show Bod _ _ _ _ [_] _ _ _
  refine Bod.lst dc_211_36 (by rw [ml_211]; exact Nat.le_of_ble_eq_true rfl) ?_
  refine Bod.go dc_211_38 rfl ?_
  refine Bod.ifF dc_211_40 rfl w9 ?_
  refine Bod.go dc_211_43 rfl ?_
  refine Bod.get dc_211_44 fr_211_9 (mk_53 _) rfl ?_
  refine Bod.go dc_211_47 rfl ?_
  refine Bod.go dc_211_49 rfl ?_
  refine Bod.go dc_211_51 rfl ?_
  refine Bod.go dc_211_53 rfl ?_
  refine Bod.virt (r := []) dc_211_55 kr_211_197 ⟨Or.inr rfl, ow_174, cl_2⟩ (by rw [np_174]; rfl) (by rw [np_174]; rfl) (ob_of (mk_2 _)) (Nat.le_of_ble_eq_true rfl) (c5  ) ?_
  show Bod _ _ _ _ [] _ _ _
  refine Bod.go dc_211_58 rfl ?_
  refine Bod.go dc_211_107 rfl ?_
  refine Bod.get dc_211_108 fr_211_15 (mk_53 _) rfl ?_
  refine Bod.ic 3 (by decide) dc_211_111 ?_
  refine Bod.virt (r := []) dc_211_112 kr_211_205 ⟨Or.inr rfl, ow_141, cl_9⟩ (by rw [np_141]; rfl) (by rw [np_141]; rfl) (ob_of (mk_46 _)) (Nat.le_of_ble_eq_true rfl) (c6  ) ?_
  show Bod _ _ _ _ [] _ _ _
  refine Bod.ic 0 (by decide) dc_211_115 ?_
  exact Bod.retI dc_211_116 rt_211
theorem mDi_1 {d : Nat} {S : cS} {S1 : cS} {rb : Int32} {S2 : cS} {a : Nat} {S3 : cS} {S4 : cS} (c1 : Ans (d + 8) 210 [.ref 53, .int (nI 1), .int (nI 0)] S (some (.int rb)) S1) (w2 : sm_c1 .ge rb true false = true) (ma : a < 2 ^ 20) (c2 : Ans (d + 8) 136 [.ref 46, .int (nI 1)] S1 (some (.int (nI a))) S2) (c3 : Ans (d + 8) 213 [.ref 2, .int (nI a), .int rb] S2 none S3) (c4 : Ans (d + 8) 141 [.ref 46, .int (nI 2)] S3 none S4) : Bod (d + 8) 212 0 [(0, .ref 53)] [] S (some (.int (nI 0))) (S4) := by
  refine Bod.go dc_212_0 rfl ?_
  refine Bod.ic 1 (by decide) dc_212_1 ?_
  refine Bod.ic 0 (by decide) dc_212_2 ?_
  refine Bod.virt (r := []) dc_212_3 kr_212_192 ⟨Or.inl rfl, ow_210, cl_6⟩ (by rw [np_210]; rfl) (by rw [np_210]; rfl) (ob_of (mk_53 _)) (Nat.le_of_ble_eq_true rfl) (c1  ) ?_
  show Bod _ _ _ _ [_] _ _ _
  refine Bod.istn dc_212_6 (by rw [ml_212]; exact Nat.le_of_ble_eq_true rfl) ?_
  refine Bod.go dc_212_7 rfl ?_
  refine Bod.ifT dc_212_8 rfl w2 ?_
  refine Bod.go dc_212_14 rfl ?_
  refine Bod.get dc_212_15 fr_212_9 (mk_53 _) rfl ?_
  refine Bod.go dc_212_18 rfl ?_
  refine Bod.get dc_212_19 fr_212_15 (mk_53 _) rfl ?_
  refine Bod.ic 1 (by decide) dc_212_22 ?_
  refine Bod.virt (r := [_]) dc_212_23 kr_212_169 ⟨Or.inr rfl, ow_136, cl_9⟩ (by rw [np_136]; rfl) (by rw [np_136]; rfl) (ob_of (mk_46 _)) (Nat.le_of_ble_eq_true rfl) (c2  ) ?_
  show Bod _ _ _ _ [_, _] _ _ _
  refine Bod.go dc_212_26 rfl ?_
  refine Bod.virt (r := []) dc_212_27 kr_212_209 ⟨Or.inr rfl, ow_213, cl_2⟩ (by rw [np_213]; rfl) (by rw [np_213]; rfl) (ob_of (mk_2 _)) (Nat.le_of_ble_eq_true rfl) (c3  ) ?_
  show Bod _ _ _ _ [] _ _ _
  refine Bod.go dc_212_30 rfl ?_
  refine Bod.get dc_212_31 fr_212_15 (mk_53 _) rfl ?_
  refine Bod.ic 2 (by decide) dc_212_34 ?_
  refine Bod.virt (r := []) dc_212_35 kr_212_205 ⟨Or.inr rfl, ow_141, cl_9⟩ (by rw [np_141]; rfl) (by rw [np_141]; rfl) (ob_of (mk_46 _)) (Nat.le_of_ble_eq_true rfl) (c4  ) ?_
  show Bod _ _ _ _ [] _ _ _
  refine Bod.ic 0 (by decide) dc_212_38 ?_
  exact Bod.retI dc_212_39 rt_212
theorem mDi_2 {d : Nat} {S : cS} {S1 : cS} {rb : Int32} (c1 : Ans (d + 8) 210 [.ref 53, .int (nI 1), .int (nI 0)] S (some (.int rb)) S1) (w2 : sm_c1 .ge rb true false = false) : Bod (d + 8) 212 0 [(0, .ref 53)] [] S (some (.int (-rb))) (S1) := by
  refine Bod.go dc_212_0 rfl ?_
  refine Bod.ic 1 (by decide) dc_212_1 ?_
  refine Bod.ic 0 (by decide) dc_212_2 ?_
  refine Bod.virt (r := []) dc_212_3 kr_212_192 ⟨Or.inl rfl, ow_210, cl_6⟩ (by rw [np_210]; rfl) (by rw [np_210]; rfl) (ob_of (mk_53 _)) (Nat.le_of_ble_eq_true rfl) (c1  ) ?_
  show Bod _ _ _ _ [_] _ _ _
  refine Bod.istn dc_212_6 (by rw [ml_212]; exact Nat.le_of_ble_eq_true rfl) ?_
  refine Bod.go dc_212_7 rfl ?_
  refine Bod.ifF dc_212_8 rfl w2 ?_
  refine Bod.go dc_212_11 rfl ?_
  refine Bod.go dc_212_12 rfl ?_
  exact Bod.retI dc_212_13 rt_212
theorem xsw_214_54 : ∀ b, b < 64 → (b = 34 ∨ b = 35 ∨ b = 36 ∨ sm_br (.tableswitch (65) 34 36 #[26, 39, 52]) 26 54 [.int (nI b)] = some (119, [])) := by decide +kernel
theorem mCm_1 {d : Nat} {S : cS} {op : Nat} {S1 : cS} {S2 : cS} {u : Int64} {S3 : cS} {u1 : Int64} {S4 : cS} {rb : Int32} {S5 : cS} {rb1 : Int32} (mop : op < 2 ^ 20) (c1 : Ans (d + 8) 191 [.ref 53, .int (nI 2)] S (some (.int (nI 1))) S1) (c2 : Ans (d + 8) 135 [.ref 46, .int (nI 1)] S1 (some (.long u)) S2) (c3 : Ans (d + 8) 135 [.ref 46, .int (nI 0)] S2 (some (.long u1)) S3) (c4 : Ans (d + 8) 215 [.long u, .long u1] S3 (some (.int rb)) S4) (sw6 : op = 34) (w7 : sm_c1 .ge rb true false = true) (c5 : Ans (d + 8) 148 [.ref 46, .int (nI 2), .long ((2305843009213693952)), .long 0] S4 (some (.int rb1)) S5) : Bod (d + 8) 214 0 [(0, .ref 53), (1, .int (nI op))] [] S (some (.int rb1)) (S5) := by
  refine Bod.ic 0 (by decide) dc_214_0 ?_
  refine Bod.istn dc_214_1 (by rw [ml_214]; exact Nat.le_of_ble_eq_true rfl) ?_
  refine Bod.go dc_214_2 rfl ?_
  refine Bod.ic 2 (by decide) dc_214_3 ?_
  refine Bod.virt (r := []) dc_214_4 kr_214_39 ⟨Or.inl rfl, ow_191, cl_6⟩ (by rw [np_191]; rfl) (by rw [np_191]; rfl) (ob_of (mk_53 _)) (Nat.le_of_ble_eq_true rfl) (c1  ) ?_
  show Bod _ _ _ _ [_] _ _ _
  refine Bod.ifF dc_214_7 rfl (k1_eq_F (k_ne 1 0 rfl rfl (by omega) (by omega) (by omega))) ?_
  refine Bod.go dc_214_10 rfl ?_
  refine Bod.get dc_214_11 fr_214_15 (mk_53 _) rfl ?_
  refine Bod.ic 1 (by decide) dc_214_14 ?_
  refine Bod.virt (r := []) dc_214_15 kr_214_111 ⟨Or.inr rfl, ow_135, cl_9⟩ (by rw [np_135]; rfl) (by rw [np_135]; rfl) (ob_of (mk_46 _)) (Nat.le_of_ble_eq_true rfl) (c2  ) ?_
  show Bod _ _ _ _ [_] _ _ _
  refine Bod.go dc_214_18 rfl ?_
  refine Bod.get dc_214_19 fr_214_15 (mk_53 _) rfl ?_
  refine Bod.ic 0 (by decide) dc_214_22 ?_
  refine Bod.virt (r := [_]) dc_214_23 kr_214_111 ⟨Or.inr rfl, ow_135, cl_9⟩ (by rw [np_135]; rfl) (by rw [np_135]; rfl) (ob_of (mk_46 _)) (Nat.le_of_ble_eq_true rfl) (c3  ) ?_
  show Bod _ _ _ _ [_, _] _ _ _
  refine Bod.stat (r := []) dc_214_26 kr_214_159 (Or.inl rfl) (by rw [np_215]; rfl) (by rw [np_215]; rfl) (by rw [np_215]; exact Nat.le_of_ble_eq_true rfl) (Nat.le_of_ble_eq_true rfl) (c4  ) ?_
  show Bod _ _ _ _ [_] _ _ _
  refine Bod.istn dc_214_29 (by rw [ml_214]; exact Nat.le_of_ble_eq_true rfl) ?_
  refine Bod.go dc_214_30 rfl ?_
  refine Bod.ic 0 (by decide) dc_214_51 ?_
  refine Bod.istn dc_214_52 (by rw [ml_214]; exact Nat.le_of_ble_eq_true rfl) ?_
  refine Bod.go dc_214_53 rfl ?_
  refine Bod.sw (t := 80) dc_214_54 rfl rfl (by rw [sw6]; decide +kernel) ?_
  refine Bod.go dc_214_80 rfl ?_
  refine Bod.ifT dc_214_81 rfl w7 ?_
  refine Bod.ic 0 (by decide) dc_214_88 ?_
  refine Bod.istn dc_214_89 (by rw [ml_214]; exact Nat.le_of_ble_eq_true rfl) ?_
  refine Bod.go dc_214_90 rfl ?_
  refine Bod.go dc_214_129 rfl ?_
  refine Bod.get dc_214_130 fr_214_15 (mk_53 _) rfl ?_
  refine Bod.ic 2 (by decide) dc_214_133 ?_
  refine Bod.ldc2 dc_214_134 cj_214_23 ?_
  refine Bod.go dc_214_137 rfl ?_
  refine Bod.ifT dc_214_138 rfl (k1_eq_T (k_eq 0 0 rfl rfl (by omega))) ?_
  refine Bod.go dc_214_145 rfl ?_
  refine Bod.virt (r := []) dc_214_146 kr_214_31 ⟨Or.inr rfl, ow_148, cl_9⟩ (by rw [np_148]; rfl) (by rw [np_148]; rfl) (ob_of (mk_46 _)) (Nat.le_of_ble_eq_true rfl) (c5  ) ?_
  show Bod _ _ _ _ [_] _ _ _
  exact Bod.retI dc_214_149 rt_214
theorem mCm_2 {d : Nat} {S : cS} {op : Nat} {S1 : cS} {S2 : cS} {u : Int64} {S3 : cS} {u1 : Int64} {S4 : cS} {rb : Int32} {S5 : cS} {rb1 : Int32} (mop : op < 2 ^ 20) (c1 : Ans (d + 8) 191 [.ref 53, .int (nI 2)] S (some (.int (nI 1))) S1) (c2 : Ans (d + 8) 135 [.ref 46, .int (nI 1)] S1 (some (.long u)) S2) (c3 : Ans (d + 8) 135 [.ref 46, .int (nI 0)] S2 (some (.long u1)) S3) (c4 : Ans (d + 8) 215 [.long u, .long u1] S3 (some (.int rb)) S4) (sw6 : op = 34) (w7 : sm_c1 .ge rb true false = false) (c5 : Ans (d + 8) 148 [.ref 46, .int (nI 2), .long ((2305843009213693952)), .long 1] S4 (some (.int rb1)) S5) : Bod (d + 8) 214 0 [(0, .ref 53), (1, .int (nI op))] [] S (some (.int rb1)) (S5) := by
  refine Bod.ic 0 (by decide) dc_214_0 ?_
  refine Bod.istn dc_214_1 (by rw [ml_214]; exact Nat.le_of_ble_eq_true rfl) ?_
  refine Bod.go dc_214_2 rfl ?_
  refine Bod.ic 2 (by decide) dc_214_3 ?_
  refine Bod.virt (r := []) dc_214_4 kr_214_39 ⟨Or.inl rfl, ow_191, cl_6⟩ (by rw [np_191]; rfl) (by rw [np_191]; rfl) (ob_of (mk_53 _)) (Nat.le_of_ble_eq_true rfl) (c1  ) ?_
  show Bod _ _ _ _ [_] _ _ _
  refine Bod.ifF dc_214_7 rfl (k1_eq_F (k_ne 1 0 rfl rfl (by omega) (by omega) (by omega))) ?_
  refine Bod.go dc_214_10 rfl ?_
  refine Bod.get dc_214_11 fr_214_15 (mk_53 _) rfl ?_
  refine Bod.ic 1 (by decide) dc_214_14 ?_
  refine Bod.virt (r := []) dc_214_15 kr_214_111 ⟨Or.inr rfl, ow_135, cl_9⟩ (by rw [np_135]; rfl) (by rw [np_135]; rfl) (ob_of (mk_46 _)) (Nat.le_of_ble_eq_true rfl) (c2  ) ?_
  show Bod _ _ _ _ [_] _ _ _
  refine Bod.go dc_214_18 rfl ?_
  refine Bod.get dc_214_19 fr_214_15 (mk_53 _) rfl ?_
  refine Bod.ic 0 (by decide) dc_214_22 ?_
  refine Bod.virt (r := [_]) dc_214_23 kr_214_111 ⟨Or.inr rfl, ow_135, cl_9⟩ (by rw [np_135]; rfl) (by rw [np_135]; rfl) (ob_of (mk_46 _)) (Nat.le_of_ble_eq_true rfl) (c3  ) ?_
  show Bod _ _ _ _ [_, _] _ _ _
  refine Bod.stat (r := []) dc_214_26 kr_214_159 (Or.inl rfl) (by rw [np_215]; rfl) (by rw [np_215]; rfl) (by rw [np_215]; exact Nat.le_of_ble_eq_true rfl) (Nat.le_of_ble_eq_true rfl) (c4  ) ?_
  show Bod _ _ _ _ [_] _ _ _
  refine Bod.istn dc_214_29 (by rw [ml_214]; exact Nat.le_of_ble_eq_true rfl) ?_
  refine Bod.go dc_214_30 rfl ?_
  refine Bod.ic 0 (by decide) dc_214_51 ?_
  refine Bod.istn dc_214_52 (by rw [ml_214]; exact Nat.le_of_ble_eq_true rfl) ?_
  refine Bod.go dc_214_53 rfl ?_
  refine Bod.sw (t := 80) dc_214_54 rfl rfl (by rw [sw6]; decide +kernel) ?_
  refine Bod.go dc_214_80 rfl ?_
  refine Bod.ifF dc_214_81 rfl w7 ?_
  refine Bod.ic 1 (by decide) dc_214_84 ?_
  refine Bod.go dc_214_85 rfl ?_
  refine Bod.istn dc_214_89 (by rw [ml_214]; exact Nat.le_of_ble_eq_true rfl) ?_
  refine Bod.go dc_214_90 rfl ?_
  refine Bod.go dc_214_129 rfl ?_
  refine Bod.get dc_214_130 fr_214_15 (mk_53 _) rfl ?_
  refine Bod.ic 2 (by decide) dc_214_133 ?_
  refine Bod.ldc2 dc_214_134 cj_214_23 ?_
  refine Bod.go dc_214_137 rfl ?_
  refine Bod.ifF dc_214_138 rfl (k1_eq_F (k_ne 1 0 rfl rfl (by omega) (by omega) (by omega))) ?_
  refine Bod.go dc_214_141 rfl ?_
  refine Bod.go dc_214_142 rfl ?_
  refine Bod.virt (r := []) dc_214_146 kr_214_31 ⟨Or.inr rfl, ow_148, cl_9⟩ (by rw [np_148]; rfl) (by rw [np_148]; rfl) (ob_of (mk_46 _)) (Nat.le_of_ble_eq_true rfl) (c5  ) ?_
  show Bod _ _ _ _ [_] _ _ _
  exact Bod.retI dc_214_149 rt_214
theorem mCm_3 {d : Nat} {S : cS} {op : Nat} {S1 : cS} {S2 : cS} {u : Int64} {S3 : cS} {u1 : Int64} {S4 : cS} {rb : Int32} {S5 : cS} {rb1 : Int32} (mop : op < 2 ^ 20) (c1 : Ans (d + 8) 191 [.ref 53, .int (nI 2)] S (some (.int (nI 1))) S1) (c2 : Ans (d + 8) 135 [.ref 46, .int (nI 1)] S1 (some (.long u)) S2) (c3 : Ans (d + 8) 135 [.ref 46, .int (nI 0)] S2 (some (.long u1)) S3) (c4 : Ans (d + 8) 215 [.long u, .long u1] S3 (some (.int rb)) S4) (sw6 : op = 35) (w7 : sm_c1 .gt rb true false = true) (c5 : Ans (d + 8) 148 [.ref 46, .int (nI 2), .long ((2305843009213693952)), .long 0] S4 (some (.int rb1)) S5) : Bod (d + 8) 214 0 [(0, .ref 53), (1, .int (nI op))] [] S (some (.int rb1)) (S5) := by
  refine Bod.ic 0 (by decide) dc_214_0 ?_
  refine Bod.istn dc_214_1 (by rw [ml_214]; exact Nat.le_of_ble_eq_true rfl) ?_
  refine Bod.go dc_214_2 rfl ?_
  refine Bod.ic 2 (by decide) dc_214_3 ?_
  refine Bod.virt (r := []) dc_214_4 kr_214_39 ⟨Or.inl rfl, ow_191, cl_6⟩ (by rw [np_191]; rfl) (by rw [np_191]; rfl) (ob_of (mk_53 _)) (Nat.le_of_ble_eq_true rfl) (c1  ) ?_
  show Bod _ _ _ _ [_] _ _ _
  refine Bod.ifF dc_214_7 rfl (k1_eq_F (k_ne 1 0 rfl rfl (by omega) (by omega) (by omega))) ?_
  refine Bod.go dc_214_10 rfl ?_
  refine Bod.get dc_214_11 fr_214_15 (mk_53 _) rfl ?_
  refine Bod.ic 1 (by decide) dc_214_14 ?_
  refine Bod.virt (r := []) dc_214_15 kr_214_111 ⟨Or.inr rfl, ow_135, cl_9⟩ (by rw [np_135]; rfl) (by rw [np_135]; rfl) (ob_of (mk_46 _)) (Nat.le_of_ble_eq_true rfl) (c2  ) ?_
  show Bod _ _ _ _ [_] _ _ _
  refine Bod.go dc_214_18 rfl ?_
  refine Bod.get dc_214_19 fr_214_15 (mk_53 _) rfl ?_
  refine Bod.ic 0 (by decide) dc_214_22 ?_
  refine Bod.virt (r := [_]) dc_214_23 kr_214_111 ⟨Or.inr rfl, ow_135, cl_9⟩ (by rw [np_135]; rfl) (by rw [np_135]; rfl) (ob_of (mk_46 _)) (Nat.le_of_ble_eq_true rfl) (c3  ) ?_
  show Bod _ _ _ _ [_, _] _ _ _
  refine Bod.stat (r := []) dc_214_26 kr_214_159 (Or.inl rfl) (by rw [np_215]; rfl) (by rw [np_215]; rfl) (by rw [np_215]; exact Nat.le_of_ble_eq_true rfl) (Nat.le_of_ble_eq_true rfl) (c4  ) ?_
  show Bod _ _ _ _ [_] _ _ _
  refine Bod.istn dc_214_29 (by rw [ml_214]; exact Nat.le_of_ble_eq_true rfl) ?_
  refine Bod.go dc_214_30 rfl ?_
  refine Bod.ic 0 (by decide) dc_214_51 ?_
  refine Bod.istn dc_214_52 (by rw [ml_214]; exact Nat.le_of_ble_eq_true rfl) ?_
  refine Bod.go dc_214_53 rfl ?_
  refine Bod.sw (t := 93) dc_214_54 rfl rfl (by rw [sw6]; decide +kernel) ?_
  refine Bod.go dc_214_93 rfl ?_
  refine Bod.ifT dc_214_94 rfl w7 ?_
  refine Bod.ic 0 (by decide) dc_214_101 ?_
  refine Bod.istn dc_214_102 (by rw [ml_214]; exact Nat.le_of_ble_eq_true rfl) ?_
  refine Bod.go dc_214_103 rfl ?_
  refine Bod.go dc_214_129 rfl ?_
  refine Bod.get dc_214_130 fr_214_15 (mk_53 _) rfl ?_
  refine Bod.ic 2 (by decide) dc_214_133 ?_
  refine Bod.ldc2 dc_214_134 cj_214_23 ?_
  refine Bod.go dc_214_137 rfl ?_
  refine Bod.ifT dc_214_138 rfl (k1_eq_T (k_eq 0 0 rfl rfl (by omega))) ?_
  refine Bod.go dc_214_145 rfl ?_
  refine Bod.virt (r := []) dc_214_146 kr_214_31 ⟨Or.inr rfl, ow_148, cl_9⟩ (by rw [np_148]; rfl) (by rw [np_148]; rfl) (ob_of (mk_46 _)) (Nat.le_of_ble_eq_true rfl) (c5  ) ?_
  show Bod _ _ _ _ [_] _ _ _
  exact Bod.retI dc_214_149 rt_214
theorem mCm_4 {d : Nat} {S : cS} {op : Nat} {S1 : cS} {S2 : cS} {u : Int64} {S3 : cS} {u1 : Int64} {S4 : cS} {rb : Int32} {S5 : cS} {rb1 : Int32} (mop : op < 2 ^ 20) (c1 : Ans (d + 8) 191 [.ref 53, .int (nI 2)] S (some (.int (nI 1))) S1) (c2 : Ans (d + 8) 135 [.ref 46, .int (nI 1)] S1 (some (.long u)) S2) (c3 : Ans (d + 8) 135 [.ref 46, .int (nI 0)] S2 (some (.long u1)) S3) (c4 : Ans (d + 8) 215 [.long u, .long u1] S3 (some (.int rb)) S4) (sw6 : op = 35) (w7 : sm_c1 .gt rb true false = false) (c5 : Ans (d + 8) 148 [.ref 46, .int (nI 2), .long ((2305843009213693952)), .long 1] S4 (some (.int rb1)) S5) : Bod (d + 8) 214 0 [(0, .ref 53), (1, .int (nI op))] [] S (some (.int rb1)) (S5) := by
  refine Bod.ic 0 (by decide) dc_214_0 ?_
  refine Bod.istn dc_214_1 (by rw [ml_214]; exact Nat.le_of_ble_eq_true rfl) ?_
  refine Bod.go dc_214_2 rfl ?_
  refine Bod.ic 2 (by decide) dc_214_3 ?_
  refine Bod.virt (r := []) dc_214_4 kr_214_39 ⟨Or.inl rfl, ow_191, cl_6⟩ (by rw [np_191]; rfl) (by rw [np_191]; rfl) (ob_of (mk_53 _)) (Nat.le_of_ble_eq_true rfl) (c1  ) ?_
  show Bod _ _ _ _ [_] _ _ _
  refine Bod.ifF dc_214_7 rfl (k1_eq_F (k_ne 1 0 rfl rfl (by omega) (by omega) (by omega))) ?_
  refine Bod.go dc_214_10 rfl ?_
  refine Bod.get dc_214_11 fr_214_15 (mk_53 _) rfl ?_
  refine Bod.ic 1 (by decide) dc_214_14 ?_
  refine Bod.virt (r := []) dc_214_15 kr_214_111 ⟨Or.inr rfl, ow_135, cl_9⟩ (by rw [np_135]; rfl) (by rw [np_135]; rfl) (ob_of (mk_46 _)) (Nat.le_of_ble_eq_true rfl) (c2  ) ?_
  show Bod _ _ _ _ [_] _ _ _
  refine Bod.go dc_214_18 rfl ?_
  refine Bod.get dc_214_19 fr_214_15 (mk_53 _) rfl ?_
  refine Bod.ic 0 (by decide) dc_214_22 ?_
  refine Bod.virt (r := [_]) dc_214_23 kr_214_111 ⟨Or.inr rfl, ow_135, cl_9⟩ (by rw [np_135]; rfl) (by rw [np_135]; rfl) (ob_of (mk_46 _)) (Nat.le_of_ble_eq_true rfl) (c3  ) ?_
  show Bod _ _ _ _ [_, _] _ _ _
  refine Bod.stat (r := []) dc_214_26 kr_214_159 (Or.inl rfl) (by rw [np_215]; rfl) (by rw [np_215]; rfl) (by rw [np_215]; exact Nat.le_of_ble_eq_true rfl) (Nat.le_of_ble_eq_true rfl) (c4  ) ?_
  show Bod _ _ _ _ [_] _ _ _
  refine Bod.istn dc_214_29 (by rw [ml_214]; exact Nat.le_of_ble_eq_true rfl) ?_
  refine Bod.go dc_214_30 rfl ?_
  refine Bod.ic 0 (by decide) dc_214_51 ?_
  refine Bod.istn dc_214_52 (by rw [ml_214]; exact Nat.le_of_ble_eq_true rfl) ?_
  refine Bod.go dc_214_53 rfl ?_
  refine Bod.sw (t := 93) dc_214_54 rfl rfl (by rw [sw6]; decide +kernel) ?_
  refine Bod.go dc_214_93 rfl ?_
  refine Bod.ifF dc_214_94 rfl w7 ?_
  refine Bod.ic 1 (by decide) dc_214_97 ?_
  refine Bod.go dc_214_98 rfl ?_
  refine Bod.istn dc_214_102 (by rw [ml_214]; exact Nat.le_of_ble_eq_true rfl) ?_
  refine Bod.go dc_214_103 rfl ?_
  refine Bod.go dc_214_129 rfl ?_
  refine Bod.get dc_214_130 fr_214_15 (mk_53 _) rfl ?_
  refine Bod.ic 2 (by decide) dc_214_133 ?_
  refine Bod.ldc2 dc_214_134 cj_214_23 ?_
  refine Bod.go dc_214_137 rfl ?_
  refine Bod.ifF dc_214_138 rfl (k1_eq_F (k_ne 1 0 rfl rfl (by omega) (by omega) (by omega))) ?_
  refine Bod.go dc_214_141 rfl ?_
  refine Bod.go dc_214_142 rfl ?_
  refine Bod.virt (r := []) dc_214_146 kr_214_31 ⟨Or.inr rfl, ow_148, cl_9⟩ (by rw [np_148]; rfl) (by rw [np_148]; rfl) (ob_of (mk_46 _)) (Nat.le_of_ble_eq_true rfl) (c5  ) ?_
  show Bod _ _ _ _ [_] _ _ _
  exact Bod.retI dc_214_149 rt_214
theorem mCm_5 {d : Nat} {S : cS} {op : Nat} {S1 : cS} {S2 : cS} {u : Int64} {S3 : cS} {u1 : Int64} {S4 : cS} {rb : Int32} {S5 : cS} {rb1 : Int32} (mop : op < 2 ^ 20) (c1 : Ans (d + 8) 191 [.ref 53, .int (nI 2)] S (some (.int (nI 1))) S1) (c2 : Ans (d + 8) 135 [.ref 46, .int (nI 1)] S1 (some (.long u)) S2) (c3 : Ans (d + 8) 135 [.ref 46, .int (nI 0)] S2 (some (.long u1)) S3) (c4 : Ans (d + 8) 215 [.long u, .long u1] S3 (some (.int rb)) S4) (sw6 : op = 36) (w7 : sm_c1 .le rb true false = true) (c5 : Ans (d + 8) 148 [.ref 46, .int (nI 2), .long ((2305843009213693952)), .long 0] S4 (some (.int rb1)) S5) : Bod (d + 8) 214 0 [(0, .ref 53), (1, .int (nI op))] [] S (some (.int rb1)) (S5) := by
  refine Bod.ic 0 (by decide) dc_214_0 ?_
  refine Bod.istn dc_214_1 (by rw [ml_214]; exact Nat.le_of_ble_eq_true rfl) ?_
  refine Bod.go dc_214_2 rfl ?_
  refine Bod.ic 2 (by decide) dc_214_3 ?_
  refine Bod.virt (r := []) dc_214_4 kr_214_39 ⟨Or.inl rfl, ow_191, cl_6⟩ (by rw [np_191]; rfl) (by rw [np_191]; rfl) (ob_of (mk_53 _)) (Nat.le_of_ble_eq_true rfl) (c1  ) ?_
  show Bod _ _ _ _ [_] _ _ _
  refine Bod.ifF dc_214_7 rfl (k1_eq_F (k_ne 1 0 rfl rfl (by omega) (by omega) (by omega))) ?_
  refine Bod.go dc_214_10 rfl ?_
  refine Bod.get dc_214_11 fr_214_15 (mk_53 _) rfl ?_
  refine Bod.ic 1 (by decide) dc_214_14 ?_
  refine Bod.virt (r := []) dc_214_15 kr_214_111 ⟨Or.inr rfl, ow_135, cl_9⟩ (by rw [np_135]; rfl) (by rw [np_135]; rfl) (ob_of (mk_46 _)) (Nat.le_of_ble_eq_true rfl) (c2  ) ?_
  show Bod _ _ _ _ [_] _ _ _
  refine Bod.go dc_214_18 rfl ?_
  refine Bod.get dc_214_19 fr_214_15 (mk_53 _) rfl ?_
  refine Bod.ic 0 (by decide) dc_214_22 ?_
  refine Bod.virt (r := [_]) dc_214_23 kr_214_111 ⟨Or.inr rfl, ow_135, cl_9⟩ (by rw [np_135]; rfl) (by rw [np_135]; rfl) (ob_of (mk_46 _)) (Nat.le_of_ble_eq_true rfl) (c3  ) ?_
  show Bod _ _ _ _ [_, _] _ _ _
  refine Bod.stat (r := []) dc_214_26 kr_214_159 (Or.inl rfl) (by rw [np_215]; rfl) (by rw [np_215]; rfl) (by rw [np_215]; exact Nat.le_of_ble_eq_true rfl) (Nat.le_of_ble_eq_true rfl) (c4  ) ?_
  show Bod _ _ _ _ [_] _ _ _
  refine Bod.istn dc_214_29 (by rw [ml_214]; exact Nat.le_of_ble_eq_true rfl) ?_
  refine Bod.go dc_214_30 rfl ?_
  refine Bod.ic 0 (by decide) dc_214_51 ?_
  refine Bod.istn dc_214_52 (by rw [ml_214]; exact Nat.le_of_ble_eq_true rfl) ?_
  refine Bod.go dc_214_53 rfl ?_
  refine Bod.sw (t := 106) dc_214_54 rfl rfl (by rw [sw6]; decide +kernel) ?_
  refine Bod.go dc_214_106 rfl ?_
  refine Bod.ifT dc_214_107 rfl w7 ?_
  refine Bod.ic 0 (by decide) dc_214_114 ?_
  refine Bod.istn dc_214_115 (by rw [ml_214]; exact Nat.le_of_ble_eq_true rfl) ?_
  refine Bod.go dc_214_116 rfl ?_
  refine Bod.go dc_214_129 rfl ?_
  refine Bod.get dc_214_130 fr_214_15 (mk_53 _) rfl ?_
  refine Bod.ic 2 (by decide) dc_214_133 ?_
  refine Bod.ldc2 dc_214_134 cj_214_23 ?_
  refine Bod.go dc_214_137 rfl ?_
  refine Bod.ifT dc_214_138 rfl (k1_eq_T (k_eq 0 0 rfl rfl (by omega))) ?_
  refine Bod.go dc_214_145 rfl ?_
  refine Bod.virt (r := []) dc_214_146 kr_214_31 ⟨Or.inr rfl, ow_148, cl_9⟩ (by rw [np_148]; rfl) (by rw [np_148]; rfl) (ob_of (mk_46 _)) (Nat.le_of_ble_eq_true rfl) (c5  ) ?_
  show Bod _ _ _ _ [_] _ _ _
  exact Bod.retI dc_214_149 rt_214
theorem mCm_6 {d : Nat} {S : cS} {op : Nat} {S1 : cS} {S2 : cS} {u : Int64} {S3 : cS} {u1 : Int64} {S4 : cS} {rb : Int32} {S5 : cS} {rb1 : Int32} (mop : op < 2 ^ 20) (c1 : Ans (d + 8) 191 [.ref 53, .int (nI 2)] S (some (.int (nI 1))) S1) (c2 : Ans (d + 8) 135 [.ref 46, .int (nI 1)] S1 (some (.long u)) S2) (c3 : Ans (d + 8) 135 [.ref 46, .int (nI 0)] S2 (some (.long u1)) S3) (c4 : Ans (d + 8) 215 [.long u, .long u1] S3 (some (.int rb)) S4) (sw6 : op = 36) (w7 : sm_c1 .le rb true false = false) (c5 : Ans (d + 8) 148 [.ref 46, .int (nI 2), .long ((2305843009213693952)), .long 1] S4 (some (.int rb1)) S5) : Bod (d + 8) 214 0 [(0, .ref 53), (1, .int (nI op))] [] S (some (.int rb1)) (S5) := by
  refine Bod.ic 0 (by decide) dc_214_0 ?_
  refine Bod.istn dc_214_1 (by rw [ml_214]; exact Nat.le_of_ble_eq_true rfl) ?_
  refine Bod.go dc_214_2 rfl ?_
  refine Bod.ic 2 (by decide) dc_214_3 ?_
  refine Bod.virt (r := []) dc_214_4 kr_214_39 ⟨Or.inl rfl, ow_191, cl_6⟩ (by rw [np_191]; rfl) (by rw [np_191]; rfl) (ob_of (mk_53 _)) (Nat.le_of_ble_eq_true rfl) (c1  ) ?_
  show Bod _ _ _ _ [_] _ _ _
  refine Bod.ifF dc_214_7 rfl (k1_eq_F (k_ne 1 0 rfl rfl (by omega) (by omega) (by omega))) ?_
  refine Bod.go dc_214_10 rfl ?_
  refine Bod.get dc_214_11 fr_214_15 (mk_53 _) rfl ?_
  refine Bod.ic 1 (by decide) dc_214_14 ?_
  refine Bod.virt (r := []) dc_214_15 kr_214_111 ⟨Or.inr rfl, ow_135, cl_9⟩ (by rw [np_135]; rfl) (by rw [np_135]; rfl) (ob_of (mk_46 _)) (Nat.le_of_ble_eq_true rfl) (c2  ) ?_
  show Bod _ _ _ _ [_] _ _ _
  refine Bod.go dc_214_18 rfl ?_
  refine Bod.get dc_214_19 fr_214_15 (mk_53 _) rfl ?_
  refine Bod.ic 0 (by decide) dc_214_22 ?_
  refine Bod.virt (r := [_]) dc_214_23 kr_214_111 ⟨Or.inr rfl, ow_135, cl_9⟩ (by rw [np_135]; rfl) (by rw [np_135]; rfl) (ob_of (mk_46 _)) (Nat.le_of_ble_eq_true rfl) (c3  ) ?_
  show Bod _ _ _ _ [_, _] _ _ _
  refine Bod.stat (r := []) dc_214_26 kr_214_159 (Or.inl rfl) (by rw [np_215]; rfl) (by rw [np_215]; rfl) (by rw [np_215]; exact Nat.le_of_ble_eq_true rfl) (Nat.le_of_ble_eq_true rfl) (c4  ) ?_
  show Bod _ _ _ _ [_] _ _ _
  refine Bod.istn dc_214_29 (by rw [ml_214]; exact Nat.le_of_ble_eq_true rfl) ?_
  refine Bod.go dc_214_30 rfl ?_
  refine Bod.ic 0 (by decide) dc_214_51 ?_
  refine Bod.istn dc_214_52 (by rw [ml_214]; exact Nat.le_of_ble_eq_true rfl) ?_
  refine Bod.go dc_214_53 rfl ?_
  refine Bod.sw (t := 106) dc_214_54 rfl rfl (by rw [sw6]; decide +kernel) ?_
  refine Bod.go dc_214_106 rfl ?_
  refine Bod.ifF dc_214_107 rfl w7 ?_
  refine Bod.ic 1 (by decide) dc_214_110 ?_
  refine Bod.go dc_214_111 rfl ?_
  refine Bod.istn dc_214_115 (by rw [ml_214]; exact Nat.le_of_ble_eq_true rfl) ?_
  refine Bod.go dc_214_116 rfl ?_
  refine Bod.go dc_214_129 rfl ?_
  refine Bod.get dc_214_130 fr_214_15 (mk_53 _) rfl ?_
  refine Bod.ic 2 (by decide) dc_214_133 ?_
  refine Bod.ldc2 dc_214_134 cj_214_23 ?_
  refine Bod.go dc_214_137 rfl ?_
  refine Bod.ifF dc_214_138 rfl (k1_eq_F (k_ne 1 0 rfl rfl (by omega) (by omega) (by omega))) ?_
  refine Bod.go dc_214_141 rfl ?_
  refine Bod.go dc_214_142 rfl ?_
  refine Bod.virt (r := []) dc_214_146 kr_214_31 ⟨Or.inr rfl, ow_148, cl_9⟩ (by rw [np_148]; rfl) (by rw [np_148]; rfl) (ob_of (mk_46 _)) (Nat.le_of_ble_eq_true rfl) (c5  ) ?_
  show Bod _ _ _ _ [_] _ _ _
  exact Bod.retI dc_214_149 rt_214
theorem mCm_7 {d : Nat} {S : cS} {op : Nat} {S1 : cS} {S2 : cS} {u : Int64} {S3 : cS} {u1 : Int64} {S4 : cS} {rb : Int32} {S5 : cS} {rb1 : Int32} (mop : op < 2 ^ 20) (c1 : Ans (d + 8) 191 [.ref 53, .int (nI 2)] S (some (.int (nI 1))) S1) (c2 : Ans (d + 8) 135 [.ref 46, .int (nI 1)] S1 (some (.long u)) S2) (c3 : Ans (d + 8) 135 [.ref 46, .int (nI 0)] S2 (some (.long u1)) S3) (c4 : Ans (d + 8) 215 [.long u, .long u1] S3 (some (.int rb)) S4) (b64 : op < 64) (n34 : op ≠ 34) (n35 : op ≠ 35) (n36 : op ≠ 36) (w10 : sm_c1 .lt rb true false = true) (c5 : Ans (d + 8) 148 [.ref 46, .int (nI 2), .long ((2305843009213693952)), .long 0] S4 (some (.int rb1)) S5) : Bod (d + 8) 214 0 [(0, .ref 53), (1, .int (nI op))] [] S (some (.int rb1)) (S5) := by
  refine Bod.ic 0 (by decide) dc_214_0 ?_
  refine Bod.istn dc_214_1 (by rw [ml_214]; exact Nat.le_of_ble_eq_true rfl) ?_
  refine Bod.go dc_214_2 rfl ?_
  refine Bod.ic 2 (by decide) dc_214_3 ?_
  refine Bod.virt (r := []) dc_214_4 kr_214_39 ⟨Or.inl rfl, ow_191, cl_6⟩ (by rw [np_191]; rfl) (by rw [np_191]; rfl) (ob_of (mk_53 _)) (Nat.le_of_ble_eq_true rfl) (c1  ) ?_
  show Bod _ _ _ _ [_] _ _ _
  refine Bod.ifF dc_214_7 rfl (k1_eq_F (k_ne 1 0 rfl rfl (by omega) (by omega) (by omega))) ?_
  refine Bod.go dc_214_10 rfl ?_
  refine Bod.get dc_214_11 fr_214_15 (mk_53 _) rfl ?_
  refine Bod.ic 1 (by decide) dc_214_14 ?_
  refine Bod.virt (r := []) dc_214_15 kr_214_111 ⟨Or.inr rfl, ow_135, cl_9⟩ (by rw [np_135]; rfl) (by rw [np_135]; rfl) (ob_of (mk_46 _)) (Nat.le_of_ble_eq_true rfl) (c2  ) ?_
  show Bod _ _ _ _ [_] _ _ _
  refine Bod.go dc_214_18 rfl ?_
  refine Bod.get dc_214_19 fr_214_15 (mk_53 _) rfl ?_
  refine Bod.ic 0 (by decide) dc_214_22 ?_
  refine Bod.virt (r := [_]) dc_214_23 kr_214_111 ⟨Or.inr rfl, ow_135, cl_9⟩ (by rw [np_135]; rfl) (by rw [np_135]; rfl) (ob_of (mk_46 _)) (Nat.le_of_ble_eq_true rfl) (c3  ) ?_
  show Bod _ _ _ _ [_, _] _ _ _
  refine Bod.stat (r := []) dc_214_26 kr_214_159 (Or.inl rfl) (by rw [np_215]; rfl) (by rw [np_215]; rfl) (by rw [np_215]; exact Nat.le_of_ble_eq_true rfl) (Nat.le_of_ble_eq_true rfl) (c4  ) ?_
  show Bod _ _ _ _ [_] _ _ _
  refine Bod.istn dc_214_29 (by rw [ml_214]; exact Nat.le_of_ble_eq_true rfl) ?_
  refine Bod.go dc_214_30 rfl ?_
  refine Bod.ic 0 (by decide) dc_214_51 ?_
  refine Bod.istn dc_214_52 (by rw [ml_214]; exact Nat.le_of_ble_eq_true rfl) ?_
  refine Bod.go dc_214_53 rfl ?_
  refine Bod.sw (t := 119) dc_214_54 rfl rfl (((((xsw_214_54 op b64).resolve_left n34).resolve_left n35).resolve_left n36)) ?_
  refine Bod.go dc_214_119 rfl ?_
  refine Bod.ifT dc_214_120 rfl w10 ?_
  refine Bod.ic 0 (by decide) dc_214_127 ?_
  refine Bod.istn dc_214_128 (by rw [ml_214]; exact Nat.le_of_ble_eq_true rfl) ?_
  refine Bod.go dc_214_129 rfl ?_
  refine Bod.get dc_214_130 fr_214_15 (mk_53 _) rfl ?_
  refine Bod.ic 2 (by decide) dc_214_133 ?_
  refine Bod.ldc2 dc_214_134 cj_214_23 ?_
  refine Bod.go dc_214_137 rfl ?_
  refine Bod.ifT dc_214_138 rfl (k1_eq_T (k_eq 0 0 rfl rfl (by omega))) ?_
  refine Bod.go dc_214_145 rfl ?_
  refine Bod.virt (r := []) dc_214_146 kr_214_31 ⟨Or.inr rfl, ow_148, cl_9⟩ (by rw [np_148]; rfl) (by rw [np_148]; rfl) (ob_of (mk_46 _)) (Nat.le_of_ble_eq_true rfl) (c5  ) ?_
  show Bod _ _ _ _ [_] _ _ _
  exact Bod.retI dc_214_149 rt_214
theorem mCm_8 {d : Nat} {S : cS} {op : Nat} {S1 : cS} {S2 : cS} {u : Int64} {S3 : cS} {u1 : Int64} {S4 : cS} {rb : Int32} {S5 : cS} {rb1 : Int32} (mop : op < 2 ^ 20) (c1 : Ans (d + 8) 191 [.ref 53, .int (nI 2)] S (some (.int (nI 1))) S1) (c2 : Ans (d + 8) 135 [.ref 46, .int (nI 1)] S1 (some (.long u)) S2) (c3 : Ans (d + 8) 135 [.ref 46, .int (nI 0)] S2 (some (.long u1)) S3) (c4 : Ans (d + 8) 215 [.long u, .long u1] S3 (some (.int rb)) S4) (b64 : op < 64) (n34 : op ≠ 34) (n35 : op ≠ 35) (n36 : op ≠ 36) (w10 : sm_c1 .lt rb true false = false) (c5 : Ans (d + 8) 148 [.ref 46, .int (nI 2), .long ((2305843009213693952)), .long 1] S4 (some (.int rb1)) S5) : Bod (d + 8) 214 0 [(0, .ref 53), (1, .int (nI op))] [] S (some (.int rb1)) (S5) := by
  refine Bod.ic 0 (by decide) dc_214_0 ?_
  refine Bod.istn dc_214_1 (by rw [ml_214]; exact Nat.le_of_ble_eq_true rfl) ?_
  refine Bod.go dc_214_2 rfl ?_
  refine Bod.ic 2 (by decide) dc_214_3 ?_
  refine Bod.virt (r := []) dc_214_4 kr_214_39 ⟨Or.inl rfl, ow_191, cl_6⟩ (by rw [np_191]; rfl) (by rw [np_191]; rfl) (ob_of (mk_53 _)) (Nat.le_of_ble_eq_true rfl) (c1  ) ?_
  show Bod _ _ _ _ [_] _ _ _
  refine Bod.ifF dc_214_7 rfl (k1_eq_F (k_ne 1 0 rfl rfl (by omega) (by omega) (by omega))) ?_
  refine Bod.go dc_214_10 rfl ?_
  refine Bod.get dc_214_11 fr_214_15 (mk_53 _) rfl ?_
  refine Bod.ic 1 (by decide) dc_214_14 ?_
  refine Bod.virt (r := []) dc_214_15 kr_214_111 ⟨Or.inr rfl, ow_135, cl_9⟩ (by rw [np_135]; rfl) (by rw [np_135]; rfl) (ob_of (mk_46 _)) (Nat.le_of_ble_eq_true rfl) (c2  ) ?_
  show Bod _ _ _ _ [_] _ _ _
  refine Bod.go dc_214_18 rfl ?_
  refine Bod.get dc_214_19 fr_214_15 (mk_53 _) rfl ?_
  refine Bod.ic 0 (by decide) dc_214_22 ?_
  refine Bod.virt (r := [_]) dc_214_23 kr_214_111 ⟨Or.inr rfl, ow_135, cl_9⟩ (by rw [np_135]; rfl) (by rw [np_135]; rfl) (ob_of (mk_46 _)) (Nat.le_of_ble_eq_true rfl) (c3  ) ?_
  show Bod _ _ _ _ [_, _] _ _ _
  refine Bod.stat (r := []) dc_214_26 kr_214_159 (Or.inl rfl) (by rw [np_215]; rfl) (by rw [np_215]; rfl) (by rw [np_215]; exact Nat.le_of_ble_eq_true rfl) (Nat.le_of_ble_eq_true rfl) (c4  ) ?_
  show Bod _ _ _ _ [_] _ _ _
  refine Bod.istn dc_214_29 (by rw [ml_214]; exact Nat.le_of_ble_eq_true rfl) ?_
  refine Bod.go dc_214_30 rfl ?_
  refine Bod.ic 0 (by decide) dc_214_51 ?_
  refine Bod.istn dc_214_52 (by rw [ml_214]; exact Nat.le_of_ble_eq_true rfl) ?_
  refine Bod.go dc_214_53 rfl ?_
  refine Bod.sw (t := 119) dc_214_54 rfl rfl (((((xsw_214_54 op b64).resolve_left n34).resolve_left n35).resolve_left n36)) ?_
  refine Bod.go dc_214_119 rfl ?_
  refine Bod.ifF dc_214_120 rfl w10 ?_
  refine Bod.ic 1 (by decide) dc_214_123 ?_
  refine Bod.go dc_214_124 rfl ?_
  refine Bod.istn dc_214_128 (by rw [ml_214]; exact Nat.le_of_ble_eq_true rfl) ?_
  refine Bod.go dc_214_129 rfl ?_
  refine Bod.get dc_214_130 fr_214_15 (mk_53 _) rfl ?_
  refine Bod.ic 2 (by decide) dc_214_133 ?_
  refine Bod.ldc2 dc_214_134 cj_214_23 ?_
  refine Bod.go dc_214_137 rfl ?_
  refine Bod.ifF dc_214_138 rfl (k1_eq_F (k_ne 1 0 rfl rfl (by omega) (by omega) (by omega))) ?_
  refine Bod.go dc_214_141 rfl ?_
  refine Bod.go dc_214_142 rfl ?_
  refine Bod.virt (r := []) dc_214_146 kr_214_31 ⟨Or.inr rfl, ow_148, cl_9⟩ (by rw [np_148]; rfl) (by rw [np_148]; rfl) (ob_of (mk_46 _)) (Nat.le_of_ble_eq_true rfl) (c5  ) ?_
  show Bod _ _ _ _ [_] _ _ _
  exact Bod.retI dc_214_149 rt_214
theorem mCm_9 {d : Nat} {S : cS} {op : Nat} {S1 : cS} {S2 : cS} {S3 : cS} {rb : Int32} {S4 : cS} {rb1 : Int32} (mop : op < 2 ^ 20) (c1 : Ans (d + 8) 191 [.ref 53, .int (nI 2)] S (some (.int (nI 0))) S1) (c2 : Ans (d + 8) 191 [.ref 53, .int (nI 3)] S1 (some (.int (nI 1))) S2) (c3 : Ans (d + 8) 216 [.ref 53] S2 (some (.int rb)) S3) (sw5 : op = 34) (w6 : sm_c1 .ge rb true false = true) (c4 : Ans (d + 8) 148 [.ref 46, .int (nI 2), .long ((2305843009213693952)), .long 0] S3 (some (.int rb1)) S4) : Bod (d + 8) 214 0 [(0, .ref 53), (1, .int (nI op))] [] S (some (.int rb1)) (S4) := by
  refine Bod.ic 0 (by decide) dc_214_0 ?_
  refine Bod.istn dc_214_1 (by rw [ml_214]; exact Nat.le_of_ble_eq_true rfl) ?_
  refine Bod.go dc_214_2 rfl ?_
  refine Bod.ic 2 (by decide) dc_214_3 ?_
  refine Bod.virt (r := []) dc_214_4 kr_214_39 ⟨Or.inl rfl, ow_191, cl_6⟩ (by rw [np_191]; rfl) (by rw [np_191]; rfl) (ob_of (mk_53 _)) (Nat.le_of_ble_eq_true rfl) (c1  ) ?_
  show Bod _ _ _ _ [_] _ _ _
  refine Bod.ifT dc_214_7 rfl (k1_eq_T (k_eq 0 0 rfl rfl (by omega))) ?_
  refine Bod.go dc_214_33 rfl ?_
  refine Bod.ic 3 (by decide) dc_214_34 ?_
  refine Bod.virt (r := []) dc_214_35 kr_214_39 ⟨Or.inl rfl, ow_191, cl_6⟩ (by rw [np_191]; rfl) (by rw [np_191]; rfl) (ob_of (mk_53 _)) (Nat.le_of_ble_eq_true rfl) (c2  ) ?_
  show Bod _ _ _ _ [_] _ _ _
  refine Bod.ifF dc_214_38 rfl (k1_eq_F (k_ne 1 0 rfl rfl (by omega) (by omega) (by omega))) ?_
  refine Bod.go dc_214_41 rfl ?_
  refine Bod.virt (r := []) dc_214_42 kr_214_164 ⟨Or.inl rfl, ow_216, cl_6⟩ (by rw [np_216]; rfl) (by rw [np_216]; rfl) (ob_of (mk_53 _)) (Nat.le_of_ble_eq_true rfl) (c3  ) ?_
  show Bod _ _ _ _ [_] _ _ _
  refine Bod.istn dc_214_45 (by rw [ml_214]; exact Nat.le_of_ble_eq_true rfl) ?_
  refine Bod.go dc_214_46 rfl ?_
  refine Bod.ic 0 (by decide) dc_214_51 ?_
  refine Bod.istn dc_214_52 (by rw [ml_214]; exact Nat.le_of_ble_eq_true rfl) ?_
  refine Bod.go dc_214_53 rfl ?_
  refine Bod.sw (t := 80) dc_214_54 rfl rfl (by rw [sw5]; decide +kernel) ?_
  refine Bod.go dc_214_80 rfl ?_
  refine Bod.ifT dc_214_81 rfl w6 ?_
  refine Bod.ic 0 (by decide) dc_214_88 ?_
  refine Bod.istn dc_214_89 (by rw [ml_214]; exact Nat.le_of_ble_eq_true rfl) ?_
  refine Bod.go dc_214_90 rfl ?_
  refine Bod.go dc_214_129 rfl ?_
  refine Bod.get dc_214_130 fr_214_15 (mk_53 _) rfl ?_
  refine Bod.ic 2 (by decide) dc_214_133 ?_
  refine Bod.ldc2 dc_214_134 cj_214_23 ?_
  refine Bod.go dc_214_137 rfl ?_
  refine Bod.ifT dc_214_138 rfl (k1_eq_T (k_eq 0 0 rfl rfl (by omega))) ?_
  refine Bod.go dc_214_145 rfl ?_
  refine Bod.virt (r := []) dc_214_146 kr_214_31 ⟨Or.inr rfl, ow_148, cl_9⟩ (by rw [np_148]; rfl) (by rw [np_148]; rfl) (ob_of (mk_46 _)) (Nat.le_of_ble_eq_true rfl) (c4  ) ?_
  show Bod _ _ _ _ [_] _ _ _
  exact Bod.retI dc_214_149 rt_214
theorem mCm_10 {d : Nat} {S : cS} {op : Nat} {S1 : cS} {S2 : cS} {S3 : cS} {rb : Int32} {S4 : cS} {rb1 : Int32} (mop : op < 2 ^ 20) (c1 : Ans (d + 8) 191 [.ref 53, .int (nI 2)] S (some (.int (nI 0))) S1) (c2 : Ans (d + 8) 191 [.ref 53, .int (nI 3)] S1 (some (.int (nI 1))) S2) (c3 : Ans (d + 8) 216 [.ref 53] S2 (some (.int rb)) S3) (sw5 : op = 34) (w6 : sm_c1 .ge rb true false = false) (c4 : Ans (d + 8) 148 [.ref 46, .int (nI 2), .long ((2305843009213693952)), .long 1] S3 (some (.int rb1)) S4) : Bod (d + 8) 214 0 [(0, .ref 53), (1, .int (nI op))] [] S (some (.int rb1)) (S4) := by
  refine Bod.ic 0 (by decide) dc_214_0 ?_
  refine Bod.istn dc_214_1 (by rw [ml_214]; exact Nat.le_of_ble_eq_true rfl) ?_
  refine Bod.go dc_214_2 rfl ?_
  refine Bod.ic 2 (by decide) dc_214_3 ?_
  refine Bod.virt (r := []) dc_214_4 kr_214_39 ⟨Or.inl rfl, ow_191, cl_6⟩ (by rw [np_191]; rfl) (by rw [np_191]; rfl) (ob_of (mk_53 _)) (Nat.le_of_ble_eq_true rfl) (c1  ) ?_
  show Bod _ _ _ _ [_] _ _ _
  refine Bod.ifT dc_214_7 rfl (k1_eq_T (k_eq 0 0 rfl rfl (by omega))) ?_
  refine Bod.go dc_214_33 rfl ?_
  refine Bod.ic 3 (by decide) dc_214_34 ?_
  refine Bod.virt (r := []) dc_214_35 kr_214_39 ⟨Or.inl rfl, ow_191, cl_6⟩ (by rw [np_191]; rfl) (by rw [np_191]; rfl) (ob_of (mk_53 _)) (Nat.le_of_ble_eq_true rfl) (c2  ) ?_
  show Bod _ _ _ _ [_] _ _ _
  refine Bod.ifF dc_214_38 rfl (k1_eq_F (k_ne 1 0 rfl rfl (by omega) (by omega) (by omega))) ?_
  refine Bod.go dc_214_41 rfl ?_
  refine Bod.virt (r := []) dc_214_42 kr_214_164 ⟨Or.inl rfl, ow_216, cl_6⟩ (by rw [np_216]; rfl) (by rw [np_216]; rfl) (ob_of (mk_53 _)) (Nat.le_of_ble_eq_true rfl) (c3  ) ?_
  show Bod _ _ _ _ [_] _ _ _
  refine Bod.istn dc_214_45 (by rw [ml_214]; exact Nat.le_of_ble_eq_true rfl) ?_
  refine Bod.go dc_214_46 rfl ?_
  refine Bod.ic 0 (by decide) dc_214_51 ?_
  refine Bod.istn dc_214_52 (by rw [ml_214]; exact Nat.le_of_ble_eq_true rfl) ?_
  refine Bod.go dc_214_53 rfl ?_
  refine Bod.sw (t := 80) dc_214_54 rfl rfl (by rw [sw5]; decide +kernel) ?_
  refine Bod.go dc_214_80 rfl ?_
  refine Bod.ifF dc_214_81 rfl w6 ?_
  refine Bod.ic 1 (by decide) dc_214_84 ?_
  refine Bod.go dc_214_85 rfl ?_
  refine Bod.istn dc_214_89 (by rw [ml_214]; exact Nat.le_of_ble_eq_true rfl) ?_
  refine Bod.go dc_214_90 rfl ?_
  refine Bod.go dc_214_129 rfl ?_
  refine Bod.get dc_214_130 fr_214_15 (mk_53 _) rfl ?_
  refine Bod.ic 2 (by decide) dc_214_133 ?_
  refine Bod.ldc2 dc_214_134 cj_214_23 ?_
  refine Bod.go dc_214_137 rfl ?_
  refine Bod.ifF dc_214_138 rfl (k1_eq_F (k_ne 1 0 rfl rfl (by omega) (by omega) (by omega))) ?_
  refine Bod.go dc_214_141 rfl ?_
  refine Bod.go dc_214_142 rfl ?_
  refine Bod.virt (r := []) dc_214_146 kr_214_31 ⟨Or.inr rfl, ow_148, cl_9⟩ (by rw [np_148]; rfl) (by rw [np_148]; rfl) (ob_of (mk_46 _)) (Nat.le_of_ble_eq_true rfl) (c4  ) ?_
  show Bod _ _ _ _ [_] _ _ _
  exact Bod.retI dc_214_149 rt_214
theorem mCm_11 {d : Nat} {S : cS} {op : Nat} {S1 : cS} {S2 : cS} {S3 : cS} {rb : Int32} {S4 : cS} {rb1 : Int32} (mop : op < 2 ^ 20) (c1 : Ans (d + 8) 191 [.ref 53, .int (nI 2)] S (some (.int (nI 0))) S1) (c2 : Ans (d + 8) 191 [.ref 53, .int (nI 3)] S1 (some (.int (nI 1))) S2) (c3 : Ans (d + 8) 216 [.ref 53] S2 (some (.int rb)) S3) (sw5 : op = 35) (w6 : sm_c1 .gt rb true false = true) (c4 : Ans (d + 8) 148 [.ref 46, .int (nI 2), .long ((2305843009213693952)), .long 0] S3 (some (.int rb1)) S4) : Bod (d + 8) 214 0 [(0, .ref 53), (1, .int (nI op))] [] S (some (.int rb1)) (S4) := by
  refine Bod.ic 0 (by decide) dc_214_0 ?_
  refine Bod.istn dc_214_1 (by rw [ml_214]; exact Nat.le_of_ble_eq_true rfl) ?_
  refine Bod.go dc_214_2 rfl ?_
  refine Bod.ic 2 (by decide) dc_214_3 ?_
  refine Bod.virt (r := []) dc_214_4 kr_214_39 ⟨Or.inl rfl, ow_191, cl_6⟩ (by rw [np_191]; rfl) (by rw [np_191]; rfl) (ob_of (mk_53 _)) (Nat.le_of_ble_eq_true rfl) (c1  ) ?_
  show Bod _ _ _ _ [_] _ _ _
  refine Bod.ifT dc_214_7 rfl (k1_eq_T (k_eq 0 0 rfl rfl (by omega))) ?_
  refine Bod.go dc_214_33 rfl ?_
  refine Bod.ic 3 (by decide) dc_214_34 ?_
  refine Bod.virt (r := []) dc_214_35 kr_214_39 ⟨Or.inl rfl, ow_191, cl_6⟩ (by rw [np_191]; rfl) (by rw [np_191]; rfl) (ob_of (mk_53 _)) (Nat.le_of_ble_eq_true rfl) (c2  ) ?_
  show Bod _ _ _ _ [_] _ _ _
  refine Bod.ifF dc_214_38 rfl (k1_eq_F (k_ne 1 0 rfl rfl (by omega) (by omega) (by omega))) ?_
  refine Bod.go dc_214_41 rfl ?_
  refine Bod.virt (r := []) dc_214_42 kr_214_164 ⟨Or.inl rfl, ow_216, cl_6⟩ (by rw [np_216]; rfl) (by rw [np_216]; rfl) (ob_of (mk_53 _)) (Nat.le_of_ble_eq_true rfl) (c3  ) ?_
  show Bod _ _ _ _ [_] _ _ _
  refine Bod.istn dc_214_45 (by rw [ml_214]; exact Nat.le_of_ble_eq_true rfl) ?_
  refine Bod.go dc_214_46 rfl ?_
  refine Bod.ic 0 (by decide) dc_214_51 ?_
  refine Bod.istn dc_214_52 (by rw [ml_214]; exact Nat.le_of_ble_eq_true rfl) ?_
  refine Bod.go dc_214_53 rfl ?_
  refine Bod.sw (t := 93) dc_214_54 rfl rfl (by rw [sw5]; decide +kernel) ?_
  refine Bod.go dc_214_93 rfl ?_
  refine Bod.ifT dc_214_94 rfl w6 ?_
  refine Bod.ic 0 (by decide) dc_214_101 ?_
  refine Bod.istn dc_214_102 (by rw [ml_214]; exact Nat.le_of_ble_eq_true rfl) ?_
  refine Bod.go dc_214_103 rfl ?_
  refine Bod.go dc_214_129 rfl ?_
  refine Bod.get dc_214_130 fr_214_15 (mk_53 _) rfl ?_
  refine Bod.ic 2 (by decide) dc_214_133 ?_
  refine Bod.ldc2 dc_214_134 cj_214_23 ?_
  refine Bod.go dc_214_137 rfl ?_
  refine Bod.ifT dc_214_138 rfl (k1_eq_T (k_eq 0 0 rfl rfl (by omega))) ?_
  refine Bod.go dc_214_145 rfl ?_
  refine Bod.virt (r := []) dc_214_146 kr_214_31 ⟨Or.inr rfl, ow_148, cl_9⟩ (by rw [np_148]; rfl) (by rw [np_148]; rfl) (ob_of (mk_46 _)) (Nat.le_of_ble_eq_true rfl) (c4  ) ?_
  show Bod _ _ _ _ [_] _ _ _
  exact Bod.retI dc_214_149 rt_214
theorem mCm_12 {d : Nat} {S : cS} {op : Nat} {S1 : cS} {S2 : cS} {S3 : cS} {rb : Int32} {S4 : cS} {rb1 : Int32} (mop : op < 2 ^ 20) (c1 : Ans (d + 8) 191 [.ref 53, .int (nI 2)] S (some (.int (nI 0))) S1) (c2 : Ans (d + 8) 191 [.ref 53, .int (nI 3)] S1 (some (.int (nI 1))) S2) (c3 : Ans (d + 8) 216 [.ref 53] S2 (some (.int rb)) S3) (sw5 : op = 35) (w6 : sm_c1 .gt rb true false = false) (c4 : Ans (d + 8) 148 [.ref 46, .int (nI 2), .long ((2305843009213693952)), .long 1] S3 (some (.int rb1)) S4) : Bod (d + 8) 214 0 [(0, .ref 53), (1, .int (nI op))] [] S (some (.int rb1)) (S4) := by
  refine Bod.ic 0 (by decide) dc_214_0 ?_
  refine Bod.istn dc_214_1 (by rw [ml_214]; exact Nat.le_of_ble_eq_true rfl) ?_
  refine Bod.go dc_214_2 rfl ?_
  refine Bod.ic 2 (by decide) dc_214_3 ?_
  refine Bod.virt (r := []) dc_214_4 kr_214_39 ⟨Or.inl rfl, ow_191, cl_6⟩ (by rw [np_191]; rfl) (by rw [np_191]; rfl) (ob_of (mk_53 _)) (Nat.le_of_ble_eq_true rfl) (c1  ) ?_
  show Bod _ _ _ _ [_] _ _ _
  refine Bod.ifT dc_214_7 rfl (k1_eq_T (k_eq 0 0 rfl rfl (by omega))) ?_
  refine Bod.go dc_214_33 rfl ?_
  refine Bod.ic 3 (by decide) dc_214_34 ?_
  refine Bod.virt (r := []) dc_214_35 kr_214_39 ⟨Or.inl rfl, ow_191, cl_6⟩ (by rw [np_191]; rfl) (by rw [np_191]; rfl) (ob_of (mk_53 _)) (Nat.le_of_ble_eq_true rfl) (c2  ) ?_
  show Bod _ _ _ _ [_] _ _ _
  refine Bod.ifF dc_214_38 rfl (k1_eq_F (k_ne 1 0 rfl rfl (by omega) (by omega) (by omega))) ?_
  refine Bod.go dc_214_41 rfl ?_
  refine Bod.virt (r := []) dc_214_42 kr_214_164 ⟨Or.inl rfl, ow_216, cl_6⟩ (by rw [np_216]; rfl) (by rw [np_216]; rfl) (ob_of (mk_53 _)) (Nat.le_of_ble_eq_true rfl) (c3  ) ?_
  show Bod _ _ _ _ [_] _ _ _
  refine Bod.istn dc_214_45 (by rw [ml_214]; exact Nat.le_of_ble_eq_true rfl) ?_
  refine Bod.go dc_214_46 rfl ?_
  refine Bod.ic 0 (by decide) dc_214_51 ?_
  refine Bod.istn dc_214_52 (by rw [ml_214]; exact Nat.le_of_ble_eq_true rfl) ?_
  refine Bod.go dc_214_53 rfl ?_
  refine Bod.sw (t := 93) dc_214_54 rfl rfl (by rw [sw5]; decide +kernel) ?_
  refine Bod.go dc_214_93 rfl ?_
  refine Bod.ifF dc_214_94 rfl w6 ?_
  refine Bod.ic 1 (by decide) dc_214_97 ?_
  refine Bod.go dc_214_98 rfl ?_
  refine Bod.istn dc_214_102 (by rw [ml_214]; exact Nat.le_of_ble_eq_true rfl) ?_
  refine Bod.go dc_214_103 rfl ?_
  refine Bod.go dc_214_129 rfl ?_
  refine Bod.get dc_214_130 fr_214_15 (mk_53 _) rfl ?_
  refine Bod.ic 2 (by decide) dc_214_133 ?_
  refine Bod.ldc2 dc_214_134 cj_214_23 ?_
  refine Bod.go dc_214_137 rfl ?_
  refine Bod.ifF dc_214_138 rfl (k1_eq_F (k_ne 1 0 rfl rfl (by omega) (by omega) (by omega))) ?_
  refine Bod.go dc_214_141 rfl ?_
  refine Bod.go dc_214_142 rfl ?_
  refine Bod.virt (r := []) dc_214_146 kr_214_31 ⟨Or.inr rfl, ow_148, cl_9⟩ (by rw [np_148]; rfl) (by rw [np_148]; rfl) (ob_of (mk_46 _)) (Nat.le_of_ble_eq_true rfl) (c4  ) ?_
  show Bod _ _ _ _ [_] _ _ _
  exact Bod.retI dc_214_149 rt_214
theorem mCm_13 {d : Nat} {S : cS} {op : Nat} {S1 : cS} {S2 : cS} {S3 : cS} {rb : Int32} {S4 : cS} {rb1 : Int32} (mop : op < 2 ^ 20) (c1 : Ans (d + 8) 191 [.ref 53, .int (nI 2)] S (some (.int (nI 0))) S1) (c2 : Ans (d + 8) 191 [.ref 53, .int (nI 3)] S1 (some (.int (nI 1))) S2) (c3 : Ans (d + 8) 216 [.ref 53] S2 (some (.int rb)) S3) (sw5 : op = 36) (w6 : sm_c1 .le rb true false = true) (c4 : Ans (d + 8) 148 [.ref 46, .int (nI 2), .long ((2305843009213693952)), .long 0] S3 (some (.int rb1)) S4) : Bod (d + 8) 214 0 [(0, .ref 53), (1, .int (nI op))] [] S (some (.int rb1)) (S4) := by
  refine Bod.ic 0 (by decide) dc_214_0 ?_
  refine Bod.istn dc_214_1 (by rw [ml_214]; exact Nat.le_of_ble_eq_true rfl) ?_
  refine Bod.go dc_214_2 rfl ?_
  refine Bod.ic 2 (by decide) dc_214_3 ?_
  refine Bod.virt (r := []) dc_214_4 kr_214_39 ⟨Or.inl rfl, ow_191, cl_6⟩ (by rw [np_191]; rfl) (by rw [np_191]; rfl) (ob_of (mk_53 _)) (Nat.le_of_ble_eq_true rfl) (c1  ) ?_
  show Bod _ _ _ _ [_] _ _ _
  refine Bod.ifT dc_214_7 rfl (k1_eq_T (k_eq 0 0 rfl rfl (by omega))) ?_
  refine Bod.go dc_214_33 rfl ?_
  refine Bod.ic 3 (by decide) dc_214_34 ?_
  refine Bod.virt (r := []) dc_214_35 kr_214_39 ⟨Or.inl rfl, ow_191, cl_6⟩ (by rw [np_191]; rfl) (by rw [np_191]; rfl) (ob_of (mk_53 _)) (Nat.le_of_ble_eq_true rfl) (c2  ) ?_
  show Bod _ _ _ _ [_] _ _ _
  refine Bod.ifF dc_214_38 rfl (k1_eq_F (k_ne 1 0 rfl rfl (by omega) (by omega) (by omega))) ?_
  refine Bod.go dc_214_41 rfl ?_
  refine Bod.virt (r := []) dc_214_42 kr_214_164 ⟨Or.inl rfl, ow_216, cl_6⟩ (by rw [np_216]; rfl) (by rw [np_216]; rfl) (ob_of (mk_53 _)) (Nat.le_of_ble_eq_true rfl) (c3  ) ?_
  show Bod _ _ _ _ [_] _ _ _
  refine Bod.istn dc_214_45 (by rw [ml_214]; exact Nat.le_of_ble_eq_true rfl) ?_
  refine Bod.go dc_214_46 rfl ?_
  refine Bod.ic 0 (by decide) dc_214_51 ?_
  refine Bod.istn dc_214_52 (by rw [ml_214]; exact Nat.le_of_ble_eq_true rfl) ?_
  refine Bod.go dc_214_53 rfl ?_
  refine Bod.sw (t := 106) dc_214_54 rfl rfl (by rw [sw5]; decide +kernel) ?_
  refine Bod.go dc_214_106 rfl ?_
  refine Bod.ifT dc_214_107 rfl w6 ?_
  refine Bod.ic 0 (by decide) dc_214_114 ?_
  refine Bod.istn dc_214_115 (by rw [ml_214]; exact Nat.le_of_ble_eq_true rfl) ?_
  refine Bod.go dc_214_116 rfl ?_
  refine Bod.go dc_214_129 rfl ?_
  refine Bod.get dc_214_130 fr_214_15 (mk_53 _) rfl ?_
  refine Bod.ic 2 (by decide) dc_214_133 ?_
  refine Bod.ldc2 dc_214_134 cj_214_23 ?_
  refine Bod.go dc_214_137 rfl ?_
  refine Bod.ifT dc_214_138 rfl (k1_eq_T (k_eq 0 0 rfl rfl (by omega))) ?_
  refine Bod.go dc_214_145 rfl ?_
  refine Bod.virt (r := []) dc_214_146 kr_214_31 ⟨Or.inr rfl, ow_148, cl_9⟩ (by rw [np_148]; rfl) (by rw [np_148]; rfl) (ob_of (mk_46 _)) (Nat.le_of_ble_eq_true rfl) (c4  ) ?_
  show Bod _ _ _ _ [_] _ _ _
  exact Bod.retI dc_214_149 rt_214
theorem mCm_14 {d : Nat} {S : cS} {op : Nat} {S1 : cS} {S2 : cS} {S3 : cS} {rb : Int32} {S4 : cS} {rb1 : Int32} (mop : op < 2 ^ 20) (c1 : Ans (d + 8) 191 [.ref 53, .int (nI 2)] S (some (.int (nI 0))) S1) (c2 : Ans (d + 8) 191 [.ref 53, .int (nI 3)] S1 (some (.int (nI 1))) S2) (c3 : Ans (d + 8) 216 [.ref 53] S2 (some (.int rb)) S3) (sw5 : op = 36) (w6 : sm_c1 .le rb true false = false) (c4 : Ans (d + 8) 148 [.ref 46, .int (nI 2), .long ((2305843009213693952)), .long 1] S3 (some (.int rb1)) S4) : Bod (d + 8) 214 0 [(0, .ref 53), (1, .int (nI op))] [] S (some (.int rb1)) (S4) := by
  refine Bod.ic 0 (by decide) dc_214_0 ?_
  refine Bod.istn dc_214_1 (by rw [ml_214]; exact Nat.le_of_ble_eq_true rfl) ?_
  refine Bod.go dc_214_2 rfl ?_
  refine Bod.ic 2 (by decide) dc_214_3 ?_
  refine Bod.virt (r := []) dc_214_4 kr_214_39 ⟨Or.inl rfl, ow_191, cl_6⟩ (by rw [np_191]; rfl) (by rw [np_191]; rfl) (ob_of (mk_53 _)) (Nat.le_of_ble_eq_true rfl) (c1  ) ?_
  show Bod _ _ _ _ [_] _ _ _
  refine Bod.ifT dc_214_7 rfl (k1_eq_T (k_eq 0 0 rfl rfl (by omega))) ?_
  refine Bod.go dc_214_33 rfl ?_
  refine Bod.ic 3 (by decide) dc_214_34 ?_
  refine Bod.virt (r := []) dc_214_35 kr_214_39 ⟨Or.inl rfl, ow_191, cl_6⟩ (by rw [np_191]; rfl) (by rw [np_191]; rfl) (ob_of (mk_53 _)) (Nat.le_of_ble_eq_true rfl) (c2  ) ?_
  show Bod _ _ _ _ [_] _ _ _
  refine Bod.ifF dc_214_38 rfl (k1_eq_F (k_ne 1 0 rfl rfl (by omega) (by omega) (by omega))) ?_
  refine Bod.go dc_214_41 rfl ?_
  refine Bod.virt (r := []) dc_214_42 kr_214_164 ⟨Or.inl rfl, ow_216, cl_6⟩ (by rw [np_216]; rfl) (by rw [np_216]; rfl) (ob_of (mk_53 _)) (Nat.le_of_ble_eq_true rfl) (c3  ) ?_
  show Bod _ _ _ _ [_] _ _ _
  refine Bod.istn dc_214_45 (by rw [ml_214]; exact Nat.le_of_ble_eq_true rfl) ?_
  refine Bod.go dc_214_46 rfl ?_
  refine Bod.ic 0 (by decide) dc_214_51 ?_
  refine Bod.istn dc_214_52 (by rw [ml_214]; exact Nat.le_of_ble_eq_true rfl) ?_
  refine Bod.go dc_214_53 rfl ?_
  refine Bod.sw (t := 106) dc_214_54 rfl rfl (by rw [sw5]; decide +kernel) ?_
  refine Bod.go dc_214_106 rfl ?_
  refine Bod.ifF dc_214_107 rfl w6 ?_
  refine Bod.ic 1 (by decide) dc_214_110 ?_
  refine Bod.go dc_214_111 rfl ?_
  refine Bod.istn dc_214_115 (by rw [ml_214]; exact Nat.le_of_ble_eq_true rfl) ?_
  refine Bod.go dc_214_116 rfl ?_
  refine Bod.go dc_214_129 rfl ?_
  refine Bod.get dc_214_130 fr_214_15 (mk_53 _) rfl ?_
  refine Bod.ic 2 (by decide) dc_214_133 ?_
  refine Bod.ldc2 dc_214_134 cj_214_23 ?_
  refine Bod.go dc_214_137 rfl ?_
  refine Bod.ifF dc_214_138 rfl (k1_eq_F (k_ne 1 0 rfl rfl (by omega) (by omega) (by omega))) ?_
  refine Bod.go dc_214_141 rfl ?_
  refine Bod.go dc_214_142 rfl ?_
  refine Bod.virt (r := []) dc_214_146 kr_214_31 ⟨Or.inr rfl, ow_148, cl_9⟩ (by rw [np_148]; rfl) (by rw [np_148]; rfl) (ob_of (mk_46 _)) (Nat.le_of_ble_eq_true rfl) (c4  ) ?_
  show Bod _ _ _ _ [_] _ _ _
  exact Bod.retI dc_214_149 rt_214
theorem mCm_15 {d : Nat} {S : cS} {op : Nat} {S1 : cS} {S2 : cS} {S3 : cS} {rb : Int32} {S4 : cS} {rb1 : Int32} (mop : op < 2 ^ 20) (c1 : Ans (d + 8) 191 [.ref 53, .int (nI 2)] S (some (.int (nI 0))) S1) (c2 : Ans (d + 8) 191 [.ref 53, .int (nI 3)] S1 (some (.int (nI 1))) S2) (c3 : Ans (d + 8) 216 [.ref 53] S2 (some (.int rb)) S3) (b64 : op < 64) (n34 : op ≠ 34) (n35 : op ≠ 35) (n36 : op ≠ 36) (w9 : sm_c1 .lt rb true false = true) (c4 : Ans (d + 8) 148 [.ref 46, .int (nI 2), .long ((2305843009213693952)), .long 0] S3 (some (.int rb1)) S4) : Bod (d + 8) 214 0 [(0, .ref 53), (1, .int (nI op))] [] S (some (.int rb1)) (S4) := by
  refine Bod.ic 0 (by decide) dc_214_0 ?_
  refine Bod.istn dc_214_1 (by rw [ml_214]; exact Nat.le_of_ble_eq_true rfl) ?_
  refine Bod.go dc_214_2 rfl ?_
  refine Bod.ic 2 (by decide) dc_214_3 ?_
  refine Bod.virt (r := []) dc_214_4 kr_214_39 ⟨Or.inl rfl, ow_191, cl_6⟩ (by rw [np_191]; rfl) (by rw [np_191]; rfl) (ob_of (mk_53 _)) (Nat.le_of_ble_eq_true rfl) (c1  ) ?_
  show Bod _ _ _ _ [_] _ _ _
  refine Bod.ifT dc_214_7 rfl (k1_eq_T (k_eq 0 0 rfl rfl (by omega))) ?_
  refine Bod.go dc_214_33 rfl ?_
  refine Bod.ic 3 (by decide) dc_214_34 ?_
  refine Bod.virt (r := []) dc_214_35 kr_214_39 ⟨Or.inl rfl, ow_191, cl_6⟩ (by rw [np_191]; rfl) (by rw [np_191]; rfl) (ob_of (mk_53 _)) (Nat.le_of_ble_eq_true rfl) (c2  ) ?_
  show Bod _ _ _ _ [_] _ _ _
  refine Bod.ifF dc_214_38 rfl (k1_eq_F (k_ne 1 0 rfl rfl (by omega) (by omega) (by omega))) ?_
  refine Bod.go dc_214_41 rfl ?_
  refine Bod.virt (r := []) dc_214_42 kr_214_164 ⟨Or.inl rfl, ow_216, cl_6⟩ (by rw [np_216]; rfl) (by rw [np_216]; rfl) (ob_of (mk_53 _)) (Nat.le_of_ble_eq_true rfl) (c3  ) ?_
  show Bod _ _ _ _ [_] _ _ _
  refine Bod.istn dc_214_45 (by rw [ml_214]; exact Nat.le_of_ble_eq_true rfl) ?_
  refine Bod.go dc_214_46 rfl ?_
  refine Bod.ic 0 (by decide) dc_214_51 ?_
  refine Bod.istn dc_214_52 (by rw [ml_214]; exact Nat.le_of_ble_eq_true rfl) ?_
  refine Bod.go dc_214_53 rfl ?_
  refine Bod.sw (t := 119) dc_214_54 rfl rfl (((((xsw_214_54 op b64).resolve_left n34).resolve_left n35).resolve_left n36)) ?_
  refine Bod.go dc_214_119 rfl ?_
  refine Bod.ifT dc_214_120 rfl w9 ?_
  refine Bod.ic 0 (by decide) dc_214_127 ?_
  refine Bod.istn dc_214_128 (by rw [ml_214]; exact Nat.le_of_ble_eq_true rfl) ?_
  refine Bod.go dc_214_129 rfl ?_
  refine Bod.get dc_214_130 fr_214_15 (mk_53 _) rfl ?_
  refine Bod.ic 2 (by decide) dc_214_133 ?_
  refine Bod.ldc2 dc_214_134 cj_214_23 ?_
  refine Bod.go dc_214_137 rfl ?_
  refine Bod.ifT dc_214_138 rfl (k1_eq_T (k_eq 0 0 rfl rfl (by omega))) ?_
  refine Bod.go dc_214_145 rfl ?_
  refine Bod.virt (r := []) dc_214_146 kr_214_31 ⟨Or.inr rfl, ow_148, cl_9⟩ (by rw [np_148]; rfl) (by rw [np_148]; rfl) (ob_of (mk_46 _)) (Nat.le_of_ble_eq_true rfl) (c4  ) ?_
  show Bod _ _ _ _ [_] _ _ _
  exact Bod.retI dc_214_149 rt_214
theorem mCm_16 {d : Nat} {S : cS} {op : Nat} {S1 : cS} {S2 : cS} {S3 : cS} {rb : Int32} {S4 : cS} {rb1 : Int32} (mop : op < 2 ^ 20) (c1 : Ans (d + 8) 191 [.ref 53, .int (nI 2)] S (some (.int (nI 0))) S1) (c2 : Ans (d + 8) 191 [.ref 53, .int (nI 3)] S1 (some (.int (nI 1))) S2) (c3 : Ans (d + 8) 216 [.ref 53] S2 (some (.int rb)) S3) (b64 : op < 64) (n34 : op ≠ 34) (n35 : op ≠ 35) (n36 : op ≠ 36) (w9 : sm_c1 .lt rb true false = false) (c4 : Ans (d + 8) 148 [.ref 46, .int (nI 2), .long ((2305843009213693952)), .long 1] S3 (some (.int rb1)) S4) : Bod (d + 8) 214 0 [(0, .ref 53), (1, .int (nI op))] [] S (some (.int rb1)) (S4) := by
  refine Bod.ic 0 (by decide) dc_214_0 ?_
  refine Bod.istn dc_214_1 (by rw [ml_214]; exact Nat.le_of_ble_eq_true rfl) ?_
  refine Bod.go dc_214_2 rfl ?_
  refine Bod.ic 2 (by decide) dc_214_3 ?_
  refine Bod.virt (r := []) dc_214_4 kr_214_39 ⟨Or.inl rfl, ow_191, cl_6⟩ (by rw [np_191]; rfl) (by rw [np_191]; rfl) (ob_of (mk_53 _)) (Nat.le_of_ble_eq_true rfl) (c1  ) ?_
  show Bod _ _ _ _ [_] _ _ _
  refine Bod.ifT dc_214_7 rfl (k1_eq_T (k_eq 0 0 rfl rfl (by omega))) ?_
  refine Bod.go dc_214_33 rfl ?_
  refine Bod.ic 3 (by decide) dc_214_34 ?_
  refine Bod.virt (r := []) dc_214_35 kr_214_39 ⟨Or.inl rfl, ow_191, cl_6⟩ (by rw [np_191]; rfl) (by rw [np_191]; rfl) (ob_of (mk_53 _)) (Nat.le_of_ble_eq_true rfl) (c2  ) ?_
  show Bod _ _ _ _ [_] _ _ _
  refine Bod.ifF dc_214_38 rfl (k1_eq_F (k_ne 1 0 rfl rfl (by omega) (by omega) (by omega))) ?_
  refine Bod.go dc_214_41 rfl ?_
  refine Bod.virt (r := []) dc_214_42 kr_214_164 ⟨Or.inl rfl, ow_216, cl_6⟩ (by rw [np_216]; rfl) (by rw [np_216]; rfl) (ob_of (mk_53 _)) (Nat.le_of_ble_eq_true rfl) (c3  ) ?_
  show Bod _ _ _ _ [_] _ _ _
  refine Bod.istn dc_214_45 (by rw [ml_214]; exact Nat.le_of_ble_eq_true rfl) ?_
  refine Bod.go dc_214_46 rfl ?_
  refine Bod.ic 0 (by decide) dc_214_51 ?_
  refine Bod.istn dc_214_52 (by rw [ml_214]; exact Nat.le_of_ble_eq_true rfl) ?_
  refine Bod.go dc_214_53 rfl ?_
  refine Bod.sw (t := 119) dc_214_54 rfl rfl (((((xsw_214_54 op b64).resolve_left n34).resolve_left n35).resolve_left n36)) ?_
  refine Bod.go dc_214_119 rfl ?_
  refine Bod.ifF dc_214_120 rfl w9 ?_
  refine Bod.ic 1 (by decide) dc_214_123 ?_
  refine Bod.go dc_214_124 rfl ?_
  refine Bod.istn dc_214_128 (by rw [ml_214]; exact Nat.le_of_ble_eq_true rfl) ?_
  refine Bod.go dc_214_129 rfl ?_
  refine Bod.get dc_214_130 fr_214_15 (mk_53 _) rfl ?_
  refine Bod.ic 2 (by decide) dc_214_133 ?_
  refine Bod.ldc2 dc_214_134 cj_214_23 ?_
  refine Bod.go dc_214_137 rfl ?_
  refine Bod.ifF dc_214_138 rfl (k1_eq_F (k_ne 1 0 rfl rfl (by omega) (by omega) (by omega))) ?_
  refine Bod.go dc_214_141 rfl ?_
  refine Bod.go dc_214_142 rfl ?_
  refine Bod.virt (r := []) dc_214_146 kr_214_31 ⟨Or.inr rfl, ow_148, cl_9⟩ (by rw [np_148]; rfl) (by rw [np_148]; rfl) (ob_of (mk_46 _)) (Nat.le_of_ble_eq_true rfl) (c4  ) ?_
  show Bod _ _ _ _ [_] _ _ _
  exact Bod.retI dc_214_149 rt_214
theorem mCm_17 {d : Nat} {S : cS} {op : Nat} {S1 : cS} {S2 : cS} (mop : op < 2 ^ 20) (c1 : Ans (d + 8) 191 [.ref 53, .int (nI 2)] S (some (.int (nI 0))) S1) (c2 : Ans (d + 8) 191 [.ref 53, .int (nI 3)] S1 (some (.int (nI 0))) S2) : Bod (d + 8) 214 0 [(0, .ref 53), (1, .int (nI op))] [] S (some (.int (nI 2))) (S2) := by
  refine Bod.ic 0 (by decide) dc_214_0 ?_
  refine Bod.istn dc_214_1 (by rw [ml_214]; exact Nat.le_of_ble_eq_true rfl) ?_
  refine Bod.go dc_214_2 rfl ?_
  refine Bod.ic 2 (by decide) dc_214_3 ?_
  refine Bod.virt (r := []) dc_214_4 kr_214_39 ⟨Or.inl rfl, ow_191, cl_6⟩ (by rw [np_191]; rfl) (by rw [np_191]; rfl) (ob_of (mk_53 _)) (Nat.le_of_ble_eq_true rfl) (c1  ) ?_
  show Bod _ _ _ _ [_] _ _ _
  refine Bod.ifT dc_214_7 rfl (k1_eq_T (k_eq 0 0 rfl rfl (by omega))) ?_
  refine Bod.go dc_214_33 rfl ?_
  refine Bod.ic 3 (by decide) dc_214_34 ?_
  refine Bod.virt (r := []) dc_214_35 kr_214_39 ⟨Or.inl rfl, ow_191, cl_6⟩ (by rw [np_191]; rfl) (by rw [np_191]; rfl) (ob_of (mk_53 _)) (Nat.le_of_ble_eq_true rfl) (c2  ) ?_
  show Bod _ _ _ _ [_] _ _ _
  refine Bod.ifT dc_214_38 rfl (k1_eq_T (k_eq 0 0 rfl rfl (by omega))) ?_
  refine Bod.ic 2 (by decide) dc_214_49 ?_
  exact Bod.retI dc_214_50 rt_214
theorem mCs_1 {d : Nat} {S : cS} {S1 : cS} {u : Int64} {S2 : cS} {u1 : Int64} {S3 : cS} {rb : Int32} {S4 : cS} {u2 : Int64} {S5 : cS} {u3 : Int64} {S6 : cS} {rb1 : Int32} (c1 : Ans (d + 8) 132 [.ref 46, .int (nI 1)] S (some (.long u)) S1) (c2 : Ans (d + 8) 132 [.ref 46, .int (nI 0)] S1 (some (.long u1)) S2) (c3 : Ans (d + 8) 215 [.long (u &&& ((72057594037927935))), .long (u1 &&& ((72057594037927935)))] S2 (some (.int rb)) S3) (w4 : sm_c1 .eq rb true false = true) (c4 : Ans (d + 8) 135 [.ref 46, .int (nI 1)] S3 (some (.long u2)) S4) (c5 : Ans (d + 8) 135 [.ref 46, .int (nI 0)] S4 (some (.long u3)) S5) (c6 : Ans (d + 8) 215 [.long u2, .long u3] S5 (some (.int rb1)) S6) : Bod (d + 8) 216 0 [(0, .ref 53)] [] S (some (.int rb1)) (S6) := by
  refine Bod.ldc2 dc_216_0 cj_216_167 ?_
  refine Bod.lstn dc_216_3 (by rw [ml_216]; exact Nat.le_of_ble_eq_true rfl) ?_
  refine Bod.go dc_216_4 rfl ?_
  refine Bod.get dc_216_5 fr_216_15 (mk_53 _) rfl ?_
  refine Bod.ic 1 (by decide) dc_216_8 ?_
  refine Bod.virt (r := []) dc_216_9 kr_216_70 ⟨Or.inr rfl, ow_132, cl_9⟩ (by rw [np_132]; rfl) (by rw [np_132]; rfl) (ob_of (mk_46 _)) (Nat.le_of_ble_eq_true rfl) (c1  ) ?_
  show Bod _ _ _ _ [_] _ _ _
  refine Bod.go dc_216_12 rfl ?_
  refine Bod.go dc_216_13 rfl ?_
  refine Bod.go dc_216_14 rfl ?_
  refine Bod.get dc_216_15 fr_216_15 (mk_53 _) rfl ?_
  refine Bod.ic 0 (by decide) dc_216_18 ?_
  refine Bod.virt (r := [_]) dc_216_19 kr_216_70 ⟨Or.inr rfl, ow_132, cl_9⟩ (by rw [np_132]; rfl) (by rw [np_132]; rfl) (ob_of (mk_46 _)) (Nat.le_of_ble_eq_true rfl) (c2  ) ?_
  show Bod _ _ _ _ [_, _] _ _ _
  refine Bod.go dc_216_22 rfl ?_
  refine Bod.go dc_216_23 rfl ?_
  refine Bod.stat (r := []) dc_216_24 kr_216_159 (Or.inl rfl) (by rw [np_215]; rfl) (by rw [np_215]; rfl) (by rw [np_215]; exact Nat.le_of_ble_eq_true rfl) (Nat.le_of_ble_eq_true rfl) (c3  ) ?_
  show Bod _ _ _ _ [_] _ _ _
  refine Bod.istn dc_216_27 (by rw [ml_216]; exact Nat.le_of_ble_eq_true rfl) ?_
  refine Bod.go dc_216_28 rfl ?_
  refine Bod.ifT dc_216_29 rfl w4 ?_
  refine Bod.go dc_216_36 rfl ?_
  refine Bod.get dc_216_37 fr_216_15 (mk_53 _) rfl ?_
  refine Bod.ic 1 (by decide) dc_216_40 ?_
  refine Bod.virt (r := []) dc_216_41 kr_216_111 ⟨Or.inr rfl, ow_135, cl_9⟩ (by rw [np_135]; rfl) (by rw [np_135]; rfl) (ob_of (mk_46 _)) (Nat.le_of_ble_eq_true rfl) (c4  ) ?_
  show Bod _ _ _ _ [_] _ _ _
  refine Bod.go dc_216_44 rfl ?_
  refine Bod.get dc_216_45 fr_216_15 (mk_53 _) rfl ?_
  refine Bod.ic 0 (by decide) dc_216_48 ?_
  refine Bod.virt (r := [_]) dc_216_49 kr_216_111 ⟨Or.inr rfl, ow_135, cl_9⟩ (by rw [np_135]; rfl) (by rw [np_135]; rfl) (ob_of (mk_46 _)) (Nat.le_of_ble_eq_true rfl) (c5  ) ?_
  show Bod _ _ _ _ [_, _] _ _ _
  refine Bod.stat (r := []) dc_216_52 kr_216_159 (Or.inl rfl) (by rw [np_215]; rfl) (by rw [np_215]; rfl) (by rw [np_215]; exact Nat.le_of_ble_eq_true rfl) (Nat.le_of_ble_eq_true rfl) (c6  ) ?_
  show Bod _ _ _ _ [_] _ _ _
  exact Bod.retI dc_216_55 rt_216
theorem mCs_2 {d : Nat} {S : cS} {S1 : cS} {u : Int64} {S2 : cS} {u1 : Int64} {S3 : cS} {rb : Int32} (c1 : Ans (d + 8) 132 [.ref 46, .int (nI 1)] S (some (.long u)) S1) (c2 : Ans (d + 8) 132 [.ref 46, .int (nI 0)] S1 (some (.long u1)) S2) (c3 : Ans (d + 8) 215 [.long (u &&& ((72057594037927935))), .long (u1 &&& ((72057594037927935)))] S2 (some (.int rb)) S3) (w4 : sm_c1 .eq rb true false = false) : Bod (d + 8) 216 0 [(0, .ref 53)] [] S (some (.int rb)) (S3) := by
  refine Bod.ldc2 dc_216_0 cj_216_167 ?_
  refine Bod.lstn dc_216_3 (by rw [ml_216]; exact Nat.le_of_ble_eq_true rfl) ?_
  refine Bod.go dc_216_4 rfl ?_
  refine Bod.get dc_216_5 fr_216_15 (mk_53 _) rfl ?_
  refine Bod.ic 1 (by decide) dc_216_8 ?_
  refine Bod.virt (r := []) dc_216_9 kr_216_70 ⟨Or.inr rfl, ow_132, cl_9⟩ (by rw [np_132]; rfl) (by rw [np_132]; rfl) (ob_of (mk_46 _)) (Nat.le_of_ble_eq_true rfl) (c1  ) ?_
  show Bod _ _ _ _ [_] _ _ _
  refine Bod.go dc_216_12 rfl ?_
  refine Bod.go dc_216_13 rfl ?_
  refine Bod.go dc_216_14 rfl ?_
  refine Bod.get dc_216_15 fr_216_15 (mk_53 _) rfl ?_
  refine Bod.ic 0 (by decide) dc_216_18 ?_
  refine Bod.virt (r := [_]) dc_216_19 kr_216_70 ⟨Or.inr rfl, ow_132, cl_9⟩ (by rw [np_132]; rfl) (by rw [np_132]; rfl) (ob_of (mk_46 _)) (Nat.le_of_ble_eq_true rfl) (c2  ) ?_
  show Bod _ _ _ _ [_, _] _ _ _
  refine Bod.go dc_216_22 rfl ?_
  refine Bod.go dc_216_23 rfl ?_
  refine Bod.stat (r := []) dc_216_24 kr_216_159 (Or.inl rfl) (by rw [np_215]; rfl) (by rw [np_215]; rfl) (by rw [np_215]; exact Nat.le_of_ble_eq_true rfl) (Nat.le_of_ble_eq_true rfl) (c3  ) ?_
  show Bod _ _ _ _ [_] _ _ _
  refine Bod.istn dc_216_27 (by rw [ml_216]; exact Nat.le_of_ble_eq_true rfl) ?_
  refine Bod.go dc_216_28 rfl ?_
  refine Bod.ifF dc_216_29 rfl w4 ?_
  refine Bod.go dc_216_32 rfl ?_
  refine Bod.go dc_216_33 rfl ?_
  exact Bod.retI dc_216_55 rt_216
theorem mAt_1 {d : Nat} {S : cS} {nm : Nat} {nt : Nat} {S1 : cS} {a : Nat} {S2 : cS} {S3 : cS} {u : Int64} {S4 : cS} {u1 : Int64} {S5 : cS} {a1 : Nat} {S6 : cS} {rb : Int32} {S7 : cS} {rb1 : Int32} {S8 : cS} {u2 : Int64} {S9 : cS} {u3 : Int64} {S10 : cS} {rb2 : Int32} {S11 : cS} {rb3 : Int32} (mnm : nm < 2 ^ 20) (mnt : nt < 2 ^ 20) (ma : a < 2 ^ 20) (c1 : Ans (d + 8) 136 [.ref 46, .int (nI 0)] S (some (.int (nI a))) S1) (c2 : Ans (d + 8) 219 [.ref 53, .int (nI a)] S1 (some (.int (nI 1))) S2) (c3 : Ans (d + 8) 181 [.ref 16, .int (nI nm)] S2 (some (.long u)) S3) (c4 : Ans (d + 8) 182 [.ref 16, .int (nI nm)] S3 (some (.long u1)) S4) (ma1 : a1 < 2 ^ 20) (c5 : Ans (d + 8) 138 [.ref 2, .int (nI a)] S4 (some (.int (nI a1))) S5) (b1 : a1 ≠ 5) (c6 : Ans (d + 8) 220 [.ref 2, .int (nI a), .long u, .long u1] S5 (some (.int rb)) S6) (w12 : sm_c1 .ne rb true false = true) (c7 : Ans (d + 8) 206 [.ref 2, .int rb, .long u, .long u1] S6 (some (.int rb1)) S7) (c8 : Ans (d + 8) 156 [.ref 2, .int rb, .int rb1] S7 (some (.long u2)) S8) (c9 : Ans (d + 8) 158 [.ref 2, .int rb, .int rb1] S8 (some (.long u3)) S9) (c10 : Ans (d + 8) 137 [.long u2, .long u3] S9 (some (.int rb2)) S10) (c11 : Ans (d + 8) 148 [.ref 46, .int (nI nt), .long u2, .long u3] S10 (some (.int rb3)) S11) : Bod (d + 8) 218 0 [(0, .ref 53), (1, .int (nI nm)), (2, .int (nI nt))] [] S (some (.int rb3)) (S11) := by
  refine Bod.go dc_218_0 rfl ?_
  refine Bod.get dc_218_1 fr_218_15 (mk_53 _) rfl ?_
  refine Bod.ic 0 (by decide) dc_218_4 ?_
  refine Bod.virt (r := []) dc_218_5 kr_218_169 ⟨Or.inr rfl, ow_136, cl_9⟩ (by rw [np_136]; rfl) (by rw [np_136]; rfl) (ob_of (mk_46 _)) (Nat.le_of_ble_eq_true rfl) (c1  ) ?_
  show Bod _ _ _ _ [_] _ _ _
  refine Bod.istn dc_218_8 (by rw [ml_218]; exact Nat.le_of_ble_eq_true rfl) ?_
  refine Bod.go dc_218_9 rfl ?_
  refine Bod.go dc_218_10 rfl ?_
  refine Bod.virt (r := []) dc_218_11 kr_218_212 ⟨Or.inl rfl, ow_219, cl_6⟩ (by rw [np_219]; rfl) (by rw [np_219]; rfl) (ob_of (mk_53 _)) (Nat.le_of_ble_eq_true rfl) (c2  ) ?_
  show Bod _ _ _ _ [_] _ _ _
  refine Bod.ifT dc_218_14 rfl (k1_ne_T (k_ne 1 0 rfl rfl (by omega) (by omega) (by omega))) ?_
  refine Bod.go dc_218_19 rfl ?_
  refine Bod.get dc_218_20 fr_218_19 (mk_53 _) rfl ?_
  refine Bod.go dc_218_23 rfl ?_
  refine Bod.virt (r := []) dc_218_24 kr_218_215 ⟨Or.inr rfl, ow_181, cl_5⟩ (by rw [np_181]; rfl) (by rw [np_181]; rfl) (ob_of (mk_16 _)) (Nat.le_of_ble_eq_true rfl) (c3  ) ?_
  show Bod _ _ _ _ [_] _ _ _
  refine Bod.lst dc_218_27 (by rw [ml_218]; exact Nat.le_of_ble_eq_true rfl) ?_
  refine Bod.go dc_218_29 rfl ?_
  refine Bod.get dc_218_30 fr_218_19 (mk_53 _) rfl ?_
  refine Bod.go dc_218_33 rfl ?_
  refine Bod.virt (r := []) dc_218_34 kr_218_220 ⟨Or.inr rfl, ow_182, cl_5⟩ (by rw [np_182]; rfl) (by rw [np_182]; rfl) (ob_of (mk_16 _)) (Nat.le_of_ble_eq_true rfl) (c4  ) ?_
  show Bod _ _ _ _ [_] _ _ _
  refine Bod.lst dc_218_37 (by rw [ml_218]; exact Nat.le_of_ble_eq_true rfl) ?_
  refine Bod.go dc_218_39 rfl ?_
  refine Bod.get dc_218_40 fr_218_9 (mk_53 _) rfl ?_
  refine Bod.go dc_218_43 rfl ?_
  refine Bod.virt (r := []) dc_218_44 kr_218_171 ⟨Or.inr rfl, ow_138, cl_2⟩ (by rw [np_138]; rfl) (by rw [np_138]; rfl) (ob_of (mk_2 _)) (Nat.le_of_ble_eq_true rfl) (c5  ) ?_
  show Bod _ _ _ _ [_] _ _ _
  refine Bod.ic 5 (by decide) dc_218_47 ?_
  refine Bod.icT dc_218_48 rfl (k2_ne_T (k_ne a1 5 rfl rfl (by omega) (by omega) (by omega))) ?_
  refine Bod.ic 0 (by decide) dc_218_70 ?_
  refine Bod.ist dc_218_71 (by rw [ml_218]; exact Nat.le_of_ble_eq_true rfl) ?_
  refine Bod.go dc_218_73 rfl ?_
  refine Bod.get dc_218_74 fr_218_9 (mk_53 _) rfl ?_
  refine Bod.go dc_218_77 rfl ?_
  refine Bod.ifT dc_218_79 rfl (k1_eq_T (k_eq 0 0 rfl rfl (by omega))) ?_
  refine Bod.go dc_218_93 rfl ?_
  refine Bod.go dc_218_94 rfl ?_
  refine Bod.go dc_218_96 rfl ?_
  refine Bod.virt (r := []) dc_218_98 kr_218_226 ⟨Or.inr rfl, ow_220, cl_2⟩ (by rw [np_220]; rfl) (by rw [np_220]; rfl) (ob_of (mk_2 _)) (Nat.le_of_ble_eq_true rfl) (c6  ) ?_
  show Bod _ _ _ _ [_] _ _ _
  refine Bod.ist dc_218_101 (by rw [ml_218]; exact Nat.le_of_ble_eq_true rfl) ?_
  refine Bod.go dc_218_103 rfl ?_
  refine Bod.ifT dc_218_105 rfl w12 ?_
  refine Bod.go dc_218_111 rfl ?_
  refine Bod.get dc_218_112 fr_218_9 (mk_53 _) rfl ?_
  refine Bod.go dc_218_115 rfl ?_
  refine Bod.go dc_218_117 rfl ?_
  refine Bod.go dc_218_119 rfl ?_
  refine Bod.virt (r := []) dc_218_121 kr_218_178 ⟨Or.inr rfl, ow_206, cl_2⟩ (by rw [np_206]; rfl) (by rw [np_206]; rfl) (ob_of (mk_2 _)) (Nat.le_of_ble_eq_true rfl) (c7  ) ?_
  show Bod _ _ _ _ [_] _ _ _
  refine Bod.ist dc_218_124 (by rw [ml_218]; exact Nat.le_of_ble_eq_true rfl) ?_
  refine Bod.go dc_218_126 rfl ?_
  refine Bod.get dc_218_127 fr_218_9 (mk_53 _) rfl ?_
  refine Bod.go dc_218_130 rfl ?_
  refine Bod.go dc_218_132 rfl ?_
  refine Bod.virt (r := []) dc_218_134 kr_218_181 ⟨Or.inr rfl, ow_156, cl_2⟩ (by rw [np_156]; rfl) (by rw [np_156]; rfl) (ob_of (mk_2 _)) (Nat.le_of_ble_eq_true rfl) (c8  ) ?_
  show Bod _ _ _ _ [_] _ _ _
  refine Bod.lst dc_218_137 (by rw [ml_218]; exact Nat.le_of_ble_eq_true rfl) ?_
  refine Bod.go dc_218_139 rfl ?_
  refine Bod.get dc_218_140 fr_218_9 (mk_53 _) rfl ?_
  refine Bod.go dc_218_143 rfl ?_
  refine Bod.go dc_218_145 rfl ?_
  refine Bod.virt (r := []) dc_218_147 kr_218_185 ⟨Or.inr rfl, ow_158, cl_2⟩ (by rw [np_158]; rfl) (by rw [np_158]; rfl) (ob_of (mk_2 _)) (Nat.le_of_ble_eq_true rfl) (c9  ) ?_
  show Bod _ _ _ _ [_] _ _ _
  refine Bod.lst dc_218_150 (by rw [ml_218]; exact Nat.le_of_ble_eq_true rfl) ?_
  refine Bod.go dc_218_152 rfl ?_
  refine Bod.go dc_218_154 rfl ?_
  refine Bod.stat (r := []) dc_218_156 kr_218_229 (Or.inr rfl) (by rw [np_137]; rfl) (by rw [np_137]; rfl) (by rw [np_137]; exact Nat.le_of_ble_eq_true rfl) (Nat.le_of_ble_eq_true rfl) (c10  ) ?_
  show Bod _ _ _ _ [_] _ _ _
  refine Bod.ist dc_218_159 (by rw [ml_218]; exact Nat.le_of_ble_eq_true rfl) ?_
  refine Bod.go dc_218_161 rfl ?_
  refine Bod.ifT dc_218_163 rfl (k1_eq_T (k_eq 0 0 rfl rfl (by omega))) ?_
  refine Bod.go dc_218_179 rfl ?_
  refine Bod.get dc_218_180 fr_218_15 (mk_53 _) rfl ?_
  refine Bod.go dc_218_183 rfl ?_
  refine Bod.go dc_218_184 rfl ?_
  refine Bod.go dc_218_186 rfl ?_
  refine Bod.virt (r := []) dc_218_188 kr_218_31 ⟨Or.inr rfl, ow_148, cl_9⟩ (by rw [np_148]; rfl) (by rw [np_148]; rfl) (ob_of (mk_46 _)) (Nat.le_of_ble_eq_true rfl) (c11  ) ?_
  show Bod _ _ _ _ [_] _ _ _
  exact Bod.retI dc_218_191 rt_218
theorem mAt_2 {d : Nat} {S : cS} {nm : Nat} {nt : Nat} {S1 : cS} {a : Nat} {S2 : cS} {S3 : cS} {u : Int64} {S4 : cS} {u1 : Int64} {S5 : cS} {a1 : Nat} {S6 : cS} {rb : Int32} (mnm : nm < 2 ^ 20) (mnt : nt < 2 ^ 20) (ma : a < 2 ^ 20) (c1 : Ans (d + 8) 136 [.ref 46, .int (nI 0)] S (some (.int (nI a))) S1) (c2 : Ans (d + 8) 219 [.ref 53, .int (nI a)] S1 (some (.int (nI 1))) S2) (c3 : Ans (d + 8) 181 [.ref 16, .int (nI nm)] S2 (some (.long u)) S3) (c4 : Ans (d + 8) 182 [.ref 16, .int (nI nm)] S3 (some (.long u1)) S4) (ma1 : a1 < 2 ^ 20) (c5 : Ans (d + 8) 138 [.ref 2, .int (nI a)] S4 (some (.int (nI a1))) S5) (b1 : a1 ≠ 5) (c6 : Ans (d + 8) 220 [.ref 2, .int (nI a), .long u, .long u1] S5 (some (.int rb)) S6) (w12 : sm_c1 .ne rb true false = false) : Bod (d + 8) 218 0 [(0, .ref 53), (1, .int (nI nm)), (2, .int (nI nt))] [] S (some (.int (nI 9))) (S6) := by
  refine Bod.go dc_218_0 rfl ?_
  refine Bod.get dc_218_1 fr_218_15 (mk_53 _) rfl ?_
  refine Bod.ic 0 (by decide) dc_218_4 ?_
  refine Bod.virt (r := []) dc_218_5 kr_218_169 ⟨Or.inr rfl, ow_136, cl_9⟩ (by rw [np_136]; rfl) (by rw [np_136]; rfl) (ob_of (mk_46 _)) (Nat.le_of_ble_eq_true rfl) (c1  ) ?_
  show Bod _ _ _ _ [_] _ _ _
  refine Bod.istn dc_218_8 (by rw [ml_218]; exact Nat.le_of_ble_eq_true rfl) ?_
  refine Bod.go dc_218_9 rfl ?_
  refine Bod.go dc_218_10 rfl ?_
  refine Bod.virt (r := []) dc_218_11 kr_218_212 ⟨Or.inl rfl, ow_219, cl_6⟩ (by rw [np_219]; rfl) (by rw [np_219]; rfl) (ob_of (mk_53 _)) (Nat.le_of_ble_eq_true rfl) (c2  ) ?_
  show Bod _ _ _ _ [_] _ _ _
  refine Bod.ifT dc_218_14 rfl (k1_ne_T (k_ne 1 0 rfl rfl (by omega) (by omega) (by omega))) ?_
  refine Bod.go dc_218_19 rfl ?_
  refine Bod.get dc_218_20 fr_218_19 (mk_53 _) rfl ?_
  refine Bod.go dc_218_23 rfl ?_
  refine Bod.virt (r := []) dc_218_24 kr_218_215 ⟨Or.inr rfl, ow_181, cl_5⟩ (by rw [np_181]; rfl) (by rw [np_181]; rfl) (ob_of (mk_16 _)) (Nat.le_of_ble_eq_true rfl) (c3  ) ?_
  show Bod _ _ _ _ [_] _ _ _
  refine Bod.lst dc_218_27 (by rw [ml_218]; exact Nat.le_of_ble_eq_true rfl) ?_
  refine Bod.go dc_218_29 rfl ?_
  refine Bod.get dc_218_30 fr_218_19 (mk_53 _) rfl ?_
  refine Bod.go dc_218_33 rfl ?_
  refine Bod.virt (r := []) dc_218_34 kr_218_220 ⟨Or.inr rfl, ow_182, cl_5⟩ (by rw [np_182]; rfl) (by rw [np_182]; rfl) (ob_of (mk_16 _)) (Nat.le_of_ble_eq_true rfl) (c4  ) ?_
  show Bod _ _ _ _ [_] _ _ _
  refine Bod.lst dc_218_37 (by rw [ml_218]; exact Nat.le_of_ble_eq_true rfl) ?_
  refine Bod.go dc_218_39 rfl ?_
  refine Bod.get dc_218_40 fr_218_9 (mk_53 _) rfl ?_
  refine Bod.go dc_218_43 rfl ?_
  refine Bod.virt (r := []) dc_218_44 kr_218_171 ⟨Or.inr rfl, ow_138, cl_2⟩ (by rw [np_138]; rfl) (by rw [np_138]; rfl) (ob_of (mk_2 _)) (Nat.le_of_ble_eq_true rfl) (c5  ) ?_
  show Bod _ _ _ _ [_] _ _ _
  refine Bod.ic 5 (by decide) dc_218_47 ?_
  refine Bod.icT dc_218_48 rfl (k2_ne_T (k_ne a1 5 rfl rfl (by omega) (by omega) (by omega))) ?_
  refine Bod.ic 0 (by decide) dc_218_70 ?_
  refine Bod.ist dc_218_71 (by rw [ml_218]; exact Nat.le_of_ble_eq_true rfl) ?_
  refine Bod.go dc_218_73 rfl ?_
  refine Bod.get dc_218_74 fr_218_9 (mk_53 _) rfl ?_
  refine Bod.go dc_218_77 rfl ?_
  refine Bod.ifT dc_218_79 rfl (k1_eq_T (k_eq 0 0 rfl rfl (by omega))) ?_
  refine Bod.go dc_218_93 rfl ?_
  refine Bod.go dc_218_94 rfl ?_
  refine Bod.go dc_218_96 rfl ?_
  refine Bod.virt (r := []) dc_218_98 kr_218_226 ⟨Or.inr rfl, ow_220, cl_2⟩ (by rw [np_220]; rfl) (by rw [np_220]; rfl) (ob_of (mk_2 _)) (Nat.le_of_ble_eq_true rfl) (c6  ) ?_
  show Bod _ _ _ _ [_] _ _ _
  refine Bod.ist dc_218_101 (by rw [ml_218]; exact Nat.le_of_ble_eq_true rfl) ?_
  refine Bod.go dc_218_103 rfl ?_
  refine Bod.ifF dc_218_105 rfl w12 ?_
  refine Bod.bip 9 (by decide) dc_218_108 ?_
  exact Bod.retI dc_218_110 rt_218
theorem mAt_3 {d : Nat} {S : cS} {nm : Nat} {nt : Nat} {S1 : cS} {a : Nat} {S2 : cS} {S3 : cS} {u : Int64} {S4 : cS} {u1 : Int64} {S5 : cS} {a1 : Nat} {S6 : cS} {rb : Int32} {S7 : cS} {rb1 : Int32} {S8 : cS} {rb2 : Int32} {S9 : cS} {u2 : Int64} {S10 : cS} {u3 : Int64} {S11 : cS} {rb3 : Int32} {S12 : cS} {rb4 : Int32} (mnm : nm < 2 ^ 20) (mnt : nt < 2 ^ 20) (ma : a < 2 ^ 20) (c1 : Ans (d + 8) 136 [.ref 46, .int (nI 0)] S (some (.int (nI a))) S1) (c2 : Ans (d + 8) 219 [.ref 53, .int (nI a)] S1 (some (.int (nI 1))) S2) (c3 : Ans (d + 8) 181 [.ref 16, .int (nI nm)] S2 (some (.long u)) S3) (c4 : Ans (d + 8) 182 [.ref 16, .int (nI nm)] S3 (some (.long u1)) S4) (ma1 : a1 < 2 ^ 20) (c5 : Ans (d + 8) 138 [.ref 2, .int (nI a)] S4 (some (.int (nI a1))) S5) (b1 : a1 = 5) (c6 : Ans (d + 8) 206 [.ref 2, .int (nI a), .long u, .long u1] S5 (some (.int rb)) S6) (w12 : sm_c1 .ge rb true false = true) (c7 : Ans (d + 8) 220 [.ref 2, .int (nI a), .long u, .long u1] S6 (some (.int rb1)) S7) (w14 : sm_c1 .ne rb1 true false = true) (c8 : Ans (d + 8) 206 [.ref 2, .int rb1, .long u, .long u1] S7 (some (.int rb2)) S8) (c9 : Ans (d + 8) 156 [.ref 2, .int rb1, .int rb2] S8 (some (.long u2)) S9) (c10 : Ans (d + 8) 158 [.ref 2, .int rb1, .int rb2] S9 (some (.long u3)) S10) (c11 : Ans (d + 8) 137 [.long u2, .long u3] S10 (some (.int rb3)) S11) (c12 : Ans (d + 8) 148 [.ref 46, .int (nI nt), .long u2, .long u3] S11 (some (.int rb4)) S12) : Bod (d + 8) 218 0 [(0, .ref 53), (1, .int (nI nm)), (2, .int (nI nt))] [] S (some (.int rb4)) (S12) := by
  refine Bod.go dc_218_0 rfl ?_
  refine Bod.get dc_218_1 fr_218_15 (mk_53 _) rfl ?_
  refine Bod.ic 0 (by decide) dc_218_4 ?_
  refine Bod.virt (r := []) dc_218_5 kr_218_169 ⟨Or.inr rfl, ow_136, cl_9⟩ (by rw [np_136]; rfl) (by rw [np_136]; rfl) (ob_of (mk_46 _)) (Nat.le_of_ble_eq_true rfl) (c1  ) ?_
  show Bod _ _ _ _ [_] _ _ _
  refine Bod.istn dc_218_8 (by rw [ml_218]; exact Nat.le_of_ble_eq_true rfl) ?_
  refine Bod.go dc_218_9 rfl ?_
  refine Bod.go dc_218_10 rfl ?_
  refine Bod.virt (r := []) dc_218_11 kr_218_212 ⟨Or.inl rfl, ow_219, cl_6⟩ (by rw [np_219]; rfl) (by rw [np_219]; rfl) (ob_of (mk_53 _)) (Nat.le_of_ble_eq_true rfl) (c2  ) ?_
  show Bod _ _ _ _ [_] _ _ _
  refine Bod.ifT dc_218_14 rfl (k1_ne_T (k_ne 1 0 rfl rfl (by omega) (by omega) (by omega))) ?_
  refine Bod.go dc_218_19 rfl ?_
  refine Bod.get dc_218_20 fr_218_19 (mk_53 _) rfl ?_
  refine Bod.go dc_218_23 rfl ?_
  refine Bod.virt (r := []) dc_218_24 kr_218_215 ⟨Or.inr rfl, ow_181, cl_5⟩ (by rw [np_181]; rfl) (by rw [np_181]; rfl) (ob_of (mk_16 _)) (Nat.le_of_ble_eq_true rfl) (c3  ) ?_
  show Bod _ _ _ _ [_] _ _ _
  refine Bod.lst dc_218_27 (by rw [ml_218]; exact Nat.le_of_ble_eq_true rfl) ?_
  refine Bod.go dc_218_29 rfl ?_
  refine Bod.get dc_218_30 fr_218_19 (mk_53 _) rfl ?_
  refine Bod.go dc_218_33 rfl ?_
  refine Bod.virt (r := []) dc_218_34 kr_218_220 ⟨Or.inr rfl, ow_182, cl_5⟩ (by rw [np_182]; rfl) (by rw [np_182]; rfl) (ob_of (mk_16 _)) (Nat.le_of_ble_eq_true rfl) (c4  ) ?_
  show Bod _ _ _ _ [_] _ _ _
  refine Bod.lst dc_218_37 (by rw [ml_218]; exact Nat.le_of_ble_eq_true rfl) ?_
  refine Bod.go dc_218_39 rfl ?_
  refine Bod.get dc_218_40 fr_218_9 (mk_53 _) rfl ?_
  refine Bod.go dc_218_43 rfl ?_
  refine Bod.virt (r := []) dc_218_44 kr_218_171 ⟨Or.inr rfl, ow_138, cl_2⟩ (by rw [np_138]; rfl) (by rw [np_138]; rfl) (ob_of (mk_2 _)) (Nat.le_of_ble_eq_true rfl) (c5  ) ?_
  show Bod _ _ _ _ [_] _ _ _
  refine Bod.ic 5 (by decide) dc_218_47 ?_
  refine Bod.icF dc_218_48 rfl (k2_ne_F (k_eq a1 5 rfl rfl (by omega))) ?_
  refine Bod.go dc_218_51 rfl ?_
  refine Bod.get dc_218_52 fr_218_9 (mk_53 _) rfl ?_
  refine Bod.go dc_218_55 rfl ?_
  refine Bod.go dc_218_56 rfl ?_
  refine Bod.go dc_218_58 rfl ?_
  refine Bod.virt (r := []) dc_218_60 kr_218_178 ⟨Or.inr rfl, ow_206, cl_2⟩ (by rw [np_206]; rfl) (by rw [np_206]; rfl) (ob_of (mk_2 _)) (Nat.le_of_ble_eq_true rfl) (c6  ) ?_
  show Bod _ _ _ _ [_] _ _ _
  refine Bod.ifT dc_218_63 rfl w12 ?_
  refine Bod.ic 0 (by decide) dc_218_70 ?_
  refine Bod.ist dc_218_71 (by rw [ml_218]; exact Nat.le_of_ble_eq_true rfl) ?_
  refine Bod.go dc_218_73 rfl ?_
  refine Bod.get dc_218_74 fr_218_9 (mk_53 _) rfl ?_
  refine Bod.go dc_218_77 rfl ?_
  refine Bod.ifT dc_218_79 rfl (k1_eq_T (k_eq 0 0 rfl rfl (by omega))) ?_
  refine Bod.go dc_218_93 rfl ?_
  refine Bod.go dc_218_94 rfl ?_
  refine Bod.go dc_218_96 rfl ?_
  refine Bod.virt (r := []) dc_218_98 kr_218_226 ⟨Or.inr rfl, ow_220, cl_2⟩ (by rw [np_220]; rfl) (by rw [np_220]; rfl) (ob_of (mk_2 _)) (Nat.le_of_ble_eq_true rfl) (c7  ) ?_
  show Bod _ _ _ _ [_] _ _ _
  refine Bod.ist dc_218_101 (by rw [ml_218]; exact Nat.le_of_ble_eq_true rfl) ?_
  refine Bod.go dc_218_103 rfl ?_
  refine Bod.ifT dc_218_105 rfl w14 ?_
  refine Bod.go dc_218_111 rfl ?_
  refine Bod.get dc_218_112 fr_218_9 (mk_53 _) rfl ?_
  refine Bod.go dc_218_115 rfl ?_
  refine Bod.go dc_218_117 rfl ?_
  refine Bod.go dc_218_119 rfl ?_
  refine Bod.virt (r := []) dc_218_121 kr_218_178 ⟨Or.inr rfl, ow_206, cl_2⟩ (by rw [np_206]; rfl) (by rw [np_206]; rfl) (ob_of (mk_2 _)) (Nat.le_of_ble_eq_true rfl) (c8  ) ?_
  show Bod _ _ _ _ [_] _ _ _
  refine Bod.ist dc_218_124 (by rw [ml_218]; exact Nat.le_of_ble_eq_true rfl) ?_
  refine Bod.go dc_218_126 rfl ?_
  refine Bod.get dc_218_127 fr_218_9 (mk_53 _) rfl ?_
  refine Bod.go dc_218_130 rfl ?_
  refine Bod.go dc_218_132 rfl ?_
  refine Bod.virt (r := []) dc_218_134 kr_218_181 ⟨Or.inr rfl, ow_156, cl_2⟩ (by rw [np_156]; rfl) (by rw [np_156]; rfl) (ob_of (mk_2 _)) (Nat.le_of_ble_eq_true rfl) (c9  ) ?_
  show Bod _ _ _ _ [_] _ _ _
  refine Bod.lst dc_218_137 (by rw [ml_218]; exact Nat.le_of_ble_eq_true rfl) ?_
  refine Bod.go dc_218_139 rfl ?_
  refine Bod.get dc_218_140 fr_218_9 (mk_53 _) rfl ?_
  refine Bod.go dc_218_143 rfl ?_
  refine Bod.go dc_218_145 rfl ?_
  refine Bod.virt (r := []) dc_218_147 kr_218_185 ⟨Or.inr rfl, ow_158, cl_2⟩ (by rw [np_158]; rfl) (by rw [np_158]; rfl) (ob_of (mk_2 _)) (Nat.le_of_ble_eq_true rfl) (c10  ) ?_
  show Bod _ _ _ _ [_] _ _ _
  refine Bod.lst dc_218_150 (by rw [ml_218]; exact Nat.le_of_ble_eq_true rfl) ?_
  refine Bod.go dc_218_152 rfl ?_
  refine Bod.go dc_218_154 rfl ?_
  refine Bod.stat (r := []) dc_218_156 kr_218_229 (Or.inr rfl) (by rw [np_137]; rfl) (by rw [np_137]; rfl) (by rw [np_137]; exact Nat.le_of_ble_eq_true rfl) (Nat.le_of_ble_eq_true rfl) (c11  ) ?_
  show Bod _ _ _ _ [_] _ _ _
  refine Bod.ist dc_218_159 (by rw [ml_218]; exact Nat.le_of_ble_eq_true rfl) ?_
  refine Bod.go dc_218_161 rfl ?_
  refine Bod.ifT dc_218_163 rfl (k1_eq_T (k_eq 0 0 rfl rfl (by omega))) ?_
  refine Bod.go dc_218_179 rfl ?_
  refine Bod.get dc_218_180 fr_218_15 (mk_53 _) rfl ?_
  refine Bod.go dc_218_183 rfl ?_
  refine Bod.go dc_218_184 rfl ?_
  refine Bod.go dc_218_186 rfl ?_
  refine Bod.virt (r := []) dc_218_188 kr_218_31 ⟨Or.inr rfl, ow_148, cl_9⟩ (by rw [np_148]; rfl) (by rw [np_148]; rfl) (ob_of (mk_46 _)) (Nat.le_of_ble_eq_true rfl) (c12  ) ?_
  show Bod _ _ _ _ [_] _ _ _
  exact Bod.retI dc_218_191 rt_218
theorem mAt_4 {d : Nat} {S : cS} {nm : Nat} {nt : Nat} {S1 : cS} {a : Nat} {S2 : cS} {S3 : cS} {u : Int64} {S4 : cS} {u1 : Int64} {S5 : cS} {a1 : Nat} {S6 : cS} {rb : Int32} {S7 : cS} {rb1 : Int32} (mnm : nm < 2 ^ 20) (mnt : nt < 2 ^ 20) (ma : a < 2 ^ 20) (c1 : Ans (d + 8) 136 [.ref 46, .int (nI 0)] S (some (.int (nI a))) S1) (c2 : Ans (d + 8) 219 [.ref 53, .int (nI a)] S1 (some (.int (nI 1))) S2) (c3 : Ans (d + 8) 181 [.ref 16, .int (nI nm)] S2 (some (.long u)) S3) (c4 : Ans (d + 8) 182 [.ref 16, .int (nI nm)] S3 (some (.long u1)) S4) (ma1 : a1 < 2 ^ 20) (c5 : Ans (d + 8) 138 [.ref 2, .int (nI a)] S4 (some (.int (nI a1))) S5) (b1 : a1 = 5) (c6 : Ans (d + 8) 206 [.ref 2, .int (nI a), .long u, .long u1] S5 (some (.int rb)) S6) (w12 : sm_c1 .ge rb true false = true) (c7 : Ans (d + 8) 220 [.ref 2, .int (nI a), .long u, .long u1] S6 (some (.int rb1)) S7) (w14 : sm_c1 .ne rb1 true false = false) : Bod (d + 8) 218 0 [(0, .ref 53), (1, .int (nI nm)), (2, .int (nI nt))] [] S (some (.int (nI 9))) (S7) := by
  refine Bod.go dc_218_0 rfl ?_
  refine Bod.get dc_218_1 fr_218_15 (mk_53 _) rfl ?_
  refine Bod.ic 0 (by decide) dc_218_4 ?_
  refine Bod.virt (r := []) dc_218_5 kr_218_169 ⟨Or.inr rfl, ow_136, cl_9⟩ (by rw [np_136]; rfl) (by rw [np_136]; rfl) (ob_of (mk_46 _)) (Nat.le_of_ble_eq_true rfl) (c1  ) ?_
  show Bod _ _ _ _ [_] _ _ _
  refine Bod.istn dc_218_8 (by rw [ml_218]; exact Nat.le_of_ble_eq_true rfl) ?_
  refine Bod.go dc_218_9 rfl ?_
  refine Bod.go dc_218_10 rfl ?_
  refine Bod.virt (r := []) dc_218_11 kr_218_212 ⟨Or.inl rfl, ow_219, cl_6⟩ (by rw [np_219]; rfl) (by rw [np_219]; rfl) (ob_of (mk_53 _)) (Nat.le_of_ble_eq_true rfl) (c2  ) ?_
  show Bod _ _ _ _ [_] _ _ _
  refine Bod.ifT dc_218_14 rfl (k1_ne_T (k_ne 1 0 rfl rfl (by omega) (by omega) (by omega))) ?_
  refine Bod.go dc_218_19 rfl ?_
  refine Bod.get dc_218_20 fr_218_19 (mk_53 _) rfl ?_
  refine Bod.go dc_218_23 rfl ?_
  refine Bod.virt (r := []) dc_218_24 kr_218_215 ⟨Or.inr rfl, ow_181, cl_5⟩ (by rw [np_181]; rfl) (by rw [np_181]; rfl) (ob_of (mk_16 _)) (Nat.le_of_ble_eq_true rfl) (c3  ) ?_
  show Bod _ _ _ _ [_] _ _ _
  refine Bod.lst dc_218_27 (by rw [ml_218]; exact Nat.le_of_ble_eq_true rfl) ?_
  refine Bod.go dc_218_29 rfl ?_
  refine Bod.get dc_218_30 fr_218_19 (mk_53 _) rfl ?_
  refine Bod.go dc_218_33 rfl ?_
  refine Bod.virt (r := []) dc_218_34 kr_218_220 ⟨Or.inr rfl, ow_182, cl_5⟩ (by rw [np_182]; rfl) (by rw [np_182]; rfl) (ob_of (mk_16 _)) (Nat.le_of_ble_eq_true rfl) (c4  ) ?_
  show Bod _ _ _ _ [_] _ _ _
  refine Bod.lst dc_218_37 (by rw [ml_218]; exact Nat.le_of_ble_eq_true rfl) ?_
  refine Bod.go dc_218_39 rfl ?_
  refine Bod.get dc_218_40 fr_218_9 (mk_53 _) rfl ?_
  refine Bod.go dc_218_43 rfl ?_
  refine Bod.virt (r := []) dc_218_44 kr_218_171 ⟨Or.inr rfl, ow_138, cl_2⟩ (by rw [np_138]; rfl) (by rw [np_138]; rfl) (ob_of (mk_2 _)) (Nat.le_of_ble_eq_true rfl) (c5  ) ?_
  show Bod _ _ _ _ [_] _ _ _
  refine Bod.ic 5 (by decide) dc_218_47 ?_
  refine Bod.icF dc_218_48 rfl (k2_ne_F (k_eq a1 5 rfl rfl (by omega))) ?_
  refine Bod.go dc_218_51 rfl ?_
  refine Bod.get dc_218_52 fr_218_9 (mk_53 _) rfl ?_
  refine Bod.go dc_218_55 rfl ?_
  refine Bod.go dc_218_56 rfl ?_
  refine Bod.go dc_218_58 rfl ?_
  refine Bod.virt (r := []) dc_218_60 kr_218_178 ⟨Or.inr rfl, ow_206, cl_2⟩ (by rw [np_206]; rfl) (by rw [np_206]; rfl) (ob_of (mk_2 _)) (Nat.le_of_ble_eq_true rfl) (c6  ) ?_
  show Bod _ _ _ _ [_] _ _ _
  refine Bod.ifT dc_218_63 rfl w12 ?_
  refine Bod.ic 0 (by decide) dc_218_70 ?_
  refine Bod.ist dc_218_71 (by rw [ml_218]; exact Nat.le_of_ble_eq_true rfl) ?_
  refine Bod.go dc_218_73 rfl ?_
  refine Bod.get dc_218_74 fr_218_9 (mk_53 _) rfl ?_
  refine Bod.go dc_218_77 rfl ?_
  refine Bod.ifT dc_218_79 rfl (k1_eq_T (k_eq 0 0 rfl rfl (by omega))) ?_
  refine Bod.go dc_218_93 rfl ?_
  refine Bod.go dc_218_94 rfl ?_
  refine Bod.go dc_218_96 rfl ?_
  refine Bod.virt (r := []) dc_218_98 kr_218_226 ⟨Or.inr rfl, ow_220, cl_2⟩ (by rw [np_220]; rfl) (by rw [np_220]; rfl) (ob_of (mk_2 _)) (Nat.le_of_ble_eq_true rfl) (c7  ) ?_
  show Bod _ _ _ _ [_] _ _ _
  refine Bod.ist dc_218_101 (by rw [ml_218]; exact Nat.le_of_ble_eq_true rfl) ?_
  refine Bod.go dc_218_103 rfl ?_
  refine Bod.ifF dc_218_105 rfl w14 ?_
  refine Bod.bip 9 (by decide) dc_218_108 ?_
  exact Bod.retI dc_218_110 rt_218
theorem mAt_5 {d : Nat} {S : cS} {nm : Nat} {nt : Nat} {S1 : cS} {a : Nat} {S2 : cS} {S3 : cS} {u : Int64} {S4 : cS} {u1 : Int64} {S5 : cS} {a1 : Nat} {S6 : cS} {rb : Int32} {S7 : cS} {a2 : Nat} {S8 : cS} {rb1 : Int32} {S9 : cS} {rb2 : Int32} {S10 : cS} {u2 : Int64} {S11 : cS} {u3 : Int64} {S12 : cS} {rb3 : Int32} {S13 : cS} {a3 : Nat} {S14 : cS} {rb4 : Int32} {S15 : cS} {S16 : cS} {rb5 : Int32} (mnm : nm < 2 ^ 20) (mnt : nt < 2 ^ 20) (ma : a < 2 ^ 20) (c1 : Ans (d + 8) 136 [.ref 46, .int (nI 0)] S (some (.int (nI a))) S1) (c2 : Ans (d + 8) 219 [.ref 53, .int (nI a)] S1 (some (.int (nI 1))) S2) (c3 : Ans (d + 8) 181 [.ref 16, .int (nI nm)] S2 (some (.long u)) S3) (c4 : Ans (d + 8) 182 [.ref 16, .int (nI nm)] S3 (some (.long u1)) S4) (ma1 : a1 < 2 ^ 20) (c5 : Ans (d + 8) 138 [.ref 2, .int (nI a)] S4 (some (.int (nI a1))) S5) (b1 : a1 = 5) (c6 : Ans (d + 8) 206 [.ref 2, .int (nI a), .long u, .long u1] S5 (some (.int rb)) S6) (w12 : sm_c1 .ge rb true false = false) (ma2 : a2 < 2 ^ 20) (c7 : Ans (d + 8) 168 [.ref 2, .int (nI a)] S6 (some (.int (nI a2))) S7) (c8 : Ans (d + 8) 220 [.ref 2, .int (nI a2), .long u, .long u1] S7 (some (.int rb1)) S8) (w16 : sm_c1 .ne rb1 true false = true) (c9 : Ans (d + 8) 206 [.ref 2, .int rb1, .long u, .long u1] S8 (some (.int rb2)) S9) (c10 : Ans (d + 8) 156 [.ref 2, .int rb1, .int rb2] S9 (some (.long u2)) S10) (c11 : Ans (d + 8) 158 [.ref 2, .int rb1, .int rb2] S10 (some (.long u3)) S11) (c12 : Ans (d + 8) 137 [.long u2, .long u3] S11 (some (.int rb3)) S12) (ma3 : a3 < 2 ^ 20) (c13 : Ans (d + 8) 138 [.ref 2, .int rb3] S12 (some (.int (nI a3))) S13) (b2 : a3 = 3) (c14 : Ans (d + 8) 178 [.ref 2, .int (nI 6)] S13 (some (.int rb4)) S14) (w25 : sm_c1 .ne rb4 true false = true) (c15 : Ans (d + 8) 179 [.ref 2, .int rb4, .int (nI 0), .int rb3, .int (nI a)] S14 none S15) (c16 : Ans (d + 8) 148 [.ref 46, .int (nI nt), .long ((4611686018427387904)), .long rb4.toInt64] S15 (some (.int rb5)) S16) : Bod (d + 8) 218 0 [(0, .ref 53), (1, .int (nI nm)), (2, .int (nI nt))] [] S (some (.int rb5)) (S16) := by
  refine Bod.go dc_218_0 rfl ?_
  refine Bod.get dc_218_1 fr_218_15 (mk_53 _) rfl ?_
  refine Bod.ic 0 (by decide) dc_218_4 ?_
  refine Bod.virt (r := []) dc_218_5 kr_218_169 ⟨Or.inr rfl, ow_136, cl_9⟩ (by rw [np_136]; rfl) (by rw [np_136]; rfl) (ob_of (mk_46 _)) (Nat.le_of_ble_eq_true rfl) (c1  ) ?_
  show Bod _ _ _ _ [_] _ _ _
  refine Bod.istn dc_218_8 (by rw [ml_218]; exact Nat.le_of_ble_eq_true rfl) ?_
  refine Bod.go dc_218_9 rfl ?_
  refine Bod.go dc_218_10 rfl ?_
  refine Bod.virt (r := []) dc_218_11 kr_218_212 ⟨Or.inl rfl, ow_219, cl_6⟩ (by rw [np_219]; rfl) (by rw [np_219]; rfl) (ob_of (mk_53 _)) (Nat.le_of_ble_eq_true rfl) (c2  ) ?_
  show Bod _ _ _ _ [_] _ _ _
  refine Bod.ifT dc_218_14 rfl (k1_ne_T (k_ne 1 0 rfl rfl (by omega) (by omega) (by omega))) ?_
  refine Bod.go dc_218_19 rfl ?_
  refine Bod.get dc_218_20 fr_218_19 (mk_53 _) rfl ?_
  refine Bod.go dc_218_23 rfl ?_
  refine Bod.virt (r := []) dc_218_24 kr_218_215 ⟨Or.inr rfl, ow_181, cl_5⟩ (by rw [np_181]; rfl) (by rw [np_181]; rfl) (ob_of (mk_16 _)) (Nat.le_of_ble_eq_true rfl) (c3  ) ?_
  show Bod _ _ _ _ [_] _ _ _
  refine Bod.lst dc_218_27 (by rw [ml_218]; exact Nat.le_of_ble_eq_true rfl) ?_
  refine Bod.go dc_218_29 rfl ?_
  refine Bod.get dc_218_30 fr_218_19 (mk_53 _) rfl ?_
  refine Bod.go dc_218_33 rfl ?_
  refine Bod.virt (r := []) dc_218_34 kr_218_220 ⟨Or.inr rfl, ow_182, cl_5⟩ (by rw [np_182]; rfl) (by rw [np_182]; rfl) (ob_of (mk_16 _)) (Nat.le_of_ble_eq_true rfl) (c4  ) ?_
  show Bod _ _ _ _ [_] _ _ _
  refine Bod.lst dc_218_37 (by rw [ml_218]; exact Nat.le_of_ble_eq_true rfl) ?_
  refine Bod.go dc_218_39 rfl ?_
  refine Bod.get dc_218_40 fr_218_9 (mk_53 _) rfl ?_
  refine Bod.go dc_218_43 rfl ?_
  refine Bod.virt (r := []) dc_218_44 kr_218_171 ⟨Or.inr rfl, ow_138, cl_2⟩ (by rw [np_138]; rfl) (by rw [np_138]; rfl) (ob_of (mk_2 _)) (Nat.le_of_ble_eq_true rfl) (c5  ) ?_
  show Bod _ _ _ _ [_] _ _ _
  refine Bod.ic 5 (by decide) dc_218_47 ?_
  refine Bod.icF dc_218_48 rfl (k2_ne_F (k_eq a1 5 rfl rfl (by omega))) ?_
  refine Bod.go dc_218_51 rfl ?_
  refine Bod.get dc_218_52 fr_218_9 (mk_53 _) rfl ?_
  refine Bod.go dc_218_55 rfl ?_
  refine Bod.go dc_218_56 rfl ?_
  refine Bod.go dc_218_58 rfl ?_
  refine Bod.virt (r := []) dc_218_60 kr_218_178 ⟨Or.inr rfl, ow_206, cl_2⟩ (by rw [np_206]; rfl) (by rw [np_206]; rfl) (ob_of (mk_2 _)) (Nat.le_of_ble_eq_true rfl) (c6  ) ?_
  show Bod _ _ _ _ [_] _ _ _
  refine Bod.ifF dc_218_63 rfl w12 ?_
  refine Bod.ic 1 (by decide) dc_218_66 ?_
  refine Bod.go dc_218_67 rfl ?_
  refine Bod.ist dc_218_71 (by rw [ml_218]; exact Nat.le_of_ble_eq_true rfl) ?_
  refine Bod.go dc_218_73 rfl ?_
  refine Bod.get dc_218_74 fr_218_9 (mk_53 _) rfl ?_
  refine Bod.go dc_218_77 rfl ?_
  refine Bod.ifF dc_218_79 rfl (k1_eq_F (k_ne 1 0 rfl rfl (by omega) (by omega) (by omega))) ?_
  refine Bod.go dc_218_82 rfl ?_
  refine Bod.get dc_218_83 fr_218_9 (mk_53 _) rfl ?_
  refine Bod.go dc_218_86 rfl ?_
  refine Bod.virt (r := [_]) dc_218_87 kr_218_223 ⟨Or.inr rfl, ow_168, cl_2⟩ (by rw [np_168]; rfl) (by rw [np_168]; rfl) (ob_of (mk_2 _)) (Nat.le_of_ble_eq_true rfl) (c7  ) ?_
  show Bod _ _ _ _ [_, _] _ _ _
  refine Bod.go dc_218_90 rfl ?_
  refine Bod.go dc_218_94 rfl ?_
  refine Bod.go dc_218_96 rfl ?_
  refine Bod.virt (r := []) dc_218_98 kr_218_226 ⟨Or.inr rfl, ow_220, cl_2⟩ (by rw [np_220]; rfl) (by rw [np_220]; rfl) (ob_of (mk_2 _)) (Nat.le_of_ble_eq_true rfl) (c8  ) ?_
  show Bod _ _ _ _ [_] _ _ _
  refine Bod.ist dc_218_101 (by rw [ml_218]; exact Nat.le_of_ble_eq_true rfl) ?_
  refine Bod.go dc_218_103 rfl ?_
  refine Bod.ifT dc_218_105 rfl w16 ?_
  refine Bod.go dc_218_111 rfl ?_
  refine Bod.get dc_218_112 fr_218_9 (mk_53 _) rfl ?_
  refine Bod.go dc_218_115 rfl ?_
  refine Bod.go dc_218_117 rfl ?_
  refine Bod.go dc_218_119 rfl ?_
  refine Bod.virt (r := []) dc_218_121 kr_218_178 ⟨Or.inr rfl, ow_206, cl_2⟩ (by rw [np_206]; rfl) (by rw [np_206]; rfl) (ob_of (mk_2 _)) (Nat.le_of_ble_eq_true rfl) (c9  ) ?_
  show Bod _ _ _ _ [_] _ _ _
  refine Bod.ist dc_218_124 (by rw [ml_218]; exact Nat.le_of_ble_eq_true rfl) ?_
  refine Bod.go dc_218_126 rfl ?_
  refine Bod.get dc_218_127 fr_218_9 (mk_53 _) rfl ?_
  refine Bod.go dc_218_130 rfl ?_
  refine Bod.go dc_218_132 rfl ?_
  refine Bod.virt (r := []) dc_218_134 kr_218_181 ⟨Or.inr rfl, ow_156, cl_2⟩ (by rw [np_156]; rfl) (by rw [np_156]; rfl) (ob_of (mk_2 _)) (Nat.le_of_ble_eq_true rfl) (c10  ) ?_
  show Bod _ _ _ _ [_] _ _ _
  refine Bod.lst dc_218_137 (by rw [ml_218]; exact Nat.le_of_ble_eq_true rfl) ?_
  refine Bod.go dc_218_139 rfl ?_
  refine Bod.get dc_218_140 fr_218_9 (mk_53 _) rfl ?_
  refine Bod.go dc_218_143 rfl ?_
  refine Bod.go dc_218_145 rfl ?_
  refine Bod.virt (r := []) dc_218_147 kr_218_185 ⟨Or.inr rfl, ow_158, cl_2⟩ (by rw [np_158]; rfl) (by rw [np_158]; rfl) (ob_of (mk_2 _)) (Nat.le_of_ble_eq_true rfl) (c11  ) ?_
  show Bod _ _ _ _ [_] _ _ _
  refine Bod.lst dc_218_150 (by rw [ml_218]; exact Nat.le_of_ble_eq_true rfl) ?_
  refine Bod.go dc_218_152 rfl ?_
  refine Bod.go dc_218_154 rfl ?_
  refine Bod.stat (r := []) dc_218_156 kr_218_229 (Or.inr rfl) (by rw [np_137]; rfl) (by rw [np_137]; rfl) (by rw [np_137]; exact Nat.le_of_ble_eq_true rfl) (Nat.le_of_ble_eq_true rfl) (c12  ) ?_
  show Bod _ _ _ _ [_] _ _ _
  refine Bod.ist dc_218_159 (by rw [ml_218]; exact Nat.le_of_ble_eq_true rfl) ?_
  refine Bod.go dc_218_161 rfl ?_
  refine Bod.ifF dc_218_163 rfl (k1_eq_F (k_ne 1 0 rfl rfl (by omega) (by omega) (by omega))) ?_
  refine Bod.go dc_218_166 rfl ?_
  refine Bod.get dc_218_167 fr_218_9 (mk_53 _) rfl ?_
  refine Bod.go dc_218_170 rfl ?_
  refine Bod.virt (r := []) dc_218_172 kr_218_171 ⟨Or.inr rfl, ow_138, cl_2⟩ (by rw [np_138]; rfl) (by rw [np_138]; rfl) (ob_of (mk_2 _)) (Nat.le_of_ble_eq_true rfl) (c13  ) ?_
  show Bod _ _ _ _ [_] _ _ _
  refine Bod.ic 3 (by decide) dc_218_175 ?_
  refine Bod.icT dc_218_176 rfl (k2_eq_T (k_eq a3 3 rfl rfl (by omega))) ?_
  refine Bod.go dc_218_192 rfl ?_
  refine Bod.get dc_218_193 fr_218_9 (mk_53 _) rfl ?_
  refine Bod.bip 6 (by decide) dc_218_196 ?_
  refine Bod.virt (r := []) dc_218_198 kr_218_139 ⟨Or.inr rfl, ow_178, cl_2⟩ (by rw [np_178]; rfl) (by rw [np_178]; rfl) (ob_of (mk_2 _)) (Nat.le_of_ble_eq_true rfl) (c14  ) ?_
  show Bod _ _ _ _ [_] _ _ _
  refine Bod.ist dc_218_201 (by rw [ml_218]; exact Nat.le_of_ble_eq_true rfl) ?_
  refine Bod.go dc_218_203 rfl ?_
  refine Bod.ifT dc_218_205 rfl w25 ?_
  refine Bod.go dc_218_211 rfl ?_
  refine Bod.get dc_218_212 fr_218_9 (mk_53 _) rfl ?_
  refine Bod.go dc_218_215 rfl ?_
  refine Bod.ic 0 (by decide) dc_218_217 ?_
  refine Bod.go dc_218_218 rfl ?_
  refine Bod.go dc_218_220 rfl ?_
  refine Bod.virt (r := []) dc_218_221 kr_218_232 ⟨Or.inr rfl, ow_179, cl_2⟩ (by rw [np_179]; rfl) (by rw [np_179]; rfl) (ob_of (mk_2 _)) (Nat.le_of_ble_eq_true rfl) (c15  ) ?_
  show Bod _ _ _ _ [] _ _ _
  refine Bod.go dc_218_224 rfl ?_
  refine Bod.get dc_218_225 fr_218_15 (mk_53 _) rfl ?_
  refine Bod.go dc_218_228 rfl ?_
  refine Bod.ldc2 dc_218_229 cj_218_146 ?_
  refine Bod.go dc_218_232 rfl ?_
  refine Bod.go dc_218_234 rfl ?_
  refine Bod.virt (r := []) dc_218_235 kr_218_31 ⟨Or.inr rfl, ow_148, cl_9⟩ (by rw [np_148]; rfl) (by rw [np_148]; rfl) (ob_of (mk_46 _)) (Nat.le_of_ble_eq_true rfl) (c16  ) ?_
  show Bod _ _ _ _ [_] _ _ _
  exact Bod.retI dc_218_238 rt_218
theorem mAt_6 {d : Nat} {S : cS} {nm : Nat} {nt : Nat} {S1 : cS} {a : Nat} {S2 : cS} {S3 : cS} {u : Int64} {S4 : cS} {u1 : Int64} {S5 : cS} {a1 : Nat} {S6 : cS} {rb : Int32} {S7 : cS} {a2 : Nat} {S8 : cS} {rb1 : Int32} {S9 : cS} {rb2 : Int32} {S10 : cS} {u2 : Int64} {S11 : cS} {u3 : Int64} {S12 : cS} {rb3 : Int32} {S13 : cS} {a3 : Nat} {S14 : cS} {rb4 : Int32} (mnm : nm < 2 ^ 20) (mnt : nt < 2 ^ 20) (ma : a < 2 ^ 20) (c1 : Ans (d + 8) 136 [.ref 46, .int (nI 0)] S (some (.int (nI a))) S1) (c2 : Ans (d + 8) 219 [.ref 53, .int (nI a)] S1 (some (.int (nI 1))) S2) (c3 : Ans (d + 8) 181 [.ref 16, .int (nI nm)] S2 (some (.long u)) S3) (c4 : Ans (d + 8) 182 [.ref 16, .int (nI nm)] S3 (some (.long u1)) S4) (ma1 : a1 < 2 ^ 20) (c5 : Ans (d + 8) 138 [.ref 2, .int (nI a)] S4 (some (.int (nI a1))) S5) (b1 : a1 = 5) (c6 : Ans (d + 8) 206 [.ref 2, .int (nI a), .long u, .long u1] S5 (some (.int rb)) S6) (w12 : sm_c1 .ge rb true false = false) (ma2 : a2 < 2 ^ 20) (c7 : Ans (d + 8) 168 [.ref 2, .int (nI a)] S6 (some (.int (nI a2))) S7) (c8 : Ans (d + 8) 220 [.ref 2, .int (nI a2), .long u, .long u1] S7 (some (.int rb1)) S8) (w16 : sm_c1 .ne rb1 true false = true) (c9 : Ans (d + 8) 206 [.ref 2, .int rb1, .long u, .long u1] S8 (some (.int rb2)) S9) (c10 : Ans (d + 8) 156 [.ref 2, .int rb1, .int rb2] S9 (some (.long u2)) S10) (c11 : Ans (d + 8) 158 [.ref 2, .int rb1, .int rb2] S10 (some (.long u3)) S11) (c12 : Ans (d + 8) 137 [.long u2, .long u3] S11 (some (.int rb3)) S12) (ma3 : a3 < 2 ^ 20) (c13 : Ans (d + 8) 138 [.ref 2, .int rb3] S12 (some (.int (nI a3))) S13) (b2 : a3 = 3) (c14 : Ans (d + 8) 178 [.ref 2, .int (nI 6)] S13 (some (.int rb4)) S14) (w25 : sm_c1 .ne rb4 true false = false) : Bod (d + 8) 218 0 [(0, .ref 53), (1, .int (nI nm)), (2, .int (nI nt))] [] S (some (.int (nI 8))) (S14) := by
  refine Bod.go dc_218_0 rfl ?_
  refine Bod.get dc_218_1 fr_218_15 (mk_53 _) rfl ?_
  refine Bod.ic 0 (by decide) dc_218_4 ?_
  refine Bod.virt (r := []) dc_218_5 kr_218_169 ⟨Or.inr rfl, ow_136, cl_9⟩ (by rw [np_136]; rfl) (by rw [np_136]; rfl) (ob_of (mk_46 _)) (Nat.le_of_ble_eq_true rfl) (c1  ) ?_
  show Bod _ _ _ _ [_] _ _ _
  refine Bod.istn dc_218_8 (by rw [ml_218]; exact Nat.le_of_ble_eq_true rfl) ?_
  refine Bod.go dc_218_9 rfl ?_
  refine Bod.go dc_218_10 rfl ?_
  refine Bod.virt (r := []) dc_218_11 kr_218_212 ⟨Or.inl rfl, ow_219, cl_6⟩ (by rw [np_219]; rfl) (by rw [np_219]; rfl) (ob_of (mk_53 _)) (Nat.le_of_ble_eq_true rfl) (c2  ) ?_
  show Bod _ _ _ _ [_] _ _ _
  refine Bod.ifT dc_218_14 rfl (k1_ne_T (k_ne 1 0 rfl rfl (by omega) (by omega) (by omega))) ?_
  refine Bod.go dc_218_19 rfl ?_
  refine Bod.get dc_218_20 fr_218_19 (mk_53 _) rfl ?_
  refine Bod.go dc_218_23 rfl ?_
  refine Bod.virt (r := []) dc_218_24 kr_218_215 ⟨Or.inr rfl, ow_181, cl_5⟩ (by rw [np_181]; rfl) (by rw [np_181]; rfl) (ob_of (mk_16 _)) (Nat.le_of_ble_eq_true rfl) (c3  ) ?_
  show Bod _ _ _ _ [_] _ _ _
  refine Bod.lst dc_218_27 (by rw [ml_218]; exact Nat.le_of_ble_eq_true rfl) ?_
  refine Bod.go dc_218_29 rfl ?_
  refine Bod.get dc_218_30 fr_218_19 (mk_53 _) rfl ?_
  refine Bod.go dc_218_33 rfl ?_
  refine Bod.virt (r := []) dc_218_34 kr_218_220 ⟨Or.inr rfl, ow_182, cl_5⟩ (by rw [np_182]; rfl) (by rw [np_182]; rfl) (ob_of (mk_16 _)) (Nat.le_of_ble_eq_true rfl) (c4  ) ?_
  show Bod _ _ _ _ [_] _ _ _
  refine Bod.lst dc_218_37 (by rw [ml_218]; exact Nat.le_of_ble_eq_true rfl) ?_
  refine Bod.go dc_218_39 rfl ?_
  refine Bod.get dc_218_40 fr_218_9 (mk_53 _) rfl ?_
  refine Bod.go dc_218_43 rfl ?_
  refine Bod.virt (r := []) dc_218_44 kr_218_171 ⟨Or.inr rfl, ow_138, cl_2⟩ (by rw [np_138]; rfl) (by rw [np_138]; rfl) (ob_of (mk_2 _)) (Nat.le_of_ble_eq_true rfl) (c5  ) ?_
  show Bod _ _ _ _ [_] _ _ _
  refine Bod.ic 5 (by decide) dc_218_47 ?_
  refine Bod.icF dc_218_48 rfl (k2_ne_F (k_eq a1 5 rfl rfl (by omega))) ?_
  refine Bod.go dc_218_51 rfl ?_
  refine Bod.get dc_218_52 fr_218_9 (mk_53 _) rfl ?_
  refine Bod.go dc_218_55 rfl ?_
  refine Bod.go dc_218_56 rfl ?_
  refine Bod.go dc_218_58 rfl ?_
  refine Bod.virt (r := []) dc_218_60 kr_218_178 ⟨Or.inr rfl, ow_206, cl_2⟩ (by rw [np_206]; rfl) (by rw [np_206]; rfl) (ob_of (mk_2 _)) (Nat.le_of_ble_eq_true rfl) (c6  ) ?_
  show Bod _ _ _ _ [_] _ _ _
  refine Bod.ifF dc_218_63 rfl w12 ?_
  refine Bod.ic 1 (by decide) dc_218_66 ?_
  refine Bod.go dc_218_67 rfl ?_
  refine Bod.ist dc_218_71 (by rw [ml_218]; exact Nat.le_of_ble_eq_true rfl) ?_
  refine Bod.go dc_218_73 rfl ?_
  refine Bod.get dc_218_74 fr_218_9 (mk_53 _) rfl ?_
  refine Bod.go dc_218_77 rfl ?_
  refine Bod.ifF dc_218_79 rfl (k1_eq_F (k_ne 1 0 rfl rfl (by omega) (by omega) (by omega))) ?_
  refine Bod.go dc_218_82 rfl ?_
  refine Bod.get dc_218_83 fr_218_9 (mk_53 _) rfl ?_
  refine Bod.go dc_218_86 rfl ?_
  refine Bod.virt (r := [_]) dc_218_87 kr_218_223 ⟨Or.inr rfl, ow_168, cl_2⟩ (by rw [np_168]; rfl) (by rw [np_168]; rfl) (ob_of (mk_2 _)) (Nat.le_of_ble_eq_true rfl) (c7  ) ?_
  show Bod _ _ _ _ [_, _] _ _ _
  refine Bod.go dc_218_90 rfl ?_
  refine Bod.go dc_218_94 rfl ?_
  refine Bod.go dc_218_96 rfl ?_
  refine Bod.virt (r := []) dc_218_98 kr_218_226 ⟨Or.inr rfl, ow_220, cl_2⟩ (by rw [np_220]; rfl) (by rw [np_220]; rfl) (ob_of (mk_2 _)) (Nat.le_of_ble_eq_true rfl) (c8  ) ?_
  show Bod _ _ _ _ [_] _ _ _
  refine Bod.ist dc_218_101 (by rw [ml_218]; exact Nat.le_of_ble_eq_true rfl) ?_
  refine Bod.go dc_218_103 rfl ?_
  refine Bod.ifT dc_218_105 rfl w16 ?_
  refine Bod.go dc_218_111 rfl ?_
  refine Bod.get dc_218_112 fr_218_9 (mk_53 _) rfl ?_
  refine Bod.go dc_218_115 rfl ?_
  refine Bod.go dc_218_117 rfl ?_
  refine Bod.go dc_218_119 rfl ?_
  refine Bod.virt (r := []) dc_218_121 kr_218_178 ⟨Or.inr rfl, ow_206, cl_2⟩ (by rw [np_206]; rfl) (by rw [np_206]; rfl) (ob_of (mk_2 _)) (Nat.le_of_ble_eq_true rfl) (c9  ) ?_
  show Bod _ _ _ _ [_] _ _ _
  refine Bod.ist dc_218_124 (by rw [ml_218]; exact Nat.le_of_ble_eq_true rfl) ?_
  refine Bod.go dc_218_126 rfl ?_
  refine Bod.get dc_218_127 fr_218_9 (mk_53 _) rfl ?_
  refine Bod.go dc_218_130 rfl ?_
  refine Bod.go dc_218_132 rfl ?_
  refine Bod.virt (r := []) dc_218_134 kr_218_181 ⟨Or.inr rfl, ow_156, cl_2⟩ (by rw [np_156]; rfl) (by rw [np_156]; rfl) (ob_of (mk_2 _)) (Nat.le_of_ble_eq_true rfl) (c10  ) ?_
  show Bod _ _ _ _ [_] _ _ _
  refine Bod.lst dc_218_137 (by rw [ml_218]; exact Nat.le_of_ble_eq_true rfl) ?_
  refine Bod.go dc_218_139 rfl ?_
  refine Bod.get dc_218_140 fr_218_9 (mk_53 _) rfl ?_
  refine Bod.go dc_218_143 rfl ?_
  refine Bod.go dc_218_145 rfl ?_
  refine Bod.virt (r := []) dc_218_147 kr_218_185 ⟨Or.inr rfl, ow_158, cl_2⟩ (by rw [np_158]; rfl) (by rw [np_158]; rfl) (ob_of (mk_2 _)) (Nat.le_of_ble_eq_true rfl) (c11  ) ?_
  show Bod _ _ _ _ [_] _ _ _
  refine Bod.lst dc_218_150 (by rw [ml_218]; exact Nat.le_of_ble_eq_true rfl) ?_
  refine Bod.go dc_218_152 rfl ?_
  refine Bod.go dc_218_154 rfl ?_
  refine Bod.stat (r := []) dc_218_156 kr_218_229 (Or.inr rfl) (by rw [np_137]; rfl) (by rw [np_137]; rfl) (by rw [np_137]; exact Nat.le_of_ble_eq_true rfl) (Nat.le_of_ble_eq_true rfl) (c12  ) ?_
  show Bod _ _ _ _ [_] _ _ _
  refine Bod.ist dc_218_159 (by rw [ml_218]; exact Nat.le_of_ble_eq_true rfl) ?_
  refine Bod.go dc_218_161 rfl ?_
  refine Bod.ifF dc_218_163 rfl (k1_eq_F (k_ne 1 0 rfl rfl (by omega) (by omega) (by omega))) ?_
  refine Bod.go dc_218_166 rfl ?_
  refine Bod.get dc_218_167 fr_218_9 (mk_53 _) rfl ?_
  refine Bod.go dc_218_170 rfl ?_
  refine Bod.virt (r := []) dc_218_172 kr_218_171 ⟨Or.inr rfl, ow_138, cl_2⟩ (by rw [np_138]; rfl) (by rw [np_138]; rfl) (ob_of (mk_2 _)) (Nat.le_of_ble_eq_true rfl) (c13  ) ?_
  show Bod _ _ _ _ [_] _ _ _
  refine Bod.ic 3 (by decide) dc_218_175 ?_
  refine Bod.icT dc_218_176 rfl (k2_eq_T (k_eq a3 3 rfl rfl (by omega))) ?_
  refine Bod.go dc_218_192 rfl ?_
  refine Bod.get dc_218_193 fr_218_9 (mk_53 _) rfl ?_
  refine Bod.bip 6 (by decide) dc_218_196 ?_
  refine Bod.virt (r := []) dc_218_198 kr_218_139 ⟨Or.inr rfl, ow_178, cl_2⟩ (by rw [np_178]; rfl) (by rw [np_178]; rfl) (ob_of (mk_2 _)) (Nat.le_of_ble_eq_true rfl) (c14  ) ?_
  show Bod _ _ _ _ [_] _ _ _
  refine Bod.ist dc_218_201 (by rw [ml_218]; exact Nat.le_of_ble_eq_true rfl) ?_
  refine Bod.go dc_218_203 rfl ?_
  refine Bod.ifF dc_218_205 rfl w25 ?_
  refine Bod.bip 8 (by decide) dc_218_208 ?_
  exact Bod.retI dc_218_210 rt_218
theorem mAt_7 {d : Nat} {S : cS} {nm : Nat} {nt : Nat} {S1 : cS} {a : Nat} {S2 : cS} {S3 : cS} {u : Int64} {S4 : cS} {u1 : Int64} {S5 : cS} {a1 : Nat} {S6 : cS} {rb : Int32} {S7 : cS} {a2 : Nat} {S8 : cS} {rb1 : Int32} {S9 : cS} {rb2 : Int32} {S10 : cS} {u2 : Int64} {S11 : cS} {u3 : Int64} {S12 : cS} {rb3 : Int32} {S13 : cS} {a3 : Nat} {S14 : cS} {rb4 : Int32} (mnm : nm < 2 ^ 20) (mnt : nt < 2 ^ 20) (ma : a < 2 ^ 20) (c1 : Ans (d + 8) 136 [.ref 46, .int (nI 0)] S (some (.int (nI a))) S1) (c2 : Ans (d + 8) 219 [.ref 53, .int (nI a)] S1 (some (.int (nI 1))) S2) (c3 : Ans (d + 8) 181 [.ref 16, .int (nI nm)] S2 (some (.long u)) S3) (c4 : Ans (d + 8) 182 [.ref 16, .int (nI nm)] S3 (some (.long u1)) S4) (ma1 : a1 < 2 ^ 20) (c5 : Ans (d + 8) 138 [.ref 2, .int (nI a)] S4 (some (.int (nI a1))) S5) (b1 : a1 = 5) (c6 : Ans (d + 8) 206 [.ref 2, .int (nI a), .long u, .long u1] S5 (some (.int rb)) S6) (w12 : sm_c1 .ge rb true false = false) (ma2 : a2 < 2 ^ 20) (c7 : Ans (d + 8) 168 [.ref 2, .int (nI a)] S6 (some (.int (nI a2))) S7) (c8 : Ans (d + 8) 220 [.ref 2, .int (nI a2), .long u, .long u1] S7 (some (.int rb1)) S8) (w16 : sm_c1 .ne rb1 true false = true) (c9 : Ans (d + 8) 206 [.ref 2, .int rb1, .long u, .long u1] S8 (some (.int rb2)) S9) (c10 : Ans (d + 8) 156 [.ref 2, .int rb1, .int rb2] S9 (some (.long u2)) S10) (c11 : Ans (d + 8) 158 [.ref 2, .int rb1, .int rb2] S10 (some (.long u3)) S11) (c12 : Ans (d + 8) 137 [.long u2, .long u3] S11 (some (.int rb3)) S12) (ma3 : a3 < 2 ^ 20) (c13 : Ans (d + 8) 138 [.ref 2, .int rb3] S12 (some (.int (nI a3))) S13) (b2 : a3 ≠ 3) (c14 : Ans (d + 8) 148 [.ref 46, .int (nI nt), .long u2, .long u3] S13 (some (.int rb4)) S14) : Bod (d + 8) 218 0 [(0, .ref 53), (1, .int (nI nm)), (2, .int (nI nt))] [] S (some (.int rb4)) (S14) := by
  refine Bod.go dc_218_0 rfl ?_
  refine Bod.get dc_218_1 fr_218_15 (mk_53 _) rfl ?_
  refine Bod.ic 0 (by decide) dc_218_4 ?_
  refine Bod.virt (r := []) dc_218_5 kr_218_169 ⟨Or.inr rfl, ow_136, cl_9⟩ (by rw [np_136]; rfl) (by rw [np_136]; rfl) (ob_of (mk_46 _)) (Nat.le_of_ble_eq_true rfl) (c1  ) ?_
  show Bod _ _ _ _ [_] _ _ _
  refine Bod.istn dc_218_8 (by rw [ml_218]; exact Nat.le_of_ble_eq_true rfl) ?_
  refine Bod.go dc_218_9 rfl ?_
  refine Bod.go dc_218_10 rfl ?_
  refine Bod.virt (r := []) dc_218_11 kr_218_212 ⟨Or.inl rfl, ow_219, cl_6⟩ (by rw [np_219]; rfl) (by rw [np_219]; rfl) (ob_of (mk_53 _)) (Nat.le_of_ble_eq_true rfl) (c2  ) ?_
  show Bod _ _ _ _ [_] _ _ _
  refine Bod.ifT dc_218_14 rfl (k1_ne_T (k_ne 1 0 rfl rfl (by omega) (by omega) (by omega))) ?_
  refine Bod.go dc_218_19 rfl ?_
  refine Bod.get dc_218_20 fr_218_19 (mk_53 _) rfl ?_
  refine Bod.go dc_218_23 rfl ?_
  refine Bod.virt (r := []) dc_218_24 kr_218_215 ⟨Or.inr rfl, ow_181, cl_5⟩ (by rw [np_181]; rfl) (by rw [np_181]; rfl) (ob_of (mk_16 _)) (Nat.le_of_ble_eq_true rfl) (c3  ) ?_
  show Bod _ _ _ _ [_] _ _ _
  refine Bod.lst dc_218_27 (by rw [ml_218]; exact Nat.le_of_ble_eq_true rfl) ?_
  refine Bod.go dc_218_29 rfl ?_
  refine Bod.get dc_218_30 fr_218_19 (mk_53 _) rfl ?_
  refine Bod.go dc_218_33 rfl ?_
  refine Bod.virt (r := []) dc_218_34 kr_218_220 ⟨Or.inr rfl, ow_182, cl_5⟩ (by rw [np_182]; rfl) (by rw [np_182]; rfl) (ob_of (mk_16 _)) (Nat.le_of_ble_eq_true rfl) (c4  ) ?_
  show Bod _ _ _ _ [_] _ _ _
  refine Bod.lst dc_218_37 (by rw [ml_218]; exact Nat.le_of_ble_eq_true rfl) ?_
  refine Bod.go dc_218_39 rfl ?_
  refine Bod.get dc_218_40 fr_218_9 (mk_53 _) rfl ?_
  refine Bod.go dc_218_43 rfl ?_
  refine Bod.virt (r := []) dc_218_44 kr_218_171 ⟨Or.inr rfl, ow_138, cl_2⟩ (by rw [np_138]; rfl) (by rw [np_138]; rfl) (ob_of (mk_2 _)) (Nat.le_of_ble_eq_true rfl) (c5  ) ?_
  show Bod _ _ _ _ [_] _ _ _
  refine Bod.ic 5 (by decide) dc_218_47 ?_
  refine Bod.icF dc_218_48 rfl (k2_ne_F (k_eq a1 5 rfl rfl (by omega))) ?_
  refine Bod.go dc_218_51 rfl ?_
  refine Bod.get dc_218_52 fr_218_9 (mk_53 _) rfl ?_
  refine Bod.go dc_218_55 rfl ?_
  refine Bod.go dc_218_56 rfl ?_
  refine Bod.go dc_218_58 rfl ?_
  refine Bod.virt (r := []) dc_218_60 kr_218_178 ⟨Or.inr rfl, ow_206, cl_2⟩ (by rw [np_206]; rfl) (by rw [np_206]; rfl) (ob_of (mk_2 _)) (Nat.le_of_ble_eq_true rfl) (c6  ) ?_
  show Bod _ _ _ _ [_] _ _ _
  refine Bod.ifF dc_218_63 rfl w12 ?_
  refine Bod.ic 1 (by decide) dc_218_66 ?_
  refine Bod.go dc_218_67 rfl ?_
  refine Bod.ist dc_218_71 (by rw [ml_218]; exact Nat.le_of_ble_eq_true rfl) ?_
  refine Bod.go dc_218_73 rfl ?_
  refine Bod.get dc_218_74 fr_218_9 (mk_53 _) rfl ?_
  refine Bod.go dc_218_77 rfl ?_
  refine Bod.ifF dc_218_79 rfl (k1_eq_F (k_ne 1 0 rfl rfl (by omega) (by omega) (by omega))) ?_
  refine Bod.go dc_218_82 rfl ?_
  refine Bod.get dc_218_83 fr_218_9 (mk_53 _) rfl ?_
  refine Bod.go dc_218_86 rfl ?_
  refine Bod.virt (r := [_]) dc_218_87 kr_218_223 ⟨Or.inr rfl, ow_168, cl_2⟩ (by rw [np_168]; rfl) (by rw [np_168]; rfl) (ob_of (mk_2 _)) (Nat.le_of_ble_eq_true rfl) (c7  ) ?_
  show Bod _ _ _ _ [_, _] _ _ _
  refine Bod.go dc_218_90 rfl ?_
  refine Bod.go dc_218_94 rfl ?_
  refine Bod.go dc_218_96 rfl ?_
  refine Bod.virt (r := []) dc_218_98 kr_218_226 ⟨Or.inr rfl, ow_220, cl_2⟩ (by rw [np_220]; rfl) (by rw [np_220]; rfl) (ob_of (mk_2 _)) (Nat.le_of_ble_eq_true rfl) (c8  ) ?_
  show Bod _ _ _ _ [_] _ _ _
  refine Bod.ist dc_218_101 (by rw [ml_218]; exact Nat.le_of_ble_eq_true rfl) ?_
  refine Bod.go dc_218_103 rfl ?_
  refine Bod.ifT dc_218_105 rfl w16 ?_
  refine Bod.go dc_218_111 rfl ?_
  refine Bod.get dc_218_112 fr_218_9 (mk_53 _) rfl ?_
  refine Bod.go dc_218_115 rfl ?_
  refine Bod.go dc_218_117 rfl ?_
  refine Bod.go dc_218_119 rfl ?_
  refine Bod.virt (r := []) dc_218_121 kr_218_178 ⟨Or.inr rfl, ow_206, cl_2⟩ (by rw [np_206]; rfl) (by rw [np_206]; rfl) (ob_of (mk_2 _)) (Nat.le_of_ble_eq_true rfl) (c9  ) ?_
  show Bod _ _ _ _ [_] _ _ _
  refine Bod.ist dc_218_124 (by rw [ml_218]; exact Nat.le_of_ble_eq_true rfl) ?_
  refine Bod.go dc_218_126 rfl ?_
  refine Bod.get dc_218_127 fr_218_9 (mk_53 _) rfl ?_
  refine Bod.go dc_218_130 rfl ?_
  refine Bod.go dc_218_132 rfl ?_
  refine Bod.virt (r := []) dc_218_134 kr_218_181 ⟨Or.inr rfl, ow_156, cl_2⟩ (by rw [np_156]; rfl) (by rw [np_156]; rfl) (ob_of (mk_2 _)) (Nat.le_of_ble_eq_true rfl) (c10  ) ?_
  show Bod _ _ _ _ [_] _ _ _
  refine Bod.lst dc_218_137 (by rw [ml_218]; exact Nat.le_of_ble_eq_true rfl) ?_
  refine Bod.go dc_218_139 rfl ?_
  refine Bod.get dc_218_140 fr_218_9 (mk_53 _) rfl ?_
  refine Bod.go dc_218_143 rfl ?_
  refine Bod.go dc_218_145 rfl ?_
  refine Bod.virt (r := []) dc_218_147 kr_218_185 ⟨Or.inr rfl, ow_158, cl_2⟩ (by rw [np_158]; rfl) (by rw [np_158]; rfl) (ob_of (mk_2 _)) (Nat.le_of_ble_eq_true rfl) (c11  ) ?_
  show Bod _ _ _ _ [_] _ _ _
  refine Bod.lst dc_218_150 (by rw [ml_218]; exact Nat.le_of_ble_eq_true rfl) ?_
  refine Bod.go dc_218_152 rfl ?_
  refine Bod.go dc_218_154 rfl ?_
  refine Bod.stat (r := []) dc_218_156 kr_218_229 (Or.inr rfl) (by rw [np_137]; rfl) (by rw [np_137]; rfl) (by rw [np_137]; exact Nat.le_of_ble_eq_true rfl) (Nat.le_of_ble_eq_true rfl) (c12  ) ?_
  show Bod _ _ _ _ [_] _ _ _
  refine Bod.ist dc_218_159 (by rw [ml_218]; exact Nat.le_of_ble_eq_true rfl) ?_
  refine Bod.go dc_218_161 rfl ?_
  refine Bod.ifF dc_218_163 rfl (k1_eq_F (k_ne 1 0 rfl rfl (by omega) (by omega) (by omega))) ?_
  refine Bod.go dc_218_166 rfl ?_
  refine Bod.get dc_218_167 fr_218_9 (mk_53 _) rfl ?_
  refine Bod.go dc_218_170 rfl ?_
  refine Bod.virt (r := []) dc_218_172 kr_218_171 ⟨Or.inr rfl, ow_138, cl_2⟩ (by rw [np_138]; rfl) (by rw [np_138]; rfl) (ob_of (mk_2 _)) (Nat.le_of_ble_eq_true rfl) (c13  ) ?_
  show Bod _ _ _ _ [_] _ _ _
  refine Bod.ic 3 (by decide) dc_218_175 ?_
  refine Bod.icF dc_218_176 rfl (k2_eq_F (k_ne a3 3 rfl rfl (by omega) (by omega) (by omega))) ?_
  refine Bod.go dc_218_179 rfl ?_
  refine Bod.get dc_218_180 fr_218_15 (mk_53 _) rfl ?_
  refine Bod.go dc_218_183 rfl ?_
  refine Bod.go dc_218_184 rfl ?_
  refine Bod.go dc_218_186 rfl ?_
  refine Bod.virt (r := []) dc_218_188 kr_218_31 ⟨Or.inr rfl, ow_148, cl_9⟩ (by rw [np_148]; rfl) (by rw [np_148]; rfl) (ob_of (mk_46 _)) (Nat.le_of_ble_eq_true rfl) (c14  ) ?_
  show Bod _ _ _ _ [_] _ _ _
  exact Bod.retI dc_218_191 rt_218
theorem mAt_8 {d : Nat} {S : cS} {nm : Nat} {nt : Nat} {S1 : cS} {a : Nat} {S2 : cS} {S3 : cS} {u : Int64} {S4 : cS} {u1 : Int64} {S5 : cS} {a1 : Nat} {S6 : cS} {rb : Int32} {S7 : cS} {a2 : Nat} {S8 : cS} {rb1 : Int32} (mnm : nm < 2 ^ 20) (mnt : nt < 2 ^ 20) (ma : a < 2 ^ 20) (c1 : Ans (d + 8) 136 [.ref 46, .int (nI 0)] S (some (.int (nI a))) S1) (c2 : Ans (d + 8) 219 [.ref 53, .int (nI a)] S1 (some (.int (nI 1))) S2) (c3 : Ans (d + 8) 181 [.ref 16, .int (nI nm)] S2 (some (.long u)) S3) (c4 : Ans (d + 8) 182 [.ref 16, .int (nI nm)] S3 (some (.long u1)) S4) (ma1 : a1 < 2 ^ 20) (c5 : Ans (d + 8) 138 [.ref 2, .int (nI a)] S4 (some (.int (nI a1))) S5) (b1 : a1 = 5) (c6 : Ans (d + 8) 206 [.ref 2, .int (nI a), .long u, .long u1] S5 (some (.int rb)) S6) (w12 : sm_c1 .ge rb true false = false) (ma2 : a2 < 2 ^ 20) (c7 : Ans (d + 8) 168 [.ref 2, .int (nI a)] S6 (some (.int (nI a2))) S7) (c8 : Ans (d + 8) 220 [.ref 2, .int (nI a2), .long u, .long u1] S7 (some (.int rb1)) S8) (w16 : sm_c1 .ne rb1 true false = false) : Bod (d + 8) 218 0 [(0, .ref 53), (1, .int (nI nm)), (2, .int (nI nt))] [] S (some (.int (nI 9))) (S8) := by
  refine Bod.go dc_218_0 rfl ?_
  refine Bod.get dc_218_1 fr_218_15 (mk_53 _) rfl ?_
  refine Bod.ic 0 (by decide) dc_218_4 ?_
  refine Bod.virt (r := []) dc_218_5 kr_218_169 ⟨Or.inr rfl, ow_136, cl_9⟩ (by rw [np_136]; rfl) (by rw [np_136]; rfl) (ob_of (mk_46 _)) (Nat.le_of_ble_eq_true rfl) (c1  ) ?_
  show Bod _ _ _ _ [_] _ _ _
  refine Bod.istn dc_218_8 (by rw [ml_218]; exact Nat.le_of_ble_eq_true rfl) ?_
  refine Bod.go dc_218_9 rfl ?_
  refine Bod.go dc_218_10 rfl ?_
  refine Bod.virt (r := []) dc_218_11 kr_218_212 ⟨Or.inl rfl, ow_219, cl_6⟩ (by rw [np_219]; rfl) (by rw [np_219]; rfl) (ob_of (mk_53 _)) (Nat.le_of_ble_eq_true rfl) (c2  ) ?_
  show Bod _ _ _ _ [_] _ _ _
  refine Bod.ifT dc_218_14 rfl (k1_ne_T (k_ne 1 0 rfl rfl (by omega) (by omega) (by omega))) ?_
  refine Bod.go dc_218_19 rfl ?_
  refine Bod.get dc_218_20 fr_218_19 (mk_53 _) rfl ?_
  refine Bod.go dc_218_23 rfl ?_
  refine Bod.virt (r := []) dc_218_24 kr_218_215 ⟨Or.inr rfl, ow_181, cl_5⟩ (by rw [np_181]; rfl) (by rw [np_181]; rfl) (ob_of (mk_16 _)) (Nat.le_of_ble_eq_true rfl) (c3  ) ?_
  show Bod _ _ _ _ [_] _ _ _
  refine Bod.lst dc_218_27 (by rw [ml_218]; exact Nat.le_of_ble_eq_true rfl) ?_
  refine Bod.go dc_218_29 rfl ?_
  refine Bod.get dc_218_30 fr_218_19 (mk_53 _) rfl ?_
  refine Bod.go dc_218_33 rfl ?_
  refine Bod.virt (r := []) dc_218_34 kr_218_220 ⟨Or.inr rfl, ow_182, cl_5⟩ (by rw [np_182]; rfl) (by rw [np_182]; rfl) (ob_of (mk_16 _)) (Nat.le_of_ble_eq_true rfl) (c4  ) ?_
  show Bod _ _ _ _ [_] _ _ _
  refine Bod.lst dc_218_37 (by rw [ml_218]; exact Nat.le_of_ble_eq_true rfl) ?_
  refine Bod.go dc_218_39 rfl ?_
  refine Bod.get dc_218_40 fr_218_9 (mk_53 _) rfl ?_
  refine Bod.go dc_218_43 rfl ?_
  refine Bod.virt (r := []) dc_218_44 kr_218_171 ⟨Or.inr rfl, ow_138, cl_2⟩ (by rw [np_138]; rfl) (by rw [np_138]; rfl) (ob_of (mk_2 _)) (Nat.le_of_ble_eq_true rfl) (c5  ) ?_
  show Bod _ _ _ _ [_] _ _ _
  refine Bod.ic 5 (by decide) dc_218_47 ?_
  refine Bod.icF dc_218_48 rfl (k2_ne_F (k_eq a1 5 rfl rfl (by omega))) ?_
  refine Bod.go dc_218_51 rfl ?_
  refine Bod.get dc_218_52 fr_218_9 (mk_53 _) rfl ?_
  refine Bod.go dc_218_55 rfl ?_
  refine Bod.go dc_218_56 rfl ?_
  refine Bod.go dc_218_58 rfl ?_
  refine Bod.virt (r := []) dc_218_60 kr_218_178 ⟨Or.inr rfl, ow_206, cl_2⟩ (by rw [np_206]; rfl) (by rw [np_206]; rfl) (ob_of (mk_2 _)) (Nat.le_of_ble_eq_true rfl) (c6  ) ?_
  show Bod _ _ _ _ [_] _ _ _
  refine Bod.ifF dc_218_63 rfl w12 ?_
  refine Bod.ic 1 (by decide) dc_218_66 ?_
  refine Bod.go dc_218_67 rfl ?_
  refine Bod.ist dc_218_71 (by rw [ml_218]; exact Nat.le_of_ble_eq_true rfl) ?_
  refine Bod.go dc_218_73 rfl ?_
  refine Bod.get dc_218_74 fr_218_9 (mk_53 _) rfl ?_
  refine Bod.go dc_218_77 rfl ?_
  refine Bod.ifF dc_218_79 rfl (k1_eq_F (k_ne 1 0 rfl rfl (by omega) (by omega) (by omega))) ?_
  refine Bod.go dc_218_82 rfl ?_
  refine Bod.get dc_218_83 fr_218_9 (mk_53 _) rfl ?_
  refine Bod.go dc_218_86 rfl ?_
  refine Bod.virt (r := [_]) dc_218_87 kr_218_223 ⟨Or.inr rfl, ow_168, cl_2⟩ (by rw [np_168]; rfl) (by rw [np_168]; rfl) (ob_of (mk_2 _)) (Nat.le_of_ble_eq_true rfl) (c7  ) ?_
  show Bod _ _ _ _ [_, _] _ _ _
  refine Bod.go dc_218_90 rfl ?_
  refine Bod.go dc_218_94 rfl ?_
  refine Bod.go dc_218_96 rfl ?_
  refine Bod.virt (r := []) dc_218_98 kr_218_226 ⟨Or.inr rfl, ow_220, cl_2⟩ (by rw [np_220]; rfl) (by rw [np_220]; rfl) (ob_of (mk_2 _)) (Nat.le_of_ble_eq_true rfl) (c8  ) ?_
  show Bod _ _ _ _ [_] _ _ _
  refine Bod.ist dc_218_101 (by rw [ml_218]; exact Nat.le_of_ble_eq_true rfl) ?_
  refine Bod.go dc_218_103 rfl ?_
  refine Bod.ifF dc_218_105 rfl w16 ?_
  refine Bod.bip 9 (by decide) dc_218_108 ?_
  exact Bod.retI dc_218_110 rt_218
theorem mAt_9 {d : Nat} {S : cS} {nm : Nat} {nt : Nat} {S1 : cS} {a : Nat} {S2 : cS} (mnm : nm < 2 ^ 20) (mnt : nt < 2 ^ 20) (ma : a < 2 ^ 20) (c1 : Ans (d + 8) 136 [.ref 46, .int (nI 0)] S (some (.int (nI a))) S1) (c2 : Ans (d + 8) 219 [.ref 53, .int (nI a)] S1 (some (.int (nI 0))) S2) : Bod (d + 8) 218 0 [(0, .ref 53), (1, .int (nI nm)), (2, .int (nI nt))] [] S (some (.int (nI 2))) (S2) := by
  refine Bod.go dc_218_0 rfl ?_
  refine Bod.get dc_218_1 fr_218_15 (mk_53 _) rfl ?_
  refine Bod.ic 0 (by decide) dc_218_4 ?_
  refine Bod.virt (r := []) dc_218_5 kr_218_169 ⟨Or.inr rfl, ow_136, cl_9⟩ (by rw [np_136]; rfl) (by rw [np_136]; rfl) (ob_of (mk_46 _)) (Nat.le_of_ble_eq_true rfl) (c1  ) ?_
  show Bod _ _ _ _ [_] _ _ _
  refine Bod.istn dc_218_8 (by rw [ml_218]; exact Nat.le_of_ble_eq_true rfl) ?_
  refine Bod.go dc_218_9 rfl ?_
  refine Bod.go dc_218_10 rfl ?_
  refine Bod.virt (r := []) dc_218_11 kr_218_212 ⟨Or.inl rfl, ow_219, cl_6⟩ (by rw [np_219]; rfl) (by rw [np_219]; rfl) (ob_of (mk_53 _)) (Nat.le_of_ble_eq_true rfl) (c2  ) ?_
  show Bod _ _ _ _ [_] _ _ _
  refine Bod.ifF dc_218_14 rfl (k1_ne_F (k_eq 0 0 rfl rfl (by omega))) ?_
  refine Bod.ic 2 (by decide) dc_218_17 ?_
  exact Bod.retI dc_218_18 rt_218
theorem mHa_1 {d : Nat} {S : cS} {id : Nat} {S1 : cS} {a : Nat} (mid : id < 2 ^ 20) (ma : a < 2 ^ 20) (c1 : Ans (d + 8) 138 [.ref 2, .int (nI id)] S (some (.int (nI a))) S1) (b1 : a = 5) : Bod (d + 8) 219 0 [(0, .ref 53), (1, .int (nI id))] [] S (some (.int 1)) (S1) := by
  refine Bod.go dc_219_0 rfl ?_
  refine Bod.get dc_219_1 fr_219_9 (mk_53 _) rfl ?_
  refine Bod.go dc_219_4 rfl ?_
  refine Bod.virt (r := []) dc_219_5 kr_219_171 ⟨Or.inr rfl, ow_138, cl_2⟩ (by rw [np_138]; rfl) (by rw [np_138]; rfl) (ob_of (mk_2 _)) (Nat.le_of_ble_eq_true rfl) (c1  ) ?_
  show Bod _ _ _ _ [_] _ _ _
  refine Bod.ic 5 (by decide) dc_219_8 ?_
  refine Bod.icT dc_219_9 rfl (k2_eq_T (k_eq a 5 rfl rfl (by omega))) ?_
  refine Bod.ic 1 (by decide) dc_219_24 ?_
  refine Bod.go dc_219_25 rfl ?_
  exact Bod.retZ dc_219_29 rt_219 (Or.inr rfl)
theorem mHa_2 {d : Nat} {S : cS} {id : Nat} {S1 : cS} {a : Nat} {S2 : cS} {a1 : Nat} (mid : id < 2 ^ 20) (ma : a < 2 ^ 20) (c1 : Ans (d + 8) 138 [.ref 2, .int (nI id)] S (some (.int (nI a))) S1) (b1 : a ≠ 5) (ma1 : a1 < 2 ^ 20) (c2 : Ans (d + 8) 138 [.ref 2, .int (nI id)] S1 (some (.int (nI a1))) S2) (b2 : a1 ≠ 4) : Bod (d + 8) 219 0 [(0, .ref 53), (1, .int (nI id))] [] S (some (.int 0)) (S2) := by
  refine Bod.go dc_219_0 rfl ?_
  refine Bod.get dc_219_1 fr_219_9 (mk_53 _) rfl ?_
  refine Bod.go dc_219_4 rfl ?_
  refine Bod.virt (r := []) dc_219_5 kr_219_171 ⟨Or.inr rfl, ow_138, cl_2⟩ (by rw [np_138]; rfl) (by rw [np_138]; rfl) (ob_of (mk_2 _)) (Nat.le_of_ble_eq_true rfl) (c1  ) ?_
  show Bod _ _ _ _ [_] _ _ _
  refine Bod.ic 5 (by decide) dc_219_8 ?_
  refine Bod.icF dc_219_9 rfl (k2_eq_F (k_ne a 5 rfl rfl (by omega) (by omega) (by omega))) ?_
  refine Bod.go dc_219_12 rfl ?_
  refine Bod.get dc_219_13 fr_219_9 (mk_53 _) rfl ?_
  refine Bod.go dc_219_16 rfl ?_
  refine Bod.virt (r := []) dc_219_17 kr_219_171 ⟨Or.inr rfl, ow_138, cl_2⟩ (by rw [np_138]; rfl) (by rw [np_138]; rfl) (ob_of (mk_2 _)) (Nat.le_of_ble_eq_true rfl) (c2  ) ?_
  show Bod _ _ _ _ [_] _ _ _
  refine Bod.ic 4 (by decide) dc_219_20 ?_
  refine Bod.icT dc_219_21 rfl (k2_ne_T (k_ne a1 4 rfl rfl (by omega) (by omega) (by omega))) ?_
  refine Bod.ic 0 (by decide) dc_219_28 ?_
  exact Bod.retZ dc_219_29 rt_219 (Or.inl rfl)
theorem mHa_3 {d : Nat} {S : cS} {id : Nat} {S1 : cS} {a : Nat} {S2 : cS} {a1 : Nat} (mid : id < 2 ^ 20) (ma : a < 2 ^ 20) (c1 : Ans (d + 8) 138 [.ref 2, .int (nI id)] S (some (.int (nI a))) S1) (b1 : a ≠ 5) (ma1 : a1 < 2 ^ 20) (c2 : Ans (d + 8) 138 [.ref 2, .int (nI id)] S1 (some (.int (nI a1))) S2) (b2 : a1 = 4) : Bod (d + 8) 219 0 [(0, .ref 53), (1, .int (nI id))] [] S (some (.int 1)) (S2) := by
  refine Bod.go dc_219_0 rfl ?_
  refine Bod.get dc_219_1 fr_219_9 (mk_53 _) rfl ?_
  refine Bod.go dc_219_4 rfl ?_
  refine Bod.virt (r := []) dc_219_5 kr_219_171 ⟨Or.inr rfl, ow_138, cl_2⟩ (by rw [np_138]; rfl) (by rw [np_138]; rfl) (ob_of (mk_2 _)) (Nat.le_of_ble_eq_true rfl) (c1  ) ?_
  show Bod _ _ _ _ [_] _ _ _
  refine Bod.ic 5 (by decide) dc_219_8 ?_
  refine Bod.icF dc_219_9 rfl (k2_eq_F (k_ne a 5 rfl rfl (by omega) (by omega) (by omega))) ?_
  refine Bod.go dc_219_12 rfl ?_
  refine Bod.get dc_219_13 fr_219_9 (mk_53 _) rfl ?_
  refine Bod.go dc_219_16 rfl ?_
  refine Bod.virt (r := []) dc_219_17 kr_219_171 ⟨Or.inr rfl, ow_138, cl_2⟩ (by rw [np_138]; rfl) (by rw [np_138]; rfl) (ob_of (mk_2 _)) (Nat.le_of_ble_eq_true rfl) (c2  ) ?_
  show Bod _ _ _ _ [_] _ _ _
  refine Bod.ic 4 (by decide) dc_219_20 ?_
  refine Bod.icF dc_219_21 rfl (k2_ne_F (k_eq a1 4 rfl rfl (by omega))) ?_
  refine Bod.ic 1 (by decide) dc_219_24 ?_
  refine Bod.go dc_219_25 rfl ?_
  exact Bod.retZ dc_219_29 rt_219 (Or.inr rfl)
theorem mPa_1 {d : Nat} {S : cS} {nm : Nat} {ob : Nat} {vb : Nat} {S1 : cS} {a : Nat} {S2 : cS} {S3 : cS} {u : Int64} {S4 : cS} {u1 : Int64} {S5 : cS} {u2 : Int64} {S6 : cS} {u3 : Int64} {S7 : cS} {rb : Int32} {S8 : cS} {S9 : cS} (mnm : nm < 2 ^ 20) (mob : ob < 2 ^ 20) (mvb : vb < 2 ^ 20) (ma : a < 2 ^ 20) (c1 : Ans (d + 8) 136 [.ref 46, .int (nI ob)] S (some (.int (nI a))) S1) (c2 : Ans (d + 8) 219 [.ref 53, .int (nI a)] S1 (some (.int (nI 1))) S2) (c3 : Ans (d + 8) 181 [.ref 16, .int (nI nm)] S2 (some (.long u)) S3) (c4 : Ans (d + 8) 182 [.ref 16, .int (nI nm)] S3 (some (.long u1)) S4) (c5 : Ans (d + 8) 132 [.ref 46, .int (nI vb)] S4 (some (.long u2)) S5) (c6 : Ans (d + 8) 135 [.ref 46, .int (nI vb)] S5 (some (.long u3)) S6) (c7 : Ans (d + 8) 206 [.ref 2, .int (nI a), .long u, .long u1] S6 (some (.int rb)) S7) (w12 : sm_c1 .lt rb true false = true) (c8 : Ans (d + 8) 183 [.ref 2, .int (nI a), .long u, .long u1, .long u2, .long u3] S7 (some (.int (nI 1))) S8) (c9 : Ans (d + 8) 141 [.ref 46, .int (nI 2)] S8 none S9) : Bod (d + 8) 221 0 [(0, .ref 53), (1, .int (nI nm)), (2, .int (nI ob)), (3, .int (nI vb))] [] S (some (.int (nI 0))) (S9) := by
  refine Bod.go dc_221_0 rfl ?_
  refine Bod.get dc_221_1 fr_221_15 (mk_53 _) rfl ?_
  refine Bod.go dc_221_4 rfl ?_
  refine Bod.virt (r := []) dc_221_5 kr_221_169 ⟨Or.inr rfl, ow_136, cl_9⟩ (by rw [np_136]; rfl) (by rw [np_136]; rfl) (ob_of (mk_46 _)) (Nat.le_of_ble_eq_true rfl) (c1  ) ?_
  show Bod _ _ _ _ [_] _ _ _
  refine Bod.ist dc_221_8 (by rw [ml_221]; exact Nat.le_of_ble_eq_true rfl) ?_
  refine Bod.go dc_221_10 rfl ?_
  refine Bod.go dc_221_11 rfl ?_
  refine Bod.virt (r := []) dc_221_13 kr_221_212 ⟨Or.inl rfl, ow_219, cl_6⟩ (by rw [np_219]; rfl) (by rw [np_219]; rfl) (ob_of (mk_53 _)) (Nat.le_of_ble_eq_true rfl) (c2  ) ?_
  show Bod _ _ _ _ [_] _ _ _
  refine Bod.ifT dc_221_16 rfl (k1_ne_T (k_ne 1 0 rfl rfl (by omega) (by omega) (by omega))) ?_
  refine Bod.go dc_221_21 rfl ?_
  refine Bod.get dc_221_22 fr_221_19 (mk_53 _) rfl ?_
  refine Bod.go dc_221_25 rfl ?_
  refine Bod.virt (r := []) dc_221_26 kr_221_215 ⟨Or.inr rfl, ow_181, cl_5⟩ (by rw [np_181]; rfl) (by rw [np_181]; rfl) (ob_of (mk_16 _)) (Nat.le_of_ble_eq_true rfl) (c3  ) ?_
  show Bod _ _ _ _ [_] _ _ _
  refine Bod.lst dc_221_29 (by rw [ml_221]; exact Nat.le_of_ble_eq_true rfl) ?_
  refine Bod.go dc_221_31 rfl ?_
  refine Bod.get dc_221_32 fr_221_19 (mk_53 _) rfl ?_
  refine Bod.go dc_221_35 rfl ?_
  refine Bod.virt (r := []) dc_221_36 kr_221_220 ⟨Or.inr rfl, ow_182, cl_5⟩ (by rw [np_182]; rfl) (by rw [np_182]; rfl) (ob_of (mk_16 _)) (Nat.le_of_ble_eq_true rfl) (c4  ) ?_
  show Bod _ _ _ _ [_] _ _ _
  refine Bod.lst dc_221_39 (by rw [ml_221]; exact Nat.le_of_ble_eq_true rfl) ?_
  refine Bod.go dc_221_41 rfl ?_
  refine Bod.get dc_221_42 fr_221_15 (mk_53 _) rfl ?_
  refine Bod.go dc_221_45 rfl ?_
  refine Bod.virt (r := []) dc_221_46 kr_221_70 ⟨Or.inr rfl, ow_132, cl_9⟩ (by rw [np_132]; rfl) (by rw [np_132]; rfl) (ob_of (mk_46 _)) (Nat.le_of_ble_eq_true rfl) (c5  ) ?_
  show Bod _ _ _ _ [_] _ _ _
  refine Bod.lst dc_221_49 (by rw [ml_221]; exact Nat.le_of_ble_eq_true rfl) ?_
  refine Bod.go dc_221_51 rfl ?_
  refine Bod.get dc_221_52 fr_221_15 (mk_53 _) rfl ?_
  refine Bod.go dc_221_55 rfl ?_
  refine Bod.virt (r := []) dc_221_56 kr_221_111 ⟨Or.inr rfl, ow_135, cl_9⟩ (by rw [np_135]; rfl) (by rw [np_135]; rfl) (ob_of (mk_46 _)) (Nat.le_of_ble_eq_true rfl) (c6  ) ?_
  show Bod _ _ _ _ [_] _ _ _
  refine Bod.lst dc_221_59 (by rw [ml_221]; exact Nat.le_of_ble_eq_true rfl) ?_
  refine Bod.go dc_221_61 rfl ?_
  refine Bod.get dc_221_62 fr_221_9 (mk_53 _) rfl ?_
  refine Bod.go dc_221_65 rfl ?_
  refine Bod.go dc_221_67 rfl ?_
  refine Bod.go dc_221_69 rfl ?_
  refine Bod.virt (r := []) dc_221_71 kr_221_178 ⟨Or.inr rfl, ow_206, cl_2⟩ (by rw [np_206]; rfl) (by rw [np_206]; rfl) (ob_of (mk_2 _)) (Nat.le_of_ble_eq_true rfl) (c7  ) ?_
  show Bod _ _ _ _ [_] _ _ _
  refine Bod.ist dc_221_74 (by rw [ml_221]; exact Nat.le_of_ble_eq_true rfl) ?_
  refine Bod.go dc_221_76 rfl ?_
  refine Bod.ifT dc_221_78 rfl w12 ?_
  refine Bod.go dc_221_99 rfl ?_
  refine Bod.get dc_221_100 fr_221_9 (mk_53 _) rfl ?_
  refine Bod.go dc_221_103 rfl ?_
  refine Bod.go dc_221_105 rfl ?_
  refine Bod.go dc_221_107 rfl ?_
  refine Bod.go dc_221_109 rfl ?_
  refine Bod.go dc_221_111 rfl ?_
  refine Bod.virt (r := []) dc_221_113 kr_221_201 ⟨Or.inr rfl, ow_183, cl_2⟩ (by rw [np_183]; rfl) (by rw [np_183]; rfl) (ob_of (mk_2 _)) (Nat.le_of_ble_eq_true rfl) (c8  ) ?_
  show Bod _ _ _ _ [_] _ _ _
  refine Bod.ifT dc_221_116 rfl (k1_ne_T (k_ne 1 0 rfl rfl (by omega) (by omega) (by omega))) ?_
  refine Bod.go dc_221_122 rfl ?_
  refine Bod.get dc_221_123 fr_221_15 (mk_53 _) rfl ?_
  refine Bod.ic 2 (by decide) dc_221_126 ?_
  refine Bod.virt (r := []) dc_221_127 kr_221_205 ⟨Or.inr rfl, ow_141, cl_9⟩ (by rw [np_141]; rfl) (by rw [np_141]; rfl) (ob_of (mk_46 _)) (Nat.le_of_ble_eq_true rfl) (c9  ) ?_
  show Bod _ _ _ _ [] _ _ _
  refine Bod.ic 0 (by decide) dc_221_130 ?_
  exact Bod.retI dc_221_131 rt_221
theorem mPa_2 {d : Nat} {S : cS} {nm : Nat} {ob : Nat} {vb : Nat} {S1 : cS} {a : Nat} {S2 : cS} {S3 : cS} {u : Int64} {S4 : cS} {u1 : Int64} {S5 : cS} {u2 : Int64} {S6 : cS} {u3 : Int64} {S7 : cS} {rb : Int32} {S8 : cS} (mnm : nm < 2 ^ 20) (mob : ob < 2 ^ 20) (mvb : vb < 2 ^ 20) (ma : a < 2 ^ 20) (c1 : Ans (d + 8) 136 [.ref 46, .int (nI ob)] S (some (.int (nI a))) S1) (c2 : Ans (d + 8) 219 [.ref 53, .int (nI a)] S1 (some (.int (nI 1))) S2) (c3 : Ans (d + 8) 181 [.ref 16, .int (nI nm)] S2 (some (.long u)) S3) (c4 : Ans (d + 8) 182 [.ref 16, .int (nI nm)] S3 (some (.long u1)) S4) (c5 : Ans (d + 8) 132 [.ref 46, .int (nI vb)] S4 (some (.long u2)) S5) (c6 : Ans (d + 8) 135 [.ref 46, .int (nI vb)] S5 (some (.long u3)) S6) (c7 : Ans (d + 8) 206 [.ref 2, .int (nI a), .long u, .long u1] S6 (some (.int rb)) S7) (w12 : sm_c1 .lt rb true false = true) (c8 : Ans (d + 8) 183 [.ref 2, .int (nI a), .long u, .long u1, .long u2, .long u3] S7 (some (.int (nI 0))) S8) : Bod (d + 8) 221 0 [(0, .ref 53), (1, .int (nI nm)), (2, .int (nI ob)), (3, .int (nI vb))] [] S (some (.int (nI 8))) (S8) := by
  refine Bod.go dc_221_0 rfl ?_
  refine Bod.get dc_221_1 fr_221_15 (mk_53 _) rfl ?_
  refine Bod.go dc_221_4 rfl ?_
  refine Bod.virt (r := []) dc_221_5 kr_221_169 ⟨Or.inr rfl, ow_136, cl_9⟩ (by rw [np_136]; rfl) (by rw [np_136]; rfl) (ob_of (mk_46 _)) (Nat.le_of_ble_eq_true rfl) (c1  ) ?_
  show Bod _ _ _ _ [_] _ _ _
  refine Bod.ist dc_221_8 (by rw [ml_221]; exact Nat.le_of_ble_eq_true rfl) ?_
  refine Bod.go dc_221_10 rfl ?_
  refine Bod.go dc_221_11 rfl ?_
  refine Bod.virt (r := []) dc_221_13 kr_221_212 ⟨Or.inl rfl, ow_219, cl_6⟩ (by rw [np_219]; rfl) (by rw [np_219]; rfl) (ob_of (mk_53 _)) (Nat.le_of_ble_eq_true rfl) (c2  ) ?_
  show Bod _ _ _ _ [_] _ _ _
  refine Bod.ifT dc_221_16 rfl (k1_ne_T (k_ne 1 0 rfl rfl (by omega) (by omega) (by omega))) ?_
  refine Bod.go dc_221_21 rfl ?_
  refine Bod.get dc_221_22 fr_221_19 (mk_53 _) rfl ?_
  refine Bod.go dc_221_25 rfl ?_
  refine Bod.virt (r := []) dc_221_26 kr_221_215 ⟨Or.inr rfl, ow_181, cl_5⟩ (by rw [np_181]; rfl) (by rw [np_181]; rfl) (ob_of (mk_16 _)) (Nat.le_of_ble_eq_true rfl) (c3  ) ?_
  show Bod _ _ _ _ [_] _ _ _
  refine Bod.lst dc_221_29 (by rw [ml_221]; exact Nat.le_of_ble_eq_true rfl) ?_
  refine Bod.go dc_221_31 rfl ?_
  refine Bod.get dc_221_32 fr_221_19 (mk_53 _) rfl ?_
  refine Bod.go dc_221_35 rfl ?_
  refine Bod.virt (r := []) dc_221_36 kr_221_220 ⟨Or.inr rfl, ow_182, cl_5⟩ (by rw [np_182]; rfl) (by rw [np_182]; rfl) (ob_of (mk_16 _)) (Nat.le_of_ble_eq_true rfl) (c4  ) ?_
  show Bod _ _ _ _ [_] _ _ _
  refine Bod.lst dc_221_39 (by rw [ml_221]; exact Nat.le_of_ble_eq_true rfl) ?_
  refine Bod.go dc_221_41 rfl ?_
  refine Bod.get dc_221_42 fr_221_15 (mk_53 _) rfl ?_
  refine Bod.go dc_221_45 rfl ?_
  refine Bod.virt (r := []) dc_221_46 kr_221_70 ⟨Or.inr rfl, ow_132, cl_9⟩ (by rw [np_132]; rfl) (by rw [np_132]; rfl) (ob_of (mk_46 _)) (Nat.le_of_ble_eq_true rfl) (c5  ) ?_
  show Bod _ _ _ _ [_] _ _ _
  refine Bod.lst dc_221_49 (by rw [ml_221]; exact Nat.le_of_ble_eq_true rfl) ?_
  refine Bod.go dc_221_51 rfl ?_
  refine Bod.get dc_221_52 fr_221_15 (mk_53 _) rfl ?_
  refine Bod.go dc_221_55 rfl ?_
  refine Bod.virt (r := []) dc_221_56 kr_221_111 ⟨Or.inr rfl, ow_135, cl_9⟩ (by rw [np_135]; rfl) (by rw [np_135]; rfl) (ob_of (mk_46 _)) (Nat.le_of_ble_eq_true rfl) (c6  ) ?_
  show Bod _ _ _ _ [_] _ _ _
  refine Bod.lst dc_221_59 (by rw [ml_221]; exact Nat.le_of_ble_eq_true rfl) ?_
  refine Bod.go dc_221_61 rfl ?_
  refine Bod.get dc_221_62 fr_221_9 (mk_53 _) rfl ?_
  refine Bod.go dc_221_65 rfl ?_
  refine Bod.go dc_221_67 rfl ?_
  refine Bod.go dc_221_69 rfl ?_
  refine Bod.virt (r := []) dc_221_71 kr_221_178 ⟨Or.inr rfl, ow_206, cl_2⟩ (by rw [np_206]; rfl) (by rw [np_206]; rfl) (ob_of (mk_2 _)) (Nat.le_of_ble_eq_true rfl) (c7  ) ?_
  show Bod _ _ _ _ [_] _ _ _
  refine Bod.ist dc_221_74 (by rw [ml_221]; exact Nat.le_of_ble_eq_true rfl) ?_
  refine Bod.go dc_221_76 rfl ?_
  refine Bod.ifT dc_221_78 rfl w12 ?_
  refine Bod.go dc_221_99 rfl ?_
  refine Bod.get dc_221_100 fr_221_9 (mk_53 _) rfl ?_
  refine Bod.go dc_221_103 rfl ?_
  refine Bod.go dc_221_105 rfl ?_
  refine Bod.go dc_221_107 rfl ?_
  refine Bod.go dc_221_109 rfl ?_
  refine Bod.go dc_221_111 rfl ?_
  refine Bod.virt (r := []) dc_221_113 kr_221_201 ⟨Or.inr rfl, ow_183, cl_2⟩ (by rw [np_183]; rfl) (by rw [np_183]; rfl) (ob_of (mk_2 _)) (Nat.le_of_ble_eq_true rfl) (c8  ) ?_
  show Bod _ _ _ _ [_] _ _ _
  refine Bod.ifF dc_221_116 rfl (k1_ne_F (k_eq 0 0 rfl rfl (by omega))) ?_
  refine Bod.bip 8 (by decide) dc_221_119 ?_
  exact Bod.retI dc_221_121 rt_221
theorem mPa_3 {d : Nat} {S : cS} {nm : Nat} {ob : Nat} {vb : Nat} {S1 : cS} {a : Nat} {S2 : cS} {S3 : cS} {u : Int64} {S4 : cS} {u1 : Int64} {S5 : cS} {u2 : Int64} {S6 : cS} {u3 : Int64} {S7 : cS} {rb : Int32} {S8 : cS} {S9 : cS} (mnm : nm < 2 ^ 20) (mob : ob < 2 ^ 20) (mvb : vb < 2 ^ 20) (ma : a < 2 ^ 20) (c1 : Ans (d + 8) 136 [.ref 46, .int (nI ob)] S (some (.int (nI a))) S1) (c2 : Ans (d + 8) 219 [.ref 53, .int (nI a)] S1 (some (.int (nI 1))) S2) (c3 : Ans (d + 8) 181 [.ref 16, .int (nI nm)] S2 (some (.long u)) S3) (c4 : Ans (d + 8) 182 [.ref 16, .int (nI nm)] S3 (some (.long u1)) S4) (c5 : Ans (d + 8) 132 [.ref 46, .int (nI vb)] S4 (some (.long u2)) S5) (c6 : Ans (d + 8) 135 [.ref 46, .int (nI vb)] S5 (some (.long u3)) S6) (c7 : Ans (d + 8) 206 [.ref 2, .int (nI a), .long u, .long u1] S6 (some (.int rb)) S7) (w12 : sm_c1 .lt rb true false = false) (c8 : Ans (d + 8) 174 [.ref 2, .int (nI a), .int rb, .long u2, .long u3] S7 none S8) (c9 : Ans (d + 8) 141 [.ref 46, .int (nI 2)] S8 none S9) : Bod (d + 8) 221 0 [(0, .ref 53), (1, .int (nI nm)), (2, .int (nI ob)), (3, .int (nI vb))] [] S (some (.int (nI 0))) (S9) := by
  refine Bod.go dc_221_0 rfl ?_
  refine Bod.get dc_221_1 fr_221_15 (mk_53 _) rfl ?_
  refine Bod.go dc_221_4 rfl ?_
  refine Bod.virt (r := []) dc_221_5 kr_221_169 ⟨Or.inr rfl, ow_136, cl_9⟩ (by rw [np_136]; rfl) (by rw [np_136]; rfl) (ob_of (mk_46 _)) (Nat.le_of_ble_eq_true rfl) (c1  ) ?_
  show Bod _ _ _ _ [_] _ _ _
  refine Bod.ist dc_221_8 (by rw [ml_221]; exact Nat.le_of_ble_eq_true rfl) ?_
  refine Bod.go dc_221_10 rfl ?_
  refine Bod.go dc_221_11 rfl ?_
  refine Bod.virt (r := []) dc_221_13 kr_221_212 ⟨Or.inl rfl, ow_219, cl_6⟩ (by rw [np_219]; rfl) (by rw [np_219]; rfl) (ob_of (mk_53 _)) (Nat.le_of_ble_eq_true rfl) (c2  ) ?_
  show Bod _ _ _ _ [_] _ _ _
  refine Bod.ifT dc_221_16 rfl (k1_ne_T (k_ne 1 0 rfl rfl (by omega) (by omega) (by omega))) ?_
  refine Bod.go dc_221_21 rfl ?_
  refine Bod.get dc_221_22 fr_221_19 (mk_53 _) rfl ?_
  refine Bod.go dc_221_25 rfl ?_
  refine Bod.virt (r := []) dc_221_26 kr_221_215 ⟨Or.inr rfl, ow_181, cl_5⟩ (by rw [np_181]; rfl) (by rw [np_181]; rfl) (ob_of (mk_16 _)) (Nat.le_of_ble_eq_true rfl) (c3  ) ?_
  show Bod _ _ _ _ [_] _ _ _
  refine Bod.lst dc_221_29 (by rw [ml_221]; exact Nat.le_of_ble_eq_true rfl) ?_
  refine Bod.go dc_221_31 rfl ?_
  refine Bod.get dc_221_32 fr_221_19 (mk_53 _) rfl ?_
  refine Bod.go dc_221_35 rfl ?_
  refine Bod.virt (r := []) dc_221_36 kr_221_220 ⟨Or.inr rfl, ow_182, cl_5⟩ (by rw [np_182]; rfl) (by rw [np_182]; rfl) (ob_of (mk_16 _)) (Nat.le_of_ble_eq_true rfl) (c4  ) ?_
  show Bod _ _ _ _ [_] _ _ _
  refine Bod.lst dc_221_39 (by rw [ml_221]; exact Nat.le_of_ble_eq_true rfl) ?_
  refine Bod.go dc_221_41 rfl ?_
  refine Bod.get dc_221_42 fr_221_15 (mk_53 _) rfl ?_
  refine Bod.go dc_221_45 rfl ?_
  refine Bod.virt (r := []) dc_221_46 kr_221_70 ⟨Or.inr rfl, ow_132, cl_9⟩ (by rw [np_132]; rfl) (by rw [np_132]; rfl) (ob_of (mk_46 _)) (Nat.le_of_ble_eq_true rfl) (c5  ) ?_
  show Bod _ _ _ _ [_] _ _ _
  refine Bod.lst dc_221_49 (by rw [ml_221]; exact Nat.le_of_ble_eq_true rfl) ?_
  refine Bod.go dc_221_51 rfl ?_
  refine Bod.get dc_221_52 fr_221_15 (mk_53 _) rfl ?_
  refine Bod.go dc_221_55 rfl ?_
  refine Bod.virt (r := []) dc_221_56 kr_221_111 ⟨Or.inr rfl, ow_135, cl_9⟩ (by rw [np_135]; rfl) (by rw [np_135]; rfl) (ob_of (mk_46 _)) (Nat.le_of_ble_eq_true rfl) (c6  ) ?_
  show Bod _ _ _ _ [_] _ _ _
  refine Bod.lst dc_221_59 (by rw [ml_221]; exact Nat.le_of_ble_eq_true rfl) ?_
  refine Bod.go dc_221_61 rfl ?_
  refine Bod.get dc_221_62 fr_221_9 (mk_53 _) rfl ?_
  refine Bod.go dc_221_65 rfl ?_
  refine Bod.go dc_221_67 rfl ?_
  refine Bod.go dc_221_69 rfl ?_
  refine Bod.virt (r := []) dc_221_71 kr_221_178 ⟨Or.inr rfl, ow_206, cl_2⟩ (by rw [np_206]; rfl) (by rw [np_206]; rfl) (ob_of (mk_2 _)) (Nat.le_of_ble_eq_true rfl) (c7  ) ?_
  show Bod _ _ _ _ [_] _ _ _
  refine Bod.ist dc_221_74 (by rw [ml_221]; exact Nat.le_of_ble_eq_true rfl) ?_
  refine Bod.go dc_221_76 rfl ?_
  refine Bod.ifF dc_221_78 rfl w12 ?_
  refine Bod.go dc_221_81 rfl ?_
  refine Bod.get dc_221_82 fr_221_9 (mk_53 _) rfl ?_
  refine Bod.go dc_221_85 rfl ?_
  refine Bod.go dc_221_87 rfl ?_
  refine Bod.go dc_221_89 rfl ?_
  refine Bod.go dc_221_91 rfl ?_
  refine Bod.virt (r := []) dc_221_93 kr_221_197 ⟨Or.inr rfl, ow_174, cl_2⟩ (by rw [np_174]; rfl) (by rw [np_174]; rfl) (ob_of (mk_2 _)) (Nat.le_of_ble_eq_true rfl) (c8  ) ?_
  show Bod _ _ _ _ [] _ _ _
  refine Bod.go dc_221_96 rfl ?_
  refine Bod.go dc_221_122 rfl ?_
  refine Bod.get dc_221_123 fr_221_15 (mk_53 _) rfl ?_
  refine Bod.ic 2 (by decide) dc_221_126 ?_
  refine Bod.virt (r := []) dc_221_127 kr_221_205 ⟨Or.inr rfl, ow_141, cl_9⟩ (by rw [np_141]; rfl) (by rw [np_141]; rfl) (ob_of (mk_46 _)) (Nat.le_of_ble_eq_true rfl) (c9  ) ?_
  show Bod _ _ _ _ [] _ _ _
  refine Bod.ic 0 (by decide) dc_221_130 ?_
  exact Bod.retI dc_221_131 rt_221
theorem mPa_4 {d : Nat} {S : cS} {nm : Nat} {ob : Nat} {vb : Nat} {S1 : cS} {a : Nat} {S2 : cS} (mnm : nm < 2 ^ 20) (mob : ob < 2 ^ 20) (mvb : vb < 2 ^ 20) (ma : a < 2 ^ 20) (c1 : Ans (d + 8) 136 [.ref 46, .int (nI ob)] S (some (.int (nI a))) S1) (c2 : Ans (d + 8) 219 [.ref 53, .int (nI a)] S1 (some (.int (nI 0))) S2) : Bod (d + 8) 221 0 [(0, .ref 53), (1, .int (nI nm)), (2, .int (nI ob)), (3, .int (nI vb))] [] S (some (.int (nI 2))) (S2) := by
  refine Bod.go dc_221_0 rfl ?_
  refine Bod.get dc_221_1 fr_221_15 (mk_53 _) rfl ?_
  refine Bod.go dc_221_4 rfl ?_
  refine Bod.virt (r := []) dc_221_5 kr_221_169 ⟨Or.inr rfl, ow_136, cl_9⟩ (by rw [np_136]; rfl) (by rw [np_136]; rfl) (ob_of (mk_46 _)) (Nat.le_of_ble_eq_true rfl) (c1  ) ?_
  show Bod _ _ _ _ [_] _ _ _
  refine Bod.ist dc_221_8 (by rw [ml_221]; exact Nat.le_of_ble_eq_true rfl) ?_
  refine Bod.go dc_221_10 rfl ?_
  refine Bod.go dc_221_11 rfl ?_
  refine Bod.virt (r := []) dc_221_13 kr_221_212 ⟨Or.inl rfl, ow_219, cl_6⟩ (by rw [np_219]; rfl) (by rw [np_219]; rfl) (ob_of (mk_53 _)) (Nat.le_of_ble_eq_true rfl) (c2  ) ?_
  show Bod _ _ _ _ [_] _ _ _
  refine Bod.ifF dc_221_16 rfl (k1_ne_F (k_eq 0 0 rfl rfl (by omega))) ?_
  refine Bod.ic 2 (by decide) dc_221_19 ?_
  exact Bod.retI dc_221_20 rt_221
theorem mDa_1 {d : Nat} {S : cS} {nm : Nat} {S1 : cS} {a : Nat} {S2 : cS} {S3 : cS} {u : Int64} {S4 : cS} {u1 : Int64} {S5 : cS} {rb : Int32} {S6 : cS} {S7 : cS} (mnm : nm < 2 ^ 20) (ma : a < 2 ^ 20) (c1 : Ans (d + 8) 136 [.ref 46, .int (nI 0)] S (some (.int (nI a))) S1) (c2 : Ans (d + 8) 219 [.ref 53, .int (nI a)] S1 (some (.int (nI 1))) S2) (c3 : Ans (d + 8) 181 [.ref 16, .int (nI nm)] S2 (some (.long u)) S3) (c4 : Ans (d + 8) 182 [.ref 16, .int (nI nm)] S3 (some (.long u1)) S4) (c5 : Ans (d + 8) 206 [.ref 2, .int (nI a), .long u, .long u1] S4 (some (.int rb)) S5) (w8 : sm_c1 .ge rb true false = true) (c6 : Ans (d + 8) 213 [.ref 2, .int (nI a), .int rb] S5 none S6) (c7 : Ans (d + 8) 141 [.ref 46, .int (nI 1)] S6 none S7) : Bod (d + 8) 222 0 [(0, .ref 53), (1, .int (nI nm))] [] S (some (.int (nI 0))) (S7) := by
  refine Bod.go dc_222_0 rfl ?_
  refine Bod.get dc_222_1 fr_222_15 (mk_53 _) rfl ?_
  refine Bod.ic 0 (by decide) dc_222_4 ?_
  refine Bod.virt (r := []) dc_222_5 kr_222_169 ⟨Or.inr rfl, ow_136, cl_9⟩ (by rw [np_136]; rfl) (by rw [np_136]; rfl) (ob_of (mk_46 _)) (Nat.le_of_ble_eq_true rfl) (c1  ) ?_
  show Bod _ _ _ _ [_] _ _ _
  refine Bod.istn dc_222_8 (by rw [ml_222]; exact Nat.le_of_ble_eq_true rfl) ?_
  refine Bod.go dc_222_9 rfl ?_
  refine Bod.go dc_222_10 rfl ?_
  refine Bod.virt (r := []) dc_222_11 kr_222_212 ⟨Or.inl rfl, ow_219, cl_6⟩ (by rw [np_219]; rfl) (by rw [np_219]; rfl) (ob_of (mk_53 _)) (Nat.le_of_ble_eq_true rfl) (c2  ) ?_
  show Bod _ _ _ _ [_] _ _ _
  refine Bod.ifT dc_222_14 rfl (k1_ne_T (k_ne 1 0 rfl rfl (by omega) (by omega) (by omega))) ?_
  refine Bod.go dc_222_19 rfl ?_
  refine Bod.get dc_222_20 fr_222_9 (mk_53 _) rfl ?_
  refine Bod.go dc_222_23 rfl ?_
  refine Bod.go dc_222_24 rfl ?_
  refine Bod.get dc_222_25 fr_222_19 (mk_53 _) rfl ?_
  refine Bod.go dc_222_28 rfl ?_
  refine Bod.virt (r := [_, _]) dc_222_29 kr_222_215 ⟨Or.inr rfl, ow_181, cl_5⟩ (by rw [np_181]; rfl) (by rw [np_181]; rfl) (ob_of (mk_16 _)) (Nat.le_of_ble_eq_true rfl) (c3  ) ?_
  show Bod _ _ _ _ [_, _, _] _ _ _
  refine Bod.go dc_222_32 rfl ?_
  refine Bod.get dc_222_33 fr_222_19 (mk_53 _) rfl ?_
  refine Bod.go dc_222_36 rfl ?_
  refine Bod.virt (r := [_, _, _]) dc_222_37 kr_222_220 ⟨Or.inr rfl, ow_182, cl_5⟩ (by rw [np_182]; rfl) (by rw [np_182]; rfl) (ob_of (mk_16 _)) (Nat.le_of_ble_eq_true rfl) (c4  ) ?_
  show Bod _ _ _ _ [_, _, _, _] _ _ _
  refine Bod.virt (r := []) dc_222_40 kr_222_178 ⟨Or.inr rfl, ow_206, cl_2⟩ (by rw [np_206]; rfl) (by rw [np_206]; rfl) (ob_of (mk_2 _)) (Nat.le_of_ble_eq_true rfl) (c5  ) ?_
  show Bod _ _ _ _ [_] _ _ _
  refine Bod.istn dc_222_43 (by rw [ml_222]; exact Nat.le_of_ble_eq_true rfl) ?_
  refine Bod.go dc_222_44 rfl ?_
  refine Bod.ifT dc_222_45 rfl w8 ?_
  refine Bod.go dc_222_51 rfl ?_
  refine Bod.get dc_222_52 fr_222_9 (mk_53 _) rfl ?_
  refine Bod.go dc_222_55 rfl ?_
  refine Bod.go dc_222_56 rfl ?_
  refine Bod.virt (r := []) dc_222_57 kr_222_209 ⟨Or.inr rfl, ow_213, cl_2⟩ (by rw [np_213]; rfl) (by rw [np_213]; rfl) (ob_of (mk_2 _)) (Nat.le_of_ble_eq_true rfl) (c6  ) ?_
  show Bod _ _ _ _ [] _ _ _
  refine Bod.go dc_222_60 rfl ?_
  refine Bod.get dc_222_61 fr_222_15 (mk_53 _) rfl ?_
  refine Bod.ic 1 (by decide) dc_222_64 ?_
  refine Bod.virt (r := []) dc_222_65 kr_222_205 ⟨Or.inr rfl, ow_141, cl_9⟩ (by rw [np_141]; rfl) (by rw [np_141]; rfl) (ob_of (mk_46 _)) (Nat.le_of_ble_eq_true rfl) (c7  ) ?_
  show Bod _ _ _ _ [] _ _ _
  refine Bod.ic 0 (by decide) dc_222_68 ?_
  exact Bod.retI dc_222_69 rt_222
theorem mDa_2 {d : Nat} {S : cS} {nm : Nat} {S1 : cS} {a : Nat} {S2 : cS} {S3 : cS} {u : Int64} {S4 : cS} {u1 : Int64} {S5 : cS} {rb : Int32} (mnm : nm < 2 ^ 20) (ma : a < 2 ^ 20) (c1 : Ans (d + 8) 136 [.ref 46, .int (nI 0)] S (some (.int (nI a))) S1) (c2 : Ans (d + 8) 219 [.ref 53, .int (nI a)] S1 (some (.int (nI 1))) S2) (c3 : Ans (d + 8) 181 [.ref 16, .int (nI nm)] S2 (some (.long u)) S3) (c4 : Ans (d + 8) 182 [.ref 16, .int (nI nm)] S3 (some (.long u1)) S4) (c5 : Ans (d + 8) 206 [.ref 2, .int (nI a), .long u, .long u1] S4 (some (.int rb)) S5) (w8 : sm_c1 .ge rb true false = false) : Bod (d + 8) 222 0 [(0, .ref 53), (1, .int (nI nm))] [] S (some (.int (nI 9))) (S5) := by
  refine Bod.go dc_222_0 rfl ?_
  refine Bod.get dc_222_1 fr_222_15 (mk_53 _) rfl ?_
  refine Bod.ic 0 (by decide) dc_222_4 ?_
  refine Bod.virt (r := []) dc_222_5 kr_222_169 ⟨Or.inr rfl, ow_136, cl_9⟩ (by rw [np_136]; rfl) (by rw [np_136]; rfl) (ob_of (mk_46 _)) (Nat.le_of_ble_eq_true rfl) (c1  ) ?_
  show Bod _ _ _ _ [_] _ _ _
  refine Bod.istn dc_222_8 (by rw [ml_222]; exact Nat.le_of_ble_eq_true rfl) ?_
  refine Bod.go dc_222_9 rfl ?_
  refine Bod.go dc_222_10 rfl ?_
  refine Bod.virt (r := []) dc_222_11 kr_222_212 ⟨Or.inl rfl, ow_219, cl_6⟩ (by rw [np_219]; rfl) (by rw [np_219]; rfl) (ob_of (mk_53 _)) (Nat.le_of_ble_eq_true rfl) (c2  ) ?_
  show Bod _ _ _ _ [_] _ _ _
  refine Bod.ifT dc_222_14 rfl (k1_ne_T (k_ne 1 0 rfl rfl (by omega) (by omega) (by omega))) ?_
  refine Bod.go dc_222_19 rfl ?_
  refine Bod.get dc_222_20 fr_222_9 (mk_53 _) rfl ?_
  refine Bod.go dc_222_23 rfl ?_
  refine Bod.go dc_222_24 rfl ?_
  refine Bod.get dc_222_25 fr_222_19 (mk_53 _) rfl ?_
  refine Bod.go dc_222_28 rfl ?_
  refine Bod.virt (r := [_, _]) dc_222_29 kr_222_215 ⟨Or.inr rfl, ow_181, cl_5⟩ (by rw [np_181]; rfl) (by rw [np_181]; rfl) (ob_of (mk_16 _)) (Nat.le_of_ble_eq_true rfl) (c3  ) ?_
  show Bod _ _ _ _ [_, _, _] _ _ _
  refine Bod.go dc_222_32 rfl ?_
  refine Bod.get dc_222_33 fr_222_19 (mk_53 _) rfl ?_
  refine Bod.go dc_222_36 rfl ?_
  refine Bod.virt (r := [_, _, _]) dc_222_37 kr_222_220 ⟨Or.inr rfl, ow_182, cl_5⟩ (by rw [np_182]; rfl) (by rw [np_182]; rfl) (ob_of (mk_16 _)) (Nat.le_of_ble_eq_true rfl) (c4  ) ?_
  show Bod _ _ _ _ [_, _, _, _] _ _ _
  refine Bod.virt (r := []) dc_222_40 kr_222_178 ⟨Or.inr rfl, ow_206, cl_2⟩ (by rw [np_206]; rfl) (by rw [np_206]; rfl) (ob_of (mk_2 _)) (Nat.le_of_ble_eq_true rfl) (c5  ) ?_
  show Bod _ _ _ _ [_] _ _ _
  refine Bod.istn dc_222_43 (by rw [ml_222]; exact Nat.le_of_ble_eq_true rfl) ?_
  refine Bod.go dc_222_44 rfl ?_
  refine Bod.ifF dc_222_45 rfl w8 ?_
  refine Bod.bip 9 (by decide) dc_222_48 ?_
  exact Bod.retI dc_222_50 rt_222
theorem mDa_3 {d : Nat} {S : cS} {nm : Nat} {S1 : cS} {a : Nat} {S2 : cS} (mnm : nm < 2 ^ 20) (ma : a < 2 ^ 20) (c1 : Ans (d + 8) 136 [.ref 46, .int (nI 0)] S (some (.int (nI a))) S1) (c2 : Ans (d + 8) 219 [.ref 53, .int (nI a)] S1 (some (.int (nI 0))) S2) : Bod (d + 8) 222 0 [(0, .ref 53), (1, .int (nI nm))] [] S (some (.int (nI 2))) (S2) := by
  refine Bod.go dc_222_0 rfl ?_
  refine Bod.get dc_222_1 fr_222_15 (mk_53 _) rfl ?_
  refine Bod.ic 0 (by decide) dc_222_4 ?_
  refine Bod.virt (r := []) dc_222_5 kr_222_169 ⟨Or.inr rfl, ow_136, cl_9⟩ (by rw [np_136]; rfl) (by rw [np_136]; rfl) (ob_of (mk_46 _)) (Nat.le_of_ble_eq_true rfl) (c1  ) ?_
  show Bod _ _ _ _ [_] _ _ _
  refine Bod.istn dc_222_8 (by rw [ml_222]; exact Nat.le_of_ble_eq_true rfl) ?_
  refine Bod.go dc_222_9 rfl ?_
  refine Bod.go dc_222_10 rfl ?_
  refine Bod.virt (r := []) dc_222_11 kr_222_212 ⟨Or.inl rfl, ow_219, cl_6⟩ (by rw [np_219]; rfl) (by rw [np_219]; rfl) (ob_of (mk_53 _)) (Nat.le_of_ble_eq_true rfl) (c2  ) ?_
  show Bod _ _ _ _ [_] _ _ _
  refine Bod.ifF dc_222_14 rfl (k1_ne_F (k_eq 0 0 rfl rfl (by omega))) ?_
  refine Bod.ic 2 (by decide) dc_222_17 ?_
  exact Bod.retI dc_222_18 rt_222
theorem mIk_1 {d : Nat} {S : cS} {xh : Int64} {S1 : cS} {rb : Int32} (c1 : Ans (d + 8) 134 [.long xh] S (some (.int rb)) S1) (w2 : rb = nI 2) : Bod (d + 8) 205 0 [(0, .long xh)] [] S (some (.int 1)) (S1) := by
  refine Bod.go dc_205_0 rfl ?_
  refine Bod.stat (r := []) dc_205_1 kr_205_152 (Or.inl rfl) (by rw [np_134]; rfl) (by rw [np_134]; rfl) (by rw [np_134]; exact Nat.le_of_ble_eq_true rfl) (Nat.le_of_ble_eq_true rfl) (c1  ) ?_
  show Bod _ _ _ _ [_] _ _ _
  refine Bod.ic 2 (by decide) dc_205_4 ?_
  refine Bod.icT dc_205_5 rfl (c2_eq_T w2) ?_
  refine Bod.ic 1 (by decide) dc_205_16 ?_
  refine Bod.go dc_205_17 rfl ?_
  exact Bod.retZ dc_205_21 rt_205 (Or.inr rfl)
theorem mIk_2 {d : Nat} {S : cS} {xh : Int64} {S1 : cS} {rb : Int32} {S2 : cS} {rb1 : Int32} (c1 : Ans (d + 8) 134 [.long xh] S (some (.int rb)) S1) (w2 : rb ≠ nI 2) (c2 : Ans (d + 8) 134 [.long xh] S1 (some (.int rb1)) S2) (w4 : rb1 = nI 3) : Bod (d + 8) 205 0 [(0, .long xh)] [] S (some (.int 1)) (S2) := by
  refine Bod.go dc_205_0 rfl ?_
  refine Bod.stat (r := []) dc_205_1 kr_205_152 (Or.inl rfl) (by rw [np_134]; rfl) (by rw [np_134]; rfl) (by rw [np_134]; exact Nat.le_of_ble_eq_true rfl) (Nat.le_of_ble_eq_true rfl) (c1  ) ?_
  show Bod _ _ _ _ [_] _ _ _
  refine Bod.ic 2 (by decide) dc_205_4 ?_
  refine Bod.icF dc_205_5 rfl (c2_eq_F w2) ?_
  refine Bod.go dc_205_8 rfl ?_
  refine Bod.stat (r := []) dc_205_9 kr_205_152 (Or.inl rfl) (by rw [np_134]; rfl) (by rw [np_134]; rfl) (by rw [np_134]; exact Nat.le_of_ble_eq_true rfl) (Nat.le_of_ble_eq_true rfl) (c2  ) ?_
  show Bod _ _ _ _ [_] _ _ _
  refine Bod.ic 3 (by decide) dc_205_12 ?_
  refine Bod.icF dc_205_13 rfl (c2_ne_F w4) ?_
  refine Bod.ic 1 (by decide) dc_205_16 ?_
  refine Bod.go dc_205_17 rfl ?_
  exact Bod.retZ dc_205_21 rt_205 (Or.inr rfl)
theorem mIk_3 {d : Nat} {S : cS} {xh : Int64} {S1 : cS} {rb : Int32} {S2 : cS} {rb1 : Int32} (c1 : Ans (d + 8) 134 [.long xh] S (some (.int rb)) S1) (w2 : rb ≠ nI 2) (c2 : Ans (d + 8) 134 [.long xh] S1 (some (.int rb1)) S2) (w4 : rb1 ≠ nI 3) : Bod (d + 8) 205 0 [(0, .long xh)] [] S (some (.int 0)) (S2) := by
  refine Bod.go dc_205_0 rfl ?_
  refine Bod.stat (r := []) dc_205_1 kr_205_152 (Or.inl rfl) (by rw [np_134]; rfl) (by rw [np_134]; rfl) (by rw [np_134]; exact Nat.le_of_ble_eq_true rfl) (Nat.le_of_ble_eq_true rfl) (c1  ) ?_
  show Bod _ _ _ _ [_] _ _ _
  refine Bod.ic 2 (by decide) dc_205_4 ?_
  refine Bod.icF dc_205_5 rfl (c2_eq_F w2) ?_
  refine Bod.go dc_205_8 rfl ?_
  refine Bod.stat (r := []) dc_205_9 kr_205_152 (Or.inl rfl) (by rw [np_134]; rfl) (by rw [np_134]; rfl) (by rw [np_134]; exact Nat.le_of_ble_eq_true rfl) (Nat.le_of_ble_eq_true rfl) (c2  ) ?_
  show Bod _ _ _ _ [_] _ _ _
  refine Bod.ic 3 (by decide) dc_205_12 ?_
  refine Bod.icT dc_205_13 rfl (c2_ne_T w4) ?_
  refine Bod.ic 0 (by decide) dc_205_20 ?_
  exact Bod.retZ dc_205_21 rt_205 (Or.inl rfl)
