/-! A VALUE of the reference: ways -/
theorem dc_316_0 : decode (sm_cc 316) 0 = .ok (.aload_n 0, 1) := by decide +kernel
theorem dc_316_1 : decode (sm_cc 316) 1 = .ok (.iconst 0, 1) := by decide +kernel
theorem dc_316_2 : decode (sm_cc 316) 2 = .ok (.putfield 397, 3) := by decide +kernel
theorem fr_316_397 : sm_at mt_f (sm_ow 316) 397 = some (397, 14, 31, 0, 2104) := by decide +kernel
theorem dc_316_5 : decode (sm_cc 316) 5 = .ok (.aload_n 0, 1) := by decide +kernel
theorem dc_316_6 : decode (sm_cc 316) 6 = .ok (.getfield 129, 3) := by decide +kernel
theorem fr_316_129 : sm_at mt_f (sm_ow 316) 129 = some (129, 14, 6, 0, 2079) := by decide +kernel
theorem dc_316_9 : decode (sm_cc 316) 9 = .ok (.aload_n 0, 1) := by decide +kernel
theorem dc_316_10 : decode (sm_cc 316) 10 = .ok (.getfield 190, 3) := by decide +kernel
theorem fr_316_190 : sm_at mt_f (sm_ow 316) 190 = some (190, 14, 15, 0, 2088) := by decide +kernel
theorem dc_316_13 : decode (sm_cc 316) 13 = .ok (.iaload, 1) := by decide +kernel
theorem dc_316_14 : decode (sm_cc 316) 14 = .ok (.tableswitch (290) 1 5 #[34, 186, 111, 144, 287], 34) := by decide +kernel
theorem dc_316_48 : decode (sm_cc 316) 48 = .ok (.aload_n 0, 1) := by decide +kernel
theorem dc_316_49 : decode (sm_cc 316) 49 = .ok (.iconst 1, 1) := by decide +kernel
theorem dc_316_50 : decode (sm_cc 316) 50 = .ok (.putfield 397, 3) := by decide +kernel
theorem dc_316_53 : decode (sm_cc 316) 53 = .ok (.aload_n 0, 1) := by decide +kernel
theorem dc_316_54 : decode (sm_cc 316) 54 = .ok (.aload_n 0, 1) := by decide +kernel
theorem dc_316_55 : decode (sm_cc 316) 55 = .ok (.getfield 206, 3) := by decide +kernel
theorem fr_316_206 : sm_at mt_f (sm_ow 316) 206 = some (206, 14, 14, 0, 2087) := by decide +kernel
theorem dc_316_58 : decode (sm_cc 316) 58 = .ok (.getfield 219, 3) := by decide +kernel
theorem fr_316_219 : sm_at mt_f (sm_ow 316) 219 = some (219, 12, 1, 0, 2411) := by decide +kernel
theorem dc_316_61 : decode (sm_cc 316) 61 = .ok (.putfield 425, 3) := by decide +kernel
theorem fr_316_425 : sm_at mt_f (sm_ow 316) 425 = some (425, 14, 32, 0, 2105) := by decide +kernel
theorem dc_316_64 : decode (sm_cc 316) 64 = .ok (.aload_n 0, 1) := by decide +kernel
theorem dc_316_65 : decode (sm_cc 316) 65 = .ok (.aload_n 0, 1) := by decide +kernel
theorem dc_316_66 : decode (sm_cc 316) 66 = .ok (.getfield 129, 3) := by decide +kernel
theorem dc_316_69 : decode (sm_cc 316) 69 = .ok (.aload_n 0, 1) := by decide +kernel
theorem dc_316_70 : decode (sm_cc 316) 70 = .ok (.getfield 190, 3) := by decide +kernel
theorem dc_316_73 : decode (sm_cc 316) 73 = .ok (.iconst 1, 1) := by decide +kernel
theorem dc_316_74 : decode (sm_cc 316) 74 = .ok (.iadd, 1) := by decide +kernel
theorem dc_316_75 : decode (sm_cc 316) 75 = .ok (.iaload, 1) := by decide +kernel
theorem dc_316_76 : decode (sm_cc 316) 76 = .ok (.iconst 5, 1) := by decide +kernel
theorem dc_316_77 : decode (sm_cc 316) 77 = .ok (.if_icmp .ne (23), 3) := by decide +kernel
theorem dc_316_100 : decode (sm_cc 316) 100 = .ok (.iconst 4, 1) := by decide +kernel
theorem dc_316_101 : decode (sm_cc 316) 101 = .ok (.aload_n 0, 1) := by decide +kernel
theorem dc_316_102 : decode (sm_cc 316) 102 = .ok (.getfield 135, 3) := by decide +kernel
theorem fr_316_135 : sm_at mt_f (sm_ow 316) 135 = some (135, 14, 7, 0, 2080) := by decide +kernel
theorem dc_316_105 : decode (sm_cc 316) 105 = .ok (.aload_n 0, 1) := by decide +kernel
theorem dc_316_106 : decode (sm_cc 316) 106 = .ok (.getfield 190, 3) := by decide +kernel
theorem dc_316_109 : decode (sm_cc 316) 109 = .ok (.iaload, 1) := by decide +kernel
theorem dc_316_110 : decode (sm_cc 316) 110 = .ok (.invokevirtual 341, 3) := by decide +kernel
theorem ow_317 : 14 = sm_ow 317 := by decide +kernel
theorem kr_316_341 : sm_at mt_k (sm_ow 316) 341 = some (341, 0, 317, 0, 2526) := by decide +kernel
theorem np_317 : sm_np 317 = 2 := by decide +kernel
theorem dc_316_113 : decode (sm_cc 316) 113 = .ok (.aload_n 0, 1) := by decide +kernel
theorem dc_316_114 : decode (sm_cc 316) 114 = .ok (.dup, 1) := by decide +kernel
theorem dc_316_115 : decode (sm_cc 316) 115 = .ok (.getfield 190, 3) := by decide +kernel
theorem dc_316_118 : decode (sm_cc 316) 118 = .ok (.iconst 1, 1) := by decide +kernel
theorem dc_316_119 : decode (sm_cc 316) 119 = .ok (.iadd, 1) := by decide +kernel
theorem dc_316_120 : decode (sm_cc 316) 120 = .ok (.putfield 190, 3) := by decide +kernel
theorem dc_316_123 : decode (sm_cc 316) 123 = .ok (.iconst 1, 1) := by decide +kernel
theorem dc_316_124 : decode (sm_cc 316) 124 = .ok (.ireturn, 1) := by decide +kernel
theorem rt_316 : sm_rt 316 = some .boolean := by decide +kernel
theorem ml_316 : sm_ml 316 = 4 := by decide +kernel
theorem dc_316_80 : decode (sm_cc 316) 80 = .ok (.aload_n 0, 1) := by decide +kernel
theorem dc_316_81 : decode (sm_cc 316) 81 = .ok (.getfield 135, 3) := by decide +kernel
theorem dc_316_84 : decode (sm_cc 316) 84 = .ok (.aload_n 0, 1) := by decide +kernel
theorem dc_316_85 : decode (sm_cc 316) 85 = .ok (.getfield 190, 3) := by decide +kernel
theorem dc_316_88 : decode (sm_cc 316) 88 = .ok (.iconst 1, 1) := by decide +kernel
theorem dc_316_89 : decode (sm_cc 316) 89 = .ok (.iadd, 1) := by decide +kernel
theorem dc_316_90 : decode (sm_cc 316) 90 = .ok (.iaload, 1) := by decide +kernel
theorem dc_316_91 : decode (sm_cc 316) 91 = .ok (.bipush (40), 2) := by decide +kernel
theorem dc_316_93 : decode (sm_cc 316) 93 = .ok (.if_icmp .ne (7), 3) := by decide +kernel
theorem dc_316_96 : decode (sm_cc 316) 96 = .ok (.iconst 5, 1) := by decide +kernel
theorem dc_316_97 : decode (sm_cc 316) 97 = .ok (.goto (4), 3) := by decide +kernel
theorem dc_316_125 : decode (sm_cc 316) 125 = .ok (.aload_n 0, 1) := by decide +kernel
theorem dc_316_126 : decode (sm_cc 316) 126 = .ok (.iconst 2, 1) := by decide +kernel
theorem dc_316_127 : decode (sm_cc 316) 127 = .ok (.aload_n 0, 1) := by decide +kernel
theorem dc_316_128 : decode (sm_cc 316) 128 = .ok (.getfield 206, 3) := by decide +kernel
theorem dc_316_131 : decode (sm_cc 316) 131 = .ok (.aload_n 0, 1) := by decide +kernel
theorem dc_316_132 : decode (sm_cc 316) 132 = .ok (.getfield 175, 3) := by decide +kernel
theorem fr_316_175 : sm_at mt_f (sm_ow 316) 175 = some (175, 14, 10, 0, 2083) := by decide +kernel
theorem dc_316_135 : decode (sm_cc 316) 135 = .ok (.aload_n 0, 1) := by decide +kernel
theorem dc_316_136 : decode (sm_cc 316) 136 = .ok (.getfield 190, 3) := by decide +kernel
theorem dc_316_139 : decode (sm_cc 316) 139 = .ok (.laload, 1) := by decide +kernel
theorem dc_316_140 : decode (sm_cc 316) 140 = .ok (.invokevirtual 428, 3) := by decide +kernel
theorem ow_320 : 12 = sm_ow 320 := by decide +kernel
theorem kr_316_428 : sm_at mt_k (sm_ow 316) 428 = some (428, 0, 320, 0, 2538) := by decide +kernel
theorem np_320 : sm_np 320 = 1 := by decide +kernel
theorem dc_316_143 : decode (sm_cc 316) 143 = .ok (.invokevirtual 216, 3) := by decide +kernel
theorem kr_316_216 : sm_at mt_k (sm_ow 316) 216 = some (216, 0, 302, 0, 2465) := by decide +kernel
theorem dc_316_146 : decode (sm_cc 316) 146 = .ok (.aload_n 0, 1) := by decide +kernel
theorem dc_316_147 : decode (sm_cc 316) 147 = .ok (.dup, 1) := by decide +kernel
theorem dc_316_148 : decode (sm_cc 316) 148 = .ok (.getfield 190, 3) := by decide +kernel
theorem dc_316_151 : decode (sm_cc 316) 151 = .ok (.iconst 1, 1) := by decide +kernel
theorem dc_316_152 : decode (sm_cc 316) 152 = .ok (.iadd, 1) := by decide +kernel
theorem dc_316_153 : decode (sm_cc 316) 153 = .ok (.putfield 190, 3) := by decide +kernel
theorem dc_316_156 : decode (sm_cc 316) 156 = .ok (.iconst 1, 1) := by decide +kernel
theorem dc_316_157 : decode (sm_cc 316) 157 = .ok (.ireturn, 1) := by decide +kernel
theorem dc_316_158 : decode (sm_cc 316) 158 = .ok (.aload_n 0, 1) := by decide +kernel
theorem dc_316_159 : decode (sm_cc 316) 159 = .ok (.iconst 3, 1) := by decide +kernel
theorem dc_316_160 : decode (sm_cc 316) 160 = .ok (.aload_n 0, 1) := by decide +kernel
theorem dc_316_161 : decode (sm_cc 316) 161 = .ok (.getfield 206, 3) := by decide +kernel
theorem dc_316_164 : decode (sm_cc 316) 164 = .ok (.aload_n 0, 1) := by decide +kernel
theorem dc_316_165 : decode (sm_cc 316) 165 = .ok (.getfield 175, 3) := by decide +kernel
theorem dc_316_168 : decode (sm_cc 316) 168 = .ok (.aload_n 0, 1) := by decide +kernel
theorem dc_316_169 : decode (sm_cc 316) 169 = .ok (.getfield 190, 3) := by decide +kernel
theorem dc_316_172 : decode (sm_cc 316) 172 = .ok (.laload, 1) := by decide +kernel
theorem dc_316_173 : decode (sm_cc 316) 173 = .ok (.aload_n 0, 1) := by decide +kernel
theorem dc_316_174 : decode (sm_cc 316) 174 = .ok (.getfield 182, 3) := by decide +kernel
theorem fr_316_182 : sm_at mt_f (sm_ow 316) 182 = some (182, 14, 11, 0, 2084) := by decide +kernel
theorem dc_316_177 : decode (sm_cc 316) 177 = .ok (.aload_n 0, 1) := by decide +kernel
theorem dc_316_178 : decode (sm_cc 316) 178 = .ok (.getfield 190, 3) := by decide +kernel
theorem dc_316_181 : decode (sm_cc 316) 181 = .ok (.laload, 1) := by decide +kernel
theorem dc_316_182 : decode (sm_cc 316) 182 = .ok (.invokevirtual 432, 3) := by decide +kernel
theorem ow_321 : 12 = sm_ow 321 := by decide +kernel
theorem kr_316_432 : sm_at mt_k (sm_ow 316) 432 = some (432, 0, 321, 0, 2543) := by decide +kernel
theorem np_321 : sm_np 321 = 2 := by decide +kernel
theorem dc_316_185 : decode (sm_cc 316) 185 = .ok (.invokevirtual 216, 3) := by decide +kernel
theorem dc_316_188 : decode (sm_cc 316) 188 = .ok (.aload_n 0, 1) := by decide +kernel
theorem dc_316_189 : decode (sm_cc 316) 189 = .ok (.dup, 1) := by decide +kernel
theorem dc_316_190 : decode (sm_cc 316) 190 = .ok (.getfield 190, 3) := by decide +kernel
theorem dc_316_193 : decode (sm_cc 316) 193 = .ok (.iconst 1, 1) := by decide +kernel
theorem dc_316_194 : decode (sm_cc 316) 194 = .ok (.iadd, 1) := by decide +kernel
theorem dc_316_195 : decode (sm_cc 316) 195 = .ok (.putfield 190, 3) := by decide +kernel
theorem dc_316_198 : decode (sm_cc 316) 198 = .ok (.iconst 1, 1) := by decide +kernel
theorem dc_316_199 : decode (sm_cc 316) 199 = .ok (.ireturn, 1) := by decide +kernel
theorem dc_316_200 : decode (sm_cc 316) 200 = .ok (.aload_n 0, 1) := by decide +kernel
theorem dc_316_201 : decode (sm_cc 316) 201 = .ok (.getfield 135, 3) := by decide +kernel
theorem dc_316_204 : decode (sm_cc 316) 204 = .ok (.aload_n 0, 1) := by decide +kernel
theorem dc_316_205 : decode (sm_cc 316) 205 = .ok (.getfield 190, 3) := by decide +kernel
theorem dc_316_208 : decode (sm_cc 316) 208 = .ok (.iaload, 1) := by decide +kernel
theorem dc_316_209 : decode (sm_cc 316) 209 = .ok (.bipush (21), 2) := by decide +kernel
theorem dc_316_211 : decode (sm_cc 316) 211 = .ok (.if_icmp .ne (11), 3) := by decide +kernel
theorem dc_316_214 : decode (sm_cc 316) 214 = .ok (.aload_n 0, 1) := by decide +kernel
theorem dc_316_215 : decode (sm_cc 316) 215 = .ok (.iconst 1, 1) := by decide +kernel
theorem dc_316_216 : decode (sm_cc 316) 216 = .ok (.invokevirtual 269, 3) := by decide +kernel
theorem kr_316_269 : sm_at mt_k (sm_ow 316) 269 = some (269, 0, 322, 0, 2547) := by decide +kernel
theorem dc_316_219 : decode (sm_cc 316) 219 = .ok (.goto (70), 3) := by decide +kernel
theorem dc_316_289 : decode (sm_cc 316) 289 = .ok (.aload_n 0, 1) := by decide +kernel
theorem dc_316_290 : decode (sm_cc 316) 290 = .ok (.dup, 1) := by decide +kernel
theorem dc_316_291 : decode (sm_cc 316) 291 = .ok (.getfield 190, 3) := by decide +kernel
theorem dc_316_294 : decode (sm_cc 316) 294 = .ok (.iconst 1, 1) := by decide +kernel
theorem dc_316_295 : decode (sm_cc 316) 295 = .ok (.iadd, 1) := by decide +kernel
theorem dc_316_296 : decode (sm_cc 316) 296 = .ok (.putfield 190, 3) := by decide +kernel
theorem dc_316_299 : decode (sm_cc 316) 299 = .ok (.iconst 1, 1) := by decide +kernel
theorem dc_316_300 : decode (sm_cc 316) 300 = .ok (.ireturn, 1) := by decide +kernel
theorem dc_316_222 : decode (sm_cc 316) 222 = .ok (.aload_n 0, 1) := by decide +kernel
theorem dc_316_223 : decode (sm_cc 316) 223 = .ok (.getfield 135, 3) := by decide +kernel
theorem dc_316_226 : decode (sm_cc 316) 226 = .ok (.aload_n 0, 1) := by decide +kernel
theorem dc_316_227 : decode (sm_cc 316) 227 = .ok (.getfield 190, 3) := by decide +kernel
theorem dc_316_230 : decode (sm_cc 316) 230 = .ok (.iaload, 1) := by decide +kernel
theorem dc_316_231 : decode (sm_cc 316) 231 = .ok (.bipush (22), 2) := by decide +kernel
theorem dc_316_233 : decode (sm_cc 316) 233 = .ok (.if_icmp .eq (17), 3) := by decide +kernel
theorem dc_316_250 : decode (sm_cc 316) 250 = .ok (.aload_n 0, 1) := by decide +kernel
theorem dc_316_251 : decode (sm_cc 316) 251 = .ok (.iconst 2, 1) := by decide +kernel
theorem dc_316_252 : decode (sm_cc 316) 252 = .ok (.aload_n 0, 1) := by decide +kernel
theorem dc_316_253 : decode (sm_cc 316) 253 = .ok (.getfield 206, 3) := by decide +kernel
theorem dc_316_256 : decode (sm_cc 316) 256 = .ok (.aload_n 0, 1) := by decide +kernel
theorem dc_316_257 : decode (sm_cc 316) 257 = .ok (.getfield 135, 3) := by decide +kernel
theorem dc_316_260 : decode (sm_cc 316) 260 = .ok (.aload_n 0, 1) := by decide +kernel
theorem dc_316_261 : decode (sm_cc 316) 261 = .ok (.getfield 190, 3) := by decide +kernel
theorem dc_316_264 : decode (sm_cc 316) 264 = .ok (.iaload, 1) := by decide +kernel
theorem dc_316_265 : decode (sm_cc 316) 265 = .ok (.bipush (22), 2) := by decide +kernel
theorem dc_316_267 : decode (sm_cc 316) 267 = .ok (.if_icmp .ne (7), 3) := by decide +kernel
theorem dc_316_270 : decode (sm_cc 316) 270 = .ok (.lconst 1, 1) := by decide +kernel
theorem dc_316_271 : decode (sm_cc 316) 271 = .ok (.goto (4), 3) := by decide +kernel
theorem dc_316_275 : decode (sm_cc 316) 275 = .ok (.invokevirtual 428, 3) := by decide +kernel
theorem dc_316_278 : decode (sm_cc 316) 278 = .ok (.invokevirtual 216, 3) := by decide +kernel
theorem dc_316_281 : decode (sm_cc 316) 281 = .ok (.goto (8), 3) := by decide +kernel
theorem dc_316_236 : decode (sm_cc 316) 236 = .ok (.aload_n 0, 1) := by decide +kernel
theorem dc_316_237 : decode (sm_cc 316) 237 = .ok (.getfield 135, 3) := by decide +kernel
theorem dc_316_240 : decode (sm_cc 316) 240 = .ok (.aload_n 0, 1) := by decide +kernel
theorem dc_316_241 : decode (sm_cc 316) 241 = .ok (.getfield 190, 3) := by decide +kernel
theorem dc_316_244 : decode (sm_cc 316) 244 = .ok (.iaload, 1) := by decide +kernel
theorem dc_316_245 : decode (sm_cc 316) 245 = .ok (.bipush (23), 2) := by decide +kernel
theorem dc_316_247 : decode (sm_cc 316) 247 = .ok (.if_icmp .ne (37), 3) := by decide +kernel
theorem dc_316_274 : decode (sm_cc 316) 274 = .ok (.lconst 0, 1) := by decide +kernel
theorem dc_316_284 : decode (sm_cc 316) 284 = .ok (.aload_n 0, 1) := by decide +kernel
theorem dc_316_285 : decode (sm_cc 316) 285 = .ok (.invokevirtual 202, 3) := by decide +kernel
theorem kr_316_202 : sm_at mt_k (sm_ow 316) 202 = some (202, 0, 299, 0, 2454) := by decide +kernel
theorem dc_316_288 : decode (sm_cc 316) 288 = .ok (.ireturn, 1) := by decide +kernel
theorem dc_316_304 : decode (sm_cc 316) 304 = .ok (.aload_n 0, 1) := by decide +kernel
theorem dc_316_305 : decode (sm_cc 316) 305 = .ok (.invokevirtual 202, 3) := by decide +kernel
theorem dc_316_308 : decode (sm_cc 316) 308 = .ok (.ireturn, 1) := by decide +kernel
theorem ra_name1 {d : Nat} {S : cS} {dp : Nat} {j : Nat} {r : Nat} {m : Nat} {u : Nat} {k : Nat} {S1 : cS} {k2 : Nat} (hdp : dp ≤ 12) (ha : sI S 6115 = nI j) (hj : j + 1 < 6002) (hkd : sA S 67 j = nI 1) (hvl : sA S 68 j = nI r) (hrM : r < 2 ^ 20) (hx1 : ¬ 100 * m = 6130) (hx2 : ¬ 100 * m = 6131) (hm : 108 ≤ m) (hs : (sS S)[m - 108]? = some (12, u)) (hcode : sV S 6114 = .ref m) (hk : sI S (100 * m + 1) = nI k) (hkM : k < 2 ^ 20) (hk2 : sA S 67 (j + 1) = nI k2) (hkk : k2 < 100) (hn5 : k2 ≠ 5) (hN : Ans (d + 8) 317 [.ref 61, .int (nI 4), .int (nI r)] (wI 6132 (nI k) (wI 6131 (nI 1) (wI 6131 (nI 0) S))) none S1) (ha1 : sI S1 6115 = nI j) : Ans (d + 9) 316 [.ref 61, .int (nI dp)] S (some (.int 1)) (wI 6115 (nI (j + 1)) S1) := by
  refine Ans.of (by rw [ml_316]; exact Nat.le_of_ble_eq_true rfl) ?_
  refine Bod.go dc_316_0 rfl ?_
  refine Bod.ic 0 (by decide) dc_316_1 ?_
  refine Bod.put dc_316_2 fr_316_397 (mk_61 _) (Nat.le_of_ble_eq_true rfl) pf_14_31 (st_6131 _ _) (mu_I _ _ _) ?_
  refine Bod.go dc_316_5 rfl ?_
  refine Bod.get dc_316_6 fr_316_129 (mk_61 _) rfl ?_
  refine Bod.go dc_316_9 rfl ?_
  refine Bod.get dc_316_10 fr_316_190 (mk_61 _) rfl ?_
  refine Bod.eqI (nI j) (by first | (simp (disch := omega) only [rI, rIe, rA, rIA, rLA, rJA, rVI, rQI, rVA, rQA, upd_at,  rAI, rLI, rJI, nI_add, pk_sub, kc_0, kc_1, kc_2, kc_3, kc_4, kc_5, reduceIte, Nat.reduceEqDiff, Nat.add_zero, rI_hold, rI_hold, rL_hold, ha, hkd, hvl, hx1, hx2, hk, hk2, ha1]; done) | (simp (disch := omega) only [rI, rIe, rA, rIA, rLA, rJA, rVI, rQI, rVA, rQA, upd_at,  rAI, rLI, rJI, nI_add, pk_sub, kc_0, kc_1, kc_2, kc_3, kc_4, kc_5, reduceIte, Nat.reduceEqDiff, Nat.add_zero, rI_hold, rI_hold, rL_hold, ha, hkd, hvl, hx1, hx2, hk, hk2, ha1]; exact congrArg nI (by omega))) ?_
  refine Bod.ialdN j rfl (by omega) (by omega) dc_316_13 (mk_67 _) ?_
  refine Bod.eqI (nI 1) (by first | (simp (disch := omega) only [rI, rIe, rA, rIA, rLA, rJA, rVI, rQI, rVA, rQA, upd_at,  rAI, rLI, rJI, nI_add, pk_sub, kc_0, kc_1, kc_2, kc_3, kc_4, kc_5, reduceIte, Nat.reduceEqDiff, Nat.add_zero, rI_hold, rI_hold, rL_hold, ha, hkd, hvl, hx1, hx2, hk, hk2, ha1]; done) | (simp (disch := omega) only [rI, rIe, rA, rIA, rLA, rJA, rVI, rQI, rVA, rQA, upd_at,  rAI, rLI, rJI, nI_add, pk_sub, kc_0, kc_1, kc_2, kc_3, kc_4, kc_5, reduceIte, Nat.reduceEqDiff, Nat.add_zero, rI_hold, rI_hold, rL_hold, ha, hkd, hvl, hx1, hx2, hk, hk2, ha1]; exact congrArg nI (by omega))) ?_
  refine Bod.sw (t := 48) dc_316_14 rfl rfl (by decide +kernel) ?_
  refine Bod.go dc_316_48 rfl ?_
  refine Bod.ic 1 (by decide) dc_316_49 ?_
  refine Bod.put dc_316_50 fr_316_397 (mk_61 _) (Nat.le_of_ble_eq_true rfl) pf_14_31 (st_6131 _ _) (mu_I _ _ _) ?_
  refine Bod.go dc_316_53 rfl ?_
  refine Bod.go dc_316_54 rfl ?_
  refine Bod.get dc_316_55 fr_316_206 (mk_61 _) rfl ?_
  refine Bod.eqV (.ref m) (by first | exact hcode | (simp only [rIV, rJV, rAV, rLV, rQV]; exact hcode)) ?_
  refine Bod.get dc_316_58 fr_316_219 (mk_code hm (by first | exact hs | (simp only [rIS, rJS, rAS, rLS, rVS, rQS, rS_hold]; exact hs))) rfl ?_
  refine Bod.eqI (nI k) (by first | (simp (disch := omega) only [rI, rIe, rA, rIA, rLA, rJA, rVI, rQI, rVA, rQA, upd_at,  rAI, rLI, rJI, nI_add, pk_sub, kc_0, kc_1, kc_2, kc_3, kc_4, kc_5, reduceIte, Nat.reduceEqDiff, Nat.add_zero, rI_hold, rI_hold, rL_hold, ha, hkd, hvl, hx1, hx2, hk, hk2, ha1]; done) | (simp (disch := omega) only [rI, rIe, rA, rIA, rLA, rJA, rVI, rQI, rVA, rQA, upd_at,  rAI, rLI, rJI, nI_add, pk_sub, kc_0, kc_1, kc_2, kc_3, kc_4, kc_5, reduceIte, Nat.reduceEqDiff, Nat.add_zero, rI_hold, rI_hold, rL_hold, ha, hkd, hvl, hx1, hx2, hk, hk2, ha1]; exact congrArg nI (by omega))) ?_
  refine Bod.put dc_316_61 fr_316_425 (mk_61 _) (Nat.le_of_ble_eq_true rfl) pf_14_32 (st_6132 _ _) (mu_I _ _ _) ?_
  refine Bod.go dc_316_64 rfl ?_
  refine Bod.go dc_316_65 rfl ?_
  refine Bod.get dc_316_66 fr_316_129 (mk_61 _) rfl ?_
  refine Bod.go dc_316_69 rfl ?_
  refine Bod.get dc_316_70 fr_316_190 (mk_61 _) rfl ?_
  refine Bod.eqI (nI j) (by first | (simp (disch := omega) only [rI, rIe, rA, rIA, rLA, rJA, rVI, rQI, rVA, rQA, upd_at,  rAI, rLI, rJI, nI_add, pk_sub, kc_0, kc_1, kc_2, kc_3, kc_4, kc_5, reduceIte, Nat.reduceEqDiff, Nat.add_zero, rI_hold, rI_hold, rL_hold, ha, hkd, hvl, hx1, hx2, hk, hk2, ha1]; done) | (simp (disch := omega) only [rI, rIe, rA, rIA, rLA, rJA, rVI, rQI, rVA, rQA, upd_at,  rAI, rLI, rJI, nI_add, pk_sub, kc_0, kc_1, kc_2, kc_3, kc_4, kc_5, reduceIte, Nat.reduceEqDiff, Nat.add_zero, rI_hold, rI_hold, rL_hold, ha, hkd, hvl, hx1, hx2, hk, hk2, ha1]; exact congrArg nI (by omega))) ?_
  refine Bod.ic 1 (by decide) dc_316_73 ?_
  refine Bod.addN (j + 1) (by omega) dc_316_74 ?_
  refine Bod.ialdN (j + 1) rfl (by omega) (by omega) dc_316_75 (mk_67 _) ?_
  refine Bod.eqI (nI k2) (by first | (simp (disch := omega) only [rI, rIe, rA, rIA, rLA, rJA, rVI, rQI, rVA, rQA, upd_at,  rAI, rLI, rJI, nI_add, pk_sub, kc_0, kc_1, kc_2, kc_3, kc_4, kc_5, reduceIte, Nat.reduceEqDiff, Nat.add_zero, rI_hold, rI_hold, rL_hold, ha, hkd, hvl, hx1, hx2, hk, hk2, ha1]; done) | (simp (disch := omega) only [rI, rIe, rA, rIA, rLA, rJA, rVI, rQI, rVA, rQA, upd_at,  rAI, rLI, rJI, nI_add, pk_sub, kc_0, kc_1, kc_2, kc_3, kc_4, kc_5, reduceIte, Nat.reduceEqDiff, Nat.add_zero, rI_hold, rI_hold, rL_hold, ha, hkd, hvl, hx1, hx2, hk, hk2, ha1]; exact congrArg nI (by omega))) ?_
  refine Bod.ic 5 (by decide) dc_316_76 ?_
  refine Bod.icT dc_316_77 rfl (k2_ne_T (k_ne k2 5 rfl rfl (by omega) (by omega) (by omega))) ?_
  refine Bod.ic 4 (by decide) dc_316_100 ?_
  refine Bod.go dc_316_101 rfl ?_
  refine Bod.get dc_316_102 fr_316_135 (mk_61 _) rfl ?_
  refine Bod.go dc_316_105 rfl ?_
  refine Bod.get dc_316_106 fr_316_190 (mk_61 _) rfl ?_
  refine Bod.eqI (nI j) (by first | (simp (disch := omega) only [rI, rIe, rA, rIA, rLA, rJA, rVI, rQI, rVA, rQA, upd_at,  rAI, rLI, rJI, nI_add, pk_sub, kc_0, kc_1, kc_2, kc_3, kc_4, kc_5, reduceIte, Nat.reduceEqDiff, Nat.add_zero, rI_hold, rI_hold, rL_hold, ha, hkd, hvl, hx1, hx2, hk, hk2, ha1]; done) | (simp (disch := omega) only [rI, rIe, rA, rIA, rLA, rJA, rVI, rQI, rVA, rQA, upd_at,  rAI, rLI, rJI, nI_add, pk_sub, kc_0, kc_1, kc_2, kc_3, kc_4, kc_5, reduceIte, Nat.reduceEqDiff, Nat.add_zero, rI_hold, rI_hold, rL_hold, ha, hkd, hvl, hx1, hx2, hk, hk2, ha1]; exact congrArg nI (by omega))) ?_
  refine Bod.ialdN j rfl (by omega) (by omega) dc_316_109 (mk_68 _) ?_
  refine Bod.eqI (nI r) (by first | (simp (disch := omega) only [rI, rIe, rA, rIA, rLA, rJA, rVI, rQI, rVA, rQA, upd_at,  rAI, rLI, rJI, nI_add, pk_sub, kc_0, kc_1, kc_2, kc_3, kc_4, kc_5, reduceIte, Nat.reduceEqDiff, Nat.add_zero, rI_hold, rI_hold, rL_hold, ha, hkd, hvl, hx1, hx2, hk, hk2, ha1]; done) | (simp (disch := omega) only [rI, rIe, rA, rIA, rLA, rJA, rVI, rQI, rVA, rQA, upd_at,  rAI, rLI, rJI, nI_add, pk_sub, kc_0, kc_1, kc_2, kc_3, kc_4, kc_5, reduceIte, Nat.reduceEqDiff, Nat.add_zero, rI_hold, rI_hold, rL_hold, ha, hkd, hvl, hx1, hx2, hk, hk2, ha1]; exact congrArg nI (by omega))) ?_
  refine Bod.virt (r := []) dc_316_110 kr_316_341 ⟨Or.inl rfl, ow_317, cl_14⟩ (by rw [np_317]; rfl) (by rw [np_317]; rfl) (ob_of (mk_61 _)) (Nat.le_of_ble_eq_true rfl) (hN  ) ?_
  show Bod _ _ _ _ [] _ _ _
  refine Bod.go dc_316_113 rfl ?_
  refine Bod.go dc_316_114 rfl ?_
  refine Bod.get dc_316_115 fr_316_190 (mk_61 _) rfl ?_
  refine Bod.eqI (nI j) (by first | (simp (disch := omega) only [rI, rIe, rA, rIA, rLA, rJA, rVI, rQI, rVA, rQA, upd_at,  rAI, rLI, rJI, nI_add, pk_sub, kc_0, kc_1, kc_2, kc_3, kc_4, kc_5, reduceIte, Nat.reduceEqDiff, Nat.add_zero, rI_hold, rI_hold, rL_hold, ha, hkd, hvl, hx1, hx2, hk, hk2, ha1]; done) | (simp (disch := omega) only [rI, rIe, rA, rIA, rLA, rJA, rVI, rQI, rVA, rQA, upd_at,  rAI, rLI, rJI, nI_add, pk_sub, kc_0, kc_1, kc_2, kc_3, kc_4, kc_5, reduceIte, Nat.reduceEqDiff, Nat.add_zero, rI_hold, rI_hold, rL_hold, ha, hkd, hvl, hx1, hx2, hk, hk2, ha1]; exact congrArg nI (by omega))) ?_
  refine Bod.ic 1 (by decide) dc_316_118 ?_
  refine Bod.addN (j + 1) (by omega) dc_316_119 ?_
  refine Bod.put dc_316_120 fr_316_190 (mk_61 _) (Nat.le_of_ble_eq_true rfl) pf_14_15 (st_6115 _ _) (mu_I _ _ _) ?_
  refine Bod.ic 1 (by decide) dc_316_123 ?_
  exact Bod.retZ dc_316_124 rt_316 (Or.inr rfl)
theorem ra_name2 {d : Nat} {S : cS} {dp : Nat} {j : Nat} {r : Nat} {m : Nat} {u : Nat} {k : Nat} {S1 : cS} {k2 : Nat} {v2 : Nat} (hdp : dp ≤ 12) (ha : sI S 6115 = nI j) (hj : j + 1 < 6002) (hkd : sA S 67 j = nI 1) (hvl : sA S 68 j = nI r) (hrM : r < 2 ^ 20) (hx1 : ¬ 100 * m = 6130) (hx2 : ¬ 100 * m = 6131) (hm : 108 ≤ m) (hs : (sS S)[m - 108]? = some (12, u)) (hcode : sV S 6114 = .ref m) (hk : sI S (100 * m + 1) = nI k) (hkM : k < 2 ^ 20) (hk2 : sA S 67 (j + 1) = nI k2) (hkk : k2 < 100) (hn5 : k2 = 5) (hv2 : sA S 68 (j + 1) = nI v2) (hvM : v2 < 100000) (hv40 : v2 ≠ 40) (hN : Ans (d + 8) 317 [.ref 61, .int (nI 4), .int (nI r)] (wI 6132 (nI k) (wI 6131 (nI 1) (wI 6131 (nI 0) S))) none S1) (ha1 : sI S1 6115 = nI j) : Ans (d + 9) 316 [.ref 61, .int (nI dp)] S (some (.int 1)) (wI 6115 (nI (j + 1)) S1) := by
  refine Ans.of (by rw [ml_316]; exact Nat.le_of_ble_eq_true rfl) ?_
  refine Bod.go dc_316_0 rfl ?_
  refine Bod.ic 0 (by decide) dc_316_1 ?_
  refine Bod.put dc_316_2 fr_316_397 (mk_61 _) (Nat.le_of_ble_eq_true rfl) pf_14_31 (st_6131 _ _) (mu_I _ _ _) ?_
  refine Bod.go dc_316_5 rfl ?_
  refine Bod.get dc_316_6 fr_316_129 (mk_61 _) rfl ?_
  refine Bod.go dc_316_9 rfl ?_
  refine Bod.get dc_316_10 fr_316_190 (mk_61 _) rfl ?_
  refine Bod.eqI (nI j) (by first | (simp (disch := omega) only [rI, rIe, rA, rIA, rLA, rJA, rVI, rQI, rVA, rQA, upd_at,  rAI, rLI, rJI, nI_add, pk_sub, kc_0, kc_1, kc_2, kc_3, kc_4, kc_5, reduceIte, Nat.reduceEqDiff, Nat.add_zero, rI_hold, rI_hold, rL_hold, ha, hkd, hvl, hx1, hx2, hk, hk2, hv2, ha1]; done) | (simp (disch := omega) only [rI, rIe, rA, rIA, rLA, rJA, rVI, rQI, rVA, rQA, upd_at,  rAI, rLI, rJI, nI_add, pk_sub, kc_0, kc_1, kc_2, kc_3, kc_4, kc_5, reduceIte, Nat.reduceEqDiff, Nat.add_zero, rI_hold, rI_hold, rL_hold, ha, hkd, hvl, hx1, hx2, hk, hk2, hv2, ha1]; exact congrArg nI (by omega))) ?_
  refine Bod.ialdN j rfl (by omega) (by omega) dc_316_13 (mk_67 _) ?_
  refine Bod.eqI (nI 1) (by first | (simp (disch := omega) only [rI, rIe, rA, rIA, rLA, rJA, rVI, rQI, rVA, rQA, upd_at,  rAI, rLI, rJI, nI_add, pk_sub, kc_0, kc_1, kc_2, kc_3, kc_4, kc_5, reduceIte, Nat.reduceEqDiff, Nat.add_zero, rI_hold, rI_hold, rL_hold, ha, hkd, hvl, hx1, hx2, hk, hk2, hv2, ha1]; done) | (simp (disch := omega) only [rI, rIe, rA, rIA, rLA, rJA, rVI, rQI, rVA, rQA, upd_at,  rAI, rLI, rJI, nI_add, pk_sub, kc_0, kc_1, kc_2, kc_3, kc_4, kc_5, reduceIte, Nat.reduceEqDiff, Nat.add_zero, rI_hold, rI_hold, rL_hold, ha, hkd, hvl, hx1, hx2, hk, hk2, hv2, ha1]; exact congrArg nI (by omega))) ?_
  refine Bod.sw (t := 48) dc_316_14 rfl rfl (by decide +kernel) ?_
  refine Bod.go dc_316_48 rfl ?_
  refine Bod.ic 1 (by decide) dc_316_49 ?_
  refine Bod.put dc_316_50 fr_316_397 (mk_61 _) (Nat.le_of_ble_eq_true rfl) pf_14_31 (st_6131 _ _) (mu_I _ _ _) ?_
  refine Bod.go dc_316_53 rfl ?_
  refine Bod.go dc_316_54 rfl ?_
  refine Bod.get dc_316_55 fr_316_206 (mk_61 _) rfl ?_
  refine Bod.eqV (.ref m) (by first | exact hcode | (simp only [rIV, rJV, rAV, rLV, rQV]; exact hcode)) ?_
  refine Bod.get dc_316_58 fr_316_219 (mk_code hm (by first | exact hs | (simp only [rIS, rJS, rAS, rLS, rVS, rQS, rS_hold]; exact hs))) rfl ?_
  refine Bod.eqI (nI k) (by first | (simp (disch := omega) only [rI, rIe, rA, rIA, rLA, rJA, rVI, rQI, rVA, rQA, upd_at,  rAI, rLI, rJI, nI_add, pk_sub, kc_0, kc_1, kc_2, kc_3, kc_4, kc_5, reduceIte, Nat.reduceEqDiff, Nat.add_zero, rI_hold, rI_hold, rL_hold, ha, hkd, hvl, hx1, hx2, hk, hk2, hv2, ha1]; done) | (simp (disch := omega) only [rI, rIe, rA, rIA, rLA, rJA, rVI, rQI, rVA, rQA, upd_at,  rAI, rLI, rJI, nI_add, pk_sub, kc_0, kc_1, kc_2, kc_3, kc_4, kc_5, reduceIte, Nat.reduceEqDiff, Nat.add_zero, rI_hold, rI_hold, rL_hold, ha, hkd, hvl, hx1, hx2, hk, hk2, hv2, ha1]; exact congrArg nI (by omega))) ?_
  refine Bod.put dc_316_61 fr_316_425 (mk_61 _) (Nat.le_of_ble_eq_true rfl) pf_14_32 (st_6132 _ _) (mu_I _ _ _) ?_
  refine Bod.go dc_316_64 rfl ?_
  refine Bod.go dc_316_65 rfl ?_
  refine Bod.get dc_316_66 fr_316_129 (mk_61 _) rfl ?_
  refine Bod.go dc_316_69 rfl ?_
  refine Bod.get dc_316_70 fr_316_190 (mk_61 _) rfl ?_
  refine Bod.eqI (nI j) (by first | (simp (disch := omega) only [rI, rIe, rA, rIA, rLA, rJA, rVI, rQI, rVA, rQA, upd_at,  rAI, rLI, rJI, nI_add, pk_sub, kc_0, kc_1, kc_2, kc_3, kc_4, kc_5, reduceIte, Nat.reduceEqDiff, Nat.add_zero, rI_hold, rI_hold, rL_hold, ha, hkd, hvl, hx1, hx2, hk, hk2, hv2, ha1]; done) | (simp (disch := omega) only [rI, rIe, rA, rIA, rLA, rJA, rVI, rQI, rVA, rQA, upd_at,  rAI, rLI, rJI, nI_add, pk_sub, kc_0, kc_1, kc_2, kc_3, kc_4, kc_5, reduceIte, Nat.reduceEqDiff, Nat.add_zero, rI_hold, rI_hold, rL_hold, ha, hkd, hvl, hx1, hx2, hk, hk2, hv2, ha1]; exact congrArg nI (by omega))) ?_
  refine Bod.ic 1 (by decide) dc_316_73 ?_
  refine Bod.addN (j + 1) (by omega) dc_316_74 ?_
  refine Bod.ialdN (j + 1) rfl (by omega) (by omega) dc_316_75 (mk_67 _) ?_
  refine Bod.eqI (nI k2) (by first | (simp (disch := omega) only [rI, rIe, rA, rIA, rLA, rJA, rVI, rQI, rVA, rQA, upd_at,  rAI, rLI, rJI, nI_add, pk_sub, kc_0, kc_1, kc_2, kc_3, kc_4, kc_5, reduceIte, Nat.reduceEqDiff, Nat.add_zero, rI_hold, rI_hold, rL_hold, ha, hkd, hvl, hx1, hx2, hk, hk2, hv2, ha1]; done) | (simp (disch := omega) only [rI, rIe, rA, rIA, rLA, rJA, rVI, rQI, rVA, rQA, upd_at,  rAI, rLI, rJI, nI_add, pk_sub, kc_0, kc_1, kc_2, kc_3, kc_4, kc_5, reduceIte, Nat.reduceEqDiff, Nat.add_zero, rI_hold, rI_hold, rL_hold, ha, hkd, hvl, hx1, hx2, hk, hk2, hv2, ha1]; exact congrArg nI (by omega))) ?_
  refine Bod.ic 5 (by decide) dc_316_76 ?_
  refine Bod.icF dc_316_77 rfl (k2_ne_F (k_eq k2 5 rfl rfl (by omega))) ?_
  refine Bod.go dc_316_80 rfl ?_
  refine Bod.get dc_316_81 fr_316_135 (mk_61 _) rfl ?_
  refine Bod.go dc_316_84 rfl ?_
  refine Bod.get dc_316_85 fr_316_190 (mk_61 _) rfl ?_
  refine Bod.eqI (nI j) (by first | (simp (disch := omega) only [rI, rIe, rA, rIA, rLA, rJA, rVI, rQI, rVA, rQA, upd_at,  rAI, rLI, rJI, nI_add, pk_sub, kc_0, kc_1, kc_2, kc_3, kc_4, kc_5, reduceIte, Nat.reduceEqDiff, Nat.add_zero, rI_hold, rI_hold, rL_hold, ha, hkd, hvl, hx1, hx2, hk, hk2, hv2, ha1]; done) | (simp (disch := omega) only [rI, rIe, rA, rIA, rLA, rJA, rVI, rQI, rVA, rQA, upd_at,  rAI, rLI, rJI, nI_add, pk_sub, kc_0, kc_1, kc_2, kc_3, kc_4, kc_5, reduceIte, Nat.reduceEqDiff, Nat.add_zero, rI_hold, rI_hold, rL_hold, ha, hkd, hvl, hx1, hx2, hk, hk2, hv2, ha1]; exact congrArg nI (by omega))) ?_
  refine Bod.ic 1 (by decide) dc_316_88 ?_
  refine Bod.addN (j + 1) (by omega) dc_316_89 ?_
  refine Bod.ialdN (j + 1) rfl (by omega) (by omega) dc_316_90 (mk_68 _) ?_
  refine Bod.eqI (nI v2) (by first | (simp (disch := omega) only [rI, rIe, rA, rIA, rLA, rJA, rVI, rQI, rVA, rQA, upd_at,  rAI, rLI, rJI, nI_add, pk_sub, kc_0, kc_1, kc_2, kc_3, kc_4, kc_5, reduceIte, Nat.reduceEqDiff, Nat.add_zero, rI_hold, rI_hold, rL_hold, ha, hkd, hvl, hx1, hx2, hk, hk2, hv2, ha1]; done) | (simp (disch := omega) only [rI, rIe, rA, rIA, rLA, rJA, rVI, rQI, rVA, rQA, upd_at,  rAI, rLI, rJI, nI_add, pk_sub, kc_0, kc_1, kc_2, kc_3, kc_4, kc_5, reduceIte, Nat.reduceEqDiff, Nat.add_zero, rI_hold, rI_hold, rL_hold, ha, hkd, hvl, hx1, hx2, hk, hk2, hv2, ha1]; exact congrArg nI (by omega))) ?_
  refine Bod.bip 40 (by decide) dc_316_91 ?_
  refine Bod.icT dc_316_93 rfl (k2_ne_T (k_ne v2 40 rfl rfl (by omega) (by omega) (by omega))) ?_
  refine Bod.ic 4 (by decide) dc_316_100 ?_
  refine Bod.go dc_316_101 rfl ?_
  refine Bod.get dc_316_102 fr_316_135 (mk_61 _) rfl ?_
  refine Bod.go dc_316_105 rfl ?_
  refine Bod.get dc_316_106 fr_316_190 (mk_61 _) rfl ?_
  refine Bod.eqI (nI j) (by first | (simp (disch := omega) only [rI, rIe, rA, rIA, rLA, rJA, rVI, rQI, rVA, rQA, upd_at,  rAI, rLI, rJI, nI_add, pk_sub, kc_0, kc_1, kc_2, kc_3, kc_4, kc_5, reduceIte, Nat.reduceEqDiff, Nat.add_zero, rI_hold, rI_hold, rL_hold, ha, hkd, hvl, hx1, hx2, hk, hk2, hv2, ha1]; done) | (simp (disch := omega) only [rI, rIe, rA, rIA, rLA, rJA, rVI, rQI, rVA, rQA, upd_at,  rAI, rLI, rJI, nI_add, pk_sub, kc_0, kc_1, kc_2, kc_3, kc_4, kc_5, reduceIte, Nat.reduceEqDiff, Nat.add_zero, rI_hold, rI_hold, rL_hold, ha, hkd, hvl, hx1, hx2, hk, hk2, hv2, ha1]; exact congrArg nI (by omega))) ?_
  refine Bod.ialdN j rfl (by omega) (by omega) dc_316_109 (mk_68 _) ?_
  refine Bod.eqI (nI r) (by first | (simp (disch := omega) only [rI, rIe, rA, rIA, rLA, rJA, rVI, rQI, rVA, rQA, upd_at,  rAI, rLI, rJI, nI_add, pk_sub, kc_0, kc_1, kc_2, kc_3, kc_4, kc_5, reduceIte, Nat.reduceEqDiff, Nat.add_zero, rI_hold, rI_hold, rL_hold, ha, hkd, hvl, hx1, hx2, hk, hk2, hv2, ha1]; done) | (simp (disch := omega) only [rI, rIe, rA, rIA, rLA, rJA, rVI, rQI, rVA, rQA, upd_at,  rAI, rLI, rJI, nI_add, pk_sub, kc_0, kc_1, kc_2, kc_3, kc_4, kc_5, reduceIte, Nat.reduceEqDiff, Nat.add_zero, rI_hold, rI_hold, rL_hold, ha, hkd, hvl, hx1, hx2, hk, hk2, hv2, ha1]; exact congrArg nI (by omega))) ?_
  refine Bod.virt (r := []) dc_316_110 kr_316_341 ⟨Or.inl rfl, ow_317, cl_14⟩ (by rw [np_317]; rfl) (by rw [np_317]; rfl) (ob_of (mk_61 _)) (Nat.le_of_ble_eq_true rfl) (hN  ) ?_
  show Bod _ _ _ _ [] _ _ _
  refine Bod.go dc_316_113 rfl ?_
  refine Bod.go dc_316_114 rfl ?_
  refine Bod.get dc_316_115 fr_316_190 (mk_61 _) rfl ?_
  refine Bod.eqI (nI j) (by first | (simp (disch := omega) only [rI, rIe, rA, rIA, rLA, rJA, rVI, rQI, rVA, rQA, upd_at,  rAI, rLI, rJI, nI_add, pk_sub, kc_0, kc_1, kc_2, kc_3, kc_4, kc_5, reduceIte, Nat.reduceEqDiff, Nat.add_zero, rI_hold, rI_hold, rL_hold, ha, hkd, hvl, hx1, hx2, hk, hk2, hv2, ha1]; done) | (simp (disch := omega) only [rI, rIe, rA, rIA, rLA, rJA, rVI, rQI, rVA, rQA, upd_at,  rAI, rLI, rJI, nI_add, pk_sub, kc_0, kc_1, kc_2, kc_3, kc_4, kc_5, reduceIte, Nat.reduceEqDiff, Nat.add_zero, rI_hold, rI_hold, rL_hold, ha, hkd, hvl, hx1, hx2, hk, hk2, hv2, ha1]; exact congrArg nI (by omega))) ?_
  refine Bod.ic 1 (by decide) dc_316_118 ?_
  refine Bod.addN (j + 1) (by omega) dc_316_119 ?_
  refine Bod.put dc_316_120 fr_316_190 (mk_61 _) (Nat.le_of_ble_eq_true rfl) pf_14_15 (st_6115 _ _) (mu_I _ _ _) ?_
  refine Bod.ic 1 (by decide) dc_316_123 ?_
  exact Bod.retZ dc_316_124 rt_316 (Or.inr rfl)
theorem ra_name3 {d : Nat} {S : cS} {dp : Nat} {j : Nat} {r : Nat} {m : Nat} {u : Nat} {k : Nat} {S1 : cS} {k2 : Nat} {v2 : Nat} (hdp : dp ≤ 12) (ha : sI S 6115 = nI j) (hj : j + 1 < 6002) (hkd : sA S 67 j = nI 1) (hvl : sA S 68 j = nI r) (hrM : r < 2 ^ 20) (hx1 : ¬ 100 * m = 6130) (hx2 : ¬ 100 * m = 6131) (hm : 108 ≤ m) (hs : (sS S)[m - 108]? = some (12, u)) (hcode : sV S 6114 = .ref m) (hk : sI S (100 * m + 1) = nI k) (hkM : k < 2 ^ 20) (hk2 : sA S 67 (j + 1) = nI k2) (hkk : k2 < 100) (hn5 : k2 = 5) (hv2 : sA S 68 (j + 1) = nI v2) (hvM : v2 < 100000) (hv40 : v2 = 40) (hN : Ans (d + 8) 317 [.ref 61, .int (nI 5), .int (nI r)] (wI 6132 (nI k) (wI 6131 (nI 1) (wI 6131 (nI 0) S))) none S1) (ha1 : sI S1 6115 = nI j) : Ans (d + 9) 316 [.ref 61, .int (nI dp)] S (some (.int 1)) (wI 6115 (nI (j + 1)) S1) := by
  refine Ans.of (by rw [ml_316]; exact Nat.le_of_ble_eq_true rfl) ?_
  refine Bod.go dc_316_0 rfl ?_
  refine Bod.ic 0 (by decide) dc_316_1 ?_
  refine Bod.put dc_316_2 fr_316_397 (mk_61 _) (Nat.le_of_ble_eq_true rfl) pf_14_31 (st_6131 _ _) (mu_I _ _ _) ?_
  refine Bod.go dc_316_5 rfl ?_
  refine Bod.get dc_316_6 fr_316_129 (mk_61 _) rfl ?_
  refine Bod.go dc_316_9 rfl ?_
  refine Bod.get dc_316_10 fr_316_190 (mk_61 _) rfl ?_
  refine Bod.eqI (nI j) (by first | (simp (disch := omega) only [rI, rIe, rA, rIA, rLA, rJA, rVI, rQI, rVA, rQA, upd_at,  rAI, rLI, rJI, nI_add, pk_sub, kc_0, kc_1, kc_2, kc_3, kc_4, kc_5, reduceIte, Nat.reduceEqDiff, Nat.add_zero, rI_hold, rI_hold, rL_hold, ha, hkd, hvl, hx1, hx2, hk, hk2, hv2, ha1]; done) | (simp (disch := omega) only [rI, rIe, rA, rIA, rLA, rJA, rVI, rQI, rVA, rQA, upd_at,  rAI, rLI, rJI, nI_add, pk_sub, kc_0, kc_1, kc_2, kc_3, kc_4, kc_5, reduceIte, Nat.reduceEqDiff, Nat.add_zero, rI_hold, rI_hold, rL_hold, ha, hkd, hvl, hx1, hx2, hk, hk2, hv2, ha1]; exact congrArg nI (by omega))) ?_
  refine Bod.ialdN j rfl (by omega) (by omega) dc_316_13 (mk_67 _) ?_
  refine Bod.eqI (nI 1) (by first | (simp (disch := omega) only [rI, rIe, rA, rIA, rLA, rJA, rVI, rQI, rVA, rQA, upd_at,  rAI, rLI, rJI, nI_add, pk_sub, kc_0, kc_1, kc_2, kc_3, kc_4, kc_5, reduceIte, Nat.reduceEqDiff, Nat.add_zero, rI_hold, rI_hold, rL_hold, ha, hkd, hvl, hx1, hx2, hk, hk2, hv2, ha1]; done) | (simp (disch := omega) only [rI, rIe, rA, rIA, rLA, rJA, rVI, rQI, rVA, rQA, upd_at,  rAI, rLI, rJI, nI_add, pk_sub, kc_0, kc_1, kc_2, kc_3, kc_4, kc_5, reduceIte, Nat.reduceEqDiff, Nat.add_zero, rI_hold, rI_hold, rL_hold, ha, hkd, hvl, hx1, hx2, hk, hk2, hv2, ha1]; exact congrArg nI (by omega))) ?_
  refine Bod.sw (t := 48) dc_316_14 rfl rfl (by decide +kernel) ?_
  refine Bod.go dc_316_48 rfl ?_
  refine Bod.ic 1 (by decide) dc_316_49 ?_
  refine Bod.put dc_316_50 fr_316_397 (mk_61 _) (Nat.le_of_ble_eq_true rfl) pf_14_31 (st_6131 _ _) (mu_I _ _ _) ?_
  refine Bod.go dc_316_53 rfl ?_
  refine Bod.go dc_316_54 rfl ?_
  refine Bod.get dc_316_55 fr_316_206 (mk_61 _) rfl ?_
  refine Bod.eqV (.ref m) (by first | exact hcode | (simp only [rIV, rJV, rAV, rLV, rQV]; exact hcode)) ?_
  refine Bod.get dc_316_58 fr_316_219 (mk_code hm (by first | exact hs | (simp only [rIS, rJS, rAS, rLS, rVS, rQS, rS_hold]; exact hs))) rfl ?_
  refine Bod.eqI (nI k) (by first | (simp (disch := omega) only [rI, rIe, rA, rIA, rLA, rJA, rVI, rQI, rVA, rQA, upd_at,  rAI, rLI, rJI, nI_add, pk_sub, kc_0, kc_1, kc_2, kc_3, kc_4, kc_5, reduceIte, Nat.reduceEqDiff, Nat.add_zero, rI_hold, rI_hold, rL_hold, ha, hkd, hvl, hx1, hx2, hk, hk2, hv2, ha1]; done) | (simp (disch := omega) only [rI, rIe, rA, rIA, rLA, rJA, rVI, rQI, rVA, rQA, upd_at,  rAI, rLI, rJI, nI_add, pk_sub, kc_0, kc_1, kc_2, kc_3, kc_4, kc_5, reduceIte, Nat.reduceEqDiff, Nat.add_zero, rI_hold, rI_hold, rL_hold, ha, hkd, hvl, hx1, hx2, hk, hk2, hv2, ha1]; exact congrArg nI (by omega))) ?_
  refine Bod.put dc_316_61 fr_316_425 (mk_61 _) (Nat.le_of_ble_eq_true rfl) pf_14_32 (st_6132 _ _) (mu_I _ _ _) ?_
  refine Bod.go dc_316_64 rfl ?_
  refine Bod.go dc_316_65 rfl ?_
  refine Bod.get dc_316_66 fr_316_129 (mk_61 _) rfl ?_
  refine Bod.go dc_316_69 rfl ?_
  refine Bod.get dc_316_70 fr_316_190 (mk_61 _) rfl ?_
  refine Bod.eqI (nI j) (by first | (simp (disch := omega) only [rI, rIe, rA, rIA, rLA, rJA, rVI, rQI, rVA, rQA, upd_at,  rAI, rLI, rJI, nI_add, pk_sub, kc_0, kc_1, kc_2, kc_3, kc_4, kc_5, reduceIte, Nat.reduceEqDiff, Nat.add_zero, rI_hold, rI_hold, rL_hold, ha, hkd, hvl, hx1, hx2, hk, hk2, hv2, ha1]; done) | (simp (disch := omega) only [rI, rIe, rA, rIA, rLA, rJA, rVI, rQI, rVA, rQA, upd_at,  rAI, rLI, rJI, nI_add, pk_sub, kc_0, kc_1, kc_2, kc_3, kc_4, kc_5, reduceIte, Nat.reduceEqDiff, Nat.add_zero, rI_hold, rI_hold, rL_hold, ha, hkd, hvl, hx1, hx2, hk, hk2, hv2, ha1]; exact congrArg nI (by omega))) ?_
  refine Bod.ic 1 (by decide) dc_316_73 ?_
  refine Bod.addN (j + 1) (by omega) dc_316_74 ?_
  refine Bod.ialdN (j + 1) rfl (by omega) (by omega) dc_316_75 (mk_67 _) ?_
  refine Bod.eqI (nI k2) (by first | (simp (disch := omega) only [rI, rIe, rA, rIA, rLA, rJA, rVI, rQI, rVA, rQA, upd_at,  rAI, rLI, rJI, nI_add, pk_sub, kc_0, kc_1, kc_2, kc_3, kc_4, kc_5, reduceIte, Nat.reduceEqDiff, Nat.add_zero, rI_hold, rI_hold, rL_hold, ha, hkd, hvl, hx1, hx2, hk, hk2, hv2, ha1]; done) | (simp (disch := omega) only [rI, rIe, rA, rIA, rLA, rJA, rVI, rQI, rVA, rQA, upd_at,  rAI, rLI, rJI, nI_add, pk_sub, kc_0, kc_1, kc_2, kc_3, kc_4, kc_5, reduceIte, Nat.reduceEqDiff, Nat.add_zero, rI_hold, rI_hold, rL_hold, ha, hkd, hvl, hx1, hx2, hk, hk2, hv2, ha1]; exact congrArg nI (by omega))) ?_
  refine Bod.ic 5 (by decide) dc_316_76 ?_
  refine Bod.icF dc_316_77 rfl (k2_ne_F (k_eq k2 5 rfl rfl (by omega))) ?_
  refine Bod.go dc_316_80 rfl ?_
  refine Bod.get dc_316_81 fr_316_135 (mk_61 _) rfl ?_
  refine Bod.go dc_316_84 rfl ?_
  refine Bod.get dc_316_85 fr_316_190 (mk_61 _) rfl ?_
  refine Bod.eqI (nI j) (by first | (simp (disch := omega) only [rI, rIe, rA, rIA, rLA, rJA, rVI, rQI, rVA, rQA, upd_at,  rAI, rLI, rJI, nI_add, pk_sub, kc_0, kc_1, kc_2, kc_3, kc_4, kc_5, reduceIte, Nat.reduceEqDiff, Nat.add_zero, rI_hold, rI_hold, rL_hold, ha, hkd, hvl, hx1, hx2, hk, hk2, hv2, ha1]; done) | (simp (disch := omega) only [rI, rIe, rA, rIA, rLA, rJA, rVI, rQI, rVA, rQA, upd_at,  rAI, rLI, rJI, nI_add, pk_sub, kc_0, kc_1, kc_2, kc_3, kc_4, kc_5, reduceIte, Nat.reduceEqDiff, Nat.add_zero, rI_hold, rI_hold, rL_hold, ha, hkd, hvl, hx1, hx2, hk, hk2, hv2, ha1]; exact congrArg nI (by omega))) ?_
  refine Bod.ic 1 (by decide) dc_316_88 ?_
  refine Bod.addN (j + 1) (by omega) dc_316_89 ?_
  refine Bod.ialdN (j + 1) rfl (by omega) (by omega) dc_316_90 (mk_68 _) ?_
  refine Bod.eqI (nI v2) (by first | (simp (disch := omega) only [rI, rIe, rA, rIA, rLA, rJA, rVI, rQI, rVA, rQA, upd_at,  rAI, rLI, rJI, nI_add, pk_sub, kc_0, kc_1, kc_2, kc_3, kc_4, kc_5, reduceIte, Nat.reduceEqDiff, Nat.add_zero, rI_hold, rI_hold, rL_hold, ha, hkd, hvl, hx1, hx2, hk, hk2, hv2, ha1]; done) | (simp (disch := omega) only [rI, rIe, rA, rIA, rLA, rJA, rVI, rQI, rVA, rQA, upd_at,  rAI, rLI, rJI, nI_add, pk_sub, kc_0, kc_1, kc_2, kc_3, kc_4, kc_5, reduceIte, Nat.reduceEqDiff, Nat.add_zero, rI_hold, rI_hold, rL_hold, ha, hkd, hvl, hx1, hx2, hk, hk2, hv2, ha1]; exact congrArg nI (by omega))) ?_
  refine Bod.bip 40 (by decide) dc_316_91 ?_
  refine Bod.icF dc_316_93 rfl (k2_ne_F (k_eq v2 40 rfl rfl (by omega))) ?_
  refine Bod.ic 5 (by decide) dc_316_96 ?_
  refine Bod.go dc_316_97 rfl ?_
  refine Bod.go dc_316_101 rfl ?_
  refine Bod.get dc_316_102 fr_316_135 (mk_61 _) rfl ?_
  refine Bod.go dc_316_105 rfl ?_
  refine Bod.get dc_316_106 fr_316_190 (mk_61 _) rfl ?_
  refine Bod.eqI (nI j) (by first | (simp (disch := omega) only [rI, rIe, rA, rIA, rLA, rJA, rVI, rQI, rVA, rQA, upd_at,  rAI, rLI, rJI, nI_add, pk_sub, kc_0, kc_1, kc_2, kc_3, kc_4, kc_5, reduceIte, Nat.reduceEqDiff, Nat.add_zero, rI_hold, rI_hold, rL_hold, ha, hkd, hvl, hx1, hx2, hk, hk2, hv2, ha1]; done) | (simp (disch := omega) only [rI, rIe, rA, rIA, rLA, rJA, rVI, rQI, rVA, rQA, upd_at,  rAI, rLI, rJI, nI_add, pk_sub, kc_0, kc_1, kc_2, kc_3, kc_4, kc_5, reduceIte, Nat.reduceEqDiff, Nat.add_zero, rI_hold, rI_hold, rL_hold, ha, hkd, hvl, hx1, hx2, hk, hk2, hv2, ha1]; exact congrArg nI (by omega))) ?_
  refine Bod.ialdN j rfl (by omega) (by omega) dc_316_109 (mk_68 _) ?_
  refine Bod.eqI (nI r) (by first | (simp (disch := omega) only [rI, rIe, rA, rIA, rLA, rJA, rVI, rQI, rVA, rQA, upd_at,  rAI, rLI, rJI, nI_add, pk_sub, kc_0, kc_1, kc_2, kc_3, kc_4, kc_5, reduceIte, Nat.reduceEqDiff, Nat.add_zero, rI_hold, rI_hold, rL_hold, ha, hkd, hvl, hx1, hx2, hk, hk2, hv2, ha1]; done) | (simp (disch := omega) only [rI, rIe, rA, rIA, rLA, rJA, rVI, rQI, rVA, rQA, upd_at,  rAI, rLI, rJI, nI_add, pk_sub, kc_0, kc_1, kc_2, kc_3, kc_4, kc_5, reduceIte, Nat.reduceEqDiff, Nat.add_zero, rI_hold, rI_hold, rL_hold, ha, hkd, hvl, hx1, hx2, hk, hk2, hv2, ha1]; exact congrArg nI (by omega))) ?_
  refine Bod.virt (r := []) dc_316_110 kr_316_341 ⟨Or.inl rfl, ow_317, cl_14⟩ (by rw [np_317]; rfl) (by rw [np_317]; rfl) (ob_of (mk_61 _)) (Nat.le_of_ble_eq_true rfl) (hN  ) ?_
  show Bod _ _ _ _ [] _ _ _
  refine Bod.go dc_316_113 rfl ?_
  refine Bod.go dc_316_114 rfl ?_
  refine Bod.get dc_316_115 fr_316_190 (mk_61 _) rfl ?_
  refine Bod.eqI (nI j) (by first | (simp (disch := omega) only [rI, rIe, rA, rIA, rLA, rJA, rVI, rQI, rVA, rQA, upd_at,  rAI, rLI, rJI, nI_add, pk_sub, kc_0, kc_1, kc_2, kc_3, kc_4, kc_5, reduceIte, Nat.reduceEqDiff, Nat.add_zero, rI_hold, rI_hold, rL_hold, ha, hkd, hvl, hx1, hx2, hk, hk2, hv2, ha1]; done) | (simp (disch := omega) only [rI, rIe, rA, rIA, rLA, rJA, rVI, rQI, rVA, rQA, upd_at,  rAI, rLI, rJI, nI_add, pk_sub, kc_0, kc_1, kc_2, kc_3, kc_4, kc_5, reduceIte, Nat.reduceEqDiff, Nat.add_zero, rI_hold, rI_hold, rL_hold, ha, hkd, hvl, hx1, hx2, hk, hk2, hv2, ha1]; exact congrArg nI (by omega))) ?_
  refine Bod.ic 1 (by decide) dc_316_118 ?_
  refine Bod.addN (j + 1) (by omega) dc_316_119 ?_
  refine Bod.put dc_316_120 fr_316_190 (mk_61 _) (Nat.le_of_ble_eq_true rfl) pf_14_15 (st_6115 _ _) (mu_I _ _ _) ?_
  refine Bod.ic 1 (by decide) dc_316_123 ?_
  exact Bod.retZ dc_316_124 rt_316 (Or.inr rfl)
theorem ra_num {d : Nat} {S : cS} {dp : Nat} {j : Nat} {m : Nat} {u : Nat} {i : Nat} {S1 : cS} {S2 : cS} (hdp : dp ≤ 12) (ha : sI S 6115 = nI j) (hj : j < 6002) (hkd : sA S 67 j = nI 3) (hm : 108 ≤ m) (hs : (sS S)[m - 108]? = some (12, u)) (hcode : sV S 6114 = .ref m) (hi : i < 2 ^ 20) (hW : Ans (d + 8) 320 [.ref m, .long (sL S 71 j)] (wI 6131 (nI 0) S) (some (.int (nI i))) S1) (hP : Ans (d + 8) 302 [.ref 61, .int (nI 2), .int (nI i)] S1 none S2) (ha2 : sI S2 6115 = nI j) : Ans (d + 9) 316 [.ref 61, .int (nI dp)] S (some (.int 1)) (wI 6115 (nI (j + 1)) S2) := by
  refine Ans.of (by rw [ml_316]; exact Nat.le_of_ble_eq_true rfl) ?_
  refine Bod.go dc_316_0 rfl ?_
  refine Bod.ic 0 (by decide) dc_316_1 ?_
  refine Bod.put dc_316_2 fr_316_397 (mk_61 _) (Nat.le_of_ble_eq_true rfl) pf_14_31 (st_6131 _ _) (mu_I _ _ _) ?_
  refine Bod.go dc_316_5 rfl ?_
  refine Bod.get dc_316_6 fr_316_129 (mk_61 _) rfl ?_
  refine Bod.go dc_316_9 rfl ?_
  refine Bod.get dc_316_10 fr_316_190 (mk_61 _) rfl ?_
  refine Bod.eqI (nI j) (by first | (simp (disch := omega) only [rI, rIe, rA, rIA, rLA, rJA, rVI, rQI, rVA, rQA, upd_at,  rAI, rLI, rJI, nI_add, pk_sub, kc_0, kc_1, kc_2, kc_3, kc_4, kc_5, reduceIte, Nat.reduceEqDiff, Nat.add_zero, rI_hold, rI_hold, rL_hold, ha, hkd, ha2]; done) | (simp (disch := omega) only [rI, rIe, rA, rIA, rLA, rJA, rVI, rQI, rVA, rQA, upd_at,  rAI, rLI, rJI, nI_add, pk_sub, kc_0, kc_1, kc_2, kc_3, kc_4, kc_5, reduceIte, Nat.reduceEqDiff, Nat.add_zero, rI_hold, rI_hold, rL_hold, ha, hkd, ha2]; exact congrArg nI (by omega))) ?_
  refine Bod.ialdN j rfl (by omega) (by omega) dc_316_13 (mk_67 _) ?_
  refine Bod.eqI (nI 3) (by first | (simp (disch := omega) only [rI, rIe, rA, rIA, rLA, rJA, rVI, rQI, rVA, rQA, upd_at,  rAI, rLI, rJI, nI_add, pk_sub, kc_0, kc_1, kc_2, kc_3, kc_4, kc_5, reduceIte, Nat.reduceEqDiff, Nat.add_zero, rI_hold, rI_hold, rL_hold, ha, hkd, ha2]; done) | (simp (disch := omega) only [rI, rIe, rA, rIA, rLA, rJA, rVI, rQI, rVA, rQA, upd_at,  rAI, rLI, rJI, nI_add, pk_sub, kc_0, kc_1, kc_2, kc_3, kc_4, kc_5, reduceIte, Nat.reduceEqDiff, Nat.add_zero, rI_hold, rI_hold, rL_hold, ha, hkd, ha2]; exact congrArg nI (by omega))) ?_
  refine Bod.sw (t := 125) dc_316_14 rfl rfl (by decide +kernel) ?_
  refine Bod.go dc_316_125 rfl ?_
  refine Bod.ic 2 (by decide) dc_316_126 ?_
  refine Bod.go dc_316_127 rfl ?_
  refine Bod.get dc_316_128 fr_316_206 (mk_61 _) rfl ?_
  refine Bod.eqV (.ref m) (by first | exact hcode | (simp only [rIV, rJV, rAV, rLV, rQV]; exact hcode)) ?_
  refine Bod.go dc_316_131 rfl ?_
  refine Bod.get dc_316_132 fr_316_175 (mk_61 _) rfl ?_
  refine Bod.go dc_316_135 rfl ?_
  refine Bod.get dc_316_136 fr_316_190 (mk_61 _) rfl ?_
  refine Bod.eqI (nI j) (by first | (simp (disch := omega) only [rI, rIe, rA, rIA, rLA, rJA, rVI, rQI, rVA, rQA, upd_at,  rAI, rLI, rJI, nI_add, pk_sub, kc_0, kc_1, kc_2, kc_3, kc_4, kc_5, reduceIte, Nat.reduceEqDiff, Nat.add_zero, rI_hold, rI_hold, rL_hold, ha, hkd, ha2]; done) | (simp (disch := omega) only [rI, rIe, rA, rIA, rLA, rJA, rVI, rQI, rVA, rQA, upd_at,  rAI, rLI, rJI, nI_add, pk_sub, kc_0, kc_1, kc_2, kc_3, kc_4, kc_5, reduceIte, Nat.reduceEqDiff, Nat.add_zero, rI_hold, rI_hold, rL_hold, ha, hkd, ha2]; exact congrArg nI (by omega))) ?_
  refine Bod.laldN j rfl (by omega) (by omega) dc_316_139 (mk_71 _) ?_
  refine Bod.virt (r := [_, _]) dc_316_140 kr_316_428 ⟨Or.inl rfl, ow_320, cl_12⟩ (by rw [np_320]; rfl) (by rw [np_320]; rfl) (ob_of (mk_code hm (by first | exact hs | (simp only [rIS, rJS, rAS, rLS, rVS, rQS, rS_hold]; exact hs)))) (Nat.le_of_ble_eq_true rfl) (hW  ) ?_
  show Bod _ _ _ _ [_, _, _] _ _ _
  refine Bod.virt (r := []) dc_316_143 kr_316_216 ⟨Or.inl rfl, ow_302, cl_14⟩ (by rw [np_302]; rfl) (by rw [np_302]; rfl) (ob_of (mk_61 _)) (Nat.le_of_ble_eq_true rfl) (hP  ) ?_
  show Bod _ _ _ _ [] _ _ _
  refine Bod.go dc_316_146 rfl ?_
  refine Bod.go dc_316_147 rfl ?_
  refine Bod.get dc_316_148 fr_316_190 (mk_61 _) rfl ?_
  refine Bod.eqI (nI j) (by first | (simp (disch := omega) only [rI, rIe, rA, rIA, rLA, rJA, rVI, rQI, rVA, rQA, upd_at,  rAI, rLI, rJI, nI_add, pk_sub, kc_0, kc_1, kc_2, kc_3, kc_4, kc_5, reduceIte, Nat.reduceEqDiff, Nat.add_zero, rI_hold, rI_hold, rL_hold, ha, hkd, ha2]; done) | (simp (disch := omega) only [rI, rIe, rA, rIA, rLA, rJA, rVI, rQI, rVA, rQA, upd_at,  rAI, rLI, rJI, nI_add, pk_sub, kc_0, kc_1, kc_2, kc_3, kc_4, kc_5, reduceIte, Nat.reduceEqDiff, Nat.add_zero, rI_hold, rI_hold, rL_hold, ha, hkd, ha2]; exact congrArg nI (by omega))) ?_
  refine Bod.ic 1 (by decide) dc_316_151 ?_
  refine Bod.addN (j + 1) (by omega) dc_316_152 ?_
  refine Bod.put dc_316_153 fr_316_190 (mk_61 _) (Nat.le_of_ble_eq_true rfl) pf_14_15 (st_6115 _ _) (mu_I _ _ _) ?_
  refine Bod.ic 1 (by decide) dc_316_156 ?_
  exact Bod.retZ dc_316_157 rt_316 (Or.inr rfl)
theorem ra_str {d : Nat} {S : cS} {dp : Nat} {j : Nat} {m : Nat} {u : Nat} {i : Nat} {S1 : cS} {S2 : cS} (hdp : dp ≤ 12) (ha : sI S 6115 = nI j) (hj : j < 6002) (hkd : sA S 67 j = nI 4) (hm : 108 ≤ m) (hs : (sS S)[m - 108]? = some (12, u)) (hcode : sV S 6114 = .ref m) (hi : i < 2 ^ 20) (hT : Ans (d + 8) 321 [.ref m, .long (sL S 71 j), .long (sL S 72 j)] (wI 6131 (nI 0) S) (some (.int (nI i))) S1) (hP : Ans (d + 8) 302 [.ref 61, .int (nI 3), .int (nI i)] S1 none S2) (ha2 : sI S2 6115 = nI j) : Ans (d + 9) 316 [.ref 61, .int (nI dp)] S (some (.int 1)) (wI 6115 (nI (j + 1)) S2) := by
  refine Ans.of (by rw [ml_316]; exact Nat.le_of_ble_eq_true rfl) ?_
  refine Bod.go dc_316_0 rfl ?_
  refine Bod.ic 0 (by decide) dc_316_1 ?_
  refine Bod.put dc_316_2 fr_316_397 (mk_61 _) (Nat.le_of_ble_eq_true rfl) pf_14_31 (st_6131 _ _) (mu_I _ _ _) ?_
  refine Bod.go dc_316_5 rfl ?_
  refine Bod.get dc_316_6 fr_316_129 (mk_61 _) rfl ?_
  refine Bod.go dc_316_9 rfl ?_
  refine Bod.get dc_316_10 fr_316_190 (mk_61 _) rfl ?_
  refine Bod.eqI (nI j) (by first | (simp (disch := omega) only [rI, rIe, rA, rIA, rLA, rJA, rVI, rQI, rVA, rQA, upd_at,  rAI, rLI, rJI, nI_add, pk_sub, kc_0, kc_1, kc_2, kc_3, kc_4, kc_5, reduceIte, Nat.reduceEqDiff, Nat.add_zero, rI_hold, rI_hold, rL_hold, ha, hkd, ha2]; done) | (simp (disch := omega) only [rI, rIe, rA, rIA, rLA, rJA, rVI, rQI, rVA, rQA, upd_at,  rAI, rLI, rJI, nI_add, pk_sub, kc_0, kc_1, kc_2, kc_3, kc_4, kc_5, reduceIte, Nat.reduceEqDiff, Nat.add_zero, rI_hold, rI_hold, rL_hold, ha, hkd, ha2]; exact congrArg nI (by omega))) ?_
  refine Bod.ialdN j rfl (by omega) (by omega) dc_316_13 (mk_67 _) ?_
  refine Bod.eqI (nI 4) (by first | (simp (disch := omega) only [rI, rIe, rA, rIA, rLA, rJA, rVI, rQI, rVA, rQA, upd_at,  rAI, rLI, rJI, nI_add, pk_sub, kc_0, kc_1, kc_2, kc_3, kc_4, kc_5, reduceIte, Nat.reduceEqDiff, Nat.add_zero, rI_hold, rI_hold, rL_hold, ha, hkd, ha2]; done) | (simp (disch := omega) only [rI, rIe, rA, rIA, rLA, rJA, rVI, rQI, rVA, rQA, upd_at,  rAI, rLI, rJI, nI_add, pk_sub, kc_0, kc_1, kc_2, kc_3, kc_4, kc_5, reduceIte, Nat.reduceEqDiff, Nat.add_zero, rI_hold, rI_hold, rL_hold, ha, hkd, ha2]; exact congrArg nI (by omega))) ?_
  refine Bod.sw (t := 158) dc_316_14 rfl rfl (by decide +kernel) ?_
  refine Bod.go dc_316_158 rfl ?_
  refine Bod.ic 3 (by decide) dc_316_159 ?_
  refine Bod.go dc_316_160 rfl ?_
  refine Bod.get dc_316_161 fr_316_206 (mk_61 _) rfl ?_
  refine Bod.eqV (.ref m) (by first | exact hcode | (simp only [rIV, rJV, rAV, rLV, rQV]; exact hcode)) ?_
  refine Bod.go dc_316_164 rfl ?_
  refine Bod.get dc_316_165 fr_316_175 (mk_61 _) rfl ?_
  refine Bod.go dc_316_168 rfl ?_
  refine Bod.get dc_316_169 fr_316_190 (mk_61 _) rfl ?_
  refine Bod.eqI (nI j) (by first | (simp (disch := omega) only [rI, rIe, rA, rIA, rLA, rJA, rVI, rQI, rVA, rQA, upd_at,  rAI, rLI, rJI, nI_add, pk_sub, kc_0, kc_1, kc_2, kc_3, kc_4, kc_5, reduceIte, Nat.reduceEqDiff, Nat.add_zero, rI_hold, rI_hold, rL_hold, ha, hkd, ha2]; done) | (simp (disch := omega) only [rI, rIe, rA, rIA, rLA, rJA, rVI, rQI, rVA, rQA, upd_at,  rAI, rLI, rJI, nI_add, pk_sub, kc_0, kc_1, kc_2, kc_3, kc_4, kc_5, reduceIte, Nat.reduceEqDiff, Nat.add_zero, rI_hold, rI_hold, rL_hold, ha, hkd, ha2]; exact congrArg nI (by omega))) ?_
  refine Bod.laldN j rfl (by omega) (by omega) dc_316_172 (mk_71 _) ?_
  refine Bod.go dc_316_173 rfl ?_
  refine Bod.get dc_316_174 fr_316_182 (mk_61 _) rfl ?_
  refine Bod.go dc_316_177 rfl ?_
  refine Bod.get dc_316_178 fr_316_190 (mk_61 _) rfl ?_
  refine Bod.eqI (nI j) (by first | (simp (disch := omega) only [rI, rIe, rA, rIA, rLA, rJA, rVI, rQI, rVA, rQA, upd_at,  rAI, rLI, rJI, nI_add, pk_sub, kc_0, kc_1, kc_2, kc_3, kc_4, kc_5, reduceIte, Nat.reduceEqDiff, Nat.add_zero, rI_hold, rI_hold, rL_hold, ha, hkd, ha2]; done) | (simp (disch := omega) only [rI, rIe, rA, rIA, rLA, rJA, rVI, rQI, rVA, rQA, upd_at,  rAI, rLI, rJI, nI_add, pk_sub, kc_0, kc_1, kc_2, kc_3, kc_4, kc_5, reduceIte, Nat.reduceEqDiff, Nat.add_zero, rI_hold, rI_hold, rL_hold, ha, hkd, ha2]; exact congrArg nI (by omega))) ?_
  refine Bod.laldN j rfl (by omega) (by omega) dc_316_181 (mk_72 _) ?_
  refine Bod.virt (r := [_, _]) dc_316_182 kr_316_432 ⟨Or.inl rfl, ow_321, cl_12⟩ (by rw [np_321]; rfl) (by rw [np_321]; rfl) (ob_of (mk_code hm (by first | exact hs | (simp only [rIS, rJS, rAS, rLS, rVS, rQS, rS_hold]; exact hs)))) (Nat.le_of_ble_eq_true rfl) (hT  ) ?_
  show Bod _ _ _ _ [_, _, _] _ _ _
  refine Bod.virt (r := []) dc_316_185 kr_316_216 ⟨Or.inl rfl, ow_302, cl_14⟩ (by rw [np_302]; rfl) (by rw [np_302]; rfl) (ob_of (mk_61 _)) (Nat.le_of_ble_eq_true rfl) (hP  ) ?_
  show Bod _ _ _ _ [] _ _ _
  refine Bod.go dc_316_188 rfl ?_
  refine Bod.go dc_316_189 rfl ?_
  refine Bod.get dc_316_190 fr_316_190 (mk_61 _) rfl ?_
  refine Bod.eqI (nI j) (by first | (simp (disch := omega) only [rI, rIe, rA, rIA, rLA, rJA, rVI, rQI, rVA, rQA, upd_at,  rAI, rLI, rJI, nI_add, pk_sub, kc_0, kc_1, kc_2, kc_3, kc_4, kc_5, reduceIte, Nat.reduceEqDiff, Nat.add_zero, rI_hold, rI_hold, rL_hold, ha, hkd, ha2]; done) | (simp (disch := omega) only [rI, rIe, rA, rIA, rLA, rJA, rVI, rQI, rVA, rQA, upd_at,  rAI, rLI, rJI, nI_add, pk_sub, kc_0, kc_1, kc_2, kc_3, kc_4, kc_5, reduceIte, Nat.reduceEqDiff, Nat.add_zero, rI_hold, rI_hold, rL_hold, ha, hkd, ha2]; exact congrArg nI (by omega))) ?_
  refine Bod.ic 1 (by decide) dc_316_193 ?_
  refine Bod.addN (j + 1) (by omega) dc_316_194 ?_
  refine Bod.put dc_316_195 fr_316_190 (mk_61 _) (Nat.le_of_ble_eq_true rfl) pf_14_15 (st_6115 _ _) (mu_I _ _ _) ?_
  refine Bod.ic 1 (by decide) dc_316_198 ?_
  exact Bod.retZ dc_316_199 rt_316 (Or.inr rfl)
theorem ra_none {d : Nat} {S : cS} {dp : Nat} {j : Nat} {S1 : cS} (hdp : dp ≤ 12) (ha : sI S 6115 = nI j) (hj : j < 6002) (hkd : sA S 67 j = nI 2) (hvl : sA S 68 j = nI 21) (hQ0 : Ans (d + 8) 322 [.ref 61, .int (nI 1)] (wI 6131 (nI 0) S) none S1) (ha1 : sI S1 6115 = nI j) : Ans (d + 9) 316 [.ref 61, .int (nI dp)] S (some (.int 1)) (wI 6115 (nI (j + 1)) S1) := by
  refine Ans.of (by rw [ml_316]; exact Nat.le_of_ble_eq_true rfl) ?_
  refine Bod.go dc_316_0 rfl ?_
  refine Bod.ic 0 (by decide) dc_316_1 ?_
  refine Bod.put dc_316_2 fr_316_397 (mk_61 _) (Nat.le_of_ble_eq_true rfl) pf_14_31 (st_6131 _ _) (mu_I _ _ _) ?_
  refine Bod.go dc_316_5 rfl ?_
  refine Bod.get dc_316_6 fr_316_129 (mk_61 _) rfl ?_
  refine Bod.go dc_316_9 rfl ?_
  refine Bod.get dc_316_10 fr_316_190 (mk_61 _) rfl ?_
  refine Bod.eqI (nI j) (by first | (simp (disch := omega) only [rI, rIe, rA, rIA, rLA, rJA, rVI, rQI, rVA, rQA, upd_at,  rAI, rLI, rJI, nI_add, pk_sub, kc_0, kc_1, kc_2, kc_3, kc_4, kc_5, reduceIte, Nat.reduceEqDiff, Nat.add_zero, rI_hold, rI_hold, rL_hold, ha, hkd, hvl, ha1]; done) | (simp (disch := omega) only [rI, rIe, rA, rIA, rLA, rJA, rVI, rQI, rVA, rQA, upd_at,  rAI, rLI, rJI, nI_add, pk_sub, kc_0, kc_1, kc_2, kc_3, kc_4, kc_5, reduceIte, Nat.reduceEqDiff, Nat.add_zero, rI_hold, rI_hold, rL_hold, ha, hkd, hvl, ha1]; exact congrArg nI (by omega))) ?_
  refine Bod.ialdN j rfl (by omega) (by omega) dc_316_13 (mk_67 _) ?_
  refine Bod.eqI (nI 2) (by first | (simp (disch := omega) only [rI, rIe, rA, rIA, rLA, rJA, rVI, rQI, rVA, rQA, upd_at,  rAI, rLI, rJI, nI_add, pk_sub, kc_0, kc_1, kc_2, kc_3, kc_4, kc_5, reduceIte, Nat.reduceEqDiff, Nat.add_zero, rI_hold, rI_hold, rL_hold, ha, hkd, hvl, ha1]; done) | (simp (disch := omega) only [rI, rIe, rA, rIA, rLA, rJA, rVI, rQI, rVA, rQA, upd_at,  rAI, rLI, rJI, nI_add, pk_sub, kc_0, kc_1, kc_2, kc_3, kc_4, kc_5, reduceIte, Nat.reduceEqDiff, Nat.add_zero, rI_hold, rI_hold, rL_hold, ha, hkd, hvl, ha1]; exact congrArg nI (by omega))) ?_
  refine Bod.sw (t := 200) dc_316_14 rfl rfl (by decide +kernel) ?_
  refine Bod.go dc_316_200 rfl ?_
  refine Bod.get dc_316_201 fr_316_135 (mk_61 _) rfl ?_
  refine Bod.go dc_316_204 rfl ?_
  refine Bod.get dc_316_205 fr_316_190 (mk_61 _) rfl ?_
  refine Bod.eqI (nI j) (by first | (simp (disch := omega) only [rI, rIe, rA, rIA, rLA, rJA, rVI, rQI, rVA, rQA, upd_at,  rAI, rLI, rJI, nI_add, pk_sub, kc_0, kc_1, kc_2, kc_3, kc_4, kc_5, reduceIte, Nat.reduceEqDiff, Nat.add_zero, rI_hold, rI_hold, rL_hold, ha, hkd, hvl, ha1]; done) | (simp (disch := omega) only [rI, rIe, rA, rIA, rLA, rJA, rVI, rQI, rVA, rQA, upd_at,  rAI, rLI, rJI, nI_add, pk_sub, kc_0, kc_1, kc_2, kc_3, kc_4, kc_5, reduceIte, Nat.reduceEqDiff, Nat.add_zero, rI_hold, rI_hold, rL_hold, ha, hkd, hvl, ha1]; exact congrArg nI (by omega))) ?_
  refine Bod.ialdN j rfl (by omega) (by omega) dc_316_208 (mk_68 _) ?_
  refine Bod.eqI (nI 21) (by first | (simp (disch := omega) only [rI, rIe, rA, rIA, rLA, rJA, rVI, rQI, rVA, rQA, upd_at,  rAI, rLI, rJI, nI_add, pk_sub, kc_0, kc_1, kc_2, kc_3, kc_4, kc_5, reduceIte, Nat.reduceEqDiff, Nat.add_zero, rI_hold, rI_hold, rL_hold, ha, hkd, hvl, ha1]; done) | (simp (disch := omega) only [rI, rIe, rA, rIA, rLA, rJA, rVI, rQI, rVA, rQA, upd_at,  rAI, rLI, rJI, nI_add, pk_sub, kc_0, kc_1, kc_2, kc_3, kc_4, kc_5, reduceIte, Nat.reduceEqDiff, Nat.add_zero, rI_hold, rI_hold, rL_hold, ha, hkd, hvl, ha1]; exact congrArg nI (by omega))) ?_
  refine Bod.bip 21 (by decide) dc_316_209 ?_
  refine Bod.icF dc_316_211 rfl (k2_ne_F (k_eq 21 21 rfl rfl (by omega))) ?_
  refine Bod.go dc_316_214 rfl ?_
  refine Bod.ic 1 (by decide) dc_316_215 ?_
  refine Bod.virt (r := []) dc_316_216 kr_316_269 ⟨Or.inl rfl, ow_322, cl_14⟩ (by rw [np_322]; rfl) (by rw [np_322]; rfl) (ob_of (mk_61 _)) (Nat.le_of_ble_eq_true rfl) (hQ0  ) ?_
  show Bod _ _ _ _ [] _ _ _
  refine Bod.go dc_316_219 rfl ?_
  refine Bod.go dc_316_289 rfl ?_
  refine Bod.go dc_316_290 rfl ?_
  refine Bod.get dc_316_291 fr_316_190 (mk_61 _) rfl ?_
  refine Bod.eqI (nI j) (by first | (simp (disch := omega) only [rI, rIe, rA, rIA, rLA, rJA, rVI, rQI, rVA, rQA, upd_at,  rAI, rLI, rJI, nI_add, pk_sub, kc_0, kc_1, kc_2, kc_3, kc_4, kc_5, reduceIte, Nat.reduceEqDiff, Nat.add_zero, rI_hold, rI_hold, rL_hold, ha, hkd, hvl, ha1]; done) | (simp (disch := omega) only [rI, rIe, rA, rIA, rLA, rJA, rVI, rQI, rVA, rQA, upd_at,  rAI, rLI, rJI, nI_add, pk_sub, kc_0, kc_1, kc_2, kc_3, kc_4, kc_5, reduceIte, Nat.reduceEqDiff, Nat.add_zero, rI_hold, rI_hold, rL_hold, ha, hkd, hvl, ha1]; exact congrArg nI (by omega))) ?_
  refine Bod.ic 1 (by decide) dc_316_294 ?_
  refine Bod.addN (j + 1) (by omega) dc_316_295 ?_
  refine Bod.put dc_316_296 fr_316_190 (mk_61 _) (Nat.le_of_ble_eq_true rfl) pf_14_15 (st_6115 _ _) (mu_I _ _ _) ?_
  refine Bod.ic 1 (by decide) dc_316_299 ?_
  exact Bod.retZ dc_316_300 rt_316 (Or.inr rfl)
theorem ra_true {d : Nat} {S : cS} {dp : Nat} {j : Nat} {m : Nat} {u : Nat} {i : Nat} {S1 : cS} {S2 : cS} (hdp : dp ≤ 12) (ha : sI S 6115 = nI j) (hj : j < 6002) (hkd : sA S 67 j = nI 2) (hvl : sA S 68 j = nI 22) (hm : 108 ≤ m) (hs : (sS S)[m - 108]? = some (12, u)) (hcode : sV S 6114 = .ref m) (hi : i < 2 ^ 20) (hW : Ans (d + 8) 320 [.ref m, .long 1] (wI 6131 (nI 0) S) (some (.int (nI i))) S1) (hP : Ans (d + 8) 302 [.ref 61, .int (nI 2), .int (nI i)] S1 none S2) (ha2 : sI S2 6115 = nI j) : Ans (d + 9) 316 [.ref 61, .int (nI dp)] S (some (.int 1)) (wI 6115 (nI (j + 1)) S2) := by
  refine Ans.of (by rw [ml_316]; exact Nat.le_of_ble_eq_true rfl) ?_
  refine Bod.go dc_316_0 rfl ?_
  refine Bod.ic 0 (by decide) dc_316_1 ?_
  refine Bod.put dc_316_2 fr_316_397 (mk_61 _) (Nat.le_of_ble_eq_true rfl) pf_14_31 (st_6131 _ _) (mu_I _ _ _) ?_
  refine Bod.go dc_316_5 rfl ?_
  refine Bod.get dc_316_6 fr_316_129 (mk_61 _) rfl ?_
  refine Bod.go dc_316_9 rfl ?_
  refine Bod.get dc_316_10 fr_316_190 (mk_61 _) rfl ?_
  refine Bod.eqI (nI j) (by first | (simp (disch := omega) only [rI, rIe, rA, rIA, rLA, rJA, rVI, rQI, rVA, rQA, upd_at,  rAI, rLI, rJI, nI_add, pk_sub, kc_0, kc_1, kc_2, kc_3, kc_4, kc_5, reduceIte, Nat.reduceEqDiff, Nat.add_zero, rI_hold, rI_hold, rL_hold, ha, hkd, hvl, ha2]; done) | (simp (disch := omega) only [rI, rIe, rA, rIA, rLA, rJA, rVI, rQI, rVA, rQA, upd_at,  rAI, rLI, rJI, nI_add, pk_sub, kc_0, kc_1, kc_2, kc_3, kc_4, kc_5, reduceIte, Nat.reduceEqDiff, Nat.add_zero, rI_hold, rI_hold, rL_hold, ha, hkd, hvl, ha2]; exact congrArg nI (by omega))) ?_
  refine Bod.ialdN j rfl (by omega) (by omega) dc_316_13 (mk_67 _) ?_
  refine Bod.eqI (nI 2) (by first | (simp (disch := omega) only [rI, rIe, rA, rIA, rLA, rJA, rVI, rQI, rVA, rQA, upd_at,  rAI, rLI, rJI, nI_add, pk_sub, kc_0, kc_1, kc_2, kc_3, kc_4, kc_5, reduceIte, Nat.reduceEqDiff, Nat.add_zero, rI_hold, rI_hold, rL_hold, ha, hkd, hvl, ha2]; done) | (simp (disch := omega) only [rI, rIe, rA, rIA, rLA, rJA, rVI, rQI, rVA, rQA, upd_at,  rAI, rLI, rJI, nI_add, pk_sub, kc_0, kc_1, kc_2, kc_3, kc_4, kc_5, reduceIte, Nat.reduceEqDiff, Nat.add_zero, rI_hold, rI_hold, rL_hold, ha, hkd, hvl, ha2]; exact congrArg nI (by omega))) ?_
  refine Bod.sw (t := 200) dc_316_14 rfl rfl (by decide +kernel) ?_
  refine Bod.go dc_316_200 rfl ?_
  refine Bod.get dc_316_201 fr_316_135 (mk_61 _) rfl ?_
  refine Bod.go dc_316_204 rfl ?_
  refine Bod.get dc_316_205 fr_316_190 (mk_61 _) rfl ?_
  refine Bod.eqI (nI j) (by first | (simp (disch := omega) only [rI, rIe, rA, rIA, rLA, rJA, rVI, rQI, rVA, rQA, upd_at,  rAI, rLI, rJI, nI_add, pk_sub, kc_0, kc_1, kc_2, kc_3, kc_4, kc_5, reduceIte, Nat.reduceEqDiff, Nat.add_zero, rI_hold, rI_hold, rL_hold, ha, hkd, hvl, ha2]; done) | (simp (disch := omega) only [rI, rIe, rA, rIA, rLA, rJA, rVI, rQI, rVA, rQA, upd_at,  rAI, rLI, rJI, nI_add, pk_sub, kc_0, kc_1, kc_2, kc_3, kc_4, kc_5, reduceIte, Nat.reduceEqDiff, Nat.add_zero, rI_hold, rI_hold, rL_hold, ha, hkd, hvl, ha2]; exact congrArg nI (by omega))) ?_
  refine Bod.ialdN j rfl (by omega) (by omega) dc_316_208 (mk_68 _) ?_
  refine Bod.eqI (nI 22) (by first | (simp (disch := omega) only [rI, rIe, rA, rIA, rLA, rJA, rVI, rQI, rVA, rQA, upd_at,  rAI, rLI, rJI, nI_add, pk_sub, kc_0, kc_1, kc_2, kc_3, kc_4, kc_5, reduceIte, Nat.reduceEqDiff, Nat.add_zero, rI_hold, rI_hold, rL_hold, ha, hkd, hvl, ha2]; done) | (simp (disch := omega) only [rI, rIe, rA, rIA, rLA, rJA, rVI, rQI, rVA, rQA, upd_at,  rAI, rLI, rJI, nI_add, pk_sub, kc_0, kc_1, kc_2, kc_3, kc_4, kc_5, reduceIte, Nat.reduceEqDiff, Nat.add_zero, rI_hold, rI_hold, rL_hold, ha, hkd, hvl, ha2]; exact congrArg nI (by omega))) ?_
  refine Bod.bip 21 (by decide) dc_316_209 ?_
  refine Bod.icT dc_316_211 rfl (k2_ne_T (k_ne 22 21 rfl rfl (by omega) (by omega) (by omega))) ?_
  refine Bod.go dc_316_222 rfl ?_
  refine Bod.get dc_316_223 fr_316_135 (mk_61 _) rfl ?_
  refine Bod.go dc_316_226 rfl ?_
  refine Bod.get dc_316_227 fr_316_190 (mk_61 _) rfl ?_
  refine Bod.eqI (nI j) (by first | (simp (disch := omega) only [rI, rIe, rA, rIA, rLA, rJA, rVI, rQI, rVA, rQA, upd_at,  rAI, rLI, rJI, nI_add, pk_sub, kc_0, kc_1, kc_2, kc_3, kc_4, kc_5, reduceIte, Nat.reduceEqDiff, Nat.add_zero, rI_hold, rI_hold, rL_hold, ha, hkd, hvl, ha2]; done) | (simp (disch := omega) only [rI, rIe, rA, rIA, rLA, rJA, rVI, rQI, rVA, rQA, upd_at,  rAI, rLI, rJI, nI_add, pk_sub, kc_0, kc_1, kc_2, kc_3, kc_4, kc_5, reduceIte, Nat.reduceEqDiff, Nat.add_zero, rI_hold, rI_hold, rL_hold, ha, hkd, hvl, ha2]; exact congrArg nI (by omega))) ?_
  refine Bod.ialdN j rfl (by omega) (by omega) dc_316_230 (mk_68 _) ?_
  refine Bod.eqI (nI 22) (by first | (simp (disch := omega) only [rI, rIe, rA, rIA, rLA, rJA, rVI, rQI, rVA, rQA, upd_at,  rAI, rLI, rJI, nI_add, pk_sub, kc_0, kc_1, kc_2, kc_3, kc_4, kc_5, reduceIte, Nat.reduceEqDiff, Nat.add_zero, rI_hold, rI_hold, rL_hold, ha, hkd, hvl, ha2]; done) | (simp (disch := omega) only [rI, rIe, rA, rIA, rLA, rJA, rVI, rQI, rVA, rQA, upd_at,  rAI, rLI, rJI, nI_add, pk_sub, kc_0, kc_1, kc_2, kc_3, kc_4, kc_5, reduceIte, Nat.reduceEqDiff, Nat.add_zero, rI_hold, rI_hold, rL_hold, ha, hkd, hvl, ha2]; exact congrArg nI (by omega))) ?_
  refine Bod.bip 22 (by decide) dc_316_231 ?_
  refine Bod.icT dc_316_233 rfl (k2_eq_T (k_eq 22 22 rfl rfl (by omega))) ?_
  refine Bod.go dc_316_250 rfl ?_
  refine Bod.ic 2 (by decide) dc_316_251 ?_
  refine Bod.go dc_316_252 rfl ?_
  refine Bod.get dc_316_253 fr_316_206 (mk_61 _) rfl ?_
  refine Bod.eqV (.ref m) (by first | exact hcode | (simp only [rIV, rJV, rAV, rLV, rQV]; exact hcode)) ?_
  refine Bod.go dc_316_256 rfl ?_
  refine Bod.get dc_316_257 fr_316_135 (mk_61 _) rfl ?_
  refine Bod.go dc_316_260 rfl ?_
  refine Bod.get dc_316_261 fr_316_190 (mk_61 _) rfl ?_
  refine Bod.eqI (nI j) (by first | (simp (disch := omega) only [rI, rIe, rA, rIA, rLA, rJA, rVI, rQI, rVA, rQA, upd_at,  rAI, rLI, rJI, nI_add, pk_sub, kc_0, kc_1, kc_2, kc_3, kc_4, kc_5, reduceIte, Nat.reduceEqDiff, Nat.add_zero, rI_hold, rI_hold, rL_hold, ha, hkd, hvl, ha2]; done) | (simp (disch := omega) only [rI, rIe, rA, rIA, rLA, rJA, rVI, rQI, rVA, rQA, upd_at,  rAI, rLI, rJI, nI_add, pk_sub, kc_0, kc_1, kc_2, kc_3, kc_4, kc_5, reduceIte, Nat.reduceEqDiff, Nat.add_zero, rI_hold, rI_hold, rL_hold, ha, hkd, hvl, ha2]; exact congrArg nI (by omega))) ?_
  refine Bod.ialdN j rfl (by omega) (by omega) dc_316_264 (mk_68 _) ?_
  refine Bod.eqI (nI 22) (by first | (simp (disch := omega) only [rI, rIe, rA, rIA, rLA, rJA, rVI, rQI, rVA, rQA, upd_at,  rAI, rLI, rJI, nI_add, pk_sub, kc_0, kc_1, kc_2, kc_3, kc_4, kc_5, reduceIte, Nat.reduceEqDiff, Nat.add_zero, rI_hold, rI_hold, rL_hold, ha, hkd, hvl, ha2]; done) | (simp (disch := omega) only [rI, rIe, rA, rIA, rLA, rJA, rVI, rQI, rVA, rQA, upd_at,  rAI, rLI, rJI, nI_add, pk_sub, kc_0, kc_1, kc_2, kc_3, kc_4, kc_5, reduceIte, Nat.reduceEqDiff, Nat.add_zero, rI_hold, rI_hold, rL_hold, ha, hkd, hvl, ha2]; exact congrArg nI (by omega))) ?_
  refine Bod.bip 22 (by decide) dc_316_265 ?_
  refine Bod.icF dc_316_267 rfl (k2_ne_F (k_eq 22 22 rfl rfl (by omega))) ?_
  refine Bod.go dc_316_270 rfl ?_
  refine Bod.go dc_316_271 rfl ?_
  refine Bod.virt (r := [_, _]) dc_316_275 kr_316_428 ⟨Or.inl rfl, ow_320, cl_12⟩ (by rw [np_320]; rfl) (by rw [np_320]; rfl) (ob_of (mk_code hm (by first | exact hs | (simp only [rIS, rJS, rAS, rLS, rVS, rQS, rS_hold]; exact hs)))) (Nat.le_of_ble_eq_true rfl) (hW  ) ?_
  show Bod _ _ _ _ [_, _, _] _ _ _
  refine Bod.virt (r := []) dc_316_278 kr_316_216 ⟨Or.inl rfl, ow_302, cl_14⟩ (by rw [np_302]; rfl) (by rw [np_302]; rfl) (ob_of (mk_61 _)) (Nat.le_of_ble_eq_true rfl) (hP  ) ?_
  show Bod _ _ _ _ [] _ _ _
  refine Bod.go dc_316_281 rfl ?_
  refine Bod.go dc_316_289 rfl ?_
  refine Bod.go dc_316_290 rfl ?_
  refine Bod.get dc_316_291 fr_316_190 (mk_61 _) rfl ?_
  refine Bod.eqI (nI j) (by first | (simp (disch := omega) only [rI, rIe, rA, rIA, rLA, rJA, rVI, rQI, rVA, rQA, upd_at,  rAI, rLI, rJI, nI_add, pk_sub, kc_0, kc_1, kc_2, kc_3, kc_4, kc_5, reduceIte, Nat.reduceEqDiff, Nat.add_zero, rI_hold, rI_hold, rL_hold, ha, hkd, hvl, ha2]; done) | (simp (disch := omega) only [rI, rIe, rA, rIA, rLA, rJA, rVI, rQI, rVA, rQA, upd_at,  rAI, rLI, rJI, nI_add, pk_sub, kc_0, kc_1, kc_2, kc_3, kc_4, kc_5, reduceIte, Nat.reduceEqDiff, Nat.add_zero, rI_hold, rI_hold, rL_hold, ha, hkd, hvl, ha2]; exact congrArg nI (by omega))) ?_
  refine Bod.ic 1 (by decide) dc_316_294 ?_
  refine Bod.addN (j + 1) (by omega) dc_316_295 ?_
  refine Bod.put dc_316_296 fr_316_190 (mk_61 _) (Nat.le_of_ble_eq_true rfl) pf_14_15 (st_6115 _ _) (mu_I _ _ _) ?_
  refine Bod.ic 1 (by decide) dc_316_299 ?_
  exact Bod.retZ dc_316_300 rt_316 (Or.inr rfl)
theorem ra_false {d : Nat} {S : cS} {dp : Nat} {j : Nat} {m : Nat} {u : Nat} {i : Nat} {S1 : cS} {S2 : cS} (hdp : dp ≤ 12) (ha : sI S 6115 = nI j) (hj : j < 6002) (hkd : sA S 67 j = nI 2) (hvl : sA S 68 j = nI 23) (hm : 108 ≤ m) (hs : (sS S)[m - 108]? = some (12, u)) (hcode : sV S 6114 = .ref m) (hi : i < 2 ^ 20) (hW : Ans (d + 8) 320 [.ref m, .long 0] (wI 6131 (nI 0) S) (some (.int (nI i))) S1) (hP : Ans (d + 8) 302 [.ref 61, .int (nI 2), .int (nI i)] S1 none S2) (ha2 : sI S2 6115 = nI j) : Ans (d + 9) 316 [.ref 61, .int (nI dp)] S (some (.int 1)) (wI 6115 (nI (j + 1)) S2) := by
  refine Ans.of (by rw [ml_316]; exact Nat.le_of_ble_eq_true rfl) ?_
  refine Bod.go dc_316_0 rfl ?_
  refine Bod.ic 0 (by decide) dc_316_1 ?_
  refine Bod.put dc_316_2 fr_316_397 (mk_61 _) (Nat.le_of_ble_eq_true rfl) pf_14_31 (st_6131 _ _) (mu_I _ _ _) ?_
  refine Bod.go dc_316_5 rfl ?_
  refine Bod.get dc_316_6 fr_316_129 (mk_61 _) rfl ?_
  refine Bod.go dc_316_9 rfl ?_
  refine Bod.get dc_316_10 fr_316_190 (mk_61 _) rfl ?_
  refine Bod.eqI (nI j) (by first | (simp (disch := omega) only [rI, rIe, rA, rIA, rLA, rJA, rVI, rQI, rVA, rQA, upd_at,  rAI, rLI, rJI, nI_add, pk_sub, kc_0, kc_1, kc_2, kc_3, kc_4, kc_5, reduceIte, Nat.reduceEqDiff, Nat.add_zero, rI_hold, rI_hold, rL_hold, ha, hkd, hvl, ha2]; done) | (simp (disch := omega) only [rI, rIe, rA, rIA, rLA, rJA, rVI, rQI, rVA, rQA, upd_at,  rAI, rLI, rJI, nI_add, pk_sub, kc_0, kc_1, kc_2, kc_3, kc_4, kc_5, reduceIte, Nat.reduceEqDiff, Nat.add_zero, rI_hold, rI_hold, rL_hold, ha, hkd, hvl, ha2]; exact congrArg nI (by omega))) ?_
  refine Bod.ialdN j rfl (by omega) (by omega) dc_316_13 (mk_67 _) ?_
  refine Bod.eqI (nI 2) (by first | (simp (disch := omega) only [rI, rIe, rA, rIA, rLA, rJA, rVI, rQI, rVA, rQA, upd_at,  rAI, rLI, rJI, nI_add, pk_sub, kc_0, kc_1, kc_2, kc_3, kc_4, kc_5, reduceIte, Nat.reduceEqDiff, Nat.add_zero, rI_hold, rI_hold, rL_hold, ha, hkd, hvl, ha2]; done) | (simp (disch := omega) only [rI, rIe, rA, rIA, rLA, rJA, rVI, rQI, rVA, rQA, upd_at,  rAI, rLI, rJI, nI_add, pk_sub, kc_0, kc_1, kc_2, kc_3, kc_4, kc_5, reduceIte, Nat.reduceEqDiff, Nat.add_zero, rI_hold, rI_hold, rL_hold, ha, hkd, hvl, ha2]; exact congrArg nI (by omega))) ?_
  refine Bod.sw (t := 200) dc_316_14 rfl rfl (by decide +kernel) ?_
  refine Bod.go dc_316_200 rfl ?_
  refine Bod.get dc_316_201 fr_316_135 (mk_61 _) rfl ?_
  refine Bod.go dc_316_204 rfl ?_
  refine Bod.get dc_316_205 fr_316_190 (mk_61 _) rfl ?_
  refine Bod.eqI (nI j) (by first | (simp (disch := omega) only [rI, rIe, rA, rIA, rLA, rJA, rVI, rQI, rVA, rQA, upd_at,  rAI, rLI, rJI, nI_add, pk_sub, kc_0, kc_1, kc_2, kc_3, kc_4, kc_5, reduceIte, Nat.reduceEqDiff, Nat.add_zero, rI_hold, rI_hold, rL_hold, ha, hkd, hvl, ha2]; done) | (simp (disch := omega) only [rI, rIe, rA, rIA, rLA, rJA, rVI, rQI, rVA, rQA, upd_at,  rAI, rLI, rJI, nI_add, pk_sub, kc_0, kc_1, kc_2, kc_3, kc_4, kc_5, reduceIte, Nat.reduceEqDiff, Nat.add_zero, rI_hold, rI_hold, rL_hold, ha, hkd, hvl, ha2]; exact congrArg nI (by omega))) ?_
  refine Bod.ialdN j rfl (by omega) (by omega) dc_316_208 (mk_68 _) ?_
  refine Bod.eqI (nI 23) (by first | (simp (disch := omega) only [rI, rIe, rA, rIA, rLA, rJA, rVI, rQI, rVA, rQA, upd_at,  rAI, rLI, rJI, nI_add, pk_sub, kc_0, kc_1, kc_2, kc_3, kc_4, kc_5, reduceIte, Nat.reduceEqDiff, Nat.add_zero, rI_hold, rI_hold, rL_hold, ha, hkd, hvl, ha2]; done) | (simp (disch := omega) only [rI, rIe, rA, rIA, rLA, rJA, rVI, rQI, rVA, rQA, upd_at,  rAI, rLI, rJI, nI_add, pk_sub, kc_0, kc_1, kc_2, kc_3, kc_4, kc_5, reduceIte, Nat.reduceEqDiff, Nat.add_zero, rI_hold, rI_hold, rL_hold, ha, hkd, hvl, ha2]; exact congrArg nI (by omega))) ?_
  refine Bod.bip 21 (by decide) dc_316_209 ?_
  refine Bod.icT dc_316_211 rfl (k2_ne_T (k_ne 23 21 rfl rfl (by omega) (by omega) (by omega))) ?_
  refine Bod.go dc_316_222 rfl ?_
  refine Bod.get dc_316_223 fr_316_135 (mk_61 _) rfl ?_
  refine Bod.go dc_316_226 rfl ?_
  refine Bod.get dc_316_227 fr_316_190 (mk_61 _) rfl ?_
  refine Bod.eqI (nI j) (by first | (simp (disch := omega) only [rI, rIe, rA, rIA, rLA, rJA, rVI, rQI, rVA, rQA, upd_at,  rAI, rLI, rJI, nI_add, pk_sub, kc_0, kc_1, kc_2, kc_3, kc_4, kc_5, reduceIte, Nat.reduceEqDiff, Nat.add_zero, rI_hold, rI_hold, rL_hold, ha, hkd, hvl, ha2]; done) | (simp (disch := omega) only [rI, rIe, rA, rIA, rLA, rJA, rVI, rQI, rVA, rQA, upd_at,  rAI, rLI, rJI, nI_add, pk_sub, kc_0, kc_1, kc_2, kc_3, kc_4, kc_5, reduceIte, Nat.reduceEqDiff, Nat.add_zero, rI_hold, rI_hold, rL_hold, ha, hkd, hvl, ha2]; exact congrArg nI (by omega))) ?_
  refine Bod.ialdN j rfl (by omega) (by omega) dc_316_230 (mk_68 _) ?_
  refine Bod.eqI (nI 23) (by first | (simp (disch := omega) only [rI, rIe, rA, rIA, rLA, rJA, rVI, rQI, rVA, rQA, upd_at,  rAI, rLI, rJI, nI_add, pk_sub, kc_0, kc_1, kc_2, kc_3, kc_4, kc_5, reduceIte, Nat.reduceEqDiff, Nat.add_zero, rI_hold, rI_hold, rL_hold, ha, hkd, hvl, ha2]; done) | (simp (disch := omega) only [rI, rIe, rA, rIA, rLA, rJA, rVI, rQI, rVA, rQA, upd_at,  rAI, rLI, rJI, nI_add, pk_sub, kc_0, kc_1, kc_2, kc_3, kc_4, kc_5, reduceIte, Nat.reduceEqDiff, Nat.add_zero, rI_hold, rI_hold, rL_hold, ha, hkd, hvl, ha2]; exact congrArg nI (by omega))) ?_
  refine Bod.bip 22 (by decide) dc_316_231 ?_
  refine Bod.icF dc_316_233 rfl (k2_eq_F (k_ne 23 22 rfl rfl (by omega) (by omega) (by omega))) ?_
  refine Bod.go dc_316_236 rfl ?_
  refine Bod.get dc_316_237 fr_316_135 (mk_61 _) rfl ?_
  refine Bod.go dc_316_240 rfl ?_
  refine Bod.get dc_316_241 fr_316_190 (mk_61 _) rfl ?_
  refine Bod.eqI (nI j) (by first | (simp (disch := omega) only [rI, rIe, rA, rIA, rLA, rJA, rVI, rQI, rVA, rQA, upd_at,  rAI, rLI, rJI, nI_add, pk_sub, kc_0, kc_1, kc_2, kc_3, kc_4, kc_5, reduceIte, Nat.reduceEqDiff, Nat.add_zero, rI_hold, rI_hold, rL_hold, ha, hkd, hvl, ha2]; done) | (simp (disch := omega) only [rI, rIe, rA, rIA, rLA, rJA, rVI, rQI, rVA, rQA, upd_at,  rAI, rLI, rJI, nI_add, pk_sub, kc_0, kc_1, kc_2, kc_3, kc_4, kc_5, reduceIte, Nat.reduceEqDiff, Nat.add_zero, rI_hold, rI_hold, rL_hold, ha, hkd, hvl, ha2]; exact congrArg nI (by omega))) ?_
  refine Bod.ialdN j rfl (by omega) (by omega) dc_316_244 (mk_68 _) ?_
  refine Bod.eqI (nI 23) (by first | (simp (disch := omega) only [rI, rIe, rA, rIA, rLA, rJA, rVI, rQI, rVA, rQA, upd_at,  rAI, rLI, rJI, nI_add, pk_sub, kc_0, kc_1, kc_2, kc_3, kc_4, kc_5, reduceIte, Nat.reduceEqDiff, Nat.add_zero, rI_hold, rI_hold, rL_hold, ha, hkd, hvl, ha2]; done) | (simp (disch := omega) only [rI, rIe, rA, rIA, rLA, rJA, rVI, rQI, rVA, rQA, upd_at,  rAI, rLI, rJI, nI_add, pk_sub, kc_0, kc_1, kc_2, kc_3, kc_4, kc_5, reduceIte, Nat.reduceEqDiff, Nat.add_zero, rI_hold, rI_hold, rL_hold, ha, hkd, hvl, ha2]; exact congrArg nI (by omega))) ?_
  refine Bod.bip 23 (by decide) dc_316_245 ?_
  refine Bod.icF dc_316_247 rfl (k2_ne_F (k_eq 23 23 rfl rfl (by omega))) ?_
  refine Bod.go dc_316_250 rfl ?_
  refine Bod.ic 2 (by decide) dc_316_251 ?_
  refine Bod.go dc_316_252 rfl ?_
  refine Bod.get dc_316_253 fr_316_206 (mk_61 _) rfl ?_
  refine Bod.eqV (.ref m) (by first | exact hcode | (simp only [rIV, rJV, rAV, rLV, rQV]; exact hcode)) ?_
  refine Bod.go dc_316_256 rfl ?_
  refine Bod.get dc_316_257 fr_316_135 (mk_61 _) rfl ?_
  refine Bod.go dc_316_260 rfl ?_
  refine Bod.get dc_316_261 fr_316_190 (mk_61 _) rfl ?_
  refine Bod.eqI (nI j) (by first | (simp (disch := omega) only [rI, rIe, rA, rIA, rLA, rJA, rVI, rQI, rVA, rQA, upd_at,  rAI, rLI, rJI, nI_add, pk_sub, kc_0, kc_1, kc_2, kc_3, kc_4, kc_5, reduceIte, Nat.reduceEqDiff, Nat.add_zero, rI_hold, rI_hold, rL_hold, ha, hkd, hvl, ha2]; done) | (simp (disch := omega) only [rI, rIe, rA, rIA, rLA, rJA, rVI, rQI, rVA, rQA, upd_at,  rAI, rLI, rJI, nI_add, pk_sub, kc_0, kc_1, kc_2, kc_3, kc_4, kc_5, reduceIte, Nat.reduceEqDiff, Nat.add_zero, rI_hold, rI_hold, rL_hold, ha, hkd, hvl, ha2]; exact congrArg nI (by omega))) ?_
  refine Bod.ialdN j rfl (by omega) (by omega) dc_316_264 (mk_68 _) ?_
  refine Bod.eqI (nI 23) (by first | (simp (disch := omega) only [rI, rIe, rA, rIA, rLA, rJA, rVI, rQI, rVA, rQA, upd_at,  rAI, rLI, rJI, nI_add, pk_sub, kc_0, kc_1, kc_2, kc_3, kc_4, kc_5, reduceIte, Nat.reduceEqDiff, Nat.add_zero, rI_hold, rI_hold, rL_hold, ha, hkd, hvl, ha2]; done) | (simp (disch := omega) only [rI, rIe, rA, rIA, rLA, rJA, rVI, rQI, rVA, rQA, upd_at,  rAI, rLI, rJI, nI_add, pk_sub, kc_0, kc_1, kc_2, kc_3, kc_4, kc_5, reduceIte, Nat.reduceEqDiff, Nat.add_zero, rI_hold, rI_hold, rL_hold, ha, hkd, hvl, ha2]; exact congrArg nI (by omega))) ?_
  refine Bod.bip 22 (by decide) dc_316_265 ?_
  refine Bod.icT dc_316_267 rfl (k2_ne_T (k_ne 23 22 rfl rfl (by omega) (by omega) (by omega))) ?_
  refine Bod.go dc_316_274 rfl ?_
  refine Bod.virt (r := [_, _]) dc_316_275 kr_316_428 ⟨Or.inl rfl, ow_320, cl_12⟩ (by rw [np_320]; rfl) (by rw [np_320]; rfl) (ob_of (mk_code hm (by first | exact hs | (simp only [rIS, rJS, rAS, rLS, rVS, rQS, rS_hold]; exact hs)))) (Nat.le_of_ble_eq_true rfl) (hW  ) ?_
  show Bod _ _ _ _ [_, _, _] _ _ _
  refine Bod.virt (r := []) dc_316_278 kr_316_216 ⟨Or.inl rfl, ow_302, cl_14⟩ (by rw [np_302]; rfl) (by rw [np_302]; rfl) (ob_of (mk_61 _)) (Nat.le_of_ble_eq_true rfl) (hP  ) ?_
  show Bod _ _ _ _ [] _ _ _
  refine Bod.go dc_316_281 rfl ?_
  refine Bod.go dc_316_289 rfl ?_
  refine Bod.go dc_316_290 rfl ?_
  refine Bod.get dc_316_291 fr_316_190 (mk_61 _) rfl ?_
  refine Bod.eqI (nI j) (by first | (simp (disch := omega) only [rI, rIe, rA, rIA, rLA, rJA, rVI, rQI, rVA, rQA, upd_at,  rAI, rLI, rJI, nI_add, pk_sub, kc_0, kc_1, kc_2, kc_3, kc_4, kc_5, reduceIte, Nat.reduceEqDiff, Nat.add_zero, rI_hold, rI_hold, rL_hold, ha, hkd, hvl, ha2]; done) | (simp (disch := omega) only [rI, rIe, rA, rIA, rLA, rJA, rVI, rQI, rVA, rQA, upd_at,  rAI, rLI, rJI, nI_add, pk_sub, kc_0, kc_1, kc_2, kc_3, kc_4, kc_5, reduceIte, Nat.reduceEqDiff, Nat.add_zero, rI_hold, rI_hold, rL_hold, ha, hkd, hvl, ha2]; exact congrArg nI (by omega))) ?_
  refine Bod.ic 1 (by decide) dc_316_294 ?_
  refine Bod.addN (j + 1) (by omega) dc_316_295 ?_
  refine Bod.put dc_316_296 fr_316_190 (mk_61 _) (Nat.le_of_ble_eq_true rfl) pf_14_15 (st_6115 _ _) (mu_I _ _ _) ?_
  refine Bod.ic 1 (by decide) dc_316_299 ?_
  exact Bod.retZ dc_316_300 rt_316 (Or.inr rfl)
theorem ra_word {d : Nat} {S : cS} {dp : Nat} {j : Nat} {v2 : Nat} {S1 : cS} (hdp : dp ≤ 12) (ha : sI S 6115 = nI j) (hj : j < 6002) (hkd : sA S 67 j = nI 2) (hvl : sA S 68 j = nI v2) (hvM : v2 < 100000) (h1 : v2 ≠ 21) (h2 : v2 ≠ 22) (h3 : v2 ≠ 23) (hB : Ans (d + 8) 299 [.ref 61] (wI 6131 (nI 0) S) (some (.int (nI 0))) S1) : Ans (d + 9) 316 [.ref 61, .int (nI dp)] S (some (.int 0)) (S1) := by
  refine Ans.of (by rw [ml_316]; exact Nat.le_of_ble_eq_true rfl) ?_
  refine Bod.go dc_316_0 rfl ?_
  refine Bod.ic 0 (by decide) dc_316_1 ?_
  refine Bod.put dc_316_2 fr_316_397 (mk_61 _) (Nat.le_of_ble_eq_true rfl) pf_14_31 (st_6131 _ _) (mu_I _ _ _) ?_
  refine Bod.go dc_316_5 rfl ?_
  refine Bod.get dc_316_6 fr_316_129 (mk_61 _) rfl ?_
  refine Bod.go dc_316_9 rfl ?_
  refine Bod.get dc_316_10 fr_316_190 (mk_61 _) rfl ?_
  refine Bod.eqI (nI j) (by first | (simp (disch := omega) only [rI, rIe, rA, rIA, rLA, rJA, rVI, rQI, rVA, rQA, upd_at,  rAI, rLI, rJI, nI_add, pk_sub, kc_0, kc_1, kc_2, kc_3, kc_4, kc_5, reduceIte, Nat.reduceEqDiff, Nat.add_zero, rI_hold, rI_hold, rL_hold, ha, hkd, hvl]; done) | (simp (disch := omega) only [rI, rIe, rA, rIA, rLA, rJA, rVI, rQI, rVA, rQA, upd_at,  rAI, rLI, rJI, nI_add, pk_sub, kc_0, kc_1, kc_2, kc_3, kc_4, kc_5, reduceIte, Nat.reduceEqDiff, Nat.add_zero, rI_hold, rI_hold, rL_hold, ha, hkd, hvl]; exact congrArg nI (by omega))) ?_
  refine Bod.ialdN j rfl (by omega) (by omega) dc_316_13 (mk_67 _) ?_
  refine Bod.eqI (nI 2) (by first | (simp (disch := omega) only [rI, rIe, rA, rIA, rLA, rJA, rVI, rQI, rVA, rQA, upd_at,  rAI, rLI, rJI, nI_add, pk_sub, kc_0, kc_1, kc_2, kc_3, kc_4, kc_5, reduceIte, Nat.reduceEqDiff, Nat.add_zero, rI_hold, rI_hold, rL_hold, ha, hkd, hvl]; done) | (simp (disch := omega) only [rI, rIe, rA, rIA, rLA, rJA, rVI, rQI, rVA, rQA, upd_at,  rAI, rLI, rJI, nI_add, pk_sub, kc_0, kc_1, kc_2, kc_3, kc_4, kc_5, reduceIte, Nat.reduceEqDiff, Nat.add_zero, rI_hold, rI_hold, rL_hold, ha, hkd, hvl]; exact congrArg nI (by omega))) ?_
  refine Bod.sw (t := 200) dc_316_14 rfl rfl (by decide +kernel) ?_
  refine Bod.go dc_316_200 rfl ?_
  refine Bod.get dc_316_201 fr_316_135 (mk_61 _) rfl ?_
  refine Bod.go dc_316_204 rfl ?_
  refine Bod.get dc_316_205 fr_316_190 (mk_61 _) rfl ?_
  refine Bod.eqI (nI j) (by first | (simp (disch := omega) only [rI, rIe, rA, rIA, rLA, rJA, rVI, rQI, rVA, rQA, upd_at,  rAI, rLI, rJI, nI_add, pk_sub, kc_0, kc_1, kc_2, kc_3, kc_4, kc_5, reduceIte, Nat.reduceEqDiff, Nat.add_zero, rI_hold, rI_hold, rL_hold, ha, hkd, hvl]; done) | (simp (disch := omega) only [rI, rIe, rA, rIA, rLA, rJA, rVI, rQI, rVA, rQA, upd_at,  rAI, rLI, rJI, nI_add, pk_sub, kc_0, kc_1, kc_2, kc_3, kc_4, kc_5, reduceIte, Nat.reduceEqDiff, Nat.add_zero, rI_hold, rI_hold, rL_hold, ha, hkd, hvl]; exact congrArg nI (by omega))) ?_
  refine Bod.ialdN j rfl (by omega) (by omega) dc_316_208 (mk_68 _) ?_
  refine Bod.eqI (nI v2) (by first | (simp (disch := omega) only [rI, rIe, rA, rIA, rLA, rJA, rVI, rQI, rVA, rQA, upd_at,  rAI, rLI, rJI, nI_add, pk_sub, kc_0, kc_1, kc_2, kc_3, kc_4, kc_5, reduceIte, Nat.reduceEqDiff, Nat.add_zero, rI_hold, rI_hold, rL_hold, ha, hkd, hvl]; done) | (simp (disch := omega) only [rI, rIe, rA, rIA, rLA, rJA, rVI, rQI, rVA, rQA, upd_at,  rAI, rLI, rJI, nI_add, pk_sub, kc_0, kc_1, kc_2, kc_3, kc_4, kc_5, reduceIte, Nat.reduceEqDiff, Nat.add_zero, rI_hold, rI_hold, rL_hold, ha, hkd, hvl]; exact congrArg nI (by omega))) ?_
  refine Bod.bip 21 (by decide) dc_316_209 ?_
  refine Bod.icT dc_316_211 rfl (k2_ne_T (k_ne v2 21 rfl rfl (by omega) (by omega) (by omega))) ?_
  refine Bod.go dc_316_222 rfl ?_
  refine Bod.get dc_316_223 fr_316_135 (mk_61 _) rfl ?_
  refine Bod.go dc_316_226 rfl ?_
  refine Bod.get dc_316_227 fr_316_190 (mk_61 _) rfl ?_
  refine Bod.eqI (nI j) (by first | (simp (disch := omega) only [rI, rIe, rA, rIA, rLA, rJA, rVI, rQI, rVA, rQA, upd_at,  rAI, rLI, rJI, nI_add, pk_sub, kc_0, kc_1, kc_2, kc_3, kc_4, kc_5, reduceIte, Nat.reduceEqDiff, Nat.add_zero, rI_hold, rI_hold, rL_hold, ha, hkd, hvl]; done) | (simp (disch := omega) only [rI, rIe, rA, rIA, rLA, rJA, rVI, rQI, rVA, rQA, upd_at,  rAI, rLI, rJI, nI_add, pk_sub, kc_0, kc_1, kc_2, kc_3, kc_4, kc_5, reduceIte, Nat.reduceEqDiff, Nat.add_zero, rI_hold, rI_hold, rL_hold, ha, hkd, hvl]; exact congrArg nI (by omega))) ?_
  refine Bod.ialdN j rfl (by omega) (by omega) dc_316_230 (mk_68 _) ?_
  refine Bod.eqI (nI v2) (by first | (simp (disch := omega) only [rI, rIe, rA, rIA, rLA, rJA, rVI, rQI, rVA, rQA, upd_at,  rAI, rLI, rJI, nI_add, pk_sub, kc_0, kc_1, kc_2, kc_3, kc_4, kc_5, reduceIte, Nat.reduceEqDiff, Nat.add_zero, rI_hold, rI_hold, rL_hold, ha, hkd, hvl]; done) | (simp (disch := omega) only [rI, rIe, rA, rIA, rLA, rJA, rVI, rQI, rVA, rQA, upd_at,  rAI, rLI, rJI, nI_add, pk_sub, kc_0, kc_1, kc_2, kc_3, kc_4, kc_5, reduceIte, Nat.reduceEqDiff, Nat.add_zero, rI_hold, rI_hold, rL_hold, ha, hkd, hvl]; exact congrArg nI (by omega))) ?_
  refine Bod.bip 22 (by decide) dc_316_231 ?_
  refine Bod.icF dc_316_233 rfl (k2_eq_F (k_ne v2 22 rfl rfl (by omega) (by omega) (by omega))) ?_
  refine Bod.go dc_316_236 rfl ?_
  refine Bod.get dc_316_237 fr_316_135 (mk_61 _) rfl ?_
  refine Bod.go dc_316_240 rfl ?_
  refine Bod.get dc_316_241 fr_316_190 (mk_61 _) rfl ?_
  refine Bod.eqI (nI j) (by first | (simp (disch := omega) only [rI, rIe, rA, rIA, rLA, rJA, rVI, rQI, rVA, rQA, upd_at,  rAI, rLI, rJI, nI_add, pk_sub, kc_0, kc_1, kc_2, kc_3, kc_4, kc_5, reduceIte, Nat.reduceEqDiff, Nat.add_zero, rI_hold, rI_hold, rL_hold, ha, hkd, hvl]; done) | (simp (disch := omega) only [rI, rIe, rA, rIA, rLA, rJA, rVI, rQI, rVA, rQA, upd_at,  rAI, rLI, rJI, nI_add, pk_sub, kc_0, kc_1, kc_2, kc_3, kc_4, kc_5, reduceIte, Nat.reduceEqDiff, Nat.add_zero, rI_hold, rI_hold, rL_hold, ha, hkd, hvl]; exact congrArg nI (by omega))) ?_
  refine Bod.ialdN j rfl (by omega) (by omega) dc_316_244 (mk_68 _) ?_
  refine Bod.eqI (nI v2) (by first | (simp (disch := omega) only [rI, rIe, rA, rIA, rLA, rJA, rVI, rQI, rVA, rQA, upd_at,  rAI, rLI, rJI, nI_add, pk_sub, kc_0, kc_1, kc_2, kc_3, kc_4, kc_5, reduceIte, Nat.reduceEqDiff, Nat.add_zero, rI_hold, rI_hold, rL_hold, ha, hkd, hvl]; done) | (simp (disch := omega) only [rI, rIe, rA, rIA, rLA, rJA, rVI, rQI, rVA, rQA, upd_at,  rAI, rLI, rJI, nI_add, pk_sub, kc_0, kc_1, kc_2, kc_3, kc_4, kc_5, reduceIte, Nat.reduceEqDiff, Nat.add_zero, rI_hold, rI_hold, rL_hold, ha, hkd, hvl]; exact congrArg nI (by omega))) ?_
  refine Bod.bip 23 (by decide) dc_316_245 ?_
  refine Bod.icT dc_316_247 rfl (k2_ne_T (k_ne v2 23 rfl rfl (by omega) (by omega) (by omega))) ?_
  refine Bod.go dc_316_284 rfl ?_
  refine Bod.virt (r := []) dc_316_285 kr_316_202 ⟨Or.inl rfl, ow_299, cl_14⟩ (by rw [np_299]; rfl) (by rw [np_299]; rfl) (ob_of (mk_61 _)) (Nat.le_of_ble_eq_true rfl) (hB  ) ?_
  show Bod _ _ _ _ [_] _ _ _
  exact Bod.retZ dc_316_288 rt_316 (Or.inl rfl)
theorem ra_bad6 {d : Nat} {S : cS} {dp : Nat} {j : Nat} {S1 : cS} (hdp : dp ≤ 12) (ha : sI S 6115 = nI j) (hj : j < 6002) (hkd : sA S 67 j = nI 6) (hB : Ans (d + 8) 299 [.ref 61] (wI 6131 (nI 0) S) (some (.int (nI 0))) S1) : Ans (d + 9) 316 [.ref 61, .int (nI dp)] S (some (.int 0)) (S1) := by
  refine Ans.of (by rw [ml_316]; exact Nat.le_of_ble_eq_true rfl) ?_
  refine Bod.go dc_316_0 rfl ?_
  refine Bod.ic 0 (by decide) dc_316_1 ?_
  refine Bod.put dc_316_2 fr_316_397 (mk_61 _) (Nat.le_of_ble_eq_true rfl) pf_14_31 (st_6131 _ _) (mu_I _ _ _) ?_
  refine Bod.go dc_316_5 rfl ?_
  refine Bod.get dc_316_6 fr_316_129 (mk_61 _) rfl ?_
  refine Bod.go dc_316_9 rfl ?_
  refine Bod.get dc_316_10 fr_316_190 (mk_61 _) rfl ?_
  refine Bod.eqI (nI j) (by first | (simp (disch := omega) only [rI, rIe, rA, rIA, rLA, rJA, rVI, rQI, rVA, rQA, upd_at,  rAI, rLI, rJI, nI_add, pk_sub, kc_0, kc_1, kc_2, kc_3, kc_4, kc_5, reduceIte, Nat.reduceEqDiff, Nat.add_zero, rI_hold, rI_hold, rL_hold, ha, hkd]; done) | (simp (disch := omega) only [rI, rIe, rA, rIA, rLA, rJA, rVI, rQI, rVA, rQA, upd_at,  rAI, rLI, rJI, nI_add, pk_sub, kc_0, kc_1, kc_2, kc_3, kc_4, kc_5, reduceIte, Nat.reduceEqDiff, Nat.add_zero, rI_hold, rI_hold, rL_hold, ha, hkd]; exact congrArg nI (by omega))) ?_
  refine Bod.ialdN j rfl (by omega) (by omega) dc_316_13 (mk_67 _) ?_
  refine Bod.eqI (nI 6) (by first | (simp (disch := omega) only [rI, rIe, rA, rIA, rLA, rJA, rVI, rQI, rVA, rQA, upd_at,  rAI, rLI, rJI, nI_add, pk_sub, kc_0, kc_1, kc_2, kc_3, kc_4, kc_5, reduceIte, Nat.reduceEqDiff, Nat.add_zero, rI_hold, rI_hold, rL_hold, ha, hkd]; done) | (simp (disch := omega) only [rI, rIe, rA, rIA, rLA, rJA, rVI, rQI, rVA, rQA, upd_at,  rAI, rLI, rJI, nI_add, pk_sub, kc_0, kc_1, kc_2, kc_3, kc_4, kc_5, reduceIte, Nat.reduceEqDiff, Nat.add_zero, rI_hold, rI_hold, rL_hold, ha, hkd]; exact congrArg nI (by omega))) ?_
  refine Bod.sw (t := 304) dc_316_14 rfl rfl (by decide +kernel) ?_
  refine Bod.go dc_316_304 rfl ?_
  refine Bod.virt (r := []) dc_316_305 kr_316_202 ⟨Or.inl rfl, ow_299, cl_14⟩ (by rw [np_299]; rfl) (by rw [np_299]; rfl) (ob_of (mk_61 _)) (Nat.le_of_ble_eq_true rfl) (hB  ) ?_
  show Bod _ _ _ _ [_] _ _ _
  exact Bod.retZ dc_316_308 rt_316 (Or.inl rfl)
theorem ra_bad7 {d : Nat} {S : cS} {dp : Nat} {j : Nat} {S1 : cS} (hdp : dp ≤ 12) (ha : sI S 6115 = nI j) (hj : j < 6002) (hkd : sA S 67 j = nI 7) (hB : Ans (d + 8) 299 [.ref 61] (wI 6131 (nI 0) S) (some (.int (nI 0))) S1) : Ans (d + 9) 316 [.ref 61, .int (nI dp)] S (some (.int 0)) (S1) := by
  refine Ans.of (by rw [ml_316]; exact Nat.le_of_ble_eq_true rfl) ?_
  refine Bod.go dc_316_0 rfl ?_
  refine Bod.ic 0 (by decide) dc_316_1 ?_
  refine Bod.put dc_316_2 fr_316_397 (mk_61 _) (Nat.le_of_ble_eq_true rfl) pf_14_31 (st_6131 _ _) (mu_I _ _ _) ?_
  refine Bod.go dc_316_5 rfl ?_
  refine Bod.get dc_316_6 fr_316_129 (mk_61 _) rfl ?_
  refine Bod.go dc_316_9 rfl ?_
  refine Bod.get dc_316_10 fr_316_190 (mk_61 _) rfl ?_
  refine Bod.eqI (nI j) (by first | (simp (disch := omega) only [rI, rIe, rA, rIA, rLA, rJA, rVI, rQI, rVA, rQA, upd_at,  rAI, rLI, rJI, nI_add, pk_sub, kc_0, kc_1, kc_2, kc_3, kc_4, kc_5, reduceIte, Nat.reduceEqDiff, Nat.add_zero, rI_hold, rI_hold, rL_hold, ha, hkd]; done) | (simp (disch := omega) only [rI, rIe, rA, rIA, rLA, rJA, rVI, rQI, rVA, rQA, upd_at,  rAI, rLI, rJI, nI_add, pk_sub, kc_0, kc_1, kc_2, kc_3, kc_4, kc_5, reduceIte, Nat.reduceEqDiff, Nat.add_zero, rI_hold, rI_hold, rL_hold, ha, hkd]; exact congrArg nI (by omega))) ?_
  refine Bod.ialdN j rfl (by omega) (by omega) dc_316_13 (mk_67 _) ?_
  refine Bod.eqI (nI 7) (by first | (simp (disch := omega) only [rI, rIe, rA, rIA, rLA, rJA, rVI, rQI, rVA, rQA, upd_at,  rAI, rLI, rJI, nI_add, pk_sub, kc_0, kc_1, kc_2, kc_3, kc_4, kc_5, reduceIte, Nat.reduceEqDiff, Nat.add_zero, rI_hold, rI_hold, rL_hold, ha, hkd]; done) | (simp (disch := omega) only [rI, rIe, rA, rIA, rLA, rJA, rVI, rQI, rVA, rQA, upd_at,  rAI, rLI, rJI, nI_add, pk_sub, kc_0, kc_1, kc_2, kc_3, kc_4, kc_5, reduceIte, Nat.reduceEqDiff, Nat.add_zero, rI_hold, rI_hold, rL_hold, ha, hkd]; exact congrArg nI (by omega))) ?_
  refine Bod.sw (t := 304) dc_316_14 rfl rfl (by decide +kernel) ?_
  refine Bod.go dc_316_304 rfl ?_
  refine Bod.virt (r := []) dc_316_305 kr_316_202 ⟨Or.inl rfl, ow_299, cl_14⟩ (by rw [np_299]; rfl) (by rw [np_299]; rfl) (ob_of (mk_61 _)) (Nat.le_of_ble_eq_true rfl) (hB  ) ?_
  show Bod _ _ _ _ [_] _ _ _
  exact Bod.retZ dc_316_308 rt_316 (Or.inl rfl)
theorem ra_bad8 {d : Nat} {S : cS} {dp : Nat} {j : Nat} {S1 : cS} (hdp : dp ≤ 12) (ha : sI S 6115 = nI j) (hj : j < 6002) (hkd : sA S 67 j = nI 8) (hB : Ans (d + 8) 299 [.ref 61] (wI 6131 (nI 0) S) (some (.int (nI 0))) S1) : Ans (d + 9) 316 [.ref 61, .int (nI dp)] S (some (.int 0)) (S1) := by
  refine Ans.of (by rw [ml_316]; exact Nat.le_of_ble_eq_true rfl) ?_
  refine Bod.go dc_316_0 rfl ?_
  refine Bod.ic 0 (by decide) dc_316_1 ?_
  refine Bod.put dc_316_2 fr_316_397 (mk_61 _) (Nat.le_of_ble_eq_true rfl) pf_14_31 (st_6131 _ _) (mu_I _ _ _) ?_
  refine Bod.go dc_316_5 rfl ?_
  refine Bod.get dc_316_6 fr_316_129 (mk_61 _) rfl ?_
  refine Bod.go dc_316_9 rfl ?_
  refine Bod.get dc_316_10 fr_316_190 (mk_61 _) rfl ?_
  refine Bod.eqI (nI j) (by first | (simp (disch := omega) only [rI, rIe, rA, rIA, rLA, rJA, rVI, rQI, rVA, rQA, upd_at,  rAI, rLI, rJI, nI_add, pk_sub, kc_0, kc_1, kc_2, kc_3, kc_4, kc_5, reduceIte, Nat.reduceEqDiff, Nat.add_zero, rI_hold, rI_hold, rL_hold, ha, hkd]; done) | (simp (disch := omega) only [rI, rIe, rA, rIA, rLA, rJA, rVI, rQI, rVA, rQA, upd_at,  rAI, rLI, rJI, nI_add, pk_sub, kc_0, kc_1, kc_2, kc_3, kc_4, kc_5, reduceIte, Nat.reduceEqDiff, Nat.add_zero, rI_hold, rI_hold, rL_hold, ha, hkd]; exact congrArg nI (by omega))) ?_
  refine Bod.ialdN j rfl (by omega) (by omega) dc_316_13 (mk_67 _) ?_
  refine Bod.eqI (nI 8) (by first | (simp (disch := omega) only [rI, rIe, rA, rIA, rLA, rJA, rVI, rQI, rVA, rQA, upd_at,  rAI, rLI, rJI, nI_add, pk_sub, kc_0, kc_1, kc_2, kc_3, kc_4, kc_5, reduceIte, Nat.reduceEqDiff, Nat.add_zero, rI_hold, rI_hold, rL_hold, ha, hkd]; done) | (simp (disch := omega) only [rI, rIe, rA, rIA, rLA, rJA, rVI, rQI, rVA, rQA, upd_at,  rAI, rLI, rJI, nI_add, pk_sub, kc_0, kc_1, kc_2, kc_3, kc_4, kc_5, reduceIte, Nat.reduceEqDiff, Nat.add_zero, rI_hold, rI_hold, rL_hold, ha, hkd]; exact congrArg nI (by omega))) ?_
  refine Bod.sw (t := 304) dc_316_14 rfl rfl (by decide +kernel) ?_
  refine Bod.go dc_316_304 rfl ?_
  refine Bod.virt (r := []) dc_316_305 kr_316_202 ⟨Or.inl rfl, ow_299, cl_14⟩ (by rw [np_299]; rfl) (by rw [np_299]; rfl) (ob_of (mk_61 _)) (Nat.le_of_ble_eq_true rfl) (hB  ) ?_
  show Bod _ _ _ _ [_] _ _ _
  exact Bod.retZ dc_316_308 rt_316 (Or.inl rfl)
