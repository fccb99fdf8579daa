/-! WAYS of binding where what nameOfTarget gives may be any int; nameOfTarget itself -/
theorem dc_121_0 : decode (sm_cc 121) 0 = .ok (.iload_n 0, 1) := by decide +kernel
theorem dc_121_1 : decode (sm_cc 121) 1 = .ok (.tableswitch (36) 23 25 #[27, 30, 33], 27) := by decide +kernel
theorem dc_121_28 : decode (sm_cc 121) 28 = .ok (.bipush (27), 2) := by decide +kernel
theorem dc_121_30 : decode (sm_cc 121) 30 = .ok (.ireturn, 1) := by decide +kernel
theorem rt_121 : sm_rt 121 = some .int := by decide +kernel
theorem dc_121_31 : decode (sm_cc 121) 31 = .ok (.bipush (28), 2) := by decide +kernel
theorem dc_121_33 : decode (sm_cc 121) 33 = .ok (.ireturn, 1) := by decide +kernel
theorem dc_121_34 : decode (sm_cc 121) 34 = .ok (.bipush (29), 2) := by decide +kernel
theorem dc_121_36 : decode (sm_cc 121) 36 = .ok (.ireturn, 1) := by decide +kernel
theorem dc_121_37 : decode (sm_cc 121) 37 = .ok (.iconst 0, 1) := by decide +kernel
theorem dc_121_38 : decode (sm_cc 121) 38 = .ok (.ireturn, 1) := by decide +kernel
theorem cNmr_1 {d : Nat} {S : cS} {tg : Nat} {S1 : cS} {rb : Int32} (htg : sI S 4403 = nI tg) (mtg : tg < 2 ^ 20) (b1 : tg ≠ 1) (c1 : Ans (d + 8) 88 [.ref 23, .int ((sI S 4404) + (nI 1))] S (some (.int rb)) S1) : Bod (d + 8) 111 0 [(0, .ref 43)] [] S (some (.int rb)) (S1) := by
  refine Bod.go dc_111_0 rfl ?_
  refine Bod.get dc_111_1 fr_111_15 (mk_43 _) rfl ?_
  refine Bod.go dc_111_4 rfl ?_
  refine Bod.get dc_111_5 fr_111_23 (mk_43 _) rfl ?_
  refine Bod.get dc_111_8 fr_111_195 (mk_44 _) rfl ?_
  refine Bod.go dc_111_11 rfl ?_
  refine Bod.get dc_111_12 fr_111_23 (mk_43 _) rfl ?_
  refine Bod.get dc_111_15 fr_111_173 (mk_44 _) rfl ?_
  refine Bod.eqI (nI tg) (by first | assumption | rfl | exact congrArg nI (by omega) | (simp (disch := omega) only [rI, rIe, rA, rIA, rLA, rJA, rVI, rQI, rVA, rQA, upd_at,  rAI, rLI, rJI, nI_add, pk_sub, kc_0, kc_1, kc_2, kc_3, kc_4, kc_5, reduceIte, Nat.reduceEqDiff, Nat.add_zero, rI_hold, rI_hold, rL_hold, htg]; done)) ?_
  refine Bod.ic 1 (by decide) dc_111_18 ?_
  refine Bod.icT dc_111_19 rfl (k2_ne_T (k_ne tg 1 rfl rfl (by omega) (by omega) (by omega))) ?_
  refine Bod.ic 1 (by decide) dc_111_26 ?_
  refine Bod.go dc_111_27 rfl ?_
  refine Bod.virt (r := []) dc_111_28 kr_111_198 ⟨Or.inr rfl, ow_88, cl_7⟩ (by rw [np_88]; rfl) (by rw [np_88]; rfl) (ob_of (mk_23 _)) (Nat.le_of_ble_eq_true rfl) (c1  ) ?_
  show Bod _ _ _ _ [_] _ _ _
  exact Bod.retI dc_111_31 rt_111
theorem cNmr_2 {d : Nat} {S : cS} {tg : Nat} {S1 : cS} {rb : Int32} (htg : sI S 4403 = nI tg) (mtg : tg < 2 ^ 20) (b1 : tg = 1) (c1 : Ans (d + 8) 88 [.ref 23, .int ((sI S 4404) + (nI 2))] S (some (.int rb)) S1) : Bod (d + 8) 111 0 [(0, .ref 43)] [] S (some (.int rb)) (S1) := by
  refine Bod.go dc_111_0 rfl ?_
  refine Bod.get dc_111_1 fr_111_15 (mk_43 _) rfl ?_
  refine Bod.go dc_111_4 rfl ?_
  refine Bod.get dc_111_5 fr_111_23 (mk_43 _) rfl ?_
  refine Bod.get dc_111_8 fr_111_195 (mk_44 _) rfl ?_
  refine Bod.go dc_111_11 rfl ?_
  refine Bod.get dc_111_12 fr_111_23 (mk_43 _) rfl ?_
  refine Bod.get dc_111_15 fr_111_173 (mk_44 _) rfl ?_
  refine Bod.eqI (nI tg) (by first | assumption | rfl | exact congrArg nI (by omega) | (simp (disch := omega) only [rI, rIe, rA, rIA, rLA, rJA, rVI, rQI, rVA, rQA, upd_at,  rAI, rLI, rJI, nI_add, pk_sub, kc_0, kc_1, kc_2, kc_3, kc_4, kc_5, reduceIte, Nat.reduceEqDiff, Nat.add_zero, rI_hold, rI_hold, rL_hold, htg]; done)) ?_
  refine Bod.ic 1 (by decide) dc_111_18 ?_
  refine Bod.icF dc_111_19 rfl (k2_ne_F (k_eq tg 1 rfl rfl (by omega))) ?_
  refine Bod.ic 2 (by decide) dc_111_22 ?_
  refine Bod.go dc_111_23 rfl ?_
  refine Bod.go dc_111_27 rfl ?_
  refine Bod.virt (r := []) dc_111_28 kr_111_198 ⟨Or.inr rfl, ow_88, cl_7⟩ (by rw [np_88]; rfl) (by rw [np_88]; rfl) (ob_of (mk_23 _)) (Nat.le_of_ble_eq_true rfl) (c1  ) ?_
  show Bod _ _ _ _ [_] _ _ _
  exact Bod.retI dc_111_31 rt_111
theorem cBjr_1 {d : Nat} {S : cS} {top : Nat} {cs : Nat} {S1 : cS} {tk : Nat} {S2 : cS} {a : Nat} {tk1 : Nat} {S3 : cS} {a1 : Nat} {tg : Nat} {S4 : cS} {rb : Int32} {S5 : cS} {S6 : cS} {S7 : cS} {S8 : cS} {a2 : Nat} {S9 : cS} {a3 : Nat} (htop : sI S 2307 = nI top) (mtop : top < 2 ^ 20) (hcs : sI S 2308 = nI cs) (mcs : cs < 2 ^ 20) (c1 : Ans (d + 8) 57 [.ref 44, .int (nI 0)] S none S1) (htk : sI S1 3105 = nI tk) (mtk : tk < 2 ^ 20) (b1 : tk ≠ 19) (ma : a < 2 ^ 20) (c2 : Ans (d + 8) 121 [.int (nI tk)] S1 (some (.int (nI a))) S2) (b2 : a ≠ 0) (htk1 : sI S2 3105 = nI tk1) (mtk1 : tk1 < 2 ^ 20) (ma1 : a1 < 2 ^ 20) (c3 : Ans (d + 8) 121 [.int (nI tk1)] S2 (some (.int (nI a1))) S3) (htg : sI S3 4403 = nI tg) (mtg : tg < 2 ^ 20) (c4 : Ans (d + 8) 111 [.ref 43] S3 (some (.int rb)) S4) (c5 : Ans (d + 8) 110 [.ref 43, .int (nI 18), .int (nI 40), .int (nI 45)] S4 none S5) (c6 : Ans (d + 8) 40 [.ref 31] S5 none S6) (c7 : Ans (d + 8) 57 [.ref 44, .int (nI 0)] S6 none S7) (ma2 : a2 < 2 ^ 20) (c8 : Ans (d + 8) 71 [.ref 23, .int (nI a1)] S7 (some (.int (nI a2))) S8) (b3 : tg ≠ 1) (b4 : tg ≠ 2) (ma3 : a3 < 2 ^ 20) (c9 : Ans (d + 8) 54 [.ref 23, .int (nI 47), .int rb] S8 (some (.int (nI a3))) S9) : Bod (d + 8) 117 0 [(0, .ref 43)] [] S none (S9) := by
  refine Bod.go dc_117_0 rfl ?_
  refine Bod.get dc_117_1 fr_117_9 (mk_43 _) rfl ?_
  refine Bod.get dc_117_4 fr_117_166 (mk_31 _) rfl ?_
  refine Bod.istn dc_117_7 (by rw [ml_117]; exact Nat.le_of_ble_eq_true rfl) ?_
  refine Bod.go dc_117_8 rfl ?_
  refine Bod.get dc_117_9 fr_117_15 (mk_43 _) rfl ?_
  refine Bod.get dc_117_12 fr_117_69 (mk_23 _) rfl ?_
  refine Bod.eqI (nI top) (by first | assumption | rfl | exact congrArg nI (by omega) | (simp (disch := omega) only [rI, rIe, rA, rIA, rLA, rJA, rVI, rQI, rVA, rQA, upd_at,  rAI, rLI, rJI, nI_add, pk_sub, kc_0, kc_1, kc_2, kc_3, kc_4, kc_5, reduceIte, Nat.reduceEqDiff, Nat.add_zero, rI_hold, rI_hold, rL_hold, htop]; done)) ?_
  refine Bod.istn dc_117_15 (by rw [ml_117]; exact Nat.le_of_ble_eq_true rfl) ?_
  refine Bod.go dc_117_16 rfl ?_
  refine Bod.get dc_117_17 fr_117_15 (mk_43 _) rfl ?_
  refine Bod.get dc_117_20 fr_117_52 (mk_23 _) rfl ?_
  refine Bod.eqI (nI cs) (by first | assumption | rfl | exact congrArg nI (by omega) | (simp (disch := omega) only [rI, rIe, rA, rIA, rLA, rJA, rVI, rQI, rVA, rQA, upd_at,  rAI, rLI, rJI, nI_add, pk_sub, kc_0, kc_1, kc_2, kc_3, kc_4, kc_5, reduceIte, Nat.reduceEqDiff, Nat.add_zero, rI_hold, rI_hold, rL_hold, htop, hcs]; done)) ?_
  refine Bod.istn dc_117_23 (by rw [ml_117]; exact Nat.le_of_ble_eq_true rfl) ?_
  refine Bod.go dc_117_24 rfl ?_
  refine Bod.get dc_117_25 fr_117_23 (mk_43 _) rfl ?_
  refine Bod.ic 0 (by decide) dc_117_28 ?_
  refine Bod.virt (r := []) dc_117_29 kr_117_169 ⟨Or.inr rfl, ow_57, cl_1⟩ (by rw [np_57]; rfl) (by rw [np_57]; rfl) (ob_of (mk_44 _)) (Nat.le_of_ble_eq_true rfl) (c1  ) ?_
  show Bod _ _ _ _ [] _ _ _
  refine Bod.go dc_117_32 rfl ?_
  refine Bod.get dc_117_33 fr_117_9 (mk_43 _) rfl ?_
  refine Bod.get dc_117_36 fr_117_79 (mk_31 _) rfl ?_
  refine Bod.eqI (nI tk) (by first | (simp (disch := omega) only [rI, rIe, rA, rIA, rLA, rJA, rVI, rQI, rVA, rQA, upd_at,  rAI, rLI, rJI, nI_add, pk_sub, kc_0, kc_1, kc_2, kc_3, kc_4, kc_5, reduceIte, Nat.reduceEqDiff, Nat.add_zero, rI_hold, rI_hold, rL_hold, htop, hcs, htk]; done) | (simp (disch := omega) only [rI, rIe, rA, rIA, rLA, rJA, rVI, rQI, rVA, rQA, upd_at,  rAI, rLI, rJI, nI_add, pk_sub, kc_0, kc_1, kc_2, kc_3, kc_4, kc_5, reduceIte, Nat.reduceEqDiff, Nat.add_zero, rI_hold, rI_hold, rL_hold, htop, hcs, htk]; exact congrArg nI (by omega))) ?_
  refine Bod.bip 19 (by decide) dc_117_39 ?_
  refine Bod.icT dc_117_41 rfl (k2_ne_T (k_ne tk 19 rfl rfl (by omega) (by omega) (by omega))) ?_
  refine Bod.go dc_117_167 rfl ?_
  refine Bod.get dc_117_168 fr_117_9 (mk_43 _) rfl ?_
  refine Bod.get dc_117_171 fr_117_79 (mk_31 _) rfl ?_
  refine Bod.eqI (nI tk) (by first | (simp (disch := omega) only [rI, rIe, rA, rIA, rLA, rJA, rVI, rQI, rVA, rQA, upd_at,  rAI, rLI, rJI, nI_add, pk_sub, kc_0, kc_1, kc_2, kc_3, kc_4, kc_5, reduceIte, Nat.reduceEqDiff, Nat.add_zero, rI_hold, rI_hold, rL_hold, htop, hcs, htk]; done) | (simp (disch := omega) only [rI, rIe, rA, rIA, rLA, rJA, rVI, rQI, rVA, rQA, upd_at,  rAI, rLI, rJI, nI_add, pk_sub, kc_0, kc_1, kc_2, kc_3, kc_4, kc_5, reduceIte, Nat.reduceEqDiff, Nat.add_zero, rI_hold, rI_hold, rL_hold, htop, hcs, htk]; exact congrArg nI (by omega))) ?_
  refine Bod.stat (r := []) dc_117_174 kr_117_185 (Or.inl rfl) (by rw [np_121]; rfl) (by rw [np_121]; rfl) (by rw [np_121]; exact Nat.le_of_ble_eq_true rfl) (Nat.le_of_ble_eq_true rfl) (c2  ) ?_
  show Bod _ _ _ _ [_] _ _ _
  refine Bod.ifT dc_117_177 rfl (k1_ne_T (k_ne a 0 rfl rfl (by omega) (by omega) (by omega))) ?_
  refine Bod.go dc_117_193 rfl ?_
  refine Bod.get dc_117_194 fr_117_9 (mk_43 _) rfl ?_
  refine Bod.get dc_117_197 fr_117_79 (mk_31 _) rfl ?_
  refine Bod.eqI (nI tk1) (by first | (simp (disch := omega) only [rI, rIe, rA, rIA, rLA, rJA, rVI, rQI, rVA, rQA, upd_at,  rAI, rLI, rJI, nI_add, pk_sub, kc_0, kc_1, kc_2, kc_3, kc_4, kc_5, reduceIte, Nat.reduceEqDiff, Nat.add_zero, rI_hold, rI_hold, rL_hold, htop, hcs, htk, htk1]; done) | (simp (disch := omega) only [rI, rIe, rA, rIA, rLA, rJA, rVI, rQI, rVA, rQA, upd_at,  rAI, rLI, rJI, nI_add, pk_sub, kc_0, kc_1, kc_2, kc_3, kc_4, kc_5, reduceIte, Nat.reduceEqDiff, Nat.add_zero, rI_hold, rI_hold, rL_hold, htop, hcs, htk, htk1]; exact congrArg nI (by omega))) ?_
  refine Bod.stat (r := []) dc_117_200 kr_117_185 (Or.inl rfl) (by rw [np_121]; rfl) (by rw [np_121]; rfl) (by rw [np_121]; exact Nat.le_of_ble_eq_true rfl) (Nat.le_of_ble_eq_true rfl) (c3  ) ?_
  show Bod _ _ _ _ [_] _ _ _
  refine Bod.ist dc_117_203 (by rw [ml_117]; exact Nat.le_of_ble_eq_true rfl) ?_
  refine Bod.go dc_117_205 rfl ?_
  refine Bod.get dc_117_206 fr_117_23 (mk_43 _) rfl ?_
  refine Bod.get dc_117_209 fr_117_173 (mk_44 _) rfl ?_
  refine Bod.eqI (nI tg) (by first | (simp (disch := omega) only [rI, rIe, rA, rIA, rLA, rJA, rVI, rQI, rVA, rQA, upd_at,  rAI, rLI, rJI, nI_add, pk_sub, kc_0, kc_1, kc_2, kc_3, kc_4, kc_5, reduceIte, Nat.reduceEqDiff, Nat.add_zero, rI_hold, rI_hold, rL_hold, htop, hcs, htk, htk1, htg]; done) | (simp (disch := omega) only [rI, rIe, rA, rIA, rLA, rJA, rVI, rQI, rVA, rQA, upd_at,  rAI, rLI, rJI, nI_add, pk_sub, kc_0, kc_1, kc_2, kc_3, kc_4, kc_5, reduceIte, Nat.reduceEqDiff, Nat.add_zero, rI_hold, rI_hold, rL_hold, htop, hcs, htk, htk1, htg]; exact congrArg nI (by omega))) ?_
  refine Bod.ist dc_117_212 (by rw [ml_117]; exact Nat.le_of_ble_eq_true rfl) ?_
  refine Bod.go dc_117_214 rfl ?_
  refine Bod.virt (r := []) dc_117_215 kr_117_188 ⟨Or.inl rfl, ow_111, cl_10⟩ (by rw [np_111]; rfl) (by rw [np_111]; rfl) (ob_of (mk_43 _)) (Nat.le_of_ble_eq_true rfl) (c4  ) ?_
  show Bod _ _ _ _ [_] _ _ _
  refine Bod.ist dc_117_218 (by rw [ml_117]; exact Nat.le_of_ble_eq_true rfl) ?_
  refine Bod.go dc_117_220 rfl ?_
  refine Bod.bip 18 (by decide) dc_117_221 ?_
  refine Bod.bip 40 (by decide) dc_117_223 ?_
  refine Bod.bip 45 (by decide) dc_117_225 ?_
  refine Bod.virt (r := []) dc_117_227 kr_117_182 ⟨Or.inl rfl, ow_110, cl_10⟩ (by rw [np_110]; rfl) (by rw [np_110]; rfl) (ob_of (mk_43 _)) (Nat.le_of_ble_eq_true rfl) (c5  ) ?_
  show Bod _ _ _ _ [] _ _ _
  refine Bod.go dc_117_230 rfl ?_
  refine Bod.get dc_117_231 fr_117_9 (mk_43 _) rfl ?_
  refine Bod.virt (r := []) dc_117_234 kr_117_192 ⟨Or.inr rfl, ow_40, cl_3⟩ (by rw [np_40]; rfl) (by rw [np_40]; rfl) (ob_of (mk_31 _)) (Nat.le_of_ble_eq_true rfl) (c6  ) ?_
  show Bod _ _ _ _ [] _ _ _
  refine Bod.go dc_117_237 rfl ?_
  refine Bod.get dc_117_238 fr_117_23 (mk_43 _) rfl ?_
  refine Bod.ic 0 (by decide) dc_117_241 ?_
  refine Bod.virt (r := []) dc_117_242 kr_117_169 ⟨Or.inr rfl, ow_57, cl_1⟩ (by rw [np_57]; rfl) (by rw [np_57]; rfl) (ob_of (mk_44 _)) (Nat.le_of_ble_eq_true rfl) (c7  ) ?_
  show Bod _ _ _ _ [] _ _ _
  refine Bod.go dc_117_245 rfl ?_
  refine Bod.get dc_117_246 fr_117_15 (mk_43 _) rfl ?_
  refine Bod.go dc_117_249 rfl ?_
  refine Bod.virt (r := []) dc_117_251 kr_117_72 ⟨Or.inr rfl, ow_71, cl_7⟩ (by rw [np_71]; rfl) (by rw [np_71]; rfl) (ob_of (mk_23 _)) (Nat.le_of_ble_eq_true rfl) (c8  ) ?_
  show Bod _ _ _ _ [_] _ _ _
  refine Bod.go dc_117_254 rfl ?_
  refine Bod.go dc_117_255 rfl ?_
  refine Bod.ic 1 (by decide) dc_117_257 ?_
  refine Bod.icT dc_117_258 rfl (k2_ne_T (k_ne tg 1 rfl rfl (by omega) (by omega) (by omega))) ?_
  refine Bod.go dc_117_270 rfl ?_
  refine Bod.ic 2 (by decide) dc_117_272 ?_
  refine Bod.icT dc_117_273 rfl (k2_ne_T (k_ne tg 2 rfl rfl (by omega) (by omega) (by omega))) ?_
  refine Bod.go dc_117_289 rfl ?_
  refine Bod.get dc_117_290 fr_117_15 (mk_43 _) rfl ?_
  refine Bod.bip 47 (by decide) dc_117_293 ?_
  refine Bod.go dc_117_295 rfl ?_
  refine Bod.virt (r := []) dc_117_297 kr_117_116 ⟨Or.inr rfl, ow_54, cl_7⟩ (by rw [np_54]; rfl) (by rw [np_54]; rfl) (ob_of (mk_23 _)) (Nat.le_of_ble_eq_true rfl) (c9  ) ?_
  show Bod _ _ _ _ [_] _ _ _
  refine Bod.go dc_117_300 rfl ?_
  exact Bod.retV dc_117_301 rt_117
theorem cBjr_2 {d : Nat} {S : cS} {top : Nat} {cs : Nat} {S1 : cS} {tk : Nat} {S2 : cS} {a : Nat} {tk1 : Nat} {S3 : cS} {a1 : Nat} {tg : Nat} {S4 : cS} {rb : Int32} {S5 : cS} {S6 : cS} {S7 : cS} {S8 : cS} {a2 : Nat} {S9 : cS} {a3 : Nat} (htop : sI S 2307 = nI top) (mtop : top < 2 ^ 20) (hcs : sI S 2308 = nI cs) (mcs : cs < 2 ^ 20) (c1 : Ans (d + 8) 57 [.ref 44, .int (nI 0)] S none S1) (htk : sI S1 3105 = nI tk) (mtk : tk < 2 ^ 20) (b1 : tk ≠ 19) (ma : a < 2 ^ 20) (c2 : Ans (d + 8) 121 [.int (nI tk)] S1 (some (.int (nI a))) S2) (b2 : a ≠ 0) (htk1 : sI S2 3105 = nI tk1) (mtk1 : tk1 < 2 ^ 20) (ma1 : a1 < 2 ^ 20) (c3 : Ans (d + 8) 121 [.int (nI tk1)] S2 (some (.int (nI a1))) S3) (htg : sI S3 4403 = nI tg) (mtg : tg < 2 ^ 20) (c4 : Ans (d + 8) 111 [.ref 43] S3 (some (.int rb)) S4) (c5 : Ans (d + 8) 110 [.ref 43, .int (nI 18), .int (nI 40), .int (nI 45)] S4 none S5) (c6 : Ans (d + 8) 40 [.ref 31] S5 none S6) (c7 : Ans (d + 8) 57 [.ref 44, .int (nI 0)] S6 none S7) (ma2 : a2 < 2 ^ 20) (c8 : Ans (d + 8) 71 [.ref 23, .int (nI a1)] S7 (some (.int (nI a2))) S8) (b3 : tg ≠ 1) (b4 : tg = 2) (ma3 : a3 < 2 ^ 20) (c9 : Ans (d + 8) 71 [.ref 23, .int (nI 42)] S8 (some (.int (nI a3))) S9) : Bod (d + 8) 117 0 [(0, .ref 43)] [] S none (S9) := by
  refine Bod.go dc_117_0 rfl ?_
  refine Bod.get dc_117_1 fr_117_9 (mk_43 _) rfl ?_
  refine Bod.get dc_117_4 fr_117_166 (mk_31 _) rfl ?_
  refine Bod.istn dc_117_7 (by rw [ml_117]; exact Nat.le_of_ble_eq_true rfl) ?_
  refine Bod.go dc_117_8 rfl ?_
  refine Bod.get dc_117_9 fr_117_15 (mk_43 _) rfl ?_
  refine Bod.get dc_117_12 fr_117_69 (mk_23 _) rfl ?_
  refine Bod.eqI (nI top) (by first | assumption | rfl | exact congrArg nI (by omega) | (simp (disch := omega) only [rI, rIe, rA, rIA, rLA, rJA, rVI, rQI, rVA, rQA, upd_at,  rAI, rLI, rJI, nI_add, pk_sub, kc_0, kc_1, kc_2, kc_3, kc_4, kc_5, reduceIte, Nat.reduceEqDiff, Nat.add_zero, rI_hold, rI_hold, rL_hold, htop]; done)) ?_
  refine Bod.istn dc_117_15 (by rw [ml_117]; exact Nat.le_of_ble_eq_true rfl) ?_
  refine Bod.go dc_117_16 rfl ?_
  refine Bod.get dc_117_17 fr_117_15 (mk_43 _) rfl ?_
  refine Bod.get dc_117_20 fr_117_52 (mk_23 _) rfl ?_
  refine Bod.eqI (nI cs) (by first | assumption | rfl | exact congrArg nI (by omega) | (simp (disch := omega) only [rI, rIe, rA, rIA, rLA, rJA, rVI, rQI, rVA, rQA, upd_at,  rAI, rLI, rJI, nI_add, pk_sub, kc_0, kc_1, kc_2, kc_3, kc_4, kc_5, reduceIte, Nat.reduceEqDiff, Nat.add_zero, rI_hold, rI_hold, rL_hold, htop, hcs]; done)) ?_
  refine Bod.istn dc_117_23 (by rw [ml_117]; exact Nat.le_of_ble_eq_true rfl) ?_
  refine Bod.go dc_117_24 rfl ?_
  refine Bod.get dc_117_25 fr_117_23 (mk_43 _) rfl ?_
  refine Bod.ic 0 (by decide) dc_117_28 ?_
  refine Bod.virt (r := []) dc_117_29 kr_117_169 ⟨Or.inr rfl, ow_57, cl_1⟩ (by rw [np_57]; rfl) (by rw [np_57]; rfl) (ob_of (mk_44 _)) (Nat.le_of_ble_eq_true rfl) (c1  ) ?_
  show Bod _ _ _ _ [] _ _ _
  refine Bod.go dc_117_32 rfl ?_
  refine Bod.get dc_117_33 fr_117_9 (mk_43 _) rfl ?_
  refine Bod.get dc_117_36 fr_117_79 (mk_31 _) rfl ?_
  refine Bod.eqI (nI tk) (by first | (simp (disch := omega) only [rI, rIe, rA, rIA, rLA, rJA, rVI, rQI, rVA, rQA, upd_at,  rAI, rLI, rJI, nI_add, pk_sub, kc_0, kc_1, kc_2, kc_3, kc_4, kc_5, reduceIte, Nat.reduceEqDiff, Nat.add_zero, rI_hold, rI_hold, rL_hold, htop, hcs, htk]; done) | (simp (disch := omega) only [rI, rIe, rA, rIA, rLA, rJA, rVI, rQI, rVA, rQA, upd_at,  rAI, rLI, rJI, nI_add, pk_sub, kc_0, kc_1, kc_2, kc_3, kc_4, kc_5, reduceIte, Nat.reduceEqDiff, Nat.add_zero, rI_hold, rI_hold, rL_hold, htop, hcs, htk]; exact congrArg nI (by omega))) ?_
  refine Bod.bip 19 (by decide) dc_117_39 ?_
  refine Bod.icT dc_117_41 rfl (k2_ne_T (k_ne tk 19 rfl rfl (by omega) (by omega) (by omega))) ?_
  refine Bod.go dc_117_167 rfl ?_
  refine Bod.get dc_117_168 fr_117_9 (mk_43 _) rfl ?_
  refine Bod.get dc_117_171 fr_117_79 (mk_31 _) rfl ?_
  refine Bod.eqI (nI tk) (by first | (simp (disch := omega) only [rI, rIe, rA, rIA, rLA, rJA, rVI, rQI, rVA, rQA, upd_at,  rAI, rLI, rJI, nI_add, pk_sub, kc_0, kc_1, kc_2, kc_3, kc_4, kc_5, reduceIte, Nat.reduceEqDiff, Nat.add_zero, rI_hold, rI_hold, rL_hold, htop, hcs, htk]; done) | (simp (disch := omega) only [rI, rIe, rA, rIA, rLA, rJA, rVI, rQI, rVA, rQA, upd_at,  rAI, rLI, rJI, nI_add, pk_sub, kc_0, kc_1, kc_2, kc_3, kc_4, kc_5, reduceIte, Nat.reduceEqDiff, Nat.add_zero, rI_hold, rI_hold, rL_hold, htop, hcs, htk]; exact congrArg nI (by omega))) ?_
  refine Bod.stat (r := []) dc_117_174 kr_117_185 (Or.inl rfl) (by rw [np_121]; rfl) (by rw [np_121]; rfl) (by rw [np_121]; exact Nat.le_of_ble_eq_true rfl) (Nat.le_of_ble_eq_true rfl) (c2  ) ?_
  show Bod _ _ _ _ [_] _ _ _
  refine Bod.ifT dc_117_177 rfl (k1_ne_T (k_ne a 0 rfl rfl (by omega) (by omega) (by omega))) ?_
  refine Bod.go dc_117_193 rfl ?_
  refine Bod.get dc_117_194 fr_117_9 (mk_43 _) rfl ?_
  refine Bod.get dc_117_197 fr_117_79 (mk_31 _) rfl ?_
  refine Bod.eqI (nI tk1) (by first | (simp (disch := omega) only [rI, rIe, rA, rIA, rLA, rJA, rVI, rQI, rVA, rQA, upd_at,  rAI, rLI, rJI, nI_add, pk_sub, kc_0, kc_1, kc_2, kc_3, kc_4, kc_5, reduceIte, Nat.reduceEqDiff, Nat.add_zero, rI_hold, rI_hold, rL_hold, htop, hcs, htk, htk1]; done) | (simp (disch := omega) only [rI, rIe, rA, rIA, rLA, rJA, rVI, rQI, rVA, rQA, upd_at,  rAI, rLI, rJI, nI_add, pk_sub, kc_0, kc_1, kc_2, kc_3, kc_4, kc_5, reduceIte, Nat.reduceEqDiff, Nat.add_zero, rI_hold, rI_hold, rL_hold, htop, hcs, htk, htk1]; exact congrArg nI (by omega))) ?_
  refine Bod.stat (r := []) dc_117_200 kr_117_185 (Or.inl rfl) (by rw [np_121]; rfl) (by rw [np_121]; rfl) (by rw [np_121]; exact Nat.le_of_ble_eq_true rfl) (Nat.le_of_ble_eq_true rfl) (c3  ) ?_
  show Bod _ _ _ _ [_] _ _ _
  refine Bod.ist dc_117_203 (by rw [ml_117]; exact Nat.le_of_ble_eq_true rfl) ?_
  refine Bod.go dc_117_205 rfl ?_
  refine Bod.get dc_117_206 fr_117_23 (mk_43 _) rfl ?_
  refine Bod.get dc_117_209 fr_117_173 (mk_44 _) rfl ?_
  refine Bod.eqI (nI tg) (by first | (simp (disch := omega) only [rI, rIe, rA, rIA, rLA, rJA, rVI, rQI, rVA, rQA, upd_at,  rAI, rLI, rJI, nI_add, pk_sub, kc_0, kc_1, kc_2, kc_3, kc_4, kc_5, reduceIte, Nat.reduceEqDiff, Nat.add_zero, rI_hold, rI_hold, rL_hold, htop, hcs, htk, htk1, htg]; done) | (simp (disch := omega) only [rI, rIe, rA, rIA, rLA, rJA, rVI, rQI, rVA, rQA, upd_at,  rAI, rLI, rJI, nI_add, pk_sub, kc_0, kc_1, kc_2, kc_3, kc_4, kc_5, reduceIte, Nat.reduceEqDiff, Nat.add_zero, rI_hold, rI_hold, rL_hold, htop, hcs, htk, htk1, htg]; exact congrArg nI (by omega))) ?_
  refine Bod.ist dc_117_212 (by rw [ml_117]; exact Nat.le_of_ble_eq_true rfl) ?_
  refine Bod.go dc_117_214 rfl ?_
  refine Bod.virt (r := []) dc_117_215 kr_117_188 ⟨Or.inl rfl, ow_111, cl_10⟩ (by rw [np_111]; rfl) (by rw [np_111]; rfl) (ob_of (mk_43 _)) (Nat.le_of_ble_eq_true rfl) (c4  ) ?_
  show Bod _ _ _ _ [_] _ _ _
  refine Bod.ist dc_117_218 (by rw [ml_117]; exact Nat.le_of_ble_eq_true rfl) ?_
  refine Bod.go dc_117_220 rfl ?_
  refine Bod.bip 18 (by decide) dc_117_221 ?_
  refine Bod.bip 40 (by decide) dc_117_223 ?_
  refine Bod.bip 45 (by decide) dc_117_225 ?_
  refine Bod.virt (r := []) dc_117_227 kr_117_182 ⟨Or.inl rfl, ow_110, cl_10⟩ (by rw [np_110]; rfl) (by rw [np_110]; rfl) (ob_of (mk_43 _)) (Nat.le_of_ble_eq_true rfl) (c5  ) ?_
  show Bod _ _ _ _ [] _ _ _
  refine Bod.go dc_117_230 rfl ?_
  refine Bod.get dc_117_231 fr_117_9 (mk_43 _) rfl ?_
  refine Bod.virt (r := []) dc_117_234 kr_117_192 ⟨Or.inr rfl, ow_40, cl_3⟩ (by rw [np_40]; rfl) (by rw [np_40]; rfl) (ob_of (mk_31 _)) (Nat.le_of_ble_eq_true rfl) (c6  ) ?_
  show Bod _ _ _ _ [] _ _ _
  refine Bod.go dc_117_237 rfl ?_
  refine Bod.get dc_117_238 fr_117_23 (mk_43 _) rfl ?_
  refine Bod.ic 0 (by decide) dc_117_241 ?_
  refine Bod.virt (r := []) dc_117_242 kr_117_169 ⟨Or.inr rfl, ow_57, cl_1⟩ (by rw [np_57]; rfl) (by rw [np_57]; rfl) (ob_of (mk_44 _)) (Nat.le_of_ble_eq_true rfl) (c7  ) ?_
  show Bod _ _ _ _ [] _ _ _
  refine Bod.go dc_117_245 rfl ?_
  refine Bod.get dc_117_246 fr_117_15 (mk_43 _) rfl ?_
  refine Bod.go dc_117_249 rfl ?_
  refine Bod.virt (r := []) dc_117_251 kr_117_72 ⟨Or.inr rfl, ow_71, cl_7⟩ (by rw [np_71]; rfl) (by rw [np_71]; rfl) (ob_of (mk_23 _)) (Nat.le_of_ble_eq_true rfl) (c8  ) ?_
  show Bod _ _ _ _ [_] _ _ _
  refine Bod.go dc_117_254 rfl ?_
  refine Bod.go dc_117_255 rfl ?_
  refine Bod.ic 1 (by decide) dc_117_257 ?_
  refine Bod.icT dc_117_258 rfl (k2_ne_T (k_ne tg 1 rfl rfl (by omega) (by omega) (by omega))) ?_
  refine Bod.go dc_117_270 rfl ?_
  refine Bod.ic 2 (by decide) dc_117_272 ?_
  refine Bod.icF dc_117_273 rfl (k2_ne_F (k_eq tg 2 rfl rfl (by omega))) ?_
  refine Bod.go dc_117_276 rfl ?_
  refine Bod.get dc_117_277 fr_117_15 (mk_43 _) rfl ?_
  refine Bod.bip 42 (by decide) dc_117_280 ?_
  refine Bod.virt (r := []) dc_117_282 kr_117_72 ⟨Or.inr rfl, ow_71, cl_7⟩ (by rw [np_71]; rfl) (by rw [np_71]; rfl) (ob_of (mk_23 _)) (Nat.le_of_ble_eq_true rfl) (c9  ) ?_
  show Bod _ _ _ _ [_] _ _ _
  refine Bod.go dc_117_285 rfl ?_
  refine Bod.go dc_117_286 rfl ?_
  exact Bod.retV dc_117_301 rt_117
theorem cBjr_3 {d : Nat} {S : cS} {top : Nat} {cs : Nat} {S1 : cS} {tk : Nat} {S2 : cS} {a : Nat} {tk1 : Nat} {S3 : cS} {a1 : Nat} {tg : Nat} {S4 : cS} {rb : Int32} {S5 : cS} {S6 : cS} {S7 : cS} {S8 : cS} {a2 : Nat} {S9 : cS} (htop : sI S 2307 = nI top) (mtop : top < 2 ^ 20) (hcs : sI S 2308 = nI cs) (mcs : cs < 2 ^ 20) (c1 : Ans (d + 8) 57 [.ref 44, .int (nI 0)] S none S1) (htk : sI S1 3105 = nI tk) (mtk : tk < 2 ^ 20) (b1 : tk ≠ 19) (ma : a < 2 ^ 20) (c2 : Ans (d + 8) 121 [.int (nI tk)] S1 (some (.int (nI a))) S2) (b2 : a ≠ 0) (htk1 : sI S2 3105 = nI tk1) (mtk1 : tk1 < 2 ^ 20) (ma1 : a1 < 2 ^ 20) (c3 : Ans (d + 8) 121 [.int (nI tk1)] S2 (some (.int (nI a1))) S3) (htg : sI S3 4403 = nI tg) (mtg : tg < 2 ^ 20) (c4 : Ans (d + 8) 111 [.ref 43] S3 (some (.int rb)) S4) (c5 : Ans (d + 8) 110 [.ref 43, .int (nI 18), .int (nI 40), .int (nI 45)] S4 none S5) (c6 : Ans (d + 8) 40 [.ref 31] S5 none S6) (c7 : Ans (d + 8) 57 [.ref 44, .int (nI 0)] S6 none S7) (ma2 : a2 < 2 ^ 20) (c8 : Ans (d + 8) 71 [.ref 23, .int (nI a1)] S7 (some (.int (nI a2))) S8) (b3 : tg = 1) (c9 : Ans (d + 8) 93 [.ref 43, .int rb] S8 none S9) : Bod (d + 8) 117 0 [(0, .ref 43)] [] S none (S9) := by
  refine Bod.go dc_117_0 rfl ?_
  refine Bod.get dc_117_1 fr_117_9 (mk_43 _) rfl ?_
  refine Bod.get dc_117_4 fr_117_166 (mk_31 _) rfl ?_
  refine Bod.istn dc_117_7 (by rw [ml_117]; exact Nat.le_of_ble_eq_true rfl) ?_
  refine Bod.go dc_117_8 rfl ?_
  refine Bod.get dc_117_9 fr_117_15 (mk_43 _) rfl ?_
  refine Bod.get dc_117_12 fr_117_69 (mk_23 _) rfl ?_
  refine Bod.eqI (nI top) (by first | assumption | rfl | exact congrArg nI (by omega) | (simp (disch := omega) only [rI, rIe, rA, rIA, rLA, rJA, rVI, rQI, rVA, rQA, upd_at,  rAI, rLI, rJI, nI_add, pk_sub, kc_0, kc_1, kc_2, kc_3, kc_4, kc_5, reduceIte, Nat.reduceEqDiff, Nat.add_zero, rI_hold, rI_hold, rL_hold, htop]; done)) ?_
  refine Bod.istn dc_117_15 (by rw [ml_117]; exact Nat.le_of_ble_eq_true rfl) ?_
  refine Bod.go dc_117_16 rfl ?_
  refine Bod.get dc_117_17 fr_117_15 (mk_43 _) rfl ?_
  refine Bod.get dc_117_20 fr_117_52 (mk_23 _) rfl ?_
  refine Bod.eqI (nI cs) (by first | assumption | rfl | exact congrArg nI (by omega) | (simp (disch := omega) only [rI, rIe, rA, rIA, rLA, rJA, rVI, rQI, rVA, rQA, upd_at,  rAI, rLI, rJI, nI_add, pk_sub, kc_0, kc_1, kc_2, kc_3, kc_4, kc_5, reduceIte, Nat.reduceEqDiff, Nat.add_zero, rI_hold, rI_hold, rL_hold, htop, hcs]; done)) ?_
  refine Bod.istn dc_117_23 (by rw [ml_117]; exact Nat.le_of_ble_eq_true rfl) ?_
  refine Bod.go dc_117_24 rfl ?_
  refine Bod.get dc_117_25 fr_117_23 (mk_43 _) rfl ?_
  refine Bod.ic 0 (by decide) dc_117_28 ?_
  refine Bod.virt (r := []) dc_117_29 kr_117_169 ⟨Or.inr rfl, ow_57, cl_1⟩ (by rw [np_57]; rfl) (by rw [np_57]; rfl) (ob_of (mk_44 _)) (Nat.le_of_ble_eq_true rfl) (c1  ) ?_
  show Bod _ _ _ _ [] _ _ _
  refine Bod.go dc_117_32 rfl ?_
  refine Bod.get dc_117_33 fr_117_9 (mk_43 _) rfl ?_
  refine Bod.get dc_117_36 fr_117_79 (mk_31 _) rfl ?_
  refine Bod.eqI (nI tk) (by first | (simp (disch := omega) only [rI, rIe, rA, rIA, rLA, rJA, rVI, rQI, rVA, rQA, upd_at,  rAI, rLI, rJI, nI_add, pk_sub, kc_0, kc_1, kc_2, kc_3, kc_4, kc_5, reduceIte, Nat.reduceEqDiff, Nat.add_zero, rI_hold, rI_hold, rL_hold, htop, hcs, htk]; done) | (simp (disch := omega) only [rI, rIe, rA, rIA, rLA, rJA, rVI, rQI, rVA, rQA, upd_at,  rAI, rLI, rJI, nI_add, pk_sub, kc_0, kc_1, kc_2, kc_3, kc_4, kc_5, reduceIte, Nat.reduceEqDiff, Nat.add_zero, rI_hold, rI_hold, rL_hold, htop, hcs, htk]; exact congrArg nI (by omega))) ?_
  refine Bod.bip 19 (by decide) dc_117_39 ?_
  refine Bod.icT dc_117_41 rfl (k2_ne_T (k_ne tk 19 rfl rfl (by omega) (by omega) (by omega))) ?_
  refine Bod.go dc_117_167 rfl ?_
  refine Bod.get dc_117_168 fr_117_9 (mk_43 _) rfl ?_
  refine Bod.get dc_117_171 fr_117_79 (mk_31 _) rfl ?_
  refine Bod.eqI (nI tk) (by first | (simp (disch := omega) only [rI, rIe, rA, rIA, rLA, rJA, rVI, rQI, rVA, rQA, upd_at,  rAI, rLI, rJI, nI_add, pk_sub, kc_0, kc_1, kc_2, kc_3, kc_4, kc_5, reduceIte, Nat.reduceEqDiff, Nat.add_zero, rI_hold, rI_hold, rL_hold, htop, hcs, htk]; done) | (simp (disch := omega) only [rI, rIe, rA, rIA, rLA, rJA, rVI, rQI, rVA, rQA, upd_at,  rAI, rLI, rJI, nI_add, pk_sub, kc_0, kc_1, kc_2, kc_3, kc_4, kc_5, reduceIte, Nat.reduceEqDiff, Nat.add_zero, rI_hold, rI_hold, rL_hold, htop, hcs, htk]; exact congrArg nI (by omega))) ?_
  refine Bod.stat (r := []) dc_117_174 kr_117_185 (Or.inl rfl) (by rw [np_121]; rfl) (by rw [np_121]; rfl) (by rw [np_121]; exact Nat.le_of_ble_eq_true rfl) (Nat.le_of_ble_eq_true rfl) (c2  ) ?_
  show Bod _ _ _ _ [_] _ _ _
  refine Bod.ifT dc_117_177 rfl (k1_ne_T (k_ne a 0 rfl rfl (by omega) (by omega) (by omega))) ?_
  refine Bod.go dc_117_193 rfl ?_
  refine Bod.get dc_117_194 fr_117_9 (mk_43 _) rfl ?_
  refine Bod.get dc_117_197 fr_117_79 (mk_31 _) rfl ?_
  refine Bod.eqI (nI tk1) (by first | (simp (disch := omega) only [rI, rIe, rA, rIA, rLA, rJA, rVI, rQI, rVA, rQA, upd_at,  rAI, rLI, rJI, nI_add, pk_sub, kc_0, kc_1, kc_2, kc_3, kc_4, kc_5, reduceIte, Nat.reduceEqDiff, Nat.add_zero, rI_hold, rI_hold, rL_hold, htop, hcs, htk, htk1]; done) | (simp (disch := omega) only [rI, rIe, rA, rIA, rLA, rJA, rVI, rQI, rVA, rQA, upd_at,  rAI, rLI, rJI, nI_add, pk_sub, kc_0, kc_1, kc_2, kc_3, kc_4, kc_5, reduceIte, Nat.reduceEqDiff, Nat.add_zero, rI_hold, rI_hold, rL_hold, htop, hcs, htk, htk1]; exact congrArg nI (by omega))) ?_
  refine Bod.stat (r := []) dc_117_200 kr_117_185 (Or.inl rfl) (by rw [np_121]; rfl) (by rw [np_121]; rfl) (by rw [np_121]; exact Nat.le_of_ble_eq_true rfl) (Nat.le_of_ble_eq_true rfl) (c3  ) ?_
  show Bod _ _ _ _ [_] _ _ _
  refine Bod.ist dc_117_203 (by rw [ml_117]; exact Nat.le_of_ble_eq_true rfl) ?_
  refine Bod.go dc_117_205 rfl ?_
  refine Bod.get dc_117_206 fr_117_23 (mk_43 _) rfl ?_
  refine Bod.get dc_117_209 fr_117_173 (mk_44 _) rfl ?_
  refine Bod.eqI (nI tg) (by first | (simp (disch := omega) only [rI, rIe, rA, rIA, rLA, rJA, rVI, rQI, rVA, rQA, upd_at,  rAI, rLI, rJI, nI_add, pk_sub, kc_0, kc_1, kc_2, kc_3, kc_4, kc_5, reduceIte, Nat.reduceEqDiff, Nat.add_zero, rI_hold, rI_hold, rL_hold, htop, hcs, htk, htk1, htg]; done) | (simp (disch := omega) only [rI, rIe, rA, rIA, rLA, rJA, rVI, rQI, rVA, rQA, upd_at,  rAI, rLI, rJI, nI_add, pk_sub, kc_0, kc_1, kc_2, kc_3, kc_4, kc_5, reduceIte, Nat.reduceEqDiff, Nat.add_zero, rI_hold, rI_hold, rL_hold, htop, hcs, htk, htk1, htg]; exact congrArg nI (by omega))) ?_
  refine Bod.ist dc_117_212 (by rw [ml_117]; exact Nat.le_of_ble_eq_true rfl) ?_
  refine Bod.go dc_117_214 rfl ?_
  refine Bod.virt (r := []) dc_117_215 kr_117_188 ⟨Or.inl rfl, ow_111, cl_10⟩ (by rw [np_111]; rfl) (by rw [np_111]; rfl) (ob_of (mk_43 _)) (Nat.le_of_ble_eq_true rfl) (c4  ) ?_
  show Bod _ _ _ _ [_] _ _ _
  refine Bod.ist dc_117_218 (by rw [ml_117]; exact Nat.le_of_ble_eq_true rfl) ?_
  refine Bod.go dc_117_220 rfl ?_
  refine Bod.bip 18 (by decide) dc_117_221 ?_
  refine Bod.bip 40 (by decide) dc_117_223 ?_
  refine Bod.bip 45 (by decide) dc_117_225 ?_
  refine Bod.virt (r := []) dc_117_227 kr_117_182 ⟨Or.inl rfl, ow_110, cl_10⟩ (by rw [np_110]; rfl) (by rw [np_110]; rfl) (ob_of (mk_43 _)) (Nat.le_of_ble_eq_true rfl) (c5  ) ?_
  show Bod _ _ _ _ [] _ _ _
  refine Bod.go dc_117_230 rfl ?_
  refine Bod.get dc_117_231 fr_117_9 (mk_43 _) rfl ?_
  refine Bod.virt (r := []) dc_117_234 kr_117_192 ⟨Or.inr rfl, ow_40, cl_3⟩ (by rw [np_40]; rfl) (by rw [np_40]; rfl) (ob_of (mk_31 _)) (Nat.le_of_ble_eq_true rfl) (c6  ) ?_
  show Bod _ _ _ _ [] _ _ _
  refine Bod.go dc_117_237 rfl ?_
  refine Bod.get dc_117_238 fr_117_23 (mk_43 _) rfl ?_
  refine Bod.ic 0 (by decide) dc_117_241 ?_
  refine Bod.virt (r := []) dc_117_242 kr_117_169 ⟨Or.inr rfl, ow_57, cl_1⟩ (by rw [np_57]; rfl) (by rw [np_57]; rfl) (ob_of (mk_44 _)) (Nat.le_of_ble_eq_true rfl) (c7  ) ?_
  show Bod _ _ _ _ [] _ _ _
  refine Bod.go dc_117_245 rfl ?_
  refine Bod.get dc_117_246 fr_117_15 (mk_43 _) rfl ?_
  refine Bod.go dc_117_249 rfl ?_
  refine Bod.virt (r := []) dc_117_251 kr_117_72 ⟨Or.inr rfl, ow_71, cl_7⟩ (by rw [np_71]; rfl) (by rw [np_71]; rfl) (ob_of (mk_23 _)) (Nat.le_of_ble_eq_true rfl) (c8  ) ?_
  show Bod _ _ _ _ [_] _ _ _
  refine Bod.go dc_117_254 rfl ?_
  refine Bod.go dc_117_255 rfl ?_
  refine Bod.ic 1 (by decide) dc_117_257 ?_
  refine Bod.icF dc_117_258 rfl (k2_ne_F (k_eq tg 1 rfl rfl (by omega))) ?_
  refine Bod.go dc_117_261 rfl ?_
  refine Bod.go dc_117_262 rfl ?_
  refine Bod.virt (r := []) dc_117_264 kr_117_131 ⟨Or.inl rfl, ow_93, cl_10⟩ (by rw [np_93]; rfl) (by rw [np_93]; rfl) (ob_of (mk_43 _)) (Nat.le_of_ble_eq_true rfl) (c9  ) ?_
  show Bod _ _ _ _ [] _ _ _
  refine Bod.go dc_117_267 rfl ?_
  exact Bod.retV dc_117_301 rt_117
theorem cBjr_4 {d : Nat} {S : cS} {top : Nat} {cs : Nat} {S1 : cS} {tk : Nat} {S2 : cS} {a : Nat} {S3 : cS} {a1 : Nat} (htop : sI S 2307 = nI top) (mtop : top < 2 ^ 20) (hcs : sI S 2308 = nI cs) (mcs : cs < 2 ^ 20) (c1 : Ans (d + 8) 57 [.ref 44, .int (nI 0)] S none S1) (htk : sI S1 3105 = nI tk) (mtk : tk < 2 ^ 20) (b1 : tk ≠ 19) (ma : a < 2 ^ 20) (c2 : Ans (d + 8) 121 [.int (nI tk)] S1 (some (.int (nI a))) S2) (b2 : a = 0) (ma1 : a1 < 2 ^ 20) (c3 : Ans (d + 8) 71 [.ref 23, .int (nI 17)] S2 (some (.int (nI a1))) S3) : Bod (d + 8) 117 0 [(0, .ref 43)] [] S none (S3) := by
  refine Bod.go dc_117_0 rfl ?_
  refine Bod.get dc_117_1 fr_117_9 (mk_43 _) rfl ?_
  refine Bod.get dc_117_4 fr_117_166 (mk_31 _) rfl ?_
  refine Bod.istn dc_117_7 (by rw [ml_117]; exact Nat.le_of_ble_eq_true rfl) ?_
  refine Bod.go dc_117_8 rfl ?_
  refine Bod.get dc_117_9 fr_117_15 (mk_43 _) rfl ?_
  refine Bod.get dc_117_12 fr_117_69 (mk_23 _) rfl ?_
  refine Bod.eqI (nI top) (by first | assumption | rfl | exact congrArg nI (by omega) | (simp (disch := omega) only [rI, rIe, rA, rIA, rLA, rJA, rVI, rQI, rVA, rQA, upd_at,  rAI, rLI, rJI, nI_add, pk_sub, kc_0, kc_1, kc_2, kc_3, kc_4, kc_5, reduceIte, Nat.reduceEqDiff, Nat.add_zero, rI_hold, rI_hold, rL_hold, htop]; done)) ?_
  refine Bod.istn dc_117_15 (by rw [ml_117]; exact Nat.le_of_ble_eq_true rfl) ?_
  refine Bod.go dc_117_16 rfl ?_
  refine Bod.get dc_117_17 fr_117_15 (mk_43 _) rfl ?_
  refine Bod.get dc_117_20 fr_117_52 (mk_23 _) rfl ?_
  refine Bod.eqI (nI cs) (by first | assumption | rfl | exact congrArg nI (by omega) | (simp (disch := omega) only [rI, rIe, rA, rIA, rLA, rJA, rVI, rQI, rVA, rQA, upd_at,  rAI, rLI, rJI, nI_add, pk_sub, kc_0, kc_1, kc_2, kc_3, kc_4, kc_5, reduceIte, Nat.reduceEqDiff, Nat.add_zero, rI_hold, rI_hold, rL_hold, htop, hcs]; done)) ?_
  refine Bod.istn dc_117_23 (by rw [ml_117]; exact Nat.le_of_ble_eq_true rfl) ?_
  refine Bod.go dc_117_24 rfl ?_
  refine Bod.get dc_117_25 fr_117_23 (mk_43 _) rfl ?_
  refine Bod.ic 0 (by decide) dc_117_28 ?_
  refine Bod.virt (r := []) dc_117_29 kr_117_169 ⟨Or.inr rfl, ow_57, cl_1⟩ (by rw [np_57]; rfl) (by rw [np_57]; rfl) (ob_of (mk_44 _)) (Nat.le_of_ble_eq_true rfl) (c1  ) ?_
  show Bod _ _ _ _ [] _ _ _
  refine Bod.go dc_117_32 rfl ?_
  refine Bod.get dc_117_33 fr_117_9 (mk_43 _) rfl ?_
  refine Bod.get dc_117_36 fr_117_79 (mk_31 _) rfl ?_
  refine Bod.eqI (nI tk) (by first | (simp (disch := omega) only [rI, rIe, rA, rIA, rLA, rJA, rVI, rQI, rVA, rQA, upd_at,  rAI, rLI, rJI, nI_add, pk_sub, kc_0, kc_1, kc_2, kc_3, kc_4, kc_5, reduceIte, Nat.reduceEqDiff, Nat.add_zero, rI_hold, rI_hold, rL_hold, htop, hcs, htk]; done) | (simp (disch := omega) only [rI, rIe, rA, rIA, rLA, rJA, rVI, rQI, rVA, rQA, upd_at,  rAI, rLI, rJI, nI_add, pk_sub, kc_0, kc_1, kc_2, kc_3, kc_4, kc_5, reduceIte, Nat.reduceEqDiff, Nat.add_zero, rI_hold, rI_hold, rL_hold, htop, hcs, htk]; exact congrArg nI (by omega))) ?_
  refine Bod.bip 19 (by decide) dc_117_39 ?_
  refine Bod.icT dc_117_41 rfl (k2_ne_T (k_ne tk 19 rfl rfl (by omega) (by omega) (by omega))) ?_
  refine Bod.go dc_117_167 rfl ?_
  refine Bod.get dc_117_168 fr_117_9 (mk_43 _) rfl ?_
  refine Bod.get dc_117_171 fr_117_79 (mk_31 _) rfl ?_
  refine Bod.eqI (nI tk) (by first | (simp (disch := omega) only [rI, rIe, rA, rIA, rLA, rJA, rVI, rQI, rVA, rQA, upd_at,  rAI, rLI, rJI, nI_add, pk_sub, kc_0, kc_1, kc_2, kc_3, kc_4, kc_5, reduceIte, Nat.reduceEqDiff, Nat.add_zero, rI_hold, rI_hold, rL_hold, htop, hcs, htk]; done) | (simp (disch := omega) only [rI, rIe, rA, rIA, rLA, rJA, rVI, rQI, rVA, rQA, upd_at,  rAI, rLI, rJI, nI_add, pk_sub, kc_0, kc_1, kc_2, kc_3, kc_4, kc_5, reduceIte, Nat.reduceEqDiff, Nat.add_zero, rI_hold, rI_hold, rL_hold, htop, hcs, htk]; exact congrArg nI (by omega))) ?_
  refine Bod.stat (r := []) dc_117_174 kr_117_185 (Or.inl rfl) (by rw [np_121]; rfl) (by rw [np_121]; rfl) (by rw [np_121]; exact Nat.le_of_ble_eq_true rfl) (Nat.le_of_ble_eq_true rfl) (c2  ) ?_
  show Bod _ _ _ _ [_] _ _ _
  refine Bod.ifF dc_117_177 rfl (k1_ne_F (k_eq a 0 rfl rfl (by omega))) ?_
  refine Bod.go dc_117_180 rfl ?_
  refine Bod.get dc_117_181 fr_117_15 (mk_43 _) rfl ?_
  refine Bod.bip 17 (by decide) dc_117_184 ?_
  refine Bod.virt (r := []) dc_117_186 kr_117_72 ⟨Or.inr rfl, ow_71, cl_7⟩ (by rw [np_71]; rfl) (by rw [np_71]; rfl) (ob_of (mk_23 _)) (Nat.le_of_ble_eq_true rfl) (c3  ) ?_
  show Bod _ _ _ _ [_] _ _ _
  refine Bod.go dc_117_189 rfl ?_
  refine Bod.go dc_117_190 rfl ?_
  exact Bod.retV dc_117_301 rt_117
theorem cBjr_5 {d : Nat} {S : cS} {top : Nat} {cs : Nat} {S1 : cS} {tk : Nat} {tg : Nat} {fs : Nat} {S2 : cS} {S3 : cS} {S4 : cS} {S5 : cS} {tk1 : Nat} {S6 : cS} {S7 : cS} {S8 : cS} {S9 : cS} (htop : sI S 2307 = nI top) (mtop : top < 2 ^ 20) (hcs : sI S 2308 = nI cs) (mcs : cs < 2 ^ 20) (c1 : Ans (d + 8) 57 [.ref 44, .int (nI 0)] S none S1) (htk : sI S1 3105 = nI tk) (mtk : tk < 2 ^ 20) (b1 : tk = 19) (htg : sI S1 4403 = nI tg) (mtg : tg < 2 ^ 20) (b2 : tg ≠ 0) (hfs : sI S1 2309 = nI fs) (mfs : fs < 2 ^ 20) (c2 : Ans (d + 8) 118 [.ref 23, .int (nI top), .int (nI cs), .int (nI fs)] S1 none S2) (c3 : Ans (d + 8) 119 [.ref 32, .int (nI top)] S2 none S3) (c4 : Ans (d + 8) 75 [.ref 31, .int (nI 19)] S3 none S4) (c5 : Ans (d + 8) 57 [.ref 44, .int (nI 0)] S4 none S5) (htk1 : sI S5 3105 = nI tk1) (mtk1 : tk1 < 2 ^ 20) (b3 : tk1 = 2) (c6 : Ans (d + 8) 120 [.ref 31, .int (sI S 3104)] S5 none S6) (c7 : Ans (d + 8) 57 [.ref 44, .int (nI 0)] S6 none S7) (c8 : Ans (d + 8) 110 [.ref 43, .int (nI 19), .int (nI 41), .int (nI 46)] S7 none S8) (c9 : Ans (d + 8) 120 [.ref 31, .int (sI S5 3104)] S8 none S9) : Bod (d + 8) 117 0 [(0, .ref 43)] [] S none (S9) := by
  refine Bod.go dc_117_0 rfl ?_
  refine Bod.get dc_117_1 fr_117_9 (mk_43 _) rfl ?_
  refine Bod.get dc_117_4 fr_117_166 (mk_31 _) rfl ?_
  refine Bod.istn dc_117_7 (by rw [ml_117]; exact Nat.le_of_ble_eq_true rfl) ?_
  refine Bod.go dc_117_8 rfl ?_
  refine Bod.get dc_117_9 fr_117_15 (mk_43 _) rfl ?_
  refine Bod.get dc_117_12 fr_117_69 (mk_23 _) rfl ?_
  refine Bod.eqI (nI top) (by first | assumption | rfl | exact congrArg nI (by omega) | (simp (disch := omega) only [rI, rIe, rA, rIA, rLA, rJA, rVI, rQI, rVA, rQA, upd_at,  rAI, rLI, rJI, nI_add, pk_sub, kc_0, kc_1, kc_2, kc_3, kc_4, kc_5, reduceIte, Nat.reduceEqDiff, Nat.add_zero, rI_hold, rI_hold, rL_hold, htop]; done)) ?_
  refine Bod.istn dc_117_15 (by rw [ml_117]; exact Nat.le_of_ble_eq_true rfl) ?_
  refine Bod.go dc_117_16 rfl ?_
  refine Bod.get dc_117_17 fr_117_15 (mk_43 _) rfl ?_
  refine Bod.get dc_117_20 fr_117_52 (mk_23 _) rfl ?_
  refine Bod.eqI (nI cs) (by first | assumption | rfl | exact congrArg nI (by omega) | (simp (disch := omega) only [rI, rIe, rA, rIA, rLA, rJA, rVI, rQI, rVA, rQA, upd_at,  rAI, rLI, rJI, nI_add, pk_sub, kc_0, kc_1, kc_2, kc_3, kc_4, kc_5, reduceIte, Nat.reduceEqDiff, Nat.add_zero, rI_hold, rI_hold, rL_hold, htop, hcs]; done)) ?_
  refine Bod.istn dc_117_23 (by rw [ml_117]; exact Nat.le_of_ble_eq_true rfl) ?_
  refine Bod.go dc_117_24 rfl ?_
  refine Bod.get dc_117_25 fr_117_23 (mk_43 _) rfl ?_
  refine Bod.ic 0 (by decide) dc_117_28 ?_
  refine Bod.virt (r := []) dc_117_29 kr_117_169 ⟨Or.inr rfl, ow_57, cl_1⟩ (by rw [np_57]; rfl) (by rw [np_57]; rfl) (ob_of (mk_44 _)) (Nat.le_of_ble_eq_true rfl) (c1  ) ?_
  show Bod _ _ _ _ [] _ _ _
  refine Bod.go dc_117_32 rfl ?_
  refine Bod.get dc_117_33 fr_117_9 (mk_43 _) rfl ?_
  refine Bod.get dc_117_36 fr_117_79 (mk_31 _) rfl ?_
  refine Bod.eqI (nI tk) (by first | (simp (disch := omega) only [rI, rIe, rA, rIA, rLA, rJA, rVI, rQI, rVA, rQA, upd_at,  rAI, rLI, rJI, nI_add, pk_sub, kc_0, kc_1, kc_2, kc_3, kc_4, kc_5, reduceIte, Nat.reduceEqDiff, Nat.add_zero, rI_hold, rI_hold, rL_hold, htop, hcs, htk]; done) | (simp (disch := omega) only [rI, rIe, rA, rIA, rLA, rJA, rVI, rQI, rVA, rQA, upd_at,  rAI, rLI, rJI, nI_add, pk_sub, kc_0, kc_1, kc_2, kc_3, kc_4, kc_5, reduceIte, Nat.reduceEqDiff, Nat.add_zero, rI_hold, rI_hold, rL_hold, htop, hcs, htk]; exact congrArg nI (by omega))) ?_
  refine Bod.bip 19 (by decide) dc_117_39 ?_
  refine Bod.icF dc_117_41 rfl (k2_ne_F (k_eq tk 19 rfl rfl (by omega))) ?_
  refine Bod.go dc_117_44 rfl ?_
  refine Bod.get dc_117_45 fr_117_23 (mk_43 _) rfl ?_
  refine Bod.get dc_117_48 fr_117_173 (mk_44 _) rfl ?_
  refine Bod.eqI (nI tg) (by first | (simp (disch := omega) only [rI, rIe, rA, rIA, rLA, rJA, rVI, rQI, rVA, rQA, upd_at,  rAI, rLI, rJI, nI_add, pk_sub, kc_0, kc_1, kc_2, kc_3, kc_4, kc_5, reduceIte, Nat.reduceEqDiff, Nat.add_zero, rI_hold, rI_hold, rL_hold, htop, hcs, htk, htg]; done) | (simp (disch := omega) only [rI, rIe, rA, rIA, rLA, rJA, rVI, rQI, rVA, rQA, upd_at,  rAI, rLI, rJI, nI_add, pk_sub, kc_0, kc_1, kc_2, kc_3, kc_4, kc_5, reduceIte, Nat.reduceEqDiff, Nat.add_zero, rI_hold, rI_hold, rL_hold, htop, hcs, htk, htg]; exact congrArg nI (by omega))) ?_
  refine Bod.ifT dc_117_51 rfl (k1_ne_T (k_ne tg 0 rfl rfl (by omega) (by omega) (by omega))) ?_
  refine Bod.go dc_117_61 rfl ?_
  refine Bod.get dc_117_62 fr_117_15 (mk_43 _) rfl ?_
  refine Bod.go dc_117_65 rfl ?_
  refine Bod.go dc_117_66 rfl ?_
  refine Bod.go dc_117_67 rfl ?_
  refine Bod.get dc_117_68 fr_117_15 (mk_43 _) rfl ?_
  refine Bod.get dc_117_71 fr_117_58 (mk_23 _) rfl ?_
  refine Bod.eqI (nI fs) (by first | (simp (disch := omega) only [rI, rIe, rA, rIA, rLA, rJA, rVI, rQI, rVA, rQA, upd_at,  rAI, rLI, rJI, nI_add, pk_sub, kc_0, kc_1, kc_2, kc_3, kc_4, kc_5, reduceIte, Nat.reduceEqDiff, Nat.add_zero, rI_hold, rI_hold, rL_hold, htop, hcs, htk, htg, hfs]; done) | (simp (disch := omega) only [rI, rIe, rA, rIA, rLA, rJA, rVI, rQI, rVA, rQA, upd_at,  rAI, rLI, rJI, nI_add, pk_sub, kc_0, kc_1, kc_2, kc_3, kc_4, kc_5, reduceIte, Nat.reduceEqDiff, Nat.add_zero, rI_hold, rI_hold, rL_hold, htop, hcs, htk, htg, hfs]; exact congrArg nI (by omega))) ?_
  refine Bod.virt (r := []) dc_117_74 kr_117_85 ⟨Or.inr rfl, ow_118, cl_7⟩ (by rw [np_118]; rfl) (by rw [np_118]; rfl) (ob_of (mk_23 _)) (Nat.le_of_ble_eq_true rfl) (c2  ) ?_
  show Bod _ _ _ _ [] _ _ _
  refine Bod.go dc_117_77 rfl ?_
  refine Bod.get dc_117_78 fr_117_19 (mk_43 _) rfl ?_
  refine Bod.go dc_117_81 rfl ?_
  refine Bod.virt (r := []) dc_117_82 kr_117_176 ⟨Or.inr rfl, ow_119, cl_8⟩ (by rw [np_119]; rfl) (by rw [np_119]; rfl) (ob_of (mk_32 _)) (Nat.le_of_ble_eq_true rfl) (c3  ) ?_
  show Bod _ _ _ _ [] _ _ _
  refine Bod.go dc_117_85 rfl ?_
  refine Bod.get dc_117_86 fr_117_9 (mk_43 _) rfl ?_
  refine Bod.bip 19 (by decide) dc_117_89 ?_
  refine Bod.virt (r := []) dc_117_91 kr_117_107 ⟨Or.inr rfl, ow_75, cl_3⟩ (by rw [np_75]; rfl) (by rw [np_75]; rfl) (ob_of (mk_31 _)) (Nat.le_of_ble_eq_true rfl) (c4  ) ?_
  show Bod _ _ _ _ [] _ _ _
  refine Bod.go dc_117_94 rfl ?_
  refine Bod.get dc_117_95 fr_117_23 (mk_43 _) rfl ?_
  refine Bod.ic 0 (by decide) dc_117_98 ?_
  refine Bod.virt (r := []) dc_117_99 kr_117_169 ⟨Or.inr rfl, ow_57, cl_1⟩ (by rw [np_57]; rfl) (by rw [np_57]; rfl) (ob_of (mk_44 _)) (Nat.le_of_ble_eq_true rfl) (c5  ) ?_
  show Bod _ _ _ _ [] _ _ _
  refine Bod.go dc_117_102 rfl ?_
  refine Bod.get dc_117_103 fr_117_9 (mk_43 _) rfl ?_
  refine Bod.get dc_117_106 fr_117_79 (mk_31 _) rfl ?_
  refine Bod.eqI (nI tk1) (by first | (simp (disch := omega) only [rI, rIe, rA, rIA, rLA, rJA, rVI, rQI, rVA, rQA, upd_at,  rAI, rLI, rJI, nI_add, pk_sub, kc_0, kc_1, kc_2, kc_3, kc_4, kc_5, reduceIte, Nat.reduceEqDiff, Nat.add_zero, rI_hold, rI_hold, rL_hold, htop, hcs, htk, htg, hfs, htk1]; done) | (simp (disch := omega) only [rI, rIe, rA, rIA, rLA, rJA, rVI, rQI, rVA, rQA, upd_at,  rAI, rLI, rJI, nI_add, pk_sub, kc_0, kc_1, kc_2, kc_3, kc_4, kc_5, reduceIte, Nat.reduceEqDiff, Nat.add_zero, rI_hold, rI_hold, rL_hold, htop, hcs, htk, htg, hfs, htk1]; exact congrArg nI (by omega))) ?_
  refine Bod.ic 2 (by decide) dc_117_109 ?_
  refine Bod.icT dc_117_110 rfl (k2_eq_T (k_eq tk1 2 rfl rfl (by omega))) ?_
  refine Bod.go dc_117_120 rfl ?_
  refine Bod.get dc_117_121 fr_117_9 (mk_43 _) rfl ?_
  refine Bod.get dc_117_124 fr_117_166 (mk_31 _) rfl ?_
  refine Bod.ist dc_117_127 (by rw [ml_117]; exact Nat.le_of_ble_eq_true rfl) ?_
  refine Bod.go dc_117_129 rfl ?_
  refine Bod.get dc_117_130 fr_117_9 (mk_43 _) rfl ?_
  refine Bod.go dc_117_133 rfl ?_
  refine Bod.virt (r := []) dc_117_134 kr_117_179 ⟨Or.inr rfl, ow_120, cl_3⟩ (by rw [np_120]; rfl) (by rw [np_120]; rfl) (ob_of (mk_31 _)) (Nat.le_of_ble_eq_true rfl) (c6  ) ?_
  show Bod _ _ _ _ [] _ _ _
  refine Bod.go dc_117_137 rfl ?_
  refine Bod.get dc_117_138 fr_117_23 (mk_43 _) rfl ?_
  refine Bod.ic 0 (by decide) dc_117_141 ?_
  refine Bod.virt (r := []) dc_117_142 kr_117_169 ⟨Or.inr rfl, ow_57, cl_1⟩ (by rw [np_57]; rfl) (by rw [np_57]; rfl) (ob_of (mk_44 _)) (Nat.le_of_ble_eq_true rfl) (c7  ) ?_
  show Bod _ _ _ _ [] _ _ _
  refine Bod.go dc_117_145 rfl ?_
  refine Bod.bip 19 (by decide) dc_117_146 ?_
  refine Bod.bip 41 (by decide) dc_117_148 ?_
  refine Bod.bip 46 (by decide) dc_117_150 ?_
  refine Bod.virt (r := []) dc_117_152 kr_117_182 ⟨Or.inl rfl, ow_110, cl_10⟩ (by rw [np_110]; rfl) (by rw [np_110]; rfl) (ob_of (mk_43 _)) (Nat.le_of_ble_eq_true rfl) (c8  ) ?_
  show Bod _ _ _ _ [] _ _ _
  refine Bod.go dc_117_155 rfl ?_
  refine Bod.get dc_117_156 fr_117_9 (mk_43 _) rfl ?_
  refine Bod.go dc_117_159 rfl ?_
  refine Bod.virt (r := []) dc_117_161 kr_117_179 ⟨Or.inr rfl, ow_120, cl_3⟩ (by rw [np_120]; rfl) (by rw [np_120]; rfl) (ob_of (mk_31 _)) (Nat.le_of_ble_eq_true rfl) (c9  ) ?_
  show Bod _ _ _ _ [] _ _ _
  refine Bod.go dc_117_164 rfl ?_
  exact Bod.retV dc_117_301 rt_117
theorem cBjr_6 {d : Nat} {S : cS} {top : Nat} {cs : Nat} {S1 : cS} {tk : Nat} {tg : Nat} {fs : Nat} {S2 : cS} {S3 : cS} {S4 : cS} {S5 : cS} {tk1 : Nat} {S6 : cS} {S7 : cS} {S8 : cS} {S9 : cS} {S10 : cS} (htop : sI S 2307 = nI top) (mtop : top < 2 ^ 20) (hcs : sI S 2308 = nI cs) (mcs : cs < 2 ^ 20) (c1 : Ans (d + 8) 57 [.ref 44, .int (nI 0)] S none S1) (htk : sI S1 3105 = nI tk) (mtk : tk < 2 ^ 20) (b1 : tk = 19) (htg : sI S1 4403 = nI tg) (mtg : tg < 2 ^ 20) (b2 : tg ≠ 0) (hfs : sI S1 2309 = nI fs) (mfs : fs < 2 ^ 20) (c2 : Ans (d + 8) 118 [.ref 23, .int (nI top), .int (nI cs), .int (nI fs)] S1 none S2) (c3 : Ans (d + 8) 119 [.ref 32, .int (nI top)] S2 none S3) (c4 : Ans (d + 8) 75 [.ref 31, .int (nI 19)] S3 none S4) (c5 : Ans (d + 8) 57 [.ref 44, .int (nI 0)] S4 none S5) (htk1 : sI S5 3105 = nI tk1) (mtk1 : tk1 < 2 ^ 20) (b3 : tk1 ≠ 2) (c6 : Ans (d + 8) 44 [.ref 31] S5 none S6) (c7 : Ans (d + 8) 120 [.ref 31, .int (sI S 3104)] S6 none S7) (c8 : Ans (d + 8) 57 [.ref 44, .int (nI 0)] S7 none S8) (c9 : Ans (d + 8) 110 [.ref 43, .int (nI 19), .int (nI 41), .int (nI 46)] S8 none S9) (c10 : Ans (d + 8) 120 [.ref 31, .int (sI S6 3104)] S9 none S10) : Bod (d + 8) 117 0 [(0, .ref 43)] [] S none (S10) := by
  refine Bod.go dc_117_0 rfl ?_
  refine Bod.get dc_117_1 fr_117_9 (mk_43 _) rfl ?_
  refine Bod.get dc_117_4 fr_117_166 (mk_31 _) rfl ?_
  refine Bod.istn dc_117_7 (by rw [ml_117]; exact Nat.le_of_ble_eq_true rfl) ?_
  refine Bod.go dc_117_8 rfl ?_
  refine Bod.get dc_117_9 fr_117_15 (mk_43 _) rfl ?_
  refine Bod.get dc_117_12 fr_117_69 (mk_23 _) rfl ?_
  refine Bod.eqI (nI top) (by first | assumption | rfl | exact congrArg nI (by omega) | (simp (disch := omega) only [rI, rIe, rA, rIA, rLA, rJA, rVI, rQI, rVA, rQA, upd_at,  rAI, rLI, rJI, nI_add, pk_sub, kc_0, kc_1, kc_2, kc_3, kc_4, kc_5, reduceIte, Nat.reduceEqDiff, Nat.add_zero, rI_hold, rI_hold, rL_hold, htop]; done)) ?_
  refine Bod.istn dc_117_15 (by rw [ml_117]; exact Nat.le_of_ble_eq_true rfl) ?_
  refine Bod.go dc_117_16 rfl ?_
  refine Bod.get dc_117_17 fr_117_15 (mk_43 _) rfl ?_
  refine Bod.get dc_117_20 fr_117_52 (mk_23 _) rfl ?_
  refine Bod.eqI (nI cs) (by first | assumption | rfl | exact congrArg nI (by omega) | (simp (disch := omega) only [rI, rIe, rA, rIA, rLA, rJA, rVI, rQI, rVA, rQA, upd_at,  rAI, rLI, rJI, nI_add, pk_sub, kc_0, kc_1, kc_2, kc_3, kc_4, kc_5, reduceIte, Nat.reduceEqDiff, Nat.add_zero, rI_hold, rI_hold, rL_hold, htop, hcs]; done)) ?_
  refine Bod.istn dc_117_23 (by rw [ml_117]; exact Nat.le_of_ble_eq_true rfl) ?_
  refine Bod.go dc_117_24 rfl ?_
  refine Bod.get dc_117_25 fr_117_23 (mk_43 _) rfl ?_
  refine Bod.ic 0 (by decide) dc_117_28 ?_
  refine Bod.virt (r := []) dc_117_29 kr_117_169 ⟨Or.inr rfl, ow_57, cl_1⟩ (by rw [np_57]; rfl) (by rw [np_57]; rfl) (ob_of (mk_44 _)) (Nat.le_of_ble_eq_true rfl) (c1  ) ?_
  show Bod _ _ _ _ [] _ _ _
  refine Bod.go dc_117_32 rfl ?_
  refine Bod.get dc_117_33 fr_117_9 (mk_43 _) rfl ?_
  refine Bod.get dc_117_36 fr_117_79 (mk_31 _) rfl ?_
  refine Bod.eqI (nI tk) (by first | (simp (disch := omega) only [rI, rIe, rA, rIA, rLA, rJA, rVI, rQI, rVA, rQA, upd_at,  rAI, rLI, rJI, nI_add, pk_sub, kc_0, kc_1, kc_2, kc_3, kc_4, kc_5, reduceIte, Nat.reduceEqDiff, Nat.add_zero, rI_hold, rI_hold, rL_hold, htop, hcs, htk]; done) | (simp (disch := omega) only [rI, rIe, rA, rIA, rLA, rJA, rVI, rQI, rVA, rQA, upd_at,  rAI, rLI, rJI, nI_add, pk_sub, kc_0, kc_1, kc_2, kc_3, kc_4, kc_5, reduceIte, Nat.reduceEqDiff, Nat.add_zero, rI_hold, rI_hold, rL_hold, htop, hcs, htk]; exact congrArg nI (by omega))) ?_
  refine Bod.bip 19 (by decide) dc_117_39 ?_
  refine Bod.icF dc_117_41 rfl (k2_ne_F (k_eq tk 19 rfl rfl (by omega))) ?_
  refine Bod.go dc_117_44 rfl ?_
  refine Bod.get dc_117_45 fr_117_23 (mk_43 _) rfl ?_
  refine Bod.get dc_117_48 fr_117_173 (mk_44 _) rfl ?_
  refine Bod.eqI (nI tg) (by first | (simp (disch := omega) only [rI, rIe, rA, rIA, rLA, rJA, rVI, rQI, rVA, rQA, upd_at,  rAI, rLI, rJI, nI_add, pk_sub, kc_0, kc_1, kc_2, kc_3, kc_4, kc_5, reduceIte, Nat.reduceEqDiff, Nat.add_zero, rI_hold, rI_hold, rL_hold, htop, hcs, htk, htg]; done) | (simp (disch := omega) only [rI, rIe, rA, rIA, rLA, rJA, rVI, rQI, rVA, rQA, upd_at,  rAI, rLI, rJI, nI_add, pk_sub, kc_0, kc_1, kc_2, kc_3, kc_4, kc_5, reduceIte, Nat.reduceEqDiff, Nat.add_zero, rI_hold, rI_hold, rL_hold, htop, hcs, htk, htg]; exact congrArg nI (by omega))) ?_
  refine Bod.ifT dc_117_51 rfl (k1_ne_T (k_ne tg 0 rfl rfl (by omega) (by omega) (by omega))) ?_
  refine Bod.go dc_117_61 rfl ?_
  refine Bod.get dc_117_62 fr_117_15 (mk_43 _) rfl ?_
  refine Bod.go dc_117_65 rfl ?_
  refine Bod.go dc_117_66 rfl ?_
  refine Bod.go dc_117_67 rfl ?_
  refine Bod.get dc_117_68 fr_117_15 (mk_43 _) rfl ?_
  refine Bod.get dc_117_71 fr_117_58 (mk_23 _) rfl ?_
  refine Bod.eqI (nI fs) (by first | (simp (disch := omega) only [rI, rIe, rA, rIA, rLA, rJA, rVI, rQI, rVA, rQA, upd_at,  rAI, rLI, rJI, nI_add, pk_sub, kc_0, kc_1, kc_2, kc_3, kc_4, kc_5, reduceIte, Nat.reduceEqDiff, Nat.add_zero, rI_hold, rI_hold, rL_hold, htop, hcs, htk, htg, hfs]; done) | (simp (disch := omega) only [rI, rIe, rA, rIA, rLA, rJA, rVI, rQI, rVA, rQA, upd_at,  rAI, rLI, rJI, nI_add, pk_sub, kc_0, kc_1, kc_2, kc_3, kc_4, kc_5, reduceIte, Nat.reduceEqDiff, Nat.add_zero, rI_hold, rI_hold, rL_hold, htop, hcs, htk, htg, hfs]; exact congrArg nI (by omega))) ?_
  refine Bod.virt (r := []) dc_117_74 kr_117_85 ⟨Or.inr rfl, ow_118, cl_7⟩ (by rw [np_118]; rfl) (by rw [np_118]; rfl) (ob_of (mk_23 _)) (Nat.le_of_ble_eq_true rfl) (c2  ) ?_
  show Bod _ _ _ _ [] _ _ _
  refine Bod.go dc_117_77 rfl ?_
  refine Bod.get dc_117_78 fr_117_19 (mk_43 _) rfl ?_
  refine Bod.go dc_117_81 rfl ?_
  refine Bod.virt (r := []) dc_117_82 kr_117_176 ⟨Or.inr rfl, ow_119, cl_8⟩ (by rw [np_119]; rfl) (by rw [np_119]; rfl) (ob_of (mk_32 _)) (Nat.le_of_ble_eq_true rfl) (c3  ) ?_
  show Bod _ _ _ _ [] _ _ _
  refine Bod.go dc_117_85 rfl ?_
  refine Bod.get dc_117_86 fr_117_9 (mk_43 _) rfl ?_
  refine Bod.bip 19 (by decide) dc_117_89 ?_
  refine Bod.virt (r := []) dc_117_91 kr_117_107 ⟨Or.inr rfl, ow_75, cl_3⟩ (by rw [np_75]; rfl) (by rw [np_75]; rfl) (ob_of (mk_31 _)) (Nat.le_of_ble_eq_true rfl) (c4  ) ?_
  show Bod _ _ _ _ [] _ _ _
  refine Bod.go dc_117_94 rfl ?_
  refine Bod.get dc_117_95 fr_117_23 (mk_43 _) rfl ?_
  refine Bod.ic 0 (by decide) dc_117_98 ?_
  refine Bod.virt (r := []) dc_117_99 kr_117_169 ⟨Or.inr rfl, ow_57, cl_1⟩ (by rw [np_57]; rfl) (by rw [np_57]; rfl) (ob_of (mk_44 _)) (Nat.le_of_ble_eq_true rfl) (c5  ) ?_
  show Bod _ _ _ _ [] _ _ _
  refine Bod.go dc_117_102 rfl ?_
  refine Bod.get dc_117_103 fr_117_9 (mk_43 _) rfl ?_
  refine Bod.get dc_117_106 fr_117_79 (mk_31 _) rfl ?_
  refine Bod.eqI (nI tk1) (by first | (simp (disch := omega) only [rI, rIe, rA, rIA, rLA, rJA, rVI, rQI, rVA, rQA, upd_at,  rAI, rLI, rJI, nI_add, pk_sub, kc_0, kc_1, kc_2, kc_3, kc_4, kc_5, reduceIte, Nat.reduceEqDiff, Nat.add_zero, rI_hold, rI_hold, rL_hold, htop, hcs, htk, htg, hfs, htk1]; done) | (simp (disch := omega) only [rI, rIe, rA, rIA, rLA, rJA, rVI, rQI, rVA, rQA, upd_at,  rAI, rLI, rJI, nI_add, pk_sub, kc_0, kc_1, kc_2, kc_3, kc_4, kc_5, reduceIte, Nat.reduceEqDiff, Nat.add_zero, rI_hold, rI_hold, rL_hold, htop, hcs, htk, htg, hfs, htk1]; exact congrArg nI (by omega))) ?_
  refine Bod.ic 2 (by decide) dc_117_109 ?_
  refine Bod.icF dc_117_110 rfl (k2_eq_F (k_ne tk1 2 rfl rfl (by omega) (by omega) (by omega))) ?_
  refine Bod.go dc_117_113 rfl ?_
  refine Bod.get dc_117_114 fr_117_9 (mk_43 _) rfl ?_
  refine Bod.virt (r := []) dc_117_117 kr_117_76 ⟨Or.inr rfl, ow_44, cl_3⟩ (by rw [np_44]; rfl) (by rw [np_44]; rfl) (ob_of (mk_31 _)) (Nat.le_of_ble_eq_true rfl) (c6  ) ?_
  show Bod _ _ _ _ [] _ _ _
  refine Bod.go dc_117_120 rfl ?_
  refine Bod.get dc_117_121 fr_117_9 (mk_43 _) rfl ?_
  refine Bod.get dc_117_124 fr_117_166 (mk_31 _) rfl ?_
  refine Bod.ist dc_117_127 (by rw [ml_117]; exact Nat.le_of_ble_eq_true rfl) ?_
  refine Bod.go dc_117_129 rfl ?_
  refine Bod.get dc_117_130 fr_117_9 (mk_43 _) rfl ?_
  refine Bod.go dc_117_133 rfl ?_
  refine Bod.virt (r := []) dc_117_134 kr_117_179 ⟨Or.inr rfl, ow_120, cl_3⟩ (by rw [np_120]; rfl) (by rw [np_120]; rfl) (ob_of (mk_31 _)) (Nat.le_of_ble_eq_true rfl) (c7  ) ?_
  show Bod _ _ _ _ [] _ _ _
  refine Bod.go dc_117_137 rfl ?_
  refine Bod.get dc_117_138 fr_117_23 (mk_43 _) rfl ?_
  refine Bod.ic 0 (by decide) dc_117_141 ?_
  refine Bod.virt (r := []) dc_117_142 kr_117_169 ⟨Or.inr rfl, ow_57, cl_1⟩ (by rw [np_57]; rfl) (by rw [np_57]; rfl) (ob_of (mk_44 _)) (Nat.le_of_ble_eq_true rfl) (c8  ) ?_
  show Bod _ _ _ _ [] _ _ _
  refine Bod.go dc_117_145 rfl ?_
  refine Bod.bip 19 (by decide) dc_117_146 ?_
  refine Bod.bip 41 (by decide) dc_117_148 ?_
  refine Bod.bip 46 (by decide) dc_117_150 ?_
  refine Bod.virt (r := []) dc_117_152 kr_117_182 ⟨Or.inl rfl, ow_110, cl_10⟩ (by rw [np_110]; rfl) (by rw [np_110]; rfl) (ob_of (mk_43 _)) (Nat.le_of_ble_eq_true rfl) (c9  ) ?_
  show Bod _ _ _ _ [] _ _ _
  refine Bod.go dc_117_155 rfl ?_
  refine Bod.get dc_117_156 fr_117_9 (mk_43 _) rfl ?_
  refine Bod.go dc_117_159 rfl ?_
  refine Bod.virt (r := []) dc_117_161 kr_117_179 ⟨Or.inr rfl, ow_120, cl_3⟩ (by rw [np_120]; rfl) (by rw [np_120]; rfl) (ob_of (mk_31 _)) (Nat.le_of_ble_eq_true rfl) (c10  ) ?_
  show Bod _ _ _ _ [] _ _ _
  refine Bod.go dc_117_164 rfl ?_
  exact Bod.retV dc_117_301 rt_117
theorem cBjr_7 {d : Nat} {S : cS} {top : Nat} {cs : Nat} {S1 : cS} {tk : Nat} {tg : Nat} {S2 : cS} {fs : Nat} {S3 : cS} {S4 : cS} {S5 : cS} {S6 : cS} {tk1 : Nat} {S7 : cS} {S8 : cS} {S9 : cS} {S10 : cS} (htop : sI S 2307 = nI top) (mtop : top < 2 ^ 20) (hcs : sI S 2308 = nI cs) (mcs : cs < 2 ^ 20) (c1 : Ans (d + 8) 57 [.ref 44, .int (nI 0)] S none S1) (htk : sI S1 3105 = nI tk) (mtk : tk < 2 ^ 20) (b1 : tk = 19) (htg : sI S1 4403 = nI tg) (mtg : tg < 2 ^ 20) (b2 : tg = 0) (c2 : Ans (d + 8) 44 [.ref 31] S1 none S2) (hfs : sI S2 2309 = nI fs) (mfs : fs < 2 ^ 20) (c3 : Ans (d + 8) 118 [.ref 23, .int (nI top), .int (nI cs), .int (nI fs)] S2 none S3) (c4 : Ans (d + 8) 119 [.ref 32, .int (nI top)] S3 none S4) (c5 : Ans (d + 8) 75 [.ref 31, .int (nI 19)] S4 none S5) (c6 : Ans (d + 8) 57 [.ref 44, .int (nI 0)] S5 none S6) (htk1 : sI S6 3105 = nI tk1) (mtk1 : tk1 < 2 ^ 20) (b3 : tk1 = 2) (c7 : Ans (d + 8) 120 [.ref 31, .int (sI S 3104)] S6 none S7) (c8 : Ans (d + 8) 57 [.ref 44, .int (nI 0)] S7 none S8) (c9 : Ans (d + 8) 110 [.ref 43, .int (nI 19), .int (nI 41), .int (nI 46)] S8 none S9) (c10 : Ans (d + 8) 120 [.ref 31, .int (sI S6 3104)] S9 none S10) : Bod (d + 8) 117 0 [(0, .ref 43)] [] S none (S10) := by
  refine Bod.go dc_117_0 rfl ?_
  refine Bod.get dc_117_1 fr_117_9 (mk_43 _) rfl ?_
  refine Bod.get dc_117_4 fr_117_166 (mk_31 _) rfl ?_
  refine Bod.istn dc_117_7 (by rw [ml_117]; exact Nat.le_of_ble_eq_true rfl) ?_
  refine Bod.go dc_117_8 rfl ?_
  refine Bod.get dc_117_9 fr_117_15 (mk_43 _) rfl ?_
  refine Bod.get dc_117_12 fr_117_69 (mk_23 _) rfl ?_
  refine Bod.eqI (nI top) (by first | assumption | rfl | exact congrArg nI (by omega) | (simp (disch := omega) only [rI, rIe, rA, rIA, rLA, rJA, rVI, rQI, rVA, rQA, upd_at,  rAI, rLI, rJI, nI_add, pk_sub, kc_0, kc_1, kc_2, kc_3, kc_4, kc_5, reduceIte, Nat.reduceEqDiff, Nat.add_zero, rI_hold, rI_hold, rL_hold, htop]; done)) ?_
  refine Bod.istn dc_117_15 (by rw [ml_117]; exact Nat.le_of_ble_eq_true rfl) ?_
  refine Bod.go dc_117_16 rfl ?_
  refine Bod.get dc_117_17 fr_117_15 (mk_43 _) rfl ?_
  refine Bod.get dc_117_20 fr_117_52 (mk_23 _) rfl ?_
  refine Bod.eqI (nI cs) (by first | assumption | rfl | exact congrArg nI (by omega) | (simp (disch := omega) only [rI, rIe, rA, rIA, rLA, rJA, rVI, rQI, rVA, rQA, upd_at,  rAI, rLI, rJI, nI_add, pk_sub, kc_0, kc_1, kc_2, kc_3, kc_4, kc_5, reduceIte, Nat.reduceEqDiff, Nat.add_zero, rI_hold, rI_hold, rL_hold, htop, hcs]; done)) ?_
  refine Bod.istn dc_117_23 (by rw [ml_117]; exact Nat.le_of_ble_eq_true rfl) ?_
  refine Bod.go dc_117_24 rfl ?_
  refine Bod.get dc_117_25 fr_117_23 (mk_43 _) rfl ?_
  refine Bod.ic 0 (by decide) dc_117_28 ?_
  refine Bod.virt (r := []) dc_117_29 kr_117_169 ⟨Or.inr rfl, ow_57, cl_1⟩ (by rw [np_57]; rfl) (by rw [np_57]; rfl) (ob_of (mk_44 _)) (Nat.le_of_ble_eq_true rfl) (c1  ) ?_
  show Bod _ _ _ _ [] _ _ _
  refine Bod.go dc_117_32 rfl ?_
  refine Bod.get dc_117_33 fr_117_9 (mk_43 _) rfl ?_
  refine Bod.get dc_117_36 fr_117_79 (mk_31 _) rfl ?_
  refine Bod.eqI (nI tk) (by first | (simp (disch := omega) only [rI, rIe, rA, rIA, rLA, rJA, rVI, rQI, rVA, rQA, upd_at,  rAI, rLI, rJI, nI_add, pk_sub, kc_0, kc_1, kc_2, kc_3, kc_4, kc_5, reduceIte, Nat.reduceEqDiff, Nat.add_zero, rI_hold, rI_hold, rL_hold, htop, hcs, htk]; done) | (simp (disch := omega) only [rI, rIe, rA, rIA, rLA, rJA, rVI, rQI, rVA, rQA, upd_at,  rAI, rLI, rJI, nI_add, pk_sub, kc_0, kc_1, kc_2, kc_3, kc_4, kc_5, reduceIte, Nat.reduceEqDiff, Nat.add_zero, rI_hold, rI_hold, rL_hold, htop, hcs, htk]; exact congrArg nI (by omega))) ?_
  refine Bod.bip 19 (by decide) dc_117_39 ?_
  refine Bod.icF dc_117_41 rfl (k2_ne_F (k_eq tk 19 rfl rfl (by omega))) ?_
  refine Bod.go dc_117_44 rfl ?_
  refine Bod.get dc_117_45 fr_117_23 (mk_43 _) rfl ?_
  refine Bod.get dc_117_48 fr_117_173 (mk_44 _) rfl ?_
  refine Bod.eqI (nI tg) (by first | (simp (disch := omega) only [rI, rIe, rA, rIA, rLA, rJA, rVI, rQI, rVA, rQA, upd_at,  rAI, rLI, rJI, nI_add, pk_sub, kc_0, kc_1, kc_2, kc_3, kc_4, kc_5, reduceIte, Nat.reduceEqDiff, Nat.add_zero, rI_hold, rI_hold, rL_hold, htop, hcs, htk, htg]; done) | (simp (disch := omega) only [rI, rIe, rA, rIA, rLA, rJA, rVI, rQI, rVA, rQA, upd_at,  rAI, rLI, rJI, nI_add, pk_sub, kc_0, kc_1, kc_2, kc_3, kc_4, kc_5, reduceIte, Nat.reduceEqDiff, Nat.add_zero, rI_hold, rI_hold, rL_hold, htop, hcs, htk, htg]; exact congrArg nI (by omega))) ?_
  refine Bod.ifF dc_117_51 rfl (k1_ne_F (k_eq tg 0 rfl rfl (by omega))) ?_
  refine Bod.go dc_117_54 rfl ?_
  refine Bod.get dc_117_55 fr_117_9 (mk_43 _) rfl ?_
  refine Bod.virt (r := []) dc_117_58 kr_117_76 ⟨Or.inr rfl, ow_44, cl_3⟩ (by rw [np_44]; rfl) (by rw [np_44]; rfl) (ob_of (mk_31 _)) (Nat.le_of_ble_eq_true rfl) (c2  ) ?_
  show Bod _ _ _ _ [] _ _ _
  refine Bod.go dc_117_61 rfl ?_
  refine Bod.get dc_117_62 fr_117_15 (mk_43 _) rfl ?_
  refine Bod.go dc_117_65 rfl ?_
  refine Bod.go dc_117_66 rfl ?_
  refine Bod.go dc_117_67 rfl ?_
  refine Bod.get dc_117_68 fr_117_15 (mk_43 _) rfl ?_
  refine Bod.get dc_117_71 fr_117_58 (mk_23 _) rfl ?_
  refine Bod.eqI (nI fs) (by first | (simp (disch := omega) only [rI, rIe, rA, rIA, rLA, rJA, rVI, rQI, rVA, rQA, upd_at,  rAI, rLI, rJI, nI_add, pk_sub, kc_0, kc_1, kc_2, kc_3, kc_4, kc_5, reduceIte, Nat.reduceEqDiff, Nat.add_zero, rI_hold, rI_hold, rL_hold, htop, hcs, htk, htg, hfs]; done) | (simp (disch := omega) only [rI, rIe, rA, rIA, rLA, rJA, rVI, rQI, rVA, rQA, upd_at,  rAI, rLI, rJI, nI_add, pk_sub, kc_0, kc_1, kc_2, kc_3, kc_4, kc_5, reduceIte, Nat.reduceEqDiff, Nat.add_zero, rI_hold, rI_hold, rL_hold, htop, hcs, htk, htg, hfs]; exact congrArg nI (by omega))) ?_
  refine Bod.virt (r := []) dc_117_74 kr_117_85 ⟨Or.inr rfl, ow_118, cl_7⟩ (by rw [np_118]; rfl) (by rw [np_118]; rfl) (ob_of (mk_23 _)) (Nat.le_of_ble_eq_true rfl) (c3  ) ?_
  show Bod _ _ _ _ [] _ _ _
  refine Bod.go dc_117_77 rfl ?_
  refine Bod.get dc_117_78 fr_117_19 (mk_43 _) rfl ?_
  refine Bod.go dc_117_81 rfl ?_
  refine Bod.virt (r := []) dc_117_82 kr_117_176 ⟨Or.inr rfl, ow_119, cl_8⟩ (by rw [np_119]; rfl) (by rw [np_119]; rfl) (ob_of (mk_32 _)) (Nat.le_of_ble_eq_true rfl) (c4  ) ?_
  show Bod _ _ _ _ [] _ _ _
  refine Bod.go dc_117_85 rfl ?_
  refine Bod.get dc_117_86 fr_117_9 (mk_43 _) rfl ?_
  refine Bod.bip 19 (by decide) dc_117_89 ?_
  refine Bod.virt (r := []) dc_117_91 kr_117_107 ⟨Or.inr rfl, ow_75, cl_3⟩ (by rw [np_75]; rfl) (by rw [np_75]; rfl) (ob_of (mk_31 _)) (Nat.le_of_ble_eq_true rfl) (c5  ) ?_
  show Bod _ _ _ _ [] _ _ _
  refine Bod.go dc_117_94 rfl ?_
  refine Bod.get dc_117_95 fr_117_23 (mk_43 _) rfl ?_
  refine Bod.ic 0 (by decide) dc_117_98 ?_
  refine Bod.virt (r := []) dc_117_99 kr_117_169 ⟨Or.inr rfl, ow_57, cl_1⟩ (by rw [np_57]; rfl) (by rw [np_57]; rfl) (ob_of (mk_44 _)) (Nat.le_of_ble_eq_true rfl) (c6  ) ?_
  show Bod _ _ _ _ [] _ _ _
  refine Bod.go dc_117_102 rfl ?_
  refine Bod.get dc_117_103 fr_117_9 (mk_43 _) rfl ?_
  refine Bod.get dc_117_106 fr_117_79 (mk_31 _) rfl ?_
  refine Bod.eqI (nI tk1) (by first | (simp (disch := omega) only [rI, rIe, rA, rIA, rLA, rJA, rVI, rQI, rVA, rQA, upd_at,  rAI, rLI, rJI, nI_add, pk_sub, kc_0, kc_1, kc_2, kc_3, kc_4, kc_5, reduceIte, Nat.reduceEqDiff, Nat.add_zero, rI_hold, rI_hold, rL_hold, htop, hcs, htk, htg, hfs, htk1]; done) | (simp (disch := omega) only [rI, rIe, rA, rIA, rLA, rJA, rVI, rQI, rVA, rQA, upd_at,  rAI, rLI, rJI, nI_add, pk_sub, kc_0, kc_1, kc_2, kc_3, kc_4, kc_5, reduceIte, Nat.reduceEqDiff, Nat.add_zero, rI_hold, rI_hold, rL_hold, htop, hcs, htk, htg, hfs, htk1]; exact congrArg nI (by omega))) ?_
  refine Bod.ic 2 (by decide) dc_117_109 ?_
  refine Bod.icT dc_117_110 rfl (k2_eq_T (k_eq tk1 2 rfl rfl (by omega))) ?_
  refine Bod.go dc_117_120 rfl ?_
  refine Bod.get dc_117_121 fr_117_9 (mk_43 _) rfl ?_
  refine Bod.get dc_117_124 fr_117_166 (mk_31 _) rfl ?_
  refine Bod.ist dc_117_127 (by rw [ml_117]; exact Nat.le_of_ble_eq_true rfl) ?_
  refine Bod.go dc_117_129 rfl ?_
  refine Bod.get dc_117_130 fr_117_9 (mk_43 _) rfl ?_
  refine Bod.go dc_117_133 rfl ?_
  refine Bod.virt (r := []) dc_117_134 kr_117_179 ⟨Or.inr rfl, ow_120, cl_3⟩ (by rw [np_120]; rfl) (by rw [np_120]; rfl) (ob_of (mk_31 _)) (Nat.le_of_ble_eq_true rfl) (c7  ) ?_
  show Bod _ _ _ _ [] _ _ _
  refine Bod.go dc_117_137 rfl ?_
  refine Bod.get dc_117_138 fr_117_23 (mk_43 _) rfl ?_
  refine Bod.ic 0 (by decide) dc_117_141 ?_
  refine Bod.virt (r := []) dc_117_142 kr_117_169 ⟨Or.inr rfl, ow_57, cl_1⟩ (by rw [np_57]; rfl) (by rw [np_57]; rfl) (ob_of (mk_44 _)) (Nat.le_of_ble_eq_true rfl) (c8  ) ?_
  show Bod _ _ _ _ [] _ _ _
  refine Bod.go dc_117_145 rfl ?_
  refine Bod.bip 19 (by decide) dc_117_146 ?_
  refine Bod.bip 41 (by decide) dc_117_148 ?_
  refine Bod.bip 46 (by decide) dc_117_150 ?_
  refine Bod.virt (r := []) dc_117_152 kr_117_182 ⟨Or.inl rfl, ow_110, cl_10⟩ (by rw [np_110]; rfl) (by rw [np_110]; rfl) (ob_of (mk_43 _)) (Nat.le_of_ble_eq_true rfl) (c9  ) ?_
  show Bod _ _ _ _ [] _ _ _
  refine Bod.go dc_117_155 rfl ?_
  refine Bod.get dc_117_156 fr_117_9 (mk_43 _) rfl ?_
  refine Bod.go dc_117_159 rfl ?_
  refine Bod.virt (r := []) dc_117_161 kr_117_179 ⟨Or.inr rfl, ow_120, cl_3⟩ (by rw [np_120]; rfl) (by rw [np_120]; rfl) (ob_of (mk_31 _)) (Nat.le_of_ble_eq_true rfl) (c10  ) ?_
  show Bod _ _ _ _ [] _ _ _
  refine Bod.go dc_117_164 rfl ?_
  exact Bod.retV dc_117_301 rt_117
theorem cBjr_8 {d : Nat} {S : cS} {top : Nat} {cs : Nat} {S1 : cS} {tk : Nat} {tg : Nat} {S2 : cS} {fs : Nat} {S3 : cS} {S4 : cS} {S5 : cS} {S6 : cS} {tk1 : Nat} {S7 : cS} {S8 : cS} {S9 : cS} {S10 : cS} {S11 : cS} (htop : sI S 2307 = nI top) (mtop : top < 2 ^ 20) (hcs : sI S 2308 = nI cs) (mcs : cs < 2 ^ 20) (c1 : Ans (d + 8) 57 [.ref 44, .int (nI 0)] S none S1) (htk : sI S1 3105 = nI tk) (mtk : tk < 2 ^ 20) (b1 : tk = 19) (htg : sI S1 4403 = nI tg) (mtg : tg < 2 ^ 20) (b2 : tg = 0) (c2 : Ans (d + 8) 44 [.ref 31] S1 none S2) (hfs : sI S2 2309 = nI fs) (mfs : fs < 2 ^ 20) (c3 : Ans (d + 8) 118 [.ref 23, .int (nI top), .int (nI cs), .int (nI fs)] S2 none S3) (c4 : Ans (d + 8) 119 [.ref 32, .int (nI top)] S3 none S4) (c5 : Ans (d + 8) 75 [.ref 31, .int (nI 19)] S4 none S5) (c6 : Ans (d + 8) 57 [.ref 44, .int (nI 0)] S5 none S6) (htk1 : sI S6 3105 = nI tk1) (mtk1 : tk1 < 2 ^ 20) (b3 : tk1 ≠ 2) (c7 : Ans (d + 8) 44 [.ref 31] S6 none S7) (c8 : Ans (d + 8) 120 [.ref 31, .int (sI S 3104)] S7 none S8) (c9 : Ans (d + 8) 57 [.ref 44, .int (nI 0)] S8 none S9) (c10 : Ans (d + 8) 110 [.ref 43, .int (nI 19), .int (nI 41), .int (nI 46)] S9 none S10) (c11 : Ans (d + 8) 120 [.ref 31, .int (sI S7 3104)] S10 none S11) : Bod (d + 8) 117 0 [(0, .ref 43)] [] S none (S11) := by
  refine Bod.go dc_117_0 rfl ?_
  refine Bod.get dc_117_1 fr_117_9 (mk_43 _) rfl ?_
  refine Bod.get dc_117_4 fr_117_166 (mk_31 _) rfl ?_
  refine Bod.istn dc_117_7 (by rw [ml_117]; exact Nat.le_of_ble_eq_true rfl) ?_
  refine Bod.go dc_117_8 rfl ?_
  refine Bod.get dc_117_9 fr_117_15 (mk_43 _) rfl ?_
  refine Bod.get dc_117_12 fr_117_69 (mk_23 _) rfl ?_
  refine Bod.eqI (nI top) (by first | assumption | rfl | exact congrArg nI (by omega) | (simp (disch := omega) only [rI, rIe, rA, rIA, rLA, rJA, rVI, rQI, rVA, rQA, upd_at,  rAI, rLI, rJI, nI_add, pk_sub, kc_0, kc_1, kc_2, kc_3, kc_4, kc_5, reduceIte, Nat.reduceEqDiff, Nat.add_zero, rI_hold, rI_hold, rL_hold, htop]; done)) ?_
  refine Bod.istn dc_117_15 (by rw [ml_117]; exact Nat.le_of_ble_eq_true rfl) ?_
  refine Bod.go dc_117_16 rfl ?_
  refine Bod.get dc_117_17 fr_117_15 (mk_43 _) rfl ?_
  refine Bod.get dc_117_20 fr_117_52 (mk_23 _) rfl ?_
  refine Bod.eqI (nI cs) (by first | assumption | rfl | exact congrArg nI (by omega) | (simp (disch := omega) only [rI, rIe, rA, rIA, rLA, rJA, rVI, rQI, rVA, rQA, upd_at,  rAI, rLI, rJI, nI_add, pk_sub, kc_0, kc_1, kc_2, kc_3, kc_4, kc_5, reduceIte, Nat.reduceEqDiff, Nat.add_zero, rI_hold, rI_hold, rL_hold, htop, hcs]; done)) ?_
  refine Bod.istn dc_117_23 (by rw [ml_117]; exact Nat.le_of_ble_eq_true rfl) ?_
  refine Bod.go dc_117_24 rfl ?_
  refine Bod.get dc_117_25 fr_117_23 (mk_43 _) rfl ?_
  refine Bod.ic 0 (by decide) dc_117_28 ?_
  refine Bod.virt (r := []) dc_117_29 kr_117_169 ⟨Or.inr rfl, ow_57, cl_1⟩ (by rw [np_57]; rfl) (by rw [np_57]; rfl) (ob_of (mk_44 _)) (Nat.le_of_ble_eq_true rfl) (c1  ) ?_
  show Bod _ _ _ _ [] _ _ _
  refine Bod.go dc_117_32 rfl ?_
  refine Bod.get dc_117_33 fr_117_9 (mk_43 _) rfl ?_
  refine Bod.get dc_117_36 fr_117_79 (mk_31 _) rfl ?_
  refine Bod.eqI (nI tk) (by first | (simp (disch := omega) only [rI, rIe, rA, rIA, rLA, rJA, rVI, rQI, rVA, rQA, upd_at,  rAI, rLI, rJI, nI_add, pk_sub, kc_0, kc_1, kc_2, kc_3, kc_4, kc_5, reduceIte, Nat.reduceEqDiff, Nat.add_zero, rI_hold, rI_hold, rL_hold, htop, hcs, htk]; done) | (simp (disch := omega) only [rI, rIe, rA, rIA, rLA, rJA, rVI, rQI, rVA, rQA, upd_at,  rAI, rLI, rJI, nI_add, pk_sub, kc_0, kc_1, kc_2, kc_3, kc_4, kc_5, reduceIte, Nat.reduceEqDiff, Nat.add_zero, rI_hold, rI_hold, rL_hold, htop, hcs, htk]; exact congrArg nI (by omega))) ?_
  refine Bod.bip 19 (by decide) dc_117_39 ?_
  refine Bod.icF dc_117_41 rfl (k2_ne_F (k_eq tk 19 rfl rfl (by omega))) ?_
  refine Bod.go dc_117_44 rfl ?_
  refine Bod.get dc_117_45 fr_117_23 (mk_43 _) rfl ?_
  refine Bod.get dc_117_48 fr_117_173 (mk_44 _) rfl ?_
  refine Bod.eqI (nI tg) (by first | (simp (disch := omega) only [rI, rIe, rA, rIA, rLA, rJA, rVI, rQI, rVA, rQA, upd_at,  rAI, rLI, rJI, nI_add, pk_sub, kc_0, kc_1, kc_2, kc_3, kc_4, kc_5, reduceIte, Nat.reduceEqDiff, Nat.add_zero, rI_hold, rI_hold, rL_hold, htop, hcs, htk, htg]; done) | (simp (disch := omega) only [rI, rIe, rA, rIA, rLA, rJA, rVI, rQI, rVA, rQA, upd_at,  rAI, rLI, rJI, nI_add, pk_sub, kc_0, kc_1, kc_2, kc_3, kc_4, kc_5, reduceIte, Nat.reduceEqDiff, Nat.add_zero, rI_hold, rI_hold, rL_hold, htop, hcs, htk, htg]; exact congrArg nI (by omega))) ?_
  refine Bod.ifF dc_117_51 rfl (k1_ne_F (k_eq tg 0 rfl rfl (by omega))) ?_
  refine Bod.go dc_117_54 rfl ?_
  refine Bod.get dc_117_55 fr_117_9 (mk_43 _) rfl ?_
  refine Bod.virt (r := []) dc_117_58 kr_117_76 ⟨Or.inr rfl, ow_44, cl_3⟩ (by rw [np_44]; rfl) (by rw [np_44]; rfl) (ob_of (mk_31 _)) (Nat.le_of_ble_eq_true rfl) (c2  ) ?_
  show Bod _ _ _ _ [] _ _ _
  refine Bod.go dc_117_61 rfl ?_
  refine Bod.get dc_117_62 fr_117_15 (mk_43 _) rfl ?_
  refine Bod.go dc_117_65 rfl ?_
  refine Bod.go dc_117_66 rfl ?_
  refine Bod.go dc_117_67 rfl ?_
  refine Bod.get dc_117_68 fr_117_15 (mk_43 _) rfl ?_
  refine Bod.get dc_117_71 fr_117_58 (mk_23 _) rfl ?_
  refine Bod.eqI (nI fs) (by first | (simp (disch := omega) only [rI, rIe, rA, rIA, rLA, rJA, rVI, rQI, rVA, rQA, upd_at,  rAI, rLI, rJI, nI_add, pk_sub, kc_0, kc_1, kc_2, kc_3, kc_4, kc_5, reduceIte, Nat.reduceEqDiff, Nat.add_zero, rI_hold, rI_hold, rL_hold, htop, hcs, htk, htg, hfs]; done) | (simp (disch := omega) only [rI, rIe, rA, rIA, rLA, rJA, rVI, rQI, rVA, rQA, upd_at,  rAI, rLI, rJI, nI_add, pk_sub, kc_0, kc_1, kc_2, kc_3, kc_4, kc_5, reduceIte, Nat.reduceEqDiff, Nat.add_zero, rI_hold, rI_hold, rL_hold, htop, hcs, htk, htg, hfs]; exact congrArg nI (by omega))) ?_
  refine Bod.virt (r := []) dc_117_74 kr_117_85 ⟨Or.inr rfl, ow_118, cl_7⟩ (by rw [np_118]; rfl) (by rw [np_118]; rfl) (ob_of (mk_23 _)) (Nat.le_of_ble_eq_true rfl) (c3  ) ?_
  show Bod _ _ _ _ [] _ _ _
  refine Bod.go dc_117_77 rfl ?_
  refine Bod.get dc_117_78 fr_117_19 (mk_43 _) rfl ?_
  refine Bod.go dc_117_81 rfl ?_
  refine Bod.virt (r := []) dc_117_82 kr_117_176 ⟨Or.inr rfl, ow_119, cl_8⟩ (by rw [np_119]; rfl) (by rw [np_119]; rfl) (ob_of (mk_32 _)) (Nat.le_of_ble_eq_true rfl) (c4  ) ?_
  show Bod _ _ _ _ [] _ _ _
  refine Bod.go dc_117_85 rfl ?_
  refine Bod.get dc_117_86 fr_117_9 (mk_43 _) rfl ?_
  refine Bod.bip 19 (by decide) dc_117_89 ?_
  refine Bod.virt (r := []) dc_117_91 kr_117_107 ⟨Or.inr rfl, ow_75, cl_3⟩ (by rw [np_75]; rfl) (by rw [np_75]; rfl) (ob_of (mk_31 _)) (Nat.le_of_ble_eq_true rfl) (c5  ) ?_
  show Bod _ _ _ _ [] _ _ _
  refine Bod.go dc_117_94 rfl ?_
  refine Bod.get dc_117_95 fr_117_23 (mk_43 _) rfl ?_
  refine Bod.ic 0 (by decide) dc_117_98 ?_
  refine Bod.virt (r := []) dc_117_99 kr_117_169 ⟨Or.inr rfl, ow_57, cl_1⟩ (by rw [np_57]; rfl) (by rw [np_57]; rfl) (ob_of (mk_44 _)) (Nat.le_of_ble_eq_true rfl) (c6  ) ?_
  show Bod _ _ _ _ [] _ _ _
  refine Bod.go dc_117_102 rfl ?_
  refine Bod.get dc_117_103 fr_117_9 (mk_43 _) rfl ?_
  refine Bod.get dc_117_106 fr_117_79 (mk_31 _) rfl ?_
  refine Bod.eqI (nI tk1) (by first | (simp (disch := omega) only [rI, rIe, rA, rIA, rLA, rJA, rVI, rQI, rVA, rQA, upd_at,  rAI, rLI, rJI, nI_add, pk_sub, kc_0, kc_1, kc_2, kc_3, kc_4, kc_5, reduceIte, Nat.reduceEqDiff, Nat.add_zero, rI_hold, rI_hold, rL_hold, htop, hcs, htk, htg, hfs, htk1]; done) | (simp (disch := omega) only [rI, rIe, rA, rIA, rLA, rJA, rVI, rQI, rVA, rQA, upd_at,  rAI, rLI, rJI, nI_add, pk_sub, kc_0, kc_1, kc_2, kc_3, kc_4, kc_5, reduceIte, Nat.reduceEqDiff, Nat.add_zero, rI_hold, rI_hold, rL_hold, htop, hcs, htk, htg, hfs, htk1]; exact congrArg nI (by omega))) ?_
  refine Bod.ic 2 (by decide) dc_117_109 ?_
  refine Bod.icF dc_117_110 rfl (k2_eq_F (k_ne tk1 2 rfl rfl (by omega) (by omega) (by omega))) ?_
  refine Bod.go dc_117_113 rfl ?_
  refine Bod.get dc_117_114 fr_117_9 (mk_43 _) rfl ?_
  refine Bod.virt (r := []) dc_117_117 kr_117_76 ⟨Or.inr rfl, ow_44, cl_3⟩ (by rw [np_44]; rfl) (by rw [np_44]; rfl) (ob_of (mk_31 _)) (Nat.le_of_ble_eq_true rfl) (c7  ) ?_
  show Bod _ _ _ _ [] _ _ _
  refine Bod.go dc_117_120 rfl ?_
  refine Bod.get dc_117_121 fr_117_9 (mk_43 _) rfl ?_
  refine Bod.get dc_117_124 fr_117_166 (mk_31 _) rfl ?_
  refine Bod.ist dc_117_127 (by rw [ml_117]; exact Nat.le_of_ble_eq_true rfl) ?_
  refine Bod.go dc_117_129 rfl ?_
  refine Bod.get dc_117_130 fr_117_9 (mk_43 _) rfl ?_
  refine Bod.go dc_117_133 rfl ?_
  refine Bod.virt (r := []) dc_117_134 kr_117_179 ⟨Or.inr rfl, ow_120, cl_3⟩ (by rw [np_120]; rfl) (by rw [np_120]; rfl) (ob_of (mk_31 _)) (Nat.le_of_ble_eq_true rfl) (c8  ) ?_
  show Bod _ _ _ _ [] _ _ _
  refine Bod.go dc_117_137 rfl ?_
  refine Bod.get dc_117_138 fr_117_23 (mk_43 _) rfl ?_
  refine Bod.ic 0 (by decide) dc_117_141 ?_
  refine Bod.virt (r := []) dc_117_142 kr_117_169 ⟨Or.inr rfl, ow_57, cl_1⟩ (by rw [np_57]; rfl) (by rw [np_57]; rfl) (ob_of (mk_44 _)) (Nat.le_of_ble_eq_true rfl) (c9  ) ?_
  show Bod _ _ _ _ [] _ _ _
  refine Bod.go dc_117_145 rfl ?_
  refine Bod.bip 19 (by decide) dc_117_146 ?_
  refine Bod.bip 41 (by decide) dc_117_148 ?_
  refine Bod.bip 46 (by decide) dc_117_150 ?_
  refine Bod.virt (r := []) dc_117_152 kr_117_182 ⟨Or.inl rfl, ow_110, cl_10⟩ (by rw [np_110]; rfl) (by rw [np_110]; rfl) (ob_of (mk_43 _)) (Nat.le_of_ble_eq_true rfl) (c10  ) ?_
  show Bod _ _ _ _ [] _ _ _
  refine Bod.go dc_117_155 rfl ?_
  refine Bod.get dc_117_156 fr_117_9 (mk_43 _) rfl ?_
  refine Bod.go dc_117_159 rfl ?_
  refine Bod.virt (r := []) dc_117_161 kr_117_179 ⟨Or.inr rfl, ow_120, cl_3⟩ (by rw [np_120]; rfl) (by rw [np_120]; rfl) (ob_of (mk_31 _)) (Nat.le_of_ble_eq_true rfl) (c11  ) ?_
  show Bod _ _ _ _ [] _ _ _
  refine Bod.go dc_117_164 rfl ?_
  exact Bod.retV dc_117_301 rt_117
theorem cCg23_1 {d : Nat} {S : cS}   : Bod (d + 8) 121 0 [(0, .int (nI 23))] [] S (some (.int (nI 27))) (S) := by
  refine Bod.go dc_121_0 rfl ?_
  refine Bod.sw (t := 28) dc_121_1 rfl rfl (by decide +kernel) ?_
  refine Bod.bip 27 (by decide) dc_121_28 ?_
  exact Bod.retI dc_121_30 rt_121
theorem cCg24_1 {d : Nat} {S : cS}   : Bod (d + 8) 121 0 [(0, .int (nI 24))] [] S (some (.int (nI 28))) (S) := by
  refine Bod.go dc_121_0 rfl ?_
  refine Bod.sw (t := 31) dc_121_1 rfl rfl (by decide +kernel) ?_
  refine Bod.bip 28 (by decide) dc_121_31 ?_
  exact Bod.retI dc_121_33 rt_121
theorem cCg25_1 {d : Nat} {S : cS}   : Bod (d + 8) 121 0 [(0, .int (nI 25))] [] S (some (.int (nI 29))) (S) := by
  refine Bod.go dc_121_0 rfl ?_
  refine Bod.sw (t := 34) dc_121_1 rfl rfl (by decide +kernel) ?_
  refine Bod.bip 29 (by decide) dc_121_34 ?_
  exact Bod.retI dc_121_36 rt_121
theorem xsw_121_1 : ∀ b, b < 64 → (b = 23 ∨ b = 24 ∨ b = 25 ∨ sm_br (.tableswitch (36) 23 25 #[27, 30, 33]) 27 1 [.int (nI b)] = some (37, [])) := by decide +kernel
theorem cCgD_1 {d : Nat} {S : cS} {tk : Nat} (mtk : tk < 2 ^ 20) (b64 : tk < 64) (n23 : tk ≠ 23) (n24 : tk ≠ 24) (n25 : tk ≠ 25) : Bod (d + 8) 121 0 [(0, .int (nI tk))] [] S (some (.int (nI 0))) (S) := by
  refine Bod.go dc_121_0 rfl ?_
  refine Bod.sw (t := 37) dc_121_1 rfl rfl (((((xsw_121_1 tk b64).resolve_left n23).resolve_left n24).resolve_left n25)) ?_
  refine Bod.ic 0 (by decide) dc_121_37 ?_
  exact Bod.retI dc_121_38 rt_121
