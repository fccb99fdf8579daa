/-! WAYS of the reference's machine: every call is a hypothesis -/
theorem ml_386 : sm_ml 386 = 5 := by decide +kernel
theorem dc_386_0 : decode (sm_cc 386) 0 = .ok (.iload 4, 2) := by decide +kernel
theorem dc_386_2 : decode (sm_cc 386) 2 = .ok (.bipush (8), 2) := by decide +kernel
theorem dc_386_4 : decode (sm_cc 386) 4 = .ok (.if_icmp .ge (16), 3) := by decide +kernel
theorem dc_386_20 : decode (sm_cc 386) 20 = .ok (.lload_n 2, 1) := by decide +kernel
theorem dc_386_21 : decode (sm_cc 386) 21 = .ok (.bipush (56), 2) := by decide +kernel
theorem dc_386_23 : decode (sm_cc 386) 23 = .ok (.bipush (8), 2) := by decide +kernel
theorem dc_386_25 : decode (sm_cc 386) 25 = .ok (.iload 4, 2) := by decide +kernel
theorem dc_386_27 : decode (sm_cc 386) 27 = .ok (.bipush (8), 2) := by decide +kernel
theorem dc_386_29 : decode (sm_cc 386) 29 = .ok (.isub, 1) := by decide +kernel
theorem dc_386_30 : decode (sm_cc 386) 30 = .ok (.imul, 1) := by decide +kernel
theorem dc_386_31 : decode (sm_cc 386) 31 = .ok (.isub, 1) := by decide +kernel
theorem dc_386_32 : decode (sm_cc 386) 32 = .ok (.lushr, 1) := by decide +kernel
theorem dc_386_33 : decode (sm_cc 386) 33 = .ok (.ldc2_w 185, 3) := by decide +kernel
theorem cj_386_185 : sm_at mt_cj (sm_ow 386) 185 = some (185, (255), 2713) := by decide +kernel
theorem dc_386_36 : decode (sm_cc 386) 36 = .ok (.land, 1) := by decide +kernel
theorem dc_386_37 : decode (sm_cc 386) 37 = .ok (.l2i, 1) := by decide +kernel
theorem dc_386_38 : decode (sm_cc 386) 38 = .ok (.ireturn, 1) := by decide +kernel
theorem rt_386 : sm_rt 386 = some .int := by decide +kernel
theorem dc_386_7 : decode (sm_cc 386) 7 = .ok (.lload_n 0, 1) := by decide +kernel
theorem dc_386_8 : decode (sm_cc 386) 8 = .ok (.bipush (56), 2) := by decide +kernel
theorem dc_386_10 : decode (sm_cc 386) 10 = .ok (.bipush (8), 2) := by decide +kernel
theorem dc_386_12 : decode (sm_cc 386) 12 = .ok (.iload 4, 2) := by decide +kernel
theorem dc_386_14 : decode (sm_cc 386) 14 = .ok (.imul, 1) := by decide +kernel
theorem dc_386_15 : decode (sm_cc 386) 15 = .ok (.isub, 1) := by decide +kernel
theorem dc_386_16 : decode (sm_cc 386) 16 = .ok (.lushr, 1) := by decide +kernel
theorem dc_386_17 : decode (sm_cc 386) 17 = .ok (.goto (16), 3) := by decide +kernel
theorem rGj_1 {d : Nat} {S : cS} {t : Nat} {e91 : Nat} {S1 : cS} {S2 : cS} {g : Nat} {zg : Nat} {S3 : cS} {a : Nat} {t1 : Nat} {r : Nat} {N : Nat} {e : Nat} {r1 : Nat} {N1 : Nat} {r2 : Nat} {N2 : Nat} {S4 : cS} (ht : sI S 6151 = nI t) (mt : t < 20481) (b1 : 2 ≤ t) (b2 : 1 ≤ t) (he91 : sA S 91 (t - 2) = nI e91) (me91 : e91 < 2 ^ 20) (b3 : e91 ≠ 2) (c1 : Ans (d + 8) 363 [.ref 61, .int (nI (t - 2)), .int (nI 1)] S (some (.int (nI 1))) S1) (ag : 108 ≤ g) (c2 : Ans (d + 8) 361 [.ref 61, .int (nI (t - 2))] S1 (some (.ref g)) S2) (ma : a < 2 ^ 20) (c3 : Ans (d + 8) 410 [.ref 61, .ref g, .int (nI (t - 1))] S2 (some (.int (nI a))) S3) (ht1 : sI S3 6151 = nI t1) (mt1 : t1 < 20481) (b4 : 2 ≤ t1) (hz1 : (sS S3)[g - 108]? = some (13, zg)) (hv1 : sV S3 (100 * g + 2) = .ref r) (hg1 : isK S3 r 0 N) (mN : N < 2 ^ 20) (b5 : a < N) (he : sA (wI 6151 (nI (t1 - 2)) S3) r a = nI e) (me : e < 2 ^ 20) (hv2 : sV S3 (100 * g + 4) = .ref r1) (hg2 : isK S3 r1 1 N1) (mN1 : N1 < 2 ^ 20) (b6 : a < N1) (hv3 : sV S3 (100 * g + 5) = .ref r2) (hg3 : isK S3 r2 1 N2) (mN2 : N2 < 2 ^ 20) (b7 : a < N2) (c4 : Ans (d + 8) 352 [.ref 61, .int (nI e), .long (sL (wI 6151 (nI (t1 - 2)) S3) r1 a), .long (sL (wI 6151 (nI (t1 - 2)) S3) r2 a)] (wI 6151 (nI (t1 - 2)) S3) none S4) : Bod (d + 8) 409 0 [(0, .ref 61)] [] S (some (.int 1)) (S4) := by
  refine Bod.go dc_409_0 rfl ?_
  refine Bod.get dc_409_1 fr_409_493 (mk_61 _) rfl ?_
  refine Bod.eqI (nI t) (by first | assumption | rfl | exact congrArg nI (by omega) | (simp (disch := omega) only [rI, rIe, rA, rIA, rLA, rJA, rVI, rQI, rVA, rQA, upd_at,  rAI, rLI, rJI, nI_add, pk_sub, kc_0, kc_1, kc_2, kc_3, kc_4, kc_5, reduceIte, Nat.reduceEqDiff, Nat.add_zero, rI_hold, rI_hold, rL_hold, ht]; done)) ?_
  refine Bod.ic 2 (by decide) dc_409_4 ?_
  refine Bod.subN (t - 2) (by omega) (by omega) dc_409_5 ?_
  refine Bod.istn dc_409_6 (by rw [ml_409]; exact Nat.le_of_ble_eq_true rfl) ?_
  refine Bod.go dc_409_7 rfl ?_
  refine Bod.get dc_409_8 fr_409_493 (mk_61 _) rfl ?_
  refine Bod.eqI (nI t) (by first | assumption | rfl | exact congrArg nI (by omega) | (simp (disch := omega) only [rI, rIe, rA, rIA, rLA, rJA, rVI, rQI, rVA, rQA, upd_at,  rAI, rLI, rJI, nI_add, pk_sub, kc_0, kc_1, kc_2, kc_3, kc_4, kc_5, reduceIte, Nat.reduceEqDiff, Nat.add_zero, rI_hold, rI_hold, rL_hold, ht]; done)) ?_
  refine Bod.ic 1 (by decide) dc_409_11 ?_
  refine Bod.subN (t - 1) (by omega) (by omega) dc_409_12 ?_
  refine Bod.istn dc_409_13 (by rw [ml_409]; exact Nat.le_of_ble_eq_true rfl) ?_
  refine Bod.go dc_409_14 rfl ?_
  refine Bod.get dc_409_15 fr_409_496 (mk_61 _) rfl ?_
  refine Bod.go dc_409_18 rfl ?_
  refine Bod.ialdN (t - 2) rfl (by omega) (by omega) dc_409_19 (mk_91 _) ?_
  refine Bod.eqI (nI e91) (by first | assumption | rfl | exact congrArg nI (by omega) | (simp (disch := omega) only [rI, rIe, rA, rIA, rLA, rJA, rVI, rQI, rVA, rQA, upd_at,  rAI, rLI, rJI, nI_add, pk_sub, kc_0, kc_1, kc_2, kc_3, kc_4, kc_5, reduceIte, Nat.reduceEqDiff, Nat.add_zero, rI_hold, rI_hold, rL_hold, ht, he91]; done)) ?_
  refine Bod.ic 2 (by decide) dc_409_20 ?_
  refine Bod.icT dc_409_21 rfl (k2_ne_T (k_ne e91 2 rfl rfl (by omega) (by omega) (by omega))) ?_
  refine Bod.go dc_409_162 rfl ?_
  refine Bod.go dc_409_163 rfl ?_
  refine Bod.ic 1 (by decide) dc_409_164 ?_
  refine Bod.virt (r := []) dc_409_165 kr_409_683 ⟨Or.inl rfl, ow_363, cl_14⟩ (by rw [np_363]; rfl) (by rw [np_363]; rfl) (ob_of (mk_61 _)) (Nat.le_of_ble_eq_true rfl) (c1  ) ?_
  show Bod _ _ _ _ [_] _ _ _
  refine Bod.ifT dc_409_168 rfl (k1_ne_T (k_ne 1 0 rfl rfl (by omega) (by omega) (by omega))) ?_
  refine Bod.go dc_409_186 rfl ?_
  refine Bod.go dc_409_187 rfl ?_
  refine Bod.virt (r := []) dc_409_188 kr_409_554 ⟨Or.inl rfl, ow_361, cl_14⟩ (by rw [np_361]; rfl) (by rw [np_361]; rfl) (ob_of (mk_61 _)) (Nat.le_of_ble_eq_true rfl) (c2  ) ?_
  show Bod _ _ _ _ [_] _ _ _
  refine Bod.astn dc_409_191 (by rw [ml_409]; exact Nat.le_of_ble_eq_true rfl) ?_
  refine Bod.go dc_409_192 rfl ?_
  refine Bod.go dc_409_193 rfl ?_
  refine Bod.go dc_409_194 rfl ?_
  refine Bod.virt (r := []) dc_409_195 kr_409_768 ⟨Or.inl rfl, ow_410, cl_14⟩ (by rw [np_410]; rfl) (by rw [np_410]; rfl) (ob_of (mk_61 _)) (Nat.le_of_ble_eq_true rfl) (c3  ) ?_
  show Bod _ _ _ _ [_] _ _ _
  refine Bod.ist dc_409_198 (by rw [ml_409]; exact Nat.le_of_ble_eq_true rfl) ?_
  refine Bod.go dc_409_200 rfl ?_
  refine Bod.ifT dc_409_202 rfl (k1_ge_T a rfl (by omega)) ?_
  refine Bod.go dc_409_207 rfl ?_
  refine Bod.go dc_409_208 rfl ?_
  refine Bod.get dc_409_209 fr_409_493 (mk_61 _) rfl ?_
  refine Bod.eqI (nI t1) (by first | assumption | (simp (disch := omega) only [rI, rIe, rA, rIA, rLA, rJA, rVI, rQI, rVA, rQA, upd_at,  rAI, rLI, rJI, nI_add, pk_sub, kc_0, kc_1, kc_2, kc_3, kc_4, kc_5, reduceIte, Nat.reduceEqDiff, Nat.add_zero, rI_hold, rI_hold, rL_hold, ht, he91, ht1]; done) | (simp (disch := omega) only [rI, rIe, rA, rIA, rLA, rJA, rVI, rQI, rVA, rQA, upd_at,  rAI, rLI, rJI, nI_add, pk_sub, kc_0, kc_1, kc_2, kc_3, kc_4, kc_5, reduceIte, Nat.reduceEqDiff, Nat.add_zero, rI_hold, rI_hold, rL_hold, ht, he91, ht1]; exact congrArg nI (by omega))) ?_
  refine Bod.ic 2 (by decide) dc_409_212 ?_
  refine Bod.subN (t1 - 2) (by omega) (by omega) dc_409_213 ?_
  refine Bod.put dc_409_214 fr_409_493 (mk_61 _) (Nat.le_of_ble_eq_true rfl) pf_14_51 (st_6151 _ _) (mu_I _ _ _) ?_
  refine Bod.go dc_409_217 rfl ?_
  refine Bod.go dc_409_218 rfl ?_
  refine Bod.get dc_409_219 fr_409_462 (mk_thing ag (by first | exact hz1 | (simp only [rIS, rJS, rAS, rLS, rVS, rQS, rS_hold]; exact hz1))) rfl ?_
  refine Bod.eqV (.ref r) (by first | exact hv1 | (simp only [rIV, rJV, rAV, rLV, rQV, rV, reduceIte, Nat.reduceEqDiff]; exact hv1) | (simp only [rIV, rJV, rAV, rLV, rQV, rV]; repeat rw [if_neg (by omega)]; exact hv1)) ?_
  refine Bod.go dc_409_222 rfl ?_
  refine Bod.ialdN (N := N) a rfl (by omega) (by omega) dc_409_224 (mk_isI (by first | exact hg1 | exact isK_S (by simp only [rIS, rJS, rAS, rLS, rVS, rQS, rS_hold]) hg1)) ?_
  refine Bod.eqI (nI e) (by first | assumption | (simp (disch := omega) only [rI, rIe, rA, rIA, rLA, rJA, rVI, rQI, rVA, rQA, upd_at,  rAI, rLI, rJI, nI_add, pk_sub, kc_0, kc_1, kc_2, kc_3, kc_4, kc_5, reduceIte, Nat.reduceEqDiff, Nat.add_zero, rI_hold, rI_hold, rL_hold, ht, he91, ht1, he]; done) | (simp (disch := omega) only [rI, rIe, rA, rIA, rLA, rJA, rVI, rQI, rVA, rQA, upd_at,  rAI, rLI, rJI, nI_add, pk_sub, kc_0, kc_1, kc_2, kc_3, kc_4, kc_5, reduceIte, Nat.reduceEqDiff, Nat.add_zero, rI_hold, rI_hold, rL_hold, ht, he91, ht1, he]; exact congrArg nI (by omega))) ?_
  refine Bod.go dc_409_225 rfl ?_
  refine Bod.get dc_409_226 fr_409_465 (mk_thing ag (by first | exact hz1 | (simp only [rIS, rJS, rAS, rLS, rVS, rQS, rS_hold]; exact hz1))) rfl ?_
  refine Bod.eqV (.ref r1) (by first | exact hv2 | (simp only [rIV, rJV, rAV, rLV, rQV, rV, reduceIte, Nat.reduceEqDiff]; exact hv2) | (simp only [rIV, rJV, rAV, rLV, rQV, rV]; repeat rw [if_neg (by omega)]; exact hv2)) ?_
  refine Bod.go dc_409_229 rfl ?_
  refine Bod.laldN (N := N1) a rfl (by omega) (by omega) dc_409_231 (mk_isL (by first | exact hg2 | exact isK_S (by simp only [rIS, rJS, rAS, rLS, rVS, rQS, rS_hold]) hg2)) ?_
  refine Bod.go dc_409_232 rfl ?_
  refine Bod.get dc_409_233 fr_409_627 (mk_thing ag (by first | exact hz1 | (simp only [rIS, rJS, rAS, rLS, rVS, rQS, rS_hold]; exact hz1))) rfl ?_
  refine Bod.eqV (.ref r2) (by first | exact hv3 | (simp only [rIV, rJV, rAV, rLV, rQV, rV, reduceIte, Nat.reduceEqDiff]; exact hv3) | (simp only [rIV, rJV, rAV, rLV, rQV, rV]; repeat rw [if_neg (by omega)]; exact hv3)) ?_
  refine Bod.go dc_409_236 rfl ?_
  refine Bod.laldN (N := N2) a rfl (by omega) (by omega) dc_409_238 (mk_isL (by first | exact hg3 | exact isK_S (by simp only [rIS, rJS, rAS, rLS, rVS, rQS, rS_hold]) hg3)) ?_
  refine Bod.virt (r := []) dc_409_239 kr_409_549 ⟨Or.inl rfl, ow_352, cl_14⟩ (by rw [np_352]; rfl) (by rw [np_352]; rfl) (ob_of (mk_61 _)) (Nat.le_of_ble_eq_true rfl) (c4  ) ?_
  show Bod _ _ _ _ [] _ _ _
  refine Bod.ic 1 (by decide) dc_409_242 ?_
  exact Bod.retZ dc_409_243 rt_409 (Or.inr rfl)
theorem rGj_2 {d : Nat} {S : cS} {t : Nat} {e91 : Nat} {S1 : cS} {S2 : cS} {g : Nat} {zg : Nat} {S3 : cS} (ht : sI S 6151 = nI t) (mt : t < 20481) (b1 : 2 ≤ t) (b2 : 1 ≤ t) (he91 : sA S 91 (t - 2) = nI e91) (me91 : e91 < 2 ^ 20) (b3 : e91 ≠ 2) (c1 : Ans (d + 8) 363 [.ref 61, .int (nI (t - 2)), .int (nI 1)] S (some (.int (nI 1))) S1) (ag : 108 ≤ g) (c2 : Ans (d + 8) 361 [.ref 61, .int (nI (t - 2))] S1 (some (.ref g)) S2) (c3 : Ans (d + 8) 410 [.ref 61, .ref g, .int (nI (t - 1))] S2 (some (.int (Int32.ofInt (-1)))) S3) : Bod (d + 8) 409 0 [(0, .ref 61)] [] S (some (.int 0)) (S3) := by
  refine Bod.go dc_409_0 rfl ?_
  refine Bod.get dc_409_1 fr_409_493 (mk_61 _) rfl ?_
  refine Bod.eqI (nI t) (by first | assumption | rfl | exact congrArg nI (by omega) | (simp (disch := omega) only [rI, rIe, rA, rIA, rLA, rJA, rVI, rQI, rVA, rQA, upd_at,  rAI, rLI, rJI, nI_add, pk_sub, kc_0, kc_1, kc_2, kc_3, kc_4, kc_5, reduceIte, Nat.reduceEqDiff, Nat.add_zero, rI_hold, rI_hold, rL_hold, ht]; done)) ?_
  refine Bod.ic 2 (by decide) dc_409_4 ?_
  refine Bod.subN (t - 2) (by omega) (by omega) dc_409_5 ?_
  refine Bod.istn dc_409_6 (by rw [ml_409]; exact Nat.le_of_ble_eq_true rfl) ?_
  refine Bod.go dc_409_7 rfl ?_
  refine Bod.get dc_409_8 fr_409_493 (mk_61 _) rfl ?_
  refine Bod.eqI (nI t) (by first | assumption | rfl | exact congrArg nI (by omega) | (simp (disch := omega) only [rI, rIe, rA, rIA, rLA, rJA, rVI, rQI, rVA, rQA, upd_at,  rAI, rLI, rJI, nI_add, pk_sub, kc_0, kc_1, kc_2, kc_3, kc_4, kc_5, reduceIte, Nat.reduceEqDiff, Nat.add_zero, rI_hold, rI_hold, rL_hold, ht]; done)) ?_
  refine Bod.ic 1 (by decide) dc_409_11 ?_
  refine Bod.subN (t - 1) (by omega) (by omega) dc_409_12 ?_
  refine Bod.istn dc_409_13 (by rw [ml_409]; exact Nat.le_of_ble_eq_true rfl) ?_
  refine Bod.go dc_409_14 rfl ?_
  refine Bod.get dc_409_15 fr_409_496 (mk_61 _) rfl ?_
  refine Bod.go dc_409_18 rfl ?_
  refine Bod.ialdN (t - 2) rfl (by omega) (by omega) dc_409_19 (mk_91 _) ?_
  refine Bod.eqI (nI e91) (by first | assumption | rfl | exact congrArg nI (by omega) | (simp (disch := omega) only [rI, rIe, rA, rIA, rLA, rJA, rVI, rQI, rVA, rQA, upd_at,  rAI, rLI, rJI, nI_add, pk_sub, kc_0, kc_1, kc_2, kc_3, kc_4, kc_5, reduceIte, Nat.reduceEqDiff, Nat.add_zero, rI_hold, rI_hold, rL_hold, ht, he91]; done)) ?_
  refine Bod.ic 2 (by decide) dc_409_20 ?_
  refine Bod.icT dc_409_21 rfl (k2_ne_T (k_ne e91 2 rfl rfl (by omega) (by omega) (by omega))) ?_
  refine Bod.go dc_409_162 rfl ?_
  refine Bod.go dc_409_163 rfl ?_
  refine Bod.ic 1 (by decide) dc_409_164 ?_
  refine Bod.virt (r := []) dc_409_165 kr_409_683 ⟨Or.inl rfl, ow_363, cl_14⟩ (by rw [np_363]; rfl) (by rw [np_363]; rfl) (ob_of (mk_61 _)) (Nat.le_of_ble_eq_true rfl) (c1  ) ?_
  show Bod _ _ _ _ [_] _ _ _
  refine Bod.ifT dc_409_168 rfl (k1_ne_T (k_ne 1 0 rfl rfl (by omega) (by omega) (by omega))) ?_
  refine Bod.go dc_409_186 rfl ?_
  refine Bod.go dc_409_187 rfl ?_
  refine Bod.virt (r := []) dc_409_188 kr_409_554 ⟨Or.inl rfl, ow_361, cl_14⟩ (by rw [np_361]; rfl) (by rw [np_361]; rfl) (ob_of (mk_61 _)) (Nat.le_of_ble_eq_true rfl) (c2  ) ?_
  show Bod _ _ _ _ [_] _ _ _
  refine Bod.astn dc_409_191 (by rw [ml_409]; exact Nat.le_of_ble_eq_true rfl) ?_
  refine Bod.go dc_409_192 rfl ?_
  refine Bod.go dc_409_193 rfl ?_
  refine Bod.go dc_409_194 rfl ?_
  refine Bod.virt (r := []) dc_409_195 kr_409_768 ⟨Or.inl rfl, ow_410, cl_14⟩ (by rw [np_410]; rfl) (by rw [np_410]; rfl) (ob_of (mk_61 _)) (Nat.le_of_ble_eq_true rfl) (c3  ) ?_
  show Bod _ _ _ _ [_] _ _ _
  refine Bod.ist dc_409_198 (by rw [ml_409]; exact Nat.le_of_ble_eq_true rfl) ?_
  refine Bod.go dc_409_200 rfl ?_
  refine Bod.ifF dc_409_202 rfl (by decide) ?_
  refine Bod.ic 0 (by decide) dc_409_205 ?_
  exact Bod.retZ dc_409_206 rt_409 (Or.inl rfl)
theorem rGj_3 {d : Nat} {S : cS} {t : Nat} {e91 : Nat} {S1 : cS} {S2 : cS} {S3 : cS} {g : Nat} {zg : Nat} {S4 : cS} {a : Nat} {t1 : Nat} {r : Nat} {N : Nat} {e : Nat} {r1 : Nat} {N1 : Nat} {r2 : Nat} {N2 : Nat} {S5 : cS} (ht : sI S 6151 = nI t) (mt : t < 20481) (b1 : 2 ≤ t) (b2 : 1 ≤ t) (he91 : sA S 91 (t - 2) = nI e91) (me91 : e91 < 2 ^ 20) (b3 : e91 ≠ 2) (c1 : Ans (d + 8) 363 [.ref 61, .int (nI (t - 2)), .int (nI 1)] S (some (.int (nI 0))) S1) (c2 : Ans (d + 8) 363 [.ref 61, .int (nI (t - 2)), .int (nI 2)] S1 (some (.int (nI 1))) S2) (ag : 108 ≤ g) (c3 : Ans (d + 8) 361 [.ref 61, .int (nI (t - 2))] S2 (some (.ref g)) S3) (ma : a < 2 ^ 20) (c4 : Ans (d + 8) 410 [.ref 61, .ref g, .int (nI (t - 1))] S3 (some (.int (nI a))) S4) (ht1 : sI S4 6151 = nI t1) (mt1 : t1 < 20481) (b4 : 2 ≤ t1) (hz1 : (sS S4)[g - 108]? = some (13, zg)) (hv1 : sV S4 (100 * g + 2) = .ref r) (hg1 : isK S4 r 0 N) (mN : N < 2 ^ 20) (b5 : a < N) (he : sA (wI 6151 (nI (t1 - 2)) S4) r a = nI e) (me : e < 2 ^ 20) (hv2 : sV S4 (100 * g + 4) = .ref r1) (hg2 : isK S4 r1 1 N1) (mN1 : N1 < 2 ^ 20) (b6 : a < N1) (hv3 : sV S4 (100 * g + 5) = .ref r2) (hg3 : isK S4 r2 1 N2) (mN2 : N2 < 2 ^ 20) (b7 : a < N2) (c5 : Ans (d + 8) 352 [.ref 61, .int (nI e), .long (sL (wI 6151 (nI (t1 - 2)) S4) r1 a), .long (sL (wI 6151 (nI (t1 - 2)) S4) r2 a)] (wI 6151 (nI (t1 - 2)) S4) none S5) : Bod (d + 8) 409 0 [(0, .ref 61)] [] S (some (.int 1)) (S5) := by
  refine Bod.go dc_409_0 rfl ?_
  refine Bod.get dc_409_1 fr_409_493 (mk_61 _) rfl ?_
  refine Bod.eqI (nI t) (by first | assumption | rfl | exact congrArg nI (by omega) | (simp (disch := omega) only [rI, rIe, rA, rIA, rLA, rJA, rVI, rQI, rVA, rQA, upd_at,  rAI, rLI, rJI, nI_add, pk_sub, kc_0, kc_1, kc_2, kc_3, kc_4, kc_5, reduceIte, Nat.reduceEqDiff, Nat.add_zero, rI_hold, rI_hold, rL_hold, ht]; done)) ?_
  refine Bod.ic 2 (by decide) dc_409_4 ?_
  refine Bod.subN (t - 2) (by omega) (by omega) dc_409_5 ?_
  refine Bod.istn dc_409_6 (by rw [ml_409]; exact Nat.le_of_ble_eq_true rfl) ?_
  refine Bod.go dc_409_7 rfl ?_
  refine Bod.get dc_409_8 fr_409_493 (mk_61 _) rfl ?_
  refine Bod.eqI (nI t) (by first | assumption | rfl | exact congrArg nI (by omega) | (simp (disch := omega) only [rI, rIe, rA, rIA, rLA, rJA, rVI, rQI, rVA, rQA, upd_at,  rAI, rLI, rJI, nI_add, pk_sub, kc_0, kc_1, kc_2, kc_3, kc_4, kc_5, reduceIte, Nat.reduceEqDiff, Nat.add_zero, rI_hold, rI_hold, rL_hold, ht]; done)) ?_
  refine Bod.ic 1 (by decide) dc_409_11 ?_
  refine Bod.subN (t - 1) (by omega) (by omega) dc_409_12 ?_
  refine Bod.istn dc_409_13 (by rw [ml_409]; exact Nat.le_of_ble_eq_true rfl) ?_
  refine Bod.go dc_409_14 rfl ?_
  refine Bod.get dc_409_15 fr_409_496 (mk_61 _) rfl ?_
  refine Bod.go dc_409_18 rfl ?_
  refine Bod.ialdN (t - 2) rfl (by omega) (by omega) dc_409_19 (mk_91 _) ?_
  refine Bod.eqI (nI e91) (by first | assumption | rfl | exact congrArg nI (by omega) | (simp (disch := omega) only [rI, rIe, rA, rIA, rLA, rJA, rVI, rQI, rVA, rQA, upd_at,  rAI, rLI, rJI, nI_add, pk_sub, kc_0, kc_1, kc_2, kc_3, kc_4, kc_5, reduceIte, Nat.reduceEqDiff, Nat.add_zero, rI_hold, rI_hold, rL_hold, ht, he91]; done)) ?_
  refine Bod.ic 2 (by decide) dc_409_20 ?_
  refine Bod.icT dc_409_21 rfl (k2_ne_T (k_ne e91 2 rfl rfl (by omega) (by omega) (by omega))) ?_
  refine Bod.go dc_409_162 rfl ?_
  refine Bod.go dc_409_163 rfl ?_
  refine Bod.ic 1 (by decide) dc_409_164 ?_
  refine Bod.virt (r := []) dc_409_165 kr_409_683 ⟨Or.inl rfl, ow_363, cl_14⟩ (by rw [np_363]; rfl) (by rw [np_363]; rfl) (ob_of (mk_61 _)) (Nat.le_of_ble_eq_true rfl) (c1  ) ?_
  show Bod _ _ _ _ [_] _ _ _
  refine Bod.ifF dc_409_168 rfl (k1_ne_F (k_eq 0 0 rfl rfl (by omega))) ?_
  refine Bod.go dc_409_171 rfl ?_
  refine Bod.go dc_409_172 rfl ?_
  refine Bod.ic 2 (by decide) dc_409_173 ?_
  refine Bod.virt (r := []) dc_409_174 kr_409_683 ⟨Or.inl rfl, ow_363, cl_14⟩ (by rw [np_363]; rfl) (by rw [np_363]; rfl) (ob_of (mk_61 _)) (Nat.le_of_ble_eq_true rfl) (c2  ) ?_
  show Bod _ _ _ _ [_] _ _ _
  refine Bod.ifT dc_409_177 rfl (k1_ne_T (k_ne 1 0 rfl rfl (by omega) (by omega) (by omega))) ?_
  refine Bod.go dc_409_186 rfl ?_
  refine Bod.go dc_409_187 rfl ?_
  refine Bod.virt (r := []) dc_409_188 kr_409_554 ⟨Or.inl rfl, ow_361, cl_14⟩ (by rw [np_361]; rfl) (by rw [np_361]; rfl) (ob_of (mk_61 _)) (Nat.le_of_ble_eq_true rfl) (c3  ) ?_
  show Bod _ _ _ _ [_] _ _ _
  refine Bod.astn dc_409_191 (by rw [ml_409]; exact Nat.le_of_ble_eq_true rfl) ?_
  refine Bod.go dc_409_192 rfl ?_
  refine Bod.go dc_409_193 rfl ?_
  refine Bod.go dc_409_194 rfl ?_
  refine Bod.virt (r := []) dc_409_195 kr_409_768 ⟨Or.inl rfl, ow_410, cl_14⟩ (by rw [np_410]; rfl) (by rw [np_410]; rfl) (ob_of (mk_61 _)) (Nat.le_of_ble_eq_true rfl) (c4  ) ?_
  show Bod _ _ _ _ [_] _ _ _
  refine Bod.ist dc_409_198 (by rw [ml_409]; exact Nat.le_of_ble_eq_true rfl) ?_
  refine Bod.go dc_409_200 rfl ?_
  refine Bod.ifT dc_409_202 rfl (k1_ge_T a rfl (by omega)) ?_
  refine Bod.go dc_409_207 rfl ?_
  refine Bod.go dc_409_208 rfl ?_
  refine Bod.get dc_409_209 fr_409_493 (mk_61 _) rfl ?_
  refine Bod.eqI (nI t1) (by first | assumption | (simp (disch := omega) only [rI, rIe, rA, rIA, rLA, rJA, rVI, rQI, rVA, rQA, upd_at,  rAI, rLI, rJI, nI_add, pk_sub, kc_0, kc_1, kc_2, kc_3, kc_4, kc_5, reduceIte, Nat.reduceEqDiff, Nat.add_zero, rI_hold, rI_hold, rL_hold, ht, he91, ht1]; done) | (simp (disch := omega) only [rI, rIe, rA, rIA, rLA, rJA, rVI, rQI, rVA, rQA, upd_at,  rAI, rLI, rJI, nI_add, pk_sub, kc_0, kc_1, kc_2, kc_3, kc_4, kc_5, reduceIte, Nat.reduceEqDiff, Nat.add_zero, rI_hold, rI_hold, rL_hold, ht, he91, ht1]; exact congrArg nI (by omega))) ?_
  refine Bod.ic 2 (by decide) dc_409_212 ?_
  refine Bod.subN (t1 - 2) (by omega) (by omega) dc_409_213 ?_
  refine Bod.put dc_409_214 fr_409_493 (mk_61 _) (Nat.le_of_ble_eq_true rfl) pf_14_51 (st_6151 _ _) (mu_I _ _ _) ?_
  refine Bod.go dc_409_217 rfl ?_
  refine Bod.go dc_409_218 rfl ?_
  refine Bod.get dc_409_219 fr_409_462 (mk_thing ag (by first | exact hz1 | (simp only [rIS, rJS, rAS, rLS, rVS, rQS, rS_hold]; exact hz1))) rfl ?_
  refine Bod.eqV (.ref r) (by first | exact hv1 | (simp only [rIV, rJV, rAV, rLV, rQV, rV, reduceIte, Nat.reduceEqDiff]; exact hv1) | (simp only [rIV, rJV, rAV, rLV, rQV, rV]; repeat rw [if_neg (by omega)]; exact hv1)) ?_
  refine Bod.go dc_409_222 rfl ?_
  refine Bod.ialdN (N := N) a rfl (by omega) (by omega) dc_409_224 (mk_isI (by first | exact hg1 | exact isK_S (by simp only [rIS, rJS, rAS, rLS, rVS, rQS, rS_hold]) hg1)) ?_
  refine Bod.eqI (nI e) (by first | assumption | (simp (disch := omega) only [rI, rIe, rA, rIA, rLA, rJA, rVI, rQI, rVA, rQA, upd_at,  rAI, rLI, rJI, nI_add, pk_sub, kc_0, kc_1, kc_2, kc_3, kc_4, kc_5, reduceIte, Nat.reduceEqDiff, Nat.add_zero, rI_hold, rI_hold, rL_hold, ht, he91, ht1, he]; done) | (simp (disch := omega) only [rI, rIe, rA, rIA, rLA, rJA, rVI, rQI, rVA, rQA, upd_at,  rAI, rLI, rJI, nI_add, pk_sub, kc_0, kc_1, kc_2, kc_3, kc_4, kc_5, reduceIte, Nat.reduceEqDiff, Nat.add_zero, rI_hold, rI_hold, rL_hold, ht, he91, ht1, he]; exact congrArg nI (by omega))) ?_
  refine Bod.go dc_409_225 rfl ?_
  refine Bod.get dc_409_226 fr_409_465 (mk_thing ag (by first | exact hz1 | (simp only [rIS, rJS, rAS, rLS, rVS, rQS, rS_hold]; exact hz1))) rfl ?_
  refine Bod.eqV (.ref r1) (by first | exact hv2 | (simp only [rIV, rJV, rAV, rLV, rQV, rV, reduceIte, Nat.reduceEqDiff]; exact hv2) | (simp only [rIV, rJV, rAV, rLV, rQV, rV]; repeat rw [if_neg (by omega)]; exact hv2)) ?_
  refine Bod.go dc_409_229 rfl ?_
  refine Bod.laldN (N := N1) a rfl (by omega) (by omega) dc_409_231 (mk_isL (by first | exact hg2 | exact isK_S (by simp only [rIS, rJS, rAS, rLS, rVS, rQS, rS_hold]) hg2)) ?_
  refine Bod.go dc_409_232 rfl ?_
  refine Bod.get dc_409_233 fr_409_627 (mk_thing ag (by first | exact hz1 | (simp only [rIS, rJS, rAS, rLS, rVS, rQS, rS_hold]; exact hz1))) rfl ?_
  refine Bod.eqV (.ref r2) (by first | exact hv3 | (simp only [rIV, rJV, rAV, rLV, rQV, rV, reduceIte, Nat.reduceEqDiff]; exact hv3) | (simp only [rIV, rJV, rAV, rLV, rQV, rV]; repeat rw [if_neg (by omega)]; exact hv3)) ?_
  refine Bod.go dc_409_236 rfl ?_
  refine Bod.laldN (N := N2) a rfl (by omega) (by omega) dc_409_238 (mk_isL (by first | exact hg3 | exact isK_S (by simp only [rIS, rJS, rAS, rLS, rVS, rQS, rS_hold]) hg3)) ?_
  refine Bod.virt (r := []) dc_409_239 kr_409_549 ⟨Or.inl rfl, ow_352, cl_14⟩ (by rw [np_352]; rfl) (by rw [np_352]; rfl) (ob_of (mk_61 _)) (Nat.le_of_ble_eq_true rfl) (c5  ) ?_
  show Bod _ _ _ _ [] _ _ _
  refine Bod.ic 1 (by decide) dc_409_242 ?_
  exact Bod.retZ dc_409_243 rt_409 (Or.inr rfl)
theorem rGj_4 {d : Nat} {S : cS} {t : Nat} {e91 : Nat} {S1 : cS} {S2 : cS} {S3 : cS} {g : Nat} {zg : Nat} {S4 : cS} (ht : sI S 6151 = nI t) (mt : t < 20481) (b1 : 2 ≤ t) (b2 : 1 ≤ t) (he91 : sA S 91 (t - 2) = nI e91) (me91 : e91 < 2 ^ 20) (b3 : e91 ≠ 2) (c1 : Ans (d + 8) 363 [.ref 61, .int (nI (t - 2)), .int (nI 1)] S (some (.int (nI 0))) S1) (c2 : Ans (d + 8) 363 [.ref 61, .int (nI (t - 2)), .int (nI 2)] S1 (some (.int (nI 1))) S2) (ag : 108 ≤ g) (c3 : Ans (d + 8) 361 [.ref 61, .int (nI (t - 2))] S2 (some (.ref g)) S3) (c4 : Ans (d + 8) 410 [.ref 61, .ref g, .int (nI (t - 1))] S3 (some (.int (Int32.ofInt (-1)))) S4) : Bod (d + 8) 409 0 [(0, .ref 61)] [] S (some (.int 0)) (S4) := by
  refine Bod.go dc_409_0 rfl ?_
  refine Bod.get dc_409_1 fr_409_493 (mk_61 _) rfl ?_
  refine Bod.eqI (nI t) (by first | assumption | rfl | exact congrArg nI (by omega) | (simp (disch := omega) only [rI, rIe, rA, rIA, rLA, rJA, rVI, rQI, rVA, rQA, upd_at,  rAI, rLI, rJI, nI_add, pk_sub, kc_0, kc_1, kc_2, kc_3, kc_4, kc_5, reduceIte, Nat.reduceEqDiff, Nat.add_zero, rI_hold, rI_hold, rL_hold, ht]; done)) ?_
  refine Bod.ic 2 (by decide) dc_409_4 ?_
  refine Bod.subN (t - 2) (by omega) (by omega) dc_409_5 ?_
  refine Bod.istn dc_409_6 (by rw [ml_409]; exact Nat.le_of_ble_eq_true rfl) ?_
  refine Bod.go dc_409_7 rfl ?_
  refine Bod.get dc_409_8 fr_409_493 (mk_61 _) rfl ?_
  refine Bod.eqI (nI t) (by first | assumption | rfl | exact congrArg nI (by omega) | (simp (disch := omega) only [rI, rIe, rA, rIA, rLA, rJA, rVI, rQI, rVA, rQA, upd_at,  rAI, rLI, rJI, nI_add, pk_sub, kc_0, kc_1, kc_2, kc_3, kc_4, kc_5, reduceIte, Nat.reduceEqDiff, Nat.add_zero, rI_hold, rI_hold, rL_hold, ht]; done)) ?_
  refine Bod.ic 1 (by decide) dc_409_11 ?_
  refine Bod.subN (t - 1) (by omega) (by omega) dc_409_12 ?_
  refine Bod.istn dc_409_13 (by rw [ml_409]; exact Nat.le_of_ble_eq_true rfl) ?_
  refine Bod.go dc_409_14 rfl ?_
  refine Bod.get dc_409_15 fr_409_496 (mk_61 _) rfl ?_
  refine Bod.go dc_409_18 rfl ?_
  refine Bod.ialdN (t - 2) rfl (by omega) (by omega) dc_409_19 (mk_91 _) ?_
  refine Bod.eqI (nI e91) (by first | assumption | rfl | exact congrArg nI (by omega) | (simp (disch := omega) only [rI, rIe, rA, rIA, rLA, rJA, rVI, rQI, rVA, rQA, upd_at,  rAI, rLI, rJI, nI_add, pk_sub, kc_0, kc_1, kc_2, kc_3, kc_4, kc_5, reduceIte, Nat.reduceEqDiff, Nat.add_zero, rI_hold, rI_hold, rL_hold, ht, he91]; done)) ?_
  refine Bod.ic 2 (by decide) dc_409_20 ?_
  refine Bod.icT dc_409_21 rfl (k2_ne_T (k_ne e91 2 rfl rfl (by omega) (by omega) (by omega))) ?_
  refine Bod.go dc_409_162 rfl ?_
  refine Bod.go dc_409_163 rfl ?_
  refine Bod.ic 1 (by decide) dc_409_164 ?_
  refine Bod.virt (r := []) dc_409_165 kr_409_683 ⟨Or.inl rfl, ow_363, cl_14⟩ (by rw [np_363]; rfl) (by rw [np_363]; rfl) (ob_of (mk_61 _)) (Nat.le_of_ble_eq_true rfl) (c1  ) ?_
  show Bod _ _ _ _ [_] _ _ _
  refine Bod.ifF dc_409_168 rfl (k1_ne_F (k_eq 0 0 rfl rfl (by omega))) ?_
  refine Bod.go dc_409_171 rfl ?_
  refine Bod.go dc_409_172 rfl ?_
  refine Bod.ic 2 (by decide) dc_409_173 ?_
  refine Bod.virt (r := []) dc_409_174 kr_409_683 ⟨Or.inl rfl, ow_363, cl_14⟩ (by rw [np_363]; rfl) (by rw [np_363]; rfl) (ob_of (mk_61 _)) (Nat.le_of_ble_eq_true rfl) (c2  ) ?_
  show Bod _ _ _ _ [_] _ _ _
  refine Bod.ifT dc_409_177 rfl (k1_ne_T (k_ne 1 0 rfl rfl (by omega) (by omega) (by omega))) ?_
  refine Bod.go dc_409_186 rfl ?_
  refine Bod.go dc_409_187 rfl ?_
  refine Bod.virt (r := []) dc_409_188 kr_409_554 ⟨Or.inl rfl, ow_361, cl_14⟩ (by rw [np_361]; rfl) (by rw [np_361]; rfl) (ob_of (mk_61 _)) (Nat.le_of_ble_eq_true rfl) (c3  ) ?_
  show Bod _ _ _ _ [_] _ _ _
  refine Bod.astn dc_409_191 (by rw [ml_409]; exact Nat.le_of_ble_eq_true rfl) ?_
  refine Bod.go dc_409_192 rfl ?_
  refine Bod.go dc_409_193 rfl ?_
  refine Bod.go dc_409_194 rfl ?_
  refine Bod.virt (r := []) dc_409_195 kr_409_768 ⟨Or.inl rfl, ow_410, cl_14⟩ (by rw [np_410]; rfl) (by rw [np_410]; rfl) (ob_of (mk_61 _)) (Nat.le_of_ble_eq_true rfl) (c4  ) ?_
  show Bod _ _ _ _ [_] _ _ _
  refine Bod.ist dc_409_198 (by rw [ml_409]; exact Nat.le_of_ble_eq_true rfl) ?_
  refine Bod.go dc_409_200 rfl ?_
  refine Bod.ifF dc_409_202 rfl (by decide) ?_
  refine Bod.ic 0 (by decide) dc_409_205 ?_
  exact Bod.retZ dc_409_206 rt_409 (Or.inl rfl)
theorem rGj_5 {d : Nat} {S : cS} {t : Nat} {e91 : Nat} {S1 : cS} {S2 : cS} {S3 : cS} (ht : sI S 6151 = nI t) (mt : t < 20481) (b1 : 2 ≤ t) (b2 : 1 ≤ t) (he91 : sA S 91 (t - 2) = nI e91) (me91 : e91 < 2 ^ 20) (b3 : e91 ≠ 2) (c1 : Ans (d + 8) 363 [.ref 61, .int (nI (t - 2)), .int (nI 1)] S (some (.int (nI 0))) S1) (c2 : Ans (d + 8) 363 [.ref 61, .int (nI (t - 2)), .int (nI 2)] S1 (some (.int (nI 0))) S2) (c3 : Ans (d + 8) 351 [.ref 61, .int (nI 2)] S2 (some (.int (nI 0))) S3) : Bod (d + 8) 409 0 [(0, .ref 61)] [] S (some (.int 0)) (S3) := by
  refine Bod.go dc_409_0 rfl ?_
  refine Bod.get dc_409_1 fr_409_493 (mk_61 _) rfl ?_
  refine Bod.eqI (nI t) (by first | assumption | rfl | exact congrArg nI (by omega) | (simp (disch := omega) only [rI, rIe, rA, rIA, rLA, rJA, rVI, rQI, rVA, rQA, upd_at,  rAI, rLI, rJI, nI_add, pk_sub, kc_0, kc_1, kc_2, kc_3, kc_4, kc_5, reduceIte, Nat.reduceEqDiff, Nat.add_zero, rI_hold, rI_hold, rL_hold, ht]; done)) ?_
  refine Bod.ic 2 (by decide) dc_409_4 ?_
  refine Bod.subN (t - 2) (by omega) (by omega) dc_409_5 ?_
  refine Bod.istn dc_409_6 (by rw [ml_409]; exact Nat.le_of_ble_eq_true rfl) ?_
  refine Bod.go dc_409_7 rfl ?_
  refine Bod.get dc_409_8 fr_409_493 (mk_61 _) rfl ?_
  refine Bod.eqI (nI t) (by first | assumption | rfl | exact congrArg nI (by omega) | (simp (disch := omega) only [rI, rIe, rA, rIA, rLA, rJA, rVI, rQI, rVA, rQA, upd_at,  rAI, rLI, rJI, nI_add, pk_sub, kc_0, kc_1, kc_2, kc_3, kc_4, kc_5, reduceIte, Nat.reduceEqDiff, Nat.add_zero, rI_hold, rI_hold, rL_hold, ht]; done)) ?_
  refine Bod.ic 1 (by decide) dc_409_11 ?_
  refine Bod.subN (t - 1) (by omega) (by omega) dc_409_12 ?_
  refine Bod.istn dc_409_13 (by rw [ml_409]; exact Nat.le_of_ble_eq_true rfl) ?_
  refine Bod.go dc_409_14 rfl ?_
  refine Bod.get dc_409_15 fr_409_496 (mk_61 _) rfl ?_
  refine Bod.go dc_409_18 rfl ?_
  refine Bod.ialdN (t - 2) rfl (by omega) (by omega) dc_409_19 (mk_91 _) ?_
  refine Bod.eqI (nI e91) (by first | assumption | rfl | exact congrArg nI (by omega) | (simp (disch := omega) only [rI, rIe, rA, rIA, rLA, rJA, rVI, rQI, rVA, rQA, upd_at,  rAI, rLI, rJI, nI_add, pk_sub, kc_0, kc_1, kc_2, kc_3, kc_4, kc_5, reduceIte, Nat.reduceEqDiff, Nat.add_zero, rI_hold, rI_hold, rL_hold, ht, he91]; done)) ?_
  refine Bod.ic 2 (by decide) dc_409_20 ?_
  refine Bod.icT dc_409_21 rfl (k2_ne_T (k_ne e91 2 rfl rfl (by omega) (by omega) (by omega))) ?_
  refine Bod.go dc_409_162 rfl ?_
  refine Bod.go dc_409_163 rfl ?_
  refine Bod.ic 1 (by decide) dc_409_164 ?_
  refine Bod.virt (r := []) dc_409_165 kr_409_683 ⟨Or.inl rfl, ow_363, cl_14⟩ (by rw [np_363]; rfl) (by rw [np_363]; rfl) (ob_of (mk_61 _)) (Nat.le_of_ble_eq_true rfl) (c1  ) ?_
  show Bod _ _ _ _ [_] _ _ _
  refine Bod.ifF dc_409_168 rfl (k1_ne_F (k_eq 0 0 rfl rfl (by omega))) ?_
  refine Bod.go dc_409_171 rfl ?_
  refine Bod.go dc_409_172 rfl ?_
  refine Bod.ic 2 (by decide) dc_409_173 ?_
  refine Bod.virt (r := []) dc_409_174 kr_409_683 ⟨Or.inl rfl, ow_363, cl_14⟩ (by rw [np_363]; rfl) (by rw [np_363]; rfl) (ob_of (mk_61 _)) (Nat.le_of_ble_eq_true rfl) (c2  ) ?_
  show Bod _ _ _ _ [_] _ _ _
  refine Bod.ifF dc_409_177 rfl (k1_ne_F (k_eq 0 0 rfl rfl (by omega))) ?_
  refine Bod.go dc_409_180 rfl ?_
  refine Bod.ic 2 (by decide) dc_409_181 ?_
  refine Bod.virt (r := []) dc_409_182 kr_409_608 ⟨Or.inl rfl, ow_351, cl_14⟩ (by rw [np_351]; rfl) (by rw [np_351]; rfl) (ob_of (mk_61 _)) (Nat.le_of_ble_eq_true rfl) (c3  ) ?_
  show Bod _ _ _ _ [_] _ _ _
  exact Bod.retZ dc_409_185 rt_409 (Or.inl rfl)
theorem rGj_6 {d : Nat} {S : cS} {t : Nat} {e91 : Nat} {e911 : Nat} {S1 : cS} {rb : Int32} {S2 : cS} {o : Nat} {S3 : cS} {a : Nat} {t1 : Nat} {S4 : cS} {u : Int64} {S5 : cS} {u1 : Int64} {S6 : cS} (ht : sI S 6151 = nI t) (mt : t < 20481) (b1 : 2 ≤ t) (b2 : 1 ≤ t) (he91 : sA S 91 (t - 2) = nI e91) (me91 : e91 < 2 ^ 20) (b3 : e91 = 2) (he911 : sA S 91 (t - 1) = nI e911) (me911 : e911 < 2 ^ 20) (b4 : e911 = 1) (c1 : Ans (d + 8) 360 [.long (sL S 93 (t - 2))] S (some (.int rb)) S1) (w12 : sm_c1 .ge (lg_cmp (sL S1 92 (t - 1)) 0) true false = true) (c2 : Ans (d + 8) 284 [.long (sL S1 92 (t - 1)), .long 0, .long ((rb - (nI 1)).toInt64)] S1 (some (.int (nI 1))) S2) (ho : (sL S1 92 (t - 1)).toInt32 = nI o) (mo : o < 1500) (ma : a < 2 ^ 20) (c3 : Ans (d + 8) 386 [.long (sL S2 92 (t - 2)), .long (sL S2 93 (t - 2)), .int (nI o)] S2 (some (.int (nI a))) S3) (ht1 : sI (wA 104 0 (vp_nar .byte ((nI a).toInt8.toInt32)) S3) 6151 = nI t1) (mt1 : t1 < 20481) (b5 : 2 ≤ t1) (c4 : Ans (d + 8) 297 [.ref 104, .int (nI 0), .int (nI 1), .int (nI 0)] (wI 6151 (nI (t1 - 2)) (wA 104 0 (vp_nar .byte ((nI a).toInt8.toInt32)) S3)) (some (.long u)) S4) (c5 : Ans (d + 8) 297 [.ref 104, .int (nI 0), .int (nI 1), .int (nI 1)] S4 (some (.long u1)) S5) (c6 : Ans (d + 8) 352 [.ref 61, .int (nI 2), .long u, .long u1] S5 none S6) : Bod (d + 8) 409 0 [(0, .ref 61)] [] S (some (.int 1)) (S6) := by
  refine Bod.go dc_409_0 rfl ?_
  refine Bod.get dc_409_1 fr_409_493 (mk_61 _) rfl ?_
  refine Bod.eqI (nI t) (by first | assumption | rfl | exact congrArg nI (by omega) | (simp (disch := omega) only [rI, rIe, rA, rIA, rLA, rJA, rVI, rQI, rVA, rQA, upd_at,  rAI, rLI, rJI, nI_add, pk_sub, kc_0, kc_1, kc_2, kc_3, kc_4, kc_5, reduceIte, Nat.reduceEqDiff, Nat.add_zero, rI_hold, rI_hold, rL_hold, ht]; done)) ?_
  refine Bod.ic 2 (by decide) dc_409_4 ?_
  refine Bod.subN (t - 2) (by omega) (by omega) dc_409_5 ?_
  refine Bod.istn dc_409_6 (by rw [ml_409]; exact Nat.le_of_ble_eq_true rfl) ?_
  refine Bod.go dc_409_7 rfl ?_
  refine Bod.get dc_409_8 fr_409_493 (mk_61 _) rfl ?_
  refine Bod.eqI (nI t) (by first | assumption | rfl | exact congrArg nI (by omega) | (simp (disch := omega) only [rI, rIe, rA, rIA, rLA, rJA, rVI, rQI, rVA, rQA, upd_at,  rAI, rLI, rJI, nI_add, pk_sub, kc_0, kc_1, kc_2, kc_3, kc_4, kc_5, reduceIte, Nat.reduceEqDiff, Nat.add_zero, rI_hold, rI_hold, rL_hold, ht]; done)) ?_
  refine Bod.ic 1 (by decide) dc_409_11 ?_
  refine Bod.subN (t - 1) (by omega) (by omega) dc_409_12 ?_
  refine Bod.istn dc_409_13 (by rw [ml_409]; exact Nat.le_of_ble_eq_true rfl) ?_
  refine Bod.go dc_409_14 rfl ?_
  refine Bod.get dc_409_15 fr_409_496 (mk_61 _) rfl ?_
  refine Bod.go dc_409_18 rfl ?_
  refine Bod.ialdN (t - 2) rfl (by omega) (by omega) dc_409_19 (mk_91 _) ?_
  refine Bod.eqI (nI e91) (by first | assumption | rfl | exact congrArg nI (by omega) | (simp (disch := omega) only [rI, rIe, rA, rIA, rLA, rJA, rVI, rQI, rVA, rQA, upd_at,  rAI, rLI, rJI, nI_add, pk_sub, kc_0, kc_1, kc_2, kc_3, kc_4, kc_5, reduceIte, Nat.reduceEqDiff, Nat.add_zero, rI_hold, rI_hold, rL_hold, ht, he91]; done)) ?_
  refine Bod.ic 2 (by decide) dc_409_20 ?_
  refine Bod.icF dc_409_21 rfl (k2_ne_F (k_eq e91 2 rfl rfl (by omega))) ?_
  refine Bod.go dc_409_24 rfl ?_
  refine Bod.get dc_409_25 fr_409_496 (mk_61 _) rfl ?_
  refine Bod.go dc_409_28 rfl ?_
  refine Bod.ialdN (t - 1) rfl (by omega) (by omega) dc_409_29 (mk_91 _) ?_
  refine Bod.eqI (nI e911) (by first | assumption | rfl | exact congrArg nI (by omega) | (simp (disch := omega) only [rI, rIe, rA, rIA, rLA, rJA, rVI, rQI, rVA, rQA, upd_at,  rAI, rLI, rJI, nI_add, pk_sub, kc_0, kc_1, kc_2, kc_3, kc_4, kc_5, reduceIte, Nat.reduceEqDiff, Nat.add_zero, rI_hold, rI_hold, rL_hold, ht, he91, he911]; done)) ?_
  refine Bod.ic 1 (by decide) dc_409_30 ?_
  refine Bod.icT dc_409_31 rfl (k2_eq_T (k_eq e911 1 rfl rfl (by omega))) ?_
  refine Bod.go dc_409_40 rfl ?_
  refine Bod.get dc_409_41 fr_409_546 (mk_61 _) rfl ?_
  refine Bod.go dc_409_44 rfl ?_
  refine Bod.laldN (t - 2) rfl (by omega) (by omega) dc_409_45 (mk_93 _) ?_
  refine Bod.stat (r := []) dc_409_46 kr_409_552 (Or.inl rfl) (by rw [np_360]; rfl) (by rw [np_360]; rfl) (by rw [np_360]; exact Nat.le_of_ble_eq_true rfl) (Nat.le_of_ble_eq_true rfl) (c1  ) ?_
  show Bod _ _ _ _ [_] _ _ _
  refine Bod.istn dc_409_49 (by rw [ml_409]; exact Nat.le_of_ble_eq_true rfl) ?_
  refine Bod.go dc_409_50 rfl ?_
  refine Bod.get dc_409_51 fr_409_499 (mk_61 _) rfl ?_
  refine Bod.go dc_409_54 rfl ?_
  refine Bod.laldN (t - 1) rfl (by omega) (by omega) dc_409_55 (mk_92 _) ?_
  refine Bod.go dc_409_56 rfl ?_
  refine Bod.go dc_409_57 rfl ?_
  refine Bod.ifT dc_409_58 rfl w12 ?_
  refine Bod.go dc_409_73 rfl ?_
  refine Bod.get dc_409_74 fr_409_499 (mk_61 _) rfl ?_
  refine Bod.go dc_409_77 rfl ?_
  refine Bod.laldN (t - 1) rfl (by omega) (by omega) dc_409_78 (mk_92 _) ?_
  refine Bod.lst dc_409_79 (by rw [ml_409]; exact Nat.le_of_ble_eq_true rfl) ?_
  refine Bod.go dc_409_81 rfl ?_
  refine Bod.go dc_409_83 rfl ?_
  refine Bod.go dc_409_84 rfl ?_
  refine Bod.ic 1 (by decide) dc_409_85 ?_
  refine Bod.go dc_409_86 rfl ?_
  refine Bod.go dc_409_87 rfl ?_
  refine Bod.stat (r := []) dc_409_88 kr_409_680 (Or.inl rfl) (by rw [np_284]; rfl) (by rw [np_284]; rfl) (by rw [np_284]; exact Nat.le_of_ble_eq_true rfl) (Nat.le_of_ble_eq_true rfl) (c2  ) ?_
  show Bod _ _ _ _ [_] _ _ _
  refine Bod.ifT dc_409_91 rfl (k1_ne_T (k_ne 1 0 rfl rfl (by omega) (by omega) (by omega))) ?_
  refine Bod.go dc_409_100 rfl ?_
  refine Bod.get dc_409_101 fr_409_752 (mk_61 _) rfl ?_
  refine Bod.ic 0 (by decide) dc_409_104 ?_
  refine Bod.go dc_409_105 rfl ?_
  refine Bod.get dc_409_106 fr_409_499 (mk_61 _) rfl ?_
  refine Bod.go dc_409_109 rfl ?_
  refine Bod.laldN (t - 2) rfl (by omega) (by omega) dc_409_110 (mk_92 _) ?_
  refine Bod.go dc_409_111 rfl ?_
  refine Bod.get dc_409_112 fr_409_546 (mk_61 _) rfl ?_
  refine Bod.go dc_409_115 rfl ?_
  refine Bod.laldN (t - 2) rfl (by omega) (by omega) dc_409_116 (mk_93 _) ?_
  refine Bod.go dc_409_117 rfl ?_
  refine Bod.go dc_409_119 rfl ?_
  refine Bod.eqI (nI o) (by first | exact ho | (simp only [rI, rIe, rA, rIA, rLA, rJA, rVI, rQI, rVA, rQA, upd_at,  rAI, rLI, rJI, nI_add, pk_sub, kc_0, kc_1, kc_2, kc_3, kc_4, kc_5, reduceIte, Nat.reduceEqDiff, Nat.add_zero, rI_hold, rI_hold, rL_hold]; exact ho)) ?_
  refine Bod.stat (r := [_, _]) dc_409_120 kr_409_755 (Or.inl rfl) (by rw [np_386]; rfl) (by rw [np_386]; rfl) (by rw [np_386]; exact Nat.le_of_ble_eq_true rfl) (Nat.le_of_ble_eq_true rfl) (c3  ) ?_
  show Bod _ _ _ _ [_, _, _] _ _ _
  refine Bod.go dc_409_123 rfl ?_
  refine Bod.bastN 0 rfl (by omega) (by omega) dc_409_124 (mk_104 _) (sa_104 _ _ _) (mu_A _ _ _ _) ?_
  refine Bod.go dc_409_125 rfl ?_
  refine Bod.go dc_409_126 rfl ?_
  refine Bod.get dc_409_127 fr_409_493 (mk_61 _) rfl ?_
  refine Bod.eqI (nI t1) (by first | assumption | (simp (disch := omega) only [rI, rIe, rA, rIA, rLA, rJA, rVI, rQI, rVA, rQA, upd_at,  rAI, rLI, rJI, nI_add, pk_sub, kc_0, kc_1, kc_2, kc_3, kc_4, kc_5, reduceIte, Nat.reduceEqDiff, Nat.add_zero, rI_hold, rI_hold, rL_hold, ht, he91, he911, ht1]; done) | (simp (disch := omega) only [rI, rIe, rA, rIA, rLA, rJA, rVI, rQI, rVA, rQA, upd_at,  rAI, rLI, rJI, nI_add, pk_sub, kc_0, kc_1, kc_2, kc_3, kc_4, kc_5, reduceIte, Nat.reduceEqDiff, Nat.add_zero, rI_hold, rI_hold, rL_hold, ht, he91, he911, ht1]; exact congrArg nI (by omega))) ?_
  refine Bod.ic 2 (by decide) dc_409_130 ?_
  refine Bod.subN (t1 - 2) (by omega) (by omega) dc_409_131 ?_
  refine Bod.put dc_409_132 fr_409_493 (mk_61 _) (Nat.le_of_ble_eq_true rfl) pf_14_51 (st_6151 _ _) (mu_I _ _ _) ?_
  refine Bod.go dc_409_135 rfl ?_
  refine Bod.ic 2 (by decide) dc_409_136 ?_
  refine Bod.go dc_409_137 rfl ?_
  refine Bod.get dc_409_138 fr_409_752 (mk_61 _) rfl ?_
  refine Bod.ic 0 (by decide) dc_409_141 ?_
  refine Bod.ic 1 (by decide) dc_409_142 ?_
  refine Bod.ic 0 (by decide) dc_409_143 ?_
  refine Bod.stat (r := [_, _]) dc_409_144 kr_409_178 (Or.inl rfl) (by rw [np_297]; rfl) (by rw [np_297]; rfl) (by rw [np_297]; exact Nat.le_of_ble_eq_true rfl) (Nat.le_of_ble_eq_true rfl) (c4  ) ?_
  show Bod _ _ _ _ [_, _, _] _ _ _
  refine Bod.go dc_409_147 rfl ?_
  refine Bod.get dc_409_148 fr_409_752 (mk_61 _) rfl ?_
  refine Bod.ic 0 (by decide) dc_409_151 ?_
  refine Bod.ic 1 (by decide) dc_409_152 ?_
  refine Bod.ic 1 (by decide) dc_409_153 ?_
  refine Bod.stat (r := [_, _, _]) dc_409_154 kr_409_178 (Or.inl rfl) (by rw [np_297]; rfl) (by rw [np_297]; rfl) (by rw [np_297]; exact Nat.le_of_ble_eq_true rfl) (Nat.le_of_ble_eq_true rfl) (c5  ) ?_
  show Bod _ _ _ _ [_, _, _, _] _ _ _
  refine Bod.virt (r := []) dc_409_157 kr_409_549 ⟨Or.inl rfl, ow_352, cl_14⟩ (by rw [np_352]; rfl) (by rw [np_352]; rfl) (ob_of (mk_61 _)) (Nat.le_of_ble_eq_true rfl) (c6  ) ?_
  show Bod _ _ _ _ [] _ _ _
  refine Bod.ic 1 (by decide) dc_409_160 ?_
  exact Bod.retZ dc_409_161 rt_409 (Or.inr rfl)
theorem rGj_7 {d : Nat} {S : cS} {t : Nat} {e91 : Nat} {e911 : Nat} {S1 : cS} {rb : Int32} {S2 : cS} {S3 : cS} (ht : sI S 6151 = nI t) (mt : t < 20481) (b1 : 2 ≤ t) (b2 : 1 ≤ t) (he91 : sA S 91 (t - 2) = nI e91) (me91 : e91 < 2 ^ 20) (b3 : e91 = 2) (he911 : sA S 91 (t - 1) = nI e911) (me911 : e911 < 2 ^ 20) (b4 : e911 = 1) (c1 : Ans (d + 8) 360 [.long (sL S 93 (t - 2))] S (some (.int rb)) S1) (w12 : sm_c1 .ge (lg_cmp (sL S1 92 (t - 1)) 0) true false = true) (c2 : Ans (d + 8) 284 [.long (sL S1 92 (t - 1)), .long 0, .long ((rb - (nI 1)).toInt64)] S1 (some (.int (nI 0))) S2) (c3 : Ans (d + 8) 351 [.ref 61, .int (nI 3)] S2 (some (.int (nI 0))) S3) : Bod (d + 8) 409 0 [(0, .ref 61)] [] S (some (.int 0)) (S3) := by
  refine Bod.go dc_409_0 rfl ?_
  refine Bod.get dc_409_1 fr_409_493 (mk_61 _) rfl ?_
  refine Bod.eqI (nI t) (by first | assumption | rfl | exact congrArg nI (by omega) | (simp (disch := omega) only [rI, rIe, rA, rIA, rLA, rJA, rVI, rQI, rVA, rQA, upd_at,  rAI, rLI, rJI, nI_add, pk_sub, kc_0, kc_1, kc_2, kc_3, kc_4, kc_5, reduceIte, Nat.reduceEqDiff, Nat.add_zero, rI_hold, rI_hold, rL_hold, ht]; done)) ?_
  refine Bod.ic 2 (by decide) dc_409_4 ?_
  refine Bod.subN (t - 2) (by omega) (by omega) dc_409_5 ?_
  refine Bod.istn dc_409_6 (by rw [ml_409]; exact Nat.le_of_ble_eq_true rfl) ?_
  refine Bod.go dc_409_7 rfl ?_
  refine Bod.get dc_409_8 fr_409_493 (mk_61 _) rfl ?_
  refine Bod.eqI (nI t) (by first | assumption | rfl | exact congrArg nI (by omega) | (simp (disch := omega) only [rI, rIe, rA, rIA, rLA, rJA, rVI, rQI, rVA, rQA, upd_at,  rAI, rLI, rJI, nI_add, pk_sub, kc_0, kc_1, kc_2, kc_3, kc_4, kc_5, reduceIte, Nat.reduceEqDiff, Nat.add_zero, rI_hold, rI_hold, rL_hold, ht]; done)) ?_
  refine Bod.ic 1 (by decide) dc_409_11 ?_
  refine Bod.subN (t - 1) (by omega) (by omega) dc_409_12 ?_
  refine Bod.istn dc_409_13 (by rw [ml_409]; exact Nat.le_of_ble_eq_true rfl) ?_
  refine Bod.go dc_409_14 rfl ?_
  refine Bod.get dc_409_15 fr_409_496 (mk_61 _) rfl ?_
  refine Bod.go dc_409_18 rfl ?_
  refine Bod.ialdN (t - 2) rfl (by omega) (by omega) dc_409_19 (mk_91 _) ?_
  refine Bod.eqI (nI e91) (by first | assumption | rfl | exact congrArg nI (by omega) | (simp (disch := omega) only [rI, rIe, rA, rIA, rLA, rJA, rVI, rQI, rVA, rQA, upd_at,  rAI, rLI, rJI, nI_add, pk_sub, kc_0, kc_1, kc_2, kc_3, kc_4, kc_5, reduceIte, Nat.reduceEqDiff, Nat.add_zero, rI_hold, rI_hold, rL_hold, ht, he91]; done)) ?_
  refine Bod.ic 2 (by decide) dc_409_20 ?_
  refine Bod.icF dc_409_21 rfl (k2_ne_F (k_eq e91 2 rfl rfl (by omega))) ?_
  refine Bod.go dc_409_24 rfl ?_
  refine Bod.get dc_409_25 fr_409_496 (mk_61 _) rfl ?_
  refine Bod.go dc_409_28 rfl ?_
  refine Bod.ialdN (t - 1) rfl (by omega) (by omega) dc_409_29 (mk_91 _) ?_
  refine Bod.eqI (nI e911) (by first | assumption | rfl | exact congrArg nI (by omega) | (simp (disch := omega) only [rI, rIe, rA, rIA, rLA, rJA, rVI, rQI, rVA, rQA, upd_at,  rAI, rLI, rJI, nI_add, pk_sub, kc_0, kc_1, kc_2, kc_3, kc_4, kc_5, reduceIte, Nat.reduceEqDiff, Nat.add_zero, rI_hold, rI_hold, rL_hold, ht, he91, he911]; done)) ?_
  refine Bod.ic 1 (by decide) dc_409_30 ?_
  refine Bod.icT dc_409_31 rfl (k2_eq_T (k_eq e911 1 rfl rfl (by omega))) ?_
  refine Bod.go dc_409_40 rfl ?_
  refine Bod.get dc_409_41 fr_409_546 (mk_61 _) rfl ?_
  refine Bod.go dc_409_44 rfl ?_
  refine Bod.laldN (t - 2) rfl (by omega) (by omega) dc_409_45 (mk_93 _) ?_
  refine Bod.stat (r := []) dc_409_46 kr_409_552 (Or.inl rfl) (by rw [np_360]; rfl) (by rw [np_360]; rfl) (by rw [np_360]; exact Nat.le_of_ble_eq_true rfl) (Nat.le_of_ble_eq_true rfl) (c1  ) ?_
  show Bod _ _ _ _ [_] _ _ _
  refine Bod.istn dc_409_49 (by rw [ml_409]; exact Nat.le_of_ble_eq_true rfl) ?_
  refine Bod.go dc_409_50 rfl ?_
  refine Bod.get dc_409_51 fr_409_499 (mk_61 _) rfl ?_
  refine Bod.go dc_409_54 rfl ?_
  refine Bod.laldN (t - 1) rfl (by omega) (by omega) dc_409_55 (mk_92 _) ?_
  refine Bod.go dc_409_56 rfl ?_
  refine Bod.go dc_409_57 rfl ?_
  refine Bod.ifT dc_409_58 rfl w12 ?_
  refine Bod.go dc_409_73 rfl ?_
  refine Bod.get dc_409_74 fr_409_499 (mk_61 _) rfl ?_
  refine Bod.go dc_409_77 rfl ?_
  refine Bod.laldN (t - 1) rfl (by omega) (by omega) dc_409_78 (mk_92 _) ?_
  refine Bod.lst dc_409_79 (by rw [ml_409]; exact Nat.le_of_ble_eq_true rfl) ?_
  refine Bod.go dc_409_81 rfl ?_
  refine Bod.go dc_409_83 rfl ?_
  refine Bod.go dc_409_84 rfl ?_
  refine Bod.ic 1 (by decide) dc_409_85 ?_
  refine Bod.go dc_409_86 rfl ?_
  refine Bod.go dc_409_87 rfl ?_
  refine Bod.stat (r := []) dc_409_88 kr_409_680 (Or.inl rfl) (by rw [np_284]; rfl) (by rw [np_284]; rfl) (by rw [np_284]; exact Nat.le_of_ble_eq_true rfl) (Nat.le_of_ble_eq_true rfl) (c2  ) ?_
  show Bod _ _ _ _ [_] _ _ _
  refine Bod.ifF dc_409_91 rfl (k1_ne_F (k_eq 0 0 rfl rfl (by omega))) ?_
  refine Bod.go dc_409_94 rfl ?_
  refine Bod.ic 3 (by decide) dc_409_95 ?_
  refine Bod.virt (r := []) dc_409_96 kr_409_608 ⟨Or.inl rfl, ow_351, cl_14⟩ (by rw [np_351]; rfl) (by rw [np_351]; rfl) (ob_of (mk_61 _)) (Nat.le_of_ble_eq_true rfl) (c3  ) ?_
  show Bod _ _ _ _ [_] _ _ _
  exact Bod.retZ dc_409_99 rt_409 (Or.inl rfl)
theorem rGj_8 {d : Nat} {S : cS} {t : Nat} {e91 : Nat} {e911 : Nat} {S1 : cS} {rb : Int32} {S2 : cS} {o : Nat} {S3 : cS} {a : Nat} {t1 : Nat} {S4 : cS} {u : Int64} {S5 : cS} {u1 : Int64} {S6 : cS} (ht : sI S 6151 = nI t) (mt : t < 20481) (b1 : 2 ≤ t) (b2 : 1 ≤ t) (he91 : sA S 91 (t - 2) = nI e91) (me91 : e91 < 2 ^ 20) (b3 : e91 = 2) (he911 : sA S 91 (t - 1) = nI e911) (me911 : e911 < 2 ^ 20) (b4 : e911 = 1) (c1 : Ans (d + 8) 360 [.long (sL S 93 (t - 2))] S (some (.int rb)) S1) (w12 : sm_c1 .ge (lg_cmp (sL S1 92 (t - 1)) 0) true false = false) (c2 : Ans (d + 8) 284 [.long ((sL S1 92 (t - 1)) + rb.toInt64), .long 0, .long ((rb - (nI 1)).toInt64)] S1 (some (.int (nI 1))) S2) (ho : ((sL S1 92 (t - 1)) + rb.toInt64).toInt32 = nI o) (mo : o < 1500) (ma : a < 2 ^ 20) (c3 : Ans (d + 8) 386 [.long (sL S2 92 (t - 2)), .long (sL S2 93 (t - 2)), .int (nI o)] S2 (some (.int (nI a))) S3) (ht1 : sI (wA 104 0 (vp_nar .byte ((nI a).toInt8.toInt32)) S3) 6151 = nI t1) (mt1 : t1 < 20481) (b5 : 2 ≤ t1) (c4 : Ans (d + 8) 297 [.ref 104, .int (nI 0), .int (nI 1), .int (nI 0)] (wI 6151 (nI (t1 - 2)) (wA 104 0 (vp_nar .byte ((nI a).toInt8.toInt32)) S3)) (some (.long u)) S4) (c5 : Ans (d + 8) 297 [.ref 104, .int (nI 0), .int (nI 1), .int (nI 1)] S4 (some (.long u1)) S5) (c6 : Ans (d + 8) 352 [.ref 61, .int (nI 2), .long u, .long u1] S5 none S6) : Bod (d + 8) 409 0 [(0, .ref 61)] [] S (some (.int 1)) (S6) := by
  refine Bod.go dc_409_0 rfl ?_
  refine Bod.get dc_409_1 fr_409_493 (mk_61 _) rfl ?_
  refine Bod.eqI (nI t) (by first | assumption | rfl | exact congrArg nI (by omega) | (simp (disch := omega) only [rI, rIe, rA, rIA, rLA, rJA, rVI, rQI, rVA, rQA, upd_at,  rAI, rLI, rJI, nI_add, pk_sub, kc_0, kc_1, kc_2, kc_3, kc_4, kc_5, reduceIte, Nat.reduceEqDiff, Nat.add_zero, rI_hold, rI_hold, rL_hold, ht]; done)) ?_
  refine Bod.ic 2 (by decide) dc_409_4 ?_
  refine Bod.subN (t - 2) (by omega) (by omega) dc_409_5 ?_
  refine Bod.istn dc_409_6 (by rw [ml_409]; exact Nat.le_of_ble_eq_true rfl) ?_
  refine Bod.go dc_409_7 rfl ?_
  refine Bod.get dc_409_8 fr_409_493 (mk_61 _) rfl ?_
  refine Bod.eqI (nI t) (by first | assumption | rfl | exact congrArg nI (by omega) | (simp (disch := omega) only [rI, rIe, rA, rIA, rLA, rJA, rVI, rQI, rVA, rQA, upd_at,  rAI, rLI, rJI, nI_add, pk_sub, kc_0, kc_1, kc_2, kc_3, kc_4, kc_5, reduceIte, Nat.reduceEqDiff, Nat.add_zero, rI_hold, rI_hold, rL_hold, ht]; done)) ?_
  refine Bod.ic 1 (by decide) dc_409_11 ?_
  refine Bod.subN (t - 1) (by omega) (by omega) dc_409_12 ?_
  refine Bod.istn dc_409_13 (by rw [ml_409]; exact Nat.le_of_ble_eq_true rfl) ?_
  refine Bod.go dc_409_14 rfl ?_
  refine Bod.get dc_409_15 fr_409_496 (mk_61 _) rfl ?_
  refine Bod.go dc_409_18 rfl ?_
  refine Bod.ialdN (t - 2) rfl (by omega) (by omega) dc_409_19 (mk_91 _) ?_
  refine Bod.eqI (nI e91) (by first | assumption | rfl | exact congrArg nI (by omega) | (simp (disch := omega) only [rI, rIe, rA, rIA, rLA, rJA, rVI, rQI, rVA, rQA, upd_at,  rAI, rLI, rJI, nI_add, pk_sub, kc_0, kc_1, kc_2, kc_3, kc_4, kc_5, reduceIte, Nat.reduceEqDiff, Nat.add_zero, rI_hold, rI_hold, rL_hold, ht, he91]; done)) ?_
  refine Bod.ic 2 (by decide) dc_409_20 ?_
  refine Bod.icF dc_409_21 rfl (k2_ne_F (k_eq e91 2 rfl rfl (by omega))) ?_
  refine Bod.go dc_409_24 rfl ?_
  refine Bod.get dc_409_25 fr_409_496 (mk_61 _) rfl ?_
  refine Bod.go dc_409_28 rfl ?_
  refine Bod.ialdN (t - 1) rfl (by omega) (by omega) dc_409_29 (mk_91 _) ?_
  refine Bod.eqI (nI e911) (by first | assumption | rfl | exact congrArg nI (by omega) | (simp (disch := omega) only [rI, rIe, rA, rIA, rLA, rJA, rVI, rQI, rVA, rQA, upd_at,  rAI, rLI, rJI, nI_add, pk_sub, kc_0, kc_1, kc_2, kc_3, kc_4, kc_5, reduceIte, Nat.reduceEqDiff, Nat.add_zero, rI_hold, rI_hold, rL_hold, ht, he91, he911]; done)) ?_
  refine Bod.ic 1 (by decide) dc_409_30 ?_
  refine Bod.icT dc_409_31 rfl (k2_eq_T (k_eq e911 1 rfl rfl (by omega))) ?_
  refine Bod.go dc_409_40 rfl ?_
  refine Bod.get dc_409_41 fr_409_546 (mk_61 _) rfl ?_
  refine Bod.go dc_409_44 rfl ?_
  refine Bod.laldN (t - 2) rfl (by omega) (by omega) dc_409_45 (mk_93 _) ?_
  refine Bod.stat (r := []) dc_409_46 kr_409_552 (Or.inl rfl) (by rw [np_360]; rfl) (by rw [np_360]; rfl) (by rw [np_360]; exact Nat.le_of_ble_eq_true rfl) (Nat.le_of_ble_eq_true rfl) (c1  ) ?_
  show Bod _ _ _ _ [_] _ _ _
  refine Bod.istn dc_409_49 (by rw [ml_409]; exact Nat.le_of_ble_eq_true rfl) ?_
  refine Bod.go dc_409_50 rfl ?_
  refine Bod.get dc_409_51 fr_409_499 (mk_61 _) rfl ?_
  refine Bod.go dc_409_54 rfl ?_
  refine Bod.laldN (t - 1) rfl (by omega) (by omega) dc_409_55 (mk_92 _) ?_
  refine Bod.go dc_409_56 rfl ?_
  refine Bod.go dc_409_57 rfl ?_
  refine Bod.ifF dc_409_58 rfl w12 ?_
  refine Bod.go dc_409_61 rfl ?_
  refine Bod.get dc_409_62 fr_409_499 (mk_61 _) rfl ?_
  refine Bod.go dc_409_65 rfl ?_
  refine Bod.laldN (t - 1) rfl (by omega) (by omega) dc_409_66 (mk_92 _) ?_
  refine Bod.go dc_409_67 rfl ?_
  refine Bod.go dc_409_68 rfl ?_
  refine Bod.go dc_409_69 rfl ?_
  refine Bod.go dc_409_70 rfl ?_
  refine Bod.lst dc_409_79 (by rw [ml_409]; exact Nat.le_of_ble_eq_true rfl) ?_
  refine Bod.go dc_409_81 rfl ?_
  refine Bod.go dc_409_83 rfl ?_
  refine Bod.go dc_409_84 rfl ?_
  refine Bod.ic 1 (by decide) dc_409_85 ?_
  refine Bod.go dc_409_86 rfl ?_
  refine Bod.go dc_409_87 rfl ?_
  refine Bod.stat (r := []) dc_409_88 kr_409_680 (Or.inl rfl) (by rw [np_284]; rfl) (by rw [np_284]; rfl) (by rw [np_284]; exact Nat.le_of_ble_eq_true rfl) (Nat.le_of_ble_eq_true rfl) (c2  ) ?_
  show Bod _ _ _ _ [_] _ _ _
  refine Bod.ifT dc_409_91 rfl (k1_ne_T (k_ne 1 0 rfl rfl (by omega) (by omega) (by omega))) ?_
  refine Bod.go dc_409_100 rfl ?_
  refine Bod.get dc_409_101 fr_409_752 (mk_61 _) rfl ?_
  refine Bod.ic 0 (by decide) dc_409_104 ?_
  refine Bod.go dc_409_105 rfl ?_
  refine Bod.get dc_409_106 fr_409_499 (mk_61 _) rfl ?_
  refine Bod.go dc_409_109 rfl ?_
  refine Bod.laldN (t - 2) rfl (by omega) (by omega) dc_409_110 (mk_92 _) ?_
  refine Bod.go dc_409_111 rfl ?_
  refine Bod.get dc_409_112 fr_409_546 (mk_61 _) rfl ?_
  refine Bod.go dc_409_115 rfl ?_
  refine Bod.laldN (t - 2) rfl (by omega) (by omega) dc_409_116 (mk_93 _) ?_
  refine Bod.go dc_409_117 rfl ?_
  refine Bod.go dc_409_119 rfl ?_
  refine Bod.eqI (nI o) (by first | exact ho | (simp only [rI, rIe, rA, rIA, rLA, rJA, rVI, rQI, rVA, rQA, upd_at,  rAI, rLI, rJI, nI_add, pk_sub, kc_0, kc_1, kc_2, kc_3, kc_4, kc_5, reduceIte, Nat.reduceEqDiff, Nat.add_zero, rI_hold, rI_hold, rL_hold]; exact ho)) ?_
  refine Bod.stat (r := [_, _]) dc_409_120 kr_409_755 (Or.inl rfl) (by rw [np_386]; rfl) (by rw [np_386]; rfl) (by rw [np_386]; exact Nat.le_of_ble_eq_true rfl) (Nat.le_of_ble_eq_true rfl) (c3  ) ?_
  show Bod _ _ _ _ [_, _, _] _ _ _
  refine Bod.go dc_409_123 rfl ?_
  refine Bod.bastN 0 rfl (by omega) (by omega) dc_409_124 (mk_104 _) (sa_104 _ _ _) (mu_A _ _ _ _) ?_
  refine Bod.go dc_409_125 rfl ?_
  refine Bod.go dc_409_126 rfl ?_
  refine Bod.get dc_409_127 fr_409_493 (mk_61 _) rfl ?_
  refine Bod.eqI (nI t1) (by first | assumption | (simp (disch := omega) only [rI, rIe, rA, rIA, rLA, rJA, rVI, rQI, rVA, rQA, upd_at,  rAI, rLI, rJI, nI_add, pk_sub, kc_0, kc_1, kc_2, kc_3, kc_4, kc_5, reduceIte, Nat.reduceEqDiff, Nat.add_zero, rI_hold, rI_hold, rL_hold, ht, he91, he911, ht1]; done) | (simp (disch := omega) only [rI, rIe, rA, rIA, rLA, rJA, rVI, rQI, rVA, rQA, upd_at,  rAI, rLI, rJI, nI_add, pk_sub, kc_0, kc_1, kc_2, kc_3, kc_4, kc_5, reduceIte, Nat.reduceEqDiff, Nat.add_zero, rI_hold, rI_hold, rL_hold, ht, he91, he911, ht1]; exact congrArg nI (by omega))) ?_
  refine Bod.ic 2 (by decide) dc_409_130 ?_
  refine Bod.subN (t1 - 2) (by omega) (by omega) dc_409_131 ?_
  refine Bod.put dc_409_132 fr_409_493 (mk_61 _) (Nat.le_of_ble_eq_true rfl) pf_14_51 (st_6151 _ _) (mu_I _ _ _) ?_
  refine Bod.go dc_409_135 rfl ?_
  refine Bod.ic 2 (by decide) dc_409_136 ?_
  refine Bod.go dc_409_137 rfl ?_
  refine Bod.get dc_409_138 fr_409_752 (mk_61 _) rfl ?_
  refine Bod.ic 0 (by decide) dc_409_141 ?_
  refine Bod.ic 1 (by decide) dc_409_142 ?_
  refine Bod.ic 0 (by decide) dc_409_143 ?_
  refine Bod.stat (r := [_, _]) dc_409_144 kr_409_178 (Or.inl rfl) (by rw [np_297]; rfl) (by rw [np_297]; rfl) (by rw [np_297]; exact Nat.le_of_ble_eq_true rfl) (Nat.le_of_ble_eq_true rfl) (c4  ) ?_
  show Bod _ _ _ _ [_, _, _] _ _ _
  refine Bod.go dc_409_147 rfl ?_
  refine Bod.get dc_409_148 fr_409_752 (mk_61 _) rfl ?_
  refine Bod.ic 0 (by decide) dc_409_151 ?_
  refine Bod.ic 1 (by decide) dc_409_152 ?_
  refine Bod.ic 1 (by decide) dc_409_153 ?_
  refine Bod.stat (r := [_, _, _]) dc_409_154 kr_409_178 (Or.inl rfl) (by rw [np_297]; rfl) (by rw [np_297]; rfl) (by rw [np_297]; exact Nat.le_of_ble_eq_true rfl) (Nat.le_of_ble_eq_true rfl) (c5  ) ?_
  show Bod _ _ _ _ [_, _, _, _] _ _ _
  refine Bod.virt (r := []) dc_409_157 kr_409_549 ⟨Or.inl rfl, ow_352, cl_14⟩ (by rw [np_352]; rfl) (by rw [np_352]; rfl) (ob_of (mk_61 _)) (Nat.le_of_ble_eq_true rfl) (c6  ) ?_
  show Bod _ _ _ _ [] _ _ _
  refine Bod.ic 1 (by decide) dc_409_160 ?_
  exact Bod.retZ dc_409_161 rt_409 (Or.inr rfl)
theorem rGj_9 {d : Nat} {S : cS} {t : Nat} {e91 : Nat} {e911 : Nat} {S1 : cS} {rb : Int32} {S2 : cS} {S3 : cS} (ht : sI S 6151 = nI t) (mt : t < 20481) (b1 : 2 ≤ t) (b2 : 1 ≤ t) (he91 : sA S 91 (t - 2) = nI e91) (me91 : e91 < 2 ^ 20) (b3 : e91 = 2) (he911 : sA S 91 (t - 1) = nI e911) (me911 : e911 < 2 ^ 20) (b4 : e911 = 1) (c1 : Ans (d + 8) 360 [.long (sL S 93 (t - 2))] S (some (.int rb)) S1) (w12 : sm_c1 .ge (lg_cmp (sL S1 92 (t - 1)) 0) true false = false) (c2 : Ans (d + 8) 284 [.long ((sL S1 92 (t - 1)) + rb.toInt64), .long 0, .long ((rb - (nI 1)).toInt64)] S1 (some (.int (nI 0))) S2) (c3 : Ans (d + 8) 351 [.ref 61, .int (nI 3)] S2 (some (.int (nI 0))) S3) : Bod (d + 8) 409 0 [(0, .ref 61)] [] S (some (.int 0)) (S3) := by
  refine Bod.go dc_409_0 rfl ?_
  refine Bod.get dc_409_1 fr_409_493 (mk_61 _) rfl ?_
  refine Bod.eqI (nI t) (by first | assumption | rfl | exact congrArg nI (by omega) | (simp (disch := omega) only [rI, rIe, rA, rIA, rLA, rJA, rVI, rQI, rVA, rQA, upd_at,  rAI, rLI, rJI, nI_add, pk_sub, kc_0, kc_1, kc_2, kc_3, kc_4, kc_5, reduceIte, Nat.reduceEqDiff, Nat.add_zero, rI_hold, rI_hold, rL_hold, ht]; done)) ?_
  refine Bod.ic 2 (by decide) dc_409_4 ?_
  refine Bod.subN (t - 2) (by omega) (by omega) dc_409_5 ?_
  refine Bod.istn dc_409_6 (by rw [ml_409]; exact Nat.le_of_ble_eq_true rfl) ?_
  refine Bod.go dc_409_7 rfl ?_
  refine Bod.get dc_409_8 fr_409_493 (mk_61 _) rfl ?_
  refine Bod.eqI (nI t) (by first | assumption | rfl | exact congrArg nI (by omega) | (simp (disch := omega) only [rI, rIe, rA, rIA, rLA, rJA, rVI, rQI, rVA, rQA, upd_at,  rAI, rLI, rJI, nI_add, pk_sub, kc_0, kc_1, kc_2, kc_3, kc_4, kc_5, reduceIte, Nat.reduceEqDiff, Nat.add_zero, rI_hold, rI_hold, rL_hold, ht]; done)) ?_
  refine Bod.ic 1 (by decide) dc_409_11 ?_
  refine Bod.subN (t - 1) (by omega) (by omega) dc_409_12 ?_
  refine Bod.istn dc_409_13 (by rw [ml_409]; exact Nat.le_of_ble_eq_true rfl) ?_
  refine Bod.go dc_409_14 rfl ?_
  refine Bod.get dc_409_15 fr_409_496 (mk_61 _) rfl ?_
  refine Bod.go dc_409_18 rfl ?_
  refine Bod.ialdN (t - 2) rfl (by omega) (by omega) dc_409_19 (mk_91 _) ?_
  refine Bod.eqI (nI e91) (by first | assumption | rfl | exact congrArg nI (by omega) | (simp (disch := omega) only [rI, rIe, rA, rIA, rLA, rJA, rVI, rQI, rVA, rQA, upd_at,  rAI, rLI, rJI, nI_add, pk_sub, kc_0, kc_1, kc_2, kc_3, kc_4, kc_5, reduceIte, Nat.reduceEqDiff, Nat.add_zero, rI_hold, rI_hold, rL_hold, ht, he91]; done)) ?_
  refine Bod.ic 2 (by decide) dc_409_20 ?_
  refine Bod.icF dc_409_21 rfl (k2_ne_F (k_eq e91 2 rfl rfl (by omega))) ?_
  refine Bod.go dc_409_24 rfl ?_
  refine Bod.get dc_409_25 fr_409_496 (mk_61 _) rfl ?_
  refine Bod.go dc_409_28 rfl ?_
  refine Bod.ialdN (t - 1) rfl (by omega) (by omega) dc_409_29 (mk_91 _) ?_
  refine Bod.eqI (nI e911) (by first | assumption | rfl | exact congrArg nI (by omega) | (simp (disch := omega) only [rI, rIe, rA, rIA, rLA, rJA, rVI, rQI, rVA, rQA, upd_at,  rAI, rLI, rJI, nI_add, pk_sub, kc_0, kc_1, kc_2, kc_3, kc_4, kc_5, reduceIte, Nat.reduceEqDiff, Nat.add_zero, rI_hold, rI_hold, rL_hold, ht, he91, he911]; done)) ?_
  refine Bod.ic 1 (by decide) dc_409_30 ?_
  refine Bod.icT dc_409_31 rfl (k2_eq_T (k_eq e911 1 rfl rfl (by omega))) ?_
  refine Bod.go dc_409_40 rfl ?_
  refine Bod.get dc_409_41 fr_409_546 (mk_61 _) rfl ?_
  refine Bod.go dc_409_44 rfl ?_
  refine Bod.laldN (t - 2) rfl (by omega) (by omega) dc_409_45 (mk_93 _) ?_
  refine Bod.stat (r := []) dc_409_46 kr_409_552 (Or.inl rfl) (by rw [np_360]; rfl) (by rw [np_360]; rfl) (by rw [np_360]; exact Nat.le_of_ble_eq_true rfl) (Nat.le_of_ble_eq_true rfl) (c1  ) ?_
  show Bod _ _ _ _ [_] _ _ _
  refine Bod.istn dc_409_49 (by rw [ml_409]; exact Nat.le_of_ble_eq_true rfl) ?_
  refine Bod.go dc_409_50 rfl ?_
  refine Bod.get dc_409_51 fr_409_499 (mk_61 _) rfl ?_
  refine Bod.go dc_409_54 rfl ?_
  refine Bod.laldN (t - 1) rfl (by omega) (by omega) dc_409_55 (mk_92 _) ?_
  refine Bod.go dc_409_56 rfl ?_
  refine Bod.go dc_409_57 rfl ?_
  refine Bod.ifF dc_409_58 rfl w12 ?_
  refine Bod.go dc_409_61 rfl ?_
  refine Bod.get dc_409_62 fr_409_499 (mk_61 _) rfl ?_
  refine Bod.go dc_409_65 rfl ?_
  refine Bod.laldN (t - 1) rfl (by omega) (by omega) dc_409_66 (mk_92 _) ?_
  refine Bod.go dc_409_67 rfl ?_
  refine Bod.go dc_409_68 rfl ?_
  refine Bod.go dc_409_69 rfl ?_
  refine Bod.go dc_409_70 rfl ?_
  refine Bod.lst dc_409_79 (by rw [ml_409]; exact Nat.le_of_ble_eq_true rfl) ?_
  refine Bod.go dc_409_81 rfl ?_
  refine Bod.go dc_409_83 rfl ?_
  refine Bod.go dc_409_84 rfl ?_
  refine Bod.ic 1 (by decide) dc_409_85 ?_
  refine Bod.go dc_409_86 rfl ?_
  refine Bod.go dc_409_87 rfl ?_
  refine Bod.stat (r := []) dc_409_88 kr_409_680 (Or.inl rfl) (by rw [np_284]; rfl) (by rw [np_284]; rfl) (by rw [np_284]; exact Nat.le_of_ble_eq_true rfl) (Nat.le_of_ble_eq_true rfl) (c2  ) ?_
  show Bod _ _ _ _ [_] _ _ _
  refine Bod.ifF dc_409_91 rfl (k1_ne_F (k_eq 0 0 rfl rfl (by omega))) ?_
  refine Bod.go dc_409_94 rfl ?_
  refine Bod.ic 3 (by decide) dc_409_95 ?_
  refine Bod.virt (r := []) dc_409_96 kr_409_608 ⟨Or.inl rfl, ow_351, cl_14⟩ (by rw [np_351]; rfl) (by rw [np_351]; rfl) (ob_of (mk_61 _)) (Nat.le_of_ble_eq_true rfl) (c3  ) ?_
  show Bod _ _ _ _ [_] _ _ _
  exact Bod.retZ dc_409_99 rt_409 (Or.inl rfl)
theorem rGj_10 {d : Nat} {S : cS} {t : Nat} {e91 : Nat} {e911 : Nat} {S1 : cS} (ht : sI S 6151 = nI t) (mt : t < 20481) (b1 : 2 ≤ t) (b2 : 1 ≤ t) (he91 : sA S 91 (t - 2) = nI e91) (me91 : e91 < 2 ^ 20) (b3 : e91 = 2) (he911 : sA S 91 (t - 1) = nI e911) (me911 : e911 < 2 ^ 20) (b4 : e911 ≠ 1) (c1 : Ans (d + 8) 351 [.ref 61, .int (nI 2)] S (some (.int (nI 0))) S1) : Bod (d + 8) 409 0 [(0, .ref 61)] [] S (some (.int 0)) (S1) := by
  refine Bod.go dc_409_0 rfl ?_
  refine Bod.get dc_409_1 fr_409_493 (mk_61 _) rfl ?_
  refine Bod.eqI (nI t) (by first | assumption | rfl | exact congrArg nI (by omega) | (simp (disch := omega) only [rI, rIe, rA, rIA, rLA, rJA, rVI, rQI, rVA, rQA, upd_at,  rAI, rLI, rJI, nI_add, pk_sub, kc_0, kc_1, kc_2, kc_3, kc_4, kc_5, reduceIte, Nat.reduceEqDiff, Nat.add_zero, rI_hold, rI_hold, rL_hold, ht]; done)) ?_
  refine Bod.ic 2 (by decide) dc_409_4 ?_
  refine Bod.subN (t - 2) (by omega) (by omega) dc_409_5 ?_
  refine Bod.istn dc_409_6 (by rw [ml_409]; exact Nat.le_of_ble_eq_true rfl) ?_
  refine Bod.go dc_409_7 rfl ?_
  refine Bod.get dc_409_8 fr_409_493 (mk_61 _) rfl ?_
  refine Bod.eqI (nI t) (by first | assumption | rfl | exact congrArg nI (by omega) | (simp (disch := omega) only [rI, rIe, rA, rIA, rLA, rJA, rVI, rQI, rVA, rQA, upd_at,  rAI, rLI, rJI, nI_add, pk_sub, kc_0, kc_1, kc_2, kc_3, kc_4, kc_5, reduceIte, Nat.reduceEqDiff, Nat.add_zero, rI_hold, rI_hold, rL_hold, ht]; done)) ?_
  refine Bod.ic 1 (by decide) dc_409_11 ?_
  refine Bod.subN (t - 1) (by omega) (by omega) dc_409_12 ?_
  refine Bod.istn dc_409_13 (by rw [ml_409]; exact Nat.le_of_ble_eq_true rfl) ?_
  refine Bod.go dc_409_14 rfl ?_
  refine Bod.get dc_409_15 fr_409_496 (mk_61 _) rfl ?_
  refine Bod.go dc_409_18 rfl ?_
  refine Bod.ialdN (t - 2) rfl (by omega) (by omega) dc_409_19 (mk_91 _) ?_
  refine Bod.eqI (nI e91) (by first | assumption | rfl | exact congrArg nI (by omega) | (simp (disch := omega) only [rI, rIe, rA, rIA, rLA, rJA, rVI, rQI, rVA, rQA, upd_at,  rAI, rLI, rJI, nI_add, pk_sub, kc_0, kc_1, kc_2, kc_3, kc_4, kc_5, reduceIte, Nat.reduceEqDiff, Nat.add_zero, rI_hold, rI_hold, rL_hold, ht, he91]; done)) ?_
  refine Bod.ic 2 (by decide) dc_409_20 ?_
  refine Bod.icF dc_409_21 rfl (k2_ne_F (k_eq e91 2 rfl rfl (by omega))) ?_
  refine Bod.go dc_409_24 rfl ?_
  refine Bod.get dc_409_25 fr_409_496 (mk_61 _) rfl ?_
  refine Bod.go dc_409_28 rfl ?_
  refine Bod.ialdN (t - 1) rfl (by omega) (by omega) dc_409_29 (mk_91 _) ?_
  refine Bod.eqI (nI e911) (by first | assumption | rfl | exact congrArg nI (by omega) | (simp (disch := omega) only [rI, rIe, rA, rIA, rLA, rJA, rVI, rQI, rVA, rQA, upd_at,  rAI, rLI, rJI, nI_add, pk_sub, kc_0, kc_1, kc_2, kc_3, kc_4, kc_5, reduceIte, Nat.reduceEqDiff, Nat.add_zero, rI_hold, rI_hold, rL_hold, ht, he91, he911]; done)) ?_
  refine Bod.ic 1 (by decide) dc_409_30 ?_
  refine Bod.icF dc_409_31 rfl (k2_eq_F (k_ne e911 1 rfl rfl (by omega) (by omega) (by omega))) ?_
  refine Bod.go dc_409_34 rfl ?_
  refine Bod.ic 2 (by decide) dc_409_35 ?_
  refine Bod.virt (r := []) dc_409_36 kr_409_608 ⟨Or.inl rfl, ow_351, cl_14⟩ (by rw [np_351]; rfl) (by rw [np_351]; rfl) (ob_of (mk_61 _)) (Nat.le_of_ble_eq_true rfl) (c1  ) ?_
  show Bod _ _ _ _ [_] _ _ _
  exact Bod.retZ dc_409_39 rt_409 (Or.inl rfl)
theorem rBy_1 {d : Nat} {S : cS} {xa : Int64} {xb : Int64} {ni : Nat} {o : Nat} (mni : ni < 2 ^ 20) (b1 : 8 ≤ ni) (b2 : 8 * ni - 64 ≤ 56) (ho : (((xb.toUInt64 >>> ((nI (120 - (8 * ni))).toInt64.toUInt64 &&& Int64.toUInt64 63)).toInt64) &&& ((255))).toInt32 = nI o) (mo : o < 1500) : Bod (d + 8) 386 0 [(0, .long xa), (2, .long xb), (4, .int (nI ni))] [] S (some (.int (nI o))) (S) := by
  refine Bod.go dc_386_0 rfl ?_
  refine Bod.bip 8 (by decide) dc_386_2 ?_
  refine Bod.icT dc_386_4 rfl (k2_ge_T ni 8 rfl rfl (by omega) (by omega)) ?_
  refine Bod.go dc_386_20 rfl ?_
  refine Bod.bip 56 (by decide) dc_386_21 ?_
  refine Bod.bip 8 (by decide) dc_386_23 ?_
  refine Bod.go dc_386_25 rfl ?_
  refine Bod.bip 8 (by decide) dc_386_27 ?_
  refine Bod.subN (ni - 8) (by omega) (by omega) dc_386_29 ?_
  refine Bod.mulN (8 * ni - 64) (by omega) dc_386_30 ?_
  refine Bod.subN (120 - (8 * ni)) (by omega) (by omega) dc_386_31 ?_
  refine Bod.go dc_386_32 rfl ?_
  refine Bod.ldc2 dc_386_33 cj_386_185 ?_
  refine Bod.go dc_386_36 rfl ?_
  refine Bod.go dc_386_37 rfl ?_
  refine Bod.eqI (nI o) (by first | exact ho | (simp only [rI, rIe, rA, rIA, rLA, rJA, rVI, rQI, rVA, rQA, upd_at,  rAI, rLI, rJI, nI_add, pk_sub, kc_0, kc_1, kc_2, kc_3, kc_4, kc_5, reduceIte, Nat.reduceEqDiff, Nat.add_zero, rI_hold, rI_hold, rL_hold]; exact ho)) ?_
  exact Bod.retI dc_386_38 rt_386
theorem rBy_2 {d : Nat} {S : cS} {xa : Int64} {xb : Int64} {ni : Nat} {o : Nat} (mni : ni < 2 ^ 20) (b1 : ni < 8) (b2 : 8 * ni ≤ 56) (ho : (((xa.toUInt64 >>> ((nI (56 - (8 * ni))).toInt64.toUInt64 &&& Int64.toUInt64 63)).toInt64) &&& ((255))).toInt32 = nI o) (mo : o < 1500) : Bod (d + 8) 386 0 [(0, .long xa), (2, .long xb), (4, .int (nI ni))] [] S (some (.int (nI o))) (S) := by
  refine Bod.go dc_386_0 rfl ?_
  refine Bod.bip 8 (by decide) dc_386_2 ?_
  refine Bod.icF dc_386_4 rfl (k2_ge_F ni 8 rfl rfl (by omega) (by omega)) ?_
  refine Bod.go dc_386_7 rfl ?_
  refine Bod.bip 56 (by decide) dc_386_8 ?_
  refine Bod.bip 8 (by decide) dc_386_10 ?_
  refine Bod.go dc_386_12 rfl ?_
  refine Bod.mulN (8 * ni) (by omega) dc_386_14 ?_
  refine Bod.subN (56 - (8 * ni)) (by omega) (by omega) dc_386_15 ?_
  refine Bod.go dc_386_16 rfl ?_
  refine Bod.go dc_386_17 rfl ?_
  refine Bod.ldc2 dc_386_33 cj_386_185 ?_
  refine Bod.go dc_386_36 rfl ?_
  refine Bod.go dc_386_37 rfl ?_
  refine Bod.eqI (nI o) (by first | exact ho | (simp only [rI, rIe, rA, rIA, rLA, rJA, rVI, rQI, rVA, rQA, upd_at,  rAI, rLI, rJI, nI_add, pk_sub, kc_0, kc_1, kc_2, kc_3, kc_4, kc_5, reduceIte, Nat.reduceEqDiff, Nat.add_zero, rI_hold, rI_hold, rL_hold]; exact ho)) ?_
  exact Bod.retI dc_386_38 rt_386
