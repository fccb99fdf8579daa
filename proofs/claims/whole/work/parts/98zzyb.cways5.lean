/-! WAYS of class and its block where a name may be any int; statements whose first token no rule begins with -/

theorem cClr0_1 {d : Nat} {S Sf : cS} {v : Option Value} {dp : Nat} {ind : Nat} {ln : Nat} {S1 : cS} {S2 : cS} {rb : Int32} {tk : Nat} {av : Nat} {S3 : cS} {ind1 : Nat} {S4 : cS} {S5 : cS} {a : Nat} {S6 : cS} {a1 : Nat} {av1 : Nat} {S7 : cS} {a2 : Nat} (mdp : dp < 2 ^ 20) (hind : sI S 3108 = nI ind) (mind : ind < 2 ^ 20) (hln : sI S 3106 = nI ln) (mln : ln < 2 ^ 20) (c1 : Ans (d + 8) 75 [.ref 31, .int (nI 47)] S none S1) (c2 : Ans (d + 8) 92 [.ref 43] S1 (some (.int rb)) S2) (htk : sI S2 3105 = nI tk) (mtk : tk < 2 ^ 20) (b1 : tk ≠ 6) (hav : sI S2 4305 = nI av) (mav : av < 2 ^ 20) (c3 : Ans (d + 8) 85 [.ref 43, .int (nI ind), .int (nI (dp + 1))] S2 (some (.int (nI 1))) S3) (hind1 : sI S3 3108 = nI ind1) (mind1 : ind1 < 2 ^ 20) (c4 : Ans (d + 8) 106 [.ref 43, .int (nI ind1), .int (nI (dp + 1)), .int (nI av)] S3 none S4) (ma : a < 2 ^ 20) (c5 : Ans (d + 8) 54 [.ref 23, .int (nI 3), .int (nI ln)] S4 (some (.int (nI a))) S5) (ma1 : a1 < 2 ^ 20) (c6 : Ans (d + 8) 68 [.ref 23, .int (nI 23), .int rb, .int (nI 0)] S5 (some (.int (nI a1))) S6) (hav1 : sI S6 4305 = nI av1) (mav1 : av1 < 2 ^ 20) (b2 : av ≤ av1) (ma2 : a2 < 2 ^ 20) (c7 : Ans (d + 8) 71 [.ref 23, .int (nI (av1 - av))] S6 (some (.int (nI a2))) S7) (hB : ∀ lv1 : sm_L, sm_get lv1 0 = some (.ref 43) → sm_get lv1 7 = some (.int (nI av)) → sm_get lv1 8 = some (.int (nI av)) → sm_get lv1 4 = some (.int rb) → Bod (d + 8) 105 184 lv1 [] (S7) v Sf) : Bod (d + 8) 105 0 [(0, .ref 43), (1, .int (nI dp))] [] S v Sf := by
  refine Bod.go dc_105_0 rfl ?_
  refine Bod.get dc_105_1 fr_105_9 (mk_43 _) rfl ?_
  refine Bod.get dc_105_4 fr_105_96 (mk_31 _) rfl ?_
  refine Bod.eqI (nI ind) (by first | assumption | rfl | exact congrArg nI (by omega) | (simp (disch := omega) only [rI, rIe, rA, rIA, rLA, rJA, rVI, rQI, rVA, rQA, upd_at,  rAI, rLI, rJI, nI_add, pk_sub, kc_0, kc_1, kc_2, kc_3, kc_4, kc_5, reduceIte, Nat.reduceEqDiff, Nat.add_zero, rI_hold, rI_hold, rL_hold, hind]; done)) ?_
  refine Bod.istn dc_105_7 (by rw [ml_105]; exact Nat.le_of_ble_eq_true rfl) ?_
  refine Bod.go dc_105_8 rfl ?_
  refine Bod.get dc_105_9 fr_105_9 (mk_43 _) rfl ?_
  refine Bod.get dc_105_12 fr_105_113 (mk_31 _) rfl ?_
  refine Bod.eqI (nI ln) (by first | assumption | rfl | exact congrArg nI (by omega) | (simp (disch := omega) only [rI, rIe, rA, rIA, rLA, rJA, rVI, rQI, rVA, rQA, upd_at,  rAI, rLI, rJI, nI_add, pk_sub, kc_0, kc_1, kc_2, kc_3, kc_4, kc_5, reduceIte, Nat.reduceEqDiff, Nat.add_zero, rI_hold, rI_hold, rL_hold, hind, hln]; done)) ?_
  refine Bod.istn dc_105_15 (by rw [ml_105]; exact Nat.le_of_ble_eq_true rfl) ?_
  refine Bod.go dc_105_16 rfl ?_
  refine Bod.get dc_105_17 fr_105_9 (mk_43 _) rfl ?_
  refine Bod.bip 47 (by decide) dc_105_20 ?_
  refine Bod.virt (r := []) dc_105_22 kr_105_107 ⟨Or.inr rfl, ow_75, cl_3⟩ (by rw [np_75]; rfl) (by rw [np_75]; rfl) (ob_of (mk_31 _)) (Nat.le_of_ble_eq_true rfl) (c1  ) ?_
  show Bod _ _ _ _ [] _ _ _
  refine Bod.go dc_105_25 rfl ?_
  refine Bod.virt (r := []) dc_105_26 kr_105_220 ⟨Or.inl rfl, ow_92, cl_10⟩ (by rw [np_92]; rfl) (by rw [np_92]; rfl) (ob_of (mk_43 _)) (Nat.le_of_ble_eq_true rfl) (c2  ) ?_
  show Bod _ _ _ _ [_] _ _ _
  refine Bod.ist dc_105_29 (by rw [ml_105]; exact Nat.le_of_ble_eq_true rfl) ?_
  refine Bod.go dc_105_31 rfl ?_
  refine Bod.get dc_105_32 fr_105_9 (mk_43 _) rfl ?_
  refine Bod.get dc_105_35 fr_105_79 (mk_31 _) rfl ?_
  refine Bod.eqI (nI tk) (by first | (simp (disch := omega) only [rI, rIe, rA, rIA, rLA, rJA, rVI, rQI, rVA, rQA, upd_at,  rAI, rLI, rJI, nI_add, pk_sub, kc_0, kc_1, kc_2, kc_3, kc_4, kc_5, reduceIte, Nat.reduceEqDiff, Nat.add_zero, rI_hold, rI_hold, rL_hold, hind, hln, htk]; done) | (simp (disch := omega) only [rI, rIe, rA, rIA, rLA, rJA, rVI, rQI, rVA, rQA, upd_at,  rAI, rLI, rJI, nI_add, pk_sub, kc_0, kc_1, kc_2, kc_3, kc_4, kc_5, reduceIte, Nat.reduceEqDiff, Nat.add_zero, rI_hold, rI_hold, rL_hold, hind, hln, htk]; exact congrArg nI (by omega))) ?_
  refine Bod.bip 6 (by decide) dc_105_38 ?_
  refine Bod.icT dc_105_40 rfl (k2_ne_T (k_ne tk 6 rfl rfl (by omega) (by omega) (by omega))) ?_
  refine Bod.ic 0 (by decide) dc_105_47 ?_
  refine Bod.ist dc_105_48 (by rw [ml_105]; exact Nat.le_of_ble_eq_true rfl) ?_
  refine Bod.go dc_105_50 rfl ?_
  refine Bod.ist dc_105_52 (by rw [ml_105]; exact Nat.le_of_ble_eq_true rfl) ?_
  refine Bod.go dc_105_54 rfl ?_
  refine Bod.ifT dc_105_56 rfl (k1_eq_T (k_eq 0 0 rfl rfl (by omega))) ?_
  refine Bod.go dc_105_83 rfl ?_
  refine Bod.get dc_105_84 fr_105_42 (mk_43 _) rfl ?_
  refine Bod.eqI (nI av) (by first | (simp (disch := omega) only [rI, rIe, rA, rIA, rLA, rJA, rVI, rQI, rVA, rQA, upd_at,  rAI, rLI, rJI, nI_add, pk_sub, kc_0, kc_1, kc_2, kc_3, kc_4, kc_5, reduceIte, Nat.reduceEqDiff, Nat.add_zero, rI_hold, rI_hold, rL_hold, hind, hln, htk, hav]; done) | (simp (disch := omega) only [rI, rIe, rA, rIA, rLA, rJA, rVI, rQI, rVA, rQA, upd_at,  rAI, rLI, rJI, nI_add, pk_sub, kc_0, kc_1, kc_2, kc_3, kc_4, kc_5, reduceIte, Nat.reduceEqDiff, Nat.add_zero, rI_hold, rI_hold, rL_hold, hind, hln, htk, hav]; exact congrArg nI (by omega))) ?_
  refine Bod.ist dc_105_87 (by rw [ml_105]; exact Nat.le_of_ble_eq_true rfl) ?_
  refine Bod.go dc_105_89 rfl ?_
  refine Bod.go dc_105_90 rfl ?_
  refine Bod.go dc_105_91 rfl ?_
  refine Bod.ic 1 (by decide) dc_105_92 ?_
  refine Bod.addN (dp + 1) (by omega) dc_105_93 ?_
  refine Bod.virt (r := []) dc_105_94 kr_105_99 ⟨Or.inl rfl, ow_85, cl_10⟩ (by rw [np_85]; rfl) (by rw [np_85]; rfl) (ob_of (mk_43 _)) (Nat.le_of_ble_eq_true rfl) (c3  ) ?_
  show Bod _ _ _ _ [_] _ _ _
  refine Bod.ifF dc_105_97 rfl (k1_eq_F (k_ne 1 0 rfl rfl (by omega) (by omega) (by omega))) ?_
  refine Bod.go dc_105_100 rfl ?_
  refine Bod.go dc_105_101 rfl ?_
  refine Bod.get dc_105_102 fr_105_9 (mk_43 _) rfl ?_
  refine Bod.get dc_105_105 fr_105_96 (mk_31 _) rfl ?_
  refine Bod.eqI (nI ind1) (by first | (simp (disch := omega) only [rI, rIe, rA, rIA, rLA, rJA, rVI, rQI, rVA, rQA, upd_at,  rAI, rLI, rJI, nI_add, pk_sub, kc_0, kc_1, kc_2, kc_3, kc_4, kc_5, reduceIte, Nat.reduceEqDiff, Nat.add_zero, rI_hold, rI_hold, rL_hold, hind, hln, htk, hav, hind1]; done) | (simp (disch := omega) only [rI, rIe, rA, rIA, rLA, rJA, rVI, rQI, rVA, rQA, upd_at,  rAI, rLI, rJI, nI_add, pk_sub, kc_0, kc_1, kc_2, kc_3, kc_4, kc_5, reduceIte, Nat.reduceEqDiff, Nat.add_zero, rI_hold, rI_hold, rL_hold, hind, hln, htk, hav, hind1]; exact congrArg nI (by omega))) ?_
  refine Bod.go dc_105_108 rfl ?_
  refine Bod.ic 1 (by decide) dc_105_109 ?_
  refine Bod.addN (dp + 1) (by omega) dc_105_110 ?_
  refine Bod.go dc_105_111 rfl ?_
  refine Bod.virt (r := []) dc_105_113 kr_105_254 ⟨Or.inl rfl, ow_106, cl_10⟩ (by rw [np_106]; rfl) (by rw [np_106]; rfl) (ob_of (mk_43 _)) (Nat.le_of_ble_eq_true rfl) (c4  ) ?_
  show Bod _ _ _ _ [] _ _ _
  refine Bod.go dc_105_116 rfl ?_
  refine Bod.get dc_105_117 fr_105_15 (mk_43 _) rfl ?_
  refine Bod.ic 3 (by decide) dc_105_120 ?_
  refine Bod.go dc_105_121 rfl ?_
  refine Bod.virt (r := []) dc_105_122 kr_105_116 ⟨Or.inr rfl, ow_54, cl_7⟩ (by rw [np_54]; rfl) (by rw [np_54]; rfl) (ob_of (mk_23 _)) (Nat.le_of_ble_eq_true rfl) (c5  ) ?_
  show Bod _ _ _ _ [_] _ _ _
  refine Bod.go dc_105_125 rfl ?_
  refine Bod.go dc_105_126 rfl ?_
  refine Bod.ifT dc_105_128 rfl (k1_eq_T (k_eq 0 0 rfl rfl (by omega))) ?_
  refine Bod.go dc_105_143 rfl ?_
  refine Bod.get dc_105_144 fr_105_15 (mk_43 _) rfl ?_
  refine Bod.bip 23 (by decide) dc_105_147 ?_
  refine Bod.go dc_105_149 rfl ?_
  refine Bod.go dc_105_151 rfl ?_
  refine Bod.ifT dc_105_153 rfl (k1_eq_T (k_eq 0 0 rfl rfl (by omega))) ?_
  refine Bod.ic 0 (by decide) dc_105_160 ?_
  refine Bod.virt (r := []) dc_105_161 kr_105_257 ⟨Or.inr rfl, ow_68, cl_7⟩ (by rw [np_68]; rfl) (by rw [np_68]; rfl) (ob_of (mk_23 _)) (Nat.le_of_ble_eq_true rfl) (c6  ) ?_
  show Bod _ _ _ _ [_] _ _ _
  refine Bod.go dc_105_164 rfl ?_
  refine Bod.go dc_105_165 rfl ?_
  refine Bod.get dc_105_166 fr_105_15 (mk_43 _) rfl ?_
  refine Bod.go dc_105_169 rfl ?_
  refine Bod.get dc_105_170 fr_105_42 (mk_43 _) rfl ?_
  refine Bod.eqI (nI av1) (by first | (simp (disch := omega) only [rI, rIe, rA, rIA, rLA, rJA, rVI, rQI, rVA, rQA, upd_at,  rAI, rLI, rJI, nI_add, pk_sub, kc_0, kc_1, kc_2, kc_3, kc_4, kc_5, reduceIte, Nat.reduceEqDiff, Nat.add_zero, rI_hold, rI_hold, rL_hold, hind, hln, htk, hav, hind1, hav1]; done) | (simp (disch := omega) only [rI, rIe, rA, rIA, rLA, rJA, rVI, rQI, rVA, rQA, upd_at,  rAI, rLI, rJI, nI_add, pk_sub, kc_0, kc_1, kc_2, kc_3, kc_4, kc_5, reduceIte, Nat.reduceEqDiff, Nat.add_zero, rI_hold, rI_hold, rL_hold, hind, hln, htk, hav, hind1, hav1]; exact congrArg nI (by omega))) ?_
  refine Bod.go dc_105_173 rfl ?_
  refine Bod.subN (av1 - av) (by omega) (by omega) dc_105_175 ?_
  refine Bod.virt (r := []) dc_105_176 kr_105_72 ⟨Or.inr rfl, ow_71, cl_7⟩ (by rw [np_71]; rfl) (by rw [np_71]; rfl) (ob_of (mk_23 _)) (Nat.le_of_ble_eq_true rfl) (c7  ) ?_
  show Bod _ _ _ _ [_] _ _ _
  refine Bod.go dc_105_179 rfl ?_
  refine Bod.go dc_105_180 rfl ?_
  refine Bod.ist dc_105_182 (by rw [ml_105]; exact Nat.le_of_ble_eq_true rfl) ?_
  exact hB _ (by first | rfl | exact (by repeat (first | exact rfl | exact sm_get_p1 | exact sm_get_p2e | refine sm_get_p1m (by decide) (by decide) ?_ | refine sm_get_p1n (by decide) rfl ?_ | refine sm_get_p2n (by decide) (by decide) rfl ?_))) (by first | rfl | exact (by repeat (first | exact rfl | exact sm_get_p1 | exact sm_get_p2e | refine sm_get_p1m (by decide) (by decide) ?_ | refine sm_get_p1n (by decide) rfl ?_ | refine sm_get_p2n (by decide) (by decide) rfl ?_))) (by first | rfl | exact (by repeat (first | exact rfl | exact sm_get_p1 | exact sm_get_p2e | refine sm_get_p1m (by decide) (by decide) ?_ | refine sm_get_p1n (by decide) rfl ?_ | refine sm_get_p2n (by decide) (by decide) rfl ?_))) (by first | rfl | exact (by repeat (first | exact rfl | exact sm_get_p1 | exact sm_get_p2e | refine sm_get_p1m (by decide) (by decide) ?_ | refine sm_get_p1n (by decide) rfl ?_ | refine sm_get_p2n (by decide) (by decide) rfl ?_)))
theorem cClr0_2 {d : Nat} {S Sf : cS} {v : Option Value} {dp : Nat} {ind : Nat} {ln : Nat} {S1 : cS} {S2 : cS} {rb : Int32} {tk : Nat} {av : Nat} {S3 : cS} {S4 : cS} {a : Nat} {S5 : cS} {a1 : Nat} {av1 : Nat} {S6 : cS} {a2 : Nat} (mdp : dp < 2 ^ 20) (hind : sI S 3108 = nI ind) (mind : ind < 2 ^ 20) (hln : sI S 3106 = nI ln) (mln : ln < 2 ^ 20) (c1 : Ans (d + 8) 75 [.ref 31, .int (nI 47)] S none S1) (c2 : Ans (d + 8) 92 [.ref 43] S1 (some (.int rb)) S2) (htk : sI S2 3105 = nI tk) (mtk : tk < 2 ^ 20) (b1 : tk ≠ 6) (hav : sI S2 4305 = nI av) (mav : av < 2 ^ 20) (c3 : Ans (d + 8) 85 [.ref 43, .int (nI ind), .int (nI (dp + 1))] S2 (some (.int (nI 0))) S3) (ma : a < 2 ^ 20) (c4 : Ans (d + 8) 54 [.ref 23, .int (nI 3), .int (nI ln)] S3 (some (.int (nI a))) S4) (ma1 : a1 < 2 ^ 20) (c5 : Ans (d + 8) 68 [.ref 23, .int (nI 23), .int rb, .int (nI 0)] S4 (some (.int (nI a1))) S5) (hav1 : sI S5 4305 = nI av1) (mav1 : av1 < 2 ^ 20) (b2 : av ≤ av1) (ma2 : a2 < 2 ^ 20) (c6 : Ans (d + 8) 71 [.ref 23, .int (nI (av1 - av))] S5 (some (.int (nI a2))) S6) (hB : ∀ lv1 : sm_L, sm_get lv1 0 = some (.ref 43) → sm_get lv1 7 = some (.int (nI av)) → sm_get lv1 8 = some (.int (nI av)) → sm_get lv1 4 = some (.int rb) → Bod (d + 8) 105 184 lv1 [] (S6) v Sf) : Bod (d + 8) 105 0 [(0, .ref 43), (1, .int (nI dp))] [] S v Sf := by
  refine Bod.go dc_105_0 rfl ?_
  refine Bod.get dc_105_1 fr_105_9 (mk_43 _) rfl ?_
  refine Bod.get dc_105_4 fr_105_96 (mk_31 _) rfl ?_
  refine Bod.eqI (nI ind) (by first | assumption | rfl | exact congrArg nI (by omega) | (simp (disch := omega) only [rI, rIe, rA, rIA, rLA, rJA, rVI, rQI, rVA, rQA, upd_at,  rAI, rLI, rJI, nI_add, pk_sub, kc_0, kc_1, kc_2, kc_3, kc_4, kc_5, reduceIte, Nat.reduceEqDiff, Nat.add_zero, rI_hold, rI_hold, rL_hold, hind]; done)) ?_
  refine Bod.istn dc_105_7 (by rw [ml_105]; exact Nat.le_of_ble_eq_true rfl) ?_
  refine Bod.go dc_105_8 rfl ?_
  refine Bod.get dc_105_9 fr_105_9 (mk_43 _) rfl ?_
  refine Bod.get dc_105_12 fr_105_113 (mk_31 _) rfl ?_
  refine Bod.eqI (nI ln) (by first | assumption | rfl | exact congrArg nI (by omega) | (simp (disch := omega) only [rI, rIe, rA, rIA, rLA, rJA, rVI, rQI, rVA, rQA, upd_at,  rAI, rLI, rJI, nI_add, pk_sub, kc_0, kc_1, kc_2, kc_3, kc_4, kc_5, reduceIte, Nat.reduceEqDiff, Nat.add_zero, rI_hold, rI_hold, rL_hold, hind, hln]; done)) ?_
  refine Bod.istn dc_105_15 (by rw [ml_105]; exact Nat.le_of_ble_eq_true rfl) ?_
  refine Bod.go dc_105_16 rfl ?_
  refine Bod.get dc_105_17 fr_105_9 (mk_43 _) rfl ?_
  refine Bod.bip 47 (by decide) dc_105_20 ?_
  refine Bod.virt (r := []) dc_105_22 kr_105_107 ⟨Or.inr rfl, ow_75, cl_3⟩ (by rw [np_75]; rfl) (by rw [np_75]; rfl) (ob_of (mk_31 _)) (Nat.le_of_ble_eq_true rfl) (c1  ) ?_
  show Bod _ _ _ _ [] _ _ _
  refine Bod.go dc_105_25 rfl ?_
  refine Bod.virt (r := []) dc_105_26 kr_105_220 ⟨Or.inl rfl, ow_92, cl_10⟩ (by rw [np_92]; rfl) (by rw [np_92]; rfl) (ob_of (mk_43 _)) (Nat.le_of_ble_eq_true rfl) (c2  ) ?_
  show Bod _ _ _ _ [_] _ _ _
  refine Bod.ist dc_105_29 (by rw [ml_105]; exact Nat.le_of_ble_eq_true rfl) ?_
  refine Bod.go dc_105_31 rfl ?_
  refine Bod.get dc_105_32 fr_105_9 (mk_43 _) rfl ?_
  refine Bod.get dc_105_35 fr_105_79 (mk_31 _) rfl ?_
  refine Bod.eqI (nI tk) (by first | (simp (disch := omega) only [rI, rIe, rA, rIA, rLA, rJA, rVI, rQI, rVA, rQA, upd_at,  rAI, rLI, rJI, nI_add, pk_sub, kc_0, kc_1, kc_2, kc_3, kc_4, kc_5, reduceIte, Nat.reduceEqDiff, Nat.add_zero, rI_hold, rI_hold, rL_hold, hind, hln, htk]; done) | (simp (disch := omega) only [rI, rIe, rA, rIA, rLA, rJA, rVI, rQI, rVA, rQA, upd_at,  rAI, rLI, rJI, nI_add, pk_sub, kc_0, kc_1, kc_2, kc_3, kc_4, kc_5, reduceIte, Nat.reduceEqDiff, Nat.add_zero, rI_hold, rI_hold, rL_hold, hind, hln, htk]; exact congrArg nI (by omega))) ?_
  refine Bod.bip 6 (by decide) dc_105_38 ?_
  refine Bod.icT dc_105_40 rfl (k2_ne_T (k_ne tk 6 rfl rfl (by omega) (by omega) (by omega))) ?_
  refine Bod.ic 0 (by decide) dc_105_47 ?_
  refine Bod.ist dc_105_48 (by rw [ml_105]; exact Nat.le_of_ble_eq_true rfl) ?_
  refine Bod.go dc_105_50 rfl ?_
  refine Bod.ist dc_105_52 (by rw [ml_105]; exact Nat.le_of_ble_eq_true rfl) ?_
  refine Bod.go dc_105_54 rfl ?_
  refine Bod.ifT dc_105_56 rfl (k1_eq_T (k_eq 0 0 rfl rfl (by omega))) ?_
  refine Bod.go dc_105_83 rfl ?_
  refine Bod.get dc_105_84 fr_105_42 (mk_43 _) rfl ?_
  refine Bod.eqI (nI av) (by first | (simp (disch := omega) only [rI, rIe, rA, rIA, rLA, rJA, rVI, rQI, rVA, rQA, upd_at,  rAI, rLI, rJI, nI_add, pk_sub, kc_0, kc_1, kc_2, kc_3, kc_4, kc_5, reduceIte, Nat.reduceEqDiff, Nat.add_zero, rI_hold, rI_hold, rL_hold, hind, hln, htk, hav]; done) | (simp (disch := omega) only [rI, rIe, rA, rIA, rLA, rJA, rVI, rQI, rVA, rQA, upd_at,  rAI, rLI, rJI, nI_add, pk_sub, kc_0, kc_1, kc_2, kc_3, kc_4, kc_5, reduceIte, Nat.reduceEqDiff, Nat.add_zero, rI_hold, rI_hold, rL_hold, hind, hln, htk, hav]; exact congrArg nI (by omega))) ?_
  refine Bod.ist dc_105_87 (by rw [ml_105]; exact Nat.le_of_ble_eq_true rfl) ?_
  refine Bod.go dc_105_89 rfl ?_
  refine Bod.go dc_105_90 rfl ?_
  refine Bod.go dc_105_91 rfl ?_
  refine Bod.ic 1 (by decide) dc_105_92 ?_
  refine Bod.addN (dp + 1) (by omega) dc_105_93 ?_
  refine Bod.virt (r := []) dc_105_94 kr_105_99 ⟨Or.inl rfl, ow_85, cl_10⟩ (by rw [np_85]; rfl) (by rw [np_85]; rfl) (ob_of (mk_43 _)) (Nat.le_of_ble_eq_true rfl) (c3  ) ?_
  show Bod _ _ _ _ [_] _ _ _
  refine Bod.ifT dc_105_97 rfl (k1_eq_T (k_eq 0 0 rfl rfl (by omega))) ?_
  refine Bod.go dc_105_116 rfl ?_
  refine Bod.get dc_105_117 fr_105_15 (mk_43 _) rfl ?_
  refine Bod.ic 3 (by decide) dc_105_120 ?_
  refine Bod.go dc_105_121 rfl ?_
  refine Bod.virt (r := []) dc_105_122 kr_105_116 ⟨Or.inr rfl, ow_54, cl_7⟩ (by rw [np_54]; rfl) (by rw [np_54]; rfl) (ob_of (mk_23 _)) (Nat.le_of_ble_eq_true rfl) (c4  ) ?_
  show Bod _ _ _ _ [_] _ _ _
  refine Bod.go dc_105_125 rfl ?_
  refine Bod.go dc_105_126 rfl ?_
  refine Bod.ifT dc_105_128 rfl (k1_eq_T (k_eq 0 0 rfl rfl (by omega))) ?_
  refine Bod.go dc_105_143 rfl ?_
  refine Bod.get dc_105_144 fr_105_15 (mk_43 _) rfl ?_
  refine Bod.bip 23 (by decide) dc_105_147 ?_
  refine Bod.go dc_105_149 rfl ?_
  refine Bod.go dc_105_151 rfl ?_
  refine Bod.ifT dc_105_153 rfl (k1_eq_T (k_eq 0 0 rfl rfl (by omega))) ?_
  refine Bod.ic 0 (by decide) dc_105_160 ?_
  refine Bod.virt (r := []) dc_105_161 kr_105_257 ⟨Or.inr rfl, ow_68, cl_7⟩ (by rw [np_68]; rfl) (by rw [np_68]; rfl) (ob_of (mk_23 _)) (Nat.le_of_ble_eq_true rfl) (c5  ) ?_
  show Bod _ _ _ _ [_] _ _ _
  refine Bod.go dc_105_164 rfl ?_
  refine Bod.go dc_105_165 rfl ?_
  refine Bod.get dc_105_166 fr_105_15 (mk_43 _) rfl ?_
  refine Bod.go dc_105_169 rfl ?_
  refine Bod.get dc_105_170 fr_105_42 (mk_43 _) rfl ?_
  refine Bod.eqI (nI av1) (by first | (simp (disch := omega) only [rI, rIe, rA, rIA, rLA, rJA, rVI, rQI, rVA, rQA, upd_at,  rAI, rLI, rJI, nI_add, pk_sub, kc_0, kc_1, kc_2, kc_3, kc_4, kc_5, reduceIte, Nat.reduceEqDiff, Nat.add_zero, rI_hold, rI_hold, rL_hold, hind, hln, htk, hav, hav1]; done) | (simp (disch := omega) only [rI, rIe, rA, rIA, rLA, rJA, rVI, rQI, rVA, rQA, upd_at,  rAI, rLI, rJI, nI_add, pk_sub, kc_0, kc_1, kc_2, kc_3, kc_4, kc_5, reduceIte, Nat.reduceEqDiff, Nat.add_zero, rI_hold, rI_hold, rL_hold, hind, hln, htk, hav, hav1]; exact congrArg nI (by omega))) ?_
  refine Bod.go dc_105_173 rfl ?_
  refine Bod.subN (av1 - av) (by omega) (by omega) dc_105_175 ?_
  refine Bod.virt (r := []) dc_105_176 kr_105_72 ⟨Or.inr rfl, ow_71, cl_7⟩ (by rw [np_71]; rfl) (by rw [np_71]; rfl) (ob_of (mk_23 _)) (Nat.le_of_ble_eq_true rfl) (c6  ) ?_
  show Bod _ _ _ _ [_] _ _ _
  refine Bod.go dc_105_179 rfl ?_
  refine Bod.go dc_105_180 rfl ?_
  refine Bod.ist dc_105_182 (by rw [ml_105]; exact Nat.le_of_ble_eq_true rfl) ?_
  exact hB _ (by first | rfl | exact (by repeat (first | exact rfl | exact sm_get_p1 | exact sm_get_p2e | refine sm_get_p1m (by decide) (by decide) ?_ | refine sm_get_p1n (by decide) rfl ?_ | refine sm_get_p2n (by decide) (by decide) rfl ?_))) (by first | rfl | exact (by repeat (first | exact rfl | exact sm_get_p1 | exact sm_get_p2e | refine sm_get_p1m (by decide) (by decide) ?_ | refine sm_get_p1n (by decide) rfl ?_ | refine sm_get_p2n (by decide) (by decide) rfl ?_))) (by first | rfl | exact (by repeat (first | exact rfl | exact sm_get_p1 | exact sm_get_p2e | refine sm_get_p1m (by decide) (by decide) ?_ | refine sm_get_p1n (by decide) rfl ?_ | refine sm_get_p2n (by decide) (by decide) rfl ?_))) (by first | rfl | exact (by repeat (first | exact rfl | exact sm_get_p1 | exact sm_get_p2e | refine sm_get_p1m (by decide) (by decide) ?_ | refine sm_get_p1n (by decide) rfl ?_ | refine sm_get_p2n (by decide) (by decide) rfl ?_)))
theorem cClr0_3 {d : Nat} {S Sf : cS} {v : Option Value} {dp : Nat} {ind : Nat} {ln : Nat} {S1 : cS} {S2 : cS} {rb : Int32} {tk : Nat} {S3 : cS} {S4 : cS} {rb1 : Int32} {S5 : cS} {av : Nat} {S6 : cS} {ind1 : Nat} {S7 : cS} {S8 : cS} {a : Nat} {S9 : cS} {a1 : Nat} {S10 : cS} {a2 : Nat} {av1 : Nat} {S11 : cS} {a3 : Nat} (mdp : dp < 2 ^ 20) (hind : sI S 3108 = nI ind) (mind : ind < 2 ^ 20) (hln : sI S 3106 = nI ln) (mln : ln < 2 ^ 20) (c1 : Ans (d + 8) 75 [.ref 31, .int (nI 47)] S none S1) (c2 : Ans (d + 8) 92 [.ref 43] S1 (some (.int rb)) S2) (htk : sI S2 3105 = nI tk) (mtk : tk < 2 ^ 20) (b1 : tk = 6) (c3 : Ans (d + 8) 75 [.ref 31, .int (nI 6)] S2 none S3) (c4 : Ans (d + 8) 92 [.ref 43] S3 (some (.int rb1)) S4) (c5 : Ans (d + 8) 75 [.ref 31, .int (nI 7)] S4 none S5) (hav : sI S5 4305 = nI av) (mav : av < 2 ^ 20) (c6 : Ans (d + 8) 85 [.ref 43, .int (nI ind), .int (nI (dp + 1))] S5 (some (.int (nI 1))) S6) (hind1 : sI S6 3108 = nI ind1) (mind1 : ind1 < 2 ^ 20) (c7 : Ans (d + 8) 106 [.ref 43, .int (nI ind1), .int (nI (dp + 1)), .int (nI av)] S6 none S7) (ma : a < 2 ^ 20) (c8 : Ans (d + 8) 54 [.ref 23, .int (nI 3), .int (nI ln)] S7 (some (.int (nI a))) S8) (ma1 : a1 < 2 ^ 20) (c9 : Ans (d + 8) 67 [.ref 32, .int (nI 18), .int rb1] S8 (some (.int (nI a1))) S9) (ma2 : a2 < 2 ^ 20) (c10 : Ans (d + 8) 68 [.ref 23, .int (nI 23), .int rb, .int (nI 1)] S9 (some (.int (nI a2))) S10) (hav1 : sI S10 4305 = nI av1) (mav1 : av1 < 2 ^ 20) (b2 : av ≤ av1) (ma3 : a3 < 2 ^ 20) (c11 : Ans (d + 8) 71 [.ref 23, .int (nI (av1 - av))] S10 (some (.int (nI a3))) S11) (hB : ∀ lv1 : sm_L, sm_get lv1 0 = some (.ref 43) → sm_get lv1 7 = some (.int (nI av)) → sm_get lv1 8 = some (.int (nI av)) → sm_get lv1 4 = some (.int rb) → Bod (d + 8) 105 184 lv1 [] (S11) v Sf) : Bod (d + 8) 105 0 [(0, .ref 43), (1, .int (nI dp))] [] S v Sf := by
  refine Bod.go dc_105_0 rfl ?_
  refine Bod.get dc_105_1 fr_105_9 (mk_43 _) rfl ?_
  refine Bod.get dc_105_4 fr_105_96 (mk_31 _) rfl ?_
  refine Bod.eqI (nI ind) (by first | assumption | rfl | exact congrArg nI (by omega) | (simp (disch := omega) only [rI, rIe, rA, rIA, rLA, rJA, rVI, rQI, rVA, rQA, upd_at,  rAI, rLI, rJI, nI_add, pk_sub, kc_0, kc_1, kc_2, kc_3, kc_4, kc_5, reduceIte, Nat.reduceEqDiff, Nat.add_zero, rI_hold, rI_hold, rL_hold, hind]; done)) ?_
  refine Bod.istn dc_105_7 (by rw [ml_105]; exact Nat.le_of_ble_eq_true rfl) ?_
  refine Bod.go dc_105_8 rfl ?_
  refine Bod.get dc_105_9 fr_105_9 (mk_43 _) rfl ?_
  refine Bod.get dc_105_12 fr_105_113 (mk_31 _) rfl ?_
  refine Bod.eqI (nI ln) (by first | assumption | rfl | exact congrArg nI (by omega) | (simp (disch := omega) only [rI, rIe, rA, rIA, rLA, rJA, rVI, rQI, rVA, rQA, upd_at,  rAI, rLI, rJI, nI_add, pk_sub, kc_0, kc_1, kc_2, kc_3, kc_4, kc_5, reduceIte, Nat.reduceEqDiff, Nat.add_zero, rI_hold, rI_hold, rL_hold, hind, hln]; done)) ?_
  refine Bod.istn dc_105_15 (by rw [ml_105]; exact Nat.le_of_ble_eq_true rfl) ?_
  refine Bod.go dc_105_16 rfl ?_
  refine Bod.get dc_105_17 fr_105_9 (mk_43 _) rfl ?_
  refine Bod.bip 47 (by decide) dc_105_20 ?_
  refine Bod.virt (r := []) dc_105_22 kr_105_107 ⟨Or.inr rfl, ow_75, cl_3⟩ (by rw [np_75]; rfl) (by rw [np_75]; rfl) (ob_of (mk_31 _)) (Nat.le_of_ble_eq_true rfl) (c1  ) ?_
  show Bod _ _ _ _ [] _ _ _
  refine Bod.go dc_105_25 rfl ?_
  refine Bod.virt (r := []) dc_105_26 kr_105_220 ⟨Or.inl rfl, ow_92, cl_10⟩ (by rw [np_92]; rfl) (by rw [np_92]; rfl) (ob_of (mk_43 _)) (Nat.le_of_ble_eq_true rfl) (c2  ) ?_
  show Bod _ _ _ _ [_] _ _ _
  refine Bod.ist dc_105_29 (by rw [ml_105]; exact Nat.le_of_ble_eq_true rfl) ?_
  refine Bod.go dc_105_31 rfl ?_
  refine Bod.get dc_105_32 fr_105_9 (mk_43 _) rfl ?_
  refine Bod.get dc_105_35 fr_105_79 (mk_31 _) rfl ?_
  refine Bod.eqI (nI tk) (by first | (simp (disch := omega) only [rI, rIe, rA, rIA, rLA, rJA, rVI, rQI, rVA, rQA, upd_at,  rAI, rLI, rJI, nI_add, pk_sub, kc_0, kc_1, kc_2, kc_3, kc_4, kc_5, reduceIte, Nat.reduceEqDiff, Nat.add_zero, rI_hold, rI_hold, rL_hold, hind, hln, htk]; done) | (simp (disch := omega) only [rI, rIe, rA, rIA, rLA, rJA, rVI, rQI, rVA, rQA, upd_at,  rAI, rLI, rJI, nI_add, pk_sub, kc_0, kc_1, kc_2, kc_3, kc_4, kc_5, reduceIte, Nat.reduceEqDiff, Nat.add_zero, rI_hold, rI_hold, rL_hold, hind, hln, htk]; exact congrArg nI (by omega))) ?_
  refine Bod.bip 6 (by decide) dc_105_38 ?_
  refine Bod.icF dc_105_40 rfl (k2_ne_F (k_eq tk 6 rfl rfl (by omega))) ?_
  refine Bod.ic 1 (by decide) dc_105_43 ?_
  refine Bod.go dc_105_44 rfl ?_
  refine Bod.ist dc_105_48 (by rw [ml_105]; exact Nat.le_of_ble_eq_true rfl) ?_
  refine Bod.go dc_105_50 rfl ?_
  refine Bod.ist dc_105_52 (by rw [ml_105]; exact Nat.le_of_ble_eq_true rfl) ?_
  refine Bod.go dc_105_54 rfl ?_
  refine Bod.ifF dc_105_56 rfl (k1_eq_F (k_ne 1 0 rfl rfl (by omega) (by omega) (by omega))) ?_
  refine Bod.go dc_105_59 rfl ?_
  refine Bod.get dc_105_60 fr_105_9 (mk_43 _) rfl ?_
  refine Bod.bip 6 (by decide) dc_105_63 ?_
  refine Bod.virt (r := []) dc_105_65 kr_105_107 ⟨Or.inr rfl, ow_75, cl_3⟩ (by rw [np_75]; rfl) (by rw [np_75]; rfl) (ob_of (mk_31 _)) (Nat.le_of_ble_eq_true rfl) (c3  ) ?_
  show Bod _ _ _ _ [] _ _ _
  refine Bod.go dc_105_68 rfl ?_
  refine Bod.virt (r := []) dc_105_69 kr_105_220 ⟨Or.inl rfl, ow_92, cl_10⟩ (by rw [np_92]; rfl) (by rw [np_92]; rfl) (ob_of (mk_43 _)) (Nat.le_of_ble_eq_true rfl) (c4  ) ?_
  show Bod _ _ _ _ [_] _ _ _
  refine Bod.ist dc_105_72 (by rw [ml_105]; exact Nat.le_of_ble_eq_true rfl) ?_
  refine Bod.go dc_105_74 rfl ?_
  refine Bod.get dc_105_75 fr_105_9 (mk_43 _) rfl ?_
  refine Bod.bip 7 (by decide) dc_105_78 ?_
  refine Bod.virt (r := []) dc_105_80 kr_105_107 ⟨Or.inr rfl, ow_75, cl_3⟩ (by rw [np_75]; rfl) (by rw [np_75]; rfl) (ob_of (mk_31 _)) (Nat.le_of_ble_eq_true rfl) (c5  ) ?_
  show Bod _ _ _ _ [] _ _ _
  refine Bod.go dc_105_83 rfl ?_
  refine Bod.get dc_105_84 fr_105_42 (mk_43 _) rfl ?_
  refine Bod.eqI (nI av) (by first | (simp (disch := omega) only [rI, rIe, rA, rIA, rLA, rJA, rVI, rQI, rVA, rQA, upd_at,  rAI, rLI, rJI, nI_add, pk_sub, kc_0, kc_1, kc_2, kc_3, kc_4, kc_5, reduceIte, Nat.reduceEqDiff, Nat.add_zero, rI_hold, rI_hold, rL_hold, hind, hln, htk, hav]; done) | (simp (disch := omega) only [rI, rIe, rA, rIA, rLA, rJA, rVI, rQI, rVA, rQA, upd_at,  rAI, rLI, rJI, nI_add, pk_sub, kc_0, kc_1, kc_2, kc_3, kc_4, kc_5, reduceIte, Nat.reduceEqDiff, Nat.add_zero, rI_hold, rI_hold, rL_hold, hind, hln, htk, hav]; exact congrArg nI (by omega))) ?_
  refine Bod.ist dc_105_87 (by rw [ml_105]; exact Nat.le_of_ble_eq_true rfl) ?_
  refine Bod.go dc_105_89 rfl ?_
  refine Bod.go dc_105_90 rfl ?_
  refine Bod.go dc_105_91 rfl ?_
  refine Bod.ic 1 (by decide) dc_105_92 ?_
  refine Bod.addN (dp + 1) (by omega) dc_105_93 ?_
  refine Bod.virt (r := []) dc_105_94 kr_105_99 ⟨Or.inl rfl, ow_85, cl_10⟩ (by rw [np_85]; rfl) (by rw [np_85]; rfl) (ob_of (mk_43 _)) (Nat.le_of_ble_eq_true rfl) (c6  ) ?_
  show Bod _ _ _ _ [_] _ _ _
  refine Bod.ifF dc_105_97 rfl (k1_eq_F (k_ne 1 0 rfl rfl (by omega) (by omega) (by omega))) ?_
  refine Bod.go dc_105_100 rfl ?_
  refine Bod.go dc_105_101 rfl ?_
  refine Bod.get dc_105_102 fr_105_9 (mk_43 _) rfl ?_
  refine Bod.get dc_105_105 fr_105_96 (mk_31 _) rfl ?_
  refine Bod.eqI (nI ind1) (by first | (simp (disch := omega) only [rI, rIe, rA, rIA, rLA, rJA, rVI, rQI, rVA, rQA, upd_at,  rAI, rLI, rJI, nI_add, pk_sub, kc_0, kc_1, kc_2, kc_3, kc_4, kc_5, reduceIte, Nat.reduceEqDiff, Nat.add_zero, rI_hold, rI_hold, rL_hold, hind, hln, htk, hav, hind1]; done) | (simp (disch := omega) only [rI, rIe, rA, rIA, rLA, rJA, rVI, rQI, rVA, rQA, upd_at,  rAI, rLI, rJI, nI_add, pk_sub, kc_0, kc_1, kc_2, kc_3, kc_4, kc_5, reduceIte, Nat.reduceEqDiff, Nat.add_zero, rI_hold, rI_hold, rL_hold, hind, hln, htk, hav, hind1]; exact congrArg nI (by omega))) ?_
  refine Bod.go dc_105_108 rfl ?_
  refine Bod.ic 1 (by decide) dc_105_109 ?_
  refine Bod.addN (dp + 1) (by omega) dc_105_110 ?_
  refine Bod.go dc_105_111 rfl ?_
  refine Bod.virt (r := []) dc_105_113 kr_105_254 ⟨Or.inl rfl, ow_106, cl_10⟩ (by rw [np_106]; rfl) (by rw [np_106]; rfl) (ob_of (mk_43 _)) (Nat.le_of_ble_eq_true rfl) (c7  ) ?_
  show Bod _ _ _ _ [] _ _ _
  refine Bod.go dc_105_116 rfl ?_
  refine Bod.get dc_105_117 fr_105_15 (mk_43 _) rfl ?_
  refine Bod.ic 3 (by decide) dc_105_120 ?_
  refine Bod.go dc_105_121 rfl ?_
  refine Bod.virt (r := []) dc_105_122 kr_105_116 ⟨Or.inr rfl, ow_54, cl_7⟩ (by rw [np_54]; rfl) (by rw [np_54]; rfl) (ob_of (mk_23 _)) (Nat.le_of_ble_eq_true rfl) (c8  ) ?_
  show Bod _ _ _ _ [_] _ _ _
  refine Bod.go dc_105_125 rfl ?_
  refine Bod.go dc_105_126 rfl ?_
  refine Bod.ifF dc_105_128 rfl (k1_eq_F (k_ne 1 0 rfl rfl (by omega) (by omega) (by omega))) ?_
  refine Bod.go dc_105_131 rfl ?_
  refine Bod.get dc_105_132 fr_105_19 (mk_43 _) rfl ?_
  refine Bod.bip 18 (by decide) dc_105_135 ?_
  refine Bod.go dc_105_137 rfl ?_
  refine Bod.virt (r := []) dc_105_139 kr_105_165 ⟨Or.inr rfl, ow_67, cl_8⟩ (by rw [np_67]; rfl) (by rw [np_67]; rfl) (ob_of (mk_32 _)) (Nat.le_of_ble_eq_true rfl) (c9  ) ?_
  show Bod _ _ _ _ [_] _ _ _
  refine Bod.go dc_105_142 rfl ?_
  refine Bod.go dc_105_143 rfl ?_
  refine Bod.get dc_105_144 fr_105_15 (mk_43 _) rfl ?_
  refine Bod.bip 23 (by decide) dc_105_147 ?_
  refine Bod.go dc_105_149 rfl ?_
  refine Bod.go dc_105_151 rfl ?_
  refine Bod.ifF dc_105_153 rfl (k1_eq_F (k_ne 1 0 rfl rfl (by omega) (by omega) (by omega))) ?_
  refine Bod.ic 1 (by decide) dc_105_156 ?_
  refine Bod.go dc_105_157 rfl ?_
  refine Bod.virt (r := []) dc_105_161 kr_105_257 ⟨Or.inr rfl, ow_68, cl_7⟩ (by rw [np_68]; rfl) (by rw [np_68]; rfl) (ob_of (mk_23 _)) (Nat.le_of_ble_eq_true rfl) (c10  ) ?_
  show Bod _ _ _ _ [_] _ _ _
  refine Bod.go dc_105_164 rfl ?_
  refine Bod.go dc_105_165 rfl ?_
  refine Bod.get dc_105_166 fr_105_15 (mk_43 _) rfl ?_
  refine Bod.go dc_105_169 rfl ?_
  refine Bod.get dc_105_170 fr_105_42 (mk_43 _) rfl ?_
  refine Bod.eqI (nI av1) (by first | (simp (disch := omega) only [rI, rIe, rA, rIA, rLA, rJA, rVI, rQI, rVA, rQA, upd_at,  rAI, rLI, rJI, nI_add, pk_sub, kc_0, kc_1, kc_2, kc_3, kc_4, kc_5, reduceIte, Nat.reduceEqDiff, Nat.add_zero, rI_hold, rI_hold, rL_hold, hind, hln, htk, hav, hind1, hav1]; done) | (simp (disch := omega) only [rI, rIe, rA, rIA, rLA, rJA, rVI, rQI, rVA, rQA, upd_at,  rAI, rLI, rJI, nI_add, pk_sub, kc_0, kc_1, kc_2, kc_3, kc_4, kc_5, reduceIte, Nat.reduceEqDiff, Nat.add_zero, rI_hold, rI_hold, rL_hold, hind, hln, htk, hav, hind1, hav1]; exact congrArg nI (by omega))) ?_
  refine Bod.go dc_105_173 rfl ?_
  refine Bod.subN (av1 - av) (by omega) (by omega) dc_105_175 ?_
  refine Bod.virt (r := []) dc_105_176 kr_105_72 ⟨Or.inr rfl, ow_71, cl_7⟩ (by rw [np_71]; rfl) (by rw [np_71]; rfl) (ob_of (mk_23 _)) (Nat.le_of_ble_eq_true rfl) (c11  ) ?_
  show Bod _ _ _ _ [_] _ _ _
  refine Bod.go dc_105_179 rfl ?_
  refine Bod.go dc_105_180 rfl ?_
  refine Bod.ist dc_105_182 (by rw [ml_105]; exact Nat.le_of_ble_eq_true rfl) ?_
  exact hB _ (by first | rfl | exact (by repeat (first | exact rfl | exact sm_get_p1 | exact sm_get_p2e | refine sm_get_p1m (by decide) (by decide) ?_ | refine sm_get_p1n (by decide) rfl ?_ | refine sm_get_p2n (by decide) (by decide) rfl ?_))) (by first | rfl | exact (by repeat (first | exact rfl | exact sm_get_p1 | exact sm_get_p2e | refine sm_get_p1m (by decide) (by decide) ?_ | refine sm_get_p1n (by decide) rfl ?_ | refine sm_get_p2n (by decide) (by decide) rfl ?_))) (by first | rfl | exact (by repeat (first | exact rfl | exact sm_get_p1 | exact sm_get_p2e | refine sm_get_p1m (by decide) (by decide) ?_ | refine sm_get_p1n (by decide) rfl ?_ | refine sm_get_p2n (by decide) (by decide) rfl ?_))) (by first | rfl | exact (by repeat (first | exact rfl | exact sm_get_p1 | exact sm_get_p2e | refine sm_get_p1m (by decide) (by decide) ?_ | refine sm_get_p1n (by decide) rfl ?_ | refine sm_get_p2n (by decide) (by decide) rfl ?_)))
theorem cClr0_4 {d : Nat} {S Sf : cS} {v : Option Value} {dp : Nat} {ind : Nat} {ln : Nat} {S1 : cS} {S2 : cS} {rb : Int32} {tk : Nat} {S3 : cS} {S4 : cS} {rb1 : Int32} {S5 : cS} {av : Nat} {S6 : cS} {S7 : cS} {a : Nat} {S8 : cS} {a1 : Nat} {S9 : cS} {a2 : Nat} {av1 : Nat} {S10 : cS} {a3 : Nat} (mdp : dp < 2 ^ 20) (hind : sI S 3108 = nI ind) (mind : ind < 2 ^ 20) (hln : sI S 3106 = nI ln) (mln : ln < 2 ^ 20) (c1 : Ans (d + 8) 75 [.ref 31, .int (nI 47)] S none S1) (c2 : Ans (d + 8) 92 [.ref 43] S1 (some (.int rb)) S2) (htk : sI S2 3105 = nI tk) (mtk : tk < 2 ^ 20) (b1 : tk = 6) (c3 : Ans (d + 8) 75 [.ref 31, .int (nI 6)] S2 none S3) (c4 : Ans (d + 8) 92 [.ref 43] S3 (some (.int rb1)) S4) (c5 : Ans (d + 8) 75 [.ref 31, .int (nI 7)] S4 none S5) (hav : sI S5 4305 = nI av) (mav : av < 2 ^ 20) (c6 : Ans (d + 8) 85 [.ref 43, .int (nI ind), .int (nI (dp + 1))] S5 (some (.int (nI 0))) S6) (ma : a < 2 ^ 20) (c7 : Ans (d + 8) 54 [.ref 23, .int (nI 3), .int (nI ln)] S6 (some (.int (nI a))) S7) (ma1 : a1 < 2 ^ 20) (c8 : Ans (d + 8) 67 [.ref 32, .int (nI 18), .int rb1] S7 (some (.int (nI a1))) S8) (ma2 : a2 < 2 ^ 20) (c9 : Ans (d + 8) 68 [.ref 23, .int (nI 23), .int rb, .int (nI 1)] S8 (some (.int (nI a2))) S9) (hav1 : sI S9 4305 = nI av1) (mav1 : av1 < 2 ^ 20) (b2 : av ≤ av1) (ma3 : a3 < 2 ^ 20) (c10 : Ans (d + 8) 71 [.ref 23, .int (nI (av1 - av))] S9 (some (.int (nI a3))) S10) (hB : ∀ lv1 : sm_L, sm_get lv1 0 = some (.ref 43) → sm_get lv1 7 = some (.int (nI av)) → sm_get lv1 8 = some (.int (nI av)) → sm_get lv1 4 = some (.int rb) → Bod (d + 8) 105 184 lv1 [] (S10) v Sf) : Bod (d + 8) 105 0 [(0, .ref 43), (1, .int (nI dp))] [] S v Sf := by
  refine Bod.go dc_105_0 rfl ?_
  refine Bod.get dc_105_1 fr_105_9 (mk_43 _) rfl ?_
  refine Bod.get dc_105_4 fr_105_96 (mk_31 _) rfl ?_
  refine Bod.eqI (nI ind) (by first | assumption | rfl | exact congrArg nI (by omega) | (simp (disch := omega) only [rI, rIe, rA, rIA, rLA, rJA, rVI, rQI, rVA, rQA, upd_at,  rAI, rLI, rJI, nI_add, pk_sub, kc_0, kc_1, kc_2, kc_3, kc_4, kc_5, reduceIte, Nat.reduceEqDiff, Nat.add_zero, rI_hold, rI_hold, rL_hold, hind]; done)) ?_
  refine Bod.istn dc_105_7 (by rw [ml_105]; exact Nat.le_of_ble_eq_true rfl) ?_
  refine Bod.go dc_105_8 rfl ?_
  refine Bod.get dc_105_9 fr_105_9 (mk_43 _) rfl ?_
  refine Bod.get dc_105_12 fr_105_113 (mk_31 _) rfl ?_
  refine Bod.eqI (nI ln) (by first | assumption | rfl | exact congrArg nI (by omega) | (simp (disch := omega) only [rI, rIe, rA, rIA, rLA, rJA, rVI, rQI, rVA, rQA, upd_at,  rAI, rLI, rJI, nI_add, pk_sub, kc_0, kc_1, kc_2, kc_3, kc_4, kc_5, reduceIte, Nat.reduceEqDiff, Nat.add_zero, rI_hold, rI_hold, rL_hold, hind, hln]; done)) ?_
  refine Bod.istn dc_105_15 (by rw [ml_105]; exact Nat.le_of_ble_eq_true rfl) ?_
  refine Bod.go dc_105_16 rfl ?_
  refine Bod.get dc_105_17 fr_105_9 (mk_43 _) rfl ?_
  refine Bod.bip 47 (by decide) dc_105_20 ?_
  refine Bod.virt (r := []) dc_105_22 kr_105_107 ⟨Or.inr rfl, ow_75, cl_3⟩ (by rw [np_75]; rfl) (by rw [np_75]; rfl) (ob_of (mk_31 _)) (Nat.le_of_ble_eq_true rfl) (c1  ) ?_
  show Bod _ _ _ _ [] _ _ _
  refine Bod.go dc_105_25 rfl ?_
  refine Bod.virt (r := []) dc_105_26 kr_105_220 ⟨Or.inl rfl, ow_92, cl_10⟩ (by rw [np_92]; rfl) (by rw [np_92]; rfl) (ob_of (mk_43 _)) (Nat.le_of_ble_eq_true rfl) (c2  ) ?_
  show Bod _ _ _ _ [_] _ _ _
  refine Bod.ist dc_105_29 (by rw [ml_105]; exact Nat.le_of_ble_eq_true rfl) ?_
  refine Bod.go dc_105_31 rfl ?_
  refine Bod.get dc_105_32 fr_105_9 (mk_43 _) rfl ?_
  refine Bod.get dc_105_35 fr_105_79 (mk_31 _) rfl ?_
  refine Bod.eqI (nI tk) (by first | (simp (disch := omega) only [rI, rIe, rA, rIA, rLA, rJA, rVI, rQI, rVA, rQA, upd_at,  rAI, rLI, rJI, nI_add, pk_sub, kc_0, kc_1, kc_2, kc_3, kc_4, kc_5, reduceIte, Nat.reduceEqDiff, Nat.add_zero, rI_hold, rI_hold, rL_hold, hind, hln, htk]; done) | (simp (disch := omega) only [rI, rIe, rA, rIA, rLA, rJA, rVI, rQI, rVA, rQA, upd_at,  rAI, rLI, rJI, nI_add, pk_sub, kc_0, kc_1, kc_2, kc_3, kc_4, kc_5, reduceIte, Nat.reduceEqDiff, Nat.add_zero, rI_hold, rI_hold, rL_hold, hind, hln, htk]; exact congrArg nI (by omega))) ?_
  refine Bod.bip 6 (by decide) dc_105_38 ?_
  refine Bod.icF dc_105_40 rfl (k2_ne_F (k_eq tk 6 rfl rfl (by omega))) ?_
  refine Bod.ic 1 (by decide) dc_105_43 ?_
  refine Bod.go dc_105_44 rfl ?_
  refine Bod.ist dc_105_48 (by rw [ml_105]; exact Nat.le_of_ble_eq_true rfl) ?_
  refine Bod.go dc_105_50 rfl ?_
  refine Bod.ist dc_105_52 (by rw [ml_105]; exact Nat.le_of_ble_eq_true rfl) ?_
  refine Bod.go dc_105_54 rfl ?_
  refine Bod.ifF dc_105_56 rfl (k1_eq_F (k_ne 1 0 rfl rfl (by omega) (by omega) (by omega))) ?_
  refine Bod.go dc_105_59 rfl ?_
  refine Bod.get dc_105_60 fr_105_9 (mk_43 _) rfl ?_
  refine Bod.bip 6 (by decide) dc_105_63 ?_
  refine Bod.virt (r := []) dc_105_65 kr_105_107 ⟨Or.inr rfl, ow_75, cl_3⟩ (by rw [np_75]; rfl) (by rw [np_75]; rfl) (ob_of (mk_31 _)) (Nat.le_of_ble_eq_true rfl) (c3  ) ?_
  show Bod _ _ _ _ [] _ _ _
  refine Bod.go dc_105_68 rfl ?_
  refine Bod.virt (r := []) dc_105_69 kr_105_220 ⟨Or.inl rfl, ow_92, cl_10⟩ (by rw [np_92]; rfl) (by rw [np_92]; rfl) (ob_of (mk_43 _)) (Nat.le_of_ble_eq_true rfl) (c4  ) ?_
  show Bod _ _ _ _ [_] _ _ _
  refine Bod.ist dc_105_72 (by rw [ml_105]; exact Nat.le_of_ble_eq_true rfl) ?_
  refine Bod.go dc_105_74 rfl ?_
  refine Bod.get dc_105_75 fr_105_9 (mk_43 _) rfl ?_
  refine Bod.bip 7 (by decide) dc_105_78 ?_
  refine Bod.virt (r := []) dc_105_80 kr_105_107 ⟨Or.inr rfl, ow_75, cl_3⟩ (by rw [np_75]; rfl) (by rw [np_75]; rfl) (ob_of (mk_31 _)) (Nat.le_of_ble_eq_true rfl) (c5  ) ?_
  show Bod _ _ _ _ [] _ _ _
  refine Bod.go dc_105_83 rfl ?_
  refine Bod.get dc_105_84 fr_105_42 (mk_43 _) rfl ?_
  refine Bod.eqI (nI av) (by first | (simp (disch := omega) only [rI, rIe, rA, rIA, rLA, rJA, rVI, rQI, rVA, rQA, upd_at,  rAI, rLI, rJI, nI_add, pk_sub, kc_0, kc_1, kc_2, kc_3, kc_4, kc_5, reduceIte, Nat.reduceEqDiff, Nat.add_zero, rI_hold, rI_hold, rL_hold, hind, hln, htk, hav]; done) | (simp (disch := omega) only [rI, rIe, rA, rIA, rLA, rJA, rVI, rQI, rVA, rQA, upd_at,  rAI, rLI, rJI, nI_add, pk_sub, kc_0, kc_1, kc_2, kc_3, kc_4, kc_5, reduceIte, Nat.reduceEqDiff, Nat.add_zero, rI_hold, rI_hold, rL_hold, hind, hln, htk, hav]; exact congrArg nI (by omega))) ?_
  refine Bod.ist dc_105_87 (by rw [ml_105]; exact Nat.le_of_ble_eq_true rfl) ?_
  refine Bod.go dc_105_89 rfl ?_
  refine Bod.go dc_105_90 rfl ?_
  refine Bod.go dc_105_91 rfl ?_
  refine Bod.ic 1 (by decide) dc_105_92 ?_
  refine Bod.addN (dp + 1) (by omega) dc_105_93 ?_
  refine Bod.virt (r := []) dc_105_94 kr_105_99 ⟨Or.inl rfl, ow_85, cl_10⟩ (by rw [np_85]; rfl) (by rw [np_85]; rfl) (ob_of (mk_43 _)) (Nat.le_of_ble_eq_true rfl) (c6  ) ?_
  show Bod _ _ _ _ [_] _ _ _
  refine Bod.ifT dc_105_97 rfl (k1_eq_T (k_eq 0 0 rfl rfl (by omega))) ?_
  refine Bod.go dc_105_116 rfl ?_
  refine Bod.get dc_105_117 fr_105_15 (mk_43 _) rfl ?_
  refine Bod.ic 3 (by decide) dc_105_120 ?_
  refine Bod.go dc_105_121 rfl ?_
  refine Bod.virt (r := []) dc_105_122 kr_105_116 ⟨Or.inr rfl, ow_54, cl_7⟩ (by rw [np_54]; rfl) (by rw [np_54]; rfl) (ob_of (mk_23 _)) (Nat.le_of_ble_eq_true rfl) (c7  ) ?_
  show Bod _ _ _ _ [_] _ _ _
  refine Bod.go dc_105_125 rfl ?_
  refine Bod.go dc_105_126 rfl ?_
  refine Bod.ifF dc_105_128 rfl (k1_eq_F (k_ne 1 0 rfl rfl (by omega) (by omega) (by omega))) ?_
  refine Bod.go dc_105_131 rfl ?_
  refine Bod.get dc_105_132 fr_105_19 (mk_43 _) rfl ?_
  refine Bod.bip 18 (by decide) dc_105_135 ?_
  refine Bod.go dc_105_137 rfl ?_
  refine Bod.virt (r := []) dc_105_139 kr_105_165 ⟨Or.inr rfl, ow_67, cl_8⟩ (by rw [np_67]; rfl) (by rw [np_67]; rfl) (ob_of (mk_32 _)) (Nat.le_of_ble_eq_true rfl) (c8  ) ?_
  show Bod _ _ _ _ [_] _ _ _
  refine Bod.go dc_105_142 rfl ?_
  refine Bod.go dc_105_143 rfl ?_
  refine Bod.get dc_105_144 fr_105_15 (mk_43 _) rfl ?_
  refine Bod.bip 23 (by decide) dc_105_147 ?_
  refine Bod.go dc_105_149 rfl ?_
  refine Bod.go dc_105_151 rfl ?_
  refine Bod.ifF dc_105_153 rfl (k1_eq_F (k_ne 1 0 rfl rfl (by omega) (by omega) (by omega))) ?_
  refine Bod.ic 1 (by decide) dc_105_156 ?_
  refine Bod.go dc_105_157 rfl ?_
  refine Bod.virt (r := []) dc_105_161 kr_105_257 ⟨Or.inr rfl, ow_68, cl_7⟩ (by rw [np_68]; rfl) (by rw [np_68]; rfl) (ob_of (mk_23 _)) (Nat.le_of_ble_eq_true rfl) (c9  ) ?_
  show Bod _ _ _ _ [_] _ _ _
  refine Bod.go dc_105_164 rfl ?_
  refine Bod.go dc_105_165 rfl ?_
  refine Bod.get dc_105_166 fr_105_15 (mk_43 _) rfl ?_
  refine Bod.go dc_105_169 rfl ?_
  refine Bod.get dc_105_170 fr_105_42 (mk_43 _) rfl ?_
  refine Bod.eqI (nI av1) (by first | (simp (disch := omega) only [rI, rIe, rA, rIA, rLA, rJA, rVI, rQI, rVA, rQA, upd_at,  rAI, rLI, rJI, nI_add, pk_sub, kc_0, kc_1, kc_2, kc_3, kc_4, kc_5, reduceIte, Nat.reduceEqDiff, Nat.add_zero, rI_hold, rI_hold, rL_hold, hind, hln, htk, hav, hav1]; done) | (simp (disch := omega) only [rI, rIe, rA, rIA, rLA, rJA, rVI, rQI, rVA, rQA, upd_at,  rAI, rLI, rJI, nI_add, pk_sub, kc_0, kc_1, kc_2, kc_3, kc_4, kc_5, reduceIte, Nat.reduceEqDiff, Nat.add_zero, rI_hold, rI_hold, rL_hold, hind, hln, htk, hav, hav1]; exact congrArg nI (by omega))) ?_
  refine Bod.go dc_105_173 rfl ?_
  refine Bod.subN (av1 - av) (by omega) (by omega) dc_105_175 ?_
  refine Bod.virt (r := []) dc_105_176 kr_105_72 ⟨Or.inr rfl, ow_71, cl_7⟩ (by rw [np_71]; rfl) (by rw [np_71]; rfl) (ob_of (mk_23 _)) (Nat.le_of_ble_eq_true rfl) (c10  ) ?_
  show Bod _ _ _ _ [_] _ _ _
  refine Bod.go dc_105_179 rfl ?_
  refine Bod.go dc_105_180 rfl ?_
  refine Bod.ist dc_105_182 (by rw [ml_105]; exact Nat.le_of_ble_eq_true rfl) ?_
  exact hB _ (by first | rfl | exact (by repeat (first | exact rfl | exact sm_get_p1 | exact sm_get_p2e | refine sm_get_p1m (by decide) (by decide) ?_ | refine sm_get_p1n (by decide) rfl ?_ | refine sm_get_p2n (by decide) (by decide) rfl ?_))) (by first | rfl | exact (by repeat (first | exact rfl | exact sm_get_p1 | exact sm_get_p2e | refine sm_get_p1m (by decide) (by decide) ?_ | refine sm_get_p1n (by decide) rfl ?_ | refine sm_get_p2n (by decide) (by decide) rfl ?_))) (by first | rfl | exact (by repeat (first | exact rfl | exact sm_get_p1 | exact sm_get_p2e | refine sm_get_p1m (by decide) (by decide) ?_ | refine sm_get_p1n (by decide) rfl ?_ | refine sm_get_p2n (by decide) (by decide) rfl ?_))) (by first | rfl | exact (by repeat (first | exact rfl | exact sm_get_p1 | exact sm_get_p2e | refine sm_get_p1m (by decide) (by decide) ?_ | refine sm_get_p1n (by decide) rfl ?_ | refine sm_get_p2n (by decide) (by decide) rfl ?_)))
theorem cClrL_1 {d : Nat} {S : cS} {lv : sm_L} {i : Nat} {fi : Nat} {q : Int32} {av : Nat} {S1 : cS} (q8 : sm_get lv 8 = some (.int (nI i))) (q7 : sm_get lv 7 = some (.int (nI fi))) (q4 : sm_get lv 4 = some (.int q)) (q0 : sm_get lv 0 = some (.ref 43)) (mi : i < 2 ^ 20) (mfi : fi < 2 ^ 20) (hav : sI S 4305 = nI av) (mav : av < 2 ^ 20) (b1 : av ≤ i) (c1 : Ans (d + 8) 93 [.ref 43, .int q] (wI 4305 (nI fi) S) none S1) : Bod (d + 8) 105 184 lv [] S none (S1) := by
  refine Bod.ildG dc_105_184 (by repeat (first | exact q8 | exact sm_get_p1 | exact sm_get_p2e | refine sm_get_p1m (by decide) (by decide) ?_ | refine sm_get_p1n (by decide) rfl ?_ | refine sm_get_p2n (by decide) (by decide) rfl ?_)) ?_
  refine Bod.aldnG dc_105_186 (by repeat (first | exact q0 | exact sm_get_p1 | exact sm_get_p2e | refine sm_get_p1m (by decide) (by decide) ?_ | refine sm_get_p1n (by decide) rfl ?_ | refine sm_get_p2n (by decide) (by decide) rfl ?_)) ?_
  refine Bod.get dc_105_187 fr_105_42 (mk_43 _) rfl ?_
  refine Bod.eqI (nI av) (by first | assumption | rfl | exact congrArg nI (by omega) | (simp (disch := omega) only [rI, rIe, rA, rIA, rLA, rJA, rVI, rQI, rVA, rQA, upd_at,  rAI, rLI, rJI, nI_add, pk_sub, kc_0, kc_1, kc_2, kc_3, kc_4, kc_5, reduceIte, Nat.reduceEqDiff, Nat.add_zero, rI_hold, rI_hold, rL_hold, hav]; done)) ?_
  refine Bod.icT dc_105_190 rfl (k2_ge_T i av rfl rfl (by omega) (by omega)) ?_
  refine Bod.aldnG dc_105_224 (by repeat (first | exact q0 | exact sm_get_p1 | exact sm_get_p2e | refine sm_get_p1m (by decide) (by decide) ?_ | refine sm_get_p1n (by decide) rfl ?_ | refine sm_get_p2n (by decide) (by decide) rfl ?_)) ?_
  refine Bod.ildG dc_105_225 (by repeat (first | exact q7 | exact sm_get_p1 | exact sm_get_p2e | refine sm_get_p1m (by decide) (by decide) ?_ | refine sm_get_p1n (by decide) rfl ?_ | refine sm_get_p2n (by decide) (by decide) rfl ?_)) ?_
  refine Bod.put dc_105_227 fr_105_42 (mk_43 _) (Nat.le_of_ble_eq_true rfl) pf_10_5 (st_4305 _ _) (mu_I _ _ _) ?_
  refine Bod.aldnG dc_105_230 (by repeat (first | exact q0 | exact sm_get_p1 | exact sm_get_p2e | refine sm_get_p1m (by decide) (by decide) ?_ | refine sm_get_p1n (by decide) rfl ?_ | refine sm_get_p2n (by decide) (by decide) rfl ?_)) ?_
  refine Bod.ildG dc_105_231 (by repeat (first | exact q4 | exact sm_get_p1 | exact sm_get_p2e | refine sm_get_p1m (by decide) (by decide) ?_ | refine sm_get_p1n (by decide) rfl ?_ | refine sm_get_p2n (by decide) (by decide) rfl ?_)) ?_
  refine Bod.virt (r := []) dc_105_233 kr_105_131 ⟨Or.inl rfl, ow_93, cl_10⟩ (by rw [np_93]; rfl) (by rw [np_93]; rfl) (ob_of (mk_43 _)) (Nat.le_of_ble_eq_true rfl) (c1  ) ?_
  show Bod _ _ _ _ [] _ _ _
  exact Bod.retV dc_105_236 rt_105
theorem cClrL_2 {d : Nat} {S : cS} {lv : sm_L} {i : Nat} {fi : Nat} {q : Int32} {av : Nat} {S1 : cS} (q8 : sm_get lv 8 = some (.int (nI i))) (q7 : sm_get lv 7 = some (.int (nI fi))) (q4 : sm_get lv 4 = some (.int q)) (q0 : sm_get lv 0 = some (.ref 43)) (mi : i < 2 ^ 20) (mfi : fi < 2 ^ 20) (hav : sI S 4305 = nI av) (mav : av < 2 ^ 20) (b1 : i < av) (b2 : 440 ≤ i) (c1 : Ans (d + 8) 93 [.ref 43, .int q] (wI 4305 (nI fi) S) none S1) : Bod (d + 8) 105 184 lv [] S none (S1) := by
  refine Bod.ildG dc_105_184 (by repeat (first | exact q8 | exact sm_get_p1 | exact sm_get_p2e | refine sm_get_p1m (by decide) (by decide) ?_ | refine sm_get_p1n (by decide) rfl ?_ | refine sm_get_p2n (by decide) (by decide) rfl ?_)) ?_
  refine Bod.aldnG dc_105_186 (by repeat (first | exact q0 | exact sm_get_p1 | exact sm_get_p2e | refine sm_get_p1m (by decide) (by decide) ?_ | refine sm_get_p1n (by decide) rfl ?_ | refine sm_get_p2n (by decide) (by decide) rfl ?_)) ?_
  refine Bod.get dc_105_187 fr_105_42 (mk_43 _) rfl ?_
  refine Bod.eqI (nI av) (by first | assumption | rfl | exact congrArg nI (by omega) | (simp (disch := omega) only [rI, rIe, rA, rIA, rLA, rJA, rVI, rQI, rVA, rQA, upd_at,  rAI, rLI, rJI, nI_add, pk_sub, kc_0, kc_1, kc_2, kc_3, kc_4, kc_5, reduceIte, Nat.reduceEqDiff, Nat.add_zero, rI_hold, rI_hold, rL_hold, hav]; done)) ?_
  refine Bod.icF dc_105_190 rfl (k2_ge_F i av rfl rfl (by omega) (by omega)) ?_
  refine Bod.ildG dc_105_193 (by repeat (first | exact q8 | exact sm_get_p1 | exact sm_get_p2e | refine sm_get_p1m (by decide) (by decide) ?_ | refine sm_get_p1n (by decide) rfl ?_ | refine sm_get_p2n (by decide) (by decide) rfl ?_)) ?_
  refine Bod.aldnG dc_105_195 (by repeat (first | exact q0 | exact sm_get_p1 | exact sm_get_p2e | refine sm_get_p1m (by decide) (by decide) ?_ | refine sm_get_p1n (by decide) rfl ?_ | refine sm_get_p2n (by decide) (by decide) rfl ?_)) ?_
  refine Bod.get dc_105_196 fr_105_27 (mk_43 _) rfl ?_
  refine Bod.alenN dc_105_199 (mk_45 _) (by decide +kernel) ?_
  refine Bod.icT dc_105_200 rfl (k2_ge_T i 440 rfl rfl (by omega) (by omega)) ?_
  refine Bod.aldnG dc_105_224 (by repeat (first | exact q0 | exact sm_get_p1 | exact sm_get_p2e | refine sm_get_p1m (by decide) (by decide) ?_ | refine sm_get_p1n (by decide) rfl ?_ | refine sm_get_p2n (by decide) (by decide) rfl ?_)) ?_
  refine Bod.ildG dc_105_225 (by repeat (first | exact q7 | exact sm_get_p1 | exact sm_get_p2e | refine sm_get_p1m (by decide) (by decide) ?_ | refine sm_get_p1n (by decide) rfl ?_ | refine sm_get_p2n (by decide) (by decide) rfl ?_)) ?_
  refine Bod.put dc_105_227 fr_105_42 (mk_43 _) (Nat.le_of_ble_eq_true rfl) pf_10_5 (st_4305 _ _) (mu_I _ _ _) ?_
  refine Bod.aldnG dc_105_230 (by repeat (first | exact q0 | exact sm_get_p1 | exact sm_get_p2e | refine sm_get_p1m (by decide) (by decide) ?_ | refine sm_get_p1n (by decide) rfl ?_ | refine sm_get_p2n (by decide) (by decide) rfl ?_)) ?_
  refine Bod.ildG dc_105_231 (by repeat (first | exact q4 | exact sm_get_p1 | exact sm_get_p2e | refine sm_get_p1m (by decide) (by decide) ?_ | refine sm_get_p1n (by decide) rfl ?_ | refine sm_get_p2n (by decide) (by decide) rfl ?_)) ?_
  refine Bod.virt (r := []) dc_105_233 kr_105_131 ⟨Or.inl rfl, ow_93, cl_10⟩ (by rw [np_93]; rfl) (by rw [np_93]; rfl) (ob_of (mk_43 _)) (Nat.le_of_ble_eq_true rfl) (c1  ) ?_
  show Bod _ _ _ _ [] _ _ _
  exact Bod.retV dc_105_236 rt_105
theorem cClrL_3 {d : Nat} {S Sf : cS} {v : Option Value} {lv : sm_L} {i : Nat} {fi : Nat} {q : Int32} {av : Nat} {S1 : cS} {a : Nat} (q8 : sm_get lv 8 = some (.int (nI i))) (q7 : sm_get lv 7 = some (.int (nI fi))) (q4 : sm_get lv 4 = some (.int q)) (q0 : sm_get lv 0 = some (.ref 43)) (mi : i < 2 ^ 20) (mfi : fi < 2 ^ 20) (hav : sI S 4305 = nI av) (mav : av < 2 ^ 20) (b1 : i < av) (b2 : i < 440) (ma : a < 2 ^ 20) (c1 : Ans (d + 8) 71 [.ref 23, .int (sA S 45 i)] S (some (.int (nI a))) S1) (hB : ∀ lv1 : sm_L, sm_get lv1 0 = some (.ref 43) → sm_get lv1 7 = some (.int (nI fi)) → sm_get lv1 8 = some (.int (nI (i + 1))) → sm_get lv1 4 = some (.int q) → Bod (d + 8) 105 184 lv1 [] (S1) v Sf) : Bod (d + 8) 105 184 lv [] S v Sf := by
  refine Bod.ildG dc_105_184 (by repeat (first | exact q8 | exact sm_get_p1 | exact sm_get_p2e | refine sm_get_p1m (by decide) (by decide) ?_ | refine sm_get_p1n (by decide) rfl ?_ | refine sm_get_p2n (by decide) (by decide) rfl ?_)) ?_
  refine Bod.aldnG dc_105_186 (by repeat (first | exact q0 | exact sm_get_p1 | exact sm_get_p2e | refine sm_get_p1m (by decide) (by decide) ?_ | refine sm_get_p1n (by decide) rfl ?_ | refine sm_get_p2n (by decide) (by decide) rfl ?_)) ?_
  refine Bod.get dc_105_187 fr_105_42 (mk_43 _) rfl ?_
  refine Bod.eqI (nI av) (by first | assumption | rfl | exact congrArg nI (by omega) | (simp (disch := omega) only [rI, rIe, rA, rIA, rLA, rJA, rVI, rQI, rVA, rQA, upd_at,  rAI, rLI, rJI, nI_add, pk_sub, kc_0, kc_1, kc_2, kc_3, kc_4, kc_5, reduceIte, Nat.reduceEqDiff, Nat.add_zero, rI_hold, rI_hold, rL_hold, hav]; done)) ?_
  refine Bod.icF dc_105_190 rfl (k2_ge_F i av rfl rfl (by omega) (by omega)) ?_
  refine Bod.ildG dc_105_193 (by repeat (first | exact q8 | exact sm_get_p1 | exact sm_get_p2e | refine sm_get_p1m (by decide) (by decide) ?_ | refine sm_get_p1n (by decide) rfl ?_ | refine sm_get_p2n (by decide) (by decide) rfl ?_)) ?_
  refine Bod.aldnG dc_105_195 (by repeat (first | exact q0 | exact sm_get_p1 | exact sm_get_p2e | refine sm_get_p1m (by decide) (by decide) ?_ | refine sm_get_p1n (by decide) rfl ?_ | refine sm_get_p2n (by decide) (by decide) rfl ?_)) ?_
  refine Bod.get dc_105_196 fr_105_27 (mk_43 _) rfl ?_
  refine Bod.alenN dc_105_199 (mk_45 _) (by decide +kernel) ?_
  refine Bod.icF dc_105_200 rfl (k2_ge_F i 440 rfl rfl (by omega) (by omega)) ?_
  refine Bod.aldnG dc_105_203 (by repeat (first | exact q0 | exact sm_get_p1 | exact sm_get_p2e | refine sm_get_p1m (by decide) (by decide) ?_ | refine sm_get_p1n (by decide) rfl ?_ | refine sm_get_p2n (by decide) (by decide) rfl ?_)) ?_
  refine Bod.get dc_105_204 fr_105_15 (mk_43 _) rfl ?_
  refine Bod.aldnG dc_105_207 (by repeat (first | exact q0 | exact sm_get_p1 | exact sm_get_p2e | refine sm_get_p1m (by decide) (by decide) ?_ | refine sm_get_p1n (by decide) rfl ?_ | refine sm_get_p2n (by decide) (by decide) rfl ?_)) ?_
  refine Bod.get dc_105_208 fr_105_27 (mk_43 _) rfl ?_
  refine Bod.ildG dc_105_211 (by repeat (first | exact q8 | exact sm_get_p1 | exact sm_get_p2e | refine sm_get_p1m (by decide) (by decide) ?_ | refine sm_get_p1n (by decide) rfl ?_ | refine sm_get_p2n (by decide) (by decide) rfl ?_)) ?_
  refine Bod.ialdN i rfl (by omega) (by omega) dc_105_213 (mk_45 _) ?_
  refine Bod.virt (r := []) dc_105_214 kr_105_72 ⟨Or.inr rfl, ow_71, cl_7⟩ (by rw [np_71]; rfl) (by rw [np_71]; rfl) (ob_of (mk_23 _)) (Nat.le_of_ble_eq_true rfl) (c1  ) ?_
  show Bod _ _ _ _ [_] _ _ _
  refine Bod.go dc_105_217 rfl ?_
  refine Bod.incN (i + 1) (by rw [kc_1, nI_add]) dc_105_218 (by rw [ml_105]; exact Nat.le_of_ble_eq_true rfl) (by repeat (first | exact q8 | exact sm_get_p1 | exact sm_get_p2e | refine sm_get_p1m (by decide) (by decide) ?_ | refine sm_get_p1n (by decide) rfl ?_ | refine sm_get_p2n (by decide) (by decide) rfl ?_)) ?_
  refine Bod.go dc_105_221 rfl ?_
  exact hB _ (by repeat (first | exact q0 | exact sm_get_p1 | exact sm_get_p2e | refine sm_get_p1m (by decide) (by decide) ?_ | refine sm_get_p1n (by decide) rfl ?_ | refine sm_get_p2n (by decide) (by decide) rfl ?_)) (by repeat (first | exact q7 | exact sm_get_p1 | exact sm_get_p2e | refine sm_get_p1m (by decide) (by decide) ?_ | refine sm_get_p1n (by decide) rfl ?_ | refine sm_get_p2n (by decide) (by decide) rfl ?_)) (by repeat (first | exact q0 | exact sm_get_p1 | exact sm_get_p2e | refine sm_get_p1m (by decide) (by decide) ?_ | refine sm_get_p1n (by decide) rfl ?_ | refine sm_get_p2n (by decide) (by decide) rfl ?_)) (by repeat (first | exact q4 | exact sm_get_p1 | exact sm_get_p2e | refine sm_get_p1m (by decide) (by decide) ?_ | refine sm_get_p1n (by decide) rfl ?_ | refine sm_get_p2n (by decide) (by decide) rfl ?_))
theorem cCbr_1 {d : Nat} {S : cS} {lv : sm_L} {t : Nat} {i : Nat} {dp : Nat} {fi : Nat} {ind : Nat} (q4 : sm_get lv 4 = some (.int (nI t))) (q0 : sm_get lv 0 = some (.ref 43)) (q1 : sm_get lv 1 = some (.int (nI i))) (q2 : sm_get lv 2 = some (.int (nI dp))) (q3 : sm_get lv 3 = some (.int (nI fi))) (mt : t < 2 ^ 20) (mi : i < 2 ^ 20) (mdp : dp < 2 ^ 20) (mfi : fi < 2 ^ 20) (b1 : 3000 < t) (hind : sI S 3108 = nI ind) (mind : ind < 2 ^ 20) (b2 : ind ≤ i) : Bod (d + 8) 106 3 lv [] S none (S) := by
  refine Bod.ildG dc_106_3 (by repeat (first | exact q4 | exact sm_get_p1 | exact sm_get_p2e | refine sm_get_p1m (by decide) (by decide) ?_ | refine sm_get_p1n (by decide) rfl ?_ | refine sm_get_p2n (by decide) (by decide) rfl ?_)) ?_
  refine Bod.sip 3000 (by decide) dc_106_5 ?_
  refine Bod.icT dc_106_8 rfl (k2_gt_T t 3000 rfl rfl (by omega) (by omega)) ?_
  refine Bod.aldnG dc_106_134 (by repeat (first | exact q0 | exact sm_get_p1 | exact sm_get_p2e | refine sm_get_p1m (by decide) (by decide) ?_ | refine sm_get_p1n (by decide) rfl ?_ | refine sm_get_p2n (by decide) (by decide) rfl ?_)) ?_
  refine Bod.get dc_106_135 fr_106_9 (mk_43 _) rfl ?_
  refine Bod.get dc_106_138 fr_106_96 (mk_31 _) rfl ?_
  refine Bod.eqI (nI ind) (by first | assumption | rfl | exact congrArg nI (by omega) | (simp (disch := omega) only [rI, rIe, rA, rIA, rLA, rJA, rVI, rQI, rVA, rQA, upd_at,  rAI, rLI, rJI, nI_add, pk_sub, kc_0, kc_1, kc_2, kc_3, kc_4, kc_5, reduceIte, Nat.reduceEqDiff, Nat.add_zero, rI_hold, rI_hold, rL_hold, hind]; done)) ?_
  refine Bod.ildnG dc_106_141 (by repeat (first | exact q1 | exact sm_get_p1 | exact sm_get_p2e | refine sm_get_p1m (by decide) (by decide) ?_ | refine sm_get_p1n (by decide) rfl ?_ | refine sm_get_p2n (by decide) (by decide) rfl ?_)) ?_
  refine Bod.icT dc_106_142 rfl (k2_le_T ind i rfl rfl (by omega) (by omega)) ?_
  exact Bod.retV dc_106_152 rt_106
theorem cCbr_2 {d : Nat} {S : cS} {lv : sm_L} {t : Nat} {i : Nat} {dp : Nat} {fi : Nat} {ind : Nat} {S1 : cS} (q4 : sm_get lv 4 = some (.int (nI t))) (q0 : sm_get lv 0 = some (.ref 43)) (q1 : sm_get lv 1 = some (.int (nI i))) (q2 : sm_get lv 2 = some (.int (nI dp))) (q3 : sm_get lv 3 = some (.int (nI fi))) (mt : t < 2 ^ 20) (mi : i < 2 ^ 20) (mdp : dp < 2 ^ 20) (mfi : fi < 2 ^ 20) (b1 : 3000 < t) (hind : sI S 3108 = nI ind) (mind : ind < 2 ^ 20) (b2 : i < ind) (c1 : Ans (d + 8) 44 [.ref 31] S none S1) : Bod (d + 8) 106 3 lv [] S none (S1) := by
  refine Bod.ildG dc_106_3 (by repeat (first | exact q4 | exact sm_get_p1 | exact sm_get_p2e | refine sm_get_p1m (by decide) (by decide) ?_ | refine sm_get_p1n (by decide) rfl ?_ | refine sm_get_p2n (by decide) (by decide) rfl ?_)) ?_
  refine Bod.sip 3000 (by decide) dc_106_5 ?_
  refine Bod.icT dc_106_8 rfl (k2_gt_T t 3000 rfl rfl (by omega) (by omega)) ?_
  refine Bod.aldnG dc_106_134 (by repeat (first | exact q0 | exact sm_get_p1 | exact sm_get_p2e | refine sm_get_p1m (by decide) (by decide) ?_ | refine sm_get_p1n (by decide) rfl ?_ | refine sm_get_p2n (by decide) (by decide) rfl ?_)) ?_
  refine Bod.get dc_106_135 fr_106_9 (mk_43 _) rfl ?_
  refine Bod.get dc_106_138 fr_106_96 (mk_31 _) rfl ?_
  refine Bod.eqI (nI ind) (by first | assumption | rfl | exact congrArg nI (by omega) | (simp (disch := omega) only [rI, rIe, rA, rIA, rLA, rJA, rVI, rQI, rVA, rQA, upd_at,  rAI, rLI, rJI, nI_add, pk_sub, kc_0, kc_1, kc_2, kc_3, kc_4, kc_5, reduceIte, Nat.reduceEqDiff, Nat.add_zero, rI_hold, rI_hold, rL_hold, hind]; done)) ?_
  refine Bod.ildnG dc_106_141 (by repeat (first | exact q1 | exact sm_get_p1 | exact sm_get_p2e | refine sm_get_p1m (by decide) (by decide) ?_ | refine sm_get_p1n (by decide) rfl ?_ | refine sm_get_p2n (by decide) (by decide) rfl ?_)) ?_
  refine Bod.icF dc_106_142 rfl (k2_le_F ind i rfl rfl (by omega) (by omega)) ?_
  refine Bod.aldnG dc_106_145 (by repeat (first | exact q0 | exact sm_get_p1 | exact sm_get_p2e | refine sm_get_p1m (by decide) (by decide) ?_ | refine sm_get_p1n (by decide) rfl ?_ | refine sm_get_p2n (by decide) (by decide) rfl ?_)) ?_
  refine Bod.get dc_106_146 fr_106_9 (mk_43 _) rfl ?_
  refine Bod.virt (r := []) dc_106_149 kr_106_76 ⟨Or.inr rfl, ow_44, cl_3⟩ (by rw [np_44]; rfl) (by rw [np_44]; rfl) (ob_of (mk_31 _)) (Nat.le_of_ble_eq_true rfl) (c1  ) ?_
  show Bod _ _ _ _ [] _ _ _
  exact Bod.retV dc_106_152 rt_106
theorem cCbr_3 {d : Nat} {S : cS} {lv : sm_L} {t : Nat} {i : Nat} {dp : Nat} {fi : Nat} (q4 : sm_get lv 4 = some (.int (nI t))) (q0 : sm_get lv 0 = some (.ref 43)) (q1 : sm_get lv 1 = some (.int (nI i))) (q2 : sm_get lv 2 = some (.int (nI dp))) (q3 : sm_get lv 3 = some (.int (nI fi))) (mt : t < 2 ^ 20) (mi : i < 2 ^ 20) (mdp : dp < 2 ^ 20) (mfi : fi < 2 ^ 20) (b1 : 3000 < t) (n2 : sI S 3108 = Int32.ofInt (-1)) : Bod (d + 8) 106 3 lv [] S none (S) := by
  refine Bod.ildG dc_106_3 (by repeat (first | exact q4 | exact sm_get_p1 | exact sm_get_p2e | refine sm_get_p1m (by decide) (by decide) ?_ | refine sm_get_p1n (by decide) rfl ?_ | refine sm_get_p2n (by decide) (by decide) rfl ?_)) ?_
  refine Bod.sip 3000 (by decide) dc_106_5 ?_
  refine Bod.icT dc_106_8 rfl (k2_gt_T t 3000 rfl rfl (by omega) (by omega)) ?_
  refine Bod.aldnG dc_106_134 (by repeat (first | exact q0 | exact sm_get_p1 | exact sm_get_p2e | refine sm_get_p1m (by decide) (by decide) ?_ | refine sm_get_p1n (by decide) rfl ?_ | refine sm_get_p2n (by decide) (by decide) rfl ?_)) ?_
  refine Bod.get dc_106_135 fr_106_9 (mk_43 _) rfl ?_
  refine Bod.get dc_106_138 fr_106_96 (mk_31 _) rfl ?_
  refine Bod.eqI (Int32.ofInt (-1)) (by first | assumption | rfl | exact congrArg nI (by omega) | (simp (disch := omega) only [rI, rIe, rA, rIA, rLA, rJA, rVI, rQI, rVA, rQA, upd_at,  rAI, rLI, rJI, nI_add, pk_sub, kc_0, kc_1, kc_2, kc_3, kc_4, kc_5, reduceIte, Nat.reduceEqDiff, Nat.add_zero, rI_hold, rI_hold, rL_hold, n2]; done)) ?_
  refine Bod.ildnG dc_106_141 (by repeat (first | exact q1 | exact sm_get_p1 | exact sm_get_p2e | refine sm_get_p1m (by decide) (by decide) ?_ | refine sm_get_p1n (by decide) rfl ?_ | refine sm_get_p2n (by decide) (by decide) rfl ?_)) ?_
  refine Bod.icT dc_106_142 rfl (ml_le (by omega)) ?_
  exact Bod.retV dc_106_152 rt_106
theorem cCbr_4 {d : Nat} {S Sf : cS} {v : Option Value} {lv : sm_L} {t : Nat} {i : Nat} {dp : Nat} {fi : Nat} {S1 : cS} {ln : Nat} {S2 : cS} {a : Nat} {tk : Nat} {S3 : cS} {rb : Int32} {S4 : cS} {S5 : cS} {S6 : cS} {S7 : cS} (q4 : sm_get lv 4 = some (.int (nI t))) (q0 : sm_get lv 0 = some (.ref 43)) (q1 : sm_get lv 1 = some (.int (nI i))) (q2 : sm_get lv 2 = some (.int (nI dp))) (q3 : sm_get lv 3 = some (.int (nI fi))) (mt : t < 2 ^ 20) (mi : i < 2 ^ 20) (mdp : dp < 2 ^ 20) (mfi : fi < 2 ^ 20) (b1 : t ≤ 3000) (c1 : Ans (d + 8) 52 [.ref 43, .int (nI i)] S (some (.int (nI 1))) S1) (hln : sI S1 3106 = nI ln) (mln : ln < 2 ^ 20) (ma : a < 2 ^ 20) (c2 : Ans (d + 8) 54 [.ref 23, .int (nI 1), .int (nI ln)] S1 (some (.int (nI a))) S2) (htk : sI S2 3105 = nI tk) (mtk : tk < 2 ^ 20) (b2 : tk ≠ 46) (b3 : tk ≠ 51) (c3 : Ans (d + 8) 92 [.ref 43] S2 (some (.int rb)) S3) (c4 : Ans (d + 8) 75 [.ref 31, .int (nI 19)] S3 none S4) (c5 : Ans (d + 8) 57 [.ref 44, .int (nI 0)] S4 none S5) (c6 : Ans (d + 8) 107 [.ref 43, .int rb, .int (nI fi)] S5 none S6) (c7 : Ans (d + 8) 86 [.ref 31] S6 none S7) (hB : ∀ lv1 : sm_L, sm_get lv1 0 = some (.ref 43) → sm_get lv1 1 = some (.int (nI i)) → sm_get lv1 2 = some (.int (nI dp)) → sm_get lv1 3 = some (.int (nI fi)) → sm_get lv1 4 = some (.int (nI (t + 1))) → Bod (d + 8) 106 3 lv1 [] (S7) v Sf) : Bod (d + 8) 106 3 lv [] S v Sf := by
  refine Bod.ildG dc_106_3 (by repeat (first | exact q4 | exact sm_get_p1 | exact sm_get_p2e | refine sm_get_p1m (by decide) (by decide) ?_ | refine sm_get_p1n (by decide) rfl ?_ | refine sm_get_p2n (by decide) (by decide) rfl ?_)) ?_
  refine Bod.sip 3000 (by decide) dc_106_5 ?_
  refine Bod.icF dc_106_8 rfl (k2_gt_F t 3000 rfl rfl (by omega) (by omega)) ?_
  refine Bod.aldnG dc_106_11 (by repeat (first | exact q0 | exact sm_get_p1 | exact sm_get_p2e | refine sm_get_p1m (by decide) (by decide) ?_ | refine sm_get_p1n (by decide) rfl ?_ | refine sm_get_p2n (by decide) (by decide) rfl ?_)) ?_
  refine Bod.ildnG dc_106_12 (by repeat (first | exact q1 | exact sm_get_p1 | exact sm_get_p2e | refine sm_get_p1m (by decide) (by decide) ?_ | refine sm_get_p1n (by decide) rfl ?_ | refine sm_get_p2n (by decide) (by decide) rfl ?_)) ?_
  refine Bod.virt (r := []) dc_106_13 kr_106_89 ⟨Or.inl rfl, ow_52, cl_10⟩ (by rw [np_52]; rfl) (by rw [np_52]; rfl) (ob_of (mk_43 _)) (Nat.le_of_ble_eq_true rfl) (c1  ) ?_
  show Bod _ _ _ _ [_] _ _ _
  refine Bod.ifF dc_106_16 rfl (k1_eq_F (k_ne 1 0 rfl rfl (by omega) (by omega) (by omega))) ?_
  refine Bod.aldnG dc_106_19 (by repeat (first | exact q0 | exact sm_get_p1 | exact sm_get_p2e | refine sm_get_p1m (by decide) (by decide) ?_ | refine sm_get_p1n (by decide) rfl ?_ | refine sm_get_p2n (by decide) (by decide) rfl ?_)) ?_
  refine Bod.get dc_106_20 fr_106_15 (mk_43 _) rfl ?_
  refine Bod.ic 1 (by decide) dc_106_23 ?_
  refine Bod.aldnG dc_106_24 (by repeat (first | exact q0 | exact sm_get_p1 | exact sm_get_p2e | refine sm_get_p1m (by decide) (by decide) ?_ | refine sm_get_p1n (by decide) rfl ?_ | refine sm_get_p2n (by decide) (by decide) rfl ?_)) ?_
  refine Bod.get dc_106_25 fr_106_9 (mk_43 _) rfl ?_
  refine Bod.get dc_106_28 fr_106_113 (mk_31 _) rfl ?_
  refine Bod.eqI (nI ln) (by first | (simp (disch := omega) only [rI, rIe, rA, rIA, rLA, rJA, rVI, rQI, rVA, rQA, upd_at,  rAI, rLI, rJI, nI_add, pk_sub, kc_0, kc_1, kc_2, kc_3, kc_4, kc_5, reduceIte, Nat.reduceEqDiff, Nat.add_zero, rI_hold, rI_hold, rL_hold, hln]; done) | (simp (disch := omega) only [rI, rIe, rA, rIA, rLA, rJA, rVI, rQI, rVA, rQA, upd_at,  rAI, rLI, rJI, nI_add, pk_sub, kc_0, kc_1, kc_2, kc_3, kc_4, kc_5, reduceIte, Nat.reduceEqDiff, Nat.add_zero, rI_hold, rI_hold, rL_hold, hln]; exact congrArg nI (by omega))) ?_
  refine Bod.virt (r := []) dc_106_31 kr_106_116 ⟨Or.inr rfl, ow_54, cl_7⟩ (by rw [np_54]; rfl) (by rw [np_54]; rfl) (ob_of (mk_23 _)) (Nat.le_of_ble_eq_true rfl) (c2  ) ?_
  show Bod _ _ _ _ [_] _ _ _
  refine Bod.go dc_106_34 rfl ?_
  refine Bod.aldnG dc_106_35 (by repeat (first | exact q0 | exact sm_get_p1 | exact sm_get_p2e | refine sm_get_p1m (by decide) (by decide) ?_ | refine sm_get_p1n (by decide) rfl ?_ | refine sm_get_p2n (by decide) (by decide) rfl ?_)) ?_
  refine Bod.get dc_106_36 fr_106_9 (mk_43 _) rfl ?_
  refine Bod.get dc_106_39 fr_106_79 (mk_31 _) rfl ?_
  refine Bod.eqI (nI tk) (by first | (simp (disch := omega) only [rI, rIe, rA, rIA, rLA, rJA, rVI, rQI, rVA, rQA, upd_at,  rAI, rLI, rJI, nI_add, pk_sub, kc_0, kc_1, kc_2, kc_3, kc_4, kc_5, reduceIte, Nat.reduceEqDiff, Nat.add_zero, rI_hold, rI_hold, rL_hold, hln, htk]; done) | (simp (disch := omega) only [rI, rIe, rA, rIA, rLA, rJA, rVI, rQI, rVA, rQA, upd_at,  rAI, rLI, rJI, nI_add, pk_sub, kc_0, kc_1, kc_2, kc_3, kc_4, kc_5, reduceIte, Nat.reduceEqDiff, Nat.add_zero, rI_hold, rI_hold, rL_hold, hln, htk]; exact congrArg nI (by omega))) ?_
  refine Bod.bip 46 (by decide) dc_106_42 ?_
  refine Bod.icT dc_106_44 rfl (k2_ne_T (k_ne tk 46 rfl rfl (by omega) (by omega) (by omega))) ?_
  refine Bod.aldnG dc_106_60 (by repeat (first | exact q0 | exact sm_get_p1 | exact sm_get_p2e | refine sm_get_p1m (by decide) (by decide) ?_ | refine sm_get_p1n (by decide) rfl ?_ | refine sm_get_p2n (by decide) (by decide) rfl ?_)) ?_
  refine Bod.get dc_106_61 fr_106_9 (mk_43 _) rfl ?_
  refine Bod.get dc_106_64 fr_106_79 (mk_31 _) rfl ?_
  refine Bod.eqI (nI tk) (by first | (simp (disch := omega) only [rI, rIe, rA, rIA, rLA, rJA, rVI, rQI, rVA, rQA, upd_at,  rAI, rLI, rJI, nI_add, pk_sub, kc_0, kc_1, kc_2, kc_3, kc_4, kc_5, reduceIte, Nat.reduceEqDiff, Nat.add_zero, rI_hold, rI_hold, rL_hold, hln, htk]; done) | (simp (disch := omega) only [rI, rIe, rA, rIA, rLA, rJA, rVI, rQI, rVA, rQA, upd_at,  rAI, rLI, rJI, nI_add, pk_sub, kc_0, kc_1, kc_2, kc_3, kc_4, kc_5, reduceIte, Nat.reduceEqDiff, Nat.add_zero, rI_hold, rI_hold, rL_hold, hln, htk]; exact congrArg nI (by omega))) ?_
  refine Bod.bip 51 (by decide) dc_106_67 ?_
  refine Bod.icT dc_106_69 rfl (k2_ne_T (k_ne tk 51 rfl rfl (by omega) (by omega) (by omega))) ?_
  refine Bod.aldnG dc_106_91 (by repeat (first | exact q0 | exact sm_get_p1 | exact sm_get_p2e | refine sm_get_p1m (by decide) (by decide) ?_ | refine sm_get_p1n (by decide) rfl ?_ | refine sm_get_p2n (by decide) (by decide) rfl ?_)) ?_
  refine Bod.virt (r := []) dc_106_92 kr_106_220 ⟨Or.inl rfl, ow_92, cl_10⟩ (by rw [np_92]; rfl) (by rw [np_92]; rfl) (ob_of (mk_43 _)) (Nat.le_of_ble_eq_true rfl) (c3  ) ?_
  show Bod _ _ _ _ [_] _ _ _
  refine Bod.ist dc_106_95 (by rw [ml_106]; exact Nat.le_of_ble_eq_true rfl) ?_
  refine Bod.aldnG dc_106_97 (by repeat (first | exact q0 | exact sm_get_p1 | exact sm_get_p2e | refine sm_get_p1m (by decide) (by decide) ?_ | refine sm_get_p1n (by decide) rfl ?_ | refine sm_get_p2n (by decide) (by decide) rfl ?_)) ?_
  refine Bod.get dc_106_98 fr_106_9 (mk_43 _) rfl ?_
  refine Bod.bip 19 (by decide) dc_106_101 ?_
  refine Bod.virt (r := []) dc_106_103 kr_106_107 ⟨Or.inr rfl, ow_75, cl_3⟩ (by rw [np_75]; rfl) (by rw [np_75]; rfl) (ob_of (mk_31 _)) (Nat.le_of_ble_eq_true rfl) (c4  ) ?_
  show Bod _ _ _ _ [] _ _ _
  refine Bod.aldnG dc_106_106 (by repeat (first | exact q0 | exact sm_get_p1 | exact sm_get_p2e | refine sm_get_p1m (by decide) (by decide) ?_ | refine sm_get_p1n (by decide) rfl ?_ | refine sm_get_p2n (by decide) (by decide) rfl ?_)) ?_
  refine Bod.get dc_106_107 fr_106_23 (mk_43 _) rfl ?_
  refine Bod.ic 0 (by decide) dc_106_110 ?_
  refine Bod.virt (r := []) dc_106_111 kr_106_169 ⟨Or.inr rfl, ow_57, cl_1⟩ (by rw [np_57]; rfl) (by rw [np_57]; rfl) (ob_of (mk_44 _)) (Nat.le_of_ble_eq_true rfl) (c5  ) ?_
  show Bod _ _ _ _ [] _ _ _
  refine Bod.aldnG dc_106_114 (by repeat (first | exact q0 | exact sm_get_p1 | exact sm_get_p2e | refine sm_get_p1m (by decide) (by decide) ?_ | refine sm_get_p1n (by decide) rfl ?_ | refine sm_get_p2n (by decide) (by decide) rfl ?_)) ?_
  refine Bod.ildG dc_106_115 (by repeat (first | exact q0 | exact sm_get_p1 | exact sm_get_p2e | refine sm_get_p1m (by decide) (by decide) ?_ | refine sm_get_p1n (by decide) rfl ?_ | refine sm_get_p2n (by decide) (by decide) rfl ?_)) ?_
  refine Bod.ildnG dc_106_117 (by repeat (first | exact q3 | exact sm_get_p1 | exact sm_get_p2e | refine sm_get_p1m (by decide) (by decide) ?_ | refine sm_get_p1n (by decide) rfl ?_ | refine sm_get_p2n (by decide) (by decide) rfl ?_)) ?_
  refine Bod.virt (r := []) dc_106_118 kr_106_260 ⟨Or.inl rfl, ow_107, cl_10⟩ (by rw [np_107]; rfl) (by rw [np_107]; rfl) (ob_of (mk_43 _)) (Nat.le_of_ble_eq_true rfl) (c6  ) ?_
  show Bod _ _ _ _ [] _ _ _
  refine Bod.aldnG dc_106_121 (by repeat (first | exact q0 | exact sm_get_p1 | exact sm_get_p2e | refine sm_get_p1m (by decide) (by decide) ?_ | refine sm_get_p1n (by decide) rfl ?_ | refine sm_get_p2n (by decide) (by decide) rfl ?_)) ?_
  refine Bod.get dc_106_122 fr_106_9 (mk_43 _) rfl ?_
  refine Bod.virt (r := []) dc_106_125 kr_106_110 ⟨Or.inr rfl, ow_86, cl_3⟩ (by rw [np_86]; rfl) (by rw [np_86]; rfl) (ob_of (mk_31 _)) (Nat.le_of_ble_eq_true rfl) (c7  ) ?_
  show Bod _ _ _ _ [] _ _ _
  refine Bod.incN (t + 1) (by rw [kc_1, nI_add]) dc_106_128 (by rw [ml_106]; exact Nat.le_of_ble_eq_true rfl) (by repeat (first | exact q4 | exact sm_get_p1 | exact sm_get_p2e | refine sm_get_p1m (by decide) (by decide) ?_ | refine sm_get_p1n (by decide) rfl ?_ | refine sm_get_p2n (by decide) (by decide) rfl ?_)) ?_
  refine Bod.go dc_106_131 rfl ?_
  exact hB _ (by repeat (first | exact q0 | exact sm_get_p1 | exact sm_get_p2e | refine sm_get_p1m (by decide) (by decide) ?_ | refine sm_get_p1n (by decide) rfl ?_ | refine sm_get_p2n (by decide) (by decide) rfl ?_)) (by repeat (first | exact q1 | exact sm_get_p1 | exact sm_get_p2e | refine sm_get_p1m (by decide) (by decide) ?_ | refine sm_get_p1n (by decide) rfl ?_ | refine sm_get_p2n (by decide) (by decide) rfl ?_)) (by repeat (first | exact q2 | exact sm_get_p1 | exact sm_get_p2e | refine sm_get_p1m (by decide) (by decide) ?_ | refine sm_get_p1n (by decide) rfl ?_ | refine sm_get_p2n (by decide) (by decide) rfl ?_)) (by repeat (first | exact q3 | exact sm_get_p1 | exact sm_get_p2e | refine sm_get_p1m (by decide) (by decide) ?_ | refine sm_get_p1n (by decide) rfl ?_ | refine sm_get_p2n (by decide) (by decide) rfl ?_)) (by repeat (first | exact q0 | exact sm_get_p1 | exact sm_get_p2e | refine sm_get_p1m (by decide) (by decide) ?_ | refine sm_get_p1n (by decide) rfl ?_ | refine sm_get_p2n (by decide) (by decide) rfl ?_))
theorem cCbr_5 {d : Nat} {S Sf : cS} {v : Option Value} {lv : sm_L} {t : Nat} {i : Nat} {dp : Nat} {fi : Nat} {S1 : cS} {ln : Nat} {S2 : cS} {a : Nat} {tk : Nat} {S3 : cS} {S4 : cS} (q4 : sm_get lv 4 = some (.int (nI t))) (q0 : sm_get lv 0 = some (.ref 43)) (q1 : sm_get lv 1 = some (.int (nI i))) (q2 : sm_get lv 2 = some (.int (nI dp))) (q3 : sm_get lv 3 = some (.int (nI fi))) (mt : t < 2 ^ 20) (mi : i < 2 ^ 20) (mdp : dp < 2 ^ 20) (mfi : fi < 2 ^ 20) (b1 : t ≤ 3000) (c1 : Ans (d + 8) 52 [.ref 43, .int (nI i)] S (some (.int (nI 1))) S1) (hln : sI S1 3106 = nI ln) (mln : ln < 2 ^ 20) (ma : a < 2 ^ 20) (c2 : Ans (d + 8) 54 [.ref 23, .int (nI 1), .int (nI ln)] S1 (some (.int (nI a))) S2) (htk : sI S2 3105 = nI tk) (mtk : tk < 2 ^ 20) (b2 : tk ≠ 46) (b3 : tk = 51) (c3 : Ans (d + 8) 75 [.ref 31, .int (nI 51)] S2 none S3) (c4 : Ans (d + 8) 86 [.ref 31] S3 none S4) (hB : ∀ lv1 : sm_L, sm_get lv1 0 = some (.ref 43) → sm_get lv1 1 = some (.int (nI i)) → sm_get lv1 2 = some (.int (nI dp)) → sm_get lv1 3 = some (.int (nI fi)) → sm_get lv1 4 = some (.int (nI (t + 1))) → Bod (d + 8) 106 3 lv1 [] (S4) v Sf) : Bod (d + 8) 106 3 lv [] S v Sf := by
  refine Bod.ildG dc_106_3 (by repeat (first | exact q4 | exact sm_get_p1 | exact sm_get_p2e | refine sm_get_p1m (by decide) (by decide) ?_ | refine sm_get_p1n (by decide) rfl ?_ | refine sm_get_p2n (by decide) (by decide) rfl ?_)) ?_
  refine Bod.sip 3000 (by decide) dc_106_5 ?_
  refine Bod.icF dc_106_8 rfl (k2_gt_F t 3000 rfl rfl (by omega) (by omega)) ?_
  refine Bod.aldnG dc_106_11 (by repeat (first | exact q0 | exact sm_get_p1 | exact sm_get_p2e | refine sm_get_p1m (by decide) (by decide) ?_ | refine sm_get_p1n (by decide) rfl ?_ | refine sm_get_p2n (by decide) (by decide) rfl ?_)) ?_
  refine Bod.ildnG dc_106_12 (by repeat (first | exact q1 | exact sm_get_p1 | exact sm_get_p2e | refine sm_get_p1m (by decide) (by decide) ?_ | refine sm_get_p1n (by decide) rfl ?_ | refine sm_get_p2n (by decide) (by decide) rfl ?_)) ?_
  refine Bod.virt (r := []) dc_106_13 kr_106_89 ⟨Or.inl rfl, ow_52, cl_10⟩ (by rw [np_52]; rfl) (by rw [np_52]; rfl) (ob_of (mk_43 _)) (Nat.le_of_ble_eq_true rfl) (c1  ) ?_
  show Bod _ _ _ _ [_] _ _ _
  refine Bod.ifF dc_106_16 rfl (k1_eq_F (k_ne 1 0 rfl rfl (by omega) (by omega) (by omega))) ?_
  refine Bod.aldnG dc_106_19 (by repeat (first | exact q0 | exact sm_get_p1 | exact sm_get_p2e | refine sm_get_p1m (by decide) (by decide) ?_ | refine sm_get_p1n (by decide) rfl ?_ | refine sm_get_p2n (by decide) (by decide) rfl ?_)) ?_
  refine Bod.get dc_106_20 fr_106_15 (mk_43 _) rfl ?_
  refine Bod.ic 1 (by decide) dc_106_23 ?_
  refine Bod.aldnG dc_106_24 (by repeat (first | exact q0 | exact sm_get_p1 | exact sm_get_p2e | refine sm_get_p1m (by decide) (by decide) ?_ | refine sm_get_p1n (by decide) rfl ?_ | refine sm_get_p2n (by decide) (by decide) rfl ?_)) ?_
  refine Bod.get dc_106_25 fr_106_9 (mk_43 _) rfl ?_
  refine Bod.get dc_106_28 fr_106_113 (mk_31 _) rfl ?_
  refine Bod.eqI (nI ln) (by first | (simp (disch := omega) only [rI, rIe, rA, rIA, rLA, rJA, rVI, rQI, rVA, rQA, upd_at,  rAI, rLI, rJI, nI_add, pk_sub, kc_0, kc_1, kc_2, kc_3, kc_4, kc_5, reduceIte, Nat.reduceEqDiff, Nat.add_zero, rI_hold, rI_hold, rL_hold, hln]; done) | (simp (disch := omega) only [rI, rIe, rA, rIA, rLA, rJA, rVI, rQI, rVA, rQA, upd_at,  rAI, rLI, rJI, nI_add, pk_sub, kc_0, kc_1, kc_2, kc_3, kc_4, kc_5, reduceIte, Nat.reduceEqDiff, Nat.add_zero, rI_hold, rI_hold, rL_hold, hln]; exact congrArg nI (by omega))) ?_
  refine Bod.virt (r := []) dc_106_31 kr_106_116 ⟨Or.inr rfl, ow_54, cl_7⟩ (by rw [np_54]; rfl) (by rw [np_54]; rfl) (ob_of (mk_23 _)) (Nat.le_of_ble_eq_true rfl) (c2  ) ?_
  show Bod _ _ _ _ [_] _ _ _
  refine Bod.go dc_106_34 rfl ?_
  refine Bod.aldnG dc_106_35 (by repeat (first | exact q0 | exact sm_get_p1 | exact sm_get_p2e | refine sm_get_p1m (by decide) (by decide) ?_ | refine sm_get_p1n (by decide) rfl ?_ | refine sm_get_p2n (by decide) (by decide) rfl ?_)) ?_
  refine Bod.get dc_106_36 fr_106_9 (mk_43 _) rfl ?_
  refine Bod.get dc_106_39 fr_106_79 (mk_31 _) rfl ?_
  refine Bod.eqI (nI tk) (by first | (simp (disch := omega) only [rI, rIe, rA, rIA, rLA, rJA, rVI, rQI, rVA, rQA, upd_at,  rAI, rLI, rJI, nI_add, pk_sub, kc_0, kc_1, kc_2, kc_3, kc_4, kc_5, reduceIte, Nat.reduceEqDiff, Nat.add_zero, rI_hold, rI_hold, rL_hold, hln, htk]; done) | (simp (disch := omega) only [rI, rIe, rA, rIA, rLA, rJA, rVI, rQI, rVA, rQA, upd_at,  rAI, rLI, rJI, nI_add, pk_sub, kc_0, kc_1, kc_2, kc_3, kc_4, kc_5, reduceIte, Nat.reduceEqDiff, Nat.add_zero, rI_hold, rI_hold, rL_hold, hln, htk]; exact congrArg nI (by omega))) ?_
  refine Bod.bip 46 (by decide) dc_106_42 ?_
  refine Bod.icT dc_106_44 rfl (k2_ne_T (k_ne tk 46 rfl rfl (by omega) (by omega) (by omega))) ?_
  refine Bod.aldnG dc_106_60 (by repeat (first | exact q0 | exact sm_get_p1 | exact sm_get_p2e | refine sm_get_p1m (by decide) (by decide) ?_ | refine sm_get_p1n (by decide) rfl ?_ | refine sm_get_p2n (by decide) (by decide) rfl ?_)) ?_
  refine Bod.get dc_106_61 fr_106_9 (mk_43 _) rfl ?_
  refine Bod.get dc_106_64 fr_106_79 (mk_31 _) rfl ?_
  refine Bod.eqI (nI tk) (by first | (simp (disch := omega) only [rI, rIe, rA, rIA, rLA, rJA, rVI, rQI, rVA, rQA, upd_at,  rAI, rLI, rJI, nI_add, pk_sub, kc_0, kc_1, kc_2, kc_3, kc_4, kc_5, reduceIte, Nat.reduceEqDiff, Nat.add_zero, rI_hold, rI_hold, rL_hold, hln, htk]; done) | (simp (disch := omega) only [rI, rIe, rA, rIA, rLA, rJA, rVI, rQI, rVA, rQA, upd_at,  rAI, rLI, rJI, nI_add, pk_sub, kc_0, kc_1, kc_2, kc_3, kc_4, kc_5, reduceIte, Nat.reduceEqDiff, Nat.add_zero, rI_hold, rI_hold, rL_hold, hln, htk]; exact congrArg nI (by omega))) ?_
  refine Bod.bip 51 (by decide) dc_106_67 ?_
  refine Bod.icF dc_106_69 rfl (k2_ne_F (k_eq tk 51 rfl rfl (by omega))) ?_
  refine Bod.aldnG dc_106_72 (by repeat (first | exact q0 | exact sm_get_p1 | exact sm_get_p2e | refine sm_get_p1m (by decide) (by decide) ?_ | refine sm_get_p1n (by decide) rfl ?_ | refine sm_get_p2n (by decide) (by decide) rfl ?_)) ?_
  refine Bod.get dc_106_73 fr_106_9 (mk_43 _) rfl ?_
  refine Bod.bip 51 (by decide) dc_106_76 ?_
  refine Bod.virt (r := []) dc_106_78 kr_106_107 ⟨Or.inr rfl, ow_75, cl_3⟩ (by rw [np_75]; rfl) (by rw [np_75]; rfl) (ob_of (mk_31 _)) (Nat.le_of_ble_eq_true rfl) (c3  ) ?_
  show Bod _ _ _ _ [] _ _ _
  refine Bod.aldnG dc_106_81 (by repeat (first | exact q0 | exact sm_get_p1 | exact sm_get_p2e | refine sm_get_p1m (by decide) (by decide) ?_ | refine sm_get_p1n (by decide) rfl ?_ | refine sm_get_p2n (by decide) (by decide) rfl ?_)) ?_
  refine Bod.get dc_106_82 fr_106_9 (mk_43 _) rfl ?_
  refine Bod.virt (r := []) dc_106_85 kr_106_110 ⟨Or.inr rfl, ow_86, cl_3⟩ (by rw [np_86]; rfl) (by rw [np_86]; rfl) (ob_of (mk_31 _)) (Nat.le_of_ble_eq_true rfl) (c4  ) ?_
  show Bod _ _ _ _ [] _ _ _
  refine Bod.go dc_106_88 rfl ?_
  refine Bod.incN (t + 1) (by rw [kc_1, nI_add]) dc_106_128 (by rw [ml_106]; exact Nat.le_of_ble_eq_true rfl) (by repeat (first | exact q4 | exact sm_get_p1 | exact sm_get_p2e | refine sm_get_p1m (by decide) (by decide) ?_ | refine sm_get_p1n (by decide) rfl ?_ | refine sm_get_p2n (by decide) (by decide) rfl ?_)) ?_
  refine Bod.go dc_106_131 rfl ?_
  exact hB _ (by repeat (first | exact q0 | exact sm_get_p1 | exact sm_get_p2e | refine sm_get_p1m (by decide) (by decide) ?_ | refine sm_get_p1n (by decide) rfl ?_ | refine sm_get_p2n (by decide) (by decide) rfl ?_)) (by repeat (first | exact q1 | exact sm_get_p1 | exact sm_get_p2e | refine sm_get_p1m (by decide) (by decide) ?_ | refine sm_get_p1n (by decide) rfl ?_ | refine sm_get_p2n (by decide) (by decide) rfl ?_)) (by repeat (first | exact q2 | exact sm_get_p1 | exact sm_get_p2e | refine sm_get_p1m (by decide) (by decide) ?_ | refine sm_get_p1n (by decide) rfl ?_ | refine sm_get_p2n (by decide) (by decide) rfl ?_)) (by repeat (first | exact q3 | exact sm_get_p1 | exact sm_get_p2e | refine sm_get_p1m (by decide) (by decide) ?_ | refine sm_get_p1n (by decide) rfl ?_ | refine sm_get_p2n (by decide) (by decide) rfl ?_)) (by repeat (first | exact q0 | exact sm_get_p1 | exact sm_get_p2e | refine sm_get_p1m (by decide) (by decide) ?_ | refine sm_get_p1n (by decide) rfl ?_ | refine sm_get_p2n (by decide) (by decide) rfl ?_))
theorem cCbr_6 {d : Nat} {S Sf : cS} {v : Option Value} {lv : sm_L} {t : Nat} {i : Nat} {dp : Nat} {fi : Nat} {S1 : cS} {ln : Nat} {S2 : cS} {a : Nat} {tk : Nat} {S3 : cS} {rb : Int32} {S4 : cS} (q4 : sm_get lv 4 = some (.int (nI t))) (q0 : sm_get lv 0 = some (.ref 43)) (q1 : sm_get lv 1 = some (.int (nI i))) (q2 : sm_get lv 2 = some (.int (nI dp))) (q3 : sm_get lv 3 = some (.int (nI fi))) (mt : t < 2 ^ 20) (mi : i < 2 ^ 20) (mdp : dp < 2 ^ 20) (mfi : fi < 2 ^ 20) (b1 : t ≤ 3000) (c1 : Ans (d + 8) 52 [.ref 43, .int (nI i)] S (some (.int (nI 1))) S1) (hln : sI S1 3106 = nI ln) (mln : ln < 2 ^ 20) (ma : a < 2 ^ 20) (c2 : Ans (d + 8) 54 [.ref 23, .int (nI 1), .int (nI ln)] S1 (some (.int (nI a))) S2) (htk : sI S2 3105 = nI tk) (mtk : tk < 2 ^ 20) (b2 : tk = 46) (c3 : Ans (d + 8) 97 [.ref 43, .int (nI dp)] S2 (some (.int rb)) S3) (c4 : Ans (d + 8) 107 [.ref 43, .int rb, .int (nI fi)] S3 none S4) (hB : ∀ lv1 : sm_L, sm_get lv1 0 = some (.ref 43) → sm_get lv1 1 = some (.int (nI i)) → sm_get lv1 2 = some (.int (nI dp)) → sm_get lv1 3 = some (.int (nI fi)) → sm_get lv1 4 = some (.int (nI (t + 1))) → Bod (d + 8) 106 3 lv1 [] (S4) v Sf) : Bod (d + 8) 106 3 lv [] S v Sf := by
  refine Bod.ildG dc_106_3 (by repeat (first | exact q4 | exact sm_get_p1 | exact sm_get_p2e | refine sm_get_p1m (by decide) (by decide) ?_ | refine sm_get_p1n (by decide) rfl ?_ | refine sm_get_p2n (by decide) (by decide) rfl ?_)) ?_
  refine Bod.sip 3000 (by decide) dc_106_5 ?_
  refine Bod.icF dc_106_8 rfl (k2_gt_F t 3000 rfl rfl (by omega) (by omega)) ?_
  refine Bod.aldnG dc_106_11 (by repeat (first | exact q0 | exact sm_get_p1 | exact sm_get_p2e | refine sm_get_p1m (by decide) (by decide) ?_ | refine sm_get_p1n (by decide) rfl ?_ | refine sm_get_p2n (by decide) (by decide) rfl ?_)) ?_
  refine Bod.ildnG dc_106_12 (by repeat (first | exact q1 | exact sm_get_p1 | exact sm_get_p2e | refine sm_get_p1m (by decide) (by decide) ?_ | refine sm_get_p1n (by decide) rfl ?_ | refine sm_get_p2n (by decide) (by decide) rfl ?_)) ?_
  refine Bod.virt (r := []) dc_106_13 kr_106_89 ⟨Or.inl rfl, ow_52, cl_10⟩ (by rw [np_52]; rfl) (by rw [np_52]; rfl) (ob_of (mk_43 _)) (Nat.le_of_ble_eq_true rfl) (c1  ) ?_
  show Bod _ _ _ _ [_] _ _ _
  refine Bod.ifF dc_106_16 rfl (k1_eq_F (k_ne 1 0 rfl rfl (by omega) (by omega) (by omega))) ?_
  refine Bod.aldnG dc_106_19 (by repeat (first | exact q0 | exact sm_get_p1 | exact sm_get_p2e | refine sm_get_p1m (by decide) (by decide) ?_ | refine sm_get_p1n (by decide) rfl ?_ | refine sm_get_p2n (by decide) (by decide) rfl ?_)) ?_
  refine Bod.get dc_106_20 fr_106_15 (mk_43 _) rfl ?_
  refine Bod.ic 1 (by decide) dc_106_23 ?_
  refine Bod.aldnG dc_106_24 (by repeat (first | exact q0 | exact sm_get_p1 | exact sm_get_p2e | refine sm_get_p1m (by decide) (by decide) ?_ | refine sm_get_p1n (by decide) rfl ?_ | refine sm_get_p2n (by decide) (by decide) rfl ?_)) ?_
  refine Bod.get dc_106_25 fr_106_9 (mk_43 _) rfl ?_
  refine Bod.get dc_106_28 fr_106_113 (mk_31 _) rfl ?_
  refine Bod.eqI (nI ln) (by first | (simp (disch := omega) only [rI, rIe, rA, rIA, rLA, rJA, rVI, rQI, rVA, rQA, upd_at,  rAI, rLI, rJI, nI_add, pk_sub, kc_0, kc_1, kc_2, kc_3, kc_4, kc_5, reduceIte, Nat.reduceEqDiff, Nat.add_zero, rI_hold, rI_hold, rL_hold, hln]; done) | (simp (disch := omega) only [rI, rIe, rA, rIA, rLA, rJA, rVI, rQI, rVA, rQA, upd_at,  rAI, rLI, rJI, nI_add, pk_sub, kc_0, kc_1, kc_2, kc_3, kc_4, kc_5, reduceIte, Nat.reduceEqDiff, Nat.add_zero, rI_hold, rI_hold, rL_hold, hln]; exact congrArg nI (by omega))) ?_
  refine Bod.virt (r := []) dc_106_31 kr_106_116 ⟨Or.inr rfl, ow_54, cl_7⟩ (by rw [np_54]; rfl) (by rw [np_54]; rfl) (ob_of (mk_23 _)) (Nat.le_of_ble_eq_true rfl) (c2  ) ?_
  show Bod _ _ _ _ [_] _ _ _
  refine Bod.go dc_106_34 rfl ?_
  refine Bod.aldnG dc_106_35 (by repeat (first | exact q0 | exact sm_get_p1 | exact sm_get_p2e | refine sm_get_p1m (by decide) (by decide) ?_ | refine sm_get_p1n (by decide) rfl ?_ | refine sm_get_p2n (by decide) (by decide) rfl ?_)) ?_
  refine Bod.get dc_106_36 fr_106_9 (mk_43 _) rfl ?_
  refine Bod.get dc_106_39 fr_106_79 (mk_31 _) rfl ?_
  refine Bod.eqI (nI tk) (by first | (simp (disch := omega) only [rI, rIe, rA, rIA, rLA, rJA, rVI, rQI, rVA, rQA, upd_at,  rAI, rLI, rJI, nI_add, pk_sub, kc_0, kc_1, kc_2, kc_3, kc_4, kc_5, reduceIte, Nat.reduceEqDiff, Nat.add_zero, rI_hold, rI_hold, rL_hold, hln, htk]; done) | (simp (disch := omega) only [rI, rIe, rA, rIA, rLA, rJA, rVI, rQI, rVA, rQA, upd_at,  rAI, rLI, rJI, nI_add, pk_sub, kc_0, kc_1, kc_2, kc_3, kc_4, kc_5, reduceIte, Nat.reduceEqDiff, Nat.add_zero, rI_hold, rI_hold, rL_hold, hln, htk]; exact congrArg nI (by omega))) ?_
  refine Bod.bip 46 (by decide) dc_106_42 ?_
  refine Bod.icF dc_106_44 rfl (k2_ne_F (k_eq tk 46 rfl rfl (by omega))) ?_
  refine Bod.aldnG dc_106_47 (by repeat (first | exact q0 | exact sm_get_p1 | exact sm_get_p2e | refine sm_get_p1m (by decide) (by decide) ?_ | refine sm_get_p1n (by decide) rfl ?_ | refine sm_get_p2n (by decide) (by decide) rfl ?_)) ?_
  refine Bod.aldnG dc_106_48 (by repeat (first | exact q0 | exact sm_get_p1 | exact sm_get_p2e | refine sm_get_p1m (by decide) (by decide) ?_ | refine sm_get_p1n (by decide) rfl ?_ | refine sm_get_p2n (by decide) (by decide) rfl ?_)) ?_
  refine Bod.ildnG dc_106_49 (by repeat (first | exact q2 | exact sm_get_p1 | exact sm_get_p2e | refine sm_get_p1m (by decide) (by decide) ?_ | refine sm_get_p1n (by decide) rfl ?_ | refine sm_get_p2n (by decide) (by decide) rfl ?_)) ?_
  refine Bod.virt (r := [_]) dc_106_50 kr_106_128 ⟨Or.inl rfl, ow_97, cl_10⟩ (by rw [np_97]; rfl) (by rw [np_97]; rfl) (ob_of (mk_43 _)) (Nat.le_of_ble_eq_true rfl) (c3  ) ?_
  show Bod _ _ _ _ [_, _] _ _ _
  refine Bod.ildnG dc_106_53 (by repeat (first | exact q3 | exact sm_get_p1 | exact sm_get_p2e | refine sm_get_p1m (by decide) (by decide) ?_ | refine sm_get_p1n (by decide) rfl ?_ | refine sm_get_p2n (by decide) (by decide) rfl ?_)) ?_
  refine Bod.virt (r := []) dc_106_54 kr_106_260 ⟨Or.inl rfl, ow_107, cl_10⟩ (by rw [np_107]; rfl) (by rw [np_107]; rfl) (ob_of (mk_43 _)) (Nat.le_of_ble_eq_true rfl) (c4  ) ?_
  show Bod _ _ _ _ [] _ _ _
  refine Bod.go dc_106_57 rfl ?_
  refine Bod.incN (t + 1) (by rw [kc_1, nI_add]) dc_106_128 (by rw [ml_106]; exact Nat.le_of_ble_eq_true rfl) (by repeat (first | exact q4 | exact sm_get_p1 | exact sm_get_p2e | refine sm_get_p1m (by decide) (by decide) ?_ | refine sm_get_p1n (by decide) rfl ?_ | refine sm_get_p2n (by decide) (by decide) rfl ?_)) ?_
  refine Bod.go dc_106_131 rfl ?_
  exact hB _ (by repeat (first | exact q0 | exact sm_get_p1 | exact sm_get_p2e | refine sm_get_p1m (by decide) (by decide) ?_ | refine sm_get_p1n (by decide) rfl ?_ | refine sm_get_p2n (by decide) (by decide) rfl ?_)) (by repeat (first | exact q1 | exact sm_get_p1 | exact sm_get_p2e | refine sm_get_p1m (by decide) (by decide) ?_ | refine sm_get_p1n (by decide) rfl ?_ | refine sm_get_p2n (by decide) (by decide) rfl ?_)) (by repeat (first | exact q2 | exact sm_get_p1 | exact sm_get_p2e | refine sm_get_p1m (by decide) (by decide) ?_ | refine sm_get_p1n (by decide) rfl ?_ | refine sm_get_p2n (by decide) (by decide) rfl ?_)) (by repeat (first | exact q3 | exact sm_get_p1 | exact sm_get_p2e | refine sm_get_p1m (by decide) (by decide) ?_ | refine sm_get_p1n (by decide) rfl ?_ | refine sm_get_p2n (by decide) (by decide) rfl ?_)) (by repeat (first | exact q0 | exact sm_get_p1 | exact sm_get_p2e | refine sm_get_p1m (by decide) (by decide) ?_ | refine sm_get_p1n (by decide) rfl ?_ | refine sm_get_p2n (by decide) (by decide) rfl ?_))
theorem cCbr_7 {d : Nat} {S : cS} {lv : sm_L} {t : Nat} {i : Nat} {dp : Nat} {fi : Nat} {S1 : cS} {ind : Nat} (q4 : sm_get lv 4 = some (.int (nI t))) (q0 : sm_get lv 0 = some (.ref 43)) (q1 : sm_get lv 1 = some (.int (nI i))) (q2 : sm_get lv 2 = some (.int (nI dp))) (q3 : sm_get lv 3 = some (.int (nI fi))) (mt : t < 2 ^ 20) (mi : i < 2 ^ 20) (mdp : dp < 2 ^ 20) (mfi : fi < 2 ^ 20) (b1 : t ≤ 3000) (c1 : Ans (d + 8) 52 [.ref 43, .int (nI i)] S (some (.int (nI 0))) S1) (hind : sI S1 3108 = nI ind) (mind : ind < 2 ^ 20) (b2 : ind ≤ i) : Bod (d + 8) 106 3 lv [] S none (S1) := by
  refine Bod.ildG dc_106_3 (by repeat (first | exact q4 | exact sm_get_p1 | exact sm_get_p2e | refine sm_get_p1m (by decide) (by decide) ?_ | refine sm_get_p1n (by decide) rfl ?_ | refine sm_get_p2n (by decide) (by decide) rfl ?_)) ?_
  refine Bod.sip 3000 (by decide) dc_106_5 ?_
  refine Bod.icF dc_106_8 rfl (k2_gt_F t 3000 rfl rfl (by omega) (by omega)) ?_
  refine Bod.aldnG dc_106_11 (by repeat (first | exact q0 | exact sm_get_p1 | exact sm_get_p2e | refine sm_get_p1m (by decide) (by decide) ?_ | refine sm_get_p1n (by decide) rfl ?_ | refine sm_get_p2n (by decide) (by decide) rfl ?_)) ?_
  refine Bod.ildnG dc_106_12 (by repeat (first | exact q1 | exact sm_get_p1 | exact sm_get_p2e | refine sm_get_p1m (by decide) (by decide) ?_ | refine sm_get_p1n (by decide) rfl ?_ | refine sm_get_p2n (by decide) (by decide) rfl ?_)) ?_
  refine Bod.virt (r := []) dc_106_13 kr_106_89 ⟨Or.inl rfl, ow_52, cl_10⟩ (by rw [np_52]; rfl) (by rw [np_52]; rfl) (ob_of (mk_43 _)) (Nat.le_of_ble_eq_true rfl) (c1  ) ?_
  show Bod _ _ _ _ [_] _ _ _
  refine Bod.ifT dc_106_16 rfl (k1_eq_T (k_eq 0 0 rfl rfl (by omega))) ?_
  refine Bod.aldnG dc_106_134 (by repeat (first | exact q0 | exact sm_get_p1 | exact sm_get_p2e | refine sm_get_p1m (by decide) (by decide) ?_ | refine sm_get_p1n (by decide) rfl ?_ | refine sm_get_p2n (by decide) (by decide) rfl ?_)) ?_
  refine Bod.get dc_106_135 fr_106_9 (mk_43 _) rfl ?_
  refine Bod.get dc_106_138 fr_106_96 (mk_31 _) rfl ?_
  refine Bod.eqI (nI ind) (by first | (simp (disch := omega) only [rI, rIe, rA, rIA, rLA, rJA, rVI, rQI, rVA, rQA, upd_at,  rAI, rLI, rJI, nI_add, pk_sub, kc_0, kc_1, kc_2, kc_3, kc_4, kc_5, reduceIte, Nat.reduceEqDiff, Nat.add_zero, rI_hold, rI_hold, rL_hold, hind]; done) | (simp (disch := omega) only [rI, rIe, rA, rIA, rLA, rJA, rVI, rQI, rVA, rQA, upd_at,  rAI, rLI, rJI, nI_add, pk_sub, kc_0, kc_1, kc_2, kc_3, kc_4, kc_5, reduceIte, Nat.reduceEqDiff, Nat.add_zero, rI_hold, rI_hold, rL_hold, hind]; exact congrArg nI (by omega))) ?_
  refine Bod.ildnG dc_106_141 (by repeat (first | exact q1 | exact sm_get_p1 | exact sm_get_p2e | refine sm_get_p1m (by decide) (by decide) ?_ | refine sm_get_p1n (by decide) rfl ?_ | refine sm_get_p2n (by decide) (by decide) rfl ?_)) ?_
  refine Bod.icT dc_106_142 rfl (k2_le_T ind i rfl rfl (by omega) (by omega)) ?_
  exact Bod.retV dc_106_152 rt_106
theorem cCbr_8 {d : Nat} {S : cS} {lv : sm_L} {t : Nat} {i : Nat} {dp : Nat} {fi : Nat} {S1 : cS} {ind : Nat} {S2 : cS} (q4 : sm_get lv 4 = some (.int (nI t))) (q0 : sm_get lv 0 = some (.ref 43)) (q1 : sm_get lv 1 = some (.int (nI i))) (q2 : sm_get lv 2 = some (.int (nI dp))) (q3 : sm_get lv 3 = some (.int (nI fi))) (mt : t < 2 ^ 20) (mi : i < 2 ^ 20) (mdp : dp < 2 ^ 20) (mfi : fi < 2 ^ 20) (b1 : t ≤ 3000) (c1 : Ans (d + 8) 52 [.ref 43, .int (nI i)] S (some (.int (nI 0))) S1) (hind : sI S1 3108 = nI ind) (mind : ind < 2 ^ 20) (b2 : i < ind) (c2 : Ans (d + 8) 44 [.ref 31] S1 none S2) : Bod (d + 8) 106 3 lv [] S none (S2) := by
  refine Bod.ildG dc_106_3 (by repeat (first | exact q4 | exact sm_get_p1 | exact sm_get_p2e | refine sm_get_p1m (by decide) (by decide) ?_ | refine sm_get_p1n (by decide) rfl ?_ | refine sm_get_p2n (by decide) (by decide) rfl ?_)) ?_
  refine Bod.sip 3000 (by decide) dc_106_5 ?_
  refine Bod.icF dc_106_8 rfl (k2_gt_F t 3000 rfl rfl (by omega) (by omega)) ?_
  refine Bod.aldnG dc_106_11 (by repeat (first | exact q0 | exact sm_get_p1 | exact sm_get_p2e | refine sm_get_p1m (by decide) (by decide) ?_ | refine sm_get_p1n (by decide) rfl ?_ | refine sm_get_p2n (by decide) (by decide) rfl ?_)) ?_
  refine Bod.ildnG dc_106_12 (by repeat (first | exact q1 | exact sm_get_p1 | exact sm_get_p2e | refine sm_get_p1m (by decide) (by decide) ?_ | refine sm_get_p1n (by decide) rfl ?_ | refine sm_get_p2n (by decide) (by decide) rfl ?_)) ?_
  refine Bod.virt (r := []) dc_106_13 kr_106_89 ⟨Or.inl rfl, ow_52, cl_10⟩ (by rw [np_52]; rfl) (by rw [np_52]; rfl) (ob_of (mk_43 _)) (Nat.le_of_ble_eq_true rfl) (c1  ) ?_
  show Bod _ _ _ _ [_] _ _ _
  refine Bod.ifT dc_106_16 rfl (k1_eq_T (k_eq 0 0 rfl rfl (by omega))) ?_
  refine Bod.aldnG dc_106_134 (by repeat (first | exact q0 | exact sm_get_p1 | exact sm_get_p2e | refine sm_get_p1m (by decide) (by decide) ?_ | refine sm_get_p1n (by decide) rfl ?_ | refine sm_get_p2n (by decide) (by decide) rfl ?_)) ?_
  refine Bod.get dc_106_135 fr_106_9 (mk_43 _) rfl ?_
  refine Bod.get dc_106_138 fr_106_96 (mk_31 _) rfl ?_
  refine Bod.eqI (nI ind) (by first | (simp (disch := omega) only [rI, rIe, rA, rIA, rLA, rJA, rVI, rQI, rVA, rQA, upd_at,  rAI, rLI, rJI, nI_add, pk_sub, kc_0, kc_1, kc_2, kc_3, kc_4, kc_5, reduceIte, Nat.reduceEqDiff, Nat.add_zero, rI_hold, rI_hold, rL_hold, hind]; done) | (simp (disch := omega) only [rI, rIe, rA, rIA, rLA, rJA, rVI, rQI, rVA, rQA, upd_at,  rAI, rLI, rJI, nI_add, pk_sub, kc_0, kc_1, kc_2, kc_3, kc_4, kc_5, reduceIte, Nat.reduceEqDiff, Nat.add_zero, rI_hold, rI_hold, rL_hold, hind]; exact congrArg nI (by omega))) ?_
  refine Bod.ildnG dc_106_141 (by repeat (first | exact q1 | exact sm_get_p1 | exact sm_get_p2e | refine sm_get_p1m (by decide) (by decide) ?_ | refine sm_get_p1n (by decide) rfl ?_ | refine sm_get_p2n (by decide) (by decide) rfl ?_)) ?_
  refine Bod.icF dc_106_142 rfl (k2_le_F ind i rfl rfl (by omega) (by omega)) ?_
  refine Bod.aldnG dc_106_145 (by repeat (first | exact q0 | exact sm_get_p1 | exact sm_get_p2e | refine sm_get_p1m (by decide) (by decide) ?_ | refine sm_get_p1n (by decide) rfl ?_ | refine sm_get_p2n (by decide) (by decide) rfl ?_)) ?_
  refine Bod.get dc_106_146 fr_106_9 (mk_43 _) rfl ?_
  refine Bod.virt (r := []) dc_106_149 kr_106_76 ⟨Or.inr rfl, ow_44, cl_3⟩ (by rw [np_44]; rfl) (by rw [np_44]; rfl) (ob_of (mk_31 _)) (Nat.le_of_ble_eq_true rfl) (c2  ) ?_
  show Bod _ _ _ _ [] _ _ _
  exact Bod.retV dc_106_152 rt_106
theorem cCbr_9 {d : Nat} {S : cS} {lv : sm_L} {t : Nat} {i : Nat} {dp : Nat} {fi : Nat} {S1 : cS} (q4 : sm_get lv 4 = some (.int (nI t))) (q0 : sm_get lv 0 = some (.ref 43)) (q1 : sm_get lv 1 = some (.int (nI i))) (q2 : sm_get lv 2 = some (.int (nI dp))) (q3 : sm_get lv 3 = some (.int (nI fi))) (mt : t < 2 ^ 20) (mi : i < 2 ^ 20) (mdp : dp < 2 ^ 20) (mfi : fi < 2 ^ 20) (b1 : t ≤ 3000) (c1 : Ans (d + 8) 52 [.ref 43, .int (nI i)] S (some (.int (nI 0))) S1) (n2 : sI S1 3108 = Int32.ofInt (-1)) : Bod (d + 8) 106 3 lv [] S none (S1) := by
  refine Bod.ildG dc_106_3 (by repeat (first | exact q4 | exact sm_get_p1 | exact sm_get_p2e | refine sm_get_p1m (by decide) (by decide) ?_ | refine sm_get_p1n (by decide) rfl ?_ | refine sm_get_p2n (by decide) (by decide) rfl ?_)) ?_
  refine Bod.sip 3000 (by decide) dc_106_5 ?_
  refine Bod.icF dc_106_8 rfl (k2_gt_F t 3000 rfl rfl (by omega) (by omega)) ?_
  refine Bod.aldnG dc_106_11 (by repeat (first | exact q0 | exact sm_get_p1 | exact sm_get_p2e | refine sm_get_p1m (by decide) (by decide) ?_ | refine sm_get_p1n (by decide) rfl ?_ | refine sm_get_p2n (by decide) (by decide) rfl ?_)) ?_
  refine Bod.ildnG dc_106_12 (by repeat (first | exact q1 | exact sm_get_p1 | exact sm_get_p2e | refine sm_get_p1m (by decide) (by decide) ?_ | refine sm_get_p1n (by decide) rfl ?_ | refine sm_get_p2n (by decide) (by decide) rfl ?_)) ?_
  refine Bod.virt (r := []) dc_106_13 kr_106_89 ⟨Or.inl rfl, ow_52, cl_10⟩ (by rw [np_52]; rfl) (by rw [np_52]; rfl) (ob_of (mk_43 _)) (Nat.le_of_ble_eq_true rfl) (c1  ) ?_
  show Bod _ _ _ _ [_] _ _ _
  refine Bod.ifT dc_106_16 rfl (k1_eq_T (k_eq 0 0 rfl rfl (by omega))) ?_
  refine Bod.aldnG dc_106_134 (by repeat (first | exact q0 | exact sm_get_p1 | exact sm_get_p2e | refine sm_get_p1m (by decide) (by decide) ?_ | refine sm_get_p1n (by decide) rfl ?_ | refine sm_get_p2n (by decide) (by decide) rfl ?_)) ?_
  refine Bod.get dc_106_135 fr_106_9 (mk_43 _) rfl ?_
  refine Bod.get dc_106_138 fr_106_96 (mk_31 _) rfl ?_
  refine Bod.eqI (Int32.ofInt (-1)) (by first | (simp (disch := omega) only [rI, rIe, rA, rIA, rLA, rJA, rVI, rQI, rVA, rQA, upd_at,  rAI, rLI, rJI, nI_add, pk_sub, kc_0, kc_1, kc_2, kc_3, kc_4, kc_5, reduceIte, Nat.reduceEqDiff, Nat.add_zero, rI_hold, rI_hold, rL_hold, n2]; done) | (simp (disch := omega) only [rI, rIe, rA, rIA, rLA, rJA, rVI, rQI, rVA, rQA, upd_at,  rAI, rLI, rJI, nI_add, pk_sub, kc_0, kc_1, kc_2, kc_3, kc_4, kc_5, reduceIte, Nat.reduceEqDiff, Nat.add_zero, rI_hold, rI_hold, rL_hold, n2]; exact congrArg nI (by omega))) ?_
  refine Bod.ildnG dc_106_141 (by repeat (first | exact q1 | exact sm_get_p1 | exact sm_get_p2e | refine sm_get_p1m (by decide) (by decide) ?_ | refine sm_get_p1n (by decide) rfl ?_ | refine sm_get_p2n (by decide) (by decide) rfl ?_)) ?_
  refine Bod.icT dc_106_142 rfl (ml_le (by omega)) ?_
  exact Bod.retV dc_106_152 rt_106
theorem cGvr0_1 {d : Nat} {S Sf : cS} {v : Option Value} {q : Int32} {fi : Nat} (mfi : fi < 2 ^ 20) (hB : ∀ lv1 : sm_L, sm_get lv1 0 = some (.ref 43) → sm_get lv1 1 = some (.int q) → sm_get lv1 2 = some (.int (nI fi)) → sm_get lv1 3 = some (.int (nI fi)) → Bod (d + 8) 107 2 lv1 [] (S) v Sf) : Bod (d + 8) 107 0 [(0, .ref 43), (1, .int q), (2, .int (nI fi))] [] S v Sf := by
  refine Bod.go dc_107_0 rfl ?_
  refine Bod.istn dc_107_1 (by rw [ml_107]; exact Nat.le_of_ble_eq_true rfl) ?_
  exact hB _ (by first | rfl | exact (by repeat (first | exact rfl | exact sm_get_p1 | exact sm_get_p2e | refine sm_get_p1m (by decide) (by decide) ?_ | refine sm_get_p1n (by decide) rfl ?_ | refine sm_get_p2n (by decide) (by decide) rfl ?_))) (by first | rfl | exact (by repeat (first | exact rfl | exact sm_get_p1 | exact sm_get_p2e | refine sm_get_p1m (by decide) (by decide) ?_ | refine sm_get_p1n (by decide) rfl ?_ | refine sm_get_p2n (by decide) (by decide) rfl ?_))) (by first | rfl | exact (by repeat (first | exact rfl | exact sm_get_p1 | exact sm_get_p2e | refine sm_get_p1m (by decide) (by decide) ?_ | refine sm_get_p1n (by decide) rfl ?_ | refine sm_get_p2n (by decide) (by decide) rfl ?_))) (by first | rfl | exact (by repeat (first | exact rfl | exact sm_get_p1 | exact sm_get_p2e | refine sm_get_p1m (by decide) (by decide) ?_ | refine sm_get_p1n (by decide) rfl ?_ | refine sm_get_p2n (by decide) (by decide) rfl ?_)))
theorem cGvrL_1 {d : Nat} {S : cS} {lv : sm_L} {i : Nat} {q : Int32} {fi : Nat} {av : Nat} {S1 : cS} {a : Nat} (q3 : sm_get lv 3 = some (.int (nI i))) (q0 : sm_get lv 0 = some (.ref 43)) (q1 : sm_get lv 1 = some (.int q)) (q2 : sm_get lv 2 = some (.int (nI fi))) (mi : i < 2 ^ 20) (mfi : fi < 2 ^ 20) (hav : sI S 4305 = nI av) (mav : av < 2 ^ 20) (b1 : av ≤ i) (b2 : fi ≤ av) (b3 : 40 ≤ (av - fi)) (ma : a < 2 ^ 20) (c1 : Ans (d + 8) 54 [.ref 23, .int (nI 15), .int (nI 8)] S (some (.int (nI a))) S1) : Bod (d + 8) 107 2 lv [] S none (S1) := by
  refine Bod.ildnG dc_107_2 (by repeat (first | exact q3 | exact sm_get_p1 | exact sm_get_p2e | refine sm_get_p1m (by decide) (by decide) ?_ | refine sm_get_p1n (by decide) rfl ?_ | refine sm_get_p2n (by decide) (by decide) rfl ?_)) ?_
  refine Bod.aldnG dc_107_3 (by repeat (first | exact q0 | exact sm_get_p1 | exact sm_get_p2e | refine sm_get_p1m (by decide) (by decide) ?_ | refine sm_get_p1n (by decide) rfl ?_ | refine sm_get_p2n (by decide) (by decide) rfl ?_)) ?_
  refine Bod.get dc_107_4 fr_107_42 (mk_43 _) rfl ?_
  refine Bod.eqI (nI av) (by first | assumption | rfl | exact congrArg nI (by omega) | (simp (disch := omega) only [rI, rIe, rA, rIA, rLA, rJA, rVI, rQI, rVA, rQA, upd_at,  rAI, rLI, rJI, nI_add, pk_sub, kc_0, kc_1, kc_2, kc_3, kc_4, kc_5, reduceIte, Nat.reduceEqDiff, Nat.add_zero, rI_hold, rI_hold, rL_hold, hav]; done)) ?_
  refine Bod.icT dc_107_7 rfl (k2_ge_T i av rfl rfl (by omega) (by omega)) ?_
  refine Bod.aldnG dc_107_52 (by repeat (first | exact q0 | exact sm_get_p1 | exact sm_get_p2e | refine sm_get_p1m (by decide) (by decide) ?_ | refine sm_get_p1n (by decide) rfl ?_ | refine sm_get_p2n (by decide) (by decide) rfl ?_)) ?_
  refine Bod.get dc_107_53 fr_107_42 (mk_43 _) rfl ?_
  refine Bod.eqI (nI av) (by first | assumption | rfl | exact congrArg nI (by omega) | (simp (disch := omega) only [rI, rIe, rA, rIA, rLA, rJA, rVI, rQI, rVA, rQA, upd_at,  rAI, rLI, rJI, nI_add, pk_sub, kc_0, kc_1, kc_2, kc_3, kc_4, kc_5, reduceIte, Nat.reduceEqDiff, Nat.add_zero, rI_hold, rI_hold, rL_hold, hav]; done)) ?_
  refine Bod.ildnG dc_107_56 (by repeat (first | exact q2 | exact sm_get_p1 | exact sm_get_p2e | refine sm_get_p1m (by decide) (by decide) ?_ | refine sm_get_p1n (by decide) rfl ?_ | refine sm_get_p2n (by decide) (by decide) rfl ?_)) ?_
  refine Bod.subN (av - fi) (by omega) (by omega) dc_107_57 ?_
  refine Bod.bip 40 (by decide) dc_107_58 ?_
  refine Bod.icT dc_107_60 rfl (k2_ge_T (av - fi) 40 rfl rfl (by omega) (by omega)) ?_
  refine Bod.aldnG dc_107_75 (by repeat (first | exact q0 | exact sm_get_p1 | exact sm_get_p2e | refine sm_get_p1m (by decide) (by decide) ?_ | refine sm_get_p1n (by decide) rfl ?_ | refine sm_get_p2n (by decide) (by decide) rfl ?_)) ?_
  refine Bod.get dc_107_76 fr_107_15 (mk_43 _) rfl ?_
  refine Bod.bip 15 (by decide) dc_107_79 ?_
  refine Bod.bip 8 (by decide) dc_107_81 ?_
  refine Bod.virt (r := []) dc_107_83 kr_107_116 ⟨Or.inr rfl, ow_54, cl_7⟩ (by rw [np_54]; rfl) (by rw [np_54]; rfl) (ob_of (mk_23 _)) (Nat.le_of_ble_eq_true rfl) (c1  ) ?_
  show Bod _ _ _ _ [_] _ _ _
  refine Bod.go dc_107_86 rfl ?_
  exact Bod.retV dc_107_87 rt_107
theorem cGvrL_2 {d : Nat} {S : cS} {lv : sm_L} {i : Nat} {q : Int32} {fi : Nat} {av : Nat} (q3 : sm_get lv 3 = some (.int (nI i))) (q0 : sm_get lv 0 = some (.ref 43)) (q1 : sm_get lv 1 = some (.int q)) (q2 : sm_get lv 2 = some (.int (nI fi))) (mi : i < 2 ^ 20) (mfi : fi < 2 ^ 20) (hav : sI S 4305 = nI av) (mav : av < 2 ^ 20) (b1 : av ≤ i) (b2 : fi ≤ av) (b3 : (av - fi) < 40) (b4 : av < 440) : Bod (d + 8) 107 2 lv [] S none (wI 4305 (nI (av + 1)) (wA 45 av q S)) := by
  refine Bod.ildnG dc_107_2 (by repeat (first | exact q3 | exact sm_get_p1 | exact sm_get_p2e | refine sm_get_p1m (by decide) (by decide) ?_ | refine sm_get_p1n (by decide) rfl ?_ | refine sm_get_p2n (by decide) (by decide) rfl ?_)) ?_
  refine Bod.aldnG dc_107_3 (by repeat (first | exact q0 | exact sm_get_p1 | exact sm_get_p2e | refine sm_get_p1m (by decide) (by decide) ?_ | refine sm_get_p1n (by decide) rfl ?_ | refine sm_get_p2n (by decide) (by decide) rfl ?_)) ?_
  refine Bod.get dc_107_4 fr_107_42 (mk_43 _) rfl ?_
  refine Bod.eqI (nI av) (by first | assumption | rfl | exact congrArg nI (by omega) | (simp (disch := omega) only [rI, rIe, rA, rIA, rLA, rJA, rVI, rQI, rVA, rQA, upd_at,  rAI, rLI, rJI, nI_add, pk_sub, kc_0, kc_1, kc_2, kc_3, kc_4, kc_5, reduceIte, Nat.reduceEqDiff, Nat.add_zero, rI_hold, rI_hold, rL_hold, hav]; done)) ?_
  refine Bod.icT dc_107_7 rfl (k2_ge_T i av rfl rfl (by omega) (by omega)) ?_
  refine Bod.aldnG dc_107_52 (by repeat (first | exact q0 | exact sm_get_p1 | exact sm_get_p2e | refine sm_get_p1m (by decide) (by decide) ?_ | refine sm_get_p1n (by decide) rfl ?_ | refine sm_get_p2n (by decide) (by decide) rfl ?_)) ?_
  refine Bod.get dc_107_53 fr_107_42 (mk_43 _) rfl ?_
  refine Bod.eqI (nI av) (by first | assumption | rfl | exact congrArg nI (by omega) | (simp (disch := omega) only [rI, rIe, rA, rIA, rLA, rJA, rVI, rQI, rVA, rQA, upd_at,  rAI, rLI, rJI, nI_add, pk_sub, kc_0, kc_1, kc_2, kc_3, kc_4, kc_5, reduceIte, Nat.reduceEqDiff, Nat.add_zero, rI_hold, rI_hold, rL_hold, hav]; done)) ?_
  refine Bod.ildnG dc_107_56 (by repeat (first | exact q2 | exact sm_get_p1 | exact sm_get_p2e | refine sm_get_p1m (by decide) (by decide) ?_ | refine sm_get_p1n (by decide) rfl ?_ | refine sm_get_p2n (by decide) (by decide) rfl ?_)) ?_
  refine Bod.subN (av - fi) (by omega) (by omega) dc_107_57 ?_
  refine Bod.bip 40 (by decide) dc_107_58 ?_
  refine Bod.icF dc_107_60 rfl (k2_ge_F (av - fi) 40 rfl rfl (by omega) (by omega)) ?_
  refine Bod.aldnG dc_107_63 (by repeat (first | exact q0 | exact sm_get_p1 | exact sm_get_p2e | refine sm_get_p1m (by decide) (by decide) ?_ | refine sm_get_p1n (by decide) rfl ?_ | refine sm_get_p2n (by decide) (by decide) rfl ?_)) ?_
  refine Bod.get dc_107_64 fr_107_42 (mk_43 _) rfl ?_
  refine Bod.eqI (nI av) (by first | assumption | rfl | exact congrArg nI (by omega) | (simp (disch := omega) only [rI, rIe, rA, rIA, rLA, rJA, rVI, rQI, rVA, rQA, upd_at,  rAI, rLI, rJI, nI_add, pk_sub, kc_0, kc_1, kc_2, kc_3, kc_4, kc_5, reduceIte, Nat.reduceEqDiff, Nat.add_zero, rI_hold, rI_hold, rL_hold, hav]; done)) ?_
  refine Bod.aldnG dc_107_67 (by repeat (first | exact q0 | exact sm_get_p1 | exact sm_get_p2e | refine sm_get_p1m (by decide) (by decide) ?_ | refine sm_get_p1n (by decide) rfl ?_ | refine sm_get_p2n (by decide) (by decide) rfl ?_)) ?_
  refine Bod.get dc_107_68 fr_107_27 (mk_43 _) rfl ?_
  refine Bod.alenN dc_107_71 (mk_45 _) (by decide +kernel) ?_
  refine Bod.icT dc_107_72 rfl (k2_lt_T av 440 rfl rfl (by omega) (by omega)) ?_
  refine Bod.aldnG dc_107_88 (by repeat (first | exact q0 | exact sm_get_p1 | exact sm_get_p2e | refine sm_get_p1m (by decide) (by decide) ?_ | refine sm_get_p1n (by decide) rfl ?_ | refine sm_get_p2n (by decide) (by decide) rfl ?_)) ?_
  refine Bod.get dc_107_89 fr_107_27 (mk_43 _) rfl ?_
  refine Bod.aldnG dc_107_92 (by repeat (first | exact q0 | exact sm_get_p1 | exact sm_get_p2e | refine sm_get_p1m (by decide) (by decide) ?_ | refine sm_get_p1n (by decide) rfl ?_ | refine sm_get_p2n (by decide) (by decide) rfl ?_)) ?_
  refine Bod.get dc_107_93 fr_107_42 (mk_43 _) rfl ?_
  refine Bod.eqI (nI av) (by first | assumption | rfl | exact congrArg nI (by omega) | (simp (disch := omega) only [rI, rIe, rA, rIA, rLA, rJA, rVI, rQI, rVA, rQA, upd_at,  rAI, rLI, rJI, nI_add, pk_sub, kc_0, kc_1, kc_2, kc_3, kc_4, kc_5, reduceIte, Nat.reduceEqDiff, Nat.add_zero, rI_hold, rI_hold, rL_hold, hav]; done)) ?_
  refine Bod.ildnG dc_107_96 (by repeat (first | exact q1 | exact sm_get_p1 | exact sm_get_p2e | refine sm_get_p1m (by decide) (by decide) ?_ | refine sm_get_p1n (by decide) rfl ?_ | refine sm_get_p2n (by decide) (by decide) rfl ?_)) ?_
  refine Bod.iastN av rfl (by omega) (by omega) dc_107_97 (mk_45 _) (sa_45 _ _ _) (mu_A _ _ _ _) ?_
  refine Bod.aldnG dc_107_98 (by repeat (first | exact q0 | exact sm_get_p1 | exact sm_get_p2e | refine sm_get_p1m (by decide) (by decide) ?_ | refine sm_get_p1n (by decide) rfl ?_ | refine sm_get_p2n (by decide) (by decide) rfl ?_)) ?_
  refine Bod.go dc_107_99 rfl ?_
  refine Bod.get dc_107_100 fr_107_42 (mk_43 _) rfl ?_
  refine Bod.eqI (nI av) (by first | (simp (disch := omega) only [rI, rIe, rA, rIA, rLA, rJA, rVI, rQI, rVA, rQA, upd_at,  rAI, rLI, rJI, nI_add, pk_sub, kc_0, kc_1, kc_2, kc_3, kc_4, kc_5, reduceIte, Nat.reduceEqDiff, Nat.add_zero, rI_hold, rI_hold, rL_hold, hav]; done) | (simp (disch := omega) only [rI, rIe, rA, rIA, rLA, rJA, rVI, rQI, rVA, rQA, upd_at,  rAI, rLI, rJI, nI_add, pk_sub, kc_0, kc_1, kc_2, kc_3, kc_4, kc_5, reduceIte, Nat.reduceEqDiff, Nat.add_zero, rI_hold, rI_hold, rL_hold, hav]; exact congrArg nI (by omega))) ?_
  refine Bod.ic 1 (by decide) dc_107_103 ?_
  refine Bod.addN (av + 1) (by omega) dc_107_104 ?_
  refine Bod.put dc_107_105 fr_107_42 (mk_43 _) (Nat.le_of_ble_eq_true rfl) pf_10_5 (st_4305 _ _) (mu_I _ _ _) ?_
  exact Bod.retV dc_107_108 rt_107
theorem cGvrL_3 {d : Nat} {S : cS} {lv : sm_L} {i : Nat} {q : Int32} {fi : Nat} {av : Nat} {S1 : cS} {a : Nat} (q3 : sm_get lv 3 = some (.int (nI i))) (q0 : sm_get lv 0 = some (.ref 43)) (q1 : sm_get lv 1 = some (.int q)) (q2 : sm_get lv 2 = some (.int (nI fi))) (mi : i < 2 ^ 20) (mfi : fi < 2 ^ 20) (hav : sI S 4305 = nI av) (mav : av < 2 ^ 20) (b1 : av ≤ i) (b2 : fi ≤ av) (b3 : (av - fi) < 40) (b4 : 440 ≤ av) (ma : a < 2 ^ 20) (c1 : Ans (d + 8) 54 [.ref 23, .int (nI 15), .int (nI 8)] S (some (.int (nI a))) S1) : Bod (d + 8) 107 2 lv [] S none (S1) := by
  refine Bod.ildnG dc_107_2 (by repeat (first | exact q3 | exact sm_get_p1 | exact sm_get_p2e | refine sm_get_p1m (by decide) (by decide) ?_ | refine sm_get_p1n (by decide) rfl ?_ | refine sm_get_p2n (by decide) (by decide) rfl ?_)) ?_
  refine Bod.aldnG dc_107_3 (by repeat (first | exact q0 | exact sm_get_p1 | exact sm_get_p2e | refine sm_get_p1m (by decide) (by decide) ?_ | refine sm_get_p1n (by decide) rfl ?_ | refine sm_get_p2n (by decide) (by decide) rfl ?_)) ?_
  refine Bod.get dc_107_4 fr_107_42 (mk_43 _) rfl ?_
  refine Bod.eqI (nI av) (by first | assumption | rfl | exact congrArg nI (by omega) | (simp (disch := omega) only [rI, rIe, rA, rIA, rLA, rJA, rVI, rQI, rVA, rQA, upd_at,  rAI, rLI, rJI, nI_add, pk_sub, kc_0, kc_1, kc_2, kc_3, kc_4, kc_5, reduceIte, Nat.reduceEqDiff, Nat.add_zero, rI_hold, rI_hold, rL_hold, hav]; done)) ?_
  refine Bod.icT dc_107_7 rfl (k2_ge_T i av rfl rfl (by omega) (by omega)) ?_
  refine Bod.aldnG dc_107_52 (by repeat (first | exact q0 | exact sm_get_p1 | exact sm_get_p2e | refine sm_get_p1m (by decide) (by decide) ?_ | refine sm_get_p1n (by decide) rfl ?_ | refine sm_get_p2n (by decide) (by decide) rfl ?_)) ?_
  refine Bod.get dc_107_53 fr_107_42 (mk_43 _) rfl ?_
  refine Bod.eqI (nI av) (by first | assumption | rfl | exact congrArg nI (by omega) | (simp (disch := omega) only [rI, rIe, rA, rIA, rLA, rJA, rVI, rQI, rVA, rQA, upd_at,  rAI, rLI, rJI, nI_add, pk_sub, kc_0, kc_1, kc_2, kc_3, kc_4, kc_5, reduceIte, Nat.reduceEqDiff, Nat.add_zero, rI_hold, rI_hold, rL_hold, hav]; done)) ?_
  refine Bod.ildnG dc_107_56 (by repeat (first | exact q2 | exact sm_get_p1 | exact sm_get_p2e | refine sm_get_p1m (by decide) (by decide) ?_ | refine sm_get_p1n (by decide) rfl ?_ | refine sm_get_p2n (by decide) (by decide) rfl ?_)) ?_
  refine Bod.subN (av - fi) (by omega) (by omega) dc_107_57 ?_
  refine Bod.bip 40 (by decide) dc_107_58 ?_
  refine Bod.icF dc_107_60 rfl (k2_ge_F (av - fi) 40 rfl rfl (by omega) (by omega)) ?_
  refine Bod.aldnG dc_107_63 (by repeat (first | exact q0 | exact sm_get_p1 | exact sm_get_p2e | refine sm_get_p1m (by decide) (by decide) ?_ | refine sm_get_p1n (by decide) rfl ?_ | refine sm_get_p2n (by decide) (by decide) rfl ?_)) ?_
  refine Bod.get dc_107_64 fr_107_42 (mk_43 _) rfl ?_
  refine Bod.eqI (nI av) (by first | assumption | rfl | exact congrArg nI (by omega) | (simp (disch := omega) only [rI, rIe, rA, rIA, rLA, rJA, rVI, rQI, rVA, rQA, upd_at,  rAI, rLI, rJI, nI_add, pk_sub, kc_0, kc_1, kc_2, kc_3, kc_4, kc_5, reduceIte, Nat.reduceEqDiff, Nat.add_zero, rI_hold, rI_hold, rL_hold, hav]; done)) ?_
  refine Bod.aldnG dc_107_67 (by repeat (first | exact q0 | exact sm_get_p1 | exact sm_get_p2e | refine sm_get_p1m (by decide) (by decide) ?_ | refine sm_get_p1n (by decide) rfl ?_ | refine sm_get_p2n (by decide) (by decide) rfl ?_)) ?_
  refine Bod.get dc_107_68 fr_107_27 (mk_43 _) rfl ?_
  refine Bod.alenN dc_107_71 (mk_45 _) (by decide +kernel) ?_
  refine Bod.icF dc_107_72 rfl (k2_lt_F av 440 rfl rfl (by omega) (by omega)) ?_
  refine Bod.aldnG dc_107_75 (by repeat (first | exact q0 | exact sm_get_p1 | exact sm_get_p2e | refine sm_get_p1m (by decide) (by decide) ?_ | refine sm_get_p1n (by decide) rfl ?_ | refine sm_get_p2n (by decide) (by decide) rfl ?_)) ?_
  refine Bod.get dc_107_76 fr_107_15 (mk_43 _) rfl ?_
  refine Bod.bip 15 (by decide) dc_107_79 ?_
  refine Bod.bip 8 (by decide) dc_107_81 ?_
  refine Bod.virt (r := []) dc_107_83 kr_107_116 ⟨Or.inr rfl, ow_54, cl_7⟩ (by rw [np_54]; rfl) (by rw [np_54]; rfl) (ob_of (mk_23 _)) (Nat.le_of_ble_eq_true rfl) (c1  ) ?_
  show Bod _ _ _ _ [_] _ _ _
  refine Bod.go dc_107_86 rfl ?_
  exact Bod.retV dc_107_87 rt_107
theorem cGvrL_4 {d : Nat} {S : cS} {lv : sm_L} {i : Nat} {q : Int32} {fi : Nat} {av : Nat} {S1 : cS} {a : Nat} (q3 : sm_get lv 3 = some (.int (nI i))) (q0 : sm_get lv 0 = some (.ref 43)) (q1 : sm_get lv 1 = some (.int q)) (q2 : sm_get lv 2 = some (.int (nI fi))) (mi : i < 2 ^ 20) (mfi : fi < 2 ^ 20) (hav : sI S 4305 = nI av) (mav : av < 2 ^ 20) (b1 : i < av) (b2 : 440 ≤ i) (b3 : fi ≤ av) (b4 : 40 ≤ (av - fi)) (ma : a < 2 ^ 20) (c1 : Ans (d + 8) 54 [.ref 23, .int (nI 15), .int (nI 8)] S (some (.int (nI a))) S1) : Bod (d + 8) 107 2 lv [] S none (S1) := by
  refine Bod.ildnG dc_107_2 (by repeat (first | exact q3 | exact sm_get_p1 | exact sm_get_p2e | refine sm_get_p1m (by decide) (by decide) ?_ | refine sm_get_p1n (by decide) rfl ?_ | refine sm_get_p2n (by decide) (by decide) rfl ?_)) ?_
  refine Bod.aldnG dc_107_3 (by repeat (first | exact q0 | exact sm_get_p1 | exact sm_get_p2e | refine sm_get_p1m (by decide) (by decide) ?_ | refine sm_get_p1n (by decide) rfl ?_ | refine sm_get_p2n (by decide) (by decide) rfl ?_)) ?_
  refine Bod.get dc_107_4 fr_107_42 (mk_43 _) rfl ?_
  refine Bod.eqI (nI av) (by first | assumption | rfl | exact congrArg nI (by omega) | (simp (disch := omega) only [rI, rIe, rA, rIA, rLA, rJA, rVI, rQI, rVA, rQA, upd_at,  rAI, rLI, rJI, nI_add, pk_sub, kc_0, kc_1, kc_2, kc_3, kc_4, kc_5, reduceIte, Nat.reduceEqDiff, Nat.add_zero, rI_hold, rI_hold, rL_hold, hav]; done)) ?_
  refine Bod.icF dc_107_7 rfl (k2_ge_F i av rfl rfl (by omega) (by omega)) ?_
  refine Bod.ildnG dc_107_10 (by repeat (first | exact q3 | exact sm_get_p1 | exact sm_get_p2e | refine sm_get_p1m (by decide) (by decide) ?_ | refine sm_get_p1n (by decide) rfl ?_ | refine sm_get_p2n (by decide) (by decide) rfl ?_)) ?_
  refine Bod.aldnG dc_107_11 (by repeat (first | exact q0 | exact sm_get_p1 | exact sm_get_p2e | refine sm_get_p1m (by decide) (by decide) ?_ | refine sm_get_p1n (by decide) rfl ?_ | refine sm_get_p2n (by decide) (by decide) rfl ?_)) ?_
  refine Bod.get dc_107_12 fr_107_27 (mk_43 _) rfl ?_
  refine Bod.alenN dc_107_15 (mk_45 _) (by decide +kernel) ?_
  refine Bod.icT dc_107_16 rfl (k2_ge_T i 440 rfl rfl (by omega) (by omega)) ?_
  refine Bod.aldnG dc_107_52 (by repeat (first | exact q0 | exact sm_get_p1 | exact sm_get_p2e | refine sm_get_p1m (by decide) (by decide) ?_ | refine sm_get_p1n (by decide) rfl ?_ | refine sm_get_p2n (by decide) (by decide) rfl ?_)) ?_
  refine Bod.get dc_107_53 fr_107_42 (mk_43 _) rfl ?_
  refine Bod.eqI (nI av) (by first | assumption | rfl | exact congrArg nI (by omega) | (simp (disch := omega) only [rI, rIe, rA, rIA, rLA, rJA, rVI, rQI, rVA, rQA, upd_at,  rAI, rLI, rJI, nI_add, pk_sub, kc_0, kc_1, kc_2, kc_3, kc_4, kc_5, reduceIte, Nat.reduceEqDiff, Nat.add_zero, rI_hold, rI_hold, rL_hold, hav]; done)) ?_
  refine Bod.ildnG dc_107_56 (by repeat (first | exact q2 | exact sm_get_p1 | exact sm_get_p2e | refine sm_get_p1m (by decide) (by decide) ?_ | refine sm_get_p1n (by decide) rfl ?_ | refine sm_get_p2n (by decide) (by decide) rfl ?_)) ?_
  refine Bod.subN (av - fi) (by omega) (by omega) dc_107_57 ?_
  refine Bod.bip 40 (by decide) dc_107_58 ?_
  refine Bod.icT dc_107_60 rfl (k2_ge_T (av - fi) 40 rfl rfl (by omega) (by omega)) ?_
  refine Bod.aldnG dc_107_75 (by repeat (first | exact q0 | exact sm_get_p1 | exact sm_get_p2e | refine sm_get_p1m (by decide) (by decide) ?_ | refine sm_get_p1n (by decide) rfl ?_ | refine sm_get_p2n (by decide) (by decide) rfl ?_)) ?_
  refine Bod.get dc_107_76 fr_107_15 (mk_43 _) rfl ?_
  refine Bod.bip 15 (by decide) dc_107_79 ?_
  refine Bod.bip 8 (by decide) dc_107_81 ?_
  refine Bod.virt (r := []) dc_107_83 kr_107_116 ⟨Or.inr rfl, ow_54, cl_7⟩ (by rw [np_54]; rfl) (by rw [np_54]; rfl) (ob_of (mk_23 _)) (Nat.le_of_ble_eq_true rfl) (c1  ) ?_
  show Bod _ _ _ _ [_] _ _ _
  refine Bod.go dc_107_86 rfl ?_
  exact Bod.retV dc_107_87 rt_107
theorem cGvrL_5 {d : Nat} {S : cS} {lv : sm_L} {i : Nat} {q : Int32} {fi : Nat} {av : Nat} (q3 : sm_get lv 3 = some (.int (nI i))) (q0 : sm_get lv 0 = some (.ref 43)) (q1 : sm_get lv 1 = some (.int q)) (q2 : sm_get lv 2 = some (.int (nI fi))) (mi : i < 2 ^ 20) (mfi : fi < 2 ^ 20) (hav : sI S 4305 = nI av) (mav : av < 2 ^ 20) (b1 : i < av) (b2 : 440 ≤ i) (b3 : fi ≤ av) (b4 : (av - fi) < 40) (b5 : av < 440) : Bod (d + 8) 107 2 lv [] S none (wI 4305 (nI (av + 1)) (wA 45 av q S)) := by
  refine Bod.ildnG dc_107_2 (by repeat (first | exact q3 | exact sm_get_p1 | exact sm_get_p2e | refine sm_get_p1m (by decide) (by decide) ?_ | refine sm_get_p1n (by decide) rfl ?_ | refine sm_get_p2n (by decide) (by decide) rfl ?_)) ?_
  refine Bod.aldnG dc_107_3 (by repeat (first | exact q0 | exact sm_get_p1 | exact sm_get_p2e | refine sm_get_p1m (by decide) (by decide) ?_ | refine sm_get_p1n (by decide) rfl ?_ | refine sm_get_p2n (by decide) (by decide) rfl ?_)) ?_
  refine Bod.get dc_107_4 fr_107_42 (mk_43 _) rfl ?_
  refine Bod.eqI (nI av) (by first | assumption | rfl | exact congrArg nI (by omega) | (simp (disch := omega) only [rI, rIe, rA, rIA, rLA, rJA, rVI, rQI, rVA, rQA, upd_at,  rAI, rLI, rJI, nI_add, pk_sub, kc_0, kc_1, kc_2, kc_3, kc_4, kc_5, reduceIte, Nat.reduceEqDiff, Nat.add_zero, rI_hold, rI_hold, rL_hold, hav]; done)) ?_
  refine Bod.icF dc_107_7 rfl (k2_ge_F i av rfl rfl (by omega) (by omega)) ?_
  refine Bod.ildnG dc_107_10 (by repeat (first | exact q3 | exact sm_get_p1 | exact sm_get_p2e | refine sm_get_p1m (by decide) (by decide) ?_ | refine sm_get_p1n (by decide) rfl ?_ | refine sm_get_p2n (by decide) (by decide) rfl ?_)) ?_
  refine Bod.aldnG dc_107_11 (by repeat (first | exact q0 | exact sm_get_p1 | exact sm_get_p2e | refine sm_get_p1m (by decide) (by decide) ?_ | refine sm_get_p1n (by decide) rfl ?_ | refine sm_get_p2n (by decide) (by decide) rfl ?_)) ?_
  refine Bod.get dc_107_12 fr_107_27 (mk_43 _) rfl ?_
  refine Bod.alenN dc_107_15 (mk_45 _) (by decide +kernel) ?_
  refine Bod.icT dc_107_16 rfl (k2_ge_T i 440 rfl rfl (by omega) (by omega)) ?_
  refine Bod.aldnG dc_107_52 (by repeat (first | exact q0 | exact sm_get_p1 | exact sm_get_p2e | refine sm_get_p1m (by decide) (by decide) ?_ | refine sm_get_p1n (by decide) rfl ?_ | refine sm_get_p2n (by decide) (by decide) rfl ?_)) ?_
  refine Bod.get dc_107_53 fr_107_42 (mk_43 _) rfl ?_
  refine Bod.eqI (nI av) (by first | assumption | rfl | exact congrArg nI (by omega) | (simp (disch := omega) only [rI, rIe, rA, rIA, rLA, rJA, rVI, rQI, rVA, rQA, upd_at,  rAI, rLI, rJI, nI_add, pk_sub, kc_0, kc_1, kc_2, kc_3, kc_4, kc_5, reduceIte, Nat.reduceEqDiff, Nat.add_zero, rI_hold, rI_hold, rL_hold, hav]; done)) ?_
  refine Bod.ildnG dc_107_56 (by repeat (first | exact q2 | exact sm_get_p1 | exact sm_get_p2e | refine sm_get_p1m (by decide) (by decide) ?_ | refine sm_get_p1n (by decide) rfl ?_ | refine sm_get_p2n (by decide) (by decide) rfl ?_)) ?_
  refine Bod.subN (av - fi) (by omega) (by omega) dc_107_57 ?_
  refine Bod.bip 40 (by decide) dc_107_58 ?_
  refine Bod.icF dc_107_60 rfl (k2_ge_F (av - fi) 40 rfl rfl (by omega) (by omega)) ?_
  refine Bod.aldnG dc_107_63 (by repeat (first | exact q0 | exact sm_get_p1 | exact sm_get_p2e | refine sm_get_p1m (by decide) (by decide) ?_ | refine sm_get_p1n (by decide) rfl ?_ | refine sm_get_p2n (by decide) (by decide) rfl ?_)) ?_
  refine Bod.get dc_107_64 fr_107_42 (mk_43 _) rfl ?_
  refine Bod.eqI (nI av) (by first | assumption | rfl | exact congrArg nI (by omega) | (simp (disch := omega) only [rI, rIe, rA, rIA, rLA, rJA, rVI, rQI, rVA, rQA, upd_at,  rAI, rLI, rJI, nI_add, pk_sub, kc_0, kc_1, kc_2, kc_3, kc_4, kc_5, reduceIte, Nat.reduceEqDiff, Nat.add_zero, rI_hold, rI_hold, rL_hold, hav]; done)) ?_
  refine Bod.aldnG dc_107_67 (by repeat (first | exact q0 | exact sm_get_p1 | exact sm_get_p2e | refine sm_get_p1m (by decide) (by decide) ?_ | refine sm_get_p1n (by decide) rfl ?_ | refine sm_get_p2n (by decide) (by decide) rfl ?_)) ?_
  refine Bod.get dc_107_68 fr_107_27 (mk_43 _) rfl ?_
  refine Bod.alenN dc_107_71 (mk_45 _) (by decide +kernel) ?_
  refine Bod.icT dc_107_72 rfl (k2_lt_T av 440 rfl rfl (by omega) (by omega)) ?_
  refine Bod.aldnG dc_107_88 (by repeat (first | exact q0 | exact sm_get_p1 | exact sm_get_p2e | refine sm_get_p1m (by decide) (by decide) ?_ | refine sm_get_p1n (by decide) rfl ?_ | refine sm_get_p2n (by decide) (by decide) rfl ?_)) ?_
  refine Bod.get dc_107_89 fr_107_27 (mk_43 _) rfl ?_
  refine Bod.aldnG dc_107_92 (by repeat (first | exact q0 | exact sm_get_p1 | exact sm_get_p2e | refine sm_get_p1m (by decide) (by decide) ?_ | refine sm_get_p1n (by decide) rfl ?_ | refine sm_get_p2n (by decide) (by decide) rfl ?_)) ?_
  refine Bod.get dc_107_93 fr_107_42 (mk_43 _) rfl ?_
  refine Bod.eqI (nI av) (by first | assumption | rfl | exact congrArg nI (by omega) | (simp (disch := omega) only [rI, rIe, rA, rIA, rLA, rJA, rVI, rQI, rVA, rQA, upd_at,  rAI, rLI, rJI, nI_add, pk_sub, kc_0, kc_1, kc_2, kc_3, kc_4, kc_5, reduceIte, Nat.reduceEqDiff, Nat.add_zero, rI_hold, rI_hold, rL_hold, hav]; done)) ?_
  refine Bod.ildnG dc_107_96 (by repeat (first | exact q1 | exact sm_get_p1 | exact sm_get_p2e | refine sm_get_p1m (by decide) (by decide) ?_ | refine sm_get_p1n (by decide) rfl ?_ | refine sm_get_p2n (by decide) (by decide) rfl ?_)) ?_
  refine Bod.iastN av rfl (by omega) (by omega) dc_107_97 (mk_45 _) (sa_45 _ _ _) (mu_A _ _ _ _) ?_
  refine Bod.aldnG dc_107_98 (by repeat (first | exact q0 | exact sm_get_p1 | exact sm_get_p2e | refine sm_get_p1m (by decide) (by decide) ?_ | refine sm_get_p1n (by decide) rfl ?_ | refine sm_get_p2n (by decide) (by decide) rfl ?_)) ?_
  refine Bod.go dc_107_99 rfl ?_
  refine Bod.get dc_107_100 fr_107_42 (mk_43 _) rfl ?_
  refine Bod.eqI (nI av) (by first | (simp (disch := omega) only [rI, rIe, rA, rIA, rLA, rJA, rVI, rQI, rVA, rQA, upd_at,  rAI, rLI, rJI, nI_add, pk_sub, kc_0, kc_1, kc_2, kc_3, kc_4, kc_5, reduceIte, Nat.reduceEqDiff, Nat.add_zero, rI_hold, rI_hold, rL_hold, hav]; done) | (simp (disch := omega) only [rI, rIe, rA, rIA, rLA, rJA, rVI, rQI, rVA, rQA, upd_at,  rAI, rLI, rJI, nI_add, pk_sub, kc_0, kc_1, kc_2, kc_3, kc_4, kc_5, reduceIte, Nat.reduceEqDiff, Nat.add_zero, rI_hold, rI_hold, rL_hold, hav]; exact congrArg nI (by omega))) ?_
  refine Bod.ic 1 (by decide) dc_107_103 ?_
  refine Bod.addN (av + 1) (by omega) dc_107_104 ?_
  refine Bod.put dc_107_105 fr_107_42 (mk_43 _) (Nat.le_of_ble_eq_true rfl) pf_10_5 (st_4305 _ _) (mu_I _ _ _) ?_
  exact Bod.retV dc_107_108 rt_107
theorem cGvrL_6 {d : Nat} {S : cS} {lv : sm_L} {i : Nat} {q : Int32} {fi : Nat} {av : Nat} {S1 : cS} {a : Nat} (q3 : sm_get lv 3 = some (.int (nI i))) (q0 : sm_get lv 0 = some (.ref 43)) (q1 : sm_get lv 1 = some (.int q)) (q2 : sm_get lv 2 = some (.int (nI fi))) (mi : i < 2 ^ 20) (mfi : fi < 2 ^ 20) (hav : sI S 4305 = nI av) (mav : av < 2 ^ 20) (b1 : i < av) (b2 : 440 ≤ i) (b3 : fi ≤ av) (b4 : (av - fi) < 40) (b5 : 440 ≤ av) (ma : a < 2 ^ 20) (c1 : Ans (d + 8) 54 [.ref 23, .int (nI 15), .int (nI 8)] S (some (.int (nI a))) S1) : Bod (d + 8) 107 2 lv [] S none (S1) := by
  refine Bod.ildnG dc_107_2 (by repeat (first | exact q3 | exact sm_get_p1 | exact sm_get_p2e | refine sm_get_p1m (by decide) (by decide) ?_ | refine sm_get_p1n (by decide) rfl ?_ | refine sm_get_p2n (by decide) (by decide) rfl ?_)) ?_
  refine Bod.aldnG dc_107_3 (by repeat (first | exact q0 | exact sm_get_p1 | exact sm_get_p2e | refine sm_get_p1m (by decide) (by decide) ?_ | refine sm_get_p1n (by decide) rfl ?_ | refine sm_get_p2n (by decide) (by decide) rfl ?_)) ?_
  refine Bod.get dc_107_4 fr_107_42 (mk_43 _) rfl ?_
  refine Bod.eqI (nI av) (by first | assumption | rfl | exact congrArg nI (by omega) | (simp (disch := omega) only [rI, rIe, rA, rIA, rLA, rJA, rVI, rQI, rVA, rQA, upd_at,  rAI, rLI, rJI, nI_add, pk_sub, kc_0, kc_1, kc_2, kc_3, kc_4, kc_5, reduceIte, Nat.reduceEqDiff, Nat.add_zero, rI_hold, rI_hold, rL_hold, hav]; done)) ?_
  refine Bod.icF dc_107_7 rfl (k2_ge_F i av rfl rfl (by omega) (by omega)) ?_
  refine Bod.ildnG dc_107_10 (by repeat (first | exact q3 | exact sm_get_p1 | exact sm_get_p2e | refine sm_get_p1m (by decide) (by decide) ?_ | refine sm_get_p1n (by decide) rfl ?_ | refine sm_get_p2n (by decide) (by decide) rfl ?_)) ?_
  refine Bod.aldnG dc_107_11 (by repeat (first | exact q0 | exact sm_get_p1 | exact sm_get_p2e | refine sm_get_p1m (by decide) (by decide) ?_ | refine sm_get_p1n (by decide) rfl ?_ | refine sm_get_p2n (by decide) (by decide) rfl ?_)) ?_
  refine Bod.get dc_107_12 fr_107_27 (mk_43 _) rfl ?_
  refine Bod.alenN dc_107_15 (mk_45 _) (by decide +kernel) ?_
  refine Bod.icT dc_107_16 rfl (k2_ge_T i 440 rfl rfl (by omega) (by omega)) ?_
  refine Bod.aldnG dc_107_52 (by repeat (first | exact q0 | exact sm_get_p1 | exact sm_get_p2e | refine sm_get_p1m (by decide) (by decide) ?_ | refine sm_get_p1n (by decide) rfl ?_ | refine sm_get_p2n (by decide) (by decide) rfl ?_)) ?_
  refine Bod.get dc_107_53 fr_107_42 (mk_43 _) rfl ?_
  refine Bod.eqI (nI av) (by first | assumption | rfl | exact congrArg nI (by omega) | (simp (disch := omega) only [rI, rIe, rA, rIA, rLA, rJA, rVI, rQI, rVA, rQA, upd_at,  rAI, rLI, rJI, nI_add, pk_sub, kc_0, kc_1, kc_2, kc_3, kc_4, kc_5, reduceIte, Nat.reduceEqDiff, Nat.add_zero, rI_hold, rI_hold, rL_hold, hav]; done)) ?_
  refine Bod.ildnG dc_107_56 (by repeat (first | exact q2 | exact sm_get_p1 | exact sm_get_p2e | refine sm_get_p1m (by decide) (by decide) ?_ | refine sm_get_p1n (by decide) rfl ?_ | refine sm_get_p2n (by decide) (by decide) rfl ?_)) ?_
  refine Bod.subN (av - fi) (by omega) (by omega) dc_107_57 ?_
  refine Bod.bip 40 (by decide) dc_107_58 ?_
  refine Bod.icF dc_107_60 rfl (k2_ge_F (av - fi) 40 rfl rfl (by omega) (by omega)) ?_
  refine Bod.aldnG dc_107_63 (by repeat (first | exact q0 | exact sm_get_p1 | exact sm_get_p2e | refine sm_get_p1m (by decide) (by decide) ?_ | refine sm_get_p1n (by decide) rfl ?_ | refine sm_get_p2n (by decide) (by decide) rfl ?_)) ?_
  refine Bod.get dc_107_64 fr_107_42 (mk_43 _) rfl ?_
  refine Bod.eqI (nI av) (by first | assumption | rfl | exact congrArg nI (by omega) | (simp (disch := omega) only [rI, rIe, rA, rIA, rLA, rJA, rVI, rQI, rVA, rQA, upd_at,  rAI, rLI, rJI, nI_add, pk_sub, kc_0, kc_1, kc_2, kc_3, kc_4, kc_5, reduceIte, Nat.reduceEqDiff, Nat.add_zero, rI_hold, rI_hold, rL_hold, hav]; done)) ?_
  refine Bod.aldnG dc_107_67 (by repeat (first | exact q0 | exact sm_get_p1 | exact sm_get_p2e | refine sm_get_p1m (by decide) (by decide) ?_ | refine sm_get_p1n (by decide) rfl ?_ | refine sm_get_p2n (by decide) (by decide) rfl ?_)) ?_
  refine Bod.get dc_107_68 fr_107_27 (mk_43 _) rfl ?_
  refine Bod.alenN dc_107_71 (mk_45 _) (by decide +kernel) ?_
  refine Bod.icF dc_107_72 rfl (k2_lt_F av 440 rfl rfl (by omega) (by omega)) ?_
  refine Bod.aldnG dc_107_75 (by repeat (first | exact q0 | exact sm_get_p1 | exact sm_get_p2e | refine sm_get_p1m (by decide) (by decide) ?_ | refine sm_get_p1n (by decide) rfl ?_ | refine sm_get_p2n (by decide) (by decide) rfl ?_)) ?_
  refine Bod.get dc_107_76 fr_107_15 (mk_43 _) rfl ?_
  refine Bod.bip 15 (by decide) dc_107_79 ?_
  refine Bod.bip 8 (by decide) dc_107_81 ?_
  refine Bod.virt (r := []) dc_107_83 kr_107_116 ⟨Or.inr rfl, ow_54, cl_7⟩ (by rw [np_54]; rfl) (by rw [np_54]; rfl) (ob_of (mk_23 _)) (Nat.le_of_ble_eq_true rfl) (c1  ) ?_
  show Bod _ _ _ _ [_] _ _ _
  refine Bod.go dc_107_86 rfl ?_
  exact Bod.retV dc_107_87 rt_107
theorem cGvrL_7 {d : Nat} {S : cS} {lv : sm_L} {i : Nat} {q : Int32} {fi : Nat} {av : Nat} {S1 : cS} {a : Nat} (q3 : sm_get lv 3 = some (.int (nI i))) (q0 : sm_get lv 0 = some (.ref 43)) (q1 : sm_get lv 1 = some (.int q)) (q2 : sm_get lv 2 = some (.int (nI fi))) (mi : i < 2 ^ 20) (mfi : fi < 2 ^ 20) (hav : sI S 4305 = nI av) (mav : av < 2 ^ 20) (b1 : i < av) (b2 : i < 440) (w7 : sA S 45 i = q) (b3 : i ≤ av) (ma : a < 2 ^ 20) (c1 : Ans (d + 8) 54 [.ref 23, .int (nI 24), .int (nI (av - i))] S (some (.int (nI a))) S1) : Bod (d + 8) 107 2 lv [] S none (S1) := by
  refine Bod.ildnG dc_107_2 (by repeat (first | exact q3 | exact sm_get_p1 | exact sm_get_p2e | refine sm_get_p1m (by decide) (by decide) ?_ | refine sm_get_p1n (by decide) rfl ?_ | refine sm_get_p2n (by decide) (by decide) rfl ?_)) ?_
  refine Bod.aldnG dc_107_3 (by repeat (first | exact q0 | exact sm_get_p1 | exact sm_get_p2e | refine sm_get_p1m (by decide) (by decide) ?_ | refine sm_get_p1n (by decide) rfl ?_ | refine sm_get_p2n (by decide) (by decide) rfl ?_)) ?_
  refine Bod.get dc_107_4 fr_107_42 (mk_43 _) rfl ?_
  refine Bod.eqI (nI av) (by first | assumption | rfl | exact congrArg nI (by omega) | (simp (disch := omega) only [rI, rIe, rA, rIA, rLA, rJA, rVI, rQI, rVA, rQA, upd_at,  rAI, rLI, rJI, nI_add, pk_sub, kc_0, kc_1, kc_2, kc_3, kc_4, kc_5, reduceIte, Nat.reduceEqDiff, Nat.add_zero, rI_hold, rI_hold, rL_hold, hav]; done)) ?_
  refine Bod.icF dc_107_7 rfl (k2_ge_F i av rfl rfl (by omega) (by omega)) ?_
  refine Bod.ildnG dc_107_10 (by repeat (first | exact q3 | exact sm_get_p1 | exact sm_get_p2e | refine sm_get_p1m (by decide) (by decide) ?_ | refine sm_get_p1n (by decide) rfl ?_ | refine sm_get_p2n (by decide) (by decide) rfl ?_)) ?_
  refine Bod.aldnG dc_107_11 (by repeat (first | exact q0 | exact sm_get_p1 | exact sm_get_p2e | refine sm_get_p1m (by decide) (by decide) ?_ | refine sm_get_p1n (by decide) rfl ?_ | refine sm_get_p2n (by decide) (by decide) rfl ?_)) ?_
  refine Bod.get dc_107_12 fr_107_27 (mk_43 _) rfl ?_
  refine Bod.alenN dc_107_15 (mk_45 _) (by decide +kernel) ?_
  refine Bod.icF dc_107_16 rfl (k2_ge_F i 440 rfl rfl (by omega) (by omega)) ?_
  refine Bod.aldnG dc_107_19 (by repeat (first | exact q0 | exact sm_get_p1 | exact sm_get_p2e | refine sm_get_p1m (by decide) (by decide) ?_ | refine sm_get_p1n (by decide) rfl ?_ | refine sm_get_p2n (by decide) (by decide) rfl ?_)) ?_
  refine Bod.get dc_107_20 fr_107_27 (mk_43 _) rfl ?_
  refine Bod.ildnG dc_107_23 (by repeat (first | exact q3 | exact sm_get_p1 | exact sm_get_p2e | refine sm_get_p1m (by decide) (by decide) ?_ | refine sm_get_p1n (by decide) rfl ?_ | refine sm_get_p2n (by decide) (by decide) rfl ?_)) ?_
  refine Bod.ialdN i rfl (by omega) (by omega) dc_107_24 (mk_45 _) ?_
  refine Bod.ildnG dc_107_25 (by repeat (first | exact q1 | exact sm_get_p1 | exact sm_get_p2e | refine sm_get_p1m (by decide) (by decide) ?_ | refine sm_get_p1n (by decide) rfl ?_ | refine sm_get_p2n (by decide) (by decide) rfl ?_)) ?_
  refine Bod.icF dc_107_26 rfl (c2_ne_F w7) ?_
  refine Bod.aldnG dc_107_29 (by repeat (first | exact q0 | exact sm_get_p1 | exact sm_get_p2e | refine sm_get_p1m (by decide) (by decide) ?_ | refine sm_get_p1n (by decide) rfl ?_ | refine sm_get_p2n (by decide) (by decide) rfl ?_)) ?_
  refine Bod.get dc_107_30 fr_107_15 (mk_43 _) rfl ?_
  refine Bod.bip 24 (by decide) dc_107_33 ?_
  refine Bod.aldnG dc_107_35 (by repeat (first | exact q0 | exact sm_get_p1 | exact sm_get_p2e | refine sm_get_p1m (by decide) (by decide) ?_ | refine sm_get_p1n (by decide) rfl ?_ | refine sm_get_p2n (by decide) (by decide) rfl ?_)) ?_
  refine Bod.get dc_107_36 fr_107_42 (mk_43 _) rfl ?_
  refine Bod.eqI (nI av) (by first | assumption | rfl | exact congrArg nI (by omega) | (simp (disch := omega) only [rI, rIe, rA, rIA, rLA, rJA, rVI, rQI, rVA, rQA, upd_at,  rAI, rLI, rJI, nI_add, pk_sub, kc_0, kc_1, kc_2, kc_3, kc_4, kc_5, reduceIte, Nat.reduceEqDiff, Nat.add_zero, rI_hold, rI_hold, rL_hold, hav]; done)) ?_
  refine Bod.ildnG dc_107_39 (by repeat (first | exact q3 | exact sm_get_p1 | exact sm_get_p2e | refine sm_get_p1m (by decide) (by decide) ?_ | refine sm_get_p1n (by decide) rfl ?_ | refine sm_get_p2n (by decide) (by decide) rfl ?_)) ?_
  refine Bod.subN (av - i) (by omega) (by omega) dc_107_40 ?_
  refine Bod.virt (r := []) dc_107_41 kr_107_116 ⟨Or.inr rfl, ow_54, cl_7⟩ (by rw [np_54]; rfl) (by rw [np_54]; rfl) (ob_of (mk_23 _)) (Nat.le_of_ble_eq_true rfl) (c1  ) ?_
  show Bod _ _ _ _ [_] _ _ _
  refine Bod.go dc_107_44 rfl ?_
  exact Bod.retV dc_107_45 rt_107
theorem cGvrL_8 {d : Nat} {S Sf : cS} {v : Option Value} {lv : sm_L} {i : Nat} {q : Int32} {fi : Nat} {av : Nat} (q3 : sm_get lv 3 = some (.int (nI i))) (q0 : sm_get lv 0 = some (.ref 43)) (q1 : sm_get lv 1 = some (.int q)) (q2 : sm_get lv 2 = some (.int (nI fi))) (mi : i < 2 ^ 20) (mfi : fi < 2 ^ 20) (hav : sI S 4305 = nI av) (mav : av < 2 ^ 20) (b1 : i < av) (b2 : i < 440) (w7 : sA S 45 i ≠ q) (hB : ∀ lv1 : sm_L, sm_get lv1 0 = some (.ref 43) → sm_get lv1 1 = some (.int q) → sm_get lv1 2 = some (.int (nI fi)) → sm_get lv1 3 = some (.int (nI (i + 1))) → Bod (d + 8) 107 2 lv1 [] (S) v Sf) : Bod (d + 8) 107 2 lv [] S v Sf := by
  refine Bod.ildnG dc_107_2 (by repeat (first | exact q3 | exact sm_get_p1 | exact sm_get_p2e | refine sm_get_p1m (by decide) (by decide) ?_ | refine sm_get_p1n (by decide) rfl ?_ | refine sm_get_p2n (by decide) (by decide) rfl ?_)) ?_
  refine Bod.aldnG dc_107_3 (by repeat (first | exact q0 | exact sm_get_p1 | exact sm_get_p2e | refine sm_get_p1m (by decide) (by decide) ?_ | refine sm_get_p1n (by decide) rfl ?_ | refine sm_get_p2n (by decide) (by decide) rfl ?_)) ?_
  refine Bod.get dc_107_4 fr_107_42 (mk_43 _) rfl ?_
  refine Bod.eqI (nI av) (by first | assumption | rfl | exact congrArg nI (by omega) | (simp (disch := omega) only [rI, rIe, rA, rIA, rLA, rJA, rVI, rQI, rVA, rQA, upd_at,  rAI, rLI, rJI, nI_add, pk_sub, kc_0, kc_1, kc_2, kc_3, kc_4, kc_5, reduceIte, Nat.reduceEqDiff, Nat.add_zero, rI_hold, rI_hold, rL_hold, hav]; done)) ?_
  refine Bod.icF dc_107_7 rfl (k2_ge_F i av rfl rfl (by omega) (by omega)) ?_
  refine Bod.ildnG dc_107_10 (by repeat (first | exact q3 | exact sm_get_p1 | exact sm_get_p2e | refine sm_get_p1m (by decide) (by decide) ?_ | refine sm_get_p1n (by decide) rfl ?_ | refine sm_get_p2n (by decide) (by decide) rfl ?_)) ?_
  refine Bod.aldnG dc_107_11 (by repeat (first | exact q0 | exact sm_get_p1 | exact sm_get_p2e | refine sm_get_p1m (by decide) (by decide) ?_ | refine sm_get_p1n (by decide) rfl ?_ | refine sm_get_p2n (by decide) (by decide) rfl ?_)) ?_
  refine Bod.get dc_107_12 fr_107_27 (mk_43 _) rfl ?_
  refine Bod.alenN dc_107_15 (mk_45 _) (by decide +kernel) ?_
  refine Bod.icF dc_107_16 rfl (k2_ge_F i 440 rfl rfl (by omega) (by omega)) ?_
  refine Bod.aldnG dc_107_19 (by repeat (first | exact q0 | exact sm_get_p1 | exact sm_get_p2e | refine sm_get_p1m (by decide) (by decide) ?_ | refine sm_get_p1n (by decide) rfl ?_ | refine sm_get_p2n (by decide) (by decide) rfl ?_)) ?_
  refine Bod.get dc_107_20 fr_107_27 (mk_43 _) rfl ?_
  refine Bod.ildnG dc_107_23 (by repeat (first | exact q3 | exact sm_get_p1 | exact sm_get_p2e | refine sm_get_p1m (by decide) (by decide) ?_ | refine sm_get_p1n (by decide) rfl ?_ | refine sm_get_p2n (by decide) (by decide) rfl ?_)) ?_
  refine Bod.ialdN i rfl (by omega) (by omega) dc_107_24 (mk_45 _) ?_
  refine Bod.ildnG dc_107_25 (by repeat (first | exact q1 | exact sm_get_p1 | exact sm_get_p2e | refine sm_get_p1m (by decide) (by decide) ?_ | refine sm_get_p1n (by decide) rfl ?_ | refine sm_get_p2n (by decide) (by decide) rfl ?_)) ?_
  refine Bod.icT dc_107_26 rfl (c2_ne_T w7) ?_
  refine Bod.incN (i + 1) (by rw [kc_1, nI_add]) dc_107_46 (by rw [ml_107]; exact Nat.le_of_ble_eq_true rfl) (by repeat (first | exact q3 | exact sm_get_p1 | exact sm_get_p2e | refine sm_get_p1m (by decide) (by decide) ?_ | refine sm_get_p1n (by decide) rfl ?_ | refine sm_get_p2n (by decide) (by decide) rfl ?_)) ?_
  refine Bod.go dc_107_49 rfl ?_
  exact hB _ (by repeat (first | exact q0 | exact sm_get_p1 | exact sm_get_p2e | refine sm_get_p1m (by decide) (by decide) ?_ | refine sm_get_p1n (by decide) rfl ?_ | refine sm_get_p2n (by decide) (by decide) rfl ?_)) (by repeat (first | exact q1 | exact sm_get_p1 | exact sm_get_p2e | refine sm_get_p1m (by decide) (by decide) ?_ | refine sm_get_p1n (by decide) rfl ?_ | refine sm_get_p2n (by decide) (by decide) rfl ?_)) (by repeat (first | exact q2 | exact sm_get_p1 | exact sm_get_p2e | refine sm_get_p1m (by decide) (by decide) ?_ | refine sm_get_p1n (by decide) rfl ?_ | refine sm_get_p2n (by decide) (by decide) rfl ?_)) (by repeat (first | exact q0 | exact sm_get_p1 | exact sm_get_p2e | refine sm_get_p1m (by decide) (by decide) ?_ | refine sm_get_p1n (by decide) rfl ?_ | refine sm_get_p2n (by decide) (by decide) rfl ?_))
theorem cSt46r_1 {d : Nat} {S : cS} {dp : Nat} {ln : Nat} {S1 : cS} {a : Nat} {S2 : cS} {rb : Int32} {S3 : cS} (mdp : dp < 2 ^ 20) (hln : sI S 3106 = nI ln) (mln : ln < 2 ^ 20) (ma : a < 2 ^ 20) (c1 : Ans (d + 8) 54 [.ref 23, .int (nI 1), .int (nI ln)] S (some (.int (nI a))) S1) (k1 : sI S1 3105 = nI 46) (c2 : Ans (d + 8) 97 [.ref 43, .int (nI dp)] S1 (some (.int rb)) S2) (c3 : Ans (d + 8) 93 [.ref 43, .int rb] S2 none S3) : Bod (d + 8) 53 0 [(0, .ref 43), (1, .int (nI dp))] [] S none (S3) := by
  refine Bod.go dc_53_0 rfl ?_
  refine Bod.get dc_53_1 fr_53_15 (mk_43 _) rfl ?_
  refine Bod.ic 1 (by decide) dc_53_4 ?_
  refine Bod.go dc_53_5 rfl ?_
  refine Bod.get dc_53_6 fr_53_9 (mk_43 _) rfl ?_
  refine Bod.get dc_53_9 fr_53_113 (mk_31 _) rfl ?_
  refine Bod.eqI (nI ln) (by first | assumption | rfl | exact congrArg nI (by omega) | (simp (disch := omega) only [rI, rIe, rA, rIA, rLA, rJA, rVI, rQI, rVA, rQA, upd_at,  rAI, rLI, rJI, nI_add, pk_sub, kc_0, kc_1, kc_2, kc_3, kc_4, kc_5, reduceIte, Nat.reduceEqDiff, Nat.add_zero, rI_hold, rI_hold, rL_hold, hln]; done)) ?_
  refine Bod.virt (r := []) dc_53_12 kr_53_116 ⟨Or.inr rfl, ow_54, cl_7⟩ (by rw [np_54]; rfl) (by rw [np_54]; rfl) (ob_of (mk_23 _)) (Nat.le_of_ble_eq_true rfl) (c1  ) ?_
  show Bod _ _ _ _ [_] _ _ _
  refine Bod.go dc_53_15 rfl ?_
  refine Bod.go dc_53_16 rfl ?_
  refine Bod.get dc_53_17 fr_53_9 (mk_43 _) rfl ?_
  refine Bod.get dc_53_20 fr_53_79 (mk_31 _) rfl ?_
  refine Bod.eqI (nI 46) (by first | (simp (disch := omega) only [rI, rIe, rA, rIA, rLA, rJA, rVI, rQI, rVA, rQA, upd_at,  rAI, rLI, rJI, nI_add, pk_sub, kc_0, kc_1, kc_2, kc_3, kc_4, kc_5, reduceIte, Nat.reduceEqDiff, Nat.add_zero, rI_hold, rI_hold, rL_hold, hln, k1]; done) | (simp (disch := omega) only [rI, rIe, rA, rIA, rLA, rJA, rVI, rQI, rVA, rQA, upd_at,  rAI, rLI, rJI, nI_add, pk_sub, kc_0, kc_1, kc_2, kc_3, kc_4, kc_5, reduceIte, Nat.reduceEqDiff, Nat.add_zero, rI_hold, rI_hold, rL_hold, hln, k1]; exact congrArg nI (by omega))) ?_
  refine Bod.sw (t := 122) dc_53_23 rfl rfl (by decide +kernel) ?_
  refine Bod.go dc_53_122 rfl ?_
  refine Bod.go dc_53_123 rfl ?_
  refine Bod.go dc_53_124 rfl ?_
  refine Bod.virt (r := [_]) dc_53_125 kr_53_128 ⟨Or.inl rfl, ow_97, cl_10⟩ (by rw [np_97]; rfl) (by rw [np_97]; rfl) (ob_of (mk_43 _)) (Nat.le_of_ble_eq_true rfl) (c2  ) ?_
  show Bod _ _ _ _ [_, _] _ _ _
  refine Bod.virt (r := []) dc_53_128 kr_53_131 ⟨Or.inl rfl, ow_93, cl_10⟩ (by rw [np_93]; rfl) (by rw [np_93]; rfl) (ob_of (mk_43 _)) (Nat.le_of_ble_eq_true rfl) (c3  ) ?_
  show Bod _ _ _ _ [] _ _ _
  exact Bod.retV dc_53_131 rt_53
theorem cSt41_1 {d : Nat} {S : cS} {dp : Nat} {ln : Nat} {S1 : cS} {a : Nat} {S2 : cS} {S3 : cS} (mdp : dp < 2 ^ 20) (hln : sI S 3106 = nI ln) (mln : ln < 2 ^ 20) (ma : a < 2 ^ 20) (c1 : Ans (d + 8) 54 [.ref 23, .int (nI 1), .int (nI ln)] S (some (.int (nI a))) S1) (k1 : sI S1 3105 = nI 41) (c2 : Ans (d + 8) 117 [.ref 43] S1 none S2) (c3 : Ans (d + 8) 86 [.ref 31] S2 none S3) : Bod (d + 8) 53 0 [(0, .ref 43), (1, .int (nI dp))] [] S none (S3) := by
  refine Bod.go dc_53_0 rfl ?_
  refine Bod.get dc_53_1 fr_53_15 (mk_43 _) rfl ?_
  refine Bod.ic 1 (by decide) dc_53_4 ?_
  refine Bod.go dc_53_5 rfl ?_
  refine Bod.get dc_53_6 fr_53_9 (mk_43 _) rfl ?_
  refine Bod.get dc_53_9 fr_53_113 (mk_31 _) rfl ?_
  refine Bod.eqI (nI ln) (by first | assumption | rfl | exact congrArg nI (by omega) | (simp (disch := omega) only [rI, rIe, rA, rIA, rLA, rJA, rVI, rQI, rVA, rQA, upd_at,  rAI, rLI, rJI, nI_add, pk_sub, kc_0, kc_1, kc_2, kc_3, kc_4, kc_5, reduceIte, Nat.reduceEqDiff, Nat.add_zero, rI_hold, rI_hold, rL_hold, hln]; done)) ?_
  refine Bod.virt (r := []) dc_53_12 kr_53_116 ⟨Or.inr rfl, ow_54, cl_7⟩ (by rw [np_54]; rfl) (by rw [np_54]; rfl) (ob_of (mk_23 _)) (Nat.le_of_ble_eq_true rfl) (c1  ) ?_
  show Bod _ _ _ _ [_] _ _ _
  refine Bod.go dc_53_15 rfl ?_
  refine Bod.go dc_53_16 rfl ?_
  refine Bod.get dc_53_17 fr_53_9 (mk_43 _) rfl ?_
  refine Bod.get dc_53_20 fr_53_79 (mk_31 _) rfl ?_
  refine Bod.eqI (nI 41) (by first | (simp (disch := omega) only [rI, rIe, rA, rIA, rLA, rJA, rVI, rQI, rVA, rQA, upd_at,  rAI, rLI, rJI, nI_add, pk_sub, kc_0, kc_1, kc_2, kc_3, kc_4, kc_5, reduceIte, Nat.reduceEqDiff, Nat.add_zero, rI_hold, rI_hold, rL_hold, hln, k1]; done) | (simp (disch := omega) only [rI, rIe, rA, rIA, rLA, rJA, rVI, rQI, rVA, rQA, upd_at,  rAI, rLI, rJI, nI_add, pk_sub, kc_0, kc_1, kc_2, kc_3, kc_4, kc_5, reduceIte, Nat.reduceEqDiff, Nat.add_zero, rI_hold, rI_hold, rL_hold, hln, k1]; exact congrArg nI (by omega))) ?_
  refine Bod.sw (t := 200) dc_53_23 rfl rfl (by decide +kernel) ?_
  refine Bod.go dc_53_200 rfl ?_
  refine Bod.virt (r := []) dc_53_201 kr_53_156 ⟨Or.inl rfl, ow_117, cl_10⟩ (by rw [np_117]; rfl) (by rw [np_117]; rfl) (ob_of (mk_43 _)) (Nat.le_of_ble_eq_true rfl) (c2  ) ?_
  show Bod _ _ _ _ [] _ _ _
  refine Bod.go dc_53_204 rfl ?_
  refine Bod.get dc_53_205 fr_53_9 (mk_43 _) rfl ?_
  refine Bod.virt (r := []) dc_53_208 kr_53_110 ⟨Or.inr rfl, ow_86, cl_3⟩ (by rw [np_86]; rfl) (by rw [np_86]; rfl) (ob_of (mk_31 _)) (Nat.le_of_ble_eq_true rfl) (c3  ) ?_
  show Bod _ _ _ _ [] _ _ _
  exact Bod.retV dc_53_211 rt_53
theorem cSt42_1 {d : Nat} {S : cS} {dp : Nat} {ln : Nat} {S1 : cS} {a : Nat} {S2 : cS} {S3 : cS} (mdp : dp < 2 ^ 20) (hln : sI S 3106 = nI ln) (mln : ln < 2 ^ 20) (ma : a < 2 ^ 20) (c1 : Ans (d + 8) 54 [.ref 23, .int (nI 1), .int (nI ln)] S (some (.int (nI a))) S1) (k1 : sI S1 3105 = nI 42) (c2 : Ans (d + 8) 117 [.ref 43] S1 none S2) (c3 : Ans (d + 8) 86 [.ref 31] S2 none S3) : Bod (d + 8) 53 0 [(0, .ref 43), (1, .int (nI dp))] [] S none (S3) := by
  refine Bod.go dc_53_0 rfl ?_
  refine Bod.get dc_53_1 fr_53_15 (mk_43 _) rfl ?_
  refine Bod.ic 1 (by decide) dc_53_4 ?_
  refine Bod.go dc_53_5 rfl ?_
  refine Bod.get dc_53_6 fr_53_9 (mk_43 _) rfl ?_
  refine Bod.get dc_53_9 fr_53_113 (mk_31 _) rfl ?_
  refine Bod.eqI (nI ln) (by first | assumption | rfl | exact congrArg nI (by omega) | (simp (disch := omega) only [rI, rIe, rA, rIA, rLA, rJA, rVI, rQI, rVA, rQA, upd_at,  rAI, rLI, rJI, nI_add, pk_sub, kc_0, kc_1, kc_2, kc_3, kc_4, kc_5, reduceIte, Nat.reduceEqDiff, Nat.add_zero, rI_hold, rI_hold, rL_hold, hln]; done)) ?_
  refine Bod.virt (r := []) dc_53_12 kr_53_116 ⟨Or.inr rfl, ow_54, cl_7⟩ (by rw [np_54]; rfl) (by rw [np_54]; rfl) (ob_of (mk_23 _)) (Nat.le_of_ble_eq_true rfl) (c1  ) ?_
  show Bod _ _ _ _ [_] _ _ _
  refine Bod.go dc_53_15 rfl ?_
  refine Bod.go dc_53_16 rfl ?_
  refine Bod.get dc_53_17 fr_53_9 (mk_43 _) rfl ?_
  refine Bod.get dc_53_20 fr_53_79 (mk_31 _) rfl ?_
  refine Bod.eqI (nI 42) (by first | (simp (disch := omega) only [rI, rIe, rA, rIA, rLA, rJA, rVI, rQI, rVA, rQA, upd_at,  rAI, rLI, rJI, nI_add, pk_sub, kc_0, kc_1, kc_2, kc_3, kc_4, kc_5, reduceIte, Nat.reduceEqDiff, Nat.add_zero, rI_hold, rI_hold, rL_hold, hln, k1]; done) | (simp (disch := omega) only [rI, rIe, rA, rIA, rLA, rJA, rVI, rQI, rVA, rQA, upd_at,  rAI, rLI, rJI, nI_add, pk_sub, kc_0, kc_1, kc_2, kc_3, kc_4, kc_5, reduceIte, Nat.reduceEqDiff, Nat.add_zero, rI_hold, rI_hold, rL_hold, hln, k1]; exact congrArg nI (by omega))) ?_
  refine Bod.sw (t := 200) dc_53_23 rfl rfl (by decide +kernel) ?_
  refine Bod.go dc_53_200 rfl ?_
  refine Bod.virt (r := []) dc_53_201 kr_53_156 ⟨Or.inl rfl, ow_117, cl_10⟩ (by rw [np_117]; rfl) (by rw [np_117]; rfl) (ob_of (mk_43 _)) (Nat.le_of_ble_eq_true rfl) (c2  ) ?_
  show Bod _ _ _ _ [] _ _ _
  refine Bod.go dc_53_204 rfl ?_
  refine Bod.get dc_53_205 fr_53_9 (mk_43 _) rfl ?_
  refine Bod.virt (r := []) dc_53_208 kr_53_110 ⟨Or.inr rfl, ow_86, cl_3⟩ (by rw [np_86]; rfl) (by rw [np_86]; rfl) (ob_of (mk_31 _)) (Nat.le_of_ble_eq_true rfl) (c3  ) ?_
  show Bod _ _ _ _ [] _ _ _
  exact Bod.retV dc_53_211 rt_53
theorem cSt45_1 {d : Nat} {S : cS} {dp : Nat} {ln : Nat} {S1 : cS} {a : Nat} {S2 : cS} {S3 : cS} (mdp : dp < 2 ^ 20) (hln : sI S 3106 = nI ln) (mln : ln < 2 ^ 20) (ma : a < 2 ^ 20) (c1 : Ans (d + 8) 54 [.ref 23, .int (nI 1), .int (nI ln)] S (some (.int (nI a))) S1) (k1 : sI S1 3105 = nI 45) (c2 : Ans (d + 8) 117 [.ref 43] S1 none S2) (c3 : Ans (d + 8) 86 [.ref 31] S2 none S3) : Bod (d + 8) 53 0 [(0, .ref 43), (1, .int (nI dp))] [] S none (S3) := by
  refine Bod.go dc_53_0 rfl ?_
  refine Bod.get dc_53_1 fr_53_15 (mk_43 _) rfl ?_
  refine Bod.ic 1 (by decide) dc_53_4 ?_
  refine Bod.go dc_53_5 rfl ?_
  refine Bod.get dc_53_6 fr_53_9 (mk_43 _) rfl ?_
  refine Bod.get dc_53_9 fr_53_113 (mk_31 _) rfl ?_
  refine Bod.eqI (nI ln) (by first | assumption | rfl | exact congrArg nI (by omega) | (simp (disch := omega) only [rI, rIe, rA, rIA, rLA, rJA, rVI, rQI, rVA, rQA, upd_at,  rAI, rLI, rJI, nI_add, pk_sub, kc_0, kc_1, kc_2, kc_3, kc_4, kc_5, reduceIte, Nat.reduceEqDiff, Nat.add_zero, rI_hold, rI_hold, rL_hold, hln]; done)) ?_
  refine Bod.virt (r := []) dc_53_12 kr_53_116 ⟨Or.inr rfl, ow_54, cl_7⟩ (by rw [np_54]; rfl) (by rw [np_54]; rfl) (ob_of (mk_23 _)) (Nat.le_of_ble_eq_true rfl) (c1  ) ?_
  show Bod _ _ _ _ [_] _ _ _
  refine Bod.go dc_53_15 rfl ?_
  refine Bod.go dc_53_16 rfl ?_
  refine Bod.get dc_53_17 fr_53_9 (mk_43 _) rfl ?_
  refine Bod.get dc_53_20 fr_53_79 (mk_31 _) rfl ?_
  refine Bod.eqI (nI 45) (by first | (simp (disch := omega) only [rI, rIe, rA, rIA, rLA, rJA, rVI, rQI, rVA, rQA, upd_at,  rAI, rLI, rJI, nI_add, pk_sub, kc_0, kc_1, kc_2, kc_3, kc_4, kc_5, reduceIte, Nat.reduceEqDiff, Nat.add_zero, rI_hold, rI_hold, rL_hold, hln, k1]; done) | (simp (disch := omega) only [rI, rIe, rA, rIA, rLA, rJA, rVI, rQI, rVA, rQA, upd_at,  rAI, rLI, rJI, nI_add, pk_sub, kc_0, kc_1, kc_2, kc_3, kc_4, kc_5, reduceIte, Nat.reduceEqDiff, Nat.add_zero, rI_hold, rI_hold, rL_hold, hln, k1]; exact congrArg nI (by omega))) ?_
  refine Bod.sw (t := 200) dc_53_23 rfl rfl (by decide +kernel) ?_
  refine Bod.go dc_53_200 rfl ?_
  refine Bod.virt (r := []) dc_53_201 kr_53_156 ⟨Or.inl rfl, ow_117, cl_10⟩ (by rw [np_117]; rfl) (by rw [np_117]; rfl) (ob_of (mk_43 _)) (Nat.le_of_ble_eq_true rfl) (c2  ) ?_
  show Bod _ _ _ _ [] _ _ _
  refine Bod.go dc_53_204 rfl ?_
  refine Bod.get dc_53_205 fr_53_9 (mk_43 _) rfl ?_
  refine Bod.virt (r := []) dc_53_208 kr_53_110 ⟨Or.inr rfl, ow_86, cl_3⟩ (by rw [np_86]; rfl) (by rw [np_86]; rfl) (ob_of (mk_31 _)) (Nat.le_of_ble_eq_true rfl) (c3  ) ?_
  show Bod _ _ _ _ [] _ _ _
  exact Bod.retV dc_53_211 rt_53
theorem cSt55_1 {d : Nat} {S : cS} {dp : Nat} {ln : Nat} {S1 : cS} {a : Nat} {S2 : cS} {S3 : cS} (mdp : dp < 2 ^ 20) (hln : sI S 3106 = nI ln) (mln : ln < 2 ^ 20) (ma : a < 2 ^ 20) (c1 : Ans (d + 8) 54 [.ref 23, .int (nI 1), .int (nI ln)] S (some (.int (nI a))) S1) (k1 : sI S1 3105 = nI 55) (c2 : Ans (d + 8) 117 [.ref 43] S1 none S2) (c3 : Ans (d + 8) 86 [.ref 31] S2 none S3) : Bod (d + 8) 53 0 [(0, .ref 43), (1, .int (nI dp))] [] S none (S3) := by
  refine Bod.go dc_53_0 rfl ?_
  refine Bod.get dc_53_1 fr_53_15 (mk_43 _) rfl ?_
  refine Bod.ic 1 (by decide) dc_53_4 ?_
  refine Bod.go dc_53_5 rfl ?_
  refine Bod.get dc_53_6 fr_53_9 (mk_43 _) rfl ?_
  refine Bod.get dc_53_9 fr_53_113 (mk_31 _) rfl ?_
  refine Bod.eqI (nI ln) (by first | assumption | rfl | exact congrArg nI (by omega) | (simp (disch := omega) only [rI, rIe, rA, rIA, rLA, rJA, rVI, rQI, rVA, rQA, upd_at,  rAI, rLI, rJI, nI_add, pk_sub, kc_0, kc_1, kc_2, kc_3, kc_4, kc_5, reduceIte, Nat.reduceEqDiff, Nat.add_zero, rI_hold, rI_hold, rL_hold, hln]; done)) ?_
  refine Bod.virt (r := []) dc_53_12 kr_53_116 ⟨Or.inr rfl, ow_54, cl_7⟩ (by rw [np_54]; rfl) (by rw [np_54]; rfl) (ob_of (mk_23 _)) (Nat.le_of_ble_eq_true rfl) (c1  ) ?_
  show Bod _ _ _ _ [_] _ _ _
  refine Bod.go dc_53_15 rfl ?_
  refine Bod.go dc_53_16 rfl ?_
  refine Bod.get dc_53_17 fr_53_9 (mk_43 _) rfl ?_
  refine Bod.get dc_53_20 fr_53_79 (mk_31 _) rfl ?_
  refine Bod.eqI (nI 55) (by first | (simp (disch := omega) only [rI, rIe, rA, rIA, rLA, rJA, rVI, rQI, rVA, rQA, upd_at,  rAI, rLI, rJI, nI_add, pk_sub, kc_0, kc_1, kc_2, kc_3, kc_4, kc_5, reduceIte, Nat.reduceEqDiff, Nat.add_zero, rI_hold, rI_hold, rL_hold, hln, k1]; done) | (simp (disch := omega) only [rI, rIe, rA, rIA, rLA, rJA, rVI, rQI, rVA, rQA, upd_at,  rAI, rLI, rJI, nI_add, pk_sub, kc_0, kc_1, kc_2, kc_3, kc_4, kc_5, reduceIte, Nat.reduceEqDiff, Nat.add_zero, rI_hold, rI_hold, rL_hold, hln, k1]; exact congrArg nI (by omega))) ?_
  refine Bod.sw (t := 200) dc_53_23 rfl rfl (by decide +kernel) ?_
  refine Bod.go dc_53_200 rfl ?_
  refine Bod.virt (r := []) dc_53_201 kr_53_156 ⟨Or.inl rfl, ow_117, cl_10⟩ (by rw [np_117]; rfl) (by rw [np_117]; rfl) (ob_of (mk_43 _)) (Nat.le_of_ble_eq_true rfl) (c2  ) ?_
  show Bod _ _ _ _ [] _ _ _
  refine Bod.go dc_53_204 rfl ?_
  refine Bod.get dc_53_205 fr_53_9 (mk_43 _) rfl ?_
  refine Bod.virt (r := []) dc_53_208 kr_53_110 ⟨Or.inr rfl, ow_86, cl_3⟩ (by rw [np_86]; rfl) (by rw [np_86]; rfl) (ob_of (mk_31 _)) (Nat.le_of_ble_eq_true rfl) (c3  ) ?_
  show Bod _ _ _ _ [] _ _ _
  exact Bod.retV dc_53_211 rt_53
