/-! THE CLASS'S HEAP: append where the row grows first -/
theorem dc_183_25 : decode (sm_cc 183) 25 = .ok (.iconst 0, 1) := by decide +kernel
theorem dc_183_26 : decode (sm_cc 183) 26 = .ok (.ireturn, 1) := by decide +kernel
theorem appendG_2 {d : Nat} {S : cS} {k : Nat} {kd : Nat} {z : Nat} {a : Nat} {N : Nat} {W0 : cS} {kh : Int64} {kl : Int64} {hi : Int64} {lo : Int64} {o : Nat} {mx : Nat} (h0 : 1 ≤ k) (hk : k ≤ 1500) (hkd : sA S 3 k = nI kd) (h7 : kd ≤ 7) (hsz : sA S 10 k = nI z) (hsz2 : sA W0 10 k = nI z) (hr : sQ W0 11 k = some a) (ha : 108 ≤ a) (hs : (sS W0)[a - 108]? = some (1, N)) (hN : N < 2 ^ 31) (hw : c_width kd = 2) (hmx : c_most kd = mx) (hz : z < mx) (hm3 : mx ≤ 300) (hf : 2 * z + 2 ≤ N) (hN6 : 2 * z + 2 ≤ 600) (ho : c_obj hi lo = nI o) (ho2 : o ≤ 1500) (hG : Ans (d + 3) 185 [.ref 2, .int (nI k), .int (nI (2 * z + 2))] S none W0) : Ans (d + 4) 183 [.ref 2, .int (nI k), .long kh, .long kl, .long hi, .long lo] S (some (.int 1)) (c_hold 4 o (wA 10 k (nI (z + 1)) (wL a (2 * z + 1) lo (wL a (2 * z) hi W0)))) := by
  refine Ans.of (by rw [ml_183]; exact Nat.le_of_ble_eq_true rfl) ?_
  refine Bod.go dc_183_0 rfl ?_
  refine Bod.stat (r := []) dc_183_1 kr_183_65 (Or.inl rfl) (by rw [np_139]; rfl) (by rw [np_139]; rfl) (by rw [np_139]; exact Nat.le_of_ble_eq_true rfl) (Nat.le_of_ble_eq_true rfl) (isId_T (k := k) (by omega) (by omega)) ?_
  show Bod _ _ _ _ [_] _ _ _
  refine Bod.ifF dc_183_4 rfl (k1_eq_F (k_ne 1 0 rfl rfl (by omega) (by omega) (by omega))) ?_
  refine Bod.go dc_183_7 rfl ?_
  refine Bod.get dc_183_8 fr_183_33 (mk_2 _) rfl ?_
  refine Bod.go dc_183_11 rfl ?_
  refine Bod.ialdN k rfl (by omega) (by omega) dc_183_12 (mk_10 _) ?_
  refine Bod.eqI (nI z) (by first | assumption | rfl | exact congrArg nI (by omega) | (simp (disch := omega) only [rI, rIe, rA, rIA, rLA, rJA, rVI, rQI, rVA, rQA, upd_at,  rAI, rLI, rJI, nI_add, pk_sub, kc_0, kc_1, kc_2, kc_3, kc_4, kc_5, reduceIte, Nat.reduceEqDiff, Nat.add_zero, rI_hold, rI_hold, rL_hold, hkd, hsz, hsz2]; done)) ?_
  refine Bod.go dc_183_13 rfl ?_
  refine Bod.get dc_183_14 fr_183_11 (mk_2 _) rfl ?_
  refine Bod.go dc_183_17 rfl ?_
  refine Bod.ialdN k rfl (by omega) (by omega) dc_183_18 (mk_3 _) ?_
  refine Bod.eqI (nI kd) (by first | assumption | rfl | exact congrArg nI (by omega) | (simp (disch := omega) only [rI, rIe, rA, rIA, rLA, rJA, rVI, rQI, rVA, rQA, upd_at,  rAI, rLI, rJI, nI_add, pk_sub, kc_0, kc_1, kc_2, kc_3, kc_4, kc_5, reduceIte, Nat.reduceEqDiff, Nat.add_zero, rI_hold, rI_hold, rL_hold, hkd, hsz, hsz2]; done)) ?_
  refine Bod.stat (r := [_]) dc_183_19 kr_183_109 (Or.inl rfl) (by rw [np_184]; rfl) (by rw [np_184]; rfl) (by rw [np_184]; exact Nat.le_of_ble_eq_true rfl) (Nat.le_of_ble_eq_true rfl) (mostOf_ev (kd := kd) (w := mx) (by omega) hmx) ?_
  show Bod _ _ _ _ [_, _] _ _ _
  refine Bod.icT dc_183_22 rfl (k2_lt_T z mx rfl rfl (by omega) (by omega)) ?_
  refine Bod.go dc_183_27 rfl ?_
  refine Bod.get dc_183_28 fr_183_11 (mk_2 _) rfl ?_
  refine Bod.go dc_183_31 rfl ?_
  refine Bod.ialdN k rfl (by omega) (by omega) dc_183_32 (mk_3 _) ?_
  refine Bod.eqI (nI kd) (by first | assumption | rfl | exact congrArg nI (by omega) | (simp (disch := omega) only [rI, rIe, rA, rIA, rLA, rJA, rVI, rQI, rVA, rQA, upd_at,  rAI, rLI, rJI, nI_add, pk_sub, kc_0, kc_1, kc_2, kc_3, kc_4, kc_5, reduceIte, Nat.reduceEqDiff, Nat.add_zero, rI_hold, rI_hold, rL_hold, hkd, hsz, hsz2]; done)) ?_
  refine Bod.stat (r := []) dc_183_33 kr_183_87 (Or.inl rfl) (by rw [np_145]; rfl) (by rw [np_145]; rfl) (by rw [np_145]; exact Nat.le_of_ble_eq_true rfl) (Nat.le_of_ble_eq_true rfl) (widthOf_ev (kd := kd) (w := 2) (by omega) hw) ?_
  show Bod _ _ _ _ [_] _ _ _
  refine Bod.ist dc_183_36 (by rw [ml_183]; exact Nat.le_of_ble_eq_true rfl) ?_
  refine Bod.go dc_183_38 rfl ?_
  refine Bod.get dc_183_39 fr_183_33 (mk_2 _) rfl ?_
  refine Bod.go dc_183_42 rfl ?_
  refine Bod.ialdN k rfl (by omega) (by omega) dc_183_43 (mk_10 _) ?_
  refine Bod.eqI (nI z) (by first | assumption | rfl | exact congrArg nI (by omega) | (simp (disch := omega) only [rI, rIe, rA, rIA, rLA, rJA, rVI, rQI, rVA, rQA, upd_at,  rAI, rLI, rJI, nI_add, pk_sub, kc_0, kc_1, kc_2, kc_3, kc_4, kc_5, reduceIte, Nat.reduceEqDiff, Nat.add_zero, rI_hold, rI_hold, rL_hold, hkd, hsz, hsz2]; done)) ?_
  refine Bod.go dc_183_44 rfl ?_
  refine Bod.mulN (2 * z) (by omega) dc_183_46 ?_
  refine Bod.ist dc_183_47 (by rw [ml_183]; exact Nat.le_of_ble_eq_true rfl) ?_
  refine Bod.go dc_183_49 rfl ?_
  refine Bod.go dc_183_50 rfl ?_
  refine Bod.go dc_183_51 rfl ?_
  refine Bod.go dc_183_53 rfl ?_
  refine Bod.addN (2 * z + 2) (by omega) dc_183_55 ?_
  refine Bod.virt (r := []) dc_183_56 kr_183_112 ⟨Or.inl rfl, ow_185, cl_2⟩ (by rw [np_185]; rfl) (by rw [np_185]; rfl) (ob_of (mk_2 _)) (Nat.le_of_ble_eq_true rfl) (hG  ) ?_
  show Bod _ _ _ _ [] _ _ _
  refine Bod.go dc_183_59 rfl ?_
  refine Bod.ic 2 (by decide) dc_183_61 ?_
  refine Bod.icF dc_183_62 rfl (k2_lt_F 2 2 rfl rfl (by omega) (by omega)) ?_
  refine Bod.go dc_183_65 rfl ?_
  refine Bod.get dc_183_66 fr_183_38 (mk_2 _) rfl ?_
  refine Bod.go dc_183_69 rfl ?_
  refine Bod.aaldR (N := 1501) (b := a) k rfl (by omega) (by omega) hr dc_183_70 (mk_11 _) ht_4 ?_
  refine Bod.go dc_183_71 rfl ?_
  refine Bod.go dc_183_74 rfl ?_
  refine Bod.go dc_183_76 rfl ?_
  refine Bod.addN (2 * z + 2) (by omega) dc_183_78 ?_
  refine Bod.go dc_183_79 rfl ?_
  refine Bod.get dc_183_80 fr_183_38 (mk_2 _) rfl ?_
  refine Bod.go dc_183_83 rfl ?_
  refine Bod.aaldR (N := 1501) (b := a) k rfl (by omega) (by omega) hr dc_183_84 (mk_11 _) ht_4 ?_
  refine Bod.alenN (N := N) dc_183_85 (mk_row ha hs) el_1 ?_
  refine Bod.icT dc_183_86 rfl (k2_le_T (2 * z + 2) N rfl rfl (by omega) (by omega)) ?_
  refine Bod.go dc_183_91 rfl ?_
  refine Bod.ic 4 (by decide) dc_183_93 ?_
  refine Bod.icT dc_183_94 rfl (k2_ne_T (k_ne 2 4 rfl rfl (by omega) (by omega) (by omega))) ?_
  refine Bod.go dc_183_120 rfl ?_
  refine Bod.get dc_183_121 fr_183_38 (mk_2 _) rfl ?_
  refine Bod.go dc_183_124 rfl ?_
  refine Bod.aaldR (N := 1501) (b := a) k rfl (by omega) (by omega) hr dc_183_125 (mk_11 _) ht_4 ?_
  refine Bod.go dc_183_126 rfl ?_
  refine Bod.go dc_183_128 rfl ?_
  refine Bod.addN (2 * z + 2) (by omega) dc_183_130 ?_
  refine Bod.ic 2 (by decide) dc_183_131 ?_
  refine Bod.subN (2 * z) (by omega) (by omega) dc_183_132 ?_
  refine Bod.go dc_183_133 rfl ?_
  refine Bod.lastN (N := N) (2 * z) rfl (by omega) (by omega) dc_183_135 (mk_row ha hs) (sa_row ha hs) (mu_L _ _ _ _) ?_
  refine Bod.go dc_183_136 rfl ?_
  refine Bod.get dc_183_137 fr_183_38 (mk_2 _) rfl ?_
  refine Bod.go dc_183_140 rfl ?_
  refine Bod.aaldR (N := 1501) (b := a) k rfl (by omega) (by omega) (by simp only [rIQ, rJQ, rAQ, rLQ, rVQ, rQ_holdE]; exact hr) dc_183_141 (mk_11 _) ht_4 ?_
  refine Bod.go dc_183_142 rfl ?_
  refine Bod.go dc_183_144 rfl ?_
  refine Bod.addN (2 * z + 2) (by omega) dc_183_146 ?_
  refine Bod.ic 1 (by decide) dc_183_147 ?_
  refine Bod.subN (2 * z + 1) (by omega) (by omega) dc_183_148 ?_
  refine Bod.go dc_183_149 rfl ?_
  refine Bod.lastN (N := N) (2 * z + 1) rfl (by omega) (by omega) dc_183_151 (mk_row ha (by simp only [rIS, rJS, rAS, rLS, rVS, rQS, rS_hold]; exact hs)) (sa_row ha (by simp only [rIS, rJS, rAS, rLS, rVS, rQS, rS_hold]; exact hs)) (mu_L _ _ _ _) ?_
  refine Bod.go dc_183_152 rfl ?_
  refine Bod.get dc_183_153 fr_183_33 (mk_2 _) rfl ?_
  refine Bod.go dc_183_156 rfl ?_
  refine Bod.go dc_183_157 rfl ?_
  refine Bod.ialdN k rfl (by omega) (by omega) dc_183_158 (mk_10 _) ?_
  refine Bod.eqI (nI z) (by first | (simp (disch := omega) only [rI, rIe, rA, rIA, rLA, rJA, rVI, rQI, rVA, rQA, upd_at,  rAI, rLI, rJI, nI_add, pk_sub, kc_0, kc_1, kc_2, kc_3, kc_4, kc_5, reduceIte, Nat.reduceEqDiff, Nat.add_zero, rI_hold, rI_hold, rL_hold, hkd, hsz, hsz2]; done) | (simp (disch := omega) only [rI, rIe, rA, rIA, rLA, rJA, rVI, rQI, rVA, rQA, upd_at,  rAI, rLI, rJI, nI_add, pk_sub, kc_0, kc_1, kc_2, kc_3, kc_4, kc_5, reduceIte, Nat.reduceEqDiff, Nat.add_zero, rI_hold, rI_hold, rL_hold, hkd, hsz, hsz2]; exact congrArg nI (by omega))) ?_
  refine Bod.ic 1 (by decide) dc_183_159 ?_
  refine Bod.addN (z + 1) (by omega) dc_183_160 ?_
  refine Bod.iastN k rfl (by omega) (by omega) dc_183_161 (mk_10 _) (sa_10 _ _ _) (mu_A _ _ _ _) ?_
  refine Bod.go dc_183_162 rfl ?_
  refine Bod.go dc_183_163 rfl ?_
  refine Bod.get dc_183_164 fr_183_15 (mk_2 _) rfl ?_
  refine Bod.go dc_183_167 rfl ?_
  refine Bod.go dc_183_169 rfl ?_
  refine Bod.stat (r := [_, _]) dc_183_171 kr_183_91 (Or.inr rfl) (by rw [np_137]; rfl) (by rw [np_137]; rfl) (by rw [np_137]; exact Nat.le_of_ble_eq_true rfl) (Nat.le_of_ble_eq_true rfl) (objectOf_n (o := o) ho) ?_
  show Bod _ _ _ _ [_, _, _] _ _ _
  refine Bod.virt (r := []) dc_183_174 kr_183_69 ⟨Or.inl rfl, ow_149, cl_2⟩ (by rw [np_149]; rfl) (by rw [np_149]; rfl) (ob_of (mk_2 _)) (Nat.le_of_ble_eq_true rfl) (hold_ev (a := 4) (k := o) (Or.inl rfl) (by omega)) ?_
  show Bod _ _ _ _ [] _ _ _
  refine Bod.ic 1 (by decide) dc_183_177 ?_
  exact Bod.retZ dc_183_178 rt_183 (Or.inr rfl)
theorem appendG_4 {d : Nat} {S : cS} {k : Nat} {kd : Nat} {z : Nat} {a : Nat} {N : Nat} {W0 : cS} {kh : Int64} {kl : Int64} {hi : Int64} {lo : Int64} {o : Nat} {mx : Nat} (h0 : 1 ≤ k) (hk : k ≤ 1500) (hkd : sA S 3 k = nI kd) (h7 : kd ≤ 7) (hsz : sA S 10 k = nI z) (hsz2 : sA W0 10 k = nI z) (hr : sQ W0 11 k = some a) (ha : 108 ≤ a) (hs : (sS W0)[a - 108]? = some (1, N)) (hN : N < 2 ^ 31) (hw : c_width kd = 4) (hmx : c_most kd = mx) (hz : z < mx) (hm3 : mx ≤ 300) (hf : 4 * z + 4 ≤ N) (hN6 : 4 * z + 4 ≤ 600) (ho : c_obj hi lo = nI o) (ho2 : o ≤ 1500) (hG : Ans (d + 3) 185 [.ref 2, .int (nI k), .int (nI (4 * z + 4))] S none W0) : Ans (d + 4) 183 [.ref 2, .int (nI k), .long kh, .long kl, .long hi, .long lo] S (some (.int 1)) (c_hold 4 o (wA 10 k (nI (z + 1)) (wL a (4 * z + 3) lo (wL a (4 * z + 2) hi (wL a (4 * z + 1) kl (wL a (4 * z) kh W0)))))) := by
  refine Ans.of (by rw [ml_183]; exact Nat.le_of_ble_eq_true rfl) ?_
  refine Bod.go dc_183_0 rfl ?_
  refine Bod.stat (r := []) dc_183_1 kr_183_65 (Or.inl rfl) (by rw [np_139]; rfl) (by rw [np_139]; rfl) (by rw [np_139]; exact Nat.le_of_ble_eq_true rfl) (Nat.le_of_ble_eq_true rfl) (isId_T (k := k) (by omega) (by omega)) ?_
  show Bod _ _ _ _ [_] _ _ _
  refine Bod.ifF dc_183_4 rfl (k1_eq_F (k_ne 1 0 rfl rfl (by omega) (by omega) (by omega))) ?_
  refine Bod.go dc_183_7 rfl ?_
  refine Bod.get dc_183_8 fr_183_33 (mk_2 _) rfl ?_
  refine Bod.go dc_183_11 rfl ?_
  refine Bod.ialdN k rfl (by omega) (by omega) dc_183_12 (mk_10 _) ?_
  refine Bod.eqI (nI z) (by first | assumption | rfl | exact congrArg nI (by omega) | (simp (disch := omega) only [rI, rIe, rA, rIA, rLA, rJA, rVI, rQI, rVA, rQA, upd_at,  rAI, rLI, rJI, nI_add, pk_sub, kc_0, kc_1, kc_2, kc_3, kc_4, kc_5, reduceIte, Nat.reduceEqDiff, Nat.add_zero, rI_hold, rI_hold, rL_hold, hkd, hsz, hsz2]; done)) ?_
  refine Bod.go dc_183_13 rfl ?_
  refine Bod.get dc_183_14 fr_183_11 (mk_2 _) rfl ?_
  refine Bod.go dc_183_17 rfl ?_
  refine Bod.ialdN k rfl (by omega) (by omega) dc_183_18 (mk_3 _) ?_
  refine Bod.eqI (nI kd) (by first | assumption | rfl | exact congrArg nI (by omega) | (simp (disch := omega) only [rI, rIe, rA, rIA, rLA, rJA, rVI, rQI, rVA, rQA, upd_at,  rAI, rLI, rJI, nI_add, pk_sub, kc_0, kc_1, kc_2, kc_3, kc_4, kc_5, reduceIte, Nat.reduceEqDiff, Nat.add_zero, rI_hold, rI_hold, rL_hold, hkd, hsz, hsz2]; done)) ?_
  refine Bod.stat (r := [_]) dc_183_19 kr_183_109 (Or.inl rfl) (by rw [np_184]; rfl) (by rw [np_184]; rfl) (by rw [np_184]; exact Nat.le_of_ble_eq_true rfl) (Nat.le_of_ble_eq_true rfl) (mostOf_ev (kd := kd) (w := mx) (by omega) hmx) ?_
  show Bod _ _ _ _ [_, _] _ _ _
  refine Bod.icT dc_183_22 rfl (k2_lt_T z mx rfl rfl (by omega) (by omega)) ?_
  refine Bod.go dc_183_27 rfl ?_
  refine Bod.get dc_183_28 fr_183_11 (mk_2 _) rfl ?_
  refine Bod.go dc_183_31 rfl ?_
  refine Bod.ialdN k rfl (by omega) (by omega) dc_183_32 (mk_3 _) ?_
  refine Bod.eqI (nI kd) (by first | assumption | rfl | exact congrArg nI (by omega) | (simp (disch := omega) only [rI, rIe, rA, rIA, rLA, rJA, rVI, rQI, rVA, rQA, upd_at,  rAI, rLI, rJI, nI_add, pk_sub, kc_0, kc_1, kc_2, kc_3, kc_4, kc_5, reduceIte, Nat.reduceEqDiff, Nat.add_zero, rI_hold, rI_hold, rL_hold, hkd, hsz, hsz2]; done)) ?_
  refine Bod.stat (r := []) dc_183_33 kr_183_87 (Or.inl rfl) (by rw [np_145]; rfl) (by rw [np_145]; rfl) (by rw [np_145]; exact Nat.le_of_ble_eq_true rfl) (Nat.le_of_ble_eq_true rfl) (widthOf_ev (kd := kd) (w := 4) (by omega) hw) ?_
  show Bod _ _ _ _ [_] _ _ _
  refine Bod.ist dc_183_36 (by rw [ml_183]; exact Nat.le_of_ble_eq_true rfl) ?_
  refine Bod.go dc_183_38 rfl ?_
  refine Bod.get dc_183_39 fr_183_33 (mk_2 _) rfl ?_
  refine Bod.go dc_183_42 rfl ?_
  refine Bod.ialdN k rfl (by omega) (by omega) dc_183_43 (mk_10 _) ?_
  refine Bod.eqI (nI z) (by first | assumption | rfl | exact congrArg nI (by omega) | (simp (disch := omega) only [rI, rIe, rA, rIA, rLA, rJA, rVI, rQI, rVA, rQA, upd_at,  rAI, rLI, rJI, nI_add, pk_sub, kc_0, kc_1, kc_2, kc_3, kc_4, kc_5, reduceIte, Nat.reduceEqDiff, Nat.add_zero, rI_hold, rI_hold, rL_hold, hkd, hsz, hsz2]; done)) ?_
  refine Bod.go dc_183_44 rfl ?_
  refine Bod.mulN (4 * z) (by omega) dc_183_46 ?_
  refine Bod.ist dc_183_47 (by rw [ml_183]; exact Nat.le_of_ble_eq_true rfl) ?_
  refine Bod.go dc_183_49 rfl ?_
  refine Bod.go dc_183_50 rfl ?_
  refine Bod.go dc_183_51 rfl ?_
  refine Bod.go dc_183_53 rfl ?_
  refine Bod.addN (4 * z + 4) (by omega) dc_183_55 ?_
  refine Bod.virt (r := []) dc_183_56 kr_183_112 ⟨Or.inl rfl, ow_185, cl_2⟩ (by rw [np_185]; rfl) (by rw [np_185]; rfl) (ob_of (mk_2 _)) (Nat.le_of_ble_eq_true rfl) (hG  ) ?_
  show Bod _ _ _ _ [] _ _ _
  refine Bod.go dc_183_59 rfl ?_
  refine Bod.ic 2 (by decide) dc_183_61 ?_
  refine Bod.icF dc_183_62 rfl (k2_lt_F 4 2 rfl rfl (by omega) (by omega)) ?_
  refine Bod.go dc_183_65 rfl ?_
  refine Bod.get dc_183_66 fr_183_38 (mk_2 _) rfl ?_
  refine Bod.go dc_183_69 rfl ?_
  refine Bod.aaldR (N := 1501) (b := a) k rfl (by omega) (by omega) hr dc_183_70 (mk_11 _) ht_4 ?_
  refine Bod.go dc_183_71 rfl ?_
  refine Bod.go dc_183_74 rfl ?_
  refine Bod.go dc_183_76 rfl ?_
  refine Bod.addN (4 * z + 4) (by omega) dc_183_78 ?_
  refine Bod.go dc_183_79 rfl ?_
  refine Bod.get dc_183_80 fr_183_38 (mk_2 _) rfl ?_
  refine Bod.go dc_183_83 rfl ?_
  refine Bod.aaldR (N := 1501) (b := a) k rfl (by omega) (by omega) hr dc_183_84 (mk_11 _) ht_4 ?_
  refine Bod.alenN (N := N) dc_183_85 (mk_row ha hs) el_1 ?_
  refine Bod.icT dc_183_86 rfl (k2_le_T (4 * z + 4) N rfl rfl (by omega) (by omega)) ?_
  refine Bod.go dc_183_91 rfl ?_
  refine Bod.ic 4 (by decide) dc_183_93 ?_
  refine Bod.icF dc_183_94 rfl (k2_ne_F (k_eq 4 4 rfl rfl (by omega))) ?_
  refine Bod.go dc_183_97 rfl ?_
  refine Bod.get dc_183_98 fr_183_38 (mk_2 _) rfl ?_
  refine Bod.go dc_183_101 rfl ?_
  refine Bod.aaldR (N := 1501) (b := a) k rfl (by omega) (by omega) hr dc_183_102 (mk_11 _) ht_4 ?_
  refine Bod.go dc_183_103 rfl ?_
  refine Bod.go dc_183_105 rfl ?_
  refine Bod.lastN (N := N) (4 * z) rfl (by omega) (by omega) dc_183_106 (mk_row ha hs) (sa_row ha hs) (mu_L _ _ _ _) ?_
  refine Bod.go dc_183_107 rfl ?_
  refine Bod.get dc_183_108 fr_183_38 (mk_2 _) rfl ?_
  refine Bod.go dc_183_111 rfl ?_
  refine Bod.aaldR (N := 1501) (b := a) k rfl (by omega) (by omega) (by simp only [rIQ, rJQ, rAQ, rLQ, rVQ, rQ_holdE]; exact hr) dc_183_112 (mk_11 _) ht_4 ?_
  refine Bod.go dc_183_113 rfl ?_
  refine Bod.ic 1 (by decide) dc_183_115 ?_
  refine Bod.addN (4 * z + 1) (by omega) dc_183_116 ?_
  refine Bod.go dc_183_117 rfl ?_
  refine Bod.lastN (N := N) (4 * z + 1) rfl (by omega) (by omega) dc_183_119 (mk_row ha (by simp only [rIS, rJS, rAS, rLS, rVS, rQS, rS_hold]; exact hs)) (sa_row ha (by simp only [rIS, rJS, rAS, rLS, rVS, rQS, rS_hold]; exact hs)) (mu_L _ _ _ _) ?_
  refine Bod.go dc_183_120 rfl ?_
  refine Bod.get dc_183_121 fr_183_38 (mk_2 _) rfl ?_
  refine Bod.go dc_183_124 rfl ?_
  refine Bod.aaldR (N := 1501) (b := a) k rfl (by omega) (by omega) (by simp only [rIQ, rJQ, rAQ, rLQ, rVQ, rQ_holdE]; exact hr) dc_183_125 (mk_11 _) ht_4 ?_
  refine Bod.go dc_183_126 rfl ?_
  refine Bod.go dc_183_128 rfl ?_
  refine Bod.addN (4 * z + 4) (by omega) dc_183_130 ?_
  refine Bod.ic 2 (by decide) dc_183_131 ?_
  refine Bod.subN (4 * z + 2) (by omega) (by omega) dc_183_132 ?_
  refine Bod.go dc_183_133 rfl ?_
  refine Bod.lastN (N := N) (4 * z + 2) rfl (by omega) (by omega) dc_183_135 (mk_row ha (by simp only [rIS, rJS, rAS, rLS, rVS, rQS, rS_hold]; exact hs)) (sa_row ha (by simp only [rIS, rJS, rAS, rLS, rVS, rQS, rS_hold]; exact hs)) (mu_L _ _ _ _) ?_
  refine Bod.go dc_183_136 rfl ?_
  refine Bod.get dc_183_137 fr_183_38 (mk_2 _) rfl ?_
  refine Bod.go dc_183_140 rfl ?_
  refine Bod.aaldR (N := 1501) (b := a) k rfl (by omega) (by omega) (by simp only [rIQ, rJQ, rAQ, rLQ, rVQ, rQ_holdE]; exact hr) dc_183_141 (mk_11 _) ht_4 ?_
  refine Bod.go dc_183_142 rfl ?_
  refine Bod.go dc_183_144 rfl ?_
  refine Bod.addN (4 * z + 4) (by omega) dc_183_146 ?_
  refine Bod.ic 1 (by decide) dc_183_147 ?_
  refine Bod.subN (4 * z + 3) (by omega) (by omega) dc_183_148 ?_
  refine Bod.go dc_183_149 rfl ?_
  refine Bod.lastN (N := N) (4 * z + 3) rfl (by omega) (by omega) dc_183_151 (mk_row ha (by simp only [rIS, rJS, rAS, rLS, rVS, rQS, rS_hold]; exact hs)) (sa_row ha (by simp only [rIS, rJS, rAS, rLS, rVS, rQS, rS_hold]; exact hs)) (mu_L _ _ _ _) ?_
  refine Bod.go dc_183_152 rfl ?_
  refine Bod.get dc_183_153 fr_183_33 (mk_2 _) rfl ?_
  refine Bod.go dc_183_156 rfl ?_
  refine Bod.go dc_183_157 rfl ?_
  refine Bod.ialdN k rfl (by omega) (by omega) dc_183_158 (mk_10 _) ?_
  refine Bod.eqI (nI z) (by first | (simp (disch := omega) only [rI, rIe, rA, rIA, rLA, rJA, rVI, rQI, rVA, rQA, upd_at,  rAI, rLI, rJI, nI_add, pk_sub, kc_0, kc_1, kc_2, kc_3, kc_4, kc_5, reduceIte, Nat.reduceEqDiff, Nat.add_zero, rI_hold, rI_hold, rL_hold, hkd, hsz, hsz2]; done) | (simp (disch := omega) only [rI, rIe, rA, rIA, rLA, rJA, rVI, rQI, rVA, rQA, upd_at,  rAI, rLI, rJI, nI_add, pk_sub, kc_0, kc_1, kc_2, kc_3, kc_4, kc_5, reduceIte, Nat.reduceEqDiff, Nat.add_zero, rI_hold, rI_hold, rL_hold, hkd, hsz, hsz2]; exact congrArg nI (by omega))) ?_
  refine Bod.ic 1 (by decide) dc_183_159 ?_
  refine Bod.addN (z + 1) (by omega) dc_183_160 ?_
  refine Bod.iastN k rfl (by omega) (by omega) dc_183_161 (mk_10 _) (sa_10 _ _ _) (mu_A _ _ _ _) ?_
  refine Bod.go dc_183_162 rfl ?_
  refine Bod.go dc_183_163 rfl ?_
  refine Bod.get dc_183_164 fr_183_15 (mk_2 _) rfl ?_
  refine Bod.go dc_183_167 rfl ?_
  refine Bod.go dc_183_169 rfl ?_
  refine Bod.stat (r := [_, _]) dc_183_171 kr_183_91 (Or.inr rfl) (by rw [np_137]; rfl) (by rw [np_137]; rfl) (by rw [np_137]; exact Nat.le_of_ble_eq_true rfl) (Nat.le_of_ble_eq_true rfl) (objectOf_n (o := o) ho) ?_
  show Bod _ _ _ _ [_, _, _] _ _ _
  refine Bod.virt (r := []) dc_183_174 kr_183_69 ⟨Or.inl rfl, ow_149, cl_2⟩ (by rw [np_149]; rfl) (by rw [np_149]; rfl) (ob_of (mk_2 _)) (Nat.le_of_ble_eq_true rfl) (hold_ev (a := 4) (k := o) (Or.inl rfl) (by omega)) ?_
  show Bod _ _ _ _ [] _ _ _
  refine Bod.ic 1 (by decide) dc_183_177 ?_
  exact Bod.retZ dc_183_178 rt_183 (Or.inr rfl)
theorem append_no {d : Nat} {S : cS} {k : Nat} {kd : Nat} {z : Nat} {kh : Int64} {kl : Int64} {hi : Int64} {lo : Int64} {mx : Nat} (h0 : 1 ≤ k) (hk : k ≤ 1500) (hkd : sA S 3 k = nI kd) (h7 : kd ≤ 7) (hsz : sA S 10 k = nI z) (hmx : c_most kd = mx) (hz : mx ≤ z) (hz2 : z < 2 ^ 20) : Ans (d + 2) 183 [.ref 2, .int (nI k), .long kh, .long kl, .long hi, .long lo] S (some (.int 0)) (S) := by
  refine Ans.of (by rw [ml_183]; exact Nat.le_of_ble_eq_true rfl) ?_
  refine Bod.go dc_183_0 rfl ?_
  refine Bod.stat (r := []) dc_183_1 kr_183_65 (Or.inl rfl) (by rw [np_139]; rfl) (by rw [np_139]; rfl) (by rw [np_139]; exact Nat.le_of_ble_eq_true rfl) (Nat.le_of_ble_eq_true rfl) (isId_T (k := k) (by omega) (by omega)) ?_
  show Bod _ _ _ _ [_] _ _ _
  refine Bod.ifF dc_183_4 rfl (k1_eq_F (k_ne 1 0 rfl rfl (by omega) (by omega) (by omega))) ?_
  refine Bod.go dc_183_7 rfl ?_
  refine Bod.get dc_183_8 fr_183_33 (mk_2 _) rfl ?_
  refine Bod.go dc_183_11 rfl ?_
  refine Bod.ialdN k rfl (by omega) (by omega) dc_183_12 (mk_10 _) ?_
  refine Bod.eqI (nI z) (by first | assumption | rfl | exact congrArg nI (by omega) | (simp (disch := omega) only [rI, rIe, rA, rIA, rLA, rJA, rVI, rQI, rVA, rQA, upd_at,  rAI, rLI, rJI, nI_add, pk_sub, kc_0, kc_1, kc_2, kc_3, kc_4, kc_5, reduceIte, Nat.reduceEqDiff, Nat.add_zero, rI_hold, rI_hold, rL_hold, hkd, hsz]; done)) ?_
  refine Bod.go dc_183_13 rfl ?_
  refine Bod.get dc_183_14 fr_183_11 (mk_2 _) rfl ?_
  refine Bod.go dc_183_17 rfl ?_
  refine Bod.ialdN k rfl (by omega) (by omega) dc_183_18 (mk_3 _) ?_
  refine Bod.eqI (nI kd) (by first | assumption | rfl | exact congrArg nI (by omega) | (simp (disch := omega) only [rI, rIe, rA, rIA, rLA, rJA, rVI, rQI, rVA, rQA, upd_at,  rAI, rLI, rJI, nI_add, pk_sub, kc_0, kc_1, kc_2, kc_3, kc_4, kc_5, reduceIte, Nat.reduceEqDiff, Nat.add_zero, rI_hold, rI_hold, rL_hold, hkd, hsz]; done)) ?_
  refine Bod.stat (r := [_]) dc_183_19 kr_183_109 (Or.inl rfl) (by rw [np_184]; rfl) (by rw [np_184]; rfl) (by rw [np_184]; exact Nat.le_of_ble_eq_true rfl) (Nat.le_of_ble_eq_true rfl) (mostOf_ev (kd := kd) (w := mx) (by omega) hmx) ?_
  show Bod _ _ _ _ [_, _] _ _ _
  refine Bod.icF dc_183_22 rfl (k2_lt_F z mx rfl rfl (by omega) (by omega)) ?_
  refine Bod.ic 0 (by decide) dc_183_25 ?_
  exact Bod.retZ dc_183_26 rt_183 (Or.inl rfl)
