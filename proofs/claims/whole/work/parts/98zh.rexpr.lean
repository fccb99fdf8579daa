/-! AN INDEX, AN ATTRIBUTE of the reference: ways -/
theorem dc_315_102 : decode (sm_cc 315) 102 = .ok (.aload_n 0, 1) := by decide +kernel
theorem dc_315_103 : decode (sm_cc 315) 103 = .ok (.iconst 2, 1) := by decide +kernel
theorem dc_315_104 : decode (sm_cc 315) 104 = .ok (.putfield 397, 3) := by decide +kernel
theorem dc_315_107 : decode (sm_cc 315) 107 = .ok (.aload_n 0, 1) := by decide +kernel
theorem dc_315_108 : decode (sm_cc 315) 108 = .ok (.aload_n 0, 1) := by decide +kernel
theorem dc_315_109 : decode (sm_cc 315) 109 = .ok (.getfield 206, 3) := by decide +kernel
theorem fr_315_206 : sm_at mt_f (sm_ow 315) 206 = some (206, 14, 14, 0, 2087) := by decide +kernel
theorem dc_315_112 : decode (sm_cc 315) 112 = .ok (.getfield 219, 3) := by decide +kernel
theorem fr_315_219 : sm_at mt_f (sm_ow 315) 219 = some (219, 12, 1, 0, 2411) := by decide +kernel
theorem dc_315_115 : decode (sm_cc 315) 115 = .ok (.putfield 425, 3) := by decide +kernel
theorem fr_315_425 : sm_at mt_f (sm_ow 315) 425 = some (425, 14, 32, 0, 2105) := by decide +kernel
theorem dc_315_118 : decode (sm_cc 315) 118 = .ok (.aload_n 0, 1) := by decide +kernel
theorem dc_315_119 : decode (sm_cc 315) 119 = .ok (.bipush (15), 2) := by decide +kernel
theorem dc_315_121 : decode (sm_cc 315) 121 = .ok (.invokevirtual 269, 3) := by decide +kernel
theorem kr_315_269 : sm_at mt_k (sm_ow 315) 269 = some (269, 0, 322, 0, 2547) := by decide +kernel
theorem dc_315_124 : decode (sm_cc 315) 124 = .ok (.goto (-114), 3) := by decide +kernel
theorem dc_315_136 : decode (sm_cc 315) 136 = .ok (.aload_n 0, 1) := by decide +kernel
theorem dc_315_137 : decode (sm_cc 315) 137 = .ok (.dup, 1) := by decide +kernel
theorem dc_315_138 : decode (sm_cc 315) 138 = .ok (.getfield 190, 3) := by decide +kernel
theorem dc_315_141 : decode (sm_cc 315) 141 = .ok (.iconst 1, 1) := by decide +kernel
theorem dc_315_142 : decode (sm_cc 315) 142 = .ok (.iadd, 1) := by decide +kernel
theorem dc_315_143 : decode (sm_cc 315) 143 = .ok (.putfield 190, 3) := by decide +kernel
theorem dc_315_146 : decode (sm_cc 315) 146 = .ok (.aload_n 0, 1) := by decide +kernel
theorem dc_315_147 : decode (sm_cc 315) 147 = .ok (.getfield 129, 3) := by decide +kernel
theorem fr_315_129 : sm_at mt_f (sm_ow 315) 129 = some (129, 14, 6, 0, 2079) := by decide +kernel
theorem dc_315_150 : decode (sm_cc 315) 150 = .ok (.aload_n 0, 1) := by decide +kernel
theorem dc_315_151 : decode (sm_cc 315) 151 = .ok (.getfield 190, 3) := by decide +kernel
theorem dc_315_154 : decode (sm_cc 315) 154 = .ok (.iaload, 1) := by decide +kernel
theorem dc_315_155 : decode (sm_cc 315) 155 = .ok (.iconst 1, 1) := by decide +kernel
theorem dc_315_156 : decode (sm_cc 315) 156 = .ok (.if_icmp .eq (8), 3) := by decide +kernel
theorem dc_315_159 : decode (sm_cc 315) 159 = .ok (.aload_n 0, 1) := by decide +kernel
theorem dc_315_160 : decode (sm_cc 315) 160 = .ok (.invokevirtual 202, 3) := by decide +kernel
theorem dc_315_163 : decode (sm_cc 315) 163 = .ok (.ireturn, 1) := by decide +kernel
theorem dc_315_164 : decode (sm_cc 315) 164 = .ok (.aload_n 0, 1) := by decide +kernel
theorem dc_315_165 : decode (sm_cc 315) 165 = .ok (.iconst 3, 1) := by decide +kernel
theorem dc_315_166 : decode (sm_cc 315) 166 = .ok (.putfield 397, 3) := by decide +kernel
theorem dc_315_169 : decode (sm_cc 315) 169 = .ok (.aload_n 0, 1) := by decide +kernel
theorem dc_315_170 : decode (sm_cc 315) 170 = .ok (.aload_n 0, 1) := by decide +kernel
theorem dc_315_171 : decode (sm_cc 315) 171 = .ok (.getfield 206, 3) := by decide +kernel
theorem dc_315_174 : decode (sm_cc 315) 174 = .ok (.getfield 219, 3) := by decide +kernel
theorem dc_315_177 : decode (sm_cc 315) 177 = .ok (.putfield 425, 3) := by decide +kernel
theorem dc_315_180 : decode (sm_cc 315) 180 = .ok (.aload_n 0, 1) := by decide +kernel
theorem dc_315_181 : decode (sm_cc 315) 181 = .ok (.bipush (16), 2) := by decide +kernel
theorem dc_315_183 : decode (sm_cc 315) 183 = .ok (.aload_n 0, 1) := by decide +kernel
theorem dc_315_184 : decode (sm_cc 315) 184 = .ok (.getfield 135, 3) := by decide +kernel
theorem fr_315_135 : sm_at mt_f (sm_ow 315) 135 = some (135, 14, 7, 0, 2080) := by decide +kernel
theorem dc_315_187 : decode (sm_cc 315) 187 = .ok (.aload_n 0, 1) := by decide +kernel
theorem dc_315_188 : decode (sm_cc 315) 188 = .ok (.getfield 190, 3) := by decide +kernel
theorem dc_315_191 : decode (sm_cc 315) 191 = .ok (.iaload, 1) := by decide +kernel
theorem dc_315_192 : decode (sm_cc 315) 192 = .ok (.invokevirtual 216, 3) := by decide +kernel
theorem dc_315_195 : decode (sm_cc 315) 195 = .ok (.aload_n 0, 1) := by decide +kernel
theorem dc_315_196 : decode (sm_cc 315) 196 = .ok (.dup, 1) := by decide +kernel
theorem dc_315_197 : decode (sm_cc 315) 197 = .ok (.getfield 190, 3) := by decide +kernel
theorem dc_315_200 : decode (sm_cc 315) 200 = .ok (.iconst 1, 1) := by decide +kernel
theorem dc_315_201 : decode (sm_cc 315) 201 = .ok (.iadd, 1) := by decide +kernel
theorem dc_315_202 : decode (sm_cc 315) 202 = .ok (.putfield 190, 3) := by decide +kernel
theorem dc_315_205 : decode (sm_cc 315) 205 = .ok (.goto (-195), 3) := by decide +kernel
theorem re_ix_T {d : Nat} {S Sf : cS} {lv : sm_L} {v : Option Value} {dp : Nat} {j : Nat} {S1 : cS} {S2 : cS} {S3 : cS} {m : Nat} {u : Nat} {k : Nat} (h0 : sm_get lv 0 = some (.ref 61)) (h1 : sm_get lv 1 = some (.int (nI dp))) (hdp : dp ≤ 12) (hN0 : Ans (d + 8) 314 [.ref 61, .int (nI 40)] S (some (.int (nI 0))) S) (hY1 : Ans (d + 8) 314 [.ref 61, .int (nI 91)] S (some (.int (nI 1))) S) (hd12 : dp < 12) (ha : sI S 6115 = nI j) (hj : j < 6002) (hD1 : Ans (d + 8) 306 [.ref 61, .int (nI (dp + 1))] (wI 6115 (nI (j + 1)) S) (some (.int (nI 1))) S1) (hT1 : Ans (d + 8) 323 [.ref 61, .int (nI 93)] S1 (some (.int (nI 1))) S2) (hm : 108 ≤ m) (hs : (sS S2)[m - 108]? = some (12, u)) (hcode : sV S2 6114 = .ref m) (hk : sI S2 (100 * m + 1) = nI k) (hkM : k < 2 ^ 20) (hx1 : ¬ 100 * m = 6130) (hP : Ans (d + 8) 322 [.ref 61, .int (nI 15)] (wI 6132 (nI k) (wI 6131 (nI 2) S2)) none S3) (hB : ∀ lv1 : sm_L, sm_get lv1 0 = some (.ref 61) → sm_get lv1 1 = some (.int (nI dp)) → Bod (d + 8) 315 10 lv1 [] (S3) v Sf) : Bod (d + 8) 315 10 lv [] S v Sf := by
  refine Bod.aldnG dc_315_10 (by repeat (first | exact h0 | exact sm_get_p1 | exact sm_get_p2e | refine sm_get_p1m (by decide) (by decide) ?_ | refine sm_get_p1n (by decide) rfl ?_ | refine sm_get_p2n (by decide) (by decide) rfl ?_)) ?_
  refine Bod.bip 40 (by decide) dc_315_11 ?_
  refine Bod.virt (r := []) dc_315_13 kr_315_199 ⟨Or.inl rfl, ow_314, cl_14⟩ (by rw [np_314]; rfl) (by rw [np_314]; rfl) (ob_of (mk_61 _)) (Nat.le_of_ble_eq_true rfl) (hN0  ) ?_
  show Bod _ _ _ _ [_] _ _ _
  refine Bod.ifT dc_315_16 rfl (k1_eq_T (k_eq 0 0 rfl rfl (by omega))) ?_
  refine Bod.aldnG dc_315_51 (by repeat (first | exact h0 | exact sm_get_p1 | exact sm_get_p2e | refine sm_get_p1m (by decide) (by decide) ?_ | refine sm_get_p1n (by decide) rfl ?_ | refine sm_get_p2n (by decide) (by decide) rfl ?_)) ?_
  refine Bod.bip 91 (by decide) dc_315_52 ?_
  refine Bod.virt (r := []) dc_315_54 kr_315_199 ⟨Or.inl rfl, ow_314, cl_14⟩ (by rw [np_314]; rfl) (by rw [np_314]; rfl) (ob_of (mk_61 _)) (Nat.le_of_ble_eq_true rfl) (hY1  ) ?_
  show Bod _ _ _ _ [_] _ _ _
  refine Bod.ifF dc_315_57 rfl (k1_eq_F (k_ne 1 0 rfl rfl (by omega) (by omega) (by omega))) ?_
  refine Bod.ildnG dc_315_60 (by repeat (first | exact h1 | exact sm_get_p1 | exact sm_get_p2e | refine sm_get_p1m (by decide) (by decide) ?_ | refine sm_get_p1n (by decide) rfl ?_ | refine sm_get_p2n (by decide) (by decide) rfl ?_)) ?_
  refine Bod.bip 12 (by decide) dc_315_61 ?_
  refine Bod.icT dc_315_63 rfl (k2_ne_T (k_ne dp 12 rfl rfl (by omega) (by omega) (by omega))) ?_
  refine Bod.aldnG dc_315_71 (by repeat (first | exact h0 | exact sm_get_p1 | exact sm_get_p2e | refine sm_get_p1m (by decide) (by decide) ?_ | refine sm_get_p1n (by decide) rfl ?_ | refine sm_get_p2n (by decide) (by decide) rfl ?_)) ?_
  refine Bod.go dc_315_72 rfl ?_
  refine Bod.get dc_315_73 fr_315_190 (mk_61 _) rfl ?_
  refine Bod.eqI (nI j) (by first | assumption | rfl | exact congrArg nI (by omega) | (simp (disch := omega) only [rI, rIe, rA, rIA, rLA, rJA, rVI, rQI, rVA, rQA, upd_at,  rAI, rLI, rJI, nI_add, pk_sub, kc_0, kc_1, kc_2, kc_3, kc_4, kc_5, reduceIte, Nat.reduceEqDiff, Nat.add_zero, rI_hold, rI_hold, rL_hold, ha, hk, hx1]; done)) ?_
  refine Bod.ic 1 (by decide) dc_315_76 ?_
  refine Bod.addN (j + 1) (by omega) dc_315_77 ?_
  refine Bod.put dc_315_78 fr_315_190 (mk_61 _) (Nat.le_of_ble_eq_true rfl) pf_14_15 (st_6115 _ _) (mu_I _ _ _) ?_
  refine Bod.aldnG dc_315_81 (by repeat (first | exact h0 | exact sm_get_p1 | exact sm_get_p2e | refine sm_get_p1m (by decide) (by decide) ?_ | refine sm_get_p1n (by decide) rfl ?_ | refine sm_get_p2n (by decide) (by decide) rfl ?_)) ?_
  refine Bod.ildnG dc_315_82 (by repeat (first | exact h1 | exact sm_get_p1 | exact sm_get_p2e | refine sm_get_p1m (by decide) (by decide) ?_ | refine sm_get_p1n (by decide) rfl ?_ | refine sm_get_p2n (by decide) (by decide) rfl ?_)) ?_
  refine Bod.ic 1 (by decide) dc_315_83 ?_
  refine Bod.addN (dp + 1) (by omega) dc_315_84 ?_
  refine Bod.virt (r := []) dc_315_85 kr_315_302 ⟨Or.inl rfl, ow_306, cl_14⟩ (by rw [np_306]; rfl) (by rw [np_306]; rfl) (ob_of (mk_61 _)) (Nat.le_of_ble_eq_true rfl) (hD1  ) ?_
  show Bod _ _ _ _ [_] _ _ _
  refine Bod.ifF dc_315_88 rfl (k1_eq_F (k_ne 1 0 rfl rfl (by omega) (by omega) (by omega))) ?_
  refine Bod.aldnG dc_315_91 (by repeat (first | exact h0 | exact sm_get_p1 | exact sm_get_p2e | refine sm_get_p1m (by decide) (by decide) ?_ | refine sm_get_p1n (by decide) rfl ?_ | refine sm_get_p2n (by decide) (by decide) rfl ?_)) ?_
  refine Bod.bip 93 (by decide) dc_315_92 ?_
  refine Bod.virt (r := []) dc_315_94 kr_315_270 ⟨Or.inl rfl, ow_323, cl_14⟩ (by rw [np_323]; rfl) (by rw [np_323]; rfl) (ob_of (mk_61 _)) (Nat.le_of_ble_eq_true rfl) (hT1  ) ?_
  show Bod _ _ _ _ [_] _ _ _
  refine Bod.ifT dc_315_97 rfl (k1_ne_T (k_ne 1 0 rfl rfl (by omega) (by omega) (by omega))) ?_
  refine Bod.aldnG dc_315_102 (by repeat (first | exact h0 | exact sm_get_p1 | exact sm_get_p2e | refine sm_get_p1m (by decide) (by decide) ?_ | refine sm_get_p1n (by decide) rfl ?_ | refine sm_get_p2n (by decide) (by decide) rfl ?_)) ?_
  refine Bod.ic 2 (by decide) dc_315_103 ?_
  refine Bod.put dc_315_104 fr_315_397 (mk_61 _) (Nat.le_of_ble_eq_true rfl) pf_14_31 (st_6131 _ _) (mu_I _ _ _) ?_
  refine Bod.aldnG dc_315_107 (by repeat (first | exact h0 | exact sm_get_p1 | exact sm_get_p2e | refine sm_get_p1m (by decide) (by decide) ?_ | refine sm_get_p1n (by decide) rfl ?_ | refine sm_get_p2n (by decide) (by decide) rfl ?_)) ?_
  refine Bod.aldnG dc_315_108 (by repeat (first | exact h0 | exact sm_get_p1 | exact sm_get_p2e | refine sm_get_p1m (by decide) (by decide) ?_ | refine sm_get_p1n (by decide) rfl ?_ | refine sm_get_p2n (by decide) (by decide) rfl ?_)) ?_
  refine Bod.get dc_315_109 fr_315_206 (mk_61 _) rfl ?_
  refine Bod.eqV (.ref m) (by first | exact hcode | (simp only [rIV, rJV, rAV, rLV, rQV]; exact hcode)) ?_
  refine Bod.get dc_315_112 fr_315_219 (mk_code hm (by first | exact hs | (simp only [rIS, rJS, rAS, rLS, rVS, rQS, rS_hold]; exact hs))) rfl ?_
  refine Bod.eqI (nI k) (by first | (simp (disch := omega) only [rI, rIe, rA, rIA, rLA, rJA, rVI, rQI, rVA, rQA, upd_at,  rAI, rLI, rJI, nI_add, pk_sub, kc_0, kc_1, kc_2, kc_3, kc_4, kc_5, reduceIte, Nat.reduceEqDiff, Nat.add_zero, rI_hold, rI_hold, rL_hold, ha, hk, hx1]; done) | (simp (disch := omega) only [rI, rIe, rA, rIA, rLA, rJA, rVI, rQI, rVA, rQA, upd_at,  rAI, rLI, rJI, nI_add, pk_sub, kc_0, kc_1, kc_2, kc_3, kc_4, kc_5, reduceIte, Nat.reduceEqDiff, Nat.add_zero, rI_hold, rI_hold, rL_hold, ha, hk, hx1]; exact congrArg nI (by omega))) ?_
  refine Bod.put dc_315_115 fr_315_425 (mk_61 _) (Nat.le_of_ble_eq_true rfl) pf_14_32 (st_6132 _ _) (mu_I _ _ _) ?_
  refine Bod.aldnG dc_315_118 (by repeat (first | exact h0 | exact sm_get_p1 | exact sm_get_p2e | refine sm_get_p1m (by decide) (by decide) ?_ | refine sm_get_p1n (by decide) rfl ?_ | refine sm_get_p2n (by decide) (by decide) rfl ?_)) ?_
  refine Bod.bip 15 (by decide) dc_315_119 ?_
  refine Bod.virt (r := []) dc_315_121 kr_315_269 ⟨Or.inl rfl, ow_322, cl_14⟩ (by rw [np_322]; rfl) (by rw [np_322]; rfl) (ob_of (mk_61 _)) (Nat.le_of_ble_eq_true rfl) (hP  ) ?_
  show Bod _ _ _ _ [] _ _ _
  refine Bod.go dc_315_124 rfl ?_
  exact hB _ (by repeat (first | exact h0 | exact sm_get_p1 | exact sm_get_p2e | refine sm_get_p1m (by decide) (by decide) ?_ | refine sm_get_p1n (by decide) rfl ?_ | refine sm_get_p2n (by decide) (by decide) rfl ?_)) (by repeat (first | exact h1 | exact sm_get_p1 | exact sm_get_p2e | refine sm_get_p1m (by decide) (by decide) ?_ | refine sm_get_p1n (by decide) rfl ?_ | refine sm_get_p2n (by decide) (by decide) rfl ?_))
theorem re_at_bad {d : Nat} {S : cS} {lv : sm_L} {dp : Nat} {j : Nat} {kd : Nat} {S1 : cS} (h0 : sm_get lv 0 = some (.ref 61)) (h1 : sm_get lv 1 = some (.int (nI dp))) (hdp : dp ≤ 12) (hN0 : Ans (d + 8) 314 [.ref 61, .int (nI 40)] S (some (.int (nI 0))) S) (hN1 : Ans (d + 8) 314 [.ref 61, .int (nI 91)] S (some (.int (nI 0))) S) (hY2 : Ans (d + 8) 314 [.ref 61, .int (nI 46)] S (some (.int (nI 1))) S) (ha : sI S 6115 = nI j) (hj : j + 1 < 6002) (hkd : sA S 67 (j + 1) = nI kd) (hkM : kd < 100) (hk1 : kd ≠ 1) (hB : Ans (d + 8) 299 [.ref 61] (wI 6115 (nI (j + 1)) S) (some (.int (nI 0))) S1) : Bod (d + 8) 315 10 lv [] S (some (.int 0)) (S1) := by
  refine Bod.aldnG dc_315_10 (by repeat (first | exact h0 | exact sm_get_p1 | exact sm_get_p2e | refine sm_get_p1m (by decide) (by decide) ?_ | refine sm_get_p1n (by decide) rfl ?_ | refine sm_get_p2n (by decide) (by decide) rfl ?_)) ?_
  refine Bod.bip 40 (by decide) dc_315_11 ?_
  refine Bod.virt (r := []) dc_315_13 kr_315_199 ⟨Or.inl rfl, ow_314, cl_14⟩ (by rw [np_314]; rfl) (by rw [np_314]; rfl) (ob_of (mk_61 _)) (Nat.le_of_ble_eq_true rfl) (hN0  ) ?_
  show Bod _ _ _ _ [_] _ _ _
  refine Bod.ifT dc_315_16 rfl (k1_eq_T (k_eq 0 0 rfl rfl (by omega))) ?_
  refine Bod.aldnG dc_315_51 (by repeat (first | exact h0 | exact sm_get_p1 | exact sm_get_p2e | refine sm_get_p1m (by decide) (by decide) ?_ | refine sm_get_p1n (by decide) rfl ?_ | refine sm_get_p2n (by decide) (by decide) rfl ?_)) ?_
  refine Bod.bip 91 (by decide) dc_315_52 ?_
  refine Bod.virt (r := []) dc_315_54 kr_315_199 ⟨Or.inl rfl, ow_314, cl_14⟩ (by rw [np_314]; rfl) (by rw [np_314]; rfl) (ob_of (mk_61 _)) (Nat.le_of_ble_eq_true rfl) (hN1  ) ?_
  show Bod _ _ _ _ [_] _ _ _
  refine Bod.ifT dc_315_57 rfl (k1_eq_T (k_eq 0 0 rfl rfl (by omega))) ?_
  refine Bod.aldnG dc_315_127 (by repeat (first | exact h0 | exact sm_get_p1 | exact sm_get_p2e | refine sm_get_p1m (by decide) (by decide) ?_ | refine sm_get_p1n (by decide) rfl ?_ | refine sm_get_p2n (by decide) (by decide) rfl ?_)) ?_
  refine Bod.bip 46 (by decide) dc_315_128 ?_
  refine Bod.virt (r := []) dc_315_130 kr_315_199 ⟨Or.inl rfl, ow_314, cl_14⟩ (by rw [np_314]; rfl) (by rw [np_314]; rfl) (ob_of (mk_61 _)) (Nat.le_of_ble_eq_true rfl) (hY2  ) ?_
  show Bod _ _ _ _ [_] _ _ _
  refine Bod.ifF dc_315_133 rfl (k1_eq_F (k_ne 1 0 rfl rfl (by omega) (by omega) (by omega))) ?_
  refine Bod.aldnG dc_315_136 (by repeat (first | exact h0 | exact sm_get_p1 | exact sm_get_p2e | refine sm_get_p1m (by decide) (by decide) ?_ | refine sm_get_p1n (by decide) rfl ?_ | refine sm_get_p2n (by decide) (by decide) rfl ?_)) ?_
  refine Bod.go dc_315_137 rfl ?_
  refine Bod.get dc_315_138 fr_315_190 (mk_61 _) rfl ?_
  refine Bod.eqI (nI j) (by first | assumption | rfl | exact congrArg nI (by omega) | (simp (disch := omega) only [rI, rIe, rA, rIA, rLA, rJA, rVI, rQI, rVA, rQA, upd_at,  rAI, rLI, rJI, nI_add, pk_sub, kc_0, kc_1, kc_2, kc_3, kc_4, kc_5, reduceIte, Nat.reduceEqDiff, Nat.add_zero, rI_hold, rI_hold, rL_hold, ha, hkd]; done)) ?_
  refine Bod.ic 1 (by decide) dc_315_141 ?_
  refine Bod.addN (j + 1) (by omega) dc_315_142 ?_
  refine Bod.put dc_315_143 fr_315_190 (mk_61 _) (Nat.le_of_ble_eq_true rfl) pf_14_15 (st_6115 _ _) (mu_I _ _ _) ?_
  refine Bod.aldnG dc_315_146 (by repeat (first | exact h0 | exact sm_get_p1 | exact sm_get_p2e | refine sm_get_p1m (by decide) (by decide) ?_ | refine sm_get_p1n (by decide) rfl ?_ | refine sm_get_p2n (by decide) (by decide) rfl ?_)) ?_
  refine Bod.get dc_315_147 fr_315_129 (mk_61 _) rfl ?_
  refine Bod.aldnG dc_315_150 (by repeat (first | exact h0 | exact sm_get_p1 | exact sm_get_p2e | refine sm_get_p1m (by decide) (by decide) ?_ | refine sm_get_p1n (by decide) rfl ?_ | refine sm_get_p2n (by decide) (by decide) rfl ?_)) ?_
  refine Bod.get dc_315_151 fr_315_190 (mk_61 _) rfl ?_
  refine Bod.eqI (nI (j + 1)) (by first | (simp (disch := omega) only [rI, rIe, rA, rIA, rLA, rJA, rVI, rQI, rVA, rQA, upd_at,  rAI, rLI, rJI, nI_add, pk_sub, kc_0, kc_1, kc_2, kc_3, kc_4, kc_5, reduceIte, Nat.reduceEqDiff, Nat.add_zero, rI_hold, rI_hold, rL_hold, ha, hkd]; done) | (simp (disch := omega) only [rI, rIe, rA, rIA, rLA, rJA, rVI, rQI, rVA, rQA, upd_at,  rAI, rLI, rJI, nI_add, pk_sub, kc_0, kc_1, kc_2, kc_3, kc_4, kc_5, reduceIte, Nat.reduceEqDiff, Nat.add_zero, rI_hold, rI_hold, rL_hold, ha, hkd]; exact congrArg nI (by omega))) ?_
  refine Bod.ialdN (j + 1) rfl (by omega) (by omega) dc_315_154 (mk_67 _) ?_
  refine Bod.eqI (nI kd) (by first | (simp (disch := omega) only [rI, rIe, rA, rIA, rLA, rJA, rVI, rQI, rVA, rQA, upd_at,  rAI, rLI, rJI, nI_add, pk_sub, kc_0, kc_1, kc_2, kc_3, kc_4, kc_5, reduceIte, Nat.reduceEqDiff, Nat.add_zero, rI_hold, rI_hold, rL_hold, ha, hkd]; done) | (simp (disch := omega) only [rI, rIe, rA, rIA, rLA, rJA, rVI, rQI, rVA, rQA, upd_at,  rAI, rLI, rJI, nI_add, pk_sub, kc_0, kc_1, kc_2, kc_3, kc_4, kc_5, reduceIte, Nat.reduceEqDiff, Nat.add_zero, rI_hold, rI_hold, rL_hold, ha, hkd]; exact congrArg nI (by omega))) ?_
  refine Bod.ic 1 (by decide) dc_315_155 ?_
  refine Bod.icF dc_315_156 rfl (k2_eq_F (k_ne kd 1 rfl rfl (by omega) (by omega) (by omega))) ?_
  refine Bod.aldnG dc_315_159 (by repeat (first | exact h0 | exact sm_get_p1 | exact sm_get_p2e | refine sm_get_p1m (by decide) (by decide) ?_ | refine sm_get_p1n (by decide) rfl ?_ | refine sm_get_p2n (by decide) (by decide) rfl ?_)) ?_
  refine Bod.virt (r := []) dc_315_160 kr_315_202 ⟨Or.inl rfl, ow_299, cl_14⟩ (by rw [np_299]; rfl) (by rw [np_299]; rfl) (ob_of (mk_61 _)) (Nat.le_of_ble_eq_true rfl) (hB  ) ?_
  show Bod _ _ _ _ [_] _ _ _
  exact Bod.retZ dc_315_163 rt_315 (Or.inl rfl)
theorem re_at_T {d : Nat} {S Sf : cS} {lv : sm_L} {v : Option Value} {dp : Nat} {j : Nat} {kd : Nat} {vl : Nat} {S1 : cS} {m : Nat} {u : Nat} {k : Nat} (h0 : sm_get lv 0 = some (.ref 61)) (h1 : sm_get lv 1 = some (.int (nI dp))) (hdp : dp ≤ 12) (hN0 : Ans (d + 8) 314 [.ref 61, .int (nI 40)] S (some (.int (nI 0))) S) (hN1 : Ans (d + 8) 314 [.ref 61, .int (nI 91)] S (some (.int (nI 0))) S) (hY2 : Ans (d + 8) 314 [.ref 61, .int (nI 46)] S (some (.int (nI 1))) S) (ha : sI S 6115 = nI j) (hj : j + 1 < 6002) (hkd : sA S 67 (j + 1) = nI kd) (hk1 : kd = 1) (hvl : sA S 68 (j + 1) = nI vl) (hvM : vl < 100000) (hx1 : ¬ 100 * m = 6130) (hx2 : ¬ 100 * m = 6114) (hm : 108 ≤ m) (hs : (sS S)[m - 108]? = some (12, u)) (hcode : sV S 6114 = .ref m) (hk : sI S (100 * m + 1) = nI k) (hkM : k < 2 ^ 20) (hQ : Ans (d + 8) 302 [.ref 61, .int (nI 16), .int (nI vl)] (wI 6132 (nI k) (wI 6131 (nI 3) (wI 6115 (nI (j + 1)) S))) none S1) (ha1 : sI S1 6115 = nI (j + 1)) (hB : ∀ lv1 : sm_L, sm_get lv1 0 = some (.ref 61) → sm_get lv1 1 = some (.int (nI dp)) → Bod (d + 8) 315 10 lv1 [] (wI 6115 (nI (j + 2)) S1) v Sf) : Bod (d + 8) 315 10 lv [] S v Sf := by
  refine Bod.aldnG dc_315_10 (by repeat (first | exact h0 | exact sm_get_p1 | exact sm_get_p2e | refine sm_get_p1m (by decide) (by decide) ?_ | refine sm_get_p1n (by decide) rfl ?_ | refine sm_get_p2n (by decide) (by decide) rfl ?_)) ?_
  refine Bod.bip 40 (by decide) dc_315_11 ?_
  refine Bod.virt (r := []) dc_315_13 kr_315_199 ⟨Or.inl rfl, ow_314, cl_14⟩ (by rw [np_314]; rfl) (by rw [np_314]; rfl) (ob_of (mk_61 _)) (Nat.le_of_ble_eq_true rfl) (hN0  ) ?_
  show Bod _ _ _ _ [_] _ _ _
  refine Bod.ifT dc_315_16 rfl (k1_eq_T (k_eq 0 0 rfl rfl (by omega))) ?_
  refine Bod.aldnG dc_315_51 (by repeat (first | exact h0 | exact sm_get_p1 | exact sm_get_p2e | refine sm_get_p1m (by decide) (by decide) ?_ | refine sm_get_p1n (by decide) rfl ?_ | refine sm_get_p2n (by decide) (by decide) rfl ?_)) ?_
  refine Bod.bip 91 (by decide) dc_315_52 ?_
  refine Bod.virt (r := []) dc_315_54 kr_315_199 ⟨Or.inl rfl, ow_314, cl_14⟩ (by rw [np_314]; rfl) (by rw [np_314]; rfl) (ob_of (mk_61 _)) (Nat.le_of_ble_eq_true rfl) (hN1  ) ?_
  show Bod _ _ _ _ [_] _ _ _
  refine Bod.ifT dc_315_57 rfl (k1_eq_T (k_eq 0 0 rfl rfl (by omega))) ?_
  refine Bod.aldnG dc_315_127 (by repeat (first | exact h0 | exact sm_get_p1 | exact sm_get_p2e | refine sm_get_p1m (by decide) (by decide) ?_ | refine sm_get_p1n (by decide) rfl ?_ | refine sm_get_p2n (by decide) (by decide) rfl ?_)) ?_
  refine Bod.bip 46 (by decide) dc_315_128 ?_
  refine Bod.virt (r := []) dc_315_130 kr_315_199 ⟨Or.inl rfl, ow_314, cl_14⟩ (by rw [np_314]; rfl) (by rw [np_314]; rfl) (ob_of (mk_61 _)) (Nat.le_of_ble_eq_true rfl) (hY2  ) ?_
  show Bod _ _ _ _ [_] _ _ _
  refine Bod.ifF dc_315_133 rfl (k1_eq_F (k_ne 1 0 rfl rfl (by omega) (by omega) (by omega))) ?_
  refine Bod.aldnG dc_315_136 (by repeat (first | exact h0 | exact sm_get_p1 | exact sm_get_p2e | refine sm_get_p1m (by decide) (by decide) ?_ | refine sm_get_p1n (by decide) rfl ?_ | refine sm_get_p2n (by decide) (by decide) rfl ?_)) ?_
  refine Bod.go dc_315_137 rfl ?_
  refine Bod.get dc_315_138 fr_315_190 (mk_61 _) rfl ?_
  refine Bod.eqI (nI j) (by first | assumption | rfl | exact congrArg nI (by omega) | (simp (disch := omega) only [rI, rIe, rA, rIA, rLA, rJA, rVI, rQI, rVA, rQA, upd_at,  rAI, rLI, rJI, nI_add, pk_sub, kc_0, kc_1, kc_2, kc_3, kc_4, kc_5, reduceIte, Nat.reduceEqDiff, Nat.add_zero, rI_hold, rI_hold, rL_hold, ha, hkd, hvl, hx1, hx2, hk, ha1]; done)) ?_
  refine Bod.ic 1 (by decide) dc_315_141 ?_
  refine Bod.addN (j + 1) (by omega) dc_315_142 ?_
  refine Bod.put dc_315_143 fr_315_190 (mk_61 _) (Nat.le_of_ble_eq_true rfl) pf_14_15 (st_6115 _ _) (mu_I _ _ _) ?_
  refine Bod.aldnG dc_315_146 (by repeat (first | exact h0 | exact sm_get_p1 | exact sm_get_p2e | refine sm_get_p1m (by decide) (by decide) ?_ | refine sm_get_p1n (by decide) rfl ?_ | refine sm_get_p2n (by decide) (by decide) rfl ?_)) ?_
  refine Bod.get dc_315_147 fr_315_129 (mk_61 _) rfl ?_
  refine Bod.aldnG dc_315_150 (by repeat (first | exact h0 | exact sm_get_p1 | exact sm_get_p2e | refine sm_get_p1m (by decide) (by decide) ?_ | refine sm_get_p1n (by decide) rfl ?_ | refine sm_get_p2n (by decide) (by decide) rfl ?_)) ?_
  refine Bod.get dc_315_151 fr_315_190 (mk_61 _) rfl ?_
  refine Bod.eqI (nI (j + 1)) (by first | (simp (disch := omega) only [rI, rIe, rA, rIA, rLA, rJA, rVI, rQI, rVA, rQA, upd_at,  rAI, rLI, rJI, nI_add, pk_sub, kc_0, kc_1, kc_2, kc_3, kc_4, kc_5, reduceIte, Nat.reduceEqDiff, Nat.add_zero, rI_hold, rI_hold, rL_hold, ha, hkd, hvl, hx1, hx2, hk, ha1]; done) | (simp (disch := omega) only [rI, rIe, rA, rIA, rLA, rJA, rVI, rQI, rVA, rQA, upd_at,  rAI, rLI, rJI, nI_add, pk_sub, kc_0, kc_1, kc_2, kc_3, kc_4, kc_5, reduceIte, Nat.reduceEqDiff, Nat.add_zero, rI_hold, rI_hold, rL_hold, ha, hkd, hvl, hx1, hx2, hk, ha1]; exact congrArg nI (by omega))) ?_
  refine Bod.ialdN (j + 1) rfl (by omega) (by omega) dc_315_154 (mk_67 _) ?_
  refine Bod.eqI (nI kd) (by first | (simp (disch := omega) only [rI, rIe, rA, rIA, rLA, rJA, rVI, rQI, rVA, rQA, upd_at,  rAI, rLI, rJI, nI_add, pk_sub, kc_0, kc_1, kc_2, kc_3, kc_4, kc_5, reduceIte, Nat.reduceEqDiff, Nat.add_zero, rI_hold, rI_hold, rL_hold, ha, hkd, hvl, hx1, hx2, hk, ha1]; done) | (simp (disch := omega) only [rI, rIe, rA, rIA, rLA, rJA, rVI, rQI, rVA, rQA, upd_at,  rAI, rLI, rJI, nI_add, pk_sub, kc_0, kc_1, kc_2, kc_3, kc_4, kc_5, reduceIte, Nat.reduceEqDiff, Nat.add_zero, rI_hold, rI_hold, rL_hold, ha, hkd, hvl, hx1, hx2, hk, ha1]; exact congrArg nI (by omega))) ?_
  refine Bod.ic 1 (by decide) dc_315_155 ?_
  refine Bod.icT dc_315_156 rfl (k2_eq_T (k_eq kd 1 rfl rfl (by omega))) ?_
  refine Bod.aldnG dc_315_164 (by repeat (first | exact h0 | exact sm_get_p1 | exact sm_get_p2e | refine sm_get_p1m (by decide) (by decide) ?_ | refine sm_get_p1n (by decide) rfl ?_ | refine sm_get_p2n (by decide) (by decide) rfl ?_)) ?_
  refine Bod.ic 3 (by decide) dc_315_165 ?_
  refine Bod.put dc_315_166 fr_315_397 (mk_61 _) (Nat.le_of_ble_eq_true rfl) pf_14_31 (st_6131 _ _) (mu_I _ _ _) ?_
  refine Bod.aldnG dc_315_169 (by repeat (first | exact h0 | exact sm_get_p1 | exact sm_get_p2e | refine sm_get_p1m (by decide) (by decide) ?_ | refine sm_get_p1n (by decide) rfl ?_ | refine sm_get_p2n (by decide) (by decide) rfl ?_)) ?_
  refine Bod.aldnG dc_315_170 (by repeat (first | exact h0 | exact sm_get_p1 | exact sm_get_p2e | refine sm_get_p1m (by decide) (by decide) ?_ | refine sm_get_p1n (by decide) rfl ?_ | refine sm_get_p2n (by decide) (by decide) rfl ?_)) ?_
  refine Bod.get dc_315_171 fr_315_206 (mk_61 _) rfl ?_
  refine Bod.eqV (.ref m) (by first | exact hcode | (simp only [rIV, rJV, rAV, rLV, rQV]; exact hcode)) ?_
  refine Bod.get dc_315_174 fr_315_219 (mk_code hm (by first | exact hs | (simp only [rIS, rJS, rAS, rLS, rVS, rQS, rS_hold]; exact hs))) rfl ?_
  refine Bod.eqI (nI k) (by first | (simp (disch := omega) only [rI, rIe, rA, rIA, rLA, rJA, rVI, rQI, rVA, rQA, upd_at,  rAI, rLI, rJI, nI_add, pk_sub, kc_0, kc_1, kc_2, kc_3, kc_4, kc_5, reduceIte, Nat.reduceEqDiff, Nat.add_zero, rI_hold, rI_hold, rL_hold, ha, hkd, hvl, hx1, hx2, hk, ha1]; done) | (simp (disch := omega) only [rI, rIe, rA, rIA, rLA, rJA, rVI, rQI, rVA, rQA, upd_at,  rAI, rLI, rJI, nI_add, pk_sub, kc_0, kc_1, kc_2, kc_3, kc_4, kc_5, reduceIte, Nat.reduceEqDiff, Nat.add_zero, rI_hold, rI_hold, rL_hold, ha, hkd, hvl, hx1, hx2, hk, ha1]; exact congrArg nI (by omega))) ?_
  refine Bod.put dc_315_177 fr_315_425 (mk_61 _) (Nat.le_of_ble_eq_true rfl) pf_14_32 (st_6132 _ _) (mu_I _ _ _) ?_
  refine Bod.aldnG dc_315_180 (by repeat (first | exact h0 | exact sm_get_p1 | exact sm_get_p2e | refine sm_get_p1m (by decide) (by decide) ?_ | refine sm_get_p1n (by decide) rfl ?_ | refine sm_get_p2n (by decide) (by decide) rfl ?_)) ?_
  refine Bod.bip 16 (by decide) dc_315_181 ?_
  refine Bod.aldnG dc_315_183 (by repeat (first | exact h0 | exact sm_get_p1 | exact sm_get_p2e | refine sm_get_p1m (by decide) (by decide) ?_ | refine sm_get_p1n (by decide) rfl ?_ | refine sm_get_p2n (by decide) (by decide) rfl ?_)) ?_
  refine Bod.get dc_315_184 fr_315_135 (mk_61 _) rfl ?_
  refine Bod.aldnG dc_315_187 (by repeat (first | exact h0 | exact sm_get_p1 | exact sm_get_p2e | refine sm_get_p1m (by decide) (by decide) ?_ | refine sm_get_p1n (by decide) rfl ?_ | refine sm_get_p2n (by decide) (by decide) rfl ?_)) ?_
  refine Bod.get dc_315_188 fr_315_190 (mk_61 _) rfl ?_
  refine Bod.eqI (nI (j + 1)) (by first | (simp (disch := omega) only [rI, rIe, rA, rIA, rLA, rJA, rVI, rQI, rVA, rQA, upd_at,  rAI, rLI, rJI, nI_add, pk_sub, kc_0, kc_1, kc_2, kc_3, kc_4, kc_5, reduceIte, Nat.reduceEqDiff, Nat.add_zero, rI_hold, rI_hold, rL_hold, ha, hkd, hvl, hx1, hx2, hk, ha1]; done) | (simp (disch := omega) only [rI, rIe, rA, rIA, rLA, rJA, rVI, rQI, rVA, rQA, upd_at,  rAI, rLI, rJI, nI_add, pk_sub, kc_0, kc_1, kc_2, kc_3, kc_4, kc_5, reduceIte, Nat.reduceEqDiff, Nat.add_zero, rI_hold, rI_hold, rL_hold, ha, hkd, hvl, hx1, hx2, hk, ha1]; exact congrArg nI (by omega))) ?_
  refine Bod.ialdN (j + 1) rfl (by omega) (by omega) dc_315_191 (mk_68 _) ?_
  refine Bod.eqI (nI vl) (by first | (simp (disch := omega) only [rI, rIe, rA, rIA, rLA, rJA, rVI, rQI, rVA, rQA, upd_at,  rAI, rLI, rJI, nI_add, pk_sub, kc_0, kc_1, kc_2, kc_3, kc_4, kc_5, reduceIte, Nat.reduceEqDiff, Nat.add_zero, rI_hold, rI_hold, rL_hold, ha, hkd, hvl, hx1, hx2, hk, ha1]; done) | (simp (disch := omega) only [rI, rIe, rA, rIA, rLA, rJA, rVI, rQI, rVA, rQA, upd_at,  rAI, rLI, rJI, nI_add, pk_sub, kc_0, kc_1, kc_2, kc_3, kc_4, kc_5, reduceIte, Nat.reduceEqDiff, Nat.add_zero, rI_hold, rI_hold, rL_hold, ha, hkd, hvl, hx1, hx2, hk, ha1]; exact congrArg nI (by omega))) ?_
  refine Bod.virt (r := []) dc_315_192 kr_315_216 ⟨Or.inl rfl, ow_302, cl_14⟩ (by rw [np_302]; rfl) (by rw [np_302]; rfl) (ob_of (mk_61 _)) (Nat.le_of_ble_eq_true rfl) (hQ  ) ?_
  show Bod _ _ _ _ [] _ _ _
  refine Bod.aldnG dc_315_195 (by repeat (first | exact h0 | exact sm_get_p1 | exact sm_get_p2e | refine sm_get_p1m (by decide) (by decide) ?_ | refine sm_get_p1n (by decide) rfl ?_ | refine sm_get_p2n (by decide) (by decide) rfl ?_)) ?_
  refine Bod.go dc_315_196 rfl ?_
  refine Bod.get dc_315_197 fr_315_190 (mk_61 _) rfl ?_
  refine Bod.eqI (nI (j + 1)) (by first | (simp (disch := omega) only [rI, rIe, rA, rIA, rLA, rJA, rVI, rQI, rVA, rQA, upd_at,  rAI, rLI, rJI, nI_add, pk_sub, kc_0, kc_1, kc_2, kc_3, kc_4, kc_5, reduceIte, Nat.reduceEqDiff, Nat.add_zero, rI_hold, rI_hold, rL_hold, ha, hkd, hvl, hx1, hx2, hk, ha1]; done) | (simp (disch := omega) only [rI, rIe, rA, rIA, rLA, rJA, rVI, rQI, rVA, rQA, upd_at,  rAI, rLI, rJI, nI_add, pk_sub, kc_0, kc_1, kc_2, kc_3, kc_4, kc_5, reduceIte, Nat.reduceEqDiff, Nat.add_zero, rI_hold, rI_hold, rL_hold, ha, hkd, hvl, hx1, hx2, hk, ha1]; exact congrArg nI (by omega))) ?_
  refine Bod.ic 1 (by decide) dc_315_200 ?_
  refine Bod.addN (j + 2) (by omega) dc_315_201 ?_
  refine Bod.put dc_315_202 fr_315_190 (mk_61 _) (Nat.le_of_ble_eq_true rfl) pf_14_15 (st_6115 _ _) (mu_I _ _ _) ?_
  refine Bod.go dc_315_205 rfl ?_
  exact hB _ (by repeat (first | exact h0 | exact sm_get_p1 | exact sm_get_p2e | refine sm_get_p1m (by decide) (by decide) ?_ | refine sm_get_p1n (by decide) rfl ?_ | refine sm_get_p2n (by decide) (by decide) rfl ?_)) (by repeat (first | exact h1 | exact sm_get_p1 | exact sm_get_p2e | refine sm_get_p1m (by decide) (by decide) ?_ | refine sm_get_p1n (by decide) rfl ?_ | refine sm_get_p2n (by decide) (by decide) rfl ?_))
