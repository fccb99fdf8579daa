/-! COMPILING OF THE REFERENCE: ways of compile (286) from place 17 on -/
theorem ml_286 : sm_ml 286 = 3 := by decide +kernel
theorem dc_286_17 : decode (sm_cc 286) 17 = .ok (.aload_n 0, 1) := by decide +kernel
theorem dc_286_18 : decode (sm_cc 286) 18 = .ok (.iconst 0, 1) := by decide +kernel
theorem dc_286_19 : decode (sm_cc 286) 19 = .ok (.putfield 190, 3) := by decide +kernel
theorem fr_286_190 : sm_at mt_f (sm_ow 286) 190 = some (190, 14, 15, 0, 2088) := by decide +kernel
theorem dc_286_22 : decode (sm_cc 286) 22 = .ok (.aload_n 0, 1) := by decide +kernel
theorem dc_286_23 : decode (sm_cc 286) 23 = .ok (.iconst 0, 1) := by decide +kernel
theorem dc_286_24 : decode (sm_cc 286) 24 = .ok (.putfield 187, 3) := by decide +kernel
theorem fr_286_187 : sm_at mt_f (sm_ow 286) 187 = some (187, 14, 16, 0, 2089) := by decide +kernel
theorem dc_286_27 : decode (sm_cc 286) 27 = .ok (.aload_n 0, 1) := by decide +kernel
theorem dc_286_28 : decode (sm_cc 286) 28 = .ok (.iconst 0, 1) := by decide +kernel
theorem dc_286_29 : decode (sm_cc 286) 29 = .ok (.putfield 233, 3) := by decide +kernel
theorem fr_286_233 : sm_at mt_f (sm_ow 286) 233 = some (233, 14, 17, 0, 2090) := by decide +kernel
theorem dc_286_32 : decode (sm_cc 286) 32 = .ok (.aload_n 0, 1) := by decide +kernel
theorem dc_286_33 : decode (sm_cc 286) 33 = .ok (.iconst 0, 1) := by decide +kernel
theorem dc_286_34 : decode (sm_cc 286) 34 = .ok (.putfield 236, 3) := by decide +kernel
theorem fr_286_236 : sm_at mt_f (sm_ow 286) 236 = some (236, 14, 22, 0, 2095) := by decide +kernel
theorem dc_286_37 : decode (sm_cc 286) 37 = .ok (.aload_n 0, 1) := by decide +kernel
theorem dc_286_38 : decode (sm_cc 286) 38 = .ok (.iconst 0, 1) := by decide +kernel
theorem dc_286_39 : decode (sm_cc 286) 39 = .ok (.putfield 239, 3) := by decide +kernel
theorem fr_286_239 : sm_at mt_f (sm_ow 286) 239 = some (239, 14, 23, 0, 2096) := by decide +kernel
theorem dc_286_42 : decode (sm_cc 286) 42 = .ok (.aload_n 0, 1) := by decide +kernel
theorem dc_286_43 : decode (sm_cc 286) 43 = .ok (.iconst 0, 1) := by decide +kernel
theorem dc_286_44 : decode (sm_cc 286) 44 = .ok (.putfield 242, 3) := by decide +kernel
theorem fr_286_242 : sm_at mt_f (sm_ow 286) 242 = some (242, 14, 26, 0, 2099) := by decide +kernel
theorem dc_286_47 : decode (sm_cc 286) 47 = .ok (.aload_n 0, 1) := by decide +kernel
theorem dc_286_48 : decode (sm_cc 286) 48 = .ok (.iconst 0, 1) := by decide +kernel
theorem dc_286_49 : decode (sm_cc 286) 49 = .ok (.putfield 245, 3) := by decide +kernel
theorem fr_286_245 : sm_at mt_f (sm_ow 286) 245 = some (245, 14, 27, 0, 2100) := by decide +kernel
theorem dc_286_52 : decode (sm_cc 286) 52 = .ok (.aload_n 0, 1) := by decide +kernel
theorem dc_286_53 : decode (sm_cc 286) 53 = .ok (.iconst 0, 1) := by decide +kernel
theorem dc_286_54 : decode (sm_cc 286) 54 = .ok (.putfield 248, 3) := by decide +kernel
theorem fr_286_248 : sm_at mt_f (sm_ow 286) 248 = some (248, 14, 30, 0, 2103) := by decide +kernel
theorem dc_286_57 : decode (sm_cc 286) 57 = .ok (.aload_n 0, 1) := by decide +kernel
theorem dc_286_58 : decode (sm_cc 286) 58 = .ok (.iconst 0, 1) := by decide +kernel
theorem dc_286_59 : decode (sm_cc 286) 59 = .ok (.putfield 251, 3) := by decide +kernel
theorem fr_286_251 : sm_at mt_f (sm_ow 286) 251 = some (251, 14, 34, 0, 2107) := by decide +kernel
theorem dc_286_62 : decode (sm_cc 286) 62 = .ok (.aload_n 0, 1) := by decide +kernel
theorem dc_286_63 : decode (sm_cc 286) 63 = .ok (.iconst 0, 1) := by decide +kernel
theorem dc_286_64 : decode (sm_cc 286) 64 = .ok (.putfield 254, 3) := by decide +kernel
theorem fr_286_254 : sm_at mt_f (sm_ow 286) 254 = some (254, 14, 37, 0, 2110) := by decide +kernel
theorem dc_286_67 : decode (sm_cc 286) 67 = .ok (.aload_n 0, 1) := by decide +kernel
theorem dc_286_68 : decode (sm_cc 286) 68 = .ok (.iconst 0, 1) := by decide +kernel
theorem dc_286_69 : decode (sm_cc 286) 69 = .ok (.putfield 257, 3) := by decide +kernel
theorem fr_286_257 : sm_at mt_f (sm_ow 286) 257 = some (257, 14, 39, 0, 2112) := by decide +kernel
theorem dc_286_72 : decode (sm_cc 286) 72 = .ok (.aload_n 0, 1) := by decide +kernel
theorem dc_286_73 : decode (sm_cc 286) 73 = .ok (.iconst 0, 1) := by decide +kernel
theorem dc_286_74 : decode (sm_cc 286) 74 = .ok (.putfield 260, 3) := by decide +kernel
theorem fr_286_260 : sm_at mt_f (sm_ow 286) 260 = some (260, 14, 40, 0, 2113) := by decide +kernel
theorem dc_286_77 : decode (sm_cc 286) 77 = .ok (.aload_n 0, 1) := by decide +kernel
theorem dc_286_78 : decode (sm_cc 286) 78 = .ok (.getfield 263, 3) := by decide +kernel
theorem fr_286_263 : sm_at mt_f (sm_ow 286) 263 = some (263, 14, 18, 0, 2091) := by decide +kernel
theorem dc_286_81 : decode (sm_cc 286) 81 = .ok (.iconst 0, 1) := by decide +kernel
theorem dc_286_82 : decode (sm_cc 286) 82 = .ok (.iconst 0, 1) := by decide +kernel
theorem dc_286_83 : decode (sm_cc 286) 83 = .ok (.iastore, 1) := by decide +kernel
theorem dc_286_84 : decode (sm_cc 286) 84 = .ok (.aload_n 0, 1) := by decide +kernel
theorem dc_286_85 : decode (sm_cc 286) 85 = .ok (.getfield 129, 3) := by decide +kernel
theorem fr_286_129 : sm_at mt_f (sm_ow 286) 129 = some (129, 14, 6, 0, 2079) := by decide +kernel
theorem dc_286_88 : decode (sm_cc 286) 88 = .ok (.aload_n 0, 1) := by decide +kernel
theorem dc_286_89 : decode (sm_cc 286) 89 = .ok (.getfield 190, 3) := by decide +kernel
theorem dc_286_92 : decode (sm_cc 286) 92 = .ok (.iaload, 1) := by decide +kernel
theorem dc_286_93 : decode (sm_cc 286) 93 = .ok (.bipush (7), 2) := by decide +kernel
theorem dc_286_95 : decode (sm_cc 286) 95 = .ok (.if_icmp .eq (38), 3) := by decide +kernel
theorem dc_286_98 : decode (sm_cc 286) 98 = .ok (.aload_n 0, 1) := by decide +kernel
theorem dc_286_99 : decode (sm_cc 286) 99 = .ok (.getfield 187, 3) := by decide +kernel
theorem dc_286_102 : decode (sm_cc 286) 102 = .ok (.ifCond .ne (31), 3) := by decide +kernel
theorem dc_286_105 : decode (sm_cc 286) 105 = .ok (.aload_n 0, 1) := by decide +kernel
theorem dc_286_106 : decode (sm_cc 286) 106 = .ok (.getfield 141, 3) := by decide +kernel
theorem fr_286_141 : sm_at mt_f (sm_ow 286) 141 = some (141, 14, 9, 0, 2082) := by decide +kernel
theorem dc_286_109 : decode (sm_cc 286) 109 = .ok (.aload_n 0, 1) := by decide +kernel
theorem dc_286_110 : decode (sm_cc 286) 110 = .ok (.getfield 190, 3) := by decide +kernel
theorem dc_286_113 : decode (sm_cc 286) 113 = .ok (.iaload, 1) := by decide +kernel
theorem dc_286_114 : decode (sm_cc 286) 114 = .ok (.ifCond .eq (11), 3) := by decide +kernel
theorem dc_286_125 : decode (sm_cc 286) 125 = .ok (.aload_n 0, 1) := by decide +kernel
theorem dc_286_126 : decode (sm_cc 286) 126 = .ok (.invokevirtual 266, 3) := by decide +kernel
theorem kr_286_266 : sm_at mt_k (sm_ow 286) 266 = some (266, 0, 301, 0, 2461) := by decide +kernel
theorem dc_286_129 : decode (sm_cc 286) 129 = .ok (.pop, 1) := by decide +kernel
theorem dc_286_130 : decode (sm_cc 286) 130 = .ok (.goto (-46), 3) := by decide +kernel
theorem dc_286_117 : decode (sm_cc 286) 117 = .ok (.aload_n 0, 1) := by decide +kernel
theorem dc_286_118 : decode (sm_cc 286) 118 = .ok (.invokevirtual 202, 3) := by decide +kernel
theorem kr_286_202 : sm_at mt_k (sm_ow 286) 202 = some (202, 0, 299, 0, 2454) := by decide +kernel
theorem dc_286_121 : decode (sm_cc 286) 121 = .ok (.pop, 1) := by decide +kernel
theorem dc_286_122 : decode (sm_cc 286) 122 = .ok (.goto (-38), 3) := by decide +kernel
theorem dc_286_133 : decode (sm_cc 286) 133 = .ok (.aload_n 0, 1) := by decide +kernel
theorem dc_286_134 : decode (sm_cc 286) 134 = .ok (.bipush (41), 2) := by decide +kernel
theorem dc_286_136 : decode (sm_cc 286) 136 = .ok (.invokevirtual 269, 3) := by decide +kernel
theorem kr_286_269 : sm_at mt_k (sm_ow 286) 269 = some (269, 0, 322, 0, 2547) := by decide +kernel
theorem dc_286_139 : decode (sm_cc 286) 139 = .ok (.aload_n 0, 1) := by decide +kernel
theorem dc_286_140 : decode (sm_cc 286) 140 = .ok (.getfield 187, 3) := by decide +kernel
theorem dc_286_143 : decode (sm_cc 286) 143 = .ok (.ireturn, 1) := by decide +kernel
theorem rt_286 : sm_rt 286 = some .int := by decide +kernel
theorem zCp_1 {d : Nat} {S Sf : cS} {v : Option Value} {lv : sm_L} (q0 : sm_get lv 0 = some (.ref 61)) (hB : ∀ lv1 : sm_L, sm_get lv1 0 = some (.ref 61) → Bod (d + 8) 286 84 lv1 [] (wA 73 0 (nI 0) (wI 6140 (nI 0) (wI 6139 (nI 0) (wI 6137 (nI 0) (wI 6134 (nI 0) (wI 6130 (nI 0) (wI 6127 (nI 0) (wI 6126 (nI 0) (wI 6123 (nI 0) (wI 6122 (nI 0) (wI 6117 (nI 0) (wI 6116 (nI 0) (wI 6115 (nI 0) S))))))))))))) v Sf) : Bod (d + 8) 286 17 lv [] S v Sf := by
  refine Bod.aldnG dc_286_17 (by repeat (first | exact q0 | exact sm_get_p1 | exact sm_get_p2e | refine sm_get_p1m (by decide) (by decide) ?_ | refine sm_get_p1n (by decide) rfl ?_ | refine sm_get_p2n (by decide) (by decide) rfl ?_)) ?_
  refine Bod.ic 0 (by decide) dc_286_18 ?_
  refine Bod.put dc_286_19 fr_286_190 (mk_61 _) (Nat.le_of_ble_eq_true rfl) pf_14_15 (st_6115 _ _) (mu_I _ _ _) ?_
  refine Bod.aldnG dc_286_22 (by repeat (first | exact q0 | exact sm_get_p1 | exact sm_get_p2e | refine sm_get_p1m (by decide) (by decide) ?_ | refine sm_get_p1n (by decide) rfl ?_ | refine sm_get_p2n (by decide) (by decide) rfl ?_)) ?_
  refine Bod.ic 0 (by decide) dc_286_23 ?_
  refine Bod.put dc_286_24 fr_286_187 (mk_61 _) (Nat.le_of_ble_eq_true rfl) pf_14_16 (st_6116 _ _) (mu_I _ _ _) ?_
  refine Bod.aldnG dc_286_27 (by repeat (first | exact q0 | exact sm_get_p1 | exact sm_get_p2e | refine sm_get_p1m (by decide) (by decide) ?_ | refine sm_get_p1n (by decide) rfl ?_ | refine sm_get_p2n (by decide) (by decide) rfl ?_)) ?_
  refine Bod.ic 0 (by decide) dc_286_28 ?_
  refine Bod.put dc_286_29 fr_286_233 (mk_61 _) (Nat.le_of_ble_eq_true rfl) pf_14_17 (st_6117 _ _) (mu_I _ _ _) ?_
  refine Bod.aldnG dc_286_32 (by repeat (first | exact q0 | exact sm_get_p1 | exact sm_get_p2e | refine sm_get_p1m (by decide) (by decide) ?_ | refine sm_get_p1n (by decide) rfl ?_ | refine sm_get_p2n (by decide) (by decide) rfl ?_)) ?_
  refine Bod.ic 0 (by decide) dc_286_33 ?_
  refine Bod.put dc_286_34 fr_286_236 (mk_61 _) (Nat.le_of_ble_eq_true rfl) pf_14_22 (st_6122 _ _) (mu_I _ _ _) ?_
  refine Bod.aldnG dc_286_37 (by repeat (first | exact q0 | exact sm_get_p1 | exact sm_get_p2e | refine sm_get_p1m (by decide) (by decide) ?_ | refine sm_get_p1n (by decide) rfl ?_ | refine sm_get_p2n (by decide) (by decide) rfl ?_)) ?_
  refine Bod.ic 0 (by decide) dc_286_38 ?_
  refine Bod.put dc_286_39 fr_286_239 (mk_61 _) (Nat.le_of_ble_eq_true rfl) pf_14_23 (st_6123 _ _) (mu_I _ _ _) ?_
  refine Bod.aldnG dc_286_42 (by repeat (first | exact q0 | exact sm_get_p1 | exact sm_get_p2e | refine sm_get_p1m (by decide) (by decide) ?_ | refine sm_get_p1n (by decide) rfl ?_ | refine sm_get_p2n (by decide) (by decide) rfl ?_)) ?_
  refine Bod.ic 0 (by decide) dc_286_43 ?_
  refine Bod.put dc_286_44 fr_286_242 (mk_61 _) (Nat.le_of_ble_eq_true rfl) pf_14_26 (st_6126 _ _) (mu_I _ _ _) ?_
  refine Bod.aldnG dc_286_47 (by repeat (first | exact q0 | exact sm_get_p1 | exact sm_get_p2e | refine sm_get_p1m (by decide) (by decide) ?_ | refine sm_get_p1n (by decide) rfl ?_ | refine sm_get_p2n (by decide) (by decide) rfl ?_)) ?_
  refine Bod.ic 0 (by decide) dc_286_48 ?_
  refine Bod.put dc_286_49 fr_286_245 (mk_61 _) (Nat.le_of_ble_eq_true rfl) pf_14_27 (st_6127 _ _) (mu_I _ _ _) ?_
  refine Bod.aldnG dc_286_52 (by repeat (first | exact q0 | exact sm_get_p1 | exact sm_get_p2e | refine sm_get_p1m (by decide) (by decide) ?_ | refine sm_get_p1n (by decide) rfl ?_ | refine sm_get_p2n (by decide) (by decide) rfl ?_)) ?_
  refine Bod.ic 0 (by decide) dc_286_53 ?_
  refine Bod.put dc_286_54 fr_286_248 (mk_61 _) (Nat.le_of_ble_eq_true rfl) pf_14_30 (st_6130 _ _) (mu_I _ _ _) ?_
  refine Bod.aldnG dc_286_57 (by repeat (first | exact q0 | exact sm_get_p1 | exact sm_get_p2e | refine sm_get_p1m (by decide) (by decide) ?_ | refine sm_get_p1n (by decide) rfl ?_ | refine sm_get_p2n (by decide) (by decide) rfl ?_)) ?_
  refine Bod.ic 0 (by decide) dc_286_58 ?_
  refine Bod.put dc_286_59 fr_286_251 (mk_61 _) (Nat.le_of_ble_eq_true rfl) pf_14_34 (st_6134 _ _) (mu_I _ _ _) ?_
  refine Bod.aldnG dc_286_62 (by repeat (first | exact q0 | exact sm_get_p1 | exact sm_get_p2e | refine sm_get_p1m (by decide) (by decide) ?_ | refine sm_get_p1n (by decide) rfl ?_ | refine sm_get_p2n (by decide) (by decide) rfl ?_)) ?_
  refine Bod.ic 0 (by decide) dc_286_63 ?_
  refine Bod.put dc_286_64 fr_286_254 (mk_61 _) (Nat.le_of_ble_eq_true rfl) pf_14_37 (st_6137 _ _) (mu_I _ _ _) ?_
  refine Bod.aldnG dc_286_67 (by repeat (first | exact q0 | exact sm_get_p1 | exact sm_get_p2e | refine sm_get_p1m (by decide) (by decide) ?_ | refine sm_get_p1n (by decide) rfl ?_ | refine sm_get_p2n (by decide) (by decide) rfl ?_)) ?_
  refine Bod.ic 0 (by decide) dc_286_68 ?_
  refine Bod.put dc_286_69 fr_286_257 (mk_61 _) (Nat.le_of_ble_eq_true rfl) pf_14_39 (st_6139 _ _) (mu_I _ _ _) ?_
  refine Bod.aldnG dc_286_72 (by repeat (first | exact q0 | exact sm_get_p1 | exact sm_get_p2e | refine sm_get_p1m (by decide) (by decide) ?_ | refine sm_get_p1n (by decide) rfl ?_ | refine sm_get_p2n (by decide) (by decide) rfl ?_)) ?_
  refine Bod.ic 0 (by decide) dc_286_73 ?_
  refine Bod.put dc_286_74 fr_286_260 (mk_61 _) (Nat.le_of_ble_eq_true rfl) pf_14_40 (st_6140 _ _) (mu_I _ _ _) ?_
  refine Bod.aldnG dc_286_77 (by repeat (first | exact q0 | exact sm_get_p1 | exact sm_get_p2e | refine sm_get_p1m (by decide) (by decide) ?_ | refine sm_get_p1n (by decide) rfl ?_ | refine sm_get_p2n (by decide) (by decide) rfl ?_)) ?_
  refine Bod.get dc_286_78 fr_286_263 (mk_61 _) rfl ?_
  refine Bod.ic 0 (by decide) dc_286_81 ?_
  refine Bod.ic 0 (by decide) dc_286_82 ?_
  refine Bod.iastN 0 rfl (by omega) (by omega) dc_286_83 (mk_73 _) (sa_73 _ _ _) (mu_A _ _ _ _) ?_
  exact hB _ (by repeat (first | exact q0 | exact sm_get_p1 | exact sm_get_p2e | refine sm_get_p1m (by decide) (by decide) ?_ | refine sm_get_p1n (by decide) rfl ?_ | refine sm_get_p2n (by decide) (by decide) rfl ?_))
theorem zCq_1 {d : Nat} {S Sf : cS} {v : Option Value} {lv : sm_L} {k : Nat} {e67 : Nat} (q0 : sm_get lv 0 = some (.ref 61)) (hk : sI S 6115 = nI k) (mk : k < 6001) (he67 : sA S 67 k = nI e67) (me67 : e67 < 2 ^ 20) (b1 : e67 = 7) (hB : ∀ lv1 : sm_L, sm_get lv1 0 = some (.ref 61) → Bod (d + 8) 286 133 lv1 [] (S) v Sf) : Bod (d + 8) 286 84 lv [] S v Sf := by
  refine Bod.aldnG dc_286_84 (by repeat (first | exact q0 | exact sm_get_p1 | exact sm_get_p2e | refine sm_get_p1m (by decide) (by decide) ?_ | refine sm_get_p1n (by decide) rfl ?_ | refine sm_get_p2n (by decide) (by decide) rfl ?_)) ?_
  refine Bod.get dc_286_85 fr_286_129 (mk_61 _) rfl ?_
  refine Bod.aldnG dc_286_88 (by repeat (first | exact q0 | exact sm_get_p1 | exact sm_get_p2e | refine sm_get_p1m (by decide) (by decide) ?_ | refine sm_get_p1n (by decide) rfl ?_ | refine sm_get_p2n (by decide) (by decide) rfl ?_)) ?_
  refine Bod.get dc_286_89 fr_286_190 (mk_61 _) rfl ?_
  refine Bod.eqI (nI k) (by first | assumption | rfl | exact congrArg nI (by omega) | (simp (disch := omega) only [rI, rIe, rA, rIA, rLA, rJA, rVI, rQI, rVA, rQA, upd_at,  rAI, rLI, rJI, nI_add, pk_sub, kc_0, kc_1, kc_2, kc_3, kc_4, kc_5, reduceIte, Nat.reduceEqDiff, Nat.add_zero, rI_hold, rI_hold, rL_hold, hk]; done)) ?_
  refine Bod.ialdN k rfl (by omega) (by omega) dc_286_92 (mk_67 _) ?_
  refine Bod.eqI (nI e67) (by first | assumption | rfl | exact congrArg nI (by omega) | (simp (disch := omega) only [rI, rIe, rA, rIA, rLA, rJA, rVI, rQI, rVA, rQA, upd_at,  rAI, rLI, rJI, nI_add, pk_sub, kc_0, kc_1, kc_2, kc_3, kc_4, kc_5, reduceIte, Nat.reduceEqDiff, Nat.add_zero, rI_hold, rI_hold, rL_hold, hk, he67]; done)) ?_
  refine Bod.bip 7 (by decide) dc_286_93 ?_
  refine Bod.icT dc_286_95 rfl (k2_eq_T (k_eq e67 7 rfl rfl (by omega))) ?_
  exact hB _ (by repeat (first | exact q0 | exact sm_get_p1 | exact sm_get_p2e | refine sm_get_p1m (by decide) (by decide) ?_ | refine sm_get_p1n (by decide) rfl ?_ | refine sm_get_p2n (by decide) (by decide) rfl ?_))
theorem zCq_2 {d : Nat} {S Sf : cS} {v : Option Value} {lv : sm_L} {k : Nat} {e67 : Nat} {ft : Nat} (q0 : sm_get lv 0 = some (.ref 61)) (hk : sI S 6115 = nI k) (mk : k < 6001) (he67 : sA S 67 k = nI e67) (me67 : e67 < 2 ^ 20) (b1 : e67 ≠ 7) (hft : sI S 6116 = nI ft) (mft : ft < 2 ^ 20) (b2 : ft ≠ 0) (hB : ∀ lv1 : sm_L, sm_get lv1 0 = some (.ref 61) → Bod (d + 8) 286 133 lv1 [] (S) v Sf) : Bod (d + 8) 286 84 lv [] S v Sf := by
  refine Bod.aldnG dc_286_84 (by repeat (first | exact q0 | exact sm_get_p1 | exact sm_get_p2e | refine sm_get_p1m (by decide) (by decide) ?_ | refine sm_get_p1n (by decide) rfl ?_ | refine sm_get_p2n (by decide) (by decide) rfl ?_)) ?_
  refine Bod.get dc_286_85 fr_286_129 (mk_61 _) rfl ?_
  refine Bod.aldnG dc_286_88 (by repeat (first | exact q0 | exact sm_get_p1 | exact sm_get_p2e | refine sm_get_p1m (by decide) (by decide) ?_ | refine sm_get_p1n (by decide) rfl ?_ | refine sm_get_p2n (by decide) (by decide) rfl ?_)) ?_
  refine Bod.get dc_286_89 fr_286_190 (mk_61 _) rfl ?_
  refine Bod.eqI (nI k) (by first | assumption | rfl | exact congrArg nI (by omega) | (simp (disch := omega) only [rI, rIe, rA, rIA, rLA, rJA, rVI, rQI, rVA, rQA, upd_at,  rAI, rLI, rJI, nI_add, pk_sub, kc_0, kc_1, kc_2, kc_3, kc_4, kc_5, reduceIte, Nat.reduceEqDiff, Nat.add_zero, rI_hold, rI_hold, rL_hold, hk]; done)) ?_
  refine Bod.ialdN k rfl (by omega) (by omega) dc_286_92 (mk_67 _) ?_
  refine Bod.eqI (nI e67) (by first | assumption | rfl | exact congrArg nI (by omega) | (simp (disch := omega) only [rI, rIe, rA, rIA, rLA, rJA, rVI, rQI, rVA, rQA, upd_at,  rAI, rLI, rJI, nI_add, pk_sub, kc_0, kc_1, kc_2, kc_3, kc_4, kc_5, reduceIte, Nat.reduceEqDiff, Nat.add_zero, rI_hold, rI_hold, rL_hold, hk, he67]; done)) ?_
  refine Bod.bip 7 (by decide) dc_286_93 ?_
  refine Bod.icF dc_286_95 rfl (k2_eq_F (k_ne e67 7 rfl rfl (by omega) (by omega) (by omega))) ?_
  refine Bod.aldnG dc_286_98 (by repeat (first | exact q0 | exact sm_get_p1 | exact sm_get_p2e | refine sm_get_p1m (by decide) (by decide) ?_ | refine sm_get_p1n (by decide) rfl ?_ | refine sm_get_p2n (by decide) (by decide) rfl ?_)) ?_
  refine Bod.get dc_286_99 fr_286_187 (mk_61 _) rfl ?_
  refine Bod.eqI (nI ft) (by first | assumption | rfl | exact congrArg nI (by omega) | (simp (disch := omega) only [rI, rIe, rA, rIA, rLA, rJA, rVI, rQI, rVA, rQA, upd_at,  rAI, rLI, rJI, nI_add, pk_sub, kc_0, kc_1, kc_2, kc_3, kc_4, kc_5, reduceIte, Nat.reduceEqDiff, Nat.add_zero, rI_hold, rI_hold, rL_hold, hk, he67, hft]; done)) ?_
  refine Bod.ifT dc_286_102 rfl (k1_ne_T (k_ne ft 0 rfl rfl (by omega) (by omega) (by omega))) ?_
  exact hB _ (by repeat (first | exact q0 | exact sm_get_p1 | exact sm_get_p2e | refine sm_get_p1m (by decide) (by decide) ?_ | refine sm_get_p1n (by decide) rfl ?_ | refine sm_get_p2n (by decide) (by decide) rfl ?_))
theorem zCq_3 {d : Nat} {S Sf : cS} {v : Option Value} {lv : sm_L} {k : Nat} {e67 : Nat} {ft : Nat} {e70 : Nat} {S1 : cS} (q0 : sm_get lv 0 = some (.ref 61)) (hk : sI S 6115 = nI k) (mk : k < 6001) (he67 : sA S 67 k = nI e67) (me67 : e67 < 2 ^ 20) (b1 : e67 ≠ 7) (hft : sI S 6116 = nI ft) (mft : ft < 2 ^ 20) (b2 : ft = 0) (he70 : sA S 70 k = nI e70) (me70 : e70 < 2 ^ 20) (b3 : e70 = 0) (c1 : Ans (d + 8) 301 [.ref 61] S (some (.int (nI 1))) S1) (hB : ∀ lv1 : sm_L, sm_get lv1 0 = some (.ref 61) → Bod (d + 8) 286 84 lv1 [] (S1) v Sf) : Bod (d + 8) 286 84 lv [] S v Sf := by
  refine Bod.aldnG dc_286_84 (by repeat (first | exact q0 | exact sm_get_p1 | exact sm_get_p2e | refine sm_get_p1m (by decide) (by decide) ?_ | refine sm_get_p1n (by decide) rfl ?_ | refine sm_get_p2n (by decide) (by decide) rfl ?_)) ?_
  refine Bod.get dc_286_85 fr_286_129 (mk_61 _) rfl ?_
  refine Bod.aldnG dc_286_88 (by repeat (first | exact q0 | exact sm_get_p1 | exact sm_get_p2e | refine sm_get_p1m (by decide) (by decide) ?_ | refine sm_get_p1n (by decide) rfl ?_ | refine sm_get_p2n (by decide) (by decide) rfl ?_)) ?_
  refine Bod.get dc_286_89 fr_286_190 (mk_61 _) rfl ?_
  refine Bod.eqI (nI k) (by first | assumption | rfl | exact congrArg nI (by omega) | (simp (disch := omega) only [rI, rIe, rA, rIA, rLA, rJA, rVI, rQI, rVA, rQA, upd_at,  rAI, rLI, rJI, nI_add, pk_sub, kc_0, kc_1, kc_2, kc_3, kc_4, kc_5, reduceIte, Nat.reduceEqDiff, Nat.add_zero, rI_hold, rI_hold, rL_hold, hk]; done)) ?_
  refine Bod.ialdN k rfl (by omega) (by omega) dc_286_92 (mk_67 _) ?_
  refine Bod.eqI (nI e67) (by first | assumption | rfl | exact congrArg nI (by omega) | (simp (disch := omega) only [rI, rIe, rA, rIA, rLA, rJA, rVI, rQI, rVA, rQA, upd_at,  rAI, rLI, rJI, nI_add, pk_sub, kc_0, kc_1, kc_2, kc_3, kc_4, kc_5, reduceIte, Nat.reduceEqDiff, Nat.add_zero, rI_hold, rI_hold, rL_hold, hk, he67]; done)) ?_
  refine Bod.bip 7 (by decide) dc_286_93 ?_
  refine Bod.icF dc_286_95 rfl (k2_eq_F (k_ne e67 7 rfl rfl (by omega) (by omega) (by omega))) ?_
  refine Bod.aldnG dc_286_98 (by repeat (first | exact q0 | exact sm_get_p1 | exact sm_get_p2e | refine sm_get_p1m (by decide) (by decide) ?_ | refine sm_get_p1n (by decide) rfl ?_ | refine sm_get_p2n (by decide) (by decide) rfl ?_)) ?_
  refine Bod.get dc_286_99 fr_286_187 (mk_61 _) rfl ?_
  refine Bod.eqI (nI ft) (by first | assumption | rfl | exact congrArg nI (by omega) | (simp (disch := omega) only [rI, rIe, rA, rIA, rLA, rJA, rVI, rQI, rVA, rQA, upd_at,  rAI, rLI, rJI, nI_add, pk_sub, kc_0, kc_1, kc_2, kc_3, kc_4, kc_5, reduceIte, Nat.reduceEqDiff, Nat.add_zero, rI_hold, rI_hold, rL_hold, hk, he67, hft]; done)) ?_
  refine Bod.ifF dc_286_102 rfl (k1_ne_F (k_eq ft 0 rfl rfl (by omega))) ?_
  refine Bod.aldnG dc_286_105 (by repeat (first | exact q0 | exact sm_get_p1 | exact sm_get_p2e | refine sm_get_p1m (by decide) (by decide) ?_ | refine sm_get_p1n (by decide) rfl ?_ | refine sm_get_p2n (by decide) (by decide) rfl ?_)) ?_
  refine Bod.get dc_286_106 fr_286_141 (mk_61 _) rfl ?_
  refine Bod.aldnG dc_286_109 (by repeat (first | exact q0 | exact sm_get_p1 | exact sm_get_p2e | refine sm_get_p1m (by decide) (by decide) ?_ | refine sm_get_p1n (by decide) rfl ?_ | refine sm_get_p2n (by decide) (by decide) rfl ?_)) ?_
  refine Bod.get dc_286_110 fr_286_190 (mk_61 _) rfl ?_
  refine Bod.eqI (nI k) (by first | assumption | rfl | exact congrArg nI (by omega) | (simp (disch := omega) only [rI, rIe, rA, rIA, rLA, rJA, rVI, rQI, rVA, rQA, upd_at,  rAI, rLI, rJI, nI_add, pk_sub, kc_0, kc_1, kc_2, kc_3, kc_4, kc_5, reduceIte, Nat.reduceEqDiff, Nat.add_zero, rI_hold, rI_hold, rL_hold, hk, he67, hft]; done)) ?_
  refine Bod.ialdN k rfl (by omega) (by omega) dc_286_113 (mk_70 _) ?_
  refine Bod.eqI (nI e70) (by first | assumption | rfl | exact congrArg nI (by omega) | (simp (disch := omega) only [rI, rIe, rA, rIA, rLA, rJA, rVI, rQI, rVA, rQA, upd_at,  rAI, rLI, rJI, nI_add, pk_sub, kc_0, kc_1, kc_2, kc_3, kc_4, kc_5, reduceIte, Nat.reduceEqDiff, Nat.add_zero, rI_hold, rI_hold, rL_hold, hk, he67, hft, he70]; done)) ?_
  refine Bod.ifT dc_286_114 rfl (k1_eq_T (k_eq e70 0 rfl rfl (by omega))) ?_
  refine Bod.aldnG dc_286_125 (by repeat (first | exact q0 | exact sm_get_p1 | exact sm_get_p2e | refine sm_get_p1m (by decide) (by decide) ?_ | refine sm_get_p1n (by decide) rfl ?_ | refine sm_get_p2n (by decide) (by decide) rfl ?_)) ?_
  refine Bod.virt (r := []) dc_286_126 kr_286_266 ⟨Or.inl rfl, ow_301, cl_14⟩ (by rw [np_301]; rfl) (by rw [np_301]; rfl) (ob_of (mk_61 _)) (Nat.le_of_ble_eq_true rfl) (c1  ) ?_
  show Bod _ _ _ _ [_] _ _ _
  refine Bod.go dc_286_129 rfl ?_
  refine Bod.go dc_286_130 rfl ?_
  exact hB _ (by repeat (first | exact q0 | exact sm_get_p1 | exact sm_get_p2e | refine sm_get_p1m (by decide) (by decide) ?_ | refine sm_get_p1n (by decide) rfl ?_ | refine sm_get_p2n (by decide) (by decide) rfl ?_))
theorem zCq_4 {d : Nat} {S Sf : cS} {v : Option Value} {lv : sm_L} {k : Nat} {e67 : Nat} {ft : Nat} {e70 : Nat} {S1 : cS} (q0 : sm_get lv 0 = some (.ref 61)) (hk : sI S 6115 = nI k) (mk : k < 6001) (he67 : sA S 67 k = nI e67) (me67 : e67 < 2 ^ 20) (b1 : e67 ≠ 7) (hft : sI S 6116 = nI ft) (mft : ft < 2 ^ 20) (b2 : ft = 0) (he70 : sA S 70 k = nI e70) (me70 : e70 < 2 ^ 20) (b3 : e70 = 0) (c1 : Ans (d + 8) 301 [.ref 61] S (some (.int (nI 0))) S1) (hB : ∀ lv1 : sm_L, sm_get lv1 0 = some (.ref 61) → Bod (d + 8) 286 84 lv1 [] (S1) v Sf) : Bod (d + 8) 286 84 lv [] S v Sf := by
  refine Bod.aldnG dc_286_84 (by repeat (first | exact q0 | exact sm_get_p1 | exact sm_get_p2e | refine sm_get_p1m (by decide) (by decide) ?_ | refine sm_get_p1n (by decide) rfl ?_ | refine sm_get_p2n (by decide) (by decide) rfl ?_)) ?_
  refine Bod.get dc_286_85 fr_286_129 (mk_61 _) rfl ?_
  refine Bod.aldnG dc_286_88 (by repeat (first | exact q0 | exact sm_get_p1 | exact sm_get_p2e | refine sm_get_p1m (by decide) (by decide) ?_ | refine sm_get_p1n (by decide) rfl ?_ | refine sm_get_p2n (by decide) (by decide) rfl ?_)) ?_
  refine Bod.get dc_286_89 fr_286_190 (mk_61 _) rfl ?_
  refine Bod.eqI (nI k) (by first | assumption | rfl | exact congrArg nI (by omega) | (simp (disch := omega) only [rI, rIe, rA, rIA, rLA, rJA, rVI, rQI, rVA, rQA, upd_at,  rAI, rLI, rJI, nI_add, pk_sub, kc_0, kc_1, kc_2, kc_3, kc_4, kc_5, reduceIte, Nat.reduceEqDiff, Nat.add_zero, rI_hold, rI_hold, rL_hold, hk]; done)) ?_
  refine Bod.ialdN k rfl (by omega) (by omega) dc_286_92 (mk_67 _) ?_
  refine Bod.eqI (nI e67) (by first | assumption | rfl | exact congrArg nI (by omega) | (simp (disch := omega) only [rI, rIe, rA, rIA, rLA, rJA, rVI, rQI, rVA, rQA, upd_at,  rAI, rLI, rJI, nI_add, pk_sub, kc_0, kc_1, kc_2, kc_3, kc_4, kc_5, reduceIte, Nat.reduceEqDiff, Nat.add_zero, rI_hold, rI_hold, rL_hold, hk, he67]; done)) ?_
  refine Bod.bip 7 (by decide) dc_286_93 ?_
  refine Bod.icF dc_286_95 rfl (k2_eq_F (k_ne e67 7 rfl rfl (by omega) (by omega) (by omega))) ?_
  refine Bod.aldnG dc_286_98 (by repeat (first | exact q0 | exact sm_get_p1 | exact sm_get_p2e | refine sm_get_p1m (by decide) (by decide) ?_ | refine sm_get_p1n (by decide) rfl ?_ | refine sm_get_p2n (by decide) (by decide) rfl ?_)) ?_
  refine Bod.get dc_286_99 fr_286_187 (mk_61 _) rfl ?_
  refine Bod.eqI (nI ft) (by first | assumption | rfl | exact congrArg nI (by omega) | (simp (disch := omega) only [rI, rIe, rA, rIA, rLA, rJA, rVI, rQI, rVA, rQA, upd_at,  rAI, rLI, rJI, nI_add, pk_sub, kc_0, kc_1, kc_2, kc_3, kc_4, kc_5, reduceIte, Nat.reduceEqDiff, Nat.add_zero, rI_hold, rI_hold, rL_hold, hk, he67, hft]; done)) ?_
  refine Bod.ifF dc_286_102 rfl (k1_ne_F (k_eq ft 0 rfl rfl (by omega))) ?_
  refine Bod.aldnG dc_286_105 (by repeat (first | exact q0 | exact sm_get_p1 | exact sm_get_p2e | refine sm_get_p1m (by decide) (by decide) ?_ | refine sm_get_p1n (by decide) rfl ?_ | refine sm_get_p2n (by decide) (by decide) rfl ?_)) ?_
  refine Bod.get dc_286_106 fr_286_141 (mk_61 _) rfl ?_
  refine Bod.aldnG dc_286_109 (by repeat (first | exact q0 | exact sm_get_p1 | exact sm_get_p2e | refine sm_get_p1m (by decide) (by decide) ?_ | refine sm_get_p1n (by decide) rfl ?_ | refine sm_get_p2n (by decide) (by decide) rfl ?_)) ?_
  refine Bod.get dc_286_110 fr_286_190 (mk_61 _) rfl ?_
  refine Bod.eqI (nI k) (by first | assumption | rfl | exact congrArg nI (by omega) | (simp (disch := omega) only [rI, rIe, rA, rIA, rLA, rJA, rVI, rQI, rVA, rQA, upd_at,  rAI, rLI, rJI, nI_add, pk_sub, kc_0, kc_1, kc_2, kc_3, kc_4, kc_5, reduceIte, Nat.reduceEqDiff, Nat.add_zero, rI_hold, rI_hold, rL_hold, hk, he67, hft]; done)) ?_
  refine Bod.ialdN k rfl (by omega) (by omega) dc_286_113 (mk_70 _) ?_
  refine Bod.eqI (nI e70) (by first | assumption | rfl | exact congrArg nI (by omega) | (simp (disch := omega) only [rI, rIe, rA, rIA, rLA, rJA, rVI, rQI, rVA, rQA, upd_at,  rAI, rLI, rJI, nI_add, pk_sub, kc_0, kc_1, kc_2, kc_3, kc_4, kc_5, reduceIte, Nat.reduceEqDiff, Nat.add_zero, rI_hold, rI_hold, rL_hold, hk, he67, hft, he70]; done)) ?_
  refine Bod.ifT dc_286_114 rfl (k1_eq_T (k_eq e70 0 rfl rfl (by omega))) ?_
  refine Bod.aldnG dc_286_125 (by repeat (first | exact q0 | exact sm_get_p1 | exact sm_get_p2e | refine sm_get_p1m (by decide) (by decide) ?_ | refine sm_get_p1n (by decide) rfl ?_ | refine sm_get_p2n (by decide) (by decide) rfl ?_)) ?_
  refine Bod.virt (r := []) dc_286_126 kr_286_266 ⟨Or.inl rfl, ow_301, cl_14⟩ (by rw [np_301]; rfl) (by rw [np_301]; rfl) (ob_of (mk_61 _)) (Nat.le_of_ble_eq_true rfl) (c1  ) ?_
  show Bod _ _ _ _ [_] _ _ _
  refine Bod.go dc_286_129 rfl ?_
  refine Bod.go dc_286_130 rfl ?_
  exact hB _ (by repeat (first | exact q0 | exact sm_get_p1 | exact sm_get_p2e | refine sm_get_p1m (by decide) (by decide) ?_ | refine sm_get_p1n (by decide) rfl ?_ | refine sm_get_p2n (by decide) (by decide) rfl ?_))
theorem zCq_5 {d : Nat} {S Sf : cS} {v : Option Value} {lv : sm_L} {k : Nat} {e67 : Nat} {ft : Nat} {e70 : Nat} {S1 : cS} (q0 : sm_get lv 0 = some (.ref 61)) (hk : sI S 6115 = nI k) (mk : k < 6001) (he67 : sA S 67 k = nI e67) (me67 : e67 < 2 ^ 20) (b1 : e67 ≠ 7) (hft : sI S 6116 = nI ft) (mft : ft < 2 ^ 20) (b2 : ft = 0) (he70 : sA S 70 k = nI e70) (me70 : e70 < 2 ^ 20) (b3 : e70 ≠ 0) (c1 : Ans (d + 8) 299 [.ref 61] S (some (.int (nI 1))) S1) (hB : ∀ lv1 : sm_L, sm_get lv1 0 = some (.ref 61) → Bod (d + 8) 286 84 lv1 [] (S1) v Sf) : Bod (d + 8) 286 84 lv [] S v Sf := by
  refine Bod.aldnG dc_286_84 (by repeat (first | exact q0 | exact sm_get_p1 | exact sm_get_p2e | refine sm_get_p1m (by decide) (by decide) ?_ | refine sm_get_p1n (by decide) rfl ?_ | refine sm_get_p2n (by decide) (by decide) rfl ?_)) ?_
  refine Bod.get dc_286_85 fr_286_129 (mk_61 _) rfl ?_
  refine Bod.aldnG dc_286_88 (by repeat (first | exact q0 | exact sm_get_p1 | exact sm_get_p2e | refine sm_get_p1m (by decide) (by decide) ?_ | refine sm_get_p1n (by decide) rfl ?_ | refine sm_get_p2n (by decide) (by decide) rfl ?_)) ?_
  refine Bod.get dc_286_89 fr_286_190 (mk_61 _) rfl ?_
  refine Bod.eqI (nI k) (by first | assumption | rfl | exact congrArg nI (by omega) | (simp (disch := omega) only [rI, rIe, rA, rIA, rLA, rJA, rVI, rQI, rVA, rQA, upd_at,  rAI, rLI, rJI, nI_add, pk_sub, kc_0, kc_1, kc_2, kc_3, kc_4, kc_5, reduceIte, Nat.reduceEqDiff, Nat.add_zero, rI_hold, rI_hold, rL_hold, hk]; done)) ?_
  refine Bod.ialdN k rfl (by omega) (by omega) dc_286_92 (mk_67 _) ?_
  refine Bod.eqI (nI e67) (by first | assumption | rfl | exact congrArg nI (by omega) | (simp (disch := omega) only [rI, rIe, rA, rIA, rLA, rJA, rVI, rQI, rVA, rQA, upd_at,  rAI, rLI, rJI, nI_add, pk_sub, kc_0, kc_1, kc_2, kc_3, kc_4, kc_5, reduceIte, Nat.reduceEqDiff, Nat.add_zero, rI_hold, rI_hold, rL_hold, hk, he67]; done)) ?_
  refine Bod.bip 7 (by decide) dc_286_93 ?_
  refine Bod.icF dc_286_95 rfl (k2_eq_F (k_ne e67 7 rfl rfl (by omega) (by omega) (by omega))) ?_
  refine Bod.aldnG dc_286_98 (by repeat (first | exact q0 | exact sm_get_p1 | exact sm_get_p2e | refine sm_get_p1m (by decide) (by decide) ?_ | refine sm_get_p1n (by decide) rfl ?_ | refine sm_get_p2n (by decide) (by decide) rfl ?_)) ?_
  refine Bod.get dc_286_99 fr_286_187 (mk_61 _) rfl ?_
  refine Bod.eqI (nI ft) (by first | assumption | rfl | exact congrArg nI (by omega) | (simp (disch := omega) only [rI, rIe, rA, rIA, rLA, rJA, rVI, rQI, rVA, rQA, upd_at,  rAI, rLI, rJI, nI_add, pk_sub, kc_0, kc_1, kc_2, kc_3, kc_4, kc_5, reduceIte, Nat.reduceEqDiff, Nat.add_zero, rI_hold, rI_hold, rL_hold, hk, he67, hft]; done)) ?_
  refine Bod.ifF dc_286_102 rfl (k1_ne_F (k_eq ft 0 rfl rfl (by omega))) ?_
  refine Bod.aldnG dc_286_105 (by repeat (first | exact q0 | exact sm_get_p1 | exact sm_get_p2e | refine sm_get_p1m (by decide) (by decide) ?_ | refine sm_get_p1n (by decide) rfl ?_ | refine sm_get_p2n (by decide) (by decide) rfl ?_)) ?_
  refine Bod.get dc_286_106 fr_286_141 (mk_61 _) rfl ?_
  refine Bod.aldnG dc_286_109 (by repeat (first | exact q0 | exact sm_get_p1 | exact sm_get_p2e | refine sm_get_p1m (by decide) (by decide) ?_ | refine sm_get_p1n (by decide) rfl ?_ | refine sm_get_p2n (by decide) (by decide) rfl ?_)) ?_
  refine Bod.get dc_286_110 fr_286_190 (mk_61 _) rfl ?_
  refine Bod.eqI (nI k) (by first | assumption | rfl | exact congrArg nI (by omega) | (simp (disch := omega) only [rI, rIe, rA, rIA, rLA, rJA, rVI, rQI, rVA, rQA, upd_at,  rAI, rLI, rJI, nI_add, pk_sub, kc_0, kc_1, kc_2, kc_3, kc_4, kc_5, reduceIte, Nat.reduceEqDiff, Nat.add_zero, rI_hold, rI_hold, rL_hold, hk, he67, hft]; done)) ?_
  refine Bod.ialdN k rfl (by omega) (by omega) dc_286_113 (mk_70 _) ?_
  refine Bod.eqI (nI e70) (by first | assumption | rfl | exact congrArg nI (by omega) | (simp (disch := omega) only [rI, rIe, rA, rIA, rLA, rJA, rVI, rQI, rVA, rQA, upd_at,  rAI, rLI, rJI, nI_add, pk_sub, kc_0, kc_1, kc_2, kc_3, kc_4, kc_5, reduceIte, Nat.reduceEqDiff, Nat.add_zero, rI_hold, rI_hold, rL_hold, hk, he67, hft, he70]; done)) ?_
  refine Bod.ifF dc_286_114 rfl (k1_eq_F (k_ne e70 0 rfl rfl (by omega) (by omega) (by omega))) ?_
  refine Bod.aldnG dc_286_117 (by repeat (first | exact q0 | exact sm_get_p1 | exact sm_get_p2e | refine sm_get_p1m (by decide) (by decide) ?_ | refine sm_get_p1n (by decide) rfl ?_ | refine sm_get_p2n (by decide) (by decide) rfl ?_)) ?_
  refine Bod.virt (r := []) dc_286_118 kr_286_202 ⟨Or.inl rfl, ow_299, cl_14⟩ (by rw [np_299]; rfl) (by rw [np_299]; rfl) (ob_of (mk_61 _)) (Nat.le_of_ble_eq_true rfl) (c1  ) ?_
  show Bod _ _ _ _ [_] _ _ _
  refine Bod.go dc_286_121 rfl ?_
  refine Bod.go dc_286_122 rfl ?_
  exact hB _ (by repeat (first | exact q0 | exact sm_get_p1 | exact sm_get_p2e | refine sm_get_p1m (by decide) (by decide) ?_ | refine sm_get_p1n (by decide) rfl ?_ | refine sm_get_p2n (by decide) (by decide) rfl ?_))
theorem zCq_6 {d : Nat} {S Sf : cS} {v : Option Value} {lv : sm_L} {k : Nat} {e67 : Nat} {ft : Nat} {e70 : Nat} {S1 : cS} (q0 : sm_get lv 0 = some (.ref 61)) (hk : sI S 6115 = nI k) (mk : k < 6001) (he67 : sA S 67 k = nI e67) (me67 : e67 < 2 ^ 20) (b1 : e67 ≠ 7) (hft : sI S 6116 = nI ft) (mft : ft < 2 ^ 20) (b2 : ft = 0) (he70 : sA S 70 k = nI e70) (me70 : e70 < 2 ^ 20) (b3 : e70 ≠ 0) (c1 : Ans (d + 8) 299 [.ref 61] S (some (.int (nI 0))) S1) (hB : ∀ lv1 : sm_L, sm_get lv1 0 = some (.ref 61) → Bod (d + 8) 286 84 lv1 [] (S1) v Sf) : Bod (d + 8) 286 84 lv [] S v Sf := by
  refine Bod.aldnG dc_286_84 (by repeat (first | exact q0 | exact sm_get_p1 | exact sm_get_p2e | refine sm_get_p1m (by decide) (by decide) ?_ | refine sm_get_p1n (by decide) rfl ?_ | refine sm_get_p2n (by decide) (by decide) rfl ?_)) ?_
  refine Bod.get dc_286_85 fr_286_129 (mk_61 _) rfl ?_
  refine Bod.aldnG dc_286_88 (by repeat (first | exact q0 | exact sm_get_p1 | exact sm_get_p2e | refine sm_get_p1m (by decide) (by decide) ?_ | refine sm_get_p1n (by decide) rfl ?_ | refine sm_get_p2n (by decide) (by decide) rfl ?_)) ?_
  refine Bod.get dc_286_89 fr_286_190 (mk_61 _) rfl ?_
  refine Bod.eqI (nI k) (by first | assumption | rfl | exact congrArg nI (by omega) | (simp (disch := omega) only [rI, rIe, rA, rIA, rLA, rJA, rVI, rQI, rVA, rQA, upd_at,  rAI, rLI, rJI, nI_add, pk_sub, kc_0, kc_1, kc_2, kc_3, kc_4, kc_5, reduceIte, Nat.reduceEqDiff, Nat.add_zero, rI_hold, rI_hold, rL_hold, hk]; done)) ?_
  refine Bod.ialdN k rfl (by omega) (by omega) dc_286_92 (mk_67 _) ?_
  refine Bod.eqI (nI e67) (by first | assumption | rfl | exact congrArg nI (by omega) | (simp (disch := omega) only [rI, rIe, rA, rIA, rLA, rJA, rVI, rQI, rVA, rQA, upd_at,  rAI, rLI, rJI, nI_add, pk_sub, kc_0, kc_1, kc_2, kc_3, kc_4, kc_5, reduceIte, Nat.reduceEqDiff, Nat.add_zero, rI_hold, rI_hold, rL_hold, hk, he67]; done)) ?_
  refine Bod.bip 7 (by decide) dc_286_93 ?_
  refine Bod.icF dc_286_95 rfl (k2_eq_F (k_ne e67 7 rfl rfl (by omega) (by omega) (by omega))) ?_
  refine Bod.aldnG dc_286_98 (by repeat (first | exact q0 | exact sm_get_p1 | exact sm_get_p2e | refine sm_get_p1m (by decide) (by decide) ?_ | refine sm_get_p1n (by decide) rfl ?_ | refine sm_get_p2n (by decide) (by decide) rfl ?_)) ?_
  refine Bod.get dc_286_99 fr_286_187 (mk_61 _) rfl ?_
  refine Bod.eqI (nI ft) (by first | assumption | rfl | exact congrArg nI (by omega) | (simp (disch := omega) only [rI, rIe, rA, rIA, rLA, rJA, rVI, rQI, rVA, rQA, upd_at,  rAI, rLI, rJI, nI_add, pk_sub, kc_0, kc_1, kc_2, kc_3, kc_4, kc_5, reduceIte, Nat.reduceEqDiff, Nat.add_zero, rI_hold, rI_hold, rL_hold, hk, he67, hft]; done)) ?_
  refine Bod.ifF dc_286_102 rfl (k1_ne_F (k_eq ft 0 rfl rfl (by omega))) ?_
  refine Bod.aldnG dc_286_105 (by repeat (first | exact q0 | exact sm_get_p1 | exact sm_get_p2e | refine sm_get_p1m (by decide) (by decide) ?_ | refine sm_get_p1n (by decide) rfl ?_ | refine sm_get_p2n (by decide) (by decide) rfl ?_)) ?_
  refine Bod.get dc_286_106 fr_286_141 (mk_61 _) rfl ?_
  refine Bod.aldnG dc_286_109 (by repeat (first | exact q0 | exact sm_get_p1 | exact sm_get_p2e | refine sm_get_p1m (by decide) (by decide) ?_ | refine sm_get_p1n (by decide) rfl ?_ | refine sm_get_p2n (by decide) (by decide) rfl ?_)) ?_
  refine Bod.get dc_286_110 fr_286_190 (mk_61 _) rfl ?_
  refine Bod.eqI (nI k) (by first | assumption | rfl | exact congrArg nI (by omega) | (simp (disch := omega) only [rI, rIe, rA, rIA, rLA, rJA, rVI, rQI, rVA, rQA, upd_at,  rAI, rLI, rJI, nI_add, pk_sub, kc_0, kc_1, kc_2, kc_3, kc_4, kc_5, reduceIte, Nat.reduceEqDiff, Nat.add_zero, rI_hold, rI_hold, rL_hold, hk, he67, hft]; done)) ?_
  refine Bod.ialdN k rfl (by omega) (by omega) dc_286_113 (mk_70 _) ?_
  refine Bod.eqI (nI e70) (by first | assumption | rfl | exact congrArg nI (by omega) | (simp (disch := omega) only [rI, rIe, rA, rIA, rLA, rJA, rVI, rQI, rVA, rQA, upd_at,  rAI, rLI, rJI, nI_add, pk_sub, kc_0, kc_1, kc_2, kc_3, kc_4, kc_5, reduceIte, Nat.reduceEqDiff, Nat.add_zero, rI_hold, rI_hold, rL_hold, hk, he67, hft, he70]; done)) ?_
  refine Bod.ifF dc_286_114 rfl (k1_eq_F (k_ne e70 0 rfl rfl (by omega) (by omega) (by omega))) ?_
  refine Bod.aldnG dc_286_117 (by repeat (first | exact q0 | exact sm_get_p1 | exact sm_get_p2e | refine sm_get_p1m (by decide) (by decide) ?_ | refine sm_get_p1n (by decide) rfl ?_ | refine sm_get_p2n (by decide) (by decide) rfl ?_)) ?_
  refine Bod.virt (r := []) dc_286_118 kr_286_202 ⟨Or.inl rfl, ow_299, cl_14⟩ (by rw [np_299]; rfl) (by rw [np_299]; rfl) (ob_of (mk_61 _)) (Nat.le_of_ble_eq_true rfl) (c1  ) ?_
  show Bod _ _ _ _ [_] _ _ _
  refine Bod.go dc_286_121 rfl ?_
  refine Bod.go dc_286_122 rfl ?_
  exact hB _ (by repeat (first | exact q0 | exact sm_get_p1 | exact sm_get_p2e | refine sm_get_p1m (by decide) (by decide) ?_ | refine sm_get_p1n (by decide) rfl ?_ | refine sm_get_p2n (by decide) (by decide) rfl ?_))
theorem zCr_1 {d : Nat} {S : cS} {lv : sm_L} {S1 : cS} {ft : Nat} (q0 : sm_get lv 0 = some (.ref 61)) (c1 : Ans (d + 8) 322 [.ref 61, .int (nI 41)] S none S1) (hft : sI S1 6116 = nI ft) (mft : ft < 2 ^ 20) : Bod (d + 8) 286 133 lv [] S (some (.int (nI ft))) (S1) := by
  refine Bod.aldnG dc_286_133 (by repeat (first | exact q0 | exact sm_get_p1 | exact sm_get_p2e | refine sm_get_p1m (by decide) (by decide) ?_ | refine sm_get_p1n (by decide) rfl ?_ | refine sm_get_p2n (by decide) (by decide) rfl ?_)) ?_
  refine Bod.bip 41 (by decide) dc_286_134 ?_
  refine Bod.virt (r := []) dc_286_136 kr_286_269 ⟨Or.inl rfl, ow_322, cl_14⟩ (by rw [np_322]; rfl) (by rw [np_322]; rfl) (ob_of (mk_61 _)) (Nat.le_of_ble_eq_true rfl) (c1  ) ?_
  show Bod _ _ _ _ [] _ _ _
  refine Bod.aldnG dc_286_139 (by repeat (first | exact q0 | exact sm_get_p1 | exact sm_get_p2e | refine sm_get_p1m (by decide) (by decide) ?_ | refine sm_get_p1n (by decide) rfl ?_ | refine sm_get_p2n (by decide) (by decide) rfl ?_)) ?_
  refine Bod.get dc_286_140 fr_286_187 (mk_61 _) rfl ?_
  refine Bod.eqI (nI ft) (by first | (simp (disch := omega) only [rI, rIe, rA, rIA, rLA, rJA, rVI, rQI, rVA, rQA, upd_at,  rAI, rLI, rJI, nI_add, pk_sub, kc_0, kc_1, kc_2, kc_3, kc_4, kc_5, reduceIte, Nat.reduceEqDiff, Nat.add_zero, rI_hold, rI_hold, rL_hold, hft]; done) | (simp (disch := omega) only [rI, rIe, rA, rIA, rLA, rJA, rVI, rQI, rVA, rQA, upd_at,  rAI, rLI, rJI, nI_add, pk_sub, kc_0, kc_1, kc_2, kc_3, kc_4, kc_5, reduceIte, Nat.reduceEqDiff, Nat.add_zero, rI_hold, rI_hold, rL_hold, hft]; exact congrArg nI (by omega))) ?_
  exact Bod.retI dc_286_143 rt_286
