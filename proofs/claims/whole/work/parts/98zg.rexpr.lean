/-! SIGNS AHEAD, what is behind a value, in the reference: ways -/
theorem dc_308_0 : decode (sm_cc 308) 0 = .ok (.aload_n 0, 1) := by decide +kernel
theorem dc_308_1 : decode (sm_cc 308) 1 = .ok (.bipush (19), 2) := by decide +kernel
theorem dc_308_3 : decode (sm_cc 308) 3 = .ok (.invokevirtual 312, 3) := by decide +kernel
theorem kr_308_312 : sm_at mt_k (sm_ow 308) 312 = some (312, 0, 309, 0, 2494) := by decide +kernel
theorem dc_308_6 : decode (sm_cc 308) 6 = .ok (.ifCond .ne (9), 3) := by decide +kernel
theorem dc_308_9 : decode (sm_cc 308) 9 = .ok (.aload_n 0, 1) := by decide +kernel
theorem dc_308_10 : decode (sm_cc 308) 10 = .ok (.iload_n 1, 1) := by decide +kernel
theorem dc_308_11 : decode (sm_cc 308) 11 = .ok (.invokevirtual 403, 3) := by decide +kernel
theorem ow_310 : 14 = sm_ow 310 := by decide +kernel
theorem kr_308_403 : sm_at mt_k (sm_ow 308) 403 = some (403, 0, 310, 0, 2498) := by decide +kernel
theorem np_310 : sm_np 310 = 1 := by decide +kernel
theorem dc_308_14 : decode (sm_cc 308) 14 = .ok (.ireturn, 1) := by decide +kernel
theorem rt_308 : sm_rt 308 = some .boolean := by decide +kernel
theorem ml_308 : sm_ml 308 = 2 := by decide +kernel
theorem dc_308_15 : decode (sm_cc 308) 15 = .ok (.iload_n 1, 1) := by decide +kernel
theorem dc_308_16 : decode (sm_cc 308) 16 = .ok (.bipush (12), 2) := by decide +kernel
theorem dc_308_18 : decode (sm_cc 308) 18 = .ok (.if_icmp .ne (8), 3) := by decide +kernel
theorem dc_308_21 : decode (sm_cc 308) 21 = .ok (.aload_n 0, 1) := by decide +kernel
theorem dc_308_22 : decode (sm_cc 308) 22 = .ok (.invokevirtual 202, 3) := by decide +kernel
theorem kr_308_202 : sm_at mt_k (sm_ow 308) 202 = some (202, 0, 299, 0, 2454) := by decide +kernel
theorem dc_308_25 : decode (sm_cc 308) 25 = .ok (.ireturn, 1) := by decide +kernel
theorem dc_308_26 : decode (sm_cc 308) 26 = .ok (.aload_n 0, 1) := by decide +kernel
theorem dc_308_27 : decode (sm_cc 308) 27 = .ok (.dup, 1) := by decide +kernel
theorem dc_308_28 : decode (sm_cc 308) 28 = .ok (.getfield 190, 3) := by decide +kernel
theorem fr_308_190 : sm_at mt_f (sm_ow 308) 190 = some (190, 14, 15, 0, 2088) := by decide +kernel
theorem dc_308_31 : decode (sm_cc 308) 31 = .ok (.iconst 1, 1) := by decide +kernel
theorem dc_308_32 : decode (sm_cc 308) 32 = .ok (.iadd, 1) := by decide +kernel
theorem dc_308_33 : decode (sm_cc 308) 33 = .ok (.putfield 190, 3) := by decide +kernel
theorem dc_308_36 : decode (sm_cc 308) 36 = .ok (.aload_n 0, 1) := by decide +kernel
theorem dc_308_37 : decode (sm_cc 308) 37 = .ok (.iload_n 1, 1) := by decide +kernel
theorem dc_308_38 : decode (sm_cc 308) 38 = .ok (.iconst 1, 1) := by decide +kernel
theorem dc_308_39 : decode (sm_cc 308) 39 = .ok (.iadd, 1) := by decide +kernel
theorem dc_308_40 : decode (sm_cc 308) 40 = .ok (.invokevirtual 400, 3) := by decide +kernel
theorem kr_308_400 : sm_at mt_k (sm_ow 308) 400 = some (400, 0, 308, 0, 2490) := by decide +kernel
theorem dc_308_43 : decode (sm_cc 308) 43 = .ok (.ifCond .ne (5), 3) := by decide +kernel
theorem dc_308_46 : decode (sm_cc 308) 46 = .ok (.iconst 0, 1) := by decide +kernel
theorem dc_308_47 : decode (sm_cc 308) 47 = .ok (.ireturn, 1) := by decide +kernel
theorem dc_308_48 : decode (sm_cc 308) 48 = .ok (.aload_n 0, 1) := by decide +kernel
theorem dc_308_49 : decode (sm_cc 308) 49 = .ok (.bipush (10), 2) := by decide +kernel
theorem dc_308_51 : decode (sm_cc 308) 51 = .ok (.invokevirtual 269, 3) := by decide +kernel
theorem ow_322 : 14 = sm_ow 322 := by decide +kernel
theorem kr_308_269 : sm_at mt_k (sm_ow 308) 269 = some (269, 0, 322, 0, 2547) := by decide +kernel
theorem np_322 : sm_np 322 = 1 := by decide +kernel
theorem dc_308_54 : decode (sm_cc 308) 54 = .ok (.aload_n 0, 1) := by decide +kernel
theorem dc_308_55 : decode (sm_cc 308) 55 = .ok (.iconst 0, 1) := by decide +kernel
theorem dc_308_56 : decode (sm_cc 308) 56 = .ok (.putfield 397, 3) := by decide +kernel
theorem fr_308_397 : sm_at mt_f (sm_ow 308) 397 = some (397, 14, 31, 0, 2104) := by decide +kernel
theorem dc_308_59 : decode (sm_cc 308) 59 = .ok (.iconst 1, 1) := by decide +kernel
theorem dc_308_60 : decode (sm_cc 308) 60 = .ok (.ireturn, 1) := by decide +kernel
theorem dc_313_0 : decode (sm_cc 313) 0 = .ok (.aload_n 0, 1) := by decide +kernel
theorem dc_313_1 : decode (sm_cc 313) 1 = .ok (.bipush (45), 2) := by decide +kernel
theorem dc_313_3 : decode (sm_cc 313) 3 = .ok (.invokevirtual 199, 3) := by decide +kernel
theorem kr_313_199 : sm_at mt_k (sm_ow 313) 199 = some (199, 0, 314, 0, 2514) := by decide +kernel
theorem dc_313_6 : decode (sm_cc 313) 6 = .ok (.ifCond .ne (9), 3) := by decide +kernel
theorem dc_313_9 : decode (sm_cc 313) 9 = .ok (.aload_n 0, 1) := by decide +kernel
theorem dc_313_10 : decode (sm_cc 313) 10 = .ok (.iload_n 1, 1) := by decide +kernel
theorem dc_313_11 : decode (sm_cc 313) 11 = .ok (.invokevirtual 415, 3) := by decide +kernel
theorem ow_315 : 14 = sm_ow 315 := by decide +kernel
theorem kr_313_415 : sm_at mt_k (sm_ow 313) 415 = some (415, 0, 315, 0, 2518) := by decide +kernel
theorem np_315 : sm_np 315 = 1 := by decide +kernel
theorem dc_313_14 : decode (sm_cc 313) 14 = .ok (.ireturn, 1) := by decide +kernel
theorem rt_313 : sm_rt 313 = some .boolean := by decide +kernel
theorem ml_313 : sm_ml 313 = 2 := by decide +kernel
theorem dc_313_15 : decode (sm_cc 313) 15 = .ok (.iload_n 1, 1) := by decide +kernel
theorem dc_313_16 : decode (sm_cc 313) 16 = .ok (.bipush (12), 2) := by decide +kernel
theorem dc_313_18 : decode (sm_cc 313) 18 = .ok (.if_icmp .ne (8), 3) := by decide +kernel
theorem dc_313_21 : decode (sm_cc 313) 21 = .ok (.aload_n 0, 1) := by decide +kernel
theorem dc_313_22 : decode (sm_cc 313) 22 = .ok (.invokevirtual 202, 3) := by decide +kernel
theorem kr_313_202 : sm_at mt_k (sm_ow 313) 202 = some (202, 0, 299, 0, 2454) := by decide +kernel
theorem dc_313_25 : decode (sm_cc 313) 25 = .ok (.ireturn, 1) := by decide +kernel
theorem dc_313_26 : decode (sm_cc 313) 26 = .ok (.aload_n 0, 1) := by decide +kernel
theorem dc_313_27 : decode (sm_cc 313) 27 = .ok (.dup, 1) := by decide +kernel
theorem dc_313_28 : decode (sm_cc 313) 28 = .ok (.getfield 190, 3) := by decide +kernel
theorem fr_313_190 : sm_at mt_f (sm_ow 313) 190 = some (190, 14, 15, 0, 2088) := by decide +kernel
theorem dc_313_31 : decode (sm_cc 313) 31 = .ok (.iconst 1, 1) := by decide +kernel
theorem dc_313_32 : decode (sm_cc 313) 32 = .ok (.iadd, 1) := by decide +kernel
theorem dc_313_33 : decode (sm_cc 313) 33 = .ok (.putfield 190, 3) := by decide +kernel
theorem dc_313_36 : decode (sm_cc 313) 36 = .ok (.aload_n 0, 1) := by decide +kernel
theorem dc_313_37 : decode (sm_cc 313) 37 = .ok (.iload_n 1, 1) := by decide +kernel
theorem dc_313_38 : decode (sm_cc 313) 38 = .ok (.iconst 1, 1) := by decide +kernel
theorem dc_313_39 : decode (sm_cc 313) 39 = .ok (.iadd, 1) := by decide +kernel
theorem dc_313_40 : decode (sm_cc 313) 40 = .ok (.invokevirtual 412, 3) := by decide +kernel
theorem kr_313_412 : sm_at mt_k (sm_ow 313) 412 = some (412, 0, 313, 0, 2510) := by decide +kernel
theorem dc_313_43 : decode (sm_cc 313) 43 = .ok (.ifCond .ne (5), 3) := by decide +kernel
theorem dc_313_46 : decode (sm_cc 313) 46 = .ok (.iconst 0, 1) := by decide +kernel
theorem dc_313_47 : decode (sm_cc 313) 47 = .ok (.ireturn, 1) := by decide +kernel
theorem dc_313_48 : decode (sm_cc 313) 48 = .ok (.aload_n 0, 1) := by decide +kernel
theorem dc_313_49 : decode (sm_cc 313) 49 = .ok (.bipush (9), 2) := by decide +kernel
theorem dc_313_51 : decode (sm_cc 313) 51 = .ok (.invokevirtual 269, 3) := by decide +kernel
theorem kr_313_269 : sm_at mt_k (sm_ow 313) 269 = some (269, 0, 322, 0, 2547) := by decide +kernel
theorem dc_313_54 : decode (sm_cc 313) 54 = .ok (.aload_n 0, 1) := by decide +kernel
theorem dc_313_55 : decode (sm_cc 313) 55 = .ok (.iconst 0, 1) := by decide +kernel
theorem dc_313_56 : decode (sm_cc 313) 56 = .ok (.putfield 397, 3) := by decide +kernel
theorem fr_313_397 : sm_at mt_f (sm_ow 313) 397 = some (397, 14, 31, 0, 2104) := by decide +kernel
theorem dc_313_59 : decode (sm_cc 313) 59 = .ok (.iconst 1, 1) := by decide +kernel
theorem dc_313_60 : decode (sm_cc 313) 60 = .ok (.ireturn, 1) := by decide +kernel
theorem dc_315_0 : decode (sm_cc 315) 0 = .ok (.aload_n 0, 1) := by decide +kernel
theorem dc_315_1 : decode (sm_cc 315) 1 = .ok (.iload_n 1, 1) := by decide +kernel
theorem dc_315_2 : decode (sm_cc 315) 2 = .ok (.invokevirtual 418, 3) := by decide +kernel
theorem ow_316 : 14 = sm_ow 316 := by decide +kernel
theorem kr_315_418 : sm_at mt_k (sm_ow 315) 418 = some (418, 0, 316, 0, 2522) := by decide +kernel
theorem np_316 : sm_np 316 = 1 := by decide +kernel
theorem dc_315_5 : decode (sm_cc 315) 5 = .ok (.ifCond .ne (5), 3) := by decide +kernel
theorem ml_315 : sm_ml 315 = 3 := by decide +kernel
theorem dc_315_8 : decode (sm_cc 315) 8 = .ok (.iconst 0, 1) := by decide +kernel
theorem dc_315_9 : decode (sm_cc 315) 9 = .ok (.ireturn, 1) := by decide +kernel
theorem rt_315 : sm_rt 315 = some .boolean := by decide +kernel
theorem dc_315_10 : decode (sm_cc 315) 10 = .ok (.aload_n 0, 1) := by decide +kernel
theorem dc_315_11 : decode (sm_cc 315) 11 = .ok (.bipush (40), 2) := by decide +kernel
theorem dc_315_13 : decode (sm_cc 315) 13 = .ok (.invokevirtual 199, 3) := by decide +kernel
theorem kr_315_199 : sm_at mt_k (sm_ow 315) 199 = some (199, 0, 314, 0, 2514) := by decide +kernel
theorem dc_315_16 : decode (sm_cc 315) 16 = .ok (.ifCond .eq (35), 3) := by decide +kernel
theorem dc_315_51 : decode (sm_cc 315) 51 = .ok (.aload_n 0, 1) := by decide +kernel
theorem dc_315_52 : decode (sm_cc 315) 52 = .ok (.bipush (91), 2) := by decide +kernel
theorem dc_315_54 : decode (sm_cc 315) 54 = .ok (.invokevirtual 199, 3) := by decide +kernel
theorem dc_315_57 : decode (sm_cc 315) 57 = .ok (.ifCond .eq (70), 3) := by decide +kernel
theorem dc_315_127 : decode (sm_cc 315) 127 = .ok (.aload_n 0, 1) := by decide +kernel
theorem dc_315_128 : decode (sm_cc 315) 128 = .ok (.bipush (46), 2) := by decide +kernel
theorem dc_315_130 : decode (sm_cc 315) 130 = .ok (.invokevirtual 199, 3) := by decide +kernel
theorem dc_315_133 : decode (sm_cc 315) 133 = .ok (.ifCond .eq (75), 3) := by decide +kernel
theorem dc_315_208 : decode (sm_cc 315) 208 = .ok (.iconst 1, 1) := by decide +kernel
theorem dc_315_209 : decode (sm_cc 315) 209 = .ok (.ireturn, 1) := by decide +kernel
theorem dc_315_19 : decode (sm_cc 315) 19 = .ok (.aload_n 0, 1) := by decide +kernel
theorem dc_315_20 : decode (sm_cc 315) 20 = .ok (.iload_n 1, 1) := by decide +kernel
theorem dc_315_21 : decode (sm_cc 315) 21 = .ok (.bipush (41), 2) := by decide +kernel
theorem dc_315_23 : decode (sm_cc 315) 23 = .ok (.bipush (8), 2) := by decide +kernel
theorem dc_315_25 : decode (sm_cc 315) 25 = .ok (.iconst 0, 1) := by decide +kernel
theorem dc_315_26 : decode (sm_cc 315) 26 = .ok (.invokevirtual 421, 3) := by decide +kernel
theorem ow_324 : 14 = sm_ow 324 := by decide +kernel
theorem kr_315_421 : sm_at mt_k (sm_ow 315) 421 = some (421, 0, 324, 0, 2555) := by decide +kernel
theorem np_324 : sm_np 324 = 4 := by decide +kernel
theorem dc_315_29 : decode (sm_cc 315) 29 = .ok (.istore_n 2, 1) := by decide +kernel
theorem dc_315_30 : decode (sm_cc 315) 30 = .ok (.iload_n 2, 1) := by decide +kernel
theorem dc_315_31 : decode (sm_cc 315) 31 = .ok (.ifCond .ge (5), 3) := by decide +kernel
theorem dc_315_36 : decode (sm_cc 315) 36 = .ok (.aload_n 0, 1) := by decide +kernel
theorem dc_315_37 : decode (sm_cc 315) 37 = .ok (.bipush (17), 2) := by decide +kernel
theorem dc_315_39 : decode (sm_cc 315) 39 = .ok (.iload_n 2, 1) := by decide +kernel
theorem dc_315_40 : decode (sm_cc 315) 40 = .ok (.invokevirtual 216, 3) := by decide +kernel
theorem kr_315_216 : sm_at mt_k (sm_ow 315) 216 = some (216, 0, 302, 0, 2465) := by decide +kernel
theorem dc_315_43 : decode (sm_cc 315) 43 = .ok (.aload_n 0, 1) := by decide +kernel
theorem dc_315_44 : decode (sm_cc 315) 44 = .ok (.iconst 0, 1) := by decide +kernel
theorem dc_315_45 : decode (sm_cc 315) 45 = .ok (.putfield 397, 3) := by decide +kernel
theorem fr_315_397 : sm_at mt_f (sm_ow 315) 397 = some (397, 14, 31, 0, 2104) := by decide +kernel
theorem dc_315_48 : decode (sm_cc 315) 48 = .ok (.goto (-38), 3) := by decide +kernel
theorem dc_315_34 : decode (sm_cc 315) 34 = .ok (.iconst 0, 1) := by decide +kernel
theorem dc_315_35 : decode (sm_cc 315) 35 = .ok (.ireturn, 1) := by decide +kernel
theorem dc_315_60 : decode (sm_cc 315) 60 = .ok (.iload_n 1, 1) := by decide +kernel
theorem dc_315_61 : decode (sm_cc 315) 61 = .ok (.bipush (12), 2) := by decide +kernel
theorem dc_315_63 : decode (sm_cc 315) 63 = .ok (.if_icmp .ne (8), 3) := by decide +kernel
theorem dc_315_66 : decode (sm_cc 315) 66 = .ok (.aload_n 0, 1) := by decide +kernel
theorem dc_315_67 : decode (sm_cc 315) 67 = .ok (.invokevirtual 202, 3) := by decide +kernel
theorem kr_315_202 : sm_at mt_k (sm_ow 315) 202 = some (202, 0, 299, 0, 2454) := by decide +kernel
theorem dc_315_70 : decode (sm_cc 315) 70 = .ok (.ireturn, 1) := by decide +kernel
theorem dc_315_71 : decode (sm_cc 315) 71 = .ok (.aload_n 0, 1) := by decide +kernel
theorem dc_315_72 : decode (sm_cc 315) 72 = .ok (.dup, 1) := by decide +kernel
theorem dc_315_73 : decode (sm_cc 315) 73 = .ok (.getfield 190, 3) := by decide +kernel
theorem fr_315_190 : sm_at mt_f (sm_ow 315) 190 = some (190, 14, 15, 0, 2088) := by decide +kernel
theorem dc_315_76 : decode (sm_cc 315) 76 = .ok (.iconst 1, 1) := by decide +kernel
theorem dc_315_77 : decode (sm_cc 315) 77 = .ok (.iadd, 1) := by decide +kernel
theorem dc_315_78 : decode (sm_cc 315) 78 = .ok (.putfield 190, 3) := by decide +kernel
theorem dc_315_81 : decode (sm_cc 315) 81 = .ok (.aload_n 0, 1) := by decide +kernel
theorem dc_315_82 : decode (sm_cc 315) 82 = .ok (.iload_n 1, 1) := by decide +kernel
theorem dc_315_83 : decode (sm_cc 315) 83 = .ok (.iconst 1, 1) := by decide +kernel
theorem dc_315_84 : decode (sm_cc 315) 84 = .ok (.iadd, 1) := by decide +kernel
theorem dc_315_85 : decode (sm_cc 315) 85 = .ok (.invokevirtual 302, 3) := by decide +kernel
theorem ow_306 : 14 = sm_ow 306 := by decide +kernel
theorem kr_315_302 : sm_at mt_k (sm_ow 315) 302 = some (302, 0, 306, 0, 2482) := by decide +kernel
theorem np_306 : sm_np 306 = 1 := by decide +kernel
theorem dc_315_88 : decode (sm_cc 315) 88 = .ok (.ifCond .eq (12), 3) := by decide +kernel
theorem dc_315_100 : decode (sm_cc 315) 100 = .ok (.iconst 0, 1) := by decide +kernel
theorem dc_315_101 : decode (sm_cc 315) 101 = .ok (.ireturn, 1) := by decide +kernel
theorem dc_315_91 : decode (sm_cc 315) 91 = .ok (.aload_n 0, 1) := by decide +kernel
theorem dc_315_92 : decode (sm_cc 315) 92 = .ok (.bipush (93), 2) := by decide +kernel
theorem dc_315_94 : decode (sm_cc 315) 94 = .ok (.invokevirtual 270, 3) := by decide +kernel
theorem ow_323 : 14 = sm_ow 323 := by decide +kernel
theorem kr_315_270 : sm_at mt_k (sm_ow 315) 270 = some (270, 0, 323, 0, 2551) := by decide +kernel
theorem np_323 : sm_np 323 = 1 := by decide +kernel
theorem dc_315_97 : decode (sm_cc 315) 97 = .ok (.ifCond .ne (5), 3) := by decide +kernel
theorem re_not_no {d : Nat} {S : cS} {dp : Nat} {z : Int32} {S1 : cS} (hdp : dp ≤ 12) (hW0 : Ans (d + 8) 309 [.ref 61, .int (nI 19)] S (some (.int (nI 0))) S) (hC : Ans (d + 8) 310 [.ref 61, .int (nI dp)] S (some (.int z)) S1) (hz : z = 0 ∨ z = 1) : Ans (d + 9) 308 [.ref 61, .int (nI dp)] S (some (.int z)) (S1) := by
  refine Ans.of (by rw [ml_308]; exact Nat.le_of_ble_eq_true rfl) ?_
  refine Bod.go dc_308_0 rfl ?_
  refine Bod.bip 19 (by decide) dc_308_1 ?_
  refine Bod.virt (r := []) dc_308_3 kr_308_312 ⟨Or.inl rfl, ow_309, cl_14⟩ (by rw [np_309]; rfl) (by rw [np_309]; rfl) (ob_of (mk_61 _)) (Nat.le_of_ble_eq_true rfl) (hW0  ) ?_
  show Bod _ _ _ _ [_] _ _ _
  refine Bod.ifF dc_308_6 rfl (k1_ne_F (k_eq 0 0 rfl rfl (by omega))) ?_
  refine Bod.go dc_308_9 rfl ?_
  refine Bod.go dc_308_10 rfl ?_
  refine Bod.virt (r := []) dc_308_11 kr_308_403 ⟨Or.inl rfl, ow_310, cl_14⟩ (by rw [np_310]; rfl) (by rw [np_310]; rfl) (ob_of (mk_61 _)) (Nat.le_of_ble_eq_true rfl) (hC  ) ?_
  show Bod _ _ _ _ [_] _ _ _
  exact Bod.retZ dc_308_14 rt_308 hz
theorem re_not_deep {d : Nat} {S : cS} {dp : Nat} {S1 : cS} (hdp : dp ≤ 12) (hd12 : dp = 12) (hW1 : Ans (d + 8) 309 [.ref 61, .int (nI 19)] S (some (.int (nI 1))) S) (hB : Ans (d + 8) 299 [.ref 61] S (some (.int (nI 0))) S1) : Ans (d + 9) 308 [.ref 61, .int (nI dp)] S (some (.int 0)) (S1) := by
  refine Ans.of (by rw [ml_308]; exact Nat.le_of_ble_eq_true rfl) ?_
  refine Bod.go dc_308_0 rfl ?_
  refine Bod.bip 19 (by decide) dc_308_1 ?_
  refine Bod.virt (r := []) dc_308_3 kr_308_312 ⟨Or.inl rfl, ow_309, cl_14⟩ (by rw [np_309]; rfl) (by rw [np_309]; rfl) (ob_of (mk_61 _)) (Nat.le_of_ble_eq_true rfl) (hW1  ) ?_
  show Bod _ _ _ _ [_] _ _ _
  refine Bod.ifT dc_308_6 rfl (k1_ne_T (k_ne 1 0 rfl rfl (by omega) (by omega) (by omega))) ?_
  refine Bod.go dc_308_15 rfl ?_
  refine Bod.bip 12 (by decide) dc_308_16 ?_
  refine Bod.icF dc_308_18 rfl (k2_ne_F (k_eq dp 12 rfl rfl (by omega))) ?_
  refine Bod.go dc_308_21 rfl ?_
  refine Bod.virt (r := []) dc_308_22 kr_308_202 ⟨Or.inl rfl, ow_299, cl_14⟩ (by rw [np_299]; rfl) (by rw [np_299]; rfl) (ob_of (mk_61 _)) (Nat.le_of_ble_eq_true rfl) (hB  ) ?_
  show Bod _ _ _ _ [_] _ _ _
  exact Bod.retZ dc_308_25 rt_308 (Or.inl rfl)
theorem re_not_bad {d : Nat} {S : cS} {dp : Nat} {j : Nat} {S1 : cS} (hdp : dp ≤ 12) (hd12 : dp < 12) (ha : sI S 6115 = nI j) (hj : j < 6002) (hW1 : Ans (d + 8) 309 [.ref 61, .int (nI 19)] S (some (.int (nI 1))) S) (hD0 : Ans (d + 8) 308 [.ref 61, .int (nI (dp + 1))] (wI 6115 (nI (j + 1)) S) (some (.int (nI 0))) S1) : Ans (d + 9) 308 [.ref 61, .int (nI dp)] S (some (.int 0)) (S1) := by
  refine Ans.of (by rw [ml_308]; exact Nat.le_of_ble_eq_true rfl) ?_
  refine Bod.go dc_308_0 rfl ?_
  refine Bod.bip 19 (by decide) dc_308_1 ?_
  refine Bod.virt (r := []) dc_308_3 kr_308_312 ⟨Or.inl rfl, ow_309, cl_14⟩ (by rw [np_309]; rfl) (by rw [np_309]; rfl) (ob_of (mk_61 _)) (Nat.le_of_ble_eq_true rfl) (hW1  ) ?_
  show Bod _ _ _ _ [_] _ _ _
  refine Bod.ifT dc_308_6 rfl (k1_ne_T (k_ne 1 0 rfl rfl (by omega) (by omega) (by omega))) ?_
  refine Bod.go dc_308_15 rfl ?_
  refine Bod.bip 12 (by decide) dc_308_16 ?_
  refine Bod.icT dc_308_18 rfl (k2_ne_T (k_ne dp 12 rfl rfl (by omega) (by omega) (by omega))) ?_
  refine Bod.go dc_308_26 rfl ?_
  refine Bod.go dc_308_27 rfl ?_
  refine Bod.get dc_308_28 fr_308_190 (mk_61 _) rfl ?_
  refine Bod.eqI (nI j) (by first | assumption | rfl | exact congrArg nI (by omega) | (simp (disch := omega) only [rI, rIe, rA, rIA, rLA, rJA, rVI, rQI, rVA, rQA, upd_at,  rAI, rLI, rJI, nI_add, pk_sub, kc_0, kc_1, kc_2, kc_3, kc_4, kc_5, reduceIte, Nat.reduceEqDiff, Nat.add_zero, rI_hold, rI_hold, rL_hold, ha]; done)) ?_
  refine Bod.ic 1 (by decide) dc_308_31 ?_
  refine Bod.addN (j + 1) (by omega) dc_308_32 ?_
  refine Bod.put dc_308_33 fr_308_190 (mk_61 _) (Nat.le_of_ble_eq_true rfl) pf_14_15 (st_6115 _ _) (mu_I _ _ _) ?_
  refine Bod.go dc_308_36 rfl ?_
  refine Bod.go dc_308_37 rfl ?_
  refine Bod.ic 1 (by decide) dc_308_38 ?_
  refine Bod.addN (dp + 1) (by omega) dc_308_39 ?_
  refine Bod.virt (r := []) dc_308_40 kr_308_400 ⟨Or.inl rfl, ow_308, cl_14⟩ (by rw [np_308]; rfl) (by rw [np_308]; rfl) (ob_of (mk_61 _)) (Nat.le_of_ble_eq_true rfl) (hD0  ) ?_
  show Bod _ _ _ _ [_] _ _ _
  refine Bod.ifF dc_308_43 rfl (k1_ne_F (k_eq 0 0 rfl rfl (by omega))) ?_
  refine Bod.ic 0 (by decide) dc_308_46 ?_
  exact Bod.retZ dc_308_47 rt_308 (Or.inl rfl)
theorem re_not_T {d : Nat} {S : cS} {dp : Nat} {j : Nat} {S2 : cS} {S1 : cS} (hdp : dp ≤ 12) (hd12 : dp < 12) (ha : sI S 6115 = nI j) (hj : j < 6002) (hW1 : Ans (d + 8) 309 [.ref 61, .int (nI 19)] S (some (.int (nI 1))) S) (hD1 : Ans (d + 8) 308 [.ref 61, .int (nI (dp + 1))] (wI 6115 (nI (j + 1)) S) (some (.int (nI 1))) S1) (hP : Ans (d + 8) 322 [.ref 61, .int (nI 10)] S1 none S2) : Ans (d + 9) 308 [.ref 61, .int (nI dp)] S (some (.int 1)) (wI 6131 (nI 0) S2) := by
  refine Ans.of (by rw [ml_308]; exact Nat.le_of_ble_eq_true rfl) ?_
  refine Bod.go dc_308_0 rfl ?_
  refine Bod.bip 19 (by decide) dc_308_1 ?_
  refine Bod.virt (r := []) dc_308_3 kr_308_312 ⟨Or.inl rfl, ow_309, cl_14⟩ (by rw [np_309]; rfl) (by rw [np_309]; rfl) (ob_of (mk_61 _)) (Nat.le_of_ble_eq_true rfl) (hW1  ) ?_
  show Bod _ _ _ _ [_] _ _ _
  refine Bod.ifT dc_308_6 rfl (k1_ne_T (k_ne 1 0 rfl rfl (by omega) (by omega) (by omega))) ?_
  refine Bod.go dc_308_15 rfl ?_
  refine Bod.bip 12 (by decide) dc_308_16 ?_
  refine Bod.icT dc_308_18 rfl (k2_ne_T (k_ne dp 12 rfl rfl (by omega) (by omega) (by omega))) ?_
  refine Bod.go dc_308_26 rfl ?_
  refine Bod.go dc_308_27 rfl ?_
  refine Bod.get dc_308_28 fr_308_190 (mk_61 _) rfl ?_
  refine Bod.eqI (nI j) (by first | assumption | rfl | exact congrArg nI (by omega) | (simp (disch := omega) only [rI, rIe, rA, rIA, rLA, rJA, rVI, rQI, rVA, rQA, upd_at,  rAI, rLI, rJI, nI_add, pk_sub, kc_0, kc_1, kc_2, kc_3, kc_4, kc_5, reduceIte, Nat.reduceEqDiff, Nat.add_zero, rI_hold, rI_hold, rL_hold, ha]; done)) ?_
  refine Bod.ic 1 (by decide) dc_308_31 ?_
  refine Bod.addN (j + 1) (by omega) dc_308_32 ?_
  refine Bod.put dc_308_33 fr_308_190 (mk_61 _) (Nat.le_of_ble_eq_true rfl) pf_14_15 (st_6115 _ _) (mu_I _ _ _) ?_
  refine Bod.go dc_308_36 rfl ?_
  refine Bod.go dc_308_37 rfl ?_
  refine Bod.ic 1 (by decide) dc_308_38 ?_
  refine Bod.addN (dp + 1) (by omega) dc_308_39 ?_
  refine Bod.virt (r := []) dc_308_40 kr_308_400 ⟨Or.inl rfl, ow_308, cl_14⟩ (by rw [np_308]; rfl) (by rw [np_308]; rfl) (ob_of (mk_61 _)) (Nat.le_of_ble_eq_true rfl) (hD1  ) ?_
  show Bod _ _ _ _ [_] _ _ _
  refine Bod.ifT dc_308_43 rfl (k1_ne_T (k_ne 1 0 rfl rfl (by omega) (by omega) (by omega))) ?_
  refine Bod.go dc_308_48 rfl ?_
  refine Bod.bip 10 (by decide) dc_308_49 ?_
  refine Bod.virt (r := []) dc_308_51 kr_308_269 ⟨Or.inl rfl, ow_322, cl_14⟩ (by rw [np_322]; rfl) (by rw [np_322]; rfl) (ob_of (mk_61 _)) (Nat.le_of_ble_eq_true rfl) (hP  ) ?_
  show Bod _ _ _ _ [] _ _ _
  refine Bod.go dc_308_54 rfl ?_
  refine Bod.ic 0 (by decide) dc_308_55 ?_
  refine Bod.put dc_308_56 fr_308_397 (mk_61 _) (Nat.le_of_ble_eq_true rfl) pf_14_31 (st_6131 _ _) (mu_I _ _ _) ?_
  refine Bod.ic 1 (by decide) dc_308_59 ?_
  exact Bod.retZ dc_308_60 rt_308 (Or.inr rfl)
theorem re_neg_no {d : Nat} {S : cS} {dp : Nat} {z : Int32} {S1 : cS} (hdp : dp ≤ 12) (hW0 : Ans (d + 8) 314 [.ref 61, .int (nI 45)] S (some (.int (nI 0))) S) (hC : Ans (d + 8) 315 [.ref 61, .int (nI dp)] S (some (.int z)) S1) (hz : z = 0 ∨ z = 1) : Ans (d + 9) 313 [.ref 61, .int (nI dp)] S (some (.int z)) (S1) := by
  refine Ans.of (by rw [ml_313]; exact Nat.le_of_ble_eq_true rfl) ?_
  refine Bod.go dc_313_0 rfl ?_
  refine Bod.bip 45 (by decide) dc_313_1 ?_
  refine Bod.virt (r := []) dc_313_3 kr_313_199 ⟨Or.inl rfl, ow_314, cl_14⟩ (by rw [np_314]; rfl) (by rw [np_314]; rfl) (ob_of (mk_61 _)) (Nat.le_of_ble_eq_true rfl) (hW0  ) ?_
  show Bod _ _ _ _ [_] _ _ _
  refine Bod.ifF dc_313_6 rfl (k1_ne_F (k_eq 0 0 rfl rfl (by omega))) ?_
  refine Bod.go dc_313_9 rfl ?_
  refine Bod.go dc_313_10 rfl ?_
  refine Bod.virt (r := []) dc_313_11 kr_313_415 ⟨Or.inl rfl, ow_315, cl_14⟩ (by rw [np_315]; rfl) (by rw [np_315]; rfl) (ob_of (mk_61 _)) (Nat.le_of_ble_eq_true rfl) (hC  ) ?_
  show Bod _ _ _ _ [_] _ _ _
  exact Bod.retZ dc_313_14 rt_313 hz
theorem re_neg_deep {d : Nat} {S : cS} {dp : Nat} {S1 : cS} (hdp : dp ≤ 12) (hd12 : dp = 12) (hW1 : Ans (d + 8) 314 [.ref 61, .int (nI 45)] S (some (.int (nI 1))) S) (hB : Ans (d + 8) 299 [.ref 61] S (some (.int (nI 0))) S1) : Ans (d + 9) 313 [.ref 61, .int (nI dp)] S (some (.int 0)) (S1) := by
  refine Ans.of (by rw [ml_313]; exact Nat.le_of_ble_eq_true rfl) ?_
  refine Bod.go dc_313_0 rfl ?_
  refine Bod.bip 45 (by decide) dc_313_1 ?_
  refine Bod.virt (r := []) dc_313_3 kr_313_199 ⟨Or.inl rfl, ow_314, cl_14⟩ (by rw [np_314]; rfl) (by rw [np_314]; rfl) (ob_of (mk_61 _)) (Nat.le_of_ble_eq_true rfl) (hW1  ) ?_
  show Bod _ _ _ _ [_] _ _ _
  refine Bod.ifT dc_313_6 rfl (k1_ne_T (k_ne 1 0 rfl rfl (by omega) (by omega) (by omega))) ?_
  refine Bod.go dc_313_15 rfl ?_
  refine Bod.bip 12 (by decide) dc_313_16 ?_
  refine Bod.icF dc_313_18 rfl (k2_ne_F (k_eq dp 12 rfl rfl (by omega))) ?_
  refine Bod.go dc_313_21 rfl ?_
  refine Bod.virt (r := []) dc_313_22 kr_313_202 ⟨Or.inl rfl, ow_299, cl_14⟩ (by rw [np_299]; rfl) (by rw [np_299]; rfl) (ob_of (mk_61 _)) (Nat.le_of_ble_eq_true rfl) (hB  ) ?_
  show Bod _ _ _ _ [_] _ _ _
  exact Bod.retZ dc_313_25 rt_313 (Or.inl rfl)
theorem re_neg_bad {d : Nat} {S : cS} {dp : Nat} {j : Nat} {S1 : cS} (hdp : dp ≤ 12) (hd12 : dp < 12) (ha : sI S 6115 = nI j) (hj : j < 6002) (hW1 : Ans (d + 8) 314 [.ref 61, .int (nI 45)] S (some (.int (nI 1))) S) (hD0 : Ans (d + 8) 313 [.ref 61, .int (nI (dp + 1))] (wI 6115 (nI (j + 1)) S) (some (.int (nI 0))) S1) : Ans (d + 9) 313 [.ref 61, .int (nI dp)] S (some (.int 0)) (S1) := by
  refine Ans.of (by rw [ml_313]; exact Nat.le_of_ble_eq_true rfl) ?_
  refine Bod.go dc_313_0 rfl ?_
  refine Bod.bip 45 (by decide) dc_313_1 ?_
  refine Bod.virt (r := []) dc_313_3 kr_313_199 ⟨Or.inl rfl, ow_314, cl_14⟩ (by rw [np_314]; rfl) (by rw [np_314]; rfl) (ob_of (mk_61 _)) (Nat.le_of_ble_eq_true rfl) (hW1  ) ?_
  show Bod _ _ _ _ [_] _ _ _
  refine Bod.ifT dc_313_6 rfl (k1_ne_T (k_ne 1 0 rfl rfl (by omega) (by omega) (by omega))) ?_
  refine Bod.go dc_313_15 rfl ?_
  refine Bod.bip 12 (by decide) dc_313_16 ?_
  refine Bod.icT dc_313_18 rfl (k2_ne_T (k_ne dp 12 rfl rfl (by omega) (by omega) (by omega))) ?_
  refine Bod.go dc_313_26 rfl ?_
  refine Bod.go dc_313_27 rfl ?_
  refine Bod.get dc_313_28 fr_313_190 (mk_61 _) rfl ?_
  refine Bod.eqI (nI j) (by first | assumption | rfl | exact congrArg nI (by omega) | (simp (disch := omega) only [rI, rIe, rA, rIA, rLA, rJA, rVI, rQI, rVA, rQA, upd_at,  rAI, rLI, rJI, nI_add, pk_sub, kc_0, kc_1, kc_2, kc_3, kc_4, kc_5, reduceIte, Nat.reduceEqDiff, Nat.add_zero, rI_hold, rI_hold, rL_hold, ha]; done)) ?_
  refine Bod.ic 1 (by decide) dc_313_31 ?_
  refine Bod.addN (j + 1) (by omega) dc_313_32 ?_
  refine Bod.put dc_313_33 fr_313_190 (mk_61 _) (Nat.le_of_ble_eq_true rfl) pf_14_15 (st_6115 _ _) (mu_I _ _ _) ?_
  refine Bod.go dc_313_36 rfl ?_
  refine Bod.go dc_313_37 rfl ?_
  refine Bod.ic 1 (by decide) dc_313_38 ?_
  refine Bod.addN (dp + 1) (by omega) dc_313_39 ?_
  refine Bod.virt (r := []) dc_313_40 kr_313_412 ⟨Or.inl rfl, ow_313, cl_14⟩ (by rw [np_313]; rfl) (by rw [np_313]; rfl) (ob_of (mk_61 _)) (Nat.le_of_ble_eq_true rfl) (hD0  ) ?_
  show Bod _ _ _ _ [_] _ _ _
  refine Bod.ifF dc_313_43 rfl (k1_ne_F (k_eq 0 0 rfl rfl (by omega))) ?_
  refine Bod.ic 0 (by decide) dc_313_46 ?_
  exact Bod.retZ dc_313_47 rt_313 (Or.inl rfl)
theorem re_neg_T {d : Nat} {S : cS} {dp : Nat} {j : Nat} {S2 : cS} {S1 : cS} (hdp : dp ≤ 12) (hd12 : dp < 12) (ha : sI S 6115 = nI j) (hj : j < 6002) (hW1 : Ans (d + 8) 314 [.ref 61, .int (nI 45)] S (some (.int (nI 1))) S) (hD1 : Ans (d + 8) 313 [.ref 61, .int (nI (dp + 1))] (wI 6115 (nI (j + 1)) S) (some (.int (nI 1))) S1) (hP : Ans (d + 8) 322 [.ref 61, .int (nI 9)] S1 none S2) : Ans (d + 9) 313 [.ref 61, .int (nI dp)] S (some (.int 1)) (wI 6131 (nI 0) S2) := by
  refine Ans.of (by rw [ml_313]; exact Nat.le_of_ble_eq_true rfl) ?_
  refine Bod.go dc_313_0 rfl ?_
  refine Bod.bip 45 (by decide) dc_313_1 ?_
  refine Bod.virt (r := []) dc_313_3 kr_313_199 ⟨Or.inl rfl, ow_314, cl_14⟩ (by rw [np_314]; rfl) (by rw [np_314]; rfl) (ob_of (mk_61 _)) (Nat.le_of_ble_eq_true rfl) (hW1  ) ?_
  show Bod _ _ _ _ [_] _ _ _
  refine Bod.ifT dc_313_6 rfl (k1_ne_T (k_ne 1 0 rfl rfl (by omega) (by omega) (by omega))) ?_
  refine Bod.go dc_313_15 rfl ?_
  refine Bod.bip 12 (by decide) dc_313_16 ?_
  refine Bod.icT dc_313_18 rfl (k2_ne_T (k_ne dp 12 rfl rfl (by omega) (by omega) (by omega))) ?_
  refine Bod.go dc_313_26 rfl ?_
  refine Bod.go dc_313_27 rfl ?_
  refine Bod.get dc_313_28 fr_313_190 (mk_61 _) rfl ?_
  refine Bod.eqI (nI j) (by first | assumption | rfl | exact congrArg nI (by omega) | (simp (disch := omega) only [rI, rIe, rA, rIA, rLA, rJA, rVI, rQI, rVA, rQA, upd_at,  rAI, rLI, rJI, nI_add, pk_sub, kc_0, kc_1, kc_2, kc_3, kc_4, kc_5, reduceIte, Nat.reduceEqDiff, Nat.add_zero, rI_hold, rI_hold, rL_hold, ha]; done)) ?_
  refine Bod.ic 1 (by decide) dc_313_31 ?_
  refine Bod.addN (j + 1) (by omega) dc_313_32 ?_
  refine Bod.put dc_313_33 fr_313_190 (mk_61 _) (Nat.le_of_ble_eq_true rfl) pf_14_15 (st_6115 _ _) (mu_I _ _ _) ?_
  refine Bod.go dc_313_36 rfl ?_
  refine Bod.go dc_313_37 rfl ?_
  refine Bod.ic 1 (by decide) dc_313_38 ?_
  refine Bod.addN (dp + 1) (by omega) dc_313_39 ?_
  refine Bod.virt (r := []) dc_313_40 kr_313_412 ⟨Or.inl rfl, ow_313, cl_14⟩ (by rw [np_313]; rfl) (by rw [np_313]; rfl) (ob_of (mk_61 _)) (Nat.le_of_ble_eq_true rfl) (hD1  ) ?_
  show Bod _ _ _ _ [_] _ _ _
  refine Bod.ifT dc_313_43 rfl (k1_ne_T (k_ne 1 0 rfl rfl (by omega) (by omega) (by omega))) ?_
  refine Bod.go dc_313_48 rfl ?_
  refine Bod.bip 9 (by decide) dc_313_49 ?_
  refine Bod.virt (r := []) dc_313_51 kr_313_269 ⟨Or.inl rfl, ow_322, cl_14⟩ (by rw [np_322]; rfl) (by rw [np_322]; rfl) (ob_of (mk_61 _)) (Nat.le_of_ble_eq_true rfl) (hP  ) ?_
  show Bod _ _ _ _ [] _ _ _
  refine Bod.go dc_313_54 rfl ?_
  refine Bod.ic 0 (by decide) dc_313_55 ?_
  refine Bod.put dc_313_56 fr_313_397 (mk_61 _) (Nat.le_of_ble_eq_true rfl) pf_14_31 (st_6131 _ _) (mu_I _ _ _) ?_
  refine Bod.ic 1 (by decide) dc_313_59 ?_
  exact Bod.retZ dc_313_60 rt_313 (Or.inr rfl)
theorem re_post_go {d : Nat} {S Sf : cS} {v : Option Value} {dp : Nat} {S1 : cS} (hdp : dp ≤ 12) (hC1 : Ans (d + 8) 316 [.ref 61, .int (nI dp)] S (some (.int (nI 1))) S1) (hB : ∀ lv1 : sm_L, sm_get lv1 0 = some (.ref 61) → sm_get lv1 1 = some (.int (nI dp)) → Bod (d + 8) 315 10 lv1 [] (S1) v Sf) : Ans (d + 9) 315 [.ref 61, .int (nI dp)] S v Sf := by
  refine Ans.of (by rw [ml_315]; exact Nat.le_of_ble_eq_true rfl) ?_
  refine Bod.go dc_315_0 rfl ?_
  refine Bod.go dc_315_1 rfl ?_
  refine Bod.virt (r := []) dc_315_2 kr_315_418 ⟨Or.inl rfl, ow_316, cl_14⟩ (by rw [np_316]; rfl) (by rw [np_316]; rfl) (ob_of (mk_61 _)) (Nat.le_of_ble_eq_true rfl) (hC1  ) ?_
  show Bod _ _ _ _ [_] _ _ _
  refine Bod.ifT dc_315_5 rfl (k1_ne_T (k_ne 1 0 rfl rfl (by omega) (by omega) (by omega))) ?_
  exact hB _ (by repeat (first | exact sm_get_p1 | exact sm_get_p2e | refine sm_get_p1m (by decide) (by decide) ?_ | refine sm_get_p1n (by decide) rfl ?_ | refine sm_get_p2n (by decide) (by decide) rfl ?_ | rfl)) (by repeat (first | exact sm_get_p1 | exact sm_get_p2e | refine sm_get_p1m (by decide) (by decide) ?_ | refine sm_get_p1n (by decide) rfl ?_ | refine sm_get_p2n (by decide) (by decide) rfl ?_ | rfl))
theorem re_post_no {d : Nat} {S : cS} {dp : Nat} {S1 : cS} (hdp : dp ≤ 12) (hC0 : Ans (d + 8) 316 [.ref 61, .int (nI dp)] S (some (.int (nI 0))) S1) : Ans (d + 9) 315 [.ref 61, .int (nI dp)] S (some (.int 0)) (S1) := by
  refine Ans.of (by rw [ml_315]; exact Nat.le_of_ble_eq_true rfl) ?_
  refine Bod.go dc_315_0 rfl ?_
  refine Bod.go dc_315_1 rfl ?_
  refine Bod.virt (r := []) dc_315_2 kr_315_418 ⟨Or.inl rfl, ow_316, cl_14⟩ (by rw [np_316]; rfl) (by rw [np_316]; rfl) (ob_of (mk_61 _)) (Nat.le_of_ble_eq_true rfl) (hC0  ) ?_
  show Bod _ _ _ _ [_] _ _ _
  refine Bod.ifF dc_315_5 rfl (k1_ne_F (k_eq 0 0 rfl rfl (by omega))) ?_
  refine Bod.ic 0 (by decide) dc_315_8 ?_
  exact Bod.retZ dc_315_9 rt_315 (Or.inl rfl)
theorem re_post_end {d : Nat} {S : cS} {lv : sm_L} {dp : Nat}  (h0 : sm_get lv 0 = some (.ref 61)) (h1 : sm_get lv 1 = some (.int (nI dp))) (hdp : dp ≤ 12) (hN0 : Ans (d + 8) 314 [.ref 61, .int (nI 40)] S (some (.int (nI 0))) S) (hN1 : Ans (d + 8) 314 [.ref 61, .int (nI 91)] S (some (.int (nI 0))) S) (hN2 : Ans (d + 8) 314 [.ref 61, .int (nI 46)] S (some (.int (nI 0))) S) : Bod (d + 8) 315 10 lv [] S (some (.int 1)) (S) := by
  refine Bod.aldnG dc_315_10 (by repeat (first | exact h0 | exact sm_get_p1 | exact sm_get_p2e | refine sm_get_p1m (by decide) (by decide) ?_ | refine sm_get_p1n (by decide) rfl ?_ | refine sm_get_p2n (by decide) (by decide) rfl ?_)) ?_
  refine Bod.bip 40 (by decide) dc_315_11 ?_
  refine Bod.virt (r := []) dc_315_13 kr_315_199 ⟨Or.inl rfl, ow_314, cl_14⟩ (by rw [np_314]; rfl) (by rw [np_314]; rfl) (ob_of (mk_61 _)) (Nat.le_of_ble_eq_true rfl) (hN0  ) ?_
  show Bod _ _ _ _ [_] _ _ _
  refine Bod.ifT dc_315_16 rfl (k1_eq_T (k_eq 0 0 rfl rfl (by omega))) ?_
  refine Bod.aldnG dc_315_51 (by repeat (first | exact h0 | exact sm_get_p1 | exact sm_get_p2e | refine sm_get_p1m (by decide) (by decide) ?_ | refine sm_get_p1n (by decide) rfl ?_ | refine sm_get_p2n (by decide) (by decide) rfl ?_)) ?_
  refine Bod.bip 91 (by decide) dc_315_52 ?_
  refine Bod.virt (r := []) dc_315_54 kr_315_199 ⟨Or.inl rfl, ow_314, cl_14⟩ (by rw [np_314]; rfl) (by rw [np_314]; rfl) (ob_of (mk_61 _)) (Nat.le_of_ble_eq_true rfl) (hN1  ) ?_
  show Bod _ _ _ _ [_] _ _ _
  refine Bod.ifT dc_315_57 rfl (k1_eq_T (k_eq 0 0 rfl rfl (by omega))) ?_
  refine Bod.aldnG dc_315_127 (by repeat (first | exact h0 | exact sm_get_p1 | exact sm_get_p2e | refine sm_get_p1m (by decide) (by decide) ?_ | refine sm_get_p1n (by decide) rfl ?_ | refine sm_get_p2n (by decide) (by decide) rfl ?_)) ?_
  refine Bod.bip 46 (by decide) dc_315_128 ?_
  refine Bod.virt (r := []) dc_315_130 kr_315_199 ⟨Or.inl rfl, ow_314, cl_14⟩ (by rw [np_314]; rfl) (by rw [np_314]; rfl) (ob_of (mk_61 _)) (Nat.le_of_ble_eq_true rfl) (hN2  ) ?_
  show Bod _ _ _ _ [_] _ _ _
  refine Bod.ifT dc_315_133 rfl (k1_eq_T (k_eq 0 0 rfl rfl (by omega))) ?_
  refine Bod.ic 1 (by decide) dc_315_208 ?_
  exact Bod.retZ dc_315_209 rt_315 (Or.inr rfl)
theorem re_call {d : Nat} {S Sf : cS} {lv : sm_L} {v : Option Value} {dp : Nat} {q : Nat} {S1 : cS} {S2 : cS} (h0 : sm_get lv 0 = some (.ref 61)) (h1 : sm_get lv 1 = some (.int (nI dp))) (hdp : dp ≤ 12) (hY0 : Ans (d + 8) 314 [.ref 61, .int (nI 40)] S (some (.int (nI 1))) S) (hq : q < 100) (hL : Ans (d + 8) 324 [.ref 61, .int (nI dp), .int (nI 41), .int (nI 8), .int (nI 0)] S (some (.int (nI q))) S1) (hP : Ans (d + 8) 302 [.ref 61, .int (nI 17), .int (nI q)] S1 none S2) (hB : ∀ lv1 : sm_L, sm_get lv1 0 = some (.ref 61) → sm_get lv1 1 = some (.int (nI dp)) → Bod (d + 8) 315 10 lv1 [] (wI 6131 (nI 0) S2) v Sf) : Bod (d + 8) 315 10 lv [] S v Sf := by
  refine Bod.aldnG dc_315_10 (by repeat (first | exact h0 | exact sm_get_p1 | exact sm_get_p2e | refine sm_get_p1m (by decide) (by decide) ?_ | refine sm_get_p1n (by decide) rfl ?_ | refine sm_get_p2n (by decide) (by decide) rfl ?_)) ?_
  refine Bod.bip 40 (by decide) dc_315_11 ?_
  refine Bod.virt (r := []) dc_315_13 kr_315_199 ⟨Or.inl rfl, ow_314, cl_14⟩ (by rw [np_314]; rfl) (by rw [np_314]; rfl) (ob_of (mk_61 _)) (Nat.le_of_ble_eq_true rfl) (hY0  ) ?_
  show Bod _ _ _ _ [_] _ _ _
  refine Bod.ifF dc_315_16 rfl (k1_eq_F (k_ne 1 0 rfl rfl (by omega) (by omega) (by omega))) ?_
  refine Bod.aldnG dc_315_19 (by repeat (first | exact h0 | exact sm_get_p1 | exact sm_get_p2e | refine sm_get_p1m (by decide) (by decide) ?_ | refine sm_get_p1n (by decide) rfl ?_ | refine sm_get_p2n (by decide) (by decide) rfl ?_)) ?_
  refine Bod.ildnG dc_315_20 (by repeat (first | exact h1 | exact sm_get_p1 | exact sm_get_p2e | refine sm_get_p1m (by decide) (by decide) ?_ | refine sm_get_p1n (by decide) rfl ?_ | refine sm_get_p2n (by decide) (by decide) rfl ?_)) ?_
  refine Bod.bip 41 (by decide) dc_315_21 ?_
  refine Bod.bip 8 (by decide) dc_315_23 ?_
  refine Bod.ic 0 (by decide) dc_315_25 ?_
  refine Bod.virt (r := []) dc_315_26 kr_315_421 ⟨Or.inl rfl, ow_324, cl_14⟩ (by rw [np_324]; rfl) (by rw [np_324]; rfl) (ob_of (mk_61 _)) (Nat.le_of_ble_eq_true rfl) (hL  ) ?_
  show Bod _ _ _ _ [_] _ _ _
  refine Bod.istn dc_315_29 (by rw [ml_315]; exact Nat.le_of_ble_eq_true rfl) ?_
  refine Bod.go dc_315_30 rfl ?_
  refine Bod.ifT dc_315_31 rfl (k1_ge_T q rfl (by omega)) ?_
  refine Bod.aldnG dc_315_36 (by repeat (first | exact h0 | exact sm_get_p1 | exact sm_get_p2e | refine sm_get_p1m (by decide) (by decide) ?_ | refine sm_get_p1n (by decide) rfl ?_ | refine sm_get_p2n (by decide) (by decide) rfl ?_)) ?_
  refine Bod.bip 17 (by decide) dc_315_37 ?_
  refine Bod.go dc_315_39 rfl ?_
  refine Bod.virt (r := []) dc_315_40 kr_315_216 ⟨Or.inl rfl, ow_302, cl_14⟩ (by rw [np_302]; rfl) (by rw [np_302]; rfl) (ob_of (mk_61 _)) (Nat.le_of_ble_eq_true rfl) (hP  ) ?_
  show Bod _ _ _ _ [] _ _ _
  refine Bod.aldnG dc_315_43 (by repeat (first | exact h0 | exact sm_get_p1 | exact sm_get_p2e | refine sm_get_p1m (by decide) (by decide) ?_ | refine sm_get_p1n (by decide) rfl ?_ | refine sm_get_p2n (by decide) (by decide) rfl ?_)) ?_
  refine Bod.ic 0 (by decide) dc_315_44 ?_
  refine Bod.put dc_315_45 fr_315_397 (mk_61 _) (Nat.le_of_ble_eq_true rfl) pf_14_31 (st_6131 _ _) (mu_I _ _ _) ?_
  refine Bod.go dc_315_48 rfl ?_
  exact hB _ (by repeat (first | exact h0 | exact sm_get_p1 | exact sm_get_p2e | refine sm_get_p1m (by decide) (by decide) ?_ | refine sm_get_p1n (by decide) rfl ?_ | refine sm_get_p2n (by decide) (by decide) rfl ?_)) (by repeat (first | exact h1 | exact sm_get_p1 | exact sm_get_p2e | refine sm_get_p1m (by decide) (by decide) ?_ | refine sm_get_p1n (by decide) rfl ?_ | refine sm_get_p2n (by decide) (by decide) rfl ?_))
theorem re_call_no {d : Nat} {S : cS} {lv : sm_L} {dp : Nat} {S1 : cS} (h0 : sm_get lv 0 = some (.ref 61)) (h1 : sm_get lv 1 = some (.int (nI dp))) (hdp : dp ≤ 12) (hY0 : Ans (d + 8) 314 [.ref 61, .int (nI 40)] S (some (.int (nI 1))) S) (hLn : Ans (d + 8) 324 [.ref 61, .int (nI dp), .int (nI 41), .int (nI 8), .int (nI 0)] S (some (.int (Int32.ofInt (-1)))) S1) : Bod (d + 8) 315 10 lv [] S (some (.int 0)) (S1) := by
  refine Bod.aldnG dc_315_10 (by repeat (first | exact h0 | exact sm_get_p1 | exact sm_get_p2e | refine sm_get_p1m (by decide) (by decide) ?_ | refine sm_get_p1n (by decide) rfl ?_ | refine sm_get_p2n (by decide) (by decide) rfl ?_)) ?_
  refine Bod.bip 40 (by decide) dc_315_11 ?_
  refine Bod.virt (r := []) dc_315_13 kr_315_199 ⟨Or.inl rfl, ow_314, cl_14⟩ (by rw [np_314]; rfl) (by rw [np_314]; rfl) (ob_of (mk_61 _)) (Nat.le_of_ble_eq_true rfl) (hY0  ) ?_
  show Bod _ _ _ _ [_] _ _ _
  refine Bod.ifF dc_315_16 rfl (k1_eq_F (k_ne 1 0 rfl rfl (by omega) (by omega) (by omega))) ?_
  refine Bod.aldnG dc_315_19 (by repeat (first | exact h0 | exact sm_get_p1 | exact sm_get_p2e | refine sm_get_p1m (by decide) (by decide) ?_ | refine sm_get_p1n (by decide) rfl ?_ | refine sm_get_p2n (by decide) (by decide) rfl ?_)) ?_
  refine Bod.ildnG dc_315_20 (by repeat (first | exact h1 | exact sm_get_p1 | exact sm_get_p2e | refine sm_get_p1m (by decide) (by decide) ?_ | refine sm_get_p1n (by decide) rfl ?_ | refine sm_get_p2n (by decide) (by decide) rfl ?_)) ?_
  refine Bod.bip 41 (by decide) dc_315_21 ?_
  refine Bod.bip 8 (by decide) dc_315_23 ?_
  refine Bod.ic 0 (by decide) dc_315_25 ?_
  refine Bod.virt (r := []) dc_315_26 kr_315_421 ⟨Or.inl rfl, ow_324, cl_14⟩ (by rw [np_324]; rfl) (by rw [np_324]; rfl) (ob_of (mk_61 _)) (Nat.le_of_ble_eq_true rfl) (hLn  ) ?_
  show Bod _ _ _ _ [_] _ _ _
  refine Bod.istn dc_315_29 (by rw [ml_315]; exact Nat.le_of_ble_eq_true rfl) ?_
  refine Bod.go dc_315_30 rfl ?_
  refine Bod.ifF dc_315_31 rfl (by decide) ?_
  refine Bod.ic 0 (by decide) dc_315_34 ?_
  exact Bod.retZ dc_315_35 rt_315 (Or.inl rfl)
theorem re_ix_deep {d : Nat} {S : cS} {lv : sm_L} {dp : Nat} {S1 : cS} (h0 : sm_get lv 0 = some (.ref 61)) (h1 : sm_get lv 1 = some (.int (nI dp))) (hdp : dp ≤ 12) (hN0 : Ans (d + 8) 314 [.ref 61, .int (nI 40)] S (some (.int (nI 0))) S) (hY1 : Ans (d + 8) 314 [.ref 61, .int (nI 91)] S (some (.int (nI 1))) S) (hd12 : dp = 12) (hB : Ans (d + 8) 299 [.ref 61] S (some (.int (nI 0))) S1) : Bod (d + 8) 315 10 lv [] S (some (.int 0)) (S1) := by
  refine Bod.aldnG dc_315_10 (by repeat (first | exact h0 | exact sm_get_p1 | exact sm_get_p2e | refine sm_get_p1m (by decide) (by decide) ?_ | refine sm_get_p1n (by decide) rfl ?_ | refine sm_get_p2n (by decide) (by decide) rfl ?_)) ?_
  refine Bod.bip 40 (by decide) dc_315_11 ?_
  refine Bod.virt (r := []) dc_315_13 kr_315_199 ⟨Or.inl rfl, ow_314, cl_14⟩ (by rw [np_314]; rfl) (by rw [np_314]; rfl) (ob_of (mk_61 _)) (Nat.le_of_ble_eq_true rfl) (hN0  ) ?_
  show Bod _ _ _ _ [_] _ _ _
  refine Bod.ifT dc_315_16 rfl (k1_eq_T (k_eq 0 0 rfl rfl (by omega))) ?_
  refine Bod.aldnG dc_315_51 (by repeat (first | exact h0 | exact sm_get_p1 | exact sm_get_p2e | refine sm_get_p1m (by decide) (by decide) ?_ | refine sm_get_p1n (by decide) rfl ?_ | refine sm_get_p2n (by decide) (by decide) rfl ?_)) ?_
  refine Bod.bip 91 (by decide) dc_315_52 ?_
  refine Bod.virt (r := []) dc_315_54 kr_315_199 ⟨Or.inl rfl, ow_314, cl_14⟩ (by rw [np_314]; rfl) (by rw [np_314]; rfl) (ob_of (mk_61 _)) (Nat.le_of_ble_eq_true rfl) (hY1  ) ?_
  show Bod _ _ _ _ [_] _ _ _
  refine Bod.ifF dc_315_57 rfl (k1_eq_F (k_ne 1 0 rfl rfl (by omega) (by omega) (by omega))) ?_
  refine Bod.ildnG dc_315_60 (by repeat (first | exact h1 | exact sm_get_p1 | exact sm_get_p2e | refine sm_get_p1m (by decide) (by decide) ?_ | refine sm_get_p1n (by decide) rfl ?_ | refine sm_get_p2n (by decide) (by decide) rfl ?_)) ?_
  refine Bod.bip 12 (by decide) dc_315_61 ?_
  refine Bod.icF dc_315_63 rfl (k2_ne_F (k_eq dp 12 rfl rfl (by omega))) ?_
  refine Bod.aldnG dc_315_66 (by repeat (first | exact h0 | exact sm_get_p1 | exact sm_get_p2e | refine sm_get_p1m (by decide) (by decide) ?_ | refine sm_get_p1n (by decide) rfl ?_ | refine sm_get_p2n (by decide) (by decide) rfl ?_)) ?_
  refine Bod.virt (r := []) dc_315_67 kr_315_202 ⟨Or.inl rfl, ow_299, cl_14⟩ (by rw [np_299]; rfl) (by rw [np_299]; rfl) (ob_of (mk_61 _)) (Nat.le_of_ble_eq_true rfl) (hB  ) ?_
  show Bod _ _ _ _ [_] _ _ _
  exact Bod.retZ dc_315_70 rt_315 (Or.inl rfl)
theorem re_ix_bad {d : Nat} {S : cS} {lv : sm_L} {dp : Nat} {j : Nat} {S1 : cS} (h0 : sm_get lv 0 = some (.ref 61)) (h1 : sm_get lv 1 = some (.int (nI dp))) (hdp : dp ≤ 12) (hN0 : Ans (d + 8) 314 [.ref 61, .int (nI 40)] S (some (.int (nI 0))) S) (hY1 : Ans (d + 8) 314 [.ref 61, .int (nI 91)] S (some (.int (nI 1))) S) (hd12 : dp < 12) (ha : sI S 6115 = nI j) (hj : j < 6002) (hD0 : Ans (d + 8) 306 [.ref 61, .int (nI (dp + 1))] (wI 6115 (nI (j + 1)) S) (some (.int (nI 0))) S1) : Bod (d + 8) 315 10 lv [] S (some (.int 0)) (S1) := by
  refine Bod.aldnG dc_315_10 (by repeat (first | exact h0 | exact sm_get_p1 | exact sm_get_p2e | refine sm_get_p1m (by decide) (by decide) ?_ | refine sm_get_p1n (by decide) rfl ?_ | refine sm_get_p2n (by decide) (by decide) rfl ?_)) ?_
  refine Bod.bip 40 (by decide) dc_315_11 ?_
  refine Bod.virt (r := []) dc_315_13 kr_315_199 ⟨Or.inl rfl, ow_314, cl_14⟩ (by rw [np_314]; rfl) (by rw [np_314]; rfl) (ob_of (mk_61 _)) (Nat.le_of_ble_eq_true rfl) (hN0  ) ?_
  show Bod _ _ _ _ [_] _ _ _
  refine Bod.ifT dc_315_16 rfl (k1_eq_T (k_eq 0 0 rfl rfl (by omega))) ?_
  refine Bod.aldnG dc_315_51 (by repeat (first | exact h0 | exact sm_get_p1 | exact sm_get_p2e | refine sm_get_p1m (by decide) (by decide) ?_ | refine sm_get_p1n (by decide) rfl ?_ | refine sm_get_p2n (by decide) (by decide) rfl ?_)) ?_
  refine Bod.bip 91 (by decide) dc_315_52 ?_
  refine Bod.virt (r := []) dc_315_54 kr_315_199 ⟨Or.inl rfl, ow_314, cl_14⟩ (by rw [np_314]; rfl) (by rw [np_314]; rfl) (ob_of (mk_61 _)) (Nat.le_of_ble_eq_true rfl) (hY1  ) ?_
  show Bod _ _ _ _ [_] _ _ _
  refine Bod.ifF dc_315_57 rfl (k1_eq_F (k_ne 1 0 rfl rfl (by omega) (by omega) (by omega))) ?_
  refine Bod.ildnG dc_315_60 (by repeat (first | exact h1 | exact sm_get_p1 | exact sm_get_p2e | refine sm_get_p1m (by decide) (by decide) ?_ | refine sm_get_p1n (by decide) rfl ?_ | refine sm_get_p2n (by decide) (by decide) rfl ?_)) ?_
  refine Bod.bip 12 (by decide) dc_315_61 ?_
  refine Bod.icT dc_315_63 rfl (k2_ne_T (k_ne dp 12 rfl rfl (by omega) (by omega) (by omega))) ?_
  refine Bod.aldnG dc_315_71 (by repeat (first | exact h0 | exact sm_get_p1 | exact sm_get_p2e | refine sm_get_p1m (by decide) (by decide) ?_ | refine sm_get_p1n (by decide) rfl ?_ | refine sm_get_p2n (by decide) (by decide) rfl ?_)) ?_
  refine Bod.go dc_315_72 rfl ?_
  refine Bod.get dc_315_73 fr_315_190 (mk_61 _) rfl ?_
  refine Bod.eqI (nI j) (by first | assumption | rfl | exact congrArg nI (by omega) | (simp (disch := omega) only [rI, rIe, rA, rIA, rLA, rJA, rVI, rQI, rVA, rQA, upd_at,  rAI, rLI, rJI, nI_add, pk_sub, kc_0, kc_1, kc_2, kc_3, kc_4, kc_5, reduceIte, Nat.reduceEqDiff, Nat.add_zero, rI_hold, rI_hold, rL_hold, ha]; done)) ?_
  refine Bod.ic 1 (by decide) dc_315_76 ?_
  refine Bod.addN (j + 1) (by omega) dc_315_77 ?_
  refine Bod.put dc_315_78 fr_315_190 (mk_61 _) (Nat.le_of_ble_eq_true rfl) pf_14_15 (st_6115 _ _) (mu_I _ _ _) ?_
  refine Bod.aldnG dc_315_81 (by repeat (first | exact h0 | exact sm_get_p1 | exact sm_get_p2e | refine sm_get_p1m (by decide) (by decide) ?_ | refine sm_get_p1n (by decide) rfl ?_ | refine sm_get_p2n (by decide) (by decide) rfl ?_)) ?_
  refine Bod.ildnG dc_315_82 (by repeat (first | exact h1 | exact sm_get_p1 | exact sm_get_p2e | refine sm_get_p1m (by decide) (by decide) ?_ | refine sm_get_p1n (by decide) rfl ?_ | refine sm_get_p2n (by decide) (by decide) rfl ?_)) ?_
  refine Bod.ic 1 (by decide) dc_315_83 ?_
  refine Bod.addN (dp + 1) (by omega) dc_315_84 ?_
  refine Bod.virt (r := []) dc_315_85 kr_315_302 ⟨Or.inl rfl, ow_306, cl_14⟩ (by rw [np_306]; rfl) (by rw [np_306]; rfl) (ob_of (mk_61 _)) (Nat.le_of_ble_eq_true rfl) (hD0  ) ?_
  show Bod _ _ _ _ [_] _ _ _
  refine Bod.ifT dc_315_88 rfl (k1_eq_T (k_eq 0 0 rfl rfl (by omega))) ?_
  refine Bod.ic 0 (by decide) dc_315_100 ?_
  exact Bod.retZ dc_315_101 rt_315 (Or.inl rfl)
theorem re_ix_no {d : Nat} {S : cS} {lv : sm_L} {dp : Nat} {j : Nat} {S2 : cS} {S1 : cS} (h0 : sm_get lv 0 = some (.ref 61)) (h1 : sm_get lv 1 = some (.int (nI dp))) (hdp : dp ≤ 12) (hN0 : Ans (d + 8) 314 [.ref 61, .int (nI 40)] S (some (.int (nI 0))) S) (hY1 : Ans (d + 8) 314 [.ref 61, .int (nI 91)] S (some (.int (nI 1))) S) (hd12 : dp < 12) (ha : sI S 6115 = nI j) (hj : j < 6002) (hD1 : Ans (d + 8) 306 [.ref 61, .int (nI (dp + 1))] (wI 6115 (nI (j + 1)) S) (some (.int (nI 1))) S1) (hT0 : Ans (d + 8) 323 [.ref 61, .int (nI 93)] S1 (some (.int (nI 0))) S2) : Bod (d + 8) 315 10 lv [] S (some (.int 0)) (S2) := by
  refine Bod.aldnG dc_315_10 (by repeat (first | exact h0 | exact sm_get_p1 | exact sm_get_p2e | refine sm_get_p1m (by decide) (by decide) ?_ | refine sm_get_p1n (by decide) rfl ?_ | refine sm_get_p2n (by decide) (by decide) rfl ?_)) ?_
  refine Bod.bip 40 (by decide) dc_315_11 ?_
  refine Bod.virt (r := []) dc_315_13 kr_315_199 ⟨Or.inl rfl, ow_314, cl_14⟩ (by rw [np_314]; rfl) (by rw [np_314]; rfl) (ob_of (mk_61 _)) (Nat.le_of_ble_eq_true rfl) (hN0  ) ?_
  show Bod _ _ _ _ [_] _ _ _
  refine Bod.ifT dc_315_16 rfl (k1_eq_T (k_eq 0 0 rfl rfl (by omega))) ?_
  refine Bod.aldnG dc_315_51 (by repeat (first | exact h0 | exact sm_get_p1 | exact sm_get_p2e | refine sm_get_p1m (by decide) (by decide) ?_ | refine sm_get_p1n (by decide) rfl ?_ | refine sm_get_p2n (by decide) (by decide) rfl ?_)) ?_
  refine Bod.bip 91 (by decide) dc_315_52 ?_
  refine Bod.virt (r := []) dc_315_54 kr_315_199 ⟨Or.inl rfl, ow_314, cl_14⟩ (by rw [np_314]; rfl) (by rw [np_314]; rfl) (ob_of (mk_61 _)) (Nat.le_of_ble_eq_true rfl) (hY1  ) ?_
  show Bod _ _ _ _ [_] _ _ _
  refine Bod.ifF dc_315_57 rfl (k1_eq_F (k_ne 1 0 rfl rfl (by omega) (by omega) (by omega))) ?_
  refine Bod.ildnG dc_315_60 (by repeat (first | exact h1 | exact sm_get_p1 | exact sm_get_p2e | refine sm_get_p1m (by decide) (by decide) ?_ | refine sm_get_p1n (by decide) rfl ?_ | refine sm_get_p2n (by decide) (by decide) rfl ?_)) ?_
  refine Bod.bip 12 (by decide) dc_315_61 ?_
  refine Bod.icT dc_315_63 rfl (k2_ne_T (k_ne dp 12 rfl rfl (by omega) (by omega) (by omega))) ?_
  refine Bod.aldnG dc_315_71 (by repeat (first | exact h0 | exact sm_get_p1 | exact sm_get_p2e | refine sm_get_p1m (by decide) (by decide) ?_ | refine sm_get_p1n (by decide) rfl ?_ | refine sm_get_p2n (by decide) (by decide) rfl ?_)) ?_
  refine Bod.go dc_315_72 rfl ?_
  refine Bod.get dc_315_73 fr_315_190 (mk_61 _) rfl ?_
  refine Bod.eqI (nI j) (by first | assumption | rfl | exact congrArg nI (by omega) | (simp (disch := omega) only [rI, rIe, rA, rIA, rLA, rJA, rVI, rQI, rVA, rQA, upd_at,  rAI, rLI, rJI, nI_add, pk_sub, kc_0, kc_1, kc_2, kc_3, kc_4, kc_5, reduceIte, Nat.reduceEqDiff, Nat.add_zero, rI_hold, rI_hold, rL_hold, ha]; done)) ?_
  refine Bod.ic 1 (by decide) dc_315_76 ?_
  refine Bod.addN (j + 1) (by omega) dc_315_77 ?_
  refine Bod.put dc_315_78 fr_315_190 (mk_61 _) (Nat.le_of_ble_eq_true rfl) pf_14_15 (st_6115 _ _) (mu_I _ _ _) ?_
  refine Bod.aldnG dc_315_81 (by repeat (first | exact h0 | exact sm_get_p1 | exact sm_get_p2e | refine sm_get_p1m (by decide) (by decide) ?_ | refine sm_get_p1n (by decide) rfl ?_ | refine sm_get_p2n (by decide) (by decide) rfl ?_)) ?_
  refine Bod.ildnG dc_315_82 (by repeat (first | exact h1 | exact sm_get_p1 | exact sm_get_p2e | refine sm_get_p1m (by decide) (by decide) ?_ | refine sm_get_p1n (by decide) rfl ?_ | refine sm_get_p2n (by decide) (by decide) rfl ?_)) ?_
  refine Bod.ic 1 (by decide) dc_315_83 ?_
  refine Bod.addN (dp + 1) (by omega) dc_315_84 ?_
  refine Bod.virt (r := []) dc_315_85 kr_315_302 ⟨Or.inl rfl, ow_306, cl_14⟩ (by rw [np_306]; rfl) (by rw [np_306]; rfl) (ob_of (mk_61 _)) (Nat.le_of_ble_eq_true rfl) (hD1  ) ?_
  show Bod _ _ _ _ [_] _ _ _
  refine Bod.ifF dc_315_88 rfl (k1_eq_F (k_ne 1 0 rfl rfl (by omega) (by omega) (by omega))) ?_
  refine Bod.aldnG dc_315_91 (by repeat (first | exact h0 | exact sm_get_p1 | exact sm_get_p2e | refine sm_get_p1m (by decide) (by decide) ?_ | refine sm_get_p1n (by decide) rfl ?_ | refine sm_get_p2n (by decide) (by decide) rfl ?_)) ?_
  refine Bod.bip 93 (by decide) dc_315_92 ?_
  refine Bod.virt (r := []) dc_315_94 kr_315_270 ⟨Or.inl rfl, ow_323, cl_14⟩ (by rw [np_323]; rfl) (by rw [np_323]; rfl) (ob_of (mk_61 _)) (Nat.le_of_ble_eq_true rfl) (hT0  ) ?_
  show Bod _ _ _ _ [_] _ _ _
  refine Bod.ifF dc_315_97 rfl (k1_ne_F (k_eq 0 0 rfl rfl (by omega))) ?_
  refine Bod.ic 0 (by decide) dc_315_100 ?_
  exact Bod.retZ dc_315_101 rt_315 (Or.inl rfl)
