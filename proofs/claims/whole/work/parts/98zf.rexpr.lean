/-! RULES of expressions of the reference: ways -/
theorem dc_306_0 : decode (sm_cc 306) 0 = .ok (.aload_n 0, 1) := by decide +kernel
theorem dc_306_1 : decode (sm_cc 306) 1 = .ok (.iload_n 1, 1) := by decide +kernel
theorem dc_306_2 : decode (sm_cc 306) 2 = .ok (.invokevirtual 394, 3) := by decide +kernel
theorem ow_307 : 14 = sm_ow 307 := by decide +kernel
theorem kr_306_394 : sm_at mt_k (sm_ow 306) 394 = some (394, 0, 307, 0, 2486) := by decide +kernel
theorem np_307 : sm_np 307 = 1 := by decide +kernel
theorem dc_306_5 : decode (sm_cc 306) 5 = .ok (.ifCond .ne (5), 3) := by decide +kernel
theorem ml_306 : sm_ml 306 = 3 := by decide +kernel
theorem dc_306_8 : decode (sm_cc 306) 8 = .ok (.iconst 0, 1) := by decide +kernel
theorem dc_306_9 : decode (sm_cc 306) 9 = .ok (.ireturn, 1) := by decide +kernel
theorem rt_306 : sm_rt 306 = some .boolean := by decide +kernel
theorem dc_306_10 : decode (sm_cc 306) 10 = .ok (.aload_n 0, 1) := by decide +kernel
theorem dc_306_11 : decode (sm_cc 306) 11 = .ok (.bipush (18), 2) := by decide +kernel
theorem dc_306_13 : decode (sm_cc 306) 13 = .ok (.invokevirtual 312, 3) := by decide +kernel
theorem ow_309 : 14 = sm_ow 309 := by decide +kernel
theorem kr_306_312 : sm_at mt_k (sm_ow 306) 312 = some (312, 0, 309, 0, 2494) := by decide +kernel
theorem np_309 : sm_np 309 = 1 := by decide +kernel
theorem dc_306_16 : decode (sm_cc 306) 16 = .ok (.ifCond .eq (43), 3) := by decide +kernel
theorem dc_306_59 : decode (sm_cc 306) 59 = .ok (.iconst 1, 1) := by decide +kernel
theorem dc_306_60 : decode (sm_cc 306) 60 = .ok (.ireturn, 1) := by decide +kernel
theorem dc_306_19 : decode (sm_cc 306) 19 = .ok (.aload_n 0, 1) := by decide +kernel
theorem dc_306_20 : decode (sm_cc 306) 20 = .ok (.dup, 1) := by decide +kernel
theorem dc_306_21 : decode (sm_cc 306) 21 = .ok (.getfield 190, 3) := by decide +kernel
theorem fr_306_190 : sm_at mt_f (sm_ow 306) 190 = some (190, 14, 15, 0, 2088) := by decide +kernel
theorem dc_306_24 : decode (sm_cc 306) 24 = .ok (.iconst 1, 1) := by decide +kernel
theorem dc_306_25 : decode (sm_cc 306) 25 = .ok (.iadd, 1) := by decide +kernel
theorem dc_306_26 : decode (sm_cc 306) 26 = .ok (.putfield 190, 3) := by decide +kernel
theorem dc_306_29 : decode (sm_cc 306) 29 = .ok (.aload_n 0, 1) := by decide +kernel
theorem dc_306_30 : decode (sm_cc 306) 30 = .ok (.bipush (14), 2) := by decide +kernel
theorem dc_306_32 : decode (sm_cc 306) 32 = .ok (.invokevirtual 305, 3) := by decide +kernel
theorem ow_325 : 14 = sm_ow 325 := by decide +kernel
theorem kr_306_305 : sm_at mt_k (sm_ow 306) 305 = some (305, 0, 325, 0, 2559) := by decide +kernel
theorem np_325 : sm_np 325 = 1 := by decide +kernel
theorem dc_306_35 : decode (sm_cc 306) 35 = .ok (.istore_n 2, 1) := by decide +kernel
theorem dc_306_36 : decode (sm_cc 306) 36 = .ok (.aload_n 0, 1) := by decide +kernel
theorem dc_306_37 : decode (sm_cc 306) 37 = .ok (.iload_n 1, 1) := by decide +kernel
theorem dc_306_38 : decode (sm_cc 306) 38 = .ok (.invokevirtual 394, 3) := by decide +kernel
theorem dc_306_41 : decode (sm_cc 306) 41 = .ok (.ifCond .ne (5), 3) := by decide +kernel
theorem dc_306_44 : decode (sm_cc 306) 44 = .ok (.iconst 0, 1) := by decide +kernel
theorem dc_306_45 : decode (sm_cc 306) 45 = .ok (.ireturn, 1) := by decide +kernel
theorem dc_306_46 : decode (sm_cc 306) 46 = .ok (.aload_n 0, 1) := by decide +kernel
theorem dc_306_47 : decode (sm_cc 306) 47 = .ok (.iload_n 2, 1) := by decide +kernel
theorem dc_306_48 : decode (sm_cc 306) 48 = .ok (.invokevirtual 317, 3) := by decide +kernel
theorem ow_326 : 14 = sm_ow 326 := by decide +kernel
theorem kr_306_317 : sm_at mt_k (sm_ow 306) 317 = some (317, 0, 326, 0, 2563) := by decide +kernel
theorem np_326 : sm_np 326 = 1 := by decide +kernel
theorem dc_306_51 : decode (sm_cc 306) 51 = .ok (.aload_n 0, 1) := by decide +kernel
theorem dc_306_52 : decode (sm_cc 306) 52 = .ok (.iconst 0, 1) := by decide +kernel
theorem dc_306_53 : decode (sm_cc 306) 53 = .ok (.putfield 397, 3) := by decide +kernel
theorem fr_306_397 : sm_at mt_f (sm_ow 306) 397 = some (397, 14, 31, 0, 2104) := by decide +kernel
theorem dc_306_56 : decode (sm_cc 306) 56 = .ok (.goto (-46), 3) := by decide +kernel
theorem dc_307_0 : decode (sm_cc 307) 0 = .ok (.aload_n 0, 1) := by decide +kernel
theorem dc_307_1 : decode (sm_cc 307) 1 = .ok (.iload_n 1, 1) := by decide +kernel
theorem dc_307_2 : decode (sm_cc 307) 2 = .ok (.invokevirtual 400, 3) := by decide +kernel
theorem ow_308 : 14 = sm_ow 308 := by decide +kernel
theorem kr_307_400 : sm_at mt_k (sm_ow 307) 400 = some (400, 0, 308, 0, 2490) := by decide +kernel
theorem np_308 : sm_np 308 = 1 := by decide +kernel
theorem dc_307_5 : decode (sm_cc 307) 5 = .ok (.ifCond .ne (5), 3) := by decide +kernel
theorem ml_307 : sm_ml 307 = 3 := by decide +kernel
theorem dc_307_8 : decode (sm_cc 307) 8 = .ok (.iconst 0, 1) := by decide +kernel
theorem dc_307_9 : decode (sm_cc 307) 9 = .ok (.ireturn, 1) := by decide +kernel
theorem rt_307 : sm_rt 307 = some .boolean := by decide +kernel
theorem dc_307_10 : decode (sm_cc 307) 10 = .ok (.aload_n 0, 1) := by decide +kernel
theorem dc_307_11 : decode (sm_cc 307) 11 = .ok (.bipush (17), 2) := by decide +kernel
theorem dc_307_13 : decode (sm_cc 307) 13 = .ok (.invokevirtual 312, 3) := by decide +kernel
theorem kr_307_312 : sm_at mt_k (sm_ow 307) 312 = some (312, 0, 309, 0, 2494) := by decide +kernel
theorem dc_307_16 : decode (sm_cc 307) 16 = .ok (.ifCond .eq (43), 3) := by decide +kernel
theorem dc_307_59 : decode (sm_cc 307) 59 = .ok (.iconst 1, 1) := by decide +kernel
theorem dc_307_60 : decode (sm_cc 307) 60 = .ok (.ireturn, 1) := by decide +kernel
theorem dc_307_19 : decode (sm_cc 307) 19 = .ok (.aload_n 0, 1) := by decide +kernel
theorem dc_307_20 : decode (sm_cc 307) 20 = .ok (.dup, 1) := by decide +kernel
theorem dc_307_21 : decode (sm_cc 307) 21 = .ok (.getfield 190, 3) := by decide +kernel
theorem fr_307_190 : sm_at mt_f (sm_ow 307) 190 = some (190, 14, 15, 0, 2088) := by decide +kernel
theorem dc_307_24 : decode (sm_cc 307) 24 = .ok (.iconst 1, 1) := by decide +kernel
theorem dc_307_25 : decode (sm_cc 307) 25 = .ok (.iadd, 1) := by decide +kernel
theorem dc_307_26 : decode (sm_cc 307) 26 = .ok (.putfield 190, 3) := by decide +kernel
theorem dc_307_29 : decode (sm_cc 307) 29 = .ok (.aload_n 0, 1) := by decide +kernel
theorem dc_307_30 : decode (sm_cc 307) 30 = .ok (.bipush (13), 2) := by decide +kernel
theorem dc_307_32 : decode (sm_cc 307) 32 = .ok (.invokevirtual 305, 3) := by decide +kernel
theorem kr_307_305 : sm_at mt_k (sm_ow 307) 305 = some (305, 0, 325, 0, 2559) := by decide +kernel
theorem dc_307_35 : decode (sm_cc 307) 35 = .ok (.istore_n 2, 1) := by decide +kernel
theorem dc_307_36 : decode (sm_cc 307) 36 = .ok (.aload_n 0, 1) := by decide +kernel
theorem dc_307_37 : decode (sm_cc 307) 37 = .ok (.iload_n 1, 1) := by decide +kernel
theorem dc_307_38 : decode (sm_cc 307) 38 = .ok (.invokevirtual 400, 3) := by decide +kernel
theorem dc_307_41 : decode (sm_cc 307) 41 = .ok (.ifCond .ne (5), 3) := by decide +kernel
theorem dc_307_44 : decode (sm_cc 307) 44 = .ok (.iconst 0, 1) := by decide +kernel
theorem dc_307_45 : decode (sm_cc 307) 45 = .ok (.ireturn, 1) := by decide +kernel
theorem dc_307_46 : decode (sm_cc 307) 46 = .ok (.aload_n 0, 1) := by decide +kernel
theorem dc_307_47 : decode (sm_cc 307) 47 = .ok (.iload_n 2, 1) := by decide +kernel
theorem dc_307_48 : decode (sm_cc 307) 48 = .ok (.invokevirtual 317, 3) := by decide +kernel
theorem kr_307_317 : sm_at mt_k (sm_ow 307) 317 = some (317, 0, 326, 0, 2563) := by decide +kernel
theorem dc_307_51 : decode (sm_cc 307) 51 = .ok (.aload_n 0, 1) := by decide +kernel
theorem dc_307_52 : decode (sm_cc 307) 52 = .ok (.iconst 0, 1) := by decide +kernel
theorem dc_307_53 : decode (sm_cc 307) 53 = .ok (.putfield 397, 3) := by decide +kernel
theorem fr_307_397 : sm_at mt_f (sm_ow 307) 397 = some (397, 14, 31, 0, 2104) := by decide +kernel
theorem dc_307_56 : decode (sm_cc 307) 56 = .ok (.goto (-46), 3) := by decide +kernel
theorem dc_311_0 : decode (sm_cc 311) 0 = .ok (.aload_n 0, 1) := by decide +kernel
theorem dc_311_1 : decode (sm_cc 311) 1 = .ok (.iload_n 1, 1) := by decide +kernel
theorem dc_311_2 : decode (sm_cc 311) 2 = .ok (.invokevirtual 409, 3) := by decide +kernel
theorem ow_312 : 14 = sm_ow 312 := by decide +kernel
theorem kr_311_409 : sm_at mt_k (sm_ow 311) 409 = some (409, 0, 312, 0, 2506) := by decide +kernel
theorem np_312 : sm_np 312 = 1 := by decide +kernel
theorem dc_311_5 : decode (sm_cc 311) 5 = .ok (.ifCond .ne (5), 3) := by decide +kernel
theorem ml_311 : sm_ml 311 = 3 := by decide +kernel
theorem dc_311_8 : decode (sm_cc 311) 8 = .ok (.iconst 0, 1) := by decide +kernel
theorem dc_311_9 : decode (sm_cc 311) 9 = .ok (.ireturn, 1) := by decide +kernel
theorem rt_311 : sm_rt 311 = some .boolean := by decide +kernel
theorem dc_311_10 : decode (sm_cc 311) 10 = .ok (.aload_n 0, 1) := by decide +kernel
theorem dc_311_11 : decode (sm_cc 311) 11 = .ok (.bipush (43), 2) := by decide +kernel
theorem dc_311_13 : decode (sm_cc 311) 13 = .ok (.invokevirtual 199, 3) := by decide +kernel
theorem kr_311_199 : sm_at mt_k (sm_ow 311) 199 = some (199, 0, 314, 0, 2514) := by decide +kernel
theorem dc_311_16 : decode (sm_cc 311) 16 = .ok (.ifCond .ne (12), 3) := by decide +kernel
theorem dc_311_19 : decode (sm_cc 311) 19 = .ok (.aload_n 0, 1) := by decide +kernel
theorem dc_311_20 : decode (sm_cc 311) 20 = .ok (.bipush (45), 2) := by decide +kernel
theorem dc_311_22 : decode (sm_cc 311) 22 = .ok (.invokevirtual 199, 3) := by decide +kernel
theorem dc_311_25 : decode (sm_cc 311) 25 = .ok (.ifCond .eq (48), 3) := by decide +kernel
theorem dc_311_73 : decode (sm_cc 311) 73 = .ok (.iconst 1, 1) := by decide +kernel
theorem dc_311_74 : decode (sm_cc 311) 74 = .ok (.ireturn, 1) := by decide +kernel
theorem dc_311_28 : decode (sm_cc 311) 28 = .ok (.aload_n 0, 1) := by decide +kernel
theorem dc_311_29 : decode (sm_cc 311) 29 = .ok (.getfield 135, 3) := by decide +kernel
theorem fr_311_135 : sm_at mt_f (sm_ow 311) 135 = some (135, 14, 7, 0, 2080) := by decide +kernel
theorem dc_311_32 : decode (sm_cc 311) 32 = .ok (.aload_n 0, 1) := by decide +kernel
theorem dc_311_33 : decode (sm_cc 311) 33 = .ok (.getfield 190, 3) := by decide +kernel
theorem fr_311_190 : sm_at mt_f (sm_ow 311) 190 = some (190, 14, 15, 0, 2088) := by decide +kernel
theorem dc_311_36 : decode (sm_cc 311) 36 = .ok (.iaload, 1) := by decide +kernel
theorem dc_311_37 : decode (sm_cc 311) 37 = .ok (.istore_n 2, 1) := by decide +kernel
theorem dc_311_38 : decode (sm_cc 311) 38 = .ok (.aload_n 0, 1) := by decide +kernel
theorem dc_311_39 : decode (sm_cc 311) 39 = .ok (.dup, 1) := by decide +kernel
theorem dc_311_40 : decode (sm_cc 311) 40 = .ok (.getfield 190, 3) := by decide +kernel
theorem dc_311_43 : decode (sm_cc 311) 43 = .ok (.iconst 1, 1) := by decide +kernel
theorem dc_311_44 : decode (sm_cc 311) 44 = .ok (.iadd, 1) := by decide +kernel
theorem dc_311_45 : decode (sm_cc 311) 45 = .ok (.putfield 190, 3) := by decide +kernel
theorem dc_311_48 : decode (sm_cc 311) 48 = .ok (.aload_n 0, 1) := by decide +kernel
theorem dc_311_49 : decode (sm_cc 311) 49 = .ok (.iload_n 1, 1) := by decide +kernel
theorem dc_311_50 : decode (sm_cc 311) 50 = .ok (.invokevirtual 409, 3) := by decide +kernel
theorem dc_311_53 : decode (sm_cc 311) 53 = .ok (.ifCond .ne (5), 3) := by decide +kernel
theorem dc_311_56 : decode (sm_cc 311) 56 = .ok (.iconst 0, 1) := by decide +kernel
theorem dc_311_57 : decode (sm_cc 311) 57 = .ok (.ireturn, 1) := by decide +kernel
theorem dc_311_58 : decode (sm_cc 311) 58 = .ok (.aload_n 0, 1) := by decide +kernel
theorem dc_311_59 : decode (sm_cc 311) 59 = .ok (.bipush (8), 2) := by decide +kernel
theorem dc_311_61 : decode (sm_cc 311) 61 = .ok (.iload_n 2, 1) := by decide +kernel
theorem dc_311_62 : decode (sm_cc 311) 62 = .ok (.invokevirtual 216, 3) := by decide +kernel
theorem kr_311_216 : sm_at mt_k (sm_ow 311) 216 = some (216, 0, 302, 0, 2465) := by decide +kernel
theorem dc_311_65 : decode (sm_cc 311) 65 = .ok (.aload_n 0, 1) := by decide +kernel
theorem dc_311_66 : decode (sm_cc 311) 66 = .ok (.iconst 0, 1) := by decide +kernel
theorem dc_311_67 : decode (sm_cc 311) 67 = .ok (.putfield 397, 3) := by decide +kernel
theorem fr_311_397 : sm_at mt_f (sm_ow 311) 397 = some (397, 14, 31, 0, 2104) := by decide +kernel
theorem dc_311_70 : decode (sm_cc 311) 70 = .ok (.goto (-60), 3) := by decide +kernel
theorem dc_312_0 : decode (sm_cc 312) 0 = .ok (.aload_n 0, 1) := by decide +kernel
theorem dc_312_1 : decode (sm_cc 312) 1 = .ok (.iload_n 1, 1) := by decide +kernel
theorem dc_312_2 : decode (sm_cc 312) 2 = .ok (.invokevirtual 412, 3) := by decide +kernel
theorem ow_313 : 14 = sm_ow 313 := by decide +kernel
theorem kr_312_412 : sm_at mt_k (sm_ow 312) 412 = some (412, 0, 313, 0, 2510) := by decide +kernel
theorem np_313 : sm_np 313 = 1 := by decide +kernel
theorem dc_312_5 : decode (sm_cc 312) 5 = .ok (.ifCond .ne (5), 3) := by decide +kernel
theorem ml_312 : sm_ml 312 = 3 := by decide +kernel
theorem dc_312_8 : decode (sm_cc 312) 8 = .ok (.iconst 0, 1) := by decide +kernel
theorem dc_312_9 : decode (sm_cc 312) 9 = .ok (.ireturn, 1) := by decide +kernel
theorem rt_312 : sm_rt 312 = some .boolean := by decide +kernel
theorem dc_312_10 : decode (sm_cc 312) 10 = .ok (.aload_n 0, 1) := by decide +kernel
theorem dc_312_11 : decode (sm_cc 312) 11 = .ok (.bipush (42), 2) := by decide +kernel
theorem dc_312_13 : decode (sm_cc 312) 13 = .ok (.invokevirtual 199, 3) := by decide +kernel
theorem kr_312_199 : sm_at mt_k (sm_ow 312) 199 = some (199, 0, 314, 0, 2514) := by decide +kernel
theorem dc_312_16 : decode (sm_cc 312) 16 = .ok (.ifCond .ne (22), 3) := by decide +kernel
theorem dc_312_19 : decode (sm_cc 312) 19 = .ok (.aload_n 0, 1) := by decide +kernel
theorem dc_312_20 : decode (sm_cc 312) 20 = .ok (.sipush (12079), 3) := by decide +kernel
theorem dc_312_23 : decode (sm_cc 312) 23 = .ok (.invokevirtual 199, 3) := by decide +kernel
theorem dc_312_26 : decode (sm_cc 312) 26 = .ok (.ifCond .ne (12), 3) := by decide +kernel
theorem dc_312_29 : decode (sm_cc 312) 29 = .ok (.aload_n 0, 1) := by decide +kernel
theorem dc_312_30 : decode (sm_cc 312) 30 = .ok (.bipush (37), 2) := by decide +kernel
theorem dc_312_32 : decode (sm_cc 312) 32 = .ok (.invokevirtual 199, 3) := by decide +kernel
theorem dc_312_35 : decode (sm_cc 312) 35 = .ok (.ifCond .eq (48), 3) := by decide +kernel
theorem dc_312_83 : decode (sm_cc 312) 83 = .ok (.iconst 1, 1) := by decide +kernel
theorem dc_312_84 : decode (sm_cc 312) 84 = .ok (.ireturn, 1) := by decide +kernel
theorem dc_312_38 : decode (sm_cc 312) 38 = .ok (.aload_n 0, 1) := by decide +kernel
theorem dc_312_39 : decode (sm_cc 312) 39 = .ok (.getfield 135, 3) := by decide +kernel
theorem fr_312_135 : sm_at mt_f (sm_ow 312) 135 = some (135, 14, 7, 0, 2080) := by decide +kernel
theorem dc_312_42 : decode (sm_cc 312) 42 = .ok (.aload_n 0, 1) := by decide +kernel
theorem dc_312_43 : decode (sm_cc 312) 43 = .ok (.getfield 190, 3) := by decide +kernel
theorem fr_312_190 : sm_at mt_f (sm_ow 312) 190 = some (190, 14, 15, 0, 2088) := by decide +kernel
theorem dc_312_46 : decode (sm_cc 312) 46 = .ok (.iaload, 1) := by decide +kernel
theorem dc_312_47 : decode (sm_cc 312) 47 = .ok (.istore_n 2, 1) := by decide +kernel
theorem dc_312_48 : decode (sm_cc 312) 48 = .ok (.aload_n 0, 1) := by decide +kernel
theorem dc_312_49 : decode (sm_cc 312) 49 = .ok (.dup, 1) := by decide +kernel
theorem dc_312_50 : decode (sm_cc 312) 50 = .ok (.getfield 190, 3) := by decide +kernel
theorem dc_312_53 : decode (sm_cc 312) 53 = .ok (.iconst 1, 1) := by decide +kernel
theorem dc_312_54 : decode (sm_cc 312) 54 = .ok (.iadd, 1) := by decide +kernel
theorem dc_312_55 : decode (sm_cc 312) 55 = .ok (.putfield 190, 3) := by decide +kernel
theorem dc_312_58 : decode (sm_cc 312) 58 = .ok (.aload_n 0, 1) := by decide +kernel
theorem dc_312_59 : decode (sm_cc 312) 59 = .ok (.iload_n 1, 1) := by decide +kernel
theorem dc_312_60 : decode (sm_cc 312) 60 = .ok (.invokevirtual 412, 3) := by decide +kernel
theorem dc_312_63 : decode (sm_cc 312) 63 = .ok (.ifCond .ne (5), 3) := by decide +kernel
theorem dc_312_66 : decode (sm_cc 312) 66 = .ok (.iconst 0, 1) := by decide +kernel
theorem dc_312_67 : decode (sm_cc 312) 67 = .ok (.ireturn, 1) := by decide +kernel
theorem dc_312_68 : decode (sm_cc 312) 68 = .ok (.aload_n 0, 1) := by decide +kernel
theorem dc_312_69 : decode (sm_cc 312) 69 = .ok (.bipush (8), 2) := by decide +kernel
theorem dc_312_71 : decode (sm_cc 312) 71 = .ok (.iload_n 2, 1) := by decide +kernel
theorem dc_312_72 : decode (sm_cc 312) 72 = .ok (.invokevirtual 216, 3) := by decide +kernel
theorem kr_312_216 : sm_at mt_k (sm_ow 312) 216 = some (216, 0, 302, 0, 2465) := by decide +kernel
theorem dc_312_75 : decode (sm_cc 312) 75 = .ok (.aload_n 0, 1) := by decide +kernel
theorem dc_312_76 : decode (sm_cc 312) 76 = .ok (.iconst 0, 1) := by decide +kernel
theorem dc_312_77 : decode (sm_cc 312) 77 = .ok (.putfield 397, 3) := by decide +kernel
theorem fr_312_397 : sm_at mt_f (sm_ow 312) 397 = some (397, 14, 31, 0, 2104) := by decide +kernel
theorem dc_312_80 : decode (sm_cc 312) 80 = .ok (.goto (-70), 3) := by decide +kernel
theorem re_or_go {d : Nat} {S Sf : cS} {v : Option Value} {dp : Nat} {S1 : cS} (hdp : dp ≤ 12) (hC1 : Ans (d + 8) 307 [.ref 61, .int (nI dp)] S (some (.int (nI 1))) S1) (hB : ∀ lv1 : sm_L, sm_get lv1 0 = some (.ref 61) → sm_get lv1 1 = some (.int (nI dp)) → Bod (d + 8) 306 10 lv1 [] (S1) v Sf) : Ans (d + 9) 306 [.ref 61, .int (nI dp)] S v Sf := by
  refine Ans.of (by rw [ml_306]; exact Nat.le_of_ble_eq_true rfl) ?_
  refine Bod.go dc_306_0 rfl ?_
  refine Bod.go dc_306_1 rfl ?_
  refine Bod.virt (r := []) dc_306_2 kr_306_394 ⟨Or.inl rfl, ow_307, cl_14⟩ (by rw [np_307]; rfl) (by rw [np_307]; rfl) (ob_of (mk_61 _)) (Nat.le_of_ble_eq_true rfl) (hC1  ) ?_
  show Bod _ _ _ _ [_] _ _ _
  refine Bod.ifT dc_306_5 rfl (k1_ne_T (k_ne 1 0 rfl rfl (by omega) (by omega) (by omega))) ?_
  exact hB _ (by repeat (first | exact sm_get_p1 | exact sm_get_p2e | refine sm_get_p1m (by decide) (by decide) ?_ | refine sm_get_p1n (by decide) rfl ?_ | refine sm_get_p2n (by decide) (by decide) rfl ?_ | rfl)) (by repeat (first | exact sm_get_p1 | exact sm_get_p2e | refine sm_get_p1m (by decide) (by decide) ?_ | refine sm_get_p1n (by decide) rfl ?_ | refine sm_get_p2n (by decide) (by decide) rfl ?_ | rfl))
theorem re_or_no {d : Nat} {S : cS} {dp : Nat} {S1 : cS} (hdp : dp ≤ 12) (hC0 : Ans (d + 8) 307 [.ref 61, .int (nI dp)] S (some (.int (nI 0))) S1) : Ans (d + 9) 306 [.ref 61, .int (nI dp)] S (some (.int 0)) (S1) := by
  refine Ans.of (by rw [ml_306]; exact Nat.le_of_ble_eq_true rfl) ?_
  refine Bod.go dc_306_0 rfl ?_
  refine Bod.go dc_306_1 rfl ?_
  refine Bod.virt (r := []) dc_306_2 kr_306_394 ⟨Or.inl rfl, ow_307, cl_14⟩ (by rw [np_307]; rfl) (by rw [np_307]; rfl) (ob_of (mk_61 _)) (Nat.le_of_ble_eq_true rfl) (hC0  ) ?_
  show Bod _ _ _ _ [_] _ _ _
  refine Bod.ifF dc_306_5 rfl (k1_ne_F (k_eq 0 0 rfl rfl (by omega))) ?_
  refine Bod.ic 0 (by decide) dc_306_8 ?_
  exact Bod.retZ dc_306_9 rt_306 (Or.inl rfl)
theorem re_or_end {d : Nat} {S : cS} {lv : sm_L} {dp : Nat}  (h0 : sm_get lv 0 = some (.ref 61)) (h1 : sm_get lv 1 = some (.int (nI dp))) (hdp : dp ≤ 12) (hW0 : Ans (d + 8) 309 [.ref 61, .int (nI 18)] S (some (.int (nI 0))) S) : Bod (d + 8) 306 10 lv [] S (some (.int 1)) (S) := by
  refine Bod.aldnG dc_306_10 (by repeat (first | exact h0 | exact sm_get_p1 | exact sm_get_p2e | refine sm_get_p1m (by decide) (by decide) ?_ | refine sm_get_p1n (by decide) rfl ?_ | refine sm_get_p2n (by decide) (by decide) rfl ?_)) ?_
  refine Bod.bip 18 (by decide) dc_306_11 ?_
  refine Bod.virt (r := []) dc_306_13 kr_306_312 ⟨Or.inl rfl, ow_309, cl_14⟩ (by rw [np_309]; rfl) (by rw [np_309]; rfl) (ob_of (mk_61 _)) (Nat.le_of_ble_eq_true rfl) (hW0  ) ?_
  show Bod _ _ _ _ [_] _ _ _
  refine Bod.ifT dc_306_16 rfl (k1_eq_T (k_eq 0 0 rfl rfl (by omega))) ?_
  refine Bod.ic 1 (by decide) dc_306_59 ?_
  exact Bod.retZ dc_306_60 rt_306 (Or.inr rfl)
theorem re_or_bad {d : Nat} {S : cS} {lv : sm_L} {dp : Nat} {j : Nat} {q : Nat} {S1 : cS} {S2 : cS} (h0 : sm_get lv 0 = some (.ref 61)) (h1 : sm_get lv 1 = some (.int (nI dp))) (hdp : dp ≤ 12) (ha : sI S 6115 = nI j) (hj : j < 6002) (hq : q < 2 ^ 20) (hW1 : Ans (d + 8) 309 [.ref 61, .int (nI 18)] S (some (.int (nI 1))) S) (hH : Ans (d + 8) 325 [.ref 61, .int (nI 14)] (wI 6115 (nI (j + 1)) S) (some (.int (nI q))) S1) (hD0 : Ans (d + 8) 307 [.ref 61, .int (nI dp)] S1 (some (.int (nI 0))) S2) : Bod (d + 8) 306 10 lv [] S (some (.int 0)) (S2) := by
  refine Bod.aldnG dc_306_10 (by repeat (first | exact h0 | exact sm_get_p1 | exact sm_get_p2e | refine sm_get_p1m (by decide) (by decide) ?_ | refine sm_get_p1n (by decide) rfl ?_ | refine sm_get_p2n (by decide) (by decide) rfl ?_)) ?_
  refine Bod.bip 18 (by decide) dc_306_11 ?_
  refine Bod.virt (r := []) dc_306_13 kr_306_312 ⟨Or.inl rfl, ow_309, cl_14⟩ (by rw [np_309]; rfl) (by rw [np_309]; rfl) (ob_of (mk_61 _)) (Nat.le_of_ble_eq_true rfl) (hW1  ) ?_
  show Bod _ _ _ _ [_] _ _ _
  refine Bod.ifF dc_306_16 rfl (k1_eq_F (k_ne 1 0 rfl rfl (by omega) (by omega) (by omega))) ?_
  refine Bod.aldnG dc_306_19 (by repeat (first | exact h0 | exact sm_get_p1 | exact sm_get_p2e | refine sm_get_p1m (by decide) (by decide) ?_ | refine sm_get_p1n (by decide) rfl ?_ | refine sm_get_p2n (by decide) (by decide) rfl ?_)) ?_
  refine Bod.go dc_306_20 rfl ?_
  refine Bod.get dc_306_21 fr_306_190 (mk_61 _) rfl ?_
  refine Bod.eqI (nI j) (by first | assumption | rfl | exact congrArg nI (by omega) | (simp (disch := omega) only [rI, rIe, rA, rIA, rLA, rJA, rVI, rQI, rVA, rQA, upd_at,  rAI, rLI, rJI, nI_add, pk_sub, kc_0, kc_1, kc_2, kc_3, kc_4, kc_5, reduceIte, Nat.reduceEqDiff, Nat.add_zero, rI_hold, rI_hold, rL_hold, ha]; done)) ?_
  refine Bod.ic 1 (by decide) dc_306_24 ?_
  refine Bod.addN (j + 1) (by omega) dc_306_25 ?_
  refine Bod.put dc_306_26 fr_306_190 (mk_61 _) (Nat.le_of_ble_eq_true rfl) pf_14_15 (st_6115 _ _) (mu_I _ _ _) ?_
  refine Bod.aldnG dc_306_29 (by repeat (first | exact h0 | exact sm_get_p1 | exact sm_get_p2e | refine sm_get_p1m (by decide) (by decide) ?_ | refine sm_get_p1n (by decide) rfl ?_ | refine sm_get_p2n (by decide) (by decide) rfl ?_)) ?_
  refine Bod.bip 14 (by decide) dc_306_30 ?_
  refine Bod.virt (r := []) dc_306_32 kr_306_305 ⟨Or.inl rfl, ow_325, cl_14⟩ (by rw [np_325]; rfl) (by rw [np_325]; rfl) (ob_of (mk_61 _)) (Nat.le_of_ble_eq_true rfl) (hH  ) ?_
  show Bod _ _ _ _ [_] _ _ _
  refine Bod.istn dc_306_35 (by rw [ml_306]; exact Nat.le_of_ble_eq_true rfl) ?_
  refine Bod.aldnG dc_306_36 (by repeat (first | exact h0 | exact sm_get_p1 | exact sm_get_p2e | refine sm_get_p1m (by decide) (by decide) ?_ | refine sm_get_p1n (by decide) rfl ?_ | refine sm_get_p2n (by decide) (by decide) rfl ?_)) ?_
  refine Bod.ildnG dc_306_37 (by repeat (first | exact h1 | exact sm_get_p1 | exact sm_get_p2e | refine sm_get_p1m (by decide) (by decide) ?_ | refine sm_get_p1n (by decide) rfl ?_ | refine sm_get_p2n (by decide) (by decide) rfl ?_)) ?_
  refine Bod.virt (r := []) dc_306_38 kr_306_394 ⟨Or.inl rfl, ow_307, cl_14⟩ (by rw [np_307]; rfl) (by rw [np_307]; rfl) (ob_of (mk_61 _)) (Nat.le_of_ble_eq_true rfl) (hD0  ) ?_
  show Bod _ _ _ _ [_] _ _ _
  refine Bod.ifF dc_306_41 rfl (k1_ne_F (k_eq 0 0 rfl rfl (by omega))) ?_
  refine Bod.ic 0 (by decide) dc_306_44 ?_
  exact Bod.retZ dc_306_45 rt_306 (Or.inl rfl)
theorem re_or_turn {d : Nat} {S Sf : cS} {lv : sm_L} {v : Option Value} {dp : Nat} {j : Nat} {q : Nat} {S1 : cS} {S2 : cS} {S3 : cS} (h0 : sm_get lv 0 = some (.ref 61)) (h1 : sm_get lv 1 = some (.int (nI dp))) (hdp : dp ≤ 12) (ha : sI S 6115 = nI j) (hj : j < 6002) (hq : q < 2 ^ 20) (hW1 : Ans (d + 8) 309 [.ref 61, .int (nI 18)] S (some (.int (nI 1))) S) (hH : Ans (d + 8) 325 [.ref 61, .int (nI 14)] (wI 6115 (nI (j + 1)) S) (some (.int (nI q))) S1) (hD1 : Ans (d + 8) 307 [.ref 61, .int (nI dp)] S1 (some (.int (nI 1))) S2) (hF : Ans (d + 8) 326 [.ref 61, .int (nI q)] S2 none S3) (hB : ∀ lv1 : sm_L, sm_get lv1 0 = some (.ref 61) → sm_get lv1 1 = some (.int (nI dp)) → Bod (d + 8) 306 10 lv1 [] (wI 6131 (nI 0) S3) v Sf) : Bod (d + 8) 306 10 lv [] S v Sf := by
  refine Bod.aldnG dc_306_10 (by repeat (first | exact h0 | exact sm_get_p1 | exact sm_get_p2e | refine sm_get_p1m (by decide) (by decide) ?_ | refine sm_get_p1n (by decide) rfl ?_ | refine sm_get_p2n (by decide) (by decide) rfl ?_)) ?_
  refine Bod.bip 18 (by decide) dc_306_11 ?_
  refine Bod.virt (r := []) dc_306_13 kr_306_312 ⟨Or.inl rfl, ow_309, cl_14⟩ (by rw [np_309]; rfl) (by rw [np_309]; rfl) (ob_of (mk_61 _)) (Nat.le_of_ble_eq_true rfl) (hW1  ) ?_
  show Bod _ _ _ _ [_] _ _ _
  refine Bod.ifF dc_306_16 rfl (k1_eq_F (k_ne 1 0 rfl rfl (by omega) (by omega) (by omega))) ?_
  refine Bod.aldnG dc_306_19 (by repeat (first | exact h0 | exact sm_get_p1 | exact sm_get_p2e | refine sm_get_p1m (by decide) (by decide) ?_ | refine sm_get_p1n (by decide) rfl ?_ | refine sm_get_p2n (by decide) (by decide) rfl ?_)) ?_
  refine Bod.go dc_306_20 rfl ?_
  refine Bod.get dc_306_21 fr_306_190 (mk_61 _) rfl ?_
  refine Bod.eqI (nI j) (by first | assumption | rfl | exact congrArg nI (by omega) | (simp (disch := omega) only [rI, rIe, rA, rIA, rLA, rJA, rVI, rQI, rVA, rQA, upd_at,  rAI, rLI, rJI, nI_add, pk_sub, kc_0, kc_1, kc_2, kc_3, kc_4, kc_5, reduceIte, Nat.reduceEqDiff, Nat.add_zero, rI_hold, rI_hold, rL_hold, ha]; done)) ?_
  refine Bod.ic 1 (by decide) dc_306_24 ?_
  refine Bod.addN (j + 1) (by omega) dc_306_25 ?_
  refine Bod.put dc_306_26 fr_306_190 (mk_61 _) (Nat.le_of_ble_eq_true rfl) pf_14_15 (st_6115 _ _) (mu_I _ _ _) ?_
  refine Bod.aldnG dc_306_29 (by repeat (first | exact h0 | exact sm_get_p1 | exact sm_get_p2e | refine sm_get_p1m (by decide) (by decide) ?_ | refine sm_get_p1n (by decide) rfl ?_ | refine sm_get_p2n (by decide) (by decide) rfl ?_)) ?_
  refine Bod.bip 14 (by decide) dc_306_30 ?_
  refine Bod.virt (r := []) dc_306_32 kr_306_305 ⟨Or.inl rfl, ow_325, cl_14⟩ (by rw [np_325]; rfl) (by rw [np_325]; rfl) (ob_of (mk_61 _)) (Nat.le_of_ble_eq_true rfl) (hH  ) ?_
  show Bod _ _ _ _ [_] _ _ _
  refine Bod.istn dc_306_35 (by rw [ml_306]; exact Nat.le_of_ble_eq_true rfl) ?_
  refine Bod.aldnG dc_306_36 (by repeat (first | exact h0 | exact sm_get_p1 | exact sm_get_p2e | refine sm_get_p1m (by decide) (by decide) ?_ | refine sm_get_p1n (by decide) rfl ?_ | refine sm_get_p2n (by decide) (by decide) rfl ?_)) ?_
  refine Bod.ildnG dc_306_37 (by repeat (first | exact h1 | exact sm_get_p1 | exact sm_get_p2e | refine sm_get_p1m (by decide) (by decide) ?_ | refine sm_get_p1n (by decide) rfl ?_ | refine sm_get_p2n (by decide) (by decide) rfl ?_)) ?_
  refine Bod.virt (r := []) dc_306_38 kr_306_394 ⟨Or.inl rfl, ow_307, cl_14⟩ (by rw [np_307]; rfl) (by rw [np_307]; rfl) (ob_of (mk_61 _)) (Nat.le_of_ble_eq_true rfl) (hD1  ) ?_
  show Bod _ _ _ _ [_] _ _ _
  refine Bod.ifT dc_306_41 rfl (k1_ne_T (k_ne 1 0 rfl rfl (by omega) (by omega) (by omega))) ?_
  refine Bod.aldnG dc_306_46 (by repeat (first | exact h0 | exact sm_get_p1 | exact sm_get_p2e | refine sm_get_p1m (by decide) (by decide) ?_ | refine sm_get_p1n (by decide) rfl ?_ | refine sm_get_p2n (by decide) (by decide) rfl ?_)) ?_
  refine Bod.go dc_306_47 rfl ?_
  refine Bod.virt (r := []) dc_306_48 kr_306_317 ⟨Or.inl rfl, ow_326, cl_14⟩ (by rw [np_326]; rfl) (by rw [np_326]; rfl) (ob_of (mk_61 _)) (Nat.le_of_ble_eq_true rfl) (hF  ) ?_
  show Bod _ _ _ _ [] _ _ _
  refine Bod.aldnG dc_306_51 (by repeat (first | exact h0 | exact sm_get_p1 | exact sm_get_p2e | refine sm_get_p1m (by decide) (by decide) ?_ | refine sm_get_p1n (by decide) rfl ?_ | refine sm_get_p2n (by decide) (by decide) rfl ?_)) ?_
  refine Bod.ic 0 (by decide) dc_306_52 ?_
  refine Bod.put dc_306_53 fr_306_397 (mk_61 _) (Nat.le_of_ble_eq_true rfl) pf_14_31 (st_6131 _ _) (mu_I _ _ _) ?_
  refine Bod.go dc_306_56 rfl ?_
  exact hB _ (by repeat (first | exact h0 | exact sm_get_p1 | exact sm_get_p2e | refine sm_get_p1m (by decide) (by decide) ?_ | refine sm_get_p1n (by decide) rfl ?_ | refine sm_get_p2n (by decide) (by decide) rfl ?_)) (by repeat (first | exact h1 | exact sm_get_p1 | exact sm_get_p2e | refine sm_get_p1m (by decide) (by decide) ?_ | refine sm_get_p1n (by decide) rfl ?_ | refine sm_get_p2n (by decide) (by decide) rfl ?_))
theorem re_and_go {d : Nat} {S Sf : cS} {v : Option Value} {dp : Nat} {S1 : cS} (hdp : dp ≤ 12) (hC1 : Ans (d + 8) 308 [.ref 61, .int (nI dp)] S (some (.int (nI 1))) S1) (hB : ∀ lv1 : sm_L, sm_get lv1 0 = some (.ref 61) → sm_get lv1 1 = some (.int (nI dp)) → Bod (d + 8) 307 10 lv1 [] (S1) v Sf) : Ans (d + 9) 307 [.ref 61, .int (nI dp)] S v Sf := by
  refine Ans.of (by rw [ml_307]; exact Nat.le_of_ble_eq_true rfl) ?_
  refine Bod.go dc_307_0 rfl ?_
  refine Bod.go dc_307_1 rfl ?_
  refine Bod.virt (r := []) dc_307_2 kr_307_400 ⟨Or.inl rfl, ow_308, cl_14⟩ (by rw [np_308]; rfl) (by rw [np_308]; rfl) (ob_of (mk_61 _)) (Nat.le_of_ble_eq_true rfl) (hC1  ) ?_
  show Bod _ _ _ _ [_] _ _ _
  refine Bod.ifT dc_307_5 rfl (k1_ne_T (k_ne 1 0 rfl rfl (by omega) (by omega) (by omega))) ?_
  exact hB _ (by repeat (first | exact sm_get_p1 | exact sm_get_p2e | refine sm_get_p1m (by decide) (by decide) ?_ | refine sm_get_p1n (by decide) rfl ?_ | refine sm_get_p2n (by decide) (by decide) rfl ?_ | rfl)) (by repeat (first | exact sm_get_p1 | exact sm_get_p2e | refine sm_get_p1m (by decide) (by decide) ?_ | refine sm_get_p1n (by decide) rfl ?_ | refine sm_get_p2n (by decide) (by decide) rfl ?_ | rfl))
theorem re_and_no {d : Nat} {S : cS} {dp : Nat} {S1 : cS} (hdp : dp ≤ 12) (hC0 : Ans (d + 8) 308 [.ref 61, .int (nI dp)] S (some (.int (nI 0))) S1) : Ans (d + 9) 307 [.ref 61, .int (nI dp)] S (some (.int 0)) (S1) := by
  refine Ans.of (by rw [ml_307]; exact Nat.le_of_ble_eq_true rfl) ?_
  refine Bod.go dc_307_0 rfl ?_
  refine Bod.go dc_307_1 rfl ?_
  refine Bod.virt (r := []) dc_307_2 kr_307_400 ⟨Or.inl rfl, ow_308, cl_14⟩ (by rw [np_308]; rfl) (by rw [np_308]; rfl) (ob_of (mk_61 _)) (Nat.le_of_ble_eq_true rfl) (hC0  ) ?_
  show Bod _ _ _ _ [_] _ _ _
  refine Bod.ifF dc_307_5 rfl (k1_ne_F (k_eq 0 0 rfl rfl (by omega))) ?_
  refine Bod.ic 0 (by decide) dc_307_8 ?_
  exact Bod.retZ dc_307_9 rt_307 (Or.inl rfl)
theorem re_and_end {d : Nat} {S : cS} {lv : sm_L} {dp : Nat}  (h0 : sm_get lv 0 = some (.ref 61)) (h1 : sm_get lv 1 = some (.int (nI dp))) (hdp : dp ≤ 12) (hW0 : Ans (d + 8) 309 [.ref 61, .int (nI 17)] S (some (.int (nI 0))) S) : Bod (d + 8) 307 10 lv [] S (some (.int 1)) (S) := by
  refine Bod.aldnG dc_307_10 (by repeat (first | exact h0 | exact sm_get_p1 | exact sm_get_p2e | refine sm_get_p1m (by decide) (by decide) ?_ | refine sm_get_p1n (by decide) rfl ?_ | refine sm_get_p2n (by decide) (by decide) rfl ?_)) ?_
  refine Bod.bip 17 (by decide) dc_307_11 ?_
  refine Bod.virt (r := []) dc_307_13 kr_307_312 ⟨Or.inl rfl, ow_309, cl_14⟩ (by rw [np_309]; rfl) (by rw [np_309]; rfl) (ob_of (mk_61 _)) (Nat.le_of_ble_eq_true rfl) (hW0  ) ?_
  show Bod _ _ _ _ [_] _ _ _
  refine Bod.ifT dc_307_16 rfl (k1_eq_T (k_eq 0 0 rfl rfl (by omega))) ?_
  refine Bod.ic 1 (by decide) dc_307_59 ?_
  exact Bod.retZ dc_307_60 rt_307 (Or.inr rfl)
theorem re_and_bad {d : Nat} {S : cS} {lv : sm_L} {dp : Nat} {j : Nat} {q : Nat} {S1 : cS} {S2 : cS} (h0 : sm_get lv 0 = some (.ref 61)) (h1 : sm_get lv 1 = some (.int (nI dp))) (hdp : dp ≤ 12) (ha : sI S 6115 = nI j) (hj : j < 6002) (hq : q < 2 ^ 20) (hW1 : Ans (d + 8) 309 [.ref 61, .int (nI 17)] S (some (.int (nI 1))) S) (hH : Ans (d + 8) 325 [.ref 61, .int (nI 13)] (wI 6115 (nI (j + 1)) S) (some (.int (nI q))) S1) (hD0 : Ans (d + 8) 308 [.ref 61, .int (nI dp)] S1 (some (.int (nI 0))) S2) : Bod (d + 8) 307 10 lv [] S (some (.int 0)) (S2) := by
  refine Bod.aldnG dc_307_10 (by repeat (first | exact h0 | exact sm_get_p1 | exact sm_get_p2e | refine sm_get_p1m (by decide) (by decide) ?_ | refine sm_get_p1n (by decide) rfl ?_ | refine sm_get_p2n (by decide) (by decide) rfl ?_)) ?_
  refine Bod.bip 17 (by decide) dc_307_11 ?_
  refine Bod.virt (r := []) dc_307_13 kr_307_312 ⟨Or.inl rfl, ow_309, cl_14⟩ (by rw [np_309]; rfl) (by rw [np_309]; rfl) (ob_of (mk_61 _)) (Nat.le_of_ble_eq_true rfl) (hW1  ) ?_
  show Bod _ _ _ _ [_] _ _ _
  refine Bod.ifF dc_307_16 rfl (k1_eq_F (k_ne 1 0 rfl rfl (by omega) (by omega) (by omega))) ?_
  refine Bod.aldnG dc_307_19 (by repeat (first | exact h0 | exact sm_get_p1 | exact sm_get_p2e | refine sm_get_p1m (by decide) (by decide) ?_ | refine sm_get_p1n (by decide) rfl ?_ | refine sm_get_p2n (by decide) (by decide) rfl ?_)) ?_
  refine Bod.go dc_307_20 rfl ?_
  refine Bod.get dc_307_21 fr_307_190 (mk_61 _) rfl ?_
  refine Bod.eqI (nI j) (by first | assumption | rfl | exact congrArg nI (by omega) | (simp (disch := omega) only [rI, rIe, rA, rIA, rLA, rJA, rVI, rQI, rVA, rQA, upd_at,  rAI, rLI, rJI, nI_add, pk_sub, kc_0, kc_1, kc_2, kc_3, kc_4, kc_5, reduceIte, Nat.reduceEqDiff, Nat.add_zero, rI_hold, rI_hold, rL_hold, ha]; done)) ?_
  refine Bod.ic 1 (by decide) dc_307_24 ?_
  refine Bod.addN (j + 1) (by omega) dc_307_25 ?_
  refine Bod.put dc_307_26 fr_307_190 (mk_61 _) (Nat.le_of_ble_eq_true rfl) pf_14_15 (st_6115 _ _) (mu_I _ _ _) ?_
  refine Bod.aldnG dc_307_29 (by repeat (first | exact h0 | exact sm_get_p1 | exact sm_get_p2e | refine sm_get_p1m (by decide) (by decide) ?_ | refine sm_get_p1n (by decide) rfl ?_ | refine sm_get_p2n (by decide) (by decide) rfl ?_)) ?_
  refine Bod.bip 13 (by decide) dc_307_30 ?_
  refine Bod.virt (r := []) dc_307_32 kr_307_305 ⟨Or.inl rfl, ow_325, cl_14⟩ (by rw [np_325]; rfl) (by rw [np_325]; rfl) (ob_of (mk_61 _)) (Nat.le_of_ble_eq_true rfl) (hH  ) ?_
  show Bod _ _ _ _ [_] _ _ _
  refine Bod.istn dc_307_35 (by rw [ml_307]; exact Nat.le_of_ble_eq_true rfl) ?_
  refine Bod.aldnG dc_307_36 (by repeat (first | exact h0 | exact sm_get_p1 | exact sm_get_p2e | refine sm_get_p1m (by decide) (by decide) ?_ | refine sm_get_p1n (by decide) rfl ?_ | refine sm_get_p2n (by decide) (by decide) rfl ?_)) ?_
  refine Bod.ildnG dc_307_37 (by repeat (first | exact h1 | exact sm_get_p1 | exact sm_get_p2e | refine sm_get_p1m (by decide) (by decide) ?_ | refine sm_get_p1n (by decide) rfl ?_ | refine sm_get_p2n (by decide) (by decide) rfl ?_)) ?_
  refine Bod.virt (r := []) dc_307_38 kr_307_400 ⟨Or.inl rfl, ow_308, cl_14⟩ (by rw [np_308]; rfl) (by rw [np_308]; rfl) (ob_of (mk_61 _)) (Nat.le_of_ble_eq_true rfl) (hD0  ) ?_
  show Bod _ _ _ _ [_] _ _ _
  refine Bod.ifF dc_307_41 rfl (k1_ne_F (k_eq 0 0 rfl rfl (by omega))) ?_
  refine Bod.ic 0 (by decide) dc_307_44 ?_
  exact Bod.retZ dc_307_45 rt_307 (Or.inl rfl)
theorem re_and_turn {d : Nat} {S Sf : cS} {lv : sm_L} {v : Option Value} {dp : Nat} {j : Nat} {q : Nat} {S1 : cS} {S2 : cS} {S3 : cS} (h0 : sm_get lv 0 = some (.ref 61)) (h1 : sm_get lv 1 = some (.int (nI dp))) (hdp : dp ≤ 12) (ha : sI S 6115 = nI j) (hj : j < 6002) (hq : q < 2 ^ 20) (hW1 : Ans (d + 8) 309 [.ref 61, .int (nI 17)] S (some (.int (nI 1))) S) (hH : Ans (d + 8) 325 [.ref 61, .int (nI 13)] (wI 6115 (nI (j + 1)) S) (some (.int (nI q))) S1) (hD1 : Ans (d + 8) 308 [.ref 61, .int (nI dp)] S1 (some (.int (nI 1))) S2) (hF : Ans (d + 8) 326 [.ref 61, .int (nI q)] S2 none S3) (hB : ∀ lv1 : sm_L, sm_get lv1 0 = some (.ref 61) → sm_get lv1 1 = some (.int (nI dp)) → Bod (d + 8) 307 10 lv1 [] (wI 6131 (nI 0) S3) v Sf) : Bod (d + 8) 307 10 lv [] S v Sf := by
  refine Bod.aldnG dc_307_10 (by repeat (first | exact h0 | exact sm_get_p1 | exact sm_get_p2e | refine sm_get_p1m (by decide) (by decide) ?_ | refine sm_get_p1n (by decide) rfl ?_ | refine sm_get_p2n (by decide) (by decide) rfl ?_)) ?_
  refine Bod.bip 17 (by decide) dc_307_11 ?_
  refine Bod.virt (r := []) dc_307_13 kr_307_312 ⟨Or.inl rfl, ow_309, cl_14⟩ (by rw [np_309]; rfl) (by rw [np_309]; rfl) (ob_of (mk_61 _)) (Nat.le_of_ble_eq_true rfl) (hW1  ) ?_
  show Bod _ _ _ _ [_] _ _ _
  refine Bod.ifF dc_307_16 rfl (k1_eq_F (k_ne 1 0 rfl rfl (by omega) (by omega) (by omega))) ?_
  refine Bod.aldnG dc_307_19 (by repeat (first | exact h0 | exact sm_get_p1 | exact sm_get_p2e | refine sm_get_p1m (by decide) (by decide) ?_ | refine sm_get_p1n (by decide) rfl ?_ | refine sm_get_p2n (by decide) (by decide) rfl ?_)) ?_
  refine Bod.go dc_307_20 rfl ?_
  refine Bod.get dc_307_21 fr_307_190 (mk_61 _) rfl ?_
  refine Bod.eqI (nI j) (by first | assumption | rfl | exact congrArg nI (by omega) | (simp (disch := omega) only [rI, rIe, rA, rIA, rLA, rJA, rVI, rQI, rVA, rQA, upd_at,  rAI, rLI, rJI, nI_add, pk_sub, kc_0, kc_1, kc_2, kc_3, kc_4, kc_5, reduceIte, Nat.reduceEqDiff, Nat.add_zero, rI_hold, rI_hold, rL_hold, ha]; done)) ?_
  refine Bod.ic 1 (by decide) dc_307_24 ?_
  refine Bod.addN (j + 1) (by omega) dc_307_25 ?_
  refine Bod.put dc_307_26 fr_307_190 (mk_61 _) (Nat.le_of_ble_eq_true rfl) pf_14_15 (st_6115 _ _) (mu_I _ _ _) ?_
  refine Bod.aldnG dc_307_29 (by repeat (first | exact h0 | exact sm_get_p1 | exact sm_get_p2e | refine sm_get_p1m (by decide) (by decide) ?_ | refine sm_get_p1n (by decide) rfl ?_ | refine sm_get_p2n (by decide) (by decide) rfl ?_)) ?_
  refine Bod.bip 13 (by decide) dc_307_30 ?_
  refine Bod.virt (r := []) dc_307_32 kr_307_305 ⟨Or.inl rfl, ow_325, cl_14⟩ (by rw [np_325]; rfl) (by rw [np_325]; rfl) (ob_of (mk_61 _)) (Nat.le_of_ble_eq_true rfl) (hH  ) ?_
  show Bod _ _ _ _ [_] _ _ _
  refine Bod.istn dc_307_35 (by rw [ml_307]; exact Nat.le_of_ble_eq_true rfl) ?_
  refine Bod.aldnG dc_307_36 (by repeat (first | exact h0 | exact sm_get_p1 | exact sm_get_p2e | refine sm_get_p1m (by decide) (by decide) ?_ | refine sm_get_p1n (by decide) rfl ?_ | refine sm_get_p2n (by decide) (by decide) rfl ?_)) ?_
  refine Bod.ildnG dc_307_37 (by repeat (first | exact h1 | exact sm_get_p1 | exact sm_get_p2e | refine sm_get_p1m (by decide) (by decide) ?_ | refine sm_get_p1n (by decide) rfl ?_ | refine sm_get_p2n (by decide) (by decide) rfl ?_)) ?_
  refine Bod.virt (r := []) dc_307_38 kr_307_400 ⟨Or.inl rfl, ow_308, cl_14⟩ (by rw [np_308]; rfl) (by rw [np_308]; rfl) (ob_of (mk_61 _)) (Nat.le_of_ble_eq_true rfl) (hD1  ) ?_
  show Bod _ _ _ _ [_] _ _ _
  refine Bod.ifT dc_307_41 rfl (k1_ne_T (k_ne 1 0 rfl rfl (by omega) (by omega) (by omega))) ?_
  refine Bod.aldnG dc_307_46 (by repeat (first | exact h0 | exact sm_get_p1 | exact sm_get_p2e | refine sm_get_p1m (by decide) (by decide) ?_ | refine sm_get_p1n (by decide) rfl ?_ | refine sm_get_p2n (by decide) (by decide) rfl ?_)) ?_
  refine Bod.go dc_307_47 rfl ?_
  refine Bod.virt (r := []) dc_307_48 kr_307_317 ⟨Or.inl rfl, ow_326, cl_14⟩ (by rw [np_326]; rfl) (by rw [np_326]; rfl) (ob_of (mk_61 _)) (Nat.le_of_ble_eq_true rfl) (hF  ) ?_
  show Bod _ _ _ _ [] _ _ _
  refine Bod.aldnG dc_307_51 (by repeat (first | exact h0 | exact sm_get_p1 | exact sm_get_p2e | refine sm_get_p1m (by decide) (by decide) ?_ | refine sm_get_p1n (by decide) rfl ?_ | refine sm_get_p2n (by decide) (by decide) rfl ?_)) ?_
  refine Bod.ic 0 (by decide) dc_307_52 ?_
  refine Bod.put dc_307_53 fr_307_397 (mk_61 _) (Nat.le_of_ble_eq_true rfl) pf_14_31 (st_6131 _ _) (mu_I _ _ _) ?_
  refine Bod.go dc_307_56 rfl ?_
  exact hB _ (by repeat (first | exact h0 | exact sm_get_p1 | exact sm_get_p2e | refine sm_get_p1m (by decide) (by decide) ?_ | refine sm_get_p1n (by decide) rfl ?_ | refine sm_get_p2n (by decide) (by decide) rfl ?_)) (by repeat (first | exact h1 | exact sm_get_p1 | exact sm_get_p2e | refine sm_get_p1m (by decide) (by decide) ?_ | refine sm_get_p1n (by decide) rfl ?_ | refine sm_get_p2n (by decide) (by decide) rfl ?_))
theorem re_sum_go {d : Nat} {S Sf : cS} {v : Option Value} {dp : Nat} {S1 : cS} (hdp : dp ≤ 12) (hC1 : Ans (d + 8) 312 [.ref 61, .int (nI dp)] S (some (.int (nI 1))) S1) (hB : ∀ lv1 : sm_L, sm_get lv1 0 = some (.ref 61) → sm_get lv1 1 = some (.int (nI dp)) → Bod (d + 8) 311 10 lv1 [] (S1) v Sf) : Ans (d + 9) 311 [.ref 61, .int (nI dp)] S v Sf := by
  refine Ans.of (by rw [ml_311]; exact Nat.le_of_ble_eq_true rfl) ?_
  refine Bod.go dc_311_0 rfl ?_
  refine Bod.go dc_311_1 rfl ?_
  refine Bod.virt (r := []) dc_311_2 kr_311_409 ⟨Or.inl rfl, ow_312, cl_14⟩ (by rw [np_312]; rfl) (by rw [np_312]; rfl) (ob_of (mk_61 _)) (Nat.le_of_ble_eq_true rfl) (hC1  ) ?_
  show Bod _ _ _ _ [_] _ _ _
  refine Bod.ifT dc_311_5 rfl (k1_ne_T (k_ne 1 0 rfl rfl (by omega) (by omega) (by omega))) ?_
  exact hB _ (by repeat (first | exact sm_get_p1 | exact sm_get_p2e | refine sm_get_p1m (by decide) (by decide) ?_ | refine sm_get_p1n (by decide) rfl ?_ | refine sm_get_p2n (by decide) (by decide) rfl ?_ | rfl)) (by repeat (first | exact sm_get_p1 | exact sm_get_p2e | refine sm_get_p1m (by decide) (by decide) ?_ | refine sm_get_p1n (by decide) rfl ?_ | refine sm_get_p2n (by decide) (by decide) rfl ?_ | rfl))
theorem re_sum_no {d : Nat} {S : cS} {dp : Nat} {S1 : cS} (hdp : dp ≤ 12) (hC0 : Ans (d + 8) 312 [.ref 61, .int (nI dp)] S (some (.int (nI 0))) S1) : Ans (d + 9) 311 [.ref 61, .int (nI dp)] S (some (.int 0)) (S1) := by
  refine Ans.of (by rw [ml_311]; exact Nat.le_of_ble_eq_true rfl) ?_
  refine Bod.go dc_311_0 rfl ?_
  refine Bod.go dc_311_1 rfl ?_
  refine Bod.virt (r := []) dc_311_2 kr_311_409 ⟨Or.inl rfl, ow_312, cl_14⟩ (by rw [np_312]; rfl) (by rw [np_312]; rfl) (ob_of (mk_61 _)) (Nat.le_of_ble_eq_true rfl) (hC0  ) ?_
  show Bod _ _ _ _ [_] _ _ _
  refine Bod.ifF dc_311_5 rfl (k1_ne_F (k_eq 0 0 rfl rfl (by omega))) ?_
  refine Bod.ic 0 (by decide) dc_311_8 ?_
  exact Bod.retZ dc_311_9 rt_311 (Or.inl rfl)
theorem re_sum_end {d : Nat} {S : cS} {lv : sm_L} {dp : Nat}  (h0 : sm_get lv 0 = some (.ref 61)) (h1 : sm_get lv 1 = some (.int (nI dp))) (hdp : dp ≤ 12) (hN0 : Ans (d + 8) 314 [.ref 61, .int (nI 43)] S (some (.int (nI 0))) S) (hN1 : Ans (d + 8) 314 [.ref 61, .int (nI 45)] S (some (.int (nI 0))) S) : Bod (d + 8) 311 10 lv [] S (some (.int 1)) (S) := by
  refine Bod.aldnG dc_311_10 (by repeat (first | exact h0 | exact sm_get_p1 | exact sm_get_p2e | refine sm_get_p1m (by decide) (by decide) ?_ | refine sm_get_p1n (by decide) rfl ?_ | refine sm_get_p2n (by decide) (by decide) rfl ?_)) ?_
  refine Bod.bip 43 (by decide) dc_311_11 ?_
  refine Bod.virt (r := []) dc_311_13 kr_311_199 ⟨Or.inl rfl, ow_314, cl_14⟩ (by rw [np_314]; rfl) (by rw [np_314]; rfl) (ob_of (mk_61 _)) (Nat.le_of_ble_eq_true rfl) (hN0  ) ?_
  show Bod _ _ _ _ [_] _ _ _
  refine Bod.ifF dc_311_16 rfl (k1_ne_F (k_eq 0 0 rfl rfl (by omega))) ?_
  refine Bod.aldnG dc_311_19 (by repeat (first | exact h0 | exact sm_get_p1 | exact sm_get_p2e | refine sm_get_p1m (by decide) (by decide) ?_ | refine sm_get_p1n (by decide) rfl ?_ | refine sm_get_p2n (by decide) (by decide) rfl ?_)) ?_
  refine Bod.bip 45 (by decide) dc_311_20 ?_
  refine Bod.virt (r := []) dc_311_22 kr_311_199 ⟨Or.inl rfl, ow_314, cl_14⟩ (by rw [np_314]; rfl) (by rw [np_314]; rfl) (ob_of (mk_61 _)) (Nat.le_of_ble_eq_true rfl) (hN1  ) ?_
  show Bod _ _ _ _ [_] _ _ _
  refine Bod.ifT dc_311_25 rfl (k1_eq_T (k_eq 0 0 rfl rfl (by omega))) ?_
  refine Bod.ic 1 (by decide) dc_311_73 ?_
  exact Bod.retZ dc_311_74 rt_311 (Or.inr rfl)
theorem re_sum_bad0 {d : Nat} {S : cS} {lv : sm_L} {dp : Nat} {j : Nat} {vl : Nat} {S1 : cS} (h0 : sm_get lv 0 = some (.ref 61)) (h1 : sm_get lv 1 = some (.int (nI dp))) (hdp : dp ≤ 12) (ha : sI S 6115 = nI j) (hj : j < 6002) (hY0 : Ans (d + 8) 314 [.ref 61, .int (nI 43)] S (some (.int (nI 1))) S) (hvl : sA S 68 j = nI vl) (hvM : vl < 100000) (hD0 : Ans (d + 8) 312 [.ref 61, .int (nI dp)] (wI 6115 (nI (j + 1)) S) (some (.int (nI 0))) S1) : Bod (d + 8) 311 10 lv [] S (some (.int 0)) (S1) := by
  refine Bod.aldnG dc_311_10 (by repeat (first | exact h0 | exact sm_get_p1 | exact sm_get_p2e | refine sm_get_p1m (by decide) (by decide) ?_ | refine sm_get_p1n (by decide) rfl ?_ | refine sm_get_p2n (by decide) (by decide) rfl ?_)) ?_
  refine Bod.bip 43 (by decide) dc_311_11 ?_
  refine Bod.virt (r := []) dc_311_13 kr_311_199 ⟨Or.inl rfl, ow_314, cl_14⟩ (by rw [np_314]; rfl) (by rw [np_314]; rfl) (ob_of (mk_61 _)) (Nat.le_of_ble_eq_true rfl) (hY0  ) ?_
  show Bod _ _ _ _ [_] _ _ _
  refine Bod.ifT dc_311_16 rfl (k1_ne_T (k_ne 1 0 rfl rfl (by omega) (by omega) (by omega))) ?_
  refine Bod.aldnG dc_311_28 (by repeat (first | exact h0 | exact sm_get_p1 | exact sm_get_p2e | refine sm_get_p1m (by decide) (by decide) ?_ | refine sm_get_p1n (by decide) rfl ?_ | refine sm_get_p2n (by decide) (by decide) rfl ?_)) ?_
  refine Bod.get dc_311_29 fr_311_135 (mk_61 _) rfl ?_
  refine Bod.aldnG dc_311_32 (by repeat (first | exact h0 | exact sm_get_p1 | exact sm_get_p2e | refine sm_get_p1m (by decide) (by decide) ?_ | refine sm_get_p1n (by decide) rfl ?_ | refine sm_get_p2n (by decide) (by decide) rfl ?_)) ?_
  refine Bod.get dc_311_33 fr_311_190 (mk_61 _) rfl ?_
  refine Bod.eqI (nI j) (by first | assumption | rfl | exact congrArg nI (by omega) | (simp (disch := omega) only [rI, rIe, rA, rIA, rLA, rJA, rVI, rQI, rVA, rQA, upd_at,  rAI, rLI, rJI, nI_add, pk_sub, kc_0, kc_1, kc_2, kc_3, kc_4, kc_5, reduceIte, Nat.reduceEqDiff, Nat.add_zero, rI_hold, rI_hold, rL_hold, ha, hvl]; done)) ?_
  refine Bod.ialdN j rfl (by omega) (by omega) dc_311_36 (mk_68 _) ?_
  refine Bod.eqI (nI vl) (by first | assumption | rfl | exact congrArg nI (by omega) | (simp (disch := omega) only [rI, rIe, rA, rIA, rLA, rJA, rVI, rQI, rVA, rQA, upd_at,  rAI, rLI, rJI, nI_add, pk_sub, kc_0, kc_1, kc_2, kc_3, kc_4, kc_5, reduceIte, Nat.reduceEqDiff, Nat.add_zero, rI_hold, rI_hold, rL_hold, ha, hvl]; done)) ?_
  refine Bod.istn dc_311_37 (by rw [ml_311]; exact Nat.le_of_ble_eq_true rfl) ?_
  refine Bod.aldnG dc_311_38 (by repeat (first | exact h0 | exact sm_get_p1 | exact sm_get_p2e | refine sm_get_p1m (by decide) (by decide) ?_ | refine sm_get_p1n (by decide) rfl ?_ | refine sm_get_p2n (by decide) (by decide) rfl ?_)) ?_
  refine Bod.go dc_311_39 rfl ?_
  refine Bod.get dc_311_40 fr_311_190 (mk_61 _) rfl ?_
  refine Bod.eqI (nI j) (by first | assumption | rfl | exact congrArg nI (by omega) | (simp (disch := omega) only [rI, rIe, rA, rIA, rLA, rJA, rVI, rQI, rVA, rQA, upd_at,  rAI, rLI, rJI, nI_add, pk_sub, kc_0, kc_1, kc_2, kc_3, kc_4, kc_5, reduceIte, Nat.reduceEqDiff, Nat.add_zero, rI_hold, rI_hold, rL_hold, ha, hvl]; done)) ?_
  refine Bod.ic 1 (by decide) dc_311_43 ?_
  refine Bod.addN (j + 1) (by omega) dc_311_44 ?_
  refine Bod.put dc_311_45 fr_311_190 (mk_61 _) (Nat.le_of_ble_eq_true rfl) pf_14_15 (st_6115 _ _) (mu_I _ _ _) ?_
  refine Bod.aldnG dc_311_48 (by repeat (first | exact h0 | exact sm_get_p1 | exact sm_get_p2e | refine sm_get_p1m (by decide) (by decide) ?_ | refine sm_get_p1n (by decide) rfl ?_ | refine sm_get_p2n (by decide) (by decide) rfl ?_)) ?_
  refine Bod.ildnG dc_311_49 (by repeat (first | exact h1 | exact sm_get_p1 | exact sm_get_p2e | refine sm_get_p1m (by decide) (by decide) ?_ | refine sm_get_p1n (by decide) rfl ?_ | refine sm_get_p2n (by decide) (by decide) rfl ?_)) ?_
  refine Bod.virt (r := []) dc_311_50 kr_311_409 ⟨Or.inl rfl, ow_312, cl_14⟩ (by rw [np_312]; rfl) (by rw [np_312]; rfl) (ob_of (mk_61 _)) (Nat.le_of_ble_eq_true rfl) (hD0  ) ?_
  show Bod _ _ _ _ [_] _ _ _
  refine Bod.ifF dc_311_53 rfl (k1_ne_F (k_eq 0 0 rfl rfl (by omega))) ?_
  refine Bod.ic 0 (by decide) dc_311_56 ?_
  exact Bod.retZ dc_311_57 rt_311 (Or.inl rfl)
theorem re_sum_turn0 {d : Nat} {S Sf : cS} {lv : sm_L} {v : Option Value} {dp : Nat} {j : Nat} {vl : Nat} {S1 : cS} {S2 : cS} (h0 : sm_get lv 0 = some (.ref 61)) (h1 : sm_get lv 1 = some (.int (nI dp))) (hdp : dp ≤ 12) (ha : sI S 6115 = nI j) (hj : j < 6002) (hY0 : Ans (d + 8) 314 [.ref 61, .int (nI 43)] S (some (.int (nI 1))) S) (hvl : sA S 68 j = nI vl) (hvM : vl < 100000) (hD1 : Ans (d + 8) 312 [.ref 61, .int (nI dp)] (wI 6115 (nI (j + 1)) S) (some (.int (nI 1))) S1) (hP : Ans (d + 8) 302 [.ref 61, .int (nI 8), .int (nI vl)] S1 none S2) (hB : ∀ lv1 : sm_L, sm_get lv1 0 = some (.ref 61) → sm_get lv1 1 = some (.int (nI dp)) → Bod (d + 8) 311 10 lv1 [] (wI 6131 (nI 0) S2) v Sf) : Bod (d + 8) 311 10 lv [] S v Sf := by
  refine Bod.aldnG dc_311_10 (by repeat (first | exact h0 | exact sm_get_p1 | exact sm_get_p2e | refine sm_get_p1m (by decide) (by decide) ?_ | refine sm_get_p1n (by decide) rfl ?_ | refine sm_get_p2n (by decide) (by decide) rfl ?_)) ?_
  refine Bod.bip 43 (by decide) dc_311_11 ?_
  refine Bod.virt (r := []) dc_311_13 kr_311_199 ⟨Or.inl rfl, ow_314, cl_14⟩ (by rw [np_314]; rfl) (by rw [np_314]; rfl) (ob_of (mk_61 _)) (Nat.le_of_ble_eq_true rfl) (hY0  ) ?_
  show Bod _ _ _ _ [_] _ _ _
  refine Bod.ifT dc_311_16 rfl (k1_ne_T (k_ne 1 0 rfl rfl (by omega) (by omega) (by omega))) ?_
  refine Bod.aldnG dc_311_28 (by repeat (first | exact h0 | exact sm_get_p1 | exact sm_get_p2e | refine sm_get_p1m (by decide) (by decide) ?_ | refine sm_get_p1n (by decide) rfl ?_ | refine sm_get_p2n (by decide) (by decide) rfl ?_)) ?_
  refine Bod.get dc_311_29 fr_311_135 (mk_61 _) rfl ?_
  refine Bod.aldnG dc_311_32 (by repeat (first | exact h0 | exact sm_get_p1 | exact sm_get_p2e | refine sm_get_p1m (by decide) (by decide) ?_ | refine sm_get_p1n (by decide) rfl ?_ | refine sm_get_p2n (by decide) (by decide) rfl ?_)) ?_
  refine Bod.get dc_311_33 fr_311_190 (mk_61 _) rfl ?_
  refine Bod.eqI (nI j) (by first | assumption | rfl | exact congrArg nI (by omega) | (simp (disch := omega) only [rI, rIe, rA, rIA, rLA, rJA, rVI, rQI, rVA, rQA, upd_at,  rAI, rLI, rJI, nI_add, pk_sub, kc_0, kc_1, kc_2, kc_3, kc_4, kc_5, reduceIte, Nat.reduceEqDiff, Nat.add_zero, rI_hold, rI_hold, rL_hold, ha, hvl]; done)) ?_
  refine Bod.ialdN j rfl (by omega) (by omega) dc_311_36 (mk_68 _) ?_
  refine Bod.eqI (nI vl) (by first | assumption | rfl | exact congrArg nI (by omega) | (simp (disch := omega) only [rI, rIe, rA, rIA, rLA, rJA, rVI, rQI, rVA, rQA, upd_at,  rAI, rLI, rJI, nI_add, pk_sub, kc_0, kc_1, kc_2, kc_3, kc_4, kc_5, reduceIte, Nat.reduceEqDiff, Nat.add_zero, rI_hold, rI_hold, rL_hold, ha, hvl]; done)) ?_
  refine Bod.istn dc_311_37 (by rw [ml_311]; exact Nat.le_of_ble_eq_true rfl) ?_
  refine Bod.aldnG dc_311_38 (by repeat (first | exact h0 | exact sm_get_p1 | exact sm_get_p2e | refine sm_get_p1m (by decide) (by decide) ?_ | refine sm_get_p1n (by decide) rfl ?_ | refine sm_get_p2n (by decide) (by decide) rfl ?_)) ?_
  refine Bod.go dc_311_39 rfl ?_
  refine Bod.get dc_311_40 fr_311_190 (mk_61 _) rfl ?_
  refine Bod.eqI (nI j) (by first | assumption | rfl | exact congrArg nI (by omega) | (simp (disch := omega) only [rI, rIe, rA, rIA, rLA, rJA, rVI, rQI, rVA, rQA, upd_at,  rAI, rLI, rJI, nI_add, pk_sub, kc_0, kc_1, kc_2, kc_3, kc_4, kc_5, reduceIte, Nat.reduceEqDiff, Nat.add_zero, rI_hold, rI_hold, rL_hold, ha, hvl]; done)) ?_
  refine Bod.ic 1 (by decide) dc_311_43 ?_
  refine Bod.addN (j + 1) (by omega) dc_311_44 ?_
  refine Bod.put dc_311_45 fr_311_190 (mk_61 _) (Nat.le_of_ble_eq_true rfl) pf_14_15 (st_6115 _ _) (mu_I _ _ _) ?_
  refine Bod.aldnG dc_311_48 (by repeat (first | exact h0 | exact sm_get_p1 | exact sm_get_p2e | refine sm_get_p1m (by decide) (by decide) ?_ | refine sm_get_p1n (by decide) rfl ?_ | refine sm_get_p2n (by decide) (by decide) rfl ?_)) ?_
  refine Bod.ildnG dc_311_49 (by repeat (first | exact h1 | exact sm_get_p1 | exact sm_get_p2e | refine sm_get_p1m (by decide) (by decide) ?_ | refine sm_get_p1n (by decide) rfl ?_ | refine sm_get_p2n (by decide) (by decide) rfl ?_)) ?_
  refine Bod.virt (r := []) dc_311_50 kr_311_409 ⟨Or.inl rfl, ow_312, cl_14⟩ (by rw [np_312]; rfl) (by rw [np_312]; rfl) (ob_of (mk_61 _)) (Nat.le_of_ble_eq_true rfl) (hD1  ) ?_
  show Bod _ _ _ _ [_] _ _ _
  refine Bod.ifT dc_311_53 rfl (k1_ne_T (k_ne 1 0 rfl rfl (by omega) (by omega) (by omega))) ?_
  refine Bod.aldnG dc_311_58 (by repeat (first | exact h0 | exact sm_get_p1 | exact sm_get_p2e | refine sm_get_p1m (by decide) (by decide) ?_ | refine sm_get_p1n (by decide) rfl ?_ | refine sm_get_p2n (by decide) (by decide) rfl ?_)) ?_
  refine Bod.bip 8 (by decide) dc_311_59 ?_
  refine Bod.go dc_311_61 rfl ?_
  refine Bod.virt (r := []) dc_311_62 kr_311_216 ⟨Or.inl rfl, ow_302, cl_14⟩ (by rw [np_302]; rfl) (by rw [np_302]; rfl) (ob_of (mk_61 _)) (Nat.le_of_ble_eq_true rfl) (hP  ) ?_
  show Bod _ _ _ _ [] _ _ _
  refine Bod.aldnG dc_311_65 (by repeat (first | exact h0 | exact sm_get_p1 | exact sm_get_p2e | refine sm_get_p1m (by decide) (by decide) ?_ | refine sm_get_p1n (by decide) rfl ?_ | refine sm_get_p2n (by decide) (by decide) rfl ?_)) ?_
  refine Bod.ic 0 (by decide) dc_311_66 ?_
  refine Bod.put dc_311_67 fr_311_397 (mk_61 _) (Nat.le_of_ble_eq_true rfl) pf_14_31 (st_6131 _ _) (mu_I _ _ _) ?_
  refine Bod.go dc_311_70 rfl ?_
  exact hB _ (by repeat (first | exact h0 | exact sm_get_p1 | exact sm_get_p2e | refine sm_get_p1m (by decide) (by decide) ?_ | refine sm_get_p1n (by decide) rfl ?_ | refine sm_get_p2n (by decide) (by decide) rfl ?_)) (by repeat (first | exact h1 | exact sm_get_p1 | exact sm_get_p2e | refine sm_get_p1m (by decide) (by decide) ?_ | refine sm_get_p1n (by decide) rfl ?_ | refine sm_get_p2n (by decide) (by decide) rfl ?_))
theorem re_sum_bad1 {d : Nat} {S : cS} {lv : sm_L} {dp : Nat} {j : Nat} {vl : Nat} {S1 : cS} (h0 : sm_get lv 0 = some (.ref 61)) (h1 : sm_get lv 1 = some (.int (nI dp))) (hdp : dp ≤ 12) (ha : sI S 6115 = nI j) (hj : j < 6002) (hN0 : Ans (d + 8) 314 [.ref 61, .int (nI 43)] S (some (.int (nI 0))) S) (hY1 : Ans (d + 8) 314 [.ref 61, .int (nI 45)] S (some (.int (nI 1))) S) (hvl : sA S 68 j = nI vl) (hvM : vl < 100000) (hD0 : Ans (d + 8) 312 [.ref 61, .int (nI dp)] (wI 6115 (nI (j + 1)) S) (some (.int (nI 0))) S1) : Bod (d + 8) 311 10 lv [] S (some (.int 0)) (S1) := by
  refine Bod.aldnG dc_311_10 (by repeat (first | exact h0 | exact sm_get_p1 | exact sm_get_p2e | refine sm_get_p1m (by decide) (by decide) ?_ | refine sm_get_p1n (by decide) rfl ?_ | refine sm_get_p2n (by decide) (by decide) rfl ?_)) ?_
  refine Bod.bip 43 (by decide) dc_311_11 ?_
  refine Bod.virt (r := []) dc_311_13 kr_311_199 ⟨Or.inl rfl, ow_314, cl_14⟩ (by rw [np_314]; rfl) (by rw [np_314]; rfl) (ob_of (mk_61 _)) (Nat.le_of_ble_eq_true rfl) (hN0  ) ?_
  show Bod _ _ _ _ [_] _ _ _
  refine Bod.ifF dc_311_16 rfl (k1_ne_F (k_eq 0 0 rfl rfl (by omega))) ?_
  refine Bod.aldnG dc_311_19 (by repeat (first | exact h0 | exact sm_get_p1 | exact sm_get_p2e | refine sm_get_p1m (by decide) (by decide) ?_ | refine sm_get_p1n (by decide) rfl ?_ | refine sm_get_p2n (by decide) (by decide) rfl ?_)) ?_
  refine Bod.bip 45 (by decide) dc_311_20 ?_
  refine Bod.virt (r := []) dc_311_22 kr_311_199 ⟨Or.inl rfl, ow_314, cl_14⟩ (by rw [np_314]; rfl) (by rw [np_314]; rfl) (ob_of (mk_61 _)) (Nat.le_of_ble_eq_true rfl) (hY1  ) ?_
  show Bod _ _ _ _ [_] _ _ _
  refine Bod.ifF dc_311_25 rfl (k1_eq_F (k_ne 1 0 rfl rfl (by omega) (by omega) (by omega))) ?_
  refine Bod.aldnG dc_311_28 (by repeat (first | exact h0 | exact sm_get_p1 | exact sm_get_p2e | refine sm_get_p1m (by decide) (by decide) ?_ | refine sm_get_p1n (by decide) rfl ?_ | refine sm_get_p2n (by decide) (by decide) rfl ?_)) ?_
  refine Bod.get dc_311_29 fr_311_135 (mk_61 _) rfl ?_
  refine Bod.aldnG dc_311_32 (by repeat (first | exact h0 | exact sm_get_p1 | exact sm_get_p2e | refine sm_get_p1m (by decide) (by decide) ?_ | refine sm_get_p1n (by decide) rfl ?_ | refine sm_get_p2n (by decide) (by decide) rfl ?_)) ?_
  refine Bod.get dc_311_33 fr_311_190 (mk_61 _) rfl ?_
  refine Bod.eqI (nI j) (by first | assumption | rfl | exact congrArg nI (by omega) | (simp (disch := omega) only [rI, rIe, rA, rIA, rLA, rJA, rVI, rQI, rVA, rQA, upd_at,  rAI, rLI, rJI, nI_add, pk_sub, kc_0, kc_1, kc_2, kc_3, kc_4, kc_5, reduceIte, Nat.reduceEqDiff, Nat.add_zero, rI_hold, rI_hold, rL_hold, ha, hvl]; done)) ?_
  refine Bod.ialdN j rfl (by omega) (by omega) dc_311_36 (mk_68 _) ?_
  refine Bod.eqI (nI vl) (by first | assumption | rfl | exact congrArg nI (by omega) | (simp (disch := omega) only [rI, rIe, rA, rIA, rLA, rJA, rVI, rQI, rVA, rQA, upd_at,  rAI, rLI, rJI, nI_add, pk_sub, kc_0, kc_1, kc_2, kc_3, kc_4, kc_5, reduceIte, Nat.reduceEqDiff, Nat.add_zero, rI_hold, rI_hold, rL_hold, ha, hvl]; done)) ?_
  refine Bod.istn dc_311_37 (by rw [ml_311]; exact Nat.le_of_ble_eq_true rfl) ?_
  refine Bod.aldnG dc_311_38 (by repeat (first | exact h0 | exact sm_get_p1 | exact sm_get_p2e | refine sm_get_p1m (by decide) (by decide) ?_ | refine sm_get_p1n (by decide) rfl ?_ | refine sm_get_p2n (by decide) (by decide) rfl ?_)) ?_
  refine Bod.go dc_311_39 rfl ?_
  refine Bod.get dc_311_40 fr_311_190 (mk_61 _) rfl ?_
  refine Bod.eqI (nI j) (by first | assumption | rfl | exact congrArg nI (by omega) | (simp (disch := omega) only [rI, rIe, rA, rIA, rLA, rJA, rVI, rQI, rVA, rQA, upd_at,  rAI, rLI, rJI, nI_add, pk_sub, kc_0, kc_1, kc_2, kc_3, kc_4, kc_5, reduceIte, Nat.reduceEqDiff, Nat.add_zero, rI_hold, rI_hold, rL_hold, ha, hvl]; done)) ?_
  refine Bod.ic 1 (by decide) dc_311_43 ?_
  refine Bod.addN (j + 1) (by omega) dc_311_44 ?_
  refine Bod.put dc_311_45 fr_311_190 (mk_61 _) (Nat.le_of_ble_eq_true rfl) pf_14_15 (st_6115 _ _) (mu_I _ _ _) ?_
  refine Bod.aldnG dc_311_48 (by repeat (first | exact h0 | exact sm_get_p1 | exact sm_get_p2e | refine sm_get_p1m (by decide) (by decide) ?_ | refine sm_get_p1n (by decide) rfl ?_ | refine sm_get_p2n (by decide) (by decide) rfl ?_)) ?_
  refine Bod.ildnG dc_311_49 (by repeat (first | exact h1 | exact sm_get_p1 | exact sm_get_p2e | refine sm_get_p1m (by decide) (by decide) ?_ | refine sm_get_p1n (by decide) rfl ?_ | refine sm_get_p2n (by decide) (by decide) rfl ?_)) ?_
  refine Bod.virt (r := []) dc_311_50 kr_311_409 ⟨Or.inl rfl, ow_312, cl_14⟩ (by rw [np_312]; rfl) (by rw [np_312]; rfl) (ob_of (mk_61 _)) (Nat.le_of_ble_eq_true rfl) (hD0  ) ?_
  show Bod _ _ _ _ [_] _ _ _
  refine Bod.ifF dc_311_53 rfl (k1_ne_F (k_eq 0 0 rfl rfl (by omega))) ?_
  refine Bod.ic 0 (by decide) dc_311_56 ?_
  exact Bod.retZ dc_311_57 rt_311 (Or.inl rfl)
theorem re_sum_turn1 {d : Nat} {S Sf : cS} {lv : sm_L} {v : Option Value} {dp : Nat} {j : Nat} {vl : Nat} {S1 : cS} {S2 : cS} (h0 : sm_get lv 0 = some (.ref 61)) (h1 : sm_get lv 1 = some (.int (nI dp))) (hdp : dp ≤ 12) (ha : sI S 6115 = nI j) (hj : j < 6002) (hN0 : Ans (d + 8) 314 [.ref 61, .int (nI 43)] S (some (.int (nI 0))) S) (hY1 : Ans (d + 8) 314 [.ref 61, .int (nI 45)] S (some (.int (nI 1))) S) (hvl : sA S 68 j = nI vl) (hvM : vl < 100000) (hD1 : Ans (d + 8) 312 [.ref 61, .int (nI dp)] (wI 6115 (nI (j + 1)) S) (some (.int (nI 1))) S1) (hP : Ans (d + 8) 302 [.ref 61, .int (nI 8), .int (nI vl)] S1 none S2) (hB : ∀ lv1 : sm_L, sm_get lv1 0 = some (.ref 61) → sm_get lv1 1 = some (.int (nI dp)) → Bod (d + 8) 311 10 lv1 [] (wI 6131 (nI 0) S2) v Sf) : Bod (d + 8) 311 10 lv [] S v Sf := by
  refine Bod.aldnG dc_311_10 (by repeat (first | exact h0 | exact sm_get_p1 | exact sm_get_p2e | refine sm_get_p1m (by decide) (by decide) ?_ | refine sm_get_p1n (by decide) rfl ?_ | refine sm_get_p2n (by decide) (by decide) rfl ?_)) ?_
  refine Bod.bip 43 (by decide) dc_311_11 ?_
  refine Bod.virt (r := []) dc_311_13 kr_311_199 ⟨Or.inl rfl, ow_314, cl_14⟩ (by rw [np_314]; rfl) (by rw [np_314]; rfl) (ob_of (mk_61 _)) (Nat.le_of_ble_eq_true rfl) (hN0  ) ?_
  show Bod _ _ _ _ [_] _ _ _
  refine Bod.ifF dc_311_16 rfl (k1_ne_F (k_eq 0 0 rfl rfl (by omega))) ?_
  refine Bod.aldnG dc_311_19 (by repeat (first | exact h0 | exact sm_get_p1 | exact sm_get_p2e | refine sm_get_p1m (by decide) (by decide) ?_ | refine sm_get_p1n (by decide) rfl ?_ | refine sm_get_p2n (by decide) (by decide) rfl ?_)) ?_
  refine Bod.bip 45 (by decide) dc_311_20 ?_
  refine Bod.virt (r := []) dc_311_22 kr_311_199 ⟨Or.inl rfl, ow_314, cl_14⟩ (by rw [np_314]; rfl) (by rw [np_314]; rfl) (ob_of (mk_61 _)) (Nat.le_of_ble_eq_true rfl) (hY1  ) ?_
  show Bod _ _ _ _ [_] _ _ _
  refine Bod.ifF dc_311_25 rfl (k1_eq_F (k_ne 1 0 rfl rfl (by omega) (by omega) (by omega))) ?_
  refine Bod.aldnG dc_311_28 (by repeat (first | exact h0 | exact sm_get_p1 | exact sm_get_p2e | refine sm_get_p1m (by decide) (by decide) ?_ | refine sm_get_p1n (by decide) rfl ?_ | refine sm_get_p2n (by decide) (by decide) rfl ?_)) ?_
  refine Bod.get dc_311_29 fr_311_135 (mk_61 _) rfl ?_
  refine Bod.aldnG dc_311_32 (by repeat (first | exact h0 | exact sm_get_p1 | exact sm_get_p2e | refine sm_get_p1m (by decide) (by decide) ?_ | refine sm_get_p1n (by decide) rfl ?_ | refine sm_get_p2n (by decide) (by decide) rfl ?_)) ?_
  refine Bod.get dc_311_33 fr_311_190 (mk_61 _) rfl ?_
  refine Bod.eqI (nI j) (by first | assumption | rfl | exact congrArg nI (by omega) | (simp (disch := omega) only [rI, rIe, rA, rIA, rLA, rJA, rVI, rQI, rVA, rQA, upd_at,  rAI, rLI, rJI, nI_add, pk_sub, kc_0, kc_1, kc_2, kc_3, kc_4, kc_5, reduceIte, Nat.reduceEqDiff, Nat.add_zero, rI_hold, rI_hold, rL_hold, ha, hvl]; done)) ?_
  refine Bod.ialdN j rfl (by omega) (by omega) dc_311_36 (mk_68 _) ?_
  refine Bod.eqI (nI vl) (by first | assumption | rfl | exact congrArg nI (by omega) | (simp (disch := omega) only [rI, rIe, rA, rIA, rLA, rJA, rVI, rQI, rVA, rQA, upd_at,  rAI, rLI, rJI, nI_add, pk_sub, kc_0, kc_1, kc_2, kc_3, kc_4, kc_5, reduceIte, Nat.reduceEqDiff, Nat.add_zero, rI_hold, rI_hold, rL_hold, ha, hvl]; done)) ?_
  refine Bod.istn dc_311_37 (by rw [ml_311]; exact Nat.le_of_ble_eq_true rfl) ?_
  refine Bod.aldnG dc_311_38 (by repeat (first | exact h0 | exact sm_get_p1 | exact sm_get_p2e | refine sm_get_p1m (by decide) (by decide) ?_ | refine sm_get_p1n (by decide) rfl ?_ | refine sm_get_p2n (by decide) (by decide) rfl ?_)) ?_
  refine Bod.go dc_311_39 rfl ?_
  refine Bod.get dc_311_40 fr_311_190 (mk_61 _) rfl ?_
  refine Bod.eqI (nI j) (by first | assumption | rfl | exact congrArg nI (by omega) | (simp (disch := omega) only [rI, rIe, rA, rIA, rLA, rJA, rVI, rQI, rVA, rQA, upd_at,  rAI, rLI, rJI, nI_add, pk_sub, kc_0, kc_1, kc_2, kc_3, kc_4, kc_5, reduceIte, Nat.reduceEqDiff, Nat.add_zero, rI_hold, rI_hold, rL_hold, ha, hvl]; done)) ?_
  refine Bod.ic 1 (by decide) dc_311_43 ?_
  refine Bod.addN (j + 1) (by omega) dc_311_44 ?_
  refine Bod.put dc_311_45 fr_311_190 (mk_61 _) (Nat.le_of_ble_eq_true rfl) pf_14_15 (st_6115 _ _) (mu_I _ _ _) ?_
  refine Bod.aldnG dc_311_48 (by repeat (first | exact h0 | exact sm_get_p1 | exact sm_get_p2e | refine sm_get_p1m (by decide) (by decide) ?_ | refine sm_get_p1n (by decide) rfl ?_ | refine sm_get_p2n (by decide) (by decide) rfl ?_)) ?_
  refine Bod.ildnG dc_311_49 (by repeat (first | exact h1 | exact sm_get_p1 | exact sm_get_p2e | refine sm_get_p1m (by decide) (by decide) ?_ | refine sm_get_p1n (by decide) rfl ?_ | refine sm_get_p2n (by decide) (by decide) rfl ?_)) ?_
  refine Bod.virt (r := []) dc_311_50 kr_311_409 ⟨Or.inl rfl, ow_312, cl_14⟩ (by rw [np_312]; rfl) (by rw [np_312]; rfl) (ob_of (mk_61 _)) (Nat.le_of_ble_eq_true rfl) (hD1  ) ?_
  show Bod _ _ _ _ [_] _ _ _
  refine Bod.ifT dc_311_53 rfl (k1_ne_T (k_ne 1 0 rfl rfl (by omega) (by omega) (by omega))) ?_
  refine Bod.aldnG dc_311_58 (by repeat (first | exact h0 | exact sm_get_p1 | exact sm_get_p2e | refine sm_get_p1m (by decide) (by decide) ?_ | refine sm_get_p1n (by decide) rfl ?_ | refine sm_get_p2n (by decide) (by decide) rfl ?_)) ?_
  refine Bod.bip 8 (by decide) dc_311_59 ?_
  refine Bod.go dc_311_61 rfl ?_
  refine Bod.virt (r := []) dc_311_62 kr_311_216 ⟨Or.inl rfl, ow_302, cl_14⟩ (by rw [np_302]; rfl) (by rw [np_302]; rfl) (ob_of (mk_61 _)) (Nat.le_of_ble_eq_true rfl) (hP  ) ?_
  show Bod _ _ _ _ [] _ _ _
  refine Bod.aldnG dc_311_65 (by repeat (first | exact h0 | exact sm_get_p1 | exact sm_get_p2e | refine sm_get_p1m (by decide) (by decide) ?_ | refine sm_get_p1n (by decide) rfl ?_ | refine sm_get_p2n (by decide) (by decide) rfl ?_)) ?_
  refine Bod.ic 0 (by decide) dc_311_66 ?_
  refine Bod.put dc_311_67 fr_311_397 (mk_61 _) (Nat.le_of_ble_eq_true rfl) pf_14_31 (st_6131 _ _) (mu_I _ _ _) ?_
  refine Bod.go dc_311_70 rfl ?_
  exact hB _ (by repeat (first | exact h0 | exact sm_get_p1 | exact sm_get_p2e | refine sm_get_p1m (by decide) (by decide) ?_ | refine sm_get_p1n (by decide) rfl ?_ | refine sm_get_p2n (by decide) (by decide) rfl ?_)) (by repeat (first | exact h1 | exact sm_get_p1 | exact sm_get_p2e | refine sm_get_p1m (by decide) (by decide) ?_ | refine sm_get_p1n (by decide) rfl ?_ | refine sm_get_p2n (by decide) (by decide) rfl ?_))
theorem re_trm_go {d : Nat} {S Sf : cS} {v : Option Value} {dp : Nat} {S1 : cS} (hdp : dp ≤ 12) (hC1 : Ans (d + 8) 313 [.ref 61, .int (nI dp)] S (some (.int (nI 1))) S1) (hB : ∀ lv1 : sm_L, sm_get lv1 0 = some (.ref 61) → sm_get lv1 1 = some (.int (nI dp)) → Bod (d + 8) 312 10 lv1 [] (S1) v Sf) : Ans (d + 9) 312 [.ref 61, .int (nI dp)] S v Sf := by
  refine Ans.of (by rw [ml_312]; exact Nat.le_of_ble_eq_true rfl) ?_
  refine Bod.go dc_312_0 rfl ?_
  refine Bod.go dc_312_1 rfl ?_
  refine Bod.virt (r := []) dc_312_2 kr_312_412 ⟨Or.inl rfl, ow_313, cl_14⟩ (by rw [np_313]; rfl) (by rw [np_313]; rfl) (ob_of (mk_61 _)) (Nat.le_of_ble_eq_true rfl) (hC1  ) ?_
  show Bod _ _ _ _ [_] _ _ _
  refine Bod.ifT dc_312_5 rfl (k1_ne_T (k_ne 1 0 rfl rfl (by omega) (by omega) (by omega))) ?_
  exact hB _ (by repeat (first | exact sm_get_p1 | exact sm_get_p2e | refine sm_get_p1m (by decide) (by decide) ?_ | refine sm_get_p1n (by decide) rfl ?_ | refine sm_get_p2n (by decide) (by decide) rfl ?_ | rfl)) (by repeat (first | exact sm_get_p1 | exact sm_get_p2e | refine sm_get_p1m (by decide) (by decide) ?_ | refine sm_get_p1n (by decide) rfl ?_ | refine sm_get_p2n (by decide) (by decide) rfl ?_ | rfl))
theorem re_trm_no {d : Nat} {S : cS} {dp : Nat} {S1 : cS} (hdp : dp ≤ 12) (hC0 : Ans (d + 8) 313 [.ref 61, .int (nI dp)] S (some (.int (nI 0))) S1) : Ans (d + 9) 312 [.ref 61, .int (nI dp)] S (some (.int 0)) (S1) := by
  refine Ans.of (by rw [ml_312]; exact Nat.le_of_ble_eq_true rfl) ?_
  refine Bod.go dc_312_0 rfl ?_
  refine Bod.go dc_312_1 rfl ?_
  refine Bod.virt (r := []) dc_312_2 kr_312_412 ⟨Or.inl rfl, ow_313, cl_14⟩ (by rw [np_313]; rfl) (by rw [np_313]; rfl) (ob_of (mk_61 _)) (Nat.le_of_ble_eq_true rfl) (hC0  ) ?_
  show Bod _ _ _ _ [_] _ _ _
  refine Bod.ifF dc_312_5 rfl (k1_ne_F (k_eq 0 0 rfl rfl (by omega))) ?_
  refine Bod.ic 0 (by decide) dc_312_8 ?_
  exact Bod.retZ dc_312_9 rt_312 (Or.inl rfl)
theorem re_trm_end {d : Nat} {S : cS} {lv : sm_L} {dp : Nat}  (h0 : sm_get lv 0 = some (.ref 61)) (h1 : sm_get lv 1 = some (.int (nI dp))) (hdp : dp ≤ 12) (hN0 : Ans (d + 8) 314 [.ref 61, .int (nI 42)] S (some (.int (nI 0))) S) (hN1 : Ans (d + 8) 314 [.ref 61, .int (nI 12079)] S (some (.int (nI 0))) S) (hN2 : Ans (d + 8) 314 [.ref 61, .int (nI 37)] S (some (.int (nI 0))) S) : Bod (d + 8) 312 10 lv [] S (some (.int 1)) (S) := by
  refine Bod.aldnG dc_312_10 (by repeat (first | exact h0 | exact sm_get_p1 | exact sm_get_p2e | refine sm_get_p1m (by decide) (by decide) ?_ | refine sm_get_p1n (by decide) rfl ?_ | refine sm_get_p2n (by decide) (by decide) rfl ?_)) ?_
  refine Bod.bip 42 (by decide) dc_312_11 ?_
  refine Bod.virt (r := []) dc_312_13 kr_312_199 ⟨Or.inl rfl, ow_314, cl_14⟩ (by rw [np_314]; rfl) (by rw [np_314]; rfl) (ob_of (mk_61 _)) (Nat.le_of_ble_eq_true rfl) (hN0  ) ?_
  show Bod _ _ _ _ [_] _ _ _
  refine Bod.ifF dc_312_16 rfl (k1_ne_F (k_eq 0 0 rfl rfl (by omega))) ?_
  refine Bod.aldnG dc_312_19 (by repeat (first | exact h0 | exact sm_get_p1 | exact sm_get_p2e | refine sm_get_p1m (by decide) (by decide) ?_ | refine sm_get_p1n (by decide) rfl ?_ | refine sm_get_p2n (by decide) (by decide) rfl ?_)) ?_
  refine Bod.sip 12079 (by decide) dc_312_20 ?_
  refine Bod.virt (r := []) dc_312_23 kr_312_199 ⟨Or.inl rfl, ow_314, cl_14⟩ (by rw [np_314]; rfl) (by rw [np_314]; rfl) (ob_of (mk_61 _)) (Nat.le_of_ble_eq_true rfl) (hN1  ) ?_
  show Bod _ _ _ _ [_] _ _ _
  refine Bod.ifF dc_312_26 rfl (k1_ne_F (k_eq 0 0 rfl rfl (by omega))) ?_
  refine Bod.aldnG dc_312_29 (by repeat (first | exact h0 | exact sm_get_p1 | exact sm_get_p2e | refine sm_get_p1m (by decide) (by decide) ?_ | refine sm_get_p1n (by decide) rfl ?_ | refine sm_get_p2n (by decide) (by decide) rfl ?_)) ?_
  refine Bod.bip 37 (by decide) dc_312_30 ?_
  refine Bod.virt (r := []) dc_312_32 kr_312_199 ⟨Or.inl rfl, ow_314, cl_14⟩ (by rw [np_314]; rfl) (by rw [np_314]; rfl) (ob_of (mk_61 _)) (Nat.le_of_ble_eq_true rfl) (hN2  ) ?_
  show Bod _ _ _ _ [_] _ _ _
  refine Bod.ifT dc_312_35 rfl (k1_eq_T (k_eq 0 0 rfl rfl (by omega))) ?_
  refine Bod.ic 1 (by decide) dc_312_83 ?_
  exact Bod.retZ dc_312_84 rt_312 (Or.inr rfl)
theorem re_trm_bad0 {d : Nat} {S : cS} {lv : sm_L} {dp : Nat} {j : Nat} {vl : Nat} {S1 : cS} (h0 : sm_get lv 0 = some (.ref 61)) (h1 : sm_get lv 1 = some (.int (nI dp))) (hdp : dp ≤ 12) (ha : sI S 6115 = nI j) (hj : j < 6002) (hY0 : Ans (d + 8) 314 [.ref 61, .int (nI 42)] S (some (.int (nI 1))) S) (hvl : sA S 68 j = nI vl) (hvM : vl < 100000) (hD0 : Ans (d + 8) 313 [.ref 61, .int (nI dp)] (wI 6115 (nI (j + 1)) S) (some (.int (nI 0))) S1) : Bod (d + 8) 312 10 lv [] S (some (.int 0)) (S1) := by
  refine Bod.aldnG dc_312_10 (by repeat (first | exact h0 | exact sm_get_p1 | exact sm_get_p2e | refine sm_get_p1m (by decide) (by decide) ?_ | refine sm_get_p1n (by decide) rfl ?_ | refine sm_get_p2n (by decide) (by decide) rfl ?_)) ?_
  refine Bod.bip 42 (by decide) dc_312_11 ?_
  refine Bod.virt (r := []) dc_312_13 kr_312_199 ⟨Or.inl rfl, ow_314, cl_14⟩ (by rw [np_314]; rfl) (by rw [np_314]; rfl) (ob_of (mk_61 _)) (Nat.le_of_ble_eq_true rfl) (hY0  ) ?_
  show Bod _ _ _ _ [_] _ _ _
  refine Bod.ifT dc_312_16 rfl (k1_ne_T (k_ne 1 0 rfl rfl (by omega) (by omega) (by omega))) ?_
  refine Bod.aldnG dc_312_38 (by repeat (first | exact h0 | exact sm_get_p1 | exact sm_get_p2e | refine sm_get_p1m (by decide) (by decide) ?_ | refine sm_get_p1n (by decide) rfl ?_ | refine sm_get_p2n (by decide) (by decide) rfl ?_)) ?_
  refine Bod.get dc_312_39 fr_312_135 (mk_61 _) rfl ?_
  refine Bod.aldnG dc_312_42 (by repeat (first | exact h0 | exact sm_get_p1 | exact sm_get_p2e | refine sm_get_p1m (by decide) (by decide) ?_ | refine sm_get_p1n (by decide) rfl ?_ | refine sm_get_p2n (by decide) (by decide) rfl ?_)) ?_
  refine Bod.get dc_312_43 fr_312_190 (mk_61 _) rfl ?_
  refine Bod.eqI (nI j) (by first | assumption | rfl | exact congrArg nI (by omega) | (simp (disch := omega) only [rI, rIe, rA, rIA, rLA, rJA, rVI, rQI, rVA, rQA, upd_at,  rAI, rLI, rJI, nI_add, pk_sub, kc_0, kc_1, kc_2, kc_3, kc_4, kc_5, reduceIte, Nat.reduceEqDiff, Nat.add_zero, rI_hold, rI_hold, rL_hold, ha, hvl]; done)) ?_
  refine Bod.ialdN j rfl (by omega) (by omega) dc_312_46 (mk_68 _) ?_
  refine Bod.eqI (nI vl) (by first | assumption | rfl | exact congrArg nI (by omega) | (simp (disch := omega) only [rI, rIe, rA, rIA, rLA, rJA, rVI, rQI, rVA, rQA, upd_at,  rAI, rLI, rJI, nI_add, pk_sub, kc_0, kc_1, kc_2, kc_3, kc_4, kc_5, reduceIte, Nat.reduceEqDiff, Nat.add_zero, rI_hold, rI_hold, rL_hold, ha, hvl]; done)) ?_
  refine Bod.istn dc_312_47 (by rw [ml_312]; exact Nat.le_of_ble_eq_true rfl) ?_
  refine Bod.aldnG dc_312_48 (by repeat (first | exact h0 | exact sm_get_p1 | exact sm_get_p2e | refine sm_get_p1m (by decide) (by decide) ?_ | refine sm_get_p1n (by decide) rfl ?_ | refine sm_get_p2n (by decide) (by decide) rfl ?_)) ?_
  refine Bod.go dc_312_49 rfl ?_
  refine Bod.get dc_312_50 fr_312_190 (mk_61 _) rfl ?_
  refine Bod.eqI (nI j) (by first | assumption | rfl | exact congrArg nI (by omega) | (simp (disch := omega) only [rI, rIe, rA, rIA, rLA, rJA, rVI, rQI, rVA, rQA, upd_at,  rAI, rLI, rJI, nI_add, pk_sub, kc_0, kc_1, kc_2, kc_3, kc_4, kc_5, reduceIte, Nat.reduceEqDiff, Nat.add_zero, rI_hold, rI_hold, rL_hold, ha, hvl]; done)) ?_
  refine Bod.ic 1 (by decide) dc_312_53 ?_
  refine Bod.addN (j + 1) (by omega) dc_312_54 ?_
  refine Bod.put dc_312_55 fr_312_190 (mk_61 _) (Nat.le_of_ble_eq_true rfl) pf_14_15 (st_6115 _ _) (mu_I _ _ _) ?_
  refine Bod.aldnG dc_312_58 (by repeat (first | exact h0 | exact sm_get_p1 | exact sm_get_p2e | refine sm_get_p1m (by decide) (by decide) ?_ | refine sm_get_p1n (by decide) rfl ?_ | refine sm_get_p2n (by decide) (by decide) rfl ?_)) ?_
  refine Bod.ildnG dc_312_59 (by repeat (first | exact h1 | exact sm_get_p1 | exact sm_get_p2e | refine sm_get_p1m (by decide) (by decide) ?_ | refine sm_get_p1n (by decide) rfl ?_ | refine sm_get_p2n (by decide) (by decide) rfl ?_)) ?_
  refine Bod.virt (r := []) dc_312_60 kr_312_412 ⟨Or.inl rfl, ow_313, cl_14⟩ (by rw [np_313]; rfl) (by rw [np_313]; rfl) (ob_of (mk_61 _)) (Nat.le_of_ble_eq_true rfl) (hD0  ) ?_
  show Bod _ _ _ _ [_] _ _ _
  refine Bod.ifF dc_312_63 rfl (k1_ne_F (k_eq 0 0 rfl rfl (by omega))) ?_
  refine Bod.ic 0 (by decide) dc_312_66 ?_
  exact Bod.retZ dc_312_67 rt_312 (Or.inl rfl)
theorem re_trm_turn0 {d : Nat} {S Sf : cS} {lv : sm_L} {v : Option Value} {dp : Nat} {j : Nat} {vl : Nat} {S1 : cS} {S2 : cS} (h0 : sm_get lv 0 = some (.ref 61)) (h1 : sm_get lv 1 = some (.int (nI dp))) (hdp : dp ≤ 12) (ha : sI S 6115 = nI j) (hj : j < 6002) (hY0 : Ans (d + 8) 314 [.ref 61, .int (nI 42)] S (some (.int (nI 1))) S) (hvl : sA S 68 j = nI vl) (hvM : vl < 100000) (hD1 : Ans (d + 8) 313 [.ref 61, .int (nI dp)] (wI 6115 (nI (j + 1)) S) (some (.int (nI 1))) S1) (hP : Ans (d + 8) 302 [.ref 61, .int (nI 8), .int (nI vl)] S1 none S2) (hB : ∀ lv1 : sm_L, sm_get lv1 0 = some (.ref 61) → sm_get lv1 1 = some (.int (nI dp)) → Bod (d + 8) 312 10 lv1 [] (wI 6131 (nI 0) S2) v Sf) : Bod (d + 8) 312 10 lv [] S v Sf := by
  refine Bod.aldnG dc_312_10 (by repeat (first | exact h0 | exact sm_get_p1 | exact sm_get_p2e | refine sm_get_p1m (by decide) (by decide) ?_ | refine sm_get_p1n (by decide) rfl ?_ | refine sm_get_p2n (by decide) (by decide) rfl ?_)) ?_
  refine Bod.bip 42 (by decide) dc_312_11 ?_
  refine Bod.virt (r := []) dc_312_13 kr_312_199 ⟨Or.inl rfl, ow_314, cl_14⟩ (by rw [np_314]; rfl) (by rw [np_314]; rfl) (ob_of (mk_61 _)) (Nat.le_of_ble_eq_true rfl) (hY0  ) ?_
  show Bod _ _ _ _ [_] _ _ _
  refine Bod.ifT dc_312_16 rfl (k1_ne_T (k_ne 1 0 rfl rfl (by omega) (by omega) (by omega))) ?_
  refine Bod.aldnG dc_312_38 (by repeat (first | exact h0 | exact sm_get_p1 | exact sm_get_p2e | refine sm_get_p1m (by decide) (by decide) ?_ | refine sm_get_p1n (by decide) rfl ?_ | refine sm_get_p2n (by decide) (by decide) rfl ?_)) ?_
  refine Bod.get dc_312_39 fr_312_135 (mk_61 _) rfl ?_
  refine Bod.aldnG dc_312_42 (by repeat (first | exact h0 | exact sm_get_p1 | exact sm_get_p2e | refine sm_get_p1m (by decide) (by decide) ?_ | refine sm_get_p1n (by decide) rfl ?_ | refine sm_get_p2n (by decide) (by decide) rfl ?_)) ?_
  refine Bod.get dc_312_43 fr_312_190 (mk_61 _) rfl ?_
  refine Bod.eqI (nI j) (by first | assumption | rfl | exact congrArg nI (by omega) | (simp (disch := omega) only [rI, rIe, rA, rIA, rLA, rJA, rVI, rQI, rVA, rQA, upd_at,  rAI, rLI, rJI, nI_add, pk_sub, kc_0, kc_1, kc_2, kc_3, kc_4, kc_5, reduceIte, Nat.reduceEqDiff, Nat.add_zero, rI_hold, rI_hold, rL_hold, ha, hvl]; done)) ?_
  refine Bod.ialdN j rfl (by omega) (by omega) dc_312_46 (mk_68 _) ?_
  refine Bod.eqI (nI vl) (by first | assumption | rfl | exact congrArg nI (by omega) | (simp (disch := omega) only [rI, rIe, rA, rIA, rLA, rJA, rVI, rQI, rVA, rQA, upd_at,  rAI, rLI, rJI, nI_add, pk_sub, kc_0, kc_1, kc_2, kc_3, kc_4, kc_5, reduceIte, Nat.reduceEqDiff, Nat.add_zero, rI_hold, rI_hold, rL_hold, ha, hvl]; done)) ?_
  refine Bod.istn dc_312_47 (by rw [ml_312]; exact Nat.le_of_ble_eq_true rfl) ?_
  refine Bod.aldnG dc_312_48 (by repeat (first | exact h0 | exact sm_get_p1 | exact sm_get_p2e | refine sm_get_p1m (by decide) (by decide) ?_ | refine sm_get_p1n (by decide) rfl ?_ | refine sm_get_p2n (by decide) (by decide) rfl ?_)) ?_
  refine Bod.go dc_312_49 rfl ?_
  refine Bod.get dc_312_50 fr_312_190 (mk_61 _) rfl ?_
  refine Bod.eqI (nI j) (by first | assumption | rfl | exact congrArg nI (by omega) | (simp (disch := omega) only [rI, rIe, rA, rIA, rLA, rJA, rVI, rQI, rVA, rQA, upd_at,  rAI, rLI, rJI, nI_add, pk_sub, kc_0, kc_1, kc_2, kc_3, kc_4, kc_5, reduceIte, Nat.reduceEqDiff, Nat.add_zero, rI_hold, rI_hold, rL_hold, ha, hvl]; done)) ?_
  refine Bod.ic 1 (by decide) dc_312_53 ?_
  refine Bod.addN (j + 1) (by omega) dc_312_54 ?_
  refine Bod.put dc_312_55 fr_312_190 (mk_61 _) (Nat.le_of_ble_eq_true rfl) pf_14_15 (st_6115 _ _) (mu_I _ _ _) ?_
  refine Bod.aldnG dc_312_58 (by repeat (first | exact h0 | exact sm_get_p1 | exact sm_get_p2e | refine sm_get_p1m (by decide) (by decide) ?_ | refine sm_get_p1n (by decide) rfl ?_ | refine sm_get_p2n (by decide) (by decide) rfl ?_)) ?_
  refine Bod.ildnG dc_312_59 (by repeat (first | exact h1 | exact sm_get_p1 | exact sm_get_p2e | refine sm_get_p1m (by decide) (by decide) ?_ | refine sm_get_p1n (by decide) rfl ?_ | refine sm_get_p2n (by decide) (by decide) rfl ?_)) ?_
  refine Bod.virt (r := []) dc_312_60 kr_312_412 ⟨Or.inl rfl, ow_313, cl_14⟩ (by rw [np_313]; rfl) (by rw [np_313]; rfl) (ob_of (mk_61 _)) (Nat.le_of_ble_eq_true rfl) (hD1  ) ?_
  show Bod _ _ _ _ [_] _ _ _
  refine Bod.ifT dc_312_63 rfl (k1_ne_T (k_ne 1 0 rfl rfl (by omega) (by omega) (by omega))) ?_
  refine Bod.aldnG dc_312_68 (by repeat (first | exact h0 | exact sm_get_p1 | exact sm_get_p2e | refine sm_get_p1m (by decide) (by decide) ?_ | refine sm_get_p1n (by decide) rfl ?_ | refine sm_get_p2n (by decide) (by decide) rfl ?_)) ?_
  refine Bod.bip 8 (by decide) dc_312_69 ?_
  refine Bod.go dc_312_71 rfl ?_
  refine Bod.virt (r := []) dc_312_72 kr_312_216 ⟨Or.inl rfl, ow_302, cl_14⟩ (by rw [np_302]; rfl) (by rw [np_302]; rfl) (ob_of (mk_61 _)) (Nat.le_of_ble_eq_true rfl) (hP  ) ?_
  show Bod _ _ _ _ [] _ _ _
  refine Bod.aldnG dc_312_75 (by repeat (first | exact h0 | exact sm_get_p1 | exact sm_get_p2e | refine sm_get_p1m (by decide) (by decide) ?_ | refine sm_get_p1n (by decide) rfl ?_ | refine sm_get_p2n (by decide) (by decide) rfl ?_)) ?_
  refine Bod.ic 0 (by decide) dc_312_76 ?_
  refine Bod.put dc_312_77 fr_312_397 (mk_61 _) (Nat.le_of_ble_eq_true rfl) pf_14_31 (st_6131 _ _) (mu_I _ _ _) ?_
  refine Bod.go dc_312_80 rfl ?_
  exact hB _ (by repeat (first | exact h0 | exact sm_get_p1 | exact sm_get_p2e | refine sm_get_p1m (by decide) (by decide) ?_ | refine sm_get_p1n (by decide) rfl ?_ | refine sm_get_p2n (by decide) (by decide) rfl ?_)) (by repeat (first | exact h1 | exact sm_get_p1 | exact sm_get_p2e | refine sm_get_p1m (by decide) (by decide) ?_ | refine sm_get_p1n (by decide) rfl ?_ | refine sm_get_p2n (by decide) (by decide) rfl ?_))
theorem re_trm_bad1 {d : Nat} {S : cS} {lv : sm_L} {dp : Nat} {j : Nat} {vl : Nat} {S1 : cS} (h0 : sm_get lv 0 = some (.ref 61)) (h1 : sm_get lv 1 = some (.int (nI dp))) (hdp : dp ≤ 12) (ha : sI S 6115 = nI j) (hj : j < 6002) (hN0 : Ans (d + 8) 314 [.ref 61, .int (nI 42)] S (some (.int (nI 0))) S) (hY1 : Ans (d + 8) 314 [.ref 61, .int (nI 12079)] S (some (.int (nI 1))) S) (hvl : sA S 68 j = nI vl) (hvM : vl < 100000) (hD0 : Ans (d + 8) 313 [.ref 61, .int (nI dp)] (wI 6115 (nI (j + 1)) S) (some (.int (nI 0))) S1) : Bod (d + 8) 312 10 lv [] S (some (.int 0)) (S1) := by
  refine Bod.aldnG dc_312_10 (by repeat (first | exact h0 | exact sm_get_p1 | exact sm_get_p2e | refine sm_get_p1m (by decide) (by decide) ?_ | refine sm_get_p1n (by decide) rfl ?_ | refine sm_get_p2n (by decide) (by decide) rfl ?_)) ?_
  refine Bod.bip 42 (by decide) dc_312_11 ?_
  refine Bod.virt (r := []) dc_312_13 kr_312_199 ⟨Or.inl rfl, ow_314, cl_14⟩ (by rw [np_314]; rfl) (by rw [np_314]; rfl) (ob_of (mk_61 _)) (Nat.le_of_ble_eq_true rfl) (hN0  ) ?_
  show Bod _ _ _ _ [_] _ _ _
  refine Bod.ifF dc_312_16 rfl (k1_ne_F (k_eq 0 0 rfl rfl (by omega))) ?_
  refine Bod.aldnG dc_312_19 (by repeat (first | exact h0 | exact sm_get_p1 | exact sm_get_p2e | refine sm_get_p1m (by decide) (by decide) ?_ | refine sm_get_p1n (by decide) rfl ?_ | refine sm_get_p2n (by decide) (by decide) rfl ?_)) ?_
  refine Bod.sip 12079 (by decide) dc_312_20 ?_
  refine Bod.virt (r := []) dc_312_23 kr_312_199 ⟨Or.inl rfl, ow_314, cl_14⟩ (by rw [np_314]; rfl) (by rw [np_314]; rfl) (ob_of (mk_61 _)) (Nat.le_of_ble_eq_true rfl) (hY1  ) ?_
  show Bod _ _ _ _ [_] _ _ _
  refine Bod.ifT dc_312_26 rfl (k1_ne_T (k_ne 1 0 rfl rfl (by omega) (by omega) (by omega))) ?_
  refine Bod.aldnG dc_312_38 (by repeat (first | exact h0 | exact sm_get_p1 | exact sm_get_p2e | refine sm_get_p1m (by decide) (by decide) ?_ | refine sm_get_p1n (by decide) rfl ?_ | refine sm_get_p2n (by decide) (by decide) rfl ?_)) ?_
  refine Bod.get dc_312_39 fr_312_135 (mk_61 _) rfl ?_
  refine Bod.aldnG dc_312_42 (by repeat (first | exact h0 | exact sm_get_p1 | exact sm_get_p2e | refine sm_get_p1m (by decide) (by decide) ?_ | refine sm_get_p1n (by decide) rfl ?_ | refine sm_get_p2n (by decide) (by decide) rfl ?_)) ?_
  refine Bod.get dc_312_43 fr_312_190 (mk_61 _) rfl ?_
  refine Bod.eqI (nI j) (by first | assumption | rfl | exact congrArg nI (by omega) | (simp (disch := omega) only [rI, rIe, rA, rIA, rLA, rJA, rVI, rQI, rVA, rQA, upd_at,  rAI, rLI, rJI, nI_add, pk_sub, kc_0, kc_1, kc_2, kc_3, kc_4, kc_5, reduceIte, Nat.reduceEqDiff, Nat.add_zero, rI_hold, rI_hold, rL_hold, ha, hvl]; done)) ?_
  refine Bod.ialdN j rfl (by omega) (by omega) dc_312_46 (mk_68 _) ?_
  refine Bod.eqI (nI vl) (by first | assumption | rfl | exact congrArg nI (by omega) | (simp (disch := omega) only [rI, rIe, rA, rIA, rLA, rJA, rVI, rQI, rVA, rQA, upd_at,  rAI, rLI, rJI, nI_add, pk_sub, kc_0, kc_1, kc_2, kc_3, kc_4, kc_5, reduceIte, Nat.reduceEqDiff, Nat.add_zero, rI_hold, rI_hold, rL_hold, ha, hvl]; done)) ?_
  refine Bod.istn dc_312_47 (by rw [ml_312]; exact Nat.le_of_ble_eq_true rfl) ?_
  refine Bod.aldnG dc_312_48 (by repeat (first | exact h0 | exact sm_get_p1 | exact sm_get_p2e | refine sm_get_p1m (by decide) (by decide) ?_ | refine sm_get_p1n (by decide) rfl ?_ | refine sm_get_p2n (by decide) (by decide) rfl ?_)) ?_
  refine Bod.go dc_312_49 rfl ?_
  refine Bod.get dc_312_50 fr_312_190 (mk_61 _) rfl ?_
  refine Bod.eqI (nI j) (by first | assumption | rfl | exact congrArg nI (by omega) | (simp (disch := omega) only [rI, rIe, rA, rIA, rLA, rJA, rVI, rQI, rVA, rQA, upd_at,  rAI, rLI, rJI, nI_add, pk_sub, kc_0, kc_1, kc_2, kc_3, kc_4, kc_5, reduceIte, Nat.reduceEqDiff, Nat.add_zero, rI_hold, rI_hold, rL_hold, ha, hvl]; done)) ?_
  refine Bod.ic 1 (by decide) dc_312_53 ?_
  refine Bod.addN (j + 1) (by omega) dc_312_54 ?_
  refine Bod.put dc_312_55 fr_312_190 (mk_61 _) (Nat.le_of_ble_eq_true rfl) pf_14_15 (st_6115 _ _) (mu_I _ _ _) ?_
  refine Bod.aldnG dc_312_58 (by repeat (first | exact h0 | exact sm_get_p1 | exact sm_get_p2e | refine sm_get_p1m (by decide) (by decide) ?_ | refine sm_get_p1n (by decide) rfl ?_ | refine sm_get_p2n (by decide) (by decide) rfl ?_)) ?_
  refine Bod.ildnG dc_312_59 (by repeat (first | exact h1 | exact sm_get_p1 | exact sm_get_p2e | refine sm_get_p1m (by decide) (by decide) ?_ | refine sm_get_p1n (by decide) rfl ?_ | refine sm_get_p2n (by decide) (by decide) rfl ?_)) ?_
  refine Bod.virt (r := []) dc_312_60 kr_312_412 ⟨Or.inl rfl, ow_313, cl_14⟩ (by rw [np_313]; rfl) (by rw [np_313]; rfl) (ob_of (mk_61 _)) (Nat.le_of_ble_eq_true rfl) (hD0  ) ?_
  show Bod _ _ _ _ [_] _ _ _
  refine Bod.ifF dc_312_63 rfl (k1_ne_F (k_eq 0 0 rfl rfl (by omega))) ?_
  refine Bod.ic 0 (by decide) dc_312_66 ?_
  exact Bod.retZ dc_312_67 rt_312 (Or.inl rfl)
theorem re_trm_turn1 {d : Nat} {S Sf : cS} {lv : sm_L} {v : Option Value} {dp : Nat} {j : Nat} {vl : Nat} {S1 : cS} {S2 : cS} (h0 : sm_get lv 0 = some (.ref 61)) (h1 : sm_get lv 1 = some (.int (nI dp))) (hdp : dp ≤ 12) (ha : sI S 6115 = nI j) (hj : j < 6002) (hN0 : Ans (d + 8) 314 [.ref 61, .int (nI 42)] S (some (.int (nI 0))) S) (hY1 : Ans (d + 8) 314 [.ref 61, .int (nI 12079)] S (some (.int (nI 1))) S) (hvl : sA S 68 j = nI vl) (hvM : vl < 100000) (hD1 : Ans (d + 8) 313 [.ref 61, .int (nI dp)] (wI 6115 (nI (j + 1)) S) (some (.int (nI 1))) S1) (hP : Ans (d + 8) 302 [.ref 61, .int (nI 8), .int (nI vl)] S1 none S2) (hB : ∀ lv1 : sm_L, sm_get lv1 0 = some (.ref 61) → sm_get lv1 1 = some (.int (nI dp)) → Bod (d + 8) 312 10 lv1 [] (wI 6131 (nI 0) S2) v Sf) : Bod (d + 8) 312 10 lv [] S v Sf := by
  refine Bod.aldnG dc_312_10 (by repeat (first | exact h0 | exact sm_get_p1 | exact sm_get_p2e | refine sm_get_p1m (by decide) (by decide) ?_ | refine sm_get_p1n (by decide) rfl ?_ | refine sm_get_p2n (by decide) (by decide) rfl ?_)) ?_
  refine Bod.bip 42 (by decide) dc_312_11 ?_
  refine Bod.virt (r := []) dc_312_13 kr_312_199 ⟨Or.inl rfl, ow_314, cl_14⟩ (by rw [np_314]; rfl) (by rw [np_314]; rfl) (ob_of (mk_61 _)) (Nat.le_of_ble_eq_true rfl) (hN0  ) ?_
  show Bod _ _ _ _ [_] _ _ _
  refine Bod.ifF dc_312_16 rfl (k1_ne_F (k_eq 0 0 rfl rfl (by omega))) ?_
  refine Bod.aldnG dc_312_19 (by repeat (first | exact h0 | exact sm_get_p1 | exact sm_get_p2e | refine sm_get_p1m (by decide) (by decide) ?_ | refine sm_get_p1n (by decide) rfl ?_ | refine sm_get_p2n (by decide) (by decide) rfl ?_)) ?_
  refine Bod.sip 12079 (by decide) dc_312_20 ?_
  refine Bod.virt (r := []) dc_312_23 kr_312_199 ⟨Or.inl rfl, ow_314, cl_14⟩ (by rw [np_314]; rfl) (by rw [np_314]; rfl) (ob_of (mk_61 _)) (Nat.le_of_ble_eq_true rfl) (hY1  ) ?_
  show Bod _ _ _ _ [_] _ _ _
  refine Bod.ifT dc_312_26 rfl (k1_ne_T (k_ne 1 0 rfl rfl (by omega) (by omega) (by omega))) ?_
  refine Bod.aldnG dc_312_38 (by repeat (first | exact h0 | exact sm_get_p1 | exact sm_get_p2e | refine sm_get_p1m (by decide) (by decide) ?_ | refine sm_get_p1n (by decide) rfl ?_ | refine sm_get_p2n (by decide) (by decide) rfl ?_)) ?_
  refine Bod.get dc_312_39 fr_312_135 (mk_61 _) rfl ?_
  refine Bod.aldnG dc_312_42 (by repeat (first | exact h0 | exact sm_get_p1 | exact sm_get_p2e | refine sm_get_p1m (by decide) (by decide) ?_ | refine sm_get_p1n (by decide) rfl ?_ | refine sm_get_p2n (by decide) (by decide) rfl ?_)) ?_
  refine Bod.get dc_312_43 fr_312_190 (mk_61 _) rfl ?_
  refine Bod.eqI (nI j) (by first | assumption | rfl | exact congrArg nI (by omega) | (simp (disch := omega) only [rI, rIe, rA, rIA, rLA, rJA, rVI, rQI, rVA, rQA, upd_at,  rAI, rLI, rJI, nI_add, pk_sub, kc_0, kc_1, kc_2, kc_3, kc_4, kc_5, reduceIte, Nat.reduceEqDiff, Nat.add_zero, rI_hold, rI_hold, rL_hold, ha, hvl]; done)) ?_
  refine Bod.ialdN j rfl (by omega) (by omega) dc_312_46 (mk_68 _) ?_
  refine Bod.eqI (nI vl) (by first | assumption | rfl | exact congrArg nI (by omega) | (simp (disch := omega) only [rI, rIe, rA, rIA, rLA, rJA, rVI, rQI, rVA, rQA, upd_at,  rAI, rLI, rJI, nI_add, pk_sub, kc_0, kc_1, kc_2, kc_3, kc_4, kc_5, reduceIte, Nat.reduceEqDiff, Nat.add_zero, rI_hold, rI_hold, rL_hold, ha, hvl]; done)) ?_
  refine Bod.istn dc_312_47 (by rw [ml_312]; exact Nat.le_of_ble_eq_true rfl) ?_
  refine Bod.aldnG dc_312_48 (by repeat (first | exact h0 | exact sm_get_p1 | exact sm_get_p2e | refine sm_get_p1m (by decide) (by decide) ?_ | refine sm_get_p1n (by decide) rfl ?_ | refine sm_get_p2n (by decide) (by decide) rfl ?_)) ?_
  refine Bod.go dc_312_49 rfl ?_
  refine Bod.get dc_312_50 fr_312_190 (mk_61 _) rfl ?_
  refine Bod.eqI (nI j) (by first | assumption | rfl | exact congrArg nI (by omega) | (simp (disch := omega) only [rI, rIe, rA, rIA, rLA, rJA, rVI, rQI, rVA, rQA, upd_at,  rAI, rLI, rJI, nI_add, pk_sub, kc_0, kc_1, kc_2, kc_3, kc_4, kc_5, reduceIte, Nat.reduceEqDiff, Nat.add_zero, rI_hold, rI_hold, rL_hold, ha, hvl]; done)) ?_
  refine Bod.ic 1 (by decide) dc_312_53 ?_
  refine Bod.addN (j + 1) (by omega) dc_312_54 ?_
  refine Bod.put dc_312_55 fr_312_190 (mk_61 _) (Nat.le_of_ble_eq_true rfl) pf_14_15 (st_6115 _ _) (mu_I _ _ _) ?_
  refine Bod.aldnG dc_312_58 (by repeat (first | exact h0 | exact sm_get_p1 | exact sm_get_p2e | refine sm_get_p1m (by decide) (by decide) ?_ | refine sm_get_p1n (by decide) rfl ?_ | refine sm_get_p2n (by decide) (by decide) rfl ?_)) ?_
  refine Bod.ildnG dc_312_59 (by repeat (first | exact h1 | exact sm_get_p1 | exact sm_get_p2e | refine sm_get_p1m (by decide) (by decide) ?_ | refine sm_get_p1n (by decide) rfl ?_ | refine sm_get_p2n (by decide) (by decide) rfl ?_)) ?_
  refine Bod.virt (r := []) dc_312_60 kr_312_412 ⟨Or.inl rfl, ow_313, cl_14⟩ (by rw [np_313]; rfl) (by rw [np_313]; rfl) (ob_of (mk_61 _)) (Nat.le_of_ble_eq_true rfl) (hD1  ) ?_
  show Bod _ _ _ _ [_] _ _ _
  refine Bod.ifT dc_312_63 rfl (k1_ne_T (k_ne 1 0 rfl rfl (by omega) (by omega) (by omega))) ?_
  refine Bod.aldnG dc_312_68 (by repeat (first | exact h0 | exact sm_get_p1 | exact sm_get_p2e | refine sm_get_p1m (by decide) (by decide) ?_ | refine sm_get_p1n (by decide) rfl ?_ | refine sm_get_p2n (by decide) (by decide) rfl ?_)) ?_
  refine Bod.bip 8 (by decide) dc_312_69 ?_
  refine Bod.go dc_312_71 rfl ?_
  refine Bod.virt (r := []) dc_312_72 kr_312_216 ⟨Or.inl rfl, ow_302, cl_14⟩ (by rw [np_302]; rfl) (by rw [np_302]; rfl) (ob_of (mk_61 _)) (Nat.le_of_ble_eq_true rfl) (hP  ) ?_
  show Bod _ _ _ _ [] _ _ _
  refine Bod.aldnG dc_312_75 (by repeat (first | exact h0 | exact sm_get_p1 | exact sm_get_p2e | refine sm_get_p1m (by decide) (by decide) ?_ | refine sm_get_p1n (by decide) rfl ?_ | refine sm_get_p2n (by decide) (by decide) rfl ?_)) ?_
  refine Bod.ic 0 (by decide) dc_312_76 ?_
  refine Bod.put dc_312_77 fr_312_397 (mk_61 _) (Nat.le_of_ble_eq_true rfl) pf_14_31 (st_6131 _ _) (mu_I _ _ _) ?_
  refine Bod.go dc_312_80 rfl ?_
  exact hB _ (by repeat (first | exact h0 | exact sm_get_p1 | exact sm_get_p2e | refine sm_get_p1m (by decide) (by decide) ?_ | refine sm_get_p1n (by decide) rfl ?_ | refine sm_get_p2n (by decide) (by decide) rfl ?_)) (by repeat (first | exact h1 | exact sm_get_p1 | exact sm_get_p2e | refine sm_get_p1m (by decide) (by decide) ?_ | refine sm_get_p1n (by decide) rfl ?_ | refine sm_get_p2n (by decide) (by decide) rfl ?_))
theorem re_trm_bad2 {d : Nat} {S : cS} {lv : sm_L} {dp : Nat} {j : Nat} {vl : Nat} {S1 : cS} (h0 : sm_get lv 0 = some (.ref 61)) (h1 : sm_get lv 1 = some (.int (nI dp))) (hdp : dp ≤ 12) (ha : sI S 6115 = nI j) (hj : j < 6002) (hN0 : Ans (d + 8) 314 [.ref 61, .int (nI 42)] S (some (.int (nI 0))) S) (hN1 : Ans (d + 8) 314 [.ref 61, .int (nI 12079)] S (some (.int (nI 0))) S) (hY2 : Ans (d + 8) 314 [.ref 61, .int (nI 37)] S (some (.int (nI 1))) S) (hvl : sA S 68 j = nI vl) (hvM : vl < 100000) (hD0 : Ans (d + 8) 313 [.ref 61, .int (nI dp)] (wI 6115 (nI (j + 1)) S) (some (.int (nI 0))) S1) : Bod (d + 8) 312 10 lv [] S (some (.int 0)) (S1) := by
  refine Bod.aldnG dc_312_10 (by repeat (first | exact h0 | exact sm_get_p1 | exact sm_get_p2e | refine sm_get_p1m (by decide) (by decide) ?_ | refine sm_get_p1n (by decide) rfl ?_ | refine sm_get_p2n (by decide) (by decide) rfl ?_)) ?_
  refine Bod.bip 42 (by decide) dc_312_11 ?_
  refine Bod.virt (r := []) dc_312_13 kr_312_199 ⟨Or.inl rfl, ow_314, cl_14⟩ (by rw [np_314]; rfl) (by rw [np_314]; rfl) (ob_of (mk_61 _)) (Nat.le_of_ble_eq_true rfl) (hN0  ) ?_
  show Bod _ _ _ _ [_] _ _ _
  refine Bod.ifF dc_312_16 rfl (k1_ne_F (k_eq 0 0 rfl rfl (by omega))) ?_
  refine Bod.aldnG dc_312_19 (by repeat (first | exact h0 | exact sm_get_p1 | exact sm_get_p2e | refine sm_get_p1m (by decide) (by decide) ?_ | refine sm_get_p1n (by decide) rfl ?_ | refine sm_get_p2n (by decide) (by decide) rfl ?_)) ?_
  refine Bod.sip 12079 (by decide) dc_312_20 ?_
  refine Bod.virt (r := []) dc_312_23 kr_312_199 ⟨Or.inl rfl, ow_314, cl_14⟩ (by rw [np_314]; rfl) (by rw [np_314]; rfl) (ob_of (mk_61 _)) (Nat.le_of_ble_eq_true rfl) (hN1  ) ?_
  show Bod _ _ _ _ [_] _ _ _
  refine Bod.ifF dc_312_26 rfl (k1_ne_F (k_eq 0 0 rfl rfl (by omega))) ?_
  refine Bod.aldnG dc_312_29 (by repeat (first | exact h0 | exact sm_get_p1 | exact sm_get_p2e | refine sm_get_p1m (by decide) (by decide) ?_ | refine sm_get_p1n (by decide) rfl ?_ | refine sm_get_p2n (by decide) (by decide) rfl ?_)) ?_
  refine Bod.bip 37 (by decide) dc_312_30 ?_
  refine Bod.virt (r := []) dc_312_32 kr_312_199 ⟨Or.inl rfl, ow_314, cl_14⟩ (by rw [np_314]; rfl) (by rw [np_314]; rfl) (ob_of (mk_61 _)) (Nat.le_of_ble_eq_true rfl) (hY2  ) ?_
  show Bod _ _ _ _ [_] _ _ _
  refine Bod.ifF dc_312_35 rfl (k1_eq_F (k_ne 1 0 rfl rfl (by omega) (by omega) (by omega))) ?_
  refine Bod.aldnG dc_312_38 (by repeat (first | exact h0 | exact sm_get_p1 | exact sm_get_p2e | refine sm_get_p1m (by decide) (by decide) ?_ | refine sm_get_p1n (by decide) rfl ?_ | refine sm_get_p2n (by decide) (by decide) rfl ?_)) ?_
  refine Bod.get dc_312_39 fr_312_135 (mk_61 _) rfl ?_
  refine Bod.aldnG dc_312_42 (by repeat (first | exact h0 | exact sm_get_p1 | exact sm_get_p2e | refine sm_get_p1m (by decide) (by decide) ?_ | refine sm_get_p1n (by decide) rfl ?_ | refine sm_get_p2n (by decide) (by decide) rfl ?_)) ?_
  refine Bod.get dc_312_43 fr_312_190 (mk_61 _) rfl ?_
  refine Bod.eqI (nI j) (by first | assumption | rfl | exact congrArg nI (by omega) | (simp (disch := omega) only [rI, rIe, rA, rIA, rLA, rJA, rVI, rQI, rVA, rQA, upd_at,  rAI, rLI, rJI, nI_add, pk_sub, kc_0, kc_1, kc_2, kc_3, kc_4, kc_5, reduceIte, Nat.reduceEqDiff, Nat.add_zero, rI_hold, rI_hold, rL_hold, ha, hvl]; done)) ?_
  refine Bod.ialdN j rfl (by omega) (by omega) dc_312_46 (mk_68 _) ?_
  refine Bod.eqI (nI vl) (by first | assumption | rfl | exact congrArg nI (by omega) | (simp (disch := omega) only [rI, rIe, rA, rIA, rLA, rJA, rVI, rQI, rVA, rQA, upd_at,  rAI, rLI, rJI, nI_add, pk_sub, kc_0, kc_1, kc_2, kc_3, kc_4, kc_5, reduceIte, Nat.reduceEqDiff, Nat.add_zero, rI_hold, rI_hold, rL_hold, ha, hvl]; done)) ?_
  refine Bod.istn dc_312_47 (by rw [ml_312]; exact Nat.le_of_ble_eq_true rfl) ?_
  refine Bod.aldnG dc_312_48 (by repeat (first | exact h0 | exact sm_get_p1 | exact sm_get_p2e | refine sm_get_p1m (by decide) (by decide) ?_ | refine sm_get_p1n (by decide) rfl ?_ | refine sm_get_p2n (by decide) (by decide) rfl ?_)) ?_
  refine Bod.go dc_312_49 rfl ?_
  refine Bod.get dc_312_50 fr_312_190 (mk_61 _) rfl ?_
  refine Bod.eqI (nI j) (by first | assumption | rfl | exact congrArg nI (by omega) | (simp (disch := omega) only [rI, rIe, rA, rIA, rLA, rJA, rVI, rQI, rVA, rQA, upd_at,  rAI, rLI, rJI, nI_add, pk_sub, kc_0, kc_1, kc_2, kc_3, kc_4, kc_5, reduceIte, Nat.reduceEqDiff, Nat.add_zero, rI_hold, rI_hold, rL_hold, ha, hvl]; done)) ?_
  refine Bod.ic 1 (by decide) dc_312_53 ?_
  refine Bod.addN (j + 1) (by omega) dc_312_54 ?_
  refine Bod.put dc_312_55 fr_312_190 (mk_61 _) (Nat.le_of_ble_eq_true rfl) pf_14_15 (st_6115 _ _) (mu_I _ _ _) ?_
  refine Bod.aldnG dc_312_58 (by repeat (first | exact h0 | exact sm_get_p1 | exact sm_get_p2e | refine sm_get_p1m (by decide) (by decide) ?_ | refine sm_get_p1n (by decide) rfl ?_ | refine sm_get_p2n (by decide) (by decide) rfl ?_)) ?_
  refine Bod.ildnG dc_312_59 (by repeat (first | exact h1 | exact sm_get_p1 | exact sm_get_p2e | refine sm_get_p1m (by decide) (by decide) ?_ | refine sm_get_p1n (by decide) rfl ?_ | refine sm_get_p2n (by decide) (by decide) rfl ?_)) ?_
  refine Bod.virt (r := []) dc_312_60 kr_312_412 ⟨Or.inl rfl, ow_313, cl_14⟩ (by rw [np_313]; rfl) (by rw [np_313]; rfl) (ob_of (mk_61 _)) (Nat.le_of_ble_eq_true rfl) (hD0  ) ?_
  show Bod _ _ _ _ [_] _ _ _
  refine Bod.ifF dc_312_63 rfl (k1_ne_F (k_eq 0 0 rfl rfl (by omega))) ?_
  refine Bod.ic 0 (by decide) dc_312_66 ?_
  exact Bod.retZ dc_312_67 rt_312 (Or.inl rfl)
theorem re_trm_turn2 {d : Nat} {S Sf : cS} {lv : sm_L} {v : Option Value} {dp : Nat} {j : Nat} {vl : Nat} {S1 : cS} {S2 : cS} (h0 : sm_get lv 0 = some (.ref 61)) (h1 : sm_get lv 1 = some (.int (nI dp))) (hdp : dp ≤ 12) (ha : sI S 6115 = nI j) (hj : j < 6002) (hN0 : Ans (d + 8) 314 [.ref 61, .int (nI 42)] S (some (.int (nI 0))) S) (hN1 : Ans (d + 8) 314 [.ref 61, .int (nI 12079)] S (some (.int (nI 0))) S) (hY2 : Ans (d + 8) 314 [.ref 61, .int (nI 37)] S (some (.int (nI 1))) S) (hvl : sA S 68 j = nI vl) (hvM : vl < 100000) (hD1 : Ans (d + 8) 313 [.ref 61, .int (nI dp)] (wI 6115 (nI (j + 1)) S) (some (.int (nI 1))) S1) (hP : Ans (d + 8) 302 [.ref 61, .int (nI 8), .int (nI vl)] S1 none S2) (hB : ∀ lv1 : sm_L, sm_get lv1 0 = some (.ref 61) → sm_get lv1 1 = some (.int (nI dp)) → Bod (d + 8) 312 10 lv1 [] (wI 6131 (nI 0) S2) v Sf) : Bod (d + 8) 312 10 lv [] S v Sf := by
  refine Bod.aldnG dc_312_10 (by repeat (first | exact h0 | exact sm_get_p1 | exact sm_get_p2e | refine sm_get_p1m (by decide) (by decide) ?_ | refine sm_get_p1n (by decide) rfl ?_ | refine sm_get_p2n (by decide) (by decide) rfl ?_)) ?_
  refine Bod.bip 42 (by decide) dc_312_11 ?_
  refine Bod.virt (r := []) dc_312_13 kr_312_199 ⟨Or.inl rfl, ow_314, cl_14⟩ (by rw [np_314]; rfl) (by rw [np_314]; rfl) (ob_of (mk_61 _)) (Nat.le_of_ble_eq_true rfl) (hN0  ) ?_
  show Bod _ _ _ _ [_] _ _ _
  refine Bod.ifF dc_312_16 rfl (k1_ne_F (k_eq 0 0 rfl rfl (by omega))) ?_
  refine Bod.aldnG dc_312_19 (by repeat (first | exact h0 | exact sm_get_p1 | exact sm_get_p2e | refine sm_get_p1m (by decide) (by decide) ?_ | refine sm_get_p1n (by decide) rfl ?_ | refine sm_get_p2n (by decide) (by decide) rfl ?_)) ?_
  refine Bod.sip 12079 (by decide) dc_312_20 ?_
  refine Bod.virt (r := []) dc_312_23 kr_312_199 ⟨Or.inl rfl, ow_314, cl_14⟩ (by rw [np_314]; rfl) (by rw [np_314]; rfl) (ob_of (mk_61 _)) (Nat.le_of_ble_eq_true rfl) (hN1  ) ?_
  show Bod _ _ _ _ [_] _ _ _
  refine Bod.ifF dc_312_26 rfl (k1_ne_F (k_eq 0 0 rfl rfl (by omega))) ?_
  refine Bod.aldnG dc_312_29 (by repeat (first | exact h0 | exact sm_get_p1 | exact sm_get_p2e | refine sm_get_p1m (by decide) (by decide) ?_ | refine sm_get_p1n (by decide) rfl ?_ | refine sm_get_p2n (by decide) (by decide) rfl ?_)) ?_
  refine Bod.bip 37 (by decide) dc_312_30 ?_
  refine Bod.virt (r := []) dc_312_32 kr_312_199 ⟨Or.inl rfl, ow_314, cl_14⟩ (by rw [np_314]; rfl) (by rw [np_314]; rfl) (ob_of (mk_61 _)) (Nat.le_of_ble_eq_true rfl) (hY2  ) ?_
  show Bod _ _ _ _ [_] _ _ _
  refine Bod.ifF dc_312_35 rfl (k1_eq_F (k_ne 1 0 rfl rfl (by omega) (by omega) (by omega))) ?_
  refine Bod.aldnG dc_312_38 (by repeat (first | exact h0 | exact sm_get_p1 | exact sm_get_p2e | refine sm_get_p1m (by decide) (by decide) ?_ | refine sm_get_p1n (by decide) rfl ?_ | refine sm_get_p2n (by decide) (by decide) rfl ?_)) ?_
  refine Bod.get dc_312_39 fr_312_135 (mk_61 _) rfl ?_
  refine Bod.aldnG dc_312_42 (by repeat (first | exact h0 | exact sm_get_p1 | exact sm_get_p2e | refine sm_get_p1m (by decide) (by decide) ?_ | refine sm_get_p1n (by decide) rfl ?_ | refine sm_get_p2n (by decide) (by decide) rfl ?_)) ?_
  refine Bod.get dc_312_43 fr_312_190 (mk_61 _) rfl ?_
  refine Bod.eqI (nI j) (by first | assumption | rfl | exact congrArg nI (by omega) | (simp (disch := omega) only [rI, rIe, rA, rIA, rLA, rJA, rVI, rQI, rVA, rQA, upd_at,  rAI, rLI, rJI, nI_add, pk_sub, kc_0, kc_1, kc_2, kc_3, kc_4, kc_5, reduceIte, Nat.reduceEqDiff, Nat.add_zero, rI_hold, rI_hold, rL_hold, ha, hvl]; done)) ?_
  refine Bod.ialdN j rfl (by omega) (by omega) dc_312_46 (mk_68 _) ?_
  refine Bod.eqI (nI vl) (by first | assumption | rfl | exact congrArg nI (by omega) | (simp (disch := omega) only [rI, rIe, rA, rIA, rLA, rJA, rVI, rQI, rVA, rQA, upd_at,  rAI, rLI, rJI, nI_add, pk_sub, kc_0, kc_1, kc_2, kc_3, kc_4, kc_5, reduceIte, Nat.reduceEqDiff, Nat.add_zero, rI_hold, rI_hold, rL_hold, ha, hvl]; done)) ?_
  refine Bod.istn dc_312_47 (by rw [ml_312]; exact Nat.le_of_ble_eq_true rfl) ?_
  refine Bod.aldnG dc_312_48 (by repeat (first | exact h0 | exact sm_get_p1 | exact sm_get_p2e | refine sm_get_p1m (by decide) (by decide) ?_ | refine sm_get_p1n (by decide) rfl ?_ | refine sm_get_p2n (by decide) (by decide) rfl ?_)) ?_
  refine Bod.go dc_312_49 rfl ?_
  refine Bod.get dc_312_50 fr_312_190 (mk_61 _) rfl ?_
  refine Bod.eqI (nI j) (by first | assumption | rfl | exact congrArg nI (by omega) | (simp (disch := omega) only [rI, rIe, rA, rIA, rLA, rJA, rVI, rQI, rVA, rQA, upd_at,  rAI, rLI, rJI, nI_add, pk_sub, kc_0, kc_1, kc_2, kc_3, kc_4, kc_5, reduceIte, Nat.reduceEqDiff, Nat.add_zero, rI_hold, rI_hold, rL_hold, ha, hvl]; done)) ?_
  refine Bod.ic 1 (by decide) dc_312_53 ?_
  refine Bod.addN (j + 1) (by omega) dc_312_54 ?_
  refine Bod.put dc_312_55 fr_312_190 (mk_61 _) (Nat.le_of_ble_eq_true rfl) pf_14_15 (st_6115 _ _) (mu_I _ _ _) ?_
  refine Bod.aldnG dc_312_58 (by repeat (first | exact h0 | exact sm_get_p1 | exact sm_get_p2e | refine sm_get_p1m (by decide) (by decide) ?_ | refine sm_get_p1n (by decide) rfl ?_ | refine sm_get_p2n (by decide) (by decide) rfl ?_)) ?_
  refine Bod.ildnG dc_312_59 (by repeat (first | exact h1 | exact sm_get_p1 | exact sm_get_p2e | refine sm_get_p1m (by decide) (by decide) ?_ | refine sm_get_p1n (by decide) rfl ?_ | refine sm_get_p2n (by decide) (by decide) rfl ?_)) ?_
  refine Bod.virt (r := []) dc_312_60 kr_312_412 ⟨Or.inl rfl, ow_313, cl_14⟩ (by rw [np_313]; rfl) (by rw [np_313]; rfl) (ob_of (mk_61 _)) (Nat.le_of_ble_eq_true rfl) (hD1  ) ?_
  show Bod _ _ _ _ [_] _ _ _
  refine Bod.ifT dc_312_63 rfl (k1_ne_T (k_ne 1 0 rfl rfl (by omega) (by omega) (by omega))) ?_
  refine Bod.aldnG dc_312_68 (by repeat (first | exact h0 | exact sm_get_p1 | exact sm_get_p2e | refine sm_get_p1m (by decide) (by decide) ?_ | refine sm_get_p1n (by decide) rfl ?_ | refine sm_get_p2n (by decide) (by decide) rfl ?_)) ?_
  refine Bod.bip 8 (by decide) dc_312_69 ?_
  refine Bod.go dc_312_71 rfl ?_
  refine Bod.virt (r := []) dc_312_72 kr_312_216 ⟨Or.inl rfl, ow_302, cl_14⟩ (by rw [np_302]; rfl) (by rw [np_302]; rfl) (ob_of (mk_61 _)) (Nat.le_of_ble_eq_true rfl) (hP  ) ?_
  show Bod _ _ _ _ [] _ _ _
  refine Bod.aldnG dc_312_75 (by repeat (first | exact h0 | exact sm_get_p1 | exact sm_get_p2e | refine sm_get_p1m (by decide) (by decide) ?_ | refine sm_get_p1n (by decide) rfl ?_ | refine sm_get_p2n (by decide) (by decide) rfl ?_)) ?_
  refine Bod.ic 0 (by decide) dc_312_76 ?_
  refine Bod.put dc_312_77 fr_312_397 (mk_61 _) (Nat.le_of_ble_eq_true rfl) pf_14_31 (st_6131 _ _) (mu_I _ _ _) ?_
  refine Bod.go dc_312_80 rfl ?_
  exact hB _ (by repeat (first | exact h0 | exact sm_get_p1 | exact sm_get_p2e | refine sm_get_p1m (by decide) (by decide) ?_ | refine sm_get_p1n (by decide) rfl ?_ | refine sm_get_p2n (by decide) (by decide) rfl ?_)) (by repeat (first | exact h1 | exact sm_get_p1 | exact sm_get_p2e | refine sm_get_p1m (by decide) (by decide) ?_ | refine sm_get_p1n (by decide) rfl ?_ | refine sm_get_p2n (by decide) (by decide) rfl ?_))
